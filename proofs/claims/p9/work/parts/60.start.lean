set_option maxHeartbeats 4000000 in
set_option maxRecDepth 100000 in
/-- THE LAW, from its entry -/
theorem whole_start {p : Program} {e : Env} {s : State} {m : MethodId} {below : List Frame} {meth : Method} {c : Code} (l : Launch) {b L : Nat} {xs : Nat → Int32} (hL : L ≤ 2051) (C0 : lw_At p s m meth c b L xs) : W p l e room_1 s m #[Value.ref b] below meth c s.heap [] 0 0 (lw_Z below #[Value.ref b] s) (entryFrame m ([Value.ref b] : List Value).toArray 4) := by
  obtain ⟨hx, hb, hr, hml, hown, hts0, hX, hbl, hlocks, hgv⟩ := id C0
  have hts := fun w (h : w ∈ wsL_law) => hts0 w (wsL_law_in w h)
  have hF : CallFix p m c code 4 s #[Value.ref b] wsL_law RL := ⟨hx, hb, hml, hown, hts⟩
  have hA : ∀ q : Nat, s.heap.size ≤ q → (fun q : Nat => s.heap.size ≤ q) q := fun _ h => h
  have hbA : ¬ (fun q : Nat => s.heap.size ≤ q) b := Nat.not_le.mpr hbl
  obtain ⟨cc0, iS0, hKn0⟩ := u_known (C := RX1) (T := TX1) (N := 14) (n := 14) hts0 inX1 (hts _ km_1)
  obtain ⟨cc1, iS1, hKn1⟩ := u_known (C := RX0) (T := TX0) (N := 3) (n := 3) hts0 inX0 (hts _ km_194)
  obtain ⟨cc2, iS2, hKn2⟩ := u_known (C := RX2) (T := TX2) (N := 16) (n := 16) hts0 inX2 (hts _ km_4)
  obtain ⟨dC, dI, hKc⟩ : ∃ (dC : Nat → ClassId) (dI : Nat → Nat → Nat), ∀ (k : Nat) (q : vw_C), classes[k]? = some q → u_Kn s q.1 q.2.1 q.2.2 (dC k) (dI k) := by
    refine ⟨fun k => if k = 0 then cc0 else if k = 1 then cc1 else cc2, fun k => if k = 0 then iS0 else if k = 1 then iS1 else iS2, ?_⟩
    intro k q hq
    match k, hq with
    | 0, hq => cases hq; exact hKn0
    | 1, hq => cases hq; exact hKn1
    | 2, hq => cases hq; exact hKn2
    | k + 3, hq => simp [classes] at hq
  obtain ⟨cI, kI, pI, i1, i2, i3⟩ := Cond.arrayClass_spec (hts _ km_26)
  obtain ⟨cZ, kZ, pZ, z1, z2, z3⟩ := Cond.arrayClass_spec (hts _ km_48)
  have hao : va_AO "FloorQueue$Arc" s := va_AO.of (hts0 (.arrayOver (.object "FloorQueue$Arc")) (by decide +kernel))
  obtain ⟨pA, cA, kA, a1, -, a2, a3, a4⟩ := Cond.arrayOver_spec hao
  have hNw : fq_N s := ⟨va_Nw.of rfl (hts0 (.fieldLinkNest RX1 142 "FloorQueue$Arc" "end" "I" "FloorQueue") (by decide +kernel)), va_Nw.of rfl (hts0 (.fieldLinkNest RX1 145 "FloorQueue$Arc" "length" "I" "FloorQueue") (by decide +kernel)), va_Nw.of rfl (hts0 (.fieldLinkNest RX1 138 "FloorQueue$Arc" "earlier" "LFloorQueue$Arc;" "FloorQueue") (by decide +kernel)), va_Nw.of rfl (hts0 (.methodLinkNest RX1 99 yX0_init "FloorQueue") (by decide +kernel)), hao⟩
  have hK : va_K (dC, dI) classes (fq_ty cI cA cZ) s := by
    refine ⟨hKc, fun k q hq => ?_⟩
    match k, hq with
    | 0, hq => cases hq; exact ⟨fun n z => ⟨fun k h => (by cases h), kI, i2, pI, i3⟩, i1⟩
    | 1, hq => cases hq; exact ⟨fun n z => ⟨fun k h => (by cases h), kA, a2, pA, a3⟩, kA, pA, a2, a3, a1, a4⟩
    | 2, hq => cases hq; exact ⟨fun n z => ⟨fun k h => (by cases h), kZ, z2, pZ, z3⟩, z1⟩
    | k + 3, hq => simp [fq_ty] at hq
  have hS : va_S (fun q : Nat => s.heap.size ≤ q) s.heap s.heap [] := va_S.rf
  have hP : va_P (dC, dI) classes [] s.heap := fun k q h => by simp at h
  have hD : va_D (fun q : Nat => s.heap.size ≤ q) [] := ⟨fun i j p q h => by simp at h, fun k q h => by simp at h⟩
  have hl := lv_entry ([.ref b]) (n := 4) (Nat.le_of_ble_eq_true rfl)
  rw [lg_entry_eq]
  generalize (lg_sl ([.ref b]) ++ List.replicate (4 - (lg_sl ([.ref b])).length) Slot.unset).toArray = ls at hl ⊢
  have hl : lv_has ls 4 [(0, .ref b)] := hl
  have hL31 : L < 2 ^ 31 := by omega
  refine va_new (ci := 0) (fs := [.int 0, .int 0, .int 0, .null, .null, .null, .int 0, .int 0, .int 0, .int 0, .null, .int 0, .null, .null]) (C := RX1) (T := TX1) (N := 14) hx hb hts0 inX1 tyX1 tyX1_ok hown (hts _ km_0) (hts _ km_1) (hts _ km_2) hK hP hD hS hA rfl (fun j9 hj9 => by rcases (show j9 = 0 ∨ j9 = 1 ∨ j9 = 2 ∨ j9 = 3 ∨ j9 = 4 ∨ j9 = 5 ∨ j9 = 6 ∨ j9 = 7 ∨ j9 = 8 ∨ j9 = 9 ∨ j9 = 10 ∨ j9 = 11 ∨ j9 = 12 ∨ j9 = 13 by omega) with rfl | rfl | rfl | rfl | rfl | rfl | rfl | rfl | rfl | rfl | rfl | rfl | rfl | rfl <;> rfl) (by show 0 + 1 ≤ 600000; omega) (by show 0 + 14 ≤ 7302249; omega) dL_law_0 (fun qx H hP hD hS => ?_)
  have hP : va_P (dC, dI) classes [(qx, .inr (0, [.int 0, .int 0, .int 0, .null, .null, .null, .int 0, .int 0, .int 0, .int 0, .null, .int 0, .null, .null]))] H := hP
  have hD : va_D (fun q : Nat => s.heap.size ≤ q) [(qx, .inr (0, [.int 0, .int 0, .int 0, .null, .null, .null, .int 0, .int 0, .int 0, .int 0, .null, .int 0, .null, .null]))] := hD
  refine W.widen (k := 1) (n := 14) (by omega) (by omega) ?_
  refine lv_dup hx hb dL_law_3 rfl ?_
  refine lv_aload_n hx hb dL_law_4 rfl (lv_at hl 0 rfl) ?_
  refine lv_iconst (v := 0) hx hb dL_law_5 (by decide) ?_
  refine fx_cell (rest := [.ref qx, .ref qx]) (b := b) (N := L) (xs := xs) hx hb hF hX hbl hbA hS 0 (by decide) hL31 ⟨Nat.le_of_ble_eq_true rfl, Nat.le_of_ble_eq_true rfl⟩ hl.1 (Nat.le_of_ble_eq_true rfl) ⟨by show 1 ≤ 600000; omega, by show 14 ≤ 7302249; omega⟩ dL_law_6 ?_
  refine lv_aload_n hx hb dL_law_9 rfl (lv_at hl 0 rfl) ?_
  refine lv_iconst (v := 1) hx hb dL_law_10 (by decide) ?_
  refine fx_cell (rest := [.int (fqcell L xs 0), .ref qx, .ref qx]) (b := b) (N := L) (xs := xs) hx hb hF hX hbl hbA hS 1 (by decide) hL31 ⟨Nat.le_of_ble_eq_true rfl, Nat.le_of_ble_eq_true rfl⟩ hl.1 (Nat.le_of_ble_eq_true rfl) ⟨by show 1 ≤ 600000; omega, by show 14 ≤ 7302249; omega⟩ dL_law_11 ?_
  refine lv_aload_n hx hb dL_law_14 rfl (lv_at hl 0 rfl) ?_
  refine lv_iconst (v := 2) hx hb dL_law_15 (by decide) ?_
  refine fx_cell (rest := [.int (fqcell L xs 1), .int (fqcell L xs 0), .ref qx, .ref qx]) (b := b) (N := L) (xs := xs) hx hb hF hX hbl hbA hS 2 (by decide) hL31 ⟨Nat.le_of_ble_eq_true rfl, Nat.le_of_ble_eq_true rfl⟩ hl.1 (Nat.le_of_ble_eq_true rfl) ⟨by show 1 ≤ 600000; omega, by show 14 ≤ 7302249; omega⟩ dL_law_16 ?_
  refine fx_Iv (rest := [.ref qx]) (sp_init l dC dI (fun q : Nat => s.heap.size ≤ q) cI cA cZ qx (fqcell L xs 0) (fqcell L xs 1) (fqcell L xs 2)) hF (cw_RL_15 hts ⟨Nat.le_of_ble_eq_true rfl, Nat.le_of_ble_eq_true rfl⟩) hA hS hP hK hD hNw rfl hl.1 rfl (Nat.le_of_ble_eq_true rfl) dL_law_19 ⟨by show 1 + 6 ≤ 600000; omega, by show 14 + 232 ≤ 7302249; omega⟩ (fun z H locs hz hP hD hS => ?_)
  rw [← hz]
  have hP : va_P (dC, dI) classes (wX z cI cA (fqlim (fqcell L xs 0) 40) (nI (fqlim (fqcell L xs 1) 300)) (fqpos (fqcell L xs 2)) 0 0 0 0 0 (fun _ => 0) (fqfill (fqlim (fqcell L xs 0) 40) (-1) (fun _ => 0)) (fun _ => 0) (fqfill (fqlim (fqcell L xs 0) 40) (-1) (fun _ => 0)) (fqfill (fqlim (fqcell L xs 0) 40) (-1) (fun _ => 0)) (fun _ => none)) H := hP
  have hD : va_D (fun q : Nat => s.heap.size ≤ q) (wX z cI cA (fqlim (fqcell L xs 0) 40) (nI (fqlim (fqcell L xs 1) 300)) (fqpos (fqcell L xs 2)) 0 0 0 0 0 (fun _ => 0) (fqfill (fqlim (fqcell L xs 0) 40) (-1) (fun _ => 0)) (fun _ => 0) (fqfill (fqlim (fqcell L xs 0) 40) (-1) (fun _ => 0)) (fqfill (fqlim (fqcell L xs 0) 40) (-1) (fun _ => 0)) (fun _ => none)) := hD
  refine lv_astore_n (lv' := [(1, .ref (z 0)), (0, .ref b)]) hx hb dL_law_22 rfl hl (by decide) rfl (fun ls hl => ?_)
  refine W.widen (k := 7) (n := 246) (by omega) (by omega) ?_
  refine va_new (ci := 2) (fs := [.int 0, .int 0, .int 0, .null, .int 0, .int 0, .int 0, .int 0, .null, .null, .null, .int 0, .null, .null, .null, .null]) (C := RX2) (T := TX2) (N := 16) hx hb hts0 inX2 tyX2 tyX2_ok hown (hts _ km_3) (hts _ km_4) (hts _ km_5) hK hP hD hS hA rfl (fun j9 hj9 => by rcases (show j9 = 0 ∨ j9 = 1 ∨ j9 = 2 ∨ j9 = 3 ∨ j9 = 4 ∨ j9 = 5 ∨ j9 = 6 ∨ j9 = 7 ∨ j9 = 8 ∨ j9 = 9 ∨ j9 = 10 ∨ j9 = 11 ∨ j9 = 12 ∨ j9 = 13 ∨ j9 = 14 ∨ j9 = 15 by omega) with rfl | rfl | rfl | rfl | rfl | rfl | rfl | rfl | rfl | rfl | rfl | rfl | rfl | rfl | rfl | rfl <;> rfl) (by show 7 + 1 ≤ 600000; omega) (by show 246 + 16 ≤ 7302249; omega) dL_law_23 (fun qm H hP hD hS => ?_)
  have hP : va_P (dC, dI) classes [(xc0 z (fqlim (fqcell L xs 0) 40) (nI (fqlim (fqcell L xs 1) 300)) (fqpos (fqcell L xs 2)) 0 0 0 0 0), (xcI z 1 cI (fqlim (fqcell L xs 0) 40) (fun _ => 0)), (xcI z 2 cI (fqlim (fqcell L xs 0) 40) (fqfill (fqlim (fqcell L xs 0) 40) (-1) (fun _ => 0))), (xcI z 3 cI 32 (fun _ => 0)), (xcQ z 4 cA (fqlim (fqcell L xs 0) 40) (fun _ => none)), (xcI z 5 cI (fqlim (fqcell L xs 0) 40) (fqfill (fqlim (fqcell L xs 0) 40) (-1) (fun _ => 0))), (xcI z 6 cI (fqlim (fqcell L xs 0) 40) (fqfill (fqlim (fqcell L xs 0) 40) (-1) (fun _ => 0))), (qm, .inr (2, [.int 0, .int 0, .int 0, .null, .int 0, .int 0, .int 0, .int 0, .null, .null, .null, .int 0, .null, .null, .null, .null]))] H := hP
  have hD : va_D (fun q : Nat => s.heap.size ≤ q) [(xc0 z (fqlim (fqcell L xs 0) 40) (nI (fqlim (fqcell L xs 1) 300)) (fqpos (fqcell L xs 2)) 0 0 0 0 0), (xcI z 1 cI (fqlim (fqcell L xs 0) 40) (fun _ => 0)), (xcI z 2 cI (fqlim (fqcell L xs 0) 40) (fqfill (fqlim (fqcell L xs 0) 40) (-1) (fun _ => 0))), (xcI z 3 cI 32 (fun _ => 0)), (xcQ z 4 cA (fqlim (fqcell L xs 0) 40) (fun _ => none)), (xcI z 5 cI (fqlim (fqcell L xs 0) 40) (fqfill (fqlim (fqcell L xs 0) 40) (-1) (fun _ => 0))), (xcI z 6 cI (fqlim (fqcell L xs 0) 40) (fqfill (fqlim (fqcell L xs 0) 40) (-1) (fun _ => 0))), (qm, .inr (2, [.int 0, .int 0, .int 0, .null, .int 0, .int 0, .int 0, .int 0, .null, .null, .null, .int 0, .null, .null, .null, .null]))] := hD
  refine W.widen (k := 8) (n := 262) (by omega) (by omega) ?_
  refine lv_dup hx hb dL_law_26 rfl ?_
  refine lv_aload_n hx hb dL_law_27 rfl (lv_at hl 1 rfl) ?_
  refine lv_iconst (v := 0) hx hb dL_law_28 (by decide) ?_
  refine fx_cell (rest := [.ref qm, .ref qm]) (b := b) (N := L) (xs := xs) hx hb hF hX hbl hbA hS 0 (by decide) hL31 ⟨Nat.le_of_ble_eq_true rfl, Nat.le_of_ble_eq_true rfl⟩ hl.1 (Nat.le_of_ble_eq_true rfl) ⟨by show 8 ≤ 600000; omega, by show 262 ≤ 7302249; omega⟩ dL_law_29 ?_
  refine lv_aload_n hx hb dL_law_32 rfl (lv_at hl 1 rfl) ?_
  refine lv_iconst (v := 1) hx hb dL_law_33 (by decide) ?_
  refine fx_cell (rest := [.int (fqcell L xs 0), .ref qm, .ref qm]) (b := b) (N := L) (xs := xs) hx hb hF hX hbl hbA hS 1 (by decide) hL31 ⟨Nat.le_of_ble_eq_true rfl, Nat.le_of_ble_eq_true rfl⟩ hl.1 (Nat.le_of_ble_eq_true rfl) ⟨by show 8 ≤ 600000; omega, by show 262 ≤ 7302249; omega⟩ dL_law_34 ?_
  refine lv_aload_n hx hb dL_law_37 rfl (lv_at hl 1 rfl) ?_
  refine lv_iconst (v := 2) hx hb dL_law_38 (by decide) ?_
  refine fx_cell (rest := [.int (fqcell L xs 1), .int (fqcell L xs 0), .ref qm, .ref qm]) (b := b) (N := L) (xs := xs) hx hb hF hX hbl hbA hS 2 (by decide) hL31 ⟨Nat.le_of_ble_eq_true rfl, Nat.le_of_ble_eq_true rfl⟩ hl.1 (Nat.le_of_ble_eq_true rfl) ⟨by show 8 ≤ 600000; omega, by show 262 ≤ 7302249; omega⟩ dL_law_39 ?_
  refine fx_Iv (rest := [.ref qm]) (sq_init l dC dI (fun q : Nat => s.heap.size ≤ q) cI cA cZ (xc0 z (fqlim (fqcell L xs 0) 40) (nI (fqlim (fqcell L xs 1) 300)) (fqpos (fqcell L xs 2)) 0 0 0 0 0) (xcI z 1 cI (fqlim (fqcell L xs 0) 40) (fun _ => 0)) (xcI z 2 cI (fqlim (fqcell L xs 0) 40) (fqfill (fqlim (fqcell L xs 0) 40) (-1) (fun _ => 0))) (xcI z 3 cI 32 (fun _ => 0)) (xcQ z 4 cA (fqlim (fqcell L xs 0) 40) (fun _ => none)) (xcI z 5 cI (fqlim (fqcell L xs 0) 40) (fqfill (fqlim (fqcell L xs 0) 40) (-1) (fun _ => 0))) (xcI z 6 cI (fqlim (fqcell L xs 0) 40) (fqfill (fqlim (fqcell L xs 0) 40) (-1) (fun _ => 0))) qm (fqcell L xs 0) (fqcell L xs 1) (fqcell L xs 2)) hF (cw_RL_20 hts ⟨Nat.le_of_ble_eq_true rfl, Nat.le_of_ble_eq_true rfl⟩) hA hS hP hK hD hNw rfl hl.1 rfl (Nat.le_of_ble_eq_true rfl) dL_law_42 ⟨by show 8 + 8 ≤ 600000; omega, by show 262 + 1100 ≤ 7302249; omega⟩ (fun y H locs hy hP hD hS => ?_)
  rw [← hy]
  refine lv_astore_n (lv' := [(2, .ref (y 0)), (1, .ref (z 0)), (0, .ref b)]) hx hb dL_law_45 rfl hl (by decide) rfl (fun ls hl => ?_)
  refine lv_iconst (v := 3) hx hb dL_law_46 (by decide) ?_
  refine lv_istore_n (lv' := [(3, .int (nI 3)), (2, .ref (y 0)), (1, .ref (z 0)), (0, .ref b)]) hx hb dL_law_47 rfl hl (by decide) rfl (fun ls hl => ?_)
  exact law_loop l hL C0 dC dI cI cA cZ hK hNw z y (fqlim (fqcell L xs 0) 40) (fqlim (fqcell L xs 1) 300) (fqpos (fqcell L xs 2)) (fqlim_le _ (by decide) (by decide)).2 (fqlim_le _ (by decide) (by decide)).2 (L + 1) 3 0 0 0 0 0 (fun _ => 0) (fqfill (fqlim (fqcell L xs 0) 40) (-1) (fun _ => 0)) (fun _ => 0) (fqfill (fqlim (fqcell L xs 0) 40) (-1) (fun _ => 0)) (fqfill (fqlim (fqcell L xs 0) 40) (-1) (fun _ => 0)) (fun _ => none) [] (fun _ => []) 0 0 0 0 (fqfill 40 (-1) (fun _ => 0)) (fun _ => 0) (fun _ => 0) (fun _ => 0) (fun _ => 0) (fun _ => 0) (fun _ => 0) (fun _ => 0) H locs 16 1362 ls (by omega) (by omega) (li_start (fqlim_le _ (by decide) (by decide)).2 (fqlim_le _ (by decide) (by decide)).1) (by omega) (by omega) hP hD hS (lv_sub hl [3, 2, 1, 0] rfl)
