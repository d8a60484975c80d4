theorem cw_RX1_50 {R : Room} {s : State} {args : Array Value} {rm : Room} (hts : ∀ w ∈ wsL_law, w.before args s = true) (hR : rm.frames + 1 ≤ R.frames ∧ 8 + (4 + 11) + rm.locals ≤ R.locals) : CallB R s args RX1 50 yJ7_fill_53178 cJ7_fill_53178 4 none (Cond.code yJ7_fill_53178 cJ7_fill_53178 4 none :: wsL_law) rm rm.cells rm.slots 2 ∧ (Cond.static yJ7_fill_53178).before args s = true := va_cwS 2 hts (km_app (km_three km_34 km_35 km_36) (km_in km_37)) rfl rfl rfl (by decide +kernel) hR
set_option maxHeartbeats 4000000 in
set_option maxRecDepth 100000 in
theorem sp_floor (l : Launch) (dC : Nat → ClassId) (dI : Nat → Nat → Nat) (A : Nat → Prop) (cI cA cZ : ClassId) (rest : va_W) (z : Nat → Nat) (n : Nat) (hn : n ≤ 40) (ar gl : Int32) (fl pr pg ky ac : Int32) (K B M Ds Bf : Nat → Int32) (L : Nat → Option Nat)  : Met l yX1_floor (Cond.code yX1_floor cX1_floor 1 (some .int) :: wsL_law) ({ frames := 0, cells := 0, slots := 0, locals := 0 } : Room) (va_Pc [.ref (z 0)] (fx_Pre (dC, dI) classes (fq_ty cI cA cZ) A (wX z cI cA n ar gl fl pr pg ky ac K B M Ds Bf L ++ rest))) (vp_Si (fun r => r = fl)) 0 0 (fun _ => False) := by
  refine Met.ofW (cc := cX1_floor) (maxL := 1) (ret := (some .int)) (by decide) rfl ?_
  intro p e s m args below meth c s₁ B0 hml hv
  obtain ⟨rfl, hA, hP, hK, hD, hN⟩ := hv
  have hx := B0.exec
  have hb := B0.bytes
  have hr := B0.returns
  have hts0 := atoms_spec (ws := (Cond.code yX1_floor cX1_floor 1 (some .int) :: wsL_law)) B0.pre
  have hts := fun w (h : w ∈ wsL_law) => hts0 w (List.mem_cons_of_mem _ h)
  have hown : s.vm.findClass RX1 = some m.cls := findClass_of_methodNamed B0.named
  have hlocks := B0.notSynchronized
  have hF : CallFix p m c cX1_floor 1 s ([.ref (z 0)] : List Value).toArray wsL_law RX1 := ⟨hx, hb, hml, hown, hts⟩
  have hS : va_S A s.heap s.heap [] := va_S.rf
  have hl := lv_entry ([.ref (z 0)]) (n := 1) (Nat.le_of_ble_eq_true rfl)
  rw [lg_entry_eq]
  generalize (lg_sl ([.ref (z 0)]) ++ List.replicate (1 - (lg_sl ([.ref (z 0)])).length) Slot.unset).toArray = ls at hl ⊢
  have hl : lv_has ls 1 [(0, .ref (z 0))] := hl
  have hn31 : n < 2 ^ 31 := by omega
  refine lv_aload_n hx hb dX1_floor_0 rfl (lv_at hl 0 rfl) ?_
  refine va_get (D := (dC, dI)) (ci := 0) (v := .int fl) (C := RX1) (T := TX1) (N := 14) hx hb hts inlX1 hown hK hP 0 rfl rfl 6 (by decide) (hts _ km_63) (fun _ h9 => h9) rfl dX1_floor_1 ?_
  exact fx_sret hx hb hr hlocks dX1_floor_4 (rfl)
set_option maxHeartbeats 4000000 in
set_option maxRecDepth 100000 in
theorem sp_size (l : Launch) (dC : Nat → ClassId) (dI : Nat → Nat → Nat) (A : Nat → Prop) (cI cA cZ : ClassId) (rest : va_W) (z : Nat → Nat) (n : Nat) (hn : n ≤ 40) (ar gl : Int32) (fl pr pg ky ac : Int32) (K B M Ds Bf : Nat → Int32) (L : Nat → Option Nat)  : Met l yX1_size (Cond.code yX1_size cX1_size 1 (some .int) :: wsL_law) ({ frames := 0, cells := 0, slots := 0, locals := 0 } : Room) (va_Pc [.ref (z 0)] (fx_Pre (dC, dI) classes (fq_ty cI cA cZ) A (wX z cI cA n ar gl fl pr pg ky ac K B M Ds Bf L ++ rest))) (vp_Si (fun r => r = pr)) 0 0 (fun _ => False) := by
  refine Met.ofW (cc := cX1_size) (maxL := 1) (ret := (some .int)) (by decide) rfl ?_
  intro p e s m args below meth c s₁ B0 hml hv
  obtain ⟨rfl, hA, hP, hK, hD, hN⟩ := hv
  have hx := B0.exec
  have hb := B0.bytes
  have hr := B0.returns
  have hts0 := atoms_spec (ws := (Cond.code yX1_size cX1_size 1 (some .int) :: wsL_law)) B0.pre
  have hts := fun w (h : w ∈ wsL_law) => hts0 w (List.mem_cons_of_mem _ h)
  have hown : s.vm.findClass RX1 = some m.cls := findClass_of_methodNamed B0.named
  have hlocks := B0.notSynchronized
  have hF : CallFix p m c cX1_size 1 s ([.ref (z 0)] : List Value).toArray wsL_law RX1 := ⟨hx, hb, hml, hown, hts⟩
  have hS : va_S A s.heap s.heap [] := va_S.rf
  have hl := lv_entry ([.ref (z 0)]) (n := 1) (Nat.le_of_ble_eq_true rfl)
  rw [lg_entry_eq]
  generalize (lg_sl ([.ref (z 0)]) ++ List.replicate (1 - (lg_sl ([.ref (z 0)])).length) Slot.unset).toArray = ls at hl ⊢
  have hl : lv_has ls 1 [(0, .ref (z 0))] := hl
  have hn31 : n < 2 ^ 31 := by omega
  refine lv_aload_n hx hb dX1_size_0 rfl (lv_at hl 0 rfl) ?_
  refine va_get (D := (dC, dI)) (ci := 0) (v := .int pr) (C := RX1) (T := TX1) (N := 14) hx hb hts inlX1 hown hK hP 0 rfl rfl 7 (by decide) (hts _ km_64) (fun _ h9 => h9) rfl dX1_size_1 ?_
  exact fx_sret hx hb hr hlocks dX1_size_4 (rfl)
set_option maxHeartbeats 4000000 in
set_option maxRecDepth 100000 in
theorem sp_placed (l : Launch) (dC : Nat → ClassId) (dI : Nat → Nat → Nat) (A : Nat → Prop) (cI cA cZ : ClassId) (rest : va_W) (z : Nat → Nat) (n : Nat) (hn : n ≤ 40) (ar gl : Int32) (fl pr pg ky ac : Int32) (K B M Ds Bf : Nat → Int32) (L : Nat → Option Nat)  : Met l yX1_placed (Cond.code yX1_placed cX1_placed 1 (some .int) :: wsL_law) ({ frames := 0, cells := 0, slots := 0, locals := 0 } : Room) (va_Pc [.ref (z 0)] (fx_Pre (dC, dI) classes (fq_ty cI cA cZ) A (wX z cI cA n ar gl fl pr pg ky ac K B M Ds Bf L ++ rest))) (vp_Si (fun r => r = pg)) 0 0 (fun _ => False) := by
  refine Met.ofW (cc := cX1_placed) (maxL := 1) (ret := (some .int)) (by decide) rfl ?_
  intro p e s m args below meth c s₁ B0 hml hv
  obtain ⟨rfl, hA, hP, hK, hD, hN⟩ := hv
  have hx := B0.exec
  have hb := B0.bytes
  have hr := B0.returns
  have hts0 := atoms_spec (ws := (Cond.code yX1_placed cX1_placed 1 (some .int) :: wsL_law)) B0.pre
  have hts := fun w (h : w ∈ wsL_law) => hts0 w (List.mem_cons_of_mem _ h)
  have hown : s.vm.findClass RX1 = some m.cls := findClass_of_methodNamed B0.named
  have hlocks := B0.notSynchronized
  have hF : CallFix p m c cX1_placed 1 s ([.ref (z 0)] : List Value).toArray wsL_law RX1 := ⟨hx, hb, hml, hown, hts⟩
  have hS : va_S A s.heap s.heap [] := va_S.rf
  have hl := lv_entry ([.ref (z 0)]) (n := 1) (Nat.le_of_ble_eq_true rfl)
  rw [lg_entry_eq]
  generalize (lg_sl ([.ref (z 0)]) ++ List.replicate (1 - (lg_sl ([.ref (z 0)])).length) Slot.unset).toArray = ls at hl ⊢
  have hl : lv_has ls 1 [(0, .ref (z 0))] := hl
  have hn31 : n < 2 ^ 31 := by omega
  refine lv_aload_n hx hb dX1_placed_0 rfl (lv_at hl 0 rfl) ?_
  refine va_get (D := (dC, dI)) (ci := 0) (v := .int pg) (C := RX1) (T := TX1) (N := 14) hx hb hts inlX1 hown hK hP 0 rfl rfl 8 (by decide) (hts _ km_78) (fun _ h9 => h9) rfl dX1_placed_1 ?_
  exact fx_sret hx hb hr hlocks dX1_placed_4 (rfl)
set_option maxHeartbeats 4000000 in
set_option maxRecDepth 100000 in
theorem sp_key (l : Launch) (dC : Nat → ClassId) (dI : Nat → Nat → Nat) (A : Nat → Prop) (cI cA cZ : ClassId) (rest : va_W) (z : Nat → Nat) (n : Nat) (hn : n ≤ 40) (ar gl : Int32) (fl pr pg ky ac : Int32) (K B M Ds Bf : Nat → Int32) (L : Nat → Option Nat) (x : Int32)  : Met l yX1_key (Cond.code yX1_key cX1_key 2 (some .int) :: wsL_law) ({ frames := 2, cells := 0, slots := 0, locals := 42 } : Room) (va_Pc [.ref (z 0), .int x] (fx_Pre (dC, dI) classes (fq_ty cI cA cZ) A (wX z cI cA n ar gl fl pr pg ky ac K B M Ds Bf L ++ rest))) (vp_Si (fun r => r = fqget n K (fun j => decide (B j ≠ -1)) x)) 0 0 (fun _ => False) := by
  refine Met.ofW (cc := cX1_key) (maxL := 2) (ret := (some .int)) (by decide) rfl ?_
  intro p e s m args below meth c s₁ B0 hml hv
  obtain ⟨rfl, hA, hP, hK, hD, hN⟩ := hv
  have hx := B0.exec
  have hb := B0.bytes
  have hr := B0.returns
  have hts0 := atoms_spec (ws := (Cond.code yX1_key cX1_key 2 (some .int) :: wsL_law)) B0.pre
  have hts := fun w (h : w ∈ wsL_law) => hts0 w (List.mem_cons_of_mem _ h)
  have hown : s.vm.findClass RX1 = some m.cls := findClass_of_methodNamed B0.named
  have hlocks := B0.notSynchronized
  have hF : CallFix p m c cX1_key 2 s ([.ref (z 0), .int x] : List Value).toArray wsL_law RX1 := ⟨hx, hb, hml, hown, hts⟩
  have hS : va_S A s.heap s.heap [] := va_S.rf
  have hl := lv_entry ([.ref (z 0), .int x]) (n := 2) (Nat.le_of_ble_eq_true rfl)
  rw [lg_entry_eq]
  generalize (lg_sl ([.ref (z 0), .int x]) ++ List.replicate (2 - (lg_sl ([.ref (z 0), .int x])).length) Slot.unset).toArray = ls at hl ⊢
  have hl : lv_has ls 2 [(0, .ref (z 0)), (1, .int x)] := hl
  have hn31 : n < 2 ^ 31 := by omega
  refine lv_aload_n hx hb dX1_key_0 rfl (lv_at hl 0 rfl) ?_
  refine lv_iload_n hx hb dX1_key_1 rfl (lv_at hl 1 rfl) ?_
  refine fx_Vs (rest := []) (sp_isThere l dC dI A cI cA cZ rest z n hn ar gl fl pr pg ky ac K B M Ds Bf L x) hF (cw_RX1_60 hts ⟨Nat.le_of_ble_eq_true rfl, Nat.le_of_ble_eq_true rfl⟩) hA hS hP hK hD hN 0 0 rfl rfl rfl hl.1 rfl (Nat.le_of_ble_eq_true rfl) dX1_key_2 ⟨Nat.le_of_ble_eq_true rfl, Nat.le_of_ble_eq_true rfl⟩ (fun r h => ?_)
  rcases h with ⟨rfl, ⟨j, hj, rfl, h8⟩⟩ | ⟨rfl, h⟩
  · refine lv_if_eq (tgt := 17) hx hb dX1_key_5 (by decide) (fun h9 => absurd h9 (by decide)) (fun _ => ?_)
    refine lv_aload_n hx hb dX1_key_8 rfl (lv_at hl 0 rfl) ?_
    refine va_get (D := (dC, dI)) (ci := 0) (v := .ref (z 1)) (C := RX1) (T := TX1) (N := 14) hx hb hts inlX1 hown hK hP 0 rfl rfl 3 (by decide) (hts _ km_27) (fun _ h9 => h9) rfl dX1_key_9 ?_
    refine lv_iload_n hx hb dX1_key_12 rfl (lv_at hl 1 rfl) ?_
    refine fx_ald hx hb hK hP 1 0 rfl rfl j rfl hj hn31 dX1_key_13 ?_
    refine lv_goto (tgt := 18) hx hb dX1_key_14 (by decide) ?_
    exact fx_sret hx hb hr hlocks dX1_key_18 (by unfold fqget; rw [fqat_some hj hn31]; dsimp only; rw [if_pos (by simp [h8])])
  · refine lv_if_eq (tgt := 17) hx hb dX1_key_5 (by decide) (fun _ => ?_) (fun h9 => absurd h9 (by decide))
    refine lv_iconst (v := (-1)) hx hb dX1_key_17 (by decide) ?_
    exact fx_sret hx hb hr hlocks dX1_key_18 (by unfold fqget; cases e : fqat n x with | none => rfl | some j => exact (if_neg (by simp [h j (fqat_lt e).1 (fqat_lt e).2])).symm)
set_option maxHeartbeats 4000000 in
set_option maxRecDepth 100000 in
theorem sp_bucket (l : Launch) (dC : Nat → ClassId) (dI : Nat → Nat → Nat) (A : Nat → Prop) (cI cA cZ : ClassId) (rest : va_W) (z : Nat → Nat) (n : Nat) (hn : n ≤ 40) (ar gl : Int32) (fl pr pg ky ac : Int32) (K B M Ds Bf : Nat → Int32) (L : Nat → Option Nat) (x : Int32)  : Met l yX1_bucket (Cond.code yX1_bucket cX1_bucket 2 (some .int) :: wsL_law) ({ frames := 2, cells := 0, slots := 0, locals := 42 } : Room) (va_Pc [.ref (z 0), .int x] (fx_Pre (dC, dI) classes (fq_ty cI cA cZ) A (wX z cI cA n ar gl fl pr pg ky ac K B M Ds Bf L ++ rest))) (vp_Si (fun r => r = fqget n B (fun j => decide (B j ≠ -1)) x)) 0 0 (fun _ => False) := by
  refine Met.ofW (cc := cX1_bucket) (maxL := 2) (ret := (some .int)) (by decide) rfl ?_
  intro p e s m args below meth c s₁ B0 hml hv
  obtain ⟨rfl, hA, hP, hK, hD, hN⟩ := hv
  have hx := B0.exec
  have hb := B0.bytes
  have hr := B0.returns
  have hts0 := atoms_spec (ws := (Cond.code yX1_bucket cX1_bucket 2 (some .int) :: wsL_law)) B0.pre
  have hts := fun w (h : w ∈ wsL_law) => hts0 w (List.mem_cons_of_mem _ h)
  have hown : s.vm.findClass RX1 = some m.cls := findClass_of_methodNamed B0.named
  have hlocks := B0.notSynchronized
  have hF : CallFix p m c cX1_bucket 2 s ([.ref (z 0), .int x] : List Value).toArray wsL_law RX1 := ⟨hx, hb, hml, hown, hts⟩
  have hS : va_S A s.heap s.heap [] := va_S.rf
  have hl := lv_entry ([.ref (z 0), .int x]) (n := 2) (Nat.le_of_ble_eq_true rfl)
  rw [lg_entry_eq]
  generalize (lg_sl ([.ref (z 0), .int x]) ++ List.replicate (2 - (lg_sl ([.ref (z 0), .int x])).length) Slot.unset).toArray = ls at hl ⊢
  have hl : lv_has ls 2 [(0, .ref (z 0)), (1, .int x)] := hl
  have hn31 : n < 2 ^ 31 := by omega
  refine lv_aload_n hx hb dX1_bucket_0 rfl (lv_at hl 0 rfl) ?_
  refine lv_iload_n hx hb dX1_bucket_1 rfl (lv_at hl 1 rfl) ?_
  refine fx_Vs (rest := []) (sp_isThere l dC dI A cI cA cZ rest z n hn ar gl fl pr pg ky ac K B M Ds Bf L x) hF (cw_RX1_60 hts ⟨Nat.le_of_ble_eq_true rfl, Nat.le_of_ble_eq_true rfl⟩) hA hS hP hK hD hN 0 0 rfl rfl rfl hl.1 rfl (Nat.le_of_ble_eq_true rfl) dX1_bucket_2 ⟨Nat.le_of_ble_eq_true rfl, Nat.le_of_ble_eq_true rfl⟩ (fun r h => ?_)
  rcases h with ⟨rfl, ⟨j, hj, rfl, h8⟩⟩ | ⟨rfl, h⟩
  · refine lv_if_eq (tgt := 17) hx hb dX1_bucket_5 (by decide) (fun h9 => absurd h9 (by decide)) (fun _ => ?_)
    refine lv_aload_n hx hb dX1_bucket_8 rfl (lv_at hl 0 rfl) ?_
    refine va_get (D := (dC, dI)) (ci := 0) (v := .ref (z 2)) (C := RX1) (T := TX1) (N := 14) hx hb hts inlX1 hown hK hP 0 rfl rfl 4 (by decide) (hts _ km_28) (fun _ h9 => h9) rfl dX1_bucket_9 ?_
    refine lv_iload_n hx hb dX1_bucket_12 rfl (lv_at hl 1 rfl) ?_
    refine fx_ald hx hb hK hP 2 0 rfl rfl j rfl hj hn31 dX1_bucket_13 ?_
    refine lv_goto (tgt := 18) hx hb dX1_bucket_14 (by decide) ?_
    exact fx_sret hx hb hr hlocks dX1_bucket_18 (by unfold fqget; rw [fqat_some hj hn31]; dsimp only; rw [if_pos (by simp [h8])])
  · refine lv_if_eq (tgt := 17) hx hb dX1_bucket_5 (by decide) (fun _ => ?_) (fun h9 => absurd h9 (by decide))
    refine lv_iconst (v := (-1)) hx hb dX1_bucket_17 (by decide) ?_
    exact fx_sret hx hb hr hlocks dX1_bucket_18 (by unfold fqget; cases e : fqat n x with | none => rfl | some j => exact (if_neg (by simp [h j (fqat_lt e).1 (fqat_lt e).2])).symm)
set_option maxHeartbeats 4000000 in
set_option maxRecDepth 100000 in
theorem sp_distance (l : Launch) (dC : Nat → ClassId) (dI : Nat → Nat → Nat) (A : Nat → Prop) (cI cA cZ : ClassId) (rest : va_W) (z : Nat → Nat) (n : Nat) (hn : n ≤ 40) (ar gl : Int32) (fl pr pg ky ac : Int32) (K B M Ds Bf : Nat → Int32) (L : Nat → Option Nat) (x : Int32)  : Met l yX1_distance (Cond.code yX1_distance cX1_distance 2 (some .int) :: wsL_law) ({ frames := 1, cells := 0, slots := 0, locals := 21 } : Room) (va_Pc [.ref (z 0), .int x] (fx_Pre (dC, dI) classes (fq_ty cI cA cZ) A (wX z cI cA n ar gl fl pr pg ky ac K B M Ds Bf L ++ rest))) (vp_Si (fun r => r = fqget n Ds (fun _ => true) x)) 0 0 (fun _ => False) := by
  refine Met.ofW (cc := cX1_distance) (maxL := 2) (ret := (some .int)) (by decide) rfl ?_
  intro p e s m args below meth c s₁ B0 hml hv
  obtain ⟨rfl, hA, hP, hK, hD, hN⟩ := hv
  have hx := B0.exec
  have hb := B0.bytes
  have hr := B0.returns
  have hts0 := atoms_spec (ws := (Cond.code yX1_distance cX1_distance 2 (some .int) :: wsL_law)) B0.pre
  have hts := fun w (h : w ∈ wsL_law) => hts0 w (List.mem_cons_of_mem _ h)
  have hown : s.vm.findClass RX1 = some m.cls := findClass_of_methodNamed B0.named
  have hlocks := B0.notSynchronized
  have hF : CallFix p m c cX1_distance 2 s ([.ref (z 0), .int x] : List Value).toArray wsL_law RX1 := ⟨hx, hb, hml, hown, hts⟩
  have hS : va_S A s.heap s.heap [] := va_S.rf
  have hl := lv_entry ([.ref (z 0), .int x]) (n := 2) (Nat.le_of_ble_eq_true rfl)
  rw [lg_entry_eq]
  generalize (lg_sl ([.ref (z 0), .int x]) ++ List.replicate (2 - (lg_sl ([.ref (z 0), .int x])).length) Slot.unset).toArray = ls at hl ⊢
  have hl : lv_has ls 2 [(0, .ref (z 0)), (1, .int x)] := hl
  have hn31 : n < 2 ^ 31 := by omega
  refine lv_aload_n hx hb dX1_distance_0 rfl (lv_at hl 0 rfl) ?_
  refine lv_iload_n hx hb dX1_distance_1 rfl (lv_at hl 1 rfl) ?_
  refine fx_Vs (rest := []) (sp_isItem l dC dI A cI cA cZ rest z n hn ar gl fl pr pg ky ac K B M Ds Bf L x) hF (cw_RX1_56 hts ⟨Nat.le_of_ble_eq_true rfl, Nat.le_of_ble_eq_true rfl⟩) hA hS hP hK hD hN 0 0 rfl rfl rfl hl.1 rfl (Nat.le_of_ble_eq_true rfl) dX1_distance_2 ⟨Nat.le_of_ble_eq_true rfl, Nat.le_of_ble_eq_true rfl⟩ (fun r h => ?_)
  rcases h with ⟨rfl, ⟨j, hj, rfl⟩⟩ | ⟨rfl, h⟩
  · refine lv_if_eq (tgt := 17) hx hb dX1_distance_5 (by decide) (fun h9 => absurd h9 (by decide)) (fun _ => ?_)
    refine lv_aload_n hx hb dX1_distance_8 rfl (lv_at hl 0 rfl) ?_
    refine va_get (D := (dC, dI)) (ci := 0) (v := .ref (z 5)) (C := RX1) (T := TX1) (N := 14) hx hb hts inlX1 hown hK hP 0 rfl rfl 12 (by decide) (hts _ km_32) (fun _ h9 => h9) rfl dX1_distance_9 ?_
    refine lv_iload_n hx hb dX1_distance_12 rfl (lv_at hl 1 rfl) ?_
    refine fx_ald hx hb hK hP 5 0 rfl rfl j rfl hj hn31 dX1_distance_13 ?_
    refine lv_goto (tgt := 18) hx hb dX1_distance_14 (by decide) ?_
    exact fx_sret hx hb hr hlocks dX1_distance_18 (by unfold fqget; rw [fqat_some hj hn31]; rfl)
  · refine lv_if_eq (tgt := 17) hx hb dX1_distance_5 (by decide) (fun _ => ?_) (fun h9 => absurd h9 (by decide))
    refine lv_iconst (v := (-1)) hx hb dX1_distance_17 (by decide) ?_
    exact fx_sret hx hb hr hlocks dX1_distance_18 (by unfold fqget; rw [fqat_none hn31 h])
set_option maxHeartbeats 4000000 in
set_option maxRecDepth 100000 in
theorem sp_before (l : Launch) (dC : Nat → ClassId) (dI : Nat → Nat → Nat) (A : Nat → Prop) (cI cA cZ : ClassId) (rest : va_W) (z : Nat → Nat) (n : Nat) (hn : n ≤ 40) (ar gl : Int32) (fl pr pg ky ac : Int32) (K B M Ds Bf : Nat → Int32) (L : Nat → Option Nat) (x : Int32)  : Met l yX1_before (Cond.code yX1_before cX1_before 2 (some .int) :: wsL_law) ({ frames := 1, cells := 0, slots := 0, locals := 21 } : Room) (va_Pc [.ref (z 0), .int x] (fx_Pre (dC, dI) classes (fq_ty cI cA cZ) A (wX z cI cA n ar gl fl pr pg ky ac K B M Ds Bf L ++ rest))) (vp_Si (fun r => r = fqget n Bf (fun _ => true) x)) 0 0 (fun _ => False) := by
  refine Met.ofW (cc := cX1_before) (maxL := 2) (ret := (some .int)) (by decide) rfl ?_
  intro p e s m args below meth c s₁ B0 hml hv
  obtain ⟨rfl, hA, hP, hK, hD, hN⟩ := hv
  have hx := B0.exec
  have hb := B0.bytes
  have hr := B0.returns
  have hts0 := atoms_spec (ws := (Cond.code yX1_before cX1_before 2 (some .int) :: wsL_law)) B0.pre
  have hts := fun w (h : w ∈ wsL_law) => hts0 w (List.mem_cons_of_mem _ h)
  have hown : s.vm.findClass RX1 = some m.cls := findClass_of_methodNamed B0.named
  have hlocks := B0.notSynchronized
  have hF : CallFix p m c cX1_before 2 s ([.ref (z 0), .int x] : List Value).toArray wsL_law RX1 := ⟨hx, hb, hml, hown, hts⟩
  have hS : va_S A s.heap s.heap [] := va_S.rf
  have hl := lv_entry ([.ref (z 0), .int x]) (n := 2) (Nat.le_of_ble_eq_true rfl)
  rw [lg_entry_eq]
  generalize (lg_sl ([.ref (z 0), .int x]) ++ List.replicate (2 - (lg_sl ([.ref (z 0), .int x])).length) Slot.unset).toArray = ls at hl ⊢
  have hl : lv_has ls 2 [(0, .ref (z 0)), (1, .int x)] := hl
  have hn31 : n < 2 ^ 31 := by omega
  refine lv_aload_n hx hb dX1_before_0 rfl (lv_at hl 0 rfl) ?_
  refine lv_iload_n hx hb dX1_before_1 rfl (lv_at hl 1 rfl) ?_
  refine fx_Vs (rest := []) (sp_isItem l dC dI A cI cA cZ rest z n hn ar gl fl pr pg ky ac K B M Ds Bf L x) hF (cw_RX1_56 hts ⟨Nat.le_of_ble_eq_true rfl, Nat.le_of_ble_eq_true rfl⟩) hA hS hP hK hD hN 0 0 rfl rfl rfl hl.1 rfl (Nat.le_of_ble_eq_true rfl) dX1_before_2 ⟨Nat.le_of_ble_eq_true rfl, Nat.le_of_ble_eq_true rfl⟩ (fun r h => ?_)
  rcases h with ⟨rfl, ⟨j, hj, rfl⟩⟩ | ⟨rfl, h⟩
  · refine lv_if_eq (tgt := 17) hx hb dX1_before_5 (by decide) (fun h9 => absurd h9 (by decide)) (fun _ => ?_)
    refine lv_aload_n hx hb dX1_before_8 rfl (lv_at hl 0 rfl) ?_
    refine va_get (D := (dC, dI)) (ci := 0) (v := .ref (z 6)) (C := RX1) (T := TX1) (N := 14) hx hb hts inlX1 hown hK hP 0 rfl rfl 13 (by decide) (hts _ km_33) (fun _ h9 => h9) rfl dX1_before_9 ?_
    refine lv_iload_n hx hb dX1_before_12 rfl (lv_at hl 1 rfl) ?_
    refine fx_ald hx hb hK hP 6 0 rfl rfl j rfl hj hn31 dX1_before_13 ?_
    refine lv_goto (tgt := 18) hx hb dX1_before_14 (by decide) ?_
    exact fx_sret hx hb hr hlocks dX1_before_18 (by unfold fqget; rw [fqat_some hj hn31]; rfl)
  · refine lv_if_eq (tgt := 17) hx hb dX1_before_5 (by decide) (fun _ => ?_) (fun h9 => absurd h9 (by decide))
    refine lv_iconst (v := (-1)) hx hb dX1_before_17 (by decide) ?_
    exact fx_sret hx hb hr hlocks dX1_before_18 (by unfold fqget; rw [fqat_none hn31 h])
set_option maxHeartbeats 4000000 in
set_option maxRecDepth 100000 in
theorem sp_many (l : Launch) (dC : Nat → ClassId) (dI : Nat → Nat → Nat) (A : Nat → Prop) (cI cA cZ : ClassId) (rest : va_W) (z : Nat → Nat) (n : Nat) (hn : n ≤ 40) (ar gl : Int32) (fl pr pg ky ac : Int32) (K B M Ds Bf : Nat → Int32) (L : Nat → Option Nat) (x : Int32)  : Met l yX1_many (Cond.code yX1_many cX1_many 2 (some .int) :: wsL_law) ({ frames := 0, cells := 0, slots := 0, locals := 0 } : Room) (va_Pc [.ref (z 0), .int x] (fx_Pre (dC, dI) classes (fq_ty cI cA cZ) A (wX z cI cA n ar gl fl pr pg ky ac K B M Ds Bf L ++ rest))) (vp_Si (fun r => r = fqmany M x)) 0 0 (fun _ => False) := by
  refine Met.ofW (cc := cX1_many) (maxL := 2) (ret := (some .int)) (by decide) rfl ?_
  intro p e s m args below meth c s₁ B0 hml hv
  obtain ⟨rfl, hA, hP, hK, hD, hN⟩ := hv
  have hx := B0.exec
  have hb := B0.bytes
  have hr := B0.returns
  have hts0 := atoms_spec (ws := (Cond.code yX1_many cX1_many 2 (some .int) :: wsL_law)) B0.pre
  have hts := fun w (h : w ∈ wsL_law) => hts0 w (List.mem_cons_of_mem _ h)
  have hown : s.vm.findClass RX1 = some m.cls := findClass_of_methodNamed B0.named
  have hlocks := B0.notSynchronized
  have hF : CallFix p m c cX1_many 2 s ([.ref (z 0), .int x] : List Value).toArray wsL_law RX1 := ⟨hx, hb, hml, hown, hts⟩
  have hS : va_S A s.heap s.heap [] := va_S.rf
  have hl := lv_entry ([.ref (z 0), .int x]) (n := 2) (Nat.le_of_ble_eq_true rfl)
  rw [lg_entry_eq]
  generalize (lg_sl ([.ref (z 0), .int x]) ++ List.replicate (2 - (lg_sl ([.ref (z 0), .int x])).length) Slot.unset).toArray = ls at hl ⊢
  have hl : lv_has ls 2 [(0, .ref (z 0)), (1, .int x)] := hl
  have hn31 : n < 2 ^ 31 := by omega
  refine lv_iload_n hx hb dX1_many_0 rfl (lv_at hl 1 rfl) ?_
  refine lv_if_lt (tgt := 19) hx hb dX1_many_1 (by decide) (fun c_1 => ?_) (fun c_1 => ?_)
  · refine lv_iconst (v := (-1)) hx hb dX1_many_19 (by decide) ?_
    exact fx_sret hx hb hr hlocks dX1_many_20 (by unfold fqmany fqat; rw [if_pos c_1])
  · refine lv_iload_n hx hb dX1_many_4 rfl (lv_at hl 1 rfl) ?_
    refine lv_bipush (v := 32) hx hb dX1_many_5 (by decide) ?_
    refine lv_icmp_ge (tgt := 19) hx hb dX1_many_7 (by decide) (fun c_7 => ?_) (fun c_7 => ?_)
    · refine lv_iconst (v := (-1)) hx hb dX1_many_19 (by decide) ?_
      exact fx_sret hx hb hr hlocks dX1_many_20 (by unfold fqmany fqat; rw [if_neg c_1, if_pos (show nI 32 ≤ x from c_7)])
    · obtain ⟨j, hj, rfl⟩ := fq_ix (n := 32) (by decide) c_1 c_7
      refine lv_aload_n hx hb dX1_many_10 rfl (lv_at hl 0 rfl) ?_
      refine va_get (D := (dC, dI)) (ci := 0) (v := .ref (z 3)) (C := RX1) (T := TX1) (N := 14) hx hb hts inlX1 hown hK hP 0 rfl rfl 5 (by decide) (hts _ km_29) (fun _ h9 => h9) rfl dX1_many_11 ?_
      refine lv_iload_n hx hb dX1_many_14 rfl (lv_at hl 1 rfl) ?_
      refine fx_ald hx hb hK hP 3 0 rfl rfl j rfl hj (by decide) dX1_many_15 ?_
      refine lv_goto (tgt := 20) hx hb dX1_many_16 (by decide) ?_
      exact fx_sret hx hb hr hlocks dX1_many_20 (by unfold fqmany; rw [fqat_some hj (by decide)])
set_option maxHeartbeats 4000000 in
set_option maxRecDepth 100000 in
theorem sp_empty (l : Launch) (dC : Nat → ClassId) (dI : Nat → Nat → Nat) (A : Nat → Prop) (cI cA cZ : ClassId) (rest : va_W) (z : Nat → Nat) (n : Nat) (hn : n ≤ 40) (ar gl : Int32) (fl pr pg ky ac : Int32) (K B M Ds Bf : Nat → Int32) (L : Nat → Option Nat)  : Met l yX1_emptyQueue (Cond.code yX1_emptyQueue cX1_emptyQueue 1 none :: wsL_law) ({ frames := 1, cells := 0, slots := 0, locals := 23 } : Room) (va_Pc [.ref (z 0)] (fx_Pre (dC, dI) classes (fq_ty cI cA cZ) A (wX z cI cA n ar gl fl pr pg ky ac K B M Ds Bf L ++ rest))) (va_Qv (S := fqQ) (fun u => u = fqempty n (fl, pr, pg, ky, K, B, M)) (fx_B (dC, dI) classes (fq_ty cI cA cZ) A (fun u : fqQ => wX z cI cA n ar gl u.1 u.2.1 u.2.2.1 u.2.2.2.1 ac u.2.2.2.2.1 u.2.2.2.2.2.1 u.2.2.2.2.2.2 Ds Bf L ++ rest)) A) 0 0 A := by
  refine Met.ofW (cc := cX1_emptyQueue) (maxL := 1) (ret := none) (by decide) rfl ?_
  intro p e s m args below meth c s₁ B0 hml hv
  obtain ⟨rfl, hA, hP, hK, hD, hN⟩ := hv
  have hx := B0.exec
  have hb := B0.bytes
  have hr := B0.returns
  have hts0 := atoms_spec (ws := (Cond.code yX1_emptyQueue cX1_emptyQueue 1 none :: wsL_law)) B0.pre
  have hts := fun w (h : w ∈ wsL_law) => hts0 w (List.mem_cons_of_mem _ h)
  have hown : s.vm.findClass RX1 = some m.cls := findClass_of_methodNamed B0.named
  have hlocks := B0.notSynchronized
  have hF : CallFix p m c cX1_emptyQueue 1 s ([.ref (z 0)] : List Value).toArray wsL_law RX1 := ⟨hx, hb, hml, hown, hts⟩
  have hS : va_S A s.heap s.heap [] := va_S.rf
  have hl := lv_entry ([.ref (z 0)]) (n := 1) (Nat.le_of_ble_eq_true rfl)
  rw [lg_entry_eq]
  generalize (lg_sl ([.ref (z 0)]) ++ List.replicate (1 - (lg_sl ([.ref (z 0)])).length) Slot.unset).toArray = ls at hl ⊢
  have hl : lv_has ls 1 [(0, .ref (z 0))] := hl
  have hn31 : n < 2 ^ 31 := by omega
  refine lv_aload_n hx hb dX1_emptyQueue_0 rfl (lv_at hl 0 rfl) ?_
  refine va_get (D := (dC, dI)) (ci := 0) (v := .ref (z 2)) (C := RX1) (T := TX1) (N := 14) hx hb hts inlX1 hown hK hP 0 rfl rfl 4 (by decide) (hts _ km_28) (fun _ h9 => h9) rfl dX1_emptyQueue_1 ?_
  refine lv_iconst (v := (-1)) hx hb dX1_emptyQueue_4 (by decide) ?_
  refine fx_Sv (rest := []) (sp_fill l dC dI A cI cA cZ (wX z cI cA n ar gl fl pr pg ky ac K B M Ds Bf L ++ rest) 2 (z 2) n B (-1) rfl hn31) hF (cw_RX1_50 hts ⟨Nat.le_of_ble_eq_true rfl, Nat.le_of_ble_eq_true rfl⟩) hA hS hP hK hD hN rfl hl.1 rfl (Nat.le_of_ble_eq_true rfl) dX1_emptyQueue_5 ⟨Nat.le_of_ble_eq_true rfl, Nat.le_of_ble_eq_true rfl⟩ (fun u H locs h hP hD hS => ?_)
  subst h
  have hP : va_P (dC, dI) classes (wX z cI cA n ar gl fl pr pg ky ac K (fqfill n (-1) B) M Ds Bf L ++ rest) H := hP
  have hD : va_D A (wX z cI cA n ar gl fl pr pg ky ac K (fqfill n (-1) B) M Ds Bf L ++ rest) := hD
  refine lv_aload_n hx hb dX1_emptyQueue_8 rfl (lv_at hl 0 rfl) ?_
  refine va_get (D := (dC, dI)) (ci := 0) (v := .ref (z 3)) (C := RX1) (T := TX1) (N := 14) hx hb hts inlX1 hown hK hP 0 rfl rfl 5 (by decide) (hts _ km_29) (fun _ h9 => h9) rfl dX1_emptyQueue_9 ?_
  refine lv_iconst (v := 0) hx hb dX1_emptyQueue_12 (by decide) ?_
  refine fx_Sv (rest := []) (sp_fill l dC dI A cI cA cZ (wX z cI cA n ar gl fl pr pg ky ac K (fqfill n (-1) B) M Ds Bf L ++ rest) 3 (z 3) 32 M 0 rfl (by decide)) hF (cw_RX1_50 hts ⟨Nat.le_of_ble_eq_true rfl, Nat.le_of_ble_eq_true rfl⟩) hA hS hP hK hD hN rfl hl.1 rfl (Nat.le_of_ble_eq_true rfl) dX1_emptyQueue_13 ⟨Nat.le_of_ble_eq_true rfl, Nat.le_of_ble_eq_true rfl⟩ (fun u H locs h hP hD hS => ?_)
  subst h
  have hP : va_P (dC, dI) classes (wX z cI cA n ar gl fl pr pg ky ac K (fqfill n (-1) B) (fqfill 32 0 M) Ds Bf L ++ rest) H := hP
  have hD : va_D A (wX z cI cA n ar gl fl pr pg ky ac K (fqfill n (-1) B) (fqfill 32 0 M) Ds Bf L ++ rest) := hD
  refine lv_aload_n hx hb dX1_emptyQueue_16 rfl (lv_at hl 0 rfl) ?_
  refine lv_iconst (v := 0) hx hb dX1_emptyQueue_17 (by decide) ?_
  refine va_put (D := (dC, dI)) (ci := 0) (v := .int 0) (ty := .int) (C := RX1) (T := TX1) (N := 14) hx hb hts inlX1 tyX1 tyX1_ok nmX1 hown hK hP hD hS 0 rfl rfl 7 (by decide) (hts _ km_64) (fun _ h9 => h9) rfl (by decide +kernel) rfl rfl (Nat.le_of_ble_eq_true rfl) dX1_emptyQueue_18 (fun H locs hP hD hS => ?_)
  have hP : va_P (dC, dI) classes (wX z cI cA n ar gl fl 0 pg ky ac K (fqfill n (-1) B) (fqfill 32 0 M) Ds Bf L ++ rest) H := hP
  have hD : va_D A (wX z cI cA n ar gl fl 0 pg ky ac K (fqfill n (-1) B) (fqfill 32 0 M) Ds Bf L ++ rest) := hD
  refine lv_aload_n hx hb dX1_emptyQueue_21 rfl (lv_at hl 0 rfl) ?_
  refine lv_iconst (v := 0) hx hb dX1_emptyQueue_22 (by decide) ?_
  refine va_put (D := (dC, dI)) (ci := 0) (v := .int 0) (ty := .int) (C := RX1) (T := TX1) (N := 14) hx hb hts inlX1 tyX1 tyX1_ok nmX1 hown hK hP hD hS 0 rfl rfl 6 (by decide) (hts _ km_63) (fun _ h9 => h9) rfl (by decide +kernel) rfl rfl (Nat.le_of_ble_eq_true rfl) dX1_emptyQueue_23 (fun H locs hP hD hS => ?_)
  have hP : va_P (dC, dI) classes (wX z cI cA n ar gl 0 0 pg ky ac K (fqfill n (-1) B) (fqfill 32 0 M) Ds Bf L ++ rest) H := hP
  have hD : va_D A (wX z cI cA n ar gl 0 0 pg ky ac K (fqfill n (-1) B) (fqfill 32 0 M) Ds Bf L ++ rest) := hD
  exact fx_vret hx hb hr hlocks hK hS dX1_emptyQueue_26 (0, 0, pg, ky, K, fqfill n (-1) B, fqfill 32 0 M) (rfl) hP hD
set_option maxHeartbeats 4000000 in
set_option maxRecDepth 100000 in
theorem sp_forget (l : Launch) (dC : Nat → ClassId) (dI : Nat → Nat → Nat) (A : Nat → Prop) (cI cA cZ : ClassId) (rest : va_W) (z : Nat → Nat) (n : Nat) (hn : n ≤ 40) (ar gl : Int32) (fl pr pg ky ac : Int32) (K B M Ds Bf : Nat → Int32) (L : Nat → Option Nat)  : Met l yX1_forgetWays (Cond.code yX1_forgetWays cX1_forgetWays 1 none :: wsL_law) ({ frames := 1, cells := 0, slots := 0, locals := 23 } : Room) (va_Pc [.ref (z 0)] (fx_Pre (dC, dI) classes (fq_ty cI cA cZ) A (wX z cI cA n ar gl fl pr pg ky ac K B M Ds Bf L ++ rest))) (va_Qv (S := ((Nat → Int32) × (Nat → Int32))) (fun u => u = (fqfill n (-1) Ds, fqfill n (-1) Bf)) (fx_B (dC, dI) classes (fq_ty cI cA cZ) A (fun u : (Nat → Int32) × (Nat → Int32) => wX z cI cA n ar gl fl pr pg ky ac K B M u.1 u.2 L ++ rest)) A) 0 0 A := by
  refine Met.ofW (cc := cX1_forgetWays) (maxL := 1) (ret := none) (by decide) rfl ?_
  intro p e s m args below meth c s₁ B0 hml hv
  obtain ⟨rfl, hA, hP, hK, hD, hN⟩ := hv
  have hx := B0.exec
  have hb := B0.bytes
  have hr := B0.returns
  have hts0 := atoms_spec (ws := (Cond.code yX1_forgetWays cX1_forgetWays 1 none :: wsL_law)) B0.pre
  have hts := fun w (h : w ∈ wsL_law) => hts0 w (List.mem_cons_of_mem _ h)
  have hown : s.vm.findClass RX1 = some m.cls := findClass_of_methodNamed B0.named
  have hlocks := B0.notSynchronized
  have hF : CallFix p m c cX1_forgetWays 1 s ([.ref (z 0)] : List Value).toArray wsL_law RX1 := ⟨hx, hb, hml, hown, hts⟩
  have hS : va_S A s.heap s.heap [] := va_S.rf
  have hl := lv_entry ([.ref (z 0)]) (n := 1) (Nat.le_of_ble_eq_true rfl)
  rw [lg_entry_eq]
  generalize (lg_sl ([.ref (z 0)]) ++ List.replicate (1 - (lg_sl ([.ref (z 0)])).length) Slot.unset).toArray = ls at hl ⊢
  have hl : lv_has ls 1 [(0, .ref (z 0))] := hl
  have hn31 : n < 2 ^ 31 := by omega
  refine lv_aload_n hx hb dX1_forgetWays_0 rfl (lv_at hl 0 rfl) ?_
  refine va_get (D := (dC, dI)) (ci := 0) (v := .ref (z 5)) (C := RX1) (T := TX1) (N := 14) hx hb hts inlX1 hown hK hP 0 rfl rfl 12 (by decide) (hts _ km_32) (fun _ h9 => h9) rfl dX1_forgetWays_1 ?_
  refine lv_iconst (v := (-1)) hx hb dX1_forgetWays_4 (by decide) ?_
  refine fx_Sv (rest := []) (sp_fill l dC dI A cI cA cZ (wX z cI cA n ar gl fl pr pg ky ac K B M Ds Bf L ++ rest) 5 (z 5) n Ds (-1) rfl hn31) hF (cw_RX1_50 hts ⟨Nat.le_of_ble_eq_true rfl, Nat.le_of_ble_eq_true rfl⟩) hA hS hP hK hD hN rfl hl.1 rfl (Nat.le_of_ble_eq_true rfl) dX1_forgetWays_5 ⟨Nat.le_of_ble_eq_true rfl, Nat.le_of_ble_eq_true rfl⟩ (fun u H locs h hP hD hS => ?_)
  subst h
  have hP : va_P (dC, dI) classes (wX z cI cA n ar gl fl pr pg ky ac K B M (fqfill n (-1) Ds) Bf L ++ rest) H := hP
  have hD : va_D A (wX z cI cA n ar gl fl pr pg ky ac K B M (fqfill n (-1) Ds) Bf L ++ rest) := hD
  refine lv_aload_n hx hb dX1_forgetWays_8 rfl (lv_at hl 0 rfl) ?_
  refine va_get (D := (dC, dI)) (ci := 0) (v := .ref (z 6)) (C := RX1) (T := TX1) (N := 14) hx hb hts inlX1 hown hK hP 0 rfl rfl 13 (by decide) (hts _ km_33) (fun _ h9 => h9) rfl dX1_forgetWays_9 ?_
  refine lv_iconst (v := (-1)) hx hb dX1_forgetWays_12 (by decide) ?_
  refine fx_Sv (rest := []) (sp_fill l dC dI A cI cA cZ (wX z cI cA n ar gl fl pr pg ky ac K B M (fqfill n (-1) Ds) Bf L ++ rest) 6 (z 6) n Bf (-1) rfl hn31) hF (cw_RX1_50 hts ⟨Nat.le_of_ble_eq_true rfl, Nat.le_of_ble_eq_true rfl⟩) hA hS hP hK hD hN rfl hl.1 rfl (Nat.le_of_ble_eq_true rfl) dX1_forgetWays_13 ⟨Nat.le_of_ble_eq_true rfl, Nat.le_of_ble_eq_true rfl⟩ (fun u H locs h hP hD hS => ?_)
  subst h
  have hP : va_P (dC, dI) classes (wX z cI cA n ar gl fl pr pg ky ac K B M (fqfill n (-1) Ds) (fqfill n (-1) Bf) L ++ rest) H := hP
  have hD : va_D A (wX z cI cA n ar gl fl pr pg ky ac K B M (fqfill n (-1) Ds) (fqfill n (-1) Bf) L ++ rest) := hD
  exact fx_vret hx hb hr hlocks hK hS dX1_forgetWays_16 (fqfill n (-1) Ds, fqfill n (-1) Bf) (rfl) hP hD
set_option maxHeartbeats 4000000 in
set_option maxRecDepth 100000 in
theorem sp_count (l : Launch) (dC : Nat → ClassId) (dI : Nat → Nat → Nat) (A : Nat → Prop) (cI cA cZ : ClassId) (rest : va_W) (z : Nat → Nat) (n : Nat) (hn : n ≤ 40) (ar gl : Int32) (fl pr pg ky ac : Int32) (K B M Ds Bf : Nat → Int32) (L : Nat → Option Nat) (x : Int32)  : Met l yX1_count (Cond.code yX1_count cX1_count 2 (some .int) :: wsL_law) ({ frames := 0, cells := 0, slots := 0, locals := 0 } : Room) (va_Pc [.ref (z 0), .int x] (fx_Pre (dC, dI) classes (fq_ty cI cA cZ) A (wX z cI cA n ar gl fl pr pg ky ac K B M Ds Bf L ++ rest))) (vp_Si (fun r => r = fqcount n ac ky x)) 0 0 (fun _ => False) := by
  refine Met.ofW (cc := cX1_count) (maxL := 2) (ret := (some .int)) (by decide) rfl ?_
  intro p e s m args below meth c s₁ B0 hml hv
  obtain ⟨rfl, hA, hP, hK, hD, hN⟩ := hv
  have hx := B0.exec
  have hb := B0.bytes
  have hr := B0.returns
  have hts0 := atoms_spec (ws := (Cond.code yX1_count cX1_count 2 (some .int) :: wsL_law)) B0.pre
  have hts := fun w (h : w ∈ wsL_law) => hts0 w (List.mem_cons_of_mem _ h)
  have hown : s.vm.findClass RX1 = some m.cls := findClass_of_methodNamed B0.named
  have hlocks := B0.notSynchronized
  have hF : CallFix p m c cX1_count 2 s ([.ref (z 0), .int x] : List Value).toArray wsL_law RX1 := ⟨hx, hb, hml, hown, hts⟩
  have hS : va_S A s.heap s.heap [] := va_S.rf
  have hl := lv_entry ([.ref (z 0), .int x]) (n := 2) (Nat.le_of_ble_eq_true rfl)
  rw [lg_entry_eq]
  generalize (lg_sl ([.ref (z 0), .int x]) ++ List.replicate (2 - (lg_sl ([.ref (z 0), .int x])).length) Slot.unset).toArray = ls at hl ⊢
  have hl : lv_has ls 2 [(0, .ref (z 0)), (1, .int x)] := hl
  have hn31 : n < 2 ^ 31 := by omega
  refine lv_iload_n hx hb dX1_count_0 rfl (lv_at hl 1 rfl) ?_
  by_cases h0 : x = 0
  · subst h0
    refine lv_tableIn (tgt := 28) (off := 27) hx hb dX1_count_1 (by decide) (by decide) (by decide) (by decide) ?_
    refine lv_aload_n hx hb dX1_count_28 rfl (lv_at hl 0 rfl) ?_
    refine va_get (D := (dC, dI)) (ci := 0) (v := .int (nI n)) (C := RX1) (T := TX1) (N := 14) hx hb hts inlX1 hown hK hP 0 rfl rfl 0 (by decide) (hts _ km_23) (fun _ h9 => h9) rfl dX1_count_29 ?_
    exact fx_sret hx hb hr hlocks dX1_count_32 (by unfold fqcount; rw [if_pos rfl])
  by_cases h1 : x = 1
  · subst h1
    refine lv_tableIn (tgt := 33) (off := 32) hx hb dX1_count_1 (by decide) (by decide) (by decide) (by decide) ?_
    refine lv_aload_n hx hb dX1_count_33 rfl (lv_at hl 0 rfl) ?_
    refine va_get (D := (dC, dI)) (ci := 0) (v := .int ac) (C := RX1) (T := TX1) (N := 14) hx hb hts inlX1 hown hK hP 0 rfl rfl 11 (by decide) (hts _ km_193) (fun _ h9 => h9) rfl dX1_count_34 ?_
    exact fx_sret hx hb hr hlocks dX1_count_37 (by unfold fqcount; rw [if_neg h0, if_pos rfl])
  by_cases h2 : x = 2
  · subst h2
    refine lv_tableIn (tgt := 38) (off := 37) hx hb dX1_count_1 (by decide) (by decide) (by decide) (by decide) ?_
    refine lv_aload_n hx hb dX1_count_38 rfl (lv_at hl 0 rfl) ?_
    refine va_get (D := (dC, dI)) (ci := 0) (v := .int ky) (C := RX1) (T := TX1) (N := 14) hx hb hts inlX1 hown hK hP 0 rfl rfl 9 (by decide) (hts _ km_65) (fun _ h9 => h9) rfl dX1_count_39 ?_
    exact fx_sret hx hb hr hlocks dX1_count_42 (by unfold fqcount; rw [if_neg h0, if_neg h1, if_pos rfl])
  refine lv_tableOut (tgt := 43) hx hb dX1_count_1 (by
    rcases (show x.toInt < 0 ∨ 2 < x.toInt ∨ x.toInt = 0 ∨ x.toInt = 1 ∨ x.toInt = 2 by omega) with q | q | q | q | q
    · exact Or.inl q
    · exact Or.inr q
    · exact absurd (Int32.toInt_inj.mp (show x.toInt = ((0 : Int32)).toInt from q)) h0
    · exact absurd (Int32.toInt_inj.mp (show x.toInt = ((1 : Int32)).toInt from q)) h1
    · exact absurd (Int32.toInt_inj.mp (show x.toInt = ((2 : Int32)).toInt from q)) h2
    ) (by decide) ?_
  refine lv_iconst (v := (-1)) hx hb dX1_count_43 (by decide) ?_
  exact fx_sret hx hb hr hlocks dX1_count_44 (by unfold fqcount; rw [if_neg h0, if_neg h1, if_neg h2])
