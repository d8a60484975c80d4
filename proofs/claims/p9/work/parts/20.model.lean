theorem cw_RX2_51 {R : Room} {s : State} {args : Array Value} {rm : Room} (hts : ∀ w ∈ wsL_law, w.before args s = true) (hR : rm.frames + 1 ≤ R.frames ∧ 8 + (2 + 11) + rm.locals ≤ R.locals) : CallW R s args RX2 RX2 51 yX2_isItem cX2_isItem 2 (some .boolean) (Cond.code yX2_isItem cX2_isItem 2 (some .boolean) :: wsL_law) rm rm.cells rm.slots 1 := cwV 1 hts (km_app (km_four km_98 km_99 km_100 km_5) (km_in km_101)) rfl rfl rfl (by decide +kernel) hR
theorem cw_RX2_61 {R : Room} {s : State} {args : Array Value} {rm : Room} (hts : ∀ w ∈ wsL_law, w.before args s = true) (hR : rm.frames + 1 ≤ R.frames ∧ 8 + (2 + 11) + rm.locals ≤ R.locals) : CallW R s args RX2 RX2 61 yX2_isThere cX2_isThere 2 (some .boolean) (Cond.code yX2_isThere cX2_isThere 2 (some .boolean) :: wsL_law) rm rm.cells rm.slots 1 := cwV 1 hts (km_app (km_four km_110 km_111 km_112 km_5) (km_in km_113)) rfl rfl rfl (by decide +kernel) hR
theorem cw_RX2_64 {R : Room} {s : State} {args : Array Value} {rm : Room} (hts : ∀ w ∈ wsL_law, w.before args s = true) (hR : rm.frames + 1 ≤ R.frames ∧ 8 + (4 + 11) + rm.locals ≤ R.locals) : CallB R s args RX2 64 yX2_unlike cX2_unlike 4 (some .int) (Cond.code yX2_unlike cX2_unlike 4 (some .int) :: wsL_law) rm rm.cells rm.slots 2 ∧ (Cond.static yX2_unlike).before args s = true := va_cwS 2 hts (km_app (km_three km_114 km_115 km_5) (km_in km_116)) rfl rfl rfl (by decide +kernel) hR
set_option maxHeartbeats 4000000 in
set_option maxRecDepth 100000 in
theorem sq_isItem (l : Launch) (dC : Nat → ClassId) (dI : Nat → Nat → Nat) (A : Nat → Prop) (cI cA cZ : ClassId) (rest : va_W) (c0 c1 c2 c3 c4 c5 c6 : Nat × va_E) (y : Nat → Nat) (n : Nat) (hn : n ≤ 40) (ar : Nat) (gl : Int32) (lo pg ca : Int32) (ac : Nat) (hw : Int32) (K F T Ln Wy Fo Tk Ne : Nat → Int32) (x : Int32)  : Met l yX2_isItem (Cond.code yX2_isItem cX2_isItem 2 (some .boolean) :: wsL_law) ({ frames := 0, cells := 0, slots := 0, locals := 0 } : Room) (va_Pc [.ref (y 0), .int x] (fx_Pre (dC, dI) classes (fq_ty cI cA cZ) A (wM c0 c1 c2 c3 c4 c5 c6 y cI cZ n ar gl lo pg ca ac hw K F T Ln Wy Fo Tk Ne ++ rest))) (vp_Si (fun r => (r = 1 ∧ ∃ j, j < n ∧ x = nI j) ∨ (r = 0 ∧ ∀ j, j < n → x ≠ nI j))) 0 0 (fun _ => False) := by
  refine Met.ofW (cc := cX2_isItem) (maxL := 2) (ret := (some .boolean)) (by decide) rfl ?_
  intro p e s m args below meth c s₁ B0 hml hv
  obtain ⟨rfl, hA, hP, hK, hD, hN⟩ := hv
  have hx := B0.exec
  have hb := B0.bytes
  have hr := B0.returns
  have hts0 := atoms_spec (ws := (Cond.code yX2_isItem cX2_isItem 2 (some .boolean) :: wsL_law)) B0.pre
  have hts := fun w (h : w ∈ wsL_law) => hts0 w (List.mem_cons_of_mem _ h)
  have hown : s.vm.findClass RX2 = some m.cls := findClass_of_methodNamed B0.named
  have hlocks := B0.notSynchronized
  have hF : CallFix p m c cX2_isItem 2 s ([.ref (y 0), .int x] : List Value).toArray wsL_law RX2 := ⟨hx, hb, hml, hown, hts⟩
  have hS : va_S A s.heap s.heap [] := va_S.rf
  have hl := lv_entry ([.ref (y 0), .int x]) (n := 2) (Nat.le_of_ble_eq_true rfl)
  rw [lg_entry_eq]
  generalize (lg_sl ([.ref (y 0), .int x]) ++ List.replicate (2 - (lg_sl ([.ref (y 0), .int x])).length) Slot.unset).toArray = ls at hl ⊢
  have hl : lv_has ls 2 [(0, .ref (y 0)), (1, .int x)] := hl
  have hn31 : n < 2 ^ 31 := by omega
  refine lv_iload_n hx hb dX2_isItem_0 rfl (lv_at hl 1 rfl) ?_
  refine lv_if_lt (tgt := 16) hx hb dX2_isItem_1 (by decide) (fun c_1 => ?_) (fun c_1 => ?_)
  · refine lv_iconst (v := 0) hx hb dX2_isItem_16 (by decide) ?_
    exact fx_bret hx hb hr (Or.inl rfl) hlocks dX2_isItem_17 (Or.inr ⟨rfl, fun j hj e => absurd c_1 (e ▸ nI_pos (by omega))⟩)
  · refine lv_iload_n hx hb dX2_isItem_4 rfl (lv_at hl 1 rfl) ?_
    refine lv_aload_n hx hb dX2_isItem_5 rfl (lv_at hl 0 rfl) ?_
    refine va_get (D := (dC, dI)) (ci := 2) (v := .int (nI n)) (C := RX2) (T := TX2) (N := 16) hx hb hts inlX2 hown hK hP 7 rfl rfl 0 (by decide) (hts _ km_51) (fun _ h9 => h9) rfl dX2_isItem_6 ?_
    refine lv_icmp_ge (tgt := 16) hx hb dX2_isItem_9 (by decide) (fun c_9 => ?_) (fun c_9 => ?_)
    · refine lv_iconst (v := 0) hx hb dX2_isItem_16 (by decide) ?_
      exact fx_bret hx hb hr (Or.inl rfl) hlocks dX2_isItem_17 (Or.inr ⟨rfl, fun j hj e => absurd c_9 (e ▸ nI_ge hj hn31)⟩)
    · refine lv_iconst (v := 1) hx hb dX2_isItem_12 (by decide) ?_
      refine lv_goto (tgt := 17) hx hb dX2_isItem_13 (by decide) ?_
      exact fx_bret hx hb hr (Or.inr rfl) hlocks dX2_isItem_17 (Or.inl ⟨rfl, fq_ix hn31 c_1 c_9⟩)
set_option maxHeartbeats 4000000 in
set_option maxRecDepth 100000 in
theorem sq_isThere (l : Launch) (dC : Nat → ClassId) (dI : Nat → Nat → Nat) (A : Nat → Prop) (cI cA cZ : ClassId) (rest : va_W) (c0 c1 c2 c3 c4 c5 c6 : Nat × va_E) (y : Nat → Nat) (n : Nat) (hn : n ≤ 40) (ar : Nat) (gl : Int32) (lo pg ca : Int32) (ac : Nat) (hw : Int32) (K F T Ln Wy Fo Tk Ne : Nat → Int32) (x : Int32)  : Met l yX2_isThere (Cond.code yX2_isThere cX2_isThere 2 (some .boolean) :: wsL_law) ({ frames := 1, cells := 0, slots := 0, locals := 21 } : Room) (va_Pc [.ref (y 0), .int x] (fx_Pre (dC, dI) classes (fq_ty cI cA cZ) A (wM c0 c1 c2 c3 c4 c5 c6 y cI cZ n ar gl lo pg ca ac hw K F T Ln Wy Fo Tk Ne ++ rest))) (vp_Si (fun r => (r = 1 ∧ ∃ j, j < n ∧ x = nI j ∧ K j ≠ -1) ∨ (r = 0 ∧ ∀ j, j < n → x = nI j → K j = -1))) 0 0 (fun _ => False) := by
  refine Met.ofW (cc := cX2_isThere) (maxL := 2) (ret := (some .boolean)) (by decide) rfl ?_
  intro p e s m args below meth c s₁ B0 hml hv
  obtain ⟨rfl, hA, hP, hK, hD, hN⟩ := hv
  have hx := B0.exec
  have hb := B0.bytes
  have hr := B0.returns
  have hts0 := atoms_spec (ws := (Cond.code yX2_isThere cX2_isThere 2 (some .boolean) :: wsL_law)) B0.pre
  have hts := fun w (h : w ∈ wsL_law) => hts0 w (List.mem_cons_of_mem _ h)
  have hown : s.vm.findClass RX2 = some m.cls := findClass_of_methodNamed B0.named
  have hlocks := B0.notSynchronized
  have hF : CallFix p m c cX2_isThere 2 s ([.ref (y 0), .int x] : List Value).toArray wsL_law RX2 := ⟨hx, hb, hml, hown, hts⟩
  have hS : va_S A s.heap s.heap [] := va_S.rf
  have hl := lv_entry ([.ref (y 0), .int x]) (n := 2) (Nat.le_of_ble_eq_true rfl)
  rw [lg_entry_eq]
  generalize (lg_sl ([.ref (y 0), .int x]) ++ List.replicate (2 - (lg_sl ([.ref (y 0), .int x])).length) Slot.unset).toArray = ls at hl ⊢
  have hl : lv_has ls 2 [(0, .ref (y 0)), (1, .int x)] := hl
  have hn31 : n < 2 ^ 31 := by omega
  refine lv_aload_n hx hb dX2_isThere_0 rfl (lv_at hl 0 rfl) ?_
  refine lv_iload_n hx hb dX2_isThere_1 rfl (lv_at hl 1 rfl) ?_
  refine fx_Vs (rest := []) (sq_isItem l dC dI A cI cA cZ rest c0 c1 c2 c3 c4 c5 c6 y n hn ar gl lo pg ca ac hw K F T Ln Wy Fo Tk Ne x) hF (cw_RX2_51 hts ⟨Nat.le_of_ble_eq_true rfl, Nat.le_of_ble_eq_true rfl⟩) hA hS hP hK hD hN 7 2 rfl rfl rfl hl.1 rfl (Nat.le_of_ble_eq_true rfl) dX2_isThere_2 ⟨Nat.le_of_ble_eq_true rfl, Nat.le_of_ble_eq_true rfl⟩ (fun r h => ?_)
  rcases h with ⟨rfl, ⟨j, hj, rfl⟩⟩ | ⟨rfl, h⟩
  · refine lv_if_eq (tgt := 22) hx hb dX2_isThere_5 (by decide) (fun h9 => absurd h9 (by decide)) (fun _ => ?_)
    refine lv_aload_n hx hb dX2_isThere_8 rfl (lv_at hl 0 rfl) ?_
    refine va_get (D := (dC, dI)) (ci := 2) (v := .ref (y 1)) (C := RX2) (T := TX2) (N := 16) hx hb hts inlX2 hown hK hP 7 rfl rfl 3 (by decide) (hts _ km_42) (fun _ h9 => h9) rfl dX2_isThere_9 ?_
    refine lv_iload_n hx hb dX2_isThere_12 rfl (lv_at hl 1 rfl) ?_
    refine fx_ald hx hb hK hP 8 0 rfl rfl j rfl (by omega) (by decide) dX2_isThere_13 ?_
    refine lv_iconst (v := (-1)) hx hb dX2_isThere_14 (by decide) ?_
    refine lv_icmp_eq (tgt := 22) hx hb dX2_isThere_15 (by decide) (fun c_15 => ?_) (fun c_15 => ?_)
    · refine lv_iconst (v := 0) hx hb dX2_isThere_22 (by decide) ?_
      exact fx_bret hx hb hr (Or.inl rfl) hlocks dX2_isThere_23 (Or.inr ⟨rfl, fun j9 hj9 e => by rw [← (nI_eq (by omega) (by omega)).mp e]; exact c_15⟩)
    · refine lv_iconst (v := 1) hx hb dX2_isThere_18 (by decide) ?_
      refine lv_goto (tgt := 23) hx hb dX2_isThere_19 (by decide) ?_
      exact fx_bret hx hb hr (Or.inr rfl) hlocks dX2_isThere_23 (Or.inl ⟨rfl, j, hj, rfl, c_15⟩)
  · refine lv_if_eq (tgt := 22) hx hb dX2_isThere_5 (by decide) (fun _ => ?_) (fun h9 => absurd h9 (by decide))
    refine lv_iconst (v := 0) hx hb dX2_isThere_22 (by decide) ?_
    exact fx_bret hx hb hr (Or.inl rfl) hlocks dX2_isThere_23 (Or.inr ⟨rfl, fun j hj e => absurd e (h j hj)⟩)
set_option maxHeartbeats 4000000 in
set_option maxRecDepth 100000 in
theorem sq_unlike (l : Launch) (a b : Int32) (ha : ¬ a < 0) (hb0 : ¬ b < 0) : Met l yX2_unlike (Cond.code yX2_unlike cX2_unlike 4 (some .int) :: wsL_law) ({ frames := 0, cells := 0, slots := 0, locals := 0 } : Room) (va_Pc [.int a, .int b] (fun _ => True)) (vp_Si (fun r => r = nI (fqk a b))) 0 0 (fun _ => False) := by
  refine Met.ofW (cc := cX2_unlike) (maxL := 4) (ret := (some .int)) (by decide) rfl ?_
  intro p e s m args below meth c s₁ B0 hml hv
  obtain ⟨rfl, -⟩ := hv
  have hx := B0.exec
  have hb := B0.bytes
  have hr := B0.returns
  have hts0 := atoms_spec (ws := (Cond.code yX2_unlike cX2_unlike 4 (some .int) :: wsL_law)) B0.pre
  have hts := fun w (h : w ∈ wsL_law) => hts0 w (List.mem_cons_of_mem _ h)
  have hown : s.vm.findClass RX2 = some m.cls := findClass_of_methodNamed B0.named
  have hlocks := B0.notSynchronized
  have hF : CallFix p m c cX2_unlike 4 s ([.int a, .int b] : List Value).toArray wsL_law RX2 := ⟨hx, hb, hml, hown, hts⟩
  have hl := lv_entry ([.int a, .int b]) (n := 4) (Nat.le_of_ble_eq_true rfl)
  rw [lg_entry_eq]
  generalize (lg_sl ([.int a, .int b]) ++ List.replicate (4 - (lg_sl ([.int a, .int b])).length) Slot.unset).toArray = ls at hl ⊢
  have hl : lv_has ls 4 [(0, .int a), (1, .int b)] := hl
  obtain ⟨x, hx31, ex⟩ := nI_of ha
  obtain ⟨w, hw31, ew⟩ := nI_of hb0
  have ez : fqk a b = fqbl (x ^^^ w) := by unfold fqk; rw [ex, ew, fqn_nI hx31, fqn_nI hw31]
  have hz : x ^^^ w < 2 ^ 31 := Nat.xor_lt_two_pow hx31 hw31
  have K0 : ∀ (d i : Nat) (ls : Array Slot), d + i = 31 → lv_has ls 4 [(0, .int a), (1, .int b), (2, .int (nI (fqbl ((x ^^^ w) % 2 ^ i)))), (3, .int (nI i))] → W p l e (headSpec (Cond.code yX2_unlike cX2_unlike 4 (some .int) :: wsL_law) ({ frames := 0, cells := 0, slots := 0, locals := 0 } : Room)).room s m ([.int a, .int b] : List Value).toArray below meth c s.heap [] 0 0 (MQ below (vp_Si (fun r => r = nI (fqk a b))) ([.int a, .int b] : List Value).toArray s 0 0 (fun _ => False)) (F0 m 4 ls []) := by
    intro d
    induction d with
    | zero =>
      intro i  ls hdi  hl
      have e0 : i = 31 := by omega
      subst e0
      refine lv_iload_n hx hb dX2_unlike_4 rfl (lv_at hl 3 rfl) ?_
      refine lv_bipush (v := 31) hx hb dX2_unlike_5 (by decide) ?_
      refine lv_icmp_ge (tgt := 37) hx hb dX2_unlike_7 (by decide) (fun c_7 => ?_) (fun c_7 => ?_)
      · refine lv_iload_n hx hb dX2_unlike_37 rfl (lv_at hl 2 rfl) ?_
        exact fx_sret hx hb hr hlocks dX2_unlike_38 (by rw [ez, Nat.mod_eq_of_lt hz])
      · exact absurd (Int32.le_refl _) c_7
    | succ d ih =>
      intro i  ls hdi  hl
      have hi : i < 31 := by omega
      refine lv_iload_n hx hb dX2_unlike_4 rfl (lv_at hl 3 rfl) ?_
      refine lv_bipush (v := 31) hx hb dX2_unlike_5 (by decide) ?_
      refine lv_icmp_ge (tgt := 37) hx hb dX2_unlike_7 (by decide) (fun c_7 => ?_) (fun c_7 => ?_)
      · exact absurd (show nI 31 ≤ nI i from c_7) (nI_ge hi (by decide))
      · refine lv_iload_n hx hb dX2_unlike_10 rfl (lv_at hl 0 rfl) ?_
        refine lv_iload_n hx hb dX2_unlike_11 rfl (lv_at hl 3 rfl) ?_
        refine lv_ishr hx hb dX2_unlike_12 ?_
        refine fx_is (show a >>> (nI i &&& 31) = nI (x / 2 ^ i) by rw [ex]; exact pk_shrN hx31 _ i (mq_sl i (by omega))) ?_
        refine lv_iconst (v := 1) hx hb dX2_unlike_13 (by decide) ?_
        refine lv_iand hx hb dX2_unlike_14 ?_
        refine fx_is (mq_and1 (k := x / 2 ^ i) (Nat.lt_of_le_of_lt (Nat.div_le_self _ _) hx31)) ?_
        refine lv_iload_n hx hb dX2_unlike_15 rfl (lv_at hl 1 rfl) ?_
        refine lv_iload_n hx hb dX2_unlike_16 rfl (lv_at hl 3 rfl) ?_
        refine lv_ishr hx hb dX2_unlike_17 ?_
        refine fx_is (show b >>> (nI i &&& 31) = nI (w / 2 ^ i) by rw [ew]; exact pk_shrN hw31 _ i (mq_sl i (by omega))) ?_
        refine lv_iconst (v := 1) hx hb dX2_unlike_18 (by decide) ?_
        refine lv_iand hx hb dX2_unlike_19 ?_
        refine fx_is (mq_and1 (k := w / 2 ^ i) (Nat.lt_of_le_of_lt (Nat.div_le_self _ _) hw31)) ?_
        refine lv_icmp_eq (tgt := 29) hx hb dX2_unlike_20 (by decide) (fun c_20 => ?_) (fun c_20 => ?_)
        · have c_20 := (nI_eq (by omega) (by omega)).mp c_20
          have hbit := mq_bit (x ^^^ w) i
          rw [if_neg (fun h9 => (mq_xbit x w i).mp h9 c_20)] at hbit
          refine lv_iload_n hx hb dX2_unlike_29 rfl (lv_at hl 2 rfl) ?_
          refine lv_istore_n (lv' := [(2, .int (nI (fqbl ((x ^^^ w) % 2 ^ i)))), (0, .int a), (1, .int b), (3, .int (nI i))]) hx hb dX2_unlike_30 rfl hl (by decide) rfl (fun ls hl => ?_)
          refine lv_iinc (v := nI (i + 1)) (lv' := [(3, .int (nI (i + 1))), (2, .int (nI (fqbl ((x ^^^ w) % 2 ^ i)))), (0, .int a), (1, .int b)]) hx hb dX2_unlike_31 hl (k := 3) rfl (nI_1 i) (by decide) rfl (fun ls hl => ?_)
          refine lv_goto (tgt := 4) hx hb dX2_unlike_34 (by decide) ?_
          rw [show nI (fqbl ((x ^^^ w) % 2 ^ i)) = nI (fqbl ((x ^^^ w) % 2 ^ (i + 1))) by rw [hbit]] at hl
          exact ih (i + 1) ls (by omega) (lv_sub hl [2, 3, 1, 0] rfl)
        · have c_20 := fun h9 => c_20 ((nI_eq (by omega) (by omega)).mpr h9)
          have hbit := mq_bit (x ^^^ w) i
          rw [if_pos ((mq_xbit x w i).mpr c_20)] at hbit
          refine lv_iload_n hx hb dX2_unlike_23 rfl (lv_at hl 3 rfl) ?_
          refine lv_iconst (v := 1) hx hb dX2_unlike_24 (by decide) ?_
          refine lv_iadd hx hb dX2_unlike_25 ?_
          refine lv_goto (tgt := 30) hx hb dX2_unlike_26 (by decide) ?_
          refine lv_istore_n (lv' := [(2, .int ((nI i) + 1)), (0, .int a), (1, .int b), (3, .int (nI i))]) hx hb dX2_unlike_30 rfl hl (by decide) rfl (fun ls hl => ?_)
          refine lv_iinc (v := nI (i + 1)) (lv' := [(3, .int (nI (i + 1))), (2, .int ((nI i) + 1)), (0, .int a), (1, .int b)]) hx hb dX2_unlike_31 hl (k := 3) rfl (nI_1 i) (by decide) rfl (fun ls hl => ?_)
          refine lv_goto (tgt := 4) hx hb dX2_unlike_34 (by decide) ?_
          rw [show (nI i) + 1 = nI (fqbl ((x ^^^ w) % 2 ^ (i + 1))) by rw [hbit]; exact nI_1 i] at hl
          exact ih (i + 1) ls (by omega) (lv_sub hl [2, 3, 1, 0] rfl)
  refine lv_iconst (v := 0) hx hb dX2_unlike_0 (by decide) ?_
  refine lv_istore_n (lv' := [(2, .int 0), (0, .int a), (1, .int b)]) hx hb dX2_unlike_1 rfl hl (by decide) rfl (fun ls hl => ?_)
  refine lv_iconst (v := 0) hx hb dX2_unlike_2 (by decide) ?_
  refine lv_istore_n (lv' := [(3, .int 0), (2, .int 0), (0, .int a), (1, .int b)]) hx hb dX2_unlike_3 rfl hl (by decide) rfl (fun ls hl => ?_)
  exact K0 31 0 ls rfl (lv_sub hl [2, 3, 1, 0] (by rw [show (x ^^^ w) % 2 ^ 0 = 0 from Nat.mod_one _]; rfl))
set_option maxHeartbeats 4000000 in
set_option maxRecDepth 100000 in
theorem sq_clear (l : Launch) (dC : Nat → ClassId) (dI : Nat → Nat → Nat) (A : Nat → Prop) (cI cA cZ : ClassId) (rest : va_W) (c0 c1 c2 c3 c4 c5 c6 : Nat × va_E) (y : Nat → Nat) (n : Nat) (hn : n ≤ 40) (ar : Nat) (gl : Int32) (lo pg ca : Int32) (ac : Nat) (hw : Int32) (K F T Ln Wy Fo Tk Ne : Nat → Int32)  : Met l yX2_clear (Cond.code yX2_clear cX2_clear 2 none :: wsL_law) ({ frames := 0, cells := 0, slots := 0, locals := 0 } : Room) (va_Pc [.ref (y 0)] (fx_Pre (dC, dI) classes (fq_ty cI cA cZ) A (wM c0 c1 c2 c3 c4 c5 c6 y cI cZ n ar gl lo pg ca ac hw K F T Ln Wy Fo Tk Ne ++ rest))) (va_Qv (S := mqQ) (fun u => u = mqclear (lo, pg, ca, K)) (fx_B (dC, dI) classes (fq_ty cI cA cZ) A (fun u : mqQ => wM c0 c1 c2 c3 c4 c5 c6 y cI cZ n ar gl u.1 u.2.1 u.2.2.1 ac hw u.2.2.2 F T Ln Wy Fo Tk Ne ++ rest)) A) 0 0 A := by
  refine Met.ofW (cc := cX2_clear) (maxL := 2) (ret := none) (by decide) rfl ?_
  intro p e s m args below meth c s₁ B0 hml hv
  obtain ⟨rfl, hA, hP, hK, hD, hN⟩ := hv
  have hx := B0.exec
  have hb := B0.bytes
  have hr := B0.returns
  have hts0 := atoms_spec (ws := (Cond.code yX2_clear cX2_clear 2 none :: wsL_law)) B0.pre
  have hts := fun w (h : w ∈ wsL_law) => hts0 w (List.mem_cons_of_mem _ h)
  have hown : s.vm.findClass RX2 = some m.cls := findClass_of_methodNamed B0.named
  have hlocks := B0.notSynchronized
  have hF : CallFix p m c cX2_clear 2 s ([.ref (y 0)] : List Value).toArray wsL_law RX2 := ⟨hx, hb, hml, hown, hts⟩
  have hS : va_S A s.heap s.heap [] := va_S.rf
  have hl := lv_entry ([.ref (y 0)]) (n := 2) (Nat.le_of_ble_eq_true rfl)
  rw [lg_entry_eq]
  generalize (lg_sl ([.ref (y 0)]) ++ List.replicate (2 - (lg_sl ([.ref (y 0)])).length) Slot.unset).toArray = ls at hl ⊢
  have hl : lv_has ls 2 [(0, .ref (y 0))] := hl
  have hn31 : n < 2 ^ 31 := by omega
  have K0 : ∀ (d i : Nat) (H : Heap) (locs : List Loc) (ls : Array Slot), d + i = 40 → va_P (dC, dI) classes (wM c0 c1 c2 c3 c4 c5 c6 y cI cZ n ar gl lo pg ca ac hw (fun j => if j < i then -1 else K j) F T Ln Wy Fo Tk Ne ++ rest) H → va_D A (wM c0 c1 c2 c3 c4 c5 c6 y cI cZ n ar gl lo pg ca ac hw (fun j => if j < i then -1 else K j) F T Ln Wy Fo Tk Ne ++ rest) → va_S A s.heap H locs → lv_has ls 2 [(0, .ref (y 0)), (1, .int (nI i))] → W p l e (headSpec (Cond.code yX2_clear cX2_clear 2 none :: wsL_law) ({ frames := 0, cells := 0, slots := 0, locals := 0 } : Room)).room s m ([.ref (y 0)] : List Value).toArray below meth c H locs 0 0 (MQ below (va_Qv (S := mqQ) (fun u => u = mqclear (lo, pg, ca, K)) (fx_B (dC, dI) classes (fq_ty cI cA cZ) A (fun u : mqQ => wM c0 c1 c2 c3 c4 c5 c6 y cI cZ n ar gl u.1 u.2.1 u.2.2.1 ac hw u.2.2.2 F T Ln Wy Fo Tk Ne ++ rest)) A) ([.ref (y 0)] : List Value).toArray s 0 0 A) (F0 m 2 ls []) := by
    intro d
    induction d with
    | zero =>
      intro i  H locs ls hdi  hP hD hS hl
      have e0 : i = 40 := by omega
      subst e0
      refine lv_iload_n hx hb dX2_clear_2 rfl (lv_at hl 1 rfl) ?_
      refine lv_bipush (v := 40) hx hb dX2_clear_3 (by decide) ?_
      refine lv_icmp_ge (tgt := 21) hx hb dX2_clear_5 (by decide) (fun c_5 => ?_) (fun c_5 => ?_)
      · refine lv_aload_n hx hb dX2_clear_21 rfl (lv_at hl 0 rfl) ?_
        refine lv_iconst (v := 0) hx hb dX2_clear_22 (by decide) ?_
        refine va_put (D := (dC, dI)) (ci := 2) (v := .int 0) (ty := .int) (C := RX2) (T := TX2) (N := 16) hx hb hts inlX2 tyX2 tyX2_ok nmX2 hown hK hP hD hS 7 rfl rfl 4 (by decide) (hts _ km_58) (fun _ h9 => h9) rfl (by decide +kernel) rfl rfl (Nat.le_of_ble_eq_true rfl) dX2_clear_23 (fun H locs hP hD hS => ?_)
        have hP : va_P (dC, dI) classes (wM c0 c1 c2 c3 c4 c5 c6 y cI cZ n ar gl 0 pg ca ac hw (fun j => if j < 40 then -1 else K j) F T Ln Wy Fo Tk Ne ++ rest) H := hP
        have hD : va_D A (wM c0 c1 c2 c3 c4 c5 c6 y cI cZ n ar gl 0 pg ca ac hw (fun j => if j < 40 then -1 else K j) F T Ln Wy Fo Tk Ne ++ rest) := hD
        exact fx_vret hx hb hr hlocks hK hS dX2_clear_26 (0, pg, ca, (fun j => if j < 40 then -1 else K j)) (rfl) hP hD
      · exact absurd (Int32.le_refl _) c_5
    | succ d ih =>
      intro i  H locs ls hdi  hP hD hS hl
      have hi : i < 40 := by omega
      refine lv_iload_n hx hb dX2_clear_2 rfl (lv_at hl 1 rfl) ?_
      refine lv_bipush (v := 40) hx hb dX2_clear_3 (by decide) ?_
      refine lv_icmp_ge (tgt := 21) hx hb dX2_clear_5 (by decide) (fun c_5 => ?_) (fun c_5 => ?_)
      · exact absurd (show nI 40 ≤ nI i from c_5) (nI_ge hi (by decide))
      · refine lv_aload_n hx hb dX2_clear_8 rfl (lv_at hl 0 rfl) ?_
        refine va_get (D := (dC, dI)) (ci := 2) (v := .ref (y 1)) (C := RX2) (T := TX2) (N := 16) hx hb hts inlX2 hown hK hP 7 rfl rfl 3 (by decide) (hts _ km_42) (fun _ h9 => h9) rfl dX2_clear_9 ?_
        refine lv_iload_n hx hb dX2_clear_12 rfl (lv_at hl 1 rfl) ?_
        refine lv_iconst (v := (-1)) hx hb dX2_clear_13 (by decide) ?_
        refine fx_ast hx hb hK hP hD hS 8 0 rfl rfl i rfl hi (by decide) dX2_clear_14 (fun H locs hP hD hS => ?_)
        have hP : va_P (dC, dI) classes (wM c0 c1 c2 c3 c4 c5 c6 y cI cZ n ar gl lo pg ca ac hw (upd (fun j => if j < i then -1 else K j) i (-1)) F T Ln Wy Fo Tk Ne ++ rest) H := hP
        have hD : va_D A (wM c0 c1 c2 c3 c4 c5 c6 y cI cZ n ar gl lo pg ca ac hw (upd (fun j => if j < i then -1 else K j) i (-1)) F T Ln Wy Fo Tk Ne ++ rest) := hD
        refine lv_iinc (v := nI (i + 1)) (lv' := [(1, .int (nI (i + 1))), (0, .ref (y 0))]) hx hb dX2_clear_15 hl (k := 1) rfl (nI_1 i) (by decide) rfl (fun ls hl => ?_)
        refine lv_goto (tgt := 2) hx hb dX2_clear_18 (by decide) ?_
        rw [fq_fills] at hP hD
        exact ih (i + 1) H locs ls (by omega) hP hD hS (lv_sub hl [1, 0] rfl)
  refine lv_iconst (v := 0) hx hb dX2_clear_0 (by decide) ?_
  refine lv_istore_n (lv' := [(1, .int 0), (0, .ref (y 0))]) hx hb dX2_clear_1 rfl hl (by decide) rfl (fun ls hl => ?_)
  exact K0 40 0 s.heap [] ls rfl (by rw [fq_fill0]; exact hP) (by rw [fq_fill0]; exact hD) hS (lv_sub hl [1, 0] rfl)
set_option maxHeartbeats 4000000 in
set_option maxRecDepth 100000 in
theorem sq_push (l : Launch) (dC : Nat → ClassId) (dI : Nat → Nat → Nat) (A : Nat → Prop) (cI cA cZ : ClassId) (rest : va_W) (c0 c1 c2 c3 c4 c5 c6 : Nat × va_E) (y : Nat → Nat) (n : Nat) (hn : n ≤ 40) (ar : Nat) (gl : Int32) (lo pg ca : Int32) (ac : Nat) (hw : Int32) (K F T Ln Wy Fo Tk Ne : Nat → Int32) (x key : Int32)  : Met l yX2_push (Cond.code yX2_push cX2_push 3 (some .int) :: wsL_law) ({ frames := 1, cells := 0, slots := 0, locals := 21 } : Room) (va_Pc [.ref (y 0), .int x, .int key] (fx_Pre (dC, dI) classes (fq_ty cI cA cZ) A (wM c0 c1 c2 c3 c4 c5 c6 y cI cZ n ar gl lo pg ca ac hw K F T Ln Wy Fo Tk Ne ++ rest))) (va_Qi (S := mqQ) (fun r u => (r, u) = mqpush n (lo, pg, ca, K) x key) (fx_B (dC, dI) classes (fq_ty cI cA cZ) A (fun u : mqQ => wM c0 c1 c2 c3 c4 c5 c6 y cI cZ n ar gl u.1 u.2.1 u.2.2.1 ac hw u.2.2.2 F T Ln Wy Fo Tk Ne ++ rest)) A) 0 0 A := by
  refine Met.ofW (cc := cX2_push) (maxL := 3) (ret := (some .int)) (by decide) rfl ?_
  intro p e s m args below meth c s₁ B0 hml hv
  obtain ⟨rfl, hA, hP, hK, hD, hN⟩ := hv
  have hx := B0.exec
  have hb := B0.bytes
  have hr := B0.returns
  have hts0 := atoms_spec (ws := (Cond.code yX2_push cX2_push 3 (some .int) :: wsL_law)) B0.pre
  have hts := fun w (h : w ∈ wsL_law) => hts0 w (List.mem_cons_of_mem _ h)
  have hown : s.vm.findClass RX2 = some m.cls := findClass_of_methodNamed B0.named
  have hlocks := B0.notSynchronized
  have hF : CallFix p m c cX2_push 3 s ([.ref (y 0), .int x, .int key] : List Value).toArray wsL_law RX2 := ⟨hx, hb, hml, hown, hts⟩
  have hS : va_S A s.heap s.heap [] := va_S.rf
  have hl := lv_entry ([.ref (y 0), .int x, .int key]) (n := 3) (Nat.le_of_ble_eq_true rfl)
  rw [lg_entry_eq]
  generalize (lg_sl ([.ref (y 0), .int x, .int key]) ++ List.replicate (3 - (lg_sl ([.ref (y 0), .int x, .int key])).length) Slot.unset).toArray = ls at hl ⊢
  have hl : lv_has ls 3 [(0, .ref (y 0)), (1, .int x), (2, .int key)] := hl
  have hn31 : n < 2 ^ 31 := by omega
  refine lv_aload_n hx hb dX2_push_0 rfl (lv_at hl 0 rfl) ?_
  refine lv_iload_n hx hb dX2_push_1 rfl (lv_at hl 1 rfl) ?_
  refine fx_Vs (rest := []) (sq_isItem l dC dI A cI cA cZ rest c0 c1 c2 c3 c4 c5 c6 y n hn ar gl lo pg ca ac hw K F T Ln Wy Fo Tk Ne x) hF (cw_RX2_51 hts ⟨Nat.le_of_ble_eq_true rfl, Nat.le_of_ble_eq_true rfl⟩) hA hS hP hK hD hN 7 2 rfl rfl rfl hl.1 rfl (Nat.le_of_ble_eq_true rfl) dX2_push_2 ⟨Nat.le_of_ble_eq_true rfl, Nat.le_of_ble_eq_true rfl⟩ (fun r h => ?_)
  rcases h with ⟨rfl, ⟨j, hj, rfl⟩⟩ | ⟨rfl, h⟩
  · refine lv_if_eq (tgt := 18) hx hb dX2_push_5 (by decide) (fun h9 => absurd h9 (by decide)) (fun _ => ?_)
    refine lv_aload_n hx hb dX2_push_8 rfl (lv_at hl 0 rfl) ?_
    refine va_get (D := (dC, dI)) (ci := 2) (v := .ref (y 1)) (C := RX2) (T := TX2) (N := 16) hx hb hts inlX2 hown hK hP 7 rfl rfl 3 (by decide) (hts _ km_42) (fun _ h9 => h9) rfl dX2_push_9 ?_
    refine lv_iload_n hx hb dX2_push_12 rfl (lv_at hl 1 rfl) ?_
    refine fx_ald hx hb hK hP 8 0 rfl rfl j rfl (by omega) (by decide) dX2_push_13 ?_
    refine lv_iconst (v := (-1)) hx hb dX2_push_14 (by decide) ?_
    refine lv_icmp_eq (tgt := 20) hx hb dX2_push_15 (by decide) (fun c_15 => ?_) (fun c_15 => ?_)
    · refine lv_iload_n hx hb dX2_push_20 rfl (lv_at hl 2 rfl) ?_
      refine lv_aload_n hx hb dX2_push_21 rfl (lv_at hl 0 rfl) ?_
      refine va_get (D := (dC, dI)) (ci := 2) (v := .int lo) (C := RX2) (T := TX2) (N := 16) hx hb hts inlX2 hown hK hP 7 rfl rfl 4 (by decide) (hts _ km_58) (fun _ h9 => h9) rfl dX2_push_22 ?_
      refine lv_icmp_ge (tgt := 31) hx hb dX2_push_25 (by decide) (fun c_25 => ?_) (fun c_25 => ?_)
      · refine lv_aload_n hx hb dX2_push_31 rfl (lv_at hl 0 rfl) ?_
        refine va_get (D := (dC, dI)) (ci := 2) (v := .ref (y 1)) (C := RX2) (T := TX2) (N := 16) hx hb hts inlX2 hown hK hP 7 rfl rfl 3 (by decide) (hts _ km_42) (fun _ h9 => h9) rfl dX2_push_32 ?_
        refine lv_iload_n hx hb dX2_push_35 rfl (lv_at hl 1 rfl) ?_
        refine lv_iload_n hx hb dX2_push_36 rfl (lv_at hl 2 rfl) ?_
        refine fx_ast hx hb hK hP hD hS 8 0 rfl rfl j rfl (by omega) (by decide) dX2_push_37 (fun H locs hP hD hS => ?_)
        have hP : va_P (dC, dI) classes (wM c0 c1 c2 c3 c4 c5 c6 y cI cZ n ar gl lo pg ca ac hw (upd K j key) F T Ln Wy Fo Tk Ne ++ rest) H := hP
        have hD : va_D A (wM c0 c1 c2 c3 c4 c5 c6 y cI cZ n ar gl lo pg ca ac hw (upd K j key) F T Ln Wy Fo Tk Ne ++ rest) := hD
        refine lv_aload_n hx hb dX2_push_38 rfl (lv_at hl 0 rfl) ?_
        refine lv_dup hx hb dX2_push_39 rfl ?_
        refine va_get (D := (dC, dI)) (ci := 2) (v := .int pg) (C := RX2) (T := TX2) (N := 16) hx hb hts inlX2 hown hK hP 7 rfl rfl 5 (by decide) (hts _ km_96) (fun _ h9 => h9) rfl dX2_push_40 ?_
        refine lv_iconst (v := 1) hx hb dX2_push_43 (by decide) ?_
        refine lv_iadd hx hb dX2_push_44 ?_
        refine va_put (D := (dC, dI)) (ci := 2) (v := .int (pg + 1)) (ty := .int) (C := RX2) (T := TX2) (N := 16) hx hb hts inlX2 tyX2 tyX2_ok nmX2 hown hK hP hD hS 7 rfl rfl 5 (by decide) (hts _ km_96) (fun _ h9 => h9) rfl (by decide +kernel) rfl rfl (Nat.le_of_ble_eq_true rfl) dX2_push_45 (fun H locs hP hD hS => ?_)
        have hP : va_P (dC, dI) classes (wM c0 c1 c2 c3 c4 c5 c6 y cI cZ n ar gl lo (pg + 1) ca ac hw (upd K j key) F T Ln Wy Fo Tk Ne ++ rest) H := hP
        have hD : va_D A (wM c0 c1 c2 c3 c4 c5 c6 y cI cZ n ar gl lo (pg + 1) ca ac hw (upd K j key) F T Ln Wy Fo Tk Ne ++ rest) := hD
        refine lv_aload_n hx hb dX2_push_48 rfl (lv_at hl 0 rfl) ?_
        refine lv_dup hx hb dX2_push_49 rfl ?_
        refine va_get (D := (dC, dI)) (ci := 2) (v := .int ca) (C := RX2) (T := TX2) (N := 16) hx hb hts inlX2 hown hK hP 7 rfl rfl 6 (by decide) (hts _ km_97) (fun _ h9 => h9) rfl dX2_push_50 ?_
        refine lv_iconst (v := 1) hx hb dX2_push_53 (by decide) ?_
        refine lv_iadd hx hb dX2_push_54 ?_
        refine va_put (D := (dC, dI)) (ci := 2) (v := .int (ca + 1)) (ty := .int) (C := RX2) (T := TX2) (N := 16) hx hb hts inlX2 tyX2 tyX2_ok nmX2 hown hK hP hD hS 7 rfl rfl 6 (by decide) (hts _ km_97) (fun _ h9 => h9) rfl (by decide +kernel) rfl rfl (Nat.le_of_ble_eq_true rfl) dX2_push_55 (fun H locs hP hD hS => ?_)
        have hP : va_P (dC, dI) classes (wM c0 c1 c2 c3 c4 c5 c6 y cI cZ n ar gl lo (pg + 1) (ca + 1) ac hw (upd K j key) F T Ln Wy Fo Tk Ne ++ rest) H := hP
        have hD : va_D A (wM c0 c1 c2 c3 c4 c5 c6 y cI cZ n ar gl lo (pg + 1) (ca + 1) ac hw (upd K j key) F T Ln Wy Fo Tk Ne ++ rest) := hD
        refine lv_iconst (v := 0) hx hb dX2_push_58 (by decide) ?_
        exact fx_iret hx hb hr hlocks hK hS dX2_push_59 (lo, pg + 1, ca + 1, upd K j key) (by unfold mqpush; rw [fqat_some hj hn31]; dsimp only; rw [if_pos c_15, if_neg (Int32.not_lt.mpr c_25)]) hP hD
      · refine lv_bipush (v := (-2)) hx hb dX2_push_28 (by decide) ?_
        exact fx_iret hx hb hr hlocks hK hS dX2_push_30 (lo, pg, ca, K) (by unfold mqpush; rw [fqat_some hj hn31]; dsimp only; rw [if_pos c_15, if_pos (Int32.not_le.mp c_25)]) hP hD
    · refine lv_iconst (v := (-1)) hx hb dX2_push_18 (by decide) ?_
      exact fx_iret hx hb hr hlocks hK hS dX2_push_19 (lo, pg, ca, K) (by unfold mqpush; rw [fqat_some hj hn31]; dsimp only; rw [if_neg c_15]) hP hD
  · refine lv_if_eq (tgt := 18) hx hb dX2_push_5 (by decide) (fun _ => ?_) (fun h9 => absurd h9 (by decide))
    refine lv_iconst (v := (-1)) hx hb dX2_push_18 (by decide) ?_
    exact fx_iret hx hb hr hlocks hK hS dX2_push_19 (lo, pg, ca, K) (by unfold mqpush; rw [fqat_none hn31 h]) hP hD
set_option maxHeartbeats 4000000 in
set_option maxRecDepth 100000 in
theorem sq_lower (l : Launch) (dC : Nat → ClassId) (dI : Nat → Nat → Nat) (A : Nat → Prop) (cI cA cZ : ClassId) (rest : va_W) (c0 c1 c2 c3 c4 c5 c6 : Nat × va_E) (y : Nat → Nat) (n : Nat) (hn : n ≤ 40) (ar : Nat) (gl : Int32) (lo pg ca : Int32) (ac : Nat) (hw : Int32) (K F T Ln Wy Fo Tk Ne : Nat → Int32) (x key : Int32) (hs : mqS n (lo, pg, ca, K)) : Met l yX2_lower (Cond.code yX2_lower cX2_lower 3 (some .int) :: wsL_law) ({ frames := 2, cells := 0, slots := 0, locals := 42 } : Room) (va_Pc [.ref (y 0), .int x, .int key] (fx_Pre (dC, dI) classes (fq_ty cI cA cZ) A (wM c0 c1 c2 c3 c4 c5 c6 y cI cZ n ar gl lo pg ca ac hw K F T Ln Wy Fo Tk Ne ++ rest))) (va_Qi (S := mqQ) (fun r u => (r, u) = mqlower n (lo, pg, ca, K) x key) (fx_B (dC, dI) classes (fq_ty cI cA cZ) A (fun u : mqQ => wM c0 c1 c2 c3 c4 c5 c6 y cI cZ n ar gl u.1 u.2.1 u.2.2.1 ac hw u.2.2.2 F T Ln Wy Fo Tk Ne ++ rest)) A) 0 0 A := by
  refine Met.ofW (cc := cX2_lower) (maxL := 3) (ret := (some .int)) (by decide) rfl ?_
  intro p e s m args below meth c s₁ B0 hml hv
  obtain ⟨rfl, hA, hP, hK, hD, hN⟩ := hv
  have hx := B0.exec
  have hb := B0.bytes
  have hr := B0.returns
  have hts0 := atoms_spec (ws := (Cond.code yX2_lower cX2_lower 3 (some .int) :: wsL_law)) B0.pre
  have hts := fun w (h : w ∈ wsL_law) => hts0 w (List.mem_cons_of_mem _ h)
  have hown : s.vm.findClass RX2 = some m.cls := findClass_of_methodNamed B0.named
  have hlocks := B0.notSynchronized
  have hF : CallFix p m c cX2_lower 3 s ([.ref (y 0), .int x, .int key] : List Value).toArray wsL_law RX2 := ⟨hx, hb, hml, hown, hts⟩
  have hS : va_S A s.heap s.heap [] := va_S.rf
  have hl := lv_entry ([.ref (y 0), .int x, .int key]) (n := 3) (Nat.le_of_ble_eq_true rfl)
  rw [lg_entry_eq]
  generalize (lg_sl ([.ref (y 0), .int x, .int key]) ++ List.replicate (3 - (lg_sl ([.ref (y 0), .int x, .int key])).length) Slot.unset).toArray = ls at hl ⊢
  have hl : lv_has ls 3 [(0, .ref (y 0)), (1, .int x), (2, .int key)] := hl
  have hn31 : n < 2 ^ 31 := by omega
  refine lv_aload_n hx hb dX2_lower_0 rfl (lv_at hl 0 rfl) ?_
  refine lv_iload_n hx hb dX2_lower_1 rfl (lv_at hl 1 rfl) ?_
  refine fx_Vs (rest := []) (sq_isThere l dC dI A cI cA cZ rest c0 c1 c2 c3 c4 c5 c6 y n hn ar gl lo pg ca ac hw K F T Ln Wy Fo Tk Ne x) hF (cw_RX2_61 hts ⟨Nat.le_of_ble_eq_true rfl, Nat.le_of_ble_eq_true rfl⟩) hA hS hP hK hD hN 7 2 rfl rfl rfl hl.1 rfl (Nat.le_of_ble_eq_true rfl) dX2_lower_2 ⟨Nat.le_of_ble_eq_true rfl, Nat.le_of_ble_eq_true rfl⟩ (fun r h => ?_)
  rcases h with ⟨rfl, ⟨j, hj, rfl, h8⟩⟩ | ⟨rfl, h⟩
  · refine lv_if_ne (tgt := 10) hx hb dX2_lower_5 (by decide) (fun _ => ?_) (fun h9 => absurd h9 (by decide))
    refine lv_iload_n hx hb dX2_lower_10 rfl (lv_at hl 2 rfl) ?_
    refine lv_aload_n hx hb dX2_lower_11 rfl (lv_at hl 0 rfl) ?_
    refine va_get (D := (dC, dI)) (ci := 2) (v := .int lo) (C := RX2) (T := TX2) (N := 16) hx hb hts inlX2 hown hK hP 7 rfl rfl 4 (by decide) (hts _ km_58) (fun _ h9 => h9) rfl dX2_lower_12 ?_
    refine lv_icmp_lt (tgt := 28) hx hb dX2_lower_15 (by decide) (fun c_15 => ?_) (fun c_15 => ?_)
    · refine lv_bipush (v := (-2)) hx hb dX2_lower_28 (by decide) ?_
      exact fx_iret hx hb hr hlocks hK hS dX2_lower_30 (lo, pg, ca, K) (by unfold mqlower; rw [fqat_some hj hn31]; dsimp only; rw [if_neg h8, if_pos c_15]) hP hD
    · refine lv_iload_n hx hb dX2_lower_18 rfl (lv_at hl 2 rfl) ?_
      refine lv_aload_n hx hb dX2_lower_19 rfl (lv_at hl 0 rfl) ?_
      refine va_get (D := (dC, dI)) (ci := 2) (v := .ref (y 1)) (C := RX2) (T := TX2) (N := 16) hx hb hts inlX2 hown hK hP 7 rfl rfl 3 (by decide) (hts _ km_42) (fun _ h9 => h9) rfl dX2_lower_20 ?_
      refine lv_iload_n hx hb dX2_lower_23 rfl (lv_at hl 1 rfl) ?_
      refine fx_ald hx hb hK hP 8 0 rfl rfl j rfl (by omega) (by decide) dX2_lower_24 ?_
      refine lv_icmp_le (tgt := 31) hx hb dX2_lower_25 (by decide) (fun c_25 => ?_) (fun c_25 => ?_)
      · refine lv_aload_n hx hb dX2_lower_31 rfl (lv_at hl 0 rfl) ?_
        refine lv_dup hx hb dX2_lower_32 rfl ?_
        refine va_get (D := (dC, dI)) (ci := 2) (v := .int pg) (C := RX2) (T := TX2) (N := 16) hx hb hts inlX2 hown hK hP 7 rfl rfl 5 (by decide) (hts _ km_96) (fun _ h9 => h9) rfl dX2_lower_33 ?_
        refine lv_iload_n hx hb dX2_lower_36 rfl (lv_at hl 2 rfl) ?_
        refine lv_aload_n hx hb dX2_lower_37 rfl (lv_at hl 0 rfl) ?_
        refine va_get (D := (dC, dI)) (ci := 2) (v := .int lo) (C := RX2) (T := TX2) (N := 16) hx hb hts inlX2 hown hK hP 7 rfl rfl 4 (by decide) (hts _ km_58) (fun _ h9 => h9) rfl dX2_lower_38 ?_
        refine fx_Ss (rest := [.int pg, .ref (y 0)]) (sq_unlike l key lo (fq_le0 c_15 hs.1) hs.1) hF (cw_RX2_64 hts ⟨Nat.le_of_ble_eq_true rfl, Nat.le_of_ble_eq_true rfl⟩) rfl hl.1 rfl (Nat.le_of_ble_eq_true rfl) dX2_lower_41 ⟨Nat.le_of_ble_eq_true rfl, Nat.le_of_ble_eq_true rfl⟩ (fun r9 h9 => ?_)
        subst h9
        refine lv_aload_n hx hb dX2_lower_44 rfl (lv_at hl 0 rfl) ?_
        refine va_get (D := (dC, dI)) (ci := 2) (v := .ref (y 1)) (C := RX2) (T := TX2) (N := 16) hx hb hts inlX2 hown hK hP 7 rfl rfl 3 (by decide) (hts _ km_42) (fun _ h9 => h9) rfl dX2_lower_45 ?_
        refine lv_iload_n hx hb dX2_lower_48 rfl (lv_at hl 1 rfl) ?_
        refine fx_ald hx hb hK hP 8 0 rfl rfl j rfl (by omega) (by decide) dX2_lower_49 ?_
        refine lv_aload_n hx hb dX2_lower_50 rfl (lv_at hl 0 rfl) ?_
        refine va_get (D := (dC, dI)) (ci := 2) (v := .int lo) (C := RX2) (T := TX2) (N := 16) hx hb hts inlX2 hown hK hP 7 rfl rfl 4 (by decide) (hts _ km_58) (fun _ h9 => h9) rfl dX2_lower_51 ?_
        refine fx_Ss (rest := [.int (nI (fqk key lo)), .int pg, .ref (y 0)]) (sq_unlike l (K j) lo (hs.2 j hj h8) hs.1) hF (cw_RX2_64 hts ⟨Nat.le_of_ble_eq_true rfl, Nat.le_of_ble_eq_true rfl⟩) rfl hl.1 rfl (Nat.le_of_ble_eq_true rfl) dX2_lower_54 ⟨Nat.le_of_ble_eq_true rfl, Nat.le_of_ble_eq_true rfl⟩ (fun r9 h9 => ?_)
        subst h9
        refine lv_icmp_eq (tgt := 64) hx hb dX2_lower_57 (by decide) (fun c_57 => ?_) (fun c_57 => ?_)
        · refine lv_iconst (v := 0) hx hb dX2_lower_64 (by decide) ?_
          refine lv_iadd hx hb dX2_lower_65 ?_
          refine va_put (D := (dC, dI)) (ci := 2) (v := .int (pg + 0)) (ty := .int) (C := RX2) (T := TX2) (N := 16) hx hb hts inlX2 tyX2 tyX2_ok nmX2 hown hK hP hD hS 7 rfl rfl 5 (by decide) (hts _ km_96) (fun _ h9 => h9) rfl (by decide +kernel) rfl rfl (Nat.le_of_ble_eq_true rfl) dX2_lower_66 (fun H locs hP hD hS => ?_)
          have hP : va_P (dC, dI) classes (wM c0 c1 c2 c3 c4 c5 c6 y cI cZ n ar gl lo (pg + 0) ca ac hw K F T Ln Wy Fo Tk Ne ++ rest) H := hP
          have hD : va_D A (wM c0 c1 c2 c3 c4 c5 c6 y cI cZ n ar gl lo (pg + 0) ca ac hw K F T Ln Wy Fo Tk Ne ++ rest) := hD
          refine lv_aload_n hx hb dX2_lower_69 rfl (lv_at hl 0 rfl) ?_
          refine va_get (D := (dC, dI)) (ci := 2) (v := .ref (y 1)) (C := RX2) (T := TX2) (N := 16) hx hb hts inlX2 hown hK hP 7 rfl rfl 3 (by decide) (hts _ km_42) (fun _ h9 => h9) rfl dX2_lower_70 ?_
          refine lv_iload_n hx hb dX2_lower_73 rfl (lv_at hl 1 rfl) ?_
          refine lv_iload_n hx hb dX2_lower_74 rfl (lv_at hl 2 rfl) ?_
          refine fx_ast hx hb hK hP hD hS 8 0 rfl rfl j rfl (by omega) (by decide) dX2_lower_75 (fun H locs hP hD hS => ?_)
          have hP : va_P (dC, dI) classes (wM c0 c1 c2 c3 c4 c5 c6 y cI cZ n ar gl lo (pg + 0) ca ac hw (upd K j key) F T Ln Wy Fo Tk Ne ++ rest) H := hP
          have hD : va_D A (wM c0 c1 c2 c3 c4 c5 c6 y cI cZ n ar gl lo (pg + 0) ca ac hw (upd K j key) F T Ln Wy Fo Tk Ne ++ rest) := hD
          refine lv_aload_n hx hb dX2_lower_76 rfl (lv_at hl 0 rfl) ?_
          refine lv_dup hx hb dX2_lower_77 rfl ?_
          refine va_get (D := (dC, dI)) (ci := 2) (v := .int ca) (C := RX2) (T := TX2) (N := 16) hx hb hts inlX2 hown hK hP 7 rfl rfl 6 (by decide) (hts _ km_97) (fun _ h9 => h9) rfl dX2_lower_78 ?_
          refine lv_iconst (v := 1) hx hb dX2_lower_81 (by decide) ?_
          refine lv_iadd hx hb dX2_lower_82 ?_
          refine va_put (D := (dC, dI)) (ci := 2) (v := .int (ca + 1)) (ty := .int) (C := RX2) (T := TX2) (N := 16) hx hb hts inlX2 tyX2 tyX2_ok nmX2 hown hK hP hD hS 7 rfl rfl 6 (by decide) (hts _ km_97) (fun _ h9 => h9) rfl (by decide +kernel) rfl rfl (Nat.le_of_ble_eq_true rfl) dX2_lower_83 (fun H locs hP hD hS => ?_)
          have hP : va_P (dC, dI) classes (wM c0 c1 c2 c3 c4 c5 c6 y cI cZ n ar gl lo (pg + 0) (ca + 1) ac hw (upd K j key) F T Ln Wy Fo Tk Ne ++ rest) H := hP
          have hD : va_D A (wM c0 c1 c2 c3 c4 c5 c6 y cI cZ n ar gl lo (pg + 0) (ca + 1) ac hw (upd K j key) F T Ln Wy Fo Tk Ne ++ rest) := hD
          refine lv_iconst (v := 0) hx hb dX2_lower_86 (by decide) ?_
          exact fx_iret hx hb hr hlocks hK hS dX2_lower_87 (lo, pg + 0, ca + 1, upd K j key) (by unfold mqlower; rw [fqat_some hj hn31]; dsimp only; rw [if_neg h8, if_neg c_15, if_pos c_25, if_pos c_57]) hP hD
        · refine lv_iconst (v := 1) hx hb dX2_lower_60 (by decide) ?_
          refine lv_goto (tgt := 65) hx hb dX2_lower_61 (by decide) ?_
          refine lv_iadd hx hb dX2_lower_65 ?_
          refine va_put (D := (dC, dI)) (ci := 2) (v := .int (pg + 1)) (ty := .int) (C := RX2) (T := TX2) (N := 16) hx hb hts inlX2 tyX2 tyX2_ok nmX2 hown hK hP hD hS 7 rfl rfl 5 (by decide) (hts _ km_96) (fun _ h9 => h9) rfl (by decide +kernel) rfl rfl (Nat.le_of_ble_eq_true rfl) dX2_lower_66 (fun H locs hP hD hS => ?_)
          have hP : va_P (dC, dI) classes (wM c0 c1 c2 c3 c4 c5 c6 y cI cZ n ar gl lo (pg + 1) ca ac hw K F T Ln Wy Fo Tk Ne ++ rest) H := hP
          have hD : va_D A (wM c0 c1 c2 c3 c4 c5 c6 y cI cZ n ar gl lo (pg + 1) ca ac hw K F T Ln Wy Fo Tk Ne ++ rest) := hD
          refine lv_aload_n hx hb dX2_lower_69 rfl (lv_at hl 0 rfl) ?_
          refine va_get (D := (dC, dI)) (ci := 2) (v := .ref (y 1)) (C := RX2) (T := TX2) (N := 16) hx hb hts inlX2 hown hK hP 7 rfl rfl 3 (by decide) (hts _ km_42) (fun _ h9 => h9) rfl dX2_lower_70 ?_
          refine lv_iload_n hx hb dX2_lower_73 rfl (lv_at hl 1 rfl) ?_
          refine lv_iload_n hx hb dX2_lower_74 rfl (lv_at hl 2 rfl) ?_
          refine fx_ast hx hb hK hP hD hS 8 0 rfl rfl j rfl (by omega) (by decide) dX2_lower_75 (fun H locs hP hD hS => ?_)
          have hP : va_P (dC, dI) classes (wM c0 c1 c2 c3 c4 c5 c6 y cI cZ n ar gl lo (pg + 1) ca ac hw (upd K j key) F T Ln Wy Fo Tk Ne ++ rest) H := hP
          have hD : va_D A (wM c0 c1 c2 c3 c4 c5 c6 y cI cZ n ar gl lo (pg + 1) ca ac hw (upd K j key) F T Ln Wy Fo Tk Ne ++ rest) := hD
          refine lv_aload_n hx hb dX2_lower_76 rfl (lv_at hl 0 rfl) ?_
          refine lv_dup hx hb dX2_lower_77 rfl ?_
          refine va_get (D := (dC, dI)) (ci := 2) (v := .int ca) (C := RX2) (T := TX2) (N := 16) hx hb hts inlX2 hown hK hP 7 rfl rfl 6 (by decide) (hts _ km_97) (fun _ h9 => h9) rfl dX2_lower_78 ?_
          refine lv_iconst (v := 1) hx hb dX2_lower_81 (by decide) ?_
          refine lv_iadd hx hb dX2_lower_82 ?_
          refine va_put (D := (dC, dI)) (ci := 2) (v := .int (ca + 1)) (ty := .int) (C := RX2) (T := TX2) (N := 16) hx hb hts inlX2 tyX2 tyX2_ok nmX2 hown hK hP hD hS 7 rfl rfl 6 (by decide) (hts _ km_97) (fun _ h9 => h9) rfl (by decide +kernel) rfl rfl (Nat.le_of_ble_eq_true rfl) dX2_lower_83 (fun H locs hP hD hS => ?_)
          have hP : va_P (dC, dI) classes (wM c0 c1 c2 c3 c4 c5 c6 y cI cZ n ar gl lo (pg + 1) (ca + 1) ac hw (upd K j key) F T Ln Wy Fo Tk Ne ++ rest) H := hP
          have hD : va_D A (wM c0 c1 c2 c3 c4 c5 c6 y cI cZ n ar gl lo (pg + 1) (ca + 1) ac hw (upd K j key) F T Ln Wy Fo Tk Ne ++ rest) := hD
          refine lv_iconst (v := 0) hx hb dX2_lower_86 (by decide) ?_
          exact fx_iret hx hb hr hlocks hK hS dX2_lower_87 (lo, pg + 1, ca + 1, upd K j key) (by unfold mqlower; rw [fqat_some hj hn31]; dsimp only; rw [if_neg h8, if_neg c_15, if_pos c_25, if_neg c_57]) hP hD
      · refine lv_bipush (v := (-2)) hx hb dX2_lower_28 (by decide) ?_
        exact fx_iret hx hb hr hlocks hK hS dX2_lower_30 (lo, pg, ca, K) (by unfold mqlower; rw [fqat_some hj hn31]; dsimp only; rw [if_neg h8, if_neg c_15, if_neg c_25]) hP hD
  · refine lv_if_ne (tgt := 10) hx hb dX2_lower_5 (by decide) (fun h9 => absurd h9 (by decide)) (fun _ => ?_)
    refine lv_iconst (v := (-1)) hx hb dX2_lower_8 (by decide) ?_
    exact fx_iret hx hb hr hlocks hK hS dX2_lower_9 (lo, pg, ca, K) (by unfold mqlower; cases e : fqat n x with | none => rfl | some j => exact (if_pos (h j (fqat_lt e).1 (fqat_lt e).2)).symm) hP hD
set_option maxHeartbeats 4000000 in
set_option maxRecDepth 100000 in
theorem sq_floor (l : Launch) (dC : Nat → ClassId) (dI : Nat → Nat → Nat) (A : Nat → Prop) (cI cA cZ : ClassId) (rest : va_W) (c0 c1 c2 c3 c4 c5 c6 : Nat × va_E) (y : Nat → Nat) (n : Nat) (hn : n ≤ 40) (ar : Nat) (gl : Int32) (lo pg ca : Int32) (ac : Nat) (hw : Int32) (K F T Ln Wy Fo Tk Ne : Nat → Int32)  : Met l yX2_floor (Cond.code yX2_floor cX2_floor 1 (some .int) :: wsL_law) ({ frames := 0, cells := 0, slots := 0, locals := 0 } : Room) (va_Pc [.ref (y 0)] (fx_Pre (dC, dI) classes (fq_ty cI cA cZ) A (wM c0 c1 c2 c3 c4 c5 c6 y cI cZ n ar gl lo pg ca ac hw K F T Ln Wy Fo Tk Ne ++ rest))) (vp_Si (fun r => r = lo)) 0 0 (fun _ => False) := by
  refine Met.ofW (cc := cX2_floor) (maxL := 1) (ret := (some .int)) (by decide) rfl ?_
  intro p e s m args below meth c s₁ B0 hml hv
  obtain ⟨rfl, hA, hP, hK, hD, hN⟩ := hv
  have hx := B0.exec
  have hb := B0.bytes
  have hr := B0.returns
  have hts0 := atoms_spec (ws := (Cond.code yX2_floor cX2_floor 1 (some .int) :: wsL_law)) B0.pre
  have hts := fun w (h : w ∈ wsL_law) => hts0 w (List.mem_cons_of_mem _ h)
  have hown : s.vm.findClass RX2 = some m.cls := findClass_of_methodNamed B0.named
  have hlocks := B0.notSynchronized
  have hF : CallFix p m c cX2_floor 1 s ([.ref (y 0)] : List Value).toArray wsL_law RX2 := ⟨hx, hb, hml, hown, hts⟩
  have hS : va_S A s.heap s.heap [] := va_S.rf
  have hl := lv_entry ([.ref (y 0)]) (n := 1) (Nat.le_of_ble_eq_true rfl)
  rw [lg_entry_eq]
  generalize (lg_sl ([.ref (y 0)]) ++ List.replicate (1 - (lg_sl ([.ref (y 0)])).length) Slot.unset).toArray = ls at hl ⊢
  have hl : lv_has ls 1 [(0, .ref (y 0))] := hl
  have hn31 : n < 2 ^ 31 := by omega
  refine lv_aload_n hx hb dX2_floor_0 rfl (lv_at hl 0 rfl) ?_
  refine va_get (D := (dC, dI)) (ci := 2) (v := .int lo) (C := RX2) (T := TX2) (N := 16) hx hb hts inlX2 hown hK hP 7 rfl rfl 4 (by decide) (hts _ km_58) (fun _ h9 => h9) rfl dX2_floor_1 ?_
  exact fx_sret hx hb hr hlocks dX2_floor_4 (rfl)
set_option maxHeartbeats 4000000 in
set_option maxRecDepth 100000 in
theorem sq_placed (l : Launch) (dC : Nat → ClassId) (dI : Nat → Nat → Nat) (A : Nat → Prop) (cI cA cZ : ClassId) (rest : va_W) (c0 c1 c2 c3 c4 c5 c6 : Nat × va_E) (y : Nat → Nat) (n : Nat) (hn : n ≤ 40) (ar : Nat) (gl : Int32) (lo pg ca : Int32) (ac : Nat) (hw : Int32) (K F T Ln Wy Fo Tk Ne : Nat → Int32)  : Met l yX2_placed (Cond.code yX2_placed cX2_placed 1 (some .int) :: wsL_law) ({ frames := 0, cells := 0, slots := 0, locals := 0 } : Room) (va_Pc [.ref (y 0)] (fx_Pre (dC, dI) classes (fq_ty cI cA cZ) A (wM c0 c1 c2 c3 c4 c5 c6 y cI cZ n ar gl lo pg ca ac hw K F T Ln Wy Fo Tk Ne ++ rest))) (vp_Si (fun r => r = pg)) 0 0 (fun _ => False) := by
  refine Met.ofW (cc := cX2_placed) (maxL := 1) (ret := (some .int)) (by decide) rfl ?_
  intro p e s m args below meth c s₁ B0 hml hv
  obtain ⟨rfl, hA, hP, hK, hD, hN⟩ := hv
  have hx := B0.exec
  have hb := B0.bytes
  have hr := B0.returns
  have hts0 := atoms_spec (ws := (Cond.code yX2_placed cX2_placed 1 (some .int) :: wsL_law)) B0.pre
  have hts := fun w (h : w ∈ wsL_law) => hts0 w (List.mem_cons_of_mem _ h)
  have hown : s.vm.findClass RX2 = some m.cls := findClass_of_methodNamed B0.named
  have hlocks := B0.notSynchronized
  have hF : CallFix p m c cX2_placed 1 s ([.ref (y 0)] : List Value).toArray wsL_law RX2 := ⟨hx, hb, hml, hown, hts⟩
  have hS : va_S A s.heap s.heap [] := va_S.rf
  have hl := lv_entry ([.ref (y 0)]) (n := 1) (Nat.le_of_ble_eq_true rfl)
  rw [lg_entry_eq]
  generalize (lg_sl ([.ref (y 0)]) ++ List.replicate (1 - (lg_sl ([.ref (y 0)])).length) Slot.unset).toArray = ls at hl ⊢
  have hl : lv_has ls 1 [(0, .ref (y 0))] := hl
  have hn31 : n < 2 ^ 31 := by omega
  refine lv_aload_n hx hb dX2_placed_0 rfl (lv_at hl 0 rfl) ?_
  refine va_get (D := (dC, dI)) (ci := 2) (v := .int pg) (C := RX2) (T := TX2) (N := 16) hx hb hts inlX2 hown hK hP 7 rfl rfl 5 (by decide) (hts _ km_96) (fun _ h9 => h9) rfl dX2_placed_1 ?_
  exact fx_sret hx hb hr hlocks dX2_placed_4 (rfl)
set_option maxHeartbeats 4000000 in
set_option maxRecDepth 100000 in
theorem sq_key (l : Launch) (dC : Nat → ClassId) (dI : Nat → Nat → Nat) (A : Nat → Prop) (cI cA cZ : ClassId) (rest : va_W) (c0 c1 c2 c3 c4 c5 c6 : Nat × va_E) (y : Nat → Nat) (n : Nat) (hn : n ≤ 40) (ar : Nat) (gl : Int32) (lo pg ca : Int32) (ac : Nat) (hw : Int32) (K F T Ln Wy Fo Tk Ne : Nat → Int32) (x : Int32) (hs : mqS n (lo, pg, ca, K)) : Met l yX2_key (Cond.code yX2_key cX2_key 2 (some .int) :: wsL_law) ({ frames := 2, cells := 0, slots := 0, locals := 42 } : Room) (va_Pc [.ref (y 0), .int x] (fx_Pre (dC, dI) classes (fq_ty cI cA cZ) A (wM c0 c1 c2 c3 c4 c5 c6 y cI cZ n ar gl lo pg ca ac hw K F T Ln Wy Fo Tk Ne ++ rest))) (vp_Si (fun r => r = fqget n (K) (mqhas K) x)) 0 0 (fun _ => False) := by
  refine Met.ofW (cc := cX2_key) (maxL := 2) (ret := (some .int)) (by decide) rfl ?_
  intro p e s m args below meth c s₁ B0 hml hv
  obtain ⟨rfl, hA, hP, hK, hD, hN⟩ := hv
  have hx := B0.exec
  have hb := B0.bytes
  have hr := B0.returns
  have hts0 := atoms_spec (ws := (Cond.code yX2_key cX2_key 2 (some .int) :: wsL_law)) B0.pre
  have hts := fun w (h : w ∈ wsL_law) => hts0 w (List.mem_cons_of_mem _ h)
  have hown : s.vm.findClass RX2 = some m.cls := findClass_of_methodNamed B0.named
  have hlocks := B0.notSynchronized
  have hF : CallFix p m c cX2_key 2 s ([.ref (y 0), .int x] : List Value).toArray wsL_law RX2 := ⟨hx, hb, hml, hown, hts⟩
  have hS : va_S A s.heap s.heap [] := va_S.rf
  have hl := lv_entry ([.ref (y 0), .int x]) (n := 2) (Nat.le_of_ble_eq_true rfl)
  rw [lg_entry_eq]
  generalize (lg_sl ([.ref (y 0), .int x]) ++ List.replicate (2 - (lg_sl ([.ref (y 0), .int x])).length) Slot.unset).toArray = ls at hl ⊢
  have hl : lv_has ls 2 [(0, .ref (y 0)), (1, .int x)] := hl
  have hn31 : n < 2 ^ 31 := by omega
  refine lv_aload_n hx hb dX2_key_0 rfl (lv_at hl 0 rfl) ?_
  refine lv_iload_n hx hb dX2_key_1 rfl (lv_at hl 1 rfl) ?_
  refine fx_Vs (rest := []) (sq_isThere l dC dI A cI cA cZ rest c0 c1 c2 c3 c4 c5 c6 y n hn ar gl lo pg ca ac hw K F T Ln Wy Fo Tk Ne x) hF (cw_RX2_61 hts ⟨Nat.le_of_ble_eq_true rfl, Nat.le_of_ble_eq_true rfl⟩) hA hS hP hK hD hN 7 2 rfl rfl rfl hl.1 rfl (Nat.le_of_ble_eq_true rfl) dX2_key_2 ⟨Nat.le_of_ble_eq_true rfl, Nat.le_of_ble_eq_true rfl⟩ (fun r h => ?_)
  rcases h with ⟨rfl, ⟨j, hj, rfl, h8⟩⟩ | ⟨rfl, h⟩
  · refine lv_if_eq (tgt := 17) hx hb dX2_key_5 (by decide) (fun h9 => absurd h9 (by decide)) (fun _ => ?_)
    refine lv_aload_n hx hb dX2_key_8 rfl (lv_at hl 0 rfl) ?_
    refine va_get (D := (dC, dI)) (ci := 2) (v := .ref (y 1)) (C := RX2) (T := TX2) (N := 16) hx hb hts inlX2 hown hK hP 7 rfl rfl 3 (by decide) (hts _ km_42) (fun _ h9 => h9) rfl dX2_key_9 ?_
    refine lv_iload_n hx hb dX2_key_12 rfl (lv_at hl 1 rfl) ?_
    refine fx_ald hx hb hK hP 8 0 rfl rfl j rfl (by omega) (by decide) dX2_key_13 ?_
    refine lv_goto (tgt := 18) hx hb dX2_key_14 (by decide) ?_
    exact fx_sret hx hb hr hlocks dX2_key_18 (by unfold fqget; rw [fqat_some hj hn31]; dsimp only; rw [if_pos (by simp [mqhas, h8])])
  · refine lv_if_eq (tgt := 17) hx hb dX2_key_5 (by decide) (fun _ => ?_) (fun h9 => absurd h9 (by decide))
    refine lv_iconst (v := (-1)) hx hb dX2_key_17 (by decide) ?_
    exact fx_sret hx hb hr hlocks dX2_key_18 (by unfold fqget; cases e : fqat n x with | none => rfl | some j => exact (if_neg (by simp [mqhas, h j (fqat_lt e).1 (fqat_lt e).2])).symm)
set_option maxHeartbeats 4000000 in
set_option maxRecDepth 100000 in
theorem sq_bucket (l : Launch) (dC : Nat → ClassId) (dI : Nat → Nat → Nat) (A : Nat → Prop) (cI cA cZ : ClassId) (rest : va_W) (c0 c1 c2 c3 c4 c5 c6 : Nat × va_E) (y : Nat → Nat) (n : Nat) (hn : n ≤ 40) (ar : Nat) (gl : Int32) (lo pg ca : Int32) (ac : Nat) (hw : Int32) (K F T Ln Wy Fo Tk Ne : Nat → Int32) (x : Int32) (hs : mqS n (lo, pg, ca, K)) : Met l yX2_bucket (Cond.code yX2_bucket cX2_bucket 2 (some .int) :: wsL_law) ({ frames := 2, cells := 0, slots := 0, locals := 42 } : Room) (va_Pc [.ref (y 0), .int x] (fx_Pre (dC, dI) classes (fq_ty cI cA cZ) A (wM c0 c1 c2 c3 c4 c5 c6 y cI cZ n ar gl lo pg ca ac hw K F T Ln Wy Fo Tk Ne ++ rest))) (vp_Si (fun r => r = fqget n (fun j => nI (fqk (K j) lo)) (mqhas K) x)) 0 0 (fun _ => False) := by
  refine Met.ofW (cc := cX2_bucket) (maxL := 2) (ret := (some .int)) (by decide) rfl ?_
  intro p e s m args below meth c s₁ B0 hml hv
  obtain ⟨rfl, hA, hP, hK, hD, hN⟩ := hv
  have hx := B0.exec
  have hb := B0.bytes
  have hr := B0.returns
  have hts0 := atoms_spec (ws := (Cond.code yX2_bucket cX2_bucket 2 (some .int) :: wsL_law)) B0.pre
  have hts := fun w (h : w ∈ wsL_law) => hts0 w (List.mem_cons_of_mem _ h)
  have hown : s.vm.findClass RX2 = some m.cls := findClass_of_methodNamed B0.named
  have hlocks := B0.notSynchronized
  have hF : CallFix p m c cX2_bucket 2 s ([.ref (y 0), .int x] : List Value).toArray wsL_law RX2 := ⟨hx, hb, hml, hown, hts⟩
  have hS : va_S A s.heap s.heap [] := va_S.rf
  have hl := lv_entry ([.ref (y 0), .int x]) (n := 2) (Nat.le_of_ble_eq_true rfl)
  rw [lg_entry_eq]
  generalize (lg_sl ([.ref (y 0), .int x]) ++ List.replicate (2 - (lg_sl ([.ref (y 0), .int x])).length) Slot.unset).toArray = ls at hl ⊢
  have hl : lv_has ls 2 [(0, .ref (y 0)), (1, .int x)] := hl
  have hn31 : n < 2 ^ 31 := by omega
  refine lv_aload_n hx hb dX2_bucket_0 rfl (lv_at hl 0 rfl) ?_
  refine lv_iload_n hx hb dX2_bucket_1 rfl (lv_at hl 1 rfl) ?_
  refine fx_Vs (rest := []) (sq_isThere l dC dI A cI cA cZ rest c0 c1 c2 c3 c4 c5 c6 y n hn ar gl lo pg ca ac hw K F T Ln Wy Fo Tk Ne x) hF (cw_RX2_61 hts ⟨Nat.le_of_ble_eq_true rfl, Nat.le_of_ble_eq_true rfl⟩) hA hS hP hK hD hN 7 2 rfl rfl rfl hl.1 rfl (Nat.le_of_ble_eq_true rfl) dX2_bucket_2 ⟨Nat.le_of_ble_eq_true rfl, Nat.le_of_ble_eq_true rfl⟩ (fun r h => ?_)
  rcases h with ⟨rfl, ⟨j, hj, rfl, h8⟩⟩ | ⟨rfl, h⟩
  · refine lv_if_eq (tgt := 24) hx hb dX2_bucket_5 (by decide) (fun h9 => absurd h9 (by decide)) (fun _ => ?_)
    refine lv_aload_n hx hb dX2_bucket_8 rfl (lv_at hl 0 rfl) ?_
    refine va_get (D := (dC, dI)) (ci := 2) (v := .ref (y 1)) (C := RX2) (T := TX2) (N := 16) hx hb hts inlX2 hown hK hP 7 rfl rfl 3 (by decide) (hts _ km_42) (fun _ h9 => h9) rfl dX2_bucket_9 ?_
    refine lv_iload_n hx hb dX2_bucket_12 rfl (lv_at hl 1 rfl) ?_
    refine fx_ald hx hb hK hP 8 0 rfl rfl j rfl (by omega) (by decide) dX2_bucket_13 ?_
    refine lv_aload_n hx hb dX2_bucket_14 rfl (lv_at hl 0 rfl) ?_
    refine va_get (D := (dC, dI)) (ci := 2) (v := .int lo) (C := RX2) (T := TX2) (N := 16) hx hb hts inlX2 hown hK hP 7 rfl rfl 4 (by decide) (hts _ km_58) (fun _ h9 => h9) rfl dX2_bucket_15 ?_
    refine fx_Ss (rest := []) (sq_unlike l (K j) lo (hs.2 j hj h8) hs.1) hF (cw_RX2_64 hts ⟨Nat.le_of_ble_eq_true rfl, Nat.le_of_ble_eq_true rfl⟩) rfl hl.1 rfl (Nat.le_of_ble_eq_true rfl) dX2_bucket_18 ⟨Nat.le_of_ble_eq_true rfl, Nat.le_of_ble_eq_true rfl⟩ (fun r9 h9 => ?_)
    subst h9
    refine lv_goto (tgt := 25) hx hb dX2_bucket_21 (by decide) ?_
    exact fx_sret hx hb hr hlocks dX2_bucket_25 (by unfold fqget; rw [fqat_some hj hn31]; dsimp only; rw [if_pos (by simp [mqhas, h8])])
  · refine lv_if_eq (tgt := 24) hx hb dX2_bucket_5 (by decide) (fun _ => ?_) (fun h9 => absurd h9 (by decide))
    refine lv_iconst (v := (-1)) hx hb dX2_bucket_24 (by decide) ?_
    exact fx_sret hx hb hr hlocks dX2_bucket_25 (by unfold fqget; cases e : fqat n x with | none => rfl | some j => exact (if_neg (by simp [mqhas, h j (fqat_lt e).1 (fqat_lt e).2])).symm)
set_option maxHeartbeats 4000000 in
set_option maxRecDepth 100000 in
theorem sq_size (l : Launch) (dC : Nat → ClassId) (dI : Nat → Nat → Nat) (A : Nat → Prop) (cI cA cZ : ClassId) (rest : va_W) (c0 c1 c2 c3 c4 c5 c6 : Nat × va_E) (y : Nat → Nat) (n : Nat) (hn : n ≤ 40) (ar : Nat) (gl : Int32) (lo pg ca : Int32) (ac : Nat) (hw : Int32) (K F T Ln Wy Fo Tk Ne : Nat → Int32)  : Met l yX2_size (Cond.code yX2_size cX2_size 3 (some .int) :: wsL_law) ({ frames := 0, cells := 0, slots := 0, locals := 0 } : Room) (va_Pc [.ref (y 0)] (fx_Pre (dC, dI) classes (fq_ty cI cA cZ) A (wM c0 c1 c2 c3 c4 c5 c6 y cI cZ n ar gl lo pg ca ac hw K F T Ln Wy Fo Tk Ne ++ rest))) (vp_Si (fun r => r = mqcnt (mqhas K) n 0 0)) 0 0 (fun _ => False) := by
  refine Met.ofW (cc := cX2_size) (maxL := 3) (ret := (some .int)) (by decide) rfl ?_
  intro p e s m args below meth c s₁ B0 hml hv
  obtain ⟨rfl, hA, hP, hK, hD, hN⟩ := hv
  have hx := B0.exec
  have hb := B0.bytes
  have hr := B0.returns
  have hts0 := atoms_spec (ws := (Cond.code yX2_size cX2_size 3 (some .int) :: wsL_law)) B0.pre
  have hts := fun w (h : w ∈ wsL_law) => hts0 w (List.mem_cons_of_mem _ h)
  have hown : s.vm.findClass RX2 = some m.cls := findClass_of_methodNamed B0.named
  have hlocks := B0.notSynchronized
  have hF : CallFix p m c cX2_size 3 s ([.ref (y 0)] : List Value).toArray wsL_law RX2 := ⟨hx, hb, hml, hown, hts⟩
  have hS : va_S A s.heap s.heap [] := va_S.rf
  have hl := lv_entry ([.ref (y 0)]) (n := 3) (Nat.le_of_ble_eq_true rfl)
  rw [lg_entry_eq]
  generalize (lg_sl ([.ref (y 0)]) ++ List.replicate (3 - (lg_sl ([.ref (y 0)])).length) Slot.unset).toArray = ls at hl ⊢
  have hl : lv_has ls 3 [(0, .ref (y 0))] := hl
  have hn31 : n < 2 ^ 31 := by omega
  have K0 : ∀ (d i : Nat) (cc0 : Int32) (ls : Array Slot), d + i = n → (mqcnt (mqhas K) d i cc0 = mqcnt (mqhas K) n 0 0) → lv_has ls 3 [(0, .ref (y 0)), (1, .int cc0), (2, .int (nI i))] → W p l e (headSpec (Cond.code yX2_size cX2_size 3 (some .int) :: wsL_law) ({ frames := 0, cells := 0, slots := 0, locals := 0 } : Room)).room s m ([.ref (y 0)] : List Value).toArray below meth c s.heap [] 0 0 (MQ below (vp_Si (fun r => r = mqcnt (mqhas K) n 0 0)) ([.ref (y 0)] : List Value).toArray s 0 0 (fun _ => False)) (F0 m 4 ls []) := by
    intro d
    induction d with
    | zero =>
      intro i cc0 ls hdi hq hl
      have e0 : i = n := by omega
      refine lv_iload_n hx hb dX2_size_4 rfl (lv_at hl 2 rfl) ?_
      refine lv_aload_n hx hb dX2_size_5 rfl (lv_at hl 0 rfl) ?_
      refine va_get (D := (dC, dI)) (ci := 2) (v := .int (nI n)) (C := RX2) (T := TX2) (N := 16) hx hb hts inlX2 hown hK hP 7 rfl rfl 0 (by decide) (hts _ km_51) (fun _ h9 => h9) rfl dX2_size_6 ?_
      refine lv_icmp_ge (tgt := 36) hx hb dX2_size_9 (by decide) (fun c_9 => ?_) (fun c_9 => ?_)
      · refine lv_iload_n hx hb dX2_size_36 rfl (lv_at hl 1 rfl) ?_
        exact fx_sret hx hb hr hlocks dX2_size_37 (hq)
      · exact absurd (nI_le (by omega) (by omega)) c_9
    | succ d ih =>
      intro i cc0 ls hdi hq hl
      have hi : i < n := by omega
      refine lv_iload_n hx hb dX2_size_4 rfl (lv_at hl 2 rfl) ?_
      refine lv_aload_n hx hb dX2_size_5 rfl (lv_at hl 0 rfl) ?_
      refine va_get (D := (dC, dI)) (ci := 2) (v := .int (nI n)) (C := RX2) (T := TX2) (N := 16) hx hb hts inlX2 hown hK hP 7 rfl rfl 0 (by decide) (hts _ km_51) (fun _ h9 => h9) rfl dX2_size_6 ?_
      refine lv_icmp_ge (tgt := 36) hx hb dX2_size_9 (by decide) (fun c_9 => ?_) (fun c_9 => ?_)
      · exact absurd c_9 (nI_ge hi hn31)
      · refine lv_iload_n hx hb dX2_size_12 rfl (lv_at hl 1 rfl) ?_
        refine lv_aload_n hx hb dX2_size_13 rfl (lv_at hl 0 rfl) ?_
        refine va_get (D := (dC, dI)) (ci := 2) (v := .ref (y 1)) (C := RX2) (T := TX2) (N := 16) hx hb hts inlX2 hown hK hP 7 rfl rfl 3 (by decide) (hts _ km_42) (fun _ h9 => h9) rfl dX2_size_14 ?_
        refine lv_iload_n hx hb dX2_size_17 rfl (lv_at hl 2 rfl) ?_
        refine fx_ald hx hb hK hP 8 0 rfl rfl i rfl (by omega) (by decide) dX2_size_18 ?_
        refine lv_iconst (v := (-1)) hx hb dX2_size_19 (by decide) ?_
        refine lv_icmp_eq (tgt := 27) hx hb dX2_size_20 (by decide) (fun c_20 => ?_) (fun c_20 => ?_)
        · refine lv_iconst (v := 0) hx hb dX2_size_27 (by decide) ?_
          refine lv_iadd hx hb dX2_size_28 ?_
          refine lv_istore_n (lv' := [(1, .int (cc0 + 0)), (0, .ref (y 0)), (2, .int (nI i))]) hx hb dX2_size_29 rfl hl (by decide) rfl (fun ls hl => ?_)
          refine lv_iinc (v := nI (i + 1)) (lv' := [(2, .int (nI (i + 1))), (1, .int (cc0 + 0)), (0, .ref (y 0))]) hx hb dX2_size_30 hl (k := 2) rfl (nI_1 i) (by decide) rfl (fun ls hl => ?_)
          refine lv_goto (tgt := 4) hx hb dX2_size_33 (by decide) ?_
          exact ih (i + 1) (cc0 + 0) ls (by omega) (by rw [← hq, mqcnt_s, if_neg (by simp [mqhas, c_20])]) (lv_sub hl [2, 1, 0] rfl)
        · refine lv_iconst (v := 1) hx hb dX2_size_23 (by decide) ?_
          refine lv_goto (tgt := 28) hx hb dX2_size_24 (by decide) ?_
          refine lv_iadd hx hb dX2_size_28 ?_
          refine lv_istore_n (lv' := [(1, .int (cc0 + 1)), (0, .ref (y 0)), (2, .int (nI i))]) hx hb dX2_size_29 rfl hl (by decide) rfl (fun ls hl => ?_)
          refine lv_iinc (v := nI (i + 1)) (lv' := [(2, .int (nI (i + 1))), (1, .int (cc0 + 1)), (0, .ref (y 0))]) hx hb dX2_size_30 hl (k := 2) rfl (nI_1 i) (by decide) rfl (fun ls hl => ?_)
          refine lv_goto (tgt := 4) hx hb dX2_size_33 (by decide) ?_
          exact ih (i + 1) (cc0 + 1) ls (by omega) (by rw [← hq, mqcnt_s, if_pos (by simp [mqhas, c_20])]) (lv_sub hl [2, 1, 0] rfl)
  refine lv_iconst (v := 0) hx hb dX2_size_0 (by decide) ?_
  refine lv_istore_n (lv' := [(1, .int 0), (0, .ref (y 0))]) hx hb dX2_size_1 rfl hl (by decide) rfl (fun ls hl => ?_)
  refine lv_iconst (v := 0) hx hb dX2_size_2 (by decide) ?_
  refine lv_istore_n (lv' := [(2, .int 0), (1, .int 0), (0, .ref (y 0))]) hx hb dX2_size_3 rfl hl (by decide) rfl (fun ls hl => ?_)
  exact K0 n 0 0 ls rfl rfl (lv_sub hl [2, 1, 0] rfl)
set_option maxHeartbeats 4000000 in
set_option maxRecDepth 100000 in
theorem sq_many (l : Launch) (dC : Nat → ClassId) (dI : Nat → Nat → Nat) (A : Nat → Prop) (cI cA cZ : ClassId) (rest : va_W) (c0 c1 c2 c3 c4 c5 c6 : Nat × va_E) (y : Nat → Nat) (n : Nat) (hn : n ≤ 40) (ar : Nat) (gl : Int32) (lo pg ca : Int32) (ac : Nat) (hw : Int32) (K F T Ln Wy Fo Tk Ne : Nat → Int32) (x : Int32) (hs : mqS n (lo, pg, ca, K)) : Met l yX2_many (Cond.code yX2_many cX2_many 4 (some .int) :: wsL_law) ({ frames := 1, cells := 0, slots := 0, locals := 23 } : Room) (va_Pc [.ref (y 0), .int x] (fx_Pre (dC, dI) classes (fq_ty cI cA cZ) A (wM c0 c1 c2 c3 c4 c5 c6 y cI cZ n ar gl lo pg ca ac hw K F T Ln Wy Fo Tk Ne ++ rest))) (vp_Si (fun r => r = mqmany n (lo, pg, ca, K) x)) 0 0 (fun _ => False) := by
  refine Met.ofW (cc := cX2_many) (maxL := 4) (ret := (some .int)) (by decide) rfl ?_
  intro p e s m args below meth c s₁ B0 hml hv
  obtain ⟨rfl, hA, hP, hK, hD, hN⟩ := hv
  have hx := B0.exec
  have hb := B0.bytes
  have hr := B0.returns
  have hts0 := atoms_spec (ws := (Cond.code yX2_many cX2_many 4 (some .int) :: wsL_law)) B0.pre
  have hts := fun w (h : w ∈ wsL_law) => hts0 w (List.mem_cons_of_mem _ h)
  have hown : s.vm.findClass RX2 = some m.cls := findClass_of_methodNamed B0.named
  have hlocks := B0.notSynchronized
  have hF : CallFix p m c cX2_many 4 s ([.ref (y 0), .int x] : List Value).toArray wsL_law RX2 := ⟨hx, hb, hml, hown, hts⟩
  have hS : va_S A s.heap s.heap [] := va_S.rf
  have hl := lv_entry ([.ref (y 0), .int x]) (n := 4) (Nat.le_of_ble_eq_true rfl)
  rw [lg_entry_eq]
  generalize (lg_sl ([.ref (y 0), .int x]) ++ List.replicate (4 - (lg_sl ([.ref (y 0), .int x])).length) Slot.unset).toArray = ls at hl ⊢
  have hl : lv_has ls 4 [(0, .ref (y 0)), (1, .int x)] := hl
  have hn31 : n < 2 ^ 31 := by omega
  have K0 : ∀ (d i : Nat) (cc0 : Int32) (ls : Array Slot), d + i = n → (mqcnt (mqat K lo x) d i cc0 = mqmany n (lo, pg, ca, K) x) → lv_has ls 4 [(0, .ref (y 0)), (1, .int x), (2, .int cc0), (3, .int (nI i))] → W p l e (headSpec (Cond.code yX2_many cX2_many 4 (some .int) :: wsL_law) ({ frames := 1, cells := 0, slots := 0, locals := 23 } : Room)).room s m ([.ref (y 0), .int x] : List Value).toArray below meth c s.heap [] 0 0 (MQ below (vp_Si (fun r => r = mqmany n (lo, pg, ca, K) x)) ([.ref (y 0), .int x] : List Value).toArray s 0 0 (fun _ => False)) (F0 m 16 ls []) := by
    intro d
    induction d with
    | zero =>
      intro i cc0 ls hdi hq hl
      have e0 : i = n := by omega
      refine lv_iload_n hx hb dX2_many_16 rfl (lv_at hl 3 rfl) ?_
      refine lv_aload_n hx hb dX2_many_17 rfl (lv_at hl 0 rfl) ?_
      refine va_get (D := (dC, dI)) (ci := 2) (v := .int (nI n)) (C := RX2) (T := TX2) (N := 16) hx hb hts inlX2 hown hK hP 7 rfl rfl 0 (by decide) (hts _ km_51) (fun _ h9 => h9) rfl dX2_many_18 ?_
      refine lv_icmp_ge (tgt := 65) hx hb dX2_many_21 (by decide) (fun c_21 => ?_) (fun c_21 => ?_)
      · refine lv_iload_n hx hb dX2_many_65 rfl (lv_at hl 2 rfl) ?_
        exact fx_sret hx hb hr hlocks dX2_many_66 (hq)
      · exact absurd (nI_le (by omega) (by omega)) c_21
    | succ d ih =>
      intro i cc0 ls hdi hq hl
      have hi : i < n := by omega
      refine lv_iload_n hx hb dX2_many_16 rfl (lv_at hl 3 rfl) ?_
      refine lv_aload_n hx hb dX2_many_17 rfl (lv_at hl 0 rfl) ?_
      refine va_get (D := (dC, dI)) (ci := 2) (v := .int (nI n)) (C := RX2) (T := TX2) (N := 16) hx hb hts inlX2 hown hK hP 7 rfl rfl 0 (by decide) (hts _ km_51) (fun _ h9 => h9) rfl dX2_many_18 ?_
      refine lv_icmp_ge (tgt := 65) hx hb dX2_many_21 (by decide) (fun c_21 => ?_) (fun c_21 => ?_)
      · exact absurd c_21 (nI_ge hi hn31)
      · refine lv_iload_n hx hb dX2_many_24 rfl (lv_at hl 2 rfl) ?_
        refine lv_aload_n hx hb dX2_many_25 rfl (lv_at hl 0 rfl) ?_
        refine va_get (D := (dC, dI)) (ci := 2) (v := .ref (y 1)) (C := RX2) (T := TX2) (N := 16) hx hb hts inlX2 hown hK hP 7 rfl rfl 3 (by decide) (hts _ km_42) (fun _ h9 => h9) rfl dX2_many_26 ?_
        refine lv_iload_n hx hb dX2_many_29 rfl (lv_at hl 3 rfl) ?_
        refine fx_ald hx hb hK hP 8 0 rfl rfl i rfl (by omega) (by decide) dX2_many_30 ?_
        refine lv_iconst (v := (-1)) hx hb dX2_many_31 (by decide) ?_
        refine lv_icmp_eq (tgt := 56) hx hb dX2_many_32 (by decide) (fun c_32 => ?_) (fun c_32 => ?_)
        · refine lv_iconst (v := 0) hx hb dX2_many_56 (by decide) ?_
          refine lv_iadd hx hb dX2_many_57 ?_
          refine lv_istore_n (lv' := [(2, .int (cc0 + 0)), (0, .ref (y 0)), (1, .int x), (3, .int (nI i))]) hx hb dX2_many_58 rfl hl (by decide) rfl (fun ls hl => ?_)
          refine lv_iinc (v := nI (i + 1)) (lv' := [(3, .int (nI (i + 1))), (2, .int (cc0 + 0)), (0, .ref (y 0)), (1, .int x)]) hx hb dX2_many_59 hl (k := 3) rfl (nI_1 i) (by decide) rfl (fun ls hl => ?_)
          refine lv_goto (tgt := 16) hx hb dX2_many_62 (by decide) ?_
          exact ih (i + 1) (cc0 + 0) ls (by omega) (by rw [← hq, mqcnt_s, if_neg (by simp [mqat, c_32])]) (lv_sub hl [2, 3, 1, 0] rfl)
        · refine lv_aload_n hx hb dX2_many_35 rfl (lv_at hl 0 rfl) ?_
          refine va_get (D := (dC, dI)) (ci := 2) (v := .ref (y 1)) (C := RX2) (T := TX2) (N := 16) hx hb hts inlX2 hown hK hP 7 rfl rfl 3 (by decide) (hts _ km_42) (fun _ h9 => h9) rfl dX2_many_36 ?_
          refine lv_iload_n hx hb dX2_many_39 rfl (lv_at hl 3 rfl) ?_
          refine fx_ald hx hb hK hP 8 0 rfl rfl i rfl (by omega) (by decide) dX2_many_40 ?_
          refine lv_aload_n hx hb dX2_many_41 rfl (lv_at hl 0 rfl) ?_
          refine va_get (D := (dC, dI)) (ci := 2) (v := .int lo) (C := RX2) (T := TX2) (N := 16) hx hb hts inlX2 hown hK hP 7 rfl rfl 4 (by decide) (hts _ km_58) (fun _ h9 => h9) rfl dX2_many_42 ?_
          refine fx_Ss (rest := [.int cc0]) (sq_unlike l (K i) lo (hs.2 i hi c_32) hs.1) hF (cw_RX2_64 hts ⟨Nat.le_of_ble_eq_true rfl, Nat.le_of_ble_eq_true rfl⟩) rfl hl.1 rfl (Nat.le_of_ble_eq_true rfl) dX2_many_45 ⟨Nat.le_of_ble_eq_true rfl, Nat.le_of_ble_eq_true rfl⟩ (fun r9 h9 => ?_)
          subst h9
          refine lv_iload_n hx hb dX2_many_48 rfl (lv_at hl 1 rfl) ?_
          refine lv_icmp_ne (tgt := 56) hx hb dX2_many_49 (by decide) (fun c_49 => ?_) (fun c_49 => ?_)
          · refine lv_iconst (v := 0) hx hb dX2_many_56 (by decide) ?_
            refine lv_iadd hx hb dX2_many_57 ?_
            refine lv_istore_n (lv' := [(2, .int (cc0 + 0)), (0, .ref (y 0)), (1, .int x), (3, .int (nI i))]) hx hb dX2_many_58 rfl hl (by decide) rfl (fun ls hl => ?_)
            refine lv_iinc (v := nI (i + 1)) (lv' := [(3, .int (nI (i + 1))), (2, .int (cc0 + 0)), (0, .ref (y 0)), (1, .int x)]) hx hb dX2_many_59 hl (k := 3) rfl (nI_1 i) (by decide) rfl (fun ls hl => ?_)
            refine lv_goto (tgt := 16) hx hb dX2_many_62 (by decide) ?_
            exact ih (i + 1) (cc0 + 0) ls (by omega) (by rw [← hq, mqcnt_s, if_neg (by simp [mqat, c_49])]) (lv_sub hl [2, 3, 1, 0] rfl)
          · refine lv_iconst (v := 1) hx hb dX2_many_52 (by decide) ?_
            refine lv_goto (tgt := 57) hx hb dX2_many_53 (by decide) ?_
            refine lv_iadd hx hb dX2_many_57 ?_
            refine lv_istore_n (lv' := [(2, .int (cc0 + 1)), (0, .ref (y 0)), (1, .int x), (3, .int (nI i))]) hx hb dX2_many_58 rfl hl (by decide) rfl (fun ls hl => ?_)
            refine lv_iinc (v := nI (i + 1)) (lv' := [(3, .int (nI (i + 1))), (2, .int (cc0 + 1)), (0, .ref (y 0)), (1, .int x)]) hx hb dX2_many_59 hl (k := 3) rfl (nI_1 i) (by decide) rfl (fun ls hl => ?_)
            refine lv_goto (tgt := 16) hx hb dX2_many_62 (by decide) ?_
            exact ih (i + 1) (cc0 + 1) ls (by omega) (by rw [← hq, mqcnt_s, if_pos (by simp [mqat, c_32, c_49])]) (lv_sub hl [2, 3, 1, 0] rfl)
  refine lv_iload_n hx hb dX2_many_0 rfl (lv_at hl 1 rfl) ?_
  refine lv_if_lt (tgt := 10) hx hb dX2_many_1 (by decide) (fun c_1 => ?_) (fun c_1 => ?_)
  · refine lv_iconst (v := (-1)) hx hb dX2_many_10 (by decide) ?_
    exact fx_sret hx hb hr hlocks dX2_many_11 (by unfold mqmany; rw [if_pos c_1])
  · refine lv_iload_n hx hb dX2_many_4 rfl (lv_at hl 1 rfl) ?_
    refine lv_bipush (v := 31) hx hb dX2_many_5 (by decide) ?_
    refine lv_icmp_le (tgt := 12) hx hb dX2_many_7 (by decide) (fun c_7 => ?_) (fun c_7 => ?_)
    · refine lv_iconst (v := 0) hx hb dX2_many_12 (by decide) ?_
      refine lv_istore_n (lv' := [(2, .int 0), (0, .ref (y 0)), (1, .int x)]) hx hb dX2_many_13 rfl hl (by decide) rfl (fun ls hl => ?_)
      refine lv_iconst (v := 0) hx hb dX2_many_14 (by decide) ?_
      refine lv_istore_n (lv' := [(3, .int 0), (2, .int 0), (0, .ref (y 0)), (1, .int x)]) hx hb dX2_many_15 rfl hl (by decide) rfl (fun ls hl => ?_)
      exact K0 n 0 0 ls rfl (by unfold mqmany; rw [if_neg c_1, if_pos c_7]) (lv_sub hl [2, 3, 1, 0] rfl)
    · refine lv_iconst (v := (-1)) hx hb dX2_many_10 (by decide) ?_
      exact fx_sret hx hb hr hlocks dX2_many_11 (by unfold mqmany; rw [if_neg c_1, if_neg c_7])
