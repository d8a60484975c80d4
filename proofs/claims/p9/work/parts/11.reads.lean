theorem cw_RX1_56 {R : Room} {s : State} {args : Array Value} {rm : Room} (hts : ∀ w ∈ wsL_law, w.before args s = true) (hR : rm.frames + 1 ≤ R.frames ∧ 8 + (2 + 11) + rm.locals ≤ R.locals) : CallW R s args RX1 RX1 56 yX1_isItem cX1_isItem 2 (some .boolean) (Cond.code yX1_isItem cX1_isItem 2 (some .boolean) :: wsL_law) rm rm.cells rm.slots 1 := cwV 1 hts (km_app (km_four km_66 km_67 km_68 km_2) (km_in km_69)) rfl rfl rfl (by decide +kernel) hR
theorem cw_RX1_123 {R : Room} {s : State} {args : Array Value} {rm : Room} (hts : ∀ w ∈ wsL_law, w.before args s = true) (hR : rm.frames + 1 ≤ R.frames ∧ 8 + (2 + 11) + rm.locals ≤ R.locals) : CallB R s args RX1 123 yJ6_numberOfLeadingZeros_0f7a4 cJ6_numberOfLeadingZeros_0f7a4 2 (some .int) (Cond.code yJ6_numberOfLeadingZeros_0f7a4 cJ6_numberOfLeadingZeros_0f7a4 2 (some .int) :: wsL_law) rm rm.cells rm.slots 1 ∧ (Cond.static yJ6_numberOfLeadingZeros_0f7a4).before args s = true := va_cwS 1 hts (km_app (km_three km_87 km_88 km_89) (km_in km_90)) rfl rfl rfl (by decide +kernel) hR
theorem cw_RX1_76 {R : Room} {s : State} {args : Array Value} {rm : Room} (hts : ∀ w ∈ wsL_law, w.before args s = true) (hR : rm.frames + 1 ≤ R.frames ∧ 8 + (2 + 11) + rm.locals ≤ R.locals) : CallW R s args RX1 RX1 76 yX1_bucketFor cX1_bucketFor 2 (some .int) (Cond.code yX1_bucketFor cX1_bucketFor 2 (some .int) :: wsL_law) rm rm.cells rm.slots 1 := cwV 1 hts (km_app (km_four km_83 km_84 km_85 km_2) (km_in km_86)) rfl rfl rfl (by decide +kernel) hR
set_option maxHeartbeats 4000000 in
set_option maxRecDepth 100000 in
theorem sp_isItem (l : Launch) (dC : Nat → ClassId) (dI : Nat → Nat → Nat) (A : Nat → Prop) (cI cA cZ : ClassId) (rest : va_W) (z : Nat → Nat) (n : Nat) (hn : n ≤ 40) (ar gl : Int32) (fl pr pg ky ac : Int32) (K B M Ds Bf : Nat → Int32) (L : Nat → Option Nat) (x : Int32)  : Met l yX1_isItem (Cond.code yX1_isItem cX1_isItem 2 (some .boolean) :: wsL_law) ({ frames := 0, cells := 0, slots := 0, locals := 0 } : Room) (va_Pc [.ref (z 0), .int x] (fx_Pre (dC, dI) classes (fq_ty cI cA cZ) A (wX z cI cA n ar gl fl pr pg ky ac K B M Ds Bf L ++ rest))) (vp_Si (fun r => (r = 1 ∧ ∃ j, j < n ∧ x = nI j) ∨ (r = 0 ∧ ∀ j, j < n → x ≠ nI j))) 0 0 (fun _ => False) := by
  refine Met.ofW (cc := cX1_isItem) (maxL := 2) (ret := (some .boolean)) (by decide) rfl ?_
  intro p e s m args below meth c s₁ B0 hml hv
  obtain ⟨rfl, hA, hP, hK, hD, hN⟩ := hv
  have hx := B0.exec
  have hb := B0.bytes
  have hr := B0.returns
  have hts0 := atoms_spec (ws := (Cond.code yX1_isItem cX1_isItem 2 (some .boolean) :: wsL_law)) B0.pre
  have hts := fun w (h : w ∈ wsL_law) => hts0 w (List.mem_cons_of_mem _ h)
  have hown : s.vm.findClass RX1 = some m.cls := findClass_of_methodNamed B0.named
  have hlocks := B0.notSynchronized
  have hF : CallFix p m c cX1_isItem 2 s ([.ref (z 0), .int x] : List Value).toArray wsL_law RX1 := ⟨hx, hb, hml, hown, hts⟩
  have hS : va_S A s.heap s.heap [] := va_S.rf
  have hl := lv_entry ([.ref (z 0), .int x]) (n := 2) (Nat.le_of_ble_eq_true rfl)
  rw [lg_entry_eq]
  generalize (lg_sl ([.ref (z 0), .int x]) ++ List.replicate (2 - (lg_sl ([.ref (z 0), .int x])).length) Slot.unset).toArray = ls at hl ⊢
  have hl : lv_has ls 2 [(0, .ref (z 0)), (1, .int x)] := hl
  have hn31 : n < 2 ^ 31 := by omega
  refine lv_iload_n hx hb dX1_isItem_0 rfl (lv_at hl 1 rfl) ?_
  refine lv_if_lt (tgt := 16) hx hb dX1_isItem_1 (by decide) (fun c_1 => ?_) (fun c_1 => ?_)
  · refine lv_iconst (v := 0) hx hb dX1_isItem_16 (by decide) ?_
    exact fx_bret hx hb hr (Or.inl rfl) hlocks dX1_isItem_17 (Or.inr ⟨rfl, fun j hj e => absurd c_1 (e ▸ nI_pos (by omega))⟩)
  · refine lv_iload_n hx hb dX1_isItem_4 rfl (lv_at hl 1 rfl) ?_
    refine lv_aload_n hx hb dX1_isItem_5 rfl (lv_at hl 0 rfl) ?_
    refine va_get (D := (dC, dI)) (ci := 0) (v := .int (nI n)) (C := RX1) (T := TX1) (N := 14) hx hb hts inlX1 hown hK hP 0 rfl rfl 0 (by decide) (hts _ km_23) (fun _ h9 => h9) rfl dX1_isItem_6 ?_
    refine lv_icmp_ge (tgt := 16) hx hb dX1_isItem_9 (by decide) (fun c_9 => ?_) (fun c_9 => ?_)
    · refine lv_iconst (v := 0) hx hb dX1_isItem_16 (by decide) ?_
      exact fx_bret hx hb hr (Or.inl rfl) hlocks dX1_isItem_17 (Or.inr ⟨rfl, fun j hj e => absurd c_9 (e ▸ nI_ge hj hn31)⟩)
    · refine lv_iconst (v := 1) hx hb dX1_isItem_12 (by decide) ?_
      refine lv_goto (tgt := 17) hx hb dX1_isItem_13 (by decide) ?_
      exact fx_bret hx hb hr (Or.inr rfl) hlocks dX1_isItem_17 (Or.inl ⟨rfl, fq_ix hn31 c_1 c_9⟩)
set_option maxHeartbeats 4000000 in
set_option maxRecDepth 100000 in
theorem sp_isThere (l : Launch) (dC : Nat → ClassId) (dI : Nat → Nat → Nat) (A : Nat → Prop) (cI cA cZ : ClassId) (rest : va_W) (z : Nat → Nat) (n : Nat) (hn : n ≤ 40) (ar gl : Int32) (fl pr pg ky ac : Int32) (K B M Ds Bf : Nat → Int32) (L : Nat → Option Nat) (x : Int32)  : Met l yX1_isThere (Cond.code yX1_isThere cX1_isThere 2 (some .boolean) :: wsL_law) ({ frames := 1, cells := 0, slots := 0, locals := 21 } : Room) (va_Pc [.ref (z 0), .int x] (fx_Pre (dC, dI) classes (fq_ty cI cA cZ) A (wX z cI cA n ar gl fl pr pg ky ac K B M Ds Bf L ++ rest))) (vp_Si (fun r => (r = 1 ∧ ∃ j, j < n ∧ x = nI j ∧ B j ≠ -1) ∨ (r = 0 ∧ ∀ j, j < n → x = nI j → B j = -1))) 0 0 (fun _ => False) := by
  refine Met.ofW (cc := cX1_isThere) (maxL := 2) (ret := (some .boolean)) (by decide) rfl ?_
  intro p e s m args below meth c s₁ B0 hml hv
  obtain ⟨rfl, hA, hP, hK, hD, hN⟩ := hv
  have hx := B0.exec
  have hb := B0.bytes
  have hr := B0.returns
  have hts0 := atoms_spec (ws := (Cond.code yX1_isThere cX1_isThere 2 (some .boolean) :: wsL_law)) B0.pre
  have hts := fun w (h : w ∈ wsL_law) => hts0 w (List.mem_cons_of_mem _ h)
  have hown : s.vm.findClass RX1 = some m.cls := findClass_of_methodNamed B0.named
  have hlocks := B0.notSynchronized
  have hF : CallFix p m c cX1_isThere 2 s ([.ref (z 0), .int x] : List Value).toArray wsL_law RX1 := ⟨hx, hb, hml, hown, hts⟩
  have hS : va_S A s.heap s.heap [] := va_S.rf
  have hl := lv_entry ([.ref (z 0), .int x]) (n := 2) (Nat.le_of_ble_eq_true rfl)
  rw [lg_entry_eq]
  generalize (lg_sl ([.ref (z 0), .int x]) ++ List.replicate (2 - (lg_sl ([.ref (z 0), .int x])).length) Slot.unset).toArray = ls at hl ⊢
  have hl : lv_has ls 2 [(0, .ref (z 0)), (1, .int x)] := hl
  have hn31 : n < 2 ^ 31 := by omega
  refine lv_aload_n hx hb dX1_isThere_0 rfl (lv_at hl 0 rfl) ?_
  refine lv_iload_n hx hb dX1_isThere_1 rfl (lv_at hl 1 rfl) ?_
  refine fx_Vs (rest := []) (sp_isItem l dC dI A cI cA cZ rest z n hn ar gl fl pr pg ky ac K B M Ds Bf L x) hF (cw_RX1_56 hts ⟨Nat.le_of_ble_eq_true rfl, Nat.le_of_ble_eq_true rfl⟩) hA hS hP hK hD hN 0 0 rfl rfl rfl hl.1 rfl (Nat.le_of_ble_eq_true rfl) dX1_isThere_2 ⟨Nat.le_of_ble_eq_true rfl, Nat.le_of_ble_eq_true rfl⟩ (fun r h => ?_)
  rcases h with ⟨rfl, ⟨j, hj, rfl⟩⟩ | ⟨rfl, h⟩
  · refine lv_if_eq (tgt := 22) hx hb dX1_isThere_5 (by decide) (fun h9 => absurd h9 (by decide)) (fun _ => ?_)
    refine lv_aload_n hx hb dX1_isThere_8 rfl (lv_at hl 0 rfl) ?_
    refine va_get (D := (dC, dI)) (ci := 0) (v := .ref (z 2)) (C := RX1) (T := TX1) (N := 14) hx hb hts inlX1 hown hK hP 0 rfl rfl 4 (by decide) (hts _ km_28) (fun _ h9 => h9) rfl dX1_isThere_9 ?_
    refine lv_iload_n hx hb dX1_isThere_12 rfl (lv_at hl 1 rfl) ?_
    refine fx_ald hx hb hK hP 2 0 rfl rfl j rfl hj hn31 dX1_isThere_13 ?_
    refine lv_iconst (v := (-1)) hx hb dX1_isThere_14 (by decide) ?_
    refine lv_icmp_eq (tgt := 22) hx hb dX1_isThere_15 (by decide) (fun c_15 => ?_) (fun c_15 => ?_)
    · refine lv_iconst (v := 0) hx hb dX1_isThere_22 (by decide) ?_
      exact fx_bret hx hb hr (Or.inl rfl) hlocks dX1_isThere_23 (Or.inr ⟨rfl, fun j9 hj9 e => by rw [← (nI_eq (by omega) (by omega)).mp e]; exact c_15⟩)
    · refine lv_iconst (v := 1) hx hb dX1_isThere_18 (by decide) ?_
      refine lv_goto (tgt := 23) hx hb dX1_isThere_19 (by decide) ?_
      exact fx_bret hx hb hr (Or.inr rfl) hlocks dX1_isThere_23 (Or.inl ⟨rfl, j, hj, rfl, c_15⟩)
  · refine lv_if_eq (tgt := 22) hx hb dX1_isThere_5 (by decide) (fun _ => ?_) (fun h9 => absurd h9 (by decide))
    refine lv_iconst (v := 0) hx hb dX1_isThere_22 (by decide) ?_
    exact fx_bret hx hb hr (Or.inl rfl) hlocks dX1_isThere_23 (Or.inr ⟨rfl, fun j hj e => absurd e (h j hj)⟩)
set_option maxHeartbeats 4000000 in
set_option maxRecDepth 100000 in
theorem sp_bucketFor (l : Launch) (dC : Nat → ClassId) (dI : Nat → Nat → Nat) (A : Nat → Prop) (cI cA cZ : ClassId) (rest : va_W) (z : Nat → Nat) (n : Nat) (hn : n ≤ 40) (ar gl : Int32) (fl pr pg ky ac : Int32) (K B M Ds Bf : Nat → Int32) (L : Nat → Option Nat) (x : Int32) (hx0 : ¬ x < 0) (hfl : ¬ fl < 0) : Met l yX1_bucketFor (Cond.code yX1_bucketFor cX1_bucketFor 2 (some .int) :: wsL_law) ({ frames := 1, cells := 0, slots := 0, locals := 21 } : Room) (va_Pc [.ref (z 0), .int x] (fx_Pre (dC, dI) classes (fq_ty cI cA cZ) A (wX z cI cA n ar gl fl pr pg ky ac K B M Ds Bf L ++ rest))) (vp_Si (fun r => r = nI (fqk x fl))) 0 0 (fun _ => False) := by
  refine Met.ofW (cc := cX1_bucketFor) (maxL := 2) (ret := (some .int)) (by decide) rfl ?_
  intro p e s m args below meth c s₁ B0 hml hv
  obtain ⟨rfl, hA, hP, hK, hD, hN⟩ := hv
  have hx := B0.exec
  have hb := B0.bytes
  have hr := B0.returns
  have hts0 := atoms_spec (ws := (Cond.code yX1_bucketFor cX1_bucketFor 2 (some .int) :: wsL_law)) B0.pre
  have hts := fun w (h : w ∈ wsL_law) => hts0 w (List.mem_cons_of_mem _ h)
  have hown : s.vm.findClass RX1 = some m.cls := findClass_of_methodNamed B0.named
  have hlocks := B0.notSynchronized
  have hF : CallFix p m c cX1_bucketFor 2 s ([.ref (z 0), .int x] : List Value).toArray wsL_law RX1 := ⟨hx, hb, hml, hown, hts⟩
  have hS : va_S A s.heap s.heap [] := va_S.rf
  have hl := lv_entry ([.ref (z 0), .int x]) (n := 2) (Nat.le_of_ble_eq_true rfl)
  rw [lg_entry_eq]
  generalize (lg_sl ([.ref (z 0), .int x]) ++ List.replicate (2 - (lg_sl ([.ref (z 0), .int x])).length) Slot.unset).toArray = ls at hl ⊢
  have hl : lv_has ls 2 [(0, .ref (z 0)), (1, .int x)] := hl
  have hn31 : n < 2 ^ 31 := by omega
  refine lv_bipush (v := 32) hx hb dX1_bucketFor_0 (by decide) ?_
  refine lv_iload_n hx hb dX1_bucketFor_2 rfl (lv_at hl 1 rfl) ?_
  refine lv_aload_n hx hb dX1_bucketFor_3 rfl (lv_at hl 0 rfl) ?_
  refine va_get (D := (dC, dI)) (ci := 0) (v := .int fl) (C := RX1) (T := TX1) (N := 14) hx hb hts inlX1 hown hK hP 0 rfl rfl 6 (by decide) (hts _ km_63) (fun _ h9 => h9) rfl dX1_bucketFor_4 ?_
  refine lv_ixor hx hb dX1_bucketFor_7 ?_
  have e1 : x ^^^ fl = nI (fqn x ^^^ fqn fl) := by
    have h1 := nx_xor (fqn x) (fqn fl)
    rw [nI_fqn hx0, nI_fqn hfl] at h1
    exact h1
  refine fx_is e1 ?_
  refine fx_Ss (rest := [.int 32]) (sp_nlz l (fqn x ^^^ fqn fl) (Nat.xor_lt_two_pow (fqn_lt x) (fqn_lt fl))) hF (cw_RX1_123 hts ⟨Nat.le_of_ble_eq_true rfl, Nat.le_of_ble_eq_true rfl⟩) rfl hl.1 rfl (Nat.le_of_ble_eq_true rfl) dX1_bucketFor_8 ⟨Nat.le_of_ble_eq_true rfl, Nat.le_of_ble_eq_true rfl⟩ (fun r h => ?_)
  subst h
  refine lv_isub hx hb dX1_bucketFor_11 ?_
  exact fx_sret hx hb hr hlocks dX1_bucketFor_12 (by have h2 := fqk_lt x fl; unfold fqk at h2 ⊢; show nI 32 - nI (32 - _) = _; rw [pk_sub (by omega)]; congr 1; omega)
set_option maxHeartbeats 4000000 in
set_option maxRecDepth 100000 in
theorem sp_isWhere (l : Launch) (dC : Nat → ClassId) (dI : Nat → Nat → Nat) (A : Nat → Prop) (cI cA cZ : ClassId) (rest : va_W) (z : Nat → Nat) (n : Nat) (hn : n ≤ 40) (ar gl : Int32) (fl pr pg ky ac : Int32) (K B M Ds Bf : Nat → Int32) (L : Nat → Option Nat) (j : Nat) (hj : j < n) (hk0 : ¬ K j < 0) (hfl : ¬ fl < 0) : Met l yX1_isWhereItBelongs (Cond.code yX1_isWhereItBelongs cX1_isWhereItBelongs 2 (some .boolean) :: wsL_law) ({ frames := 2, cells := 0, slots := 0, locals := 42 } : Room) (va_Pc [.ref (z 0), .int (nI j)] (fx_Pre (dC, dI) classes (fq_ty cI cA cZ) A (wX z cI cA n ar gl fl pr pg ky ac K B M Ds Bf L ++ rest))) (vp_Si (fun r => (r = 1 ∧ fl ≤ K j ∧ B j = nI (fqk (K j) fl)) ∨ (r = 0 ∧ ¬ (fl ≤ K j ∧ B j = nI (fqk (K j) fl))))) 0 0 (fun _ => False) := by
  refine Met.ofW (cc := cX1_isWhereItBelongs) (maxL := 2) (ret := (some .boolean)) (by decide) rfl ?_
  intro p e s m args below meth c s₁ B0 hml hv
  obtain ⟨rfl, hA, hP, hK, hD, hN⟩ := hv
  have hx := B0.exec
  have hb := B0.bytes
  have hr := B0.returns
  have hts0 := atoms_spec (ws := (Cond.code yX1_isWhereItBelongs cX1_isWhereItBelongs 2 (some .boolean) :: wsL_law)) B0.pre
  have hts := fun w (h : w ∈ wsL_law) => hts0 w (List.mem_cons_of_mem _ h)
  have hown : s.vm.findClass RX1 = some m.cls := findClass_of_methodNamed B0.named
  have hlocks := B0.notSynchronized
  have hF : CallFix p m c cX1_isWhereItBelongs 2 s ([.ref (z 0), .int (nI j)] : List Value).toArray wsL_law RX1 := ⟨hx, hb, hml, hown, hts⟩
  have hS : va_S A s.heap s.heap [] := va_S.rf
  have hl := lv_entry ([.ref (z 0), .int (nI j)]) (n := 2) (Nat.le_of_ble_eq_true rfl)
  rw [lg_entry_eq]
  generalize (lg_sl ([.ref (z 0), .int (nI j)]) ++ List.replicate (2 - (lg_sl ([.ref (z 0), .int (nI j)])).length) Slot.unset).toArray = ls at hl ⊢
  have hl : lv_has ls 2 [(0, .ref (z 0)), (1, .int (nI j))] := hl
  have hn31 : n < 2 ^ 31 := by omega
  refine lv_aload_n hx hb dX1_isWhereItBelongs_0 rfl (lv_at hl 0 rfl) ?_
  refine va_get (D := (dC, dI)) (ci := 0) (v := .ref (z 1)) (C := RX1) (T := TX1) (N := 14) hx hb hts inlX1 hown hK hP 0 rfl rfl 3 (by decide) (hts _ km_27) (fun _ h9 => h9) rfl dX1_isWhereItBelongs_1 ?_
  refine lv_iload_n hx hb dX1_isWhereItBelongs_4 rfl (lv_at hl 1 rfl) ?_
  refine fx_ald hx hb hK hP 1 0 rfl rfl j rfl hj hn31 dX1_isWhereItBelongs_5 ?_
  refine lv_aload_n hx hb dX1_isWhereItBelongs_6 rfl (lv_at hl 0 rfl) ?_
  refine va_get (D := (dC, dI)) (ci := 0) (v := .int fl) (C := RX1) (T := TX1) (N := 14) hx hb hts inlX1 hown hK hP 0 rfl rfl 6 (by decide) (hts _ km_63) (fun _ h9 => h9) rfl dX1_isWhereItBelongs_7 ?_
  refine lv_icmp_lt (tgt := 36) hx hb dX1_isWhereItBelongs_10 (by decide) (fun c_10 => ?_) (fun c_10 => ?_)
  · refine lv_iconst (v := 0) hx hb dX1_isWhereItBelongs_36 (by decide) ?_
    exact fx_bret hx hb hr (Or.inl rfl) hlocks dX1_isWhereItBelongs_37 (Or.inr ⟨rfl, fun h9 => absurd c_10 (Int32.not_lt.mpr h9.1)⟩)
  · refine lv_aload_n hx hb dX1_isWhereItBelongs_13 rfl (lv_at hl 0 rfl) ?_
    refine va_get (D := (dC, dI)) (ci := 0) (v := .ref (z 2)) (C := RX1) (T := TX1) (N := 14) hx hb hts inlX1 hown hK hP 0 rfl rfl 4 (by decide) (hts _ km_28) (fun _ h9 => h9) rfl dX1_isWhereItBelongs_14 ?_
    refine lv_iload_n hx hb dX1_isWhereItBelongs_17 rfl (lv_at hl 1 rfl) ?_
    refine fx_ald hx hb hK hP 2 0 rfl rfl j rfl hj hn31 dX1_isWhereItBelongs_18 ?_
    refine lv_aload_n hx hb dX1_isWhereItBelongs_19 rfl (lv_at hl 0 rfl) ?_
    refine lv_aload_n hx hb dX1_isWhereItBelongs_20 rfl (lv_at hl 0 rfl) ?_
    refine va_get (D := (dC, dI)) (ci := 0) (v := .ref (z 1)) (C := RX1) (T := TX1) (N := 14) hx hb hts inlX1 hown hK hP 0 rfl rfl 3 (by decide) (hts _ km_27) (fun _ h9 => h9) rfl dX1_isWhereItBelongs_21 ?_
    refine lv_iload_n hx hb dX1_isWhereItBelongs_24 rfl (lv_at hl 1 rfl) ?_
    refine fx_ald hx hb hK hP 1 0 rfl rfl j rfl hj hn31 dX1_isWhereItBelongs_25 ?_
    refine fx_Vs (rest := [.int (B j)]) (sp_bucketFor l dC dI A cI cA cZ rest z n hn ar gl fl pr pg ky ac K B M Ds Bf L (K j) hk0 hfl) hF (cw_RX1_76 hts ⟨Nat.le_of_ble_eq_true rfl, Nat.le_of_ble_eq_true rfl⟩) hA hS hP hK hD hN 0 0 rfl rfl rfl hl.1 rfl (Nat.le_of_ble_eq_true rfl) dX1_isWhereItBelongs_26 ⟨Nat.le_of_ble_eq_true rfl, Nat.le_of_ble_eq_true rfl⟩ (fun r h => ?_)
    subst h
    refine lv_icmp_ne (tgt := 36) hx hb dX1_isWhereItBelongs_29 (by decide) (fun c_29 => ?_) (fun c_29 => ?_)
    · refine lv_iconst (v := 0) hx hb dX1_isWhereItBelongs_36 (by decide) ?_
      exact fx_bret hx hb hr (Or.inl rfl) hlocks dX1_isWhereItBelongs_37 (Or.inr ⟨rfl, fun h9 => c_29 h9.2⟩)
    · refine lv_iconst (v := 1) hx hb dX1_isWhereItBelongs_32 (by decide) ?_
      refine lv_goto (tgt := 37) hx hb dX1_isWhereItBelongs_33 (by decide) ?_
      exact fx_bret hx hb hr (Or.inr rfl) hlocks dX1_isWhereItBelongs_37 (Or.inl ⟨rfl, Int32.not_lt.mp c_10, c_29⟩)
