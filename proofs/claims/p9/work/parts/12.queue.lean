theorem cw_RX1_128 {R : Room} {s : State} {args : Array Value} {rm : Room} (hts : ∀ w ∈ wsL_law, w.before args s = true) (hR : rm.frames + 1 ≤ R.frames ∧ 8 + (3 + 11) + rm.locals ≤ R.locals) : CallW R s args RX1 RX1 128 yX1_leaveBucket cX1_leaveBucket 3 none (Cond.code yX1_leaveBucket cX1_leaveBucket 3 none :: wsL_law) rm rm.cells rm.slots 1 := cwV 1 hts (km_app (km_four km_79 km_80 km_81 km_2) (km_in km_82)) rfl rfl rfl (by decide +kernel) hR
theorem cw_RX1_60 {R : Room} {s : State} {args : Array Value} {rm : Room} (hts : ∀ w ∈ wsL_law, w.before args s = true) (hR : rm.frames + 1 ≤ R.frames ∧ 8 + (2 + 11) + rm.locals ≤ R.locals) : CallW R s args RX1 RX1 60 yX1_isThere cX1_isThere 2 (some .boolean) (Cond.code yX1_isThere cX1_isThere 2 (some .boolean) :: wsL_law) rm rm.cells rm.slots 1 := cwV 1 hts (km_app (km_four km_70 km_71 km_72 km_2) (km_in km_73)) rfl rfl rfl (by decide +kernel) hR
set_option maxHeartbeats 4000000 in
set_option maxRecDepth 100000 in
theorem sp_leave (l : Launch) (dC : Nat → ClassId) (dI : Nat → Nat → Nat) (A : Nat → Prop) (cI cA cZ : ClassId) (rest : va_W) (z : Nat → Nat) (n : Nat) (hn : n ≤ 40) (ar gl : Int32) (fl pr pg ky ac : Int32) (K B M Ds Bf : Nat → Int32) (L : Nat → Option Nat) (j : Nat) (hj : j < n) (hB : B j = -1 ∨ ∃ b, b < 32 ∧ B j = nI b) : Met l yX1_leaveBucket (Cond.code yX1_leaveBucket cX1_leaveBucket 3 none :: wsL_law) ({ frames := 0, cells := 0, slots := 0, locals := 0 } : Room) (va_Pc [.ref (z 0), .int (nI j)] (fx_Pre (dC, dI) classes (fq_ty cI cA cZ) A (wX z cI cA n ar gl fl pr pg ky ac K B M Ds Bf L ++ rest))) (va_Qv (S := fqQ) (fun u => u = fqleave (fl, pr, pg, ky, K, B, M) j) (fx_B (dC, dI) classes (fq_ty cI cA cZ) A (fun u : fqQ => wX z cI cA n ar gl u.1 u.2.1 u.2.2.1 u.2.2.2.1 ac u.2.2.2.2.1 u.2.2.2.2.2.1 u.2.2.2.2.2.2 Ds Bf L ++ rest)) A) 0 0 A := by
  refine Met.ofW (cc := cX1_leaveBucket) (maxL := 3) (ret := none) (by decide) rfl ?_
  intro p e s m args below meth c s₁ B0 hml hv
  obtain ⟨rfl, hA, hP, hK, hD, hN⟩ := hv
  have hx := B0.exec
  have hb := B0.bytes
  have hr := B0.returns
  have hts0 := atoms_spec (ws := (Cond.code yX1_leaveBucket cX1_leaveBucket 3 none :: wsL_law)) B0.pre
  have hts := fun w (h : w ∈ wsL_law) => hts0 w (List.mem_cons_of_mem _ h)
  have hown : s.vm.findClass RX1 = some m.cls := findClass_of_methodNamed B0.named
  have hlocks := B0.notSynchronized
  have hF : CallFix p m c cX1_leaveBucket 3 s ([.ref (z 0), .int (nI j)] : List Value).toArray wsL_law RX1 := ⟨hx, hb, hml, hown, hts⟩
  have hS : va_S A s.heap s.heap [] := va_S.rf
  have hl := lv_entry ([.ref (z 0), .int (nI j)]) (n := 3) (Nat.le_of_ble_eq_true rfl)
  rw [lg_entry_eq]
  generalize (lg_sl ([.ref (z 0), .int (nI j)]) ++ List.replicate (3 - (lg_sl ([.ref (z 0), .int (nI j)])).length) Slot.unset).toArray = ls at hl ⊢
  have hl : lv_has ls 3 [(0, .ref (z 0)), (1, .int (nI j))] := hl
  have hn31 : n < 2 ^ 31 := by omega
  refine lv_aload_n hx hb dX1_leaveBucket_0 rfl (lv_at hl 0 rfl) ?_
  refine va_get (D := (dC, dI)) (ci := 0) (v := .ref (z 2)) (C := RX1) (T := TX1) (N := 14) hx hb hts inlX1 hown hK hP 0 rfl rfl 4 (by decide) (hts _ km_28) (fun _ h9 => h9) rfl dX1_leaveBucket_1 ?_
  refine lv_iload_n hx hb dX1_leaveBucket_4 rfl (lv_at hl 1 rfl) ?_
  refine fx_ald hx hb hK hP 2 0 rfl rfl j rfl hj hn31 dX1_leaveBucket_5 ?_
  refine lv_istore_n (lv' := [(2, .int (B j)), (0, .ref (z 0)), (1, .int (nI j))]) hx hb dX1_leaveBucket_6 rfl hl (by decide) rfl (fun ls hl => ?_)
  refine lv_iload_n hx hb dX1_leaveBucket_7 rfl (lv_at hl 0 rfl) ?_
  refine lv_iconst (v := (-1)) hx hb dX1_leaveBucket_8 (by decide) ?_
  refine lv_icmp_eq (tgt := 29) hx hb dX1_leaveBucket_9 (by decide) (fun c_9 => ?_) (fun c_9 => ?_)
  · exact fx_vret hx hb hr hlocks hK hS dX1_leaveBucket_29 (fl, pr, pg, ky, K, B, M) (by simp only [fqleave]; rw [if_pos c_9]) hP hD
  · obtain ⟨b, hb32, hbe⟩ := hB.resolve_left c_9
    refine lv_aload_n hx hb dX1_leaveBucket_12 rfl (lv_at hl 1 rfl) ?_
    refine va_get (D := (dC, dI)) (ci := 0) (v := .ref (z 3)) (C := RX1) (T := TX1) (N := 14) hx hb hts inlX1 hown hK hP 0 rfl rfl 5 (by decide) (hts _ km_29) (fun _ h9 => h9) rfl dX1_leaveBucket_13 ?_
    refine lv_iload_n hx hb dX1_leaveBucket_16 rfl (lv_at hl 0 rfl) ?_
    refine lv_dup2_11 hx hb dX1_leaveBucket_17 rfl rfl ?_
    refine fx_ald hx hb hK hP 3 0 rfl rfl b hbe hb32 (by decide) dX1_leaveBucket_18 ?_
    refine lv_iconst (v := 1) hx hb dX1_leaveBucket_19 (by decide) ?_
    refine lv_isub hx hb dX1_leaveBucket_20 ?_
    refine fx_ast hx hb hK hP hD hS 3 0 rfl rfl b hbe hb32 (by decide) dX1_leaveBucket_21 (fun H locs hP hD hS => ?_)
    have hP : va_P (dC, dI) classes (wX z cI cA n ar gl fl pr pg ky ac K B (upd M b ((M b) - 1)) Ds Bf L ++ rest) H := hP
    have hD : va_D A (wX z cI cA n ar gl fl pr pg ky ac K B (upd M b ((M b) - 1)) Ds Bf L ++ rest) := hD
    refine lv_aload_n hx hb dX1_leaveBucket_22 rfl (lv_at hl 1 rfl) ?_
    refine va_get (D := (dC, dI)) (ci := 0) (v := .ref (z 2)) (C := RX1) (T := TX1) (N := 14) hx hb hts inlX1 hown hK hP 0 rfl rfl 4 (by decide) (hts _ km_28) (fun _ h9 => h9) rfl dX1_leaveBucket_23 ?_
    refine lv_iload_n hx hb dX1_leaveBucket_26 rfl (lv_at hl 2 rfl) ?_
    refine lv_iconst (v := (-1)) hx hb dX1_leaveBucket_27 (by decide) ?_
    refine fx_ast hx hb hK hP hD hS 2 0 rfl rfl j rfl hj hn31 dX1_leaveBucket_28 (fun H locs hP hD hS => ?_)
    have hP : va_P (dC, dI) classes (wX z cI cA n ar gl fl pr pg ky ac K (upd B j (-1)) (upd M b ((M b) - 1)) Ds Bf L ++ rest) H := hP
    have hD : va_D A (wX z cI cA n ar gl fl pr pg ky ac K (upd B j (-1)) (upd M b ((M b) - 1)) Ds Bf L ++ rest) := hD
    exact fx_vret hx hb hr hlocks hK hS dX1_leaveBucket_29 (fl, pr, pg, ky, K, upd B j (-1), upd M b ((M b) - 1)) (by simp only [fqleave]; rw [if_neg c_9, hbe, fqn_nI (by omega)]) hP hD
set_option maxHeartbeats 4000000 in
set_option maxRecDepth 100000 in
theorem sp_put (l : Launch) (dC : Nat → ClassId) (dI : Nat → Nat → Nat) (A : Nat → Prop) (cI cA cZ : ClassId) (rest : va_W) (z : Nat → Nat) (n : Nat) (hn : n ≤ 40) (ar gl : Int32) (fl pr pg ky ac : Int32) (K B M Ds Bf : Nat → Int32) (L : Nat → Option Nat) (j : Nat) (hj : j < n) (hB : B j = -1 ∨ ∃ b, b < 32 ∧ B j = nI b) (hk0 : ¬ K j < 0) (hfl : ¬ fl < 0) : Met l yX1_putIntoBucket (Cond.code yX1_putIntoBucket cX1_putIntoBucket 3 none :: wsL_law) ({ frames := 2, cells := 0, slots := 0, locals := 42 } : Room) (va_Pc [.ref (z 0), .int (nI j)] (fx_Pre (dC, dI) classes (fq_ty cI cA cZ) A (wX z cI cA n ar gl fl pr pg ky ac K B M Ds Bf L ++ rest))) (va_Qv (S := fqQ) (fun u => u = fqput (fl, pr, pg, ky, K, B, M) j) (fx_B (dC, dI) classes (fq_ty cI cA cZ) A (fun u : fqQ => wX z cI cA n ar gl u.1 u.2.1 u.2.2.1 u.2.2.2.1 ac u.2.2.2.2.1 u.2.2.2.2.2.1 u.2.2.2.2.2.2 Ds Bf L ++ rest)) A) 0 0 A := by
  refine Met.ofW (cc := cX1_putIntoBucket) (maxL := 3) (ret := none) (by decide) rfl ?_
  intro p e s m args below meth c s₁ B0 hml hv
  obtain ⟨rfl, hA, hP, hK, hD, hN⟩ := hv
  have hx := B0.exec
  have hb := B0.bytes
  have hr := B0.returns
  have hts0 := atoms_spec (ws := (Cond.code yX1_putIntoBucket cX1_putIntoBucket 3 none :: wsL_law)) B0.pre
  have hts := fun w (h : w ∈ wsL_law) => hts0 w (List.mem_cons_of_mem _ h)
  have hown : s.vm.findClass RX1 = some m.cls := findClass_of_methodNamed B0.named
  have hlocks := B0.notSynchronized
  have hF : CallFix p m c cX1_putIntoBucket 3 s ([.ref (z 0), .int (nI j)] : List Value).toArray wsL_law RX1 := ⟨hx, hb, hml, hown, hts⟩
  have hS : va_S A s.heap s.heap [] := va_S.rf
  have hl := lv_entry ([.ref (z 0), .int (nI j)]) (n := 3) (Nat.le_of_ble_eq_true rfl)
  rw [lg_entry_eq]
  generalize (lg_sl ([.ref (z 0), .int (nI j)]) ++ List.replicate (3 - (lg_sl ([.ref (z 0), .int (nI j)])).length) Slot.unset).toArray = ls at hl ⊢
  have hl : lv_has ls 3 [(0, .ref (z 0)), (1, .int (nI j))] := hl
  have hn31 : n < 2 ^ 31 := by omega
  refine lv_aload_n hx hb dX1_putIntoBucket_0 rfl (lv_at hl 0 rfl) ?_
  refine lv_iload_n hx hb dX1_putIntoBucket_1 rfl (lv_at hl 1 rfl) ?_
  refine fx_Vv (rest := []) (sp_leave l dC dI A cI cA cZ rest z n hn ar gl fl pr pg ky ac K B M Ds Bf L j hj hB) hF (cw_RX1_128 hts ⟨Nat.le_of_ble_eq_true rfl, Nat.le_of_ble_eq_true rfl⟩) hA hS hP hK hD hN 0 0 rfl rfl rfl hl.1 rfl (Nat.le_of_ble_eq_true rfl) dX1_putIntoBucket_2 ⟨Nat.le_of_ble_eq_true rfl, Nat.le_of_ble_eq_true rfl⟩ (fun u H locs h hP hD hS => ?_)
  obtain ⟨B1, M1, e1⟩ := fqleave_form fl pr pg ky K B M j
  subst h
  rw [e1] at hP hD
  have hP : va_P (dC, dI) classes (wX z cI cA n ar gl fl pr pg ky ac K B1 M1 Ds Bf L ++ rest) H := hP
  have hD : va_D A (wX z cI cA n ar gl fl pr pg ky ac K B1 M1 Ds Bf L ++ rest) := hD
  refine lv_aload_n hx hb dX1_putIntoBucket_5 rfl (lv_at hl 0 rfl) ?_
  refine lv_aload_n hx hb dX1_putIntoBucket_6 rfl (lv_at hl 0 rfl) ?_
  refine va_get (D := (dC, dI)) (ci := 0) (v := .ref (z 1)) (C := RX1) (T := TX1) (N := 14) hx hb hts inlX1 hown hK hP 0 rfl rfl 3 (by decide) (hts _ km_27) (fun _ h9 => h9) rfl dX1_putIntoBucket_7 ?_
  refine lv_iload_n hx hb dX1_putIntoBucket_10 rfl (lv_at hl 1 rfl) ?_
  refine fx_ald hx hb hK hP 1 0 rfl rfl j rfl hj hn31 dX1_putIntoBucket_11 ?_
  refine fx_Vs (rest := []) (sp_bucketFor l dC dI A cI cA cZ rest z n hn ar gl fl pr pg ky ac K B1 M1 Ds Bf L (K j) hk0 hfl) hF (cw_RX1_76 hts ⟨Nat.le_of_ble_eq_true rfl, Nat.le_of_ble_eq_true rfl⟩) hA hS hP hK hD hN 0 0 rfl rfl rfl hl.1 rfl (Nat.le_of_ble_eq_true rfl) dX1_putIntoBucket_12 ⟨Nat.le_of_ble_eq_true rfl, Nat.le_of_ble_eq_true rfl⟩ (fun r h => ?_)
  subst h
  refine lv_istore_n (lv' := [(2, .int (nI (fqk (K j) fl))), (0, .ref (z 0)), (1, .int (nI j))]) hx hb dX1_putIntoBucket_15 rfl hl (by decide) rfl (fun ls hl => ?_)
  refine lv_aload_n hx hb dX1_putIntoBucket_16 rfl (lv_at hl 1 rfl) ?_
  refine va_get (D := (dC, dI)) (ci := 0) (v := .ref (z 2)) (C := RX1) (T := TX1) (N := 14) hx hb hts inlX1 hown hK hP 0 rfl rfl 4 (by decide) (hts _ km_28) (fun _ h9 => h9) rfl dX1_putIntoBucket_17 ?_
  refine lv_iload_n hx hb dX1_putIntoBucket_20 rfl (lv_at hl 2 rfl) ?_
  refine lv_iload_n hx hb dX1_putIntoBucket_21 rfl (lv_at hl 0 rfl) ?_
  refine fx_ast hx hb hK hP hD hS 2 0 rfl rfl j rfl hj hn31 dX1_putIntoBucket_22 (fun H locs hP hD hS => ?_)
  have hP : va_P (dC, dI) classes (wX z cI cA n ar gl fl pr pg ky ac K (upd B1 j (nI (fqk (K j) fl))) M1 Ds Bf L ++ rest) H := hP
  have hD : va_D A (wX z cI cA n ar gl fl pr pg ky ac K (upd B1 j (nI (fqk (K j) fl))) M1 Ds Bf L ++ rest) := hD
  refine lv_aload_n hx hb dX1_putIntoBucket_23 rfl (lv_at hl 1 rfl) ?_
  refine va_get (D := (dC, dI)) (ci := 0) (v := .ref (z 3)) (C := RX1) (T := TX1) (N := 14) hx hb hts inlX1 hown hK hP 0 rfl rfl 5 (by decide) (hts _ km_29) (fun _ h9 => h9) rfl dX1_putIntoBucket_24 ?_
  refine lv_iload_n hx hb dX1_putIntoBucket_27 rfl (lv_at hl 0 rfl) ?_
  refine lv_dup2_11 hx hb dX1_putIntoBucket_28 rfl rfl ?_
  refine fx_ald hx hb hK hP 3 0 rfl rfl (fqk (K j) fl) rfl (fqk_lt _ _) (by decide) dX1_putIntoBucket_29 ?_
  refine lv_iconst (v := 1) hx hb dX1_putIntoBucket_30 (by decide) ?_
  refine lv_iadd hx hb dX1_putIntoBucket_31 ?_
  refine fx_ast hx hb hK hP hD hS 3 0 rfl rfl (fqk (K j) fl) rfl (fqk_lt _ _) (by decide) dX1_putIntoBucket_32 (fun H locs hP hD hS => ?_)
  have hP : va_P (dC, dI) classes (wX z cI cA n ar gl fl pr pg ky ac K (upd B1 j (nI (fqk (K j) fl))) (upd M1 (fqk (K j) fl) ((M1 (fqk (K j) fl)) + 1)) Ds Bf L ++ rest) H := hP
  have hD : va_D A (wX z cI cA n ar gl fl pr pg ky ac K (upd B1 j (nI (fqk (K j) fl))) (upd M1 (fqk (K j) fl) ((M1 (fqk (K j) fl)) + 1)) Ds Bf L ++ rest) := hD
  refine lv_aload_n hx hb dX1_putIntoBucket_33 rfl (lv_at hl 1 rfl) ?_
  refine lv_dup hx hb dX1_putIntoBucket_34 rfl ?_
  refine va_get (D := (dC, dI)) (ci := 0) (v := .int pg) (C := RX1) (T := TX1) (N := 14) hx hb hts inlX1 hown hK hP 0 rfl rfl 8 (by decide) (hts _ km_78) (fun _ h9 => h9) rfl dX1_putIntoBucket_35 ?_
  refine lv_iconst (v := 1) hx hb dX1_putIntoBucket_38 (by decide) ?_
  refine lv_iadd hx hb dX1_putIntoBucket_39 ?_
  refine va_put (D := (dC, dI)) (ci := 0) (v := .int (pg + 1)) (ty := .int) (C := RX1) (T := TX1) (N := 14) hx hb hts inlX1 tyX1 tyX1_ok nmX1 hown hK hP hD hS 0 rfl rfl 8 (by decide) (hts _ km_78) (fun _ h9 => h9) rfl (by decide +kernel) rfl rfl (Nat.le_of_ble_eq_true rfl) dX1_putIntoBucket_40 (fun H locs hP hD hS => ?_)
  have hP : va_P (dC, dI) classes (wX z cI cA n ar gl fl pr (pg + 1) ky ac K (upd B1 j (nI (fqk (K j) fl))) (upd M1 (fqk (K j) fl) ((M1 (fqk (K j) fl)) + 1)) Ds Bf L ++ rest) H := hP
  have hD : va_D A (wX z cI cA n ar gl fl pr (pg + 1) ky ac K (upd B1 j (nI (fqk (K j) fl))) (upd M1 (fqk (K j) fl) ((M1 (fqk (K j) fl)) + 1)) Ds Bf L ++ rest) := hD
  exact fx_vret hx hb hr hlocks hK hS dX1_putIntoBucket_43 (fl, pr, pg + 1, ky, K, upd B1 j (nI (fqk (K j) fl)), upd M1 (fqk (K j) fl) ((M1 (fqk (K j) fl)) + 1)) (by unfold fqput; rw [e1]) hP hD
set_option maxHeartbeats 4000000 in
set_option maxRecDepth 100000 in
theorem sp_take (l : Launch) (dC : Nat → ClassId) (dI : Nat → Nat → Nat) (A : Nat → Prop) (cI cA cZ : ClassId) (rest : va_W) (z : Nat → Nat) (n : Nat) (hn : n ≤ 40) (ar gl : Int32) (fl pr pg ky ac : Int32) (K B M Ds Bf : Nat → Int32) (L : Nat → Option Nat) (j : Nat) (hj : j < n) (hB : B j = -1 ∨ ∃ b, b < 32 ∧ B j = nI b) : Met l yX1_takeOut (Cond.code yX1_takeOut cX1_takeOut 2 none :: wsL_law) ({ frames := 1, cells := 0, slots := 0, locals := 22 } : Room) (va_Pc [.ref (z 0), .int (nI j)] (fx_Pre (dC, dI) classes (fq_ty cI cA cZ) A (wX z cI cA n ar gl fl pr pg ky ac K B M Ds Bf L ++ rest))) (va_Qv (S := fqQ) (fun u => u = fqtake (fl, pr, pg, ky, K, B, M) j) (fx_B (dC, dI) classes (fq_ty cI cA cZ) A (fun u : fqQ => wX z cI cA n ar gl u.1 u.2.1 u.2.2.1 u.2.2.2.1 ac u.2.2.2.2.1 u.2.2.2.2.2.1 u.2.2.2.2.2.2 Ds Bf L ++ rest)) A) 0 0 A := by
  refine Met.ofW (cc := cX1_takeOut) (maxL := 2) (ret := none) (by decide) rfl ?_
  intro p e s m args below meth c s₁ B0 hml hv
  obtain ⟨rfl, hA, hP, hK, hD, hN⟩ := hv
  have hx := B0.exec
  have hb := B0.bytes
  have hr := B0.returns
  have hts0 := atoms_spec (ws := (Cond.code yX1_takeOut cX1_takeOut 2 none :: wsL_law)) B0.pre
  have hts := fun w (h : w ∈ wsL_law) => hts0 w (List.mem_cons_of_mem _ h)
  have hown : s.vm.findClass RX1 = some m.cls := findClass_of_methodNamed B0.named
  have hlocks := B0.notSynchronized
  have hF : CallFix p m c cX1_takeOut 2 s ([.ref (z 0), .int (nI j)] : List Value).toArray wsL_law RX1 := ⟨hx, hb, hml, hown, hts⟩
  have hS : va_S A s.heap s.heap [] := va_S.rf
  have hl := lv_entry ([.ref (z 0), .int (nI j)]) (n := 2) (Nat.le_of_ble_eq_true rfl)
  rw [lg_entry_eq]
  generalize (lg_sl ([.ref (z 0), .int (nI j)]) ++ List.replicate (2 - (lg_sl ([.ref (z 0), .int (nI j)])).length) Slot.unset).toArray = ls at hl ⊢
  have hl : lv_has ls 2 [(0, .ref (z 0)), (1, .int (nI j))] := hl
  have hn31 : n < 2 ^ 31 := by omega
  refine lv_aload_n hx hb dX1_takeOut_0 rfl (lv_at hl 0 rfl) ?_
  refine lv_iload_n hx hb dX1_takeOut_1 rfl (lv_at hl 1 rfl) ?_
  refine fx_Vv (rest := []) (sp_leave l dC dI A cI cA cZ rest z n hn ar gl fl pr pg ky ac K B M Ds Bf L j hj hB) hF (cw_RX1_128 hts ⟨Nat.le_of_ble_eq_true rfl, Nat.le_of_ble_eq_true rfl⟩) hA hS hP hK hD hN 0 0 rfl rfl rfl hl.1 rfl (Nat.le_of_ble_eq_true rfl) dX1_takeOut_2 ⟨Nat.le_of_ble_eq_true rfl, Nat.le_of_ble_eq_true rfl⟩ (fun u H locs h hP hD hS => ?_)
  obtain ⟨B1, M1, e1⟩ := fqleave_form fl pr pg ky K B M j
  subst h
  rw [e1] at hP hD
  have hP : va_P (dC, dI) classes (wX z cI cA n ar gl fl pr pg ky ac K B1 M1 Ds Bf L ++ rest) H := hP
  have hD : va_D A (wX z cI cA n ar gl fl pr pg ky ac K B1 M1 Ds Bf L ++ rest) := hD
  refine lv_aload_n hx hb dX1_takeOut_5 rfl (lv_at hl 0 rfl) ?_
  refine lv_dup hx hb dX1_takeOut_6 rfl ?_
  refine va_get (D := (dC, dI)) (ci := 0) (v := .int pr) (C := RX1) (T := TX1) (N := 14) hx hb hts inlX1 hown hK hP 0 rfl rfl 7 (by decide) (hts _ km_64) (fun _ h9 => h9) rfl dX1_takeOut_7 ?_
  refine lv_iconst (v := 1) hx hb dX1_takeOut_10 (by decide) ?_
  refine lv_isub hx hb dX1_takeOut_11 ?_
  refine va_put (D := (dC, dI)) (ci := 0) (v := .int (pr - 1)) (ty := .int) (C := RX1) (T := TX1) (N := 14) hx hb hts inlX1 tyX1 tyX1_ok nmX1 hown hK hP hD hS 0 rfl rfl 7 (by decide) (hts _ km_64) (fun _ h9 => h9) rfl (by decide +kernel) rfl rfl (Nat.le_of_ble_eq_true rfl) dX1_takeOut_12 (fun H locs hP hD hS => ?_)
  have hP : va_P (dC, dI) classes (wX z cI cA n ar gl fl (pr - 1) pg ky ac K B1 M1 Ds Bf L ++ rest) H := hP
  have hD : va_D A (wX z cI cA n ar gl fl (pr - 1) pg ky ac K B1 M1 Ds Bf L ++ rest) := hD
  exact fx_vret hx hb hr hlocks hK hS dX1_takeOut_15 (fl, pr - 1, pg, ky, K, B1, M1) (by unfold fqtake; rw [e1]) hP hD
set_option maxHeartbeats 4000000 in
set_option maxRecDepth 100000 in
theorem sp_low (l : Launch) (dC : Nat → ClassId) (dI : Nat → Nat → Nat) (A : Nat → Prop) (cI cA cZ : ClassId) (rest : va_W) (z : Nat → Nat) (n : Nat) (hn : n ≤ 40) (ar gl : Int32) (fl pr pg ky ac : Int32) (K B M Ds Bf : Nat → Int32) (L : Nat → Option Nat)  : Met l yX1_lowestBucket (Cond.code yX1_lowestBucket cX1_lowestBucket 2 (some .int) :: wsL_law) ({ frames := 0, cells := 0, slots := 0, locals := 0 } : Room) (va_Pc [.ref (z 0)] (fx_Pre (dC, dI) classes (fq_ty cI cA cZ) A (wX z cI cA n ar gl fl pr pg ky ac K B M Ds Bf L ++ rest))) (vp_Si (fun r => r = fqopt (fqlow M 32 0))) 0 0 (fun _ => False) := by
  refine Met.ofW (cc := cX1_lowestBucket) (maxL := 2) (ret := (some .int)) (by decide) rfl ?_
  intro p e s m args below meth c s₁ B0 hml hv
  obtain ⟨rfl, hA, hP, hK, hD, hN⟩ := hv
  have hx := B0.exec
  have hb := B0.bytes
  have hr := B0.returns
  have hts0 := atoms_spec (ws := (Cond.code yX1_lowestBucket cX1_lowestBucket 2 (some .int) :: wsL_law)) B0.pre
  have hts := fun w (h : w ∈ wsL_law) => hts0 w (List.mem_cons_of_mem _ h)
  have hown : s.vm.findClass RX1 = some m.cls := findClass_of_methodNamed B0.named
  have hlocks := B0.notSynchronized
  have hF : CallFix p m c cX1_lowestBucket 2 s ([.ref (z 0)] : List Value).toArray wsL_law RX1 := ⟨hx, hb, hml, hown, hts⟩
  have hS : va_S A s.heap s.heap [] := va_S.rf
  have hl := lv_entry ([.ref (z 0)]) (n := 2) (Nat.le_of_ble_eq_true rfl)
  rw [lg_entry_eq]
  generalize (lg_sl ([.ref (z 0)]) ++ List.replicate (2 - (lg_sl ([.ref (z 0)])).length) Slot.unset).toArray = ls at hl ⊢
  have hl : lv_has ls 2 [(0, .ref (z 0))] := hl
  have hn31 : n < 2 ^ 31 := by omega
  have K : ∀ (d i : Nat) (ls : Array Slot), d + i = 32 → (fqlow M d i = fqlow M 32 0) → lv_has ls 2 [(0, .ref (z 0)), (1, .int (nI i))] → W p l e (headSpec (Cond.code yX1_lowestBucket cX1_lowestBucket 2 (some .int) :: wsL_law) ({ frames := 0, cells := 0, slots := 0, locals := 0 } : Room)).room s m ([.ref (z 0)] : List Value).toArray below meth c s.heap [] 0 0 (MQ below (vp_Si (fun r => r = fqopt (fqlow M 32 0))) ([.ref (z 0)] : List Value).toArray s 0 0 (fun _ => False)) (F0 m 2 ls []) := by
    intro d
    induction d with
    | zero =>
      intro i  ls hdi hq hl
      have e0 : i = 32 := by omega
      subst e0
      have hl : lv_has ls 2 [(0, .ref (z 0)), (1, .int 32)] := hl
      refine lv_iload_n hx hb dX1_lowestBucket_2 rfl (lv_at hl 1 rfl) ?_
      refine lv_bipush (v := 32) hx hb dX1_lowestBucket_3 (by decide) ?_
      refine lv_icmp_ge (tgt := 25) hx hb dX1_lowestBucket_5 (by decide) (fun _ => ?_) (fun h9 => absurd h9 (by decide))
      refine lv_iconst (v := (-1)) hx hb dX1_lowestBucket_25 (by decide) ?_
      exact fx_sret hx hb hr hlocks dX1_lowestBucket_26 (by rw [← hq]; rfl)
    | succ d ih =>
      intro i  ls hdi hq hl
      have hi : i < 32 := by omega
      have hq : (if 0 < M i then some i else fqlow M d (i + 1)) = fqlow M 32 0 := hq
      refine lv_iload_n hx hb dX1_lowestBucket_2 rfl (lv_at hl 1 rfl) ?_
      refine lv_bipush (v := 32) hx hb dX1_lowestBucket_3 (by decide) ?_
      refine lv_icmp_ge (tgt := 25) hx hb dX1_lowestBucket_5 (by decide) (fun c_5 => ?_) (fun c_5 => ?_)
      · exact absurd (show nI 32 ≤ nI i from c_5) (nI_ge hi (by decide))
      · refine lv_aload_n hx hb dX1_lowestBucket_8 rfl (lv_at hl 0 rfl) ?_
        refine va_get (D := (dC, dI)) (ci := 0) (v := .ref (z 3)) (C := RX1) (T := TX1) (N := 14) hx hb hts inlX1 hown hK hP 0 rfl rfl 5 (by decide) (hts _ km_29) (fun _ h9 => h9) rfl dX1_lowestBucket_9 ?_
        refine lv_iload_n hx hb dX1_lowestBucket_12 rfl (lv_at hl 1 rfl) ?_
        refine fx_ald hx hb hK hP 3 0 rfl rfl i rfl hi (by decide) dX1_lowestBucket_13 ?_
        refine lv_if_le (tgt := 19) hx hb dX1_lowestBucket_14 (by decide) (fun c_14 => ?_) (fun c_14 => ?_)
        · rw [if_neg (Int32.not_lt.mpr c_14)] at hq
          refine lv_iinc (v := nI (i + 1)) (lv' := [(1, .int (nI (i + 1))), (0, .ref (z 0))]) hx hb dX1_lowestBucket_19 hl (k := 1) rfl (nI_1 i) (by decide) rfl (fun ls hl => ?_)
          refine lv_goto (tgt := 2) hx hb dX1_lowestBucket_22 (by decide) ?_
          exact ih (i + 1) ls (by omega) hq (lv_sub hl [1, 0] rfl)
        · rw [if_pos (Int32.not_le.mp c_14)] at hq
          refine lv_iload_n hx hb dX1_lowestBucket_17 rfl (lv_at hl 1 rfl) ?_
          exact fx_sret hx hb hr hlocks dX1_lowestBucket_18 (by rw [← hq]; rfl)
  refine lv_iconst (v := 0) hx hb dX1_lowestBucket_0 (by decide) ?_
  refine lv_istore_n (lv' := [(1, .int 0), (0, .ref (z 0))]) hx hb dX1_lowestBucket_1 rfl hl (by decide) rfl (fun ls hl => ?_)
  exact K 32 0 ls rfl rfl (lv_sub hl [1, 0] rfl)
set_option maxHeartbeats 4000000 in
set_option maxRecDepth 100000 in
theorem sp_best (l : Launch) (dC : Nat → ClassId) (dI : Nat → Nat → Nat) (A : Nat → Prop) (cI cA cZ : ClassId) (rest : va_W) (z : Nat → Nat) (n : Nat) (hn : n ≤ 40) (ar gl : Int32) (fl pr pg ky ac : Int32) (K B M Ds Bf : Nat → Int32) (L : Nat → Option Nat) (b : Int32)  : Met l yX1_leastItemIn (Cond.code yX1_leastItemIn cX1_leastItemIn 4 (some .int) :: wsL_law) ({ frames := 2, cells := 0, slots := 0, locals := 42 } : Room) (va_Pc [.ref (z 0), .int b] (fx_Pre (dC, dI) classes (fq_ty cI cA cZ) A (wX z cI cA n ar gl fl pr pg ky ac K B M Ds Bf L ++ rest))) (vp_Si (fun r => r = fqopt (fqbest K B b n 0 none))) 0 0 (fun _ => False) := by
  refine Met.ofW (cc := cX1_leastItemIn) (maxL := 4) (ret := (some .int)) (by decide) rfl ?_
  intro p e s m args below meth c s₁ B0 hml hv
  obtain ⟨rfl, hA, hP, hK, hD, hN⟩ := hv
  have hx := B0.exec
  have hb := B0.bytes
  have hr := B0.returns
  have hts0 := atoms_spec (ws := (Cond.code yX1_leastItemIn cX1_leastItemIn 4 (some .int) :: wsL_law)) B0.pre
  have hts := fun w (h : w ∈ wsL_law) => hts0 w (List.mem_cons_of_mem _ h)
  have hown : s.vm.findClass RX1 = some m.cls := findClass_of_methodNamed B0.named
  have hlocks := B0.notSynchronized
  have hF : CallFix p m c cX1_leastItemIn 4 s ([.ref (z 0), .int b] : List Value).toArray wsL_law RX1 := ⟨hx, hb, hml, hown, hts⟩
  have hS : va_S A s.heap s.heap [] := va_S.rf
  have hl := lv_entry ([.ref (z 0), .int b]) (n := 4) (Nat.le_of_ble_eq_true rfl)
  rw [lg_entry_eq]
  generalize (lg_sl ([.ref (z 0), .int b]) ++ List.replicate (4 - (lg_sl ([.ref (z 0), .int b])).length) Slot.unset).toArray = ls at hl ⊢
  have hl : lv_has ls 4 [(0, .ref (z 0)), (1, .int b)] := hl
  have hn31 : n < 2 ^ 31 := by omega
  have K : ∀ (d i : Nat) (a : Option Nat) (ls : Array Slot), d + i = n → (fqbest K B b d i a = fqbest K B b n 0 none) → (∀ j, a = some j → j < n) → lv_has ls 4 [(0, .ref (z 0)), (1, .int b), (2, .int (fqopt a)), (3, .int (nI i))] → W p l e (headSpec (Cond.code yX1_leastItemIn cX1_leastItemIn 4 (some .int) :: wsL_law) ({ frames := 2, cells := 0, slots := 0, locals := 42 } : Room)).room s m ([.ref (z 0), .int b] : List Value).toArray below meth c s.heap [] 0 0 (MQ below (vp_Si (fun r => r = fqopt (fqbest K B b n 0 none))) ([.ref (z 0), .int b] : List Value).toArray s 0 0 (fun _ => False)) (F0 m 4 ls []) := by
    intro d
    induction d with
    | zero =>
      intro i a ls hdi hq ha hl
      have e0 : i = n := by omega
      subst e0
      refine lv_iload_n hx hb dX1_leastItemIn_4 rfl (lv_at hl 3 rfl) ?_
      refine lv_aload_n hx hb dX1_leastItemIn_5 rfl (lv_at hl 0 rfl) ?_
      refine va_get (D := (dC, dI)) (ci := 0) (v := .int (nI i)) (C := RX1) (T := TX1) (N := 14) hx hb hts inlX1 hown hK hP 0 rfl rfl 0 (by decide) (hts _ km_23) (fun _ h9 => h9) rfl dX1_leastItemIn_6 ?_
      refine lv_icmp_ge (tgt := 58) hx hb dX1_leastItemIn_9 (by decide) (fun c_9 => ?_) (fun c_9 => ?_)
      · refine lv_iload_n hx hb dX1_leastItemIn_58 rfl (lv_at hl 2 rfl) ?_
        exact fx_sret hx hb hr hlocks dX1_leastItemIn_59 (by rw [← hq]; rfl)
      · exact absurd (Int32.le_refl _) c_9
    | succ d ih =>
      intro i a ls hdi hq ha hl
      have hi : i < n := by omega
      cases a with
      | none =>
        have hl : lv_has ls 4 [(0, .ref (z 0)), (1, .int b), (2, .int (-1)), (3, .int (nI i))] := hl
        refine lv_iload_n hx hb dX1_leastItemIn_4 rfl (lv_at hl 3 rfl) ?_
        refine lv_aload_n hx hb dX1_leastItemIn_5 rfl (lv_at hl 0 rfl) ?_
        refine va_get (D := (dC, dI)) (ci := 0) (v := .int (nI n)) (C := RX1) (T := TX1) (N := 14) hx hb hts inlX1 hown hK hP 0 rfl rfl 0 (by decide) (hts _ km_23) (fun _ h9 => h9) rfl dX1_leastItemIn_6 ?_
        refine lv_icmp_ge (tgt := 58) hx hb dX1_leastItemIn_9 (by decide) (fun c_9 => ?_) (fun c_9 => ?_)
        · exact absurd c_9 (nI_ge hi hn31)
        · refine lv_aload_n hx hb dX1_leastItemIn_12 rfl (lv_at hl 0 rfl) ?_
          refine lv_iload_n hx hb dX1_leastItemIn_13 rfl (lv_at hl 3 rfl) ?_
          refine fx_Vs (rest := []) (sp_isThere l dC dI A cI cA cZ rest z n hn ar gl fl pr pg ky ac K B M Ds Bf L (nI i)) hF (cw_RX1_60 hts ⟨Nat.le_of_ble_eq_true rfl, Nat.le_of_ble_eq_true rfl⟩) hA hS hP hK hD hN 0 0 rfl rfl rfl hl.1 rfl (Nat.le_of_ble_eq_true rfl) dX1_leastItemIn_14 ⟨Nat.le_of_ble_eq_true rfl, Nat.le_of_ble_eq_true rfl⟩ (fun r h => ?_)
          rcases h with ⟨rfl, ⟨j9, hj9, e9, h9⟩⟩ | ⟨rfl, h9⟩
          · have e8 := (nI_eq (by omega) (by omega)).mp e9
            subst e8
            refine lv_if_eq (tgt := 52) hx hb dX1_leastItemIn_17 (by decide) (fun h9 => absurd h9 (by decide)) (fun _ => ?_)
            refine lv_aload_n hx hb dX1_leastItemIn_20 rfl (lv_at hl 0 rfl) ?_
            refine va_get (D := (dC, dI)) (ci := 0) (v := .ref (z 2)) (C := RX1) (T := TX1) (N := 14) hx hb hts inlX1 hown hK hP 0 rfl rfl 4 (by decide) (hts _ km_28) (fun _ h9 => h9) rfl dX1_leastItemIn_21 ?_
            refine lv_iload_n hx hb dX1_leastItemIn_24 rfl (lv_at hl 3 rfl) ?_
            refine fx_ald hx hb hK hP 2 0 rfl rfl i rfl hi hn31 dX1_leastItemIn_25 ?_
            refine lv_iload_n hx hb dX1_leastItemIn_26 rfl (lv_at hl 1 rfl) ?_
            refine lv_icmp_ne (tgt := 52) hx hb dX1_leastItemIn_27 (by decide) (fun c_27 => ?_) (fun c_27 => ?_)
            · refine lv_iinc (v := nI (i + 1)) (lv' := [(3, .int (nI (i + 1))), (0, .ref (z 0)), (1, .int b), (2, .int (-1))]) hx hb dX1_leastItemIn_52 hl (k := 3) rfl (nI_1 i) (by decide) rfl (fun ls hl => ?_)
              refine lv_goto (tgt := 4) hx hb dX1_leastItemIn_55 (by decide) ?_
              exact ih (i + 1) none ls (by omega) (by rw [← hq, fqbest_none, if_neg (fun h => c_27 h.2)]) ha (lv_sub hl [1, 2, 3, 0] rfl)
            · refine lv_iload_n hx hb dX1_leastItemIn_30 rfl (lv_at hl 2 rfl) ?_
              refine lv_iconst (v := (-1)) hx hb dX1_leastItemIn_31 (by decide) ?_
              refine lv_icmp_eq (tgt := 50) hx hb dX1_leastItemIn_32 (by decide) (fun _ => ?_) (fun h9 => absurd h9 (by decide))
              refine lv_iload_n hx hb dX1_leastItemIn_50 rfl (lv_at hl 3 rfl) ?_
              refine lv_istore_n (lv' := [(2, .int (nI i)), (0, .ref (z 0)), (1, .int b), (3, .int (nI i))]) hx hb dX1_leastItemIn_51 rfl hl (by decide) rfl (fun ls hl => ?_)
              refine lv_iinc (v := nI (i + 1)) (lv' := [(3, .int (nI (i + 1))), (2, .int (nI i)), (0, .ref (z 0)), (1, .int b)]) hx hb dX1_leastItemIn_52 hl (k := 3) rfl (nI_1 i) (by decide) rfl (fun ls hl => ?_)
              refine lv_goto (tgt := 4) hx hb dX1_leastItemIn_55 (by decide) ?_
              exact ih (i + 1) (some i) ls (by omega) (by rw [← hq, fqbest_none, if_pos ⟨h9, c_27⟩]) (fun j h => by cases h; exact hi) (lv_sub hl [2, 3, 1, 0] rfl)
          · have h8 := h9 i hi rfl
            refine lv_if_eq (tgt := 52) hx hb dX1_leastItemIn_17 (by decide) (fun _ => ?_) (fun h9 => absurd h9 (by decide))
            refine lv_iinc (v := nI (i + 1)) (lv' := [(3, .int (nI (i + 1))), (0, .ref (z 0)), (1, .int b), (2, .int (-1))]) hx hb dX1_leastItemIn_52 hl (k := 3) rfl (nI_1 i) (by decide) rfl (fun ls hl => ?_)
            refine lv_goto (tgt := 4) hx hb dX1_leastItemIn_55 (by decide) ?_
            exact ih (i + 1) none ls (by omega) (by rw [← hq, fqbest_none, if_neg (fun h => h.1 h8)]) ha (lv_sub hl [1, 2, 3, 0] rfl)
      | some jb =>
        have hl : lv_has ls 4 [(0, .ref (z 0)), (1, .int b), (2, .int (nI jb)), (3, .int (nI i))] := hl
        have hjb := ha jb rfl
        refine lv_iload_n hx hb dX1_leastItemIn_4 rfl (lv_at hl 3 rfl) ?_
        refine lv_aload_n hx hb dX1_leastItemIn_5 rfl (lv_at hl 0 rfl) ?_
        refine va_get (D := (dC, dI)) (ci := 0) (v := .int (nI n)) (C := RX1) (T := TX1) (N := 14) hx hb hts inlX1 hown hK hP 0 rfl rfl 0 (by decide) (hts _ km_23) (fun _ h9 => h9) rfl dX1_leastItemIn_6 ?_
        refine lv_icmp_ge (tgt := 58) hx hb dX1_leastItemIn_9 (by decide) (fun c_9 => ?_) (fun c_9 => ?_)
        · exact absurd c_9 (nI_ge hi hn31)
        · refine lv_aload_n hx hb dX1_leastItemIn_12 rfl (lv_at hl 0 rfl) ?_
          refine lv_iload_n hx hb dX1_leastItemIn_13 rfl (lv_at hl 3 rfl) ?_
          refine fx_Vs (rest := []) (sp_isThere l dC dI A cI cA cZ rest z n hn ar gl fl pr pg ky ac K B M Ds Bf L (nI i)) hF (cw_RX1_60 hts ⟨Nat.le_of_ble_eq_true rfl, Nat.le_of_ble_eq_true rfl⟩) hA hS hP hK hD hN 0 0 rfl rfl rfl hl.1 rfl (Nat.le_of_ble_eq_true rfl) dX1_leastItemIn_14 ⟨Nat.le_of_ble_eq_true rfl, Nat.le_of_ble_eq_true rfl⟩ (fun r h => ?_)
          rcases h with ⟨rfl, ⟨j9, hj9, e9, h9⟩⟩ | ⟨rfl, h9⟩
          · have e8 := (nI_eq (by omega) (by omega)).mp e9
            subst e8
            refine lv_if_eq (tgt := 52) hx hb dX1_leastItemIn_17 (by decide) (fun h9 => absurd h9 (by decide)) (fun _ => ?_)
            refine lv_aload_n hx hb dX1_leastItemIn_20 rfl (lv_at hl 0 rfl) ?_
            refine va_get (D := (dC, dI)) (ci := 0) (v := .ref (z 2)) (C := RX1) (T := TX1) (N := 14) hx hb hts inlX1 hown hK hP 0 rfl rfl 4 (by decide) (hts _ km_28) (fun _ h9 => h9) rfl dX1_leastItemIn_21 ?_
            refine lv_iload_n hx hb dX1_leastItemIn_24 rfl (lv_at hl 3 rfl) ?_
            refine fx_ald hx hb hK hP 2 0 rfl rfl i rfl hi hn31 dX1_leastItemIn_25 ?_
            refine lv_iload_n hx hb dX1_leastItemIn_26 rfl (lv_at hl 1 rfl) ?_
            refine lv_icmp_ne (tgt := 52) hx hb dX1_leastItemIn_27 (by decide) (fun c_27 => ?_) (fun c_27 => ?_)
            · refine lv_iinc (v := nI (i + 1)) (lv' := [(3, .int (nI (i + 1))), (0, .ref (z 0)), (1, .int b), (2, .int (nI jb))]) hx hb dX1_leastItemIn_52 hl (k := 3) rfl (nI_1 i) (by decide) rfl (fun ls hl => ?_)
              refine lv_goto (tgt := 4) hx hb dX1_leastItemIn_55 (by decide) ?_
              exact ih (i + 1) (some jb) ls (by omega) (by rw [← hq, fqbest_some, if_neg (fun h => c_27 h.2.1)]) ha (lv_sub hl [1, 2, 3, 0] rfl)
            · refine lv_iload_n hx hb dX1_leastItemIn_30 rfl (lv_at hl 2 rfl) ?_
              refine lv_iconst (v := (-1)) hx hb dX1_leastItemIn_31 (by decide) ?_
              refine lv_icmp_eq (tgt := 50) hx hb dX1_leastItemIn_32 (by decide) (fun c_32 => ?_) (fun c_32 => ?_)
              · exact absurd c_32 (fq_nm1 (by omega))
              · refine lv_aload_n hx hb dX1_leastItemIn_35 rfl (lv_at hl 0 rfl) ?_
                refine va_get (D := (dC, dI)) (ci := 0) (v := .ref (z 1)) (C := RX1) (T := TX1) (N := 14) hx hb hts inlX1 hown hK hP 0 rfl rfl 3 (by decide) (hts _ km_27) (fun _ h9 => h9) rfl dX1_leastItemIn_36 ?_
                refine lv_iload_n hx hb dX1_leastItemIn_39 rfl (lv_at hl 3 rfl) ?_
                refine fx_ald hx hb hK hP 1 0 rfl rfl i rfl hi hn31 dX1_leastItemIn_40 ?_
                refine lv_aload_n hx hb dX1_leastItemIn_41 rfl (lv_at hl 0 rfl) ?_
                refine va_get (D := (dC, dI)) (ci := 0) (v := .ref (z 1)) (C := RX1) (T := TX1) (N := 14) hx hb hts inlX1 hown hK hP 0 rfl rfl 3 (by decide) (hts _ km_27) (fun _ h9 => h9) rfl dX1_leastItemIn_42 ?_
                refine lv_iload_n hx hb dX1_leastItemIn_45 rfl (lv_at hl 2 rfl) ?_
                refine fx_ald hx hb hK hP 1 0 rfl rfl jb rfl hjb hn31 dX1_leastItemIn_46 ?_
                refine lv_icmp_ge (tgt := 52) hx hb dX1_leastItemIn_47 (by decide) (fun c_47 => ?_) (fun c_47 => ?_)
                · refine lv_iinc (v := nI (i + 1)) (lv' := [(3, .int (nI (i + 1))), (0, .ref (z 0)), (1, .int b), (2, .int (nI jb))]) hx hb dX1_leastItemIn_52 hl (k := 3) rfl (nI_1 i) (by decide) rfl (fun ls hl => ?_)
                  refine lv_goto (tgt := 4) hx hb dX1_leastItemIn_55 (by decide) ?_
                  exact ih (i + 1) (some jb) ls (by omega) (by rw [← hq, fqbest_some, if_neg (fun h => absurd h.2.2 (Int32.not_lt.mpr c_47))]) ha (lv_sub hl [1, 2, 3, 0] rfl)
                · have c_47 := Int32.not_le.mp c_47
                  refine lv_iload_n hx hb dX1_leastItemIn_50 rfl (lv_at hl 3 rfl) ?_
                  refine lv_istore_n (lv' := [(2, .int (nI i)), (0, .ref (z 0)), (1, .int b), (3, .int (nI i))]) hx hb dX1_leastItemIn_51 rfl hl (by decide) rfl (fun ls hl => ?_)
                  refine lv_iinc (v := nI (i + 1)) (lv' := [(3, .int (nI (i + 1))), (2, .int (nI i)), (0, .ref (z 0)), (1, .int b)]) hx hb dX1_leastItemIn_52 hl (k := 3) rfl (nI_1 i) (by decide) rfl (fun ls hl => ?_)
                  refine lv_goto (tgt := 4) hx hb dX1_leastItemIn_55 (by decide) ?_
                  exact ih (i + 1) (some i) ls (by omega) (by rw [← hq, fqbest_some, if_pos ⟨h9, c_27, c_47⟩]) (fun j h => by cases h; exact hi) (lv_sub hl [2, 3, 1, 0] rfl)
          · have h8 := h9 i hi rfl
            refine lv_if_eq (tgt := 52) hx hb dX1_leastItemIn_17 (by decide) (fun _ => ?_) (fun h9 => absurd h9 (by decide))
            refine lv_iinc (v := nI (i + 1)) (lv' := [(3, .int (nI (i + 1))), (0, .ref (z 0)), (1, .int b), (2, .int (nI jb))]) hx hb dX1_leastItemIn_52 hl (k := 3) rfl (nI_1 i) (by decide) rfl (fun ls hl => ?_)
            refine lv_goto (tgt := 4) hx hb dX1_leastItemIn_55 (by decide) ?_
            exact ih (i + 1) (some jb) ls (by omega) (by rw [← hq, fqbest_some, if_neg (fun h => h.1 h8)]) ha (lv_sub hl [1, 2, 3, 0] rfl)
  refine lv_iconst (v := (-1)) hx hb dX1_leastItemIn_0 (by decide) ?_
  refine lv_istore_n (lv' := [(2, .int (-1)), (0, .ref (z 0)), (1, .int b)]) hx hb dX1_leastItemIn_1 rfl hl (by decide) rfl (fun ls hl => ?_)
  refine lv_iconst (v := 0) hx hb dX1_leastItemIn_2 (by decide) ?_
  refine lv_istore_n (lv' := [(3, .int 0), (2, .int (-1)), (0, .ref (z 0)), (1, .int b)]) hx hb dX1_leastItemIn_3 rfl hl (by decide) rfl (fun ls hl => ?_)
  exact K n 0 none ls rfl rfl (fun _ h => by cases h) (lv_sub hl [2, 3, 1, 0] rfl)
