theorem cw_RX1_72 {R : Room} {s : State} {args : Array Value} {rm : Room} (hts : ∀ w ∈ wsL_law, w.before args s = true) (hR : rm.frames + 1 ≤ R.frames ∧ 8 + (3 + 11) + rm.locals ≤ R.locals) : CallW R s args RX1 RX1 72 yX1_putIntoBucket cX1_putIntoBucket 3 none (Cond.code yX1_putIntoBucket cX1_putIntoBucket 3 none :: wsL_law) rm rm.cells rm.slots 1 := cwV 1 hts (km_app (km_four km_74 km_75 km_76 km_2) (km_in km_77)) rfl rfl rfl (by decide +kernel) hR
theorem cw_RX1_80 {R : Room} {s : State} {args : Array Value} {rm : Room} (hts : ∀ w ∈ wsL_law, w.before args s = true) (hR : rm.frames + 1 ≤ R.frames ∧ 8 + (2 + 11) + rm.locals ≤ R.locals) : CallW R s args RX1 RX1 80 yX1_lowestBucket cX1_lowestBucket 2 (some .int) (Cond.code yX1_lowestBucket cX1_lowestBucket 2 (some .int) :: wsL_law) rm rm.cells rm.slots 0 := cwV 0 hts (km_app (km_four km_121 km_122 km_123 km_2) (km_in km_124)) rfl rfl rfl (by decide +kernel) hR
theorem cw_RX1_84 {R : Room} {s : State} {args : Array Value} {rm : Room} (hts : ∀ w ∈ wsL_law, w.before args s = true) (hR : rm.frames + 1 ≤ R.frames ∧ 8 + (4 + 11) + rm.locals ≤ R.locals) : CallW R s args RX1 RX1 84 yX1_leastItemIn cX1_leastItemIn 4 (some .int) (Cond.code yX1_leastItemIn cX1_leastItemIn 4 (some .int) :: wsL_law) rm rm.cells rm.slots 1 := cwV 1 hts (km_app (km_four km_125 km_126 km_127 km_2) (km_in km_128)) rfl rfl rfl (by decide +kernel) hR
theorem cw_RX1_90 {R : Room} {s : State} {args : Array Value} {rm : Room} (hts : ∀ w ∈ wsL_law, w.before args s = true) (hR : rm.frames + 1 ≤ R.frames ∧ 8 + (2 + 11) + rm.locals ≤ R.locals) : CallW R s args RX1 RX1 90 yX1_takeOut cX1_takeOut 2 none (Cond.code yX1_takeOut cX1_takeOut 2 none :: wsL_law) rm rm.cells rm.slots 1 := cwV 1 hts (km_app (km_four km_133 km_134 km_135 km_2) (km_in km_136)) rfl rfl rfl (by decide +kernel) hR
theorem cw_RX1_87 {R : Room} {s : State} {args : Array Value} {rm : Room} (hts : ∀ w ∈ wsL_law, w.before args s = true) (hR : rm.frames + 1 ≤ R.frames ∧ 8 + (3 + 11) + rm.locals ≤ R.locals) : CallW R s args RX1 RX1 87 yX1_spread cX1_spread 3 none (Cond.code yX1_spread cX1_spread 3 none :: wsL_law) rm rm.cells rm.slots 1 := cwV 1 hts (km_app (km_four km_129 km_130 km_131 km_2) (km_in km_132)) rfl rfl rfl (by decide +kernel) hR
set_option maxHeartbeats 4000000 in
set_option maxRecDepth 100000 in
theorem sp_spread (l : Launch) (dC : Nat → ClassId) (dI : Nat → Nat → Nat) (A : Nat → Prop) (cI cA cZ : ClassId) (rest : va_W) (z : Nat → Nat) (n : Nat) (hn : n ≤ 40) (ar gl : Int32) (fl pr pg ky ac : Int32) (K B M Ds Bf : Nat → Int32) (L : Nat → Option Nat) (b : Int32) (hb1 : b ≠ -1) (hs : fqS n (fl, pr, pg, ky, K, B, M)) : Met l yX1_spread (Cond.code yX1_spread cX1_spread 3 none :: wsL_law) ({ frames := 3, cells := 0, slots := 0, locals := 64 } : Room) (va_Pc [.ref (z 0), .int b] (fx_Pre (dC, dI) classes (fq_ty cI cA cZ) A (wX z cI cA n ar gl fl pr pg ky ac K B M Ds Bf L ++ rest))) (va_Qv (S := fqQ) (fun u => u = fqspread b n 0 (fl, pr, pg, ky, K, B, M)) (fx_B (dC, dI) classes (fq_ty cI cA cZ) A (fun u : fqQ => wX z cI cA n ar gl u.1 u.2.1 u.2.2.1 u.2.2.2.1 ac u.2.2.2.2.1 u.2.2.2.2.2.1 u.2.2.2.2.2.2 Ds Bf L ++ rest)) A) 0 0 A := by
  refine Met.ofW (cc := cX1_spread) (maxL := 3) (ret := none) (by decide) rfl ?_
  intro p e s m args below meth c s₁ B0 hml hv
  obtain ⟨rfl, hA, hP, hK, hD, hN⟩ := hv
  have hx := B0.exec
  have hb := B0.bytes
  have hr := B0.returns
  have hts0 := atoms_spec (ws := (Cond.code yX1_spread cX1_spread 3 none :: wsL_law)) B0.pre
  have hts := fun w (h : w ∈ wsL_law) => hts0 w (List.mem_cons_of_mem _ h)
  have hown : s.vm.findClass RX1 = some m.cls := findClass_of_methodNamed B0.named
  have hlocks := B0.notSynchronized
  have hF : CallFix p m c cX1_spread 3 s ([.ref (z 0), .int b] : List Value).toArray wsL_law RX1 := ⟨hx, hb, hml, hown, hts⟩
  have hS : va_S A s.heap s.heap [] := va_S.rf
  have hl := lv_entry ([.ref (z 0), .int b]) (n := 3) (Nat.le_of_ble_eq_true rfl)
  rw [lg_entry_eq]
  generalize (lg_sl ([.ref (z 0), .int b]) ++ List.replicate (3 - (lg_sl ([.ref (z 0), .int b])).length) Slot.unset).toArray = ls at hl ⊢
  have hl : lv_has ls 3 [(0, .ref (z 0)), (1, .int b)] := hl
  have hn31 : n < 2 ^ 31 := by omega
  have K0 : ∀ (d i : Nat) (pg' : Int32) (B' M' : Nat → Int32) (H : Heap) (locs : List Loc) (ls : Array Slot), d + i = n → (fqspread b d i (fl, pr, pg', ky, K, B', M') = fqspread b n 0 (fl, pr, pg, ky, K, B, M)) → (fqS n (fl, pr, pg', ky, K, B', M')) → va_P (dC, dI) classes (wX z cI cA n ar gl fl pr pg' ky ac K B' M' Ds Bf L ++ rest) H → va_D A (wX z cI cA n ar gl fl pr pg' ky ac K B' M' Ds Bf L ++ rest) → va_S A s.heap H locs → lv_has ls 3 [(0, .ref (z 0)), (1, .int b), (2, .int (nI i))] → W p l e (headSpec (Cond.code yX1_spread cX1_spread 3 none :: wsL_law) ({ frames := 3, cells := 0, slots := 0, locals := 64 } : Room)).room s m ([.ref (z 0), .int b] : List Value).toArray below meth c H locs 0 0 (MQ below (va_Qv (S := fqQ) (fun u => u = fqspread b n 0 (fl, pr, pg, ky, K, B, M)) (fx_B (dC, dI) classes (fq_ty cI cA cZ) A (fun u : fqQ => wX z cI cA n ar gl u.1 u.2.1 u.2.2.1 u.2.2.2.1 ac u.2.2.2.2.1 u.2.2.2.2.2.1 u.2.2.2.2.2.2 Ds Bf L ++ rest)) A) ([.ref (z 0), .int b] : List Value).toArray s 0 0 A) (F0 m 2 ls []) := by
    intro d
    induction d with
    | zero =>
      intro i pg' B' M' H locs ls hdi hq hs' hP hD hS hl
      have e0 : i = n := by omega
      refine lv_iload_n hx hb dX1_spread_2 rfl (lv_at hl 2 rfl) ?_
      refine lv_aload_n hx hb dX1_spread_3 rfl (lv_at hl 0 rfl) ?_
      refine va_get (D := (dC, dI)) (ci := 0) (v := .int (nI n)) (C := RX1) (T := TX1) (N := 14) hx hb hts inlX1 hown hK hP 0 rfl rfl 0 (by decide) (hts _ km_23) (fun _ h9 => h9) rfl dX1_spread_4 ?_
      refine lv_icmp_ge (tgt := 31) hx hb dX1_spread_7 (by decide) (fun c_7 => ?_) (fun c_7 => ?_)
      · exact fx_vret hx hb hr hlocks hK hS dX1_spread_31 (fl, pr, pg', ky, K, B', M') (hq) hP hD
      · exact absurd (nI_le (by omega) (by omega)) c_7
    | succ d ih =>
      intro i pg' B' M' H locs ls hdi hq hs' hP hD hS hl
      have hi : i < n := by omega
      refine lv_iload_n hx hb dX1_spread_2 rfl (lv_at hl 2 rfl) ?_
      refine lv_aload_n hx hb dX1_spread_3 rfl (lv_at hl 0 rfl) ?_
      refine va_get (D := (dC, dI)) (ci := 0) (v := .int (nI n)) (C := RX1) (T := TX1) (N := 14) hx hb hts inlX1 hown hK hP 0 rfl rfl 0 (by decide) (hts _ km_23) (fun _ h9 => h9) rfl dX1_spread_4 ?_
      refine lv_icmp_ge (tgt := 31) hx hb dX1_spread_7 (by decide) (fun c_7 => ?_) (fun c_7 => ?_)
      · exact absurd c_7 (nI_ge hi hn31)
      · refine lv_aload_n hx hb dX1_spread_10 rfl (lv_at hl 0 rfl) ?_
        refine va_get (D := (dC, dI)) (ci := 0) (v := .ref (z 2)) (C := RX1) (T := TX1) (N := 14) hx hb hts inlX1 hown hK hP 0 rfl rfl 4 (by decide) (hts _ km_28) (fun _ h9 => h9) rfl dX1_spread_11 ?_
        refine lv_iload_n hx hb dX1_spread_14 rfl (lv_at hl 2 rfl) ?_
        refine fx_ald hx hb hK hP 2 0 rfl rfl i rfl hi hn31 dX1_spread_15 ?_
        refine lv_iload_n hx hb dX1_spread_16 rfl (lv_at hl 1 rfl) ?_
        refine lv_icmp_ne (tgt := 25) hx hb dX1_spread_17 (by decide) (fun c_17 => ?_) (fun c_17 => ?_)
        · refine lv_iinc (v := nI (i + 1)) (lv' := [(2, .int (nI (i + 1))), (0, .ref (z 0)), (1, .int b)]) hx hb dX1_spread_25 hl (k := 2) rfl (nI_1 i) (by decide) rfl (fun ls hl => ?_)
          refine lv_goto (tgt := 2) hx hb dX1_spread_28 (by decide) ?_
          exact ih (i + 1) pg' B' M' H locs ls (by omega) (by rw [← hq, fqspread_s, if_neg c_17]) (hs') hP hD hS (lv_sub hl [1, 2, 0] rfl)
        · have hk' := (hs'.2 i hi).2 (show B' i ≠ -1 by rw [c_17]; exact hb1)
          refine lv_aload_n hx hb dX1_spread_20 rfl (lv_at hl 0 rfl) ?_
          refine lv_iload_n hx hb dX1_spread_21 rfl (lv_at hl 2 rfl) ?_
          refine fx_Vv (rest := []) (sp_put l dC dI A cI cA cZ rest z n hn ar gl fl pr pg' ky ac K B' M' Ds Bf L i hi (hs'.2 i hi).1 hk' hs'.1) hF (cw_RX1_72 hts ⟨Nat.le_of_ble_eq_true rfl, Nat.le_of_ble_eq_true rfl⟩) hA hS hP hK hD hN 0 0 rfl rfl rfl hl.1 rfl (Nat.le_of_ble_eq_true rfl) dX1_spread_22 ⟨Nat.le_of_ble_eq_true rfl, Nat.le_of_ble_eq_true rfl⟩ (fun u H locs h hP hD hS => ?_)
          obtain ⟨pg1, B1, M1, e1⟩ := fqput_form fl pr pg' ky K B' M' i
          rw [e1] at h
          subst h
          have hP : va_P (dC, dI) classes (wX z cI cA n ar gl fl pr pg1 ky ac K B1 M1 Ds Bf L ++ rest) H := hP
          have hD : va_D A (wX z cI cA n ar gl fl pr pg1 ky ac K B1 M1 Ds Bf L ++ rest) := hD
          refine lv_iinc (v := nI (i + 1)) (lv' := [(2, .int (nI (i + 1))), (0, .ref (z 0)), (1, .int b)]) hx hb dX1_spread_25 hl (k := 2) rfl (nI_1 i) (by decide) rfl (fun ls hl => ?_)
          refine lv_goto (tgt := 2) hx hb dX1_spread_28 (by decide) ?_
          exact ih (i + 1) pg1 B1 M1 H locs ls (by omega) (by rw [← hq, fqspread_s, if_pos c_17, e1]) (by rw [← e1]; exact fqput_S hs' hk') hP hD hS (lv_sub hl [1, 2, 0] rfl)
  refine lv_iconst (v := 0) hx hb dX1_spread_0 (by decide) ?_
  refine lv_istore_n (lv' := [(2, .int 0), (0, .ref (z 0)), (1, .int b)]) hx hb dX1_spread_1 rfl hl (by decide) rfl (fun ls hl => ?_)
  exact K0 n 0 pg B M s.heap [] ls rfl rfl hs hP hD hS (lv_sub hl [1, 2, 0] rfl)
set_option maxHeartbeats 4000000 in
set_option maxRecDepth 100000 in
theorem sp_push (l : Launch) (dC : Nat → ClassId) (dI : Nat → Nat → Nat) (A : Nat → Prop) (cI cA cZ : ClassId) (rest : va_W) (z : Nat → Nat) (n : Nat) (hn : n ≤ 40) (ar gl : Int32) (fl pr pg ky ac : Int32) (K B M Ds Bf : Nat → Int32) (L : Nat → Option Nat) (x key : Int32) (hs : fqS n (fl, pr, pg, ky, K, B, M)) : Met l yX1_push (Cond.code yX1_push cX1_push 3 (some .int) :: wsL_law) ({ frames := 3, cells := 0, slots := 0, locals := 64 } : Room) (va_Pc [.ref (z 0), .int x, .int key] (fx_Pre (dC, dI) classes (fq_ty cI cA cZ) A (wX z cI cA n ar gl fl pr pg ky ac K B M Ds Bf L ++ rest))) (va_Qi (S := fqQ) (fun r u => (r, u) = fqpush n (fl, pr, pg, ky, K, B, M) x key) (fx_B (dC, dI) classes (fq_ty cI cA cZ) A (fun u : fqQ => wX z cI cA n ar gl u.1 u.2.1 u.2.2.1 u.2.2.2.1 ac u.2.2.2.2.1 u.2.2.2.2.2.1 u.2.2.2.2.2.2 Ds Bf L ++ rest)) A) 0 0 A := by
  refine Met.ofW (cc := cX1_push) (maxL := 3) (ret := (some .int)) (by decide) rfl ?_
  intro p e s m args below meth c s₁ B0 hml hv
  obtain ⟨rfl, hA, hP, hK, hD, hN⟩ := hv
  have hx := B0.exec
  have hb := B0.bytes
  have hr := B0.returns
  have hts0 := atoms_spec (ws := (Cond.code yX1_push cX1_push 3 (some .int) :: wsL_law)) B0.pre
  have hts := fun w (h : w ∈ wsL_law) => hts0 w (List.mem_cons_of_mem _ h)
  have hown : s.vm.findClass RX1 = some m.cls := findClass_of_methodNamed B0.named
  have hlocks := B0.notSynchronized
  have hF : CallFix p m c cX1_push 3 s ([.ref (z 0), .int x, .int key] : List Value).toArray wsL_law RX1 := ⟨hx, hb, hml, hown, hts⟩
  have hS : va_S A s.heap s.heap [] := va_S.rf
  have hl := lv_entry ([.ref (z 0), .int x, .int key]) (n := 3) (Nat.le_of_ble_eq_true rfl)
  rw [lg_entry_eq]
  generalize (lg_sl ([.ref (z 0), .int x, .int key]) ++ List.replicate (3 - (lg_sl ([.ref (z 0), .int x, .int key])).length) Slot.unset).toArray = ls at hl ⊢
  have hl : lv_has ls 3 [(0, .ref (z 0)), (1, .int x), (2, .int key)] := hl
  have hn31 : n < 2 ^ 31 := by omega
  refine lv_aload_n hx hb dX1_push_0 rfl (lv_at hl 0 rfl) ?_
  refine lv_iload_n hx hb dX1_push_1 rfl (lv_at hl 1 rfl) ?_
  refine fx_Vs (rest := []) (sp_isItem l dC dI A cI cA cZ rest z n hn ar gl fl pr pg ky ac K B M Ds Bf L x) hF (cw_RX1_56 hts ⟨Nat.le_of_ble_eq_true rfl, Nat.le_of_ble_eq_true rfl⟩) hA hS hP hK hD hN 0 0 rfl rfl rfl hl.1 rfl (Nat.le_of_ble_eq_true rfl) dX1_push_2 ⟨Nat.le_of_ble_eq_true rfl, Nat.le_of_ble_eq_true rfl⟩ (fun r h => ?_)
  rcases h with ⟨rfl, ⟨j, hj, rfl⟩⟩ | ⟨rfl, h⟩
  · refine lv_if_eq (tgt := 16) hx hb dX1_push_5 (by decide) (fun h9 => absurd h9 (by decide)) (fun _ => ?_)
    refine lv_aload_n hx hb dX1_push_8 rfl (lv_at hl 0 rfl) ?_
    refine lv_iload_n hx hb dX1_push_9 rfl (lv_at hl 1 rfl) ?_
    refine fx_Vs (rest := []) (sp_isThere l dC dI A cI cA cZ rest z n hn ar gl fl pr pg ky ac K B M Ds Bf L (nI j)) hF (cw_RX1_60 hts ⟨Nat.le_of_ble_eq_true rfl, Nat.le_of_ble_eq_true rfl⟩) hA hS hP hK hD hN 0 0 rfl rfl rfl hl.1 rfl (Nat.le_of_ble_eq_true rfl) dX1_push_10 ⟨Nat.le_of_ble_eq_true rfl, Nat.le_of_ble_eq_true rfl⟩ (fun r h => ?_)
    rcases h with ⟨rfl, ⟨j9, hj9, e9, h9⟩⟩ | ⟨rfl, h9⟩
    · have e8 := (nI_eq (by omega) (by omega)).mp e9
      subst e8
      refine lv_if_eq (tgt := 18) hx hb dX1_push_13 (by decide) (fun h9 => absurd h9 (by decide)) (fun _ => ?_)
      refine lv_iconst (v := (-1)) hx hb dX1_push_16 (by decide) ?_
      exact fx_iret hx hb hr hlocks hK hS dX1_push_17 (fl, pr, pg, ky, K, B, M) (by unfold fqpush; rw [fqat_some hj hn31]; exact (if_neg h9).symm) hP hD
    · have h8 : B j = -1 := h9 j hj rfl
      refine lv_if_eq (tgt := 18) hx hb dX1_push_13 (by decide) (fun _ => ?_) (fun h9 => absurd h9 (by decide))
      refine lv_iload_n hx hb dX1_push_18 rfl (lv_at hl 2 rfl) ?_
      refine lv_aload_n hx hb dX1_push_19 rfl (lv_at hl 0 rfl) ?_
      refine va_get (D := (dC, dI)) (ci := 0) (v := .int fl) (C := RX1) (T := TX1) (N := 14) hx hb hts inlX1 hown hK hP 0 rfl rfl 6 (by decide) (hts _ km_63) (fun _ h9 => h9) rfl dX1_push_20 ?_
      refine lv_icmp_ge (tgt := 29) hx hb dX1_push_23 (by decide) (fun c_23 => ?_) (fun c_23 => ?_)
      · refine lv_aload_n hx hb dX1_push_29 rfl (lv_at hl 0 rfl) ?_
        refine lv_dup hx hb dX1_push_30 rfl ?_
        refine va_get (D := (dC, dI)) (ci := 0) (v := .int pr) (C := RX1) (T := TX1) (N := 14) hx hb hts inlX1 hown hK hP 0 rfl rfl 7 (by decide) (hts _ km_64) (fun _ h9 => h9) rfl dX1_push_31 ?_
        refine lv_iconst (v := 1) hx hb dX1_push_34 (by decide) ?_
        refine lv_iadd hx hb dX1_push_35 ?_
        refine va_put (D := (dC, dI)) (ci := 0) (v := .int (pr + 1)) (ty := .int) (C := RX1) (T := TX1) (N := 14) hx hb hts inlX1 tyX1 tyX1_ok nmX1 hown hK hP hD hS 0 rfl rfl 7 (by decide) (hts _ km_64) (fun _ h9 => h9) rfl (by decide +kernel) rfl rfl (Nat.le_of_ble_eq_true rfl) dX1_push_36 (fun H locs hP hD hS => ?_)
        have hP : va_P (dC, dI) classes (wX z cI cA n ar gl fl (pr + 1) pg ky ac K B M Ds Bf L ++ rest) H := hP
        have hD : va_D A (wX z cI cA n ar gl fl (pr + 1) pg ky ac K B M Ds Bf L ++ rest) := hD
        refine lv_aload_n hx hb dX1_push_39 rfl (lv_at hl 0 rfl) ?_
        refine lv_dup hx hb dX1_push_40 rfl ?_
        refine va_get (D := (dC, dI)) (ci := 0) (v := .int ky) (C := RX1) (T := TX1) (N := 14) hx hb hts inlX1 hown hK hP 0 rfl rfl 9 (by decide) (hts _ km_65) (fun _ h9 => h9) rfl dX1_push_41 ?_
        refine lv_iconst (v := 1) hx hb dX1_push_44 (by decide) ?_
        refine lv_iadd hx hb dX1_push_45 ?_
        refine va_put (D := (dC, dI)) (ci := 0) (v := .int (ky + 1)) (ty := .int) (C := RX1) (T := TX1) (N := 14) hx hb hts inlX1 tyX1 tyX1_ok nmX1 hown hK hP hD hS 0 rfl rfl 9 (by decide) (hts _ km_65) (fun _ h9 => h9) rfl (by decide +kernel) rfl rfl (Nat.le_of_ble_eq_true rfl) dX1_push_46 (fun H locs hP hD hS => ?_)
        have hP : va_P (dC, dI) classes (wX z cI cA n ar gl fl (pr + 1) pg (ky + 1) ac K B M Ds Bf L ++ rest) H := hP
        have hD : va_D A (wX z cI cA n ar gl fl (pr + 1) pg (ky + 1) ac K B M Ds Bf L ++ rest) := hD
        refine lv_aload_n hx hb dX1_push_49 rfl (lv_at hl 0 rfl) ?_
        refine va_get (D := (dC, dI)) (ci := 0) (v := .ref (z 1)) (C := RX1) (T := TX1) (N := 14) hx hb hts inlX1 hown hK hP 0 rfl rfl 3 (by decide) (hts _ km_27) (fun _ h9 => h9) rfl dX1_push_50 ?_
        refine lv_iload_n hx hb dX1_push_53 rfl (lv_at hl 1 rfl) ?_
        refine lv_iload_n hx hb dX1_push_54 rfl (lv_at hl 2 rfl) ?_
        refine fx_ast hx hb hK hP hD hS 1 0 rfl rfl j rfl hj hn31 dX1_push_55 (fun H locs hP hD hS => ?_)
        have hP : va_P (dC, dI) classes (wX z cI cA n ar gl fl (pr + 1) pg (ky + 1) ac (upd K j key) B M Ds Bf L ++ rest) H := hP
        have hD : va_D A (wX z cI cA n ar gl fl (pr + 1) pg (ky + 1) ac (upd K j key) B M Ds Bf L ++ rest) := hD
        refine lv_aload_n hx hb dX1_push_56 rfl (lv_at hl 0 rfl) ?_
        refine lv_iload_n hx hb dX1_push_57 rfl (lv_at hl 1 rfl) ?_
        have hk' : ¬ (upd K j key) j < 0 := by rw [pk_us]; exact fq_le0 (Int32.not_lt.mpr c_23) hs.1
        refine fx_Vv (rest := []) (sp_put l dC dI A cI cA cZ rest z n hn ar gl fl (pr + 1) pg (ky + 1) ac (upd K j key) B M Ds Bf L j hj (hs.2 j hj).1 hk' hs.1) hF (cw_RX1_72 hts ⟨Nat.le_of_ble_eq_true rfl, Nat.le_of_ble_eq_true rfl⟩) hA hS hP hK hD hN 0 0 rfl rfl rfl hl.1 rfl (Nat.le_of_ble_eq_true rfl) dX1_push_58 ⟨Nat.le_of_ble_eq_true rfl, Nat.le_of_ble_eq_true rfl⟩ (fun u H locs h hP hD hS => ?_)
        obtain ⟨pg1, B1, M1, e1⟩ := fqput_form fl (pr + 1) pg (ky + 1) (upd K j key) B M j
        rw [e1] at h
        subst h
        have hP : va_P (dC, dI) classes (wX z cI cA n ar gl fl (pr + 1) pg1 (ky + 1) ac (upd K j key) B1 M1 Ds Bf L ++ rest) H := hP
        have hD : va_D A (wX z cI cA n ar gl fl (pr + 1) pg1 (ky + 1) ac (upd K j key) B1 M1 Ds Bf L ++ rest) := hD
        refine lv_iconst (v := 0) hx hb dX1_push_61 (by decide) ?_
        exact fx_iret hx hb hr hlocks hK hS dX1_push_62 (fl, pr + 1, pg1, ky + 1, upd K j key, B1, M1) (by unfold fqpush; rw [fqat_some hj hn31]; dsimp only; rw [if_pos h8, if_neg (Int32.not_lt.mpr c_23), e1]) hP hD
      · refine lv_bipush (v := (-2)) hx hb dX1_push_26 (by decide) ?_
        exact fx_iret hx hb hr hlocks hK hS dX1_push_28 (fl, pr, pg, ky, K, B, M) (by unfold fqpush; rw [fqat_some hj hn31]; dsimp only; rw [if_pos h8, if_pos (Int32.not_le.mp c_23)]) hP hD
  · refine lv_if_eq (tgt := 16) hx hb dX1_push_5 (by decide) (fun _ => ?_) (fun h9 => absurd h9 (by decide))
    refine lv_iconst (v := (-1)) hx hb dX1_push_16 (by decide) ?_
    exact fx_iret hx hb hr hlocks hK hS dX1_push_17 (fl, pr, pg, ky, K, B, M) (by unfold fqpush; rw [fqat_none hn31 h]) hP hD
set_option maxHeartbeats 4000000 in
set_option maxRecDepth 100000 in
theorem sp_lower (l : Launch) (dC : Nat → ClassId) (dI : Nat → Nat → Nat) (A : Nat → Prop) (cI cA cZ : ClassId) (rest : va_W) (z : Nat → Nat) (n : Nat) (hn : n ≤ 40) (ar gl : Int32) (fl pr pg ky ac : Int32) (K B M Ds Bf : Nat → Int32) (L : Nat → Option Nat) (x key : Int32) (hs : fqS n (fl, pr, pg, ky, K, B, M)) : Met l yX1_lower (Cond.code yX1_lower cX1_lower 3 (some .int) :: wsL_law) ({ frames := 3, cells := 0, slots := 0, locals := 64 } : Room) (va_Pc [.ref (z 0), .int x, .int key] (fx_Pre (dC, dI) classes (fq_ty cI cA cZ) A (wX z cI cA n ar gl fl pr pg ky ac K B M Ds Bf L ++ rest))) (va_Qi (S := fqQ) (fun r u => (r, u) = fqlower n (fl, pr, pg, ky, K, B, M) x key) (fx_B (dC, dI) classes (fq_ty cI cA cZ) A (fun u : fqQ => wX z cI cA n ar gl u.1 u.2.1 u.2.2.1 u.2.2.2.1 ac u.2.2.2.2.1 u.2.2.2.2.2.1 u.2.2.2.2.2.2 Ds Bf L ++ rest)) A) 0 0 A := by
  refine Met.ofW (cc := cX1_lower) (maxL := 3) (ret := (some .int)) (by decide) rfl ?_
  intro p e s m args below meth c s₁ B0 hml hv
  obtain ⟨rfl, hA, hP, hK, hD, hN⟩ := hv
  have hx := B0.exec
  have hb := B0.bytes
  have hr := B0.returns
  have hts0 := atoms_spec (ws := (Cond.code yX1_lower cX1_lower 3 (some .int) :: wsL_law)) B0.pre
  have hts := fun w (h : w ∈ wsL_law) => hts0 w (List.mem_cons_of_mem _ h)
  have hown : s.vm.findClass RX1 = some m.cls := findClass_of_methodNamed B0.named
  have hlocks := B0.notSynchronized
  have hF : CallFix p m c cX1_lower 3 s ([.ref (z 0), .int x, .int key] : List Value).toArray wsL_law RX1 := ⟨hx, hb, hml, hown, hts⟩
  have hS : va_S A s.heap s.heap [] := va_S.rf
  have hl := lv_entry ([.ref (z 0), .int x, .int key]) (n := 3) (Nat.le_of_ble_eq_true rfl)
  rw [lg_entry_eq]
  generalize (lg_sl ([.ref (z 0), .int x, .int key]) ++ List.replicate (3 - (lg_sl ([.ref (z 0), .int x, .int key])).length) Slot.unset).toArray = ls at hl ⊢
  have hl : lv_has ls 3 [(0, .ref (z 0)), (1, .int x), (2, .int key)] := hl
  have hn31 : n < 2 ^ 31 := by omega
  refine lv_aload_n hx hb dX1_lower_0 rfl (lv_at hl 0 rfl) ?_
  refine lv_iload_n hx hb dX1_lower_1 rfl (lv_at hl 1 rfl) ?_
  refine fx_Vs (rest := []) (sp_isThere l dC dI A cI cA cZ rest z n hn ar gl fl pr pg ky ac K B M Ds Bf L x) hF (cw_RX1_60 hts ⟨Nat.le_of_ble_eq_true rfl, Nat.le_of_ble_eq_true rfl⟩) hA hS hP hK hD hN 0 0 rfl rfl rfl hl.1 rfl (Nat.le_of_ble_eq_true rfl) dX1_lower_2 ⟨Nat.le_of_ble_eq_true rfl, Nat.le_of_ble_eq_true rfl⟩ (fun r h => ?_)
  rcases h with ⟨rfl, ⟨j, hj, rfl, h8⟩⟩ | ⟨rfl, h⟩
  · refine lv_if_ne (tgt := 10) hx hb dX1_lower_5 (by decide) (fun _ => ?_) (fun h9 => absurd h9 (by decide))
    refine lv_iload_n hx hb dX1_lower_10 rfl (lv_at hl 2 rfl) ?_
    refine lv_aload_n hx hb dX1_lower_11 rfl (lv_at hl 0 rfl) ?_
    refine va_get (D := (dC, dI)) (ci := 0) (v := .int fl) (C := RX1) (T := TX1) (N := 14) hx hb hts inlX1 hown hK hP 0 rfl rfl 6 (by decide) (hts _ km_63) (fun _ h9 => h9) rfl dX1_lower_12 ?_
    refine lv_icmp_lt (tgt := 28) hx hb dX1_lower_15 (by decide) (fun c_15 => ?_) (fun c_15 => ?_)
    · refine lv_bipush (v := (-2)) hx hb dX1_lower_28 (by decide) ?_
      exact fx_iret hx hb hr hlocks hK hS dX1_lower_30 (fl, pr, pg, ky, K, B, M) (by unfold fqlower; rw [fqat_some hj hn31]; dsimp only; rw [if_neg h8, if_pos c_15]) hP hD
    · refine lv_iload_n hx hb dX1_lower_18 rfl (lv_at hl 2 rfl) ?_
      refine lv_aload_n hx hb dX1_lower_19 rfl (lv_at hl 0 rfl) ?_
      refine va_get (D := (dC, dI)) (ci := 0) (v := .ref (z 1)) (C := RX1) (T := TX1) (N := 14) hx hb hts inlX1 hown hK hP 0 rfl rfl 3 (by decide) (hts _ km_27) (fun _ h9 => h9) rfl dX1_lower_20 ?_
      refine lv_iload_n hx hb dX1_lower_23 rfl (lv_at hl 1 rfl) ?_
      refine fx_ald hx hb hK hP 1 0 rfl rfl j rfl hj hn31 dX1_lower_24 ?_
      refine lv_icmp_le (tgt := 31) hx hb dX1_lower_25 (by decide) (fun c_25 => ?_) (fun c_25 => ?_)
      · refine lv_iload_n hx hb dX1_lower_31 rfl (lv_at hl 2 rfl) ?_
        refine lv_aload_n hx hb dX1_lower_32 rfl (lv_at hl 0 rfl) ?_
        refine va_get (D := (dC, dI)) (ci := 0) (v := .ref (z 1)) (C := RX1) (T := TX1) (N := 14) hx hb hts inlX1 hown hK hP 0 rfl rfl 3 (by decide) (hts _ km_27) (fun _ h9 => h9) rfl dX1_lower_33 ?_
        refine lv_iload_n hx hb dX1_lower_36 rfl (lv_at hl 1 rfl) ?_
        refine fx_ald hx hb hK hP 1 0 rfl rfl j rfl hj hn31 dX1_lower_37 ?_
        refine lv_icmp_ge (tgt := 77) hx hb dX1_lower_38 (by decide) (fun c_38 => ?_) (fun c_38 => ?_)
        · refine lv_iconst (v := 0) hx hb dX1_lower_77 (by decide) ?_
          exact fx_iret hx hb hr hlocks hK hS dX1_lower_78 (fl, pr, pg, ky, K, B, M) (by unfold fqlower; rw [fqat_some hj hn31]; dsimp only; rw [if_neg h8, if_neg c_15, if_pos c_25, if_pos c_38]) hP hD
        · refine lv_aload_n hx hb dX1_lower_41 rfl (lv_at hl 0 rfl) ?_
          refine lv_dup hx hb dX1_lower_42 rfl ?_
          refine va_get (D := (dC, dI)) (ci := 0) (v := .int ky) (C := RX1) (T := TX1) (N := 14) hx hb hts inlX1 hown hK hP 0 rfl rfl 9 (by decide) (hts _ km_65) (fun _ h9 => h9) rfl dX1_lower_43 ?_
          refine lv_iconst (v := 1) hx hb dX1_lower_46 (by decide) ?_
          refine lv_iadd hx hb dX1_lower_47 ?_
          refine va_put (D := (dC, dI)) (ci := 0) (v := .int (ky + 1)) (ty := .int) (C := RX1) (T := TX1) (N := 14) hx hb hts inlX1 tyX1 tyX1_ok nmX1 hown hK hP hD hS 0 rfl rfl 9 (by decide) (hts _ km_65) (fun _ h9 => h9) rfl (by decide +kernel) rfl rfl (Nat.le_of_ble_eq_true rfl) dX1_lower_48 (fun H locs hP hD hS => ?_)
          have hP : va_P (dC, dI) classes (wX z cI cA n ar gl fl pr pg (ky + 1) ac K B M Ds Bf L ++ rest) H := hP
          have hD : va_D A (wX z cI cA n ar gl fl pr pg (ky + 1) ac K B M Ds Bf L ++ rest) := hD
          refine lv_aload_n hx hb dX1_lower_51 rfl (lv_at hl 0 rfl) ?_
          refine va_get (D := (dC, dI)) (ci := 0) (v := .ref (z 1)) (C := RX1) (T := TX1) (N := 14) hx hb hts inlX1 hown hK hP 0 rfl rfl 3 (by decide) (hts _ km_27) (fun _ h9 => h9) rfl dX1_lower_52 ?_
          refine lv_iload_n hx hb dX1_lower_55 rfl (lv_at hl 1 rfl) ?_
          refine lv_iload_n hx hb dX1_lower_56 rfl (lv_at hl 2 rfl) ?_
          refine fx_ast hx hb hK hP hD hS 1 0 rfl rfl j rfl hj hn31 dX1_lower_57 (fun H locs hP hD hS => ?_)
          have hP : va_P (dC, dI) classes (wX z cI cA n ar gl fl pr pg (ky + 1) ac (upd K j key) B M Ds Bf L ++ rest) H := hP
          have hD : va_D A (wX z cI cA n ar gl fl pr pg (ky + 1) ac (upd K j key) B M Ds Bf L ++ rest) := hD
          refine lv_aload_n hx hb dX1_lower_58 rfl (lv_at hl 0 rfl) ?_
          refine lv_iload_n hx hb dX1_lower_59 rfl (lv_at hl 2 rfl) ?_
          have hk0 : ¬ key < 0 := fq_le0 c_15 hs.1
          refine fx_Vs (rest := []) (sp_bucketFor l dC dI A cI cA cZ rest z n hn ar gl fl pr pg (ky + 1) ac (upd K j key) B M Ds Bf L key hk0 hs.1) hF (cw_RX1_76 hts ⟨Nat.le_of_ble_eq_true rfl, Nat.le_of_ble_eq_true rfl⟩) hA hS hP hK hD hN 0 0 rfl rfl rfl hl.1 rfl (Nat.le_of_ble_eq_true rfl) dX1_lower_60 ⟨Nat.le_of_ble_eq_true rfl, Nat.le_of_ble_eq_true rfl⟩ (fun r h => ?_)
          subst h
          refine lv_aload_n hx hb dX1_lower_63 rfl (lv_at hl 0 rfl) ?_
          refine va_get (D := (dC, dI)) (ci := 0) (v := .ref (z 2)) (C := RX1) (T := TX1) (N := 14) hx hb hts inlX1 hown hK hP 0 rfl rfl 4 (by decide) (hts _ km_28) (fun _ h9 => h9) rfl dX1_lower_64 ?_
          refine lv_iload_n hx hb dX1_lower_67 rfl (lv_at hl 1 rfl) ?_
          refine fx_ald hx hb hK hP 2 0 rfl rfl j rfl hj hn31 dX1_lower_68 ?_
          refine lv_icmp_eq (tgt := 77) hx hb dX1_lower_69 (by decide) (fun c_69 => ?_) (fun c_69 => ?_)
          · refine lv_iconst (v := 0) hx hb dX1_lower_77 (by decide) ?_
            exact fx_iret hx hb hr hlocks hK hS dX1_lower_78 (fl, pr, pg, ky + 1, upd K j key, B, M) (by unfold fqlower; rw [fqat_some hj hn31]; dsimp only; rw [if_neg h8, if_neg c_15, if_pos c_25, if_neg c_38]; unfold fqlow1; dsimp only; rw [if_pos c_69]) hP hD
          · refine lv_aload_n hx hb dX1_lower_72 rfl (lv_at hl 0 rfl) ?_
            refine lv_iload_n hx hb dX1_lower_73 rfl (lv_at hl 1 rfl) ?_
            have hk' : ¬ (upd K j key) j < 0 := by rw [pk_us]; exact hk0
            refine fx_Vv (rest := []) (sp_put l dC dI A cI cA cZ rest z n hn ar gl fl pr pg (ky + 1) ac (upd K j key) B M Ds Bf L j hj (hs.2 j hj).1 hk' hs.1) hF (cw_RX1_72 hts ⟨Nat.le_of_ble_eq_true rfl, Nat.le_of_ble_eq_true rfl⟩) hA hS hP hK hD hN 0 0 rfl rfl rfl hl.1 rfl (Nat.le_of_ble_eq_true rfl) dX1_lower_74 ⟨Nat.le_of_ble_eq_true rfl, Nat.le_of_ble_eq_true rfl⟩ (fun u H locs h hP hD hS => ?_)
            obtain ⟨pg1, B1, M1, e1⟩ := fqput_form fl pr pg (ky + 1) (upd K j key) B M j
            rw [e1] at h
            subst h
            have hP : va_P (dC, dI) classes (wX z cI cA n ar gl fl pr pg1 (ky + 1) ac (upd K j key) B1 M1 Ds Bf L ++ rest) H := hP
            have hD : va_D A (wX z cI cA n ar gl fl pr pg1 (ky + 1) ac (upd K j key) B1 M1 Ds Bf L ++ rest) := hD
            refine lv_iconst (v := 0) hx hb dX1_lower_77 (by decide) ?_
            exact fx_iret hx hb hr hlocks hK hS dX1_lower_78 (fl, pr, pg1, ky + 1, upd K j key, B1, M1) (by unfold fqlower; rw [fqat_some hj hn31]; dsimp only; rw [if_neg h8, if_neg c_15, if_pos c_25, if_neg c_38]; unfold fqlow1; dsimp only; rw [if_neg c_69, e1]) hP hD
      · refine lv_bipush (v := (-2)) hx hb dX1_lower_28 (by decide) ?_
        exact fx_iret hx hb hr hlocks hK hS dX1_lower_30 (fl, pr, pg, ky, K, B, M) (by unfold fqlower; rw [fqat_some hj hn31]; dsimp only; rw [if_neg h8, if_neg c_15, if_neg c_25]) hP hD
  · refine lv_if_ne (tgt := 10) hx hb dX1_lower_5 (by decide) (fun h9 => absurd h9 (by decide)) (fun _ => ?_)
    refine lv_iconst (v := (-1)) hx hb dX1_lower_8 (by decide) ?_
    exact fx_iret hx hb hr hlocks hK hS dX1_lower_9 (fl, pr, pg, ky, K, B, M) ((fqlower_bad h).symm) hP hD
set_option maxHeartbeats 4000000 in
set_option maxRecDepth 100000 in
theorem sp_pop (l : Launch) (dC : Nat → ClassId) (dI : Nat → Nat → Nat) (A : Nat → Prop) (cI cA cZ : ClassId) (rest : va_W) (z : Nat → Nat) (n : Nat) (hn : n ≤ 40) (ar gl : Int32) (fl pr pg ky ac : Int32) (K B M Ds Bf : Nat → Int32) (L : Nat → Option Nat) (hs : fqS n (fl, pr, pg, ky, K, B, M)) : Met l yX1_pop (Cond.code yX1_pop cX1_pop 3 (some .int) :: wsL_law) ({ frames := 4, cells := 0, slots := 0, locals := 86 } : Room) (va_Pc [.ref (z 0)] (fx_Pre (dC, dI) classes (fq_ty cI cA cZ) A (wX z cI cA n ar gl fl pr pg ky ac K B M Ds Bf L ++ rest))) (va_Qi (S := fqQ) (fun r u => (r, u) = fqpop n (fl, pr, pg, ky, K, B, M)) (fx_B (dC, dI) classes (fq_ty cI cA cZ) A (fun u : fqQ => wX z cI cA n ar gl u.1 u.2.1 u.2.2.1 u.2.2.2.1 ac u.2.2.2.2.1 u.2.2.2.2.2.1 u.2.2.2.2.2.2 Ds Bf L ++ rest)) A) 0 0 A := by
  refine Met.ofW (cc := cX1_pop) (maxL := 3) (ret := (some .int)) (by decide) rfl ?_
  intro p e s m args below meth c s₁ B0 hml hv
  obtain ⟨rfl, hA, hP, hK, hD, hN⟩ := hv
  have hx := B0.exec
  have hb := B0.bytes
  have hr := B0.returns
  have hts0 := atoms_spec (ws := (Cond.code yX1_pop cX1_pop 3 (some .int) :: wsL_law)) B0.pre
  have hts := fun w (h : w ∈ wsL_law) => hts0 w (List.mem_cons_of_mem _ h)
  have hown : s.vm.findClass RX1 = some m.cls := findClass_of_methodNamed B0.named
  have hlocks := B0.notSynchronized
  have hF : CallFix p m c cX1_pop 3 s ([.ref (z 0)] : List Value).toArray wsL_law RX1 := ⟨hx, hb, hml, hown, hts⟩
  have hS : va_S A s.heap s.heap [] := va_S.rf
  have hl := lv_entry ([.ref (z 0)]) (n := 3) (Nat.le_of_ble_eq_true rfl)
  rw [lg_entry_eq]
  generalize (lg_sl ([.ref (z 0)]) ++ List.replicate (3 - (lg_sl ([.ref (z 0)])).length) Slot.unset).toArray = ls at hl ⊢
  have hl : lv_has ls 3 [(0, .ref (z 0))] := hl
  have hn31 : n < 2 ^ 31 := by omega
  refine lv_aload_n hx hb dX1_pop_0 rfl (lv_at hl 0 rfl) ?_
  refine fx_Vs (rest := []) (sp_low l dC dI A cI cA cZ rest z n hn ar gl fl pr pg ky ac K B M Ds Bf L) hF (cw_RX1_80 hts ⟨Nat.le_of_ble_eq_true rfl, Nat.le_of_ble_eq_true rfl⟩) hA hS hP hK hD hN 0 0 rfl rfl rfl hl.1 rfl (Nat.le_of_ble_eq_true rfl) dX1_pop_1 ⟨Nat.le_of_ble_eq_true rfl, Nat.le_of_ble_eq_true rfl⟩ (fun r h => ?_)
  subst h
  refine lv_istore_n (lv' := [(1, .int (fqopt (fqlow M 32 0))), (0, .ref (z 0))]) hx hb dX1_pop_4 rfl hl (by decide) rfl (fun ls hl => ?_)
  refine lv_aload_n hx hb dX1_pop_5 rfl (lv_at hl 1 rfl) ?_
  refine lv_iload_n hx hb dX1_pop_6 rfl (lv_at hl 0 rfl) ?_
  refine fx_Vs (rest := []) (sp_best l dC dI A cI cA cZ rest z n hn ar gl fl pr pg ky ac K B M Ds Bf L (fqopt (fqlow M 32 0))) hF (cw_RX1_84 hts ⟨Nat.le_of_ble_eq_true rfl, Nat.le_of_ble_eq_true rfl⟩) hA hS hP hK hD hN 0 0 rfl rfl rfl hl.1 rfl (Nat.le_of_ble_eq_true rfl) dX1_pop_7 ⟨Nat.le_of_ble_eq_true rfl, Nat.le_of_ble_eq_true rfl⟩ (fun r h => ?_)
  cases e9 : fqbest K B (fqopt (fqlow M 32 0)) n 0 none with
  | none =>
    rw [e9] at h
    have h : r = (-1) := h
    subst h
    refine lv_istore_n (lv' := [(2, .int (-1)), (1, .int (fqopt (fqlow M 32 0))), (0, .ref (z 0))]) hx hb dX1_pop_10 rfl hl (by decide) rfl (fun ls hl => ?_)
    refine lv_aload_n hx hb dX1_pop_11 rfl (lv_at hl 2 rfl) ?_
    refine lv_iload_n hx hb dX1_pop_12 rfl (lv_at hl 0 rfl) ?_
    refine fx_Vs (rest := []) (sp_isThere l dC dI A cI cA cZ rest z n hn ar gl fl pr pg ky ac K B M Ds Bf L (-1)) hF (cw_RX1_60 hts ⟨Nat.le_of_ble_eq_true rfl, Nat.le_of_ble_eq_true rfl⟩) hA hS hP hK hD hN 0 0 rfl rfl rfl hl.1 rfl (Nat.le_of_ble_eq_true rfl) dX1_pop_13 ⟨Nat.le_of_ble_eq_true rfl, Nat.le_of_ble_eq_true rfl⟩ (fun r h => ?_)
    rcases h with ⟨rfl, j9, hj9, e8, -⟩ | ⟨rfl, -⟩
    · exact absurd e8.symm (fq_nm1 (by omega))
    · refine lv_if_ne (tgt := 21) hx hb dX1_pop_16 (by decide) (fun h9 => absurd h9 (by decide)) (fun _ => ?_)
      refine lv_iconst (v := (-1)) hx hb dX1_pop_19 (by decide) ?_
      exact fx_iret hx hb hr hlocks hK hS dX1_pop_20 (fl, pr, pg, ky, K, B, M) (by unfold fqpop; dsimp only; rw [e9]) hP hD
  | some j =>
    rw [e9] at h
    have h : r = nI j := h
    subst h
    obtain ⟨-, hj, hBj, hBb⟩ := (fqbest_in n 0 none j e9).resolve_left (fun h => by cases h)
    have hj : j < n := by omega
    have hkj := (hs.2 j hj).2 hBj
    refine lv_istore_n (lv' := [(2, .int (nI j)), (1, .int (fqopt (fqlow M 32 0))), (0, .ref (z 0))]) hx hb dX1_pop_10 rfl hl (by decide) rfl (fun ls hl => ?_)
    refine lv_aload_n hx hb dX1_pop_11 rfl (lv_at hl 2 rfl) ?_
    refine lv_iload_n hx hb dX1_pop_12 rfl (lv_at hl 0 rfl) ?_
    refine fx_Vs (rest := []) (sp_isThere l dC dI A cI cA cZ rest z n hn ar gl fl pr pg ky ac K B M Ds Bf L (nI j)) hF (cw_RX1_60 hts ⟨Nat.le_of_ble_eq_true rfl, Nat.le_of_ble_eq_true rfl⟩) hA hS hP hK hD hN 0 0 rfl rfl rfl hl.1 rfl (Nat.le_of_ble_eq_true rfl) dX1_pop_13 ⟨Nat.le_of_ble_eq_true rfl, Nat.le_of_ble_eq_true rfl⟩ (fun r h => ?_)
    rcases h with ⟨rfl, -⟩ | ⟨rfl, h⟩
    · refine lv_if_ne (tgt := 21) hx hb dX1_pop_16 (by decide) (fun _ => ?_) (fun h9 => absurd h9 (by decide))
      refine lv_aload_n hx hb dX1_pop_21 rfl (lv_at hl 2 rfl) ?_
      refine lv_aload_n hx hb dX1_pop_22 rfl (lv_at hl 2 rfl) ?_
      refine va_get (D := (dC, dI)) (ci := 0) (v := .ref (z 1)) (C := RX1) (T := TX1) (N := 14) hx hb hts inlX1 hown hK hP 0 rfl rfl 3 (by decide) (hts _ km_27) (fun _ h9 => h9) rfl dX1_pop_23 ?_
      refine lv_iload_n hx hb dX1_pop_26 rfl (lv_at hl 0 rfl) ?_
      refine fx_ald hx hb hK hP 1 0 rfl rfl j rfl hj hn31 dX1_pop_27 ?_
      refine va_put (D := (dC, dI)) (ci := 0) (v := .int (K j)) (ty := .int) (C := RX1) (T := TX1) (N := 14) hx hb hts inlX1 tyX1 tyX1_ok nmX1 hown hK hP hD hS 0 rfl rfl 6 (by decide) (hts _ km_63) (fun _ h9 => h9) rfl (by decide +kernel) rfl rfl (Nat.le_of_ble_eq_true rfl) dX1_pop_28 (fun H locs hP hD hS => ?_)
      have hP : va_P (dC, dI) classes (wX z cI cA n ar gl (K j) pr pg ky ac K B M Ds Bf L ++ rest) H := hP
      have hD : va_D A (wX z cI cA n ar gl (K j) pr pg ky ac K B M Ds Bf L ++ rest) := hD
      refine lv_iload_n hx hb dX1_pop_31 rfl (lv_at hl 1 rfl) ?_
      refine lv_if_le (tgt := 40) hx hb dX1_pop_32 (by decide) (fun c_32 => ?_) (fun c_32 => ?_)
      · refine lv_aload_n hx hb dX1_pop_40 rfl (lv_at hl 2 rfl) ?_
        refine lv_iload_n hx hb dX1_pop_41 rfl (lv_at hl 0 rfl) ?_
        have hB2 := (hs.2 j hj).1
        refine fx_Vv (rest := []) (sp_take l dC dI A cI cA cZ rest z n hn ar gl (K j) pr pg ky ac K B M Ds Bf L j hj hB2) hF (cw_RX1_90 hts ⟨Nat.le_of_ble_eq_true rfl, Nat.le_of_ble_eq_true rfl⟩) hA hS hP hK hD hN 0 0 rfl rfl rfl hl.1 rfl (Nat.le_of_ble_eq_true rfl) dX1_pop_42 ⟨Nat.le_of_ble_eq_true rfl, Nat.le_of_ble_eq_true rfl⟩ (fun u H locs h hP hD hS => ?_)
        obtain ⟨pr2, B2, M2, e2⟩ := fqtake_form (K j) pr pg ky K B M j
        rw [e2] at h
        subst h
        have hP : va_P (dC, dI) classes (wX z cI cA n ar gl (K j) pr2 pg ky ac K B2 M2 Ds Bf L ++ rest) H := hP
        have hD : va_D A (wX z cI cA n ar gl (K j) pr2 pg ky ac K B2 M2 Ds Bf L ++ rest) := hD
        refine lv_iload_n hx hb dX1_pop_45 rfl (lv_at hl 0 rfl) ?_
        exact fx_iret hx hb hr hlocks hK hS dX1_pop_46 (K j, pr2, pg, ky, K, B2, M2) (by unfold fqpop; dsimp only; rw [e9]; dsimp only; rw [if_pos c_32, e2]) hP hD
      · refine lv_aload_n hx hb dX1_pop_35 rfl (lv_at hl 2 rfl) ?_
        refine lv_iload_n hx hb dX1_pop_36 rfl (lv_at hl 1 rfl) ?_
        have hb1 : fqopt (fqlow M 32 0) ≠ -1 := fun h => c_32 (by rw [h]; decide)
        have hs1 : fqS n (K j, pr, pg, ky, K, B, M) := ⟨hkj, hs.2⟩
        refine fx_Vv (rest := []) (sp_spread l dC dI A cI cA cZ rest z n hn ar gl (K j) pr pg ky ac K B M Ds Bf L (fqopt (fqlow M 32 0)) hb1 hs1) hF (cw_RX1_87 hts ⟨Nat.le_of_ble_eq_true rfl, Nat.le_of_ble_eq_true rfl⟩) hA hS hP hK hD hN 0 0 rfl rfl rfl hl.1 rfl (Nat.le_of_ble_eq_true rfl) dX1_pop_37 ⟨Nat.le_of_ble_eq_true rfl, Nat.le_of_ble_eq_true rfl⟩ (fun u H locs h hP hD hS => ?_)
        have hs2 := (fqspread_S hb1 n 0 _ (Nat.le_refl _) hs1).1
        obtain ⟨pg1, B1, M1, e1⟩ := fqspread_form (fqopt (fqlow M 32 0)) (K j) pr ky K n 0 pg B M
        rw [e1] at h
        subst h
        have hP : va_P (dC, dI) classes (wX z cI cA n ar gl (K j) pr pg1 ky ac K B1 M1 Ds Bf L ++ rest) H := hP
        have hD : va_D A (wX z cI cA n ar gl (K j) pr pg1 ky ac K B1 M1 Ds Bf L ++ rest) := hD
        rw [e1] at hs2
        have hB2 := (hs2.2 j hj).1
        refine lv_aload_n hx hb dX1_pop_40 rfl (lv_at hl 2 rfl) ?_
        refine lv_iload_n hx hb dX1_pop_41 rfl (lv_at hl 0 rfl) ?_
        refine fx_Vv (rest := []) (sp_take l dC dI A cI cA cZ rest z n hn ar gl (K j) pr pg1 ky ac K B1 M1 Ds Bf L j hj hB2) hF (cw_RX1_90 hts ⟨Nat.le_of_ble_eq_true rfl, Nat.le_of_ble_eq_true rfl⟩) hA hS hP hK hD hN 0 0 rfl rfl rfl hl.1 rfl (Nat.le_of_ble_eq_true rfl) dX1_pop_42 ⟨Nat.le_of_ble_eq_true rfl, Nat.le_of_ble_eq_true rfl⟩ (fun u H locs h hP hD hS => ?_)
        obtain ⟨pr2, B2, M2, e2⟩ := fqtake_form (K j) pr pg1 ky K B1 M1 j
        rw [e2] at h
        subst h
        have hP : va_P (dC, dI) classes (wX z cI cA n ar gl (K j) pr2 pg1 ky ac K B2 M2 Ds Bf L ++ rest) H := hP
        have hD : va_D A (wX z cI cA n ar gl (K j) pr2 pg1 ky ac K B2 M2 Ds Bf L ++ rest) := hD
        refine lv_iload_n hx hb dX1_pop_45 rfl (lv_at hl 0 rfl) ?_
        exact fx_iret hx hb hr hlocks hK hS dX1_pop_46 (K j, pr2, pg1, ky, K, B2, M2) (by unfold fqpop; dsimp only; rw [e9]; dsimp only; rw [if_neg c_32, e1, e2]) hP hD
    · exact absurd (h j hj rfl) hBj
