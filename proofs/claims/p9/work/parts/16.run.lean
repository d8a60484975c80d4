theorem cw_RX1_150 {R : Room} {s : State} {args : Array Value} {rm : Room} (hts : ∀ w ∈ wsL_law, w.before args s = true) (hR : rm.frames + 1 ≤ R.frames ∧ 8 + (3 + 11) + rm.locals ≤ R.locals) : CallW R s args RX1 RX1 150 yX1_lower cX1_lower 3 (some .int) (Cond.code yX1_lower cX1_lower 3 (some .int) :: wsL_law) rm rm.cells rm.slots 2 := cwV 2 hts (km_app (km_four km_231 km_103 km_104 km_2) (km_in km_105)) rfl rfl rfl (by decide +kernel) hR
theorem cw_RX1_108 {R : Room} {s : State} {args : Array Value} {rm : Room} (hts : ∀ w ∈ wsL_law, w.before args s = true) (hR : rm.frames + 1 ≤ R.frames ∧ 8 + (3 + 11) + rm.locals ≤ R.locals) : CallW R s args RX1 RX1 108 yX1_push cX1_push 3 (some .int) (Cond.code yX1_push cX1_push 3 (some .int) :: wsL_law) rm rm.cells rm.slots 2 := cwV 2 hts (km_app (km_four km_220 km_60 km_61 km_2) (km_in km_62)) rfl rfl rfl (by decide +kernel) hR
theorem cw_RX1_131 {R : Room} {s : State} {args : Array Value} {rm : Room} (hts : ∀ w ∈ wsL_law, w.before args s = true) (hR : rm.frames + 1 ≤ R.frames ∧ 8 + (3 + 11) + rm.locals ≤ R.locals) : CallW R s args RX1 RX1 131 yX1_pop cX1_pop 3 (some .int) (Cond.code yX1_pop cX1_pop 3 (some .int) :: wsL_law) rm rm.cells rm.slots 0 := cwV 0 hts (km_app (km_four km_225 km_118 km_119 km_2) (km_in km_120)) rfl rfl rfl (by decide +kernel) hR
theorem cw_RX1_134 {R : Room} {s : State} {args : Array Value} {rm : Room} (hts : ∀ w ∈ wsL_law, w.before args s = true) (hR : rm.frames + 1 ≤ R.frames ∧ 8 + (6 + 11) + rm.locals ≤ R.locals) : CallW R s args RX1 RX1 134 yX1_tryWay cX1_tryWay 6 none (Cond.code yX1_tryWay cX1_tryWay 6 none :: wsL_law) rm rm.cells rm.slots 2 := cwV 2 hts (km_app (km_four km_226 km_227 km_228 km_2) (km_in km_229)) rfl rfl rfl (by decide +kernel) hR
theorem cw_RX1_105 {R : Room} {s : State} {args : Array Value} {rm : Room} (hts : ∀ w ∈ wsL_law, w.before args s = true) (hR : rm.frames + 1 ≤ R.frames ∧ 8 + (1 + 11) + rm.locals ≤ R.locals) : CallW R s args RX1 RX1 105 yX1_emptyQueue cX1_emptyQueue 1 none (Cond.code yX1_emptyQueue cX1_emptyQueue 1 none :: wsL_law) rm rm.cells rm.slots 0 := cwV 0 hts (km_app (km_four km_216 km_217 km_218 km_2) (km_in km_219)) rfl rfl rfl (by decide +kernel) hR
theorem cw_RX1_114 {R : Room} {s : State} {args : Array Value} {rm : Room} (hts : ∀ w ∈ wsL_law, w.before args s = true) (hR : rm.frames + 1 ≤ R.frames ∧ 8 + (2 + 11) + rm.locals ≤ R.locals) : CallW R s args RX1 RX1 114 yX1_isSomeWayTooLong cX1_isSomeWayTooLong 2 (some .boolean) (Cond.code yX1_isSomeWayTooLong cX1_isSomeWayTooLong 2 (some .boolean) :: wsL_law) rm rm.cells rm.slots 0 := cwV 0 hts (km_app (km_four km_232 km_233 km_234 km_2) (km_in km_235)) rfl rfl rfl (by decide +kernel) hR
theorem cw_RX1_111 {R : Room} {s : State} {args : Array Value} {rm : Room} (hts : ∀ w ∈ wsL_law, w.before args s = true) (hR : rm.frames + 1 ≤ R.frames ∧ 8 + (3 + 11) + rm.locals ≤ R.locals) : CallW R s args RX1 RX1 111 yX1_takeNext cX1_takeNext 3 none (Cond.code yX1_takeNext cX1_takeNext 3 none :: wsL_law) rm rm.cells rm.slots 0 := cwV 0 hts (km_app (km_four km_221 km_222 km_223 km_2) (km_in km_224)) rfl rfl rfl (by decide +kernel) hR
theorem cw_RX1_118 {R : Room} {s : State} {args : Array Value} {rm : Room} (hts : ∀ w ∈ wsL_law, w.before args s = true) (hR : rm.frames + 1 ≤ R.frames ∧ 8 + (2 + 11) + rm.locals ≤ R.locals) : CallW R s args RX1 RX1 118 yX1_isWhereItBelongs cX1_isWhereItBelongs 2 (some .boolean) (Cond.code yX1_isWhereItBelongs cX1_isWhereItBelongs 2 (some .boolean) :: wsL_law) rm rm.cells rm.slots 1 := cwV 1 hts (km_app (km_four km_279 km_280 km_281 km_2) (km_in km_282)) rfl rfl rfl (by decide +kernel) hR
set_option maxHeartbeats 4000000 in
set_option maxRecDepth 100000 in
theorem sp_try (l : Launch) (dC : Nat → ClassId) (dI : Nat → Nat → Nat) (A : Nat → Prop) (cI cA cZ : ClassId) (rest : va_W) (z : Nat → Nat) (n : Nat) (hn : n ≤ 40) (ar gl : Int32) (fl pr pg ky ac : Int32) (K B M Ds Bf : Nat → Int32) (L : Nat → Option Nat) (t a k9 e1 : Nat) (w0 : Int32) (nx : Option Nat) (ht : t < n) (he1 : e1 < n) (hk9 : rest[k9]? = some (a, .inr (1, [.int (nI e1), .int w0, va_rf nx]))) (hs : fqS n (fl, pr, pg, ky, K, B, M)) : Met l yX1_tryWay (Cond.code yX1_tryWay cX1_tryWay 6 none :: wsL_law) ({ frames := 4, cells := 0, slots := 0, locals := 86 } : Room) (va_Pc [.ref (z 0), .int (nI t), .ref a] (fx_Pre (dC, dI) classes (fq_ty cI cA cZ) A (wX z cI cA n ar gl fl pr pg ky ac K B M Ds Bf L ++ rest))) (va_Qv (S := fqR) (fun u => u = fqtry n ((fl, pr, pg, ky, K, B, M), Ds, Bf) t (nI e1) w0) (fx_B (dC, dI) classes (fq_ty cI cA cZ) A (fun u : fqR => wX z cI cA n ar gl u.1.1 u.1.2.1 u.1.2.2.1 u.1.2.2.2.1 ac u.1.2.2.2.2.1 u.1.2.2.2.2.2.1 u.1.2.2.2.2.2.2 u.2.1 u.2.2 L ++ rest)) A) 0 0 A := by
  refine Met.ofW (cc := cX1_tryWay) (maxL := 6) (ret := none) (by decide) rfl ?_
  intro p e s m args below meth c s₁ B0 hml hv
  obtain ⟨rfl, hA, hP, hK, hD, hN⟩ := hv
  have hx := B0.exec
  have hb := B0.bytes
  have hr := B0.returns
  have hts0 := atoms_spec (ws := (Cond.code yX1_tryWay cX1_tryWay 6 none :: wsL_law)) B0.pre
  have hts := fun w (h : w ∈ wsL_law) => hts0 w (List.mem_cons_of_mem _ h)
  have hown : s.vm.findClass RX1 = some m.cls := findClass_of_methodNamed B0.named
  have hlocks := B0.notSynchronized
  have hF : CallFix p m c cX1_tryWay 6 s ([.ref (z 0), .int (nI t), .ref a] : List Value).toArray wsL_law RX1 := ⟨hx, hb, hml, hown, hts⟩
  have hS : va_S A s.heap s.heap [] := va_S.rf
  have hl := lv_entry ([.ref (z 0), .int (nI t), .ref a]) (n := 6) (Nat.le_of_ble_eq_true rfl)
  rw [lg_entry_eq]
  generalize (lg_sl ([.ref (z 0), .int (nI t), .ref a]) ++ List.replicate (6 - (lg_sl ([.ref (z 0), .int (nI t), .ref a])).length) Slot.unset).toArray = ls at hl ⊢
  have hl : lv_has ls 6 [(0, .ref (z 0)), (1, .int (nI t)), (2, .ref a)] := hl
  have hn31 : n < 2 ^ 31 := by omega
  refine lv_aload_n hx hb dX1_tryWay_0 rfl (lv_at hl 2 rfl) ?_
  refine va_getN (D := (dC, dI)) (ci := 1) (v := .int (nI e1)) (C := RX0) (T := TX0) (N := 3) hx hb hts inlX0 hown hK hP (k9 + 7) hk9 rfl 0 (by decide) (hN.1.use rfl) (fun _ h9 => h9) rfl dX1_tryWay_1 ?_
  refine lv_istore_n (lv' := [(3, .int (nI e1)), (0, .ref (z 0)), (1, .int (nI t)), (2, .ref a)]) hx hb dX1_tryWay_4 rfl hl (by decide) rfl (fun ls hl => ?_)
  refine lv_aload_n hx hb dX1_tryWay_5 rfl (lv_at hl 1 rfl) ?_
  refine va_get (D := (dC, dI)) (ci := 0) (v := .ref (z 5)) (C := RX1) (T := TX1) (N := 14) hx hb hts inlX1 hown hK hP 0 rfl rfl 12 (by decide) (hts _ km_32) (fun _ h9 => h9) rfl dX1_tryWay_6 ?_
  refine lv_iload_n hx hb dX1_tryWay_9 rfl (lv_at hl 2 rfl) ?_
  refine fx_ald hx hb hK hP 5 0 rfl rfl t rfl ht hn31 dX1_tryWay_10 ?_
  refine lv_i2l hx hb dX1_tryWay_11 rfl ?_
  refine lv_aload_n hx hb dX1_tryWay_12 rfl (lv_at hl 3 rfl) ?_
  refine va_getN (D := (dC, dI)) (ci := 1) (v := .int w0) (C := RX0) (T := TX0) (N := 3) hx hb hts inlX0 hown hK hP (k9 + 7) hk9 rfl 1 (by decide) (hN.2.1.use rfl) (fun _ h9 => h9) rfl dX1_tryWay_13 ?_
  refine lv_i2l hx hb dX1_tryWay_16 rfl ?_
  refine lv_ladd hx hb dX1_tryWay_17 ?_
  refine lv_lstore (lv' := [(4, .long (((Ds t).toInt64) + w0.toInt64)), (3, .int (nI e1)), (0, .ref (z 0)), (1, .int (nI t)), (2, .ref a)]) hx hb dX1_tryWay_18 hl (by decide) rfl (fun ls hl => ?_)
  refine lv_aload_n hx hb dX1_tryWay_20 rfl (lv_at hl 2 rfl) ?_
  refine va_get (D := (dC, dI)) (ci := 0) (v := .ref (z 5)) (C := RX1) (T := TX1) (N := 14) hx hb hts inlX1 hown hK hP 0 rfl rfl 12 (by decide) (hts _ km_32) (fun _ h9 => h9) rfl dX1_tryWay_21 ?_
  refine lv_iload_n hx hb dX1_tryWay_24 rfl (lv_at hl 1 rfl) ?_
  refine fx_ald hx hb hK hP 5 0 rfl rfl e1 rfl he1 hn31 dX1_tryWay_25 ?_
  refine lv_iconst (v := (-1)) hx hb dX1_tryWay_26 (by decide) ?_
  refine lv_icmp_ne (tgt := 39) hx hb dX1_tryWay_27 (by decide) (fun c_27 => ?_) (fun c_27 => ?_)
  · exact fx_vret hx hb hr hlocks hK hS dX1_tryWay_39 ((fl, pr, pg, ky, K, B, M), Ds, Bf) (by unfold fqtry; dsimp only; rw [fqn_nI (by omega), if_neg c_27]) hP hD
  · refine lv_lload hx hb dX1_tryWay_30 (lv_at hl 0 rfl) ?_
    refine lv_ldc2 (v := 2147483647) hx hb hown (hts _ km_230) dX1_tryWay_32 ?_
    refine W.lcmp hx hb dX1_tryWay_35 ?_
    refine lv_if_le (tgt := 40) hx hb dX1_tryWay_36 (by decide) (fun c_36 => ?_) (fun c_36 => ?_)
    · have c_36 := fx_lle.mp c_36
      refine lv_aload_n hx hb dX1_tryWay_40 rfl (lv_at hl 2 rfl) ?_
      refine lv_iload_n hx hb dX1_tryWay_41 rfl (lv_at hl 1 rfl) ?_
      refine fx_Vs (rest := []) (sp_isThere l dC dI A cI cA cZ rest z n hn ar gl fl pr pg ky ac K B M Ds Bf L (nI e1)) hF (cw_RX1_60 hts ⟨Nat.le_of_ble_eq_true rfl, Nat.le_of_ble_eq_true rfl⟩) hA hS hP hK hD hN 0 0 rfl rfl rfl hl.1 rfl (Nat.le_of_ble_eq_true rfl) dX1_tryWay_42 ⟨Nat.le_of_ble_eq_true rfl, Nat.le_of_ble_eq_true rfl⟩ (fun r h => ?_)
      rcases h with ⟨rfl, ⟨j9, hj9, e9, h8⟩⟩ | ⟨rfl, h9⟩
      · have e8 := (nI_eq (by omega) (by omega)).mp e9
        subst e8
        refine lv_if_ne (tgt := 67) hx hb dX1_tryWay_45 (by decide) (fun _ => ?_) (fun h9 => absurd h9 (by decide))
        refine lv_lload hx hb dX1_tryWay_67 (lv_at hl 0 rfl) ?_
        refine lv_aload_n hx hb dX1_tryWay_69 rfl (lv_at hl 2 rfl) ?_
        refine va_get (D := (dC, dI)) (ci := 0) (v := .ref (z 1)) (C := RX1) (T := TX1) (N := 14) hx hb hts inlX1 hown hK hP 0 rfl rfl 3 (by decide) (hts _ km_27) (fun _ h9 => h9) rfl dX1_tryWay_70 ?_
        refine lv_iload_n hx hb dX1_tryWay_73 rfl (lv_at hl 1 rfl) ?_
        refine fx_ald hx hb hK hP 1 0 rfl rfl e1 rfl he1 hn31 dX1_tryWay_74 ?_
        refine lv_i2l hx hb dX1_tryWay_75 rfl ?_
        refine W.lcmp hx hb dX1_tryWay_76 ?_
        refine lv_if_ge (tgt := 96) hx hb dX1_tryWay_77 (by decide) (fun c_77 => ?_) (fun c_77 => ?_)
        · have c_77 := fx_lge.mp c_77
          exact fx_vret hx hb hr hlocks hK hS dX1_tryWay_96 ((fl, pr, pg, ky, K, B, M), Ds, Bf) (by unfold fqtry; dsimp only; rw [fqn_nI (by omega), if_pos c_27, if_neg c_36, if_neg h8, if_neg c_77]) hP hD
        · have c_77 := Classical.not_not.mp (fun h9 => c_77 (fx_lge.mpr h9))
          refine lv_aload_n hx hb dX1_tryWay_80 rfl (lv_at hl 2 rfl) ?_
          refine lv_iload_n hx hb dX1_tryWay_81 rfl (lv_at hl 1 rfl) ?_
          refine lv_lload hx hb dX1_tryWay_82 (lv_at hl 0 rfl) ?_
          refine lv_l2i hx hb dX1_tryWay_84 rfl ?_
          refine fx_Vi (rest := []) (sp_lower l dC dI A cI cA cZ rest z n hn ar gl fl pr pg ky ac K B M Ds Bf L (nI e1) (((Ds t).toInt64 + w0.toInt64).toInt32) hs) hF (cw_RX1_150 hts ⟨Nat.le_of_ble_eq_true rfl, Nat.le_of_ble_eq_true rfl⟩) hA hS hP hK hD hN 0 0 rfl rfl rfl hl.1 rfl (Nat.le_of_ble_eq_true rfl) dX1_tryWay_85 ⟨Nat.le_of_ble_eq_true rfl, Nat.le_of_ble_eq_true rfl⟩ (fun r u H locs h hP hD hS => ?_)
          obtain ⟨fl1, pr1, pg1, ky1, K1, B1, M1⟩ := u
          have hP : va_P (dC, dI) classes (wX z cI cA n ar gl fl1 pr1 pg1 ky1 ac K1 B1 M1 Ds Bf L ++ rest) H := hP
          have hD : va_D A (wX z cI cA n ar gl fl1 pr1 pg1 ky1 ac K1 B1 M1 Ds Bf L ++ rest) := hD
          refine lv_pop hx hb dX1_tryWay_88 rfl ?_
          refine lv_aload_n hx hb dX1_tryWay_89 rfl (lv_at hl 2 rfl) ?_
          refine va_get (D := (dC, dI)) (ci := 0) (v := .ref (z 6)) (C := RX1) (T := TX1) (N := 14) hx hb hts inlX1 hown hK hP 0 rfl rfl 13 (by decide) (hts _ km_33) (fun _ h9 => h9) rfl dX1_tryWay_90 ?_
          refine lv_iload_n hx hb dX1_tryWay_93 rfl (lv_at hl 1 rfl) ?_
          refine lv_iload_n hx hb dX1_tryWay_94 rfl (lv_at hl 3 rfl) ?_
          refine fx_ast hx hb hK hP hD hS 6 0 rfl rfl e1 rfl he1 hn31 dX1_tryWay_95 (fun H locs hP hD hS => ?_)
          have hP : va_P (dC, dI) classes (wX z cI cA n ar gl fl1 pr1 pg1 ky1 ac K1 B1 M1 Ds (upd Bf e1 (nI t)) L ++ rest) H := hP
          have hD : va_D A (wX z cI cA n ar gl fl1 pr1 pg1 ky1 ac K1 B1 M1 Ds (upd Bf e1 (nI t)) L ++ rest) := hD
          exact fx_vret hx hb hr hlocks hK hS dX1_tryWay_96 ((fl1, pr1, pg1, ky1, K1, B1, M1), Ds, upd Bf e1 (nI t)) (by unfold fqtry; dsimp only; rw [fqn_nI (by omega), if_pos c_27, if_neg c_36, if_neg h8, if_pos c_77, ← h]) hP hD
      · have h8 : B e1 = -1 := h9 e1 he1 rfl
        refine lv_if_ne (tgt := 67) hx hb dX1_tryWay_45 (by decide) (fun h9 => absurd h9 (by decide)) (fun _ => ?_)
        refine lv_aload_n hx hb dX1_tryWay_48 rfl (lv_at hl 2 rfl) ?_
        refine lv_iload_n hx hb dX1_tryWay_49 rfl (lv_at hl 1 rfl) ?_
        refine lv_lload hx hb dX1_tryWay_50 (lv_at hl 0 rfl) ?_
        refine lv_l2i hx hb dX1_tryWay_52 rfl ?_
        refine fx_Vi (rest := []) (sp_push l dC dI A cI cA cZ rest z n hn ar gl fl pr pg ky ac K B M Ds Bf L (nI e1) (((Ds t).toInt64 + w0.toInt64).toInt32) hs) hF (cw_RX1_108 hts ⟨Nat.le_of_ble_eq_true rfl, Nat.le_of_ble_eq_true rfl⟩) hA hS hP hK hD hN 0 0 rfl rfl rfl hl.1 rfl (Nat.le_of_ble_eq_true rfl) dX1_tryWay_53 ⟨Nat.le_of_ble_eq_true rfl, Nat.le_of_ble_eq_true rfl⟩ (fun r u H locs h hP hD hS => ?_)
        obtain ⟨fl1, pr1, pg1, ky1, K1, B1, M1⟩ := u
        have hP : va_P (dC, dI) classes (wX z cI cA n ar gl fl1 pr1 pg1 ky1 ac K1 B1 M1 Ds Bf L ++ rest) H := hP
        have hD : va_D A (wX z cI cA n ar gl fl1 pr1 pg1 ky1 ac K1 B1 M1 Ds Bf L ++ rest) := hD
        refine lv_pop hx hb dX1_tryWay_56 rfl ?_
        refine lv_aload_n hx hb dX1_tryWay_57 rfl (lv_at hl 2 rfl) ?_
        refine va_get (D := (dC, dI)) (ci := 0) (v := .ref (z 6)) (C := RX1) (T := TX1) (N := 14) hx hb hts inlX1 hown hK hP 0 rfl rfl 13 (by decide) (hts _ km_33) (fun _ h9 => h9) rfl dX1_tryWay_58 ?_
        refine lv_iload_n hx hb dX1_tryWay_61 rfl (lv_at hl 1 rfl) ?_
        refine lv_iload_n hx hb dX1_tryWay_62 rfl (lv_at hl 3 rfl) ?_
        refine fx_ast hx hb hK hP hD hS 6 0 rfl rfl e1 rfl he1 hn31 dX1_tryWay_63 (fun H locs hP hD hS => ?_)
        have hP : va_P (dC, dI) classes (wX z cI cA n ar gl fl1 pr1 pg1 ky1 ac K1 B1 M1 Ds (upd Bf e1 (nI t)) L ++ rest) H := hP
        have hD : va_D A (wX z cI cA n ar gl fl1 pr1 pg1 ky1 ac K1 B1 M1 Ds (upd Bf e1 (nI t)) L ++ rest) := hD
        refine lv_goto (tgt := 96) hx hb dX1_tryWay_64 (by decide) ?_
        exact fx_vret hx hb hr hlocks hK hS dX1_tryWay_96 ((fl1, pr1, pg1, ky1, K1, B1, M1), Ds, upd Bf e1 (nI t)) (by unfold fqtry; dsimp only; rw [fqn_nI (by omega), if_pos c_27, if_neg c_36, if_pos h8, ← h]) hP hD
    · have c_36 := Classical.not_not.mp (fun h9 => c_36 (fx_lle.mpr h9))
      exact fx_vret hx hb hr hlocks hK hS dX1_tryWay_39 ((fl, pr, pg, ky, K, B, M), Ds, Bf) (by unfold fqtry; dsimp only; rw [fqn_nI (by omega), if_pos c_27, if_pos c_36]) hP hD
set_option maxHeartbeats 4000000 in
set_option maxRecDepth 100000 in
theorem sp_next (l : Launch) (dC : Nat → ClassId) (dI : Nat → Nat → Nat) (A : Nat → Prop) (cI cA cZ : ClassId) (rest : va_W) (z : Nat → Nat) (n : Nat) (hn : n ≤ 40) (ar gl : Int32) (fl pr pg ky ac : Int32) (K B M Ds Bf : Nat → Int32) (L : Nat → Option Nat) (as : Nat → List (Int32 × Int32)) (hch : ∀ i, i < n → fqch rest (L i) (as i) ∧ fqends n (as i)) (hs : fqS n (fl, pr, pg, ky, K, B, M)) : Met l yX1_takeNext (Cond.code yX1_takeNext cX1_takeNext 3 none :: wsL_law) ({ frames := 5, cells := 0, slots := 0, locals := 111 } : Room) (va_Pc [.ref (z 0)] (fx_Pre (dC, dI) classes (fq_ty cI cA cZ) A (wX z cI cA n ar gl fl pr pg ky ac K B M Ds Bf L ++ rest))) (va_Qv (S := fqR) (fun u => u = fqnext n as ((fl, pr, pg, ky, K, B, M), Ds, Bf)) (fx_B (dC, dI) classes (fq_ty cI cA cZ) A (fun u : fqR => wX z cI cA n ar gl u.1.1 u.1.2.1 u.1.2.2.1 u.1.2.2.2.1 ac u.1.2.2.2.2.1 u.1.2.2.2.2.2.1 u.1.2.2.2.2.2.2 u.2.1 u.2.2 L ++ rest)) A) 0 0 A := by
  refine Met.ofW (cc := cX1_takeNext) (maxL := 3) (ret := none) (by decide) rfl ?_
  intro p e s m args below meth c s₁ B0 hml hv
  obtain ⟨rfl, hA, hP, hK, hD, hN⟩ := hv
  have hx := B0.exec
  have hb := B0.bytes
  have hr := B0.returns
  have hts0 := atoms_spec (ws := (Cond.code yX1_takeNext cX1_takeNext 3 none :: wsL_law)) B0.pre
  have hts := fun w (h : w ∈ wsL_law) => hts0 w (List.mem_cons_of_mem _ h)
  have hown : s.vm.findClass RX1 = some m.cls := findClass_of_methodNamed B0.named
  have hlocks := B0.notSynchronized
  have hF : CallFix p m c cX1_takeNext 3 s ([.ref (z 0)] : List Value).toArray wsL_law RX1 := ⟨hx, hb, hml, hown, hts⟩
  have hS : va_S A s.heap s.heap [] := va_S.rf
  have hl := lv_entry ([.ref (z 0)]) (n := 3) (Nat.le_of_ble_eq_true rfl)
  rw [lg_entry_eq]
  generalize (lg_sl ([.ref (z 0)]) ++ List.replicate (3 - (lg_sl ([.ref (z 0)])).length) Slot.unset).toArray = ls at hl ⊢
  have hl : lv_has ls 3 [(0, .ref (z 0))] := hl
  have hn31 : n < 2 ^ 31 := by omega
  refine lv_aload_n hx hb dX1_takeNext_0 rfl (lv_at hl 0 rfl) ?_
  refine fx_Vi (rest := []) (sp_pop l dC dI A cI cA cZ rest z n hn ar gl fl pr pg ky ac K B M Ds Bf L hs) hF (cw_RX1_131 hts ⟨Nat.le_of_ble_eq_true rfl, Nat.le_of_ble_eq_true rfl⟩) hA hS hP hK hD hN 0 0 rfl rfl rfl hl.1 rfl (Nat.le_of_ble_eq_true rfl) dX1_takeNext_1 ⟨Nat.le_of_ble_eq_true rfl, Nat.le_of_ble_eq_true rfl⟩ (fun x u H locs hp hP hD hS => ?_)
  have hs1 := fqpop_S hs
  rw [← hp] at hs1
  obtain ⟨fl1, pr1, pg1, ky1, K1, B1, M1⟩ := u
  have hP : va_P (dC, dI) classes (wX z cI cA n ar gl fl1 pr1 pg1 ky1 ac K1 B1 M1 Ds Bf L ++ rest) H := hP
  have hD : va_D A (wX z cI cA n ar gl fl1 pr1 pg1 ky1 ac K1 B1 M1 Ds Bf L ++ rest) := hD
  refine lv_istore_n (lv' := [(1, .int x), (0, .ref (z 0))]) hx hb dX1_takeNext_4 rfl hl (by decide) rfl (fun ls hl => ?_)
  refine lv_aload_n hx hb dX1_takeNext_5 rfl (lv_at hl 1 rfl) ?_
  refine lv_iload_n hx hb dX1_takeNext_6 rfl (lv_at hl 0 rfl) ?_
  refine fx_Vs (rest := []) (sp_isItem l dC dI A cI cA cZ rest z n hn ar gl fl1 pr1 pg1 ky1 ac K1 B1 M1 Ds Bf L x) hF (cw_RX1_56 hts ⟨Nat.le_of_ble_eq_true rfl, Nat.le_of_ble_eq_true rfl⟩) hA hS hP hK hD hN 0 0 rfl rfl rfl hl.1 rfl (Nat.le_of_ble_eq_true rfl) dX1_takeNext_7 ⟨Nat.le_of_ble_eq_true rfl, Nat.le_of_ble_eq_true rfl⟩ (fun r h => ?_)
  rcases h with ⟨rfl, ⟨j, hj, rfl⟩⟩ | ⟨rfl, h⟩
  · refine lv_if_ne (tgt := 14) hx hb dX1_takeNext_10 (by decide) (fun _ => ?_) (fun h9 => absurd h9 (by decide))
    have K0 : ∀ (t' : List (Int32 × Int32)) (o : Option Nat) (fl' pr' pg' ky' : Int32) (K' B' M' Ds' Bf' : Nat → Int32) (H : Heap) (locs : List Loc) (ls : Array Slot), fqch rest o t' → fqends n t' → fqS n (fl', pr', pg', ky', K', B', M') → fqtries n j t' ((fl', pr', pg', ky', K', B', M'), Ds', Bf') = fqnext n as ((fl, pr, pg, ky, K, B, M), Ds, Bf) → va_P (dC, dI) classes (wX z cI cA n ar gl fl' pr' pg' ky' ac K' B' M' Ds' Bf' L ++ rest) H → va_D A (wX z cI cA n ar gl fl' pr' pg' ky' ac K' B' M' Ds' Bf' L ++ rest) → va_S A s.heap H locs → lv_has ls 3 [(0, .ref (z 0)), (1, .int (nI j)), (2, va_rf o)] → W p l e (headSpec (Cond.code yX1_takeNext cX1_takeNext 3 none :: wsL_law) ({ frames := 5, cells := 0, slots := 0, locals := 111 } : Room)).room s m ([.ref (z 0)] : List Value).toArray below meth c H locs 0 0 (MQ below (va_Qv (S := fqR) (fun u => u = fqnext n as ((fl, pr, pg, ky, K, B, M), Ds, Bf)) (fx_B (dC, dI) classes (fq_ty cI cA cZ) A (fun u : fqR => wX z cI cA n ar gl u.1.1 u.1.2.1 u.1.2.2.1 u.1.2.2.2.1 ac u.1.2.2.2.2.1 u.1.2.2.2.2.2.1 u.1.2.2.2.2.2.2 u.2.1 u.2.2 L ++ rest)) A) ([.ref (z 0)] : List Value).toArray s 0 0 A) (F0 m 31 ls []) := by
      intro t'
      induction t' with
      | nil =>
        intro o fl' pr' pg' ky' K' B' M' Ds' Bf' H locs ls hc he hs' hq hP hD hS hl
        have hc : o = none := hc
        subst hc
        have hl : lv_has ls 3 [(0, .ref (z 0)), (1, .int (nI j)), (2, .null)] := hl
        refine lv_aload_nN hx hb dX1_takeNext_31 rfl (lv_at hl 2 rfl) ?_
        refine lv_ifnullN (tgt := 49) hx hb dX1_takeNext_32 (by decide) ?_
        exact fx_vret hx hb hr hlocks hK hS dX1_takeNext_49 ((fl', pr', pg', ky', K', B', M'), Ds', Bf') (hq) hP hD
      | cons y r ih =>
        obtain ⟨e0, w0⟩ := y
        rintro o fl' pr' pg' ky' K' B' M' Ds' Bf' H locs ls ⟨a, nx, rfl, ⟨k9, hk9⟩, hc⟩ he hs' hq hP hD hS hl
        obtain ⟨e1, he1, hee⟩ := he _ List.mem_cons_self
        have hee : e0 = nI e1 := hee
        subst hee
        have hl : lv_has ls 3 [(0, .ref (z 0)), (1, .int (nI j)), (2, .ref a)] := hl
        refine lv_aload_n hx hb dX1_takeNext_31 rfl (lv_at hl 2 rfl) ?_
        refine lv_ifnull hx hb dX1_takeNext_32 ?_
        refine lv_aload_n hx hb dX1_takeNext_35 rfl (lv_at hl 0 rfl) ?_
        refine lv_iload_n hx hb dX1_takeNext_36 rfl (lv_at hl 1 rfl) ?_
        refine lv_aload_n hx hb dX1_takeNext_37 rfl (lv_at hl 2 rfl) ?_
        refine fx_Vv (rest := []) (sp_try l dC dI A cI cA cZ rest z n hn ar gl fl' pr' pg' ky' ac K' B' M' Ds' Bf' L j a k9 e1 w0 nx hj he1 hk9 hs') hF (cw_RX1_134 hts ⟨Nat.le_of_ble_eq_true rfl, Nat.le_of_ble_eq_true rfl⟩) hA hS hP hK hD hN 0 0 rfl rfl rfl hl.1 rfl (Nat.le_of_ble_eq_true rfl) dX1_takeNext_38 ⟨Nat.le_of_ble_eq_true rfl, Nat.le_of_ble_eq_true rfl⟩ (fun u H locs h hP hD hS => ?_)
        have hs2 := fqtry_S (t := j) (e := nI e1) (w := w0) (s := ((fl', pr', pg', ky', K', B', M'), Ds', Bf')) hs'
        rw [← h] at hs2
        obtain ⟨⟨fl2, pr2, pg2, ky2, K2, B2, M2⟩, Ds2, Bf2⟩ := u
        have hP : va_P (dC, dI) classes (wX z cI cA n ar gl fl2 pr2 pg2 ky2 ac K2 B2 M2 Ds2 Bf2 L ++ rest) H := hP
        have hD : va_D A (wX z cI cA n ar gl fl2 pr2 pg2 ky2 ac K2 B2 M2 Ds2 Bf2 L ++ rest) := hD
        refine lv_aload_n hx hb dX1_takeNext_41 rfl (lv_at hl 2 rfl) ?_
        refine va_getN (D := (dC, dI)) (ci := 1) (v := va_rf nx) (C := RX0) (T := TX0) (N := 3) hx hb hts inlX0 hown hK hP (k9 + 7) hk9 rfl 2 (by decide) (hN.2.2.1.use rfl) (fun _ h9 => h9) rfl dX1_takeNext_42 ?_
        refine fx_astore_nq (lv' := [(2, va_rf nx), (0, .ref (z 0)), (1, .int (nI j))]) hx hb dX1_takeNext_45 rfl hl (by decide) rfl (fun ls hl => ?_)
        refine lv_goto (tgt := 31) hx hb dX1_takeNext_46 (by decide) ?_
        exact ih nx fl2 pr2 pg2 ky2 K2 B2 M2 Ds2 Bf2 H locs ls hc (fun a h => he a (List.mem_cons_of_mem _ h)) hs2 (by rw [← hq, fqtries_c, ← h]) hP hD hS (lv_sub hl [1, 2, 0] rfl)
    refine lv_aload_n hx hb dX1_takeNext_14 rfl (lv_at hl 1 rfl) ?_
    refine va_get (D := (dC, dI)) (ci := 0) (v := .ref (z 5)) (C := RX1) (T := TX1) (N := 14) hx hb hts inlX1 hown hK hP 0 rfl rfl 12 (by decide) (hts _ km_32) (fun _ h9 => h9) rfl dX1_takeNext_15 ?_
    refine lv_iload_n hx hb dX1_takeNext_18 rfl (lv_at hl 0 rfl) ?_
    refine lv_aload_n hx hb dX1_takeNext_19 rfl (lv_at hl 1 rfl) ?_
    refine va_get (D := (dC, dI)) (ci := 0) (v := .int fl1) (C := RX1) (T := TX1) (N := 14) hx hb hts inlX1 hown hK hP 0 rfl rfl 6 (by decide) (hts _ km_63) (fun _ h9 => h9) rfl dX1_takeNext_20 ?_
    refine fx_ast hx hb hK hP hD hS 5 0 rfl rfl j rfl hj hn31 dX1_takeNext_23 (fun H locs hP hD hS => ?_)
    have hP : va_P (dC, dI) classes (wX z cI cA n ar gl fl1 pr1 pg1 ky1 ac K1 B1 M1 (upd Ds j fl1) Bf L ++ rest) H := hP
    have hD : va_D A (wX z cI cA n ar gl fl1 pr1 pg1 ky1 ac K1 B1 M1 (upd Ds j fl1) Bf L ++ rest) := hD
    refine lv_aload_n hx hb dX1_takeNext_24 rfl (lv_at hl 1 rfl) ?_
    refine va_get (D := (dC, dI)) (ci := 0) (v := .ref (z 4)) (C := RX1) (T := TX1) (N := 14) hx hb hts inlX1 hown hK hP 0 rfl rfl 10 (by decide) (hts _ km_31) (fun _ h9 => h9) rfl dX1_takeNext_25 ?_
    refine lv_iload_n hx hb dX1_takeNext_28 rfl (lv_at hl 0 rfl) ?_
    refine fx_aldq hx hb hK hP 4 1 rfl rfl j rfl hj hn31 dX1_takeNext_29 ?_
    refine fx_astore_nq (lv' := [(2, va_rf (L j)), (1, .int (nI j)), (0, .ref (z 0))]) hx hb dX1_takeNext_30 rfl hl (by decide) rfl (fun ls hl => ?_)
    exact K0 (as j) (L j) fl1 pr1 pg1 ky1 K1 B1 M1 (upd Ds j fl1) Bf H locs ls (hch j hj).1 (hch j hj).2 hs1 (by unfold fqnext; dsimp only; rw [← hp]; dsimp only; rw [fqat_some hj hn31]) hP hD hS (lv_sub hl [2, 1, 0] rfl)
  · refine lv_if_ne (tgt := 14) hx hb dX1_takeNext_10 (by decide) (fun h9 => absurd h9 (by decide)) (fun _ => ?_)
    exact fx_vret hx hb hr hlocks hK hS dX1_takeNext_13 ((fl1, pr1, pg1, ky1, K1, B1, M1), Ds, Bf) (by unfold fqnext; dsimp only; rw [← hp]; dsimp only; rw [fqat_none hn31 h]) hP hD
set_option maxHeartbeats 4000000 in
set_option maxRecDepth 100000 in
theorem sp_run (l : Launch) (dC : Nat → ClassId) (dI : Nat → Nat → Nat) (A : Nat → Prop) (cI cA cZ : ClassId) (rest : va_W) (z : Nat → Nat) (n : Nat) (hn : n ≤ 40) (ar gl : Int32) (fl pr pg ky ac : Int32) (K B M Ds Bf : Nat → Int32) (L : Nat → Option Nat) (as : Nat → List (Int32 × Int32)) (x : Int32) (hch : ∀ i, i < n → fqch rest (L i) (as i) ∧ fqends n (as i)) (hs : fqS n (fl, pr, pg, ky, K, B, M)) : Met l yX1_run (Cond.code yX1_run cX1_run 3 (some .int) :: wsL_law) ({ frames := 6, cells := 0, slots := 0, locals := 133 } : Room) (va_Pc [.ref (z 0), .int x] (fx_Pre (dC, dI) classes (fq_ty cI cA cZ) A (wX z cI cA n ar gl fl pr pg ky ac K B M Ds Bf L ++ rest))) (va_Qi (S := fqR) (fun r u => (r, u) = fqrun n as ((fl, pr, pg, ky, K, B, M), Ds, Bf) x) (fx_B (dC, dI) classes (fq_ty cI cA cZ) A (fun u : fqR => wX z cI cA n ar gl u.1.1 u.1.2.1 u.1.2.2.1 u.1.2.2.2.1 ac u.1.2.2.2.2.1 u.1.2.2.2.2.2.1 u.1.2.2.2.2.2.2 u.2.1 u.2.2 L ++ rest)) A) 0 0 A := by
  refine Met.ofW (cc := cX1_run) (maxL := 3) (ret := (some .int)) (by decide) rfl ?_
  intro p e s m args below meth c s₁ B0 hml hv
  obtain ⟨rfl, hA, hP, hK, hD, hN⟩ := hv
  have hx := B0.exec
  have hb := B0.bytes
  have hr := B0.returns
  have hts0 := atoms_spec (ws := (Cond.code yX1_run cX1_run 3 (some .int) :: wsL_law)) B0.pre
  have hts := fun w (h : w ∈ wsL_law) => hts0 w (List.mem_cons_of_mem _ h)
  have hown : s.vm.findClass RX1 = some m.cls := findClass_of_methodNamed B0.named
  have hlocks := B0.notSynchronized
  have hF : CallFix p m c cX1_run 3 s ([.ref (z 0), .int x] : List Value).toArray wsL_law RX1 := ⟨hx, hb, hml, hown, hts⟩
  have hS : va_S A s.heap s.heap [] := va_S.rf
  have hl := lv_entry ([.ref (z 0), .int x]) (n := 3) (Nat.le_of_ble_eq_true rfl)
  rw [lg_entry_eq]
  generalize (lg_sl ([.ref (z 0), .int x]) ++ List.replicate (3 - (lg_sl ([.ref (z 0), .int x])).length) Slot.unset).toArray = ls at hl ⊢
  have hl : lv_has ls 3 [(0, .ref (z 0)), (1, .int x)] := hl
  have hn31 : n < 2 ^ 31 := by omega
  refine lv_aload_n hx hb dX1_run_0 rfl (lv_at hl 0 rfl) ?_
  refine lv_iload_n hx hb dX1_run_1 rfl (lv_at hl 1 rfl) ?_
  refine fx_Vs (rest := []) (sp_isItem l dC dI A cI cA cZ rest z n hn ar gl fl pr pg ky ac K B M Ds Bf L x) hF (cw_RX1_56 hts ⟨Nat.le_of_ble_eq_true rfl, Nat.le_of_ble_eq_true rfl⟩) hA hS hP hK hD hN 0 0 rfl rfl rfl hl.1 rfl (Nat.le_of_ble_eq_true rfl) dX1_run_2 ⟨Nat.le_of_ble_eq_true rfl, Nat.le_of_ble_eq_true rfl⟩ (fun r h => ?_)
  rcases h with ⟨rfl, ⟨j, hj, rfl⟩⟩ | ⟨rfl, h⟩
  · refine lv_if_ne (tgt := 10) hx hb dX1_run_5 (by decide) (fun _ => ?_) (fun h9 => absurd h9 (by decide))
    refine lv_aload_n hx hb dX1_run_10 rfl (lv_at hl 0 rfl) ?_
    refine fx_Vv (rest := []) (sp_empty l dC dI A cI cA cZ rest z n hn ar gl fl pr pg ky ac K B M Ds Bf L) hF (cw_RX1_105 hts ⟨Nat.le_of_ble_eq_true rfl, Nat.le_of_ble_eq_true rfl⟩) hA hS hP hK hD hN 0 0 rfl rfl rfl hl.1 rfl (Nat.le_of_ble_eq_true rfl) dX1_run_11 ⟨Nat.le_of_ble_eq_true rfl, Nat.le_of_ble_eq_true rfl⟩ (fun u H locs h hP hD hS => ?_)
    subst h
    have hP : va_P (dC, dI) classes (wX z cI cA n ar gl 0 0 pg ky ac K (fqfill n (-1) B) (fqfill 32 0 M) Ds Bf L ++ rest) H := hP
    have hD : va_D A (wX z cI cA n ar gl 0 0 pg ky ac K (fqfill n (-1) B) (fqfill 32 0 M) Ds Bf L ++ rest) := hD
    refine lv_aload_n hx hb dX1_run_14 rfl (lv_at hl 0 rfl) ?_
    refine fx_Vv (rest := []) (sp_forget l dC dI A cI cA cZ rest z n hn ar gl 0 0 pg ky ac K (fqfill n (-1) B) (fqfill 32 0 M) Ds Bf L) hF (cw_RX1_102 hts ⟨Nat.le_of_ble_eq_true rfl, Nat.le_of_ble_eq_true rfl⟩) hA hS hP hK hD hN 0 0 rfl rfl rfl hl.1 rfl (Nat.le_of_ble_eq_true rfl) dX1_run_15 ⟨Nat.le_of_ble_eq_true rfl, Nat.le_of_ble_eq_true rfl⟩ (fun u H locs h hP hD hS => ?_)
    subst h
    have hP : va_P (dC, dI) classes (wX z cI cA n ar gl 0 0 pg ky ac K (fqfill n (-1) B) (fqfill 32 0 M) (fqfill n (-1) Ds) (fqfill n (-1) Bf) L ++ rest) H := hP
    have hD : va_D A (wX z cI cA n ar gl 0 0 pg ky ac K (fqfill n (-1) B) (fqfill 32 0 M) (fqfill n (-1) Ds) (fqfill n (-1) Bf) L ++ rest) := hD
    refine lv_aload_n hx hb dX1_run_18 rfl (lv_at hl 0 rfl) ?_
    refine lv_iload_n hx hb dX1_run_19 rfl (lv_at hl 1 rfl) ?_
    refine lv_iconst (v := 0) hx hb dX1_run_20 (by decide) ?_
    have hs0 : fqS n (fqempty n (fl, pr, pg, ky, K, B, M)) := fqempty_S _
    refine fx_Vi (rest := []) (sp_push l dC dI A cI cA cZ rest z n hn ar gl 0 0 pg ky ac K (fqfill n (-1) B) (fqfill 32 0 M) (fqfill n (-1) Ds) (fqfill n (-1) Bf) L (nI j) 0 hs0) hF (cw_RX1_108 hts ⟨Nat.le_of_ble_eq_true rfl, Nat.le_of_ble_eq_true rfl⟩) hA hS hP hK hD hN 0 0 rfl rfl rfl hl.1 rfl (Nat.le_of_ble_eq_true rfl) dX1_run_21 ⟨Nat.le_of_ble_eq_true rfl, Nat.le_of_ble_eq_true rfl⟩ (fun y u H locs hp hP hD hS => ?_)
    have hs1 := fqpush_S (x := nI j) (key := 0) hs0
    have hp : (y, u) = fqpush n (fqempty n (fl, pr, pg, ky, K, B, M)) (nI j) 0 := hp
    rw [← hp] at hs1
    obtain ⟨fl1, pr1, pg1, ky1, K1, B1, M1⟩ := u
    have hP : va_P (dC, dI) classes (wX z cI cA n ar gl fl1 pr1 pg1 ky1 ac K1 B1 M1 (fqfill n (-1) Ds) (fqfill n (-1) Bf) L ++ rest) H := hP
    have hD : va_D A (wX z cI cA n ar gl fl1 pr1 pg1 ky1 ac K1 B1 M1 (fqfill n (-1) Ds) (fqfill n (-1) Bf) L ++ rest) := hD
    refine lv_pop hx hb dX1_run_24 rfl ?_
    have K52 : ∀ (i : Nat) (fl' pr' pg' ky' : Int32) (K' B' M' Ds' Bf' : Nat → Int32) (H : Heap) (locs : List Loc) (ls : Array Slot), ((fl', pr', pg', ky', K', B', M'), Ds', Bf') = fqrounds n as n ((fqpush n (fqempty n (fl, pr, pg, ky, K, B, M)) (nI j) 0).2, fqfill n (-1) Ds, fqfill n (-1) Bf) → va_P (dC, dI) classes (wX z cI cA n ar gl fl' pr' pg' ky' ac K' B' M' Ds' Bf' L ++ rest) H → va_D A (wX z cI cA n ar gl fl' pr' pg' ky' ac K' B' M' Ds' Bf' L ++ rest) → va_S A s.heap H locs → lv_has ls 3 [(0, .ref (z 0)), (1, .int (nI j)), (2, .int (nI i))] → W p l e (headSpec (Cond.code yX1_run cX1_run 3 (some .int) :: wsL_law) ({ frames := 6, cells := 0, slots := 0, locals := 133 } : Room)).room s m ([.ref (z 0), .int (nI j)] : List Value).toArray below meth c H locs 0 0 (MQ below (va_Qi (S := fqR) (fun r u => (r, u) = fqrun n as ((fl, pr, pg, ky, K, B, M), Ds, Bf) (nI j)) (fx_B (dC, dI) classes (fq_ty cI cA cZ) A (fun u : fqR => wX z cI cA n ar gl u.1.1 u.1.2.1 u.1.2.2.1 u.1.2.2.2.1 ac u.1.2.2.2.2.1 u.1.2.2.2.2.2.1 u.1.2.2.2.2.2.2 u.2.1 u.2.2 L ++ rest)) A) ([.ref (z 0), .int (nI j)] : List Value).toArray s 0 0 A) (F0 m 52 ls []) := by
      intro i fl' pr' pg' ky' K' B' M' Ds' Bf' H locs ls hq hP hD hS hl
      refine lv_aload_n hx hb dX1_run_52 rfl (lv_at hl 0 rfl) ?_
      refine fx_Vs (rest := []) (sp_too l dC dI A cI cA cZ rest z n hn ar gl fl' pr' pg' ky' ac K' B' M' Ds' Bf' L as hch) hF (cw_RX1_114 hts ⟨Nat.le_of_ble_eq_true rfl, Nat.le_of_ble_eq_true rfl⟩) hA hS hP hK hD hN 0 0 rfl rfl rfl hl.1 rfl (Nat.le_of_ble_eq_true rfl) dX1_run_53 ⟨Nat.le_of_ble_eq_true rfl, Nat.le_of_ble_eq_true rfl⟩ (fun r h => ?_)
      rcases h with ⟨rfl, h9⟩ | ⟨rfl, h9⟩
      · refine lv_if_eq (tgt := 66) hx hb dX1_run_56 (by decide) (fun h9 => absurd h9 (by decide)) (fun _ => ?_)
        refine lv_aload_n hx hb dX1_run_59 rfl (lv_at hl 0 rfl) ?_
        refine fx_Vv (rest := []) (sp_forget l dC dI A cI cA cZ rest z n hn ar gl fl' pr' pg' ky' ac K' B' M' Ds' Bf' L) hF (cw_RX1_102 hts ⟨Nat.le_of_ble_eq_true rfl, Nat.le_of_ble_eq_true rfl⟩) hA hS hP hK hD hN 0 0 rfl rfl rfl hl.1 rfl (Nat.le_of_ble_eq_true rfl) dX1_run_60 ⟨Nat.le_of_ble_eq_true rfl, Nat.le_of_ble_eq_true rfl⟩ (fun u H locs h hP hD hS => ?_)
        subst h
        have hP : va_P (dC, dI) classes (wX z cI cA n ar gl fl' pr' pg' ky' ac K' B' M' (fqfill n (-1) Ds') (fqfill n (-1) Bf') L ++ rest) H := hP
        have hD : va_D A (wX z cI cA n ar gl fl' pr' pg' ky' ac K' B' M' (fqfill n (-1) Ds') (fqfill n (-1) Bf') L ++ rest) := hD
        refine lv_bipush (v := (-2)) hx hb dX1_run_63 (by decide) ?_
        exact fx_iret hx hb hr hlocks hK hS dX1_run_65 ((fl', pr', pg', ky', K', B', M'), fqfill n (-1) Ds', fqfill n (-1) Bf') (by unfold fqrun; rw [fqat_some hj hn31]; dsimp only; rw [← hq]; dsimp only; rw [h9]; rfl) hP hD
      · refine lv_if_eq (tgt := 66) hx hb dX1_run_56 (by decide) (fun _ => ?_) (fun h9 => absurd h9 (by decide))
        refine lv_iconst (v := 0) hx hb dX1_run_66 (by decide) ?_
        exact fx_iret hx hb hr hlocks hK hS dX1_run_67 ((fl', pr', pg', ky', K', B', M'), Ds', Bf') (by unfold fqrun; rw [fqat_some hj hn31]; dsimp only; rw [← hq]; dsimp only; rw [h9]; rfl) hP hD
    have K27 : ∀ (d i : Nat) (fl' pr' pg' ky' : Int32) (K' B' M' Ds' Bf' : Nat → Int32) (H : Heap) (locs : List Loc) (ls : Array Slot), d + i = n → (fqrounds n as d ((fl', pr', pg', ky', K', B', M'), Ds', Bf') = fqrounds n as n ((fqpush n (fqempty n (fl, pr, pg, ky, K, B, M)) (nI j) 0).2, fqfill n (-1) Ds, fqfill n (-1) Bf)) → (fqS n (fl', pr', pg', ky', K', B', M')) → va_P (dC, dI) classes (wX z cI cA n ar gl fl' pr' pg' ky' ac K' B' M' Ds' Bf' L ++ rest) H → va_D A (wX z cI cA n ar gl fl' pr' pg' ky' ac K' B' M' Ds' Bf' L ++ rest) → va_S A s.heap H locs → lv_has ls 3 [(0, .ref (z 0)), (1, .int (nI j)), (2, .int (nI i))] → W p l e (headSpec (Cond.code yX1_run cX1_run 3 (some .int) :: wsL_law) ({ frames := 6, cells := 0, slots := 0, locals := 133 } : Room)).room s m ([.ref (z 0), .int (nI j)] : List Value).toArray below meth c H locs 0 0 (MQ below (va_Qi (S := fqR) (fun r u => (r, u) = fqrun n as ((fl, pr, pg, ky, K, B, M), Ds, Bf) (nI j)) (fx_B (dC, dI) classes (fq_ty cI cA cZ) A (fun u : fqR => wX z cI cA n ar gl u.1.1 u.1.2.1 u.1.2.2.1 u.1.2.2.2.1 ac u.1.2.2.2.2.1 u.1.2.2.2.2.2.1 u.1.2.2.2.2.2.2 u.2.1 u.2.2 L ++ rest)) A) ([.ref (z 0), .int (nI j)] : List Value).toArray s 0 0 A) (F0 m 27 ls []) := by
      intro d
      induction d with
      | zero =>
        intro i fl' pr' pg' ky' K' B' M' Ds' Bf' H locs ls hdi hq hs' hP hD hS hl
        have e0 : i = n := by omega
        refine lv_iload_n hx hb dX1_run_27 rfl (lv_at hl 2 rfl) ?_
        refine lv_aload_n hx hb dX1_run_28 rfl (lv_at hl 0 rfl) ?_
        refine va_get (D := (dC, dI)) (ci := 0) (v := .int (nI n)) (C := RX1) (T := TX1) (N := 14) hx hb hts inlX1 hown hK hP 0 rfl rfl 0 (by decide) (hts _ km_23) (fun _ h9 => h9) rfl dX1_run_29 ?_
        refine lv_icmp_ge (tgt := 52) hx hb dX1_run_32 (by decide) (fun c_32 => ?_) (fun c_32 => ?_)
        · exact K52 i fl' pr' pg' ky' K' B' M' Ds' Bf' H locs ls hq hP hD hS (lv_sub hl [0, 1, 2] rfl)
        · exact absurd (nI_le (by omega) (by omega)) c_32
      | succ d ih =>
        intro i fl' pr' pg' ky' K' B' M' Ds' Bf' H locs ls hdi hq hs' hP hD hS hl
        have hi : i < n := by omega
        refine lv_iload_n hx hb dX1_run_27 rfl (lv_at hl 2 rfl) ?_
        refine lv_aload_n hx hb dX1_run_28 rfl (lv_at hl 0 rfl) ?_
        refine va_get (D := (dC, dI)) (ci := 0) (v := .int (nI n)) (C := RX1) (T := TX1) (N := 14) hx hb hts inlX1 hown hK hP 0 rfl rfl 0 (by decide) (hts _ km_23) (fun _ h9 => h9) rfl dX1_run_29 ?_
        refine lv_icmp_ge (tgt := 52) hx hb dX1_run_32 (by decide) (fun c_32 => ?_) (fun c_32 => ?_)
        · exact absurd c_32 (nI_ge hi hn31)
        · refine lv_aload_n hx hb dX1_run_35 rfl (lv_at hl 0 rfl) ?_
          refine va_get (D := (dC, dI)) (ci := 0) (v := .int pr') (C := RX1) (T := TX1) (N := 14) hx hb hts inlX1 hown hK hP 0 rfl rfl 7 (by decide) (hts _ km_64) (fun _ h9 => h9) rfl dX1_run_36 ?_
          refine lv_if_le (tgt := 52) hx hb dX1_run_39 (by decide) (fun c_39 => ?_) (fun c_39 => ?_)
          · exact K52 i fl' pr' pg' ky' K' B' M' Ds' Bf' H locs ls (by rw [← hq, fqrounds_s, if_neg (Int32.not_lt.mpr c_39)]) hP hD hS (lv_sub hl [0, 1, 2] rfl)
          · refine lv_aload_n hx hb dX1_run_42 rfl (lv_at hl 0 rfl) ?_
            refine fx_Vv (rest := []) (sp_next l dC dI A cI cA cZ rest z n hn ar gl fl' pr' pg' ky' ac K' B' M' Ds' Bf' L as hch hs') hF (cw_RX1_111 hts ⟨Nat.le_of_ble_eq_true rfl, Nat.le_of_ble_eq_true rfl⟩) hA hS hP hK hD hN 0 0 rfl rfl rfl hl.1 rfl (Nat.le_of_ble_eq_true rfl) dX1_run_43 ⟨Nat.le_of_ble_eq_true rfl, Nat.le_of_ble_eq_true rfl⟩ (fun u H locs h hP hD hS => ?_)
            have hs2 := fqnext_S (as := as) (s := ((fl', pr', pg', ky', K', B', M'), Ds', Bf')) hs'
            rw [← h] at hs2
            obtain ⟨⟨fl2, pr2, pg2, ky2, K2, B2, M2⟩, Ds2, Bf2⟩ := u
            have hP : va_P (dC, dI) classes (wX z cI cA n ar gl fl2 pr2 pg2 ky2 ac K2 B2 M2 Ds2 Bf2 L ++ rest) H := hP
            have hD : va_D A (wX z cI cA n ar gl fl2 pr2 pg2 ky2 ac K2 B2 M2 Ds2 Bf2 L ++ rest) := hD
            refine lv_iinc (v := nI (i + 1)) (lv' := [(2, .int (nI (i + 1))), (0, .ref (z 0)), (1, .int (nI j))]) hx hb dX1_run_46 hl (k := 2) rfl (nI_1 i) (by decide) rfl (fun ls hl => ?_)
            refine lv_goto (tgt := 27) hx hb dX1_run_49 (by decide) ?_
            exact ih (i + 1) fl2 pr2 pg2 ky2 K2 B2 M2 Ds2 Bf2 H locs ls (by omega) (by rw [← hq, fqrounds_s, if_pos (Int32.not_le.mp c_39), ← h]) hs2 hP hD hS (lv_sub hl [1, 2, 0] rfl)
    refine lv_iconst (v := 0) hx hb dX1_run_25 (by decide) ?_
    refine lv_istore_n (lv' := [(2, .int 0), (0, .ref (z 0)), (1, .int (nI j))]) hx hb dX1_run_26 rfl hl (by decide) rfl (fun ls hl => ?_)
    exact K27 n 0 fl1 pr1 pg1 ky1 K1 B1 M1 (fqfill n (-1) Ds) (fqfill n (-1) Bf) H locs ls rfl (by rw [← hp]) hs1 hP hD hS (lv_sub hl [1, 2, 0] rfl)
  · refine lv_if_ne (tgt := 10) hx hb dX1_run_5 (by decide) (fun h9 => absurd h9 (by decide)) (fun _ => ?_)
    refine lv_iconst (v := (-1)) hx hb dX1_run_8 (by decide) ?_
    exact fx_iret hx hb hr hlocks hK hS dX1_run_9 ((fl, pr, pg, ky, K, B, M), Ds, Bf) (by unfold fqrun; rw [fqat_none hn31 h]) hP hD
set_option maxHeartbeats 4000000 in
set_option maxRecDepth 100000 in
theorem sp_sound (l : Launch) (dC : Nat → ClassId) (dI : Nat → Nat → Nat) (A : Nat → Prop) (cI cA cZ : ClassId) (rest : va_W) (z : Nat → Nat) (n : Nat) (hn : n ≤ 40) (ar gl : Int32) (fl pr pg ky ac : Int32) (K B M Ds Bf : Nat → Int32) (L : Nat → Option Nat) (hs : fqS n (fl, pr, pg, ky, K, B, M)) : Met l yX1_sound (Cond.code yX1_sound cX1_sound 2 (some .boolean) :: wsL_law) ({ frames := 3, cells := 0, slots := 0, locals := 63 } : Room) (va_Pc [.ref (z 0)] (fx_Pre (dC, dI) classes (fq_ty cI cA cZ) A (wX z cI cA n ar gl fl pr pg ky ac K B M Ds Bf L ++ rest))) (vp_Si (fun r => (r = 1 ∧ fqsound n (fl, pr, pg, ky, K, B, M) = true) ∨ (r = 0 ∧ fqsound n (fl, pr, pg, ky, K, B, M) = false))) 0 0 (fun _ => False) := by
  refine Met.ofW (cc := cX1_sound) (maxL := 2) (ret := (some .boolean)) (by decide) rfl ?_
  intro p e s m args below meth c s₁ B0 hml hv
  obtain ⟨rfl, hA, hP, hK, hD, hN⟩ := hv
  have hx := B0.exec
  have hb := B0.bytes
  have hr := B0.returns
  have hts0 := atoms_spec (ws := (Cond.code yX1_sound cX1_sound 2 (some .boolean) :: wsL_law)) B0.pre
  have hts := fun w (h : w ∈ wsL_law) => hts0 w (List.mem_cons_of_mem _ h)
  have hown : s.vm.findClass RX1 = some m.cls := findClass_of_methodNamed B0.named
  have hlocks := B0.notSynchronized
  have hF : CallFix p m c cX1_sound 2 s ([.ref (z 0)] : List Value).toArray wsL_law RX1 := ⟨hx, hb, hml, hown, hts⟩
  have hS : va_S A s.heap s.heap [] := va_S.rf
  have hl := lv_entry ([.ref (z 0)]) (n := 2) (Nat.le_of_ble_eq_true rfl)
  rw [lg_entry_eq]
  generalize (lg_sl ([.ref (z 0)]) ++ List.replicate (2 - (lg_sl ([.ref (z 0)])).length) Slot.unset).toArray = ls at hl ⊢
  have hl : lv_has ls 2 [(0, .ref (z 0))] := hl
  have hn31 : n < 2 ^ 31 := by omega
  have K0 : ∀ (d i : Nat) (ls : Array Slot), d + i = n → (fqall (fqokB fl K B) d i = fqall (fqokB fl K B) n 0) → lv_has ls 2 [(0, .ref (z 0)), (1, .int (nI i))] → W p l e (headSpec (Cond.code yX1_sound cX1_sound 2 (some .boolean) :: wsL_law) ({ frames := 3, cells := 0, slots := 0, locals := 63 } : Room)).room s m ([.ref (z 0)] : List Value).toArray below meth c s.heap [] 0 0 (MQ below (vp_Si (fun r => (r = 1 ∧ fqsound n (fl, pr, pg, ky, K, B, M) = true) ∨ (r = 0 ∧ fqsound n (fl, pr, pg, ky, K, B, M) = false))) ([.ref (z 0)] : List Value).toArray s 0 0 (fun _ => False)) (F0 m 2 ls []) := by
    intro d
    induction d with
    | zero =>
      intro i  ls hdi hq hl
      have e0 : i = n := by omega
      have hq : fqall (fqokB fl K B) n 0 = true := hq.symm
      refine lv_iload_n hx hb dX1_sound_2 rfl (lv_at hl 1 rfl) ?_
      refine lv_aload_n hx hb dX1_sound_3 rfl (lv_at hl 0 rfl) ?_
      refine va_get (D := (dC, dI)) (ci := 0) (v := .int (nI n)) (C := RX1) (T := TX1) (N := 14) hx hb hts inlX1 hown hK hP 0 rfl rfl 0 (by decide) (hts _ km_23) (fun _ h9 => h9) rfl dX1_sound_4 ?_
      refine lv_icmp_ge (tgt := 34) hx hb dX1_sound_7 (by decide) (fun c_7 => ?_) (fun c_7 => ?_)
      · refine lv_aload_n hx hb dX1_sound_34 rfl (lv_at hl 0 rfl) ?_
        refine va_get (D := (dC, dI)) (ci := 0) (v := .int pg) (C := RX1) (T := TX1) (N := 14) hx hb hts inlX1 hown hK hP 0 rfl rfl 8 (by decide) (hts _ km_78) (fun _ h9 => h9) rfl dX1_sound_35 ?_
        refine lv_i2l hx hb dX1_sound_38 rfl ?_
        refine lv_ldc2 (v := 32) hx hb hown (hts _ km_278) dX1_sound_39 ?_
        refine lv_aload_n hx hb dX1_sound_42 rfl (lv_at hl 0 rfl) ?_
        refine va_get (D := (dC, dI)) (ci := 0) (v := .int ky) (C := RX1) (T := TX1) (N := 14) hx hb hts inlX1 hown hK hP 0 rfl rfl 9 (by decide) (hts _ km_65) (fun _ h9 => h9) rfl dX1_sound_43 ?_
        refine lv_i2l hx hb dX1_sound_46 rfl ?_
        refine lv_lmul hx hb dX1_sound_47 ?_
        refine W.lcmp hx hb dX1_sound_48 ?_
        refine lv_if_gt (tgt := 56) hx hb dX1_sound_49 (by decide) (fun c_49 => ?_) (fun c_49 => ?_)
        · have c_49 := fx_lgt.mp c_49
          refine lv_iconst (v := 0) hx hb dX1_sound_56 (by decide) ?_
          exact fx_bret hx hb hr (Or.inl rfl) hlocks dX1_sound_57 (Or.inr ⟨rfl, by unfold fqsound; dsimp only; rw [hq, decide_eq_false (Int64.not_le.mpr c_49)]; rfl⟩)
        · have c_49 := fun h9 => c_49 (fx_lgt.mpr h9)
          refine lv_iconst (v := 1) hx hb dX1_sound_52 (by decide) ?_
          refine lv_goto (tgt := 57) hx hb dX1_sound_53 (by decide) ?_
          exact fx_bret hx hb hr (Or.inr rfl) hlocks dX1_sound_57 (Or.inl ⟨rfl, by unfold fqsound; dsimp only; rw [hq, decide_eq_true (Int64.not_lt.mp c_49)]; rfl⟩)
      · exact absurd (nI_le (by omega) (by omega)) c_7
    | succ d ih =>
      intro i  ls hdi hq hl
      have hi : i < n := by omega
      rw [fqall_s] at hq
      refine lv_iload_n hx hb dX1_sound_2 rfl (lv_at hl 1 rfl) ?_
      refine lv_aload_n hx hb dX1_sound_3 rfl (lv_at hl 0 rfl) ?_
      refine va_get (D := (dC, dI)) (ci := 0) (v := .int (nI n)) (C := RX1) (T := TX1) (N := 14) hx hb hts inlX1 hown hK hP 0 rfl rfl 0 (by decide) (hts _ km_23) (fun _ h9 => h9) rfl dX1_sound_4 ?_
      refine lv_icmp_ge (tgt := 34) hx hb dX1_sound_7 (by decide) (fun c_7 => ?_) (fun c_7 => ?_)
      · exact absurd c_7 (nI_ge hi hn31)
      · refine lv_aload_n hx hb dX1_sound_10 rfl (lv_at hl 0 rfl) ?_
        refine lv_iload_n hx hb dX1_sound_11 rfl (lv_at hl 1 rfl) ?_
        refine fx_Vs (rest := []) (sp_isThere l dC dI A cI cA cZ rest z n hn ar gl fl pr pg ky ac K B M Ds Bf L (nI i)) hF (cw_RX1_60 hts ⟨Nat.le_of_ble_eq_true rfl, Nat.le_of_ble_eq_true rfl⟩) hA hS hP hK hD hN 0 0 rfl rfl rfl hl.1 rfl (Nat.le_of_ble_eq_true rfl) dX1_sound_12 ⟨Nat.le_of_ble_eq_true rfl, Nat.le_of_ble_eq_true rfl⟩ (fun r h => ?_)
        rcases h with ⟨rfl, ⟨j9, hj9, e9, h8⟩⟩ | ⟨rfl, h9⟩
        · have e8 := (nI_eq (by omega) (by omega)).mp e9
          subst e8
          refine lv_if_eq (tgt := 28) hx hb dX1_sound_15 (by decide) (fun h9 => absurd h9 (by decide)) (fun _ => ?_)
          refine lv_aload_n hx hb dX1_sound_18 rfl (lv_at hl 0 rfl) ?_
          refine lv_iload_n hx hb dX1_sound_19 rfl (lv_at hl 1 rfl) ?_
          refine fx_Vs (rest := []) (sp_isWhere l dC dI A cI cA cZ rest z n hn ar gl fl pr pg ky ac K B M Ds Bf L i hi ((hs.2 i hi).2 h8) hs.1) hF (cw_RX1_118 hts ⟨Nat.le_of_ble_eq_true rfl, Nat.le_of_ble_eq_true rfl⟩) hA hS hP hK hD hN 0 0 rfl rfl rfl hl.1 rfl (Nat.le_of_ble_eq_true rfl) dX1_sound_20 ⟨Nat.le_of_ble_eq_true rfl, Nat.le_of_ble_eq_true rfl⟩ (fun r h => ?_)
          rcases h with ⟨rfl, h7⟩ | ⟨rfl, h7⟩
          · refine lv_if_ne (tgt := 28) hx hb dX1_sound_23 (by decide) (fun _ => ?_) (fun h9 => absurd h9 (by decide))
            refine lv_iinc (v := nI (i + 1)) (lv' := [(1, .int (nI (i + 1))), (0, .ref (z 0))]) hx hb dX1_sound_28 hl (k := 1) rfl (nI_1 i) (by decide) rfl (fun ls hl => ?_)
            refine lv_goto (tgt := 2) hx hb dX1_sound_31 (by decide) ?_
            exact ih (i + 1) ls (by omega) (by rw [← hq, show fqokB fl K B i = true from decide_eq_true (fun _ => h7), Bool.true_and]) (lv_sub hl [1, 0] rfl)
          · refine lv_if_ne (tgt := 28) hx hb dX1_sound_23 (by decide) (fun h9 => absurd h9 (by decide)) (fun _ => ?_)
            refine lv_iconst (v := 0) hx hb dX1_sound_26 (by decide) ?_
            exact fx_bret hx hb hr (Or.inl rfl) hlocks dX1_sound_27 (Or.inr ⟨rfl, by unfold fqsound; dsimp only; rw [← hq, show fqokB fl K B i = false from decide_eq_false (fun h6 => h7 (h6 h8))]; rfl⟩)
        · have h8 : B i = -1 := h9 i hi rfl
          refine lv_if_eq (tgt := 28) hx hb dX1_sound_15 (by decide) (fun _ => ?_) (fun h9 => absurd h9 (by decide))
          refine lv_iinc (v := nI (i + 1)) (lv' := [(1, .int (nI (i + 1))), (0, .ref (z 0))]) hx hb dX1_sound_28 hl (k := 1) rfl (nI_1 i) (by decide) rfl (fun ls hl => ?_)
          refine lv_goto (tgt := 2) hx hb dX1_sound_31 (by decide) ?_
          exact ih (i + 1) ls (by omega) (by rw [← hq, show fqokB fl K B i = true from decide_eq_true (fun h7 => absurd h8 h7), Bool.true_and]) (lv_sub hl [1, 0] rfl)
  refine lv_iconst (v := 0) hx hb dX1_sound_0 (by decide) ?_
  refine lv_istore_n (lv' := [(1, .int 0), (0, .ref (z 0))]) hx hb dX1_sound_1 rfl hl (by decide) rfl (fun ls hl => ?_)
  exact K0 n 0 ls rfl rfl (lv_sub hl [1, 0] rfl)
