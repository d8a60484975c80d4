theorem cw_RX2_80 {R : Room} {s : State} {args : Array Value} {rm : Room} (hts : ∀ w ∈ wsL_law, w.before args s = true) (hR : rm.frames + 1 ≤ R.frames ∧ 8 + (3 + 11) + rm.locals ≤ R.locals) : CallW R s args RX2 RX2 80 yX2_lower cX2_lower 3 (some .int) (Cond.code yX2_lower cX2_lower 3 (some .int) :: wsL_law) rm rm.cells rm.slots 2 := cwV 2 hts (km_app (km_four km_253 km_107 km_108 km_5) (km_in km_109)) rfl rfl rfl (by decide +kernel) hR
theorem cw_RX2_77 {R : Room} {s : State} {args : Array Value} {rm : Room} (hts : ∀ w ∈ wsL_law, w.before args s = true) (hR : rm.frames + 1 ≤ R.frames ∧ 8 + (3 + 11) + rm.locals ≤ R.locals) : CallW R s args RX2 RX2 77 yX2_push cX2_push 3 (some .int) (Cond.code yX2_push cX2_push 3 (some .int) :: wsL_law) rm rm.cells rm.slots 2 := cwV 2 hts (km_app (km_four km_245 km_93 km_94 km_5) (km_in km_95)) rfl rfl rfl (by decide +kernel) hR
set_option maxHeartbeats 4000000 in
set_option maxRecDepth 100000 in
theorem sq_pop (l : Launch) (dC : Nat → ClassId) (dI : Nat → Nat → Nat) (A : Nat → Prop) (cI cA cZ : ClassId) (rest : va_W) (c0 c1 c2 c3 c4 c5 c6 : Nat × va_E) (y : Nat → Nat) (n : Nat) (hn : n ≤ 40) (ar : Nat) (gl : Int32) (lo pg ca : Int32) (ac : Nat) (hw : Int32) (K F T Ln Wy Fo Tk Ne : Nat → Int32) (hs : mqS n (lo, pg, ca, K)) : Met l yX2_pop (Cond.code yX2_pop cX2_pop 4 (some .int) :: wsL_law) ({ frames := 1, cells := 0, slots := 0, locals := 23 } : Room) (va_Pc [.ref (y 0)] (fx_Pre (dC, dI) classes (fq_ty cI cA cZ) A (wM c0 c1 c2 c3 c4 c5 c6 y cI cZ n ar gl lo pg ca ac hw K F T Ln Wy Fo Tk Ne ++ rest))) (va_Qi (S := mqQ) (fun r u => (r, u) = mqpop n (lo, pg, ca, K)) (fx_B (dC, dI) classes (fq_ty cI cA cZ) A (fun u : mqQ => wM c0 c1 c2 c3 c4 c5 c6 y cI cZ n ar gl u.1 u.2.1 u.2.2.1 ac hw u.2.2.2 F T Ln Wy Fo Tk Ne ++ rest)) A) 0 0 A := by
  refine Met.ofW (cc := cX2_pop) (maxL := 4) (ret := (some .int)) (by decide) rfl ?_
  intro p e s m args below meth c s₁ B0 hml hv
  obtain ⟨rfl, hA, hP, hK, hD, hN⟩ := hv
  have hx := B0.exec
  have hb := B0.bytes
  have hr := B0.returns
  have hts0 := atoms_spec (ws := (Cond.code yX2_pop cX2_pop 4 (some .int) :: wsL_law)) B0.pre
  have hts := fun w (h : w ∈ wsL_law) => hts0 w (List.mem_cons_of_mem _ h)
  have hown : s.vm.findClass RX2 = some m.cls := findClass_of_methodNamed B0.named
  have hlocks := B0.notSynchronized
  have hF : CallFix p m c cX2_pop 4 s ([.ref (y 0)] : List Value).toArray wsL_law RX2 := ⟨hx, hb, hml, hown, hts⟩
  have hS : va_S A s.heap s.heap [] := va_S.rf
  have hl := lv_entry ([.ref (y 0)]) (n := 4) (Nat.le_of_ble_eq_true rfl)
  rw [lg_entry_eq]
  generalize (lg_sl ([.ref (y 0)]) ++ List.replicate (4 - (lg_sl ([.ref (y 0)])).length) Slot.unset).toArray = ls at hl ⊢
  have hl : lv_has ls 4 [(0, .ref (y 0))] := hl
  have hn31 : n < 2 ^ 31 := by omega
  have K51 : ∀ (a : Option Nat) (ls : Array Slot), mqbest K n none = a → lv_has ls 4 [(0, .ref (y 0)), (1, .int (fqopt a))] → W p l e (headSpec (Cond.code yX2_pop cX2_pop 4 (some .int) :: wsL_law) ({ frames := 1, cells := 0, slots := 0, locals := 23 } : Room)).room s m ([.ref (y 0)] : List Value).toArray below meth c s.heap [] 0 0 (MQ below (va_Qi (S := mqQ) (fun r u => (r, u) = mqpop n (lo, pg, ca, K)) (fx_B (dC, dI) classes (fq_ty cI cA cZ) A (fun u : mqQ => wM c0 c1 c2 c3 c4 c5 c6 y cI cZ n ar gl u.1 u.2.1 u.2.2.1 ac hw u.2.2.2 F T Ln Wy Fo Tk Ne ++ rest)) A) ([.ref (y 0)] : List Value).toArray s 0 0 A) (F0 m 51 ls []) := by
    intro a ls ha hl
    cases a with
    | none =>
      have hl : lv_has ls 4 [(0, .ref (y 0)), (1, .int (-1))] := hl
      refine lv_iload_n hx hb dX2_pop_51 rfl (lv_at hl 1 rfl) ?_
      refine lv_iconst (v := (-1)) hx hb dX2_pop_52 (by decide) ?_
      refine lv_icmp_ne (tgt := 58) hx hb dX2_pop_53 (by decide) (fun h9 => absurd h9 (by decide)) (fun _ => ?_)
      refine lv_iconst (v := (-1)) hx hb dX2_pop_56 (by decide) ?_
      exact fx_iret hx hb hr hlocks hK hS dX2_pop_57 (lo, pg, ca, K) (by unfold mqpop; dsimp only; rw [ha]) hP hD
    | some j =>
      obtain ⟨hj, hkj⟩ := (mqbest_in n none j ha).resolve_left (fun h => by cases h)
      have hl : lv_has ls 4 [(0, .ref (y 0)), (1, .int (nI j))] := hl
      refine lv_iload_n hx hb dX2_pop_51 rfl (lv_at hl 1 rfl) ?_
      refine lv_iconst (v := (-1)) hx hb dX2_pop_52 (by decide) ?_
      refine lv_icmp_ne (tgt := 58) hx hb dX2_pop_53 (by decide) (fun c_53 => ?_) (fun c_53 => ?_)
      · refine lv_aload_n hx hb dX2_pop_58 rfl (lv_at hl 0 rfl) ?_
        refine va_get (D := (dC, dI)) (ci := 2) (v := .ref (y 1)) (C := RX2) (T := TX2) (N := 16) hx hb hts inlX2 hown hK hP 7 rfl rfl 3 (by decide) (hts _ km_42) (fun _ h9 => h9) rfl dX2_pop_59 ?_
        refine lv_iload_n hx hb dX2_pop_62 rfl (lv_at hl 1 rfl) ?_
        refine fx_ald hx hb hK hP 8 0 rfl rfl j rfl (by omega) (by decide) dX2_pop_63 ?_
        refine lv_aload_n hx hb dX2_pop_64 rfl (lv_at hl 0 rfl) ?_
        refine va_get (D := (dC, dI)) (ci := 2) (v := .int lo) (C := RX2) (T := TX2) (N := 16) hx hb hts inlX2 hown hK hP 7 rfl rfl 4 (by decide) (hts _ km_58) (fun _ h9 => h9) rfl dX2_pop_65 ?_
        refine fx_Ss (rest := []) (sq_unlike l (K j) lo (hs.2 j hj hkj) hs.1) hF (cw_RX2_64 hts ⟨Nat.le_of_ble_eq_true rfl, Nat.le_of_ble_eq_true rfl⟩) rfl hl.1 rfl (Nat.le_of_ble_eq_true rfl) dX2_pop_68 ⟨Nat.le_of_ble_eq_true rfl, Nat.le_of_ble_eq_true rfl⟩ (fun r9 h9 => ?_)
        subst h9
        refine lv_istore_n (lv' := [(2, .int (nI (fqk (K j) lo))), (0, .ref (y 0)), (1, .int (nI j))]) hx hb dX2_pop_71 rfl hl (by decide) rfl (fun ls hl => ?_)
        refine lv_iload_n hx hb dX2_pop_72 rfl (lv_at hl 0 rfl) ?_
        refine lv_if_le (tgt := 143) hx hb dX2_pop_73 (by decide) (fun c_73 => ?_) (fun c_73 => ?_)
        · refine lv_aload_n hx hb dX2_pop_143 rfl (lv_at hl 1 rfl) ?_
          refine va_get (D := (dC, dI)) (ci := 2) (v := .ref (y 1)) (C := RX2) (T := TX2) (N := 16) hx hb hts inlX2 hown hK hP 7 rfl rfl 3 (by decide) (hts _ km_42) (fun _ h9 => h9) rfl dX2_pop_144 ?_
          refine lv_iload_n hx hb dX2_pop_147 rfl (lv_at hl 2 rfl) ?_
          refine lv_iconst (v := (-1)) hx hb dX2_pop_148 (by decide) ?_
          refine fx_ast hx hb hK hP hD hS 8 0 rfl rfl j rfl (by omega) (by decide) dX2_pop_149 (fun H locs hP hD hS => ?_)
          have hP : va_P (dC, dI) classes (wM c0 c1 c2 c3 c4 c5 c6 y cI cZ n ar gl lo pg ca ac hw (upd K j (-1)) F T Ln Wy Fo Tk Ne ++ rest) H := hP
          have hD : va_D A (wM c0 c1 c2 c3 c4 c5 c6 y cI cZ n ar gl lo pg ca ac hw (upd K j (-1)) F T Ln Wy Fo Tk Ne ++ rest) := hD
          refine lv_iload_n hx hb dX2_pop_150 rfl (lv_at hl 2 rfl) ?_
          exact fx_iret hx hb hr hlocks hK hS dX2_pop_151 (lo, pg, ca, upd K j (-1)) (by unfold mqpop; dsimp only; rw [ha]; dsimp only; rw [if_pos c_73]) hP hD
        · have K78 : ∀ (d i : Nat) (pg' : Int32) (H : Heap) (locs : List Loc) (ls : Array Slot), d + i = n → (mqcnt (mqat K lo (nI (fqk (K j) lo))) d i pg' = mqcnt (mqat K lo (nI (fqk (K j) lo))) n 0 pg) → va_P (dC, dI) classes (wM c0 c1 c2 c3 c4 c5 c6 y cI cZ n ar gl lo pg' ca ac hw K F T Ln Wy Fo Tk Ne ++ rest) H → va_D A (wM c0 c1 c2 c3 c4 c5 c6 y cI cZ n ar gl lo pg' ca ac hw K F T Ln Wy Fo Tk Ne ++ rest) → va_S A s.heap H locs → lv_has ls 4 [(0, .ref (y 0)), (1, .int (nI j)), (2, .int (nI (fqk (K j) lo))), (3, .int (nI i))] → W p l e (headSpec (Cond.code yX2_pop cX2_pop 4 (some .int) :: wsL_law) ({ frames := 1, cells := 0, slots := 0, locals := 23 } : Room)).room s m ([.ref (y 0)] : List Value).toArray below meth c H locs 0 0 (MQ below (va_Qi (S := mqQ) (fun r u => (r, u) = mqpop n (lo, pg, ca, K)) (fx_B (dC, dI) classes (fq_ty cI cA cZ) A (fun u : mqQ => wM c0 c1 c2 c3 c4 c5 c6 y cI cZ n ar gl u.1 u.2.1 u.2.2.1 ac hw u.2.2.2 F T Ln Wy Fo Tk Ne ++ rest)) A) ([.ref (y 0)] : List Value).toArray s 0 0 A) (F0 m 78 ls []) := by
            intro d
            induction d with
            | zero =>
              intro i pg' H locs ls hdi hq hP hD hS hl
              have e0 : i = n := by omega
              refine lv_iload_n hx hb dX2_pop_78 rfl (lv_at hl 3 rfl) ?_
              refine lv_aload_n hx hb dX2_pop_79 rfl (lv_at hl 0 rfl) ?_
              refine va_get (D := (dC, dI)) (ci := 2) (v := .int (nI n)) (C := RX2) (T := TX2) (N := 16) hx hb hts inlX2 hown hK hP 7 rfl rfl 0 (by decide) (hts _ km_51) (fun _ h9 => h9) rfl dX2_pop_80 ?_
              refine lv_icmp_ge (tgt := 133) hx hb dX2_pop_83 (by decide) (fun c_83 => ?_) (fun c_83 => ?_)
              · refine lv_aload_n hx hb dX2_pop_133 rfl (lv_at hl 0 rfl) ?_
                refine lv_aload_n hx hb dX2_pop_134 rfl (lv_at hl 0 rfl) ?_
                refine va_get (D := (dC, dI)) (ci := 2) (v := .ref (y 1)) (C := RX2) (T := TX2) (N := 16) hx hb hts inlX2 hown hK hP 7 rfl rfl 3 (by decide) (hts _ km_42) (fun _ h9 => h9) rfl dX2_pop_135 ?_
                refine lv_iload_n hx hb dX2_pop_138 rfl (lv_at hl 1 rfl) ?_
                refine fx_ald hx hb hK hP 8 0 rfl rfl j rfl (by omega) (by decide) dX2_pop_139 ?_
                refine va_put (D := (dC, dI)) (ci := 2) (v := .int (K j)) (ty := .int) (C := RX2) (T := TX2) (N := 16) hx hb hts inlX2 tyX2 tyX2_ok nmX2 hown hK hP hD hS 7 rfl rfl 4 (by decide) (hts _ km_58) (fun _ h9 => h9) rfl (by decide +kernel) rfl rfl (Nat.le_of_ble_eq_true rfl) dX2_pop_140 (fun H locs hP hD hS => ?_)
                have hP : va_P (dC, dI) classes (wM c0 c1 c2 c3 c4 c5 c6 y cI cZ n ar gl (K j) pg' ca ac hw K F T Ln Wy Fo Tk Ne ++ rest) H := hP
                have hD : va_D A (wM c0 c1 c2 c3 c4 c5 c6 y cI cZ n ar gl (K j) pg' ca ac hw K F T Ln Wy Fo Tk Ne ++ rest) := hD
                refine lv_aload_n hx hb dX2_pop_143 rfl (lv_at hl 0 rfl) ?_
                refine va_get (D := (dC, dI)) (ci := 2) (v := .ref (y 1)) (C := RX2) (T := TX2) (N := 16) hx hb hts inlX2 hown hK hP 7 rfl rfl 3 (by decide) (hts _ km_42) (fun _ h9 => h9) rfl dX2_pop_144 ?_
                refine lv_iload_n hx hb dX2_pop_147 rfl (lv_at hl 1 rfl) ?_
                refine lv_iconst (v := (-1)) hx hb dX2_pop_148 (by decide) ?_
                refine fx_ast hx hb hK hP hD hS 8 0 rfl rfl j rfl (by omega) (by decide) dX2_pop_149 (fun H locs hP hD hS => ?_)
                have hP : va_P (dC, dI) classes (wM c0 c1 c2 c3 c4 c5 c6 y cI cZ n ar gl (K j) pg' ca ac hw (upd K j (-1)) F T Ln Wy Fo Tk Ne ++ rest) H := hP
                have hD : va_D A (wM c0 c1 c2 c3 c4 c5 c6 y cI cZ n ar gl (K j) pg' ca ac hw (upd K j (-1)) F T Ln Wy Fo Tk Ne ++ rest) := hD
                refine lv_iload_n hx hb dX2_pop_150 rfl (lv_at hl 1 rfl) ?_
                exact fx_iret hx hb hr hlocks hK hS dX2_pop_151 (K j, pg', ca, upd K j (-1)) (by unfold mqpop; dsimp only; rw [ha]; dsimp only; rw [if_neg c_73, ← hq]; rfl) hP hD
              · exact absurd (nI_le (by omega) (by omega)) c_83
            | succ d ih =>
              intro i pg' H locs ls hdi hq hP hD hS hl
              have hi : i < n := by omega
              refine lv_iload_n hx hb dX2_pop_78 rfl (lv_at hl 3 rfl) ?_
              refine lv_aload_n hx hb dX2_pop_79 rfl (lv_at hl 0 rfl) ?_
              refine va_get (D := (dC, dI)) (ci := 2) (v := .int (nI n)) (C := RX2) (T := TX2) (N := 16) hx hb hts inlX2 hown hK hP 7 rfl rfl 0 (by decide) (hts _ km_51) (fun _ h9 => h9) rfl dX2_pop_80 ?_
              refine lv_icmp_ge (tgt := 133) hx hb dX2_pop_83 (by decide) (fun c_83 => ?_) (fun c_83 => ?_)
              · exact absurd c_83 (nI_ge hi hn31)
              · refine lv_aload_n hx hb dX2_pop_86 rfl (lv_at hl 0 rfl) ?_
                refine lv_dup hx hb dX2_pop_87 rfl ?_
                refine va_get (D := (dC, dI)) (ci := 2) (v := .int pg') (C := RX2) (T := TX2) (N := 16) hx hb hts inlX2 hown hK hP 7 rfl rfl 5 (by decide) (hts _ km_96) (fun _ h9 => h9) rfl dX2_pop_88 ?_
                refine lv_aload_n hx hb dX2_pop_91 rfl (lv_at hl 0 rfl) ?_
                refine va_get (D := (dC, dI)) (ci := 2) (v := .ref (y 1)) (C := RX2) (T := TX2) (N := 16) hx hb hts inlX2 hown hK hP 7 rfl rfl 3 (by decide) (hts _ km_42) (fun _ h9 => h9) rfl dX2_pop_92 ?_
                refine lv_iload_n hx hb dX2_pop_95 rfl (lv_at hl 3 rfl) ?_
                refine fx_ald hx hb hK hP 8 0 rfl rfl i rfl (by omega) (by decide) dX2_pop_96 ?_
                refine lv_iconst (v := (-1)) hx hb dX2_pop_97 (by decide) ?_
                refine lv_icmp_eq (tgt := 122) hx hb dX2_pop_98 (by decide) (fun c_98 => ?_) (fun c_98 => ?_)
                · refine lv_iconst (v := 0) hx hb dX2_pop_122 (by decide) ?_
                  refine lv_iadd hx hb dX2_pop_123 ?_
                  refine va_put (D := (dC, dI)) (ci := 2) (v := .int (pg' + 0)) (ty := .int) (C := RX2) (T := TX2) (N := 16) hx hb hts inlX2 tyX2 tyX2_ok nmX2 hown hK hP hD hS 7 rfl rfl 5 (by decide) (hts _ km_96) (fun _ h9 => h9) rfl (by decide +kernel) rfl rfl (Nat.le_of_ble_eq_true rfl) dX2_pop_124 (fun H locs hP hD hS => ?_)
                  have hP : va_P (dC, dI) classes (wM c0 c1 c2 c3 c4 c5 c6 y cI cZ n ar gl lo (pg' + 0) ca ac hw K F T Ln Wy Fo Tk Ne ++ rest) H := hP
                  have hD : va_D A (wM c0 c1 c2 c3 c4 c5 c6 y cI cZ n ar gl lo (pg' + 0) ca ac hw K F T Ln Wy Fo Tk Ne ++ rest) := hD
                  refine lv_iinc (v := nI (i + 1)) (lv' := [(3, .int (nI (i + 1))), (0, .ref (y 0)), (1, .int (nI j)), (2, .int (nI (fqk (K j) lo)))]) hx hb dX2_pop_127 hl (k := 3) rfl (nI_1 i) (by decide) rfl (fun ls hl => ?_)
                  refine lv_goto (tgt := 78) hx hb dX2_pop_130 (by decide) ?_
                  exact ih (i + 1) (pg' + 0) H locs ls (by omega) (by rw [← hq, mqcnt_s, if_neg (by simp [mqat, c_98])]) hP hD hS (lv_sub hl [1, 2, 3, 0] rfl)
                · refine lv_aload_n hx hb dX2_pop_101 rfl (lv_at hl 0 rfl) ?_
                  refine va_get (D := (dC, dI)) (ci := 2) (v := .ref (y 1)) (C := RX2) (T := TX2) (N := 16) hx hb hts inlX2 hown hK hP 7 rfl rfl 3 (by decide) (hts _ km_42) (fun _ h9 => h9) rfl dX2_pop_102 ?_
                  refine lv_iload_n hx hb dX2_pop_105 rfl (lv_at hl 3 rfl) ?_
                  refine fx_ald hx hb hK hP 8 0 rfl rfl i rfl (by omega) (by decide) dX2_pop_106 ?_
                  refine lv_aload_n hx hb dX2_pop_107 rfl (lv_at hl 0 rfl) ?_
                  refine va_get (D := (dC, dI)) (ci := 2) (v := .int lo) (C := RX2) (T := TX2) (N := 16) hx hb hts inlX2 hown hK hP 7 rfl rfl 4 (by decide) (hts _ km_58) (fun _ h9 => h9) rfl dX2_pop_108 ?_
                  refine fx_Ss (rest := [.int pg', .ref (y 0)]) (sq_unlike l (K i) lo (hs.2 i hi c_98) hs.1) hF (cw_RX2_64 hts ⟨Nat.le_of_ble_eq_true rfl, Nat.le_of_ble_eq_true rfl⟩) rfl hl.1 rfl (Nat.le_of_ble_eq_true rfl) dX2_pop_111 ⟨Nat.le_of_ble_eq_true rfl, Nat.le_of_ble_eq_true rfl⟩ (fun r9 h9 => ?_)
                  subst h9
                  refine lv_iload_n hx hb dX2_pop_114 rfl (lv_at hl 2 rfl) ?_
                  refine lv_icmp_ne (tgt := 122) hx hb dX2_pop_115 (by decide) (fun c_115 => ?_) (fun c_115 => ?_)
                  · refine lv_iconst (v := 0) hx hb dX2_pop_122 (by decide) ?_
                    refine lv_iadd hx hb dX2_pop_123 ?_
                    refine va_put (D := (dC, dI)) (ci := 2) (v := .int (pg' + 0)) (ty := .int) (C := RX2) (T := TX2) (N := 16) hx hb hts inlX2 tyX2 tyX2_ok nmX2 hown hK hP hD hS 7 rfl rfl 5 (by decide) (hts _ km_96) (fun _ h9 => h9) rfl (by decide +kernel) rfl rfl (Nat.le_of_ble_eq_true rfl) dX2_pop_124 (fun H locs hP hD hS => ?_)
                    have hP : va_P (dC, dI) classes (wM c0 c1 c2 c3 c4 c5 c6 y cI cZ n ar gl lo (pg' + 0) ca ac hw K F T Ln Wy Fo Tk Ne ++ rest) H := hP
                    have hD : va_D A (wM c0 c1 c2 c3 c4 c5 c6 y cI cZ n ar gl lo (pg' + 0) ca ac hw K F T Ln Wy Fo Tk Ne ++ rest) := hD
                    refine lv_iinc (v := nI (i + 1)) (lv' := [(3, .int (nI (i + 1))), (0, .ref (y 0)), (1, .int (nI j)), (2, .int (nI (fqk (K j) lo)))]) hx hb dX2_pop_127 hl (k := 3) rfl (nI_1 i) (by decide) rfl (fun ls hl => ?_)
                    refine lv_goto (tgt := 78) hx hb dX2_pop_130 (by decide) ?_
                    exact ih (i + 1) (pg' + 0) H locs ls (by omega) (by rw [← hq, mqcnt_s, if_neg (by simp [mqat, c_115])]) hP hD hS (lv_sub hl [1, 2, 3, 0] rfl)
                  · refine lv_iconst (v := 1) hx hb dX2_pop_118 (by decide) ?_
                    refine lv_goto (tgt := 123) hx hb dX2_pop_119 (by decide) ?_
                    refine lv_iadd hx hb dX2_pop_123 ?_
                    refine va_put (D := (dC, dI)) (ci := 2) (v := .int (pg' + 1)) (ty := .int) (C := RX2) (T := TX2) (N := 16) hx hb hts inlX2 tyX2 tyX2_ok nmX2 hown hK hP hD hS 7 rfl rfl 5 (by decide) (hts _ km_96) (fun _ h9 => h9) rfl (by decide +kernel) rfl rfl (Nat.le_of_ble_eq_true rfl) dX2_pop_124 (fun H locs hP hD hS => ?_)
                    have hP : va_P (dC, dI) classes (wM c0 c1 c2 c3 c4 c5 c6 y cI cZ n ar gl lo (pg' + 1) ca ac hw K F T Ln Wy Fo Tk Ne ++ rest) H := hP
                    have hD : va_D A (wM c0 c1 c2 c3 c4 c5 c6 y cI cZ n ar gl lo (pg' + 1) ca ac hw K F T Ln Wy Fo Tk Ne ++ rest) := hD
                    refine lv_iinc (v := nI (i + 1)) (lv' := [(3, .int (nI (i + 1))), (0, .ref (y 0)), (1, .int (nI j)), (2, .int (nI (fqk (K j) lo)))]) hx hb dX2_pop_127 hl (k := 3) rfl (nI_1 i) (by decide) rfl (fun ls hl => ?_)
                    refine lv_goto (tgt := 78) hx hb dX2_pop_130 (by decide) ?_
                    exact ih (i + 1) (pg' + 1) H locs ls (by omega) (by rw [← hq, mqcnt_s, if_pos (by simp [mqat, c_98, c_115])]) hP hD hS (lv_sub hl [1, 2, 3, 0] rfl)
          refine lv_iconst (v := 0) hx hb dX2_pop_76 (by decide) ?_
          refine lv_istore_n (lv' := [(3, .int 0), (2, .int (nI (fqk (K j) lo))), (0, .ref (y 0)), (1, .int (nI j))]) hx hb dX2_pop_77 rfl hl (by decide) rfl (fun ls hl => ?_)
          exact K78 n 0 pg s.heap [] ls rfl rfl hP hD hS (lv_sub hl [2, 3, 1, 0] rfl)
      · exact absurd c_53 (fq_nm1 (by omega))
  have K9 : ∀ (d : Nat) (a : Option Nat) (ls : Array Slot), d ≤ n → mqbest K d a = mqbest K n none → (∀ j, a = some j → j < n) → lv_has ls 4 [(0, .ref (y 0)), (1, .int (fqopt a)), (2, .int (nI d - 1))] → W p l e (headSpec (Cond.code yX2_pop cX2_pop 4 (some .int) :: wsL_law) ({ frames := 1, cells := 0, slots := 0, locals := 23 } : Room)).room s m ([.ref (y 0)] : List Value).toArray below meth c s.heap [] 0 0 (MQ below (va_Qi (S := mqQ) (fun r u => (r, u) = mqpop n (lo, pg, ca, K)) (fx_B (dC, dI) classes (fq_ty cI cA cZ) A (fun u : mqQ => wM c0 c1 c2 c3 c4 c5 c6 y cI cZ n ar gl u.1 u.2.1 u.2.2.1 ac hw u.2.2.2 F T Ln Wy Fo Tk Ne ++ rest)) A) ([.ref (y 0)] : List Value).toArray s 0 0 A) (F0 m 9 ls []) := by
    intro d
    induction d with
    | zero =>
      intro a ls hd hq hja hl
      rw [show nI 0 - 1 = -1 by decide] at hl
      refine lv_iload_n hx hb dX2_pop_9 rfl (lv_at hl 2 rfl) ?_
      refine lv_if_lt (tgt := 51) hx hb dX2_pop_10 (by decide) (fun _ => ?_) (fun h9 => absurd h9 (by decide))
      exact K51 a ls hq.symm (lv_sub hl [0, 1] rfl)
    | succ d ih =>
      intro a ls hd hq hja hl
      rw [nI_pred] at hl
      have hdn : d < n := by omega
      cases a with
      | none =>
        have hl : lv_has ls 4 [(0, .ref (y 0)), (1, .int (-1)), (2, .int (nI d))] := hl
        refine lv_iload_n hx hb dX2_pop_9 rfl (lv_at hl 2 rfl) ?_
        refine lv_if_lt (tgt := 51) hx hb dX2_pop_10 (by decide) (fun c_10 => ?_) (fun c_10 => ?_)
        · exact absurd c_10 (nI_pos (by omega))
        · refine lv_aload_n hx hb dX2_pop_13 rfl (lv_at hl 0 rfl) ?_
          refine va_get (D := (dC, dI)) (ci := 2) (v := .ref (y 1)) (C := RX2) (T := TX2) (N := 16) hx hb hts inlX2 hown hK hP 7 rfl rfl 3 (by decide) (hts _ km_42) (fun _ h9 => h9) rfl dX2_pop_14 ?_
          refine lv_iload_n hx hb dX2_pop_17 rfl (lv_at hl 2 rfl) ?_
          refine fx_ald hx hb hK hP 8 0 rfl rfl d rfl (by omega) (by decide) dX2_pop_18 ?_
          refine lv_iconst (v := (-1)) hx hb dX2_pop_19 (by decide) ?_
          refine lv_icmp_eq (tgt := 45) hx hb dX2_pop_20 (by decide) (fun c_20 => ?_) (fun c_20 => ?_)
          · refine lv_iinc (v := nI d - 1) (lv' := [(2, .int (nI d - 1)), (0, .ref (y 0)), (1, .int (-1))]) hx hb dX2_pop_45 hl (k := 2) rfl (mq_m1 _) (by decide) rfl (fun ls hl => ?_)
            refine lv_goto (tgt := 9) hx hb dX2_pop_48 (by decide) ?_
            exact ih none ls (by omega) (by rw [← hq, mqbest_none, if_neg (fun h => h c_20)]) hja (lv_sub hl [1, 2, 0] rfl)
          · refine lv_iload_n hx hb dX2_pop_23 rfl (lv_at hl 1 rfl) ?_
            refine lv_iconst (v := (-1)) hx hb dX2_pop_24 (by decide) ?_
            refine lv_icmp_eq (tgt := 43) hx hb dX2_pop_25 (by decide) (fun _ => ?_) (fun h9 => absurd h9 (by decide))
            refine lv_iload_n hx hb dX2_pop_43 rfl (lv_at hl 2 rfl) ?_
            refine lv_istore_n (lv' := [(1, .int (nI d)), (0, .ref (y 0)), (2, .int (nI d))]) hx hb dX2_pop_44 rfl hl (by decide) rfl (fun ls hl => ?_)
            refine lv_iinc (v := nI d - 1) (lv' := [(2, .int (nI d - 1)), (1, .int (nI d)), (0, .ref (y 0))]) hx hb dX2_pop_45 hl (k := 2) rfl (mq_m1 _) (by decide) rfl (fun ls hl => ?_)
            refine lv_goto (tgt := 9) hx hb dX2_pop_48 (by decide) ?_
            exact ih (some d) ls (by omega) (by rw [← hq, mqbest_none, if_pos c_20]) (fun j h => by cases h; exact hdn) (lv_sub hl [2, 1, 0] rfl)
      | some jb =>
        have hl : lv_has ls 4 [(0, .ref (y 0)), (1, .int (nI jb)), (2, .int (nI d))] := hl
        have hjb := hja jb rfl
        refine lv_iload_n hx hb dX2_pop_9 rfl (lv_at hl 2 rfl) ?_
        refine lv_if_lt (tgt := 51) hx hb dX2_pop_10 (by decide) (fun c_10 => ?_) (fun c_10 => ?_)
        · exact absurd c_10 (nI_pos (by omega))
        · refine lv_aload_n hx hb dX2_pop_13 rfl (lv_at hl 0 rfl) ?_
          refine va_get (D := (dC, dI)) (ci := 2) (v := .ref (y 1)) (C := RX2) (T := TX2) (N := 16) hx hb hts inlX2 hown hK hP 7 rfl rfl 3 (by decide) (hts _ km_42) (fun _ h9 => h9) rfl dX2_pop_14 ?_
          refine lv_iload_n hx hb dX2_pop_17 rfl (lv_at hl 2 rfl) ?_
          refine fx_ald hx hb hK hP 8 0 rfl rfl d rfl (by omega) (by decide) dX2_pop_18 ?_
          refine lv_iconst (v := (-1)) hx hb dX2_pop_19 (by decide) ?_
          refine lv_icmp_eq (tgt := 45) hx hb dX2_pop_20 (by decide) (fun c_20 => ?_) (fun c_20 => ?_)
          · refine lv_iinc (v := nI d - 1) (lv' := [(2, .int (nI d - 1)), (0, .ref (y 0)), (1, .int (nI jb))]) hx hb dX2_pop_45 hl (k := 2) rfl (mq_m1 _) (by decide) rfl (fun ls hl => ?_)
            refine lv_goto (tgt := 9) hx hb dX2_pop_48 (by decide) ?_
            exact ih (some jb) ls (by omega) (by rw [← hq, mqbest_some, if_neg (fun h => h.1 c_20)]) hja (lv_sub hl [1, 2, 0] rfl)
          · refine lv_iload_n hx hb dX2_pop_23 rfl (lv_at hl 1 rfl) ?_
            refine lv_iconst (v := (-1)) hx hb dX2_pop_24 (by decide) ?_
            refine lv_icmp_eq (tgt := 43) hx hb dX2_pop_25 (by decide) (fun c_25 => ?_) (fun c_25 => ?_)
            · exact absurd c_25 (fq_nm1 (by omega))
            · refine lv_aload_n hx hb dX2_pop_28 rfl (lv_at hl 0 rfl) ?_
              refine va_get (D := (dC, dI)) (ci := 2) (v := .ref (y 1)) (C := RX2) (T := TX2) (N := 16) hx hb hts inlX2 hown hK hP 7 rfl rfl 3 (by decide) (hts _ km_42) (fun _ h9 => h9) rfl dX2_pop_29 ?_
              refine lv_iload_n hx hb dX2_pop_32 rfl (lv_at hl 2 rfl) ?_
              refine fx_ald hx hb hK hP 8 0 rfl rfl d rfl (by omega) (by decide) dX2_pop_33 ?_
              refine lv_aload_n hx hb dX2_pop_34 rfl (lv_at hl 0 rfl) ?_
              refine va_get (D := (dC, dI)) (ci := 2) (v := .ref (y 1)) (C := RX2) (T := TX2) (N := 16) hx hb hts inlX2 hown hK hP 7 rfl rfl 3 (by decide) (hts _ km_42) (fun _ h9 => h9) rfl dX2_pop_35 ?_
              refine lv_iload_n hx hb dX2_pop_38 rfl (lv_at hl 1 rfl) ?_
              refine fx_ald hx hb hK hP 8 0 rfl rfl jb rfl (by omega) (by decide) dX2_pop_39 ?_
              refine lv_icmp_gt (tgt := 45) hx hb dX2_pop_40 (by decide) (fun c_40 => ?_) (fun c_40 => ?_)
              · refine lv_iinc (v := nI d - 1) (lv' := [(2, .int (nI d - 1)), (0, .ref (y 0)), (1, .int (nI jb))]) hx hb dX2_pop_45 hl (k := 2) rfl (mq_m1 _) (by decide) rfl (fun ls hl => ?_)
                refine lv_goto (tgt := 9) hx hb dX2_pop_48 (by decide) ?_
                exact ih (some jb) ls (by omega) (by rw [← hq, mqbest_some, if_neg (fun h => absurd h.2 (Int32.not_le.mpr c_40))]) hja (lv_sub hl [1, 2, 0] rfl)
              · refine lv_iload_n hx hb dX2_pop_43 rfl (lv_at hl 2 rfl) ?_
                refine lv_istore_n (lv' := [(1, .int (nI d)), (0, .ref (y 0)), (2, .int (nI d))]) hx hb dX2_pop_44 rfl hl (by decide) rfl (fun ls hl => ?_)
                refine lv_iinc (v := nI d - 1) (lv' := [(2, .int (nI d - 1)), (1, .int (nI d)), (0, .ref (y 0))]) hx hb dX2_pop_45 hl (k := 2) rfl (mq_m1 _) (by decide) rfl (fun ls hl => ?_)
                refine lv_goto (tgt := 9) hx hb dX2_pop_48 (by decide) ?_
                exact ih (some d) ls (by omega) (by rw [← hq, mqbest_some, if_pos ⟨c_20, Int32.not_lt.mp c_40⟩]) (fun j h => by cases h; exact hdn) (lv_sub hl [2, 1, 0] rfl)
  refine lv_iconst (v := (-1)) hx hb dX2_pop_0 (by decide) ?_
  refine lv_istore_n (lv' := [(1, .int (-1)), (0, .ref (y 0))]) hx hb dX2_pop_1 rfl hl (by decide) rfl (fun ls hl => ?_)
  refine lv_aload_n hx hb dX2_pop_2 rfl (lv_at hl 1 rfl) ?_
  refine va_get (D := (dC, dI)) (ci := 2) (v := .int (nI n)) (C := RX2) (T := TX2) (N := 16) hx hb hts inlX2 hown hK hP 7 rfl rfl 0 (by decide) (hts _ km_51) (fun _ h9 => h9) rfl dX2_pop_3 ?_
  refine lv_iconst (v := 1) hx hb dX2_pop_6 (by decide) ?_
  refine lv_isub hx hb dX2_pop_7 ?_
  refine lv_istore_n (lv' := [(2, .int ((nI n) - 1)), (1, .int (-1)), (0, .ref (y 0))]) hx hb dX2_pop_8 rfl hl (by decide) rfl (fun ls hl => ?_)
  exact K9 n none ls (Nat.le_refl _) rfl (fun _ h => by cases h) (lv_sub hl [2, 1, 0] rfl)
set_option maxHeartbeats 4000000 in
set_option maxRecDepth 100000 in
theorem sq_arc (l : Launch) (dC : Nat → ClassId) (dI : Nat → Nat → Nat) (A : Nat → Prop) (cI cA cZ : ClassId) (rest : va_W) (c0 c1 c2 c3 c4 c5 c6 : Nat × va_E) (y : Nat → Nat) (n : Nat) (hn : n ≤ 40) (ar : Nat) (gl : Int32) (lo pg ca : Int32) (ac : Nat) (hw : Int32) (K F T Ln Wy Fo Tk Ne : Nat → Int32) (xu xv w : Int32) (har : ar ≤ 300) (hac : ac ≤ ar) : Met l yX2_arc (Cond.code yX2_arc cX2_arc 4 (some .int) :: wsL_law) ({ frames := 1, cells := 0, slots := 0, locals := 21 } : Room) (va_Pc [.ref (y 0), .int xu, .int xv, .int w] (fx_Pre (dC, dI) classes (fq_ty cI cA cZ) A (wM c0 c1 c2 c3 c4 c5 c6 y cI cZ n ar gl lo pg ca ac hw K F T Ln Wy Fo Tk Ne ++ rest))) (va_Qi (S := (Nat × Int32 × (Nat → Int32) × (Nat → Int32) × (Nat → Int32))) (fun r u => (r, u) = mqarc n ar gl (ac, hw, F, T, Ln) xu xv w) (fx_B (dC, dI) classes (fq_ty cI cA cZ) A (fun u => wM c0 c1 c2 c3 c4 c5 c6 y cI cZ n ar gl lo pg ca u.1 u.2.1 K u.2.2.1 u.2.2.2.1 u.2.2.2.2 Wy Fo Tk Ne ++ rest)) A) 0 0 A := by
  refine Met.ofW (cc := cX2_arc) (maxL := 4) (ret := (some .int)) (by decide) rfl ?_
  intro p e s m args below meth c s₁ B0 hml hv
  obtain ⟨rfl, hA, hP, hK, hD, hN⟩ := hv
  have hx := B0.exec
  have hb := B0.bytes
  have hr := B0.returns
  have hts0 := atoms_spec (ws := (Cond.code yX2_arc cX2_arc 4 (some .int) :: wsL_law)) B0.pre
  have hts := fun w (h : w ∈ wsL_law) => hts0 w (List.mem_cons_of_mem _ h)
  have hown : s.vm.findClass RX2 = some m.cls := findClass_of_methodNamed B0.named
  have hlocks := B0.notSynchronized
  have hF : CallFix p m c cX2_arc 4 s ([.ref (y 0), .int xu, .int xv, .int w] : List Value).toArray wsL_law RX2 := ⟨hx, hb, hml, hown, hts⟩
  have hS : va_S A s.heap s.heap [] := va_S.rf
  have hl := lv_entry ([.ref (y 0), .int xu, .int xv, .int w]) (n := 4) (Nat.le_of_ble_eq_true rfl)
  rw [lg_entry_eq]
  generalize (lg_sl ([.ref (y 0), .int xu, .int xv, .int w]) ++ List.replicate (4 - (lg_sl ([.ref (y 0), .int xu, .int xv, .int w])).length) Slot.unset).toArray = ls at hl ⊢
  have hl : lv_has ls 4 [(0, .ref (y 0)), (1, .int xu), (2, .int xv), (3, .int w)] := hl
  have hn31 : n < 2 ^ 31 := by omega
  refine lv_aload_n hx hb dX2_arc_0 rfl (lv_at hl 0 rfl) ?_
  refine lv_iload_n hx hb dX2_arc_1 rfl (lv_at hl 1 rfl) ?_
  refine fx_Vs (rest := []) (sq_isItem l dC dI A cI cA cZ rest c0 c1 c2 c3 c4 c5 c6 y n hn ar gl lo pg ca ac hw K F T Ln Wy Fo Tk Ne xu) hF (cw_RX2_51 hts ⟨Nat.le_of_ble_eq_true rfl, Nat.le_of_ble_eq_true rfl⟩) hA hS hP hK hD hN 7 2 rfl rfl rfl hl.1 rfl (Nat.le_of_ble_eq_true rfl) dX2_arc_2 ⟨Nat.le_of_ble_eq_true rfl, Nat.le_of_ble_eq_true rfl⟩ (fun r h => ?_)
  rcases h with ⟨rfl, ⟨j, hj, rfl⟩⟩ | ⟨rfl, h⟩
  · refine lv_if_eq (tgt := 16) hx hb dX2_arc_5 (by decide) (fun h9 => absurd h9 (by decide)) (fun _ => ?_)
    refine lv_aload_n hx hb dX2_arc_8 rfl (lv_at hl 0 rfl) ?_
    refine lv_iload_n hx hb dX2_arc_9 rfl (lv_at hl 2 rfl) ?_
    refine fx_Vs (rest := []) (sq_isItem l dC dI A cI cA cZ rest c0 c1 c2 c3 c4 c5 c6 y n hn ar gl lo pg ca ac hw K F T Ln Wy Fo Tk Ne xv) hF (cw_RX2_51 hts ⟨Nat.le_of_ble_eq_true rfl, Nat.le_of_ble_eq_true rfl⟩) hA hS hP hK hD hN 7 2 rfl rfl rfl hl.1 rfl (Nat.le_of_ble_eq_true rfl) dX2_arc_10 ⟨Nat.le_of_ble_eq_true rfl, Nat.le_of_ble_eq_true rfl⟩ (fun r h => ?_)
    rcases h with ⟨rfl, ⟨k, hk, rfl⟩⟩ | ⟨rfl, h⟩
    · refine lv_if_ne (tgt := 18) hx hb dX2_arc_13 (by decide) (fun _ => ?_) (fun h9 => absurd h9 (by decide))
      refine lv_iload_n hx hb dX2_arc_18 rfl (lv_at hl 3 rfl) ?_
      refine lv_if_lt (tgt := 30) hx hb dX2_arc_19 (by decide) (fun c_19 => ?_) (fun c_19 => ?_)
      · refine lv_bipush (v := (-2)) hx hb dX2_arc_30 (by decide) ?_
        have hR : fqarcR n (nI ar) gl (nI ac) (nI j) (nI k) w = -2 := by unfold fqarcR; rw [fqat_some hj hn31, fqat_some hk hn31]; dsimp only; rw [if_pos c_19]
        exact fx_iret hx hb hr hlocks hK hS dX2_arc_32 (ac, hw, F, T, Ln) (by unfold mqarc; dsimp only; rw [hR]; rfl) hP hD
      · refine lv_iload_n hx hb dX2_arc_22 rfl (lv_at hl 3 rfl) ?_
        refine lv_aload_n hx hb dX2_arc_23 rfl (lv_at hl 0 rfl) ?_
        refine va_get (D := (dC, dI)) (ci := 2) (v := .int gl) (C := RX2) (T := TX2) (N := 16) hx hb hts inlX2 hown hK hP 7 rfl rfl 2 (by decide) (hts _ km_53) (fun _ h9 => h9) rfl dX2_arc_24 ?_
        refine lv_icmp_le (tgt := 33) hx hb dX2_arc_27 (by decide) (fun c_27 => ?_) (fun c_27 => ?_)
        · refine lv_aload_n hx hb dX2_arc_33 rfl (lv_at hl 0 rfl) ?_
          refine va_get (D := (dC, dI)) (ci := 2) (v := .int (nI ac)) (C := RX2) (T := TX2) (N := 16) hx hb hts inlX2 hown hK hP 7 rfl rfl 7 (by decide) (hts _ km_210) (fun _ h9 => h9) rfl dX2_arc_34 ?_
          refine lv_aload_n hx hb dX2_arc_37 rfl (lv_at hl 0 rfl) ?_
          refine va_get (D := (dC, dI)) (ci := 2) (v := .int (nI ar)) (C := RX2) (T := TX2) (N := 16) hx hb hts inlX2 hown hK hP 7 rfl rfl 1 (by decide) (hts _ km_52) (fun _ h9 => h9) rfl dX2_arc_38 ?_
          refine lv_icmp_ne (tgt := 47) hx hb dX2_arc_41 (by decide) (fun c_41 => ?_) (fun c_41 => ?_)
          · have hlt : ac < ar := Nat.lt_of_le_of_ne hac (fun e9 => c_41 (by rw [e9]))
            refine lv_aload_n hx hb dX2_arc_47 rfl (lv_at hl 0 rfl) ?_
            refine va_get (D := (dC, dI)) (ci := 2) (v := .ref (y 2)) (C := RX2) (T := TX2) (N := 16) hx hb hts inlX2 hown hK hP 7 rfl rfl 8 (by decide) (hts _ km_43) (fun _ h9 => h9) rfl dX2_arc_48 ?_
            refine lv_aload_n hx hb dX2_arc_51 rfl (lv_at hl 0 rfl) ?_
            refine va_get (D := (dC, dI)) (ci := 2) (v := .int (nI ac)) (C := RX2) (T := TX2) (N := 16) hx hb hts inlX2 hown hK hP 7 rfl rfl 7 (by decide) (hts _ km_210) (fun _ h9 => h9) rfl dX2_arc_52 ?_
            refine lv_iload_n hx hb dX2_arc_55 rfl (lv_at hl 1 rfl) ?_
            refine fx_ast hx hb hK hP hD hS 9 0 rfl rfl ac rfl (by omega) (by decide) dX2_arc_56 (fun H locs hP hD hS => ?_)
            have hP : va_P (dC, dI) classes (wM c0 c1 c2 c3 c4 c5 c6 y cI cZ n ar gl lo pg ca ac hw K (upd F ac (nI j)) T Ln Wy Fo Tk Ne ++ rest) H := hP
            have hD : va_D A (wM c0 c1 c2 c3 c4 c5 c6 y cI cZ n ar gl lo pg ca ac hw K (upd F ac (nI j)) T Ln Wy Fo Tk Ne ++ rest) := hD
            refine lv_aload_n hx hb dX2_arc_57 rfl (lv_at hl 0 rfl) ?_
            refine va_get (D := (dC, dI)) (ci := 2) (v := .ref (y 3)) (C := RX2) (T := TX2) (N := 16) hx hb hts inlX2 hown hK hP 7 rfl rfl 9 (by decide) (hts _ km_44) (fun _ h9 => h9) rfl dX2_arc_58 ?_
            refine lv_aload_n hx hb dX2_arc_61 rfl (lv_at hl 0 rfl) ?_
            refine va_get (D := (dC, dI)) (ci := 2) (v := .int (nI ac)) (C := RX2) (T := TX2) (N := 16) hx hb hts inlX2 hown hK hP 7 rfl rfl 7 (by decide) (hts _ km_210) (fun _ h9 => h9) rfl dX2_arc_62 ?_
            refine lv_iload_n hx hb dX2_arc_65 rfl (lv_at hl 2 rfl) ?_
            refine fx_ast hx hb hK hP hD hS 10 0 rfl rfl ac rfl (by omega) (by decide) dX2_arc_66 (fun H locs hP hD hS => ?_)
            have hP : va_P (dC, dI) classes (wM c0 c1 c2 c3 c4 c5 c6 y cI cZ n ar gl lo pg ca ac hw K (upd F ac (nI j)) (upd T ac (nI k)) Ln Wy Fo Tk Ne ++ rest) H := hP
            have hD : va_D A (wM c0 c1 c2 c3 c4 c5 c6 y cI cZ n ar gl lo pg ca ac hw K (upd F ac (nI j)) (upd T ac (nI k)) Ln Wy Fo Tk Ne ++ rest) := hD
            refine lv_aload_n hx hb dX2_arc_67 rfl (lv_at hl 0 rfl) ?_
            refine va_get (D := (dC, dI)) (ci := 2) (v := .ref (y 4)) (C := RX2) (T := TX2) (N := 16) hx hb hts inlX2 hown hK hP 7 rfl rfl 10 (by decide) (hts _ km_45) (fun _ h9 => h9) rfl dX2_arc_68 ?_
            refine lv_aload_n hx hb dX2_arc_71 rfl (lv_at hl 0 rfl) ?_
            refine va_get (D := (dC, dI)) (ci := 2) (v := .int (nI ac)) (C := RX2) (T := TX2) (N := 16) hx hb hts inlX2 hown hK hP 7 rfl rfl 7 (by decide) (hts _ km_210) (fun _ h9 => h9) rfl dX2_arc_72 ?_
            refine lv_iload_n hx hb dX2_arc_75 rfl (lv_at hl 3 rfl) ?_
            refine fx_ast hx hb hK hP hD hS 11 0 rfl rfl ac rfl (by omega) (by decide) dX2_arc_76 (fun H locs hP hD hS => ?_)
            have hP : va_P (dC, dI) classes (wM c0 c1 c2 c3 c4 c5 c6 y cI cZ n ar gl lo pg ca ac hw K (upd F ac (nI j)) (upd T ac (nI k)) (upd Ln ac w) Wy Fo Tk Ne ++ rest) H := hP
            have hD : va_D A (wM c0 c1 c2 c3 c4 c5 c6 y cI cZ n ar gl lo pg ca ac hw K (upd F ac (nI j)) (upd T ac (nI k)) (upd Ln ac w) Wy Fo Tk Ne ++ rest) := hD
            refine lv_aload_n hx hb dX2_arc_77 rfl (lv_at hl 0 rfl) ?_
            refine lv_dup hx hb dX2_arc_78 rfl ?_
            refine va_get (D := (dC, dI)) (ci := 2) (v := .int (nI ac)) (C := RX2) (T := TX2) (N := 16) hx hb hts inlX2 hown hK hP 7 rfl rfl 7 (by decide) (hts _ km_210) (fun _ h9 => h9) rfl dX2_arc_79 ?_
            refine lv_iconst (v := 1) hx hb dX2_arc_82 (by decide) ?_
            refine lv_iadd hx hb dX2_arc_83 ?_
            refine fx_is (nI_1 ac) ?_
            refine va_put (D := (dC, dI)) (ci := 2) (v := .int (nI (ac + 1))) (ty := .int) (C := RX2) (T := TX2) (N := 16) hx hb hts inlX2 tyX2 tyX2_ok nmX2 hown hK hP hD hS 7 rfl rfl 7 (by decide) (hts _ km_210) (fun _ h9 => h9) rfl (by decide +kernel) rfl rfl (Nat.le_of_ble_eq_true rfl) dX2_arc_84 (fun H locs hP hD hS => ?_)
            have hP : va_P (dC, dI) classes (wM c0 c1 c2 c3 c4 c5 c6 y cI cZ n ar gl lo pg ca (ac + 1) hw K (upd F ac (nI j)) (upd T ac (nI k)) (upd Ln ac w) Wy Fo Tk Ne ++ rest) H := hP
            have hD : va_D A (wM c0 c1 c2 c3 c4 c5 c6 y cI cZ n ar gl lo pg ca (ac + 1) hw K (upd F ac (nI j)) (upd T ac (nI k)) (upd Ln ac w) Wy Fo Tk Ne ++ rest) := hD
            refine lv_aload_n hx hb dX2_arc_87 rfl (lv_at hl 0 rfl) ?_
            refine lv_iconst (v := 0) hx hb dX2_arc_88 (by decide) ?_
            refine va_put (D := (dC, dI)) (ci := 2) (v := .int 0) (ty := .boolean) (C := RX2) (T := TX2) (N := 16) hx hb hts inlX2 tyX2 tyX2_ok nmX2 hown hK hP hD hS 7 rfl rfl 11 (by decide) (hts _ km_211) (fun _ h9 => h9) rfl (by decide +kernel) rfl rfl (Nat.le_of_ble_eq_true rfl) dX2_arc_89 (fun H locs hP hD hS => ?_)
            have hP : va_P (dC, dI) classes (wM c0 c1 c2 c3 c4 c5 c6 y cI cZ n ar gl lo pg ca (ac + 1) 0 K (upd F ac (nI j)) (upd T ac (nI k)) (upd Ln ac w) Wy Fo Tk Ne ++ rest) H := hP
            have hD : va_D A (wM c0 c1 c2 c3 c4 c5 c6 y cI cZ n ar gl lo pg ca (ac + 1) 0 K (upd F ac (nI j)) (upd T ac (nI k)) (upd Ln ac w) Wy Fo Tk Ne ++ rest) := hD
            refine lv_iconst (v := 0) hx hb dX2_arc_92 (by decide) ?_
            have hR : fqarcR n (nI ar) gl (nI ac) (nI j) (nI k) w = 0 := by unfold fqarcR; rw [fqat_some hj hn31, fqat_some hk hn31]; dsimp only; rw [if_neg c_19, if_pos c_27, if_pos (nI_lt hlt (by omega))]
            exact fx_iret hx hb hr hlocks hK hS dX2_arc_93 (ac + 1, 0, upd F ac (nI j), upd T ac (nI k), upd Ln ac w) (by unfold mqarc; dsimp only; rw [hR]; rfl) hP hD
          · refine lv_bipush (v := (-3)) hx hb dX2_arc_44 (by decide) ?_
            have hR : fqarcR n (nI ar) gl (nI ac) (nI j) (nI k) w = -3 := by unfold fqarcR; rw [fqat_some hj hn31, fqat_some hk hn31]; dsimp only; rw [if_neg c_19, if_pos c_27, if_neg (fun h9 => Int32.lt_irrefl (c_41 ▸ h9))]
            exact fx_iret hx hb hr hlocks hK hS dX2_arc_46 (ac, hw, F, T, Ln) (by unfold mqarc; dsimp only; rw [hR]; rfl) hP hD
        · refine lv_bipush (v := (-2)) hx hb dX2_arc_30 (by decide) ?_
          have hR : fqarcR n (nI ar) gl (nI ac) (nI j) (nI k) w = -2 := by unfold fqarcR; rw [fqat_some hj hn31, fqat_some hk hn31]; dsimp only; rw [if_neg c_19, if_neg c_27]
          exact fx_iret hx hb hr hlocks hK hS dX2_arc_32 (ac, hw, F, T, Ln) (by unfold mqarc; dsimp only; rw [hR]; rfl) hP hD
    · refine lv_if_ne (tgt := 18) hx hb dX2_arc_13 (by decide) (fun h9 => absurd h9 (by decide)) (fun _ => ?_)
      refine lv_iconst (v := (-1)) hx hb dX2_arc_16 (by decide) ?_
      have hR : fqarcR n (nI ar) gl (nI ac) (nI j) xv w = -1 := by unfold fqarcR; rw [fqat_some hj hn31, fqat_none hn31 h]
      exact fx_iret hx hb hr hlocks hK hS dX2_arc_17 (ac, hw, F, T, Ln) (by unfold mqarc; dsimp only; rw [hR]; rfl) hP hD
  · refine lv_if_eq (tgt := 16) hx hb dX2_arc_5 (by decide) (fun _ => ?_) (fun h9 => absurd h9 (by decide))
    refine lv_iconst (v := (-1)) hx hb dX2_arc_16 (by decide) ?_
    have hR : fqarcR n (nI ar) gl (nI ac) xu xv w = -1 := by unfold fqarcR; rw [fqat_none hn31 h]
    exact fx_iret hx hb hr hlocks hK hS dX2_arc_17 (ac, hw, F, T, Ln) (by unfold mqarc; dsimp only; rw [hR]; rfl) hP hD
set_option maxHeartbeats 4000000 in
set_option maxRecDepth 100000 in
theorem sq_reach (l : Launch) (dC : Nat → ClassId) (dI : Nat → Nat → Nat) (A : Nat → Prop) (cI cA cZ : ClassId) (rest : va_W) (c0 c1 c2 c3 c4 c5 c6 : Nat × va_E) (y : Nat → Nat) (n : Nat) (hn : n ≤ 40) (ar : Nat) (gl : Int32) (lo pg ca : Int32) (ac : Nat) (hw : Int32) (K F T Ln Wy Fo Tk Ne : Nat → Int32) (u v : Nat) (w : Int32) (hu : u < n) (hv : v < n) (hs : mqS n (lo, pg, ca, K)) : Met l yX2_reach (Cond.code yX2_reach cX2_reach 6 none :: wsL_law) ({ frames := 3, cells := 0, slots := 0, locals := 64 } : Room) (va_Pc [.ref (y 0), .int (nI u), .int (nI v), .int w] (fx_Pre (dC, dI) classes (fq_ty cI cA cZ) A (wM c0 c1 c2 c3 c4 c5 c6 y cI cZ n ar gl lo pg ca ac hw K F T Ln Wy Fo Tk Ne ++ rest))) (va_Qv (S := mqR) (fun r => r = mqreach n ((lo, pg, ca, K), Wy, Fo, Tk) u v w) (fx_B (dC, dI) classes (fq_ty cI cA cZ) A (fun u : mqR => wM c0 c1 c2 c3 c4 c5 c6 y cI cZ n ar gl u.1.1 u.1.2.1 u.1.2.2.1 ac hw u.1.2.2.2 F T Ln u.2.1 u.2.2.1 u.2.2.2 Ne ++ rest)) A) 0 0 A := by
  refine Met.ofW (cc := cX2_reach) (maxL := 6) (ret := none) (by decide) rfl ?_
  intro p e s m args below meth c s₁ B0 hml hv
  obtain ⟨rfl, hA, hP, hK, hD, hN⟩ := hv
  have hx := B0.exec
  have hb := B0.bytes
  have hr := B0.returns
  have hts0 := atoms_spec (ws := (Cond.code yX2_reach cX2_reach 6 none :: wsL_law)) B0.pre
  have hts := fun w (h : w ∈ wsL_law) => hts0 w (List.mem_cons_of_mem _ h)
  have hown : s.vm.findClass RX2 = some m.cls := findClass_of_methodNamed B0.named
  have hlocks := B0.notSynchronized
  have hF : CallFix p m c cX2_reach 6 s ([.ref (y 0), .int (nI u), .int (nI v), .int w] : List Value).toArray wsL_law RX2 := ⟨hx, hb, hml, hown, hts⟩
  have hS : va_S A s.heap s.heap [] := va_S.rf
  have hl := lv_entry ([.ref (y 0), .int (nI u), .int (nI v), .int w]) (n := 6) (Nat.le_of_ble_eq_true rfl)
  rw [lg_entry_eq]
  generalize (lg_sl ([.ref (y 0), .int (nI u), .int (nI v), .int w]) ++ List.replicate (6 - (lg_sl ([.ref (y 0), .int (nI u), .int (nI v), .int w])).length) Slot.unset).toArray = ls at hl ⊢
  have hl : lv_has ls 6 [(0, .ref (y 0)), (1, .int (nI u)), (2, .int (nI v)), (3, .int w)] := hl
  have hn31 : n < 2 ^ 31 := by omega
  refine lv_aload_n hx hb dX2_reach_0 rfl (lv_at hl 0 rfl) ?_
  refine va_get (D := (dC, dI)) (ci := 2) (v := .ref (y 5)) (C := RX2) (T := TX2) (N := 16) hx hb hts inlX2 hown hK hP 7 rfl rfl 12 (by decide) (hts _ km_46) (fun _ h9 => h9) rfl dX2_reach_1 ?_
  refine lv_iload_n hx hb dX2_reach_4 rfl (lv_at hl 1 rfl) ?_
  refine fx_ald hx hb hK hP 12 0 rfl rfl u rfl (by omega) (by decide) dX2_reach_5 ?_
  refine lv_i2l hx hb dX2_reach_6 rfl ?_
  refine lv_iload_n hx hb dX2_reach_7 rfl (lv_at hl 3 rfl) ?_
  refine lv_i2l hx hb dX2_reach_8 rfl ?_
  refine lv_ladd hx hb dX2_reach_9 ?_
  refine lv_lstore (lv' := [(4, .long (((Wy u).toInt64) + w.toInt64)), (0, .ref (y 0)), (1, .int (nI u)), (2, .int (nI v)), (3, .int w)]) hx hb dX2_reach_10 hl (by decide) rfl (fun ls hl => ?_)
  refine lv_aload_n hx hb dX2_reach_12 rfl (lv_at hl 1 rfl) ?_
  refine va_get (D := (dC, dI)) (ci := 2) (v := .ref (y 7)) (C := RX2) (T := TX2) (N := 16) hx hb hts inlX2 hown hK hP 7 rfl rfl 14 (by decide) (hts _ km_49) (fun _ h9 => h9) rfl dX2_reach_13 ?_
  refine lv_iload_n hx hb dX2_reach_16 rfl (lv_at hl 3 rfl) ?_
  refine fx_zald hx hb hK hP 14 2 rfl rfl v rfl (by omega) (by decide) dX2_reach_17 ?_
  refine lv_if_ne (tgt := 30) hx hb dX2_reach_18 (by decide) (fun c_18 => ?_) (fun c_18 => ?_)
  · exact fx_vret hx hb hr hlocks hK hS dX2_reach_30 ((lo, pg, ca, K), Wy, Fo, Tk) (by unfold mqreach; dsimp only; rw [if_neg c_18]) hP hD
  · refine lv_lload hx hb dX2_reach_21 (lv_at hl 0 rfl) ?_
    refine lv_ldc2 (v := 2147483647) hx hb hown (hts _ km_252) dX2_reach_23 ?_
    refine W.lcmp hx hb dX2_reach_26 ?_
    refine lv_if_le (tgt := 31) hx hb dX2_reach_27 (by decide) (fun c_27 => ?_) (fun c_27 => ?_)
    · have c_27 := fx_lle.mp c_27
      refine lv_aload_n hx hb dX2_reach_31 rfl (lv_at hl 1 rfl) ?_
      refine va_get (D := (dC, dI)) (ci := 2) (v := .ref (y 1)) (C := RX2) (T := TX2) (N := 16) hx hb hts inlX2 hown hK hP 7 rfl rfl 3 (by decide) (hts _ km_42) (fun _ h9 => h9) rfl dX2_reach_32 ?_
      refine lv_iload_n hx hb dX2_reach_35 rfl (lv_at hl 3 rfl) ?_
      refine fx_ald hx hb hK hP 8 0 rfl rfl v rfl (by omega) (by decide) dX2_reach_36 ?_
      refine lv_iconst (v := (-1)) hx hb dX2_reach_37 (by decide) ?_
      refine lv_icmp_ne (tgt := 60) hx hb dX2_reach_38 (by decide) (fun c_38 => ?_) (fun c_38 => ?_)
      · refine lv_lload hx hb dX2_reach_60 (lv_at hl 0 rfl) ?_
        refine lv_aload_n hx hb dX2_reach_62 rfl (lv_at hl 1 rfl) ?_
        refine va_get (D := (dC, dI)) (ci := 2) (v := .ref (y 1)) (C := RX2) (T := TX2) (N := 16) hx hb hts inlX2 hown hK hP 7 rfl rfl 3 (by decide) (hts _ km_42) (fun _ h9 => h9) rfl dX2_reach_63 ?_
        refine lv_iload_n hx hb dX2_reach_66 rfl (lv_at hl 3 rfl) ?_
        refine fx_ald hx hb hK hP 8 0 rfl rfl v rfl (by omega) (by decide) dX2_reach_67 ?_
        refine lv_i2l hx hb dX2_reach_68 rfl ?_
        refine W.lcmp hx hb dX2_reach_69 ?_
        refine lv_if_ge (tgt := 89) hx hb dX2_reach_70 (by decide) (fun c_70 => ?_) (fun c_70 => ?_)
        · have c_70 := fx_lge.mp c_70
          exact fx_vret hx hb hr hlocks hK hS dX2_reach_89 ((lo, pg, ca, K), Wy, Fo, Tk) (by unfold mqreach; dsimp only; rw [if_pos c_18, if_neg c_27, if_neg c_38, if_neg c_70]) hP hD
        · have c_70 := Classical.not_not.mp (fun h9 => c_70 (fx_lge.mpr h9))
          refine lv_aload_n hx hb dX2_reach_73 rfl (lv_at hl 1 rfl) ?_
          refine lv_iload_n hx hb dX2_reach_74 rfl (lv_at hl 3 rfl) ?_
          refine lv_lload hx hb dX2_reach_75 (lv_at hl 0 rfl) ?_
          refine lv_l2i hx hb dX2_reach_77 rfl ?_
          refine fx_Vi (rest := []) (sq_lower l dC dI A cI cA cZ rest c0 c1 c2 c3 c4 c5 c6 y n hn ar gl lo pg ca ac hw K F T Ln Wy Fo Tk Ne (nI v) (((Wy u).toInt64 + w.toInt64).toInt32) hs) hF (cw_RX2_80 hts ⟨Nat.le_of_ble_eq_true rfl, Nat.le_of_ble_eq_true rfl⟩) hA hS hP hK hD hN 7 2 rfl rfl rfl hl.1 rfl (Nat.le_of_ble_eq_true rfl) dX2_reach_78 ⟨Nat.le_of_ble_eq_true rfl, Nat.le_of_ble_eq_true rfl⟩ (fun r u9 H locs h hP hD hS => ?_)
          obtain ⟨lo1, pg1, ca1, K1⟩ := u9
          have hP : va_P (dC, dI) classes (wM c0 c1 c2 c3 c4 c5 c6 y cI cZ n ar gl lo1 pg1 ca1 ac hw K1 F T Ln Wy Fo Tk Ne ++ rest) H := hP
          have hD : va_D A (wM c0 c1 c2 c3 c4 c5 c6 y cI cZ n ar gl lo1 pg1 ca1 ac hw K1 F T Ln Wy Fo Tk Ne ++ rest) := hD
          refine lv_pop hx hb dX2_reach_81 rfl ?_
          refine lv_aload_n hx hb dX2_reach_82 rfl (lv_at hl 1 rfl) ?_
          refine va_get (D := (dC, dI)) (ci := 2) (v := .ref (y 6)) (C := RX2) (T := TX2) (N := 16) hx hb hts inlX2 hown hK hP 7 rfl rfl 13 (by decide) (hts _ km_47) (fun _ h9 => h9) rfl dX2_reach_83 ?_
          refine lv_iload_n hx hb dX2_reach_86 rfl (lv_at hl 3 rfl) ?_
          refine lv_iload_n hx hb dX2_reach_87 rfl (lv_at hl 2 rfl) ?_
          refine fx_ast hx hb hK hP hD hS 13 0 rfl rfl v rfl (by omega) (by decide) dX2_reach_88 (fun H locs hP hD hS => ?_)
          have hP : va_P (dC, dI) classes (wM c0 c1 c2 c3 c4 c5 c6 y cI cZ n ar gl lo1 pg1 ca1 ac hw K1 F T Ln Wy (upd Fo v (nI u)) Tk Ne ++ rest) H := hP
          have hD : va_D A (wM c0 c1 c2 c3 c4 c5 c6 y cI cZ n ar gl lo1 pg1 ca1 ac hw K1 F T Ln Wy (upd Fo v (nI u)) Tk Ne ++ rest) := hD
          exact fx_vret hx hb hr hlocks hK hS dX2_reach_89 ((lo1, pg1, ca1, K1), Wy, upd Fo v (nI u), Tk) (by unfold mqreach; dsimp only; rw [if_pos c_18, if_neg c_27, if_neg c_38, if_pos c_70, ← h]) hP hD
      · refine lv_aload_n hx hb dX2_reach_41 rfl (lv_at hl 1 rfl) ?_
        refine lv_iload_n hx hb dX2_reach_42 rfl (lv_at hl 3 rfl) ?_
        refine lv_lload hx hb dX2_reach_43 (lv_at hl 0 rfl) ?_
        refine lv_l2i hx hb dX2_reach_45 rfl ?_
        refine fx_Vi (rest := []) (sq_push l dC dI A cI cA cZ rest c0 c1 c2 c3 c4 c5 c6 y n hn ar gl lo pg ca ac hw K F T Ln Wy Fo Tk Ne (nI v) (((Wy u).toInt64 + w.toInt64).toInt32)) hF (cw_RX2_77 hts ⟨Nat.le_of_ble_eq_true rfl, Nat.le_of_ble_eq_true rfl⟩) hA hS hP hK hD hN 7 2 rfl rfl rfl hl.1 rfl (Nat.le_of_ble_eq_true rfl) dX2_reach_46 ⟨Nat.le_of_ble_eq_true rfl, Nat.le_of_ble_eq_true rfl⟩ (fun r u9 H locs h hP hD hS => ?_)
        obtain ⟨lo1, pg1, ca1, K1⟩ := u9
        have hP : va_P (dC, dI) classes (wM c0 c1 c2 c3 c4 c5 c6 y cI cZ n ar gl lo1 pg1 ca1 ac hw K1 F T Ln Wy Fo Tk Ne ++ rest) H := hP
        have hD : va_D A (wM c0 c1 c2 c3 c4 c5 c6 y cI cZ n ar gl lo1 pg1 ca1 ac hw K1 F T Ln Wy Fo Tk Ne ++ rest) := hD
        refine lv_pop hx hb dX2_reach_49 rfl ?_
        refine lv_aload_n hx hb dX2_reach_50 rfl (lv_at hl 1 rfl) ?_
        refine va_get (D := (dC, dI)) (ci := 2) (v := .ref (y 6)) (C := RX2) (T := TX2) (N := 16) hx hb hts inlX2 hown hK hP 7 rfl rfl 13 (by decide) (hts _ km_47) (fun _ h9 => h9) rfl dX2_reach_51 ?_
        refine lv_iload_n hx hb dX2_reach_54 rfl (lv_at hl 3 rfl) ?_
        refine lv_iload_n hx hb dX2_reach_55 rfl (lv_at hl 2 rfl) ?_
        refine fx_ast hx hb hK hP hD hS 13 0 rfl rfl v rfl (by omega) (by decide) dX2_reach_56 (fun H locs hP hD hS => ?_)
        have hP : va_P (dC, dI) classes (wM c0 c1 c2 c3 c4 c5 c6 y cI cZ n ar gl lo1 pg1 ca1 ac hw K1 F T Ln Wy (upd Fo v (nI u)) Tk Ne ++ rest) H := hP
        have hD : va_D A (wM c0 c1 c2 c3 c4 c5 c6 y cI cZ n ar gl lo1 pg1 ca1 ac hw K1 F T Ln Wy (upd Fo v (nI u)) Tk Ne ++ rest) := hD
        refine lv_goto (tgt := 89) hx hb dX2_reach_57 (by decide) ?_
        exact fx_vret hx hb hr hlocks hK hS dX2_reach_89 ((lo1, pg1, ca1, K1), Wy, upd Fo v (nI u), Tk) (by unfold mqreach; dsimp only; rw [if_pos c_18, if_neg c_27, if_pos c_38, ← h]) hP hD
    · have c_27 := Classical.not_not.mp (fun h9 => c_27 (fx_lle.mpr h9))
      exact fx_vret hx hb hr hlocks hK hS dX2_reach_30 ((lo, pg, ca, K), Wy, Fo, Tk) (by unfold mqreach; dsimp only; rw [if_pos c_18, if_pos c_27]) hP hD
