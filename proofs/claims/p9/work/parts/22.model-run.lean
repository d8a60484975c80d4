set_option maxHeartbeats 4000000 in
set_option maxRecDepth 100000 in
theorem sq_spread (l : Launch) (dC : Nat → ClassId) (dI : Nat → Nat → Nat) (A : Nat → Prop) (cI cA cZ : ClassId) (rest : va_W) (c0 c1 c2 c3 c4 c5 c6 : Nat × va_E) (y : Nat → Nat) (n : Nat) (hn : n ≤ 40) (ar : Nat) (gl : Int32) (lo pg ca : Int32) (ac : Nat) (hw : Int32) (K F T Ln Wy Fo Tk Ne : Nat → Int32) (j : Nat) (hj : j < n) (hac : ac ≤ 300) (hnet : mqnet n ac F T) : Met l yX2_spread (Cond.code yX2_spread cX2_spread 4 none :: wsL_law) ({ frames := 0, cells := 0, slots := 0, locals := 0 } : Room) (va_Pc [.ref (y 0), .int (nI j)] (fx_Pre (dC, dI) classes (fq_ty cI cA cZ) A (wM c0 c1 c2 c3 c4 c5 c6 y cI cZ n ar gl lo pg ca ac hw K F T Ln Wy Fo Tk Ne ++ rest))) (va_Qv (S := (Nat → Int32)) (fun u => u = mqspread n F T ac j Ne) (fx_B (dC, dI) classes (fq_ty cI cA cZ) A (fun u => wM c0 c1 c2 c3 c4 c5 c6 y cI cZ n ar gl lo pg ca ac hw K F T Ln Wy Fo Tk u ++ rest)) A) 0 0 A := by
  refine Met.ofW (cc := cX2_spread) (maxL := 4) (ret := none) (by decide) rfl ?_
  intro p e s m args below meth c s₁ B0 hml hv
  obtain ⟨rfl, hA, hP, hK, hD, hN⟩ := hv
  have hx := B0.exec
  have hb := B0.bytes
  have hr := B0.returns
  have hts0 := atoms_spec (ws := (Cond.code yX2_spread cX2_spread 4 none :: wsL_law)) B0.pre
  have hts := fun w (h : w ∈ wsL_law) => hts0 w (List.mem_cons_of_mem _ h)
  have hown : s.vm.findClass RX2 = some m.cls := findClass_of_methodNamed B0.named
  have hlocks := B0.notSynchronized
  have hF : CallFix p m c cX2_spread 4 s ([.ref (y 0), .int (nI j)] : List Value).toArray wsL_law RX2 := ⟨hx, hb, hml, hown, hts⟩
  have hS : va_S A s.heap s.heap [] := va_S.rf
  have hl := lv_entry ([.ref (y 0), .int (nI j)]) (n := 4) (Nat.le_of_ble_eq_true rfl)
  rw [lg_entry_eq]
  generalize (lg_sl ([.ref (y 0), .int (nI j)]) ++ List.replicate (4 - (lg_sl ([.ref (y 0), .int (nI j)])).length) Slot.unset).toArray = ls at hl ⊢
  have hl : lv_has ls 4 [(0, .ref (y 0)), (1, .int (nI j))] := hl
  have hn31 : n < 2 ^ 31 := by omega
  have K32 : ∀ (d i : Nat) (Ne' : Nat → Int32) (H : Heap) (locs : List Loc) (ls : Array Slot), d + i = n → (mqnear F T ac d Ne' = mqspread n F T ac j Ne) → va_P (dC, dI) classes (wM c0 c1 c2 c3 c4 c5 c6 y cI cZ n ar gl lo pg ca ac hw K F T Ln Wy Fo Tk Ne' ++ rest) H → va_D A (wM c0 c1 c2 c3 c4 c5 c6 y cI cZ n ar gl lo pg ca ac hw K F T Ln Wy Fo Tk Ne' ++ rest) → va_S A s.heap H locs → lv_has ls 4 [(0, .ref (y 0)), (1, .int (nI j)), (2, .int (nI i))] → W p l e (headSpec (Cond.code yX2_spread cX2_spread 4 none :: wsL_law) ({ frames := 0, cells := 0, slots := 0, locals := 0 } : Room)).room s m ([.ref (y 0), .int (nI j)] : List Value).toArray below meth c H locs 0 0 (MQ below (va_Qv (S := (Nat → Int32)) (fun u => u = mqspread n F T ac j Ne) (fx_B (dC, dI) classes (fq_ty cI cA cZ) A (fun u => wM c0 c1 c2 c3 c4 c5 c6 y cI cZ n ar gl lo pg ca ac hw K F T Ln Wy Fo Tk u ++ rest)) A) ([.ref (y 0), .int (nI j)] : List Value).toArray s 0 0 A) (F0 m 32 ls []) := by
    intro d
    induction d with
    | zero =>
      intro i Ne' H locs ls hdi hq hP hD hS hl
      have e0 : i = n := by omega
      refine lv_iload_n hx hb dX2_spread_32 rfl (lv_at hl 2 rfl) ?_
      refine lv_aload_n hx hb dX2_spread_33 rfl (lv_at hl 0 rfl) ?_
      refine va_get (D := (dC, dI)) (ci := 2) (v := .int (nI n)) (C := RX2) (T := TX2) (N := 16) hx hb hts inlX2 hown hK hP 7 rfl rfl 0 (by decide) (hts _ km_51) (fun _ h9 => h9) rfl dX2_spread_34 ?_
      refine lv_icmp_ge (tgt := 106) hx hb dX2_spread_37 (by decide) (fun c_37 => ?_) (fun c_37 => ?_)
      · exact fx_vret hx hb hr hlocks hK hS dX2_spread_106 Ne' (hq) hP hD
      · exact absurd (nI_le (by omega) (by omega)) c_37
    | succ d ih =>
      intro i Ne' H locs ls hdi hq hP hD hS hl
      have hi : i < n := by omega
      have K42 : ∀ (d2 k : Nat) (Ne'' : Nat → Int32) (H : Heap) (locs : List Loc) (ls : Array Slot), d2 + k = ac → (mqnear1 F T d2 k Ne'' = mqnear1 F T ac 0 Ne') → va_P (dC, dI) classes (wM c0 c1 c2 c3 c4 c5 c6 y cI cZ n ar gl lo pg ca ac hw K F T Ln Wy Fo Tk Ne'' ++ rest) H → va_D A (wM c0 c1 c2 c3 c4 c5 c6 y cI cZ n ar gl lo pg ca ac hw K F T Ln Wy Fo Tk Ne'' ++ rest) → va_S A s.heap H locs → lv_has ls 4 [(0, .ref (y 0)), (1, .int (nI j)), (2, .int (nI i)), (3, .int (nI k))] → W p l e (headSpec (Cond.code yX2_spread cX2_spread 4 none :: wsL_law) ({ frames := 0, cells := 0, slots := 0, locals := 0 } : Room)).room s m ([.ref (y 0), .int (nI j)] : List Value).toArray below meth c H locs 0 0 (MQ below (va_Qv (S := (Nat → Int32)) (fun u => u = mqspread n F T ac j Ne) (fx_B (dC, dI) classes (fq_ty cI cA cZ) A (fun u => wM c0 c1 c2 c3 c4 c5 c6 y cI cZ n ar gl lo pg ca ac hw K F T Ln Wy Fo Tk u ++ rest)) A) ([.ref (y 0), .int (nI j)] : List Value).toArray s 0 0 A) (F0 m 42 ls []) := by
        intro d2
        induction d2 with
        | zero =>
          intro k Ne'' H locs ls hdk hq2 hP hD hS hl
          have e0 : k = ac := by omega
          refine lv_iload_n hx hb dX2_spread_42 rfl (lv_at hl 3 rfl) ?_
          refine lv_aload_n hx hb dX2_spread_43 rfl (lv_at hl 0 rfl) ?_
          refine va_get (D := (dC, dI)) (ci := 2) (v := .int (nI ac)) (C := RX2) (T := TX2) (N := 16) hx hb hts inlX2 hown hK hP 7 rfl rfl 7 (by decide) (hts _ km_210) (fun _ h9 => h9) rfl dX2_spread_44 ?_
          refine lv_icmp_ge (tgt := 100) hx hb dX2_spread_47 (by decide) (fun c_47 => ?_) (fun c_47 => ?_)
          · refine lv_iinc (v := nI (i + 1)) (lv' := [(2, .int (nI (i + 1))), (0, .ref (y 0)), (1, .int (nI j)), (3, .int (nI k))]) hx hb dX2_spread_100 hl (k := 2) rfl (nI_1 i) (by decide) rfl (fun ls hl => ?_)
            refine lv_goto (tgt := 32) hx hb dX2_spread_103 (by decide) ?_
            exact ih (i + 1) Ne'' H locs ls (by omega) (by rw [← hq, mqnear_s, ← hq2]; rfl) hP hD hS (lv_sub hl [1, 2, 0] rfl)
          · exact absurd (nI_le (by omega) (by omega)) c_47
        | succ d2 ih2 =>
          intro k Ne'' H locs ls hdk hq2 hP hD hS hl
          have hk : k < ac := by omega
          obtain ⟨⟨u0, hu0, eF⟩, v0, hv0, eT⟩ := hnet k hk
          refine lv_iload_n hx hb dX2_spread_42 rfl (lv_at hl 3 rfl) ?_
          refine lv_aload_n hx hb dX2_spread_43 rfl (lv_at hl 0 rfl) ?_
          refine va_get (D := (dC, dI)) (ci := 2) (v := .int (nI ac)) (C := RX2) (T := TX2) (N := 16) hx hb hts inlX2 hown hK hP 7 rfl rfl 7 (by decide) (hts _ km_210) (fun _ h9 => h9) rfl dX2_spread_44 ?_
          refine lv_icmp_ge (tgt := 100) hx hb dX2_spread_47 (by decide) (fun c_47 => ?_) (fun c_47 => ?_)
          · exact absurd c_47 (nI_ge hk (by omega))
          · refine lv_aload_n hx hb dX2_spread_50 rfl (lv_at hl 0 rfl) ?_
            refine va_get (D := (dC, dI)) (ci := 2) (v := .ref (y 8)) (C := RX2) (T := TX2) (N := 16) hx hb hts inlX2 hown hK hP 7 rfl rfl 15 (by decide) (hts _ km_50) (fun _ h9 => h9) rfl dX2_spread_51 ?_
            refine lv_aload_n hx hb dX2_spread_54 rfl (lv_at hl 0 rfl) ?_
            refine va_get (D := (dC, dI)) (ci := 2) (v := .ref (y 3)) (C := RX2) (T := TX2) (N := 16) hx hb hts inlX2 hown hK hP 7 rfl rfl 9 (by decide) (hts _ km_44) (fun _ h9 => h9) rfl dX2_spread_55 ?_
            refine lv_iload_n hx hb dX2_spread_58 rfl (lv_at hl 3 rfl) ?_
            refine fx_ald hx hb hK hP 10 0 rfl rfl k rfl (by omega) (by decide) dX2_spread_59 ?_
            refine lv_aload_n hx hb dX2_spread_60 rfl (lv_at hl 0 rfl) ?_
            refine va_get (D := (dC, dI)) (ci := 2) (v := .ref (y 8)) (C := RX2) (T := TX2) (N := 16) hx hb hts inlX2 hown hK hP 7 rfl rfl 15 (by decide) (hts _ km_50) (fun _ h9 => h9) rfl dX2_spread_61 ?_
            refine lv_aload_n hx hb dX2_spread_64 rfl (lv_at hl 0 rfl) ?_
            refine va_get (D := (dC, dI)) (ci := 2) (v := .ref (y 3)) (C := RX2) (T := TX2) (N := 16) hx hb hts inlX2 hown hK hP 7 rfl rfl 9 (by decide) (hts _ km_44) (fun _ h9 => h9) rfl dX2_spread_65 ?_
            refine lv_iload_n hx hb dX2_spread_68 rfl (lv_at hl 3 rfl) ?_
            refine fx_ald hx hb hK hP 10 0 rfl rfl k rfl (by omega) (by decide) dX2_spread_69 ?_
            refine fx_zald hx hb hK hP 15 2 rfl rfl v0 eT (by omega) (by decide) dX2_spread_70 ?_
            refine lv_if_ne (tgt := 88) hx hb dX2_spread_71 (by decide) (fun c_71 => ?_) (fun c_71 => ?_)
            · refine lv_iconst (v := 1) hx hb dX2_spread_88 (by decide) ?_
              refine lv_goto (tgt := 93) hx hb dX2_spread_89 (by decide) ?_
              refine fx_zast hx hb hK hP hD hS 15 2 rfl rfl v0 eT (by omega) (by decide) rfl dX2_spread_93 (fun H locs hP hD hS => ?_)
              have hP : va_P (dC, dI) classes (wM c0 c1 c2 c3 c4 c5 c6 y cI cZ n ar gl lo pg ca ac hw K F T Ln Wy Fo Tk (upd Ne'' v0 1) ++ rest) H := hP
              have hD : va_D A (wM c0 c1 c2 c3 c4 c5 c6 y cI cZ n ar gl lo pg ca ac hw K F T Ln Wy Fo Tk (upd Ne'' v0 1) ++ rest) := hD
              refine lv_iinc (v := nI (k + 1)) (lv' := [(3, .int (nI (k + 1))), (0, .ref (y 0)), (1, .int (nI j)), (2, .int (nI i))]) hx hb dX2_spread_94 hl (k := 3) rfl (nI_1 k) (by decide) rfl (fun ls hl => ?_)
              refine lv_goto (tgt := 42) hx hb dX2_spread_97 (by decide) ?_
              exact ih2 (k + 1) (upd Ne'' v0 1) H locs ls (by omega) (by rw [← hq2, mqnear1_s, eT, eF, fqn_nI (by omega), fqn_nI (by omega), if_neg (fun h => c_71 h.1)]) hP hD hS (lv_sub hl [1, 2, 3, 0] rfl)
            · refine lv_aload_n hx hb dX2_spread_74 rfl (lv_at hl 0 rfl) ?_
              refine va_get (D := (dC, dI)) (ci := 2) (v := .ref (y 8)) (C := RX2) (T := TX2) (N := 16) hx hb hts inlX2 hown hK hP 7 rfl rfl 15 (by decide) (hts _ km_50) (fun _ h9 => h9) rfl dX2_spread_75 ?_
              refine lv_aload_n hx hb dX2_spread_78 rfl (lv_at hl 0 rfl) ?_
              refine va_get (D := (dC, dI)) (ci := 2) (v := .ref (y 2)) (C := RX2) (T := TX2) (N := 16) hx hb hts inlX2 hown hK hP 7 rfl rfl 8 (by decide) (hts _ km_43) (fun _ h9 => h9) rfl dX2_spread_79 ?_
              refine lv_iload_n hx hb dX2_spread_82 rfl (lv_at hl 3 rfl) ?_
              refine fx_ald hx hb hK hP 9 0 rfl rfl k rfl (by omega) (by decide) dX2_spread_83 ?_
              refine fx_zald hx hb hK hP 15 2 rfl rfl u0 eF (by omega) (by decide) dX2_spread_84 ?_
              refine lv_if_eq (tgt := 92) hx hb dX2_spread_85 (by decide) (fun c_85 => ?_) (fun c_85 => ?_)
              · refine lv_iconst (v := 0) hx hb dX2_spread_92 (by decide) ?_
                refine fx_zast hx hb hK hP hD hS 15 2 rfl rfl v0 eT (by omega) (by decide) rfl dX2_spread_93 (fun H locs hP hD hS => ?_)
                have hP : va_P (dC, dI) classes (wM c0 c1 c2 c3 c4 c5 c6 y cI cZ n ar gl lo pg ca ac hw K F T Ln Wy Fo Tk (upd Ne'' v0 0) ++ rest) H := hP
                have hD : va_D A (wM c0 c1 c2 c3 c4 c5 c6 y cI cZ n ar gl lo pg ca ac hw K F T Ln Wy Fo Tk (upd Ne'' v0 0) ++ rest) := hD
                refine lv_iinc (v := nI (k + 1)) (lv' := [(3, .int (nI (k + 1))), (0, .ref (y 0)), (1, .int (nI j)), (2, .int (nI i))]) hx hb dX2_spread_94 hl (k := 3) rfl (nI_1 k) (by decide) rfl (fun ls hl => ?_)
                refine lv_goto (tgt := 42) hx hb dX2_spread_97 (by decide) ?_
                exact ih2 (k + 1) (upd Ne'' v0 0) H locs ls (by omega) (by rw [← hq2, mqnear1_s, eT, eF, fqn_nI (by omega), fqn_nI (by omega), if_pos ⟨c_71, c_85⟩]) hP hD hS (lv_sub hl [1, 2, 3, 0] rfl)
              · refine lv_iconst (v := 1) hx hb dX2_spread_88 (by decide) ?_
                refine lv_goto (tgt := 93) hx hb dX2_spread_89 (by decide) ?_
                refine fx_zast hx hb hK hP hD hS 15 2 rfl rfl v0 eT (by omega) (by decide) rfl dX2_spread_93 (fun H locs hP hD hS => ?_)
                have hP : va_P (dC, dI) classes (wM c0 c1 c2 c3 c4 c5 c6 y cI cZ n ar gl lo pg ca ac hw K F T Ln Wy Fo Tk (upd Ne'' v0 1) ++ rest) H := hP
                have hD : va_D A (wM c0 c1 c2 c3 c4 c5 c6 y cI cZ n ar gl lo pg ca ac hw K F T Ln Wy Fo Tk (upd Ne'' v0 1) ++ rest) := hD
                refine lv_iinc (v := nI (k + 1)) (lv' := [(3, .int (nI (k + 1))), (0, .ref (y 0)), (1, .int (nI j)), (2, .int (nI i))]) hx hb dX2_spread_94 hl (k := 3) rfl (nI_1 k) (by decide) rfl (fun ls hl => ?_)
                refine lv_goto (tgt := 42) hx hb dX2_spread_97 (by decide) ?_
                exact ih2 (k + 1) (upd Ne'' v0 1) H locs ls (by omega) (by rw [← hq2, mqnear1_s, eT, eF, fqn_nI (by omega), fqn_nI (by omega), if_neg (fun h => c_85 h.2)]) hP hD hS (lv_sub hl [1, 2, 3, 0] rfl)
      refine lv_iload_n hx hb dX2_spread_32 rfl (lv_at hl 2 rfl) ?_
      refine lv_aload_n hx hb dX2_spread_33 rfl (lv_at hl 0 rfl) ?_
      refine va_get (D := (dC, dI)) (ci := 2) (v := .int (nI n)) (C := RX2) (T := TX2) (N := 16) hx hb hts inlX2 hown hK hP 7 rfl rfl 0 (by decide) (hts _ km_51) (fun _ h9 => h9) rfl dX2_spread_34 ?_
      refine lv_icmp_ge (tgt := 106) hx hb dX2_spread_37 (by decide) (fun c_37 => ?_) (fun c_37 => ?_)
      · exact absurd c_37 (nI_ge hi hn31)
      · refine lv_iconst (v := 0) hx hb dX2_spread_40 (by decide) ?_
        refine lv_istore_n (lv' := [(3, .int 0), (0, .ref (y 0)), (1, .int (nI j)), (2, .int (nI i))]) hx hb dX2_spread_41 rfl hl (by decide) rfl (fun ls hl => ?_)
        exact K42 ac 0 Ne' H locs ls rfl rfl hP hD hS (lv_sub hl [1, 2, 3, 0] rfl)
  have K2 : ∀ (d i : Nat) (H : Heap) (locs : List Loc) (ls : Array Slot), d + i = 40 → va_P (dC, dI) classes (wM c0 c1 c2 c3 c4 c5 c6 y cI cZ n ar gl lo pg ca ac hw K F T Ln Wy Fo Tk (fun k => if k < i then (if k = j then 1 else 0) else Ne k) ++ rest) H → va_D A (wM c0 c1 c2 c3 c4 c5 c6 y cI cZ n ar gl lo pg ca ac hw K F T Ln Wy Fo Tk (fun k => if k < i then (if k = j then 1 else 0) else Ne k) ++ rest) → va_S A s.heap H locs → lv_has ls 4 [(0, .ref (y 0)), (1, .int (nI j)), (2, .int (nI i))] → W p l e (headSpec (Cond.code yX2_spread cX2_spread 4 none :: wsL_law) ({ frames := 0, cells := 0, slots := 0, locals := 0 } : Room)).room s m ([.ref (y 0), .int (nI j)] : List Value).toArray below meth c H locs 0 0 (MQ below (va_Qv (S := (Nat → Int32)) (fun u => u = mqspread n F T ac j Ne) (fx_B (dC, dI) classes (fq_ty cI cA cZ) A (fun u => wM c0 c1 c2 c3 c4 c5 c6 y cI cZ n ar gl lo pg ca ac hw K F T Ln Wy Fo Tk u ++ rest)) A) ([.ref (y 0), .int (nI j)] : List Value).toArray s 0 0 A) (F0 m 2 ls []) := by
    intro d
    induction d with
    | zero =>
      intro i  H locs ls hdi  hP hD hS hl
      have e0 : i = 40 := by omega
      subst e0
      refine lv_iload_n hx hb dX2_spread_2 rfl (lv_at hl 2 rfl) ?_
      refine lv_bipush (v := 40) hx hb dX2_spread_3 (by decide) ?_
      refine lv_icmp_ge (tgt := 30) hx hb dX2_spread_5 (by decide) (fun c_5 => ?_) (fun c_5 => ?_)
      · refine lv_iconst (v := 0) hx hb dX2_spread_30 (by decide) ?_
        refine lv_istore_n (lv' := [(2, .int 0), (0, .ref (y 0)), (1, .int (nI j))]) hx hb dX2_spread_31 rfl hl (by decide) rfl (fun ls hl => ?_)
        exact K32 n 0 (mqstart j Ne) H locs ls rfl rfl hP hD hS (lv_sub hl [1, 2, 0] rfl)
      · exact absurd (Int32.le_refl _) c_5
    | succ d ih =>
      intro i  H locs ls hdi  hP hD hS hl
      have hi : i < 40 := by omega
      refine lv_iload_n hx hb dX2_spread_2 rfl (lv_at hl 2 rfl) ?_
      refine lv_bipush (v := 40) hx hb dX2_spread_3 (by decide) ?_
      refine lv_icmp_ge (tgt := 30) hx hb dX2_spread_5 (by decide) (fun c_5 => ?_) (fun c_5 => ?_)
      · exact absurd (show nI 40 ≤ nI i from c_5) (nI_ge hi (by decide))
      · refine lv_aload_n hx hb dX2_spread_8 rfl (lv_at hl 0 rfl) ?_
        refine va_get (D := (dC, dI)) (ci := 2) (v := .ref (y 8)) (C := RX2) (T := TX2) (N := 16) hx hb hts inlX2 hown hK hP 7 rfl rfl 15 (by decide) (hts _ km_50) (fun _ h9 => h9) rfl dX2_spread_9 ?_
        refine lv_iload_n hx hb dX2_spread_12 rfl (lv_at hl 2 rfl) ?_
        refine lv_iload_n hx hb dX2_spread_13 rfl (lv_at hl 2 rfl) ?_
        refine lv_iload_n hx hb dX2_spread_14 rfl (lv_at hl 1 rfl) ?_
        refine lv_icmp_ne (tgt := 22) hx hb dX2_spread_15 (by decide) (fun c_15 => ?_) (fun c_15 => ?_)
        · refine lv_iconst (v := 0) hx hb dX2_spread_22 (by decide) ?_
          refine fx_zast hx hb hK hP hD hS 15 2 rfl rfl i rfl (by omega) (by decide) rfl dX2_spread_23 (fun H locs hP hD hS => ?_)
          have hP : va_P (dC, dI) classes (wM c0 c1 c2 c3 c4 c5 c6 y cI cZ n ar gl lo pg ca ac hw K F T Ln Wy Fo Tk (upd (fun k => if k < i then (if k = j then 1 else 0) else Ne k) i 0) ++ rest) H := hP
          have hD : va_D A (wM c0 c1 c2 c3 c4 c5 c6 y cI cZ n ar gl lo pg ca ac hw K F T Ln Wy Fo Tk (upd (fun k => if k < i then (if k = j then 1 else 0) else Ne k) i 0) ++ rest) := hD
          refine lv_iinc (v := nI (i + 1)) (lv' := [(2, .int (nI (i + 1))), (0, .ref (y 0)), (1, .int (nI j))]) hx hb dX2_spread_24 hl (k := 2) rfl (nI_1 i) (by decide) rfl (fun ls hl => ?_)
          refine lv_goto (tgt := 2) hx hb dX2_spread_27 (by decide) ?_
          rw [mq_starts ((if_neg (fun h => c_15 (by rw [h]))).symm)] at hP hD
          exact ih (i + 1) H locs ls (by omega) hP hD hS (lv_sub hl [1, 2, 0] rfl)
        · refine lv_iconst (v := 1) hx hb dX2_spread_18 (by decide) ?_
          refine lv_goto (tgt := 23) hx hb dX2_spread_19 (by decide) ?_
          refine fx_zast hx hb hK hP hD hS 15 2 rfl rfl i rfl (by omega) (by decide) rfl dX2_spread_23 (fun H locs hP hD hS => ?_)
          have hP : va_P (dC, dI) classes (wM c0 c1 c2 c3 c4 c5 c6 y cI cZ n ar gl lo pg ca ac hw K F T Ln Wy Fo Tk (upd (fun k => if k < i then (if k = j then 1 else 0) else Ne k) i 1) ++ rest) H := hP
          have hD : va_D A (wM c0 c1 c2 c3 c4 c5 c6 y cI cZ n ar gl lo pg ca ac hw K F T Ln Wy Fo Tk (upd (fun k => if k < i then (if k = j then 1 else 0) else Ne k) i 1) ++ rest) := hD
          refine lv_iinc (v := nI (i + 1)) (lv' := [(2, .int (nI (i + 1))), (0, .ref (y 0)), (1, .int (nI j))]) hx hb dX2_spread_24 hl (k := 2) rfl (nI_1 i) (by decide) rfl (fun ls hl => ?_)
          refine lv_goto (tgt := 2) hx hb dX2_spread_27 (by decide) ?_
          rw [mq_starts ((if_pos ((nI_eq (by omega) (by omega)).mp c_15)).symm)] at hP hD
          exact ih (i + 1) H locs ls (by omega) hP hD hS (lv_sub hl [1, 2, 0] rfl)
  refine lv_iconst (v := 0) hx hb dX2_spread_0 (by decide) ?_
  refine lv_istore_n (lv' := [(2, .int 0), (0, .ref (y 0)), (1, .int (nI j))]) hx hb dX2_spread_1 rfl hl (by decide) rfl (fun ls hl => ?_)
  exact K2 40 0 s.heap [] ls rfl (by rw [mq_start0]; exact hP) (by rw [mq_start0]; exact hD) hS (lv_sub hl [1, 2, 0] rfl)
set_option maxHeartbeats 4000000 in
set_option maxRecDepth 100000 in
theorem sq_distance (l : Launch) (dC : Nat → ClassId) (dI : Nat → Nat → Nat) (A : Nat → Prop) (cI cA cZ : ClassId) (rest : va_W) (c0 c1 c2 c3 c4 c5 c6 : Nat × va_E) (y : Nat → Nat) (n : Nat) (hn : n ≤ 40) (ar : Nat) (gl : Int32) (lo pg ca : Int32) (ac : Nat) (hw : Int32) (K F T Ln Wy Fo Tk Ne : Nat → Int32) (x : Int32)  : Met l yX2_distance (Cond.code yX2_distance cX2_distance 2 (some .int) :: wsL_law) ({ frames := 1, cells := 0, slots := 0, locals := 21 } : Room) (va_Pc [.ref (y 0), .int x] (fx_Pre (dC, dI) classes (fq_ty cI cA cZ) A (wM c0 c1 c2 c3 c4 c5 c6 y cI cZ n ar gl lo pg ca ac hw K F T Ln Wy Fo Tk Ne ++ rest))) (vp_Si (fun r => r = mqdist n hw Tk Wy x)) 0 0 (fun _ => False) := by
  refine Met.ofW (cc := cX2_distance) (maxL := 2) (ret := (some .int)) (by decide) rfl ?_
  intro p e s m args below meth c s₁ B0 hml hv
  obtain ⟨rfl, hA, hP, hK, hD, hN⟩ := hv
  have hx := B0.exec
  have hb := B0.bytes
  have hr := B0.returns
  have hts0 := atoms_spec (ws := (Cond.code yX2_distance cX2_distance 2 (some .int) :: wsL_law)) B0.pre
  have hts := fun w (h : w ∈ wsL_law) => hts0 w (List.mem_cons_of_mem _ h)
  have hown : s.vm.findClass RX2 = some m.cls := findClass_of_methodNamed B0.named
  have hlocks := B0.notSynchronized
  have hF : CallFix p m c cX2_distance 2 s ([.ref (y 0), .int x] : List Value).toArray wsL_law RX2 := ⟨hx, hb, hml, hown, hts⟩
  have hS : va_S A s.heap s.heap [] := va_S.rf
  have hl := lv_entry ([.ref (y 0), .int x]) (n := 2) (Nat.le_of_ble_eq_true rfl)
  rw [lg_entry_eq]
  generalize (lg_sl ([.ref (y 0), .int x]) ++ List.replicate (2 - (lg_sl ([.ref (y 0), .int x])).length) Slot.unset).toArray = ls at hl ⊢
  have hl : lv_has ls 2 [(0, .ref (y 0)), (1, .int x)] := hl
  have hn31 : n < 2 ^ 31 := by omega
  refine lv_aload_n hx hb dX2_distance_0 rfl (lv_at hl 0 rfl) ?_
  refine va_get (D := (dC, dI)) (ci := 2) (v := .int hw) (C := RX2) (T := TX2) (N := 16) hx hb hts inlX2 hown hK hP 7 rfl rfl 11 (by decide) (hts _ km_211) (fun _ h9 => h9) rfl dX2_distance_1 ?_
  refine lv_if_eq (tgt := 33) hx hb dX2_distance_4 (by decide) (fun c_4 => ?_) (fun c_4 => ?_)
  · refine lv_iconst (v := (-1)) hx hb dX2_distance_33 (by decide) ?_
    exact fx_sret hx hb hr hlocks dX2_distance_34 (by unfold mqdist; rw [if_pos c_4])
  · refine lv_aload_n hx hb dX2_distance_7 rfl (lv_at hl 0 rfl) ?_
    refine lv_iload_n hx hb dX2_distance_8 rfl (lv_at hl 1 rfl) ?_
    refine fx_Vs (rest := []) (sq_isItem l dC dI A cI cA cZ rest c0 c1 c2 c3 c4 c5 c6 y n hn ar gl lo pg ca ac hw K F T Ln Wy Fo Tk Ne x) hF (cw_RX2_51 hts ⟨Nat.le_of_ble_eq_true rfl, Nat.le_of_ble_eq_true rfl⟩) hA hS hP hK hD hN 7 2 rfl rfl rfl hl.1 rfl (Nat.le_of_ble_eq_true rfl) dX2_distance_9 ⟨Nat.le_of_ble_eq_true rfl, Nat.le_of_ble_eq_true rfl⟩ (fun r h => ?_)
    rcases h with ⟨rfl, ⟨j, hj, rfl⟩⟩ | ⟨rfl, h⟩
    · refine lv_if_eq (tgt := 33) hx hb dX2_distance_12 (by decide) (fun h9 => absurd h9 (by decide)) (fun _ => ?_)
      refine lv_aload_n hx hb dX2_distance_15 rfl (lv_at hl 0 rfl) ?_
      refine va_get (D := (dC, dI)) (ci := 2) (v := .ref (y 7)) (C := RX2) (T := TX2) (N := 16) hx hb hts inlX2 hown hK hP 7 rfl rfl 14 (by decide) (hts _ km_49) (fun _ h9 => h9) rfl dX2_distance_16 ?_
      refine lv_iload_n hx hb dX2_distance_19 rfl (lv_at hl 1 rfl) ?_
      refine fx_zald hx hb hK hP 14 2 rfl rfl j rfl (by omega) (by decide) dX2_distance_20 ?_
      refine lv_if_eq (tgt := 33) hx hb dX2_distance_21 (by decide) (fun c_21 => ?_) (fun c_21 => ?_)
      · refine lv_iconst (v := (-1)) hx hb dX2_distance_33 (by decide) ?_
        exact fx_sret hx hb hr hlocks dX2_distance_34 (by unfold mqdist; rw [if_neg c_4, fqat_some hj hn31]; dsimp only; rw [if_pos c_21])
      · refine lv_aload_n hx hb dX2_distance_24 rfl (lv_at hl 0 rfl) ?_
        refine va_get (D := (dC, dI)) (ci := 2) (v := .ref (y 5)) (C := RX2) (T := TX2) (N := 16) hx hb hts inlX2 hown hK hP 7 rfl rfl 12 (by decide) (hts _ km_46) (fun _ h9 => h9) rfl dX2_distance_25 ?_
        refine lv_iload_n hx hb dX2_distance_28 rfl (lv_at hl 1 rfl) ?_
        refine fx_ald hx hb hK hP 12 0 rfl rfl j rfl (by omega) (by decide) dX2_distance_29 ?_
        refine lv_goto (tgt := 34) hx hb dX2_distance_30 (by decide) ?_
        exact fx_sret hx hb hr hlocks dX2_distance_34 (by unfold mqdist; rw [if_neg c_4, fqat_some hj hn31]; dsimp only; rw [if_neg c_21])
    · refine lv_if_eq (tgt := 33) hx hb dX2_distance_12 (by decide) (fun _ => ?_) (fun h9 => absurd h9 (by decide))
      refine lv_iconst (v := (-1)) hx hb dX2_distance_33 (by decide) ?_
      exact fx_sret hx hb hr hlocks dX2_distance_34 (by unfold mqdist; rw [if_neg c_4, fqat_none hn31 h])
set_option maxHeartbeats 4000000 in
set_option maxRecDepth 100000 in
theorem sq_before (l : Launch) (dC : Nat → ClassId) (dI : Nat → Nat → Nat) (A : Nat → Prop) (cI cA cZ : ClassId) (rest : va_W) (c0 c1 c2 c3 c4 c5 c6 : Nat × va_E) (y : Nat → Nat) (n : Nat) (hn : n ≤ 40) (ar : Nat) (gl : Int32) (lo pg ca : Int32) (ac : Nat) (hw : Int32) (K F T Ln Wy Fo Tk Ne : Nat → Int32) (x : Int32)  : Met l yX2_before (Cond.code yX2_before cX2_before 2 (some .int) :: wsL_law) ({ frames := 1, cells := 0, slots := 0, locals := 21 } : Room) (va_Pc [.ref (y 0), .int x] (fx_Pre (dC, dI) classes (fq_ty cI cA cZ) A (wM c0 c1 c2 c3 c4 c5 c6 y cI cZ n ar gl lo pg ca ac hw K F T Ln Wy Fo Tk Ne ++ rest))) (vp_Si (fun r => r = mqdist n hw Tk Fo x)) 0 0 (fun _ => False) := by
  refine Met.ofW (cc := cX2_before) (maxL := 2) (ret := (some .int)) (by decide) rfl ?_
  intro p e s m args below meth c s₁ B0 hml hv
  obtain ⟨rfl, hA, hP, hK, hD, hN⟩ := hv
  have hx := B0.exec
  have hb := B0.bytes
  have hr := B0.returns
  have hts0 := atoms_spec (ws := (Cond.code yX2_before cX2_before 2 (some .int) :: wsL_law)) B0.pre
  have hts := fun w (h : w ∈ wsL_law) => hts0 w (List.mem_cons_of_mem _ h)
  have hown : s.vm.findClass RX2 = some m.cls := findClass_of_methodNamed B0.named
  have hlocks := B0.notSynchronized
  have hF : CallFix p m c cX2_before 2 s ([.ref (y 0), .int x] : List Value).toArray wsL_law RX2 := ⟨hx, hb, hml, hown, hts⟩
  have hS : va_S A s.heap s.heap [] := va_S.rf
  have hl := lv_entry ([.ref (y 0), .int x]) (n := 2) (Nat.le_of_ble_eq_true rfl)
  rw [lg_entry_eq]
  generalize (lg_sl ([.ref (y 0), .int x]) ++ List.replicate (2 - (lg_sl ([.ref (y 0), .int x])).length) Slot.unset).toArray = ls at hl ⊢
  have hl : lv_has ls 2 [(0, .ref (y 0)), (1, .int x)] := hl
  have hn31 : n < 2 ^ 31 := by omega
  refine lv_aload_n hx hb dX2_before_0 rfl (lv_at hl 0 rfl) ?_
  refine va_get (D := (dC, dI)) (ci := 2) (v := .int hw) (C := RX2) (T := TX2) (N := 16) hx hb hts inlX2 hown hK hP 7 rfl rfl 11 (by decide) (hts _ km_211) (fun _ h9 => h9) rfl dX2_before_1 ?_
  refine lv_if_eq (tgt := 33) hx hb dX2_before_4 (by decide) (fun c_4 => ?_) (fun c_4 => ?_)
  · refine lv_iconst (v := (-1)) hx hb dX2_before_33 (by decide) ?_
    exact fx_sret hx hb hr hlocks dX2_before_34 (by unfold mqdist; rw [if_pos c_4])
  · refine lv_aload_n hx hb dX2_before_7 rfl (lv_at hl 0 rfl) ?_
    refine lv_iload_n hx hb dX2_before_8 rfl (lv_at hl 1 rfl) ?_
    refine fx_Vs (rest := []) (sq_isItem l dC dI A cI cA cZ rest c0 c1 c2 c3 c4 c5 c6 y n hn ar gl lo pg ca ac hw K F T Ln Wy Fo Tk Ne x) hF (cw_RX2_51 hts ⟨Nat.le_of_ble_eq_true rfl, Nat.le_of_ble_eq_true rfl⟩) hA hS hP hK hD hN 7 2 rfl rfl rfl hl.1 rfl (Nat.le_of_ble_eq_true rfl) dX2_before_9 ⟨Nat.le_of_ble_eq_true rfl, Nat.le_of_ble_eq_true rfl⟩ (fun r h => ?_)
    rcases h with ⟨rfl, ⟨j, hj, rfl⟩⟩ | ⟨rfl, h⟩
    · refine lv_if_eq (tgt := 33) hx hb dX2_before_12 (by decide) (fun h9 => absurd h9 (by decide)) (fun _ => ?_)
      refine lv_aload_n hx hb dX2_before_15 rfl (lv_at hl 0 rfl) ?_
      refine va_get (D := (dC, dI)) (ci := 2) (v := .ref (y 7)) (C := RX2) (T := TX2) (N := 16) hx hb hts inlX2 hown hK hP 7 rfl rfl 14 (by decide) (hts _ km_49) (fun _ h9 => h9) rfl dX2_before_16 ?_
      refine lv_iload_n hx hb dX2_before_19 rfl (lv_at hl 1 rfl) ?_
      refine fx_zald hx hb hK hP 14 2 rfl rfl j rfl (by omega) (by decide) dX2_before_20 ?_
      refine lv_if_eq (tgt := 33) hx hb dX2_before_21 (by decide) (fun c_21 => ?_) (fun c_21 => ?_)
      · refine lv_iconst (v := (-1)) hx hb dX2_before_33 (by decide) ?_
        exact fx_sret hx hb hr hlocks dX2_before_34 (by unfold mqdist; rw [if_neg c_4, fqat_some hj hn31]; dsimp only; rw [if_pos c_21])
      · refine lv_aload_n hx hb dX2_before_24 rfl (lv_at hl 0 rfl) ?_
        refine va_get (D := (dC, dI)) (ci := 2) (v := .ref (y 6)) (C := RX2) (T := TX2) (N := 16) hx hb hts inlX2 hown hK hP 7 rfl rfl 13 (by decide) (hts _ km_47) (fun _ h9 => h9) rfl dX2_before_25 ?_
        refine lv_iload_n hx hb dX2_before_28 rfl (lv_at hl 1 rfl) ?_
        refine fx_ald hx hb hK hP 13 0 rfl rfl j rfl (by omega) (by decide) dX2_before_29 ?_
        refine lv_goto (tgt := 34) hx hb dX2_before_30 (by decide) ?_
        exact fx_sret hx hb hr hlocks dX2_before_34 (by unfold mqdist; rw [if_neg c_4, fqat_some hj hn31]; dsimp only; rw [if_neg c_21])
    · refine lv_if_eq (tgt := 33) hx hb dX2_before_12 (by decide) (fun _ => ?_) (fun h9 => absurd h9 (by decide))
      refine lv_iconst (v := (-1)) hx hb dX2_before_33 (by decide) ?_
      exact fx_sret hx hb hr hlocks dX2_before_34 (by unfold mqdist; rw [if_neg c_4, fqat_none hn31 h])
set_option maxHeartbeats 4000000 in
set_option maxRecDepth 100000 in
theorem sq_sound (l : Launch) (dC : Nat → ClassId) (dI : Nat → Nat → Nat) (A : Nat → Prop) (cI cA cZ : ClassId) (rest : va_W) (c0 c1 c2 c3 c4 c5 c6 : Nat × va_E) (y : Nat → Nat) (n : Nat) (hn : n ≤ 40) (ar : Nat) (gl : Int32) (lo pg ca : Int32) (ac : Nat) (hw : Int32) (K F T Ln Wy Fo Tk Ne : Nat → Int32)  : Met l yX2_sound (Cond.code yX2_sound cX2_sound 1 (some .boolean) :: wsL_law) ({ frames := 0, cells := 0, slots := 0, locals := 0 } : Room) (va_Pc [.ref (y 0)] (fx_Pre (dC, dI) classes (fq_ty cI cA cZ) A (wM c0 c1 c2 c3 c4 c5 c6 y cI cZ n ar gl lo pg ca ac hw K F T Ln Wy Fo Tk Ne ++ rest))) (vp_Si (fun r => r = 1)) 0 0 (fun _ => False) := by
  refine Met.ofW (cc := cX2_sound) (maxL := 1) (ret := (some .boolean)) (by decide) rfl ?_
  intro p e s m args below meth c s₁ B0 hml hv
  obtain ⟨rfl, hA, hP, hK, hD, hN⟩ := hv
  have hx := B0.exec
  have hb := B0.bytes
  have hr := B0.returns
  have hts0 := atoms_spec (ws := (Cond.code yX2_sound cX2_sound 1 (some .boolean) :: wsL_law)) B0.pre
  have hts := fun w (h : w ∈ wsL_law) => hts0 w (List.mem_cons_of_mem _ h)
  have hown : s.vm.findClass RX2 = some m.cls := findClass_of_methodNamed B0.named
  have hlocks := B0.notSynchronized
  have hF : CallFix p m c cX2_sound 1 s ([.ref (y 0)] : List Value).toArray wsL_law RX2 := ⟨hx, hb, hml, hown, hts⟩
  have hS : va_S A s.heap s.heap [] := va_S.rf
  have hl := lv_entry ([.ref (y 0)]) (n := 1) (Nat.le_of_ble_eq_true rfl)
  rw [lg_entry_eq]
  generalize (lg_sl ([.ref (y 0)]) ++ List.replicate (1 - (lg_sl ([.ref (y 0)])).length) Slot.unset).toArray = ls at hl ⊢
  have hl : lv_has ls 1 [(0, .ref (y 0))] := hl
  have hn31 : n < 2 ^ 31 := by omega
  refine lv_iconst (v := 1) hx hb dX2_sound_0 (by decide) ?_
  exact fx_bret hx hb hr (Or.inr rfl) hlocks dX2_sound_1 (rfl)
set_option maxHeartbeats 4000000 in
set_option maxRecDepth 100000 in
theorem sq_count (l : Launch) (dC : Nat → ClassId) (dI : Nat → Nat → Nat) (A : Nat → Prop) (cI cA cZ : ClassId) (rest : va_W) (c0 c1 c2 c3 c4 c5 c6 : Nat × va_E) (y : Nat → Nat) (n : Nat) (hn : n ≤ 40) (ar : Nat) (gl : Int32) (lo pg ca : Int32) (ac : Nat) (hw : Int32) (K F T Ln Wy Fo Tk Ne : Nat → Int32) (x : Int32)  : Met l yX2_count (Cond.code yX2_count cX2_count 2 (some .int) :: wsL_law) ({ frames := 0, cells := 0, slots := 0, locals := 0 } : Room) (va_Pc [.ref (y 0), .int x] (fx_Pre (dC, dI) classes (fq_ty cI cA cZ) A (wM c0 c1 c2 c3 c4 c5 c6 y cI cZ n ar gl lo pg ca ac hw K F T Ln Wy Fo Tk Ne ++ rest))) (vp_Si (fun r => r = fqcount n (nI ac) ca x)) 0 0 (fun _ => False) := by
  refine Met.ofW (cc := cX2_count) (maxL := 2) (ret := (some .int)) (by decide) rfl ?_
  intro p e s m args below meth c s₁ B0 hml hv
  obtain ⟨rfl, hA, hP, hK, hD, hN⟩ := hv
  have hx := B0.exec
  have hb := B0.bytes
  have hr := B0.returns
  have hts0 := atoms_spec (ws := (Cond.code yX2_count cX2_count 2 (some .int) :: wsL_law)) B0.pre
  have hts := fun w (h : w ∈ wsL_law) => hts0 w (List.mem_cons_of_mem _ h)
  have hown : s.vm.findClass RX2 = some m.cls := findClass_of_methodNamed B0.named
  have hlocks := B0.notSynchronized
  have hF : CallFix p m c cX2_count 2 s ([.ref (y 0), .int x] : List Value).toArray wsL_law RX2 := ⟨hx, hb, hml, hown, hts⟩
  have hS : va_S A s.heap s.heap [] := va_S.rf
  have hl := lv_entry ([.ref (y 0), .int x]) (n := 2) (Nat.le_of_ble_eq_true rfl)
  rw [lg_entry_eq]
  generalize (lg_sl ([.ref (y 0), .int x]) ++ List.replicate (2 - (lg_sl ([.ref (y 0), .int x])).length) Slot.unset).toArray = ls at hl ⊢
  have hl : lv_has ls 2 [(0, .ref (y 0)), (1, .int x)] := hl
  have hn31 : n < 2 ^ 31 := by omega
  refine lv_iload_n hx hb dX2_count_0 rfl (lv_at hl 1 rfl) ?_
  refine lv_if_ne (tgt := 11) hx hb dX2_count_1 (by decide) (fun c_1 => ?_) (fun c_1 => ?_)
  · refine lv_iload_n hx hb dX2_count_11 rfl (lv_at hl 1 rfl) ?_
    refine lv_iconst (v := 1) hx hb dX2_count_12 (by decide) ?_
    refine lv_icmp_ne (tgt := 23) hx hb dX2_count_13 (by decide) (fun c_13 => ?_) (fun c_13 => ?_)
    · refine lv_iload_n hx hb dX2_count_23 rfl (lv_at hl 1 rfl) ?_
      refine lv_iconst (v := 2) hx hb dX2_count_24 (by decide) ?_
      refine lv_icmp_ne (tgt := 35) hx hb dX2_count_25 (by decide) (fun c_25 => ?_) (fun c_25 => ?_)
      · refine lv_iconst (v := (-1)) hx hb dX2_count_35 (by decide) ?_
        exact fx_sret hx hb hr hlocks dX2_count_36 (by unfold fqcount; rw [if_neg c_1, if_neg c_13, if_neg c_25])
      · refine lv_aload_n hx hb dX2_count_28 rfl (lv_at hl 0 rfl) ?_
        refine va_get (D := (dC, dI)) (ci := 2) (v := .int ca) (C := RX2) (T := TX2) (N := 16) hx hb hts inlX2 hown hK hP 7 rfl rfl 6 (by decide) (hts _ km_97) (fun _ h9 => h9) rfl dX2_count_29 ?_
        refine lv_goto (tgt := 36) hx hb dX2_count_32 (by decide) ?_
        exact fx_sret hx hb hr hlocks dX2_count_36 (by unfold fqcount; rw [if_neg c_1, if_neg c_13, if_pos c_25])
    · refine lv_aload_n hx hb dX2_count_16 rfl (lv_at hl 0 rfl) ?_
      refine va_get (D := (dC, dI)) (ci := 2) (v := .int (nI ac)) (C := RX2) (T := TX2) (N := 16) hx hb hts inlX2 hown hK hP 7 rfl rfl 7 (by decide) (hts _ km_210) (fun _ h9 => h9) rfl dX2_count_17 ?_
      refine lv_goto (tgt := 36) hx hb dX2_count_20 (by decide) ?_
      exact fx_sret hx hb hr hlocks dX2_count_36 (by unfold fqcount; rw [if_neg c_1, if_pos c_13])
  · refine lv_aload_n hx hb dX2_count_4 rfl (lv_at hl 0 rfl) ?_
    refine va_get (D := (dC, dI)) (ci := 2) (v := .int (nI n)) (C := RX2) (T := TX2) (N := 16) hx hb hts inlX2 hown hK hP 7 rfl rfl 0 (by decide) (hts _ km_51) (fun _ h9 => h9) rfl dX2_count_5 ?_
    refine lv_goto (tgt := 36) hx hb dX2_count_8 (by decide) ?_
    exact fx_sret hx hb hr hlocks dX2_count_36 (by unfold fqcount; rw [if_pos c_1])
