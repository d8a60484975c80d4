theorem cw_RX2_45 {R : Room} {s : State} {args : Array Value} {rm : Room} (hts : ∀ w ∈ wsL_law, w.before args s = true) (hR : rm.frames + 1 ≤ R.frames ∧ 8 + (2 + 11) + rm.locals ≤ R.locals) : CallW R s args RX2 RX2 45 yX2_clear cX2_clear 2 none (Cond.code yX2_clear cX2_clear 2 none :: wsL_law) rm rm.cells rm.slots 0 := cwV 0 hts (km_app (km_four km_54 km_55 km_56 km_5) (km_in km_57)) rfl rfl rfl (by decide +kernel) hR
theorem cw_RX2_95 {R : Room} {s : State} {args : Array Value} {rm : Room} (hts : ∀ w ∈ wsL_law, w.before args s = true) (hR : rm.frames + 1 ≤ R.frames ∧ 8 + (4 + 11) + rm.locals ≤ R.locals) : CallW R s args RX2 RX2 95 yX2_spread cX2_spread 4 none (Cond.code yX2_spread cX2_spread 4 none :: wsL_law) rm rm.cells rm.slots 1 := cwV 1 hts (km_app (km_four km_254 km_255 km_256 km_5) (km_in km_257)) rfl rfl rfl (by decide +kernel) hR
theorem cw_RX2_83 {R : Room} {s : State} {args : Array Value} {rm : Room} (hts : ∀ w ∈ wsL_law, w.before args s = true) (hR : rm.frames + 1 ≤ R.frames ∧ 8 + (3 + 11) + rm.locals ≤ R.locals) : CallW R s args RX2 RX2 83 yX2_size cX2_size 3 (some .int) (Cond.code yX2_size cX2_size 3 (some .int) :: wsL_law) rm rm.cells rm.slots 0 := cwV 0 hts (km_app (km_four km_246 km_154 km_155 km_5) (km_in km_156)) rfl rfl rfl (by decide +kernel) hR
theorem cw_RX2_88 {R : Room} {s : State} {args : Array Value} {rm : Room} (hts : ∀ w ∈ wsL_law, w.before args s = true) (hR : rm.frames + 1 ≤ R.frames ∧ 8 + (4 + 11) + rm.locals ≤ R.locals) : CallW R s args RX2 RX2 88 yX2_pop cX2_pop 4 (some .int) (Cond.code yX2_pop cX2_pop 4 (some .int) :: wsL_law) rm rm.cells rm.slots 0 := cwV 0 hts (km_app (km_four km_247 km_138 km_139 km_5) (km_in km_140)) rfl rfl rfl (by decide +kernel) hR
theorem cw_RX2_91 {R : Room} {s : State} {args : Array Value} {rm : Room} (hts : ∀ w ∈ wsL_law, w.before args s = true) (hR : rm.frames + 1 ≤ R.frames ∧ 8 + (6 + 11) + rm.locals ≤ R.locals) : CallW R s args RX2 RX2 91 yX2_reach cX2_reach 6 none (Cond.code yX2_reach cX2_reach 6 none :: wsL_law) rm rm.cells rm.slots 3 := cwV 3 hts (km_app (km_four km_248 km_249 km_250 km_5) (km_in km_251)) rfl rfl rfl (by decide +kernel) hR
set_option maxHeartbeats 4000000 in
set_option maxRecDepth 100000 in
theorem sq_run (l : Launch) (dC : Nat → ClassId) (dI : Nat → Nat → Nat) (A : Nat → Prop) (cI cA cZ : ClassId) (rest : va_W) (c0 c1 c2 c3 c4 c5 c6 : Nat × va_E) (y : Nat → Nat) (n : Nat) (hn : n ≤ 40) (ar : Nat) (gl : Int32) (lo pg ca : Int32) (ac : Nat) (hw : Int32) (K F T Ln Wy Fo Tk Ne : Nat → Int32) (x : Int32) (hac : ac ≤ 300) (hnet : mqnet n ac F T) : Met l yX2_run (Cond.code yX2_run cX2_run 5 (some .int) :: wsL_law) ({ frames := 4, cells := 0, slots := 0, locals := 89 } : Room) (va_Pc [.ref (y 0), .int x] (fx_Pre (dC, dI) classes (fq_ty cI cA cZ) A (wM c0 c1 c2 c3 c4 c5 c6 y cI cZ n ar gl lo pg ca ac hw K F T Ln Wy Fo Tk Ne ++ rest))) (va_Qi (S := mqX) (fun r u => (r, u) = mqrun n F T Ln ac (((lo, pg, ca, K), Wy, Fo, Tk), Ne, hw) x) (fx_B (dC, dI) classes (fq_ty cI cA cZ) A (fun u : mqX => wM c0 c1 c2 c3 c4 c5 c6 y cI cZ n ar gl u.1.1.1 u.1.1.2.1 u.1.1.2.2.1 ac u.2.2 u.1.1.2.2.2 F T Ln u.1.2.1 u.1.2.2.1 u.1.2.2.2 u.2.1 ++ rest)) A) 0 0 A := by
  refine Met.ofW (cc := cX2_run) (maxL := 5) (ret := (some .int)) (by decide) rfl ?_
  intro p e s m args below meth c s₁ B0 hml hv
  obtain ⟨rfl, hA, hP, hK, hD, hN⟩ := hv
  have hx := B0.exec
  have hb := B0.bytes
  have hr := B0.returns
  have hts0 := atoms_spec (ws := (Cond.code yX2_run cX2_run 5 (some .int) :: wsL_law)) B0.pre
  have hts := fun w (h : w ∈ wsL_law) => hts0 w (List.mem_cons_of_mem _ h)
  have hown : s.vm.findClass RX2 = some m.cls := findClass_of_methodNamed B0.named
  have hlocks := B0.notSynchronized
  have hF : CallFix p m c cX2_run 5 s ([.ref (y 0), .int x] : List Value).toArray wsL_law RX2 := ⟨hx, hb, hml, hown, hts⟩
  have hS : va_S A s.heap s.heap [] := va_S.rf
  have hl := lv_entry ([.ref (y 0), .int x]) (n := 5) (Nat.le_of_ble_eq_true rfl)
  rw [lg_entry_eq]
  generalize (lg_sl ([.ref (y 0), .int x]) ++ List.replicate (5 - (lg_sl ([.ref (y 0), .int x])).length) Slot.unset).toArray = ls at hl ⊢
  have hl : lv_has ls 5 [(0, .ref (y 0)), (1, .int x)] := hl
  have hn31 : n < 2 ^ 31 := by omega
  refine lv_aload_n hx hb dX2_run_0 rfl (lv_at hl 0 rfl) ?_
  refine lv_iload_n hx hb dX2_run_1 rfl (lv_at hl 1 rfl) ?_
  refine fx_Vs (rest := []) (sq_isItem l dC dI A cI cA cZ rest c0 c1 c2 c3 c4 c5 c6 y n hn ar gl lo pg ca ac hw K F T Ln Wy Fo Tk Ne x) hF (cw_RX2_51 hts ⟨Nat.le_of_ble_eq_true rfl, Nat.le_of_ble_eq_true rfl⟩) hA hS hP hK hD hN 7 2 rfl rfl rfl hl.1 rfl (Nat.le_of_ble_eq_true rfl) dX2_run_2 ⟨Nat.le_of_ble_eq_true rfl, Nat.le_of_ble_eq_true rfl⟩ (fun r h => ?_)
  rcases h with ⟨rfl, ⟨j, hj, rfl⟩⟩ | ⟨rfl, h⟩
  · refine lv_if_ne (tgt := 10) hx hb dX2_run_5 (by decide) (fun _ => ?_) (fun h9 => absurd h9 (by decide))
    refine lv_aload_n hx hb dX2_run_10 rfl (lv_at hl 0 rfl) ?_
    refine fx_Vv (rest := []) (sq_clear l dC dI A cI cA cZ rest c0 c1 c2 c3 c4 c5 c6 y n hn ar gl lo pg ca ac hw K F T Ln Wy Fo Tk Ne) hF (cw_RX2_45 hts ⟨Nat.le_of_ble_eq_true rfl, Nat.le_of_ble_eq_true rfl⟩) hA hS hP hK hD hN 7 2 rfl rfl rfl hl.1 rfl (Nat.le_of_ble_eq_true rfl) dX2_run_11 ⟨Nat.le_of_ble_eq_true rfl, Nat.le_of_ble_eq_true rfl⟩ (fun u9 H locs h hP hD hS => ?_)
    subst h
    have hP : va_P (dC, dI) classes (wM c0 c1 c2 c3 c4 c5 c6 y cI cZ n ar gl 0 pg ca ac hw (fqfill 40 (-1) K) F T Ln Wy Fo Tk Ne ++ rest) H := hP
    have hD : va_D A (wM c0 c1 c2 c3 c4 c5 c6 y cI cZ n ar gl 0 pg ca ac hw (fqfill 40 (-1) K) F T Ln Wy Fo Tk Ne ++ rest) := hD
    have K177 : ∀ (lo' pg' ca' : Int32) (K' Wy' Fo' Tk' : Nat → Int32) (H : Heap) (locs : List Loc) (ls : Array Slot), ((lo', pg', ca', K'), Wy', Fo', Tk') = mqloop n F T Ln ac (n + 1) ((mqpush n (mqclear (lo, pg, ca, K)) (nI j) 0).2, Wy, fqfill 40 (-1) Fo, fqfill 40 0 Tk) → va_P (dC, dI) classes (wM c0 c1 c2 c3 c4 c5 c6 y cI cZ n ar gl lo' pg' ca' ac hw K' F T Ln Wy' Fo' Tk' Ne ++ rest) H → va_D A (wM c0 c1 c2 c3 c4 c5 c6 y cI cZ n ar gl lo' pg' ca' ac hw K' F T Ln Wy' Fo' Tk' Ne ++ rest) → va_S A s.heap H locs → lv_has ls 5 [(0, .ref (y 0)), (1, .int (nI j))] → W p l e (headSpec (Cond.code yX2_run cX2_run 5 (some .int) :: wsL_law) ({ frames := 4, cells := 0, slots := 0, locals := 89 } : Room)).room s m ([.ref (y 0), .int (nI j)] : List Value).toArray below meth c H locs 0 0 (MQ below (va_Qi (S := mqX) (fun r u => (r, u) = mqrun n F T Ln ac (((lo, pg, ca, K), Wy, Fo, Tk), Ne, hw) (nI j)) (fx_B (dC, dI) classes (fq_ty cI cA cZ) A (fun u : mqX => wM c0 c1 c2 c3 c4 c5 c6 y cI cZ n ar gl u.1.1.1 u.1.1.2.1 u.1.1.2.2.1 ac u.2.2 u.1.1.2.2.2 F T Ln u.1.2.1 u.1.2.2.1 u.1.2.2.2 u.2.1 ++ rest)) A) ([.ref (y 0), .int (nI j)] : List Value).toArray s 0 0 A) (F0 m 177 ls []) := by
      intro lo' pg' ca' K' Wy' Fo' Tk' H locs ls hq hP hD hS hl
      refine lv_aload_n hx hb dX2_run_177 rfl (lv_at hl 0 rfl) ?_
      refine lv_iload_n hx hb dX2_run_178 rfl (lv_at hl 1 rfl) ?_
      refine fx_Vv (rest := []) (sq_spread l dC dI A cI cA cZ rest c0 c1 c2 c3 c4 c5 c6 y n hn ar gl lo' pg' ca' ac hw K' F T Ln Wy' Fo' Tk' Ne j hj hac hnet) hF (cw_RX2_95 hts ⟨Nat.le_of_ble_eq_true rfl, Nat.le_of_ble_eq_true rfl⟩) hA hS hP hK hD hN 7 2 rfl rfl rfl hl.1 rfl (Nat.le_of_ble_eq_true rfl) dX2_run_179 ⟨Nat.le_of_ble_eq_true rfl, Nat.le_of_ble_eq_true rfl⟩ (fun u9 H locs hsp hP hD hS => ?_)
      have hP : va_P (dC, dI) classes (wM c0 c1 c2 c3 c4 c5 c6 y cI cZ n ar gl lo' pg' ca' ac hw K' F T Ln Wy' Fo' Tk' u9 ++ rest) H := hP
      have hD : va_D A (wM c0 c1 c2 c3 c4 c5 c6 y cI cZ n ar gl lo' pg' ca' ac hw K' F T Ln Wy' Fo' Tk' u9 ++ rest) := hD
      refine lv_aload_n hx hb dX2_run_182 rfl (lv_at hl 0 rfl) ?_
      refine lv_iconst (v := 1) hx hb dX2_run_183 (by decide) ?_
      refine va_put (D := (dC, dI)) (ci := 2) (v := .int 1) (ty := .boolean) (C := RX2) (T := TX2) (N := 16) hx hb hts inlX2 tyX2 tyX2_ok nmX2 hown hK hP hD hS 7 rfl rfl 11 (by decide) (hts _ km_211) (fun _ h9 => h9) rfl (by decide +kernel) rfl rfl (Nat.le_of_ble_eq_true rfl) dX2_run_184 (fun H locs hP hD hS => ?_)
      have hP : va_P (dC, dI) classes (wM c0 c1 c2 c3 c4 c5 c6 y cI cZ n ar gl lo' pg' ca' ac 1 K' F T Ln Wy' Fo' Tk' u9 ++ rest) H := hP
      have hD : va_D A (wM c0 c1 c2 c3 c4 c5 c6 y cI cZ n ar gl lo' pg' ca' ac 1 K' F T Ln Wy' Fo' Tk' u9 ++ rest) := hD
      have K189 : ∀ (d i : Nat) (hv : Int32) (H : Heap) (locs : List Loc) (ls : Array Slot), d + i = n → (mqok Tk' u9 d i hv = mqok Tk' u9 n 0 1) → va_P (dC, dI) classes (wM c0 c1 c2 c3 c4 c5 c6 y cI cZ n ar gl lo' pg' ca' ac hv K' F T Ln Wy' Fo' Tk' u9 ++ rest) H → va_D A (wM c0 c1 c2 c3 c4 c5 c6 y cI cZ n ar gl lo' pg' ca' ac hv K' F T Ln Wy' Fo' Tk' u9 ++ rest) → va_S A s.heap H locs → lv_has ls 5 [(0, .ref (y 0)), (1, .int (nI j)), (2, .int (nI i))] → W p l e (headSpec (Cond.code yX2_run cX2_run 5 (some .int) :: wsL_law) ({ frames := 4, cells := 0, slots := 0, locals := 89 } : Room)).room s m ([.ref (y 0), .int (nI j)] : List Value).toArray below meth c H locs 0 0 (MQ below (va_Qi (S := mqX) (fun r u => (r, u) = mqrun n F T Ln ac (((lo, pg, ca, K), Wy, Fo, Tk), Ne, hw) (nI j)) (fx_B (dC, dI) classes (fq_ty cI cA cZ) A (fun u : mqX => wM c0 c1 c2 c3 c4 c5 c6 y cI cZ n ar gl u.1.1.1 u.1.1.2.1 u.1.1.2.2.1 ac u.2.2 u.1.1.2.2.2 F T Ln u.1.2.1 u.1.2.2.1 u.1.2.2.2 u.2.1 ++ rest)) A) ([.ref (y 0), .int (nI j)] : List Value).toArray s 0 0 A) (F0 m 189 ls []) := by
        intro d
        induction d with
        | zero =>
          intro i hv H locs ls hdi hok hP hD hS hl
          have e0 : i = n := by omega
          have hok : hv = mqok Tk' u9 n 0 1 := hok
          refine lv_iload_n hx hb dX2_run_189 rfl (lv_at hl 2 rfl) ?_
          refine lv_aload_n hx hb dX2_run_190 rfl (lv_at hl 0 rfl) ?_
          refine va_get (D := (dC, dI)) (ci := 2) (v := .int (nI n)) (C := RX2) (T := TX2) (N := 16) hx hb hts inlX2 hown hK hP 7 rfl rfl 0 (by decide) (hts _ km_51) (fun _ h9 => h9) rfl dX2_run_191 ?_
          refine lv_icmp_ge (tgt := 237) hx hb dX2_run_194 (by decide) (fun c_194 => ?_) (fun c_194 => ?_)
          · refine lv_aload_n hx hb dX2_run_237 rfl (lv_at hl 0 rfl) ?_
            refine va_get (D := (dC, dI)) (ci := 2) (v := .int hv) (C := RX2) (T := TX2) (N := 16) hx hb hts inlX2 hown hK hP 7 rfl rfl 11 (by decide) (hts _ km_211) (fun _ h9 => h9) rfl dX2_run_238 ?_
            refine lv_if_eq (tgt := 248) hx hb dX2_run_241 (by decide) (fun c_241 => ?_) (fun c_241 => ?_)
            · refine lv_bipush (v := (-2)) hx hb dX2_run_248 (by decide) ?_
              exact fx_iret hx hb hr hlocks hK hS dX2_run_250 (((lo', pg', ca', K'), Wy', Fo', Tk'), u9, hv) (by unfold mqrun; rw [fqat_some hj hn31]; dsimp only; rw [← hq]; unfold mqfin; dsimp only; rw [← hsp, ← hok, if_pos c_241]) hP hD
            · refine lv_iconst (v := 0) hx hb dX2_run_244 (by decide) ?_
              refine lv_goto (tgt := 250) hx hb dX2_run_245 (by decide) ?_
              exact fx_iret hx hb hr hlocks hK hS dX2_run_250 (((lo', pg', ca', K'), Wy', Fo', Tk'), u9, hv) (by unfold mqrun; rw [fqat_some hj hn31]; dsimp only; rw [← hq]; unfold mqfin; dsimp only; rw [← hsp, ← hok, if_neg c_241]) hP hD
          · exact absurd (nI_le (by omega) (by omega)) c_194
        | succ d ih =>
          intro i hv H locs ls hdi hok hP hD hS hl
          have hi : i < n := by omega
          refine lv_iload_n hx hb dX2_run_189 rfl (lv_at hl 2 rfl) ?_
          refine lv_aload_n hx hb dX2_run_190 rfl (lv_at hl 0 rfl) ?_
          refine va_get (D := (dC, dI)) (ci := 2) (v := .int (nI n)) (C := RX2) (T := TX2) (N := 16) hx hb hts inlX2 hown hK hP 7 rfl rfl 0 (by decide) (hts _ km_51) (fun _ h9 => h9) rfl dX2_run_191 ?_
          refine lv_icmp_ge (tgt := 237) hx hb dX2_run_194 (by decide) (fun c_194 => ?_) (fun c_194 => ?_)
          · exact absurd c_194 (nI_ge hi hn31)
          · refine lv_aload_n hx hb dX2_run_197 rfl (lv_at hl 0 rfl) ?_
            refine lv_aload_n hx hb dX2_run_198 rfl (lv_at hl 0 rfl) ?_
            refine va_get (D := (dC, dI)) (ci := 2) (v := .int hv) (C := RX2) (T := TX2) (N := 16) hx hb hts inlX2 hown hK hP 7 rfl rfl 11 (by decide) (hts _ km_211) (fun _ h9 => h9) rfl dX2_run_199 ?_
            refine lv_if_eq (tgt := 227) hx hb dX2_run_202 (by decide) (fun c_202 => ?_) (fun c_202 => ?_)
            · refine lv_iconst (v := 0) hx hb dX2_run_227 (by decide) ?_
              refine va_put (D := (dC, dI)) (ci := 2) (v := .int 0) (ty := .boolean) (C := RX2) (T := TX2) (N := 16) hx hb hts inlX2 tyX2 tyX2_ok nmX2 hown hK hP hD hS 7 rfl rfl 11 (by decide) (hts _ km_211) (fun _ h9 => h9) rfl (by decide +kernel) rfl rfl (Nat.le_of_ble_eq_true rfl) dX2_run_228 (fun H locs hP hD hS => ?_)
              have hP : va_P (dC, dI) classes (wM c0 c1 c2 c3 c4 c5 c6 y cI cZ n ar gl lo' pg' ca' ac 0 K' F T Ln Wy' Fo' Tk' u9 ++ rest) H := hP
              have hD : va_D A (wM c0 c1 c2 c3 c4 c5 c6 y cI cZ n ar gl lo' pg' ca' ac 0 K' F T Ln Wy' Fo' Tk' u9 ++ rest) := hD
              refine lv_iinc (v := nI (i + 1)) (lv' := [(2, .int (nI (i + 1))), (0, .ref (y 0)), (1, .int (nI j))]) hx hb dX2_run_231 hl (k := 2) rfl (nI_1 i) (by decide) rfl (fun ls hl => ?_)
              refine lv_goto (tgt := 189) hx hb dX2_run_234 (by decide) ?_
              exact ih (i + 1) 0 H locs ls (by omega) (by rw [← hok, mqok_s, if_pos c_202]) hP hD hS (lv_sub hl [1, 2, 0] rfl)
            · refine lv_aload_n hx hb dX2_run_205 rfl (lv_at hl 0 rfl) ?_
              refine va_get (D := (dC, dI)) (ci := 2) (v := .ref (y 7)) (C := RX2) (T := TX2) (N := 16) hx hb hts inlX2 hown hK hP 7 rfl rfl 14 (by decide) (hts _ km_49) (fun _ h9 => h9) rfl dX2_run_206 ?_
              refine lv_iload_n hx hb dX2_run_209 rfl (lv_at hl 2 rfl) ?_
              refine fx_zald hx hb hK hP 14 2 rfl rfl i rfl (by omega) (by decide) dX2_run_210 ?_
              refine lv_if_ne (tgt := 223) hx hb dX2_run_211 (by decide) (fun c_211 => ?_) (fun c_211 => ?_)
              · refine lv_iconst (v := 1) hx hb dX2_run_223 (by decide) ?_
                refine lv_goto (tgt := 228) hx hb dX2_run_224 (by decide) ?_
                refine va_put (D := (dC, dI)) (ci := 2) (v := .int 1) (ty := .boolean) (C := RX2) (T := TX2) (N := 16) hx hb hts inlX2 tyX2 tyX2_ok nmX2 hown hK hP hD hS 7 rfl rfl 11 (by decide) (hts _ km_211) (fun _ h9 => h9) rfl (by decide +kernel) rfl rfl (Nat.le_of_ble_eq_true rfl) dX2_run_228 (fun H locs hP hD hS => ?_)
                have hP : va_P (dC, dI) classes (wM c0 c1 c2 c3 c4 c5 c6 y cI cZ n ar gl lo' pg' ca' ac 1 K' F T Ln Wy' Fo' Tk' u9 ++ rest) H := hP
                have hD : va_D A (wM c0 c1 c2 c3 c4 c5 c6 y cI cZ n ar gl lo' pg' ca' ac 1 K' F T Ln Wy' Fo' Tk' u9 ++ rest) := hD
                refine lv_iinc (v := nI (i + 1)) (lv' := [(2, .int (nI (i + 1))), (0, .ref (y 0)), (1, .int (nI j))]) hx hb dX2_run_231 hl (k := 2) rfl (nI_1 i) (by decide) rfl (fun ls hl => ?_)
                refine lv_goto (tgt := 189) hx hb dX2_run_234 (by decide) ?_
                exact ih (i + 1) 1 H locs ls (by omega) (by rw [← hok, mqok_s, if_neg c_202, if_neg c_211]) hP hD hS (lv_sub hl [1, 2, 0] rfl)
              · refine lv_aload_n hx hb dX2_run_214 rfl (lv_at hl 0 rfl) ?_
                refine va_get (D := (dC, dI)) (ci := 2) (v := .ref (y 8)) (C := RX2) (T := TX2) (N := 16) hx hb hts inlX2 hown hK hP 7 rfl rfl 15 (by decide) (hts _ km_50) (fun _ h9 => h9) rfl dX2_run_215 ?_
                refine lv_iload_n hx hb dX2_run_218 rfl (lv_at hl 2 rfl) ?_
                refine fx_zald hx hb hK hP 15 2 rfl rfl i rfl (by omega) (by decide) dX2_run_219 ?_
                refine lv_if_ne (tgt := 227) hx hb dX2_run_220 (by decide) (fun c_220 => ?_) (fun c_220 => ?_)
                · refine lv_iconst (v := 0) hx hb dX2_run_227 (by decide) ?_
                  refine va_put (D := (dC, dI)) (ci := 2) (v := .int 0) (ty := .boolean) (C := RX2) (T := TX2) (N := 16) hx hb hts inlX2 tyX2 tyX2_ok nmX2 hown hK hP hD hS 7 rfl rfl 11 (by decide) (hts _ km_211) (fun _ h9 => h9) rfl (by decide +kernel) rfl rfl (Nat.le_of_ble_eq_true rfl) dX2_run_228 (fun H locs hP hD hS => ?_)
                  have hP : va_P (dC, dI) classes (wM c0 c1 c2 c3 c4 c5 c6 y cI cZ n ar gl lo' pg' ca' ac 0 K' F T Ln Wy' Fo' Tk' u9 ++ rest) H := hP
                  have hD : va_D A (wM c0 c1 c2 c3 c4 c5 c6 y cI cZ n ar gl lo' pg' ca' ac 0 K' F T Ln Wy' Fo' Tk' u9 ++ rest) := hD
                  refine lv_iinc (v := nI (i + 1)) (lv' := [(2, .int (nI (i + 1))), (0, .ref (y 0)), (1, .int (nI j))]) hx hb dX2_run_231 hl (k := 2) rfl (nI_1 i) (by decide) rfl (fun ls hl => ?_)
                  refine lv_goto (tgt := 189) hx hb dX2_run_234 (by decide) ?_
                  exact ih (i + 1) 0 H locs ls (by omega) (by rw [← hok, mqok_s, if_neg c_202, if_pos c_211, if_neg c_220]) hP hD hS (lv_sub hl [1, 2, 0] rfl)
                · refine lv_iconst (v := 1) hx hb dX2_run_223 (by decide) ?_
                  refine lv_goto (tgt := 228) hx hb dX2_run_224 (by decide) ?_
                  refine va_put (D := (dC, dI)) (ci := 2) (v := .int 1) (ty := .boolean) (C := RX2) (T := TX2) (N := 16) hx hb hts inlX2 tyX2 tyX2_ok nmX2 hown hK hP hD hS 7 rfl rfl 11 (by decide) (hts _ km_211) (fun _ h9 => h9) rfl (by decide +kernel) rfl rfl (Nat.le_of_ble_eq_true rfl) dX2_run_228 (fun H locs hP hD hS => ?_)
                  have hP : va_P (dC, dI) classes (wM c0 c1 c2 c3 c4 c5 c6 y cI cZ n ar gl lo' pg' ca' ac 1 K' F T Ln Wy' Fo' Tk' u9 ++ rest) H := hP
                  have hD : va_D A (wM c0 c1 c2 c3 c4 c5 c6 y cI cZ n ar gl lo' pg' ca' ac 1 K' F T Ln Wy' Fo' Tk' u9 ++ rest) := hD
                  refine lv_iinc (v := nI (i + 1)) (lv' := [(2, .int (nI (i + 1))), (0, .ref (y 0)), (1, .int (nI j))]) hx hb dX2_run_231 hl (k := 2) rfl (nI_1 i) (by decide) rfl (fun ls hl => ?_)
                  refine lv_goto (tgt := 189) hx hb dX2_run_234 (by decide) ?_
                  exact ih (i + 1) 1 H locs ls (by omega) (by rw [← hok, mqok_s, if_neg c_202, if_pos c_211, if_pos c_220]) hP hD hS (lv_sub hl [1, 2, 0] rfl)
      refine lv_iconst (v := 0) hx hb dX2_run_187 (by decide) ?_
      refine lv_istore_n (lv' := [(2, .int 0), (0, .ref (y 0)), (1, .int (nI j))]) hx hb dX2_run_188 rfl hl (by decide) rfl (fun ls hl => ?_)
      exact K189 n 0 1 H locs ls rfl rfl hP hD hS (lv_sub hl [1, 2, 0] rfl)
    have K49 : ∀ (d : Nat) (lo' pg' ca' : Int32) (K' Wy' Fo' Tk' : Nat → Int32) (H : Heap) (locs : List Loc) (ls : Array Slot), mqT n ((lo', pg', ca', K'), Wy', Fo', Tk') → mqmu n ((lo', pg', ca', K'), Wy', Fo', Tk') < d → mqloop n F T Ln ac d ((lo', pg', ca', K'), Wy', Fo', Tk') = mqloop n F T Ln ac (n + 1) ((mqpush n (mqclear (lo, pg, ca, K)) (nI j) 0).2, Wy, fqfill 40 (-1) Fo, fqfill 40 0 Tk) → va_P (dC, dI) classes (wM c0 c1 c2 c3 c4 c5 c6 y cI cZ n ar gl lo' pg' ca' ac hw K' F T Ln Wy' Fo' Tk' Ne ++ rest) H → va_D A (wM c0 c1 c2 c3 c4 c5 c6 y cI cZ n ar gl lo' pg' ca' ac hw K' F T Ln Wy' Fo' Tk' Ne ++ rest) → va_S A s.heap H locs → lv_has ls 5 [(0, .ref (y 0)), (1, .int (nI j))] → W p l e (headSpec (Cond.code yX2_run cX2_run 5 (some .int) :: wsL_law) ({ frames := 4, cells := 0, slots := 0, locals := 89 } : Room)).room s m ([.ref (y 0), .int (nI j)] : List Value).toArray below meth c H locs 0 0 (MQ below (va_Qi (S := mqX) (fun r u => (r, u) = mqrun n F T Ln ac (((lo, pg, ca, K), Wy, Fo, Tk), Ne, hw) (nI j)) (fx_B (dC, dI) classes (fq_ty cI cA cZ) A (fun u : mqX => wM c0 c1 c2 c3 c4 c5 c6 y cI cZ n ar gl u.1.1.1 u.1.1.2.1 u.1.1.2.2.1 ac u.2.2 u.1.1.2.2.2 F T Ln u.1.2.1 u.1.2.2.1 u.1.2.2.2 u.2.1 ++ rest)) A) ([.ref (y 0), .int (nI j)] : List Value).toArray s 0 0 A) (F0 m 49 ls []) := by
      intro d
      induction d with
      | zero => intro lo' pg' ca' K' Wy' Fo' Tk' H locs ls _ h9; omega
      | succ d ih =>
        intro lo' pg' ca' K' Wy' Fo' Tk' H locs ls hT hmu hq hP hD hS hl
        refine lv_aload_n hx hb dX2_run_49 rfl (lv_at hl 0 rfl) ?_
        refine fx_Vs (rest := []) (sq_size l dC dI A cI cA cZ rest c0 c1 c2 c3 c4 c5 c6 y n hn ar gl lo' pg' ca' ac hw K' F T Ln Wy' Fo' Tk' Ne) hF (cw_RX2_83 hts ⟨Nat.le_of_ble_eq_true rfl, Nat.le_of_ble_eq_true rfl⟩) hA hS hP hK hD hN 7 2 rfl rfl rfl hl.1 rfl (Nat.le_of_ble_eq_true rfl) dX2_run_50 ⟨Nat.le_of_ble_eq_true rfl, Nat.le_of_ble_eq_true rfl⟩ (fun r9 h9 => ?_)
        subst h9
        refine lv_if_le (tgt := 177) hx hb dX2_run_53 (by decide) (fun c_53 => ?_) (fun c_53 => ?_)
        · exact K177 lo' pg' ca' K' Wy' Fo' Tk' H locs ls (by rw [← hq, mqloop_s, if_neg (Int32.not_lt.mpr c_53)]) hP hD hS (lv_sub hl [0, 1] rfl)
        · have c_53 := Int32.not_le.mp c_53
          obtain ⟨j1, hj1, hk1, e1, e2⟩ := mqpop_some (q := (lo', pg', ca', K')) c_53
          have hN1 := mqnext_T (Ln := Ln) (ac := ac) (s := ((lo', pg', ca', K'), Wy', Fo', Tk')) hn hnet hT c_53
          have K106 : ∀ (ls : Array Slot), lv_has ls 5 [(0, .ref (y 0)), (1, .int (nI j)), (2, .int (mqleast K' n 0 2147483647))] → W p l e (headSpec (Cond.code yX2_run cX2_run 5 (some .int) :: wsL_law) ({ frames := 4, cells := 0, slots := 0, locals := 89 } : Room)).room s m ([.ref (y 0), .int (nI j)] : List Value).toArray below meth c H locs 0 0 (MQ below (va_Qi (S := mqX) (fun r u => (r, u) = mqrun n F T Ln ac (((lo, pg, ca, K), Wy, Fo, Tk), Ne, hw) (nI j)) (fx_B (dC, dI) classes (fq_ty cI cA cZ) A (fun u : mqX => wM c0 c1 c2 c3 c4 c5 c6 y cI cZ n ar gl u.1.1.1 u.1.1.2.1 u.1.1.2.2.1 ac u.2.2 u.1.1.2.2.2 F T Ln u.1.2.1 u.1.2.2.1 u.1.2.2.2 u.2.1 ++ rest)) A) ([.ref (y 0), .int (nI j)] : List Value).toArray s 0 0 A) (F0 m 106 ls []) := by
            intro ls hl
            refine lv_aload_n hx hb dX2_run_106 rfl (lv_at hl 0 rfl) ?_
            refine fx_Vi (rest := []) (sq_pop l dC dI A cI cA cZ rest c0 c1 c2 c3 c4 c5 c6 y n hn ar gl lo' pg' ca' ac hw K' F T Ln Wy' Fo' Tk' Ne hT.1) hF (cw_RX2_88 hts ⟨Nat.le_of_ble_eq_true rfl, Nat.le_of_ble_eq_true rfl⟩) hA hS hP hK hD hN 7 2 rfl rfl rfl hl.1 rfl (Nat.le_of_ble_eq_true rfl) dX2_run_107 ⟨Nat.le_of_ble_eq_true rfl, Nat.le_of_ble_eq_true rfl⟩ (fun r9 u9 H locs hp hP hD hS => ?_)
            have er : r9 = nI j1 := by rw [← e1, ← hp]
            subst er
            have hT1 := mqpop_T (W0 := upd Wy' j1 (mqleast K' n 0 2147483647)) hT hn hj1 hk1 e2
            have hp2 : u9 = (mqpop n (lo', pg', ca', K')).2 := by rw [← hp]
            have hnx : mqsweep n F T Ln j1 ac (u9, upd Wy' j1 (mqleast K' n 0 2147483647), Fo', upd Tk' j1 1) = mqnext n F T Ln ac ((lo', pg', ca', K'), Wy', Fo', Tk') := by unfold mqnext; dsimp only; rw [e1, fqn_nI (by omega), hp2]
            have hT1 : mqT n (u9, upd Wy' j1 (mqleast K' n 0 2147483647), Fo', upd Tk' j1 1) := by rw [hp2]; exact hT1
            obtain ⟨lo1, pg1, ca1, K1⟩ := u9
            have hP : va_P (dC, dI) classes (wM c0 c1 c2 c3 c4 c5 c6 y cI cZ n ar gl lo1 pg1 ca1 ac hw K1 F T Ln Wy' Fo' Tk' Ne ++ rest) H := hP
            have hD : va_D A (wM c0 c1 c2 c3 c4 c5 c6 y cI cZ n ar gl lo1 pg1 ca1 ac hw K1 F T Ln Wy' Fo' Tk' Ne ++ rest) := hD
            refine lv_istore_n (lv' := [(3, .int (nI j1)), (0, .ref (y 0)), (1, .int (nI j)), (2, .int (mqleast K' n 0 2147483647))]) hx hb dX2_run_110 rfl hl (by decide) rfl (fun ls hl => ?_)
            refine lv_aload_n hx hb dX2_run_111 rfl (lv_at hl 1 rfl) ?_
            refine va_get (D := (dC, dI)) (ci := 2) (v := .ref (y 5)) (C := RX2) (T := TX2) (N := 16) hx hb hts inlX2 hown hK hP 7 rfl rfl 12 (by decide) (hts _ km_46) (fun _ h9 => h9) rfl dX2_run_112 ?_
            refine lv_iload_n hx hb dX2_run_115 rfl (lv_at hl 0 rfl) ?_
            refine lv_iload_n hx hb dX2_run_116 rfl (lv_at hl 3 rfl) ?_
            refine fx_ast hx hb hK hP hD hS 12 0 rfl rfl j1 rfl (by omega) (by decide) dX2_run_117 (fun H locs hP hD hS => ?_)
            have hP : va_P (dC, dI) classes (wM c0 c1 c2 c3 c4 c5 c6 y cI cZ n ar gl lo1 pg1 ca1 ac hw K1 F T Ln (upd Wy' j1 (mqleast K' n 0 2147483647)) Fo' Tk' Ne ++ rest) H := hP
            have hD : va_D A (wM c0 c1 c2 c3 c4 c5 c6 y cI cZ n ar gl lo1 pg1 ca1 ac hw K1 F T Ln (upd Wy' j1 (mqleast K' n 0 2147483647)) Fo' Tk' Ne ++ rest) := hD
            refine lv_aload_n hx hb dX2_run_118 rfl (lv_at hl 1 rfl) ?_
            refine va_get (D := (dC, dI)) (ci := 2) (v := .ref (y 7)) (C := RX2) (T := TX2) (N := 16) hx hb hts inlX2 hown hK hP 7 rfl rfl 14 (by decide) (hts _ km_49) (fun _ h9 => h9) rfl dX2_run_119 ?_
            refine lv_iload_n hx hb dX2_run_122 rfl (lv_at hl 0 rfl) ?_
            refine lv_iconst (v := 1) hx hb dX2_run_123 (by decide) ?_
            refine fx_zast hx hb hK hP hD hS 14 2 rfl rfl j1 rfl (by omega) (by decide) rfl dX2_run_124 (fun H locs hP hD hS => ?_)
            have hP : va_P (dC, dI) classes (wM c0 c1 c2 c3 c4 c5 c6 y cI cZ n ar gl lo1 pg1 ca1 ac hw K1 F T Ln (upd Wy' j1 (mqleast K' n 0 2147483647)) Fo' (upd Tk' j1 1) Ne ++ rest) H := hP
            have hD : va_D A (wM c0 c1 c2 c3 c4 c5 c6 y cI cZ n ar gl lo1 pg1 ca1 ac hw K1 F T Ln (upd Wy' j1 (mqleast K' n 0 2147483647)) Fo' (upd Tk' j1 1) Ne ++ rest) := hD
            have K133 : ∀ (d2 : Nat) (lo2 pg2 ca2 : Int32) (K2 Wy2 Fo2 Tk2 : Nat → Int32) (H : Heap) (locs : List Loc) (ls : Array Slot), d2 ≤ ac → mqT n ((lo2, pg2, ca2, K2), Wy2, Fo2, Tk2) → mqsweep n F T Ln j1 d2 ((lo2, pg2, ca2, K2), Wy2, Fo2, Tk2) = mqnext n F T Ln ac ((lo', pg', ca', K'), Wy', Fo', Tk') → va_P (dC, dI) classes (wM c0 c1 c2 c3 c4 c5 c6 y cI cZ n ar gl lo2 pg2 ca2 ac hw K2 F T Ln Wy2 Fo2 Tk2 Ne ++ rest) H → va_D A (wM c0 c1 c2 c3 c4 c5 c6 y cI cZ n ar gl lo2 pg2 ca2 ac hw K2 F T Ln Wy2 Fo2 Tk2 Ne ++ rest) → va_S A s.heap H locs → lv_has ls 5 [(0, .ref (y 0)), (1, .int (nI j)), (3, .int (nI j1)), (4, .int (nI d2 - 1))] → W p l e (headSpec (Cond.code yX2_run cX2_run 5 (some .int) :: wsL_law) ({ frames := 4, cells := 0, slots := 0, locals := 89 } : Room)).room s m ([.ref (y 0), .int (nI j)] : List Value).toArray below meth c H locs 0 0 (MQ below (va_Qi (S := mqX) (fun r u => (r, u) = mqrun n F T Ln ac (((lo, pg, ca, K), Wy, Fo, Tk), Ne, hw) (nI j)) (fx_B (dC, dI) classes (fq_ty cI cA cZ) A (fun u : mqX => wM c0 c1 c2 c3 c4 c5 c6 y cI cZ n ar gl u.1.1.1 u.1.1.2.1 u.1.1.2.2.1 ac u.2.2 u.1.1.2.2.2 F T Ln u.1.2.1 u.1.2.2.1 u.1.2.2.2 u.2.1 ++ rest)) A) ([.ref (y 0), .int (nI j)] : List Value).toArray s 0 0 A) (F0 m 133 ls []) := by
              intro d2
              induction d2 with
              | zero =>
                intro lo2 pg2 ca2 K2 Wy2 Fo2 Tk2 H locs ls hd2 hT2 hq2 hP hD hS hl
                rw [show nI 0 - 1 = -1 by decide] at hl
                have hz : ((lo2, pg2, ca2, K2), Wy2, Fo2, Tk2) = mqnext n F T Ln ac ((lo', pg', ca', K'), Wy', Fo', Tk') := hq2
                refine lv_iload hx hb dX2_run_133 (lv_at hl 3 rfl) ?_
                refine lv_if_lt (tgt := 174) hx hb dX2_run_135 (by decide) (fun _ => ?_) (fun h9 => absurd h9 (by decide))
                refine lv_goto (tgt := 49) hx hb dX2_run_174 (by decide) ?_
                exact ih lo2 pg2 ca2 K2 Wy2 Fo2 Tk2 H locs ls (by rw [hz]; exact hN1.1) (by rw [hz]; exact Nat.lt_of_lt_of_le hN1.2 (Nat.lt_succ_iff.mp hmu)) (by rw [← hq, mqloop_s, if_pos c_53, ← hz]) hP hD hS (lv_sub hl [0, 1] rfl)
              | succ d2 ih2 =>
                intro lo2 pg2 ca2 K2 Wy2 Fo2 Tk2 H locs ls hd2 hT2 hq2 hP hD hS hl
                rw [nI_pred] at hl
                have hd3 : d2 < ac := by omega
                obtain ⟨-, v0, hv0, eT⟩ := hnet d2 hd3
                refine lv_iload hx hb dX2_run_133 (lv_at hl 3 rfl) ?_
                refine lv_if_lt (tgt := 174) hx hb dX2_run_135 (by decide) (fun c_135 => ?_) (fun c_135 => ?_)
                · exact absurd c_135 (nI_pos (by omega))
                · refine lv_aload_n hx hb dX2_run_138 rfl (lv_at hl 0 rfl) ?_
                  refine va_get (D := (dC, dI)) (ci := 2) (v := .ref (y 2)) (C := RX2) (T := TX2) (N := 16) hx hb hts inlX2 hown hK hP 7 rfl rfl 8 (by decide) (hts _ km_43) (fun _ h9 => h9) rfl dX2_run_139 ?_
                  refine lv_iload hx hb dX2_run_142 (lv_at hl 3 rfl) ?_
                  refine fx_ald hx hb hK hP 9 0 rfl rfl d2 rfl (by omega) (by decide) dX2_run_144 ?_
                  refine lv_iload_n hx hb dX2_run_145 rfl (lv_at hl 2 rfl) ?_
                  refine lv_icmp_ne (tgt := 168) hx hb dX2_run_146 (by decide) (fun c_146 => ?_) (fun c_146 => ?_)
                  · refine lv_iinc (v := nI d2 - 1) (lv' := [(4, .int (nI d2 - 1)), (0, .ref (y 0)), (1, .int (nI j)), (3, .int (nI j1))]) hx hb dX2_run_168 hl (k := 3) rfl (mq_m1 _) (by decide) rfl (fun ls hl => ?_)
                    refine lv_goto (tgt := 133) hx hb dX2_run_171 (by decide) ?_
                    exact ih2 lo2 pg2 ca2 K2 Wy2 Fo2 Tk2 H locs ls (by omega) hT2 (by rw [← hq2, mqsweep_s, if_neg c_146]) hP hD hS (lv_sub hl [1, 2, 3, 0] rfl)
                  · refine lv_aload_n hx hb dX2_run_149 rfl (lv_at hl 0 rfl) ?_
                    refine lv_iload_n hx hb dX2_run_150 rfl (lv_at hl 2 rfl) ?_
                    refine lv_aload_n hx hb dX2_run_151 rfl (lv_at hl 0 rfl) ?_
                    refine va_get (D := (dC, dI)) (ci := 2) (v := .ref (y 3)) (C := RX2) (T := TX2) (N := 16) hx hb hts inlX2 hown hK hP 7 rfl rfl 9 (by decide) (hts _ km_44) (fun _ h9 => h9) rfl dX2_run_152 ?_
                    refine lv_iload hx hb dX2_run_155 (lv_at hl 3 rfl) ?_
                    refine fx_ald hx hb hK hP 10 0 rfl rfl d2 rfl (by omega) (by decide) dX2_run_157 ?_
                    refine lv_aload_n hx hb dX2_run_158 rfl (lv_at hl 0 rfl) ?_
                    refine va_get (D := (dC, dI)) (ci := 2) (v := .ref (y 4)) (C := RX2) (T := TX2) (N := 16) hx hb hts inlX2 hown hK hP 7 rfl rfl 10 (by decide) (hts _ km_45) (fun _ h9 => h9) rfl dX2_run_159 ?_
                    refine lv_iload hx hb dX2_run_162 (lv_at hl 3 rfl) ?_
                    refine fx_ald hx hb hK hP 11 0 rfl rfl d2 rfl (by omega) (by decide) dX2_run_164 ?_
                    rw [eT]
                    refine fx_Vv (rest := []) (sq_reach l dC dI A cI cA cZ rest c0 c1 c2 c3 c4 c5 c6 y n hn ar gl lo2 pg2 ca2 ac hw K2 F T Ln Wy2 Fo2 Tk2 Ne j1 v0 (Ln d2) hj1 hv0 hT2.1) hF (cw_RX2_91 hts ⟨Nat.le_of_ble_eq_true rfl, Nat.le_of_ble_eq_true rfl⟩) hA hS hP hK hD hN 7 2 rfl rfl rfl hl.1 rfl (Nat.le_of_ble_eq_true rfl) dX2_run_165 ⟨Nat.le_of_ble_eq_true rfl, Nat.le_of_ble_eq_true rfl⟩ (fun u9 H locs hre hP hD hS => ?_)
                    have hT3 := (mqreach_T (u := j1) (w := Ln d2) hn hv0 hT2).1
                    rw [← hre] at hT3
                    obtain ⟨⟨lo3, pg3, ca3, K3⟩, Wy3, Fo3, Tk3⟩ := u9
                    have hP : va_P (dC, dI) classes (wM c0 c1 c2 c3 c4 c5 c6 y cI cZ n ar gl lo3 pg3 ca3 ac hw K3 F T Ln Wy3 Fo3 Tk3 Ne ++ rest) H := hP
                    have hD : va_D A (wM c0 c1 c2 c3 c4 c5 c6 y cI cZ n ar gl lo3 pg3 ca3 ac hw K3 F T Ln Wy3 Fo3 Tk3 Ne ++ rest) := hD
                    refine lv_iinc (v := nI d2 - 1) (lv' := [(4, .int (nI d2 - 1)), (0, .ref (y 0)), (1, .int (nI j)), (3, .int (nI j1))]) hx hb dX2_run_168 hl (k := 3) rfl (mq_m1 _) (by decide) rfl (fun ls hl => ?_)
                    refine lv_goto (tgt := 133) hx hb dX2_run_171 (by decide) ?_
                    exact ih2 lo3 pg3 ca3 K3 Wy3 Fo3 Tk3 H locs ls (by omega) hT3 (by rw [← hq2, mqsweep_s, if_pos c_146, eT, fqn_nI (by omega), ← hre]) hP hD hS (lv_sub hl [1, 2, 3, 0] rfl)
            refine lv_aload_n hx hb dX2_run_125 rfl (lv_at hl 1 rfl) ?_
            refine va_get (D := (dC, dI)) (ci := 2) (v := .int (nI ac)) (C := RX2) (T := TX2) (N := 16) hx hb hts inlX2 hown hK hP 7 rfl rfl 7 (by decide) (hts _ km_210) (fun _ h9 => h9) rfl dX2_run_126 ?_
            refine lv_iconst (v := 1) hx hb dX2_run_129 (by decide) ?_
            refine lv_isub hx hb dX2_run_130 ?_
            refine lv_istore (lv' := [(4, .int ((nI ac) - 1)), (3, .int (nI j1)), (0, .ref (y 0)), (1, .int (nI j)), (2, .int (mqleast K' n 0 2147483647))]) hx hb dX2_run_131 hl (by decide) rfl (fun ls hl => ?_)
            exact K133 ac lo1 pg1 ca1 K1 (upd Wy' j1 (mqleast K' n 0 2147483647)) Fo' (upd Tk' j1 1) H locs ls (Nat.le_refl _) hT1 hnx hP hD hS (lv_sub hl [2, 3, 1, 0] rfl)
          have K61 : ∀ (d6 i : Nat) (a : Int32) (ls : Array Slot), d6 + i = n → (mqleast K' d6 i a = mqleast K' n 0 2147483647) → lv_has ls 5 [(0, .ref (y 0)), (1, .int (nI j)), (2, .int a), (3, .int (nI i))] → W p l e (headSpec (Cond.code yX2_run cX2_run 5 (some .int) :: wsL_law) ({ frames := 4, cells := 0, slots := 0, locals := 89 } : Room)).room s m ([.ref (y 0), .int (nI j)] : List Value).toArray below meth c H locs 0 0 (MQ below (va_Qi (S := mqX) (fun r u => (r, u) = mqrun n F T Ln ac (((lo, pg, ca, K), Wy, Fo, Tk), Ne, hw) (nI j)) (fx_B (dC, dI) classes (fq_ty cI cA cZ) A (fun u : mqX => wM c0 c1 c2 c3 c4 c5 c6 y cI cZ n ar gl u.1.1.1 u.1.1.2.1 u.1.1.2.2.1 ac u.2.2 u.1.1.2.2.2 F T Ln u.1.2.1 u.1.2.2.1 u.1.2.2.2 u.2.1 ++ rest)) A) ([.ref (y 0), .int (nI j)] : List Value).toArray s 0 0 A) (F0 m 61 ls []) := by
            intro d6
            induction d6 with
            | zero =>
              intro i a ls hdi hqa hl
              have e0 : i = n := by omega
              have hqa : a = (mqleast K' n 0 2147483647) := hqa
              subst hqa
              refine lv_iload_n hx hb dX2_run_61 rfl (lv_at hl 3 rfl) ?_
              refine lv_aload_n hx hb dX2_run_62 rfl (lv_at hl 0 rfl) ?_
              refine va_get (D := (dC, dI)) (ci := 2) (v := .int (nI n)) (C := RX2) (T := TX2) (N := 16) hx hb hts inlX2 hown hK hP 7 rfl rfl 0 (by decide) (hts _ km_51) (fun _ h9 => h9) rfl dX2_run_63 ?_
              refine lv_icmp_ge (tgt := 106) hx hb dX2_run_66 (by decide) (fun c_66 => ?_) (fun c_66 => ?_)
              · exact K106 ls (lv_sub hl [0, 1, 2] rfl)
              · exact absurd (nI_le (by omega) (by omega)) c_66
            | succ d6 ih6 =>
              intro i a ls hdi hqa hl
              have hi : i < n := by omega
              refine lv_iload_n hx hb dX2_run_61 rfl (lv_at hl 3 rfl) ?_
              refine lv_aload_n hx hb dX2_run_62 rfl (lv_at hl 0 rfl) ?_
              refine va_get (D := (dC, dI)) (ci := 2) (v := .int (nI n)) (C := RX2) (T := TX2) (N := 16) hx hb hts inlX2 hown hK hP 7 rfl rfl 0 (by decide) (hts _ km_51) (fun _ h9 => h9) rfl dX2_run_63 ?_
              refine lv_icmp_ge (tgt := 106) hx hb dX2_run_66 (by decide) (fun c_66 => ?_) (fun c_66 => ?_)
              · exact absurd c_66 (nI_ge hi hn31)
              · refine lv_aload_n hx hb dX2_run_69 rfl (lv_at hl 0 rfl) ?_
                refine va_get (D := (dC, dI)) (ci := 2) (v := .ref (y 1)) (C := RX2) (T := TX2) (N := 16) hx hb hts inlX2 hown hK hP 7 rfl rfl 3 (by decide) (hts _ km_42) (fun _ h9 => h9) rfl dX2_run_70 ?_
                refine lv_iload_n hx hb dX2_run_73 rfl (lv_at hl 3 rfl) ?_
                refine fx_ald hx hb hK hP 8 0 rfl rfl i rfl (by omega) (by decide) dX2_run_74 ?_
                refine lv_iconst (v := (-1)) hx hb dX2_run_75 (by decide) ?_
                refine lv_icmp_eq (tgt := 98) hx hb dX2_run_76 (by decide) (fun c_76 => ?_) (fun c_76 => ?_)
                · refine lv_iload_n hx hb dX2_run_98 rfl (lv_at hl 2 rfl) ?_
                  refine lv_istore_n (lv' := [(2, .int a), (0, .ref (y 0)), (1, .int (nI j)), (3, .int (nI i))]) hx hb dX2_run_99 rfl hl (by decide) rfl (fun ls hl => ?_)
                  refine lv_iinc (v := nI (i + 1)) (lv' := [(3, .int (nI (i + 1))), (2, .int a), (0, .ref (y 0)), (1, .int (nI j))]) hx hb dX2_run_100 hl (k := 3) rfl (nI_1 i) (by decide) rfl (fun ls hl => ?_)
                  refine lv_goto (tgt := 61) hx hb dX2_run_103 (by decide) ?_
                  exact ih6 (i + 1) a ls (by omega) (by rw [← hqa, mqleast_s, if_neg (fun h => h.1 c_76)]) (lv_sub hl [2, 3, 1, 0] rfl)
                · refine lv_aload_n hx hb dX2_run_79 rfl (lv_at hl 0 rfl) ?_
                  refine va_get (D := (dC, dI)) (ci := 2) (v := .ref (y 1)) (C := RX2) (T := TX2) (N := 16) hx hb hts inlX2 hown hK hP 7 rfl rfl 3 (by decide) (hts _ km_42) (fun _ h9 => h9) rfl dX2_run_80 ?_
                  refine lv_iload_n hx hb dX2_run_83 rfl (lv_at hl 3 rfl) ?_
                  refine fx_ald hx hb hK hP 8 0 rfl rfl i rfl (by omega) (by decide) dX2_run_84 ?_
                  refine lv_iload_n hx hb dX2_run_85 rfl (lv_at hl 2 rfl) ?_
                  refine lv_icmp_ge (tgt := 98) hx hb dX2_run_86 (by decide) (fun c_86 => ?_) (fun c_86 => ?_)
                  · refine lv_iload_n hx hb dX2_run_98 rfl (lv_at hl 2 rfl) ?_
                    refine lv_istore_n (lv' := [(2, .int a), (0, .ref (y 0)), (1, .int (nI j)), (3, .int (nI i))]) hx hb dX2_run_99 rfl hl (by decide) rfl (fun ls hl => ?_)
                    refine lv_iinc (v := nI (i + 1)) (lv' := [(3, .int (nI (i + 1))), (2, .int a), (0, .ref (y 0)), (1, .int (nI j))]) hx hb dX2_run_100 hl (k := 3) rfl (nI_1 i) (by decide) rfl (fun ls hl => ?_)
                    refine lv_goto (tgt := 61) hx hb dX2_run_103 (by decide) ?_
                    exact ih6 (i + 1) a ls (by omega) (by rw [← hqa, mqleast_s, if_neg (fun h => absurd h.2 (Int32.not_lt.mpr c_86))]) (lv_sub hl [2, 3, 1, 0] rfl)
                  · refine lv_aload_n hx hb dX2_run_89 rfl (lv_at hl 0 rfl) ?_
                    refine va_get (D := (dC, dI)) (ci := 2) (v := .ref (y 1)) (C := RX2) (T := TX2) (N := 16) hx hb hts inlX2 hown hK hP 7 rfl rfl 3 (by decide) (hts _ km_42) (fun _ h9 => h9) rfl dX2_run_90 ?_
                    refine lv_iload_n hx hb dX2_run_93 rfl (lv_at hl 3 rfl) ?_
                    refine fx_ald hx hb hK hP 8 0 rfl rfl i rfl (by omega) (by decide) dX2_run_94 ?_
                    refine lv_goto (tgt := 99) hx hb dX2_run_95 (by decide) ?_
                    refine lv_istore_n (lv' := [(2, .int ((K') i)), (0, .ref (y 0)), (1, .int (nI j)), (3, .int (nI i))]) hx hb dX2_run_99 rfl hl (by decide) rfl (fun ls hl => ?_)
                    refine lv_iinc (v := nI (i + 1)) (lv' := [(3, .int (nI (i + 1))), (2, .int ((K') i)), (0, .ref (y 0)), (1, .int (nI j))]) hx hb dX2_run_100 hl (k := 3) rfl (nI_1 i) (by decide) rfl (fun ls hl => ?_)
                    refine lv_goto (tgt := 61) hx hb dX2_run_103 (by decide) ?_
                    exact ih6 (i + 1) ((K') i) ls (by omega) (by rw [← hqa, mqleast_s, if_pos ⟨c_76, Int32.not_le.mp c_86⟩]) (lv_sub hl [2, 3, 1, 0] rfl)
          refine lv_ldc (v := 2147483647) hx hb hown (hts _ km_244) dX2_run_56 ?_
          refine lv_istore_n (lv' := [(2, .int 2147483647), (0, .ref (y 0)), (1, .int (nI j))]) hx hb dX2_run_58 rfl hl (by decide) rfl (fun ls hl => ?_)
          refine lv_iconst (v := 0) hx hb dX2_run_59 (by decide) ?_
          refine lv_istore_n (lv' := [(3, .int 0), (2, .int 2147483647), (0, .ref (y 0)), (1, .int (nI j))]) hx hb dX2_run_60 rfl hl (by decide) rfl (fun ls hl => ?_)
          exact K61 n 0 2147483647 ls rfl rfl (lv_sub hl [2, 3, 1, 0] rfl)
    have K16 : ∀ (d i : Nat) (H : Heap) (locs : List Loc) (ls : Array Slot), d + i = 40 → va_P (dC, dI) classes (wM c0 c1 c2 c3 c4 c5 c6 y cI cZ n ar gl 0 pg ca ac hw (fqfill 40 (-1) K) F T Ln Wy (fun j => if j < i then -1 else Fo j) (fun j => if j < i then 0 else Tk j) Ne ++ rest) H → va_D A (wM c0 c1 c2 c3 c4 c5 c6 y cI cZ n ar gl 0 pg ca ac hw (fqfill 40 (-1) K) F T Ln Wy (fun j => if j < i then -1 else Fo j) (fun j => if j < i then 0 else Tk j) Ne ++ rest) → va_S A s.heap H locs → lv_has ls 5 [(0, .ref (y 0)), (1, .int (nI j)), (2, .int (nI i))] → W p l e (headSpec (Cond.code yX2_run cX2_run 5 (some .int) :: wsL_law) ({ frames := 4, cells := 0, slots := 0, locals := 89 } : Room)).room s m ([.ref (y 0), .int (nI j)] : List Value).toArray below meth c H locs 0 0 (MQ below (va_Qi (S := mqX) (fun r u => (r, u) = mqrun n F T Ln ac (((lo, pg, ca, K), Wy, Fo, Tk), Ne, hw) (nI j)) (fx_B (dC, dI) classes (fq_ty cI cA cZ) A (fun u : mqX => wM c0 c1 c2 c3 c4 c5 c6 y cI cZ n ar gl u.1.1.1 u.1.1.2.1 u.1.1.2.2.1 ac u.2.2 u.1.1.2.2.2 F T Ln u.1.2.1 u.1.2.2.1 u.1.2.2.2 u.2.1 ++ rest)) A) ([.ref (y 0), .int (nI j)] : List Value).toArray s 0 0 A) (F0 m 16 ls []) := by
      intro d
      induction d with
      | zero =>
        intro i  H locs ls hdi  hP hD hS hl
        have e0 : i = 40 := by omega
        subst e0
        have hP : va_P (dC, dI) classes (wM c0 c1 c2 c3 c4 c5 c6 y cI cZ n ar gl 0 pg ca ac hw (fqfill 40 (-1) K) F T Ln Wy (fqfill 40 (-1) Fo) (fqfill 40 0 Tk) Ne ++ rest) H := hP
        have hD : va_D A (wM c0 c1 c2 c3 c4 c5 c6 y cI cZ n ar gl 0 pg ca ac hw (fqfill 40 (-1) K) F T Ln Wy (fqfill 40 (-1) Fo) (fqfill 40 0 Tk) Ne ++ rest) := hD
        refine lv_iload_n hx hb dX2_run_16 rfl (lv_at hl 2 rfl) ?_
        refine lv_bipush (v := 40) hx hb dX2_run_17 (by decide) ?_
        refine lv_icmp_ge (tgt := 42) hx hb dX2_run_19 (by decide) (fun c_19 => ?_) (fun c_19 => ?_)
        · refine lv_aload_n hx hb dX2_run_42 rfl (lv_at hl 0 rfl) ?_
          refine lv_iload_n hx hb dX2_run_43 rfl (lv_at hl 1 rfl) ?_
          refine lv_iconst (v := 0) hx hb dX2_run_44 (by decide) ?_
          refine fx_Vi (rest := []) (sq_push l dC dI A cI cA cZ rest c0 c1 c2 c3 c4 c5 c6 y n hn ar gl 0 pg ca ac hw (fqfill 40 (-1) K) F T Ln Wy (fqfill 40 (-1) Fo) (fqfill 40 0 Tk) Ne (nI j) 0) hF (cw_RX2_77 hts ⟨Nat.le_of_ble_eq_true rfl, Nat.le_of_ble_eq_true rfl⟩) hA hS hP hK hD hN 7 2 rfl rfl rfl hl.1 rfl (Nat.le_of_ble_eq_true rfl) dX2_run_45 ⟨Nat.le_of_ble_eq_true rfl, Nat.le_of_ble_eq_true rfl⟩ (fun r9 u9 H locs hp hP hD hS => ?_)
          have hp : (r9, u9) = mqpush n (mqclear (lo, pg, ca, K)) (nI j) 0 := hp
          have hT0 : mqT n (u9, Wy, fqfill 40 (-1) Fo, fqfill 40 0 Tk) := by have h9 := mqstart_T (W0 := Wy) (Fo := fqfill 40 (-1) Fo) (Tk := Tk) (x := nI j) (key := 0) hn (mqclear_S hn (lo, pg, ca, K)); rw [← hp] at h9; exact h9
          obtain ⟨lo1, pg1, ca1, K1⟩ := u9
          have hP : va_P (dC, dI) classes (wM c0 c1 c2 c3 c4 c5 c6 y cI cZ n ar gl lo1 pg1 ca1 ac hw K1 F T Ln Wy (fqfill 40 (-1) Fo) (fqfill 40 0 Tk) Ne ++ rest) H := hP
          have hD : va_D A (wM c0 c1 c2 c3 c4 c5 c6 y cI cZ n ar gl lo1 pg1 ca1 ac hw K1 F T Ln Wy (fqfill 40 (-1) Fo) (fqfill 40 0 Tk) Ne ++ rest) := hD
          refine lv_pop hx hb dX2_run_48 rfl ?_
          exact K49 (n + 1) lo1 pg1 ca1 K1 Wy (fqfill 40 (-1) Fo) (fqfill 40 0 Tk) H locs ls hT0 (mqmu_le _ _) (by rw [← hp]) hP hD hS (lv_sub hl [0, 1] rfl)
        · exact absurd (Int32.le_refl _) c_19
      | succ d ih =>
        intro i  H locs ls hdi  hP hD hS hl
        have hi : i < 40 := by omega
        refine lv_iload_n hx hb dX2_run_16 rfl (lv_at hl 2 rfl) ?_
        refine lv_bipush (v := 40) hx hb dX2_run_17 (by decide) ?_
        refine lv_icmp_ge (tgt := 42) hx hb dX2_run_19 (by decide) (fun c_19 => ?_) (fun c_19 => ?_)
        · exact absurd (show nI 40 ≤ nI i from c_19) (nI_ge hi (by decide))
        · refine lv_aload_n hx hb dX2_run_22 rfl (lv_at hl 0 rfl) ?_
          refine va_get (D := (dC, dI)) (ci := 2) (v := .ref (y 7)) (C := RX2) (T := TX2) (N := 16) hx hb hts inlX2 hown hK hP 7 rfl rfl 14 (by decide) (hts _ km_49) (fun _ h9 => h9) rfl dX2_run_23 ?_
          refine lv_iload_n hx hb dX2_run_26 rfl (lv_at hl 2 rfl) ?_
          refine lv_iconst (v := 0) hx hb dX2_run_27 (by decide) ?_
          refine fx_zast hx hb hK hP hD hS 14 2 rfl rfl i rfl (by omega) (by decide) rfl dX2_run_28 (fun H locs hP hD hS => ?_)
          have hP : va_P (dC, dI) classes (wM c0 c1 c2 c3 c4 c5 c6 y cI cZ n ar gl 0 pg ca ac hw (fqfill 40 (-1) K) F T Ln Wy (fun j => if j < i then -1 else Fo j) (upd (fun j => if j < i then 0 else Tk j) i 0) Ne ++ rest) H := hP
          have hD : va_D A (wM c0 c1 c2 c3 c4 c5 c6 y cI cZ n ar gl 0 pg ca ac hw (fqfill 40 (-1) K) F T Ln Wy (fun j => if j < i then -1 else Fo j) (upd (fun j => if j < i then 0 else Tk j) i 0) Ne ++ rest) := hD
          refine lv_aload_n hx hb dX2_run_29 rfl (lv_at hl 0 rfl) ?_
          refine va_get (D := (dC, dI)) (ci := 2) (v := .ref (y 6)) (C := RX2) (T := TX2) (N := 16) hx hb hts inlX2 hown hK hP 7 rfl rfl 13 (by decide) (hts _ km_47) (fun _ h9 => h9) rfl dX2_run_30 ?_
          refine lv_iload_n hx hb dX2_run_33 rfl (lv_at hl 2 rfl) ?_
          refine lv_iconst (v := (-1)) hx hb dX2_run_34 (by decide) ?_
          refine fx_ast hx hb hK hP hD hS 13 0 rfl rfl i rfl (by omega) (by decide) dX2_run_35 (fun H locs hP hD hS => ?_)
          have hP : va_P (dC, dI) classes (wM c0 c1 c2 c3 c4 c5 c6 y cI cZ n ar gl 0 pg ca ac hw (fqfill 40 (-1) K) F T Ln Wy (upd (fun j => if j < i then -1 else Fo j) i (-1)) (upd (fun j => if j < i then 0 else Tk j) i 0) Ne ++ rest) H := hP
          have hD : va_D A (wM c0 c1 c2 c3 c4 c5 c6 y cI cZ n ar gl 0 pg ca ac hw (fqfill 40 (-1) K) F T Ln Wy (upd (fun j => if j < i then -1 else Fo j) i (-1)) (upd (fun j => if j < i then 0 else Tk j) i 0) Ne ++ rest) := hD
          refine lv_iinc (v := nI (i + 1)) (lv' := [(2, .int (nI (i + 1))), (0, .ref (y 0)), (1, .int (nI j))]) hx hb dX2_run_36 hl (k := 2) rfl (nI_1 i) (by decide) rfl (fun ls hl => ?_)
          refine lv_goto (tgt := 16) hx hb dX2_run_39 (by decide) ?_
          rw [fq_fills, fq_fills] at hP hD
          exact ih (i + 1) H locs ls (by omega) hP hD hS (lv_sub hl [1, 2, 0] rfl)
    refine lv_iconst (v := 0) hx hb dX2_run_14 (by decide) ?_
    refine lv_istore_n (lv' := [(2, .int 0), (0, .ref (y 0)), (1, .int (nI j))]) hx hb dX2_run_15 rfl hl (by decide) rfl (fun ls hl => ?_)
    exact K16 40 0 H locs ls rfl (by rw [fq_fill0, fq_fill0]; exact hP) (by rw [fq_fill0, fq_fill0]; exact hD) hS (lv_sub hl [1, 2, 0] rfl)
  · refine lv_if_ne (tgt := 10) hx hb dX2_run_5 (by decide) (fun h9 => absurd h9 (by decide)) (fun _ => ?_)
    refine lv_iconst (v := (-1)) hx hb dX2_run_8 (by decide) ?_
    exact fx_iret hx hb hr hlocks hK hS dX2_run_9 (((lo, pg, ca, K), Wy, Fo, Tk), Ne, hw) (by unfold mqrun; rw [fqat_none hn31 h]) hP hD
