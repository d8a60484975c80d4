theorem cw_RX1_102 {R : Room} {s : State} {args : Array Value} {rm : Room} (hts : ∀ w ∈ wsL_law, w.before args s = true) (hR : rm.frames + 1 ≤ R.frames ∧ 8 + (1 + 11) + rm.locals ≤ R.locals) : CallW R s args RX1 RX1 102 yX1_forgetWays cX1_forgetWays 1 none (Cond.code yX1_forgetWays cX1_forgetWays 1 none :: wsL_law) rm rm.cells rm.slots 0 := cwV 0 hts (km_app (km_four km_202 km_203 km_204 km_2) (km_in km_205)) rfl rfl rfl (by decide +kernel) hR
theorem cw_RX1_153 {R : Room} {s : State} {args : Array Value} {rm : Room} (hts : ∀ w ∈ wsL_law, w.before args s = true) (hR : rm.frames + 1 ≤ R.frames ∧ 8 + (3 + 11) + rm.locals ≤ R.locals) : CallW R s args RX1 RX1 153 yX1_leadsToUntaken cX1_leadsToUntaken 3 (some .boolean) (Cond.code yX1_leadsToUntaken cX1_leadsToUntaken 3 (some .boolean) :: wsL_law) rm rm.cells rm.slots 1 := cwV 1 hts (km_app (km_four km_236 km_237 km_238 km_2) (km_in km_239)) rfl rfl rfl (by decide +kernel) hR
set_option maxHeartbeats 4000000 in
set_option maxRecDepth 100000 in
theorem sp_arcN (l : Launch) (dC : Nat → ClassId) (dI : Nat → Nat → Nat) (A : Nat → Prop) (cI cA cZ : ClassId) (ws : va_W) (q0 a : Nat) (e0 w0 : Int32) (ha : ws[q0]? = some (a, .inr (1, [.int 0, .int 0, .null]))) : Met l yX0_init (Cond.code yX0_init cX0_init 4 none :: wsL_law) ({ frames := 1, cells := 0, slots := 0, locals := 14 } : Room) (va_Pc [.ref a, .int e0, .int w0, .null] (fx_Pre (dC, dI) classes (fq_ty cI cA cZ) A ws)) (va_Qv (S := Unit) (fun _ => True) (fx_B (dC, dI) classes (fq_ty cI cA cZ) A (fun _ => ws.set q0 (a, .inr (1, [.int e0, .int w0, .null])))) A) 0 0 A := by
  refine Met.ofW (cc := cX0_init) (maxL := 4) (ret := none) (by decide) rfl ?_
  intro p e s m args below meth c s₁ B0 hml hv
  obtain ⟨rfl, hA, hP, hK, hD, hN⟩ := hv
  have hx := B0.exec
  have hb := B0.bytes
  have hr := B0.returns
  have hts0 := atoms_spec (ws := (Cond.code yX0_init cX0_init 4 none :: wsL_law)) B0.pre
  have hts := fun w (h : w ∈ wsL_law) => hts0 w (List.mem_cons_of_mem _ h)
  have hown : s.vm.findClass RX0 = some m.cls := findClass_of_methodNamed B0.named
  have hlocks := B0.notSynchronized
  have hF : CallFix p m c cX0_init 4 s ([.ref a, .int e0, .int w0, .null] : List Value).toArray wsL_law RX0 := ⟨hx, hb, hml, hown, hts⟩
  have hin : meth.name = "<init>" := (name_of_methodNamed B0.named B0.method).1
  have hS : va_S A s.heap s.heap [] := va_S.rf
  have hl := lv_entry ([.ref a, .int e0, .int w0, .null]) (n := 4) (Nat.le_of_ble_eq_true rfl)
  rw [lg_entry_eq]
  generalize (lg_sl ([.ref a, .int e0, .int w0, .null]) ++ List.replicate (4 - (lg_sl ([.ref a, .int e0, .int w0, .null])).length) Slot.unset).toArray = ls at hl ⊢
  have hl : lv_has ls 4 [(0, .ref a), (1, .int e0), (2, .int w0), (3, .null)] := hl
  have hq0 := (List.getElem?_eq_some_iff.mp ha).1
  refine lv_aload_n hx hb dX0_init_0 rfl (lv_at hl 0 rfl) ?_
  refine W.objInit hx hb hown (hts _ km_198) (hts _ km_14) (hts _ km_15) rfl (by rw [hml]; exact hl.1) rfl dX0_init_1 (Nat.le_of_ble_eq_true rfl) (Nat.le_of_ble_eq_true rfl) ?_
  refine W.eq (g2 := F0 m 4 ls []) rfl ?_
  refine lv_aload_n hx hb dX0_init_4 rfl (lv_at hl 0 rfl) ?_
  refine lv_iload_n hx hb dX0_init_5 rfl (lv_at hl 1 rfl) ?_
  refine va_putF (D := (dC, dI)) (ci := 1) (v := .int e0) (ty := .int) (C := RX0) (T := TX0) (N := 3) hx hb hts inlX0 tyX0 tyX0_ok nmX0 hown hK hP hD hS q0 ha rfl 0 (by decide) (hts _ km_199) (fun _ h9 => h9) rfl hin rfl (by decide +kernel) rfl rfl (Nat.le_of_ble_eq_true rfl) dX0_init_6 (fun H locs hP hD hS => ?_)
  have hP : va_P (dC, dI) classes (ws.set q0 (a, .inr (1, [.int e0, .int 0, .null]))) H := hP
  have hD : va_D A (ws.set q0 (a, .inr (1, [.int e0, .int 0, .null]))) := hD
  have ha0 : (ws.set q0 (a, .inr (1, [.int e0, .int 0, .null])))[q0]? = some (a, .inr (1, [.int e0, .int 0, .null])) := List.getElem?_set_self hq0
  refine lv_aload_n hx hb dX0_init_9 rfl (lv_at hl 0 rfl) ?_
  refine lv_iload_n hx hb dX0_init_10 rfl (lv_at hl 2 rfl) ?_
  refine va_putF (D := (dC, dI)) (ci := 1) (v := .int w0) (ty := .int) (C := RX0) (T := TX0) (N := 3) hx hb hts inlX0 tyX0 tyX0_ok nmX0 hown hK hP hD hS q0 ha0 rfl 1 (by decide) (hts _ km_200) (fun _ h9 => h9) rfl hin rfl (by decide +kernel) rfl rfl (Nat.le_of_ble_eq_true rfl) dX0_init_11 (fun H locs hP hD hS => ?_)
  rw [List.set_set] at hP hD
  have hP : va_P (dC, dI) classes (ws.set q0 (a, .inr (1, [.int e0, .int w0, .null]))) H := hP
  have hD : va_D A (ws.set q0 (a, .inr (1, [.int e0, .int w0, .null]))) := hD
  have ha1 : (ws.set q0 (a, .inr (1, [.int e0, .int w0, .null])))[q0]? = some (a, .inr (1, [.int e0, .int w0, .null])) := List.getElem?_set_self hq0
  refine lv_aload_n hx hb dX0_init_14 rfl (lv_at hl 0 rfl) ?_
  refine lv_aload_nN hx hb dX0_init_15 rfl (lv_at hl 3 rfl) ?_
  refine va_putF (D := (dC, dI)) (ci := 1) (v := .null) (ty := .object "FloorQueue$Arc") (C := RX0) (T := TX0) (N := 3) hx hb hts inlX0 tyX0 tyX0_ok nmX0 hown hK hP hD hS q0 ha1 rfl 2 (by decide) (hts _ km_201) (fun _ h9 => h9) rfl hin rfl (by decide +kernel) rfl rfl (Nat.le_of_ble_eq_true rfl) dX0_init_16 (fun H locs hP hD hS => ?_)
  rw [List.set_set] at hP hD
  have hP : va_P (dC, dI) classes (ws.set q0 (a, .inr (1, [.int e0, .int w0, .null]))) H := hP
  have hD : va_D A (ws.set q0 (a, .inr (1, [.int e0, .int w0, .null]))) := hD
  have ha2 : (ws.set q0 (a, .inr (1, [.int e0, .int w0, .null])))[q0]? = some (a, .inr (1, [.int e0, .int w0, .null])) := List.getElem?_set_self hq0
  exact fx_vret hx hb hr hlocks hK hS dX0_init_19 () trivial hP hD
set_option maxHeartbeats 4000000 in
set_option maxRecDepth 100000 in
theorem sp_arcS (l : Launch) (dC : Nat → ClassId) (dI : Nat → Nat → Nat) (A : Nat → Prop) (cI cA cZ : ClassId) (ws : va_W) (q0 a : Nat) (e0 w0 : Int32) (r : Nat) (ha : ws[q0]? = some (a, .inr (1, [.int 0, .int 0, .null]))) : Met l yX0_init (Cond.code yX0_init cX0_init 4 none :: wsL_law) ({ frames := 1, cells := 0, slots := 0, locals := 14 } : Room) (va_Pc [.ref a, .int e0, .int w0, .ref r] (fx_Pre (dC, dI) classes (fq_ty cI cA cZ) A ws)) (va_Qv (S := Unit) (fun _ => True) (fx_B (dC, dI) classes (fq_ty cI cA cZ) A (fun _ => ws.set q0 (a, .inr (1, [.int e0, .int w0, .ref r])))) A) 0 0 A := by
  refine Met.ofW (cc := cX0_init) (maxL := 4) (ret := none) (by decide) rfl ?_
  intro p e s m args below meth c s₁ B0 hml hv
  obtain ⟨rfl, hA, hP, hK, hD, hN⟩ := hv
  have hx := B0.exec
  have hb := B0.bytes
  have hr := B0.returns
  have hts0 := atoms_spec (ws := (Cond.code yX0_init cX0_init 4 none :: wsL_law)) B0.pre
  have hts := fun w (h : w ∈ wsL_law) => hts0 w (List.mem_cons_of_mem _ h)
  have hown : s.vm.findClass RX0 = some m.cls := findClass_of_methodNamed B0.named
  have hlocks := B0.notSynchronized
  have hF : CallFix p m c cX0_init 4 s ([.ref a, .int e0, .int w0, .ref r] : List Value).toArray wsL_law RX0 := ⟨hx, hb, hml, hown, hts⟩
  have hin : meth.name = "<init>" := (name_of_methodNamed B0.named B0.method).1
  have hS : va_S A s.heap s.heap [] := va_S.rf
  have hl := lv_entry ([.ref a, .int e0, .int w0, .ref r]) (n := 4) (Nat.le_of_ble_eq_true rfl)
  rw [lg_entry_eq]
  generalize (lg_sl ([.ref a, .int e0, .int w0, .ref r]) ++ List.replicate (4 - (lg_sl ([.ref a, .int e0, .int w0, .ref r])).length) Slot.unset).toArray = ls at hl ⊢
  have hl : lv_has ls 4 [(0, .ref a), (1, .int e0), (2, .int w0), (3, .ref r)] := hl
  have hq0 := (List.getElem?_eq_some_iff.mp ha).1
  refine lv_aload_n hx hb dX0_init_0 rfl (lv_at hl 0 rfl) ?_
  refine W.objInit hx hb hown (hts _ km_198) (hts _ km_14) (hts _ km_15) rfl (by rw [hml]; exact hl.1) rfl dX0_init_1 (Nat.le_of_ble_eq_true rfl) (Nat.le_of_ble_eq_true rfl) ?_
  refine W.eq (g2 := F0 m 4 ls []) rfl ?_
  refine lv_aload_n hx hb dX0_init_4 rfl (lv_at hl 0 rfl) ?_
  refine lv_iload_n hx hb dX0_init_5 rfl (lv_at hl 1 rfl) ?_
  refine va_putF (D := (dC, dI)) (ci := 1) (v := .int e0) (ty := .int) (C := RX0) (T := TX0) (N := 3) hx hb hts inlX0 tyX0 tyX0_ok nmX0 hown hK hP hD hS q0 ha rfl 0 (by decide) (hts _ km_199) (fun _ h9 => h9) rfl hin rfl (by decide +kernel) rfl rfl (Nat.le_of_ble_eq_true rfl) dX0_init_6 (fun H locs hP hD hS => ?_)
  have hP : va_P (dC, dI) classes (ws.set q0 (a, .inr (1, [.int e0, .int 0, .null]))) H := hP
  have hD : va_D A (ws.set q0 (a, .inr (1, [.int e0, .int 0, .null]))) := hD
  have ha0 : (ws.set q0 (a, .inr (1, [.int e0, .int 0, .null])))[q0]? = some (a, .inr (1, [.int e0, .int 0, .null])) := List.getElem?_set_self hq0
  refine lv_aload_n hx hb dX0_init_9 rfl (lv_at hl 0 rfl) ?_
  refine lv_iload_n hx hb dX0_init_10 rfl (lv_at hl 2 rfl) ?_
  refine va_putF (D := (dC, dI)) (ci := 1) (v := .int w0) (ty := .int) (C := RX0) (T := TX0) (N := 3) hx hb hts inlX0 tyX0 tyX0_ok nmX0 hown hK hP hD hS q0 ha0 rfl 1 (by decide) (hts _ km_200) (fun _ h9 => h9) rfl hin rfl (by decide +kernel) rfl rfl (Nat.le_of_ble_eq_true rfl) dX0_init_11 (fun H locs hP hD hS => ?_)
  rw [List.set_set] at hP hD
  have hP : va_P (dC, dI) classes (ws.set q0 (a, .inr (1, [.int e0, .int w0, .null]))) H := hP
  have hD : va_D A (ws.set q0 (a, .inr (1, [.int e0, .int w0, .null]))) := hD
  have ha1 : (ws.set q0 (a, .inr (1, [.int e0, .int w0, .null])))[q0]? = some (a, .inr (1, [.int e0, .int w0, .null])) := List.getElem?_set_self hq0
  refine lv_aload_n hx hb dX0_init_14 rfl (lv_at hl 0 rfl) ?_
  refine lv_aload_n hx hb dX0_init_15 rfl (lv_at hl 3 rfl) ?_
  refine va_putF (D := (dC, dI)) (ci := 1) (v := .ref r) (ty := .object "FloorQueue$Arc") (C := RX0) (T := TX0) (N := 3) hx hb hts inlX0 tyX0 tyX0_ok nmX0 hown hK hP hD hS q0 ha1 rfl 2 (by decide) (hts _ km_201) (fun _ h9 => h9) rfl hin rfl (by decide +kernel) rfl rfl (Nat.le_of_ble_eq_true rfl) dX0_init_16 (fun H locs hP hD hS => ?_)
  rw [List.set_set] at hP hD
  have hP : va_P (dC, dI) classes (ws.set q0 (a, .inr (1, [.int e0, .int w0, .ref r]))) H := hP
  have hD : va_D A (ws.set q0 (a, .inr (1, [.int e0, .int w0, .ref r]))) := hD
  have ha2 : (ws.set q0 (a, .inr (1, [.int e0, .int w0, .ref r])))[q0]? = some (a, .inr (1, [.int e0, .int w0, .ref r])) := List.getElem?_set_self hq0
  exact fx_vret hx hb hr hlocks hK hS dX0_init_19 () trivial hP hD
theorem sp_arc0 (l : Launch) (dC : Nat → ClassId) (dI : Nat → Nat → Nat) (A : Nat → Prop) (cI cA cZ : ClassId) (ws : va_W) (q0 a : Nat) (e0 w0 : Int32) (r : Option Nat) (ha : ws[q0]? = some (a, .inr (1, [.int 0, .int 0, .null]))) : Met l yX0_init (Cond.code yX0_init cX0_init 4 none :: wsL_law) ({ frames := 1, cells := 0, slots := 0, locals := 14 } : Room) (va_Pc [.ref a, .int e0, .int w0, va_rf r] (fx_Pre (dC, dI) classes (fq_ty cI cA cZ) A ws)) (va_Qv (S := Unit) (fun _ => True) (fx_B (dC, dI) classes (fq_ty cI cA cZ) A (fun _ => ws.set q0 (a, .inr (1, [.int e0, .int w0, va_rf r])))) A) 0 0 A := by
  cases r with
  | none => exact sp_arcN l dC dI A cI cA cZ ws q0 a e0 w0 ha
  | some r => exact sp_arcS l dC dI A cI cA cZ ws q0 a e0 w0 r ha
set_option maxHeartbeats 4000000 in
set_option maxRecDepth 100000 in
theorem sp_arc (l : Launch) (dC : Nat → ClassId) (dI : Nat → Nat → Nat) (A : Nat → Prop) (cI cA cZ : ClassId) (rest : va_W) (z : Nat → Nat) (n : Nat) (hn : n ≤ 40) (ar gl : Int32) (fl pr pg ky ac : Int32) (K B M Ds Bf : Nat → Int32) (L : Nat → Option Nat) (xu xv w : Int32)  : Met l yX1_arc (Cond.code yX1_arc cX1_arc 4 (some .int) :: wsL_law) ({ frames := 2, cells := 1, slots := 3, locals := 43 } : Room) (va_Pc [.ref (z 0), .int xu, .int xv, .int w] (fx_Pre (dC, dI) classes (fq_ty cI cA cZ) A (wX z cI cA n ar gl fl pr pg ky ac K B M Ds Bf L ++ rest))) (va_Qi (S := (Option Nat)) (fun r o => r = fqarcR n ar gl ac xu xv w ∧ (r = 0 ↔ ∃ q, o = some q)) (fx_B (dC, dI) classes (fq_ty cI cA cZ) A (fun o => match o with | none => (wX z cI cA n ar gl fl pr pg ky ac K B M Ds Bf L ++ rest) | some q => wX z cI cA n ar gl fl pr pg ky (ac + 1) K B M (fqfill n (-1) Ds) (fqfill n (-1) Bf) (va_up L (fqn xu) (some q)) ++ (rest ++ [(q, .inr (1, [.int xv, .int w, va_rf (L (fqn xu))]))]))) A) 1 3 A := by
  refine Met.ofW (cc := cX1_arc) (maxL := 4) (ret := (some .int)) (by decide) rfl ?_
  intro p e s m args below meth c s₁ B0 hml hv
  obtain ⟨rfl, hA, hP, hK, hD, hN⟩ := hv
  have hx := B0.exec
  have hb := B0.bytes
  have hr := B0.returns
  have hts0 := atoms_spec (ws := (Cond.code yX1_arc cX1_arc 4 (some .int) :: wsL_law)) B0.pre
  have hts := fun w (h : w ∈ wsL_law) => hts0 w (List.mem_cons_of_mem _ h)
  have hown : s.vm.findClass RX1 = some m.cls := findClass_of_methodNamed B0.named
  have hlocks := B0.notSynchronized
  have hF : CallFix p m c cX1_arc 4 s ([.ref (z 0), .int xu, .int xv, .int w] : List Value).toArray wsL_law RX1 := ⟨hx, hb, hml, hown, hts⟩
  have hS : va_S A s.heap s.heap [] := va_S.rf
  have hl := lv_entry ([.ref (z 0), .int xu, .int xv, .int w]) (n := 4) (Nat.le_of_ble_eq_true rfl)
  rw [lg_entry_eq]
  generalize (lg_sl ([.ref (z 0), .int xu, .int xv, .int w]) ++ List.replicate (4 - (lg_sl ([.ref (z 0), .int xu, .int xv, .int w])).length) Slot.unset).toArray = ls at hl ⊢
  have hl : lv_has ls 4 [(0, .ref (z 0)), (1, .int xu), (2, .int xv), (3, .int w)] := hl
  have hn31 : n < 2 ^ 31 := by omega
  refine lv_aload_n hx hb dX1_arc_0 rfl (lv_at hl 0 rfl) ?_
  refine lv_iload_n hx hb dX1_arc_1 rfl (lv_at hl 1 rfl) ?_
  refine fx_Vs (rest := []) (sp_isItem l dC dI A cI cA cZ rest z n hn ar gl fl pr pg ky ac K B M Ds Bf L xu) hF (cw_RX1_56 hts ⟨Nat.le_of_ble_eq_true rfl, Nat.le_of_ble_eq_true rfl⟩) hA hS hP hK hD hN 0 0 rfl rfl rfl hl.1 rfl (Nat.le_of_ble_eq_true rfl) dX1_arc_2 ⟨Nat.le_of_ble_eq_true rfl, Nat.le_of_ble_eq_true rfl⟩ (fun r h => ?_)
  rcases h with ⟨rfl, ⟨j, hj, rfl⟩⟩ | ⟨rfl, h⟩
  · refine lv_if_eq (tgt := 16) hx hb dX1_arc_5 (by decide) (fun h9 => absurd h9 (by decide)) (fun _ => ?_)
    refine lv_aload_n hx hb dX1_arc_8 rfl (lv_at hl 0 rfl) ?_
    refine lv_iload_n hx hb dX1_arc_9 rfl (lv_at hl 2 rfl) ?_
    refine fx_Vs (rest := []) (sp_isItem l dC dI A cI cA cZ rest z n hn ar gl fl pr pg ky ac K B M Ds Bf L xv) hF (cw_RX1_56 hts ⟨Nat.le_of_ble_eq_true rfl, Nat.le_of_ble_eq_true rfl⟩) hA hS hP hK hD hN 0 0 rfl rfl rfl hl.1 rfl (Nat.le_of_ble_eq_true rfl) dX1_arc_10 ⟨Nat.le_of_ble_eq_true rfl, Nat.le_of_ble_eq_true rfl⟩ (fun r h => ?_)
    rcases h with ⟨rfl, ⟨k, hk, rfl⟩⟩ | ⟨rfl, h⟩
    · refine lv_if_ne (tgt := 18) hx hb dX1_arc_13 (by decide) (fun _ => ?_) (fun h9 => absurd h9 (by decide))
      refine lv_iload_n hx hb dX1_arc_18 rfl (lv_at hl 3 rfl) ?_
      refine lv_if_lt (tgt := 30) hx hb dX1_arc_19 (by decide) (fun c_19 => ?_) (fun c_19 => ?_)
      · refine lv_bipush (v := (-2)) hx hb dX1_arc_30 (by decide) ?_
        refine W.widen (k := 1) (n := 3) (by omega) (by omega) ?_
        exact fx_iret hx hb hr hlocks hK hS dX1_arc_32 none ⟨by unfold fqarcR; rw [fqat_some hj hn31, fqat_some hk hn31]; dsimp only; rw [if_pos c_19], ⟨fun h9 => absurd h9 (by decide), fun h9 => by obtain ⟨q, h9⟩ := h9; cases h9⟩⟩ hP hD
      · refine lv_iload_n hx hb dX1_arc_22 rfl (lv_at hl 3 rfl) ?_
        refine lv_aload_n hx hb dX1_arc_23 rfl (lv_at hl 0 rfl) ?_
        refine va_get (D := (dC, dI)) (ci := 0) (v := .int gl) (C := RX1) (T := TX1) (N := 14) hx hb hts inlX1 hown hK hP 0 rfl rfl 2 (by decide) (hts _ km_25) (fun _ h9 => h9) rfl dX1_arc_24 ?_
        refine lv_icmp_le (tgt := 33) hx hb dX1_arc_27 (by decide) (fun c_27 => ?_) (fun c_27 => ?_)
        · refine lv_aload_n hx hb dX1_arc_33 rfl (lv_at hl 0 rfl) ?_
          refine va_get (D := (dC, dI)) (ci := 0) (v := .int ac) (C := RX1) (T := TX1) (N := 14) hx hb hts inlX1 hown hK hP 0 rfl rfl 11 (by decide) (hts _ km_193) (fun _ h9 => h9) rfl dX1_arc_34 ?_
          refine lv_aload_n hx hb dX1_arc_37 rfl (lv_at hl 0 rfl) ?_
          refine va_get (D := (dC, dI)) (ci := 0) (v := .int ar) (C := RX1) (T := TX1) (N := 14) hx hb hts inlX1 hown hK hP 0 rfl rfl 1 (by decide) (hts _ km_24) (fun _ h9 => h9) rfl dX1_arc_38 ?_
          refine lv_icmp_lt (tgt := 47) hx hb dX1_arc_41 (by decide) (fun c_41 => ?_) (fun c_41 => ?_)
          · refine lv_aload_n hx hb dX1_arc_47 rfl (lv_at hl 0 rfl) ?_
            refine va_get (D := (dC, dI)) (ci := 0) (v := .ref (z 4)) (C := RX1) (T := TX1) (N := 14) hx hb hts inlX1 hown hK hP 0 rfl rfl 10 (by decide) (hts _ km_31) (fun _ h9 => h9) rfl dX1_arc_48 ?_
            refine lv_iload_n hx hb dX1_arc_51 rfl (lv_at hl 1 rfl) ?_
            refine va_new (ci := 1) (fs := [.int 0, .int 0, .null]) (C := RX0) (T := TX0) (N := 3) hx hb hts inlX0 tyX0 tyX0_ok hown (hts _ km_30) (hts _ km_194) (hts _ km_195) hK hP hD hS hA rfl (fun j9 hj9 => by rcases (show j9 = 0 ∨ j9 = 1 ∨ j9 = 2 by omega) with rfl | rfl | rfl <;> rfl) (Nat.le_of_ble_eq_true rfl) (Nat.le_of_ble_eq_true rfl) dX1_arc_52 (fun q H hP hD hS => ?_)
            refine lv_dup hx hb dX1_arc_55 rfl ?_
            refine lv_iload_n hx hb dX1_arc_56 rfl (lv_at hl 2 rfl) ?_
            refine lv_iload_n hx hb dX1_arc_57 rfl (lv_at hl 3 rfl) ?_
            refine lv_aload_n hx hb dX1_arc_58 rfl (lv_at hl 0 rfl) ?_
            refine va_get (D := (dC, dI)) (ci := 0) (v := .ref (z 4)) (C := RX1) (T := TX1) (N := 14) hx hb hts inlX1 hown hK hP 0 rfl rfl 10 (by decide) (hts _ km_31) (fun _ h9 => h9) rfl dX1_arc_59 ?_
            refine lv_iload_n hx hb dX1_arc_62 rfl (lv_at hl 1 rfl) ?_
            refine fx_aldq hx hb hK hP 4 1 rfl rfl j rfl hj hn31 dX1_arc_63 ?_
            have cwN := va_cnB (R := (headSpec (Cond.code yX1_arc cX1_arc 4 (some .int) :: wsL_law) ({ frames := 2, cells := 1, slots := 3, locals := 43 } : Room)).room) (rm := ({ frames := 1, cells := 0, slots := 0, locals := 14 } : Room)) 3 hts (km_in km_197) rfl rfl rfl hN.2.2.2.1 (hts _ km_195) (by decide +kernel) ⟨Nat.le_of_ble_eq_true rfl, Nat.le_of_ble_eq_true rfl⟩
            refine fx_IN (rest := [.ref q, .int (nI j), .ref (z 4)]) (sp_arc0 l dC dI A cI cA cZ ((wX z cI cA n ar gl fl pr pg ky ac K B M Ds Bf L ++ rest) ++ [(q, .inr (1, [.int 0, .int 0, .null]))]) (wX z cI cA n ar gl fl pr pg ky ac K B M Ds Bf L ++ rest).length q (nI k) w (L j) (fq_last _ _)) hF ⟨cwN, rfl, hts _ km_196⟩ hA hS hP hK hD hN rfl hl.1 rfl (Nat.le_of_ble_eq_true rfl) dX1_arc_64 ⟨Nat.le_of_ble_eq_true rfl, Nat.le_of_ble_eq_true rfl⟩ (fun u H locs _ hP hD hS => ?_)
            rw [fq_lastset] at hP hD
            refine fx_astq (r := (RX0, TX0, 3)) hx hb hK hP hD hS 4 1 (wX z cI cA n ar gl fl pr pg ky ac K B M Ds Bf L ++ rest).length 1 rfl rfl (fq_last _ _) rfl j rfl hj hn31 dX1_arc_67 (fun H locs hP hD hS => ?_)
            have hP : va_P (dC, dI) classes (wX z cI cA n ar gl fl pr pg ky ac K B M Ds Bf (va_up L j (some q)) ++ (rest ++ [(q, .inr (1, [.int (nI k), .int w, va_rf (L j)]))])) H := hP
            have hD : va_D A (wX z cI cA n ar gl fl pr pg ky ac K B M Ds Bf (va_up L j (some q)) ++ (rest ++ [(q, .inr (1, [.int (nI k), .int w, va_rf (L j)]))])) := hD
            refine lv_aload_n hx hb dX1_arc_68 rfl (lv_at hl 0 rfl) ?_
            refine lv_dup hx hb dX1_arc_69 rfl ?_
            refine va_get (D := (dC, dI)) (ci := 0) (v := .int ac) (C := RX1) (T := TX1) (N := 14) hx hb hts inlX1 hown hK hP 0 rfl rfl 11 (by decide) (hts _ km_193) (fun _ h9 => h9) rfl dX1_arc_70 ?_
            refine lv_iconst (v := 1) hx hb dX1_arc_73 (by decide) ?_
            refine lv_iadd hx hb dX1_arc_74 ?_
            refine va_put (D := (dC, dI)) (ci := 0) (v := .int (ac + 1)) (ty := .int) (C := RX1) (T := TX1) (N := 14) hx hb hts inlX1 tyX1 tyX1_ok nmX1 hown hK hP hD hS 0 rfl rfl 11 (by decide) (hts _ km_193) (fun _ h9 => h9) rfl (by decide +kernel) rfl rfl (Nat.le_of_ble_eq_true rfl) dX1_arc_75 (fun H locs hP hD hS => ?_)
            have hP : va_P (dC, dI) classes (wX z cI cA n ar gl fl pr pg ky (ac + 1) K B M Ds Bf (va_up L j (some q)) ++ (rest ++ [(q, .inr (1, [.int (nI k), .int w, va_rf (L j)]))])) H := hP
            have hD : va_D A (wX z cI cA n ar gl fl pr pg ky (ac + 1) K B M Ds Bf (va_up L j (some q)) ++ (rest ++ [(q, .inr (1, [.int (nI k), .int w, va_rf (L j)]))])) := hD
            refine lv_aload_n hx hb dX1_arc_78 rfl (lv_at hl 0 rfl) ?_
            refine fx_Vv (rest := []) (sp_forget l dC dI A cI cA cZ (rest ++ [(q, .inr (1, [.int (nI k), .int w, va_rf (L j)]))]) z n hn ar gl fl pr pg ky (ac + 1) K B M Ds Bf (va_up L j (some q))) hF (cw_RX1_102 hts ⟨Nat.le_of_ble_eq_true rfl, Nat.le_of_ble_eq_true rfl⟩) hA hS hP hK hD hN 0 0 rfl rfl rfl hl.1 rfl (Nat.le_of_ble_eq_true rfl) dX1_arc_79 ⟨Nat.le_of_ble_eq_true rfl, Nat.le_of_ble_eq_true rfl⟩ (fun u H locs h hP hD hS => ?_)
            subst h
            have hP : va_P (dC, dI) classes (wX z cI cA n ar gl fl pr pg ky (ac + 1) K B M (fqfill n (-1) Ds) (fqfill n (-1) Bf) (va_up L j (some q)) ++ (rest ++ [(q, .inr (1, [.int (nI k), .int w, va_rf (L j)]))])) H := hP
            have hD : va_D A (wX z cI cA n ar gl fl pr pg ky (ac + 1) K B M (fqfill n (-1) Ds) (fqfill n (-1) Bf) (va_up L j (some q)) ++ (rest ++ [(q, .inr (1, [.int (nI k), .int w, va_rf (L j)]))])) := hD
            refine lv_iconst (v := 0) hx hb dX1_arc_82 (by decide) ?_
            exact fx_iret hx hb hr hlocks hK hS dX1_arc_83 (some q) ⟨by unfold fqarcR; rw [fqat_some hj hn31, fqat_some hk hn31]; dsimp only; rw [if_neg c_19, if_pos c_27, if_pos c_41], ⟨fun _ => ⟨q, rfl⟩, fun _ => rfl⟩⟩ (by rw [fqn_nI (by omega)]; exact hP) (by rw [fqn_nI (by omega)]; exact hD)
          · refine lv_bipush (v := (-3)) hx hb dX1_arc_44 (by decide) ?_
            refine W.widen (k := 1) (n := 3) (by omega) (by omega) ?_
            exact fx_iret hx hb hr hlocks hK hS dX1_arc_46 none ⟨by unfold fqarcR; rw [fqat_some hj hn31, fqat_some hk hn31]; dsimp only; rw [if_neg c_19, if_pos c_27, if_neg c_41], ⟨fun h9 => absurd h9 (by decide), fun h9 => by obtain ⟨q, h9⟩ := h9; cases h9⟩⟩ hP hD
        · refine lv_bipush (v := (-2)) hx hb dX1_arc_30 (by decide) ?_
          refine W.widen (k := 1) (n := 3) (by omega) (by omega) ?_
          exact fx_iret hx hb hr hlocks hK hS dX1_arc_32 none ⟨by unfold fqarcR; rw [fqat_some hj hn31, fqat_some hk hn31]; dsimp only; rw [if_neg c_19, if_neg c_27], ⟨fun h9 => absurd h9 (by decide), fun h9 => by obtain ⟨q, h9⟩ := h9; cases h9⟩⟩ hP hD
    · refine lv_if_ne (tgt := 18) hx hb dX1_arc_13 (by decide) (fun h9 => absurd h9 (by decide)) (fun _ => ?_)
      refine lv_iconst (v := (-1)) hx hb dX1_arc_16 (by decide) ?_
      refine W.widen (k := 1) (n := 3) (by omega) (by omega) ?_
      exact fx_iret hx hb hr hlocks hK hS dX1_arc_17 none ⟨by unfold fqarcR; rw [fqat_some hj hn31, fqat_none hn31 h], ⟨fun h9 => absurd h9 (by decide), fun h9 => by obtain ⟨q, h9⟩ := h9; cases h9⟩⟩ hP hD
  · refine lv_if_eq (tgt := 16) hx hb dX1_arc_5 (by decide) (fun _ => ?_) (fun h9 => absurd h9 (by decide))
    refine lv_iconst (v := (-1)) hx hb dX1_arc_16 (by decide) ?_
    refine W.widen (k := 1) (n := 3) (by omega) (by omega) ?_
    exact fx_iret hx hb hr hlocks hK hS dX1_arc_17 none ⟨by unfold fqarcR; rw [fqat_none hn31 h], ⟨fun h9 => absurd h9 (by decide), fun h9 => by obtain ⟨q, h9⟩ := h9; cases h9⟩⟩ hP hD
set_option maxHeartbeats 4000000 in
set_option maxRecDepth 100000 in
theorem sp_leads (l : Launch) (dC : Nat → ClassId) (dI : Nat → Nat → Nat) (A : Nat → Prop) (cI cA cZ : ClassId) (rest : va_W) (z : Nat → Nat) (n : Nat) (hn : n ≤ 40) (ar gl : Int32) (fl pr pg ky ac : Int32) (K B M Ds Bf : Nat → Int32) (L : Nat → Option Nat) (j : Nat) (t : List (Int32 × Int32)) (hj : j < n) (hch : fqch rest (L j) t) (hen : fqends n t) : Met l yX1_leadsToUntaken (Cond.code yX1_leadsToUntaken cX1_leadsToUntaken 3 (some .boolean) :: wsL_law) ({ frames := 0, cells := 0, slots := 0, locals := 0 } : Room) (va_Pc [.ref (z 0), .int (nI j)] (fx_Pre (dC, dI) classes (fq_ty cI cA cZ) A (wX z cI cA n ar gl fl pr pg ky ac K B M Ds Bf L ++ rest))) (vp_Si (fun r => (r = 1 ∧ fqtoo1 Ds t = true) ∨ (r = 0 ∧ fqtoo1 Ds t = false))) 0 0 (fun _ => False) := by
  refine Met.ofW (cc := cX1_leadsToUntaken) (maxL := 3) (ret := (some .boolean)) (by decide) rfl ?_
  intro p e s m args below meth c s₁ B0 hml hv
  obtain ⟨rfl, hA, hP, hK, hD, hN⟩ := hv
  have hx := B0.exec
  have hb := B0.bytes
  have hr := B0.returns
  have hts0 := atoms_spec (ws := (Cond.code yX1_leadsToUntaken cX1_leadsToUntaken 3 (some .boolean) :: wsL_law)) B0.pre
  have hts := fun w (h : w ∈ wsL_law) => hts0 w (List.mem_cons_of_mem _ h)
  have hown : s.vm.findClass RX1 = some m.cls := findClass_of_methodNamed B0.named
  have hlocks := B0.notSynchronized
  have hF : CallFix p m c cX1_leadsToUntaken 3 s ([.ref (z 0), .int (nI j)] : List Value).toArray wsL_law RX1 := ⟨hx, hb, hml, hown, hts⟩
  have hS : va_S A s.heap s.heap [] := va_S.rf
  have hl := lv_entry ([.ref (z 0), .int (nI j)]) (n := 3) (Nat.le_of_ble_eq_true rfl)
  rw [lg_entry_eq]
  generalize (lg_sl ([.ref (z 0), .int (nI j)]) ++ List.replicate (3 - (lg_sl ([.ref (z 0), .int (nI j)])).length) Slot.unset).toArray = ls at hl ⊢
  have hl : lv_has ls 3 [(0, .ref (z 0)), (1, .int (nI j))] := hl
  have hn31 : n < 2 ^ 31 := by omega
  have K0 : ∀ (t' : List (Int32 × Int32)) (o : Option Nat) (ls : Array Slot), fqch rest o t' → fqends n t' → fqtoo1 Ds t' = fqtoo1 Ds t → lv_has ls 3 [(0, .ref (z 0)), (1, .int (nI j)), (2, va_rf o)] → W p l e (headSpec (Cond.code yX1_leadsToUntaken cX1_leadsToUntaken 3 (some .boolean) :: wsL_law) ({ frames := 0, cells := 0, slots := 0, locals := 0 } : Room)).room s m ([.ref (z 0), .int (nI j)] : List Value).toArray below meth c s.heap [] 0 0 (MQ below (vp_Si (fun r => (r = 1 ∧ fqtoo1 Ds t = true) ∨ (r = 0 ∧ fqtoo1 Ds t = false))) ([.ref (z 0), .int (nI j)] : List Value).toArray s 0 0 (fun _ => False)) (F0 m 7 ls []) := by
    intro t'
    induction t' with
    | nil =>
      intro o ls hc he hq hl
      have hc : o = none := hc
      subst hc
      have hl : lv_has ls 3 [(0, .ref (z 0)), (1, .int (nI j)), (2, .null)] := hl
      refine lv_aload_nN hx hb dX1_leadsToUntaken_7 rfl (lv_at hl 2 rfl) ?_
      refine lv_ifnullN (tgt := 34) hx hb dX1_leadsToUntaken_8 (by decide) ?_
      refine lv_iconst (v := 0) hx hb dX1_leadsToUntaken_34 (by decide) ?_
      exact fx_bret hx hb hr (Or.inl rfl) hlocks dX1_leadsToUntaken_35 (Or.inr ⟨rfl, hq.symm⟩)
    | cons x r ih =>
      obtain ⟨e0, w0⟩ := x
      rintro o ls ⟨a, nx, rfl, ⟨k9, hk9⟩, hc⟩ he hq hl
      obtain ⟨e1, he1, hee⟩ := he _ List.mem_cons_self
      have hee : e0 = nI e1 := hee
      subst hee
      have hl : lv_has ls 3 [(0, .ref (z 0)), (1, .int (nI j)), (2, .ref a)] := hl
      have hq1 : fqtoo1 Ds ((nI e1, w0) :: r) = (decide (Ds e1 = -1) || fqtoo1 Ds r) := by show (decide (Ds (fqn (nI e1)) = -1) || _) = _; rw [fqn_nI (by omega)]; rfl
      refine lv_aload_n hx hb dX1_leadsToUntaken_7 rfl (lv_at hl 2 rfl) ?_
      refine lv_ifnull hx hb dX1_leadsToUntaken_8 ?_
      refine lv_aload_n hx hb dX1_leadsToUntaken_11 rfl (lv_at hl 0 rfl) ?_
      refine va_get (D := (dC, dI)) (ci := 0) (v := .ref (z 5)) (C := RX1) (T := TX1) (N := 14) hx hb hts inlX1 hown hK hP 0 rfl rfl 12 (by decide) (hts _ km_32) (fun _ h9 => h9) rfl dX1_leadsToUntaken_12 ?_
      refine lv_aload_n hx hb dX1_leadsToUntaken_15 rfl (lv_at hl 2 rfl) ?_
      refine va_getN (D := (dC, dI)) (ci := 1) (v := .int (nI e1)) (C := RX0) (T := TX0) (N := 3) hx hb hts inlX0 hown hK hP (k9 + 7) hk9 rfl 0 (by decide) (hN.1.use rfl) (fun _ h9 => h9) rfl dX1_leadsToUntaken_16 ?_
      refine fx_ald hx hb hK hP 5 0 rfl rfl e1 rfl he1 hn31 dX1_leadsToUntaken_19 ?_
      refine lv_iconst (v := (-1)) hx hb dX1_leadsToUntaken_20 (by decide) ?_
      refine lv_icmp_ne (tgt := 26) hx hb dX1_leadsToUntaken_21 (by decide) (fun c_21 => ?_) (fun c_21 => ?_)
      · refine lv_aload_n hx hb dX1_leadsToUntaken_26 rfl (lv_at hl 2 rfl) ?_
        refine va_getN (D := (dC, dI)) (ci := 1) (v := va_rf nx) (C := RX0) (T := TX0) (N := 3) hx hb hts inlX0 hown hK hP (k9 + 7) hk9 rfl 2 (by decide) (hN.2.2.1.use rfl) (fun _ h9 => h9) rfl dX1_leadsToUntaken_27 ?_
        refine fx_astore_nq (lv' := [(2, va_rf nx), (0, .ref (z 0)), (1, .int (nI j))]) hx hb dX1_leadsToUntaken_30 rfl hl (by decide) rfl (fun ls hl => ?_)
        refine lv_goto (tgt := 7) hx hb dX1_leadsToUntaken_31 (by decide) ?_
        exact ih nx ls hc (fun a h => he a (List.mem_cons_of_mem _ h)) (by rw [← hq, hq1]; simp [c_21]) (lv_sub hl [1, 2, 0] rfl)
      · have c_21 : Ds e1 = -1 := c_21
        refine lv_iconst (v := 1) hx hb dX1_leadsToUntaken_24 (by decide) ?_
        exact fx_bret hx hb hr (Or.inr rfl) hlocks dX1_leadsToUntaken_25 (Or.inl ⟨rfl, by rw [← hq, hq1]; simp [c_21]⟩)
  refine lv_aload_n hx hb dX1_leadsToUntaken_0 rfl (lv_at hl 0 rfl) ?_
  refine va_get (D := (dC, dI)) (ci := 0) (v := .ref (z 4)) (C := RX1) (T := TX1) (N := 14) hx hb hts inlX1 hown hK hP 0 rfl rfl 10 (by decide) (hts _ km_31) (fun _ h9 => h9) rfl dX1_leadsToUntaken_1 ?_
  refine lv_iload_n hx hb dX1_leadsToUntaken_4 rfl (lv_at hl 1 rfl) ?_
  refine fx_aldq hx hb hK hP 4 1 rfl rfl j rfl hj hn31 dX1_leadsToUntaken_5 ?_
  refine fx_astore_nq (lv' := [(2, va_rf (L j)), (0, .ref (z 0)), (1, .int (nI j))]) hx hb dX1_leadsToUntaken_6 rfl hl (by decide) rfl (fun ls hl => ?_)
  exact K0 t (L j) ls hch hen rfl (lv_sub hl [1, 2, 0] rfl)
set_option maxHeartbeats 4000000 in
set_option maxRecDepth 100000 in
theorem sp_too (l : Launch) (dC : Nat → ClassId) (dI : Nat → Nat → Nat) (A : Nat → Prop) (cI cA cZ : ClassId) (rest : va_W) (z : Nat → Nat) (n : Nat) (hn : n ≤ 40) (ar gl : Int32) (fl pr pg ky ac : Int32) (K B M Ds Bf : Nat → Int32) (L : Nat → Option Nat) (as : Nat → List (Int32 × Int32)) (hch : ∀ i, i < n → fqch rest (L i) (as i) ∧ fqends n (as i)) : Met l yX1_isSomeWayTooLong (Cond.code yX1_isSomeWayTooLong cX1_isSomeWayTooLong 2 (some .boolean) :: wsL_law) ({ frames := 1, cells := 0, slots := 0, locals := 22 } : Room) (va_Pc [.ref (z 0)] (fx_Pre (dC, dI) classes (fq_ty cI cA cZ) A (wX z cI cA n ar gl fl pr pg ky ac K B M Ds Bf L ++ rest))) (vp_Si (fun r => (r = 1 ∧ fqtoo n as Ds = false) ∨ (r = 0 ∧ fqtoo n as Ds = true))) 0 0 (fun _ => False) := by
  refine Met.ofW (cc := cX1_isSomeWayTooLong) (maxL := 2) (ret := (some .boolean)) (by decide) rfl ?_
  intro p e s m args below meth c s₁ B0 hml hv
  obtain ⟨rfl, hA, hP, hK, hD, hN⟩ := hv
  have hx := B0.exec
  have hb := B0.bytes
  have hr := B0.returns
  have hts0 := atoms_spec (ws := (Cond.code yX1_isSomeWayTooLong cX1_isSomeWayTooLong 2 (some .boolean) :: wsL_law)) B0.pre
  have hts := fun w (h : w ∈ wsL_law) => hts0 w (List.mem_cons_of_mem _ h)
  have hown : s.vm.findClass RX1 = some m.cls := findClass_of_methodNamed B0.named
  have hlocks := B0.notSynchronized
  have hF : CallFix p m c cX1_isSomeWayTooLong 2 s ([.ref (z 0)] : List Value).toArray wsL_law RX1 := ⟨hx, hb, hml, hown, hts⟩
  have hS : va_S A s.heap s.heap [] := va_S.rf
  have hl := lv_entry ([.ref (z 0)]) (n := 2) (Nat.le_of_ble_eq_true rfl)
  rw [lg_entry_eq]
  generalize (lg_sl ([.ref (z 0)]) ++ List.replicate (2 - (lg_sl ([.ref (z 0)])).length) Slot.unset).toArray = ls at hl ⊢
  have hl : lv_has ls 2 [(0, .ref (z 0))] := hl
  have hn31 : n < 2 ^ 31 := by omega
  have K0 : ∀ (d i : Nat) (ls : Array Slot), d + i = n → (fqall (fun i => decide (Ds i = -1) || !(fqtoo1 Ds (as i))) d i = fqtoo n as Ds) → lv_has ls 2 [(0, .ref (z 0)), (1, .int (nI i))] → W p l e (headSpec (Cond.code yX1_isSomeWayTooLong cX1_isSomeWayTooLong 2 (some .boolean) :: wsL_law) ({ frames := 1, cells := 0, slots := 0, locals := 22 } : Room)).room s m ([.ref (z 0)] : List Value).toArray below meth c s.heap [] 0 0 (MQ below (vp_Si (fun r => (r = 1 ∧ fqtoo n as Ds = false) ∨ (r = 0 ∧ fqtoo n as Ds = true))) ([.ref (z 0)] : List Value).toArray s 0 0 (fun _ => False)) (F0 m 2 ls []) := by
    intro d
    induction d with
    | zero =>
      intro i  ls hdi hq hl
      have e0 : i = n := by omega
      refine lv_iload_n hx hb dX1_isSomeWayTooLong_2 rfl (lv_at hl 1 rfl) ?_
      refine lv_aload_n hx hb dX1_isSomeWayTooLong_3 rfl (lv_at hl 0 rfl) ?_
      refine va_get (D := (dC, dI)) (ci := 0) (v := .int (nI n)) (C := RX1) (T := TX1) (N := 14) hx hb hts inlX1 hown hK hP 0 rfl rfl 0 (by decide) (hts _ km_23) (fun _ h9 => h9) rfl dX1_isSomeWayTooLong_4 ?_
      refine lv_icmp_ge (tgt := 36) hx hb dX1_isSomeWayTooLong_7 (by decide) (fun c_7 => ?_) (fun c_7 => ?_)
      · refine lv_iconst (v := 0) hx hb dX1_isSomeWayTooLong_36 (by decide) ?_
        exact fx_bret hx hb hr (Or.inl rfl) hlocks dX1_isSomeWayTooLong_37 (Or.inr ⟨rfl, hq.symm⟩)
      · exact absurd (nI_le (by omega) (by omega)) c_7
    | succ d ih =>
      intro i  ls hdi hq hl
      have hi : i < n := by omega
      rw [fqall_s] at hq
      have hq : ((decide (Ds i = -1) || !(fqtoo1 Ds (as i))) && fqall (fun i => decide (Ds i = -1) || !(fqtoo1 Ds (as i))) d (i + 1)) = fqtoo n as Ds := hq
      refine lv_iload_n hx hb dX1_isSomeWayTooLong_2 rfl (lv_at hl 1 rfl) ?_
      refine lv_aload_n hx hb dX1_isSomeWayTooLong_3 rfl (lv_at hl 0 rfl) ?_
      refine va_get (D := (dC, dI)) (ci := 0) (v := .int (nI n)) (C := RX1) (T := TX1) (N := 14) hx hb hts inlX1 hown hK hP 0 rfl rfl 0 (by decide) (hts _ km_23) (fun _ h9 => h9) rfl dX1_isSomeWayTooLong_4 ?_
      refine lv_icmp_ge (tgt := 36) hx hb dX1_isSomeWayTooLong_7 (by decide) (fun c_7 => ?_) (fun c_7 => ?_)
      · exact absurd c_7 (nI_ge hi hn31)
      · refine lv_aload_n hx hb dX1_isSomeWayTooLong_10 rfl (lv_at hl 0 rfl) ?_
        refine va_get (D := (dC, dI)) (ci := 0) (v := .ref (z 5)) (C := RX1) (T := TX1) (N := 14) hx hb hts inlX1 hown hK hP 0 rfl rfl 12 (by decide) (hts _ km_32) (fun _ h9 => h9) rfl dX1_isSomeWayTooLong_11 ?_
        refine lv_iload_n hx hb dX1_isSomeWayTooLong_14 rfl (lv_at hl 1 rfl) ?_
        refine fx_ald hx hb hK hP 5 0 rfl rfl i rfl hi hn31 dX1_isSomeWayTooLong_15 ?_
        refine lv_iconst (v := (-1)) hx hb dX1_isSomeWayTooLong_16 (by decide) ?_
        refine lv_icmp_eq (tgt := 30) hx hb dX1_isSomeWayTooLong_17 (by decide) (fun c_17 => ?_) (fun c_17 => ?_)
        · refine lv_iinc (v := nI (i + 1)) (lv' := [(1, .int (nI (i + 1))), (0, .ref (z 0))]) hx hb dX1_isSomeWayTooLong_30 hl (k := 1) rfl (nI_1 i) (by decide) rfl (fun ls hl => ?_)
          refine lv_goto (tgt := 2) hx hb dX1_isSomeWayTooLong_33 (by decide) ?_
          exact ih (i + 1) ls (by omega) (by rw [← hq]; simp [c_17]) (lv_sub hl [1, 0] rfl)
        · refine lv_aload_n hx hb dX1_isSomeWayTooLong_20 rfl (lv_at hl 0 rfl) ?_
          refine lv_iload_n hx hb dX1_isSomeWayTooLong_21 rfl (lv_at hl 1 rfl) ?_
          refine fx_Vs (rest := []) (sp_leads l dC dI A cI cA cZ rest z n hn ar gl fl pr pg ky ac K B M Ds Bf L i (as i) hi (hch i hi).1 (hch i hi).2) hF (cw_RX1_153 hts ⟨Nat.le_of_ble_eq_true rfl, Nat.le_of_ble_eq_true rfl⟩) hA hS hP hK hD hN 0 0 rfl rfl rfl hl.1 rfl (Nat.le_of_ble_eq_true rfl) dX1_isSomeWayTooLong_22 ⟨Nat.le_of_ble_eq_true rfl, Nat.le_of_ble_eq_true rfl⟩ (fun r h => ?_)
          rcases h with ⟨rfl, h9⟩ | ⟨rfl, h9⟩
          · refine lv_if_eq (tgt := 30) hx hb dX1_isSomeWayTooLong_25 (by decide) (fun h9 => absurd h9 (by decide)) (fun _ => ?_)
            refine lv_iconst (v := 1) hx hb dX1_isSomeWayTooLong_28 (by decide) ?_
            exact fx_bret hx hb hr (Or.inr rfl) hlocks dX1_isSomeWayTooLong_29 (Or.inl ⟨rfl, by rw [← hq]; simp [c_17, h9]⟩)
          · refine lv_if_eq (tgt := 30) hx hb dX1_isSomeWayTooLong_25 (by decide) (fun _ => ?_) (fun h9 => absurd h9 (by decide))
            refine lv_iinc (v := nI (i + 1)) (lv' := [(1, .int (nI (i + 1))), (0, .ref (z 0))]) hx hb dX1_isSomeWayTooLong_30 hl (k := 1) rfl (nI_1 i) (by decide) rfl (fun ls hl => ?_)
            refine lv_goto (tgt := 2) hx hb dX1_isSomeWayTooLong_33 (by decide) ?_
            exact ih (i + 1) ls (by omega) (by rw [← hq]; simp [h9]) (lv_sub hl [1, 0] rfl)
  refine lv_iconst (v := 0) hx hb dX1_isSomeWayTooLong_0 (by decide) ?_
  refine lv_istore_n (lv' := [(1, .int 0), (0, .ref (z 0))]) hx hb dX1_isSomeWayTooLong_1 rfl hl (by decide) rfl (fun ls hl => ?_)
  exact K0 n 0 ls rfl rfl (lv_sub hl [1, 0] rfl)
