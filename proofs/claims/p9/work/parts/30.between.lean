/-! WHAT HOLDS BETWEEN THE CALLS: the part that the walks need -/
theorem fqch_pre {rest : va_W} {x : va_W} : ∀ (t : List (Int32 × Int32)) (r : Option Nat), fqch rest r t → fqch (x ++ rest) r t := by
  intro t
  induction t with
  | nil => exact fun r h => h
  | cons y t ih =>
    obtain ⟨e, w⟩ := y
    rintro r ⟨a, nx, h1, ⟨k, h2⟩, h3⟩
    exact ⟨a, nx, h1, ⟨x.length + k, by rw [List.getElem?_append_right (by omega), Nat.add_sub_cancel_left]; exact h2⟩, ih nx h3⟩
theorem mqloop_T {n : Nat} {F T Ln : Nat → Int32} {ac : Nat} (hn : n ≤ 40) (hnet : mqnet n ac F T) : ∀ (d : Nat) (s : mqR), mqT n s → mqT n (mqloop n F T Ln ac d s) := by
  intro d
  induction d with
  | zero => exact fun s h => h
  | succ d ih =>
    intro s h
    rw [mqloop_s]
    split
    · rename_i h0
      exact ih _ (mqnext_T hn hnet h h0).1
    · exact h
theorem mqrun_S {n : Nat} {F T Ln : Nat → Int32} {ac : Nat} {s : mqX} {x : Int32} (hn : n ≤ 40) (hnet : mqnet n ac F T) (h : mqS n s.1.1) : mqS n (mqrun n F T Ln ac s x).2.1.1 := by
  unfold mqrun
  cases fqat n x with
  | none => exact h
  | some j => exact (mqloop_T (Ln := Ln) hn hnet (n + 1) _ (mqstart_T hn (mqclear_S hn s.1.1))).1
def lawB (n ar : Nat) (ac : Nat) (r : fqR) (L : Nat → Option Nat) (pool : va_W) (as : Nat → List (Int32 × Int32)) (mx : mqX) (F T Ln : Nat → Int32) : Prop :=
  (∀ i, i < n → fqch pool (L i) (as i) ∧ fqends n (as i)) ∧ fqS n r.1 ∧ mqS n mx.1.1 ∧ mqnet n ac F T ∧ ac ≤ ar
theorem fqarcR_0 {n ar ac : Nat} {gl xu xv w : Int32} (har : ar ≤ 300) (hac : ac ≤ ar) (h : fqarcR n (nI ar) gl (nI ac) xu xv w = 0) : (∃ j, j < n ∧ xu = nI j) ∧ (∃ k, k < n ∧ xv = nI k) ∧ ac < ar ∧ ¬ w < 0 := by
  unfold fqarcR at h
  cases e1 : fqat n xu with
  | none =>
    rw [e1] at h
    have h : (-1 : Int32) = 0 := by cases e2 : fqat n xv with | none => rw [e2] at h; exact h | some k => rw [e2] at h; exact h
    exact absurd h (by decide)
  | some j =>
    cases e2 : fqat n xv with
    | none =>
      rw [e1, e2] at h
      have h : (-1 : Int32) = 0 := h
      exact absurd h (by decide)
    | some k =>
      rw [e1, e2] at h
      dsimp only at h
      split at h
      · exact absurd h (by decide)
      · rename_i h1
        split at h
        · split at h
          · rename_i h3
            exact ⟨⟨j, fqat_lt e1⟩, ⟨k, fqat_lt e2⟩, (nI_ltI (by omega) (by omega)).mp h3, h1⟩
          · exact absurd h (by decide)
        · exact absurd h (by decide)
theorem mqarc_0 {n ar : Nat} {gl : Int32} {s : Nat × Int32 × (Nat → Int32) × (Nat → Int32) × (Nat → Int32)} {xu xv w : Int32} (h : fqarcR n (nI ar) gl (nI s.1) xu xv w = 0) : mqarc n ar gl s xu xv w = (0, (s.1 + 1, 0, upd s.2.2.1 s.1 xu, upd s.2.2.2.1 s.1 xv, upd s.2.2.2.2 s.1 w)) := by
  unfold mqarc; rw [if_pos h]
theorem mqarc_n {n ar : Nat} {gl : Int32} {s : Nat × Int32 × (Nat → Int32) × (Nat → Int32) × (Nat → Int32)} {xu xv w : Int32} (h : fqarcR n (nI ar) gl (nI s.1) xu xv w ≠ 0) : mqarc n ar gl s xu xv w = (fqarcR n (nI ar) gl (nI s.1) xu xv w, s) := by
  unfold mqarc; rw [if_neg h]
/-- an arc's list comes ahead -/
def fqas (as : Nat → List (Int32 × Int32)) (j : Nat) (v w : Int32) : Nat → List (Int32 × Int32) := fun i => if i = j then (v, w) :: as j else as i
theorem lawB_arc {n ar ac : Nat} {r : fqR} {L : Nat → Option Nat} {pool : va_W} {as : Nat → List (Int32 × Int32)} {mx mx' : mqX} {F T Ln : Nat → Int32} {Ds Bf : Nat → Int32} {j k q : Nat} {w : Int32} (h : lawB n ar ac r L pool as mx F T Ln) (hn : n ≤ 40) (hj : j < n) (hk : k < n) (hac : ac < ar) (hm : mx'.1.1 = mx.1.1) :
    lawB n ar (ac + 1) (r.1, Ds, Bf) (va_up L j (some q)) (pool ++ [(q, .inr (1, [.int (nI k), .int w, va_rf (L j)]))]) (fqas as j (nI k) w) mx' (upd F ac (nI j)) (upd T ac (nI k)) (upd Ln ac w) := by
  obtain ⟨h1, h2, h3, h4, h5⟩ := h
  refine ⟨fun i hi => ?_, h2, by rw [hm]; exact h3, fun a ha => ?_, hac⟩
  · unfold fqas va_up
    by_cases e : i = j
    · subst e
      rw [if_pos rfl, if_pos rfl]
      refine ⟨⟨q, L i, rfl, ⟨pool.length, fq_last _ _⟩, fqch_app _ _ (h1 i hi).1⟩, fun a ha => ?_⟩
      rcases List.mem_cons.mp ha with e | e
      · subst e; exact ⟨k, hk, rfl⟩
      · exact (h1 i hi).2 a e
    · rw [if_neg e, if_neg e]
      exact ⟨fqch_app _ _ (h1 i hi).1, (h1 i hi).2⟩
  · by_cases e : a = ac
    · subst e
      rw [pk_us, pk_us]
      exact ⟨⟨j, hj, rfl⟩, k, hk, rfl⟩
    · rw [pk_un e, pk_un e]
      exact h4 a (by omega)
def fqcell (N : Nat) (xs : Nat → Int32) (k : Nat) : Int32 := if k < N then xs k else 0
/-- the loop's head: i goes while i + 4 ≤ N -/
theorem fq_head {i N : Nat} (hi : i < 5000) (hN : N ≤ 2051) : nI N - 4 < nI i ↔ ¬ i + 4 ≤ N := by
  have h1 : (nI N - nI 4).toInt = (N : Int) - 4 := pk_sub_toInt (by omega) (by decide)
  have h2 : (nI i).toInt = (i : Int) := nI_toInt (by omega)
  rw [show (nI N - 4 : Int32) = nI N - nI 4 from rfl, Int32.lt_iff_toInt_lt, h1, h2]
  omega
/-- the class's cells one by one; the reference's nine -/
abbrev xc0 (z : Nat → Nat) (n : Nat) (ar gl fl pr pg ky ac : Int32) : Nat × va_E := (z 0, .inr (0, [.int (nI n), .int ar, .int gl, .ref (z 1), .ref (z 2), .ref (z 3), .int fl, .int pr, .int pg, .int ky, .ref (z 4), .int ac, .ref (z 5), .ref (z 6)]))
abbrev xcI (z : Nat → Nat) (k : Nat) (cI : ClassId) (n : Nat) (f : Nat → Int32) : Nat × va_E := (z k, .inl (cI, n, .inl f))
abbrev xcQ (z : Nat → Nat) (k : Nat) (cA : ClassId) (n : Nat) (f : Nat → Option Nat) : Nat × va_E := (z k, .inl (cA, n, .inr (.inr (.inr (.inr f)))))
abbrev mC (y : Nat → Nat) (cI cZ : ClassId) (n ar : Nat) (gl lo pg ca : Int32) (ac : Nat) (hw : Int32) (K F T Ln Wy Fo Tk Ne : Nat → Int32) : va_W := [(y 0, .inr (2, [.int (nI n), .int (nI ar), .int gl, .ref (y 1), .int lo, .int pg, .int ca, .int (nI ac), .ref (y 2), .ref (y 3), .ref (y 4), .int hw, .ref (y 5), .ref (y 6), .ref (y 7), .ref (y 8)])), (y 1, .inl (cI, 40, .inl K)), (y 2, .inl (cI, 300, .inl F)), (y 3, .inl (cI, 300, .inl T)), (y 4, .inl (cI, 300, .inl Ln)), (y 5, .inl (cI, 40, .inl Wy)), (y 6, .inl (cI, 40, .inl Fo)), (y 7, .inl (cZ, 40, .inl Tk)), (y 8, .inl (cZ, 40, .inl Ne))]
set_option maxHeartbeats 4000000 in
theorem sl_cell (l : Launch) (b N k : Nat) (xs : Nat → Int32) (hN : N < 2 ^ 31) (hk : k < 2 ^ 31) : Met l yL_cell (Cond.code yL_cell cL_cell 2 (some .int) :: wsL_law) ({ frames := 0, cells := 0, slots := 0, locals := 0 } : Room) (va_Pc [.ref b, .int (nI k)] (fun U => va_X b N xs U U.heap)) (vp_Si (fun r => r = fqcell N xs k)) 0 0 (fun _ => False) := by
  refine Met.ofW (cc := cL_cell) (maxL := 2) (ret := (some .int)) (by decide) rfl ?_
  intro p e s m args below meth c s₁ B0 hml hv
  obtain ⟨rfl, hX⟩ := hv
  have hx := B0.exec
  have hb := B0.bytes
  have hr := B0.returns
  have hlocks := B0.notSynchronized
  have hS : va_S (fun _ => False) s.heap s.heap [] := va_S.rf
  have hbl : b < s.heap.size := by obtain ⟨scr, h1, -⟩ := hX; exact (Array.getElem?_eq_some_iff.mp h1).1
  have hl := lv_entry ([.ref b, .int (nI k)]) (n := 2) (Nat.le_of_ble_eq_true rfl)
  rw [lg_entry_eq]
  generalize (lg_sl ([.ref b, .int (nI k)]) ++ List.replicate (2 - (lg_sl ([.ref b, .int (nI k)])).length) Slot.unset).toArray = ls at hl ⊢
  have hl : lv_has ls 2 [(0, .ref b), (1, .int (nI k))] := hl
  refine lv_iload_n hx hb dL_cell_0 rfl (lv_at hl 1 rfl) ?_
  refine lv_aload_n hx hb dL_cell_1 rfl (lv_at hl 0 rfl) ?_
  refine va_slen hx hb hX hbl (fun h => h) hS dL_cell_2 ?_
  refine lv_icmp_ge (tgt := 12) hx hb dL_cell_3 (by decide) (fun c_3 => ?_) (fun c_3 => ?_)
  · refine lv_iconst (v := 0) hx hb dL_cell_12 (by decide) ?_
    exact fx_sret hx hb hr hlocks dL_cell_13 (by unfold fqcell; rw [if_neg (Nat.not_lt.mpr ((nI_leI hN hk).mp c_3))])
  · have hlt : k < N := Nat.lt_of_not_le fun h9 => c_3 ((nI_leI hN hk).mpr h9)
    refine lv_aload_n hx hb dL_cell_6 rfl (lv_at hl 0 rfl) ?_
    refine lv_iload_n hx hb dL_cell_7 rfl (lv_at hl 1 rfl) ?_
    refine va_sld hx hb hX hbl (fun h => h) hS (vp_in_nI hlt hN) dL_cell_8 ?_
    rw [nI_clamp hk]
    refine lv_goto (tgt := 13) hx hb dL_cell_9 (by decide) ?_
    exact fx_sret hx hb hr hlocks dL_cell_13 (by unfold fqcell; rw [if_pos hlt])
theorem cw_cell {R : Room} {s : State} {args : Array Value} {rm : Room} (hts : ∀ w ∈ wsL_law, w.before args s = true) (hR : rm.frames + 1 ≤ R.frames ∧ 8 + (2 + 11) + rm.locals ≤ R.locals) : CallB R s args RL 9 yL_cell cL_cell 2 (some .int) (Cond.code yL_cell cL_cell 2 (some .int) :: wsL_law) rm rm.cells rm.slots 2 ∧ (Cond.static yL_cell).before args s = true := va_cwS 2 hts (km_app (km_three km_6 km_7 km_8) (km_in km_9)) rfl rfl rfl (by decide +kernel) hR
section FXS
variable {p : Program} {l : Launch} {e : Env} {R : Room} {s : State} {m : MethodId} {args : Array Value} {below : List Frame} {meth : Method} {c : Code} {H : Heap} {locs : List Loc} {cells slots : Nat} {Q : State → Prop} {A : Nat → Prop} {pc : Nat} {ls : Array Slot} {rest : List Value} {cc : ByteArray}
/-- the script at a place that is a number -/
theorem fx_sld (hx : p.tables.exec = Jvm.exec) (hb : c.code = cc) {b N : Nat} {xs : Nat → Int32} (hX : va_X b N xs s s.heap) (hbl : b < s.heap.size) (hbA : ¬ A b) (hS : va_S A s.heap H locs) {i : Int32} (k : Nat) (hi : i = nI k) (hk : k < N) (hN : N < 2 ^ 31) (hdg : decode cc pc = .ok (.iaload, 1))
    (kk : W p l e R s m args below meth c H locs cells slots Q (F0 m (pc + 1) ls (.int (xs k) :: rest))) : W p l e R s m args below meth c H locs cells slots Q (F0 m pc ls (.int i :: .ref b :: rest)) := by
  subst hi
  exact va_sld hx hb hX hbl hbA hS (vp_in_nI hk hN) hdg (by rw [nI_clamp (Nat.lt_trans hk hN)]; exact kk)
theorem fx_cell (hx : p.tables.exec = Jvm.exec) (hb : c.code = cc) {nL : Nat} (F : CallFix p m c cc nL s args wsL_law RL) {b N : Nat} {xs : Nat → Int32} (hX : va_X b N xs s s.heap) (hbl : b < s.heap.size) (hbA : ¬ A b) (hS : va_S A s.heap H locs) (k : Nat) (hk : k < 2 ^ 31) (hN : N < 2 ^ 31) (hR : 1 ≤ R.frames ∧ 21 ≤ R.locals) (hl : ls.size = nL) (hW : (rest.map fun v => v.category).sum ≤ 8) (hf : cells ≤ R.cells ∧ slots ≤ R.slots) (hdg : decode cc pc = .ok (.invokestatic 9, 3))
    (kk : W p l e R s m args below meth c H locs cells slots Q (F0 m (pc + 3) ls (.int (fqcell N xs k) :: rest))) : W p l e R s m args below meth c H locs cells slots Q (F0 m pc ls (.int (nI k) :: .ref b :: rest)) :=
  vp_callSi (W.runS (As := [.ref b, .int (nI k)]) (rest := rest) F (sl_cell l b N k xs hN hk) (cw_cell F.2.2.2.2 hR) ⟨fun a U g mk q => ⟨q.1, va_X.moved (u := U) (U := U.calling g mk a) (Vm.Alike.refl U.vm) q.2⟩, fun U hU hW => ⟨rfl, by show va_X b N xs U U.heap; rw [hU]; exact va_X.moved hW.alike (hX.kept (hS.2.1 b hbl hbA))⟩⟩ rfl rfl hl rfl (lv_room hW) hdg hf) (fun r hr => by rw [hr]; exact kk)
end FXS
