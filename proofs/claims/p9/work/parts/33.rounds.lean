/-! RUN ON BOTH SIDES, STEP BY STEP -/
theorem mqleast_spec {K : Nat → Int32} : ∀ (d i : Nat) (a : Int32), (mqleast K d i a = a ∨ ∃ t, i ≤ t ∧ t < d + i ∧ K t ≠ -1 ∧ mqleast K d i a = K t) ∧ mqleast K d i a ≤ a ∧ ∀ t, i ≤ t → t < d + i → K t ≠ -1 → mqleast K d i a ≤ K t := by
  intro d
  induction d with
  | zero => intro i a; exact ⟨Or.inl rfl, Int32.le_refl _, fun t h1 h2 => by omega⟩
  | succ d ih =>
    intro i a
    rw [mqleast_s]
    by_cases h : K i ≠ -1 ∧ K i < a
    · rw [if_pos h]
      obtain ⟨a1, a2, a3⟩ := ih (i + 1) (K i)
      refine ⟨?_, Int32.le_trans a2 (Int32.le_of_lt h.2), fun t h1 h2 h3 => ?_⟩
      · rcases a1 with q | ⟨t, q1, q2, q3, q4⟩
        · exact Or.inr ⟨i, Nat.le_refl _, by omega, h.1, q⟩
        · exact Or.inr ⟨t, by omega, by omega, q3, q4⟩
      · rcases Nat.eq_or_lt_of_le h1 with q | q
        · subst q; exact a2
        · exact a3 t q (by omega) h3
    · rw [if_neg h]
      obtain ⟨a1, a2, a3⟩ := ih (i + 1) a
      refine ⟨?_, a2, fun t h1 h2 h3 => ?_⟩
      · rcases a1 with q | ⟨t, q1, q2, q3, q4⟩
        · exact Or.inl q
        · exact Or.inr ⟨t, by omega, by omega, q3, q4⟩
      · rcases Nat.eq_or_lt_of_le h1 with q | q
        · subst q
          exact Int32.le_trans a2 (Int32.not_lt.mp fun q9 => h ⟨h3, q9⟩)
        · exact a3 t q (by omega) h3
theorem fq_max (x : Int32) : x ≤ 2147483647 := by
  rw [Int32.le_iff_toInt_le]
  have h := Int32.toInt_lt x
  have e : (2147483647 : Int32).toInt = 2147483647 := by decide
  rw [e]
  omega
theorem mqleast_min {n : Nat} {K : Nat → Int32} {j : Nat} (h : fqmin n (fun t => K t ≠ -1) K j) : mqleast K n 0 2147483647 = K j := by
  obtain ⟨a1, a2, a3⟩ := mqleast_spec (K := K) n 0 2147483647
  have h1 := a3 j (Nat.zero_le _) (by have := h.1; omega) h.2.1
  rcases a1 with q | ⟨t, q1, q2, q3, q4⟩
  · rw [q] at h1 ⊢
    exact Int32.le_antisymm h1 (fq_max _)
  · rw [q4] at h1 ⊢
    exact Int32.le_antisymm h1 (h.2.2 t (by omega) q3).1
/-- the popped item, its key, the new floor -/
theorem mqpop_full {n : Nat} {m : mqQ} (h2 : ¬ m.1 < 0) (hlo : ∀ i, i < n → m.2.2.2 i ≠ -1 → m.1 ≤ m.2.2.2 i) (h : 0 < mqcnt (mqhas m.2.2.2) n 0 0) : ∃ j, j < n ∧ m.2.2.2 j ≠ -1 ∧ (mqpop n m).1 = nI j ∧ (mqpop n m).2.2.2.2 = upd m.2.2.2 j (-1) ∧ (mqpop n m).2.1 = m.2.2.2 j ∧ mqleast m.2.2.2 n 0 2147483647 = m.2.2.2 j := by
  obtain ⟨j, e⟩ := mqbest_yes h
  have hmin := mqbest_min e
  refine ⟨j, hmin.1, hmin.2.1, ?_, ?_, ?_, mqleast_min hmin⟩
  · unfold mqpop; rw [e]
  · unfold mqpop; rw [e]
    dsimp only
    split <;> rfl
  · unfold mqpop; rw [e]
    dsimp only
    have hl := hlo j hmin.1 hmin.2.1
    split
    · rename_i h5
      have hbl := fqk_lt (m.2.2.2 j) m.1
      have hz : fqk (m.2.2.2 j) m.1 = 0 := by
        have := (nI_leI (by omega) (by decide)).mp (show nI (fqk (m.2.2.2 j) m.1) ≤ nI 0 from h5)
        omega
      exact (fqn_inj (fq_ge0 hl h2) h2 ((fqbx_0 _ _).mp hz)).symm
    · rfl
/-- the relation within run -/
def RN (n : Nat) (r : fqR) (s : mqR) : Prop := QR n r.1 s.1 ∧ mqT n s ∧ (∀ i, i < n → (r.2.1 i = -1 ↔ s.2.2.2 i = 0)) ∧ (∀ i, i < n → s.2.2.2 i ≠ 0 → r.2.1 i = s.2.1 i) ∧ ∀ i, i < n → r.2.2 i = s.2.2.1 i
theorem QR.lo {n : Nat} {q : fqQ} {m : mqQ} (h : QR n q m) : ∀ i, i < n → m.2.2.2 i ≠ -1 → m.1 ≤ m.2.2.2 i := fun i hi h0 => ((h.2.2.2.1 i hi).there h0).2.1
theorem RN_try {n : Nat} (hn : n ≤ 40) {r : fqR} {s : mqR} {t v : Nat} {w : Int32} (ht : t < n) (hv : v < n) (hT : s.2.2.2 t ≠ 0) (h : RN n r s) : RN n (fqtry n r t (nI v) w) (mqreach n s t v w) := by
  obtain ⟨h1, h2, h3, h4, h5⟩ := id h
  have hq := mqreach_T (u := t) (w := w) hn hv h2
  unfold fqtry mqreach
  unfold mqreach at hq
  rw [fqn_nI (by omega), h4 t ht hT]
  have hi := h1.2.2.2.1 v hv
  by_cases e1 : s.2.2.2 v = 0
  · rw [if_pos e1] at hq ⊢
    rw [if_pos ((h3 v hv).mpr e1)]
    by_cases e2 : 2147483647 < (s.2.1 t).toInt64 + w.toInt64
    · rw [if_pos e2, if_pos e2]; exact h
    · rw [if_neg e2] at hq ⊢
      rw [if_neg e2]
      by_cases e3 : s.1.2.2.2 v = -1
      · rw [if_pos e3] at hq ⊢
        rw [if_pos (hi.away.mpr e3)]
        refine ⟨(QR_push hn h1 _ _).2, hq.1, h3, h4, fun i hil => ?_⟩
        show upd r.2.2 v (nI t) i = upd s.2.2.1 v (nI t) i
        unfold upd
        rw [h5 i hil]
      · rw [if_neg e3] at hq ⊢
        rw [if_neg (fun q9 => e3 (hi.away.mp q9)), (hi.there e3).1]
        by_cases e4 : (s.2.1 t).toInt64 + w.toInt64 < (s.1.2.2.2 v).toInt64
        · rw [if_pos e4] at hq ⊢
          rw [if_pos e4]
          refine ⟨(QR_lower hn h1 _ _).2, hq.1, h3, h4, fun i hil => ?_⟩
          show upd r.2.2 v (nI t) i = upd s.2.2.1 v (nI t) i
          unfold upd
          rw [h5 i hil]
        · rw [if_neg e4, if_neg e4]; exact h
  · rw [if_neg e1, if_neg (fun q9 => e1 ((h3 v hv).mp q9))]
    exact h
/-- an item's arcs out of the rows, the latest first -/
def fqlist (F T Ln : Nat → Int32) (i : Nat) : Nat → List (Int32 × Int32)
  | 0 => []
  | d + 1 => if F d = nI i then (T d, Ln d) :: fqlist F T Ln i d else fqlist F T Ln i d
theorem fqlist_s (F T Ln : Nat → Int32) (i d : Nat) : fqlist F T Ln i (d + 1) = if F d = nI i then (T d, Ln d) :: fqlist F T Ln i d else fqlist F T Ln i d := rfl
theorem RN_sweep {n : Nat} (hn : n ≤ 40) {F T Ln : Nat → Int32} {ac j : Nat} (hj : j < n) (hnet : mqnet n ac F T) : ∀ (d : Nat) (r : fqR) (s : mqR), d ≤ ac → s.2.2.2 j ≠ 0 → RN n r s → RN n (fqtries n j (fqlist F T Ln j d) r) (mqsweep n F T Ln j d s) := by
  intro d
  induction d with
  | zero => exact fun r s _ _ h => h
  | succ d ih =>
    intro r s hd hT h
    rw [fqlist_s, mqsweep_s]
    by_cases e : F d = nI j
    · rw [if_pos e, if_pos e, fqtries_c]
      obtain ⟨v, hv, ev⟩ := (hnet d (by omega)).2
      rw [ev, fqn_nI (by omega)]
      have h1 := RN_try (w := Ln d) hn hj hv hT h
      have h2 := (mqreach_T (u := j) (w := Ln d) hn hv h.2.1).2
      exact ih _ _ (by omega) (by rw [h2]; exact hT) h1
    · rw [if_neg e, if_neg e]
      exact ih r s (by omega) hT h
theorem QR_size {n : Nat} {q : fqQ} {m : mqQ} (h : QR n q m) : q.2.1 = mqcnt (mqhas m.2.2.2) n 0 0 := by
  rw [mqcnt_n, h.2.2.2.2.1]
  show _ = nI 0 + _
  rw [nI_add, Nat.zero_add]
theorem RN_next {n : Nat} (hn : n ≤ 40) {F T Ln : Nat → Int32} {ac : Nat} (hnet : mqnet n ac F T) {as : Nat → List (Int32 × Int32)} (has : ∀ i, i < n → as i = fqlist F T Ln i ac) {r : fqR} {s : mqR} (h : RN n r s) (h0 : 0 < mqcnt (mqhas s.1.2.2.2) n 0 0) : RN n (fqnext n as r) (mqnext n F T Ln ac s) := by
  obtain ⟨h1, h2, h3, h4, h5⟩ := id h
  obtain ⟨j, hj, hk, e1, e2, e3, e4⟩ := mqpop_full h1.2.1 h1.lo h0
  obtain ⟨p1, p2⟩ := QR_pop hn h1
  unfold fqnext mqnext
  rw [p1, e1, fqat_some hj (by omega), fqn_nI (by omega), e4]
  dsimp only
  rw [has j hj]
  have hfl : (fqpop n r.1).2.1 = s.1.2.2.2 j := by rw [p2.1, e3]
  have hne : s.1.2.2.2 j ≠ -1 := hk
  apply RN_sweep hn hj hnet ac _ _ (Nat.le_refl _)
  · show upd s.2.2.2 j 1 j ≠ 0
    rw [pk_us]; decide
  · refine ⟨p2, mqpop_T h2 hn hj hk e2, fun i hil => ?_, fun i hil hi => ?_, h5⟩
    · show upd r.2.1 j (fqpop n r.1).2.1 i = -1 ↔ upd s.2.2.2 j 1 i = 0
      by_cases e : i = j
      · subst e
        rw [pk_us, pk_us, hfl]
        exact ⟨fun q9 => absurd q9 hne, fun q9 => absurd q9 (by decide)⟩
      · rw [pk_un e, pk_un e]; exact h3 i hil
    · show upd r.2.1 j (fqpop n r.1).2.1 i = upd s.2.1 j (s.1.2.2.2 j) i
      have hi : upd s.2.2.2 j 1 i ≠ 0 := hi
      by_cases e : i = j
      · subst e; rw [pk_us, pk_us, hfl]
      · rw [pk_un e] at hi ⊢
        rw [pk_un e]
        exact h4 i hil hi
theorem RN_mu0 {n : Nat} {s : mqR} (h : mqT n s) (h0 : mqmu n s = 0) : ¬ 0 < mqcnt (mqhas s.1.2.2.2) n 0 0 := fun h1 => by
  obtain ⟨j, hj, hk, -, -⟩ := mqpop_some h1
  have h2 := fqcnt_pos (p := fun i => decide (s.2.2.2 i = 0)) hj (by simp [h.2 j hj hk])
  unfold mqmu at h0
  omega
theorem RN_rounds {n : Nat} (hn : n ≤ 40) {F T Ln : Nat → Int32} {ac : Nat} (hnet : mqnet n ac F T) {as : Nat → List (Int32 × Int32)} (has : ∀ i, i < n → as i = fqlist F T Ln i ac) : ∀ (d d' : Nat) (r : fqR) (s : mqR), mqmu n s ≤ d → mqmu n s < d' → RN n r s → RN n (fqrounds n as d r) (mqloop n F T Ln ac d' s) ∧ ¬ 0 < mqcnt (mqhas (mqloop n F T Ln ac d' s).1.2.2.2) n 0 0 := by
  intro d
  induction d with
  | zero =>
    intro d' r s hm hm' h
    have h0 := RN_mu0 h.2.1 (by omega)
    cases d' with
    | zero => omega
    | succ d' =>
      rw [mqloop_s, if_neg h0]
      exact ⟨h, h0⟩
  | succ d ih =>
    intro d' r s hm hm' h
    cases d' with
    | zero => omega
    | succ d' =>
      rw [fqrounds_s, mqloop_s, QR_size h.1]
      by_cases h0 : 0 < mqcnt (mqhas s.1.2.2.2) n 0 0
      · rw [if_pos h0, if_pos h0]
        have h1 := (mqnext_T (Ln := Ln) hn hnet h.2.1 h0).2
        exact ih d' _ _ (by omega) (by omega) (RN_next hn hnet has h h0)
      · rw [if_neg h0, if_neg h0]
        exact ⟨h, h0⟩
theorem QR_empty {n : Nat} (hn : n ≤ 40) {q : fqQ} {m : mqQ} (h : q.2.2.1 = m.2.1) : QR n (fqempty n q) (mqclear m) := by
  refine ⟨rfl, (by decide : ¬ (0 : Int32) < 0), h, fun i hi => Or.inl ⟨if_pos (by omega), if_pos hi⟩, ?_, fun b hb => ?_⟩
  · show (0 : Int32) = nI _
    rw [fqcnt_0 (p := mqhas (mqclear m).2.2.2) (fun i hi => decide_eq_false (fun q9 => q9 (if_pos (show i < 40 by omega))))]
    rfl
  · show (if b < 32 then (0 : Int32) else _) = _
    rw [if_pos hb, fqcnt_0 (fun i hi => decide_eq_false (fun q9 => fq_nm1 (by omega) (q9.symm.trans (if_pos hi))))]
    rfl
/-- where run's rounds end, on both sides -/
theorem RN_run {n : Nat} (hn : n ≤ 40) {F T Ln : Nat → Int32} {ac : Nat} (hnet : mqnet n ac F T) {as : Nat → List (Int32 × Int32)} (has : ∀ i, i < n → as i = fqlist F T Ln i ac) {q : fqQ} {m : mqQ} (h : q.2.2.1 = m.2.1) (j : Nat) (Ds Bf Wy Fo Tk : Nat → Int32) :
    RN n (fqrounds n as n ((fqpush n (fqempty n q) (nI j) 0).2, fqfill n (-1) Ds, fqfill n (-1) Bf)) (mqloop n F T Ln ac (n + 1) ((mqpush n (mqclear m) (nI j) 0).2, Wy, fqfill 40 (-1) Fo, fqfill 40 0 Tk)) ∧ ¬ 0 < mqcnt (mqhas (mqloop n F T Ln ac (n + 1) ((mqpush n (mqclear m) (nI j) 0).2, Wy, fqfill 40 (-1) Fo, fqfill 40 0 Tk)).1.2.2.2) n 0 0 := by
  refine RN_rounds hn hnet has n (n + 1) _ _ (fqcnt_le _ _) (mqmu_le _ _) ⟨(QR_push hn (QR_empty hn h) _ _).2, mqstart_T hn (mqclear_S hn m), fun i hi => ?_, fun i hi h0 => ?_, fun i hi => ?_⟩
  · show (if i < n then (-1 : Int32) else Ds i) = -1 ↔ (if i < 40 then (0 : Int32) else Tk i) = 0
    rw [if_pos hi, if_pos (by omega)]
    exact ⟨fun _ => rfl, fun _ => rfl⟩
  · exact absurd (show (if i < 40 then (0 : Int32) else Tk i) = 0 from if_pos (by omega)) h0
  · show (if i < n then (-1 : Int32) else Bf i) = (if i < 40 then (-1 : Int32) else Fo i)
    rw [if_pos hi, if_pos (by omega)]
theorem QR_run {n : Nat} (hn : n ≤ 40) {F T Ln : Nat → Int32} {ac : Nat} (hnet : mqnet n ac F T) {as : Nat → List (Int32 × Int32)} (has : ∀ i, i < n → as i = fqlist F T Ln i ac) {r : fqR} {x : mqX} (h : QR n r.1 x.1.1) (k : Int32) : QR n (fqrun n as r k).2.1 (mqrun n F T Ln ac x k).2.1.1 := by
  unfold fqrun mqrun
  cases e : fqat n k with
  | none => exact h
  | some j =>
    have h1 := (RN_run hn hnet has h.2.2.1 j r.2.1 r.2.2 x.1.2.1 x.1.2.2.1 x.1.2.2.2).1.1
    dsimp only
    split
    · exact h1
    · exact h1
/-- the lists behind an arc -/
theorem fqlist_up {F T Ln : Nat → Int32} {i ac : Nat} {u v w : Int32} : ∀ d, d ≤ ac → fqlist (upd F ac u) (upd T ac v) (upd Ln ac w) i d = fqlist F T Ln i d := by
  intro d
  induction d with
  | zero => exact fun _ => rfl
  | succ d ih =>
    intro hd
    rw [fqlist_s, fqlist_s, ih (by omega), pk_un (by omega), pk_un (by omega), pk_un (by omega)]
theorem fqlist_arc {n : Nat} {F T Ln : Nat → Int32} {ac j : Nat} {v w : Int32} {as : Nat → List (Int32 × Int32)} (hn : n ≤ 40) (hj : j < n) (has : ∀ i, i < n → as i = fqlist F T Ln i ac) : ∀ i, i < n → fqas as j v w i = fqlist (upd F ac (nI j)) (upd T ac v) (upd Ln ac w) i (ac + 1) := by
  intro i hi
  rw [fqlist_s, pk_us, pk_us, pk_us, fqlist_up ac (Nat.le_refl _)]
  unfold fqas
  by_cases e : i = j
  · subst e; rw [if_pos rfl, if_pos rfl, has i hi]
  · rw [if_neg e, if_neg (fun q9 => e ((nI_eq (by omega) (by omega)).mp q9).symm), has i hi]
