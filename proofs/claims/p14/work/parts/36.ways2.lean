/-! THE WAYS ON BOTH SIDES -/
theorem too1_list {F T Ln Ds : Nat → Int32} {i : Nat} : ∀ d, fqtoo1 Ds (fqlist F T Ln i d) = true ↔ ∃ k, k < d ∧ F k = nI i ∧ Ds (fqn (T k)) = -1 := by
  intro d
  induction d with
  | zero => exact ⟨fun h => absurd (show false = true from h) Bool.false_ne_true, fun ⟨k, hk, _⟩ => absurd hk (Nat.not_lt_zero k)⟩
  | succ d ih =>
    rw [fqlist_s]
    by_cases e : F d = nI i
    · rw [if_pos e]
      show (decide (Ds (fqn (T d)) = -1) || fqtoo1 Ds (fqlist F T Ln i d)) = true ↔ _
      rw [Bool.or_eq_true, decide_eq_true_eq, ih]
      constructor
      · rintro (h | ⟨k, hk, h⟩)
        · exact ⟨d, by omega, e, h⟩
        · exact ⟨k, by omega, h⟩
      · rintro ⟨k, hk, h1, h2⟩
        rcases Nat.lt_or_ge k d with q | q
        · exact Or.inr ⟨k, q, h1, h2⟩
        · rw [show k = d by omega] at h2; exact Or.inl h2
    · rw [if_neg e, ih]
      constructor
      · rintro ⟨k, hk, h⟩; exact ⟨k, by omega, h⟩
      · rintro ⟨k, hk, h1, h2⟩
        rcases Nat.lt_or_ge k d with q | q
        · exact ⟨k, q, h1, h2⟩
        · rw [show k = d by omega] at h1; exact absurd h1 e
/-- no arc leads out of what is taken -/
theorem too_closed {n ac : Nat} {F T Ln Ds Tk : Nat → Int32} {as : Nat → List (Int32 × Int32)} (hn : n ≤ 40) (hnet : mqnet n ac F T) (has : ∀ i, i < n → as i = fqlist F T Ln i ac) (hD : ∀ i, i < n → (Ds i = -1 ↔ Tk i = 0)) : fqtoo n as Ds = true ↔ ∀ k, k < ac → Tk (fqn (F k)) ≠ 0 → Tk (fqn (T k)) ≠ 0 := by
  unfold fqtoo
  rw [fqall_iff]
  constructor
  · intro h k hk h1 h2
    obtain ⟨⟨u, hu, eu⟩, v, hv, ev⟩ := hnet k hk
    rw [eu, fqn_nI (by omega)] at h1
    rw [ev, fqn_nI (by omega)] at h2
    have h3 : (decide (Ds u = -1) || !(fqtoo1 Ds (as u))) = true := h u (Nat.zero_le _) (by omega)
    rw [Bool.or_eq_true, decide_eq_true_eq, Bool.not_eq_true', has u hu] at h3
    rcases h3 with h3 | h3
    · exact h1 ((hD u hu).mp h3)
    · have h4 := (too1_list (F := F) (T := T) (Ln := Ln) (Ds := Ds) ac).mpr ⟨k, hk, eu, by rw [ev, fqn_nI (by omega)]; exact (hD v hv).mpr h2⟩
      rw [h3] at h4
      cases h4
  · intro h i _ hi
    show (decide (Ds i = -1) || !(fqtoo1 Ds (as i))) = true
    rw [Bool.or_eq_true, decide_eq_true_eq, Bool.not_eq_true', has i (by omega)]
    by_cases e : Ds i = -1
    · exact Or.inl e
    · right
      cases e2 : fqtoo1 Ds (fqlist F T Ln i ac) with
      | false => rfl
      | true =>
        obtain ⟨k, hk, e3, e4⟩ := (too1_list ac).mp e2
        obtain ⟨-, v, hv, ev⟩ := hnet k hk
        have h1 := h k hk (by rw [e3, fqn_nI (by omega)]; exact fun q9 => e ((hD i (by omega)).mpr q9))
        rw [ev, fqn_nI (by omega)] at h1 e4
        exact absurd ((hD v hv).mp e4) h1
theorem MI_start {n j : Nat} {P : Nat → Prop} {m : mqQ} {Wy Fo Tk : Nat → Int32} (hn : n ≤ 40) (hj : j < n) (hP : P j) : MI n j P ((mqpush n (mqclear m) (nI j) 0).2, Wy, Fo, fqfill 40 0 Tk) := by
  have hc : ∀ i, i < n → (mqclear m).2.2.2 i = -1 := fun i hi => if_pos (show i < 40 by omega)
  refine ⟨fun i hi h => ?_, Or.inl ?_⟩
  · rcases h with h | h
    · rcases mqpush_K h with h1 | h1
      · exact absurd (hc i hi) h1
      · rw [← (nI_eq (by omega) (by omega)).mp h1]; exact hP
    · exact absurd (show (if i < 40 then (0 : Int32) else Tk i) = 0 from if_pos (by omega)) h
  · show (mqpush n (mqclear m) (nI j) 0).2.2.2.2 j ≠ -1
    unfold mqpush
    rw [fqat_some hj (by omega)]
    dsimp only
    rw [if_pos (hc j hj), if_neg (show ¬ (0 : Int32) < (mqclear m).1 from (by decide : ¬ (0 : Int32) < 0))]
    show upd (mqclear m).2.2.2 j 0 j ≠ -1
    rw [pk_us]; decide
/-- an empty queue: none is there -/
theorem size0 {n : Nat} {K : Nat → Int32} (hn : n ≤ 40) (h : ¬ 0 < mqcnt (mqhas K) n 0 0) : ∀ i, i < n → K i = -1 := by
  intro i hi
  apply Classical.byContradiction
  intro h1
  apply h
  rw [mqcnt_n]
  have h2 := fqcnt_pos (p := mqhas K) hi (decide_eq_true h1)
  have h3 := fqcnt_le (mqhas K) n
  show nI 0 < nI 0 + nI _
  rw [nI_add, Nat.zero_add]
  exact nI_lt h2 (by omega)
/-- no arc leads out of what is taken: just if what is near is taken -/
theorem ok_closed {n ac j : Nat} {F T Ln N0 Wy Fo Tk : Nat → Int32} {m : mqQ} (hn : n ≤ 40) (hj : j < n) (hnet : mqnet n ac F T) (h0 : ¬ 0 < mqcnt (mqhas (mqloop n F T Ln ac (n + 1) ((mqpush n (mqclear m) (nI j) 0).2, Wy, Fo, fqfill 40 0 Tk)).1.2.2.2) n 0 0) :
    (∀ k, k < ac → (mqloop n F T Ln ac (n + 1) ((mqpush n (mqclear m) (nI j) 0).2, Wy, Fo, fqfill 40 0 Tk)).2.2.2 (fqn (F k)) ≠ 0 → (mqloop n F T Ln ac (n + 1) ((mqpush n (mqclear m) (nI j) 0).2, Wy, Fo, fqfill 40 0 Tk)).2.2.2 (fqn (T k)) ≠ 0) ↔ mqok (mqloop n F T Ln ac (n + 1) ((mqpush n (mqclear m) (nI j) 0).2, Wy, Fo, fqfill 40 0 Tk)).2.2.2 (mqspread n F T ac j N0) n 0 1 = 1 := by
  have hst : mqT n ((mqpush n (mqclear m) (nI j) 0).2, Wy, Fo, fqfill 40 0 Tk) := mqstart_T hn (mqclear_S hn m)
  constructor
  · intro hc
    have hj1 := (MI_loop (P := fun _ => True) (Ln := Ln) hn hnet (fun _ _ _ => trivial) (n + 1) _ hst (MI_start (P := fun _ => True) hn hj trivial)).2
    have hj2 := hj1.resolve_left (fun q9 => q9 (size0 hn h0 j hj))
    rcases mqok_spec (Tk := (mqloop n F T Ln ac (n + 1) ((mqpush n (mqclear m) (nI j) 0).2, Wy, Fo, fqfill 40 0 Tk)).2.2.2) (N := mqspread n F T ac j N0) n 0 with h | ⟨-, t, -, h1, h2, h3⟩
    · exact h.1
    · exact absurd h2 (spread_in (P := fun t => (mqloop n F T Ln ac (n + 1) ((mqpush n (mqclear m) (nI j) 0).2, Wy, Fo, fqfill 40 0 Tk)).2.2.2 t ≠ 0) hn hnet hc hj2 t (by omega) h3)
  · intro hok k hk h1
    rcases mqok_spec (Tk := (mqloop n F T Ln ac (n + 1) ((mqpush n (mqclear m) (nI j) 0).2, Wy, Fo, fqfill 40 0 Tk)).2.2.2) (N := mqspread n F T ac j N0) n 0 with ⟨-, h⟩ | ⟨h, -⟩
    · obtain ⟨⟨u, hu, eu⟩, v, hv, ev⟩ := hnet k hk
      have hcl := spread_closed (N := N0) hn hj hnet
      have hmi := (MI_loop (P := fun t => mqspread n F T ac j N0 t ≠ 0) (Ln := Ln) hn hnet hcl (n + 1) _ hst (MI_start (P := fun t => mqspread n F T ac j N0 t ≠ 0) hn hj (spread_j hn hj))).1
      rw [eu, fqn_nI (by omega)] at h1
      have h2 := hmi u hu (Or.inr h1)
      have h3 := hcl k hk (by rw [eu, fqn_nI (by omega)]; exact h2)
      rw [ev, fqn_nI (by omega)] at h3 ⊢
      exact (h v (Nat.zero_le _) (by omega)).resolve_right h3
    · rw [hok] at h; exact absurd h (by decide)
/-- sums -/
theorem sum_ge {a w : Int32} (ha : ¬ a < 0) (hw : ¬ w < 0) (h : ¬ 2147483647 < a.toInt64 + w.toInt64) : ¬ (a.toInt64 + w.toInt64).toInt32 < a := by
  obtain ⟨x, hx, rfl⟩ := nI_of ha
  obtain ⟨y, hy, rfl⟩ := nI_of hw
  rw [nI_l hx, nI_l hy, lN_add] at h ⊢
  rw [lN_i]
  have h1 : ¬ lN 2147483647 < lN (x + y) := h
  rw [pk_lLT (by decide) (by omega)] at h1
  exact nI_nlt (by omega) (by omega)
def FI (n : Nat) (s : mqR) : Prop := ∀ i, i < n → s.2.2.2 i = 0 → s.1.2.2.2 i = -1 → s.2.2.1 i = -1
theorem mqpush_lo {n : Nat} {q : mqQ} {x key : Int32} : (mqpush n q x key).2.1 = q.1 := by
  unfold mqpush
  cases fqat n x with
  | none => rfl
  | some j =>
    dsimp only
    split
    · split <;> rfl
    · rfl
theorem mqlower_lo {n : Nat} {q : mqQ} {x key : Int32} : (mqlower n q x key).2.1 = q.1 := by
  unfold mqlower
  cases fqat n x with
  | none => rfl
  | some j =>
    dsimp only
    split
    · rfl
    · split
      · rfl
      · split <;> rfl
theorem FI_reach {n : Nat} {s : mqR} {u v : Nat} {w : Int32} (hn : n ≤ 40) (hv : v < n) (hq : ¬ s.1.1 < 0) (hlo : s.1.1 = s.2.1 u) (hw : ¬ w < 0) (h : FI n s) : FI n (mqreach n s u v w) ∧ (mqreach n s u v w).1.1 = s.1.1 ∧ (mqreach n s u v w).2.1 = s.2.1 := by
  unfold mqreach
  split
  · split
    · exact ⟨h, rfl, rfl⟩
    · rename_i h0 h1
      split
      · rename_i h2
        refine ⟨fun i hi h3 h4 => ?_, mqpush_lo, rfl⟩
        have h4 : (mqpush n s.1 (nI v) ((s.2.1 u).toInt64 + w.toInt64).toInt32).2.2.2.2 i = -1 := h4
        show upd s.2.2.1 v (nI u) i = -1
        by_cases e : i = v
        · exfalso
          rw [e] at h4
          rw [← hlo] at h1 h4
          have hs := sum_ge hq hw h1
          unfold mqpush at h4
          rw [fqat_some hv (by omega)] at h4
          dsimp only at h4
          rw [if_pos h2, if_neg hs] at h4
          have h4 : upd s.1.2.2.2 v (s.1.1.toInt64 + w.toInt64).toInt32 v = -1 := h4
          rw [pk_us] at h4
          exact fq_ge1 (Int32.not_lt.mp hs) hq h4
        · rw [pk_un e]
          refine h i hi h3 ?_
          apply Classical.byContradiction
          intro h5
          exact mqpush_keep h5 h4
      · rename_i h2
        split
        · refine ⟨fun i hi h3 h4 => ?_, mqlower_lo, rfl⟩
          have h4 : (mqlower n s.1 (nI v) ((s.2.1 u).toInt64 + w.toInt64).toInt32).2.2.2.2 i = -1 := h4
          show upd s.2.2.1 v (nI u) i = -1
          by_cases e : i = v
          · rw [e] at h4
            exact absurd h4 (mqlower_keep hq h2)
          · rw [pk_un e]
            refine h i hi h3 ?_
            apply Classical.byContradiction
            intro h5
            exact mqlower_keep hq h5 h4
        · exact ⟨h, rfl, rfl⟩
  · exact ⟨h, rfl, rfl⟩
theorem FI_sweep {n : Nat} {F T Ln : Nat → Int32} {u ac : Nat} (hn : n ≤ 40) (hnet : mqnet n ac F T) (hLn : ∀ k, k < ac → ¬ Ln k < 0) : ∀ (d : Nat) (s : mqR), d ≤ ac → ¬ s.1.1 < 0 → s.1.1 = s.2.1 u → FI n s → FI n (mqsweep n F T Ln u d s) := by
  intro d
  induction d with
  | zero => exact fun s _ _ _ h => h
  | succ d ih =>
    intro s hd hq hlo h
    rw [mqsweep_s]
    split
    · obtain ⟨v, hv, ev⟩ := (hnet d (by omega)).2
      rw [ev, fqn_nI (by omega)]
      obtain ⟨a1, a2, a3⟩ := FI_reach (u := u) (w := Ln d) hn hv hq hlo (hLn d (by omega)) h
      exact ih _ (by omega) (by rw [a2]; exact hq) (by rw [a2, a3]; exact hlo) a1
    · exact ih s (by omega) hq hlo h
theorem FI_next {n : Nat} {F T Ln : Nat → Int32} {ac : Nat} {q : fqQ} {s : mqR} (hn : n ≤ 40) (hnet : mqnet n ac F T) (hLn : ∀ k, k < ac → ¬ Ln k < 0) (hQ : QR n q s.1) (h : FI n s) (h0 : 0 < mqcnt (mqhas s.1.2.2.2) n 0 0) : FI n (mqnext n F T Ln ac s) := by
  obtain ⟨j, hj, hk, e1, e2, e3, e4⟩ := mqpop_full hQ.2.1 hQ.lo h0
  unfold mqnext
  rw [e1, fqn_nI (by omega), e4]
  apply FI_sweep hn hnet hLn ac _ (Nat.le_refl _)
  · show ¬ (mqpop n s.1).2.1 < 0
    rw [e3]; exact fq_ge0 (hQ.lo j hj hk) hQ.2.1
  · show (mqpop n s.1).2.1 = upd s.2.1 j (s.1.2.2.2 j) j
    rw [e3, pk_us]
  · intro i hi h1 h2
    have h1 : upd s.2.2.2 j 1 i = 0 := h1
    have h2 : (mqpop n s.1).2.2.2.2 i = -1 := h2
    by_cases e : i = j
    · rw [e, pk_us] at h1; exact absurd h1 (by decide)
    · rw [pk_un e] at h1
      rw [e2, pk_un e] at h2
      exact h i hi h1 h2
theorem FI_loop {n : Nat} (hn : n ≤ 40) {F T Ln : Nat → Int32} {ac : Nat} (hnet : mqnet n ac F T) (hLn : ∀ k, k < ac → ¬ Ln k < 0) {as : Nat → List (Int32 × Int32)} (has : ∀ i, i < n → as i = fqlist F T Ln i ac) : ∀ (d : Nat) (r : fqR) (s : mqR), RN n r s → FI n s → FI n (mqloop n F T Ln ac d s) := by
  intro d
  induction d with
  | zero => exact fun r s _ h => h
  | succ d ih =>
    intro r s hR h
    rw [mqloop_s]
    split
    · rename_i h0
      exact ih _ _ (RN_next hn hnet has hR h0) (FI_next hn hnet hLn hR.1 h h0)
    · exact h
/-- what distance and before show -/
def DR (n : Nat) (d : (Nat → Int32) × (Nat → Int32)) (w : (Nat → Int32) × (Nat → Int32) × (Nat → Int32)) (hw : Int32) : Prop := (hw = 0 ∧ ∀ i, i < n → d.1 i = -1 ∧ d.2 i = -1) ∨ (hw = 1 ∧ ∀ i, i < n → d.1 i = (if w.2.2 i = 0 then -1 else w.1 i) ∧ d.2 i = (if w.2.2 i = 0 then -1 else w.2.1 i))
theorem DR_run {n : Nat} (hn : n ≤ 40) {F T Ln : Nat → Int32} {ac : Nat} (hnet : mqnet n ac F T) (hLn : ∀ k, k < ac → ¬ Ln k < 0) {as : Nat → List (Int32 × Int32)} (has : ∀ i, i < n → as i = fqlist F T Ln i ac) {r : fqR} {x : mqX} (h : QR n r.1 x.1.1) (hd : DR n r.2 x.1.2 x.2.2) (k : Int32) : (fqrun n as r k).1 = (mqrun n F T Ln ac x k).1 ∧ DR n (fqrun n as r k).2.2 (mqrun n F T Ln ac x k).2.1.2 (mqrun n F T Ln ac x k).2.2.2 := by
  unfold fqrun mqrun
  cases e : fqat n k with
  | none => exact ⟨rfl, hd⟩
  | some j =>
    obtain ⟨hj, -⟩ := fqat_lt e
    obtain ⟨hR, h0⟩ := RN_run hn hnet has h.2.2.1 j r.2.1 r.2.2 x.1.2.1 x.1.2.2.1 x.1.2.2.2
    have hst : RN n ((fqpush n (fqempty n r.1) (nI j) 0).2, fqfill n (-1) r.2.1, fqfill n (-1) r.2.2) ((mqpush n (mqclear x.1.1) (nI j) 0).2, x.1.2.1, fqfill 40 (-1) x.1.2.2.1, fqfill 40 0 x.1.2.2.2) := by
      refine ⟨(QR_push hn (QR_empty hn h.2.2.1) _ _).2, mqstart_T hn (mqclear_S hn _), fun i hi => ?_, fun i hi h0 => ?_, fun i hi => ?_⟩
      · show (if i < n then (-1 : Int32) else r.2.1 i) = -1 ↔ (if i < 40 then (0 : Int32) else x.1.2.2.2 i) = 0
        rw [if_pos hi, if_pos (by omega)]
        exact ⟨fun _ => rfl, fun _ => rfl⟩
      · exact absurd (show (if i < 40 then (0 : Int32) else x.1.2.2.2 i) = 0 from if_pos (by omega)) h0
      · show (if i < n then (-1 : Int32) else r.2.2 i) = (if i < 40 then (-1 : Int32) else x.1.2.2.1 i)
        rw [if_pos hi, if_pos (by omega)]
    have hF := FI_loop hn hnet hLn has (n + 1) _ _ hst (fun i hi _ _ => show (if i < 40 then (-1 : Int32) else x.1.2.2.1 i) = -1 from if_pos (by omega))
    have hcl := ok_closed (N0 := x.2.1) (Ln := Ln) hn hj hnet h0
    have hK0 := size0 hn h0
    dsimp only
    unfold mqfin
    dsimp only
    generalize mqloop n F T Ln ac (n + 1) ((mqpush n (mqclear x.1.1) (nI j) 0).2, x.1.2.1, fqfill 40 (-1) x.1.2.2.1, fqfill 40 0 x.1.2.2.2) = s at hR h0 hF hcl hK0 ⊢
    generalize fqrounds n as n ((fqpush n (fqempty n r.1) (nI j) 0).2, fqfill n (-1) r.2.1, fqfill n (-1) r.2.2) = rr at hR ⊢
    have ht := too_closed (Tk := s.2.2.2) hn hnet has hR.2.2.1
    by_cases e2 : fqtoo n as rr.2.1 = true
    · have hok := hcl.mp (ht.mp e2)
      rw [if_pos e2, hok, if_neg (by decide)]
      refine ⟨rfl, Or.inr ⟨rfl, fun i hi => ⟨?_, ?_⟩⟩⟩
      · show rr.2.1 i = if s.2.2.2 i = 0 then -1 else s.2.1 i
        by_cases e3 : s.2.2.2 i = 0
        · rw [if_pos e3]; exact (hR.2.2.1 i hi).mpr e3
        · rw [if_neg e3]; exact hR.2.2.2.1 i hi e3
      · show rr.2.2 i = if s.2.2.2 i = 0 then -1 else s.2.2.1 i
        by_cases e3 : s.2.2.2 i = 0
        · rw [if_pos e3, hR.2.2.2.2 i hi]; exact hF i hi e3 (hK0 i hi)
        · rw [if_neg e3]; exact hR.2.2.2.2 i hi
    · have hok : mqok s.2.2.2 (mqspread n F T ac j x.2.1) n 0 1 = 0 := by
        rcases mqok_spec (Tk := s.2.2.2) (N := mqspread n F T ac j x.2.1) n 0 with ⟨h1, -⟩ | ⟨h1, -⟩
        · exact absurd (ht.mpr (hcl.mpr h1)) e2
        · exact h1
      rw [if_neg e2, hok, if_pos rfl]
      exact ⟨rfl, Or.inl ⟨rfl, fun i hi => ⟨if_pos hi, if_pos hi⟩⟩⟩
