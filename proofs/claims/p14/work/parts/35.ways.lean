/-! THE WAYS: near, taken, hasWays -/
def NC (ac : Nat) (F T : Nat → Int32) (N : Nat → Int32) : Prop := ∀ k, k < ac → N (fqn (F k)) ≠ 0 → N (fqn (T k)) ≠ 0
theorem near1_mono {F T : Nat → Int32} : ∀ (d i : Nat) (N : Nat → Int32) (t : Nat), N t ≠ 0 → mqnear1 F T d i N t ≠ 0 := by
  intro d
  induction d with
  | zero => exact fun i N t h => h
  | succ d ih =>
    intro i N t h
    rw [mqnear1_s]
    apply ih
    by_cases e : t = fqn (T i)
    · rw [e] at h ⊢
      rw [pk_us, if_neg (fun q9 => h q9.1)]
      decide
    · rw [pk_un e]; exact h
theorem near1_hit {F T : Nat → Int32} : ∀ (d i : Nat) (N : Nat → Int32) (k : Nat), i ≤ k → k < d + i → N (fqn (F k)) ≠ 0 → mqnear1 F T d i N (fqn (T k)) ≠ 0 := by
  intro d
  induction d with
  | zero => intro i N k h1 h2; omega
  | succ d ih =>
    intro i N k h1 h2 h
    rw [mqnear1_s]
    rcases Nat.eq_or_lt_of_le h1 with e | e
    · subst e
      apply near1_mono
      rw [pk_us, if_neg (fun q9 => h q9.2)]
      decide
    · apply ih (i + 1) _ k e (by omega)
      by_cases e2 : fqn (F k) = fqn (T i)
      · rw [e2] at h ⊢
        rw [pk_us, if_neg (fun q9 => h q9.1)]
        decide
      · rw [pk_un e2]; exact h
/-- a set that holds the start and is closed holds all that is near -/
theorem near1_in {F T : Nat → Int32} {ac : Nat} {P : Nat → Prop} (hP : ∀ k, k < ac → P (fqn (F k)) → P (fqn (T k))) : ∀ (d i : Nat) (N : Nat → Int32), d + i ≤ ac → (∀ t, N t ≠ 0 → t < 40 → P t) → (∀ k, k < ac → fqn (F k) < 40) → ∀ t, t < 40 → mqnear1 F T d i N t ≠ 0 → P t := by
  intro d
  induction d with
  | zero => exact fun i N _ h _ t ht h1 => h t h1 ht
  | succ d ih =>
    intro i N hd h hF
    rw [mqnear1_s]
    refine ih (i + 1) _ (by omega) (fun t h1 ht => ?_) hF
    by_cases e : t = fqn (T i)
    · rw [e] at h1 ht ⊢
      rw [pk_us] at h1
      by_cases e2 : N (fqn (T i)) = 0
      · by_cases e3 : N (fqn (F i)) = 0
        · rw [if_pos ⟨e2, e3⟩] at h1; exact absurd rfl h1
        · exact hP i (by omega) (h _ e3 (hF i (by omega)))
      · exact h _ e2 ht
    · rw [pk_un e] at h1
      exact h t h1 ht
theorem near_in {F T : Nat → Int32} {ac : Nat} {P : Nat → Prop} (hP : ∀ k, k < ac → P (fqn (F k)) → P (fqn (T k))) (hF : ∀ k, k < ac → fqn (F k) < 40) : ∀ (d : Nat) (N : Nat → Int32), (∀ t, N t ≠ 0 → t < 40 → P t) → ∀ t, t < 40 → mqnear F T ac d N t ≠ 0 → P t := by
  intro d
  induction d with
  | zero => exact fun N h t ht h1 => h t h1 ht
  | succ d ih =>
    intro N h t ht h1
    rw [mqnear_s] at h1
    exact ih _ (fun t h2 ht2 => near1_in hP ac 0 N (Nat.le_refl _) h hF t ht2 h2) t ht h1
theorem near_mono {F T : Nat → Int32} {ac : Nat} : ∀ (d : Nat) (N : Nat → Int32) (t : Nat), N t ≠ 0 → mqnear F T ac d N t ≠ 0 := by
  intro d
  induction d with
  | zero => exact fun N t h => h
  | succ d ih => intro N t h; rw [mqnear_s]; exact ih _ t (near1_mono _ _ _ _ h)
theorem fqcnt_mono {p q : Nat → Bool} {n : Nat} (h : ∀ i, i < n → p i = true → q i = true) : fqcnt p n ≤ fqcnt q n := by
  induction n with
  | zero => exact Nat.le_refl _
  | succ n ih =>
    unfold fqcnt
    have h1 := ih (fun i hi => h i (by omega))
    by_cases e : p n = true
    · rw [if_pos e, if_pos (h n (by omega) e)]; omega
    · rw [if_neg e]; split <;> omega
theorem fqcnt_more {p q : Nat → Bool} {n j : Nat} (h : ∀ i, i < n → p i = true → q i = true) (hj : j < n) (h0 : p j = false) (h1 : q j = true) : fqcnt p n + 1 ≤ fqcnt q n := by
  have e := fqcnt_on (p := p) (q := fun i => if i = j then true else p i) hj h0 (if_pos rfl) (fun i _ hi => (if_neg hi).symm)
  have m := fqcnt_mono (p := fun i => if i = j then true else p i) (q := q) (n := n) (fun i hi h2 => by
    by_cases e2 : i = j
    · rw [e2]; exact h1
    · have h2 : (if i = j then true else p i) = true := h2
      rw [if_neg e2] at h2; exact h i hi h2)
  omega
def NN (n : Nat) (N : Nat → Int32) : Nat := fqcnt (fun i => decide (N i ≠ 0)) n
theorem near_grow {n ac : Nat} {F T : Nat → Int32} (hn : n ≤ 40) (hnet : mqnet n ac F T) : ∀ (d : Nat) (N : Nat → Int32), NC ac F T (mqnear F T ac d N) ∨ NN n N + d ≤ NN n (mqnear F T ac d N) := by
  intro d
  induction d with
  | zero => exact fun N => Or.inr (Nat.le_refl _)
  | succ d ih =>
    intro N
    rw [mqnear_s]
    by_cases hc : NC ac F T N
    · left
      -- closed: a pass finds nothing new
      have hs : ∀ t, t < 40 → (mqnear F T ac d (mqnear1 F T ac 0 N)) t ≠ 0 → N t ≠ 0 := by
        have hF : ∀ k, k < ac → fqn (F k) < 40 := fun k hk => by
          obtain ⟨u, hu, e⟩ := (hnet k hk).1
          rw [e, fqn_nI (by omega)]; omega
        have h := near_in (P := fun t => N t ≠ 0) hc hF (d + 1) N (fun t h _ => h)
        exact h
      intro k hk h1
      obtain ⟨u, hu, e⟩ := (hnet k hk).1
      have h2 := hs (fqn (F k)) (by rw [e, fqn_nI (by omega)]; omega) h1
      have h3 := near_mono (F := F) (T := T) (ac := ac) (d + 1) N _ (hc k hk h2)
      exact h3
    · have hex : ∃ k, k < ac ∧ N (fqn (F k)) ≠ 0 ∧ N (fqn (T k)) = 0 := by
        apply Classical.byContradiction
        intro h
        exact hc (fun k hk h1 h2 => h ⟨k, hk, h1, h2⟩)
      obtain ⟨k, hk, h1, h2⟩ := hex
      obtain ⟨v, hv, e⟩ := (hnet k hk).2
      rcases ih (mqnear1 F T ac 0 N) with h3 | h3
      · exact Or.inl h3
      · right
        have h4 : NN n N + 1 ≤ NN n (mqnear1 F T ac 0 N) := fqcnt_more (j := v) (fun i _ hp => decide_eq_true (near1_mono _ _ _ _ (of_decide_eq_true hp))) hv (by rw [e, fqn_nI (by omega)] at h2; simp [h2]) (by
          have h5 := near1_hit (T := T) ac 0 N k (Nat.zero_le _) (by omega) h1
          rw [e, fqn_nI (by omega)] at h5
          exact decide_eq_true h5)
        omega
theorem spread_closed {n ac j : Nat} {F T N : Nat → Int32} (hn : n ≤ 40) (hj : j < n) (hnet : mqnet n ac F T) : NC ac F T (mqspread n F T ac j N) := by
  rcases near_grow hn hnet n (mqstart j N) with h | h
  · exact h
  · have h1 : 0 < NN n (mqstart j N) := fqcnt_pos hj (by unfold mqstart; rw [if_pos (by omega), if_pos rfl]; decide)
    have h2 := fqcnt_le (fun i => decide (mqnear F T ac n (mqstart j N) i ≠ 0)) n
    unfold NN at h h1
    omega
theorem spread_j {n ac j : Nat} {F T N : Nat → Int32} (hn : n ≤ 40) (hj : j < n) : mqspread n F T ac j N j ≠ 0 := near_mono _ _ _ (by unfold mqstart; rw [if_pos (by omega), if_pos rfl]; decide)
/-- near is within each closed set that holds the start -/
theorem spread_in {n ac j : Nat} {F T N : Nat → Int32} {P : Nat → Prop} (hn : n ≤ 40) (hnet : mqnet n ac F T) (hP : ∀ k, k < ac → P (fqn (F k)) → P (fqn (T k))) (h0 : P j) : ∀ t, t < 40 → mqspread n F T ac j N t ≠ 0 → P t := by
  refine near_in hP (fun k hk => ?_) n _ (fun t h ht => ?_)
  · obtain ⟨u, hu, e⟩ := (hnet k hk).1
    rw [e, fqn_nI (by omega)]; omega
  · unfold mqstart at h
    rw [if_pos ht] at h
    by_cases e : t = j
    · rw [e]; exact h0
    · rw [if_neg e] at h; exact absurd rfl h
theorem mqok_0 {Tk N : Nat → Int32} : ∀ (d i : Nat), mqok Tk N d i 0 = 0 := by
  intro d
  induction d with
  | zero => exact fun _ => rfl
  | succ d ih => intro i; rw [mqok_s, if_pos rfl]; exact ih (i + 1)
theorem mqok_spec {Tk N : Nat → Int32} : ∀ (d i : Nat), (mqok Tk N d i 1 = 1 ∧ ∀ t, i ≤ t → t < d + i → Tk t ≠ 0 ∨ N t = 0) ∨ (mqok Tk N d i 1 = 0 ∧ ∃ t, i ≤ t ∧ t < d + i ∧ Tk t = 0 ∧ N t ≠ 0) := by
  intro d
  induction d with
  | zero => exact fun i => Or.inl ⟨rfl, fun t h1 h2 => by omega⟩
  | succ d ih =>
    intro i
    rw [mqok_s, if_neg (by decide)]
    by_cases e1 : Tk i = 0
    · rw [if_pos e1]
      by_cases e2 : N i = 0
      · rw [if_pos e2]
        rcases ih (i + 1) with ⟨h1, h2⟩ | ⟨h1, t, h2, h3, h4⟩
        · refine Or.inl ⟨h1, fun t h3 h4 => ?_⟩
          rcases Nat.eq_or_lt_of_le h3 with q | q
          · subst q; exact Or.inr e2
          · exact h2 t q (by omega)
        · exact Or.inr ⟨h1, t, by omega, by omega, h4⟩
      · rw [if_neg e2]
        exact Or.inr ⟨mqok_0 _ _, i, Nat.le_refl _, by omega, e1, e2⟩
    · rw [if_neg e1]
      rcases ih (i + 1) with ⟨h1, h2⟩ | ⟨h1, t, h2, h3, h4⟩
      · refine Or.inl ⟨h1, fun t h3 h4 => ?_⟩
        rcases Nat.eq_or_lt_of_le h3 with q | q
        · subst q; exact Or.inl e1
        · exact h2 t q (by omega)
      · exact Or.inr ⟨h1, t, by omega, by omega, h4⟩
/-- what is there or taken in run -/
def MI (n j : Nat) (P : Nat → Prop) (s : mqR) : Prop := (∀ i, i < n → (s.1.2.2.2 i ≠ -1 ∨ s.2.2.2 i ≠ 0) → P i) ∧ (s.1.2.2.2 j ≠ -1 ∨ s.2.2.2 j ≠ 0)
theorem mqpush_keep {n : Nat} {q : mqQ} {x key : Int32} {i : Nat} (h : q.2.2.2 i ≠ -1) : (mqpush n q x key).2.2.2.2 i ≠ -1 := by
  unfold mqpush
  cases fqat n x with
  | none => exact h
  | some j =>
    dsimp only
    split
    · rename_i h1
      split
      · exact h
      · show upd q.2.2.2 j key i ≠ -1
        rw [pk_un (fun e => h (by rw [e]; exact h1))]
        exact h
    · exact h
theorem mqlower_keep {n : Nat} {q : mqQ} {x key : Int32} {i : Nat} (hq : ¬ q.1 < 0) (h : q.2.2.2 i ≠ -1) : (mqlower n q x key).2.2.2.2 i ≠ -1 := by
  unfold mqlower
  cases fqat n x with
  | none => exact h
  | some j =>
    dsimp only
    split
    · exact h
    · split
      · exact h
      · rename_i h1 h2
        split
        · show upd q.2.2.2 j key i ≠ -1
          by_cases e : i = j
          · rw [e, pk_us]; exact fq_ge1 (Int32.not_lt.mp h2) hq
          · rw [pk_un e]; exact h
        · exact h
theorem MI_reach {n j : Nat} {P : Nat → Prop} {s : mqR} {u v : Nat} {w : Int32} (hn : n ≤ 40) (hv : v < n) (hP : P v) (hq : ¬ s.1.1 < 0) (h : MI n j P s) : MI n j P (mqreach n s u v w) := by
  unfold mqreach
  split
  · split
    · exact h
    · split
      · refine ⟨fun i hi h1 => ?_, ?_⟩
        · rcases h1 with h1 | h1
          · rcases mqpush_K h1 with h2 | h2
            · exact h.1 i hi (Or.inl h2)
            · rw [← (nI_eq (by omega) (by omega)).mp h2]; exact hP
          · exact h.1 i hi (Or.inr h1)
        · rcases h.2 with h2 | h2
          · exact Or.inl (mqpush_keep h2)
          · exact Or.inr h2
      · split
        · refine ⟨fun i hi h1 => ?_, ?_⟩
          · rcases h1 with h1 | h1
            · rcases mqlower_K h1 with h2 | h2
              · exact h.1 i hi (Or.inl h2)
              · rw [← (nI_eq (by omega) (by omega)).mp h2]; exact hP
            · exact h.1 i hi (Or.inr h1)
          · rcases h.2 with h2 | h2
            · exact Or.inl (mqlower_keep hq h2)
            · exact Or.inr h2
        · exact h
  · exact h
theorem MI_sweep {n j : Nat} {P : Nat → Prop} {F T Ln : Nat → Int32} {u ac : Nat} (hn : n ≤ 40) (hnet : mqnet n ac F T) (hP : ∀ k, k < ac → P (fqn (F k)) → P (fqn (T k))) (hu : u < n) (hPu : P u) : ∀ (d : Nat) (s : mqR), d ≤ ac → mqT n s → MI n j P s → MI n j P (mqsweep n F T Ln u d s) := by
  intro d
  induction d with
  | zero => exact fun s _ _ h => h
  | succ d ih =>
    intro s hd hT h
    rw [mqsweep_s]
    by_cases e : F d = nI u
    · rw [if_pos e]
      obtain ⟨v, hv, ev⟩ := (hnet d (by omega)).2
      have hPv := hP d (by omega) (by rw [e, fqn_nI (by omega)]; exact hPu)
      rw [ev, fqn_nI (by omega)] at hPv ⊢
      exact ih _ (by omega) (mqreach_T hn hv hT).1 (MI_reach hn hv hPv hT.1.1 h)
    · rw [if_neg e]; exact ih s (by omega) hT h
theorem MI_next {n j : Nat} {P : Nat → Prop} {F T Ln : Nat → Int32} {ac : Nat} {s : mqR} (hn : n ≤ 40) (hnet : mqnet n ac F T) (hP : ∀ k, k < ac → P (fqn (F k)) → P (fqn (T k))) (hT : mqT n s) (h : MI n j P s) (h0 : 0 < mqcnt (mqhas s.1.2.2.2) n 0 0) : MI n j P (mqnext n F T Ln ac s) := by
  obtain ⟨a, ha, hk, e1, e2⟩ := mqpop_some h0
  unfold mqnext
  rw [e1, fqn_nI (by omega)]
  refine MI_sweep hn hnet hP ha (h.1 a ha (Or.inl hk)) ac _ (Nat.le_refl _) (mqpop_T hT hn ha hk e2) ⟨fun i hi h1 => ?_, ?_⟩
  · by_cases e : i = a
    · rw [e]; exact h.1 a ha (Or.inl hk)
    · rcases h1 with h1 | h1
      · have h1 : (mqpop n s.1).2.2.2.2 i ≠ -1 := h1
        rw [e2, pk_un e] at h1
        exact h.1 i hi (Or.inl h1)
      · have h1 : upd s.2.2.2 a 1 i ≠ 0 := h1
        rw [pk_un e] at h1
        exact h.1 i hi (Or.inr h1)
  · show (mqpop n s.1).2.2.2.2 j ≠ -1 ∨ upd s.2.2.2 a 1 j ≠ 0
    by_cases e : j = a
    · rw [e, pk_us]; exact Or.inr (by decide)
    · rw [e2, pk_un e, pk_un e]; exact h.2
theorem MI_loop {n j : Nat} {P : Nat → Prop} {F T Ln : Nat → Int32} {ac : Nat} (hn : n ≤ 40) (hnet : mqnet n ac F T) (hP : ∀ k, k < ac → P (fqn (F k)) → P (fqn (T k))) : ∀ (d : Nat) (s : mqR), mqT n s → MI n j P s → MI n j P (mqloop n F T Ln ac d s) := by
  intro d
  induction d with
  | zero => exact fun s _ h => h
  | succ d ih =>
    intro s hT h
    rw [mqloop_s]
    split
    · rename_i h0
      exact ih _ (mqnext_T hn hnet hT h0).1 (MI_next hn hnet hP hT h h0)
    · exact h
