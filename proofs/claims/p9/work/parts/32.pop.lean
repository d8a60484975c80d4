/-! POP ON BOTH SIDES -/
theorem fqlow_no {M : Nat → Int32} : ∀ (d i : Nat), fqlow M d i = none → ∀ b, i ≤ b → b < d + i → ¬ 0 < M b := by
  intro d
  induction d with
  | zero => intro i _ b h1 h2; omega
  | succ d ih =>
    intro i h b h1 h2
    have h : (if 0 < M i then some i else fqlow M d (i + 1)) = none := h
    by_cases e : 0 < M i
    · rw [if_pos e] at h; cases h
    · rw [if_neg e] at h
      rcases Nat.eq_or_lt_of_le h1 with q | q
      · subst q; exact e
      · exact ih (i + 1) h b q (by omega)
theorem fqlow_yes {M : Nat → Int32} : ∀ (d i b : Nat), fqlow M d i = some b → i ≤ b ∧ b < d + i ∧ 0 < M b ∧ ∀ c, i ≤ c → c < b → ¬ 0 < M c := by
  intro d
  induction d with
  | zero => intro i b h; cases h
  | succ d ih =>
    intro i b h
    have h : (if 0 < M i then some i else fqlow M d (i + 1)) = some b := h
    by_cases e : 0 < M i
    · rw [if_pos e] at h
      cases h
      exact ⟨Nat.le_refl _, by omega, e, fun c h1 h2 => by omega⟩
    · rw [if_neg e] at h
      obtain ⟨a1, a2, a3, a4⟩ := ih (i + 1) b h
      refine ⟨by omega, by omega, a3, fun c h1 h2 => ?_⟩
      rcases Nat.eq_or_lt_of_le h1 with q | q
      · subst q; exact e
      · exact a4 c q h2
/-- least key, then least number -/
def fqmin (n : Nat) (p : Nat → Prop) (k : Nat → Int32) (j : Nat) : Prop := j < n ∧ p j ∧ ∀ i, i < n → p i → k j ≤ k i ∧ (i < j → k j < k i)
theorem fqmin_uniq {n : Nat} {p : Nat → Prop} {k : Nat → Int32} {j j' : Nat} (h : fqmin n p k j) (h' : fqmin n p k j') : j = j' := by
  rcases Nat.lt_trichotomy j j' with q | q | q
  · exact absurd ((h'.2.2 j h.1 h.2.1).2 q) (Int32.not_lt.mpr (h.2.2 j' h'.1 h'.2.1).1)
  · exact q
  · exact absurd ((h.2.2 j' h'.1 h'.2.1).2 q) (Int32.not_lt.mpr (h'.2.2 j h.1 h.2.1).1)
def bestI (p : Nat → Prop) (k : Nat → Int32) (i : Nat) (a : Option Nat) : Prop := match a with
  | none => ∀ t, t < i → ¬ p t
  | some j => fqmin i p k j
theorem fqbest_inv {K B : Nat → Int32} {b : Int32} : ∀ (d i : Nat) (a : Option Nat), bestI (fun t => B t ≠ -1 ∧ B t = b) K i a → bestI (fun t => B t ≠ -1 ∧ B t = b) K (d + i) (fqbest K B b d i a) := by
  intro d
  induction d with
  | zero => intro i a h; rw [Nat.zero_add]; exact h
  | succ d ih =>
    intro i a h
    rw [show d + 1 + i = d + (i + 1) by omega]
    cases a with
    | none =>
      rw [fqbest_none]
      apply ih
      split
      · rename_i h1
        refine ⟨by omega, h1, fun t ht hp => ?_⟩
        rcases Nat.lt_or_ge t i with q | q
        · exact absurd hp (h t q)
        · rw [show t = i by omega]; exact ⟨Int32.le_refl _, fun q => by omega⟩
      · rename_i h1
        intro t ht hp
        rcases Nat.lt_or_ge t i with q | q
        · exact h t q hp
        · rw [show t = i by omega] at hp; exact h1 hp
    | some j =>
      rw [fqbest_some]
      apply ih
      obtain ⟨a1, a2, a3⟩ := h
      split
      · rename_i h1
        refine ⟨by omega, ⟨h1.1, h1.2.1⟩, fun t ht hp => ?_⟩
        rcases Nat.lt_or_ge t i with q | q
        · have h2 := Int32.lt_of_lt_of_le h1.2.2 (a3 t q hp).1
          exact ⟨Int32.le_of_lt h2, fun _ => h2⟩
        · rw [show t = i by omega]; exact ⟨Int32.le_refl _, fun q => by omega⟩
      · rename_i h1
        refine ⟨by omega, a2, fun t ht hp => ?_⟩
        rcases Nat.lt_or_ge t i with q | q
        · exact a3 t q hp
        · rw [show t = i by omega] at hp ⊢
          exact ⟨Int32.not_lt.mp fun q9 => h1 ⟨hp.1, hp.2, q9⟩, fun q => by omega⟩
def bestD (n : Nat) (k : Nat → Int32) (d : Nat) (a : Option Nat) : Prop := match a with
  | none => ∀ t, d ≤ t → t < n → k t = -1
  | some j => d ≤ j ∧ j < n ∧ k j ≠ -1 ∧ ∀ t, d ≤ t → t < n → k t ≠ -1 → k j ≤ k t ∧ (t < j → k j < k t)
theorem mqbest_inv {n : Nat} {K : Nat → Int32} : ∀ (d : Nat) (a : Option Nat), d ≤ n → bestD n K d a → bestD n K 0 (mqbest K d a) := by
  intro d
  induction d with
  | zero => exact fun a _ h => h
  | succ d ih =>
    intro a hd h
    cases a with
    | none =>
      rw [mqbest_none]
      apply ih _ (by omega)
      split
      · rename_i h1
        refine ⟨Nat.le_refl _, by omega, h1, fun t ht h2 hp => ?_⟩
        rcases Nat.eq_or_lt_of_le ht with q | q
        · subst q; exact ⟨Int32.le_refl _, fun q => by omega⟩
        · exact absurd (h t q h2) hp
      · rename_i h1
        intro t ht h2
        rcases Nat.eq_or_lt_of_le ht with q | q
        · subst q; exact Classical.not_not.mp h1
        · exact h t q h2
    | some j =>
      rw [mqbest_some]
      apply ih _ (by omega)
      obtain ⟨a1, a2, a3, a4⟩ := h
      split
      · rename_i h1
        refine ⟨Nat.le_refl _, by omega, h1.1, fun t ht h2 hp => ?_⟩
        rcases Nat.eq_or_lt_of_le ht with q | q
        · subst q; exact ⟨Int32.le_refl _, fun q => by omega⟩
        · exact ⟨Int32.le_trans h1.2 (a4 t q h2 hp).1, fun q => by omega⟩
      · rename_i h1
        refine ⟨by omega, a2, a3, fun t ht h2 hp => ?_⟩
        rcases Nat.eq_or_lt_of_le ht with q | q
        · subst q
          have h5 := Int32.not_le.mp fun q9 => h1 ⟨hp, q9⟩
          exact ⟨Int32.le_of_lt h5, fun _ => h5⟩
        · exact a4 t q h2 hp
theorem mqbest_min {n : Nat} {K : Nat → Int32} {j : Nat} (e : mqbest K n none = some j) : fqmin n (fun t => K t ≠ -1) K j := by
  have h := mqbest_inv (n := n) (K := K) n none (Nat.le_refl _) (fun t h1 h2 => by omega)
  rw [e] at h
  exact ⟨h.2.1, h.2.2.1, fun i hi hp => h.2.2.2 i (Nat.zero_le _) hi hp⟩
/-- spread, in one step -/
theorem fqspread_spec {n : Nat} {b : Int32} : ∀ (d i : Nat) (q : fqQ), i + d ≤ n → (∀ t, t < n → q.2.2.2.2.2.1 t = -1 ∨ ∃ c, c < 32 ∧ q.2.2.2.2.2.1 t = nI c) → MC n q.2.2.2.2.2.1 q.2.2.2.2.2.2 →
    (∀ t, (fqspread b d i q).2.2.2.2.2.1 t = if i ≤ t ∧ t < i + d ∧ q.2.2.2.2.2.1 t = b then nI (fqk (q.2.2.2.2.1 t) q.1) else q.2.2.2.2.2.1 t) ∧ (fqspread b d i q).2.2.1 = mqcnt (fun t => decide (q.2.2.2.2.2.1 t = b)) d i q.2.2.1 ∧ MC n (fqspread b d i q).2.2.2.2.2.1 (fqspread b d i q).2.2.2.2.2.2 ∧ (fqspread b d i q).1 = q.1 ∧ (fqspread b d i q).2.2.2.2.1 = q.2.2.2.2.1 ∧ (fqspread b d i q).2.1 = q.2.1 ∧ (fqspread b d i q).2.2.2.1 = q.2.2.2.1 := by
  intro d
  induction d with
  | zero =>
    intro i q _ _ hm
    exact ⟨fun t => by rw [if_neg (by omega)]; rfl, rfl, hm, rfl, rfl, rfl, rfl⟩
  | succ d ih =>
    intro i q hi hr hm
    rw [fqspread_s]
    by_cases e : q.2.2.2.2.2.1 i = b
    · rw [if_pos e]
      have hB := fqput_B q i
      obtain ⟨c1, c2⟩ := fqput_K q i
      obtain ⟨s1, s2, s3⟩ := fqput_sc q i
      have hm1 := fqput_MC (n := n) (q := q) (j := i) (by omega) (hr i (by omega)) hm
      obtain ⟨a1, a2, a3, a4, a5, a6, a7⟩ := ih (i + 1) (fqput q i) (by omega) (fun t ht => by
        rw [hB]
        by_cases e1 : t = i
        · rw [if_pos e1]; exact Or.inr ⟨_, fqk_lt _ _, rfl⟩
        · rw [if_neg e1]; exact hr t ht) hm1
      refine ⟨fun t => ?_, ?_, a3, a4.trans c2, a5.trans c1, a6.trans s1, a7.trans s3⟩
      · rw [a1, hB, c1, c2]
        by_cases e1 : t = i
        · subst e1
          rw [if_pos rfl, if_neg (by omega), if_pos ⟨Nat.le_refl _, by omega, e⟩]
        · rw [if_neg e1]
          by_cases e2 : i + 1 ≤ t ∧ t < i + 1 + d ∧ q.2.2.2.2.2.1 t = b
          · rw [if_pos e2, if_pos ⟨by omega, by omega, e2.2.2⟩]
          · rw [if_neg e2, if_neg (fun h => e2 ⟨by omega, by omega, h.2.2⟩)]
      · rw [a2, s2, mqcnt_s, if_pos (decide_eq_true e), mqcnt_eq, mqcnt_eq]
        congr 2
        have key : ∀ d' i', i < i' → fqfwd (fun t => decide ((fqput q i).2.2.2.2.2.1 t = b)) d' i' = fqfwd (fun t => decide (q.2.2.2.2.2.1 t = b)) d' i' := by
          intro d'
          induction d' with
          | zero => intro i' _; rfl
          | succ d' ih' =>
            intro i' h'
            show (if decide ((fqput q i).2.2.2.2.2.1 i' = b) = true then 1 else 0) + _ = (if decide (q.2.2.2.2.2.1 i' = b) = true then 1 else 0) + _
            rw [ih' (i' + 1) (by omega), hB, if_neg (show ¬ i' = i by omega)]
        exact key d (i + 1) (by omega)
    · rw [if_neg e]
      obtain ⟨a1, a2, a3, a4, a5, a6, a7⟩ := ih (i + 1) q (by omega) hr hm
      refine ⟨fun t => ?_, ?_, a3, a4, a5, a6, a7⟩
      · rw [a1]
        by_cases e1 : t = i
        · subst e1
          rw [if_neg (by omega), if_neg (fun h => e h.2.2)]
        · by_cases e2 : i + 1 ≤ t ∧ t < i + 1 + d ∧ q.2.2.2.2.2.1 t = b
          · rw [if_pos e2, if_pos ⟨by omega, by omega, e2.2.2⟩]
          · rw [if_neg e2, if_neg (fun h => e2 ⟨by omega, by omega, h.2.2⟩)]
      · rw [a2, mqcnt_s, if_neg (by simp [e]), Int32.add_zero]
theorem QR_take {n : Nat} {q : fqQ} {lo pm ca : Int32} {mK : Nat → Int32} {j : Nat} (hj : j < n) (h0 : mK j ≠ -1) (h : QR n q (lo, pm, ca, mK)) : QR n (fqtake q j) (lo, pm, ca, upd mK j (-1)) := by
  obtain ⟨h1, h2, h3, h4, h5, h6⟩ := h
  dsimp only at h1 h2 h3 h4 h5
  obtain ⟨a1, a2, a3⟩ := fqtake_sc q j
  obtain ⟨b1, b2⟩ := fqtake_K q j
  refine ⟨by rw [b2]; exact h1, h2, by rw [a2]; exact h3, fun i hil => ?_, ?_, fqtake_MC hj (h4 j hj).range h6⟩
  · rw [b1, fqtake_B]
    show QI lo (q.2.2.2.2.1 i) (if i = j then -1 else q.2.2.2.2.2.1 i) (upd mK j (-1) i)
    by_cases e : i = j
    · subst e
      rw [if_pos rfl, pk_us]
      exact Or.inl ⟨rfl, rfl⟩
    · rw [if_neg e, pk_un e]
      exact h4 i hil
  · rw [a1, h5]
    show _ = nI (fqcnt (mqhas (upd mK j (-1))) n)
    rw [fqcnt_on (p := mqhas (upd mK j (-1))) (q := mqhas mK) hj (by unfold mqhas; rw [pk_us]; rfl) (by simp [mqhas, h0]) (fun i _ hi => by unfold mqhas; rw [pk_un hi]), nI_pred]
theorem QR_pop {n : Nat} (hn : n ≤ 40) {q : fqQ} {m : mqQ} (h : QR n q m) : (fqpop n q).1 = (mqpop n m).1 ∧ QR n (fqpop n q).2 (mqpop n m).2 := by
  obtain ⟨h1, h2, h3, h4, h5, h6⟩ := id h
  unfold fqpop mqpop
  cases e : mqbest m.2.2.2 n none with
  | none =>
    have hall := (mqbest_no n none e).2
    cases e2 : fqbest q.2.2.2.2.1 q.2.2.2.2.2.1 (fqopt (fqlow q.2.2.2.2.2.2 32 0)) n 0 none with
    | none => exact ⟨rfl, h⟩
    | some j =>
      obtain ⟨-, hj, hb, -⟩ := (fqbest_in n 0 none j e2).resolve_left (fun h => by cases h)
      exact absurd ((h4 j (by omega)).away.mpr (hall j (by omega))) hb
  | some j =>
    have hmin := mqbest_min e
    obtain ⟨hj, hkj, hle⟩ := hmin
    have hkj : m.2.2.2 j ≠ -1 := hkj
    obtain ⟨k1, k2, k3⟩ := (h4 j hj).there hkj
    have hj0 : ¬ m.2.2.2 j < 0 := fq_ge0 k2 h2
    have hbl := fqk_lt (m.2.2.2 j) m.1
    -- the lowest bucket is j's
    have hpos : ∀ b, b < 32 → (0 < q.2.2.2.2.2.2 b ↔ ∃ i, i < n ∧ q.2.2.2.2.2.1 i = nI b) := by
      intro b hb
      have hc := fqcnt_le (fun i => decide (q.2.2.2.2.2.1 i = nI b)) n
      rw [h6 b hb]
      constructor
      · intro h7
        have h8 : 0 < fqcnt (fun i => decide (q.2.2.2.2.2.1 i = nI b)) n := (nI_ltI (by decide) (by omega)).mp h7
        obtain ⟨i, hi, h9⟩ := fqcnt_ex h8
        exact ⟨i, hi, of_decide_eq_true h9⟩
      · rintro ⟨i, hi, h9⟩
        exact (nI_ltI (by decide) (by omega)).mpr (fqcnt_pos hi (decide_eq_true h9))
    have hlow : fqlow q.2.2.2.2.2.2 32 0 = some (fqk (m.2.2.2 j) m.1) := by
      cases e3 : fqlow q.2.2.2.2.2.2 32 0 with
      | none => exact absurd ((hpos _ hbl).mpr ⟨j, hj, k3⟩) (fqlow_no 32 0 e3 _ (Nat.zero_le _) (by omega))
      | some b =>
        obtain ⟨-, b1, b2, b3⟩ := fqlow_yes 32 0 b e3
        obtain ⟨i, hi, h9⟩ := (hpos b (by omega)).mp b2
        have hti : m.2.2.2 i ≠ -1 := fun q9 => by
          rw [(h4 i hi).away.mpr q9] at h9
          exact fq_nm1 (by omega) h9.symm
        obtain ⟨c1, c2, c3⟩ := (h4 i hi).there hti
        have hbi : fqk (m.2.2.2 i) m.1 = b := (fqk_eq (by omega)).mp (c3.symm.trans h9)
        have hle1 : fqk (m.2.2.2 j) m.1 ≤ b := by
          rw [← hbi]
          exact fqbx_mono ((fqn_le h2 hj0).mp k2) ((fqn_le hj0 (fq_ge0 c2 h2)).mp (hle i hi hti).1)
        have hge1 : ¬ fqk (m.2.2.2 j) m.1 < b := fun q9 => b3 _ (Nat.zero_le _) q9 ((hpos _ hbl).mpr ⟨j, hj, k3⟩)
        rw [show b = fqk (m.2.2.2 j) m.1 by omega]
    have hbest : fqbest q.2.2.2.2.1 q.2.2.2.2.2.1 (fqopt (fqlow q.2.2.2.2.2.2 32 0)) n 0 none = some j := by
      rw [hlow]
      have hinv := fqbest_inv (K := q.2.2.2.2.1) (B := q.2.2.2.2.2.1) (b := nI (fqk (m.2.2.2 j) m.1)) n 0 none (fun t h => by omega)
      rw [Nat.add_zero] at hinv
      have hpj : q.2.2.2.2.2.1 j ≠ -1 ∧ q.2.2.2.2.2.1 j = nI (fqk (m.2.2.2 j) m.1) := ⟨fun q9 => hkj ((h4 j hj).away.mp q9), k3⟩
      show fqbest _ _ (nI (fqk (m.2.2.2 j) m.1)) n 0 none = some j
      cases e4 : fqbest q.2.2.2.2.1 q.2.2.2.2.2.1 (nI (fqk (m.2.2.2 j) m.1)) n 0 none with
      | none => rw [e4] at hinv; exact absurd hpj (hinv j hj)
      | some j' =>
        rw [e4] at hinv
        have hm2 : fqmin n (fun t => q.2.2.2.2.2.1 t ≠ -1 ∧ q.2.2.2.2.2.1 t = nI (fqk (m.2.2.2 j) m.1)) q.2.2.2.2.1 j := by
          refine ⟨hj, hpj, fun i hi hp => ?_⟩
          have hti : m.2.2.2 i ≠ -1 := fun q9 => hp.1 ((h4 i hi).away.mpr q9)
          rw [k1, ((h4 i hi).there hti).1]
          exact hle i hi hti
        have hinv : fqmin n (fun t => q.2.2.2.2.2.1 t ≠ -1 ∧ q.2.2.2.2.2.1 t = nI (fqk (m.2.2.2 j) m.1)) q.2.2.2.2.1 j' := hinv
        rw [fqmin_uniq hinv hm2]
    rw [hbest]
    dsimp only
    rw [hlow]
    refine ⟨rfl, ?_⟩
    show QR n (fqtake (if nI (fqk (m.2.2.2 j) m.1) ≤ 0 then (q.2.2.2.2.1 j, q.2) else fqspread (nI (fqk (m.2.2.2 j) m.1)) n 0 (q.2.2.2.2.1 j, q.2)) j) _
    by_cases e5 : nI (fqk (m.2.2.2 j) m.1) ≤ 0
    · rw [if_pos e5, if_pos e5]
      have hz : fqk (m.2.2.2 j) m.1 = 0 := by
        have := (nI_leI (by omega) (by decide)).mp (show nI (fqk (m.2.2.2 j) m.1) ≤ nI 0 from e5)
        omega
      have hlo : m.2.2.2 j = m.1 := fqn_inj hj0 h2 ((fqbx_0 _ _).mp hz)
      exact QR_take hj hkj ⟨by show q.2.2.2.2.1 j = m.1; rw [k1, hlo], h2, h3, h4, h5, h6⟩
    · rw [if_neg e5, if_neg e5]
      have hb0 : 0 < fqk (m.2.2.2 j) m.1 := by
        rcases Nat.eq_zero_or_pos (fqk (m.2.2.2 j) m.1) with q9 | q9
        · rw [q9] at e5; exact absurd (by decide) e5
        · exact q9
      apply QR_take hj hkj
      obtain ⟨a1, a2, a3, a4, a5, a6, a7⟩ := fqspread_spec (b := nI (fqk (m.2.2.2 j) m.1)) n 0 (q.2.2.2.2.1 j, q.2) (by omega) (fun t ht => (h4 t ht).range) h6
      refine ⟨by rw [a4]; exact k1, hj0, ?_, fun i hi => ?_, by rw [a6]; exact h5, a3⟩
      · rw [a2]
        show mqcnt _ n 0 q.2.2.1 = mqcnt _ n 0 m.2.1
        rw [h3, mqcnt_n, mqcnt_n]
        congr 2
        refine fqcnt_eq fun i hi => ?_
        unfold mqat
        show decide (q.2.2.2.2.2.1 i = nI (fqk (m.2.2.2 j) m.1)) = _
        by_cases e6 : m.2.2.2 i = -1
        · rw [(h4 i hi).away.mpr e6, decide_eq_false (fun q9 => fq_nm1 (by omega) q9.symm), decide_eq_false (fun q9 => q9.1 e6)]
        · rw [((h4 i hi).there e6).2.2]
          by_cases e7 : nI (fqk (m.2.2.2 i) m.1) = nI (fqk (m.2.2.2 j) m.1)
          · rw [decide_eq_true e7, decide_eq_true ⟨e6, e7⟩]
          · rw [decide_eq_false e7, decide_eq_false (fun q9 => e7 q9.2)]
      · rw [a1, a5]
        show QI (m.2.2.2 j) (q.2.2.2.2.1 i) (if 0 ≤ i ∧ i < 0 + n ∧ q.2.2.2.2.2.1 i = nI (fqk (m.2.2.2 j) m.1) then nI (fqk (q.2.2.2.2.1 i) (q.2.2.2.2.1 j)) else q.2.2.2.2.2.1 i) (m.2.2.2 i)
        by_cases e6 : m.2.2.2 i = -1
        · rw [if_neg (fun q9 => by rw [(h4 i hi).away.mpr e6] at q9; exact fq_nm1 (by omega) q9.2.2.symm)]
          exact Or.inl ⟨e6, (h4 i hi).away.mpr e6⟩
        · obtain ⟨c1, c2, c3⟩ := (h4 i hi).there e6
          have hji := (hle i hi e6).1
          refine Or.inr ⟨e6, c1, hji, ?_⟩
          rw [c1, k1, c3]
          by_cases e7 : nI (fqk (m.2.2.2 i) m.1) = nI (fqk (m.2.2.2 j) m.1)
          · rw [if_pos ⟨Nat.zero_le _, by omega, e7⟩]
          · rw [if_neg (fun q9 => e7 q9.2.2)]
            congr 1
            have hi0 : ¬ m.2.2.2 i < 0 := fq_ge0 c2 h2
            have hmono : fqk (m.2.2.2 j) m.1 ≤ fqk (m.2.2.2 i) m.1 := fqbx_mono ((fqn_le h2 hj0).mp k2) ((fqn_le hj0 hi0).mp hji)
            have hne : fqk (m.2.2.2 i) m.1 ≠ fqk (m.2.2.2 j) m.1 := fun q9 => e7 (by rw [q9])
            exact (fqbx_stay (f := fqn m.1) (g := fqn (m.2.2.2 j)) (k := fqn (m.2.2.2 i)) (by show fqk (m.2.2.2 j) m.1 < fqk (m.2.2.2 i) m.1; omega)).symm
