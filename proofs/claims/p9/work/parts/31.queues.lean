/-! THE QUEUES OF BOTH SIDES -/
theorem fqn_le {x y : Int32} (hx : ¬ x < 0) (hy : ¬ y < 0) : x ≤ y ↔ fqn x ≤ fqn y := by
  obtain ⟨a, ha, rfl⟩ := nI_of hx
  obtain ⟨b, hb, rfl⟩ := nI_of hy
  rw [fqn_nI ha, fqn_nI hb, nI_leI ha hb]
theorem fqn_lt' {x y : Int32} (hx : ¬ x < 0) (hy : ¬ y < 0) : x < y ↔ fqn x < fqn y := by
  obtain ⟨a, ha, rfl⟩ := nI_of hx
  obtain ⟨b, hb, rfl⟩ := nI_of hy
  rw [fqn_nI ha, fqn_nI hb, nI_ltI ha hb]
theorem fqn_inj {x y : Int32} (hx : ¬ x < 0) (hy : ¬ y < 0) (h : fqn x = fqn y) : x = y := by rw [← nI_fqn hx, ← nI_fqn hy, h]
theorem fq_ge0 {a b : Int32} (h : b ≤ a) (hb : ¬ b < 0) : ¬ a < 0 := fun q => hb (Int32.lt_of_le_of_lt h q)
theorem fq_ge1 {a b : Int32} (h : b ≤ a) (hb : ¬ b < 0) : a ≠ -1 := fun q => fq_ge0 h hb (by rw [q]; decide)
theorem fqk_eq {x f : Int32} {b : Nat} (hb : b < 32) : nI (fqk x f) = nI b ↔ fqk x f = b := nI_eq (by have := fqk_lt x f; omega) (by omega)
/-- an item: its key and bucket in the class, its key in the reference -/
def QI (lo k b mk : Int32) : Prop := (mk = -1 ∧ b = -1) ∨ (mk ≠ -1 ∧ k = mk ∧ lo ≤ mk ∧ b = nI (fqk mk lo))
def MC (n : Nat) (B M : Nat → Int32) : Prop := ∀ b, b < 32 → M b = nI (fqcnt (fun i => decide (B i = nI b)) n)
def QR (n : Nat) (q : fqQ) (m : mqQ) : Prop := q.1 = m.1 ∧ ¬ m.1 < 0 ∧ q.2.2.1 = m.2.1 ∧ (∀ i, i < n → QI m.1 (q.2.2.2.2.1 i) (q.2.2.2.2.2.1 i) (m.2.2.2 i)) ∧ q.2.1 = nI (fqcnt (mqhas m.2.2.2) n) ∧ MC n q.2.2.2.2.2.1 q.2.2.2.2.2.2
theorem QI.away {lo k b mk : Int32} (h : QI lo k b mk) : b = -1 ↔ mk = -1 := by
  rcases h with ⟨h1, h2⟩ | ⟨h1, -, -, h4⟩
  · exact ⟨fun _ => h1, fun _ => h2⟩
  · constructor
    · intro h5
      rw [h5] at h4
      exact absurd h4.symm (fq_nm1 (by have := fqk_lt mk lo; omega))
    · exact fun h5 => absurd h5 h1
theorem QI.there {lo k b mk : Int32} (h : QI lo k b mk) (h0 : mk ≠ -1) : k = mk ∧ lo ≤ mk ∧ b = nI (fqk mk lo) := by
  rcases h with ⟨h1, -⟩ | ⟨-, h⟩
  · exact absurd h1 h0
  · exact h
theorem QI.range {lo k b mk : Int32} (h : QI lo k b mk) : b = -1 ∨ ∃ b', b' < 32 ∧ b = nI b' := by
  rcases h with ⟨-, h2⟩ | ⟨-, -, -, h4⟩
  · exact Or.inl h2
  · exact Or.inr ⟨_, fqk_lt mk lo, h4⟩
theorem MC.leave {n : Nat} {B M : Nat → Int32} (h : MC n B M) {j b : Nat} (hj : j < n) (hb : b < 32) (e : B j = nI b) : MC n (upd B j (-1)) (upd M b (M b - 1)) := by
  intro c hc
  by_cases e1 : c = b
  · subst e1
    rw [pk_us, h c hc]
    have h1 := fqcnt_on (p := fun i => decide (upd B j (-1) i = nI c)) (q := fun i => decide (B i = nI c)) hj (by rw [pk_us]; exact decide_eq_false (fun q => fq_nm1 (by omega) q.symm)) (by simp [e]) (fun i _ hi => by rw [pk_un hi])
    rw [h1, nI_pred]
  · rw [pk_un e1, h c hc]
    congr 1
    refine fqcnt_eq fun i _ => ?_
    by_cases e2 : i = j
    · subst e2
      rw [pk_us, e, decide_eq_false (fun q => e1 ((nI_eq (by omega) (by omega)).mp q).symm), decide_eq_false (fun q => fq_nm1 (by omega) q.symm)]
    · rw [pk_un e2]
theorem MC.join {n : Nat} {B M : Nat → Int32} (h : MC n B M) {j b : Nat} (hj : j < n) (hb : b < 32) (e : B j = -1) : MC n (upd B j (nI b)) (upd M b (M b + 1)) := by
  intro c hc
  by_cases e1 : c = b
  · subst e1
    rw [pk_us, h c hc]
    have h1 := fqcnt_on (p := fun i => decide (B i = nI c)) (q := fun i => decide (upd B j (nI c) i = nI c)) hj (by rw [e]; exact decide_eq_false (fun q => fq_nm1 (by omega) q.symm)) (by rw [pk_us]; simp) (fun i _ hi => by rw [pk_un hi])
    rw [h1, nI_1]
  · rw [pk_un e1, h c hc]
    congr 1
    refine fqcnt_eq fun i _ => ?_
    by_cases e2 : i = j
    · subst e2
      rw [pk_us, e, decide_eq_false (fun q => fq_nm1 (by omega) q.symm), decide_eq_false (fun q => e1 ((nI_eq (by omega) (by omega)).mp q).symm)]
    · rw [pk_un e2]
theorem fqleave_MC {n : Nat} {q : fqQ} {j : Nat} (hj : j < n) (hB : q.2.2.2.2.2.1 j = -1 ∨ ∃ b, b < 32 ∧ q.2.2.2.2.2.1 j = nI b) (h : MC n q.2.2.2.2.2.1 q.2.2.2.2.2.2) : MC n (fqleave q j).2.2.2.2.2.1 (fqleave q j).2.2.2.2.2.2 := by
  obtain ⟨fl, pr, pg, ky, K, B, M⟩ := q
  dsimp only at hB h
  simp only [fqleave]
  split
  · exact h
  · rename_i h1
    obtain ⟨b, hb, e⟩ := hB.resolve_left h1
    rw [e, fqn_nI (by omega)]
    exact h.leave hj hb e
theorem fqput_MC {n : Nat} {q : fqQ} {j : Nat} (hj : j < n) (hB : q.2.2.2.2.2.1 j = -1 ∨ ∃ b, b < 32 ∧ q.2.2.2.2.2.1 j = nI b) (h : MC n q.2.2.2.2.2.1 q.2.2.2.2.2.2) : MC n (fqput q j).2.2.2.2.2.1 (fqput q j).2.2.2.2.2.2 := by
  have h1 := fqleave_MC hj hB h
  have h2 : (fqleave q j).2.2.2.2.2.1 j = -1 := by rw [fqleave_B, if_pos rfl]
  unfold fqput
  generalize fqleave q j = u at h1 h2
  obtain ⟨fl, pr, pg, ky, K, B, M⟩ := u
  exact h1.join hj (fqk_lt _ _) h2
theorem fqtake_MC {n : Nat} {q : fqQ} {j : Nat} (hj : j < n) (hB : q.2.2.2.2.2.1 j = -1 ∨ ∃ b, b < 32 ∧ q.2.2.2.2.2.1 j = nI b) (h : MC n q.2.2.2.2.2.1 q.2.2.2.2.2.2) : MC n (fqtake q j).2.2.2.2.2.1 (fqtake q j).2.2.2.2.2.2 := by
  have h1 := fqleave_MC hj hB h
  unfold fqtake
  generalize fqleave q j = u at h1
  obtain ⟨fl, pr, pg, ky, K, B, M⟩ := u
  exact h1
theorem fqleave_s (q : fqQ) (j : Nat) : (fqleave q j).2.1 = q.2.1 ∧ (fqleave q j).2.2.1 = q.2.2.1 ∧ (fqleave q j).2.2.2.1 = q.2.2.2.1 := by
  obtain ⟨fl, pr, pg, ky, K, B, M⟩ := q
  simp only [fqleave]
  split <;> exact ⟨rfl, rfl, rfl⟩
theorem fqput_sc (q : fqQ) (j : Nat) : (fqput q j).2.1 = q.2.1 ∧ (fqput q j).2.2.1 = q.2.2.1 + 1 ∧ (fqput q j).2.2.2.1 = q.2.2.2.1 := by
  have h1 := fqleave_s q j
  unfold fqput
  generalize fqleave q j = u at h1
  obtain ⟨fl, pr, pg, ky, K, B, M⟩ := u
  obtain ⟨a, b, c⟩ := h1
  dsimp only at a b c ⊢
  exact ⟨a, by rw [b], c⟩
theorem fqtake_sc (q : fqQ) (j : Nat) : (fqtake q j).2.1 = q.2.1 - 1 ∧ (fqtake q j).2.2.1 = q.2.2.1 ∧ (fqtake q j).2.2.2.1 = q.2.2.2.1 := by
  have h1 := fqleave_s q j
  unfold fqtake
  generalize fqleave q j = u at h1
  obtain ⟨fl, pr, pg, ky, K, B, M⟩ := u
  obtain ⟨a, b, c⟩ := h1
  dsimp only at a b c ⊢
  exact ⟨by rw [a], b, c⟩
/-- push -/
theorem QR_push {n : Nat} (hn : n ≤ 40) {q : fqQ} {m : mqQ} (h : QR n q m) (x key : Int32) : (fqpush n q x key).1 = (mqpush n m x key).1 ∧ QR n (fqpush n q x key).2 (mqpush n m x key).2 := by
  obtain ⟨h1, h2, h3, h4, h5, h6⟩ := id h
  unfold fqpush mqpush
  cases e : fqat n x with
  | none => exact ⟨rfl, h⟩
  | some j =>
    obtain ⟨hj, -⟩ := fqat_lt e
    dsimp only
    have hi := h4 j hj
    by_cases e1 : m.2.2.2 j = -1
    · have e2 := hi.away.mpr e1
      rw [if_pos e1, if_pos e2, h1]
      by_cases e3 : key < m.1
      · rw [if_pos e3, if_pos e3]
        exact ⟨rfl, h⟩
      · rw [if_neg e3, if_neg e3]
        refine ⟨rfl, ?_⟩
        have hk1 : key ≠ -1 := fq_ge1 (Int32.not_lt.mp e3) h2
        obtain ⟨a1, a2, a3⟩ := fqput_sc (m.1, q.2.1 + 1, q.2.2.1, q.2.2.2.1 + 1, upd q.2.2.2.2.1 j key, q.2.2.2.2.2.1, q.2.2.2.2.2.2) j
        obtain ⟨b1, b2⟩ := fqput_K (m.1, q.2.1 + 1, q.2.2.1, q.2.2.2.1 + 1, upd q.2.2.2.2.1 j key, q.2.2.2.2.2.1, q.2.2.2.2.2.2) j
        refine ⟨b2, h2, by rw [a2]; show q.2.2.1 + 1 = m.2.1 + 1; rw [h3], fun i hil => ?_, ?_, fqput_MC hj (Or.inl e2) h6⟩
        · rw [b1, fqput_B]
          show QI m.1 (upd q.2.2.2.2.1 j key i) (if i = j then nI (fqk (upd q.2.2.2.2.1 j key j) m.1) else q.2.2.2.2.2.1 i) (upd m.2.2.2 j key i)
          by_cases e4 : i = j
          · subst e4
            rw [if_pos rfl, pk_us, pk_us]
            exact Or.inr ⟨hk1, rfl, Int32.not_lt.mp e3, rfl⟩
          · rw [if_neg e4, pk_un e4, pk_un e4]
            exact h4 i hil
        · rw [a1]
          show q.2.1 + 1 = nI (fqcnt (mqhas (upd m.2.2.2 j key)) n)
          rw [h5, fqcnt_on (p := mqhas m.2.2.2) (q := mqhas (upd m.2.2.2 j key)) hj (by simp [mqhas, e1]) (by unfold mqhas; rw [pk_us]; exact decide_eq_true hk1) (fun i _ hi => by unfold mqhas; rw [pk_un hi]), nI_1]
    · have e2 : ¬ q.2.2.2.2.2.1 j = -1 := fun q9 => e1 (hi.away.mp q9)
      rw [if_neg e1, if_neg e2]
      exact ⟨rfl, h⟩
/-- lower -/
theorem QR_lower {n : Nat} (hn : n ≤ 40) {q : fqQ} {m : mqQ} (h : QR n q m) (x key : Int32) : (fqlower n q x key).1 = (mqlower n m x key).1 ∧ QR n (fqlower n q x key).2 (mqlower n m x key).2 := by
  obtain ⟨h1, h2, h3, h4, h5, h6⟩ := id h
  unfold fqlower mqlower
  cases e : fqat n x with
  | none => exact ⟨rfl, h⟩
  | some j =>
    obtain ⟨hj, -⟩ := fqat_lt e
    dsimp only
    have hi := h4 j hj
    by_cases e1 : m.2.2.2 j = -1
    · rw [if_pos e1, if_pos (hi.away.mpr e1)]
      exact ⟨rfl, h⟩
    · obtain ⟨k1, k2, k3⟩ := hi.there e1
      rw [if_neg e1, if_neg (fun q9 => e1 (hi.away.mp q9)), h1]
      by_cases e3 : key < m.1
      · rw [if_pos e3, if_pos e3]
        exact ⟨rfl, h⟩
      · rw [if_neg e3, if_neg e3, k1]
        by_cases e4 : key ≤ m.2.2.2 j
        · rw [if_pos e4, if_pos e4]
          have hk1 : key ≠ -1 := fq_ge1 (Int32.not_lt.mp e3) h2
          have hcnt : fqcnt (mqhas (upd m.2.2.2 j key)) n = fqcnt (mqhas m.2.2.2) n := fqcnt_eq fun i _ => by
            unfold mqhas
            by_cases e5 : i = j
            · subst e5; rw [pk_us, decide_eq_true hk1, decide_eq_true e1]
            · rw [pk_un e5]
          by_cases e5 : m.2.2.2 j ≤ key
          · rw [if_pos e5]
            have ek : key = m.2.2.2 j := Int32.le_antisymm e4 e5
            refine ⟨rfl, h1, h2, ?_, fun i hil => ?_, by rw [hcnt]; exact h5, h6⟩
            · rw [ek, if_pos rfl, Int32.add_zero]; exact h3
            · show QI m.1 (q.2.2.2.2.1 i) (q.2.2.2.2.2.1 i) (upd m.2.2.2 j key i)
              by_cases e6 : i = j
              · subst e6; rw [pk_us, ek]; exact hi
              · rw [pk_un e6]; exact h4 i hil
          · rw [if_neg e5]
            refine ⟨rfl, ?_⟩
            show QR n (fqlow1 q j key) _
            unfold fqlow1
            rw [h1, k3]
            by_cases e7 : nI (fqk key m.1) = nI (fqk (m.2.2.2 j) m.1)
            · rw [if_pos e7, if_pos e7]
              refine ⟨rfl, h2, by show q.2.2.1 = m.2.1 + 0; rw [Int32.add_zero, h3], fun i hil => ?_, by rw [hcnt]; exact h5, h6⟩
              show QI m.1 (upd q.2.2.2.2.1 j key i) (q.2.2.2.2.2.1 i) (upd m.2.2.2 j key i)
              by_cases e6 : i = j
              · subst e6; rw [pk_us, pk_us]; exact Or.inr ⟨hk1, rfl, Int32.not_lt.mp e3, by rw [k3, e7]⟩
              · rw [pk_un e6, pk_un e6]; exact h4 i hil
            · rw [if_neg e7, if_neg e7]
              obtain ⟨a1, a2, a3⟩ := fqput_sc (m.1, q.2.1, q.2.2.1, q.2.2.2.1 + 1, upd q.2.2.2.2.1 j key, q.2.2.2.2.2.1, q.2.2.2.2.2.2) j
              obtain ⟨b1, b2⟩ := fqput_K (m.1, q.2.1, q.2.2.1, q.2.2.2.1 + 1, upd q.2.2.2.2.1 j key, q.2.2.2.2.2.1, q.2.2.2.2.2.2) j
              refine ⟨b2, h2, by rw [a2]; show q.2.2.1 + 1 = m.2.1 + 1; rw [h3], fun i hil => ?_, by rw [a1, hcnt]; exact h5, fqput_MC hj hi.range h6⟩
              rw [b1, fqput_B]
              show QI m.1 (upd q.2.2.2.2.1 j key i) (if i = j then nI (fqk (upd q.2.2.2.2.1 j key j) m.1) else q.2.2.2.2.2.1 i) (upd m.2.2.2 j key i)
              by_cases e6 : i = j
              · subst e6
                rw [if_pos rfl, pk_us, pk_us]
                exact Or.inr ⟨hk1, rfl, Int32.not_lt.mp e3, rfl⟩
              · rw [if_neg e6, pk_un e6, pk_un e6]
                exact h4 i hil
        · rw [if_neg e4, if_neg e4]
          exact ⟨rfl, h⟩
