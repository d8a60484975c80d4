/-! PLACED AND THE CALLS THAT PLACE: the class's sound() -/
def bN (b : Int32) : Nat := if b = -1 then 0 else fqn b
def fqsum (f : Nat → Nat) : Nat → Nat
  | 0 => 0
  | n + 1 => fqsum f n + f n
theorem fqsum_le {f g : Nat → Nat} {n : Nat} (h : ∀ i, i < n → f i ≤ g i) : fqsum f n ≤ fqsum g n := by
  induction n with
  | zero => exact Nat.le_refl _
  | succ n ih =>
    have h1 := ih (fun i hi => h i (by omega))
    have h2 := h n (by omega)
    show fqsum f n + f n ≤ fqsum g n + g n
    omega
theorem fqsum_one {f g : Nat → Nat} {n j c : Nat} (hj : j < n) (h : ∀ i, i < n → i ≠ j → f i ≤ g i) (hc : f j ≤ g j + c) : fqsum f n ≤ fqsum g n + c := by
  induction n with
  | zero => omega
  | succ n ih =>
    show fqsum f n + f n ≤ fqsum g n + g n + c
    rcases Nat.lt_or_ge j n with q | q
    · have h1 := ih q (fun i hi => h i (by omega))
      have h2 := h n (by omega) (by omega)
      omega
    · have e : j = n := by omega
      subst e
      have h1 := fqsum_le (f := f) (g := g) (n := j) (fun i hi => h i (by omega) (by omega))
      omega
theorem fqsum_cnt {f g : Nat → Nat} {p : Nat → Bool} {n : Nat} (h : ∀ i, i < n → f i + (if p i = true then 1 else 0) ≤ g i) : fqsum f n + fqcnt p n ≤ fqsum g n := by
  induction n with
  | zero => exact Nat.le_refl _
  | succ n ih =>
    have h1 := ih (fun i hi => h i (by omega))
    have h2 := h n (by omega)
    show fqsum f n + f n + (fqcnt p n + (if p n = true then 1 else 0)) ≤ fqsum g n + g n
    omega
def SB (n : Nat) (B : Nat → Int32) : Nat := fqsum (fun i => bN (B i)) n
def PB (n : Nat) (q : fqQ) (Y0 : Nat) : Prop := ∃ P Y : Nat, q.2.2.1 = nI P ∧ q.2.2.2.1 = nI Y ∧ P + SB n q.2.2.2.2.2.1 ≤ 32 * Y ∧ Y ≤ Y0
theorem PB.up {n : Nat} {q : fqQ} {a b : Nat} (h : PB n q a) (hab : a ≤ b) : PB n q b := by
  obtain ⟨P, Y, h1, h2, h3, h4⟩ := h
  exact ⟨P, Y, h1, h2, h3, by omega⟩
theorem bN_k (x f : Int32) : bN (nI (fqk x f)) = fqk x f := by
  have h := fqk_lt x f
  unfold bN
  rw [if_neg (fq_nm1 (by omega)), fqn_nI (by omega)]
/-- one more placing, of an item that had a key given by one more call -/
theorem PB_put {n : Nat} {q : fqQ} {Y0 j : Nat} (hj : j < n) {P Y : Nat} (h1 : q.2.2.1 = nI P) (h2 : q.2.2.2.1 = nI (Y + 1)) (h3 : P + SB n q.2.2.2.2.2.1 ≤ 32 * Y) (h4 : Y ≤ Y0) : PB n (fqput q j) (Y0 + 1) := by
  obtain ⟨-, s2, s3⟩ := fqput_sc q j
  refine ⟨P + 1, Y + 1, by rw [s2, h1, nI_1], by rw [s3, h2], ?_, by omega⟩
  have h5 : SB n (fqput q j).2.2.2.2.2.1 ≤ SB n q.2.2.2.2.2.1 + 31 := by
    refine fqsum_one hj (fun i _ hi => ?_) ?_
    · show bN ((fqput q j).2.2.2.2.2.1 i) ≤ bN (q.2.2.2.2.2.1 i)
      rw [fqput_B, if_neg hi]
      exact Nat.le_refl _
    · show bN ((fqput q j).2.2.2.2.2.1 j) ≤ bN (q.2.2.2.2.2.1 j) + 31
      rw [fqput_B, if_pos rfl, bN_k]
      have := fqk_lt (q.2.2.2.2.1 j) q.1
      omega
  omega
theorem PB_push {n : Nat} {q : fqQ} {Y0 : Nat} (h : PB n q Y0) (x key : Int32) : PB n (fqpush n q x key).2 (Y0 + 1) := by
  unfold fqpush
  cases e : fqat n x with
  | none => exact h.up (by omega)
  | some j =>
    dsimp only
    split
    · split
      · exact h.up (by omega)
      · obtain ⟨P, Y, h1, h2, h3, h4⟩ := h
        exact PB_put (fqat_lt e).1 (P := P) (Y := Y) h1 (by show q.2.2.2.1 + 1 = nI (Y + 1); rw [h2, nI_1]) h3 h4
    · exact h.up (by omega)
theorem PB_lower {n : Nat} {q : fqQ} {Y0 : Nat} (h : PB n q Y0) (x key : Int32) : PB n (fqlower n q x key).2 (Y0 + 1) := by
  unfold fqlower
  cases e : fqat n x with
  | none => exact h.up (by omega)
  | some j =>
    dsimp only
    split
    · exact h.up (by omega)
    · split
      · exact h.up (by omega)
      · split
        · split
          · exact h.up (by omega)
          · show PB n (fqlow1 q j key) (Y0 + 1)
            obtain ⟨P, Y, h1, h2, h3, h4⟩ := h
            unfold fqlow1
            split
            · exact ⟨P, Y + 1, h1, by show q.2.2.2.1 + 1 = nI (Y + 1); rw [h2, nI_1], by show P + SB n q.2.2.2.2.2.1 ≤ 32 * (Y + 1); omega, by omega⟩
            · exact PB_put (fqat_lt e).1 (P := P) (Y := Y) h1 (by show q.2.2.2.1 + 1 = nI (Y + 1); rw [h2, nI_1]) h3 h4
        · exact h.up (by omega)
theorem PB_take {n : Nat} {q : fqQ} {Y0 j : Nat} (h : PB n q Y0) : PB n (fqtake q j) Y0 := by
  obtain ⟨P, Y, h1, h2, h3, h4⟩ := h
  obtain ⟨-, s2, s3⟩ := fqtake_sc q j
  refine ⟨P, Y, by rw [s2, h1], by rw [s3, h2], ?_, h4⟩
  have h5 : SB n (fqtake q j).2.2.2.2.2.1 ≤ SB n q.2.2.2.2.2.1 := by
    refine fqsum_le fun i _ => ?_
    show bN ((fqtake q j).2.2.2.2.2.1 i) ≤ bN (q.2.2.2.2.2.1 i)
    rw [fqtake_B]
    split
    · exact Nat.zero_le _
    · exact Nat.le_refl _
  omega
theorem PB_pop {n : Nat} (hn : n ≤ 40) {q : fqQ} {m : mqQ} {Y0 : Nat} (hQ : QR n q m) (h : PB n q Y0) : PB n (fqpop n q).2 Y0 := by
  obtain ⟨k1, k2, k3, k4, k5, k6⟩ := id hQ
  unfold fqpop
  cases e : fqbest q.2.2.2.2.1 q.2.2.2.2.2.1 (fqopt (fqlow q.2.2.2.2.2.2 32 0)) n 0 none with
  | none => exact h
  | some j =>
    obtain ⟨-, hj, hBj, hBb⟩ := (fqbest_in n 0 none j e).resolve_left (fun h => by cases h)
    have hj : j < n := by omega
    have hinv := fqbest_inv (K := q.2.2.2.2.1) (B := q.2.2.2.2.2.1) (b := fqopt (fqlow q.2.2.2.2.2.2 32 0)) n 0 none (fun t h => by omega)
    rw [Nat.add_zero, e] at hinv
    have hmin : ∀ i, i < n → q.2.2.2.2.2.1 i ≠ -1 ∧ q.2.2.2.2.2.1 i = fqopt (fqlow q.2.2.2.2.2.2 32 0) → q.2.2.2.2.1 j ≤ q.2.2.2.2.1 i := fun i hi hp => (hinv.2.2 i hi hp).1
    dsimp only
    apply PB_take
    split
    · obtain ⟨P, Y, h1, h2, h3, h4⟩ := h
      exact ⟨P, Y, h1, h2, h3, h4⟩
    · rename_i hb0
      obtain ⟨P, Y, h1, h2, h3, h4⟩ := h
      generalize fqopt (fqlow q.2.2.2.2.2.2 32 0) = b at hBb hmin hb0 ⊢
      obtain ⟨a1, a2, a3, a4, a5, a6, a7⟩ := fqspread_spec (b := b) n 0 (q.2.2.2.2.1 j, q.2) (by omega) (fun t ht => (k4 t ht).range) k6
      refine ⟨P + fqcnt (fun t => decide (q.2.2.2.2.2.1 t = b)) n, Y, ?_, by rw [a7]; exact h2, ?_, h4⟩
      · rw [a2, mqcnt_n]
        show q.2.2.1 + _ = _
        rw [h1, nI_add]
      · have hs : SB n (fqspread b n 0 (q.2.2.2.2.1 j, q.2)).2.2.2.2.2.1 + fqcnt (fun t => decide (q.2.2.2.2.2.1 t = b)) n ≤ SB n q.2.2.2.2.2.1 := by
          refine fqsum_cnt fun i hi => ?_
          show bN ((fqspread b n 0 (q.2.2.2.2.1 j, q.2)).2.2.2.2.2.1 i) + (if decide (q.2.2.2.2.2.1 i = b) = true then 1 else 0) ≤ bN (q.2.2.2.2.2.1 i)
          rw [a1]
          show bN (if 0 ≤ i ∧ i < 0 + n ∧ q.2.2.2.2.2.1 i = b then nI (fqk (q.2.2.2.2.1 i) (q.2.2.2.2.1 j)) else q.2.2.2.2.2.1 i) + (if decide (q.2.2.2.2.2.1 i = b) = true then 1 else 0) ≤ bN (q.2.2.2.2.2.1 i)
          by_cases e1 : q.2.2.2.2.2.1 i = b
          · rw [if_pos ⟨Nat.zero_le _, by omega, e1⟩, if_pos (decide_eq_true e1), bN_k]
            have hbn : b ≠ -1 := fun q9 => hBj (hBb.trans q9)
            have hti : m.2.2.2 i ≠ -1 := fun q9 => hbn (e1.symm.trans ((k4 i hi).away.mpr q9))
            have htj : m.2.2.2 j ≠ -1 := fun q9 => hBj ((k4 j hj).away.mpr q9)
            obtain ⟨c1, c2, c3⟩ := (k4 i hi).there hti
            obtain ⟨d1, d2, d3⟩ := (k4 j hj).there htj
            have hle := hmin i hi ⟨by rw [e1]; exact hbn, e1⟩
            rw [c1, d1] at hle
            rw [c1, d1, c3, bN_k]
            have ebi : fqk (m.2.2.2 i) m.1 = fqk (m.2.2.2 j) m.1 := (fqk_eq (fqk_lt _ _)).mp (by rw [← c3, ← d3, e1, hBb])
            have hj0 := fq_ge0 d2 k2
            have hi0 := fq_ge0 c2 k2
            have hpos : 0 < fqk (m.2.2.2 j) m.1 := by
              rcases Nat.eq_zero_or_pos (fqk (m.2.2.2 j) m.1) with q9 | q9
              · exfalso
                apply hb0
                rw [← hBb, d3, q9]
                decide
              · exact q9
            have := fqbx_fall (k := fqn (m.2.2.2 i)) (f := fqn m.1) (g := fqn (m.2.2.2 j)) (b := fqk (m.2.2.2 j) m.1) ((fqn_le k2 hj0).mp d2) ((fqn_le hj0 hi0).mp hle) rfl ebi hpos
            show fqk (m.2.2.2 i) (m.2.2.2 j) + 1 ≤ fqk (m.2.2.2 i) m.1
            unfold fqk at ebi ⊢
            unfold fqk at this
            omega
          · rw [if_neg (fun q9 => e1 q9.2.2), if_neg (by simp [e1])]
            omega
        omega
theorem PB_empty {n : Nat} {q : fqQ} {Y0 : Nat} (h : PB n q Y0) : PB n (fqempty n q) Y0 := by
  obtain ⟨P, Y, h1, h2, h3, h4⟩ := h
  refine ⟨P, Y, h1, h2, ?_, h4⟩
  have h5 : SB n (fqempty n q).2.2.2.2.2.1 ≤ SB n q.2.2.2.2.2.1 := by
    refine fqsum_le fun i hi => ?_
    show bN (if i < n then -1 else q.2.2.2.2.2.1 i) ≤ _
    rw [if_pos hi]
    exact Nat.zero_le _
  omega
theorem PB_try {n : Nat} {r : fqR} {Y0 t : Nat} {e w : Int32} (h : PB n r.1 Y0) : PB n (fqtry n r t e w).1 (Y0 + 1) := by
  unfold fqtry
  split
  · split
    · exact h.up (by omega)
    · split
      · exact PB_push h _ _
      · split
        · exact PB_lower h _ _
        · exact h.up (by omega)
  · exact h.up (by omega)
theorem PB_tries {n t : Nat} : ∀ (l : List (Int32 × Int32)) (r : fqR) (Y0 : Nat), PB n r.1 Y0 → PB n (fqtries n t l r).1 (Y0 + l.length) := by
  intro l
  induction l with
  | nil => exact fun r Y0 h => h
  | cons a l ih =>
    intro r Y0 h
    have h1 := ih (fqtry n r t a.1 a.2) (Y0 + 1) (PB_try h)
    rw [List.length_cons, show Y0 + (l.length + 1) = Y0 + 1 + l.length by omega]
    exact h1
theorem PB_next {n : Nat} (hn : n ≤ 40) {as : Nat → List (Int32 × Int32)} (hlen : ∀ i, i < n → (as i).length ≤ 300) {r : fqR} {m : mqQ} {Y0 : Nat} (hQ : QR n r.1 m) (h : PB n r.1 Y0) : PB n (fqnext n as r).1 (Y0 + 300) := by
  unfold fqnext
  cases e : fqat n (fqpop n r.1).1 with
  | none => exact (PB_pop hn hQ h).up (by omega)
  | some j =>
    have h1 := PB_tries (t := j) (as j) ((fqpop n r.1).2, upd r.2.1 j (fqpop n r.1).2.1, r.2.2) Y0 (PB_pop hn hQ h)
    exact h1.up (by have := hlen j (fqat_lt e).1; omega)
theorem PB_rounds {n : Nat} (hn : n ≤ 40) {F T Ln : Nat → Int32} {ac : Nat} (hnet : mqnet n ac F T) {as : Nat → List (Int32 × Int32)} (has : ∀ i, i < n → as i = fqlist F T Ln i ac) (hlen : ∀ i, i < n → (as i).length ≤ 300) : ∀ (d Y0 : Nat) (r : fqR) (s : mqR), RN n r s → PB n r.1 Y0 → PB n (fqrounds n as d r).1 (Y0 + 300 * d) := by
  intro d
  induction d with
  | zero => exact fun Y0 r s _ h => h
  | succ d ih =>
    intro Y0 r s hR h
    rw [fqrounds_s, QR_size hR.1]
    by_cases h0 : 0 < mqcnt (mqhas s.1.2.2.2) n 0 0
    · rw [if_pos h0]
      have h1 := ih (Y0 + 300) _ _ (RN_next hn hnet has hR h0) (PB_next hn hlen hR.1 h)
      exact h1.up (by omega)
    · rw [if_neg h0]
      exact h.up (by omega)
theorem fqlist_len (F T Ln : Nat → Int32) (i : Nat) : ∀ d, (fqlist F T Ln i d).length ≤ d := by
  intro d
  induction d with
  | zero => exact Nat.le_refl _
  | succ d ih =>
    rw [fqlist_s]
    split
    · rw [List.length_cons]; omega
    · omega
theorem PB_run {n : Nat} (hn : n ≤ 40) {F T Ln : Nat → Int32} {ac : Nat} (hac : ac ≤ 300) (hnet : mqnet n ac F T) {as : Nat → List (Int32 × Int32)} (has : ∀ i, i < n → as i = fqlist F T Ln i ac) {r : fqR} {m : mqQ} {Y0 : Nat} (hQ : QR n r.1 m) (h : PB n r.1 Y0) (k : Int32) : PB n (fqrun n as r k).2.1 (Y0 + 12001) := by
  unfold fqrun
  cases e : fqat n k with
  | none => exact h.up (by omega)
  | some j =>
    have hst : RN n ((fqpush n (fqempty n r.1) (nI j) 0).2, fqfill n (-1) r.2.1, fqfill n (-1) r.2.2) ((mqpush n (mqclear m) (nI j) 0).2, (fun _ => 0), fqfill 40 (-1) (fun _ => 0), fqfill 40 0 (fun _ => 0)) := by
      refine ⟨(QR_push hn (QR_empty hn hQ.2.2.1) _ _).2, mqstart_T hn (mqclear_S hn _), fun i hi => ?_, fun i hi h0 => ?_, fun i hi => ?_⟩
      · show (if i < n then (-1 : Int32) else r.2.1 i) = -1 ↔ (if i < 40 then (0 : Int32) else 0) = 0
        rw [if_pos hi, if_pos (by omega)]
        exact ⟨fun _ => rfl, fun _ => rfl⟩
      · exact absurd (show (if i < 40 then (0 : Int32) else 0) = 0 from if_pos (by omega)) h0
      · show (if i < n then (-1 : Int32) else r.2.2 i) = (if i < 40 then (-1 : Int32) else 0)
        rw [if_pos hi, if_pos (by omega)]
    have h1 := PB_rounds hn hnet has (fun i hi => by rw [has i hi]; exact Nat.le_trans (fqlist_len F T Ln i ac) hac) n (Y0 + 1) _ _ hst (PB_push (PB_empty h) _ _)
    have h2 := h1.up (b := Y0 + 12001) (by omega)
    dsimp only
    split
    · exact h2
    · exact h2
theorem sound_true {n : Nat} (hn : n ≤ 40) {q : fqQ} {m : mqQ} {Y0 : Nat} (hQ : QR n q m) (h : PB n q Y0) (hY : Y0 ≤ 60000000) : fqsound n q = true := by
  obtain ⟨P, Y, h1, h2, h3, h4⟩ := h
  unfold fqsound
  rw [Bool.and_eq_true]
  constructor
  · rw [fqall_iff]
    intro j _ hj
    unfold fqokB
    refine decide_eq_true fun h5 => ?_
    have hi := hQ.2.2.2.1 j (by omega)
    have h6 : m.2.2.2 j ≠ -1 := fun q9 => h5 (hi.away.mpr q9)
    obtain ⟨c1, c2, c3⟩ := hi.there h6
    rw [c1, hQ.1]
    exact ⟨c2, c3⟩
  · refine decide_eq_true ?_
    rw [h1, h2, nI_l (by omega), nI_l (by omega)]
    show lN P ≤ lN 32 * lN Y
    rw [lN_mul, pk_lLE (by omega) (by omega)]
    omega
