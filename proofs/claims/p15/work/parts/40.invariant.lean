/-! WHAT HOLDS BETWEEN THE CALLS: both queues are one, the arcs too, and PLACED is paid for (i: the place in the script) -/
def lawI (i0 : Nat) (n ar : Nat) (_gl : Int32) (ac : Nat) (r : fqR) (L : Nat → Option Nat) (pool : va_W) (as : Nat → List (Int32 × Int32)) (mx : mqX) (F T Ln : Nat → Int32) : Prop := lawB n ar ac r L pool as mx F T Ln ∧ QR n r.1 mx.1.1 ∧ (∀ i, i < n → as i = fqlist F T Ln i ac) ∧ PB n r.1 (12001 * i0) ∧ ac ≤ 300
section LI
variable {i0 n ar : Nat} {gl : Int32} {ac : Nat} {q q1 : fqQ} {d d1 : (Nat → Int32) × (Nat → Int32)} {L : Nat → Option Nat} {pool : va_W} {as : Nat → List (Int32 × Int32)} {mq mq1 : mqQ} {w : (Nat → Int32) × (Nat → Int32) × (Nat → Int32)} {nh : (Nat → Int32) × Int32} {mx1 : mqX} {F T Ln : Nat → Int32} {x key r1 r2 : Int32}
theorem li_ch (h : lawI i0 n ar gl ac (q, d) L pool as ((mq, w), nh) F T Ln) : ∀ i, i < n → fqch pool (L i) (as i) ∧ fqends n (as i) := h.1.1
theorem li_s (h : lawI i0 n ar gl ac (q, d) L pool as ((mq, w), nh) F T Ln) : fqS n q := h.1.2.1
theorem li_ms (h : lawI i0 n ar gl ac (q, d) L pool as ((mq, w), nh) F T Ln) : mqS n mq := h.1.2.2.1
theorem li_net (h : lawI i0 n ar gl ac (q, d) L pool as ((mq, w), nh) F T Ln) : mqnet n ac F T := h.1.2.2.2.1
theorem li_ac (h : lawI i0 n ar gl ac (q, d) L pool as ((mq, w), nh) F T Ln) : ac ≤ ar := h.1.2.2.2.2
theorem li_push (hn : n ≤ 40) (h : lawI i0 n ar gl ac (q, d) L pool as ((mq, w), nh) F T Ln) (h1 : (r1, q1) = fqpush n q x key) (h2 : (r2, mq1) = mqpush n mq x key) : lawI (i0 + 4) n ar gl ac (q1, d) L pool as ((mq1, w), nh) F T Ln := by
  have e1 : q1 = (fqpush n q x key).2 := by rw [← h1]
  have e2 : mq1 = (mqpush n mq x key).2 := by rw [← h2]
  subst e1; subst e2
  exact ⟨⟨h.1.1, fqpush_S h.1.2.1, mqpush_S h.1.2.2.1, h.1.2.2.2⟩, (QR_push hn h.2.1 x key).2, h.2.2.1, (PB_push h.2.2.2.1 x key).up (by omega), h.2.2.2.2⟩
theorem li_lower (hn : n ≤ 40) (h : lawI i0 n ar gl ac (q, d) L pool as ((mq, w), nh) F T Ln) (h1 : (r1, q1) = fqlower n q x key) (h2 : (r2, mq1) = mqlower n mq x key) : lawI (i0 + 4) n ar gl ac (q1, d) L pool as ((mq1, w), nh) F T Ln := by
  have e1 : q1 = (fqlower n q x key).2 := by rw [← h1]
  have e2 : mq1 = (mqlower n mq x key).2 := by rw [← h2]
  subst e1; subst e2
  exact ⟨⟨h.1.1, fqlower_S h.1.2.1, mqlower_S h.1.2.2.1, h.1.2.2.2⟩, (QR_lower hn h.2.1 x key).2, h.2.2.1, (PB_lower h.2.2.2.1 x key).up (by omega), h.2.2.2.2⟩
theorem li_pop (hn : n ≤ 40) (h : lawI i0 n ar gl ac (q, d) L pool as ((mq, w), nh) F T Ln) (h1 : (r1, q1) = fqpop n q) (h2 : (r2, mq1) = mqpop n mq) : lawI (i0 + 4) n ar gl ac (q1, d) L pool as ((mq1, w), nh) F T Ln := by
  have e1 : q1 = (fqpop n q).2 := by rw [← h1]
  have e2 : mq1 = (mqpop n mq).2 := by rw [← h2]
  subst e1; subst e2
  exact ⟨⟨h.1.1, fqpop_S h.1.2.1, mqpop_S h.1.2.2.1, h.1.2.2.2⟩, (QR_pop hn h.2.1).2, h.2.2.1, (PB_pop hn h.2.1 h.2.2.2.1).up (by omega), h.2.2.2.2⟩
theorem li_run (hn : n ≤ 40) (h : lawI i0 n ar gl ac (q, d) L pool as ((mq, w), nh) F T Ln) (h1 : (r1, (q1, d1)) = fqrun n as (q, d) x) (h2 : (r2, mx1) = mqrun n F T Ln ac ((mq, w), nh) x) : lawI (i0 + 4) n ar gl ac (q1, d1) L pool as mx1 F T Ln := by
  have e1 : (q1, d1) = (fqrun n as (q, d) x).2 := by rw [← h1]
  have e2 : mx1 = (mqrun n F T Ln ac ((mq, w), nh) x).2 := by rw [← h2]
  rw [e1, e2]
  exact ⟨⟨h.1.1, fqrun_S h.1.2.1, mqrun_S hn h.1.2.2.2.1 h.1.2.2.1, h.1.2.2.2⟩, QR_run hn h.1.2.2.2.1 h.2.2.1 h.2.1 x, h.2.2.1, (PB_run hn h.2.2.2.2 h.1.2.2.2.1 h.2.2.1 (r := (q, d)) h.2.1 h.2.2.2.1 x).up (by omega), h.2.2.2.2⟩
theorem li_arc {Ds Bf : Nat → Int32} {xu xv w0 : Int32} {p : Nat} {Ne : Nat → Int32} {hw : Int32} (hn : n ≤ 40) (har : ar ≤ 300) (h : lawI i0 n ar gl ac (q, Ds, Bf) L pool as ((mq, w), Ne, hw) F T Ln) (h0 : fqarcR n (nI ar) gl (nI ac) xu xv w0 = 0) : lawI (i0 + 4) n ar gl (ac + 1) (q, fqfill n (-1) Ds, fqfill n (-1) Bf) (va_up L (fqn xu) (some p)) (pool ++ [(p, .inr (1, [.int xv, .int w0, va_rf (L (fqn xu))]))]) (fqas as (fqn xu) xv w0) ((mq, w), Ne, 0) (upd F ac xu) (upd T ac xv) (upd Ln ac w0) := by
  obtain ⟨⟨j, hj, rfl⟩, ⟨k, hk, rfl⟩, hlt, -⟩ := fqarcR_0 har h.1.2.2.2.2 h0
  rw [fqn_nI (by omega)]
  exact ⟨lawB_arc h.1 hn hj hk hlt rfl, h.2.1, fqlist_arc hn hj h.2.2.1, h.2.2.2.1.up (by omega), by omega⟩
theorem li_start (hn : n ≤ 40) (_h1 : 1 ≤ n) : lawI 3 n ar gl 0 ((0, 0, 0, 0, (fun _ => 0), fqfill n (-1) (fun _ => 0), (fun _ => 0)), fqfill n (-1) (fun _ => 0), fqfill n (-1) (fun _ => 0)) (fun _ => none) [] (fun _ => []) (((0, 0, 0, fqfill 40 (-1) (fun _ => 0)), (fun _ => 0), (fun _ => 0), (fun _ => 0)), (fun _ => 0), 0) (fun _ => 0) (fun _ => 0) (fun _ => 0) := by
  refine ⟨⟨fun i _ => ⟨rfl, fun a ha => absurd ha List.not_mem_nil⟩, ⟨(by decide : ¬ (0 : Int32) < 0), fun j hj => ⟨Or.inl (if_pos hj), fun h => absurd (if_pos hj) h⟩⟩, ⟨(by decide : ¬ (0 : Int32) < 0), fun j hj h => absurd (if_pos (by omega)) h⟩, fun k hk => absurd hk (Nat.not_lt_zero k), Nat.zero_le _⟩, ⟨rfl, (by decide : ¬ (0 : Int32) < 0), rfl, fun i hi => Or.inl ⟨if_pos (by omega), if_pos hi⟩, ?_, fun b hb => ?_⟩, fun i _ => rfl, ⟨0, 0, rfl, rfl, ?_, by omega⟩, by omega⟩
  · show (0 : Int32) = nI _
    rw [fqcnt_0 (p := mqhas (fqfill 40 (-1) (fun _ => 0))) (fun i hi => decide_eq_false (fun q9 => q9 (if_pos (show i < 40 by omega))))]
    rfl
  · show (0 : Int32) = _
    rw [fqcnt_0 (fun i hi => decide_eq_false (fun q9 => fq_nm1 (by omega) (q9.symm.trans (if_pos hi))))]
    rfl
  · show 0 + SB n (fqfill n (-1) (fun _ => 0)) ≤ 0
    have h5 : SB n (fqfill n (-1) (fun _ => 0)) ≤ fqsum (fun _ => 0) n := fqsum_le fun i hi => by
      show bN (if i < n then -1 else 0) ≤ 0
      rw [if_pos hi]
      exact Nat.le_refl _
    have h6 : ∀ k, fqsum (fun _ => 0) k = 0 := fun k => by
      induction k with
      | zero => rfl
      | succ k ih => show fqsum (fun _ => 0) k + 0 = 0; rw [ih]
    rw [h6] at h5
    omega
theorem li_step (h : lawI i0 n ar gl ac (q, d) L pool as ((mq, w), nh) F T Ln) : lawI (i0 + 4) n ar gl ac (q, d) L pool as ((mq, w), nh) F T Ln := ⟨h.1, h.2.1, h.2.2.1, h.2.2.2.1.up (by omega), h.2.2.2.2⟩
theorem li_eq_sound (hn : n ≤ 40) (hi : i0 ≤ 3000) (h : lawI i0 n ar gl ac (q, d) L pool as ((mq, w), nh) F T Ln) (h1 : (r1 = 1 ∧ fqsound n q = true) ∨ (r1 = 0 ∧ fqsound n q = false)) (h2 : r2 = 1) : r1 = r2 := by
  have hs := sound_true hn h.2.1 h.2.2.2.1 (by omega)
  rcases h1 with ⟨e, -⟩ | ⟨-, e⟩
  · rw [e, h2]
  · rw [hs] at e; cases e
end LI
