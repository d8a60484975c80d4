/-! WHAT HOLDS BETWEEN THE CALLS: both queues are one, the arcs too -/
def lawI (n ar : Nat) (_gl : Int32) (ac : Nat) (r : fqR) (L : Nat → Option Nat) (pool : va_W) (as : Nat → List (Int32 × Int32)) (mx : mqX) (F T Ln : Nat → Int32) : Prop := lawB n ar ac r L pool as mx F T Ln ∧ QR n r.1 mx.1.1 ∧ ∀ i, i < n → as i = fqlist F T Ln i ac
section LI
variable {n ar : Nat} {gl : Int32} {ac : Nat} {q q1 : fqQ} {d d1 : (Nat → Int32) × (Nat → Int32)} {L : Nat → Option Nat} {pool : va_W} {as : Nat → List (Int32 × Int32)} {mq mq1 : mqQ} {w : (Nat → Int32) × (Nat → Int32) × (Nat → Int32)} {nh : (Nat → Int32) × Int32} {mx1 : mqX} {F T Ln : Nat → Int32} {x key r1 r2 : Int32}
theorem li_ch (h : lawI n ar gl ac (q, d) L pool as ((mq, w), nh) F T Ln) : ∀ i, i < n → fqch pool (L i) (as i) ∧ fqends n (as i) := h.1.1
theorem li_s (h : lawI n ar gl ac (q, d) L pool as ((mq, w), nh) F T Ln) : fqS n q := h.1.2.1
theorem li_ms (h : lawI n ar gl ac (q, d) L pool as ((mq, w), nh) F T Ln) : mqS n mq := h.1.2.2.1
theorem li_net (h : lawI n ar gl ac (q, d) L pool as ((mq, w), nh) F T Ln) : mqnet n ac F T := h.1.2.2.2.1
theorem li_ac (h : lawI n ar gl ac (q, d) L pool as ((mq, w), nh) F T Ln) : ac ≤ ar := h.1.2.2.2.2
theorem li_push (hn : n ≤ 40) (h : lawI n ar gl ac (q, d) L pool as ((mq, w), nh) F T Ln) (h1 : (r1, q1) = fqpush n q x key) (h2 : (r2, mq1) = mqpush n mq x key) : lawI n ar gl ac (q1, d) L pool as ((mq1, w), nh) F T Ln := by
  have e1 : q1 = (fqpush n q x key).2 := by rw [← h1]
  have e2 : mq1 = (mqpush n mq x key).2 := by rw [← h2]
  subst e1; subst e2
  exact ⟨⟨h.1.1, fqpush_S h.1.2.1, mqpush_S h.1.2.2.1, h.1.2.2.2⟩, (QR_push hn h.2.1 x key).2, h.2.2⟩
theorem li_eq_push (hn : n ≤ 40) (h : lawI n ar gl ac (q, d) L pool as ((mq, w), nh) F T Ln) (h1 : (r1, q1) = fqpush n q x key) (h2 : (r2, mq1) = mqpush n mq x key) : r1 = r2 := by
  have e := (QR_push hn h.2.1 x key).1
  rw [← h1, ← h2] at e
  exact e
theorem li_lower (hn : n ≤ 40) (h : lawI n ar gl ac (q, d) L pool as ((mq, w), nh) F T Ln) (h1 : (r1, q1) = fqlower n q x key) (h2 : (r2, mq1) = mqlower n mq x key) : lawI n ar gl ac (q1, d) L pool as ((mq1, w), nh) F T Ln := by
  have e1 : q1 = (fqlower n q x key).2 := by rw [← h1]
  have e2 : mq1 = (mqlower n mq x key).2 := by rw [← h2]
  subst e1; subst e2
  exact ⟨⟨h.1.1, fqlower_S h.1.2.1, mqlower_S h.1.2.2.1, h.1.2.2.2⟩, (QR_lower hn h.2.1 x key).2, h.2.2⟩
theorem li_eq_lower (hn : n ≤ 40) (h : lawI n ar gl ac (q, d) L pool as ((mq, w), nh) F T Ln) (h1 : (r1, q1) = fqlower n q x key) (h2 : (r2, mq1) = mqlower n mq x key) : r1 = r2 := by
  have e := (QR_lower hn h.2.1 x key).1
  rw [← h1, ← h2] at e
  exact e
theorem li_pop (hn : n ≤ 40) (h : lawI n ar gl ac (q, d) L pool as ((mq, w), nh) F T Ln) (h1 : (r1, q1) = fqpop n q) (h2 : (r2, mq1) = mqpop n mq) : lawI n ar gl ac (q1, d) L pool as ((mq1, w), nh) F T Ln := by
  have e1 : q1 = (fqpop n q).2 := by rw [← h1]
  have e2 : mq1 = (mqpop n mq).2 := by rw [← h2]
  subst e1; subst e2
  exact ⟨⟨h.1.1, fqpop_S h.1.2.1, mqpop_S h.1.2.2.1, h.1.2.2.2⟩, (QR_pop hn h.2.1).2, h.2.2⟩
theorem li_eq_pop (hn : n ≤ 40) (h : lawI n ar gl ac (q, d) L pool as ((mq, w), nh) F T Ln) (h1 : (r1, q1) = fqpop n q) (h2 : (r2, mq1) = mqpop n mq) : r1 = r2 := by
  have e := (QR_pop hn h.2.1).1
  rw [← h1, ← h2] at e
  exact e
theorem li_run (hn : n ≤ 40) (h : lawI n ar gl ac (q, d) L pool as ((mq, w), nh) F T Ln) (h1 : (r1, (q1, d1)) = fqrun n as (q, d) x) (h2 : (r2, mx1) = mqrun n F T Ln ac ((mq, w), nh) x) : lawI n ar gl ac (q1, d1) L pool as mx1 F T Ln := by
  have e1 : (q1, d1) = (fqrun n as (q, d) x).2 := by rw [← h1]
  have e2 : mx1 = (mqrun n F T Ln ac ((mq, w), nh) x).2 := by rw [← h2]
  rw [e1, e2]
  exact ⟨⟨h.1.1, fqrun_S h.1.2.1, mqrun_S hn h.1.2.2.2.1 h.1.2.2.1, h.1.2.2.2⟩, QR_run hn h.1.2.2.2.1 h.2.2 h.2.1 x, h.2.2⟩
theorem li_arc {Ds Bf : Nat → Int32} {xu xv w0 : Int32} {p : Nat} {Ne : Nat → Int32} {hw : Int32} (hn : n ≤ 40) (har : ar ≤ 300) (h : lawI n ar gl ac (q, Ds, Bf) L pool as ((mq, w), Ne, hw) F T Ln) (h0 : fqarcR n (nI ar) gl (nI ac) xu xv w0 = 0) : lawI n ar gl (ac + 1) (q, fqfill n (-1) Ds, fqfill n (-1) Bf) (va_up L (fqn xu) (some p)) (pool ++ [(p, .inr (1, [.int xv, .int w0, va_rf (L (fqn xu))]))]) (fqas as (fqn xu) xv w0) ((mq, w), Ne, 0) (upd F ac xu) (upd T ac xv) (upd Ln ac w0) := by
  obtain ⟨⟨j, hj, rfl⟩, ⟨k, hk, rfl⟩, hlt, -⟩ := fqarcR_0 har h.1.2.2.2.2 h0
  rw [fqn_nI (by omega)]
  exact ⟨lawB_arc h.1 hn hj hk hlt rfl, h.2.1, fqlist_arc hn hj h.2.2⟩
theorem li_start (hn : n ≤ 40) (_h1 : 1 ≤ n) : lawI n ar gl 0 ((0, 0, 0, 0, (fun _ => 0), fqfill n (-1) (fun _ => 0), (fun _ => 0)), fqfill n (-1) (fun _ => 0), fqfill n (-1) (fun _ => 0)) (fun _ => none) [] (fun _ => []) (((0, 0, 0, fqfill 40 (-1) (fun _ => 0)), (fun _ => 0), (fun _ => 0), (fun _ => 0)), (fun _ => 0), 0) (fun _ => 0) (fun _ => 0) (fun _ => 0) := by
  refine ⟨⟨fun i _ => ⟨rfl, fun a ha => absurd ha List.not_mem_nil⟩, ⟨(by decide : ¬ (0 : Int32) < 0), fun j hj => ⟨Or.inl (if_pos hj), fun h => absurd (if_pos hj) h⟩⟩, ⟨(by decide : ¬ (0 : Int32) < 0), fun j hj h => absurd (if_pos (by omega)) h⟩, fun k hk => absurd hk (Nat.not_lt_zero k), Nat.zero_le _⟩, ⟨rfl, (by decide : ¬ (0 : Int32) < 0), rfl, fun i hi => Or.inl ⟨if_pos (by omega), if_pos hi⟩, ?_, fun b hb => ?_⟩, fun i _ => rfl⟩
  · show (0 : Int32) = nI _
    rw [fqcnt_0 (p := mqhas (fqfill 40 (-1) (fun _ => 0))) (fun i hi => decide_eq_false (fun q9 => q9 (if_pos (show i < 40 by omega))))]
    rfl
  · show (0 : Int32) = _
    rw [fqcnt_0 (fun i hi => decide_eq_false (fun q9 => fq_nm1 (by omega) (q9.symm.trans (if_pos hi))))]
    rfl
end LI
section LE
variable {n ar : Nat} {gl : Int32} {ac : Nat} {fl pr pg ky : Int32} {K B M : Nat → Int32} {d : (Nat → Int32) × (Nat → Int32)} {L : Nat → Option Nat} {pool : va_W} {as : Nat → List (Int32 × Int32)} {lo pm ca : Int32} {mK : Nat → Int32} {w : (Nat → Int32) × (Nat → Int32) × (Nat → Int32)} {nh : (Nat → Int32) × Int32} {F T Ln : Nat → Int32} {x r1 r2 : Int32}
theorem li_eq_floor (_hn : n ≤ 40) (h : lawI n ar gl ac ((fl, pr, pg, ky, K, B, M), d) L pool as (((lo, pm, ca, mK), w), nh) F T Ln) (h1 : r1 = fl) (h2 : r2 = lo) : r1 = r2 := by
  rw [h1, h2]; exact h.2.1.1
theorem li_eq_size (_hn : n ≤ 40) (h : lawI n ar gl ac ((fl, pr, pg, ky, K, B, M), d) L pool as (((lo, pm, ca, mK), w), nh) F T Ln) (h1 : r1 = pr) (h2 : r2 = mqcnt (mqhas mK) n 0 0) : r1 = r2 := by
  rw [h1, h2]; exact QR_size h.2.1
theorem li_eq_placed (_hn : n ≤ 40) (h : lawI n ar gl ac ((fl, pr, pg, ky, K, B, M), d) L pool as (((lo, pm, ca, mK), w), nh) F T Ln) (h1 : r1 = pg) (h2 : r2 = pm) : r1 = r2 := by
  rw [h1, h2]; exact h.2.1.2.2.1
theorem li_eq_key (_hn : n ≤ 40) (h : lawI n ar gl ac ((fl, pr, pg, ky, K, B, M), d) L pool as (((lo, pm, ca, mK), w), nh) F T Ln) (h1 : r1 = fqget n K (fun j => decide (B j ≠ -1)) x) (h2 : r2 = fqget n mK (mqhas mK) x) : r1 = r2 := by
  rw [h1, h2]
  unfold fqget
  cases e : fqat n x with
  | none => rfl
  | some j =>
    dsimp only
    have hi := h.2.1.2.2.2.1 j (fqat_lt e).1
    dsimp only at hi
    unfold mqhas
    by_cases e1 : mK j = -1
    · rw [if_neg (show ¬ decide (B j ≠ -1) = true from fun q9 => (of_decide_eq_true q9 : B j ≠ -1) (hi.away.mpr e1)), if_neg (show ¬ decide (mK j ≠ -1) = true from fun q9 => (of_decide_eq_true q9 : mK j ≠ -1) e1)]
    · rw [if_pos (decide_eq_true (show B j ≠ -1 from fun q9 => e1 (hi.away.mp q9))), if_pos (decide_eq_true e1), (hi.there e1).1]
theorem li_eq_bucket (_hn : n ≤ 40) (h : lawI n ar gl ac ((fl, pr, pg, ky, K, B, M), d) L pool as (((lo, pm, ca, mK), w), nh) F T Ln) (h1 : r1 = fqget n B (fun j => decide (B j ≠ -1)) x) (h2 : r2 = fqget n (fun j => nI (fqk (mK j) lo)) (mqhas mK) x) : r1 = r2 := by
  rw [h1, h2]
  unfold fqget
  cases e : fqat n x with
  | none => rfl
  | some j =>
    dsimp only
    have hi := h.2.1.2.2.2.1 j (fqat_lt e).1
    dsimp only at hi
    unfold mqhas
    by_cases e1 : mK j = -1
    · rw [if_neg (show ¬ decide (B j ≠ -1) = true from fun q9 => (of_decide_eq_true q9 : B j ≠ -1) (hi.away.mpr e1)), if_neg (show ¬ decide (mK j ≠ -1) = true from fun q9 => (of_decide_eq_true q9 : mK j ≠ -1) e1)]
    · rw [if_pos (decide_eq_true (show B j ≠ -1 from fun q9 => e1 (hi.away.mp q9))), if_pos (decide_eq_true e1), (hi.there e1).2.2]
theorem li_eq_many (_hn : n ≤ 40) (h : lawI n ar gl ac ((fl, pr, pg, ky, K, B, M), d) L pool as (((lo, pm, ca, mK), w), nh) F T Ln) (h1 : r1 = fqmany M x) (h2 : r2 = mqmany n (lo, pm, ca, mK) x) : r1 = r2 := by
  rw [h1, h2]
  unfold fqmany mqmany fqat
  by_cases e1 : x < 0
  · rw [if_pos e1, if_pos e1]
  · rw [if_neg e1, if_neg e1]
    by_cases e2 : nI 32 ≤ x
    · rw [if_pos e2, if_neg (fun q9 => absurd (Int32.le_trans e2 q9) (by decide))]
    · obtain ⟨b, hb, rfl⟩ := fq_ix (n := 32) (by decide) e1 e2
      rw [if_neg e2, if_pos (show nI b ≤ 31 from (nI_le (by omega) (by decide) : nI b ≤ nI 31))]
      dsimp only
      rw [fqn_nI (by omega), mqcnt_n]
      have hM : M b = nI (fqcnt (fun i => decide (B i = nI b)) n) := h.2.1.2.2.2.2.2 b hb
      rw [hM]
      show _ = nI 0 + _
      rw [nI_add, Nat.zero_add]
      congr 1
      refine fqcnt_eq fun i hi => ?_
      have hq : QI lo (K i) (B i) (mK i) := h.2.1.2.2.2.1 i hi
      show decide (B i = nI b) = decide (mK i ≠ -1 ∧ nI (fqk (mK i) lo) = nI b)
      refine decide_eq_decide.mpr ⟨fun q9 => ?_, fun q9 => ?_⟩
      · have e3 : mK i ≠ -1 := fun e3 => fq_nm1 (by omega) (q9.symm.trans (hq.away.mpr e3))
        exact ⟨e3, (hq.there e3).2.2.symm.trans q9⟩
      · exact (hq.there q9.1).2.2.trans q9.2
end LE
