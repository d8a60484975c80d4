/-! p11: only arc's answers are compared: what the walks need is enough -/
def lawI (n ar : Nat) (gl : Int32) (ac : Nat) (r : fqR) (L : Nat → Option Nat) (pool : va_W) (as : Nat → List (Int32 × Int32)) (mx : mqX) (F T Ln : Nat → Int32) : Prop := lawB n ar ac r L pool as mx F T Ln
section LI
variable {n ar : Nat} {gl : Int32} {ac : Nat} {q q1 : fqQ} {d d1 : (Nat → Int32) × (Nat → Int32)} {L : Nat → Option Nat} {pool : va_W} {as : Nat → List (Int32 × Int32)} {mq mq1 : mqQ} {w : (Nat → Int32) × (Nat → Int32) × (Nat → Int32)} {nh : (Nat → Int32) × Int32} {mx1 : mqX} {F T Ln : Nat → Int32} {x key r1 r2 : Int32}
theorem li_ch (h : lawI n ar gl ac (q, d) L pool as ((mq, w), nh) F T Ln) : ∀ i, i < n → fqch pool (L i) (as i) ∧ fqends n (as i) := h.1
theorem li_s (h : lawI n ar gl ac (q, d) L pool as ((mq, w), nh) F T Ln) : fqS n q := h.2.1
theorem li_ms (h : lawI n ar gl ac (q, d) L pool as ((mq, w), nh) F T Ln) : mqS n mq := h.2.2.1
theorem li_net (h : lawI n ar gl ac (q, d) L pool as ((mq, w), nh) F T Ln) : mqnet n ac F T := h.2.2.2.1
theorem li_ac (h : lawI n ar gl ac (q, d) L pool as ((mq, w), nh) F T Ln) : ac ≤ ar := h.2.2.2.2
theorem li_push (_hn : n ≤ 40) (h : lawI n ar gl ac (q, d) L pool as ((mq, w), nh) F T Ln) (h1 : (r1, q1) = fqpush n q x key) (h2 : (r2, mq1) = mqpush n mq x key) : lawI n ar gl ac (q1, d) L pool as ((mq1, w), nh) F T Ln := by
  have e1 : q1 = (fqpush n q x key).2 := by rw [← h1]
  have e2 : mq1 = (mqpush n mq x key).2 := by rw [← h2]
  subst e1; subst e2
  exact ⟨h.1, fqpush_S h.2.1, mqpush_S h.2.2.1, h.2.2.2⟩
theorem li_lower (_hn : n ≤ 40) (h : lawI n ar gl ac (q, d) L pool as ((mq, w), nh) F T Ln) (h1 : (r1, q1) = fqlower n q x key) (h2 : (r2, mq1) = mqlower n mq x key) : lawI n ar gl ac (q1, d) L pool as ((mq1, w), nh) F T Ln := by
  have e1 : q1 = (fqlower n q x key).2 := by rw [← h1]
  have e2 : mq1 = (mqlower n mq x key).2 := by rw [← h2]
  subst e1; subst e2
  exact ⟨h.1, fqlower_S h.2.1, mqlower_S h.2.2.1, h.2.2.2⟩
theorem li_pop (_hn : n ≤ 40) (h : lawI n ar gl ac (q, d) L pool as ((mq, w), nh) F T Ln) (h1 : (r1, q1) = fqpop n q) (h2 : (r2, mq1) = mqpop n mq) : lawI n ar gl ac (q1, d) L pool as ((mq1, w), nh) F T Ln := by
  have e1 : q1 = (fqpop n q).2 := by rw [← h1]
  have e2 : mq1 = (mqpop n mq).2 := by rw [← h2]
  subst e1; subst e2
  exact ⟨h.1, fqpop_S h.2.1, mqpop_S h.2.2.1, h.2.2.2⟩
theorem li_run (hn : n ≤ 40) (h : lawI n ar gl ac (q, d) L pool as ((mq, w), nh) F T Ln) (h1 : (r1, (q1, d1)) = fqrun n as (q, d) x) (h2 : (r2, mx1) = mqrun n F T Ln ac ((mq, w), nh) x) : lawI n ar gl ac (q1, d1) L pool as mx1 F T Ln := by
  have e1 : (q1, d1) = (fqrun n as (q, d) x).2 := by rw [← h1]
  have e2 : mx1 = (mqrun n F T Ln ac ((mq, w), nh) x).2 := by rw [← h2]
  rw [e1, e2]
  exact ⟨h.1, fqrun_S h.2.1, mqrun_S hn h.2.2.2.1 h.2.2.1, h.2.2.2⟩
theorem li_arc {Ds Bf : Nat → Int32} {xu xv w0 : Int32} {p : Nat} {Ne : Nat → Int32} {hw : Int32} (hn : n ≤ 40) (har : ar ≤ 300) (h : lawI n ar gl ac (q, Ds, Bf) L pool as ((mq, w), Ne, hw) F T Ln) (h0 : fqarcR n (nI ar) gl (nI ac) xu xv w0 = 0) : lawI n ar gl (ac + 1) (q, fqfill n (-1) Ds, fqfill n (-1) Bf) (va_up L (fqn xu) (some p)) (pool ++ [(p, .inr (1, [.int xv, .int w0, va_rf (L (fqn xu))]))]) (fqas as (fqn xu) xv w0) ((mq, w), Ne, 0) (upd F ac xu) (upd T ac xv) (upd Ln ac w0) := by
  obtain ⟨⟨j, hj, rfl⟩, ⟨k, hk, rfl⟩, hlt, -⟩ := fqarcR_0 har h.2.2.2.2 h0
  rw [fqn_nI (by omega)]
  exact lawB_arc h hn hj hk hlt rfl
theorem li_start (hn : n ≤ 40) (_h1 : 1 ≤ n) : lawI n ar gl 0 ((0, 0, 0, 0, (fun _ => 0), fqfill n (-1) (fun _ => 0), (fun _ => 0)), fqfill n (-1) (fun _ => 0), fqfill n (-1) (fun _ => 0)) (fun _ => none) [] (fun _ => []) (((0, 0, 0, fqfill 40 (-1) (fun _ => 0)), (fun _ => 0), (fun _ => 0), (fun _ => 0)), (fun _ => 0), 0) (fun _ => 0) (fun _ => 0) (fun _ => 0) :=
  ⟨fun i _ => ⟨rfl, fun a ha => absurd ha List.not_mem_nil⟩, ⟨(by decide : ¬ (0 : Int32) < 0), fun j hj => ⟨Or.inl (if_pos hj), fun h => absurd (if_pos hj) h⟩⟩, ⟨(by decide : ¬ (0 : Int32) < 0), fun j hj h => absurd (if_pos (by omega)) h⟩, fun k hk => absurd hk (Nat.not_lt_zero k), Nat.zero_le _⟩
end LI
