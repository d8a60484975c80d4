/-! WHAT HOLDS BETWEEN THE CALLS: both queues are one, the arcs, the ways -/
def lawI (n ar : Nat) (_gl : Int32) (ac : Nat) (r : fqR) (L : Nat → Option Nat) (pool : va_W) (as : Nat → List (Int32 × Int32)) (mx : mqX) (F T Ln : Nat → Int32) : Prop := lawB n ar ac r L pool as mx F T Ln ∧ QR n r.1 mx.1.1 ∧ (∀ i, i < n → as i = fqlist F T Ln i ac) ∧ (∀ k, k < ac → ¬ Ln k < 0) ∧ DR n r.2 mx.1.2 mx.2.2
section LI
variable {n ar : Nat} {gl : Int32} {ac : Nat} {q q1 : fqQ} {d d1 : (Nat → Int32) × (Nat → Int32)} {L : Nat → Option Nat} {pool : va_W} {as : Nat → List (Int32 × Int32)} {mq mq1 : mqQ} {w : (Nat → Int32) × (Nat → Int32) × (Nat → Int32)} {nh : (Nat → Int32) × Int32} {mx1 : mqX} {F T Ln : Nat → Int32} {x key r1 r2 : Int32}
theorem li_ch (h : lawI n ar gl ac (q, d) L pool as ((mq, w), nh) F T Ln) : ∀ i, i < n → fqch pool (L i) (as i) ∧ fqends n (as i) := h.1.1
theorem li_s (h : lawI n ar gl ac (q, d) L pool as ((mq, w), nh) F T Ln) : fqS n q := h.1.2.1
theorem li_ms (h : lawI n ar gl ac (q, d) L pool as ((mq, w), nh) F T Ln) : mqS n mq := h.1.2.2.1
theorem li_net (h : lawI n ar gl ac (q, d) L pool as ((mq, w), nh) F T Ln) : mqnet n ac F T := h.1.2.2.2.1
theorem li_ac (h : lawI n ar gl ac (q, d) L pool as ((mq, w), nh) F T Ln) : ac ≤ ar := h.1.2.2.2.2
theorem li_push (hn : n ≤ 40) (h : lawI n ar gl ac (q, d) L pool as ((mq, w), nh) F T Ln) (h1 : (r1, q1) = fqpush n q x key) (h2 : (r2, mq1) = mqpush n mq x key) : lawI n ar gl ac (q1, d) L pool as ((mq1, w), nh) F T Ln := by
  have e1 : q1 = (fqpush n q x key).2 := by rw [← h1]
  have e2 : mq1 = (mqpush n mq x key).2 := by rw [← h2]
  subst e1; subst e2
  exact ⟨⟨h.1.1, fqpush_S h.1.2.1, mqpush_S h.1.2.2.1, h.1.2.2.2⟩, (QR_push hn h.2.1 x key).2, h.2.2⟩
theorem li_lower (hn : n ≤ 40) (h : lawI n ar gl ac (q, d) L pool as ((mq, w), nh) F T Ln) (h1 : (r1, q1) = fqlower n q x key) (h2 : (r2, mq1) = mqlower n mq x key) : lawI n ar gl ac (q1, d) L pool as ((mq1, w), nh) F T Ln := by
  have e1 : q1 = (fqlower n q x key).2 := by rw [← h1]
  have e2 : mq1 = (mqlower n mq x key).2 := by rw [← h2]
  subst e1; subst e2
  exact ⟨⟨h.1.1, fqlower_S h.1.2.1, mqlower_S h.1.2.2.1, h.1.2.2.2⟩, (QR_lower hn h.2.1 x key).2, h.2.2⟩
theorem li_pop (hn : n ≤ 40) (h : lawI n ar gl ac (q, d) L pool as ((mq, w), nh) F T Ln) (h1 : (r1, q1) = fqpop n q) (h2 : (r2, mq1) = mqpop n mq) : lawI n ar gl ac (q1, d) L pool as ((mq1, w), nh) F T Ln := by
  have e1 : q1 = (fqpop n q).2 := by rw [← h1]
  have e2 : mq1 = (mqpop n mq).2 := by rw [← h2]
  subst e1; subst e2
  exact ⟨⟨h.1.1, fqpop_S h.1.2.1, mqpop_S h.1.2.2.1, h.1.2.2.2⟩, (QR_pop hn h.2.1).2, h.2.2⟩
theorem li_run (hn : n ≤ 40) (h : lawI n ar gl ac (q, d) L pool as ((mq, w), nh) F T Ln) (h1 : (r1, (q1, d1)) = fqrun n as (q, d) x) (h2 : (r2, mx1) = mqrun n F T Ln ac ((mq, w), nh) x) : lawI n ar gl ac (q1, d1) L pool as mx1 F T Ln := by
  have e1 : (q1, d1) = (fqrun n as (q, d) x).2 := by rw [← h1]
  have e2 : mx1 = (mqrun n F T Ln ac ((mq, w), nh) x).2 := by rw [← h2]
  rw [e1, e2]
  exact ⟨⟨h.1.1, fqrun_S h.1.2.1, mqrun_S hn h.1.2.2.2.1 h.1.2.2.1, h.1.2.2.2⟩, QR_run hn h.1.2.2.2.1 h.2.2.1 h.2.1 x, h.2.2.1, h.2.2.2.1, (DR_run hn h.1.2.2.2.1 h.2.2.2.1 h.2.2.1 (r := (q, d)) (x := ((mq, w), nh)) h.2.1 h.2.2.2.2 x).2⟩
theorem li_eq_run (hn : n ≤ 40) (h : lawI n ar gl ac (q, d) L pool as ((mq, w), nh) F T Ln) (h1 : (r1, (q1, d1)) = fqrun n as (q, d) x) (h2 : (r2, mx1) = mqrun n F T Ln ac ((mq, w), nh) x) : r1 = r2 := by
  have e := (DR_run hn h.1.2.2.2.1 h.2.2.2.1 h.2.2.1 (r := (q, d)) (x := ((mq, w), nh)) h.2.1 h.2.2.2.2 x).1
  rw [← h1, ← h2] at e
  exact e
theorem li_arc {Ds Bf : Nat → Int32} {xu xv w0 : Int32} {p : Nat} {Ne : Nat → Int32} {hw : Int32} (hn : n ≤ 40) (har : ar ≤ 300) (h : lawI n ar gl ac (q, Ds, Bf) L pool as ((mq, w), Ne, hw) F T Ln) (h0 : fqarcR n (nI ar) gl (nI ac) xu xv w0 = 0) : lawI n ar gl (ac + 1) (q, fqfill n (-1) Ds, fqfill n (-1) Bf) (va_up L (fqn xu) (some p)) (pool ++ [(p, .inr (1, [.int xv, .int w0, va_rf (L (fqn xu))]))]) (fqas as (fqn xu) xv w0) ((mq, w), Ne, 0) (upd F ac xu) (upd T ac xv) (upd Ln ac w0) := by
  obtain ⟨⟨j, hj, rfl⟩, ⟨k, hk, rfl⟩, hlt, hw0⟩ := fqarcR_0 har h.1.2.2.2.2 h0
  rw [fqn_nI (by omega)]
  refine ⟨lawB_arc h.1 hn hj hk hlt rfl, h.2.1, fqlist_arc hn hj h.2.2.1, fun k9 hk9 => ?_, Or.inl ⟨rfl, fun i hi => ⟨if_pos hi, if_pos hi⟩⟩⟩
  by_cases e : k9 = ac
  · rw [e, pk_us]; exact hw0
  · rw [pk_un e]; exact h.2.2.2.1 k9 (by omega)
theorem li_start (hn : n ≤ 40) (_h1 : 1 ≤ n) : lawI n ar gl 0 ((0, 0, 0, 0, (fun _ => 0), fqfill n (-1) (fun _ => 0), (fun _ => 0)), fqfill n (-1) (fun _ => 0), fqfill n (-1) (fun _ => 0)) (fun _ => none) [] (fun _ => []) (((0, 0, 0, fqfill 40 (-1) (fun _ => 0)), (fun _ => 0), (fun _ => 0), (fun _ => 0)), (fun _ => 0), 0) (fun _ => 0) (fun _ => 0) (fun _ => 0) := by
  refine ⟨⟨fun i _ => ⟨rfl, fun a ha => absurd ha List.not_mem_nil⟩, ⟨(by decide : ¬ (0 : Int32) < 0), fun j hj => ⟨Or.inl (if_pos hj), fun h => absurd (if_pos hj) h⟩⟩, ⟨(by decide : ¬ (0 : Int32) < 0), fun j hj h => absurd (if_pos (by omega)) h⟩, fun k hk => absurd hk (Nat.not_lt_zero k), Nat.zero_le _⟩, ⟨rfl, (by decide : ¬ (0 : Int32) < 0), rfl, fun i hi => Or.inl ⟨if_pos (by omega), if_pos hi⟩, ?_, fun b hb => ?_⟩, fun i _ => rfl, fun k hk => absurd hk (Nat.not_lt_zero k), Or.inl ⟨rfl, fun i hi => ⟨if_pos hi, if_pos hi⟩⟩⟩
  · show (0 : Int32) = nI _
    rw [fqcnt_0 (p := mqhas (fqfill 40 (-1) (fun _ => 0))) (fun i hi => decide_eq_false (fun q9 => q9 (if_pos (show i < 40 by omega))))]
    rfl
  · show (0 : Int32) = _
    rw [fqcnt_0 (fun i hi => decide_eq_false (fun q9 => fq_nm1 (by omega) (q9.symm.trans (if_pos hi))))]
    rfl
end LI
section LE
variable {n ar : Nat} {gl : Int32} {ac : Nat} {q : fqQ} {Ds Bf : Nat → Int32} {L : Nat → Option Nat} {pool : va_W} {as : Nat → List (Int32 × Int32)} {mq : mqQ} {Wy Fo Tk Ne : Nat → Int32} {hw : Int32} {F T Ln : Nat → Int32} {x r1 r2 : Int32}
theorem li_eq_distance (_hn : n ≤ 40) (h : lawI n ar gl ac (q, Ds, Bf) L pool as ((mq, Wy, Fo, Tk), Ne, hw) F T Ln) (h1 : r1 = fqget n Ds (fun _ => true) x) (h2 : r2 = mqdist n hw Tk Wy x) : r1 = r2 := by
  rw [h1, h2]
  unfold fqget mqdist
  rcases h.2.2.2.2 with ⟨e1, e2⟩ | ⟨e1, e2⟩
  · have e1 : hw = 0 := e1
    rw [if_pos e1]
    cases e : fqat n x with
    | none => rfl
    | some j => exact (e2 j (fqat_lt e).1).1
  · have e1 : hw = 1 := e1
    rw [e1, if_neg (by decide)]
    cases e : fqat n x with
    | none => rfl
    | some j => exact (e2 j (fqat_lt e).1).1
theorem li_eq_before (_hn : n ≤ 40) (h : lawI n ar gl ac (q, Ds, Bf) L pool as ((mq, Wy, Fo, Tk), Ne, hw) F T Ln) (h1 : r1 = fqget n Bf (fun _ => true) x) (h2 : r2 = mqdist n hw Tk Fo x) : r1 = r2 := by
  rw [h1, h2]
  unfold fqget mqdist
  rcases h.2.2.2.2 with ⟨e1, e2⟩ | ⟨e1, e2⟩
  · have e1 : hw = 0 := e1
    rw [if_pos e1]
    cases e : fqat n x with
    | none => rfl
    | some j => exact (e2 j (fqat_lt e).1).2
  · have e1 : hw = 1 := e1
    rw [e1, if_neg (by decide)]
    cases e : fqat n x with
    | none => rfl
    | some j => exact (e2 j (fqat_lt e).1).2
end LE
