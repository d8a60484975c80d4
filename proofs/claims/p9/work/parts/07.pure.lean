/-! BIT LENGTHS AND BUCKETS: pure rows -/
def fqbl (x : Nat) : Nat := if x = 0 then 0 else x.log2 + 1
theorem fqbl_le (x k : Nat) : fqbl x ≤ k ↔ x < 2 ^ k := by
  unfold fqbl
  by_cases h : x = 0
  · subst h
    simp [Nat.two_pow_pos]
  · rw [if_neg h, ← Nat.log2_lt h]
    omega
theorem fqbl_0 : fqbl 0 = 0 := rfl
theorem fq_xor0 {a b : Nat} (h : a ^^^ b = 0) : a = b := by
  apply Nat.eq_of_testBit_eq
  intro i
  have h1 : (a ^^^ b).testBit i = false := by rw [h]; exact Nat.zero_testBit i
  rw [Nat.testBit_xor] at h1
  cases ha : a.testBit i <;> cases hb : b.testBit i <;> simp_all
/-- the bucket is at most k: the bits from k on are the floor's -/
theorem fqbx_le (a f k : Nat) : fqbl (a ^^^ f) ≤ k ↔ a / 2 ^ k = f / 2 ^ k := by
  rw [fqbl_le]
  constructor
  · intro h
    have h1 : (a ^^^ f) / 2 ^ k = 0 := Nat.div_eq_of_lt h
    rw [Nat.xor_div_two_pow] at h1
    exact fq_xor0 h1
  · intro h
    have h1 : (a ^^^ f) / 2 ^ k = 0 := by rw [Nat.xor_div_two_pow, h, Nat.xor_self]
    exact (Nat.div_eq_zero_iff_lt (Nat.two_pow_pos k)).mp h1
theorem fqbx_0 (a f : Nat) : fqbl (a ^^^ f) = 0 ↔ a = f := by
  have h := fqbx_le a f 0
  simp at h
  omega
theorem fqbx_31 {a f : Nat} (ha : a < 2 ^ 31) (hf : f < 2 ^ 31) : fqbl (a ^^^ f) ≤ 31 := (fqbl_le _ _).mpr (Nat.xor_lt_two_pow ha hf)
/-- a lower bucket has lower keys -/
theorem fqbx_lt {a b f : Nat} (hb : f ≤ b) (h : fqbl (a ^^^ f) < fqbl (b ^^^ f)) : a < b := by
  have h1 := (fqbx_le a f (fqbl (a ^^^ f))).mp (Nat.le_refl _)
  have h2 : ¬ b / 2 ^ fqbl (a ^^^ f) = f / 2 ^ fqbl (a ^^^ f) := fun q => by
    have := (fqbx_le b f (fqbl (a ^^^ f))).mpr q
    omega
  have h3 : f / 2 ^ fqbl (a ^^^ f) ≤ b / 2 ^ fqbl (a ^^^ f) := Nat.div_le_div_right hb
  rcases Nat.lt_or_ge a b with q | q
  · exact q
  · have := Nat.div_le_div_right (c := 2 ^ fqbl (a ^^^ f)) q
    omega
theorem fqdiv_up {a f j k : Nat} (h : j ≤ k) (e : a / 2 ^ j = f / 2 ^ j) : a / 2 ^ k = f / 2 ^ k := by
  have h1 : 2 ^ k = 2 ^ j * 2 ^ (k - j) := by rw [← Nat.pow_add]; congr 1; omega
  rw [h1, ← Nat.div_div_eq_div_mul, ← Nat.div_div_eq_div_mul, e]
/-- the new floor lies in bucket b0 of the old one: a key in a higher bucket stays where it is -/
theorem fqbx_stay {k f g : Nat} (h : fqbl (g ^^^ f) < fqbl (k ^^^ f)) : fqbl (k ^^^ g) = fqbl (k ^^^ f) := by
  have hg := (fqbx_le g f (fqbl (g ^^^ f))).mp (Nat.le_refl _)
  have key : ∀ j, fqbl (k ^^^ g) ≤ j ↔ fqbl (k ^^^ f) ≤ j := by
    intro j
    rcases Nat.lt_or_ge j (fqbl (g ^^^ f)) with q | q
    · constructor
      · intro h1
        have h2 := fqdiv_up (Nat.le_of_lt q) ((fqbx_le k g j).mp h1)
        have h3 := (fqbx_le k f (fqbl (g ^^^ f))).mpr (h2.trans hg)
        omega
      · intro h1
        omega
    · rw [fqbx_le, fqbx_le, fqdiv_up q hg]
  have h1 := (key (fqbl (k ^^^ f))).mpr (Nat.le_refl _)
  have h2 := (key (fqbl (k ^^^ g))).mp (Nat.le_refl _)
  omega
/-- keys of the new floor's own bucket fall -/
theorem fqbx_fall {k f g b : Nat} (hg : f ≤ g) (hk : g ≤ k) (eg : fqbl (g ^^^ f) = b) (ek : fqbl (k ^^^ f) = b) (hb : 0 < b) : fqbl (k ^^^ g) < b := by
  obtain ⟨d, rfl⟩ : ∃ d, b = d + 1 := ⟨b - 1, by omega⟩
  have g1 := (fqbx_le g f (d + 1)).mp (by omega)
  have k1 := (fqbx_le k f (d + 1)).mp (by omega)
  have g2 : ¬ g / 2 ^ d = f / 2 ^ d := fun q => by have := (fqbx_le g f d).mpr q; omega
  have k2 : ¬ k / 2 ^ d = f / 2 ^ d := fun q => by have := (fqbx_le k f d).mpr q; omega
  have e : 2 ^ (d + 1) = 2 ^ d * 2 := Nat.pow_succ ..
  rw [e, ← Nat.div_div_eq_div_mul, ← Nat.div_div_eq_div_mul] at g1 k1
  have g3 : f / 2 ^ d ≤ g / 2 ^ d := Nat.div_le_div_right hg
  have k3 : f / 2 ^ d ≤ k / 2 ^ d := Nat.div_le_div_right (Nat.le_trans hg hk)
  have : k / 2 ^ d = g / 2 ^ d := by omega
  have := (fqbx_le k g d).mpr this
  omega
/-- a key that falls, but not below the floor: its bucket doesn't rise -/
theorem fqbx_mono {a b f : Nat} (ha : f ≤ a) (h : a ≤ b) : fqbl (a ^^^ f) ≤ fqbl (b ^^^ f) := by
  rcases Nat.lt_or_ge (fqbl (b ^^^ f)) (fqbl (a ^^^ f)) with q | q
  · have := fqbx_lt ha q
    omega
  · exact q
theorem fqbl_shift {x s : Nat} (h : 2 ^ s ≤ x) : fqbl x = fqbl (x / 2 ^ s) + s := by
  have key : ∀ j, fqbl x ≤ j + s ↔ fqbl (x / 2 ^ s) ≤ j := by
    intro j
    rw [fqbl_le, fqbl_le, Nat.pow_add, Nat.div_lt_iff_lt_mul (Nat.two_pow_pos s)]
  have hs : s < fqbl x := by
    rcases Nat.lt_or_ge s (fqbl x) with q | q
    · exact q
    · have := (fqbl_le x s).mp q
      omega
  have h1 := (key (fqbl (x / 2 ^ s))).mpr (Nat.le_refl _)
  have h2 := (key (fqbl x - s)).mp (by omega)
  omega
theorem fqbl_3 {x : Nat} (h0 : 0 < x) (h : x < 4) : fqbl x = 1 + x / 2 := by
  rcases (show x = 1 ∨ x = 2 ∨ x = 3 by omega) with rfl | rfl | rfl <;> decide
/-! COUNTS -/
def fqcnt (p : Nat → Bool) : Nat → Nat
  | 0 => 0
  | n + 1 => fqcnt p n + (if p n = true then 1 else 0)
theorem fqcnt_le (p : Nat → Bool) (n : Nat) : fqcnt p n ≤ n := by
  induction n with
  | zero => exact Nat.le_refl _
  | succ n ih =>
    unfold fqcnt
    split <;> omega
theorem fqcnt_eq {p q : Nat → Bool} {n : Nat} (h : ∀ i, i < n → p i = q i) : fqcnt p n = fqcnt q n := by
  induction n with
  | zero => rfl
  | succ n ih =>
    unfold fqcnt
    rw [ih (fun i hi => h i (by omega)), h n (by omega)]
theorem fqcnt_on {p q : Nat → Bool} {n j : Nat} (hj : j < n) (h0 : p j = false) (h1 : q j = true) (h : ∀ i, i < n → i ≠ j → p i = q i) : fqcnt q n = fqcnt p n + 1 := by
  induction n with
  | zero => omega
  | succ n ih =>
    unfold fqcnt
    rcases Nat.lt_or_ge j n with q1 | q1
    · rw [ih q1 (fun i hi => h i (by omega)), h n (by omega) (by omega)]
      omega
    · have e : j = n := by omega
      subst e
      rw [fqcnt_eq (p := p) (q := q) (fun i hi => h i (by omega) (by omega)), h0, h1]
      simp
theorem fqcnt_0 {p : Nat → Bool} {n : Nat} (h : ∀ i, i < n → p i = false) : fqcnt p n = 0 := by
  induction n with
  | zero => rfl
  | succ n ih =>
    unfold fqcnt
    rw [ih (fun i hi => h i (by omega)), h n (by omega)]
    simp
theorem fqcnt_pos {p : Nat → Bool} {n j : Nat} (hj : j < n) (h : p j = true) : 0 < fqcnt p n := by
  induction n with
  | zero => omega
  | succ n ih =>
    unfold fqcnt
    rcases Nat.lt_or_ge j n with q1 | q1
    · have := ih q1
      omega
    · have e : j = n := by omega
      subst e
      rw [h]
      simp
theorem fqcnt_ex {p : Nat → Bool} {n : Nat} (h : 0 < fqcnt p n) : ∃ j, j < n ∧ p j = true := by
  induction n with
  | zero => exact absurd h (Nat.lt_irrefl 0)
  | succ n ih =>
    unfold fqcnt at h
    by_cases q : p n = true
    · exact ⟨n, by omega, q⟩
    · rw [if_neg q] at h
      obtain ⟨j, h1, h2⟩ := ih h
      exact ⟨j, by omega, h2⟩
theorem nx_xor (a b : Nat) : nI a ^^^ nI b = nI (a ^^^ b) := by
  apply Int32.toBitVec_inj.1
  show BitVec.ofNat 32 a ^^^ BitVec.ofNat 32 b = BitVec.ofNat 32 (a ^^^ b)
  apply BitVec.eq_of_getLsbD_eq
  intro i hi
  simp [hi]
/-! THE CLASS AS PURE FUNCTIONS: the queue's part of the object: (floorKey, present, placings, keyings, keys, buckets, members) -/
abbrev fqQ : Type := Int32 × Int32 × Int32 × Int32 × (Nat → Int32) × (Nat → Int32) × (Nat → Int32)
def fqn (x : Int32) : Nat := x.toNatClampNeg
theorem fqn_nI {k : Nat} (h : k < 2 ^ 31) : fqn (nI k) = k := nI_clamp h
theorem fqn_lt (x : Int32) : fqn x < 2 ^ 31 := by
  have h1 := Int32.toInt_lt x
  show x.toInt.toNat < 2 ^ 31
  omega
theorem nI_fqn {x : Int32} (h : ¬ x < 0) : nI (fqn x) = x := by
  obtain ⟨j, h1, rfl⟩ := nI_of h
  rw [fqn_nI h1]
/-- the bucket of a key under a floor -/
def fqk (x f : Int32) : Nat := fqbl (fqn x ^^^ fqn f)
theorem fqk_lt (x f : Int32) : fqk x f < 32 := by
  have := fqbx_31 (fqn_lt x) (fqn_lt f)
  unfold fqk
  omega
def fqfill (n : Nat) (v : Int32) (f : Nat → Int32) : Nat → Int32 := fun j => if j < n then v else f j
def fqleave (q : fqQ) (j : Nat) : fqQ := match q with
  | (fl, pr, pg, ky, K, B, M) => if B j = -1 then (fl, pr, pg, ky, K, B, M) else (fl, pr, pg, ky, K, upd B j (-1), upd M (fqn (B j)) (M (fqn (B j)) - 1))
def fqput (q : fqQ) (j : Nat) : fqQ := match fqleave q j with
  | (fl, pr, pg, ky, K, B, M) => (fl, pr, pg + 1, ky, K, upd B j (nI (fqk (K j) fl)), upd M (fqk (K j) fl) (M (fqk (K j) fl) + 1))
def fqtake (q : fqQ) (j : Nat) : fqQ := match fqleave q j with
  | (fl, pr, pg, ky, K, B, M) => (fl, pr - 1, pg, ky, K, B, M)
def fqlow (M : Nat → Int32) : Nat → Nat → Option Nat
  | 0, _ => none
  | d + 1, i => if 0 < M i then some i else fqlow M d (i + 1)
def fqbest (K B : Nat → Int32) (b : Int32) : Nat → Nat → Option Nat → Option Nat
  | 0, _, a => a
  | d + 1, i, a => fqbest K B b d (i + 1) (match a with | none => (if B i ≠ -1 ∧ B i = b then some i else none) | some j => (if B i ≠ -1 ∧ B i = b ∧ K i < K j then some i else some j))
def fqspread (b : Int32) : Nat → Nat → fqQ → fqQ
  | 0, _, q => q
  | d + 1, i, q => fqspread b d (i + 1) (if q.2.2.2.2.2.1 i = b then fqput q i else q)
def fqopt (a : Option Nat) : Int32 := match a with
  | none => -1
  | some j => nI j
def fqat (n : Nat) (x : Int32) : Option Nat := if x < 0 then none else if nI n ≤ x then none else some (fqn x)
def fqpush (n : Nat) (q : fqQ) (x key : Int32) : Int32 × fqQ := match fqat n x with
  | none => (-1, q)
  | some j => if q.2.2.2.2.2.1 j = -1 then (if key < q.1 then (-2, q) else (0, fqput (q.1, q.2.1 + 1, q.2.2.1, q.2.2.2.1 + 1, upd q.2.2.2.2.1 j key, q.2.2.2.2.2.1, q.2.2.2.2.2.2) j)) else (-1, q)
def fqlow1 (q : fqQ) (j : Nat) (key : Int32) : fqQ := if nI (fqk key q.1) = q.2.2.2.2.2.1 j then (q.1, q.2.1, q.2.2.1, q.2.2.2.1 + 1, upd q.2.2.2.2.1 j key, q.2.2.2.2.2.1, q.2.2.2.2.2.2) else fqput (q.1, q.2.1, q.2.2.1, q.2.2.2.1 + 1, upd q.2.2.2.2.1 j key, q.2.2.2.2.2.1, q.2.2.2.2.2.2) j
def fqlower (n : Nat) (q : fqQ) (x key : Int32) : Int32 × fqQ := match fqat n x with
  | none => (-1, q)
  | some j => if q.2.2.2.2.2.1 j = -1 then (-1, q) else if key < q.1 then (-2, q) else if key ≤ q.2.2.2.2.1 j then (if q.2.2.2.2.1 j ≤ key then (0, q) else (0, fqlow1 q j key)) else (-2, q)
def fqpop (n : Nat) (q : fqQ) : Int32 × fqQ := match fqbest q.2.2.2.2.1 q.2.2.2.2.2.1 (fqopt (fqlow q.2.2.2.2.2.2 32 0)) n 0 none with
  | none => (-1, q)
  | some j => (nI j, fqtake (if fqopt (fqlow q.2.2.2.2.2.2 32 0) ≤ 0 then (q.2.2.2.2.1 j, q.2) else fqspread (fqopt (fqlow q.2.2.2.2.2.2 32 0)) n 0 (q.2.2.2.2.1 j, q.2)) j)
/-- what the walks need of the queue: places in range, no negative numbers -/
def fqB1 (q : fqQ) (j : Nat) : Prop := (q.2.2.2.2.2.1 j = -1 ∨ ∃ b, b < 32 ∧ q.2.2.2.2.2.1 j = nI b) ∧ (q.2.2.2.2.2.1 j ≠ -1 → ¬ q.2.2.2.2.1 j < 0)
def fqS (n : Nat) (q : fqQ) : Prop := ¬ q.1 < 0 ∧ ∀ j, j < n → fqB1 q j
theorem fq_nm1 {j : Nat} (h : j < 2 ^ 31) : nI j ≠ -1 := fun e => by
  have h1 := nI_pos h
  rw [e] at h1
  exact h1 (by decide)
theorem fqat_some {n j : Nat} (hj : j < n) (hn : n < 2 ^ 31) : fqat n (nI j) = some j := by
  unfold fqat
  rw [if_neg (nI_pos (by omega)), if_neg (nI_ge hj hn), fqn_nI (by omega)]
theorem fqat_none {n : Nat} {x : Int32} (hn : n < 2 ^ 31) (h : ∀ j, j < n → x ≠ nI j) : fqat n x = none := by
  unfold fqat
  by_cases h1 : x < 0
  · rw [if_pos h1]
  · rw [if_neg h1]
    by_cases h2 : nI n ≤ x
    · rw [if_pos h2]
    · obtain ⟨j, hj, e⟩ : ∃ j, j < n ∧ x = nI j := by
        obtain ⟨j, h3, rfl⟩ := nI_of h1
        exact ⟨j, Nat.lt_of_not_le fun q => h2 (nI_le q h3), rfl⟩
      exact absurd e (h j hj)
theorem fqat_lt {n j : Nat} {x : Int32} (h : fqat n x = some j) : j < n ∧ x = nI j := by
  unfold fqat at h
  by_cases h1 : x < 0
  · rw [if_pos h1] at h; cases h
  · rw [if_neg h1] at h
    by_cases h2 : nI n ≤ x
    · rw [if_pos h2] at h; cases h
    · rw [if_neg h2] at h
      cases h
      obtain ⟨j, h3, rfl⟩ := nI_of h1
      rw [fqn_nI h3]
      exact ⟨Nat.lt_of_not_le fun q => h2 (nI_le q h3), rfl⟩
theorem fqleave_form (fl pr pg ky : Int32) (K B M : Nat → Int32) (j : Nat) : ∃ B1 M1, fqleave (fl, pr, pg, ky, K, B, M) j = (fl, pr, pg, ky, K, B1, M1) := by
  simp only [fqleave]
  split
  · exact ⟨_, _, rfl⟩
  · exact ⟨_, _, rfl⟩
theorem fqput_form (fl pr pg ky : Int32) (K B M : Nat → Int32) (j : Nat) : ∃ pg1 B1 M1, fqput (fl, pr, pg, ky, K, B, M) j = (fl, pr, pg1, ky, K, B1, M1) := by
  obtain ⟨B1, M1, e⟩ := fqleave_form fl pr pg ky K B M j
  unfold fqput
  rw [e]
  exact ⟨_, _, _, rfl⟩
theorem fqtake_form (fl pr pg ky : Int32) (K B M : Nat → Int32) (j : Nat) : ∃ pr1 B1 M1, fqtake (fl, pr, pg, ky, K, B, M) j = (fl, pr1, pg, ky, K, B1, M1) := by
  obtain ⟨B1, M1, e⟩ := fqleave_form fl pr pg ky K B M j
  unfold fqtake
  rw [e]
  exact ⟨_, _, _, rfl⟩
/-- the buckets behind a leave, a put -/
theorem fqleave_B (q : fqQ) (j i : Nat) : (fqleave q j).2.2.2.2.2.1 i = if i = j then -1 else q.2.2.2.2.2.1 i := by
  obtain ⟨fl, pr, pg, ky, K, B, M⟩ := q
  simp only [fqleave]
  split
  · rename_i h
    by_cases e : i = j
    · subst e; rw [if_pos rfl]; exact h
    · rw [if_neg e]
  · rfl
theorem fqleave_K (q : fqQ) (j : Nat) : (fqleave q j).2.2.2.2.1 = q.2.2.2.2.1 ∧ (fqleave q j).1 = q.1 := by
  obtain ⟨fl, pr, pg, ky, K, B, M⟩ := q
  simp only [fqleave]
  split <;> exact ⟨rfl, rfl⟩
theorem fqput_B (q : fqQ) (j i : Nat) : (fqput q j).2.2.2.2.2.1 i = if i = j then nI (fqk (q.2.2.2.2.1 j) q.1) else q.2.2.2.2.2.1 i := by
  have h1 := fqleave_B q j i
  have h2 := fqleave_K q j
  unfold fqput
  generalize fqleave q j = u at h1 h2
  obtain ⟨fl, pr, pg, ky, K, B, M⟩ := u
  obtain ⟨h2, h3⟩ := h2
  dsimp only at h1 h2 h3 ⊢
  unfold upd
  by_cases e : i = j
  · rw [if_pos e, if_pos e, h2, h3]
  · rw [if_neg e, if_neg e, h1, if_neg e]
theorem fqput_K (q : fqQ) (j : Nat) : (fqput q j).2.2.2.2.1 = q.2.2.2.2.1 ∧ (fqput q j).1 = q.1 := by
  have h2 := fqleave_K q j
  unfold fqput
  generalize fqleave q j = u at h2
  obtain ⟨fl, pr, pg, ky, K, B, M⟩ := u
  exact h2
theorem fqtake_B (q : fqQ) (j i : Nat) : (fqtake q j).2.2.2.2.2.1 i = if i = j then -1 else q.2.2.2.2.2.1 i := by
  have h1 := fqleave_B q j i
  unfold fqtake
  generalize fqleave q j = u at h1
  obtain ⟨fl, pr, pg, ky, K, B, M⟩ := u
  exact h1
theorem fqtake_K (q : fqQ) (j : Nat) : (fqtake q j).2.2.2.2.1 = q.2.2.2.2.1 ∧ (fqtake q j).1 = q.1 := by
  have h2 := fqleave_K q j
  unfold fqtake
  generalize fqleave q j = u at h2
  obtain ⟨fl, pr, pg, ky, K, B, M⟩ := u
  exact h2
theorem fqput_S {n : Nat} {q : fqQ} {j : Nat} (h : fqS n q) (hk : ¬ q.2.2.2.2.1 j < 0) : fqS n (fqput q j) := by
  refine ⟨by rw [(fqput_K q j).2]; exact h.1, fun i hi => ?_⟩
  have h1 := h.2 i hi
  unfold fqB1 at h1 ⊢
  rw [fqput_B, (fqput_K q j).1]
  by_cases e : i = j
  · subst e
    rw [if_pos rfl]
    exact ⟨Or.inr ⟨_, fqk_lt _ _, rfl⟩, fun _ => hk⟩
  · rw [if_neg e]
    exact h1
theorem fqtake_S {n : Nat} {q : fqQ} {j : Nat} (h : fqS n q) : fqS n (fqtake q j) := by
  refine ⟨by rw [(fqtake_K q j).2]; exact h.1, fun i hi => ?_⟩
  have h1 := h.2 i hi
  unfold fqB1 at h1 ⊢
  rw [fqtake_B, (fqtake_K q j).1]
  by_cases e : i = j
  · rw [if_pos e]
    exact ⟨Or.inl rfl, fun h9 => absurd rfl h9⟩
  · rw [if_neg e]
    exact h1
theorem fqspread_S {n : Nat} {b : Int32} (hb : b ≠ -1) : ∀ (d i : Nat) (q : fqQ), d + i ≤ n → fqS n q → fqS n (fqspread b d i q) ∧ (fqspread b d i q).1 = q.1 ∧ (fqspread b d i q).2.2.2.2.1 = q.2.2.2.2.1 := by
  intro d
  induction d with
  | zero => exact fun i q _ h => ⟨h, rfl, rfl⟩
  | succ d ih =>
    intro i q hi h
    unfold fqspread
    by_cases e : q.2.2.2.2.2.1 i = b
    · rw [if_pos e]
      have h1 := fqput_S (j := i) h ((h.2 i (by omega)).2 (by rw [e]; exact hb))
      obtain ⟨a1, a2, a3⟩ := ih (i + 1) _ (by omega) h1
      exact ⟨a1, a2.trans (fqput_K q i).2, a3.trans (fqput_K q i).1⟩
    · rw [if_neg e]
      exact ih (i + 1) q (by omega) h
theorem fqbest_in {K B : Nat → Int32} {b : Int32} : ∀ (d i : Nat) (a : Option Nat) (j : Nat), fqbest K B b d i a = some j → a = some j ∨ (i ≤ j ∧ j < i + d ∧ B j ≠ -1 ∧ B j = b) := by
  intro d
  induction d with
  | zero => exact fun i a j h => Or.inl h
  | succ d ih =>
    intro i a j h
    unfold fqbest at h
    rcases ih (i + 1) _ j h with h1 | ⟨h1, h2, h3, h4⟩
    · cases a with
      | none =>
        dsimp only at h1
        split at h1
        · rename_i h5; cases h1; exact Or.inr ⟨Nat.le_refl _, by omega, h5.1, h5.2⟩
        · cases h1
      | some j' =>
        dsimp only at h1
        split at h1
        · rename_i h5; cases h1; exact Or.inr ⟨Nat.le_refl _, by omega, h5.1, h5.2.1⟩
        · exact Or.inl h1
    · exact Or.inr ⟨by omega, by omega, h3, h4⟩
theorem fqbest_none {K B : Nat → Int32} {b : Int32} (d i : Nat) : fqbest K B b (d + 1) i none = fqbest K B b d (i + 1) (if B i ≠ -1 ∧ B i = b then some i else none) := rfl
theorem fqbest_some {K B : Nat → Int32} {b : Int32} (d i j : Nat) : fqbest K B b (d + 1) i (some j) = fqbest K B b d (i + 1) (if B i ≠ -1 ∧ B i = b ∧ K i < K j then some i else some j) := rfl
theorem fqspread_s (b : Int32) (d i : Nat) (q : fqQ) : fqspread b (d + 1) i q = fqspread b d (i + 1) (if q.2.2.2.2.2.1 i = b then fqput q i else q) := rfl
theorem fqspread_form (b fl pr ky : Int32) (K : Nat → Int32) : ∀ (d i : Nat) (pg : Int32) (B M : Nat → Int32), ∃ pg1 B1 M1, fqspread b d i (fl, pr, pg, ky, K, B, M) = (fl, pr, pg1, ky, K, B1, M1) := by
  intro d
  induction d with
  | zero => exact fun i pg B M => ⟨_, _, _, rfl⟩
  | succ d ih =>
    intro i pg B M
    rw [fqspread_s]
    split
    · obtain ⟨pg1, B1, M1, e⟩ := fqput_form fl pr pg ky K B M i
      rw [e]
      exact ih (i + 1) pg1 B1 M1
    · exact ih (i + 1) pg B M
theorem fq_le0 {a b : Int32} (h : ¬ a < b) (hb : ¬ b < 0) : ¬ a < 0 := fun h1 => h (Int32.lt_of_lt_of_le h1 (Int32.not_lt.mp hb))
theorem fqlower_bad {n : Nat} {q : fqQ} {x key : Int32} (h : ∀ j, j < n → x = nI j → q.2.2.2.2.2.1 j = -1) : fqlower n q x key = (-1, q) := by
  unfold fqlower
  cases e : fqat n x with
  | none => rfl
  | some j =>
    dsimp only
    rw [if_pos (h j (fqat_lt e).1 (fqat_lt e).2)]
def fqempty (n : Nat) (q : fqQ) : fqQ := (0, 0, q.2.2.1, q.2.2.2.1, q.2.2.2.2.1, fqfill n (-1) q.2.2.2.2.2.1, fqfill 32 0 q.2.2.2.2.2.2)
/-- the answer of key, bucket, distance, before: a number of a row, at an item -/
def fqget (n : Nat) (f : Nat → Int32) (p : Nat → Bool) (x : Int32) : Int32 := match fqat n x with
  | none => -1
  | some j => if p j = true then f j else -1
def fqokB (fl : Int32) (K B : Nat → Int32) (j : Nat) : Bool := decide (B j ≠ -1 → (fl ≤ K j ∧ B j = nI (fqk (K j) fl)))
def fqall (p : Nat → Bool) : Nat → Nat → Bool
  | 0, _ => true
  | d + 1, i => p i && fqall p d (i + 1)
def fqsound (n : Nat) (q : fqQ) : Bool := fqall (fqokB q.1 q.2.2.2.2.1 q.2.2.2.2.2.1) n 0 && decide (q.2.2.1.toInt64 ≤ 32 * q.2.2.2.1.toInt64)
def fqcount (n : Nat) (ac ky x : Int32) : Int32 := if x = 0 then nI n else if x = 1 then ac else if x = 2 then ky else -1
def fqmany (M : Nat → Int32) (x : Int32) : Int32 := match fqat 32 x with
  | none => -1
  | some b => M b
theorem fqall_s (p : Nat → Bool) (d i : Nat) : fqall p (d + 1) i = (p i && fqall p d (i + 1)) := rfl
theorem fqall_iff (p : Nat → Bool) : ∀ d i, fqall p d i = true ↔ ∀ j, i ≤ j → j < d + i → p j = true := by
  intro d
  induction d with
  | zero => intro i; simp only [fqall, true_iff]; intro j h1 h2; omega
  | succ d ih =>
    intro i
    rw [fqall_s, Bool.and_eq_true, ih]
    constructor
    · rintro ⟨h1, h2⟩ j h3 h4
      rcases Nat.eq_or_lt_of_le h3 with e | e
      · subst e; exact h1
      · exact h2 j e (by omega)
    · intro h
      exact ⟨h i (Nat.le_refl _) (by omega), fun j h1 h2 => h j (by omega) (by omega)⟩
/-- the net: the arcs of an item, the latest first, as the cells in 'rest' hold them -/
def fqch (rest : va_W) : Option Nat → List (Int32 × Int32) → Prop
  | r, [] => r = none
  | r, (e, w) :: t => ∃ a nx, r = some a ∧ (∃ k : Nat, rest[k]? = some (a, .inr (1, [.int e, .int w, va_rf nx]))) ∧ fqch rest nx t
theorem fqch_app {rest : va_W} {x : va_W} : ∀ (t : List (Int32 × Int32)) (r : Option Nat), fqch rest r t → fqch (rest ++ x) r t := by
  intro t
  induction t with
  | nil => exact fun r h => h
  | cons y t ih =>
    obtain ⟨e, w⟩ := y
    rintro r ⟨a, nx, h1, ⟨k, h2⟩, h3⟩
    exact ⟨a, nx, h1, ⟨k, by rw [List.getElem?_append_left (List.getElem?_eq_some_iff.mp h2).1]; exact h2⟩, ih nx h3⟩
/-- the net's part: queue, distances, befores -/
abbrev fqR : Type := fqQ × (Nat → Int32) × (Nat → Int32)
def fqends (n : Nat) (t : List (Int32 × Int32)) : Prop := ∀ a ∈ t, ∃ e, e < n ∧ a.1 = nI e
def fqtry (n : Nat) (s : fqR) (t : Nat) (e w : Int32) : fqR :=
  if s.2.1 (fqn e) = -1 then
    (if 2147483647 < (s.2.1 t).toInt64 + w.toInt64 then s
     else if s.1.2.2.2.2.2.1 (fqn e) = -1 then ((fqpush n s.1 e ((s.2.1 t).toInt64 + w.toInt64).toInt32).2, s.2.1, upd s.2.2 (fqn e) (nI t))
     else if (s.2.1 t).toInt64 + w.toInt64 < (s.1.2.2.2.2.1 (fqn e)).toInt64 then ((fqlower n s.1 e ((s.2.1 t).toInt64 + w.toInt64).toInt32).2, s.2.1, upd s.2.2 (fqn e) (nI t))
     else s)
  else s
def fqtries (n : Nat) (t : Nat) : List (Int32 × Int32) → fqR → fqR
  | [], s => s
  | a :: r, s => fqtries n t r (fqtry n s t a.1 a.2)
def fqnext (n : Nat) (as : Nat → List (Int32 × Int32)) (s : fqR) : fqR := match fqat n (fqpop n s.1).1 with
  | none => ((fqpop n s.1).2, s.2)
  | some j => fqtries n j (as j) ((fqpop n s.1).2, upd s.2.1 j (fqpop n s.1).2.1, s.2.2)
def fqrounds (n : Nat) (as : Nat → List (Int32 × Int32)) : Nat → fqR → fqR
  | 0, s => s
  | d + 1, s => if 0 < s.1.2.1 then fqrounds n as d (fqnext n as s) else s
def fqtoo1 (Ds : Nat → Int32) (t : List (Int32 × Int32)) : Bool := t.any fun a => decide (Ds (fqn a.1) = -1)
def fqtoo (n : Nat) (as : Nat → List (Int32 × Int32)) (Ds : Nat → Int32) : Bool := fqall (fun i => decide (Ds i = -1) || !(fqtoo1 Ds (as i))) n 0
def fqrun (n : Nat) (as : Nat → List (Int32 × Int32)) (s : fqR) (x : Int32) : Int32 × fqR := match fqat n x with
  | none => (-1, s)
  | some j => (fun r : fqR => if fqtoo n as r.2.1 = true then (0, r) else (-2, (r.1, fqfill n (-1) r.2.1, fqfill n (-1) r.2.2))) (fqrounds n as n ((fqpush n (fqempty n s.1) (nI j) 0).2, fqfill n (-1) s.2.1, fqfill n (-1) s.2.2))
/-- the calls keep what the walks need -/
theorem fqpush_S {n : Nat} {q : fqQ} {x key : Int32} (h : fqS n q) : fqS n (fqpush n q x key).2 := by
  unfold fqpush
  cases e : fqat n x with
  | none => exact h
  | some j =>
    dsimp only
    split
    · split
      · exact h
      · rename_i h1 h2
        apply fqput_S
        · refine ⟨h.1, fun i hi => ?_⟩
          obtain ⟨a1, a2⟩ := h.2 i hi
          refine ⟨a1, fun h3 => ?_⟩
          show ¬ upd q.2.2.2.2.1 j key i < 0
          unfold upd
          split
          · exact fq_le0 h2 h.1
          · exact a2 h3
        · show ¬ upd q.2.2.2.2.1 j key j < 0
          rw [pk_us]
          exact fq_le0 h2 h.1
    · exact h
theorem fqlower_S {n : Nat} {q : fqQ} {x key : Int32} (h : fqS n q) : fqS n (fqlower n q x key).2 := by
  unfold fqlower
  cases e : fqat n x with
  | none => exact h
  | some j =>
    dsimp only
    split
    · exact h
    · split
      · exact h
      · rename_i h1 h2
        split
        · split
          · exact h
          · have h3 : fqS n (q.1, q.2.1, q.2.2.1, q.2.2.2.1 + 1, upd q.2.2.2.2.1 j key, q.2.2.2.2.2.1, q.2.2.2.2.2.2) := by
              refine ⟨h.1, fun i hi => ?_⟩
              obtain ⟨a1, a2⟩ := h.2 i hi
              refine ⟨a1, fun h3 => ?_⟩
              show ¬ upd q.2.2.2.2.1 j key i < 0
              unfold upd
              split
              · exact fq_le0 h2 h.1
              · exact a2 h3
            show fqS n (fqlow1 q j key)
            unfold fqlow1
            split
            · exact h3
            · apply fqput_S h3
              show ¬ upd q.2.2.2.2.1 j key j < 0
              rw [pk_us]
              exact fq_le0 h2 h.1
        · exact h
theorem fqpop_S {n : Nat} {q : fqQ} (h : fqS n q) : fqS n (fqpop n q).2 := by
  unfold fqpop
  cases e : fqbest q.2.2.2.2.1 q.2.2.2.2.2.1 (fqopt (fqlow q.2.2.2.2.2.2 32 0)) n 0 none with
  | none => exact h
  | some j =>
    dsimp only
    obtain ⟨-, h1, h2, -⟩ := (fqbest_in n 0 none j e).resolve_left (fun h => by cases h)
    have h3 : fqS n (q.2.2.2.2.1 j, q.2) := ⟨(h.2 j (by omega)).2 h2, h.2⟩
    apply fqtake_S
    split
    · exact h3
    · rename_i h4
      exact (fqspread_S (fun h5 => h4 (by rw [h5]; decide)) n 0 _ (Nat.le_refl _) h3).1
theorem fqempty_S {n : Nat} (q : fqQ) : fqS n (fqempty n q) := ⟨(by decide : ¬ (0 : Int32) < 0), fun j hj => by
  have e : (fqempty n q).2.2.2.2.2.1 j = -1 := if_pos hj
  exact ⟨Or.inl e, fun h => absurd e h⟩⟩
theorem fqtry_S {n : Nat} {s : fqR} {t : Nat} {e w : Int32} (h : fqS n s.1) : fqS n (fqtry n s t e w).1 := by
  unfold fqtry
  split
  · split
    · exact h
    · split
      · exact fqpush_S h
      · split
        · exact fqlower_S h
        · exact h
  · exact h
theorem fqtries_S {n : Nat} {t : Nat} : ∀ (r : List (Int32 × Int32)) (s : fqR), fqS n s.1 → fqS n (fqtries n t r s).1 := by
  intro r
  induction r with
  | nil => exact fun s h => h
  | cons a r ih => exact fun s h => ih _ (fqtry_S h)
theorem fqnext_S {n : Nat} {as : Nat → List (Int32 × Int32)} {s : fqR} (h : fqS n s.1) : fqS n (fqnext n as s).1 := by
  unfold fqnext
  cases fqat n (fqpop n s.1).1 with
  | none => exact fqpop_S h
  | some j => exact fqtries_S _ _ (fqpop_S h)
theorem fqrounds_S {n : Nat} {as : Nat → List (Int32 × Int32)} : ∀ (d : Nat) (s : fqR), fqS n s.1 → fqS n (fqrounds n as d s).1 := by
  intro d
  induction d with
  | zero => exact fun s h => h
  | succ d ih =>
    intro s h
    unfold fqrounds
    split
    · exact ih _ (fqnext_S h)
    · exact h
theorem fqrun_S {n : Nat} {as : Nat → List (Int32 × Int32)} {s : fqR} {x : Int32} (h : fqS n s.1) : fqS n (fqrun n as s x).2.1 := by
  unfold fqrun
  cases fqat n x with
  | none => exact h
  | some j =>
    dsimp only
    have h1 := fqrounds_S (as := as) n ((fqpush n (fqempty n s.1) (nI j) 0).2, fqfill n (-1) s.2.1, fqfill n (-1) s.2.2) (fqpush_S (fqempty_S s.1))
    split
    · exact h1
    · exact h1
/-- arc's answer -/
def fqarcR (n : Nat) (ar gl ac u v w : Int32) : Int32 := match fqat n u, fqat n v with
  | some _, some _ => if w < 0 then -2 else if w ≤ gl then (if ac < ar then 0 else -3) else -2
  | _, _ => -1
theorem fqtries_c (n t : Nat) (e w : Int32) (r : List (Int32 × Int32)) (s : fqR) : fqtries n t ((e, w) :: r) s = fqtries n t r (fqtry n s t e w) := rfl
theorem fqrounds_s (n : Nat) (as : Nat → List (Int32 × Int32)) (d : Nat) (s : fqR) : fqrounds n as (d + 1) s = if 0 < s.1.2.1 then fqrounds n as d (fqnext n as s) else s := rfl
theorem fq_last {α : Type} (l : List α) (x : α) : (l ++ [x])[l.length]? = some x := by rw [List.getElem?_append_right (Nat.le_refl _), Nat.sub_self]; rfl
theorem fq_lastset {α : Type} (l : List α) (x y : α) : (l ++ [x]).set l.length y = l ++ [y] := by
  induction l with
  | nil => rfl
  | cons a l ih => exact congrArg (List.cons a) ih
/-- a number brought within 1 .. hi -/
def fqlim (x : Int32) (hi : Nat) : Nat := if x < 1 then 1 else if nI hi < x then hi else fqn x
def fqpos (x : Int32) : Int32 := if 0 < x then x else 0
theorem fqlim_eq (x : Int32) {hi : Nat} (h1 : 1 ≤ hi) (h2 : hi < 2 ^ 31) : (if 1 < (if nI hi < x then nI hi else x) then (if nI hi < x then nI hi else x) else 1) = nI (fqlim x hi) := by
  unfold fqlim
  by_cases h : x < 1
  · rw [if_pos h]
    have h3 : ¬ nI hi < x := fun q => by
      have h4 := Int32.lt_trans q h
      exact absurd h4 (Int32.not_lt.mpr (nI_le h1 h2))
    rw [if_neg h3, if_neg (fun q => Int32.lt_irrefl (Int32.lt_trans q h))]
    rfl
  · rw [if_neg h]
    by_cases h3 : nI hi < x
    · rw [if_pos h3, if_pos h3]
      by_cases h4 : 1 < nI hi
      · rw [if_pos h4]
      · rw [if_neg h4]
        have h5 : hi = 1 := by
          rcases Nat.eq_or_lt_of_le h1 with e | e
          · exact e.symm
          · exact absurd (show nI 1 < nI hi from nI_lt e h2) h4
        rw [h5]
        rfl
    · rw [if_neg h3, if_neg h3]
      have h0 : ¬ x < 0 := fun q => h (Int32.lt_trans q (by decide))
      by_cases h4 : 1 < x
      · rw [if_pos h4, nI_fqn h0]
      · rw [if_neg h4, nI_fqn h0]
        exact Int32.le_antisymm (Int32.not_lt.mp h) (Int32.not_lt.mp h4)
theorem fqlim_le (x : Int32) {hi : Nat} (h1 : 1 ≤ hi) (h2 : hi < 2 ^ 31) : 1 ≤ fqlim x hi ∧ fqlim x hi ≤ hi := by
  unfold fqlim
  by_cases h : x < 1
  · rw [if_pos h]; omega
  · rw [if_neg h]
    by_cases h3 : nI hi < x
    · rw [if_pos h3]; omega
    · rw [if_neg h3]
      have h0 : ¬ x < 0 := fun q => h (Int32.lt_trans q (by decide))
      obtain ⟨j, h4, rfl⟩ := nI_of h0
      rw [fqn_nI h4]
      constructor
      · rcases Nat.eq_zero_or_pos j with q | q
        · subst q; exact absurd (by decide) h
        · exact q
      · exact Nat.le_of_not_lt fun q => h3 (nI_lt q h4)
/-! THE REFERENCE AS PURE FUNCTIONS: (lowest, placings, calls, keys) -/
abbrev mqQ : Type := Int32 × Int32 × Int32 × (Nat → Int32)
theorem mq_sl : ∀ n, n < 32 → ((nI n &&& 31).toBitVec.smod 32).toNat = n := by decide +kernel
theorem mq_m1 (x : Int32) : x + Int32.ofInt (-1) = x - 1 := by rw [Int32.sub_eq_add_neg]; rfl
theorem mq_bit (z k : Nat) : fqbl (z % 2 ^ (k + 1)) = if z / 2 ^ k % 2 = 1 then k + 1 else fqbl (z % 2 ^ k) := by
  have e : z % 2 ^ (k + 1) = z % 2 ^ k + 2 ^ k * (z / 2 ^ k % 2) := by rw [Nat.pow_succ, Nat.mod_mul]
  have hlt : z % 2 ^ k < 2 ^ k := Nat.mod_lt _ (Nat.two_pow_pos k)
  by_cases h : z / 2 ^ k % 2 = 1
  · rw [if_pos h, e, h, Nat.mul_one]
    have h1 : fqbl (z % 2 ^ k + 2 ^ k) ≤ k + 1 := (fqbl_le _ _).mpr (by rw [Nat.pow_succ]; omega)
    have h2 : ¬ fqbl (z % 2 ^ k + 2 ^ k) ≤ k := fun q => by
      have := (fqbl_le _ _).mp q
      omega
    omega
  · rw [if_neg h, e, show z / 2 ^ k % 2 = 0 by omega, Nat.mul_zero, Nat.add_zero]
theorem mq_xbit (x y k : Nat) : (x ^^^ y) / 2 ^ k % 2 = 1 ↔ x / 2 ^ k % 2 ≠ y / 2 ^ k % 2 := by
  rw [Nat.xor_div_two_pow, Nat.xor_mod_two_eq_one]
  have h1 := Nat.mod_lt (x / 2 ^ k) (by decide : 2 > 0)
  have h2 := Nat.mod_lt (y / 2 ^ k) (by decide : 2 > 0)
  omega
theorem mq_and1 {k : Nat} (h : k < 2 ^ 31) : nI k &&& 1 = nI (k % 2) := pk_andN (by omega) (m := 1) 1 (by decide)
def mqcnt (p : Nat → Bool) : Nat → Nat → Int32 → Int32
  | 0, _, c => c
  | d + 1, i, c => mqcnt p d (i + 1) (c + if p i = true then 1 else 0)
theorem mqcnt_s (p : Nat → Bool) (d i : Nat) (c : Int32) : mqcnt p (d + 1) i c = mqcnt p d (i + 1) (c + if p i = true then 1 else 0) := rfl
def mqat (K : Nat → Int32) (lo b : Int32) (i : Nat) : Bool := decide (K i ≠ -1 ∧ nI (fqk (K i) lo) = b)
def mqhas (K : Nat → Int32) (i : Nat) : Bool := decide (K i ≠ -1)
def mqpush (n : Nat) (q : mqQ) (x key : Int32) : Int32 × mqQ := match fqat n x with
  | none => (-1, q)
  | some j => if q.2.2.2 j = -1 then (if key < q.1 then (-2, q) else (0, (q.1, q.2.1 + 1, q.2.2.1 + 1, upd q.2.2.2 j key))) else (-1, q)
def mqlower (n : Nat) (q : mqQ) (x key : Int32) : Int32 × mqQ := match fqat n x with
  | none => (-1, q)
  | some j => if q.2.2.2 j = -1 then (-1, q) else if key < q.1 then (-2, q) else if key ≤ q.2.2.2 j then (0, (q.1, q.2.1 + (if nI (fqk key q.1) = nI (fqk (q.2.2.2 j) q.1) then 0 else 1), q.2.2.1 + 1, upd q.2.2.2 j key)) else (-2, q)
def mqbest (K : Nat → Int32) : Nat → Option Nat → Option Nat
  | 0, a => a
  | d + 1, a => mqbest K d (match a with | none => (if K d ≠ -1 then some d else none) | some j => (if K d ≠ -1 ∧ K d ≤ K j then some d else some j))
theorem mqbest_none {K : Nat → Int32} (d : Nat) : mqbest K (d + 1) none = mqbest K d (if K d ≠ -1 then some d else none) := rfl
theorem mqbest_some {K : Nat → Int32} (d j : Nat) : mqbest K (d + 1) (some j) = mqbest K d (if K d ≠ -1 ∧ K d ≤ K j then some d else some j) := rfl
theorem mqbest_in {K : Nat → Int32} : ∀ (d : Nat) (a : Option Nat) (j : Nat), mqbest K d a = some j → a = some j ∨ (j < d ∧ K j ≠ -1) := by
  intro d
  induction d with
  | zero => exact fun a j h => Or.inl h
  | succ d ih =>
    intro a j h
    cases a with
    | none =>
      rw [mqbest_none] at h
      rcases ih _ j h with h1 | ⟨h1, h2⟩
      · split at h1
        · rename_i h3; cases h1; exact Or.inr ⟨by omega, h3⟩
        · cases h1
      · exact Or.inr ⟨by omega, h2⟩
    | some j' =>
      rw [mqbest_some] at h
      rcases ih _ j h with h1 | ⟨h1, h2⟩
      · split at h1
        · rename_i h3; cases h1; exact Or.inr ⟨by omega, h3.1⟩
        · exact Or.inl h1
      · exact Or.inr ⟨by omega, h2⟩
def mqpop (n : Nat) (q : mqQ) : Int32 × mqQ := match mqbest q.2.2.2 n none with
  | none => (-1, q)
  | some j => (nI j, if nI (fqk (q.2.2.2 j) q.1) ≤ 0 then (q.1, q.2.1, q.2.2.1, upd q.2.2.2 j (-1)) else (q.2.2.2 j, mqcnt (mqat q.2.2.2 q.1 (nI (fqk (q.2.2.2 j) q.1))) n 0 q.2.1, q.2.2.1, upd q.2.2.2 j (-1)))
def mqmany (n : Nat) (q : mqQ) (x : Int32) : Int32 := if x < 0 then -1 else if x ≤ 31 then mqcnt (mqat q.2.2.2 q.1 x) n 0 0 else -1
/-- what the walks need -/
def mqS (n : Nat) (q : mqQ) : Prop := ¬ q.1 < 0 ∧ ∀ j, j < n → q.2.2.2 j ≠ -1 → ¬ q.2.2.2 j < 0
/-- the net: lengths .. as rows of 300; ac of them; the ends are items -/
def mqnet (n ac : Nat) (F T : Nat → Int32) : Prop := ∀ k, k < ac → (∃ u, u < n ∧ F k = nI u) ∧ ∃ v, v < n ∧ T k = nI v
/-- queue, ways, formers, taken -/
abbrev mqR : Type := mqQ × (Nat → Int32) × (Nat → Int32) × (Nat → Int32)
def mqreach (n : Nat) (s : mqR) (u v : Nat) (w : Int32) : mqR :=
  if s.2.2.2 v = 0 then
    (if 2147483647 < (s.2.1 u).toInt64 + w.toInt64 then s
     else if s.1.2.2.2 v = -1 then ((mqpush n s.1 (nI v) ((s.2.1 u).toInt64 + w.toInt64).toInt32).2, s.2.1, upd s.2.2.1 v (nI u), s.2.2.2)
     else if (s.2.1 u).toInt64 + w.toInt64 < (s.1.2.2.2 v).toInt64 then ((mqlower n s.1 (nI v) ((s.2.1 u).toInt64 + w.toInt64).toInt32).2, s.2.1, upd s.2.2.1 v (nI u), s.2.2.2)
     else s)
  else s
def mqsweep (n : Nat) (F T Ln : Nat → Int32) (u : Nat) : Nat → mqR → mqR
  | 0, s => s
  | d + 1, s => mqsweep n F T Ln u d (if F d = nI u then mqreach n s u (fqn (T d)) (Ln d) else s)
theorem mqsweep_s (n : Nat) (F T Ln : Nat → Int32) (u d : Nat) (s : mqR) : mqsweep n F T Ln u (d + 1) s = mqsweep n F T Ln u d (if F d = nI u then mqreach n s u (fqn (T d)) (Ln d) else s) := rfl
def mqleast (K : Nat → Int32) : Nat → Nat → Int32 → Int32
  | 0, _, a => a
  | d + 1, i, a => mqleast K d (i + 1) (if K i ≠ -1 ∧ K i < a then K i else a)
theorem mqleast_s (K : Nat → Int32) (d i : Nat) (a : Int32) : mqleast K (d + 1) i a = mqleast K d (i + 1) (if K i ≠ -1 ∧ K i < a then K i else a) := rfl
def mqnext (n : Nat) (F T Ln : Nat → Int32) (ac : Nat) (s : mqR) : mqR := mqsweep n F T Ln (fqn (mqpop n s.1).1) ac ((mqpop n s.1).2, upd s.2.1 (fqn (mqpop n s.1).1) (mqleast s.1.2.2.2 n 0 2147483647), s.2.2.1, upd s.2.2.2 (fqn (mqpop n s.1).1) 1)
def mqloop (n : Nat) (F T Ln : Nat → Int32) (ac : Nat) : Nat → mqR → mqR
  | 0, s => s
  | d + 1, s => if 0 < mqcnt (mqhas s.1.2.2.2) n 0 0 then mqloop n F T Ln ac d (mqnext n F T Ln ac s) else s
theorem mqloop_s (n : Nat) (F T Ln : Nat → Int32) (ac d : Nat) (s : mqR) : mqloop n F T Ln ac (d + 1) s = if 0 < mqcnt (mqhas s.1.2.2.2) n 0 0 then mqloop n F T Ln ac d (mqnext n F T Ln ac s) else s := rfl
def mqnear1 (F T : Nat → Int32) : Nat → Nat → (Nat → Int32) → Nat → Int32
  | 0, _, N => N
  | d + 1, i, N => mqnear1 F T d (i + 1) (upd N (fqn (T i)) (if N (fqn (T i)) = 0 ∧ N (fqn (F i)) = 0 then 0 else 1))
theorem mqnear1_s (F T : Nat → Int32) (d i : Nat) (N : Nat → Int32) : mqnear1 F T (d + 1) i N = mqnear1 F T d (i + 1) (upd N (fqn (T i)) (if N (fqn (T i)) = 0 ∧ N (fqn (F i)) = 0 then 0 else 1)) := rfl
def mqnear (F T : Nat → Int32) (ac : Nat) : Nat → (Nat → Int32) → Nat → Int32
  | 0, N => N
  | d + 1, N => mqnear F T ac d (mqnear1 F T ac 0 N)
theorem mqnear_s (F T : Nat → Int32) (ac d : Nat) (N : Nat → Int32) : mqnear F T ac (d + 1) N = mqnear F T ac d (mqnear1 F T ac 0 N) := rfl
def mqstart (j : Nat) (N : Nat → Int32) : Nat → Int32 := fun k => if k < 40 then (if k = j then 1 else 0) else N k
def mqspread (n : Nat) (F T : Nat → Int32) (ac j : Nat) (N : Nat → Int32) : Nat → Int32 := mqnear F T ac n (mqstart j N)
def mqok (Tk N : Nat → Int32) : Nat → Nat → Int32 → Int32
  | 0, _, h => h
  | d + 1, i, h => mqok Tk N d (i + 1) (if h = 0 then 0 else if Tk i = 0 then (if N i = 0 then 1 else 0) else 1)
theorem mqok_s (Tk N : Nat → Int32) (d i : Nat) (h : Int32) : mqok Tk N (d + 1) i h = mqok Tk N d (i + 1) (if h = 0 then 0 else if Tk i = 0 then (if N i = 0 then 1 else 0) else 1) := rfl
def mqclear (q : mqQ) : mqQ := (0, q.2.1, q.2.2.1, fqfill 40 (-1) q.2.2.2)
/-- the whole: the net's part, near, hasWays -/
abbrev mqX : Type := mqR × (Nat → Int32) × Int32
def mqfin (n : Nat) (F T : Nat → Int32) (ac j : Nat) (r : mqR) (N : Nat → Int32) : Int32 × mqX := (if mqok r.2.2.2 (mqspread n F T ac j N) n 0 1 = 0 then -2 else 0, (r, mqspread n F T ac j N, mqok r.2.2.2 (mqspread n F T ac j N) n 0 1))
def mqrun (n : Nat) (F T Ln : Nat → Int32) (ac : Nat) (s : mqX) (x : Int32) : Int32 × mqX := match fqat n x with
  | none => (-1, s)
  | some j => mqfin n F T ac j (mqloop n F T Ln ac (n + 1) ((mqpush n (mqclear s.1.1) (nI j) 0).2, s.1.2.1, fqfill 40 (-1) s.1.2.2.1, fqfill 40 0 s.1.2.2.2)) s.2.1
def mqdist (n : Nat) (hw : Int32) (Tk W : Nat → Int32) (x : Int32) : Int32 := if hw = 0 then -1 else match fqat n x with
  | none => -1
  | some j => if Tk j = 0 then -1 else W j
theorem fq_fills {i : Nat} {v : Int32} {f : Nat → Int32} : upd (fun j => if j < i then v else f j) i v = (fun j => if j < i + 1 then v else f j) := by
  funext j
  show (if j = i then v else if j < i then v else f j) = if j < i + 1 then v else f j
  by_cases h2 : j = i
  · subst h2; simp
  · by_cases h3 : j < i
    · rw [if_neg h2, if_pos h3, if_pos (by omega)]
    · rw [if_neg h2, if_neg h3, if_neg (by omega)]
theorem fq_fill0 {v : Int32} {f : Nat → Int32} : (fun j => if j < 0 then v else f j) = f := by funext j; simp
def mqarc (n ar : Nat) (gl : Int32) (s : Nat × Int32 × (Nat → Int32) × (Nat → Int32) × (Nat → Int32)) (xu xv w : Int32) : Int32 × (Nat × Int32 × (Nat → Int32) × (Nat → Int32) × (Nat → Int32)) :=
  if fqarcR n (nI ar) gl (nI s.1) xu xv w = 0 then (0, (s.1 + 1, 0, upd s.2.2.1 s.1 xu, upd s.2.2.2.1 s.1 xv, upd s.2.2.2.2 s.1 w)) else (fqarcR n (nI ar) gl (nI s.1) xu xv w, s)
/-- counts as numbers -/
def fqfwd (p : Nat → Bool) : Nat → Nat → Nat
  | 0, _ => 0
  | d + 1, i => (if p i = true then 1 else 0) + fqfwd p d (i + 1)
theorem fqfwd_eq (p : Nat → Bool) : ∀ d i, fqcnt p (d + i) = fqcnt p i + fqfwd p d i := by
  intro d
  induction d with
  | zero => intro i; rw [Nat.zero_add]; rfl
  | succ d ih =>
    intro i
    have h := ih (i + 1)
    rw [show d + 1 + i = d + (i + 1) by omega, h]
    show fqcnt p i + (if p i = true then 1 else 0) + fqfwd p d (i + 1) = fqcnt p i + ((if p i = true then 1 else 0) + fqfwd p d (i + 1))
    omega
theorem mqcnt_eq (p : Nat → Bool) : ∀ d i (c : Int32), mqcnt p d i c = c + nI (fqfwd p d i) := by
  intro d
  induction d with
  | zero => intro i c; show c = c + nI 0; rw [nI_0, Int32.add_zero]
  | succ d ih =>
    intro i c
    rw [mqcnt_s, ih, Int32.add_assoc]
    show _ = c + nI ((if p i = true then 1 else 0) + fqfwd p d (i + 1))
    rw [← nI_add]
    congr 2
    split <;> rfl
theorem mqcnt_n (p : Nat → Bool) (n : Nat) (c : Int32) : mqcnt p n 0 c = c + nI (fqcnt p n) := by
  rw [mqcnt_eq]
  have h := fqfwd_eq p n 0
  rw [Nat.add_zero] at h
  rw [h]
  show c + nI _ = c + nI (0 + _)
  rw [Nat.zero_add]
theorem mqbest_no {K : Nat → Int32} : ∀ (d : Nat) (a : Option Nat), mqbest K d a = none → a = none ∧ ∀ j, j < d → K j = -1 := by
  intro d
  induction d with
  | zero => exact fun a h => ⟨h, fun j hj => by omega⟩
  | succ d ih =>
    intro a h
    cases a with
    | none =>
      rw [mqbest_none] at h
      obtain ⟨h1, h2⟩ := ih _ h
      split at h1
      · cases h1
      · rename_i h3
        refine ⟨rfl, fun j hj => ?_⟩
        rcases Nat.lt_or_ge j d with q | q
        · exact h2 j q
        · rw [show j = d by omega]; exact Classical.not_not.mp h3
    | some j =>
      rw [mqbest_some] at h
      have h1 := (ih _ h).1
      split at h1 <;> cases h1
theorem mqbest_yes {K : Nat → Int32} {n : Nat} (h : 0 < mqcnt (mqhas K) n 0 0) : ∃ j, mqbest K n none = some j := by
  cases e : mqbest K n none with
  | some j => exact ⟨j, rfl⟩
  | none =>
    have h1 := (mqbest_no n none e).2
    rw [mqcnt_n, fqcnt_0 (fun i hi => by simp [mqhas, h1 i hi])] at h
    exact absurd h (by decide)
theorem mqpop_some {n : Nat} {q : mqQ} (h : 0 < mqcnt (mqhas q.2.2.2) n 0 0) : ∃ j, j < n ∧ q.2.2.2 j ≠ -1 ∧ (mqpop n q).1 = nI j ∧ (mqpop n q).2.2.2.2 = upd q.2.2.2 j (-1) := by
  obtain ⟨j, e⟩ := mqbest_yes h
  obtain ⟨h1, h2⟩ := (mqbest_in n none j e).resolve_left (fun h => by cases h)
  refine ⟨j, h1, h2, ?_, ?_⟩
  · unfold mqpop; rw [e]
  · unfold mqpop; rw [e]
    dsimp only
    split <;> rfl
theorem mqpush_S {n : Nat} {q : mqQ} {x key : Int32} (h : mqS n q) : mqS n (mqpush n q x key).2 := by
  unfold mqpush
  cases fqat n x with
  | none => exact h
  | some j =>
    dsimp only
    split
    · split
      · exact h
      · rename_i h1 h2
        refine ⟨h.1, fun i hi h3 => ?_⟩
        show ¬ upd q.2.2.2 j key i < 0
        have h3 : upd q.2.2.2 j key i ≠ -1 := h3
        unfold upd at h3 ⊢
        split
        · exact fq_le0 h2 h.1
        · rename_i h4
          rw [if_neg h4] at h3
          exact h.2 i hi h3
    · exact h
theorem mqlower_S {n : Nat} {q : mqQ} {x key : Int32} (h : mqS n q) : mqS n (mqlower n q x key).2 := by
  unfold mqlower
  cases fqat n x with
  | none => exact h
  | some j =>
    dsimp only
    split
    · exact h
    · split
      · exact h
      · rename_i h1 h2
        split
        · refine ⟨h.1, fun i hi h3 => ?_⟩
          show ¬ upd q.2.2.2 j key i < 0
          have h3 : upd q.2.2.2 j key i ≠ -1 := h3
          unfold upd at h3 ⊢
          split
          · exact fq_le0 h2 h.1
          · rename_i h4
            rw [if_neg h4] at h3
            exact h.2 i hi h3
        · exact h
theorem mqpop_S {n : Nat} {q : mqQ} (h : mqS n q) : mqS n (mqpop n q).2 := by
  unfold mqpop
  cases e : mqbest q.2.2.2 n none with
  | none => exact h
  | some j =>
    obtain ⟨h1, h2⟩ := (mqbest_in n none j e).resolve_left (fun h => by cases h)
    have hk : ∀ i, i < n → upd q.2.2.2 j (-1) i ≠ -1 → ¬ upd q.2.2.2 j (-1) i < 0 := by
      intro i hi h3
      unfold upd at h3 ⊢
      split
      · rename_i h4; rw [if_pos h4] at h3; exact absurd rfl h3
      · rename_i h4; rw [if_neg h4] at h3; exact h.2 i hi h3
    dsimp only
    split
    · exact ⟨h.1, hk⟩
    · exact ⟨h.2 j h1 h2, hk⟩
theorem mqclear_S {n : Nat} (hn : n ≤ 40) (q : mqQ) : mqS n (mqclear q) := ⟨(by decide : ¬ (0 : Int32) < 0), fun j hj h => absurd (if_pos (by omega)) h⟩
/-- the net's invariant in run: there, so not taken -/
def mqT (n : Nat) (s : mqR) : Prop := mqS n s.1 ∧ ∀ i, i < n → s.1.2.2.2 i ≠ -1 → s.2.2.2 i = 0
theorem mqpush_K {n : Nat} {q : mqQ} {x key : Int32} {i : Nat} (h : (mqpush n q x key).2.2.2.2 i ≠ -1) : q.2.2.2 i ≠ -1 ∨ x = nI i := by
  unfold mqpush at h
  cases e : fqat n x with
  | none => rw [e] at h; exact Or.inl h
  | some j =>
    rw [e] at h
    dsimp only at h
    split at h
    · split at h
      · exact Or.inl h
      · by_cases e1 : i = j
        · subst e1; exact Or.inr (fqat_lt e).2
        · have h : upd q.2.2.2 j key i ≠ -1 := h
          rw [pk_un e1] at h
          exact Or.inl h
    · exact Or.inl h
theorem mqlower_K {n : Nat} {q : mqQ} {x key : Int32} {i : Nat} (h : (mqlower n q x key).2.2.2.2 i ≠ -1) : q.2.2.2 i ≠ -1 ∨ x = nI i := by
  unfold mqlower at h
  cases e : fqat n x with
  | none => rw [e] at h; exact Or.inl h
  | some j =>
    rw [e] at h
    dsimp only at h
    split at h
    · exact Or.inl h
    · split at h
      · exact Or.inl h
      · split at h
        · by_cases e1 : i = j
          · subst e1; exact Or.inr (fqat_lt e).2
          · have h : upd q.2.2.2 j key i ≠ -1 := h
            rw [pk_un e1] at h
            exact Or.inl h
        · exact Or.inl h
theorem mqreach_T {n : Nat} {s : mqR} {u v : Nat} {w : Int32} (hn : n ≤ 40) (hv : v < n) (h : mqT n s) : mqT n (mqreach n s u v w) ∧ (mqreach n s u v w).2.2.2 = s.2.2.2 := by
  unfold mqreach
  split
  · rename_i h0
    split
    · exact ⟨h, rfl⟩
    · split
      · refine ⟨⟨mqpush_S h.1, fun i hi h3 => ?_⟩, rfl⟩
        rcases mqpush_K h3 with h4 | h4
        · exact h.2 i hi h4
        · rw [← (nI_eq (by omega) (by omega)).mp h4]; exact h0
      · split
        · refine ⟨⟨mqlower_S h.1, fun i hi h3 => ?_⟩, rfl⟩
          rcases mqlower_K h3 with h4 | h4
          · exact h.2 i hi h4
          · rw [← (nI_eq (by omega) (by omega)).mp h4]; exact h0
        · exact ⟨h, rfl⟩
  · exact ⟨h, rfl⟩
theorem mqsweep_T {n : Nat} {F T Ln : Nat → Int32} {u ac : Nat} (hn : n ≤ 40) (hnet : mqnet n ac F T) : ∀ (d : Nat) (s : mqR), d ≤ ac → mqT n s → mqT n (mqsweep n F T Ln u d s) ∧ (mqsweep n F T Ln u d s).2.2.2 = s.2.2.2 := by
  intro d
  induction d with
  | zero => exact fun s _ h => ⟨h, rfl⟩
  | succ d ih =>
    intro s hd h
    rw [mqsweep_s]
    split
    · obtain ⟨v, hv, e⟩ := (hnet d (by omega)).2
      have h1 := mqreach_T (u := u) (w := Ln d) hn hv h
      rw [e, fqn_nI (by omega)]
      obtain ⟨a, b⟩ := ih _ (by omega) h1.1
      exact ⟨a, b.trans h1.2⟩
    · exact ih s (by omega) h
def mqmu (n : Nat) (s : mqR) : Nat := fqcnt (fun i => decide (s.2.2.2 i = 0)) n
theorem mqpop_T {n : Nat} {s : mqR} {j : Nat} (h : mqT n s) (hn : n ≤ 40) (hj : j < n) (hk : s.1.2.2.2 j ≠ -1) (e2 : (mqpop n s.1).2.2.2.2 = upd s.1.2.2.2 j (-1)) {W0 : Nat → Int32} : mqT n ((mqpop n s.1).2, W0, s.2.2.1, upd s.2.2.2 j 1) := by
  refine ⟨mqpop_S h.1, fun i hi h3 => ?_⟩
  have h3 : (mqpop n s.1).2.2.2.2 i ≠ -1 := h3
  rw [e2] at h3
  show upd s.2.2.2 j 1 i = 0
  by_cases e : i = j
  · subst e; rw [pk_us] at h3; exact absurd rfl h3
  · rw [pk_un e] at h3 ⊢
    exact h.2 i hi h3
theorem mqnext_T {n : Nat} {F T Ln : Nat → Int32} {ac : Nat} {s : mqR} (hn : n ≤ 40) (hnet : mqnet n ac F T) (h : mqT n s) (h0 : 0 < mqcnt (mqhas s.1.2.2.2) n 0 0) : mqT n (mqnext n F T Ln ac s) ∧ mqmu n (mqnext n F T Ln ac s) < mqmu n s := by
  obtain ⟨j, hj, hk, e1, e2⟩ := mqpop_some h0
  unfold mqnext
  rw [e1, fqn_nI (by omega)]
  have h1 := mqpop_T (W0 := upd s.2.1 j (mqleast s.1.2.2.2 n 0 2147483647)) h hn hj hk e2
  obtain ⟨a, b⟩ := mqsweep_T (Ln := Ln) (u := j) hn hnet ac _ (Nat.le_refl _) h1
  refine ⟨a, ?_⟩
  unfold mqmu
  rw [b]
  show fqcnt (fun i => decide (upd s.2.2.2 j 1 i = 0)) n < fqcnt (fun i => decide (s.2.2.2 i = 0)) n
  have h2 := h.2 j hj hk
  have h3 := fqcnt_on (p := fun i => decide (upd s.2.2.2 j 1 i = 0)) (q := fun i => decide (s.2.2.2 i = 0)) hj (by rw [pk_us]; decide) (by simp [h2]) (fun i _ hi => by rw [pk_un hi])
  omega
