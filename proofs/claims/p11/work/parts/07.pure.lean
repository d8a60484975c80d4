/-! BIT LENGTHS AND BUCKETS: pure rows -/
def fqbl (x : Nat) : Nat := if x = 0 then 0 else x.log2 + 1
theorem fqbl_le (x k : Nat) : fqbl x ≤ k ↔ x < 2 ^ k := by
  unfold fqbl
  by_cases h : x = 0
  · subst h
    simp [Nat.two_pow_pos]
  · rw [if_neg h, ← Nat.log2_lt h]
    omega
theorem fqbl_0 : fqbl 0 = 0 := rfl
theorem fq_xor0 {a b : Nat} (h : a ^^^ b = 0) : a = b := by
  apply Nat.eq_of_testBit_eq
  intro i
  have h1 : (a ^^^ b).testBit i = false := by rw [h]; exact Nat.zero_testBit i
  rw [Nat.testBit_xor] at h1
  cases ha : a.testBit i <;> cases hb : b.testBit i <;> simp_all
/-- the bucket is at most k: the bits from k on are the floor's -/
theorem fqbx_le (a f k : Nat) : fqbl (a ^^^ f) ≤ k ↔ a / 2 ^ k = f / 2 ^ k := by
  rw [fqbl_le]
  constructor
  · intro h
    have h1 : (a ^^^ f) / 2 ^ k = 0 := Nat.div_eq_of_lt h
    rw [Nat.xor_div_two_pow] at h1
    exact fq_xor0 h1
  · intro h
    have h1 : (a ^^^ f) / 2 ^ k = 0 := by rw [Nat.xor_div_two_pow, h, Nat.xor_self]
    exact (Nat.div_eq_zero_iff_lt (Nat.two_pow_pos k)).mp h1
theorem fqbx_0 (a f : Nat) : fqbl (a ^^^ f) = 0 ↔ a = f := by
  have h := fqbx_le a f 0
  simp at h
  omega
theorem fqbx_31 {a f : Nat} (ha : a < 2 ^ 31) (hf : f < 2 ^ 31) : fqbl (a ^^^ f) ≤ 31 := (fqbl_le _ _).mpr (Nat.xor_lt_two_pow ha hf)
/-- a lower bucket has lower keys -/
theorem fqbx_lt {a b f : Nat} (hb : f ≤ b) (h : fqbl (a ^^^ f) < fqbl (b ^^^ f)) : a < b := by
  have h1 := (fqbx_le a f (fqbl (a ^^^ f))).mp (Nat.le_refl _)
  have h2 : ¬ b / 2 ^ fqbl (a ^^^ f) = f / 2 ^ fqbl (a ^^^ f) := fun q => by
    have := (fqbx_le b f (fqbl (a ^^^ f))).mpr q
    omega
  have h3 : f / 2 ^ fqbl (a ^^^ f) ≤ b / 2 ^ fqbl (a ^^^ f) := Nat.div_le_div_right hb
  rcases Nat.lt_or_ge a b with q | q
  · exact q
  · have := Nat.div_le_div_right (c := 2 ^ fqbl (a ^^^ f)) q
    omega
theorem fqdiv_up {a f j k : Nat} (h : j ≤ k) (e : a / 2 ^ j = f / 2 ^ j) : a / 2 ^ k = f / 2 ^ k := by
  have h1 : 2 ^ k = 2 ^ j * 2 ^ (k - j) := by rw [← Nat.pow_add]; congr 1; omega
  rw [h1, ← Nat.div_div_eq_div_mul, ← Nat.div_div_eq_div_mul, e]
/-- the new floor lies in bucket b0 of the old one: a key in a higher bucket stays where it is -/
theorem fqbx_stay {k f g : Nat} (h : fqbl (g ^^^ f) < fqbl (k ^^^ f)) : fqbl (k ^^^ g) = fqbl (k ^^^ f) := by
  have hg := (fqbx_le g f (fqbl (g ^^^ f))).mp (Nat.le_refl _)
  have key : ∀ j, fqbl (k ^^^ g) ≤ j ↔ fqbl (k ^^^ f) ≤ j := by
    intro j
    rcases Nat.lt_or_ge j (fqbl (g ^^^ f)) with q | q
    · constructor
      · intro h1
        have h2 := fqdiv_up (Nat.le_of_lt q) ((fqbx_le k g j).mp h1)
        have h3 := (fqbx_le k f (fqbl (g ^^^ f))).mpr (h2.trans hg)
        omega
      · intro h1
        omega
    · rw [fqbx_le, fqbx_le, fqdiv_up q hg]
  have h1 := (key (fqbl (k ^^^ f))).mpr (Nat.le_refl _)
  have h2 := (key (fqbl (k ^^^ g))).mp (Nat.le_refl _)
  omega
/-- keys of the new floor's own bucket fall -/
theorem fqbx_fall {k f g b : Nat} (hg : f ≤ g) (hk : g ≤ k) (eg : fqbl (g ^^^ f) = b) (ek : fqbl (k ^^^ f) = b) (hb : 0 < b) : fqbl (k ^^^ g) < b := by
  obtain ⟨d, rfl⟩ : ∃ d, b = d + 1 := ⟨b - 1, by omega⟩
  have g1 := (fqbx_le g f (d + 1)).mp (by omega)
  have k1 := (fqbx_le k f (d + 1)).mp (by omega)
  have g2 : ¬ g / 2 ^ d = f / 2 ^ d := fun q => by have := (fqbx_le g f d).mpr q; omega
  have k2 : ¬ k / 2 ^ d = f / 2 ^ d := fun q => by have := (fqbx_le k f d).mpr q; omega
  have e : 2 ^ (d + 1) = 2 ^ d * 2 := Nat.pow_succ ..
  rw [e, ← Nat.div_div_eq_div_mul, ← Nat.div_div_eq_div_mul] at g1 k1
  have g3 : f / 2 ^ d ≤ g / 2 ^ d := Nat.div_le_div_right hg
  have k3 : f / 2 ^ d ≤ k / 2 ^ d := Nat.div_le_div_right (Nat.le_trans hg hk)
  have : k / 2 ^ d = g / 2 ^ d := by omega
  have := (fqbx_le k g d).mpr this
  omega
/-- a key that falls, but not below the floor: its bucket doesn't rise -/
theorem fqbx_mono {a b f : Nat} (ha : f ≤ a) (h : a ≤ b) : fqbl (a ^^^ f) ≤ fqbl (b ^^^ f) := by
  rcases Nat.lt_or_ge (fqbl (b ^^^ f)) (fqbl (a ^^^ f)) with q | q
  · have := fqbx_lt ha q
    omega
  · exact q
theorem fqbl_shift {x s : Nat} (h : 2 ^ s ≤ x) : fqbl x = fqbl (x / 2 ^ s) + s := by
  have key : ∀ j, fqbl x ≤ j + s ↔ fqbl (x / 2 ^ s) ≤ j := by
    intro j
    rw [fqbl_le, fqbl_le, Nat.pow_add, Nat.div_lt_iff_lt_mul (Nat.two_pow_pos s)]
  have hs : s < fqbl x := by
    rcases Nat.lt_or_ge s (fqbl x) with q | q
    · exact q
    · have := (fqbl_le x s).mp q
      omega
  have h1 := (key (fqbl (x / 2 ^ s))).mpr (Nat.le_refl _)
  have h2 := (key (fqbl x - s)).mp (by omega)
  omega
theorem fqbl_3 {x : Nat} (h0 : 0 < x) (h : x < 4) : fqbl x = 1 + x / 2 := by
  rcases (show x = 1 ∨ x = 2 ∨ x = 3 by omega) with rfl | rfl | rfl <;> decide
/-! COUNTS -/
def fqcnt (p : Nat → Bool) : Nat → Nat
  | 0 => 0
  | n + 1 => fqcnt p n + (if p n = true then 1 else 0)
theorem fqcnt_le (p : Nat → Bool) (n : Nat) : fqcnt p n ≤ n := by
  induction n with
  | zero => exact Nat.le_refl _
  | succ n ih =>
    unfold fqcnt
    split <;> omega
theorem fqcnt_eq {p q : Nat → Bool} {n : Nat} (h : ∀ i, i < n → p i = q i) : fqcnt p n = fqcnt q n := by
  induction n with
  | zero => rfl
  | succ n ih =>
    unfold fqcnt
    rw [ih (fun i hi => h i (by omega)), h n (by omega)]
theorem fqcnt_on {p q : Nat → Bool} {n j : Nat} (hj : j < n) (h0 : p j = false) (h1 : q j = true) (h : ∀ i, i < n → i ≠ j → p i = q i) : fqcnt q n = fqcnt p n + 1 := by
  induction n with
  | zero => omega
  | succ n ih =>
    unfold fqcnt
    rcases Nat.lt_or_ge j n with q1 | q1
    · rw [ih q1 (fun i hi => h i (by omega)), h n (by omega) (by omega)]
      omega
    · have e : j = n := by omega
      subst e
      rw [fqcnt_eq (p := p) (q := q) (fun i hi => h i (by omega) (by omega)), h0, h1]
      simp
theorem fqcnt_0 {p : Nat → Bool} {n : Nat} (h : ∀ i, i < n → p i = false) : fqcnt p n = 0 := by
  induction n with
  | zero => rfl
  | succ n ih =>
    unfold fqcnt
    rw [ih (fun i hi => h i (by omega)), h n (by omega)]
    simp
theorem fqcnt_pos {p : Nat → Bool} {n j : Nat} (hj : j < n) (h : p j = true) : 0 < fqcnt p n := by
  induction n with
  | zero => omega
  | succ n ih =>
    unfold fqcnt
    rcases Nat.lt_or_ge j n with q1 | q1
    · have := ih q1
      omega
    · have e : j = n := by omega
      subst e
      rw [h]
      simp
theorem fqcnt_ex {p : Nat → Bool} {n : Nat} (h : 0 < fqcnt p n) : ∃ j, j < n ∧ p j = true := by
  induction n with
  | zero => exact absurd h (Nat.lt_irrefl 0)
  | succ n ih =>
    unfold fqcnt at h
    by_cases q : p n = true
    · exact ⟨n, by omega, q⟩
    · rw [if_neg q] at h
      obtain ⟨j, h1, h2⟩ := ih h
      exact ⟨j, by omega, h2⟩
theorem nx_xor (a b : Nat) : nI a ^^^ nI b = nI (a ^^^ b) := by
  apply Int32.toBitVec_inj.1
  show BitVec.ofNat 32 a ^^^ BitVec.ofNat 32 b = BitVec.ofNat 32 (a ^^^ b)
  apply BitVec.eq_of_getLsbD_eq
  intro i hi
  simp [hi]
/-! THE CLASS AS PURE FUNCTIONS: the queue's part of the object: (floorKey, present, placings, keyings, keys, buckets, members) -/
abbrev fqQ : Type := Int32 × Int32 × Int32 × Int32 × (Nat → Int32) × (Nat → Int32) × (Nat → Int32)
def fqn (x : Int32) : Nat := x.toNatClampNeg
theorem fqn_nI {k : Nat} (h : k < 2 ^ 31) : fqn (nI k) = k := nI_clamp h
theorem fqn_lt (x : Int32) : fqn x < 2 ^ 31 := by
  have h1 := Int32.toInt_lt x
  show x.toInt.toNat < 2 ^ 31
  omega
theorem nI_fqn {x : Int32} (h : ¬ x < 0) : nI (fqn x) = x := by
  obtain ⟨j, h1, rfl⟩ := nI_of h
  rw [fqn_nI h1]
/-- the bucket of a key under a floor -/
def fqk (x f : Int32) : Nat := fqbl (fqn x ^^^ fqn f)
theorem fqk_lt (x f : Int32) : fqk x f < 32 := by
  have := fqbx_31 (fqn_lt x) (fqn_lt f)
  unfold fqk
  omega
def fqfill (n : Nat) (v : Int32) (f : Nat → Int32) : Nat → Int32 := fun j => if j < n then v else f j
def fqleave (q : fqQ) (j : Nat) : fqQ := match q with
  | (fl, pr, pg, ky, K, B, M) => if B j = -1 then (fl, pr, pg, ky, K, B, M) else (fl, pr, pg, ky, K, upd B j (-1), upd M (fqn (B j)) (M (fqn (B j)) - 1))
def fqput (q : fqQ) (j : Nat) : fqQ := match fqleave q j with
  | (fl, pr, pg, ky, K, B, M) => (fl, pr, pg + 1, ky, K, upd B j (nI (fqk (K j) fl)), upd M (fqk (K j) fl) (M (fqk (K j) fl) + 1))
def fqtake (q : fqQ) (j : Nat) : fqQ := match fqleave q j with
  | (fl, pr, pg, ky, K, B, M) => (fl, pr - 1, pg, ky, K, B, M)
def fqlow (M : Nat → Int32) : Nat → Nat → Option Nat
  | 0, _ => none
  | d + 1, i => if 0 < M i then some i else fqlow M d (i + 1)
def fqbest (K B : Nat → Int32) (b : Int32) : Nat → Nat → Option Nat → Option Nat
  | 0, _, a => a
  | d + 1, i, a => fqbest K B b d (i + 1) (match a with | none => (if B i ≠ -1 ∧ B i = b then some i else none) | some j => (if B i ≠ -1 ∧ B i = b ∧ K i < K j then some i else some j))
def fqspread (b : Int32) : Nat → Nat → fqQ → fqQ
  | 0, _, q => q
  | d + 1, i, q => fqspread b d (i + 1) (if q.2.2.2.2.2.1 i = b then fqput q i else q)
