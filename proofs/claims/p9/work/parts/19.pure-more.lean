/-! MORE PURE ROWS ON THE REFERENCE -/
theorem mq_starts {i j : Nat} {v : Int32} {N : Nat → Int32} (hv : v = if i = j then 1 else 0) : upd (fun k => if k < i then (if k = j then 1 else 0) else N k) i v = (fun k => if k < i + 1 then (if k = j then 1 else 0) else N k) := by
  funext k
  show (if k = i then v else if k < i then (if k = j then 1 else 0) else N k) = if k < i + 1 then (if k = j then 1 else 0) else N k
  by_cases h2 : k = i
  · subst h2
    rw [if_pos rfl, if_pos (show k < k + 1 by omega), hv]
  · by_cases h3 : k < i
    · rw [if_neg h2, if_pos h3, if_pos (show k < i + 1 by omega)]
    · rw [if_neg h2, if_neg h3, if_neg (show ¬ k < i + 1 by omega)]
theorem mq_start0 {j : Nat} {N : Nat → Int32} : (fun k => if k < 0 then (if k = j then (1 : Int32) else 0) else N k) = N := by funext k; simp
theorem mqstart_T {n : Nat} {q : mqQ} {x key : Int32} {W0 Fo Tk : Nat → Int32} (hn : n ≤ 40) (h : mqS n q) : mqT n ((mqpush n q x key).2, W0, Fo, fqfill 40 0 Tk) := ⟨mqpush_S h, fun i hi _ => if_pos (by omega)⟩
theorem mqmu_le (n : Nat) (s : mqR) : mqmu n s < n + 1 := Nat.lt_succ_of_le (fqcnt_le _ _)
theorem fqpos_neg {x : Int32} (h : ¬ 0 ≤ x) : (0 : Int32) = fqpos x := by
  unfold fqpos
  rw [if_neg (fun q => h (Int32.le_of_lt q))]
theorem fqpos_pos {x : Int32} (h : 0 ≤ x) : x = fqpos x := by
  unfold fqpos
  by_cases q : 0 < x
  · rw [if_pos q]
  · rw [if_neg q]
    exact Int32.le_antisymm (Int32.not_lt.mp q) h
theorem fqlim_1 {x : Int32} {hi : Nat} (h : ¬ 1 ≤ x) : (1 : Int32) = nI (fqlim x hi) := by
  unfold fqlim
  rw [if_pos (Int32.not_le.mp h)]
  rfl
theorem fqlim_hi {x : Int32} {hi : Nat} (h : 1 ≤ x) (h2 : ¬ x ≤ nI hi) : nI hi = nI (fqlim x hi) := by
  unfold fqlim
  rw [if_neg (Int32.not_lt.mpr h), if_pos (Int32.not_le.mp h2)]
theorem fqlim_x {x : Int32} {hi : Nat} (h : 1 ≤ x) (h2 : x ≤ nI hi) : x = nI (fqlim x hi) := by
  unfold fqlim
  rw [if_neg (Int32.not_lt.mpr h), if_neg (Int32.not_lt.mpr h2), nI_fqn (fun q => absurd (Int32.lt_of_lt_of_le q (show (0 : Int32) ≤ x from Int32.le_trans (by decide) h)) (Int32.lt_irrefl))]
