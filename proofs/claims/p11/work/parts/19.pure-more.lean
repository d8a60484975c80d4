/-! MORE PURE ROWS ON THE REFERENCE -/
theorem mq_starts {i j : Nat} {v : Int32} {N : Nat → Int32} (hv : v = if i = j then 1 else 0) : upd (fun k => if k < i then (if k = j then 1 else 0) else N k) i v = (fun k => if k < i + 1 then (if k = j then 1 else 0) else N k) := by
  funext k
  show (if k = i then v else if k < i then (if k = j then 1 else 0) else N k) = if k < i + 1 then (if k = j then 1 else 0) else N k
  by_cases h2 : k = i
  · subst h2
    rw [if_pos rfl, if_pos (show k < k + 1 by omega), hv]
  · by_cases h3 : k < i
    · rw [if_neg h2, if_pos h3, if_pos (show k < i + 1 by omega)]
    · rw [if_neg h2, if_neg h3, if_neg (show ¬ k < i + 1 by omega)]
theorem mq_start0 {j : Nat} {N : Nat → Int32} : (fun k => if k < 0 then (if k = j then (1 : Int32) else 0) else N k) = N := by funext k; simp
theorem mqstart_T {n : Nat} {q : mqQ} {x key : Int32} {W0 Fo Tk : Nat → Int32} (hn : n ≤ 40) (h : mqS n q) : mqT n ((mqpush n q x key).2, W0, Fo, fqfill 40 0 Tk) := ⟨mqpush_S h, fun i hi _ => if_pos (by omega)⟩
theorem mqmu_le (n : Nat) (s : mqR) : mqmu n s < n + 1 := Nat.lt_succ_of_le (fqcnt_le _ _)
