/-! THE WORLD: the class's object, its arrays (wX); the arcs lie in 'rest' -/
abbrev classes : List vw_C := [(RX1, TX1, 14), (RX0, TX0, 3), (RX2, TX2, 16)]
abbrev fq_ty (cI cA cZ : ClassId) : List (ClassId × FieldType) := [(cI, .int), (cA, .object RX0), (cZ, .boolean)]
abbrev wX (z : Nat → Nat) (cI cA : ClassId) (n : Nat) (ar gl fl pr pg ky ac : Int32) (K B M Ds Bf : Nat → Int32) (L : Nat → Option Nat) : va_W := [(z 0, .inr (0, [.int (nI n), .int ar, .int gl, .ref (z 1), .ref (z 2), .ref (z 3), .int fl, .int pr, .int pg, .int ky, .ref (z 4), .int ac, .ref (z 5), .ref (z 6)])), (z 1, .inl (cI, n, .inl K)), (z 2, .inl (cI, n, .inl B)), (z 3, .inl (cI, 32, .inl M)), (z 4, .inl (cA, n, .inr (.inr (.inr (.inr L))))), (z 5, .inl (cI, n, .inl Ds)), (z 6, .inl (cI, n, .inl Bf))]
theorem fq_setself {α : Type} {l : List α} {k : Nat} {x : α} (h : l[k]? = some x) : l.set k x = l := by
  apply List.ext_getElem?
  intro j
  by_cases e : j = k
  · subst e
    rw [List.getElem?_set_self (List.getElem?_eq_some_iff.mp h).1, h]
  · rw [List.getElem?_set_ne (Ne.symm e)]
theorem fq_dec {a : Nat} (c : Nat) (h : c ≤ a) {x : Int32} (e : nI c + x = 0) : nI a + x = nI (a - c) := by
  obtain ⟨b, rfl⟩ : ∃ b, a = b + c := ⟨a - c, by omega⟩
  rw [Nat.add_sub_cancel, ← nI_add, Int32.add_assoc, e, Int32.add_zero]
theorem fq_ix {x : Int32} {n : Nat} (hn : n < 2 ^ 31) (h0 : ¬ x < 0) (h : ¬ nI n ≤ x) : ∃ j, j < n ∧ x = nI j := by
  obtain ⟨j, h1, rfl⟩ := nI_of h0
  exact ⟨j, Nat.lt_of_not_le fun q => h (nI_le q h1), rfl⟩
/-- the reference's object and rows, behind seven cells (the class's) -/
abbrev wM (c0 c1 c2 c3 c4 c5 c6 : Nat × va_E) (y : Nat → Nat) (cI cZ : ClassId) (n ar : Nat) (gl lo pg ca : Int32) (ac : Nat) (hw : Int32) (K F T Ln Wy Fo Tk Ne : Nat → Int32) : va_W := [c0, c1, c2, c3, c4, c5, c6, (y 0, .inr (2, [.int (nI n), .int (nI ar), .int gl, .ref (y 1), .int lo, .int pg, .int ca, .int (nI ac), .ref (y 2), .ref (y 3), .ref (y 4), .int hw, .ref (y 5), .ref (y 6), .ref (y 7), .ref (y 8)])), (y 1, .inl (cI, 40, .inl K)), (y 2, .inl (cI, 300, .inl F)), (y 3, .inl (cI, 300, .inl T)), (y 4, .inl (cI, 300, .inl Ln)), (y 5, .inl (cI, 40, .inl Wy)), (y 6, .inl (cI, 40, .inl Fo)), (y 7, .inl (cZ, 40, .inl Tk)), (y 8, .inl (cZ, 40, .inl Ne))]
