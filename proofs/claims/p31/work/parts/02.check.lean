/-! are the rows of the methods those that the codes decode to -/
def zkDe (code : ByteArray) (R : List (List (Nat × Instr × Nat))) : Bool := R.all (fun c => c.all (fun q => decide (decode code q.1 = .ok q.2)))
theorem zkDe_cut {code : ByteArray} {A : List (List (Nat × Instr × Nat))} (a n : Nat) (h1 : zkDe code ((A.drop a).take n) = true) (h2 : zkDe code (A.drop (a + n)) = true) : zkDe code (A.drop a) = true := by
  unfold zkDe at h1 h2 ⊢
  rw [← List.take_append_drop n (A.drop a), List.all_append, h1, List.drop_drop, h2]; rfl
theorem zkDe_end {code : ByteArray} {A : List (List (Nat × Instr × Nat))} {a : Nat} (h : A.length ≤ a) : zkDe code (A.drop a) = true := by
  rw [List.drop_of_length_le h]; rfl
