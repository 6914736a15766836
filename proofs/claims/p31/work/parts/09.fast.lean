/-! sx, ahead of all: a few functions of lists, made by recursors, so that the kernel reckons them quickly -/
section SX0
variable {α : Type}
noncomputable def sx_fnd (p : α → Bool) (l : List α) : Option α := List.rec none (fun a _ ih => Bool.rec ih (some a) (p a)) l
theorem sx_fnd_eq (p : α → Bool) (l : List α) : sx_fnd p l = l.find? p := by
  induction l with
  | nil => rfl
  | cons a l ih =>
    show (Bool.rec (sx_fnd p l) (some a) (p a) : Option α) = _
    rw [List.find?_cons]
    cases p a <;> simp [ih]
theorem sx_fnd_some {p : α → Bool} {l : List α} {a : α} (h : sx_fnd p l = some a) : p a = true := by
  rw [sx_fnd_eq] at h
  exact List.find?_some h
theorem sx_fnd_mem {p : α → Bool} {l : List α} {a : α} (h : sx_fnd p l = some a) : a ∈ l := by
  rw [sx_fnd_eq] at h
  exact List.mem_of_find?_eq_some h
noncomputable def sx_flt (p : α → Bool) (l : List α) : List α := List.rec [] (fun a _ ih => Bool.rec ih (a :: ih) (p a)) l
theorem sx_flt_eq (p : α → Bool) (l : List α) : sx_flt p l = l.filter p := by
  induction l with
  | nil => rfl
  | cons a l ih =>
    show (Bool.rec (sx_flt p l) (a :: sx_flt p l) (p a) : List α) = _
    rw [List.filter_cons]
    cases p a <;> simp [ih]
theorem sx_mem_flt {p : α → Bool} {l : List α} {a : α} : a ∈ sx_flt p l ↔ a ∈ l ∧ p a = true := by
  rw [sx_flt_eq]
  exact List.mem_filter
noncomputable def sx_nb (a : Bool) : Bool := Bool.rec true false a
theorem sx_nb_eq (a : Bool) : sx_nb a = !a := by cases a <;> rfl
noncomputable def sx_ab (a b : Bool) : Bool := Bool.rec false b a
theorem sx_ab_eq (a b : Bool) : sx_ab a b = (a && b) := by cases a <;> rfl
theorem sx_beq_eq (a b : Nat) : Nat.beq a b = decide (a = b) := by
  cases h : Nat.beq a b with
  | true => rw [Nat.eq_of_beq_eq_true h]; simp
  | false => simp [Nat.ne_of_beq_eq_false h]
theorem sx_beq_bq (a b : Nat) : Nat.beq a b = (a == b) := by
  rw [sx_beq_eq]
  cases h : (a == b) with
  | true => simp at h; simp [h]
  | false => simp at h; simp [h]
/-- from a list of lists of sixteen -/
noncomputable def sx_at2 (l : List (List α)) (i : Nat) : Option α := match l[i / 16]? with
  | some c => c[i % 16]?
  | none => none
theorem sx_at2_mem {l : List (List α)} {i : Nat} {a : α} (h : sx_at2 l i = some a) : a ∈ l.flatten := by
  unfold sx_at2 at h
  split at h
  · rename_i c hc
    exact List.mem_flatten.mpr ⟨c, List.mem_of_getElem? hc, List.mem_of_getElem? h⟩
  · cases h
end SX0
