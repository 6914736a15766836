/-! ARCADE's lines as they stand in the class; walks over its table of ways -/
/-- steps by one line between two shops (0: there is none) -/
def zlw (C : Int → Int) (n : Nat) (a b : Int) : Int := zst (fun t => C ((t : Int) * 4 + 0)) (fun t => C ((t : Int) * 4 + 1)) (fun t => C ((t : Int) * 4 + 2)) n a b
def zLvs (C : Int → Int) (n : Nat) : Prop := ∀ t : Nat, t < n → 1 ≤ C ((t : Int) * 4 + 2) ∧ C ((t : Int) * 4 + 2) ≤ 99
theorem zlw_bd {C : Int → Int} {a b : Int} : ∀ {n : Nat}, zLvs C n → 0 ≤ zlw C n a b ∧ zlw C n a b ≤ 99
  | 0, _ => ⟨Int.le_refl _, (show (0 : Int) ≤ 99 by decide)⟩
  | n + 1, h => by
    have h1 := zlw_bd (a := a) (b := b) (n := n) (fun t ht => h t (Nat.lt_succ_of_lt ht))
    have h2 := h n (Nat.lt_succ_self n)
    unfold zlw at h1 ⊢
    rw [zst_s]
    split
    · split
      · exact ⟨by omega, h2.2⟩
      · exact h1
    · exact h1
/-- what is found of one line so far -/
def zlf (C : Int → Int) (n : Nat) (a b f : Int) : Prop := (f = -1 ∧ zlw C n a b = 0) ∨ (f = zlw C n a b ∧ 1 ≤ f ∧ f ≤ 99)
theorem zlf_y {C : Int → Int} {n : Nat} {a b f f' : Int} (hv : 1 ≤ C ((n : Int) * 4 + 2) ∧ C ((n : Int) * 4 + 2) ≤ 99) (h : zlf C n a b f) (hab : (C ((n : Int) * 4 + 0) = a ∧ C ((n : Int) * 4 + 1) = b) ∨ (C ((n : Int) * 4 + 0) = b ∧ C ((n : Int) * 4 + 1) = a)) (hf : (f = -1 ∨ C ((n : Int) * 4 + 2) < f) ∧ f' = C ((n : Int) * 4 + 2) ∨ (f ≠ -1 ∧ f ≤ C ((n : Int) * 4 + 2)) ∧ f' = f) : zlf C (n + 1) a b f' := by
  unfold zlf zlw at h ⊢
  rw [zst_s, if_pos hab]
  by_cases hc : zst (fun t : Nat => C ((t : Int) * 4 + 0)) (fun t => C ((t : Int) * 4 + 1)) (fun t => C ((t : Int) * 4 + 2)) n a b = 0 ∨ C ((n : Int) * 4 + 2) < zst (fun t : Nat => C ((t : Int) * 4 + 0)) (fun t => C ((t : Int) * 4 + 1)) (fun t => C ((t : Int) * 4 + 2)) n a b
  · rw [if_pos hc]
    omega
  · rw [if_neg hc]
    omega
theorem zlf_n {C : Int → Int} {n : Nat} {a b f : Int} (h : zlf C n a b f) (hab : ¬ ((C ((n : Int) * 4 + 0) = a ∧ C ((n : Int) * 4 + 1) = b) ∨ (C ((n : Int) * 4 + 0) = b ∧ C ((n : Int) * 4 + 1) = a))) : zlf C (n + 1) a b f := by
  unfold zlf zlw at h ⊢
  rw [zst_s, if_neg hab]
  exact h
/-- in steps, or in lines -/
def zws (W : Int → Int → Int) (s a b : Int) : Int := if s = 0 then zw1 W a b else W a b
theorem zws_c {W : Int → Int → Int} {s a b y : Int} (h : (y = -1 ∧ W a b = 0) ∨ (y = W a b ∧ 1 ≤ y ∧ y ≤ 99)) : (y = -1 ∧ zws W s a b = 0) ∨ (y ≠ -1 ∧ s = 0 ∧ zws W s a b = 1) ∨ (y ≠ -1 ∧ s ≠ 0 ∧ zws W s a b = y ∧ 1 ≤ y ∧ y ≤ 99) := by
  unfold zws zw1
  by_cases hs : s = 0
  · rw [if_pos hs]
    rcases h with ⟨h1, h2⟩ | ⟨h1, h2, h3⟩
    · exact Or.inl ⟨h1, if_neg (by omega)⟩
    · exact Or.inr (Or.inl ⟨by omega, hs, if_pos (by omega)⟩)
  · rw [if_neg hs]
    rcases h with ⟨h1, h2⟩ | ⟨h1, h2, h3⟩
    · exact Or.inl ⟨h1, h2⟩
    · exact Or.inr (Or.inr ⟨by omega, hs, h1.symm, h2, h3⟩)
theorem zws_bd {W : Int → Int → Int} (h : ∀ a b, 0 ≤ W a b ∧ W a b ≤ 99) (s a b : Int) : 0 ≤ zws W s a b ∧ zws W s a b ≤ 99 := by
  unfold zws zw1
  have := h a b
  split
  · split <;> omega
  · omega
/-- the table at the start, up to (i, j) -/
def zIn (w : Int → Int → Int) (n i j : Int) (f : Int → Int) : Prop := ∀ a b : Int, (0 ≤ a ∧ a < n) → (0 ≤ b ∧ b < n) → (a < i ∨ (a = i ∧ b < j)) → f (a * 12 + b) = if a = b then 0 else if w a b = 0 then 1000000 else w a b
theorem zIn_step {w : Int → Int → Int} {n i j x : Int} {f f' : Int → Int} (hn : n ≤ 12) (hi : 0 ≤ i) (hj : 0 ≤ j ∧ j < n) (h : zIn w n i j f) (hx : (i = j ∧ x = 0) ∨ (i ≠ j ∧ w i j = 0 ∧ x = 1000000) ∨ (i ≠ j ∧ w i j = x ∧ x ≠ 0)) (e : ∀ y, f' y = if y = i * 12 + j then x else f y) : zIn w n i (j + 1) f' := fun a b ha hb hh => by
  rw [e]
  by_cases hab : a = i ∧ b = j
  · obtain ⟨rfl, rfl⟩ := hab
    rw [if_pos rfl]
    rcases hx with ⟨h1, h2⟩ | ⟨h1, h2, h3⟩ | ⟨h1, h2, h3⟩
    · rw [if_pos h1, h2]
    · rw [if_neg h1, if_pos h2, h3]
    · rw [if_neg h1, if_neg (by omega), h2]
  · rw [if_neg (by omega)]
    exact h a b ha hb (by omega)
theorem zIn_row {w : Int → Int → Int} {n i : Int} {f : Int → Int} (h : zIn w n i n f) : zIn w n (i + 1) 0 f := fun a b ha hb hh => h a b ha hb (by omega)
theorem pm_up_at {μ : pm_Mem} {r : Nat} {i x y : Int} : pm_up μ r i x r y = if y = i then x else μ r y := by
  by_cases h : y = i
  · rw [if_pos h, h, pm_up_eq]
  · rw [if_neg h, pm_up_ne h]
theorem zat_of {μ μ' : pm_Mem} {r : Nat} {i x : Int} (e : μ' = pm_up μ r i x) : ∀ y : Int, μ' r y = if y = i then x else μ r y := fun y => by rw [e, pm_up_at]
