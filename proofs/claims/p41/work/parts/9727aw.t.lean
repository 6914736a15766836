/-! a text told anew, the class: what is taken over -/
def zTfc (L : (Int → Int) → (Int → Int) → Int → Int → Int → Int → Prop) (ce : (Int → Int) → (Int → Int) → (Nat → Int) → (Int → Int) → Nat → Prop) (r : Nat) (μ : pm_Mem) (x : Int) (μ' : pm_Mem) : Prop := μ' 88 1 = 0 ∧ (∀ q, q ≠ 88 → q ≠ 90 → q ≠ 91 → q ≠ 92 → q ≠ 93 → q ≠ 94 → q ≠ 95 → q ≠ r → q ≠ r + 1 → q ≠ r + 2 → q ≠ 96 → μ' q = μ q) ∧ (∀ k : Int, k ≠ 3 → μ' 96 k = μ 96 k) ∧ (μ' 96 3 = 0 ∨ μ' 96 3 = μ 96 3) ∧ ∃ K S V N P J t, zLex (μ 89) (μ 88 1) K S V N P ∧ ((x = ((t : Nat) : Int) ∧ t ≤ 16 ∧ zTxo (L K V) K J t 0 0 ∧ ce K V J (μ' (r + 1)) t ∧ μ' r 2 = ((t : Nat) : Int) ∧ μ' 88 2 = 0 ∧ μ' 88 3 = -1) ∨ (x = -1 ∧ μ' r = μ r ∧ μ' (r + 1) = μ (r + 1) ∧ μ' (r + 2) = μ (r + 2) ∧ ∃ f q, zTxo (L K V) K J t f q ∧ f ≠ 0 ∧ zFl S f q μ'))
section ZTF
variable {L : (Int → Int) → (Int → Int) → Int → Int → Int → Int → Prop} {ce : (Int → Int) → (Int → Int) → (Nat → Int) → (Int → Int) → Nat → Prop} {r : Nat} {μ μ1 μ' : pm_Mem} {x y : Int}
end ZTF
theorem zCe1_cg {K V : Int → Int} {J : Nat → Int} {t : Nat} {C C' : Int → Int} (ht : t ≤ 16) (e : ∀ i : Int, 0 ≤ i → i < 64 → C' i = C i) (h : zCe1 K V J C t) : zCe1 K V J C' t := fun s hs => by
  obtain ⟨a, b, c⟩ := h s hs
  exact ⟨(e _ (by omega) (by omega)).trans a, (e _ (by omega) (by omega)).trans b, (e _ (by omega) (by omega)).trans c⟩
theorem zCe2_cg {K V : Int → Int} {J : Nat → Int} {t : Nat} {C C' : Int → Int} (ht : t ≤ 16) (e : ∀ i : Int, 0 ≤ i → i < 64 → C' i = C i) (h : zCe2 K V J C t) : zCe2 K V J C' t := fun s hs => by
  obtain ⟨a, b, c, d⟩ := h s hs
  exact ⟨(e _ (by omega) (by omega)).trans a, (e _ (by omega) (by omega)).trans b, (e _ (by omega) (by omega)).trans c, (e _ (by omega) (by omega)).trans d⟩
theorem zCe3_cg {K V : Int → Int} {J : Nat → Int} {t : Nat} {C C' : Int → Int} (ht : t ≤ 16) (e : ∀ i : Int, 0 ≤ i → i < 64 → C' i = C i) (h : zCe3 K V J C t) : zCe3 K V J C' t := fun s hs => by
  obtain ⟨a, b, c⟩ := h s hs
  exact ⟨(e _ (by omega) (by omega)).trans a, (e _ (by omega) (by omega)).trans b, (e _ (by omega) (by omega)).trans c⟩
/-- F: what is taken over, told wholly -/
def zTfF (L : (Int → Int) → (Int → Int) → Int → Int → Int → Int → Prop) (ce : (Int → Int) → (Int → Int) → (Nat → Int) → pm_Mem → Nat → Prop) (r : Nat) (un : Int) (μ : pm_Mem) (x : Int) (μ' : pm_Mem) : Prop := μ' 88 1 = 0 ∧ (∀ q, q ≠ 88 → q ≠ 90 → q ≠ 91 → q ≠ 92 → q ≠ 93 → q ≠ 94 → q ≠ 95 → q ≠ r → q ≠ r + 1 → q ≠ r + 2 → q ≠ 96 → μ' q = μ q) ∧ (∀ k : Int, k ≠ 3 → μ' 96 k = μ 96 k) ∧ ∃ K S V N P J t, zLex (μ 89) (μ 88 1) K S V N P ∧ ((x = ((t : Nat) : Int) ∧ t ≤ 16 ∧ zTxo (L K V) K J t 0 0 ∧ ce K V J μ' t ∧ μ' r 2 = ((t : Nat) : Int) ∧ μ' 88 2 = 0 ∧ μ' 88 3 = -1 ∧ μ' 96 3 = if un = 1 then 0 else μ 96 3) ∨ (x = -1 ∧ (μ' r = μ r ∧ μ' (r + 1) = μ (r + 1) ∧ μ' (r + 2) = μ (r + 2)) ∧ μ' 96 3 = μ 96 3 ∧ ∃ f q, zTxo (L K V) K J t f q ∧ f ≠ 0 ∧ zFl S f q μ'))
section ZTFF
variable {L : (Int → Int) → (Int → Int) → Int → Int → Int → Int → Prop} {ce : (Int → Int) → (Int → Int) → (Nat → Int) → pm_Mem → Nat → Prop} {r : Nat} {un : Int} {μ μ1 μ' : pm_Mem} {x y : Int}
theorem zTfF_n {ce1 : (Int → Int) → (Int → Int) → (Nat → Int) → (Int → Int) → Nat → Prop} (h : zRf L ce1 μ y μ') (hy : y = 0) (hr : r < 80) : zTfF L ce r un μ (-1) μ' := by
  obtain ⟨h1, h2, K, S, V, N, P, J, t, hx, h3⟩ := h
  have h96 := h2 96 (by decide) (by decide) (by decide) (by decide) (by decide) (by decide) (by decide)
  refine ⟨h1, fun q a b c d e f g _ _ _ _ => h2 q a b c d e f g, fun k _ => by rw [h96], K, S, V, N, P, J, t, hx, Or.inr ⟨rfl, ⟨?_, ?_, ?_⟩, by rw [h96], ?_⟩⟩
  · exact h2 r (by omega) (by omega) (by omega) (by omega) (by omega) (by omega) (by omega)
  · exact h2 (r + 1) (by omega) (by omega) (by omega) (by omega) (by omega) (by omega) (by omega)
  · exact h2 (r + 2) (by omega) (by omega) (by omega) (by omega) (by omega) (by omega) (by omega)
  · rcases h3 with ⟨a, -⟩ | ⟨-, a⟩
    · omega
    · exact a
theorem zTfF_y {ce1 : (Int → Int) → (Int → Int) → (Nat → Int) → (Int → Int) → Nat → Prop} (h : zRf L ce1 μ y μ1) (hy : y ≠ 0) (hr : r < 80) (hce : ∀ {K V : Int → Int} {J : Nat → Int} {t : Nat}, t ≤ 16 → ce1 K V J (μ1 94) t → ce K V J μ' t) (c1 : ∀ q, q ≠ r → q ≠ r + 1 → q ≠ r + 2 → q ≠ 96 → μ' q = μ1 q) (c96 : ∀ k : Int, k ≠ 3 → μ' 96 k = μ1 96 k) (c963 : μ' 96 3 = if un = 1 then 0 else μ1 96 3) (c3 : μ' r 2 = μ1 93 2) (ex : x = μ' r 2) : zTfF L ce r un μ x μ' := by
  obtain ⟨h1, h2, K, S, V, N, P, J, t, hx, h3⟩ := h
  have e88 : μ' 88 = μ1 88 := c1 88 (by omega) (by omega) (by omega) (by decide)
  have h96 := h2 96 (by decide) (by decide) (by decide) (by decide) (by decide) (by decide) (by decide)
  refine ⟨by rw [e88]; exact h1, fun q a b c d e f g i j k m => (c1 q i j k m).trans (h2 q a b c d e f g), fun k hk => (c96 k hk).trans (by rw [h96]), K, S, V, N, P, J, t, hx, Or.inl ?_⟩
  rcases h3 with ⟨-, a1, a2, a3, a4, a5, a6⟩ | ⟨a, -⟩
  · exact ⟨by rw [ex, c3, a2], a1, a3, hce a1 a4, by rw [c3, a2], by rw [e88]; exact a5, by rw [e88]; exact a6, by rw [c963, h96]⟩
  · exact absurd a hy
end ZTFF
