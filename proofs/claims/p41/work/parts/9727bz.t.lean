/-! a text told anew on both sides: what comes of it -/
/-- the lines of a text, by its number -/
def zLk (k sh cu : Int) (K V : Int → Int) : Int → Int → Int → Int → Prop := fun ln j f q => (k = 0 ∧ zLw K V ln j f q) ∨ (k = 1 ∧ zLi0 (zPa1 K V sh cu) K 318 ln j f q) ∨ (k = 2 ∧ zLi0 (zPa2 K V sh cu) K 322 ln j f q) ∨ (k = 3 ∧ zLi0 (zPa3 K V sh cu) K 326 ln j f q)
section ZLK
variable {k sh cu : Int} {K V : Int → Int}
theorem zLk_0 : zLk 0 sh cu K V = zLw K V := by
  funext ln j f q
  refine propext ⟨fun h => ?_, fun h => Or.inl ⟨rfl, h⟩⟩
  rcases h with ⟨-, h⟩ | ⟨h, -⟩ | ⟨h, -⟩ | ⟨h, -⟩
  · exact h
  all_goals exact absurd h (by decide)
theorem zLk_1 : zLk 1 sh cu K V = zLi0 (zPa1 K V sh cu) K 318 := by
  funext ln j f q
  refine propext ⟨fun h => ?_, fun h => Or.inr (Or.inl ⟨rfl, h⟩)⟩
  rcases h with ⟨h, -⟩ | ⟨-, h⟩ | ⟨h, -⟩ | ⟨h, -⟩
  · exact absurd h (by decide)
  · exact h
  all_goals exact absurd h (by decide)
theorem zLk_2 : zLk 2 sh cu K V = zLi0 (zPa2 K V sh cu) K 322 := by
  funext ln j f q
  refine propext ⟨fun h => ?_, fun h => Or.inr (Or.inr (Or.inl ⟨rfl, h⟩))⟩
  rcases h with ⟨h, -⟩ | ⟨h, -⟩ | ⟨-, h⟩ | ⟨h, -⟩
  · exact absurd h (by decide)
  · exact absurd h (by decide)
  · exact h
  · exact absurd h (by decide)
theorem zLk_3 : zLk 3 sh cu K V = zLi0 (zPa3 K V sh cu) K 326 := by
  funext ln j f q
  refine propext ⟨fun h => ?_, fun h => Or.inr (Or.inr (Or.inr ⟨rfl, h⟩))⟩
  rcases h with ⟨h, -⟩ | ⟨h, -⟩ | ⟨h, -⟩ | ⟨-, h⟩
  · exact absurd h (by decide)
  · exact absurd h (by decide)
  · exact absurd h (by decide)
  · exact h
theorem zLk_det : ∀ ln j f q f' q', zLk k sh cu K V ln j f q → zLk k sh cu K V ln j f' q' → f = f' ∧ q = q' := fun ln j f q f' q' h h' => by
  rcases h with ⟨a, h⟩ | ⟨a, h⟩ | ⟨a, h⟩ | ⟨a, h⟩ <;> rcases h' with ⟨b, h'⟩ | ⟨b, h'⟩ | ⟨b, h'⟩ | ⟨b, h'⟩ <;> first
    | exact absurd (a.symm.trans b) (by decide)
    | exact zLw_det h h'
    | exact zLi0_det (fun _ _ _ _ _ => zPa1_det) h h'
    | exact zLi0_det (fun _ _ _ _ _ => zPa2_det) h h'
    | exact zLi0_det (fun _ _ _ _ _ => zPa3_det) h h'
theorem zLk_kw : ∀ ln j q, zLk k sh cu K V ln j 0 q → K j ≠ 257 := fun ln j q h => by
  rcases h with ⟨-, h⟩ | ⟨-, h⟩ | ⟨-, h⟩ | ⟨-, h⟩
  · exact zLw_kw h
  all_goals
    have := (zLi0_kw h).1
    omega
end ZLK
/-- the class: what comes of a text told anew -/
def zTxc (k : Int) (μ : pm_Mem) (x : Int) (μ' : pm_Mem) : Prop := μ' 88 1 = 0 ∧ (∀ q, (q < 17 ∨ 28 < q) → (q < 88 ∨ q = 89 ∨ 96 < q) → μ' q = μ q) ∧ (∀ c : Int, c ≠ 3 → μ' 96 c = μ 96 c) ∧ (μ' 96 3 = 0 ∨ μ' 96 3 = μ 96 3) ∧ (k ≠ 3 → μ' 26 = μ 26 ∧ μ' 27 = μ 27) ∧ (((k < 0 ∨ 3 < k) ∧ x = -1 ∧ μ' 88 2 = 0 ∧ μ' 88 3 = -1) ∨ ((0 ≤ k ∧ k ≤ 3) ∧ ∃ K S V N P J t, zLex (μ 89) (μ 88 1) K S V N P ∧ ((x = ((t : Nat) : Int) ∧ t ≤ 16 ∧ zTxo (zLk k (μ 3 0) (μ 3 1) K V) K J t 0 0 ∧ (k = 3 → zCe3 K V J (μ' 27) t ∧ μ' 26 2 = ((t : Nat) : Int)) ∧ μ' 88 2 = 0 ∧ μ' 88 3 = -1) ∨ (x = -1 ∧ (k = 3 → μ' 26 = μ 26 ∧ μ' 27 = μ 27) ∧ ∃ f q, zTxo (zLk k (μ 3 0) (μ 3 1) K V) K J t f q ∧ f ≠ 0 ∧ zFl S f q μ'))))
/-- the reference: the same, for letters told -/
def zTxr (k : Int) (K S V : Int → Int) (sh cu : Int) (μ0 : pm_Mem) (x : Int) (μ : pm_Mem) : Prop := μ 205 11 = 0 ∧ (∀ r, r ≠ 205 → (r < 213 ∨ 223 < r) → μ r = μ0 r) ∧ (∀ c : Int, (c = 6 ∨ c = 7 ∨ c = 70) → μ 205 c = μ0 205 c) ∧ (k ≠ 3 → ∀ i, i < 144 → μ 223 i = μ0 223 i) ∧ ∃ J t f q, zTxo (zLk k sh cu K V) K J t f q ∧ ((x = ((t : Nat) : Int) ∧ t ≤ 16 ∧ f = 0 ∧ μ 205 31 = 0 ∧ μ 205 32 = -1 ∧ (k = 3 → ∀ a b : Int, 0 ≤ a → a ≤ 11 → 0 ≤ b → b ≤ 11 → μ 223 (12 * a + b) = zsJ V J t a b)) ∨ (x = -1 ∧ f ≠ 0 ∧ (k = 3 → ∀ i, 0 ≤ i → i < 144 → μ 223 i = μ0 223 i) ∧ μ 205 31 = f ∧ μ 205 32 = S q))
theorem zTxr_0 {K S V : Int → Int} {sh cu x : Int} {μ0 μ : pm_Mem} (h : zQl K S V μ0 x μ) : zTxr 0 K S V sh cu μ0 x μ := by
  obtain ⟨-, h1, h2, h3, h4, J, t, f, q, h5, h6⟩ := h
  refine ⟨h1, fun r a b => h2 r a (by omega) (by omega) (by omega) (by omega) (by omega) (by omega) (by omega) (by omega) (by omega) (by omega) (by omega), fun c hc => h3 c (by omega) (by omega) (by omega) (by omega) (by omega) (by omega) (by omega) (by omega) (by omega) (by omega) (by omega) (by omega) (by omega) (by omega), fun _ => h4, J, t, f, q, by rw [zLk_0]; exact h5, ?_⟩
  rcases h6 with ⟨a1, a2, a3, a4, a5, -⟩ | ⟨a1, a2, a3, a4, -⟩
  · exact Or.inl ⟨a1, a2, a3, a4, a5, fun h => absurd h (by decide)⟩
  · exact Or.inr ⟨a1, a2, fun h => absurd h (by decide), a3, a4⟩
theorem zTxr_h {k : Int} {W : Int → Int → Int → Int → Prop} {K S V : Int → Int} {sh cu x : Int} {μ0 μ : pm_Mem} (h : zQh W K S μ0 x μ) (hk : k ≠ 3) (hW : zLk k sh cu K V = W) : zTxr k K S V sh cu μ0 x μ := by
  obtain ⟨h1, h2, h3, h4, J, t, f, q, h5, h6⟩ := h
  refine ⟨h1, fun r a b => h2 r a (by omega) (by omega) (by omega) (by omega) (by omega) (by omega) (by omega) (by omega) (by omega) (by omega), fun c hc => h3 c (by omega) (by omega) (by omega) (by omega) (by omega) (by omega) (by omega) (by omega) (by omega) (by omega) (by omega) (by omega) (by omega) (by omega) (by omega) (by omega) (by omega), fun _ => h4, J, t, f, q, by rw [hW]; exact h5, ?_⟩
  rcases h6 with ⟨a1, a2, a3, a4, a5⟩ | ⟨a1, a2, a3, a4⟩
  · exact Or.inl ⟨a1, a2, a3, a4, a5, fun h => absurd h hk⟩
  · exact Or.inr ⟨a1, a2, fun h => absurd h hk, a3, a4⟩
theorem zTxr_3 {K S V : Int → Int} {sh cu x : Int} {μ0 μ : pm_Mem} (h : zQz K S V sh cu μ0 x μ) : zTxr 3 K S V sh cu μ0 x μ := by
  obtain ⟨-, h1, h2, h3, h4, h4b, J, t, f, q, h5, h6⟩ := h
  refine ⟨h1, fun r a b => h2 r a (by omega) (by omega) (by omega) (by omega) (by omega) (by omega) (by omega) (by omega) (by omega) (by omega), fun c hc => h3 c (by omega) (by omega) (by omega) (by omega) (by omega) (by omega) (by omega) (by omega) (by omega) (by omega) (by omega) (by omega) (by omega) (by omega) (by omega), fun h => absurd rfl h, J, t, f, q, by rw [zLk_3]; exact h5, ?_⟩
  rcases h6 with ⟨a1, a2, a3, a4, a5, a6, -⟩ | ⟨a1, a2, a3, a4, a5, -⟩
  · exact Or.inl ⟨a1, a2, a3, a5, a6, fun _ => a4⟩
  · exact Or.inr ⟨a1, a2, fun _ => a3, a4, a5⟩
/-- both sides alike behind it -/
def zTxe (μ μ1 : pm_Mem) (μ2 : pm_Mem) : Prop := μ2 205 11 = 0 ∧ (∀ r, r ≠ 205 → (r < 213 ∨ 223 < r) → μ2 r = μ1 r) ∧ (∀ c : Int, (c = 6 ∨ c = 7 ∨ c = 70) → μ2 205 c = μ1 205 c) ∧ (μ2 205 31 = μ1 88 2 ∧ μ2 205 32 = μ1 88 3) ∧ (zLa μ → μ1 3 0 = μ 3 0 → (∀ i, 0 ≤ i → i < 144 → μ1 223 i = μ 223 i) → zLa μ2)
theorem zTxe_of {k x x' : Int} {μ μ1 μ2 : pm_Mem} {K S V : Int → Int} {J : Nat → Int} {t : Nat} (h26 : k ≠ 3 → μ1 26 = μ 26 ∧ μ1 27 = μ 27)
    (hc : (x = ((t : Nat) : Int) ∧ t ≤ 16 ∧ zTxo (zLk k (μ 3 0) (μ 3 1) K V) K J t 0 0 ∧ (k = 3 → zCe3 K V J (μ1 27) t ∧ μ1 26 2 = ((t : Nat) : Int)) ∧ μ1 88 2 = 0 ∧ μ1 88 3 = -1) ∨ (x = -1 ∧ (k = 3 → μ1 26 = μ 26 ∧ μ1 27 = μ 27) ∧ ∃ f q, zTxo (zLk k (μ 3 0) (μ 3 1) K V) K J t f q ∧ f ≠ 0 ∧ zFl S f q μ1))
    (hr : zTxr k K S V (μ 3 0) (μ 3 1) μ1 x' μ2) : x' = x ∧ zTxe μ μ1 μ2 := by
  obtain ⟨r1, r2, r3, r4, J', t', f', q', r5, r6⟩ := hr
  have e3 : μ2 3 = μ1 3 := r2 3 (by decide) (by decide)
  have e26 : μ2 26 = μ1 26 := r2 26 (by decide) (by decide)
  have e27 : μ2 27 = μ1 27 := r2 27 (by decide) (by decide)
  -- lanes that stay
  have stay : (μ1 26 = μ 26 ∧ μ1 27 = μ 27) → (∀ i, 0 ≤ i → i < 144 → μ2 223 i = μ1 223 i) → zLa μ → μ1 3 0 = μ 3 0 → (∀ i, 0 ≤ i → i < 144 → μ1 223 i = μ 223 i) → zLa μ2 := fun hs hl la e30 e223 =>
    zLa_cg la (by rw [e26, hs.1]) (by rw [e27, hs.2]) (fun i i0 i1 => (hl i i0 i1).trans (e223 i i0 i1)) (by rw [e3, e30]; exact Int.le_refl _)
  rcases hc with ⟨a1, a2, a3, a4, a5, a6⟩ | ⟨a1, a2, f, q, a3, a4, a5⟩
  · obtain ⟨d1, d2, -, -⟩ := zTxo_det zLk_det zLk_kw a3 r5
    rcases r6 with ⟨b1, b2, b3, b4, b5, b6⟩ | ⟨-, b2, -⟩
    · refine ⟨by omega, r1, r2, r3, ⟨by omega, by omega⟩, fun la e30 e223 => ?_⟩
      by_cases hk : k = 3
      · subst hk
        rw [zLk_3] at a3 r5
        obtain ⟨c1, c2⟩ := a4 rfl
        obtain ⟨-, -, c3, c4⟩ := zLn_both (F := μ2 223) a3 c1 a2 r5 (fun _ => b6 rfl)
        exact ⟨t, by rw [e26]; exact c2, by rw [e27]; exact c3, by rw [e27, e3, e30]; exact c4⟩
      · exact stay (h26 hk) (fun i i0 i1 => r4 hk i i1) la e30 e223
    · exact absurd d2.symm b2
  · obtain ⟨-, d2, d3, -⟩ := zTxo_det zLk_det zLk_kw a3 r5
    rcases r6 with ⟨-, -, b3, -⟩ | ⟨b1, b2, b3, b4, b5⟩
    · exact absurd (d2.trans b3) a4
    · refine ⟨by omega, r1, r2, r3, ⟨by rw [b4, a5.1, d2], by rw [b5, a5.2, d3 a4]⟩, fun la e30 e223 => ?_⟩
      by_cases hk : k = 3
      · exact stay (a2 hk) (b3 hk) la e30 e223
      · exact stay (h26 hk) (fun i i0 i1 => r4 hk i i1) la e30 e223
/-! F: a text told anew on both sides, told wholly -/
section ZTFU
variable {L : (Int → Int) → (Int → Int) → Int → Int → Int → Int → Prop} {ce : (Int → Int) → (Int → Int) → (Nat → Int) → pm_Mem → Nat → Prop} {r : Nat} {un : Int} {μ μ1 μ' : pm_Mem} {x y : Int}
theorem zTfFu_n {ce1 : (Int → Int) → (Int → Int) → (Nat → Int) → pm_Mem → Nat → Prop} (h : zRuf L ce1 μ y μ') (hy : y = 0) (hr : r < 80) : zTfF L ce r un μ (-1) μ' := by
  obtain ⟨h1, h2, K, S, V, N, P, J, t, hx, h3⟩ := h
  have h96 := h2 96 (by decide) (by decide) (by decide) (by decide) (by decide) (by decide) (by decide)
  refine ⟨h1, fun q a b c d e f g _ _ _ _ => h2 q a b c d e f g, fun k _ => by rw [h96], K, S, V, N, P, J, t, hx, Or.inr ⟨rfl, ⟨?_, ?_, ?_⟩, by rw [h96], ?_⟩⟩
  · exact h2 r (by omega) (by omega) (by omega) (by omega) (by omega) (by omega) (by omega)
  · exact h2 (r + 1) (by omega) (by omega) (by omega) (by omega) (by omega) (by omega) (by omega)
  · exact h2 (r + 2) (by omega) (by omega) (by omega) (by omega) (by omega) (by omega) (by omega)
  · rcases h3 with ⟨a, -⟩ | ⟨-, a⟩
    · omega
    · exact a
theorem zTfFu_y {ce1 : (Int → Int) → (Int → Int) → (Nat → Int) → pm_Mem → Nat → Prop} (h : zRuf L ce1 μ y μ1) (hy : y ≠ 0) (hr : r < 80) (hce : ∀ {K V : Int → Int} {J : Nat → Int} {t : Nat}, t ≤ 16 → ce1 K V J μ1 t → ce K V J μ' t) (c1 : ∀ q, q ≠ r → q ≠ r + 1 → q ≠ r + 2 → q ≠ 96 → μ' q = μ1 q) (c96 : ∀ k : Int, k ≠ 3 → μ' 96 k = μ1 96 k) (c963 : μ' 96 3 = if un = 1 then 0 else μ1 96 3) (c3 : μ' r 2 = μ1 93 2) (ex : x = μ' r 2) : zTfF L ce r un μ x μ' := by
  obtain ⟨h1, h2, K, S, V, N, P, J, t, hx, h3⟩ := h
  have e88 : μ' 88 = μ1 88 := c1 88 (by omega) (by omega) (by omega) (by decide)
  have h96 := h2 96 (by decide) (by decide) (by decide) (by decide) (by decide) (by decide) (by decide)
  refine ⟨by rw [e88]; exact h1, fun q a b c d e f g i j k m => (c1 q i j k m).trans (h2 q a b c d e f g), fun k hk => (c96 k hk).trans (by rw [h96]), K, S, V, N, P, J, t, hx, Or.inl ?_⟩
  rcases h3 with ⟨-, a1, a2, a3, a4, a5, a6⟩ | ⟨a, -⟩
  · exact ⟨by rw [ex, c3, a2], a1, a3, hce a1 a4, by rw [c3, a2], by rw [e88]; exact a5, by rw [e88]; exact a6, by rw [c963, h96]⟩
  · exact absurd a hy
end ZTFU
/-- THE LAW taken over by the class -/
def zCeL (K V : Int → Int) (J : Nat → Int) (C D : Int → Int) (t : Nat) : Prop := ∃ cl : Int, cl ≤ 400 ∧ zLc K V J C D cl t
theorem zCeL_of {K V : Int → Int} {J : Nat → Int} {t : Nat} {μ1 μ' : pm_Mem} (h : zLd K V J μ1 t) (ht : t ≤ 16) (hc : μ1 93 3 ≤ 400) (e1 : ∀ i : Int, 0 ≤ i → i < 64 → μ' 18 i = μ1 94 i) (e2 : ∀ i : Int, 0 ≤ i → i < 400 → μ' 19 i = μ1 95 i) : zCeL K V J (μ' 18) (μ' 19) t := ⟨μ1 93 3, hc, zLc_cg h.1 (fun _ _ => rfl) (fun z z0 z1 => e1 z z0 (by omega)) (fun z z0 z1 => e2 z z0 (by omega)) (Int.le_refl _)⟩
def zCeF (k : Int) (K V : Int → Int) (J : Nat → Int) (μ' : pm_Mem) (t : Nat) : Prop := (k = 0 → zCeL K V J (μ' 18) (μ' 19) t ∧ μ' 17 2 = ((t : Nat) : Int)) ∧ (k = 1 → zCe1 K V J (μ' 21) t ∧ μ' 20 2 = ((t : Nat) : Int)) ∧ (k = 2 → zCe2 K V J (μ' 24) t ∧ μ' 23 2 = ((t : Nat) : Int)) ∧ (k = 3 → zCe3 K V J (μ' 27) t ∧ μ' 26 2 = ((t : Nat) : Int))
/-- the class: what comes of a text told anew, wholly -/
def zTxF (k : Int) (μ : pm_Mem) (x : Int) (μ' : pm_Mem) : Prop := μ' 88 1 = 0 ∧ (∀ q : Nat, ((q : Int) < 17 + 3 * k ∨ 19 + 3 * k < (q : Int) ∨ k < 0 ∨ 3 < k) → (q < 88 ∨ q = 89 ∨ 96 < q) → μ' q = μ q) ∧ (∀ c : Int, c ≠ 3 → μ' 96 c = μ 96 c) ∧ (((k < 0 ∨ 3 < k) ∧ x = -1 ∧ μ' 88 2 = 0 ∧ μ' 88 3 = -1 ∧ μ' 96 3 = μ 96 3) ∨ ((0 ≤ k ∧ k ≤ 3) ∧ ∃ K S V N P J t, zLex (μ 89) (μ 88 1) K S V N P ∧ ((x = ((t : Nat) : Int) ∧ t ≤ 16 ∧ zTxo (zLk k (μ 3 0) (μ 3 1) K V) K J t 0 0 ∧ zCeF k K V J μ' t ∧ μ' 88 2 = 0 ∧ μ' 88 3 = -1 ∧ μ' 96 3 = if k = 1 ∨ k = 2 then 0 else μ 96 3) ∨ (x = -1 ∧ (∀ q : Nat, 17 ≤ q → q ≤ 28 → μ' q = μ q) ∧ μ' 96 3 = μ 96 3 ∧ ∃ f q, zTxo (zLk k (μ 3 0) (μ 3 1) K V) K J t f q ∧ f ≠ 0 ∧ zFl S f q μ'))))
theorem zTxF_of {k x un : Int} {r : Nat} {L : (Int → Int) → (Int → Int) → Int → Int → Int → Int → Prop} {ce : (Int → Int) → (Int → Int) → (Nat → Int) → pm_Mem → Nat → Prop} {μ μ' : pm_Mem} (h : zTfF L ce r un μ x μ') (hL : ∀ K V, L K V = zLk k (μ 3 0) (μ 3 1) K V) (hk : 0 ≤ k ∧ k ≤ 3) (hr : (r : Int) = 17 + 3 * k) (hu : (un = 1 ∧ (k = 1 ∨ k = 2)) ∨ (un ≠ 1 ∧ ¬ (k = 1 ∨ k = 2))) (hce : ∀ K V J t, ce K V J μ' t → μ' r 2 = ((t : Nat) : Int) → zCeF k K V J μ' t) : zTxF k μ x μ' := by
  obtain ⟨h1, h2, h3, K, S, V, N, P, J, t, hx, h5⟩ := h
  have fr : ∀ q : Nat, ((q : Int) < 17 + 3 * k ∨ 19 + 3 * k < (q : Int) ∨ k < 0 ∨ 3 < k) → (q < 88 ∨ q = 89 ∨ 96 < q) → μ' q = μ q := fun q a b => h2 q (by omega) (by omega) (by omega) (by omega) (by omega) (by omega) (by omega) (by omega) (by omega) (by omega) (by omega)
  refine ⟨h1, fr, h3, Or.inr ⟨hk, K, S, V, N, P, J, t, hx, ?_⟩⟩
  rcases h5 with ⟨a1, a2, a3, a4, a5, a6, a7, a8⟩ | ⟨a1, ⟨b1, b2, b3⟩, a3, f, q, a5, a6, a7⟩
  · refine Or.inl ⟨a1, a2, by rw [← hL]; exact a3, hce K V J t a4 a5, a6, a7, ?_⟩
    rcases hu with ⟨u1, u2⟩ | ⟨u1, u2⟩
    · rw [a8, if_pos u1, if_pos u2]
    · rw [a8, if_neg u1, if_neg u2]
  · refine Or.inr ⟨a1, fun z z0 z1 => ?_, a3, f, q, by rw [← hL]; exact a5, a6, a7⟩
    by_cases z2 : z = r
    · rw [z2]; exact b1
    · by_cases z3 : z = r + 1
      · rw [z3]; exact b2
      · by_cases z4 : z = r + 2
        · rw [z4]; exact b3
        · exact fr z (by omega) (by omega)
theorem zTxF_c {k x : Int} {μ μ' : pm_Mem} (h : zTxF k μ x μ') : zTxc k μ x μ' := by
  obtain ⟨h1, h2, h3, h4⟩ := h
  have h63 : μ' 96 3 = 0 ∨ μ' 96 3 = μ 96 3 := by
    rcases h4 with ⟨-, -, -, -, h⟩ | ⟨-, K, S, V, N, P, J, t, -, h | h⟩
    · exact Or.inr h
    · have e := h.2.2.2.2.2.2
      by_cases hk : k = 1 ∨ k = 2
      · rw [if_pos hk] at e; exact Or.inl e
      · rw [if_neg hk] at e; exact Or.inr e
    · exact Or.inr h.2.2.1
  refine ⟨h1, fun q a b => h2 q (by omega) (by omega), h3, h63, fun hk => ⟨h2 26 (by omega) (by omega), h2 27 (by omega) (by omega)⟩, ?_⟩
  rcases h4 with ⟨a, b, c, d, -⟩ | ⟨hk, K, S, V, N, P, J, t, hx, ⟨a1, a2, a3, a4, a5, a6, -⟩ | ⟨a1, a2, -, a4⟩⟩
  · exact Or.inl ⟨a, b, c, d⟩
  · exact Or.inr ⟨hk, K, S, V, N, P, J, t, hx, Or.inl ⟨a1, a2, a3, a4.2.2.2, a5, a6⟩⟩
  · exact Or.inr ⟨hk, K, S, V, N, P, J, t, hx, Or.inr ⟨a1, fun _ => ⟨a2 26 (by decide) (by decide), a2 27 (by decide) (by decide)⟩, a4⟩⟩
/-- which text has changed on both sides, and how -/
def zTxH (j : Int) (μ μ1 μ2 : pm_Mem) : Prop := ((∀ q : Nat, 17 ≤ q → q ≤ 28 → ((q : Int) < 17 + 3 * j ∨ 19 + 3 * j < (q : Int)) → μ1 q = μ q) ∧ (j ≠ 0 → μ2 213 0 = μ1 213 0 ∧ zMy μ1 μ2) ∧ (j ≠ 1 → μ2 205 33 = μ1 205 33 ∧ ∀ i, i < 48 → μ2 221 i = μ1 221 i) ∧ (j ≠ 2 → μ2 205 35 = μ1 205 35 ∧ ∀ i, i < 64 → μ2 222 i = μ1 222 i) ∧ (j ≠ 3 → μ2 205 37 = μ1 205 37)) ∧ ((j ≠ 1 → j ≠ 2 → μ1 96 3 = μ 96 3 ∧ μ2 205 3 = μ1 205 3) ∧ (j = 1 ∨ j = 2 → μ1 96 3 = 0 ∧ μ2 205 3 = 0)) ∧ (0 ≤ j → ∃ K V J t, t ≤ 16 ∧ zTxo (zLk j (μ 3 0) (μ 3 1) K V) K J t 0 0 ∧ zCeF j K V J μ1 t ∧ (j = 0 → μ2 213 0 = ((t : Nat) : Int) ∧ zLr K V J 0 0 400 μ2 t) ∧ (j = 1 → μ2 205 33 = ((t : Nat) : Int) ∧ zcTn K V J t μ2) ∧ (j = 2 → μ2 205 35 = ((t : Nat) : Int) ∧ zcDn K V J t μ2) ∧ (j = 3 → μ2 205 37 = ((t : Nat) : Int)))
/-- the reference: what more is told -/
def zTxG (k : Int) (K S V : Int → Int) (sh cu : Int) (μ0 : pm_Mem) (μ : pm_Mem) : Prop := μ 205 5 = μ0 205 5 ∧ ∃ J t f q, zTxo (zLk k sh cu K V) K J t f q ∧ ((k ≠ 0 ∨ f ≠ 0 → μ 213 0 = μ0 213 0 ∧ zMy μ0 μ) ∧ (k ≠ 1 ∨ f ≠ 0 → μ 205 33 = μ0 205 33 ∧ ∀ i, i < 48 → μ 221 i = μ0 221 i) ∧ (k ≠ 2 ∨ f ≠ 0 → μ 205 35 = μ0 205 35 ∧ ∀ i, i < 64 → μ 222 i = μ0 222 i) ∧ (k ≠ 3 ∨ f ≠ 0 → μ 205 37 = μ0 205 37)) ∧ ((f ≠ 0 ∨ (k ≠ 1 ∧ k ≠ 2) → μ 205 3 = μ0 205 3) ∧ (f = 0 → k = 1 ∨ k = 2 → μ 205 3 = 0)) ∧ (f = 0 → (k = 0 → μ 213 0 = ((t : Nat) : Int) ∧ zLr K V J 0 0 400 μ t) ∧ (k = 1 → μ 205 33 = ((t : Nat) : Int) ∧ zcTn K V J t μ) ∧ (k = 2 → μ 205 35 = ((t : Nat) : Int) ∧ zcDn K V J t μ) ∧ (k = 3 → μ 205 37 = ((t : Nat) : Int)))
theorem zTxG_0 {K S V : Int → Int} {sh cu x : Int} {μ0 μ : pm_Mem} (h : zQl K S V μ0 x μ) : zTxG 0 K S V sh cu μ0 μ := by
  obtain ⟨⟨f1, f2⟩, -, h2, h3, -, J, t, f, q, h5, h6⟩ := h
  have e : ∀ c : Int, c = 3 ∨ c = 5 ∨ c = 33 ∨ c = 35 ∨ c = 37 → μ 205 c = μ0 205 c := fun c hc => h3 c (by omega) (by omega) (by omega) (by omega) (by omega) (by omega) (by omega) (by omega) (by omega) (by omega) (by omega) (by omega) (by omega) (by omega)
  refine ⟨e 5 (by omega), J, t, f, q, by rw [zLk_0]; exact h5, ⟨fun hf => ?_, fun _ => ⟨e 33 (by omega), f1⟩, fun _ => ⟨e 35 (by omega), f2⟩, fun _ => e 37 (by omega)⟩, ⟨fun _ => e 3 (by omega), fun _ hk => by omega⟩, fun hf => ⟨fun _ => ?_, fun hk => by omega, fun hk => by omega, fun hk => by omega⟩⟩
  · rcases h6 with ⟨-, -, a3, -⟩ | ⟨-, -, -, -, a5, a6⟩
    · omega
    · exact ⟨a5, a6⟩
  · rcases h6 with ⟨-, -, -, -, -, a6, a7⟩ | ⟨-, a2, -⟩
    · exact ⟨a6, a7⟩
    · exact absurd hf a2
theorem zTxG_1 {K S V : Int → Int} {sh cu x : Int} {μ0 μ : pm_Mem} (h : zQh (zLi0 (zPa1 K V sh cu) K 318) K S μ0 x μ) (g : zQh1 (zLi0 (zPa1 K V sh cu) K 318) K S V μ0 x μ) : zTxG 1 K S V sh cu μ0 μ := by
  obtain ⟨-, h2, h3, -⟩ := h
  obtain ⟨⟨g1, g2⟩, J, t, f, q, h5, h6, g3⟩ := g
  have e : ∀ c : Int, c = 5 ∨ c = 37 → μ 205 c = μ0 205 c := fun c hc => h3 c (by omega) (by omega) (by omega) (by omega) (by omega) (by omega) (by omega) (by omega) (by omega) (by omega) (by omega) (by omega) (by omega) (by omega) (by omega) (by omega) (by omega)
  refine ⟨e 5 (by omega), J, t, f, q, by rw [zLk_1]; exact h5, ⟨fun _ => ⟨by rw [h2 213 (by decide) (by decide) (by decide) (by decide) (by decide) (by decide) (by decide) (by decide) (by decide) (by decide) (by decide)], g1⟩, fun hf => ?_, fun _ => ⟨g3, g2⟩, fun _ => e 37 (by omega)⟩, ⟨fun hf => ?_, fun hf _ => ?_⟩, fun hf => ⟨fun hk => by omega, fun _ => ?_, fun hk => by omega, fun hk => by omega⟩⟩
  all_goals rcases h6 with ⟨-, -, a3, a4, a5, a6⟩ | ⟨-, a2, a3, a4, a5⟩
  all_goals first
    | omega
    | exact ⟨a3, a5⟩
    | exact ⟨a4, a6⟩
    | exact a4
    | exact a5
theorem zTxG_2 {K S V : Int → Int} {sh cu x : Int} {μ0 μ : pm_Mem} (h : zQh (zLi0 (zPa2 K V sh cu) K 322) K S μ0 x μ) (g : zQh2 (zLi0 (zPa2 K V sh cu) K 322) K S V μ0 x μ) : zTxG 2 K S V sh cu μ0 μ := by
  obtain ⟨-, h2, h3, -⟩ := h
  obtain ⟨⟨g1, g2⟩, J, t, f, q, h5, h6, g3⟩ := g
  have e : ∀ c : Int, c = 5 ∨ c = 37 → μ 205 c = μ0 205 c := fun c hc => h3 c (by omega) (by omega) (by omega) (by omega) (by omega) (by omega) (by omega) (by omega) (by omega) (by omega) (by omega) (by omega) (by omega) (by omega) (by omega) (by omega) (by omega)
  refine ⟨e 5 (by omega), J, t, f, q, by rw [zLk_2]; exact h5, ⟨fun _ => ⟨by rw [h2 213 (by decide) (by decide) (by decide) (by decide) (by decide) (by decide) (by decide) (by decide) (by decide) (by decide) (by decide)], g1⟩, fun _ => ⟨g3, g2⟩, fun hf => ?_, fun _ => e 37 (by omega)⟩, ⟨fun hf => ?_, fun hf _ => ?_⟩, fun hf => ⟨fun hk => by omega, fun hk => by omega, fun _ => ?_, fun hk => by omega⟩⟩
  all_goals rcases h6 with ⟨-, -, a3, a4, a5, a6⟩ | ⟨-, a2, a3, a4, a5⟩
  all_goals first
    | omega
    | exact ⟨a3, a5⟩
    | exact ⟨a4, a6⟩
    | exact a4
    | exact a5
theorem zTxG_3 {K S V : Int → Int} {sh cu x : Int} {μ0 μ : pm_Mem} (h : zQz K S V sh cu μ0 x μ) : zTxG 3 K S V sh cu μ0 μ := by
  obtain ⟨g1, -, h2, h3, f1, f2, J, t, f, q, h5, h6⟩ := h
  have e : ∀ c : Int, c = 3 ∨ c = 5 ∨ c = 33 ∨ c = 35 → μ 205 c = μ0 205 c := fun c hc => h3 c (by omega) (by omega) (by omega) (by omega) (by omega) (by omega) (by omega) (by omega) (by omega) (by omega) (by omega) (by omega) (by omega) (by omega) (by omega)
  refine ⟨e 5 (by omega), J, t, f, q, by rw [zLk_3]; exact h5, ⟨fun _ => ⟨by rw [h2 213 (by decide) (by decide) (by decide) (by decide) (by decide) (by decide) (by decide) (by decide) (by decide) (by decide) (by decide)], g1⟩, fun _ => ⟨e 33 (by omega), f1⟩, fun _ => ⟨e 35 (by omega), f2⟩, fun hf => ?_⟩, ⟨fun _ => e 3 (by omega), fun _ hk => by omega⟩, fun hf => ⟨fun hk => by omega, fun hk => by omega, fun hk => by omega, fun _ => ?_⟩⟩
  · rcases h6 with ⟨-, -, a3, -⟩ | ⟨-, -, -, -, -, a6⟩
    · omega
    · exact a6
  · rcases h6 with ⟨-, -, -, -, -, -, a7⟩ | ⟨-, a2, -⟩
    · exact a7
    · exact absurd hf a2
theorem zTxH_of {k x : Int} {μ μ1 μ2 : pm_Mem} {K S V : Int → Int} {J : Nat → Int} {t : Nat} (hk : 0 ≤ k ∧ k ≤ 3) (hf : ∀ q : Nat, ((q : Int) < 17 + 3 * k ∨ 19 + 3 * k < (q : Int) ∨ k < 0 ∨ 3 < k) → (q < 88 ∨ q = 89 ∨ 96 < q) → μ1 q = μ q)
    (hc : (x = ((t : Nat) : Int) ∧ t ≤ 16 ∧ zTxo (zLk k (μ 3 0) (μ 3 1) K V) K J t 0 0 ∧ zCeF k K V J μ1 t ∧ μ1 88 2 = 0 ∧ μ1 88 3 = -1 ∧ μ1 96 3 = if k = 1 ∨ k = 2 then 0 else μ 96 3) ∨ (x = -1 ∧ (∀ q : Nat, 17 ≤ q → q ≤ 28 → μ1 q = μ q) ∧ μ1 96 3 = μ 96 3 ∧ ∃ f q, zTxo (zLk k (μ 3 0) (μ 3 1) K V) K J t f q ∧ f ≠ 0 ∧ zFl S f q μ1))
    (hr : zTxG k K S V (μ 3 0) (μ 3 1) μ1 μ2) : μ2 205 5 = μ1 205 5 ∧ ∃ j : Int, zTxH j μ μ1 μ2 := by
  obtain ⟨r5, J', t', f', q', d0, ⟨d1, d2, d3, d4⟩, ⟨d5, d6⟩, d7⟩ := hr
  refine ⟨r5, ?_⟩
  rcases hc with ⟨-, a2, a3, a4, -, -, a7⟩ | ⟨-, a2, a3, f, q, a5, a6, -⟩
  · obtain ⟨e1, e2, -, e4⟩ := zTxo_det zLk_det zLk_kw a3 d0
    have hf0 : f' = 0 := e2.symm
    obtain ⟨g0, g1, g2, g3⟩ := d7 hf0
    subst e1
    refine ⟨k, ⟨fun q h1 h2 h3 => hf q (by omega) (by omega), fun h => d1 (Or.inl h), fun h => d2 (Or.inl h), fun h => d3 (Or.inl h), fun h => d4 (Or.inl h)⟩, ⟨fun h1 h2 => ⟨by rw [a7, if_neg (by omega)], d5 (Or.inr ⟨h1, h2⟩)⟩, fun h => ⟨by rw [a7, if_pos h], d6 hf0 h⟩⟩, fun _ => ⟨K, V, J, t, a2, a3, a4, fun h => ⟨(g0 h).1, fun s hs => ?_⟩, fun h => ⟨(g1 h).1, fun s hs => ?_⟩, fun h => ⟨(g2 h).1, fun s hs => ?_⟩, g3⟩⟩
    · rw [e4 s (by omega)]; exact (g0 h).2 s hs
    · rw [e4 s (by omega)]; exact (g1 h).2 s hs
    · rw [e4 s (by omega)]; exact (g2 h).2 s hs
  · obtain ⟨-, e2, -, -⟩ := zTxo_det zLk_det zLk_kw a5 d0
    have hf0 : f' ≠ 0 := by omega
    exact ⟨-1, ⟨fun q h1 h2 _ => a2 q h1 h2, fun _ => d1 (Or.inr hf0), fun _ => d2 (Or.inr hf0), fun _ => d3 (Or.inr hf0), fun _ => d4 (Or.inr hf0)⟩, ⟨fun _ _ => ⟨a3, d5 (Or.inl hf0)⟩, fun h => by omega⟩, fun h => by omega⟩
