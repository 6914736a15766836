/-! a text told anew on both sides: what comes of it -/
theorem zRf_u {L : (Int → Int) → (Int → Int) → Int → Int → Int → Int → Prop} {ce : (Int → Int) → (Int → Int) → (Nat → Int) → pm_Mem → Nat → Prop} {μ μ' : pm_Mem} {y : Int} (h : zRuf L ce μ y μ') : zRf L (fun _ _ _ _ _ => True) μ y μ' := by
  obtain ⟨h1, h2, K, S, V, N, P, J, t, hx, h3⟩ := h
  refine ⟨h1, h2, K, S, V, N, P, J, t, hx, ?_⟩
  rcases h3 with ⟨a, b, c, d, -, e, f⟩ | h3
  · exact Or.inl ⟨a, b, c, d, trivial, e, f⟩
  · exact Or.inr h3
/-- the lines of a text, by its number -/
def zLk (k sh cu : Int) (K V : Int → Int) : Int → Int → Int → Int → Prop := fun ln j f q => (k = 0 ∧ zLw K V ln j f q) ∨ (k = 1 ∧ zLi0 (zPa1 K V sh cu) K 318 ln j f q) ∨ (k = 2 ∧ zLi0 (zPa2 K V sh cu) K 322 ln j f q) ∨ (k = 3 ∧ zLi0 (zPa3 K V sh cu) K 326 ln j f q)
section ZLK
variable {k sh cu : Int} {K V : Int → Int}
theorem zLk_0 : zLk 0 sh cu K V = zLw K V := by
  funext ln j f q
  refine propext ⟨fun h => ?_, fun h => Or.inl ⟨rfl, h⟩⟩
  rcases h with ⟨-, h⟩ | ⟨h, -⟩ | ⟨h, -⟩ | ⟨h, -⟩
  · exact h
  all_goals exact absurd h (by decide)
theorem zLk_1 : zLk 1 sh cu K V = zLi0 (zPa1 K V sh cu) K 318 := by
  funext ln j f q
  refine propext ⟨fun h => ?_, fun h => Or.inr (Or.inl ⟨rfl, h⟩)⟩
  rcases h with ⟨h, -⟩ | ⟨-, h⟩ | ⟨h, -⟩ | ⟨h, -⟩
  · exact absurd h (by decide)
  · exact h
  all_goals exact absurd h (by decide)
theorem zLk_2 : zLk 2 sh cu K V = zLi0 (zPa2 K V sh cu) K 322 := by
  funext ln j f q
  refine propext ⟨fun h => ?_, fun h => Or.inr (Or.inr (Or.inl ⟨rfl, h⟩))⟩
  rcases h with ⟨h, -⟩ | ⟨h, -⟩ | ⟨-, h⟩ | ⟨h, -⟩
  · exact absurd h (by decide)
  · exact absurd h (by decide)
  · exact h
  · exact absurd h (by decide)
theorem zLk_3 : zLk 3 sh cu K V = zLi0 (zPa3 K V sh cu) K 326 := by
  funext ln j f q
  refine propext ⟨fun h => ?_, fun h => Or.inr (Or.inr (Or.inr ⟨rfl, h⟩))⟩
  rcases h with ⟨h, -⟩ | ⟨h, -⟩ | ⟨h, -⟩ | ⟨-, h⟩
  · exact absurd h (by decide)
  · exact absurd h (by decide)
  · exact absurd h (by decide)
  · exact h
theorem zLk_det : ∀ ln j f q f' q', zLk k sh cu K V ln j f q → zLk k sh cu K V ln j f' q' → f = f' ∧ q = q' := fun ln j f q f' q' h h' => by
  rcases h with ⟨a, h⟩ | ⟨a, h⟩ | ⟨a, h⟩ | ⟨a, h⟩ <;> rcases h' with ⟨b, h'⟩ | ⟨b, h'⟩ | ⟨b, h'⟩ | ⟨b, h'⟩ <;> first
    | exact absurd (a.symm.trans b) (by decide)
    | exact zLw_det h h'
    | exact zLi0_det (fun _ _ _ _ _ => zPa1_det) h h'
    | exact zLi0_det (fun _ _ _ _ _ => zPa2_det) h h'
    | exact zLi0_det (fun _ _ _ _ _ => zPa3_det) h h'
theorem zLk_kw : ∀ ln j q, zLk k sh cu K V ln j 0 q → K j ≠ 257 := fun ln j q h => by
  rcases h with ⟨-, h⟩ | ⟨-, h⟩ | ⟨-, h⟩ | ⟨-, h⟩
  · exact zLw_kw h
  all_goals
    have := (zLi0_kw h).1
    omega
end ZLK
/-- the class: what comes of a text told anew -/
def zTxc (k : Int) (μ : pm_Mem) (x : Int) (μ' : pm_Mem) : Prop := μ' 88 1 = 0 ∧ (∀ q, (q < 17 ∨ 28 < q) → (q < 88 ∨ q = 89 ∨ 96 < q) → μ' q = μ q) ∧ (∀ c : Int, c ≠ 3 → μ' 96 c = μ 96 c) ∧ (μ' 96 3 = 0 ∨ μ' 96 3 = μ 96 3) ∧ (k ≠ 3 → μ' 26 = μ 26 ∧ μ' 27 = μ 27) ∧ (((k < 0 ∨ 3 < k) ∧ x = -1 ∧ μ' 88 2 = 0 ∧ μ' 88 3 = -1) ∨ ((0 ≤ k ∧ k ≤ 3) ∧ ∃ K S V N P J t, zLex (μ 89) (μ 88 1) K S V N P ∧ ((x = ((t : Nat) : Int) ∧ t ≤ 16 ∧ zTxo (zLk k (μ 3 0) (μ 3 1) K V) K J t 0 0 ∧ (k = 3 → zCe3 K V J (μ' 27) t ∧ μ' 26 2 = ((t : Nat) : Int)) ∧ μ' 88 2 = 0 ∧ μ' 88 3 = -1) ∨ (x = -1 ∧ (k = 3 → μ' 26 = μ 26 ∧ μ' 27 = μ 27) ∧ ∃ f q, zTxo (zLk k (μ 3 0) (μ 3 1) K V) K J t f q ∧ f ≠ 0 ∧ zFl S f q μ'))))
theorem zq_r {q r : Nat} {k : Int} (hr : (k ≠ 3 ∧ (r = 17 ∨ r = 20 ∨ r = 23)) ∨ (k = 3 ∧ r = 26)) (a : q < 17 ∨ 28 < q) : q ≠ r ∧ q ≠ r + 1 ∧ q ≠ r + 2 := by omega
theorem zTxc_of {k x : Int} {r : Nat} {L : (Int → Int) → (Int → Int) → Int → Int → Int → Int → Prop} {ce : (Int → Int) → (Int → Int) → (Nat → Int) → (Int → Int) → Nat → Prop} {μ μ' : pm_Mem} (h : zTfc L ce r μ x μ') (hL : ∀ K V, L K V = zLk k (μ 3 0) (μ 3 1) K V) (hk : 0 ≤ k ∧ k ≤ 3) (hr : (k ≠ 3 ∧ (r = 17 ∨ r = 20 ∨ r = 23)) ∨ (k = 3 ∧ r = 26)) (hce : k = 3 → ∀ K V J C t, ce K V J C t → zCe3 K V J C t) : zTxc k μ x μ' := by
  obtain ⟨h1, h2, h3, h4, K, S, V, N, P, J, t, hx, h5⟩ := h
  refine ⟨h1, fun q a b => h2 q (by omega) (by omega) (by omega) (by omega) (by omega) (by omega) (by omega) (zq_r hr a).1 (zq_r hr a).2.1 (zq_r hr a).2.2 (by omega), h3, h4, fun hk3 => ⟨h2 26 (by omega) (by omega) (by omega) (by omega) (by omega) (by omega) (by omega) (by omega) (by omega) (by omega) (by omega), h2 27 (by omega) (by omega) (by omega) (by omega) (by omega) (by omega) (by omega) (by omega) (by omega) (by omega) (by omega)⟩, Or.inr ⟨hk, K, S, V, N, P, J, t, hx, ?_⟩⟩
  rcases h5 with ⟨a1, a2, a3, a4, a5, a6, a7⟩ | ⟨a1, a2, a3, a4, f, q, a5, a6, a7⟩
  · refine Or.inl ⟨a1, a2, by rw [← hL]; exact a3, fun h3 => ?_, a6, a7⟩
    obtain rfl : r = 26 := by omega
    exact ⟨hce h3 _ _ _ _ _ a4, a5⟩
  · refine Or.inr ⟨a1, fun h3 => ?_, f, q, by rw [← hL]; exact a5, a6, a7⟩
    obtain rfl : r = 26 := by omega
    exact ⟨a2, a3⟩
/-- the reference: the same, for letters told -/
def zTxr (k : Int) (K S V : Int → Int) (sh cu : Int) (μ0 : pm_Mem) (x : Int) (μ : pm_Mem) : Prop := μ 205 11 = 0 ∧ (∀ r, r ≠ 205 → (r < 213 ∨ 223 < r) → μ r = μ0 r) ∧ (∀ c : Int, (c = 6 ∨ c = 7 ∨ c = 70) → μ 205 c = μ0 205 c) ∧ (k ≠ 3 → ∀ i, i < 144 → μ 223 i = μ0 223 i) ∧ ∃ J t f q, zTxo (zLk k sh cu K V) K J t f q ∧ ((x = ((t : Nat) : Int) ∧ t ≤ 16 ∧ f = 0 ∧ μ 205 31 = 0 ∧ μ 205 32 = -1 ∧ (k = 3 → ∀ a b : Int, 0 ≤ a → a ≤ 11 → 0 ≤ b → b ≤ 11 → μ 223 (12 * a + b) = zsJ V J t a b)) ∨ (x = -1 ∧ f ≠ 0 ∧ (k = 3 → ∀ i, 0 ≤ i → i < 144 → μ 223 i = μ0 223 i) ∧ μ 205 31 = f ∧ μ 205 32 = S q))
theorem zTxr_0 {K S V : Int → Int} {sh cu x : Int} {μ0 μ : pm_Mem} (h : zQl K S V μ0 x μ) : zTxr 0 K S V sh cu μ0 x μ := by
  obtain ⟨h1, h2, h3, h4, J, t, f, q, h5, h6⟩ := h
  refine ⟨h1, fun r a b => h2 r a (by omega) (by omega) (by omega) (by omega) (by omega) (by omega) (by omega) (by omega) (by omega) (by omega) (by omega), fun c hc => h3 c (by omega) (by omega) (by omega) (by omega) (by omega) (by omega) (by omega) (by omega) (by omega) (by omega) (by omega) (by omega) (by omega) (by omega), fun _ => h4, J, t, f, q, by rw [zLk_0]; exact h5, ?_⟩
  rcases h6 with ⟨a1, a2, a3, a4, a5, -⟩ | ⟨a1, a2, a3, a4⟩
  · exact Or.inl ⟨a1, a2, a3, a4, a5, fun h => absurd h (by decide)⟩
  · exact Or.inr ⟨a1, a2, fun h => absurd h (by decide), a3, a4⟩
theorem zTxr_h {k : Int} {W : Int → Int → Int → Int → Prop} {K S V : Int → Int} {sh cu x : Int} {μ0 μ : pm_Mem} (h : zQh W K S μ0 x μ) (hk : k ≠ 3) (hW : zLk k sh cu K V = W) : zTxr k K S V sh cu μ0 x μ := by
  obtain ⟨h1, h2, h3, h4, J, t, f, q, h5, h6⟩ := h
  refine ⟨h1, fun r a b => h2 r a (by omega) (by omega) (by omega) (by omega) (by omega) (by omega) (by omega) (by omega) (by omega) (by omega), fun c hc => h3 c (by omega) (by omega) (by omega) (by omega) (by omega) (by omega) (by omega) (by omega) (by omega) (by omega) (by omega) (by omega) (by omega) (by omega) (by omega) (by omega) (by omega), fun _ => h4, J, t, f, q, by rw [hW]; exact h5, ?_⟩
  rcases h6 with ⟨a1, a2, a3, a4, a5⟩ | ⟨a1, a2, a3, a4⟩
  · exact Or.inl ⟨a1, a2, a3, a4, a5, fun h => absurd h hk⟩
  · exact Or.inr ⟨a1, a2, fun h => absurd h hk, a3, a4⟩
theorem zTxr_3 {K S V : Int → Int} {sh cu x : Int} {μ0 μ : pm_Mem} (h : zQz K S V sh cu μ0 x μ) : zTxr 3 K S V sh cu μ0 x μ := by
  obtain ⟨h1, h2, h3, h4, h4b, J, t, f, q, h5, h6⟩ := h
  refine ⟨h1, fun r a b => h2 r a (by omega) (by omega) (by omega) (by omega) (by omega) (by omega) (by omega) (by omega) (by omega) (by omega), fun c hc => h3 c (by omega) (by omega) (by omega) (by omega) (by omega) (by omega) (by omega) (by omega) (by omega) (by omega) (by omega) (by omega) (by omega) (by omega) (by omega), fun h => absurd rfl h, J, t, f, q, by rw [zLk_3]; exact h5, ?_⟩
  rcases h6 with ⟨a1, a2, a3, a4, a5, a6, -⟩ | ⟨a1, a2, a3, a4, a5, -⟩
  · exact Or.inl ⟨a1, a2, a3, a5, a6, fun _ => a4⟩
  · exact Or.inr ⟨a1, a2, fun _ => a3, a4, a5⟩
/-- both sides alike behind it -/
def zTxe (μ μ1 : pm_Mem) (μ2 : pm_Mem) : Prop := μ2 205 11 = 0 ∧ (∀ r, r ≠ 205 → (r < 213 ∨ 223 < r) → μ2 r = μ1 r) ∧ (∀ c : Int, (c = 6 ∨ c = 7 ∨ c = 70) → μ2 205 c = μ1 205 c) ∧ (μ2 205 31 = μ1 88 2 ∧ μ2 205 32 = μ1 88 3) ∧ (zLa μ → μ1 3 0 = μ 3 0 → (∀ i, 0 ≤ i → i < 144 → μ1 223 i = μ 223 i) → zLa μ2)
theorem zTxe_of {k x x' : Int} {μ μ1 μ2 : pm_Mem} {K S V : Int → Int} {J : Nat → Int} {t : Nat} (h26 : k ≠ 3 → μ1 26 = μ 26 ∧ μ1 27 = μ 27)
    (hc : (x = ((t : Nat) : Int) ∧ t ≤ 16 ∧ zTxo (zLk k (μ 3 0) (μ 3 1) K V) K J t 0 0 ∧ (k = 3 → zCe3 K V J (μ1 27) t ∧ μ1 26 2 = ((t : Nat) : Int)) ∧ μ1 88 2 = 0 ∧ μ1 88 3 = -1) ∨ (x = -1 ∧ (k = 3 → μ1 26 = μ 26 ∧ μ1 27 = μ 27) ∧ ∃ f q, zTxo (zLk k (μ 3 0) (μ 3 1) K V) K J t f q ∧ f ≠ 0 ∧ zFl S f q μ1))
    (hr : zTxr k K S V (μ 3 0) (μ 3 1) μ1 x' μ2) : x' = x ∧ zTxe μ μ1 μ2 := by
  obtain ⟨r1, r2, r3, r4, J', t', f', q', r5, r6⟩ := hr
  have e3 : μ2 3 = μ1 3 := r2 3 (by decide) (by decide)
  have e26 : μ2 26 = μ1 26 := r2 26 (by decide) (by decide)
  have e27 : μ2 27 = μ1 27 := r2 27 (by decide) (by decide)
  -- lanes that stay
  have stay : (μ1 26 = μ 26 ∧ μ1 27 = μ 27) → (∀ i, 0 ≤ i → i < 144 → μ2 223 i = μ1 223 i) → zLa μ → μ1 3 0 = μ 3 0 → (∀ i, 0 ≤ i → i < 144 → μ1 223 i = μ 223 i) → zLa μ2 := fun hs hl la e30 e223 =>
    zLa_cg la (by rw [e26, hs.1]) (by rw [e27, hs.2]) (fun i i0 i1 => (hl i i0 i1).trans (e223 i i0 i1)) (by rw [e3, e30]; exact Int.le_refl _)
  rcases hc with ⟨a1, a2, a3, a4, a5, a6⟩ | ⟨a1, a2, f, q, a3, a4, a5⟩
  · obtain ⟨d1, d2, -, -⟩ := zTxo_det zLk_det zLk_kw a3 r5
    rcases r6 with ⟨b1, b2, b3, b4, b5, b6⟩ | ⟨-, b2, -⟩
    · refine ⟨by omega, r1, r2, r3, ⟨by omega, by omega⟩, fun la e30 e223 => ?_⟩
      by_cases hk : k = 3
      · subst hk
        rw [zLk_3] at a3 r5
        obtain ⟨c1, c2⟩ := a4 rfl
        obtain ⟨-, -, c3, c4⟩ := zLn_both (F := μ2 223) a3 c1 a2 r5 (fun _ => b6 rfl)
        exact ⟨t, by rw [e26]; exact c2, by rw [e27]; exact c3, by rw [e27, e3, e30]; exact c4⟩
      · exact stay (h26 hk) (fun i i0 i1 => r4 hk i i1) la e30 e223
    · exact absurd d2.symm b2
  · obtain ⟨-, d2, d3, -⟩ := zTxo_det zLk_det zLk_kw a3 r5
    rcases r6 with ⟨-, -, b3, -⟩ | ⟨b1, b2, b3, b4, b5⟩
    · exact absurd (d2.trans b3) a4
    · refine ⟨by omega, r1, r2, r3, ⟨by rw [b4, a5.1, d2], by rw [b5, a5.2, d3 a4]⟩, fun la e30 e223 => ?_⟩
      by_cases hk : k = 3
      · exact stay (a2 hk) (b3 hk) la e30 e223
      · exact stay (h26 hk) (fun i i0 i1 => r4 hk i i1) la e30 e223
