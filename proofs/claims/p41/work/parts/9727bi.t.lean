/-! THE LAW read by the class: its lines and steps -/
/-- a number told is none below 0 -/
theorem zLex_V {T : Int → Int} {L n : Int} {K S V : Int → Int} {P : Nat → Int} (h : zLex T L K S V n P) {j : Int} (h0 : 0 ≤ j) (h1 : j ≤ n) (hk : K j = 256) : 0 ≤ V j ∧ V j ≤ 9999 := by
  by_cases hj : j < n
  · obtain ⟨-, -, -, hr, ⟨d1, d2, d3⟩, f⟩ := h.2.1.2 j.toNat (by omega)
    rw [show ((j.toNat : Nat) : Int) = j by omega] at hr d1 d2 d3 f
    have hd : zbD (T (S j)) := by
      by_cases hl : zbL (T (S j))
      · rcases d1 hl with ⟨w, w1, w2, -⟩ | ⟨w1, -⟩ <;> omega
      · by_cases hd : zbD (T (S j))
        · exact hd
        · rcases d3 hl hd with ⟨c1, c2⟩ | ⟨c1, c2⟩ <;> omega
    have h4 : P (j.toNat + 1) - S j ≤ 4 := by
      rcases d2 hd with ⟨a, -⟩ | ⟨-, a⟩
      · exact a
      · omega
    have := zNum_bd (T := T) (s := S j) (P (j.toNat + 1) - S j).toNat (fun x x0 x1 => (hr.2.2.1 hd).1 x x0 (by have := hr.1; omega))
    rw [f hk]
    exact ⟨this.1, this.2.2.2.2.2 (by omega)⟩
  · have hjn : j = n := by omega
    have h257 := h.2.2.2.1
    rw [hjn] at hk
    omega
/-- where the tokens end, and their numbers -/
def zKn (K V : Int → Int) (n : Int) : Prop := K n = 257 ∧ ∀ i : Int, 0 ≤ i → i ≤ n → K i = 256 → 0 ≤ V i
/-- of i lines, their cells and steps -/
def zLc (K V : Int → Int) (J : Nat → Int) (C D : Int → Int) (cl : Int) (i : Nat) : Prop := ∀ t : Nat, t < i → ∃ (E B : List zIw) (q : Int), zPa0 K V (J t + 1) 0 q E B ∧ C ((t : Int) * 4 + 0) = K (J t) ∧ 0 ≤ C ((t : Int) * 4 + 1) ∧ C ((t : Int) * 4 + 2) = C ((t : Int) * 4 + 1) + (E.length : Int) ∧ C ((t : Int) * 4 + 3) = C ((t : Int) * 4 + 1) + (E.length : Int) + (B.length : Int) ∧ C ((t : Int) * 4 + 3) ≤ cl ∧ zSg D (C ((t : Int) * 4 + 1)) (E ++ B)
theorem zLc_cg {K V : Int → Int} {J J' : Nat → Int} {C D C' D' : Int → Int} {cl cl' : Int} {i : Nat} (h : zLc K V J C D cl i) (eJ : ∀ t, t < i → J' t = J t) (e1 : ∀ z : Int, 0 ≤ z → z < (i : Int) * 4 → C' z = C z) (e2 : ∀ z : Int, 0 ≤ z → z < cl → D' z = D z) (e3 : cl ≤ cl') : zLc K V J' C' D' cl' i := fun t ht => by
  obtain ⟨E, B, q, a0, a1, a2, a3, a4, a5, a6⟩ := h t ht
  refine ⟨E, B, q, by rw [eJ t ht]; exact a0, by rw [eJ t ht, e1 _ (by omega) (by omega)]; exact a1, by rw [e1 _ (by omega) (by omega)]; exact a2, by rw [e1 _ (by omega) (by omega), e1 _ (by omega) (by omega)]; exact a3, by rw [e1 _ (by omega) (by omega), e1 _ (by omega) (by omega)]; exact a4, by rw [e1 _ (by omega) (by omega)]; omega, ?_⟩
  rw [e1 _ (by omega) (by omega)]
  exact zSg_cg a6 (fun z z0 z1 => e2 z (by omega) (by rw [List.length_append] at z1; omega))
theorem zLc_add {K V : Int → Int} {J : Nat → Int} {C D C' D' : Int → Int} {cl cl' p q : Int} {E B : List zIw} {i : Nat} (h : zLc K V J C D cl i) (h0 : 0 ≤ cl) (hP : zPa0 K V (J i + 1) 0 q E B) (eC : C' = zpu (zpu (zpu (zpu C ((i : Int) * 4 + 0) (K (J i))) ((i : Int) * 4 + 1) cl) ((i : Int) * 4 + 2) (cl + (E.length : Int))) ((i : Int) * 4 + 3) (cl + (E.length : Int) + (B.length : Int))) (hS : zSg D' cl (E ++ B)) (hD : ∀ z : Int, z < cl → D' z = D z) (hc : cl' = cl + (E.length : Int) + (B.length : Int)) : zLc K V (zJu J (i + 1) p) C' D' cl' (i + 1) := fun t ht => by
  rw [zJu_ne (by omega)]
  by_cases hti : t < i
  · exact zLc_cg (J' := J) h (fun _ _ => rfl) (fun z z0 z1 => by rw [eC, zpu_ne (by omega), zpu_ne (by omega), zpu_ne (by omega), zpu_ne (by omega)]) (fun z _ z1 => hD z z1) (by omega) t hti
  · obtain rfl : t = i := by omega
    have e0 : C' ((t : Int) * 4 + 0) = K (J t) := by rw [eC, zpu_ne (by omega), zpu_ne (by omega), zpu_ne (by omega), zpu_eq]
    have e1 : C' ((t : Int) * 4 + 1) = cl := by rw [eC, zpu_ne (by omega), zpu_ne (by omega), zpu_eq]
    have e2 : C' ((t : Int) * 4 + 2) = cl + (E.length : Int) := by rw [eC, zpu_ne (by omega), zpu_eq]
    have e3 : C' ((t : Int) * 4 + 3) = cl + (E.length : Int) + (B.length : Int) := by rw [eC, zpu_eq]
    exact ⟨E, B, q, hP, e0, by omega, by omega, by omega, by omega, by rw [e1]; exact hS⟩
/-- what is so while lines are read -/
def zLd (K V : Int → Int) (J : Nat → Int) (μ : pm_Mem) (i : Nat) : Prop := zLc K V J (μ 94) (μ 95) (μ 93 3) i ∧ 0 ≤ μ 93 3 ∧ μ 93 3 ≤ J i
/-- the class reads a text: fine or not, at line i -/
def zRu (L : Int → Int → Int → Int → Prop) (ce : (Nat → Int) → pm_Mem → Nat → Prop) (K S V : Int → Int) (n : Int) (μ0 : pm_Mem) (x i : Int) (μ : pm_Mem) : Prop := (0 ≤ i ∧ i ≤ 17) ∧ zCg μ0 μ ∧ ((x = 1 ∧ i ≤ 16 ∧ μ 93 2 = i ∧ ∃ J, zCh L J i.toNat ∧ zCq K S V n (J i.toNat) μ ∧ ce J μ i.toNat) ∨ (x = 0 ∧ ∃ J t f q, zTxo L K J t f q ∧ f ≠ 0 ∧ zFl S f q μ))
/-- the class has read a text -/
def zRuo (L : Int → Int → Int → Int → Prop) (ce : (Nat → Int) → pm_Mem → Nat → Prop) (K S : Int → Int) (μ0 : pm_Mem) (y : Int) (μ : pm_Mem) : Prop := zCg μ0 μ ∧ ((y = 1 ∧ ∃ J t, t ≤ 16 ∧ μ 93 2 = ((t : Nat) : Int) ∧ zTxo L K J t 0 0 ∧ ce J μ t ∧ μ 88 2 = 0 ∧ μ 88 3 = -1) ∨ (y = 0 ∧ ∃ J t f q, zTxo L K J t f q ∧ f ≠ 0 ∧ zFl S f q μ))
section ZRU
variable {L : Int → Int → Int → Int → Prop} {ce : (Nat → Int) → pm_Mem → Nat → Prop} {K S V : Int → Int} {n : Int} {μ0 μ μ' : pm_Mem} {x i : Int}
theorem zRu_01 (h : zRu L ce K S V n μ0 x i μ) : x = 0 ∨ x = 1 := by
  rcases h.2.2 with h | h
  · exact Or.inr h.1
  · exact Or.inl h.1
theorem zRu_1 (h : zRu L ce K S V n μ0 x i μ) (hx : x ≠ 0) : i ≤ 16 ∧ μ 93 2 = i ∧ ∃ J, zCh L J i.toNat ∧ zCq K S V n (J i.toNat) μ ∧ ce J μ i.toNat := by
  rcases h.2.2 with h | h
  · exact h.2
  · exact absurd h.1 hx
theorem zRu_0 (h : zRu L ce K S V n μ0 x i μ) (hx : x = 0) : zRuo L ce K S μ0 x μ := by
  rcases h.2.2 with g | g
  · omega
  · exact ⟨h.2.1, Or.inr g⟩
theorem zRu_17 (h : zRu L ce K S V n μ0 x i μ) (hx : 16 < i) : zRuo L ce K S μ0 x μ := by
  rcases h.2.2 with g | g
  · omega
  · exact ⟨h.2.1, Or.inr g⟩
theorem zRu_e (h : zRu L ce K S V n μ0 x i μ) (hx : x ≠ 0) {J : Nat → Int} (hch : zCh L J i.toNat) (hce : ce J μ i.toNat) (hK : K (J i.toNat) = 257) (hc : zCq K S V n (J i.toNat) μ) : zRuo L ce K S μ0 x μ := by
  obtain ⟨a, b, -⟩ := zRu_1 h hx
  have := h.1
  exact ⟨h.2.1, Or.inl ⟨by have := zRu_01 h; omega, J, i.toNat, by omega, by omega, ⟨hch, Or.inl ⟨rfl, hK⟩⟩, hce, hc.2.2.2.2.1, hc.2.2.2.2.2⟩⟩
theorem zRu_ok {p : Int} {J : Nat → Int} (hi : 0 ≤ i ∧ i ≤ 15) (hg : zCg μ0 μ') (hln : μ' 93 2 = i + 1) (hch : zCh L J i.toNat) (hL : L i (J i.toNat) 0 p) (hc : zCq K S V n p μ') (hce : ce (zJu J (i.toNat + 1) p) μ' (i.toNat + 1)) : zRu L ce K S V n μ0 1 (i + 1) μ' := by
  have e : (i + 1).toNat = i.toNat + 1 := by omega
  refine ⟨⟨by omega, by omega⟩, hg, Or.inl ⟨rfl, by omega, hln, zJu J (i.toNat + 1) p, ?_, ?_, ?_⟩⟩
  · rw [e]
    exact zCh_add hch (by rw [show ((i.toNat : Nat) : Int) = i by omega]; exact hL)
  · rw [e, zJu_eq]
    exact hc
  · rw [e]
    exact hce
theorem zRu_no {f q : Int} {J : Nat → Int} (hi : 0 ≤ i ∧ i ≤ 16) (hg : zCg μ0 μ') (hch : zCh L J i.toNat) (hK : K (J i.toNat) ≠ 257) (hL : L i (J i.toNat) f q) (hf : f ≠ 0) (hl : zFl S f q μ') : zRu L ce K S V n μ0 0 (i + 1) μ' :=
  ⟨⟨by omega, by omega⟩, hg, Or.inr ⟨rfl, J, i.toNat, f, q, ⟨hch, Or.inr ⟨hf, hK, by rw [show ((i.toNat : Nat) : Int) = i by omega]; exact hL⟩⟩, hf, hl⟩⟩
end ZRU
theorem zRu_st {L : Int → Int → Int → Int → Prop} {ce : (Nat → Int) → pm_Mem → Nat → Prop} {K S V : Int → Int} {n : Int} {μ : pm_Mem} (h : zCq K S V n 0 μ) (h2 : μ 93 2 = 0) (hce : ∀ J, J 0 = 0 → ce J μ 0) : zRu L ce K S V n μ 1 0 μ :=
  ⟨⟨by omega, by omega⟩, ⟨fun _ _ _ _ _ => rfl, fun _ _ _ _ => rfl, fun _ _ _ => rfl⟩, Or.inl ⟨rfl, by omega, h2, fun _ => 0, ⟨rfl, fun t ht => absurd ht (by omega)⟩, h, hce _ rfl⟩⟩
/-- the class has read its tape as a text -/
def zRuf (L : (Int → Int) → (Int → Int) → Int → Int → Int → Int → Prop) (ce : (Int → Int) → (Int → Int) → (Nat → Int) → pm_Mem → Nat → Prop) (μ : pm_Mem) (y : Int) (μ' : pm_Mem) : Prop := μ' 88 1 = 0 ∧ (∀ r, r ≠ 88 → r ≠ 90 → r ≠ 91 → r ≠ 92 → r ≠ 93 → r ≠ 94 → r ≠ 95 → μ' r = μ r) ∧ ∃ K S V N P J t, zLex (μ 89) (μ 88 1) K S V N P ∧ ((y = 1 ∧ t ≤ 16 ∧ μ' 93 2 = ((t : Nat) : Int) ∧ zTxo (L K V) K J t 0 0 ∧ ce K V J μ' t ∧ μ' 88 2 = 0 ∧ μ' 88 3 = -1) ∨ (y = 0 ∧ ∃ f q, zTxo (L K V) K J t f q ∧ f ≠ 0 ∧ zFl S f q μ'))
theorem zRuf_of {L : (Int → Int) → (Int → Int) → Int → Int → Int → Int → Prop} {ce : (Int → Int) → (Int → Int) → (Nat → Int) → pm_Mem → Nat → Prop} {K S V : Int → Int} {N y : Int} {P : Nat → Int} {μ μ0 μ' : pm_Mem} (h : zRuo (L K V) (ce K V) K S μ0 y μ') (e1 : μ0 88 1 = 0) (fr : ∀ r, r ≠ 88 → r ≠ 90 → r ≠ 91 → r ≠ 92 → r ≠ 93 → r ≠ 94 → r ≠ 95 → μ0 r = μ r) (hx : zLex (μ 89) (μ 88 1) K S V N P) : zRuf L ce μ y μ' := by
  refine ⟨(h.1.2.1 1 (by decide) (by decide) (by decide)).trans e1, fun r a b c d e f g => (h.1.1 r a e f g).trans (fr r a b c d e f g), ?_⟩
  rcases h.2 with ⟨h1, J, t, h2, h3, h4, h5, h6⟩ | ⟨h1, J, t, f, q, h2, h3, h4⟩
  · exact ⟨K, S, V, N, P, J, t, hx, Or.inl ⟨h1, h2, h3, h4, h5, h6⟩⟩
  · exact ⟨K, S, V, N, P, J, t, hx, Or.inr ⟨h1, f, q, h2, h3, h4⟩⟩
/-- a line read: from where it began to where it ends -/
theorem zLd_add {K V : Int → Int} {J : Nat → Int} {μ mA mB mC m : pm_Mem} {i p q : Int} {E B : List zIw} (hi : 0 ≤ i ∧ i ≤ 15) (hce : zLc K V J (μ 94) (μ 95) (μ 93 3) i.toNat) (h0 : 0 ≤ μ 93 3) (h1 : μ 93 3 ≤ J i.toNat) (hP : zPa0 K V (J i.toNat + 1) 0 q E B) (m0 : mA 94 = zpu (μ 94) (i * 4 + 0) (K (J i.toNat))) (w0 : mA 95 = μ 95) (v0 : mA 93 3 = μ 93 3) (hE : zCe0 mA mB E B i) (m2 : mC 94 = mB 94) (w2 : mC 95 = mB 95) (v2 : mC 93 3 = mB 93 3) (hl : mB 93 3 + (J i.toNat + 1) ≤ mA 93 3 + q) (f4 : m 94 = mC 94) (f5 : m 95 = mC 95) (f3 : m 93 3 = mC 93 3) (hp : p = q + 1 := by rfl) : zLd K V (zJu J (i.toNat + 1) p) m (i.toNat + 1) := by
  obtain ⟨a, b, c, d⟩ := hE
  have ei : ((i.toNat : Nat) : Int) = i := by omega
  refine ⟨zLc_add (E := E) (B := B) (cl := μ 93 3) hce h0 hP ?_ ?_ (fun z hz => ?_) ?_, by omega, ?_⟩
  · rw [f4, m2, d, m0, v0, ei]
  · rw [f5, w2, ← v0]; exact a
  · rw [f5, w2, c z (by omega), w0]
  · rw [f3, v2, b, v0]
  · rw [zJu_eq]
    omega
