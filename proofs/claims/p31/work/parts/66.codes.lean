/-! codes that can be reckoned; copies between regions of like types; numbers -/
theorem zSafe_push {op arg : Int → Int} {n : Nat} {k h : Int} (hs : zSafe op arg (n + 1) k h) (ho : op k = 0 ∨ op k = 1) : (op k = 1 → 0 ≤ arg k ∧ arg k ≤ 10) ∧ zSafe op arg n (k + 1) (h + 1) := by
  rcases hs with ⟨-, h2, h3⟩ | ⟨h1, -⟩ | ⟨h1, h2, -⟩
  · exact ⟨h2, h3⟩
  · omega
  · omega
theorem zSafe_not {op arg : Int → Int} {n : Nat} {k h : Int} (hs : zSafe op arg (n + 1) k h) (ho : op k = 9) : 1 ≤ h ∧ zSafe op arg n (k + 1) h := by
  rcases hs with ⟨h1, -⟩ | ⟨-, h2, h3⟩ | ⟨-, -, h1, -⟩
  · omega
  · exact ⟨h2, h3⟩
  · omega
theorem zSafe_two {op arg : Int → Int} {n : Nat} {k h : Int} (hs : zSafe op arg (n + 1) k h) (h0 : op k ≠ 0) (h1 : op k ≠ 1) (h9 : op k ≠ 9) : 2 ≤ h ∧ (op k = 5 → op (k - 1) = 0 ∧ 1 ≤ arg (k - 1)) ∧ zSafe op arg n (k + 1) (h - 1) := by
  rcases hs with ⟨q, -⟩ | ⟨q, -⟩ | ⟨-, -, -, q⟩
  · omega
  · omega
  · exact q
theorem ztdiv {x y : Int} (hy : 1 ≤ y) (h : pm_in x) : pm_in (x.tdiv y) := by
  unfold pm_in at h ⊢
  by_cases hx : 0 ≤ x
  · have h1 := Int.tdiv_nonneg hx (show 0 ≤ y by omega)
    have h2 := Int.tdiv_le_self y hx
    omega
  · have h0 : 0 ≤ -x := by omega
    have h1 := Int.tdiv_nonneg h0 (show 0 ≤ y by omega)
    have h2 := Int.tdiv_le_self y h0
    rw [Int.neg_tdiv] at h1 h2
    omega
/-- all types of a region lie within the ints -/
noncomputable def zckr (r n : Nat) : Bool := match zRT2 r with
  | some g => Nat.blt r zNR && Nat.beq (sx_wd g) n && (List.range n).all (fun k => match sx_ft g k with
    | some t => Nat.beq t.1 0 && decide (-2147483648 ≤ t.2.1) && decide (t.2.2 ≤ 2147483647)
    | none => false)
  | none => false
theorem zT_rng {μ : pm_Mem} (hT : zTJ μ) {r n : Nat} (h : zckr r n = true) {i : Int} (h0 : 0 ≤ i) (h1 : i < n) : -2147483648 ≤ μ r i ∧ μ r i ≤ 2147483647 := by
  unfold zckr at h
  split at h
  · rename_i g hg
    simp only [Bool.and_eq_true] at h
    obtain ⟨⟨a1, a2⟩, a3⟩ := h
    have a1 := Nat.blt_eq.mp a1
    have a2 := Nat.eq_of_beq_eq_true a2
    have := List.all_eq_true.mp a3 i.toNat (List.mem_range.mpr (by omega))
    split at this
    · rename_i t ht
      simp only [Bool.and_eq_true, decide_eq_true_eq] at this
      obtain ⟨⟨b1, b2⟩, b3⟩ := this
      have b1 := Nat.eq_of_beq_eq_true b1
      have := hT.1 r g i.toNat t a1 hg (by omega) ht (by omega)
      rw [show ((i.toNat : Nat) : Int) = i by omega] at this
      omega
    · cases this
  · cases h
/-- a place of a region takes what stands at a place of the same type -/
theorem zT_cpy {μ : pm_Mem} (hT : zTJ μ) {r r' k k' : Nat} {g g' : sx_Rg} (hg : zRT2 r = some g) (hg' : zRT2 r' = some g') (hr' : r' < zNR) (hk' : k' < sx_wd g') (hft : sx_ft g k = sx_ft g' k') (hgd : zgd r = false) {i j : Int} (hi : i = (k : Int)) (hj : j = (k' : Int)) : zTJ (pm_up μ r i (μ r' j)) := by
  subst hi; subst hj
  refine ⟨?_, zJ_up hgd hT.2⟩
  intro r1 g1 k1 t e1 e2 e3 e4 e5
  unfold pm_up
  split
  · rename_i hc
    obtain ⟨rfl, hkk⟩ := hc
    rw [hg] at e2
    cases e2
    have : k1 = k := by omega
    subst this
    rw [hft] at e4
    exact hT.1 r' g' k' t hr' hg' hk' e4 e5
  · exact hT.1 r1 g1 k1 t e1 e2 e3 e4 e5
set_option maxRecDepth 100000 in
theorem zg206 : zRT2 206 = some zG206 := rfl
set_option maxRecDepth 100000 in
theorem zg207 : zRT2 207 = some zG207 := rfl
set_option maxRecDepth 100000 in
theorem zgt67 : zG207.2.2.2 = zG206.2.2.2 := by decide +kernel
set_option maxRecDepth 100000 in
theorem zgl6 : zG206.2.2.2.length = 160 := by decide +kernel
theorem zft6 (k : Nat) : sx_ft zG206 k = zG206.2.2.2[k % 160]? := by
  unfold sx_ft
  rw [if_neg (show ¬ zG206.1 = 0 from Nat.one_ne_zero), zgl6]
theorem zft7 (k : Nat) : sx_ft zG207 k = zG206.2.2.2[k % 160]? := by
  unfold sx_ft
  rw [if_neg (show ¬ zG207.1 = 0 from Nat.one_ne_zero), zgt67, zgl6]
theorem zT_shift {μ : pm_Mem} (hT : zTJ μ) {k : Int} (h0 : 0 ≤ k) (h1 : k < 800) : zTJ (pm_up μ 207 k (μ 207 (k + 160))) :=
  zT_cpy hT (k := k.toNat) (k' := k.toNat + 160) zg207 zg207 (by decide) (show k.toNat + 160 < 960 by omega) (by rw [zft7, zft7, Nat.add_mod_right]) rfl (by omega) (by omega)
theorem zT_keep {μ : pm_Mem} (hT : zTJ μ) {k z : Int} (h0 : 0 ≤ k) (h1 : k < 160) (h2 : 0 ≤ z) (h3 : z < 6) : zTJ (pm_up μ 207 (160 * z + k) (μ 206 k)) :=
  zT_cpy hT (k := 160 * z.toNat + k.toNat) (k' := k.toNat) zg207 zg206 (by decide) (show k.toNat < 160 by omega) (by rw [zft7, zft6, Nat.mul_add_mod]) rfl (by omega) (by omega)
