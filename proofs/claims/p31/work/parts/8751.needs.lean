/-! needs and dues: how many they are, kept by what doesn't write there -/
def zNs (μ μ' : pm_Mem) : Prop := μ' 33 1 = μ 33 1 ∧ μ' 35 1 = μ 35 1 ∧ μ' 76 1 = μ 76 1 ∧ μ' 78 1 = μ 78 1
/-- a place that a contract's call leaves as it was -/
noncomputable def zfrc (W r k : Nat) : Bool := match zRT2 r with
  | some g => (!sx_bit W r) && Nat.blt r zNR && Nat.ble g.1 2 && Nat.blt k (sx_wd g) && (match sx_ft g k with
    | some t => Nat.ble t.1 1
    | none => false)
  | none => false
theorem zfr1 {W : Nat} {μ μ' : pm_Mem} (h : ∀ (r : Nat) (g : sx_Rg) (k : Nat) (t : sx_Ty), sx_bit W r = false → r < zNR → zRT2 r = some g → g.1 ≤ 2 → k < sx_wd g → sx_ft g k = some t → t.1 ≤ 1 → μ' r (k : Int) = μ r (k : Int)) {r k : Nat} (hc : zfrc W r k = true) : μ' r (k : Int) = μ r (k : Int) := by
  unfold zfrc at hc
  split at hc
  · rename_i g hg
    simp only [Bool.and_eq_true, Bool.not_eq_true'] at hc
    obtain ⟨⟨⟨⟨c1, c2⟩, c3⟩, c4⟩, c5⟩ := hc
    split at c5
    · rename_i t ht
      exact h r g k t c1 (Nat.blt_eq.mp c2) hg (Nat.le_of_ble_eq_true c3) (Nat.blt_eq.mp c4) ht (Nat.le_of_ble_eq_true c5)
    · cases c5
  · cases hc
theorem zNs_fr {W : Nat} {μ μ' : pm_Mem} (h : ∀ (r : Nat) (g : sx_Rg) (k : Nat) (t : sx_Ty), sx_bit W r = false → r < zNR → zRT2 r = some g → g.1 ≤ 2 → k < sx_wd g → sx_ft g k = some t → t.1 ≤ 1 → μ' r (k : Int) = μ r (k : Int)) (hc : (zfrc W 33 1 && zfrc W 35 1 && zfrc W 76 1 && zfrc W 78 1) = true) : zNs μ μ' := by
  simp only [Bool.and_eq_true] at hc
  obtain ⟨⟨⟨c1, c2⟩, c3⟩, c4⟩ := hc
  exact ⟨zfr1 h c1, zfr1 h c2, zfr1 h c3, zfr1 h c4⟩
