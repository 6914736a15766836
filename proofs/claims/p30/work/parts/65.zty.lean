/-! typed memories of this claim's regions -/
def zNR : Nat := 251
def zTy (μ : pm_Mem) : Prop := ∀ (r : Nat) (g : sx_Rg) (k : Nat) (t : sx_Ty), r < zNR → zRT2 r = some g → k < sx_wd g → sx_ft g k = some t → t.1 ≤ 1 → t.2.1 ≤ μ r (k : Int) ∧ μ r (k : Int) ≤ t.2.2
theorem zTy_of {Sg : Nat → Option Nat} {B0 : Nat → Prop} {μ : pm_Mem} (hw : sx_Wd zNR zRT2 B0 Sg) (h : pm_T zRT2 Sg μ) : zTy μ := fun r g k t h1 h2 h3 h4 h5 => by
  obtain ⟨q, hq⟩ := hw.2.1 r h1
  exact h q r g k t hq h2 h3 h4 h5
theorem zTy_T {Sg : Nat → Option Nat} {B0 : Nat → Prop} {μ : pm_Mem} (hw : sx_Wd zNR zRT2 B0 Sg) (h : zTy μ) : pm_T zRT2 Sg μ := fun q r g k t h1 h2 h3 h4 h5 => h r g k t (hw.1 q r h1) h2 h3 h4 h5
noncomputable def zck1 (g : sx_Rg) (lo hi : Int) (k : Nat) : Bool := Nat.blt k (sx_wd g) && (match sx_ft g k with
  | some t => Nat.beq t.1 0 && decide (t.2.1 = lo) && decide (t.2.2 = hi)
  | none => false)
/-- the places from a on, n of them, are of one type -/
noncomputable def zck (r a n : Nat) (lo hi : Int) : Bool := match zRT2 r with
  | some g => Nat.blt r zNR && (List.range n).all (fun j => zck1 g lo hi (a + j))
  | none => false
theorem zck_ok {r a n : Nat} {lo hi : Int} (h : zck r a n lo hi = true) : ∃ g, zRT2 r = some g ∧ r < zNR ∧ ∀ k, a ≤ k → k < a + n → k < sx_wd g ∧ sx_ft g k = some (0, lo, hi) := by
  unfold zck at h
  split at h
  · rename_i g hg
    simp only [Bool.and_eq_true] at h
    refine ⟨g, hg, Nat.blt_eq.mp h.1, fun k h1 h2 => ?_⟩
    have := List.all_eq_true.mp h.2 (k - a) (List.mem_range.mpr (by omega))
    rw [show a + (k - a) = k by omega] at this
    unfold zck1 at this
    simp only [Bool.and_eq_true] at this
    obtain ⟨k1, k2⟩ := this
    refine ⟨Nat.blt_eq.mp k1, ?_⟩
    split at k2
    · rename_i t ht
      simp only [Bool.and_eq_true, decide_eq_true_eq] at k2
      obtain ⟨⟨e1, e2⟩, e3⟩ := k2
      have e1 := Nat.eq_of_beq_eq_true e1
      obtain ⟨t1, t2, t3⟩ := t
      have e1 : t1 = 0 := e1
      have e2 : t2 = lo := e2
      have e3 : t3 = hi := e3
      subst e1; subst e2; subst e3
      exact ht
    · cases k2
  · cases h
theorem zT_get {μ : pm_Mem} (hT : zTy μ) {r a n : Nat} {lo hi : Int} (h : zck r a n lo hi = true) {i : Int} (h1 : (a : Int) ≤ i) (h2 : i < a + n) : lo ≤ μ r i ∧ μ r i ≤ hi := by
  obtain ⟨g, g1, g2, g3⟩ := zck_ok h
  obtain ⟨k1, k2⟩ := g3 i.toNat (by omega) (by omega)
  have := hT r g i.toNat _ g2 g1 k1 k2 (Nat.zero_le _)
  rw [show ((i.toNat : Nat) : Int) = i by omega] at this
  exact this
theorem zT_up {μ : pm_Mem} (hT : zTy μ) {r a n : Nat} {lo hi : Int} (h : zck r a n lo hi = true) {i x : Int} (h1 : (a : Int) ≤ i) (h2 : i < a + n) (h3 : lo ≤ x) (h4 : x ≤ hi) : zTy (pm_up μ r i x) := by
  obtain ⟨g, g1, g2, g3⟩ := zck_ok h
  obtain ⟨k1, k2⟩ := g3 i.toNat (by omega) (by omega)
  intro r' g' k t e1 e2 e3 e4 e5
  unfold pm_up
  split
  · rename_i hc
    obtain ⟨rfl, hk⟩ := hc
    rw [g1] at e2
    cases e2
    have : k = i.toNat := by omega
    subst this
    rw [k2] at e4
    cases e4
    exact ⟨h3, h4⟩
  · exact hT r' g' k t e1 e2 e3 e4 e5
theorem pm_in_mk {z : Int} (h1 : -2147483648 ≤ z) (h2 : z ≤ 2147483647) : pm_in z := ⟨h1, h2⟩
theorem zif0 {P : Prop} [Decidable P] (h : (if P then (1 : Int) else 0) = 0) : ¬ P := fun hp => by rw [if_pos hp] at h; omega
theorem zif1 {P : Prop} [Decidable P] (h : (if P then (1 : Int) else 0) ≠ 0) : P := Classical.byContradiction fun hp => by rw [if_neg hp] at h; exact h rfl
theorem zif01 (P : Prop) [Decidable P] : (if P then (1 : Int) else 0) = 0 ∨ (if P then (1 : Int) else 0) = 1 := by
  by_cases h : P
  · exact Or.inr (if_pos h)
  · exact Or.inl (if_neg h)
theorem pm_up_eq (μ : pm_Mem) (r : Nat) (i x : Int) : pm_up μ r i x r i = x := if_pos ⟨rfl, rfl⟩
theorem pm_up_ne {μ : pm_Mem} {r : Nat} {i x j : Int} (h : j ≠ i) : pm_up μ r i x r j = μ r j := if_neg (fun q => h q.2)
theorem pm_up_off {μ : pm_Mem} {r r' : Nat} {i x j : Int} (h : r' ≠ r) : pm_up μ r i x r' j = μ r' j := if_neg (fun q => h q.1)
theorem zw32 (x : Int) : -2147483648 ≤ pm_w32 x ∧ pm_w32 x ≤ 2147483647 := by
  unfold pm_w32
  have := Int32.le_toInt (Int32.ofInt x)
  have := Int32.toInt_lt (Int32.ofInt x)
  omega
abbrev zW (D : va_G) (Wm : Nat) (ST : List (String × String × String × Nat)) (b0 : sx_B) (l : Launch) (Sg : Nat → Option Nat) := pm_W D zCl zRT2 Wm (["ArcadePoles$Arcade"], ST) zTB b0 l Sg
abbrev zC (D : va_G) (Wm : Nat) (ST : List (String × String × String × Nat)) (b0 : sx_B) (l : Launch) (Sg : Nat → Option Nat) := pm_C D zCl zRT2 Wm (["ArcadePoles$Arcade"], ST) zTB b0 l Sg
abbrev zKK (ST : List (String × String × String × Nat)) := pm_K zCl zRT2 sxCJ (["ArcadePoles$Arcade"], ST) zTB zMT zCDs
