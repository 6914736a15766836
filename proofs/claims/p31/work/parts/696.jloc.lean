/-! what holds of the guarded regions speaks of their places alone -/
def zGm : Nat := 56539114458399522655531510845496346818737658092041777928614382065875419136
theorem zGm_lt : ∀ r, sx_bit zGm r = true → r < zNR := fun r hr => by
  rw [sx_bit_eq] at hr
  by_cases h : r < zNR
  · exact h
  · have h1 : zGm < 2 ^ r := Nat.lt_of_lt_of_le (show zGm < 2 ^ 250 by decide) (Nat.pow_le_pow_right (by decide) (by unfold zNR at h; omega))
    rw [Nat.testBit_lt_two_pow h1] at hr
    cases hr
set_option maxRecDepth 100000 in
theorem zGm_gd : pm_gd zRT2 zGm := fun r g hr hg => by
  have h := zGm_lt r hr
  have key : ∀ r, r < 250 → sx_bit zGm r = true → (match zRT2 r with
    | some g => Nat.ble g.1 2
    | none => true) = true := by decide +kernel
  have := key r h hr
  rw [hg] at this
  exact Nat.le_of_ble_eq_true this
theorem zSafe_congr {op arg op' arg' : Int → Int} {a b : Int} (ho : ∀ i, a ≤ i → i < b → op i = op' i) (ha : ∀ i, a ≤ i → i < b → arg i = arg' i) : ∀ {n : Nat} {k h : Int}, a ≤ k → k + n ≤ b → h ≤ k - a → zSafe op arg n k h → zSafe op' arg' n k h
  | 0, _, _, _, _, _, _ => trivial
  | n + 1, k, h, hk, hb, hh, hs => by
    have e1 := ho k hk (by omega)
    have e2 := ha k hk (by omega)
    rcases hs with ⟨h1, h2, h3⟩ | ⟨h1, h2, h3⟩ | ⟨h1, h2, h3, h4, h5, h6⟩
    · exact Or.inl ⟨by rw [← e1]; exact h1, by rw [← e1, ← e2]; exact h2, zSafe_congr ho ha (by omega) (by omega) (by omega) h3⟩
    · exact Or.inr (Or.inl ⟨by rw [← e1]; exact h1, h2, zSafe_congr ho ha (by omega) (by omega) (by omega) h3⟩)
    · have e3 := ho (k - 1) (by omega) (by omega)
      have e4 := ha (k - 1) (by omega) (by omega)
      exact Or.inr (Or.inr ⟨by rw [← e1]; exact h1, by rw [← e1]; exact h2, by rw [← e1]; exact h3, h4, by rw [← e1, ← e3, ← e4]; exact h5, zSafe_congr ho ha (by omega) (by omega) (by omega) h6⟩)
theorem zSeg_congr {op arg op' arg' : Int → Int} {a b : Int} (hab : a ≤ b) (ho : ∀ i, a ≤ i → i < b → op i = op' i) (ha : ∀ i, a ≤ i → i < b → arg i = arg' i) (h : zSeg op arg a b) : zSeg op' arg' a b :=
  zSafe_congr ho ha (Int.le_refl _) (by omega) (by omega) h
theorem zLaw_congr {many many' : Int} {fr wh to op arg fr' wh' to' op' arg' : Int → Int} (hm : many = many') (h1 : ∀ l, 0 ≤ l → l < 16 → fr l = fr' l) (h2 : ∀ l, 0 ≤ l → l < 16 → wh l = wh' l) (h3 : ∀ l, 0 ≤ l → l < 16 → to l = to' l) (ho : ∀ i, 0 ≤ i → i < 400 → op i = op' i) (ha : ∀ i, 0 ≤ i → i < 400 → arg i = arg' i) (h : zLaw many fr wh to op arg) : zLaw many' fr' wh' to' op' arg' := by
  subst hm
  obtain ⟨m0, m1, hl⟩ := h
  refine ⟨m0, m1, fun l l0 l1 => ?_⟩
  obtain ⟨q1, q2, q3, q4, q5, q6⟩ := hl l l0 l1
  rw [← h1 l l0 (by omega), ← h2 l l0 (by omega), ← h3 l l0 (by omega)]
  exact ⟨q1, q2, q3, q4, zSeg_congr q2 (fun i i0 i1 => ho i (by omega) (by omega)) (fun i i0 i1 => ha i (by omega) (by omega)) q5, zSeg_congr q3 (fun i i0 i1 => ho i (by omega) (by omega)) (fun i i0 i1 => ha i (by omega) (by omega)) q6⟩
theorem zDeeds_congr {f g : Int → Int} (h : ∀ i, 0 ≤ i → i < 64 → f i = g i) (hd : zDeeds f) : zDeeds g := fun j j0 j1 => by
  rw [← h (4 * j + 1) (by omega) (by omega), ← h (4 * j + 2) (by omega) (by omega), ← h (4 * j + 3) (by omega) (by omega)]
  exact hd j j0 j1
theorem zIts_lt : ∀ q ∈ zIts, 0 ≤ q.1 ∧ 0 ≤ q.2.1 ∧ q.1 + q.2.1 * (q.2.2.1 - 1) < 2128 := by decide
theorem zIm_congr {f g : Int → Int} (h : ∀ i, 0 ≤ i → i < 2128 → f i = g i) (hm : zIm f) : zIm g := by
  obtain ⟨h1, h2, h3⟩ := hm
  refine ⟨fun q hq j j0 j1 => ?_, zDeeds_congr (fun i i0 i1 => h _ (by omega) (by omega)) h2, zLaw_congr (h _ (by omega) (by omega)) (fun l l0 l1 => h _ (by omega) (by omega)) (fun l l0 l1 => h _ (by omega) (by omega)) (fun l l0 l1 => h _ (by omega) (by omega)) (fun l l0 l1 => h _ (by omega) (by omega)) (fun l l0 l1 => h _ (by omega) (by omega)) h3⟩
  obtain ⟨q1, q2, q3⟩ := zIts_lt q hq
  have e1 : q.2.1 * j ≤ q.2.1 * (q.2.2.1 - 1) := Int.mul_le_mul_of_nonneg_left (by omega) q2
  have e2 : 0 ≤ q.2.1 * j := Int.mul_nonneg q2 j0
  rw [← h (q.1 + q.2.1 * j) (by omega) (by omega)]
  exact h1 q hq j j0 j1
theorem zloc1 {μ μ' : pm_Mem} (h : ∀ (r : Nat) (g : sx_Rg) (k : Nat) (t : sx_Ty), sx_bit zGm r = true → zRT2 r = some g → k < sx_wd g → sx_ft g k = some t → t.1 ≤ 1 → μ r (k : Int) = μ' r (k : Int)) {r n : Nat} (hr : sx_bit zGm r = true) (hz : zckr r n = true) {i : Int} (h0 : 0 ≤ i) (h1 : i < n) : μ r i = μ' r i := by
  unfold zckr at hz
  split at hz
  · rename_i g hg
    simp only [Bool.and_eq_true] at hz
    obtain ⟨⟨a1, a2⟩, a3⟩ := hz
    have a2 := Nat.eq_of_beq_eq_true a2
    have := List.all_eq_true.mp a3 i.toNat (List.mem_range.mpr (by omega))
    split at this
    · rename_i t ht
      simp only [Bool.and_eq_true, decide_eq_true_eq] at this
      have b1 := Nat.eq_of_beq_eq_true this.1.1
      have := h r g i.toNat t hr hg (by omega) ht (by omega)
      rw [show ((i.toNat : Nat) : Int) = i by omega] at this
      exact this
    · cases this
  · cases hz
set_option maxRecDepth 100000 in
theorem zr213 : zckr 213 2 = true := by decide +kernel
set_option maxRecDepth 100000 in
theorem zr215 : zckr 215 48 = true := by decide +kernel
set_option maxRecDepth 100000 in
theorem zr216 : zckr 216 48 = true := by decide +kernel
set_option maxRecDepth 100000 in
theorem zr217 : zckr 217 48 = true := by decide +kernel
set_option maxRecDepth 100000 in
theorem zr218 : zckr 218 1200 = true := by decide +kernel
set_option maxRecDepth 100000 in
theorem zr219 : zckr 219 1200 = true := by decide +kernel
set_option maxRecDepth 100000 in
theorem zr222 : zckr 222 128 = true := by decide +kernel
set_option maxRecDepth 100000 in
theorem zr245 : zckr 245 2600 = true := by decide +kernel
theorem zJ_loc : pm_loc8 zRT2 zGm zJ := fun μ μ' h hJ => by
  obtain ⟨h1, h2, h3⟩ := hJ
  exact ⟨zLaw_congr (zloc1 h rfl zr213 (by decide) (by decide)) (fun l l0 l1 => zloc1 h rfl zr215 l0 (by omega)) (fun l l0 l1 => zloc1 h rfl zr216 l0 (by omega)) (fun l l0 l1 => zloc1 h rfl zr217 l0 (by omega)) (fun l l0 l1 => zloc1 h rfl zr218 l0 (by omega)) (fun l l0 l1 => zloc1 h rfl zr219 l0 (by omega)) h1, zDeeds_congr (fun i i0 i1 => zloc1 h rfl zr222 i0 (by omega)) h2, zIm_congr (fun i i0 i1 => zloc1 h rfl zr245 i0 (by omega)) h3⟩
abbrev zCK (D : va_G) (ST : List (String × String × String × Nat)) (B0 : Nat → Prop) (l : Launch) (Sg : Nat → Option Nat) (ct : sx_Ct) : Prop := sx_CTok D zCl zRT2 (["ArcadePoles$Arcade"], ST) zTB B0 (pm_J D zRT2 Sg zGm zJ) l zMT Sg ct
