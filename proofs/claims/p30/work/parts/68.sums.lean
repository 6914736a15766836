/-! sums of a row -/
def zsum (f : Int → Int) : Nat → Int
  | 0 => 0
  | n + 1 => zsum f n + f (n : Int)
theorem zsum_off {f g : Int → Int} : ∀ {n : Nat}, (∀ j : Int, 0 ≤ j → j < n → f j = g j) → zsum f n = zsum g n
  | 0, _ => rfl
  | n + 1, h => by
    simp only [zsum]
    rw [zsum_off (n := n) (fun j h0 h1 => h j h0 (by omega)), h (n : Int) (by omega) (by omega)]
theorem zsum_up {μ : pm_Mem} {r : Nat} {i x : Int} : ∀ {n : Nat}, 0 ≤ i → i < n → zsum ((pm_up μ r i x) r) n = zsum (μ r) n - μ r i + x
  | 0, h0, h1 => by omega
  | n + 1, h0, h1 => by
    simp only [zsum]
    by_cases hi : i = (n : Int)
    · subst hi
      rw [pm_up_eq, zsum_off (f := (pm_up μ r (n : Int) x) r) (g := μ r) (fun j h2 h3 => pm_up_ne (by omega))]
      omega
    · rw [zsum_up (n := n) h0 (by omega), pm_up_ne (by omega)]
      omega
theorem zsum_nn {f : Int → Int} : ∀ {n : Nat}, (∀ j : Int, 0 ≤ j → j < n → 0 ≤ f j) → 0 ≤ zsum f n
  | 0, _ => Int.le_refl _
  | n + 1, h => by
    simp only [zsum]
    have h1 := zsum_nn (n := n) (fun j h0 h1 => h j h0 (by omega))
    have h2 := h (n : Int) (by omega) (by omega)
    omega
/-- what is known of the coins' sums -/
def zcoin (μ : pm_Mem) (n : Int) : Prop := ∀ j : Int, 0 ≤ j → j < n → 0 ≤ μ 231 j ∧ μ 231 j ≤ 100000000
theorem zcoin_up {μ : pm_Mem} {n i x : Int} (h : zcoin μ n) (h0 : 0 ≤ x) (h1 : x ≤ 100000000) : zcoin (pm_up μ 231 i x) n := fun j j0 j1 => by
  by_cases hj : j = i
  · subst hj
    rw [pm_up_eq]
    exact ⟨h0, h1⟩
  · rw [pm_up_ne hj]
    exact h j j0 j1
theorem zcoin_one {μ : pm_Mem} {n x : Int} (h : zcoin μ n) (h0 : 0 ≤ x) (h1 : x ≤ 100000000) : zcoin (pm_up μ 231 n x) (n + 1) := fun j j0 j1 => by
  by_cases hj : j = n
  · subst hj
    rw [pm_up_eq]
    exact ⟨h0, h1⟩
  · rw [pm_up_ne hj]
    exact h j j0 (by omega)
