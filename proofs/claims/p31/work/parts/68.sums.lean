/-! sums of a row -/
def zsum (f : Int → Int) : Nat → Int
  | 0 => 0
  | n + 1 => zsum f n + f (n : Int)
theorem zsum_off {f g : Int → Int} : ∀ {n : Nat}, (∀ j : Int, 0 ≤ j → j < n → f j = g j) → zsum f n = zsum g n
  | 0, _ => rfl
  | n + 1, h => by
    simp only [zsum]
    rw [zsum_off (n := n) (fun j h0 h1 => h j h0 (by omega)), h (n : Int) (by omega) (by omega)]
theorem zsum_up {μ : pm_Mem} {r : Nat} {i x : Int} : ∀ {n : Nat}, 0 ≤ i → i < n → zsum ((pm_up μ r i x) r) n = zsum (μ r) n - μ r i + x
  | 0, h0, h1 => by omega
  | n + 1, h0, h1 => by
    simp only [zsum]
    by_cases hi : i = (n : Int)
    · subst hi
      rw [pm_up_eq, zsum_off (f := (pm_up μ r (n : Int) x) r) (g := μ r) (fun j h2 h3 => pm_up_ne (by omega))]
      omega
    · rw [zsum_up (n := n) h0 (by omega), pm_up_ne (by omega)]
      omega
theorem zsum_nn {f : Int → Int} : ∀ {n : Nat}, (∀ j : Int, 0 ≤ j → j < n → 0 ≤ f j) → 0 ≤ zsum f n
  | 0, _ => Int.le_refl _
  | n + 1, h => by
    simp only [zsum]
    have h1 := zsum_nn (n := n) (fun j h0 h1 => h j h0 (by omega))
    have h2 := h (n : Int) (by omega) (by omega)
    omega
/-- what is known of the coins' sums -/
def zcoin (μ : pm_Mem) (n : Int) : Prop := ∀ j : Int, 0 ≤ j → j < n → 0 ≤ μ 231 j ∧ μ 231 j ≤ 100000000
theorem zcoin_up {μ : pm_Mem} {n i x : Int} (h : zcoin μ n) (h0 : 0 ≤ x) (h1 : x ≤ 100000000) : zcoin (pm_up μ 231 i x) n := fun j j0 j1 => by
  by_cases hj : j = i
  · subst hj
    rw [pm_up_eq]
    exact ⟨h0, h1⟩
  · rw [pm_up_ne hj]
    exact h j j0 j1
theorem zcoin_one {μ : pm_Mem} {n x : Int} (h : zcoin μ n) (h0 : 0 ≤ x) (h1 : x ≤ 100000000) : zcoin (pm_up μ 231 n x) (n + 1) := fun j j0 j1 => by
  by_cases hj : j = n
  · subst hj
    rw [pm_up_eq]
    exact ⟨h0, h1⟩
  · rw [pm_up_ne hj]
    exact h j j0 (by omega)
/-- how many are told -/
def zmk (f : Int → Int) : Int → Int := fun j => if f j = -1 then 0 else 1
theorem zsum_le {f : Int → Int} {c : Int} : ∀ {n : Nat}, (∀ j : Int, 0 ≤ j → j < n → f j ≤ c) → zsum f n ≤ c * n
  | 0, _ => by simp [zsum]
  | n + 1, h => by
    simp only [zsum]
    have h1 := zsum_le (n := n) (fun j h0 h1 => h j h0 (by omega))
    have h2 := h (n : Int) (by omega) (by omega)
    rw [Int.natCast_add, Int.mul_add]
    simp only [Int.natCast_one, Int.mul_one]
    omega
theorem zmk_le {f : Int → Int} {n : Nat} : zsum (zmk f) n ≤ n := by
  have := zsum_le (f := zmk f) (c := 1) (n := n) (fun j _ _ => by unfold zmk; split <;> omega)
  omega
theorem zmk_lt {f : Int → Int} {i : Int} : ∀ {n : Nat}, 0 ≤ i → i < n → f i = -1 → zsum (zmk f) n < n
  | 0, h0, h1, _ => by omega
  | n + 1, h0, h1, hf => by
    simp only [zsum]
    by_cases hi : i = (n : Int)
    · subst hi
      have h2 := zmk_le (f := f) (n := n)
      have h3 : zmk f (n : Int) = 0 := by unfold zmk; rw [if_pos hf]
      omega
    · have h2 := zmk_lt (n := n) h0 (by omega) hf
      have h3 : zmk f (n : Int) ≤ 1 := by unfold zmk; split <;> omega
      omega
theorem zmk_up {μ : pm_Mem} {r : Nat} {i x : Int} (hx : x ≠ -1) : ∀ {n : Nat}, 0 ≤ i → i < n → μ r i = -1 → zsum (zmk ((pm_up μ r i x) r)) n = zsum (zmk (μ r)) n + 1
  | 0, h0, h1, _ => by omega
  | n + 1, h0, h1, hf => by
    simp only [zsum]
    by_cases hi : i = (n : Int)
    · subst hi
      have h3 : zmk (μ r) (n : Int) = 0 := by unfold zmk; rw [if_pos hf]
      have h4 : zmk ((pm_up μ r (n : Int) x) r) (n : Int) = 1 := by unfold zmk; rw [pm_up_eq, if_neg hx]
      rw [h3, h4, zsum_off (f := zmk ((pm_up μ r (n : Int) x) r)) (g := zmk (μ r)) (fun j h2 h3 => by unfold zmk; rw [pm_up_ne (by omega)])]
      omega
    · have h3 : zmk ((pm_up μ r i x) r) (n : Int) = zmk (μ r) (n : Int) := by unfold zmk; rw [pm_up_ne (by omega)]
      rw [zmk_up hx (n := n) h0 (by omega) hf, h3]
      omega
theorem zmk_0 {f : Int → Int} : ∀ {n : Nat}, (∀ j : Int, 0 ≤ j → j < n → f j = -1) → zsum (zmk f) n = 0
  | 0, _ => rfl
  | n + 1, h => by
    simp only [zsum]
    rw [zmk_0 (n := n) (fun j h0 h1 => h j h0 (by omega))]
    unfold zmk
    rw [if_pos (h (n : Int) (by omega) (by omega))]
    omega
