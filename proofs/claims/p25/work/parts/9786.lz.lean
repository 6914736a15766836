/-! LAMPS: which burn, how many (printed by wip/p30/mk9786.py) -/
def zprN (x : Int) : Nat → Int
  | 0 => 0
  | k + 1 => if x % ((k : Int) + 1) = 0 then 1 - zprN x k else zprN x k
def zpr (x k : Int) : Int := zprN x k.toNat
def zsmN (w : Int) : Nat → Int
  | 0 => 0
  | k + 1 => zsmN w k + zpr ((k : Int) + 1) w
def zsm (w p : Int) : Int := zsmN w p.toNat
def zlb (u w j : Int) : Int := if j = -1 then zsm w u else zpr j w
def zlz (u w j : Int) : Int := if (1 ≤ u ∧ u ≤ 500) ∧ (0 ≤ w ∧ w ≤ 500) ∧ (j = -1 ∨ (1 ≤ j ∧ j ≤ u)) then zlb u w j else -1
theorem zprN_s (x : Int) (k : Nat) : zprN x (k + 1) = if x % ((k : Int) + 1) = 0 then 1 - zprN x k else zprN x k := rfl
theorem zsmN_s (w : Int) (k : Nat) : zsmN w (k + 1) = zsmN w k + zpr ((k : Int) + 1) w := rfl
theorem zpr_0 (x : Int) : zpr x 0 = 0 := rfl
theorem zprN_bd (x : Int) : ∀ k : Nat, 0 ≤ zprN x k ∧ zprN x k ≤ 1
  | 0 => ⟨Int.le_refl _, show (0 : Int) ≤ 1 by decide⟩
  | k + 1 => by
    have h := zprN_bd x k
    rw [zprN_s]
    split <;> omega
theorem zpr_bd (x k : Int) : 0 ≤ zpr x k ∧ zpr x k ≤ 1 := zprN_bd x _
theorem zpr_y {x i : Int} (hi : 1 ≤ i) (h : x % i = 0) : zpr x i = 1 - zpr x (i - 1) := by
  unfold zpr
  rw [show i.toNat = (i - 1).toNat + 1 by omega, zprN_s, show (((i - 1).toNat : Nat) : Int) + 1 = i by omega, if_pos h]
theorem zpr_n {x i : Int} (hi : 1 ≤ i) (h : x % i ≠ 0) : zpr x i = zpr x (i - 1) := by
  unfold zpr
  rw [show i.toNat = (i - 1).toNat + 1 by omega, zprN_s, show (((i - 1).toNat : Nat) : Int) + 1 = i by omega, if_neg h]
theorem zsm_p {w p : Int} (hp : 1 ≤ p) : zsm w p = zsm w (p - 1) + zpr p w := by
  unfold zsm
  rw [show p.toNat = (p - 1).toNat + 1 by omega, zsmN_s, show (((p - 1).toNat : Nat) : Int) + 1 = p by omega]
theorem zsmN_bd (w : Int) : ∀ k : Nat, 0 ≤ zsmN w k ∧ zsmN w k ≤ (k : Int)
  | 0 => ⟨Int.le_refl _, Int.le_refl _⟩
  | k + 1 => by
    have h := zsmN_bd w k
    have h2 := zpr_bd ((k : Int) + 1) w
    rw [zsmN_s]
    omega
theorem zsm_bd {w p : Int} (hp : 0 ≤ p) : 0 ≤ zsm w p ∧ zsm w p ≤ p := by
  have h := zsmN_bd w p.toNat
  unfold zsm
  omega
theorem zsm_0 (w : Int) : zsm w 0 = 0 := rfl
theorem zgap {x p i : Int} (hp : p % i = 0) (h1 : p < x) (h2 : x < p + i) : x % i ≠ 0 := fun h => by
  have hd : i ∣ x - p := Int.dvd_sub (Int.dvd_of_emod_eq_zero h) (Int.dvd_of_emod_eq_zero hp)
  have h3 := Int.emod_eq_zero_of_dvd hd
  rw [Int.emod_eq_of_lt (by omega) (by omega)] at h3
  omega
theorem zmodadd {p i : Int} (hp : p % i = 0) : (p + i) % i = 0 := Int.emod_eq_zero_of_dvd (Int.dvd_add (Int.dvd_of_emod_eq_zero hp) (Int.dvd_refl i))
/-- all lamps up to u after i rounds -/
def zwM (μ : pm_Mem) (u i : Int) : Prop := ∀ x : Int, 1 ≤ x → x ≤ u → μ 203 x = zpr x i
/-- in round i, those below p turned -/
def zwL (μ : pm_Mem) (u i p : Int) : Prop := ∀ x : Int, 1 ≤ x → x ≤ u → μ 203 x = if x < p then zpr x i else zpr x (i - 1)
theorem zwM_get {μ : pm_Mem} {u i x : Int} (h : zwM μ u i) (h0 : 1 ≤ x) (h1 : x ≤ u) : μ 203 x = zpr x i := h x h0 h1
theorem zwM_eq {μ : pm_Mem} {u i i' : Int} (h : zwM μ u i) (e : i' = i) : zwM μ u i' := e ▸ h
theorem zwM_0 {μ : pm_Mem} {u : Int} (hu : u ≤ 500) (h : zwK μ 501) : zwM μ u 0 := fun x h0 h1 => h x (by omega) (by omega)
theorem zwL_get {μ : pm_Mem} {u i p x : Int} (h : zwL μ u i p) (h0 : 1 ≤ x) (h1 : x ≤ u) (h2 : p ≤ x) : μ 203 x = zpr x (i - 1) := by
  rw [h x h0 h1, if_neg (by omega)]
theorem zwL_0 {μ : pm_Mem} {u i : Int} (hi : 1 ≤ i) (h : zwM μ u (i - 1)) : zwL μ u i i := fun x h0 h1 => by
  rw [h x h0 h1]
  split
  · rename_i hx
    refine (zpr_n hi ?_).symm
    rw [Int.emod_eq_of_lt (by omega) hx]
    omega
  · rfl
theorem zwL_up {μ : pm_Mem} {u i p y : Int} (h : zwL μ u i p) (hi : 1 ≤ i) (hpi : p % i = 0) (hy : y = 1 - zpr p (i - 1)) : zwL (pm_up μ 203 p y) u i (p + i) := fun x h0 h1 => by
  by_cases hx : x = p
  · subst hx
    rw [pm_up_eq, if_pos (by omega), hy, zpr_y hi hpi]
  · rw [pm_up_ne hx, h x h0 h1]
    by_cases h2 : x < p
    · rw [if_pos h2, if_pos (by omega)]
    · rw [if_neg h2]
      by_cases h3 : x < p + i
      · rw [if_pos h3, zpr_n hi (zgap hpi (by omega) h3)]
      · rw [if_neg h3]
theorem zwL_end {μ : pm_Mem} {u i p : Int} (h : zwL μ u i p) (hp : u < p) : zwM μ u i := fun x h0 h1 => by
  rw [h x h0 h1, if_pos (by omega)]
theorem zlz_in {u w j : Int} (h1 : 1 ≤ u ∧ u ≤ 500) (h2 : 0 ≤ w ∧ w ≤ 500) (h3 : j = -1 ∨ (1 ≤ j ∧ j ≤ u)) : zlz u w j = zlb u w j := if_pos ⟨h1, h2, h3⟩
theorem zlz_u {u w j : Int} (h : ¬ (1 ≤ u ∧ u ≤ 500)) : zlz u w j = -1 := if_neg (fun q => h q.1)
theorem zlz_w {u w j : Int} (h : ¬ (0 ≤ w ∧ w ≤ 500)) : zlz u w j = -1 := if_neg (fun q => h q.2.1)
theorem zlz_j {u w j : Int} (h0 : j ≠ -1) (h : ¬ (1 ≤ j ∧ j ≤ u)) : zlz u w j = -1 := if_neg (fun q => q.2.2.elim h0 h)
theorem zlb_a {u w j : Int} (h : j = -1) : zlb u w j = zsm w u := if_pos h
theorem zlb_j {u w j : Int} (h : j ≠ -1) : zlb u w j = zpr j w := if_neg h
