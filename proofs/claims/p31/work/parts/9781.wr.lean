/-! WRITTEN: the digits' sum, both sides -/
def zwdg (tw : Bool) (d : Int) : Int := if tw then (if 9 < 2 * d then 2 * d - 9 else 2 * d) else (if 9 < d then d - 9 else d)
def zws : Nat → Bool → Int → Int
  | 0, _, _ => 0
  | k + 1, tw, n => zwdg tw (n.tmod 10) + zws k (!tw) (n.tdiv 10)
theorem zws_s (k : Nat) (tw : Bool) (n : Int) : zws (k + 1) tw n = zwdg tw (n.tmod 10) + zws k (!tw) (n.tdiv 10) := rfl
theorem zwdec {n : Int} (h : 0 ≤ n) : 0 ≤ n.tmod 10 ∧ n.tmod 10 ≤ 9 ∧ 0 ≤ n.tdiv 10 ∧ n.tdiv 10 ≤ n ∧ n = 10 * n.tdiv 10 + n.tmod 10 ∧ (0 < n → n.tdiv 10 < n) := by
  rw [Int.tmod_eq_emod_of_nonneg h, Int.tdiv_eq_ediv_of_nonneg h]
  omega
theorem zwdg_c (tw : Bool) (d : Int) : (tw = true ∧ 9 < 2 * d ∧ zwdg tw d = 2 * d - 9) ∨ (tw = true ∧ 2 * d ≤ 9 ∧ zwdg tw d = 2 * d) ∨ (tw = false ∧ 9 < d ∧ zwdg tw d = d - 9) ∨ (tw = false ∧ d ≤ 9 ∧ zwdg tw d = d) := by
  unfold zwdg
  cases tw
  · rw [if_neg (by decide)]
    by_cases h : 9 < d
    · rw [if_pos h]; exact Or.inr (Or.inr (Or.inl ⟨rfl, h, rfl⟩))
    · rw [if_neg h]; exact Or.inr (Or.inr (Or.inr ⟨rfl, by omega, rfl⟩))
  · rw [if_pos rfl]
    by_cases h : 9 < 2 * d
    · rw [if_pos h]; exact Or.inl ⟨rfl, h, rfl⟩
    · rw [if_neg h]; exact Or.inr (Or.inl ⟨rfl, by omega, rfl⟩)
theorem zws_0 : ∀ (k : Nat) (tw : Bool), zws k tw 0 = 0
  | 0, _ => rfl
  | k + 1, tw => by
    rw [zws_s, Int.zero_tmod, Int.zero_tdiv, zws_0 k (!tw)]
    cases tw <;> decide
theorem zws_bd : ∀ (k : Nat) (tw : Bool) (n : Int), 0 ≤ n → 0 ≤ zws k tw n ∧ zws k tw n ≤ 9 * (k : Int)
  | 0, tw, n, _ => by simp [zws]
  | k + 1, tw, n, h => by
    obtain ⟨h1, h2, h3, h4, h5, -⟩ := zwdec h
    have a := zwdg_c tw (n.tmod 10)
    have b := zws_bd k (!tw) (n.tdiv 10) h3
    rw [zws_s]
    omega
/-- one digit more, by the digit's number -/
theorem zws_i {i n : Int} (h0 : 0 ≤ i) (h1 : i < 10) : zws (10 - i).toNat (decide (i % 2 = 0)) n = zwdg (decide (i % 2 = 0)) (n.tmod 10) + zws (10 - (i + 1)).toNat (decide ((i + 1) % 2 = 0)) (n.tdiv 10) := by
  rw [show (10 - i).toNat = (10 - (i + 1)).toNat + 1 by omega, zws_s]
  rw [show (!decide (i % 2 = 0)) = decide ((i + 1) % 2 = 0) by
    by_cases h : i % 2 = 0
    · have : ¬ (i + 1) % 2 = 0 := by omega
      simp [h, this]
    · have : (i + 1) % 2 = 0 := by omega
      simp [h, this]]
theorem zand1 {i : Int} (h0 : 0 ≤ i) (h1 : i ≤ 100) : pm_and i 1 = i % 2 := by
  rw [zand h0 (by omega) (by decide) (by decide)]
  have : i.toNat &&& (1 : Int).toNat = i.toNat % 2 := Nat.and_one_is_mod _
  rw [this]
  omega
theorem zwpow {k : Nat} {r : Int} (h0 : 0 < r) (h : r < 10 ^ k) : ∃ k', k = k' + 1 ∧ r.tdiv 10 < 10 ^ k' := by
  cases k with
  | zero => simp at h; omega
  | succ k =>
    refine ⟨k, rfl, ?_⟩
    rw [Int.pow_succ] at h
    rw [Int.tdiv_eq_ediv_of_nonneg (by omega)]
    omega
set_option maxRecDepth 100000 in
theorem zfx0 : ∀ k : Nat, k < 91 → (if pm_xor (-(k : Int)) 10 < 0 then (k ≠ 0) else k = 0) := by decide +kernel
/-- the answer -/
def zwu (x : Int) : Int := (10 - zws 10 true x % 10) % 10
def zwr (x d w : Int) : Int := if (0 ≤ x ∧ x ≤ 999999999) ∧ (0 ≤ d ∧ d ≤ 9) then (if w = 0 then (if zwu x = d then 1 else 0) else if w = 1 then zwu x else -1) else -1
theorem zwr_out {x d w : Int} (h : ¬ ((0 ≤ x ∧ x ≤ 999999999) ∧ (0 ≤ d ∧ d ≤ 9) ∧ (0 ≤ w ∧ w ≤ 1))) : zwr x d w = -1 := by
  unfold zwr
  split
  · rw [if_neg (by omega), if_neg (by omega)]
  · rfl
theorem zwr_eq {x d w : Int} (h : (0 ≤ x ∧ x ≤ 999999999) ∧ (0 ≤ d ∧ d ≤ 9)) (hw : w = 0) (he : zwu x = d) : zwr x d w = 1 := by
  unfold zwr; rw [if_pos h, if_pos hw, if_pos he]
theorem zwr_ne {x d w : Int} (h : (0 ≤ x ∧ x ≤ 999999999) ∧ (0 ≤ d ∧ d ≤ 9)) (hw : w = 0) (he : zwu x ≠ d) : zwr x d w = 0 := by
  unfold zwr; rw [if_pos h, if_pos hw, if_neg he]
theorem zwr_du {x d w : Int} (h : (0 ≤ x ∧ x ≤ 999999999) ∧ (0 ≤ d ∧ d ≤ 9)) (hw : w = 1) : zwr x d w = zwu x := by
  unfold zwr; rw [if_pos h, if_neg (by omega), if_pos hw]
theorem zwu_bd (x : Int) : 0 ≤ zwu x ∧ zwu x ≤ 9 := by unfold zwu; omega
