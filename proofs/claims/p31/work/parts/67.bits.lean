/-! bits of numbers, as Java reckons them -/
theorem zsc : ∀ k : Nat, k < 32 → ((Int32.ofInt (k : Int) &&& 31).toBitVec.smod 32).toNat = k := by decide +kernel
theorem zshr {v : Int} {k : Nat} (hk : k < 32) (hv : pm_in v) : pm_shr v (k : Int) = v / (2 ^ k : Nat) := by
  unfold pm_shr
  rw [pk_shr _ _ k (zsc k hk), pm_of32 hv, Int.shiftRight_eq_div_pow]
theorem zbv {x : Int} (h0 : 0 ≤ x) (h1 : x ≤ 2147483647) : (Int32.ofInt x).toBitVec.toNat = x.toNat := by
  have h2 : (Int32.ofInt x).toInt = x := pm_of32 ⟨by omega, h1⟩
  have h3 := sx_nn (x := Int32.ofInt x) (by omega)
  omega
theorem zand {x y : Int} (hx : 0 ≤ x) (hx1 : x ≤ 2147483647) (hy : 0 ≤ y) (hy1 : y ≤ 2147483647) : pm_and x y = ((x.toNat &&& y.toNat : Nat) : Int) := by
  have h : (Int32.ofInt x &&& Int32.ofInt y).toBitVec.toNat = x.toNat &&& y.toNat := by
    rw [Int32.toBitVec_and, BitVec.toNat_and, zbv hx hx1, zbv hy hy1]
  unfold pm_and
  rw [sx_ofn (by rw [h]; have := Nat.and_le_left (n := x.toNat) (m := y.toNat); omega), h]
theorem zor {x y : Int} (hx : 0 ≤ x) (hx1 : x ≤ 2147483647) (hy : 0 ≤ y) (hy1 : y ≤ 2147483647) : pm_or x y = ((x.toNat ||| y.toNat : Nat) : Int) := by
  have h : (Int32.ofInt x ||| Int32.ofInt y).toBitVec.toNat = x.toNat ||| y.toNat := by
    rw [Int32.toBitVec_or, BitVec.toNat_or, zbv hx hx1, zbv hy hy1]
  have hlt : x.toNat ||| y.toNat < 2 ^ 31 := Nat.or_lt_two_pow (by omega) (by omega)
  unfold pm_or
  rw [sx_ofn (by rw [h]; omega), h]
/-- is the k-th in the set -/
theorem zhas {s : Int} {k : Nat} (hs : 0 ≤ s) (hs1 : s ≤ 2147483647) (hk : k < 32) : pm_and (pm_shr s (k : Int)) 1 = if s.toNat.testBit k = true then 1 else 0 := by
  have h1 := zshr (v := s) hk ⟨by omega, hs1⟩
  have h2 : s / ((2 ^ k : Nat) : Int) = ((s.toNat / 2 ^ k : Nat) : Int) := by
    rw [Int.natCast_ediv, Int.toNat_of_nonneg hs]
  have h3 : s.toNat / 2 ^ k ≤ s.toNat := Nat.div_le_self _ _
  rw [h1, h2, Nat.testBit_eq_decide_div_mod_eq]
  generalize s.toNat / 2 ^ k = q at h3 ⊢
  rw [zand (by omega) (by omega) (by decide) (by decide)]
  rw [Int.toNat_natCast, show (1 : Int).toNat = 1 from rfl, Nat.and_one_is_mod]
  rcases Nat.mod_two_eq_zero_or_one q with h | h <;> rw [h] <;> simp
theorem zmul99 {a b : Int} (ha : -99 ≤ a ∧ a ≤ 99) (hb : -99 ≤ b ∧ b ≤ 99) : -9801 ≤ a * b ∧ a * b ≤ 9801 := by
  have h1 : 0 ≤ (99 - a) * (99 - b) := Int.mul_nonneg (by omega) (by omega)
  have h2 : 0 ≤ (99 + a) * (99 + b) := Int.mul_nonneg (by omega) (by omega)
  have h3 : 0 ≤ (99 - a) * (99 + b) := Int.mul_nonneg (by omega) (by omega)
  have h4 : 0 ≤ (99 + a) * (99 - b) := Int.mul_nonneg (by omega) (by omega)
  rw [Int.sub_mul, Int.mul_sub, Int.mul_sub] at h1
  rw [Int.add_mul, Int.mul_add, Int.mul_add] at h2
  rw [Int.sub_mul, Int.mul_add, Int.mul_add] at h3
  rw [Int.add_mul, Int.mul_sub, Int.mul_sub] at h4
  rw [Int.mul_comm a 99] at h1 h2 h3 h4
  omega
