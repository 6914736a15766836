/-! one more who is taken -/
theorem zor_up {t c : Int} (ht : 0 ≤ t ∧ t ≤ 262143) (hc : 0 ≤ c ∧ c ≤ 17) : 0 ≤ pm_or t (pm_shl 1 c) ∧ pm_or t (pm_shl 1 c) ≤ 262143 ∧ ztk (pm_or t (pm_shl 1 c)) = zup (ztk t) c.toNat := by
  have h1 := zshl1 c.toNat (by omega)
  rw [show ((c.toNat : Nat) : Int) = c by omega] at h1
  have h2 : 2 ^ c.toNat ≤ 2 ^ 17 := Nat.pow_le_pow_right (by decide) (by omega)
  have h3 : t.toNat ||| 2 ^ c.toNat < 2 ^ 18 := Nat.or_lt_two_pow (by omega) (by omega)
  have h4 : pm_or t (pm_shl 1 c) = ((t.toNat ||| 2 ^ c.toNat : Nat) : Int) := by
    rw [h1]
    generalize 2 ^ c.toNat = p at h2 ⊢
    rw [zor ht.1 (by omega) (by omega) (by omega), Int.toNat_natCast]
  refine ⟨by rw [h4]; exact Int.natCast_nonneg _, by rw [h4]; generalize t.toNat ||| 2 ^ c.toNat = p at h3 ⊢; omega, ?_⟩
  funext i
  unfold ztk zup
  rw [h4, Int.toNat_natCast, Nat.testBit_or, Nat.testBit_two_pow]
  congr 1
  by_cases hi : i = c.toNat
  · simp [hi]
  · simp [hi, Ne.symm hi]
