/-! F: how many bits -/
def fq (v : Nat) : Nat → Nat
  | 0 => 0
  | n + 1 => fq v n + (if v.testBit n = true then 1 else 0)
theorem fq_n (v n : Nat) : fq v (n + 1) = fq v n + (if v.testBit n = true then 1 else 0) := rfl
theorem fq_tb (v n : Nat) : v.testBit (n + 1) = (v / 2).testBit n := by
  first
  | exact Nat.testBit_add_one v n
  | exact Nat.testBit_succ v n
theorem fq_s (v : Nat) : ∀ n, fq v (n + 1) = v % 2 + fq (v / 2) n
  | 0 => by
    rw [fq_n, Nat.testBit_zero]
    show 0 + _ = v % 2 + 0
    by_cases h : v % 2 = 1
    · rw [if_pos (by simpa using h)]; omega
    · rw [if_neg (by simpa using h)]; omega
  | n + 1 => by rw [fq_n, fq_s v n, fq_n, fq_tb]; omega
theorem fq_0 : ∀ n, fq 0 n = 0
  | 0 => rfl
  | n + 1 => by rw [fq_n, fq_0 n, Nat.zero_testBit]; rfl
theorem fq_hf (v w : Nat) : (v &&& w) / 2 = v / 2 &&& w / 2 := Nat.eq_of_testBit_eq fun i => by
  rw [← fq_tb, Nat.testBit_and, Nat.testBit_and, fq_tb, fq_tb]
theorem fq_ev {v w : Nat} (h : v % 2 = 0 ∨ w % 2 = 0) : (v &&& w) % 2 = 0 := by
  have h1 := Nat.testBit_and v w 0
  rw [Nat.testBit_zero, Nat.testBit_zero, Nat.testBit_zero] at h1
  by_cases h2 : (v &&& w) % 2 = 1
  · rw [decide_eq_true h2] at h1
    have h3 := (Bool.and_eq_true_iff.mp h1.symm)
    have h4 := of_decide_eq_true h3.1
    have h5 := of_decide_eq_true h3.2
    omega
  · omega
/-- the last bit taken away -/
theorem fq_clear : ∀ (n : Nat) {v : Nat}, 0 < v → v < 2 ^ n → fq (v &&& (v - 1)) n + 1 = fq v n
  | 0, v, h0, h1 => by
    rw [Nat.pow_zero] at h1
    omega
  | n + 1, v, h0, h1 => by
    rw [Nat.pow_succ] at h1
    rw [fq_s, fq_s, fq_hf]
    by_cases h : v % 2 = 1
    · rw [fq_ev (Or.inr (by omega)), show (v - 1) / 2 = v / 2 by omega, Nat.and_self, h]
      omega
    · rw [fq_ev (Or.inl (by omega)), show (v - 1) / 2 = v / 2 - 1 by omega]
      have := fq_clear n (v := v / 2) (by omega) (by omega)
      omega
theorem fq_le (v : Nat) : ∀ n, fq v n ≤ n
  | 0 => Nat.le_refl _
  | n + 1 => by
    have := fq_le v n
    rw [fq_n]
    split <;> omega
/-- those that are in a shop, as a set -/
def fq_set (N : Int → Int) (s : Int) : Nat → Nat
  | 0 => 0
  | k + 1 => if N (106 + (k : Int)) = s + 1 then fq_set N s k ||| 2 ^ k else fq_set N s k
theorem fq_set_s (N : Int → Int) (s : Int) (k : Nat) : fq_set N s (k + 1) = if N (106 + (k : Int)) = s + 1 then fq_set N s k ||| 2 ^ k else fq_set N s k := rfl
theorem fq_set_lt (N : Int → Int) (s : Int) : ∀ k, fq_set N s k < 2 ^ k
  | 0 => by
    show (0 : Nat) < 2 ^ 0
    decide
  | k + 1 => by
    have h := fq_set_lt N s k
    rw [fq_set_s]
    have hp : 2 ^ (k + 1) = 2 ^ k * 2 := Nat.pow_succ 2 k
    split
    · exact Nat.or_lt_two_pow (by omega) (by omega)
    · omega
theorem fq_set_t (N : Int → Int) (s : Int) : ∀ (k i : Nat), (fq_set N s k).testBit i = true ↔ i < k ∧ N (106 + (i : Int)) = s + 1
  | 0, i => by
    show (0 : Nat).testBit i = true ↔ _
    rw [Nat.zero_testBit]
    exact ⟨fun h => (by cases h), fun h => absurd h.1 (by omega)⟩
  | k + 1, i => by
    rw [fq_set_s]
    have ih := fq_set_t N s k i
    by_cases h : N (106 + (k : Int)) = s + 1
    · rw [if_pos h, Nat.testBit_or, Bool.or_eq_true, ih, Nat.testBit_two_pow]
      constructor
      · rintro (⟨a, b⟩ | a)
        · exact ⟨by omega, b⟩
        · have a := of_decide_eq_true a
          subst a
          exact ⟨by omega, h⟩
      · rintro ⟨a, b⟩
        by_cases hi : i < k
        · exact Or.inl ⟨hi, b⟩
        · exact Or.inr (decide_eq_true (by omega))
    · rw [if_neg h, ih]
      constructor
      · rintro ⟨a, b⟩
        exact ⟨by omega, b⟩
      · rintro ⟨a, b⟩
        by_cases hi : i = k
        · subst hi
          exact absurd b h
        · exact ⟨by omega, b⟩
theorem fq_crowd (N : Int → Int) (s : Int) (n : Nat) : ∀ k, k ≤ n → ((fq (fq_set N s n) k : Nat) : Int) = fa_crowd N s k
  | 0, _ => rfl
  | k + 1, h => by
    have ih := fq_crowd N s n k (by omega)
    have ht := fq_set_t N s n k
    show ((fq (fq_set N s n) k + (if (fq_set N s n).testBit k = true then 1 else 0) : Nat) : Int) = fa_crowd N s k + if N (106 + (k : Int)) = s + 1 then 1 else 0
    by_cases hk : N (106 + (k : Int)) = s + 1
    · rw [if_pos hk, if_pos (ht.mpr ⟨by omega, hk⟩)]
      omega
    · rw [if_neg hk, if_neg (fun q => hk (ht.mp q).2)]
      omega
theorem fq_hi {v m : Nat} (h : v < 2 ^ m) : ∀ {n : Nat}, m ≤ n → fq v n = fq v m := fun {n} hn => by
  induction n with
  | zero =>
    rw [show m = 0 by omega]
  | succ n ih =>
    by_cases hm : m = n + 1
    · rw [hm]
    · have hb : v.testBit n = false := Nat.testBit_lt_two_pow (Nat.lt_of_lt_of_le h (Nat.pow_le_pow_right (by decide) (by omega)))
      rw [fq_n, ih (by omega), hb]
      rfl
theorem fr_crowd {N : Int → Int} {s : Int} {m : Nat} (hm : m ≤ 18) : ((fq (fq_set N s m) 18 : Nat) : Int) = fa_crowd N s m := by
  rw [fq_hi (fq_set_lt N s m) hm]
  exact fq_crowd N s m m (Nat.le_refl _)
