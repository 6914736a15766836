/-! sx, bits and shifts of ints -/
theorem sx_nn {x : Int32} (h : 0 ≤ x.toInt) : x.toBitVec.toNat < 2147483648 ∧ x.toInt = (x.toBitVec.toNat : Int) := by
  have e : x.toInt = x.toBitVec.toInt := rfl
  have h1 := BitVec.toInt_eq_toNat_cond x.toBitVec
  have h2 := x.toBitVec.isLt
  rw [e] at h ⊢
  rw [h1] at h ⊢
  split at h
  · rename_i hc
    rw [if_pos hc]
    exact ⟨by omega, rfl⟩
  · omega
theorem sx_ofn {x : Int32} (h : x.toBitVec.toNat < 2147483648) : x.toInt = (x.toBitVec.toNat : Int) := by
  have e : x.toInt = x.toBitVec.toInt := rfl
  have h1 := BitVec.toInt_eq_toNat_cond x.toBitVec
  rw [e, h1, if_pos (by omega)]
def sx_andR (E : List sx_Ty) (f g : sx_LF) : sx_Rs := match sx_rng E f, sx_rng E g with
  | some (a, b), some (c, d) => if 0 ≤ c then (if 0 ≤ a then .inr (0, min b d) else .inr (0, d)) else if 0 ≤ a then .inr (0, b) else .inr sx_full
  | _, _ => .inr sx_full
theorem sx_and_r {x y : Int32} (h : 0 ≤ y.toInt) : 0 ≤ (x &&& y).toInt ∧ (x &&& y).toInt ≤ y.toInt := by
  obtain ⟨h1, h2⟩ := sx_nn h
  have e : (x &&& y).toBitVec.toNat = x.toBitVec.toNat &&& y.toBitVec.toNat := by
    rw [Int32.toBitVec_and, BitVec.toNat_and]
  have h3 : (x &&& y).toBitVec.toNat ≤ y.toBitVec.toNat := by rw [e]; exact Nat.and_le_right
  have h4 := sx_ofn (x := x &&& y) (by omega)
  omega
theorem sx_and_l {x y : Int32} (h : 0 ≤ x.toInt) : 0 ≤ (x &&& y).toInt ∧ (x &&& y).toInt ≤ x.toInt := by
  have := sx_and_r (x := y) (y := x) h
  rwa [Int32.and_comm] at this
theorem sx_andR_ok {Sg : Nat → Option Nat} {E : List sx_Ty} {ρ : List Value} (hE : sx_env Sg E ρ) {f g : sx_LF} {x y : Int32} (hf : sx_lf ρ f = some x.toInt) (hg : sx_lf ρ g = some y.toInt) : sx_rs32 ρ (sx_andR E f g) (x &&& y) := by
  unfold sx_andR
  cases h3 : sx_rng E f with
  | none => exact sx_full_ok _
  | some ab =>
    obtain ⟨a, b⟩ := ab
    cases h4 : sx_rng E g with
    | none => exact sx_full_ok _
    | some cd =>
      obtain ⟨c, d⟩ := cd
      obtain ⟨n, e1, e2, e3⟩ := sx_rng_ok hE h3
      obtain ⟨m, e4, e5, e6⟩ := sx_rng_ok hE h4
      rw [hf] at e1; cases e1
      rw [hg] at e4; cases e4
      show sx_rs32 ρ (if 0 ≤ c then (if 0 ≤ a then .inr (0, min b d) else .inr (0, d)) else if 0 ≤ a then .inr (0, b) else .inr sx_full) (x &&& y)
      split
      · have k1 := sx_and_r (x := x) (y := y) (by omega)
        split
        · have k2 := sx_and_l (x := x) (y := y) (by omega)
          show 0 ≤ (x &&& y).toInt ∧ (x &&& y).toInt ≤ min b d
          omega
        · show 0 ≤ (x &&& y).toInt ∧ (x &&& y).toInt ≤ d
          omega
      · split
        · have k2 := sx_and_l (x := x) (y := y) (by omega)
          show 0 ≤ (x &&& y).toInt ∧ (x &&& y).toInt ≤ b
          omega
        · exact sx_full_ok _
def sx_p2 (b d : Int) : Nat := Nat.log2 (max b.toNat d.toNat) + 1
def sx_oxR (E : List sx_Ty) (f g : sx_LF) : sx_Rs := match sx_rng E f, sx_rng E g with
  | some (a, b), some (c, d) => if 0 ≤ a ∧ 0 ≤ c ∧ sx_p2 b d ≤ 31 then .inr (0, (2 ^ sx_p2 b d : Nat) - 1) else .inr sx_full
  | _, _ => .inr sx_full
theorem sx_p2_lt {b d : Int} {n : Nat} (h : (n : Int) ≤ b ∨ (n : Int) ≤ d) : n < 2 ^ sx_p2 b d := by
  have h1 : n ≤ max b.toNat d.toNat := by omega
  unfold sx_p2
  exact Nat.lt_of_le_of_lt h1 Nat.lt_log2_self
theorem sx_ox {z : Int32} {b d : Int} (hk : sx_p2 b d ≤ 31) (h : z.toBitVec.toNat < 2 ^ sx_p2 b d) : 0 ≤ z.toInt ∧ z.toInt ≤ ((2 ^ sx_p2 b d : Nat) : Int) - 1 := by
  have h2 : 2 ^ sx_p2 b d ≤ 2 ^ 31 := Nat.pow_le_pow_right (by decide) hk
  have h3 : (2 : Nat) ^ 31 = 2147483648 := by decide
  have h4 := sx_ofn (x := z) (by omega)
  omega
theorem sx_orR_ok {Sg : Nat → Option Nat} {E : List sx_Ty} {ρ : List Value} (hE : sx_env Sg E ρ) {f g : sx_LF} {x y : Int32} (hf : sx_lf ρ f = some x.toInt) (hg : sx_lf ρ g = some y.toInt) : sx_rs32 ρ (sx_oxR E f g) (x ||| y) ∧ sx_rs32 ρ (sx_oxR E f g) (x ^^^ y) := by
  unfold sx_oxR
  cases h3 : sx_rng E f with
  | none => exact ⟨sx_full_ok _, sx_full_ok _⟩
  | some ab =>
    obtain ⟨a, b⟩ := ab
    cases h4 : sx_rng E g with
    | none => exact ⟨sx_full_ok _, sx_full_ok _⟩
    | some cd =>
      obtain ⟨c, d⟩ := cd
      obtain ⟨n, e1, e2, e3⟩ := sx_rng_ok hE h3
      obtain ⟨m, e4, e5, e6⟩ := sx_rng_ok hE h4
      rw [hf] at e1; cases e1
      rw [hg] at e4; cases e4
      show sx_rs32 ρ (if 0 ≤ a ∧ 0 ≤ c ∧ sx_p2 b d ≤ 31 then .inr (0, (2 ^ sx_p2 b d : Nat) - 1) else .inr sx_full) (x ||| y) ∧ sx_rs32 ρ (if 0 ≤ a ∧ 0 ≤ c ∧ sx_p2 b d ≤ 31 then .inr (0, (2 ^ sx_p2 b d : Nat) - 1) else .inr sx_full) (x ^^^ y)
      split
      · rename_i hc
        obtain ⟨k1, k2⟩ := sx_nn (x := x) (by omega)
        obtain ⟨k3, k4⟩ := sx_nn (x := y) (by omega)
        have l1 : x.toBitVec.toNat < 2 ^ sx_p2 b d := sx_p2_lt (Or.inl (by omega))
        have l2 : y.toBitVec.toNat < 2 ^ sx_p2 b d := sx_p2_lt (Or.inr (by omega))
        constructor
        · exact sx_ox hc.2.2 (by rw [Int32.toBitVec_or, BitVec.toNat_or]; exact Nat.or_lt_two_pow l1 l2)
        · exact sx_ox hc.2.2 (by rw [Int32.toBitVec_xor, BitVec.toNat_xor]; exact Nat.xor_lt_two_pow l1 l2)
      · exact ⟨sx_full_ok _, sx_full_ok _⟩
/-! shifts: by a count of 0 .. 31 -/
theorem sx_sc : ∀ n, n < 32 → ((nI n &&& 31).toBitVec.smod 32).toNat = n := by decide +kernel
theorem sx_su : ∀ n, n < 32 → (((nI n).toUInt32 &&& Int32.toUInt32 31).toBitVec % 32).toNat = n := by decide +kernel
theorem sx_cnt {y : Int32} {c d : Int} (h1 : c ≤ y.toInt) (h2 : y.toInt ≤ d) (h3 : 0 ≤ c) (h4 : d ≤ 31) : ∃ k : Nat, k < 32 ∧ y = nI k ∧ y.toInt = (k : Int) := by
  obtain ⟨k, hk, e⟩ := nI_of (x := y) (by rw [Int32.lt_iff_toInt_lt]; have : (0 : Int32).toInt = 0 := by decide
                                          omega)
  have := nI_toInt hk
  refine ⟨k, ?_, e, ?_⟩
  · rw [e] at h2; omega
  · rw [e]; exact this
def sx_shlR (E : List sx_Ty) (f g : sx_LF) : sx_Rs := match sx_rng E f, sx_rng E g with
  | some (a, b), some (c, d) => if 0 ≤ a ∧ 0 ≤ c ∧ d ≤ 31 ∧ b * (2 ^ d.toNat : Nat) ≤ 2147483647 then .inr (a * (2 ^ c.toNat : Nat), b * (2 ^ d.toNat : Nat)) else .inr sx_full
  | _, _ => .inr sx_full
theorem sx_shlR_ok {Sg : Nat → Option Nat} {E : List sx_Ty} {ρ : List Value} (hE : sx_env Sg E ρ) {f g : sx_LF} {x y : Int32} (hf : sx_lf ρ f = some x.toInt) (hg : sx_lf ρ g = some y.toInt) : sx_rs32 ρ (sx_shlR E f g) (x <<< (y &&& 31)) := by
  unfold sx_shlR
  cases h3 : sx_rng E f with
  | none => exact sx_full_ok _
  | some ab =>
    obtain ⟨a, b⟩ := ab
    cases h4 : sx_rng E g with
    | none => exact sx_full_ok _
    | some cd =>
      obtain ⟨c, d⟩ := cd
      obtain ⟨n, e1, e2, e3⟩ := sx_rng_ok hE h3
      obtain ⟨m, e4, e5, e6⟩ := sx_rng_ok hE h4
      rw [hf] at e1; cases e1
      rw [hg] at e4; cases e4
      show sx_rs32 ρ (if 0 ≤ a ∧ 0 ≤ c ∧ d ≤ 31 ∧ b * (2 ^ d.toNat : Nat) ≤ 2147483647 then .inr (a * (2 ^ c.toNat : Nat), b * (2 ^ d.toNat : Nat)) else .inr sx_full) (x <<< (y &&& 31))
      split
      · rename_i hc
        obtain ⟨q1, q2, q3, q4⟩ := hc
        obtain ⟨k, hk, ek, ek2⟩ := sx_cnt e5 e6 q2 q3
        obtain ⟨k1, k2⟩ := sx_nn (x := x) (by omega)
        have hs := pk_shl x (y &&& 31) k (by rw [ek]; exact sx_sc k hk)
        have p1 : ((2 ^ k : Nat) : Int) ≤ ((2 ^ d.toNat : Nat) : Int) := by
          have : 2 ^ k ≤ 2 ^ d.toNat := Nat.pow_le_pow_right (by decide) (by omega)
          omega
        have p2 : ((2 ^ c.toNat : Nat) : Int) ≤ ((2 ^ k : Nat) : Int) := by
          have : 2 ^ c.toNat ≤ 2 ^ k := Nat.pow_le_pow_right (by decide) (by omega)
          omega
        have p3 : (0 : Int) ≤ ((2 ^ k : Nat) : Int) := Int.natCast_nonneg _
        have p4 : (0 : Int) ≤ ((2 ^ c.toNat : Nat) : Int) := Int.natCast_nonneg _
        have m1 : x.toInt * ((2 ^ k : Nat) : Int) ≤ b * ((2 ^ d.toNat : Nat) : Int) := Int.mul_le_mul e3 p1 p3 (by omega)
        have m2 : a * ((2 ^ c.toNat : Nat) : Int) ≤ x.toInt * ((2 ^ k : Nat) : Int) := Int.mul_le_mul e2 p2 p4 (by omega)
        have m3 : ((x.toBitVec.toNat * 2 ^ k : Nat) : Int) = x.toInt * ((2 ^ k : Nat) : Int) := by rw [k2]; exact Int.natCast_mul _ _
        have m4 : x.toBitVec.toNat * 2 ^ k < 2147483648 := by omega
        rw [Nat.mod_eq_of_lt (by omega)] at hs
        have hz := sx_ofn (x := x <<< (y &&& 31)) (by rw [hs]; exact m4)
        rw [hs] at hz
        show a * (2 ^ c.toNat : Nat) ≤ (x <<< (y &&& 31)).toInt ∧ (x <<< (y &&& 31)).toInt ≤ b * (2 ^ d.toNat : Nat)
        omega
      · exact sx_full_ok _
def sx_shrR (E : List sx_Ty) (f g : sx_LF) : sx_Rs := match sx_rng E f, sx_rng E g with
  | some (a, b), some (c, d) => if 0 ≤ a ∧ 0 ≤ c ∧ d ≤ 31 then .inr (0, b / (2 ^ c.toNat : Nat)) else if 0 ≤ a ∧ c = -1 ∧ d = -1 then .inr (0, 0) else .inr sx_full
  | _, _ => .inr sx_full
theorem sx_shrR_ok {Sg : Nat → Option Nat} {E : List sx_Ty} {ρ : List Value} (hE : sx_env Sg E ρ) {f g : sx_LF} {x y : Int32} (hf : sx_lf ρ f = some x.toInt) (hg : sx_lf ρ g = some y.toInt) : sx_rs32 ρ (sx_shrR E f g) (x >>> (y &&& 31)) := by
  unfold sx_shrR
  cases h3 : sx_rng E f with
  | none => exact sx_full_ok _
  | some ab =>
    obtain ⟨a, b⟩ := ab
    cases h4 : sx_rng E g with
    | none => exact sx_full_ok _
    | some cd =>
      obtain ⟨c, d⟩ := cd
      obtain ⟨n, e1, e2, e3⟩ := sx_rng_ok hE h3
      obtain ⟨m, e4, e5, e6⟩ := sx_rng_ok hE h4
      rw [hf] at e1; cases e1
      rw [hg] at e4; cases e4
      show sx_rs32 ρ (if 0 ≤ a ∧ 0 ≤ c ∧ d ≤ 31 then .inr (0, b / (2 ^ c.toNat : Nat)) else if 0 ≤ a ∧ c = -1 ∧ d = -1 then .inr (0, 0) else .inr sx_full) (x >>> (y &&& 31))
      split
      · rename_i hc
        obtain ⟨q1, q2, q3⟩ := hc
        obtain ⟨k, hk, ek, ek2⟩ := sx_cnt e5 e6 q2 q3
        have hs := pk_shr x (y &&& 31) k (by rw [ek]; exact sx_sc k hk)
        rw [Int.shiftRight_eq_div_pow] at hs
        have p0 : 0 < (2 ^ c.toNat : Nat) := Nat.pow_pos (by decide)
        have p1 : 0 < (2 ^ k : Nat) := Nat.pow_pos (by decide)
        have p2 : 2 ^ c.toNat ≤ 2 ^ k := Nat.pow_le_pow_right (by decide) (by omega)
        have p3 : 0 ≤ x.toInt / ((2 ^ k : Nat) : Int) := Int.ediv_nonneg (by omega) (by omega)
        have p4 : x.toInt / ((2 ^ k : Nat) : Int) ≤ b / ((2 ^ c.toNat : Nat) : Int) := by
          refine (Int.le_ediv_iff_mul_le (by omega)).mpr ?_
          have t1 : x.toInt / ((2 ^ k : Nat) : Int) * ((2 ^ c.toNat : Nat) : Int) ≤ x.toInt / ((2 ^ k : Nat) : Int) * ((2 ^ k : Nat) : Int) := Int.mul_le_mul_of_nonneg_left (by omega) p3
          have t2 : x.toInt / ((2 ^ k : Nat) : Int) * ((2 ^ k : Nat) : Int) ≤ x.toInt := Int.ediv_mul_le _ (by omega)
          omega
        show 0 ≤ (x >>> (y &&& 31)).toInt ∧ (x >>> (y &&& 31)).toInt ≤ b / (2 ^ c.toNat : Nat)
        rw [hs]
        exact ⟨p3, p4⟩
      · split
        · rename_i hc
          obtain ⟨q1, q2, q3⟩ := hc
          have hy : y = -1 := Int32.toInt_inj.mp (by have : (-1 : Int32).toInt = -1 := by decide
                                                     omega)
          have hs := pk_shr x (y &&& 31) 31 (by rw [hy]; decide)
          rw [Int.shiftRight_eq_div_pow] at hs
          have hlt := Int32.toInt_lt x
          show 0 ≤ (x >>> (y &&& 31)).toInt ∧ (x >>> (y &&& 31)).toInt ≤ 0
          rw [hs]
          omega
        · exact sx_full_ok _
