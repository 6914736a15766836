/-! F: how many bits a number has, as the JDK reckons it (behind f4) -/
def fb_1 (v : Nat) : Nat := Nat.sub v (Nat.land (Nat.div v 2) 1431655765)
def fb_2 (v : Nat) : Nat := Nat.add (Nat.land v 858993459) (Nat.land (Nat.div v 4) 858993459)
def fb_3 (v : Nat) : Nat := Nat.land (Nat.add v (Nat.div v 16)) 252645135
def fb_4 (v : Nat) : Nat := Nat.add v (Nat.div v 256)
def fb_5 (v : Nat) : Nat := Nat.add v (Nat.div v 65536)
def fb (v : Nat) : Nat := Nat.land (fb_5 (fb_4 (fb_3 (fb_2 (fb_1 v))))) 63
def fb_t (v : Nat) : Bool := Nat.beq (fb v) (Nat.add (fb (Nat.div v 2)) (Nat.mod v 2))
noncomputable def fb_all (d : Nat) : Nat → Bool := Nat.rec (motive := fun _ => Nat → Bool) fb_t (fun _ ih o => Bool.rec false (ih (Nat.add (Nat.mul 2 o) 1)) (ih (Nat.mul 2 o))) d
theorem fb_all_s (d o : Nat) : fb_all (d + 1) o = Bool.rec false (fb_all d (Nat.add (Nat.mul 2 o) 1)) (fb_all d (Nat.mul 2 o)) := rfl
theorem fb_all_ok : ∀ {d o : Nat}, fb_all d o = true → ∀ i, i < 2 ^ d → fb_t (o * 2 ^ d + i) = true
  | 0, o, h, i, hi => by
    rw [show o * 2 ^ 0 + i = o by omega]
    exact h
  | d + 1, o, h, i, hi => by
    rw [fb_all_s] at h
    cases hb : fb_all d (Nat.mul 2 o) with
    | false =>
      rw [hb] at h
      cases h
    | true =>
      rw [hb] at h
      have h : fb_all d (Nat.add (Nat.mul 2 o) 1) = true := h
      have hp : 2 ^ (d + 1) = 2 ^ d * 2 := Nat.pow_succ 2 d
      by_cases hc : i < 2 ^ d
      · have := fb_all_ok hb i hc
        rw [show o * 2 ^ (d + 1) + i = Nat.mul 2 o * 2 ^ d + i by rw [hp]; show o * (2 ^ d * 2) + i = 2 * o * 2 ^ d + i; rw [Nat.mul_comm (2 ^ d) 2, ← Nat.mul_assoc, Nat.mul_comm o 2]]
        exact this
      · have := fb_all_ok h (i - 2 ^ d) (by omega)
        rw [show o * 2 ^ (d + 1) + i = Nat.add (Nat.mul 2 o) 1 * 2 ^ d + (i - 2 ^ d) by
          rw [hp]
          show o * (2 ^ d * 2) + i = (2 * o + 1) * 2 ^ d + (i - 2 ^ d)
          rw [Nat.add_mul, Nat.mul_comm (2 ^ d) 2, ← Nat.mul_assoc, Nat.mul_comm o 2]
          omega]
        exact this
set_option maxRecDepth 100000 in
theorem fb_c0 : fb_all 14 0 = true := by decide +kernel
set_option maxRecDepth 100000 in
theorem fb_c1 : fb_all 14 1 = true := by decide +kernel
set_option maxRecDepth 100000 in
theorem fb_c2 : fb_all 14 2 = true := by decide +kernel
set_option maxRecDepth 100000 in
theorem fb_c3 : fb_all 14 3 = true := by decide +kernel
set_option maxRecDepth 100000 in
theorem fb_c4 : fb_all 14 4 = true := by decide +kernel
set_option maxRecDepth 100000 in
theorem fb_c5 : fb_all 14 5 = true := by decide +kernel
set_option maxRecDepth 100000 in
theorem fb_c6 : fb_all 14 6 = true := by decide +kernel
set_option maxRecDepth 100000 in
theorem fb_c7 : fb_all 14 7 = true := by decide +kernel
set_option maxRecDepth 100000 in
theorem fb_c8 : fb_all 14 8 = true := by decide +kernel
set_option maxRecDepth 100000 in
theorem fb_c9 : fb_all 14 9 = true := by decide +kernel
set_option maxRecDepth 100000 in
theorem fb_c10 : fb_all 14 10 = true := by decide +kernel
set_option maxRecDepth 100000 in
theorem fb_c11 : fb_all 14 11 = true := by decide +kernel
set_option maxRecDepth 100000 in
theorem fb_c12 : fb_all 14 12 = true := by decide +kernel
set_option maxRecDepth 100000 in
theorem fb_c13 : fb_all 14 13 = true := by decide +kernel
set_option maxRecDepth 100000 in
theorem fb_c14 : fb_all 14 14 = true := by decide +kernel
set_option maxRecDepth 100000 in
theorem fb_c15 : fb_all 14 15 = true := by decide +kernel
theorem fb_ck (k : Nat) (hk : k < 16) : fb_all 14 k = true := by
  have hh : k = 0 ∨ k = 1 ∨ k = 2 ∨ k = 3 ∨ k = 4 ∨ k = 5 ∨ k = 6 ∨ k = 7 ∨ k = 8 ∨ k = 9 ∨ k = 10 ∨ k = 11 ∨ k = 12 ∨ k = 13 ∨ k = 14 ∨ k = 15 := by omega
  rcases hh with rfl | rfl | rfl | rfl | rfl | rfl | rfl | rfl | rfl | rfl | rfl | rfl | rfl | rfl | rfl | rfl
  · exact fb_c0
  · exact fb_c1
  · exact fb_c2
  · exact fb_c3
  · exact fb_c4
  · exact fb_c5
  · exact fb_c6
  · exact fb_c7
  · exact fb_c8
  · exact fb_c9
  · exact fb_c10
  · exact fb_c11
  · exact fb_c12
  · exact fb_c13
  · exact fb_c14
  · exact fb_c15
theorem fb_s {v : Nat} (h : v < 2 ^ 18) : fb v = fb (v / 2) + v % 2 := by
  have h18 : (2 : Nat) ^ 18 = 2 ^ 14 * 16 := by decide
  have h14 : (2 : Nat) ^ 14 = 16384 := by decide
  have hk : v / 16384 < 16 := by omega
  have h1 := fb_all_ok (fb_ck (v / 16384) hk) (v % 16384) (by rw [h14]; omega)
  rw [h14, show v / 16384 * 16384 + v % 16384 = v by omega] at h1
  exact Nat.eq_of_beq_eq_true h1
theorem fb_fq : ∀ (n : Nat) {v : Nat}, n ≤ 18 → v < 2 ^ n → fb v = fq v n
  | 0, v, _, h => by
    rw [Nat.pow_zero] at h
    obtain rfl : v = 0 := by omega
    decide
  | n + 1, v, hn, h => by
    have hp : (2 : Nat) ^ (n + 1) ≤ 2 ^ 18 := Nat.pow_le_pow_right (by decide) hn
    rw [fb_s (by omega), fq_s, fb_fq n (by omega) (by rw [Nat.pow_succ] at h; omega)]
    omega
theorem fb_sh : ∀ k : Nat, k < 32 → ((Int32.ofInt (k : Int)).toUInt32 &&& Int32.toUInt32 31).toNat = k := by decide +kernel
theorem fb_ushr {x : Int} (h0 : 0 ≤ x) (h1 : x ≤ 2147483647) {k : Nat} (hk : k < 32) : pm_ushr x (k : Int) = ((x.toNat / 2 ^ k : Nat) : Int) := by
  unfold pm_ushr
  have hx : (Int32.ofInt x).toUInt32.toNat = x.toNat := zbv h0 h1
  have h : ((Int32.ofInt x).toUInt32 >>> ((Int32.ofInt (k : Int)).toUInt32 &&& Int32.toUInt32 31)).toNat = x.toNat / 2 ^ k := by
    rw [UInt32.toNat_shiftRight, hx, fb_sh k hk, Nat.mod_eq_of_lt hk, Nat.shiftRight_eq_div_pow]
  have hle : x.toNat / 2 ^ k ≤ x.toNat := Nat.div_le_self _ _
  show ((Int32.ofInt x).toUInt32 >>> ((Int32.ofInt (k : Int)).toUInt32 &&& Int32.toUInt32 31)).toBitVec.toInt = _
  have h' : ((Int32.ofInt x).toUInt32 >>> ((Int32.ofInt (k : Int)).toUInt32 &&& Int32.toUInt32 31)).toBitVec.toNat = x.toNat / 2 ^ k := h
  rw [BitVec.toInt_eq_toNat_cond, h', if_pos (by omega)]
theorem fb_u {a k : Nat} (ha : a ≤ 2147483647) (hk : k < 32) : pm_ushr (a : Int) (k : Int) = ((a / 2 ^ k : Nat) : Int) := by
  rw [fb_ushr (by omega) (by omega) hk, Int.toNat_natCast]
theorem fb_a {a m : Nat} (ha : a ≤ 2147483647) (hm : m ≤ 2147483647) : pm_and (a : Int) (m : Int) = ((a &&& m : Nat) : Int) := by
  rw [zand (by omega) (by omega) (by omega) (by omega), Int.toNat_natCast, Int.toNat_natCast]
