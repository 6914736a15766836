/-! the largest that divides two: a loop with a bound and one without; AFTER YOU's answers -/
def zgc : Nat → Int → Int → Int
  | 0, a, _ => a
  | k + 1, a, b => if b = 0 then a else zgc k b (a % b)
def zp2 : Nat → Int
  | 0 => 1
  | k + 1 => 2 * zp2 k
theorem zgc_zz {k : Nat} {a : Int} : zgc k a 0 = a := by
  cases k
  · rfl
  · exact if_pos rfl
theorem zgc_s {k : Nat} {a b : Int} (h : b ≠ 0) : zgc (k + 1) a b = zgc k b (a % b) := if_neg h
theorem zgc_r {y r : Int} (h0 : 0 < r) (h1 : r < y) {p : Int} (hp : y < 2 * p) : y % r < p := by
  have n2 := Int.emod_lt_of_pos y (b := r) h0
  have n3 := Int.mul_ediv_add_emod y r
  have q1 : 1 ≤ y / r := (Int.le_ediv_iff_mul_le h0).mpr (by omega)
  have q2 : r * 1 ≤ r * (y / r) := Int.mul_le_mul_of_nonneg_left q1 (by omega)
  omega
theorem zgc_h : ∀ (k : Nat) {x y : Int} (j : Nat), 0 ≤ x → 0 ≤ y → y < zp2 k → zgc (2 * k + 1 + j) x y = zgc (2 * k + 1) x y
  | 0, x, y, j, _, hy, h => by
    have h : y < 1 := h
    obtain rfl : y = 0 := by omega
    rw [zgc_zz, zgc_zz]
  | k + 1, x, y, j, hx, hy, h => by
    have h : y < 2 * zp2 k := h
    rw [show 2 * (k + 1) + 1 + j = (2 * k + 1 + j) + 1 + 1 by omega, show 2 * (k + 1) + 1 = (2 * k + 1) + 1 + 1 by omega]
    by_cases y0 : y = 0
    · rw [y0, zgc_zz, zgc_zz]
    · rw [zgc_s y0, zgc_s y0]
      have m1 := Int.emod_nonneg x y0
      have m2 := Int.emod_lt_of_pos x (b := y) (by omega)
      by_cases r0 : x % y = 0
      · rw [r0, zgc_zz, zgc_zz]
      · rw [zgc_s r0, zgc_s r0]
        exact zgc_h k j m1 (Int.emod_nonneg y r0) (zgc_r (by omega) m2 h)
theorem zgc_m : ∀ (k j : Nat) {x y : Int}, 0 ≤ x → 0 ≤ y → y.toNat < k → zgc (k + j) x y = zgc k x y
  | 0, j, x, y, _, _, h => absurd h (Nat.not_lt_zero _)
  | k + 1, j, x, y, hx, hy, h => by
    rw [show k + 1 + j = (k + j) + 1 by omega]
    by_cases y0 : y = 0
    · rw [y0, zgc_zz, zgc_zz]
    · rw [zgc_s y0, zgc_s y0]
      have m1 := Int.emod_nonneg x y0
      have m2 := Int.emod_lt_of_pos x (b := y) (by omega)
      exact zgc_m k j hy m1 (by omega)
/-- without a bound -/
def zgR (x y : Int) : Int := zgc (y.toNat + 1) x y
theorem zgR_z {x : Int} : zgR x 0 = x := zgc_zz
theorem zgR_s {x y : Int} (hx : 0 ≤ x) (hy : 0 ≤ y) (h : y ≠ 0) : zgR x y = zgR y (x % y) := by
  have m1 := Int.emod_nonneg x h
  have m2 := Int.emod_lt_of_pos x (b := y) (by omega)
  unfold zgR
  rw [zgc_s h, show y.toNat = (x % y).toNat + 1 + (y.toNat - ((x % y).toNat + 1)) by omega]
  exact zgc_m _ _ hy m1 (by omega)
theorem zgR_100 {x y : Int} (hx : 0 ≤ x) (hy : 0 ≤ y) (h : y ≤ 396) : zgc 100 x y = zgR x y := by
  have hp : (397 : Int) ≤ zp2 49 := by decide +kernel
  have e1 := zgc_h 49 (x := x) (y := y) 1 hx hy (by omega)
  have e2 := zgc_h 49 (x := x) (y := y) (y.toNat + 1) hx hy (by omega)
  have e3 := zgc_m (y.toNat + 1) 99 (x := x) (y := y) hx hy (by omega)
  have e4 : 2 * 49 + 1 + (y.toNat + 1) = y.toNat + 1 + 99 := by omega
  rw [e4, e3] at e2
  exact e1.trans e2.symm
def zaa (d : Int) : Int := if 0 ≤ d then d else -d
theorem zaa_p {d : Int} (h : 0 ≤ d) : zaa d = d := if_pos h
theorem zaa_n {d : Int} (h : d < 0) : zaa d = -d := if_neg (by omega)
theorem zaa_0 {d : Int} : 0 ≤ zaa d := by
  unfold zaa
  split <;> omega
theorem zaa_le {d N : Int} (h : -N ≤ d ∧ d ≤ N) : zaa d ≤ N := by
  unfold zaa
  split <;> omega
theorem zaa_1 {d : Int} (h : d ≠ 0) : 1 ≤ zaa d := by
  unfold zaa
  split <;> omega
/-- a part of the fraction in lowest terms, what is below being more than 0 -/
def zaF (up down q : Int) : Int := Int.tdiv (if down < 0 then -q else q) (zgR (zaa up) (zaa down))
theorem zaF_p {up down q : Int} (h : 0 ≤ down) : zaF up down q = Int.tdiv q (zgR (zaa up) (zaa down)) := by
  unfold zaF
  rw [if_neg (by omega)]
theorem zaF_n {up down q : Int} (h : down < 0) : zaF up down q = Int.tdiv (-q) (zgR (zaa up) (zaa down)) := by
  unfold zaF
  rw [if_pos h]
theorem zaF_m {up down q : Int} (h : down < 0) : zaF up down q = -Int.tdiv q (zgR (zaa up) (zaa down)) := by
  rw [zaF_n h, Int.neg_tdiv]
def zaL (a b c d : Int) : Int := max (min a b) (min c d)
def zaH (a b c d : Int) : Int := min (max a c) (max b d)
theorem zaD {a b c d : Int} (h : zaL a b c d ≠ zaH a b c d) : a + d - b - c ≠ 0 := by
  unfold zaL zaH at h
  omega
def zaZ (a b c d w : Int) : Int := if ¬ (0 ≤ w ∧ w ≤ 3) then -10000 else if zaL a b c d = zaH a b c d then (if w = 0 then zaL a b c d else if w = 2 then (if min a b = zaL a b c d then 1 else 0) else 1) else zaF (if w < 2 then a * d - b * c else d - c) (a + d - b - c) (if w = 1 ∨ w = 3 then a + d - b - c else if w < 2 then a * d - b * c else d - c)
theorem zaZ_o {a b c d w : Int} (h : ¬ (0 ≤ w ∧ w ≤ 3)) : zaZ a b c d w = -10000 := if_pos h
theorem zaZ_e {a b c d w : Int} (h : 0 ≤ w ∧ w ≤ 3) (e : zaL a b c d = zaH a b c d) : zaZ a b c d w = if w = 0 then zaL a b c d else if w = 2 then (if min a b = zaL a b c d then 1 else 0) else 1 := by
  unfold zaZ
  rw [if_neg (fun q => q h), if_pos e]
theorem zaZ_n {a b c d w : Int} (h : 0 ≤ w ∧ w ≤ 3) (e : zaL a b c d ≠ zaH a b c d) : zaZ a b c d w = zaF (if w < 2 then a * d - b * c else d - c) (a + d - b - c) (if w = 1 ∨ w = 3 then a + d - b - c else if w < 2 then a * d - b * c else d - c) := by
  unfold zaZ
  rw [if_neg (fun q => q h), if_neg e]
/-- of one: 1 -/
theorem zgR_1 {x : Int} (hx : 0 ≤ x) : zgR x 1 = 1 := by
  rw [zgR_s hx (by decide) (by decide), Int.emod_one, zgR_z]
theorem zaF_1 {up : Int} : zaF up 1 up = up := by
  rw [zaF_p (by decide), zaa_p (d := 1) (by decide), zgR_1 zaa_0, Int.tdiv_one]
theorem zaF_1b {up : Int} : zaF up 1 1 = 1 := by
  rw [zaF_p (by decide), zaa_p (d := 1) (by decide), zgR_1 zaa_0, Int.tdiv_one]
theorem zand1 {w : Int} (h : 0 ≤ w ∧ w ≤ 3) : pm_and w 1 = w % 2 := by
  have hh : w = 0 ∨ w = 1 ∨ w = 2 ∨ w = 3 := by omega
  rcases hh with rfl | rfl | rfl | rfl <;> decide +kernel
theorem zaZ_cg {f g : Int → Int} (h : ∀ z : Int, 0 ≤ z → z < 4 → f z = g z) (w : Int) : zaZ (f 0) (f 1) (f 2) (f 3) w = zaZ (g 0) (g 1) (g 2) (g 3) w := by
  rw [h 0 (by decide) (by decide), h 1 (by decide) (by decide), h 2 (by decide) (by decide), h 3 (by decide) (by decide)]
