/-! sx, the operations: an exact form, or bounds for a new symbol -/
abbrev sx_Rs : Type := sx_LF ⊕ (Int × Int)
def sx_rs32 (ρ : List Value) (r : sx_Rs) (x : Int32) : Prop := match r with
  | .inl h => sx_lf ρ h = some x.toInt
  | .inr q => q.1 ≤ x.toInt ∧ x.toInt ≤ q.2
def sx_rs64 (ρ : List Value) (r : sx_Rs) (x : Int64) : Prop := match r with
  | .inl h => sx_lf ρ h = some x.toInt
  | .inr q => q.1 ≤ x.toInt ∧ x.toInt ≤ q.2
def sx_full : Int × Int := (-2147483648, 2147483647)
def sx_fullL : Int × Int := (-9223372036854775808, 9223372036854775807)
theorem sx_full_ok {ρ : List Value} (x : Int32) : sx_rs32 ρ (.inr sx_full) x := by
  have h1 := Int32.le_toInt x
  have h2 := Int32.toInt_lt x
  exact ⟨by simp only [sx_full]; omega, by simp only [sx_full]; omega⟩
theorem sx_fullL_ok {ρ : List Value} (x : Int64) : sx_rs64 ρ (.inr sx_fullL) x := by
  have h1 := Int64.le_toInt x
  have h2 := Int64.toInt_lt x
  exact ⟨by simp only [sx_fullL]; omega, by simp only [sx_fullL]; omega⟩
/-- a form that stays an int; else any int -/
def sx_fit (E : List sx_Ty) (h : sx_LF) : sx_Rs := match sx_rng E h with
  | some (a, b) => if -2147483648 ≤ a ∧ b ≤ 2147483647 then .inl h else .inr sx_full
  | none => .inr sx_full
def sx_fitL (E : List sx_Ty) (h : sx_LF) : sx_Rs := match sx_rng E h with
  | some (a, b) => if -9223372036854775808 ≤ a ∧ b ≤ 9223372036854775807 then .inl h else .inr sx_fullL
  | none => .inr sx_fullL
theorem sx_bmod32 {n : Int} (h1 : -2147483648 ≤ n) (h2 : n ≤ 2147483647) : n.bmod (2 ^ 32) = n := by
  rw [Int.bmod_eq_of_le (by omega) (by omega)]
theorem sx_bmod64 {n : Int} (h1 : -9223372036854775808 ≤ n) (h2 : n ≤ 9223372036854775807) : n.bmod (2 ^ 64) = n := by
  rw [Int.bmod_eq_of_le (by omega) (by omega)]
theorem sx_fit_ok {Sg : Nat → Option Nat} {E : List sx_Ty} {ρ : List Value} (hE : sx_env Sg E ρ) {h : sx_LF} {n : Int} {x : Int32} (hn : sx_lf ρ h = some n) (hx : x.toInt = n.bmod (2 ^ 32)) : sx_rs32 ρ (sx_fit E h) x := by
  unfold sx_fit
  cases h1 : sx_rng E h with
  | none => exact sx_full_ok x
  | some ab =>
    obtain ⟨a, b⟩ := ab
    show sx_rs32 ρ (if -2147483648 ≤ a ∧ b ≤ 2147483647 then .inl h else .inr sx_full) x
    by_cases hc : -2147483648 ≤ a ∧ b ≤ 2147483647
    · rw [if_pos hc]
      obtain ⟨m, h2, h3, h4⟩ := sx_rng_ok hE h1
      rw [hn] at h2
      cases h2
      show sx_lf ρ h = some x.toInt
      rw [hn, hx, sx_bmod32 (by omega) (by omega)]
    · rw [if_neg hc]; exact sx_full_ok x
theorem sx_fitL_ok {Sg : Nat → Option Nat} {E : List sx_Ty} {ρ : List Value} (hE : sx_env Sg E ρ) {h : sx_LF} {n : Int} {x : Int64} (hn : sx_lf ρ h = some n) (hx : x.toInt = n.bmod (2 ^ 64)) : sx_rs64 ρ (sx_fitL E h) x := by
  unfold sx_fitL
  cases h1 : sx_rng E h with
  | none => exact sx_fullL_ok x
  | some ab =>
    obtain ⟨a, b⟩ := ab
    show sx_rs64 ρ (if -9223372036854775808 ≤ a ∧ b ≤ 9223372036854775807 then .inl h else .inr sx_fullL) x
    by_cases hc : -9223372036854775808 ≤ a ∧ b ≤ 9223372036854775807
    · rw [if_pos hc]
      obtain ⟨m, h2, h3, h4⟩ := sx_rng_ok hE h1
      rw [hn] at h2
      cases h2
      show sx_lf ρ h = some x.toInt
      rw [hn, hx, sx_bmod64 (by omega) (by omega)]
    · rw [if_neg hc]; exact sx_fullL_ok x
/-- bounds given by hand, if they hold for every int between; else any int -/
def sx_box (q : Int × Int) : sx_Rs := .inr q
def sx_min4 (a b c d : Int) : Int := min (min a b) (min c d)
def sx_max4 (a b c d : Int) : Int := max (max a b) (max c d)
theorem sx_prod {a b c d x y : Int} (h1 : a ≤ x) (h2 : x ≤ b) (h3 : c ≤ y) (h4 : y ≤ d) : sx_min4 (a * c) (a * d) (b * c) (b * d) ≤ x * y ∧ x * y ≤ sx_max4 (a * c) (a * d) (b * c) (b * d) := by
  have key : ∀ z : Int, a * z ≤ x * z ∧ x * z ≤ b * z ∨ b * z ≤ x * z ∧ x * z ≤ a * z := by
    intro z
    rcases Int.le_total 0 z with hz | hz
    · exact Or.inl ⟨Int.mul_le_mul_of_nonneg_right h1 hz, Int.mul_le_mul_of_nonneg_right h2 hz⟩
    · exact Or.inr ⟨Int.mul_le_mul_of_nonpos_right h2 hz, Int.mul_le_mul_of_nonpos_right h1 hz⟩
  have k2 : ∀ z : Int, z * c ≤ z * y ∧ z * y ≤ z * d ∨ z * d ≤ z * y ∧ z * y ≤ z * c := by
    intro z
    rcases Int.le_total 0 z with hz | hz
    · exact Or.inl ⟨Int.mul_le_mul_of_nonneg_left h3 hz, Int.mul_le_mul_of_nonneg_left h4 hz⟩
    · exact Or.inr ⟨Int.mul_le_mul_of_nonpos_left hz h4, Int.mul_le_mul_of_nonpos_left hz h3⟩
  have e1 := key y
  have e2 := k2 a
  have e3 := k2 b
  simp only [sx_min4, sx_max4]
  omega
def sx_mulR (E : List sx_Ty) (f g : sx_LF) : sx_Rs :=
  if f.2 = [] then sx_fit E (sx_mul f.1 g) else if g.2 = [] then sx_fit E (sx_mul g.1 f) else
  match sx_rng E f, sx_rng E g with
  | some (a, b), some (c, d) => if -2147483648 ≤ sx_min4 (a * c) (a * d) (b * c) (b * d) ∧ sx_max4 (a * c) (a * d) (b * c) (b * d) ≤ 2147483647 then .inr (sx_min4 (a * c) (a * d) (b * c) (b * d), sx_max4 (a * c) (a * d) (b * c) (b * d)) else .inr sx_full
  | _, _ => .inr sx_full
theorem sx_lf_const {ρ : List Value} {f : sx_LF} {n : Int} (h : sx_lf ρ f = some n) (hf : f.2 = []) : n = f.1 := by
  obtain ⟨r, h1, h2⟩ := sx_lf_iff.mp h
  rw [hf] at h1
  simp only [sx_ts] at h1
  cases h1
  omega
theorem sx_mulR_ok {Sg : Nat → Option Nat} {E : List sx_Ty} {ρ : List Value} (hE : sx_env Sg E ρ) {f g : sx_LF} {x y : Int32} (hf : sx_lf ρ f = some x.toInt) (hg : sx_lf ρ g = some y.toInt) : sx_rs32 ρ (sx_mulR E f g) (x * y) := by
  unfold sx_mulR
  by_cases h1 : f.2 = []
  · rw [if_pos h1]
    refine sx_fit_ok hE (sx_mul_ok (k := f.1) hg) ?_
    rw [Int32.toInt_mul, sx_lf_const hf h1]
  · rw [if_neg h1]
    by_cases h2 : g.2 = []
    · rw [if_pos h2]
      refine sx_fit_ok hE (sx_mul_ok (k := g.1) hf) ?_
      rw [Int32.toInt_mul, sx_lf_const hg h2, Int.mul_comm]
    · rw [if_neg h2]
      cases h3 : sx_rng E f with
      | none => exact sx_full_ok _
      | some ab =>
        obtain ⟨a, b⟩ := ab
        cases h4 : sx_rng E g with
        | none => exact sx_full_ok _
        | some cd =>
          obtain ⟨c, d⟩ := cd
          show sx_rs32 ρ (if -2147483648 ≤ sx_min4 (a * c) (a * d) (b * c) (b * d) ∧ sx_max4 (a * c) (a * d) (b * c) (b * d) ≤ 2147483647 then .inr (sx_min4 (a * c) (a * d) (b * c) (b * d), sx_max4 (a * c) (a * d) (b * c) (b * d)) else .inr sx_full) (x * y)
          split
          · rename_i hc
            obtain ⟨n, e1, e2, e3⟩ := sx_rng_ok hE h3
            obtain ⟨m, e4, e5, e6⟩ := sx_rng_ok hE h4
            rw [hf] at e1; cases e1
            rw [hg] at e4; cases e4
            have hp := sx_prod e2 e3 e5 e6
            show sx_min4 (a * c) (a * d) (b * c) (b * d) ≤ (x * y).toInt ∧ (x * y).toInt ≤ sx_max4 (a * c) (a * d) (b * c) (b * d)
            rw [Int32.toInt_mul, sx_bmod32 (by omega) (by omega)]
            exact hp
          · exact sx_full_ok _
/-! division -/
theorem sx_tdiv_le {a b c : Int} (hc : 0 < c) (h : a ≤ b) : a.tdiv c ≤ b.tdiv c := Int.tdiv_le_tdiv hc h
def sx_divR (E : List sx_Ty) (f g : sx_LF) : sx_Rs := match sx_rng E f, sx_rng E g with
  | some (a, b), some (c, d) => if 1 ≤ c then (if c = d then .inr (a.tdiv c, b.tdiv c) else .inr (min a 0, max b 0)) else .inr sx_full
  | _, _ => .inr sx_full
theorem sx_tdiv_nn {n m : Int} (hn : 0 ≤ n) (hm : 1 ≤ m) : 0 ≤ n.tdiv m ∧ n.tdiv m ≤ n := by
  rw [Int.tdiv_eq_ediv_of_nonneg hn]
  exact ⟨Int.ediv_nonneg hn (by omega), Int.ediv_le_self m hn⟩
theorem sx_tdiv_np {n m : Int} (hn : n ≤ 0) (hm : 1 ≤ m) : n ≤ n.tdiv m ∧ n.tdiv m ≤ 0 := by
  have h := sx_tdiv_nn (n := -n) (by omega) hm
  rw [Int.neg_tdiv] at h
  omega
theorem sx_div32 {x y : Int32} (hy : 1 ≤ y.toInt) : (x / y).toInt = x.toInt.tdiv y.toInt := by
  refine Int32.toInt_div_of_ne_right x y (fun h => ?_)
  rw [h] at hy
  have : (-1 : Int32).toInt = -1 := by decide
  omega
theorem sx_divR_ok {Sg : Nat → Option Nat} {E : List sx_Ty} {ρ : List Value} (hE : sx_env Sg E ρ) {f g : sx_LF} {x y : Int32} (hf : sx_lf ρ f = some x.toInt) (hg : sx_lf ρ g = some y.toInt) : sx_rs32 ρ (sx_divR E f g) (x / y) := by
  unfold sx_divR
  cases h3 : sx_rng E f with
  | none => exact sx_full_ok _
  | some ab =>
    obtain ⟨a, b⟩ := ab
    cases h4 : sx_rng E g with
    | none => exact sx_full_ok _
    | some cd =>
      obtain ⟨c, d⟩ := cd
      show sx_rs32 ρ (if 1 ≤ c then (if c = d then .inr (a.tdiv c, b.tdiv c) else .inr (min a 0, max b 0)) else .inr sx_full) (x / y)
      split
      · rename_i hc
        obtain ⟨n, e1, e2, e3⟩ := sx_rng_ok hE h3
        obtain ⟨m, e4, e5, e6⟩ := sx_rng_ok hE h4
        rw [hf] at e1; cases e1
        rw [hg] at e4; cases e4
        have hd := sx_div32 (x := x) (y := y) (by omega)
        split
        · rename_i hcd
          have hm : y.toInt = c := by omega
          show a.tdiv c ≤ (x / y).toInt ∧ (x / y).toInt ≤ b.tdiv c
          rw [hd, hm]
          exact ⟨sx_tdiv_le (by omega) e2, sx_tdiv_le (by omega) e3⟩
        · show min a 0 ≤ (x / y).toInt ∧ (x / y).toInt ≤ max b 0
          rw [hd]
          rcases Int.le_total 0 x.toInt with h | h
          · have := sx_tdiv_nn h (show 1 ≤ y.toInt by omega)
            omega
          · have := sx_tdiv_np h (show 1 ≤ y.toInt by omega)
            omega
      · exact sx_full_ok _
def sx_remR (E : List sx_Ty) (f g : sx_LF) : sx_Rs := match sx_rng E f, sx_rng E g with
  | some (a, b), some (c, d) => if 1 ≤ c then (if 0 ≤ a then .inr (0, min b (d - 1)) else .inr (-(d - 1), d - 1)) else .inr sx_full
  | _, _ => .inr sx_full
theorem sx_rem32 {x y : Int32} (hy : 1 ≤ y.toInt) : (x - x / y * y).toInt = x.toInt.tmod y.toInt := by
  have hd := sx_div32 (x := x) (y := y) hy
  have h1 := Int32.le_toInt x
  have h2 := Int32.toInt_lt x
  have e : x.toInt.tmod y.toInt = x.toInt - y.toInt * x.toInt.tdiv y.toInt := by
    have := Int.tmod_add_mul_tdiv x.toInt y.toInt
    omega
  have b1 : -2147483648 ≤ x.toInt.tdiv y.toInt * y.toInt ∧ x.toInt.tdiv y.toInt * y.toInt ≤ 2147483647 ∧ -2147483648 ≤ x.toInt.tmod y.toInt ∧ x.toInt.tmod y.toInt ≤ 2147483647 := by
    have hy2 := Int32.toInt_lt y
    have t1 := Int.tmod_lt_of_pos x.toInt (show 0 < y.toInt by omega)
    have t2 := Int.lt_tmod_of_pos x.toInt (show 0 < y.toInt by omega)
    have t3 := Int.tmod_add_mul_tdiv x.toInt y.toInt
    rw [Int.mul_comm] at t3
    rcases Int.le_total 0 x.toInt with h | h
    · have t4 := Int.tmod_nonneg y.toInt h
      have := sx_tdiv_nn h (show 1 ≤ y.toInt by omega)
      have t5 : 0 ≤ x.toInt.tdiv y.toInt * y.toInt := Int.mul_nonneg this.1 (by omega)
      omega
    · have := sx_tdiv_np h (show 1 ≤ y.toInt by omega)
      have t5 : x.toInt.tdiv y.toInt * y.toInt ≤ 0 := Int.mul_nonpos_of_nonpos_of_nonneg this.2 (by omega)
      have t6 : x.toInt.tmod y.toInt ≤ 0 := by
        have := Int.tmod_nonneg y.toInt (show 0 ≤ -x.toInt by omega)
        rw [Int.neg_tmod] at this
        omega
      omega
  rw [Int32.toInt_sub, Int32.toInt_mul, hd, sx_bmod32 b1.1 b1.2.1]
  have e2 : x.toInt - x.toInt.tdiv y.toInt * y.toInt = x.toInt.tmod y.toInt := by rw [e, Int.mul_comm]
  rw [e2, sx_bmod32 b1.2.2.1 b1.2.2.2]
theorem sx_remR_ok {Sg : Nat → Option Nat} {E : List sx_Ty} {ρ : List Value} (hE : sx_env Sg E ρ) {f g : sx_LF} {x y : Int32} (hf : sx_lf ρ f = some x.toInt) (hg : sx_lf ρ g = some y.toInt) : sx_rs32 ρ (sx_remR E f g) (x - x / y * y) := by
  unfold sx_remR
  cases h3 : sx_rng E f with
  | none => exact sx_full_ok _
  | some ab =>
    obtain ⟨a, b⟩ := ab
    cases h4 : sx_rng E g with
    | none => exact sx_full_ok _
    | some cd =>
      obtain ⟨c, d⟩ := cd
      show sx_rs32 ρ (if 1 ≤ c then (if 0 ≤ a then .inr (0, min b (d - 1)) else .inr (-(d - 1), d - 1)) else .inr sx_full) (x - x / y * y)
      split
      · rename_i hc
        obtain ⟨n, e1, e2, e3⟩ := sx_rng_ok hE h3
        obtain ⟨m, e4, e5, e6⟩ := sx_rng_ok hE h4
        rw [hf] at e1; cases e1
        rw [hg] at e4; cases e4
        have hr := sx_rem32 (x := x) (y := y) (by omega)
        have t1 := Int.tmod_lt_of_pos x.toInt (show 0 < y.toInt by omega)
        have t2 := Int.lt_tmod_of_pos x.toInt (show 0 < y.toInt by omega)
        split
        · rename_i ha
          show 0 ≤ (x - x / y * y).toInt ∧ (x - x / y * y).toInt ≤ min b (d - 1)
          rw [hr]
          have t3 := Int.tmod_nonneg y.toInt (show 0 ≤ x.toInt by omega)
          have t4 : x.toInt.tmod y.toInt ≤ x.toInt := by
            have t5 := Int.tmod_add_mul_tdiv x.toInt y.toInt
            have t6 := (sx_tdiv_nn (show 0 ≤ x.toInt by omega) (show 1 ≤ y.toInt by omega)).1
            have t7 : 0 ≤ y.toInt * x.toInt.tdiv y.toInt := Int.mul_nonneg (by omega) t6
            omega
          omega
        · show -(d - 1) ≤ (x - x / y * y).toInt ∧ (x - x / y * y).toInt ≤ d - 1
          rw [hr]
          omega
      · exact sx_full_ok _
