/-! CHEAPLY: which shops are to be shut, as a set; steps of the table -/
def ch_wt (n : Int) (N : Int → Int) : Nat → Nat
  | 0 => 0
  | k + 1 => if ((k : Int) < n ∧ N (40 + (k : Int)) = 0) ∧ N (4 + (k : Int)) ≠ 0 then ch_wt n N k ||| 2 ^ k else ch_wt n N k
theorem ch_wt_y {n : Int} {N : Int → Int} {k : Nat} (h : ((k : Int) < n ∧ N (40 + (k : Int)) = 0) ∧ N (4 + (k : Int)) ≠ 0) : ch_wt n N (k + 1) = ch_wt n N k ||| 2 ^ k := if_pos h
theorem ch_wt_n {n : Int} {N : Int → Int} {k : Nat} (h : ¬ (((k : Int) < n ∧ N (40 + (k : Int)) = 0) ∧ N (4 + (k : Int)) ≠ 0)) : ch_wt n N (k + 1) = ch_wt n N k := if_neg h
theorem ch_wt_lt (n : Int) (N : Int → Int) : ∀ k, ch_wt n N k < 2 ^ k
  | 0 => by
    show (0 : Nat) < 2 ^ 0
    decide
  | k + 1 => by
    have h := ch_wt_lt n N k
    have hp : 2 ^ (k + 1) = 2 ^ k * 2 := Nat.pow_succ 2 k
    show (if ((k : Int) < n ∧ N (40 + (k : Int)) = 0) ∧ N (4 + (k : Int)) ≠ 0 then ch_wt n N k ||| 2 ^ k else ch_wt n N k) < 2 ^ (k + 1)
    split
    · exact Nat.or_lt_two_pow (by omega) (by omega)
    · omega
theorem ch_wt_8 (n : Int) (N : Int → Int) : ch_wt n N 8 < 256 := ch_wt_lt n N 8
theorem ch_wt_b {n : Int} {N : Int → Int} {k : Nat} (h : k ≤ 8) : ch_wt n N k < 256 := Nat.lt_of_lt_of_le (ch_wt_lt n N k) (show 2 ^ k ≤ 2 ^ 8 from Nat.pow_le_pow_right (by decide) h)
theorem ch_wt_t (n : Int) (N : Int → Int) : ∀ (k i : Nat), (ch_wt n N k).testBit i = true ↔ i < k ∧ ((i : Int) < n ∧ N (40 + (i : Int)) = 0) ∧ N (4 + (i : Int)) ≠ 0
  | 0, i => by
    show (0 : Nat).testBit i = true ↔ _
    rw [Nat.zero_testBit]
    exact ⟨fun h => (by cases h), fun h => absurd h.1 (by omega)⟩
  | k + 1, i => by
    have ih := ch_wt_t n N k i
    by_cases h : ((k : Int) < n ∧ N (40 + (k : Int)) = 0) ∧ N (4 + (k : Int)) ≠ 0
    · rw [ch_wt_y h, Nat.testBit_or, Bool.or_eq_true, ih, Nat.testBit_two_pow, decide_eq_true_iff]
      constructor
      · rintro (⟨a, b⟩ | rfl)
        · exact ⟨by omega, b⟩
        · exact ⟨by omega, h⟩
      · rintro ⟨a, b⟩
        by_cases e : k = i
        · exact Or.inr e
        · exact Or.inl ⟨by omega, b⟩
    · rw [ch_wt_n h, ih]
      constructor
      · rintro ⟨a, b⟩
        exact ⟨by omega, b⟩
      · rintro ⟨a, b⟩
        refine ⟨?_, b⟩
        by_cases e : k = i
        · subst e; exact absurd b h
        · omega
theorem ch_wt_end {n : Int} {N : Int → Int} {s : Nat} (h : n ≤ (s : Int)) : ∀ k : Nat, s ≤ k → ch_wt n N s = ch_wt n N k
  | 0, hk => by rw [show s = 0 by omega]
  | k + 1, hk => by
    by_cases e : s = k + 1
    · rw [e]
    · rw [ch_wt_n (fun q => by have := q.1.1; omega)]
      exact ch_wt_end h k (by omega)
theorem ch_xs : ∀ S : Nat, S < 256 → ∀ s : Nat, s < 8 → pm_xor (S : Int) (pm_shl 1 (s : Int)) = ((S ^^^ 2 ^ s : Nat) : Int) := by decide +kernel
def ch_sub (S W : Nat) : Prop := S &&& W = S
theorem ch_sub_b {S W s : Nat} (h : ch_sub S W) (hs : S.testBit s = true) : W.testBit s = true := by
  have e := congrArg (fun v : Nat => v.testBit s) h
  simp only [Nat.testBit_and] at e
  rw [hs, Bool.true_and] at e
  exact e
theorem ch_sub_of {S W : Nat} (h : ∀ s, S.testBit s = true → W.testBit s = true) : ch_sub S W := Nat.eq_of_testBit_eq fun i => by
  rw [Nat.testBit_and]
  cases hb : S.testBit i with
  | false => rfl
  | true => rw [h i hb]; rfl
theorem ch_sub_r {S W s : Nat} (h : ch_sub S W) (hs : S.testBit s = true) : ch_sub (S ^^^ 2 ^ s) W := ch_sub_of fun t ht => ch_sub_b h ((ch_rm hs).mp ht).1
theorem ch_sub_self {W : Nat} : ch_sub W W := Nat.and_self W
theorem ch_row_g {D D' : Nat → Int} {w w' : Nat → Int} {S : Nat} (h0 : D S = D' S) (h1 : ∀ s, S.testBit s = true → D (S ^^^ 2 ^ s) = D' (S ^^^ 2 ^ s) ∧ w s = w' s) : ∀ n, ch_row D w S n = ch_row D' w' S n
  | 0 => h0
  | n + 1 => by
    by_cases hb : S.testBit n = true
    · rw [ch_row_y hb, ch_row_y hb, ch_row_g h0 h1 n, (h1 n hb).1, (h1 n hb).2]
    · rw [ch_row_n hb, ch_row_n hb, ch_row_g h0 h1 n]
theorem ch_x_lt {S s : Nat} (h : S.testBit s = true) : S ^^^ 2 ^ s < S := by
  have h1 : (S ^^^ 2 ^ s) &&& S = S ^^^ 2 ^ s := ch_sub_r ch_sub_self h
  refine Nat.lt_of_le_of_ne (Nat.le_trans (Nat.le_of_eq h1.symm) Nat.and_le_right) (fun e => ?_)
  have h3 : (S ^^^ 2 ^ s).testBit s = true := by
    rw [e]
    exact h
  exact ((ch_rm h).mp h3).2 rfl
theorem ch_row_00 {D : Nat → Int} {w : Nat → Int} : ∀ n, ch_row D w 0 n = D 0
  | 0 => rfl
  | n + 1 => by rw [ch_row_n (by rw [Nat.zero_testBit]; exact fun q => by cases q), ch_row_00 n]
/-- one customer more, told of the table -/
theorem ch_next {F : Int} {w : Nat → Nat → Int} {c W : Nat} {D D' : Nat → Int} {v : Nat → Int} (hD : ∀ S, S < 256 → ch_sub S W → D S = ch_D F w c S) (hv : ∀ s, W.testBit s = true → v s = w c s) (hn : ∀ S, S < 256 → ch_sub S W → D' S = ch_row D v S 8) : ∀ S, S < 256 → ch_sub S W → D' S = ch_D F w (c + 1) S := fun S hS hs => by
  rw [hn S hS hs]
  exact ch_row_g (hD S hS hs) (fun s hb => ⟨hD _ (ch_r8 hS (ch_lt8 hS hb)) (ch_sub_r hs hb), hv s (ch_sub_b hs hb)⟩) 8
/-- the answers -/
def ch_an (M : Int) (W : Nat) (w : Int) : Int := if w = 0 then (if M < 1000000000000000 then M / 11019960576 else -1) else if 10 ≤ w ∧ w ≤ 17 then (if W.testBit (w - 10).toNat = true ∧ M < 1000000000000000 then M / ch_p (w - 10).toNat % 18 else -1) else -1
section CHA
variable {M w : Int} {W : Nat}
theorem ch_an_0 (h : M < 1000000000000000) : ch_an M W 0 = M / 11019960576 := by
  unfold ch_an
  rw [if_pos rfl, if_pos h]
theorem ch_an_0n (h : ¬ M < 1000000000000000) : ch_an M W 0 = -1 := by
  unfold ch_an
  rw [if_pos rfl, if_neg h]
theorem ch_an_s (h : 10 ≤ w ∧ w ≤ 17) (hb : W.testBit (w - 10).toNat = true) (hM : M < 1000000000000000) : ch_an M W w = M / ch_p (w - 10).toNat % 18 := by
  unfold ch_an
  rw [if_neg (by omega), if_pos h, if_pos ⟨hb, hM⟩]
theorem ch_an_n (h : w ≠ 0) (hb : ¬ (10 ≤ w ∧ w ≤ 17) ∨ ¬ W.testBit (w - 10).toNat = true ∨ ¬ M < 1000000000000000) : ch_an M W w = -1 := by
  unfold ch_an
  rw [if_neg h]
  by_cases h1 : 10 ≤ w ∧ w ≤ 17
  · rw [if_pos h1, if_neg]
    rintro ⟨a, b⟩
    rcases hb with q | q | q
    · exact q h1
    · exact q a
    · exact q b
  · rw [if_neg h1]
end CHA
