/-! F: what is asked -/
def fg_who (t : fa_Lw) (pol : Int → Int) (n m : Int) (N : Int → Int) (c w : Int) : Int :=
  if ¬ (0 ≤ c ∧ c < m) then -2 else if 0 ≤ w - 10 ∧ w - 10 < n then fa_buys t N pol m c (w - 10) else if 0 ≤ w - 30 ∧ w - 30 < n then fa_yields t N pol m c (w - 30) else if 0 ≤ w - 50 ∧ w - 50 < n then fa_costs t N pol m c (w - 50)
  else if w = 0 then N (88 + c) else if w = 1 then pol c else if w = 2 then N (106 + c) - 1 else if w = 3 then N (124 + c) else if w = 4 then N (142 + c) else -2
section
variable {t : fa_Lw} {pol : Int → Int} {n m : Int} {N : Int → Int} {c w : Int}
theorem fg_who_n (h : ¬ (0 ≤ c ∧ c < m)) : fg_who t pol n m N c w = -2 := if_pos h
theorem fg_who_b (h : 0 ≤ c ∧ c < m) (hb : 0 ≤ w - 10 ∧ w - 10 < n) : fg_who t pol n m N c w = fa_buys t N pol m c (w - 10) := (if_neg (fun q => q h)).trans (if_pos hb)
theorem fg_who_y (hn : n ≤ 12) (h : 0 ≤ c ∧ c < m) (hb : 0 ≤ w - 30 ∧ w - 30 < n) : fg_who t pol n m N c w = fa_yields t N pol m c (w - 30) := (if_neg (fun q => q h)).trans ((if_neg (by omega)).trans (if_pos hb))
theorem fg_who_c (hn : n ≤ 12) (h : 0 ≤ c ∧ c < m) (hb : 0 ≤ w - 50 ∧ w - 50 < n) : fg_who t pol n m N c w = fa_costs t N pol m c (w - 50) := (if_neg (fun q => q h)).trans ((if_neg (by omega)).trans ((if_neg (by omega)).trans (if_pos hb)))
theorem fg_who_l (h : 0 ≤ c ∧ c < m) (h1 : ¬ (0 ≤ w - 10 ∧ w - 10 < n)) (h2 : ¬ (0 ≤ w - 30 ∧ w - 30 < n)) (h3 : ¬ (0 ≤ w - 50 ∧ w - 50 < n)) : fg_who t pol n m N c w = if w = 0 then N (88 + c) else if w = 1 then pol c else if w = 2 then N (106 + c) - 1 else if w = 3 then N (124 + c) else if w = 4 then N (142 + c) else -2 := (if_neg (fun q => q h)).trans ((if_neg h1).trans ((if_neg h2).trans (if_neg h3)))
theorem fg_who_0 (h : 0 ≤ c ∧ c < m) : fg_who t pol n m N c 0 = N (88 + c) := (fg_who_l h (by omega) (by omega) (by omega)).trans (if_pos rfl)
theorem fg_who_1 (h : 0 ≤ c ∧ c < m) : fg_who t pol n m N c 1 = pol c := (fg_who_l h (by omega) (by omega) (by omega)).trans ((if_neg (by decide)).trans (if_pos rfl))
theorem fg_who_2 (h : 0 ≤ c ∧ c < m) : fg_who t pol n m N c 2 = N (106 + c) - 1 := (fg_who_l h (by omega) (by omega) (by omega)).trans ((if_neg (by decide)).trans ((if_neg (by decide)).trans (if_pos rfl)))
theorem fg_who_3 (h : 0 ≤ c ∧ c < m) : fg_who t pol n m N c 3 = N (124 + c) := (fg_who_l h (by omega) (by omega) (by omega)).trans ((if_neg (by decide)).trans ((if_neg (by decide)).trans ((if_neg (by decide)).trans (if_pos rfl))))
theorem fg_who_4 (h : 0 ≤ c ∧ c < m) : fg_who t pol n m N c 4 = N (142 + c) := (fg_who_l h (by omega) (by omega) (by omega)).trans ((if_neg (by decide)).trans ((if_neg (by decide)).trans ((if_neg (by decide)).trans ((if_neg (by decide)).trans (if_pos rfl)))))
theorem fg_who_z (h : (0 ≤ c ∧ c < m) ∧ ¬ (0 ≤ w - 10 ∧ w - 10 < n) ∧ ¬ (0 ≤ w - 30 ∧ w - 30 < n) ∧ ¬ (0 ≤ w - 50 ∧ w - 50 < n) ∧ ¬ (0 ≤ w ∧ w ≤ 4)) : fg_who t pol n m N c w = -2 := by
  obtain ⟨h1, h2, h3, h4, h5⟩ := h
  rw [fg_who_l h1 h2 h3 h4, if_neg (by omega), if_neg (by omega), if_neg (by omega), if_neg (by omega), if_neg (by omega)]
end
/-- of a shop; ol is what lies between it and the one asked for, by one line -/
def fg_of (n m : Int) (N : Int → Int) (ol s w : Int) : Int :=
  if ¬ (0 ≤ s ∧ s < n) then -2 else if 0 ≤ w - 10 ∧ w - 10 < n then ol
  else if w = 0 then N (4 + s) else if w = 1 then N (16 + s) else if w = 2 then N (28 + s) else if w = 3 then 1 - N (40 + s) else if w = 4 then N (52 + s) - 1 else if w = 5 then N (64 + s) - 1 else if w = 6 then N (76 + s) else if w = 7 then ((fq_set N s m.toNat : Nat) : Int) else -2
section
variable {n m : Int} {N : Int → Int} {ol s w : Int}
theorem fg_of_n (h : ¬ (0 ≤ s ∧ s < n)) : fg_of n m N ol s w = -2 := if_pos h
theorem fg_of_l (h : 0 ≤ s ∧ s < n) (hb : 0 ≤ w - 10 ∧ w - 10 < n) : fg_of n m N ol s w = ol := (if_neg (fun q => q h)).trans (if_pos hb)
theorem fg_of_r (h : 0 ≤ s ∧ s < n) (h1 : ¬ (0 ≤ w - 10 ∧ w - 10 < n)) : fg_of n m N ol s w = if w = 0 then N (4 + s) else if w = 1 then N (16 + s) else if w = 2 then N (28 + s) else if w = 3 then 1 - N (40 + s) else if w = 4 then N (52 + s) - 1 else if w = 5 then N (64 + s) - 1 else if w = 6 then N (76 + s) else if w = 7 then ((fq_set N s m.toNat : Nat) : Int) else -2 := (if_neg (fun q => q h)).trans (if_neg h1)
theorem fg_of_0 (h : 0 ≤ s ∧ s < n) : fg_of n m N ol s 0 = N (4 + s) := (fg_of_r h (by omega)).trans (if_pos rfl)
theorem fg_of_1 (h : 0 ≤ s ∧ s < n) : fg_of n m N ol s 1 = N (16 + s) := (fg_of_r h (by omega)).trans ((if_neg (by decide)).trans (if_pos rfl))
theorem fg_of_2 (h : 0 ≤ s ∧ s < n) : fg_of n m N ol s 2 = N (28 + s) := (fg_of_r h (by omega)).trans ((if_neg (by decide)).trans ((if_neg (by decide)).trans (if_pos rfl)))
theorem fg_of_3 (h : 0 ≤ s ∧ s < n) : fg_of n m N ol s 3 = 1 - N (40 + s) := (fg_of_r h (by omega)).trans ((if_neg (by decide)).trans ((if_neg (by decide)).trans ((if_neg (by decide)).trans (if_pos rfl))))
theorem fg_of_4 (h : 0 ≤ s ∧ s < n) : fg_of n m N ol s 4 = N (52 + s) - 1 := (fg_of_r h (by omega)).trans ((if_neg (by decide)).trans ((if_neg (by decide)).trans ((if_neg (by decide)).trans ((if_neg (by decide)).trans (if_pos rfl)))))
theorem fg_of_5 (h : 0 ≤ s ∧ s < n) : fg_of n m N ol s 5 = N (64 + s) - 1 := (fg_of_r h (by omega)).trans ((if_neg (by decide)).trans ((if_neg (by decide)).trans ((if_neg (by decide)).trans ((if_neg (by decide)).trans ((if_neg (by decide)).trans (if_pos rfl))))))
theorem fg_of_6 (h : 0 ≤ s ∧ s < n) : fg_of n m N ol s 6 = N (76 + s) := (fg_of_r h (by omega)).trans ((if_neg (by decide)).trans ((if_neg (by decide)).trans ((if_neg (by decide)).trans ((if_neg (by decide)).trans ((if_neg (by decide)).trans ((if_neg (by decide)).trans (if_pos rfl)))))))
theorem fg_of_7 (h : 0 ≤ s ∧ s < n) : fg_of n m N ol s 7 = ((fq_set N s m.toNat : Nat) : Int) := (fg_of_r h (by omega)).trans ((if_neg (by decide)).trans ((if_neg (by decide)).trans ((if_neg (by decide)).trans ((if_neg (by decide)).trans ((if_neg (by decide)).trans ((if_neg (by decide)).trans ((if_neg (by decide)).trans (if_pos rfl))))))))
theorem fg_of_z (h : (0 ≤ s ∧ s < n) ∧ ¬ (0 ≤ w - 10 ∧ w - 10 < n) ∧ ¬ (0 ≤ w ∧ w ≤ 7)) : fg_of n m N ol s w = -2 := by
  obtain ⟨h1, h2, h3⟩ := h
  rw [fg_of_r h1 h2, if_neg (by omega), if_neg (by omega), if_neg (by omega), if_neg (by omega), if_neg (by omega), if_neg (by omega), if_neg (by omega), if_neg (by omega)]
end
theorem zshl0 : ∀ c : Nat, c < 31 → pm_shl 0 (c : Int) = 0 := by decide +kernel
theorem zor0 {x : Int} (hx : 0 ≤ x) (hx1 : x ≤ 2147483647) : pm_or x 0 = x := by
  rw [zor hx hx1 (by decide) (by decide)]
  show ((x.toNat ||| 0 : Nat) : Int) = x
  rw [Nat.or_zero]
  omega
theorem zor0l {x : Int} (hx : 0 ≤ x) (hx1 : x ≤ 2147483647) : pm_or 0 x = x := by
  rw [zor (by decide) (by decide) hx hx1]
  show ((0 ||| x.toNat : Nat) : Int) = x
  rw [Nat.zero_or]
  omega
/-- the open shops, as a set -/
def fg_os (N : Int → Int) (k : Nat) : Nat := fq_set (fun i => 1 - N (i - 66)) 0 k
theorem fg_os_lt (N : Int → Int) (k : Nat) : fg_os N k < 2 ^ k := fq_set_lt _ 0 k
theorem fg_os_s (N : Int → Int) (k : Nat) : fg_os N (k + 1) = if N (40 + (k : Int)) = 0 then fg_os N k ||| 2 ^ k else fg_os N k := by
  have h := fq_set_s (fun i => 1 - N (i - 66)) 0 k
  unfold fg_os
  rw [h]
  by_cases hk : N (40 + (k : Int)) = 0
  · rw [if_pos hk, if_pos (show 1 - N (106 + (k : Int) - 66) = 0 + 1 by rw [show 106 + (k : Int) - 66 = 40 + (k : Int) by omega, hk]; rfl)]
  · rw [if_neg hk, if_neg (show ¬ 1 - N (106 + (k : Int) - 66) = 0 + 1 by rw [show 106 + (k : Int) - 66 = 40 + (k : Int) by omega]; omega)]
/-- the first of those that came to stand open longest -/
def fg_la (N : Int → Int) : Nat → Int
  | 0 => -1
  | k + 1 => if fg_la N k = -1 ∨ N (76 + fg_la N k) < N (76 + (k : Int)) then (k : Int) else fg_la N k
theorem fg_la_s {N : Int → Int} {k : Nat} : fg_la N (k + 1) = if fg_la N k = -1 ∨ N (76 + fg_la N k) < N (76 + (k : Int)) then (k : Int) else fg_la N k := rfl
theorem fg_la_b {N : Int → Int} : ∀ k : Nat, -1 ≤ fg_la N k ∧ fg_la N k < (k : Int) ∨ (k = 0 ∧ fg_la N k = -1)
  | 0 => Or.inr ⟨rfl, rfl⟩
  | k + 1 => by
    have h := fg_la_b (N := N) k
    rw [fg_la_s]
    split <;> omega
def fg_look (n m : Int) (N : Int → Int) (a b c d u w : Int) : Int :=
  if w = 0 then n else if w = 1 then m else if w = 2 then N 1 else if w = 3 then N 0 else if w = 4 then fg_la N n.toNat else if w = 5 then ((fg_os N n.toNat : Nat) : Int) else if w = 6 then N 3 else if w = 7 then N 2 else if w = 8 then a else if w = 9 then b else if w = 10 then c else if w = 11 then d else if w = 12 then u else -100000
