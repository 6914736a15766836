/-! F: what is asked -/
def fg_who (t : fa_Lw) (pol : Int → Int) (n m : Int) (N : Int → Int) (c w : Int) : Int :=
  if ¬ (0 ≤ c ∧ c < m) then -2 else if 0 ≤ w - 10 ∧ w - 10 < n then fa_buys t N pol m c (w - 10) else if 0 ≤ w - 30 ∧ w - 30 < n then fa_yields t N pol m c (w - 30) else if 0 ≤ w - 50 ∧ w - 50 < n then fa_costs t N pol m c (w - 50)
  else if w = 0 then N (88 + c) else if w = 1 then pol c else if w = 2 then N (106 + c) - 1 else if w = 3 then N (124 + c) else if w = 4 then N (142 + c) else -2
section
variable {t : fa_Lw} {pol : Int → Int} {n m : Int} {N : Int → Int} {c w : Int}
end
/-- of a shop; ol is what lies between it and the one asked for, by one line -/
def fg_of (n m : Int) (N : Int → Int) (ol s w : Int) : Int :=
  if ¬ (0 ≤ s ∧ s < n) then -2 else if 0 ≤ w - 10 ∧ w - 10 < n then ol
  else if w = 0 then N (4 + s) else if w = 1 then N (16 + s) else if w = 2 then N (28 + s) else if w = 3 then 1 - N (40 + s) else if w = 4 then N (52 + s) - 1 else if w = 5 then N (64 + s) - 1 else if w = 6 then N (76 + s) else if w = 7 then ((fq_set N s m.toNat : Nat) : Int) else -2
section
variable {n m : Int} {N : Int → Int} {ol s w : Int}
theorem fg_of_n (h : ¬ (0 ≤ s ∧ s < n)) : fg_of n m N ol s w = -2 := if_pos h
theorem fg_of_l (h : 0 ≤ s ∧ s < n) (hb : 0 ≤ w - 10 ∧ w - 10 < n) : fg_of n m N ol s w = ol := (if_neg (fun q => q h)).trans (if_pos hb)
theorem fg_of_r (h : 0 ≤ s ∧ s < n) (h1 : ¬ (0 ≤ w - 10 ∧ w - 10 < n)) : fg_of n m N ol s w = if w = 0 then N (4 + s) else if w = 1 then N (16 + s) else if w = 2 then N (28 + s) else if w = 3 then 1 - N (40 + s) else if w = 4 then N (52 + s) - 1 else if w = 5 then N (64 + s) - 1 else if w = 6 then N (76 + s) else if w = 7 then ((fq_set N s m.toNat : Nat) : Int) else -2 := (if_neg (fun q => q h)).trans (if_neg h1)
theorem fg_of_0 (h : 0 ≤ s ∧ s < n) : fg_of n m N ol s 0 = N (4 + s) := (fg_of_r h (by omega)).trans (if_pos rfl)
theorem fg_of_1 (h : 0 ≤ s ∧ s < n) : fg_of n m N ol s 1 = N (16 + s) := (fg_of_r h (by omega)).trans ((if_neg (by decide)).trans (if_pos rfl))
theorem fg_of_2 (h : 0 ≤ s ∧ s < n) : fg_of n m N ol s 2 = N (28 + s) := (fg_of_r h (by omega)).trans ((if_neg (by decide)).trans ((if_neg (by decide)).trans (if_pos rfl)))
theorem fg_of_3 (h : 0 ≤ s ∧ s < n) : fg_of n m N ol s 3 = 1 - N (40 + s) := (fg_of_r h (by omega)).trans ((if_neg (by decide)).trans ((if_neg (by decide)).trans ((if_neg (by decide)).trans (if_pos rfl))))
theorem fg_of_4 (h : 0 ≤ s ∧ s < n) : fg_of n m N ol s 4 = N (52 + s) - 1 := (fg_of_r h (by omega)).trans ((if_neg (by decide)).trans ((if_neg (by decide)).trans ((if_neg (by decide)).trans ((if_neg (by decide)).trans (if_pos rfl)))))
theorem fg_of_5 (h : 0 ≤ s ∧ s < n) : fg_of n m N ol s 5 = N (64 + s) - 1 := (fg_of_r h (by omega)).trans ((if_neg (by decide)).trans ((if_neg (by decide)).trans ((if_neg (by decide)).trans ((if_neg (by decide)).trans ((if_neg (by decide)).trans (if_pos rfl))))))
theorem fg_of_6 (h : 0 ≤ s ∧ s < n) : fg_of n m N ol s 6 = N (76 + s) := (fg_of_r h (by omega)).trans ((if_neg (by decide)).trans ((if_neg (by decide)).trans ((if_neg (by decide)).trans ((if_neg (by decide)).trans ((if_neg (by decide)).trans ((if_neg (by decide)).trans (if_pos rfl)))))))
theorem fg_of_7 (h : 0 ≤ s ∧ s < n) : fg_of n m N ol s 7 = ((fq_set N s m.toNat : Nat) : Int) := (fg_of_r h (by omega)).trans ((if_neg (by decide)).trans ((if_neg (by decide)).trans ((if_neg (by decide)).trans ((if_neg (by decide)).trans ((if_neg (by decide)).trans ((if_neg (by decide)).trans ((if_neg (by decide)).trans (if_pos rfl))))))))
theorem fg_of_z (h : (0 ≤ s ∧ s < n) ∧ ¬ (0 ≤ w - 10 ∧ w - 10 < n) ∧ ¬ (0 ≤ w ∧ w ≤ 7)) : fg_of n m N ol s w = -2 := by
  obtain ⟨h1, h2, h3⟩ := h
  rw [fg_of_r h1 h2, if_neg (by omega), if_neg (by omega), if_neg (by omega), if_neg (by omega), if_neg (by omega), if_neg (by omega), if_neg (by omega), if_neg (by omega)]
end
/-- the open shops, as a set -/
def fg_os (N : Int → Int) (k : Nat) : Nat := fq_set (fun i => 1 - N (i - 66)) 0 k
/-- the first of those that came to stand open longest -/
def fg_la (N : Int → Int) : Nat → Int
  | 0 => -1
  | k + 1 => if fg_la N k = -1 ∨ N (76 + fg_la N k) < N (76 + (k : Int)) then (k : Int) else fg_la N k
def fg_look (n m : Int) (N : Int → Int) (a b c d u w : Int) : Int :=
  if w = 0 then n else if w = 1 then m else if w = 2 then N 1 else if w = 3 then N 0 else if w = 4 then fg_la N n.toNat else if w = 5 then ((fg_os N n.toNat : Nat) : Int) else if w = 6 then N 3 else if w = 7 then N 2 else if w = 8 then a else if w = 9 then b else if w = 10 then c else if w = 11 then d else if w = 12 then u else -100000
