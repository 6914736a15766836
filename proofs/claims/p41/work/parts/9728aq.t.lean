/-! F: what is asked -/
def fg_who (t : fa_Lw) (pol : Int → Int) (n m : Int) (N : Int → Int) (c w : Int) : Int :=
  if ¬ (0 ≤ c ∧ c < m) then -2 else if 0 ≤ w - 10 ∧ w - 10 < n then fa_buys t N pol m c (w - 10) else if 0 ≤ w - 30 ∧ w - 30 < n then fa_yields t N pol m c (w - 30) else if 0 ≤ w - 50 ∧ w - 50 < n then fa_costs t N pol m c (w - 50)
  else if w = 0 then N (88 + c) else if w = 1 then pol c else if w = 2 then N (106 + c) - 1 else if w = 3 then N (124 + c) else if w = 4 then N (142 + c) else -2
section
variable {t : fa_Lw} {pol : Int → Int} {n m : Int} {N : Int → Int} {c w : Int}
end
/-- of a shop; ol is what lies between it and the one asked for, by one line -/
def fg_of (n m : Int) (N : Int → Int) (ol s w : Int) : Int :=
  if ¬ (0 ≤ s ∧ s < n) then -2 else if 0 ≤ w - 10 ∧ w - 10 < n then ol
  else if w = 0 then N (4 + s) else if w = 1 then N (16 + s) else if w = 2 then N (28 + s) else if w = 3 then 1 - N (40 + s) else if w = 4 then N (52 + s) - 1 else if w = 5 then N (64 + s) - 1 else if w = 6 then N (76 + s) else if w = 7 then ((fq_set N s m.toNat : Nat) : Int) else -2
section
variable {n m : Int} {N : Int → Int} {ol s w : Int}
end
theorem zshl0 : ∀ c : Nat, c < 31 → pm_shl 0 (c : Int) = 0 := by decide +kernel
theorem zor0 {x : Int} (hx : 0 ≤ x) (hx1 : x ≤ 2147483647) : pm_or x 0 = x := by
  rw [zor hx hx1 (by decide) (by decide)]
  show ((x.toNat ||| 0 : Nat) : Int) = x
  rw [Nat.or_zero]
  omega
/-- the open shops, as a set -/
def fg_os (N : Int → Int) (k : Nat) : Nat := fq_set (fun i => 1 - N (i - 66)) 0 k
theorem fg_os_lt (N : Int → Int) (k : Nat) : fg_os N k < 2 ^ k := fq_set_lt _ 0 k
theorem fg_os_s (N : Int → Int) (k : Nat) : fg_os N (k + 1) = if N (40 + (k : Int)) = 0 then fg_os N k ||| 2 ^ k else fg_os N k := by
  have h := fq_set_s (fun i => 1 - N (i - 66)) 0 k
  unfold fg_os
  rw [h]
  by_cases hk : N (40 + (k : Int)) = 0
  · rw [if_pos hk, if_pos (show 1 - N (106 + (k : Int) - 66) = 0 + 1 by rw [show 106 + (k : Int) - 66 = 40 + (k : Int) by omega, hk]; rfl)]
  · rw [if_neg hk, if_neg (show ¬ 1 - N (106 + (k : Int) - 66) = 0 + 1 by rw [show 106 + (k : Int) - 66 = 40 + (k : Int) by omega]; omega)]
/-- the first of those that came to stand open longest -/
def fg_la (N : Int → Int) : Nat → Int
  | 0 => -1
  | k + 1 => if fg_la N k = -1 ∨ N (76 + fg_la N k) < N (76 + (k : Int)) then (k : Int) else fg_la N k
theorem fg_la_s {N : Int → Int} {k : Nat} : fg_la N (k + 1) = if fg_la N k = -1 ∨ N (76 + fg_la N k) < N (76 + (k : Int)) then (k : Int) else fg_la N k := rfl
theorem fg_la_b {N : Int → Int} : ∀ k : Nat, -1 ≤ fg_la N k ∧ fg_la N k < (k : Int) ∨ (k = 0 ∧ fg_la N k = -1)
  | 0 => Or.inr ⟨rfl, rfl⟩
  | k + 1 => by
    have h := fg_la_b (N := N) k
    rw [fg_la_s]
    split <;> omega
def fg_look (n m : Int) (N : Int → Int) (a b c d u w : Int) : Int :=
  if w = 0 then n else if w = 1 then m else if w = 2 then N 1 else if w = 3 then N 0 else if w = 4 then fg_la N n.toNat else if w = 5 then ((fg_os N n.toNat : Nat) : Int) else if w = 6 then N 3 else if w = 7 then N 2 else if w = 8 then a else if w = 9 then b else if w = 10 then c else if w = 11 then d else if w = 12 then u else -100000
