/-! ARCADE's lines as they stand in the class; walks over its table of ways -/
/-- steps by one line between two shops (0: there is none) -/
def zlw (C : Int → Int) (n : Nat) (a b : Int) : Int := zst (fun t => C ((t : Int) * 4 + 0)) (fun t => C ((t : Int) * 4 + 1)) (fun t => C ((t : Int) * 4 + 2)) n a b
def zLvs (C : Int → Int) (n : Nat) : Prop := ∀ t : Nat, t < n → 1 ≤ C ((t : Int) * 4 + 2) ∧ C ((t : Int) * 4 + 2) ≤ 99
/-- what is found of one line so far -/
def zlf (C : Int → Int) (n : Nat) (a b f : Int) : Prop := (f = -1 ∧ zlw C n a b = 0) ∨ (f = zlw C n a b ∧ 1 ≤ f ∧ f ≤ 99)
/-- in steps, or in lines -/
def zws (W : Int → Int → Int) (s a b : Int) : Int := if s = 0 then zw1 W a b else W a b
/-- the table at the start, up to (i, j) -/
def zIn (w : Int → Int → Int) (n i j : Int) (f : Int → Int) : Prop := ∀ a b : Int, (0 ≤ a ∧ a < n) → (0 ≤ b ∧ b < n) → (a < i ∨ (a = i ∧ b < j)) → f (a * 12 + b) = if a = b then 0 else if w a b = 0 then 1000000 else w a b
