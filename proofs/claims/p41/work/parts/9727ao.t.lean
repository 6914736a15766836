/-! ways along lines: the fewest steps -/
/-- a way of k lines from a to b, c steps in all, among n shops -/
def zWk (w : Int → Int → Int) (n : Int) : Nat → Int → Int → Int → Prop
  | 0, a, b, c => a = b ∧ c = 0
  | k + 1, a, b, c => ∃ x d, (0 ≤ x ∧ x < n) ∧ zWk w n k a x d ∧ 0 < w x b ∧ c = d + w x b
/-- a way whose places between lie below m -/
def zWi (w : Int → Int → Int) (m : Int) : Nat → Int → Int → Int → Prop
  | 0, a, b, c => (a = b ∧ c = 0) ∨ (0 < w a b ∧ c = w a b)
  | k + 1, a, b, c => ∃ x d, (0 ≤ x ∧ x < m) ∧ zWi w m k a x d ∧ 0 < w x b ∧ c = d + w x b
section WAYS
variable {w : Int → Int → Int} {n m : Int}
end WAYS
/-- v is how far it is from a to b (F: there is no way) -/
def zDs (F : Int) (w : Int → Int → Int) (n a b v : Int) : Prop := v ≤ F ∧ (v = F ∨ ∃ k, zWk w n k a b v) ∧ ∀ k c, zWk w n k a b c → v ≤ c
/-- the class's table of ways, places between below m -/
def zFwl (F : Int) (w : Int → Int → Int) (n m : Int) (f : Int → Int) : Prop := ∀ a b : Int, (0 ≤ a ∧ a < n) → (0 ≤ b ∧ b < n) → (0 ≤ f (a * 12 + b) ∧ f (a * 12 + b) ≤ F) ∧ (f (a * 12 + b) = F ∨ ∃ k, zWk w n k a b (f (a * 12 + b))) ∧ ∀ k c, zWi w m k a b c → f (a * 12 + b) ≤ c
/-- while one place more is let between: g as it was; rows below a, and in row a those below b, are through -/
def zFv (F : Int) (w : Int → Int → Int) (n m : Int) (g : Int → Int) (ra rb : Int) (f : Int → Int) : Prop := zFwl F w n m g ∧ ∀ a b : Int, (0 ≤ a ∧ a < n) → (0 ≤ b ∧ b < n) → (0 ≤ f (a * 12 + b) ∧ f (a * 12 + b) ≤ g (a * 12 + b)) ∧ (f (a * 12 + b) = F ∨ ∃ k, zWk w n k a b (f (a * 12 + b))) ∧ ((a < ra ∨ (a = ra ∧ b < rb)) → f (a * 12 + b) ≤ g (a * 12 + m) + g (m * 12 + b))
section FW
variable {F : Int} {w : Int → Int → Int} {n m ra rb : Int} {f g : Int → Int}
end FW
/-! of more places than there are, two are the same -/
/-! the reference's way: round by round -/
def zBf (w : Int → Int → Int) (n a : Int) (r : Nat) (g : Int → Int) : Prop := ∀ q : Int, (0 ≤ q ∧ q < n) → (0 ≤ g q ∧ g q ≤ 100000000) ∧ (g q = 100000000 ∨ ∃ k, zWk w n k a q (g q)) ∧ ∀ k c, k ≤ r → zWk w n k a q c → g q ≤ c
/-- within a round: o as it was; lines from places below p, and from p those to places below q, are through -/
def zBv (w : Int → Int → Int) (n a : Int) (r : Nat) (o : Int → Int) (p q : Int) (g : Int → Int) : Prop := zBf w n a r o ∧ ∀ y : Int, (0 ≤ y ∧ y < n) → (0 ≤ g y ∧ g y ≤ o y) ∧ (g y = 100000000 ∨ ∃ k, zWk w n k a y (g y)) ∧ ∀ x : Int, (0 ≤ x ∧ x < n) → (x < p ∨ (x = p ∧ y < q)) → 0 < w x y → g y ≤ o x + w x y
section BF
variable {w : Int → Int → Int} {n a p q : Int} {r : Nat} {o g : Int → Int}
end BF
/-- lines alone, their steps not asked -/
def zw1 (w : Int → Int → Int) (a b : Int) : Int := if 0 < w a b then 1 else 0
/-- how many of those below m are as far as k -/
def zcnt (f : Int → Int) (k : Int) : Nat → Int
  | 0 => 0
  | m + 1 => zcnt f k m + (if f m = k then 1 else 0)
/-- x is the most of the pairs' ways up to (i, j), -1 before any -/
def zmo (P : Int → Int → Int → Prop) (n i j x : Int) : Prop := (∀ a b v : Int, (0 ≤ a ∧ a < n) → (0 ≤ b ∧ b < n) → (a < i ∨ (a = i ∧ b < j)) → P a b v → v ≤ x) ∧ (x = -1 ∨ ∃ a b, (0 ≤ a ∧ a < n) ∧ (0 ≤ b ∧ b < n) ∧ P a b x)
