/-! the most together on days on end: what both sides reckon -/
def zeI (f : Int → Int) (a : Int) : Nat → Int → Int → Int → Int → Int × Int
  | 0, _, _, m, x => (m, x)
  | k + 1, b, s, m, x => if m < s + f b then zeI f a k (b + 1) (s + f b) (s + f b) a else zeI f a k (b + 1) (s + f b) m x
def zeO (f : Int → Int) (n : Int) : Nat → Int → Int → Int → Int × Int
  | 0, _, m, x => (m, x)
  | k + 1, a, m, x => zeO f n k (a + 1) (zeI f a (n - a).toNat a 0 m x).1 (zeI f a (n - a).toNat a 0 m x).2
def zeA (n : Int) (f : Int → Int) : Int × Int := zeO f n n.toNat 0 (-100000000) 0
def zeZ (n : Int) (f : Int → Int) (w : Int) : Int := if n = 0 ∨ w < 0 ∨ 1 < w then -10000 else if w = 1 then (zeA n f).2 else (zeA n f).1
theorem zeI_end {f : Int → Int} {a b n s m x : Int} (h : n ≤ b) : zeI f a (n - b).toNat b s m x = (m, x) := by
  rw [show (n - b).toNat = 0 by omega]
  rfl
theorem zeI_y {f : Int → Int} {a b n s m x : Int} {T : Int × Int} (h : b < n) (hm : m < s + f b) (hz : zeI f a (n - b).toNat b s m x = T) : zeI f a (n - (b + 1)).toNat (b + 1) (s + f b) (s + f b) a = T := by
  rw [show (n - b).toNat = (n - (b + 1)).toNat + 1 by omega] at hz
  unfold zeI at hz
  rw [if_pos hm] at hz
  exact hz
theorem zeI_n {f : Int → Int} {a b n s m x : Int} {T : Int × Int} (h : b < n) (hm : s + f b ≤ m) (hz : zeI f a (n - b).toNat b s m x = T) : zeI f a (n - (b + 1)).toNat (b + 1) (s + f b) m x = T := by
  rw [show (n - b).toNat = (n - (b + 1)).toNat + 1 by omega] at hz
  unfold zeI at hz
  rw [if_neg (by omega)] at hz
  exact hz
theorem zeO_end {f : Int → Int} {a n m x : Int} (h : n ≤ a) : zeO f n (n - a).toNat a m x = (m, x) := by
  rw [show (n - a).toNat = 0 by omega]
  rfl
theorem zeO_s {f : Int → Int} {a n m x m' x' : Int} {T : Int × Int} (h : a < n) (hz : zeO f n (n - a).toNat a m x = T) (hi : zeI f a (n - a).toNat a 0 m x = (m', x')) : zeO f n (n - (a + 1)).toNat (a + 1) m' x' = T := by
  rw [show (n - a).toNat = (n - (a + 1)).toNat + 1 by omega] at hz
  have hz : zeO f n (n - (a + 1)).toNat (a + 1) (zeI f a (n - a).toNat a 0 m x).1 (zeI f a (n - a).toNat a 0 m x).2 = T := hz
  rw [hi] at hz
  exact hz
theorem zeI_congr {f g : Int → Int} {n : Int} (h : ∀ i : Int, 0 ≤ i → i < n → f i = g i) {a : Int} : ∀ {k : Nat} {b s m x : Int}, 0 ≤ b → b + k ≤ n → zeI f a k b s m x = zeI g a k b s m x
  | 0, _, _, _, _, _, _ => rfl
  | k + 1, b, s, m, x, h0, h1 => by
    have e := h b h0 (by omega)
    unfold zeI
    rw [e]
    split
    · exact zeI_congr h (by omega) (by omega)
    · exact zeI_congr h (by omega) (by omega)
theorem zeO_congr {f g : Int → Int} {n : Int} (h : ∀ i : Int, 0 ≤ i → i < n → f i = g i) : ∀ {k : Nat} {a m x : Int}, 0 ≤ a → a + k ≤ n → zeO f n k a m x = zeO g n k a m x
  | 0, _, _, _, _, _ => rfl
  | k + 1, a, m, x, h0, h1 => by
    unfold zeO
    rw [zeI_congr h h0 (by omega)]
    exact zeO_congr h (by omega) (by omega)
theorem zeZ_congr {f g : Int → Int} {n w : Int} (h : ∀ i : Int, 0 ≤ i → i < n → f i = g i) (hn : 0 ≤ n) : zeZ n f w = zeZ n g w := by
  unfold zeZ zeA
  rw [zeO_congr h (Int.le_refl 0) (by omega)]
theorem zeZ_o {n w : Int} {f : Int → Int} (h : n = 0 ∨ w < 0 ∨ 1 < w) : zeZ n f w = -10000 := if_pos h
theorem zeZ_1 {n : Int} {f : Int → Int} (h : n ≠ 0) : zeZ n f 1 = (zeA n f).2 := by
  unfold zeZ
  rw [if_neg (by omega), if_pos rfl]
theorem zeZ_0 {n : Int} {f : Int → Int} (h : n ≠ 0) : zeZ n f 0 = (zeA n f).1 := by
  unfold zeZ
  rw [if_neg (by omega), if_neg (by decide)]
/-- of the class: none found yet -/
def zeM (x m : Int) : Int := if x = -1 then -100000000 else m
def zeX (x : Int) : Int := if x = -1 then 0 else x
theorem zeM_0 (m : Int) : zeM (-1) m = -100000000 := if_pos rfl
theorem zeX_0 : zeX (-1) = 0 := if_pos rfl
theorem zeM_y {x m : Int} (h : x ≠ -1) : zeM x m = m := if_neg h
theorem zeX_y {x : Int} (h : x ≠ -1) : zeX x = x := if_neg h
