/-! ways along lines: the fewest steps -/
/-- a way of k lines from a to b, c steps in all, among n shops -/
def zWk (w : Int → Int → Int) (n : Int) : Nat → Int → Int → Int → Prop
  | 0, a, b, c => a = b ∧ c = 0
  | k + 1, a, b, c => ∃ x d, (0 ≤ x ∧ x < n) ∧ zWk w n k a x d ∧ 0 < w x b ∧ c = d + w x b
/-- a way whose places between lie below m -/
def zWi (w : Int → Int → Int) (m : Int) : Nat → Int → Int → Int → Prop
  | 0, a, b, c => (a = b ∧ c = 0) ∨ (0 < w a b ∧ c = w a b)
  | k + 1, a, b, c => ∃ x d, (0 ≤ x ∧ x < m) ∧ zWi w m k a x d ∧ 0 < w x b ∧ c = d + w x b
section WAYS
variable {w : Int → Int → Int} {n m : Int}
theorem zWk_nn : ∀ {k : Nat} {a b c : Int}, zWk w n k a b c → 0 ≤ c
  | 0, _, _, _, h => by have := h.2; omega
  | _ + 1, _, _, _, ⟨x, d, hx, h, hw, e⟩ => by have := zWk_nn h; omega
theorem zWi_nn : ∀ {k : Nat} {a b c : Int}, zWi w m k a b c → 0 ≤ c
  | 0, _, _, _, h => by rcases h with h | h <;> omega
  | _ + 1, _, _, _, ⟨x, d, hx, h, hw, e⟩ => by have := zWi_nn h; omega
theorem zWk_cat : ∀ {k2 k1 : Nat} {a x b c d : Int}, (0 ≤ x ∧ x < n) → zWk w n k1 a x c → zWk w n k2 x b d → zWk w n (k1 + k2) a b (c + d)
  | 0, k1, a, x, b, c, d, hx, h, h' => by
    obtain ⟨rfl, rfl⟩ := h'
    rw [Int.add_zero]
    exact h
  | k2 + 1, k1, a, x, b, c, d, hx, h, ⟨y, e, hy, h', hw, hd⟩ => ⟨y, c + e, hy, zWk_cat hx h h', hw, by omega⟩
/-- a way with places between below n is a way among n -/
theorem zWi_k : ∀ {k : Nat} {a b c : Int}, (0 ≤ a ∧ a < n) → zWi w n k a b c → ∃ j, zWk w n j a b c
  | 0, a, b, c, ha, h => by
    rcases h with ⟨rfl, rfl⟩ | ⟨h1, h2⟩
    · exact ⟨0, rfl, rfl⟩
    · exact ⟨1, a, 0, ha, ⟨rfl, rfl⟩, h1, by omega⟩
  | k + 1, a, b, c, ha, ⟨x, d, hx, h, hw, e⟩ => by
    obtain ⟨j, hj⟩ := zWi_k ha h
    exact ⟨j + 1, x, d, hx, hj, hw, e⟩
theorem zWk_i : ∀ {k : Nat} {a b c : Int}, zWk w n k a b c → ∃ j, zWi w n j a b c
  | 0, _, _, _, h => ⟨0, Or.inl h⟩
  | k + 1, a, b, c, ⟨x, d, hx, h, hw, e⟩ => by
    obtain ⟨j, hj⟩ := zWk_i h
    exact ⟨j + 1, x, d, hx, hj, hw, e⟩
/-- one place more between: either it isn't come to, or the way is cut there -/
theorem zWi_cut (hm : 0 ≤ m) : ∀ {k : Nat} {a b c : Int}, zWi w (m + 1) k a b c → (∃ j, zWi w m j a b c) ∨ (∃ j1 j2 c1 c2, zWi w m j1 a m c1 ∧ zWi w m j2 m b c2 ∧ c1 + c2 ≤ c)
  | 0, _, _, _, h => Or.inl ⟨0, h⟩
  | k + 1, a, b, c, ⟨x, d, hx, h, hw, e⟩ => by
    rcases zWi_cut hm h with ⟨j, hj⟩ | ⟨j1, j2, c1, c2, h1, h2, h3⟩
    · by_cases hxm : x = m
      · rw [hxm] at hj hw e
        exact Or.inr ⟨j, 0, d, w m b, hj, Or.inr ⟨hw, rfl⟩, by omega⟩
      · exact Or.inl ⟨j + 1, x, d, ⟨hx.1, by omega⟩, hj, hw, e⟩
    · by_cases hxm : x = m
      · have := zWi_nn h2
        rw [hxm] at hw e
        exact Or.inr ⟨j1, 0, c1, w m b, h1, Or.inr ⟨hw, rfl⟩, by omega⟩
      · exact Or.inr ⟨j1, j2 + 1, c1, c2 + w x b, h1, ⟨x, c2, ⟨hx.1, by omega⟩, h2, hw, rfl⟩, by omega⟩
end WAYS
/-- v is how far it is from a to b (F: there is no way) -/
def zDs (F : Int) (w : Int → Int → Int) (n a b v : Int) : Prop := v ≤ F ∧ (v = F ∨ ∃ k, zWk w n k a b v) ∧ ∀ k c, zWk w n k a b c → v ≤ c
theorem zWk_le {w : Int → Int → Int} {n : Int} (hw : ∀ a b, w a b ≤ 99) : ∀ {k : Nat} {a b c : Int}, zWk w n k a b c → c ≤ 99 * (k : Int)
  | 0, _, _, _, h => by have := h.2; omega
  | _ + 1, _, b, _, ⟨x, d, hx, h, hw1, e⟩ => by
    have h1 := zWk_le hw h
    have h2 := hw x b
    omega
/-- the class's table of ways, places between below m -/
def zFwl (F : Int) (w : Int → Int → Int) (n m : Int) (f : Int → Int) : Prop := ∀ a b : Int, (0 ≤ a ∧ a < n) → (0 ≤ b ∧ b < n) → (0 ≤ f (a * 12 + b) ∧ f (a * 12 + b) ≤ F) ∧ (f (a * 12 + b) = F ∨ ∃ k, zWk w n k a b (f (a * 12 + b))) ∧ ∀ k c, zWi w m k a b c → f (a * 12 + b) ≤ c
/-- while one place more is let between: g as it was; rows below a, and in row a those below b, are through -/
def zFv (F : Int) (w : Int → Int → Int) (n m : Int) (g : Int → Int) (ra rb : Int) (f : Int → Int) : Prop := zFwl F w n m g ∧ ∀ a b : Int, (0 ≤ a ∧ a < n) → (0 ≤ b ∧ b < n) → (0 ≤ f (a * 12 + b) ∧ f (a * 12 + b) ≤ g (a * 12 + b)) ∧ (f (a * 12 + b) = F ∨ ∃ k, zWk w n k a b (f (a * 12 + b))) ∧ ((a < ra ∨ (a = ra ∧ b < rb)) → f (a * 12 + b) ≤ g (a * 12 + m) + g (m * 12 + b))
section FW
variable {F : Int} {w : Int → Int → Int} {n m ra rb : Int} {f g : Int → Int}
theorem zFv_0 (h : zFwl F w n m g) : zFv F w n m g 0 0 g := ⟨h, fun a b ha hb => ⟨⟨(h a b ha hb).1.1, Int.le_refl _⟩, (h a b ha hb).2.1, fun hh => absurd hh (by omega)⟩⟩
theorem zFv_row (h : zFv F w n m g ra n f) : zFv F w n m g (ra + 1) 0 f := ⟨h.1, fun a b ha hb => ⟨(h.2 a b ha hb).1, (h.2 a b ha hb).2.1, fun hh => (h.2 a b ha hb).2.2 (by omega)⟩⟩
theorem zFv_step (hm : 0 ≤ m ∧ m < n) (hn : n ≤ 12) (ha : 0 ≤ ra ∧ ra < n) (hb : 0 ≤ rb ∧ rb < n) (h : zFv F w n m g ra rb f) {f' : Int → Int} {x : Int} (hx : x = min (f (ra * 12 + rb)) (f (ra * 12 + m) + f (m * 12 + rb))) (e : ∀ i, f' i = if i = ra * 12 + rb then x else f i) : zFv F w n m g ra (rb + 1) f' := by
  refine ⟨h.1, fun a b ha' hb' => ?_⟩
  rw [e]
  by_cases hi : a = ra ∧ b = rb
  · obtain ⟨rfl, rfl⟩ := hi
    rw [if_pos rfl]
    obtain ⟨⟨p1, p2⟩, p3, -⟩ := h.2 a b ha hb
    obtain ⟨⟨q1, q2⟩, q3, -⟩ := h.2 a m ha hm
    obtain ⟨⟨r1, r2⟩, r3, -⟩ := h.2 m b hm hb
    have g1 := (h.1 a b ha hb).1
    have g2 := (h.1 a m ha hm).1
    have g3 := (h.1 m b hm hb).1
    refine ⟨⟨by omega, by omega⟩, ?_, fun _ => by omega⟩
    by_cases hlt : f (a * 12 + m) + f (m * 12 + b) < f (a * 12 + b)
    · have ex : x = f (a * 12 + m) + f (m * 12 + b) := by omega
      rcases q3 with q3 | ⟨k1, q3⟩
      · omega
      · rcases r3 with r3 | ⟨k2, r3⟩
        · omega
        · exact Or.inr ⟨k1 + k2, by rw [ex]; exact zWk_cat hm q3 r3⟩
    · have ex : x = f (a * 12 + b) := by omega
      rw [ex]
      exact p3
  · rw [if_neg (by omega)]
    obtain ⟨p1, p2, p3⟩ := h.2 a b ha' hb'
    exact ⟨p1, p2, fun hh => p3 (by omega)⟩
theorem zFv_end (hm : 0 ≤ m ∧ m < n) (h : zFv F w n m g n 0 f) : zFwl F w n (m + 1) f := fun a b ha hb => by
  obtain ⟨⟨p1, p2⟩, p3, p4⟩ := h.2 a b ha hb
  have g1 := (h.1 a b ha hb)
  refine ⟨⟨p1, by have := g1.1; omega⟩, p3, fun k c hk => ?_⟩
  rcases zWi_cut hm.1 hk with ⟨j, hj⟩ | ⟨j1, j2, c1, c2, h1, h2, h3⟩
  · have := g1.2.2 j c hj
    omega
  · have e1 := (h.1 a m ha hm).2.2 j1 c1 h1
    have e2 := (h.1 m b hm hb).2.2 j2 c2 h2
    have := p4 (Or.inl ha.2)
    omega
theorem zFw_ds (h : zFwl F w n n f) {a b : Int} (ha : 0 ≤ a ∧ a < n) (hb : 0 ≤ b ∧ b < n) : zDs F w n a b (f (a * 12 + b)) := by
  obtain ⟨p1, p2, p3⟩ := h a b ha hb
  refine ⟨p1.2, p2, fun k c hk => ?_⟩
  obtain ⟨j, hj⟩ := zWk_i hk
  exact p3 j c hj
/-- at the start: single lines -/
theorem zFw_0 (hF : 99 ≤ F) (hw : ∀ a b, 0 ≤ w a b ∧ w a b ≤ 99) (h : ∀ a b : Int, (0 ≤ a ∧ a < n) → (0 ≤ b ∧ b < n) → f (a * 12 + b) = if a = b then 0 else if w a b = 0 then F else w a b) : zFwl F w n 0 f := fun a b ha hb => by
  have e := h a b ha hb
  have hw1 := hw a b
  by_cases hab : a = b
  · rw [if_pos hab] at e
    refine ⟨⟨by omega, by omega⟩, Or.inr ⟨0, hab, e⟩, fun k c hk => ?_⟩
    have := zWi_nn hk
    omega
  · rw [if_neg hab] at e
    by_cases h0 : w a b = 0
    · rw [if_pos h0] at e
      refine ⟨⟨by omega, by omega⟩, Or.inl e, fun k c hk => ?_⟩
      cases k with
      | zero => rcases hk with hk | hk <;> omega
      | succ k => obtain ⟨x, d, hx, -⟩ := hk; omega
    · rw [if_neg h0] at e
      refine ⟨⟨by omega, by omega⟩, Or.inr ⟨1, a, 0, ha, ⟨rfl, rfl⟩, by omega, by omega⟩, fun k c hk => ?_⟩
      cases k with
      | zero => rcases hk with hk | hk <;> omega
      | succ k => obtain ⟨x, d, hx, -⟩ := hk; omega
end FW
/-! of more places than there are, two are the same -/
theorem zPig : ∀ (n : Nat) (f : Nat → Int), (∀ i, i ≤ n → 0 ≤ f i ∧ f i < (n : Int)) → ∃ i j, i < j ∧ j ≤ n ∧ f i = f j
  | 0, f, h => absurd (h 0 (Nat.le_refl _)) (by omega)
  | n + 1, f, h => by
    by_cases he : ∃ i, i ≤ n ∧ f i = f (n + 1)
    · obtain ⟨i, i1, i2⟩ := he
      exact ⟨i, n + 1, by omega, Nat.le_refl _, i2⟩
    · have hl := h (n + 1) (Nat.le_refl _)
      obtain ⟨i, j, i1, i2, i3⟩ := zPig n (fun i => if f i = (n : Int) then f (n + 1) else f i) (fun i hi => by
        have hi2 := h i (by omega)
        show 0 ≤ (if f i = (n : Int) then f (n + 1) else f i) ∧ (if f i = (n : Int) then f (n + 1) else f i) < (n : Int)
        by_cases hn : f i = (n : Int)
        · rw [if_pos hn]
          have : f (n + 1) ≠ (n : Int) := fun q => he ⟨i, hi, by omega⟩
          omega
        · rw [if_neg hn]
          omega)
      refine ⟨i, j, i1, by omega, ?_⟩
      have i3 : (if f i = (n : Int) then f (n + 1) else f i) = (if f j = (n : Int) then f (n + 1) else f j) := i3
      by_cases hi : f i = (n : Int) <;> by_cases hj : f j = (n : Int)
      · omega
      · rw [if_pos hi, if_neg hj] at i3
        exact absurd ⟨j, by omega, i3.symm⟩ he
      · rw [if_neg hi, if_pos hj] at i3
        exact absurd ⟨i, by omega, i3⟩ he
      · rw [if_neg hi, if_neg hj] at i3
        exact i3
/-- the places of a way -/
theorem zWk_pl {w : Int → Int → Int} {n : Int} : ∀ {k : Nat} {a b c : Int}, (0 ≤ a ∧ a < n) → (0 ≤ b ∧ b < n) → zWk w n k a b c → ∃ (P C : Nat → Int), P 0 = a ∧ P k = b ∧ C k = c ∧ (∀ i, i ≤ k → (0 ≤ P i ∧ P i < n) ∧ zWk w n i a (P i) (C i)) ∧ ∀ i, i < k → 0 < w (P i) (P (i + 1)) ∧ C (i + 1) = C i + w (P i) (P (i + 1))
  | 0, a, b, c, ha, hb, h => by
    obtain ⟨h1, h2⟩ := h
    refine ⟨fun _ => a, fun _ => 0, rfl, h1, h2.symm, fun i hi => ⟨ha, ?_⟩, fun i hi => absurd hi (by omega)⟩
    have hi0 : i = 0 := by omega
    rw [hi0]
    exact ⟨rfl, rfl⟩
  | k + 1, a, b, c, ha, hb, ⟨x, d, hx, h, hw, e⟩ => by
    obtain ⟨P, C, p0, pk, ck, p1, p2⟩ := zWk_pl ha hx h
    refine ⟨fun i => if i = k + 1 then b else P i, fun i => if i = k + 1 then c else C i, ?_, if_pos rfl, if_pos rfl, fun i hi => ?_, fun i hi => ?_⟩
    · show (if 0 = k + 1 then b else P 0) = a
      rw [if_neg (by omega)]
      exact p0
    · show (0 ≤ (if i = k + 1 then b else P i) ∧ (if i = k + 1 then b else P i) < n) ∧ zWk w n i a (if i = k + 1 then b else P i) (if i = k + 1 then c else C i)
      by_cases hik : i = k + 1
      · rw [if_pos hik, if_pos hik, hik]
        exact ⟨hb, x, d, hx, h, hw, e⟩
      · rw [if_neg hik, if_neg hik]
        exact p1 i (by omega)
    · show 0 < w (if i = k + 1 then b else P i) (if i + 1 = k + 1 then b else P (i + 1)) ∧ (if i + 1 = k + 1 then c else C (i + 1)) = (if i = k + 1 then c else C i) + w (if i = k + 1 then b else P i) (if i + 1 = k + 1 then b else P (i + 1))
      rw [if_neg (show ¬ i = k + 1 by omega), if_neg (show ¬ i = k + 1 by omega)]
      by_cases hik : i = k
      · subst hik
        rw [if_pos rfl, if_pos rfl, pk, ck]
        exact ⟨hw, e⟩
      · rw [if_neg (by omega), if_neg (by omega)]
        exact p2 i (by omega)
/-- from place i of a way on -/
theorem zWk_from {w : Int → Int → Int} {n : Int} {P C : Nat → Int} {k : Nat} (h1 : ∀ i, i ≤ k → (0 ≤ P i ∧ P i < n)) (h2 : ∀ i, i < k → 0 < w (P i) (P (i + 1)) ∧ C (i + 1) = C i + w (P i) (P (i + 1))) (i : Nat) : ∀ (j : Nat), i + j ≤ k → zWk w n j (P i) (P (i + j)) (C (i + j) - C i)
  | 0, _ => ⟨rfl, by show C i - C i = 0; omega⟩
  | j + 1, hj => by
    have a := zWk_from h1 h2 i j (by omega)
    obtain ⟨b1, b2⟩ := h2 (i + j) (by omega)
    exact ⟨P (i + j), _, h1 (i + j) (by omega), a, b1, by rw [show i + (j + 1) = i + j + 1 by omega, b2]; omega⟩
/-- a way that is no longer than there are places serves as well -/
theorem zWk_short {w : Int → Int → Int} {n : Nat} : ∀ (k : Nat) {a b c : Int}, (0 ≤ a ∧ a < (n : Int)) → (0 ≤ b ∧ b < (n : Int)) → zWk w n k a b c → ∃ j d, j ≤ n ∧ zWk w n j a b d ∧ d ≤ c := fun k => by
  induction k using Nat.strongRecOn with
  | ind k ih =>
    intro a b c ha hb h
    by_cases hk : k ≤ n
    · exact ⟨k, c, hk, h, Int.le_refl _⟩
    · obtain ⟨P, C, p0, pk, ck, p1, p2⟩ := zWk_pl ha hb h
      obtain ⟨i, j, i1, i2, i3⟩ := zPig n P (fun i hi => (p1 i (by omega)).1)
      have h1 := (p1 i (by omega)).2
      have h2 := zWk_from (fun i hi => (p1 i hi).1) p2 j (k - j) (by omega)
      have h3 := zWk_from (fun i hi => (p1 i hi).1) p2 i (j - i) (by omega)
      rw [show i + (j - i) = j by omega] at h3
      rw [show j + (k - j) = k by omega, pk, ck] at h2
      rw [i3] at h1
      have h4 := zWk_cat (p1 j (by omega)).1 h1 h2
      have := zWk_nn h3
      obtain ⟨q, d, q1, q2, q3⟩ := ih (i + (k - j)) (by omega) ha hb h4
      exact ⟨q, d, q1, q2, by omega⟩
/-! the reference's way: round by round -/
def zBf (w : Int → Int → Int) (n a : Int) (r : Nat) (g : Int → Int) : Prop := ∀ q : Int, (0 ≤ q ∧ q < n) → (0 ≤ g q ∧ g q ≤ 100000000) ∧ (g q = 100000000 ∨ ∃ k, zWk w n k a q (g q)) ∧ ∀ k c, k ≤ r → zWk w n k a q c → g q ≤ c
/-- within a round: o as it was; lines from places below p, and from p those to places below q, are through -/
def zBv (w : Int → Int → Int) (n a : Int) (r : Nat) (o : Int → Int) (p q : Int) (g : Int → Int) : Prop := zBf w n a r o ∧ ∀ y : Int, (0 ≤ y ∧ y < n) → (0 ≤ g y ∧ g y ≤ o y) ∧ (g y = 100000000 ∨ ∃ k, zWk w n k a y (g y)) ∧ ∀ x : Int, (0 ≤ x ∧ x < n) → (x < p ∨ (x = p ∧ y < q)) → 0 < w x y → g y ≤ o x + w x y
section BF
variable {w : Int → Int → Int} {n a p q : Int} {r : Nat} {o g : Int → Int}
theorem zBf_0 (h : ∀ y : Int, (0 ≤ y ∧ y < n) → g y = if y = a then 0 else 100000000) : zBf w n a 0 g := fun y hy => by
  have e := h y hy
  by_cases hya : y = a
  · rw [if_pos hya] at e
    refine ⟨⟨by omega, by omega⟩, Or.inr ⟨0, hya.symm, e⟩, fun k c hk hw => ?_⟩
    have := zWk_nn hw
    omega
  · rw [if_neg hya] at e
    refine ⟨⟨by omega, by omega⟩, Or.inl e, fun k c hk hw => ?_⟩
    obtain rfl : k = 0 := by omega
    exact absurd hw.1.symm hya
theorem zBv_0 (h : zBf w n a r g) : zBv w n a r g 0 0 g := ⟨h, fun y hy => ⟨⟨(h y hy).1.1, Int.le_refl _⟩, (h y hy).2.1, fun x hx hh => absurd hh (by omega)⟩⟩
theorem zBv_row (h : zBv w n a r o p n g) : zBv w n a r o (p + 1) 0 g := ⟨h.1, fun y hy => ⟨(h.2 y hy).1, (h.2 y hy).2.1, fun x hx hh hw => (h.2 y hy).2.2 x hx (by omega) hw⟩⟩
theorem zBv_no (hw0 : w p q = 0) (h : zBv w n a r o p q g) : zBv w n a r o p (q + 1) g := ⟨h.1, fun y hy => ⟨(h.2 y hy).1, (h.2 y hy).2.1, fun x hx hh hw => by
  by_cases hxy : x = p ∧ y = q
  · rw [hxy.1, hxy.2] at hw
    omega
  · exact (h.2 y hy).2.2 x hx (by omega) hw⟩⟩
theorem zBv_step (hp : 0 ≤ p ∧ p < n) (hq : 0 ≤ q ∧ q < n) (hw1 : 0 < w p q) (h : zBv w n a r o p q g) {g' : Int → Int} {x : Int} (hx : x = min (g q) (g p + w p q)) (e : ∀ i, g' i = if i = q then x else g i) : zBv w n a r o p (q + 1) g' := by
  refine ⟨h.1, fun y hy => ?_⟩
  obtain ⟨⟨p1, p2⟩, p3, p4⟩ := h.2 y hy
  obtain ⟨⟨q1, q2⟩, q3, q4⟩ := h.2 p hp
  rw [e]
  by_cases hyq : y = q
  · subst hyq
    rw [if_pos rfl]
    refine ⟨⟨by omega, by omega⟩, ?_, fun z hz hh hw => ?_⟩
    · by_cases hlt : g p + w p y < g y
      · have ex : x = g p + w p y := by omega
        have ob := (h.1 y hy).1
        rcases q3 with q3 | ⟨k, q3⟩
        · omega
        · exact Or.inr ⟨k + 1, p, g p, hp, q3, hw1, ex⟩
      · have ex : x = g y := by omega
        rw [ex]
        exact p3
    · by_cases hzp : z = p
      · rw [hzp]
        omega
      · have := p4 z hz (by omega) hw
        omega
  · rw [if_neg hyq]
    exact ⟨⟨p1, p2⟩, p3, fun z hz hh hw => p4 z hz (by omega) hw⟩
theorem zBv_end (h : zBv w n a r o n 0 g) : zBf w n a (r + 1) g := fun y hy => by
  obtain ⟨⟨p1, p2⟩, p3, p4⟩ := h.2 y hy
  have ho := h.1 y hy
  refine ⟨⟨p1, by have := ho.1; omega⟩, p3, fun k c hk hw => ?_⟩
  cases k with
  | zero =>
    have := ho.2.2 0 c (by omega) hw
    omega
  | succ k =>
    obtain ⟨x, d, hx, h1, h2, h3⟩ := hw
    have := (h.1 x hx).2.2 k d (by omega) h1
    have := p4 x hx (Or.inl hx.2) h2
    omega
theorem zBf_ds {N : Nat} (hn : n = (N : Int)) (ha : 0 ≤ a ∧ a < n) (h : zBf w n a N g) {b : Int} (hb : 0 ≤ b ∧ b < n) : zDs 100000000 w n a b (g b) := by
  obtain ⟨p1, p2, p3⟩ := h b hb
  refine ⟨p1.2, p2, fun k c hk => ?_⟩
  subst hn
  obtain ⟨j, d, j1, j2, j3⟩ := zWk_short k ha hb hk
  have := p3 j d j1 j2
  omega
end BF
/-- both ways of telling how far -/
theorem zDs_det {w : Int → Int → Int} {n : Nat} {a b v v' F F' : Int} (hw : ∀ a b, w a b ≤ 99) (hn : n ≤ 12) (hF : 2000 ≤ F) (hF' : 2000 ≤ F') (ha : 0 ≤ a ∧ a < (n : Int)) (hb : 0 ≤ b ∧ b < (n : Int)) (h : zDs F w n a b v) (h' : zDs F' w n a b v') : (v = F ∧ v' = F') ∨ (v = v' ∧ v < 2000) := by
  by_cases hr : ∃ k c, zWk w n k a b c
  · obtain ⟨k, c, hk⟩ := hr
    obtain ⟨j, d, j1, j2, -⟩ := zWk_short k ha hb hk
    have e := zWk_le hw j2
    have e1 := h.2.2 j d j2
    have e2 := h'.2.2 j d j2
    refine Or.inr ?_
    rcases h.2.1 with h1 | ⟨k1, h1⟩
    · omega
    · rcases h'.2.1 with h2 | ⟨k2, h2⟩
      · omega
      · have := h.2.2 k2 v' h2
        have := h'.2.2 k1 v h1
        omega
  · refine Or.inl ⟨?_, ?_⟩
    · rcases h.2.1 with h1 | ⟨k1, h1⟩
      · exact h1
      · exact absurd ⟨k1, v, h1⟩ hr
    · rcases h'.2.1 with h1 | ⟨k1, h1⟩
      · exact h1
      · exact absurd ⟨k1, v', h1⟩ hr
/-- lines alone, their steps not asked -/
def zw1 (w : Int → Int → Int) (a b : Int) : Int := if 0 < w a b then 1 else 0
/-- how many of those below m are as far as k -/
def zcnt (f : Int → Int) (k : Int) : Nat → Int
  | 0 => 0
  | m + 1 => zcnt f k m + (if f m = k then 1 else 0)
theorem zcnt_s (f : Int → Int) (k : Int) (m : Nat) : zcnt f k (m + 1) = zcnt f k m + (if f m = k then 1 else 0) := rfl
theorem zcnt_cg {f f' : Int → Int} {k : Int} : ∀ {m : Nat}, (∀ i : Int, 0 ≤ i → i < (m : Int) → f i = f' i) → zcnt f k m = zcnt f' k m
  | 0, _ => rfl
  | m + 1, h => by rw [zcnt_s, zcnt_s, h m (by omega) (by omega), zcnt_cg (m := m) (fun i i0 i1 => h i i0 (by omega))]
theorem zcnt_bd {f : Int → Int} {k : Int} : ∀ m : Nat, 0 ≤ zcnt f k m ∧ zcnt f k m ≤ m
  | 0 => ⟨Int.le_refl _, Int.le_refl _⟩
  | m + 1 => by
    have := zcnt_bd (f := f) (k := k) m
    rw [zcnt_s]
    split <;> omega
/-- x is the most of the pairs' ways up to (i, j), -1 before any -/
def zmo (P : Int → Int → Int → Prop) (n i j x : Int) : Prop := (∀ a b v : Int, (0 ≤ a ∧ a < n) → (0 ≤ b ∧ b < n) → (a < i ∨ (a = i ∧ b < j)) → P a b v → v ≤ x) ∧ (x = -1 ∨ ∃ a b, (0 ≤ a ∧ a < n) ∧ (0 ≤ b ∧ b < n) ∧ P a b x)
theorem zmo_0 {P : Int → Int → Int → Prop} {n : Int} : zmo P n 0 0 (-1) := ⟨fun a b v ha hb hh => absurd hh (by omega), Or.inl rfl⟩
theorem zmo_row {P : Int → Int → Int → Prop} {n i x : Int} (h : zmo P n i n x) : zmo P n (i + 1) 0 x := ⟨fun a b v ha hb hh => h.1 a b v ha hb (by omega), h.2⟩
theorem zDs_nn {F : Int} {w : Int → Int → Int} {n a b v : Int} (hF : 0 ≤ F) (h : zDs F w n a b v) : 0 ≤ v := by
  rcases h.2.1 with h1 | ⟨k, h1⟩
  · omega
  · exact zWk_nn h1
theorem zDs_un {F : Int} {w : Int → Int → Int} {n a b v v' : Int} (h : zDs F w n a b v) (h' : zDs F w n a b v') : v = v' := by
  have e1 : v ≤ v' := by
    rcases h'.2.1 with h1 | ⟨k, h1⟩
    · have := h.1; omega
    · exact h.2.2 k _ h1
  have e2 : v' ≤ v := by
    rcases h.2.1 with h1 | ⟨k, h1⟩
    · have := h'.1; omega
    · exact h'.2.2 k _ h1
  omega
theorem zmo_step {F : Int} {w : Int → Int → Int} {n N i j x d : Int} (hd : zDs F w N i j d) (hi : 0 ≤ i ∧ i < n) (hj : 0 ≤ j ∧ j < n) (h : zmo (zDs F w N) n i j x) : zmo (zDs F w N) n i (j + 1) (max x d) := by
  refine ⟨fun a b v ha hb hh hv => ?_, ?_⟩
  · by_cases hab : a = i ∧ b = j
    · obtain ⟨rfl, rfl⟩ := hab
      have := zDs_un hd hv
      omega
    · have := h.1 a b v ha hb (by omega) hv
      omega
  · by_cases hxd : x ≤ d
    · exact Or.inr ⟨i, j, hi, hj, by rw [show max x d = d by omega]; exact hd⟩
    · rw [show max x d = x by omega]
      exact h.2
theorem zmo_det {w : Int → Int → Int} {n : Nat} {x x' F F' : Int} (hw : ∀ a b, w a b ≤ 99) (hn : n ≤ 12) (hF : 2000 ≤ F) (hF' : 2000 ≤ F') (ex : ∀ a b : Int, (0 ≤ a ∧ a < (n : Int)) → (0 ≤ b ∧ b < (n : Int)) → ∃ v, zDs F w n a b v) (ex' : ∀ a b : Int, (0 ≤ a ∧ a < (n : Int)) → (0 ≤ b ∧ b < (n : Int)) → ∃ v, zDs F' w n a b v) (h : zmo (zDs F w n) n n 0 x) (h' : zmo (zDs F' w n) n n 0 x') : (if F ≤ x then -1 else x) = (if F' ≤ x' then -1 else x') := by
  have D : ∀ {a b v v' : Int}, (0 ≤ a ∧ a < (n : Int)) → (0 ≤ b ∧ b < (n : Int)) → zDs F w n a b v → zDs F' w n a b v' → (v = F ∧ v' = F') ∨ (v = v' ∧ v < 2000) := fun ha hb q q' => zDs_det hw hn hF hF' ha hb q q'
  by_cases h0 : n = 0
  · subst h0
    have e1 : x = -1 := by
      rcases h.2 with q | ⟨a, b, ha, -, -⟩
      · exact q
      · exact absurd ha (by omega)
    have e2 : x' = -1 := by
      rcases h'.2 with q | ⟨a, b, ha, -, -⟩
      · exact q
      · exact absurd ha (by omega)
    rw [e1, e2, if_neg (by omega), if_neg (by omega)]
  · obtain ⟨v0, q0⟩ := ex 0 0 ⟨by omega, by omega⟩ ⟨by omega, by omega⟩
    obtain ⟨v0', q0'⟩ := ex' 0 0 ⟨by omega, by omega⟩ ⟨by omega, by omega⟩
    have m0 := h.1 0 0 v0 ⟨by omega, by omega⟩ ⟨by omega, by omega⟩ (by omega) q0
    have m0' := h'.1 0 0 v0' ⟨by omega, by omega⟩ ⟨by omega, by omega⟩ (by omega) q0'
    have p0 := zDs_nn (by omega) q0
    have p0' := zDs_nn (by omega) q0'
    obtain ⟨a, b, ha, hb, h2⟩ := h.2.resolve_left (by omega)
    obtain ⟨a', b', ha', hb', h2'⟩ := h'.2.resolve_left (by omega)
    obtain ⟨u', r'⟩ := ex' a b ha hb
    obtain ⟨u, r⟩ := ex a' b' ha' hb'
    have e1 := h'.1 a b u' ha hb (by omega) r'
    have e2 := h.1 a' b' u ha' hb' (by omega) r
    have d1 := D ha hb h2 r'
    have d2 := D ha' hb' r h2'
    have b1 := h2'.1
    have b2 := h2.1
    rcases d1 with ⟨q1, q2⟩ | ⟨q1, q2⟩
    · rw [if_pos (by omega), if_pos (by omega)]
    · rcases d2 with ⟨q3, q4⟩ | ⟨q3, q4⟩
      · rw [if_pos (by omega), if_pos (by omega)]
      · rw [if_neg (by omega), if_neg (by omega)]
        omega
theorem zmo_00 {F : Int} {w : Int → Int → Int} {n : Int} (hn : 0 < n) (hF : 0 ≤ F) : zmo (zDs F w n) n 0 0 0 := ⟨fun a b v ha hb hh => absurd hh (by omega), Or.inr ⟨0, 0, ⟨by omega, hn⟩, ⟨by omega, hn⟩, hF, Or.inr ⟨0, rfl, rfl⟩, fun k c hk => zWk_nn hk⟩⟩
