/-! CHEAPLY: who buys where so that all is shut and costs the least; of several ways shop by shop the least customer -/
theorem ch_bx {S s t : Nat} : (S ^^^ 2 ^ s).testBit t = (S.testBit t ^^ decide (s = t)) := by
  rw [Nat.testBit_xor, Nat.testBit_two_pow]
theorem ch_rm {S s t : Nat} (h : S.testBit s = true) : (S ^^^ 2 ^ s).testBit t = true ↔ S.testBit t = true ∧ t ≠ s := by
  rw [ch_bx]
  by_cases e : s = t
  · subst e
    rw [h, decide_eq_true (show s = s from rfl)]
    exact ⟨fun q => absurd q (by decide), fun q => absurd rfl q.2⟩
  · rw [decide_eq_false e, Bool.xor_false]
    exact ⟨fun q => ⟨q, fun w => e w.symm⟩, fun q => q.1⟩
theorem ch_rn {S s t : Nat} (e : s ≠ t) : (S ^^^ 2 ^ s).testBit t = S.testBit t := by
  rw [ch_bx, decide_eq_false e, Bool.xor_false]
theorem ch_lt8 {S s : Nat} (hS : S < 256) (h : S.testBit s = true) : s < 8 := by
  by_cases h8 : s < 8
  · exact h8
  · have h1 : 2 ^ 8 ≤ 2 ^ s := Nat.pow_le_pow_right (by decide) (by omega)
    have h2 : S.testBit s = false := Nat.testBit_lt_two_pow (Nat.lt_of_lt_of_le (show S < 2 ^ 8 from hS) h1)
    rw [h2] at h
    cases h
theorem ch_r8 {S s : Nat} (hS : S < 256) (hs : s < 8) : S ^^^ 2 ^ s < 256 := Nat.xor_lt_two_pow (n := 8) hS (Nat.pow_lt_pow_right (by decide) hs)
theorem ch_S0 {S : Nat} (h : ∀ s, S.testBit s = false) : S = 0 := Nat.eq_of_testBit_eq fun i => by rw [h, Nat.zero_testBit]
/-- one customer more: a set's least, shop by shop -/
def ch_row (D : Nat → Int) (w : Nat → Int) (S : Nat) : Nat → Int
  | 0 => D S
  | n + 1 => if S.testBit n = true then min (ch_row D w S n) (D (S ^^^ 2 ^ n) + w n) else ch_row D w S n
theorem ch_row_y {D : Nat → Int} {w : Nat → Int} {S n : Nat} (h : S.testBit n = true) : ch_row D w S (n + 1) = min (ch_row D w S n) (D (S ^^^ 2 ^ n) + w n) := if_pos h
theorem ch_row_n {D : Nat → Int} {w : Nat → Int} {S n : Nat} (h : ¬ S.testBit n = true) : ch_row D w S (n + 1) = ch_row D w S n := if_neg h
theorem ch_row_le {D : Nat → Int} {w : Nat → Int} {S : Nat} : ∀ n, ch_row D w S n ≤ D S
  | 0 => Int.le_refl _
  | n + 1 => by
    have := ch_row_le (D := D) (w := w) (S := S) n
    by_cases h : S.testBit n = true
    · rw [ch_row_y h]; omega
    · rw [ch_row_n h]; exact this
theorem ch_row_l2 {D : Nat → Int} {w : Nat → Int} {S s : Nat} (hs : S.testBit s = true) : ∀ {n : Nat}, s < n → ch_row D w S n ≤ D (S ^^^ 2 ^ s) + w s
  | 0, h => absurd h (by omega)
  | n + 1, h => by
    by_cases e : s = n
    · subst e
      rw [ch_row_y hs]; omega
    · have := ch_row_l2 (D := D) (w := w) hs (n := n) (by omega)
      by_cases h : S.testBit n = true
      · rw [ch_row_y h]; omega
      · rw [ch_row_n h]; exact this
theorem ch_row_c {D : Nat → Int} {w : Nat → Int} {S : Nat} : ∀ n, ch_row D w S n = D S ∨ ∃ s, s < n ∧ S.testBit s = true ∧ ch_row D w S n = D (S ^^^ 2 ^ s) + w s
  | 0 => Or.inl rfl
  | n + 1 => by
    have ih := ch_row_c (D := D) (w := w) (S := S) n
    by_cases h : S.testBit n = true
    · rw [ch_row_y h]
      by_cases h2 : ch_row D w S n ≤ D (S ^^^ 2 ^ n) + w n
      · rw [show min (ch_row D w S n) (D (S ^^^ 2 ^ n) + w n) = ch_row D w S n by omega]
        rcases ih with e | ⟨s, s1, s2, s3⟩
        · exact Or.inl e
        · exact Or.inr ⟨s, by omega, s2, s3⟩
      · exact Or.inr ⟨n, by omega, h, by omega⟩
    · rw [ch_row_n h]
      rcases ih with e | ⟨s, s1, s2, s3⟩
      · exact Or.inl e
      · exact Or.inr ⟨s, by omega, s2, s3⟩
def ch_D (F : Int) (w : Nat → Nat → Int) : Nat → Nat → Int
  | 0, S => if S = 0 then 0 else F
  | c + 1, S => ch_row (ch_D F w c) (w c) S 8
/-- what a way costs -/
def ch_sum (f : Nat → Int) (S : Nat) : Nat → Int
  | 0 => 0
  | n + 1 => ch_sum f S n + (if S.testBit n = true then f n else 0)
theorem ch_sum_y {f : Nat → Int} {S n : Nat} (h : S.testBit n = true) : ch_sum f S (n + 1) = ch_sum f S n + f n := by
  show ch_sum f S n + (if S.testBit n = true then f n else 0) = _
  rw [if_pos h]
theorem ch_sum_n {f : Nat → Int} {S n : Nat} (h : ¬ S.testBit n = true) : ch_sum f S (n + 1) = ch_sum f S n := by
  show ch_sum f S n + (if S.testBit n = true then f n else 0) = _
  rw [if_neg h, Int.add_zero]
theorem ch_sum_c {f g : Nat → Int} {S S' : Nat} : ∀ {n : Nat}, (∀ i, i < n → S'.testBit i = S.testBit i ∧ (S.testBit i = true → f i = g i)) → ch_sum f S' n = ch_sum g S n
  | 0, _ => rfl
  | n + 1, h => by
    have ih := ch_sum_c (f := f) (g := g) (S := S) (S' := S') (n := n) (fun i hi => h i (by omega))
    obtain ⟨h1, h2⟩ := h n (by omega)
    by_cases hb : S.testBit n = true
    · rw [ch_sum_y hb, ch_sum_y (h1.trans hb), ih, h2 hb]
    · rw [ch_sum_n hb, ch_sum_n (by rw [h1]; exact hb), ih]
theorem ch_sum_r {f : Nat → Int} {S s : Nat} (hs : S.testBit s = true) : ∀ {n : Nat}, s < n → ch_sum f (S ^^^ 2 ^ s) n + f s = ch_sum f S n
  | 0, h => absurd h (by omega)
  | n + 1, h => by
    by_cases e : s = n
    · subst e
      have e1 : ch_sum f (S ^^^ 2 ^ s) s = ch_sum f S s := ch_sum_c (fun i hi => ⟨ch_rn (by omega), fun _ => rfl⟩)
      rw [ch_sum_y hs, ch_sum_n (fun q => ((ch_rm hs).mp q).2 rfl), e1]
    · have ih := ch_sum_r (f := f) hs (n := n) (by omega)
      by_cases hb : S.testBit n = true
      · rw [ch_sum_y hb, ch_sum_y (by rw [ch_rn e]; exact hb)]
        omega
      · rw [ch_sum_n hb, ch_sum_n (by rw [ch_rn e]; exact hb)]
        exact ih
theorem ch_sum_0 {f : Nat → Int} {S : Nat} : ∀ {n : Nat}, (∀ i, i < n → S.testBit i = false) → ch_sum f S n = 0
  | 0, _ => rfl
  | n + 1, h => by
    rw [ch_sum_n (by rw [h n (by omega)]; exact fun q => by cases q)]
    exact ch_sum_0 (fun i hi => h i (by omega))
theorem ch_sum_p {f : Nat → Int} {S : Nat} (hf : ∀ s, S.testBit s = true → 0 ≤ f s) : ∀ {n : Nat}, 0 ≤ ch_sum f S n
  | 0 => Int.le_refl _
  | n + 1 => by
    have ih := ch_sum_p hf (n := n)
    by_cases hb : S.testBit n = true
    · rw [ch_sum_y hb]; have := hf n hb; omega
    · rw [ch_sum_n hb]; exact ih
theorem ch_sum_g {f : Nat → Int} {S s : Nat} (hf : ∀ s, S.testBit s = true → 0 ≤ f s) (hs : S.testBit s = true) : ∀ {n : Nat}, s < n → f s ≤ ch_sum f S n
  | 0, h => absurd h (by omega)
  | n + 1, h => by
    by_cases e : s = n
    · subst e
      rw [ch_sum_y hs]; have := ch_sum_p hf (n := s); omega
    · have ih := ch_sum_g hf hs (n := n) (by omega)
      by_cases hb : S.testBit n = true
      · rw [ch_sum_y hb]; have := hf n hb; omega
      · rw [ch_sum_n hb]; exact ih
theorem ch_sum_b {f g : Nat → Int} {B : Int} {S : Nat} : ∀ {n : Nat}, ch_sum (fun s => f s * B + g s) S n = ch_sum f S n * B + ch_sum g S n
  | 0 => by
    show (0 : Int) = 0 * B + 0
    rw [Int.zero_mul, Int.add_zero]
  | n + 1 => by
    have ih := ch_sum_b (f := f) (g := g) (B := B) (S := S) (n := n)
    by_cases hb : S.testBit n = true
    · rw [ch_sum_y hb, ch_sum_y hb, ch_sum_y hb, ih, Int.add_mul]
      omega
    · rw [ch_sum_n hb, ch_sum_n hb, ch_sum_n hb, ih]
theorem ch_sum_m {f : Nat → Int} {S : Nat} {M : Int} (hM : 0 ≤ M) (hf : ∀ s, S.testBit s = true → f s ≤ M) : ∀ {n : Nat}, ch_sum f S n ≤ (n : Int) * M
  | 0 => by
    show (0 : Int) ≤ ((0 : Nat) : Int) * M
    omega
  | n + 1 => by
    have ih := ch_sum_m hM hf (n := n)
    have e0 : ((n + 1 : Nat) : Int) = (n : Int) + 1 := by omega
    have e : ((n + 1 : Nat) : Int) * M = (n : Int) * M + M := by rw [e0, Int.add_mul, Int.one_mul]
    rw [e]
    by_cases hb : S.testBit n = true
    · rw [ch_sum_y hb]; have := hf n hb; omega
    · rw [ch_sum_n hb]; omega
/-- a way: each shop of the set its own customer, of those ahead of c -/
def ch_W (A : Nat → Nat) (S c : Nat) : Prop := (∀ s, S.testBit s = true → A s < c) ∧ ∀ s t, S.testBit s = true → S.testBit t = true → A s = A t → s = t
theorem ch_low {F : Int} {w : Nat → Nat → Int} : ∀ {c S : Nat} {A : Nat → Nat}, S < 256 → ch_W A S c → ch_D F w c S ≤ ch_sum (fun s => w (A s) s) S 8
  | 0, S, A, hS, h => by
    have h0 : ∀ s, S.testBit s = false := fun s => by
      cases hb : S.testBit s with
      | false => rfl
      | true => exact absurd (h.1 s hb) (by omega)
    show (if S = 0 then 0 else F) ≤ _
    rw [if_pos (ch_S0 h0), ch_sum_0 (fun i _ => h0 i)]
    exact Int.le_refl _
  | c + 1, S, A, hS, h => by
    show ch_row (ch_D F w c) (w c) S 8 ≤ _
    by_cases hx : ∃ s, S.testBit s = true ∧ A s = c
    · obtain ⟨s, s1, s2⟩ := hx
      have s8 := ch_lt8 hS s1
      have ih := ch_low (F := F) (w := w) (c := c) (S := S ^^^ 2 ^ s) (A := A) (ch_r8 hS s8) ⟨fun t ht => by
        obtain ⟨t1, t2⟩ := (ch_rm s1).mp ht
        have := h.1 t t1
        have hne : A t ≠ c := fun e => t2 (h.2 t s t1 s1 (e.trans s2.symm))
        omega, fun t u ht hu e => h.2 t u ((ch_rm s1).mp ht).1 ((ch_rm s1).mp hu).1 e⟩
      have h1 := ch_row_l2 (D := ch_D F w c) (w := w c) s1 (n := 8) s8
      have h2 : ch_sum (fun s => w (A s) s) (S ^^^ 2 ^ s) 8 + w (A s) s = ch_sum (fun s => w (A s) s) S 8 := ch_sum_r (f := fun s => w (A s) s) s1 (n := 8) s8
      rw [s2] at h2
      omega
    · have ih := ch_low (F := F) (w := w) (c := c) (S := S) (A := A) hS ⟨fun t ht => by
        have := h.1 t ht
        have hne : A t ≠ c := fun e => hx ⟨t, ht, e⟩
        omega, h.2⟩
      exact Int.le_trans (ch_row_le 8) ih
theorem ch_at {F : Int} {w : Nat → Nat → Int} (hw : ∀ c s, 0 ≤ w c s) : ∀ {c S : Nat}, S < 256 → ch_D F w c S < F → ∃ A : Nat → Nat, ch_W A S c ∧ ch_sum (fun s => w (A s) s) S 8 = ch_D F w c S
  | 0, S, hS, h => by
    have h1 : (if S = 0 then 0 else F) < F := h
    have h0 : S = 0 := by
      by_cases e : S = 0
      · exact e
      · rw [if_neg e] at h1; omega
    subst h0
    refine ⟨fun _ => 0, ⟨fun s hs => ?_, fun s t hs => ?_⟩, ?_⟩
    · rw [Nat.zero_testBit] at hs; cases hs
    · rw [Nat.zero_testBit] at hs; cases hs
    · rw [ch_sum_0 (fun i _ => Nat.zero_testBit i)]
      exact (if_pos rfl).symm
  | c + 1, S, hS, h => by
    have h : ch_row (ch_D F w c) (w c) S 8 < F := h
    show ∃ A : Nat → Nat, ch_W A S (c + 1) ∧ ch_sum (fun s => w (A s) s) S 8 = ch_row (ch_D F w c) (w c) S 8
    rcases ch_row_c (D := ch_D F w c) (w := w c) (S := S) 8 with e | ⟨s, s8, s1, e⟩
    · rw [e] at h ⊢
      obtain ⟨A, a1, a2⟩ := ch_at hw hS h
      exact ⟨A, ⟨fun t ht => Nat.lt_succ_of_lt (a1.1 t ht), a1.2⟩, a2⟩
    · rw [e] at h ⊢
      have hp := hw c s
      obtain ⟨A, a1, a2⟩ := ch_at hw (ch_r8 hS s8) (show ch_D F w c (S ^^^ 2 ^ s) < F by omega)
      have hA : ∀ t, S.testBit t = true → t ≠ s → (S ^^^ 2 ^ s).testBit t = true := fun t t1 t2 => (ch_rm s1).mpr ⟨t1, t2⟩
      refine ⟨fun t => if t = s then c else A t, ⟨fun t ht => ?_, fun t u ht hu h9 => ?_⟩, ?_⟩
      · show (if t = s then c else A t) < c + 1
        by_cases ts : t = s
        · rw [if_pos ts]; omega
        · rw [if_neg ts]; have := a1.1 t (hA t ht ts); omega
      · have h9 : (if t = s then c else A t) = (if u = s then c else A u) := h9
        by_cases ts : t = s
        · by_cases us : u = s
          · rw [ts, us]
          · rw [if_pos ts, if_neg us] at h9; have := a1.1 u (hA u hu us); omega
        · by_cases us : u = s
          · rw [if_neg ts, if_pos us] at h9; have := a1.1 t (hA t ht ts); omega
          · rw [if_neg ts, if_neg us] at h9
            exact a1.2 t u (hA t ht ts) (hA u hu us) h9
      · have h2 : ch_sum (fun t => w (if t = s then c else A t) t) (S ^^^ 2 ^ s) 8 + w (if s = s then c else A s) s = ch_sum (fun t => w (if t = s then c else A t) t) S 8 := ch_sum_r (f := fun t => w (if t = s then c else A t) t) s1 (n := 8) s8
        have h3 : w (if s = s then c else A s) s = w c s := by rw [if_pos rfl]
        have h4 : ch_sum (fun t => w (if t = s then c else A t) t) (S ^^^ 2 ^ s) 8 = ch_sum (fun t => w (A t) t) (S ^^^ 2 ^ s) 8 := ch_sum_c (fun i _ => ⟨rfl, fun hi => by
          rw [if_neg ((ch_rm s1).mp hi).2]⟩)
        rw [h3, h4, a2] at h2
        exact h2.symm
/-- digits -/
def ch_p : Nat → Int
  | 0 => 612220032
  | 1 => 34012224
  | 2 => 1889568
  | 3 => 104976
  | 4 => 5832
  | 5 => 324
  | 6 => 18
  | _ => 1
def ch_x (A : Nat → Nat) (S s : Nat) : Int := if S.testBit s = true then (A s : Int) else 0
theorem ch_x_y {A : Nat → Nat} {S s : Nat} (h : S.testBit s = true) : ch_x A S s = (A s : Int) := if_pos h
theorem ch_x_b {A : Nat → Nat} {S s : Nat} (h : S.testBit s = true → A s < 18) : 0 ≤ ch_x A S s ∧ ch_x A S s ≤ 17 := by
  unfold ch_x
  split
  · rename_i hb
    have := h hb
    omega
  · omega
theorem ch_x_m {A : Nat → Nat} {S s : Nat} {q : Int} : (if S.testBit s = true then (A s : Int) * q else 0) = ch_x A S s * q := by
  unfold ch_x
  split
  · rfl
  · rw [Int.zero_mul]
def ch_dg (A : Nat → Nat) (S : Nat) : Int := ch_sum (fun s => (A s : Int) * ch_p s) S 8
theorem ch_dg_8 {A : Nat → Nat} {S : Nat} : ch_dg A S = ch_x A S 0 * 612220032 + ch_x A S 1 * 34012224 + ch_x A S 2 * 1889568 + ch_x A S 3 * 104976 + ch_x A S 4 * 5832 + ch_x A S 5 * 324 + ch_x A S 6 * 18 + ch_x A S 7 * 1 := by
  show 0 + (if S.testBit 0 = true then (A 0 : Int) * 612220032 else 0) + (if S.testBit 1 = true then (A 1 : Int) * 34012224 else 0) + (if S.testBit 2 = true then (A 2 : Int) * 1889568 else 0) + (if S.testBit 3 = true then (A 3 : Int) * 104976 else 0) + (if S.testBit 4 = true then (A 4 : Int) * 5832 else 0) + (if S.testBit 5 = true then (A 5 : Int) * 324 else 0) + (if S.testBit 6 = true then (A 6 : Int) * 18 else 0) + (if S.testBit 7 = true then (A 7 : Int) * 1 else 0) = _
  rw [ch_x_m, ch_x_m, ch_x_m, ch_x_m, ch_x_m, ch_x_m, ch_x_m, ch_x_m, Int.zero_add]
theorem ch_s8 {s : Nat} (h : s < 8) : s = 0 ∨ s = 1 ∨ s = 2 ∨ s = 3 ∨ s = 4 ∨ s = 5 ∨ s = 6 ∨ s = 7 := by omega
section CHD
variable {A B : Nat → Nat} {S : Nat}
theorem ch_dg_b (h : ∀ s, S.testBit s = true → A s < 18) : 0 ≤ ch_dg A S ∧ ch_dg A S < 11019960576 := by
  rw [ch_dg_8]
  have h0 := ch_x_b (h 0)
  have h1 := ch_x_b (h 1)
  have h2 := ch_x_b (h 2)
  have h3 := ch_x_b (h 3)
  have h4 := ch_x_b (h 4)
  have h5 := ch_x_b (h 5)
  have h6 := ch_x_b (h 6)
  have h7 := ch_x_b (h 7)
  omega
theorem ch_dig (h : ∀ s, S.testBit s = true → A s < 18) {C : Int} {s : Nat} (hs : s < 8) : (C * 11019960576 + ch_dg A S) / ch_p s % 18 = ch_x A S s := by
  rw [ch_dg_8]
  have h0 := ch_x_b (h 0)
  have h1 := ch_x_b (h 1)
  have h2 := ch_x_b (h 2)
  have h3 := ch_x_b (h 3)
  have h4 := ch_x_b (h 4)
  have h5 := ch_x_b (h 5)
  have h6 := ch_x_b (h 6)
  have h7 := ch_x_b (h 7)
  rcases ch_s8 hs with rfl | rfl | rfl | rfl | rfl | rfl | rfl | rfl
  · show _ / (612220032 : Int) % 18 = _; omega
  · show _ / (34012224 : Int) % 18 = _; omega
  · show _ / (1889568 : Int) % 18 = _; omega
  · show _ / (104976 : Int) % 18 = _; omega
  · show _ / (5832 : Int) % 18 = _; omega
  · show _ / (324 : Int) % 18 = _; omega
  · show _ / (18 : Int) % 18 = _; omega
  · show _ / (1 : Int) % 18 = _; omega
theorem ch_lex (h : ∀ s, S.testBit s = true → A s < 18) (h' : ∀ s, S.testBit s = true → B s < 18) {s : Nat} (hs : s < 8) (hb : S.testBit s = true) (ha : ∀ t, t < s → S.testBit t = true → A t = B t) (hd : ch_dg A S ≤ ch_dg B S) : A s ≤ B s := by
  have hx : ∀ t, t < s → ch_x A S t = ch_x B S t := fun t ht => by
    unfold ch_x
    by_cases hb : S.testBit t = true
    · rw [if_pos hb, if_pos hb, ha t ht hb]
    · rw [if_neg hb, if_neg hb]
  rw [ch_dg_8, ch_dg_8] at hd
  have h0 := ch_x_b (h 0)
  have h1 := ch_x_b (h 1)
  have h2 := ch_x_b (h 2)
  have h3 := ch_x_b (h 3)
  have h4 := ch_x_b (h 4)
  have h5 := ch_x_b (h 5)
  have h6 := ch_x_b (h 6)
  have h7 := ch_x_b (h 7)
  have g0 := ch_x_b (h' 0)
  have g1 := ch_x_b (h' 1)
  have g2 := ch_x_b (h' 2)
  have g3 := ch_x_b (h' 3)
  have g4 := ch_x_b (h' 4)
  have g5 := ch_x_b (h' 5)
  have g6 := ch_x_b (h' 6)
  have g7 := ch_x_b (h' 7)
  have hA := ch_x_y (A := A) hb
  have hB := ch_x_y (A := B) hb
  have hx0 := hx 0
  have hx1 := hx 1
  have hx2 := hx 2
  have hx3 := hx 3
  have hx4 := hx 4
  have hx5 := hx 5
  have hx6 := hx 6
  rcases ch_s8 hs with rfl | rfl | rfl | rfl | rfl | rfl | rfl | rfl
  · omega
  · have := hx0 (by decide); omega
  · have := hx0 (by decide); have := hx1 (by decide); omega
  · have := hx0 (by decide); have := hx1 (by decide); have := hx2 (by decide); omega
  · have := hx0 (by decide); have := hx1 (by decide); have := hx2 (by decide); have := hx3 (by decide); omega
  · have := hx0 (by decide); have := hx1 (by decide); have := hx2 (by decide); have := hx3 (by decide); have := hx4 (by decide); omega
  · have := hx0 (by decide); have := hx1 (by decide); have := hx2 (by decide); have := hx3 (by decide); have := hx4 (by decide); have := hx5 (by decide); omega
  · have := hx0 (by decide); have := hx1 (by decide); have := hx2 (by decide); have := hx3 (by decide); have := hx4 (by decide); have := hx5 (by decide); have := hx6 (by decide); omega
end CHD
