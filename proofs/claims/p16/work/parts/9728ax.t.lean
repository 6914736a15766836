/-! CHEAPLY: both ways come to the same least, the same customers -/
def ch_w1 (kk : Nat → Nat → Int) (ok : Nat → Nat → Bool) (c s : Nat) : Int := if ok c s = true then kk c s * 11019960576 + (c : Int) * ch_p s else 1000000000000000
def ch_w2 (kk : Nat → Nat → Int) (ok : Nat → Nat → Bool) (c s : Nat) : Int := if ok c s = true then kk c s else 100000000
theorem ch_zcl {S s : Nat} (hS : S < 256) (h : S.testBit s = true) : zcl S s = S ^^^ 2 ^ s := by
  have hs := ch_lt8 hS h
  refine Nat.eq_of_testBit_eq fun i => ?_
  by_cases hi : i < 8
  · rw [zcl_bit hs hi, ch_bx]
    by_cases e : i = s
    · subst e; simp [h]
    · rw [decide_eq_true (show i ≠ s from e), decide_eq_false (show ¬ s = i from fun q => e q.symm), Bool.and_true, Bool.xor_false]
  · have h2 : (2 : Nat) ^ 8 ≤ 2 ^ i := Nat.pow_le_pow_right (by decide) (by omega)
    rw [Nat.testBit_lt_two_pow (Nat.lt_of_lt_of_le (Nat.lt_of_le_of_lt (zcl_le S s) (show S < 2 ^ 8 from hS)) h2), Nat.testBit_lt_two_pow (Nat.lt_of_lt_of_le (show S ^^^ 2 ^ s < 2 ^ 8 from ch_r8 hS hs) h2)]
/-- the reference's ways are ways -/
theorem ch_way {cost : Nat → Nat → Int} {T : Nat → Bool} : ∀ {n S : Nat} {A : Nat → Nat}, S < 256 → ch_W A S n → (∀ s, S.testBit s = true → T (A s) = false) → zA cost T n S (ch_sum (fun s => cost (A s) s) S 8)
  | 0, S, A, hS, h, _ => by
    have h0 : ∀ s, S.testBit s = false := fun s => by
      cases hb : S.testBit s with
      | false => rfl
      | true => exact absurd (h.1 s hb) (by omega)
    exact ⟨ch_S0 h0, ch_sum_0 (fun i _ => h0 i)⟩
  | n + 1, S, A, hS, h, ht => by
    by_cases hx : ∃ s, S.testBit s = true ∧ A s = n
    · obtain ⟨s, s1, s2⟩ := hx
      have s8 := ch_lt8 hS s1
      have ih := ch_way (cost := cost) (T := T) (n := n) (S := S ^^^ 2 ^ s) (A := A) (ch_r8 hS s8) ⟨fun t ht => by
        obtain ⟨t1, t2⟩ := (ch_rm s1).mp ht
        have := h.1 t t1
        have hne : A t ≠ n := fun e => t2 (h.2 t s t1 s1 (e.trans s2.symm))
        omega, fun t u ht hu e => h.2 t u ((ch_rm s1).mp ht).1 ((ch_rm s1).mp hu).1 e⟩ (fun t h1 => ht t ((ch_rm s1).mp h1).1)
      have h2 : ch_sum (fun s => cost (A s) s) (S ^^^ 2 ^ s) 8 + cost (A s) s = ch_sum (fun s => cost (A s) s) S 8 := ch_sum_r (f := fun s => cost (A s) s) s1 (n := 8) s8
      rw [s2] at h2
      refine Or.inr ⟨by rw [← s2]; exact ht s s1, s, s8, s1, ?_⟩
      rw [ch_zcl hS s1, show ch_sum (fun s => cost (A s) s) S 8 - cost n s = ch_sum (fun s => cost (A s) s) (S ^^^ 2 ^ s) 8 by omega]
      exact ih
    · exact Or.inl (ch_way (n := n) hS ⟨fun t h1 => by
        have := h.1 t h1
        have hne : A t ≠ n := fun e => hx ⟨t, h1, e⟩
        omega, h.2⟩ ht)
theorem ch_wat {cost : Nat → Nat → Int} {T : Nat → Bool} : ∀ {n S : Nat} {v : Int}, S < 256 → zA cost T n S v → ∃ A : Nat → Nat, ch_W A S n ∧ (∀ s, S.testBit s = true → T (A s) = false) ∧ ch_sum (fun s => cost (A s) s) S 8 = v
  | 0, S, v, hS, h => by
    obtain ⟨rfl, rfl⟩ := h
    refine ⟨fun _ => 0, ⟨fun s hs => ?_, fun s t hs => ?_⟩, fun s hs => ?_, ch_sum_0 (fun i _ => Nat.zero_testBit i)⟩
    · rw [Nat.zero_testBit] at hs; cases hs
    · rw [Nat.zero_testBit] at hs; cases hs
    · rw [Nat.zero_testBit] at hs; cases hs
  | n + 1, S, v, hS, h => by
    rcases h with h | ⟨ht, s, s8, s1, h⟩
    · obtain ⟨A, a1, a2, a3⟩ := ch_wat hS h
      exact ⟨A, ⟨fun t h1 => Nat.lt_succ_of_lt (a1.1 t h1), a1.2⟩, a2, a3⟩
    · rw [ch_zcl hS s1] at h
      obtain ⟨A, a1, a2, a3⟩ := ch_wat (ch_r8 hS s8) h
      have hA : ∀ t, S.testBit t = true → t ≠ s → (S ^^^ 2 ^ s).testBit t = true := fun t t1 t2 => (ch_rm s1).mpr ⟨t1, t2⟩
      refine ⟨fun t => if t = s then n else A t, ⟨fun t h1 => ?_, fun t u h1 h2 h9 => ?_⟩, fun t h1 => ?_, ?_⟩
      · show (if t = s then n else A t) < n + 1
        by_cases ts : t = s
        · rw [if_pos ts]; omega
        · rw [if_neg ts]; have := a1.1 t (hA t h1 ts); omega
      · have h9 : (if t = s then n else A t) = (if u = s then n else A u) := h9
        by_cases ts : t = s
        · by_cases us : u = s
          · rw [ts, us]
          · rw [if_pos ts, if_neg us] at h9; have := a1.1 u (hA u h2 us); omega
        · by_cases us : u = s
          · rw [if_neg ts, if_pos us] at h9; have := a1.1 t (hA t h1 ts); omega
          · rw [if_neg ts, if_neg us] at h9
            exact a1.2 t u (hA t h1 ts) (hA u h2 us) h9
      · show T (if t = s then n else A t) = false
        by_cases ts : t = s
        · rw [if_pos ts]; exact ht
        · rw [if_neg ts]; exact a2 t (hA t h1 ts)
      · have h2 : ch_sum (fun t => cost (if t = s then n else A t) t) (S ^^^ 2 ^ s) 8 + cost (if s = s then n else A s) s = ch_sum (fun t => cost (if t = s then n else A t) t) S 8 := ch_sum_r (f := fun t => cost (if t = s then n else A t) t) s1 (n := 8) s8
        have h3 : cost (if s = s then n else A s) s = cost n s := by rw [if_pos rfl]
        have h4 : ch_sum (fun t => cost (if t = s then n else A t) t) (S ^^^ 2 ^ s) 8 = ch_sum (fun t => cost (A t) t) (S ^^^ 2 ^ s) 8 := ch_sum_c (fun i _ => ⟨rfl, fun hi => by
          rw [if_neg ((ch_rm s1).mp hi).2]⟩)
        rw [h3, h4, a3] at h2
        show ch_sum (fun t => cost (if t = s then n else A t) t) S 8 = _
        omega
theorem ch_p_b : ∀ s, 0 ≤ ch_p s ∧ ch_p s ≤ 612220032
  | 0 => by decide
  | 1 => by decide
  | 2 => by decide
  | 3 => by decide
  | 4 => by decide
  | 5 => by decide
  | 6 => by decide
  | _ + 7 => by
    show 0 ≤ (1 : Int) ∧ (1 : Int) ≤ 612220032
    decide
/-- a way that is one indeed -/
def ch_V (ok : Nat → Nat → Bool) (A : Nat → Nat) (S m : Nat) : Prop := ch_W A S m ∧ ∀ s, S.testBit s = true → ok (A s) s = true
section CHG
variable {kk : Nat → Nat → Int} {ok : Nat → Nat → Bool} {m W : Nat}
def ch_k (kk : Nat → Nat → Int) (A : Nat → Nat) : Nat → Int := fun s => kk (A s) s
theorem ch_w1_0 (hk : ∀ c s, 0 ≤ kk c s ∧ kk c s ≤ 999) : ∀ c s, 0 ≤ ch_w1 kk ok c s := fun c s => by
  unfold ch_w1
  have h1 := hk c s
  have h2 : 0 ≤ (c : Int) * ch_p s := Int.mul_nonneg (by omega) (ch_p_b s).1
  split <;> omega
theorem ch_w2_0 (hk : ∀ c s, 0 ≤ kk c s ∧ kk c s ≤ 999) : ∀ c s, 0 ≤ ch_w2 kk ok c s := fun c s => by
  unfold ch_w2
  have h1 := hk c s
  split
  · exact h1.1
  · decide
theorem ch_w1_y {c s : Nat} (h : ok c s = true) : ch_w1 kk ok c s = kk c s * 11019960576 + (c : Int) * ch_p s := if_pos h
theorem ch_w2_y {c s : Nat} (h : ok c s = true) : ch_w2 kk ok c s = kk c s := if_pos h
theorem ch_w2_n {c s : Nat} (h : ok c s = false) : ch_w2 kk ok c s = 100000000 := if_neg (by rw [h]; exact fun q => by cases q)
theorem ch_s1 {A : Nat → Nat} (h : ch_V ok A W m) : ch_sum (fun s => ch_w1 kk ok (A s) s) W 8 = ch_sum (ch_k kk A) W 8 * 11019960576 + ch_dg A W := by
  have e : ch_sum (fun s => ch_w1 kk ok (A s) s) W 8 = ch_sum (fun s => ch_k kk A s * 11019960576 + (A s : Int) * ch_p s) W 8 := ch_sum_c (fun i _ => ⟨rfl, fun hi => ch_w1_y (h.2 i hi)⟩)
  rw [e, ch_sum_b]
  rfl
theorem ch_kb (hk : ∀ c s, 0 ≤ kk c s ∧ kk c s ≤ 999) {A : Nat → Nat} {S n : Nat} (hn : n ≤ 8) : 0 ≤ ch_sum (ch_k kk A) S n ∧ ch_sum (ch_k kk A) S n ≤ 7992 := by
  refine ⟨ch_sum_p (fun s _ => (hk _ _).1), ?_⟩
  have h1 := ch_sum_m (f := ch_k kk A) (S := S) (M := 999) (by decide) (fun s _ => (hk _ _).2) (n := n)
  omega
/-- whom the class finds -/
theorem ch_one (hk : ∀ c s, 0 ≤ kk c s ∧ kk c s ≤ 999) (hW : W < 256) (hm : m ≤ 18) (h : ch_D 1000000000000000 (ch_w1 kk ok) m W < 1000000000000000) : ∃ A, ch_V ok A W m ∧ ch_D 1000000000000000 (ch_w1 kk ok) m W = ch_sum (ch_k kk A) W 8 * 11019960576 + ch_dg A W := by
  obtain ⟨A, a1, a2⟩ := ch_at (ch_w1_0 hk) hW h
  have hv : ch_V ok A W m := ⟨a1, fun s hs => by
    cases ho : ok (A s) s with
    | true => rfl
    | false =>
      have h1 := ch_sum_g (f := fun s => ch_w1 kk ok (A s) s) (S := W) (fun s _ => ch_w1_0 hk _ _) hs (ch_lt8 hW hs)
      have h2 : ch_w1 kk ok (A s) s = 1000000000000000 := if_neg (by rw [ho]; exact fun q => by cases q)
      rw [a2] at h1
      have h3 : ch_w1 kk ok (A s) s ≤ ch_D 1000000000000000 (ch_w1 kk ok) m W := h1
      omega⟩
  exact ⟨A, hv, by rw [← a2, ch_s1 hv]⟩
/-- no way costs less, none of the same cost has a less customer ahead -/
theorem ch_best (hW : W < 256) (hm : m ≤ 18) {A B : Nat → Nat} (hA : ch_V ok A W m) (hM : ch_D 1000000000000000 (ch_w1 kk ok) m W = ch_sum (ch_k kk A) W 8 * 11019960576 + ch_dg A W) (hB : ch_V ok B W m) : ch_sum (ch_k kk A) W 8 ≤ ch_sum (ch_k kk B) W 8 ∧ (ch_sum (ch_k kk A) W 8 = ch_sum (ch_k kk B) W 8 → ch_dg A W ≤ ch_dg B W) := by
  have h1 := ch_low (F := 1000000000000000) (w := ch_w1 kk ok) hW hB.1
  rw [ch_s1 hB, hM] at h1
  have hA2 := ch_dg_b (A := A) (S := W) (fun s hs => by have := hA.1.1 s hs; omega)
  have hB2 := ch_dg_b (A := B) (S := W) (fun s hs => by have := hB.1.1 s hs; omega)
  exact ⟨by omega, fun e => by omega⟩
/-- what the reference finds: a way that avoids those taken -/
def ch_ct (kk : Nat → Nat → Int) (ok : Nat → Nat → Bool) (m W : Nat) (cost : Nat → Nat → Int) : Prop := ∀ c s, c < m → W.testBit s = true → cost c s = ch_w2 kk ok c s
theorem ch_two (hk : ∀ c s, 0 ≤ kk c s ∧ kk c s ≤ 999) {cost : Nat → Nat → Int} (hc : ch_ct kk ok m W cost) {S : Nat} {T : Nat → Bool} {x : Int} (hS : S < 256) (hSW : ∀ s, S.testBit s = true → W.testBit s = true) (hx : zGv cost T m S x) (h : x < 100000000) : ∃ A, ch_V ok A S m ∧ (∀ s, S.testBit s = true → T (A s) = false) ∧ x = ch_sum (ch_k kk A) S 8 := by
  obtain ⟨A, a1, a2, a3⟩ := ch_wat hS (hx.2 h)
  have e0 : ch_sum (fun s => ch_w2 kk ok (A s) s) S 8 = x := by
    rw [← a3]
    exact ch_sum_c (fun i _ => ⟨rfl, fun hi => (hc _ _ (a1.1 i hi) (hSW i hi)).symm⟩)
  have hb : ∀ s, S.testBit s = true → ok (A s) s = true := fun s hs => by
    have h1 := ch_sum_g (f := fun s => ch_w2 kk ok (A s) s) (S := S) (fun s _ => ch_w2_0 hk _ _) hs (ch_lt8 hS hs)
    rw [e0] at h1
    have h3 : ch_w2 kk ok (A s) s ≤ x := h1
    cases ho : ok (A s) s with
    | true => rfl
    | false => rw [ch_w2_n ho] at h3; omega
  refine ⟨A, ⟨a1, hb⟩, a2, ?_⟩
  rw [← e0]
  exact ch_sum_c (fun i _ => ⟨rfl, fun hi => ch_w2_y (hb i hi)⟩)
theorem ch_two_le {cost : Nat → Nat → Int} (hc : ch_ct kk ok m W cost) {S : Nat} {T : Nat → Bool} {x : Int} (hS : S < 256) (hSW : ∀ s, S.testBit s = true → W.testBit s = true) (hx : zGv cost T m S x) {A : Nat → Nat} (hA : ch_V ok A S m) (ht : ∀ s, S.testBit s = true → T (A s) = false) : x ≤ ch_sum (ch_k kk A) S 8 := by
  have h1 := hx.1 _ (ch_way (cost := cost) (T := T) hS hA.1 ht)
  have e : ch_sum (fun s => cost (A s) s) S 8 = ch_sum (ch_k kk A) S 8 := ch_sum_c (fun i _ => ⟨rfl, fun hi => (hc _ _ (hA.1.1 i hi) (hSW i hi)).trans (ch_w2_y (hA.2 i hi))⟩)
  rw [e] at h1
  exact h1
/-- the least -/
theorem ch_cost (hk : ∀ c s, 0 ≤ kk c s ∧ kk c s ≤ 999) {cost : Nat → Nat → Int} (hc : ch_ct kk ok m W cost) (hW : W < 256) (hm : m ≤ 18) {T : Nat → Bool} (hT : ∀ c, T c = false) {x : Int} (hx : zGv cost T m W x) : (ch_D 1000000000000000 (ch_w1 kk ok) m W < 1000000000000000 ↔ x < 100000000) ∧ (∀ A, ch_V ok A W m → ch_D 1000000000000000 (ch_w1 kk ok) m W = ch_sum (ch_k kk A) W 8 * 11019960576 + ch_dg A W → x = ch_sum (ch_k kk A) W 8) := by
  have hp : ∀ A, ch_V ok A W m → ch_D 1000000000000000 (ch_w1 kk ok) m W = ch_sum (ch_k kk A) W 8 * 11019960576 + ch_dg A W → x = ch_sum (ch_k kk A) W 8 := fun A hA hM => by
    have h1 := ch_two_le hc hW (fun _ q => q) hx hA (fun s _ => hT _)
    have h2 := ch_kb hk (A := A) (S := W) (n := 8) (Nat.le_refl _)
    obtain ⟨B, b1, -, b3⟩ := ch_two hk hc hW (fun _ q => q) hx (by omega)
    have h3 := (ch_best hW hm hA hM b1).1
    omega
  refine ⟨⟨fun h => ?_, fun h => ?_⟩, hp⟩
  · obtain ⟨A, a1, a2⟩ := ch_one hk hW hm h
    have h2 := ch_kb hk (A := A) (S := W) (n := 8) (Nat.le_refl _)
    have := hp A a1 a2
    omega
  · obtain ⟨B, b1, -, b3⟩ := ch_two hk hc hW (fun _ q => q) hx h
    have h1 := ch_low (F := 1000000000000000) (w := ch_w1 kk ok) hW b1.1
    rw [ch_s1 b1] at h1
    have h2 := ch_kb hk (A := B) (S := W) (n := 8) (Nat.le_refl _)
    have h3 := ch_dg_b (A := B) (S := W) (fun s hs => by have := b1.1.1 s hs; omega)
    omega
/-- shops ahead have their own; what is left from shop s on -/
def ch_le (W s : Nat) (S : Nat) : Prop := S < 256 ∧ ∀ t, S.testBit t = true ↔ W.testBit t = true ∧ s ≤ t
def ch_ta (W : Nat) (A : Nat → Nat) (s : Nat) (T : Nat → Bool) : Prop := ∀ c, T c = true ↔ ∃ t, t < s ∧ W.testBit t = true ∧ A t = c
theorem ch_split {f : Nat → Int} {W S s : Nat} (h : ∀ t, S.testBit t = true ↔ W.testBit t = true ∧ s ≤ t) : ∀ {n : Nat}, s ≤ n → ch_sum f W n = ch_sum f W s + ch_sum f S n
  | 0, hn => by
    obtain rfl : s = 0 := by omega
    rfl
  | n + 1, hn => by
    by_cases e : s = n + 1
    · rw [← e]
      have h0 : ch_sum f S s = 0 := ch_sum_0 (fun i hi => by
        cases hb : S.testBit i with
        | false => rfl
        | true => have := ((h i).mp hb).2; omega)
      rw [h0, Int.add_zero]
    · have ih := ch_split (f := f) h (n := n) (by omega)
      by_cases hb : W.testBit n = true
      · rw [ch_sum_y hb, ch_sum_y ((h n).mpr ⟨hb, by omega⟩), ih, Int.add_assoc]
      · rw [ch_sum_n hb, ch_sum_n (fun q => hb ((h n).mp q).1), ih]
/-- one way ahead of s, another from s on -/
theorem ch_join {A B : Nat → Nat} {s S : Nat} {T : Nat → Bool} (hA : ch_V ok A W m) (hS : ∀ t, S.testBit t = true ↔ W.testBit t = true ∧ s ≤ t) (hT : ch_ta W A s T) (hB : ch_V ok B S m) (hBT : ∀ t, S.testBit t = true → T (B t) = false) : ch_V ok (fun t => if t < s then A t else B t) W m ∧ (s ≤ 8 → ch_sum (ch_k kk (fun t => if t < s then A t else B t)) W 8 = ch_sum (ch_k kk A) W s + ch_sum (ch_k kk B) S 8) := by
  have hn : ∀ t, W.testBit t = true → ¬ t < s → S.testBit t = true := fun t ht h => (hS t).mpr ⟨ht, by omega⟩
  refine ⟨⟨⟨fun t ht => ?_, fun t u ht hu e => ?_⟩, fun t ht => ?_⟩, fun h8 => ?_⟩
  · show (if t < s then A t else B t) < m
    by_cases h : t < s
    · rw [if_pos h]; exact hA.1.1 t ht
    · rw [if_neg h]; exact hB.1.1 t (hn t ht h)
  · have e : (if t < s then A t else B t) = (if u < s then A u else B u) := e
    by_cases h : t < s
    · by_cases h2 : u < s
      · rw [if_pos h, if_pos h2] at e
        exact hA.1.2 t u ht hu e
      · rw [if_pos h, if_neg h2] at e
        exact absurd ((hT (B u)).mpr ⟨t, h, ht, e⟩) (by rw [hBT u (hn u hu h2)]; exact fun q => by cases q)
    · by_cases h2 : u < s
      · rw [if_neg h, if_pos h2] at e
        exact absurd ((hT (B t)).mpr ⟨u, h2, hu, e.symm⟩) (by rw [hBT t (hn t ht h)]; exact fun q => by cases q)
      · rw [if_neg h, if_neg h2] at e
        exact hB.1.2 t u (hn t ht h) (hn u hu h2) e
  · show ok (if t < s then A t else B t) t = true
    by_cases h : t < s
    · rw [if_pos h]; exact hA.2 t ht
    · rw [if_neg h]; exact hB.2 t (hn t ht h)
  · rw [ch_split hS h8]
    have e1 : ch_sum (ch_k kk (fun t => if t < s then A t else B t)) W s = ch_sum (ch_k kk A) W s := ch_sum_c (fun i hi => ⟨rfl, fun _ => by
      show kk (if i < s then A i else B i) i = kk (A i) i
      rw [if_pos hi]⟩)
    have e2 : ch_sum (ch_k kk (fun t => if t < s then A t else B t)) S 8 = ch_sum (ch_k kk B) S 8 := ch_sum_c (fun i _ => ⟨rfl, fun hi => by
      show kk (if i < s then A i else B i) i = kk (B i) i
      rw [if_neg (by have := ((hS i).mp hi).2; omega)]⟩)
    rw [e1, e2]
theorem ch_or {T : Nat → Bool} {c d : Nat} : zup T c d = true ↔ T d = true ∨ d = c := by
  unfold zup
  rw [Bool.or_eq_true, decide_eq_true_iff]
section CHL
variable {A : Nat → Nat} {s S S' : Nat} {T : Nat → Bool} {left : Int}
theorem ch_S' (hS : ch_le W s S) (hb : W.testBit s = true) : ch_le W (s + 1) (S ^^^ 2 ^ s) := by
  have hs : S.testBit s = true := (hS.2 s).mpr ⟨hb, Nat.le_refl _⟩
  refine ⟨ch_r8 hS.1 (ch_lt8 hS.1 hs), fun t => ?_⟩
  rw [ch_rm hs, hS.2 t]
  exact ⟨fun q => ⟨q.1.1, by have := q.1.2; have := q.2; omega⟩, fun q => ⟨⟨q.1, by omega⟩, by have := q.2; omega⟩⟩
theorem ch_ta_s (hT : ch_ta W A s T) (hb : W.testBit s = true) : ch_ta W A (s + 1) (zup T (A s)) := fun c => by
  rw [ch_or, hT c]
  constructor
  · rintro (⟨t, t1, t2, t3⟩ | rfl)
    · exact ⟨t, by omega, t2, t3⟩
    · exact ⟨s, by omega, hb, rfl⟩
  · rintro ⟨t, t1, t2, t3⟩
    by_cases e : t = s
    · subst e; exact Or.inr t3.symm
    · exact Or.inl ⟨t, by omega, t2, t3⟩
theorem ch_ta_n (hT : ch_ta W A s T) (hb : ¬ W.testBit s = true) : ch_ta W A (s + 1) T := fun c => by
  rw [hT c]
  constructor
  · rintro ⟨t, t1, t2, t3⟩
    exact ⟨t, by omega, t2, t3⟩
  · rintro ⟨t, t1, t2, t3⟩
    exact ⟨t, by
      by_cases e : t = s
      · subst e; exact absurd t2 hb
      · omega, t2, t3⟩
theorem ch_le_n (hS : ch_le W s S) (hb : ¬ W.testBit s = true) : ch_le W (s + 1) S := ⟨hS.1, fun t => by
  rw [hS.2 t]
  exact ⟨fun q => ⟨q.1, by
    by_cases e : t = s
    · subst e; exact absurd q.1 hb
    · have := q.2; omega⟩, fun q => ⟨q.1, by have := q.2; omega⟩⟩⟩
theorem ch_ta_nt (hA : ch_V ok A W m) (hT : ch_ta W A s T) {t : Nat} (ht : W.testBit t = true) (hst : s ≤ t) : T (A t) = false := by
  cases q : T (A t) with
  | false => rfl
  | true =>
    obtain ⟨u, u1, u2, u3⟩ := (hT _).mp q
    have := hA.1.2 u t u2 ht u3
    omega
/-- the customer of the class's way is such a one -/
theorem ch_yes (hk : ∀ c s, 0 ≤ kk c s ∧ kk c s ≤ 999) {cost : Nat → Nat → Int} (hct : ch_ct kk ok m W cost) (hW : W < 256) (hm : m ≤ 18) (hA : ch_V ok A W m) (hM : ch_D 1000000000000000 (ch_w1 kk ok) m W = ch_sum (ch_k kk A) W 8 * 11019960576 + ch_dg A W) (hS : ch_le W s S) (hT : ch_ta W A s T) (hl : left = ch_sum (ch_k kk A) S 8) (hb : W.testBit s = true) : T (A s) = false ∧ cost (A s) s = kk (A s) s ∧ kk (A s) s ≤ left ∧ left - kk (A s) s = ch_sum (ch_k kk A) (zcl S s) 8 ∧ ∀ x, zGv cost (zup T (A s)) m (zcl S s) x → x + kk (A s) s = left := by
  have hs : S.testBit s = true := (hS.2 s).mpr ⟨hb, Nat.le_refl _⟩
  have s8 := ch_lt8 hW hb
  rw [ch_zcl hS.1 hs]
  have ew : cost (A s) s = kk (A s) s := (hct _ _ (hA.1.1 s hb) hb).trans (ch_w2_y (hA.2 s hb))
  have hS1 := ch_S' hS hb
  have hT1 := ch_ta_s hT hb
  have hsub : ∀ t, (S ^^^ 2 ^ s).testBit t = true → W.testBit t = true := fun t ht => ((hS1.2 t).mp ht).1
  have hV1 : ch_V ok A (S ^^^ 2 ^ s) m := ⟨⟨fun t ht => hA.1.1 t (hsub t ht), fun t u ht hu e => hA.1.2 t u (hsub t ht) (hsub u hu) e⟩, fun t ht => hA.2 t (hsub t ht)⟩
  have hr := ch_sum_r (f := ch_k kk A) hs (n := 8) s8
  have hp := ch_kb hk (A := A) (S := S ^^^ 2 ^ s) (n := 8) (Nat.le_refl _)
  have hks : ch_k kk A s = kk (A s) s := rfl
  refine ⟨ch_ta_nt hA hT hb (Nat.le_refl _), ew, by omega, by omega, fun x hx => ?_⟩
  have hle := ch_two_le hct hS1.1 hsub hx hV1 (fun t ht => ch_ta_nt hA hT1 (hsub t ht) ((hS1.2 t).mp ht).2)
  obtain ⟨B, b1, b2, b3⟩ := ch_two hk hct hS1.1 hsub hx (by omega)
  obtain ⟨j1, j2⟩ := ch_join (kk := kk) hA hS1.2 hT1 b1 b2
  have h1 := (ch_best hW hm hA hM j1).1
  have h2 := ch_split (f := ch_k kk A) hS1.2 (n := 8) (by omega)
  rw [j2 (by omega), h2] at h1
  omega
/-- none ahead of him is -/
theorem ch_no (hk : ∀ c s, 0 ≤ kk c s ∧ kk c s ≤ 999) {cost : Nat → Nat → Int} (hct : ch_ct kk ok m W cost) (hW : W < 256) (hm : m ≤ 18) (hA : ch_V ok A W m) (hM : ch_D 1000000000000000 (ch_w1 kk ok) m W = ch_sum (ch_k kk A) W 8 * 11019960576 + ch_dg A W) (hS : ch_le W s S) (hT : ch_ta W A s T) (hl : left = ch_sum (ch_k kk A) S 8) (hb : W.testBit s = true) {c : Nat} {x : Int} (hc : c < m) (h1 : T c = false) (h2 : cost c s ≤ left) (hx : zGv cost (zup T c) m (zcl S s) x) (h3 : x + cost c s = left) : A s ≤ c := by
  have hs : S.testBit s = true := (hS.2 s).mpr ⟨hb, Nat.le_refl _⟩
  have s8 := ch_lt8 hW hb
  rw [ch_zcl hS.1 hs] at hx
  have hlb := ch_kb hk (A := A) (S := S) (n := 8) (Nat.le_refl _)
  have ec := hct c s hc hb
  have ho : ok c s = true := by
    cases ho : ok c s with
    | true => rfl
    | false => rw [ch_w2_n ho] at ec; omega
  rw [ch_w2_y ho] at ec
  have hkc := hk c s
  have hS1 := ch_S' hS hb
  have hsub : ∀ t, (S ^^^ 2 ^ s).testBit t = true → W.testBit t = true := fun t ht => ((hS1.2 t).mp ht).1
  obtain ⟨B, b1, b2, b3⟩ := ch_two hk hct hS1.1 hsub hx (by omega)
  -- from s on: c at s, then B
  have hS'b : ∀ t, S.testBit t = true → t ≠ s → (S ^^^ 2 ^ s).testBit t = true := fun t t1 t2 => (ch_rm hs).mpr ⟨t1, t2⟩
  have hBz : ∀ t, S.testBit t = true → t ≠ s → T (B t) = false ∧ B t ≠ c := fun t t1 t2 => by
    have hz := b2 t (hS'b t t1 t2)
    refine ⟨?_, fun e => ?_⟩
    · cases q : T (B t) with
      | false => rfl
      | true => rw [ch_or.mpr (Or.inl q)] at hz; cases hz
    · rw [ch_or.mpr (Or.inr e)] at hz; cases hz
  have hV : ch_V ok (fun t => if t = s then c else B t) S m := by
    refine ⟨⟨fun t ht => ?_, fun t u ht hu e => ?_⟩, fun t ht => ?_⟩
    · show (if t = s then c else B t) < m
      by_cases ts : t = s
      · rw [if_pos ts]; exact hc
      · rw [if_neg ts]; exact b1.1.1 t (hS'b t ht ts)
    · have e : (if t = s then c else B t) = (if u = s then c else B u) := e
      by_cases ts : t = s
      · by_cases us : u = s
        · rw [ts, us]
        · rw [if_pos ts, if_neg us] at e; exact absurd e.symm (hBz u hu us).2
      · by_cases us : u = s
        · rw [if_neg ts, if_pos us] at e; exact absurd e (hBz t ht ts).2
        · rw [if_neg ts, if_neg us] at e; exact b1.1.2 t u (hS'b t ht ts) (hS'b u hu us) e
    · show ok (if t = s then c else B t) t = true
      by_cases ts : t = s
      · rw [if_pos ts, ts]; exact ho
      · rw [if_neg ts]; exact b1.2 t (hS'b t ht ts)
  have hN : ∀ t, S.testBit t = true → T (if t = s then c else B t) = false := fun t ht => by
    by_cases ts : t = s
    · rw [if_pos ts]; exact h1
    · rw [if_neg ts]; exact (hBz t ht ts).1
  obtain ⟨j1, j2⟩ := ch_join (kk := kk) hA hS.2 hT hV hN
  have h4 := ch_best hW hm hA hM j1
  have h5 := ch_split (f := ch_k kk A) hS.2 (n := 8) (by omega)
  have h6 : ch_sum (ch_k kk (fun t => if t = s then c else B t)) (S ^^^ 2 ^ s) 8 + ch_k kk (fun t => if t = s then c else B t) s = ch_sum (ch_k kk (fun t => if t = s then c else B t)) S 8 := ch_sum_r hs (n := 8) s8
  have h7 : ch_k kk (fun t => if t = s then c else B t) s = kk c s := by
    show kk (if s = s then c else B s) s = kk c s
    rw [if_pos rfl]
  have h8 : ch_sum (ch_k kk (fun t => if t = s then c else B t)) (S ^^^ 2 ^ s) 8 = ch_sum (ch_k kk B) (S ^^^ 2 ^ s) 8 := ch_sum_c (fun i _ => ⟨rfl, fun hi => by
    show kk (if i = s then c else B i) i = kk (B i) i
    rw [if_neg ((ch_rm hs).mp hi).2]⟩)
  rw [h7, h8] at h6
  have h9 := j2 (by omega)
  have hd := h4.2 (by omega)
  have hx2 := ch_lex (A := A) (B := fun t => if t < s then A t else if t = s then c else B t) (S := W) (fun t ht => Nat.lt_of_lt_of_le (hA.1.1 t ht) (by omega)) (fun t ht => Nat.lt_of_lt_of_le (j1.1.1 t ht) (by omega)) s8 hb (fun t ht _ => (if_pos ht).symm) hd
  have e9 : (if s < s then A s else if s = s then c else B s) = c := by rw [if_neg (by omega), if_pos rfl]
  rw [← e9]
  exact hx2
end CHL
end CHG
