/-! TRAMP: who is come to last, and the reference's table -/
/-- the first of the cheapest among the shops but a, -1: none -/
def zBs (F : Int) (n a : Int) (V : Int → Int) (b : Int) : Prop := (b = -1 ∧ ∀ s, (0 ≤ s ∧ s < n) → s ≠ a → F ≤ V s) ∨ ((0 ≤ b ∧ b < n) ∧ b ≠ a ∧ V b < F ∧ ∀ s, (0 ≤ s ∧ s < n) → s ≠ a → V b ≤ V s ∧ (s < b → V b < V s))
theorem zBs_det {F F' n a b b' : Int} {V V' : Int → Int} (hF : 30000 ≤ F) (hF' : 30000 ≤ F') (e : ∀ s, (0 ≤ s ∧ s < n) → s ≠ a → (V s = F ∧ V' s = F') ∨ (V s = V' s ∧ 0 ≤ V s ∧ V s < 30000)) (h : zBs F n a V b) (h' : zBs F' n a V' b') : b = b' ∧ (b ≠ -1 → V b = V' b') := by
  rcases h with ⟨h1, h2⟩ | ⟨h1, h2, h3, h4⟩
  · rcases h' with ⟨g1, g2⟩ | ⟨g1, g2, g3, g4⟩
    · exact ⟨by omega, fun q => absurd h1 q⟩
    · have := h2 b' g1 g2
      have := e b' g1 g2
      exfalso
      omega
  · have eb := e b h1 h2
    rcases h' with ⟨g1, g2⟩ | ⟨g1, g2, g3, g4⟩
    · have := g2 b h1 h2
      exfalso
      omega
    · have eb' := e b' g1 g2
      have q1 := h4 b' g1 g2
      have q2 := g4 b h1 h2
      have hbb : b = b' := by
        by_cases q : b < b'
        · have := q2.2 q; omega
        · by_cases q' : b' < b
          · have := q1.2 q'; omega
          · omega
      subst hbb
      exact ⟨rfl, fun _ => by omega⟩
/-! the class's choice -/
def zCh1 (F : Int) (a : Int) (V : Int → Int) (i : Nat) (fw lc : Int) : Prop := (fw = F ∧ lc = -1 ∧ ∀ j : Nat, j < i → F ≤ V (zoth a j)) ∨ (∃ j : Nat, j < i ∧ fw = V (zoth a j) ∧ fw < F ∧ lc = zoth a j ∧ ∀ k : Nat, k < i → V (zoth a j) ≤ V (zoth a k) ∧ (k < j → V (zoth a j) < V (zoth a k)))
theorem zCh1_n {F a fw lc : Int} {V : Int → Int} {i : Nat} (h : zCh1 F a V i fw lc) (hv : fw ≤ V (zoth a i)) : zCh1 F a V (i + 1) fw lc := by
  rcases h with ⟨h1, h2, h3⟩ | ⟨j, j1, h1, h2, h3, h4⟩
  · refine Or.inl ⟨h1, h2, fun j hj => ?_⟩
    by_cases he : j = i
    · rw [he]; omega
    · exact h3 j (by omega)
  · refine Or.inr ⟨j, by omega, h1, h2, h3, fun k hk => ?_⟩
    by_cases he : k = i
    · subst he
      exact ⟨by omega, fun q => by omega⟩
    · exact h4 k (by omega)
theorem zCh1_y {F a fw lc : Int} {V : Int → Int} {i : Nat} (h : zCh1 F a V i fw lc) (hv : V (zoth a i) < fw) : zCh1 F a V (i + 1) (V (zoth a i)) (zoth a i) := by
  rcases h with ⟨h1, h2, h3⟩ | ⟨j, j1, h1, h2, h3, h4⟩
  · refine Or.inr ⟨i, by omega, rfl, by omega, rfl, fun k hk => ?_⟩
    by_cases he : k = i
    · subst he
      exact ⟨Int.le_refl _, fun q => by omega⟩
    · have := h3 k (by omega)
      exact ⟨by omega, fun _ => by omega⟩
  · refine Or.inr ⟨i, by omega, rfl, by omega, rfl, fun k hk => ?_⟩
    by_cases he : k = i
    · subst he
      exact ⟨Int.le_refl _, fun q => by omega⟩
    · have := (h4 k (by omega)).1
      exact ⟨by omega, fun _ => by omega⟩
theorem zoth_sur {a s : Int} {N : Nat} (ha : 0 ≤ a) (hs : 0 ≤ s ∧ s < (N : Int) + 1) (hsa : s ≠ a) (haN : a < (N : Int) + 1) : ∃ i : Nat, i < N ∧ zoth a i = s := by
  by_cases h : s < a
  · exact ⟨s.toNat, by omega, by unfold zoth; rw [if_pos (by omega)]; omega⟩
  · exact ⟨(s - 1).toNat, by omega, by unfold zoth; rw [if_neg (by omega)]; omega⟩
theorem zoth_mono {a : Int} {i j : Nat} : zoth a i < zoth a j ↔ i < j := by
  unfold zoth
  split <;> split <;> omega
theorem zCh1_bs {F a fw lc : Int} {V : Int → Int} {N : Nat} (ha : 0 ≤ a ∧ a < (N : Int) + 1) (h : zCh1 F a V N fw lc) : zBs F ((N : Int) + 1) a V lc ∧ ((lc = -1 ∧ fw = F) ∨ (lc ≠ -1 ∧ fw = V lc ∧ fw < F)) := by
  rcases h with ⟨h1, h2, h3⟩ | ⟨j, j1, h1, h2, h3, h4⟩
  · refine ⟨Or.inl ⟨h2, fun s hs hsa => ?_⟩, Or.inl ⟨h2, h1⟩⟩
    obtain ⟨i, i1, rfl⟩ := zoth_sur ha.1 hs hsa ha.2
    exact h3 i i1
  · obtain ⟨r1, r2, r3⟩ := zoth_r (n := (N : Int) + 1) ha.1 j1 (Int.le_refl _)
    refine ⟨Or.inr ⟨by rw [h3]; exact ⟨r1, r2⟩, by rw [h3]; exact r3, by rw [h3, ← h1]; exact h2, fun s hs hsa => ?_⟩, Or.inr ⟨by rw [h3]; omega, by rw [h3]; exact h1, h2⟩⟩
    obtain ⟨i, i1, rfl⟩ := zoth_sur ha.1 hs hsa ha.2
    rw [h3]
    exact ⟨(h4 i i1).1, fun q => (h4 i i1).2 (zoth_mono.mp q)⟩
/-! the reference: by sets of shops, a among them -/
def zMr2 (a : Int) (S : Nat) (s : Int) : Prop := 0 ≤ s ∧ s ≠ a ∧ S.testBit s.toNat = true
theorem zMr2_rm {a b : Int} {S : Nat} (hb : 0 ≤ b) (hbit : S.testBit b.toNat = true) (s : Int) : (zMr2 a S s ∧ s ≠ b) ↔ zMr2 a (S ^^^ 2 ^ b.toNat) s := by
  constructor
  · rintro ⟨⟨h1, h2, h3⟩, h4⟩
    refine ⟨h1, h2, ?_⟩
    rw [Nat.testBit_xor, h3, Nat.testBit_two_pow, decide_eq_false (by omega)]
    rfl
  · rintro ⟨h1, h2, h3⟩
    rw [Nat.testBit_xor, Nat.testBit_two_pow] at h3
    by_cases he : s = b
    · subst he
      rw [hbit, decide_eq_true rfl] at h3
      cases h3
    · rw [decide_eq_false (by omega), Bool.xor_false] at h3
      exact ⟨⟨h1, h2, h3⟩, he⟩
theorem zMr2_in {a b : Int} {S : Nat} (hb : 0 ≤ b) (hba : b ≠ a) (hbit : S.testBit b.toNat = false) (s : Int) : (zMr2 a (S ||| 2 ^ b.toNat) s ∧ s ≠ b) ↔ zMr2 a S s := by
  constructor
  · rintro ⟨⟨h1, h2, h3⟩, h4⟩
    rw [Nat.testBit_or, Nat.testBit_two_pow, decide_eq_false (by omega), Bool.or_false] at h3
    exact ⟨h1, h2, h3⟩
  · rintro ⟨h1, h2, h3⟩
    have he : s ≠ b := fun he => by
      rw [he, hbit] at h3
      cases h3
    exact ⟨⟨h1, h2, by rw [Nat.testBit_or, h3]; rfl⟩, he⟩
theorem zor_lt {S l n : Nat} (hS : S < 2 ^ n) (hl : l < n) : S ||| 2 ^ l < 2 ^ n := Nat.or_lt_two_pow hS (Nat.pow_lt_pow_right (by decide) hl)
theorem zor_gt {S l : Nat} (hb : S.testBit l = false) : S < S ||| 2 ^ l := by
  have h1 : S ≤ S ||| 2 ^ l := Nat.left_le_or
  have h2 : S ≠ S ||| 2 ^ l := fun he => by
    have h3 : (S ||| 2 ^ l).testBit l = true := by rw [Nat.testBit_or, Nat.testBit_two_pow, decide_eq_true rfl, Bool.or_true]
    rw [← he, hb] at h3
    cases h3
  omega
/-- the table while set S, shop u, up to b is through -/
def zRv (F : Int) (f : Int → Int) (a : Int) (n : Nat) (S u b : Nat) (U : Int → Int) : Prop :=
  (∀ X s : Nat, X < 2 ^ n → s < n → (0 ≤ U (12 * (X : Int) + s) ∧ U (12 * (X : Int) + s) ≤ F) ∧ (U (12 * (X : Int) + s) = F ∨ (X.testBit a.toNat = true ∧ X.testBit s = true ∧ ∃ k, zTo (zDd f) a k (zMr2 a X) s (U (12 * (X : Int) + s))))) ∧
  U (12 * ((2 ^ a.toNat : Nat) : Int) + a) = 0 ∧
  ∀ X s q : Nat, X < 2 ^ n → s < n → q < n → (X < S ∨ (X = S ∧ (s < u ∨ (s = u ∧ q < b)))) → X.testBit q = false → U (12 * (X : Int) + s) < F → U (12 * ((X ||| 2 ^ q : Nat) : Int) + q) ≤ U (12 * (X : Int) + s) + f ((s : Int) * 12 + q)
section RV
variable {F : Int} {f U U' : Int → Int} {a : Int} {n S u b : Nat}
theorem zRv_u (hb : n ≤ b ∨ F ≤ U (12 * (S : Int) + u)) (h : zRv F f a n S u b U) : zRv F f a n S (u + 1) 0 U := ⟨h.1, h.2.1, fun X s q hX hs hq hh hbq hF => by
  rcases Nat.lt_or_ge X S with g | g
  · exact h.2.2 X s q hX hs hq (Or.inl g) hbq hF
  · have hXS : X = S := by omega
    by_cases hsu : s < u
    · exact h.2.2 X s q hX hs hq (Or.inr ⟨hXS, Or.inl hsu⟩) hbq hF
    · have hsu2 : s = u := by omega
      subst hXS
      subst hsu2
      rcases hb with hb | hb
      · exact h.2.2 X s q hX hs hq (Or.inr ⟨rfl, Or.inr ⟨rfl, by omega⟩⟩) hbq hF
      · omega⟩
theorem zRv_S (hu : n ≤ u) (h : zRv F f a n S u 0 U) : zRv F f a n (S + 1) 0 0 U := ⟨h.1, h.2.1, fun X s q hX hs hq hh hbq hF => h.2.2 X s q hX hs hq (by omega) hbq hF⟩
theorem zRv_no (hbit : S.testBit b = true) (h : zRv F f a n S u b U) : zRv F f a n S u (b + 1) U := ⟨h.1, h.2.1, fun X s q hX hs hq hh hbq hF => by
  by_cases g : X = S ∧ s = u ∧ q = b
  · obtain ⟨rfl, rfl, rfl⟩ := g
    rw [hbit] at hbq
    cases hbq
  · exact h.2.2 X s q hX hs hq (by omega) hbq hF⟩
theorem zRv_y {x : Int} (hF : 2000 ≤ F) (hok : zFok F n f) (ha : 0 ≤ a ∧ a < (n : Int)) (hS : S < 2 ^ n) (hu : u < n) (hb : b < n) (hbit : S.testBit b = false) (hv : U (12 * (S : Int) + u) < F) (h : zRv F f a n S u b U) (hx : x = min (U (12 * ((S ||| 2 ^ b : Nat) : Int) + b)) (U (12 * (S : Int) + u) + f ((u : Int) * 12 + b))) (e : ∀ y, U' y = if y = 12 * ((S ||| 2 ^ b : Nat) : Int) + b then x else U y) (hn : n ≤ 12) : zRv F f a n S u (b + 1) U' := by
  have hgt := zor_gt hbit
  have hlt := zor_lt hS hb
  obtain ⟨⟨v0, v1⟩, v2⟩ := h.1 S u hS hu
  obtain ⟨⟨t0, t1⟩, t2⟩ := h.1 (S ||| 2 ^ b) b hlt hb
  obtain ⟨va, vu, k, vk⟩ := v2.resolve_left (by omega)
  have hf := hok (u : Int) (b : Int) ⟨by omega, by omega⟩ ⟨by omega, by omega⟩
  have hba : (b : Int) ≠ a := fun he => by
    rw [← he, show ((b : Int)).toNat = b by omega, hbit] at va
    cases va
  have ne : ∀ X s : Nat, s < n → X ≤ S → U' (12 * (X : Int) + s) = U (12 * (X : Int) + s) := fun X s hs hX => by rw [e, if_neg (by omega)]
  refine ⟨fun X s hX hs => ?_, ?_, fun X s q hX hs hq hh hbq hq2 => ?_⟩
  · rw [e]
    by_cases g : 12 * (X : Int) + s = 12 * ((S ||| 2 ^ b : Nat) : Int) + b
    · have g1 : X = S ||| 2 ^ b := by omega
      have g2 : s = b := by omega
      rw [if_pos g]
      subst g2
      rw [← g1] at hx t2 t0 t1
      refine ⟨⟨by omega, by omega⟩, ?_⟩
      by_cases hc : U (12 * (S : Int) + u) + f ((u : Int) * 12 + s) < U (12 * (X : Int) + s)
      · rcases hf with hf | hf
        · have hd : zDd f (u : Int) (s : Int) = f ((u : Int) * 12 + s) := if_pos hf.2
          refine Or.inr ⟨by rw [g1, Nat.testBit_or, va]; rfl, by rw [g1, Nat.testBit_or, Nat.testBit_two_pow, decide_eq_true rfl, Bool.or_true], k + 1, ⟨by omega, hba, by rw [g1, Nat.testBit_or, show ((s : Int)).toNat = s by omega, Nat.testBit_two_pow, decide_eq_true rfl, Bool.or_true]⟩, (u : Int), _, zTo_cg (fun y => ?_) vk, by omega, by omega⟩
          rw [g1]
          have q := zMr2_in (a := a) (b := (s : Int)) (S := S) (by omega) hba (by rw [show ((s : Int)).toNat = s by omega]; exact hbit) y
          rw [show ((s : Int)).toNat = s by omega] at q
          exact q.symm
        · omega
      · rw [show x = U (12 * (X : Int) + s) by omega]
        exact t2
    · rw [if_neg g]
      exact h.1 X s hX hs
  · rw [e, if_neg (fun g => hba (by omega))]
    exact h.2.1
  · by_cases g : X = S ∧ s = u ∧ q = b
    · obtain ⟨rfl, rfl, rfl⟩ := g
      rw [ne X s hs (Nat.le_refl _), e, if_pos rfl]
      omega
    · have hXS : X ≤ S := by omega
      rw [ne X s hs hXS] at hq2 ⊢
      have old := h.2.2 X s q hX hs hq (by omega) hbq hq2
      rw [e]
      split
      · rename_i g2
        have q2 : U (12 * ((S ||| 2 ^ b : Nat) : Int) + b) ≤ U (12 * (X : Int) + s) + f ((s : Int) * 12 + q) := by rw [← g2]; exact old
        omega
      · exact old
/-- all through: the cheapest tours -/
theorem zRv_low (hok : zFok F n f) (hn : n ≤ 12) (ha : 0 ≤ a ∧ a < (n : Int)) (h : zRv F f a n (2 ^ n) 0 0 U) : ∀ (k : Nat) {X : Nat} {s c : Int}, X < 2 ^ n → X.testBit a.toNat = true → zTo (zDd f) a k (zMr2 a X) s c → (0 ≤ s ∧ s < (n : Int)) ∧ U (12 * (X : Int) + s) ≤ c
  | 0, X, s, c, hX, hXa, hk => by
    obtain ⟨h1, h2, h3⟩ := hk
    have hXe : X = 2 ^ a.toNat := by
      apply Nat.eq_of_testBit_eq
      intro i
      rw [Nat.testBit_two_pow]
      by_cases hi : a.toNat = i
      · rw [decide_eq_true hi, ← hi]
        exact hXa
      · rw [decide_eq_false hi]
        cases hq : X.testBit i
        · rfl
        · exact absurd ⟨by omega, by omega, by rw [show ((i : Int)).toNat = i by omega]; exact hq⟩ (h1 (i : Int))
    rw [h2, hXe, h.2.1]
    exact ⟨ha, by omega⟩
  | k + 1, X, s, c, hX, hXa, hk => by
    obtain ⟨⟨m1, m2, m3⟩, u, d, h1, h2, h3⟩ := hk
    have hsn : s < (n : Int) := by
      by_cases q : s < (n : Int)
      · exact q
      · have : X < 2 ^ s.toNat := Nat.lt_of_lt_of_le hX (Nat.pow_le_pow_right (by decide) (by omega))
        rw [Nat.testBit_lt_two_pow this] at m3
        cases m3
    have hlt := zxor_lt m3
    have hXa' : (X ^^^ 2 ^ s.toNat).testBit a.toNat = true := by
      rw [Nat.testBit_xor, hXa, Nat.testBit_two_pow, decide_eq_false (by omega)]
      rfl
    have hXs' : (X ^^^ 2 ^ s.toNat).testBit s.toNat = false := by
      rw [Nat.testBit_xor, m3, Nat.testBit_two_pow, decide_eq_true rfl]
      rfl
    obtain ⟨⟨u0, u1⟩, ih⟩ := zRv_low hok hn ha h k (by omega) hXa' (zTo_cg (fun y => zMr2_rm m1 m3 y) h1)
    have r1 := (h.1 X s.toNat hX (by omega)).1.2
    rw [show ((s.toNat : Nat) : Int) = s by omega] at r1
    have e3 : zDd f u s = f (u * 12 + s) := by
      unfold zDd at h2 ⊢
      split at h2
      · rename_i q
        rw [if_pos q]
      · omega
    by_cases hc : c < F
    · have st := h.2.2 (X ^^^ 2 ^ s.toNat) u.toNat s.toNat (by omega) (by omega) (by omega) (Or.inl (by omega)) hXs' (by rw [show ((u.toNat : Nat) : Int) = u by omega]; omega)
      rw [zxor_or m3, show ((u.toNat : Nat) : Int) = u by omega, show ((s.toNat : Nat) : Int) = s by omega] at st
      exact ⟨⟨m1, hsn⟩, by omega⟩
    · exact ⟨⟨m1, hsn⟩, by omega⟩
theorem zRv_tb (hok : zFok F n f) (hn : n ≤ 12) (ha : 0 ≤ a ∧ a < (n : Int)) (h : zRv F f a n (2 ^ n) 0 0 U) {X : Nat} {s : Int} (hX : X < 2 ^ n) (hXa : X.testBit a.toNat = true) (hs : 0 ≤ s ∧ s < (n : Int)) : zTb F (zDd f) a (zMr2 a X) s (U (12 * (X : Int) + s)) := by
  obtain ⟨⟨p0, p1⟩, p2⟩ := h.1 X s.toNat hX (by omega)
  rw [show ((s.toNat : Nat) : Int) = s by omega] at p0 p1 p2
  refine ⟨p1, ?_, fun k c hk => (zRv_low hok hn ha h k hX hXa hk).2⟩
  rcases p2 with q | ⟨-, -, q⟩
  · exact Or.inl q
  · exact Or.inr q
end RV
theorem zRv_init {F : Int} {f U : Int → Int} {a : Int} {n : Nat} (hF : 0 ≤ F) (ha : 0 ≤ a ∧ a < (n : Int)) (h : ∀ X s : Nat, X < 2 ^ n → s < n → U (12 * (X : Int) + s) = if X = 2 ^ a.toNat ∧ (s : Int) = a then 0 else F) : zRv F f a n 1 0 0 U := by
  have h2a : 2 ^ a.toNat < 2 ^ n := Nat.pow_lt_pow_right (by decide) (by omega)
  refine ⟨fun X s hX hs => ?_, ?_, fun X s q hX hs hq hh hbq hlt => ?_⟩
  · rw [h X s hX hs]
    by_cases hc : X = 2 ^ a.toNat ∧ (s : Int) = a
    · rw [if_pos hc]
      refine ⟨⟨Int.le_refl _, hF⟩, Or.inr ⟨by rw [hc.1, Nat.testBit_two_pow]; exact decide_eq_true rfl, by rw [hc.1, Nat.testBit_two_pow]; exact decide_eq_true (by omega), 0, fun y hy => ?_, hc.2, rfl⟩⟩
      obtain ⟨y0, y1, y2⟩ := hy
      rw [hc.1, Nat.testBit_two_pow] at y2
      have := of_decide_eq_true y2
      omega
    · rw [if_neg hc]
      exact ⟨⟨hF, Int.le_refl _⟩, Or.inl rfl⟩
  · have := h (2 ^ a.toNat) a.toNat h2a (by omega)
    rw [if_pos ⟨rfl, by omega⟩, show ((a.toNat : Nat) : Int) = a by omega] at this
    exact this
  · have hX0 : X = 0 := by omega
    subst hX0
    have := h 0 s (Nat.two_pow_pos n) hs
    rw [if_neg (fun hc => absurd hc.1 (by have := Nat.two_pow_pos a.toNat; omega))] at this
    omega
/-- the reference's choice, shops below i seen -/
def zBr (F : Int) (V : Int → Int) (i b : Int) : Prop := (b = -1 ∧ ∀ s, (0 ≤ s ∧ s < i) → F ≤ V s) ∨ ((0 ≤ b ∧ b < i) ∧ V b < F ∧ ∀ s, (0 ≤ s ∧ s < i) → V b ≤ V s ∧ (s < b → V b < V s))
theorem zBr_0 {F : Int} {V : Int → Int} : zBr F V 0 (-1) := Or.inl ⟨rfl, fun s hs => absurd hs (by omega)⟩
theorem zBr_n {F : Int} {V : Int → Int} {i b : Int} (h : zBr F V i b) (hv : (b = -1 ∧ F ≤ V i) ∨ (b ≠ -1 ∧ V b ≤ V i)) : zBr F V (i + 1) b := by
  rcases h with ⟨h1, h2⟩ | ⟨h1, h2, h3⟩
  · refine Or.inl ⟨h1, fun s hs => ?_⟩
    by_cases he : s = i
    · rw [he]; omega
    · exact h2 s (by omega)
  · refine Or.inr ⟨by omega, h2, fun s hs => ?_⟩
    by_cases he : s = i
    · rw [he]
      exact ⟨by omega, fun q => by omega⟩
    · exact h3 s (by omega)
theorem zBr_y {F : Int} {V : Int → Int} {i b : Int} (hi : 0 ≤ i) (h : zBr F V i b) (hv : (b = -1 ∧ V i < F) ∨ (b ≠ -1 ∧ V i < V b)) : zBr F V (i + 1) i := by
  rcases h with ⟨h1, h2⟩ | ⟨h1, h2, h3⟩
  · refine Or.inr ⟨by omega, by omega, fun s hs => ?_⟩
    by_cases he : s = i
    · rw [he]
      exact ⟨Int.le_refl _, fun q => by omega⟩
    · have := h2 s (by omega)
      exact ⟨by omega, fun _ => by omega⟩
  · refine Or.inr ⟨by omega, by omega, fun s hs => ?_⟩
    by_cases he : s = i
    · rw [he]
      exact ⟨Int.le_refl _, fun q => by omega⟩
    · have := (h3 s (by omega)).1
      exact ⟨by omega, fun _ => by omega⟩
theorem zBr_bs {F : Int} {V : Int → Int} {n a b : Int} (hF : 0 ≤ F) (hVa : F ≤ V a) (h : zBr F V n b) : zBs F n a V b := by
  rcases h with ⟨h1, h2⟩ | ⟨h1, h2, h3⟩
  · exact Or.inl ⟨h1, fun s hs _ => h2 s hs⟩
  · exact Or.inr ⟨h1, fun he => by rw [he] at h2; omega, h2, fun s hs _ => h3 s hs⟩
theorem zMr2_all {a s : Int} {n : Nat} : zMr2 a (2 ^ n - 1) s ↔ ((0 ≤ s ∧ s < (n : Int)) ∧ s ≠ a) := by
  constructor
  · rintro ⟨h1, h2, h3⟩
    rw [Nat.testBit_two_pow_sub_one] at h3
    have := of_decide_eq_true h3
    exact ⟨⟨h1, by omega⟩, h2⟩
  · rintro ⟨⟨h1, h2⟩, h3⟩
    exact ⟨h1, h3, by rw [Nat.testBit_two_pow_sub_one]; exact decide_eq_true (by omega)⟩
theorem zRv_a {F : Int} {f U : Int → Int} {a : Int} {n S u b : Nat} (ha : 0 ≤ a ∧ a < (n : Int)) (hn : 1 < n) (h : zRv F f a n S u b U) : U (12 * ((2 ^ n - 1 : Nat) : Int) + a) = F := by
  have hp := Nat.two_pow_pos n
  have h1 := (h.1 (2 ^ n - 1) a.toNat (by omega) (by omega)).2
  rw [show ((a.toNat : Nat) : Int) = a by omega] at h1
  rcases h1 with q | ⟨-, -, k, q⟩
  · exact q
  · exfalso
    cases k with
    | zero =>
      by_cases ha0 : a = 0
      · exact q.1 1 (zMr2_all.mpr ⟨⟨by omega, by omega⟩, by omega⟩)
      · exact q.1 0 (zMr2_all.mpr ⟨⟨by omega, by omega⟩, by omega⟩)
    | succ k => exact q.1.2.1 rfl
/-! both sides -/
theorem zTr_eq {W W' : Int → Int → Int} {y a u t b x x' w : Int} {f f' V V' : Int → Int} {M n : Nat} (hW : ∀ a b, 0 ≤ W a b ∧ W a b ≤ 99) (hWW : ∀ a b, W a b = W' a b) (hsh : ∀ a b, 0 < W a b → (0 ≤ a ∧ a < y) ∧ (0 ≤ b ∧ b < y)) (hy : y ≤ 12) (ha : 0 ≤ a ∧ a < y) (hw : 0 ≤ w ∧ w ≤ 1)
    (hM : (M : Int) + 1 = y) (hf : zFwl 1000000 W y y f) (hV : ∀ s, (0 ≤ s ∧ s < y) → s ≠ a → zTb 1000000 (zDd f) a (zMc a M (2 ^ M - 1)) s (V s)) (hc : (M = 0 ∧ u = 0 ∧ t = a) ∨ (0 < M ∧ ∃ fw, zCh1 1000000 a V M fw t ∧ u = if 1000000 ≤ fw then -1 else fw)) (hx : x = if w = 0 then u else t)
    (hn : (n : Int) = y) (hf' : zFwl 100000000 W' 12 12 f') (hV' : ∀ s, (0 ≤ s ∧ s < y) → s ≠ a → zTb 100000000 (zDd f') a (zMr2 a (2 ^ n - 1)) s (V' s)) (hc' : (n = 1 ∧ b = a ∧ V' b = 0) ∨ (1 < n ∧ zBs 100000000 y a V' b)) (hx' : x' = if b = -1 ∨ w = 1 then b else V' b) : x = x' := by
  have hWe : W = W' := funext fun p => funext fun q => hWW p q
  subst hWe
  have hwb : ∀ a b, W a b ≤ 99 := fun p q => (hW p q).2
  rcases hc with ⟨c1, c2, c3⟩ | ⟨c1, fw, c2, c3⟩
  · rcases hc' with ⟨d1, d2, d3⟩ | ⟨d1, -⟩
    · rw [hx, hx']
      by_cases hw0 : w = 0
      · rw [if_pos hw0, if_neg (by omega), c2, d3]
      · rw [if_neg hw0, if_pos (by omega), c3, d2]
    · omega
  · rcases hc' with ⟨d1, -⟩ | ⟨d1, d2⟩
    · omega
    · have ea : a < (M : Int) + 1 := by omega
      obtain ⟨b1, b2⟩ := zCh1_bs ⟨ha.1, ea⟩ c2
      rw [hM] at b1
      have hDD : ∀ p q : Int, (0 ≤ p ∧ p < (n : Int)) → (0 ≤ q ∧ q < (n : Int)) → zDd f p q = zDd f' p q := fun p q hp hq => by
        have d1 := zFw_ds hf (a := p) (b := q) (by omega) (by omega)
        have d2 := zDs_shrink hy hsh (zFw_ds hf' (a := p) (b := q) ⟨by omega, by omega⟩ ⟨by omega, by omega⟩)
        rw [← hn] at d1 d2
        unfold zDd
        rcases zDs_det hwb (by omega) (by decide) (by decide) hp hq d1 d2 with ⟨q1, q2⟩ | ⟨q1, q2⟩
        · rw [if_neg (by omega), if_neg (by omega)]
        · rw [if_pos q2, if_pos (by omega), q1]
      have hVV : ∀ s, (0 ≤ s ∧ s < y) → s ≠ a → (V s = 1000000 ∧ V' s = 100000000) ∨ (V s = V' s ∧ 0 ≤ V s ∧ V s < 30000) := fun s hs hsa => by
        have e1 := hV s hs hsa
        have e2 := hV' s hs hsa
        have eM : zMc a M (2 ^ M - 1) = zMr2 a (2 ^ n - 1) := funext fun z => propext (by rw [zMc_all ⟨ha.1, ea⟩, zMr2_all, hM, hn])
        rw [eM] at e1
        exact zTb_det (n := n) (zDd_le f) (by omega) hDD (fun z hz => by have := (zMr2_all.mp hz).1; omega) (by omega) (by decide) (by decide) e1 e2
      obtain ⟨r1, r2⟩ := zBs_det (by decide) (by decide) hVV b1 d2
      rw [hx, hx']
      by_cases hw0 : w = 0
      · rw [if_pos hw0, c3]
        rcases b2 with ⟨q1, q2⟩ | ⟨q1, q2, q3⟩
        · rw [if_pos (by omega), if_pos (by omega)]
          omega
        · rw [if_neg (by omega), if_neg (by omega), q2]
          exact r2 q1
      · rw [if_neg hw0, if_pos (by omega)]
        exact r1
theorem zFok_12 {F : Int} {f : Int → Int} {W : Int → Int → Int} {q : Nat} (hq : q ≤ 12) (hwb : ∀ a b, W a b ≤ 99) (hF : 2000 ≤ F) (h : zFwl F W 12 12 f) : zFok F (q : Int) f := fun u v hu hv => zFok_of (n := 12) hwb (by decide) hF h u v ⟨hu.1, by omega⟩ ⟨hv.1, by omega⟩
theorem zTrR_fin {f U : Int → Int} {W : Int → Int → Int} {a c w b : Int} {q : Nat} (hq : q ≤ 12) (hwb : ∀ a b, W a b ≤ 99) (ha : 0 ≤ a ∧ a < (q : Int)) (hF : zFwl 100000000 W 12 12 f) (hc : c = ((2 ^ q - 1 : Nat) : Int)) (hR : zRv 100000000 f a q (2 ^ q) 0 0 U) (hB : zBr 100000000 (fun z => U (12 * c + z)) (q : Int) b) : ∃ f V b', zFwl 100000000 W 12 12 f ∧ (∀ s, (0 ≤ s ∧ s < (q : Int)) → s ≠ a → zTb 100000000 (zDd f) a (zMr2 a (2 ^ q - 1)) s (V s)) ∧ ((q = 1 ∧ b' = a ∧ V b' = 0) ∨ (1 < q ∧ zBs 100000000 (q : Int) a V b')) ∧ (if b = -1 ∨ w = 1 then b else U (12 * c + b)) = if b' = -1 ∨ w = 1 then b' else V b' := by
  have hp := Nat.two_pow_pos q
  have hok := zFok_12 hq hwb (by decide) hF
  have hlt : 2 ^ q - 1 < 2 ^ q := by omega
  refine ⟨f, fun z => U (12 * c + z), b, hF, fun s hs hsa => ?_, ?_, rfl⟩
  · show zTb _ _ _ _ _ (U (12 * c + s))
    rw [hc]
    exact zRv_tb hok hq ha hR hlt (by rw [Nat.testBit_two_pow_sub_one]; exact decide_eq_true (by omega)) hs
  · rcases Nat.lt_or_ge 1 q with h1 | h1
    · refine Or.inr ⟨h1, zBr_bs (by decide) ?_ hB⟩
      show (100000000 : Int) ≤ U (12 * c + a)
      rw [hc, zRv_a ha h1 hR]
      exact Int.le_refl _
    · have hq1 : q = 1 := by omega
      subst hq1
      have ha0 : a = 0 := by omega
      subst ha0
      have e0 := hR.2.1
      have hc1 : c = 1 := by rw [hc]; rfl
      have e1 : U (12 * c + 0) = 0 := by
        rw [hc1]
        exact e0
      refine Or.inl ⟨rfl, ?_⟩
      rcases hB with ⟨b1, b2⟩ | ⟨b1, b2, b3⟩
      · have : (100000000 : Int) ≤ U (12 * c + 0) := b2 0 ⟨by omega, by omega⟩
        omega
      · have hb0 : b = 0 := by omega
        subst hb0
        exact ⟨rfl, e1⟩
