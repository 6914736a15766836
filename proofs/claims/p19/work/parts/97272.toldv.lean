/-! AFTER YOU told, both sides, wholly; walks printed by program (wip/p30/pmgen.py) and filled by hand -/
section ZHW
variable {D : va_G} {Wm : Nat} {ST : List (String × String × String × Nat)} {b0 : sx_B} {l : Launch} {Sg : Nat → Option Nat} {bud : sx_Bu} {μ : pm_Mem} {B0 : Nat → Prop} {J : (Nat → Option Nat) → Heap → Prop}
set_option maxRecDepth 100000 in
theorem zh_fl31 (hK : zKK ST) (hbd : 0 ≤ bud.1 ∧ 0 ≤ bud.2.1) : zC D Wm ST b0 l Sg zM72 bud [(2, 31)] μ (fun st' μ' => μ = μ' ∧ st' = [(0, if 4 ≤ μ 31 1 then 1 else 0)]) := by
  refine pm_blk hK zmm72 [] 5 9 [(2, 31)] [(0, 4), (0, μ 31 1)] μ [] rfl trivial ?_
  refine pm_icmp hK zmm72 .lt 7 16 rfl rfl (fun h0 => ?_) (fun h0 => ?_)
  · have h0 : μ 31 1 < (4 : Int) := h0
    refine pm_blk hK zmm72 [] 1 17 [(2, 31)] [(0, 0)] μ [] rfl trivial ?_
    exact pm_zret rfl rfl (by first | exact Or.inl rfl | exact Or.inr rfl | omega) ⟨rfl, by first | rw [if_pos (by omega)] | rw [if_neg (by omega)]⟩
  · have h0 : (4 : Int) ≤ μ 31 1 := h0
    refine pm_blk hK zmm72 [] 2 17 [(2, 31)] [(0, 1)] μ [] rfl trivial ?_
    exact pm_zret rfl rfl (by first | exact Or.inl rfl | exact Or.inr rfl | omega) ⟨rfl, by first | rw [if_pos (by omega)] | rw [if_neg (by omega)]⟩
set_option maxRecDepth 100000 in
theorem zh_ad31 (hK : zKK ST) {v : Int} (hT : zTJ none μ) (hv : -99 ≤ v ∧ v ≤ 99) (hb31 : sx_bit Wm 31 = true) (hb32 : sx_bit Wm 32 = true) (hbd : 1 ≤ bud.1 ∧ 20 ≤ bud.2.1) : zC D Wm ST b0 l Sg zM74 bud [(2, 31), (0, v)] μ (fun st' μ' => ∃ x, st' = [(0, x)] ∧ zTJ none μ' ∧ (∀ q, q ≠ 31 → q ≠ 32 → μ' q = μ q) ∧ ((x = -1 ∧ 4 ≤ μ 31 1 ∧ μ' 31 1 = μ 31 1 ∧ μ' 32 = μ 32) ∨ (x = μ 31 1 + 1 ∧ μ 31 1 < 4 ∧ μ' 31 1 = μ 31 1 + 1 ∧ ∀ i, μ' 32 i = if i = μ 31 1 then v else μ 32 i))) := by
  have f1 := zT_get hT zs31_1 (i := 1) (by omega) (by omega)
  refine pm_blk hK zmm74 [] 2 4 [(2, 31), (0, v)] [(0, μ 31 1)] μ [] rfl trivial ?_
  refine pm_if hK zmm74 .lt 10 14 rfl rfl (fun h0 => ?_) (fun h0 => ?_)
  · have h0 : μ 31 1 < (0 : Int) := h0
    refine pm_blk hK zmm74 [] 1 15 [(2, 31), (0, v)] [(0, (-1))] μ [] rfl trivial ?_
    first
    | (exfalso; omega)
    | exact pm_iret rfl rfl ⟨_, rfl, hT, fun _ _ _ => rfl, Or.inl ⟨rfl, by omega, rfl, rfl⟩⟩
  · have h0 : (0 : Int) ≤ μ 31 1 := h0
    refine pm_blk hK zmm74 [] 1 8 [(2, 31), (0, v)] [(2, 31)] μ [] rfl trivial ?_
    refine pm_call hK zmm74 (19, 0, 72, 0) zM72 (0, 0) [(2, 31)] [] rfl rfl rfl rfl ⟨by omega, by rw [zn72]; omega⟩ (zh_fl31 hK ⟨Nat.le_refl _, Nat.le_refl _⟩) (fun st1 μc1 hp1 => ?_)
    obtain ⟨rfl, rfl⟩ := hp1
    refine pm_if hK zmm74 .eq 5 16 rfl rfl (fun h1 => ?_) (fun h1 => ?_)
    · have h1 : (if 4 ≤ μ 31 1 then 1 else 0 : Int) = (0 : Int) := h1
      have h1 := zif0 h1
      refine pm_blk hK zmm74 [] 6 26 [(2, 31), (0, v)] [] (pm_up μ 32 (μ 31 1) v) [sx_bit Wm 32 = true, 0 ≤ μ 31 1 ∧ μ 31 1 < 4] rfl ⟨hb32, ⟨by omega, by omega⟩, trivial⟩ ?_
      obtain ⟨μ1, eμ1⟩ : ∃ μ', μ' = pm_up μ 32 (μ 31 1) v := ⟨_, rfl⟩
      rw [← eμ1]
      have hTμ1 : zTJ none μ1 := by rw [eμ1]; exact zT_upn hT zs32_0 rfl (i := μ 31 1) (by omega) (by omega) (by omega) (by omega)
      have a1 : μ1 31 1 = μ 31 1 := by rw [eμ1, pm_up_off (by decide)]
      have g2 : μ1 31 1 = μ 31 1 := by rw [eμ1, pm_up_off (by decide)]
      have f3 := zT_get hTμ1 zs31_1 (i := 1) (by omega) (by omega)
      refine pm_blk hK zmm74 [] 6 36 [(2, 31), (0, v)] [] (pm_up μ1 31 1 ((μ1 31 1) + 1)) [pm_in ((μ1 31 1) + 1), sx_bit Wm 31 = true] rfl ⟨pm_in_mk (by omega) (by omega), hb31, trivial⟩ ?_
      obtain ⟨μ2, eμ2⟩ : ∃ μ', μ' = pm_up μ1 31 1 ((μ1 31 1) + 1) := ⟨_, rfl⟩
      rw [← eμ2]
      have hTμ2 : zTJ none μ2 := by rw [eμ2]; exact zT_upn hTμ1 zs31_1 rfl (i := 1) (by omega) (by omega) (by omega) (by omega)
      have a2 : μ2 31 1 = μ 31 1 + 1 := by rw [eμ2, pm_up_eq, a1]
      have f4 := zT_get hTμ2 zs31_1 (i := 1) (by omega) (by omega)
      refine pm_blk hK zmm74 [] 2 40 [(2, 31), (0, v)] [(0, μ2 31 1)] μ2 [] rfl trivial ?_
      exact pm_iret rfl rfl ⟨_, rfl, hTμ2, fun q q1 q2 => by rw [eμ2, pm_up_row q1, eμ1, pm_up_row q2], Or.inr ⟨a2, by omega, a2, fun i => by rw [eμ2, pm_up_off (by decide), eμ1, pm_up_if]⟩⟩
    · have h1 : (if 4 ≤ μ 31 1 then 1 else 0 : Int) ≠ (0 : Int) := h1
      have h1 := zif1 h1
      refine pm_blk hK zmm74 [] 1 15 [(2, 31), (0, v)] [(0, (-1))] μ [] rfl trivial ?_
      first
      | (exfalso; omega)
      | exact pm_iret rfl rfl ⟨_, rfl, hT, fun _ _ _ => rfl, Or.inl ⟨rfl, by omega, rfl, rfl⟩⟩
set_option maxRecDepth 100000 in
theorem zh_toldv (hK : zKK ST) {a b c d : Int} (hT : zTJ none μ) (hb31 : sx_bit Wm 31 = true) (hb32 : sx_bit Wm 32 = true) (hbd : 2 ≤ bud.1 ∧ 60 ≤ bud.2.1) : zC D Wm ST b0 l Sg zM79 bud [(2, 1), (0, a), (0, b), (0, c), (0, d)] μ (fun st' μ' => st' = [(0, zwt20 a b c d)] ∧ zTJ none μ' ∧ (∀ q, q ≠ 31 → q ≠ 32 → μ' q = μ q) ∧ zTD a b c d (μ 32) (μ' 32)) := by
  refine pm_blk hK zmm79 [] 3 5 [(2, 1), (0, a), (0, b), (0, c), (0, d)] [(0, 99), (0, (-99)), (0, a)] μ [] rfl trivial ?_
  refine pm_call hK zmm79 (94, 1, 16, 3) zM16 (0, 0) [(0, a), (0, (-99)), (0, 99)] [] rfl rfl rfl rfl ⟨by omega, by rw [zn16]; omega⟩ (zh_within hK ⟨Nat.le_refl _, Nat.le_refl _⟩) (fun st1 μc1 hp1 => ?_)
  obtain ⟨rfl, rfl⟩ := hp1
  refine pm_if hK zmm79 .eq 37 45 rfl rfl (fun h0 => ?_) (fun h0 => ?_)
  · have h0 : (if ((-99)) ≤ a ∧ a ≤ 99 then 1 else 0 : Int) = (0 : Int) := h0
    have h0 := zif0 h0
    refine pm_blk hK zmm79 [] 1 46 [(2, 1), (0, a), (0, b), (0, c), (0, d)] [(0, 0)] μ [] rfl trivial ?_
    have zn : zwt20 a b c d = 0 := zwt20_n (by omega)
    exact pm_zret rfl rfl (by first | exact Or.inl rfl | exact Or.inr rfl | omega) ⟨by rw [zn], hT, fun _ _ _ => rfl, ⟨fun h => absurd h (by omega), fun _ => rfl⟩⟩
  · have h0 : (if ((-99)) ≤ a ∧ a ≤ 99 then 1 else 0 : Int) ≠ (0 : Int) := h0
    have h0 := zif1 h0
    refine pm_blk hK zmm79 [] 3 16 [(2, 1), (0, a), (0, b), (0, c), (0, d)] [(0, 99), (0, (-99)), (0, b)] μ [] rfl trivial ?_
    refine pm_call hK zmm79 (94, 1, 16, 3) zM16 (0, 0) [(0, b), (0, (-99)), (0, 99)] [] rfl rfl rfl rfl ⟨by omega, by rw [zn16]; omega⟩ (zh_within hK ⟨Nat.le_refl _, Nat.le_refl _⟩) (fun st2 μc2 hp2 => ?_)
    obtain ⟨rfl, rfl⟩ := hp2
    refine pm_if hK zmm79 .eq 26 45 rfl rfl (fun h1 => ?_) (fun h1 => ?_)
    · have h1 : (if ((-99)) ≤ b ∧ b ≤ 99 then 1 else 0 : Int) = (0 : Int) := h1
      have h1 := zif0 h1
      refine pm_blk hK zmm79 [] 1 46 [(2, 1), (0, a), (0, b), (0, c), (0, d)] [(0, 0)] μ [] rfl trivial ?_
      have zn : zwt20 a b c d = 0 := zwt20_n (by omega)
      exact pm_zret rfl rfl (by first | exact Or.inl rfl | exact Or.inr rfl | omega) ⟨by rw [zn], hT, fun _ _ _ => rfl, ⟨fun h => absurd h (by omega), fun _ => rfl⟩⟩
    · have h1 : (if ((-99)) ≤ b ∧ b ≤ 99 then 1 else 0 : Int) ≠ (0 : Int) := h1
      have h1 := zif1 h1
      refine pm_blk hK zmm79 [] 3 27 [(2, 1), (0, a), (0, b), (0, c), (0, d)] [(0, 99), (0, (-99)), (0, c)] μ [] rfl trivial ?_
      refine pm_call hK zmm79 (94, 1, 16, 3) zM16 (0, 0) [(0, c), (0, (-99)), (0, 99)] [] rfl rfl rfl rfl ⟨by omega, by rw [zn16]; omega⟩ (zh_within hK ⟨Nat.le_refl _, Nat.le_refl _⟩) (fun st3 μc3 hp3 => ?_)
      obtain ⟨rfl, rfl⟩ := hp3
      refine pm_if hK zmm79 .eq 15 45 rfl rfl (fun h2 => ?_) (fun h2 => ?_)
      · have h2 : (if ((-99)) ≤ c ∧ c ≤ 99 then 1 else 0 : Int) = (0 : Int) := h2
        have h2 := zif0 h2
        refine pm_blk hK zmm79 [] 1 46 [(2, 1), (0, a), (0, b), (0, c), (0, d)] [(0, 0)] μ [] rfl trivial ?_
        have zn : zwt20 a b c d = 0 := zwt20_n (by omega)
        exact pm_zret rfl rfl (by first | exact Or.inl rfl | exact Or.inr rfl | omega) ⟨by rw [zn], hT, fun _ _ _ => rfl, ⟨fun h => absurd h (by omega), fun _ => rfl⟩⟩
      · have h2 : (if ((-99)) ≤ c ∧ c ≤ 99 then 1 else 0 : Int) ≠ (0 : Int) := h2
        have h2 := zif1 h2
        refine pm_blk hK zmm79 [] 3 39 [(2, 1), (0, a), (0, b), (0, c), (0, d)] [(0, 99), (0, (-99)), (0, d)] μ [] rfl trivial ?_
        refine pm_call hK zmm79 (94, 1, 16, 3) zM16 (0, 0) [(0, d), (0, (-99)), (0, 99)] [] rfl rfl rfl rfl ⟨by omega, by rw [zn16]; omega⟩ (zh_within hK ⟨Nat.le_refl _, Nat.le_refl _⟩) (fun st4 μc4 hp4 => ?_)
        obtain ⟨rfl, rfl⟩ := hp4
        refine pm_if hK zmm79 .ne 5 47 rfl rfl (fun h3 => ?_) (fun h3 => ?_)
        · have h3 : (if ((-99)) ≤ d ∧ d ≤ 99 then 1 else 0 : Int) ≠ (0 : Int) := h3
          have h3 := zif1 h3
          refine pm_blk hK zmm79 [] 5 58 [(2, 1), (0, a), (0, b), (0, c), (0, d)] [] (pm_up μ 31 1 0) [sx_bit Wm 31 = true] rfl ⟨hb31, trivial⟩ ?_
          obtain ⟨μ1, eμ1⟩ : ∃ μ', μ' = pm_up μ 31 1 0 := ⟨_, rfl⟩
          rw [← eμ1]
          have hTμ1 : zTJ none μ1 := by rw [eμ1]; exact zT_upn hT zs31_1 rfl (i := 1) (by omega) (by omega) (by omega) (by omega)
          refine pm_blk hK zmm79 [] 4 66 [(2, 1), (0, a), (0, b), (0, c), (0, d)] [(0, a), (2, 31)] μ1 [] rfl trivial ?_
          refine pm_call hK zmm79 (310, 0, 74, 1) zM74 (1, 20) [(2, 31), (0, a)] [] rfl rfl rfl rfl ⟨by omega, by rw [zn74]; omega⟩ (zh_ad31 hK (v := a) hTμ1 ⟨by omega, by omega⟩ hb31 hb32 ⟨Nat.le_refl _, Nat.le_refl _⟩) (fun st5 μc5 hp5 => ?_)
          obtain ⟨x5, rfl, hTc5, hF5, hd5⟩ := hp5
          have w1 := hF5
          have z1 := zAd (k := 0) hd5 (by rw [eμ1, pm_up_eq]) (by decide)
          refine pm_blk hK zmm79 [] 5 78 [(2, 1), (0, a), (0, b), (0, c), (0, d)] [(0, b), (2, 31)] μc5 [] rfl trivial ?_
          refine pm_call hK zmm79 (310, 0, 74, 1) zM74 (1, 20) [(2, 31), (0, b)] [] rfl rfl rfl rfl ⟨by omega, by rw [zn74]; omega⟩ (zh_ad31 hK (v := b) hTc5 ⟨by omega, by omega⟩ hb31 hb32 ⟨Nat.le_refl _, Nat.le_refl _⟩) (fun st6 μc6 hp6 => ?_)
          obtain ⟨x6, rfl, hTc6, hF6, hd6⟩ := hp6
          have w2 := hF6
          have z2 := zAd (k := 1) hd6 (by have := z1.1; omega) (by decide)
          refine pm_blk hK zmm79 [] 5 90 [(2, 1), (0, a), (0, b), (0, c), (0, d)] [(0, c), (2, 31)] μc6 [] rfl trivial ?_
          refine pm_call hK zmm79 (310, 0, 74, 1) zM74 (1, 20) [(2, 31), (0, c)] [] rfl rfl rfl rfl ⟨by omega, by rw [zn74]; omega⟩ (zh_ad31 hK (v := c) hTc6 ⟨by omega, by omega⟩ hb31 hb32 ⟨Nat.le_refl _, Nat.le_refl _⟩) (fun st7 μc7 hp7 => ?_)
          obtain ⟨x7, rfl, hTc7, hF7, hd7⟩ := hp7
          have w3 := hF7
          have z3 := zAd (k := 2) hd7 (by have := z2.1; omega) (by decide)
          refine pm_blk hK zmm79 [] 5 103 [(2, 1), (0, a), (0, b), (0, c), (0, d)] [(0, d), (2, 31)] μc7 [] rfl trivial ?_
          refine pm_call hK zmm79 (310, 0, 74, 1) zM74 (1, 20) [(2, 31), (0, d)] [] rfl rfl rfl rfl ⟨by omega, by rw [zn74]; omega⟩ (zh_ad31 hK (v := d) hTc7 ⟨by omega, by omega⟩ hb31 hb32 ⟨Nat.le_refl _, Nat.le_refl _⟩) (fun st8 μc8 hp8 => ?_)
          obtain ⟨x8, rfl, hTc8, hF8, hd8⟩ := hp8
          have w4 := hF8
          have z4 := zAd (k := 3) hd8 (by have := z3.1; omega) (by decide)
          refine pm_blk hK zmm79 [] 2 108 [(2, 1), (0, a), (0, b), (0, c), (0, d)] [(0, 1)] μc8 [] rfl trivial ?_
          have zn : zwt20 a b c d = 1 := zwt20_y ⟨⟨by omega, by omega⟩, ⟨by omega, by omega⟩, ⟨by omega, by omega⟩, ⟨by omega, by omega⟩⟩
          have y0 : μc8 32 0 = a := by rw [z4.2, if_neg (by decide), z3.2, if_neg (by decide), z2.2, if_neg (by decide), z1.2, if_pos rfl]
          have y1 : μc8 32 1 = b := by rw [z4.2, if_neg (by decide), z3.2, if_neg (by decide), z2.2, if_pos rfl]
          have y2 : μc8 32 2 = c := by rw [z4.2, if_neg (by decide), z3.2, if_pos rfl]
          have y3 : μc8 32 3 = d := by rw [z4.2, if_pos rfl]
          exact pm_zret rfl rfl (by first | exact Or.inl rfl | exact Or.inr rfl | omega) ⟨by rw [zn], hTc8, fun q q1 q2 => by rw [w4 q q1 q2, w3 q q1 q2, w2 q q1 q2, w1 q q1 q2, eμ1, pm_up_row q1], ⟨fun _ => ⟨y0, y1, y2, y3⟩, fun h => absurd zn h⟩⟩
        · have h3 : (if ((-99)) ≤ d ∧ d ≤ 99 then 1 else 0 : Int) = (0 : Int) := h3
          have h3 := zif0 h3
          refine pm_blk hK zmm79 [] 1 46 [(2, 1), (0, a), (0, b), (0, c), (0, d)] [(0, 0)] μ [] rfl trivial ?_
          have zn : zwt20 a b c d = 0 := zwt20_n (by omega)
          exact pm_zret rfl rfl (by first | exact Or.inl rfl | exact Or.inr rfl | omega) ⟨by rw [zn], hT, fun _ _ _ => rfl, ⟨fun h => absurd h (by omega), fun _ => rfl⟩⟩
set_option maxRecDepth 100000 in
theorem zh_toldw (hK : zKK ST) {a b c d : Int} (hT : zTJ none μ) (hb205 : sx_bit Wm 205 = true) (hb232 : sx_bit Wm 232 = true) (hbd : 1 ≤ bud.1 ∧ 30 ≤ bud.2.1) : zC D Wm ST b0 l Sg zM174 bud [(2, 205), (0, a), (0, b), (0, c), (0, d)] μ (fun st' μ' => st' = [(0, zwt20 a b c d)] ∧ zTJ none μ' ∧ (∀ q, q ≠ 205 → q ≠ 232 → μ' q = μ q) ∧ (∀ k, k ≠ 0 → μ' 205 k = μ 205 k) ∧ zTD a b c d (μ 232) (μ' 232)) := by
  refine pm_blk hK zmm174 [] 3 5 [(2, 205), (0, a), (0, b), (0, c), (0, d)] [] (pm_up μ 205 0 0) [sx_bit Wm 205 = true] rfl ⟨hb205, trivial⟩ ?_
  obtain ⟨μ1, eμ1⟩ : ∃ μ', μ' = pm_up μ 205 0 0 := ⟨_, rfl⟩
  rw [← eμ1]
  have hTμ1 : zTJ none μ1 := by rw [eμ1]; exact zT_upn hT zs205_0 rfl (i := 0) (by omega) (by omega) (by omega) (by omega)
  have b1 : ∀ k : Int, k ≠ 0 → μ1 205 k = μ 205 k := fun k hk => by rw [eμ1, pm_up_ne hk]
  have b2 : ∀ q, q ≠ 205 → μ1 q = μ q := fun q hq => by rw [eμ1, pm_up_row hq]
  refine pm_blk hK zmm174 [] 4 11 [(2, 205), (0, a), (0, b), (0, c), (0, d)] [(0, 99), (0, (-99)), (0, a), (2, 205)] μ1 [] rfl trivial ?_
  refine pm_call hK zmm174 (158, 0, 129, 3) zM129 (0, 0) [(2, 205), (0, a), (0, (-99)), (0, 99)] [] rfl rfl rfl rfl ⟨by omega, by rw [zn129]; omega⟩ (zh_isIn hK ⟨by omega, by omega⟩) (fun st1 μc1 hp1 => ?_)
  obtain ⟨rfl, rfl⟩ := hp1
  refine pm_if hK zmm174 .eq 40 54 rfl rfl (fun h0 => ?_) (fun h0 => ?_)
  · have h0 : (if ((-99)) ≤ a ∧ a ≤ 99 then 1 else 0 : Int) = (0 : Int) := h0
    have h0 := zif0 h0
    refine pm_blk hK zmm174 [] 1 55 [(2, 205), (0, a), (0, b), (0, c), (0, d)] [(0, 0)] μ1 [] rfl trivial ?_
    have zn : zwt20 a b c d = 0 := zwt20_n (by omega)
    exact pm_zret rfl rfl (by first | exact Or.inl rfl | exact Or.inr rfl | omega) ⟨by rw [zn], hTμ1, fun q q1 _ => b2 q q1, b1, ⟨fun h => absurd h (by omega), fun _ => b2 232 (by decide)⟩⟩
  · have h0 : (if ((-99)) ≤ a ∧ a ≤ 99 then 1 else 0 : Int) ≠ (0 : Int) := h0
    have h0 := zif1 h0
    refine pm_blk hK zmm174 [] 4 23 [(2, 205), (0, a), (0, b), (0, c), (0, d)] [(0, 99), (0, (-99)), (0, b), (2, 205)] μ1 [] rfl trivial ?_
    refine pm_call hK zmm174 (158, 0, 129, 3) zM129 (0, 0) [(2, 205), (0, b), (0, (-99)), (0, 99)] [] rfl rfl rfl rfl ⟨by omega, by rw [zn129]; omega⟩ (zh_isIn hK ⟨by omega, by omega⟩) (fun st2 μc2 hp2 => ?_)
    obtain ⟨rfl, rfl⟩ := hp2
    refine pm_if hK zmm174 .eq 28 54 rfl rfl (fun h1 => ?_) (fun h1 => ?_)
    · have h1 : (if ((-99)) ≤ b ∧ b ≤ 99 then 1 else 0 : Int) = (0 : Int) := h1
      have h1 := zif0 h1
      refine pm_blk hK zmm174 [] 1 55 [(2, 205), (0, a), (0, b), (0, c), (0, d)] [(0, 0)] μ1 [] rfl trivial ?_
      have zn : zwt20 a b c d = 0 := zwt20_n (by omega)
      exact pm_zret rfl rfl (by first | exact Or.inl rfl | exact Or.inr rfl | omega) ⟨by rw [zn], hTμ1, fun q q1 _ => b2 q q1, b1, ⟨fun h => absurd h (by omega), fun _ => b2 232 (by decide)⟩⟩
    · have h1 : (if ((-99)) ≤ b ∧ b ≤ 99 then 1 else 0 : Int) ≠ (0 : Int) := h1
      have h1 := zif1 h1
      refine pm_blk hK zmm174 [] 4 35 [(2, 205), (0, a), (0, b), (0, c), (0, d)] [(0, 99), (0, (-99)), (0, c), (2, 205)] μ1 [] rfl trivial ?_
      refine pm_call hK zmm174 (158, 0, 129, 3) zM129 (0, 0) [(2, 205), (0, c), (0, (-99)), (0, 99)] [] rfl rfl rfl rfl ⟨by omega, by rw [zn129]; omega⟩ (zh_isIn hK ⟨by omega, by omega⟩) (fun st3 μc3 hp3 => ?_)
      obtain ⟨rfl, rfl⟩ := hp3
      refine pm_if hK zmm174 .eq 16 54 rfl rfl (fun h2 => ?_) (fun h2 => ?_)
      · have h2 : (if ((-99)) ≤ c ∧ c ≤ 99 then 1 else 0 : Int) = (0 : Int) := h2
        have h2 := zif0 h2
        refine pm_blk hK zmm174 [] 1 55 [(2, 205), (0, a), (0, b), (0, c), (0, d)] [(0, 0)] μ1 [] rfl trivial ?_
        have zn : zwt20 a b c d = 0 := zwt20_n (by omega)
        exact pm_zret rfl rfl (by first | exact Or.inl rfl | exact Or.inr rfl | omega) ⟨by rw [zn], hTμ1, fun q q1 _ => b2 q q1, b1, ⟨fun h => absurd h (by omega), fun _ => b2 232 (by decide)⟩⟩
      · have h2 : (if ((-99)) ≤ c ∧ c ≤ 99 then 1 else 0 : Int) ≠ (0 : Int) := h2
        have h2 := zif1 h2
        refine pm_blk hK zmm174 [] 4 48 [(2, 205), (0, a), (0, b), (0, c), (0, d)] [(0, 99), (0, (-99)), (0, d), (2, 205)] μ1 [] rfl trivial ?_
        refine pm_call hK zmm174 (158, 0, 129, 3) zM129 (0, 0) [(2, 205), (0, d), (0, (-99)), (0, 99)] [] rfl rfl rfl rfl ⟨by omega, by rw [zn129]; omega⟩ (zh_isIn hK ⟨by omega, by omega⟩) (fun st4 μc4 hp4 => ?_)
        obtain ⟨rfl, rfl⟩ := hp4
        refine pm_if hK zmm174 .ne 5 56 rfl rfl (fun h3 => ?_) (fun h3 => ?_)
        · have h3 : (if ((-99)) ≤ d ∧ d ≤ 99 then 1 else 0 : Int) ≠ (0 : Int) := h3
          have h3 := zif1 h3
          refine pm_blk hK zmm174 [] 5 63 [(2, 205), (0, a), (0, b), (0, c), (0, d)] [] (pm_up μ1 232 0 a) [sx_bit Wm 232 = true, 0 ≤ 0 ∧ 0 < 4] rfl ⟨hb232, ⟨by omega, by omega⟩, trivial⟩ ?_
          obtain ⟨μ2, eμ2⟩ : ∃ μ', μ' = pm_up μ1 232 0 a := ⟨_, rfl⟩
          rw [← eμ2]
          have hTμ2 : zTJ none μ2 := by rw [eμ2]; exact zT_upn hTμ1 zs232_0 rfl (i := 0) (by omega) (by omega) (by omega) (by omega)
          refine pm_blk hK zmm174 [] 5 70 [(2, 205), (0, a), (0, b), (0, c), (0, d)] [] (pm_up μ2 232 1 b) [sx_bit Wm 232 = true, 0 ≤ 1 ∧ 1 < 4] rfl ⟨hb232, ⟨by omega, by omega⟩, trivial⟩ ?_
          obtain ⟨μ3, eμ3⟩ : ∃ μ', μ' = pm_up μ2 232 1 b := ⟨_, rfl⟩
          rw [← eμ3]
          have hTμ3 : zTJ none μ3 := by rw [eμ3]; exact zT_upn hTμ2 zs232_0 rfl (i := 1) (by omega) (by omega) (by omega) (by omega)
          refine pm_blk hK zmm174 [] 5 77 [(2, 205), (0, a), (0, b), (0, c), (0, d)] [] (pm_up μ3 232 2 c) [sx_bit Wm 232 = true, 0 ≤ 2 ∧ 2 < 4] rfl ⟨hb232, ⟨by omega, by omega⟩, trivial⟩ ?_
          obtain ⟨μ4, eμ4⟩ : ∃ μ', μ' = pm_up μ3 232 2 c := ⟨_, rfl⟩
          rw [← eμ4]
          have hTμ4 : zTJ none μ4 := by rw [eμ4]; exact zT_upn hTμ3 zs232_0 rfl (i := 2) (by omega) (by omega) (by omega) (by omega)
          refine pm_blk hK zmm174 [] 5 85 [(2, 205), (0, a), (0, b), (0, c), (0, d)] [] (pm_up μ4 232 3 d) [sx_bit Wm 232 = true, 0 ≤ 3 ∧ 3 < 4] rfl ⟨hb232, ⟨by omega, by omega⟩, trivial⟩ ?_
          obtain ⟨μ5, eμ5⟩ : ∃ μ', μ' = pm_up μ4 232 3 d := ⟨_, rfl⟩
          rw [← eμ5]
          have hTμ5 : zTJ none μ5 := by rw [eμ5]; exact zT_upn hTμ4 zs232_0 rfl (i := 3) (by omega) (by omega) (by omega) (by omega)
          refine pm_blk hK zmm174 [] 1 86 [(2, 205), (0, a), (0, b), (0, c), (0, d)] [(0, 1)] μ5 [] rfl trivial ?_
          have zn : zwt20 a b c d = 1 := zwt20_y ⟨⟨by omega, by omega⟩, ⟨by omega, by omega⟩, ⟨by omega, by omega⟩, ⟨by omega, by omega⟩⟩
          have y0 : μ5 232 0 = a := by rw [eμ5, pm_up_ne (by decide), eμ4, pm_up_ne (by decide), eμ3, pm_up_ne (by decide), eμ2, pm_up_eq]
          have y1 : μ5 232 1 = b := by rw [eμ5, pm_up_ne (by decide), eμ4, pm_up_ne (by decide), eμ3, pm_up_eq]
          have y2 : μ5 232 2 = c := by rw [eμ5, pm_up_ne (by decide), eμ4, pm_up_eq]
          have y3 : μ5 232 3 = d := by rw [eμ5, pm_up_eq]
          exact pm_zret rfl rfl (by first | exact Or.inl rfl | exact Or.inr rfl | omega) ⟨by rw [zn], hTμ5, fun q q1 q2 => by rw [eμ5, pm_up_row q2, eμ4, pm_up_row q2, eμ3, pm_up_row q2, eμ2, pm_up_row q2, b2 q q1], fun k hk => by rw [eμ5, pm_up_off (by decide), eμ4, pm_up_off (by decide), eμ3, pm_up_off (by decide), eμ2, pm_up_off (by decide), b1 k hk], ⟨fun _ => ⟨y0, y1, y2, y3⟩, fun h => absurd zn h⟩⟩
        · have h3 : (if ((-99)) ≤ d ∧ d ≤ 99 then 1 else 0 : Int) = (0 : Int) := h3
          have h3 := zif0 h3
          refine pm_blk hK zmm174 [] 1 55 [(2, 205), (0, a), (0, b), (0, c), (0, d)] [(0, 0)] μ1 [] rfl trivial ?_
          have zn : zwt20 a b c d = 0 := zwt20_n (by omega)
          exact pm_zret rfl rfl (by first | exact Or.inl rfl | exact Or.inr rfl | omega) ⟨by rw [zn], hTμ1, fun q q1 _ => b2 q q1, b1, ⟨fun h => absurd h (by omega), fun _ => b2 232 (by decide)⟩⟩
end ZHW
