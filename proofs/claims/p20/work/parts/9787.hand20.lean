/-! told, both sides; walks printed by program (wip/p30/pmgen.py) and filled by hand -/
section ZHW
variable {D : va_G} {Wm : Nat} {ST : List (String × String × String × Nat)} {b0 : sx_B} {l : Launch} {Sg : Nat → Option Nat} {bud : sx_Bu} {μ : pm_Mem} {B0 : Nat → Prop} {J : (Nat → Option Nat) → Heap → Prop}
def zwt20 (a b c d : Int) : Int := if (-99 ≤ a ∧ a ≤ 99) ∧ (-99 ≤ b ∧ b ≤ 99) ∧ (-99 ≤ c ∧ c ≤ 99) ∧ (-99 ≤ d ∧ d ≤ 99) then 1 else 0
theorem zwt20_y {a b c d : Int} (h : (-99 ≤ a ∧ a ≤ 99) ∧ (-99 ≤ b ∧ b ≤ 99) ∧ (-99 ≤ c ∧ c ≤ 99) ∧ (-99 ≤ d ∧ d ≤ 99)) : zwt20 a b c d = 1 := if_pos h
theorem zwt20_n {a b c d : Int} (h : ¬ ((-99 ≤ a ∧ a ≤ 99) ∧ (-99 ≤ b ∧ b ≤ 99) ∧ (-99 ≤ c ∧ c ≤ 99) ∧ (-99 ≤ d ∧ d ≤ 99))) : zwt20 a b c d = 0 := if_neg h
set_option maxRecDepth 100000 in
theorem zh_fu31 (hK : zKK ST) (hbd : 0 ≤ bud.1 ∧ 0 ≤ bud.2.1) : zC D Wm ST b0 l Sg zM72 bud [(2, 31)] μ (fun st' μ' => μ = μ' ∧ st' = [(0, if 4 ≤ μ 31 1 then 1 else 0)]) := by
  refine pm_blk hK zmm72 [] 5 9 [(2, 31)] [(0, 4), (0, μ 31 1)] μ [] rfl trivial ?_
  refine pm_icmp hK zmm72 .lt 7 16 rfl rfl (fun h0 => ?_) (fun h0 => ?_)
  · have h0 : μ 31 1 < (4 : Int) := h0
    refine pm_blk hK zmm72 [] 1 17 [(2, 31)] [(0, 0)] μ [] rfl trivial ?_
    exact pm_zret rfl rfl (by first | exact Or.inl rfl | exact Or.inr rfl | omega) ⟨rfl, by first | rw [if_pos (by omega)] | rw [if_neg (by omega)]⟩
  · have h0 : (4 : Int) ≤ μ 31 1 := h0
    refine pm_blk hK zmm72 [] 2 17 [(2, 31)] [(0, 1)] μ [] rfl trivial ?_
    exact pm_zret rfl rfl (by first | exact Or.inl rfl | exact Or.inr rfl | omega) ⟨rfl, by first | rw [if_pos (by omega)] | rw [if_neg (by omega)]⟩
set_option maxRecDepth 100000 in
theorem zh_ax31 (hK : zKK ST) {v : Int} (hT : zTJ μ) (hv : -99 ≤ v ∧ v ≤ 99) (hb31 : sx_bit Wm 31 = true) (hb32 : sx_bit Wm 32 = true) (hbd : 1 ≤ bud.1 ∧ 20 ≤ bud.2.1) : zC D Wm ST b0 l Sg zM74 bud [(2, 31), (0, v)] μ (fun st' μ' => ∃ x, st' = [(0, x)] ∧ zTJ μ') := by
  have f1 := zT_get hT zs31_1 (i := 1) (by omega) (by omega)
  refine pm_blk hK zmm74 [] 2 4 [(2, 31), (0, v)] [(0, μ 31 1)] μ [] rfl trivial ?_
  refine pm_if hK zmm74 .lt 10 14 rfl rfl (fun h0 => ?_) (fun h0 => ?_)
  · have h0 : μ 31 1 < (0 : Int) := h0
    refine pm_blk hK zmm74 [] 1 15 [(2, 31), (0, v)] [(0, (-1))] μ [] rfl trivial ?_
    exact pm_iret rfl rfl ⟨_, rfl, hT⟩
  · have h0 : (0 : Int) ≤ μ 31 1 := h0
    refine pm_blk hK zmm74 [] 1 8 [(2, 31), (0, v)] [(2, 31)] μ [] rfl trivial ?_
    refine pm_call hK zmm74 (19, 0, 72, 0) zM72 (0, 0) [(2, 31)] [] rfl rfl rfl rfl ⟨by omega, by rw [zn72]; omega⟩ (zh_fu31 hK ⟨Nat.le_refl _, Nat.le_refl _⟩) (fun st1 μc1 hp1 => ?_)
    obtain ⟨rfl, rfl⟩ := hp1
    refine pm_if hK zmm74 .eq 5 16 rfl rfl (fun h1 => ?_) (fun h1 => ?_)
    · have h1 : (if 4 ≤ μ 31 1 then 1 else 0 : Int) = (0 : Int) := h1
      have h1 := zif0 h1
      refine pm_blk hK zmm74 [] 6 26 [(2, 31), (0, v)] [] (pm_up μ 32 (μ 31 1) v) [sx_bit Wm 32 = true, 0 ≤ μ 31 1 ∧ μ 31 1 < 4] rfl ⟨hb32, ⟨by omega, by omega⟩, trivial⟩ ?_
      obtain ⟨μ1, eμ1⟩ : ∃ μ', μ' = pm_up μ 32 (μ 31 1) v := ⟨_, rfl⟩
      rw [← eμ1]
      have hTμ1 : zTJ μ1 := by rw [eμ1]; exact zT_up hT zs32_0 rfl (i := μ 31 1) (by omega) (by omega) (by omega) (by omega)
      have a1 : μ1 31 1 = μ 31 1 := by rw [eμ1, pm_up_off (by decide)]
      have g2 : μ1 31 1 = μ 31 1 := by rw [eμ1, pm_up_off (by decide)]
      have f3 := zT_get hTμ1 zs31_1 (i := 1) (by omega) (by omega)
      refine pm_blk hK zmm74 [] 6 36 [(2, 31), (0, v)] [] (pm_up μ1 31 1 ((μ1 31 1) + 1)) [pm_in ((μ1 31 1) + 1), sx_bit Wm 31 = true] rfl ⟨pm_in_mk (by omega) (by omega), hb31, trivial⟩ ?_
      obtain ⟨μ2, eμ2⟩ : ∃ μ', μ' = pm_up μ1 31 1 ((μ1 31 1) + 1) := ⟨_, rfl⟩
      rw [← eμ2]
      have hTμ2 : zTJ μ2 := by rw [eμ2]; exact zT_up hTμ1 zs31_1 rfl (i := 1) (by omega) (by omega) (by omega) (by omega)
      have f4 := zT_get hTμ2 zs31_1 (i := 1) (by omega) (by omega)
      refine pm_blk hK zmm74 [] 2 40 [(2, 31), (0, v)] [(0, μ2 31 1)] μ2 [] rfl trivial ?_
      exact pm_iret rfl rfl ⟨_, rfl, hTμ2⟩
    · have h1 : (if 4 ≤ μ 31 1 then 1 else 0 : Int) ≠ (0 : Int) := h1
      have h1 := zif1 h1
      refine pm_blk hK zmm74 [] 1 15 [(2, 31), (0, v)] [(0, (-1))] μ [] rfl trivial ?_
      exact pm_iret rfl rfl ⟨_, rfl, hT⟩
set_option maxRecDepth 100000 in
theorem zh_toldx (hK : zKK ST) {a b c d : Int} (hT : zTJ μ) (hb31 : sx_bit Wm 31 = true) (hb32 : sx_bit Wm 32 = true) (hbd : 2 ≤ bud.1 ∧ 60 ≤ bud.2.1) : zC D Wm ST b0 l Sg zM79 bud [(2, 1), (0, a), (0, b), (0, c), (0, d)] μ (fun st' μ' => zTJ μ' ∧ st' = [(0, zwt20 a b c d)]) := by
  refine pm_blk hK zmm79 [] 3 5 [(2, 1), (0, a), (0, b), (0, c), (0, d)] [(0, 99), (0, (-99)), (0, a)] μ [] rfl trivial ?_
  refine pm_call hK zmm79 (94, 1, 16, 3) zM16 (0, 0) [(0, a), (0, (-99)), (0, 99)] [] rfl rfl rfl rfl ⟨by omega, by rw [zn16]; omega⟩ (zh_within hK ⟨Nat.le_refl _, Nat.le_refl _⟩) (fun st1 μc1 hp1 => ?_)
  obtain ⟨rfl, rfl⟩ := hp1
  refine pm_if hK zmm79 .eq 37 45 rfl rfl (fun h0 => ?_) (fun h0 => ?_)
  · have h0 : (if ((-99)) ≤ a ∧ a ≤ 99 then 1 else 0 : Int) = (0 : Int) := h0
    have h0 := zif0 h0
    refine pm_blk hK zmm79 [] 1 46 [(2, 1), (0, a), (0, b), (0, c), (0, d)] [(0, 0)] μ [] rfl trivial ?_
    first
    | (have zn : zwt20 a b c d = 0 := zwt20_n (by omega); exact pm_zret rfl rfl (by first | exact Or.inl rfl | exact Or.inr rfl | omega) ⟨hT, by rw [zn]⟩)
    | (have zn : zwt20 a b c d = 1 := zwt20_y ⟨⟨by omega, by omega⟩, ⟨by omega, by omega⟩, ⟨by omega, by omega⟩, ⟨by omega, by omega⟩⟩; exact pm_zret rfl rfl (by first | exact Or.inl rfl | exact Or.inr rfl | omega) ⟨hT, by rw [zn]⟩)
  · have h0 : (if ((-99)) ≤ a ∧ a ≤ 99 then 1 else 0 : Int) ≠ (0 : Int) := h0
    have h0 := zif1 h0
    refine pm_blk hK zmm79 [] 3 16 [(2, 1), (0, a), (0, b), (0, c), (0, d)] [(0, 99), (0, (-99)), (0, b)] μ [] rfl trivial ?_
    refine pm_call hK zmm79 (94, 1, 16, 3) zM16 (0, 0) [(0, b), (0, (-99)), (0, 99)] [] rfl rfl rfl rfl ⟨by omega, by rw [zn16]; omega⟩ (zh_within hK ⟨Nat.le_refl _, Nat.le_refl _⟩) (fun st2 μc2 hp2 => ?_)
    obtain ⟨rfl, rfl⟩ := hp2
    refine pm_if hK zmm79 .eq 26 45 rfl rfl (fun h1 => ?_) (fun h1 => ?_)
    · have h1 : (if ((-99)) ≤ b ∧ b ≤ 99 then 1 else 0 : Int) = (0 : Int) := h1
      have h1 := zif0 h1
      refine pm_blk hK zmm79 [] 1 46 [(2, 1), (0, a), (0, b), (0, c), (0, d)] [(0, 0)] μ [] rfl trivial ?_
      first
      | (have zn : zwt20 a b c d = 0 := zwt20_n (by omega); exact pm_zret rfl rfl (by first | exact Or.inl rfl | exact Or.inr rfl | omega) ⟨hT, by rw [zn]⟩)
      | (have zn : zwt20 a b c d = 1 := zwt20_y ⟨⟨by omega, by omega⟩, ⟨by omega, by omega⟩, ⟨by omega, by omega⟩, ⟨by omega, by omega⟩⟩; exact pm_zret rfl rfl (by first | exact Or.inl rfl | exact Or.inr rfl | omega) ⟨hT, by rw [zn]⟩)
    · have h1 : (if ((-99)) ≤ b ∧ b ≤ 99 then 1 else 0 : Int) ≠ (0 : Int) := h1
      have h1 := zif1 h1
      refine pm_blk hK zmm79 [] 3 27 [(2, 1), (0, a), (0, b), (0, c), (0, d)] [(0, 99), (0, (-99)), (0, c)] μ [] rfl trivial ?_
      refine pm_call hK zmm79 (94, 1, 16, 3) zM16 (0, 0) [(0, c), (0, (-99)), (0, 99)] [] rfl rfl rfl rfl ⟨by omega, by rw [zn16]; omega⟩ (zh_within hK ⟨Nat.le_refl _, Nat.le_refl _⟩) (fun st3 μc3 hp3 => ?_)
      obtain ⟨rfl, rfl⟩ := hp3
      refine pm_if hK zmm79 .eq 15 45 rfl rfl (fun h2 => ?_) (fun h2 => ?_)
      · have h2 : (if ((-99)) ≤ c ∧ c ≤ 99 then 1 else 0 : Int) = (0 : Int) := h2
        have h2 := zif0 h2
        refine pm_blk hK zmm79 [] 1 46 [(2, 1), (0, a), (0, b), (0, c), (0, d)] [(0, 0)] μ [] rfl trivial ?_
        first
        | (have zn : zwt20 a b c d = 0 := zwt20_n (by omega); exact pm_zret rfl rfl (by first | exact Or.inl rfl | exact Or.inr rfl | omega) ⟨hT, by rw [zn]⟩)
        | (have zn : zwt20 a b c d = 1 := zwt20_y ⟨⟨by omega, by omega⟩, ⟨by omega, by omega⟩, ⟨by omega, by omega⟩, ⟨by omega, by omega⟩⟩; exact pm_zret rfl rfl (by first | exact Or.inl rfl | exact Or.inr rfl | omega) ⟨hT, by rw [zn]⟩)
      · have h2 : (if ((-99)) ≤ c ∧ c ≤ 99 then 1 else 0 : Int) ≠ (0 : Int) := h2
        have h2 := zif1 h2
        refine pm_blk hK zmm79 [] 3 39 [(2, 1), (0, a), (0, b), (0, c), (0, d)] [(0, 99), (0, (-99)), (0, d)] μ [] rfl trivial ?_
        refine pm_call hK zmm79 (94, 1, 16, 3) zM16 (0, 0) [(0, d), (0, (-99)), (0, 99)] [] rfl rfl rfl rfl ⟨by omega, by rw [zn16]; omega⟩ (zh_within hK ⟨Nat.le_refl _, Nat.le_refl _⟩) (fun st4 μc4 hp4 => ?_)
        obtain ⟨rfl, rfl⟩ := hp4
        refine pm_if hK zmm79 .ne 5 47 rfl rfl (fun h3 => ?_) (fun h3 => ?_)
        · have h3 : (if ((-99)) ≤ d ∧ d ≤ 99 then 1 else 0 : Int) ≠ (0 : Int) := h3
          have h3 := zif1 h3
          refine pm_blk hK zmm79 [] 5 58 [(2, 1), (0, a), (0, b), (0, c), (0, d)] [] (pm_up μ 31 1 0) [sx_bit Wm 31 = true] rfl ⟨hb31, trivial⟩ ?_
          obtain ⟨μ1, eμ1⟩ : ∃ μ', μ' = pm_up μ 31 1 0 := ⟨_, rfl⟩
          rw [← eμ1]
          have hTμ1 : zTJ μ1 := by rw [eμ1]; exact zT_up hT zs31_1 rfl (i := 1) (by omega) (by omega) (by omega) (by omega)
          refine pm_blk hK zmm79 [] 4 66 [(2, 1), (0, a), (0, b), (0, c), (0, d)] [(0, a), (2, 31)] μ1 [] rfl trivial ?_
          refine pm_call hK zmm79 (310, 0, 74, 1) zM74 (1, 20) [(2, 31), (0, a)] [] rfl rfl rfl rfl ⟨by omega, by rw [zn74]; omega⟩ (zh_ax31 hK (v := a) hTμ1 ⟨by omega, by omega⟩ hb31 hb32 ⟨Nat.le_refl _, Nat.le_refl _⟩) (fun st5 μc5 hp5 => ?_)
          obtain ⟨x5, rfl, hTc5⟩ := hp5
          refine pm_blk hK zmm79 [] 5 78 [(2, 1), (0, a), (0, b), (0, c), (0, d)] [(0, b), (2, 31)] μc5 [] rfl trivial ?_
          refine pm_call hK zmm79 (310, 0, 74, 1) zM74 (1, 20) [(2, 31), (0, b)] [] rfl rfl rfl rfl ⟨by omega, by rw [zn74]; omega⟩ (zh_ax31 hK (v := b) hTc5 ⟨by omega, by omega⟩ hb31 hb32 ⟨Nat.le_refl _, Nat.le_refl _⟩) (fun st6 μc6 hp6 => ?_)
          obtain ⟨x6, rfl, hTc6⟩ := hp6
          refine pm_blk hK zmm79 [] 5 90 [(2, 1), (0, a), (0, b), (0, c), (0, d)] [(0, c), (2, 31)] μc6 [] rfl trivial ?_
          refine pm_call hK zmm79 (310, 0, 74, 1) zM74 (1, 20) [(2, 31), (0, c)] [] rfl rfl rfl rfl ⟨by omega, by rw [zn74]; omega⟩ (zh_ax31 hK (v := c) hTc6 ⟨by omega, by omega⟩ hb31 hb32 ⟨Nat.le_refl _, Nat.le_refl _⟩) (fun st7 μc7 hp7 => ?_)
          obtain ⟨x7, rfl, hTc7⟩ := hp7
          refine pm_blk hK zmm79 [] 5 103 [(2, 1), (0, a), (0, b), (0, c), (0, d)] [(0, d), (2, 31)] μc7 [] rfl trivial ?_
          refine pm_call hK zmm79 (310, 0, 74, 1) zM74 (1, 20) [(2, 31), (0, d)] [] rfl rfl rfl rfl ⟨by omega, by rw [zn74]; omega⟩ (zh_ax31 hK (v := d) hTc7 ⟨by omega, by omega⟩ hb31 hb32 ⟨Nat.le_refl _, Nat.le_refl _⟩) (fun st8 μc8 hp8 => ?_)
          obtain ⟨x8, rfl, hTc8⟩ := hp8
          refine pm_blk hK zmm79 [] 2 108 [(2, 1), (0, a), (0, b), (0, c), (0, d)] [(0, 1)] μc8 [] rfl trivial ?_
          first
          | (have zn : zwt20 a b c d = 0 := zwt20_n (by omega); exact pm_zret rfl rfl (by first | exact Or.inl rfl | exact Or.inr rfl | omega) ⟨hTc8, by rw [zn]⟩)
          | (have zn : zwt20 a b c d = 1 := zwt20_y ⟨⟨by omega, by omega⟩, ⟨by omega, by omega⟩, ⟨by omega, by omega⟩, ⟨by omega, by omega⟩⟩; exact pm_zret rfl rfl (by first | exact Or.inl rfl | exact Or.inr rfl | omega) ⟨hTc8, by rw [zn]⟩)
        · have h3 : (if ((-99)) ≤ d ∧ d ≤ 99 then 1 else 0 : Int) = (0 : Int) := h3
          have h3 := zif0 h3
          refine pm_blk hK zmm79 [] 1 46 [(2, 1), (0, a), (0, b), (0, c), (0, d)] [(0, 0)] μ [] rfl trivial ?_
          first
          | (have zn : zwt20 a b c d = 0 := zwt20_n (by omega); exact pm_zret rfl rfl (by first | exact Or.inl rfl | exact Or.inr rfl | omega) ⟨hT, by rw [zn]⟩)
          | (have zn : zwt20 a b c d = 1 := zwt20_y ⟨⟨by omega, by omega⟩, ⟨by omega, by omega⟩, ⟨by omega, by omega⟩, ⟨by omega, by omega⟩⟩; exact pm_zret rfl rfl (by first | exact Or.inl rfl | exact Or.inr rfl | omega) ⟨hT, by rw [zn]⟩)
set_option maxRecDepth 100000 in
theorem zh_toldm (hK : zKK ST) {a b c d : Int} (hT : zTJ μ) (hb205 : sx_bit Wm 205 = true) (hb232 : sx_bit Wm 232 = true) (hbd : 1 ≤ bud.1 ∧ 30 ≤ bud.2.1) : zC D Wm ST b0 l Sg zM174 bud [(2, 205), (0, a), (0, b), (0, c), (0, d)] μ (fun st' μ' => zTJ μ' ∧ st' = [(0, zwt20 a b c d)]) := by
  refine pm_blk hK zmm174 [] 3 5 [(2, 205), (0, a), (0, b), (0, c), (0, d)] [] (pm_up μ 205 0 0) [sx_bit Wm 205 = true] rfl ⟨hb205, trivial⟩ ?_
  obtain ⟨μ1, eμ1⟩ : ∃ μ', μ' = pm_up μ 205 0 0 := ⟨_, rfl⟩
  rw [← eμ1]
  have hTμ1 : zTJ μ1 := by rw [eμ1]; exact zT_up hT zs205_0 rfl (i := 0) (by omega) (by omega) (by omega) (by omega)
  refine pm_blk hK zmm174 [] 4 11 [(2, 205), (0, a), (0, b), (0, c), (0, d)] [(0, 99), (0, (-99)), (0, a), (2, 205)] μ1 [] rfl trivial ?_
  refine pm_call hK zmm174 (158, 0, 129, 3) zM129 (0, 0) [(2, 205), (0, a), (0, (-99)), (0, 99)] [] rfl rfl rfl rfl ⟨by omega, by rw [zn129]; omega⟩ (zh_isIn hK ⟨by omega, by omega⟩) (fun st1 μc1 hp1 => ?_)
  obtain ⟨rfl, rfl⟩ := hp1
  refine pm_if hK zmm174 .eq 40 54 rfl rfl (fun h0 => ?_) (fun h0 => ?_)
  · have h0 : (if ((-99)) ≤ a ∧ a ≤ 99 then 1 else 0 : Int) = (0 : Int) := h0
    have h0 := zif0 h0
    refine pm_blk hK zmm174 [] 1 55 [(2, 205), (0, a), (0, b), (0, c), (0, d)] [(0, 0)] μ1 [] rfl trivial ?_
    first
    | (have zn : zwt20 a b c d = 0 := zwt20_n (by omega); exact pm_zret rfl rfl (by first | exact Or.inl rfl | exact Or.inr rfl | omega) ⟨hTμ1, by rw [zn]⟩)
    | (have zn : zwt20 a b c d = 1 := zwt20_y ⟨⟨by omega, by omega⟩, ⟨by omega, by omega⟩, ⟨by omega, by omega⟩, ⟨by omega, by omega⟩⟩; exact pm_zret rfl rfl (by first | exact Or.inl rfl | exact Or.inr rfl | omega) ⟨hTμ1, by rw [zn]⟩)
  · have h0 : (if ((-99)) ≤ a ∧ a ≤ 99 then 1 else 0 : Int) ≠ (0 : Int) := h0
    have h0 := zif1 h0
    refine pm_blk hK zmm174 [] 4 23 [(2, 205), (0, a), (0, b), (0, c), (0, d)] [(0, 99), (0, (-99)), (0, b), (2, 205)] μ1 [] rfl trivial ?_
    refine pm_call hK zmm174 (158, 0, 129, 3) zM129 (0, 0) [(2, 205), (0, b), (0, (-99)), (0, 99)] [] rfl rfl rfl rfl ⟨by omega, by rw [zn129]; omega⟩ (zh_isIn hK ⟨by omega, by omega⟩) (fun st2 μc2 hp2 => ?_)
    obtain ⟨rfl, rfl⟩ := hp2
    refine pm_if hK zmm174 .eq 28 54 rfl rfl (fun h1 => ?_) (fun h1 => ?_)
    · have h1 : (if ((-99)) ≤ b ∧ b ≤ 99 then 1 else 0 : Int) = (0 : Int) := h1
      have h1 := zif0 h1
      refine pm_blk hK zmm174 [] 1 55 [(2, 205), (0, a), (0, b), (0, c), (0, d)] [(0, 0)] μ1 [] rfl trivial ?_
      first
      | (have zn : zwt20 a b c d = 0 := zwt20_n (by omega); exact pm_zret rfl rfl (by first | exact Or.inl rfl | exact Or.inr rfl | omega) ⟨hTμ1, by rw [zn]⟩)
      | (have zn : zwt20 a b c d = 1 := zwt20_y ⟨⟨by omega, by omega⟩, ⟨by omega, by omega⟩, ⟨by omega, by omega⟩, ⟨by omega, by omega⟩⟩; exact pm_zret rfl rfl (by first | exact Or.inl rfl | exact Or.inr rfl | omega) ⟨hTμ1, by rw [zn]⟩)
    · have h1 : (if ((-99)) ≤ b ∧ b ≤ 99 then 1 else 0 : Int) ≠ (0 : Int) := h1
      have h1 := zif1 h1
      refine pm_blk hK zmm174 [] 4 35 [(2, 205), (0, a), (0, b), (0, c), (0, d)] [(0, 99), (0, (-99)), (0, c), (2, 205)] μ1 [] rfl trivial ?_
      refine pm_call hK zmm174 (158, 0, 129, 3) zM129 (0, 0) [(2, 205), (0, c), (0, (-99)), (0, 99)] [] rfl rfl rfl rfl ⟨by omega, by rw [zn129]; omega⟩ (zh_isIn hK ⟨by omega, by omega⟩) (fun st3 μc3 hp3 => ?_)
      obtain ⟨rfl, rfl⟩ := hp3
      refine pm_if hK zmm174 .eq 16 54 rfl rfl (fun h2 => ?_) (fun h2 => ?_)
      · have h2 : (if ((-99)) ≤ c ∧ c ≤ 99 then 1 else 0 : Int) = (0 : Int) := h2
        have h2 := zif0 h2
        refine pm_blk hK zmm174 [] 1 55 [(2, 205), (0, a), (0, b), (0, c), (0, d)] [(0, 0)] μ1 [] rfl trivial ?_
        first
        | (have zn : zwt20 a b c d = 0 := zwt20_n (by omega); exact pm_zret rfl rfl (by first | exact Or.inl rfl | exact Or.inr rfl | omega) ⟨hTμ1, by rw [zn]⟩)
        | (have zn : zwt20 a b c d = 1 := zwt20_y ⟨⟨by omega, by omega⟩, ⟨by omega, by omega⟩, ⟨by omega, by omega⟩, ⟨by omega, by omega⟩⟩; exact pm_zret rfl rfl (by first | exact Or.inl rfl | exact Or.inr rfl | omega) ⟨hTμ1, by rw [zn]⟩)
      · have h2 : (if ((-99)) ≤ c ∧ c ≤ 99 then 1 else 0 : Int) ≠ (0 : Int) := h2
        have h2 := zif1 h2
        refine pm_blk hK zmm174 [] 4 48 [(2, 205), (0, a), (0, b), (0, c), (0, d)] [(0, 99), (0, (-99)), (0, d), (2, 205)] μ1 [] rfl trivial ?_
        refine pm_call hK zmm174 (158, 0, 129, 3) zM129 (0, 0) [(2, 205), (0, d), (0, (-99)), (0, 99)] [] rfl rfl rfl rfl ⟨by omega, by rw [zn129]; omega⟩ (zh_isIn hK ⟨by omega, by omega⟩) (fun st4 μc4 hp4 => ?_)
        obtain ⟨rfl, rfl⟩ := hp4
        refine pm_if hK zmm174 .ne 5 56 rfl rfl (fun h3 => ?_) (fun h3 => ?_)
        · have h3 : (if ((-99)) ≤ d ∧ d ≤ 99 then 1 else 0 : Int) ≠ (0 : Int) := h3
          have h3 := zif1 h3
          refine pm_blk hK zmm174 [] 5 63 [(2, 205), (0, a), (0, b), (0, c), (0, d)] [] (pm_up μ1 232 0 a) [sx_bit Wm 232 = true, 0 ≤ 0 ∧ 0 < 4] rfl ⟨hb232, ⟨by omega, by omega⟩, trivial⟩ ?_
          obtain ⟨μ2, eμ2⟩ : ∃ μ', μ' = pm_up μ1 232 0 a := ⟨_, rfl⟩
          rw [← eμ2]
          have hTμ2 : zTJ μ2 := by rw [eμ2]; exact zT_up hTμ1 zs232_0 rfl (i := 0) (by omega) (by omega) (by omega) (by omega)
          refine pm_blk hK zmm174 [] 5 70 [(2, 205), (0, a), (0, b), (0, c), (0, d)] [] (pm_up μ2 232 1 b) [sx_bit Wm 232 = true, 0 ≤ 1 ∧ 1 < 4] rfl ⟨hb232, ⟨by omega, by omega⟩, trivial⟩ ?_
          obtain ⟨μ3, eμ3⟩ : ∃ μ', μ' = pm_up μ2 232 1 b := ⟨_, rfl⟩
          rw [← eμ3]
          have hTμ3 : zTJ μ3 := by rw [eμ3]; exact zT_up hTμ2 zs232_0 rfl (i := 1) (by omega) (by omega) (by omega) (by omega)
          refine pm_blk hK zmm174 [] 5 77 [(2, 205), (0, a), (0, b), (0, c), (0, d)] [] (pm_up μ3 232 2 c) [sx_bit Wm 232 = true, 0 ≤ 2 ∧ 2 < 4] rfl ⟨hb232, ⟨by omega, by omega⟩, trivial⟩ ?_
          obtain ⟨μ4, eμ4⟩ : ∃ μ', μ' = pm_up μ3 232 2 c := ⟨_, rfl⟩
          rw [← eμ4]
          have hTμ4 : zTJ μ4 := by rw [eμ4]; exact zT_up hTμ3 zs232_0 rfl (i := 2) (by omega) (by omega) (by omega) (by omega)
          refine pm_blk hK zmm174 [] 5 85 [(2, 205), (0, a), (0, b), (0, c), (0, d)] [] (pm_up μ4 232 3 d) [sx_bit Wm 232 = true, 0 ≤ 3 ∧ 3 < 4] rfl ⟨hb232, ⟨by omega, by omega⟩, trivial⟩ ?_
          obtain ⟨μ5, eμ5⟩ : ∃ μ', μ' = pm_up μ4 232 3 d := ⟨_, rfl⟩
          rw [← eμ5]
          have hTμ5 : zTJ μ5 := by rw [eμ5]; exact zT_up hTμ4 zs232_0 rfl (i := 3) (by omega) (by omega) (by omega) (by omega)
          refine pm_blk hK zmm174 [] 1 86 [(2, 205), (0, a), (0, b), (0, c), (0, d)] [(0, 1)] μ5 [] rfl trivial ?_
          first
          | (have zn : zwt20 a b c d = 0 := zwt20_n (by omega); exact pm_zret rfl rfl (by first | exact Or.inl rfl | exact Or.inr rfl | omega) ⟨hTμ5, by rw [zn]⟩)
          | (have zn : zwt20 a b c d = 1 := zwt20_y ⟨⟨by omega, by omega⟩, ⟨by omega, by omega⟩, ⟨by omega, by omega⟩, ⟨by omega, by omega⟩⟩; exact pm_zret rfl rfl (by first | exact Or.inl rfl | exact Or.inr rfl | omega) ⟨hTμ5, by rw [zn]⟩)
        · have h3 : (if ((-99)) ≤ d ∧ d ≤ 99 then 1 else 0 : Int) = (0 : Int) := h3
          have h3 := zif0 h3
          refine pm_blk hK zmm174 [] 1 55 [(2, 205), (0, a), (0, b), (0, c), (0, d)] [(0, 0)] μ1 [] rfl trivial ?_
          first
          | (have zn : zwt20 a b c d = 0 := zwt20_n (by omega); exact pm_zret rfl rfl (by first | exact Or.inl rfl | exact Or.inr rfl | omega) ⟨hTμ1, by rw [zn]⟩)
          | (have zn : zwt20 a b c d = 1 := zwt20_y ⟨⟨by omega, by omega⟩, ⟨by omega, by omega⟩, ⟨by omega, by omega⟩, ⟨by omega, by omega⟩⟩; exact pm_zret rfl rfl (by first | exact Or.inl rfl | exact Or.inr rfl | omega) ⟨hTμ1, by rw [zn]⟩)
end ZHW
