/-! small methods of the reference; walks printed by program (wip/p30/pmgen.py) and filled by hand -/
section ZHW
variable {D : va_G} {Wm : Nat} {ST : List (String × String × String × Nat)} {b0 : sx_B} {l : Launch} {Sg : Nat → Option Nat} {bud : sx_Bu} {μ : pm_Mem} {B0 : Nat → Prop} {J : (Nat → Option Nat) → Heap → Prop}
set_option maxRecDepth 100000 in
theorem zh_lesser (hK : zKK ST) {a b : Int} (hbd : 0 ≤ bud.1 ∧ 0 ≤ bud.2.1) : zC D Wm ST b0 l Sg zM157 bud [(2, 205), (0, a), (0, b)] μ (fun st' μ' => μ = μ' ∧ st' = [(0, min a b)]) := by
  refine pm_blk hK zmm157 [] 2 2 [(2, 205), (0, a), (0, b)] [(0, b), (0, a)] μ [] rfl trivial ?_
  refine pm_icmp hK zmm157 .ge 7 9 rfl rfl (fun h0 => ?_) (fun h0 => ?_)
  · have h0 : b ≤ a := h0
    refine pm_blk hK zmm157 [] 1 10 [(2, 205), (0, a), (0, b)] [(0, b)] μ [] rfl trivial ?_
    exact pm_iret rfl rfl ⟨rfl, by rw [show min a b = b by omega]⟩
  · have h0 : a < b := h0
    refine pm_blk hK zmm157 [] 2 10 [(2, 205), (0, a), (0, b)] [(0, a)] μ [] rfl trivial ?_
    exact pm_iret rfl rfl ⟨rfl, by rw [show min a b = a by omega]⟩
set_option maxRecDepth 100000 in
theorem zh_greater (hK : zKK ST) {a b : Int} (hbd : 0 ≤ bud.1 ∧ 0 ≤ bud.2.1) : zC D Wm ST b0 l Sg zM176 bud [(2, 205), (0, a), (0, b)] μ (fun st' μ' => μ = μ' ∧ st' = [(0, max a b)]) := by
  refine pm_blk hK zmm176 [] 2 2 [(2, 205), (0, a), (0, b)] [(0, b), (0, a)] μ [] rfl trivial ?_
  refine pm_icmp hK zmm176 .le 7 9 rfl rfl (fun h0 => ?_) (fun h0 => ?_)
  · have h0 : a ≤ b := h0
    refine pm_blk hK zmm176 [] 1 10 [(2, 205), (0, a), (0, b)] [(0, b)] μ [] rfl trivial ?_
    exact pm_iret rfl rfl ⟨rfl, by rw [show max a b = b by omega]⟩
  · have h0 : b < a := h0
    refine pm_blk hK zmm176 [] 2 10 [(2, 205), (0, a), (0, b)] [(0, a)] μ [] rfl trivial ?_
    exact pm_iret rfl rfl ⟨rfl, by rw [show max a b = a by omega]⟩
set_option maxRecDepth 100000 in
theorem zh_isIn (hK : zKK ST) {v a b : Int} (hbd : 0 ≤ bud.1 ∧ 0 ≤ bud.2.1) : zC D Wm ST b0 l Sg zM129 bud [(2, 205), (0, v), (0, a), (0, b)] μ (fun st' μ' => μ = μ' ∧ st' = [(0, if a ≤ v ∧ v ≤ b then 1 else 0)]) := by
  refine pm_blk hK zmm129 [] 2 2 [(2, 205), (0, v), (0, a), (0, b)] [(0, a), (0, v)] μ [] rfl trivial ?_
  refine pm_icmp hK zmm129 .lt 12 14 rfl rfl (fun h0 => ?_) (fun h0 => ?_)
  · have h0 : v < a := h0
    refine pm_blk hK zmm129 [] 1 15 [(2, 205), (0, v), (0, a), (0, b)] [(0, 0)] μ [] rfl trivial ?_
    exact pm_zret rfl rfl (by first | exact Or.inl rfl | exact Or.inr rfl | omega) ⟨rfl, by first | rw [if_pos ⟨by omega, by omega⟩] | rw [if_neg (by omega)]⟩
  · have h0 : a ≤ v := h0
    refine pm_blk hK zmm129 [] 2 7 [(2, 205), (0, v), (0, a), (0, b)] [(0, b), (0, v)] μ [] rfl trivial ?_
    refine pm_icmp hK zmm129 .gt 7 14 rfl rfl (fun h1 => ?_) (fun h1 => ?_)
    · have h1 : b < v := h1
      refine pm_blk hK zmm129 [] 1 15 [(2, 205), (0, v), (0, a), (0, b)] [(0, 0)] μ [] rfl trivial ?_
      exact pm_zret rfl rfl (by first | exact Or.inl rfl | exact Or.inr rfl | omega) ⟨rfl, by first | rw [if_pos ⟨by omega, by omega⟩] | rw [if_neg (by omega)]⟩
    · have h1 : v ≤ b := h1
      refine pm_blk hK zmm129 [] 2 15 [(2, 205), (0, v), (0, a), (0, b)] [(0, 1)] μ [] rfl trivial ?_
      exact pm_zret rfl rfl (by first | exact Or.inl rfl | exact Or.inr rfl | omega) ⟨rfl, by first | rw [if_pos ⟨by omega, by omega⟩] | rw [if_neg (by omega)]⟩
set_option maxRecDepth 100000 in
theorem zh_held (hK : zKK ST) {v a b : Int} (hbd : 0 ≤ bud.1 ∧ 0 ≤ bud.2.1) : zC D Wm ST b0 l Sg zM307 bud [(2, 205), (0, v), (0, a), (0, b)] μ (fun st' μ' => μ = μ' ∧ st' = [(0, if v < a then a else if b < v then b else v)]) := by
  refine pm_blk hK zmm307 [] 2 2 [(2, 205), (0, v), (0, a), (0, b)] [(0, a), (0, v)] μ [] rfl trivial ?_
  refine pm_icmp hK zmm307 .ge 7 9 rfl rfl (fun h0 => ?_) (fun h0 => ?_)
  · have h0 : a ≤ v := h0
    refine pm_blk hK zmm307 [] 2 11 [(2, 205), (0, v), (0, a), (0, b)] [(0, b), (0, v)] μ [] rfl trivial ?_
    refine pm_icmp hK zmm307 .le 7 18 rfl rfl (fun h1 => ?_) (fun h1 => ?_)
    · have h1 : v ≤ b := h1
      refine pm_blk hK zmm307 [] 1 19 [(2, 205), (0, v), (0, a), (0, b)] [(0, v)] μ [] rfl trivial ?_
      exact pm_iret rfl rfl ⟨rfl, by first | rw [if_pos (by omega)] | rw [if_neg (by omega), if_pos (by omega)] | rw [if_neg (by omega), if_neg (by omega)]⟩
    · have h1 : b < v := h1
      refine pm_blk hK zmm307 [] 2 19 [(2, 205), (0, v), (0, a), (0, b)] [(0, b)] μ [] rfl trivial ?_
      exact pm_iret rfl rfl ⟨rfl, by first | rw [if_pos (by omega)] | rw [if_neg (by omega), if_pos (by omega)] | rw [if_neg (by omega), if_neg (by omega)]⟩
  · have h0 : v < a := h0
    refine pm_blk hK zmm307 [] 2 19 [(2, 205), (0, v), (0, a), (0, b)] [(0, a)] μ [] rfl trivial ?_
    exact pm_iret rfl rfl ⟨rfl, by first | rw [if_pos (by omega)] | rw [if_neg (by omega), if_pos (by omega)] | rw [if_neg (by omega), if_neg (by omega)]⟩
set_option maxRecDepth 100000 in
theorem zh_inside (hK : zKK ST) {c : Int} (hT : zTJ μ) (hc : 0 ≤ c ∧ c ≤ 17) (hbd : 0 ≤ bud.1 ∧ 0 ≤ bud.2.1) : zC D Wm ST b0 l Sg zM298 bud [(2, 205), (0, c)] μ (fun st' μ' => μ = μ' ∧ st' = [(0, μ 206 (106 + c) - 1)]) := by
  have f1 := zT_get hT zs206_106 (i := 106 + c) (by omega) (by omega)
  refine pm_blk hK zmm298 [] 8 11 [(2, 205), (0, c)] [(0, (μ 206 (106 + c)) - 1)] μ [pm_in (106 + c), 0 ≤ 106 + c ∧ 106 + c < 160, pm_in ((μ 206 (106 + c)) - 1)] rfl ⟨pm_in_mk (by omega) (by omega), ⟨by omega, by omega⟩, pm_in_mk (by omega) (by omega), trivial⟩ ?_
  exact pm_iret rfl rfl ⟨rfl, rfl⟩
set_option maxRecDepth 100000 in
theorem zh_isOpen (hK : zKK ST) {s : Int} (hT : zTJ μ) (hs : 0 ≤ s ∧ s ≤ 119) (hbd : 0 ≤ bud.1 ∧ 0 ≤ bud.2.1) : zC D Wm ST b0 l Sg zM297 bud [(2, 205), (0, s)] μ (fun st' μ' => μ = μ' ∧ st' = [(0, if μ 206 (40 + s) = 0 then 1 else 0)]) := by
  refine pm_blk hK zmm297 [] 6 9 [(2, 205), (0, s)] [(0, μ 206 (40 + s))] μ [pm_in (40 + s), 0 ≤ 40 + s ∧ 40 + s < 160] rfl ⟨pm_in_mk (by omega) (by omega), ⟨by omega, by omega⟩, trivial⟩ ?_
  refine pm_if hK zmm297 .ne 7 16 rfl rfl (fun h0 => ?_) (fun h0 => ?_)
  · have h0 : μ 206 (40 + s) ≠ (0 : Int) := h0
    refine pm_blk hK zmm297 [] 1 17 [(2, 205), (0, s)] [(0, 0)] μ [] rfl trivial ?_
    exact pm_zret rfl rfl (by first | exact Or.inl rfl | exact Or.inr rfl | omega) ⟨rfl, by first | rw [if_pos (by omega)] | rw [if_neg (by omega)]⟩
  · have h0 : μ 206 (40 + s) = (0 : Int) := h0
    refine pm_blk hK zmm297 [] 2 17 [(2, 205), (0, s)] [(0, 1)] μ [] rfl trivial ?_
    exact pm_zret rfl rfl (by first | exact Or.inl rfl | exact Or.inr rfl | omega) ⟨rfl, by first | rw [if_pos (by omega)] | rw [if_neg (by omega)]⟩
set_option maxRecDepth 100000 in
theorem zh_hasThing (hK : zKK ST) {c s : Int} (hT : zTJ μ) (hc : 0 ≤ c ∧ c ≤ 17) (hs : 0 ≤ s ∧ s ≤ 11) (hp : 1 ≤ μ 206 (4 + s)) (hb206 : sx_bit Wm 206 = true) (hbd : 0 ≤ bud.1 ∧ 0 ≤ bud.2.1) : zC D Wm ST b0 l Sg zM309 bud [(2, 205), (0, c), (0, s)] μ (fun st' μ' => st' = [] ∧ zTJ μ') := by
  have f1 := zT_get hT zs206_4 (i := 4 + s) (by omega) (by omega)
  refine pm_blk hK zmm309 [38] 14 18 [(2, 205), (0, c), (0, s)] [] (pm_up μ 206 (4 + s) ((μ 206 (4 + s)) - 1)) [pm_in (4 + s), pm_in (4 + s), 0 ≤ 4 + s ∧ 4 + s < 160, pm_in ((μ 206 (4 + s)) - 1), sx_bit Wm 206 = true, 0 ≤ 4 + s ∧ 4 + s < 160] rfl ⟨pm_in_mk (by omega) (by omega), pm_in_mk (by omega) (by omega), ⟨by omega, by omega⟩, pm_in_mk (by omega) (by omega), hb206, ⟨by omega, by omega⟩, trivial⟩ ?_
  obtain ⟨μ1, eμ1⟩ : ∃ μ', μ' = pm_up μ 206 (4 + s) ((μ 206 (4 + s)) - 1) := ⟨_, rfl⟩
  rw [← eμ1]
  have hTμ1 : zTJ μ1 := by rw [eμ1]; exact zT_up hT zs206_4 rfl (i := 4 + s) (by omega) (by omega) (by omega) (by omega)
  have f2 := zT_get hTμ1 zs206_124 (i := 142 + c) (by omega) (by omega)
  refine pm_blk hK zmm309 [38] 12 38 [(2, 205), (0, c), (0, s)] [(0, 1), (0, μ1 206 (142 + c)), (0, 142 + c), (2, 206)] μ1 [pm_in (142 + c), pm_in (142 + c), 0 ≤ 142 + c ∧ 142 + c < 160] rfl ⟨pm_in_mk (by omega) (by omega), pm_in_mk (by omega) (by omega), ⟨by omega, by omega⟩, trivial⟩ ?_
  have w1 := zw32 ((μ1 206 (142 + c)) + 1)
  have w3 := zw32 ((μ1 206 (142 + c)) + 1)
  refine pm_blk hK zmm309 [38] 2 40 [(2, 205), (0, c), (0, s)] [] (pm_up μ1 206 (142 + c) (pm_w32 ((μ1 206 (142 + c)) + 1))) [sx_bit Wm 206 = true, 0 ≤ 142 + c ∧ 142 + c < 160] rfl ⟨hb206, ⟨by omega, by omega⟩, trivial⟩ ?_
  obtain ⟨μ2, eμ2⟩ : ∃ μ', μ' = pm_up μ1 206 (142 + c) (pm_w32 ((μ1 206 (142 + c)) + 1)) := ⟨_, rfl⟩
  rw [← eμ2]
  have hTμ2 : zTJ μ2 := by rw [eμ2]; exact zT_up hTμ1 zs206_124 rfl (i := 142 + c) (by omega) (by omega) (by omega) (by omega)
  have f4 := zT_get hTμ2 zs206_52 (i := 52 + s) (by omega) (by omega)
  refine pm_blk hK zmm309 [38] 9 52 [(2, 205), (0, c), (0, s)] [(0, c + 1), (0, μ2 206 (52 + s))] μ2 [pm_in (52 + s), 0 ≤ 52 + s ∧ 52 + s < 160, pm_in (c + 1)] rfl ⟨pm_in_mk (by omega) (by omega), ⟨by omega, by omega⟩, pm_in_mk (by omega) (by omega), trivial⟩ ?_
  refine pm_icmp hK zmm309 .eq 33 85 rfl rfl (fun h0 => ?_) (fun h0 => ?_)
  · have h0 : μ2 206 (52 + s) = c + 1 := h0
    exact pm_vret rfl rfl ⟨rfl, hTμ2⟩
  · have h0 : μ2 206 (52 + s) ≠ c + 1 := h0
    refine pm_blk hK zmm309 [38] 12 73 [(2, 205), (0, c), (0, s)] [] (pm_up μ2 206 (64 + s) (μ2 206 (52 + s))) [pm_in (64 + s), pm_in (52 + s), 0 ≤ 52 + s ∧ 52 + s < 160, sx_bit Wm 206 = true, 0 ≤ 64 + s ∧ 64 + s < 160] rfl ⟨pm_in_mk (by omega) (by omega), pm_in_mk (by omega) (by omega), ⟨by omega, by omega⟩, hb206, ⟨by omega, by omega⟩, trivial⟩ ?_
    obtain ⟨μ3, eμ3⟩ : ∃ μ', μ' = pm_up μ2 206 (64 + s) (μ2 206 (52 + s)) := ⟨_, rfl⟩
    rw [← eμ3]
    have hTμ3 : zTJ μ3 := by rw [eμ3]; exact zT_up hTμ2 zs206_52 rfl (i := 64 + s) (by omega) (by omega) (by omega) (by omega)
    refine pm_blk hK zmm309 [38] 9 85 [(2, 205), (0, c), (0, s)] [] (pm_up μ3 206 (52 + s) (c + 1)) [pm_in (52 + s), pm_in (c + 1), sx_bit Wm 206 = true, 0 ≤ 52 + s ∧ 52 + s < 160] rfl ⟨pm_in_mk (by omega) (by omega), pm_in_mk (by omega) (by omega), hb206, ⟨by omega, by omega⟩, trivial⟩ ?_
    obtain ⟨μ4, eμ4⟩ : ∃ μ', μ' = pm_up μ3 206 (52 + s) (c + 1) := ⟨_, rfl⟩
    rw [← eμ4]
    have hTμ4 : zTJ μ4 := by rw [eμ4]; exact zT_up hTμ3 zs206_52 rfl (i := 52 + s) (by omega) (by omega) (by omega) (by omega)
    exact pm_vret rfl rfl ⟨rfl, hTμ4⟩
set_option maxRecDepth 100000 in
theorem zh_notes (hK : zKK ST) {k w n : Int} (hT : zTJ μ) (hk : 0 ≤ k ∧ k ≤ 4) (hw : 0 ≤ w ∧ w ≤ 17) (hn : pm_in n) (hb206 : sx_bit Wm 206 = true) (hb210 : sx_bit Wm 210 = true) (hbd : 0 ≤ bud.1 ∧ 0 ≤ bud.2.1) : zC D Wm ST b0 l Sg zM310 bud [(2, 205), (0, k), (0, w), (0, n)] μ (fun st' μ' => st' = [] ∧ zTJ μ') := by
  have f1 := zT_get hT zs205_5 (i := 5) (by omega) (by omega)
  refine pm_blk hK zmm310 [] 2 4 [(2, 205), (0, k), (0, w), (0, n), (9, 0)] [(0, μ 205 5)] μ [] rfl trivial ?_
  refine pm_if hK zmm310 .ne 15 19 rfl rfl (fun h0 => ?_) (fun h0 => ?_)
  · have h0 : μ 205 5 ≠ (0 : Int) := h0
    exact pm_vret rfl rfl ⟨rfl, hT⟩
  · have h0 : μ 205 5 = (0 : Int) := h0
    have f2 := zT_get hT zs206_3 (i := 3) (by omega) (by omega)
    refine pm_blk hK zmm310 [] 5 16 [(2, 205), (0, k), (0, w), (0, n), (9, 0)] [(0, 150), (0, μ 206 3)] μ [0 ≤ 3 ∧ 3 < 160] rfl ⟨⟨by omega, by omega⟩, trivial⟩ ?_
    refine pm_icmp hK zmm310 .ne 4 20 rfl rfl (fun h1 => ?_) (fun h1 => ?_)
    · have h1 : μ 206 3 ≠ (150 : Int) := h1
      have hn : -2147483648 ≤ n ∧ n ≤ 2147483647 := hn
      have f3 := zT_get hT zs206_0 (i := 0) (by omega) (by omega)
      refine pm_blk hK zmm310 [] 15 43 [(2, 205), (0, k), (0, w), (0, n), (0, 5 * (μ 206 3))] [] (pm_up μ 210 (5 * (μ 206 3)) (μ 206 0)) [0 ≤ 3 ∧ 3 < 160, pm_in (5 * (μ 206 3)), 0 ≤ 0 ∧ 0 < 160, sx_bit Wm 210 = true, 0 ≤ 5 * (μ 206 3) ∧ 5 * (μ 206 3) < 750] rfl ⟨⟨by omega, by omega⟩, pm_in_mk (by omega) (by omega), ⟨by omega, by omega⟩, hb210, ⟨by omega, by omega⟩, trivial⟩ ?_
      obtain ⟨μ1, eμ1⟩ : ∃ μ', μ' = pm_up μ 210 (5 * (μ 206 3)) (μ 206 0) := ⟨_, rfl⟩
      rw [← eμ1]
      have hTμ1 : zTJ μ1 := by rw [eμ1]; exact zT_upp hT zp210_0 rfl (i := 5 * (μ 206 3)) (z := μ 206 3) (by omega) (by omega) (by omega) (by omega) (by omega)
      have g4 : μ1 206 1 = μ 206 1 := by rw [eμ1, pm_up_off (by decide)]
      have f5 := zT_get hTμ1 zs206_1 (i := 1) (by omega) (by omega)
      refine pm_blk hK zmm310 [] 10 58 [(2, 205), (0, k), (0, w), (0, n), (0, 5 * (μ 206 3))] [] (pm_up μ1 210 ((5 * (μ 206 3)) + 1) (μ1 206 1)) [pm_in ((5 * (μ 206 3)) + 1), 0 ≤ 1 ∧ 1 < 160, sx_bit Wm 210 = true, 0 ≤ (5 * (μ 206 3)) + 1 ∧ (5 * (μ 206 3)) + 1 < 750] rfl ⟨pm_in_mk (by omega) (by omega), ⟨by omega, by omega⟩, hb210, ⟨by omega, by omega⟩, trivial⟩ ?_
      obtain ⟨μ2, eμ2⟩ : ∃ μ', μ' = pm_up μ1 210 ((5 * (μ 206 3)) + 1) (μ1 206 1) := ⟨_, rfl⟩
      rw [← eμ2]
      have hTμ2 : zTJ μ2 := by rw [eμ2]; exact zT_upp hTμ1 zp210_1 rfl (i := (5 * (μ 206 3)) + 1) (z := μ 206 3) (by omega) (by omega) (by omega) (by omega) (by omega)
      refine pm_blk hK zmm310 [] 7 68 [(2, 205), (0, k), (0, w), (0, n), (0, 5 * (μ 206 3))] [] (pm_up μ2 210 ((5 * (μ 206 3)) + 2) k) [pm_in ((5 * (μ 206 3)) + 2), sx_bit Wm 210 = true, 0 ≤ (5 * (μ 206 3)) + 2 ∧ (5 * (μ 206 3)) + 2 < 750] rfl ⟨pm_in_mk (by omega) (by omega), hb210, ⟨by omega, by omega⟩, trivial⟩ ?_
      obtain ⟨μ3, eμ3⟩ : ∃ μ', μ' = pm_up μ2 210 ((5 * (μ 206 3)) + 2) k := ⟨_, rfl⟩
      rw [← eμ3]
      have hTμ3 : zTJ μ3 := by rw [eμ3]; exact zT_upp hTμ2 zp210_2 rfl (i := (5 * (μ 206 3)) + 2) (z := μ 206 3) (by omega) (by omega) (by omega) (by omega) (by omega)
      refine pm_blk hK zmm310 [] 7 78 [(2, 205), (0, k), (0, w), (0, n), (0, 5 * (μ 206 3))] [] (pm_up μ3 210 ((5 * (μ 206 3)) + 3) w) [pm_in ((5 * (μ 206 3)) + 3), sx_bit Wm 210 = true, 0 ≤ (5 * (μ 206 3)) + 3 ∧ (5 * (μ 206 3)) + 3 < 750] rfl ⟨pm_in_mk (by omega) (by omega), hb210, ⟨by omega, by omega⟩, trivial⟩ ?_
      obtain ⟨μ4, eμ4⟩ : ∃ μ', μ' = pm_up μ3 210 ((5 * (μ 206 3)) + 3) w := ⟨_, rfl⟩
      rw [← eμ4]
      have hTμ4 : zTJ μ4 := by rw [eμ4]; exact zT_upp hTμ3 zp210_3 rfl (i := (5 * (μ 206 3)) + 3) (z := μ 206 3) (by omega) (by omega) (by omega) (by omega) (by omega)
      refine pm_blk hK zmm310 [] 7 88 [(2, 205), (0, k), (0, w), (0, n), (0, 5 * (μ 206 3))] [] (pm_up μ4 210 ((5 * (μ 206 3)) + 4) n) [pm_in ((5 * (μ 206 3)) + 4), sx_bit Wm 210 = true, 0 ≤ (5 * (μ 206 3)) + 4 ∧ (5 * (μ 206 3)) + 4 < 750] rfl ⟨pm_in_mk (by omega) (by omega), hb210, ⟨by omega, by omega⟩, trivial⟩ ?_
      obtain ⟨μ5, eμ5⟩ : ∃ μ', μ' = pm_up μ4 210 ((5 * (μ 206 3)) + 4) n := ⟨_, rfl⟩
      rw [← eμ5]
      have hTμ5 : zTJ μ5 := by rw [eμ5]; exact zT_upp hTμ4 zp210_4 rfl (i := (5 * (μ 206 3)) + 4) (z := μ 206 3) (by omega) (by omega) (by omega) (by omega) (by omega)
      have g6 : μ5 206 3 = μ 206 3 := by rw [eμ5, pm_up_off (by decide), eμ4, pm_up_off (by decide), eμ3, pm_up_off (by decide), eμ2, pm_up_off (by decide), eμ1, pm_up_off (by decide)]
      have f7 := zT_get hTμ5 zs206_3 (i := 3) (by omega) (by omega)
      refine pm_blk hK zmm310 [] 10 102 [(2, 205), (0, k), (0, w), (0, n), (0, 5 * (μ 206 3))] [] (pm_up μ5 206 3 ((μ5 206 3) + 1)) [0 ≤ 3 ∧ 3 < 160, pm_in ((μ5 206 3) + 1), sx_bit Wm 206 = true, 0 ≤ 3 ∧ 3 < 160] rfl ⟨⟨by omega, by omega⟩, pm_in_mk (by omega) (by omega), hb206, ⟨by omega, by omega⟩, trivial⟩ ?_
      obtain ⟨μ6, eμ6⟩ : ∃ μ', μ' = pm_up μ5 206 3 ((μ5 206 3) + 1) := ⟨_, rfl⟩
      rw [← eμ6]
      have hTμ6 : zTJ μ6 := by rw [eμ6]; exact zT_up hTμ5 zs206_3 rfl (i := 3) (by omega) (by omega) (by omega) (by omega)
      exact pm_vret rfl rfl ⟨rfl, hTμ6⟩
    · have h1 : μ 206 3 = (150 : Int) := h1
      exact pm_vret rfl rfl ⟨rfl, hT⟩
end ZHW
