/-! counts: what is sold; walks printed by program (wip/p30/pmgen.py) and filled by hand -/
section ZHW
variable {φ : Option pm_Mem}
variable {D : va_G} {Wm : Nat} {ST : List (String × String × String × Nat)} {b0 : sx_B} {l : Launch} {Sg : Nat → Option Nat} {bud : sx_Bu} {μ : pm_Mem} {B0 : Nat → Prop} {J : (Nat → Option Nat) → Heap → Prop}
set_option maxRecDepth 100000 in
theorem zh_isSh3 (hK : zKK ST) {s : Int} (hbd : 0 ≤ bud.1 ∧ 0 ≤ bud.2.1) : zC D Wm ST b0 l Sg zM22 bud [(2, 3), (0, s)] μ (fun st' μ' => μ = μ' ∧ st' = [(0, if 0 ≤ s ∧ s < μ 3 0 then 1 else 0)]) := by
  refine pm_blk hK zmm22 [] 1 1 [(2, 3), (0, s)] [(0, s)] μ [] rfl trivial ?_
  refine pm_if hK zmm22 .lt 15 16 rfl rfl (fun h0 => ?_) (fun h0 => ?_)
  · have h0 : s < (0 : Int) := h0
    refine pm_blk hK zmm22 [] 1 17 [(2, 3), (0, s)] [(0, 0)] μ [] rfl trivial ?_
    exact pm_zret rfl rfl (by first | exact Or.inl rfl | exact Or.inr rfl | omega) ⟨rfl, by first | rw [if_pos (by omega)] | rw [if_neg (by omega)]⟩
  · have h0 : (0 : Int) ≤ s := h0
    refine pm_blk hK zmm22 [] 3 9 [(2, 3), (0, s)] [(0, μ 3 0), (0, s)] μ [] rfl trivial ?_
    refine pm_icmp hK zmm22 .ge 7 16 rfl rfl (fun h1 => ?_) (fun h1 => ?_)
    · have h1 : μ 3 0 ≤ s := h1
      refine pm_blk hK zmm22 [] 1 17 [(2, 3), (0, s)] [(0, 0)] μ [] rfl trivial ?_
      exact pm_zret rfl rfl (by first | exact Or.inl rfl | exact Or.inr rfl | omega) ⟨rfl, by first | rw [if_pos (by omega)] | rw [if_neg (by omega)]⟩
    · have h1 : s < μ 3 0 := h1
      refine pm_blk hK zmm22 [] 2 17 [(2, 3), (0, s)] [(0, 1)] μ [] rfl trivial ?_
      exact pm_zret rfl rfl (by first | exact Or.inl rfl | exact Or.inr rfl | omega) ⟨rfl, by first | rw [if_pos (by omega)] | rw [if_neg (by omega)]⟩
set_option maxRecDepth 100000 in
theorem zh_isCu3 (hK : zKK ST) {s : Int} (hbd : 0 ≤ bud.1 ∧ 0 ≤ bud.2.1) : zC D Wm ST b0 l Sg zM23 bud [(2, 3), (0, s)] μ (fun st' μ' => μ = μ' ∧ st' = [(0, if 0 ≤ s ∧ s < μ 3 1 then 1 else 0)]) := by
  refine pm_blk hK zmm23 [] 1 1 [(2, 3), (0, s)] [(0, s)] μ [] rfl trivial ?_
  refine pm_if hK zmm23 .lt 15 16 rfl rfl (fun h0 => ?_) (fun h0 => ?_)
  · have h0 : s < (0 : Int) := h0
    refine pm_blk hK zmm23 [] 1 17 [(2, 3), (0, s)] [(0, 0)] μ [] rfl trivial ?_
    exact pm_zret rfl rfl (by first | exact Or.inl rfl | exact Or.inr rfl | omega) ⟨rfl, by first | rw [if_pos (by omega)] | rw [if_neg (by omega)]⟩
  · have h0 : (0 : Int) ≤ s := h0
    refine pm_blk hK zmm23 [] 3 9 [(2, 3), (0, s)] [(0, μ 3 1), (0, s)] μ [] rfl trivial ?_
    refine pm_icmp hK zmm23 .ge 7 16 rfl rfl (fun h1 => ?_) (fun h1 => ?_)
    · have h1 : μ 3 1 ≤ s := h1
      refine pm_blk hK zmm23 [] 1 17 [(2, 3), (0, s)] [(0, 0)] μ [] rfl trivial ?_
      exact pm_zret rfl rfl (by first | exact Or.inl rfl | exact Or.inr rfl | omega) ⟨rfl, by first | rw [if_pos (by omega)] | rw [if_neg (by omega)]⟩
    · have h1 : s < μ 3 1 := h1
      refine pm_blk hK zmm23 [] 2 17 [(2, 3), (0, s)] [(0, 1)] μ [] rfl trivial ?_
      exact pm_zret rfl rfl (by first | exact Or.inl rfl | exact Or.inr rfl | omega) ⟨rfl, by first | rw [if_pos (by omega)] | rw [if_neg (by omega)]⟩
set_option maxRecDepth 100000 in
theorem zh_isOp3 (hK : zKK ST) {s : Int} (hT : zTJ φ μ) (hbd : 1 ≤ bud.1 ∧ 21 ≤ bud.2.1) : zC D Wm ST b0 l Sg zM26 bud [(2, 3), (0, s)] μ (fun st' μ' => μ = μ' ∧ st' = [(0, if (0 ≤ s ∧ s < μ 3 0) ∧ μ 7 s = 1 then 1 else 0)]) := by
  have f30 := zT_get hT zs3_0 (i := 0) (by omega) (by omega)
  refine pm_blk hK zmm26 [] 2 2 [(2, 3), (0, s)] [(0, s), (2, 3)] μ [] rfl trivial ?_
  refine pm_call hK zmm26 (72, 0, 22, 1) zM22 (0, 0) [(2, 3), (0, s)] [] rfl rfl rfl rfl ⟨by omega, by rw [zn22]; omega⟩ (zh_isSh3 hK ⟨Nat.le_refl _, Nat.le_refl _⟩) (fun st1 μc1 hp1 => ?_)
  obtain ⟨rfl, rfl⟩ := hp1
  refine pm_if hK zmm26 .eq 17 22 rfl rfl (fun h0 => ?_) (fun h0 => ?_)
  · have h0 : (if 0 ≤ s ∧ s < μ 3 0 then 1 else 0 : Int) = (0 : Int) := h0
    have h0 := zif0 h0
    refine pm_blk hK zmm26 [] 1 23 [(2, 3), (0, s)] [(0, 0)] μ [] rfl trivial ?_
    exact pm_zret rfl rfl (by first | exact Or.inl rfl | exact Or.inr rfl | omega) ⟨rfl, by first | rw [if_pos (by omega)] | rw [if_neg (by omega)]⟩
  · have h0 : (if 0 ≤ s ∧ s < μ 3 0 then 1 else 0 : Int) ≠ (0 : Int) := h0
    have h0 := zif1 h0
    have f1 := zT_get hT zs7_0 (i := s) (by omega) (by omega)
    refine pm_blk hK zmm26 [] 5 15 [(2, 3), (0, s)] [(0, 1), (0, μ 7 s)] μ [0 ≤ s ∧ s < 12] rfl ⟨⟨by omega, by omega⟩, trivial⟩ ?_
    refine pm_icmp hK zmm26 .ne 7 22 rfl rfl (fun h1 => ?_) (fun h1 => ?_)
    · have h1 : μ 7 s ≠ (1 : Int) := h1
      refine pm_blk hK zmm26 [] 1 23 [(2, 3), (0, s)] [(0, 0)] μ [] rfl trivial ?_
      exact pm_zret rfl rfl (by first | exact Or.inl rfl | exact Or.inr rfl | omega) ⟨rfl, by first | rw [if_pos (by omega)] | rw [if_neg (by omega)]⟩
    · have h1 : μ 7 s = (1 : Int) := h1
      refine pm_blk hK zmm26 [] 2 23 [(2, 3), (0, s)] [(0, 1)] μ [] rfl trivial ?_
      exact pm_zret rfl rfl (by first | exact Or.inl rfl | exact Or.inr rfl | omega) ⟨rfl, by first | rw [if_pos (by omega)] | rw [if_neg (by omega)]⟩
set_option maxRecDepth 100000 in
theorem zh_bl3 (hK : zKK ST) {a s : Int} (hT : zTJ φ μ) (ha : 0 ≤ a ∧ a ≤ 17) (hs : 0 ≤ s ∧ s ≤ 11) (hb8 : sx_bit Wm 8 = true) (hb9 : sx_bit Wm 9 = true) (hbd : 0 ≤ bud.1 ∧ 0 ≤ bud.2.1) : zC D Wm ST b0 l Sg zM225 bud [(2, 3), (0, a), (0, s)] μ (fun st' μ' => st' = [] ∧ zTJ φ μ' ∧ zKC μ μ') := by
  have hA : zKC μ μ := zKC_refl
  have f1 := zT_get hT zs8_0 (i := s) (by omega) (by omega)
  refine pm_blk hK zmm225 [] 5 7 [(2, 3), (0, a), (0, s)] [(0, a), (0, μ 8 s)] μ [0 ≤ s ∧ s < 12] rfl ⟨⟨by omega, by omega⟩, trivial⟩ ?_
  refine pm_icmp hK zmm225 .eq 15 22 rfl rfl (fun h0 => ?_) (fun h0 => ?_)
  · have h0 : μ 8 s = a := h0
    refine pm_blk hK zmm225 [] 5 29 [(2, 3), (0, a), (0, s)] [] (pm_up μ 8 s a) [sx_bit Wm 8 = true, 0 ≤ s ∧ s < 12] rfl ⟨hb8, ⟨by omega, by omega⟩, trivial⟩ ?_
    obtain ⟨μ1, eμ1⟩ : ∃ μ', μ' = pm_up μ 8 s a := ⟨_, rfl⟩
    rw [← eμ1]
    have hTμ1 : zTJ φ μ1 := by rw [eμ1]; exact zT_up hT zs8_0 rfl (i := s) (by omega) (by omega) (by omega) (by omega)
    have hA : zKC μ μ1 := by rw [eμ1]; exact zKC_up hA (by decide)
    exact pm_vret rfl rfl ⟨rfl, hTμ1, hA⟩
  · have h0 : μ 8 s ≠ a := h0
    refine pm_blk hK zmm225 [] 8 22 [(2, 3), (0, a), (0, s)] [] (pm_up μ 9 s (μ 8 s)) [0 ≤ s ∧ s < 12, sx_bit Wm 9 = true, 0 ≤ s ∧ s < 12] rfl ⟨⟨by omega, by omega⟩, hb9, ⟨by omega, by omega⟩, trivial⟩ ?_
    obtain ⟨μ2, eμ2⟩ : ∃ μ', μ' = pm_up μ 9 s (μ 8 s) := ⟨_, rfl⟩
    rw [← eμ2]
    have hTμ2 : zTJ φ μ2 := by rw [eμ2]; exact zT_up hT zs9_0 rfl (i := s) (by omega) (by omega) (by omega) (by omega)
    first
    | (have hA : zKC μ μ2 := by rw [eμ2]; exact zKC_up hA (by decide))
    | skip
    refine pm_blk hK zmm225 [] 5 29 [(2, 3), (0, a), (0, s)] [] (pm_up μ2 8 s a) [sx_bit Wm 8 = true, 0 ≤ s ∧ s < 12] rfl ⟨hb8, ⟨by omega, by omega⟩, trivial⟩ ?_
    obtain ⟨μ3, eμ3⟩ : ∃ μ', μ' = pm_up μ2 8 s a := ⟨_, rfl⟩
    rw [← eμ3]
    have hTμ3 : zTJ φ μ3 := by rw [eμ3]; exact zT_up hTμ2 zs8_0 rfl (i := s) (by omega) (by omega) (by omega) (by omega)
    have hA : zKC μ μ3 := by rw [eμ3]; exact zKC_up hA (by decide)
    exact pm_vret rfl rfl ⟨rfl, hTμ3, hA⟩
set_option maxRecDepth 100000 in
theorem zh_wr2 (hK : zKK ST) {k w v : Int} (hT : zTJ φ μ) (hk : pm_in k) (hww : pm_in w) (hv : pm_in v) (hb2 : sx_bit Wm 2 = true) (hb16 : sx_bit Wm 16 = true) (hbd : 1 ≤ bud.1 ∧ 25 ≤ bud.2.1) : zC D Wm ST b0 l Sg zM227 bud [(2, 2), (0, k), (0, w), (0, v)] μ (fun st' μ' => st' = [] ∧ zTJ φ μ' ∧ zKC μ μ') := by
  have hA : zKC μ μ := zKC_refl
  unfold pm_in at hk hww hv
  have f1 := zT_get hT zs2_2 (i := 2) (by omega) (by omega)
  refine pm_blk hK zmm227 [] 4 8 [(2, 2), (0, k), (0, w), (0, v), (9, 0)] [(0, 149), (0, 0), (0, μ 2 2)] μ [] rfl trivial ?_
  refine pm_call hK zmm227 (72, 1, 16, 3) zM16 (0, 0) [(0, μ 2 2), (0, 0), (0, 149)] [] rfl rfl rfl rfl ⟨by omega, by rw [zn16]; omega⟩ (zh_within hK ⟨Nat.le_refl _, Nat.le_refl _⟩) (fun st1 μc1 hp1 => ?_)
  obtain ⟨rfl, rfl⟩ := hp1
  refine pm_if hK zmm227 .ne 4 15 rfl rfl (fun h0 => ?_) (fun h0 => ?_)
  · have h0 : (if 0 ≤ (μ 2 2) ∧ (μ 2 2) ≤ 149 then 1 else 0 : Int) ≠ (0 : Int) := h0
    have h0 := zif1 h0
    have f2 := zT_get hT zs3_3 (i := 3) (by omega) (by omega)
    refine pm_blk hK zmm227 [] 12 37 [(2, 2), (0, k), (0, w), (0, v), (0, (μ 2 2) * 5)] [] (pm_up μ 16 ((μ 2 2) * 5) (μ 3 3)) [pm_in ((μ 2 2) * 5), sx_bit Wm 16 = true, 0 ≤ (μ 2 2) * 5 ∧ (μ 2 2) * 5 < 750] rfl ⟨pm_in_mk (by omega) (by omega), hb16, ⟨by omega, by omega⟩, trivial⟩ ?_
    obtain ⟨μ1, eμ1⟩ : ∃ μ', μ' = pm_up μ 16 ((μ 2 2) * 5) (μ 3 3) := ⟨_, rfl⟩
    rw [← eμ1]
    have hTμ1 : zTJ φ μ1 := by rw [eμ1]; exact zT_up hT zs16_0 rfl (i := (μ 2 2) * 5) (by omega) (by omega) (by omega) (by omega)
    have hA : zKC μ μ1 := by rw [eμ1]; exact zKC_up hA (by decide)
    have g3 : μ1 3 2 = μ 3 2 := by rw [eμ1, pm_up_off (by decide)]
    have f4 := zT_get hTμ1 zs3_2 (i := 2) (by omega) (by omega)
    refine pm_blk hK zmm227 [] 9 53 [(2, 2), (0, k), (0, w), (0, v), (0, (μ 2 2) * 5)] [] (pm_up μ1 16 (((μ 2 2) * 5) + 1) (μ1 3 2)) [pm_in (((μ 2 2) * 5) + 1), sx_bit Wm 16 = true, 0 ≤ ((μ 2 2) * 5) + 1 ∧ ((μ 2 2) * 5) + 1 < 750] rfl ⟨pm_in_mk (by omega) (by omega), hb16, ⟨by omega, by omega⟩, trivial⟩ ?_
    obtain ⟨μ2, eμ2⟩ : ∃ μ', μ' = pm_up μ1 16 (((μ 2 2) * 5) + 1) (μ1 3 2) := ⟨_, rfl⟩
    rw [← eμ2]
    have hTμ2 : zTJ φ μ2 := by rw [eμ2]; exact zT_up hTμ1 zs16_0 rfl (i := ((μ 2 2) * 5) + 1) (by omega) (by omega) (by omega) (by omega)
    have hA : zKC μ μ2 := by rw [eμ2]; exact zKC_up hA (by decide)
    refine pm_blk hK zmm227 [] 7 63 [(2, 2), (0, k), (0, w), (0, v), (0, (μ 2 2) * 5)] [] (pm_up μ2 16 (((μ 2 2) * 5) + 2) k) [pm_in (((μ 2 2) * 5) + 2), sx_bit Wm 16 = true, 0 ≤ ((μ 2 2) * 5) + 2 ∧ ((μ 2 2) * 5) + 2 < 750] rfl ⟨pm_in_mk (by omega) (by omega), hb16, ⟨by omega, by omega⟩, trivial⟩ ?_
    obtain ⟨μ3, eμ3⟩ : ∃ μ', μ' = pm_up μ2 16 (((μ 2 2) * 5) + 2) k := ⟨_, rfl⟩
    rw [← eμ3]
    have hTμ3 : zTJ φ μ3 := by rw [eμ3]; exact zT_up hTμ2 zs16_0 rfl (i := ((μ 2 2) * 5) + 2) (by omega) (by omega) (by omega) (by omega)
    have hA : zKC μ μ3 := by rw [eμ3]; exact zKC_up hA (by decide)
    refine pm_blk hK zmm227 [] 7 73 [(2, 2), (0, k), (0, w), (0, v), (0, (μ 2 2) * 5)] [] (pm_up μ3 16 (((μ 2 2) * 5) + 3) w) [pm_in (((μ 2 2) * 5) + 3), sx_bit Wm 16 = true, 0 ≤ ((μ 2 2) * 5) + 3 ∧ ((μ 2 2) * 5) + 3 < 750] rfl ⟨pm_in_mk (by omega) (by omega), hb16, ⟨by omega, by omega⟩, trivial⟩ ?_
    obtain ⟨μ4, eμ4⟩ : ∃ μ', μ' = pm_up μ3 16 (((μ 2 2) * 5) + 3) w := ⟨_, rfl⟩
    rw [← eμ4]
    have hTμ4 : zTJ φ μ4 := by rw [eμ4]; exact zT_up hTμ3 zs16_0 rfl (i := ((μ 2 2) * 5) + 3) (by omega) (by omega) (by omega) (by omega)
    have hA : zKC μ μ4 := by rw [eμ4]; exact zKC_up hA (by decide)
    refine pm_blk hK zmm227 [] 7 83 [(2, 2), (0, k), (0, w), (0, v), (0, (μ 2 2) * 5)] [] (pm_up μ4 16 (((μ 2 2) * 5) + 4) v) [pm_in (((μ 2 2) * 5) + 4), sx_bit Wm 16 = true, 0 ≤ ((μ 2 2) * 5) + 4 ∧ ((μ 2 2) * 5) + 4 < 750] rfl ⟨pm_in_mk (by omega) (by omega), hb16, ⟨by omega, by omega⟩, trivial⟩ ?_
    obtain ⟨μ5, eμ5⟩ : ∃ μ', μ' = pm_up μ4 16 (((μ 2 2) * 5) + 4) v := ⟨_, rfl⟩
    rw [← eμ5]
    have hTμ5 : zTJ φ μ5 := by rw [eμ5]; exact zT_up hTμ4 zs16_0 rfl (i := ((μ 2 2) * 5) + 4) (by omega) (by omega) (by omega) (by omega)
    have hA : zKC μ μ5 := by rw [eμ5]; exact zKC_up hA (by decide)
    have g5 : μ5 2 2 = μ 2 2 := by rw [eμ5, pm_up_off (by decide), eμ4, pm_up_off (by decide), eμ3, pm_up_off (by decide), eμ2, pm_up_off (by decide), eμ1, pm_up_off (by decide)]
    have f6 := zT_get hTμ5 zs2_2 (i := 2) (by omega) (by omega)
    refine pm_blk hK zmm227 [] 6 93 [(2, 2), (0, k), (0, w), (0, v), (0, (μ 2 2) * 5)] [] (pm_up μ5 2 2 ((μ5 2 2) + 1)) [pm_in ((μ5 2 2) + 1), sx_bit Wm 2 = true] rfl ⟨pm_in_mk (by omega) (by omega), hb2, trivial⟩ ?_
    obtain ⟨μ6, eμ6⟩ : ∃ μ', μ' = pm_up μ5 2 2 ((μ5 2 2) + 1) := ⟨_, rfl⟩
    rw [← eμ6]
    have hTμ6 : zTJ φ μ6 := by rw [eμ6]; exact zT_up hTμ5 zs2_2 rfl (i := 2) (by omega) (by omega) (by omega) (by omega)
    have hA : zKC μ μ6 := by rw [eμ6]; exact zKC_upk (k := 2) hA rfl (by decide)
    exact pm_vret rfl rfl ⟨rfl, hTμ6, hA⟩
  · have h0 : (if 0 ≤ (μ 2 2) ∧ (μ 2 2) ≤ 149 then 1 else 0 : Int) = (0 : Int) := h0
    have h0 := zif0 h0
    exact pm_vret rfl rfl ⟨rfl, hT, hA⟩
set_option maxRecDepth 100000 in
theorem zh_nt180 (hK : zKK ST) {k w v : Int} (hT : zTJ φ μ) (hk : pm_in k) (hww : pm_in w) (hv : pm_in v) (hb2 : sx_bit Wm 2 = true) (hb16 : sx_bit Wm 16 = true) (hbd : 2 ≤ bud.1 ∧ 50 ≤ bud.2.1) : zC D Wm ST b0 l Sg zM226 bud [(2, 180), (0, k), (0, w), (0, v)] μ (fun st' μ' => st' = [] ∧ zTJ φ μ' ∧ zKC μ μ') := by
  have hA : zKC μ μ := zKC_refl
  unfold pm_in at hk hww hv
  have f1 := zT_get hT zs180_2 (i := 2) (by omega) (by omega)
  refine pm_blk hK zmm226 [] 2 4 [(2, 180), (0, k), (0, w), (0, v)] [(0, μ 180 2)] μ [] rfl trivial ?_
  refine pm_if hK zmm226 .ne 13 17 rfl rfl (fun h0 => ?_) (fun h0 => ?_)
  · have h0 : μ 180 2 ≠ (0 : Int) := h0
    exact pm_vret rfl rfl ⟨rfl, hT, hA⟩
  · have h0 : μ 180 2 = (0 : Int) := h0
    refine pm_blk hK zmm226 [] 5 14 [(2, 180), (0, k), (0, w), (0, v)] [(0, v), (0, w), (0, k), (2, 2)] μ [] rfl trivial ?_
    refine pm_call hK zmm226 (166, 0, 227, 3) zM227 (1, 25) [(2, 2), (0, k), (0, w), (0, v)] [] rfl rfl rfl rfl ⟨by omega, by rw [zn227]; omega⟩ (zh_wr2 hK (k := k) (w := w) (v := v) hT ⟨by omega, by omega⟩ ⟨by omega, by omega⟩ ⟨by omega, by omega⟩ hb2 hb16 ⟨Nat.le_refl _, Nat.le_refl _⟩) (fun st1 μc1 hp1 => ?_)
    obtain ⟨rfl, hTc1, hA1⟩ := hp1
    have hA := zKC_tr hA hA1
    exact pm_vret rfl rfl ⟨rfl, hTc1, hA⟩
set_option maxRecDepth 100000 in
theorem zh_sell3 (hK : zKK ST) {c v : Int} (hT : zTJ φ μ) (hc : 0 ≤ c ∧ c ≤ 17) (hv : 0 ≤ v ∧ v ≤ μ 11 c) (hg : 0 ≤ μ 13 c → 0 ≤ μ 4 (μ 13 c)) (hb2 : sx_bit Wm 2 = true) (hb4 : sx_bit Wm 4 = true) (hb6 : sx_bit Wm 6 = true) (hb8 : sx_bit Wm 8 = true) (hb9 : sx_bit Wm 9 = true) (hb11 : sx_bit Wm 11 = true) (hb15 : sx_bit Wm 15 = true) (hb16 : sx_bit Wm 16 = true) (hbd : 3 ≤ bud.1 ∧ 75 ≤ bud.2.1) : zC D Wm ST b0 l Sg zM224 bud [(2, 180), (2, 3), (0, c), (0, v)] μ (fun st' μ' => st' = [] ∧ zTJ φ μ' ∧ zKC μ μ') := by
  have hA : zKC μ μ := zKC_refl
  have f30 := zT_get hT zs3_0 (i := 0) (by omega) (by omega)
  have f31 := zT_get hT zs3_1 (i := 1) (by omega) (by omega)
  have f13 := zT_get hT zs13_0 (i := c) (by omega) (by omega)
  have f11 := zT_get hT zs11_0 (i := c) (by omega) (by omega)
  refine pm_blk hK zmm224 [60, 70] 2 2 [(2, 180), (2, 3), (0, c), (0, v), (9, 0)] [(0, c), (2, 3)] μ [] rfl trivial ?_
  refine pm_call hK zmm224 (72, 0, 23, 1) zM23 (0, 0) [(2, 3), (0, c)] [] rfl rfl rfl rfl ⟨by omega, by rw [zn23]; omega⟩ (zh_isCu3 hK ⟨Nat.le_refl _, Nat.le_refl _⟩) (fun st1 μc1 hp1 => ?_)
  obtain ⟨rfl, rfl⟩ := hp1
  refine pm_if hK zmm224 .eq 12 17 rfl rfl (fun h0 => ?_) (fun h0 => ?_)
  · have h0 : (if 0 ≤ c ∧ c < μ 3 1 then 1 else 0 : Int) = (0 : Int) := h0
    have h0 := zif0 h0
    refine pm_blk hK zmm224 [60, 70] 4 23 [(2, 180), (2, 3), (0, c), (0, v), (0, (-1))] [(0, (-1)), (2, 3)] μ [] rfl trivial ?_
    refine pm_call hK zmm224 (85, 0, 22, 1) zM22 (0, 0) [(2, 3), (0, (-1))] [] rfl rfl rfl rfl ⟨by omega, by rw [zn22]; omega⟩ (zh_isSh3 hK ⟨Nat.le_refl _, Nat.le_refl _⟩) (fun st2 μc2 hp2 => ?_)
    obtain ⟨rfl, rfl⟩ := hp2
    refine pm_if hK zmm224 .ne 4 30 rfl rfl (fun h1 => ?_) (fun h1 => ?_)
    · have h1 : (if 0 ≤ ((-1)) ∧ ((-1)) < μ 3 0 then 1 else 0 : Int) ≠ (0 : Int) := h1
      have h1 := zif1 h1
      refine pm_blk hK zmm224 [60, 70] 3 36 [(2, 180), (2, 3), (0, c), (0, v), (0, (-1))] [(0, (-1)), (2, 4)] μ [] rfl trivial ?_
      refine zp_dup2 hK zmm224 rfl ?_
      have f1 := zT_get hT zs4_0 (i := (-1)) (by omega) (by omega)
      refine pm_blk hK zmm224 [60, 70] 4 41 [(2, 180), (2, 3), (0, c), (0, v), (0, (-1))] [] (pm_up μ 4 ((-1)) ((μ 4 ((-1))) - 1)) [0 ≤ (-1) ∧ (-1) < 12, pm_in ((μ 4 ((-1))) - 1), sx_bit Wm 4 = true, 0 ≤ (-1) ∧ (-1) < 12] rfl ⟨⟨by omega, by omega⟩, pm_in_mk (by omega) (by omega), hb4, ⟨by omega, by omega⟩, trivial⟩ ?_
      obtain ⟨μ1, eμ1⟩ : ∃ μ', μ' = pm_up μ 4 ((-1)) ((μ 4 ((-1))) - 1) := ⟨_, rfl⟩
      rw [← eμ1]
      have hTμ1 : zTJ φ μ1 := by rw [eμ1]; exact zT_up hT zs4_0 rfl (i := (-1)) (by omega) (by omega) (by omega) (by omega)
      have hA : zKC μ μ1 := by rw [eμ1]; exact zKC_up hA (by decide)
      refine pm_blk hK zmm224 [60, 70] 3 46 [(2, 180), (2, 3), (0, c), (0, v), (0, (-1))] [(0, c), (2, 11)] μ1 [] rfl trivial ?_
      refine zp_dup2 hK zmm224 rfl ?_
      have g2 : μ1 11 c = μ 11 c := by rw [eμ1, pm_up_off (by decide)]
      have f3 := zT_get hTμ1 zs11_0 (i := c) (by omega) (by omega)
      refine pm_blk hK zmm224 [60, 70] 4 51 [(2, 180), (2, 3), (0, c), (0, v), (0, (-1))] [] (pm_up μ1 11 c ((μ1 11 c) - v)) [0 ≤ c ∧ c < 18, pm_in ((μ1 11 c) - v), sx_bit Wm 11 = true, 0 ≤ c ∧ c < 18] rfl ⟨⟨by omega, by omega⟩, pm_in_mk (by omega) (by omega), hb11, ⟨by omega, by omega⟩, trivial⟩ ?_
      obtain ⟨μ2, eμ2⟩ : ∃ μ', μ' = pm_up μ1 11 c ((μ1 11 c) - v) := ⟨_, rfl⟩
      rw [← eμ2]
      have hTμ2 : zTJ φ μ2 := by rw [eμ2]; exact zT_up hTμ1 zs11_0 rfl (i := c) (by omega) (by omega) (by omega) (by omega)
      have hA : zKC μ μ2 := by rw [eμ2]; exact zKC_up hA (by decide)
      refine pm_blk hK zmm224 [60, 70] 3 57 [(2, 180), (2, 3), (0, c), (0, v), (0, (-1))] [(0, (-1)), (2, 6)] μ2 [] rfl trivial ?_
      refine zp_dup2 hK zmm224 rfl ?_
      have g4 : μ2 6 ((-1)) = μ 6 ((-1)) := by rw [eμ2, pm_up_off (by decide), eμ1, pm_up_off (by decide)]
      have f5 := zT_get hTμ2 zs6_0 (i := (-1)) (by omega) (by omega)
      have w6 := zw32 ((μ2 6 ((-1))) + v)
      refine pm_blk hK zmm224 [60, 70] 4 62 [(2, 180), (2, 3), (0, c), (0, v), (0, (-1))] [] (pm_up μ2 6 ((-1)) (pm_w32 ((μ2 6 ((-1))) + v))) [0 ≤ (-1) ∧ (-1) < 12, sx_bit Wm 6 = true, 0 ≤ (-1) ∧ (-1) < 12] rfl ⟨⟨by omega, by omega⟩, hb6, ⟨by omega, by omega⟩, trivial⟩ ?_
      obtain ⟨μ3, eμ3⟩ : ∃ μ', μ' = pm_up μ2 6 ((-1)) (pm_w32 ((μ2 6 ((-1))) + v)) := ⟨_, rfl⟩
      rw [← eμ3]
      have hTμ3 : zTJ φ μ3 := by rw [eμ3]; exact zT_up hTμ2 zs6_0 rfl (i := (-1)) (by omega) (by omega) (by omega) (by omega)
      have hA : zKC μ μ3 := by rw [eμ3]; exact zKC_up hA (by decide)
      refine pm_blk hK zmm224 [60, 70] 3 67 [(2, 180), (2, 3), (0, c), (0, v), (0, (-1))] [(0, c), (2, 15)] μ3 [] rfl trivial ?_
      refine zp_dup2 hK zmm224 rfl ?_
      have g7 : μ3 15 c = μ 15 c := by rw [eμ3, pm_up_off (by decide), eμ2, pm_up_off (by decide), eμ1, pm_up_off (by decide)]
      have f8 := zT_get hTμ3 zs15_0 (i := c) (by omega) (by omega)
      have w9 := zw32 ((μ3 15 c) + 1)
      refine pm_blk hK zmm224 [60, 70] 4 72 [(2, 180), (2, 3), (0, c), (0, v), (0, (-1))] [] (pm_up μ3 15 c (pm_w32 ((μ3 15 c) + 1))) [0 ≤ c ∧ c < 18, sx_bit Wm 15 = true, 0 ≤ c ∧ c < 18] rfl ⟨⟨by omega, by omega⟩, hb15, ⟨by omega, by omega⟩, trivial⟩ ?_
      obtain ⟨μ4, eμ4⟩ : ∃ μ', μ' = pm_up μ3 15 c (pm_w32 ((μ3 15 c) + 1)) := ⟨_, rfl⟩
      rw [← eμ4]
      have hTμ4 : zTJ φ μ4 := by rw [eμ4]; exact zT_up hTμ3 zs15_0 rfl (i := c) (by omega) (by omega) (by omega) (by omega)
      have hA : zKC μ μ4 := by rw [eμ4]; exact zKC_up hA (by decide)
      refine pm_blk hK zmm224 [60, 70] 3 76 [(2, 180), (2, 3), (0, c), (0, v), (0, (-1))] [(0, (-1)), (0, c), (2, 3)] μ4 [] rfl trivial ?_
      refine pm_call hK zmm224 (101, 0, 225, 2) zM225 (0, 0) [(2, 3), (0, c), (0, (-1))] [] rfl rfl rfl rfl ⟨by omega, by rw [zn225]; omega⟩ (zh_bl3 hK (a := c) (s := ((-1))) hTμ4 ⟨by omega, by omega⟩ ⟨by omega, by omega⟩ hb8 hb9 ⟨Nat.le_refl _, Nat.le_refl _⟩) (fun st3 μc3 hp3 => ?_)
      obtain ⟨rfl, hTc3, hA3⟩ := hp3
      have hA := zKC_tr hA hA3
      refine pm_blk hK zmm224 [60, 70] 4 83 [(2, 180), (2, 3), (0, c), (0, v), (0, (-1))] [(0, v), (0, c), (0, 0), (2, 180)] μc3 [] rfl trivial ?_
      refine pm_call hK zmm224 (105, 0, 226, 3) zM226 (2, 50) [(2, 180), (0, 0), (0, c), (0, v)] [] rfl rfl rfl rfl ⟨by omega, by rw [zn226]; omega⟩ (zh_nt180 hK (k := 0) (w := c) (v := v) hTc3 ⟨by omega, by omega⟩ ⟨by omega, by omega⟩ ⟨by omega, by omega⟩ hb2 hb16 ⟨Nat.le_refl _, Nat.le_refl _⟩) (fun st4 μc4 hp4 => ?_)
      obtain ⟨rfl, hTc4, hA4⟩ := hp4
      have hA := zKC_tr hA hA4
      exact pm_vret rfl rfl ⟨rfl, hTc4, hA⟩
    · have h1 : (if 0 ≤ ((-1)) ∧ ((-1)) < μ 3 0 then 1 else 0 : Int) = (0 : Int) := h1
      have h1 := zif0 h1
      exact pm_vret rfl rfl ⟨rfl, hT, hA⟩
  · have h0 : (if 0 ≤ c ∧ c < μ 3 1 then 1 else 0 : Int) ≠ (0 : Int) := h0
    have h0 := zif1 h0
    have f10 := zT_get hT zs13_0 (i := c) (by omega) (by omega)
    refine pm_blk hK zmm224 [60, 70] 8 23 [(2, 180), (2, 3), (0, c), (0, v), (0, μ 13 c)] [(0, μ 13 c), (2, 3)] μ [0 ≤ c ∧ c < 18] rfl ⟨⟨by omega, by omega⟩, trivial⟩ ?_
    refine pm_call hK zmm224 (85, 0, 22, 1) zM22 (0, 0) [(2, 3), (0, μ 13 c)] [] rfl rfl rfl rfl ⟨by omega, by rw [zn22]; omega⟩ (zh_isSh3 hK ⟨Nat.le_refl _, Nat.le_refl _⟩) (fun st5 μc5 hp5 => ?_)
    obtain ⟨rfl, rfl⟩ := hp5
    refine pm_if hK zmm224 .ne 4 30 rfl rfl (fun h2 => ?_) (fun h2 => ?_)
    · have h2 : (if 0 ≤ (μ 13 c) ∧ (μ 13 c) < μ 3 0 then 1 else 0 : Int) ≠ (0 : Int) := h2
      have h2 := zif1 h2
      refine pm_blk hK zmm224 [60, 70] 3 36 [(2, 180), (2, 3), (0, c), (0, v), (0, μ 13 c)] [(0, μ 13 c), (2, 4)] μ [] rfl trivial ?_
      refine zp_dup2 hK zmm224 rfl ?_
      have f11 := zT_get hT zs4_0 (i := μ 13 c) (by omega) (by omega)
      refine pm_blk hK zmm224 [60, 70] 4 41 [(2, 180), (2, 3), (0, c), (0, v), (0, μ 13 c)] [] (pm_up μ 4 (μ 13 c) ((μ 4 (μ 13 c)) - 1)) [0 ≤ μ 13 c ∧ μ 13 c < 12, pm_in ((μ 4 (μ 13 c)) - 1), sx_bit Wm 4 = true, 0 ≤ μ 13 c ∧ μ 13 c < 12] rfl ⟨⟨by omega, by omega⟩, pm_in_mk (by omega) (by omega), hb4, ⟨by omega, by omega⟩, trivial⟩ ?_
      obtain ⟨μ5, eμ5⟩ : ∃ μ', μ' = pm_up μ 4 (μ 13 c) ((μ 4 (μ 13 c)) - 1) := ⟨_, rfl⟩
      rw [← eμ5]
      have hTμ5 : zTJ φ μ5 := by rw [eμ5]; exact zT_up hT zs4_0 rfl (i := μ 13 c) (by omega) (by omega) (by omega) (by omega)
      have hA : zKC μ μ5 := by rw [eμ5]; exact zKC_up hA (by decide)
      refine pm_blk hK zmm224 [60, 70] 3 46 [(2, 180), (2, 3), (0, c), (0, v), (0, μ 13 c)] [(0, c), (2, 11)] μ5 [] rfl trivial ?_
      refine zp_dup2 hK zmm224 rfl ?_
      have g12 : μ5 11 c = μ 11 c := by rw [eμ5, pm_up_off (by decide)]
      have f13 := zT_get hTμ5 zs11_0 (i := c) (by omega) (by omega)
      refine pm_blk hK zmm224 [60, 70] 4 51 [(2, 180), (2, 3), (0, c), (0, v), (0, μ 13 c)] [] (pm_up μ5 11 c ((μ5 11 c) - v)) [0 ≤ c ∧ c < 18, pm_in ((μ5 11 c) - v), sx_bit Wm 11 = true, 0 ≤ c ∧ c < 18] rfl ⟨⟨by omega, by omega⟩, pm_in_mk (by omega) (by omega), hb11, ⟨by omega, by omega⟩, trivial⟩ ?_
      obtain ⟨μ6, eμ6⟩ : ∃ μ', μ' = pm_up μ5 11 c ((μ5 11 c) - v) := ⟨_, rfl⟩
      rw [← eμ6]
      have hTμ6 : zTJ φ μ6 := by rw [eμ6]; exact zT_up hTμ5 zs11_0 rfl (i := c) (by omega) (by omega) (by omega) (by omega)
      have hA : zKC μ μ6 := by rw [eμ6]; exact zKC_up hA (by decide)
      refine pm_blk hK zmm224 [60, 70] 3 57 [(2, 180), (2, 3), (0, c), (0, v), (0, μ 13 c)] [(0, μ 13 c), (2, 6)] μ6 [] rfl trivial ?_
      refine zp_dup2 hK zmm224 rfl ?_
      have g14 : μ6 6 (μ 13 c) = μ 6 (μ 13 c) := by rw [eμ6, pm_up_off (by decide), eμ5, pm_up_off (by decide)]
      have f15 := zT_get hTμ6 zs6_0 (i := μ 13 c) (by omega) (by omega)
      have w16 := zw32 ((μ6 6 (μ 13 c)) + v)
      refine pm_blk hK zmm224 [60, 70] 4 62 [(2, 180), (2, 3), (0, c), (0, v), (0, μ 13 c)] [] (pm_up μ6 6 (μ 13 c) (pm_w32 ((μ6 6 (μ 13 c)) + v))) [0 ≤ μ 13 c ∧ μ 13 c < 12, sx_bit Wm 6 = true, 0 ≤ μ 13 c ∧ μ 13 c < 12] rfl ⟨⟨by omega, by omega⟩, hb6, ⟨by omega, by omega⟩, trivial⟩ ?_
      obtain ⟨μ7, eμ7⟩ : ∃ μ', μ' = pm_up μ6 6 (μ 13 c) (pm_w32 ((μ6 6 (μ 13 c)) + v)) := ⟨_, rfl⟩
      rw [← eμ7]
      have hTμ7 : zTJ φ μ7 := by rw [eμ7]; exact zT_up hTμ6 zs6_0 rfl (i := μ 13 c) (by omega) (by omega) (by omega) (by omega)
      have hA : zKC μ μ7 := by rw [eμ7]; exact zKC_up hA (by decide)
      refine pm_blk hK zmm224 [60, 70] 3 67 [(2, 180), (2, 3), (0, c), (0, v), (0, μ 13 c)] [(0, c), (2, 15)] μ7 [] rfl trivial ?_
      refine zp_dup2 hK zmm224 rfl ?_
      have g17 : μ7 15 c = μ 15 c := by rw [eμ7, pm_up_off (by decide), eμ6, pm_up_off (by decide), eμ5, pm_up_off (by decide)]
      have f18 := zT_get hTμ7 zs15_0 (i := c) (by omega) (by omega)
      have w19 := zw32 ((μ7 15 c) + 1)
      refine pm_blk hK zmm224 [60, 70] 4 72 [(2, 180), (2, 3), (0, c), (0, v), (0, μ 13 c)] [] (pm_up μ7 15 c (pm_w32 ((μ7 15 c) + 1))) [0 ≤ c ∧ c < 18, sx_bit Wm 15 = true, 0 ≤ c ∧ c < 18] rfl ⟨⟨by omega, by omega⟩, hb15, ⟨by omega, by omega⟩, trivial⟩ ?_
      obtain ⟨μ8, eμ8⟩ : ∃ μ', μ' = pm_up μ7 15 c (pm_w32 ((μ7 15 c) + 1)) := ⟨_, rfl⟩
      rw [← eμ8]
      have hTμ8 : zTJ φ μ8 := by rw [eμ8]; exact zT_up hTμ7 zs15_0 rfl (i := c) (by omega) (by omega) (by omega) (by omega)
      have hA : zKC μ μ8 := by rw [eμ8]; exact zKC_up hA (by decide)
      refine pm_blk hK zmm224 [60, 70] 3 76 [(2, 180), (2, 3), (0, c), (0, v), (0, μ 13 c)] [(0, μ 13 c), (0, c), (2, 3)] μ8 [] rfl trivial ?_
      refine pm_call hK zmm224 (101, 0, 225, 2) zM225 (0, 0) [(2, 3), (0, c), (0, μ 13 c)] [] rfl rfl rfl rfl ⟨by omega, by rw [zn225]; omega⟩ (zh_bl3 hK (a := c) (s := (μ 13 c)) hTμ8 ⟨by omega, by omega⟩ ⟨by omega, by omega⟩ hb8 hb9 ⟨Nat.le_refl _, Nat.le_refl _⟩) (fun st6 μc6 hp6 => ?_)
      obtain ⟨rfl, hTc6, hA6⟩ := hp6
      have hA := zKC_tr hA hA6
      refine pm_blk hK zmm224 [60, 70] 4 83 [(2, 180), (2, 3), (0, c), (0, v), (0, μ 13 c)] [(0, v), (0, c), (0, 0), (2, 180)] μc6 [] rfl trivial ?_
      refine pm_call hK zmm224 (105, 0, 226, 3) zM226 (2, 50) [(2, 180), (0, 0), (0, c), (0, v)] [] rfl rfl rfl rfl ⟨by omega, by rw [zn226]; omega⟩ (zh_nt180 hK (k := 0) (w := c) (v := v) hTc6 ⟨by omega, by omega⟩ ⟨by omega, by omega⟩ ⟨by omega, by omega⟩ hb2 hb16 ⟨Nat.le_refl _, Nat.le_refl _⟩) (fun st7 μc7 hp7 => ?_)
      obtain ⟨rfl, hTc7, hA7⟩ := hp7
      have hA := zKC_tr hA hA7
      exact pm_vret rfl rfl ⟨rfl, hTc7, hA⟩
    · have h2 : (if 0 ≤ (μ 13 c) ∧ (μ 13 c) < μ 3 0 then 1 else 0 : Int) = (0 : Int) := h2
      have h2 := zif0 h2
      exact pm_vret rfl rfl ⟨rfl, hT, hA⟩
end ZHW
