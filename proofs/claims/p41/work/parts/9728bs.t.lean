/-! F: the class: an arcade taken over (any counts); walks printed by program (wip/p30/pmgen.py) and filled by hand -/
section ZHW
variable {D : va_G} {Wm : Nat} {ST : List (String × String × String × Nat)} {b0 : sx_B} {l : Launch} {Sg : Nat → Option Nat} {bud : sx_Bu} {μ : pm_Mem} {B0 : Nat → Prop} {J : (Nat → Option Nat) → Heap → Prop}
set_option maxRecDepth 100000 in
theorem fc_ac3_99 (hK : zKK ST) (hT : zTJ none μ) (hb3 : sx_bit Wm 3 = true) (hb4 : sx_bit Wm 4 = true) (hb5 : sx_bit Wm 5 = true) (hb6 : sx_bit Wm 6 = true) (hb7 : sx_bit Wm 7 = true) (hb8 : sx_bit Wm 8 = true) (hb9 : sx_bit Wm 9 = true) (hb10 : sx_bit Wm 10 = true) (hb11 : sx_bit Wm 11 = true) (hb12 : sx_bit Wm 12 = true) (hb13 : sx_bit Wm 13 = true) (hb14 : sx_bit Wm 14 = true) (hb15 : sx_bit Wm 15 = true) (hbd : 2 ≤ bud.1 ∧ 46 ≤ bud.2.1) : zC D Wm ST b0 l Sg zM28 bud [(2, 3), (2, 99)] μ (fun st' μ' => st' = [] ∧ zTJ none μ' ∧ fa_cp 3 99 12 μ μ') := by
  have hk : fa_cf 3 99 0 μ μ := fa_cf_0
  have f1 := zT_get hT zs99_0 (i := 0) (by omega) (by omega)
  refine pm_blk hK zmm28 [] 4 8 [(2, 3), (2, 99)] [] (pm_up μ 3 0 (μ 99 0)) [sx_bit Wm 3 = true] rfl ⟨hb3, trivial⟩ ?_
  obtain ⟨μ1, eμ1⟩ : ∃ μ', μ' = pm_up μ 3 0 (μ 99 0) := ⟨_, rfl⟩
  rw [← eμ1]
  have hTμ1 : zTJ none μ1 := by rw [eμ1]; exact zT_upn hT zs3_0 rfl (i := 0) (by omega) (by omega) (by omega) (by omega)
  have hk : fa_cf 3 99 1 μ μ1 := fa_cf_s (j := 0) hk eμ1 rfl (by decide)
  have g2 : μ1 99 1 = μ 99 1 := by rw [eμ1, pm_up_off (by decide)]
  have f3 := zT_get hTμ1 zs99_1 (i := 1) (by omega) (by omega)
  refine pm_blk hK zmm28 [] 4 16 [(2, 3), (2, 99)] [] (pm_up μ1 3 1 (μ1 99 1)) [sx_bit Wm 3 = true] rfl ⟨hb3, trivial⟩ ?_
  obtain ⟨μ2, eμ2⟩ : ∃ μ', μ' = pm_up μ1 3 1 (μ1 99 1) := ⟨_, rfl⟩
  rw [← eμ2]
  have hTμ2 : zTJ none μ2 := by rw [eμ2]; exact zT_upn hTμ1 zs3_1 rfl (i := 1) (by omega) (by omega) (by omega) (by omega)
  have hk : fa_cf 3 99 2 μ μ2 := fa_cf_s (j := 1) hk eμ2 rfl (by decide)
  have g4 : μ2 99 2 = μ 99 2 := by rw [eμ2, pm_up_off (by decide), eμ1, pm_up_off (by decide)]
  have f5 := zT_get hTμ2 zs99_2 (i := 2) (by omega) (by omega)
  refine pm_blk hK zmm28 [] 4 24 [(2, 3), (2, 99)] [] (pm_up μ2 3 2 (μ2 99 2)) [sx_bit Wm 3 = true] rfl ⟨hb3, trivial⟩ ?_
  obtain ⟨μ3, eμ3⟩ : ∃ μ', μ' = pm_up μ2 3 2 (μ2 99 2) := ⟨_, rfl⟩
  rw [← eμ3]
  have hTμ3 : zTJ none μ3 := by rw [eμ3]; exact zT_upn hTμ2 zs3_2 rfl (i := 2) (by omega) (by omega) (by omega) (by omega)
  have hk : fa_cf 3 99 3 μ μ3 := fa_cf_s (j := 2) hk eμ3 rfl (by decide)
  have g6 : μ3 99 3 = μ 99 3 := by rw [eμ3, pm_up_off (by decide), eμ2, pm_up_off (by decide), eμ1, pm_up_off (by decide)]
  have f7 := zT_get hTμ3 zs99_3 (i := 3) (by omega) (by omega)
  refine pm_blk hK zmm28 [] 4 32 [(2, 3), (2, 99)] [] (pm_up μ3 3 3 (μ3 99 3)) [sx_bit Wm 3 = true] rfl ⟨hb3, trivial⟩ ?_
  obtain ⟨μ4, eμ4⟩ : ∃ μ', μ' = pm_up μ3 3 3 (μ3 99 3) := ⟨_, rfl⟩
  rw [← eμ4]
  have hTμ4 : zTJ none μ4 := by rw [eμ4]; exact zT_upn hTμ3 zs3_3 rfl (i := 3) (by omega) (by omega) (by omega) (by omega)
  have hk : fa_cf 3 99 4 μ μ4 := fa_cf_s (j := 3) hk eμ4 rfl (by decide)
  have g8 : μ4 99 4 = μ 99 4 := by rw [eμ4, pm_up_off (by decide), eμ3, pm_up_off (by decide), eμ2, pm_up_off (by decide), eμ1, pm_up_off (by decide)]
  have f9 := zT_get hTμ4 zs99_4 (i := 4) (by omega) (by omega)
  refine pm_blk hK zmm28 [] 4 40 [(2, 3), (2, 99)] [] (pm_up μ4 3 4 (μ4 99 4)) [sx_bit Wm 3 = true] rfl ⟨hb3, trivial⟩ ?_
  obtain ⟨μ5, eμ5⟩ : ∃ μ', μ' = pm_up μ4 3 4 (μ4 99 4) := ⟨_, rfl⟩
  rw [← eμ5]
  have hTμ5 : zTJ none μ5 := by rw [eμ5]; exact zT_upn hTμ4 zs3_4 rfl (i := 4) (by omega) (by omega) (by omega) (by omega)
  have hk : fa_cf 3 99 5 μ μ5 := fa_cf_s (j := 4) hk eμ5 rfl (by decide)
  have hc := fa_cp_0 hk
  refine pm_blk hK zmm28 [] 4 48 [(2, 3), (2, 99)] [(2, 4), (2, 100)] μ5 [] rfl trivial ?_
  refine pm_call hK zmm28 (91, 1, 29, 2) zM29 (1, 25) [(2, 100), (2, 4)] [] rfl rfl rfl rfl ⟨by omega, by rw [zn29]; omega⟩ (fc_ci4_100 hK hb4 hTμ5 ⟨Nat.le_refl _, Nat.le_refl _⟩) (fun st1 μc1 hp1 => ?_)
  obtain ⟨rfl, hTc1, ec1⟩ := hp1
  have hc : fa_cp 3 99 1 μ μc1 := fa_cp_s (j := 0) hc ec1 rfl rfl (by decide) (by decide) (by decide)
  refine pm_blk hK zmm28 [] 4 59 [(2, 3), (2, 99)] [(2, 5), (2, 101)] μc1 [] rfl trivial ?_
  refine pm_call hK zmm28 (91, 1, 29, 2) zM29 (1, 25) [(2, 101), (2, 5)] [] rfl rfl rfl rfl ⟨by omega, by rw [zn29]; omega⟩ (fc_ci5_101 hK hb5 hTc1 ⟨Nat.le_refl _, Nat.le_refl _⟩) (fun st2 μc2 hp2 => ?_)
  obtain ⟨rfl, hTc2, ec2⟩ := hp2
  have hc : fa_cp 3 99 2 μ μc2 := fa_cp_s (j := 1) hc ec2 rfl rfl (by decide) (by decide) (by decide)
  refine pm_blk hK zmm28 [] 4 70 [(2, 3), (2, 99)] [(2, 6), (2, 102)] μc2 [] rfl trivial ?_
  refine pm_call hK zmm28 (91, 1, 29, 2) zM29 (1, 25) [(2, 102), (2, 6)] [] rfl rfl rfl rfl ⟨by omega, by rw [zn29]; omega⟩ (fc_ci6_102 hK hb6 hTc2 ⟨Nat.le_refl _, Nat.le_refl _⟩) (fun st3 μc3 hp3 => ?_)
  obtain ⟨rfl, hTc3, ec3⟩ := hp3
  have hc : fa_cp 3 99 3 μ μc3 := fa_cp_s (j := 2) hc ec3 rfl rfl (by decide) (by decide) (by decide)
  refine pm_blk hK zmm28 [] 4 81 [(2, 3), (2, 99)] [(2, 7), (2, 103)] μc3 [] rfl trivial ?_
  refine pm_call hK zmm28 (91, 1, 29, 2) zM29 (1, 25) [(2, 103), (2, 7)] [] rfl rfl rfl rfl ⟨by omega, by rw [zn29]; omega⟩ (fc_ci7_103 hK hb7 hTc3 ⟨Nat.le_refl _, Nat.le_refl _⟩) (fun st4 μc4 hp4 => ?_)
  obtain ⟨rfl, hTc4, ec4⟩ := hp4
  have hc : fa_cp 3 99 4 μ μc4 := fa_cp_s (j := 3) hc ec4 rfl rfl (by decide) (by decide) (by decide)
  refine pm_blk hK zmm28 [] 4 92 [(2, 3), (2, 99)] [(2, 8), (2, 104)] μc4 [] rfl trivial ?_
  refine pm_call hK zmm28 (91, 1, 29, 2) zM29 (1, 25) [(2, 104), (2, 8)] [] rfl rfl rfl rfl ⟨by omega, by rw [zn29]; omega⟩ (fc_ci8_104 hK hb8 hTc4 ⟨Nat.le_refl _, Nat.le_refl _⟩) (fun st5 μc5 hp5 => ?_)
  obtain ⟨rfl, hTc5, ec5⟩ := hp5
  have hc : fa_cp 3 99 5 μ μc5 := fa_cp_s (j := 4) hc ec5 rfl rfl (by decide) (by decide) (by decide)
  refine pm_blk hK zmm28 [] 4 103 [(2, 3), (2, 99)] [(2, 9), (2, 105)] μc5 [] rfl trivial ?_
  refine pm_call hK zmm28 (91, 1, 29, 2) zM29 (1, 25) [(2, 105), (2, 9)] [] rfl rfl rfl rfl ⟨by omega, by rw [zn29]; omega⟩ (fc_ci9_105 hK hb9 hTc5 ⟨Nat.le_refl _, Nat.le_refl _⟩) (fun st6 μc6 hp6 => ?_)
  obtain ⟨rfl, hTc6, ec6⟩ := hp6
  have hc : fa_cp 3 99 6 μ μc6 := fa_cp_s (j := 5) hc ec6 rfl rfl (by decide) (by decide) (by decide)
  refine pm_blk hK zmm28 [] 4 114 [(2, 3), (2, 99)] [(2, 10), (2, 106)] μc6 [] rfl trivial ?_
  refine pm_call hK zmm28 (91, 1, 29, 2) zM29 (1, 25) [(2, 106), (2, 10)] [] rfl rfl rfl rfl ⟨by omega, by rw [zn29]; omega⟩ (fc_ci10_106 hK hb10 hTc6 ⟨Nat.le_refl _, Nat.le_refl _⟩) (fun st7 μc7 hp7 => ?_)
  obtain ⟨rfl, hTc7, ec7⟩ := hp7
  have hc : fa_cp 3 99 7 μ μc7 := fa_cp_s (j := 6) hc ec7 rfl rfl (by decide) (by decide) (by decide)
  refine pm_blk hK zmm28 [] 4 125 [(2, 3), (2, 99)] [(2, 11), (2, 107)] μc7 [] rfl trivial ?_
  refine pm_call hK zmm28 (91, 1, 29, 2) zM29 (1, 25) [(2, 107), (2, 11)] [] rfl rfl rfl rfl ⟨by omega, by rw [zn29]; omega⟩ (fc_ci11_107 hK hb11 hTc7 ⟨Nat.le_refl _, Nat.le_refl _⟩) (fun st8 μc8 hp8 => ?_)
  obtain ⟨rfl, hTc8, ec8⟩ := hp8
  have hc : fa_cp 3 99 8 μ μc8 := fa_cp_s (j := 7) hc ec8 rfl rfl (by decide) (by decide) (by decide)
  refine pm_blk hK zmm28 [] 4 136 [(2, 3), (2, 99)] [(2, 12), (2, 108)] μc8 [] rfl trivial ?_
  refine pm_call hK zmm28 (91, 1, 29, 2) zM29 (1, 25) [(2, 108), (2, 12)] [] rfl rfl rfl rfl ⟨by omega, by rw [zn29]; omega⟩ (fc_ci12_108 hK hb12 hTc8 ⟨Nat.le_refl _, Nat.le_refl _⟩) (fun st9 μc9 hp9 => ?_)
  obtain ⟨rfl, hTc9, ec9⟩ := hp9
  have hc : fa_cp 3 99 9 μ μc9 := fa_cp_s (j := 8) hc ec9 rfl rfl (by decide) (by decide) (by decide)
  refine pm_blk hK zmm28 [] 4 147 [(2, 3), (2, 99)] [(2, 13), (2, 109)] μc9 [] rfl trivial ?_
  refine pm_call hK zmm28 (91, 1, 29, 2) zM29 (1, 25) [(2, 109), (2, 13)] [] rfl rfl rfl rfl ⟨by omega, by rw [zn29]; omega⟩ (fc_ci13_109 hK hb13 hTc9 ⟨Nat.le_refl _, Nat.le_refl _⟩) (fun st10 μc10 hp10 => ?_)
  obtain ⟨rfl, hTc10, ec10⟩ := hp10
  have hc : fa_cp 3 99 10 μ μc10 := fa_cp_s (j := 9) hc ec10 rfl rfl (by decide) (by decide) (by decide)
  refine pm_blk hK zmm28 [] 4 158 [(2, 3), (2, 99)] [(2, 14), (2, 110)] μc10 [] rfl trivial ?_
  refine pm_call hK zmm28 (91, 1, 29, 2) zM29 (1, 25) [(2, 110), (2, 14)] [] rfl rfl rfl rfl ⟨by omega, by rw [zn29]; omega⟩ (fc_ci14_110 hK hb14 hTc10 ⟨Nat.le_refl _, Nat.le_refl _⟩) (fun st11 μc11 hp11 => ?_)
  obtain ⟨rfl, hTc11, ec11⟩ := hp11
  have hc : fa_cp 3 99 11 μ μc11 := fa_cp_s (j := 10) hc ec11 rfl rfl (by decide) (by decide) (by decide)
  refine pm_blk hK zmm28 [] 4 169 [(2, 3), (2, 99)] [(2, 15), (2, 111)] μc11 [] rfl trivial ?_
  refine pm_call hK zmm28 (91, 1, 29, 2) zM29 (1, 25) [(2, 111), (2, 15)] [] rfl rfl rfl rfl ⟨by omega, by rw [zn29]; omega⟩ (fc_ci15_111 hK hb15 hTc11 ⟨Nat.le_refl _, Nat.le_refl _⟩) (fun st12 μc12 hp12 => ?_)
  obtain ⟨rfl, hTc12, ec12⟩ := hp12
  have hc : fa_cp 3 99 12 μ μc12 := fa_cp_s (j := 11) hc ec12 rfl rfl (by decide) (by decide) (by decide)
  exact pm_vret rfl rfl ⟨rfl, hTc12, hc⟩
set_option maxRecDepth 100000 in
theorem fc_ac3_112 (hK : zKK ST) (hT : zTJ none μ) (hb3 : sx_bit Wm 3 = true) (hb4 : sx_bit Wm 4 = true) (hb5 : sx_bit Wm 5 = true) (hb6 : sx_bit Wm 6 = true) (hb7 : sx_bit Wm 7 = true) (hb8 : sx_bit Wm 8 = true) (hb9 : sx_bit Wm 9 = true) (hb10 : sx_bit Wm 10 = true) (hb11 : sx_bit Wm 11 = true) (hb12 : sx_bit Wm 12 = true) (hb13 : sx_bit Wm 13 = true) (hb14 : sx_bit Wm 14 = true) (hb15 : sx_bit Wm 15 = true) (hbd : 2 ≤ bud.1 ∧ 46 ≤ bud.2.1) : zC D Wm ST b0 l Sg zM28 bud [(2, 3), (2, 112)] μ (fun st' μ' => st' = [] ∧ zTJ none μ' ∧ fa_cp 3 112 12 μ μ') := by
  have hk : fa_cf 3 112 0 μ μ := fa_cf_0
  have f1 := zT_get hT zs112_0 (i := 0) (by omega) (by omega)
  refine pm_blk hK zmm28 [] 4 8 [(2, 3), (2, 112)] [] (pm_up μ 3 0 (μ 112 0)) [sx_bit Wm 3 = true] rfl ⟨hb3, trivial⟩ ?_
  obtain ⟨μ1, eμ1⟩ : ∃ μ', μ' = pm_up μ 3 0 (μ 112 0) := ⟨_, rfl⟩
  rw [← eμ1]
  have hTμ1 : zTJ none μ1 := by rw [eμ1]; exact zT_upn hT zs3_0 rfl (i := 0) (by omega) (by omega) (by omega) (by omega)
  have hk : fa_cf 3 112 1 μ μ1 := fa_cf_s (j := 0) hk eμ1 rfl (by decide)
  have g2 : μ1 112 1 = μ 112 1 := by rw [eμ1, pm_up_off (by decide)]
  have f3 := zT_get hTμ1 zs112_1 (i := 1) (by omega) (by omega)
  refine pm_blk hK zmm28 [] 4 16 [(2, 3), (2, 112)] [] (pm_up μ1 3 1 (μ1 112 1)) [sx_bit Wm 3 = true] rfl ⟨hb3, trivial⟩ ?_
  obtain ⟨μ2, eμ2⟩ : ∃ μ', μ' = pm_up μ1 3 1 (μ1 112 1) := ⟨_, rfl⟩
  rw [← eμ2]
  have hTμ2 : zTJ none μ2 := by rw [eμ2]; exact zT_upn hTμ1 zs3_1 rfl (i := 1) (by omega) (by omega) (by omega) (by omega)
  have hk : fa_cf 3 112 2 μ μ2 := fa_cf_s (j := 1) hk eμ2 rfl (by decide)
  have g4 : μ2 112 2 = μ 112 2 := by rw [eμ2, pm_up_off (by decide), eμ1, pm_up_off (by decide)]
  have f5 := zT_get hTμ2 zs112_2 (i := 2) (by omega) (by omega)
  refine pm_blk hK zmm28 [] 4 24 [(2, 3), (2, 112)] [] (pm_up μ2 3 2 (μ2 112 2)) [sx_bit Wm 3 = true] rfl ⟨hb3, trivial⟩ ?_
  obtain ⟨μ3, eμ3⟩ : ∃ μ', μ' = pm_up μ2 3 2 (μ2 112 2) := ⟨_, rfl⟩
  rw [← eμ3]
  have hTμ3 : zTJ none μ3 := by rw [eμ3]; exact zT_upn hTμ2 zs3_2 rfl (i := 2) (by omega) (by omega) (by omega) (by omega)
  have hk : fa_cf 3 112 3 μ μ3 := fa_cf_s (j := 2) hk eμ3 rfl (by decide)
  have g6 : μ3 112 3 = μ 112 3 := by rw [eμ3, pm_up_off (by decide), eμ2, pm_up_off (by decide), eμ1, pm_up_off (by decide)]
  have f7 := zT_get hTμ3 zs112_3 (i := 3) (by omega) (by omega)
  refine pm_blk hK zmm28 [] 4 32 [(2, 3), (2, 112)] [] (pm_up μ3 3 3 (μ3 112 3)) [sx_bit Wm 3 = true] rfl ⟨hb3, trivial⟩ ?_
  obtain ⟨μ4, eμ4⟩ : ∃ μ', μ' = pm_up μ3 3 3 (μ3 112 3) := ⟨_, rfl⟩
  rw [← eμ4]
  have hTμ4 : zTJ none μ4 := by rw [eμ4]; exact zT_upn hTμ3 zs3_3 rfl (i := 3) (by omega) (by omega) (by omega) (by omega)
  have hk : fa_cf 3 112 4 μ μ4 := fa_cf_s (j := 3) hk eμ4 rfl (by decide)
  have g8 : μ4 112 4 = μ 112 4 := by rw [eμ4, pm_up_off (by decide), eμ3, pm_up_off (by decide), eμ2, pm_up_off (by decide), eμ1, pm_up_off (by decide)]
  have f9 := zT_get hTμ4 zs112_4 (i := 4) (by omega) (by omega)
  refine pm_blk hK zmm28 [] 4 40 [(2, 3), (2, 112)] [] (pm_up μ4 3 4 (μ4 112 4)) [sx_bit Wm 3 = true] rfl ⟨hb3, trivial⟩ ?_
  obtain ⟨μ5, eμ5⟩ : ∃ μ', μ' = pm_up μ4 3 4 (μ4 112 4) := ⟨_, rfl⟩
  rw [← eμ5]
  have hTμ5 : zTJ none μ5 := by rw [eμ5]; exact zT_upn hTμ4 zs3_4 rfl (i := 4) (by omega) (by omega) (by omega) (by omega)
  have hk : fa_cf 3 112 5 μ μ5 := fa_cf_s (j := 4) hk eμ5 rfl (by decide)
  have hc := fa_cp_0 hk
  refine pm_blk hK zmm28 [] 4 48 [(2, 3), (2, 112)] [(2, 4), (2, 113)] μ5 [] rfl trivial ?_
  refine pm_call hK zmm28 (91, 1, 29, 2) zM29 (1, 25) [(2, 113), (2, 4)] [] rfl rfl rfl rfl ⟨by omega, by rw [zn29]; omega⟩ (fc_ci4_113 hK hb4 hTμ5 ⟨Nat.le_refl _, Nat.le_refl _⟩) (fun st1 μc1 hp1 => ?_)
  obtain ⟨rfl, hTc1, ec1⟩ := hp1
  have hc : fa_cp 3 112 1 μ μc1 := fa_cp_s (j := 0) hc ec1 rfl rfl (by decide) (by decide) (by decide)
  refine pm_blk hK zmm28 [] 4 59 [(2, 3), (2, 112)] [(2, 5), (2, 114)] μc1 [] rfl trivial ?_
  refine pm_call hK zmm28 (91, 1, 29, 2) zM29 (1, 25) [(2, 114), (2, 5)] [] rfl rfl rfl rfl ⟨by omega, by rw [zn29]; omega⟩ (fc_ci5_114 hK hb5 hTc1 ⟨Nat.le_refl _, Nat.le_refl _⟩) (fun st2 μc2 hp2 => ?_)
  obtain ⟨rfl, hTc2, ec2⟩ := hp2
  have hc : fa_cp 3 112 2 μ μc2 := fa_cp_s (j := 1) hc ec2 rfl rfl (by decide) (by decide) (by decide)
  refine pm_blk hK zmm28 [] 4 70 [(2, 3), (2, 112)] [(2, 6), (2, 115)] μc2 [] rfl trivial ?_
  refine pm_call hK zmm28 (91, 1, 29, 2) zM29 (1, 25) [(2, 115), (2, 6)] [] rfl rfl rfl rfl ⟨by omega, by rw [zn29]; omega⟩ (fc_ci6_115 hK hb6 hTc2 ⟨Nat.le_refl _, Nat.le_refl _⟩) (fun st3 μc3 hp3 => ?_)
  obtain ⟨rfl, hTc3, ec3⟩ := hp3
  have hc : fa_cp 3 112 3 μ μc3 := fa_cp_s (j := 2) hc ec3 rfl rfl (by decide) (by decide) (by decide)
  refine pm_blk hK zmm28 [] 4 81 [(2, 3), (2, 112)] [(2, 7), (2, 116)] μc3 [] rfl trivial ?_
  refine pm_call hK zmm28 (91, 1, 29, 2) zM29 (1, 25) [(2, 116), (2, 7)] [] rfl rfl rfl rfl ⟨by omega, by rw [zn29]; omega⟩ (fc_ci7_116 hK hb7 hTc3 ⟨Nat.le_refl _, Nat.le_refl _⟩) (fun st4 μc4 hp4 => ?_)
  obtain ⟨rfl, hTc4, ec4⟩ := hp4
  have hc : fa_cp 3 112 4 μ μc4 := fa_cp_s (j := 3) hc ec4 rfl rfl (by decide) (by decide) (by decide)
  refine pm_blk hK zmm28 [] 4 92 [(2, 3), (2, 112)] [(2, 8), (2, 117)] μc4 [] rfl trivial ?_
  refine pm_call hK zmm28 (91, 1, 29, 2) zM29 (1, 25) [(2, 117), (2, 8)] [] rfl rfl rfl rfl ⟨by omega, by rw [zn29]; omega⟩ (fc_ci8_117 hK hb8 hTc4 ⟨Nat.le_refl _, Nat.le_refl _⟩) (fun st5 μc5 hp5 => ?_)
  obtain ⟨rfl, hTc5, ec5⟩ := hp5
  have hc : fa_cp 3 112 5 μ μc5 := fa_cp_s (j := 4) hc ec5 rfl rfl (by decide) (by decide) (by decide)
  refine pm_blk hK zmm28 [] 4 103 [(2, 3), (2, 112)] [(2, 9), (2, 118)] μc5 [] rfl trivial ?_
  refine pm_call hK zmm28 (91, 1, 29, 2) zM29 (1, 25) [(2, 118), (2, 9)] [] rfl rfl rfl rfl ⟨by omega, by rw [zn29]; omega⟩ (fc_ci9_118 hK hb9 hTc5 ⟨Nat.le_refl _, Nat.le_refl _⟩) (fun st6 μc6 hp6 => ?_)
  obtain ⟨rfl, hTc6, ec6⟩ := hp6
  have hc : fa_cp 3 112 6 μ μc6 := fa_cp_s (j := 5) hc ec6 rfl rfl (by decide) (by decide) (by decide)
  refine pm_blk hK zmm28 [] 4 114 [(2, 3), (2, 112)] [(2, 10), (2, 119)] μc6 [] rfl trivial ?_
  refine pm_call hK zmm28 (91, 1, 29, 2) zM29 (1, 25) [(2, 119), (2, 10)] [] rfl rfl rfl rfl ⟨by omega, by rw [zn29]; omega⟩ (fc_ci10_119 hK hb10 hTc6 ⟨Nat.le_refl _, Nat.le_refl _⟩) (fun st7 μc7 hp7 => ?_)
  obtain ⟨rfl, hTc7, ec7⟩ := hp7
  have hc : fa_cp 3 112 7 μ μc7 := fa_cp_s (j := 6) hc ec7 rfl rfl (by decide) (by decide) (by decide)
  refine pm_blk hK zmm28 [] 4 125 [(2, 3), (2, 112)] [(2, 11), (2, 120)] μc7 [] rfl trivial ?_
  refine pm_call hK zmm28 (91, 1, 29, 2) zM29 (1, 25) [(2, 120), (2, 11)] [] rfl rfl rfl rfl ⟨by omega, by rw [zn29]; omega⟩ (fc_ci11_120 hK hb11 hTc7 ⟨Nat.le_refl _, Nat.le_refl _⟩) (fun st8 μc8 hp8 => ?_)
  obtain ⟨rfl, hTc8, ec8⟩ := hp8
  have hc : fa_cp 3 112 8 μ μc8 := fa_cp_s (j := 7) hc ec8 rfl rfl (by decide) (by decide) (by decide)
  refine pm_blk hK zmm28 [] 4 136 [(2, 3), (2, 112)] [(2, 12), (2, 121)] μc8 [] rfl trivial ?_
  refine pm_call hK zmm28 (91, 1, 29, 2) zM29 (1, 25) [(2, 121), (2, 12)] [] rfl rfl rfl rfl ⟨by omega, by rw [zn29]; omega⟩ (fc_ci12_121 hK hb12 hTc8 ⟨Nat.le_refl _, Nat.le_refl _⟩) (fun st9 μc9 hp9 => ?_)
  obtain ⟨rfl, hTc9, ec9⟩ := hp9
  have hc : fa_cp 3 112 9 μ μc9 := fa_cp_s (j := 8) hc ec9 rfl rfl (by decide) (by decide) (by decide)
  refine pm_blk hK zmm28 [] 4 147 [(2, 3), (2, 112)] [(2, 13), (2, 122)] μc9 [] rfl trivial ?_
  refine pm_call hK zmm28 (91, 1, 29, 2) zM29 (1, 25) [(2, 122), (2, 13)] [] rfl rfl rfl rfl ⟨by omega, by rw [zn29]; omega⟩ (fc_ci13_122 hK hb13 hTc9 ⟨Nat.le_refl _, Nat.le_refl _⟩) (fun st10 μc10 hp10 => ?_)
  obtain ⟨rfl, hTc10, ec10⟩ := hp10
  have hc : fa_cp 3 112 10 μ μc10 := fa_cp_s (j := 9) hc ec10 rfl rfl (by decide) (by decide) (by decide)
  refine pm_blk hK zmm28 [] 4 158 [(2, 3), (2, 112)] [(2, 14), (2, 123)] μc10 [] rfl trivial ?_
  refine pm_call hK zmm28 (91, 1, 29, 2) zM29 (1, 25) [(2, 123), (2, 14)] [] rfl rfl rfl rfl ⟨by omega, by rw [zn29]; omega⟩ (fc_ci14_123 hK hb14 hTc10 ⟨Nat.le_refl _, Nat.le_refl _⟩) (fun st11 μc11 hp11 => ?_)
  obtain ⟨rfl, hTc11, ec11⟩ := hp11
  have hc : fa_cp 3 112 11 μ μc11 := fa_cp_s (j := 10) hc ec11 rfl rfl (by decide) (by decide) (by decide)
  refine pm_blk hK zmm28 [] 4 169 [(2, 3), (2, 112)] [(2, 15), (2, 124)] μc11 [] rfl trivial ?_
  refine pm_call hK zmm28 (91, 1, 29, 2) zM29 (1, 25) [(2, 124), (2, 15)] [] rfl rfl rfl rfl ⟨by omega, by rw [zn29]; omega⟩ (fc_ci15_124 hK hb15 hTc11 ⟨Nat.le_refl _, Nat.le_refl _⟩) (fun st12 μc12 hp12 => ?_)
  obtain ⟨rfl, hTc12, ec12⟩ := hp12
  have hc : fa_cp 3 112 12 μ μc12 := fa_cp_s (j := 11) hc ec12 rfl rfl (by decide) (by decide) (by decide)
  exact pm_vret rfl rfl ⟨rfl, hTc12, hc⟩
set_option maxRecDepth 100000 in
theorem fc_ac3_125 (hK : zKK ST) (hT : zTJ none μ) (hb3 : sx_bit Wm 3 = true) (hb4 : sx_bit Wm 4 = true) (hb5 : sx_bit Wm 5 = true) (hb6 : sx_bit Wm 6 = true) (hb7 : sx_bit Wm 7 = true) (hb8 : sx_bit Wm 8 = true) (hb9 : sx_bit Wm 9 = true) (hb10 : sx_bit Wm 10 = true) (hb11 : sx_bit Wm 11 = true) (hb12 : sx_bit Wm 12 = true) (hb13 : sx_bit Wm 13 = true) (hb14 : sx_bit Wm 14 = true) (hb15 : sx_bit Wm 15 = true) (hbd : 2 ≤ bud.1 ∧ 46 ≤ bud.2.1) : zC D Wm ST b0 l Sg zM28 bud [(2, 3), (2, 125)] μ (fun st' μ' => st' = [] ∧ zTJ none μ' ∧ fa_cp 3 125 12 μ μ') := by
  have hk : fa_cf 3 125 0 μ μ := fa_cf_0
  have f1 := zT_get hT zs125_0 (i := 0) (by omega) (by omega)
  refine pm_blk hK zmm28 [] 4 8 [(2, 3), (2, 125)] [] (pm_up μ 3 0 (μ 125 0)) [sx_bit Wm 3 = true] rfl ⟨hb3, trivial⟩ ?_
  obtain ⟨μ1, eμ1⟩ : ∃ μ', μ' = pm_up μ 3 0 (μ 125 0) := ⟨_, rfl⟩
  rw [← eμ1]
  have hTμ1 : zTJ none μ1 := by rw [eμ1]; exact zT_upn hT zs3_0 rfl (i := 0) (by omega) (by omega) (by omega) (by omega)
  have hk : fa_cf 3 125 1 μ μ1 := fa_cf_s (j := 0) hk eμ1 rfl (by decide)
  have g2 : μ1 125 1 = μ 125 1 := by rw [eμ1, pm_up_off (by decide)]
  have f3 := zT_get hTμ1 zs125_1 (i := 1) (by omega) (by omega)
  refine pm_blk hK zmm28 [] 4 16 [(2, 3), (2, 125)] [] (pm_up μ1 3 1 (μ1 125 1)) [sx_bit Wm 3 = true] rfl ⟨hb3, trivial⟩ ?_
  obtain ⟨μ2, eμ2⟩ : ∃ μ', μ' = pm_up μ1 3 1 (μ1 125 1) := ⟨_, rfl⟩
  rw [← eμ2]
  have hTμ2 : zTJ none μ2 := by rw [eμ2]; exact zT_upn hTμ1 zs3_1 rfl (i := 1) (by omega) (by omega) (by omega) (by omega)
  have hk : fa_cf 3 125 2 μ μ2 := fa_cf_s (j := 1) hk eμ2 rfl (by decide)
  have g4 : μ2 125 2 = μ 125 2 := by rw [eμ2, pm_up_off (by decide), eμ1, pm_up_off (by decide)]
  have f5 := zT_get hTμ2 zs125_2 (i := 2) (by omega) (by omega)
  refine pm_blk hK zmm28 [] 4 24 [(2, 3), (2, 125)] [] (pm_up μ2 3 2 (μ2 125 2)) [sx_bit Wm 3 = true] rfl ⟨hb3, trivial⟩ ?_
  obtain ⟨μ3, eμ3⟩ : ∃ μ', μ' = pm_up μ2 3 2 (μ2 125 2) := ⟨_, rfl⟩
  rw [← eμ3]
  have hTμ3 : zTJ none μ3 := by rw [eμ3]; exact zT_upn hTμ2 zs3_2 rfl (i := 2) (by omega) (by omega) (by omega) (by omega)
  have hk : fa_cf 3 125 3 μ μ3 := fa_cf_s (j := 2) hk eμ3 rfl (by decide)
  have g6 : μ3 125 3 = μ 125 3 := by rw [eμ3, pm_up_off (by decide), eμ2, pm_up_off (by decide), eμ1, pm_up_off (by decide)]
  have f7 := zT_get hTμ3 zs125_3 (i := 3) (by omega) (by omega)
  refine pm_blk hK zmm28 [] 4 32 [(2, 3), (2, 125)] [] (pm_up μ3 3 3 (μ3 125 3)) [sx_bit Wm 3 = true] rfl ⟨hb3, trivial⟩ ?_
  obtain ⟨μ4, eμ4⟩ : ∃ μ', μ' = pm_up μ3 3 3 (μ3 125 3) := ⟨_, rfl⟩
  rw [← eμ4]
  have hTμ4 : zTJ none μ4 := by rw [eμ4]; exact zT_upn hTμ3 zs3_3 rfl (i := 3) (by omega) (by omega) (by omega) (by omega)
  have hk : fa_cf 3 125 4 μ μ4 := fa_cf_s (j := 3) hk eμ4 rfl (by decide)
  have g8 : μ4 125 4 = μ 125 4 := by rw [eμ4, pm_up_off (by decide), eμ3, pm_up_off (by decide), eμ2, pm_up_off (by decide), eμ1, pm_up_off (by decide)]
  have f9 := zT_get hTμ4 zs125_4 (i := 4) (by omega) (by omega)
  refine pm_blk hK zmm28 [] 4 40 [(2, 3), (2, 125)] [] (pm_up μ4 3 4 (μ4 125 4)) [sx_bit Wm 3 = true] rfl ⟨hb3, trivial⟩ ?_
  obtain ⟨μ5, eμ5⟩ : ∃ μ', μ' = pm_up μ4 3 4 (μ4 125 4) := ⟨_, rfl⟩
  rw [← eμ5]
  have hTμ5 : zTJ none μ5 := by rw [eμ5]; exact zT_upn hTμ4 zs3_4 rfl (i := 4) (by omega) (by omega) (by omega) (by omega)
  have hk : fa_cf 3 125 5 μ μ5 := fa_cf_s (j := 4) hk eμ5 rfl (by decide)
  have hc := fa_cp_0 hk
  refine pm_blk hK zmm28 [] 4 48 [(2, 3), (2, 125)] [(2, 4), (2, 126)] μ5 [] rfl trivial ?_
  refine pm_call hK zmm28 (91, 1, 29, 2) zM29 (1, 25) [(2, 126), (2, 4)] [] rfl rfl rfl rfl ⟨by omega, by rw [zn29]; omega⟩ (fc_ci4_126 hK hb4 hTμ5 ⟨Nat.le_refl _, Nat.le_refl _⟩) (fun st1 μc1 hp1 => ?_)
  obtain ⟨rfl, hTc1, ec1⟩ := hp1
  have hc : fa_cp 3 125 1 μ μc1 := fa_cp_s (j := 0) hc ec1 rfl rfl (by decide) (by decide) (by decide)
  refine pm_blk hK zmm28 [] 4 59 [(2, 3), (2, 125)] [(2, 5), (2, 127)] μc1 [] rfl trivial ?_
  refine pm_call hK zmm28 (91, 1, 29, 2) zM29 (1, 25) [(2, 127), (2, 5)] [] rfl rfl rfl rfl ⟨by omega, by rw [zn29]; omega⟩ (fc_ci5_127 hK hb5 hTc1 ⟨Nat.le_refl _, Nat.le_refl _⟩) (fun st2 μc2 hp2 => ?_)
  obtain ⟨rfl, hTc2, ec2⟩ := hp2
  have hc : fa_cp 3 125 2 μ μc2 := fa_cp_s (j := 1) hc ec2 rfl rfl (by decide) (by decide) (by decide)
  refine pm_blk hK zmm28 [] 4 70 [(2, 3), (2, 125)] [(2, 6), (2, 128)] μc2 [] rfl trivial ?_
  refine pm_call hK zmm28 (91, 1, 29, 2) zM29 (1, 25) [(2, 128), (2, 6)] [] rfl rfl rfl rfl ⟨by omega, by rw [zn29]; omega⟩ (fc_ci6_128 hK hb6 hTc2 ⟨Nat.le_refl _, Nat.le_refl _⟩) (fun st3 μc3 hp3 => ?_)
  obtain ⟨rfl, hTc3, ec3⟩ := hp3
  have hc : fa_cp 3 125 3 μ μc3 := fa_cp_s (j := 2) hc ec3 rfl rfl (by decide) (by decide) (by decide)
  refine pm_blk hK zmm28 [] 4 81 [(2, 3), (2, 125)] [(2, 7), (2, 129)] μc3 [] rfl trivial ?_
  refine pm_call hK zmm28 (91, 1, 29, 2) zM29 (1, 25) [(2, 129), (2, 7)] [] rfl rfl rfl rfl ⟨by omega, by rw [zn29]; omega⟩ (fc_ci7_129 hK hb7 hTc3 ⟨Nat.le_refl _, Nat.le_refl _⟩) (fun st4 μc4 hp4 => ?_)
  obtain ⟨rfl, hTc4, ec4⟩ := hp4
  have hc : fa_cp 3 125 4 μ μc4 := fa_cp_s (j := 3) hc ec4 rfl rfl (by decide) (by decide) (by decide)
  refine pm_blk hK zmm28 [] 4 92 [(2, 3), (2, 125)] [(2, 8), (2, 130)] μc4 [] rfl trivial ?_
  refine pm_call hK zmm28 (91, 1, 29, 2) zM29 (1, 25) [(2, 130), (2, 8)] [] rfl rfl rfl rfl ⟨by omega, by rw [zn29]; omega⟩ (fc_ci8_130 hK hb8 hTc4 ⟨Nat.le_refl _, Nat.le_refl _⟩) (fun st5 μc5 hp5 => ?_)
  obtain ⟨rfl, hTc5, ec5⟩ := hp5
  have hc : fa_cp 3 125 5 μ μc5 := fa_cp_s (j := 4) hc ec5 rfl rfl (by decide) (by decide) (by decide)
  refine pm_blk hK zmm28 [] 4 103 [(2, 3), (2, 125)] [(2, 9), (2, 131)] μc5 [] rfl trivial ?_
  refine pm_call hK zmm28 (91, 1, 29, 2) zM29 (1, 25) [(2, 131), (2, 9)] [] rfl rfl rfl rfl ⟨by omega, by rw [zn29]; omega⟩ (fc_ci9_131 hK hb9 hTc5 ⟨Nat.le_refl _, Nat.le_refl _⟩) (fun st6 μc6 hp6 => ?_)
  obtain ⟨rfl, hTc6, ec6⟩ := hp6
  have hc : fa_cp 3 125 6 μ μc6 := fa_cp_s (j := 5) hc ec6 rfl rfl (by decide) (by decide) (by decide)
  refine pm_blk hK zmm28 [] 4 114 [(2, 3), (2, 125)] [(2, 10), (2, 132)] μc6 [] rfl trivial ?_
  refine pm_call hK zmm28 (91, 1, 29, 2) zM29 (1, 25) [(2, 132), (2, 10)] [] rfl rfl rfl rfl ⟨by omega, by rw [zn29]; omega⟩ (fc_ci10_132 hK hb10 hTc6 ⟨Nat.le_refl _, Nat.le_refl _⟩) (fun st7 μc7 hp7 => ?_)
  obtain ⟨rfl, hTc7, ec7⟩ := hp7
  have hc : fa_cp 3 125 7 μ μc7 := fa_cp_s (j := 6) hc ec7 rfl rfl (by decide) (by decide) (by decide)
  refine pm_blk hK zmm28 [] 4 125 [(2, 3), (2, 125)] [(2, 11), (2, 133)] μc7 [] rfl trivial ?_
  refine pm_call hK zmm28 (91, 1, 29, 2) zM29 (1, 25) [(2, 133), (2, 11)] [] rfl rfl rfl rfl ⟨by omega, by rw [zn29]; omega⟩ (fc_ci11_133 hK hb11 hTc7 ⟨Nat.le_refl _, Nat.le_refl _⟩) (fun st8 μc8 hp8 => ?_)
  obtain ⟨rfl, hTc8, ec8⟩ := hp8
  have hc : fa_cp 3 125 8 μ μc8 := fa_cp_s (j := 7) hc ec8 rfl rfl (by decide) (by decide) (by decide)
  refine pm_blk hK zmm28 [] 4 136 [(2, 3), (2, 125)] [(2, 12), (2, 134)] μc8 [] rfl trivial ?_
  refine pm_call hK zmm28 (91, 1, 29, 2) zM29 (1, 25) [(2, 134), (2, 12)] [] rfl rfl rfl rfl ⟨by omega, by rw [zn29]; omega⟩ (fc_ci12_134 hK hb12 hTc8 ⟨Nat.le_refl _, Nat.le_refl _⟩) (fun st9 μc9 hp9 => ?_)
  obtain ⟨rfl, hTc9, ec9⟩ := hp9
  have hc : fa_cp 3 125 9 μ μc9 := fa_cp_s (j := 8) hc ec9 rfl rfl (by decide) (by decide) (by decide)
  refine pm_blk hK zmm28 [] 4 147 [(2, 3), (2, 125)] [(2, 13), (2, 135)] μc9 [] rfl trivial ?_
  refine pm_call hK zmm28 (91, 1, 29, 2) zM29 (1, 25) [(2, 135), (2, 13)] [] rfl rfl rfl rfl ⟨by omega, by rw [zn29]; omega⟩ (fc_ci13_135 hK hb13 hTc9 ⟨Nat.le_refl _, Nat.le_refl _⟩) (fun st10 μc10 hp10 => ?_)
  obtain ⟨rfl, hTc10, ec10⟩ := hp10
  have hc : fa_cp 3 125 10 μ μc10 := fa_cp_s (j := 9) hc ec10 rfl rfl (by decide) (by decide) (by decide)
  refine pm_blk hK zmm28 [] 4 158 [(2, 3), (2, 125)] [(2, 14), (2, 136)] μc10 [] rfl trivial ?_
  refine pm_call hK zmm28 (91, 1, 29, 2) zM29 (1, 25) [(2, 136), (2, 14)] [] rfl rfl rfl rfl ⟨by omega, by rw [zn29]; omega⟩ (fc_ci14_136 hK hb14 hTc10 ⟨Nat.le_refl _, Nat.le_refl _⟩) (fun st11 μc11 hp11 => ?_)
  obtain ⟨rfl, hTc11, ec11⟩ := hp11
  have hc : fa_cp 3 125 11 μ μc11 := fa_cp_s (j := 10) hc ec11 rfl rfl (by decide) (by decide) (by decide)
  refine pm_blk hK zmm28 [] 4 169 [(2, 3), (2, 125)] [(2, 15), (2, 137)] μc11 [] rfl trivial ?_
  refine pm_call hK zmm28 (91, 1, 29, 2) zM29 (1, 25) [(2, 137), (2, 15)] [] rfl rfl rfl rfl ⟨by omega, by rw [zn29]; omega⟩ (fc_ci15_137 hK hb15 hTc11 ⟨Nat.le_refl _, Nat.le_refl _⟩) (fun st12 μc12 hp12 => ?_)
  obtain ⟨rfl, hTc12, ec12⟩ := hp12
  have hc : fa_cp 3 125 12 μ μc12 := fa_cp_s (j := 11) hc ec12 rfl rfl (by decide) (by decide) (by decide)
  exact pm_vret rfl rfl ⟨rfl, hTc12, hc⟩
set_option maxRecDepth 100000 in
theorem fc_ac3_138 (hK : zKK ST) (hT : zTJ none μ) (hb3 : sx_bit Wm 3 = true) (hb4 : sx_bit Wm 4 = true) (hb5 : sx_bit Wm 5 = true) (hb6 : sx_bit Wm 6 = true) (hb7 : sx_bit Wm 7 = true) (hb8 : sx_bit Wm 8 = true) (hb9 : sx_bit Wm 9 = true) (hb10 : sx_bit Wm 10 = true) (hb11 : sx_bit Wm 11 = true) (hb12 : sx_bit Wm 12 = true) (hb13 : sx_bit Wm 13 = true) (hb14 : sx_bit Wm 14 = true) (hb15 : sx_bit Wm 15 = true) (hbd : 2 ≤ bud.1 ∧ 46 ≤ bud.2.1) : zC D Wm ST b0 l Sg zM28 bud [(2, 3), (2, 138)] μ (fun st' μ' => st' = [] ∧ zTJ none μ' ∧ fa_cp 3 138 12 μ μ') := by
  have hk : fa_cf 3 138 0 μ μ := fa_cf_0
  have f1 := zT_get hT zs138_0 (i := 0) (by omega) (by omega)
  refine pm_blk hK zmm28 [] 4 8 [(2, 3), (2, 138)] [] (pm_up μ 3 0 (μ 138 0)) [sx_bit Wm 3 = true] rfl ⟨hb3, trivial⟩ ?_
  obtain ⟨μ1, eμ1⟩ : ∃ μ', μ' = pm_up μ 3 0 (μ 138 0) := ⟨_, rfl⟩
  rw [← eμ1]
  have hTμ1 : zTJ none μ1 := by rw [eμ1]; exact zT_upn hT zs3_0 rfl (i := 0) (by omega) (by omega) (by omega) (by omega)
  have hk : fa_cf 3 138 1 μ μ1 := fa_cf_s (j := 0) hk eμ1 rfl (by decide)
  have g2 : μ1 138 1 = μ 138 1 := by rw [eμ1, pm_up_off (by decide)]
  have f3 := zT_get hTμ1 zs138_1 (i := 1) (by omega) (by omega)
  refine pm_blk hK zmm28 [] 4 16 [(2, 3), (2, 138)] [] (pm_up μ1 3 1 (μ1 138 1)) [sx_bit Wm 3 = true] rfl ⟨hb3, trivial⟩ ?_
  obtain ⟨μ2, eμ2⟩ : ∃ μ', μ' = pm_up μ1 3 1 (μ1 138 1) := ⟨_, rfl⟩
  rw [← eμ2]
  have hTμ2 : zTJ none μ2 := by rw [eμ2]; exact zT_upn hTμ1 zs3_1 rfl (i := 1) (by omega) (by omega) (by omega) (by omega)
  have hk : fa_cf 3 138 2 μ μ2 := fa_cf_s (j := 1) hk eμ2 rfl (by decide)
  have g4 : μ2 138 2 = μ 138 2 := by rw [eμ2, pm_up_off (by decide), eμ1, pm_up_off (by decide)]
  have f5 := zT_get hTμ2 zs138_2 (i := 2) (by omega) (by omega)
  refine pm_blk hK zmm28 [] 4 24 [(2, 3), (2, 138)] [] (pm_up μ2 3 2 (μ2 138 2)) [sx_bit Wm 3 = true] rfl ⟨hb3, trivial⟩ ?_
  obtain ⟨μ3, eμ3⟩ : ∃ μ', μ' = pm_up μ2 3 2 (μ2 138 2) := ⟨_, rfl⟩
  rw [← eμ3]
  have hTμ3 : zTJ none μ3 := by rw [eμ3]; exact zT_upn hTμ2 zs3_2 rfl (i := 2) (by omega) (by omega) (by omega) (by omega)
  have hk : fa_cf 3 138 3 μ μ3 := fa_cf_s (j := 2) hk eμ3 rfl (by decide)
  have g6 : μ3 138 3 = μ 138 3 := by rw [eμ3, pm_up_off (by decide), eμ2, pm_up_off (by decide), eμ1, pm_up_off (by decide)]
  have f7 := zT_get hTμ3 zs138_3 (i := 3) (by omega) (by omega)
  refine pm_blk hK zmm28 [] 4 32 [(2, 3), (2, 138)] [] (pm_up μ3 3 3 (μ3 138 3)) [sx_bit Wm 3 = true] rfl ⟨hb3, trivial⟩ ?_
  obtain ⟨μ4, eμ4⟩ : ∃ μ', μ' = pm_up μ3 3 3 (μ3 138 3) := ⟨_, rfl⟩
  rw [← eμ4]
  have hTμ4 : zTJ none μ4 := by rw [eμ4]; exact zT_upn hTμ3 zs3_3 rfl (i := 3) (by omega) (by omega) (by omega) (by omega)
  have hk : fa_cf 3 138 4 μ μ4 := fa_cf_s (j := 3) hk eμ4 rfl (by decide)
  have g8 : μ4 138 4 = μ 138 4 := by rw [eμ4, pm_up_off (by decide), eμ3, pm_up_off (by decide), eμ2, pm_up_off (by decide), eμ1, pm_up_off (by decide)]
  have f9 := zT_get hTμ4 zs138_4 (i := 4) (by omega) (by omega)
  refine pm_blk hK zmm28 [] 4 40 [(2, 3), (2, 138)] [] (pm_up μ4 3 4 (μ4 138 4)) [sx_bit Wm 3 = true] rfl ⟨hb3, trivial⟩ ?_
  obtain ⟨μ5, eμ5⟩ : ∃ μ', μ' = pm_up μ4 3 4 (μ4 138 4) := ⟨_, rfl⟩
  rw [← eμ5]
  have hTμ5 : zTJ none μ5 := by rw [eμ5]; exact zT_upn hTμ4 zs3_4 rfl (i := 4) (by omega) (by omega) (by omega) (by omega)
  have hk : fa_cf 3 138 5 μ μ5 := fa_cf_s (j := 4) hk eμ5 rfl (by decide)
  have hc := fa_cp_0 hk
  refine pm_blk hK zmm28 [] 4 48 [(2, 3), (2, 138)] [(2, 4), (2, 139)] μ5 [] rfl trivial ?_
  refine pm_call hK zmm28 (91, 1, 29, 2) zM29 (1, 25) [(2, 139), (2, 4)] [] rfl rfl rfl rfl ⟨by omega, by rw [zn29]; omega⟩ (fc_ci4_139 hK hb4 hTμ5 ⟨Nat.le_refl _, Nat.le_refl _⟩) (fun st1 μc1 hp1 => ?_)
  obtain ⟨rfl, hTc1, ec1⟩ := hp1
  have hc : fa_cp 3 138 1 μ μc1 := fa_cp_s (j := 0) hc ec1 rfl rfl (by decide) (by decide) (by decide)
  refine pm_blk hK zmm28 [] 4 59 [(2, 3), (2, 138)] [(2, 5), (2, 140)] μc1 [] rfl trivial ?_
  refine pm_call hK zmm28 (91, 1, 29, 2) zM29 (1, 25) [(2, 140), (2, 5)] [] rfl rfl rfl rfl ⟨by omega, by rw [zn29]; omega⟩ (fc_ci5_140 hK hb5 hTc1 ⟨Nat.le_refl _, Nat.le_refl _⟩) (fun st2 μc2 hp2 => ?_)
  obtain ⟨rfl, hTc2, ec2⟩ := hp2
  have hc : fa_cp 3 138 2 μ μc2 := fa_cp_s (j := 1) hc ec2 rfl rfl (by decide) (by decide) (by decide)
  refine pm_blk hK zmm28 [] 4 70 [(2, 3), (2, 138)] [(2, 6), (2, 141)] μc2 [] rfl trivial ?_
  refine pm_call hK zmm28 (91, 1, 29, 2) zM29 (1, 25) [(2, 141), (2, 6)] [] rfl rfl rfl rfl ⟨by omega, by rw [zn29]; omega⟩ (fc_ci6_141 hK hb6 hTc2 ⟨Nat.le_refl _, Nat.le_refl _⟩) (fun st3 μc3 hp3 => ?_)
  obtain ⟨rfl, hTc3, ec3⟩ := hp3
  have hc : fa_cp 3 138 3 μ μc3 := fa_cp_s (j := 2) hc ec3 rfl rfl (by decide) (by decide) (by decide)
  refine pm_blk hK zmm28 [] 4 81 [(2, 3), (2, 138)] [(2, 7), (2, 142)] μc3 [] rfl trivial ?_
  refine pm_call hK zmm28 (91, 1, 29, 2) zM29 (1, 25) [(2, 142), (2, 7)] [] rfl rfl rfl rfl ⟨by omega, by rw [zn29]; omega⟩ (fc_ci7_142 hK hb7 hTc3 ⟨Nat.le_refl _, Nat.le_refl _⟩) (fun st4 μc4 hp4 => ?_)
  obtain ⟨rfl, hTc4, ec4⟩ := hp4
  have hc : fa_cp 3 138 4 μ μc4 := fa_cp_s (j := 3) hc ec4 rfl rfl (by decide) (by decide) (by decide)
  refine pm_blk hK zmm28 [] 4 92 [(2, 3), (2, 138)] [(2, 8), (2, 143)] μc4 [] rfl trivial ?_
  refine pm_call hK zmm28 (91, 1, 29, 2) zM29 (1, 25) [(2, 143), (2, 8)] [] rfl rfl rfl rfl ⟨by omega, by rw [zn29]; omega⟩ (fc_ci8_143 hK hb8 hTc4 ⟨Nat.le_refl _, Nat.le_refl _⟩) (fun st5 μc5 hp5 => ?_)
  obtain ⟨rfl, hTc5, ec5⟩ := hp5
  have hc : fa_cp 3 138 5 μ μc5 := fa_cp_s (j := 4) hc ec5 rfl rfl (by decide) (by decide) (by decide)
  refine pm_blk hK zmm28 [] 4 103 [(2, 3), (2, 138)] [(2, 9), (2, 144)] μc5 [] rfl trivial ?_
  refine pm_call hK zmm28 (91, 1, 29, 2) zM29 (1, 25) [(2, 144), (2, 9)] [] rfl rfl rfl rfl ⟨by omega, by rw [zn29]; omega⟩ (fc_ci9_144 hK hb9 hTc5 ⟨Nat.le_refl _, Nat.le_refl _⟩) (fun st6 μc6 hp6 => ?_)
  obtain ⟨rfl, hTc6, ec6⟩ := hp6
  have hc : fa_cp 3 138 6 μ μc6 := fa_cp_s (j := 5) hc ec6 rfl rfl (by decide) (by decide) (by decide)
  refine pm_blk hK zmm28 [] 4 114 [(2, 3), (2, 138)] [(2, 10), (2, 145)] μc6 [] rfl trivial ?_
  refine pm_call hK zmm28 (91, 1, 29, 2) zM29 (1, 25) [(2, 145), (2, 10)] [] rfl rfl rfl rfl ⟨by omega, by rw [zn29]; omega⟩ (fc_ci10_145 hK hb10 hTc6 ⟨Nat.le_refl _, Nat.le_refl _⟩) (fun st7 μc7 hp7 => ?_)
  obtain ⟨rfl, hTc7, ec7⟩ := hp7
  have hc : fa_cp 3 138 7 μ μc7 := fa_cp_s (j := 6) hc ec7 rfl rfl (by decide) (by decide) (by decide)
  refine pm_blk hK zmm28 [] 4 125 [(2, 3), (2, 138)] [(2, 11), (2, 146)] μc7 [] rfl trivial ?_
  refine pm_call hK zmm28 (91, 1, 29, 2) zM29 (1, 25) [(2, 146), (2, 11)] [] rfl rfl rfl rfl ⟨by omega, by rw [zn29]; omega⟩ (fc_ci11_146 hK hb11 hTc7 ⟨Nat.le_refl _, Nat.le_refl _⟩) (fun st8 μc8 hp8 => ?_)
  obtain ⟨rfl, hTc8, ec8⟩ := hp8
  have hc : fa_cp 3 138 8 μ μc8 := fa_cp_s (j := 7) hc ec8 rfl rfl (by decide) (by decide) (by decide)
  refine pm_blk hK zmm28 [] 4 136 [(2, 3), (2, 138)] [(2, 12), (2, 147)] μc8 [] rfl trivial ?_
  refine pm_call hK zmm28 (91, 1, 29, 2) zM29 (1, 25) [(2, 147), (2, 12)] [] rfl rfl rfl rfl ⟨by omega, by rw [zn29]; omega⟩ (fc_ci12_147 hK hb12 hTc8 ⟨Nat.le_refl _, Nat.le_refl _⟩) (fun st9 μc9 hp9 => ?_)
  obtain ⟨rfl, hTc9, ec9⟩ := hp9
  have hc : fa_cp 3 138 9 μ μc9 := fa_cp_s (j := 8) hc ec9 rfl rfl (by decide) (by decide) (by decide)
  refine pm_blk hK zmm28 [] 4 147 [(2, 3), (2, 138)] [(2, 13), (2, 148)] μc9 [] rfl trivial ?_
  refine pm_call hK zmm28 (91, 1, 29, 2) zM29 (1, 25) [(2, 148), (2, 13)] [] rfl rfl rfl rfl ⟨by omega, by rw [zn29]; omega⟩ (fc_ci13_148 hK hb13 hTc9 ⟨Nat.le_refl _, Nat.le_refl _⟩) (fun st10 μc10 hp10 => ?_)
  obtain ⟨rfl, hTc10, ec10⟩ := hp10
  have hc : fa_cp 3 138 10 μ μc10 := fa_cp_s (j := 9) hc ec10 rfl rfl (by decide) (by decide) (by decide)
  refine pm_blk hK zmm28 [] 4 158 [(2, 3), (2, 138)] [(2, 14), (2, 149)] μc10 [] rfl trivial ?_
  refine pm_call hK zmm28 (91, 1, 29, 2) zM29 (1, 25) [(2, 149), (2, 14)] [] rfl rfl rfl rfl ⟨by omega, by rw [zn29]; omega⟩ (fc_ci14_149 hK hb14 hTc10 ⟨Nat.le_refl _, Nat.le_refl _⟩) (fun st11 μc11 hp11 => ?_)
  obtain ⟨rfl, hTc11, ec11⟩ := hp11
  have hc : fa_cp 3 138 11 μ μc11 := fa_cp_s (j := 10) hc ec11 rfl rfl (by decide) (by decide) (by decide)
  refine pm_blk hK zmm28 [] 4 169 [(2, 3), (2, 138)] [(2, 15), (2, 150)] μc11 [] rfl trivial ?_
  refine pm_call hK zmm28 (91, 1, 29, 2) zM29 (1, 25) [(2, 150), (2, 15)] [] rfl rfl rfl rfl ⟨by omega, by rw [zn29]; omega⟩ (fc_ci15_150 hK hb15 hTc11 ⟨Nat.le_refl _, Nat.le_refl _⟩) (fun st12 μc12 hp12 => ?_)
  obtain ⟨rfl, hTc12, ec12⟩ := hp12
  have hc : fa_cp 3 138 12 μ μc12 := fa_cp_s (j := 11) hc ec12 rfl rfl (by decide) (by decide) (by decide)
  exact pm_vret rfl rfl ⟨rfl, hTc12, hc⟩
set_option maxRecDepth 100000 in
theorem fc_ac3_151 (hK : zKK ST) (hT : zTJ none μ) (hb3 : sx_bit Wm 3 = true) (hb4 : sx_bit Wm 4 = true) (hb5 : sx_bit Wm 5 = true) (hb6 : sx_bit Wm 6 = true) (hb7 : sx_bit Wm 7 = true) (hb8 : sx_bit Wm 8 = true) (hb9 : sx_bit Wm 9 = true) (hb10 : sx_bit Wm 10 = true) (hb11 : sx_bit Wm 11 = true) (hb12 : sx_bit Wm 12 = true) (hb13 : sx_bit Wm 13 = true) (hb14 : sx_bit Wm 14 = true) (hb15 : sx_bit Wm 15 = true) (hbd : 2 ≤ bud.1 ∧ 46 ≤ bud.2.1) : zC D Wm ST b0 l Sg zM28 bud [(2, 3), (2, 151)] μ (fun st' μ' => st' = [] ∧ zTJ none μ' ∧ fa_cp 3 151 12 μ μ') := by
  have hk : fa_cf 3 151 0 μ μ := fa_cf_0
  have f1 := zT_get hT zs151_0 (i := 0) (by omega) (by omega)
  refine pm_blk hK zmm28 [] 4 8 [(2, 3), (2, 151)] [] (pm_up μ 3 0 (μ 151 0)) [sx_bit Wm 3 = true] rfl ⟨hb3, trivial⟩ ?_
  obtain ⟨μ1, eμ1⟩ : ∃ μ', μ' = pm_up μ 3 0 (μ 151 0) := ⟨_, rfl⟩
  rw [← eμ1]
  have hTμ1 : zTJ none μ1 := by rw [eμ1]; exact zT_upn hT zs3_0 rfl (i := 0) (by omega) (by omega) (by omega) (by omega)
  have hk : fa_cf 3 151 1 μ μ1 := fa_cf_s (j := 0) hk eμ1 rfl (by decide)
  have g2 : μ1 151 1 = μ 151 1 := by rw [eμ1, pm_up_off (by decide)]
  have f3 := zT_get hTμ1 zs151_1 (i := 1) (by omega) (by omega)
  refine pm_blk hK zmm28 [] 4 16 [(2, 3), (2, 151)] [] (pm_up μ1 3 1 (μ1 151 1)) [sx_bit Wm 3 = true] rfl ⟨hb3, trivial⟩ ?_
  obtain ⟨μ2, eμ2⟩ : ∃ μ', μ' = pm_up μ1 3 1 (μ1 151 1) := ⟨_, rfl⟩
  rw [← eμ2]
  have hTμ2 : zTJ none μ2 := by rw [eμ2]; exact zT_upn hTμ1 zs3_1 rfl (i := 1) (by omega) (by omega) (by omega) (by omega)
  have hk : fa_cf 3 151 2 μ μ2 := fa_cf_s (j := 1) hk eμ2 rfl (by decide)
  have g4 : μ2 151 2 = μ 151 2 := by rw [eμ2, pm_up_off (by decide), eμ1, pm_up_off (by decide)]
  have f5 := zT_get hTμ2 zs151_2 (i := 2) (by omega) (by omega)
  refine pm_blk hK zmm28 [] 4 24 [(2, 3), (2, 151)] [] (pm_up μ2 3 2 (μ2 151 2)) [sx_bit Wm 3 = true] rfl ⟨hb3, trivial⟩ ?_
  obtain ⟨μ3, eμ3⟩ : ∃ μ', μ' = pm_up μ2 3 2 (μ2 151 2) := ⟨_, rfl⟩
  rw [← eμ3]
  have hTμ3 : zTJ none μ3 := by rw [eμ3]; exact zT_upn hTμ2 zs3_2 rfl (i := 2) (by omega) (by omega) (by omega) (by omega)
  have hk : fa_cf 3 151 3 μ μ3 := fa_cf_s (j := 2) hk eμ3 rfl (by decide)
  have g6 : μ3 151 3 = μ 151 3 := by rw [eμ3, pm_up_off (by decide), eμ2, pm_up_off (by decide), eμ1, pm_up_off (by decide)]
  have f7 := zT_get hTμ3 zs151_3 (i := 3) (by omega) (by omega)
  refine pm_blk hK zmm28 [] 4 32 [(2, 3), (2, 151)] [] (pm_up μ3 3 3 (μ3 151 3)) [sx_bit Wm 3 = true] rfl ⟨hb3, trivial⟩ ?_
  obtain ⟨μ4, eμ4⟩ : ∃ μ', μ' = pm_up μ3 3 3 (μ3 151 3) := ⟨_, rfl⟩
  rw [← eμ4]
  have hTμ4 : zTJ none μ4 := by rw [eμ4]; exact zT_upn hTμ3 zs3_3 rfl (i := 3) (by omega) (by omega) (by omega) (by omega)
  have hk : fa_cf 3 151 4 μ μ4 := fa_cf_s (j := 3) hk eμ4 rfl (by decide)
  have g8 : μ4 151 4 = μ 151 4 := by rw [eμ4, pm_up_off (by decide), eμ3, pm_up_off (by decide), eμ2, pm_up_off (by decide), eμ1, pm_up_off (by decide)]
  have f9 := zT_get hTμ4 zs151_4 (i := 4) (by omega) (by omega)
  refine pm_blk hK zmm28 [] 4 40 [(2, 3), (2, 151)] [] (pm_up μ4 3 4 (μ4 151 4)) [sx_bit Wm 3 = true] rfl ⟨hb3, trivial⟩ ?_
  obtain ⟨μ5, eμ5⟩ : ∃ μ', μ' = pm_up μ4 3 4 (μ4 151 4) := ⟨_, rfl⟩
  rw [← eμ5]
  have hTμ5 : zTJ none μ5 := by rw [eμ5]; exact zT_upn hTμ4 zs3_4 rfl (i := 4) (by omega) (by omega) (by omega) (by omega)
  have hk : fa_cf 3 151 5 μ μ5 := fa_cf_s (j := 4) hk eμ5 rfl (by decide)
  have hc := fa_cp_0 hk
  refine pm_blk hK zmm28 [] 4 48 [(2, 3), (2, 151)] [(2, 4), (2, 152)] μ5 [] rfl trivial ?_
  refine pm_call hK zmm28 (91, 1, 29, 2) zM29 (1, 25) [(2, 152), (2, 4)] [] rfl rfl rfl rfl ⟨by omega, by rw [zn29]; omega⟩ (fc_ci4_152 hK hb4 hTμ5 ⟨Nat.le_refl _, Nat.le_refl _⟩) (fun st1 μc1 hp1 => ?_)
  obtain ⟨rfl, hTc1, ec1⟩ := hp1
  have hc : fa_cp 3 151 1 μ μc1 := fa_cp_s (j := 0) hc ec1 rfl rfl (by decide) (by decide) (by decide)
  refine pm_blk hK zmm28 [] 4 59 [(2, 3), (2, 151)] [(2, 5), (2, 153)] μc1 [] rfl trivial ?_
  refine pm_call hK zmm28 (91, 1, 29, 2) zM29 (1, 25) [(2, 153), (2, 5)] [] rfl rfl rfl rfl ⟨by omega, by rw [zn29]; omega⟩ (fc_ci5_153 hK hb5 hTc1 ⟨Nat.le_refl _, Nat.le_refl _⟩) (fun st2 μc2 hp2 => ?_)
  obtain ⟨rfl, hTc2, ec2⟩ := hp2
  have hc : fa_cp 3 151 2 μ μc2 := fa_cp_s (j := 1) hc ec2 rfl rfl (by decide) (by decide) (by decide)
  refine pm_blk hK zmm28 [] 4 70 [(2, 3), (2, 151)] [(2, 6), (2, 154)] μc2 [] rfl trivial ?_
  refine pm_call hK zmm28 (91, 1, 29, 2) zM29 (1, 25) [(2, 154), (2, 6)] [] rfl rfl rfl rfl ⟨by omega, by rw [zn29]; omega⟩ (fc_ci6_154 hK hb6 hTc2 ⟨Nat.le_refl _, Nat.le_refl _⟩) (fun st3 μc3 hp3 => ?_)
  obtain ⟨rfl, hTc3, ec3⟩ := hp3
  have hc : fa_cp 3 151 3 μ μc3 := fa_cp_s (j := 2) hc ec3 rfl rfl (by decide) (by decide) (by decide)
  refine pm_blk hK zmm28 [] 4 81 [(2, 3), (2, 151)] [(2, 7), (2, 155)] μc3 [] rfl trivial ?_
  refine pm_call hK zmm28 (91, 1, 29, 2) zM29 (1, 25) [(2, 155), (2, 7)] [] rfl rfl rfl rfl ⟨by omega, by rw [zn29]; omega⟩ (fc_ci7_155 hK hb7 hTc3 ⟨Nat.le_refl _, Nat.le_refl _⟩) (fun st4 μc4 hp4 => ?_)
  obtain ⟨rfl, hTc4, ec4⟩ := hp4
  have hc : fa_cp 3 151 4 μ μc4 := fa_cp_s (j := 3) hc ec4 rfl rfl (by decide) (by decide) (by decide)
  refine pm_blk hK zmm28 [] 4 92 [(2, 3), (2, 151)] [(2, 8), (2, 156)] μc4 [] rfl trivial ?_
  refine pm_call hK zmm28 (91, 1, 29, 2) zM29 (1, 25) [(2, 156), (2, 8)] [] rfl rfl rfl rfl ⟨by omega, by rw [zn29]; omega⟩ (fc_ci8_156 hK hb8 hTc4 ⟨Nat.le_refl _, Nat.le_refl _⟩) (fun st5 μc5 hp5 => ?_)
  obtain ⟨rfl, hTc5, ec5⟩ := hp5
  have hc : fa_cp 3 151 5 μ μc5 := fa_cp_s (j := 4) hc ec5 rfl rfl (by decide) (by decide) (by decide)
  refine pm_blk hK zmm28 [] 4 103 [(2, 3), (2, 151)] [(2, 9), (2, 157)] μc5 [] rfl trivial ?_
  refine pm_call hK zmm28 (91, 1, 29, 2) zM29 (1, 25) [(2, 157), (2, 9)] [] rfl rfl rfl rfl ⟨by omega, by rw [zn29]; omega⟩ (fc_ci9_157 hK hb9 hTc5 ⟨Nat.le_refl _, Nat.le_refl _⟩) (fun st6 μc6 hp6 => ?_)
  obtain ⟨rfl, hTc6, ec6⟩ := hp6
  have hc : fa_cp 3 151 6 μ μc6 := fa_cp_s (j := 5) hc ec6 rfl rfl (by decide) (by decide) (by decide)
  refine pm_blk hK zmm28 [] 4 114 [(2, 3), (2, 151)] [(2, 10), (2, 158)] μc6 [] rfl trivial ?_
  refine pm_call hK zmm28 (91, 1, 29, 2) zM29 (1, 25) [(2, 158), (2, 10)] [] rfl rfl rfl rfl ⟨by omega, by rw [zn29]; omega⟩ (fc_ci10_158 hK hb10 hTc6 ⟨Nat.le_refl _, Nat.le_refl _⟩) (fun st7 μc7 hp7 => ?_)
  obtain ⟨rfl, hTc7, ec7⟩ := hp7
  have hc : fa_cp 3 151 7 μ μc7 := fa_cp_s (j := 6) hc ec7 rfl rfl (by decide) (by decide) (by decide)
  refine pm_blk hK zmm28 [] 4 125 [(2, 3), (2, 151)] [(2, 11), (2, 159)] μc7 [] rfl trivial ?_
  refine pm_call hK zmm28 (91, 1, 29, 2) zM29 (1, 25) [(2, 159), (2, 11)] [] rfl rfl rfl rfl ⟨by omega, by rw [zn29]; omega⟩ (fc_ci11_159 hK hb11 hTc7 ⟨Nat.le_refl _, Nat.le_refl _⟩) (fun st8 μc8 hp8 => ?_)
  obtain ⟨rfl, hTc8, ec8⟩ := hp8
  have hc : fa_cp 3 151 8 μ μc8 := fa_cp_s (j := 7) hc ec8 rfl rfl (by decide) (by decide) (by decide)
  refine pm_blk hK zmm28 [] 4 136 [(2, 3), (2, 151)] [(2, 12), (2, 160)] μc8 [] rfl trivial ?_
  refine pm_call hK zmm28 (91, 1, 29, 2) zM29 (1, 25) [(2, 160), (2, 12)] [] rfl rfl rfl rfl ⟨by omega, by rw [zn29]; omega⟩ (fc_ci12_160 hK hb12 hTc8 ⟨Nat.le_refl _, Nat.le_refl _⟩) (fun st9 μc9 hp9 => ?_)
  obtain ⟨rfl, hTc9, ec9⟩ := hp9
  have hc : fa_cp 3 151 9 μ μc9 := fa_cp_s (j := 8) hc ec9 rfl rfl (by decide) (by decide) (by decide)
  refine pm_blk hK zmm28 [] 4 147 [(2, 3), (2, 151)] [(2, 13), (2, 161)] μc9 [] rfl trivial ?_
  refine pm_call hK zmm28 (91, 1, 29, 2) zM29 (1, 25) [(2, 161), (2, 13)] [] rfl rfl rfl rfl ⟨by omega, by rw [zn29]; omega⟩ (fc_ci13_161 hK hb13 hTc9 ⟨Nat.le_refl _, Nat.le_refl _⟩) (fun st10 μc10 hp10 => ?_)
  obtain ⟨rfl, hTc10, ec10⟩ := hp10
  have hc : fa_cp 3 151 10 μ μc10 := fa_cp_s (j := 9) hc ec10 rfl rfl (by decide) (by decide) (by decide)
  refine pm_blk hK zmm28 [] 4 158 [(2, 3), (2, 151)] [(2, 14), (2, 162)] μc10 [] rfl trivial ?_
  refine pm_call hK zmm28 (91, 1, 29, 2) zM29 (1, 25) [(2, 162), (2, 14)] [] rfl rfl rfl rfl ⟨by omega, by rw [zn29]; omega⟩ (fc_ci14_162 hK hb14 hTc10 ⟨Nat.le_refl _, Nat.le_refl _⟩) (fun st11 μc11 hp11 => ?_)
  obtain ⟨rfl, hTc11, ec11⟩ := hp11
  have hc : fa_cp 3 151 11 μ μc11 := fa_cp_s (j := 10) hc ec11 rfl rfl (by decide) (by decide) (by decide)
  refine pm_blk hK zmm28 [] 4 169 [(2, 3), (2, 151)] [(2, 15), (2, 163)] μc11 [] rfl trivial ?_
  refine pm_call hK zmm28 (91, 1, 29, 2) zM29 (1, 25) [(2, 163), (2, 15)] [] rfl rfl rfl rfl ⟨by omega, by rw [zn29]; omega⟩ (fc_ci15_163 hK hb15 hTc11 ⟨Nat.le_refl _, Nat.le_refl _⟩) (fun st12 μc12 hp12 => ?_)
  obtain ⟨rfl, hTc12, ec12⟩ := hp12
  have hc : fa_cp 3 151 12 μ μc12 := fa_cp_s (j := 11) hc ec12 rfl rfl (by decide) (by decide) (by decide)
  exact pm_vret rfl rfl ⟨rfl, hTc12, hc⟩
set_option maxRecDepth 100000 in
theorem fc_ac3_164 (hK : zKK ST) (hT : zTJ none μ) (hb3 : sx_bit Wm 3 = true) (hb4 : sx_bit Wm 4 = true) (hb5 : sx_bit Wm 5 = true) (hb6 : sx_bit Wm 6 = true) (hb7 : sx_bit Wm 7 = true) (hb8 : sx_bit Wm 8 = true) (hb9 : sx_bit Wm 9 = true) (hb10 : sx_bit Wm 10 = true) (hb11 : sx_bit Wm 11 = true) (hb12 : sx_bit Wm 12 = true) (hb13 : sx_bit Wm 13 = true) (hb14 : sx_bit Wm 14 = true) (hb15 : sx_bit Wm 15 = true) (hbd : 2 ≤ bud.1 ∧ 46 ≤ bud.2.1) : zC D Wm ST b0 l Sg zM28 bud [(2, 3), (2, 164)] μ (fun st' μ' => st' = [] ∧ zTJ none μ' ∧ fa_cp 3 164 12 μ μ') := by
  have hk : fa_cf 3 164 0 μ μ := fa_cf_0
  have f1 := zT_get hT zs164_0 (i := 0) (by omega) (by omega)
  refine pm_blk hK zmm28 [] 4 8 [(2, 3), (2, 164)] [] (pm_up μ 3 0 (μ 164 0)) [sx_bit Wm 3 = true] rfl ⟨hb3, trivial⟩ ?_
  obtain ⟨μ1, eμ1⟩ : ∃ μ', μ' = pm_up μ 3 0 (μ 164 0) := ⟨_, rfl⟩
  rw [← eμ1]
  have hTμ1 : zTJ none μ1 := by rw [eμ1]; exact zT_upn hT zs3_0 rfl (i := 0) (by omega) (by omega) (by omega) (by omega)
  have hk : fa_cf 3 164 1 μ μ1 := fa_cf_s (j := 0) hk eμ1 rfl (by decide)
  have g2 : μ1 164 1 = μ 164 1 := by rw [eμ1, pm_up_off (by decide)]
  have f3 := zT_get hTμ1 zs164_1 (i := 1) (by omega) (by omega)
  refine pm_blk hK zmm28 [] 4 16 [(2, 3), (2, 164)] [] (pm_up μ1 3 1 (μ1 164 1)) [sx_bit Wm 3 = true] rfl ⟨hb3, trivial⟩ ?_
  obtain ⟨μ2, eμ2⟩ : ∃ μ', μ' = pm_up μ1 3 1 (μ1 164 1) := ⟨_, rfl⟩
  rw [← eμ2]
  have hTμ2 : zTJ none μ2 := by rw [eμ2]; exact zT_upn hTμ1 zs3_1 rfl (i := 1) (by omega) (by omega) (by omega) (by omega)
  have hk : fa_cf 3 164 2 μ μ2 := fa_cf_s (j := 1) hk eμ2 rfl (by decide)
  have g4 : μ2 164 2 = μ 164 2 := by rw [eμ2, pm_up_off (by decide), eμ1, pm_up_off (by decide)]
  have f5 := zT_get hTμ2 zs164_2 (i := 2) (by omega) (by omega)
  refine pm_blk hK zmm28 [] 4 24 [(2, 3), (2, 164)] [] (pm_up μ2 3 2 (μ2 164 2)) [sx_bit Wm 3 = true] rfl ⟨hb3, trivial⟩ ?_
  obtain ⟨μ3, eμ3⟩ : ∃ μ', μ' = pm_up μ2 3 2 (μ2 164 2) := ⟨_, rfl⟩
  rw [← eμ3]
  have hTμ3 : zTJ none μ3 := by rw [eμ3]; exact zT_upn hTμ2 zs3_2 rfl (i := 2) (by omega) (by omega) (by omega) (by omega)
  have hk : fa_cf 3 164 3 μ μ3 := fa_cf_s (j := 2) hk eμ3 rfl (by decide)
  have g6 : μ3 164 3 = μ 164 3 := by rw [eμ3, pm_up_off (by decide), eμ2, pm_up_off (by decide), eμ1, pm_up_off (by decide)]
  have f7 := zT_get hTμ3 zs164_3 (i := 3) (by omega) (by omega)
  refine pm_blk hK zmm28 [] 4 32 [(2, 3), (2, 164)] [] (pm_up μ3 3 3 (μ3 164 3)) [sx_bit Wm 3 = true] rfl ⟨hb3, trivial⟩ ?_
  obtain ⟨μ4, eμ4⟩ : ∃ μ', μ' = pm_up μ3 3 3 (μ3 164 3) := ⟨_, rfl⟩
  rw [← eμ4]
  have hTμ4 : zTJ none μ4 := by rw [eμ4]; exact zT_upn hTμ3 zs3_3 rfl (i := 3) (by omega) (by omega) (by omega) (by omega)
  have hk : fa_cf 3 164 4 μ μ4 := fa_cf_s (j := 3) hk eμ4 rfl (by decide)
  have g8 : μ4 164 4 = μ 164 4 := by rw [eμ4, pm_up_off (by decide), eμ3, pm_up_off (by decide), eμ2, pm_up_off (by decide), eμ1, pm_up_off (by decide)]
  have f9 := zT_get hTμ4 zs164_4 (i := 4) (by omega) (by omega)
  refine pm_blk hK zmm28 [] 4 40 [(2, 3), (2, 164)] [] (pm_up μ4 3 4 (μ4 164 4)) [sx_bit Wm 3 = true] rfl ⟨hb3, trivial⟩ ?_
  obtain ⟨μ5, eμ5⟩ : ∃ μ', μ' = pm_up μ4 3 4 (μ4 164 4) := ⟨_, rfl⟩
  rw [← eμ5]
  have hTμ5 : zTJ none μ5 := by rw [eμ5]; exact zT_upn hTμ4 zs3_4 rfl (i := 4) (by omega) (by omega) (by omega) (by omega)
  have hk : fa_cf 3 164 5 μ μ5 := fa_cf_s (j := 4) hk eμ5 rfl (by decide)
  have hc := fa_cp_0 hk
  refine pm_blk hK zmm28 [] 4 48 [(2, 3), (2, 164)] [(2, 4), (2, 165)] μ5 [] rfl trivial ?_
  refine pm_call hK zmm28 (91, 1, 29, 2) zM29 (1, 25) [(2, 165), (2, 4)] [] rfl rfl rfl rfl ⟨by omega, by rw [zn29]; omega⟩ (fc_ci4_165 hK hb4 hTμ5 ⟨Nat.le_refl _, Nat.le_refl _⟩) (fun st1 μc1 hp1 => ?_)
  obtain ⟨rfl, hTc1, ec1⟩ := hp1
  have hc : fa_cp 3 164 1 μ μc1 := fa_cp_s (j := 0) hc ec1 rfl rfl (by decide) (by decide) (by decide)
  refine pm_blk hK zmm28 [] 4 59 [(2, 3), (2, 164)] [(2, 5), (2, 166)] μc1 [] rfl trivial ?_
  refine pm_call hK zmm28 (91, 1, 29, 2) zM29 (1, 25) [(2, 166), (2, 5)] [] rfl rfl rfl rfl ⟨by omega, by rw [zn29]; omega⟩ (fc_ci5_166 hK hb5 hTc1 ⟨Nat.le_refl _, Nat.le_refl _⟩) (fun st2 μc2 hp2 => ?_)
  obtain ⟨rfl, hTc2, ec2⟩ := hp2
  have hc : fa_cp 3 164 2 μ μc2 := fa_cp_s (j := 1) hc ec2 rfl rfl (by decide) (by decide) (by decide)
  refine pm_blk hK zmm28 [] 4 70 [(2, 3), (2, 164)] [(2, 6), (2, 167)] μc2 [] rfl trivial ?_
  refine pm_call hK zmm28 (91, 1, 29, 2) zM29 (1, 25) [(2, 167), (2, 6)] [] rfl rfl rfl rfl ⟨by omega, by rw [zn29]; omega⟩ (fc_ci6_167 hK hb6 hTc2 ⟨Nat.le_refl _, Nat.le_refl _⟩) (fun st3 μc3 hp3 => ?_)
  obtain ⟨rfl, hTc3, ec3⟩ := hp3
  have hc : fa_cp 3 164 3 μ μc3 := fa_cp_s (j := 2) hc ec3 rfl rfl (by decide) (by decide) (by decide)
  refine pm_blk hK zmm28 [] 4 81 [(2, 3), (2, 164)] [(2, 7), (2, 168)] μc3 [] rfl trivial ?_
  refine pm_call hK zmm28 (91, 1, 29, 2) zM29 (1, 25) [(2, 168), (2, 7)] [] rfl rfl rfl rfl ⟨by omega, by rw [zn29]; omega⟩ (fc_ci7_168 hK hb7 hTc3 ⟨Nat.le_refl _, Nat.le_refl _⟩) (fun st4 μc4 hp4 => ?_)
  obtain ⟨rfl, hTc4, ec4⟩ := hp4
  have hc : fa_cp 3 164 4 μ μc4 := fa_cp_s (j := 3) hc ec4 rfl rfl (by decide) (by decide) (by decide)
  refine pm_blk hK zmm28 [] 4 92 [(2, 3), (2, 164)] [(2, 8), (2, 169)] μc4 [] rfl trivial ?_
  refine pm_call hK zmm28 (91, 1, 29, 2) zM29 (1, 25) [(2, 169), (2, 8)] [] rfl rfl rfl rfl ⟨by omega, by rw [zn29]; omega⟩ (fc_ci8_169 hK hb8 hTc4 ⟨Nat.le_refl _, Nat.le_refl _⟩) (fun st5 μc5 hp5 => ?_)
  obtain ⟨rfl, hTc5, ec5⟩ := hp5
  have hc : fa_cp 3 164 5 μ μc5 := fa_cp_s (j := 4) hc ec5 rfl rfl (by decide) (by decide) (by decide)
  refine pm_blk hK zmm28 [] 4 103 [(2, 3), (2, 164)] [(2, 9), (2, 170)] μc5 [] rfl trivial ?_
  refine pm_call hK zmm28 (91, 1, 29, 2) zM29 (1, 25) [(2, 170), (2, 9)] [] rfl rfl rfl rfl ⟨by omega, by rw [zn29]; omega⟩ (fc_ci9_170 hK hb9 hTc5 ⟨Nat.le_refl _, Nat.le_refl _⟩) (fun st6 μc6 hp6 => ?_)
  obtain ⟨rfl, hTc6, ec6⟩ := hp6
  have hc : fa_cp 3 164 6 μ μc6 := fa_cp_s (j := 5) hc ec6 rfl rfl (by decide) (by decide) (by decide)
  refine pm_blk hK zmm28 [] 4 114 [(2, 3), (2, 164)] [(2, 10), (2, 171)] μc6 [] rfl trivial ?_
  refine pm_call hK zmm28 (91, 1, 29, 2) zM29 (1, 25) [(2, 171), (2, 10)] [] rfl rfl rfl rfl ⟨by omega, by rw [zn29]; omega⟩ (fc_ci10_171 hK hb10 hTc6 ⟨Nat.le_refl _, Nat.le_refl _⟩) (fun st7 μc7 hp7 => ?_)
  obtain ⟨rfl, hTc7, ec7⟩ := hp7
  have hc : fa_cp 3 164 7 μ μc7 := fa_cp_s (j := 6) hc ec7 rfl rfl (by decide) (by decide) (by decide)
  refine pm_blk hK zmm28 [] 4 125 [(2, 3), (2, 164)] [(2, 11), (2, 172)] μc7 [] rfl trivial ?_
  refine pm_call hK zmm28 (91, 1, 29, 2) zM29 (1, 25) [(2, 172), (2, 11)] [] rfl rfl rfl rfl ⟨by omega, by rw [zn29]; omega⟩ (fc_ci11_172 hK hb11 hTc7 ⟨Nat.le_refl _, Nat.le_refl _⟩) (fun st8 μc8 hp8 => ?_)
  obtain ⟨rfl, hTc8, ec8⟩ := hp8
  have hc : fa_cp 3 164 8 μ μc8 := fa_cp_s (j := 7) hc ec8 rfl rfl (by decide) (by decide) (by decide)
  refine pm_blk hK zmm28 [] 4 136 [(2, 3), (2, 164)] [(2, 12), (2, 173)] μc8 [] rfl trivial ?_
  refine pm_call hK zmm28 (91, 1, 29, 2) zM29 (1, 25) [(2, 173), (2, 12)] [] rfl rfl rfl rfl ⟨by omega, by rw [zn29]; omega⟩ (fc_ci12_173 hK hb12 hTc8 ⟨Nat.le_refl _, Nat.le_refl _⟩) (fun st9 μc9 hp9 => ?_)
  obtain ⟨rfl, hTc9, ec9⟩ := hp9
  have hc : fa_cp 3 164 9 μ μc9 := fa_cp_s (j := 8) hc ec9 rfl rfl (by decide) (by decide) (by decide)
  refine pm_blk hK zmm28 [] 4 147 [(2, 3), (2, 164)] [(2, 13), (2, 174)] μc9 [] rfl trivial ?_
  refine pm_call hK zmm28 (91, 1, 29, 2) zM29 (1, 25) [(2, 174), (2, 13)] [] rfl rfl rfl rfl ⟨by omega, by rw [zn29]; omega⟩ (fc_ci13_174 hK hb13 hTc9 ⟨Nat.le_refl _, Nat.le_refl _⟩) (fun st10 μc10 hp10 => ?_)
  obtain ⟨rfl, hTc10, ec10⟩ := hp10
  have hc : fa_cp 3 164 10 μ μc10 := fa_cp_s (j := 9) hc ec10 rfl rfl (by decide) (by decide) (by decide)
  refine pm_blk hK zmm28 [] 4 158 [(2, 3), (2, 164)] [(2, 14), (2, 175)] μc10 [] rfl trivial ?_
  refine pm_call hK zmm28 (91, 1, 29, 2) zM29 (1, 25) [(2, 175), (2, 14)] [] rfl rfl rfl rfl ⟨by omega, by rw [zn29]; omega⟩ (fc_ci14_175 hK hb14 hTc10 ⟨Nat.le_refl _, Nat.le_refl _⟩) (fun st11 μc11 hp11 => ?_)
  obtain ⟨rfl, hTc11, ec11⟩ := hp11
  have hc : fa_cp 3 164 11 μ μc11 := fa_cp_s (j := 10) hc ec11 rfl rfl (by decide) (by decide) (by decide)
  refine pm_blk hK zmm28 [] 4 169 [(2, 3), (2, 164)] [(2, 15), (2, 176)] μc11 [] rfl trivial ?_
  refine pm_call hK zmm28 (91, 1, 29, 2) zM29 (1, 25) [(2, 176), (2, 15)] [] rfl rfl rfl rfl ⟨by omega, by rw [zn29]; omega⟩ (fc_ci15_176 hK hb15 hTc11 ⟨Nat.le_refl _, Nat.le_refl _⟩) (fun st12 μc12 hp12 => ?_)
  obtain ⟨rfl, hTc12, ec12⟩ := hp12
  have hc : fa_cp 3 164 12 μ μc12 := fa_cp_s (j := 11) hc ec12 rfl rfl (by decide) (by decide) (by decide)
  exact pm_vret rfl rfl ⟨rfl, hTc12, hc⟩
set_option maxRecDepth 100000 in
theorem fc_ac3_46 (hK : zKK ST) (hT : zTJ none μ) (hb3 : sx_bit Wm 3 = true) (hb4 : sx_bit Wm 4 = true) (hb5 : sx_bit Wm 5 = true) (hb6 : sx_bit Wm 6 = true) (hb7 : sx_bit Wm 7 = true) (hb8 : sx_bit Wm 8 = true) (hb9 : sx_bit Wm 9 = true) (hb10 : sx_bit Wm 10 = true) (hb11 : sx_bit Wm 11 = true) (hb12 : sx_bit Wm 12 = true) (hb13 : sx_bit Wm 13 = true) (hb14 : sx_bit Wm 14 = true) (hb15 : sx_bit Wm 15 = true) (hbd : 2 ≤ bud.1 ∧ 46 ≤ bud.2.1) : zC D Wm ST b0 l Sg zM28 bud [(2, 3), (2, 46)] μ (fun st' μ' => st' = [] ∧ zTJ none μ' ∧ fa_cp 3 46 12 μ μ') := by
  have hk : fa_cf 3 46 0 μ μ := fa_cf_0
  have f1 := zT_get hT zs46_0 (i := 0) (by omega) (by omega)
  refine pm_blk hK zmm28 [] 4 8 [(2, 3), (2, 46)] [] (pm_up μ 3 0 (μ 46 0)) [sx_bit Wm 3 = true] rfl ⟨hb3, trivial⟩ ?_
  obtain ⟨μ1, eμ1⟩ : ∃ μ', μ' = pm_up μ 3 0 (μ 46 0) := ⟨_, rfl⟩
  rw [← eμ1]
  have hTμ1 : zTJ none μ1 := by rw [eμ1]; exact zT_upn hT zs3_0 rfl (i := 0) (by omega) (by omega) (by omega) (by omega)
  have hk : fa_cf 3 46 1 μ μ1 := fa_cf_s (j := 0) hk eμ1 rfl (by decide)
  have g2 : μ1 46 1 = μ 46 1 := by rw [eμ1, pm_up_off (by decide)]
  have f3 := zT_get hTμ1 zs46_1 (i := 1) (by omega) (by omega)
  refine pm_blk hK zmm28 [] 4 16 [(2, 3), (2, 46)] [] (pm_up μ1 3 1 (μ1 46 1)) [sx_bit Wm 3 = true] rfl ⟨hb3, trivial⟩ ?_
  obtain ⟨μ2, eμ2⟩ : ∃ μ', μ' = pm_up μ1 3 1 (μ1 46 1) := ⟨_, rfl⟩
  rw [← eμ2]
  have hTμ2 : zTJ none μ2 := by rw [eμ2]; exact zT_upn hTμ1 zs3_1 rfl (i := 1) (by omega) (by omega) (by omega) (by omega)
  have hk : fa_cf 3 46 2 μ μ2 := fa_cf_s (j := 1) hk eμ2 rfl (by decide)
  have g4 : μ2 46 2 = μ 46 2 := by rw [eμ2, pm_up_off (by decide), eμ1, pm_up_off (by decide)]
  have f5 := zT_get hTμ2 zs46_2 (i := 2) (by omega) (by omega)
  refine pm_blk hK zmm28 [] 4 24 [(2, 3), (2, 46)] [] (pm_up μ2 3 2 (μ2 46 2)) [sx_bit Wm 3 = true] rfl ⟨hb3, trivial⟩ ?_
  obtain ⟨μ3, eμ3⟩ : ∃ μ', μ' = pm_up μ2 3 2 (μ2 46 2) := ⟨_, rfl⟩
  rw [← eμ3]
  have hTμ3 : zTJ none μ3 := by rw [eμ3]; exact zT_upn hTμ2 zs3_2 rfl (i := 2) (by omega) (by omega) (by omega) (by omega)
  have hk : fa_cf 3 46 3 μ μ3 := fa_cf_s (j := 2) hk eμ3 rfl (by decide)
  have g6 : μ3 46 3 = μ 46 3 := by rw [eμ3, pm_up_off (by decide), eμ2, pm_up_off (by decide), eμ1, pm_up_off (by decide)]
  have f7 := zT_get hTμ3 zs46_3 (i := 3) (by omega) (by omega)
  refine pm_blk hK zmm28 [] 4 32 [(2, 3), (2, 46)] [] (pm_up μ3 3 3 (μ3 46 3)) [sx_bit Wm 3 = true] rfl ⟨hb3, trivial⟩ ?_
  obtain ⟨μ4, eμ4⟩ : ∃ μ', μ' = pm_up μ3 3 3 (μ3 46 3) := ⟨_, rfl⟩
  rw [← eμ4]
  have hTμ4 : zTJ none μ4 := by rw [eμ4]; exact zT_upn hTμ3 zs3_3 rfl (i := 3) (by omega) (by omega) (by omega) (by omega)
  have hk : fa_cf 3 46 4 μ μ4 := fa_cf_s (j := 3) hk eμ4 rfl (by decide)
  have g8 : μ4 46 4 = μ 46 4 := by rw [eμ4, pm_up_off (by decide), eμ3, pm_up_off (by decide), eμ2, pm_up_off (by decide), eμ1, pm_up_off (by decide)]
  have f9 := zT_get hTμ4 zs46_4 (i := 4) (by omega) (by omega)
  refine pm_blk hK zmm28 [] 4 40 [(2, 3), (2, 46)] [] (pm_up μ4 3 4 (μ4 46 4)) [sx_bit Wm 3 = true] rfl ⟨hb3, trivial⟩ ?_
  obtain ⟨μ5, eμ5⟩ : ∃ μ', μ' = pm_up μ4 3 4 (μ4 46 4) := ⟨_, rfl⟩
  rw [← eμ5]
  have hTμ5 : zTJ none μ5 := by rw [eμ5]; exact zT_upn hTμ4 zs3_4 rfl (i := 4) (by omega) (by omega) (by omega) (by omega)
  have hk : fa_cf 3 46 5 μ μ5 := fa_cf_s (j := 4) hk eμ5 rfl (by decide)
  have hc := fa_cp_0 hk
  refine pm_blk hK zmm28 [] 4 48 [(2, 3), (2, 46)] [(2, 4), (2, 47)] μ5 [] rfl trivial ?_
  refine pm_call hK zmm28 (91, 1, 29, 2) zM29 (1, 25) [(2, 47), (2, 4)] [] rfl rfl rfl rfl ⟨by omega, by rw [zn29]; omega⟩ (fc_ci4_47 hK hb4 hTμ5 ⟨Nat.le_refl _, Nat.le_refl _⟩) (fun st1 μc1 hp1 => ?_)
  obtain ⟨rfl, hTc1, ec1⟩ := hp1
  have hc : fa_cp 3 46 1 μ μc1 := fa_cp_s (j := 0) hc ec1 rfl rfl (by decide) (by decide) (by decide)
  refine pm_blk hK zmm28 [] 4 59 [(2, 3), (2, 46)] [(2, 5), (2, 48)] μc1 [] rfl trivial ?_
  refine pm_call hK zmm28 (91, 1, 29, 2) zM29 (1, 25) [(2, 48), (2, 5)] [] rfl rfl rfl rfl ⟨by omega, by rw [zn29]; omega⟩ (fc_ci5_48 hK hb5 hTc1 ⟨Nat.le_refl _, Nat.le_refl _⟩) (fun st2 μc2 hp2 => ?_)
  obtain ⟨rfl, hTc2, ec2⟩ := hp2
  have hc : fa_cp 3 46 2 μ μc2 := fa_cp_s (j := 1) hc ec2 rfl rfl (by decide) (by decide) (by decide)
  refine pm_blk hK zmm28 [] 4 70 [(2, 3), (2, 46)] [(2, 6), (2, 49)] μc2 [] rfl trivial ?_
  refine pm_call hK zmm28 (91, 1, 29, 2) zM29 (1, 25) [(2, 49), (2, 6)] [] rfl rfl rfl rfl ⟨by omega, by rw [zn29]; omega⟩ (fc_ci6_49 hK hb6 hTc2 ⟨Nat.le_refl _, Nat.le_refl _⟩) (fun st3 μc3 hp3 => ?_)
  obtain ⟨rfl, hTc3, ec3⟩ := hp3
  have hc : fa_cp 3 46 3 μ μc3 := fa_cp_s (j := 2) hc ec3 rfl rfl (by decide) (by decide) (by decide)
  refine pm_blk hK zmm28 [] 4 81 [(2, 3), (2, 46)] [(2, 7), (2, 50)] μc3 [] rfl trivial ?_
  refine pm_call hK zmm28 (91, 1, 29, 2) zM29 (1, 25) [(2, 50), (2, 7)] [] rfl rfl rfl rfl ⟨by omega, by rw [zn29]; omega⟩ (fc_ci7_50 hK hb7 hTc3 ⟨Nat.le_refl _, Nat.le_refl _⟩) (fun st4 μc4 hp4 => ?_)
  obtain ⟨rfl, hTc4, ec4⟩ := hp4
  have hc : fa_cp 3 46 4 μ μc4 := fa_cp_s (j := 3) hc ec4 rfl rfl (by decide) (by decide) (by decide)
  refine pm_blk hK zmm28 [] 4 92 [(2, 3), (2, 46)] [(2, 8), (2, 51)] μc4 [] rfl trivial ?_
  refine pm_call hK zmm28 (91, 1, 29, 2) zM29 (1, 25) [(2, 51), (2, 8)] [] rfl rfl rfl rfl ⟨by omega, by rw [zn29]; omega⟩ (fc_ci8_51 hK hb8 hTc4 ⟨Nat.le_refl _, Nat.le_refl _⟩) (fun st5 μc5 hp5 => ?_)
  obtain ⟨rfl, hTc5, ec5⟩ := hp5
  have hc : fa_cp 3 46 5 μ μc5 := fa_cp_s (j := 4) hc ec5 rfl rfl (by decide) (by decide) (by decide)
  refine pm_blk hK zmm28 [] 4 103 [(2, 3), (2, 46)] [(2, 9), (2, 52)] μc5 [] rfl trivial ?_
  refine pm_call hK zmm28 (91, 1, 29, 2) zM29 (1, 25) [(2, 52), (2, 9)] [] rfl rfl rfl rfl ⟨by omega, by rw [zn29]; omega⟩ (fc_ci9_52 hK hb9 hTc5 ⟨Nat.le_refl _, Nat.le_refl _⟩) (fun st6 μc6 hp6 => ?_)
  obtain ⟨rfl, hTc6, ec6⟩ := hp6
  have hc : fa_cp 3 46 6 μ μc6 := fa_cp_s (j := 5) hc ec6 rfl rfl (by decide) (by decide) (by decide)
  refine pm_blk hK zmm28 [] 4 114 [(2, 3), (2, 46)] [(2, 10), (2, 53)] μc6 [] rfl trivial ?_
  refine pm_call hK zmm28 (91, 1, 29, 2) zM29 (1, 25) [(2, 53), (2, 10)] [] rfl rfl rfl rfl ⟨by omega, by rw [zn29]; omega⟩ (fc_ci10_53 hK hb10 hTc6 ⟨Nat.le_refl _, Nat.le_refl _⟩) (fun st7 μc7 hp7 => ?_)
  obtain ⟨rfl, hTc7, ec7⟩ := hp7
  have hc : fa_cp 3 46 7 μ μc7 := fa_cp_s (j := 6) hc ec7 rfl rfl (by decide) (by decide) (by decide)
  refine pm_blk hK zmm28 [] 4 125 [(2, 3), (2, 46)] [(2, 11), (2, 54)] μc7 [] rfl trivial ?_
  refine pm_call hK zmm28 (91, 1, 29, 2) zM29 (1, 25) [(2, 54), (2, 11)] [] rfl rfl rfl rfl ⟨by omega, by rw [zn29]; omega⟩ (fc_ci11_54 hK hb11 hTc7 ⟨Nat.le_refl _, Nat.le_refl _⟩) (fun st8 μc8 hp8 => ?_)
  obtain ⟨rfl, hTc8, ec8⟩ := hp8
  have hc : fa_cp 3 46 8 μ μc8 := fa_cp_s (j := 7) hc ec8 rfl rfl (by decide) (by decide) (by decide)
  refine pm_blk hK zmm28 [] 4 136 [(2, 3), (2, 46)] [(2, 12), (2, 55)] μc8 [] rfl trivial ?_
  refine pm_call hK zmm28 (91, 1, 29, 2) zM29 (1, 25) [(2, 55), (2, 12)] [] rfl rfl rfl rfl ⟨by omega, by rw [zn29]; omega⟩ (fc_ci12_55 hK hb12 hTc8 ⟨Nat.le_refl _, Nat.le_refl _⟩) (fun st9 μc9 hp9 => ?_)
  obtain ⟨rfl, hTc9, ec9⟩ := hp9
  have hc : fa_cp 3 46 9 μ μc9 := fa_cp_s (j := 8) hc ec9 rfl rfl (by decide) (by decide) (by decide)
  refine pm_blk hK zmm28 [] 4 147 [(2, 3), (2, 46)] [(2, 13), (2, 56)] μc9 [] rfl trivial ?_
  refine pm_call hK zmm28 (91, 1, 29, 2) zM29 (1, 25) [(2, 56), (2, 13)] [] rfl rfl rfl rfl ⟨by omega, by rw [zn29]; omega⟩ (fc_ci13_56 hK hb13 hTc9 ⟨Nat.le_refl _, Nat.le_refl _⟩) (fun st10 μc10 hp10 => ?_)
  obtain ⟨rfl, hTc10, ec10⟩ := hp10
  have hc : fa_cp 3 46 10 μ μc10 := fa_cp_s (j := 9) hc ec10 rfl rfl (by decide) (by decide) (by decide)
  refine pm_blk hK zmm28 [] 4 158 [(2, 3), (2, 46)] [(2, 14), (2, 57)] μc10 [] rfl trivial ?_
  refine pm_call hK zmm28 (91, 1, 29, 2) zM29 (1, 25) [(2, 57), (2, 14)] [] rfl rfl rfl rfl ⟨by omega, by rw [zn29]; omega⟩ (fc_ci14_57 hK hb14 hTc10 ⟨Nat.le_refl _, Nat.le_refl _⟩) (fun st11 μc11 hp11 => ?_)
  obtain ⟨rfl, hTc11, ec11⟩ := hp11
  have hc : fa_cp 3 46 11 μ μc11 := fa_cp_s (j := 10) hc ec11 rfl rfl (by decide) (by decide) (by decide)
  refine pm_blk hK zmm28 [] 4 169 [(2, 3), (2, 46)] [(2, 15), (2, 58)] μc11 [] rfl trivial ?_
  refine pm_call hK zmm28 (91, 1, 29, 2) zM29 (1, 25) [(2, 58), (2, 15)] [] rfl rfl rfl rfl ⟨by omega, by rw [zn29]; omega⟩ (fc_ci15_58 hK hb15 hTc11 ⟨Nat.le_refl _, Nat.le_refl _⟩) (fun st12 μc12 hp12 => ?_)
  obtain ⟨rfl, hTc12, ec12⟩ := hp12
  have hc : fa_cp 3 46 12 μ μc12 := fa_cp_s (j := 11) hc ec12 rfl rfl (by decide) (by decide) (by decide)
  exact pm_vret rfl rfl ⟨rfl, hTc12, hc⟩
end ZHW
