/-! F: the class: going back; walks printed by program (wip/p30/pmgen.py) and filled by hand -/
section ZHW
variable {D : va_G} {Wm : Nat} {ST : List (String × String × String × Nat)} {b0 : sx_B} {l : Launch} {Sg : Nat → Option Nat} {bud : sx_Bu} {μ : pm_Mem} {B0 : Nat → Prop} {J : (Nat → Option Nat) → Heap → Prop}
set_option maxRecDepth 100000 in
theorem fc_back (hK : zKK ST) (hT : zTJ none μ) {pol : Int → Int} {n m : Int} (hn0 : 0 ≤ n) (hm0 : 0 ≤ m) (hq : n ≤ 12 ∧ m ≤ 18) {Q : Int → Int} {u : Int} (hKp : fa_Kp n m pol Q u μ) (hb2 : sx_bit Wm 2 = true) (hb3 : sx_bit Wm 3 = true) (hb4 : sx_bit Wm 4 = true) (hb5 : sx_bit Wm 5 = true) (hb6 : sx_bit Wm 6 = true) (hb7 : sx_bit Wm 7 = true) (hb8 : sx_bit Wm 8 = true) (hb9 : sx_bit Wm 9 = true) (hb10 : sx_bit Wm 10 = true) (hb11 : sx_bit Wm 11 = true) (hb12 : sx_bit Wm 12 = true) (hb13 : sx_bit Wm 13 = true) (hb14 : sx_bit Wm 14 = true) (hb15 : sx_bit Wm 15 = true) (hb96 : sx_bit Wm 96 = true) (hbd : 3 ≤ bud.1 ∧ 67 ≤ bud.2.1) : zC D Wm ST b0 l Sg zM118 bud [(2, 96), (2, 2)] μ (fun st' μ' => ∃ x, st' = [(0, x)] ∧ zTJ none μ' ∧ ((u = 0 ∧ x = 0 ∧ μ' = μ) ∨ (u ≠ 0 ∧ x = 1 ∧ fa_A 3 n m (fa_row Q (u - 1)) pol μ' ∧ μ' 2 2 = fa_row Q (u - 1) 3 ∧ fa_Kp n m pol Q (u - 1) μ' ∧ fa_I n m (fa_row Q (u - 1)) ∧ fa_O m (fa_row Q (u - 1)) ∧ fa_fr fc_LB μ μ'))) := by
  have f92 := zT_get hT zs96_2 (i := 2) (by omega) (by omega)
  have f93 := zT_get hT zs96_3 (i := 3) (by omega) (by omega)
  have hu := hKp.1
  have hF : fa_fr fc_LB μ μ := fa_fr_0
  have hr9 : ∀ r, 99 ≤ r → r ≤ 176 → μ r = μ r := fun _ _ _ => rfl
  have f1 := zT_get hT zs96_3 (i := 3) (by omega) (by omega)
  refine pm_blk hK zmm118 [] 3 5 [(2, 96), (2, 2)] [(0, 1), (0, μ 96 3)] μ [] rfl trivial ?_
  refine pm_icmp hK zmm118 .ge 5 10 rfl rfl (fun h0 => ?_) (fun h0 => ?_)
  · have h0 : (1 : Int) ≤ μ 96 3 := h0
    have f2 := zT_get hT zs96_2 (i := 2) (by omega) (by omega)
    refine pm_blk hK zmm118 [] 3 15 [(2, 96), (2, 2)] [(0, μ 96 2), (2, 96)] μ [] rfl trivial ?_
    refine pm_if hK zmm118 .ne 7 22 rfl rfl (fun h1 => ?_) (fun h1 => ?_)
    · have h1 : μ 96 2 ≠ (0 : Int) := h1
      refine pm_blk hK zmm118 [] 5 31 [(2, 96), (2, 2)] [] (pm_up μ 96 2 ((μ 96 2) - 1)) [pm_in ((μ 96 2) - 1), sx_bit Wm 96 = true] rfl ⟨pm_in_mk (by omega) (by omega), hb96, trivial⟩ ?_
      obtain ⟨μ1, eμ1⟩ : ∃ μ', μ' = pm_up μ 96 2 ((μ 96 2) - 1) := ⟨_, rfl⟩
      rw [← eμ1]
      have hTμ1 : zTJ none μ1 := by rw [eμ1]; exact zT_upn hT zs96_2 rfl (i := 2) (by omega) (by omega) (by omega) (by omega)
      have hF := fa_fr_st hF eμ1 (by decide)
      have hr9 : ∀ r, 99 ≤ r → r ≤ 176 → μ1 r = μ r := fun r h1 h2 => Eq.trans (by rw [eμ1, pm_up_row (by omega)]) (hr9 r h1 h2)
      have d2 : μ1 96 2 = if μ 96 2 = 0 then 5 else μ 96 2 - 1 := by
        rw [eμ1, pm_up_eq]
        first
        | (rw [if_pos (by omega)]; done)
        | (rw [if_neg (by omega)]; done)
        | (exfalso; omega)
      have d3 : μ1 96 3 = μ 96 3 := by rw [eμ1, pm_up_ne (by decide)]
      have f3 := zT_get hTμ1 zs96_3 (i := 3) (by omega) (by omega)
      refine pm_blk hK zmm118 [] 6 41 [(2, 96), (2, 2)] [] (pm_up μ1 96 3 ((μ1 96 3) - 1)) [pm_in ((μ1 96 3) - 1), sx_bit Wm 96 = true] rfl ⟨pm_in_mk (by omega) (by omega), hb96, trivial⟩ ?_
      obtain ⟨μ2, eμ2⟩ : ∃ μ', μ' = pm_up μ1 96 3 ((μ1 96 3) - 1) := ⟨_, rfl⟩
      rw [← eμ2]
      have hTμ2 : zTJ none μ2 := by rw [eμ2]; exact zT_upn hTμ1 zs96_3 rfl (i := 3) (by omega) (by omega) (by omega) (by omega)
      have hF := fa_fr_st hF eμ2 (by decide)
      have hr9 : ∀ r, 99 ≤ r → r ≤ 176 → μ2 r = μ r := fun r h1 h2 => Eq.trans (by rw [eμ2, pm_up_row (by omega)]) (hr9 r h1 h2)
      have d2 : μ2 96 2 = if μ 96 2 = 0 then 5 else μ 96 2 - 1 := by rw [eμ2, pm_up_ne (by decide)]; exact d2
      have d3 : μ2 96 3 = μ 96 3 - 1 := by rw [eμ2, pm_up_eq, d3]
      have d4 : 0 ≤ μ2 96 2 ∧ μ2 96 2 ≤ 5 := by rw [d2]; split <;> omega
      have n98 : μ2 98 = μ 98 := by rw [eμ2, pm_up_row (by decide), eμ1, pm_up_row (by decide)]
      have f4 := zT_get hTμ2 zs96_2 (i := 2) (by omega) (by omega)
      refine pm_blk hK zmm118 [] 6 53 [(2, 96), (2, 2)] [(0, μ2 96 2), (2, 97), (2, 3)] μ2 [] rfl trivial ?_
      have hk2 : μ2 96 2 = ((0 : Nat) : Int) ∨ μ2 96 2 = ((1 : Nat) : Int) ∨ μ2 96 2 = ((2 : Nat) : Int) ∨ μ2 96 2 = ((3 : Nat) : Int) ∨ μ2 96 2 = ((4 : Nat) : Int) ∨ μ2 96 2 = ((5 : Nat) : Int) := by omega
      rcases hk2 with hk2 | hk2 | hk2 | hk2 | hk2 | hk2
      · refine zp_aald hK zmm118 (r := 97) (q := 99) (k := 0) (g := zG97) (t := (2, 99, 0)) rfl rfl (by decide) hk2 rfl rfl rfl rfl ?_
        refine pm_call hK zmm118 (33, 0, 28, 1) zM28 (2, 46) [(2, 3), (2, 99)] [] rfl rfl rfl rfl ⟨by omega, by rw [zn28]; omega⟩ (fc_ac3_99 hK hTμ2 hb3 hb4 hb5 hb6 hb7 hb8 hb9 hb10 hb11 hb12 hb13 hb14 hb15 ⟨Nat.le_refl _, Nat.le_refl _⟩) (fun st1 μc1 hp1 => ?_)
        obtain ⟨rfl, hTc1, hc1⟩ := hp1
        obtain ⟨⟨kA, kb, kI, kO⟩, kK⟩ := fa_Kp_back (k0 := 0) hKp (by decide) (hk2.symm.trans d2) (by omega)
        have kA1 := fa_A_fr kA (fun r h1 h2 => hr9 r (by omega) (by omega))
        have hA3 := fa_cp_A hq hc1 kA1
        have hcc := hc1.2.2
        have hF := fa_fr_t hF (fa_fr_cp (L := fc_LB) hc1 (by decide))
        have d2c : μc1 96 2 = ((0 : Nat) : Int) := by rw [hcc 96 (by decide)]; exact hk2
        have d3c : μc1 96 3 = μ 96 3 - 1 := by rw [hcc 96 (by decide)]; exact d3
        have n98 : μc1 98 = μ 98 := by rw [hcc 98 (by decide)]; exact n98
        have hr9 : ∀ r, 99 ≤ r → r ≤ 176 → μc1 r = μ r := fun r h1 h2 => by rw [hcc r (by omega)]; exact hr9 r h1 h2
        have f5 := zT_get hTc1 zs96_2 (i := 2) (by omega) (by omega)
        have f6 := zT_get hTc1 zs98_0 (i := μc1 96 2) (by omega) (by omega)
        refine pm_blk hK zmm118 [] 7 70 [(2, 96), (2, 2)] [] (pm_up μc1 2 2 (μc1 98 (μc1 96 2))) [0 ≤ μc1 96 2 ∧ μc1 96 2 < 6, sx_bit Wm 2 = true] rfl ⟨⟨by omega, by omega⟩, hb2, trivial⟩ ?_
        obtain ⟨μ3, eμ3⟩ : ∃ μ', μ' = pm_up μc1 2 2 (μc1 98 (μc1 96 2)) := ⟨_, rfl⟩
        rw [← eμ3]
        have hTμ3 : zTJ none μ3 := by rw [eμ3]; exact zT_upn hTc1 zs2_2 rfl (i := 2) (by omega) (by omega) (by omega) (by omega)
        have hF := fa_fr_st hF eμ3 (by decide)
        refine pm_blk hK zmm118 [] 1 71 [(2, 96), (2, 2)] [(0, 1)] μ3 [] rfl trivial ?_
        exact pm_zret rfl rfl (by first | exact Or.inl rfl | exact Or.inr rfl | omega) ⟨_, rfl, hTμ3, Or.inr ⟨by omega, rfl, fa_A_fr hA3 (fun r h1 h2 => by rw [eμ3, pm_up_row (by omega)]), by rw [eμ3, pm_up_eq, d2c, n98]; exact kb, kK _ (by rw [eμ3, pm_up_off (by decide)]; exact d2c) (by rw [eμ3, pm_up_off (by decide)]; exact d3c) (by rw [eμ3, pm_up_row (by decide)]; exact n98) (fun r h1 h2 => by rw [eμ3, pm_up_row (by omega)]; exact hr9 r h1 h2), kI, kO, hF⟩⟩
      · refine zp_aald hK zmm118 (r := 97) (q := 112) (k := 1) (g := zG97) (t := (2, 112, 0)) rfl rfl (by decide) hk2 rfl rfl rfl rfl ?_
        refine pm_call hK zmm118 (33, 0, 28, 1) zM28 (2, 46) [(2, 3), (2, 112)] [] rfl rfl rfl rfl ⟨by omega, by rw [zn28]; omega⟩ (fc_ac3_112 hK hTμ2 hb3 hb4 hb5 hb6 hb7 hb8 hb9 hb10 hb11 hb12 hb13 hb14 hb15 ⟨Nat.le_refl _, Nat.le_refl _⟩) (fun st2 μc2 hp2 => ?_)
        obtain ⟨rfl, hTc2, hc2⟩ := hp2
        obtain ⟨⟨kA, kb, kI, kO⟩, kK⟩ := fa_Kp_back (k0 := 1) hKp (by decide) (hk2.symm.trans d2) (by omega)
        have kA1 := fa_A_fr kA (fun r h1 h2 => hr9 r (by omega) (by omega))
        have hA3 := fa_cp_A hq hc2 kA1
        have hcc := hc2.2.2
        have hF := fa_fr_t hF (fa_fr_cp (L := fc_LB) hc2 (by decide))
        have d2c : μc2 96 2 = ((1 : Nat) : Int) := by rw [hcc 96 (by decide)]; exact hk2
        have d3c : μc2 96 3 = μ 96 3 - 1 := by rw [hcc 96 (by decide)]; exact d3
        have n98 : μc2 98 = μ 98 := by rw [hcc 98 (by decide)]; exact n98
        have hr9 : ∀ r, 99 ≤ r → r ≤ 176 → μc2 r = μ r := fun r h1 h2 => by rw [hcc r (by omega)]; exact hr9 r h1 h2
        have f7 := zT_get hTc2 zs96_2 (i := 2) (by omega) (by omega)
        have f8 := zT_get hTc2 zs98_0 (i := μc2 96 2) (by omega) (by omega)
        refine pm_blk hK zmm118 [] 7 70 [(2, 96), (2, 2)] [] (pm_up μc2 2 2 (μc2 98 (μc2 96 2))) [0 ≤ μc2 96 2 ∧ μc2 96 2 < 6, sx_bit Wm 2 = true] rfl ⟨⟨by omega, by omega⟩, hb2, trivial⟩ ?_
        obtain ⟨μ4, eμ4⟩ : ∃ μ', μ' = pm_up μc2 2 2 (μc2 98 (μc2 96 2)) := ⟨_, rfl⟩
        rw [← eμ4]
        have hTμ4 : zTJ none μ4 := by rw [eμ4]; exact zT_upn hTc2 zs2_2 rfl (i := 2) (by omega) (by omega) (by omega) (by omega)
        have hF := fa_fr_st hF eμ4 (by decide)
        refine pm_blk hK zmm118 [] 1 71 [(2, 96), (2, 2)] [(0, 1)] μ4 [] rfl trivial ?_
        exact pm_zret rfl rfl (by first | exact Or.inl rfl | exact Or.inr rfl | omega) ⟨_, rfl, hTμ4, Or.inr ⟨by omega, rfl, fa_A_fr hA3 (fun r h1 h2 => by rw [eμ4, pm_up_row (by omega)]), by rw [eμ4, pm_up_eq, d2c, n98]; exact kb, kK _ (by rw [eμ4, pm_up_off (by decide)]; exact d2c) (by rw [eμ4, pm_up_off (by decide)]; exact d3c) (by rw [eμ4, pm_up_row (by decide)]; exact n98) (fun r h1 h2 => by rw [eμ4, pm_up_row (by omega)]; exact hr9 r h1 h2), kI, kO, hF⟩⟩
      · refine zp_aald hK zmm118 (r := 97) (q := 125) (k := 2) (g := zG97) (t := (2, 125, 0)) rfl rfl (by decide) hk2 rfl rfl rfl rfl ?_
        refine pm_call hK zmm118 (33, 0, 28, 1) zM28 (2, 46) [(2, 3), (2, 125)] [] rfl rfl rfl rfl ⟨by omega, by rw [zn28]; omega⟩ (fc_ac3_125 hK hTμ2 hb3 hb4 hb5 hb6 hb7 hb8 hb9 hb10 hb11 hb12 hb13 hb14 hb15 ⟨Nat.le_refl _, Nat.le_refl _⟩) (fun st3 μc3 hp3 => ?_)
        obtain ⟨rfl, hTc3, hc3⟩ := hp3
        obtain ⟨⟨kA, kb, kI, kO⟩, kK⟩ := fa_Kp_back (k0 := 2) hKp (by decide) (hk2.symm.trans d2) (by omega)
        have kA1 := fa_A_fr kA (fun r h1 h2 => hr9 r (by omega) (by omega))
        have hA3 := fa_cp_A hq hc3 kA1
        have hcc := hc3.2.2
        have hF := fa_fr_t hF (fa_fr_cp (L := fc_LB) hc3 (by decide))
        have d2c : μc3 96 2 = ((2 : Nat) : Int) := by rw [hcc 96 (by decide)]; exact hk2
        have d3c : μc3 96 3 = μ 96 3 - 1 := by rw [hcc 96 (by decide)]; exact d3
        have n98 : μc3 98 = μ 98 := by rw [hcc 98 (by decide)]; exact n98
        have hr9 : ∀ r, 99 ≤ r → r ≤ 176 → μc3 r = μ r := fun r h1 h2 => by rw [hcc r (by omega)]; exact hr9 r h1 h2
        have f9 := zT_get hTc3 zs96_2 (i := 2) (by omega) (by omega)
        have f10 := zT_get hTc3 zs98_0 (i := μc3 96 2) (by omega) (by omega)
        refine pm_blk hK zmm118 [] 7 70 [(2, 96), (2, 2)] [] (pm_up μc3 2 2 (μc3 98 (μc3 96 2))) [0 ≤ μc3 96 2 ∧ μc3 96 2 < 6, sx_bit Wm 2 = true] rfl ⟨⟨by omega, by omega⟩, hb2, trivial⟩ ?_
        obtain ⟨μ5, eμ5⟩ : ∃ μ', μ' = pm_up μc3 2 2 (μc3 98 (μc3 96 2)) := ⟨_, rfl⟩
        rw [← eμ5]
        have hTμ5 : zTJ none μ5 := by rw [eμ5]; exact zT_upn hTc3 zs2_2 rfl (i := 2) (by omega) (by omega) (by omega) (by omega)
        have hF := fa_fr_st hF eμ5 (by decide)
        refine pm_blk hK zmm118 [] 1 71 [(2, 96), (2, 2)] [(0, 1)] μ5 [] rfl trivial ?_
        exact pm_zret rfl rfl (by first | exact Or.inl rfl | exact Or.inr rfl | omega) ⟨_, rfl, hTμ5, Or.inr ⟨by omega, rfl, fa_A_fr hA3 (fun r h1 h2 => by rw [eμ5, pm_up_row (by omega)]), by rw [eμ5, pm_up_eq, d2c, n98]; exact kb, kK _ (by rw [eμ5, pm_up_off (by decide)]; exact d2c) (by rw [eμ5, pm_up_off (by decide)]; exact d3c) (by rw [eμ5, pm_up_row (by decide)]; exact n98) (fun r h1 h2 => by rw [eμ5, pm_up_row (by omega)]; exact hr9 r h1 h2), kI, kO, hF⟩⟩
      · refine zp_aald hK zmm118 (r := 97) (q := 138) (k := 3) (g := zG97) (t := (2, 138, 0)) rfl rfl (by decide) hk2 rfl rfl rfl rfl ?_
        refine pm_call hK zmm118 (33, 0, 28, 1) zM28 (2, 46) [(2, 3), (2, 138)] [] rfl rfl rfl rfl ⟨by omega, by rw [zn28]; omega⟩ (fc_ac3_138 hK hTμ2 hb3 hb4 hb5 hb6 hb7 hb8 hb9 hb10 hb11 hb12 hb13 hb14 hb15 ⟨Nat.le_refl _, Nat.le_refl _⟩) (fun st4 μc4 hp4 => ?_)
        obtain ⟨rfl, hTc4, hc4⟩ := hp4
        obtain ⟨⟨kA, kb, kI, kO⟩, kK⟩ := fa_Kp_back (k0 := 3) hKp (by decide) (hk2.symm.trans d2) (by omega)
        have kA1 := fa_A_fr kA (fun r h1 h2 => hr9 r (by omega) (by omega))
        have hA3 := fa_cp_A hq hc4 kA1
        have hcc := hc4.2.2
        have hF := fa_fr_t hF (fa_fr_cp (L := fc_LB) hc4 (by decide))
        have d2c : μc4 96 2 = ((3 : Nat) : Int) := by rw [hcc 96 (by decide)]; exact hk2
        have d3c : μc4 96 3 = μ 96 3 - 1 := by rw [hcc 96 (by decide)]; exact d3
        have n98 : μc4 98 = μ 98 := by rw [hcc 98 (by decide)]; exact n98
        have hr9 : ∀ r, 99 ≤ r → r ≤ 176 → μc4 r = μ r := fun r h1 h2 => by rw [hcc r (by omega)]; exact hr9 r h1 h2
        have f11 := zT_get hTc4 zs96_2 (i := 2) (by omega) (by omega)
        have f12 := zT_get hTc4 zs98_0 (i := μc4 96 2) (by omega) (by omega)
        refine pm_blk hK zmm118 [] 7 70 [(2, 96), (2, 2)] [] (pm_up μc4 2 2 (μc4 98 (μc4 96 2))) [0 ≤ μc4 96 2 ∧ μc4 96 2 < 6, sx_bit Wm 2 = true] rfl ⟨⟨by omega, by omega⟩, hb2, trivial⟩ ?_
        obtain ⟨μ6, eμ6⟩ : ∃ μ', μ' = pm_up μc4 2 2 (μc4 98 (μc4 96 2)) := ⟨_, rfl⟩
        rw [← eμ6]
        have hTμ6 : zTJ none μ6 := by rw [eμ6]; exact zT_upn hTc4 zs2_2 rfl (i := 2) (by omega) (by omega) (by omega) (by omega)
        have hF := fa_fr_st hF eμ6 (by decide)
        refine pm_blk hK zmm118 [] 1 71 [(2, 96), (2, 2)] [(0, 1)] μ6 [] rfl trivial ?_
        exact pm_zret rfl rfl (by first | exact Or.inl rfl | exact Or.inr rfl | omega) ⟨_, rfl, hTμ6, Or.inr ⟨by omega, rfl, fa_A_fr hA3 (fun r h1 h2 => by rw [eμ6, pm_up_row (by omega)]), by rw [eμ6, pm_up_eq, d2c, n98]; exact kb, kK _ (by rw [eμ6, pm_up_off (by decide)]; exact d2c) (by rw [eμ6, pm_up_off (by decide)]; exact d3c) (by rw [eμ6, pm_up_row (by decide)]; exact n98) (fun r h1 h2 => by rw [eμ6, pm_up_row (by omega)]; exact hr9 r h1 h2), kI, kO, hF⟩⟩
      · refine zp_aald hK zmm118 (r := 97) (q := 151) (k := 4) (g := zG97) (t := (2, 151, 0)) rfl rfl (by decide) hk2 rfl rfl rfl rfl ?_
        refine pm_call hK zmm118 (33, 0, 28, 1) zM28 (2, 46) [(2, 3), (2, 151)] [] rfl rfl rfl rfl ⟨by omega, by rw [zn28]; omega⟩ (fc_ac3_151 hK hTμ2 hb3 hb4 hb5 hb6 hb7 hb8 hb9 hb10 hb11 hb12 hb13 hb14 hb15 ⟨Nat.le_refl _, Nat.le_refl _⟩) (fun st5 μc5 hp5 => ?_)
        obtain ⟨rfl, hTc5, hc5⟩ := hp5
        obtain ⟨⟨kA, kb, kI, kO⟩, kK⟩ := fa_Kp_back (k0 := 4) hKp (by decide) (hk2.symm.trans d2) (by omega)
        have kA1 := fa_A_fr kA (fun r h1 h2 => hr9 r (by omega) (by omega))
        have hA3 := fa_cp_A hq hc5 kA1
        have hcc := hc5.2.2
        have hF := fa_fr_t hF (fa_fr_cp (L := fc_LB) hc5 (by decide))
        have d2c : μc5 96 2 = ((4 : Nat) : Int) := by rw [hcc 96 (by decide)]; exact hk2
        have d3c : μc5 96 3 = μ 96 3 - 1 := by rw [hcc 96 (by decide)]; exact d3
        have n98 : μc5 98 = μ 98 := by rw [hcc 98 (by decide)]; exact n98
        have hr9 : ∀ r, 99 ≤ r → r ≤ 176 → μc5 r = μ r := fun r h1 h2 => by rw [hcc r (by omega)]; exact hr9 r h1 h2
        have f13 := zT_get hTc5 zs96_2 (i := 2) (by omega) (by omega)
        have f14 := zT_get hTc5 zs98_0 (i := μc5 96 2) (by omega) (by omega)
        refine pm_blk hK zmm118 [] 7 70 [(2, 96), (2, 2)] [] (pm_up μc5 2 2 (μc5 98 (μc5 96 2))) [0 ≤ μc5 96 2 ∧ μc5 96 2 < 6, sx_bit Wm 2 = true] rfl ⟨⟨by omega, by omega⟩, hb2, trivial⟩ ?_
        obtain ⟨μ7, eμ7⟩ : ∃ μ', μ' = pm_up μc5 2 2 (μc5 98 (μc5 96 2)) := ⟨_, rfl⟩
        rw [← eμ7]
        have hTμ7 : zTJ none μ7 := by rw [eμ7]; exact zT_upn hTc5 zs2_2 rfl (i := 2) (by omega) (by omega) (by omega) (by omega)
        have hF := fa_fr_st hF eμ7 (by decide)
        refine pm_blk hK zmm118 [] 1 71 [(2, 96), (2, 2)] [(0, 1)] μ7 [] rfl trivial ?_
        exact pm_zret rfl rfl (by first | exact Or.inl rfl | exact Or.inr rfl | omega) ⟨_, rfl, hTμ7, Or.inr ⟨by omega, rfl, fa_A_fr hA3 (fun r h1 h2 => by rw [eμ7, pm_up_row (by omega)]), by rw [eμ7, pm_up_eq, d2c, n98]; exact kb, kK _ (by rw [eμ7, pm_up_off (by decide)]; exact d2c) (by rw [eμ7, pm_up_off (by decide)]; exact d3c) (by rw [eμ7, pm_up_row (by decide)]; exact n98) (fun r h1 h2 => by rw [eμ7, pm_up_row (by omega)]; exact hr9 r h1 h2), kI, kO, hF⟩⟩
      · refine zp_aald hK zmm118 (r := 97) (q := 164) (k := 5) (g := zG97) (t := (2, 164, 0)) rfl rfl (by decide) hk2 rfl rfl rfl rfl ?_
        refine pm_call hK zmm118 (33, 0, 28, 1) zM28 (2, 46) [(2, 3), (2, 164)] [] rfl rfl rfl rfl ⟨by omega, by rw [zn28]; omega⟩ (fc_ac3_164 hK hTμ2 hb3 hb4 hb5 hb6 hb7 hb8 hb9 hb10 hb11 hb12 hb13 hb14 hb15 ⟨Nat.le_refl _, Nat.le_refl _⟩) (fun st6 μc6 hp6 => ?_)
        obtain ⟨rfl, hTc6, hc6⟩ := hp6
        obtain ⟨⟨kA, kb, kI, kO⟩, kK⟩ := fa_Kp_back (k0 := 5) hKp (by decide) (hk2.symm.trans d2) (by omega)
        have kA1 := fa_A_fr kA (fun r h1 h2 => hr9 r (by omega) (by omega))
        have hA3 := fa_cp_A hq hc6 kA1
        have hcc := hc6.2.2
        have hF := fa_fr_t hF (fa_fr_cp (L := fc_LB) hc6 (by decide))
        have d2c : μc6 96 2 = ((5 : Nat) : Int) := by rw [hcc 96 (by decide)]; exact hk2
        have d3c : μc6 96 3 = μ 96 3 - 1 := by rw [hcc 96 (by decide)]; exact d3
        have n98 : μc6 98 = μ 98 := by rw [hcc 98 (by decide)]; exact n98
        have hr9 : ∀ r, 99 ≤ r → r ≤ 176 → μc6 r = μ r := fun r h1 h2 => by rw [hcc r (by omega)]; exact hr9 r h1 h2
        have f15 := zT_get hTc6 zs96_2 (i := 2) (by omega) (by omega)
        have f16 := zT_get hTc6 zs98_0 (i := μc6 96 2) (by omega) (by omega)
        refine pm_blk hK zmm118 [] 7 70 [(2, 96), (2, 2)] [] (pm_up μc6 2 2 (μc6 98 (μc6 96 2))) [0 ≤ μc6 96 2 ∧ μc6 96 2 < 6, sx_bit Wm 2 = true] rfl ⟨⟨by omega, by omega⟩, hb2, trivial⟩ ?_
        obtain ⟨μ8, eμ8⟩ : ∃ μ', μ' = pm_up μc6 2 2 (μc6 98 (μc6 96 2)) := ⟨_, rfl⟩
        rw [← eμ8]
        have hTμ8 : zTJ none μ8 := by rw [eμ8]; exact zT_upn hTc6 zs2_2 rfl (i := 2) (by omega) (by omega) (by omega) (by omega)
        have hF := fa_fr_st hF eμ8 (by decide)
        refine pm_blk hK zmm118 [] 1 71 [(2, 96), (2, 2)] [(0, 1)] μ8 [] rfl trivial ?_
        exact pm_zret rfl rfl (by first | exact Or.inl rfl | exact Or.inr rfl | omega) ⟨_, rfl, hTμ8, Or.inr ⟨by omega, rfl, fa_A_fr hA3 (fun r h1 h2 => by rw [eμ8, pm_up_row (by omega)]), by rw [eμ8, pm_up_eq, d2c, n98]; exact kb, kK _ (by rw [eμ8, pm_up_off (by decide)]; exact d2c) (by rw [eμ8, pm_up_off (by decide)]; exact d3c) (by rw [eμ8, pm_up_row (by decide)]; exact n98) (fun r h1 h2 => by rw [eμ8, pm_up_row (by omega)]; exact hr9 r h1 h2), kI, kO, hF⟩⟩
    · have h1 : μ 96 2 = (0 : Int) := h1
      refine pm_blk hK zmm118 [] 3 31 [(2, 96), (2, 2)] [] (pm_up μ 96 2 5) [sx_bit Wm 96 = true] rfl ⟨hb96, trivial⟩ ?_
      obtain ⟨μ9, eμ9⟩ : ∃ μ', μ' = pm_up μ 96 2 5 := ⟨_, rfl⟩
      rw [← eμ9]
      have hTμ9 : zTJ none μ9 := by rw [eμ9]; exact zT_upn hT zs96_2 rfl (i := 2) (by omega) (by omega) (by omega) (by omega)
      have hF := fa_fr_st hF eμ9 (by decide)
      have hr9 : ∀ r, 99 ≤ r → r ≤ 176 → μ9 r = μ r := fun r h1 h2 => Eq.trans (by rw [eμ9, pm_up_row (by omega)]) (hr9 r h1 h2)
      have d2 : μ9 96 2 = if μ 96 2 = 0 then 5 else μ 96 2 - 1 := by
        rw [eμ9, pm_up_eq]
        first
        | (rw [if_pos (by omega)]; done)
        | (rw [if_neg (by omega)]; done)
        | (exfalso; omega)
      have d3 : μ9 96 3 = μ 96 3 := by rw [eμ9, pm_up_ne (by decide)]
      have f17 := zT_get hTμ9 zs96_3 (i := 3) (by omega) (by omega)
      refine pm_blk hK zmm118 [] 6 41 [(2, 96), (2, 2)] [] (pm_up μ9 96 3 ((μ9 96 3) - 1)) [pm_in ((μ9 96 3) - 1), sx_bit Wm 96 = true] rfl ⟨pm_in_mk (by omega) (by omega), hb96, trivial⟩ ?_
      obtain ⟨μ10, eμ10⟩ : ∃ μ', μ' = pm_up μ9 96 3 ((μ9 96 3) - 1) := ⟨_, rfl⟩
      rw [← eμ10]
      have hTμ10 : zTJ none μ10 := by rw [eμ10]; exact zT_upn hTμ9 zs96_3 rfl (i := 3) (by omega) (by omega) (by omega) (by omega)
      have hF := fa_fr_st hF eμ10 (by decide)
      have hr9 : ∀ r, 99 ≤ r → r ≤ 176 → μ10 r = μ r := fun r h1 h2 => Eq.trans (by rw [eμ10, pm_up_row (by omega)]) (hr9 r h1 h2)
      have d2 : μ10 96 2 = if μ 96 2 = 0 then 5 else μ 96 2 - 1 := by rw [eμ10, pm_up_ne (by decide)]; exact d2
      have d3 : μ10 96 3 = μ 96 3 - 1 := by rw [eμ10, pm_up_eq, d3]
      have d4 : 0 ≤ μ10 96 2 ∧ μ10 96 2 ≤ 5 := by rw [d2]; split <;> omega
      have n98 : μ10 98 = μ 98 := by rw [eμ10, pm_up_row (by decide), eμ9, pm_up_row (by decide)]
      have f18 := zT_get hTμ10 zs96_2 (i := 2) (by omega) (by omega)
      refine pm_blk hK zmm118 [] 6 53 [(2, 96), (2, 2)] [(0, μ10 96 2), (2, 97), (2, 3)] μ10 [] rfl trivial ?_
      have hk3 : μ10 96 2 = ((0 : Nat) : Int) ∨ μ10 96 2 = ((1 : Nat) : Int) ∨ μ10 96 2 = ((2 : Nat) : Int) ∨ μ10 96 2 = ((3 : Nat) : Int) ∨ μ10 96 2 = ((4 : Nat) : Int) ∨ μ10 96 2 = ((5 : Nat) : Int) := by omega
      rcases hk3 with hk3 | hk3 | hk3 | hk3 | hk3 | hk3
      · refine zp_aald hK zmm118 (r := 97) (q := 99) (k := 0) (g := zG97) (t := (2, 99, 0)) rfl rfl (by decide) hk3 rfl rfl rfl rfl ?_
        refine pm_call hK zmm118 (33, 0, 28, 1) zM28 (2, 46) [(2, 3), (2, 99)] [] rfl rfl rfl rfl ⟨by omega, by rw [zn28]; omega⟩ (fc_ac3_99 hK hTμ10 hb3 hb4 hb5 hb6 hb7 hb8 hb9 hb10 hb11 hb12 hb13 hb14 hb15 ⟨Nat.le_refl _, Nat.le_refl _⟩) (fun st7 μc7 hp7 => ?_)
        obtain ⟨rfl, hTc7, hc7⟩ := hp7
        obtain ⟨⟨kA, kb, kI, kO⟩, kK⟩ := fa_Kp_back (k0 := 0) hKp (by decide) (hk3.symm.trans d2) (by omega)
        have kA1 := fa_A_fr kA (fun r h1 h2 => hr9 r (by omega) (by omega))
        have hA3 := fa_cp_A hq hc7 kA1
        have hcc := hc7.2.2
        have hF := fa_fr_t hF (fa_fr_cp (L := fc_LB) hc7 (by decide))
        have d2c : μc7 96 2 = ((0 : Nat) : Int) := by rw [hcc 96 (by decide)]; exact hk3
        have d3c : μc7 96 3 = μ 96 3 - 1 := by rw [hcc 96 (by decide)]; exact d3
        have n98 : μc7 98 = μ 98 := by rw [hcc 98 (by decide)]; exact n98
        have hr9 : ∀ r, 99 ≤ r → r ≤ 176 → μc7 r = μ r := fun r h1 h2 => by rw [hcc r (by omega)]; exact hr9 r h1 h2
        have f19 := zT_get hTc7 zs96_2 (i := 2) (by omega) (by omega)
        have f20 := zT_get hTc7 zs98_0 (i := μc7 96 2) (by omega) (by omega)
        refine pm_blk hK zmm118 [] 7 70 [(2, 96), (2, 2)] [] (pm_up μc7 2 2 (μc7 98 (μc7 96 2))) [0 ≤ μc7 96 2 ∧ μc7 96 2 < 6, sx_bit Wm 2 = true] rfl ⟨⟨by omega, by omega⟩, hb2, trivial⟩ ?_
        obtain ⟨μ11, eμ11⟩ : ∃ μ', μ' = pm_up μc7 2 2 (μc7 98 (μc7 96 2)) := ⟨_, rfl⟩
        rw [← eμ11]
        have hTμ11 : zTJ none μ11 := by rw [eμ11]; exact zT_upn hTc7 zs2_2 rfl (i := 2) (by omega) (by omega) (by omega) (by omega)
        have hF := fa_fr_st hF eμ11 (by decide)
        refine pm_blk hK zmm118 [] 1 71 [(2, 96), (2, 2)] [(0, 1)] μ11 [] rfl trivial ?_
        exact pm_zret rfl rfl (by first | exact Or.inl rfl | exact Or.inr rfl | omega) ⟨_, rfl, hTμ11, Or.inr ⟨by omega, rfl, fa_A_fr hA3 (fun r h1 h2 => by rw [eμ11, pm_up_row (by omega)]), by rw [eμ11, pm_up_eq, d2c, n98]; exact kb, kK _ (by rw [eμ11, pm_up_off (by decide)]; exact d2c) (by rw [eμ11, pm_up_off (by decide)]; exact d3c) (by rw [eμ11, pm_up_row (by decide)]; exact n98) (fun r h1 h2 => by rw [eμ11, pm_up_row (by omega)]; exact hr9 r h1 h2), kI, kO, hF⟩⟩
      · refine zp_aald hK zmm118 (r := 97) (q := 112) (k := 1) (g := zG97) (t := (2, 112, 0)) rfl rfl (by decide) hk3 rfl rfl rfl rfl ?_
        refine pm_call hK zmm118 (33, 0, 28, 1) zM28 (2, 46) [(2, 3), (2, 112)] [] rfl rfl rfl rfl ⟨by omega, by rw [zn28]; omega⟩ (fc_ac3_112 hK hTμ10 hb3 hb4 hb5 hb6 hb7 hb8 hb9 hb10 hb11 hb12 hb13 hb14 hb15 ⟨Nat.le_refl _, Nat.le_refl _⟩) (fun st8 μc8 hp8 => ?_)
        obtain ⟨rfl, hTc8, hc8⟩ := hp8
        obtain ⟨⟨kA, kb, kI, kO⟩, kK⟩ := fa_Kp_back (k0 := 1) hKp (by decide) (hk3.symm.trans d2) (by omega)
        have kA1 := fa_A_fr kA (fun r h1 h2 => hr9 r (by omega) (by omega))
        have hA3 := fa_cp_A hq hc8 kA1
        have hcc := hc8.2.2
        have hF := fa_fr_t hF (fa_fr_cp (L := fc_LB) hc8 (by decide))
        have d2c : μc8 96 2 = ((1 : Nat) : Int) := by rw [hcc 96 (by decide)]; exact hk3
        have d3c : μc8 96 3 = μ 96 3 - 1 := by rw [hcc 96 (by decide)]; exact d3
        have n98 : μc8 98 = μ 98 := by rw [hcc 98 (by decide)]; exact n98
        have hr9 : ∀ r, 99 ≤ r → r ≤ 176 → μc8 r = μ r := fun r h1 h2 => by rw [hcc r (by omega)]; exact hr9 r h1 h2
        have f21 := zT_get hTc8 zs96_2 (i := 2) (by omega) (by omega)
        have f22 := zT_get hTc8 zs98_0 (i := μc8 96 2) (by omega) (by omega)
        refine pm_blk hK zmm118 [] 7 70 [(2, 96), (2, 2)] [] (pm_up μc8 2 2 (μc8 98 (μc8 96 2))) [0 ≤ μc8 96 2 ∧ μc8 96 2 < 6, sx_bit Wm 2 = true] rfl ⟨⟨by omega, by omega⟩, hb2, trivial⟩ ?_
        obtain ⟨μ12, eμ12⟩ : ∃ μ', μ' = pm_up μc8 2 2 (μc8 98 (μc8 96 2)) := ⟨_, rfl⟩
        rw [← eμ12]
        have hTμ12 : zTJ none μ12 := by rw [eμ12]; exact zT_upn hTc8 zs2_2 rfl (i := 2) (by omega) (by omega) (by omega) (by omega)
        have hF := fa_fr_st hF eμ12 (by decide)
        refine pm_blk hK zmm118 [] 1 71 [(2, 96), (2, 2)] [(0, 1)] μ12 [] rfl trivial ?_
        exact pm_zret rfl rfl (by first | exact Or.inl rfl | exact Or.inr rfl | omega) ⟨_, rfl, hTμ12, Or.inr ⟨by omega, rfl, fa_A_fr hA3 (fun r h1 h2 => by rw [eμ12, pm_up_row (by omega)]), by rw [eμ12, pm_up_eq, d2c, n98]; exact kb, kK _ (by rw [eμ12, pm_up_off (by decide)]; exact d2c) (by rw [eμ12, pm_up_off (by decide)]; exact d3c) (by rw [eμ12, pm_up_row (by decide)]; exact n98) (fun r h1 h2 => by rw [eμ12, pm_up_row (by omega)]; exact hr9 r h1 h2), kI, kO, hF⟩⟩
      · refine zp_aald hK zmm118 (r := 97) (q := 125) (k := 2) (g := zG97) (t := (2, 125, 0)) rfl rfl (by decide) hk3 rfl rfl rfl rfl ?_
        refine pm_call hK zmm118 (33, 0, 28, 1) zM28 (2, 46) [(2, 3), (2, 125)] [] rfl rfl rfl rfl ⟨by omega, by rw [zn28]; omega⟩ (fc_ac3_125 hK hTμ10 hb3 hb4 hb5 hb6 hb7 hb8 hb9 hb10 hb11 hb12 hb13 hb14 hb15 ⟨Nat.le_refl _, Nat.le_refl _⟩) (fun st9 μc9 hp9 => ?_)
        obtain ⟨rfl, hTc9, hc9⟩ := hp9
        obtain ⟨⟨kA, kb, kI, kO⟩, kK⟩ := fa_Kp_back (k0 := 2) hKp (by decide) (hk3.symm.trans d2) (by omega)
        have kA1 := fa_A_fr kA (fun r h1 h2 => hr9 r (by omega) (by omega))
        have hA3 := fa_cp_A hq hc9 kA1
        have hcc := hc9.2.2
        have hF := fa_fr_t hF (fa_fr_cp (L := fc_LB) hc9 (by decide))
        have d2c : μc9 96 2 = ((2 : Nat) : Int) := by rw [hcc 96 (by decide)]; exact hk3
        have d3c : μc9 96 3 = μ 96 3 - 1 := by rw [hcc 96 (by decide)]; exact d3
        have n98 : μc9 98 = μ 98 := by rw [hcc 98 (by decide)]; exact n98
        have hr9 : ∀ r, 99 ≤ r → r ≤ 176 → μc9 r = μ r := fun r h1 h2 => by rw [hcc r (by omega)]; exact hr9 r h1 h2
        have f23 := zT_get hTc9 zs96_2 (i := 2) (by omega) (by omega)
        have f24 := zT_get hTc9 zs98_0 (i := μc9 96 2) (by omega) (by omega)
        refine pm_blk hK zmm118 [] 7 70 [(2, 96), (2, 2)] [] (pm_up μc9 2 2 (μc9 98 (μc9 96 2))) [0 ≤ μc9 96 2 ∧ μc9 96 2 < 6, sx_bit Wm 2 = true] rfl ⟨⟨by omega, by omega⟩, hb2, trivial⟩ ?_
        obtain ⟨μ13, eμ13⟩ : ∃ μ', μ' = pm_up μc9 2 2 (μc9 98 (μc9 96 2)) := ⟨_, rfl⟩
        rw [← eμ13]
        have hTμ13 : zTJ none μ13 := by rw [eμ13]; exact zT_upn hTc9 zs2_2 rfl (i := 2) (by omega) (by omega) (by omega) (by omega)
        have hF := fa_fr_st hF eμ13 (by decide)
        refine pm_blk hK zmm118 [] 1 71 [(2, 96), (2, 2)] [(0, 1)] μ13 [] rfl trivial ?_
        exact pm_zret rfl rfl (by first | exact Or.inl rfl | exact Or.inr rfl | omega) ⟨_, rfl, hTμ13, Or.inr ⟨by omega, rfl, fa_A_fr hA3 (fun r h1 h2 => by rw [eμ13, pm_up_row (by omega)]), by rw [eμ13, pm_up_eq, d2c, n98]; exact kb, kK _ (by rw [eμ13, pm_up_off (by decide)]; exact d2c) (by rw [eμ13, pm_up_off (by decide)]; exact d3c) (by rw [eμ13, pm_up_row (by decide)]; exact n98) (fun r h1 h2 => by rw [eμ13, pm_up_row (by omega)]; exact hr9 r h1 h2), kI, kO, hF⟩⟩
      · refine zp_aald hK zmm118 (r := 97) (q := 138) (k := 3) (g := zG97) (t := (2, 138, 0)) rfl rfl (by decide) hk3 rfl rfl rfl rfl ?_
        refine pm_call hK zmm118 (33, 0, 28, 1) zM28 (2, 46) [(2, 3), (2, 138)] [] rfl rfl rfl rfl ⟨by omega, by rw [zn28]; omega⟩ (fc_ac3_138 hK hTμ10 hb3 hb4 hb5 hb6 hb7 hb8 hb9 hb10 hb11 hb12 hb13 hb14 hb15 ⟨Nat.le_refl _, Nat.le_refl _⟩) (fun st10 μc10 hp10 => ?_)
        obtain ⟨rfl, hTc10, hc10⟩ := hp10
        obtain ⟨⟨kA, kb, kI, kO⟩, kK⟩ := fa_Kp_back (k0 := 3) hKp (by decide) (hk3.symm.trans d2) (by omega)
        have kA1 := fa_A_fr kA (fun r h1 h2 => hr9 r (by omega) (by omega))
        have hA3 := fa_cp_A hq hc10 kA1
        have hcc := hc10.2.2
        have hF := fa_fr_t hF (fa_fr_cp (L := fc_LB) hc10 (by decide))
        have d2c : μc10 96 2 = ((3 : Nat) : Int) := by rw [hcc 96 (by decide)]; exact hk3
        have d3c : μc10 96 3 = μ 96 3 - 1 := by rw [hcc 96 (by decide)]; exact d3
        have n98 : μc10 98 = μ 98 := by rw [hcc 98 (by decide)]; exact n98
        have hr9 : ∀ r, 99 ≤ r → r ≤ 176 → μc10 r = μ r := fun r h1 h2 => by rw [hcc r (by omega)]; exact hr9 r h1 h2
        have f25 := zT_get hTc10 zs96_2 (i := 2) (by omega) (by omega)
        have f26 := zT_get hTc10 zs98_0 (i := μc10 96 2) (by omega) (by omega)
        refine pm_blk hK zmm118 [] 7 70 [(2, 96), (2, 2)] [] (pm_up μc10 2 2 (μc10 98 (μc10 96 2))) [0 ≤ μc10 96 2 ∧ μc10 96 2 < 6, sx_bit Wm 2 = true] rfl ⟨⟨by omega, by omega⟩, hb2, trivial⟩ ?_
        obtain ⟨μ14, eμ14⟩ : ∃ μ', μ' = pm_up μc10 2 2 (μc10 98 (μc10 96 2)) := ⟨_, rfl⟩
        rw [← eμ14]
        have hTμ14 : zTJ none μ14 := by rw [eμ14]; exact zT_upn hTc10 zs2_2 rfl (i := 2) (by omega) (by omega) (by omega) (by omega)
        have hF := fa_fr_st hF eμ14 (by decide)
        refine pm_blk hK zmm118 [] 1 71 [(2, 96), (2, 2)] [(0, 1)] μ14 [] rfl trivial ?_
        exact pm_zret rfl rfl (by first | exact Or.inl rfl | exact Or.inr rfl | omega) ⟨_, rfl, hTμ14, Or.inr ⟨by omega, rfl, fa_A_fr hA3 (fun r h1 h2 => by rw [eμ14, pm_up_row (by omega)]), by rw [eμ14, pm_up_eq, d2c, n98]; exact kb, kK _ (by rw [eμ14, pm_up_off (by decide)]; exact d2c) (by rw [eμ14, pm_up_off (by decide)]; exact d3c) (by rw [eμ14, pm_up_row (by decide)]; exact n98) (fun r h1 h2 => by rw [eμ14, pm_up_row (by omega)]; exact hr9 r h1 h2), kI, kO, hF⟩⟩
      · refine zp_aald hK zmm118 (r := 97) (q := 151) (k := 4) (g := zG97) (t := (2, 151, 0)) rfl rfl (by decide) hk3 rfl rfl rfl rfl ?_
        refine pm_call hK zmm118 (33, 0, 28, 1) zM28 (2, 46) [(2, 3), (2, 151)] [] rfl rfl rfl rfl ⟨by omega, by rw [zn28]; omega⟩ (fc_ac3_151 hK hTμ10 hb3 hb4 hb5 hb6 hb7 hb8 hb9 hb10 hb11 hb12 hb13 hb14 hb15 ⟨Nat.le_refl _, Nat.le_refl _⟩) (fun st11 μc11 hp11 => ?_)
        obtain ⟨rfl, hTc11, hc11⟩ := hp11
        obtain ⟨⟨kA, kb, kI, kO⟩, kK⟩ := fa_Kp_back (k0 := 4) hKp (by decide) (hk3.symm.trans d2) (by omega)
        have kA1 := fa_A_fr kA (fun r h1 h2 => hr9 r (by omega) (by omega))
        have hA3 := fa_cp_A hq hc11 kA1
        have hcc := hc11.2.2
        have hF := fa_fr_t hF (fa_fr_cp (L := fc_LB) hc11 (by decide))
        have d2c : μc11 96 2 = ((4 : Nat) : Int) := by rw [hcc 96 (by decide)]; exact hk3
        have d3c : μc11 96 3 = μ 96 3 - 1 := by rw [hcc 96 (by decide)]; exact d3
        have n98 : μc11 98 = μ 98 := by rw [hcc 98 (by decide)]; exact n98
        have hr9 : ∀ r, 99 ≤ r → r ≤ 176 → μc11 r = μ r := fun r h1 h2 => by rw [hcc r (by omega)]; exact hr9 r h1 h2
        have f27 := zT_get hTc11 zs96_2 (i := 2) (by omega) (by omega)
        have f28 := zT_get hTc11 zs98_0 (i := μc11 96 2) (by omega) (by omega)
        refine pm_blk hK zmm118 [] 7 70 [(2, 96), (2, 2)] [] (pm_up μc11 2 2 (μc11 98 (μc11 96 2))) [0 ≤ μc11 96 2 ∧ μc11 96 2 < 6, sx_bit Wm 2 = true] rfl ⟨⟨by omega, by omega⟩, hb2, trivial⟩ ?_
        obtain ⟨μ15, eμ15⟩ : ∃ μ', μ' = pm_up μc11 2 2 (μc11 98 (μc11 96 2)) := ⟨_, rfl⟩
        rw [← eμ15]
        have hTμ15 : zTJ none μ15 := by rw [eμ15]; exact zT_upn hTc11 zs2_2 rfl (i := 2) (by omega) (by omega) (by omega) (by omega)
        have hF := fa_fr_st hF eμ15 (by decide)
        refine pm_blk hK zmm118 [] 1 71 [(2, 96), (2, 2)] [(0, 1)] μ15 [] rfl trivial ?_
        exact pm_zret rfl rfl (by first | exact Or.inl rfl | exact Or.inr rfl | omega) ⟨_, rfl, hTμ15, Or.inr ⟨by omega, rfl, fa_A_fr hA3 (fun r h1 h2 => by rw [eμ15, pm_up_row (by omega)]), by rw [eμ15, pm_up_eq, d2c, n98]; exact kb, kK _ (by rw [eμ15, pm_up_off (by decide)]; exact d2c) (by rw [eμ15, pm_up_off (by decide)]; exact d3c) (by rw [eμ15, pm_up_row (by decide)]; exact n98) (fun r h1 h2 => by rw [eμ15, pm_up_row (by omega)]; exact hr9 r h1 h2), kI, kO, hF⟩⟩
      · refine zp_aald hK zmm118 (r := 97) (q := 164) (k := 5) (g := zG97) (t := (2, 164, 0)) rfl rfl (by decide) hk3 rfl rfl rfl rfl ?_
        refine pm_call hK zmm118 (33, 0, 28, 1) zM28 (2, 46) [(2, 3), (2, 164)] [] rfl rfl rfl rfl ⟨by omega, by rw [zn28]; omega⟩ (fc_ac3_164 hK hTμ10 hb3 hb4 hb5 hb6 hb7 hb8 hb9 hb10 hb11 hb12 hb13 hb14 hb15 ⟨Nat.le_refl _, Nat.le_refl _⟩) (fun st12 μc12 hp12 => ?_)
        obtain ⟨rfl, hTc12, hc12⟩ := hp12
        obtain ⟨⟨kA, kb, kI, kO⟩, kK⟩ := fa_Kp_back (k0 := 5) hKp (by decide) (hk3.symm.trans d2) (by omega)
        have kA1 := fa_A_fr kA (fun r h1 h2 => hr9 r (by omega) (by omega))
        have hA3 := fa_cp_A hq hc12 kA1
        have hcc := hc12.2.2
        have hF := fa_fr_t hF (fa_fr_cp (L := fc_LB) hc12 (by decide))
        have d2c : μc12 96 2 = ((5 : Nat) : Int) := by rw [hcc 96 (by decide)]; exact hk3
        have d3c : μc12 96 3 = μ 96 3 - 1 := by rw [hcc 96 (by decide)]; exact d3
        have n98 : μc12 98 = μ 98 := by rw [hcc 98 (by decide)]; exact n98
        have hr9 : ∀ r, 99 ≤ r → r ≤ 176 → μc12 r = μ r := fun r h1 h2 => by rw [hcc r (by omega)]; exact hr9 r h1 h2
        have f29 := zT_get hTc12 zs96_2 (i := 2) (by omega) (by omega)
        have f30 := zT_get hTc12 zs98_0 (i := μc12 96 2) (by omega) (by omega)
        refine pm_blk hK zmm118 [] 7 70 [(2, 96), (2, 2)] [] (pm_up μc12 2 2 (μc12 98 (μc12 96 2))) [0 ≤ μc12 96 2 ∧ μc12 96 2 < 6, sx_bit Wm 2 = true] rfl ⟨⟨by omega, by omega⟩, hb2, trivial⟩ ?_
        obtain ⟨μ16, eμ16⟩ : ∃ μ', μ' = pm_up μc12 2 2 (μc12 98 (μc12 96 2)) := ⟨_, rfl⟩
        rw [← eμ16]
        have hTμ16 : zTJ none μ16 := by rw [eμ16]; exact zT_upn hTc12 zs2_2 rfl (i := 2) (by omega) (by omega) (by omega) (by omega)
        have hF := fa_fr_st hF eμ16 (by decide)
        refine pm_blk hK zmm118 [] 1 71 [(2, 96), (2, 2)] [(0, 1)] μ16 [] rfl trivial ?_
        exact pm_zret rfl rfl (by first | exact Or.inl rfl | exact Or.inr rfl | omega) ⟨_, rfl, hTμ16, Or.inr ⟨by omega, rfl, fa_A_fr hA3 (fun r h1 h2 => by rw [eμ16, pm_up_row (by omega)]), by rw [eμ16, pm_up_eq, d2c, n98]; exact kb, kK _ (by rw [eμ16, pm_up_off (by decide)]; exact d2c) (by rw [eμ16, pm_up_off (by decide)]; exact d3c) (by rw [eμ16, pm_up_row (by decide)]; exact n98) (fun r h1 h2 => by rw [eμ16, pm_up_row (by omega)]; exact hr9 r h1 h2), kI, kO, hF⟩⟩
  · have h0 : μ 96 3 < (1 : Int) := h0
    refine pm_blk hK zmm118 [] 1 9 [(2, 96), (2, 2)] [(0, 0)] μ [] rfl trivial ?_
    exact pm_zret rfl rfl (by first | exact Or.inl rfl | exact Or.inr rfl | omega) ⟨_, rfl, hT, Or.inl ⟨by omega, rfl, rfl⟩⟩
end ZHW
