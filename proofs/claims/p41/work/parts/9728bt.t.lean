/-! F: the class: one more is kept; walks printed by program (wip/p30/pmgen.py) and filled by hand -/
section ZHW
variable {D : va_G} {Wm : Nat} {ST : List (String × String × String × Nat)} {b0 : sx_B} {l : Launch} {Sg : Nat → Option Nat} {bud : sx_Bu} {μ : pm_Mem} {B0 : Nat → Prop} {J : (Nat → Option Nat) → Heap → Prop}
set_option maxRecDepth 100000 in
theorem fc_forget (hK : zKK ST) (hT : zTJ none μ) (hb96 : sx_bit Wm 96 = true) (hbd : 0 ≤ bud.1 ∧ 0 ≤ bud.2.1) : zC D Wm ST b0 l Sg zM14 bud [(2, 96)] μ (fun st' μ' => st' = [] ∧ zTJ none μ' ∧ fa_K0 μ' ∧ (∀ r, r ≠ 96 → μ' r = μ r)) := by
  have f92 := zT_get hT zs96_2 (i := 2) (by omega) (by omega)
  refine pm_blk hK zmm14 [] 3 5 [(2, 96)] [] (pm_up μ 96 3 0) [sx_bit Wm 96 = true] rfl ⟨hb96, trivial⟩ ?_
  obtain ⟨μ1, eμ1⟩ : ∃ μ', μ' = pm_up μ 96 3 0 := ⟨_, rfl⟩
  rw [← eμ1]
  have hTμ1 : zTJ none μ1 := by rw [eμ1]; exact zT_upn hT zs96_3 rfl (i := 3) (by omega) (by omega) (by omega) (by omega)
  exact pm_vret rfl rfl ⟨rfl, hTμ1, ⟨by rw [eμ1, pm_up_eq], by rw [eμ1, pm_up_ne (by decide)]; exact f92⟩, fun r hr => by rw [eμ1, pm_up_row hr]⟩
set_option maxRecDepth 100000 in
theorem fc_keep (hK : zKK ST) (hT : zTJ none μ) {N pol : Int → Int} {n m : Int} (hA : fa_A 3 n m N pol μ) (hn0 : 0 ≤ n) (hm0 : 0 ≤ m) (hq : n ≤ 12 ∧ m ≤ 18) (hI : fa_I n m N) (hO : fa_O m N) (b2 : μ 2 2 = N 3) {Q : Int → Int} {u : Int} (hKp : fa_Kp n m pol Q u μ) (hb96 : sx_bit Wm 96 = true) (hb98 : sx_bit Wm 98 = true) (hb99 : sx_bit Wm 99 = true) (hb100 : sx_bit Wm 100 = true) (hb101 : sx_bit Wm 101 = true) (hb102 : sx_bit Wm 102 = true) (hb103 : sx_bit Wm 103 = true) (hb104 : sx_bit Wm 104 = true) (hb105 : sx_bit Wm 105 = true) (hb106 : sx_bit Wm 106 = true) (hb107 : sx_bit Wm 107 = true) (hb108 : sx_bit Wm 108 = true) (hb109 : sx_bit Wm 109 = true) (hb110 : sx_bit Wm 110 = true) (hb111 : sx_bit Wm 111 = true) (hb112 : sx_bit Wm 112 = true) (hb113 : sx_bit Wm 113 = true) (hb114 : sx_bit Wm 114 = true) (hb115 : sx_bit Wm 115 = true) (hb116 : sx_bit Wm 116 = true) (hb117 : sx_bit Wm 117 = true) (hb118 : sx_bit Wm 118 = true) (hb119 : sx_bit Wm 119 = true) (hb120 : sx_bit Wm 120 = true) (hb121 : sx_bit Wm 121 = true) (hb122 : sx_bit Wm 122 = true) (hb123 : sx_bit Wm 123 = true) (hb124 : sx_bit Wm 124 = true) (hb125 : sx_bit Wm 125 = true) (hb126 : sx_bit Wm 126 = true) (hb127 : sx_bit Wm 127 = true) (hb128 : sx_bit Wm 128 = true) (hb129 : sx_bit Wm 129 = true) (hb130 : sx_bit Wm 130 = true) (hb131 : sx_bit Wm 131 = true) (hb132 : sx_bit Wm 132 = true) (hb133 : sx_bit Wm 133 = true) (hb134 : sx_bit Wm 134 = true) (hb135 : sx_bit Wm 135 = true) (hb136 : sx_bit Wm 136 = true) (hb137 : sx_bit Wm 137 = true) (hb138 : sx_bit Wm 138 = true) (hb139 : sx_bit Wm 139 = true) (hb140 : sx_bit Wm 140 = true) (hb141 : sx_bit Wm 141 = true) (hb142 : sx_bit Wm 142 = true) (hb143 : sx_bit Wm 143 = true) (hb144 : sx_bit Wm 144 = true) (hb145 : sx_bit Wm 145 = true) (hb146 : sx_bit Wm 146 = true) (hb147 : sx_bit Wm 147 = true) (hb148 : sx_bit Wm 148 = true) (hb149 : sx_bit Wm 149 = true) (hb150 : sx_bit Wm 150 = true) (hb151 : sx_bit Wm 151 = true) (hb152 : sx_bit Wm 152 = true) (hb153 : sx_bit Wm 153 = true) (hb154 : sx_bit Wm 154 = true) (hb155 : sx_bit Wm 155 = true) (hb156 : sx_bit Wm 156 = true) (hb157 : sx_bit Wm 157 = true) (hb158 : sx_bit Wm 158 = true) (hb159 : sx_bit Wm 159 = true) (hb160 : sx_bit Wm 160 = true) (hb161 : sx_bit Wm 161 = true) (hb162 : sx_bit Wm 162 = true) (hb163 : sx_bit Wm 163 = true) (hb164 : sx_bit Wm 164 = true) (hb165 : sx_bit Wm 165 = true) (hb166 : sx_bit Wm 166 = true) (hb167 : sx_bit Wm 167 = true) (hb168 : sx_bit Wm 168 = true) (hb169 : sx_bit Wm 169 = true) (hb170 : sx_bit Wm 170 = true) (hb171 : sx_bit Wm 171 = true) (hb172 : sx_bit Wm 172 = true) (hb173 : sx_bit Wm 173 = true) (hb174 : sx_bit Wm 174 = true) (hb175 : sx_bit Wm 175 = true) (hb176 : sx_bit Wm 176 = true) (hbd : 3 ≤ bud.1 ∧ 67 ≤ bud.2.1) : zC D Wm ST b0 l Sg zM27 bud [(2, 96), (2, 2)] μ (fun st' μ' => st' = [] ∧ zTJ none μ' ∧ fa_Kp n m pol (fa_kQ Q u N) (fa_ku u) μ' ∧ fa_fr fc_LK μ μ') := by
  have f92 := zT_get hT zs96_2 (i := 2) (by omega) (by omega)
  have f93 := zT_get hT zs96_3 (i := 3) (by omega) (by omega)
  have f1 := zT_get hT zs96_2 (i := 2) (by omega) (by omega)
  refine pm_blk hK zmm27 [] 4 8 [(2, 96), (2, 2)] [(0, μ 96 2), (2, 97)] μ [] rfl trivial ?_
  have hk0 : μ 96 2 = ((0 : Nat) : Int) ∨ μ 96 2 = ((1 : Nat) : Int) ∨ μ 96 2 = ((2 : Nat) : Int) ∨ μ 96 2 = ((3 : Nat) : Int) ∨ μ 96 2 = ((4 : Nat) : Int) ∨ μ 96 2 = ((5 : Nat) : Int) := by omega
  rcases hk0 with hk0 | hk0 | hk0 | hk0 | hk0 | hk0
  · refine zp_aald hK zmm27 (r := 97) (q := 99) (k := 0) (g := zG97) (t := (2, 99, 0)) rfl rfl (by decide) hk0 rfl rfl rfl rfl ?_
    refine pm_blk hK zmm27 [] 2 13 [(2, 96), (2, 2)] [(2, 3), (2, 99)] μ [] rfl trivial ?_
    refine pm_call hK zmm27 (33, 0, 28, 1) zM28 (2, 46) [(2, 99), (2, 3)] [] rfl rfl rfl rfl ⟨by omega, by rw [zn28]; omega⟩ (fc_ac99_3 hK hT hb99 hb100 hb101 hb102 hb103 hb104 hb105 hb106 hb107 hb108 hb109 hb110 hb111 ⟨Nat.le_refl _, Nat.le_refl _⟩) (fun st1 μc1 hp1 => ?_)
    obtain ⟨rfl, hTc1, hc1⟩ := hp1
    have hcc := hc1.2.2
    have hF := fa_fr_cp (L := fc_LK) hc1 (by decide)
    have hAd : fa_A (99 + 13 * 0) n m N pol μc1 := fa_cp_A hq hc1 hA
    have hr9 : ∀ r, 99 ≤ r → r ≤ 176 → μc1 r = μc1 r := fun _ _ _ => rfl
    have n2 : μc1 96 2 = μ 96 2 := by rw [hcc 96 (by decide)]
    have n3 : μc1 96 3 = μ 96 3 := by rw [hcc 96 (by decide)]
    have nb : μc1 2 2 = N 3 := by rw [hcc 2 (by decide)]; exact b2
    have n98 : μc1 98 = μ 98 := hcc 98 (by decide)
    have f2 := zT_get hTc1 zs96_2 (i := 2) (by omega) (by omega)
    have f3 := zT_get hTc1 zs2_2 (i := 2) (by omega) (by omega)
    refine pm_blk hK zmm27 [] 7 29 [(2, 96), (2, 2)] [] (pm_up μc1 98 (μc1 96 2) (μc1 2 2)) [sx_bit Wm 98 = true, 0 ≤ μc1 96 2 ∧ μc1 96 2 < 6] rfl ⟨hb98, ⟨by omega, by omega⟩, trivial⟩ ?_
    obtain ⟨μ1, eμ1⟩ : ∃ μ', μ' = pm_up μc1 98 (μc1 96 2) (μc1 2 2) := ⟨_, rfl⟩
    rw [← eμ1]
    have hTμ1 : zTJ none μ1 := by rw [eμ1]; exact zT_upn hTc1 zs98_0 rfl (i := μc1 96 2) (by omega) (by omega) (by omega) (by omega)
    have hAd : fa_A (99 + 13 * 0) n m N pol μ1 := by rw [eμ1]; exact fa_A_off hAd (by decide)
    have hr9 := fun r (h1 : 99 ≤ r) (h2 : r ≤ 176) => (by rw [eμ1, pm_up_row (by omega)] : μ1 r = μc1 r).trans (hr9 r h1 h2)
    have hF := fa_fr_st hF eμ1 (by decide)
    have v98 : μ1 98 ((0 : Nat) : Int) = N 3 := by rw [eμ1, show μc1 96 2 = ((0 : Nat) : Int) by omega, pm_up_eq]; exact nb
    have o98 : ∀ k : Nat, k < 6 → k ≠ 0 → μ1 98 (k : Int) = μ 98 (k : Int) := fun k k1 k2 => by rw [eμ1, pm_up_ne (by omega), n98]
    have n2 : μ1 96 2 = μ 96 2 := by rw [eμ1, pm_up_off (by decide)]; exact n2
    have n3 : μ1 96 3 = μ 96 3 := by rw [eμ1, pm_up_off (by decide)]; exact n3
    have g4 : μ1 96 2 = μc1 96 2 := by rw [eμ1, pm_up_off (by decide)]
    have f5 := zT_get hTμ1 zs96_2 (i := 2) (by omega) (by omega)
    refine pm_blk hK zmm27 [] 4 35 [(2, 96), (2, 2)] [(0, 5), (0, μ1 96 2), (2, 96)] μ1 [] rfl trivial ?_
    refine pm_icmp hK zmm27 .ne 7 42 rfl rfl (fun h1 => ?_) (fun h1 => ?_)
    · have h1 : μ1 96 2 ≠ (5 : Int) := h1
      refine pm_blk hK zmm27 [] 5 51 [(2, 96), (2, 2)] [] (pm_up μ1 96 2 ((μ1 96 2) + 1)) [pm_in ((μ1 96 2) + 1), sx_bit Wm 96 = true] rfl ⟨pm_in_mk (by omega) (by omega), hb96, trivial⟩ ?_
      obtain ⟨μ2, eμ2⟩ : ∃ μ', μ' = pm_up μ1 96 2 ((μ1 96 2) + 1) := ⟨_, rfl⟩
      rw [← eμ2]
      have hTμ2 : zTJ none μ2 := by rw [eμ2]; exact zT_upn hTμ1 zs96_2 rfl (i := 2) (by omega) (by omega) (by omega) (by omega)
      have hAd : fa_A (99 + 13 * 0) n m N pol μ2 := by rw [eμ2]; exact fa_A_off hAd (by decide)
      have hr9 := fun r (h1 : 99 ≤ r) (h2 : r ≤ 176) => (by rw [eμ2, pm_up_row (by omega)] : μ2 r = μ1 r).trans (hr9 r h1 h2)
      have hF := fa_fr_st hF eμ2 (by decide)
      have v98 : μ2 98 ((0 : Nat) : Int) = N 3 := by rw [eμ2, pm_up_row (by decide)]; exact v98
      have o98 : ∀ k : Nat, k < 6 → k ≠ 0 → μ2 98 (k : Int) = μ 98 (k : Int) := fun k k1 k2 => by rw [eμ2, pm_up_row (by decide)]; exact o98 k k1 k2
      have d2 : μ2 96 2 = if μ 96 2 = 5 then 0 else μ 96 2 + 1 := by
        rw [eμ2, pm_up_eq]
        first
        | (rw [if_pos (by omega)]; done)
        | (rw [if_neg (by omega)]; omega)
        | (exfalso; omega)
      have d3 : μ2 96 3 = μ 96 3 := by rw [eμ2, pm_up_ne (by decide)]; exact n3
      have f6 := zT_get hTμ2 zs96_3 (i := 3) (by omega) (by omega)
      refine pm_blk hK zmm27 [] 6 60 [(2, 96), (2, 2)] [(0, (μ2 96 3) + 1), (0, 6), (2, 96)] μ2 [pm_in ((μ2 96 3) + 1)] rfl ⟨pm_in_mk (by omega) (by omega), trivial⟩ ?_
      refine pm_call hK zmm27 (39, 1, 30, 2) zM30 (0, 0) [(0, 6), (0, (μ2 96 3) + 1)] [(2, 96)] rfl rfl rfl rfl ⟨by omega, by rw [zn30]; omega⟩ (zh_min hK ⟨Nat.le_refl _, Nat.le_refl _⟩) (fun st2 μc2 hp2 => ?_)
      obtain ⟨rfl, rfl⟩ := hp2
      refine pm_blk hK zmm27 [] 1 66 [(2, 96), (2, 2)] [] (pm_up μ2 96 3 (min 6 ((μ2 96 3) + 1))) [sx_bit Wm 96 = true] rfl ⟨hb96, trivial⟩ ?_
      obtain ⟨μ3, eμ3⟩ : ∃ μ', μ' = pm_up μ2 96 3 (min 6 ((μ2 96 3) + 1)) := ⟨_, rfl⟩
      rw [← eμ3]
      have hTμ3 : zTJ none μ3 := by rw [eμ3]; exact zT_upn hTμ2 zs96_3 rfl (i := 3) (by omega) (by omega) (by omega) (by omega)
      have hAd : fa_A (99 + 13 * 0) n m N pol μ3 := by rw [eμ3]; exact fa_A_off hAd (by decide)
      have hr9 := fun r (h1 : 99 ≤ r) (h2 : r ≤ 176) => (by rw [eμ3, pm_up_row (by omega)] : μ3 r = μ2 r).trans (hr9 r h1 h2)
      have hF := fa_fr_st hF eμ3 (by decide)
      have v98 : μ3 98 ((0 : Nat) : Int) = N 3 := by rw [eμ3, pm_up_row (by decide)]; exact v98
      have o98 : ∀ k : Nat, k < 6 → k ≠ 0 → μ3 98 (k : Int) = μ 98 (k : Int) := fun k k1 k2 => by rw [eμ3, pm_up_row (by decide)]; exact o98 k k1 k2
      exact pm_vret rfl rfl ⟨rfl, hTμ3, fa_Kp_keep (k0 := 0) hq hKp (by decide) hk0 hAd v98 hI hO (by rw [eμ3, pm_up_ne (by decide)]; exact d2) (by rw [eμ3, pm_up_eq]; omega) (fun k k1 k2 r r1 r2 => (hr9 r (by omega) (by omega)).trans (hcc r (by omega))) o98, hF⟩
    · have h1 : μ1 96 2 = (5 : Int) := h1
      refine pm_blk hK zmm27 [] 3 51 [(2, 96), (2, 2)] [] (pm_up μ1 96 2 0) [sx_bit Wm 96 = true] rfl ⟨hb96, trivial⟩ ?_
      obtain ⟨μ4, eμ4⟩ : ∃ μ', μ' = pm_up μ1 96 2 0 := ⟨_, rfl⟩
      rw [← eμ4]
      have hTμ4 : zTJ none μ4 := by rw [eμ4]; exact zT_upn hTμ1 zs96_2 rfl (i := 2) (by omega) (by omega) (by omega) (by omega)
      have hAd : fa_A (99 + 13 * 0) n m N pol μ4 := by rw [eμ4]; exact fa_A_off hAd (by decide)
      have hr9 := fun r (h1 : 99 ≤ r) (h2 : r ≤ 176) => (by rw [eμ4, pm_up_row (by omega)] : μ4 r = μ1 r).trans (hr9 r h1 h2)
      have hF := fa_fr_st hF eμ4 (by decide)
      have v98 : μ4 98 ((0 : Nat) : Int) = N 3 := by rw [eμ4, pm_up_row (by decide)]; exact v98
      have o98 : ∀ k : Nat, k < 6 → k ≠ 0 → μ4 98 (k : Int) = μ 98 (k : Int) := fun k k1 k2 => by rw [eμ4, pm_up_row (by decide)]; exact o98 k k1 k2
      have d2 : μ4 96 2 = if μ 96 2 = 5 then 0 else μ 96 2 + 1 := by
        rw [eμ4, pm_up_eq]
        first
        | (rw [if_pos (by omega)]; done)
        | (rw [if_neg (by omega)]; omega)
        | (exfalso; omega)
      have d3 : μ4 96 3 = μ 96 3 := by rw [eμ4, pm_up_ne (by decide)]; exact n3
      have f7 := zT_get hTμ4 zs96_3 (i := 3) (by omega) (by omega)
      refine pm_blk hK zmm27 [] 6 60 [(2, 96), (2, 2)] [(0, (μ4 96 3) + 1), (0, 6), (2, 96)] μ4 [pm_in ((μ4 96 3) + 1)] rfl ⟨pm_in_mk (by omega) (by omega), trivial⟩ ?_
      refine pm_call hK zmm27 (39, 1, 30, 2) zM30 (0, 0) [(0, 6), (0, (μ4 96 3) + 1)] [(2, 96)] rfl rfl rfl rfl ⟨by omega, by rw [zn30]; omega⟩ (zh_min hK ⟨Nat.le_refl _, Nat.le_refl _⟩) (fun st3 μc3 hp3 => ?_)
      obtain ⟨rfl, rfl⟩ := hp3
      refine pm_blk hK zmm27 [] 1 66 [(2, 96), (2, 2)] [] (pm_up μ4 96 3 (min 6 ((μ4 96 3) + 1))) [sx_bit Wm 96 = true] rfl ⟨hb96, trivial⟩ ?_
      obtain ⟨μ5, eμ5⟩ : ∃ μ', μ' = pm_up μ4 96 3 (min 6 ((μ4 96 3) + 1)) := ⟨_, rfl⟩
      rw [← eμ5]
      have hTμ5 : zTJ none μ5 := by rw [eμ5]; exact zT_upn hTμ4 zs96_3 rfl (i := 3) (by omega) (by omega) (by omega) (by omega)
      have hAd : fa_A (99 + 13 * 0) n m N pol μ5 := by rw [eμ5]; exact fa_A_off hAd (by decide)
      have hr9 := fun r (h1 : 99 ≤ r) (h2 : r ≤ 176) => (by rw [eμ5, pm_up_row (by omega)] : μ5 r = μ4 r).trans (hr9 r h1 h2)
      have hF := fa_fr_st hF eμ5 (by decide)
      have v98 : μ5 98 ((0 : Nat) : Int) = N 3 := by rw [eμ5, pm_up_row (by decide)]; exact v98
      have o98 : ∀ k : Nat, k < 6 → k ≠ 0 → μ5 98 (k : Int) = μ 98 (k : Int) := fun k k1 k2 => by rw [eμ5, pm_up_row (by decide)]; exact o98 k k1 k2
      exact pm_vret rfl rfl ⟨rfl, hTμ5, fa_Kp_keep (k0 := 0) hq hKp (by decide) hk0 hAd v98 hI hO (by rw [eμ5, pm_up_ne (by decide)]; exact d2) (by rw [eμ5, pm_up_eq]; omega) (fun k k1 k2 r r1 r2 => (hr9 r (by omega) (by omega)).trans (hcc r (by omega))) o98, hF⟩
  · refine zp_aald hK zmm27 (r := 97) (q := 112) (k := 1) (g := zG97) (t := (2, 112, 0)) rfl rfl (by decide) hk0 rfl rfl rfl rfl ?_
    refine pm_blk hK zmm27 [] 2 13 [(2, 96), (2, 2)] [(2, 3), (2, 112)] μ [] rfl trivial ?_
    refine pm_call hK zmm27 (33, 0, 28, 1) zM28 (2, 46) [(2, 112), (2, 3)] [] rfl rfl rfl rfl ⟨by omega, by rw [zn28]; omega⟩ (fc_ac112_3 hK hT hb112 hb113 hb114 hb115 hb116 hb117 hb118 hb119 hb120 hb121 hb122 hb123 hb124 ⟨Nat.le_refl _, Nat.le_refl _⟩) (fun st4 μc4 hp4 => ?_)
    obtain ⟨rfl, hTc4, hc4⟩ := hp4
    have hcc := hc4.2.2
    have hF := fa_fr_cp (L := fc_LK) hc4 (by decide)
    have hAd : fa_A (99 + 13 * 1) n m N pol μc4 := fa_cp_A hq hc4 hA
    have hr9 : ∀ r, 99 ≤ r → r ≤ 176 → μc4 r = μc4 r := fun _ _ _ => rfl
    have n2 : μc4 96 2 = μ 96 2 := by rw [hcc 96 (by decide)]
    have n3 : μc4 96 3 = μ 96 3 := by rw [hcc 96 (by decide)]
    have nb : μc4 2 2 = N 3 := by rw [hcc 2 (by decide)]; exact b2
    have n98 : μc4 98 = μ 98 := hcc 98 (by decide)
    have f8 := zT_get hTc4 zs96_2 (i := 2) (by omega) (by omega)
    have f9 := zT_get hTc4 zs2_2 (i := 2) (by omega) (by omega)
    refine pm_blk hK zmm27 [] 7 29 [(2, 96), (2, 2)] [] (pm_up μc4 98 (μc4 96 2) (μc4 2 2)) [sx_bit Wm 98 = true, 0 ≤ μc4 96 2 ∧ μc4 96 2 < 6] rfl ⟨hb98, ⟨by omega, by omega⟩, trivial⟩ ?_
    obtain ⟨μ6, eμ6⟩ : ∃ μ', μ' = pm_up μc4 98 (μc4 96 2) (μc4 2 2) := ⟨_, rfl⟩
    rw [← eμ6]
    have hTμ6 : zTJ none μ6 := by rw [eμ6]; exact zT_upn hTc4 zs98_0 rfl (i := μc4 96 2) (by omega) (by omega) (by omega) (by omega)
    have hAd : fa_A (99 + 13 * 1) n m N pol μ6 := by rw [eμ6]; exact fa_A_off hAd (by decide)
    have hr9 := fun r (h1 : 99 ≤ r) (h2 : r ≤ 176) => (by rw [eμ6, pm_up_row (by omega)] : μ6 r = μc4 r).trans (hr9 r h1 h2)
    have hF := fa_fr_st hF eμ6 (by decide)
    have v98 : μ6 98 ((1 : Nat) : Int) = N 3 := by rw [eμ6, show μc4 96 2 = ((1 : Nat) : Int) by omega, pm_up_eq]; exact nb
    have o98 : ∀ k : Nat, k < 6 → k ≠ 1 → μ6 98 (k : Int) = μ 98 (k : Int) := fun k k1 k2 => by rw [eμ6, pm_up_ne (by omega), n98]
    have n2 : μ6 96 2 = μ 96 2 := by rw [eμ6, pm_up_off (by decide)]; exact n2
    have n3 : μ6 96 3 = μ 96 3 := by rw [eμ6, pm_up_off (by decide)]; exact n3
    have g10 : μ6 96 2 = μc4 96 2 := by rw [eμ6, pm_up_off (by decide)]
    have f11 := zT_get hTμ6 zs96_2 (i := 2) (by omega) (by omega)
    refine pm_blk hK zmm27 [] 4 35 [(2, 96), (2, 2)] [(0, 5), (0, μ6 96 2), (2, 96)] μ6 [] rfl trivial ?_
    refine pm_icmp hK zmm27 .ne 7 42 rfl rfl (fun h2 => ?_) (fun h2 => ?_)
    · have h2 : μ6 96 2 ≠ (5 : Int) := h2
      refine pm_blk hK zmm27 [] 5 51 [(2, 96), (2, 2)] [] (pm_up μ6 96 2 ((μ6 96 2) + 1)) [pm_in ((μ6 96 2) + 1), sx_bit Wm 96 = true] rfl ⟨pm_in_mk (by omega) (by omega), hb96, trivial⟩ ?_
      obtain ⟨μ7, eμ7⟩ : ∃ μ', μ' = pm_up μ6 96 2 ((μ6 96 2) + 1) := ⟨_, rfl⟩
      rw [← eμ7]
      have hTμ7 : zTJ none μ7 := by rw [eμ7]; exact zT_upn hTμ6 zs96_2 rfl (i := 2) (by omega) (by omega) (by omega) (by omega)
      have hAd : fa_A (99 + 13 * 1) n m N pol μ7 := by rw [eμ7]; exact fa_A_off hAd (by decide)
      have hr9 := fun r (h1 : 99 ≤ r) (h2 : r ≤ 176) => (by rw [eμ7, pm_up_row (by omega)] : μ7 r = μ6 r).trans (hr9 r h1 h2)
      have hF := fa_fr_st hF eμ7 (by decide)
      have v98 : μ7 98 ((1 : Nat) : Int) = N 3 := by rw [eμ7, pm_up_row (by decide)]; exact v98
      have o98 : ∀ k : Nat, k < 6 → k ≠ 1 → μ7 98 (k : Int) = μ 98 (k : Int) := fun k k1 k2 => by rw [eμ7, pm_up_row (by decide)]; exact o98 k k1 k2
      have d2 : μ7 96 2 = if μ 96 2 = 5 then 0 else μ 96 2 + 1 := by
        rw [eμ7, pm_up_eq]
        first
        | (rw [if_pos (by omega)]; done)
        | (rw [if_neg (by omega)]; omega)
        | (exfalso; omega)
      have d3 : μ7 96 3 = μ 96 3 := by rw [eμ7, pm_up_ne (by decide)]; exact n3
      have f12 := zT_get hTμ7 zs96_3 (i := 3) (by omega) (by omega)
      refine pm_blk hK zmm27 [] 6 60 [(2, 96), (2, 2)] [(0, (μ7 96 3) + 1), (0, 6), (2, 96)] μ7 [pm_in ((μ7 96 3) + 1)] rfl ⟨pm_in_mk (by omega) (by omega), trivial⟩ ?_
      refine pm_call hK zmm27 (39, 1, 30, 2) zM30 (0, 0) [(0, 6), (0, (μ7 96 3) + 1)] [(2, 96)] rfl rfl rfl rfl ⟨by omega, by rw [zn30]; omega⟩ (zh_min hK ⟨Nat.le_refl _, Nat.le_refl _⟩) (fun st5 μc5 hp5 => ?_)
      obtain ⟨rfl, rfl⟩ := hp5
      refine pm_blk hK zmm27 [] 1 66 [(2, 96), (2, 2)] [] (pm_up μ7 96 3 (min 6 ((μ7 96 3) + 1))) [sx_bit Wm 96 = true] rfl ⟨hb96, trivial⟩ ?_
      obtain ⟨μ8, eμ8⟩ : ∃ μ', μ' = pm_up μ7 96 3 (min 6 ((μ7 96 3) + 1)) := ⟨_, rfl⟩
      rw [← eμ8]
      have hTμ8 : zTJ none μ8 := by rw [eμ8]; exact zT_upn hTμ7 zs96_3 rfl (i := 3) (by omega) (by omega) (by omega) (by omega)
      have hAd : fa_A (99 + 13 * 1) n m N pol μ8 := by rw [eμ8]; exact fa_A_off hAd (by decide)
      have hr9 := fun r (h1 : 99 ≤ r) (h2 : r ≤ 176) => (by rw [eμ8, pm_up_row (by omega)] : μ8 r = μ7 r).trans (hr9 r h1 h2)
      have hF := fa_fr_st hF eμ8 (by decide)
      have v98 : μ8 98 ((1 : Nat) : Int) = N 3 := by rw [eμ8, pm_up_row (by decide)]; exact v98
      have o98 : ∀ k : Nat, k < 6 → k ≠ 1 → μ8 98 (k : Int) = μ 98 (k : Int) := fun k k1 k2 => by rw [eμ8, pm_up_row (by decide)]; exact o98 k k1 k2
      exact pm_vret rfl rfl ⟨rfl, hTμ8, fa_Kp_keep (k0 := 1) hq hKp (by decide) hk0 hAd v98 hI hO (by rw [eμ8, pm_up_ne (by decide)]; exact d2) (by rw [eμ8, pm_up_eq]; omega) (fun k k1 k2 r r1 r2 => (hr9 r (by omega) (by omega)).trans (hcc r (by omega))) o98, hF⟩
    · have h2 : μ6 96 2 = (5 : Int) := h2
      refine pm_blk hK zmm27 [] 3 51 [(2, 96), (2, 2)] [] (pm_up μ6 96 2 0) [sx_bit Wm 96 = true] rfl ⟨hb96, trivial⟩ ?_
      obtain ⟨μ9, eμ9⟩ : ∃ μ', μ' = pm_up μ6 96 2 0 := ⟨_, rfl⟩
      rw [← eμ9]
      have hTμ9 : zTJ none μ9 := by rw [eμ9]; exact zT_upn hTμ6 zs96_2 rfl (i := 2) (by omega) (by omega) (by omega) (by omega)
      have hAd : fa_A (99 + 13 * 1) n m N pol μ9 := by rw [eμ9]; exact fa_A_off hAd (by decide)
      have hr9 := fun r (h1 : 99 ≤ r) (h2 : r ≤ 176) => (by rw [eμ9, pm_up_row (by omega)] : μ9 r = μ6 r).trans (hr9 r h1 h2)
      have hF := fa_fr_st hF eμ9 (by decide)
      have v98 : μ9 98 ((1 : Nat) : Int) = N 3 := by rw [eμ9, pm_up_row (by decide)]; exact v98
      have o98 : ∀ k : Nat, k < 6 → k ≠ 1 → μ9 98 (k : Int) = μ 98 (k : Int) := fun k k1 k2 => by rw [eμ9, pm_up_row (by decide)]; exact o98 k k1 k2
      have d2 : μ9 96 2 = if μ 96 2 = 5 then 0 else μ 96 2 + 1 := by
        rw [eμ9, pm_up_eq]
        first
        | (rw [if_pos (by omega)]; done)
        | (rw [if_neg (by omega)]; omega)
        | (exfalso; omega)
      have d3 : μ9 96 3 = μ 96 3 := by rw [eμ9, pm_up_ne (by decide)]; exact n3
      have f13 := zT_get hTμ9 zs96_3 (i := 3) (by omega) (by omega)
      refine pm_blk hK zmm27 [] 6 60 [(2, 96), (2, 2)] [(0, (μ9 96 3) + 1), (0, 6), (2, 96)] μ9 [pm_in ((μ9 96 3) + 1)] rfl ⟨pm_in_mk (by omega) (by omega), trivial⟩ ?_
      refine pm_call hK zmm27 (39, 1, 30, 2) zM30 (0, 0) [(0, 6), (0, (μ9 96 3) + 1)] [(2, 96)] rfl rfl rfl rfl ⟨by omega, by rw [zn30]; omega⟩ (zh_min hK ⟨Nat.le_refl _, Nat.le_refl _⟩) (fun st6 μc6 hp6 => ?_)
      obtain ⟨rfl, rfl⟩ := hp6
      refine pm_blk hK zmm27 [] 1 66 [(2, 96), (2, 2)] [] (pm_up μ9 96 3 (min 6 ((μ9 96 3) + 1))) [sx_bit Wm 96 = true] rfl ⟨hb96, trivial⟩ ?_
      obtain ⟨μ10, eμ10⟩ : ∃ μ', μ' = pm_up μ9 96 3 (min 6 ((μ9 96 3) + 1)) := ⟨_, rfl⟩
      rw [← eμ10]
      have hTμ10 : zTJ none μ10 := by rw [eμ10]; exact zT_upn hTμ9 zs96_3 rfl (i := 3) (by omega) (by omega) (by omega) (by omega)
      have hAd : fa_A (99 + 13 * 1) n m N pol μ10 := by rw [eμ10]; exact fa_A_off hAd (by decide)
      have hr9 := fun r (h1 : 99 ≤ r) (h2 : r ≤ 176) => (by rw [eμ10, pm_up_row (by omega)] : μ10 r = μ9 r).trans (hr9 r h1 h2)
      have hF := fa_fr_st hF eμ10 (by decide)
      have v98 : μ10 98 ((1 : Nat) : Int) = N 3 := by rw [eμ10, pm_up_row (by decide)]; exact v98
      have o98 : ∀ k : Nat, k < 6 → k ≠ 1 → μ10 98 (k : Int) = μ 98 (k : Int) := fun k k1 k2 => by rw [eμ10, pm_up_row (by decide)]; exact o98 k k1 k2
      exact pm_vret rfl rfl ⟨rfl, hTμ10, fa_Kp_keep (k0 := 1) hq hKp (by decide) hk0 hAd v98 hI hO (by rw [eμ10, pm_up_ne (by decide)]; exact d2) (by rw [eμ10, pm_up_eq]; omega) (fun k k1 k2 r r1 r2 => (hr9 r (by omega) (by omega)).trans (hcc r (by omega))) o98, hF⟩
  · refine zp_aald hK zmm27 (r := 97) (q := 125) (k := 2) (g := zG97) (t := (2, 125, 0)) rfl rfl (by decide) hk0 rfl rfl rfl rfl ?_
    refine pm_blk hK zmm27 [] 2 13 [(2, 96), (2, 2)] [(2, 3), (2, 125)] μ [] rfl trivial ?_
    refine pm_call hK zmm27 (33, 0, 28, 1) zM28 (2, 46) [(2, 125), (2, 3)] [] rfl rfl rfl rfl ⟨by omega, by rw [zn28]; omega⟩ (fc_ac125_3 hK hT hb125 hb126 hb127 hb128 hb129 hb130 hb131 hb132 hb133 hb134 hb135 hb136 hb137 ⟨Nat.le_refl _, Nat.le_refl _⟩) (fun st7 μc7 hp7 => ?_)
    obtain ⟨rfl, hTc7, hc7⟩ := hp7
    have hcc := hc7.2.2
    have hF := fa_fr_cp (L := fc_LK) hc7 (by decide)
    have hAd : fa_A (99 + 13 * 2) n m N pol μc7 := fa_cp_A hq hc7 hA
    have hr9 : ∀ r, 99 ≤ r → r ≤ 176 → μc7 r = μc7 r := fun _ _ _ => rfl
    have n2 : μc7 96 2 = μ 96 2 := by rw [hcc 96 (by decide)]
    have n3 : μc7 96 3 = μ 96 3 := by rw [hcc 96 (by decide)]
    have nb : μc7 2 2 = N 3 := by rw [hcc 2 (by decide)]; exact b2
    have n98 : μc7 98 = μ 98 := hcc 98 (by decide)
    have f14 := zT_get hTc7 zs96_2 (i := 2) (by omega) (by omega)
    have f15 := zT_get hTc7 zs2_2 (i := 2) (by omega) (by omega)
    refine pm_blk hK zmm27 [] 7 29 [(2, 96), (2, 2)] [] (pm_up μc7 98 (μc7 96 2) (μc7 2 2)) [sx_bit Wm 98 = true, 0 ≤ μc7 96 2 ∧ μc7 96 2 < 6] rfl ⟨hb98, ⟨by omega, by omega⟩, trivial⟩ ?_
    obtain ⟨μ11, eμ11⟩ : ∃ μ', μ' = pm_up μc7 98 (μc7 96 2) (μc7 2 2) := ⟨_, rfl⟩
    rw [← eμ11]
    have hTμ11 : zTJ none μ11 := by rw [eμ11]; exact zT_upn hTc7 zs98_0 rfl (i := μc7 96 2) (by omega) (by omega) (by omega) (by omega)
    have hAd : fa_A (99 + 13 * 2) n m N pol μ11 := by rw [eμ11]; exact fa_A_off hAd (by decide)
    have hr9 := fun r (h1 : 99 ≤ r) (h2 : r ≤ 176) => (by rw [eμ11, pm_up_row (by omega)] : μ11 r = μc7 r).trans (hr9 r h1 h2)
    have hF := fa_fr_st hF eμ11 (by decide)
    have v98 : μ11 98 ((2 : Nat) : Int) = N 3 := by rw [eμ11, show μc7 96 2 = ((2 : Nat) : Int) by omega, pm_up_eq]; exact nb
    have o98 : ∀ k : Nat, k < 6 → k ≠ 2 → μ11 98 (k : Int) = μ 98 (k : Int) := fun k k1 k2 => by rw [eμ11, pm_up_ne (by omega), n98]
    have n2 : μ11 96 2 = μ 96 2 := by rw [eμ11, pm_up_off (by decide)]; exact n2
    have n3 : μ11 96 3 = μ 96 3 := by rw [eμ11, pm_up_off (by decide)]; exact n3
    have g16 : μ11 96 2 = μc7 96 2 := by rw [eμ11, pm_up_off (by decide)]
    have f17 := zT_get hTμ11 zs96_2 (i := 2) (by omega) (by omega)
    refine pm_blk hK zmm27 [] 4 35 [(2, 96), (2, 2)] [(0, 5), (0, μ11 96 2), (2, 96)] μ11 [] rfl trivial ?_
    refine pm_icmp hK zmm27 .ne 7 42 rfl rfl (fun h3 => ?_) (fun h3 => ?_)
    · have h3 : μ11 96 2 ≠ (5 : Int) := h3
      refine pm_blk hK zmm27 [] 5 51 [(2, 96), (2, 2)] [] (pm_up μ11 96 2 ((μ11 96 2) + 1)) [pm_in ((μ11 96 2) + 1), sx_bit Wm 96 = true] rfl ⟨pm_in_mk (by omega) (by omega), hb96, trivial⟩ ?_
      obtain ⟨μ12, eμ12⟩ : ∃ μ', μ' = pm_up μ11 96 2 ((μ11 96 2) + 1) := ⟨_, rfl⟩
      rw [← eμ12]
      have hTμ12 : zTJ none μ12 := by rw [eμ12]; exact zT_upn hTμ11 zs96_2 rfl (i := 2) (by omega) (by omega) (by omega) (by omega)
      have hAd : fa_A (99 + 13 * 2) n m N pol μ12 := by rw [eμ12]; exact fa_A_off hAd (by decide)
      have hr9 := fun r (h1 : 99 ≤ r) (h2 : r ≤ 176) => (by rw [eμ12, pm_up_row (by omega)] : μ12 r = μ11 r).trans (hr9 r h1 h2)
      have hF := fa_fr_st hF eμ12 (by decide)
      have v98 : μ12 98 ((2 : Nat) : Int) = N 3 := by rw [eμ12, pm_up_row (by decide)]; exact v98
      have o98 : ∀ k : Nat, k < 6 → k ≠ 2 → μ12 98 (k : Int) = μ 98 (k : Int) := fun k k1 k2 => by rw [eμ12, pm_up_row (by decide)]; exact o98 k k1 k2
      have d2 : μ12 96 2 = if μ 96 2 = 5 then 0 else μ 96 2 + 1 := by
        rw [eμ12, pm_up_eq]
        first
        | (rw [if_pos (by omega)]; done)
        | (rw [if_neg (by omega)]; omega)
        | (exfalso; omega)
      have d3 : μ12 96 3 = μ 96 3 := by rw [eμ12, pm_up_ne (by decide)]; exact n3
      have f18 := zT_get hTμ12 zs96_3 (i := 3) (by omega) (by omega)
      refine pm_blk hK zmm27 [] 6 60 [(2, 96), (2, 2)] [(0, (μ12 96 3) + 1), (0, 6), (2, 96)] μ12 [pm_in ((μ12 96 3) + 1)] rfl ⟨pm_in_mk (by omega) (by omega), trivial⟩ ?_
      refine pm_call hK zmm27 (39, 1, 30, 2) zM30 (0, 0) [(0, 6), (0, (μ12 96 3) + 1)] [(2, 96)] rfl rfl rfl rfl ⟨by omega, by rw [zn30]; omega⟩ (zh_min hK ⟨Nat.le_refl _, Nat.le_refl _⟩) (fun st8 μc8 hp8 => ?_)
      obtain ⟨rfl, rfl⟩ := hp8
      refine pm_blk hK zmm27 [] 1 66 [(2, 96), (2, 2)] [] (pm_up μ12 96 3 (min 6 ((μ12 96 3) + 1))) [sx_bit Wm 96 = true] rfl ⟨hb96, trivial⟩ ?_
      obtain ⟨μ13, eμ13⟩ : ∃ μ', μ' = pm_up μ12 96 3 (min 6 ((μ12 96 3) + 1)) := ⟨_, rfl⟩
      rw [← eμ13]
      have hTμ13 : zTJ none μ13 := by rw [eμ13]; exact zT_upn hTμ12 zs96_3 rfl (i := 3) (by omega) (by omega) (by omega) (by omega)
      have hAd : fa_A (99 + 13 * 2) n m N pol μ13 := by rw [eμ13]; exact fa_A_off hAd (by decide)
      have hr9 := fun r (h1 : 99 ≤ r) (h2 : r ≤ 176) => (by rw [eμ13, pm_up_row (by omega)] : μ13 r = μ12 r).trans (hr9 r h1 h2)
      have hF := fa_fr_st hF eμ13 (by decide)
      have v98 : μ13 98 ((2 : Nat) : Int) = N 3 := by rw [eμ13, pm_up_row (by decide)]; exact v98
      have o98 : ∀ k : Nat, k < 6 → k ≠ 2 → μ13 98 (k : Int) = μ 98 (k : Int) := fun k k1 k2 => by rw [eμ13, pm_up_row (by decide)]; exact o98 k k1 k2
      exact pm_vret rfl rfl ⟨rfl, hTμ13, fa_Kp_keep (k0 := 2) hq hKp (by decide) hk0 hAd v98 hI hO (by rw [eμ13, pm_up_ne (by decide)]; exact d2) (by rw [eμ13, pm_up_eq]; omega) (fun k k1 k2 r r1 r2 => (hr9 r (by omega) (by omega)).trans (hcc r (by omega))) o98, hF⟩
    · have h3 : μ11 96 2 = (5 : Int) := h3
      refine pm_blk hK zmm27 [] 3 51 [(2, 96), (2, 2)] [] (pm_up μ11 96 2 0) [sx_bit Wm 96 = true] rfl ⟨hb96, trivial⟩ ?_
      obtain ⟨μ14, eμ14⟩ : ∃ μ', μ' = pm_up μ11 96 2 0 := ⟨_, rfl⟩
      rw [← eμ14]
      have hTμ14 : zTJ none μ14 := by rw [eμ14]; exact zT_upn hTμ11 zs96_2 rfl (i := 2) (by omega) (by omega) (by omega) (by omega)
      have hAd : fa_A (99 + 13 * 2) n m N pol μ14 := by rw [eμ14]; exact fa_A_off hAd (by decide)
      have hr9 := fun r (h1 : 99 ≤ r) (h2 : r ≤ 176) => (by rw [eμ14, pm_up_row (by omega)] : μ14 r = μ11 r).trans (hr9 r h1 h2)
      have hF := fa_fr_st hF eμ14 (by decide)
      have v98 : μ14 98 ((2 : Nat) : Int) = N 3 := by rw [eμ14, pm_up_row (by decide)]; exact v98
      have o98 : ∀ k : Nat, k < 6 → k ≠ 2 → μ14 98 (k : Int) = μ 98 (k : Int) := fun k k1 k2 => by rw [eμ14, pm_up_row (by decide)]; exact o98 k k1 k2
      have d2 : μ14 96 2 = if μ 96 2 = 5 then 0 else μ 96 2 + 1 := by
        rw [eμ14, pm_up_eq]
        first
        | (rw [if_pos (by omega)]; done)
        | (rw [if_neg (by omega)]; omega)
        | (exfalso; omega)
      have d3 : μ14 96 3 = μ 96 3 := by rw [eμ14, pm_up_ne (by decide)]; exact n3
      have f19 := zT_get hTμ14 zs96_3 (i := 3) (by omega) (by omega)
      refine pm_blk hK zmm27 [] 6 60 [(2, 96), (2, 2)] [(0, (μ14 96 3) + 1), (0, 6), (2, 96)] μ14 [pm_in ((μ14 96 3) + 1)] rfl ⟨pm_in_mk (by omega) (by omega), trivial⟩ ?_
      refine pm_call hK zmm27 (39, 1, 30, 2) zM30 (0, 0) [(0, 6), (0, (μ14 96 3) + 1)] [(2, 96)] rfl rfl rfl rfl ⟨by omega, by rw [zn30]; omega⟩ (zh_min hK ⟨Nat.le_refl _, Nat.le_refl _⟩) (fun st9 μc9 hp9 => ?_)
      obtain ⟨rfl, rfl⟩ := hp9
      refine pm_blk hK zmm27 [] 1 66 [(2, 96), (2, 2)] [] (pm_up μ14 96 3 (min 6 ((μ14 96 3) + 1))) [sx_bit Wm 96 = true] rfl ⟨hb96, trivial⟩ ?_
      obtain ⟨μ15, eμ15⟩ : ∃ μ', μ' = pm_up μ14 96 3 (min 6 ((μ14 96 3) + 1)) := ⟨_, rfl⟩
      rw [← eμ15]
      have hTμ15 : zTJ none μ15 := by rw [eμ15]; exact zT_upn hTμ14 zs96_3 rfl (i := 3) (by omega) (by omega) (by omega) (by omega)
      have hAd : fa_A (99 + 13 * 2) n m N pol μ15 := by rw [eμ15]; exact fa_A_off hAd (by decide)
      have hr9 := fun r (h1 : 99 ≤ r) (h2 : r ≤ 176) => (by rw [eμ15, pm_up_row (by omega)] : μ15 r = μ14 r).trans (hr9 r h1 h2)
      have hF := fa_fr_st hF eμ15 (by decide)
      have v98 : μ15 98 ((2 : Nat) : Int) = N 3 := by rw [eμ15, pm_up_row (by decide)]; exact v98
      have o98 : ∀ k : Nat, k < 6 → k ≠ 2 → μ15 98 (k : Int) = μ 98 (k : Int) := fun k k1 k2 => by rw [eμ15, pm_up_row (by decide)]; exact o98 k k1 k2
      exact pm_vret rfl rfl ⟨rfl, hTμ15, fa_Kp_keep (k0 := 2) hq hKp (by decide) hk0 hAd v98 hI hO (by rw [eμ15, pm_up_ne (by decide)]; exact d2) (by rw [eμ15, pm_up_eq]; omega) (fun k k1 k2 r r1 r2 => (hr9 r (by omega) (by omega)).trans (hcc r (by omega))) o98, hF⟩
  · refine zp_aald hK zmm27 (r := 97) (q := 138) (k := 3) (g := zG97) (t := (2, 138, 0)) rfl rfl (by decide) hk0 rfl rfl rfl rfl ?_
    refine pm_blk hK zmm27 [] 2 13 [(2, 96), (2, 2)] [(2, 3), (2, 138)] μ [] rfl trivial ?_
    refine pm_call hK zmm27 (33, 0, 28, 1) zM28 (2, 46) [(2, 138), (2, 3)] [] rfl rfl rfl rfl ⟨by omega, by rw [zn28]; omega⟩ (fc_ac138_3 hK hT hb138 hb139 hb140 hb141 hb142 hb143 hb144 hb145 hb146 hb147 hb148 hb149 hb150 ⟨Nat.le_refl _, Nat.le_refl _⟩) (fun st10 μc10 hp10 => ?_)
    obtain ⟨rfl, hTc10, hc10⟩ := hp10
    have hcc := hc10.2.2
    have hF := fa_fr_cp (L := fc_LK) hc10 (by decide)
    have hAd : fa_A (99 + 13 * 3) n m N pol μc10 := fa_cp_A hq hc10 hA
    have hr9 : ∀ r, 99 ≤ r → r ≤ 176 → μc10 r = μc10 r := fun _ _ _ => rfl
    have n2 : μc10 96 2 = μ 96 2 := by rw [hcc 96 (by decide)]
    have n3 : μc10 96 3 = μ 96 3 := by rw [hcc 96 (by decide)]
    have nb : μc10 2 2 = N 3 := by rw [hcc 2 (by decide)]; exact b2
    have n98 : μc10 98 = μ 98 := hcc 98 (by decide)
    have f20 := zT_get hTc10 zs96_2 (i := 2) (by omega) (by omega)
    have f21 := zT_get hTc10 zs2_2 (i := 2) (by omega) (by omega)
    refine pm_blk hK zmm27 [] 7 29 [(2, 96), (2, 2)] [] (pm_up μc10 98 (μc10 96 2) (μc10 2 2)) [sx_bit Wm 98 = true, 0 ≤ μc10 96 2 ∧ μc10 96 2 < 6] rfl ⟨hb98, ⟨by omega, by omega⟩, trivial⟩ ?_
    obtain ⟨μ16, eμ16⟩ : ∃ μ', μ' = pm_up μc10 98 (μc10 96 2) (μc10 2 2) := ⟨_, rfl⟩
    rw [← eμ16]
    have hTμ16 : zTJ none μ16 := by rw [eμ16]; exact zT_upn hTc10 zs98_0 rfl (i := μc10 96 2) (by omega) (by omega) (by omega) (by omega)
    have hAd : fa_A (99 + 13 * 3) n m N pol μ16 := by rw [eμ16]; exact fa_A_off hAd (by decide)
    have hr9 := fun r (h1 : 99 ≤ r) (h2 : r ≤ 176) => (by rw [eμ16, pm_up_row (by omega)] : μ16 r = μc10 r).trans (hr9 r h1 h2)
    have hF := fa_fr_st hF eμ16 (by decide)
    have v98 : μ16 98 ((3 : Nat) : Int) = N 3 := by rw [eμ16, show μc10 96 2 = ((3 : Nat) : Int) by omega, pm_up_eq]; exact nb
    have o98 : ∀ k : Nat, k < 6 → k ≠ 3 → μ16 98 (k : Int) = μ 98 (k : Int) := fun k k1 k2 => by rw [eμ16, pm_up_ne (by omega), n98]
    have n2 : μ16 96 2 = μ 96 2 := by rw [eμ16, pm_up_off (by decide)]; exact n2
    have n3 : μ16 96 3 = μ 96 3 := by rw [eμ16, pm_up_off (by decide)]; exact n3
    have g22 : μ16 96 2 = μc10 96 2 := by rw [eμ16, pm_up_off (by decide)]
    have f23 := zT_get hTμ16 zs96_2 (i := 2) (by omega) (by omega)
    refine pm_blk hK zmm27 [] 4 35 [(2, 96), (2, 2)] [(0, 5), (0, μ16 96 2), (2, 96)] μ16 [] rfl trivial ?_
    refine pm_icmp hK zmm27 .ne 7 42 rfl rfl (fun h4 => ?_) (fun h4 => ?_)
    · have h4 : μ16 96 2 ≠ (5 : Int) := h4
      refine pm_blk hK zmm27 [] 5 51 [(2, 96), (2, 2)] [] (pm_up μ16 96 2 ((μ16 96 2) + 1)) [pm_in ((μ16 96 2) + 1), sx_bit Wm 96 = true] rfl ⟨pm_in_mk (by omega) (by omega), hb96, trivial⟩ ?_
      obtain ⟨μ17, eμ17⟩ : ∃ μ', μ' = pm_up μ16 96 2 ((μ16 96 2) + 1) := ⟨_, rfl⟩
      rw [← eμ17]
      have hTμ17 : zTJ none μ17 := by rw [eμ17]; exact zT_upn hTμ16 zs96_2 rfl (i := 2) (by omega) (by omega) (by omega) (by omega)
      have hAd : fa_A (99 + 13 * 3) n m N pol μ17 := by rw [eμ17]; exact fa_A_off hAd (by decide)
      have hr9 := fun r (h1 : 99 ≤ r) (h2 : r ≤ 176) => (by rw [eμ17, pm_up_row (by omega)] : μ17 r = μ16 r).trans (hr9 r h1 h2)
      have hF := fa_fr_st hF eμ17 (by decide)
      have v98 : μ17 98 ((3 : Nat) : Int) = N 3 := by rw [eμ17, pm_up_row (by decide)]; exact v98
      have o98 : ∀ k : Nat, k < 6 → k ≠ 3 → μ17 98 (k : Int) = μ 98 (k : Int) := fun k k1 k2 => by rw [eμ17, pm_up_row (by decide)]; exact o98 k k1 k2
      have d2 : μ17 96 2 = if μ 96 2 = 5 then 0 else μ 96 2 + 1 := by
        rw [eμ17, pm_up_eq]
        first
        | (rw [if_pos (by omega)]; done)
        | (rw [if_neg (by omega)]; omega)
        | (exfalso; omega)
      have d3 : μ17 96 3 = μ 96 3 := by rw [eμ17, pm_up_ne (by decide)]; exact n3
      have f24 := zT_get hTμ17 zs96_3 (i := 3) (by omega) (by omega)
      refine pm_blk hK zmm27 [] 6 60 [(2, 96), (2, 2)] [(0, (μ17 96 3) + 1), (0, 6), (2, 96)] μ17 [pm_in ((μ17 96 3) + 1)] rfl ⟨pm_in_mk (by omega) (by omega), trivial⟩ ?_
      refine pm_call hK zmm27 (39, 1, 30, 2) zM30 (0, 0) [(0, 6), (0, (μ17 96 3) + 1)] [(2, 96)] rfl rfl rfl rfl ⟨by omega, by rw [zn30]; omega⟩ (zh_min hK ⟨Nat.le_refl _, Nat.le_refl _⟩) (fun st11 μc11 hp11 => ?_)
      obtain ⟨rfl, rfl⟩ := hp11
      refine pm_blk hK zmm27 [] 1 66 [(2, 96), (2, 2)] [] (pm_up μ17 96 3 (min 6 ((μ17 96 3) + 1))) [sx_bit Wm 96 = true] rfl ⟨hb96, trivial⟩ ?_
      obtain ⟨μ18, eμ18⟩ : ∃ μ', μ' = pm_up μ17 96 3 (min 6 ((μ17 96 3) + 1)) := ⟨_, rfl⟩
      rw [← eμ18]
      have hTμ18 : zTJ none μ18 := by rw [eμ18]; exact zT_upn hTμ17 zs96_3 rfl (i := 3) (by omega) (by omega) (by omega) (by omega)
      have hAd : fa_A (99 + 13 * 3) n m N pol μ18 := by rw [eμ18]; exact fa_A_off hAd (by decide)
      have hr9 := fun r (h1 : 99 ≤ r) (h2 : r ≤ 176) => (by rw [eμ18, pm_up_row (by omega)] : μ18 r = μ17 r).trans (hr9 r h1 h2)
      have hF := fa_fr_st hF eμ18 (by decide)
      have v98 : μ18 98 ((3 : Nat) : Int) = N 3 := by rw [eμ18, pm_up_row (by decide)]; exact v98
      have o98 : ∀ k : Nat, k < 6 → k ≠ 3 → μ18 98 (k : Int) = μ 98 (k : Int) := fun k k1 k2 => by rw [eμ18, pm_up_row (by decide)]; exact o98 k k1 k2
      exact pm_vret rfl rfl ⟨rfl, hTμ18, fa_Kp_keep (k0 := 3) hq hKp (by decide) hk0 hAd v98 hI hO (by rw [eμ18, pm_up_ne (by decide)]; exact d2) (by rw [eμ18, pm_up_eq]; omega) (fun k k1 k2 r r1 r2 => (hr9 r (by omega) (by omega)).trans (hcc r (by omega))) o98, hF⟩
    · have h4 : μ16 96 2 = (5 : Int) := h4
      refine pm_blk hK zmm27 [] 3 51 [(2, 96), (2, 2)] [] (pm_up μ16 96 2 0) [sx_bit Wm 96 = true] rfl ⟨hb96, trivial⟩ ?_
      obtain ⟨μ19, eμ19⟩ : ∃ μ', μ' = pm_up μ16 96 2 0 := ⟨_, rfl⟩
      rw [← eμ19]
      have hTμ19 : zTJ none μ19 := by rw [eμ19]; exact zT_upn hTμ16 zs96_2 rfl (i := 2) (by omega) (by omega) (by omega) (by omega)
      have hAd : fa_A (99 + 13 * 3) n m N pol μ19 := by rw [eμ19]; exact fa_A_off hAd (by decide)
      have hr9 := fun r (h1 : 99 ≤ r) (h2 : r ≤ 176) => (by rw [eμ19, pm_up_row (by omega)] : μ19 r = μ16 r).trans (hr9 r h1 h2)
      have hF := fa_fr_st hF eμ19 (by decide)
      have v98 : μ19 98 ((3 : Nat) : Int) = N 3 := by rw [eμ19, pm_up_row (by decide)]; exact v98
      have o98 : ∀ k : Nat, k < 6 → k ≠ 3 → μ19 98 (k : Int) = μ 98 (k : Int) := fun k k1 k2 => by rw [eμ19, pm_up_row (by decide)]; exact o98 k k1 k2
      have d2 : μ19 96 2 = if μ 96 2 = 5 then 0 else μ 96 2 + 1 := by
        rw [eμ19, pm_up_eq]
        first
        | (rw [if_pos (by omega)]; done)
        | (rw [if_neg (by omega)]; omega)
        | (exfalso; omega)
      have d3 : μ19 96 3 = μ 96 3 := by rw [eμ19, pm_up_ne (by decide)]; exact n3
      have f25 := zT_get hTμ19 zs96_3 (i := 3) (by omega) (by omega)
      refine pm_blk hK zmm27 [] 6 60 [(2, 96), (2, 2)] [(0, (μ19 96 3) + 1), (0, 6), (2, 96)] μ19 [pm_in ((μ19 96 3) + 1)] rfl ⟨pm_in_mk (by omega) (by omega), trivial⟩ ?_
      refine pm_call hK zmm27 (39, 1, 30, 2) zM30 (0, 0) [(0, 6), (0, (μ19 96 3) + 1)] [(2, 96)] rfl rfl rfl rfl ⟨by omega, by rw [zn30]; omega⟩ (zh_min hK ⟨Nat.le_refl _, Nat.le_refl _⟩) (fun st12 μc12 hp12 => ?_)
      obtain ⟨rfl, rfl⟩ := hp12
      refine pm_blk hK zmm27 [] 1 66 [(2, 96), (2, 2)] [] (pm_up μ19 96 3 (min 6 ((μ19 96 3) + 1))) [sx_bit Wm 96 = true] rfl ⟨hb96, trivial⟩ ?_
      obtain ⟨μ20, eμ20⟩ : ∃ μ', μ' = pm_up μ19 96 3 (min 6 ((μ19 96 3) + 1)) := ⟨_, rfl⟩
      rw [← eμ20]
      have hTμ20 : zTJ none μ20 := by rw [eμ20]; exact zT_upn hTμ19 zs96_3 rfl (i := 3) (by omega) (by omega) (by omega) (by omega)
      have hAd : fa_A (99 + 13 * 3) n m N pol μ20 := by rw [eμ20]; exact fa_A_off hAd (by decide)
      have hr9 := fun r (h1 : 99 ≤ r) (h2 : r ≤ 176) => (by rw [eμ20, pm_up_row (by omega)] : μ20 r = μ19 r).trans (hr9 r h1 h2)
      have hF := fa_fr_st hF eμ20 (by decide)
      have v98 : μ20 98 ((3 : Nat) : Int) = N 3 := by rw [eμ20, pm_up_row (by decide)]; exact v98
      have o98 : ∀ k : Nat, k < 6 → k ≠ 3 → μ20 98 (k : Int) = μ 98 (k : Int) := fun k k1 k2 => by rw [eμ20, pm_up_row (by decide)]; exact o98 k k1 k2
      exact pm_vret rfl rfl ⟨rfl, hTμ20, fa_Kp_keep (k0 := 3) hq hKp (by decide) hk0 hAd v98 hI hO (by rw [eμ20, pm_up_ne (by decide)]; exact d2) (by rw [eμ20, pm_up_eq]; omega) (fun k k1 k2 r r1 r2 => (hr9 r (by omega) (by omega)).trans (hcc r (by omega))) o98, hF⟩
  · refine zp_aald hK zmm27 (r := 97) (q := 151) (k := 4) (g := zG97) (t := (2, 151, 0)) rfl rfl (by decide) hk0 rfl rfl rfl rfl ?_
    refine pm_blk hK zmm27 [] 2 13 [(2, 96), (2, 2)] [(2, 3), (2, 151)] μ [] rfl trivial ?_
    refine pm_call hK zmm27 (33, 0, 28, 1) zM28 (2, 46) [(2, 151), (2, 3)] [] rfl rfl rfl rfl ⟨by omega, by rw [zn28]; omega⟩ (fc_ac151_3 hK hT hb151 hb152 hb153 hb154 hb155 hb156 hb157 hb158 hb159 hb160 hb161 hb162 hb163 ⟨Nat.le_refl _, Nat.le_refl _⟩) (fun st13 μc13 hp13 => ?_)
    obtain ⟨rfl, hTc13, hc13⟩ := hp13
    have hcc := hc13.2.2
    have hF := fa_fr_cp (L := fc_LK) hc13 (by decide)
    have hAd : fa_A (99 + 13 * 4) n m N pol μc13 := fa_cp_A hq hc13 hA
    have hr9 : ∀ r, 99 ≤ r → r ≤ 176 → μc13 r = μc13 r := fun _ _ _ => rfl
    have n2 : μc13 96 2 = μ 96 2 := by rw [hcc 96 (by decide)]
    have n3 : μc13 96 3 = μ 96 3 := by rw [hcc 96 (by decide)]
    have nb : μc13 2 2 = N 3 := by rw [hcc 2 (by decide)]; exact b2
    have n98 : μc13 98 = μ 98 := hcc 98 (by decide)
    have f26 := zT_get hTc13 zs96_2 (i := 2) (by omega) (by omega)
    have f27 := zT_get hTc13 zs2_2 (i := 2) (by omega) (by omega)
    refine pm_blk hK zmm27 [] 7 29 [(2, 96), (2, 2)] [] (pm_up μc13 98 (μc13 96 2) (μc13 2 2)) [sx_bit Wm 98 = true, 0 ≤ μc13 96 2 ∧ μc13 96 2 < 6] rfl ⟨hb98, ⟨by omega, by omega⟩, trivial⟩ ?_
    obtain ⟨μ21, eμ21⟩ : ∃ μ', μ' = pm_up μc13 98 (μc13 96 2) (μc13 2 2) := ⟨_, rfl⟩
    rw [← eμ21]
    have hTμ21 : zTJ none μ21 := by rw [eμ21]; exact zT_upn hTc13 zs98_0 rfl (i := μc13 96 2) (by omega) (by omega) (by omega) (by omega)
    have hAd : fa_A (99 + 13 * 4) n m N pol μ21 := by rw [eμ21]; exact fa_A_off hAd (by decide)
    have hr9 := fun r (h1 : 99 ≤ r) (h2 : r ≤ 176) => (by rw [eμ21, pm_up_row (by omega)] : μ21 r = μc13 r).trans (hr9 r h1 h2)
    have hF := fa_fr_st hF eμ21 (by decide)
    have v98 : μ21 98 ((4 : Nat) : Int) = N 3 := by rw [eμ21, show μc13 96 2 = ((4 : Nat) : Int) by omega, pm_up_eq]; exact nb
    have o98 : ∀ k : Nat, k < 6 → k ≠ 4 → μ21 98 (k : Int) = μ 98 (k : Int) := fun k k1 k2 => by rw [eμ21, pm_up_ne (by omega), n98]
    have n2 : μ21 96 2 = μ 96 2 := by rw [eμ21, pm_up_off (by decide)]; exact n2
    have n3 : μ21 96 3 = μ 96 3 := by rw [eμ21, pm_up_off (by decide)]; exact n3
    have g28 : μ21 96 2 = μc13 96 2 := by rw [eμ21, pm_up_off (by decide)]
    have f29 := zT_get hTμ21 zs96_2 (i := 2) (by omega) (by omega)
    refine pm_blk hK zmm27 [] 4 35 [(2, 96), (2, 2)] [(0, 5), (0, μ21 96 2), (2, 96)] μ21 [] rfl trivial ?_
    refine pm_icmp hK zmm27 .ne 7 42 rfl rfl (fun h5 => ?_) (fun h5 => ?_)
    · have h5 : μ21 96 2 ≠ (5 : Int) := h5
      refine pm_blk hK zmm27 [] 5 51 [(2, 96), (2, 2)] [] (pm_up μ21 96 2 ((μ21 96 2) + 1)) [pm_in ((μ21 96 2) + 1), sx_bit Wm 96 = true] rfl ⟨pm_in_mk (by omega) (by omega), hb96, trivial⟩ ?_
      obtain ⟨μ22, eμ22⟩ : ∃ μ', μ' = pm_up μ21 96 2 ((μ21 96 2) + 1) := ⟨_, rfl⟩
      rw [← eμ22]
      have hTμ22 : zTJ none μ22 := by rw [eμ22]; exact zT_upn hTμ21 zs96_2 rfl (i := 2) (by omega) (by omega) (by omega) (by omega)
      have hAd : fa_A (99 + 13 * 4) n m N pol μ22 := by rw [eμ22]; exact fa_A_off hAd (by decide)
      have hr9 := fun r (h1 : 99 ≤ r) (h2 : r ≤ 176) => (by rw [eμ22, pm_up_row (by omega)] : μ22 r = μ21 r).trans (hr9 r h1 h2)
      have hF := fa_fr_st hF eμ22 (by decide)
      have v98 : μ22 98 ((4 : Nat) : Int) = N 3 := by rw [eμ22, pm_up_row (by decide)]; exact v98
      have o98 : ∀ k : Nat, k < 6 → k ≠ 4 → μ22 98 (k : Int) = μ 98 (k : Int) := fun k k1 k2 => by rw [eμ22, pm_up_row (by decide)]; exact o98 k k1 k2
      have d2 : μ22 96 2 = if μ 96 2 = 5 then 0 else μ 96 2 + 1 := by
        rw [eμ22, pm_up_eq]
        first
        | (rw [if_pos (by omega)]; done)
        | (rw [if_neg (by omega)]; omega)
        | (exfalso; omega)
      have d3 : μ22 96 3 = μ 96 3 := by rw [eμ22, pm_up_ne (by decide)]; exact n3
      have f30 := zT_get hTμ22 zs96_3 (i := 3) (by omega) (by omega)
      refine pm_blk hK zmm27 [] 6 60 [(2, 96), (2, 2)] [(0, (μ22 96 3) + 1), (0, 6), (2, 96)] μ22 [pm_in ((μ22 96 3) + 1)] rfl ⟨pm_in_mk (by omega) (by omega), trivial⟩ ?_
      refine pm_call hK zmm27 (39, 1, 30, 2) zM30 (0, 0) [(0, 6), (0, (μ22 96 3) + 1)] [(2, 96)] rfl rfl rfl rfl ⟨by omega, by rw [zn30]; omega⟩ (zh_min hK ⟨Nat.le_refl _, Nat.le_refl _⟩) (fun st14 μc14 hp14 => ?_)
      obtain ⟨rfl, rfl⟩ := hp14
      refine pm_blk hK zmm27 [] 1 66 [(2, 96), (2, 2)] [] (pm_up μ22 96 3 (min 6 ((μ22 96 3) + 1))) [sx_bit Wm 96 = true] rfl ⟨hb96, trivial⟩ ?_
      obtain ⟨μ23, eμ23⟩ : ∃ μ', μ' = pm_up μ22 96 3 (min 6 ((μ22 96 3) + 1)) := ⟨_, rfl⟩
      rw [← eμ23]
      have hTμ23 : zTJ none μ23 := by rw [eμ23]; exact zT_upn hTμ22 zs96_3 rfl (i := 3) (by omega) (by omega) (by omega) (by omega)
      have hAd : fa_A (99 + 13 * 4) n m N pol μ23 := by rw [eμ23]; exact fa_A_off hAd (by decide)
      have hr9 := fun r (h1 : 99 ≤ r) (h2 : r ≤ 176) => (by rw [eμ23, pm_up_row (by omega)] : μ23 r = μ22 r).trans (hr9 r h1 h2)
      have hF := fa_fr_st hF eμ23 (by decide)
      have v98 : μ23 98 ((4 : Nat) : Int) = N 3 := by rw [eμ23, pm_up_row (by decide)]; exact v98
      have o98 : ∀ k : Nat, k < 6 → k ≠ 4 → μ23 98 (k : Int) = μ 98 (k : Int) := fun k k1 k2 => by rw [eμ23, pm_up_row (by decide)]; exact o98 k k1 k2
      exact pm_vret rfl rfl ⟨rfl, hTμ23, fa_Kp_keep (k0 := 4) hq hKp (by decide) hk0 hAd v98 hI hO (by rw [eμ23, pm_up_ne (by decide)]; exact d2) (by rw [eμ23, pm_up_eq]; omega) (fun k k1 k2 r r1 r2 => (hr9 r (by omega) (by omega)).trans (hcc r (by omega))) o98, hF⟩
    · have h5 : μ21 96 2 = (5 : Int) := h5
      refine pm_blk hK zmm27 [] 3 51 [(2, 96), (2, 2)] [] (pm_up μ21 96 2 0) [sx_bit Wm 96 = true] rfl ⟨hb96, trivial⟩ ?_
      obtain ⟨μ24, eμ24⟩ : ∃ μ', μ' = pm_up μ21 96 2 0 := ⟨_, rfl⟩
      rw [← eμ24]
      have hTμ24 : zTJ none μ24 := by rw [eμ24]; exact zT_upn hTμ21 zs96_2 rfl (i := 2) (by omega) (by omega) (by omega) (by omega)
      have hAd : fa_A (99 + 13 * 4) n m N pol μ24 := by rw [eμ24]; exact fa_A_off hAd (by decide)
      have hr9 := fun r (h1 : 99 ≤ r) (h2 : r ≤ 176) => (by rw [eμ24, pm_up_row (by omega)] : μ24 r = μ21 r).trans (hr9 r h1 h2)
      have hF := fa_fr_st hF eμ24 (by decide)
      have v98 : μ24 98 ((4 : Nat) : Int) = N 3 := by rw [eμ24, pm_up_row (by decide)]; exact v98
      have o98 : ∀ k : Nat, k < 6 → k ≠ 4 → μ24 98 (k : Int) = μ 98 (k : Int) := fun k k1 k2 => by rw [eμ24, pm_up_row (by decide)]; exact o98 k k1 k2
      have d2 : μ24 96 2 = if μ 96 2 = 5 then 0 else μ 96 2 + 1 := by
        rw [eμ24, pm_up_eq]
        first
        | (rw [if_pos (by omega)]; done)
        | (rw [if_neg (by omega)]; omega)
        | (exfalso; omega)
      have d3 : μ24 96 3 = μ 96 3 := by rw [eμ24, pm_up_ne (by decide)]; exact n3
      have f31 := zT_get hTμ24 zs96_3 (i := 3) (by omega) (by omega)
      refine pm_blk hK zmm27 [] 6 60 [(2, 96), (2, 2)] [(0, (μ24 96 3) + 1), (0, 6), (2, 96)] μ24 [pm_in ((μ24 96 3) + 1)] rfl ⟨pm_in_mk (by omega) (by omega), trivial⟩ ?_
      refine pm_call hK zmm27 (39, 1, 30, 2) zM30 (0, 0) [(0, 6), (0, (μ24 96 3) + 1)] [(2, 96)] rfl rfl rfl rfl ⟨by omega, by rw [zn30]; omega⟩ (zh_min hK ⟨Nat.le_refl _, Nat.le_refl _⟩) (fun st15 μc15 hp15 => ?_)
      obtain ⟨rfl, rfl⟩ := hp15
      refine pm_blk hK zmm27 [] 1 66 [(2, 96), (2, 2)] [] (pm_up μ24 96 3 (min 6 ((μ24 96 3) + 1))) [sx_bit Wm 96 = true] rfl ⟨hb96, trivial⟩ ?_
      obtain ⟨μ25, eμ25⟩ : ∃ μ', μ' = pm_up μ24 96 3 (min 6 ((μ24 96 3) + 1)) := ⟨_, rfl⟩
      rw [← eμ25]
      have hTμ25 : zTJ none μ25 := by rw [eμ25]; exact zT_upn hTμ24 zs96_3 rfl (i := 3) (by omega) (by omega) (by omega) (by omega)
      have hAd : fa_A (99 + 13 * 4) n m N pol μ25 := by rw [eμ25]; exact fa_A_off hAd (by decide)
      have hr9 := fun r (h1 : 99 ≤ r) (h2 : r ≤ 176) => (by rw [eμ25, pm_up_row (by omega)] : μ25 r = μ24 r).trans (hr9 r h1 h2)
      have hF := fa_fr_st hF eμ25 (by decide)
      have v98 : μ25 98 ((4 : Nat) : Int) = N 3 := by rw [eμ25, pm_up_row (by decide)]; exact v98
      have o98 : ∀ k : Nat, k < 6 → k ≠ 4 → μ25 98 (k : Int) = μ 98 (k : Int) := fun k k1 k2 => by rw [eμ25, pm_up_row (by decide)]; exact o98 k k1 k2
      exact pm_vret rfl rfl ⟨rfl, hTμ25, fa_Kp_keep (k0 := 4) hq hKp (by decide) hk0 hAd v98 hI hO (by rw [eμ25, pm_up_ne (by decide)]; exact d2) (by rw [eμ25, pm_up_eq]; omega) (fun k k1 k2 r r1 r2 => (hr9 r (by omega) (by omega)).trans (hcc r (by omega))) o98, hF⟩
  · refine zp_aald hK zmm27 (r := 97) (q := 164) (k := 5) (g := zG97) (t := (2, 164, 0)) rfl rfl (by decide) hk0 rfl rfl rfl rfl ?_
    refine pm_blk hK zmm27 [] 2 13 [(2, 96), (2, 2)] [(2, 3), (2, 164)] μ [] rfl trivial ?_
    refine pm_call hK zmm27 (33, 0, 28, 1) zM28 (2, 46) [(2, 164), (2, 3)] [] rfl rfl rfl rfl ⟨by omega, by rw [zn28]; omega⟩ (fc_ac164_3 hK hT hb164 hb165 hb166 hb167 hb168 hb169 hb170 hb171 hb172 hb173 hb174 hb175 hb176 ⟨Nat.le_refl _, Nat.le_refl _⟩) (fun st16 μc16 hp16 => ?_)
    obtain ⟨rfl, hTc16, hc16⟩ := hp16
    have hcc := hc16.2.2
    have hF := fa_fr_cp (L := fc_LK) hc16 (by decide)
    have hAd : fa_A (99 + 13 * 5) n m N pol μc16 := fa_cp_A hq hc16 hA
    have hr9 : ∀ r, 99 ≤ r → r ≤ 176 → μc16 r = μc16 r := fun _ _ _ => rfl
    have n2 : μc16 96 2 = μ 96 2 := by rw [hcc 96 (by decide)]
    have n3 : μc16 96 3 = μ 96 3 := by rw [hcc 96 (by decide)]
    have nb : μc16 2 2 = N 3 := by rw [hcc 2 (by decide)]; exact b2
    have n98 : μc16 98 = μ 98 := hcc 98 (by decide)
    have f32 := zT_get hTc16 zs96_2 (i := 2) (by omega) (by omega)
    have f33 := zT_get hTc16 zs2_2 (i := 2) (by omega) (by omega)
    refine pm_blk hK zmm27 [] 7 29 [(2, 96), (2, 2)] [] (pm_up μc16 98 (μc16 96 2) (μc16 2 2)) [sx_bit Wm 98 = true, 0 ≤ μc16 96 2 ∧ μc16 96 2 < 6] rfl ⟨hb98, ⟨by omega, by omega⟩, trivial⟩ ?_
    obtain ⟨μ26, eμ26⟩ : ∃ μ', μ' = pm_up μc16 98 (μc16 96 2) (μc16 2 2) := ⟨_, rfl⟩
    rw [← eμ26]
    have hTμ26 : zTJ none μ26 := by rw [eμ26]; exact zT_upn hTc16 zs98_0 rfl (i := μc16 96 2) (by omega) (by omega) (by omega) (by omega)
    have hAd : fa_A (99 + 13 * 5) n m N pol μ26 := by rw [eμ26]; exact fa_A_off hAd (by decide)
    have hr9 := fun r (h1 : 99 ≤ r) (h2 : r ≤ 176) => (by rw [eμ26, pm_up_row (by omega)] : μ26 r = μc16 r).trans (hr9 r h1 h2)
    have hF := fa_fr_st hF eμ26 (by decide)
    have v98 : μ26 98 ((5 : Nat) : Int) = N 3 := by rw [eμ26, show μc16 96 2 = ((5 : Nat) : Int) by omega, pm_up_eq]; exact nb
    have o98 : ∀ k : Nat, k < 6 → k ≠ 5 → μ26 98 (k : Int) = μ 98 (k : Int) := fun k k1 k2 => by rw [eμ26, pm_up_ne (by omega), n98]
    have n2 : μ26 96 2 = μ 96 2 := by rw [eμ26, pm_up_off (by decide)]; exact n2
    have n3 : μ26 96 3 = μ 96 3 := by rw [eμ26, pm_up_off (by decide)]; exact n3
    have g34 : μ26 96 2 = μc16 96 2 := by rw [eμ26, pm_up_off (by decide)]
    have f35 := zT_get hTμ26 zs96_2 (i := 2) (by omega) (by omega)
    refine pm_blk hK zmm27 [] 4 35 [(2, 96), (2, 2)] [(0, 5), (0, μ26 96 2), (2, 96)] μ26 [] rfl trivial ?_
    refine pm_icmp hK zmm27 .ne 7 42 rfl rfl (fun h6 => ?_) (fun h6 => ?_)
    · have h6 : μ26 96 2 ≠ (5 : Int) := h6
      refine pm_blk hK zmm27 [] 5 51 [(2, 96), (2, 2)] [] (pm_up μ26 96 2 ((μ26 96 2) + 1)) [pm_in ((μ26 96 2) + 1), sx_bit Wm 96 = true] rfl ⟨pm_in_mk (by omega) (by omega), hb96, trivial⟩ ?_
      obtain ⟨μ27, eμ27⟩ : ∃ μ', μ' = pm_up μ26 96 2 ((μ26 96 2) + 1) := ⟨_, rfl⟩
      rw [← eμ27]
      have hTμ27 : zTJ none μ27 := by rw [eμ27]; exact zT_upn hTμ26 zs96_2 rfl (i := 2) (by omega) (by omega) (by omega) (by omega)
      have hAd : fa_A (99 + 13 * 5) n m N pol μ27 := by rw [eμ27]; exact fa_A_off hAd (by decide)
      have hr9 := fun r (h1 : 99 ≤ r) (h2 : r ≤ 176) => (by rw [eμ27, pm_up_row (by omega)] : μ27 r = μ26 r).trans (hr9 r h1 h2)
      have hF := fa_fr_st hF eμ27 (by decide)
      have v98 : μ27 98 ((5 : Nat) : Int) = N 3 := by rw [eμ27, pm_up_row (by decide)]; exact v98
      have o98 : ∀ k : Nat, k < 6 → k ≠ 5 → μ27 98 (k : Int) = μ 98 (k : Int) := fun k k1 k2 => by rw [eμ27, pm_up_row (by decide)]; exact o98 k k1 k2
      have d2 : μ27 96 2 = if μ 96 2 = 5 then 0 else μ 96 2 + 1 := by
        rw [eμ27, pm_up_eq]
        first
        | (rw [if_pos (by omega)]; done)
        | (rw [if_neg (by omega)]; omega)
        | (exfalso; omega)
      have d3 : μ27 96 3 = μ 96 3 := by rw [eμ27, pm_up_ne (by decide)]; exact n3
      have f36 := zT_get hTμ27 zs96_3 (i := 3) (by omega) (by omega)
      refine pm_blk hK zmm27 [] 6 60 [(2, 96), (2, 2)] [(0, (μ27 96 3) + 1), (0, 6), (2, 96)] μ27 [pm_in ((μ27 96 3) + 1)] rfl ⟨pm_in_mk (by omega) (by omega), trivial⟩ ?_
      refine pm_call hK zmm27 (39, 1, 30, 2) zM30 (0, 0) [(0, 6), (0, (μ27 96 3) + 1)] [(2, 96)] rfl rfl rfl rfl ⟨by omega, by rw [zn30]; omega⟩ (zh_min hK ⟨Nat.le_refl _, Nat.le_refl _⟩) (fun st17 μc17 hp17 => ?_)
      obtain ⟨rfl, rfl⟩ := hp17
      refine pm_blk hK zmm27 [] 1 66 [(2, 96), (2, 2)] [] (pm_up μ27 96 3 (min 6 ((μ27 96 3) + 1))) [sx_bit Wm 96 = true] rfl ⟨hb96, trivial⟩ ?_
      obtain ⟨μ28, eμ28⟩ : ∃ μ', μ' = pm_up μ27 96 3 (min 6 ((μ27 96 3) + 1)) := ⟨_, rfl⟩
      rw [← eμ28]
      have hTμ28 : zTJ none μ28 := by rw [eμ28]; exact zT_upn hTμ27 zs96_3 rfl (i := 3) (by omega) (by omega) (by omega) (by omega)
      have hAd : fa_A (99 + 13 * 5) n m N pol μ28 := by rw [eμ28]; exact fa_A_off hAd (by decide)
      have hr9 := fun r (h1 : 99 ≤ r) (h2 : r ≤ 176) => (by rw [eμ28, pm_up_row (by omega)] : μ28 r = μ27 r).trans (hr9 r h1 h2)
      have hF := fa_fr_st hF eμ28 (by decide)
      have v98 : μ28 98 ((5 : Nat) : Int) = N 3 := by rw [eμ28, pm_up_row (by decide)]; exact v98
      have o98 : ∀ k : Nat, k < 6 → k ≠ 5 → μ28 98 (k : Int) = μ 98 (k : Int) := fun k k1 k2 => by rw [eμ28, pm_up_row (by decide)]; exact o98 k k1 k2
      exact pm_vret rfl rfl ⟨rfl, hTμ28, fa_Kp_keep (k0 := 5) hq hKp (by decide) hk0 hAd v98 hI hO (by rw [eμ28, pm_up_ne (by decide)]; exact d2) (by rw [eμ28, pm_up_eq]; omega) (fun k k1 k2 r r1 r2 => (hr9 r (by omega) (by omega)).trans (hcc r (by omega))) o98, hF⟩
    · have h6 : μ26 96 2 = (5 : Int) := h6
      refine pm_blk hK zmm27 [] 3 51 [(2, 96), (2, 2)] [] (pm_up μ26 96 2 0) [sx_bit Wm 96 = true] rfl ⟨hb96, trivial⟩ ?_
      obtain ⟨μ29, eμ29⟩ : ∃ μ', μ' = pm_up μ26 96 2 0 := ⟨_, rfl⟩
      rw [← eμ29]
      have hTμ29 : zTJ none μ29 := by rw [eμ29]; exact zT_upn hTμ26 zs96_2 rfl (i := 2) (by omega) (by omega) (by omega) (by omega)
      have hAd : fa_A (99 + 13 * 5) n m N pol μ29 := by rw [eμ29]; exact fa_A_off hAd (by decide)
      have hr9 := fun r (h1 : 99 ≤ r) (h2 : r ≤ 176) => (by rw [eμ29, pm_up_row (by omega)] : μ29 r = μ26 r).trans (hr9 r h1 h2)
      have hF := fa_fr_st hF eμ29 (by decide)
      have v98 : μ29 98 ((5 : Nat) : Int) = N 3 := by rw [eμ29, pm_up_row (by decide)]; exact v98
      have o98 : ∀ k : Nat, k < 6 → k ≠ 5 → μ29 98 (k : Int) = μ 98 (k : Int) := fun k k1 k2 => by rw [eμ29, pm_up_row (by decide)]; exact o98 k k1 k2
      have d2 : μ29 96 2 = if μ 96 2 = 5 then 0 else μ 96 2 + 1 := by
        rw [eμ29, pm_up_eq]
        first
        | (rw [if_pos (by omega)]; done)
        | (rw [if_neg (by omega)]; omega)
        | (exfalso; omega)
      have d3 : μ29 96 3 = μ 96 3 := by rw [eμ29, pm_up_ne (by decide)]; exact n3
      have f37 := zT_get hTμ29 zs96_3 (i := 3) (by omega) (by omega)
      refine pm_blk hK zmm27 [] 6 60 [(2, 96), (2, 2)] [(0, (μ29 96 3) + 1), (0, 6), (2, 96)] μ29 [pm_in ((μ29 96 3) + 1)] rfl ⟨pm_in_mk (by omega) (by omega), trivial⟩ ?_
      refine pm_call hK zmm27 (39, 1, 30, 2) zM30 (0, 0) [(0, 6), (0, (μ29 96 3) + 1)] [(2, 96)] rfl rfl rfl rfl ⟨by omega, by rw [zn30]; omega⟩ (zh_min hK ⟨Nat.le_refl _, Nat.le_refl _⟩) (fun st18 μc18 hp18 => ?_)
      obtain ⟨rfl, rfl⟩ := hp18
      refine pm_blk hK zmm27 [] 1 66 [(2, 96), (2, 2)] [] (pm_up μ29 96 3 (min 6 ((μ29 96 3) + 1))) [sx_bit Wm 96 = true] rfl ⟨hb96, trivial⟩ ?_
      obtain ⟨μ30, eμ30⟩ : ∃ μ', μ' = pm_up μ29 96 3 (min 6 ((μ29 96 3) + 1)) := ⟨_, rfl⟩
      rw [← eμ30]
      have hTμ30 : zTJ none μ30 := by rw [eμ30]; exact zT_upn hTμ29 zs96_3 rfl (i := 3) (by omega) (by omega) (by omega) (by omega)
      have hAd : fa_A (99 + 13 * 5) n m N pol μ30 := by rw [eμ30]; exact fa_A_off hAd (by decide)
      have hr9 := fun r (h1 : 99 ≤ r) (h2 : r ≤ 176) => (by rw [eμ30, pm_up_row (by omega)] : μ30 r = μ29 r).trans (hr9 r h1 h2)
      have hF := fa_fr_st hF eμ30 (by decide)
      have v98 : μ30 98 ((5 : Nat) : Int) = N 3 := by rw [eμ30, pm_up_row (by decide)]; exact v98
      have o98 : ∀ k : Nat, k < 6 → k ≠ 5 → μ30 98 (k : Int) = μ 98 (k : Int) := fun k k1 k2 => by rw [eμ30, pm_up_row (by decide)]; exact o98 k k1 k2
      exact pm_vret rfl rfl ⟨rfl, hTμ30, fa_Kp_keep (k0 := 5) hq hKp (by decide) hk0 hAd v98 hI hO (by rw [eμ30, pm_up_ne (by decide)]; exact d2) (by rw [eμ30, pm_up_eq]; omega) (fun k k1 k2 r r1 r2 => (hr9 r (by omega) (by omega)).trans (hcc r (by omega))) o98, hF⟩
end ZHW
