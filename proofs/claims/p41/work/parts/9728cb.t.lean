/-! F: the class: ACT; walks printed by program (wip/p30/pmgen.py) and filled by hand -/
section ZHW
variable {D : va_G} {Wm : Nat} {ST : List (String × String × String × Nat)} {b0 : sx_B} {l : Launch} {Sg : Nat → Option Nat} {bud : sx_Bu} {μ : pm_Mem} {B0 : Nat → Prop} {J : (Nat → Option Nat) → Heap → Prop}
set_option maxRecDepth 100000 in
theorem fm_goIn (hK : zKK ST) {c v : Int} (hT : zTJ none μ) {N B pol : Int → Int} {n m : Int} (hC : fa_C false 3 n m (N, B) pol μ) (hn0 : 0 ≤ n) (hm0 : 0 ≤ m) (hq : n ≤ 12 ∧ m ≤ 18) (hI : fa_I n m N) (hO : fa_O m N) {Q : Int → Int} {u : Int} (hKp : fa_Kp n m pol Q u μ) (hb2 : sx_bit Wm 2 = true) (hb3 : sx_bit Wm 3 = true) (hb4 : sx_bit Wm 4 = true) (hb5 : sx_bit Wm 5 = true) (hb6 : sx_bit Wm 6 = true) (hb7 : sx_bit Wm 7 = true) (hb8 : sx_bit Wm 8 = true) (hb9 : sx_bit Wm 9 = true) (hb10 : sx_bit Wm 10 = true) (hb11 : sx_bit Wm 11 = true) (hb12 : sx_bit Wm 12 = true) (hb13 : sx_bit Wm 13 = true) (hb14 : sx_bit Wm 14 = true) (hb15 : sx_bit Wm 15 = true) (hb16 : sx_bit Wm 16 = true) (hb96 : sx_bit Wm 96 = true) (hb98 : sx_bit Wm 98 = true) (hb99 : sx_bit Wm 99 = true) (hb100 : sx_bit Wm 100 = true) (hb101 : sx_bit Wm 101 = true) (hb102 : sx_bit Wm 102 = true) (hb103 : sx_bit Wm 103 = true) (hb104 : sx_bit Wm 104 = true) (hb105 : sx_bit Wm 105 = true) (hb106 : sx_bit Wm 106 = true) (hb107 : sx_bit Wm 107 = true) (hb108 : sx_bit Wm 108 = true) (hb109 : sx_bit Wm 109 = true) (hb110 : sx_bit Wm 110 = true) (hb111 : sx_bit Wm 111 = true) (hb112 : sx_bit Wm 112 = true) (hb113 : sx_bit Wm 113 = true) (hb114 : sx_bit Wm 114 = true) (hb115 : sx_bit Wm 115 = true) (hb116 : sx_bit Wm 116 = true) (hb117 : sx_bit Wm 117 = true) (hb118 : sx_bit Wm 118 = true) (hb119 : sx_bit Wm 119 = true) (hb120 : sx_bit Wm 120 = true) (hb121 : sx_bit Wm 121 = true) (hb122 : sx_bit Wm 122 = true) (hb123 : sx_bit Wm 123 = true) (hb124 : sx_bit Wm 124 = true) (hb125 : sx_bit Wm 125 = true) (hb126 : sx_bit Wm 126 = true) (hb127 : sx_bit Wm 127 = true) (hb128 : sx_bit Wm 128 = true) (hb129 : sx_bit Wm 129 = true) (hb130 : sx_bit Wm 130 = true) (hb131 : sx_bit Wm 131 = true) (hb132 : sx_bit Wm 132 = true) (hb133 : sx_bit Wm 133 = true) (hb134 : sx_bit Wm 134 = true) (hb135 : sx_bit Wm 135 = true) (hb136 : sx_bit Wm 136 = true) (hb137 : sx_bit Wm 137 = true) (hb138 : sx_bit Wm 138 = true) (hb139 : sx_bit Wm 139 = true) (hb140 : sx_bit Wm 140 = true) (hb141 : sx_bit Wm 141 = true) (hb142 : sx_bit Wm 142 = true) (hb143 : sx_bit Wm 143 = true) (hb144 : sx_bit Wm 144 = true) (hb145 : sx_bit Wm 145 = true) (hb146 : sx_bit Wm 146 = true) (hb147 : sx_bit Wm 147 = true) (hb148 : sx_bit Wm 148 = true) (hb149 : sx_bit Wm 149 = true) (hb150 : sx_bit Wm 150 = true) (hb151 : sx_bit Wm 151 = true) (hb152 : sx_bit Wm 152 = true) (hb153 : sx_bit Wm 153 = true) (hb154 : sx_bit Wm 154 = true) (hb155 : sx_bit Wm 155 = true) (hb156 : sx_bit Wm 156 = true) (hb157 : sx_bit Wm 157 = true) (hb158 : sx_bit Wm 158 = true) (hb159 : sx_bit Wm 159 = true) (hb160 : sx_bit Wm 160 = true) (hb161 : sx_bit Wm 161 = true) (hb162 : sx_bit Wm 162 = true) (hb163 : sx_bit Wm 163 = true) (hb164 : sx_bit Wm 164 = true) (hb165 : sx_bit Wm 165 = true) (hb166 : sx_bit Wm 166 = true) (hb167 : sx_bit Wm 167 = true) (hb168 : sx_bit Wm 168 = true) (hb169 : sx_bit Wm 169 = true) (hb170 : sx_bit Wm 170 = true) (hb171 : sx_bit Wm 171 = true) (hb172 : sx_bit Wm 172 = true) (hb173 : sx_bit Wm 173 = true) (hb174 : sx_bit Wm 174 = true) (hb175 : sx_bit Wm 175 = true) (hb176 : sx_bit Wm 176 = true) (hb178 : sx_bit Wm 178 = true) (hb179 : sx_bit Wm 179 = true) (hbd : 4 ≤ bud.1 ∧ 88 ≤ bud.2.1) : zC D Wm ST b0 l Sg zM25 bud [(2, 1), (0, c), (0, v)] μ (fun st' μ' => ∃ x, st' = [(0, x)] ∧ zTJ none μ' ∧ ((((0 ≤ c ∧ c < m) ∧ (0 ≤ v ∧ v < n) ∧ N (40 + v) = 0 ∧ N (106 + c) ≠ v + 1) ∧ x = 1 ∧ fa_C false 3 n m (fa_up N (106 + c) (v + 1), B) pol μ' ∧ fa_Kp n m pol (fa_kQ Q u N) (fa_ku u) μ' ∧ fa_fr fm_LA μ μ') ∨ (¬ ((0 ≤ c ∧ c < m) ∧ (0 ≤ v ∧ v < n) ∧ N (40 + v) = 0 ∧ N (106 + c) ≠ v + 1) ∧ x = 0 ∧ fa_fr [178, 179] μ μ'))) := by
  have a0 : μ 3 0 = n := hC.1.1.1
  have a1 : μ 3 1 = m := hC.1.1.2.1
  have hC2 := hC
  have hKp2 := hKp
  have hF2 : fa_fr fm_LA μ μ := fa_fr_0
  have ro : (0 ≤ v ∧ v < n) → μ 7 v = 1 - N (40 + v) := fun h => fa_r_open hC.1 h.1 h.2
  have ri : (0 ≤ c ∧ c < m) → μ 13 c = N (106 + c) - 1 := fun h => fa_r_in hC.1 h.1 h.2
  refine pm_blk hK zmm25 [] 6 10 [(2, 1), (0, c), (0, v), (2, 3)] [(0, c), (2, 3)] μ [] rfl trivial ?_
  refine pm_call hK zmm25 (113, 0, 23, 1) zM23 (0, 0) [(2, 3), (0, c)] [] rfl rfl rfl rfl ⟨by omega, by rw [zn23]; omega⟩ (fc_isCustomer3 hK (s := c) ⟨Nat.le_refl _, Nat.le_refl _⟩) (fun st1 μc1 hp1 => ?_)
  obtain ⟨rfl, rfl⟩ := hp1
  refine pm_if hK zmm25 .eq 21 34 rfl rfl (fun h0 => ?_) (fun h0 => ?_)
  · have h0 : (if 0 ≤ (c) ∧ (c) < μ 3 1 then 1 else 0 : Int) = (0 : Int) := h0
    have h0 := zif0 h0
    refine pm_blk hK zmm25 [] 1 35 [(2, 1), (0, c), (0, v), (2, 3)] [(0, 0)] μ [] rfl trivial ?_
    exact pm_zret rfl rfl (by first | exact Or.inl rfl | exact Or.inr rfl | omega) ⟨_, rfl, hT, Or.inr ⟨fun q => by omega, rfl, fa_fr_0⟩⟩
  · have h0 : (if 0 ≤ (c) ∧ (c) < μ 3 1 then 1 else 0 : Int) ≠ (0 : Int) := h0
    have h0 := zif1 h0
    refine pm_blk hK zmm25 [] 2 18 [(2, 1), (0, c), (0, v), (2, 3)] [(0, v), (2, 3)] μ [] rfl trivial ?_
    refine pm_call hK zmm25 (135, 0, 26, 1) zM26 (1, 21) [(2, 3), (0, v)] [] rfl rfl rfl rfl ⟨by omega, by rw [zn26]; omega⟩ (fc_isOpen3 hK (s := v) hT ⟨Nat.le_refl _, Nat.le_refl _⟩) (fun st2 μc2 hp2 => ?_)
    obtain ⟨rfl, rfl⟩ := hp2
    refine pm_if hK zmm25 .eq 13 34 rfl rfl (fun h1 => ?_) (fun h1 => ?_)
    · have h1 : (if (0 ≤ (v) ∧ (v) < μ 3 0) ∧ μ 7 (v) = 1 then 1 else 0 : Int) = (0 : Int) := h1
      have h1 := zif0 h1
      refine pm_blk hK zmm25 [] 1 35 [(2, 1), (0, c), (0, v), (2, 3)] [(0, 0)] μ [] rfl trivial ?_
      exact pm_zret rfl rfl (by first | exact Or.inl rfl | exact Or.inr rfl | omega) ⟨_, rfl, hT, Or.inr ⟨fun q => by omega, rfl, fa_fr_0⟩⟩
    · have h1 : (if (0 ≤ (v) ∧ (v) < μ 3 0) ∧ μ 7 (v) = 1 then 1 else 0 : Int) ≠ (0 : Int) := h1
      have h1 := zif1 h1
      have f1 := zT_get hT zs13_0 (i := c) (by omega) (by omega)
      refine pm_blk hK zmm25 [] 5 31 [(2, 1), (0, c), (0, v), (2, 3)] [(0, v), (0, μ 13 c)] μ [0 ≤ c ∧ c < 18] rfl ⟨⟨by omega, by omega⟩, trivial⟩ ?_
      refine pm_icmp hK zmm25 .ne 5 36 rfl rfl (fun h2 => ?_) (fun h2 => ?_)
      · have h2 : μ 13 c ≠ v := h2
        refine pm_blk hK zmm25 [] 4 44 [(2, 1), (0, c), (0, v), (2, 3)] [(2, 2), (2, 96)] μ [] rfl trivial ?_
        refine pm_call hK zmm25 (141, 0, 27, 1) zM27 (3, 67) [(2, 96), (2, 2)] [] rfl rfl rfl rfl ⟨by omega, by rw [zn27]; omega⟩ (fc_keep hK hT hC2.1 hn0 hm0 hq hI hO (hC2.2 rfl).1 hKp2 hb96 hb98 hb99 hb100 hb101 hb102 hb103 hb104 hb105 hb106 hb107 hb108 hb109 hb110 hb111 hb112 hb113 hb114 hb115 hb116 hb117 hb118 hb119 hb120 hb121 hb122 hb123 hb124 hb125 hb126 hb127 hb128 hb129 hb130 hb131 hb132 hb133 hb134 hb135 hb136 hb137 hb138 hb139 hb140 hb141 hb142 hb143 hb144 hb145 hb146 hb147 hb148 hb149 hb150 hb151 hb152 hb153 hb154 hb155 hb156 hb157 hb158 hb159 hb160 hb161 hb162 hb163 hb164 hb165 hb166 hb167 hb168 hb169 hb170 hb171 hb172 hb173 hb174 hb175 hb176 ⟨Nat.le_refl _, Nat.le_refl _⟩) (fun st3 μc3 hp3 => ?_)
        obtain ⟨rfl, hTc3, hK1, hf1⟩ := hp3
        have hC3 := fm_A_cp hC2 hf1 (by decide) (by decide) (by decide)
        have hF3 : fa_fr fm_LA μ μc3 := fa_fr_tr hF2 hf1 (by decide)
        refine pm_blk hK zmm25 [] 5 54 [(2, 1), (0, c), (0, v), (2, 3)] [] (pm_up μc3 13 c v) [sx_bit Wm 13 = true, 0 ≤ c ∧ c < 18] rfl ⟨hb13, ⟨by omega, by omega⟩, trivial⟩ ?_
        obtain ⟨μ1, eμ1⟩ : ∃ μ', μ' = pm_up μc3 13 c v := ⟨_, rfl⟩
        rw [← eμ1]
        have hTμ1 : zTJ none μ1 := by rw [eμ1]; exact zT_upn hTc3 zs13_0 rfl (i := c) (by omega) (by omega) (by omega) (by omega)
        have hC4 : fa_C false 3 n m (fa_up N (106 + c) (v + 1), B) pol μ1 := by rw [eμ1]; exact fa_C_w hC3 (fa_w_in hC3.1 hq (by omega) (by omega) (by omega)) ⟨by decide, by decide⟩ (fa_up_ne (by omega))
        have hF4 : fa_fr fm_LA μ μ1 := fa_fr_st hF3 eμ1 (by decide)
        have hK4 : fa_Kp n m pol (fa_kQ Q u N) (fa_ku u) μ1 := fa_Kp_fr hK1 (by rw [eμ1, pm_up_row (by decide)]) (by rw [eμ1, pm_up_row (by decide)]) (fun r h1 h2 => by rw [eμ1, pm_up_row (by omega)])
        refine pm_blk hK zmm25 [] 1 55 [(2, 1), (0, c), (0, v), (2, 3)] [(0, 1)] μ1 [] rfl trivial ?_
        exact pm_zret rfl rfl (by first | exact Or.inl rfl | exact Or.inr rfl | omega) ⟨_, rfl, hTμ1, Or.inl ⟨⟨⟨by omega, by omega⟩, ⟨by omega, by omega⟩, by omega, by omega⟩, rfl, hC4, hK4, hF4⟩⟩
      · have h2 : μ 13 c = v := h2
        refine pm_blk hK zmm25 [] 1 35 [(2, 1), (0, c), (0, v), (2, 3)] [(0, 0)] μ [] rfl trivial ?_
        exact pm_zret rfl rfl (by first | exact Or.inl rfl | exact Or.inr rfl | omega) ⟨_, rfl, hT, Or.inr ⟨fun q => by omega, rfl, fa_fr_0⟩⟩
set_option maxRecDepth 100000 in
theorem fm_goOut (hK : zKK ST) {c : Int} (hT : zTJ none μ) {N B pol : Int → Int} {n m : Int} (hC : fa_C false 3 n m (N, B) pol μ) (hn0 : 0 ≤ n) (hm0 : 0 ≤ m) (hq : n ≤ 12 ∧ m ≤ 18) (hI : fa_I n m N) (hO : fa_O m N) {Q : Int → Int} {u : Int} (hKp : fa_Kp n m pol Q u μ) (hb2 : sx_bit Wm 2 = true) (hb3 : sx_bit Wm 3 = true) (hb4 : sx_bit Wm 4 = true) (hb5 : sx_bit Wm 5 = true) (hb6 : sx_bit Wm 6 = true) (hb7 : sx_bit Wm 7 = true) (hb8 : sx_bit Wm 8 = true) (hb9 : sx_bit Wm 9 = true) (hb10 : sx_bit Wm 10 = true) (hb11 : sx_bit Wm 11 = true) (hb12 : sx_bit Wm 12 = true) (hb13 : sx_bit Wm 13 = true) (hb14 : sx_bit Wm 14 = true) (hb15 : sx_bit Wm 15 = true) (hb16 : sx_bit Wm 16 = true) (hb96 : sx_bit Wm 96 = true) (hb98 : sx_bit Wm 98 = true) (hb99 : sx_bit Wm 99 = true) (hb100 : sx_bit Wm 100 = true) (hb101 : sx_bit Wm 101 = true) (hb102 : sx_bit Wm 102 = true) (hb103 : sx_bit Wm 103 = true) (hb104 : sx_bit Wm 104 = true) (hb105 : sx_bit Wm 105 = true) (hb106 : sx_bit Wm 106 = true) (hb107 : sx_bit Wm 107 = true) (hb108 : sx_bit Wm 108 = true) (hb109 : sx_bit Wm 109 = true) (hb110 : sx_bit Wm 110 = true) (hb111 : sx_bit Wm 111 = true) (hb112 : sx_bit Wm 112 = true) (hb113 : sx_bit Wm 113 = true) (hb114 : sx_bit Wm 114 = true) (hb115 : sx_bit Wm 115 = true) (hb116 : sx_bit Wm 116 = true) (hb117 : sx_bit Wm 117 = true) (hb118 : sx_bit Wm 118 = true) (hb119 : sx_bit Wm 119 = true) (hb120 : sx_bit Wm 120 = true) (hb121 : sx_bit Wm 121 = true) (hb122 : sx_bit Wm 122 = true) (hb123 : sx_bit Wm 123 = true) (hb124 : sx_bit Wm 124 = true) (hb125 : sx_bit Wm 125 = true) (hb126 : sx_bit Wm 126 = true) (hb127 : sx_bit Wm 127 = true) (hb128 : sx_bit Wm 128 = true) (hb129 : sx_bit Wm 129 = true) (hb130 : sx_bit Wm 130 = true) (hb131 : sx_bit Wm 131 = true) (hb132 : sx_bit Wm 132 = true) (hb133 : sx_bit Wm 133 = true) (hb134 : sx_bit Wm 134 = true) (hb135 : sx_bit Wm 135 = true) (hb136 : sx_bit Wm 136 = true) (hb137 : sx_bit Wm 137 = true) (hb138 : sx_bit Wm 138 = true) (hb139 : sx_bit Wm 139 = true) (hb140 : sx_bit Wm 140 = true) (hb141 : sx_bit Wm 141 = true) (hb142 : sx_bit Wm 142 = true) (hb143 : sx_bit Wm 143 = true) (hb144 : sx_bit Wm 144 = true) (hb145 : sx_bit Wm 145 = true) (hb146 : sx_bit Wm 146 = true) (hb147 : sx_bit Wm 147 = true) (hb148 : sx_bit Wm 148 = true) (hb149 : sx_bit Wm 149 = true) (hb150 : sx_bit Wm 150 = true) (hb151 : sx_bit Wm 151 = true) (hb152 : sx_bit Wm 152 = true) (hb153 : sx_bit Wm 153 = true) (hb154 : sx_bit Wm 154 = true) (hb155 : sx_bit Wm 155 = true) (hb156 : sx_bit Wm 156 = true) (hb157 : sx_bit Wm 157 = true) (hb158 : sx_bit Wm 158 = true) (hb159 : sx_bit Wm 159 = true) (hb160 : sx_bit Wm 160 = true) (hb161 : sx_bit Wm 161 = true) (hb162 : sx_bit Wm 162 = true) (hb163 : sx_bit Wm 163 = true) (hb164 : sx_bit Wm 164 = true) (hb165 : sx_bit Wm 165 = true) (hb166 : sx_bit Wm 166 = true) (hb167 : sx_bit Wm 167 = true) (hb168 : sx_bit Wm 168 = true) (hb169 : sx_bit Wm 169 = true) (hb170 : sx_bit Wm 170 = true) (hb171 : sx_bit Wm 171 = true) (hb172 : sx_bit Wm 172 = true) (hb173 : sx_bit Wm 173 = true) (hb174 : sx_bit Wm 174 = true) (hb175 : sx_bit Wm 175 = true) (hb176 : sx_bit Wm 176 = true) (hb178 : sx_bit Wm 178 = true) (hb179 : sx_bit Wm 179 = true) (hbd : 4 ≤ bud.1 ∧ 88 ≤ bud.2.1) : zC D Wm ST b0 l Sg zM31 bud [(2, 1), (0, c)] μ (fun st' μ' => ∃ x, st' = [(0, x)] ∧ zTJ none μ' ∧ ((((0 ≤ c ∧ c < m) ∧ N (106 + c) ≠ 0) ∧ x = 1 ∧ fa_C false 3 n m (fa_up N (106 + c) 0, B) pol μ' ∧ fa_Kp n m pol (fa_kQ Q u N) (fa_ku u) μ' ∧ fa_fr fm_LA μ μ') ∨ (¬ ((0 ≤ c ∧ c < m) ∧ N (106 + c) ≠ 0) ∧ x = 0 ∧ fa_fr [178, 179] μ μ'))) := by
  have a0 : μ 3 0 = n := hC.1.1.1
  have a1 : μ 3 1 = m := hC.1.1.2.1
  have hC2 := hC
  have hKp2 := hKp
  have hF2 : fa_fr fm_LA μ μ := fa_fr_0
  have ri : (0 ≤ c ∧ c < m) → μ 13 c = N (106 + c) - 1 := fun h => fa_r_in hC.1 h.1 h.2
  refine pm_blk hK zmm31 [] 6 10 [(2, 1), (0, c), (2, 3)] [(0, c), (2, 3)] μ [] rfl trivial ?_
  refine pm_call hK zmm31 (113, 0, 23, 1) zM23 (0, 0) [(2, 3), (0, c)] [] rfl rfl rfl rfl ⟨by omega, by rw [zn23]; omega⟩ (fc_isCustomer3 hK (s := c) ⟨Nat.le_refl _, Nat.le_refl _⟩) (fun st1 μc1 hp1 => ?_)
  obtain ⟨rfl, rfl⟩ := hp1
  refine pm_if hK zmm31 .eq 13 26 rfl rfl (fun h0 => ?_) (fun h0 => ?_)
  · have h0 : (if 0 ≤ (c) ∧ (c) < μ 3 1 then 1 else 0 : Int) = (0 : Int) := h0
    have h0 := zif0 h0
    refine pm_blk hK zmm31 [] 1 27 [(2, 1), (0, c), (2, 3)] [(0, 0)] μ [] rfl trivial ?_
    exact pm_zret rfl rfl (by first | exact Or.inl rfl | exact Or.inr rfl | omega) ⟨_, rfl, hT, Or.inr ⟨fun q => by omega, rfl, fa_fr_0⟩⟩
  · have h0 : (if 0 ≤ (c) ∧ (c) < μ 3 1 then 1 else 0 : Int) ≠ (0 : Int) := h0
    have h0 := zif1 h0
    have f1 := zT_get hT zs13_0 (i := c) (by omega) (by omega)
    refine pm_blk hK zmm31 [] 5 23 [(2, 1), (0, c), (2, 3)] [(0, (-1)), (0, μ 13 c)] μ [0 ≤ c ∧ c < 18] rfl ⟨⟨by omega, by omega⟩, trivial⟩ ?_
    refine pm_icmp hK zmm31 .ne 5 28 rfl rfl (fun h1 => ?_) (fun h1 => ?_)
    · have h1 : μ 13 c ≠ ((-1) : Int) := h1
      refine pm_blk hK zmm31 [] 4 36 [(2, 1), (0, c), (2, 3)] [(2, 2), (2, 96)] μ [] rfl trivial ?_
      refine pm_call hK zmm31 (141, 0, 27, 1) zM27 (3, 67) [(2, 96), (2, 2)] [] rfl rfl rfl rfl ⟨by omega, by rw [zn27]; omega⟩ (fc_keep hK hT hC2.1 hn0 hm0 hq hI hO (hC2.2 rfl).1 hKp2 hb96 hb98 hb99 hb100 hb101 hb102 hb103 hb104 hb105 hb106 hb107 hb108 hb109 hb110 hb111 hb112 hb113 hb114 hb115 hb116 hb117 hb118 hb119 hb120 hb121 hb122 hb123 hb124 hb125 hb126 hb127 hb128 hb129 hb130 hb131 hb132 hb133 hb134 hb135 hb136 hb137 hb138 hb139 hb140 hb141 hb142 hb143 hb144 hb145 hb146 hb147 hb148 hb149 hb150 hb151 hb152 hb153 hb154 hb155 hb156 hb157 hb158 hb159 hb160 hb161 hb162 hb163 hb164 hb165 hb166 hb167 hb168 hb169 hb170 hb171 hb172 hb173 hb174 hb175 hb176 ⟨Nat.le_refl _, Nat.le_refl _⟩) (fun st2 μc2 hp2 => ?_)
      obtain ⟨rfl, hTc2, hK1, hf1⟩ := hp2
      have hC3 := fm_A_cp hC2 hf1 (by decide) (by decide) (by decide)
      have hF3 : fa_fr fm_LA μ μc2 := fa_fr_tr hF2 hf1 (by decide)
      refine pm_blk hK zmm31 [] 5 46 [(2, 1), (0, c), (2, 3)] [] (pm_up μc2 13 c ((-1))) [sx_bit Wm 13 = true, 0 ≤ c ∧ c < 18] rfl ⟨hb13, ⟨by omega, by omega⟩, trivial⟩ ?_
      obtain ⟨μ1, eμ1⟩ : ∃ μ', μ' = pm_up μc2 13 c ((-1)) := ⟨_, rfl⟩
      rw [← eμ1]
      have hTμ1 : zTJ none μ1 := by rw [eμ1]; exact zT_upn hTc2 zs13_0 rfl (i := c) (by omega) (by omega) (by omega) (by omega)
      have hC4 : fa_C false 3 n m (fa_up N (106 + c) 0, B) pol μ1 := by rw [eμ1]; exact fa_C_w hC3 (fa_w_in hC3.1 hq (by omega) (by omega) (by omega)) ⟨by decide, by decide⟩ (fa_up_ne (by omega))
      have hF4 : fa_fr fm_LA μ μ1 := fa_fr_st hF3 eμ1 (by decide)
      have hK4 : fa_Kp n m pol (fa_kQ Q u N) (fa_ku u) μ1 := fa_Kp_fr hK1 (by rw [eμ1, pm_up_row (by decide)]) (by rw [eμ1, pm_up_row (by decide)]) (fun r h1 h2 => by rw [eμ1, pm_up_row (by omega)])
      refine pm_blk hK zmm31 [] 1 47 [(2, 1), (0, c), (2, 3)] [(0, 1)] μ1 [] rfl trivial ?_
      exact pm_zret rfl rfl (by first | exact Or.inl rfl | exact Or.inr rfl | omega) ⟨_, rfl, hTμ1, Or.inl ⟨⟨⟨by omega, by omega⟩, by omega⟩, rfl, hC4, hK4, hF4⟩⟩
    · have h1 : μ 13 c = ((-1) : Int) := h1
      refine pm_blk hK zmm31 [] 1 27 [(2, 1), (0, c), (2, 3)] [(0, 0)] μ [] rfl trivial ?_
      exact pm_zret rfl rfl (by first | exact Or.inl rfl | exact Or.inr rfl | omega) ⟨_, rfl, hT, Or.inr ⟨fun q => by omega, rfl, fa_fr_0⟩⟩
set_option maxRecDepth 100000 in
theorem fm_stock (hK : zKK ST) {c v : Int} (hT : zTJ none μ) {N B pol : Int → Int} {n m : Int} (hC : fa_C false 3 n m (N, B) pol μ) (hn0 : 0 ≤ n) (hm0 : 0 ≤ m) (hq : n ≤ 12 ∧ m ≤ 18) (hI : fa_I n m N) (hO : fa_O m N) {Q : Int → Int} {u : Int} (hKp : fa_Kp n m pol Q u μ) (hb2 : sx_bit Wm 2 = true) (hb3 : sx_bit Wm 3 = true) (hb4 : sx_bit Wm 4 = true) (hb5 : sx_bit Wm 5 = true) (hb6 : sx_bit Wm 6 = true) (hb7 : sx_bit Wm 7 = true) (hb8 : sx_bit Wm 8 = true) (hb9 : sx_bit Wm 9 = true) (hb10 : sx_bit Wm 10 = true) (hb11 : sx_bit Wm 11 = true) (hb12 : sx_bit Wm 12 = true) (hb13 : sx_bit Wm 13 = true) (hb14 : sx_bit Wm 14 = true) (hb15 : sx_bit Wm 15 = true) (hb16 : sx_bit Wm 16 = true) (hb96 : sx_bit Wm 96 = true) (hb98 : sx_bit Wm 98 = true) (hb99 : sx_bit Wm 99 = true) (hb100 : sx_bit Wm 100 = true) (hb101 : sx_bit Wm 101 = true) (hb102 : sx_bit Wm 102 = true) (hb103 : sx_bit Wm 103 = true) (hb104 : sx_bit Wm 104 = true) (hb105 : sx_bit Wm 105 = true) (hb106 : sx_bit Wm 106 = true) (hb107 : sx_bit Wm 107 = true) (hb108 : sx_bit Wm 108 = true) (hb109 : sx_bit Wm 109 = true) (hb110 : sx_bit Wm 110 = true) (hb111 : sx_bit Wm 111 = true) (hb112 : sx_bit Wm 112 = true) (hb113 : sx_bit Wm 113 = true) (hb114 : sx_bit Wm 114 = true) (hb115 : sx_bit Wm 115 = true) (hb116 : sx_bit Wm 116 = true) (hb117 : sx_bit Wm 117 = true) (hb118 : sx_bit Wm 118 = true) (hb119 : sx_bit Wm 119 = true) (hb120 : sx_bit Wm 120 = true) (hb121 : sx_bit Wm 121 = true) (hb122 : sx_bit Wm 122 = true) (hb123 : sx_bit Wm 123 = true) (hb124 : sx_bit Wm 124 = true) (hb125 : sx_bit Wm 125 = true) (hb126 : sx_bit Wm 126 = true) (hb127 : sx_bit Wm 127 = true) (hb128 : sx_bit Wm 128 = true) (hb129 : sx_bit Wm 129 = true) (hb130 : sx_bit Wm 130 = true) (hb131 : sx_bit Wm 131 = true) (hb132 : sx_bit Wm 132 = true) (hb133 : sx_bit Wm 133 = true) (hb134 : sx_bit Wm 134 = true) (hb135 : sx_bit Wm 135 = true) (hb136 : sx_bit Wm 136 = true) (hb137 : sx_bit Wm 137 = true) (hb138 : sx_bit Wm 138 = true) (hb139 : sx_bit Wm 139 = true) (hb140 : sx_bit Wm 140 = true) (hb141 : sx_bit Wm 141 = true) (hb142 : sx_bit Wm 142 = true) (hb143 : sx_bit Wm 143 = true) (hb144 : sx_bit Wm 144 = true) (hb145 : sx_bit Wm 145 = true) (hb146 : sx_bit Wm 146 = true) (hb147 : sx_bit Wm 147 = true) (hb148 : sx_bit Wm 148 = true) (hb149 : sx_bit Wm 149 = true) (hb150 : sx_bit Wm 150 = true) (hb151 : sx_bit Wm 151 = true) (hb152 : sx_bit Wm 152 = true) (hb153 : sx_bit Wm 153 = true) (hb154 : sx_bit Wm 154 = true) (hb155 : sx_bit Wm 155 = true) (hb156 : sx_bit Wm 156 = true) (hb157 : sx_bit Wm 157 = true) (hb158 : sx_bit Wm 158 = true) (hb159 : sx_bit Wm 159 = true) (hb160 : sx_bit Wm 160 = true) (hb161 : sx_bit Wm 161 = true) (hb162 : sx_bit Wm 162 = true) (hb163 : sx_bit Wm 163 = true) (hb164 : sx_bit Wm 164 = true) (hb165 : sx_bit Wm 165 = true) (hb166 : sx_bit Wm 166 = true) (hb167 : sx_bit Wm 167 = true) (hb168 : sx_bit Wm 168 = true) (hb169 : sx_bit Wm 169 = true) (hb170 : sx_bit Wm 170 = true) (hb171 : sx_bit Wm 171 = true) (hb172 : sx_bit Wm 172 = true) (hb173 : sx_bit Wm 173 = true) (hb174 : sx_bit Wm 174 = true) (hb175 : sx_bit Wm 175 = true) (hb176 : sx_bit Wm 176 = true) (hb178 : sx_bit Wm 178 = true) (hb179 : sx_bit Wm 179 = true) (hbd : 4 ≤ bud.1 ∧ 88 ≤ bud.2.1) : zC D Wm ST b0 l Sg zM35 bud [(2, 1), (0, c), (0, v)] μ (fun st' μ' => ∃ x, st' = [(0, x)] ∧ zTJ none μ' ∧ ((((0 ≤ c ∧ c < n) ∧ 0 ≤ v ∧ v ≤ 99) ∧ x = 1 ∧ fa_C false 3 n m (fa_up N (4 + c) v, B) pol μ' ∧ fa_Kp n m pol (fa_kQ Q u N) (fa_ku u) μ' ∧ fa_fr fm_LA μ μ') ∨ (¬ ((0 ≤ c ∧ c < n) ∧ 0 ≤ v ∧ v ≤ 99) ∧ x = 0 ∧ fa_fr [178, 179] μ μ'))) := by
  have a0 : μ 3 0 = n := hC.1.1.1
  have a1 : μ 3 1 = m := hC.1.1.2.1
  have hC2 := hC
  have hKp2 := hKp
  have hF2 : fa_fr fm_LA μ μ := fa_fr_0
  refine pm_blk hK zmm35 [] 6 10 [(2, 1), (0, c), (0, v), (2, 3)] [(0, c), (2, 3)] μ [] rfl trivial ?_
  refine pm_call hK zmm35 (105, 0, 22, 1) zM22 (0, 0) [(2, 3), (0, c)] [] rfl rfl rfl rfl ⟨by omega, by rw [zn22]; omega⟩ (fc_isShop3 hK (s := c) ⟨Nat.le_refl _, Nat.le_refl _⟩) (fun st1 μc1 hp1 => ?_)
  obtain ⟨rfl, rfl⟩ := hp1
  refine pm_if hK zmm35 .eq 13 26 rfl rfl (fun h0 => ?_) (fun h0 => ?_)
  · have h0 : (if 0 ≤ (c) ∧ (c) < μ 3 0 then 1 else 0 : Int) = (0 : Int) := h0
    have h0 := zif0 h0
    refine pm_blk hK zmm35 [] 1 27 [(2, 1), (0, c), (0, v), (2, 3)] [(0, 0)] μ [] rfl trivial ?_
    exact pm_zret rfl rfl (by first | exact Or.inl rfl | exact Or.inr rfl | omega) ⟨_, rfl, hT, Or.inr ⟨fun q => by omega, rfl, fa_fr_0⟩⟩
  · have h0 : (if 0 ≤ (c) ∧ (c) < μ 3 0 then 1 else 0 : Int) ≠ (0 : Int) := h0
    have h0 := zif1 h0
    refine pm_blk hK zmm35 [] 3 20 [(2, 1), (0, c), (0, v), (2, 3)] [(0, 99), (0, 0), (0, v)] μ [] rfl trivial ?_
    refine pm_call hK zmm35 (94, 1, 16, 3) zM16 (0, 0) [(0, v), (0, 0), (0, 99)] [] rfl rfl rfl rfl ⟨by omega, by rw [zn16]; omega⟩ (zh_within hK ⟨Nat.le_refl _, Nat.le_refl _⟩) (fun st2 μc2 hp2 => ?_)
    obtain ⟨rfl, rfl⟩ := hp2
    refine pm_if hK zmm35 .ne 5 28 rfl rfl (fun h1 => ?_) (fun h1 => ?_)
    · have h1 : (if 0 ≤ v ∧ v ≤ 99 then 1 else 0 : Int) ≠ (0 : Int) := h1
      have h1 := zif1 h1
      refine pm_blk hK zmm35 [] 4 36 [(2, 1), (0, c), (0, v), (2, 3)] [(2, 2), (2, 96)] μ [] rfl trivial ?_
      refine pm_call hK zmm35 (141, 0, 27, 1) zM27 (3, 67) [(2, 96), (2, 2)] [] rfl rfl rfl rfl ⟨by omega, by rw [zn27]; omega⟩ (fc_keep hK hT hC2.1 hn0 hm0 hq hI hO (hC2.2 rfl).1 hKp2 hb96 hb98 hb99 hb100 hb101 hb102 hb103 hb104 hb105 hb106 hb107 hb108 hb109 hb110 hb111 hb112 hb113 hb114 hb115 hb116 hb117 hb118 hb119 hb120 hb121 hb122 hb123 hb124 hb125 hb126 hb127 hb128 hb129 hb130 hb131 hb132 hb133 hb134 hb135 hb136 hb137 hb138 hb139 hb140 hb141 hb142 hb143 hb144 hb145 hb146 hb147 hb148 hb149 hb150 hb151 hb152 hb153 hb154 hb155 hb156 hb157 hb158 hb159 hb160 hb161 hb162 hb163 hb164 hb165 hb166 hb167 hb168 hb169 hb170 hb171 hb172 hb173 hb174 hb175 hb176 ⟨Nat.le_refl _, Nat.le_refl _⟩) (fun st3 μc3 hp3 => ?_)
      obtain ⟨rfl, hTc3, hK1, hf1⟩ := hp3
      have hC3 := fm_A_cp hC2 hf1 (by decide) (by decide) (by decide)
      have hF3 : fa_fr fm_LA μ μc3 := fa_fr_tr hF2 hf1 (by decide)
      refine pm_blk hK zmm35 [] 5 46 [(2, 1), (0, c), (0, v), (2, 3)] [] (pm_up μc3 4 c v) [sx_bit Wm 4 = true, 0 ≤ c ∧ c < 12] rfl ⟨hb4, ⟨by omega, by omega⟩, trivial⟩ ?_
      obtain ⟨μ1, eμ1⟩ : ∃ μ', μ' = pm_up μc3 4 c v := ⟨_, rfl⟩
      rw [← eμ1]
      have hTμ1 : zTJ none μ1 := by rw [eμ1]; exact zT_upn hTc3 zs4_0 rfl (i := c) (by omega) (by omega) (by omega) (by omega)
      have hC4 : fa_C false 3 n m (fa_up N (4 + c) v, B) pol μ1 := by rw [eμ1]; exact fa_C_w hC3 (fa_w_goods hC3.1 hq (by omega) (by omega) rfl) ⟨by decide, by decide⟩ (fa_up_ne (by omega))
      have hF4 : fa_fr fm_LA μ μ1 := fa_fr_st hF3 eμ1 (by decide)
      have hK4 : fa_Kp n m pol (fa_kQ Q u N) (fa_ku u) μ1 := fa_Kp_fr hK1 (by rw [eμ1, pm_up_row (by decide)]) (by rw [eμ1, pm_up_row (by decide)]) (fun r h1 h2 => by rw [eμ1, pm_up_row (by omega)])
      refine pm_blk hK zmm35 [] 1 47 [(2, 1), (0, c), (0, v), (2, 3)] [(0, 1)] μ1 [] rfl trivial ?_
      exact pm_zret rfl rfl (by first | exact Or.inl rfl | exact Or.inr rfl | omega) ⟨_, rfl, hTμ1, Or.inl ⟨⟨⟨by omega, by omega⟩, by omega, by omega⟩, rfl, hC4, hK4, hF4⟩⟩
    · have h1 : (if 0 ≤ v ∧ v ≤ 99 then 1 else 0 : Int) = (0 : Int) := h1
      have h1 := zif0 h1
      refine pm_blk hK zmm35 [] 1 27 [(2, 1), (0, c), (0, v), (2, 3)] [(0, 0)] μ [] rfl trivial ?_
      exact pm_zret rfl rfl (by first | exact Or.inl rfl | exact Or.inr rfl | omega) ⟨_, rfl, hT, Or.inr ⟨fun q => by omega, rfl, fa_fr_0⟩⟩
set_option maxRecDepth 100000 in
theorem fm_buy (hK : zKK ST) {c : Int} (hT : zTJ none μ) {N B pol : Int → Int} {n m : Int} (hC : fa_C false 3 n m (N, B) pol μ) (hn0 : 0 ≤ n) (hm0 : 0 ≤ m) (hq : n ≤ 12 ∧ m ≤ 18) (hI : fa_I n m N) (hO : fa_O m N) {Q : Int → Int} {u : Int} (hKp : fa_Kp n m pol Q u μ) {ls : List (Int × List zIw × List zIw)} (hL : fc_L (μ 17 2) (μ 18) (μ 19) 0 ls) (hl16 : μ 17 2 ≤ 16) (hb2 : sx_bit Wm 2 = true) (hb3 : sx_bit Wm 3 = true) (hb4 : sx_bit Wm 4 = true) (hb5 : sx_bit Wm 5 = true) (hb6 : sx_bit Wm 6 = true) (hb7 : sx_bit Wm 7 = true) (hb8 : sx_bit Wm 8 = true) (hb9 : sx_bit Wm 9 = true) (hb10 : sx_bit Wm 10 = true) (hb11 : sx_bit Wm 11 = true) (hb12 : sx_bit Wm 12 = true) (hb13 : sx_bit Wm 13 = true) (hb14 : sx_bit Wm 14 = true) (hb15 : sx_bit Wm 15 = true) (hb16 : sx_bit Wm 16 = true) (hb96 : sx_bit Wm 96 = true) (hb98 : sx_bit Wm 98 = true) (hb99 : sx_bit Wm 99 = true) (hb100 : sx_bit Wm 100 = true) (hb101 : sx_bit Wm 101 = true) (hb102 : sx_bit Wm 102 = true) (hb103 : sx_bit Wm 103 = true) (hb104 : sx_bit Wm 104 = true) (hb105 : sx_bit Wm 105 = true) (hb106 : sx_bit Wm 106 = true) (hb107 : sx_bit Wm 107 = true) (hb108 : sx_bit Wm 108 = true) (hb109 : sx_bit Wm 109 = true) (hb110 : sx_bit Wm 110 = true) (hb111 : sx_bit Wm 111 = true) (hb112 : sx_bit Wm 112 = true) (hb113 : sx_bit Wm 113 = true) (hb114 : sx_bit Wm 114 = true) (hb115 : sx_bit Wm 115 = true) (hb116 : sx_bit Wm 116 = true) (hb117 : sx_bit Wm 117 = true) (hb118 : sx_bit Wm 118 = true) (hb119 : sx_bit Wm 119 = true) (hb120 : sx_bit Wm 120 = true) (hb121 : sx_bit Wm 121 = true) (hb122 : sx_bit Wm 122 = true) (hb123 : sx_bit Wm 123 = true) (hb124 : sx_bit Wm 124 = true) (hb125 : sx_bit Wm 125 = true) (hb126 : sx_bit Wm 126 = true) (hb127 : sx_bit Wm 127 = true) (hb128 : sx_bit Wm 128 = true) (hb129 : sx_bit Wm 129 = true) (hb130 : sx_bit Wm 130 = true) (hb131 : sx_bit Wm 131 = true) (hb132 : sx_bit Wm 132 = true) (hb133 : sx_bit Wm 133 = true) (hb134 : sx_bit Wm 134 = true) (hb135 : sx_bit Wm 135 = true) (hb136 : sx_bit Wm 136 = true) (hb137 : sx_bit Wm 137 = true) (hb138 : sx_bit Wm 138 = true) (hb139 : sx_bit Wm 139 = true) (hb140 : sx_bit Wm 140 = true) (hb141 : sx_bit Wm 141 = true) (hb142 : sx_bit Wm 142 = true) (hb143 : sx_bit Wm 143 = true) (hb144 : sx_bit Wm 144 = true) (hb145 : sx_bit Wm 145 = true) (hb146 : sx_bit Wm 146 = true) (hb147 : sx_bit Wm 147 = true) (hb148 : sx_bit Wm 148 = true) (hb149 : sx_bit Wm 149 = true) (hb150 : sx_bit Wm 150 = true) (hb151 : sx_bit Wm 151 = true) (hb152 : sx_bit Wm 152 = true) (hb153 : sx_bit Wm 153 = true) (hb154 : sx_bit Wm 154 = true) (hb155 : sx_bit Wm 155 = true) (hb156 : sx_bit Wm 156 = true) (hb157 : sx_bit Wm 157 = true) (hb158 : sx_bit Wm 158 = true) (hb159 : sx_bit Wm 159 = true) (hb160 : sx_bit Wm 160 = true) (hb161 : sx_bit Wm 161 = true) (hb162 : sx_bit Wm 162 = true) (hb163 : sx_bit Wm 163 = true) (hb164 : sx_bit Wm 164 = true) (hb165 : sx_bit Wm 165 = true) (hb166 : sx_bit Wm 166 = true) (hb167 : sx_bit Wm 167 = true) (hb168 : sx_bit Wm 168 = true) (hb169 : sx_bit Wm 169 = true) (hb170 : sx_bit Wm 170 = true) (hb171 : sx_bit Wm 171 = true) (hb172 : sx_bit Wm 172 = true) (hb173 : sx_bit Wm 173 = true) (hb174 : sx_bit Wm 174 = true) (hb175 : sx_bit Wm 175 = true) (hb176 : sx_bit Wm 176 = true) (hb178 : sx_bit Wm 178 = true) (hb179 : sx_bit Wm 179 = true) (hbd : 5 ≤ bud.1 ∧ 120 ≤ bud.2.1) : zC D Wm ST b0 l Sg zM32 bud [(2, 1), (0, c)] μ (fun st' μ' => ∃ x, st' = [(0, x)] ∧ zTJ none μ' ∧ (((fa_pay (fr_law ls) pol m c N ≠ -1) ∧ x = 1 ∧ fa_C false 3 n m (fa_bought false c (N (106 + c) - 1) (fa_costs (fr_law ls) N pol m c (N (106 + c) - 1)) (N, B)) pol μ' ∧ fa_Kp n m pol (fa_kQ Q u N) (fa_ku u) μ' ∧ fa_fr fm_LA μ μ') ∨ (¬ (fa_pay (fr_law ls) pol m c N ≠ -1) ∧ x = 0 ∧ fa_fr [178, 179] μ μ'))) := by
  refine pm_blk hK zmm32 [] 6 12 [(2, 1), (0, c), (9, 0)] [(0, c), (2, 3), (2, 180)] μ [] rfl trivial ?_
  refine pm_call hK zmm32 (145, 0, 33, 2) zM33 (4, 96) [(2, 180), (2, 3), (0, c)] [] rfl rfl rfl rfl ⟨by omega, by rw [zn33]; omega⟩ (fc_pay3 hK (c := c) hT hC.1 hn0 hm0 hq hI hL hl16 hb178 hb179 ⟨Nat.le_refl _, Nat.le_refl _⟩) (fun st1 μc1 hp1 => ?_)
  obtain ⟨rfl, hTc1, hfp1⟩ := hp1
  have hC2 := fa_C_78 hC hfp1 (by decide)
  have hFp : fa_fr [178, 179] μ μc1 := fa_fr_78 hfp1 rfl rfl
  have hF2 : fa_fr fm_LA μ μc1 := fa_fr_tr fa_fr_0 hFp (by decide)
  have hKp2 := fa_Kp_frL hKp hFp (by decide)
  refine pm_blk hK zmm32 [] 3 18 [(2, 1), (0, c), (0, fa_pay (fr_law ls) pol m c N)] [(0, (-1)), (0, fa_pay (fr_law ls) pol m c N)] μc1 [] rfl trivial ?_
  refine pm_icmp hK zmm32 .ne 5 23 rfl rfl (fun h0 => ?_) (fun h0 => ?_)
  · have h0 : fa_pay (fr_law ls) pol m c N ≠ ((-1) : Int) := h0
    refine pm_blk hK zmm32 [] 4 31 [(2, 1), (0, c), (0, fa_pay (fr_law ls) pol m c N)] [(2, 2), (2, 96)] μc1 [] rfl trivial ?_
    obtain ⟨⟨⟨q1, q1b⟩, q2, q3, q4, q5⟩, qe⟩ := fa_pay_e (t := fr_law ls) (pol := pol) (m := m) (c := c) (N := N) (by omega)
    have hbi := (fa_I_c hI (c := c) q1 q1b).2
    have hgb := (fa_I_s hI (s := N (106 + c) - 1) (by omega) (by omega)).1
    have hcb := fa_costs_b (t := fr_law ls) (N := N) (pol := pol) (m := m) (c := c) (s := N (106 + c) - 1)
    refine pm_call hK zmm32 (141, 0, 27, 1) zM27 (3, 67) [(2, 96), (2, 2)] [] rfl rfl rfl rfl ⟨by omega, by rw [zn27]; omega⟩ (fc_keep hK hTc1 hC2.1 hn0 hm0 hq hI hO (hC2.2 rfl).1 hKp2 hb96 hb98 hb99 hb100 hb101 hb102 hb103 hb104 hb105 hb106 hb107 hb108 hb109 hb110 hb111 hb112 hb113 hb114 hb115 hb116 hb117 hb118 hb119 hb120 hb121 hb122 hb123 hb124 hb125 hb126 hb127 hb128 hb129 hb130 hb131 hb132 hb133 hb134 hb135 hb136 hb137 hb138 hb139 hb140 hb141 hb142 hb143 hb144 hb145 hb146 hb147 hb148 hb149 hb150 hb151 hb152 hb153 hb154 hb155 hb156 hb157 hb158 hb159 hb160 hb161 hb162 hb163 hb164 hb165 hb166 hb167 hb168 hb169 hb170 hb171 hb172 hb173 hb174 hb175 hb176 ⟨Nat.le_refl _, Nat.le_refl _⟩) (fun st2 μc2 hp2 => ?_)
    obtain ⟨rfl, hTc2, hK1, hf1⟩ := hp2
    have hC3 := fm_A_cp hC2 hf1 (by decide) (by decide) (by decide)
    have hF3 : fa_fr fm_LA μ μc2 := fa_fr_tr hF2 hf1 (by decide)
    refine pm_blk hK zmm32 [] 7 47 [(2, 1), (0, c), (0, fa_pay (fr_law ls) pol m c N)] [(0, fa_pay (fr_law ls) pol m c N), (0, c), (2, 3), (2, 180)] μc2 [] rfl trivial ?_
    refine pm_call hK zmm32 (149, 0, 224, 3) zM224 (3, 69) [(2, 180), (2, 3), (0, c), (0, fa_pay (fr_law ls) pol m c N)] [] rfl rfl rfl rfl ⟨by omega, by rw [zn224]; omega⟩ (fc_sell3 hK (c := c) (v := (fa_pay (fr_law ls) pol m c N)) (s := N (106 + c) - 1) hTc2 hC3 hn0 hm0 hq hI ⟨by omega, by omega⟩ ⟨by omega, by omega⟩ rfl (by omega) ⟨by omega, by omega⟩ hb2 hb3 hb4 hb5 hb6 hb7 hb8 hb9 hb10 hb11 hb12 hb13 hb14 hb15 hb16 hb178 hb179 ⟨Nat.le_refl _, Nat.le_refl _⟩) (fun st3 μc3 hp3 => ?_)
    obtain ⟨rfl, hTc3, hCs3, hFs3⟩ := hp3
    have hC4 := hCs3
    rw [qe] at hC4
    have hF4 : fa_fr fm_LA μ μc3 := fa_fr_tr hF3 hFs3 (by decide)
    have hK4 := fa_Kp_frL hK1 hFs3 (by decide)
    refine pm_blk hK zmm32 [] 1 51 [(2, 1), (0, c), (0, fa_pay (fr_law ls) pol m c N)] [(0, 1)] μc3 [] rfl trivial ?_
    exact pm_zret rfl rfl (by first | exact Or.inl rfl | exact Or.inr rfl | omega) ⟨_, rfl, hTc3, Or.inl ⟨by omega, rfl, hC4, hK4, hF4⟩⟩
  · have h0 : fa_pay (fr_law ls) pol m c N = ((-1) : Int) := h0
    refine pm_blk hK zmm32 [] 1 22 [(2, 1), (0, c), (0, fa_pay (fr_law ls) pol m c N)] [(0, 0)] μc1 [] rfl trivial ?_
    exact pm_zret rfl rfl (by first | exact Or.inl rfl | exact Or.inr rfl | omega) ⟨_, rfl, hTc1, Or.inr ⟨fun q => q (by omega), rfl, hFp⟩⟩
set_option maxRecDepth 100000 in
theorem fm_act (hK : zKK ST) {w c v : Int} (hT : zTJ none μ) {N B pol : Int → Int} {n m : Int} (hC : fa_C false 3 n m (N, B) pol μ) (hn0 : 0 ≤ n) (hm0 : 0 ≤ m) (hq : n ≤ 12 ∧ m ≤ 18) (hI : fa_I n m N) (hO : fa_O m N) {Q : Int → Int} {u : Int} (hKp : fa_Kp n m pol Q u μ) {ls : List (Int × List zIw × List zIw)} (hL : fc_L (μ 17 2) (μ 18) (μ 19) 0 ls) (hl16 : μ 17 2 ≤ 16) (hb2 : sx_bit Wm 2 = true) (hb3 : sx_bit Wm 3 = true) (hb4 : sx_bit Wm 4 = true) (hb5 : sx_bit Wm 5 = true) (hb6 : sx_bit Wm 6 = true) (hb7 : sx_bit Wm 7 = true) (hb8 : sx_bit Wm 8 = true) (hb9 : sx_bit Wm 9 = true) (hb10 : sx_bit Wm 10 = true) (hb11 : sx_bit Wm 11 = true) (hb12 : sx_bit Wm 12 = true) (hb13 : sx_bit Wm 13 = true) (hb14 : sx_bit Wm 14 = true) (hb15 : sx_bit Wm 15 = true) (hb16 : sx_bit Wm 16 = true) (hb96 : sx_bit Wm 96 = true) (hb98 : sx_bit Wm 98 = true) (hb99 : sx_bit Wm 99 = true) (hb100 : sx_bit Wm 100 = true) (hb101 : sx_bit Wm 101 = true) (hb102 : sx_bit Wm 102 = true) (hb103 : sx_bit Wm 103 = true) (hb104 : sx_bit Wm 104 = true) (hb105 : sx_bit Wm 105 = true) (hb106 : sx_bit Wm 106 = true) (hb107 : sx_bit Wm 107 = true) (hb108 : sx_bit Wm 108 = true) (hb109 : sx_bit Wm 109 = true) (hb110 : sx_bit Wm 110 = true) (hb111 : sx_bit Wm 111 = true) (hb112 : sx_bit Wm 112 = true) (hb113 : sx_bit Wm 113 = true) (hb114 : sx_bit Wm 114 = true) (hb115 : sx_bit Wm 115 = true) (hb116 : sx_bit Wm 116 = true) (hb117 : sx_bit Wm 117 = true) (hb118 : sx_bit Wm 118 = true) (hb119 : sx_bit Wm 119 = true) (hb120 : sx_bit Wm 120 = true) (hb121 : sx_bit Wm 121 = true) (hb122 : sx_bit Wm 122 = true) (hb123 : sx_bit Wm 123 = true) (hb124 : sx_bit Wm 124 = true) (hb125 : sx_bit Wm 125 = true) (hb126 : sx_bit Wm 126 = true) (hb127 : sx_bit Wm 127 = true) (hb128 : sx_bit Wm 128 = true) (hb129 : sx_bit Wm 129 = true) (hb130 : sx_bit Wm 130 = true) (hb131 : sx_bit Wm 131 = true) (hb132 : sx_bit Wm 132 = true) (hb133 : sx_bit Wm 133 = true) (hb134 : sx_bit Wm 134 = true) (hb135 : sx_bit Wm 135 = true) (hb136 : sx_bit Wm 136 = true) (hb137 : sx_bit Wm 137 = true) (hb138 : sx_bit Wm 138 = true) (hb139 : sx_bit Wm 139 = true) (hb140 : sx_bit Wm 140 = true) (hb141 : sx_bit Wm 141 = true) (hb142 : sx_bit Wm 142 = true) (hb143 : sx_bit Wm 143 = true) (hb144 : sx_bit Wm 144 = true) (hb145 : sx_bit Wm 145 = true) (hb146 : sx_bit Wm 146 = true) (hb147 : sx_bit Wm 147 = true) (hb148 : sx_bit Wm 148 = true) (hb149 : sx_bit Wm 149 = true) (hb150 : sx_bit Wm 150 = true) (hb151 : sx_bit Wm 151 = true) (hb152 : sx_bit Wm 152 = true) (hb153 : sx_bit Wm 153 = true) (hb154 : sx_bit Wm 154 = true) (hb155 : sx_bit Wm 155 = true) (hb156 : sx_bit Wm 156 = true) (hb157 : sx_bit Wm 157 = true) (hb158 : sx_bit Wm 158 = true) (hb159 : sx_bit Wm 159 = true) (hb160 : sx_bit Wm 160 = true) (hb161 : sx_bit Wm 161 = true) (hb162 : sx_bit Wm 162 = true) (hb163 : sx_bit Wm 163 = true) (hb164 : sx_bit Wm 164 = true) (hb165 : sx_bit Wm 165 = true) (hb166 : sx_bit Wm 166 = true) (hb167 : sx_bit Wm 167 = true) (hb168 : sx_bit Wm 168 = true) (hb169 : sx_bit Wm 169 = true) (hb170 : sx_bit Wm 170 = true) (hb171 : sx_bit Wm 171 = true) (hb172 : sx_bit Wm 172 = true) (hb173 : sx_bit Wm 173 = true) (hb174 : sx_bit Wm 174 = true) (hb175 : sx_bit Wm 175 = true) (hb176 : sx_bit Wm 176 = true) (hb178 : sx_bit Wm 178 = true) (hb179 : sx_bit Wm 179 = true) (hbd : 6 ≤ bud.1 ∧ 142 ≤ bud.2.1) : zC D Wm ST b0 l Sg zM24 bud [(2, 1), (0, w), (0, c), (0, v)] μ (fun st' μ' => ∃ x, st' = [(0, x)] ∧ zTJ none μ' ∧ (((fa_mayP (fr_law ls) pol n m N w c v) ∧ x = 1 ∧ fa_C false 3 n m (fa_acts (fr_law ls) pol m w c v (N, B)) pol μ' ∧ fa_Kp n m pol (fa_kQ Q u N) (fa_ku u) μ' ∧ fa_fr fm_LA μ μ') ∨ (¬ (fa_mayP (fr_law ls) pol n m N w c v) ∧ x = 0 ∧ fa_fr [178, 179] μ μ'))) := by
  refine pm_blk hK zmm24 [] 1 1 [(2, 1), (0, w), (0, c), (0, v)] [(0, w)] μ [] rfl trivial ?_
  have ht0 : (w < 0 ∨ 3 < w) ∨ w = 0 ∨ w = 1 ∨ w = 2 ∨ w = 3 := by omega
  rcases ht0 with ht0 | ht0 | ht0 | ht0 | ht0
  · refine zp_tout hK zmm24 rfl ht0 (tgt := 58) (by decide) ?_
    refine pm_blk hK zmm24 [] 1 59 [(2, 1), (0, w), (0, c), (0, v)] [(0, 0)] μ [] rfl trivial ?_
    exact pm_zret rfl rfl (by first | exact Or.inl rfl | exact Or.inr rfl | omega) ⟨_, rfl, hT, Or.inr ⟨by unfold fa_mayP; omega, rfl, fa_fr_0⟩⟩
  · refine zp_tin hK zmm24 (off := 31) (tgt := 32) rfl (by omega) (by omega) (by rw [ht0]; rfl) (by decide) ?_
    refine pm_blk hK zmm24 [] 3 35 [(2, 1), (0, w), (0, c), (0, v)] [(0, v), (0, c), (2, 1)] μ [] rfl trivial ?_
    refine pm_call hK zmm24 (122, 0, 25, 2) zM25 (4, 88) [(2, 1), (0, c), (0, v)] [] rfl rfl rfl rfl ⟨by omega, by rw [zn25]; omega⟩ (fm_goIn hK (c := c) (v := v) hT hC hn0 hm0 hq hI hO hKp hb2 hb3 hb4 hb5 hb6 hb7 hb8 hb9 hb10 hb11 hb12 hb13 hb14 hb15 hb16 hb96 hb98 hb99 hb100 hb101 hb102 hb103 hb104 hb105 hb106 hb107 hb108 hb109 hb110 hb111 hb112 hb113 hb114 hb115 hb116 hb117 hb118 hb119 hb120 hb121 hb122 hb123 hb124 hb125 hb126 hb127 hb128 hb129 hb130 hb131 hb132 hb133 hb134 hb135 hb136 hb137 hb138 hb139 hb140 hb141 hb142 hb143 hb144 hb145 hb146 hb147 hb148 hb149 hb150 hb151 hb152 hb153 hb154 hb155 hb156 hb157 hb158 hb159 hb160 hb161 hb162 hb163 hb164 hb165 hb166 hb167 hb168 hb169 hb170 hb171 hb172 hb173 hb174 hb175 hb176 hb178 hb179 ⟨Nat.le_refl _, Nat.le_refl _⟩) (fun st1 μc1 hp1 => ?_)
    obtain ⟨x1, rfl, hTc1, hS⟩ := hp1
    have hw : w = 0 := by omega
    subst hw
    rcases hS with ⟨h1, h2, h3, h4, h5⟩ | ⟨h1, h2, h3⟩
    · exact pm_zret rfl rfl (by first | exact Or.inl rfl | exact Or.inr rfl | omega) ⟨_, rfl, hTc1, Or.inl ⟨by unfold fa_mayP; omega, h2, by rw [fa_acts_0]; exact h3, h4, h5⟩⟩
    · exact pm_zret rfl rfl (by first | exact Or.inl rfl | exact Or.inr rfl | omega) ⟨_, rfl, hTc1, Or.inr ⟨by unfold fa_mayP; omega, h2, h3⟩⟩
  · refine zp_tin hK zmm24 (off := 38) (tgt := 39) rfl (by omega) (by omega) (by rw [ht0]; rfl) (by decide) ?_
    refine pm_blk hK zmm24 [] 2 41 [(2, 1), (0, w), (0, c), (0, v)] [(0, c), (2, 1)] μ [] rfl trivial ?_
    refine pm_call hK zmm24 (126, 0, 31, 1) zM31 (4, 88) [(2, 1), (0, c)] [] rfl rfl rfl rfl ⟨by omega, by rw [zn31]; omega⟩ (fm_goOut hK (c := c) hT hC hn0 hm0 hq hI hO hKp hb2 hb3 hb4 hb5 hb6 hb7 hb8 hb9 hb10 hb11 hb12 hb13 hb14 hb15 hb16 hb96 hb98 hb99 hb100 hb101 hb102 hb103 hb104 hb105 hb106 hb107 hb108 hb109 hb110 hb111 hb112 hb113 hb114 hb115 hb116 hb117 hb118 hb119 hb120 hb121 hb122 hb123 hb124 hb125 hb126 hb127 hb128 hb129 hb130 hb131 hb132 hb133 hb134 hb135 hb136 hb137 hb138 hb139 hb140 hb141 hb142 hb143 hb144 hb145 hb146 hb147 hb148 hb149 hb150 hb151 hb152 hb153 hb154 hb155 hb156 hb157 hb158 hb159 hb160 hb161 hb162 hb163 hb164 hb165 hb166 hb167 hb168 hb169 hb170 hb171 hb172 hb173 hb174 hb175 hb176 hb178 hb179 ⟨Nat.le_refl _, Nat.le_refl _⟩) (fun st2 μc2 hp2 => ?_)
    obtain ⟨x2, rfl, hTc2, hS⟩ := hp2
    have hw : w = 1 := by omega
    subst hw
    rcases hS with ⟨h1, h2, h3, h4, h5⟩ | ⟨h1, h2, h3⟩
    · exact pm_zret rfl rfl (by first | exact Or.inl rfl | exact Or.inr rfl | omega) ⟨_, rfl, hTc2, Or.inl ⟨by unfold fa_mayP; omega, h2, by rw [fa_acts_1]; exact h3, h4, h5⟩⟩
    · exact pm_zret rfl rfl (by first | exact Or.inl rfl | exact Or.inr rfl | omega) ⟨_, rfl, hTc2, Or.inr ⟨by unfold fa_mayP; omega, h2, h3⟩⟩
  · refine zp_tin hK zmm24 (off := 44) (tgt := 45) rfl (by omega) (by omega) (by rw [ht0]; rfl) (by decide) ?_
    refine pm_blk hK zmm24 [] 2 47 [(2, 1), (0, w), (0, c), (0, v)] [(0, c), (2, 1)] μ [] rfl trivial ?_
    refine pm_call hK zmm24 (129, 0, 32, 1) zM32 (5, 120) [(2, 1), (0, c)] [] rfl rfl rfl rfl ⟨by omega, by rw [zn32]; omega⟩ (fm_buy hK (c := c) hT hC hn0 hm0 hq hI hO hKp hL hl16 hb2 hb3 hb4 hb5 hb6 hb7 hb8 hb9 hb10 hb11 hb12 hb13 hb14 hb15 hb16 hb96 hb98 hb99 hb100 hb101 hb102 hb103 hb104 hb105 hb106 hb107 hb108 hb109 hb110 hb111 hb112 hb113 hb114 hb115 hb116 hb117 hb118 hb119 hb120 hb121 hb122 hb123 hb124 hb125 hb126 hb127 hb128 hb129 hb130 hb131 hb132 hb133 hb134 hb135 hb136 hb137 hb138 hb139 hb140 hb141 hb142 hb143 hb144 hb145 hb146 hb147 hb148 hb149 hb150 hb151 hb152 hb153 hb154 hb155 hb156 hb157 hb158 hb159 hb160 hb161 hb162 hb163 hb164 hb165 hb166 hb167 hb168 hb169 hb170 hb171 hb172 hb173 hb174 hb175 hb176 hb178 hb179 ⟨Nat.le_refl _, Nat.le_refl _⟩) (fun st3 μc3 hp3 => ?_)
    obtain ⟨x3, rfl, hTc3, hS⟩ := hp3
    have hw : w = 2 := by omega
    subst hw
    rcases hS with ⟨h1, h2, h3, h4, h5⟩ | ⟨h1, h2, h3⟩
    · exact pm_zret rfl rfl (by first | exact Or.inl rfl | exact Or.inr rfl | omega) ⟨_, rfl, hTc3, Or.inl ⟨by unfold fa_mayP; omega, h2, by rw [fa_acts_2]; exact h3, h4, h5⟩⟩
    · exact pm_zret rfl rfl (by first | exact Or.inl rfl | exact Or.inr rfl | omega) ⟨_, rfl, hTc3, Or.inr ⟨by unfold fa_mayP; omega, h2, h3⟩⟩
  · refine zp_tin hK zmm24 (off := 50) (tgt := 51) rfl (by omega) (by omega) (by rw [ht0]; rfl) (by decide) ?_
    refine pm_blk hK zmm24 [] 3 54 [(2, 1), (0, w), (0, c), (0, v)] [(0, v), (0, c), (2, 1)] μ [] rfl trivial ?_
    refine pm_call hK zmm24 (132, 0, 35, 2) zM35 (4, 88) [(2, 1), (0, c), (0, v)] [] rfl rfl rfl rfl ⟨by omega, by rw [zn35]; omega⟩ (fm_stock hK (c := c) (v := v) hT hC hn0 hm0 hq hI hO hKp hb2 hb3 hb4 hb5 hb6 hb7 hb8 hb9 hb10 hb11 hb12 hb13 hb14 hb15 hb16 hb96 hb98 hb99 hb100 hb101 hb102 hb103 hb104 hb105 hb106 hb107 hb108 hb109 hb110 hb111 hb112 hb113 hb114 hb115 hb116 hb117 hb118 hb119 hb120 hb121 hb122 hb123 hb124 hb125 hb126 hb127 hb128 hb129 hb130 hb131 hb132 hb133 hb134 hb135 hb136 hb137 hb138 hb139 hb140 hb141 hb142 hb143 hb144 hb145 hb146 hb147 hb148 hb149 hb150 hb151 hb152 hb153 hb154 hb155 hb156 hb157 hb158 hb159 hb160 hb161 hb162 hb163 hb164 hb165 hb166 hb167 hb168 hb169 hb170 hb171 hb172 hb173 hb174 hb175 hb176 hb178 hb179 ⟨Nat.le_refl _, Nat.le_refl _⟩) (fun st4 μc4 hp4 => ?_)
    obtain ⟨x4, rfl, hTc4, hS⟩ := hp4
    have hw : w = 3 := by omega
    subst hw
    rcases hS with ⟨h1, h2, h3, h4, h5⟩ | ⟨h1, h2, h3⟩
    · exact pm_zret rfl rfl (by first | exact Or.inl rfl | exact Or.inr rfl | omega) ⟨_, rfl, hTc4, Or.inl ⟨by unfold fa_mayP; omega, h2, by rw [fa_acts_3]; exact h3, h4, h5⟩⟩
    · exact pm_zret rfl rfl (by first | exact Or.inl rfl | exact Or.inr rfl | omega) ⟨_, rfl, hTc4, Or.inr ⟨by unfold fa_mayP; omega, h2, h3⟩⟩
end ZHW
