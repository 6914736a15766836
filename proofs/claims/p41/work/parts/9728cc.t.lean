/-! F: the class: HOURS; walks printed by program (wip/p30/pmgen.py) and filled by hand -/
section ZHW
variable {D : va_G} {Wm : Nat} {ST : List (String × String × String × Nat)} {b0 : sx_B} {l : Launch} {Sg : Nat → Option Nat} {bud : sx_Bu} {μ : pm_Mem} {B0 : Nat → Prop} {J : (Nat → Option Nat) → Heap → Prop}
set_option maxRecDepth 100000 in
theorem fm_hol (hK : zKK ST)  {μ0 : pm_Mem} {k_ : Int} (hk60 : k_ ≤ 60) {N B pol Q : Int → Int} {n m u : Int} (hn0 : 0 ≤ n) (hm0 : 0 ≤ m) (hq : n ≤ 12 ∧ m ≤ 18) (hI : fa_I n m N) (hO : fa_O m N) {ls : List (Int × List zIw × List zIw)} {rn dn : Int} {RR DD : Int → Int} (hX : fa_X ls n m rn dn RR DD μ0) (hb2 : sx_bit Wm 2 = true) (hb3 : sx_bit Wm 3 = true) (hb4 : sx_bit Wm 4 = true) (hb5 : sx_bit Wm 5 = true) (hb6 : sx_bit Wm 6 = true) (hb7 : sx_bit Wm 7 = true) (hb8 : sx_bit Wm 8 = true) (hb9 : sx_bit Wm 9 = true) (hb10 : sx_bit Wm 10 = true) (hb11 : sx_bit Wm 11 = true) (hb12 : sx_bit Wm 12 = true) (hb13 : sx_bit Wm 13 = true) (hb14 : sx_bit Wm 14 = true) (hb15 : sx_bit Wm 15 = true) (hb16 : sx_bit Wm 16 = true) (hb96 : sx_bit Wm 96 = true) (hb98 : sx_bit Wm 98 = true) (hb99 : sx_bit Wm 99 = true) (hb100 : sx_bit Wm 100 = true) (hb101 : sx_bit Wm 101 = true) (hb102 : sx_bit Wm 102 = true) (hb103 : sx_bit Wm 103 = true) (hb104 : sx_bit Wm 104 = true) (hb105 : sx_bit Wm 105 = true) (hb106 : sx_bit Wm 106 = true) (hb107 : sx_bit Wm 107 = true) (hb108 : sx_bit Wm 108 = true) (hb109 : sx_bit Wm 109 = true) (hb110 : sx_bit Wm 110 = true) (hb111 : sx_bit Wm 111 = true) (hb112 : sx_bit Wm 112 = true) (hb113 : sx_bit Wm 113 = true) (hb114 : sx_bit Wm 114 = true) (hb115 : sx_bit Wm 115 = true) (hb116 : sx_bit Wm 116 = true) (hb117 : sx_bit Wm 117 = true) (hb118 : sx_bit Wm 118 = true) (hb119 : sx_bit Wm 119 = true) (hb120 : sx_bit Wm 120 = true) (hb121 : sx_bit Wm 121 = true) (hb122 : sx_bit Wm 122 = true) (hb123 : sx_bit Wm 123 = true) (hb124 : sx_bit Wm 124 = true) (hb125 : sx_bit Wm 125 = true) (hb126 : sx_bit Wm 126 = true) (hb127 : sx_bit Wm 127 = true) (hb128 : sx_bit Wm 128 = true) (hb129 : sx_bit Wm 129 = true) (hb130 : sx_bit Wm 130 = true) (hb131 : sx_bit Wm 131 = true) (hb132 : sx_bit Wm 132 = true) (hb133 : sx_bit Wm 133 = true) (hb134 : sx_bit Wm 134 = true) (hb135 : sx_bit Wm 135 = true) (hb136 : sx_bit Wm 136 = true) (hb137 : sx_bit Wm 137 = true) (hb138 : sx_bit Wm 138 = true) (hb139 : sx_bit Wm 139 = true) (hb140 : sx_bit Wm 140 = true) (hb141 : sx_bit Wm 141 = true) (hb142 : sx_bit Wm 142 = true) (hb143 : sx_bit Wm 143 = true) (hb144 : sx_bit Wm 144 = true) (hb145 : sx_bit Wm 145 = true) (hb146 : sx_bit Wm 146 = true) (hb147 : sx_bit Wm 147 = true) (hb148 : sx_bit Wm 148 = true) (hb149 : sx_bit Wm 149 = true) (hb150 : sx_bit Wm 150 = true) (hb151 : sx_bit Wm 151 = true) (hb152 : sx_bit Wm 152 = true) (hb153 : sx_bit Wm 153 = true) (hb154 : sx_bit Wm 154 = true) (hb155 : sx_bit Wm 155 = true) (hb156 : sx_bit Wm 156 = true) (hb157 : sx_bit Wm 157 = true) (hb158 : sx_bit Wm 158 = true) (hb159 : sx_bit Wm 159 = true) (hb160 : sx_bit Wm 160 = true) (hb161 : sx_bit Wm 161 = true) (hb162 : sx_bit Wm 162 = true) (hb163 : sx_bit Wm 163 = true) (hb164 : sx_bit Wm 164 = true) (hb165 : sx_bit Wm 165 = true) (hb166 : sx_bit Wm 166 = true) (hb167 : sx_bit Wm 167 = true) (hb168 : sx_bit Wm 168 = true) (hb169 : sx_bit Wm 169 = true) (hb170 : sx_bit Wm 170 = true) (hb171 : sx_bit Wm 171 = true) (hb172 : sx_bit Wm 172 = true) (hb173 : sx_bit Wm 173 = true) (hb174 : sx_bit Wm 174 = true) (hb175 : sx_bit Wm 175 = true) (hb176 : sx_bit Wm 176 = true) (hb178 : sx_bit Wm 178 = true) (hb179 : sx_bit Wm 179 = true) (hbd : 7 ≤ bud.1 ∧ 166 ≤ bud.2.1) : ∀ (nM : Nat) {q k : Int} {μ : pm_Mem}, (k_ - k).toNat = nM → ∀ (hk : 0 ≤ k ∧ k ≤ k_) (hqb : 0 ≤ q ∧ q ≤ 18 * k) (hT : zTJ none μ) (hq2 : q = fa_sum (fr_law ls) RR DD pol rn dn n m k.toNat ((N, B), Q, u)) (hC : fa_C false 3 n m (fa_its (fr_law ls) RR DD pol rn dn n m k.toNat ((N, B), Q, u)).1 pol μ) (hKp : fa_Kp n m pol (fa_its (fr_law ls) RR DD pol rn dn n m k.toNat ((N, B), Q, u)).2.1 (fa_its (fr_law ls) RR DD pol rn dn n m k.toNat ((N, B), Q, u)).2.2 μ) (hF : fa_fr fm_LA μ0 μ), zW D Wm ST b0 l Sg zM36 bud (pm_X zM36 (fun st' μ' => st' = [(0, fa_sum (fr_law ls) RR DD pol rn dn n m k_.toNat ((N, B), Q, u))] ∧ zTJ none μ' ∧ fa_C false 3 n m (fa_its (fr_law ls) RR DD pol rn dn n m k_.toNat ((N, B), Q, u)).1 pol μ' ∧ fa_Kp n m pol (fa_its (fr_law ls) RR DD pol rn dn n m k_.toNat ((N, B), Q, u)).2.1 (fa_its (fr_law ls) RR DD pol rn dn n m k_.toNat ((N, B), Q, u)).2.2 μ' ∧ fa_fr fm_LA μ0 μ')) 45 [(2, 1), (0, k_), (2, 3), (0, q), (0, k)] [] μ := by
  intro nM
  induction nM using Nat.strongRecOn with
  | ind nM ih =>
    intro q k μ hn hk hqb hT hq2 hC hKp hF
    obtain ⟨⟨⟨Nk, Bk⟩, Qk, uk⟩, ez⟩ : ∃ z : fa_Z, z = fa_its (fr_law ls) RR DD pol rn dn n m k.toNat ((N, B), Q, u) := ⟨_, rfl⟩
    have hIO := fa_I_its (t := fr_law ls) (R := RR) (D := DD) (pol := pol) (fa_X_dom hX ⟨hn0, hq.1⟩ ⟨hm0, hq.2⟩) k.toNat (z := ((N, B), Q, u)) hI hO
    rw [← ez] at hC hKp hIO
    have hC1 : fa_C false 3 n m (Nk, Bk) pol μ := hC
    have hKp1 : fa_Kp n m pol Qk uk μ := hKp
    have hI1 : fa_I n m Nk := hIO.1
    have hO1 : fa_O m Nk := hIO.2
    have hmb := fa_many_b (th := false) (t := fr_law ls) (R := RR) (D := DD) (pol := pol) (rn := rn) (dn := dn) (n := n) (S := (Nk, Bk)) ⟨hm0, hq.2⟩
    have ek : (k + 1).toNat = k.toNat + 1 := by omega
    refine pm_blk hK zmm36 [] 2 48 [(2, 1), (0, k_), (2, 3), (0, q), (0, k)] [(0, k_), (0, k)] μ [] rfl trivial ?_
    refine pm_icmp hK zmm36 .ge 31 79 rfl rfl (fun h0 => ?_) (fun h0 => ?_)
    · have h0 : k_ ≤ k := h0
      refine pm_blk hK zmm36 [] 1 80 [(2, 1), (0, k_), (2, 3), (0, q), (0, k)] [(0, q)] μ [] rfl trivial ?_
      have e9 : k.toNat = k_.toNat := by omega
      exact pm_iret rfl rfl ⟨by rw [hq2, e9], hT, by rw [← e9, ← ez]; exact hC1, by rw [← e9, ← ez]; exact hKp1, hF⟩
    · have h0 : k < k_ := h0
      refine pm_blk hK zmm36 [] 4 59 [(2, 1), (0, k_), (2, 3), (0, q), (0, k)] [(2, 2), (2, 96)] μ [] rfl trivial ?_
      refine pm_call hK zmm36 (141, 0, 27, 1) zM27 (3, 67) [(2, 96), (2, 2)] [] rfl rfl rfl rfl ⟨by omega, by rw [zn27]; omega⟩ (fc_keep hK hT hC1.1 hn0 hm0 hq hI1 hO1 (hC1.2 rfl).1 hKp1 hb96 hb98 hb99 hb100 hb101 hb102 hb103 hb104 hb105 hb106 hb107 hb108 hb109 hb110 hb111 hb112 hb113 hb114 hb115 hb116 hb117 hb118 hb119 hb120 hb121 hb122 hb123 hb124 hb125 hb126 hb127 hb128 hb129 hb130 hb131 hb132 hb133 hb134 hb135 hb136 hb137 hb138 hb139 hb140 hb141 hb142 hb143 hb144 hb145 hb146 hb147 hb148 hb149 hb150 hb151 hb152 hb153 hb154 hb155 hb156 hb157 hb158 hb159 hb160 hb161 hb162 hb163 hb164 hb165 hb166 hb167 hb168 hb169 hb170 hb171 hb172 hb173 hb174 hb175 hb176 ⟨Nat.le_refl _, Nat.le_refl _⟩) (fun st1 μc1 hp1 => ?_)
      obtain ⟨rfl, hTc1, hK1, hf1⟩ := hp1
      have hC3 := fm_A_cp hC1 hf1 (by decide) (by decide) (by decide)
      have hF3 : fa_fr fm_LA μ0 μc1 := fa_fr_tr hF hf1 (by decide)
      have hX3 := fa_X_frL hX hF3 (by decide)
      refine pm_blk hK zmm36 [] 4 68 [(2, 1), (0, k_), (2, 3), (0, q), (0, k)] [(2, 3), (2, 180), (0, q)] μc1 [] rfl trivial ?_
      refine pm_call hK zmm36 (162, 0, 37, 1) zM37 (6, 144) [(2, 180), (2, 3)] [(0, q)] rfl rfl rfl rfl ⟨by omega, by rw [zn37]; omega⟩ (fc_pass3 hK hTc1 hC3 hn0 hm0 hq hI1 hO1 hX3 hb2 hb3 hb4 hb5 hb6 hb7 hb8 hb9 hb10 hb11 hb12 hb13 hb14 hb15 hb16 hb178 hb179 ⟨Nat.le_refl _, Nat.le_refl _⟩) (fun st2 μc2 hp2 => ?_)
      obtain ⟨rfl, hTc2, hCc2, hF2⟩ := hp2
      have hC4 := hCc2
      have hF4 : fa_fr fm_LA μ0 μc2 := fa_fr_tr hF3 hF2 (by decide)
      have hK4 := fa_Kp_frL hK1 hF2 (by decide)
      refine pm_blk hK zmm36 [] 4 45 [(2, 1), (0, k_), (2, 3), (0, q + (fa_many false (fr_law ls) RR DD pol rn dn n m (Nk, Bk))), (0, k + 1)] [] μc2 [pm_in (q + (fa_many false (fr_law ls) RR DD pol rn dn n m (Nk, Bk))), pm_in (k + 1)] rfl ⟨pm_in_mk (by omega) (by omega), pm_in_mk (by omega) (by omega), trivial⟩ ?_
      exact ih _ (by omega) rfl ⟨by omega, by omega⟩ ⟨by omega, by omega⟩ hTc2 (by rw [ek, fa_sum_s, ← ez, hq2]) (by rw [ek, fa_its_s, ← ez]; exact hC4) (by rw [ek, fa_its_s, ← ez]; exact hK4) hF4
set_option maxRecDepth 100000 in
theorem fm_hours (hK : zKK ST) {k_ : Int} (hT : zTJ none μ) {N B pol : Int → Int} {n m : Int} (hC : fa_C false 3 n m (N, B) pol μ) (hn0 : 0 ≤ n) (hm0 : 0 ≤ m) (hq : n ≤ 12 ∧ m ≤ 18) (hI : fa_I n m N) (hO : fa_O m N) {Q : Int → Int} {u : Int} (hKp : fa_Kp n m pol Q u μ) {ls : List (Int × List zIw × List zIw)} {rn dn : Int} {RR DD : Int → Int} (hX : fa_X ls n m rn dn RR DD μ) (hb2 : sx_bit Wm 2 = true) (hb3 : sx_bit Wm 3 = true) (hb4 : sx_bit Wm 4 = true) (hb5 : sx_bit Wm 5 = true) (hb6 : sx_bit Wm 6 = true) (hb7 : sx_bit Wm 7 = true) (hb8 : sx_bit Wm 8 = true) (hb9 : sx_bit Wm 9 = true) (hb10 : sx_bit Wm 10 = true) (hb11 : sx_bit Wm 11 = true) (hb12 : sx_bit Wm 12 = true) (hb13 : sx_bit Wm 13 = true) (hb14 : sx_bit Wm 14 = true) (hb15 : sx_bit Wm 15 = true) (hb16 : sx_bit Wm 16 = true) (hb96 : sx_bit Wm 96 = true) (hb98 : sx_bit Wm 98 = true) (hb99 : sx_bit Wm 99 = true) (hb100 : sx_bit Wm 100 = true) (hb101 : sx_bit Wm 101 = true) (hb102 : sx_bit Wm 102 = true) (hb103 : sx_bit Wm 103 = true) (hb104 : sx_bit Wm 104 = true) (hb105 : sx_bit Wm 105 = true) (hb106 : sx_bit Wm 106 = true) (hb107 : sx_bit Wm 107 = true) (hb108 : sx_bit Wm 108 = true) (hb109 : sx_bit Wm 109 = true) (hb110 : sx_bit Wm 110 = true) (hb111 : sx_bit Wm 111 = true) (hb112 : sx_bit Wm 112 = true) (hb113 : sx_bit Wm 113 = true) (hb114 : sx_bit Wm 114 = true) (hb115 : sx_bit Wm 115 = true) (hb116 : sx_bit Wm 116 = true) (hb117 : sx_bit Wm 117 = true) (hb118 : sx_bit Wm 118 = true) (hb119 : sx_bit Wm 119 = true) (hb120 : sx_bit Wm 120 = true) (hb121 : sx_bit Wm 121 = true) (hb122 : sx_bit Wm 122 = true) (hb123 : sx_bit Wm 123 = true) (hb124 : sx_bit Wm 124 = true) (hb125 : sx_bit Wm 125 = true) (hb126 : sx_bit Wm 126 = true) (hb127 : sx_bit Wm 127 = true) (hb128 : sx_bit Wm 128 = true) (hb129 : sx_bit Wm 129 = true) (hb130 : sx_bit Wm 130 = true) (hb131 : sx_bit Wm 131 = true) (hb132 : sx_bit Wm 132 = true) (hb133 : sx_bit Wm 133 = true) (hb134 : sx_bit Wm 134 = true) (hb135 : sx_bit Wm 135 = true) (hb136 : sx_bit Wm 136 = true) (hb137 : sx_bit Wm 137 = true) (hb138 : sx_bit Wm 138 = true) (hb139 : sx_bit Wm 139 = true) (hb140 : sx_bit Wm 140 = true) (hb141 : sx_bit Wm 141 = true) (hb142 : sx_bit Wm 142 = true) (hb143 : sx_bit Wm 143 = true) (hb144 : sx_bit Wm 144 = true) (hb145 : sx_bit Wm 145 = true) (hb146 : sx_bit Wm 146 = true) (hb147 : sx_bit Wm 147 = true) (hb148 : sx_bit Wm 148 = true) (hb149 : sx_bit Wm 149 = true) (hb150 : sx_bit Wm 150 = true) (hb151 : sx_bit Wm 151 = true) (hb152 : sx_bit Wm 152 = true) (hb153 : sx_bit Wm 153 = true) (hb154 : sx_bit Wm 154 = true) (hb155 : sx_bit Wm 155 = true) (hb156 : sx_bit Wm 156 = true) (hb157 : sx_bit Wm 157 = true) (hb158 : sx_bit Wm 158 = true) (hb159 : sx_bit Wm 159 = true) (hb160 : sx_bit Wm 160 = true) (hb161 : sx_bit Wm 161 = true) (hb162 : sx_bit Wm 162 = true) (hb163 : sx_bit Wm 163 = true) (hb164 : sx_bit Wm 164 = true) (hb165 : sx_bit Wm 165 = true) (hb166 : sx_bit Wm 166 = true) (hb167 : sx_bit Wm 167 = true) (hb168 : sx_bit Wm 168 = true) (hb169 : sx_bit Wm 169 = true) (hb170 : sx_bit Wm 170 = true) (hb171 : sx_bit Wm 171 = true) (hb172 : sx_bit Wm 172 = true) (hb173 : sx_bit Wm 173 = true) (hb174 : sx_bit Wm 174 = true) (hb175 : sx_bit Wm 175 = true) (hb176 : sx_bit Wm 176 = true) (hb178 : sx_bit Wm 178 = true) (hb179 : sx_bit Wm 179 = true) (hbd : 7 ≤ bud.1 ∧ 166 ≤ bud.2.1) : zC D Wm ST b0 l Sg zM36 bud [(2, 1), (0, k_)] μ (fun st' μ' => zTJ none μ' ∧ ((((1 ≤ k_ ∧ k_ ≤ 60) ∧ pm_w32 (N 0 + Int.tdiv (N 1 + k_) 12) ≤ 9990) ∧ st' = [(0, fa_sum (fr_law ls) RR DD pol rn dn n m k_.toNat ((N, B), Q, u))] ∧ fa_C false 3 n m (fa_its (fr_law ls) RR DD pol rn dn n m k_.toNat ((N, B), Q, u)).1 pol μ' ∧ fa_Kp n m pol (fa_its (fr_law ls) RR DD pol rn dn n m k_.toNat ((N, B), Q, u)).2.1 (fa_its (fr_law ls) RR DD pol rn dn n m k_.toNat ((N, B), Q, u)).2.2 μ' ∧ fa_fr fm_LA μ μ') ∨ (¬ ((1 ≤ k_ ∧ k_ ≤ 60) ∧ pm_w32 (N 0 + Int.tdiv (N 1 + k_) 12) ≤ 9990) ∧ st' = [(0, -1)] ∧ μ' = μ))) := by
  have a0 : μ 3 0 = n := hC.1.1.1
  have a1 : μ 3 1 = m := hC.1.1.2.1
  have a2 : μ 3 2 = N 1 := hC.1.1.2.2.1
  have a3 : μ 3 3 = N 0 := hC.1.1.2.2.2.1
  have hI1b := hI.1
  refine pm_blk hK zmm36 [31] 7 12 [(2, 1), (0, k_), (2, 3), (9, 0), (9, 0)] [(0, 60), (0, 1), (0, k_)] μ [] rfl trivial ?_
  refine pm_call hK zmm36 (94, 1, 16, 3) zM16 (0, 0) [(0, k_), (0, 1), (0, 60)] [] rfl rfl rfl rfl ⟨by omega, by rw [zn16]; omega⟩ (zh_within hK ⟨Nat.le_refl _, Nat.le_refl _⟩) (fun st1 μc1 hp1 => ?_)
  obtain ⟨rfl, rfl⟩ := hp1
  refine pm_if hK zmm36 .eq 23 38 rfl rfl (fun h0 => ?_) (fun h0 => ?_)
  · have h0 : (if 1 ≤ k_ ∧ k_ ≤ 60 then 1 else 0 : Int) = (0 : Int) := h0
    have h0 := zif0 h0
    refine pm_blk hK zmm36 [31] 1 39 [(2, 1), (0, k_), (2, 3), (9, 0), (9, 0)] [(0, (-1))] μ [] rfl trivial ?_
    first
    | exact pm_iret rfl rfl ⟨hT, Or.inr ⟨fun k => by obtain ⟨k1, -⟩ := k; omega, rfl, rfl⟩⟩
    | exact pm_iret rfl rfl ⟨hT, Or.inr ⟨fun k => by obtain ⟨-, k2⟩ := k; rw [← a3, ← a2] at k2; omega, rfl, rfl⟩⟩
    | (exfalso; omega)
  · have h0 : (if 1 ≤ k_ ∧ k_ ≤ 60 then 1 else 0 : Int) ≠ (0 : Int) := h0
    have h0 := zif1 h0
    have hdv : Int.tdiv (μ 3 2 + k_) 12 = (μ 3 2 + k_) / 12 := Int.tdiv_eq_ediv_of_nonneg (by omega)
    have f1 := zT_get hT zs3_3 (i := 3) (by omega) (by omega)
    have f2 := zT_get hT zs3_2 (i := 2) (by omega) (by omega)
    have w3 := zw32 ((μ 3 3) + (Int.tdiv ((μ 3 2) + k_) 12))
    refine pm_blk hK zmm36 [31] 10 35 [(2, 1), (0, k_), (2, 3), (9, 0), (9, 0)] [(0, 9990), (0, pm_w32 ((μ 3 3) + (Int.tdiv ((μ 3 2) + k_) 12)))] μ [pm_in ((μ 3 2) + k_), 12 ≠ 0, pm_in (Int.tdiv ((μ 3 2) + k_) 12)] rfl ⟨pm_in_mk (by omega) (by omega), by omega, pm_in_mk (by omega) (by omega), trivial⟩ ?_
    refine pm_icmp hK zmm36 .le 5 40 rfl rfl (fun h1 => ?_) (fun h1 => ?_)
    · have h1 : pm_w32 ((μ 3 3) + (Int.tdiv ((μ 3 2) + k_) 12)) ≤ (9990 : Int) := h1
      refine pm_blk hK zmm36 [31] 4 45 [(2, 1), (0, k_), (2, 3), (0, 0), (0, 0)] [] μ [] rfl trivial ?_
      refine pm_then (fm_hol hK (μ0 := μ) (k_ := k_) (by omega) hn0 hm0 hq hI hO hX hb2 hb3 hb4 hb5 hb6 hb7 hb8 hb9 hb10 hb11 hb12 hb13 hb14 hb15 hb16 hb96 hb98 hb99 hb100 hb101 hb102 hb103 hb104 hb105 hb106 hb107 hb108 hb109 hb110 hb111 hb112 hb113 hb114 hb115 hb116 hb117 hb118 hb119 hb120 hb121 hb122 hb123 hb124 hb125 hb126 hb127 hb128 hb129 hb130 hb131 hb132 hb133 hb134 hb135 hb136 hb137 hb138 hb139 hb140 hb141 hb142 hb143 hb144 hb145 hb146 hb147 hb148 hb149 hb150 hb151 hb152 hb153 hb154 hb155 hb156 hb157 hb158 hb159 hb160 hb161 hb162 hb163 hb164 hb165 hb166 hb167 hb168 hb169 hb170 hb171 hb172 hb173 hb174 hb175 hb176 hb178 hb179 hbd _ (q := 0) (k := 0) rfl ⟨by omega, by omega⟩ ⟨by omega, by omega⟩ hT rfl hC hKp fa_fr_0) (fun _ _ st9 μ9 hX9 => ?_)
      obtain ⟨h10, h11, h12, h13, h14, h15⟩ := hX9
      exact pm_exit ⟨h10, h12, Or.inl ⟨⟨⟨by omega, by omega⟩, by rw [← a3, ← a2]; omega⟩, h11, h13, h14, h15⟩⟩
    · have h1 : (9990 : Int) < pm_w32 ((μ 3 3) + (Int.tdiv ((μ 3 2) + k_) 12)) := h1
      refine pm_blk hK zmm36 [31] 1 39 [(2, 1), (0, k_), (2, 3), (9, 0), (9, 0)] [(0, (-1))] μ [] rfl trivial ?_
      first
      | exact pm_iret rfl rfl ⟨hT, Or.inr ⟨fun k => by obtain ⟨k1, -⟩ := k; omega, rfl, rfl⟩⟩
      | exact pm_iret rfl rfl ⟨hT, Or.inr ⟨fun k => by obtain ⟨-, k2⟩ := k; rw [← a3, ← a2] at k2; omega, rfl, rfl⟩⟩
      | (exfalso; omega)
set_option maxRecDepth 100000 in
theorem fm_undo (hK : zKK ST) (hT : zTJ none μ) {pol : Int → Int} {n m : Int} (hn0 : 0 ≤ n) (hm0 : 0 ≤ m) (hq : n ≤ 12 ∧ m ≤ 18) {Q : Int → Int} {u : Int} (hKp : fa_Kp n m pol Q u μ) (hb2 : sx_bit Wm 2 = true) (hb3 : sx_bit Wm 3 = true) (hb4 : sx_bit Wm 4 = true) (hb5 : sx_bit Wm 5 = true) (hb6 : sx_bit Wm 6 = true) (hb7 : sx_bit Wm 7 = true) (hb8 : sx_bit Wm 8 = true) (hb9 : sx_bit Wm 9 = true) (hb10 : sx_bit Wm 10 = true) (hb11 : sx_bit Wm 11 = true) (hb12 : sx_bit Wm 12 = true) (hb13 : sx_bit Wm 13 = true) (hb14 : sx_bit Wm 14 = true) (hb15 : sx_bit Wm 15 = true) (hb96 : sx_bit Wm 96 = true) (hbd : 4 ≤ bud.1 ∧ 88 ≤ bud.2.1) : zC D Wm ST b0 l Sg zM117 bud [(2, 1)] μ (fun st' μ' => ∃ x, st' = [(0, x)] ∧ zTJ none μ' ∧ ((u = 0 ∧ x = 0 ∧ μ' = μ) ∨ (u ≠ 0 ∧ x = 1 ∧ fa_A 3 n m (fa_row Q (u - 1)) pol μ' ∧ μ' 2 2 = fa_row Q (u - 1) 3 ∧ fa_Kp n m pol Q (u - 1) μ' ∧ fa_I n m (fa_row Q (u - 1)) ∧ fa_O m (fa_row Q (u - 1)) ∧ fa_fr fc_LB μ μ'))) := by
  refine pm_blk hK zmm117 [] 4 8 [(2, 1)] [(2, 2), (2, 96)] μ [] rfl trivial ?_
  refine pm_call hK zmm117 (404, 0, 118, 1) zM118 (3, 67) [(2, 96), (2, 2)] [] rfl rfl rfl rfl ⟨by omega, by rw [zn118]; omega⟩ (fc_back hK hT hn0 hm0 hq hKp hb2 hb3 hb4 hb5 hb6 hb7 hb8 hb9 hb10 hb11 hb12 hb13 hb14 hb15 hb96 ⟨Nat.le_refl _, Nat.le_refl _⟩) (fun st1 μc1 hp1 => ?_)
  obtain ⟨x1, rfl, hTc1, hS⟩ := hp1
  have hx01 : x1 = 0 ∨ x1 = 1 := by
    rcases hS with ⟨-, h9, -⟩ | ⟨-, h9, -⟩
    · exact Or.inl h9
    · exact Or.inr h9
  exact pm_zret rfl rfl (by first | exact Or.inl rfl | exact Or.inr rfl | omega) ⟨_, rfl, hTc1, hS⟩
end ZHW
