/-! a text told anew: the class; walks printed by program (wip/p30/pmgen.py) and filled by hand -/
section ZHW
variable {D : va_G} {Wm : Nat} {ST : List (String × String × String × Nat)} {b0 : sx_B} {l : Launch} {Sg : Nat → Option Nat} {bud : sx_Bu} {μ : pm_Mem} {B0 : Nat → Prop} {J : (Nat → Option Nat) → Heap → Prop}
set_option maxRecDepth 100000 in
theorem zx_forget (hK : zKK ST) (hT : zTJ none μ) (hb96 : sx_bit Wm 96 = true) (hbd : 0 ≤ bud.1 ∧ 0 ≤ bud.2.1) : zC D Wm ST b0 l Sg zM14 bud [(2, 96)] μ (fun st' μ' => st' = [] ∧ zTJ none μ' ∧ μ' = pm_up μ 96 3 0) := by
  refine pm_blk hK zmm14 [] 3 5 [(2, 96)] [] (pm_up μ 96 3 0) [sx_bit Wm 96 = true] rfl ⟨hb96, trivial⟩ ?_
  obtain ⟨μ1, eμ1⟩ : ∃ μ', μ' = pm_up μ 96 3 0 := ⟨_, rfl⟩
  rw [← eμ1]
  have hTμ1 : zTJ none μ1 := by rw [eμ1]; exact zT_upn hT zs96_3 rfl (i := 3) (by omega) (by omega) (by omega) (by omega)
  exact pm_vret rfl rfl ⟨rfl, hTμ1, by first | exact eμ1 | rfl⟩
set_option maxRecDepth 100000 in
theorem zx_text1 (hK : zKK ST) {aW aS : Nat} (hTX : zSTt ST aW aS) (hT : zTJ none μ) (hb88 : sx_bit Wm 88 = true) (hb90 : sx_bit Wm 90 = true) (hb91 : sx_bit Wm 91 = true) (hb92 : sx_bit Wm 92 = true) (hb93 : sx_bit Wm 93 = true) (hb94 : sx_bit Wm 94 = true) (hb20 : sx_bit Wm 20 = true) (hb21 : sx_bit Wm 21 = true) (hb22 : sx_bit Wm 22 = true) (hb96 : sx_bit Wm 96 = true) (hbd : 9 ≤ bud.1 ∧ 203 ≤ bud.2.1) : zC D Wm ST b0 l Sg zM46 bud [(2, 1), (0, 1)] μ (fun st' μ' => ∃ x, st' = [(0, x)] ∧ zTJ none μ' ∧ zTfF (fun K V => zLi0 (zPa1 K V (μ 3 0) (μ 3 1)) K 318) (fun K V J m t => zCe1 K V J (m 21) t) 20 1 μ x μ') := by
  refine pm_blk hK zmm46 [] 3 5 [(2, 1), (0, 1), (9, 0)] [(0, 1), (2, 2)] μ [] rfl trivial ?_
  refine pm_call hK zmm46 (176, 0, 47, 1) zM47 (0, 0) [(2, 2), (0, 1)] [] rfl rfl rfl rfl ⟨by omega, by rw [zn47]; omega⟩ (zx_tof1 hK) (fun st1 μc1 hp1 => ?_)
  obtain ⟨rfl, rfl⟩ := hp1
  refine pm_blk hK zmm46 [] 2 10 [(2, 1), (0, 1), (2, 20)] [(2, 20)] μ [] rfl trivial ?_
  refine zp_ifnn_TT hK zmm46 (off := 12) (tgt := 22) rfl (by decide) ?_
  refine pm_blk hK zmm46 [] 6 34 [(2, 1), (0, 1), (2, 20)] [(2, 3), (0, 1), (2, 88)] μ [] rfl trivial ?_
  refine pm_call hK zmm46 (183, 0, 49, 2) zM49 (8, 178) [(2, 88), (0, 1), (2, 3)] [] rfl rfl rfl rfl ⟨by omega, by rw [zn49]; omega⟩ (zg_reads1 hK hTX hT hb88 hb90 hb91 hb92 hb93 hb94 ⟨Nat.le_refl _, Nat.le_refl _⟩) (fun st2 μc2 hp2 => ?_)
  obtain ⟨y2, rfl, hTc2, hRf2⟩ := hp2
  have hRf := hRf2
  refine pm_if hK zmm46 .ne 5 42 rfl rfl (fun h0 => ?_) (fun h0 => ?_)
  · have h0 : y2 ≠ (0 : Int) := h0
    refine pm_blk hK zmm46 [] 4 50 [(2, 1), (0, 1), (2, 20)] [(2, 93), (2, 20)] μc2 [] rfl trivial ?_
    refine pm_call hK zmm46 (191, 0, 54, 1) zM54 (2, 46) [(2, 20), (2, 93)] [] rfl rfl rfl rfl ⟨by omega, by rw [zn54]; omega⟩ (zx_cp20 hK hTc2 hb20 hb21 hb22 ⟨Nat.le_refl _, Nat.le_refl _⟩) (fun st3 μc3 hp3 => ?_)
    obtain ⟨rfl, hTc3, q1, q2, q3, q4, q5⟩ := hp3
    refine pm_blk hK zmm46 [] 2 55 [(2, 1), (0, 1), (2, 20)] [(0, 1), (0, 1)] μc3 [] rfl trivial ?_
    refine pm_icmp hK zmm46 .eq 8 63 rfl rfl (fun h1 => ?_) (fun h1 => ?_)
    · have h1 : (1 : Int) = (1 : Int) := h1
      refine pm_blk hK zmm46 [] 2 67 [(2, 1), (0, 1), (2, 20)] [(2, 96)] μc3 [] rfl trivial ?_
      refine pm_call hK zmm46 (91, 0, 14, 0) zM14 (0, 0) [(2, 96)] [] rfl rfl rfl rfl ⟨by omega, by rw [zn14]; omega⟩ (zx_forget hK hTc3 hb96 ⟨Nat.le_refl _, Nat.le_refl _⟩) (fun st4 μc4 hp4 => ?_)
      obtain ⟨rfl, hTc4, eF⟩ := hp4
      have f1 := zT_get hTc4 zs20_2 (i := 2) (by omega) (by omega)
      refine pm_blk hK zmm46 [] 2 74 [(2, 1), (0, 1), (2, 20)] [(0, μc4 20 2)] μc4 [] rfl trivial ?_
      exact pm_iret rfl rfl ⟨_, rfl, hTc4, zTfF_y hRf (by omega) (by decide) (fun ht h => zCe1_cg ht (fun i i0 i1 => by rw [eF, pm_up_row (by decide)]; exact q2 i i0 i1) h) (fun q a b c d => by rw [eF, pm_up_row d]; exact q1 q a b c) (fun k hk => by rw [eF, pm_up_ne hk, q1 96 (by decide) (by decide) (by decide)]) (by rw [if_pos rfl, eF, pm_up_eq]) (by rw [eF, pm_up_off (by decide)]; exact q4) rfl⟩
    · have h1 : (1 : Int) ≠ (1 : Int) := h1
      exact absurd h1 (by decide)
  · have h0 : y2 = (0 : Int) := h0
    refine pm_blk hK zmm46 [] 1 41 [(2, 1), (0, 1), (2, 20)] [(0, (-1))] μc2 [] rfl trivial ?_
    exact pm_iret rfl rfl ⟨_, rfl, hTc2, zTfF_n hRf (by omega) (by decide)⟩
set_option maxRecDepth 100000 in
theorem zx_text2 (hK : zKK ST) {aW aS : Nat} (hTX : zSTt ST aW aS) (hT : zTJ none μ) (hb88 : sx_bit Wm 88 = true) (hb90 : sx_bit Wm 90 = true) (hb91 : sx_bit Wm 91 = true) (hb92 : sx_bit Wm 92 = true) (hb93 : sx_bit Wm 93 = true) (hb94 : sx_bit Wm 94 = true) (hb23 : sx_bit Wm 23 = true) (hb24 : sx_bit Wm 24 = true) (hb25 : sx_bit Wm 25 = true) (hb96 : sx_bit Wm 96 = true) (hbd : 9 ≤ bud.1 ∧ 203 ≤ bud.2.1) : zC D Wm ST b0 l Sg zM46 bud [(2, 1), (0, 2)] μ (fun st' μ' => ∃ x, st' = [(0, x)] ∧ zTJ none μ' ∧ zTfF (fun K V => zLi0 (zPa2 K V (μ 3 0) (μ 3 1)) K 322) (fun K V J m t => zCe2 K V J (m 24) t) 23 1 μ x μ') := by
  refine pm_blk hK zmm46 [] 3 5 [(2, 1), (0, 2), (9, 0)] [(0, 2), (2, 2)] μ [] rfl trivial ?_
  refine pm_call hK zmm46 (176, 0, 47, 1) zM47 (0, 0) [(2, 2), (0, 2)] [] rfl rfl rfl rfl ⟨by omega, by rw [zn47]; omega⟩ (zx_tof2 hK) (fun st1 μc1 hp1 => ?_)
  obtain ⟨rfl, rfl⟩ := hp1
  refine pm_blk hK zmm46 [] 2 10 [(2, 1), (0, 2), (2, 23)] [(2, 23)] μ [] rfl trivial ?_
  refine zp_ifnn_TT hK zmm46 (off := 12) (tgt := 22) rfl (by decide) ?_
  refine pm_blk hK zmm46 [] 6 34 [(2, 1), (0, 2), (2, 23)] [(2, 3), (0, 2), (2, 88)] μ [] rfl trivial ?_
  refine pm_call hK zmm46 (183, 0, 49, 2) zM49 (8, 178) [(2, 88), (0, 2), (2, 3)] [] rfl rfl rfl rfl ⟨by omega, by rw [zn49]; omega⟩ (zg_reads2 hK hTX hT hb88 hb90 hb91 hb92 hb93 hb94 ⟨Nat.le_refl _, Nat.le_refl _⟩) (fun st2 μc2 hp2 => ?_)
  obtain ⟨y2, rfl, hTc2, hRf2⟩ := hp2
  have hRf := hRf2
  refine pm_if hK zmm46 .ne 5 42 rfl rfl (fun h0 => ?_) (fun h0 => ?_)
  · have h0 : y2 ≠ (0 : Int) := h0
    refine pm_blk hK zmm46 [] 4 50 [(2, 1), (0, 2), (2, 23)] [(2, 93), (2, 23)] μc2 [] rfl trivial ?_
    refine pm_call hK zmm46 (191, 0, 54, 1) zM54 (2, 46) [(2, 23), (2, 93)] [] rfl rfl rfl rfl ⟨by omega, by rw [zn54]; omega⟩ (zx_cp23 hK hTc2 hb23 hb24 hb25 ⟨Nat.le_refl _, Nat.le_refl _⟩) (fun st3 μc3 hp3 => ?_)
    obtain ⟨rfl, hTc3, q1, q2, q3, q4, q5⟩ := hp3
    refine pm_blk hK zmm46 [] 2 55 [(2, 1), (0, 2), (2, 23)] [(0, 1), (0, 2)] μc3 [] rfl trivial ?_
    refine pm_icmp hK zmm46 .eq 8 63 rfl rfl (fun h1 => ?_) (fun h1 => ?_)
    · have h1 : (2 : Int) = (1 : Int) := h1
      exact absurd h1 (by decide)
    · have h1 : (2 : Int) ≠ (1 : Int) := h1
      refine pm_blk hK zmm46 [] 2 60 [(2, 1), (0, 2), (2, 23)] [(0, 2), (0, 2)] μc3 [] rfl trivial ?_
      refine pm_icmp hK zmm46 .ne 10 70 rfl rfl (fun h2 => ?_) (fun h2 => ?_)
      · have h2 : (2 : Int) ≠ (2 : Int) := h2
        exact absurd h2 (by decide)
      · have h2 : (2 : Int) = (2 : Int) := h2
        refine pm_blk hK zmm46 [] 2 67 [(2, 1), (0, 2), (2, 23)] [(2, 96)] μc3 [] rfl trivial ?_
        refine pm_call hK zmm46 (91, 0, 14, 0) zM14 (0, 0) [(2, 96)] [] rfl rfl rfl rfl ⟨by omega, by rw [zn14]; omega⟩ (zx_forget hK hTc3 hb96 ⟨Nat.le_refl _, Nat.le_refl _⟩) (fun st4 μc4 hp4 => ?_)
        obtain ⟨rfl, hTc4, eF⟩ := hp4
        have f1 := zT_get hTc4 zs23_2 (i := 2) (by omega) (by omega)
        refine pm_blk hK zmm46 [] 2 74 [(2, 1), (0, 2), (2, 23)] [(0, μc4 23 2)] μc4 [] rfl trivial ?_
        exact pm_iret rfl rfl ⟨_, rfl, hTc4, zTfF_y hRf (by omega) (by decide) (fun ht h => zCe2_cg ht (fun i i0 i1 => by rw [eF, pm_up_row (by decide)]; exact q2 i i0 i1) h) (fun q a b c d => by rw [eF, pm_up_row d]; exact q1 q a b c) (fun k hk => by rw [eF, pm_up_ne hk, q1 96 (by decide) (by decide) (by decide)]) (by rw [if_pos rfl, eF, pm_up_eq]) (by rw [eF, pm_up_off (by decide)]; exact q4) rfl⟩
  · have h0 : y2 = (0 : Int) := h0
    refine pm_blk hK zmm46 [] 1 41 [(2, 1), (0, 2), (2, 23)] [(0, (-1))] μc2 [] rfl trivial ?_
    exact pm_iret rfl rfl ⟨_, rfl, hTc2, zTfF_n hRf (by omega) (by decide)⟩
set_option maxRecDepth 100000 in
theorem zx_text3 (hK : zKK ST) {aW aS : Nat} (hTX : zSTt ST aW aS) (hT : zTJ none μ) (hb88 : sx_bit Wm 88 = true) (hb90 : sx_bit Wm 90 = true) (hb91 : sx_bit Wm 91 = true) (hb92 : sx_bit Wm 92 = true) (hb93 : sx_bit Wm 93 = true) (hb94 : sx_bit Wm 94 = true) (hb26 : sx_bit Wm 26 = true) (hb27 : sx_bit Wm 27 = true) (hb28 : sx_bit Wm 28 = true) (hb96 : sx_bit Wm 96 = true) (hbd : 9 ≤ bud.1 ∧ 203 ≤ bud.2.1) : zC D Wm ST b0 l Sg zM46 bud [(2, 1), (0, 3)] μ (fun st' μ' => ∃ x, st' = [(0, x)] ∧ zTJ none μ' ∧ zTfF (fun K V => zLi0 (zPa3 K V (μ 3 0) (μ 3 1)) K 326) (fun K V J m t => zCe3 K V J (m 27) t) 26 0 μ x μ') := by
  refine pm_blk hK zmm46 [] 3 5 [(2, 1), (0, 3), (9, 0)] [(0, 3), (2, 2)] μ [] rfl trivial ?_
  refine pm_call hK zmm46 (176, 0, 47, 1) zM47 (0, 0) [(2, 2), (0, 3)] [] rfl rfl rfl rfl ⟨by omega, by rw [zn47]; omega⟩ (zx_tof3 hK) (fun st1 μc1 hp1 => ?_)
  obtain ⟨rfl, rfl⟩ := hp1
  refine pm_blk hK zmm46 [] 2 10 [(2, 1), (0, 3), (2, 26)] [(2, 26)] μ [] rfl trivial ?_
  refine zp_ifnn_TT hK zmm46 (off := 12) (tgt := 22) rfl (by decide) ?_
  refine pm_blk hK zmm46 [] 6 34 [(2, 1), (0, 3), (2, 26)] [(2, 3), (0, 3), (2, 88)] μ [] rfl trivial ?_
  refine pm_call hK zmm46 (183, 0, 49, 2) zM49 (8, 178) [(2, 88), (0, 3), (2, 3)] [] rfl rfl rfl rfl ⟨by omega, by rw [zn49]; omega⟩ (zg_reads3 hK hTX hT hb88 hb90 hb91 hb92 hb93 hb94 ⟨Nat.le_refl _, Nat.le_refl _⟩) (fun st2 μc2 hp2 => ?_)
  obtain ⟨y2, rfl, hTc2, hRf2⟩ := hp2
  have hRf := hRf2
  refine pm_if hK zmm46 .ne 5 42 rfl rfl (fun h0 => ?_) (fun h0 => ?_)
  · have h0 : y2 ≠ (0 : Int) := h0
    refine pm_blk hK zmm46 [] 4 50 [(2, 1), (0, 3), (2, 26)] [(2, 93), (2, 26)] μc2 [] rfl trivial ?_
    refine pm_call hK zmm46 (191, 0, 54, 1) zM54 (2, 46) [(2, 26), (2, 93)] [] rfl rfl rfl rfl ⟨by omega, by rw [zn54]; omega⟩ (zx_cp26 hK hTc2 hb26 hb27 hb28 ⟨Nat.le_refl _, Nat.le_refl _⟩) (fun st3 μc3 hp3 => ?_)
    obtain ⟨rfl, hTc3, q1, q2, q3, q4, q5⟩ := hp3
    refine pm_blk hK zmm46 [] 2 55 [(2, 1), (0, 3), (2, 26)] [(0, 1), (0, 3)] μc3 [] rfl trivial ?_
    refine pm_icmp hK zmm46 .eq 8 63 rfl rfl (fun h1 => ?_) (fun h1 => ?_)
    · have h1 : (3 : Int) = (1 : Int) := h1
      exact absurd h1 (by decide)
    · have h1 : (3 : Int) ≠ (1 : Int) := h1
      refine pm_blk hK zmm46 [] 2 60 [(2, 1), (0, 3), (2, 26)] [(0, 2), (0, 3)] μc3 [] rfl trivial ?_
      refine pm_icmp hK zmm46 .ne 10 70 rfl rfl (fun h2 => ?_) (fun h2 => ?_)
      · have h2 : (3 : Int) ≠ (2 : Int) := h2
        have f1 := zT_get hTc3 zs26_2 (i := 2) (by omega) (by omega)
        refine pm_blk hK zmm46 [] 2 74 [(2, 1), (0, 3), (2, 26)] [(0, μc3 26 2)] μc3 [] rfl trivial ?_
        exact pm_iret rfl rfl ⟨_, rfl, hTc3, zTfF_y hRf (by omega) (by decide) (fun ht h => zCe3_cg ht q2 h) (fun q a b c d => q1 q a b c) (fun k _ => by rw [q1 96 (by decide) (by decide) (by decide)]) (by rw [if_neg (by decide), q1 96 (by decide) (by decide) (by decide)]) q4 rfl⟩
      · have h2 : (3 : Int) = (2 : Int) := h2
        exact absurd h2 (by decide)
  · have h0 : y2 = (0 : Int) := h0
    refine pm_blk hK zmm46 [] 1 41 [(2, 1), (0, 3), (2, 26)] [(0, (-1))] μc2 [] rfl trivial ?_
    exact pm_iret rfl rfl ⟨_, rfl, hTc2, zTfF_n hRf (by omega) (by decide)⟩
end ZHW
