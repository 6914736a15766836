/-! a text told anew: the class, wholly; walks printed by program (wip/p30/pmgen.py) and filled by hand -/
section ZHW
variable {D : va_G} {Wm : Nat} {ST : List (String × String × String × Nat)} {b0 : sx_B} {l : Launch} {Sg : Nat → Option Nat} {bud : sx_Bu} {μ : pm_Mem} {B0 : Nat → Prop} {J : (Nat → Option Nat) → Heap → Prop}
set_option maxRecDepth 100000 in
theorem zx_cp17a (hK : zKK ST) (hb18 : sx_bit Wm 18 = true) (hT : zTJ none μ) (hbd : 1 ≤ bud.1 ∧ 25 ≤ bud.2.1) : zC D Wm ST b0 l Sg zM29 bud [(2, 94), (2, 18)] μ (fun st' μ' => st' = [] ∧ zTJ none μ' ∧ μ' = pm_cpy μ 18 94 64) := by
  refine pm_blk hK zmm29 [] 8 8 [(2, 94), (2, 18)] [(0, 64), (0, 64), (0, 0), (2, 18), (0, 0), (2, 94)] μ [] rfl trivial ?_
  refine pm_call hK zmm29 (427, 1, 30, 2) zM30 (0, 0) [(0, 64), (0, 64)] [(0, 0), (2, 18), (0, 0), (2, 94)] rfl rfl rfl rfl ⟨by omega, by rw [zn30]; omega⟩ (zk_min hK ⟨Nat.le_refl _, Nat.le_refl _⟩) (fun st1 μc1 hp1 => ?_)
  obtain ⟨rfl, rfl⟩ := hp1
  refine zp_acw hK zmm29 (idx := 432) (r := 18) (r' := 94) (n := 64) (g := zG18) (g' := zG94) (t := (0, -1, 999)) (t' := (0, -1, 999)) (List.mem_of_getElem? (i := 0) rfl) rfl rfl rfl ⟨rfl, rfl, rfl, rfl⟩ ⟨rfl, rfl, rfl⟩ hb18 ⟨by omega, by have h9 : pm_cs [] = 0 := rfl; omega⟩ (by decide) ?_
  exact pm_vret rfl rfl ⟨rfl, zTJ_cpy hT (t := (0, -1, 999)) (g := zG18) (g' := zG94) rfl rfl (by decide) ⟨by decide, rfl⟩ ⟨by decide, rfl, rfl⟩ rfl rfl, rfl⟩
set_option maxRecDepth 100000 in
theorem zx_cp17b (hK : zKK ST) (hb19 : sx_bit Wm 19 = true) (hT : zTJ none μ) (hbd : 1 ≤ bud.1 ∧ 25 ≤ bud.2.1) : zC D Wm ST b0 l Sg zM29 bud [(2, 95), (2, 19)] μ (fun st' μ' => st' = [] ∧ zTJ none μ' ∧ μ' = pm_cpy μ 19 95 400) := by
  refine pm_blk hK zmm29 [] 8 8 [(2, 95), (2, 19)] [(0, 400), (0, 400), (0, 0), (2, 19), (0, 0), (2, 95)] μ [] rfl trivial ?_
  refine pm_call hK zmm29 (427, 1, 30, 2) zM30 (0, 0) [(0, 400), (0, 400)] [(0, 0), (2, 19), (0, 0), (2, 95)] rfl rfl rfl rfl ⟨by omega, by rw [zn30]; omega⟩ (zk_min hK ⟨Nat.le_refl _, Nat.le_refl _⟩) (fun st1 μc1 hp1 => ?_)
  obtain ⟨rfl, rfl⟩ := hp1
  refine zp_acw hK zmm29 (idx := 432) (r := 19) (r' := 95) (n := 400) (g := zG19) (g' := zG95) (t := (0, -853248, 3679637)) (t' := (0, -853248, 3679637)) (List.mem_of_getElem? (i := 0) rfl) rfl rfl rfl ⟨rfl, rfl, rfl, rfl⟩ ⟨rfl, rfl, rfl⟩ hb19 ⟨by omega, by have h9 : pm_cs [] = 0 := rfl; omega⟩ (by decide) ?_
  exact pm_vret rfl rfl ⟨rfl, zTJ_cpy hT (t := (0, -853248, 3679637)) (g := zG19) (g' := zG95) rfl rfl (by decide) ⟨by decide, rfl⟩ ⟨by decide, rfl, rfl⟩ rfl rfl, rfl⟩
set_option maxRecDepth 100000 in
theorem zx_cp17 (hK : zKK ST) (hT : zTJ none μ) (hb17 : sx_bit Wm 17 = true) (hb18 : sx_bit Wm 18 = true) (hb19 : sx_bit Wm 19 = true) (hbd : 2 ≤ bud.1 ∧ 46 ≤ bud.2.1) : zC D Wm ST b0 l Sg zM54 bud [(2, 17), (2, 93)] μ (fun st' μ' => st' = [] ∧ zTJ none μ' ∧ (∀ q, q ≠ 17 → q ≠ 18 → q ≠ 19 → μ' q = μ q) ∧ (∀ i : Int, 0 ≤ i → i < 64 → μ' 18 i = μ 94 i) ∧ (∀ i : Int, 0 ≤ i → i < 400 → μ' 19 i = μ 95 i) ∧ μ' 17 2 = μ 93 2 ∧ μ' 17 3 = μ 93 3) := by
  refine pm_blk hK zmm54 [] 4 8 [(2, 17), (2, 93)] [(2, 18), (2, 94)] μ [] rfl trivial ?_
  refine pm_call hK zmm54 (29, 1, 29, 2) zM29 (1, 25) [(2, 94), (2, 18)] [] rfl rfl rfl rfl ⟨by omega, by rw [zn29]; omega⟩ (zx_cp17a hK hb18 hT ⟨Nat.le_refl _, Nat.le_refl _⟩) (fun st1 μc1 hp1 => ?_)
  obtain ⟨rfl, hTc1, eQ1⟩ := hp1
  refine pm_blk hK zmm54 [] 4 19 [(2, 17), (2, 93)] [(2, 19), (2, 95)] μc1 [] rfl trivial ?_
  refine pm_call hK zmm54 (29, 1, 29, 2) zM29 (1, 25) [(2, 95), (2, 19)] [] rfl rfl rfl rfl ⟨by omega, by rw [zn29]; omega⟩ (zx_cp17b hK hb19 hTc1 ⟨Nat.le_refl _, Nat.le_refl _⟩) (fun st2 μc2 hp2 => ?_)
  obtain ⟨rfl, hTc2, eQ2⟩ := hp2
  have f1 := zT_get hTc2 zs93_2 (i := 2) (by omega) (by omega)
  refine pm_blk hK zmm54 [] 4 30 [(2, 17), (2, 93)] [] (pm_up μc2 17 2 (μc2 93 2)) [sx_bit Wm 17 = true] rfl ⟨hb17, trivial⟩ ?_
  obtain ⟨μ1, eμ1⟩ : ∃ μ', μ' = pm_up μc2 17 2 (μc2 93 2) := ⟨_, rfl⟩
  rw [← eμ1]
  have hTμ1 : zTJ none μ1 := by rw [eμ1]; exact zT_upn hTc2 zs17_2 rfl (i := 2) (by omega) (by omega) (by omega) (by omega)
  have g2 : μ1 93 3 = μc2 93 3 := by rw [eμ1, pm_up_off (by decide)]
  have f3 := zT_get hTμ1 zs93_3 (i := 3) (by omega) (by omega)
  refine pm_blk hK zmm54 [] 4 38 [(2, 17), (2, 93)] [] (pm_up μ1 17 3 (μ1 93 3)) [sx_bit Wm 17 = true] rfl ⟨hb17, trivial⟩ ?_
  obtain ⟨μ2, eμ2⟩ : ∃ μ', μ' = pm_up μ1 17 3 (μ1 93 3) := ⟨_, rfl⟩
  rw [← eμ2]
  have hTμ2 : zTJ none μ2 := by rw [eμ2]; exact zT_upn hTμ1 zs17_3 rfl (i := 3) (by omega) (by omega) (by omega) (by omega)
  exact pm_vret rfl rfl ⟨rfl, hTμ2, fun q a b c => by rw [eμ2, pm_up_row a, eμ1, pm_up_row a, eQ2, pm_cpy_row c, eQ1, pm_cpy_row b], fun i i0 i1 => by rw [eμ2, pm_up_row (by decide), eμ1, pm_up_row (by decide), eQ2, pm_cpy_row (by decide), eQ1, pm_cpy_at i0 i1], fun i i0 i1 => by rw [eμ2, pm_up_row (by decide), eμ1, pm_up_row (by decide), eQ2, pm_cpy_at i0 i1, eQ1, pm_cpy_row (by decide)], by rw [eμ2, pm_up_ne (by decide), eμ1, pm_up_eq, eQ2, pm_cpy_row (by decide), eQ1, pm_cpy_row (by decide)], by rw [eμ2, pm_up_eq, eμ1, pm_up_off (by decide), eQ2, pm_cpy_row (by decide), eQ1, pm_cpy_row (by decide)]⟩
set_option maxRecDepth 100000 in
theorem zx_text0 (hK : zKK ST) {aW aS : Nat} (hTX : zSTt ST aW aS) (hT : zTJ none μ) (hb88 : sx_bit Wm 88 = true) (hb90 : sx_bit Wm 90 = true) (hb91 : sx_bit Wm 91 = true) (hb92 : sx_bit Wm 92 = true) (hb93 : sx_bit Wm 93 = true) (hb94 : sx_bit Wm 94 = true) (hb95 : sx_bit Wm 95 = true) (hb17 : sx_bit Wm 17 = true) (hb18 : sx_bit Wm 18 = true) (hb19 : sx_bit Wm 19 = true) (hbd : 31 ≤ bud.1 ∧ 725 ≤ bud.2.1) : zC D Wm ST b0 l Sg zM46 bud [(2, 1), (0, 0)] μ (fun st' μ' => ∃ x, st' = [(0, x)] ∧ zTJ none μ' ∧ zTfF zLw (fun K V J m t => zCeL K V J (m 18) (m 19) t) 17 0 μ x μ') := by
  refine pm_blk hK zmm46 [] 3 5 [(2, 1), (0, 0), (9, 0)] [(0, 0), (2, 2)] μ [] rfl trivial ?_
  refine pm_call hK zmm46 (176, 0, 47, 1) zM47 (0, 0) [(2, 2), (0, 0)] [] rfl rfl rfl rfl ⟨by omega, by rw [zn47]; omega⟩ (zx_tof0 hK) (fun st1 μc1 hp1 => ?_)
  obtain ⟨rfl, rfl⟩ := hp1
  refine pm_blk hK zmm46 [] 2 10 [(2, 1), (0, 0), (2, 17)] [(2, 17)] μ [] rfl trivial ?_
  refine zp_ifnn_TT hK zmm46 (off := 12) (tgt := 22) rfl (by decide) ?_
  refine pm_blk hK zmm46 [] 6 34 [(2, 1), (0, 0), (2, 17)] [(2, 3), (0, 0), (2, 88)] μ [] rfl trivial ?_
  refine pm_call hK zmm46 (183, 0, 49, 2) zM49 (30, 700) [(2, 88), (0, 0), (2, 3)] [] rfl rfl rfl rfl ⟨by omega, by rw [zn49]; omega⟩ (zg_reads0 hK hTX hT hb88 hb90 hb91 hb92 hb93 hb94 hb95 ⟨Nat.le_refl _, Nat.le_refl _⟩) (fun st2 μc2 hp2 => ?_)
  obtain ⟨y2, rfl, hTc2, hRf2⟩ := hp2
  have hRf := hRf2
  have f93 := zT_get hTc2 zs93_3 (i := 3) (by omega) (by omega)
  refine pm_if hK zmm46 .ne 5 42 rfl rfl (fun h0 => ?_) (fun h0 => ?_)
  · have h0 : y2 ≠ (0 : Int) := h0
    refine pm_blk hK zmm46 [] 4 50 [(2, 1), (0, 0), (2, 17)] [(2, 93), (2, 17)] μc2 [] rfl trivial ?_
    refine pm_call hK zmm46 (191, 0, 54, 1) zM54 (2, 46) [(2, 17), (2, 93)] [] rfl rfl rfl rfl ⟨by omega, by rw [zn54]; omega⟩ (zx_cp17 hK hTc2 hb17 hb18 hb19 ⟨Nat.le_refl _, Nat.le_refl _⟩) (fun st3 μc3 hp3 => ?_)
    obtain ⟨rfl, hTc3, q1, q2, q3, q4, q5⟩ := hp3
    refine pm_blk hK zmm46 [] 2 55 [(2, 1), (0, 0), (2, 17)] [(0, 1), (0, 0)] μc3 [] rfl trivial ?_
    refine pm_icmp hK zmm46 .eq 8 63 rfl rfl (fun h1 => ?_) (fun h1 => ?_)
    · have h1 : (0 : Int) = (1 : Int) := h1
      exact absurd h1 (by decide)
    · have h1 : (0 : Int) ≠ (1 : Int) := h1
      refine pm_blk hK zmm46 [] 2 60 [(2, 1), (0, 0), (2, 17)] [(0, 2), (0, 0)] μc3 [] rfl trivial ?_
      refine pm_icmp hK zmm46 .ne 10 70 rfl rfl (fun h2 => ?_) (fun h2 => ?_)
      · have h2 : (0 : Int) ≠ (2 : Int) := h2
        have f1 := zT_get hTc3 zs17_2 (i := 2) (by omega) (by omega)
        refine pm_blk hK zmm46 [] 2 74 [(2, 1), (0, 0), (2, 17)] [(0, μc3 17 2)] μc3 [] rfl trivial ?_
        exact pm_iret rfl rfl ⟨_, rfl, hTc3, zTfFu_y hRf (by omega) (by decide) (fun ht h => zCeL_of h ht f93.2 q2 q3) (fun q a b c d => q1 q a b c) (fun k _ => by rw [q1 96 (by decide) (by decide) (by decide)]) (by rw [if_neg (by decide), q1 96 (by decide) (by decide) (by decide)]) q4 rfl⟩
      · have h2 : (0 : Int) = (2 : Int) := h2
        exact absurd h2 (by decide)
  · have h0 : y2 = (0 : Int) := h0
    refine pm_blk hK zmm46 [] 1 41 [(2, 1), (0, 0), (2, 17)] [(0, (-1))] μc2 [] rfl trivial ?_
    exact pm_iret rfl rfl ⟨_, rfl, hTc2, zTfFu_n hRf (by omega) (by decide)⟩
set_option maxRecDepth 100000 in
theorem zx_tofn (hK : zKK ST) {k : Int} (hk : k < 0 ∨ 3 < k) : zC D Wm ST b0 l Sg zM47 bud [(2, 2), (0, k)] μ (fun st' μ' => μ = μ' ∧ st' = [(3, 0)]) := by
  refine pm_blk hK zmm47 [] 1 1 [(2, 2), (0, k)] [(0, k)] μ [] rfl trivial ?_
  refine zp_tout_TT hK zmm47 (tgt := 52) rfl hk (by decide) ?_
  refine zp_null_TT hK zmm47 rfl ?_
  exact pm_aretn rfl ⟨_, rfl⟩ ⟨rfl, rfl⟩
set_option maxRecDepth 100000 in
theorem zx_textn (hK : zKK ST) {k : Int} (hk : k < 0 ∨ 3 < k) (hT : zTJ none μ) (hb88 : sx_bit Wm 88 = true) (hbd : 1 ≤ bud.1 ∧ 40 ≤ bud.2.1) : zC D Wm ST b0 l Sg zM46 bud [(2, 1), (0, k)] μ (fun st' μ' => ∃ x, st' = [(0, x)] ∧ zTJ none μ' ∧ zTxF k μ x μ') := by
  refine pm_blk hK zmm46 [] 3 5 [(2, 1), (0, k), (9, 0)] [(0, k), (2, 2)] μ [] rfl trivial ?_
  refine pm_call hK zmm46 (176, 0, 47, 1) zM47 (0, 0) [(2, 2), (0, k)] [] rfl rfl rfl rfl ⟨by omega, by rw [zn47]; omega⟩ (zx_tofn hK hk) (fun st1 μc1 hp1 => ?_)
  obtain ⟨rfl, rfl⟩ := hp1
  refine zp_nul3_TT hK zmm46 rfl rfl rfl (Nat.le_of_ble_eq_true rfl) rfl ?_
  refine pm_blk hK zmm46 [] 2 17 [(2, 1), (0, k), (3, 0)] [(2, 88)] μ [] rfl trivial ?_
  refine pm_call hK zmm46 (180, 0, 48, 0) zM48 (0, 0) [(2, 88)] [] rfl rfl rfl rfl ⟨by omega, by rw [zn48]; omega⟩ (zg_drop hK hT hb88 ⟨Nat.le_refl _, Nat.le_refl _⟩) (fun st2 μc2 hp2 => ?_)
  obtain ⟨rfl, hTc2, eD⟩ := hp2
  refine pm_blk hK zmm46 [] 1 21 [(2, 1), (0, k), (3, 0)] [(0, (-1))] μc2 [] rfl trivial ?_
  exact pm_iret rfl rfl ⟨_, rfl, hTc2, by rw [eD, pm_up_ne (by decide), pm_up_ne (by decide), pm_up_eq], fun q _ b => by rw [eD, pm_up_row (by omega), pm_up_row (by omega), pm_up_row (by omega)], fun c _ => by rw [eD, pm_up_row (by decide), pm_up_row (by decide), pm_up_row (by decide)], Or.inl ⟨hk, rfl, by rw [eD, pm_up_ne (by decide), pm_up_eq], by rw [eD, pm_up_eq], by rw [eD, pm_up_row (by decide), pm_up_row (by decide), pm_up_row (by decide)]⟩⟩
theorem zx_textc (hK : zKK ST) {aW aS : Nat} (hTX : zSTt ST aW aS) {k : Int} (hT : zTJ none μ) (hb88 : sx_bit Wm 88 = true) (hb90 : sx_bit Wm 90 = true) (hb91 : sx_bit Wm 91 = true) (hb92 : sx_bit Wm 92 = true) (hb93 : sx_bit Wm 93 = true) (hb94 : sx_bit Wm 94 = true) (hb95 : sx_bit Wm 95 = true) (hb96 : sx_bit Wm 96 = true) (hb17 : sx_bit Wm 17 = true) (hb18 : sx_bit Wm 18 = true) (hb19 : sx_bit Wm 19 = true) (hb20 : sx_bit Wm 20 = true) (hb21 : sx_bit Wm 21 = true) (hb22 : sx_bit Wm 22 = true) (hb23 : sx_bit Wm 23 = true) (hb24 : sx_bit Wm 24 = true) (hb25 : sx_bit Wm 25 = true) (hb26 : sx_bit Wm 26 = true) (hb27 : sx_bit Wm 27 = true) (hb28 : sx_bit Wm 28 = true) (hbd : 31 ≤ bud.1 ∧ 725 ≤ bud.2.1) : zC D Wm ST b0 l Sg zM46 bud [(2, 1), (0, k)] μ (fun st' μ' => ∃ x, st' = [(0, x)] ∧ zTJ none μ' ∧ zTxF k μ x μ') := by
  by_cases hk : k < 0 ∨ 3 < k
  · exact zx_textn hK hk hT hb88 ⟨by omega, by omega⟩
  · have hh : k = 0 ∨ k = 1 ∨ k = 2 ∨ k = 3 := by omega
    rcases hh with rfl | rfl | rfl | rfl
    · exact zC_mono (zx_text0 hK hTX hT hb88 hb90 hb91 hb92 hb93 hb94 hb95 hb17 hb18 hb19 ⟨by omega, by omega⟩) (fun st' μ' h => by obtain ⟨x, h1, h2, h3⟩ := h; exact ⟨x, h1, h2, zTxF_of h3 (fun K V => zLk_0.symm) ⟨by decide, by decide⟩ (by decide) (Or.inr ⟨by decide, by decide⟩) (fun K V J t h h' => ⟨fun _ => ⟨h, h'⟩, fun h => absurd h (by decide), fun h => absurd h (by decide), fun h => absurd h (by decide)⟩)⟩)
    · exact zC_mono (zx_text1 hK hTX hT hb88 hb90 hb91 hb92 hb93 hb94 hb20 hb21 hb22 hb96 ⟨by omega, by omega⟩) (fun st' μ' h => by obtain ⟨x, h1, h2, h3⟩ := h; exact ⟨x, h1, h2, zTxF_of h3 (fun K V => zLk_1.symm) ⟨by decide, by decide⟩ (by decide) (Or.inl ⟨rfl, by decide⟩) (fun K V J t h h' => ⟨fun h => absurd h (by decide), fun _ => ⟨h, h'⟩, fun h => absurd h (by decide), fun h => absurd h (by decide)⟩)⟩)
    · exact zC_mono (zx_text2 hK hTX hT hb88 hb90 hb91 hb92 hb93 hb94 hb23 hb24 hb25 hb96 ⟨by omega, by omega⟩) (fun st' μ' h => by obtain ⟨x, h1, h2, h3⟩ := h; exact ⟨x, h1, h2, zTxF_of h3 (fun K V => zLk_2.symm) ⟨by decide, by decide⟩ (by decide) (Or.inl ⟨rfl, by decide⟩) (fun K V J t h h' => ⟨fun h => absurd h (by decide), fun h => absurd h (by decide), fun _ => ⟨h, h'⟩, fun h => absurd h (by decide)⟩)⟩)
    · exact zC_mono (zx_text3 hK hTX hT hb88 hb90 hb91 hb92 hb93 hb94 hb26 hb27 hb28 hb96 ⟨by omega, by omega⟩) (fun st' μ' h => by obtain ⟨x, h1, h2, h3⟩ := h; exact ⟨x, h1, h2, zTxF_of h3 (fun K V => zLk_3.symm) ⟨by decide, by decide⟩ (by decide) (Or.inr ⟨by decide, by decide⟩) (fun K V J t h h' => ⟨fun h => absurd h (by decide), fun h => absurd h (by decide), fun h => absurd h (by decide), fun _ => ⟨h, h'⟩⟩)⟩)
end ZHW
