/-! counts: a text of the class; walks printed by program (wip/p30/pmgen.py) and filled by hand -/
section ZHW
variable {φ : Option pm_Mem}
variable {D : va_G} {Wm : Nat} {ST : List (String × String × String × Nat)} {b0 : sx_B} {l : Launch} {Sg : Nat → Option Nat} {bud : sx_Bu} {μ : pm_Mem} {B0 : Nat → Prop} {J : (Nat → Option Nat) → Heap → Prop}
set_option maxRecDepth 100000 in
theorem zh_tof0 (hK : zKK ST) : zC D Wm ST b0 l Sg zM47 bud [(2, 2), (0, 0)] μ (fun st' μ' => μ = μ' ∧ st' = [(2, 17)]) := by
  refine pm_blk hK zmm47 [] 1 1 [(2, 2), (0, 0)] [(0, 0)] μ [] rfl trivial ?_
  refine zp_tin hK zmm47 (off := 31) (tgt := 32) rfl (by decide) (by decide) rfl (by decide) ?_
  refine pm_blk hK zmm47 [] 2 36 [(2, 2), (0, 0)] [(2, 17)] μ [] rfl trivial ?_
  exact pm_aret rfl ⟨_, rfl⟩ ⟨rfl, rfl⟩
set_option maxRecDepth 100000 in
theorem zh_tof1 (hK : zKK ST) : zC D Wm ST b0 l Sg zM47 bud [(2, 2), (0, 1)] μ (fun st' μ' => μ = μ' ∧ st' = [(2, 20)]) := by
  refine pm_blk hK zmm47 [] 1 1 [(2, 2), (0, 1)] [(0, 1)] μ [] rfl trivial ?_
  refine zp_tin hK zmm47 (off := 36) (tgt := 37) rfl (by decide) (by decide) rfl (by decide) ?_
  refine pm_blk hK zmm47 [] 2 41 [(2, 2), (0, 1)] [(2, 20)] μ [] rfl trivial ?_
  exact pm_aret rfl ⟨_, rfl⟩ ⟨rfl, rfl⟩
set_option maxRecDepth 100000 in
theorem zh_tof2 (hK : zKK ST) : zC D Wm ST b0 l Sg zM47 bud [(2, 2), (0, 2)] μ (fun st' μ' => μ = μ' ∧ st' = [(2, 23)]) := by
  refine pm_blk hK zmm47 [] 1 1 [(2, 2), (0, 2)] [(0, 2)] μ [] rfl trivial ?_
  refine zp_tin hK zmm47 (off := 41) (tgt := 42) rfl (by decide) (by decide) rfl (by decide) ?_
  refine pm_blk hK zmm47 [] 2 46 [(2, 2), (0, 2)] [(2, 23)] μ [] rfl trivial ?_
  exact pm_aret rfl ⟨_, rfl⟩ ⟨rfl, rfl⟩
set_option maxRecDepth 100000 in
theorem zh_tof3 (hK : zKK ST) : zC D Wm ST b0 l Sg zM47 bud [(2, 2), (0, 3)] μ (fun st' μ' => μ = μ' ∧ st' = [(2, 26)]) := by
  refine pm_blk hK zmm47 [] 1 1 [(2, 2), (0, 3)] [(0, 3)] μ [] rfl trivial ?_
  refine zp_tin hK zmm47 (off := 46) (tgt := 47) rfl (by decide) (by decide) rfl (by decide) ?_
  refine pm_blk hK zmm47 [] 2 51 [(2, 2), (0, 3)] [(2, 26)] μ [] rfl trivial ?_
  exact pm_aret rfl ⟨_, rfl⟩ ⟨rfl, rfl⟩
set_option maxRecDepth 100000 in
theorem zh_tofn (hK : zKK ST) {k : Int} (hk : k < 0 ∨ 3 < k) : zC D Wm ST b0 l Sg zM47 bud [(2, 2), (0, k)] μ (fun st' μ' => μ = μ' ∧ st' = [(3, 0)]) := by
  refine pm_blk hK zmm47 [] 1 1 [(2, 2), (0, k)] [(0, k)] μ [] rfl trivial ?_
  refine zp_tout hK zmm47 (tgt := 52) rfl hk (by decide) ?_
  refine zp_null hK zmm47 rfl ?_
  exact pm_aretn rfl ⟨_, rfl⟩ ⟨rfl, rfl⟩
set_option maxRecDepth 100000 in
theorem zh_dropk (hK : zKK ST) (hT : zTJ φ μ) (hb88 : sx_bit Wm 88 = true) (hbd : 0 ≤ bud.1 ∧ 0 ≤ bud.2.1) : zC D Wm ST b0 l Sg zM48 bud [(2, 88)] μ (fun st' μ' => st' = [] ∧ zTJ φ μ' ∧ zKC μ μ') := by
  have hA : zKC μ μ := zKC_refl
  refine pm_blk hK zmm48 [] 3 5 [(2, 88)] [] (pm_up μ 88 1 0) [sx_bit Wm 88 = true] rfl ⟨hb88, trivial⟩ ?_
  obtain ⟨μ1, eμ1⟩ : ∃ μ', μ' = pm_up μ 88 1 0 := ⟨_, rfl⟩
  rw [← eμ1]
  have hTμ1 : zTJ φ μ1 := by rw [eμ1]; exact zT_up hT zs88_1 rfl (i := 1) (by omega) (by omega) (by omega) (by omega)
  have hA : zKC μ μ1 := by rw [eμ1]; exact zKC_up hA (by decide)
  refine pm_blk hK zmm48 [] 3 10 [(2, 88)] [] (pm_up μ1 88 2 0) [sx_bit Wm 88 = true] rfl ⟨hb88, trivial⟩ ?_
  obtain ⟨μ2, eμ2⟩ : ∃ μ', μ' = pm_up μ1 88 2 0 := ⟨_, rfl⟩
  rw [← eμ2]
  have hTμ2 : zTJ φ μ2 := by rw [eμ2]; exact zT_up hTμ1 zs88_2 rfl (i := 2) (by omega) (by omega) (by omega) (by omega)
  have hA : zKC μ μ2 := by rw [eμ2]; exact zKC_up hA (by decide)
  refine pm_blk hK zmm48 [] 3 15 [(2, 88)] [] (pm_up μ2 88 3 ((-1))) [sx_bit Wm 88 = true] rfl ⟨hb88, trivial⟩ ?_
  obtain ⟨μ3, eμ3⟩ : ∃ μ', μ' = pm_up μ2 88 3 ((-1)) := ⟨_, rfl⟩
  rw [← eμ3]
  have hTμ3 : zTJ φ μ3 := by rw [eμ3]; exact zT_up hTμ2 zs88_3 rfl (i := 3) (by omega) (by omega) (by omega) (by omega)
  have hA : zKC μ μ3 := by rw [eμ3]; exact zKC_up hA (by decide)
  exact pm_vret rfl rfl ⟨rfl, hTμ3, hA⟩
set_option maxRecDepth 100000 in
theorem zh_txk0 (hK : zKK ST) (hw : sx_Wd zNR zRT2 B0 Sg) (hC320 : zCK φ D ST B0 l Sg zC320) (hs320 : sx_subm zC320.2.2.2.2.2 Wm = true) (hC321 : zCK φ D ST B0 l Sg zC321) (hs321 : sx_subm zC321.2.2.2.2.2 Wm = true) (hT : zTJ φ μ) (hb96 : sx_bit Wm 96 = true) (hbd : 71 ≤ bud.1 ∧ 1575 ≤ bud.2.1) : zC D Wm ST (sx_bW zRT2 Wm B0 Sg, J) l Sg zM46 bud [(2, 1), (0, 0)] μ (fun st' μ' => (∃ x, st' = [(0, x)]) ∧ zTJ φ μ' ∧ zKC μ μ') := by
  have hA : zKC μ μ := zKC_refl
  refine pm_blk hK zmm46 [] 3 5 [(2, 1), (0, 0), (9, 0)] [(0, 0), (2, 2)] μ [] rfl trivial ?_
  refine pm_call hK zmm46 (176, 0, 47, 1) zM47 (0, 0) [(2, 2), (0, 0)] [] rfl rfl rfl rfl ⟨by omega, by rw [zn47]; omega⟩ (zh_tof0 hK) (fun st1 μc1 hp1 => ?_)
  obtain ⟨rfl, rfl⟩ := hp1
  refine pm_blk hK zmm46 [] 2 10 [(2, 1), (0, 0), (2, 17)] [(2, 17)] μ [] rfl trivial ?_
  refine zp_ifnn hK zmm46 (off := 12) (tgt := 22) rfl (by decide) ?_
  refine pm_blk hK zmm46 [] 6 34 [(2, 1), (0, 0), (2, 17)] [(2, 3), (0, 0), (2, 88)] μ [] rfl trivial ?_
  refine pm_ccall hK zmm46 hC320 hw zGm_lt zJ_loc (183, 0, 49, 2) zM49 [(2, 88), (0, 0), (2, 3)] [] rfl rfl rfl rfl rfl ⟨by have e : zC320.2.2.2.1 = 70 := rfl; omega, by have e : zC320.2.2.2.2.1 = 1545 := rfl; rw [zn49]; omega⟩ hs320 rfl (fun t ht => by cases ht; rfl) ⟨rfl, fun h => absurd h (by decide), fun _ => rfl, rfl, fun _ => ⟨by decide, by decide⟩, fun h => absurd h (by decide), rfl, fun h => absurd h (by decide), fun _ => rfl, trivial⟩ (zTy_T hw hT.1) hT.2 (fun st2 μc2 hp2 hTt2 hJ2 hfr2 => ?_)
  obtain ⟨x2, rfl, hx2, hy2⟩ := hp2
  have hTc2 : zTJ φ μc2 := ⟨zTy_of hw hTt2, hJ2⟩
  have hA := zKC_of hA (zRq_fr hfr2 (by decide +kernel))
  refine pm_if hK zmm46 .ne 5 42 rfl rfl (fun h0 => ?_) (fun h0 => ?_)
  · have h0 : x2 ≠ (0 : Int) := h0
    refine pm_blk hK zmm46 [] 4 50 [(2, 1), (0, 0), (2, 17)] [(2, 93), (2, 17)] μc2 [] rfl trivial ?_
    refine pm_ccall hK zmm46 hC321 hw zGm_lt zJ_loc (191, 0, 54, 1) zM54 [(2, 17), (2, 93)] [] rfl rfl rfl rfl rfl ⟨by have e : zC321.2.2.2.1 = 2 := rfl; omega, by have e : zC321.2.2.2.2.1 = 101 := rfl; rw [zn54]; omega⟩ hs321 rfl (fun t ht => by cases ht) ⟨rfl, fun h => absurd h (by decide), fun _ => rfl, rfl, fun h => absurd h (by decide), fun _ => rfl, trivial⟩ (zTy_T hw hTc2.1) hTc2.2 (fun st3 μc3 hp3 hTt3 hJ3 hfr3 => ?_)
    obtain rfl := hp3
    have hTc3 : zTJ φ μc3 := ⟨zTy_of hw hTt3, hJ3⟩
    have hA := zKC_of hA (zRq_fr hfr3 (by decide +kernel))
    refine pm_blk hK zmm46 [] 2 55 [(2, 1), (0, 0), (2, 17)] [(0, 1), (0, 0)] μc3 [] rfl trivial ?_
    refine pm_icmp hK zmm46 .eq 8 63 rfl rfl (fun h1 => ?_) (fun h1 => ?_)
    · have h1 : (0 : Int) = (1 : Int) := h1
      exact absurd h1 (by decide)
    · have h1 : (0 : Int) ≠ (1 : Int) := h1
      refine pm_blk hK zmm46 [] 2 60 [(2, 1), (0, 0), (2, 17)] [(0, 2), (0, 0)] μc3 [] rfl trivial ?_
      refine pm_icmp hK zmm46 .ne 10 70 rfl rfl (fun h2 => ?_) (fun h2 => ?_)
      · have h2 : (0 : Int) ≠ (2 : Int) := h2
        have f1 := zT_get hTc3 zs17_2 (i := 2) (by omega) (by omega)
        refine pm_blk hK zmm46 [] 2 74 [(2, 1), (0, 0), (2, 17)] [(0, μc3 17 2)] μc3 [] rfl trivial ?_
        exact pm_iret rfl rfl ⟨⟨_, rfl⟩, hTc3, hA⟩
      · have h2 : (0 : Int) = (2 : Int) := h2
        exact absurd h2 (by decide)
  · have h0 : x2 = (0 : Int) := h0
    refine pm_blk hK zmm46 [] 1 41 [(2, 1), (0, 0), (2, 17)] [(0, (-1))] μc2 [] rfl trivial ?_
    exact pm_iret rfl rfl ⟨⟨_, rfl⟩, hTc2, hA⟩
set_option maxRecDepth 100000 in
theorem zh_txk1 (hK : zKK ST) (hw : sx_Wd zNR zRT2 B0 Sg) (hC320 : zCK φ D ST B0 l Sg zC320) (hs320 : sx_subm zC320.2.2.2.2.2 Wm = true) (hC322 : zCK φ D ST B0 l Sg zC322) (hs322 : sx_subm zC322.2.2.2.2.2 Wm = true) (hT : zTJ φ μ) (hb96 : sx_bit Wm 96 = true) (hbd : 71 ≤ bud.1 ∧ 1575 ≤ bud.2.1) : zC D Wm ST (sx_bW zRT2 Wm B0 Sg, J) l Sg zM46 bud [(2, 1), (0, 1)] μ (fun st' μ' => (∃ x, st' = [(0, x)]) ∧ zTJ φ μ' ∧ zKC μ μ') := by
  have hA : zKC μ μ := zKC_refl
  refine pm_blk hK zmm46 [] 3 5 [(2, 1), (0, 1), (9, 0)] [(0, 1), (2, 2)] μ [] rfl trivial ?_
  refine pm_call hK zmm46 (176, 0, 47, 1) zM47 (0, 0) [(2, 2), (0, 1)] [] rfl rfl rfl rfl ⟨by omega, by rw [zn47]; omega⟩ (zh_tof1 hK) (fun st1 μc1 hp1 => ?_)
  obtain ⟨rfl, rfl⟩ := hp1
  refine pm_blk hK zmm46 [] 2 10 [(2, 1), (0, 1), (2, 20)] [(2, 20)] μ [] rfl trivial ?_
  refine zp_ifnn hK zmm46 (off := 12) (tgt := 22) rfl (by decide) ?_
  refine pm_blk hK zmm46 [] 6 34 [(2, 1), (0, 1), (2, 20)] [(2, 3), (0, 1), (2, 88)] μ [] rfl trivial ?_
  refine pm_ccall hK zmm46 hC320 hw zGm_lt zJ_loc (183, 0, 49, 2) zM49 [(2, 88), (0, 1), (2, 3)] [] rfl rfl rfl rfl rfl ⟨by have e : zC320.2.2.2.1 = 70 := rfl; omega, by have e : zC320.2.2.2.2.1 = 1545 := rfl; rw [zn49]; omega⟩ hs320 rfl (fun t ht => by cases ht; rfl) ⟨rfl, fun h => absurd h (by decide), fun _ => rfl, rfl, fun _ => ⟨by decide, by decide⟩, fun h => absurd h (by decide), rfl, fun h => absurd h (by decide), fun _ => rfl, trivial⟩ (zTy_T hw hT.1) hT.2 (fun st2 μc2 hp2 hTt2 hJ2 hfr2 => ?_)
  obtain ⟨x2, rfl, hx2, hy2⟩ := hp2
  have hTc2 : zTJ φ μc2 := ⟨zTy_of hw hTt2, hJ2⟩
  have hA := zKC_of hA (zRq_fr hfr2 (by decide +kernel))
  refine pm_if hK zmm46 .ne 5 42 rfl rfl (fun h0 => ?_) (fun h0 => ?_)
  · have h0 : x2 ≠ (0 : Int) := h0
    refine pm_blk hK zmm46 [] 4 50 [(2, 1), (0, 1), (2, 20)] [(2, 93), (2, 20)] μc2 [] rfl trivial ?_
    refine pm_ccall hK zmm46 hC322 hw zGm_lt zJ_loc (191, 0, 54, 1) zM54 [(2, 20), (2, 93)] [] rfl rfl rfl rfl rfl ⟨by have e : zC322.2.2.2.1 = 2 := rfl; omega, by have e : zC322.2.2.2.2.1 = 101 := rfl; rw [zn54]; omega⟩ hs322 rfl (fun t ht => by cases ht) ⟨rfl, fun h => absurd h (by decide), fun _ => rfl, rfl, fun h => absurd h (by decide), fun _ => rfl, trivial⟩ (zTy_T hw hTc2.1) hTc2.2 (fun st3 μc3 hp3 hTt3 hJ3 hfr3 => ?_)
    obtain rfl := hp3
    have hTc3 : zTJ φ μc3 := ⟨zTy_of hw hTt3, hJ3⟩
    have hA := zKC_of hA (zRq_fr hfr3 (by decide +kernel))
    refine pm_blk hK zmm46 [] 2 55 [(2, 1), (0, 1), (2, 20)] [(0, 1), (0, 1)] μc3 [] rfl trivial ?_
    refine pm_icmp hK zmm46 .eq 8 63 rfl rfl (fun h1 => ?_) (fun h1 => ?_)
    · have h1 : (1 : Int) = (1 : Int) := h1
      refine pm_blk hK zmm46 [] 2 67 [(2, 1), (0, 1), (2, 20)] [(2, 96)] μc3 [] rfl trivial ?_
      refine pm_call hK zmm46 (91, 0, 14, 0) zM14 (0, 0) [(2, 96)] [] rfl rfl rfl rfl ⟨by omega, by rw [zn14]; omega⟩ (zh_forgetk hK hTc3 hb96 ⟨Nat.le_refl _, Nat.le_refl _⟩) (fun st4 μc4 hp4 => ?_)
      obtain ⟨rfl, hTc4, ef4⟩ := hp4
      have ef := ef4
      have f1 := zT_get hTc4 zs20_2 (i := 2) (by omega) (by omega)
      refine pm_blk hK zmm46 [] 2 74 [(2, 1), (0, 1), (2, 20)] [(0, μc4 20 2)] μc4 [] rfl trivial ?_
      first
      | exact pm_iret rfl rfl ⟨⟨_, rfl⟩, hTc4, zKC_forget hA.1 ef⟩
      | exact pm_iret rfl rfl ⟨⟨_, rfl⟩, hTc4, hA⟩
    · have h1 : (1 : Int) ≠ (1 : Int) := h1
      exact absurd h1 (by decide)
  · have h0 : x2 = (0 : Int) := h0
    refine pm_blk hK zmm46 [] 1 41 [(2, 1), (0, 1), (2, 20)] [(0, (-1))] μc2 [] rfl trivial ?_
    exact pm_iret rfl rfl ⟨⟨_, rfl⟩, hTc2, hA⟩
set_option maxRecDepth 100000 in
theorem zh_txk2 (hK : zKK ST) (hw : sx_Wd zNR zRT2 B0 Sg) (hC320 : zCK φ D ST B0 l Sg zC320) (hs320 : sx_subm zC320.2.2.2.2.2 Wm = true) (hC323 : zCK φ D ST B0 l Sg zC323) (hs323 : sx_subm zC323.2.2.2.2.2 Wm = true) (hT : zTJ φ μ) (hb96 : sx_bit Wm 96 = true) (hbd : 71 ≤ bud.1 ∧ 1575 ≤ bud.2.1) : zC D Wm ST (sx_bW zRT2 Wm B0 Sg, J) l Sg zM46 bud [(2, 1), (0, 2)] μ (fun st' μ' => (∃ x, st' = [(0, x)]) ∧ zTJ φ μ' ∧ zKC μ μ') := by
  have hA : zKC μ μ := zKC_refl
  refine pm_blk hK zmm46 [] 3 5 [(2, 1), (0, 2), (9, 0)] [(0, 2), (2, 2)] μ [] rfl trivial ?_
  refine pm_call hK zmm46 (176, 0, 47, 1) zM47 (0, 0) [(2, 2), (0, 2)] [] rfl rfl rfl rfl ⟨by omega, by rw [zn47]; omega⟩ (zh_tof2 hK) (fun st1 μc1 hp1 => ?_)
  obtain ⟨rfl, rfl⟩ := hp1
  refine pm_blk hK zmm46 [] 2 10 [(2, 1), (0, 2), (2, 23)] [(2, 23)] μ [] rfl trivial ?_
  refine zp_ifnn hK zmm46 (off := 12) (tgt := 22) rfl (by decide) ?_
  refine pm_blk hK zmm46 [] 6 34 [(2, 1), (0, 2), (2, 23)] [(2, 3), (0, 2), (2, 88)] μ [] rfl trivial ?_
  refine pm_ccall hK zmm46 hC320 hw zGm_lt zJ_loc (183, 0, 49, 2) zM49 [(2, 88), (0, 2), (2, 3)] [] rfl rfl rfl rfl rfl ⟨by have e : zC320.2.2.2.1 = 70 := rfl; omega, by have e : zC320.2.2.2.2.1 = 1545 := rfl; rw [zn49]; omega⟩ hs320 rfl (fun t ht => by cases ht; rfl) ⟨rfl, fun h => absurd h (by decide), fun _ => rfl, rfl, fun _ => ⟨by decide, by decide⟩, fun h => absurd h (by decide), rfl, fun h => absurd h (by decide), fun _ => rfl, trivial⟩ (zTy_T hw hT.1) hT.2 (fun st2 μc2 hp2 hTt2 hJ2 hfr2 => ?_)
  obtain ⟨x2, rfl, hx2, hy2⟩ := hp2
  have hTc2 : zTJ φ μc2 := ⟨zTy_of hw hTt2, hJ2⟩
  have hA := zKC_of hA (zRq_fr hfr2 (by decide +kernel))
  refine pm_if hK zmm46 .ne 5 42 rfl rfl (fun h0 => ?_) (fun h0 => ?_)
  · have h0 : x2 ≠ (0 : Int) := h0
    refine pm_blk hK zmm46 [] 4 50 [(2, 1), (0, 2), (2, 23)] [(2, 93), (2, 23)] μc2 [] rfl trivial ?_
    refine pm_ccall hK zmm46 hC323 hw zGm_lt zJ_loc (191, 0, 54, 1) zM54 [(2, 23), (2, 93)] [] rfl rfl rfl rfl rfl ⟨by have e : zC323.2.2.2.1 = 2 := rfl; omega, by have e : zC323.2.2.2.2.1 = 101 := rfl; rw [zn54]; omega⟩ hs323 rfl (fun t ht => by cases ht) ⟨rfl, fun h => absurd h (by decide), fun _ => rfl, rfl, fun h => absurd h (by decide), fun _ => rfl, trivial⟩ (zTy_T hw hTc2.1) hTc2.2 (fun st3 μc3 hp3 hTt3 hJ3 hfr3 => ?_)
    obtain rfl := hp3
    have hTc3 : zTJ φ μc3 := ⟨zTy_of hw hTt3, hJ3⟩
    have hA := zKC_of hA (zRq_fr hfr3 (by decide +kernel))
    refine pm_blk hK zmm46 [] 2 55 [(2, 1), (0, 2), (2, 23)] [(0, 1), (0, 2)] μc3 [] rfl trivial ?_
    refine pm_icmp hK zmm46 .eq 8 63 rfl rfl (fun h1 => ?_) (fun h1 => ?_)
    · have h1 : (2 : Int) = (1 : Int) := h1
      exact absurd h1 (by decide)
    · have h1 : (2 : Int) ≠ (1 : Int) := h1
      refine pm_blk hK zmm46 [] 2 60 [(2, 1), (0, 2), (2, 23)] [(0, 2), (0, 2)] μc3 [] rfl trivial ?_
      refine pm_icmp hK zmm46 .ne 10 70 rfl rfl (fun h2 => ?_) (fun h2 => ?_)
      · have h2 : (2 : Int) ≠ (2 : Int) := h2
        exact absurd h2 (by decide)
      · have h2 : (2 : Int) = (2 : Int) := h2
        refine pm_blk hK zmm46 [] 2 67 [(2, 1), (0, 2), (2, 23)] [(2, 96)] μc3 [] rfl trivial ?_
        refine pm_call hK zmm46 (91, 0, 14, 0) zM14 (0, 0) [(2, 96)] [] rfl rfl rfl rfl ⟨by omega, by rw [zn14]; omega⟩ (zh_forgetk hK hTc3 hb96 ⟨Nat.le_refl _, Nat.le_refl _⟩) (fun st4 μc4 hp4 => ?_)
        obtain ⟨rfl, hTc4, ef4⟩ := hp4
        have ef := ef4
        have f1 := zT_get hTc4 zs23_2 (i := 2) (by omega) (by omega)
        refine pm_blk hK zmm46 [] 2 74 [(2, 1), (0, 2), (2, 23)] [(0, μc4 23 2)] μc4 [] rfl trivial ?_
        first
        | exact pm_iret rfl rfl ⟨⟨_, rfl⟩, hTc4, zKC_forget hA.1 ef⟩
        | exact pm_iret rfl rfl ⟨⟨_, rfl⟩, hTc4, hA⟩
  · have h0 : x2 = (0 : Int) := h0
    refine pm_blk hK zmm46 [] 1 41 [(2, 1), (0, 2), (2, 23)] [(0, (-1))] μc2 [] rfl trivial ?_
    exact pm_iret rfl rfl ⟨⟨_, rfl⟩, hTc2, hA⟩
set_option maxRecDepth 100000 in
theorem zh_txk3 (hK : zKK ST) (hw : sx_Wd zNR zRT2 B0 Sg) (hC320 : zCK φ D ST B0 l Sg zC320) (hs320 : sx_subm zC320.2.2.2.2.2 Wm = true) (hC324 : zCK φ D ST B0 l Sg zC324) (hs324 : sx_subm zC324.2.2.2.2.2 Wm = true) (hT : zTJ φ μ) (hb96 : sx_bit Wm 96 = true) (hbd : 71 ≤ bud.1 ∧ 1575 ≤ bud.2.1) : zC D Wm ST (sx_bW zRT2 Wm B0 Sg, J) l Sg zM46 bud [(2, 1), (0, 3)] μ (fun st' μ' => (∃ x, st' = [(0, x)]) ∧ zTJ φ μ' ∧ zKC μ μ') := by
  have hA : zKC μ μ := zKC_refl
  refine pm_blk hK zmm46 [] 3 5 [(2, 1), (0, 3), (9, 0)] [(0, 3), (2, 2)] μ [] rfl trivial ?_
  refine pm_call hK zmm46 (176, 0, 47, 1) zM47 (0, 0) [(2, 2), (0, 3)] [] rfl rfl rfl rfl ⟨by omega, by rw [zn47]; omega⟩ (zh_tof3 hK) (fun st1 μc1 hp1 => ?_)
  obtain ⟨rfl, rfl⟩ := hp1
  refine pm_blk hK zmm46 [] 2 10 [(2, 1), (0, 3), (2, 26)] [(2, 26)] μ [] rfl trivial ?_
  refine zp_ifnn hK zmm46 (off := 12) (tgt := 22) rfl (by decide) ?_
  refine pm_blk hK zmm46 [] 6 34 [(2, 1), (0, 3), (2, 26)] [(2, 3), (0, 3), (2, 88)] μ [] rfl trivial ?_
  refine pm_ccall hK zmm46 hC320 hw zGm_lt zJ_loc (183, 0, 49, 2) zM49 [(2, 88), (0, 3), (2, 3)] [] rfl rfl rfl rfl rfl ⟨by have e : zC320.2.2.2.1 = 70 := rfl; omega, by have e : zC320.2.2.2.2.1 = 1545 := rfl; rw [zn49]; omega⟩ hs320 rfl (fun t ht => by cases ht; rfl) ⟨rfl, fun h => absurd h (by decide), fun _ => rfl, rfl, fun _ => ⟨by decide, by decide⟩, fun h => absurd h (by decide), rfl, fun h => absurd h (by decide), fun _ => rfl, trivial⟩ (zTy_T hw hT.1) hT.2 (fun st2 μc2 hp2 hTt2 hJ2 hfr2 => ?_)
  obtain ⟨x2, rfl, hx2, hy2⟩ := hp2
  have hTc2 : zTJ φ μc2 := ⟨zTy_of hw hTt2, hJ2⟩
  have hA := zKC_of hA (zRq_fr hfr2 (by decide +kernel))
  refine pm_if hK zmm46 .ne 5 42 rfl rfl (fun h0 => ?_) (fun h0 => ?_)
  · have h0 : x2 ≠ (0 : Int) := h0
    refine pm_blk hK zmm46 [] 4 50 [(2, 1), (0, 3), (2, 26)] [(2, 93), (2, 26)] μc2 [] rfl trivial ?_
    refine pm_ccall hK zmm46 hC324 hw zGm_lt zJ_loc (191, 0, 54, 1) zM54 [(2, 26), (2, 93)] [] rfl rfl rfl rfl rfl ⟨by have e : zC324.2.2.2.1 = 2 := rfl; omega, by have e : zC324.2.2.2.2.1 = 101 := rfl; rw [zn54]; omega⟩ hs324 rfl (fun t ht => by cases ht) ⟨rfl, fun h => absurd h (by decide), fun _ => rfl, rfl, fun h => absurd h (by decide), fun _ => rfl, trivial⟩ (zTy_T hw hTc2.1) hTc2.2 (fun st3 μc3 hp3 hTt3 hJ3 hfr3 => ?_)
    obtain rfl := hp3
    have hTc3 : zTJ φ μc3 := ⟨zTy_of hw hTt3, hJ3⟩
    have hA := zKC_of hA (zRq_fr hfr3 (by decide +kernel))
    refine pm_blk hK zmm46 [] 2 55 [(2, 1), (0, 3), (2, 26)] [(0, 1), (0, 3)] μc3 [] rfl trivial ?_
    refine pm_icmp hK zmm46 .eq 8 63 rfl rfl (fun h1 => ?_) (fun h1 => ?_)
    · have h1 : (3 : Int) = (1 : Int) := h1
      exact absurd h1 (by decide)
    · have h1 : (3 : Int) ≠ (1 : Int) := h1
      refine pm_blk hK zmm46 [] 2 60 [(2, 1), (0, 3), (2, 26)] [(0, 2), (0, 3)] μc3 [] rfl trivial ?_
      refine pm_icmp hK zmm46 .ne 10 70 rfl rfl (fun h2 => ?_) (fun h2 => ?_)
      · have h2 : (3 : Int) ≠ (2 : Int) := h2
        have f1 := zT_get hTc3 zs26_2 (i := 2) (by omega) (by omega)
        refine pm_blk hK zmm46 [] 2 74 [(2, 1), (0, 3), (2, 26)] [(0, μc3 26 2)] μc3 [] rfl trivial ?_
        exact pm_iret rfl rfl ⟨⟨_, rfl⟩, hTc3, hA⟩
      · have h2 : (3 : Int) = (2 : Int) := h2
        exact absurd h2 (by decide)
  · have h0 : x2 = (0 : Int) := h0
    refine pm_blk hK zmm46 [] 1 41 [(2, 1), (0, 3), (2, 26)] [(0, (-1))] μc2 [] rfl trivial ?_
    exact pm_iret rfl rfl ⟨⟨_, rfl⟩, hTc2, hA⟩
set_option maxRecDepth 100000 in
theorem zh_txkn (hK : zKK ST) {k : Int} (hk : k < 0 ∨ 3 < k) (hT : zTJ φ μ) (hb88 : sx_bit Wm 88 = true) (hbd : 1 ≤ bud.1 ∧ 40 ≤ bud.2.1) : zC D Wm ST b0 l Sg zM46 bud [(2, 1), (0, k)] μ (fun st' μ' => (∃ x, st' = [(0, x)]) ∧ zTJ φ μ' ∧ zKC μ μ') := by
  have hA : zKC μ μ := zKC_refl
  refine pm_blk hK zmm46 [] 3 5 [(2, 1), (0, k), (9, 0)] [(0, k), (2, 2)] μ [] rfl trivial ?_
  refine pm_call hK zmm46 (176, 0, 47, 1) zM47 (0, 0) [(2, 2), (0, k)] [] rfl rfl rfl rfl ⟨by omega, by rw [zn47]; omega⟩ (zh_tofn hK hk) (fun st1 μc1 hp1 => ?_)
  obtain ⟨rfl, rfl⟩ := hp1
  refine zp_nul3 hK zmm46 rfl rfl rfl (Nat.le_of_ble_eq_true rfl) rfl ?_
  refine pm_blk hK zmm46 [] 2 17 [(2, 1), (0, k), (3, 0)] [(2, 88)] μ [] rfl trivial ?_
  refine pm_call hK zmm46 (180, 0, 48, 0) zM48 (0, 0) [(2, 88)] [] rfl rfl rfl rfl ⟨by omega, by rw [zn48]; omega⟩ (zh_dropk hK hT hb88 ⟨Nat.le_refl _, Nat.le_refl _⟩) (fun st2 μc2 hp2 => ?_)
  obtain ⟨rfl, hTc2, hA2⟩ := hp2
  have hA := hA2
  refine pm_blk hK zmm46 [] 1 21 [(2, 1), (0, k), (3, 0)] [(0, (-1))] μc2 [] rfl trivial ?_
  exact pm_iret rfl rfl ⟨⟨_, rfl⟩, hTc2, hA⟩
set_option maxRecDepth 100000 in
theorem zh_textk (hK : zKK ST) {k : Int} (hw : sx_Wd zNR zRT2 B0 Sg) (hC320 : zCK φ D ST B0 l Sg zC320) (hs320 : sx_subm zC320.2.2.2.2.2 Wm = true) (hC321 : zCK φ D ST B0 l Sg zC321) (hs321 : sx_subm zC321.2.2.2.2.2 Wm = true) (hC322 : zCK φ D ST B0 l Sg zC322) (hs322 : sx_subm zC322.2.2.2.2.2 Wm = true) (hC323 : zCK φ D ST B0 l Sg zC323) (hs323 : sx_subm zC323.2.2.2.2.2 Wm = true) (hC324 : zCK φ D ST B0 l Sg zC324) (hs324 : sx_subm zC324.2.2.2.2.2 Wm = true) (hT : zTJ φ μ) (hb88 : sx_bit Wm 88 = true) (hb96 : sx_bit Wm 96 = true) (hbd : 71 ≤ bud.1 ∧ 1585 ≤ bud.2.1) : zC D Wm ST (sx_bW zRT2 Wm B0 Sg, J) l Sg zM46 bud [(2, 1), (0, k)] μ (fun st' μ' => (∃ x, st' = [(0, x)]) ∧ zTJ φ μ' ∧ zKC μ μ') := by
  by_cases hk : k < 0 ∨ 3 < k
  · exact zh_txkn hK hk hT hb88 ⟨by omega, by omega⟩
  · have hh : k = 0 ∨ k = 1 ∨ k = 2 ∨ k = 3 := by omega
    rcases hh with rfl | rfl | rfl | rfl
    · exact zh_txk0 hK hw hC320 hs320 hC321 hs321 hT hb96 ⟨by omega, by omega⟩
    · exact zh_txk1 hK hw hC320 hs320 hC322 hs322 hT hb96 ⟨by omega, by omega⟩
    · exact zh_txk2 hK hw hC320 hs320 hC323 hs323 hT hb96 ⟨by omega, by omega⟩
    · exact zh_txk3 hK hw hC320 hs320 hC324 hs324 hT hb96 ⟨by omega, by omega⟩
end ZHW
