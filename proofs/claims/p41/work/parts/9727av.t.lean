/-! a text told anew: copied; walks printed by program (wip/p30/pmgen.py) and filled by hand -/
section ZHW
variable {φ : Option pm_Mem}
variable {D : va_G} {Wm : Nat} {ST : List (String × String × String × Nat)} {b0 : sx_B} {l : Launch} {Sg : Nat → Option Nat} {bud : sx_Bu} {μ : pm_Mem} {B0 : Nat → Prop} {J : (Nat → Option Nat) → Heap → Prop}
set_option maxRecDepth 100000 in
theorem zx_ci21 (hK : zKK ST) (hb21 : sx_bit Wm 21 = true) (hT : zTJ φ μ) (hbd : 1 ≤ bud.1 ∧ 25 ≤ bud.2.1) : zC D Wm ST b0 l Sg zM29 bud [(2, 94), (2, 21)] μ (fun st' μ' => st' = [] ∧ zTJ φ μ' ∧ μ' = pm_cpy μ 21 94 64) := by
  refine pm_blk hK zmm29 [] 8 8 [(2, 94), (2, 21)] [(0, 64), (0, 64), (0, 0), (2, 21), (0, 0), (2, 94)] μ [] rfl trivial ?_
  refine pm_call hK zmm29 (427, 1, 30, 2) zM30 (0, 0) [(0, 64), (0, 64)] [(0, 0), (2, 21), (0, 0), (2, 94)] rfl rfl rfl rfl ⟨by omega, by rw [zn30]; omega⟩ (zk_min hK ⟨Nat.le_refl _, Nat.le_refl _⟩) (fun st1 μc1 hp1 => ?_)
  obtain ⟨rfl, rfl⟩ := hp1
  refine zp_acw hK zmm29 (idx := 432) (r := 21) (r' := 94) (n := 64) (g := zG21) (g' := zG94) (t := (0, -1, 999)) (t' := (0, -1, 999)) (List.mem_of_getElem? (i := 0) rfl) rfl rfl rfl ⟨rfl, rfl, rfl, rfl⟩ ⟨rfl, rfl, rfl⟩ hb21 ⟨by omega, by have h9 : pm_cs [] = 0 := rfl; omega⟩ (by decide) ?_
  exact pm_vret rfl rfl ⟨rfl, zTJ_cpy hT (t := (0, -1, 999)) (g := zG21) (g' := zG94) rfl rfl (by decide) ⟨by decide, rfl⟩ ⟨by decide, rfl, rfl⟩ rfl rfl, rfl⟩
set_option maxRecDepth 100000 in
theorem zx_ci22 (hK : zKK ST) (hb22 : sx_bit Wm 22 = true) (hT : zTJ φ μ) (hbd : 1 ≤ bud.1 ∧ 25 ≤ bud.2.1) : zC D Wm ST b0 l Sg zM29 bud [(2, 95), (2, 22)] μ (fun st' μ' => st' = [] ∧ zTJ φ μ' ∧ μ' = pm_cpy μ 22 95 400) := by
  refine pm_blk hK zmm29 [] 8 8 [(2, 95), (2, 22)] [(0, 400), (0, 400), (0, 0), (2, 22), (0, 0), (2, 95)] μ [] rfl trivial ?_
  refine pm_call hK zmm29 (427, 1, 30, 2) zM30 (0, 0) [(0, 400), (0, 400)] [(0, 0), (2, 22), (0, 0), (2, 95)] rfl rfl rfl rfl ⟨by omega, by rw [zn30]; omega⟩ (zk_min hK ⟨Nat.le_refl _, Nat.le_refl _⟩) (fun st1 μc1 hp1 => ?_)
  obtain ⟨rfl, rfl⟩ := hp1
  refine zp_acw hK zmm29 (idx := 432) (r := 22) (r' := 95) (n := 400) (g := zG22) (g' := zG95) (t := (0, -853248, 3679637)) (t' := (0, -853248, 3679637)) (List.mem_of_getElem? (i := 0) rfl) rfl rfl rfl ⟨rfl, rfl, rfl, rfl⟩ ⟨rfl, rfl, rfl⟩ hb22 ⟨by omega, by have h9 : pm_cs [] = 0 := rfl; omega⟩ (by decide) ?_
  exact pm_vret rfl rfl ⟨rfl, zTJ_cpy hT (t := (0, -853248, 3679637)) (g := zG22) (g' := zG95) rfl rfl (by decide) ⟨by decide, rfl⟩ ⟨by decide, rfl, rfl⟩ rfl rfl, rfl⟩
set_option maxRecDepth 100000 in
theorem zx_cp20 (hK : zKK ST) (hT : zTJ φ μ) (hb20 : sx_bit Wm 20 = true) (hb21 : sx_bit Wm 21 = true) (hb22 : sx_bit Wm 22 = true) (hbd : 2 ≤ bud.1 ∧ 46 ≤ bud.2.1) : zC D Wm ST b0 l Sg zM54 bud [(2, 20), (2, 93)] μ (fun st' μ' => st' = [] ∧ zTJ φ μ' ∧ (∀ q, q ≠ 20 → q ≠ 21 → q ≠ 22 → μ' q = μ q) ∧ (∀ i : Int, 0 ≤ i → i < 64 → μ' 21 i = μ 94 i) ∧ (∀ i : Int, 0 ≤ i → i < 400 → μ' 22 i = μ 95 i) ∧ μ' 20 2 = μ 93 2 ∧ μ' 20 3 = μ 93 3) := by
  refine pm_blk hK zmm54 [] 4 8 [(2, 20), (2, 93)] [(2, 21), (2, 94)] μ [] rfl trivial ?_
  refine pm_call hK zmm54 (29, 1, 29, 2) zM29 (1, 25) [(2, 94), (2, 21)] [] rfl rfl rfl rfl ⟨by omega, by rw [zn29]; omega⟩ (zx_ci21 hK hb21 hT ⟨Nat.le_refl _, Nat.le_refl _⟩) (fun st1 μc1 hp1 => ?_)
  obtain ⟨rfl, hTc1, eQ1⟩ := hp1
  refine pm_blk hK zmm54 [] 4 19 [(2, 20), (2, 93)] [(2, 22), (2, 95)] μc1 [] rfl trivial ?_
  refine pm_call hK zmm54 (29, 1, 29, 2) zM29 (1, 25) [(2, 95), (2, 22)] [] rfl rfl rfl rfl ⟨by omega, by rw [zn29]; omega⟩ (zx_ci22 hK hb22 hTc1 ⟨Nat.le_refl _, Nat.le_refl _⟩) (fun st2 μc2 hp2 => ?_)
  obtain ⟨rfl, hTc2, eQ2⟩ := hp2
  have f1 := zT_get hTc2 zs93_2 (i := 2) (by omega) (by omega)
  refine pm_blk hK zmm54 [] 4 30 [(2, 20), (2, 93)] [] (pm_up μc2 20 2 (μc2 93 2)) [sx_bit Wm 20 = true] rfl ⟨hb20, trivial⟩ ?_
  obtain ⟨μ1, eμ1⟩ : ∃ μ', μ' = pm_up μc2 20 2 (μc2 93 2) := ⟨_, rfl⟩
  rw [← eμ1]
  have hTμ1 : zTJ φ μ1 := by rw [eμ1]; exact zT_up hTc2 zs20_2 rfl (i := 2) (by omega) (by omega) (by omega) (by omega)
  have g2 : μ1 93 3 = μc2 93 3 := by rw [eμ1, pm_up_off (by decide)]
  have f3 := zT_get hTμ1 zs93_3 (i := 3) (by omega) (by omega)
  refine pm_blk hK zmm54 [] 4 38 [(2, 20), (2, 93)] [] (pm_up μ1 20 3 (μ1 93 3)) [sx_bit Wm 20 = true] rfl ⟨hb20, trivial⟩ ?_
  obtain ⟨μ2, eμ2⟩ : ∃ μ', μ' = pm_up μ1 20 3 (μ1 93 3) := ⟨_, rfl⟩
  rw [← eμ2]
  have hTμ2 : zTJ φ μ2 := by rw [eμ2]; exact zT_up hTμ1 zs20_3 rfl (i := 3) (by omega) (by omega) (by omega) (by omega)
  exact pm_vret rfl rfl ⟨rfl, hTμ2, fun q a b c => by rw [eμ2, pm_up_row a, eμ1, pm_up_row a, eQ2, pm_cpy_row c, eQ1, pm_cpy_row b], fun i i0 i1 => by rw [eμ2, pm_up_row (by decide), eμ1, pm_up_row (by decide), eQ2, pm_cpy_row (by decide), eQ1, pm_cpy_at i0 i1], fun i i0 i1 => by rw [eμ2, pm_up_row (by decide), eμ1, pm_up_row (by decide), eQ2, pm_cpy_at i0 i1, eQ1, pm_cpy_row (by decide)], by rw [eμ2, pm_up_ne (by decide), eμ1, pm_up_eq, eQ2, pm_cpy_row (by decide), eQ1, pm_cpy_row (by decide)], by rw [eμ2, pm_up_eq, eμ1, pm_up_off (by decide), eQ2, pm_cpy_row (by decide), eQ1, pm_cpy_row (by decide)]⟩
set_option maxRecDepth 100000 in
theorem zx_ci24 (hK : zKK ST) (hb24 : sx_bit Wm 24 = true) (hT : zTJ φ μ) (hbd : 1 ≤ bud.1 ∧ 25 ≤ bud.2.1) : zC D Wm ST b0 l Sg zM29 bud [(2, 94), (2, 24)] μ (fun st' μ' => st' = [] ∧ zTJ φ μ' ∧ μ' = pm_cpy μ 24 94 64) := by
  refine pm_blk hK zmm29 [] 8 8 [(2, 94), (2, 24)] [(0, 64), (0, 64), (0, 0), (2, 24), (0, 0), (2, 94)] μ [] rfl trivial ?_
  refine pm_call hK zmm29 (427, 1, 30, 2) zM30 (0, 0) [(0, 64), (0, 64)] [(0, 0), (2, 24), (0, 0), (2, 94)] rfl rfl rfl rfl ⟨by omega, by rw [zn30]; omega⟩ (zk_min hK ⟨Nat.le_refl _, Nat.le_refl _⟩) (fun st1 μc1 hp1 => ?_)
  obtain ⟨rfl, rfl⟩ := hp1
  refine zp_acw hK zmm29 (idx := 432) (r := 24) (r' := 94) (n := 64) (g := zG24) (g' := zG94) (t := (0, -1, 999)) (t' := (0, -1, 999)) (List.mem_of_getElem? (i := 0) rfl) rfl rfl rfl ⟨rfl, rfl, rfl, rfl⟩ ⟨rfl, rfl, rfl⟩ hb24 ⟨by omega, by have h9 : pm_cs [] = 0 := rfl; omega⟩ (by decide) ?_
  exact pm_vret rfl rfl ⟨rfl, zTJ_cpy hT (t := (0, -1, 999)) (g := zG24) (g' := zG94) rfl rfl (by decide) ⟨by decide, rfl⟩ ⟨by decide, rfl, rfl⟩ rfl rfl, rfl⟩
set_option maxRecDepth 100000 in
theorem zx_ci25 (hK : zKK ST) (hb25 : sx_bit Wm 25 = true) (hT : zTJ φ μ) (hbd : 1 ≤ bud.1 ∧ 25 ≤ bud.2.1) : zC D Wm ST b0 l Sg zM29 bud [(2, 95), (2, 25)] μ (fun st' μ' => st' = [] ∧ zTJ φ μ' ∧ μ' = pm_cpy μ 25 95 400) := by
  refine pm_blk hK zmm29 [] 8 8 [(2, 95), (2, 25)] [(0, 400), (0, 400), (0, 0), (2, 25), (0, 0), (2, 95)] μ [] rfl trivial ?_
  refine pm_call hK zmm29 (427, 1, 30, 2) zM30 (0, 0) [(0, 400), (0, 400)] [(0, 0), (2, 25), (0, 0), (2, 95)] rfl rfl rfl rfl ⟨by omega, by rw [zn30]; omega⟩ (zk_min hK ⟨Nat.le_refl _, Nat.le_refl _⟩) (fun st1 μc1 hp1 => ?_)
  obtain ⟨rfl, rfl⟩ := hp1
  refine zp_acw hK zmm29 (idx := 432) (r := 25) (r' := 95) (n := 400) (g := zG25) (g' := zG95) (t := (0, -853248, 3679637)) (t' := (0, -853248, 3679637)) (List.mem_of_getElem? (i := 0) rfl) rfl rfl rfl ⟨rfl, rfl, rfl, rfl⟩ ⟨rfl, rfl, rfl⟩ hb25 ⟨by omega, by have h9 : pm_cs [] = 0 := rfl; omega⟩ (by decide) ?_
  exact pm_vret rfl rfl ⟨rfl, zTJ_cpy hT (t := (0, -853248, 3679637)) (g := zG25) (g' := zG95) rfl rfl (by decide) ⟨by decide, rfl⟩ ⟨by decide, rfl, rfl⟩ rfl rfl, rfl⟩
set_option maxRecDepth 100000 in
theorem zx_cp23 (hK : zKK ST) (hT : zTJ φ μ) (hb23 : sx_bit Wm 23 = true) (hb24 : sx_bit Wm 24 = true) (hb25 : sx_bit Wm 25 = true) (hbd : 2 ≤ bud.1 ∧ 46 ≤ bud.2.1) : zC D Wm ST b0 l Sg zM54 bud [(2, 23), (2, 93)] μ (fun st' μ' => st' = [] ∧ zTJ φ μ' ∧ (∀ q, q ≠ 23 → q ≠ 24 → q ≠ 25 → μ' q = μ q) ∧ (∀ i : Int, 0 ≤ i → i < 64 → μ' 24 i = μ 94 i) ∧ (∀ i : Int, 0 ≤ i → i < 400 → μ' 25 i = μ 95 i) ∧ μ' 23 2 = μ 93 2 ∧ μ' 23 3 = μ 93 3) := by
  refine pm_blk hK zmm54 [] 4 8 [(2, 23), (2, 93)] [(2, 24), (2, 94)] μ [] rfl trivial ?_
  refine pm_call hK zmm54 (29, 1, 29, 2) zM29 (1, 25) [(2, 94), (2, 24)] [] rfl rfl rfl rfl ⟨by omega, by rw [zn29]; omega⟩ (zx_ci24 hK hb24 hT ⟨Nat.le_refl _, Nat.le_refl _⟩) (fun st1 μc1 hp1 => ?_)
  obtain ⟨rfl, hTc1, eQ1⟩ := hp1
  refine pm_blk hK zmm54 [] 4 19 [(2, 23), (2, 93)] [(2, 25), (2, 95)] μc1 [] rfl trivial ?_
  refine pm_call hK zmm54 (29, 1, 29, 2) zM29 (1, 25) [(2, 95), (2, 25)] [] rfl rfl rfl rfl ⟨by omega, by rw [zn29]; omega⟩ (zx_ci25 hK hb25 hTc1 ⟨Nat.le_refl _, Nat.le_refl _⟩) (fun st2 μc2 hp2 => ?_)
  obtain ⟨rfl, hTc2, eQ2⟩ := hp2
  have f1 := zT_get hTc2 zs93_2 (i := 2) (by omega) (by omega)
  refine pm_blk hK zmm54 [] 4 30 [(2, 23), (2, 93)] [] (pm_up μc2 23 2 (μc2 93 2)) [sx_bit Wm 23 = true] rfl ⟨hb23, trivial⟩ ?_
  obtain ⟨μ1, eμ1⟩ : ∃ μ', μ' = pm_up μc2 23 2 (μc2 93 2) := ⟨_, rfl⟩
  rw [← eμ1]
  have hTμ1 : zTJ φ μ1 := by rw [eμ1]; exact zT_up hTc2 zs23_2 rfl (i := 2) (by omega) (by omega) (by omega) (by omega)
  have g2 : μ1 93 3 = μc2 93 3 := by rw [eμ1, pm_up_off (by decide)]
  have f3 := zT_get hTμ1 zs93_3 (i := 3) (by omega) (by omega)
  refine pm_blk hK zmm54 [] 4 38 [(2, 23), (2, 93)] [] (pm_up μ1 23 3 (μ1 93 3)) [sx_bit Wm 23 = true] rfl ⟨hb23, trivial⟩ ?_
  obtain ⟨μ2, eμ2⟩ : ∃ μ', μ' = pm_up μ1 23 3 (μ1 93 3) := ⟨_, rfl⟩
  rw [← eμ2]
  have hTμ2 : zTJ φ μ2 := by rw [eμ2]; exact zT_up hTμ1 zs23_3 rfl (i := 3) (by omega) (by omega) (by omega) (by omega)
  exact pm_vret rfl rfl ⟨rfl, hTμ2, fun q a b c => by rw [eμ2, pm_up_row a, eμ1, pm_up_row a, eQ2, pm_cpy_row c, eQ1, pm_cpy_row b], fun i i0 i1 => by rw [eμ2, pm_up_row (by decide), eμ1, pm_up_row (by decide), eQ2, pm_cpy_row (by decide), eQ1, pm_cpy_at i0 i1], fun i i0 i1 => by rw [eμ2, pm_up_row (by decide), eμ1, pm_up_row (by decide), eQ2, pm_cpy_at i0 i1, eQ1, pm_cpy_row (by decide)], by rw [eμ2, pm_up_ne (by decide), eμ1, pm_up_eq, eQ2, pm_cpy_row (by decide), eQ1, pm_cpy_row (by decide)], by rw [eμ2, pm_up_eq, eμ1, pm_up_off (by decide), eQ2, pm_cpy_row (by decide), eQ1, pm_cpy_row (by decide)]⟩
set_option maxRecDepth 100000 in
theorem zx_ci27 (hK : zKK ST) (hb27 : sx_bit Wm 27 = true) (hT : zTJ φ μ) (hbd : 1 ≤ bud.1 ∧ 25 ≤ bud.2.1) : zC D Wm ST b0 l Sg zM29 bud [(2, 94), (2, 27)] μ (fun st' μ' => st' = [] ∧ zTJ φ μ' ∧ μ' = pm_cpy μ 27 94 64) := by
  refine pm_blk hK zmm29 [] 8 8 [(2, 94), (2, 27)] [(0, 64), (0, 64), (0, 0), (2, 27), (0, 0), (2, 94)] μ [] rfl trivial ?_
  refine pm_call hK zmm29 (427, 1, 30, 2) zM30 (0, 0) [(0, 64), (0, 64)] [(0, 0), (2, 27), (0, 0), (2, 94)] rfl rfl rfl rfl ⟨by omega, by rw [zn30]; omega⟩ (zk_min hK ⟨Nat.le_refl _, Nat.le_refl _⟩) (fun st1 μc1 hp1 => ?_)
  obtain ⟨rfl, rfl⟩ := hp1
  refine zp_acw hK zmm29 (idx := 432) (r := 27) (r' := 94) (n := 64) (g := zG27) (g' := zG94) (t := (0, -1, 999)) (t' := (0, -1, 999)) (List.mem_of_getElem? (i := 0) rfl) rfl rfl rfl ⟨rfl, rfl, rfl, rfl⟩ ⟨rfl, rfl, rfl⟩ hb27 ⟨by omega, by have h9 : pm_cs [] = 0 := rfl; omega⟩ (by decide) ?_
  exact pm_vret rfl rfl ⟨rfl, zTJ_cpy hT (t := (0, -1, 999)) (g := zG27) (g' := zG94) rfl rfl (by decide) ⟨by decide, rfl⟩ ⟨by decide, rfl, rfl⟩ rfl rfl, rfl⟩
set_option maxRecDepth 100000 in
theorem zx_ci28 (hK : zKK ST) (hb28 : sx_bit Wm 28 = true) (hT : zTJ φ μ) (hbd : 1 ≤ bud.1 ∧ 25 ≤ bud.2.1) : zC D Wm ST b0 l Sg zM29 bud [(2, 95), (2, 28)] μ (fun st' μ' => st' = [] ∧ zTJ φ μ' ∧ μ' = pm_cpy μ 28 95 400) := by
  refine pm_blk hK zmm29 [] 8 8 [(2, 95), (2, 28)] [(0, 400), (0, 400), (0, 0), (2, 28), (0, 0), (2, 95)] μ [] rfl trivial ?_
  refine pm_call hK zmm29 (427, 1, 30, 2) zM30 (0, 0) [(0, 400), (0, 400)] [(0, 0), (2, 28), (0, 0), (2, 95)] rfl rfl rfl rfl ⟨by omega, by rw [zn30]; omega⟩ (zk_min hK ⟨Nat.le_refl _, Nat.le_refl _⟩) (fun st1 μc1 hp1 => ?_)
  obtain ⟨rfl, rfl⟩ := hp1
  refine zp_acw hK zmm29 (idx := 432) (r := 28) (r' := 95) (n := 400) (g := zG28) (g' := zG95) (t := (0, -853248, 3679637)) (t' := (0, -853248, 3679637)) (List.mem_of_getElem? (i := 0) rfl) rfl rfl rfl ⟨rfl, rfl, rfl, rfl⟩ ⟨rfl, rfl, rfl⟩ hb28 ⟨by omega, by have h9 : pm_cs [] = 0 := rfl; omega⟩ (by decide) ?_
  exact pm_vret rfl rfl ⟨rfl, zTJ_cpy hT (t := (0, -853248, 3679637)) (g := zG28) (g' := zG95) rfl rfl (by decide) ⟨by decide, rfl⟩ ⟨by decide, rfl, rfl⟩ rfl rfl, rfl⟩
set_option maxRecDepth 100000 in
theorem zx_cp26 (hK : zKK ST) (hT : zTJ φ μ) (hb26 : sx_bit Wm 26 = true) (hb27 : sx_bit Wm 27 = true) (hb28 : sx_bit Wm 28 = true) (hbd : 2 ≤ bud.1 ∧ 46 ≤ bud.2.1) : zC D Wm ST b0 l Sg zM54 bud [(2, 26), (2, 93)] μ (fun st' μ' => st' = [] ∧ zTJ φ μ' ∧ (∀ q, q ≠ 26 → q ≠ 27 → q ≠ 28 → μ' q = μ q) ∧ (∀ i : Int, 0 ≤ i → i < 64 → μ' 27 i = μ 94 i) ∧ (∀ i : Int, 0 ≤ i → i < 400 → μ' 28 i = μ 95 i) ∧ μ' 26 2 = μ 93 2 ∧ μ' 26 3 = μ 93 3) := by
  refine pm_blk hK zmm54 [] 4 8 [(2, 26), (2, 93)] [(2, 27), (2, 94)] μ [] rfl trivial ?_
  refine pm_call hK zmm54 (29, 1, 29, 2) zM29 (1, 25) [(2, 94), (2, 27)] [] rfl rfl rfl rfl ⟨by omega, by rw [zn29]; omega⟩ (zx_ci27 hK hb27 hT ⟨Nat.le_refl _, Nat.le_refl _⟩) (fun st1 μc1 hp1 => ?_)
  obtain ⟨rfl, hTc1, eQ1⟩ := hp1
  refine pm_blk hK zmm54 [] 4 19 [(2, 26), (2, 93)] [(2, 28), (2, 95)] μc1 [] rfl trivial ?_
  refine pm_call hK zmm54 (29, 1, 29, 2) zM29 (1, 25) [(2, 95), (2, 28)] [] rfl rfl rfl rfl ⟨by omega, by rw [zn29]; omega⟩ (zx_ci28 hK hb28 hTc1 ⟨Nat.le_refl _, Nat.le_refl _⟩) (fun st2 μc2 hp2 => ?_)
  obtain ⟨rfl, hTc2, eQ2⟩ := hp2
  have f1 := zT_get hTc2 zs93_2 (i := 2) (by omega) (by omega)
  refine pm_blk hK zmm54 [] 4 30 [(2, 26), (2, 93)] [] (pm_up μc2 26 2 (μc2 93 2)) [sx_bit Wm 26 = true] rfl ⟨hb26, trivial⟩ ?_
  obtain ⟨μ1, eμ1⟩ : ∃ μ', μ' = pm_up μc2 26 2 (μc2 93 2) := ⟨_, rfl⟩
  rw [← eμ1]
  have hTμ1 : zTJ φ μ1 := by rw [eμ1]; exact zT_up hTc2 zs26_2 rfl (i := 2) (by omega) (by omega) (by omega) (by omega)
  have g2 : μ1 93 3 = μc2 93 3 := by rw [eμ1, pm_up_off (by decide)]
  have f3 := zT_get hTμ1 zs93_3 (i := 3) (by omega) (by omega)
  refine pm_blk hK zmm54 [] 4 38 [(2, 26), (2, 93)] [] (pm_up μ1 26 3 (μ1 93 3)) [sx_bit Wm 26 = true] rfl ⟨hb26, trivial⟩ ?_
  obtain ⟨μ2, eμ2⟩ : ∃ μ', μ' = pm_up μ1 26 3 (μ1 93 3) := ⟨_, rfl⟩
  rw [← eμ2]
  have hTμ2 : zTJ φ μ2 := by rw [eμ2]; exact zT_up hTμ1 zs26_3 rfl (i := 3) (by omega) (by omega) (by omega) (by omega)
  exact pm_vret rfl rfl ⟨rfl, hTμ2, fun q a b c => by rw [eμ2, pm_up_row a, eμ1, pm_up_row a, eQ2, pm_cpy_row c, eQ1, pm_cpy_row b], fun i i0 i1 => by rw [eμ2, pm_up_row (by decide), eμ1, pm_up_row (by decide), eQ2, pm_cpy_row (by decide), eQ1, pm_cpy_at i0 i1], fun i i0 i1 => by rw [eμ2, pm_up_row (by decide), eμ1, pm_up_row (by decide), eQ2, pm_cpy_at i0 i1, eQ1, pm_cpy_row (by decide)], by rw [eμ2, pm_up_ne (by decide), eμ1, pm_up_eq, eQ2, pm_cpy_row (by decide), eQ1, pm_cpy_row (by decide)], by rw [eμ2, pm_up_eq, eμ1, pm_up_off (by decide), eQ2, pm_cpy_row (by decide), eQ1, pm_cpy_row (by decide)]⟩
set_option maxRecDepth 100000 in
theorem zx_tof0 (hK : zKK ST) : zC D Wm ST b0 l Sg zM47 bud [(2, 2), (0, 0)] μ (fun st' μ' => μ = μ' ∧ st' = [(2, 17)]) := by
  refine pm_blk hK zmm47 [] 1 1 [(2, 2), (0, 0)] [(0, 0)] μ [] rfl trivial ?_
  refine zp_tin_TT hK zmm47 (off := 31) (tgt := 32) rfl (by decide) (by decide) rfl (by decide) ?_
  refine pm_blk hK zmm47 [] 2 36 [(2, 2), (0, 0)] [(2, 17)] μ [] rfl trivial ?_
  exact pm_aret rfl ⟨_, rfl⟩ ⟨rfl, rfl⟩
set_option maxRecDepth 100000 in
theorem zx_tof1 (hK : zKK ST) : zC D Wm ST b0 l Sg zM47 bud [(2, 2), (0, 1)] μ (fun st' μ' => μ = μ' ∧ st' = [(2, 20)]) := by
  refine pm_blk hK zmm47 [] 1 1 [(2, 2), (0, 1)] [(0, 1)] μ [] rfl trivial ?_
  refine zp_tin_TT hK zmm47 (off := 36) (tgt := 37) rfl (by decide) (by decide) rfl (by decide) ?_
  refine pm_blk hK zmm47 [] 2 41 [(2, 2), (0, 1)] [(2, 20)] μ [] rfl trivial ?_
  exact pm_aret rfl ⟨_, rfl⟩ ⟨rfl, rfl⟩
set_option maxRecDepth 100000 in
theorem zx_tof2 (hK : zKK ST) : zC D Wm ST b0 l Sg zM47 bud [(2, 2), (0, 2)] μ (fun st' μ' => μ = μ' ∧ st' = [(2, 23)]) := by
  refine pm_blk hK zmm47 [] 1 1 [(2, 2), (0, 2)] [(0, 2)] μ [] rfl trivial ?_
  refine zp_tin_TT hK zmm47 (off := 41) (tgt := 42) rfl (by decide) (by decide) rfl (by decide) ?_
  refine pm_blk hK zmm47 [] 2 46 [(2, 2), (0, 2)] [(2, 23)] μ [] rfl trivial ?_
  exact pm_aret rfl ⟨_, rfl⟩ ⟨rfl, rfl⟩
set_option maxRecDepth 100000 in
theorem zx_tof3 (hK : zKK ST) : zC D Wm ST b0 l Sg zM47 bud [(2, 2), (0, 3)] μ (fun st' μ' => μ = μ' ∧ st' = [(2, 26)]) := by
  refine pm_blk hK zmm47 [] 1 1 [(2, 2), (0, 3)] [(0, 3)] μ [] rfl trivial ?_
  refine zp_tin_TT hK zmm47 (off := 46) (tgt := 47) rfl (by decide) (by decide) rfl (by decide) ?_
  refine pm_blk hK zmm47 [] 2 51 [(2, 2), (0, 3)] [(2, 26)] μ [] rfl trivial ?_
  exact pm_aret rfl ⟨_, rfl⟩ ⟨rfl, rfl⟩
end ZHW
