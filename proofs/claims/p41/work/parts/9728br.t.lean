/-! F: the class: copies of an arcade; walks printed by program (wip/p30/pmgen.py) and filled by hand -/
section ZHW
variable {φ : Option pm_Mem}
variable {D : va_G} {Wm : Nat} {ST : List (String × String × String × Nat)} {b0 : sx_B} {l : Launch} {Sg : Nat → Option Nat} {bud : sx_Bu} {μ : pm_Mem} {B0 : Nat → Prop} {J : (Nat → Option Nat) → Heap → Prop}
set_option maxRecDepth 100000 in
theorem fc_ci100_4 (hK : zKK ST) (hb100 : sx_bit Wm 100 = true) (hT : zTJ φ μ) (hbd : 1 ≤ bud.1 ∧ 25 ≤ bud.2.1) : zC D Wm ST b0 l Sg zM29 bud [(2, 4), (2, 100)] μ (fun st' μ' => st' = [] ∧ zTJ φ μ' ∧ μ' = pm_cpy μ 100 4 12) := by
  refine pm_blk hK zmm29 [] 8 8 [(2, 4), (2, 100)] [(0, 12), (0, 12), (0, 0), (2, 100), (0, 0), (2, 4)] μ [] rfl trivial ?_
  refine pm_call hK zmm29 (427, 1, 30, 2) zM30 (0, 0) [(0, 12), (0, 12)] [(0, 0), (2, 100), (0, 0), (2, 4)] rfl rfl rfl rfl ⟨by omega, by rw [zn30]; omega⟩ (zh_min hK ⟨Nat.le_refl _, Nat.le_refl _⟩) (fun st1 μc1 hp1 => ?_)
  obtain ⟨rfl, rfl⟩ := hp1
  refine zp_acw hK zmm29 (idx := 432) (r := 100) (r' := 4) (n := 12) (g := zG100) (g' := zG4) (t := (0, -1, 999)) (t' := (0, -1, 999)) (List.mem_of_getElem? (i := 0) rfl) rfl rfl rfl ⟨rfl, rfl, rfl, rfl⟩ ⟨rfl, rfl, rfl⟩ hb100 ⟨by omega, by have h9 : pm_cs [] = 0 := rfl; omega⟩ (by decide) ?_
  exact pm_vret rfl rfl ⟨rfl, zTJ_cpy hT (t := (0, -1, 999)) (g := zG100) (g' := zG4) rfl rfl (by decide) ⟨by decide, rfl⟩ ⟨by decide, rfl, rfl⟩ rfl rfl, rfl⟩
set_option maxRecDepth 100000 in
theorem fc_ci101_5 (hK : zKK ST) (hb101 : sx_bit Wm 101 = true) (hT : zTJ φ μ) (hbd : 1 ≤ bud.1 ∧ 25 ≤ bud.2.1) : zC D Wm ST b0 l Sg zM29 bud [(2, 5), (2, 101)] μ (fun st' μ' => st' = [] ∧ zTJ φ μ' ∧ μ' = pm_cpy μ 101 5 12) := by
  refine pm_blk hK zmm29 [] 8 8 [(2, 5), (2, 101)] [(0, 12), (0, 12), (0, 0), (2, 101), (0, 0), (2, 5)] μ [] rfl trivial ?_
  refine pm_call hK zmm29 (427, 1, 30, 2) zM30 (0, 0) [(0, 12), (0, 12)] [(0, 0), (2, 101), (0, 0), (2, 5)] rfl rfl rfl rfl ⟨by omega, by rw [zn30]; omega⟩ (zh_min hK ⟨Nat.le_refl _, Nat.le_refl _⟩) (fun st1 μc1 hp1 => ?_)
  obtain ⟨rfl, rfl⟩ := hp1
  refine zp_acw hK zmm29 (idx := 432) (r := 101) (r' := 5) (n := 12) (g := zG101) (g' := zG5) (t := (0, -1, 999)) (t' := (0, -1, 999)) (List.mem_of_getElem? (i := 0) rfl) rfl rfl rfl ⟨rfl, rfl, rfl, rfl⟩ ⟨rfl, rfl, rfl⟩ hb101 ⟨by omega, by have h9 : pm_cs [] = 0 := rfl; omega⟩ (by decide) ?_
  exact pm_vret rfl rfl ⟨rfl, zTJ_cpy hT (t := (0, -1, 999)) (g := zG101) (g' := zG5) rfl rfl (by decide) ⟨by decide, rfl⟩ ⟨by decide, rfl, rfl⟩ rfl rfl, rfl⟩
set_option maxRecDepth 100000 in
theorem fc_ci102_6 (hK : zKK ST) (hb102 : sx_bit Wm 102 = true) (hT : zTJ φ μ) (hbd : 1 ≤ bud.1 ∧ 25 ≤ bud.2.1) : zC D Wm ST b0 l Sg zM29 bud [(2, 6), (2, 102)] μ (fun st' μ' => st' = [] ∧ zTJ φ μ' ∧ μ' = pm_cpy μ 102 6 12) := by
  refine pm_blk hK zmm29 [] 8 8 [(2, 6), (2, 102)] [(0, 12), (0, 12), (0, 0), (2, 102), (0, 0), (2, 6)] μ [] rfl trivial ?_
  refine pm_call hK zmm29 (427, 1, 30, 2) zM30 (0, 0) [(0, 12), (0, 12)] [(0, 0), (2, 102), (0, 0), (2, 6)] rfl rfl rfl rfl ⟨by omega, by rw [zn30]; omega⟩ (zh_min hK ⟨Nat.le_refl _, Nat.le_refl _⟩) (fun st1 μc1 hp1 => ?_)
  obtain ⟨rfl, rfl⟩ := hp1
  refine zp_acw hK zmm29 (idx := 432) (r := 102) (r' := 6) (n := 12) (g := zG102) (g' := zG6) (t := (0, -2147483648, 2147483647)) (t' := (0, -2147483648, 2147483647)) (List.mem_of_getElem? (i := 0) rfl) rfl rfl rfl ⟨rfl, rfl, rfl, rfl⟩ ⟨rfl, rfl, rfl⟩ hb102 ⟨by omega, by have h9 : pm_cs [] = 0 := rfl; omega⟩ (by decide) ?_
  exact pm_vret rfl rfl ⟨rfl, zTJ_cpy hT (t := (0, -2147483648, 2147483647)) (g := zG102) (g' := zG6) rfl rfl (by decide) ⟨by decide, rfl⟩ ⟨by decide, rfl, rfl⟩ rfl rfl, rfl⟩
set_option maxRecDepth 100000 in
theorem fc_ci103_7 (hK : zKK ST) (hb103 : sx_bit Wm 103 = true) (hT : zTJ φ μ) (hbd : 1 ≤ bud.1 ∧ 25 ≤ bud.2.1) : zC D Wm ST b0 l Sg zM29 bud [(2, 7), (2, 103)] μ (fun st' μ' => st' = [] ∧ zTJ φ μ' ∧ μ' = pm_cpy μ 103 7 12) := by
  refine pm_blk hK zmm29 [] 8 8 [(2, 7), (2, 103)] [(0, 12), (0, 12), (0, 0), (2, 103), (0, 0), (2, 7)] μ [] rfl trivial ?_
  refine pm_call hK zmm29 (427, 1, 30, 2) zM30 (0, 0) [(0, 12), (0, 12)] [(0, 0), (2, 103), (0, 0), (2, 7)] rfl rfl rfl rfl ⟨by omega, by rw [zn30]; omega⟩ (zh_min hK ⟨Nat.le_refl _, Nat.le_refl _⟩) (fun st1 μc1 hp1 => ?_)
  obtain ⟨rfl, rfl⟩ := hp1
  refine zp_acw hK zmm29 (idx := 432) (r := 103) (r' := 7) (n := 12) (g := zG103) (g' := zG7) (t := (0, 0, 1)) (t' := (0, 0, 1)) (List.mem_of_getElem? (i := 0) rfl) rfl rfl rfl ⟨rfl, rfl, rfl, rfl⟩ ⟨rfl, rfl, rfl⟩ hb103 ⟨by omega, by have h9 : pm_cs [] = 0 := rfl; omega⟩ (by decide) ?_
  exact pm_vret rfl rfl ⟨rfl, zTJ_cpy hT (t := (0, 0, 1)) (g := zG103) (g' := zG7) rfl rfl (by decide) ⟨by decide, rfl⟩ ⟨by decide, rfl, rfl⟩ rfl rfl, rfl⟩
set_option maxRecDepth 100000 in
theorem fc_ci104_8 (hK : zKK ST) (hb104 : sx_bit Wm 104 = true) (hT : zTJ φ μ) (hbd : 1 ≤ bud.1 ∧ 25 ≤ bud.2.1) : zC D Wm ST b0 l Sg zM29 bud [(2, 8), (2, 104)] μ (fun st' μ' => st' = [] ∧ zTJ φ μ' ∧ μ' = pm_cpy μ 104 8 12) := by
  refine pm_blk hK zmm29 [] 8 8 [(2, 8), (2, 104)] [(0, 12), (0, 12), (0, 0), (2, 104), (0, 0), (2, 8)] μ [] rfl trivial ?_
  refine pm_call hK zmm29 (427, 1, 30, 2) zM30 (0, 0) [(0, 12), (0, 12)] [(0, 0), (2, 104), (0, 0), (2, 8)] rfl rfl rfl rfl ⟨by omega, by rw [zn30]; omega⟩ (zh_min hK ⟨Nat.le_refl _, Nat.le_refl _⟩) (fun st1 μc1 hp1 => ?_)
  obtain ⟨rfl, rfl⟩ := hp1
  refine zp_acw hK zmm29 (idx := 432) (r := 104) (r' := 8) (n := 12) (g := zG104) (g' := zG8) (t := (0, -1, 17)) (t' := (0, -1, 17)) (List.mem_of_getElem? (i := 0) rfl) rfl rfl rfl ⟨rfl, rfl, rfl, rfl⟩ ⟨rfl, rfl, rfl⟩ hb104 ⟨by omega, by have h9 : pm_cs [] = 0 := rfl; omega⟩ (by decide) ?_
  exact pm_vret rfl rfl ⟨rfl, zTJ_cpy hT (t := (0, -1, 17)) (g := zG104) (g' := zG8) rfl rfl (by decide) ⟨by decide, rfl⟩ ⟨by decide, rfl, rfl⟩ rfl rfl, rfl⟩
set_option maxRecDepth 100000 in
theorem fc_ci105_9 (hK : zKK ST) (hb105 : sx_bit Wm 105 = true) (hT : zTJ φ μ) (hbd : 1 ≤ bud.1 ∧ 25 ≤ bud.2.1) : zC D Wm ST b0 l Sg zM29 bud [(2, 9), (2, 105)] μ (fun st' μ' => st' = [] ∧ zTJ φ μ' ∧ μ' = pm_cpy μ 105 9 12) := by
  refine pm_blk hK zmm29 [] 8 8 [(2, 9), (2, 105)] [(0, 12), (0, 12), (0, 0), (2, 105), (0, 0), (2, 9)] μ [] rfl trivial ?_
  refine pm_call hK zmm29 (427, 1, 30, 2) zM30 (0, 0) [(0, 12), (0, 12)] [(0, 0), (2, 105), (0, 0), (2, 9)] rfl rfl rfl rfl ⟨by omega, by rw [zn30]; omega⟩ (zh_min hK ⟨Nat.le_refl _, Nat.le_refl _⟩) (fun st1 μc1 hp1 => ?_)
  obtain ⟨rfl, rfl⟩ := hp1
  refine zp_acw hK zmm29 (idx := 432) (r := 105) (r' := 9) (n := 12) (g := zG105) (g' := zG9) (t := (0, -1, 17)) (t' := (0, -1, 17)) (List.mem_of_getElem? (i := 0) rfl) rfl rfl rfl ⟨rfl, rfl, rfl, rfl⟩ ⟨rfl, rfl, rfl⟩ hb105 ⟨by omega, by have h9 : pm_cs [] = 0 := rfl; omega⟩ (by decide) ?_
  exact pm_vret rfl rfl ⟨rfl, zTJ_cpy hT (t := (0, -1, 17)) (g := zG105) (g' := zG9) rfl rfl (by decide) ⟨by decide, rfl⟩ ⟨by decide, rfl, rfl⟩ rfl rfl, rfl⟩
set_option maxRecDepth 100000 in
theorem fc_ci106_10 (hK : zKK ST) (hb106 : sx_bit Wm 106 = true) (hT : zTJ φ μ) (hbd : 1 ≤ bud.1 ∧ 25 ≤ bud.2.1) : zC D Wm ST b0 l Sg zM29 bud [(2, 10), (2, 106)] μ (fun st' μ' => st' = [] ∧ zTJ φ μ' ∧ μ' = pm_cpy μ 106 10 12) := by
  refine pm_blk hK zmm29 [] 8 8 [(2, 10), (2, 106)] [(0, 12), (0, 12), (0, 0), (2, 106), (0, 0), (2, 10)] μ [] rfl trivial ?_
  refine pm_call hK zmm29 (427, 1, 30, 2) zM30 (0, 0) [(0, 12), (0, 12)] [(0, 0), (2, 106), (0, 0), (2, 10)] rfl rfl rfl rfl ⟨by omega, by rw [zn30]; omega⟩ (zh_min hK ⟨Nat.le_refl _, Nat.le_refl _⟩) (fun st1 μc1 hp1 => ?_)
  obtain ⟨rfl, rfl⟩ := hp1
  refine zp_acw hK zmm29 (idx := 432) (r := 106) (r' := 10) (n := 12) (g := zG106) (g' := zG10) (t := (0, -2147483648, 2147483647)) (t' := (0, -2147483648, 2147483647)) (List.mem_of_getElem? (i := 0) rfl) rfl rfl rfl ⟨rfl, rfl, rfl, rfl⟩ ⟨rfl, rfl, rfl⟩ hb106 ⟨by omega, by have h9 : pm_cs [] = 0 := rfl; omega⟩ (by decide) ?_
  exact pm_vret rfl rfl ⟨rfl, zTJ_cpy hT (t := (0, -2147483648, 2147483647)) (g := zG106) (g' := zG10) rfl rfl (by decide) ⟨by decide, rfl⟩ ⟨by decide, rfl, rfl⟩ rfl rfl, rfl⟩
set_option maxRecDepth 100000 in
theorem fc_ci107_11 (hK : zKK ST) (hb107 : sx_bit Wm 107 = true) (hT : zTJ φ μ) (hbd : 1 ≤ bud.1 ∧ 25 ≤ bud.2.1) : zC D Wm ST b0 l Sg zM29 bud [(2, 11), (2, 107)] μ (fun st' μ' => st' = [] ∧ zTJ φ μ' ∧ μ' = pm_cpy μ 107 11 18) := by
  refine pm_blk hK zmm29 [] 8 8 [(2, 11), (2, 107)] [(0, 18), (0, 18), (0, 0), (2, 107), (0, 0), (2, 11)] μ [] rfl trivial ?_
  refine pm_call hK zmm29 (427, 1, 30, 2) zM30 (0, 0) [(0, 18), (0, 18)] [(0, 0), (2, 107), (0, 0), (2, 11)] rfl rfl rfl rfl ⟨by omega, by rw [zn30]; omega⟩ (zh_min hK ⟨Nat.le_refl _, Nat.le_refl _⟩) (fun st1 μc1 hp1 => ?_)
  obtain ⟨rfl, rfl⟩ := hp1
  refine zp_acw hK zmm29 (idx := 432) (r := 107) (r' := 11) (n := 18) (g := zG107) (g' := zG11) (t := (0, -2147483648, 9999)) (t' := (0, -2147483648, 9999)) (List.mem_of_getElem? (i := 0) rfl) rfl rfl rfl ⟨rfl, rfl, rfl, rfl⟩ ⟨rfl, rfl, rfl⟩ hb107 ⟨by omega, by have h9 : pm_cs [] = 0 := rfl; omega⟩ (by decide) ?_
  exact pm_vret rfl rfl ⟨rfl, zTJ_cpy hT (t := (0, -2147483648, 9999)) (g := zG107) (g' := zG11) rfl rfl (by decide) ⟨by decide, rfl⟩ ⟨by decide, rfl, rfl⟩ rfl rfl, rfl⟩
set_option maxRecDepth 100000 in
theorem fc_ci108_12 (hK : zKK ST) (hb108 : sx_bit Wm 108 = true) (hT : zTJ φ μ) (hbd : 1 ≤ bud.1 ∧ 25 ≤ bud.2.1) : zC D Wm ST b0 l Sg zM29 bud [(2, 12), (2, 108)] μ (fun st' μ' => st' = [] ∧ zTJ φ μ' ∧ μ' = pm_cpy μ 108 12 18) := by
  refine pm_blk hK zmm29 [] 8 8 [(2, 12), (2, 108)] [(0, 18), (0, 18), (0, 0), (2, 108), (0, 0), (2, 12)] μ [] rfl trivial ?_
  refine pm_call hK zmm29 (427, 1, 30, 2) zM30 (0, 0) [(0, 18), (0, 18)] [(0, 0), (2, 108), (0, 0), (2, 12)] rfl rfl rfl rfl ⟨by omega, by rw [zn30]; omega⟩ (zh_min hK ⟨Nat.le_refl _, Nat.le_refl _⟩) (fun st1 μc1 hp1 => ?_)
  obtain ⟨rfl, rfl⟩ := hp1
  refine zp_acw hK zmm29 (idx := 432) (r := 108) (r' := 12) (n := 18) (g := zG108) (g' := zG12) (t := (0, 0, 9)) (t' := (0, 0, 9)) (List.mem_of_getElem? (i := 0) rfl) rfl rfl rfl ⟨rfl, rfl, rfl, rfl⟩ ⟨rfl, rfl, rfl⟩ hb108 ⟨by omega, by have h9 : pm_cs [] = 0 := rfl; omega⟩ (by decide) ?_
  exact pm_vret rfl rfl ⟨rfl, zTJ_cpy hT (t := (0, 0, 9)) (g := zG108) (g' := zG12) rfl rfl (by decide) ⟨by decide, rfl⟩ ⟨by decide, rfl, rfl⟩ rfl rfl, rfl⟩
set_option maxRecDepth 100000 in
theorem fc_ci109_13 (hK : zKK ST) (hb109 : sx_bit Wm 109 = true) (hT : zTJ φ μ) (hbd : 1 ≤ bud.1 ∧ 25 ≤ bud.2.1) : zC D Wm ST b0 l Sg zM29 bud [(2, 13), (2, 109)] μ (fun st' μ' => st' = [] ∧ zTJ φ μ' ∧ μ' = pm_cpy μ 109 13 18) := by
  refine pm_blk hK zmm29 [] 8 8 [(2, 13), (2, 109)] [(0, 18), (0, 18), (0, 0), (2, 109), (0, 0), (2, 13)] μ [] rfl trivial ?_
  refine pm_call hK zmm29 (427, 1, 30, 2) zM30 (0, 0) [(0, 18), (0, 18)] [(0, 0), (2, 109), (0, 0), (2, 13)] rfl rfl rfl rfl ⟨by omega, by rw [zn30]; omega⟩ (zh_min hK ⟨Nat.le_refl _, Nat.le_refl _⟩) (fun st1 μc1 hp1 => ?_)
  obtain ⟨rfl, rfl⟩ := hp1
  refine zp_acw hK zmm29 (idx := 432) (r := 109) (r' := 13) (n := 18) (g := zG109) (g' := zG13) (t := (0, -1, 11)) (t' := (0, -1, 11)) (List.mem_of_getElem? (i := 0) rfl) rfl rfl rfl ⟨rfl, rfl, rfl, rfl⟩ ⟨rfl, rfl, rfl⟩ hb109 ⟨by omega, by have h9 : pm_cs [] = 0 := rfl; omega⟩ (by decide) ?_
  exact pm_vret rfl rfl ⟨rfl, zTJ_cpy hT (t := (0, -1, 11)) (g := zG109) (g' := zG13) rfl rfl (by decide) ⟨by decide, rfl⟩ ⟨by decide, rfl, rfl⟩ rfl rfl, rfl⟩
set_option maxRecDepth 100000 in
theorem fc_ci110_14 (hK : zKK ST) (hb110 : sx_bit Wm 110 = true) (hT : zTJ φ μ) (hbd : 1 ≤ bud.1 ∧ 25 ≤ bud.2.1) : zC D Wm ST b0 l Sg zM29 bud [(2, 14), (2, 110)] μ (fun st' μ' => st' = [] ∧ zTJ φ μ' ∧ μ' = pm_cpy μ 110 14 18) := by
  refine pm_blk hK zmm29 [] 8 8 [(2, 14), (2, 110)] [(0, 18), (0, 18), (0, 0), (2, 110), (0, 0), (2, 14)] μ [] rfl trivial ?_
  refine pm_call hK zmm29 (427, 1, 30, 2) zM30 (0, 0) [(0, 18), (0, 18)] [(0, 0), (2, 110), (0, 0), (2, 14)] rfl rfl rfl rfl ⟨by omega, by rw [zn30]; omega⟩ (zh_min hK ⟨Nat.le_refl _, Nat.le_refl _⟩) (fun st1 μc1 hp1 => ?_)
  obtain ⟨rfl, rfl⟩ := hp1
  refine zp_acw hK zmm29 (idx := 432) (r := 110) (r' := 14) (n := 18) (g := zG110) (g' := zG14) (t := (0, -2147483648, 2147483647)) (t' := (0, -2147483648, 2147483647)) (List.mem_of_getElem? (i := 0) rfl) rfl rfl rfl ⟨rfl, rfl, rfl, rfl⟩ ⟨rfl, rfl, rfl⟩ hb110 ⟨by omega, by have h9 : pm_cs [] = 0 := rfl; omega⟩ (by decide) ?_
  exact pm_vret rfl rfl ⟨rfl, zTJ_cpy hT (t := (0, -2147483648, 2147483647)) (g := zG110) (g' := zG14) rfl rfl (by decide) ⟨by decide, rfl⟩ ⟨by decide, rfl, rfl⟩ rfl rfl, rfl⟩
set_option maxRecDepth 100000 in
theorem fc_ci111_15 (hK : zKK ST) (hb111 : sx_bit Wm 111 = true) (hT : zTJ φ μ) (hbd : 1 ≤ bud.1 ∧ 25 ≤ bud.2.1) : zC D Wm ST b0 l Sg zM29 bud [(2, 15), (2, 111)] μ (fun st' μ' => st' = [] ∧ zTJ φ μ' ∧ μ' = pm_cpy μ 111 15 18) := by
  refine pm_blk hK zmm29 [] 8 8 [(2, 15), (2, 111)] [(0, 18), (0, 18), (0, 0), (2, 111), (0, 0), (2, 15)] μ [] rfl trivial ?_
  refine pm_call hK zmm29 (427, 1, 30, 2) zM30 (0, 0) [(0, 18), (0, 18)] [(0, 0), (2, 111), (0, 0), (2, 15)] rfl rfl rfl rfl ⟨by omega, by rw [zn30]; omega⟩ (zh_min hK ⟨Nat.le_refl _, Nat.le_refl _⟩) (fun st1 μc1 hp1 => ?_)
  obtain ⟨rfl, rfl⟩ := hp1
  refine zp_acw hK zmm29 (idx := 432) (r := 111) (r' := 15) (n := 18) (g := zG111) (g' := zG15) (t := (0, -2147483648, 2147483647)) (t' := (0, -2147483648, 2147483647)) (List.mem_of_getElem? (i := 0) rfl) rfl rfl rfl ⟨rfl, rfl, rfl, rfl⟩ ⟨rfl, rfl, rfl⟩ hb111 ⟨by omega, by have h9 : pm_cs [] = 0 := rfl; omega⟩ (by decide) ?_
  exact pm_vret rfl rfl ⟨rfl, zTJ_cpy hT (t := (0, -2147483648, 2147483647)) (g := zG111) (g' := zG15) rfl rfl (by decide) ⟨by decide, rfl⟩ ⟨by decide, rfl, rfl⟩ rfl rfl, rfl⟩
set_option maxRecDepth 100000 in
theorem fc_ac99_3 (hK : zKK ST) (hT : zTJ φ μ) (hb99 : sx_bit Wm 99 = true) (hb100 : sx_bit Wm 100 = true) (hb101 : sx_bit Wm 101 = true) (hb102 : sx_bit Wm 102 = true) (hb103 : sx_bit Wm 103 = true) (hb104 : sx_bit Wm 104 = true) (hb105 : sx_bit Wm 105 = true) (hb106 : sx_bit Wm 106 = true) (hb107 : sx_bit Wm 107 = true) (hb108 : sx_bit Wm 108 = true) (hb109 : sx_bit Wm 109 = true) (hb110 : sx_bit Wm 110 = true) (hb111 : sx_bit Wm 111 = true) (hbd : 2 ≤ bud.1 ∧ 46 ≤ bud.2.1) : zC D Wm ST b0 l Sg zM28 bud [(2, 99), (2, 3)] μ (fun st' μ' => st' = [] ∧ zTJ φ μ' ∧ fa_cp 99 3 12 μ μ') := by
  have hk : fa_cf 99 3 0 μ μ := fa_cf_0
  have f1 := zT_get hT zs3_0 (i := 0) (by omega) (by omega)
  refine pm_blk hK zmm28 [] 4 8 [(2, 99), (2, 3)] [] (pm_up μ 99 0 (μ 3 0)) [sx_bit Wm 99 = true] rfl ⟨hb99, trivial⟩ ?_
  obtain ⟨μ1, eμ1⟩ : ∃ μ', μ' = pm_up μ 99 0 (μ 3 0) := ⟨_, rfl⟩
  rw [← eμ1]
  have hTμ1 : zTJ φ μ1 := by rw [eμ1]; exact zT_up hT zs99_0 rfl (i := 0) (by omega) (by omega) (by omega) (by omega)
  have hk : fa_cf 99 3 1 μ μ1 := fa_cf_s (j := 0) hk eμ1 rfl (by decide)
  have g2 : μ1 3 1 = μ 3 1 := by rw [eμ1, pm_up_off (by decide)]
  have f3 := zT_get hTμ1 zs3_1 (i := 1) (by omega) (by omega)
  refine pm_blk hK zmm28 [] 4 16 [(2, 99), (2, 3)] [] (pm_up μ1 99 1 (μ1 3 1)) [sx_bit Wm 99 = true] rfl ⟨hb99, trivial⟩ ?_
  obtain ⟨μ2, eμ2⟩ : ∃ μ', μ' = pm_up μ1 99 1 (μ1 3 1) := ⟨_, rfl⟩
  rw [← eμ2]
  have hTμ2 : zTJ φ μ2 := by rw [eμ2]; exact zT_up hTμ1 zs99_1 rfl (i := 1) (by omega) (by omega) (by omega) (by omega)
  have hk : fa_cf 99 3 2 μ μ2 := fa_cf_s (j := 1) hk eμ2 rfl (by decide)
  have g4 : μ2 3 2 = μ 3 2 := by rw [eμ2, pm_up_off (by decide), eμ1, pm_up_off (by decide)]
  have f5 := zT_get hTμ2 zs3_2 (i := 2) (by omega) (by omega)
  refine pm_blk hK zmm28 [] 4 24 [(2, 99), (2, 3)] [] (pm_up μ2 99 2 (μ2 3 2)) [sx_bit Wm 99 = true] rfl ⟨hb99, trivial⟩ ?_
  obtain ⟨μ3, eμ3⟩ : ∃ μ', μ' = pm_up μ2 99 2 (μ2 3 2) := ⟨_, rfl⟩
  rw [← eμ3]
  have hTμ3 : zTJ φ μ3 := by rw [eμ3]; exact zT_up hTμ2 zs99_2 rfl (i := 2) (by omega) (by omega) (by omega) (by omega)
  have hk : fa_cf 99 3 3 μ μ3 := fa_cf_s (j := 2) hk eμ3 rfl (by decide)
  have g6 : μ3 3 3 = μ 3 3 := by rw [eμ3, pm_up_off (by decide), eμ2, pm_up_off (by decide), eμ1, pm_up_off (by decide)]
  have f7 := zT_get hTμ3 zs3_3 (i := 3) (by omega) (by omega)
  refine pm_blk hK zmm28 [] 4 32 [(2, 99), (2, 3)] [] (pm_up μ3 99 3 (μ3 3 3)) [sx_bit Wm 99 = true] rfl ⟨hb99, trivial⟩ ?_
  obtain ⟨μ4, eμ4⟩ : ∃ μ', μ' = pm_up μ3 99 3 (μ3 3 3) := ⟨_, rfl⟩
  rw [← eμ4]
  have hTμ4 : zTJ φ μ4 := by rw [eμ4]; exact zT_up hTμ3 zs99_3 rfl (i := 3) (by omega) (by omega) (by omega) (by omega)
  have hk : fa_cf 99 3 4 μ μ4 := fa_cf_s (j := 3) hk eμ4 rfl (by decide)
  have g8 : μ4 3 4 = μ 3 4 := by rw [eμ4, pm_up_off (by decide), eμ3, pm_up_off (by decide), eμ2, pm_up_off (by decide), eμ1, pm_up_off (by decide)]
  have f9 := zT_get hTμ4 zs3_4 (i := 4) (by omega) (by omega)
  refine pm_blk hK zmm28 [] 4 40 [(2, 99), (2, 3)] [] (pm_up μ4 99 4 (μ4 3 4)) [sx_bit Wm 99 = true] rfl ⟨hb99, trivial⟩ ?_
  obtain ⟨μ5, eμ5⟩ : ∃ μ', μ' = pm_up μ4 99 4 (μ4 3 4) := ⟨_, rfl⟩
  rw [← eμ5]
  have hTμ5 : zTJ φ μ5 := by rw [eμ5]; exact zT_up hTμ4 zs99_4 rfl (i := 4) (by omega) (by omega) (by omega) (by omega)
  have hk : fa_cf 99 3 5 μ μ5 := fa_cf_s (j := 4) hk eμ5 rfl (by decide)
  have hc := fa_cp_0 hk
  refine pm_blk hK zmm28 [] 4 48 [(2, 99), (2, 3)] [(2, 100), (2, 4)] μ5 [] rfl trivial ?_
  refine pm_call hK zmm28 (91, 1, 29, 2) zM29 (1, 25) [(2, 4), (2, 100)] [] rfl rfl rfl rfl ⟨by omega, by rw [zn29]; omega⟩ (fc_ci100_4 hK hb100 hTμ5 ⟨Nat.le_refl _, Nat.le_refl _⟩) (fun st1 μc1 hp1 => ?_)
  obtain ⟨rfl, hTc1, ec1⟩ := hp1
  have hc : fa_cp 99 3 1 μ μc1 := fa_cp_s (j := 0) hc ec1 rfl rfl (by decide) (by decide) (by decide)
  refine pm_blk hK zmm28 [] 4 59 [(2, 99), (2, 3)] [(2, 101), (2, 5)] μc1 [] rfl trivial ?_
  refine pm_call hK zmm28 (91, 1, 29, 2) zM29 (1, 25) [(2, 5), (2, 101)] [] rfl rfl rfl rfl ⟨by omega, by rw [zn29]; omega⟩ (fc_ci101_5 hK hb101 hTc1 ⟨Nat.le_refl _, Nat.le_refl _⟩) (fun st2 μc2 hp2 => ?_)
  obtain ⟨rfl, hTc2, ec2⟩ := hp2
  have hc : fa_cp 99 3 2 μ μc2 := fa_cp_s (j := 1) hc ec2 rfl rfl (by decide) (by decide) (by decide)
  refine pm_blk hK zmm28 [] 4 70 [(2, 99), (2, 3)] [(2, 102), (2, 6)] μc2 [] rfl trivial ?_
  refine pm_call hK zmm28 (91, 1, 29, 2) zM29 (1, 25) [(2, 6), (2, 102)] [] rfl rfl rfl rfl ⟨by omega, by rw [zn29]; omega⟩ (fc_ci102_6 hK hb102 hTc2 ⟨Nat.le_refl _, Nat.le_refl _⟩) (fun st3 μc3 hp3 => ?_)
  obtain ⟨rfl, hTc3, ec3⟩ := hp3
  have hc : fa_cp 99 3 3 μ μc3 := fa_cp_s (j := 2) hc ec3 rfl rfl (by decide) (by decide) (by decide)
  refine pm_blk hK zmm28 [] 4 81 [(2, 99), (2, 3)] [(2, 103), (2, 7)] μc3 [] rfl trivial ?_
  refine pm_call hK zmm28 (91, 1, 29, 2) zM29 (1, 25) [(2, 7), (2, 103)] [] rfl rfl rfl rfl ⟨by omega, by rw [zn29]; omega⟩ (fc_ci103_7 hK hb103 hTc3 ⟨Nat.le_refl _, Nat.le_refl _⟩) (fun st4 μc4 hp4 => ?_)
  obtain ⟨rfl, hTc4, ec4⟩ := hp4
  have hc : fa_cp 99 3 4 μ μc4 := fa_cp_s (j := 3) hc ec4 rfl rfl (by decide) (by decide) (by decide)
  refine pm_blk hK zmm28 [] 4 92 [(2, 99), (2, 3)] [(2, 104), (2, 8)] μc4 [] rfl trivial ?_
  refine pm_call hK zmm28 (91, 1, 29, 2) zM29 (1, 25) [(2, 8), (2, 104)] [] rfl rfl rfl rfl ⟨by omega, by rw [zn29]; omega⟩ (fc_ci104_8 hK hb104 hTc4 ⟨Nat.le_refl _, Nat.le_refl _⟩) (fun st5 μc5 hp5 => ?_)
  obtain ⟨rfl, hTc5, ec5⟩ := hp5
  have hc : fa_cp 99 3 5 μ μc5 := fa_cp_s (j := 4) hc ec5 rfl rfl (by decide) (by decide) (by decide)
  refine pm_blk hK zmm28 [] 4 103 [(2, 99), (2, 3)] [(2, 105), (2, 9)] μc5 [] rfl trivial ?_
  refine pm_call hK zmm28 (91, 1, 29, 2) zM29 (1, 25) [(2, 9), (2, 105)] [] rfl rfl rfl rfl ⟨by omega, by rw [zn29]; omega⟩ (fc_ci105_9 hK hb105 hTc5 ⟨Nat.le_refl _, Nat.le_refl _⟩) (fun st6 μc6 hp6 => ?_)
  obtain ⟨rfl, hTc6, ec6⟩ := hp6
  have hc : fa_cp 99 3 6 μ μc6 := fa_cp_s (j := 5) hc ec6 rfl rfl (by decide) (by decide) (by decide)
  refine pm_blk hK zmm28 [] 4 114 [(2, 99), (2, 3)] [(2, 106), (2, 10)] μc6 [] rfl trivial ?_
  refine pm_call hK zmm28 (91, 1, 29, 2) zM29 (1, 25) [(2, 10), (2, 106)] [] rfl rfl rfl rfl ⟨by omega, by rw [zn29]; omega⟩ (fc_ci106_10 hK hb106 hTc6 ⟨Nat.le_refl _, Nat.le_refl _⟩) (fun st7 μc7 hp7 => ?_)
  obtain ⟨rfl, hTc7, ec7⟩ := hp7
  have hc : fa_cp 99 3 7 μ μc7 := fa_cp_s (j := 6) hc ec7 rfl rfl (by decide) (by decide) (by decide)
  refine pm_blk hK zmm28 [] 4 125 [(2, 99), (2, 3)] [(2, 107), (2, 11)] μc7 [] rfl trivial ?_
  refine pm_call hK zmm28 (91, 1, 29, 2) zM29 (1, 25) [(2, 11), (2, 107)] [] rfl rfl rfl rfl ⟨by omega, by rw [zn29]; omega⟩ (fc_ci107_11 hK hb107 hTc7 ⟨Nat.le_refl _, Nat.le_refl _⟩) (fun st8 μc8 hp8 => ?_)
  obtain ⟨rfl, hTc8, ec8⟩ := hp8
  have hc : fa_cp 99 3 8 μ μc8 := fa_cp_s (j := 7) hc ec8 rfl rfl (by decide) (by decide) (by decide)
  refine pm_blk hK zmm28 [] 4 136 [(2, 99), (2, 3)] [(2, 108), (2, 12)] μc8 [] rfl trivial ?_
  refine pm_call hK zmm28 (91, 1, 29, 2) zM29 (1, 25) [(2, 12), (2, 108)] [] rfl rfl rfl rfl ⟨by omega, by rw [zn29]; omega⟩ (fc_ci108_12 hK hb108 hTc8 ⟨Nat.le_refl _, Nat.le_refl _⟩) (fun st9 μc9 hp9 => ?_)
  obtain ⟨rfl, hTc9, ec9⟩ := hp9
  have hc : fa_cp 99 3 9 μ μc9 := fa_cp_s (j := 8) hc ec9 rfl rfl (by decide) (by decide) (by decide)
  refine pm_blk hK zmm28 [] 4 147 [(2, 99), (2, 3)] [(2, 109), (2, 13)] μc9 [] rfl trivial ?_
  refine pm_call hK zmm28 (91, 1, 29, 2) zM29 (1, 25) [(2, 13), (2, 109)] [] rfl rfl rfl rfl ⟨by omega, by rw [zn29]; omega⟩ (fc_ci109_13 hK hb109 hTc9 ⟨Nat.le_refl _, Nat.le_refl _⟩) (fun st10 μc10 hp10 => ?_)
  obtain ⟨rfl, hTc10, ec10⟩ := hp10
  have hc : fa_cp 99 3 10 μ μc10 := fa_cp_s (j := 9) hc ec10 rfl rfl (by decide) (by decide) (by decide)
  refine pm_blk hK zmm28 [] 4 158 [(2, 99), (2, 3)] [(2, 110), (2, 14)] μc10 [] rfl trivial ?_
  refine pm_call hK zmm28 (91, 1, 29, 2) zM29 (1, 25) [(2, 14), (2, 110)] [] rfl rfl rfl rfl ⟨by omega, by rw [zn29]; omega⟩ (fc_ci110_14 hK hb110 hTc10 ⟨Nat.le_refl _, Nat.le_refl _⟩) (fun st11 μc11 hp11 => ?_)
  obtain ⟨rfl, hTc11, ec11⟩ := hp11
  have hc : fa_cp 99 3 11 μ μc11 := fa_cp_s (j := 10) hc ec11 rfl rfl (by decide) (by decide) (by decide)
  refine pm_blk hK zmm28 [] 4 169 [(2, 99), (2, 3)] [(2, 111), (2, 15)] μc11 [] rfl trivial ?_
  refine pm_call hK zmm28 (91, 1, 29, 2) zM29 (1, 25) [(2, 15), (2, 111)] [] rfl rfl rfl rfl ⟨by omega, by rw [zn29]; omega⟩ (fc_ci111_15 hK hb111 hTc11 ⟨Nat.le_refl _, Nat.le_refl _⟩) (fun st12 μc12 hp12 => ?_)
  obtain ⟨rfl, hTc12, ec12⟩ := hp12
  have hc : fa_cp 99 3 12 μ μc12 := fa_cp_s (j := 11) hc ec12 rfl rfl (by decide) (by decide) (by decide)
  exact pm_vret rfl rfl ⟨rfl, hTc12, hc⟩
set_option maxRecDepth 100000 in
theorem fc_ci113_4 (hK : zKK ST) (hb113 : sx_bit Wm 113 = true) (hT : zTJ φ μ) (hbd : 1 ≤ bud.1 ∧ 25 ≤ bud.2.1) : zC D Wm ST b0 l Sg zM29 bud [(2, 4), (2, 113)] μ (fun st' μ' => st' = [] ∧ zTJ φ μ' ∧ μ' = pm_cpy μ 113 4 12) := by
  refine pm_blk hK zmm29 [] 8 8 [(2, 4), (2, 113)] [(0, 12), (0, 12), (0, 0), (2, 113), (0, 0), (2, 4)] μ [] rfl trivial ?_
  refine pm_call hK zmm29 (427, 1, 30, 2) zM30 (0, 0) [(0, 12), (0, 12)] [(0, 0), (2, 113), (0, 0), (2, 4)] rfl rfl rfl rfl ⟨by omega, by rw [zn30]; omega⟩ (zh_min hK ⟨Nat.le_refl _, Nat.le_refl _⟩) (fun st1 μc1 hp1 => ?_)
  obtain ⟨rfl, rfl⟩ := hp1
  refine zp_acw hK zmm29 (idx := 432) (r := 113) (r' := 4) (n := 12) (g := zG113) (g' := zG4) (t := (0, -1, 999)) (t' := (0, -1, 999)) (List.mem_of_getElem? (i := 0) rfl) rfl rfl rfl ⟨rfl, rfl, rfl, rfl⟩ ⟨rfl, rfl, rfl⟩ hb113 ⟨by omega, by have h9 : pm_cs [] = 0 := rfl; omega⟩ (by decide) ?_
  exact pm_vret rfl rfl ⟨rfl, zTJ_cpy hT (t := (0, -1, 999)) (g := zG113) (g' := zG4) rfl rfl (by decide) ⟨by decide, rfl⟩ ⟨by decide, rfl, rfl⟩ rfl rfl, rfl⟩
set_option maxRecDepth 100000 in
theorem fc_ci114_5 (hK : zKK ST) (hb114 : sx_bit Wm 114 = true) (hT : zTJ φ μ) (hbd : 1 ≤ bud.1 ∧ 25 ≤ bud.2.1) : zC D Wm ST b0 l Sg zM29 bud [(2, 5), (2, 114)] μ (fun st' μ' => st' = [] ∧ zTJ φ μ' ∧ μ' = pm_cpy μ 114 5 12) := by
  refine pm_blk hK zmm29 [] 8 8 [(2, 5), (2, 114)] [(0, 12), (0, 12), (0, 0), (2, 114), (0, 0), (2, 5)] μ [] rfl trivial ?_
  refine pm_call hK zmm29 (427, 1, 30, 2) zM30 (0, 0) [(0, 12), (0, 12)] [(0, 0), (2, 114), (0, 0), (2, 5)] rfl rfl rfl rfl ⟨by omega, by rw [zn30]; omega⟩ (zh_min hK ⟨Nat.le_refl _, Nat.le_refl _⟩) (fun st1 μc1 hp1 => ?_)
  obtain ⟨rfl, rfl⟩ := hp1
  refine zp_acw hK zmm29 (idx := 432) (r := 114) (r' := 5) (n := 12) (g := zG114) (g' := zG5) (t := (0, -1, 999)) (t' := (0, -1, 999)) (List.mem_of_getElem? (i := 0) rfl) rfl rfl rfl ⟨rfl, rfl, rfl, rfl⟩ ⟨rfl, rfl, rfl⟩ hb114 ⟨by omega, by have h9 : pm_cs [] = 0 := rfl; omega⟩ (by decide) ?_
  exact pm_vret rfl rfl ⟨rfl, zTJ_cpy hT (t := (0, -1, 999)) (g := zG114) (g' := zG5) rfl rfl (by decide) ⟨by decide, rfl⟩ ⟨by decide, rfl, rfl⟩ rfl rfl, rfl⟩
set_option maxRecDepth 100000 in
theorem fc_ci115_6 (hK : zKK ST) (hb115 : sx_bit Wm 115 = true) (hT : zTJ φ μ) (hbd : 1 ≤ bud.1 ∧ 25 ≤ bud.2.1) : zC D Wm ST b0 l Sg zM29 bud [(2, 6), (2, 115)] μ (fun st' μ' => st' = [] ∧ zTJ φ μ' ∧ μ' = pm_cpy μ 115 6 12) := by
  refine pm_blk hK zmm29 [] 8 8 [(2, 6), (2, 115)] [(0, 12), (0, 12), (0, 0), (2, 115), (0, 0), (2, 6)] μ [] rfl trivial ?_
  refine pm_call hK zmm29 (427, 1, 30, 2) zM30 (0, 0) [(0, 12), (0, 12)] [(0, 0), (2, 115), (0, 0), (2, 6)] rfl rfl rfl rfl ⟨by omega, by rw [zn30]; omega⟩ (zh_min hK ⟨Nat.le_refl _, Nat.le_refl _⟩) (fun st1 μc1 hp1 => ?_)
  obtain ⟨rfl, rfl⟩ := hp1
  refine zp_acw hK zmm29 (idx := 432) (r := 115) (r' := 6) (n := 12) (g := zG115) (g' := zG6) (t := (0, -2147483648, 2147483647)) (t' := (0, -2147483648, 2147483647)) (List.mem_of_getElem? (i := 0) rfl) rfl rfl rfl ⟨rfl, rfl, rfl, rfl⟩ ⟨rfl, rfl, rfl⟩ hb115 ⟨by omega, by have h9 : pm_cs [] = 0 := rfl; omega⟩ (by decide) ?_
  exact pm_vret rfl rfl ⟨rfl, zTJ_cpy hT (t := (0, -2147483648, 2147483647)) (g := zG115) (g' := zG6) rfl rfl (by decide) ⟨by decide, rfl⟩ ⟨by decide, rfl, rfl⟩ rfl rfl, rfl⟩
set_option maxRecDepth 100000 in
theorem fc_ci116_7 (hK : zKK ST) (hb116 : sx_bit Wm 116 = true) (hT : zTJ φ μ) (hbd : 1 ≤ bud.1 ∧ 25 ≤ bud.2.1) : zC D Wm ST b0 l Sg zM29 bud [(2, 7), (2, 116)] μ (fun st' μ' => st' = [] ∧ zTJ φ μ' ∧ μ' = pm_cpy μ 116 7 12) := by
  refine pm_blk hK zmm29 [] 8 8 [(2, 7), (2, 116)] [(0, 12), (0, 12), (0, 0), (2, 116), (0, 0), (2, 7)] μ [] rfl trivial ?_
  refine pm_call hK zmm29 (427, 1, 30, 2) zM30 (0, 0) [(0, 12), (0, 12)] [(0, 0), (2, 116), (0, 0), (2, 7)] rfl rfl rfl rfl ⟨by omega, by rw [zn30]; omega⟩ (zh_min hK ⟨Nat.le_refl _, Nat.le_refl _⟩) (fun st1 μc1 hp1 => ?_)
  obtain ⟨rfl, rfl⟩ := hp1
  refine zp_acw hK zmm29 (idx := 432) (r := 116) (r' := 7) (n := 12) (g := zG116) (g' := zG7) (t := (0, 0, 1)) (t' := (0, 0, 1)) (List.mem_of_getElem? (i := 0) rfl) rfl rfl rfl ⟨rfl, rfl, rfl, rfl⟩ ⟨rfl, rfl, rfl⟩ hb116 ⟨by omega, by have h9 : pm_cs [] = 0 := rfl; omega⟩ (by decide) ?_
  exact pm_vret rfl rfl ⟨rfl, zTJ_cpy hT (t := (0, 0, 1)) (g := zG116) (g' := zG7) rfl rfl (by decide) ⟨by decide, rfl⟩ ⟨by decide, rfl, rfl⟩ rfl rfl, rfl⟩
set_option maxRecDepth 100000 in
theorem fc_ci117_8 (hK : zKK ST) (hb117 : sx_bit Wm 117 = true) (hT : zTJ φ μ) (hbd : 1 ≤ bud.1 ∧ 25 ≤ bud.2.1) : zC D Wm ST b0 l Sg zM29 bud [(2, 8), (2, 117)] μ (fun st' μ' => st' = [] ∧ zTJ φ μ' ∧ μ' = pm_cpy μ 117 8 12) := by
  refine pm_blk hK zmm29 [] 8 8 [(2, 8), (2, 117)] [(0, 12), (0, 12), (0, 0), (2, 117), (0, 0), (2, 8)] μ [] rfl trivial ?_
  refine pm_call hK zmm29 (427, 1, 30, 2) zM30 (0, 0) [(0, 12), (0, 12)] [(0, 0), (2, 117), (0, 0), (2, 8)] rfl rfl rfl rfl ⟨by omega, by rw [zn30]; omega⟩ (zh_min hK ⟨Nat.le_refl _, Nat.le_refl _⟩) (fun st1 μc1 hp1 => ?_)
  obtain ⟨rfl, rfl⟩ := hp1
  refine zp_acw hK zmm29 (idx := 432) (r := 117) (r' := 8) (n := 12) (g := zG117) (g' := zG8) (t := (0, -1, 17)) (t' := (0, -1, 17)) (List.mem_of_getElem? (i := 0) rfl) rfl rfl rfl ⟨rfl, rfl, rfl, rfl⟩ ⟨rfl, rfl, rfl⟩ hb117 ⟨by omega, by have h9 : pm_cs [] = 0 := rfl; omega⟩ (by decide) ?_
  exact pm_vret rfl rfl ⟨rfl, zTJ_cpy hT (t := (0, -1, 17)) (g := zG117) (g' := zG8) rfl rfl (by decide) ⟨by decide, rfl⟩ ⟨by decide, rfl, rfl⟩ rfl rfl, rfl⟩
set_option maxRecDepth 100000 in
theorem fc_ci118_9 (hK : zKK ST) (hb118 : sx_bit Wm 118 = true) (hT : zTJ φ μ) (hbd : 1 ≤ bud.1 ∧ 25 ≤ bud.2.1) : zC D Wm ST b0 l Sg zM29 bud [(2, 9), (2, 118)] μ (fun st' μ' => st' = [] ∧ zTJ φ μ' ∧ μ' = pm_cpy μ 118 9 12) := by
  refine pm_blk hK zmm29 [] 8 8 [(2, 9), (2, 118)] [(0, 12), (0, 12), (0, 0), (2, 118), (0, 0), (2, 9)] μ [] rfl trivial ?_
  refine pm_call hK zmm29 (427, 1, 30, 2) zM30 (0, 0) [(0, 12), (0, 12)] [(0, 0), (2, 118), (0, 0), (2, 9)] rfl rfl rfl rfl ⟨by omega, by rw [zn30]; omega⟩ (zh_min hK ⟨Nat.le_refl _, Nat.le_refl _⟩) (fun st1 μc1 hp1 => ?_)
  obtain ⟨rfl, rfl⟩ := hp1
  refine zp_acw hK zmm29 (idx := 432) (r := 118) (r' := 9) (n := 12) (g := zG118) (g' := zG9) (t := (0, -1, 17)) (t' := (0, -1, 17)) (List.mem_of_getElem? (i := 0) rfl) rfl rfl rfl ⟨rfl, rfl, rfl, rfl⟩ ⟨rfl, rfl, rfl⟩ hb118 ⟨by omega, by have h9 : pm_cs [] = 0 := rfl; omega⟩ (by decide) ?_
  exact pm_vret rfl rfl ⟨rfl, zTJ_cpy hT (t := (0, -1, 17)) (g := zG118) (g' := zG9) rfl rfl (by decide) ⟨by decide, rfl⟩ ⟨by decide, rfl, rfl⟩ rfl rfl, rfl⟩
set_option maxRecDepth 100000 in
theorem fc_ci119_10 (hK : zKK ST) (hb119 : sx_bit Wm 119 = true) (hT : zTJ φ μ) (hbd : 1 ≤ bud.1 ∧ 25 ≤ bud.2.1) : zC D Wm ST b0 l Sg zM29 bud [(2, 10), (2, 119)] μ (fun st' μ' => st' = [] ∧ zTJ φ μ' ∧ μ' = pm_cpy μ 119 10 12) := by
  refine pm_blk hK zmm29 [] 8 8 [(2, 10), (2, 119)] [(0, 12), (0, 12), (0, 0), (2, 119), (0, 0), (2, 10)] μ [] rfl trivial ?_
  refine pm_call hK zmm29 (427, 1, 30, 2) zM30 (0, 0) [(0, 12), (0, 12)] [(0, 0), (2, 119), (0, 0), (2, 10)] rfl rfl rfl rfl ⟨by omega, by rw [zn30]; omega⟩ (zh_min hK ⟨Nat.le_refl _, Nat.le_refl _⟩) (fun st1 μc1 hp1 => ?_)
  obtain ⟨rfl, rfl⟩ := hp1
  refine zp_acw hK zmm29 (idx := 432) (r := 119) (r' := 10) (n := 12) (g := zG119) (g' := zG10) (t := (0, -2147483648, 2147483647)) (t' := (0, -2147483648, 2147483647)) (List.mem_of_getElem? (i := 0) rfl) rfl rfl rfl ⟨rfl, rfl, rfl, rfl⟩ ⟨rfl, rfl, rfl⟩ hb119 ⟨by omega, by have h9 : pm_cs [] = 0 := rfl; omega⟩ (by decide) ?_
  exact pm_vret rfl rfl ⟨rfl, zTJ_cpy hT (t := (0, -2147483648, 2147483647)) (g := zG119) (g' := zG10) rfl rfl (by decide) ⟨by decide, rfl⟩ ⟨by decide, rfl, rfl⟩ rfl rfl, rfl⟩
set_option maxRecDepth 100000 in
theorem fc_ci120_11 (hK : zKK ST) (hb120 : sx_bit Wm 120 = true) (hT : zTJ φ μ) (hbd : 1 ≤ bud.1 ∧ 25 ≤ bud.2.1) : zC D Wm ST b0 l Sg zM29 bud [(2, 11), (2, 120)] μ (fun st' μ' => st' = [] ∧ zTJ φ μ' ∧ μ' = pm_cpy μ 120 11 18) := by
  refine pm_blk hK zmm29 [] 8 8 [(2, 11), (2, 120)] [(0, 18), (0, 18), (0, 0), (2, 120), (0, 0), (2, 11)] μ [] rfl trivial ?_
  refine pm_call hK zmm29 (427, 1, 30, 2) zM30 (0, 0) [(0, 18), (0, 18)] [(0, 0), (2, 120), (0, 0), (2, 11)] rfl rfl rfl rfl ⟨by omega, by rw [zn30]; omega⟩ (zh_min hK ⟨Nat.le_refl _, Nat.le_refl _⟩) (fun st1 μc1 hp1 => ?_)
  obtain ⟨rfl, rfl⟩ := hp1
  refine zp_acw hK zmm29 (idx := 432) (r := 120) (r' := 11) (n := 18) (g := zG120) (g' := zG11) (t := (0, -2147483648, 9999)) (t' := (0, -2147483648, 9999)) (List.mem_of_getElem? (i := 0) rfl) rfl rfl rfl ⟨rfl, rfl, rfl, rfl⟩ ⟨rfl, rfl, rfl⟩ hb120 ⟨by omega, by have h9 : pm_cs [] = 0 := rfl; omega⟩ (by decide) ?_
  exact pm_vret rfl rfl ⟨rfl, zTJ_cpy hT (t := (0, -2147483648, 9999)) (g := zG120) (g' := zG11) rfl rfl (by decide) ⟨by decide, rfl⟩ ⟨by decide, rfl, rfl⟩ rfl rfl, rfl⟩
set_option maxRecDepth 100000 in
theorem fc_ci121_12 (hK : zKK ST) (hb121 : sx_bit Wm 121 = true) (hT : zTJ φ μ) (hbd : 1 ≤ bud.1 ∧ 25 ≤ bud.2.1) : zC D Wm ST b0 l Sg zM29 bud [(2, 12), (2, 121)] μ (fun st' μ' => st' = [] ∧ zTJ φ μ' ∧ μ' = pm_cpy μ 121 12 18) := by
  refine pm_blk hK zmm29 [] 8 8 [(2, 12), (2, 121)] [(0, 18), (0, 18), (0, 0), (2, 121), (0, 0), (2, 12)] μ [] rfl trivial ?_
  refine pm_call hK zmm29 (427, 1, 30, 2) zM30 (0, 0) [(0, 18), (0, 18)] [(0, 0), (2, 121), (0, 0), (2, 12)] rfl rfl rfl rfl ⟨by omega, by rw [zn30]; omega⟩ (zh_min hK ⟨Nat.le_refl _, Nat.le_refl _⟩) (fun st1 μc1 hp1 => ?_)
  obtain ⟨rfl, rfl⟩ := hp1
  refine zp_acw hK zmm29 (idx := 432) (r := 121) (r' := 12) (n := 18) (g := zG121) (g' := zG12) (t := (0, 0, 9)) (t' := (0, 0, 9)) (List.mem_of_getElem? (i := 0) rfl) rfl rfl rfl ⟨rfl, rfl, rfl, rfl⟩ ⟨rfl, rfl, rfl⟩ hb121 ⟨by omega, by have h9 : pm_cs [] = 0 := rfl; omega⟩ (by decide) ?_
  exact pm_vret rfl rfl ⟨rfl, zTJ_cpy hT (t := (0, 0, 9)) (g := zG121) (g' := zG12) rfl rfl (by decide) ⟨by decide, rfl⟩ ⟨by decide, rfl, rfl⟩ rfl rfl, rfl⟩
set_option maxRecDepth 100000 in
theorem fc_ci122_13 (hK : zKK ST) (hb122 : sx_bit Wm 122 = true) (hT : zTJ φ μ) (hbd : 1 ≤ bud.1 ∧ 25 ≤ bud.2.1) : zC D Wm ST b0 l Sg zM29 bud [(2, 13), (2, 122)] μ (fun st' μ' => st' = [] ∧ zTJ φ μ' ∧ μ' = pm_cpy μ 122 13 18) := by
  refine pm_blk hK zmm29 [] 8 8 [(2, 13), (2, 122)] [(0, 18), (0, 18), (0, 0), (2, 122), (0, 0), (2, 13)] μ [] rfl trivial ?_
  refine pm_call hK zmm29 (427, 1, 30, 2) zM30 (0, 0) [(0, 18), (0, 18)] [(0, 0), (2, 122), (0, 0), (2, 13)] rfl rfl rfl rfl ⟨by omega, by rw [zn30]; omega⟩ (zh_min hK ⟨Nat.le_refl _, Nat.le_refl _⟩) (fun st1 μc1 hp1 => ?_)
  obtain ⟨rfl, rfl⟩ := hp1
  refine zp_acw hK zmm29 (idx := 432) (r := 122) (r' := 13) (n := 18) (g := zG122) (g' := zG13) (t := (0, -1, 11)) (t' := (0, -1, 11)) (List.mem_of_getElem? (i := 0) rfl) rfl rfl rfl ⟨rfl, rfl, rfl, rfl⟩ ⟨rfl, rfl, rfl⟩ hb122 ⟨by omega, by have h9 : pm_cs [] = 0 := rfl; omega⟩ (by decide) ?_
  exact pm_vret rfl rfl ⟨rfl, zTJ_cpy hT (t := (0, -1, 11)) (g := zG122) (g' := zG13) rfl rfl (by decide) ⟨by decide, rfl⟩ ⟨by decide, rfl, rfl⟩ rfl rfl, rfl⟩
set_option maxRecDepth 100000 in
theorem fc_ci123_14 (hK : zKK ST) (hb123 : sx_bit Wm 123 = true) (hT : zTJ φ μ) (hbd : 1 ≤ bud.1 ∧ 25 ≤ bud.2.1) : zC D Wm ST b0 l Sg zM29 bud [(2, 14), (2, 123)] μ (fun st' μ' => st' = [] ∧ zTJ φ μ' ∧ μ' = pm_cpy μ 123 14 18) := by
  refine pm_blk hK zmm29 [] 8 8 [(2, 14), (2, 123)] [(0, 18), (0, 18), (0, 0), (2, 123), (0, 0), (2, 14)] μ [] rfl trivial ?_
  refine pm_call hK zmm29 (427, 1, 30, 2) zM30 (0, 0) [(0, 18), (0, 18)] [(0, 0), (2, 123), (0, 0), (2, 14)] rfl rfl rfl rfl ⟨by omega, by rw [zn30]; omega⟩ (zh_min hK ⟨Nat.le_refl _, Nat.le_refl _⟩) (fun st1 μc1 hp1 => ?_)
  obtain ⟨rfl, rfl⟩ := hp1
  refine zp_acw hK zmm29 (idx := 432) (r := 123) (r' := 14) (n := 18) (g := zG123) (g' := zG14) (t := (0, -2147483648, 2147483647)) (t' := (0, -2147483648, 2147483647)) (List.mem_of_getElem? (i := 0) rfl) rfl rfl rfl ⟨rfl, rfl, rfl, rfl⟩ ⟨rfl, rfl, rfl⟩ hb123 ⟨by omega, by have h9 : pm_cs [] = 0 := rfl; omega⟩ (by decide) ?_
  exact pm_vret rfl rfl ⟨rfl, zTJ_cpy hT (t := (0, -2147483648, 2147483647)) (g := zG123) (g' := zG14) rfl rfl (by decide) ⟨by decide, rfl⟩ ⟨by decide, rfl, rfl⟩ rfl rfl, rfl⟩
set_option maxRecDepth 100000 in
theorem fc_ci124_15 (hK : zKK ST) (hb124 : sx_bit Wm 124 = true) (hT : zTJ φ μ) (hbd : 1 ≤ bud.1 ∧ 25 ≤ bud.2.1) : zC D Wm ST b0 l Sg zM29 bud [(2, 15), (2, 124)] μ (fun st' μ' => st' = [] ∧ zTJ φ μ' ∧ μ' = pm_cpy μ 124 15 18) := by
  refine pm_blk hK zmm29 [] 8 8 [(2, 15), (2, 124)] [(0, 18), (0, 18), (0, 0), (2, 124), (0, 0), (2, 15)] μ [] rfl trivial ?_
  refine pm_call hK zmm29 (427, 1, 30, 2) zM30 (0, 0) [(0, 18), (0, 18)] [(0, 0), (2, 124), (0, 0), (2, 15)] rfl rfl rfl rfl ⟨by omega, by rw [zn30]; omega⟩ (zh_min hK ⟨Nat.le_refl _, Nat.le_refl _⟩) (fun st1 μc1 hp1 => ?_)
  obtain ⟨rfl, rfl⟩ := hp1
  refine zp_acw hK zmm29 (idx := 432) (r := 124) (r' := 15) (n := 18) (g := zG124) (g' := zG15) (t := (0, -2147483648, 2147483647)) (t' := (0, -2147483648, 2147483647)) (List.mem_of_getElem? (i := 0) rfl) rfl rfl rfl ⟨rfl, rfl, rfl, rfl⟩ ⟨rfl, rfl, rfl⟩ hb124 ⟨by omega, by have h9 : pm_cs [] = 0 := rfl; omega⟩ (by decide) ?_
  exact pm_vret rfl rfl ⟨rfl, zTJ_cpy hT (t := (0, -2147483648, 2147483647)) (g := zG124) (g' := zG15) rfl rfl (by decide) ⟨by decide, rfl⟩ ⟨by decide, rfl, rfl⟩ rfl rfl, rfl⟩
set_option maxRecDepth 100000 in
theorem fc_ac112_3 (hK : zKK ST) (hT : zTJ φ μ) (hb112 : sx_bit Wm 112 = true) (hb113 : sx_bit Wm 113 = true) (hb114 : sx_bit Wm 114 = true) (hb115 : sx_bit Wm 115 = true) (hb116 : sx_bit Wm 116 = true) (hb117 : sx_bit Wm 117 = true) (hb118 : sx_bit Wm 118 = true) (hb119 : sx_bit Wm 119 = true) (hb120 : sx_bit Wm 120 = true) (hb121 : sx_bit Wm 121 = true) (hb122 : sx_bit Wm 122 = true) (hb123 : sx_bit Wm 123 = true) (hb124 : sx_bit Wm 124 = true) (hbd : 2 ≤ bud.1 ∧ 46 ≤ bud.2.1) : zC D Wm ST b0 l Sg zM28 bud [(2, 112), (2, 3)] μ (fun st' μ' => st' = [] ∧ zTJ φ μ' ∧ fa_cp 112 3 12 μ μ') := by
  have hk : fa_cf 112 3 0 μ μ := fa_cf_0
  have f1 := zT_get hT zs3_0 (i := 0) (by omega) (by omega)
  refine pm_blk hK zmm28 [] 4 8 [(2, 112), (2, 3)] [] (pm_up μ 112 0 (μ 3 0)) [sx_bit Wm 112 = true] rfl ⟨hb112, trivial⟩ ?_
  obtain ⟨μ1, eμ1⟩ : ∃ μ', μ' = pm_up μ 112 0 (μ 3 0) := ⟨_, rfl⟩
  rw [← eμ1]
  have hTμ1 : zTJ φ μ1 := by rw [eμ1]; exact zT_up hT zs112_0 rfl (i := 0) (by omega) (by omega) (by omega) (by omega)
  have hk : fa_cf 112 3 1 μ μ1 := fa_cf_s (j := 0) hk eμ1 rfl (by decide)
  have g2 : μ1 3 1 = μ 3 1 := by rw [eμ1, pm_up_off (by decide)]
  have f3 := zT_get hTμ1 zs3_1 (i := 1) (by omega) (by omega)
  refine pm_blk hK zmm28 [] 4 16 [(2, 112), (2, 3)] [] (pm_up μ1 112 1 (μ1 3 1)) [sx_bit Wm 112 = true] rfl ⟨hb112, trivial⟩ ?_
  obtain ⟨μ2, eμ2⟩ : ∃ μ', μ' = pm_up μ1 112 1 (μ1 3 1) := ⟨_, rfl⟩
  rw [← eμ2]
  have hTμ2 : zTJ φ μ2 := by rw [eμ2]; exact zT_up hTμ1 zs112_1 rfl (i := 1) (by omega) (by omega) (by omega) (by omega)
  have hk : fa_cf 112 3 2 μ μ2 := fa_cf_s (j := 1) hk eμ2 rfl (by decide)
  have g4 : μ2 3 2 = μ 3 2 := by rw [eμ2, pm_up_off (by decide), eμ1, pm_up_off (by decide)]
  have f5 := zT_get hTμ2 zs3_2 (i := 2) (by omega) (by omega)
  refine pm_blk hK zmm28 [] 4 24 [(2, 112), (2, 3)] [] (pm_up μ2 112 2 (μ2 3 2)) [sx_bit Wm 112 = true] rfl ⟨hb112, trivial⟩ ?_
  obtain ⟨μ3, eμ3⟩ : ∃ μ', μ' = pm_up μ2 112 2 (μ2 3 2) := ⟨_, rfl⟩
  rw [← eμ3]
  have hTμ3 : zTJ φ μ3 := by rw [eμ3]; exact zT_up hTμ2 zs112_2 rfl (i := 2) (by omega) (by omega) (by omega) (by omega)
  have hk : fa_cf 112 3 3 μ μ3 := fa_cf_s (j := 2) hk eμ3 rfl (by decide)
  have g6 : μ3 3 3 = μ 3 3 := by rw [eμ3, pm_up_off (by decide), eμ2, pm_up_off (by decide), eμ1, pm_up_off (by decide)]
  have f7 := zT_get hTμ3 zs3_3 (i := 3) (by omega) (by omega)
  refine pm_blk hK zmm28 [] 4 32 [(2, 112), (2, 3)] [] (pm_up μ3 112 3 (μ3 3 3)) [sx_bit Wm 112 = true] rfl ⟨hb112, trivial⟩ ?_
  obtain ⟨μ4, eμ4⟩ : ∃ μ', μ' = pm_up μ3 112 3 (μ3 3 3) := ⟨_, rfl⟩
  rw [← eμ4]
  have hTμ4 : zTJ φ μ4 := by rw [eμ4]; exact zT_up hTμ3 zs112_3 rfl (i := 3) (by omega) (by omega) (by omega) (by omega)
  have hk : fa_cf 112 3 4 μ μ4 := fa_cf_s (j := 3) hk eμ4 rfl (by decide)
  have g8 : μ4 3 4 = μ 3 4 := by rw [eμ4, pm_up_off (by decide), eμ3, pm_up_off (by decide), eμ2, pm_up_off (by decide), eμ1, pm_up_off (by decide)]
  have f9 := zT_get hTμ4 zs3_4 (i := 4) (by omega) (by omega)
  refine pm_blk hK zmm28 [] 4 40 [(2, 112), (2, 3)] [] (pm_up μ4 112 4 (μ4 3 4)) [sx_bit Wm 112 = true] rfl ⟨hb112, trivial⟩ ?_
  obtain ⟨μ5, eμ5⟩ : ∃ μ', μ' = pm_up μ4 112 4 (μ4 3 4) := ⟨_, rfl⟩
  rw [← eμ5]
  have hTμ5 : zTJ φ μ5 := by rw [eμ5]; exact zT_up hTμ4 zs112_4 rfl (i := 4) (by omega) (by omega) (by omega) (by omega)
  have hk : fa_cf 112 3 5 μ μ5 := fa_cf_s (j := 4) hk eμ5 rfl (by decide)
  have hc := fa_cp_0 hk
  refine pm_blk hK zmm28 [] 4 48 [(2, 112), (2, 3)] [(2, 113), (2, 4)] μ5 [] rfl trivial ?_
  refine pm_call hK zmm28 (91, 1, 29, 2) zM29 (1, 25) [(2, 4), (2, 113)] [] rfl rfl rfl rfl ⟨by omega, by rw [zn29]; omega⟩ (fc_ci113_4 hK hb113 hTμ5 ⟨Nat.le_refl _, Nat.le_refl _⟩) (fun st1 μc1 hp1 => ?_)
  obtain ⟨rfl, hTc1, ec1⟩ := hp1
  have hc : fa_cp 112 3 1 μ μc1 := fa_cp_s (j := 0) hc ec1 rfl rfl (by decide) (by decide) (by decide)
  refine pm_blk hK zmm28 [] 4 59 [(2, 112), (2, 3)] [(2, 114), (2, 5)] μc1 [] rfl trivial ?_
  refine pm_call hK zmm28 (91, 1, 29, 2) zM29 (1, 25) [(2, 5), (2, 114)] [] rfl rfl rfl rfl ⟨by omega, by rw [zn29]; omega⟩ (fc_ci114_5 hK hb114 hTc1 ⟨Nat.le_refl _, Nat.le_refl _⟩) (fun st2 μc2 hp2 => ?_)
  obtain ⟨rfl, hTc2, ec2⟩ := hp2
  have hc : fa_cp 112 3 2 μ μc2 := fa_cp_s (j := 1) hc ec2 rfl rfl (by decide) (by decide) (by decide)
  refine pm_blk hK zmm28 [] 4 70 [(2, 112), (2, 3)] [(2, 115), (2, 6)] μc2 [] rfl trivial ?_
  refine pm_call hK zmm28 (91, 1, 29, 2) zM29 (1, 25) [(2, 6), (2, 115)] [] rfl rfl rfl rfl ⟨by omega, by rw [zn29]; omega⟩ (fc_ci115_6 hK hb115 hTc2 ⟨Nat.le_refl _, Nat.le_refl _⟩) (fun st3 μc3 hp3 => ?_)
  obtain ⟨rfl, hTc3, ec3⟩ := hp3
  have hc : fa_cp 112 3 3 μ μc3 := fa_cp_s (j := 2) hc ec3 rfl rfl (by decide) (by decide) (by decide)
  refine pm_blk hK zmm28 [] 4 81 [(2, 112), (2, 3)] [(2, 116), (2, 7)] μc3 [] rfl trivial ?_
  refine pm_call hK zmm28 (91, 1, 29, 2) zM29 (1, 25) [(2, 7), (2, 116)] [] rfl rfl rfl rfl ⟨by omega, by rw [zn29]; omega⟩ (fc_ci116_7 hK hb116 hTc3 ⟨Nat.le_refl _, Nat.le_refl _⟩) (fun st4 μc4 hp4 => ?_)
  obtain ⟨rfl, hTc4, ec4⟩ := hp4
  have hc : fa_cp 112 3 4 μ μc4 := fa_cp_s (j := 3) hc ec4 rfl rfl (by decide) (by decide) (by decide)
  refine pm_blk hK zmm28 [] 4 92 [(2, 112), (2, 3)] [(2, 117), (2, 8)] μc4 [] rfl trivial ?_
  refine pm_call hK zmm28 (91, 1, 29, 2) zM29 (1, 25) [(2, 8), (2, 117)] [] rfl rfl rfl rfl ⟨by omega, by rw [zn29]; omega⟩ (fc_ci117_8 hK hb117 hTc4 ⟨Nat.le_refl _, Nat.le_refl _⟩) (fun st5 μc5 hp5 => ?_)
  obtain ⟨rfl, hTc5, ec5⟩ := hp5
  have hc : fa_cp 112 3 5 μ μc5 := fa_cp_s (j := 4) hc ec5 rfl rfl (by decide) (by decide) (by decide)
  refine pm_blk hK zmm28 [] 4 103 [(2, 112), (2, 3)] [(2, 118), (2, 9)] μc5 [] rfl trivial ?_
  refine pm_call hK zmm28 (91, 1, 29, 2) zM29 (1, 25) [(2, 9), (2, 118)] [] rfl rfl rfl rfl ⟨by omega, by rw [zn29]; omega⟩ (fc_ci118_9 hK hb118 hTc5 ⟨Nat.le_refl _, Nat.le_refl _⟩) (fun st6 μc6 hp6 => ?_)
  obtain ⟨rfl, hTc6, ec6⟩ := hp6
  have hc : fa_cp 112 3 6 μ μc6 := fa_cp_s (j := 5) hc ec6 rfl rfl (by decide) (by decide) (by decide)
  refine pm_blk hK zmm28 [] 4 114 [(2, 112), (2, 3)] [(2, 119), (2, 10)] μc6 [] rfl trivial ?_
  refine pm_call hK zmm28 (91, 1, 29, 2) zM29 (1, 25) [(2, 10), (2, 119)] [] rfl rfl rfl rfl ⟨by omega, by rw [zn29]; omega⟩ (fc_ci119_10 hK hb119 hTc6 ⟨Nat.le_refl _, Nat.le_refl _⟩) (fun st7 μc7 hp7 => ?_)
  obtain ⟨rfl, hTc7, ec7⟩ := hp7
  have hc : fa_cp 112 3 7 μ μc7 := fa_cp_s (j := 6) hc ec7 rfl rfl (by decide) (by decide) (by decide)
  refine pm_blk hK zmm28 [] 4 125 [(2, 112), (2, 3)] [(2, 120), (2, 11)] μc7 [] rfl trivial ?_
  refine pm_call hK zmm28 (91, 1, 29, 2) zM29 (1, 25) [(2, 11), (2, 120)] [] rfl rfl rfl rfl ⟨by omega, by rw [zn29]; omega⟩ (fc_ci120_11 hK hb120 hTc7 ⟨Nat.le_refl _, Nat.le_refl _⟩) (fun st8 μc8 hp8 => ?_)
  obtain ⟨rfl, hTc8, ec8⟩ := hp8
  have hc : fa_cp 112 3 8 μ μc8 := fa_cp_s (j := 7) hc ec8 rfl rfl (by decide) (by decide) (by decide)
  refine pm_blk hK zmm28 [] 4 136 [(2, 112), (2, 3)] [(2, 121), (2, 12)] μc8 [] rfl trivial ?_
  refine pm_call hK zmm28 (91, 1, 29, 2) zM29 (1, 25) [(2, 12), (2, 121)] [] rfl rfl rfl rfl ⟨by omega, by rw [zn29]; omega⟩ (fc_ci121_12 hK hb121 hTc8 ⟨Nat.le_refl _, Nat.le_refl _⟩) (fun st9 μc9 hp9 => ?_)
  obtain ⟨rfl, hTc9, ec9⟩ := hp9
  have hc : fa_cp 112 3 9 μ μc9 := fa_cp_s (j := 8) hc ec9 rfl rfl (by decide) (by decide) (by decide)
  refine pm_blk hK zmm28 [] 4 147 [(2, 112), (2, 3)] [(2, 122), (2, 13)] μc9 [] rfl trivial ?_
  refine pm_call hK zmm28 (91, 1, 29, 2) zM29 (1, 25) [(2, 13), (2, 122)] [] rfl rfl rfl rfl ⟨by omega, by rw [zn29]; omega⟩ (fc_ci122_13 hK hb122 hTc9 ⟨Nat.le_refl _, Nat.le_refl _⟩) (fun st10 μc10 hp10 => ?_)
  obtain ⟨rfl, hTc10, ec10⟩ := hp10
  have hc : fa_cp 112 3 10 μ μc10 := fa_cp_s (j := 9) hc ec10 rfl rfl (by decide) (by decide) (by decide)
  refine pm_blk hK zmm28 [] 4 158 [(2, 112), (2, 3)] [(2, 123), (2, 14)] μc10 [] rfl trivial ?_
  refine pm_call hK zmm28 (91, 1, 29, 2) zM29 (1, 25) [(2, 14), (2, 123)] [] rfl rfl rfl rfl ⟨by omega, by rw [zn29]; omega⟩ (fc_ci123_14 hK hb123 hTc10 ⟨Nat.le_refl _, Nat.le_refl _⟩) (fun st11 μc11 hp11 => ?_)
  obtain ⟨rfl, hTc11, ec11⟩ := hp11
  have hc : fa_cp 112 3 11 μ μc11 := fa_cp_s (j := 10) hc ec11 rfl rfl (by decide) (by decide) (by decide)
  refine pm_blk hK zmm28 [] 4 169 [(2, 112), (2, 3)] [(2, 124), (2, 15)] μc11 [] rfl trivial ?_
  refine pm_call hK zmm28 (91, 1, 29, 2) zM29 (1, 25) [(2, 15), (2, 124)] [] rfl rfl rfl rfl ⟨by omega, by rw [zn29]; omega⟩ (fc_ci124_15 hK hb124 hTc11 ⟨Nat.le_refl _, Nat.le_refl _⟩) (fun st12 μc12 hp12 => ?_)
  obtain ⟨rfl, hTc12, ec12⟩ := hp12
  have hc : fa_cp 112 3 12 μ μc12 := fa_cp_s (j := 11) hc ec12 rfl rfl (by decide) (by decide) (by decide)
  exact pm_vret rfl rfl ⟨rfl, hTc12, hc⟩
set_option maxRecDepth 100000 in
theorem fc_ci126_4 (hK : zKK ST) (hb126 : sx_bit Wm 126 = true) (hT : zTJ φ μ) (hbd : 1 ≤ bud.1 ∧ 25 ≤ bud.2.1) : zC D Wm ST b0 l Sg zM29 bud [(2, 4), (2, 126)] μ (fun st' μ' => st' = [] ∧ zTJ φ μ' ∧ μ' = pm_cpy μ 126 4 12) := by
  refine pm_blk hK zmm29 [] 8 8 [(2, 4), (2, 126)] [(0, 12), (0, 12), (0, 0), (2, 126), (0, 0), (2, 4)] μ [] rfl trivial ?_
  refine pm_call hK zmm29 (427, 1, 30, 2) zM30 (0, 0) [(0, 12), (0, 12)] [(0, 0), (2, 126), (0, 0), (2, 4)] rfl rfl rfl rfl ⟨by omega, by rw [zn30]; omega⟩ (zh_min hK ⟨Nat.le_refl _, Nat.le_refl _⟩) (fun st1 μc1 hp1 => ?_)
  obtain ⟨rfl, rfl⟩ := hp1
  refine zp_acw hK zmm29 (idx := 432) (r := 126) (r' := 4) (n := 12) (g := zG126) (g' := zG4) (t := (0, -1, 999)) (t' := (0, -1, 999)) (List.mem_of_getElem? (i := 0) rfl) rfl rfl rfl ⟨rfl, rfl, rfl, rfl⟩ ⟨rfl, rfl, rfl⟩ hb126 ⟨by omega, by have h9 : pm_cs [] = 0 := rfl; omega⟩ (by decide) ?_
  exact pm_vret rfl rfl ⟨rfl, zTJ_cpy hT (t := (0, -1, 999)) (g := zG126) (g' := zG4) rfl rfl (by decide) ⟨by decide, rfl⟩ ⟨by decide, rfl, rfl⟩ rfl rfl, rfl⟩
set_option maxRecDepth 100000 in
theorem fc_ci127_5 (hK : zKK ST) (hb127 : sx_bit Wm 127 = true) (hT : zTJ φ μ) (hbd : 1 ≤ bud.1 ∧ 25 ≤ bud.2.1) : zC D Wm ST b0 l Sg zM29 bud [(2, 5), (2, 127)] μ (fun st' μ' => st' = [] ∧ zTJ φ μ' ∧ μ' = pm_cpy μ 127 5 12) := by
  refine pm_blk hK zmm29 [] 8 8 [(2, 5), (2, 127)] [(0, 12), (0, 12), (0, 0), (2, 127), (0, 0), (2, 5)] μ [] rfl trivial ?_
  refine pm_call hK zmm29 (427, 1, 30, 2) zM30 (0, 0) [(0, 12), (0, 12)] [(0, 0), (2, 127), (0, 0), (2, 5)] rfl rfl rfl rfl ⟨by omega, by rw [zn30]; omega⟩ (zh_min hK ⟨Nat.le_refl _, Nat.le_refl _⟩) (fun st1 μc1 hp1 => ?_)
  obtain ⟨rfl, rfl⟩ := hp1
  refine zp_acw hK zmm29 (idx := 432) (r := 127) (r' := 5) (n := 12) (g := zG127) (g' := zG5) (t := (0, -1, 999)) (t' := (0, -1, 999)) (List.mem_of_getElem? (i := 0) rfl) rfl rfl rfl ⟨rfl, rfl, rfl, rfl⟩ ⟨rfl, rfl, rfl⟩ hb127 ⟨by omega, by have h9 : pm_cs [] = 0 := rfl; omega⟩ (by decide) ?_
  exact pm_vret rfl rfl ⟨rfl, zTJ_cpy hT (t := (0, -1, 999)) (g := zG127) (g' := zG5) rfl rfl (by decide) ⟨by decide, rfl⟩ ⟨by decide, rfl, rfl⟩ rfl rfl, rfl⟩
set_option maxRecDepth 100000 in
theorem fc_ci128_6 (hK : zKK ST) (hb128 : sx_bit Wm 128 = true) (hT : zTJ φ μ) (hbd : 1 ≤ bud.1 ∧ 25 ≤ bud.2.1) : zC D Wm ST b0 l Sg zM29 bud [(2, 6), (2, 128)] μ (fun st' μ' => st' = [] ∧ zTJ φ μ' ∧ μ' = pm_cpy μ 128 6 12) := by
  refine pm_blk hK zmm29 [] 8 8 [(2, 6), (2, 128)] [(0, 12), (0, 12), (0, 0), (2, 128), (0, 0), (2, 6)] μ [] rfl trivial ?_
  refine pm_call hK zmm29 (427, 1, 30, 2) zM30 (0, 0) [(0, 12), (0, 12)] [(0, 0), (2, 128), (0, 0), (2, 6)] rfl rfl rfl rfl ⟨by omega, by rw [zn30]; omega⟩ (zh_min hK ⟨Nat.le_refl _, Nat.le_refl _⟩) (fun st1 μc1 hp1 => ?_)
  obtain ⟨rfl, rfl⟩ := hp1
  refine zp_acw hK zmm29 (idx := 432) (r := 128) (r' := 6) (n := 12) (g := zG128) (g' := zG6) (t := (0, -2147483648, 2147483647)) (t' := (0, -2147483648, 2147483647)) (List.mem_of_getElem? (i := 0) rfl) rfl rfl rfl ⟨rfl, rfl, rfl, rfl⟩ ⟨rfl, rfl, rfl⟩ hb128 ⟨by omega, by have h9 : pm_cs [] = 0 := rfl; omega⟩ (by decide) ?_
  exact pm_vret rfl rfl ⟨rfl, zTJ_cpy hT (t := (0, -2147483648, 2147483647)) (g := zG128) (g' := zG6) rfl rfl (by decide) ⟨by decide, rfl⟩ ⟨by decide, rfl, rfl⟩ rfl rfl, rfl⟩
set_option maxRecDepth 100000 in
theorem fc_ci129_7 (hK : zKK ST) (hb129 : sx_bit Wm 129 = true) (hT : zTJ φ μ) (hbd : 1 ≤ bud.1 ∧ 25 ≤ bud.2.1) : zC D Wm ST b0 l Sg zM29 bud [(2, 7), (2, 129)] μ (fun st' μ' => st' = [] ∧ zTJ φ μ' ∧ μ' = pm_cpy μ 129 7 12) := by
  refine pm_blk hK zmm29 [] 8 8 [(2, 7), (2, 129)] [(0, 12), (0, 12), (0, 0), (2, 129), (0, 0), (2, 7)] μ [] rfl trivial ?_
  refine pm_call hK zmm29 (427, 1, 30, 2) zM30 (0, 0) [(0, 12), (0, 12)] [(0, 0), (2, 129), (0, 0), (2, 7)] rfl rfl rfl rfl ⟨by omega, by rw [zn30]; omega⟩ (zh_min hK ⟨Nat.le_refl _, Nat.le_refl _⟩) (fun st1 μc1 hp1 => ?_)
  obtain ⟨rfl, rfl⟩ := hp1
  refine zp_acw hK zmm29 (idx := 432) (r := 129) (r' := 7) (n := 12) (g := zG129) (g' := zG7) (t := (0, 0, 1)) (t' := (0, 0, 1)) (List.mem_of_getElem? (i := 0) rfl) rfl rfl rfl ⟨rfl, rfl, rfl, rfl⟩ ⟨rfl, rfl, rfl⟩ hb129 ⟨by omega, by have h9 : pm_cs [] = 0 := rfl; omega⟩ (by decide) ?_
  exact pm_vret rfl rfl ⟨rfl, zTJ_cpy hT (t := (0, 0, 1)) (g := zG129) (g' := zG7) rfl rfl (by decide) ⟨by decide, rfl⟩ ⟨by decide, rfl, rfl⟩ rfl rfl, rfl⟩
set_option maxRecDepth 100000 in
theorem fc_ci130_8 (hK : zKK ST) (hb130 : sx_bit Wm 130 = true) (hT : zTJ φ μ) (hbd : 1 ≤ bud.1 ∧ 25 ≤ bud.2.1) : zC D Wm ST b0 l Sg zM29 bud [(2, 8), (2, 130)] μ (fun st' μ' => st' = [] ∧ zTJ φ μ' ∧ μ' = pm_cpy μ 130 8 12) := by
  refine pm_blk hK zmm29 [] 8 8 [(2, 8), (2, 130)] [(0, 12), (0, 12), (0, 0), (2, 130), (0, 0), (2, 8)] μ [] rfl trivial ?_
  refine pm_call hK zmm29 (427, 1, 30, 2) zM30 (0, 0) [(0, 12), (0, 12)] [(0, 0), (2, 130), (0, 0), (2, 8)] rfl rfl rfl rfl ⟨by omega, by rw [zn30]; omega⟩ (zh_min hK ⟨Nat.le_refl _, Nat.le_refl _⟩) (fun st1 μc1 hp1 => ?_)
  obtain ⟨rfl, rfl⟩ := hp1
  refine zp_acw hK zmm29 (idx := 432) (r := 130) (r' := 8) (n := 12) (g := zG130) (g' := zG8) (t := (0, -1, 17)) (t' := (0, -1, 17)) (List.mem_of_getElem? (i := 0) rfl) rfl rfl rfl ⟨rfl, rfl, rfl, rfl⟩ ⟨rfl, rfl, rfl⟩ hb130 ⟨by omega, by have h9 : pm_cs [] = 0 := rfl; omega⟩ (by decide) ?_
  exact pm_vret rfl rfl ⟨rfl, zTJ_cpy hT (t := (0, -1, 17)) (g := zG130) (g' := zG8) rfl rfl (by decide) ⟨by decide, rfl⟩ ⟨by decide, rfl, rfl⟩ rfl rfl, rfl⟩
set_option maxRecDepth 100000 in
theorem fc_ci131_9 (hK : zKK ST) (hb131 : sx_bit Wm 131 = true) (hT : zTJ φ μ) (hbd : 1 ≤ bud.1 ∧ 25 ≤ bud.2.1) : zC D Wm ST b0 l Sg zM29 bud [(2, 9), (2, 131)] μ (fun st' μ' => st' = [] ∧ zTJ φ μ' ∧ μ' = pm_cpy μ 131 9 12) := by
  refine pm_blk hK zmm29 [] 8 8 [(2, 9), (2, 131)] [(0, 12), (0, 12), (0, 0), (2, 131), (0, 0), (2, 9)] μ [] rfl trivial ?_
  refine pm_call hK zmm29 (427, 1, 30, 2) zM30 (0, 0) [(0, 12), (0, 12)] [(0, 0), (2, 131), (0, 0), (2, 9)] rfl rfl rfl rfl ⟨by omega, by rw [zn30]; omega⟩ (zh_min hK ⟨Nat.le_refl _, Nat.le_refl _⟩) (fun st1 μc1 hp1 => ?_)
  obtain ⟨rfl, rfl⟩ := hp1
  refine zp_acw hK zmm29 (idx := 432) (r := 131) (r' := 9) (n := 12) (g := zG131) (g' := zG9) (t := (0, -1, 17)) (t' := (0, -1, 17)) (List.mem_of_getElem? (i := 0) rfl) rfl rfl rfl ⟨rfl, rfl, rfl, rfl⟩ ⟨rfl, rfl, rfl⟩ hb131 ⟨by omega, by have h9 : pm_cs [] = 0 := rfl; omega⟩ (by decide) ?_
  exact pm_vret rfl rfl ⟨rfl, zTJ_cpy hT (t := (0, -1, 17)) (g := zG131) (g' := zG9) rfl rfl (by decide) ⟨by decide, rfl⟩ ⟨by decide, rfl, rfl⟩ rfl rfl, rfl⟩
set_option maxRecDepth 100000 in
theorem fc_ci132_10 (hK : zKK ST) (hb132 : sx_bit Wm 132 = true) (hT : zTJ φ μ) (hbd : 1 ≤ bud.1 ∧ 25 ≤ bud.2.1) : zC D Wm ST b0 l Sg zM29 bud [(2, 10), (2, 132)] μ (fun st' μ' => st' = [] ∧ zTJ φ μ' ∧ μ' = pm_cpy μ 132 10 12) := by
  refine pm_blk hK zmm29 [] 8 8 [(2, 10), (2, 132)] [(0, 12), (0, 12), (0, 0), (2, 132), (0, 0), (2, 10)] μ [] rfl trivial ?_
  refine pm_call hK zmm29 (427, 1, 30, 2) zM30 (0, 0) [(0, 12), (0, 12)] [(0, 0), (2, 132), (0, 0), (2, 10)] rfl rfl rfl rfl ⟨by omega, by rw [zn30]; omega⟩ (zh_min hK ⟨Nat.le_refl _, Nat.le_refl _⟩) (fun st1 μc1 hp1 => ?_)
  obtain ⟨rfl, rfl⟩ := hp1
  refine zp_acw hK zmm29 (idx := 432) (r := 132) (r' := 10) (n := 12) (g := zG132) (g' := zG10) (t := (0, -2147483648, 2147483647)) (t' := (0, -2147483648, 2147483647)) (List.mem_of_getElem? (i := 0) rfl) rfl rfl rfl ⟨rfl, rfl, rfl, rfl⟩ ⟨rfl, rfl, rfl⟩ hb132 ⟨by omega, by have h9 : pm_cs [] = 0 := rfl; omega⟩ (by decide) ?_
  exact pm_vret rfl rfl ⟨rfl, zTJ_cpy hT (t := (0, -2147483648, 2147483647)) (g := zG132) (g' := zG10) rfl rfl (by decide) ⟨by decide, rfl⟩ ⟨by decide, rfl, rfl⟩ rfl rfl, rfl⟩
set_option maxRecDepth 100000 in
theorem fc_ci133_11 (hK : zKK ST) (hb133 : sx_bit Wm 133 = true) (hT : zTJ φ μ) (hbd : 1 ≤ bud.1 ∧ 25 ≤ bud.2.1) : zC D Wm ST b0 l Sg zM29 bud [(2, 11), (2, 133)] μ (fun st' μ' => st' = [] ∧ zTJ φ μ' ∧ μ' = pm_cpy μ 133 11 18) := by
  refine pm_blk hK zmm29 [] 8 8 [(2, 11), (2, 133)] [(0, 18), (0, 18), (0, 0), (2, 133), (0, 0), (2, 11)] μ [] rfl trivial ?_
  refine pm_call hK zmm29 (427, 1, 30, 2) zM30 (0, 0) [(0, 18), (0, 18)] [(0, 0), (2, 133), (0, 0), (2, 11)] rfl rfl rfl rfl ⟨by omega, by rw [zn30]; omega⟩ (zh_min hK ⟨Nat.le_refl _, Nat.le_refl _⟩) (fun st1 μc1 hp1 => ?_)
  obtain ⟨rfl, rfl⟩ := hp1
  refine zp_acw hK zmm29 (idx := 432) (r := 133) (r' := 11) (n := 18) (g := zG133) (g' := zG11) (t := (0, -2147483648, 9999)) (t' := (0, -2147483648, 9999)) (List.mem_of_getElem? (i := 0) rfl) rfl rfl rfl ⟨rfl, rfl, rfl, rfl⟩ ⟨rfl, rfl, rfl⟩ hb133 ⟨by omega, by have h9 : pm_cs [] = 0 := rfl; omega⟩ (by decide) ?_
  exact pm_vret rfl rfl ⟨rfl, zTJ_cpy hT (t := (0, -2147483648, 9999)) (g := zG133) (g' := zG11) rfl rfl (by decide) ⟨by decide, rfl⟩ ⟨by decide, rfl, rfl⟩ rfl rfl, rfl⟩
set_option maxRecDepth 100000 in
theorem fc_ci134_12 (hK : zKK ST) (hb134 : sx_bit Wm 134 = true) (hT : zTJ φ μ) (hbd : 1 ≤ bud.1 ∧ 25 ≤ bud.2.1) : zC D Wm ST b0 l Sg zM29 bud [(2, 12), (2, 134)] μ (fun st' μ' => st' = [] ∧ zTJ φ μ' ∧ μ' = pm_cpy μ 134 12 18) := by
  refine pm_blk hK zmm29 [] 8 8 [(2, 12), (2, 134)] [(0, 18), (0, 18), (0, 0), (2, 134), (0, 0), (2, 12)] μ [] rfl trivial ?_
  refine pm_call hK zmm29 (427, 1, 30, 2) zM30 (0, 0) [(0, 18), (0, 18)] [(0, 0), (2, 134), (0, 0), (2, 12)] rfl rfl rfl rfl ⟨by omega, by rw [zn30]; omega⟩ (zh_min hK ⟨Nat.le_refl _, Nat.le_refl _⟩) (fun st1 μc1 hp1 => ?_)
  obtain ⟨rfl, rfl⟩ := hp1
  refine zp_acw hK zmm29 (idx := 432) (r := 134) (r' := 12) (n := 18) (g := zG134) (g' := zG12) (t := (0, 0, 9)) (t' := (0, 0, 9)) (List.mem_of_getElem? (i := 0) rfl) rfl rfl rfl ⟨rfl, rfl, rfl, rfl⟩ ⟨rfl, rfl, rfl⟩ hb134 ⟨by omega, by have h9 : pm_cs [] = 0 := rfl; omega⟩ (by decide) ?_
  exact pm_vret rfl rfl ⟨rfl, zTJ_cpy hT (t := (0, 0, 9)) (g := zG134) (g' := zG12) rfl rfl (by decide) ⟨by decide, rfl⟩ ⟨by decide, rfl, rfl⟩ rfl rfl, rfl⟩
set_option maxRecDepth 100000 in
theorem fc_ci135_13 (hK : zKK ST) (hb135 : sx_bit Wm 135 = true) (hT : zTJ φ μ) (hbd : 1 ≤ bud.1 ∧ 25 ≤ bud.2.1) : zC D Wm ST b0 l Sg zM29 bud [(2, 13), (2, 135)] μ (fun st' μ' => st' = [] ∧ zTJ φ μ' ∧ μ' = pm_cpy μ 135 13 18) := by
  refine pm_blk hK zmm29 [] 8 8 [(2, 13), (2, 135)] [(0, 18), (0, 18), (0, 0), (2, 135), (0, 0), (2, 13)] μ [] rfl trivial ?_
  refine pm_call hK zmm29 (427, 1, 30, 2) zM30 (0, 0) [(0, 18), (0, 18)] [(0, 0), (2, 135), (0, 0), (2, 13)] rfl rfl rfl rfl ⟨by omega, by rw [zn30]; omega⟩ (zh_min hK ⟨Nat.le_refl _, Nat.le_refl _⟩) (fun st1 μc1 hp1 => ?_)
  obtain ⟨rfl, rfl⟩ := hp1
  refine zp_acw hK zmm29 (idx := 432) (r := 135) (r' := 13) (n := 18) (g := zG135) (g' := zG13) (t := (0, -1, 11)) (t' := (0, -1, 11)) (List.mem_of_getElem? (i := 0) rfl) rfl rfl rfl ⟨rfl, rfl, rfl, rfl⟩ ⟨rfl, rfl, rfl⟩ hb135 ⟨by omega, by have h9 : pm_cs [] = 0 := rfl; omega⟩ (by decide) ?_
  exact pm_vret rfl rfl ⟨rfl, zTJ_cpy hT (t := (0, -1, 11)) (g := zG135) (g' := zG13) rfl rfl (by decide) ⟨by decide, rfl⟩ ⟨by decide, rfl, rfl⟩ rfl rfl, rfl⟩
set_option maxRecDepth 100000 in
theorem fc_ci136_14 (hK : zKK ST) (hb136 : sx_bit Wm 136 = true) (hT : zTJ φ μ) (hbd : 1 ≤ bud.1 ∧ 25 ≤ bud.2.1) : zC D Wm ST b0 l Sg zM29 bud [(2, 14), (2, 136)] μ (fun st' μ' => st' = [] ∧ zTJ φ μ' ∧ μ' = pm_cpy μ 136 14 18) := by
  refine pm_blk hK zmm29 [] 8 8 [(2, 14), (2, 136)] [(0, 18), (0, 18), (0, 0), (2, 136), (0, 0), (2, 14)] μ [] rfl trivial ?_
  refine pm_call hK zmm29 (427, 1, 30, 2) zM30 (0, 0) [(0, 18), (0, 18)] [(0, 0), (2, 136), (0, 0), (2, 14)] rfl rfl rfl rfl ⟨by omega, by rw [zn30]; omega⟩ (zh_min hK ⟨Nat.le_refl _, Nat.le_refl _⟩) (fun st1 μc1 hp1 => ?_)
  obtain ⟨rfl, rfl⟩ := hp1
  refine zp_acw hK zmm29 (idx := 432) (r := 136) (r' := 14) (n := 18) (g := zG136) (g' := zG14) (t := (0, -2147483648, 2147483647)) (t' := (0, -2147483648, 2147483647)) (List.mem_of_getElem? (i := 0) rfl) rfl rfl rfl ⟨rfl, rfl, rfl, rfl⟩ ⟨rfl, rfl, rfl⟩ hb136 ⟨by omega, by have h9 : pm_cs [] = 0 := rfl; omega⟩ (by decide) ?_
  exact pm_vret rfl rfl ⟨rfl, zTJ_cpy hT (t := (0, -2147483648, 2147483647)) (g := zG136) (g' := zG14) rfl rfl (by decide) ⟨by decide, rfl⟩ ⟨by decide, rfl, rfl⟩ rfl rfl, rfl⟩
set_option maxRecDepth 100000 in
theorem fc_ci137_15 (hK : zKK ST) (hb137 : sx_bit Wm 137 = true) (hT : zTJ φ μ) (hbd : 1 ≤ bud.1 ∧ 25 ≤ bud.2.1) : zC D Wm ST b0 l Sg zM29 bud [(2, 15), (2, 137)] μ (fun st' μ' => st' = [] ∧ zTJ φ μ' ∧ μ' = pm_cpy μ 137 15 18) := by
  refine pm_blk hK zmm29 [] 8 8 [(2, 15), (2, 137)] [(0, 18), (0, 18), (0, 0), (2, 137), (0, 0), (2, 15)] μ [] rfl trivial ?_
  refine pm_call hK zmm29 (427, 1, 30, 2) zM30 (0, 0) [(0, 18), (0, 18)] [(0, 0), (2, 137), (0, 0), (2, 15)] rfl rfl rfl rfl ⟨by omega, by rw [zn30]; omega⟩ (zh_min hK ⟨Nat.le_refl _, Nat.le_refl _⟩) (fun st1 μc1 hp1 => ?_)
  obtain ⟨rfl, rfl⟩ := hp1
  refine zp_acw hK zmm29 (idx := 432) (r := 137) (r' := 15) (n := 18) (g := zG137) (g' := zG15) (t := (0, -2147483648, 2147483647)) (t' := (0, -2147483648, 2147483647)) (List.mem_of_getElem? (i := 0) rfl) rfl rfl rfl ⟨rfl, rfl, rfl, rfl⟩ ⟨rfl, rfl, rfl⟩ hb137 ⟨by omega, by have h9 : pm_cs [] = 0 := rfl; omega⟩ (by decide) ?_
  exact pm_vret rfl rfl ⟨rfl, zTJ_cpy hT (t := (0, -2147483648, 2147483647)) (g := zG137) (g' := zG15) rfl rfl (by decide) ⟨by decide, rfl⟩ ⟨by decide, rfl, rfl⟩ rfl rfl, rfl⟩
set_option maxRecDepth 100000 in
theorem fc_ac125_3 (hK : zKK ST) (hT : zTJ φ μ) (hb125 : sx_bit Wm 125 = true) (hb126 : sx_bit Wm 126 = true) (hb127 : sx_bit Wm 127 = true) (hb128 : sx_bit Wm 128 = true) (hb129 : sx_bit Wm 129 = true) (hb130 : sx_bit Wm 130 = true) (hb131 : sx_bit Wm 131 = true) (hb132 : sx_bit Wm 132 = true) (hb133 : sx_bit Wm 133 = true) (hb134 : sx_bit Wm 134 = true) (hb135 : sx_bit Wm 135 = true) (hb136 : sx_bit Wm 136 = true) (hb137 : sx_bit Wm 137 = true) (hbd : 2 ≤ bud.1 ∧ 46 ≤ bud.2.1) : zC D Wm ST b0 l Sg zM28 bud [(2, 125), (2, 3)] μ (fun st' μ' => st' = [] ∧ zTJ φ μ' ∧ fa_cp 125 3 12 μ μ') := by
  have hk : fa_cf 125 3 0 μ μ := fa_cf_0
  have f1 := zT_get hT zs3_0 (i := 0) (by omega) (by omega)
  refine pm_blk hK zmm28 [] 4 8 [(2, 125), (2, 3)] [] (pm_up μ 125 0 (μ 3 0)) [sx_bit Wm 125 = true] rfl ⟨hb125, trivial⟩ ?_
  obtain ⟨μ1, eμ1⟩ : ∃ μ', μ' = pm_up μ 125 0 (μ 3 0) := ⟨_, rfl⟩
  rw [← eμ1]
  have hTμ1 : zTJ φ μ1 := by rw [eμ1]; exact zT_up hT zs125_0 rfl (i := 0) (by omega) (by omega) (by omega) (by omega)
  have hk : fa_cf 125 3 1 μ μ1 := fa_cf_s (j := 0) hk eμ1 rfl (by decide)
  have g2 : μ1 3 1 = μ 3 1 := by rw [eμ1, pm_up_off (by decide)]
  have f3 := zT_get hTμ1 zs3_1 (i := 1) (by omega) (by omega)
  refine pm_blk hK zmm28 [] 4 16 [(2, 125), (2, 3)] [] (pm_up μ1 125 1 (μ1 3 1)) [sx_bit Wm 125 = true] rfl ⟨hb125, trivial⟩ ?_
  obtain ⟨μ2, eμ2⟩ : ∃ μ', μ' = pm_up μ1 125 1 (μ1 3 1) := ⟨_, rfl⟩
  rw [← eμ2]
  have hTμ2 : zTJ φ μ2 := by rw [eμ2]; exact zT_up hTμ1 zs125_1 rfl (i := 1) (by omega) (by omega) (by omega) (by omega)
  have hk : fa_cf 125 3 2 μ μ2 := fa_cf_s (j := 1) hk eμ2 rfl (by decide)
  have g4 : μ2 3 2 = μ 3 2 := by rw [eμ2, pm_up_off (by decide), eμ1, pm_up_off (by decide)]
  have f5 := zT_get hTμ2 zs3_2 (i := 2) (by omega) (by omega)
  refine pm_blk hK zmm28 [] 4 24 [(2, 125), (2, 3)] [] (pm_up μ2 125 2 (μ2 3 2)) [sx_bit Wm 125 = true] rfl ⟨hb125, trivial⟩ ?_
  obtain ⟨μ3, eμ3⟩ : ∃ μ', μ' = pm_up μ2 125 2 (μ2 3 2) := ⟨_, rfl⟩
  rw [← eμ3]
  have hTμ3 : zTJ φ μ3 := by rw [eμ3]; exact zT_up hTμ2 zs125_2 rfl (i := 2) (by omega) (by omega) (by omega) (by omega)
  have hk : fa_cf 125 3 3 μ μ3 := fa_cf_s (j := 2) hk eμ3 rfl (by decide)
  have g6 : μ3 3 3 = μ 3 3 := by rw [eμ3, pm_up_off (by decide), eμ2, pm_up_off (by decide), eμ1, pm_up_off (by decide)]
  have f7 := zT_get hTμ3 zs3_3 (i := 3) (by omega) (by omega)
  refine pm_blk hK zmm28 [] 4 32 [(2, 125), (2, 3)] [] (pm_up μ3 125 3 (μ3 3 3)) [sx_bit Wm 125 = true] rfl ⟨hb125, trivial⟩ ?_
  obtain ⟨μ4, eμ4⟩ : ∃ μ', μ' = pm_up μ3 125 3 (μ3 3 3) := ⟨_, rfl⟩
  rw [← eμ4]
  have hTμ4 : zTJ φ μ4 := by rw [eμ4]; exact zT_up hTμ3 zs125_3 rfl (i := 3) (by omega) (by omega) (by omega) (by omega)
  have hk : fa_cf 125 3 4 μ μ4 := fa_cf_s (j := 3) hk eμ4 rfl (by decide)
  have g8 : μ4 3 4 = μ 3 4 := by rw [eμ4, pm_up_off (by decide), eμ3, pm_up_off (by decide), eμ2, pm_up_off (by decide), eμ1, pm_up_off (by decide)]
  have f9 := zT_get hTμ4 zs3_4 (i := 4) (by omega) (by omega)
  refine pm_blk hK zmm28 [] 4 40 [(2, 125), (2, 3)] [] (pm_up μ4 125 4 (μ4 3 4)) [sx_bit Wm 125 = true] rfl ⟨hb125, trivial⟩ ?_
  obtain ⟨μ5, eμ5⟩ : ∃ μ', μ' = pm_up μ4 125 4 (μ4 3 4) := ⟨_, rfl⟩
  rw [← eμ5]
  have hTμ5 : zTJ φ μ5 := by rw [eμ5]; exact zT_up hTμ4 zs125_4 rfl (i := 4) (by omega) (by omega) (by omega) (by omega)
  have hk : fa_cf 125 3 5 μ μ5 := fa_cf_s (j := 4) hk eμ5 rfl (by decide)
  have hc := fa_cp_0 hk
  refine pm_blk hK zmm28 [] 4 48 [(2, 125), (2, 3)] [(2, 126), (2, 4)] μ5 [] rfl trivial ?_
  refine pm_call hK zmm28 (91, 1, 29, 2) zM29 (1, 25) [(2, 4), (2, 126)] [] rfl rfl rfl rfl ⟨by omega, by rw [zn29]; omega⟩ (fc_ci126_4 hK hb126 hTμ5 ⟨Nat.le_refl _, Nat.le_refl _⟩) (fun st1 μc1 hp1 => ?_)
  obtain ⟨rfl, hTc1, ec1⟩ := hp1
  have hc : fa_cp 125 3 1 μ μc1 := fa_cp_s (j := 0) hc ec1 rfl rfl (by decide) (by decide) (by decide)
  refine pm_blk hK zmm28 [] 4 59 [(2, 125), (2, 3)] [(2, 127), (2, 5)] μc1 [] rfl trivial ?_
  refine pm_call hK zmm28 (91, 1, 29, 2) zM29 (1, 25) [(2, 5), (2, 127)] [] rfl rfl rfl rfl ⟨by omega, by rw [zn29]; omega⟩ (fc_ci127_5 hK hb127 hTc1 ⟨Nat.le_refl _, Nat.le_refl _⟩) (fun st2 μc2 hp2 => ?_)
  obtain ⟨rfl, hTc2, ec2⟩ := hp2
  have hc : fa_cp 125 3 2 μ μc2 := fa_cp_s (j := 1) hc ec2 rfl rfl (by decide) (by decide) (by decide)
  refine pm_blk hK zmm28 [] 4 70 [(2, 125), (2, 3)] [(2, 128), (2, 6)] μc2 [] rfl trivial ?_
  refine pm_call hK zmm28 (91, 1, 29, 2) zM29 (1, 25) [(2, 6), (2, 128)] [] rfl rfl rfl rfl ⟨by omega, by rw [zn29]; omega⟩ (fc_ci128_6 hK hb128 hTc2 ⟨Nat.le_refl _, Nat.le_refl _⟩) (fun st3 μc3 hp3 => ?_)
  obtain ⟨rfl, hTc3, ec3⟩ := hp3
  have hc : fa_cp 125 3 3 μ μc3 := fa_cp_s (j := 2) hc ec3 rfl rfl (by decide) (by decide) (by decide)
  refine pm_blk hK zmm28 [] 4 81 [(2, 125), (2, 3)] [(2, 129), (2, 7)] μc3 [] rfl trivial ?_
  refine pm_call hK zmm28 (91, 1, 29, 2) zM29 (1, 25) [(2, 7), (2, 129)] [] rfl rfl rfl rfl ⟨by omega, by rw [zn29]; omega⟩ (fc_ci129_7 hK hb129 hTc3 ⟨Nat.le_refl _, Nat.le_refl _⟩) (fun st4 μc4 hp4 => ?_)
  obtain ⟨rfl, hTc4, ec4⟩ := hp4
  have hc : fa_cp 125 3 4 μ μc4 := fa_cp_s (j := 3) hc ec4 rfl rfl (by decide) (by decide) (by decide)
  refine pm_blk hK zmm28 [] 4 92 [(2, 125), (2, 3)] [(2, 130), (2, 8)] μc4 [] rfl trivial ?_
  refine pm_call hK zmm28 (91, 1, 29, 2) zM29 (1, 25) [(2, 8), (2, 130)] [] rfl rfl rfl rfl ⟨by omega, by rw [zn29]; omega⟩ (fc_ci130_8 hK hb130 hTc4 ⟨Nat.le_refl _, Nat.le_refl _⟩) (fun st5 μc5 hp5 => ?_)
  obtain ⟨rfl, hTc5, ec5⟩ := hp5
  have hc : fa_cp 125 3 5 μ μc5 := fa_cp_s (j := 4) hc ec5 rfl rfl (by decide) (by decide) (by decide)
  refine pm_blk hK zmm28 [] 4 103 [(2, 125), (2, 3)] [(2, 131), (2, 9)] μc5 [] rfl trivial ?_
  refine pm_call hK zmm28 (91, 1, 29, 2) zM29 (1, 25) [(2, 9), (2, 131)] [] rfl rfl rfl rfl ⟨by omega, by rw [zn29]; omega⟩ (fc_ci131_9 hK hb131 hTc5 ⟨Nat.le_refl _, Nat.le_refl _⟩) (fun st6 μc6 hp6 => ?_)
  obtain ⟨rfl, hTc6, ec6⟩ := hp6
  have hc : fa_cp 125 3 6 μ μc6 := fa_cp_s (j := 5) hc ec6 rfl rfl (by decide) (by decide) (by decide)
  refine pm_blk hK zmm28 [] 4 114 [(2, 125), (2, 3)] [(2, 132), (2, 10)] μc6 [] rfl trivial ?_
  refine pm_call hK zmm28 (91, 1, 29, 2) zM29 (1, 25) [(2, 10), (2, 132)] [] rfl rfl rfl rfl ⟨by omega, by rw [zn29]; omega⟩ (fc_ci132_10 hK hb132 hTc6 ⟨Nat.le_refl _, Nat.le_refl _⟩) (fun st7 μc7 hp7 => ?_)
  obtain ⟨rfl, hTc7, ec7⟩ := hp7
  have hc : fa_cp 125 3 7 μ μc7 := fa_cp_s (j := 6) hc ec7 rfl rfl (by decide) (by decide) (by decide)
  refine pm_blk hK zmm28 [] 4 125 [(2, 125), (2, 3)] [(2, 133), (2, 11)] μc7 [] rfl trivial ?_
  refine pm_call hK zmm28 (91, 1, 29, 2) zM29 (1, 25) [(2, 11), (2, 133)] [] rfl rfl rfl rfl ⟨by omega, by rw [zn29]; omega⟩ (fc_ci133_11 hK hb133 hTc7 ⟨Nat.le_refl _, Nat.le_refl _⟩) (fun st8 μc8 hp8 => ?_)
  obtain ⟨rfl, hTc8, ec8⟩ := hp8
  have hc : fa_cp 125 3 8 μ μc8 := fa_cp_s (j := 7) hc ec8 rfl rfl (by decide) (by decide) (by decide)
  refine pm_blk hK zmm28 [] 4 136 [(2, 125), (2, 3)] [(2, 134), (2, 12)] μc8 [] rfl trivial ?_
  refine pm_call hK zmm28 (91, 1, 29, 2) zM29 (1, 25) [(2, 12), (2, 134)] [] rfl rfl rfl rfl ⟨by omega, by rw [zn29]; omega⟩ (fc_ci134_12 hK hb134 hTc8 ⟨Nat.le_refl _, Nat.le_refl _⟩) (fun st9 μc9 hp9 => ?_)
  obtain ⟨rfl, hTc9, ec9⟩ := hp9
  have hc : fa_cp 125 3 9 μ μc9 := fa_cp_s (j := 8) hc ec9 rfl rfl (by decide) (by decide) (by decide)
  refine pm_blk hK zmm28 [] 4 147 [(2, 125), (2, 3)] [(2, 135), (2, 13)] μc9 [] rfl trivial ?_
  refine pm_call hK zmm28 (91, 1, 29, 2) zM29 (1, 25) [(2, 13), (2, 135)] [] rfl rfl rfl rfl ⟨by omega, by rw [zn29]; omega⟩ (fc_ci135_13 hK hb135 hTc9 ⟨Nat.le_refl _, Nat.le_refl _⟩) (fun st10 μc10 hp10 => ?_)
  obtain ⟨rfl, hTc10, ec10⟩ := hp10
  have hc : fa_cp 125 3 10 μ μc10 := fa_cp_s (j := 9) hc ec10 rfl rfl (by decide) (by decide) (by decide)
  refine pm_blk hK zmm28 [] 4 158 [(2, 125), (2, 3)] [(2, 136), (2, 14)] μc10 [] rfl trivial ?_
  refine pm_call hK zmm28 (91, 1, 29, 2) zM29 (1, 25) [(2, 14), (2, 136)] [] rfl rfl rfl rfl ⟨by omega, by rw [zn29]; omega⟩ (fc_ci136_14 hK hb136 hTc10 ⟨Nat.le_refl _, Nat.le_refl _⟩) (fun st11 μc11 hp11 => ?_)
  obtain ⟨rfl, hTc11, ec11⟩ := hp11
  have hc : fa_cp 125 3 11 μ μc11 := fa_cp_s (j := 10) hc ec11 rfl rfl (by decide) (by decide) (by decide)
  refine pm_blk hK zmm28 [] 4 169 [(2, 125), (2, 3)] [(2, 137), (2, 15)] μc11 [] rfl trivial ?_
  refine pm_call hK zmm28 (91, 1, 29, 2) zM29 (1, 25) [(2, 15), (2, 137)] [] rfl rfl rfl rfl ⟨by omega, by rw [zn29]; omega⟩ (fc_ci137_15 hK hb137 hTc11 ⟨Nat.le_refl _, Nat.le_refl _⟩) (fun st12 μc12 hp12 => ?_)
  obtain ⟨rfl, hTc12, ec12⟩ := hp12
  have hc : fa_cp 125 3 12 μ μc12 := fa_cp_s (j := 11) hc ec12 rfl rfl (by decide) (by decide) (by decide)
  exact pm_vret rfl rfl ⟨rfl, hTc12, hc⟩
set_option maxRecDepth 100000 in
theorem fc_ci139_4 (hK : zKK ST) (hb139 : sx_bit Wm 139 = true) (hT : zTJ φ μ) (hbd : 1 ≤ bud.1 ∧ 25 ≤ bud.2.1) : zC D Wm ST b0 l Sg zM29 bud [(2, 4), (2, 139)] μ (fun st' μ' => st' = [] ∧ zTJ φ μ' ∧ μ' = pm_cpy μ 139 4 12) := by
  refine pm_blk hK zmm29 [] 8 8 [(2, 4), (2, 139)] [(0, 12), (0, 12), (0, 0), (2, 139), (0, 0), (2, 4)] μ [] rfl trivial ?_
  refine pm_call hK zmm29 (427, 1, 30, 2) zM30 (0, 0) [(0, 12), (0, 12)] [(0, 0), (2, 139), (0, 0), (2, 4)] rfl rfl rfl rfl ⟨by omega, by rw [zn30]; omega⟩ (zh_min hK ⟨Nat.le_refl _, Nat.le_refl _⟩) (fun st1 μc1 hp1 => ?_)
  obtain ⟨rfl, rfl⟩ := hp1
  refine zp_acw hK zmm29 (idx := 432) (r := 139) (r' := 4) (n := 12) (g := zG139) (g' := zG4) (t := (0, -1, 999)) (t' := (0, -1, 999)) (List.mem_of_getElem? (i := 0) rfl) rfl rfl rfl ⟨rfl, rfl, rfl, rfl⟩ ⟨rfl, rfl, rfl⟩ hb139 ⟨by omega, by have h9 : pm_cs [] = 0 := rfl; omega⟩ (by decide) ?_
  exact pm_vret rfl rfl ⟨rfl, zTJ_cpy hT (t := (0, -1, 999)) (g := zG139) (g' := zG4) rfl rfl (by decide) ⟨by decide, rfl⟩ ⟨by decide, rfl, rfl⟩ rfl rfl, rfl⟩
set_option maxRecDepth 100000 in
theorem fc_ci140_5 (hK : zKK ST) (hb140 : sx_bit Wm 140 = true) (hT : zTJ φ μ) (hbd : 1 ≤ bud.1 ∧ 25 ≤ bud.2.1) : zC D Wm ST b0 l Sg zM29 bud [(2, 5), (2, 140)] μ (fun st' μ' => st' = [] ∧ zTJ φ μ' ∧ μ' = pm_cpy μ 140 5 12) := by
  refine pm_blk hK zmm29 [] 8 8 [(2, 5), (2, 140)] [(0, 12), (0, 12), (0, 0), (2, 140), (0, 0), (2, 5)] μ [] rfl trivial ?_
  refine pm_call hK zmm29 (427, 1, 30, 2) zM30 (0, 0) [(0, 12), (0, 12)] [(0, 0), (2, 140), (0, 0), (2, 5)] rfl rfl rfl rfl ⟨by omega, by rw [zn30]; omega⟩ (zh_min hK ⟨Nat.le_refl _, Nat.le_refl _⟩) (fun st1 μc1 hp1 => ?_)
  obtain ⟨rfl, rfl⟩ := hp1
  refine zp_acw hK zmm29 (idx := 432) (r := 140) (r' := 5) (n := 12) (g := zG140) (g' := zG5) (t := (0, -1, 999)) (t' := (0, -1, 999)) (List.mem_of_getElem? (i := 0) rfl) rfl rfl rfl ⟨rfl, rfl, rfl, rfl⟩ ⟨rfl, rfl, rfl⟩ hb140 ⟨by omega, by have h9 : pm_cs [] = 0 := rfl; omega⟩ (by decide) ?_
  exact pm_vret rfl rfl ⟨rfl, zTJ_cpy hT (t := (0, -1, 999)) (g := zG140) (g' := zG5) rfl rfl (by decide) ⟨by decide, rfl⟩ ⟨by decide, rfl, rfl⟩ rfl rfl, rfl⟩
set_option maxRecDepth 100000 in
theorem fc_ci141_6 (hK : zKK ST) (hb141 : sx_bit Wm 141 = true) (hT : zTJ φ μ) (hbd : 1 ≤ bud.1 ∧ 25 ≤ bud.2.1) : zC D Wm ST b0 l Sg zM29 bud [(2, 6), (2, 141)] μ (fun st' μ' => st' = [] ∧ zTJ φ μ' ∧ μ' = pm_cpy μ 141 6 12) := by
  refine pm_blk hK zmm29 [] 8 8 [(2, 6), (2, 141)] [(0, 12), (0, 12), (0, 0), (2, 141), (0, 0), (2, 6)] μ [] rfl trivial ?_
  refine pm_call hK zmm29 (427, 1, 30, 2) zM30 (0, 0) [(0, 12), (0, 12)] [(0, 0), (2, 141), (0, 0), (2, 6)] rfl rfl rfl rfl ⟨by omega, by rw [zn30]; omega⟩ (zh_min hK ⟨Nat.le_refl _, Nat.le_refl _⟩) (fun st1 μc1 hp1 => ?_)
  obtain ⟨rfl, rfl⟩ := hp1
  refine zp_acw hK zmm29 (idx := 432) (r := 141) (r' := 6) (n := 12) (g := zG141) (g' := zG6) (t := (0, -2147483648, 2147483647)) (t' := (0, -2147483648, 2147483647)) (List.mem_of_getElem? (i := 0) rfl) rfl rfl rfl ⟨rfl, rfl, rfl, rfl⟩ ⟨rfl, rfl, rfl⟩ hb141 ⟨by omega, by have h9 : pm_cs [] = 0 := rfl; omega⟩ (by decide) ?_
  exact pm_vret rfl rfl ⟨rfl, zTJ_cpy hT (t := (0, -2147483648, 2147483647)) (g := zG141) (g' := zG6) rfl rfl (by decide) ⟨by decide, rfl⟩ ⟨by decide, rfl, rfl⟩ rfl rfl, rfl⟩
set_option maxRecDepth 100000 in
theorem fc_ci142_7 (hK : zKK ST) (hb142 : sx_bit Wm 142 = true) (hT : zTJ φ μ) (hbd : 1 ≤ bud.1 ∧ 25 ≤ bud.2.1) : zC D Wm ST b0 l Sg zM29 bud [(2, 7), (2, 142)] μ (fun st' μ' => st' = [] ∧ zTJ φ μ' ∧ μ' = pm_cpy μ 142 7 12) := by
  refine pm_blk hK zmm29 [] 8 8 [(2, 7), (2, 142)] [(0, 12), (0, 12), (0, 0), (2, 142), (0, 0), (2, 7)] μ [] rfl trivial ?_
  refine pm_call hK zmm29 (427, 1, 30, 2) zM30 (0, 0) [(0, 12), (0, 12)] [(0, 0), (2, 142), (0, 0), (2, 7)] rfl rfl rfl rfl ⟨by omega, by rw [zn30]; omega⟩ (zh_min hK ⟨Nat.le_refl _, Nat.le_refl _⟩) (fun st1 μc1 hp1 => ?_)
  obtain ⟨rfl, rfl⟩ := hp1
  refine zp_acw hK zmm29 (idx := 432) (r := 142) (r' := 7) (n := 12) (g := zG142) (g' := zG7) (t := (0, 0, 1)) (t' := (0, 0, 1)) (List.mem_of_getElem? (i := 0) rfl) rfl rfl rfl ⟨rfl, rfl, rfl, rfl⟩ ⟨rfl, rfl, rfl⟩ hb142 ⟨by omega, by have h9 : pm_cs [] = 0 := rfl; omega⟩ (by decide) ?_
  exact pm_vret rfl rfl ⟨rfl, zTJ_cpy hT (t := (0, 0, 1)) (g := zG142) (g' := zG7) rfl rfl (by decide) ⟨by decide, rfl⟩ ⟨by decide, rfl, rfl⟩ rfl rfl, rfl⟩
set_option maxRecDepth 100000 in
theorem fc_ci143_8 (hK : zKK ST) (hb143 : sx_bit Wm 143 = true) (hT : zTJ φ μ) (hbd : 1 ≤ bud.1 ∧ 25 ≤ bud.2.1) : zC D Wm ST b0 l Sg zM29 bud [(2, 8), (2, 143)] μ (fun st' μ' => st' = [] ∧ zTJ φ μ' ∧ μ' = pm_cpy μ 143 8 12) := by
  refine pm_blk hK zmm29 [] 8 8 [(2, 8), (2, 143)] [(0, 12), (0, 12), (0, 0), (2, 143), (0, 0), (2, 8)] μ [] rfl trivial ?_
  refine pm_call hK zmm29 (427, 1, 30, 2) zM30 (0, 0) [(0, 12), (0, 12)] [(0, 0), (2, 143), (0, 0), (2, 8)] rfl rfl rfl rfl ⟨by omega, by rw [zn30]; omega⟩ (zh_min hK ⟨Nat.le_refl _, Nat.le_refl _⟩) (fun st1 μc1 hp1 => ?_)
  obtain ⟨rfl, rfl⟩ := hp1
  refine zp_acw hK zmm29 (idx := 432) (r := 143) (r' := 8) (n := 12) (g := zG143) (g' := zG8) (t := (0, -1, 17)) (t' := (0, -1, 17)) (List.mem_of_getElem? (i := 0) rfl) rfl rfl rfl ⟨rfl, rfl, rfl, rfl⟩ ⟨rfl, rfl, rfl⟩ hb143 ⟨by omega, by have h9 : pm_cs [] = 0 := rfl; omega⟩ (by decide) ?_
  exact pm_vret rfl rfl ⟨rfl, zTJ_cpy hT (t := (0, -1, 17)) (g := zG143) (g' := zG8) rfl rfl (by decide) ⟨by decide, rfl⟩ ⟨by decide, rfl, rfl⟩ rfl rfl, rfl⟩
set_option maxRecDepth 100000 in
theorem fc_ci144_9 (hK : zKK ST) (hb144 : sx_bit Wm 144 = true) (hT : zTJ φ μ) (hbd : 1 ≤ bud.1 ∧ 25 ≤ bud.2.1) : zC D Wm ST b0 l Sg zM29 bud [(2, 9), (2, 144)] μ (fun st' μ' => st' = [] ∧ zTJ φ μ' ∧ μ' = pm_cpy μ 144 9 12) := by
  refine pm_blk hK zmm29 [] 8 8 [(2, 9), (2, 144)] [(0, 12), (0, 12), (0, 0), (2, 144), (0, 0), (2, 9)] μ [] rfl trivial ?_
  refine pm_call hK zmm29 (427, 1, 30, 2) zM30 (0, 0) [(0, 12), (0, 12)] [(0, 0), (2, 144), (0, 0), (2, 9)] rfl rfl rfl rfl ⟨by omega, by rw [zn30]; omega⟩ (zh_min hK ⟨Nat.le_refl _, Nat.le_refl _⟩) (fun st1 μc1 hp1 => ?_)
  obtain ⟨rfl, rfl⟩ := hp1
  refine zp_acw hK zmm29 (idx := 432) (r := 144) (r' := 9) (n := 12) (g := zG144) (g' := zG9) (t := (0, -1, 17)) (t' := (0, -1, 17)) (List.mem_of_getElem? (i := 0) rfl) rfl rfl rfl ⟨rfl, rfl, rfl, rfl⟩ ⟨rfl, rfl, rfl⟩ hb144 ⟨by omega, by have h9 : pm_cs [] = 0 := rfl; omega⟩ (by decide) ?_
  exact pm_vret rfl rfl ⟨rfl, zTJ_cpy hT (t := (0, -1, 17)) (g := zG144) (g' := zG9) rfl rfl (by decide) ⟨by decide, rfl⟩ ⟨by decide, rfl, rfl⟩ rfl rfl, rfl⟩
set_option maxRecDepth 100000 in
theorem fc_ci145_10 (hK : zKK ST) (hb145 : sx_bit Wm 145 = true) (hT : zTJ φ μ) (hbd : 1 ≤ bud.1 ∧ 25 ≤ bud.2.1) : zC D Wm ST b0 l Sg zM29 bud [(2, 10), (2, 145)] μ (fun st' μ' => st' = [] ∧ zTJ φ μ' ∧ μ' = pm_cpy μ 145 10 12) := by
  refine pm_blk hK zmm29 [] 8 8 [(2, 10), (2, 145)] [(0, 12), (0, 12), (0, 0), (2, 145), (0, 0), (2, 10)] μ [] rfl trivial ?_
  refine pm_call hK zmm29 (427, 1, 30, 2) zM30 (0, 0) [(0, 12), (0, 12)] [(0, 0), (2, 145), (0, 0), (2, 10)] rfl rfl rfl rfl ⟨by omega, by rw [zn30]; omega⟩ (zh_min hK ⟨Nat.le_refl _, Nat.le_refl _⟩) (fun st1 μc1 hp1 => ?_)
  obtain ⟨rfl, rfl⟩ := hp1
  refine zp_acw hK zmm29 (idx := 432) (r := 145) (r' := 10) (n := 12) (g := zG145) (g' := zG10) (t := (0, -2147483648, 2147483647)) (t' := (0, -2147483648, 2147483647)) (List.mem_of_getElem? (i := 0) rfl) rfl rfl rfl ⟨rfl, rfl, rfl, rfl⟩ ⟨rfl, rfl, rfl⟩ hb145 ⟨by omega, by have h9 : pm_cs [] = 0 := rfl; omega⟩ (by decide) ?_
  exact pm_vret rfl rfl ⟨rfl, zTJ_cpy hT (t := (0, -2147483648, 2147483647)) (g := zG145) (g' := zG10) rfl rfl (by decide) ⟨by decide, rfl⟩ ⟨by decide, rfl, rfl⟩ rfl rfl, rfl⟩
set_option maxRecDepth 100000 in
theorem fc_ci146_11 (hK : zKK ST) (hb146 : sx_bit Wm 146 = true) (hT : zTJ φ μ) (hbd : 1 ≤ bud.1 ∧ 25 ≤ bud.2.1) : zC D Wm ST b0 l Sg zM29 bud [(2, 11), (2, 146)] μ (fun st' μ' => st' = [] ∧ zTJ φ μ' ∧ μ' = pm_cpy μ 146 11 18) := by
  refine pm_blk hK zmm29 [] 8 8 [(2, 11), (2, 146)] [(0, 18), (0, 18), (0, 0), (2, 146), (0, 0), (2, 11)] μ [] rfl trivial ?_
  refine pm_call hK zmm29 (427, 1, 30, 2) zM30 (0, 0) [(0, 18), (0, 18)] [(0, 0), (2, 146), (0, 0), (2, 11)] rfl rfl rfl rfl ⟨by omega, by rw [zn30]; omega⟩ (zh_min hK ⟨Nat.le_refl _, Nat.le_refl _⟩) (fun st1 μc1 hp1 => ?_)
  obtain ⟨rfl, rfl⟩ := hp1
  refine zp_acw hK zmm29 (idx := 432) (r := 146) (r' := 11) (n := 18) (g := zG146) (g' := zG11) (t := (0, -2147483648, 9999)) (t' := (0, -2147483648, 9999)) (List.mem_of_getElem? (i := 0) rfl) rfl rfl rfl ⟨rfl, rfl, rfl, rfl⟩ ⟨rfl, rfl, rfl⟩ hb146 ⟨by omega, by have h9 : pm_cs [] = 0 := rfl; omega⟩ (by decide) ?_
  exact pm_vret rfl rfl ⟨rfl, zTJ_cpy hT (t := (0, -2147483648, 9999)) (g := zG146) (g' := zG11) rfl rfl (by decide) ⟨by decide, rfl⟩ ⟨by decide, rfl, rfl⟩ rfl rfl, rfl⟩
set_option maxRecDepth 100000 in
theorem fc_ci147_12 (hK : zKK ST) (hb147 : sx_bit Wm 147 = true) (hT : zTJ φ μ) (hbd : 1 ≤ bud.1 ∧ 25 ≤ bud.2.1) : zC D Wm ST b0 l Sg zM29 bud [(2, 12), (2, 147)] μ (fun st' μ' => st' = [] ∧ zTJ φ μ' ∧ μ' = pm_cpy μ 147 12 18) := by
  refine pm_blk hK zmm29 [] 8 8 [(2, 12), (2, 147)] [(0, 18), (0, 18), (0, 0), (2, 147), (0, 0), (2, 12)] μ [] rfl trivial ?_
  refine pm_call hK zmm29 (427, 1, 30, 2) zM30 (0, 0) [(0, 18), (0, 18)] [(0, 0), (2, 147), (0, 0), (2, 12)] rfl rfl rfl rfl ⟨by omega, by rw [zn30]; omega⟩ (zh_min hK ⟨Nat.le_refl _, Nat.le_refl _⟩) (fun st1 μc1 hp1 => ?_)
  obtain ⟨rfl, rfl⟩ := hp1
  refine zp_acw hK zmm29 (idx := 432) (r := 147) (r' := 12) (n := 18) (g := zG147) (g' := zG12) (t := (0, 0, 9)) (t' := (0, 0, 9)) (List.mem_of_getElem? (i := 0) rfl) rfl rfl rfl ⟨rfl, rfl, rfl, rfl⟩ ⟨rfl, rfl, rfl⟩ hb147 ⟨by omega, by have h9 : pm_cs [] = 0 := rfl; omega⟩ (by decide) ?_
  exact pm_vret rfl rfl ⟨rfl, zTJ_cpy hT (t := (0, 0, 9)) (g := zG147) (g' := zG12) rfl rfl (by decide) ⟨by decide, rfl⟩ ⟨by decide, rfl, rfl⟩ rfl rfl, rfl⟩
set_option maxRecDepth 100000 in
theorem fc_ci148_13 (hK : zKK ST) (hb148 : sx_bit Wm 148 = true) (hT : zTJ φ μ) (hbd : 1 ≤ bud.1 ∧ 25 ≤ bud.2.1) : zC D Wm ST b0 l Sg zM29 bud [(2, 13), (2, 148)] μ (fun st' μ' => st' = [] ∧ zTJ φ μ' ∧ μ' = pm_cpy μ 148 13 18) := by
  refine pm_blk hK zmm29 [] 8 8 [(2, 13), (2, 148)] [(0, 18), (0, 18), (0, 0), (2, 148), (0, 0), (2, 13)] μ [] rfl trivial ?_
  refine pm_call hK zmm29 (427, 1, 30, 2) zM30 (0, 0) [(0, 18), (0, 18)] [(0, 0), (2, 148), (0, 0), (2, 13)] rfl rfl rfl rfl ⟨by omega, by rw [zn30]; omega⟩ (zh_min hK ⟨Nat.le_refl _, Nat.le_refl _⟩) (fun st1 μc1 hp1 => ?_)
  obtain ⟨rfl, rfl⟩ := hp1
  refine zp_acw hK zmm29 (idx := 432) (r := 148) (r' := 13) (n := 18) (g := zG148) (g' := zG13) (t := (0, -1, 11)) (t' := (0, -1, 11)) (List.mem_of_getElem? (i := 0) rfl) rfl rfl rfl ⟨rfl, rfl, rfl, rfl⟩ ⟨rfl, rfl, rfl⟩ hb148 ⟨by omega, by have h9 : pm_cs [] = 0 := rfl; omega⟩ (by decide) ?_
  exact pm_vret rfl rfl ⟨rfl, zTJ_cpy hT (t := (0, -1, 11)) (g := zG148) (g' := zG13) rfl rfl (by decide) ⟨by decide, rfl⟩ ⟨by decide, rfl, rfl⟩ rfl rfl, rfl⟩
set_option maxRecDepth 100000 in
theorem fc_ci149_14 (hK : zKK ST) (hb149 : sx_bit Wm 149 = true) (hT : zTJ φ μ) (hbd : 1 ≤ bud.1 ∧ 25 ≤ bud.2.1) : zC D Wm ST b0 l Sg zM29 bud [(2, 14), (2, 149)] μ (fun st' μ' => st' = [] ∧ zTJ φ μ' ∧ μ' = pm_cpy μ 149 14 18) := by
  refine pm_blk hK zmm29 [] 8 8 [(2, 14), (2, 149)] [(0, 18), (0, 18), (0, 0), (2, 149), (0, 0), (2, 14)] μ [] rfl trivial ?_
  refine pm_call hK zmm29 (427, 1, 30, 2) zM30 (0, 0) [(0, 18), (0, 18)] [(0, 0), (2, 149), (0, 0), (2, 14)] rfl rfl rfl rfl ⟨by omega, by rw [zn30]; omega⟩ (zh_min hK ⟨Nat.le_refl _, Nat.le_refl _⟩) (fun st1 μc1 hp1 => ?_)
  obtain ⟨rfl, rfl⟩ := hp1
  refine zp_acw hK zmm29 (idx := 432) (r := 149) (r' := 14) (n := 18) (g := zG149) (g' := zG14) (t := (0, -2147483648, 2147483647)) (t' := (0, -2147483648, 2147483647)) (List.mem_of_getElem? (i := 0) rfl) rfl rfl rfl ⟨rfl, rfl, rfl, rfl⟩ ⟨rfl, rfl, rfl⟩ hb149 ⟨by omega, by have h9 : pm_cs [] = 0 := rfl; omega⟩ (by decide) ?_
  exact pm_vret rfl rfl ⟨rfl, zTJ_cpy hT (t := (0, -2147483648, 2147483647)) (g := zG149) (g' := zG14) rfl rfl (by decide) ⟨by decide, rfl⟩ ⟨by decide, rfl, rfl⟩ rfl rfl, rfl⟩
set_option maxRecDepth 100000 in
theorem fc_ci150_15 (hK : zKK ST) (hb150 : sx_bit Wm 150 = true) (hT : zTJ φ μ) (hbd : 1 ≤ bud.1 ∧ 25 ≤ bud.2.1) : zC D Wm ST b0 l Sg zM29 bud [(2, 15), (2, 150)] μ (fun st' μ' => st' = [] ∧ zTJ φ μ' ∧ μ' = pm_cpy μ 150 15 18) := by
  refine pm_blk hK zmm29 [] 8 8 [(2, 15), (2, 150)] [(0, 18), (0, 18), (0, 0), (2, 150), (0, 0), (2, 15)] μ [] rfl trivial ?_
  refine pm_call hK zmm29 (427, 1, 30, 2) zM30 (0, 0) [(0, 18), (0, 18)] [(0, 0), (2, 150), (0, 0), (2, 15)] rfl rfl rfl rfl ⟨by omega, by rw [zn30]; omega⟩ (zh_min hK ⟨Nat.le_refl _, Nat.le_refl _⟩) (fun st1 μc1 hp1 => ?_)
  obtain ⟨rfl, rfl⟩ := hp1
  refine zp_acw hK zmm29 (idx := 432) (r := 150) (r' := 15) (n := 18) (g := zG150) (g' := zG15) (t := (0, -2147483648, 2147483647)) (t' := (0, -2147483648, 2147483647)) (List.mem_of_getElem? (i := 0) rfl) rfl rfl rfl ⟨rfl, rfl, rfl, rfl⟩ ⟨rfl, rfl, rfl⟩ hb150 ⟨by omega, by have h9 : pm_cs [] = 0 := rfl; omega⟩ (by decide) ?_
  exact pm_vret rfl rfl ⟨rfl, zTJ_cpy hT (t := (0, -2147483648, 2147483647)) (g := zG150) (g' := zG15) rfl rfl (by decide) ⟨by decide, rfl⟩ ⟨by decide, rfl, rfl⟩ rfl rfl, rfl⟩
set_option maxRecDepth 100000 in
theorem fc_ac138_3 (hK : zKK ST) (hT : zTJ φ μ) (hb138 : sx_bit Wm 138 = true) (hb139 : sx_bit Wm 139 = true) (hb140 : sx_bit Wm 140 = true) (hb141 : sx_bit Wm 141 = true) (hb142 : sx_bit Wm 142 = true) (hb143 : sx_bit Wm 143 = true) (hb144 : sx_bit Wm 144 = true) (hb145 : sx_bit Wm 145 = true) (hb146 : sx_bit Wm 146 = true) (hb147 : sx_bit Wm 147 = true) (hb148 : sx_bit Wm 148 = true) (hb149 : sx_bit Wm 149 = true) (hb150 : sx_bit Wm 150 = true) (hbd : 2 ≤ bud.1 ∧ 46 ≤ bud.2.1) : zC D Wm ST b0 l Sg zM28 bud [(2, 138), (2, 3)] μ (fun st' μ' => st' = [] ∧ zTJ φ μ' ∧ fa_cp 138 3 12 μ μ') := by
  have hk : fa_cf 138 3 0 μ μ := fa_cf_0
  have f1 := zT_get hT zs3_0 (i := 0) (by omega) (by omega)
  refine pm_blk hK zmm28 [] 4 8 [(2, 138), (2, 3)] [] (pm_up μ 138 0 (μ 3 0)) [sx_bit Wm 138 = true] rfl ⟨hb138, trivial⟩ ?_
  obtain ⟨μ1, eμ1⟩ : ∃ μ', μ' = pm_up μ 138 0 (μ 3 0) := ⟨_, rfl⟩
  rw [← eμ1]
  have hTμ1 : zTJ φ μ1 := by rw [eμ1]; exact zT_up hT zs138_0 rfl (i := 0) (by omega) (by omega) (by omega) (by omega)
  have hk : fa_cf 138 3 1 μ μ1 := fa_cf_s (j := 0) hk eμ1 rfl (by decide)
  have g2 : μ1 3 1 = μ 3 1 := by rw [eμ1, pm_up_off (by decide)]
  have f3 := zT_get hTμ1 zs3_1 (i := 1) (by omega) (by omega)
  refine pm_blk hK zmm28 [] 4 16 [(2, 138), (2, 3)] [] (pm_up μ1 138 1 (μ1 3 1)) [sx_bit Wm 138 = true] rfl ⟨hb138, trivial⟩ ?_
  obtain ⟨μ2, eμ2⟩ : ∃ μ', μ' = pm_up μ1 138 1 (μ1 3 1) := ⟨_, rfl⟩
  rw [← eμ2]
  have hTμ2 : zTJ φ μ2 := by rw [eμ2]; exact zT_up hTμ1 zs138_1 rfl (i := 1) (by omega) (by omega) (by omega) (by omega)
  have hk : fa_cf 138 3 2 μ μ2 := fa_cf_s (j := 1) hk eμ2 rfl (by decide)
  have g4 : μ2 3 2 = μ 3 2 := by rw [eμ2, pm_up_off (by decide), eμ1, pm_up_off (by decide)]
  have f5 := zT_get hTμ2 zs3_2 (i := 2) (by omega) (by omega)
  refine pm_blk hK zmm28 [] 4 24 [(2, 138), (2, 3)] [] (pm_up μ2 138 2 (μ2 3 2)) [sx_bit Wm 138 = true] rfl ⟨hb138, trivial⟩ ?_
  obtain ⟨μ3, eμ3⟩ : ∃ μ', μ' = pm_up μ2 138 2 (μ2 3 2) := ⟨_, rfl⟩
  rw [← eμ3]
  have hTμ3 : zTJ φ μ3 := by rw [eμ3]; exact zT_up hTμ2 zs138_2 rfl (i := 2) (by omega) (by omega) (by omega) (by omega)
  have hk : fa_cf 138 3 3 μ μ3 := fa_cf_s (j := 2) hk eμ3 rfl (by decide)
  have g6 : μ3 3 3 = μ 3 3 := by rw [eμ3, pm_up_off (by decide), eμ2, pm_up_off (by decide), eμ1, pm_up_off (by decide)]
  have f7 := zT_get hTμ3 zs3_3 (i := 3) (by omega) (by omega)
  refine pm_blk hK zmm28 [] 4 32 [(2, 138), (2, 3)] [] (pm_up μ3 138 3 (μ3 3 3)) [sx_bit Wm 138 = true] rfl ⟨hb138, trivial⟩ ?_
  obtain ⟨μ4, eμ4⟩ : ∃ μ', μ' = pm_up μ3 138 3 (μ3 3 3) := ⟨_, rfl⟩
  rw [← eμ4]
  have hTμ4 : zTJ φ μ4 := by rw [eμ4]; exact zT_up hTμ3 zs138_3 rfl (i := 3) (by omega) (by omega) (by omega) (by omega)
  have hk : fa_cf 138 3 4 μ μ4 := fa_cf_s (j := 3) hk eμ4 rfl (by decide)
  have g8 : μ4 3 4 = μ 3 4 := by rw [eμ4, pm_up_off (by decide), eμ3, pm_up_off (by decide), eμ2, pm_up_off (by decide), eμ1, pm_up_off (by decide)]
  have f9 := zT_get hTμ4 zs3_4 (i := 4) (by omega) (by omega)
  refine pm_blk hK zmm28 [] 4 40 [(2, 138), (2, 3)] [] (pm_up μ4 138 4 (μ4 3 4)) [sx_bit Wm 138 = true] rfl ⟨hb138, trivial⟩ ?_
  obtain ⟨μ5, eμ5⟩ : ∃ μ', μ' = pm_up μ4 138 4 (μ4 3 4) := ⟨_, rfl⟩
  rw [← eμ5]
  have hTμ5 : zTJ φ μ5 := by rw [eμ5]; exact zT_up hTμ4 zs138_4 rfl (i := 4) (by omega) (by omega) (by omega) (by omega)
  have hk : fa_cf 138 3 5 μ μ5 := fa_cf_s (j := 4) hk eμ5 rfl (by decide)
  have hc := fa_cp_0 hk
  refine pm_blk hK zmm28 [] 4 48 [(2, 138), (2, 3)] [(2, 139), (2, 4)] μ5 [] rfl trivial ?_
  refine pm_call hK zmm28 (91, 1, 29, 2) zM29 (1, 25) [(2, 4), (2, 139)] [] rfl rfl rfl rfl ⟨by omega, by rw [zn29]; omega⟩ (fc_ci139_4 hK hb139 hTμ5 ⟨Nat.le_refl _, Nat.le_refl _⟩) (fun st1 μc1 hp1 => ?_)
  obtain ⟨rfl, hTc1, ec1⟩ := hp1
  have hc : fa_cp 138 3 1 μ μc1 := fa_cp_s (j := 0) hc ec1 rfl rfl (by decide) (by decide) (by decide)
  refine pm_blk hK zmm28 [] 4 59 [(2, 138), (2, 3)] [(2, 140), (2, 5)] μc1 [] rfl trivial ?_
  refine pm_call hK zmm28 (91, 1, 29, 2) zM29 (1, 25) [(2, 5), (2, 140)] [] rfl rfl rfl rfl ⟨by omega, by rw [zn29]; omega⟩ (fc_ci140_5 hK hb140 hTc1 ⟨Nat.le_refl _, Nat.le_refl _⟩) (fun st2 μc2 hp2 => ?_)
  obtain ⟨rfl, hTc2, ec2⟩ := hp2
  have hc : fa_cp 138 3 2 μ μc2 := fa_cp_s (j := 1) hc ec2 rfl rfl (by decide) (by decide) (by decide)
  refine pm_blk hK zmm28 [] 4 70 [(2, 138), (2, 3)] [(2, 141), (2, 6)] μc2 [] rfl trivial ?_
  refine pm_call hK zmm28 (91, 1, 29, 2) zM29 (1, 25) [(2, 6), (2, 141)] [] rfl rfl rfl rfl ⟨by omega, by rw [zn29]; omega⟩ (fc_ci141_6 hK hb141 hTc2 ⟨Nat.le_refl _, Nat.le_refl _⟩) (fun st3 μc3 hp3 => ?_)
  obtain ⟨rfl, hTc3, ec3⟩ := hp3
  have hc : fa_cp 138 3 3 μ μc3 := fa_cp_s (j := 2) hc ec3 rfl rfl (by decide) (by decide) (by decide)
  refine pm_blk hK zmm28 [] 4 81 [(2, 138), (2, 3)] [(2, 142), (2, 7)] μc3 [] rfl trivial ?_
  refine pm_call hK zmm28 (91, 1, 29, 2) zM29 (1, 25) [(2, 7), (2, 142)] [] rfl rfl rfl rfl ⟨by omega, by rw [zn29]; omega⟩ (fc_ci142_7 hK hb142 hTc3 ⟨Nat.le_refl _, Nat.le_refl _⟩) (fun st4 μc4 hp4 => ?_)
  obtain ⟨rfl, hTc4, ec4⟩ := hp4
  have hc : fa_cp 138 3 4 μ μc4 := fa_cp_s (j := 3) hc ec4 rfl rfl (by decide) (by decide) (by decide)
  refine pm_blk hK zmm28 [] 4 92 [(2, 138), (2, 3)] [(2, 143), (2, 8)] μc4 [] rfl trivial ?_
  refine pm_call hK zmm28 (91, 1, 29, 2) zM29 (1, 25) [(2, 8), (2, 143)] [] rfl rfl rfl rfl ⟨by omega, by rw [zn29]; omega⟩ (fc_ci143_8 hK hb143 hTc4 ⟨Nat.le_refl _, Nat.le_refl _⟩) (fun st5 μc5 hp5 => ?_)
  obtain ⟨rfl, hTc5, ec5⟩ := hp5
  have hc : fa_cp 138 3 5 μ μc5 := fa_cp_s (j := 4) hc ec5 rfl rfl (by decide) (by decide) (by decide)
  refine pm_blk hK zmm28 [] 4 103 [(2, 138), (2, 3)] [(2, 144), (2, 9)] μc5 [] rfl trivial ?_
  refine pm_call hK zmm28 (91, 1, 29, 2) zM29 (1, 25) [(2, 9), (2, 144)] [] rfl rfl rfl rfl ⟨by omega, by rw [zn29]; omega⟩ (fc_ci144_9 hK hb144 hTc5 ⟨Nat.le_refl _, Nat.le_refl _⟩) (fun st6 μc6 hp6 => ?_)
  obtain ⟨rfl, hTc6, ec6⟩ := hp6
  have hc : fa_cp 138 3 6 μ μc6 := fa_cp_s (j := 5) hc ec6 rfl rfl (by decide) (by decide) (by decide)
  refine pm_blk hK zmm28 [] 4 114 [(2, 138), (2, 3)] [(2, 145), (2, 10)] μc6 [] rfl trivial ?_
  refine pm_call hK zmm28 (91, 1, 29, 2) zM29 (1, 25) [(2, 10), (2, 145)] [] rfl rfl rfl rfl ⟨by omega, by rw [zn29]; omega⟩ (fc_ci145_10 hK hb145 hTc6 ⟨Nat.le_refl _, Nat.le_refl _⟩) (fun st7 μc7 hp7 => ?_)
  obtain ⟨rfl, hTc7, ec7⟩ := hp7
  have hc : fa_cp 138 3 7 μ μc7 := fa_cp_s (j := 6) hc ec7 rfl rfl (by decide) (by decide) (by decide)
  refine pm_blk hK zmm28 [] 4 125 [(2, 138), (2, 3)] [(2, 146), (2, 11)] μc7 [] rfl trivial ?_
  refine pm_call hK zmm28 (91, 1, 29, 2) zM29 (1, 25) [(2, 11), (2, 146)] [] rfl rfl rfl rfl ⟨by omega, by rw [zn29]; omega⟩ (fc_ci146_11 hK hb146 hTc7 ⟨Nat.le_refl _, Nat.le_refl _⟩) (fun st8 μc8 hp8 => ?_)
  obtain ⟨rfl, hTc8, ec8⟩ := hp8
  have hc : fa_cp 138 3 8 μ μc8 := fa_cp_s (j := 7) hc ec8 rfl rfl (by decide) (by decide) (by decide)
  refine pm_blk hK zmm28 [] 4 136 [(2, 138), (2, 3)] [(2, 147), (2, 12)] μc8 [] rfl trivial ?_
  refine pm_call hK zmm28 (91, 1, 29, 2) zM29 (1, 25) [(2, 12), (2, 147)] [] rfl rfl rfl rfl ⟨by omega, by rw [zn29]; omega⟩ (fc_ci147_12 hK hb147 hTc8 ⟨Nat.le_refl _, Nat.le_refl _⟩) (fun st9 μc9 hp9 => ?_)
  obtain ⟨rfl, hTc9, ec9⟩ := hp9
  have hc : fa_cp 138 3 9 μ μc9 := fa_cp_s (j := 8) hc ec9 rfl rfl (by decide) (by decide) (by decide)
  refine pm_blk hK zmm28 [] 4 147 [(2, 138), (2, 3)] [(2, 148), (2, 13)] μc9 [] rfl trivial ?_
  refine pm_call hK zmm28 (91, 1, 29, 2) zM29 (1, 25) [(2, 13), (2, 148)] [] rfl rfl rfl rfl ⟨by omega, by rw [zn29]; omega⟩ (fc_ci148_13 hK hb148 hTc9 ⟨Nat.le_refl _, Nat.le_refl _⟩) (fun st10 μc10 hp10 => ?_)
  obtain ⟨rfl, hTc10, ec10⟩ := hp10
  have hc : fa_cp 138 3 10 μ μc10 := fa_cp_s (j := 9) hc ec10 rfl rfl (by decide) (by decide) (by decide)
  refine pm_blk hK zmm28 [] 4 158 [(2, 138), (2, 3)] [(2, 149), (2, 14)] μc10 [] rfl trivial ?_
  refine pm_call hK zmm28 (91, 1, 29, 2) zM29 (1, 25) [(2, 14), (2, 149)] [] rfl rfl rfl rfl ⟨by omega, by rw [zn29]; omega⟩ (fc_ci149_14 hK hb149 hTc10 ⟨Nat.le_refl _, Nat.le_refl _⟩) (fun st11 μc11 hp11 => ?_)
  obtain ⟨rfl, hTc11, ec11⟩ := hp11
  have hc : fa_cp 138 3 11 μ μc11 := fa_cp_s (j := 10) hc ec11 rfl rfl (by decide) (by decide) (by decide)
  refine pm_blk hK zmm28 [] 4 169 [(2, 138), (2, 3)] [(2, 150), (2, 15)] μc11 [] rfl trivial ?_
  refine pm_call hK zmm28 (91, 1, 29, 2) zM29 (1, 25) [(2, 15), (2, 150)] [] rfl rfl rfl rfl ⟨by omega, by rw [zn29]; omega⟩ (fc_ci150_15 hK hb150 hTc11 ⟨Nat.le_refl _, Nat.le_refl _⟩) (fun st12 μc12 hp12 => ?_)
  obtain ⟨rfl, hTc12, ec12⟩ := hp12
  have hc : fa_cp 138 3 12 μ μc12 := fa_cp_s (j := 11) hc ec12 rfl rfl (by decide) (by decide) (by decide)
  exact pm_vret rfl rfl ⟨rfl, hTc12, hc⟩
set_option maxRecDepth 100000 in
theorem fc_ci152_4 (hK : zKK ST) (hb152 : sx_bit Wm 152 = true) (hT : zTJ φ μ) (hbd : 1 ≤ bud.1 ∧ 25 ≤ bud.2.1) : zC D Wm ST b0 l Sg zM29 bud [(2, 4), (2, 152)] μ (fun st' μ' => st' = [] ∧ zTJ φ μ' ∧ μ' = pm_cpy μ 152 4 12) := by
  refine pm_blk hK zmm29 [] 8 8 [(2, 4), (2, 152)] [(0, 12), (0, 12), (0, 0), (2, 152), (0, 0), (2, 4)] μ [] rfl trivial ?_
  refine pm_call hK zmm29 (427, 1, 30, 2) zM30 (0, 0) [(0, 12), (0, 12)] [(0, 0), (2, 152), (0, 0), (2, 4)] rfl rfl rfl rfl ⟨by omega, by rw [zn30]; omega⟩ (zh_min hK ⟨Nat.le_refl _, Nat.le_refl _⟩) (fun st1 μc1 hp1 => ?_)
  obtain ⟨rfl, rfl⟩ := hp1
  refine zp_acw hK zmm29 (idx := 432) (r := 152) (r' := 4) (n := 12) (g := zG152) (g' := zG4) (t := (0, -1, 999)) (t' := (0, -1, 999)) (List.mem_of_getElem? (i := 0) rfl) rfl rfl rfl ⟨rfl, rfl, rfl, rfl⟩ ⟨rfl, rfl, rfl⟩ hb152 ⟨by omega, by have h9 : pm_cs [] = 0 := rfl; omega⟩ (by decide) ?_
  exact pm_vret rfl rfl ⟨rfl, zTJ_cpy hT (t := (0, -1, 999)) (g := zG152) (g' := zG4) rfl rfl (by decide) ⟨by decide, rfl⟩ ⟨by decide, rfl, rfl⟩ rfl rfl, rfl⟩
set_option maxRecDepth 100000 in
theorem fc_ci153_5 (hK : zKK ST) (hb153 : sx_bit Wm 153 = true) (hT : zTJ φ μ) (hbd : 1 ≤ bud.1 ∧ 25 ≤ bud.2.1) : zC D Wm ST b0 l Sg zM29 bud [(2, 5), (2, 153)] μ (fun st' μ' => st' = [] ∧ zTJ φ μ' ∧ μ' = pm_cpy μ 153 5 12) := by
  refine pm_blk hK zmm29 [] 8 8 [(2, 5), (2, 153)] [(0, 12), (0, 12), (0, 0), (2, 153), (0, 0), (2, 5)] μ [] rfl trivial ?_
  refine pm_call hK zmm29 (427, 1, 30, 2) zM30 (0, 0) [(0, 12), (0, 12)] [(0, 0), (2, 153), (0, 0), (2, 5)] rfl rfl rfl rfl ⟨by omega, by rw [zn30]; omega⟩ (zh_min hK ⟨Nat.le_refl _, Nat.le_refl _⟩) (fun st1 μc1 hp1 => ?_)
  obtain ⟨rfl, rfl⟩ := hp1
  refine zp_acw hK zmm29 (idx := 432) (r := 153) (r' := 5) (n := 12) (g := zG153) (g' := zG5) (t := (0, -1, 999)) (t' := (0, -1, 999)) (List.mem_of_getElem? (i := 0) rfl) rfl rfl rfl ⟨rfl, rfl, rfl, rfl⟩ ⟨rfl, rfl, rfl⟩ hb153 ⟨by omega, by have h9 : pm_cs [] = 0 := rfl; omega⟩ (by decide) ?_
  exact pm_vret rfl rfl ⟨rfl, zTJ_cpy hT (t := (0, -1, 999)) (g := zG153) (g' := zG5) rfl rfl (by decide) ⟨by decide, rfl⟩ ⟨by decide, rfl, rfl⟩ rfl rfl, rfl⟩
set_option maxRecDepth 100000 in
theorem fc_ci154_6 (hK : zKK ST) (hb154 : sx_bit Wm 154 = true) (hT : zTJ φ μ) (hbd : 1 ≤ bud.1 ∧ 25 ≤ bud.2.1) : zC D Wm ST b0 l Sg zM29 bud [(2, 6), (2, 154)] μ (fun st' μ' => st' = [] ∧ zTJ φ μ' ∧ μ' = pm_cpy μ 154 6 12) := by
  refine pm_blk hK zmm29 [] 8 8 [(2, 6), (2, 154)] [(0, 12), (0, 12), (0, 0), (2, 154), (0, 0), (2, 6)] μ [] rfl trivial ?_
  refine pm_call hK zmm29 (427, 1, 30, 2) zM30 (0, 0) [(0, 12), (0, 12)] [(0, 0), (2, 154), (0, 0), (2, 6)] rfl rfl rfl rfl ⟨by omega, by rw [zn30]; omega⟩ (zh_min hK ⟨Nat.le_refl _, Nat.le_refl _⟩) (fun st1 μc1 hp1 => ?_)
  obtain ⟨rfl, rfl⟩ := hp1
  refine zp_acw hK zmm29 (idx := 432) (r := 154) (r' := 6) (n := 12) (g := zG154) (g' := zG6) (t := (0, -2147483648, 2147483647)) (t' := (0, -2147483648, 2147483647)) (List.mem_of_getElem? (i := 0) rfl) rfl rfl rfl ⟨rfl, rfl, rfl, rfl⟩ ⟨rfl, rfl, rfl⟩ hb154 ⟨by omega, by have h9 : pm_cs [] = 0 := rfl; omega⟩ (by decide) ?_
  exact pm_vret rfl rfl ⟨rfl, zTJ_cpy hT (t := (0, -2147483648, 2147483647)) (g := zG154) (g' := zG6) rfl rfl (by decide) ⟨by decide, rfl⟩ ⟨by decide, rfl, rfl⟩ rfl rfl, rfl⟩
set_option maxRecDepth 100000 in
theorem fc_ci155_7 (hK : zKK ST) (hb155 : sx_bit Wm 155 = true) (hT : zTJ φ μ) (hbd : 1 ≤ bud.1 ∧ 25 ≤ bud.2.1) : zC D Wm ST b0 l Sg zM29 bud [(2, 7), (2, 155)] μ (fun st' μ' => st' = [] ∧ zTJ φ μ' ∧ μ' = pm_cpy μ 155 7 12) := by
  refine pm_blk hK zmm29 [] 8 8 [(2, 7), (2, 155)] [(0, 12), (0, 12), (0, 0), (2, 155), (0, 0), (2, 7)] μ [] rfl trivial ?_
  refine pm_call hK zmm29 (427, 1, 30, 2) zM30 (0, 0) [(0, 12), (0, 12)] [(0, 0), (2, 155), (0, 0), (2, 7)] rfl rfl rfl rfl ⟨by omega, by rw [zn30]; omega⟩ (zh_min hK ⟨Nat.le_refl _, Nat.le_refl _⟩) (fun st1 μc1 hp1 => ?_)
  obtain ⟨rfl, rfl⟩ := hp1
  refine zp_acw hK zmm29 (idx := 432) (r := 155) (r' := 7) (n := 12) (g := zG155) (g' := zG7) (t := (0, 0, 1)) (t' := (0, 0, 1)) (List.mem_of_getElem? (i := 0) rfl) rfl rfl rfl ⟨rfl, rfl, rfl, rfl⟩ ⟨rfl, rfl, rfl⟩ hb155 ⟨by omega, by have h9 : pm_cs [] = 0 := rfl; omega⟩ (by decide) ?_
  exact pm_vret rfl rfl ⟨rfl, zTJ_cpy hT (t := (0, 0, 1)) (g := zG155) (g' := zG7) rfl rfl (by decide) ⟨by decide, rfl⟩ ⟨by decide, rfl, rfl⟩ rfl rfl, rfl⟩
set_option maxRecDepth 100000 in
theorem fc_ci156_8 (hK : zKK ST) (hb156 : sx_bit Wm 156 = true) (hT : zTJ φ μ) (hbd : 1 ≤ bud.1 ∧ 25 ≤ bud.2.1) : zC D Wm ST b0 l Sg zM29 bud [(2, 8), (2, 156)] μ (fun st' μ' => st' = [] ∧ zTJ φ μ' ∧ μ' = pm_cpy μ 156 8 12) := by
  refine pm_blk hK zmm29 [] 8 8 [(2, 8), (2, 156)] [(0, 12), (0, 12), (0, 0), (2, 156), (0, 0), (2, 8)] μ [] rfl trivial ?_
  refine pm_call hK zmm29 (427, 1, 30, 2) zM30 (0, 0) [(0, 12), (0, 12)] [(0, 0), (2, 156), (0, 0), (2, 8)] rfl rfl rfl rfl ⟨by omega, by rw [zn30]; omega⟩ (zh_min hK ⟨Nat.le_refl _, Nat.le_refl _⟩) (fun st1 μc1 hp1 => ?_)
  obtain ⟨rfl, rfl⟩ := hp1
  refine zp_acw hK zmm29 (idx := 432) (r := 156) (r' := 8) (n := 12) (g := zG156) (g' := zG8) (t := (0, -1, 17)) (t' := (0, -1, 17)) (List.mem_of_getElem? (i := 0) rfl) rfl rfl rfl ⟨rfl, rfl, rfl, rfl⟩ ⟨rfl, rfl, rfl⟩ hb156 ⟨by omega, by have h9 : pm_cs [] = 0 := rfl; omega⟩ (by decide) ?_
  exact pm_vret rfl rfl ⟨rfl, zTJ_cpy hT (t := (0, -1, 17)) (g := zG156) (g' := zG8) rfl rfl (by decide) ⟨by decide, rfl⟩ ⟨by decide, rfl, rfl⟩ rfl rfl, rfl⟩
set_option maxRecDepth 100000 in
theorem fc_ci157_9 (hK : zKK ST) (hb157 : sx_bit Wm 157 = true) (hT : zTJ φ μ) (hbd : 1 ≤ bud.1 ∧ 25 ≤ bud.2.1) : zC D Wm ST b0 l Sg zM29 bud [(2, 9), (2, 157)] μ (fun st' μ' => st' = [] ∧ zTJ φ μ' ∧ μ' = pm_cpy μ 157 9 12) := by
  refine pm_blk hK zmm29 [] 8 8 [(2, 9), (2, 157)] [(0, 12), (0, 12), (0, 0), (2, 157), (0, 0), (2, 9)] μ [] rfl trivial ?_
  refine pm_call hK zmm29 (427, 1, 30, 2) zM30 (0, 0) [(0, 12), (0, 12)] [(0, 0), (2, 157), (0, 0), (2, 9)] rfl rfl rfl rfl ⟨by omega, by rw [zn30]; omega⟩ (zh_min hK ⟨Nat.le_refl _, Nat.le_refl _⟩) (fun st1 μc1 hp1 => ?_)
  obtain ⟨rfl, rfl⟩ := hp1
  refine zp_acw hK zmm29 (idx := 432) (r := 157) (r' := 9) (n := 12) (g := zG157) (g' := zG9) (t := (0, -1, 17)) (t' := (0, -1, 17)) (List.mem_of_getElem? (i := 0) rfl) rfl rfl rfl ⟨rfl, rfl, rfl, rfl⟩ ⟨rfl, rfl, rfl⟩ hb157 ⟨by omega, by have h9 : pm_cs [] = 0 := rfl; omega⟩ (by decide) ?_
  exact pm_vret rfl rfl ⟨rfl, zTJ_cpy hT (t := (0, -1, 17)) (g := zG157) (g' := zG9) rfl rfl (by decide) ⟨by decide, rfl⟩ ⟨by decide, rfl, rfl⟩ rfl rfl, rfl⟩
set_option maxRecDepth 100000 in
theorem fc_ci158_10 (hK : zKK ST) (hb158 : sx_bit Wm 158 = true) (hT : zTJ φ μ) (hbd : 1 ≤ bud.1 ∧ 25 ≤ bud.2.1) : zC D Wm ST b0 l Sg zM29 bud [(2, 10), (2, 158)] μ (fun st' μ' => st' = [] ∧ zTJ φ μ' ∧ μ' = pm_cpy μ 158 10 12) := by
  refine pm_blk hK zmm29 [] 8 8 [(2, 10), (2, 158)] [(0, 12), (0, 12), (0, 0), (2, 158), (0, 0), (2, 10)] μ [] rfl trivial ?_
  refine pm_call hK zmm29 (427, 1, 30, 2) zM30 (0, 0) [(0, 12), (0, 12)] [(0, 0), (2, 158), (0, 0), (2, 10)] rfl rfl rfl rfl ⟨by omega, by rw [zn30]; omega⟩ (zh_min hK ⟨Nat.le_refl _, Nat.le_refl _⟩) (fun st1 μc1 hp1 => ?_)
  obtain ⟨rfl, rfl⟩ := hp1
  refine zp_acw hK zmm29 (idx := 432) (r := 158) (r' := 10) (n := 12) (g := zG158) (g' := zG10) (t := (0, -2147483648, 2147483647)) (t' := (0, -2147483648, 2147483647)) (List.mem_of_getElem? (i := 0) rfl) rfl rfl rfl ⟨rfl, rfl, rfl, rfl⟩ ⟨rfl, rfl, rfl⟩ hb158 ⟨by omega, by have h9 : pm_cs [] = 0 := rfl; omega⟩ (by decide) ?_
  exact pm_vret rfl rfl ⟨rfl, zTJ_cpy hT (t := (0, -2147483648, 2147483647)) (g := zG158) (g' := zG10) rfl rfl (by decide) ⟨by decide, rfl⟩ ⟨by decide, rfl, rfl⟩ rfl rfl, rfl⟩
set_option maxRecDepth 100000 in
theorem fc_ci159_11 (hK : zKK ST) (hb159 : sx_bit Wm 159 = true) (hT : zTJ φ μ) (hbd : 1 ≤ bud.1 ∧ 25 ≤ bud.2.1) : zC D Wm ST b0 l Sg zM29 bud [(2, 11), (2, 159)] μ (fun st' μ' => st' = [] ∧ zTJ φ μ' ∧ μ' = pm_cpy μ 159 11 18) := by
  refine pm_blk hK zmm29 [] 8 8 [(2, 11), (2, 159)] [(0, 18), (0, 18), (0, 0), (2, 159), (0, 0), (2, 11)] μ [] rfl trivial ?_
  refine pm_call hK zmm29 (427, 1, 30, 2) zM30 (0, 0) [(0, 18), (0, 18)] [(0, 0), (2, 159), (0, 0), (2, 11)] rfl rfl rfl rfl ⟨by omega, by rw [zn30]; omega⟩ (zh_min hK ⟨Nat.le_refl _, Nat.le_refl _⟩) (fun st1 μc1 hp1 => ?_)
  obtain ⟨rfl, rfl⟩ := hp1
  refine zp_acw hK zmm29 (idx := 432) (r := 159) (r' := 11) (n := 18) (g := zG159) (g' := zG11) (t := (0, -2147483648, 9999)) (t' := (0, -2147483648, 9999)) (List.mem_of_getElem? (i := 0) rfl) rfl rfl rfl ⟨rfl, rfl, rfl, rfl⟩ ⟨rfl, rfl, rfl⟩ hb159 ⟨by omega, by have h9 : pm_cs [] = 0 := rfl; omega⟩ (by decide) ?_
  exact pm_vret rfl rfl ⟨rfl, zTJ_cpy hT (t := (0, -2147483648, 9999)) (g := zG159) (g' := zG11) rfl rfl (by decide) ⟨by decide, rfl⟩ ⟨by decide, rfl, rfl⟩ rfl rfl, rfl⟩
set_option maxRecDepth 100000 in
theorem fc_ci160_12 (hK : zKK ST) (hb160 : sx_bit Wm 160 = true) (hT : zTJ φ μ) (hbd : 1 ≤ bud.1 ∧ 25 ≤ bud.2.1) : zC D Wm ST b0 l Sg zM29 bud [(2, 12), (2, 160)] μ (fun st' μ' => st' = [] ∧ zTJ φ μ' ∧ μ' = pm_cpy μ 160 12 18) := by
  refine pm_blk hK zmm29 [] 8 8 [(2, 12), (2, 160)] [(0, 18), (0, 18), (0, 0), (2, 160), (0, 0), (2, 12)] μ [] rfl trivial ?_
  refine pm_call hK zmm29 (427, 1, 30, 2) zM30 (0, 0) [(0, 18), (0, 18)] [(0, 0), (2, 160), (0, 0), (2, 12)] rfl rfl rfl rfl ⟨by omega, by rw [zn30]; omega⟩ (zh_min hK ⟨Nat.le_refl _, Nat.le_refl _⟩) (fun st1 μc1 hp1 => ?_)
  obtain ⟨rfl, rfl⟩ := hp1
  refine zp_acw hK zmm29 (idx := 432) (r := 160) (r' := 12) (n := 18) (g := zG160) (g' := zG12) (t := (0, 0, 9)) (t' := (0, 0, 9)) (List.mem_of_getElem? (i := 0) rfl) rfl rfl rfl ⟨rfl, rfl, rfl, rfl⟩ ⟨rfl, rfl, rfl⟩ hb160 ⟨by omega, by have h9 : pm_cs [] = 0 := rfl; omega⟩ (by decide) ?_
  exact pm_vret rfl rfl ⟨rfl, zTJ_cpy hT (t := (0, 0, 9)) (g := zG160) (g' := zG12) rfl rfl (by decide) ⟨by decide, rfl⟩ ⟨by decide, rfl, rfl⟩ rfl rfl, rfl⟩
set_option maxRecDepth 100000 in
theorem fc_ci161_13 (hK : zKK ST) (hb161 : sx_bit Wm 161 = true) (hT : zTJ φ μ) (hbd : 1 ≤ bud.1 ∧ 25 ≤ bud.2.1) : zC D Wm ST b0 l Sg zM29 bud [(2, 13), (2, 161)] μ (fun st' μ' => st' = [] ∧ zTJ φ μ' ∧ μ' = pm_cpy μ 161 13 18) := by
  refine pm_blk hK zmm29 [] 8 8 [(2, 13), (2, 161)] [(0, 18), (0, 18), (0, 0), (2, 161), (0, 0), (2, 13)] μ [] rfl trivial ?_
  refine pm_call hK zmm29 (427, 1, 30, 2) zM30 (0, 0) [(0, 18), (0, 18)] [(0, 0), (2, 161), (0, 0), (2, 13)] rfl rfl rfl rfl ⟨by omega, by rw [zn30]; omega⟩ (zh_min hK ⟨Nat.le_refl _, Nat.le_refl _⟩) (fun st1 μc1 hp1 => ?_)
  obtain ⟨rfl, rfl⟩ := hp1
  refine zp_acw hK zmm29 (idx := 432) (r := 161) (r' := 13) (n := 18) (g := zG161) (g' := zG13) (t := (0, -1, 11)) (t' := (0, -1, 11)) (List.mem_of_getElem? (i := 0) rfl) rfl rfl rfl ⟨rfl, rfl, rfl, rfl⟩ ⟨rfl, rfl, rfl⟩ hb161 ⟨by omega, by have h9 : pm_cs [] = 0 := rfl; omega⟩ (by decide) ?_
  exact pm_vret rfl rfl ⟨rfl, zTJ_cpy hT (t := (0, -1, 11)) (g := zG161) (g' := zG13) rfl rfl (by decide) ⟨by decide, rfl⟩ ⟨by decide, rfl, rfl⟩ rfl rfl, rfl⟩
set_option maxRecDepth 100000 in
theorem fc_ci162_14 (hK : zKK ST) (hb162 : sx_bit Wm 162 = true) (hT : zTJ φ μ) (hbd : 1 ≤ bud.1 ∧ 25 ≤ bud.2.1) : zC D Wm ST b0 l Sg zM29 bud [(2, 14), (2, 162)] μ (fun st' μ' => st' = [] ∧ zTJ φ μ' ∧ μ' = pm_cpy μ 162 14 18) := by
  refine pm_blk hK zmm29 [] 8 8 [(2, 14), (2, 162)] [(0, 18), (0, 18), (0, 0), (2, 162), (0, 0), (2, 14)] μ [] rfl trivial ?_
  refine pm_call hK zmm29 (427, 1, 30, 2) zM30 (0, 0) [(0, 18), (0, 18)] [(0, 0), (2, 162), (0, 0), (2, 14)] rfl rfl rfl rfl ⟨by omega, by rw [zn30]; omega⟩ (zh_min hK ⟨Nat.le_refl _, Nat.le_refl _⟩) (fun st1 μc1 hp1 => ?_)
  obtain ⟨rfl, rfl⟩ := hp1
  refine zp_acw hK zmm29 (idx := 432) (r := 162) (r' := 14) (n := 18) (g := zG162) (g' := zG14) (t := (0, -2147483648, 2147483647)) (t' := (0, -2147483648, 2147483647)) (List.mem_of_getElem? (i := 0) rfl) rfl rfl rfl ⟨rfl, rfl, rfl, rfl⟩ ⟨rfl, rfl, rfl⟩ hb162 ⟨by omega, by have h9 : pm_cs [] = 0 := rfl; omega⟩ (by decide) ?_
  exact pm_vret rfl rfl ⟨rfl, zTJ_cpy hT (t := (0, -2147483648, 2147483647)) (g := zG162) (g' := zG14) rfl rfl (by decide) ⟨by decide, rfl⟩ ⟨by decide, rfl, rfl⟩ rfl rfl, rfl⟩
set_option maxRecDepth 100000 in
theorem fc_ci163_15 (hK : zKK ST) (hb163 : sx_bit Wm 163 = true) (hT : zTJ φ μ) (hbd : 1 ≤ bud.1 ∧ 25 ≤ bud.2.1) : zC D Wm ST b0 l Sg zM29 bud [(2, 15), (2, 163)] μ (fun st' μ' => st' = [] ∧ zTJ φ μ' ∧ μ' = pm_cpy μ 163 15 18) := by
  refine pm_blk hK zmm29 [] 8 8 [(2, 15), (2, 163)] [(0, 18), (0, 18), (0, 0), (2, 163), (0, 0), (2, 15)] μ [] rfl trivial ?_
  refine pm_call hK zmm29 (427, 1, 30, 2) zM30 (0, 0) [(0, 18), (0, 18)] [(0, 0), (2, 163), (0, 0), (2, 15)] rfl rfl rfl rfl ⟨by omega, by rw [zn30]; omega⟩ (zh_min hK ⟨Nat.le_refl _, Nat.le_refl _⟩) (fun st1 μc1 hp1 => ?_)
  obtain ⟨rfl, rfl⟩ := hp1
  refine zp_acw hK zmm29 (idx := 432) (r := 163) (r' := 15) (n := 18) (g := zG163) (g' := zG15) (t := (0, -2147483648, 2147483647)) (t' := (0, -2147483648, 2147483647)) (List.mem_of_getElem? (i := 0) rfl) rfl rfl rfl ⟨rfl, rfl, rfl, rfl⟩ ⟨rfl, rfl, rfl⟩ hb163 ⟨by omega, by have h9 : pm_cs [] = 0 := rfl; omega⟩ (by decide) ?_
  exact pm_vret rfl rfl ⟨rfl, zTJ_cpy hT (t := (0, -2147483648, 2147483647)) (g := zG163) (g' := zG15) rfl rfl (by decide) ⟨by decide, rfl⟩ ⟨by decide, rfl, rfl⟩ rfl rfl, rfl⟩
set_option maxRecDepth 100000 in
theorem fc_ac151_3 (hK : zKK ST) (hT : zTJ φ μ) (hb151 : sx_bit Wm 151 = true) (hb152 : sx_bit Wm 152 = true) (hb153 : sx_bit Wm 153 = true) (hb154 : sx_bit Wm 154 = true) (hb155 : sx_bit Wm 155 = true) (hb156 : sx_bit Wm 156 = true) (hb157 : sx_bit Wm 157 = true) (hb158 : sx_bit Wm 158 = true) (hb159 : sx_bit Wm 159 = true) (hb160 : sx_bit Wm 160 = true) (hb161 : sx_bit Wm 161 = true) (hb162 : sx_bit Wm 162 = true) (hb163 : sx_bit Wm 163 = true) (hbd : 2 ≤ bud.1 ∧ 46 ≤ bud.2.1) : zC D Wm ST b0 l Sg zM28 bud [(2, 151), (2, 3)] μ (fun st' μ' => st' = [] ∧ zTJ φ μ' ∧ fa_cp 151 3 12 μ μ') := by
  have hk : fa_cf 151 3 0 μ μ := fa_cf_0
  have f1 := zT_get hT zs3_0 (i := 0) (by omega) (by omega)
  refine pm_blk hK zmm28 [] 4 8 [(2, 151), (2, 3)] [] (pm_up μ 151 0 (μ 3 0)) [sx_bit Wm 151 = true] rfl ⟨hb151, trivial⟩ ?_
  obtain ⟨μ1, eμ1⟩ : ∃ μ', μ' = pm_up μ 151 0 (μ 3 0) := ⟨_, rfl⟩
  rw [← eμ1]
  have hTμ1 : zTJ φ μ1 := by rw [eμ1]; exact zT_up hT zs151_0 rfl (i := 0) (by omega) (by omega) (by omega) (by omega)
  have hk : fa_cf 151 3 1 μ μ1 := fa_cf_s (j := 0) hk eμ1 rfl (by decide)
  have g2 : μ1 3 1 = μ 3 1 := by rw [eμ1, pm_up_off (by decide)]
  have f3 := zT_get hTμ1 zs3_1 (i := 1) (by omega) (by omega)
  refine pm_blk hK zmm28 [] 4 16 [(2, 151), (2, 3)] [] (pm_up μ1 151 1 (μ1 3 1)) [sx_bit Wm 151 = true] rfl ⟨hb151, trivial⟩ ?_
  obtain ⟨μ2, eμ2⟩ : ∃ μ', μ' = pm_up μ1 151 1 (μ1 3 1) := ⟨_, rfl⟩
  rw [← eμ2]
  have hTμ2 : zTJ φ μ2 := by rw [eμ2]; exact zT_up hTμ1 zs151_1 rfl (i := 1) (by omega) (by omega) (by omega) (by omega)
  have hk : fa_cf 151 3 2 μ μ2 := fa_cf_s (j := 1) hk eμ2 rfl (by decide)
  have g4 : μ2 3 2 = μ 3 2 := by rw [eμ2, pm_up_off (by decide), eμ1, pm_up_off (by decide)]
  have f5 := zT_get hTμ2 zs3_2 (i := 2) (by omega) (by omega)
  refine pm_blk hK zmm28 [] 4 24 [(2, 151), (2, 3)] [] (pm_up μ2 151 2 (μ2 3 2)) [sx_bit Wm 151 = true] rfl ⟨hb151, trivial⟩ ?_
  obtain ⟨μ3, eμ3⟩ : ∃ μ', μ' = pm_up μ2 151 2 (μ2 3 2) := ⟨_, rfl⟩
  rw [← eμ3]
  have hTμ3 : zTJ φ μ3 := by rw [eμ3]; exact zT_up hTμ2 zs151_2 rfl (i := 2) (by omega) (by omega) (by omega) (by omega)
  have hk : fa_cf 151 3 3 μ μ3 := fa_cf_s (j := 2) hk eμ3 rfl (by decide)
  have g6 : μ3 3 3 = μ 3 3 := by rw [eμ3, pm_up_off (by decide), eμ2, pm_up_off (by decide), eμ1, pm_up_off (by decide)]
  have f7 := zT_get hTμ3 zs3_3 (i := 3) (by omega) (by omega)
  refine pm_blk hK zmm28 [] 4 32 [(2, 151), (2, 3)] [] (pm_up μ3 151 3 (μ3 3 3)) [sx_bit Wm 151 = true] rfl ⟨hb151, trivial⟩ ?_
  obtain ⟨μ4, eμ4⟩ : ∃ μ', μ' = pm_up μ3 151 3 (μ3 3 3) := ⟨_, rfl⟩
  rw [← eμ4]
  have hTμ4 : zTJ φ μ4 := by rw [eμ4]; exact zT_up hTμ3 zs151_3 rfl (i := 3) (by omega) (by omega) (by omega) (by omega)
  have hk : fa_cf 151 3 4 μ μ4 := fa_cf_s (j := 3) hk eμ4 rfl (by decide)
  have g8 : μ4 3 4 = μ 3 4 := by rw [eμ4, pm_up_off (by decide), eμ3, pm_up_off (by decide), eμ2, pm_up_off (by decide), eμ1, pm_up_off (by decide)]
  have f9 := zT_get hTμ4 zs3_4 (i := 4) (by omega) (by omega)
  refine pm_blk hK zmm28 [] 4 40 [(2, 151), (2, 3)] [] (pm_up μ4 151 4 (μ4 3 4)) [sx_bit Wm 151 = true] rfl ⟨hb151, trivial⟩ ?_
  obtain ⟨μ5, eμ5⟩ : ∃ μ', μ' = pm_up μ4 151 4 (μ4 3 4) := ⟨_, rfl⟩
  rw [← eμ5]
  have hTμ5 : zTJ φ μ5 := by rw [eμ5]; exact zT_up hTμ4 zs151_4 rfl (i := 4) (by omega) (by omega) (by omega) (by omega)
  have hk : fa_cf 151 3 5 μ μ5 := fa_cf_s (j := 4) hk eμ5 rfl (by decide)
  have hc := fa_cp_0 hk
  refine pm_blk hK zmm28 [] 4 48 [(2, 151), (2, 3)] [(2, 152), (2, 4)] μ5 [] rfl trivial ?_
  refine pm_call hK zmm28 (91, 1, 29, 2) zM29 (1, 25) [(2, 4), (2, 152)] [] rfl rfl rfl rfl ⟨by omega, by rw [zn29]; omega⟩ (fc_ci152_4 hK hb152 hTμ5 ⟨Nat.le_refl _, Nat.le_refl _⟩) (fun st1 μc1 hp1 => ?_)
  obtain ⟨rfl, hTc1, ec1⟩ := hp1
  have hc : fa_cp 151 3 1 μ μc1 := fa_cp_s (j := 0) hc ec1 rfl rfl (by decide) (by decide) (by decide)
  refine pm_blk hK zmm28 [] 4 59 [(2, 151), (2, 3)] [(2, 153), (2, 5)] μc1 [] rfl trivial ?_
  refine pm_call hK zmm28 (91, 1, 29, 2) zM29 (1, 25) [(2, 5), (2, 153)] [] rfl rfl rfl rfl ⟨by omega, by rw [zn29]; omega⟩ (fc_ci153_5 hK hb153 hTc1 ⟨Nat.le_refl _, Nat.le_refl _⟩) (fun st2 μc2 hp2 => ?_)
  obtain ⟨rfl, hTc2, ec2⟩ := hp2
  have hc : fa_cp 151 3 2 μ μc2 := fa_cp_s (j := 1) hc ec2 rfl rfl (by decide) (by decide) (by decide)
  refine pm_blk hK zmm28 [] 4 70 [(2, 151), (2, 3)] [(2, 154), (2, 6)] μc2 [] rfl trivial ?_
  refine pm_call hK zmm28 (91, 1, 29, 2) zM29 (1, 25) [(2, 6), (2, 154)] [] rfl rfl rfl rfl ⟨by omega, by rw [zn29]; omega⟩ (fc_ci154_6 hK hb154 hTc2 ⟨Nat.le_refl _, Nat.le_refl _⟩) (fun st3 μc3 hp3 => ?_)
  obtain ⟨rfl, hTc3, ec3⟩ := hp3
  have hc : fa_cp 151 3 3 μ μc3 := fa_cp_s (j := 2) hc ec3 rfl rfl (by decide) (by decide) (by decide)
  refine pm_blk hK zmm28 [] 4 81 [(2, 151), (2, 3)] [(2, 155), (2, 7)] μc3 [] rfl trivial ?_
  refine pm_call hK zmm28 (91, 1, 29, 2) zM29 (1, 25) [(2, 7), (2, 155)] [] rfl rfl rfl rfl ⟨by omega, by rw [zn29]; omega⟩ (fc_ci155_7 hK hb155 hTc3 ⟨Nat.le_refl _, Nat.le_refl _⟩) (fun st4 μc4 hp4 => ?_)
  obtain ⟨rfl, hTc4, ec4⟩ := hp4
  have hc : fa_cp 151 3 4 μ μc4 := fa_cp_s (j := 3) hc ec4 rfl rfl (by decide) (by decide) (by decide)
  refine pm_blk hK zmm28 [] 4 92 [(2, 151), (2, 3)] [(2, 156), (2, 8)] μc4 [] rfl trivial ?_
  refine pm_call hK zmm28 (91, 1, 29, 2) zM29 (1, 25) [(2, 8), (2, 156)] [] rfl rfl rfl rfl ⟨by omega, by rw [zn29]; omega⟩ (fc_ci156_8 hK hb156 hTc4 ⟨Nat.le_refl _, Nat.le_refl _⟩) (fun st5 μc5 hp5 => ?_)
  obtain ⟨rfl, hTc5, ec5⟩ := hp5
  have hc : fa_cp 151 3 5 μ μc5 := fa_cp_s (j := 4) hc ec5 rfl rfl (by decide) (by decide) (by decide)
  refine pm_blk hK zmm28 [] 4 103 [(2, 151), (2, 3)] [(2, 157), (2, 9)] μc5 [] rfl trivial ?_
  refine pm_call hK zmm28 (91, 1, 29, 2) zM29 (1, 25) [(2, 9), (2, 157)] [] rfl rfl rfl rfl ⟨by omega, by rw [zn29]; omega⟩ (fc_ci157_9 hK hb157 hTc5 ⟨Nat.le_refl _, Nat.le_refl _⟩) (fun st6 μc6 hp6 => ?_)
  obtain ⟨rfl, hTc6, ec6⟩ := hp6
  have hc : fa_cp 151 3 6 μ μc6 := fa_cp_s (j := 5) hc ec6 rfl rfl (by decide) (by decide) (by decide)
  refine pm_blk hK zmm28 [] 4 114 [(2, 151), (2, 3)] [(2, 158), (2, 10)] μc6 [] rfl trivial ?_
  refine pm_call hK zmm28 (91, 1, 29, 2) zM29 (1, 25) [(2, 10), (2, 158)] [] rfl rfl rfl rfl ⟨by omega, by rw [zn29]; omega⟩ (fc_ci158_10 hK hb158 hTc6 ⟨Nat.le_refl _, Nat.le_refl _⟩) (fun st7 μc7 hp7 => ?_)
  obtain ⟨rfl, hTc7, ec7⟩ := hp7
  have hc : fa_cp 151 3 7 μ μc7 := fa_cp_s (j := 6) hc ec7 rfl rfl (by decide) (by decide) (by decide)
  refine pm_blk hK zmm28 [] 4 125 [(2, 151), (2, 3)] [(2, 159), (2, 11)] μc7 [] rfl trivial ?_
  refine pm_call hK zmm28 (91, 1, 29, 2) zM29 (1, 25) [(2, 11), (2, 159)] [] rfl rfl rfl rfl ⟨by omega, by rw [zn29]; omega⟩ (fc_ci159_11 hK hb159 hTc7 ⟨Nat.le_refl _, Nat.le_refl _⟩) (fun st8 μc8 hp8 => ?_)
  obtain ⟨rfl, hTc8, ec8⟩ := hp8
  have hc : fa_cp 151 3 8 μ μc8 := fa_cp_s (j := 7) hc ec8 rfl rfl (by decide) (by decide) (by decide)
  refine pm_blk hK zmm28 [] 4 136 [(2, 151), (2, 3)] [(2, 160), (2, 12)] μc8 [] rfl trivial ?_
  refine pm_call hK zmm28 (91, 1, 29, 2) zM29 (1, 25) [(2, 12), (2, 160)] [] rfl rfl rfl rfl ⟨by omega, by rw [zn29]; omega⟩ (fc_ci160_12 hK hb160 hTc8 ⟨Nat.le_refl _, Nat.le_refl _⟩) (fun st9 μc9 hp9 => ?_)
  obtain ⟨rfl, hTc9, ec9⟩ := hp9
  have hc : fa_cp 151 3 9 μ μc9 := fa_cp_s (j := 8) hc ec9 rfl rfl (by decide) (by decide) (by decide)
  refine pm_blk hK zmm28 [] 4 147 [(2, 151), (2, 3)] [(2, 161), (2, 13)] μc9 [] rfl trivial ?_
  refine pm_call hK zmm28 (91, 1, 29, 2) zM29 (1, 25) [(2, 13), (2, 161)] [] rfl rfl rfl rfl ⟨by omega, by rw [zn29]; omega⟩ (fc_ci161_13 hK hb161 hTc9 ⟨Nat.le_refl _, Nat.le_refl _⟩) (fun st10 μc10 hp10 => ?_)
  obtain ⟨rfl, hTc10, ec10⟩ := hp10
  have hc : fa_cp 151 3 10 μ μc10 := fa_cp_s (j := 9) hc ec10 rfl rfl (by decide) (by decide) (by decide)
  refine pm_blk hK zmm28 [] 4 158 [(2, 151), (2, 3)] [(2, 162), (2, 14)] μc10 [] rfl trivial ?_
  refine pm_call hK zmm28 (91, 1, 29, 2) zM29 (1, 25) [(2, 14), (2, 162)] [] rfl rfl rfl rfl ⟨by omega, by rw [zn29]; omega⟩ (fc_ci162_14 hK hb162 hTc10 ⟨Nat.le_refl _, Nat.le_refl _⟩) (fun st11 μc11 hp11 => ?_)
  obtain ⟨rfl, hTc11, ec11⟩ := hp11
  have hc : fa_cp 151 3 11 μ μc11 := fa_cp_s (j := 10) hc ec11 rfl rfl (by decide) (by decide) (by decide)
  refine pm_blk hK zmm28 [] 4 169 [(2, 151), (2, 3)] [(2, 163), (2, 15)] μc11 [] rfl trivial ?_
  refine pm_call hK zmm28 (91, 1, 29, 2) zM29 (1, 25) [(2, 15), (2, 163)] [] rfl rfl rfl rfl ⟨by omega, by rw [zn29]; omega⟩ (fc_ci163_15 hK hb163 hTc11 ⟨Nat.le_refl _, Nat.le_refl _⟩) (fun st12 μc12 hp12 => ?_)
  obtain ⟨rfl, hTc12, ec12⟩ := hp12
  have hc : fa_cp 151 3 12 μ μc12 := fa_cp_s (j := 11) hc ec12 rfl rfl (by decide) (by decide) (by decide)
  exact pm_vret rfl rfl ⟨rfl, hTc12, hc⟩
set_option maxRecDepth 100000 in
theorem fc_ci165_4 (hK : zKK ST) (hb165 : sx_bit Wm 165 = true) (hT : zTJ φ μ) (hbd : 1 ≤ bud.1 ∧ 25 ≤ bud.2.1) : zC D Wm ST b0 l Sg zM29 bud [(2, 4), (2, 165)] μ (fun st' μ' => st' = [] ∧ zTJ φ μ' ∧ μ' = pm_cpy μ 165 4 12) := by
  refine pm_blk hK zmm29 [] 8 8 [(2, 4), (2, 165)] [(0, 12), (0, 12), (0, 0), (2, 165), (0, 0), (2, 4)] μ [] rfl trivial ?_
  refine pm_call hK zmm29 (427, 1, 30, 2) zM30 (0, 0) [(0, 12), (0, 12)] [(0, 0), (2, 165), (0, 0), (2, 4)] rfl rfl rfl rfl ⟨by omega, by rw [zn30]; omega⟩ (zh_min hK ⟨Nat.le_refl _, Nat.le_refl _⟩) (fun st1 μc1 hp1 => ?_)
  obtain ⟨rfl, rfl⟩ := hp1
  refine zp_acw hK zmm29 (idx := 432) (r := 165) (r' := 4) (n := 12) (g := zG165) (g' := zG4) (t := (0, -1, 999)) (t' := (0, -1, 999)) (List.mem_of_getElem? (i := 0) rfl) rfl rfl rfl ⟨rfl, rfl, rfl, rfl⟩ ⟨rfl, rfl, rfl⟩ hb165 ⟨by omega, by have h9 : pm_cs [] = 0 := rfl; omega⟩ (by decide) ?_
  exact pm_vret rfl rfl ⟨rfl, zTJ_cpy hT (t := (0, -1, 999)) (g := zG165) (g' := zG4) rfl rfl (by decide) ⟨by decide, rfl⟩ ⟨by decide, rfl, rfl⟩ rfl rfl, rfl⟩
set_option maxRecDepth 100000 in
theorem fc_ci166_5 (hK : zKK ST) (hb166 : sx_bit Wm 166 = true) (hT : zTJ φ μ) (hbd : 1 ≤ bud.1 ∧ 25 ≤ bud.2.1) : zC D Wm ST b0 l Sg zM29 bud [(2, 5), (2, 166)] μ (fun st' μ' => st' = [] ∧ zTJ φ μ' ∧ μ' = pm_cpy μ 166 5 12) := by
  refine pm_blk hK zmm29 [] 8 8 [(2, 5), (2, 166)] [(0, 12), (0, 12), (0, 0), (2, 166), (0, 0), (2, 5)] μ [] rfl trivial ?_
  refine pm_call hK zmm29 (427, 1, 30, 2) zM30 (0, 0) [(0, 12), (0, 12)] [(0, 0), (2, 166), (0, 0), (2, 5)] rfl rfl rfl rfl ⟨by omega, by rw [zn30]; omega⟩ (zh_min hK ⟨Nat.le_refl _, Nat.le_refl _⟩) (fun st1 μc1 hp1 => ?_)
  obtain ⟨rfl, rfl⟩ := hp1
  refine zp_acw hK zmm29 (idx := 432) (r := 166) (r' := 5) (n := 12) (g := zG166) (g' := zG5) (t := (0, -1, 999)) (t' := (0, -1, 999)) (List.mem_of_getElem? (i := 0) rfl) rfl rfl rfl ⟨rfl, rfl, rfl, rfl⟩ ⟨rfl, rfl, rfl⟩ hb166 ⟨by omega, by have h9 : pm_cs [] = 0 := rfl; omega⟩ (by decide) ?_
  exact pm_vret rfl rfl ⟨rfl, zTJ_cpy hT (t := (0, -1, 999)) (g := zG166) (g' := zG5) rfl rfl (by decide) ⟨by decide, rfl⟩ ⟨by decide, rfl, rfl⟩ rfl rfl, rfl⟩
set_option maxRecDepth 100000 in
theorem fc_ci167_6 (hK : zKK ST) (hb167 : sx_bit Wm 167 = true) (hT : zTJ φ μ) (hbd : 1 ≤ bud.1 ∧ 25 ≤ bud.2.1) : zC D Wm ST b0 l Sg zM29 bud [(2, 6), (2, 167)] μ (fun st' μ' => st' = [] ∧ zTJ φ μ' ∧ μ' = pm_cpy μ 167 6 12) := by
  refine pm_blk hK zmm29 [] 8 8 [(2, 6), (2, 167)] [(0, 12), (0, 12), (0, 0), (2, 167), (0, 0), (2, 6)] μ [] rfl trivial ?_
  refine pm_call hK zmm29 (427, 1, 30, 2) zM30 (0, 0) [(0, 12), (0, 12)] [(0, 0), (2, 167), (0, 0), (2, 6)] rfl rfl rfl rfl ⟨by omega, by rw [zn30]; omega⟩ (zh_min hK ⟨Nat.le_refl _, Nat.le_refl _⟩) (fun st1 μc1 hp1 => ?_)
  obtain ⟨rfl, rfl⟩ := hp1
  refine zp_acw hK zmm29 (idx := 432) (r := 167) (r' := 6) (n := 12) (g := zG167) (g' := zG6) (t := (0, -2147483648, 2147483647)) (t' := (0, -2147483648, 2147483647)) (List.mem_of_getElem? (i := 0) rfl) rfl rfl rfl ⟨rfl, rfl, rfl, rfl⟩ ⟨rfl, rfl, rfl⟩ hb167 ⟨by omega, by have h9 : pm_cs [] = 0 := rfl; omega⟩ (by decide) ?_
  exact pm_vret rfl rfl ⟨rfl, zTJ_cpy hT (t := (0, -2147483648, 2147483647)) (g := zG167) (g' := zG6) rfl rfl (by decide) ⟨by decide, rfl⟩ ⟨by decide, rfl, rfl⟩ rfl rfl, rfl⟩
set_option maxRecDepth 100000 in
theorem fc_ci168_7 (hK : zKK ST) (hb168 : sx_bit Wm 168 = true) (hT : zTJ φ μ) (hbd : 1 ≤ bud.1 ∧ 25 ≤ bud.2.1) : zC D Wm ST b0 l Sg zM29 bud [(2, 7), (2, 168)] μ (fun st' μ' => st' = [] ∧ zTJ φ μ' ∧ μ' = pm_cpy μ 168 7 12) := by
  refine pm_blk hK zmm29 [] 8 8 [(2, 7), (2, 168)] [(0, 12), (0, 12), (0, 0), (2, 168), (0, 0), (2, 7)] μ [] rfl trivial ?_
  refine pm_call hK zmm29 (427, 1, 30, 2) zM30 (0, 0) [(0, 12), (0, 12)] [(0, 0), (2, 168), (0, 0), (2, 7)] rfl rfl rfl rfl ⟨by omega, by rw [zn30]; omega⟩ (zh_min hK ⟨Nat.le_refl _, Nat.le_refl _⟩) (fun st1 μc1 hp1 => ?_)
  obtain ⟨rfl, rfl⟩ := hp1
  refine zp_acw hK zmm29 (idx := 432) (r := 168) (r' := 7) (n := 12) (g := zG168) (g' := zG7) (t := (0, 0, 1)) (t' := (0, 0, 1)) (List.mem_of_getElem? (i := 0) rfl) rfl rfl rfl ⟨rfl, rfl, rfl, rfl⟩ ⟨rfl, rfl, rfl⟩ hb168 ⟨by omega, by have h9 : pm_cs [] = 0 := rfl; omega⟩ (by decide) ?_
  exact pm_vret rfl rfl ⟨rfl, zTJ_cpy hT (t := (0, 0, 1)) (g := zG168) (g' := zG7) rfl rfl (by decide) ⟨by decide, rfl⟩ ⟨by decide, rfl, rfl⟩ rfl rfl, rfl⟩
set_option maxRecDepth 100000 in
theorem fc_ci169_8 (hK : zKK ST) (hb169 : sx_bit Wm 169 = true) (hT : zTJ φ μ) (hbd : 1 ≤ bud.1 ∧ 25 ≤ bud.2.1) : zC D Wm ST b0 l Sg zM29 bud [(2, 8), (2, 169)] μ (fun st' μ' => st' = [] ∧ zTJ φ μ' ∧ μ' = pm_cpy μ 169 8 12) := by
  refine pm_blk hK zmm29 [] 8 8 [(2, 8), (2, 169)] [(0, 12), (0, 12), (0, 0), (2, 169), (0, 0), (2, 8)] μ [] rfl trivial ?_
  refine pm_call hK zmm29 (427, 1, 30, 2) zM30 (0, 0) [(0, 12), (0, 12)] [(0, 0), (2, 169), (0, 0), (2, 8)] rfl rfl rfl rfl ⟨by omega, by rw [zn30]; omega⟩ (zh_min hK ⟨Nat.le_refl _, Nat.le_refl _⟩) (fun st1 μc1 hp1 => ?_)
  obtain ⟨rfl, rfl⟩ := hp1
  refine zp_acw hK zmm29 (idx := 432) (r := 169) (r' := 8) (n := 12) (g := zG169) (g' := zG8) (t := (0, -1, 17)) (t' := (0, -1, 17)) (List.mem_of_getElem? (i := 0) rfl) rfl rfl rfl ⟨rfl, rfl, rfl, rfl⟩ ⟨rfl, rfl, rfl⟩ hb169 ⟨by omega, by have h9 : pm_cs [] = 0 := rfl; omega⟩ (by decide) ?_
  exact pm_vret rfl rfl ⟨rfl, zTJ_cpy hT (t := (0, -1, 17)) (g := zG169) (g' := zG8) rfl rfl (by decide) ⟨by decide, rfl⟩ ⟨by decide, rfl, rfl⟩ rfl rfl, rfl⟩
set_option maxRecDepth 100000 in
theorem fc_ci170_9 (hK : zKK ST) (hb170 : sx_bit Wm 170 = true) (hT : zTJ φ μ) (hbd : 1 ≤ bud.1 ∧ 25 ≤ bud.2.1) : zC D Wm ST b0 l Sg zM29 bud [(2, 9), (2, 170)] μ (fun st' μ' => st' = [] ∧ zTJ φ μ' ∧ μ' = pm_cpy μ 170 9 12) := by
  refine pm_blk hK zmm29 [] 8 8 [(2, 9), (2, 170)] [(0, 12), (0, 12), (0, 0), (2, 170), (0, 0), (2, 9)] μ [] rfl trivial ?_
  refine pm_call hK zmm29 (427, 1, 30, 2) zM30 (0, 0) [(0, 12), (0, 12)] [(0, 0), (2, 170), (0, 0), (2, 9)] rfl rfl rfl rfl ⟨by omega, by rw [zn30]; omega⟩ (zh_min hK ⟨Nat.le_refl _, Nat.le_refl _⟩) (fun st1 μc1 hp1 => ?_)
  obtain ⟨rfl, rfl⟩ := hp1
  refine zp_acw hK zmm29 (idx := 432) (r := 170) (r' := 9) (n := 12) (g := zG170) (g' := zG9) (t := (0, -1, 17)) (t' := (0, -1, 17)) (List.mem_of_getElem? (i := 0) rfl) rfl rfl rfl ⟨rfl, rfl, rfl, rfl⟩ ⟨rfl, rfl, rfl⟩ hb170 ⟨by omega, by have h9 : pm_cs [] = 0 := rfl; omega⟩ (by decide) ?_
  exact pm_vret rfl rfl ⟨rfl, zTJ_cpy hT (t := (0, -1, 17)) (g := zG170) (g' := zG9) rfl rfl (by decide) ⟨by decide, rfl⟩ ⟨by decide, rfl, rfl⟩ rfl rfl, rfl⟩
set_option maxRecDepth 100000 in
theorem fc_ci171_10 (hK : zKK ST) (hb171 : sx_bit Wm 171 = true) (hT : zTJ φ μ) (hbd : 1 ≤ bud.1 ∧ 25 ≤ bud.2.1) : zC D Wm ST b0 l Sg zM29 bud [(2, 10), (2, 171)] μ (fun st' μ' => st' = [] ∧ zTJ φ μ' ∧ μ' = pm_cpy μ 171 10 12) := by
  refine pm_blk hK zmm29 [] 8 8 [(2, 10), (2, 171)] [(0, 12), (0, 12), (0, 0), (2, 171), (0, 0), (2, 10)] μ [] rfl trivial ?_
  refine pm_call hK zmm29 (427, 1, 30, 2) zM30 (0, 0) [(0, 12), (0, 12)] [(0, 0), (2, 171), (0, 0), (2, 10)] rfl rfl rfl rfl ⟨by omega, by rw [zn30]; omega⟩ (zh_min hK ⟨Nat.le_refl _, Nat.le_refl _⟩) (fun st1 μc1 hp1 => ?_)
  obtain ⟨rfl, rfl⟩ := hp1
  refine zp_acw hK zmm29 (idx := 432) (r := 171) (r' := 10) (n := 12) (g := zG171) (g' := zG10) (t := (0, -2147483648, 2147483647)) (t' := (0, -2147483648, 2147483647)) (List.mem_of_getElem? (i := 0) rfl) rfl rfl rfl ⟨rfl, rfl, rfl, rfl⟩ ⟨rfl, rfl, rfl⟩ hb171 ⟨by omega, by have h9 : pm_cs [] = 0 := rfl; omega⟩ (by decide) ?_
  exact pm_vret rfl rfl ⟨rfl, zTJ_cpy hT (t := (0, -2147483648, 2147483647)) (g := zG171) (g' := zG10) rfl rfl (by decide) ⟨by decide, rfl⟩ ⟨by decide, rfl, rfl⟩ rfl rfl, rfl⟩
set_option maxRecDepth 100000 in
theorem fc_ci172_11 (hK : zKK ST) (hb172 : sx_bit Wm 172 = true) (hT : zTJ φ μ) (hbd : 1 ≤ bud.1 ∧ 25 ≤ bud.2.1) : zC D Wm ST b0 l Sg zM29 bud [(2, 11), (2, 172)] μ (fun st' μ' => st' = [] ∧ zTJ φ μ' ∧ μ' = pm_cpy μ 172 11 18) := by
  refine pm_blk hK zmm29 [] 8 8 [(2, 11), (2, 172)] [(0, 18), (0, 18), (0, 0), (2, 172), (0, 0), (2, 11)] μ [] rfl trivial ?_
  refine pm_call hK zmm29 (427, 1, 30, 2) zM30 (0, 0) [(0, 18), (0, 18)] [(0, 0), (2, 172), (0, 0), (2, 11)] rfl rfl rfl rfl ⟨by omega, by rw [zn30]; omega⟩ (zh_min hK ⟨Nat.le_refl _, Nat.le_refl _⟩) (fun st1 μc1 hp1 => ?_)
  obtain ⟨rfl, rfl⟩ := hp1
  refine zp_acw hK zmm29 (idx := 432) (r := 172) (r' := 11) (n := 18) (g := zG172) (g' := zG11) (t := (0, -2147483648, 9999)) (t' := (0, -2147483648, 9999)) (List.mem_of_getElem? (i := 0) rfl) rfl rfl rfl ⟨rfl, rfl, rfl, rfl⟩ ⟨rfl, rfl, rfl⟩ hb172 ⟨by omega, by have h9 : pm_cs [] = 0 := rfl; omega⟩ (by decide) ?_
  exact pm_vret rfl rfl ⟨rfl, zTJ_cpy hT (t := (0, -2147483648, 9999)) (g := zG172) (g' := zG11) rfl rfl (by decide) ⟨by decide, rfl⟩ ⟨by decide, rfl, rfl⟩ rfl rfl, rfl⟩
set_option maxRecDepth 100000 in
theorem fc_ci173_12 (hK : zKK ST) (hb173 : sx_bit Wm 173 = true) (hT : zTJ φ μ) (hbd : 1 ≤ bud.1 ∧ 25 ≤ bud.2.1) : zC D Wm ST b0 l Sg zM29 bud [(2, 12), (2, 173)] μ (fun st' μ' => st' = [] ∧ zTJ φ μ' ∧ μ' = pm_cpy μ 173 12 18) := by
  refine pm_blk hK zmm29 [] 8 8 [(2, 12), (2, 173)] [(0, 18), (0, 18), (0, 0), (2, 173), (0, 0), (2, 12)] μ [] rfl trivial ?_
  refine pm_call hK zmm29 (427, 1, 30, 2) zM30 (0, 0) [(0, 18), (0, 18)] [(0, 0), (2, 173), (0, 0), (2, 12)] rfl rfl rfl rfl ⟨by omega, by rw [zn30]; omega⟩ (zh_min hK ⟨Nat.le_refl _, Nat.le_refl _⟩) (fun st1 μc1 hp1 => ?_)
  obtain ⟨rfl, rfl⟩ := hp1
  refine zp_acw hK zmm29 (idx := 432) (r := 173) (r' := 12) (n := 18) (g := zG173) (g' := zG12) (t := (0, 0, 9)) (t' := (0, 0, 9)) (List.mem_of_getElem? (i := 0) rfl) rfl rfl rfl ⟨rfl, rfl, rfl, rfl⟩ ⟨rfl, rfl, rfl⟩ hb173 ⟨by omega, by have h9 : pm_cs [] = 0 := rfl; omega⟩ (by decide) ?_
  exact pm_vret rfl rfl ⟨rfl, zTJ_cpy hT (t := (0, 0, 9)) (g := zG173) (g' := zG12) rfl rfl (by decide) ⟨by decide, rfl⟩ ⟨by decide, rfl, rfl⟩ rfl rfl, rfl⟩
set_option maxRecDepth 100000 in
theorem fc_ci174_13 (hK : zKK ST) (hb174 : sx_bit Wm 174 = true) (hT : zTJ φ μ) (hbd : 1 ≤ bud.1 ∧ 25 ≤ bud.2.1) : zC D Wm ST b0 l Sg zM29 bud [(2, 13), (2, 174)] μ (fun st' μ' => st' = [] ∧ zTJ φ μ' ∧ μ' = pm_cpy μ 174 13 18) := by
  refine pm_blk hK zmm29 [] 8 8 [(2, 13), (2, 174)] [(0, 18), (0, 18), (0, 0), (2, 174), (0, 0), (2, 13)] μ [] rfl trivial ?_
  refine pm_call hK zmm29 (427, 1, 30, 2) zM30 (0, 0) [(0, 18), (0, 18)] [(0, 0), (2, 174), (0, 0), (2, 13)] rfl rfl rfl rfl ⟨by omega, by rw [zn30]; omega⟩ (zh_min hK ⟨Nat.le_refl _, Nat.le_refl _⟩) (fun st1 μc1 hp1 => ?_)
  obtain ⟨rfl, rfl⟩ := hp1
  refine zp_acw hK zmm29 (idx := 432) (r := 174) (r' := 13) (n := 18) (g := zG174) (g' := zG13) (t := (0, -1, 11)) (t' := (0, -1, 11)) (List.mem_of_getElem? (i := 0) rfl) rfl rfl rfl ⟨rfl, rfl, rfl, rfl⟩ ⟨rfl, rfl, rfl⟩ hb174 ⟨by omega, by have h9 : pm_cs [] = 0 := rfl; omega⟩ (by decide) ?_
  exact pm_vret rfl rfl ⟨rfl, zTJ_cpy hT (t := (0, -1, 11)) (g := zG174) (g' := zG13) rfl rfl (by decide) ⟨by decide, rfl⟩ ⟨by decide, rfl, rfl⟩ rfl rfl, rfl⟩
set_option maxRecDepth 100000 in
theorem fc_ci175_14 (hK : zKK ST) (hb175 : sx_bit Wm 175 = true) (hT : zTJ φ μ) (hbd : 1 ≤ bud.1 ∧ 25 ≤ bud.2.1) : zC D Wm ST b0 l Sg zM29 bud [(2, 14), (2, 175)] μ (fun st' μ' => st' = [] ∧ zTJ φ μ' ∧ μ' = pm_cpy μ 175 14 18) := by
  refine pm_blk hK zmm29 [] 8 8 [(2, 14), (2, 175)] [(0, 18), (0, 18), (0, 0), (2, 175), (0, 0), (2, 14)] μ [] rfl trivial ?_
  refine pm_call hK zmm29 (427, 1, 30, 2) zM30 (0, 0) [(0, 18), (0, 18)] [(0, 0), (2, 175), (0, 0), (2, 14)] rfl rfl rfl rfl ⟨by omega, by rw [zn30]; omega⟩ (zh_min hK ⟨Nat.le_refl _, Nat.le_refl _⟩) (fun st1 μc1 hp1 => ?_)
  obtain ⟨rfl, rfl⟩ := hp1
  refine zp_acw hK zmm29 (idx := 432) (r := 175) (r' := 14) (n := 18) (g := zG175) (g' := zG14) (t := (0, -2147483648, 2147483647)) (t' := (0, -2147483648, 2147483647)) (List.mem_of_getElem? (i := 0) rfl) rfl rfl rfl ⟨rfl, rfl, rfl, rfl⟩ ⟨rfl, rfl, rfl⟩ hb175 ⟨by omega, by have h9 : pm_cs [] = 0 := rfl; omega⟩ (by decide) ?_
  exact pm_vret rfl rfl ⟨rfl, zTJ_cpy hT (t := (0, -2147483648, 2147483647)) (g := zG175) (g' := zG14) rfl rfl (by decide) ⟨by decide, rfl⟩ ⟨by decide, rfl, rfl⟩ rfl rfl, rfl⟩
set_option maxRecDepth 100000 in
theorem fc_ci176_15 (hK : zKK ST) (hb176 : sx_bit Wm 176 = true) (hT : zTJ φ μ) (hbd : 1 ≤ bud.1 ∧ 25 ≤ bud.2.1) : zC D Wm ST b0 l Sg zM29 bud [(2, 15), (2, 176)] μ (fun st' μ' => st' = [] ∧ zTJ φ μ' ∧ μ' = pm_cpy μ 176 15 18) := by
  refine pm_blk hK zmm29 [] 8 8 [(2, 15), (2, 176)] [(0, 18), (0, 18), (0, 0), (2, 176), (0, 0), (2, 15)] μ [] rfl trivial ?_
  refine pm_call hK zmm29 (427, 1, 30, 2) zM30 (0, 0) [(0, 18), (0, 18)] [(0, 0), (2, 176), (0, 0), (2, 15)] rfl rfl rfl rfl ⟨by omega, by rw [zn30]; omega⟩ (zh_min hK ⟨Nat.le_refl _, Nat.le_refl _⟩) (fun st1 μc1 hp1 => ?_)
  obtain ⟨rfl, rfl⟩ := hp1
  refine zp_acw hK zmm29 (idx := 432) (r := 176) (r' := 15) (n := 18) (g := zG176) (g' := zG15) (t := (0, -2147483648, 2147483647)) (t' := (0, -2147483648, 2147483647)) (List.mem_of_getElem? (i := 0) rfl) rfl rfl rfl ⟨rfl, rfl, rfl, rfl⟩ ⟨rfl, rfl, rfl⟩ hb176 ⟨by omega, by have h9 : pm_cs [] = 0 := rfl; omega⟩ (by decide) ?_
  exact pm_vret rfl rfl ⟨rfl, zTJ_cpy hT (t := (0, -2147483648, 2147483647)) (g := zG176) (g' := zG15) rfl rfl (by decide) ⟨by decide, rfl⟩ ⟨by decide, rfl, rfl⟩ rfl rfl, rfl⟩
set_option maxRecDepth 100000 in
theorem fc_ac164_3 (hK : zKK ST) (hT : zTJ φ μ) (hb164 : sx_bit Wm 164 = true) (hb165 : sx_bit Wm 165 = true) (hb166 : sx_bit Wm 166 = true) (hb167 : sx_bit Wm 167 = true) (hb168 : sx_bit Wm 168 = true) (hb169 : sx_bit Wm 169 = true) (hb170 : sx_bit Wm 170 = true) (hb171 : sx_bit Wm 171 = true) (hb172 : sx_bit Wm 172 = true) (hb173 : sx_bit Wm 173 = true) (hb174 : sx_bit Wm 174 = true) (hb175 : sx_bit Wm 175 = true) (hb176 : sx_bit Wm 176 = true) (hbd : 2 ≤ bud.1 ∧ 46 ≤ bud.2.1) : zC D Wm ST b0 l Sg zM28 bud [(2, 164), (2, 3)] μ (fun st' μ' => st' = [] ∧ zTJ φ μ' ∧ fa_cp 164 3 12 μ μ') := by
  have hk : fa_cf 164 3 0 μ μ := fa_cf_0
  have f1 := zT_get hT zs3_0 (i := 0) (by omega) (by omega)
  refine pm_blk hK zmm28 [] 4 8 [(2, 164), (2, 3)] [] (pm_up μ 164 0 (μ 3 0)) [sx_bit Wm 164 = true] rfl ⟨hb164, trivial⟩ ?_
  obtain ⟨μ1, eμ1⟩ : ∃ μ', μ' = pm_up μ 164 0 (μ 3 0) := ⟨_, rfl⟩
  rw [← eμ1]
  have hTμ1 : zTJ φ μ1 := by rw [eμ1]; exact zT_up hT zs164_0 rfl (i := 0) (by omega) (by omega) (by omega) (by omega)
  have hk : fa_cf 164 3 1 μ μ1 := fa_cf_s (j := 0) hk eμ1 rfl (by decide)
  have g2 : μ1 3 1 = μ 3 1 := by rw [eμ1, pm_up_off (by decide)]
  have f3 := zT_get hTμ1 zs3_1 (i := 1) (by omega) (by omega)
  refine pm_blk hK zmm28 [] 4 16 [(2, 164), (2, 3)] [] (pm_up μ1 164 1 (μ1 3 1)) [sx_bit Wm 164 = true] rfl ⟨hb164, trivial⟩ ?_
  obtain ⟨μ2, eμ2⟩ : ∃ μ', μ' = pm_up μ1 164 1 (μ1 3 1) := ⟨_, rfl⟩
  rw [← eμ2]
  have hTμ2 : zTJ φ μ2 := by rw [eμ2]; exact zT_up hTμ1 zs164_1 rfl (i := 1) (by omega) (by omega) (by omega) (by omega)
  have hk : fa_cf 164 3 2 μ μ2 := fa_cf_s (j := 1) hk eμ2 rfl (by decide)
  have g4 : μ2 3 2 = μ 3 2 := by rw [eμ2, pm_up_off (by decide), eμ1, pm_up_off (by decide)]
  have f5 := zT_get hTμ2 zs3_2 (i := 2) (by omega) (by omega)
  refine pm_blk hK zmm28 [] 4 24 [(2, 164), (2, 3)] [] (pm_up μ2 164 2 (μ2 3 2)) [sx_bit Wm 164 = true] rfl ⟨hb164, trivial⟩ ?_
  obtain ⟨μ3, eμ3⟩ : ∃ μ', μ' = pm_up μ2 164 2 (μ2 3 2) := ⟨_, rfl⟩
  rw [← eμ3]
  have hTμ3 : zTJ φ μ3 := by rw [eμ3]; exact zT_up hTμ2 zs164_2 rfl (i := 2) (by omega) (by omega) (by omega) (by omega)
  have hk : fa_cf 164 3 3 μ μ3 := fa_cf_s (j := 2) hk eμ3 rfl (by decide)
  have g6 : μ3 3 3 = μ 3 3 := by rw [eμ3, pm_up_off (by decide), eμ2, pm_up_off (by decide), eμ1, pm_up_off (by decide)]
  have f7 := zT_get hTμ3 zs3_3 (i := 3) (by omega) (by omega)
  refine pm_blk hK zmm28 [] 4 32 [(2, 164), (2, 3)] [] (pm_up μ3 164 3 (μ3 3 3)) [sx_bit Wm 164 = true] rfl ⟨hb164, trivial⟩ ?_
  obtain ⟨μ4, eμ4⟩ : ∃ μ', μ' = pm_up μ3 164 3 (μ3 3 3) := ⟨_, rfl⟩
  rw [← eμ4]
  have hTμ4 : zTJ φ μ4 := by rw [eμ4]; exact zT_up hTμ3 zs164_3 rfl (i := 3) (by omega) (by omega) (by omega) (by omega)
  have hk : fa_cf 164 3 4 μ μ4 := fa_cf_s (j := 3) hk eμ4 rfl (by decide)
  have g8 : μ4 3 4 = μ 3 4 := by rw [eμ4, pm_up_off (by decide), eμ3, pm_up_off (by decide), eμ2, pm_up_off (by decide), eμ1, pm_up_off (by decide)]
  have f9 := zT_get hTμ4 zs3_4 (i := 4) (by omega) (by omega)
  refine pm_blk hK zmm28 [] 4 40 [(2, 164), (2, 3)] [] (pm_up μ4 164 4 (μ4 3 4)) [sx_bit Wm 164 = true] rfl ⟨hb164, trivial⟩ ?_
  obtain ⟨μ5, eμ5⟩ : ∃ μ', μ' = pm_up μ4 164 4 (μ4 3 4) := ⟨_, rfl⟩
  rw [← eμ5]
  have hTμ5 : zTJ φ μ5 := by rw [eμ5]; exact zT_up hTμ4 zs164_4 rfl (i := 4) (by omega) (by omega) (by omega) (by omega)
  have hk : fa_cf 164 3 5 μ μ5 := fa_cf_s (j := 4) hk eμ5 rfl (by decide)
  have hc := fa_cp_0 hk
  refine pm_blk hK zmm28 [] 4 48 [(2, 164), (2, 3)] [(2, 165), (2, 4)] μ5 [] rfl trivial ?_
  refine pm_call hK zmm28 (91, 1, 29, 2) zM29 (1, 25) [(2, 4), (2, 165)] [] rfl rfl rfl rfl ⟨by omega, by rw [zn29]; omega⟩ (fc_ci165_4 hK hb165 hTμ5 ⟨Nat.le_refl _, Nat.le_refl _⟩) (fun st1 μc1 hp1 => ?_)
  obtain ⟨rfl, hTc1, ec1⟩ := hp1
  have hc : fa_cp 164 3 1 μ μc1 := fa_cp_s (j := 0) hc ec1 rfl rfl (by decide) (by decide) (by decide)
  refine pm_blk hK zmm28 [] 4 59 [(2, 164), (2, 3)] [(2, 166), (2, 5)] μc1 [] rfl trivial ?_
  refine pm_call hK zmm28 (91, 1, 29, 2) zM29 (1, 25) [(2, 5), (2, 166)] [] rfl rfl rfl rfl ⟨by omega, by rw [zn29]; omega⟩ (fc_ci166_5 hK hb166 hTc1 ⟨Nat.le_refl _, Nat.le_refl _⟩) (fun st2 μc2 hp2 => ?_)
  obtain ⟨rfl, hTc2, ec2⟩ := hp2
  have hc : fa_cp 164 3 2 μ μc2 := fa_cp_s (j := 1) hc ec2 rfl rfl (by decide) (by decide) (by decide)
  refine pm_blk hK zmm28 [] 4 70 [(2, 164), (2, 3)] [(2, 167), (2, 6)] μc2 [] rfl trivial ?_
  refine pm_call hK zmm28 (91, 1, 29, 2) zM29 (1, 25) [(2, 6), (2, 167)] [] rfl rfl rfl rfl ⟨by omega, by rw [zn29]; omega⟩ (fc_ci167_6 hK hb167 hTc2 ⟨Nat.le_refl _, Nat.le_refl _⟩) (fun st3 μc3 hp3 => ?_)
  obtain ⟨rfl, hTc3, ec3⟩ := hp3
  have hc : fa_cp 164 3 3 μ μc3 := fa_cp_s (j := 2) hc ec3 rfl rfl (by decide) (by decide) (by decide)
  refine pm_blk hK zmm28 [] 4 81 [(2, 164), (2, 3)] [(2, 168), (2, 7)] μc3 [] rfl trivial ?_
  refine pm_call hK zmm28 (91, 1, 29, 2) zM29 (1, 25) [(2, 7), (2, 168)] [] rfl rfl rfl rfl ⟨by omega, by rw [zn29]; omega⟩ (fc_ci168_7 hK hb168 hTc3 ⟨Nat.le_refl _, Nat.le_refl _⟩) (fun st4 μc4 hp4 => ?_)
  obtain ⟨rfl, hTc4, ec4⟩ := hp4
  have hc : fa_cp 164 3 4 μ μc4 := fa_cp_s (j := 3) hc ec4 rfl rfl (by decide) (by decide) (by decide)
  refine pm_blk hK zmm28 [] 4 92 [(2, 164), (2, 3)] [(2, 169), (2, 8)] μc4 [] rfl trivial ?_
  refine pm_call hK zmm28 (91, 1, 29, 2) zM29 (1, 25) [(2, 8), (2, 169)] [] rfl rfl rfl rfl ⟨by omega, by rw [zn29]; omega⟩ (fc_ci169_8 hK hb169 hTc4 ⟨Nat.le_refl _, Nat.le_refl _⟩) (fun st5 μc5 hp5 => ?_)
  obtain ⟨rfl, hTc5, ec5⟩ := hp5
  have hc : fa_cp 164 3 5 μ μc5 := fa_cp_s (j := 4) hc ec5 rfl rfl (by decide) (by decide) (by decide)
  refine pm_blk hK zmm28 [] 4 103 [(2, 164), (2, 3)] [(2, 170), (2, 9)] μc5 [] rfl trivial ?_
  refine pm_call hK zmm28 (91, 1, 29, 2) zM29 (1, 25) [(2, 9), (2, 170)] [] rfl rfl rfl rfl ⟨by omega, by rw [zn29]; omega⟩ (fc_ci170_9 hK hb170 hTc5 ⟨Nat.le_refl _, Nat.le_refl _⟩) (fun st6 μc6 hp6 => ?_)
  obtain ⟨rfl, hTc6, ec6⟩ := hp6
  have hc : fa_cp 164 3 6 μ μc6 := fa_cp_s (j := 5) hc ec6 rfl rfl (by decide) (by decide) (by decide)
  refine pm_blk hK zmm28 [] 4 114 [(2, 164), (2, 3)] [(2, 171), (2, 10)] μc6 [] rfl trivial ?_
  refine pm_call hK zmm28 (91, 1, 29, 2) zM29 (1, 25) [(2, 10), (2, 171)] [] rfl rfl rfl rfl ⟨by omega, by rw [zn29]; omega⟩ (fc_ci171_10 hK hb171 hTc6 ⟨Nat.le_refl _, Nat.le_refl _⟩) (fun st7 μc7 hp7 => ?_)
  obtain ⟨rfl, hTc7, ec7⟩ := hp7
  have hc : fa_cp 164 3 7 μ μc7 := fa_cp_s (j := 6) hc ec7 rfl rfl (by decide) (by decide) (by decide)
  refine pm_blk hK zmm28 [] 4 125 [(2, 164), (2, 3)] [(2, 172), (2, 11)] μc7 [] rfl trivial ?_
  refine pm_call hK zmm28 (91, 1, 29, 2) zM29 (1, 25) [(2, 11), (2, 172)] [] rfl rfl rfl rfl ⟨by omega, by rw [zn29]; omega⟩ (fc_ci172_11 hK hb172 hTc7 ⟨Nat.le_refl _, Nat.le_refl _⟩) (fun st8 μc8 hp8 => ?_)
  obtain ⟨rfl, hTc8, ec8⟩ := hp8
  have hc : fa_cp 164 3 8 μ μc8 := fa_cp_s (j := 7) hc ec8 rfl rfl (by decide) (by decide) (by decide)
  refine pm_blk hK zmm28 [] 4 136 [(2, 164), (2, 3)] [(2, 173), (2, 12)] μc8 [] rfl trivial ?_
  refine pm_call hK zmm28 (91, 1, 29, 2) zM29 (1, 25) [(2, 12), (2, 173)] [] rfl rfl rfl rfl ⟨by omega, by rw [zn29]; omega⟩ (fc_ci173_12 hK hb173 hTc8 ⟨Nat.le_refl _, Nat.le_refl _⟩) (fun st9 μc9 hp9 => ?_)
  obtain ⟨rfl, hTc9, ec9⟩ := hp9
  have hc : fa_cp 164 3 9 μ μc9 := fa_cp_s (j := 8) hc ec9 rfl rfl (by decide) (by decide) (by decide)
  refine pm_blk hK zmm28 [] 4 147 [(2, 164), (2, 3)] [(2, 174), (2, 13)] μc9 [] rfl trivial ?_
  refine pm_call hK zmm28 (91, 1, 29, 2) zM29 (1, 25) [(2, 13), (2, 174)] [] rfl rfl rfl rfl ⟨by omega, by rw [zn29]; omega⟩ (fc_ci174_13 hK hb174 hTc9 ⟨Nat.le_refl _, Nat.le_refl _⟩) (fun st10 μc10 hp10 => ?_)
  obtain ⟨rfl, hTc10, ec10⟩ := hp10
  have hc : fa_cp 164 3 10 μ μc10 := fa_cp_s (j := 9) hc ec10 rfl rfl (by decide) (by decide) (by decide)
  refine pm_blk hK zmm28 [] 4 158 [(2, 164), (2, 3)] [(2, 175), (2, 14)] μc10 [] rfl trivial ?_
  refine pm_call hK zmm28 (91, 1, 29, 2) zM29 (1, 25) [(2, 14), (2, 175)] [] rfl rfl rfl rfl ⟨by omega, by rw [zn29]; omega⟩ (fc_ci175_14 hK hb175 hTc10 ⟨Nat.le_refl _, Nat.le_refl _⟩) (fun st11 μc11 hp11 => ?_)
  obtain ⟨rfl, hTc11, ec11⟩ := hp11
  have hc : fa_cp 164 3 11 μ μc11 := fa_cp_s (j := 10) hc ec11 rfl rfl (by decide) (by decide) (by decide)
  refine pm_blk hK zmm28 [] 4 169 [(2, 164), (2, 3)] [(2, 176), (2, 15)] μc11 [] rfl trivial ?_
  refine pm_call hK zmm28 (91, 1, 29, 2) zM29 (1, 25) [(2, 15), (2, 176)] [] rfl rfl rfl rfl ⟨by omega, by rw [zn29]; omega⟩ (fc_ci176_15 hK hb176 hTc11 ⟨Nat.le_refl _, Nat.le_refl _⟩) (fun st12 μc12 hp12 => ?_)
  obtain ⟨rfl, hTc12, ec12⟩ := hp12
  have hc : fa_cp 164 3 12 μ μc12 := fa_cp_s (j := 11) hc ec12 rfl rfl (by decide) (by decide) (by decide)
  exact pm_vret rfl rfl ⟨rfl, hTc12, hc⟩
set_option maxRecDepth 100000 in
theorem fc_ci183_4 (hK : zKK ST) (hb183 : sx_bit Wm 183 = true) (hT : zTJ φ μ) (hbd : 1 ≤ bud.1 ∧ 25 ≤ bud.2.1) : zC D Wm ST b0 l Sg zM29 bud [(2, 4), (2, 183)] μ (fun st' μ' => st' = [] ∧ zTJ φ μ' ∧ μ' = pm_cpy μ 183 4 12) := by
  refine pm_blk hK zmm29 [] 8 8 [(2, 4), (2, 183)] [(0, 12), (0, 12), (0, 0), (2, 183), (0, 0), (2, 4)] μ [] rfl trivial ?_
  refine pm_call hK zmm29 (427, 1, 30, 2) zM30 (0, 0) [(0, 12), (0, 12)] [(0, 0), (2, 183), (0, 0), (2, 4)] rfl rfl rfl rfl ⟨by omega, by rw [zn30]; omega⟩ (zh_min hK ⟨Nat.le_refl _, Nat.le_refl _⟩) (fun st1 μc1 hp1 => ?_)
  obtain ⟨rfl, rfl⟩ := hp1
  refine zp_acw hK zmm29 (idx := 432) (r := 183) (r' := 4) (n := 12) (g := zG183) (g' := zG4) (t := (0, -1, 999)) (t' := (0, -1, 999)) (List.mem_of_getElem? (i := 0) rfl) rfl rfl rfl ⟨rfl, rfl, rfl, rfl⟩ ⟨rfl, rfl, rfl⟩ hb183 ⟨by omega, by have h9 : pm_cs [] = 0 := rfl; omega⟩ (by decide) ?_
  exact pm_vret rfl rfl ⟨rfl, zTJ_cpy hT (t := (0, -1, 999)) (g := zG183) (g' := zG4) rfl rfl (by decide) ⟨by decide, rfl⟩ ⟨by decide, rfl, rfl⟩ rfl rfl, rfl⟩
set_option maxRecDepth 100000 in
theorem fc_ci184_5 (hK : zKK ST) (hb184 : sx_bit Wm 184 = true) (hT : zTJ φ μ) (hbd : 1 ≤ bud.1 ∧ 25 ≤ bud.2.1) : zC D Wm ST b0 l Sg zM29 bud [(2, 5), (2, 184)] μ (fun st' μ' => st' = [] ∧ zTJ φ μ' ∧ μ' = pm_cpy μ 184 5 12) := by
  refine pm_blk hK zmm29 [] 8 8 [(2, 5), (2, 184)] [(0, 12), (0, 12), (0, 0), (2, 184), (0, 0), (2, 5)] μ [] rfl trivial ?_
  refine pm_call hK zmm29 (427, 1, 30, 2) zM30 (0, 0) [(0, 12), (0, 12)] [(0, 0), (2, 184), (0, 0), (2, 5)] rfl rfl rfl rfl ⟨by omega, by rw [zn30]; omega⟩ (zh_min hK ⟨Nat.le_refl _, Nat.le_refl _⟩) (fun st1 μc1 hp1 => ?_)
  obtain ⟨rfl, rfl⟩ := hp1
  refine zp_acw hK zmm29 (idx := 432) (r := 184) (r' := 5) (n := 12) (g := zG184) (g' := zG5) (t := (0, -1, 999)) (t' := (0, -1, 999)) (List.mem_of_getElem? (i := 0) rfl) rfl rfl rfl ⟨rfl, rfl, rfl, rfl⟩ ⟨rfl, rfl, rfl⟩ hb184 ⟨by omega, by have h9 : pm_cs [] = 0 := rfl; omega⟩ (by decide) ?_
  exact pm_vret rfl rfl ⟨rfl, zTJ_cpy hT (t := (0, -1, 999)) (g := zG184) (g' := zG5) rfl rfl (by decide) ⟨by decide, rfl⟩ ⟨by decide, rfl, rfl⟩ rfl rfl, rfl⟩
set_option maxRecDepth 100000 in
theorem fc_ci185_6 (hK : zKK ST) (hb185 : sx_bit Wm 185 = true) (hT : zTJ φ μ) (hbd : 1 ≤ bud.1 ∧ 25 ≤ bud.2.1) : zC D Wm ST b0 l Sg zM29 bud [(2, 6), (2, 185)] μ (fun st' μ' => st' = [] ∧ zTJ φ μ' ∧ μ' = pm_cpy μ 185 6 12) := by
  refine pm_blk hK zmm29 [] 8 8 [(2, 6), (2, 185)] [(0, 12), (0, 12), (0, 0), (2, 185), (0, 0), (2, 6)] μ [] rfl trivial ?_
  refine pm_call hK zmm29 (427, 1, 30, 2) zM30 (0, 0) [(0, 12), (0, 12)] [(0, 0), (2, 185), (0, 0), (2, 6)] rfl rfl rfl rfl ⟨by omega, by rw [zn30]; omega⟩ (zh_min hK ⟨Nat.le_refl _, Nat.le_refl _⟩) (fun st1 μc1 hp1 => ?_)
  obtain ⟨rfl, rfl⟩ := hp1
  refine zp_acw hK zmm29 (idx := 432) (r := 185) (r' := 6) (n := 12) (g := zG185) (g' := zG6) (t := (0, -2147483648, 2147483647)) (t' := (0, -2147483648, 2147483647)) (List.mem_of_getElem? (i := 0) rfl) rfl rfl rfl ⟨rfl, rfl, rfl, rfl⟩ ⟨rfl, rfl, rfl⟩ hb185 ⟨by omega, by have h9 : pm_cs [] = 0 := rfl; omega⟩ (by decide) ?_
  exact pm_vret rfl rfl ⟨rfl, zTJ_cpy hT (t := (0, -2147483648, 2147483647)) (g := zG185) (g' := zG6) rfl rfl (by decide) ⟨by decide, rfl⟩ ⟨by decide, rfl, rfl⟩ rfl rfl, rfl⟩
set_option maxRecDepth 100000 in
theorem fc_ci186_7 (hK : zKK ST) (hb186 : sx_bit Wm 186 = true) (hT : zTJ φ μ) (hbd : 1 ≤ bud.1 ∧ 25 ≤ bud.2.1) : zC D Wm ST b0 l Sg zM29 bud [(2, 7), (2, 186)] μ (fun st' μ' => st' = [] ∧ zTJ φ μ' ∧ μ' = pm_cpy μ 186 7 12) := by
  refine pm_blk hK zmm29 [] 8 8 [(2, 7), (2, 186)] [(0, 12), (0, 12), (0, 0), (2, 186), (0, 0), (2, 7)] μ [] rfl trivial ?_
  refine pm_call hK zmm29 (427, 1, 30, 2) zM30 (0, 0) [(0, 12), (0, 12)] [(0, 0), (2, 186), (0, 0), (2, 7)] rfl rfl rfl rfl ⟨by omega, by rw [zn30]; omega⟩ (zh_min hK ⟨Nat.le_refl _, Nat.le_refl _⟩) (fun st1 μc1 hp1 => ?_)
  obtain ⟨rfl, rfl⟩ := hp1
  refine zp_acw hK zmm29 (idx := 432) (r := 186) (r' := 7) (n := 12) (g := zG186) (g' := zG7) (t := (0, 0, 1)) (t' := (0, 0, 1)) (List.mem_of_getElem? (i := 0) rfl) rfl rfl rfl ⟨rfl, rfl, rfl, rfl⟩ ⟨rfl, rfl, rfl⟩ hb186 ⟨by omega, by have h9 : pm_cs [] = 0 := rfl; omega⟩ (by decide) ?_
  exact pm_vret rfl rfl ⟨rfl, zTJ_cpy hT (t := (0, 0, 1)) (g := zG186) (g' := zG7) rfl rfl (by decide) ⟨by decide, rfl⟩ ⟨by decide, rfl, rfl⟩ rfl rfl, rfl⟩
set_option maxRecDepth 100000 in
theorem fc_ci187_8 (hK : zKK ST) (hb187 : sx_bit Wm 187 = true) (hT : zTJ φ μ) (hbd : 1 ≤ bud.1 ∧ 25 ≤ bud.2.1) : zC D Wm ST b0 l Sg zM29 bud [(2, 8), (2, 187)] μ (fun st' μ' => st' = [] ∧ zTJ φ μ' ∧ μ' = pm_cpy μ 187 8 12) := by
  refine pm_blk hK zmm29 [] 8 8 [(2, 8), (2, 187)] [(0, 12), (0, 12), (0, 0), (2, 187), (0, 0), (2, 8)] μ [] rfl trivial ?_
  refine pm_call hK zmm29 (427, 1, 30, 2) zM30 (0, 0) [(0, 12), (0, 12)] [(0, 0), (2, 187), (0, 0), (2, 8)] rfl rfl rfl rfl ⟨by omega, by rw [zn30]; omega⟩ (zh_min hK ⟨Nat.le_refl _, Nat.le_refl _⟩) (fun st1 μc1 hp1 => ?_)
  obtain ⟨rfl, rfl⟩ := hp1
  refine zp_acw hK zmm29 (idx := 432) (r := 187) (r' := 8) (n := 12) (g := zG187) (g' := zG8) (t := (0, -1, 17)) (t' := (0, -1, 17)) (List.mem_of_getElem? (i := 0) rfl) rfl rfl rfl ⟨rfl, rfl, rfl, rfl⟩ ⟨rfl, rfl, rfl⟩ hb187 ⟨by omega, by have h9 : pm_cs [] = 0 := rfl; omega⟩ (by decide) ?_
  exact pm_vret rfl rfl ⟨rfl, zTJ_cpy hT (t := (0, -1, 17)) (g := zG187) (g' := zG8) rfl rfl (by decide) ⟨by decide, rfl⟩ ⟨by decide, rfl, rfl⟩ rfl rfl, rfl⟩
set_option maxRecDepth 100000 in
theorem fc_ci188_9 (hK : zKK ST) (hb188 : sx_bit Wm 188 = true) (hT : zTJ φ μ) (hbd : 1 ≤ bud.1 ∧ 25 ≤ bud.2.1) : zC D Wm ST b0 l Sg zM29 bud [(2, 9), (2, 188)] μ (fun st' μ' => st' = [] ∧ zTJ φ μ' ∧ μ' = pm_cpy μ 188 9 12) := by
  refine pm_blk hK zmm29 [] 8 8 [(2, 9), (2, 188)] [(0, 12), (0, 12), (0, 0), (2, 188), (0, 0), (2, 9)] μ [] rfl trivial ?_
  refine pm_call hK zmm29 (427, 1, 30, 2) zM30 (0, 0) [(0, 12), (0, 12)] [(0, 0), (2, 188), (0, 0), (2, 9)] rfl rfl rfl rfl ⟨by omega, by rw [zn30]; omega⟩ (zh_min hK ⟨Nat.le_refl _, Nat.le_refl _⟩) (fun st1 μc1 hp1 => ?_)
  obtain ⟨rfl, rfl⟩ := hp1
  refine zp_acw hK zmm29 (idx := 432) (r := 188) (r' := 9) (n := 12) (g := zG188) (g' := zG9) (t := (0, -1, 17)) (t' := (0, -1, 17)) (List.mem_of_getElem? (i := 0) rfl) rfl rfl rfl ⟨rfl, rfl, rfl, rfl⟩ ⟨rfl, rfl, rfl⟩ hb188 ⟨by omega, by have h9 : pm_cs [] = 0 := rfl; omega⟩ (by decide) ?_
  exact pm_vret rfl rfl ⟨rfl, zTJ_cpy hT (t := (0, -1, 17)) (g := zG188) (g' := zG9) rfl rfl (by decide) ⟨by decide, rfl⟩ ⟨by decide, rfl, rfl⟩ rfl rfl, rfl⟩
set_option maxRecDepth 100000 in
theorem fc_ci189_10 (hK : zKK ST) (hb189 : sx_bit Wm 189 = true) (hT : zTJ φ μ) (hbd : 1 ≤ bud.1 ∧ 25 ≤ bud.2.1) : zC D Wm ST b0 l Sg zM29 bud [(2, 10), (2, 189)] μ (fun st' μ' => st' = [] ∧ zTJ φ μ' ∧ μ' = pm_cpy μ 189 10 12) := by
  refine pm_blk hK zmm29 [] 8 8 [(2, 10), (2, 189)] [(0, 12), (0, 12), (0, 0), (2, 189), (0, 0), (2, 10)] μ [] rfl trivial ?_
  refine pm_call hK zmm29 (427, 1, 30, 2) zM30 (0, 0) [(0, 12), (0, 12)] [(0, 0), (2, 189), (0, 0), (2, 10)] rfl rfl rfl rfl ⟨by omega, by rw [zn30]; omega⟩ (zh_min hK ⟨Nat.le_refl _, Nat.le_refl _⟩) (fun st1 μc1 hp1 => ?_)
  obtain ⟨rfl, rfl⟩ := hp1
  refine zp_acw hK zmm29 (idx := 432) (r := 189) (r' := 10) (n := 12) (g := zG189) (g' := zG10) (t := (0, -2147483648, 2147483647)) (t' := (0, -2147483648, 2147483647)) (List.mem_of_getElem? (i := 0) rfl) rfl rfl rfl ⟨rfl, rfl, rfl, rfl⟩ ⟨rfl, rfl, rfl⟩ hb189 ⟨by omega, by have h9 : pm_cs [] = 0 := rfl; omega⟩ (by decide) ?_
  exact pm_vret rfl rfl ⟨rfl, zTJ_cpy hT (t := (0, -2147483648, 2147483647)) (g := zG189) (g' := zG10) rfl rfl (by decide) ⟨by decide, rfl⟩ ⟨by decide, rfl, rfl⟩ rfl rfl, rfl⟩
set_option maxRecDepth 100000 in
theorem fc_ci190_11 (hK : zKK ST) (hb190 : sx_bit Wm 190 = true) (hT : zTJ φ μ) (hbd : 1 ≤ bud.1 ∧ 25 ≤ bud.2.1) : zC D Wm ST b0 l Sg zM29 bud [(2, 11), (2, 190)] μ (fun st' μ' => st' = [] ∧ zTJ φ μ' ∧ μ' = pm_cpy μ 190 11 18) := by
  refine pm_blk hK zmm29 [] 8 8 [(2, 11), (2, 190)] [(0, 18), (0, 18), (0, 0), (2, 190), (0, 0), (2, 11)] μ [] rfl trivial ?_
  refine pm_call hK zmm29 (427, 1, 30, 2) zM30 (0, 0) [(0, 18), (0, 18)] [(0, 0), (2, 190), (0, 0), (2, 11)] rfl rfl rfl rfl ⟨by omega, by rw [zn30]; omega⟩ (zh_min hK ⟨Nat.le_refl _, Nat.le_refl _⟩) (fun st1 μc1 hp1 => ?_)
  obtain ⟨rfl, rfl⟩ := hp1
  refine zp_acw hK zmm29 (idx := 432) (r := 190) (r' := 11) (n := 18) (g := zG190) (g' := zG11) (t := (0, -2147483648, 9999)) (t' := (0, -2147483648, 9999)) (List.mem_of_getElem? (i := 0) rfl) rfl rfl rfl ⟨rfl, rfl, rfl, rfl⟩ ⟨rfl, rfl, rfl⟩ hb190 ⟨by omega, by have h9 : pm_cs [] = 0 := rfl; omega⟩ (by decide) ?_
  exact pm_vret rfl rfl ⟨rfl, zTJ_cpy hT (t := (0, -2147483648, 9999)) (g := zG190) (g' := zG11) rfl rfl (by decide) ⟨by decide, rfl⟩ ⟨by decide, rfl, rfl⟩ rfl rfl, rfl⟩
set_option maxRecDepth 100000 in
theorem fc_ci191_12 (hK : zKK ST) (hb191 : sx_bit Wm 191 = true) (hT : zTJ φ μ) (hbd : 1 ≤ bud.1 ∧ 25 ≤ bud.2.1) : zC D Wm ST b0 l Sg zM29 bud [(2, 12), (2, 191)] μ (fun st' μ' => st' = [] ∧ zTJ φ μ' ∧ μ' = pm_cpy μ 191 12 18) := by
  refine pm_blk hK zmm29 [] 8 8 [(2, 12), (2, 191)] [(0, 18), (0, 18), (0, 0), (2, 191), (0, 0), (2, 12)] μ [] rfl trivial ?_
  refine pm_call hK zmm29 (427, 1, 30, 2) zM30 (0, 0) [(0, 18), (0, 18)] [(0, 0), (2, 191), (0, 0), (2, 12)] rfl rfl rfl rfl ⟨by omega, by rw [zn30]; omega⟩ (zh_min hK ⟨Nat.le_refl _, Nat.le_refl _⟩) (fun st1 μc1 hp1 => ?_)
  obtain ⟨rfl, rfl⟩ := hp1
  refine zp_acw hK zmm29 (idx := 432) (r := 191) (r' := 12) (n := 18) (g := zG191) (g' := zG12) (t := (0, 0, 9)) (t' := (0, 0, 9)) (List.mem_of_getElem? (i := 0) rfl) rfl rfl rfl ⟨rfl, rfl, rfl, rfl⟩ ⟨rfl, rfl, rfl⟩ hb191 ⟨by omega, by have h9 : pm_cs [] = 0 := rfl; omega⟩ (by decide) ?_
  exact pm_vret rfl rfl ⟨rfl, zTJ_cpy hT (t := (0, 0, 9)) (g := zG191) (g' := zG12) rfl rfl (by decide) ⟨by decide, rfl⟩ ⟨by decide, rfl, rfl⟩ rfl rfl, rfl⟩
set_option maxRecDepth 100000 in
theorem fc_ci192_13 (hK : zKK ST) (hb192 : sx_bit Wm 192 = true) (hT : zTJ φ μ) (hbd : 1 ≤ bud.1 ∧ 25 ≤ bud.2.1) : zC D Wm ST b0 l Sg zM29 bud [(2, 13), (2, 192)] μ (fun st' μ' => st' = [] ∧ zTJ φ μ' ∧ μ' = pm_cpy μ 192 13 18) := by
  refine pm_blk hK zmm29 [] 8 8 [(2, 13), (2, 192)] [(0, 18), (0, 18), (0, 0), (2, 192), (0, 0), (2, 13)] μ [] rfl trivial ?_
  refine pm_call hK zmm29 (427, 1, 30, 2) zM30 (0, 0) [(0, 18), (0, 18)] [(0, 0), (2, 192), (0, 0), (2, 13)] rfl rfl rfl rfl ⟨by omega, by rw [zn30]; omega⟩ (zh_min hK ⟨Nat.le_refl _, Nat.le_refl _⟩) (fun st1 μc1 hp1 => ?_)
  obtain ⟨rfl, rfl⟩ := hp1
  refine zp_acw hK zmm29 (idx := 432) (r := 192) (r' := 13) (n := 18) (g := zG192) (g' := zG13) (t := (0, -1, 11)) (t' := (0, -1, 11)) (List.mem_of_getElem? (i := 0) rfl) rfl rfl rfl ⟨rfl, rfl, rfl, rfl⟩ ⟨rfl, rfl, rfl⟩ hb192 ⟨by omega, by have h9 : pm_cs [] = 0 := rfl; omega⟩ (by decide) ?_
  exact pm_vret rfl rfl ⟨rfl, zTJ_cpy hT (t := (0, -1, 11)) (g := zG192) (g' := zG13) rfl rfl (by decide) ⟨by decide, rfl⟩ ⟨by decide, rfl, rfl⟩ rfl rfl, rfl⟩
set_option maxRecDepth 100000 in
theorem fc_ci193_14 (hK : zKK ST) (hb193 : sx_bit Wm 193 = true) (hT : zTJ φ μ) (hbd : 1 ≤ bud.1 ∧ 25 ≤ bud.2.1) : zC D Wm ST b0 l Sg zM29 bud [(2, 14), (2, 193)] μ (fun st' μ' => st' = [] ∧ zTJ φ μ' ∧ μ' = pm_cpy μ 193 14 18) := by
  refine pm_blk hK zmm29 [] 8 8 [(2, 14), (2, 193)] [(0, 18), (0, 18), (0, 0), (2, 193), (0, 0), (2, 14)] μ [] rfl trivial ?_
  refine pm_call hK zmm29 (427, 1, 30, 2) zM30 (0, 0) [(0, 18), (0, 18)] [(0, 0), (2, 193), (0, 0), (2, 14)] rfl rfl rfl rfl ⟨by omega, by rw [zn30]; omega⟩ (zh_min hK ⟨Nat.le_refl _, Nat.le_refl _⟩) (fun st1 μc1 hp1 => ?_)
  obtain ⟨rfl, rfl⟩ := hp1
  refine zp_acw hK zmm29 (idx := 432) (r := 193) (r' := 14) (n := 18) (g := zG193) (g' := zG14) (t := (0, -2147483648, 2147483647)) (t' := (0, -2147483648, 2147483647)) (List.mem_of_getElem? (i := 0) rfl) rfl rfl rfl ⟨rfl, rfl, rfl, rfl⟩ ⟨rfl, rfl, rfl⟩ hb193 ⟨by omega, by have h9 : pm_cs [] = 0 := rfl; omega⟩ (by decide) ?_
  exact pm_vret rfl rfl ⟨rfl, zTJ_cpy hT (t := (0, -2147483648, 2147483647)) (g := zG193) (g' := zG14) rfl rfl (by decide) ⟨by decide, rfl⟩ ⟨by decide, rfl, rfl⟩ rfl rfl, rfl⟩
set_option maxRecDepth 100000 in
theorem fc_ci194_15 (hK : zKK ST) (hb194 : sx_bit Wm 194 = true) (hT : zTJ φ μ) (hbd : 1 ≤ bud.1 ∧ 25 ≤ bud.2.1) : zC D Wm ST b0 l Sg zM29 bud [(2, 15), (2, 194)] μ (fun st' μ' => st' = [] ∧ zTJ φ μ' ∧ μ' = pm_cpy μ 194 15 18) := by
  refine pm_blk hK zmm29 [] 8 8 [(2, 15), (2, 194)] [(0, 18), (0, 18), (0, 0), (2, 194), (0, 0), (2, 15)] μ [] rfl trivial ?_
  refine pm_call hK zmm29 (427, 1, 30, 2) zM30 (0, 0) [(0, 18), (0, 18)] [(0, 0), (2, 194), (0, 0), (2, 15)] rfl rfl rfl rfl ⟨by omega, by rw [zn30]; omega⟩ (zh_min hK ⟨Nat.le_refl _, Nat.le_refl _⟩) (fun st1 μc1 hp1 => ?_)
  obtain ⟨rfl, rfl⟩ := hp1
  refine zp_acw hK zmm29 (idx := 432) (r := 194) (r' := 15) (n := 18) (g := zG194) (g' := zG15) (t := (0, -2147483648, 2147483647)) (t' := (0, -2147483648, 2147483647)) (List.mem_of_getElem? (i := 0) rfl) rfl rfl rfl ⟨rfl, rfl, rfl, rfl⟩ ⟨rfl, rfl, rfl⟩ hb194 ⟨by omega, by have h9 : pm_cs [] = 0 := rfl; omega⟩ (by decide) ?_
  exact pm_vret rfl rfl ⟨rfl, zTJ_cpy hT (t := (0, -2147483648, 2147483647)) (g := zG194) (g' := zG15) rfl rfl (by decide) ⟨by decide, rfl⟩ ⟨by decide, rfl, rfl⟩ rfl rfl, rfl⟩
set_option maxRecDepth 100000 in
theorem fc_ac182_3 (hK : zKK ST) (hT : zTJ φ μ) (hb182 : sx_bit Wm 182 = true) (hb183 : sx_bit Wm 183 = true) (hb184 : sx_bit Wm 184 = true) (hb185 : sx_bit Wm 185 = true) (hb186 : sx_bit Wm 186 = true) (hb187 : sx_bit Wm 187 = true) (hb188 : sx_bit Wm 188 = true) (hb189 : sx_bit Wm 189 = true) (hb190 : sx_bit Wm 190 = true) (hb191 : sx_bit Wm 191 = true) (hb192 : sx_bit Wm 192 = true) (hb193 : sx_bit Wm 193 = true) (hb194 : sx_bit Wm 194 = true) (hbd : 2 ≤ bud.1 ∧ 46 ≤ bud.2.1) : zC D Wm ST b0 l Sg zM28 bud [(2, 182), (2, 3)] μ (fun st' μ' => st' = [] ∧ zTJ φ μ' ∧ fa_cp 182 3 12 μ μ') := by
  have hk : fa_cf 182 3 0 μ μ := fa_cf_0
  have f1 := zT_get hT zs3_0 (i := 0) (by omega) (by omega)
  refine pm_blk hK zmm28 [] 4 8 [(2, 182), (2, 3)] [] (pm_up μ 182 0 (μ 3 0)) [sx_bit Wm 182 = true] rfl ⟨hb182, trivial⟩ ?_
  obtain ⟨μ1, eμ1⟩ : ∃ μ', μ' = pm_up μ 182 0 (μ 3 0) := ⟨_, rfl⟩
  rw [← eμ1]
  have hTμ1 : zTJ φ μ1 := by rw [eμ1]; exact zT_up hT zs182_0 rfl (i := 0) (by omega) (by omega) (by omega) (by omega)
  have hk : fa_cf 182 3 1 μ μ1 := fa_cf_s (j := 0) hk eμ1 rfl (by decide)
  have g2 : μ1 3 1 = μ 3 1 := by rw [eμ1, pm_up_off (by decide)]
  have f3 := zT_get hTμ1 zs3_1 (i := 1) (by omega) (by omega)
  refine pm_blk hK zmm28 [] 4 16 [(2, 182), (2, 3)] [] (pm_up μ1 182 1 (μ1 3 1)) [sx_bit Wm 182 = true] rfl ⟨hb182, trivial⟩ ?_
  obtain ⟨μ2, eμ2⟩ : ∃ μ', μ' = pm_up μ1 182 1 (μ1 3 1) := ⟨_, rfl⟩
  rw [← eμ2]
  have hTμ2 : zTJ φ μ2 := by rw [eμ2]; exact zT_up hTμ1 zs182_1 rfl (i := 1) (by omega) (by omega) (by omega) (by omega)
  have hk : fa_cf 182 3 2 μ μ2 := fa_cf_s (j := 1) hk eμ2 rfl (by decide)
  have g4 : μ2 3 2 = μ 3 2 := by rw [eμ2, pm_up_off (by decide), eμ1, pm_up_off (by decide)]
  have f5 := zT_get hTμ2 zs3_2 (i := 2) (by omega) (by omega)
  refine pm_blk hK zmm28 [] 4 24 [(2, 182), (2, 3)] [] (pm_up μ2 182 2 (μ2 3 2)) [sx_bit Wm 182 = true] rfl ⟨hb182, trivial⟩ ?_
  obtain ⟨μ3, eμ3⟩ : ∃ μ', μ' = pm_up μ2 182 2 (μ2 3 2) := ⟨_, rfl⟩
  rw [← eμ3]
  have hTμ3 : zTJ φ μ3 := by rw [eμ3]; exact zT_up hTμ2 zs182_2 rfl (i := 2) (by omega) (by omega) (by omega) (by omega)
  have hk : fa_cf 182 3 3 μ μ3 := fa_cf_s (j := 2) hk eμ3 rfl (by decide)
  have g6 : μ3 3 3 = μ 3 3 := by rw [eμ3, pm_up_off (by decide), eμ2, pm_up_off (by decide), eμ1, pm_up_off (by decide)]
  have f7 := zT_get hTμ3 zs3_3 (i := 3) (by omega) (by omega)
  refine pm_blk hK zmm28 [] 4 32 [(2, 182), (2, 3)] [] (pm_up μ3 182 3 (μ3 3 3)) [sx_bit Wm 182 = true] rfl ⟨hb182, trivial⟩ ?_
  obtain ⟨μ4, eμ4⟩ : ∃ μ', μ' = pm_up μ3 182 3 (μ3 3 3) := ⟨_, rfl⟩
  rw [← eμ4]
  have hTμ4 : zTJ φ μ4 := by rw [eμ4]; exact zT_up hTμ3 zs182_3 rfl (i := 3) (by omega) (by omega) (by omega) (by omega)
  have hk : fa_cf 182 3 4 μ μ4 := fa_cf_s (j := 3) hk eμ4 rfl (by decide)
  have g8 : μ4 3 4 = μ 3 4 := by rw [eμ4, pm_up_off (by decide), eμ3, pm_up_off (by decide), eμ2, pm_up_off (by decide), eμ1, pm_up_off (by decide)]
  have f9 := zT_get hTμ4 zs3_4 (i := 4) (by omega) (by omega)
  refine pm_blk hK zmm28 [] 4 40 [(2, 182), (2, 3)] [] (pm_up μ4 182 4 (μ4 3 4)) [sx_bit Wm 182 = true] rfl ⟨hb182, trivial⟩ ?_
  obtain ⟨μ5, eμ5⟩ : ∃ μ', μ' = pm_up μ4 182 4 (μ4 3 4) := ⟨_, rfl⟩
  rw [← eμ5]
  have hTμ5 : zTJ φ μ5 := by rw [eμ5]; exact zT_up hTμ4 zs182_4 rfl (i := 4) (by omega) (by omega) (by omega) (by omega)
  have hk : fa_cf 182 3 5 μ μ5 := fa_cf_s (j := 4) hk eμ5 rfl (by decide)
  have hc := fa_cp_0 hk
  refine pm_blk hK zmm28 [] 4 48 [(2, 182), (2, 3)] [(2, 183), (2, 4)] μ5 [] rfl trivial ?_
  refine pm_call hK zmm28 (91, 1, 29, 2) zM29 (1, 25) [(2, 4), (2, 183)] [] rfl rfl rfl rfl ⟨by omega, by rw [zn29]; omega⟩ (fc_ci183_4 hK hb183 hTμ5 ⟨Nat.le_refl _, Nat.le_refl _⟩) (fun st1 μc1 hp1 => ?_)
  obtain ⟨rfl, hTc1, ec1⟩ := hp1
  have hc : fa_cp 182 3 1 μ μc1 := fa_cp_s (j := 0) hc ec1 rfl rfl (by decide) (by decide) (by decide)
  refine pm_blk hK zmm28 [] 4 59 [(2, 182), (2, 3)] [(2, 184), (2, 5)] μc1 [] rfl trivial ?_
  refine pm_call hK zmm28 (91, 1, 29, 2) zM29 (1, 25) [(2, 5), (2, 184)] [] rfl rfl rfl rfl ⟨by omega, by rw [zn29]; omega⟩ (fc_ci184_5 hK hb184 hTc1 ⟨Nat.le_refl _, Nat.le_refl _⟩) (fun st2 μc2 hp2 => ?_)
  obtain ⟨rfl, hTc2, ec2⟩ := hp2
  have hc : fa_cp 182 3 2 μ μc2 := fa_cp_s (j := 1) hc ec2 rfl rfl (by decide) (by decide) (by decide)
  refine pm_blk hK zmm28 [] 4 70 [(2, 182), (2, 3)] [(2, 185), (2, 6)] μc2 [] rfl trivial ?_
  refine pm_call hK zmm28 (91, 1, 29, 2) zM29 (1, 25) [(2, 6), (2, 185)] [] rfl rfl rfl rfl ⟨by omega, by rw [zn29]; omega⟩ (fc_ci185_6 hK hb185 hTc2 ⟨Nat.le_refl _, Nat.le_refl _⟩) (fun st3 μc3 hp3 => ?_)
  obtain ⟨rfl, hTc3, ec3⟩ := hp3
  have hc : fa_cp 182 3 3 μ μc3 := fa_cp_s (j := 2) hc ec3 rfl rfl (by decide) (by decide) (by decide)
  refine pm_blk hK zmm28 [] 4 81 [(2, 182), (2, 3)] [(2, 186), (2, 7)] μc3 [] rfl trivial ?_
  refine pm_call hK zmm28 (91, 1, 29, 2) zM29 (1, 25) [(2, 7), (2, 186)] [] rfl rfl rfl rfl ⟨by omega, by rw [zn29]; omega⟩ (fc_ci186_7 hK hb186 hTc3 ⟨Nat.le_refl _, Nat.le_refl _⟩) (fun st4 μc4 hp4 => ?_)
  obtain ⟨rfl, hTc4, ec4⟩ := hp4
  have hc : fa_cp 182 3 4 μ μc4 := fa_cp_s (j := 3) hc ec4 rfl rfl (by decide) (by decide) (by decide)
  refine pm_blk hK zmm28 [] 4 92 [(2, 182), (2, 3)] [(2, 187), (2, 8)] μc4 [] rfl trivial ?_
  refine pm_call hK zmm28 (91, 1, 29, 2) zM29 (1, 25) [(2, 8), (2, 187)] [] rfl rfl rfl rfl ⟨by omega, by rw [zn29]; omega⟩ (fc_ci187_8 hK hb187 hTc4 ⟨Nat.le_refl _, Nat.le_refl _⟩) (fun st5 μc5 hp5 => ?_)
  obtain ⟨rfl, hTc5, ec5⟩ := hp5
  have hc : fa_cp 182 3 5 μ μc5 := fa_cp_s (j := 4) hc ec5 rfl rfl (by decide) (by decide) (by decide)
  refine pm_blk hK zmm28 [] 4 103 [(2, 182), (2, 3)] [(2, 188), (2, 9)] μc5 [] rfl trivial ?_
  refine pm_call hK zmm28 (91, 1, 29, 2) zM29 (1, 25) [(2, 9), (2, 188)] [] rfl rfl rfl rfl ⟨by omega, by rw [zn29]; omega⟩ (fc_ci188_9 hK hb188 hTc5 ⟨Nat.le_refl _, Nat.le_refl _⟩) (fun st6 μc6 hp6 => ?_)
  obtain ⟨rfl, hTc6, ec6⟩ := hp6
  have hc : fa_cp 182 3 6 μ μc6 := fa_cp_s (j := 5) hc ec6 rfl rfl (by decide) (by decide) (by decide)
  refine pm_blk hK zmm28 [] 4 114 [(2, 182), (2, 3)] [(2, 189), (2, 10)] μc6 [] rfl trivial ?_
  refine pm_call hK zmm28 (91, 1, 29, 2) zM29 (1, 25) [(2, 10), (2, 189)] [] rfl rfl rfl rfl ⟨by omega, by rw [zn29]; omega⟩ (fc_ci189_10 hK hb189 hTc6 ⟨Nat.le_refl _, Nat.le_refl _⟩) (fun st7 μc7 hp7 => ?_)
  obtain ⟨rfl, hTc7, ec7⟩ := hp7
  have hc : fa_cp 182 3 7 μ μc7 := fa_cp_s (j := 6) hc ec7 rfl rfl (by decide) (by decide) (by decide)
  refine pm_blk hK zmm28 [] 4 125 [(2, 182), (2, 3)] [(2, 190), (2, 11)] μc7 [] rfl trivial ?_
  refine pm_call hK zmm28 (91, 1, 29, 2) zM29 (1, 25) [(2, 11), (2, 190)] [] rfl rfl rfl rfl ⟨by omega, by rw [zn29]; omega⟩ (fc_ci190_11 hK hb190 hTc7 ⟨Nat.le_refl _, Nat.le_refl _⟩) (fun st8 μc8 hp8 => ?_)
  obtain ⟨rfl, hTc8, ec8⟩ := hp8
  have hc : fa_cp 182 3 8 μ μc8 := fa_cp_s (j := 7) hc ec8 rfl rfl (by decide) (by decide) (by decide)
  refine pm_blk hK zmm28 [] 4 136 [(2, 182), (2, 3)] [(2, 191), (2, 12)] μc8 [] rfl trivial ?_
  refine pm_call hK zmm28 (91, 1, 29, 2) zM29 (1, 25) [(2, 12), (2, 191)] [] rfl rfl rfl rfl ⟨by omega, by rw [zn29]; omega⟩ (fc_ci191_12 hK hb191 hTc8 ⟨Nat.le_refl _, Nat.le_refl _⟩) (fun st9 μc9 hp9 => ?_)
  obtain ⟨rfl, hTc9, ec9⟩ := hp9
  have hc : fa_cp 182 3 9 μ μc9 := fa_cp_s (j := 8) hc ec9 rfl rfl (by decide) (by decide) (by decide)
  refine pm_blk hK zmm28 [] 4 147 [(2, 182), (2, 3)] [(2, 192), (2, 13)] μc9 [] rfl trivial ?_
  refine pm_call hK zmm28 (91, 1, 29, 2) zM29 (1, 25) [(2, 13), (2, 192)] [] rfl rfl rfl rfl ⟨by omega, by rw [zn29]; omega⟩ (fc_ci192_13 hK hb192 hTc9 ⟨Nat.le_refl _, Nat.le_refl _⟩) (fun st10 μc10 hp10 => ?_)
  obtain ⟨rfl, hTc10, ec10⟩ := hp10
  have hc : fa_cp 182 3 10 μ μc10 := fa_cp_s (j := 9) hc ec10 rfl rfl (by decide) (by decide) (by decide)
  refine pm_blk hK zmm28 [] 4 158 [(2, 182), (2, 3)] [(2, 193), (2, 14)] μc10 [] rfl trivial ?_
  refine pm_call hK zmm28 (91, 1, 29, 2) zM29 (1, 25) [(2, 14), (2, 193)] [] rfl rfl rfl rfl ⟨by omega, by rw [zn29]; omega⟩ (fc_ci193_14 hK hb193 hTc10 ⟨Nat.le_refl _, Nat.le_refl _⟩) (fun st11 μc11 hp11 => ?_)
  obtain ⟨rfl, hTc11, ec11⟩ := hp11
  have hc : fa_cp 182 3 11 μ μc11 := fa_cp_s (j := 10) hc ec11 rfl rfl (by decide) (by decide) (by decide)
  refine pm_blk hK zmm28 [] 4 169 [(2, 182), (2, 3)] [(2, 194), (2, 15)] μc11 [] rfl trivial ?_
  refine pm_call hK zmm28 (91, 1, 29, 2) zM29 (1, 25) [(2, 15), (2, 194)] [] rfl rfl rfl rfl ⟨by omega, by rw [zn29]; omega⟩ (fc_ci194_15 hK hb194 hTc11 ⟨Nat.le_refl _, Nat.le_refl _⟩) (fun st12 μc12 hp12 => ?_)
  obtain ⟨rfl, hTc12, ec12⟩ := hp12
  have hc : fa_cp 182 3 12 μ μc12 := fa_cp_s (j := 11) hc ec12 rfl rfl (by decide) (by decide) (by decide)
  exact pm_vret rfl rfl ⟨rfl, hTc12, hc⟩
set_option maxRecDepth 100000 in
theorem fc_ci47_4 (hK : zKK ST) (hb47 : sx_bit Wm 47 = true) (hT : zTJ φ μ) (hbd : 1 ≤ bud.1 ∧ 25 ≤ bud.2.1) : zC D Wm ST b0 l Sg zM29 bud [(2, 4), (2, 47)] μ (fun st' μ' => st' = [] ∧ zTJ φ μ' ∧ μ' = pm_cpy μ 47 4 12) := by
  refine pm_blk hK zmm29 [] 8 8 [(2, 4), (2, 47)] [(0, 12), (0, 12), (0, 0), (2, 47), (0, 0), (2, 4)] μ [] rfl trivial ?_
  refine pm_call hK zmm29 (427, 1, 30, 2) zM30 (0, 0) [(0, 12), (0, 12)] [(0, 0), (2, 47), (0, 0), (2, 4)] rfl rfl rfl rfl ⟨by omega, by rw [zn30]; omega⟩ (zh_min hK ⟨Nat.le_refl _, Nat.le_refl _⟩) (fun st1 μc1 hp1 => ?_)
  obtain ⟨rfl, rfl⟩ := hp1
  refine zp_acw hK zmm29 (idx := 432) (r := 47) (r' := 4) (n := 12) (g := zG47) (g' := zG4) (t := (0, -1, 999)) (t' := (0, -1, 999)) (List.mem_of_getElem? (i := 0) rfl) rfl rfl rfl ⟨rfl, rfl, rfl, rfl⟩ ⟨rfl, rfl, rfl⟩ hb47 ⟨by omega, by have h9 : pm_cs [] = 0 := rfl; omega⟩ (by decide) ?_
  exact pm_vret rfl rfl ⟨rfl, zTJ_cpy hT (t := (0, -1, 999)) (g := zG47) (g' := zG4) rfl rfl (by decide) ⟨by decide, rfl⟩ ⟨by decide, rfl, rfl⟩ rfl rfl, rfl⟩
set_option maxRecDepth 100000 in
theorem fc_ci48_5 (hK : zKK ST) (hb48 : sx_bit Wm 48 = true) (hT : zTJ φ μ) (hbd : 1 ≤ bud.1 ∧ 25 ≤ bud.2.1) : zC D Wm ST b0 l Sg zM29 bud [(2, 5), (2, 48)] μ (fun st' μ' => st' = [] ∧ zTJ φ μ' ∧ μ' = pm_cpy μ 48 5 12) := by
  refine pm_blk hK zmm29 [] 8 8 [(2, 5), (2, 48)] [(0, 12), (0, 12), (0, 0), (2, 48), (0, 0), (2, 5)] μ [] rfl trivial ?_
  refine pm_call hK zmm29 (427, 1, 30, 2) zM30 (0, 0) [(0, 12), (0, 12)] [(0, 0), (2, 48), (0, 0), (2, 5)] rfl rfl rfl rfl ⟨by omega, by rw [zn30]; omega⟩ (zh_min hK ⟨Nat.le_refl _, Nat.le_refl _⟩) (fun st1 μc1 hp1 => ?_)
  obtain ⟨rfl, rfl⟩ := hp1
  refine zp_acw hK zmm29 (idx := 432) (r := 48) (r' := 5) (n := 12) (g := zG48) (g' := zG5) (t := (0, -1, 999)) (t' := (0, -1, 999)) (List.mem_of_getElem? (i := 0) rfl) rfl rfl rfl ⟨rfl, rfl, rfl, rfl⟩ ⟨rfl, rfl, rfl⟩ hb48 ⟨by omega, by have h9 : pm_cs [] = 0 := rfl; omega⟩ (by decide) ?_
  exact pm_vret rfl rfl ⟨rfl, zTJ_cpy hT (t := (0, -1, 999)) (g := zG48) (g' := zG5) rfl rfl (by decide) ⟨by decide, rfl⟩ ⟨by decide, rfl, rfl⟩ rfl rfl, rfl⟩
set_option maxRecDepth 100000 in
theorem fc_ci49_6 (hK : zKK ST) (hb49 : sx_bit Wm 49 = true) (hT : zTJ φ μ) (hbd : 1 ≤ bud.1 ∧ 25 ≤ bud.2.1) : zC D Wm ST b0 l Sg zM29 bud [(2, 6), (2, 49)] μ (fun st' μ' => st' = [] ∧ zTJ φ μ' ∧ μ' = pm_cpy μ 49 6 12) := by
  refine pm_blk hK zmm29 [] 8 8 [(2, 6), (2, 49)] [(0, 12), (0, 12), (0, 0), (2, 49), (0, 0), (2, 6)] μ [] rfl trivial ?_
  refine pm_call hK zmm29 (427, 1, 30, 2) zM30 (0, 0) [(0, 12), (0, 12)] [(0, 0), (2, 49), (0, 0), (2, 6)] rfl rfl rfl rfl ⟨by omega, by rw [zn30]; omega⟩ (zh_min hK ⟨Nat.le_refl _, Nat.le_refl _⟩) (fun st1 μc1 hp1 => ?_)
  obtain ⟨rfl, rfl⟩ := hp1
  refine zp_acw hK zmm29 (idx := 432) (r := 49) (r' := 6) (n := 12) (g := zG49) (g' := zG6) (t := (0, -2147483648, 2147483647)) (t' := (0, -2147483648, 2147483647)) (List.mem_of_getElem? (i := 0) rfl) rfl rfl rfl ⟨rfl, rfl, rfl, rfl⟩ ⟨rfl, rfl, rfl⟩ hb49 ⟨by omega, by have h9 : pm_cs [] = 0 := rfl; omega⟩ (by decide) ?_
  exact pm_vret rfl rfl ⟨rfl, zTJ_cpy hT (t := (0, -2147483648, 2147483647)) (g := zG49) (g' := zG6) rfl rfl (by decide) ⟨by decide, rfl⟩ ⟨by decide, rfl, rfl⟩ rfl rfl, rfl⟩
set_option maxRecDepth 100000 in
theorem fc_ci50_7 (hK : zKK ST) (hb50 : sx_bit Wm 50 = true) (hT : zTJ φ μ) (hbd : 1 ≤ bud.1 ∧ 25 ≤ bud.2.1) : zC D Wm ST b0 l Sg zM29 bud [(2, 7), (2, 50)] μ (fun st' μ' => st' = [] ∧ zTJ φ μ' ∧ μ' = pm_cpy μ 50 7 12) := by
  refine pm_blk hK zmm29 [] 8 8 [(2, 7), (2, 50)] [(0, 12), (0, 12), (0, 0), (2, 50), (0, 0), (2, 7)] μ [] rfl trivial ?_
  refine pm_call hK zmm29 (427, 1, 30, 2) zM30 (0, 0) [(0, 12), (0, 12)] [(0, 0), (2, 50), (0, 0), (2, 7)] rfl rfl rfl rfl ⟨by omega, by rw [zn30]; omega⟩ (zh_min hK ⟨Nat.le_refl _, Nat.le_refl _⟩) (fun st1 μc1 hp1 => ?_)
  obtain ⟨rfl, rfl⟩ := hp1
  refine zp_acw hK zmm29 (idx := 432) (r := 50) (r' := 7) (n := 12) (g := zG50) (g' := zG7) (t := (0, 0, 1)) (t' := (0, 0, 1)) (List.mem_of_getElem? (i := 0) rfl) rfl rfl rfl ⟨rfl, rfl, rfl, rfl⟩ ⟨rfl, rfl, rfl⟩ hb50 ⟨by omega, by have h9 : pm_cs [] = 0 := rfl; omega⟩ (by decide) ?_
  exact pm_vret rfl rfl ⟨rfl, zTJ_cpy hT (t := (0, 0, 1)) (g := zG50) (g' := zG7) rfl rfl (by decide) ⟨by decide, rfl⟩ ⟨by decide, rfl, rfl⟩ rfl rfl, rfl⟩
set_option maxRecDepth 100000 in
theorem fc_ci51_8 (hK : zKK ST) (hb51 : sx_bit Wm 51 = true) (hT : zTJ φ μ) (hbd : 1 ≤ bud.1 ∧ 25 ≤ bud.2.1) : zC D Wm ST b0 l Sg zM29 bud [(2, 8), (2, 51)] μ (fun st' μ' => st' = [] ∧ zTJ φ μ' ∧ μ' = pm_cpy μ 51 8 12) := by
  refine pm_blk hK zmm29 [] 8 8 [(2, 8), (2, 51)] [(0, 12), (0, 12), (0, 0), (2, 51), (0, 0), (2, 8)] μ [] rfl trivial ?_
  refine pm_call hK zmm29 (427, 1, 30, 2) zM30 (0, 0) [(0, 12), (0, 12)] [(0, 0), (2, 51), (0, 0), (2, 8)] rfl rfl rfl rfl ⟨by omega, by rw [zn30]; omega⟩ (zh_min hK ⟨Nat.le_refl _, Nat.le_refl _⟩) (fun st1 μc1 hp1 => ?_)
  obtain ⟨rfl, rfl⟩ := hp1
  refine zp_acw hK zmm29 (idx := 432) (r := 51) (r' := 8) (n := 12) (g := zG51) (g' := zG8) (t := (0, -1, 17)) (t' := (0, -1, 17)) (List.mem_of_getElem? (i := 0) rfl) rfl rfl rfl ⟨rfl, rfl, rfl, rfl⟩ ⟨rfl, rfl, rfl⟩ hb51 ⟨by omega, by have h9 : pm_cs [] = 0 := rfl; omega⟩ (by decide) ?_
  exact pm_vret rfl rfl ⟨rfl, zTJ_cpy hT (t := (0, -1, 17)) (g := zG51) (g' := zG8) rfl rfl (by decide) ⟨by decide, rfl⟩ ⟨by decide, rfl, rfl⟩ rfl rfl, rfl⟩
set_option maxRecDepth 100000 in
theorem fc_ci52_9 (hK : zKK ST) (hb52 : sx_bit Wm 52 = true) (hT : zTJ φ μ) (hbd : 1 ≤ bud.1 ∧ 25 ≤ bud.2.1) : zC D Wm ST b0 l Sg zM29 bud [(2, 9), (2, 52)] μ (fun st' μ' => st' = [] ∧ zTJ φ μ' ∧ μ' = pm_cpy μ 52 9 12) := by
  refine pm_blk hK zmm29 [] 8 8 [(2, 9), (2, 52)] [(0, 12), (0, 12), (0, 0), (2, 52), (0, 0), (2, 9)] μ [] rfl trivial ?_
  refine pm_call hK zmm29 (427, 1, 30, 2) zM30 (0, 0) [(0, 12), (0, 12)] [(0, 0), (2, 52), (0, 0), (2, 9)] rfl rfl rfl rfl ⟨by omega, by rw [zn30]; omega⟩ (zh_min hK ⟨Nat.le_refl _, Nat.le_refl _⟩) (fun st1 μc1 hp1 => ?_)
  obtain ⟨rfl, rfl⟩ := hp1
  refine zp_acw hK zmm29 (idx := 432) (r := 52) (r' := 9) (n := 12) (g := zG52) (g' := zG9) (t := (0, -1, 17)) (t' := (0, -1, 17)) (List.mem_of_getElem? (i := 0) rfl) rfl rfl rfl ⟨rfl, rfl, rfl, rfl⟩ ⟨rfl, rfl, rfl⟩ hb52 ⟨by omega, by have h9 : pm_cs [] = 0 := rfl; omega⟩ (by decide) ?_
  exact pm_vret rfl rfl ⟨rfl, zTJ_cpy hT (t := (0, -1, 17)) (g := zG52) (g' := zG9) rfl rfl (by decide) ⟨by decide, rfl⟩ ⟨by decide, rfl, rfl⟩ rfl rfl, rfl⟩
set_option maxRecDepth 100000 in
theorem fc_ci53_10 (hK : zKK ST) (hb53 : sx_bit Wm 53 = true) (hT : zTJ φ μ) (hbd : 1 ≤ bud.1 ∧ 25 ≤ bud.2.1) : zC D Wm ST b0 l Sg zM29 bud [(2, 10), (2, 53)] μ (fun st' μ' => st' = [] ∧ zTJ φ μ' ∧ μ' = pm_cpy μ 53 10 12) := by
  refine pm_blk hK zmm29 [] 8 8 [(2, 10), (2, 53)] [(0, 12), (0, 12), (0, 0), (2, 53), (0, 0), (2, 10)] μ [] rfl trivial ?_
  refine pm_call hK zmm29 (427, 1, 30, 2) zM30 (0, 0) [(0, 12), (0, 12)] [(0, 0), (2, 53), (0, 0), (2, 10)] rfl rfl rfl rfl ⟨by omega, by rw [zn30]; omega⟩ (zh_min hK ⟨Nat.le_refl _, Nat.le_refl _⟩) (fun st1 μc1 hp1 => ?_)
  obtain ⟨rfl, rfl⟩ := hp1
  refine zp_acw hK zmm29 (idx := 432) (r := 53) (r' := 10) (n := 12) (g := zG53) (g' := zG10) (t := (0, -2147483648, 2147483647)) (t' := (0, -2147483648, 2147483647)) (List.mem_of_getElem? (i := 0) rfl) rfl rfl rfl ⟨rfl, rfl, rfl, rfl⟩ ⟨rfl, rfl, rfl⟩ hb53 ⟨by omega, by have h9 : pm_cs [] = 0 := rfl; omega⟩ (by decide) ?_
  exact pm_vret rfl rfl ⟨rfl, zTJ_cpy hT (t := (0, -2147483648, 2147483647)) (g := zG53) (g' := zG10) rfl rfl (by decide) ⟨by decide, rfl⟩ ⟨by decide, rfl, rfl⟩ rfl rfl, rfl⟩
set_option maxRecDepth 100000 in
theorem fc_ci54_11 (hK : zKK ST) (hb54 : sx_bit Wm 54 = true) (hT : zTJ φ μ) (hbd : 1 ≤ bud.1 ∧ 25 ≤ bud.2.1) : zC D Wm ST b0 l Sg zM29 bud [(2, 11), (2, 54)] μ (fun st' μ' => st' = [] ∧ zTJ φ μ' ∧ μ' = pm_cpy μ 54 11 18) := by
  refine pm_blk hK zmm29 [] 8 8 [(2, 11), (2, 54)] [(0, 18), (0, 18), (0, 0), (2, 54), (0, 0), (2, 11)] μ [] rfl trivial ?_
  refine pm_call hK zmm29 (427, 1, 30, 2) zM30 (0, 0) [(0, 18), (0, 18)] [(0, 0), (2, 54), (0, 0), (2, 11)] rfl rfl rfl rfl ⟨by omega, by rw [zn30]; omega⟩ (zh_min hK ⟨Nat.le_refl _, Nat.le_refl _⟩) (fun st1 μc1 hp1 => ?_)
  obtain ⟨rfl, rfl⟩ := hp1
  refine zp_acw hK zmm29 (idx := 432) (r := 54) (r' := 11) (n := 18) (g := zG54) (g' := zG11) (t := (0, -2147483648, 9999)) (t' := (0, -2147483648, 9999)) (List.mem_of_getElem? (i := 0) rfl) rfl rfl rfl ⟨rfl, rfl, rfl, rfl⟩ ⟨rfl, rfl, rfl⟩ hb54 ⟨by omega, by have h9 : pm_cs [] = 0 := rfl; omega⟩ (by decide) ?_
  exact pm_vret rfl rfl ⟨rfl, zTJ_cpy hT (t := (0, -2147483648, 9999)) (g := zG54) (g' := zG11) rfl rfl (by decide) ⟨by decide, rfl⟩ ⟨by decide, rfl, rfl⟩ rfl rfl, rfl⟩
set_option maxRecDepth 100000 in
theorem fc_ci55_12 (hK : zKK ST) (hb55 : sx_bit Wm 55 = true) (hT : zTJ φ μ) (hbd : 1 ≤ bud.1 ∧ 25 ≤ bud.2.1) : zC D Wm ST b0 l Sg zM29 bud [(2, 12), (2, 55)] μ (fun st' μ' => st' = [] ∧ zTJ φ μ' ∧ μ' = pm_cpy μ 55 12 18) := by
  refine pm_blk hK zmm29 [] 8 8 [(2, 12), (2, 55)] [(0, 18), (0, 18), (0, 0), (2, 55), (0, 0), (2, 12)] μ [] rfl trivial ?_
  refine pm_call hK zmm29 (427, 1, 30, 2) zM30 (0, 0) [(0, 18), (0, 18)] [(0, 0), (2, 55), (0, 0), (2, 12)] rfl rfl rfl rfl ⟨by omega, by rw [zn30]; omega⟩ (zh_min hK ⟨Nat.le_refl _, Nat.le_refl _⟩) (fun st1 μc1 hp1 => ?_)
  obtain ⟨rfl, rfl⟩ := hp1
  refine zp_acw hK zmm29 (idx := 432) (r := 55) (r' := 12) (n := 18) (g := zG55) (g' := zG12) (t := (0, 0, 9)) (t' := (0, 0, 9)) (List.mem_of_getElem? (i := 0) rfl) rfl rfl rfl ⟨rfl, rfl, rfl, rfl⟩ ⟨rfl, rfl, rfl⟩ hb55 ⟨by omega, by have h9 : pm_cs [] = 0 := rfl; omega⟩ (by decide) ?_
  exact pm_vret rfl rfl ⟨rfl, zTJ_cpy hT (t := (0, 0, 9)) (g := zG55) (g' := zG12) rfl rfl (by decide) ⟨by decide, rfl⟩ ⟨by decide, rfl, rfl⟩ rfl rfl, rfl⟩
set_option maxRecDepth 100000 in
theorem fc_ci56_13 (hK : zKK ST) (hb56 : sx_bit Wm 56 = true) (hT : zTJ φ μ) (hbd : 1 ≤ bud.1 ∧ 25 ≤ bud.2.1) : zC D Wm ST b0 l Sg zM29 bud [(2, 13), (2, 56)] μ (fun st' μ' => st' = [] ∧ zTJ φ μ' ∧ μ' = pm_cpy μ 56 13 18) := by
  refine pm_blk hK zmm29 [] 8 8 [(2, 13), (2, 56)] [(0, 18), (0, 18), (0, 0), (2, 56), (0, 0), (2, 13)] μ [] rfl trivial ?_
  refine pm_call hK zmm29 (427, 1, 30, 2) zM30 (0, 0) [(0, 18), (0, 18)] [(0, 0), (2, 56), (0, 0), (2, 13)] rfl rfl rfl rfl ⟨by omega, by rw [zn30]; omega⟩ (zh_min hK ⟨Nat.le_refl _, Nat.le_refl _⟩) (fun st1 μc1 hp1 => ?_)
  obtain ⟨rfl, rfl⟩ := hp1
  refine zp_acw hK zmm29 (idx := 432) (r := 56) (r' := 13) (n := 18) (g := zG56) (g' := zG13) (t := (0, -1, 11)) (t' := (0, -1, 11)) (List.mem_of_getElem? (i := 0) rfl) rfl rfl rfl ⟨rfl, rfl, rfl, rfl⟩ ⟨rfl, rfl, rfl⟩ hb56 ⟨by omega, by have h9 : pm_cs [] = 0 := rfl; omega⟩ (by decide) ?_
  exact pm_vret rfl rfl ⟨rfl, zTJ_cpy hT (t := (0, -1, 11)) (g := zG56) (g' := zG13) rfl rfl (by decide) ⟨by decide, rfl⟩ ⟨by decide, rfl, rfl⟩ rfl rfl, rfl⟩
set_option maxRecDepth 100000 in
theorem fc_ci57_14 (hK : zKK ST) (hb57 : sx_bit Wm 57 = true) (hT : zTJ φ μ) (hbd : 1 ≤ bud.1 ∧ 25 ≤ bud.2.1) : zC D Wm ST b0 l Sg zM29 bud [(2, 14), (2, 57)] μ (fun st' μ' => st' = [] ∧ zTJ φ μ' ∧ μ' = pm_cpy μ 57 14 18) := by
  refine pm_blk hK zmm29 [] 8 8 [(2, 14), (2, 57)] [(0, 18), (0, 18), (0, 0), (2, 57), (0, 0), (2, 14)] μ [] rfl trivial ?_
  refine pm_call hK zmm29 (427, 1, 30, 2) zM30 (0, 0) [(0, 18), (0, 18)] [(0, 0), (2, 57), (0, 0), (2, 14)] rfl rfl rfl rfl ⟨by omega, by rw [zn30]; omega⟩ (zh_min hK ⟨Nat.le_refl _, Nat.le_refl _⟩) (fun st1 μc1 hp1 => ?_)
  obtain ⟨rfl, rfl⟩ := hp1
  refine zp_acw hK zmm29 (idx := 432) (r := 57) (r' := 14) (n := 18) (g := zG57) (g' := zG14) (t := (0, -2147483648, 2147483647)) (t' := (0, -2147483648, 2147483647)) (List.mem_of_getElem? (i := 0) rfl) rfl rfl rfl ⟨rfl, rfl, rfl, rfl⟩ ⟨rfl, rfl, rfl⟩ hb57 ⟨by omega, by have h9 : pm_cs [] = 0 := rfl; omega⟩ (by decide) ?_
  exact pm_vret rfl rfl ⟨rfl, zTJ_cpy hT (t := (0, -2147483648, 2147483647)) (g := zG57) (g' := zG14) rfl rfl (by decide) ⟨by decide, rfl⟩ ⟨by decide, rfl, rfl⟩ rfl rfl, rfl⟩
set_option maxRecDepth 100000 in
theorem fc_ci58_15 (hK : zKK ST) (hb58 : sx_bit Wm 58 = true) (hT : zTJ φ μ) (hbd : 1 ≤ bud.1 ∧ 25 ≤ bud.2.1) : zC D Wm ST b0 l Sg zM29 bud [(2, 15), (2, 58)] μ (fun st' μ' => st' = [] ∧ zTJ φ μ' ∧ μ' = pm_cpy μ 58 15 18) := by
  refine pm_blk hK zmm29 [] 8 8 [(2, 15), (2, 58)] [(0, 18), (0, 18), (0, 0), (2, 58), (0, 0), (2, 15)] μ [] rfl trivial ?_
  refine pm_call hK zmm29 (427, 1, 30, 2) zM30 (0, 0) [(0, 18), (0, 18)] [(0, 0), (2, 58), (0, 0), (2, 15)] rfl rfl rfl rfl ⟨by omega, by rw [zn30]; omega⟩ (zh_min hK ⟨Nat.le_refl _, Nat.le_refl _⟩) (fun st1 μc1 hp1 => ?_)
  obtain ⟨rfl, rfl⟩ := hp1
  refine zp_acw hK zmm29 (idx := 432) (r := 58) (r' := 15) (n := 18) (g := zG58) (g' := zG15) (t := (0, -2147483648, 2147483647)) (t' := (0, -2147483648, 2147483647)) (List.mem_of_getElem? (i := 0) rfl) rfl rfl rfl ⟨rfl, rfl, rfl, rfl⟩ ⟨rfl, rfl, rfl⟩ hb58 ⟨by omega, by have h9 : pm_cs [] = 0 := rfl; omega⟩ (by decide) ?_
  exact pm_vret rfl rfl ⟨rfl, zTJ_cpy hT (t := (0, -2147483648, 2147483647)) (g := zG58) (g' := zG15) rfl rfl (by decide) ⟨by decide, rfl⟩ ⟨by decide, rfl, rfl⟩ rfl rfl, rfl⟩
set_option maxRecDepth 100000 in
theorem fc_ac46_3 (hK : zKK ST) (hT : zTJ φ μ) (hb46 : sx_bit Wm 46 = true) (hb47 : sx_bit Wm 47 = true) (hb48 : sx_bit Wm 48 = true) (hb49 : sx_bit Wm 49 = true) (hb50 : sx_bit Wm 50 = true) (hb51 : sx_bit Wm 51 = true) (hb52 : sx_bit Wm 52 = true) (hb53 : sx_bit Wm 53 = true) (hb54 : sx_bit Wm 54 = true) (hb55 : sx_bit Wm 55 = true) (hb56 : sx_bit Wm 56 = true) (hb57 : sx_bit Wm 57 = true) (hb58 : sx_bit Wm 58 = true) (hbd : 2 ≤ bud.1 ∧ 46 ≤ bud.2.1) : zC D Wm ST b0 l Sg zM28 bud [(2, 46), (2, 3)] μ (fun st' μ' => st' = [] ∧ zTJ φ μ' ∧ fa_cp 46 3 12 μ μ') := by
  have hk : fa_cf 46 3 0 μ μ := fa_cf_0
  have f1 := zT_get hT zs3_0 (i := 0) (by omega) (by omega)
  refine pm_blk hK zmm28 [] 4 8 [(2, 46), (2, 3)] [] (pm_up μ 46 0 (μ 3 0)) [sx_bit Wm 46 = true] rfl ⟨hb46, trivial⟩ ?_
  obtain ⟨μ1, eμ1⟩ : ∃ μ', μ' = pm_up μ 46 0 (μ 3 0) := ⟨_, rfl⟩
  rw [← eμ1]
  have hTμ1 : zTJ φ μ1 := by rw [eμ1]; exact zT_up hT zs46_0 rfl (i := 0) (by omega) (by omega) (by omega) (by omega)
  have hk : fa_cf 46 3 1 μ μ1 := fa_cf_s (j := 0) hk eμ1 rfl (by decide)
  have g2 : μ1 3 1 = μ 3 1 := by rw [eμ1, pm_up_off (by decide)]
  have f3 := zT_get hTμ1 zs3_1 (i := 1) (by omega) (by omega)
  refine pm_blk hK zmm28 [] 4 16 [(2, 46), (2, 3)] [] (pm_up μ1 46 1 (μ1 3 1)) [sx_bit Wm 46 = true] rfl ⟨hb46, trivial⟩ ?_
  obtain ⟨μ2, eμ2⟩ : ∃ μ', μ' = pm_up μ1 46 1 (μ1 3 1) := ⟨_, rfl⟩
  rw [← eμ2]
  have hTμ2 : zTJ φ μ2 := by rw [eμ2]; exact zT_up hTμ1 zs46_1 rfl (i := 1) (by omega) (by omega) (by omega) (by omega)
  have hk : fa_cf 46 3 2 μ μ2 := fa_cf_s (j := 1) hk eμ2 rfl (by decide)
  have g4 : μ2 3 2 = μ 3 2 := by rw [eμ2, pm_up_off (by decide), eμ1, pm_up_off (by decide)]
  have f5 := zT_get hTμ2 zs3_2 (i := 2) (by omega) (by omega)
  refine pm_blk hK zmm28 [] 4 24 [(2, 46), (2, 3)] [] (pm_up μ2 46 2 (μ2 3 2)) [sx_bit Wm 46 = true] rfl ⟨hb46, trivial⟩ ?_
  obtain ⟨μ3, eμ3⟩ : ∃ μ', μ' = pm_up μ2 46 2 (μ2 3 2) := ⟨_, rfl⟩
  rw [← eμ3]
  have hTμ3 : zTJ φ μ3 := by rw [eμ3]; exact zT_up hTμ2 zs46_2 rfl (i := 2) (by omega) (by omega) (by omega) (by omega)
  have hk : fa_cf 46 3 3 μ μ3 := fa_cf_s (j := 2) hk eμ3 rfl (by decide)
  have g6 : μ3 3 3 = μ 3 3 := by rw [eμ3, pm_up_off (by decide), eμ2, pm_up_off (by decide), eμ1, pm_up_off (by decide)]
  have f7 := zT_get hTμ3 zs3_3 (i := 3) (by omega) (by omega)
  refine pm_blk hK zmm28 [] 4 32 [(2, 46), (2, 3)] [] (pm_up μ3 46 3 (μ3 3 3)) [sx_bit Wm 46 = true] rfl ⟨hb46, trivial⟩ ?_
  obtain ⟨μ4, eμ4⟩ : ∃ μ', μ' = pm_up μ3 46 3 (μ3 3 3) := ⟨_, rfl⟩
  rw [← eμ4]
  have hTμ4 : zTJ φ μ4 := by rw [eμ4]; exact zT_up hTμ3 zs46_3 rfl (i := 3) (by omega) (by omega) (by omega) (by omega)
  have hk : fa_cf 46 3 4 μ μ4 := fa_cf_s (j := 3) hk eμ4 rfl (by decide)
  have g8 : μ4 3 4 = μ 3 4 := by rw [eμ4, pm_up_off (by decide), eμ3, pm_up_off (by decide), eμ2, pm_up_off (by decide), eμ1, pm_up_off (by decide)]
  have f9 := zT_get hTμ4 zs3_4 (i := 4) (by omega) (by omega)
  refine pm_blk hK zmm28 [] 4 40 [(2, 46), (2, 3)] [] (pm_up μ4 46 4 (μ4 3 4)) [sx_bit Wm 46 = true] rfl ⟨hb46, trivial⟩ ?_
  obtain ⟨μ5, eμ5⟩ : ∃ μ', μ' = pm_up μ4 46 4 (μ4 3 4) := ⟨_, rfl⟩
  rw [← eμ5]
  have hTμ5 : zTJ φ μ5 := by rw [eμ5]; exact zT_up hTμ4 zs46_4 rfl (i := 4) (by omega) (by omega) (by omega) (by omega)
  have hk : fa_cf 46 3 5 μ μ5 := fa_cf_s (j := 4) hk eμ5 rfl (by decide)
  have hc := fa_cp_0 hk
  refine pm_blk hK zmm28 [] 4 48 [(2, 46), (2, 3)] [(2, 47), (2, 4)] μ5 [] rfl trivial ?_
  refine pm_call hK zmm28 (91, 1, 29, 2) zM29 (1, 25) [(2, 4), (2, 47)] [] rfl rfl rfl rfl ⟨by omega, by rw [zn29]; omega⟩ (fc_ci47_4 hK hb47 hTμ5 ⟨Nat.le_refl _, Nat.le_refl _⟩) (fun st1 μc1 hp1 => ?_)
  obtain ⟨rfl, hTc1, ec1⟩ := hp1
  have hc : fa_cp 46 3 1 μ μc1 := fa_cp_s (j := 0) hc ec1 rfl rfl (by decide) (by decide) (by decide)
  refine pm_blk hK zmm28 [] 4 59 [(2, 46), (2, 3)] [(2, 48), (2, 5)] μc1 [] rfl trivial ?_
  refine pm_call hK zmm28 (91, 1, 29, 2) zM29 (1, 25) [(2, 5), (2, 48)] [] rfl rfl rfl rfl ⟨by omega, by rw [zn29]; omega⟩ (fc_ci48_5 hK hb48 hTc1 ⟨Nat.le_refl _, Nat.le_refl _⟩) (fun st2 μc2 hp2 => ?_)
  obtain ⟨rfl, hTc2, ec2⟩ := hp2
  have hc : fa_cp 46 3 2 μ μc2 := fa_cp_s (j := 1) hc ec2 rfl rfl (by decide) (by decide) (by decide)
  refine pm_blk hK zmm28 [] 4 70 [(2, 46), (2, 3)] [(2, 49), (2, 6)] μc2 [] rfl trivial ?_
  refine pm_call hK zmm28 (91, 1, 29, 2) zM29 (1, 25) [(2, 6), (2, 49)] [] rfl rfl rfl rfl ⟨by omega, by rw [zn29]; omega⟩ (fc_ci49_6 hK hb49 hTc2 ⟨Nat.le_refl _, Nat.le_refl _⟩) (fun st3 μc3 hp3 => ?_)
  obtain ⟨rfl, hTc3, ec3⟩ := hp3
  have hc : fa_cp 46 3 3 μ μc3 := fa_cp_s (j := 2) hc ec3 rfl rfl (by decide) (by decide) (by decide)
  refine pm_blk hK zmm28 [] 4 81 [(2, 46), (2, 3)] [(2, 50), (2, 7)] μc3 [] rfl trivial ?_
  refine pm_call hK zmm28 (91, 1, 29, 2) zM29 (1, 25) [(2, 7), (2, 50)] [] rfl rfl rfl rfl ⟨by omega, by rw [zn29]; omega⟩ (fc_ci50_7 hK hb50 hTc3 ⟨Nat.le_refl _, Nat.le_refl _⟩) (fun st4 μc4 hp4 => ?_)
  obtain ⟨rfl, hTc4, ec4⟩ := hp4
  have hc : fa_cp 46 3 4 μ μc4 := fa_cp_s (j := 3) hc ec4 rfl rfl (by decide) (by decide) (by decide)
  refine pm_blk hK zmm28 [] 4 92 [(2, 46), (2, 3)] [(2, 51), (2, 8)] μc4 [] rfl trivial ?_
  refine pm_call hK zmm28 (91, 1, 29, 2) zM29 (1, 25) [(2, 8), (2, 51)] [] rfl rfl rfl rfl ⟨by omega, by rw [zn29]; omega⟩ (fc_ci51_8 hK hb51 hTc4 ⟨Nat.le_refl _, Nat.le_refl _⟩) (fun st5 μc5 hp5 => ?_)
  obtain ⟨rfl, hTc5, ec5⟩ := hp5
  have hc : fa_cp 46 3 5 μ μc5 := fa_cp_s (j := 4) hc ec5 rfl rfl (by decide) (by decide) (by decide)
  refine pm_blk hK zmm28 [] 4 103 [(2, 46), (2, 3)] [(2, 52), (2, 9)] μc5 [] rfl trivial ?_
  refine pm_call hK zmm28 (91, 1, 29, 2) zM29 (1, 25) [(2, 9), (2, 52)] [] rfl rfl rfl rfl ⟨by omega, by rw [zn29]; omega⟩ (fc_ci52_9 hK hb52 hTc5 ⟨Nat.le_refl _, Nat.le_refl _⟩) (fun st6 μc6 hp6 => ?_)
  obtain ⟨rfl, hTc6, ec6⟩ := hp6
  have hc : fa_cp 46 3 6 μ μc6 := fa_cp_s (j := 5) hc ec6 rfl rfl (by decide) (by decide) (by decide)
  refine pm_blk hK zmm28 [] 4 114 [(2, 46), (2, 3)] [(2, 53), (2, 10)] μc6 [] rfl trivial ?_
  refine pm_call hK zmm28 (91, 1, 29, 2) zM29 (1, 25) [(2, 10), (2, 53)] [] rfl rfl rfl rfl ⟨by omega, by rw [zn29]; omega⟩ (fc_ci53_10 hK hb53 hTc6 ⟨Nat.le_refl _, Nat.le_refl _⟩) (fun st7 μc7 hp7 => ?_)
  obtain ⟨rfl, hTc7, ec7⟩ := hp7
  have hc : fa_cp 46 3 7 μ μc7 := fa_cp_s (j := 6) hc ec7 rfl rfl (by decide) (by decide) (by decide)
  refine pm_blk hK zmm28 [] 4 125 [(2, 46), (2, 3)] [(2, 54), (2, 11)] μc7 [] rfl trivial ?_
  refine pm_call hK zmm28 (91, 1, 29, 2) zM29 (1, 25) [(2, 11), (2, 54)] [] rfl rfl rfl rfl ⟨by omega, by rw [zn29]; omega⟩ (fc_ci54_11 hK hb54 hTc7 ⟨Nat.le_refl _, Nat.le_refl _⟩) (fun st8 μc8 hp8 => ?_)
  obtain ⟨rfl, hTc8, ec8⟩ := hp8
  have hc : fa_cp 46 3 8 μ μc8 := fa_cp_s (j := 7) hc ec8 rfl rfl (by decide) (by decide) (by decide)
  refine pm_blk hK zmm28 [] 4 136 [(2, 46), (2, 3)] [(2, 55), (2, 12)] μc8 [] rfl trivial ?_
  refine pm_call hK zmm28 (91, 1, 29, 2) zM29 (1, 25) [(2, 12), (2, 55)] [] rfl rfl rfl rfl ⟨by omega, by rw [zn29]; omega⟩ (fc_ci55_12 hK hb55 hTc8 ⟨Nat.le_refl _, Nat.le_refl _⟩) (fun st9 μc9 hp9 => ?_)
  obtain ⟨rfl, hTc9, ec9⟩ := hp9
  have hc : fa_cp 46 3 9 μ μc9 := fa_cp_s (j := 8) hc ec9 rfl rfl (by decide) (by decide) (by decide)
  refine pm_blk hK zmm28 [] 4 147 [(2, 46), (2, 3)] [(2, 56), (2, 13)] μc9 [] rfl trivial ?_
  refine pm_call hK zmm28 (91, 1, 29, 2) zM29 (1, 25) [(2, 13), (2, 56)] [] rfl rfl rfl rfl ⟨by omega, by rw [zn29]; omega⟩ (fc_ci56_13 hK hb56 hTc9 ⟨Nat.le_refl _, Nat.le_refl _⟩) (fun st10 μc10 hp10 => ?_)
  obtain ⟨rfl, hTc10, ec10⟩ := hp10
  have hc : fa_cp 46 3 10 μ μc10 := fa_cp_s (j := 9) hc ec10 rfl rfl (by decide) (by decide) (by decide)
  refine pm_blk hK zmm28 [] 4 158 [(2, 46), (2, 3)] [(2, 57), (2, 14)] μc10 [] rfl trivial ?_
  refine pm_call hK zmm28 (91, 1, 29, 2) zM29 (1, 25) [(2, 14), (2, 57)] [] rfl rfl rfl rfl ⟨by omega, by rw [zn29]; omega⟩ (fc_ci57_14 hK hb57 hTc10 ⟨Nat.le_refl _, Nat.le_refl _⟩) (fun st11 μc11 hp11 => ?_)
  obtain ⟨rfl, hTc11, ec11⟩ := hp11
  have hc : fa_cp 46 3 11 μ μc11 := fa_cp_s (j := 10) hc ec11 rfl rfl (by decide) (by decide) (by decide)
  refine pm_blk hK zmm28 [] 4 169 [(2, 46), (2, 3)] [(2, 58), (2, 15)] μc11 [] rfl trivial ?_
  refine pm_call hK zmm28 (91, 1, 29, 2) zM29 (1, 25) [(2, 15), (2, 58)] [] rfl rfl rfl rfl ⟨by omega, by rw [zn29]; omega⟩ (fc_ci58_15 hK hb58 hTc11 ⟨Nat.le_refl _, Nat.le_refl _⟩) (fun st12 μc12 hp12 => ?_)
  obtain ⟨rfl, hTc12, ec12⟩ := hp12
  have hc : fa_cp 46 3 12 μ μc12 := fa_cp_s (j := 11) hc ec12 rfl rfl (by decide) (by decide) (by decide)
  exact pm_vret rfl rfl ⟨rfl, hTc12, hc⟩
set_option maxRecDepth 100000 in
theorem fc_ci4_100 (hK : zKK ST) (hb4 : sx_bit Wm 4 = true) (hT : zTJ φ μ) (hbd : 1 ≤ bud.1 ∧ 25 ≤ bud.2.1) : zC D Wm ST b0 l Sg zM29 bud [(2, 100), (2, 4)] μ (fun st' μ' => st' = [] ∧ zTJ φ μ' ∧ μ' = pm_cpy μ 4 100 12) := by
  refine pm_blk hK zmm29 [] 8 8 [(2, 100), (2, 4)] [(0, 12), (0, 12), (0, 0), (2, 4), (0, 0), (2, 100)] μ [] rfl trivial ?_
  refine pm_call hK zmm29 (427, 1, 30, 2) zM30 (0, 0) [(0, 12), (0, 12)] [(0, 0), (2, 4), (0, 0), (2, 100)] rfl rfl rfl rfl ⟨by omega, by rw [zn30]; omega⟩ (zh_min hK ⟨Nat.le_refl _, Nat.le_refl _⟩) (fun st1 μc1 hp1 => ?_)
  obtain ⟨rfl, rfl⟩ := hp1
  refine zp_acw hK zmm29 (idx := 432) (r := 4) (r' := 100) (n := 12) (g := zG4) (g' := zG100) (t := (0, -1, 999)) (t' := (0, -1, 999)) (List.mem_of_getElem? (i := 0) rfl) rfl rfl rfl ⟨rfl, rfl, rfl, rfl⟩ ⟨rfl, rfl, rfl⟩ hb4 ⟨by omega, by have h9 : pm_cs [] = 0 := rfl; omega⟩ (by decide) ?_
  exact pm_vret rfl rfl ⟨rfl, zTJ_cpy hT (t := (0, -1, 999)) (g := zG4) (g' := zG100) rfl rfl (by decide) ⟨by decide, rfl⟩ ⟨by decide, rfl, rfl⟩ rfl rfl, rfl⟩
set_option maxRecDepth 100000 in
theorem fc_ci5_101 (hK : zKK ST) (hb5 : sx_bit Wm 5 = true) (hT : zTJ φ μ) (hbd : 1 ≤ bud.1 ∧ 25 ≤ bud.2.1) : zC D Wm ST b0 l Sg zM29 bud [(2, 101), (2, 5)] μ (fun st' μ' => st' = [] ∧ zTJ φ μ' ∧ μ' = pm_cpy μ 5 101 12) := by
  refine pm_blk hK zmm29 [] 8 8 [(2, 101), (2, 5)] [(0, 12), (0, 12), (0, 0), (2, 5), (0, 0), (2, 101)] μ [] rfl trivial ?_
  refine pm_call hK zmm29 (427, 1, 30, 2) zM30 (0, 0) [(0, 12), (0, 12)] [(0, 0), (2, 5), (0, 0), (2, 101)] rfl rfl rfl rfl ⟨by omega, by rw [zn30]; omega⟩ (zh_min hK ⟨Nat.le_refl _, Nat.le_refl _⟩) (fun st1 μc1 hp1 => ?_)
  obtain ⟨rfl, rfl⟩ := hp1
  refine zp_acw hK zmm29 (idx := 432) (r := 5) (r' := 101) (n := 12) (g := zG5) (g' := zG101) (t := (0, -1, 999)) (t' := (0, -1, 999)) (List.mem_of_getElem? (i := 0) rfl) rfl rfl rfl ⟨rfl, rfl, rfl, rfl⟩ ⟨rfl, rfl, rfl⟩ hb5 ⟨by omega, by have h9 : pm_cs [] = 0 := rfl; omega⟩ (by decide) ?_
  exact pm_vret rfl rfl ⟨rfl, zTJ_cpy hT (t := (0, -1, 999)) (g := zG5) (g' := zG101) rfl rfl (by decide) ⟨by decide, rfl⟩ ⟨by decide, rfl, rfl⟩ rfl rfl, rfl⟩
set_option maxRecDepth 100000 in
theorem fc_ci6_102 (hK : zKK ST) (hb6 : sx_bit Wm 6 = true) (hT : zTJ φ μ) (hbd : 1 ≤ bud.1 ∧ 25 ≤ bud.2.1) : zC D Wm ST b0 l Sg zM29 bud [(2, 102), (2, 6)] μ (fun st' μ' => st' = [] ∧ zTJ φ μ' ∧ μ' = pm_cpy μ 6 102 12) := by
  refine pm_blk hK zmm29 [] 8 8 [(2, 102), (2, 6)] [(0, 12), (0, 12), (0, 0), (2, 6), (0, 0), (2, 102)] μ [] rfl trivial ?_
  refine pm_call hK zmm29 (427, 1, 30, 2) zM30 (0, 0) [(0, 12), (0, 12)] [(0, 0), (2, 6), (0, 0), (2, 102)] rfl rfl rfl rfl ⟨by omega, by rw [zn30]; omega⟩ (zh_min hK ⟨Nat.le_refl _, Nat.le_refl _⟩) (fun st1 μc1 hp1 => ?_)
  obtain ⟨rfl, rfl⟩ := hp1
  refine zp_acw hK zmm29 (idx := 432) (r := 6) (r' := 102) (n := 12) (g := zG6) (g' := zG102) (t := (0, -2147483648, 2147483647)) (t' := (0, -2147483648, 2147483647)) (List.mem_of_getElem? (i := 0) rfl) rfl rfl rfl ⟨rfl, rfl, rfl, rfl⟩ ⟨rfl, rfl, rfl⟩ hb6 ⟨by omega, by have h9 : pm_cs [] = 0 := rfl; omega⟩ (by decide) ?_
  exact pm_vret rfl rfl ⟨rfl, zTJ_cpy hT (t := (0, -2147483648, 2147483647)) (g := zG6) (g' := zG102) rfl rfl (by decide) ⟨by decide, rfl⟩ ⟨by decide, rfl, rfl⟩ rfl rfl, rfl⟩
set_option maxRecDepth 100000 in
theorem fc_ci7_103 (hK : zKK ST) (hb7 : sx_bit Wm 7 = true) (hT : zTJ φ μ) (hbd : 1 ≤ bud.1 ∧ 25 ≤ bud.2.1) : zC D Wm ST b0 l Sg zM29 bud [(2, 103), (2, 7)] μ (fun st' μ' => st' = [] ∧ zTJ φ μ' ∧ μ' = pm_cpy μ 7 103 12) := by
  refine pm_blk hK zmm29 [] 8 8 [(2, 103), (2, 7)] [(0, 12), (0, 12), (0, 0), (2, 7), (0, 0), (2, 103)] μ [] rfl trivial ?_
  refine pm_call hK zmm29 (427, 1, 30, 2) zM30 (0, 0) [(0, 12), (0, 12)] [(0, 0), (2, 7), (0, 0), (2, 103)] rfl rfl rfl rfl ⟨by omega, by rw [zn30]; omega⟩ (zh_min hK ⟨Nat.le_refl _, Nat.le_refl _⟩) (fun st1 μc1 hp1 => ?_)
  obtain ⟨rfl, rfl⟩ := hp1
  refine zp_acw hK zmm29 (idx := 432) (r := 7) (r' := 103) (n := 12) (g := zG7) (g' := zG103) (t := (0, 0, 1)) (t' := (0, 0, 1)) (List.mem_of_getElem? (i := 0) rfl) rfl rfl rfl ⟨rfl, rfl, rfl, rfl⟩ ⟨rfl, rfl, rfl⟩ hb7 ⟨by omega, by have h9 : pm_cs [] = 0 := rfl; omega⟩ (by decide) ?_
  exact pm_vret rfl rfl ⟨rfl, zTJ_cpy hT (t := (0, 0, 1)) (g := zG7) (g' := zG103) rfl rfl (by decide) ⟨by decide, rfl⟩ ⟨by decide, rfl, rfl⟩ rfl rfl, rfl⟩
set_option maxRecDepth 100000 in
theorem fc_ci8_104 (hK : zKK ST) (hb8 : sx_bit Wm 8 = true) (hT : zTJ φ μ) (hbd : 1 ≤ bud.1 ∧ 25 ≤ bud.2.1) : zC D Wm ST b0 l Sg zM29 bud [(2, 104), (2, 8)] μ (fun st' μ' => st' = [] ∧ zTJ φ μ' ∧ μ' = pm_cpy μ 8 104 12) := by
  refine pm_blk hK zmm29 [] 8 8 [(2, 104), (2, 8)] [(0, 12), (0, 12), (0, 0), (2, 8), (0, 0), (2, 104)] μ [] rfl trivial ?_
  refine pm_call hK zmm29 (427, 1, 30, 2) zM30 (0, 0) [(0, 12), (0, 12)] [(0, 0), (2, 8), (0, 0), (2, 104)] rfl rfl rfl rfl ⟨by omega, by rw [zn30]; omega⟩ (zh_min hK ⟨Nat.le_refl _, Nat.le_refl _⟩) (fun st1 μc1 hp1 => ?_)
  obtain ⟨rfl, rfl⟩ := hp1
  refine zp_acw hK zmm29 (idx := 432) (r := 8) (r' := 104) (n := 12) (g := zG8) (g' := zG104) (t := (0, -1, 17)) (t' := (0, -1, 17)) (List.mem_of_getElem? (i := 0) rfl) rfl rfl rfl ⟨rfl, rfl, rfl, rfl⟩ ⟨rfl, rfl, rfl⟩ hb8 ⟨by omega, by have h9 : pm_cs [] = 0 := rfl; omega⟩ (by decide) ?_
  exact pm_vret rfl rfl ⟨rfl, zTJ_cpy hT (t := (0, -1, 17)) (g := zG8) (g' := zG104) rfl rfl (by decide) ⟨by decide, rfl⟩ ⟨by decide, rfl, rfl⟩ rfl rfl, rfl⟩
set_option maxRecDepth 100000 in
theorem fc_ci9_105 (hK : zKK ST) (hb9 : sx_bit Wm 9 = true) (hT : zTJ φ μ) (hbd : 1 ≤ bud.1 ∧ 25 ≤ bud.2.1) : zC D Wm ST b0 l Sg zM29 bud [(2, 105), (2, 9)] μ (fun st' μ' => st' = [] ∧ zTJ φ μ' ∧ μ' = pm_cpy μ 9 105 12) := by
  refine pm_blk hK zmm29 [] 8 8 [(2, 105), (2, 9)] [(0, 12), (0, 12), (0, 0), (2, 9), (0, 0), (2, 105)] μ [] rfl trivial ?_
  refine pm_call hK zmm29 (427, 1, 30, 2) zM30 (0, 0) [(0, 12), (0, 12)] [(0, 0), (2, 9), (0, 0), (2, 105)] rfl rfl rfl rfl ⟨by omega, by rw [zn30]; omega⟩ (zh_min hK ⟨Nat.le_refl _, Nat.le_refl _⟩) (fun st1 μc1 hp1 => ?_)
  obtain ⟨rfl, rfl⟩ := hp1
  refine zp_acw hK zmm29 (idx := 432) (r := 9) (r' := 105) (n := 12) (g := zG9) (g' := zG105) (t := (0, -1, 17)) (t' := (0, -1, 17)) (List.mem_of_getElem? (i := 0) rfl) rfl rfl rfl ⟨rfl, rfl, rfl, rfl⟩ ⟨rfl, rfl, rfl⟩ hb9 ⟨by omega, by have h9 : pm_cs [] = 0 := rfl; omega⟩ (by decide) ?_
  exact pm_vret rfl rfl ⟨rfl, zTJ_cpy hT (t := (0, -1, 17)) (g := zG9) (g' := zG105) rfl rfl (by decide) ⟨by decide, rfl⟩ ⟨by decide, rfl, rfl⟩ rfl rfl, rfl⟩
set_option maxRecDepth 100000 in
theorem fc_ci10_106 (hK : zKK ST) (hb10 : sx_bit Wm 10 = true) (hT : zTJ φ μ) (hbd : 1 ≤ bud.1 ∧ 25 ≤ bud.2.1) : zC D Wm ST b0 l Sg zM29 bud [(2, 106), (2, 10)] μ (fun st' μ' => st' = [] ∧ zTJ φ μ' ∧ μ' = pm_cpy μ 10 106 12) := by
  refine pm_blk hK zmm29 [] 8 8 [(2, 106), (2, 10)] [(0, 12), (0, 12), (0, 0), (2, 10), (0, 0), (2, 106)] μ [] rfl trivial ?_
  refine pm_call hK zmm29 (427, 1, 30, 2) zM30 (0, 0) [(0, 12), (0, 12)] [(0, 0), (2, 10), (0, 0), (2, 106)] rfl rfl rfl rfl ⟨by omega, by rw [zn30]; omega⟩ (zh_min hK ⟨Nat.le_refl _, Nat.le_refl _⟩) (fun st1 μc1 hp1 => ?_)
  obtain ⟨rfl, rfl⟩ := hp1
  refine zp_acw hK zmm29 (idx := 432) (r := 10) (r' := 106) (n := 12) (g := zG10) (g' := zG106) (t := (0, -2147483648, 2147483647)) (t' := (0, -2147483648, 2147483647)) (List.mem_of_getElem? (i := 0) rfl) rfl rfl rfl ⟨rfl, rfl, rfl, rfl⟩ ⟨rfl, rfl, rfl⟩ hb10 ⟨by omega, by have h9 : pm_cs [] = 0 := rfl; omega⟩ (by decide) ?_
  exact pm_vret rfl rfl ⟨rfl, zTJ_cpy hT (t := (0, -2147483648, 2147483647)) (g := zG10) (g' := zG106) rfl rfl (by decide) ⟨by decide, rfl⟩ ⟨by decide, rfl, rfl⟩ rfl rfl, rfl⟩
set_option maxRecDepth 100000 in
theorem fc_ci11_107 (hK : zKK ST) (hb11 : sx_bit Wm 11 = true) (hT : zTJ φ μ) (hbd : 1 ≤ bud.1 ∧ 25 ≤ bud.2.1) : zC D Wm ST b0 l Sg zM29 bud [(2, 107), (2, 11)] μ (fun st' μ' => st' = [] ∧ zTJ φ μ' ∧ μ' = pm_cpy μ 11 107 18) := by
  refine pm_blk hK zmm29 [] 8 8 [(2, 107), (2, 11)] [(0, 18), (0, 18), (0, 0), (2, 11), (0, 0), (2, 107)] μ [] rfl trivial ?_
  refine pm_call hK zmm29 (427, 1, 30, 2) zM30 (0, 0) [(0, 18), (0, 18)] [(0, 0), (2, 11), (0, 0), (2, 107)] rfl rfl rfl rfl ⟨by omega, by rw [zn30]; omega⟩ (zh_min hK ⟨Nat.le_refl _, Nat.le_refl _⟩) (fun st1 μc1 hp1 => ?_)
  obtain ⟨rfl, rfl⟩ := hp1
  refine zp_acw hK zmm29 (idx := 432) (r := 11) (r' := 107) (n := 18) (g := zG11) (g' := zG107) (t := (0, -2147483648, 9999)) (t' := (0, -2147483648, 9999)) (List.mem_of_getElem? (i := 0) rfl) rfl rfl rfl ⟨rfl, rfl, rfl, rfl⟩ ⟨rfl, rfl, rfl⟩ hb11 ⟨by omega, by have h9 : pm_cs [] = 0 := rfl; omega⟩ (by decide) ?_
  exact pm_vret rfl rfl ⟨rfl, zTJ_cpy hT (t := (0, -2147483648, 9999)) (g := zG11) (g' := zG107) rfl rfl (by decide) ⟨by decide, rfl⟩ ⟨by decide, rfl, rfl⟩ rfl rfl, rfl⟩
set_option maxRecDepth 100000 in
theorem fc_ci12_108 (hK : zKK ST) (hb12 : sx_bit Wm 12 = true) (hT : zTJ φ μ) (hbd : 1 ≤ bud.1 ∧ 25 ≤ bud.2.1) : zC D Wm ST b0 l Sg zM29 bud [(2, 108), (2, 12)] μ (fun st' μ' => st' = [] ∧ zTJ φ μ' ∧ μ' = pm_cpy μ 12 108 18) := by
  refine pm_blk hK zmm29 [] 8 8 [(2, 108), (2, 12)] [(0, 18), (0, 18), (0, 0), (2, 12), (0, 0), (2, 108)] μ [] rfl trivial ?_
  refine pm_call hK zmm29 (427, 1, 30, 2) zM30 (0, 0) [(0, 18), (0, 18)] [(0, 0), (2, 12), (0, 0), (2, 108)] rfl rfl rfl rfl ⟨by omega, by rw [zn30]; omega⟩ (zh_min hK ⟨Nat.le_refl _, Nat.le_refl _⟩) (fun st1 μc1 hp1 => ?_)
  obtain ⟨rfl, rfl⟩ := hp1
  refine zp_acw hK zmm29 (idx := 432) (r := 12) (r' := 108) (n := 18) (g := zG12) (g' := zG108) (t := (0, 0, 9)) (t' := (0, 0, 9)) (List.mem_of_getElem? (i := 0) rfl) rfl rfl rfl ⟨rfl, rfl, rfl, rfl⟩ ⟨rfl, rfl, rfl⟩ hb12 ⟨by omega, by have h9 : pm_cs [] = 0 := rfl; omega⟩ (by decide) ?_
  exact pm_vret rfl rfl ⟨rfl, zTJ_cpy hT (t := (0, 0, 9)) (g := zG12) (g' := zG108) rfl rfl (by decide) ⟨by decide, rfl⟩ ⟨by decide, rfl, rfl⟩ rfl rfl, rfl⟩
set_option maxRecDepth 100000 in
theorem fc_ci13_109 (hK : zKK ST) (hb13 : sx_bit Wm 13 = true) (hT : zTJ φ μ) (hbd : 1 ≤ bud.1 ∧ 25 ≤ bud.2.1) : zC D Wm ST b0 l Sg zM29 bud [(2, 109), (2, 13)] μ (fun st' μ' => st' = [] ∧ zTJ φ μ' ∧ μ' = pm_cpy μ 13 109 18) := by
  refine pm_blk hK zmm29 [] 8 8 [(2, 109), (2, 13)] [(0, 18), (0, 18), (0, 0), (2, 13), (0, 0), (2, 109)] μ [] rfl trivial ?_
  refine pm_call hK zmm29 (427, 1, 30, 2) zM30 (0, 0) [(0, 18), (0, 18)] [(0, 0), (2, 13), (0, 0), (2, 109)] rfl rfl rfl rfl ⟨by omega, by rw [zn30]; omega⟩ (zh_min hK ⟨Nat.le_refl _, Nat.le_refl _⟩) (fun st1 μc1 hp1 => ?_)
  obtain ⟨rfl, rfl⟩ := hp1
  refine zp_acw hK zmm29 (idx := 432) (r := 13) (r' := 109) (n := 18) (g := zG13) (g' := zG109) (t := (0, -1, 11)) (t' := (0, -1, 11)) (List.mem_of_getElem? (i := 0) rfl) rfl rfl rfl ⟨rfl, rfl, rfl, rfl⟩ ⟨rfl, rfl, rfl⟩ hb13 ⟨by omega, by have h9 : pm_cs [] = 0 := rfl; omega⟩ (by decide) ?_
  exact pm_vret rfl rfl ⟨rfl, zTJ_cpy hT (t := (0, -1, 11)) (g := zG13) (g' := zG109) rfl rfl (by decide) ⟨by decide, rfl⟩ ⟨by decide, rfl, rfl⟩ rfl rfl, rfl⟩
set_option maxRecDepth 100000 in
theorem fc_ci14_110 (hK : zKK ST) (hb14 : sx_bit Wm 14 = true) (hT : zTJ φ μ) (hbd : 1 ≤ bud.1 ∧ 25 ≤ bud.2.1) : zC D Wm ST b0 l Sg zM29 bud [(2, 110), (2, 14)] μ (fun st' μ' => st' = [] ∧ zTJ φ μ' ∧ μ' = pm_cpy μ 14 110 18) := by
  refine pm_blk hK zmm29 [] 8 8 [(2, 110), (2, 14)] [(0, 18), (0, 18), (0, 0), (2, 14), (0, 0), (2, 110)] μ [] rfl trivial ?_
  refine pm_call hK zmm29 (427, 1, 30, 2) zM30 (0, 0) [(0, 18), (0, 18)] [(0, 0), (2, 14), (0, 0), (2, 110)] rfl rfl rfl rfl ⟨by omega, by rw [zn30]; omega⟩ (zh_min hK ⟨Nat.le_refl _, Nat.le_refl _⟩) (fun st1 μc1 hp1 => ?_)
  obtain ⟨rfl, rfl⟩ := hp1
  refine zp_acw hK zmm29 (idx := 432) (r := 14) (r' := 110) (n := 18) (g := zG14) (g' := zG110) (t := (0, -2147483648, 2147483647)) (t' := (0, -2147483648, 2147483647)) (List.mem_of_getElem? (i := 0) rfl) rfl rfl rfl ⟨rfl, rfl, rfl, rfl⟩ ⟨rfl, rfl, rfl⟩ hb14 ⟨by omega, by have h9 : pm_cs [] = 0 := rfl; omega⟩ (by decide) ?_
  exact pm_vret rfl rfl ⟨rfl, zTJ_cpy hT (t := (0, -2147483648, 2147483647)) (g := zG14) (g' := zG110) rfl rfl (by decide) ⟨by decide, rfl⟩ ⟨by decide, rfl, rfl⟩ rfl rfl, rfl⟩
set_option maxRecDepth 100000 in
theorem fc_ci15_111 (hK : zKK ST) (hb15 : sx_bit Wm 15 = true) (hT : zTJ φ μ) (hbd : 1 ≤ bud.1 ∧ 25 ≤ bud.2.1) : zC D Wm ST b0 l Sg zM29 bud [(2, 111), (2, 15)] μ (fun st' μ' => st' = [] ∧ zTJ φ μ' ∧ μ' = pm_cpy μ 15 111 18) := by
  refine pm_blk hK zmm29 [] 8 8 [(2, 111), (2, 15)] [(0, 18), (0, 18), (0, 0), (2, 15), (0, 0), (2, 111)] μ [] rfl trivial ?_
  refine pm_call hK zmm29 (427, 1, 30, 2) zM30 (0, 0) [(0, 18), (0, 18)] [(0, 0), (2, 15), (0, 0), (2, 111)] rfl rfl rfl rfl ⟨by omega, by rw [zn30]; omega⟩ (zh_min hK ⟨Nat.le_refl _, Nat.le_refl _⟩) (fun st1 μc1 hp1 => ?_)
  obtain ⟨rfl, rfl⟩ := hp1
  refine zp_acw hK zmm29 (idx := 432) (r := 15) (r' := 111) (n := 18) (g := zG15) (g' := zG111) (t := (0, -2147483648, 2147483647)) (t' := (0, -2147483648, 2147483647)) (List.mem_of_getElem? (i := 0) rfl) rfl rfl rfl ⟨rfl, rfl, rfl, rfl⟩ ⟨rfl, rfl, rfl⟩ hb15 ⟨by omega, by have h9 : pm_cs [] = 0 := rfl; omega⟩ (by decide) ?_
  exact pm_vret rfl rfl ⟨rfl, zTJ_cpy hT (t := (0, -2147483648, 2147483647)) (g := zG15) (g' := zG111) rfl rfl (by decide) ⟨by decide, rfl⟩ ⟨by decide, rfl, rfl⟩ rfl rfl, rfl⟩
set_option maxRecDepth 100000 in
theorem fc_ci4_113 (hK : zKK ST) (hb4 : sx_bit Wm 4 = true) (hT : zTJ φ μ) (hbd : 1 ≤ bud.1 ∧ 25 ≤ bud.2.1) : zC D Wm ST b0 l Sg zM29 bud [(2, 113), (2, 4)] μ (fun st' μ' => st' = [] ∧ zTJ φ μ' ∧ μ' = pm_cpy μ 4 113 12) := by
  refine pm_blk hK zmm29 [] 8 8 [(2, 113), (2, 4)] [(0, 12), (0, 12), (0, 0), (2, 4), (0, 0), (2, 113)] μ [] rfl trivial ?_
  refine pm_call hK zmm29 (427, 1, 30, 2) zM30 (0, 0) [(0, 12), (0, 12)] [(0, 0), (2, 4), (0, 0), (2, 113)] rfl rfl rfl rfl ⟨by omega, by rw [zn30]; omega⟩ (zh_min hK ⟨Nat.le_refl _, Nat.le_refl _⟩) (fun st1 μc1 hp1 => ?_)
  obtain ⟨rfl, rfl⟩ := hp1
  refine zp_acw hK zmm29 (idx := 432) (r := 4) (r' := 113) (n := 12) (g := zG4) (g' := zG113) (t := (0, -1, 999)) (t' := (0, -1, 999)) (List.mem_of_getElem? (i := 0) rfl) rfl rfl rfl ⟨rfl, rfl, rfl, rfl⟩ ⟨rfl, rfl, rfl⟩ hb4 ⟨by omega, by have h9 : pm_cs [] = 0 := rfl; omega⟩ (by decide) ?_
  exact pm_vret rfl rfl ⟨rfl, zTJ_cpy hT (t := (0, -1, 999)) (g := zG4) (g' := zG113) rfl rfl (by decide) ⟨by decide, rfl⟩ ⟨by decide, rfl, rfl⟩ rfl rfl, rfl⟩
set_option maxRecDepth 100000 in
theorem fc_ci5_114 (hK : zKK ST) (hb5 : sx_bit Wm 5 = true) (hT : zTJ φ μ) (hbd : 1 ≤ bud.1 ∧ 25 ≤ bud.2.1) : zC D Wm ST b0 l Sg zM29 bud [(2, 114), (2, 5)] μ (fun st' μ' => st' = [] ∧ zTJ φ μ' ∧ μ' = pm_cpy μ 5 114 12) := by
  refine pm_blk hK zmm29 [] 8 8 [(2, 114), (2, 5)] [(0, 12), (0, 12), (0, 0), (2, 5), (0, 0), (2, 114)] μ [] rfl trivial ?_
  refine pm_call hK zmm29 (427, 1, 30, 2) zM30 (0, 0) [(0, 12), (0, 12)] [(0, 0), (2, 5), (0, 0), (2, 114)] rfl rfl rfl rfl ⟨by omega, by rw [zn30]; omega⟩ (zh_min hK ⟨Nat.le_refl _, Nat.le_refl _⟩) (fun st1 μc1 hp1 => ?_)
  obtain ⟨rfl, rfl⟩ := hp1
  refine zp_acw hK zmm29 (idx := 432) (r := 5) (r' := 114) (n := 12) (g := zG5) (g' := zG114) (t := (0, -1, 999)) (t' := (0, -1, 999)) (List.mem_of_getElem? (i := 0) rfl) rfl rfl rfl ⟨rfl, rfl, rfl, rfl⟩ ⟨rfl, rfl, rfl⟩ hb5 ⟨by omega, by have h9 : pm_cs [] = 0 := rfl; omega⟩ (by decide) ?_
  exact pm_vret rfl rfl ⟨rfl, zTJ_cpy hT (t := (0, -1, 999)) (g := zG5) (g' := zG114) rfl rfl (by decide) ⟨by decide, rfl⟩ ⟨by decide, rfl, rfl⟩ rfl rfl, rfl⟩
set_option maxRecDepth 100000 in
theorem fc_ci6_115 (hK : zKK ST) (hb6 : sx_bit Wm 6 = true) (hT : zTJ φ μ) (hbd : 1 ≤ bud.1 ∧ 25 ≤ bud.2.1) : zC D Wm ST b0 l Sg zM29 bud [(2, 115), (2, 6)] μ (fun st' μ' => st' = [] ∧ zTJ φ μ' ∧ μ' = pm_cpy μ 6 115 12) := by
  refine pm_blk hK zmm29 [] 8 8 [(2, 115), (2, 6)] [(0, 12), (0, 12), (0, 0), (2, 6), (0, 0), (2, 115)] μ [] rfl trivial ?_
  refine pm_call hK zmm29 (427, 1, 30, 2) zM30 (0, 0) [(0, 12), (0, 12)] [(0, 0), (2, 6), (0, 0), (2, 115)] rfl rfl rfl rfl ⟨by omega, by rw [zn30]; omega⟩ (zh_min hK ⟨Nat.le_refl _, Nat.le_refl _⟩) (fun st1 μc1 hp1 => ?_)
  obtain ⟨rfl, rfl⟩ := hp1
  refine zp_acw hK zmm29 (idx := 432) (r := 6) (r' := 115) (n := 12) (g := zG6) (g' := zG115) (t := (0, -2147483648, 2147483647)) (t' := (0, -2147483648, 2147483647)) (List.mem_of_getElem? (i := 0) rfl) rfl rfl rfl ⟨rfl, rfl, rfl, rfl⟩ ⟨rfl, rfl, rfl⟩ hb6 ⟨by omega, by have h9 : pm_cs [] = 0 := rfl; omega⟩ (by decide) ?_
  exact pm_vret rfl rfl ⟨rfl, zTJ_cpy hT (t := (0, -2147483648, 2147483647)) (g := zG6) (g' := zG115) rfl rfl (by decide) ⟨by decide, rfl⟩ ⟨by decide, rfl, rfl⟩ rfl rfl, rfl⟩
set_option maxRecDepth 100000 in
theorem fc_ci7_116 (hK : zKK ST) (hb7 : sx_bit Wm 7 = true) (hT : zTJ φ μ) (hbd : 1 ≤ bud.1 ∧ 25 ≤ bud.2.1) : zC D Wm ST b0 l Sg zM29 bud [(2, 116), (2, 7)] μ (fun st' μ' => st' = [] ∧ zTJ φ μ' ∧ μ' = pm_cpy μ 7 116 12) := by
  refine pm_blk hK zmm29 [] 8 8 [(2, 116), (2, 7)] [(0, 12), (0, 12), (0, 0), (2, 7), (0, 0), (2, 116)] μ [] rfl trivial ?_
  refine pm_call hK zmm29 (427, 1, 30, 2) zM30 (0, 0) [(0, 12), (0, 12)] [(0, 0), (2, 7), (0, 0), (2, 116)] rfl rfl rfl rfl ⟨by omega, by rw [zn30]; omega⟩ (zh_min hK ⟨Nat.le_refl _, Nat.le_refl _⟩) (fun st1 μc1 hp1 => ?_)
  obtain ⟨rfl, rfl⟩ := hp1
  refine zp_acw hK zmm29 (idx := 432) (r := 7) (r' := 116) (n := 12) (g := zG7) (g' := zG116) (t := (0, 0, 1)) (t' := (0, 0, 1)) (List.mem_of_getElem? (i := 0) rfl) rfl rfl rfl ⟨rfl, rfl, rfl, rfl⟩ ⟨rfl, rfl, rfl⟩ hb7 ⟨by omega, by have h9 : pm_cs [] = 0 := rfl; omega⟩ (by decide) ?_
  exact pm_vret rfl rfl ⟨rfl, zTJ_cpy hT (t := (0, 0, 1)) (g := zG7) (g' := zG116) rfl rfl (by decide) ⟨by decide, rfl⟩ ⟨by decide, rfl, rfl⟩ rfl rfl, rfl⟩
set_option maxRecDepth 100000 in
theorem fc_ci8_117 (hK : zKK ST) (hb8 : sx_bit Wm 8 = true) (hT : zTJ φ μ) (hbd : 1 ≤ bud.1 ∧ 25 ≤ bud.2.1) : zC D Wm ST b0 l Sg zM29 bud [(2, 117), (2, 8)] μ (fun st' μ' => st' = [] ∧ zTJ φ μ' ∧ μ' = pm_cpy μ 8 117 12) := by
  refine pm_blk hK zmm29 [] 8 8 [(2, 117), (2, 8)] [(0, 12), (0, 12), (0, 0), (2, 8), (0, 0), (2, 117)] μ [] rfl trivial ?_
  refine pm_call hK zmm29 (427, 1, 30, 2) zM30 (0, 0) [(0, 12), (0, 12)] [(0, 0), (2, 8), (0, 0), (2, 117)] rfl rfl rfl rfl ⟨by omega, by rw [zn30]; omega⟩ (zh_min hK ⟨Nat.le_refl _, Nat.le_refl _⟩) (fun st1 μc1 hp1 => ?_)
  obtain ⟨rfl, rfl⟩ := hp1
  refine zp_acw hK zmm29 (idx := 432) (r := 8) (r' := 117) (n := 12) (g := zG8) (g' := zG117) (t := (0, -1, 17)) (t' := (0, -1, 17)) (List.mem_of_getElem? (i := 0) rfl) rfl rfl rfl ⟨rfl, rfl, rfl, rfl⟩ ⟨rfl, rfl, rfl⟩ hb8 ⟨by omega, by have h9 : pm_cs [] = 0 := rfl; omega⟩ (by decide) ?_
  exact pm_vret rfl rfl ⟨rfl, zTJ_cpy hT (t := (0, -1, 17)) (g := zG8) (g' := zG117) rfl rfl (by decide) ⟨by decide, rfl⟩ ⟨by decide, rfl, rfl⟩ rfl rfl, rfl⟩
set_option maxRecDepth 100000 in
theorem fc_ci9_118 (hK : zKK ST) (hb9 : sx_bit Wm 9 = true) (hT : zTJ φ μ) (hbd : 1 ≤ bud.1 ∧ 25 ≤ bud.2.1) : zC D Wm ST b0 l Sg zM29 bud [(2, 118), (2, 9)] μ (fun st' μ' => st' = [] ∧ zTJ φ μ' ∧ μ' = pm_cpy μ 9 118 12) := by
  refine pm_blk hK zmm29 [] 8 8 [(2, 118), (2, 9)] [(0, 12), (0, 12), (0, 0), (2, 9), (0, 0), (2, 118)] μ [] rfl trivial ?_
  refine pm_call hK zmm29 (427, 1, 30, 2) zM30 (0, 0) [(0, 12), (0, 12)] [(0, 0), (2, 9), (0, 0), (2, 118)] rfl rfl rfl rfl ⟨by omega, by rw [zn30]; omega⟩ (zh_min hK ⟨Nat.le_refl _, Nat.le_refl _⟩) (fun st1 μc1 hp1 => ?_)
  obtain ⟨rfl, rfl⟩ := hp1
  refine zp_acw hK zmm29 (idx := 432) (r := 9) (r' := 118) (n := 12) (g := zG9) (g' := zG118) (t := (0, -1, 17)) (t' := (0, -1, 17)) (List.mem_of_getElem? (i := 0) rfl) rfl rfl rfl ⟨rfl, rfl, rfl, rfl⟩ ⟨rfl, rfl, rfl⟩ hb9 ⟨by omega, by have h9 : pm_cs [] = 0 := rfl; omega⟩ (by decide) ?_
  exact pm_vret rfl rfl ⟨rfl, zTJ_cpy hT (t := (0, -1, 17)) (g := zG9) (g' := zG118) rfl rfl (by decide) ⟨by decide, rfl⟩ ⟨by decide, rfl, rfl⟩ rfl rfl, rfl⟩
set_option maxRecDepth 100000 in
theorem fc_ci10_119 (hK : zKK ST) (hb10 : sx_bit Wm 10 = true) (hT : zTJ φ μ) (hbd : 1 ≤ bud.1 ∧ 25 ≤ bud.2.1) : zC D Wm ST b0 l Sg zM29 bud [(2, 119), (2, 10)] μ (fun st' μ' => st' = [] ∧ zTJ φ μ' ∧ μ' = pm_cpy μ 10 119 12) := by
  refine pm_blk hK zmm29 [] 8 8 [(2, 119), (2, 10)] [(0, 12), (0, 12), (0, 0), (2, 10), (0, 0), (2, 119)] μ [] rfl trivial ?_
  refine pm_call hK zmm29 (427, 1, 30, 2) zM30 (0, 0) [(0, 12), (0, 12)] [(0, 0), (2, 10), (0, 0), (2, 119)] rfl rfl rfl rfl ⟨by omega, by rw [zn30]; omega⟩ (zh_min hK ⟨Nat.le_refl _, Nat.le_refl _⟩) (fun st1 μc1 hp1 => ?_)
  obtain ⟨rfl, rfl⟩ := hp1
  refine zp_acw hK zmm29 (idx := 432) (r := 10) (r' := 119) (n := 12) (g := zG10) (g' := zG119) (t := (0, -2147483648, 2147483647)) (t' := (0, -2147483648, 2147483647)) (List.mem_of_getElem? (i := 0) rfl) rfl rfl rfl ⟨rfl, rfl, rfl, rfl⟩ ⟨rfl, rfl, rfl⟩ hb10 ⟨by omega, by have h9 : pm_cs [] = 0 := rfl; omega⟩ (by decide) ?_
  exact pm_vret rfl rfl ⟨rfl, zTJ_cpy hT (t := (0, -2147483648, 2147483647)) (g := zG10) (g' := zG119) rfl rfl (by decide) ⟨by decide, rfl⟩ ⟨by decide, rfl, rfl⟩ rfl rfl, rfl⟩
set_option maxRecDepth 100000 in
theorem fc_ci11_120 (hK : zKK ST) (hb11 : sx_bit Wm 11 = true) (hT : zTJ φ μ) (hbd : 1 ≤ bud.1 ∧ 25 ≤ bud.2.1) : zC D Wm ST b0 l Sg zM29 bud [(2, 120), (2, 11)] μ (fun st' μ' => st' = [] ∧ zTJ φ μ' ∧ μ' = pm_cpy μ 11 120 18) := by
  refine pm_blk hK zmm29 [] 8 8 [(2, 120), (2, 11)] [(0, 18), (0, 18), (0, 0), (2, 11), (0, 0), (2, 120)] μ [] rfl trivial ?_
  refine pm_call hK zmm29 (427, 1, 30, 2) zM30 (0, 0) [(0, 18), (0, 18)] [(0, 0), (2, 11), (0, 0), (2, 120)] rfl rfl rfl rfl ⟨by omega, by rw [zn30]; omega⟩ (zh_min hK ⟨Nat.le_refl _, Nat.le_refl _⟩) (fun st1 μc1 hp1 => ?_)
  obtain ⟨rfl, rfl⟩ := hp1
  refine zp_acw hK zmm29 (idx := 432) (r := 11) (r' := 120) (n := 18) (g := zG11) (g' := zG120) (t := (0, -2147483648, 9999)) (t' := (0, -2147483648, 9999)) (List.mem_of_getElem? (i := 0) rfl) rfl rfl rfl ⟨rfl, rfl, rfl, rfl⟩ ⟨rfl, rfl, rfl⟩ hb11 ⟨by omega, by have h9 : pm_cs [] = 0 := rfl; omega⟩ (by decide) ?_
  exact pm_vret rfl rfl ⟨rfl, zTJ_cpy hT (t := (0, -2147483648, 9999)) (g := zG11) (g' := zG120) rfl rfl (by decide) ⟨by decide, rfl⟩ ⟨by decide, rfl, rfl⟩ rfl rfl, rfl⟩
set_option maxRecDepth 100000 in
theorem fc_ci12_121 (hK : zKK ST) (hb12 : sx_bit Wm 12 = true) (hT : zTJ φ μ) (hbd : 1 ≤ bud.1 ∧ 25 ≤ bud.2.1) : zC D Wm ST b0 l Sg zM29 bud [(2, 121), (2, 12)] μ (fun st' μ' => st' = [] ∧ zTJ φ μ' ∧ μ' = pm_cpy μ 12 121 18) := by
  refine pm_blk hK zmm29 [] 8 8 [(2, 121), (2, 12)] [(0, 18), (0, 18), (0, 0), (2, 12), (0, 0), (2, 121)] μ [] rfl trivial ?_
  refine pm_call hK zmm29 (427, 1, 30, 2) zM30 (0, 0) [(0, 18), (0, 18)] [(0, 0), (2, 12), (0, 0), (2, 121)] rfl rfl rfl rfl ⟨by omega, by rw [zn30]; omega⟩ (zh_min hK ⟨Nat.le_refl _, Nat.le_refl _⟩) (fun st1 μc1 hp1 => ?_)
  obtain ⟨rfl, rfl⟩ := hp1
  refine zp_acw hK zmm29 (idx := 432) (r := 12) (r' := 121) (n := 18) (g := zG12) (g' := zG121) (t := (0, 0, 9)) (t' := (0, 0, 9)) (List.mem_of_getElem? (i := 0) rfl) rfl rfl rfl ⟨rfl, rfl, rfl, rfl⟩ ⟨rfl, rfl, rfl⟩ hb12 ⟨by omega, by have h9 : pm_cs [] = 0 := rfl; omega⟩ (by decide) ?_
  exact pm_vret rfl rfl ⟨rfl, zTJ_cpy hT (t := (0, 0, 9)) (g := zG12) (g' := zG121) rfl rfl (by decide) ⟨by decide, rfl⟩ ⟨by decide, rfl, rfl⟩ rfl rfl, rfl⟩
set_option maxRecDepth 100000 in
theorem fc_ci13_122 (hK : zKK ST) (hb13 : sx_bit Wm 13 = true) (hT : zTJ φ μ) (hbd : 1 ≤ bud.1 ∧ 25 ≤ bud.2.1) : zC D Wm ST b0 l Sg zM29 bud [(2, 122), (2, 13)] μ (fun st' μ' => st' = [] ∧ zTJ φ μ' ∧ μ' = pm_cpy μ 13 122 18) := by
  refine pm_blk hK zmm29 [] 8 8 [(2, 122), (2, 13)] [(0, 18), (0, 18), (0, 0), (2, 13), (0, 0), (2, 122)] μ [] rfl trivial ?_
  refine pm_call hK zmm29 (427, 1, 30, 2) zM30 (0, 0) [(0, 18), (0, 18)] [(0, 0), (2, 13), (0, 0), (2, 122)] rfl rfl rfl rfl ⟨by omega, by rw [zn30]; omega⟩ (zh_min hK ⟨Nat.le_refl _, Nat.le_refl _⟩) (fun st1 μc1 hp1 => ?_)
  obtain ⟨rfl, rfl⟩ := hp1
  refine zp_acw hK zmm29 (idx := 432) (r := 13) (r' := 122) (n := 18) (g := zG13) (g' := zG122) (t := (0, -1, 11)) (t' := (0, -1, 11)) (List.mem_of_getElem? (i := 0) rfl) rfl rfl rfl ⟨rfl, rfl, rfl, rfl⟩ ⟨rfl, rfl, rfl⟩ hb13 ⟨by omega, by have h9 : pm_cs [] = 0 := rfl; omega⟩ (by decide) ?_
  exact pm_vret rfl rfl ⟨rfl, zTJ_cpy hT (t := (0, -1, 11)) (g := zG13) (g' := zG122) rfl rfl (by decide) ⟨by decide, rfl⟩ ⟨by decide, rfl, rfl⟩ rfl rfl, rfl⟩
set_option maxRecDepth 100000 in
theorem fc_ci14_123 (hK : zKK ST) (hb14 : sx_bit Wm 14 = true) (hT : zTJ φ μ) (hbd : 1 ≤ bud.1 ∧ 25 ≤ bud.2.1) : zC D Wm ST b0 l Sg zM29 bud [(2, 123), (2, 14)] μ (fun st' μ' => st' = [] ∧ zTJ φ μ' ∧ μ' = pm_cpy μ 14 123 18) := by
  refine pm_blk hK zmm29 [] 8 8 [(2, 123), (2, 14)] [(0, 18), (0, 18), (0, 0), (2, 14), (0, 0), (2, 123)] μ [] rfl trivial ?_
  refine pm_call hK zmm29 (427, 1, 30, 2) zM30 (0, 0) [(0, 18), (0, 18)] [(0, 0), (2, 14), (0, 0), (2, 123)] rfl rfl rfl rfl ⟨by omega, by rw [zn30]; omega⟩ (zh_min hK ⟨Nat.le_refl _, Nat.le_refl _⟩) (fun st1 μc1 hp1 => ?_)
  obtain ⟨rfl, rfl⟩ := hp1
  refine zp_acw hK zmm29 (idx := 432) (r := 14) (r' := 123) (n := 18) (g := zG14) (g' := zG123) (t := (0, -2147483648, 2147483647)) (t' := (0, -2147483648, 2147483647)) (List.mem_of_getElem? (i := 0) rfl) rfl rfl rfl ⟨rfl, rfl, rfl, rfl⟩ ⟨rfl, rfl, rfl⟩ hb14 ⟨by omega, by have h9 : pm_cs [] = 0 := rfl; omega⟩ (by decide) ?_
  exact pm_vret rfl rfl ⟨rfl, zTJ_cpy hT (t := (0, -2147483648, 2147483647)) (g := zG14) (g' := zG123) rfl rfl (by decide) ⟨by decide, rfl⟩ ⟨by decide, rfl, rfl⟩ rfl rfl, rfl⟩
set_option maxRecDepth 100000 in
theorem fc_ci15_124 (hK : zKK ST) (hb15 : sx_bit Wm 15 = true) (hT : zTJ φ μ) (hbd : 1 ≤ bud.1 ∧ 25 ≤ bud.2.1) : zC D Wm ST b0 l Sg zM29 bud [(2, 124), (2, 15)] μ (fun st' μ' => st' = [] ∧ zTJ φ μ' ∧ μ' = pm_cpy μ 15 124 18) := by
  refine pm_blk hK zmm29 [] 8 8 [(2, 124), (2, 15)] [(0, 18), (0, 18), (0, 0), (2, 15), (0, 0), (2, 124)] μ [] rfl trivial ?_
  refine pm_call hK zmm29 (427, 1, 30, 2) zM30 (0, 0) [(0, 18), (0, 18)] [(0, 0), (2, 15), (0, 0), (2, 124)] rfl rfl rfl rfl ⟨by omega, by rw [zn30]; omega⟩ (zh_min hK ⟨Nat.le_refl _, Nat.le_refl _⟩) (fun st1 μc1 hp1 => ?_)
  obtain ⟨rfl, rfl⟩ := hp1
  refine zp_acw hK zmm29 (idx := 432) (r := 15) (r' := 124) (n := 18) (g := zG15) (g' := zG124) (t := (0, -2147483648, 2147483647)) (t' := (0, -2147483648, 2147483647)) (List.mem_of_getElem? (i := 0) rfl) rfl rfl rfl ⟨rfl, rfl, rfl, rfl⟩ ⟨rfl, rfl, rfl⟩ hb15 ⟨by omega, by have h9 : pm_cs [] = 0 := rfl; omega⟩ (by decide) ?_
  exact pm_vret rfl rfl ⟨rfl, zTJ_cpy hT (t := (0, -2147483648, 2147483647)) (g := zG15) (g' := zG124) rfl rfl (by decide) ⟨by decide, rfl⟩ ⟨by decide, rfl, rfl⟩ rfl rfl, rfl⟩
set_option maxRecDepth 100000 in
theorem fc_ci4_126 (hK : zKK ST) (hb4 : sx_bit Wm 4 = true) (hT : zTJ φ μ) (hbd : 1 ≤ bud.1 ∧ 25 ≤ bud.2.1) : zC D Wm ST b0 l Sg zM29 bud [(2, 126), (2, 4)] μ (fun st' μ' => st' = [] ∧ zTJ φ μ' ∧ μ' = pm_cpy μ 4 126 12) := by
  refine pm_blk hK zmm29 [] 8 8 [(2, 126), (2, 4)] [(0, 12), (0, 12), (0, 0), (2, 4), (0, 0), (2, 126)] μ [] rfl trivial ?_
  refine pm_call hK zmm29 (427, 1, 30, 2) zM30 (0, 0) [(0, 12), (0, 12)] [(0, 0), (2, 4), (0, 0), (2, 126)] rfl rfl rfl rfl ⟨by omega, by rw [zn30]; omega⟩ (zh_min hK ⟨Nat.le_refl _, Nat.le_refl _⟩) (fun st1 μc1 hp1 => ?_)
  obtain ⟨rfl, rfl⟩ := hp1
  refine zp_acw hK zmm29 (idx := 432) (r := 4) (r' := 126) (n := 12) (g := zG4) (g' := zG126) (t := (0, -1, 999)) (t' := (0, -1, 999)) (List.mem_of_getElem? (i := 0) rfl) rfl rfl rfl ⟨rfl, rfl, rfl, rfl⟩ ⟨rfl, rfl, rfl⟩ hb4 ⟨by omega, by have h9 : pm_cs [] = 0 := rfl; omega⟩ (by decide) ?_
  exact pm_vret rfl rfl ⟨rfl, zTJ_cpy hT (t := (0, -1, 999)) (g := zG4) (g' := zG126) rfl rfl (by decide) ⟨by decide, rfl⟩ ⟨by decide, rfl, rfl⟩ rfl rfl, rfl⟩
set_option maxRecDepth 100000 in
theorem fc_ci5_127 (hK : zKK ST) (hb5 : sx_bit Wm 5 = true) (hT : zTJ φ μ) (hbd : 1 ≤ bud.1 ∧ 25 ≤ bud.2.1) : zC D Wm ST b0 l Sg zM29 bud [(2, 127), (2, 5)] μ (fun st' μ' => st' = [] ∧ zTJ φ μ' ∧ μ' = pm_cpy μ 5 127 12) := by
  refine pm_blk hK zmm29 [] 8 8 [(2, 127), (2, 5)] [(0, 12), (0, 12), (0, 0), (2, 5), (0, 0), (2, 127)] μ [] rfl trivial ?_
  refine pm_call hK zmm29 (427, 1, 30, 2) zM30 (0, 0) [(0, 12), (0, 12)] [(0, 0), (2, 5), (0, 0), (2, 127)] rfl rfl rfl rfl ⟨by omega, by rw [zn30]; omega⟩ (zh_min hK ⟨Nat.le_refl _, Nat.le_refl _⟩) (fun st1 μc1 hp1 => ?_)
  obtain ⟨rfl, rfl⟩ := hp1
  refine zp_acw hK zmm29 (idx := 432) (r := 5) (r' := 127) (n := 12) (g := zG5) (g' := zG127) (t := (0, -1, 999)) (t' := (0, -1, 999)) (List.mem_of_getElem? (i := 0) rfl) rfl rfl rfl ⟨rfl, rfl, rfl, rfl⟩ ⟨rfl, rfl, rfl⟩ hb5 ⟨by omega, by have h9 : pm_cs [] = 0 := rfl; omega⟩ (by decide) ?_
  exact pm_vret rfl rfl ⟨rfl, zTJ_cpy hT (t := (0, -1, 999)) (g := zG5) (g' := zG127) rfl rfl (by decide) ⟨by decide, rfl⟩ ⟨by decide, rfl, rfl⟩ rfl rfl, rfl⟩
set_option maxRecDepth 100000 in
theorem fc_ci6_128 (hK : zKK ST) (hb6 : sx_bit Wm 6 = true) (hT : zTJ φ μ) (hbd : 1 ≤ bud.1 ∧ 25 ≤ bud.2.1) : zC D Wm ST b0 l Sg zM29 bud [(2, 128), (2, 6)] μ (fun st' μ' => st' = [] ∧ zTJ φ μ' ∧ μ' = pm_cpy μ 6 128 12) := by
  refine pm_blk hK zmm29 [] 8 8 [(2, 128), (2, 6)] [(0, 12), (0, 12), (0, 0), (2, 6), (0, 0), (2, 128)] μ [] rfl trivial ?_
  refine pm_call hK zmm29 (427, 1, 30, 2) zM30 (0, 0) [(0, 12), (0, 12)] [(0, 0), (2, 6), (0, 0), (2, 128)] rfl rfl rfl rfl ⟨by omega, by rw [zn30]; omega⟩ (zh_min hK ⟨Nat.le_refl _, Nat.le_refl _⟩) (fun st1 μc1 hp1 => ?_)
  obtain ⟨rfl, rfl⟩ := hp1
  refine zp_acw hK zmm29 (idx := 432) (r := 6) (r' := 128) (n := 12) (g := zG6) (g' := zG128) (t := (0, -2147483648, 2147483647)) (t' := (0, -2147483648, 2147483647)) (List.mem_of_getElem? (i := 0) rfl) rfl rfl rfl ⟨rfl, rfl, rfl, rfl⟩ ⟨rfl, rfl, rfl⟩ hb6 ⟨by omega, by have h9 : pm_cs [] = 0 := rfl; omega⟩ (by decide) ?_
  exact pm_vret rfl rfl ⟨rfl, zTJ_cpy hT (t := (0, -2147483648, 2147483647)) (g := zG6) (g' := zG128) rfl rfl (by decide) ⟨by decide, rfl⟩ ⟨by decide, rfl, rfl⟩ rfl rfl, rfl⟩
set_option maxRecDepth 100000 in
theorem fc_ci7_129 (hK : zKK ST) (hb7 : sx_bit Wm 7 = true) (hT : zTJ φ μ) (hbd : 1 ≤ bud.1 ∧ 25 ≤ bud.2.1) : zC D Wm ST b0 l Sg zM29 bud [(2, 129), (2, 7)] μ (fun st' μ' => st' = [] ∧ zTJ φ μ' ∧ μ' = pm_cpy μ 7 129 12) := by
  refine pm_blk hK zmm29 [] 8 8 [(2, 129), (2, 7)] [(0, 12), (0, 12), (0, 0), (2, 7), (0, 0), (2, 129)] μ [] rfl trivial ?_
  refine pm_call hK zmm29 (427, 1, 30, 2) zM30 (0, 0) [(0, 12), (0, 12)] [(0, 0), (2, 7), (0, 0), (2, 129)] rfl rfl rfl rfl ⟨by omega, by rw [zn30]; omega⟩ (zh_min hK ⟨Nat.le_refl _, Nat.le_refl _⟩) (fun st1 μc1 hp1 => ?_)
  obtain ⟨rfl, rfl⟩ := hp1
  refine zp_acw hK zmm29 (idx := 432) (r := 7) (r' := 129) (n := 12) (g := zG7) (g' := zG129) (t := (0, 0, 1)) (t' := (0, 0, 1)) (List.mem_of_getElem? (i := 0) rfl) rfl rfl rfl ⟨rfl, rfl, rfl, rfl⟩ ⟨rfl, rfl, rfl⟩ hb7 ⟨by omega, by have h9 : pm_cs [] = 0 := rfl; omega⟩ (by decide) ?_
  exact pm_vret rfl rfl ⟨rfl, zTJ_cpy hT (t := (0, 0, 1)) (g := zG7) (g' := zG129) rfl rfl (by decide) ⟨by decide, rfl⟩ ⟨by decide, rfl, rfl⟩ rfl rfl, rfl⟩
set_option maxRecDepth 100000 in
theorem fc_ci8_130 (hK : zKK ST) (hb8 : sx_bit Wm 8 = true) (hT : zTJ φ μ) (hbd : 1 ≤ bud.1 ∧ 25 ≤ bud.2.1) : zC D Wm ST b0 l Sg zM29 bud [(2, 130), (2, 8)] μ (fun st' μ' => st' = [] ∧ zTJ φ μ' ∧ μ' = pm_cpy μ 8 130 12) := by
  refine pm_blk hK zmm29 [] 8 8 [(2, 130), (2, 8)] [(0, 12), (0, 12), (0, 0), (2, 8), (0, 0), (2, 130)] μ [] rfl trivial ?_
  refine pm_call hK zmm29 (427, 1, 30, 2) zM30 (0, 0) [(0, 12), (0, 12)] [(0, 0), (2, 8), (0, 0), (2, 130)] rfl rfl rfl rfl ⟨by omega, by rw [zn30]; omega⟩ (zh_min hK ⟨Nat.le_refl _, Nat.le_refl _⟩) (fun st1 μc1 hp1 => ?_)
  obtain ⟨rfl, rfl⟩ := hp1
  refine zp_acw hK zmm29 (idx := 432) (r := 8) (r' := 130) (n := 12) (g := zG8) (g' := zG130) (t := (0, -1, 17)) (t' := (0, -1, 17)) (List.mem_of_getElem? (i := 0) rfl) rfl rfl rfl ⟨rfl, rfl, rfl, rfl⟩ ⟨rfl, rfl, rfl⟩ hb8 ⟨by omega, by have h9 : pm_cs [] = 0 := rfl; omega⟩ (by decide) ?_
  exact pm_vret rfl rfl ⟨rfl, zTJ_cpy hT (t := (0, -1, 17)) (g := zG8) (g' := zG130) rfl rfl (by decide) ⟨by decide, rfl⟩ ⟨by decide, rfl, rfl⟩ rfl rfl, rfl⟩
set_option maxRecDepth 100000 in
theorem fc_ci9_131 (hK : zKK ST) (hb9 : sx_bit Wm 9 = true) (hT : zTJ φ μ) (hbd : 1 ≤ bud.1 ∧ 25 ≤ bud.2.1) : zC D Wm ST b0 l Sg zM29 bud [(2, 131), (2, 9)] μ (fun st' μ' => st' = [] ∧ zTJ φ μ' ∧ μ' = pm_cpy μ 9 131 12) := by
  refine pm_blk hK zmm29 [] 8 8 [(2, 131), (2, 9)] [(0, 12), (0, 12), (0, 0), (2, 9), (0, 0), (2, 131)] μ [] rfl trivial ?_
  refine pm_call hK zmm29 (427, 1, 30, 2) zM30 (0, 0) [(0, 12), (0, 12)] [(0, 0), (2, 9), (0, 0), (2, 131)] rfl rfl rfl rfl ⟨by omega, by rw [zn30]; omega⟩ (zh_min hK ⟨Nat.le_refl _, Nat.le_refl _⟩) (fun st1 μc1 hp1 => ?_)
  obtain ⟨rfl, rfl⟩ := hp1
  refine zp_acw hK zmm29 (idx := 432) (r := 9) (r' := 131) (n := 12) (g := zG9) (g' := zG131) (t := (0, -1, 17)) (t' := (0, -1, 17)) (List.mem_of_getElem? (i := 0) rfl) rfl rfl rfl ⟨rfl, rfl, rfl, rfl⟩ ⟨rfl, rfl, rfl⟩ hb9 ⟨by omega, by have h9 : pm_cs [] = 0 := rfl; omega⟩ (by decide) ?_
  exact pm_vret rfl rfl ⟨rfl, zTJ_cpy hT (t := (0, -1, 17)) (g := zG9) (g' := zG131) rfl rfl (by decide) ⟨by decide, rfl⟩ ⟨by decide, rfl, rfl⟩ rfl rfl, rfl⟩
set_option maxRecDepth 100000 in
theorem fc_ci10_132 (hK : zKK ST) (hb10 : sx_bit Wm 10 = true) (hT : zTJ φ μ) (hbd : 1 ≤ bud.1 ∧ 25 ≤ bud.2.1) : zC D Wm ST b0 l Sg zM29 bud [(2, 132), (2, 10)] μ (fun st' μ' => st' = [] ∧ zTJ φ μ' ∧ μ' = pm_cpy μ 10 132 12) := by
  refine pm_blk hK zmm29 [] 8 8 [(2, 132), (2, 10)] [(0, 12), (0, 12), (0, 0), (2, 10), (0, 0), (2, 132)] μ [] rfl trivial ?_
  refine pm_call hK zmm29 (427, 1, 30, 2) zM30 (0, 0) [(0, 12), (0, 12)] [(0, 0), (2, 10), (0, 0), (2, 132)] rfl rfl rfl rfl ⟨by omega, by rw [zn30]; omega⟩ (zh_min hK ⟨Nat.le_refl _, Nat.le_refl _⟩) (fun st1 μc1 hp1 => ?_)
  obtain ⟨rfl, rfl⟩ := hp1
  refine zp_acw hK zmm29 (idx := 432) (r := 10) (r' := 132) (n := 12) (g := zG10) (g' := zG132) (t := (0, -2147483648, 2147483647)) (t' := (0, -2147483648, 2147483647)) (List.mem_of_getElem? (i := 0) rfl) rfl rfl rfl ⟨rfl, rfl, rfl, rfl⟩ ⟨rfl, rfl, rfl⟩ hb10 ⟨by omega, by have h9 : pm_cs [] = 0 := rfl; omega⟩ (by decide) ?_
  exact pm_vret rfl rfl ⟨rfl, zTJ_cpy hT (t := (0, -2147483648, 2147483647)) (g := zG10) (g' := zG132) rfl rfl (by decide) ⟨by decide, rfl⟩ ⟨by decide, rfl, rfl⟩ rfl rfl, rfl⟩
set_option maxRecDepth 100000 in
theorem fc_ci11_133 (hK : zKK ST) (hb11 : sx_bit Wm 11 = true) (hT : zTJ φ μ) (hbd : 1 ≤ bud.1 ∧ 25 ≤ bud.2.1) : zC D Wm ST b0 l Sg zM29 bud [(2, 133), (2, 11)] μ (fun st' μ' => st' = [] ∧ zTJ φ μ' ∧ μ' = pm_cpy μ 11 133 18) := by
  refine pm_blk hK zmm29 [] 8 8 [(2, 133), (2, 11)] [(0, 18), (0, 18), (0, 0), (2, 11), (0, 0), (2, 133)] μ [] rfl trivial ?_
  refine pm_call hK zmm29 (427, 1, 30, 2) zM30 (0, 0) [(0, 18), (0, 18)] [(0, 0), (2, 11), (0, 0), (2, 133)] rfl rfl rfl rfl ⟨by omega, by rw [zn30]; omega⟩ (zh_min hK ⟨Nat.le_refl _, Nat.le_refl _⟩) (fun st1 μc1 hp1 => ?_)
  obtain ⟨rfl, rfl⟩ := hp1
  refine zp_acw hK zmm29 (idx := 432) (r := 11) (r' := 133) (n := 18) (g := zG11) (g' := zG133) (t := (0, -2147483648, 9999)) (t' := (0, -2147483648, 9999)) (List.mem_of_getElem? (i := 0) rfl) rfl rfl rfl ⟨rfl, rfl, rfl, rfl⟩ ⟨rfl, rfl, rfl⟩ hb11 ⟨by omega, by have h9 : pm_cs [] = 0 := rfl; omega⟩ (by decide) ?_
  exact pm_vret rfl rfl ⟨rfl, zTJ_cpy hT (t := (0, -2147483648, 9999)) (g := zG11) (g' := zG133) rfl rfl (by decide) ⟨by decide, rfl⟩ ⟨by decide, rfl, rfl⟩ rfl rfl, rfl⟩
set_option maxRecDepth 100000 in
theorem fc_ci12_134 (hK : zKK ST) (hb12 : sx_bit Wm 12 = true) (hT : zTJ φ μ) (hbd : 1 ≤ bud.1 ∧ 25 ≤ bud.2.1) : zC D Wm ST b0 l Sg zM29 bud [(2, 134), (2, 12)] μ (fun st' μ' => st' = [] ∧ zTJ φ μ' ∧ μ' = pm_cpy μ 12 134 18) := by
  refine pm_blk hK zmm29 [] 8 8 [(2, 134), (2, 12)] [(0, 18), (0, 18), (0, 0), (2, 12), (0, 0), (2, 134)] μ [] rfl trivial ?_
  refine pm_call hK zmm29 (427, 1, 30, 2) zM30 (0, 0) [(0, 18), (0, 18)] [(0, 0), (2, 12), (0, 0), (2, 134)] rfl rfl rfl rfl ⟨by omega, by rw [zn30]; omega⟩ (zh_min hK ⟨Nat.le_refl _, Nat.le_refl _⟩) (fun st1 μc1 hp1 => ?_)
  obtain ⟨rfl, rfl⟩ := hp1
  refine zp_acw hK zmm29 (idx := 432) (r := 12) (r' := 134) (n := 18) (g := zG12) (g' := zG134) (t := (0, 0, 9)) (t' := (0, 0, 9)) (List.mem_of_getElem? (i := 0) rfl) rfl rfl rfl ⟨rfl, rfl, rfl, rfl⟩ ⟨rfl, rfl, rfl⟩ hb12 ⟨by omega, by have h9 : pm_cs [] = 0 := rfl; omega⟩ (by decide) ?_
  exact pm_vret rfl rfl ⟨rfl, zTJ_cpy hT (t := (0, 0, 9)) (g := zG12) (g' := zG134) rfl rfl (by decide) ⟨by decide, rfl⟩ ⟨by decide, rfl, rfl⟩ rfl rfl, rfl⟩
set_option maxRecDepth 100000 in
theorem fc_ci13_135 (hK : zKK ST) (hb13 : sx_bit Wm 13 = true) (hT : zTJ φ μ) (hbd : 1 ≤ bud.1 ∧ 25 ≤ bud.2.1) : zC D Wm ST b0 l Sg zM29 bud [(2, 135), (2, 13)] μ (fun st' μ' => st' = [] ∧ zTJ φ μ' ∧ μ' = pm_cpy μ 13 135 18) := by
  refine pm_blk hK zmm29 [] 8 8 [(2, 135), (2, 13)] [(0, 18), (0, 18), (0, 0), (2, 13), (0, 0), (2, 135)] μ [] rfl trivial ?_
  refine pm_call hK zmm29 (427, 1, 30, 2) zM30 (0, 0) [(0, 18), (0, 18)] [(0, 0), (2, 13), (0, 0), (2, 135)] rfl rfl rfl rfl ⟨by omega, by rw [zn30]; omega⟩ (zh_min hK ⟨Nat.le_refl _, Nat.le_refl _⟩) (fun st1 μc1 hp1 => ?_)
  obtain ⟨rfl, rfl⟩ := hp1
  refine zp_acw hK zmm29 (idx := 432) (r := 13) (r' := 135) (n := 18) (g := zG13) (g' := zG135) (t := (0, -1, 11)) (t' := (0, -1, 11)) (List.mem_of_getElem? (i := 0) rfl) rfl rfl rfl ⟨rfl, rfl, rfl, rfl⟩ ⟨rfl, rfl, rfl⟩ hb13 ⟨by omega, by have h9 : pm_cs [] = 0 := rfl; omega⟩ (by decide) ?_
  exact pm_vret rfl rfl ⟨rfl, zTJ_cpy hT (t := (0, -1, 11)) (g := zG13) (g' := zG135) rfl rfl (by decide) ⟨by decide, rfl⟩ ⟨by decide, rfl, rfl⟩ rfl rfl, rfl⟩
set_option maxRecDepth 100000 in
theorem fc_ci14_136 (hK : zKK ST) (hb14 : sx_bit Wm 14 = true) (hT : zTJ φ μ) (hbd : 1 ≤ bud.1 ∧ 25 ≤ bud.2.1) : zC D Wm ST b0 l Sg zM29 bud [(2, 136), (2, 14)] μ (fun st' μ' => st' = [] ∧ zTJ φ μ' ∧ μ' = pm_cpy μ 14 136 18) := by
  refine pm_blk hK zmm29 [] 8 8 [(2, 136), (2, 14)] [(0, 18), (0, 18), (0, 0), (2, 14), (0, 0), (2, 136)] μ [] rfl trivial ?_
  refine pm_call hK zmm29 (427, 1, 30, 2) zM30 (0, 0) [(0, 18), (0, 18)] [(0, 0), (2, 14), (0, 0), (2, 136)] rfl rfl rfl rfl ⟨by omega, by rw [zn30]; omega⟩ (zh_min hK ⟨Nat.le_refl _, Nat.le_refl _⟩) (fun st1 μc1 hp1 => ?_)
  obtain ⟨rfl, rfl⟩ := hp1
  refine zp_acw hK zmm29 (idx := 432) (r := 14) (r' := 136) (n := 18) (g := zG14) (g' := zG136) (t := (0, -2147483648, 2147483647)) (t' := (0, -2147483648, 2147483647)) (List.mem_of_getElem? (i := 0) rfl) rfl rfl rfl ⟨rfl, rfl, rfl, rfl⟩ ⟨rfl, rfl, rfl⟩ hb14 ⟨by omega, by have h9 : pm_cs [] = 0 := rfl; omega⟩ (by decide) ?_
  exact pm_vret rfl rfl ⟨rfl, zTJ_cpy hT (t := (0, -2147483648, 2147483647)) (g := zG14) (g' := zG136) rfl rfl (by decide) ⟨by decide, rfl⟩ ⟨by decide, rfl, rfl⟩ rfl rfl, rfl⟩
set_option maxRecDepth 100000 in
theorem fc_ci15_137 (hK : zKK ST) (hb15 : sx_bit Wm 15 = true) (hT : zTJ φ μ) (hbd : 1 ≤ bud.1 ∧ 25 ≤ bud.2.1) : zC D Wm ST b0 l Sg zM29 bud [(2, 137), (2, 15)] μ (fun st' μ' => st' = [] ∧ zTJ φ μ' ∧ μ' = pm_cpy μ 15 137 18) := by
  refine pm_blk hK zmm29 [] 8 8 [(2, 137), (2, 15)] [(0, 18), (0, 18), (0, 0), (2, 15), (0, 0), (2, 137)] μ [] rfl trivial ?_
  refine pm_call hK zmm29 (427, 1, 30, 2) zM30 (0, 0) [(0, 18), (0, 18)] [(0, 0), (2, 15), (0, 0), (2, 137)] rfl rfl rfl rfl ⟨by omega, by rw [zn30]; omega⟩ (zh_min hK ⟨Nat.le_refl _, Nat.le_refl _⟩) (fun st1 μc1 hp1 => ?_)
  obtain ⟨rfl, rfl⟩ := hp1
  refine zp_acw hK zmm29 (idx := 432) (r := 15) (r' := 137) (n := 18) (g := zG15) (g' := zG137) (t := (0, -2147483648, 2147483647)) (t' := (0, -2147483648, 2147483647)) (List.mem_of_getElem? (i := 0) rfl) rfl rfl rfl ⟨rfl, rfl, rfl, rfl⟩ ⟨rfl, rfl, rfl⟩ hb15 ⟨by omega, by have h9 : pm_cs [] = 0 := rfl; omega⟩ (by decide) ?_
  exact pm_vret rfl rfl ⟨rfl, zTJ_cpy hT (t := (0, -2147483648, 2147483647)) (g := zG15) (g' := zG137) rfl rfl (by decide) ⟨by decide, rfl⟩ ⟨by decide, rfl, rfl⟩ rfl rfl, rfl⟩
set_option maxRecDepth 100000 in
theorem fc_ci4_139 (hK : zKK ST) (hb4 : sx_bit Wm 4 = true) (hT : zTJ φ μ) (hbd : 1 ≤ bud.1 ∧ 25 ≤ bud.2.1) : zC D Wm ST b0 l Sg zM29 bud [(2, 139), (2, 4)] μ (fun st' μ' => st' = [] ∧ zTJ φ μ' ∧ μ' = pm_cpy μ 4 139 12) := by
  refine pm_blk hK zmm29 [] 8 8 [(2, 139), (2, 4)] [(0, 12), (0, 12), (0, 0), (2, 4), (0, 0), (2, 139)] μ [] rfl trivial ?_
  refine pm_call hK zmm29 (427, 1, 30, 2) zM30 (0, 0) [(0, 12), (0, 12)] [(0, 0), (2, 4), (0, 0), (2, 139)] rfl rfl rfl rfl ⟨by omega, by rw [zn30]; omega⟩ (zh_min hK ⟨Nat.le_refl _, Nat.le_refl _⟩) (fun st1 μc1 hp1 => ?_)
  obtain ⟨rfl, rfl⟩ := hp1
  refine zp_acw hK zmm29 (idx := 432) (r := 4) (r' := 139) (n := 12) (g := zG4) (g' := zG139) (t := (0, -1, 999)) (t' := (0, -1, 999)) (List.mem_of_getElem? (i := 0) rfl) rfl rfl rfl ⟨rfl, rfl, rfl, rfl⟩ ⟨rfl, rfl, rfl⟩ hb4 ⟨by omega, by have h9 : pm_cs [] = 0 := rfl; omega⟩ (by decide) ?_
  exact pm_vret rfl rfl ⟨rfl, zTJ_cpy hT (t := (0, -1, 999)) (g := zG4) (g' := zG139) rfl rfl (by decide) ⟨by decide, rfl⟩ ⟨by decide, rfl, rfl⟩ rfl rfl, rfl⟩
set_option maxRecDepth 100000 in
theorem fc_ci5_140 (hK : zKK ST) (hb5 : sx_bit Wm 5 = true) (hT : zTJ φ μ) (hbd : 1 ≤ bud.1 ∧ 25 ≤ bud.2.1) : zC D Wm ST b0 l Sg zM29 bud [(2, 140), (2, 5)] μ (fun st' μ' => st' = [] ∧ zTJ φ μ' ∧ μ' = pm_cpy μ 5 140 12) := by
  refine pm_blk hK zmm29 [] 8 8 [(2, 140), (2, 5)] [(0, 12), (0, 12), (0, 0), (2, 5), (0, 0), (2, 140)] μ [] rfl trivial ?_
  refine pm_call hK zmm29 (427, 1, 30, 2) zM30 (0, 0) [(0, 12), (0, 12)] [(0, 0), (2, 5), (0, 0), (2, 140)] rfl rfl rfl rfl ⟨by omega, by rw [zn30]; omega⟩ (zh_min hK ⟨Nat.le_refl _, Nat.le_refl _⟩) (fun st1 μc1 hp1 => ?_)
  obtain ⟨rfl, rfl⟩ := hp1
  refine zp_acw hK zmm29 (idx := 432) (r := 5) (r' := 140) (n := 12) (g := zG5) (g' := zG140) (t := (0, -1, 999)) (t' := (0, -1, 999)) (List.mem_of_getElem? (i := 0) rfl) rfl rfl rfl ⟨rfl, rfl, rfl, rfl⟩ ⟨rfl, rfl, rfl⟩ hb5 ⟨by omega, by have h9 : pm_cs [] = 0 := rfl; omega⟩ (by decide) ?_
  exact pm_vret rfl rfl ⟨rfl, zTJ_cpy hT (t := (0, -1, 999)) (g := zG5) (g' := zG140) rfl rfl (by decide) ⟨by decide, rfl⟩ ⟨by decide, rfl, rfl⟩ rfl rfl, rfl⟩
set_option maxRecDepth 100000 in
theorem fc_ci6_141 (hK : zKK ST) (hb6 : sx_bit Wm 6 = true) (hT : zTJ φ μ) (hbd : 1 ≤ bud.1 ∧ 25 ≤ bud.2.1) : zC D Wm ST b0 l Sg zM29 bud [(2, 141), (2, 6)] μ (fun st' μ' => st' = [] ∧ zTJ φ μ' ∧ μ' = pm_cpy μ 6 141 12) := by
  refine pm_blk hK zmm29 [] 8 8 [(2, 141), (2, 6)] [(0, 12), (0, 12), (0, 0), (2, 6), (0, 0), (2, 141)] μ [] rfl trivial ?_
  refine pm_call hK zmm29 (427, 1, 30, 2) zM30 (0, 0) [(0, 12), (0, 12)] [(0, 0), (2, 6), (0, 0), (2, 141)] rfl rfl rfl rfl ⟨by omega, by rw [zn30]; omega⟩ (zh_min hK ⟨Nat.le_refl _, Nat.le_refl _⟩) (fun st1 μc1 hp1 => ?_)
  obtain ⟨rfl, rfl⟩ := hp1
  refine zp_acw hK zmm29 (idx := 432) (r := 6) (r' := 141) (n := 12) (g := zG6) (g' := zG141) (t := (0, -2147483648, 2147483647)) (t' := (0, -2147483648, 2147483647)) (List.mem_of_getElem? (i := 0) rfl) rfl rfl rfl ⟨rfl, rfl, rfl, rfl⟩ ⟨rfl, rfl, rfl⟩ hb6 ⟨by omega, by have h9 : pm_cs [] = 0 := rfl; omega⟩ (by decide) ?_
  exact pm_vret rfl rfl ⟨rfl, zTJ_cpy hT (t := (0, -2147483648, 2147483647)) (g := zG6) (g' := zG141) rfl rfl (by decide) ⟨by decide, rfl⟩ ⟨by decide, rfl, rfl⟩ rfl rfl, rfl⟩
set_option maxRecDepth 100000 in
theorem fc_ci7_142 (hK : zKK ST) (hb7 : sx_bit Wm 7 = true) (hT : zTJ φ μ) (hbd : 1 ≤ bud.1 ∧ 25 ≤ bud.2.1) : zC D Wm ST b0 l Sg zM29 bud [(2, 142), (2, 7)] μ (fun st' μ' => st' = [] ∧ zTJ φ μ' ∧ μ' = pm_cpy μ 7 142 12) := by
  refine pm_blk hK zmm29 [] 8 8 [(2, 142), (2, 7)] [(0, 12), (0, 12), (0, 0), (2, 7), (0, 0), (2, 142)] μ [] rfl trivial ?_
  refine pm_call hK zmm29 (427, 1, 30, 2) zM30 (0, 0) [(0, 12), (0, 12)] [(0, 0), (2, 7), (0, 0), (2, 142)] rfl rfl rfl rfl ⟨by omega, by rw [zn30]; omega⟩ (zh_min hK ⟨Nat.le_refl _, Nat.le_refl _⟩) (fun st1 μc1 hp1 => ?_)
  obtain ⟨rfl, rfl⟩ := hp1
  refine zp_acw hK zmm29 (idx := 432) (r := 7) (r' := 142) (n := 12) (g := zG7) (g' := zG142) (t := (0, 0, 1)) (t' := (0, 0, 1)) (List.mem_of_getElem? (i := 0) rfl) rfl rfl rfl ⟨rfl, rfl, rfl, rfl⟩ ⟨rfl, rfl, rfl⟩ hb7 ⟨by omega, by have h9 : pm_cs [] = 0 := rfl; omega⟩ (by decide) ?_
  exact pm_vret rfl rfl ⟨rfl, zTJ_cpy hT (t := (0, 0, 1)) (g := zG7) (g' := zG142) rfl rfl (by decide) ⟨by decide, rfl⟩ ⟨by decide, rfl, rfl⟩ rfl rfl, rfl⟩
set_option maxRecDepth 100000 in
theorem fc_ci8_143 (hK : zKK ST) (hb8 : sx_bit Wm 8 = true) (hT : zTJ φ μ) (hbd : 1 ≤ bud.1 ∧ 25 ≤ bud.2.1) : zC D Wm ST b0 l Sg zM29 bud [(2, 143), (2, 8)] μ (fun st' μ' => st' = [] ∧ zTJ φ μ' ∧ μ' = pm_cpy μ 8 143 12) := by
  refine pm_blk hK zmm29 [] 8 8 [(2, 143), (2, 8)] [(0, 12), (0, 12), (0, 0), (2, 8), (0, 0), (2, 143)] μ [] rfl trivial ?_
  refine pm_call hK zmm29 (427, 1, 30, 2) zM30 (0, 0) [(0, 12), (0, 12)] [(0, 0), (2, 8), (0, 0), (2, 143)] rfl rfl rfl rfl ⟨by omega, by rw [zn30]; omega⟩ (zh_min hK ⟨Nat.le_refl _, Nat.le_refl _⟩) (fun st1 μc1 hp1 => ?_)
  obtain ⟨rfl, rfl⟩ := hp1
  refine zp_acw hK zmm29 (idx := 432) (r := 8) (r' := 143) (n := 12) (g := zG8) (g' := zG143) (t := (0, -1, 17)) (t' := (0, -1, 17)) (List.mem_of_getElem? (i := 0) rfl) rfl rfl rfl ⟨rfl, rfl, rfl, rfl⟩ ⟨rfl, rfl, rfl⟩ hb8 ⟨by omega, by have h9 : pm_cs [] = 0 := rfl; omega⟩ (by decide) ?_
  exact pm_vret rfl rfl ⟨rfl, zTJ_cpy hT (t := (0, -1, 17)) (g := zG8) (g' := zG143) rfl rfl (by decide) ⟨by decide, rfl⟩ ⟨by decide, rfl, rfl⟩ rfl rfl, rfl⟩
set_option maxRecDepth 100000 in
theorem fc_ci9_144 (hK : zKK ST) (hb9 : sx_bit Wm 9 = true) (hT : zTJ φ μ) (hbd : 1 ≤ bud.1 ∧ 25 ≤ bud.2.1) : zC D Wm ST b0 l Sg zM29 bud [(2, 144), (2, 9)] μ (fun st' μ' => st' = [] ∧ zTJ φ μ' ∧ μ' = pm_cpy μ 9 144 12) := by
  refine pm_blk hK zmm29 [] 8 8 [(2, 144), (2, 9)] [(0, 12), (0, 12), (0, 0), (2, 9), (0, 0), (2, 144)] μ [] rfl trivial ?_
  refine pm_call hK zmm29 (427, 1, 30, 2) zM30 (0, 0) [(0, 12), (0, 12)] [(0, 0), (2, 9), (0, 0), (2, 144)] rfl rfl rfl rfl ⟨by omega, by rw [zn30]; omega⟩ (zh_min hK ⟨Nat.le_refl _, Nat.le_refl _⟩) (fun st1 μc1 hp1 => ?_)
  obtain ⟨rfl, rfl⟩ := hp1
  refine zp_acw hK zmm29 (idx := 432) (r := 9) (r' := 144) (n := 12) (g := zG9) (g' := zG144) (t := (0, -1, 17)) (t' := (0, -1, 17)) (List.mem_of_getElem? (i := 0) rfl) rfl rfl rfl ⟨rfl, rfl, rfl, rfl⟩ ⟨rfl, rfl, rfl⟩ hb9 ⟨by omega, by have h9 : pm_cs [] = 0 := rfl; omega⟩ (by decide) ?_
  exact pm_vret rfl rfl ⟨rfl, zTJ_cpy hT (t := (0, -1, 17)) (g := zG9) (g' := zG144) rfl rfl (by decide) ⟨by decide, rfl⟩ ⟨by decide, rfl, rfl⟩ rfl rfl, rfl⟩
set_option maxRecDepth 100000 in
theorem fc_ci10_145 (hK : zKK ST) (hb10 : sx_bit Wm 10 = true) (hT : zTJ φ μ) (hbd : 1 ≤ bud.1 ∧ 25 ≤ bud.2.1) : zC D Wm ST b0 l Sg zM29 bud [(2, 145), (2, 10)] μ (fun st' μ' => st' = [] ∧ zTJ φ μ' ∧ μ' = pm_cpy μ 10 145 12) := by
  refine pm_blk hK zmm29 [] 8 8 [(2, 145), (2, 10)] [(0, 12), (0, 12), (0, 0), (2, 10), (0, 0), (2, 145)] μ [] rfl trivial ?_
  refine pm_call hK zmm29 (427, 1, 30, 2) zM30 (0, 0) [(0, 12), (0, 12)] [(0, 0), (2, 10), (0, 0), (2, 145)] rfl rfl rfl rfl ⟨by omega, by rw [zn30]; omega⟩ (zh_min hK ⟨Nat.le_refl _, Nat.le_refl _⟩) (fun st1 μc1 hp1 => ?_)
  obtain ⟨rfl, rfl⟩ := hp1
  refine zp_acw hK zmm29 (idx := 432) (r := 10) (r' := 145) (n := 12) (g := zG10) (g' := zG145) (t := (0, -2147483648, 2147483647)) (t' := (0, -2147483648, 2147483647)) (List.mem_of_getElem? (i := 0) rfl) rfl rfl rfl ⟨rfl, rfl, rfl, rfl⟩ ⟨rfl, rfl, rfl⟩ hb10 ⟨by omega, by have h9 : pm_cs [] = 0 := rfl; omega⟩ (by decide) ?_
  exact pm_vret rfl rfl ⟨rfl, zTJ_cpy hT (t := (0, -2147483648, 2147483647)) (g := zG10) (g' := zG145) rfl rfl (by decide) ⟨by decide, rfl⟩ ⟨by decide, rfl, rfl⟩ rfl rfl, rfl⟩
set_option maxRecDepth 100000 in
theorem fc_ci11_146 (hK : zKK ST) (hb11 : sx_bit Wm 11 = true) (hT : zTJ φ μ) (hbd : 1 ≤ bud.1 ∧ 25 ≤ bud.2.1) : zC D Wm ST b0 l Sg zM29 bud [(2, 146), (2, 11)] μ (fun st' μ' => st' = [] ∧ zTJ φ μ' ∧ μ' = pm_cpy μ 11 146 18) := by
  refine pm_blk hK zmm29 [] 8 8 [(2, 146), (2, 11)] [(0, 18), (0, 18), (0, 0), (2, 11), (0, 0), (2, 146)] μ [] rfl trivial ?_
  refine pm_call hK zmm29 (427, 1, 30, 2) zM30 (0, 0) [(0, 18), (0, 18)] [(0, 0), (2, 11), (0, 0), (2, 146)] rfl rfl rfl rfl ⟨by omega, by rw [zn30]; omega⟩ (zh_min hK ⟨Nat.le_refl _, Nat.le_refl _⟩) (fun st1 μc1 hp1 => ?_)
  obtain ⟨rfl, rfl⟩ := hp1
  refine zp_acw hK zmm29 (idx := 432) (r := 11) (r' := 146) (n := 18) (g := zG11) (g' := zG146) (t := (0, -2147483648, 9999)) (t' := (0, -2147483648, 9999)) (List.mem_of_getElem? (i := 0) rfl) rfl rfl rfl ⟨rfl, rfl, rfl, rfl⟩ ⟨rfl, rfl, rfl⟩ hb11 ⟨by omega, by have h9 : pm_cs [] = 0 := rfl; omega⟩ (by decide) ?_
  exact pm_vret rfl rfl ⟨rfl, zTJ_cpy hT (t := (0, -2147483648, 9999)) (g := zG11) (g' := zG146) rfl rfl (by decide) ⟨by decide, rfl⟩ ⟨by decide, rfl, rfl⟩ rfl rfl, rfl⟩
set_option maxRecDepth 100000 in
theorem fc_ci12_147 (hK : zKK ST) (hb12 : sx_bit Wm 12 = true) (hT : zTJ φ μ) (hbd : 1 ≤ bud.1 ∧ 25 ≤ bud.2.1) : zC D Wm ST b0 l Sg zM29 bud [(2, 147), (2, 12)] μ (fun st' μ' => st' = [] ∧ zTJ φ μ' ∧ μ' = pm_cpy μ 12 147 18) := by
  refine pm_blk hK zmm29 [] 8 8 [(2, 147), (2, 12)] [(0, 18), (0, 18), (0, 0), (2, 12), (0, 0), (2, 147)] μ [] rfl trivial ?_
  refine pm_call hK zmm29 (427, 1, 30, 2) zM30 (0, 0) [(0, 18), (0, 18)] [(0, 0), (2, 12), (0, 0), (2, 147)] rfl rfl rfl rfl ⟨by omega, by rw [zn30]; omega⟩ (zh_min hK ⟨Nat.le_refl _, Nat.le_refl _⟩) (fun st1 μc1 hp1 => ?_)
  obtain ⟨rfl, rfl⟩ := hp1
  refine zp_acw hK zmm29 (idx := 432) (r := 12) (r' := 147) (n := 18) (g := zG12) (g' := zG147) (t := (0, 0, 9)) (t' := (0, 0, 9)) (List.mem_of_getElem? (i := 0) rfl) rfl rfl rfl ⟨rfl, rfl, rfl, rfl⟩ ⟨rfl, rfl, rfl⟩ hb12 ⟨by omega, by have h9 : pm_cs [] = 0 := rfl; omega⟩ (by decide) ?_
  exact pm_vret rfl rfl ⟨rfl, zTJ_cpy hT (t := (0, 0, 9)) (g := zG12) (g' := zG147) rfl rfl (by decide) ⟨by decide, rfl⟩ ⟨by decide, rfl, rfl⟩ rfl rfl, rfl⟩
set_option maxRecDepth 100000 in
theorem fc_ci13_148 (hK : zKK ST) (hb13 : sx_bit Wm 13 = true) (hT : zTJ φ μ) (hbd : 1 ≤ bud.1 ∧ 25 ≤ bud.2.1) : zC D Wm ST b0 l Sg zM29 bud [(2, 148), (2, 13)] μ (fun st' μ' => st' = [] ∧ zTJ φ μ' ∧ μ' = pm_cpy μ 13 148 18) := by
  refine pm_blk hK zmm29 [] 8 8 [(2, 148), (2, 13)] [(0, 18), (0, 18), (0, 0), (2, 13), (0, 0), (2, 148)] μ [] rfl trivial ?_
  refine pm_call hK zmm29 (427, 1, 30, 2) zM30 (0, 0) [(0, 18), (0, 18)] [(0, 0), (2, 13), (0, 0), (2, 148)] rfl rfl rfl rfl ⟨by omega, by rw [zn30]; omega⟩ (zh_min hK ⟨Nat.le_refl _, Nat.le_refl _⟩) (fun st1 μc1 hp1 => ?_)
  obtain ⟨rfl, rfl⟩ := hp1
  refine zp_acw hK zmm29 (idx := 432) (r := 13) (r' := 148) (n := 18) (g := zG13) (g' := zG148) (t := (0, -1, 11)) (t' := (0, -1, 11)) (List.mem_of_getElem? (i := 0) rfl) rfl rfl rfl ⟨rfl, rfl, rfl, rfl⟩ ⟨rfl, rfl, rfl⟩ hb13 ⟨by omega, by have h9 : pm_cs [] = 0 := rfl; omega⟩ (by decide) ?_
  exact pm_vret rfl rfl ⟨rfl, zTJ_cpy hT (t := (0, -1, 11)) (g := zG13) (g' := zG148) rfl rfl (by decide) ⟨by decide, rfl⟩ ⟨by decide, rfl, rfl⟩ rfl rfl, rfl⟩
set_option maxRecDepth 100000 in
theorem fc_ci14_149 (hK : zKK ST) (hb14 : sx_bit Wm 14 = true) (hT : zTJ φ μ) (hbd : 1 ≤ bud.1 ∧ 25 ≤ bud.2.1) : zC D Wm ST b0 l Sg zM29 bud [(2, 149), (2, 14)] μ (fun st' μ' => st' = [] ∧ zTJ φ μ' ∧ μ' = pm_cpy μ 14 149 18) := by
  refine pm_blk hK zmm29 [] 8 8 [(2, 149), (2, 14)] [(0, 18), (0, 18), (0, 0), (2, 14), (0, 0), (2, 149)] μ [] rfl trivial ?_
  refine pm_call hK zmm29 (427, 1, 30, 2) zM30 (0, 0) [(0, 18), (0, 18)] [(0, 0), (2, 14), (0, 0), (2, 149)] rfl rfl rfl rfl ⟨by omega, by rw [zn30]; omega⟩ (zh_min hK ⟨Nat.le_refl _, Nat.le_refl _⟩) (fun st1 μc1 hp1 => ?_)
  obtain ⟨rfl, rfl⟩ := hp1
  refine zp_acw hK zmm29 (idx := 432) (r := 14) (r' := 149) (n := 18) (g := zG14) (g' := zG149) (t := (0, -2147483648, 2147483647)) (t' := (0, -2147483648, 2147483647)) (List.mem_of_getElem? (i := 0) rfl) rfl rfl rfl ⟨rfl, rfl, rfl, rfl⟩ ⟨rfl, rfl, rfl⟩ hb14 ⟨by omega, by have h9 : pm_cs [] = 0 := rfl; omega⟩ (by decide) ?_
  exact pm_vret rfl rfl ⟨rfl, zTJ_cpy hT (t := (0, -2147483648, 2147483647)) (g := zG14) (g' := zG149) rfl rfl (by decide) ⟨by decide, rfl⟩ ⟨by decide, rfl, rfl⟩ rfl rfl, rfl⟩
set_option maxRecDepth 100000 in
theorem fc_ci15_150 (hK : zKK ST) (hb15 : sx_bit Wm 15 = true) (hT : zTJ φ μ) (hbd : 1 ≤ bud.1 ∧ 25 ≤ bud.2.1) : zC D Wm ST b0 l Sg zM29 bud [(2, 150), (2, 15)] μ (fun st' μ' => st' = [] ∧ zTJ φ μ' ∧ μ' = pm_cpy μ 15 150 18) := by
  refine pm_blk hK zmm29 [] 8 8 [(2, 150), (2, 15)] [(0, 18), (0, 18), (0, 0), (2, 15), (0, 0), (2, 150)] μ [] rfl trivial ?_
  refine pm_call hK zmm29 (427, 1, 30, 2) zM30 (0, 0) [(0, 18), (0, 18)] [(0, 0), (2, 15), (0, 0), (2, 150)] rfl rfl rfl rfl ⟨by omega, by rw [zn30]; omega⟩ (zh_min hK ⟨Nat.le_refl _, Nat.le_refl _⟩) (fun st1 μc1 hp1 => ?_)
  obtain ⟨rfl, rfl⟩ := hp1
  refine zp_acw hK zmm29 (idx := 432) (r := 15) (r' := 150) (n := 18) (g := zG15) (g' := zG150) (t := (0, -2147483648, 2147483647)) (t' := (0, -2147483648, 2147483647)) (List.mem_of_getElem? (i := 0) rfl) rfl rfl rfl ⟨rfl, rfl, rfl, rfl⟩ ⟨rfl, rfl, rfl⟩ hb15 ⟨by omega, by have h9 : pm_cs [] = 0 := rfl; omega⟩ (by decide) ?_
  exact pm_vret rfl rfl ⟨rfl, zTJ_cpy hT (t := (0, -2147483648, 2147483647)) (g := zG15) (g' := zG150) rfl rfl (by decide) ⟨by decide, rfl⟩ ⟨by decide, rfl, rfl⟩ rfl rfl, rfl⟩
set_option maxRecDepth 100000 in
theorem fc_ci4_152 (hK : zKK ST) (hb4 : sx_bit Wm 4 = true) (hT : zTJ φ μ) (hbd : 1 ≤ bud.1 ∧ 25 ≤ bud.2.1) : zC D Wm ST b0 l Sg zM29 bud [(2, 152), (2, 4)] μ (fun st' μ' => st' = [] ∧ zTJ φ μ' ∧ μ' = pm_cpy μ 4 152 12) := by
  refine pm_blk hK zmm29 [] 8 8 [(2, 152), (2, 4)] [(0, 12), (0, 12), (0, 0), (2, 4), (0, 0), (2, 152)] μ [] rfl trivial ?_
  refine pm_call hK zmm29 (427, 1, 30, 2) zM30 (0, 0) [(0, 12), (0, 12)] [(0, 0), (2, 4), (0, 0), (2, 152)] rfl rfl rfl rfl ⟨by omega, by rw [zn30]; omega⟩ (zh_min hK ⟨Nat.le_refl _, Nat.le_refl _⟩) (fun st1 μc1 hp1 => ?_)
  obtain ⟨rfl, rfl⟩ := hp1
  refine zp_acw hK zmm29 (idx := 432) (r := 4) (r' := 152) (n := 12) (g := zG4) (g' := zG152) (t := (0, -1, 999)) (t' := (0, -1, 999)) (List.mem_of_getElem? (i := 0) rfl) rfl rfl rfl ⟨rfl, rfl, rfl, rfl⟩ ⟨rfl, rfl, rfl⟩ hb4 ⟨by omega, by have h9 : pm_cs [] = 0 := rfl; omega⟩ (by decide) ?_
  exact pm_vret rfl rfl ⟨rfl, zTJ_cpy hT (t := (0, -1, 999)) (g := zG4) (g' := zG152) rfl rfl (by decide) ⟨by decide, rfl⟩ ⟨by decide, rfl, rfl⟩ rfl rfl, rfl⟩
set_option maxRecDepth 100000 in
theorem fc_ci5_153 (hK : zKK ST) (hb5 : sx_bit Wm 5 = true) (hT : zTJ φ μ) (hbd : 1 ≤ bud.1 ∧ 25 ≤ bud.2.1) : zC D Wm ST b0 l Sg zM29 bud [(2, 153), (2, 5)] μ (fun st' μ' => st' = [] ∧ zTJ φ μ' ∧ μ' = pm_cpy μ 5 153 12) := by
  refine pm_blk hK zmm29 [] 8 8 [(2, 153), (2, 5)] [(0, 12), (0, 12), (0, 0), (2, 5), (0, 0), (2, 153)] μ [] rfl trivial ?_
  refine pm_call hK zmm29 (427, 1, 30, 2) zM30 (0, 0) [(0, 12), (0, 12)] [(0, 0), (2, 5), (0, 0), (2, 153)] rfl rfl rfl rfl ⟨by omega, by rw [zn30]; omega⟩ (zh_min hK ⟨Nat.le_refl _, Nat.le_refl _⟩) (fun st1 μc1 hp1 => ?_)
  obtain ⟨rfl, rfl⟩ := hp1
  refine zp_acw hK zmm29 (idx := 432) (r := 5) (r' := 153) (n := 12) (g := zG5) (g' := zG153) (t := (0, -1, 999)) (t' := (0, -1, 999)) (List.mem_of_getElem? (i := 0) rfl) rfl rfl rfl ⟨rfl, rfl, rfl, rfl⟩ ⟨rfl, rfl, rfl⟩ hb5 ⟨by omega, by have h9 : pm_cs [] = 0 := rfl; omega⟩ (by decide) ?_
  exact pm_vret rfl rfl ⟨rfl, zTJ_cpy hT (t := (0, -1, 999)) (g := zG5) (g' := zG153) rfl rfl (by decide) ⟨by decide, rfl⟩ ⟨by decide, rfl, rfl⟩ rfl rfl, rfl⟩
set_option maxRecDepth 100000 in
theorem fc_ci6_154 (hK : zKK ST) (hb6 : sx_bit Wm 6 = true) (hT : zTJ φ μ) (hbd : 1 ≤ bud.1 ∧ 25 ≤ bud.2.1) : zC D Wm ST b0 l Sg zM29 bud [(2, 154), (2, 6)] μ (fun st' μ' => st' = [] ∧ zTJ φ μ' ∧ μ' = pm_cpy μ 6 154 12) := by
  refine pm_blk hK zmm29 [] 8 8 [(2, 154), (2, 6)] [(0, 12), (0, 12), (0, 0), (2, 6), (0, 0), (2, 154)] μ [] rfl trivial ?_
  refine pm_call hK zmm29 (427, 1, 30, 2) zM30 (0, 0) [(0, 12), (0, 12)] [(0, 0), (2, 6), (0, 0), (2, 154)] rfl rfl rfl rfl ⟨by omega, by rw [zn30]; omega⟩ (zh_min hK ⟨Nat.le_refl _, Nat.le_refl _⟩) (fun st1 μc1 hp1 => ?_)
  obtain ⟨rfl, rfl⟩ := hp1
  refine zp_acw hK zmm29 (idx := 432) (r := 6) (r' := 154) (n := 12) (g := zG6) (g' := zG154) (t := (0, -2147483648, 2147483647)) (t' := (0, -2147483648, 2147483647)) (List.mem_of_getElem? (i := 0) rfl) rfl rfl rfl ⟨rfl, rfl, rfl, rfl⟩ ⟨rfl, rfl, rfl⟩ hb6 ⟨by omega, by have h9 : pm_cs [] = 0 := rfl; omega⟩ (by decide) ?_
  exact pm_vret rfl rfl ⟨rfl, zTJ_cpy hT (t := (0, -2147483648, 2147483647)) (g := zG6) (g' := zG154) rfl rfl (by decide) ⟨by decide, rfl⟩ ⟨by decide, rfl, rfl⟩ rfl rfl, rfl⟩
set_option maxRecDepth 100000 in
theorem fc_ci7_155 (hK : zKK ST) (hb7 : sx_bit Wm 7 = true) (hT : zTJ φ μ) (hbd : 1 ≤ bud.1 ∧ 25 ≤ bud.2.1) : zC D Wm ST b0 l Sg zM29 bud [(2, 155), (2, 7)] μ (fun st' μ' => st' = [] ∧ zTJ φ μ' ∧ μ' = pm_cpy μ 7 155 12) := by
  refine pm_blk hK zmm29 [] 8 8 [(2, 155), (2, 7)] [(0, 12), (0, 12), (0, 0), (2, 7), (0, 0), (2, 155)] μ [] rfl trivial ?_
  refine pm_call hK zmm29 (427, 1, 30, 2) zM30 (0, 0) [(0, 12), (0, 12)] [(0, 0), (2, 7), (0, 0), (2, 155)] rfl rfl rfl rfl ⟨by omega, by rw [zn30]; omega⟩ (zh_min hK ⟨Nat.le_refl _, Nat.le_refl _⟩) (fun st1 μc1 hp1 => ?_)
  obtain ⟨rfl, rfl⟩ := hp1
  refine zp_acw hK zmm29 (idx := 432) (r := 7) (r' := 155) (n := 12) (g := zG7) (g' := zG155) (t := (0, 0, 1)) (t' := (0, 0, 1)) (List.mem_of_getElem? (i := 0) rfl) rfl rfl rfl ⟨rfl, rfl, rfl, rfl⟩ ⟨rfl, rfl, rfl⟩ hb7 ⟨by omega, by have h9 : pm_cs [] = 0 := rfl; omega⟩ (by decide) ?_
  exact pm_vret rfl rfl ⟨rfl, zTJ_cpy hT (t := (0, 0, 1)) (g := zG7) (g' := zG155) rfl rfl (by decide) ⟨by decide, rfl⟩ ⟨by decide, rfl, rfl⟩ rfl rfl, rfl⟩
set_option maxRecDepth 100000 in
theorem fc_ci8_156 (hK : zKK ST) (hb8 : sx_bit Wm 8 = true) (hT : zTJ φ μ) (hbd : 1 ≤ bud.1 ∧ 25 ≤ bud.2.1) : zC D Wm ST b0 l Sg zM29 bud [(2, 156), (2, 8)] μ (fun st' μ' => st' = [] ∧ zTJ φ μ' ∧ μ' = pm_cpy μ 8 156 12) := by
  refine pm_blk hK zmm29 [] 8 8 [(2, 156), (2, 8)] [(0, 12), (0, 12), (0, 0), (2, 8), (0, 0), (2, 156)] μ [] rfl trivial ?_
  refine pm_call hK zmm29 (427, 1, 30, 2) zM30 (0, 0) [(0, 12), (0, 12)] [(0, 0), (2, 8), (0, 0), (2, 156)] rfl rfl rfl rfl ⟨by omega, by rw [zn30]; omega⟩ (zh_min hK ⟨Nat.le_refl _, Nat.le_refl _⟩) (fun st1 μc1 hp1 => ?_)
  obtain ⟨rfl, rfl⟩ := hp1
  refine zp_acw hK zmm29 (idx := 432) (r := 8) (r' := 156) (n := 12) (g := zG8) (g' := zG156) (t := (0, -1, 17)) (t' := (0, -1, 17)) (List.mem_of_getElem? (i := 0) rfl) rfl rfl rfl ⟨rfl, rfl, rfl, rfl⟩ ⟨rfl, rfl, rfl⟩ hb8 ⟨by omega, by have h9 : pm_cs [] = 0 := rfl; omega⟩ (by decide) ?_
  exact pm_vret rfl rfl ⟨rfl, zTJ_cpy hT (t := (0, -1, 17)) (g := zG8) (g' := zG156) rfl rfl (by decide) ⟨by decide, rfl⟩ ⟨by decide, rfl, rfl⟩ rfl rfl, rfl⟩
set_option maxRecDepth 100000 in
theorem fc_ci9_157 (hK : zKK ST) (hb9 : sx_bit Wm 9 = true) (hT : zTJ φ μ) (hbd : 1 ≤ bud.1 ∧ 25 ≤ bud.2.1) : zC D Wm ST b0 l Sg zM29 bud [(2, 157), (2, 9)] μ (fun st' μ' => st' = [] ∧ zTJ φ μ' ∧ μ' = pm_cpy μ 9 157 12) := by
  refine pm_blk hK zmm29 [] 8 8 [(2, 157), (2, 9)] [(0, 12), (0, 12), (0, 0), (2, 9), (0, 0), (2, 157)] μ [] rfl trivial ?_
  refine pm_call hK zmm29 (427, 1, 30, 2) zM30 (0, 0) [(0, 12), (0, 12)] [(0, 0), (2, 9), (0, 0), (2, 157)] rfl rfl rfl rfl ⟨by omega, by rw [zn30]; omega⟩ (zh_min hK ⟨Nat.le_refl _, Nat.le_refl _⟩) (fun st1 μc1 hp1 => ?_)
  obtain ⟨rfl, rfl⟩ := hp1
  refine zp_acw hK zmm29 (idx := 432) (r := 9) (r' := 157) (n := 12) (g := zG9) (g' := zG157) (t := (0, -1, 17)) (t' := (0, -1, 17)) (List.mem_of_getElem? (i := 0) rfl) rfl rfl rfl ⟨rfl, rfl, rfl, rfl⟩ ⟨rfl, rfl, rfl⟩ hb9 ⟨by omega, by have h9 : pm_cs [] = 0 := rfl; omega⟩ (by decide) ?_
  exact pm_vret rfl rfl ⟨rfl, zTJ_cpy hT (t := (0, -1, 17)) (g := zG9) (g' := zG157) rfl rfl (by decide) ⟨by decide, rfl⟩ ⟨by decide, rfl, rfl⟩ rfl rfl, rfl⟩
set_option maxRecDepth 100000 in
theorem fc_ci10_158 (hK : zKK ST) (hb10 : sx_bit Wm 10 = true) (hT : zTJ φ μ) (hbd : 1 ≤ bud.1 ∧ 25 ≤ bud.2.1) : zC D Wm ST b0 l Sg zM29 bud [(2, 158), (2, 10)] μ (fun st' μ' => st' = [] ∧ zTJ φ μ' ∧ μ' = pm_cpy μ 10 158 12) := by
  refine pm_blk hK zmm29 [] 8 8 [(2, 158), (2, 10)] [(0, 12), (0, 12), (0, 0), (2, 10), (0, 0), (2, 158)] μ [] rfl trivial ?_
  refine pm_call hK zmm29 (427, 1, 30, 2) zM30 (0, 0) [(0, 12), (0, 12)] [(0, 0), (2, 10), (0, 0), (2, 158)] rfl rfl rfl rfl ⟨by omega, by rw [zn30]; omega⟩ (zh_min hK ⟨Nat.le_refl _, Nat.le_refl _⟩) (fun st1 μc1 hp1 => ?_)
  obtain ⟨rfl, rfl⟩ := hp1
  refine zp_acw hK zmm29 (idx := 432) (r := 10) (r' := 158) (n := 12) (g := zG10) (g' := zG158) (t := (0, -2147483648, 2147483647)) (t' := (0, -2147483648, 2147483647)) (List.mem_of_getElem? (i := 0) rfl) rfl rfl rfl ⟨rfl, rfl, rfl, rfl⟩ ⟨rfl, rfl, rfl⟩ hb10 ⟨by omega, by have h9 : pm_cs [] = 0 := rfl; omega⟩ (by decide) ?_
  exact pm_vret rfl rfl ⟨rfl, zTJ_cpy hT (t := (0, -2147483648, 2147483647)) (g := zG10) (g' := zG158) rfl rfl (by decide) ⟨by decide, rfl⟩ ⟨by decide, rfl, rfl⟩ rfl rfl, rfl⟩
set_option maxRecDepth 100000 in
theorem fc_ci11_159 (hK : zKK ST) (hb11 : sx_bit Wm 11 = true) (hT : zTJ φ μ) (hbd : 1 ≤ bud.1 ∧ 25 ≤ bud.2.1) : zC D Wm ST b0 l Sg zM29 bud [(2, 159), (2, 11)] μ (fun st' μ' => st' = [] ∧ zTJ φ μ' ∧ μ' = pm_cpy μ 11 159 18) := by
  refine pm_blk hK zmm29 [] 8 8 [(2, 159), (2, 11)] [(0, 18), (0, 18), (0, 0), (2, 11), (0, 0), (2, 159)] μ [] rfl trivial ?_
  refine pm_call hK zmm29 (427, 1, 30, 2) zM30 (0, 0) [(0, 18), (0, 18)] [(0, 0), (2, 11), (0, 0), (2, 159)] rfl rfl rfl rfl ⟨by omega, by rw [zn30]; omega⟩ (zh_min hK ⟨Nat.le_refl _, Nat.le_refl _⟩) (fun st1 μc1 hp1 => ?_)
  obtain ⟨rfl, rfl⟩ := hp1
  refine zp_acw hK zmm29 (idx := 432) (r := 11) (r' := 159) (n := 18) (g := zG11) (g' := zG159) (t := (0, -2147483648, 9999)) (t' := (0, -2147483648, 9999)) (List.mem_of_getElem? (i := 0) rfl) rfl rfl rfl ⟨rfl, rfl, rfl, rfl⟩ ⟨rfl, rfl, rfl⟩ hb11 ⟨by omega, by have h9 : pm_cs [] = 0 := rfl; omega⟩ (by decide) ?_
  exact pm_vret rfl rfl ⟨rfl, zTJ_cpy hT (t := (0, -2147483648, 9999)) (g := zG11) (g' := zG159) rfl rfl (by decide) ⟨by decide, rfl⟩ ⟨by decide, rfl, rfl⟩ rfl rfl, rfl⟩
set_option maxRecDepth 100000 in
theorem fc_ci12_160 (hK : zKK ST) (hb12 : sx_bit Wm 12 = true) (hT : zTJ φ μ) (hbd : 1 ≤ bud.1 ∧ 25 ≤ bud.2.1) : zC D Wm ST b0 l Sg zM29 bud [(2, 160), (2, 12)] μ (fun st' μ' => st' = [] ∧ zTJ φ μ' ∧ μ' = pm_cpy μ 12 160 18) := by
  refine pm_blk hK zmm29 [] 8 8 [(2, 160), (2, 12)] [(0, 18), (0, 18), (0, 0), (2, 12), (0, 0), (2, 160)] μ [] rfl trivial ?_
  refine pm_call hK zmm29 (427, 1, 30, 2) zM30 (0, 0) [(0, 18), (0, 18)] [(0, 0), (2, 12), (0, 0), (2, 160)] rfl rfl rfl rfl ⟨by omega, by rw [zn30]; omega⟩ (zh_min hK ⟨Nat.le_refl _, Nat.le_refl _⟩) (fun st1 μc1 hp1 => ?_)
  obtain ⟨rfl, rfl⟩ := hp1
  refine zp_acw hK zmm29 (idx := 432) (r := 12) (r' := 160) (n := 18) (g := zG12) (g' := zG160) (t := (0, 0, 9)) (t' := (0, 0, 9)) (List.mem_of_getElem? (i := 0) rfl) rfl rfl rfl ⟨rfl, rfl, rfl, rfl⟩ ⟨rfl, rfl, rfl⟩ hb12 ⟨by omega, by have h9 : pm_cs [] = 0 := rfl; omega⟩ (by decide) ?_
  exact pm_vret rfl rfl ⟨rfl, zTJ_cpy hT (t := (0, 0, 9)) (g := zG12) (g' := zG160) rfl rfl (by decide) ⟨by decide, rfl⟩ ⟨by decide, rfl, rfl⟩ rfl rfl, rfl⟩
set_option maxRecDepth 100000 in
theorem fc_ci13_161 (hK : zKK ST) (hb13 : sx_bit Wm 13 = true) (hT : zTJ φ μ) (hbd : 1 ≤ bud.1 ∧ 25 ≤ bud.2.1) : zC D Wm ST b0 l Sg zM29 bud [(2, 161), (2, 13)] μ (fun st' μ' => st' = [] ∧ zTJ φ μ' ∧ μ' = pm_cpy μ 13 161 18) := by
  refine pm_blk hK zmm29 [] 8 8 [(2, 161), (2, 13)] [(0, 18), (0, 18), (0, 0), (2, 13), (0, 0), (2, 161)] μ [] rfl trivial ?_
  refine pm_call hK zmm29 (427, 1, 30, 2) zM30 (0, 0) [(0, 18), (0, 18)] [(0, 0), (2, 13), (0, 0), (2, 161)] rfl rfl rfl rfl ⟨by omega, by rw [zn30]; omega⟩ (zh_min hK ⟨Nat.le_refl _, Nat.le_refl _⟩) (fun st1 μc1 hp1 => ?_)
  obtain ⟨rfl, rfl⟩ := hp1
  refine zp_acw hK zmm29 (idx := 432) (r := 13) (r' := 161) (n := 18) (g := zG13) (g' := zG161) (t := (0, -1, 11)) (t' := (0, -1, 11)) (List.mem_of_getElem? (i := 0) rfl) rfl rfl rfl ⟨rfl, rfl, rfl, rfl⟩ ⟨rfl, rfl, rfl⟩ hb13 ⟨by omega, by have h9 : pm_cs [] = 0 := rfl; omega⟩ (by decide) ?_
  exact pm_vret rfl rfl ⟨rfl, zTJ_cpy hT (t := (0, -1, 11)) (g := zG13) (g' := zG161) rfl rfl (by decide) ⟨by decide, rfl⟩ ⟨by decide, rfl, rfl⟩ rfl rfl, rfl⟩
set_option maxRecDepth 100000 in
theorem fc_ci14_162 (hK : zKK ST) (hb14 : sx_bit Wm 14 = true) (hT : zTJ φ μ) (hbd : 1 ≤ bud.1 ∧ 25 ≤ bud.2.1) : zC D Wm ST b0 l Sg zM29 bud [(2, 162), (2, 14)] μ (fun st' μ' => st' = [] ∧ zTJ φ μ' ∧ μ' = pm_cpy μ 14 162 18) := by
  refine pm_blk hK zmm29 [] 8 8 [(2, 162), (2, 14)] [(0, 18), (0, 18), (0, 0), (2, 14), (0, 0), (2, 162)] μ [] rfl trivial ?_
  refine pm_call hK zmm29 (427, 1, 30, 2) zM30 (0, 0) [(0, 18), (0, 18)] [(0, 0), (2, 14), (0, 0), (2, 162)] rfl rfl rfl rfl ⟨by omega, by rw [zn30]; omega⟩ (zh_min hK ⟨Nat.le_refl _, Nat.le_refl _⟩) (fun st1 μc1 hp1 => ?_)
  obtain ⟨rfl, rfl⟩ := hp1
  refine zp_acw hK zmm29 (idx := 432) (r := 14) (r' := 162) (n := 18) (g := zG14) (g' := zG162) (t := (0, -2147483648, 2147483647)) (t' := (0, -2147483648, 2147483647)) (List.mem_of_getElem? (i := 0) rfl) rfl rfl rfl ⟨rfl, rfl, rfl, rfl⟩ ⟨rfl, rfl, rfl⟩ hb14 ⟨by omega, by have h9 : pm_cs [] = 0 := rfl; omega⟩ (by decide) ?_
  exact pm_vret rfl rfl ⟨rfl, zTJ_cpy hT (t := (0, -2147483648, 2147483647)) (g := zG14) (g' := zG162) rfl rfl (by decide) ⟨by decide, rfl⟩ ⟨by decide, rfl, rfl⟩ rfl rfl, rfl⟩
set_option maxRecDepth 100000 in
theorem fc_ci15_163 (hK : zKK ST) (hb15 : sx_bit Wm 15 = true) (hT : zTJ φ μ) (hbd : 1 ≤ bud.1 ∧ 25 ≤ bud.2.1) : zC D Wm ST b0 l Sg zM29 bud [(2, 163), (2, 15)] μ (fun st' μ' => st' = [] ∧ zTJ φ μ' ∧ μ' = pm_cpy μ 15 163 18) := by
  refine pm_blk hK zmm29 [] 8 8 [(2, 163), (2, 15)] [(0, 18), (0, 18), (0, 0), (2, 15), (0, 0), (2, 163)] μ [] rfl trivial ?_
  refine pm_call hK zmm29 (427, 1, 30, 2) zM30 (0, 0) [(0, 18), (0, 18)] [(0, 0), (2, 15), (0, 0), (2, 163)] rfl rfl rfl rfl ⟨by omega, by rw [zn30]; omega⟩ (zh_min hK ⟨Nat.le_refl _, Nat.le_refl _⟩) (fun st1 μc1 hp1 => ?_)
  obtain ⟨rfl, rfl⟩ := hp1
  refine zp_acw hK zmm29 (idx := 432) (r := 15) (r' := 163) (n := 18) (g := zG15) (g' := zG163) (t := (0, -2147483648, 2147483647)) (t' := (0, -2147483648, 2147483647)) (List.mem_of_getElem? (i := 0) rfl) rfl rfl rfl ⟨rfl, rfl, rfl, rfl⟩ ⟨rfl, rfl, rfl⟩ hb15 ⟨by omega, by have h9 : pm_cs [] = 0 := rfl; omega⟩ (by decide) ?_
  exact pm_vret rfl rfl ⟨rfl, zTJ_cpy hT (t := (0, -2147483648, 2147483647)) (g := zG15) (g' := zG163) rfl rfl (by decide) ⟨by decide, rfl⟩ ⟨by decide, rfl, rfl⟩ rfl rfl, rfl⟩
set_option maxRecDepth 100000 in
theorem fc_ci4_165 (hK : zKK ST) (hb4 : sx_bit Wm 4 = true) (hT : zTJ φ μ) (hbd : 1 ≤ bud.1 ∧ 25 ≤ bud.2.1) : zC D Wm ST b0 l Sg zM29 bud [(2, 165), (2, 4)] μ (fun st' μ' => st' = [] ∧ zTJ φ μ' ∧ μ' = pm_cpy μ 4 165 12) := by
  refine pm_blk hK zmm29 [] 8 8 [(2, 165), (2, 4)] [(0, 12), (0, 12), (0, 0), (2, 4), (0, 0), (2, 165)] μ [] rfl trivial ?_
  refine pm_call hK zmm29 (427, 1, 30, 2) zM30 (0, 0) [(0, 12), (0, 12)] [(0, 0), (2, 4), (0, 0), (2, 165)] rfl rfl rfl rfl ⟨by omega, by rw [zn30]; omega⟩ (zh_min hK ⟨Nat.le_refl _, Nat.le_refl _⟩) (fun st1 μc1 hp1 => ?_)
  obtain ⟨rfl, rfl⟩ := hp1
  refine zp_acw hK zmm29 (idx := 432) (r := 4) (r' := 165) (n := 12) (g := zG4) (g' := zG165) (t := (0, -1, 999)) (t' := (0, -1, 999)) (List.mem_of_getElem? (i := 0) rfl) rfl rfl rfl ⟨rfl, rfl, rfl, rfl⟩ ⟨rfl, rfl, rfl⟩ hb4 ⟨by omega, by have h9 : pm_cs [] = 0 := rfl; omega⟩ (by decide) ?_
  exact pm_vret rfl rfl ⟨rfl, zTJ_cpy hT (t := (0, -1, 999)) (g := zG4) (g' := zG165) rfl rfl (by decide) ⟨by decide, rfl⟩ ⟨by decide, rfl, rfl⟩ rfl rfl, rfl⟩
set_option maxRecDepth 100000 in
theorem fc_ci5_166 (hK : zKK ST) (hb5 : sx_bit Wm 5 = true) (hT : zTJ φ μ) (hbd : 1 ≤ bud.1 ∧ 25 ≤ bud.2.1) : zC D Wm ST b0 l Sg zM29 bud [(2, 166), (2, 5)] μ (fun st' μ' => st' = [] ∧ zTJ φ μ' ∧ μ' = pm_cpy μ 5 166 12) := by
  refine pm_blk hK zmm29 [] 8 8 [(2, 166), (2, 5)] [(0, 12), (0, 12), (0, 0), (2, 5), (0, 0), (2, 166)] μ [] rfl trivial ?_
  refine pm_call hK zmm29 (427, 1, 30, 2) zM30 (0, 0) [(0, 12), (0, 12)] [(0, 0), (2, 5), (0, 0), (2, 166)] rfl rfl rfl rfl ⟨by omega, by rw [zn30]; omega⟩ (zh_min hK ⟨Nat.le_refl _, Nat.le_refl _⟩) (fun st1 μc1 hp1 => ?_)
  obtain ⟨rfl, rfl⟩ := hp1
  refine zp_acw hK zmm29 (idx := 432) (r := 5) (r' := 166) (n := 12) (g := zG5) (g' := zG166) (t := (0, -1, 999)) (t' := (0, -1, 999)) (List.mem_of_getElem? (i := 0) rfl) rfl rfl rfl ⟨rfl, rfl, rfl, rfl⟩ ⟨rfl, rfl, rfl⟩ hb5 ⟨by omega, by have h9 : pm_cs [] = 0 := rfl; omega⟩ (by decide) ?_
  exact pm_vret rfl rfl ⟨rfl, zTJ_cpy hT (t := (0, -1, 999)) (g := zG5) (g' := zG166) rfl rfl (by decide) ⟨by decide, rfl⟩ ⟨by decide, rfl, rfl⟩ rfl rfl, rfl⟩
set_option maxRecDepth 100000 in
theorem fc_ci6_167 (hK : zKK ST) (hb6 : sx_bit Wm 6 = true) (hT : zTJ φ μ) (hbd : 1 ≤ bud.1 ∧ 25 ≤ bud.2.1) : zC D Wm ST b0 l Sg zM29 bud [(2, 167), (2, 6)] μ (fun st' μ' => st' = [] ∧ zTJ φ μ' ∧ μ' = pm_cpy μ 6 167 12) := by
  refine pm_blk hK zmm29 [] 8 8 [(2, 167), (2, 6)] [(0, 12), (0, 12), (0, 0), (2, 6), (0, 0), (2, 167)] μ [] rfl trivial ?_
  refine pm_call hK zmm29 (427, 1, 30, 2) zM30 (0, 0) [(0, 12), (0, 12)] [(0, 0), (2, 6), (0, 0), (2, 167)] rfl rfl rfl rfl ⟨by omega, by rw [zn30]; omega⟩ (zh_min hK ⟨Nat.le_refl _, Nat.le_refl _⟩) (fun st1 μc1 hp1 => ?_)
  obtain ⟨rfl, rfl⟩ := hp1
  refine zp_acw hK zmm29 (idx := 432) (r := 6) (r' := 167) (n := 12) (g := zG6) (g' := zG167) (t := (0, -2147483648, 2147483647)) (t' := (0, -2147483648, 2147483647)) (List.mem_of_getElem? (i := 0) rfl) rfl rfl rfl ⟨rfl, rfl, rfl, rfl⟩ ⟨rfl, rfl, rfl⟩ hb6 ⟨by omega, by have h9 : pm_cs [] = 0 := rfl; omega⟩ (by decide) ?_
  exact pm_vret rfl rfl ⟨rfl, zTJ_cpy hT (t := (0, -2147483648, 2147483647)) (g := zG6) (g' := zG167) rfl rfl (by decide) ⟨by decide, rfl⟩ ⟨by decide, rfl, rfl⟩ rfl rfl, rfl⟩
set_option maxRecDepth 100000 in
theorem fc_ci7_168 (hK : zKK ST) (hb7 : sx_bit Wm 7 = true) (hT : zTJ φ μ) (hbd : 1 ≤ bud.1 ∧ 25 ≤ bud.2.1) : zC D Wm ST b0 l Sg zM29 bud [(2, 168), (2, 7)] μ (fun st' μ' => st' = [] ∧ zTJ φ μ' ∧ μ' = pm_cpy μ 7 168 12) := by
  refine pm_blk hK zmm29 [] 8 8 [(2, 168), (2, 7)] [(0, 12), (0, 12), (0, 0), (2, 7), (0, 0), (2, 168)] μ [] rfl trivial ?_
  refine pm_call hK zmm29 (427, 1, 30, 2) zM30 (0, 0) [(0, 12), (0, 12)] [(0, 0), (2, 7), (0, 0), (2, 168)] rfl rfl rfl rfl ⟨by omega, by rw [zn30]; omega⟩ (zh_min hK ⟨Nat.le_refl _, Nat.le_refl _⟩) (fun st1 μc1 hp1 => ?_)
  obtain ⟨rfl, rfl⟩ := hp1
  refine zp_acw hK zmm29 (idx := 432) (r := 7) (r' := 168) (n := 12) (g := zG7) (g' := zG168) (t := (0, 0, 1)) (t' := (0, 0, 1)) (List.mem_of_getElem? (i := 0) rfl) rfl rfl rfl ⟨rfl, rfl, rfl, rfl⟩ ⟨rfl, rfl, rfl⟩ hb7 ⟨by omega, by have h9 : pm_cs [] = 0 := rfl; omega⟩ (by decide) ?_
  exact pm_vret rfl rfl ⟨rfl, zTJ_cpy hT (t := (0, 0, 1)) (g := zG7) (g' := zG168) rfl rfl (by decide) ⟨by decide, rfl⟩ ⟨by decide, rfl, rfl⟩ rfl rfl, rfl⟩
set_option maxRecDepth 100000 in
theorem fc_ci8_169 (hK : zKK ST) (hb8 : sx_bit Wm 8 = true) (hT : zTJ φ μ) (hbd : 1 ≤ bud.1 ∧ 25 ≤ bud.2.1) : zC D Wm ST b0 l Sg zM29 bud [(2, 169), (2, 8)] μ (fun st' μ' => st' = [] ∧ zTJ φ μ' ∧ μ' = pm_cpy μ 8 169 12) := by
  refine pm_blk hK zmm29 [] 8 8 [(2, 169), (2, 8)] [(0, 12), (0, 12), (0, 0), (2, 8), (0, 0), (2, 169)] μ [] rfl trivial ?_
  refine pm_call hK zmm29 (427, 1, 30, 2) zM30 (0, 0) [(0, 12), (0, 12)] [(0, 0), (2, 8), (0, 0), (2, 169)] rfl rfl rfl rfl ⟨by omega, by rw [zn30]; omega⟩ (zh_min hK ⟨Nat.le_refl _, Nat.le_refl _⟩) (fun st1 μc1 hp1 => ?_)
  obtain ⟨rfl, rfl⟩ := hp1
  refine zp_acw hK zmm29 (idx := 432) (r := 8) (r' := 169) (n := 12) (g := zG8) (g' := zG169) (t := (0, -1, 17)) (t' := (0, -1, 17)) (List.mem_of_getElem? (i := 0) rfl) rfl rfl rfl ⟨rfl, rfl, rfl, rfl⟩ ⟨rfl, rfl, rfl⟩ hb8 ⟨by omega, by have h9 : pm_cs [] = 0 := rfl; omega⟩ (by decide) ?_
  exact pm_vret rfl rfl ⟨rfl, zTJ_cpy hT (t := (0, -1, 17)) (g := zG8) (g' := zG169) rfl rfl (by decide) ⟨by decide, rfl⟩ ⟨by decide, rfl, rfl⟩ rfl rfl, rfl⟩
set_option maxRecDepth 100000 in
theorem fc_ci9_170 (hK : zKK ST) (hb9 : sx_bit Wm 9 = true) (hT : zTJ φ μ) (hbd : 1 ≤ bud.1 ∧ 25 ≤ bud.2.1) : zC D Wm ST b0 l Sg zM29 bud [(2, 170), (2, 9)] μ (fun st' μ' => st' = [] ∧ zTJ φ μ' ∧ μ' = pm_cpy μ 9 170 12) := by
  refine pm_blk hK zmm29 [] 8 8 [(2, 170), (2, 9)] [(0, 12), (0, 12), (0, 0), (2, 9), (0, 0), (2, 170)] μ [] rfl trivial ?_
  refine pm_call hK zmm29 (427, 1, 30, 2) zM30 (0, 0) [(0, 12), (0, 12)] [(0, 0), (2, 9), (0, 0), (2, 170)] rfl rfl rfl rfl ⟨by omega, by rw [zn30]; omega⟩ (zh_min hK ⟨Nat.le_refl _, Nat.le_refl _⟩) (fun st1 μc1 hp1 => ?_)
  obtain ⟨rfl, rfl⟩ := hp1
  refine zp_acw hK zmm29 (idx := 432) (r := 9) (r' := 170) (n := 12) (g := zG9) (g' := zG170) (t := (0, -1, 17)) (t' := (0, -1, 17)) (List.mem_of_getElem? (i := 0) rfl) rfl rfl rfl ⟨rfl, rfl, rfl, rfl⟩ ⟨rfl, rfl, rfl⟩ hb9 ⟨by omega, by have h9 : pm_cs [] = 0 := rfl; omega⟩ (by decide) ?_
  exact pm_vret rfl rfl ⟨rfl, zTJ_cpy hT (t := (0, -1, 17)) (g := zG9) (g' := zG170) rfl rfl (by decide) ⟨by decide, rfl⟩ ⟨by decide, rfl, rfl⟩ rfl rfl, rfl⟩
set_option maxRecDepth 100000 in
theorem fc_ci10_171 (hK : zKK ST) (hb10 : sx_bit Wm 10 = true) (hT : zTJ φ μ) (hbd : 1 ≤ bud.1 ∧ 25 ≤ bud.2.1) : zC D Wm ST b0 l Sg zM29 bud [(2, 171), (2, 10)] μ (fun st' μ' => st' = [] ∧ zTJ φ μ' ∧ μ' = pm_cpy μ 10 171 12) := by
  refine pm_blk hK zmm29 [] 8 8 [(2, 171), (2, 10)] [(0, 12), (0, 12), (0, 0), (2, 10), (0, 0), (2, 171)] μ [] rfl trivial ?_
  refine pm_call hK zmm29 (427, 1, 30, 2) zM30 (0, 0) [(0, 12), (0, 12)] [(0, 0), (2, 10), (0, 0), (2, 171)] rfl rfl rfl rfl ⟨by omega, by rw [zn30]; omega⟩ (zh_min hK ⟨Nat.le_refl _, Nat.le_refl _⟩) (fun st1 μc1 hp1 => ?_)
  obtain ⟨rfl, rfl⟩ := hp1
  refine zp_acw hK zmm29 (idx := 432) (r := 10) (r' := 171) (n := 12) (g := zG10) (g' := zG171) (t := (0, -2147483648, 2147483647)) (t' := (0, -2147483648, 2147483647)) (List.mem_of_getElem? (i := 0) rfl) rfl rfl rfl ⟨rfl, rfl, rfl, rfl⟩ ⟨rfl, rfl, rfl⟩ hb10 ⟨by omega, by have h9 : pm_cs [] = 0 := rfl; omega⟩ (by decide) ?_
  exact pm_vret rfl rfl ⟨rfl, zTJ_cpy hT (t := (0, -2147483648, 2147483647)) (g := zG10) (g' := zG171) rfl rfl (by decide) ⟨by decide, rfl⟩ ⟨by decide, rfl, rfl⟩ rfl rfl, rfl⟩
set_option maxRecDepth 100000 in
theorem fc_ci11_172 (hK : zKK ST) (hb11 : sx_bit Wm 11 = true) (hT : zTJ φ μ) (hbd : 1 ≤ bud.1 ∧ 25 ≤ bud.2.1) : zC D Wm ST b0 l Sg zM29 bud [(2, 172), (2, 11)] μ (fun st' μ' => st' = [] ∧ zTJ φ μ' ∧ μ' = pm_cpy μ 11 172 18) := by
  refine pm_blk hK zmm29 [] 8 8 [(2, 172), (2, 11)] [(0, 18), (0, 18), (0, 0), (2, 11), (0, 0), (2, 172)] μ [] rfl trivial ?_
  refine pm_call hK zmm29 (427, 1, 30, 2) zM30 (0, 0) [(0, 18), (0, 18)] [(0, 0), (2, 11), (0, 0), (2, 172)] rfl rfl rfl rfl ⟨by omega, by rw [zn30]; omega⟩ (zh_min hK ⟨Nat.le_refl _, Nat.le_refl _⟩) (fun st1 μc1 hp1 => ?_)
  obtain ⟨rfl, rfl⟩ := hp1
  refine zp_acw hK zmm29 (idx := 432) (r := 11) (r' := 172) (n := 18) (g := zG11) (g' := zG172) (t := (0, -2147483648, 9999)) (t' := (0, -2147483648, 9999)) (List.mem_of_getElem? (i := 0) rfl) rfl rfl rfl ⟨rfl, rfl, rfl, rfl⟩ ⟨rfl, rfl, rfl⟩ hb11 ⟨by omega, by have h9 : pm_cs [] = 0 := rfl; omega⟩ (by decide) ?_
  exact pm_vret rfl rfl ⟨rfl, zTJ_cpy hT (t := (0, -2147483648, 9999)) (g := zG11) (g' := zG172) rfl rfl (by decide) ⟨by decide, rfl⟩ ⟨by decide, rfl, rfl⟩ rfl rfl, rfl⟩
set_option maxRecDepth 100000 in
theorem fc_ci12_173 (hK : zKK ST) (hb12 : sx_bit Wm 12 = true) (hT : zTJ φ μ) (hbd : 1 ≤ bud.1 ∧ 25 ≤ bud.2.1) : zC D Wm ST b0 l Sg zM29 bud [(2, 173), (2, 12)] μ (fun st' μ' => st' = [] ∧ zTJ φ μ' ∧ μ' = pm_cpy μ 12 173 18) := by
  refine pm_blk hK zmm29 [] 8 8 [(2, 173), (2, 12)] [(0, 18), (0, 18), (0, 0), (2, 12), (0, 0), (2, 173)] μ [] rfl trivial ?_
  refine pm_call hK zmm29 (427, 1, 30, 2) zM30 (0, 0) [(0, 18), (0, 18)] [(0, 0), (2, 12), (0, 0), (2, 173)] rfl rfl rfl rfl ⟨by omega, by rw [zn30]; omega⟩ (zh_min hK ⟨Nat.le_refl _, Nat.le_refl _⟩) (fun st1 μc1 hp1 => ?_)
  obtain ⟨rfl, rfl⟩ := hp1
  refine zp_acw hK zmm29 (idx := 432) (r := 12) (r' := 173) (n := 18) (g := zG12) (g' := zG173) (t := (0, 0, 9)) (t' := (0, 0, 9)) (List.mem_of_getElem? (i := 0) rfl) rfl rfl rfl ⟨rfl, rfl, rfl, rfl⟩ ⟨rfl, rfl, rfl⟩ hb12 ⟨by omega, by have h9 : pm_cs [] = 0 := rfl; omega⟩ (by decide) ?_
  exact pm_vret rfl rfl ⟨rfl, zTJ_cpy hT (t := (0, 0, 9)) (g := zG12) (g' := zG173) rfl rfl (by decide) ⟨by decide, rfl⟩ ⟨by decide, rfl, rfl⟩ rfl rfl, rfl⟩
set_option maxRecDepth 100000 in
theorem fc_ci13_174 (hK : zKK ST) (hb13 : sx_bit Wm 13 = true) (hT : zTJ φ μ) (hbd : 1 ≤ bud.1 ∧ 25 ≤ bud.2.1) : zC D Wm ST b0 l Sg zM29 bud [(2, 174), (2, 13)] μ (fun st' μ' => st' = [] ∧ zTJ φ μ' ∧ μ' = pm_cpy μ 13 174 18) := by
  refine pm_blk hK zmm29 [] 8 8 [(2, 174), (2, 13)] [(0, 18), (0, 18), (0, 0), (2, 13), (0, 0), (2, 174)] μ [] rfl trivial ?_
  refine pm_call hK zmm29 (427, 1, 30, 2) zM30 (0, 0) [(0, 18), (0, 18)] [(0, 0), (2, 13), (0, 0), (2, 174)] rfl rfl rfl rfl ⟨by omega, by rw [zn30]; omega⟩ (zh_min hK ⟨Nat.le_refl _, Nat.le_refl _⟩) (fun st1 μc1 hp1 => ?_)
  obtain ⟨rfl, rfl⟩ := hp1
  refine zp_acw hK zmm29 (idx := 432) (r := 13) (r' := 174) (n := 18) (g := zG13) (g' := zG174) (t := (0, -1, 11)) (t' := (0, -1, 11)) (List.mem_of_getElem? (i := 0) rfl) rfl rfl rfl ⟨rfl, rfl, rfl, rfl⟩ ⟨rfl, rfl, rfl⟩ hb13 ⟨by omega, by have h9 : pm_cs [] = 0 := rfl; omega⟩ (by decide) ?_
  exact pm_vret rfl rfl ⟨rfl, zTJ_cpy hT (t := (0, -1, 11)) (g := zG13) (g' := zG174) rfl rfl (by decide) ⟨by decide, rfl⟩ ⟨by decide, rfl, rfl⟩ rfl rfl, rfl⟩
set_option maxRecDepth 100000 in
theorem fc_ci14_175 (hK : zKK ST) (hb14 : sx_bit Wm 14 = true) (hT : zTJ φ μ) (hbd : 1 ≤ bud.1 ∧ 25 ≤ bud.2.1) : zC D Wm ST b0 l Sg zM29 bud [(2, 175), (2, 14)] μ (fun st' μ' => st' = [] ∧ zTJ φ μ' ∧ μ' = pm_cpy μ 14 175 18) := by
  refine pm_blk hK zmm29 [] 8 8 [(2, 175), (2, 14)] [(0, 18), (0, 18), (0, 0), (2, 14), (0, 0), (2, 175)] μ [] rfl trivial ?_
  refine pm_call hK zmm29 (427, 1, 30, 2) zM30 (0, 0) [(0, 18), (0, 18)] [(0, 0), (2, 14), (0, 0), (2, 175)] rfl rfl rfl rfl ⟨by omega, by rw [zn30]; omega⟩ (zh_min hK ⟨Nat.le_refl _, Nat.le_refl _⟩) (fun st1 μc1 hp1 => ?_)
  obtain ⟨rfl, rfl⟩ := hp1
  refine zp_acw hK zmm29 (idx := 432) (r := 14) (r' := 175) (n := 18) (g := zG14) (g' := zG175) (t := (0, -2147483648, 2147483647)) (t' := (0, -2147483648, 2147483647)) (List.mem_of_getElem? (i := 0) rfl) rfl rfl rfl ⟨rfl, rfl, rfl, rfl⟩ ⟨rfl, rfl, rfl⟩ hb14 ⟨by omega, by have h9 : pm_cs [] = 0 := rfl; omega⟩ (by decide) ?_
  exact pm_vret rfl rfl ⟨rfl, zTJ_cpy hT (t := (0, -2147483648, 2147483647)) (g := zG14) (g' := zG175) rfl rfl (by decide) ⟨by decide, rfl⟩ ⟨by decide, rfl, rfl⟩ rfl rfl, rfl⟩
set_option maxRecDepth 100000 in
theorem fc_ci15_176 (hK : zKK ST) (hb15 : sx_bit Wm 15 = true) (hT : zTJ φ μ) (hbd : 1 ≤ bud.1 ∧ 25 ≤ bud.2.1) : zC D Wm ST b0 l Sg zM29 bud [(2, 176), (2, 15)] μ (fun st' μ' => st' = [] ∧ zTJ φ μ' ∧ μ' = pm_cpy μ 15 176 18) := by
  refine pm_blk hK zmm29 [] 8 8 [(2, 176), (2, 15)] [(0, 18), (0, 18), (0, 0), (2, 15), (0, 0), (2, 176)] μ [] rfl trivial ?_
  refine pm_call hK zmm29 (427, 1, 30, 2) zM30 (0, 0) [(0, 18), (0, 18)] [(0, 0), (2, 15), (0, 0), (2, 176)] rfl rfl rfl rfl ⟨by omega, by rw [zn30]; omega⟩ (zh_min hK ⟨Nat.le_refl _, Nat.le_refl _⟩) (fun st1 μc1 hp1 => ?_)
  obtain ⟨rfl, rfl⟩ := hp1
  refine zp_acw hK zmm29 (idx := 432) (r := 15) (r' := 176) (n := 18) (g := zG15) (g' := zG176) (t := (0, -2147483648, 2147483647)) (t' := (0, -2147483648, 2147483647)) (List.mem_of_getElem? (i := 0) rfl) rfl rfl rfl ⟨rfl, rfl, rfl, rfl⟩ ⟨rfl, rfl, rfl⟩ hb15 ⟨by omega, by have h9 : pm_cs [] = 0 := rfl; omega⟩ (by decide) ?_
  exact pm_vret rfl rfl ⟨rfl, zTJ_cpy hT (t := (0, -2147483648, 2147483647)) (g := zG15) (g' := zG176) rfl rfl (by decide) ⟨by decide, rfl⟩ ⟨by decide, rfl, rfl⟩ rfl rfl, rfl⟩
set_option maxRecDepth 100000 in
theorem fc_ci4_47 (hK : zKK ST) (hb4 : sx_bit Wm 4 = true) (hT : zTJ φ μ) (hbd : 1 ≤ bud.1 ∧ 25 ≤ bud.2.1) : zC D Wm ST b0 l Sg zM29 bud [(2, 47), (2, 4)] μ (fun st' μ' => st' = [] ∧ zTJ φ μ' ∧ μ' = pm_cpy μ 4 47 12) := by
  refine pm_blk hK zmm29 [] 8 8 [(2, 47), (2, 4)] [(0, 12), (0, 12), (0, 0), (2, 4), (0, 0), (2, 47)] μ [] rfl trivial ?_
  refine pm_call hK zmm29 (427, 1, 30, 2) zM30 (0, 0) [(0, 12), (0, 12)] [(0, 0), (2, 4), (0, 0), (2, 47)] rfl rfl rfl rfl ⟨by omega, by rw [zn30]; omega⟩ (zh_min hK ⟨Nat.le_refl _, Nat.le_refl _⟩) (fun st1 μc1 hp1 => ?_)
  obtain ⟨rfl, rfl⟩ := hp1
  refine zp_acw hK zmm29 (idx := 432) (r := 4) (r' := 47) (n := 12) (g := zG4) (g' := zG47) (t := (0, -1, 999)) (t' := (0, -1, 999)) (List.mem_of_getElem? (i := 0) rfl) rfl rfl rfl ⟨rfl, rfl, rfl, rfl⟩ ⟨rfl, rfl, rfl⟩ hb4 ⟨by omega, by have h9 : pm_cs [] = 0 := rfl; omega⟩ (by decide) ?_
  exact pm_vret rfl rfl ⟨rfl, zTJ_cpy hT (t := (0, -1, 999)) (g := zG4) (g' := zG47) rfl rfl (by decide) ⟨by decide, rfl⟩ ⟨by decide, rfl, rfl⟩ rfl rfl, rfl⟩
set_option maxRecDepth 100000 in
theorem fc_ci5_48 (hK : zKK ST) (hb5 : sx_bit Wm 5 = true) (hT : zTJ φ μ) (hbd : 1 ≤ bud.1 ∧ 25 ≤ bud.2.1) : zC D Wm ST b0 l Sg zM29 bud [(2, 48), (2, 5)] μ (fun st' μ' => st' = [] ∧ zTJ φ μ' ∧ μ' = pm_cpy μ 5 48 12) := by
  refine pm_blk hK zmm29 [] 8 8 [(2, 48), (2, 5)] [(0, 12), (0, 12), (0, 0), (2, 5), (0, 0), (2, 48)] μ [] rfl trivial ?_
  refine pm_call hK zmm29 (427, 1, 30, 2) zM30 (0, 0) [(0, 12), (0, 12)] [(0, 0), (2, 5), (0, 0), (2, 48)] rfl rfl rfl rfl ⟨by omega, by rw [zn30]; omega⟩ (zh_min hK ⟨Nat.le_refl _, Nat.le_refl _⟩) (fun st1 μc1 hp1 => ?_)
  obtain ⟨rfl, rfl⟩ := hp1
  refine zp_acw hK zmm29 (idx := 432) (r := 5) (r' := 48) (n := 12) (g := zG5) (g' := zG48) (t := (0, -1, 999)) (t' := (0, -1, 999)) (List.mem_of_getElem? (i := 0) rfl) rfl rfl rfl ⟨rfl, rfl, rfl, rfl⟩ ⟨rfl, rfl, rfl⟩ hb5 ⟨by omega, by have h9 : pm_cs [] = 0 := rfl; omega⟩ (by decide) ?_
  exact pm_vret rfl rfl ⟨rfl, zTJ_cpy hT (t := (0, -1, 999)) (g := zG5) (g' := zG48) rfl rfl (by decide) ⟨by decide, rfl⟩ ⟨by decide, rfl, rfl⟩ rfl rfl, rfl⟩
set_option maxRecDepth 100000 in
theorem fc_ci6_49 (hK : zKK ST) (hb6 : sx_bit Wm 6 = true) (hT : zTJ φ μ) (hbd : 1 ≤ bud.1 ∧ 25 ≤ bud.2.1) : zC D Wm ST b0 l Sg zM29 bud [(2, 49), (2, 6)] μ (fun st' μ' => st' = [] ∧ zTJ φ μ' ∧ μ' = pm_cpy μ 6 49 12) := by
  refine pm_blk hK zmm29 [] 8 8 [(2, 49), (2, 6)] [(0, 12), (0, 12), (0, 0), (2, 6), (0, 0), (2, 49)] μ [] rfl trivial ?_
  refine pm_call hK zmm29 (427, 1, 30, 2) zM30 (0, 0) [(0, 12), (0, 12)] [(0, 0), (2, 6), (0, 0), (2, 49)] rfl rfl rfl rfl ⟨by omega, by rw [zn30]; omega⟩ (zh_min hK ⟨Nat.le_refl _, Nat.le_refl _⟩) (fun st1 μc1 hp1 => ?_)
  obtain ⟨rfl, rfl⟩ := hp1
  refine zp_acw hK zmm29 (idx := 432) (r := 6) (r' := 49) (n := 12) (g := zG6) (g' := zG49) (t := (0, -2147483648, 2147483647)) (t' := (0, -2147483648, 2147483647)) (List.mem_of_getElem? (i := 0) rfl) rfl rfl rfl ⟨rfl, rfl, rfl, rfl⟩ ⟨rfl, rfl, rfl⟩ hb6 ⟨by omega, by have h9 : pm_cs [] = 0 := rfl; omega⟩ (by decide) ?_
  exact pm_vret rfl rfl ⟨rfl, zTJ_cpy hT (t := (0, -2147483648, 2147483647)) (g := zG6) (g' := zG49) rfl rfl (by decide) ⟨by decide, rfl⟩ ⟨by decide, rfl, rfl⟩ rfl rfl, rfl⟩
set_option maxRecDepth 100000 in
theorem fc_ci7_50 (hK : zKK ST) (hb7 : sx_bit Wm 7 = true) (hT : zTJ φ μ) (hbd : 1 ≤ bud.1 ∧ 25 ≤ bud.2.1) : zC D Wm ST b0 l Sg zM29 bud [(2, 50), (2, 7)] μ (fun st' μ' => st' = [] ∧ zTJ φ μ' ∧ μ' = pm_cpy μ 7 50 12) := by
  refine pm_blk hK zmm29 [] 8 8 [(2, 50), (2, 7)] [(0, 12), (0, 12), (0, 0), (2, 7), (0, 0), (2, 50)] μ [] rfl trivial ?_
  refine pm_call hK zmm29 (427, 1, 30, 2) zM30 (0, 0) [(0, 12), (0, 12)] [(0, 0), (2, 7), (0, 0), (2, 50)] rfl rfl rfl rfl ⟨by omega, by rw [zn30]; omega⟩ (zh_min hK ⟨Nat.le_refl _, Nat.le_refl _⟩) (fun st1 μc1 hp1 => ?_)
  obtain ⟨rfl, rfl⟩ := hp1
  refine zp_acw hK zmm29 (idx := 432) (r := 7) (r' := 50) (n := 12) (g := zG7) (g' := zG50) (t := (0, 0, 1)) (t' := (0, 0, 1)) (List.mem_of_getElem? (i := 0) rfl) rfl rfl rfl ⟨rfl, rfl, rfl, rfl⟩ ⟨rfl, rfl, rfl⟩ hb7 ⟨by omega, by have h9 : pm_cs [] = 0 := rfl; omega⟩ (by decide) ?_
  exact pm_vret rfl rfl ⟨rfl, zTJ_cpy hT (t := (0, 0, 1)) (g := zG7) (g' := zG50) rfl rfl (by decide) ⟨by decide, rfl⟩ ⟨by decide, rfl, rfl⟩ rfl rfl, rfl⟩
set_option maxRecDepth 100000 in
theorem fc_ci8_51 (hK : zKK ST) (hb8 : sx_bit Wm 8 = true) (hT : zTJ φ μ) (hbd : 1 ≤ bud.1 ∧ 25 ≤ bud.2.1) : zC D Wm ST b0 l Sg zM29 bud [(2, 51), (2, 8)] μ (fun st' μ' => st' = [] ∧ zTJ φ μ' ∧ μ' = pm_cpy μ 8 51 12) := by
  refine pm_blk hK zmm29 [] 8 8 [(2, 51), (2, 8)] [(0, 12), (0, 12), (0, 0), (2, 8), (0, 0), (2, 51)] μ [] rfl trivial ?_
  refine pm_call hK zmm29 (427, 1, 30, 2) zM30 (0, 0) [(0, 12), (0, 12)] [(0, 0), (2, 8), (0, 0), (2, 51)] rfl rfl rfl rfl ⟨by omega, by rw [zn30]; omega⟩ (zh_min hK ⟨Nat.le_refl _, Nat.le_refl _⟩) (fun st1 μc1 hp1 => ?_)
  obtain ⟨rfl, rfl⟩ := hp1
  refine zp_acw hK zmm29 (idx := 432) (r := 8) (r' := 51) (n := 12) (g := zG8) (g' := zG51) (t := (0, -1, 17)) (t' := (0, -1, 17)) (List.mem_of_getElem? (i := 0) rfl) rfl rfl rfl ⟨rfl, rfl, rfl, rfl⟩ ⟨rfl, rfl, rfl⟩ hb8 ⟨by omega, by have h9 : pm_cs [] = 0 := rfl; omega⟩ (by decide) ?_
  exact pm_vret rfl rfl ⟨rfl, zTJ_cpy hT (t := (0, -1, 17)) (g := zG8) (g' := zG51) rfl rfl (by decide) ⟨by decide, rfl⟩ ⟨by decide, rfl, rfl⟩ rfl rfl, rfl⟩
set_option maxRecDepth 100000 in
theorem fc_ci9_52 (hK : zKK ST) (hb9 : sx_bit Wm 9 = true) (hT : zTJ φ μ) (hbd : 1 ≤ bud.1 ∧ 25 ≤ bud.2.1) : zC D Wm ST b0 l Sg zM29 bud [(2, 52), (2, 9)] μ (fun st' μ' => st' = [] ∧ zTJ φ μ' ∧ μ' = pm_cpy μ 9 52 12) := by
  refine pm_blk hK zmm29 [] 8 8 [(2, 52), (2, 9)] [(0, 12), (0, 12), (0, 0), (2, 9), (0, 0), (2, 52)] μ [] rfl trivial ?_
  refine pm_call hK zmm29 (427, 1, 30, 2) zM30 (0, 0) [(0, 12), (0, 12)] [(0, 0), (2, 9), (0, 0), (2, 52)] rfl rfl rfl rfl ⟨by omega, by rw [zn30]; omega⟩ (zh_min hK ⟨Nat.le_refl _, Nat.le_refl _⟩) (fun st1 μc1 hp1 => ?_)
  obtain ⟨rfl, rfl⟩ := hp1
  refine zp_acw hK zmm29 (idx := 432) (r := 9) (r' := 52) (n := 12) (g := zG9) (g' := zG52) (t := (0, -1, 17)) (t' := (0, -1, 17)) (List.mem_of_getElem? (i := 0) rfl) rfl rfl rfl ⟨rfl, rfl, rfl, rfl⟩ ⟨rfl, rfl, rfl⟩ hb9 ⟨by omega, by have h9 : pm_cs [] = 0 := rfl; omega⟩ (by decide) ?_
  exact pm_vret rfl rfl ⟨rfl, zTJ_cpy hT (t := (0, -1, 17)) (g := zG9) (g' := zG52) rfl rfl (by decide) ⟨by decide, rfl⟩ ⟨by decide, rfl, rfl⟩ rfl rfl, rfl⟩
set_option maxRecDepth 100000 in
theorem fc_ci10_53 (hK : zKK ST) (hb10 : sx_bit Wm 10 = true) (hT : zTJ φ μ) (hbd : 1 ≤ bud.1 ∧ 25 ≤ bud.2.1) : zC D Wm ST b0 l Sg zM29 bud [(2, 53), (2, 10)] μ (fun st' μ' => st' = [] ∧ zTJ φ μ' ∧ μ' = pm_cpy μ 10 53 12) := by
  refine pm_blk hK zmm29 [] 8 8 [(2, 53), (2, 10)] [(0, 12), (0, 12), (0, 0), (2, 10), (0, 0), (2, 53)] μ [] rfl trivial ?_
  refine pm_call hK zmm29 (427, 1, 30, 2) zM30 (0, 0) [(0, 12), (0, 12)] [(0, 0), (2, 10), (0, 0), (2, 53)] rfl rfl rfl rfl ⟨by omega, by rw [zn30]; omega⟩ (zh_min hK ⟨Nat.le_refl _, Nat.le_refl _⟩) (fun st1 μc1 hp1 => ?_)
  obtain ⟨rfl, rfl⟩ := hp1
  refine zp_acw hK zmm29 (idx := 432) (r := 10) (r' := 53) (n := 12) (g := zG10) (g' := zG53) (t := (0, -2147483648, 2147483647)) (t' := (0, -2147483648, 2147483647)) (List.mem_of_getElem? (i := 0) rfl) rfl rfl rfl ⟨rfl, rfl, rfl, rfl⟩ ⟨rfl, rfl, rfl⟩ hb10 ⟨by omega, by have h9 : pm_cs [] = 0 := rfl; omega⟩ (by decide) ?_
  exact pm_vret rfl rfl ⟨rfl, zTJ_cpy hT (t := (0, -2147483648, 2147483647)) (g := zG10) (g' := zG53) rfl rfl (by decide) ⟨by decide, rfl⟩ ⟨by decide, rfl, rfl⟩ rfl rfl, rfl⟩
set_option maxRecDepth 100000 in
theorem fc_ci11_54 (hK : zKK ST) (hb11 : sx_bit Wm 11 = true) (hT : zTJ φ μ) (hbd : 1 ≤ bud.1 ∧ 25 ≤ bud.2.1) : zC D Wm ST b0 l Sg zM29 bud [(2, 54), (2, 11)] μ (fun st' μ' => st' = [] ∧ zTJ φ μ' ∧ μ' = pm_cpy μ 11 54 18) := by
  refine pm_blk hK zmm29 [] 8 8 [(2, 54), (2, 11)] [(0, 18), (0, 18), (0, 0), (2, 11), (0, 0), (2, 54)] μ [] rfl trivial ?_
  refine pm_call hK zmm29 (427, 1, 30, 2) zM30 (0, 0) [(0, 18), (0, 18)] [(0, 0), (2, 11), (0, 0), (2, 54)] rfl rfl rfl rfl ⟨by omega, by rw [zn30]; omega⟩ (zh_min hK ⟨Nat.le_refl _, Nat.le_refl _⟩) (fun st1 μc1 hp1 => ?_)
  obtain ⟨rfl, rfl⟩ := hp1
  refine zp_acw hK zmm29 (idx := 432) (r := 11) (r' := 54) (n := 18) (g := zG11) (g' := zG54) (t := (0, -2147483648, 9999)) (t' := (0, -2147483648, 9999)) (List.mem_of_getElem? (i := 0) rfl) rfl rfl rfl ⟨rfl, rfl, rfl, rfl⟩ ⟨rfl, rfl, rfl⟩ hb11 ⟨by omega, by have h9 : pm_cs [] = 0 := rfl; omega⟩ (by decide) ?_
  exact pm_vret rfl rfl ⟨rfl, zTJ_cpy hT (t := (0, -2147483648, 9999)) (g := zG11) (g' := zG54) rfl rfl (by decide) ⟨by decide, rfl⟩ ⟨by decide, rfl, rfl⟩ rfl rfl, rfl⟩
set_option maxRecDepth 100000 in
theorem fc_ci12_55 (hK : zKK ST) (hb12 : sx_bit Wm 12 = true) (hT : zTJ φ μ) (hbd : 1 ≤ bud.1 ∧ 25 ≤ bud.2.1) : zC D Wm ST b0 l Sg zM29 bud [(2, 55), (2, 12)] μ (fun st' μ' => st' = [] ∧ zTJ φ μ' ∧ μ' = pm_cpy μ 12 55 18) := by
  refine pm_blk hK zmm29 [] 8 8 [(2, 55), (2, 12)] [(0, 18), (0, 18), (0, 0), (2, 12), (0, 0), (2, 55)] μ [] rfl trivial ?_
  refine pm_call hK zmm29 (427, 1, 30, 2) zM30 (0, 0) [(0, 18), (0, 18)] [(0, 0), (2, 12), (0, 0), (2, 55)] rfl rfl rfl rfl ⟨by omega, by rw [zn30]; omega⟩ (zh_min hK ⟨Nat.le_refl _, Nat.le_refl _⟩) (fun st1 μc1 hp1 => ?_)
  obtain ⟨rfl, rfl⟩ := hp1
  refine zp_acw hK zmm29 (idx := 432) (r := 12) (r' := 55) (n := 18) (g := zG12) (g' := zG55) (t := (0, 0, 9)) (t' := (0, 0, 9)) (List.mem_of_getElem? (i := 0) rfl) rfl rfl rfl ⟨rfl, rfl, rfl, rfl⟩ ⟨rfl, rfl, rfl⟩ hb12 ⟨by omega, by have h9 : pm_cs [] = 0 := rfl; omega⟩ (by decide) ?_
  exact pm_vret rfl rfl ⟨rfl, zTJ_cpy hT (t := (0, 0, 9)) (g := zG12) (g' := zG55) rfl rfl (by decide) ⟨by decide, rfl⟩ ⟨by decide, rfl, rfl⟩ rfl rfl, rfl⟩
set_option maxRecDepth 100000 in
theorem fc_ci13_56 (hK : zKK ST) (hb13 : sx_bit Wm 13 = true) (hT : zTJ φ μ) (hbd : 1 ≤ bud.1 ∧ 25 ≤ bud.2.1) : zC D Wm ST b0 l Sg zM29 bud [(2, 56), (2, 13)] μ (fun st' μ' => st' = [] ∧ zTJ φ μ' ∧ μ' = pm_cpy μ 13 56 18) := by
  refine pm_blk hK zmm29 [] 8 8 [(2, 56), (2, 13)] [(0, 18), (0, 18), (0, 0), (2, 13), (0, 0), (2, 56)] μ [] rfl trivial ?_
  refine pm_call hK zmm29 (427, 1, 30, 2) zM30 (0, 0) [(0, 18), (0, 18)] [(0, 0), (2, 13), (0, 0), (2, 56)] rfl rfl rfl rfl ⟨by omega, by rw [zn30]; omega⟩ (zh_min hK ⟨Nat.le_refl _, Nat.le_refl _⟩) (fun st1 μc1 hp1 => ?_)
  obtain ⟨rfl, rfl⟩ := hp1
  refine zp_acw hK zmm29 (idx := 432) (r := 13) (r' := 56) (n := 18) (g := zG13) (g' := zG56) (t := (0, -1, 11)) (t' := (0, -1, 11)) (List.mem_of_getElem? (i := 0) rfl) rfl rfl rfl ⟨rfl, rfl, rfl, rfl⟩ ⟨rfl, rfl, rfl⟩ hb13 ⟨by omega, by have h9 : pm_cs [] = 0 := rfl; omega⟩ (by decide) ?_
  exact pm_vret rfl rfl ⟨rfl, zTJ_cpy hT (t := (0, -1, 11)) (g := zG13) (g' := zG56) rfl rfl (by decide) ⟨by decide, rfl⟩ ⟨by decide, rfl, rfl⟩ rfl rfl, rfl⟩
set_option maxRecDepth 100000 in
theorem fc_ci14_57 (hK : zKK ST) (hb14 : sx_bit Wm 14 = true) (hT : zTJ φ μ) (hbd : 1 ≤ bud.1 ∧ 25 ≤ bud.2.1) : zC D Wm ST b0 l Sg zM29 bud [(2, 57), (2, 14)] μ (fun st' μ' => st' = [] ∧ zTJ φ μ' ∧ μ' = pm_cpy μ 14 57 18) := by
  refine pm_blk hK zmm29 [] 8 8 [(2, 57), (2, 14)] [(0, 18), (0, 18), (0, 0), (2, 14), (0, 0), (2, 57)] μ [] rfl trivial ?_
  refine pm_call hK zmm29 (427, 1, 30, 2) zM30 (0, 0) [(0, 18), (0, 18)] [(0, 0), (2, 14), (0, 0), (2, 57)] rfl rfl rfl rfl ⟨by omega, by rw [zn30]; omega⟩ (zh_min hK ⟨Nat.le_refl _, Nat.le_refl _⟩) (fun st1 μc1 hp1 => ?_)
  obtain ⟨rfl, rfl⟩ := hp1
  refine zp_acw hK zmm29 (idx := 432) (r := 14) (r' := 57) (n := 18) (g := zG14) (g' := zG57) (t := (0, -2147483648, 2147483647)) (t' := (0, -2147483648, 2147483647)) (List.mem_of_getElem? (i := 0) rfl) rfl rfl rfl ⟨rfl, rfl, rfl, rfl⟩ ⟨rfl, rfl, rfl⟩ hb14 ⟨by omega, by have h9 : pm_cs [] = 0 := rfl; omega⟩ (by decide) ?_
  exact pm_vret rfl rfl ⟨rfl, zTJ_cpy hT (t := (0, -2147483648, 2147483647)) (g := zG14) (g' := zG57) rfl rfl (by decide) ⟨by decide, rfl⟩ ⟨by decide, rfl, rfl⟩ rfl rfl, rfl⟩
set_option maxRecDepth 100000 in
theorem fc_ci15_58 (hK : zKK ST) (hb15 : sx_bit Wm 15 = true) (hT : zTJ φ μ) (hbd : 1 ≤ bud.1 ∧ 25 ≤ bud.2.1) : zC D Wm ST b0 l Sg zM29 bud [(2, 58), (2, 15)] μ (fun st' μ' => st' = [] ∧ zTJ φ μ' ∧ μ' = pm_cpy μ 15 58 18) := by
  refine pm_blk hK zmm29 [] 8 8 [(2, 58), (2, 15)] [(0, 18), (0, 18), (0, 0), (2, 15), (0, 0), (2, 58)] μ [] rfl trivial ?_
  refine pm_call hK zmm29 (427, 1, 30, 2) zM30 (0, 0) [(0, 18), (0, 18)] [(0, 0), (2, 15), (0, 0), (2, 58)] rfl rfl rfl rfl ⟨by omega, by rw [zn30]; omega⟩ (zh_min hK ⟨Nat.le_refl _, Nat.le_refl _⟩) (fun st1 μc1 hp1 => ?_)
  obtain ⟨rfl, rfl⟩ := hp1
  refine zp_acw hK zmm29 (idx := 432) (r := 15) (r' := 58) (n := 18) (g := zG15) (g' := zG58) (t := (0, -2147483648, 2147483647)) (t' := (0, -2147483648, 2147483647)) (List.mem_of_getElem? (i := 0) rfl) rfl rfl rfl ⟨rfl, rfl, rfl, rfl⟩ ⟨rfl, rfl, rfl⟩ hb15 ⟨by omega, by have h9 : pm_cs [] = 0 := rfl; omega⟩ (by decide) ?_
  exact pm_vret rfl rfl ⟨rfl, zTJ_cpy hT (t := (0, -2147483648, 2147483647)) (g := zG15) (g' := zG58) rfl rfl (by decide) ⟨by decide, rfl⟩ ⟨by decide, rfl, rfl⟩ rfl rfl, rfl⟩
end ZHW
