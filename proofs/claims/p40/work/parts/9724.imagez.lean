/-! the image of the class, told wholly; walks printed by program (wip/p30/pmgen.py) and filled by hand -/
section ZHW
variable {D : va_G} {Wm : Nat} {ST : List (String × String × String × Nat)} {b0 : sx_B} {l : Launch} {Sg : Nat → Option Nat} {bud : sx_Bu} {μ : pm_Mem} {B0 : Nat → Prop} {J : (Nat → Option Nat) → Heap → Prop}
set_option maxRecDepth 100000 in
theorem zh_rz33 (hK : zKK ST) (hw : sx_Wd zNR zRT2 B0 Sg) (hC239 : zCK none D ST B0 l Sg zC239) (hs239 : sx_subm zC239.2.2.2.2.2 Wm = true) (hT : zTJ none μ) (hb33 : sx_bit Wm 33 = true) (hbd : 2 ≤ bud.1 ∧ 101 ≤ bud.2.1) : zC D Wm ST (sx_bW zRT2 Wm B0 Sg, J) l Sg zM121 bud [(2, 33), (2, 76)] μ (fun st' μ' => st' = [] ∧ zTJ none μ' ∧ (∀ q ∈ zRq, q ≠ (33, 1) → μ' q.1 (q.2 : Int) = μ q.1 (q.2 : Int)) ∧ μ' 33 1 = μ 76 1) := by
  refine pm_blk hK zmm121 [] 4 8 [(2, 33), (2, 76)] [(2, 34), (2, 77)] μ [] rfl trivial ?_
  refine pm_ccall hK zmm121 hC239 hw zGm_lt zJ_loc (23, 1, 29, 2) zM29 [(2, 77), (2, 34)] [] rfl rfl rfl rfl rfl ⟨by have e : zC239.2.2.2.1 = 1 := rfl; omega, by have e : zC239.2.2.2.2.1 = 80 := rfl; rw [zn29]; omega⟩ hs239 rfl (fun t ht => by cases ht) ⟨rfl, fun h => absurd h (by decide), fun _ => rfl, rfl, fun h => absurd h (by decide), fun _ => rfl, trivial⟩ (zTy_T hw hT.1) hT.2 (fun st1 μc1 hp1 hTt1 hJ1 hfr1 => ?_)
  obtain rfl := hp1
  have hTc1 : zTJ none μc1 := ⟨zTy_of hw hTt1, hJ1⟩
  have n1 := zRq_fr hfr1 (by decide +kernel)
  have f1 := zT_get hTc1 zs76_1 (i := 1) (by omega) (by omega)
  refine pm_blk hK zmm121 [] 4 19 [(2, 33), (2, 76)] [] (pm_up μc1 33 1 (μc1 76 1)) [sx_bit Wm 33 = true] rfl ⟨hb33, trivial⟩ ?_
  obtain ⟨μ1, eμ1⟩ : ∃ μ', μ' = pm_up μc1 33 1 (μc1 76 1) := ⟨_, rfl⟩
  rw [← eμ1]
  have hTμ1 : zTJ none μ1 := by rw [eμ1]; exact zT_upn hTc1 zs33_1 rfl (i := 1) (by omega) (by omega) (by omega) (by omega)
  exact pm_vret rfl rfl ⟨rfl, hTμ1, fun q hq hne => by rw [eμ1, pm_upq (k := 1) (i := 1) rfl hne]; exact n1 q hq, by rw [eμ1, pm_up_eq]; exact n1 (76, 1) (by decide)⟩
set_option maxRecDepth 100000 in
theorem zh_rz35 (hK : zKK ST) (hw : sx_Wd zNR zRT2 B0 Sg) (hC240 : zCK none D ST B0 l Sg zC240) (hs240 : sx_subm zC240.2.2.2.2.2 Wm = true) (hT : zTJ none μ) (hb35 : sx_bit Wm 35 = true) (hbd : 2 ≤ bud.1 ∧ 101 ≤ bud.2.1) : zC D Wm ST (sx_bW zRT2 Wm B0 Sg, J) l Sg zM121 bud [(2, 35), (2, 78)] μ (fun st' μ' => st' = [] ∧ zTJ none μ' ∧ (∀ q ∈ zRq, q ≠ (35, 1) → μ' q.1 (q.2 : Int) = μ q.1 (q.2 : Int)) ∧ μ' 35 1 = μ 78 1) := by
  refine pm_blk hK zmm121 [] 4 8 [(2, 35), (2, 78)] [(2, 36), (2, 79)] μ [] rfl trivial ?_
  refine pm_ccall hK zmm121 hC240 hw zGm_lt zJ_loc (23, 1, 29, 2) zM29 [(2, 79), (2, 36)] [] rfl rfl rfl rfl rfl ⟨by have e : zC240.2.2.2.1 = 1 := rfl; omega, by have e : zC240.2.2.2.2.1 = 80 := rfl; rw [zn29]; omega⟩ hs240 rfl (fun t ht => by cases ht) ⟨rfl, fun h => absurd h (by decide), fun _ => rfl, rfl, fun h => absurd h (by decide), fun _ => rfl, trivial⟩ (zTy_T hw hT.1) hT.2 (fun st1 μc1 hp1 hTt1 hJ1 hfr1 => ?_)
  obtain rfl := hp1
  have hTc1 : zTJ none μc1 := ⟨zTy_of hw hTt1, hJ1⟩
  have n1 := zRq_fr hfr1 (by decide +kernel)
  have f1 := zT_get hTc1 zs78_1 (i := 1) (by omega) (by omega)
  refine pm_blk hK zmm121 [] 4 19 [(2, 35), (2, 78)] [] (pm_up μc1 35 1 (μc1 78 1)) [sx_bit Wm 35 = true] rfl ⟨hb35, trivial⟩ ?_
  obtain ⟨μ1, eμ1⟩ : ∃ μ', μ' = pm_up μc1 35 1 (μc1 78 1) := ⟨_, rfl⟩
  rw [← eμ1]
  have hTμ1 : zTJ none μ1 := by rw [eμ1]; exact zT_upn hTc1 zs35_1 rfl (i := 1) (by omega) (by omega) (by omega) (by omega)
  exact pm_vret rfl rfl ⟨rfl, hTμ1, fun q hq hne => by rw [eμ1, pm_upq (k := 1) (i := 1) rfl hne]; exact n1 q hq, by rw [eμ1, pm_up_eq]; exact n1 (78, 1) (by decide)⟩
set_option maxRecDepth 100000 in
theorem zh_rz37 (hK : zKK ST) (hw : sx_Wd zNR zRT2 B0 Sg) (hC241 : zCK none D ST B0 l Sg zC241) (hs241 : sx_subm zC241.2.2.2.2.2 Wm = true) (hT : zTJ none μ) (hb37 : sx_bit Wm 37 = true) (hbd : 2 ≤ bud.1 ∧ 101 ≤ bud.2.1) : zC D Wm ST (sx_bW zRT2 Wm B0 Sg, J) l Sg zM121 bud [(2, 37), (2, 80)] μ (fun st' μ' => st' = [] ∧ zTJ none μ' ∧ (∀ q ∈ zRq, q ≠ (37, 1) → μ' q.1 (q.2 : Int) = μ q.1 (q.2 : Int)) ∧ μ' 37 1 = μ 80 1) := by
  refine pm_blk hK zmm121 [] 4 8 [(2, 37), (2, 80)] [(2, 38), (2, 81)] μ [] rfl trivial ?_
  refine pm_ccall hK zmm121 hC241 hw zGm_lt zJ_loc (23, 1, 29, 2) zM29 [(2, 81), (2, 38)] [] rfl rfl rfl rfl rfl ⟨by have e : zC241.2.2.2.1 = 1 := rfl; omega, by have e : zC241.2.2.2.2.1 = 80 := rfl; rw [zn29]; omega⟩ hs241 rfl (fun t ht => by cases ht) ⟨rfl, fun h => absurd h (by decide), fun _ => rfl, rfl, fun h => absurd h (by decide), fun _ => rfl, trivial⟩ (zTy_T hw hT.1) hT.2 (fun st1 μc1 hp1 hTt1 hJ1 hfr1 => ?_)
  obtain rfl := hp1
  have hTc1 : zTJ none μc1 := ⟨zTy_of hw hTt1, hJ1⟩
  have n1 := zRq_fr hfr1 (by decide +kernel)
  have f1 := zT_get hTc1 zs80_1 (i := 1) (by omega) (by omega)
  refine pm_blk hK zmm121 [] 4 19 [(2, 37), (2, 80)] [] (pm_up μc1 37 1 (μc1 80 1)) [sx_bit Wm 37 = true] rfl ⟨hb37, trivial⟩ ?_
  obtain ⟨μ1, eμ1⟩ : ∃ μ', μ' = pm_up μc1 37 1 (μc1 80 1) := ⟨_, rfl⟩
  rw [← eμ1]
  have hTμ1 : zTJ none μ1 := by rw [eμ1]; exact zT_upn hTc1 zs37_1 rfl (i := 1) (by omega) (by omega) (by omega) (by omega)
  exact pm_vret rfl rfl ⟨rfl, hTμ1, fun q hq hne => by rw [eμ1, pm_upq (k := 1) (i := 1) rfl hne]; exact n1 q hq, by rw [eμ1, pm_up_eq]; exact n1 (80, 1) (by decide)⟩
set_option maxRecDepth 100000 in
theorem zh_rz39 (hK : zKK ST) (hw : sx_Wd zNR zRT2 B0 Sg) (hC242 : zCK none D ST B0 l Sg zC242) (hs242 : sx_subm zC242.2.2.2.2.2 Wm = true) (hT : zTJ none μ) (hb39 : sx_bit Wm 39 = true) (hbd : 2 ≤ bud.1 ∧ 101 ≤ bud.2.1) : zC D Wm ST (sx_bW zRT2 Wm B0 Sg, J) l Sg zM121 bud [(2, 39), (2, 82)] μ (fun st' μ' => st' = [] ∧ zTJ none μ' ∧ (∀ q ∈ zRq, q ≠ (39, 1) → μ' q.1 (q.2 : Int) = μ q.1 (q.2 : Int)) ∧ μ' 39 1 = μ 82 1) := by
  refine pm_blk hK zmm121 [] 4 8 [(2, 39), (2, 82)] [(2, 40), (2, 83)] μ [] rfl trivial ?_
  refine pm_ccall hK zmm121 hC242 hw zGm_lt zJ_loc (23, 1, 29, 2) zM29 [(2, 83), (2, 40)] [] rfl rfl rfl rfl rfl ⟨by have e : zC242.2.2.2.1 = 1 := rfl; omega, by have e : zC242.2.2.2.2.1 = 80 := rfl; rw [zn29]; omega⟩ hs242 rfl (fun t ht => by cases ht) ⟨rfl, fun h => absurd h (by decide), fun _ => rfl, rfl, fun h => absurd h (by decide), fun _ => rfl, trivial⟩ (zTy_T hw hT.1) hT.2 (fun st1 μc1 hp1 hTt1 hJ1 hfr1 => ?_)
  obtain rfl := hp1
  have hTc1 : zTJ none μc1 := ⟨zTy_of hw hTt1, hJ1⟩
  have n1 := zRq_fr hfr1 (by decide +kernel)
  have f1 := zT_get hTc1 zs82_1 (i := 1) (by omega) (by omega)
  refine pm_blk hK zmm121 [] 4 19 [(2, 39), (2, 82)] [] (pm_up μc1 39 1 (μc1 82 1)) [sx_bit Wm 39 = true] rfl ⟨hb39, trivial⟩ ?_
  obtain ⟨μ1, eμ1⟩ : ∃ μ', μ' = pm_up μc1 39 1 (μc1 82 1) := ⟨_, rfl⟩
  rw [← eμ1]
  have hTμ1 : zTJ none μ1 := by rw [eμ1]; exact zT_upn hTc1 zs39_1 rfl (i := 1) (by omega) (by omega) (by omega) (by omega)
  exact pm_vret rfl rfl ⟨rfl, hTμ1, fun q hq hne => by rw [eμ1, pm_upq (k := 1) (i := 1) rfl hne]; exact n1 q hq, by rw [eμ1, pm_up_eq]; exact n1 (82, 1) (by decide)⟩
set_option maxRecDepth 100000 in
theorem zh_rz41 (hK : zKK ST) (hw : sx_Wd zNR zRT2 B0 Sg) (hC243 : zCK none D ST B0 l Sg zC243) (hs243 : sx_subm zC243.2.2.2.2.2 Wm = true) (hT : zTJ none μ) (hb41 : sx_bit Wm 41 = true) (hbd : 2 ≤ bud.1 ∧ 101 ≤ bud.2.1) : zC D Wm ST (sx_bW zRT2 Wm B0 Sg, J) l Sg zM121 bud [(2, 41), (2, 84)] μ (fun st' μ' => st' = [] ∧ zTJ none μ' ∧ (∀ q ∈ zRq, q ≠ (41, 1) → μ' q.1 (q.2 : Int) = μ q.1 (q.2 : Int)) ∧ μ' 41 1 = μ 84 1) := by
  refine pm_blk hK zmm121 [] 4 8 [(2, 41), (2, 84)] [(2, 42), (2, 85)] μ [] rfl trivial ?_
  refine pm_ccall hK zmm121 hC243 hw zGm_lt zJ_loc (23, 1, 29, 2) zM29 [(2, 85), (2, 42)] [] rfl rfl rfl rfl rfl ⟨by have e : zC243.2.2.2.1 = 1 := rfl; omega, by have e : zC243.2.2.2.2.1 = 80 := rfl; rw [zn29]; omega⟩ hs243 rfl (fun t ht => by cases ht) ⟨rfl, fun h => absurd h (by decide), fun _ => rfl, rfl, fun h => absurd h (by decide), fun _ => rfl, trivial⟩ (zTy_T hw hT.1) hT.2 (fun st1 μc1 hp1 hTt1 hJ1 hfr1 => ?_)
  obtain rfl := hp1
  have hTc1 : zTJ none μc1 := ⟨zTy_of hw hTt1, hJ1⟩
  have n1 := zRq_fr hfr1 (by decide +kernel)
  have f1 := zT_get hTc1 zs84_1 (i := 1) (by omega) (by omega)
  refine pm_blk hK zmm121 [] 4 19 [(2, 41), (2, 84)] [] (pm_up μc1 41 1 (μc1 84 1)) [sx_bit Wm 41 = true] rfl ⟨hb41, trivial⟩ ?_
  obtain ⟨μ1, eμ1⟩ : ∃ μ', μ' = pm_up μc1 41 1 (μc1 84 1) := ⟨_, rfl⟩
  rw [← eμ1]
  have hTμ1 : zTJ none μ1 := by rw [eμ1]; exact zT_upn hTc1 zs41_1 rfl (i := 1) (by omega) (by omega) (by omega) (by omega)
  exact pm_vret rfl rfl ⟨rfl, hTμ1, fun q hq hne => by rw [eμ1, pm_upq (k := 1) (i := 1) rfl hne]; exact n1 q hq, by rw [eμ1, pm_up_eq]; exact n1 (84, 1) (by decide)⟩
set_option maxRecDepth 100000 in
theorem zh_rz43 (hK : zKK ST) (hw : sx_Wd zNR zRT2 B0 Sg) (hC244 : zCK none D ST B0 l Sg zC244) (hs244 : sx_subm zC244.2.2.2.2.2 Wm = true) (hT : zTJ none μ) (hb43 : sx_bit Wm 43 = true) (hbd : 2 ≤ bud.1 ∧ 101 ≤ bud.2.1) : zC D Wm ST (sx_bW zRT2 Wm B0 Sg, J) l Sg zM121 bud [(2, 43), (2, 86)] μ (fun st' μ' => st' = [] ∧ zTJ none μ' ∧ (∀ q ∈ zRq, q ≠ (43, 1) → μ' q.1 (q.2 : Int) = μ q.1 (q.2 : Int)) ∧ μ' 43 1 = μ 86 1) := by
  refine pm_blk hK zmm121 [] 4 8 [(2, 43), (2, 86)] [(2, 44), (2, 87)] μ [] rfl trivial ?_
  refine pm_ccall hK zmm121 hC244 hw zGm_lt zJ_loc (23, 1, 29, 2) zM29 [(2, 87), (2, 44)] [] rfl rfl rfl rfl rfl ⟨by have e : zC244.2.2.2.1 = 1 := rfl; omega, by have e : zC244.2.2.2.2.1 = 80 := rfl; rw [zn29]; omega⟩ hs244 rfl (fun t ht => by cases ht) ⟨rfl, fun h => absurd h (by decide), fun _ => rfl, rfl, fun h => absurd h (by decide), fun _ => rfl, trivial⟩ (zTy_T hw hT.1) hT.2 (fun st1 μc1 hp1 hTt1 hJ1 hfr1 => ?_)
  obtain rfl := hp1
  have hTc1 : zTJ none μc1 := ⟨zTy_of hw hTt1, hJ1⟩
  have n1 := zRq_fr hfr1 (by decide +kernel)
  have f1 := zT_get hTc1 zs86_1 (i := 1) (by omega) (by omega)
  refine pm_blk hK zmm121 [] 4 19 [(2, 43), (2, 86)] [] (pm_up μc1 43 1 (μc1 86 1)) [sx_bit Wm 43 = true] rfl ⟨hb43, trivial⟩ ?_
  obtain ⟨μ1, eμ1⟩ : ∃ μ', μ' = pm_up μc1 43 1 (μc1 86 1) := ⟨_, rfl⟩
  rw [← eμ1]
  have hTμ1 : zTJ none μ1 := by rw [eμ1]; exact zT_upn hTc1 zs43_1 rfl (i := 1) (by omega) (by omega) (by omega) (by omega)
  exact pm_vret rfl rfl ⟨rfl, hTμ1, fun q hq hne => by rw [eμ1, pm_upq (k := 1) (i := 1) rfl hne]; exact n1 q hq, by rw [eμ1, pm_up_eq]; exact n1 (86, 1) (by decide)⟩
set_option maxRecDepth 100000 in
theorem zh_rz76 (hK : zKK ST) (hw : sx_Wd zNR zRT2 B0 Sg) (hC222 : zCK none D ST B0 l Sg zC222) (hs222 : sx_subm zC222.2.2.2.2.2 Wm = true) (hT : zTJ none μ) (hb76 : sx_bit Wm 76 = true) (hbd : 2 ≤ bud.1 ∧ 101 ≤ bud.2.1) : zC D Wm ST (sx_bW zRT2 Wm B0 Sg, J) l Sg zM121 bud [(2, 76), (2, 33)] μ (fun st' μ' => st' = [] ∧ zTJ none μ' ∧ (∀ q ∈ zRq, q ≠ (76, 1) → μ' q.1 (q.2 : Int) = μ q.1 (q.2 : Int)) ∧ μ' 76 1 = μ 33 1) := by
  refine pm_blk hK zmm121 [] 4 8 [(2, 76), (2, 33)] [(2, 77), (2, 34)] μ [] rfl trivial ?_
  refine pm_ccall hK zmm121 hC222 hw zGm_lt zJ_loc (23, 1, 29, 2) zM29 [(2, 34), (2, 77)] [] rfl rfl rfl rfl rfl ⟨by have e : zC222.2.2.2.1 = 1 := rfl; omega, by have e : zC222.2.2.2.2.1 = 80 := rfl; rw [zn29]; omega⟩ hs222 rfl (fun t ht => by cases ht) ⟨rfl, fun h => absurd h (by decide), fun _ => rfl, rfl, fun h => absurd h (by decide), fun _ => rfl, trivial⟩ (zTy_T hw hT.1) hT.2 (fun st1 μc1 hp1 hTt1 hJ1 hfr1 => ?_)
  obtain rfl := hp1
  have hTc1 : zTJ none μc1 := ⟨zTy_of hw hTt1, hJ1⟩
  have n1 := zRq_fr hfr1 (by decide +kernel)
  have f1 := zT_get hTc1 zs33_1 (i := 1) (by omega) (by omega)
  refine pm_blk hK zmm121 [] 4 19 [(2, 76), (2, 33)] [] (pm_up μc1 76 1 (μc1 33 1)) [sx_bit Wm 76 = true] rfl ⟨hb76, trivial⟩ ?_
  obtain ⟨μ1, eμ1⟩ : ∃ μ', μ' = pm_up μc1 76 1 (μc1 33 1) := ⟨_, rfl⟩
  rw [← eμ1]
  have hTμ1 : zTJ none μ1 := by rw [eμ1]; exact zT_upn hTc1 zs76_1 rfl (i := 1) (by omega) (by omega) (by omega) (by omega)
  exact pm_vret rfl rfl ⟨rfl, hTμ1, fun q hq hne => by rw [eμ1, pm_upq (k := 1) (i := 1) rfl hne]; exact n1 q hq, by rw [eμ1, pm_up_eq]; exact n1 (33, 1) (by decide)⟩
set_option maxRecDepth 100000 in
theorem zh_rz78 (hK : zKK ST) (hw : sx_Wd zNR zRT2 B0 Sg) (hC223 : zCK none D ST B0 l Sg zC223) (hs223 : sx_subm zC223.2.2.2.2.2 Wm = true) (hT : zTJ none μ) (hb78 : sx_bit Wm 78 = true) (hbd : 2 ≤ bud.1 ∧ 101 ≤ bud.2.1) : zC D Wm ST (sx_bW zRT2 Wm B0 Sg, J) l Sg zM121 bud [(2, 78), (2, 35)] μ (fun st' μ' => st' = [] ∧ zTJ none μ' ∧ (∀ q ∈ zRq, q ≠ (78, 1) → μ' q.1 (q.2 : Int) = μ q.1 (q.2 : Int)) ∧ μ' 78 1 = μ 35 1) := by
  refine pm_blk hK zmm121 [] 4 8 [(2, 78), (2, 35)] [(2, 79), (2, 36)] μ [] rfl trivial ?_
  refine pm_ccall hK zmm121 hC223 hw zGm_lt zJ_loc (23, 1, 29, 2) zM29 [(2, 36), (2, 79)] [] rfl rfl rfl rfl rfl ⟨by have e : zC223.2.2.2.1 = 1 := rfl; omega, by have e : zC223.2.2.2.2.1 = 80 := rfl; rw [zn29]; omega⟩ hs223 rfl (fun t ht => by cases ht) ⟨rfl, fun h => absurd h (by decide), fun _ => rfl, rfl, fun h => absurd h (by decide), fun _ => rfl, trivial⟩ (zTy_T hw hT.1) hT.2 (fun st1 μc1 hp1 hTt1 hJ1 hfr1 => ?_)
  obtain rfl := hp1
  have hTc1 : zTJ none μc1 := ⟨zTy_of hw hTt1, hJ1⟩
  have n1 := zRq_fr hfr1 (by decide +kernel)
  have f1 := zT_get hTc1 zs35_1 (i := 1) (by omega) (by omega)
  refine pm_blk hK zmm121 [] 4 19 [(2, 78), (2, 35)] [] (pm_up μc1 78 1 (μc1 35 1)) [sx_bit Wm 78 = true] rfl ⟨hb78, trivial⟩ ?_
  obtain ⟨μ1, eμ1⟩ : ∃ μ', μ' = pm_up μc1 78 1 (μc1 35 1) := ⟨_, rfl⟩
  rw [← eμ1]
  have hTμ1 : zTJ none μ1 := by rw [eμ1]; exact zT_upn hTc1 zs78_1 rfl (i := 1) (by omega) (by omega) (by omega) (by omega)
  exact pm_vret rfl rfl ⟨rfl, hTμ1, fun q hq hne => by rw [eμ1, pm_upq (k := 1) (i := 1) rfl hne]; exact n1 q hq, by rw [eμ1, pm_up_eq]; exact n1 (35, 1) (by decide)⟩
set_option maxRecDepth 100000 in
theorem zh_rz80 (hK : zKK ST) (hw : sx_Wd zNR zRT2 B0 Sg) (hC224 : zCK none D ST B0 l Sg zC224) (hs224 : sx_subm zC224.2.2.2.2.2 Wm = true) (hT : zTJ none μ) (hb80 : sx_bit Wm 80 = true) (hbd : 2 ≤ bud.1 ∧ 101 ≤ bud.2.1) : zC D Wm ST (sx_bW zRT2 Wm B0 Sg, J) l Sg zM121 bud [(2, 80), (2, 37)] μ (fun st' μ' => st' = [] ∧ zTJ none μ' ∧ (∀ q ∈ zRq, q ≠ (80, 1) → μ' q.1 (q.2 : Int) = μ q.1 (q.2 : Int)) ∧ μ' 80 1 = μ 37 1) := by
  refine pm_blk hK zmm121 [] 4 8 [(2, 80), (2, 37)] [(2, 81), (2, 38)] μ [] rfl trivial ?_
  refine pm_ccall hK zmm121 hC224 hw zGm_lt zJ_loc (23, 1, 29, 2) zM29 [(2, 38), (2, 81)] [] rfl rfl rfl rfl rfl ⟨by have e : zC224.2.2.2.1 = 1 := rfl; omega, by have e : zC224.2.2.2.2.1 = 80 := rfl; rw [zn29]; omega⟩ hs224 rfl (fun t ht => by cases ht) ⟨rfl, fun h => absurd h (by decide), fun _ => rfl, rfl, fun h => absurd h (by decide), fun _ => rfl, trivial⟩ (zTy_T hw hT.1) hT.2 (fun st1 μc1 hp1 hTt1 hJ1 hfr1 => ?_)
  obtain rfl := hp1
  have hTc1 : zTJ none μc1 := ⟨zTy_of hw hTt1, hJ1⟩
  have n1 := zRq_fr hfr1 (by decide +kernel)
  have f1 := zT_get hTc1 zs37_1 (i := 1) (by omega) (by omega)
  refine pm_blk hK zmm121 [] 4 19 [(2, 80), (2, 37)] [] (pm_up μc1 80 1 (μc1 37 1)) [sx_bit Wm 80 = true] rfl ⟨hb80, trivial⟩ ?_
  obtain ⟨μ1, eμ1⟩ : ∃ μ', μ' = pm_up μc1 80 1 (μc1 37 1) := ⟨_, rfl⟩
  rw [← eμ1]
  have hTμ1 : zTJ none μ1 := by rw [eμ1]; exact zT_upn hTc1 zs80_1 rfl (i := 1) (by omega) (by omega) (by omega) (by omega)
  exact pm_vret rfl rfl ⟨rfl, hTμ1, fun q hq hne => by rw [eμ1, pm_upq (k := 1) (i := 1) rfl hne]; exact n1 q hq, by rw [eμ1, pm_up_eq]; exact n1 (37, 1) (by decide)⟩
set_option maxRecDepth 100000 in
theorem zh_rz82 (hK : zKK ST) (hw : sx_Wd zNR zRT2 B0 Sg) (hC225 : zCK none D ST B0 l Sg zC225) (hs225 : sx_subm zC225.2.2.2.2.2 Wm = true) (hT : zTJ none μ) (hb82 : sx_bit Wm 82 = true) (hbd : 2 ≤ bud.1 ∧ 101 ≤ bud.2.1) : zC D Wm ST (sx_bW zRT2 Wm B0 Sg, J) l Sg zM121 bud [(2, 82), (2, 39)] μ (fun st' μ' => st' = [] ∧ zTJ none μ' ∧ (∀ q ∈ zRq, q ≠ (82, 1) → μ' q.1 (q.2 : Int) = μ q.1 (q.2 : Int)) ∧ μ' 82 1 = μ 39 1) := by
  refine pm_blk hK zmm121 [] 4 8 [(2, 82), (2, 39)] [(2, 83), (2, 40)] μ [] rfl trivial ?_
  refine pm_ccall hK zmm121 hC225 hw zGm_lt zJ_loc (23, 1, 29, 2) zM29 [(2, 40), (2, 83)] [] rfl rfl rfl rfl rfl ⟨by have e : zC225.2.2.2.1 = 1 := rfl; omega, by have e : zC225.2.2.2.2.1 = 80 := rfl; rw [zn29]; omega⟩ hs225 rfl (fun t ht => by cases ht) ⟨rfl, fun h => absurd h (by decide), fun _ => rfl, rfl, fun h => absurd h (by decide), fun _ => rfl, trivial⟩ (zTy_T hw hT.1) hT.2 (fun st1 μc1 hp1 hTt1 hJ1 hfr1 => ?_)
  obtain rfl := hp1
  have hTc1 : zTJ none μc1 := ⟨zTy_of hw hTt1, hJ1⟩
  have n1 := zRq_fr hfr1 (by decide +kernel)
  have f1 := zT_get hTc1 zs39_1 (i := 1) (by omega) (by omega)
  refine pm_blk hK zmm121 [] 4 19 [(2, 82), (2, 39)] [] (pm_up μc1 82 1 (μc1 39 1)) [sx_bit Wm 82 = true] rfl ⟨hb82, trivial⟩ ?_
  obtain ⟨μ1, eμ1⟩ : ∃ μ', μ' = pm_up μc1 82 1 (μc1 39 1) := ⟨_, rfl⟩
  rw [← eμ1]
  have hTμ1 : zTJ none μ1 := by rw [eμ1]; exact zT_upn hTc1 zs82_1 rfl (i := 1) (by omega) (by omega) (by omega) (by omega)
  exact pm_vret rfl rfl ⟨rfl, hTμ1, fun q hq hne => by rw [eμ1, pm_upq (k := 1) (i := 1) rfl hne]; exact n1 q hq, by rw [eμ1, pm_up_eq]; exact n1 (39, 1) (by decide)⟩
set_option maxRecDepth 100000 in
theorem zh_rz84 (hK : zKK ST) (hw : sx_Wd zNR zRT2 B0 Sg) (hC226 : zCK none D ST B0 l Sg zC226) (hs226 : sx_subm zC226.2.2.2.2.2 Wm = true) (hT : zTJ none μ) (hb84 : sx_bit Wm 84 = true) (hbd : 2 ≤ bud.1 ∧ 101 ≤ bud.2.1) : zC D Wm ST (sx_bW zRT2 Wm B0 Sg, J) l Sg zM121 bud [(2, 84), (2, 41)] μ (fun st' μ' => st' = [] ∧ zTJ none μ' ∧ (∀ q ∈ zRq, q ≠ (84, 1) → μ' q.1 (q.2 : Int) = μ q.1 (q.2 : Int)) ∧ μ' 84 1 = μ 41 1) := by
  refine pm_blk hK zmm121 [] 4 8 [(2, 84), (2, 41)] [(2, 85), (2, 42)] μ [] rfl trivial ?_
  refine pm_ccall hK zmm121 hC226 hw zGm_lt zJ_loc (23, 1, 29, 2) zM29 [(2, 42), (2, 85)] [] rfl rfl rfl rfl rfl ⟨by have e : zC226.2.2.2.1 = 1 := rfl; omega, by have e : zC226.2.2.2.2.1 = 80 := rfl; rw [zn29]; omega⟩ hs226 rfl (fun t ht => by cases ht) ⟨rfl, fun h => absurd h (by decide), fun _ => rfl, rfl, fun h => absurd h (by decide), fun _ => rfl, trivial⟩ (zTy_T hw hT.1) hT.2 (fun st1 μc1 hp1 hTt1 hJ1 hfr1 => ?_)
  obtain rfl := hp1
  have hTc1 : zTJ none μc1 := ⟨zTy_of hw hTt1, hJ1⟩
  have n1 := zRq_fr hfr1 (by decide +kernel)
  have f1 := zT_get hTc1 zs41_1 (i := 1) (by omega) (by omega)
  refine pm_blk hK zmm121 [] 4 19 [(2, 84), (2, 41)] [] (pm_up μc1 84 1 (μc1 41 1)) [sx_bit Wm 84 = true] rfl ⟨hb84, trivial⟩ ?_
  obtain ⟨μ1, eμ1⟩ : ∃ μ', μ' = pm_up μc1 84 1 (μc1 41 1) := ⟨_, rfl⟩
  rw [← eμ1]
  have hTμ1 : zTJ none μ1 := by rw [eμ1]; exact zT_upn hTc1 zs84_1 rfl (i := 1) (by omega) (by omega) (by omega) (by omega)
  exact pm_vret rfl rfl ⟨rfl, hTμ1, fun q hq hne => by rw [eμ1, pm_upq (k := 1) (i := 1) rfl hne]; exact n1 q hq, by rw [eμ1, pm_up_eq]; exact n1 (41, 1) (by decide)⟩
set_option maxRecDepth 100000 in
theorem zh_rz86 (hK : zKK ST) (hw : sx_Wd zNR zRT2 B0 Sg) (hC227 : zCK none D ST B0 l Sg zC227) (hs227 : sx_subm zC227.2.2.2.2.2 Wm = true) (hT : zTJ none μ) (hb86 : sx_bit Wm 86 = true) (hbd : 2 ≤ bud.1 ∧ 101 ≤ bud.2.1) : zC D Wm ST (sx_bW zRT2 Wm B0 Sg, J) l Sg zM121 bud [(2, 86), (2, 43)] μ (fun st' μ' => st' = [] ∧ zTJ none μ' ∧ (∀ q ∈ zRq, q ≠ (86, 1) → μ' q.1 (q.2 : Int) = μ q.1 (q.2 : Int)) ∧ μ' 86 1 = μ 43 1) := by
  refine pm_blk hK zmm121 [] 4 8 [(2, 86), (2, 43)] [(2, 87), (2, 44)] μ [] rfl trivial ?_
  refine pm_ccall hK zmm121 hC227 hw zGm_lt zJ_loc (23, 1, 29, 2) zM29 [(2, 44), (2, 87)] [] rfl rfl rfl rfl rfl ⟨by have e : zC227.2.2.2.1 = 1 := rfl; omega, by have e : zC227.2.2.2.2.1 = 80 := rfl; rw [zn29]; omega⟩ hs227 rfl (fun t ht => by cases ht) ⟨rfl, fun h => absurd h (by decide), fun _ => rfl, rfl, fun h => absurd h (by decide), fun _ => rfl, trivial⟩ (zTy_T hw hT.1) hT.2 (fun st1 μc1 hp1 hTt1 hJ1 hfr1 => ?_)
  obtain rfl := hp1
  have hTc1 : zTJ none μc1 := ⟨zTy_of hw hTt1, hJ1⟩
  have n1 := zRq_fr hfr1 (by decide +kernel)
  have f1 := zT_get hTc1 zs43_1 (i := 1) (by omega) (by omega)
  refine pm_blk hK zmm121 [] 4 19 [(2, 86), (2, 43)] [] (pm_up μc1 86 1 (μc1 43 1)) [sx_bit Wm 86 = true] rfl ⟨hb86, trivial⟩ ?_
  obtain ⟨μ1, eμ1⟩ : ∃ μ', μ' = pm_up μc1 86 1 (μc1 43 1) := ⟨_, rfl⟩
  rw [← eμ1]
  have hTμ1 : zTJ none μ1 := by rw [eμ1]; exact zT_upn hTc1 zs86_1 rfl (i := 1) (by omega) (by omega) (by omega) (by omega)
  exact pm_vret rfl rfl ⟨rfl, hTμ1, fun q hq hne => by rw [eμ1, pm_upq (k := 1) (i := 1) rfl hne]; exact n1 q hq, by rw [eμ1, pm_up_eq]; exact n1 (43, 1) (by decide)⟩
set_option maxRecDepth 100000 in
theorem zh_wz2 (hK : zKK ST) (hw : sx_Wd zNR zRT2 B0 Sg) (hC184 : zCK none D ST B0 l Sg zC184) (hs184 : sx_subm zC184.2.2.2.2.2 Wm = true) (hC228 : zCK none D ST B0 l Sg zC228) (hs228 : sx_subm zC228.2.2.2.2.2 Wm = true) (hC239 : zCK none D ST B0 l Sg zC239) (hs239 : sx_subm zC239.2.2.2.2.2 Wm = true) (hC240 : zCK none D ST B0 l Sg zC240) (hs240 : sx_subm zC240.2.2.2.2.2 Wm = true) (hC241 : zCK none D ST B0 l Sg zC241) (hs241 : sx_subm zC241.2.2.2.2.2 Wm = true) (hC242 : zCK none D ST B0 l Sg zC242) (hs242 : sx_subm zC242.2.2.2.2.2 Wm = true) (hC243 : zCK none D ST B0 l Sg zC243) (hs243 : sx_subm zC243.2.2.2.2.2 Wm = true) (hC244 : zCK none D ST B0 l Sg zC244) (hs244 : sx_subm zC244.2.2.2.2.2 Wm = true) (hC326 : zCK none D ST B0 l Sg zC326) (hs326 : sx_subm zC326.2.2.2.2.2 Wm = true) (hC327 : zCK none D ST B0 l Sg zC327) (hs327 : sx_subm zC327.2.2.2.2.2 Wm = true) (hC328 : zCK none D ST B0 l Sg zC328) (hs328 : sx_subm zC328.2.2.2.2.2 Wm = true) (hC329 : zCK none D ST B0 l Sg zC329) (hs329 : sx_subm zC329.2.2.2.2.2 Wm = true) (hC401 : zCK none D ST B0 l Sg zC401) (hs401 : sx_subm zC401.2.2.2.2.2 Wm = true) (hC402 : zCK none D ST B0 l Sg zC402) (hs402 : sx_subm zC402.2.2.2.2.2 Wm = true) (hT : zTJ none μ) (hb2 : sx_bit Wm 2 = true) (hb33 : sx_bit Wm 33 = true) (hb35 : sx_bit Wm 35 = true) (hb37 : sx_bit Wm 37 = true) (hb39 : sx_bit Wm 39 = true) (hb41 : sx_bit Wm 41 = true) (hb43 : sx_bit Wm 43 = true) (hbd : 3 ≤ bud.1 ∧ 122 ≤ bud.2.1) : zC D Wm ST (sx_bW zRT2 Wm B0 Sg, J) l Sg zM120 bud [(2, 2), (2, 45)] μ (fun st' μ' => st' = [] ∧ zTJ none μ' ∧ zWc zSq2 μ μ') := by
  have hz : zWc (fun q => q) μ μ := fun _ _ => rfl
  refine pm_blk hK zmm120 [] 4 8 [(2, 2), (2, 45)] [(2, 46), (2, 3)] μ [] rfl trivial ?_
  refine pm_ccall hK zmm120 hC184 hw zGm_lt zJ_loc (82, 0, 28, 1) zM28 [(2, 3), (2, 46)] [] rfl rfl rfl rfl rfl ⟨by have e : zC184.2.2.2.1 = 2 := rfl; omega, by have e : zC184.2.2.2.2.1 = 101 := rfl; rw [zn28]; omega⟩ hs184 rfl (fun t ht => by cases ht) ⟨rfl, fun h => absurd h (by decide), fun _ => rfl, rfl, fun h => absurd h (by decide), fun _ => rfl, trivial⟩ (zTy_T hw hT.1) hT.2 (fun st1 μc1 hp1 hTt1 hJ1 hfr1 => ?_)
  obtain rfl := hp1
  have hTc1 : zTJ none μc1 := ⟨zTy_of hw hTt1, hJ1⟩
  have hz := zWc_fr hz (zRq_fr hfr1 (by decide +kernel))
  refine pm_blk hK zmm120 [] 4 19 [(2, 2), (2, 45)] [(2, 16), (2, 59)] μc1 [] rfl trivial ?_
  refine pm_ccall hK zmm120 hC228 hw zGm_lt zJ_loc (86, 1, 29, 2) zM29 [(2, 59), (2, 16)] [] rfl rfl rfl rfl rfl ⟨by have e : zC228.2.2.2.1 = 1 := rfl; omega, by have e : zC228.2.2.2.2.1 = 80 := rfl; rw [zn29]; omega⟩ hs228 rfl (fun t ht => by cases ht) ⟨rfl, fun h => absurd h (by decide), fun _ => rfl, rfl, fun h => absurd h (by decide), fun _ => rfl, trivial⟩ (zTy_T hw hTc1.1) hTc1.2 (fun st2 μc2 hp2 hTt2 hJ2 hfr2 => ?_)
  obtain rfl := hp2
  have hTc2 : zTJ none μc2 := ⟨zTy_of hw hTt2, hJ2⟩
  have hz := zWc_fr hz (zRq_fr hfr2 (by decide +kernel))
  have f1 := zT_get hTc2 zs45_2 (i := 2) (by omega) (by omega)
  refine pm_blk hK zmm120 [] 4 30 [(2, 2), (2, 45)] [] (pm_up μc2 2 2 (μc2 45 2)) [sx_bit Wm 2 = true] rfl ⟨hb2, trivial⟩ ?_
  obtain ⟨μ1, eμ1⟩ : ∃ μ', μ' = pm_up μc2 2 2 (μc2 45 2) := ⟨_, rfl⟩
  rw [← eμ1]
  have hTμ1 : zTJ none μ1 := by rw [eμ1]; exact zT_upn hTc2 zs2_2 rfl (i := 2) (by omega) (by omega) (by omega) (by omega)
  have hz := zWc_fr (μ' := μ1) hz (fun q hq => by rw [eμ1]; exact pm_upq (k := 2) (i := 2) rfl ((show ∀ q ∈ zRq, q ≠ (2, 2) by decide) q hq))
  refine pm_blk hK zmm120 [] 4 38 [(2, 2), (2, 45)] [(2, 60), (2, 17)] μ1 [] rfl trivial ?_
  refine pm_ccall hK zmm120 hC326 hw zGm_lt zJ_loc (90, 0, 54, 1) zM54 [(2, 17), (2, 60)] [] rfl rfl rfl rfl rfl ⟨by have e : zC326.2.2.2.1 = 2 := rfl; omega, by have e : zC326.2.2.2.2.1 = 101 := rfl; rw [zn54]; omega⟩ hs326 rfl (fun t ht => by cases ht) ⟨rfl, fun h => absurd h (by decide), fun _ => rfl, rfl, fun h => absurd h (by decide), fun _ => rfl, trivial⟩ (zTy_T hw hTμ1.1) hTμ1.2 (fun st3 μc3 hp3 hTt3 hJ3 hfr3 => ?_)
  obtain rfl := hp3
  have hTc3 : zTJ none μc3 := ⟨zTy_of hw hTt3, hJ3⟩
  have hz := zWc_fr hz (zRq_fr hfr3 (by decide +kernel))
  refine pm_blk hK zmm120 [] 4 49 [(2, 2), (2, 45)] [(2, 63), (2, 20)] μc3 [] rfl trivial ?_
  refine pm_ccall hK zmm120 hC327 hw zGm_lt zJ_loc (90, 0, 54, 1) zM54 [(2, 20), (2, 63)] [] rfl rfl rfl rfl rfl ⟨by have e : zC327.2.2.2.1 = 2 := rfl; omega, by have e : zC327.2.2.2.2.1 = 101 := rfl; rw [zn54]; omega⟩ hs327 rfl (fun t ht => by cases ht) ⟨rfl, fun h => absurd h (by decide), fun _ => rfl, rfl, fun h => absurd h (by decide), fun _ => rfl, trivial⟩ (zTy_T hw hTc3.1) hTc3.2 (fun st4 μc4 hp4 hTt4 hJ4 hfr4 => ?_)
  obtain rfl := hp4
  have hTc4 : zTJ none μc4 := ⟨zTy_of hw hTt4, hJ4⟩
  have hz := zWc_fr hz (zRq_fr hfr4 (by decide +kernel))
  refine pm_blk hK zmm120 [] 4 60 [(2, 2), (2, 45)] [(2, 66), (2, 23)] μc4 [] rfl trivial ?_
  refine pm_ccall hK zmm120 hC328 hw zGm_lt zJ_loc (90, 0, 54, 1) zM54 [(2, 23), (2, 66)] [] rfl rfl rfl rfl rfl ⟨by have e : zC328.2.2.2.1 = 2 := rfl; omega, by have e : zC328.2.2.2.2.1 = 101 := rfl; rw [zn54]; omega⟩ hs328 rfl (fun t ht => by cases ht) ⟨rfl, fun h => absurd h (by decide), fun _ => rfl, rfl, fun h => absurd h (by decide), fun _ => rfl, trivial⟩ (zTy_T hw hTc4.1) hTc4.2 (fun st5 μc5 hp5 hTt5 hJ5 hfr5 => ?_)
  obtain rfl := hp5
  have hTc5 : zTJ none μc5 := ⟨zTy_of hw hTt5, hJ5⟩
  have hz := zWc_fr hz (zRq_fr hfr5 (by decide +kernel))
  refine pm_blk hK zmm120 [] 4 71 [(2, 2), (2, 45)] [(2, 69), (2, 26)] μc5 [] rfl trivial ?_
  refine pm_ccall hK zmm120 hC329 hw zGm_lt zJ_loc (90, 0, 54, 1) zM54 [(2, 26), (2, 69)] [] rfl rfl rfl rfl rfl ⟨by have e : zC329.2.2.2.1 = 2 := rfl; omega, by have e : zC329.2.2.2.2.1 = 101 := rfl; rw [zn54]; omega⟩ hs329 rfl (fun t ht => by cases ht) ⟨rfl, fun h => absurd h (by decide), fun _ => rfl, rfl, fun h => absurd h (by decide), fun _ => rfl, trivial⟩ (zTy_T hw hTc5.1) hTc5.2 (fun st6 μc6 hp6 hTt6 hJ6 hfr6 => ?_)
  obtain rfl := hp6
  have hTc6 : zTJ none μc6 := ⟨zTy_of hw hTt6, hJ6⟩
  have hz := zWc_fr hz (zRq_fr hfr6 (by decide +kernel))
  refine pm_blk hK zmm120 [] 4 82 [(2, 2), (2, 45)] [(2, 72), (2, 29)] μc6 [] rfl trivial ?_
  refine pm_ccall hK zmm120 hC401 hw zGm_lt zJ_loc (93, 0, 121, 1) zM121 [(2, 29), (2, 72)] [] rfl rfl rfl rfl rfl ⟨by have e : zC401.2.2.2.1 = 2 := rfl; omega, by have e : zC401.2.2.2.2.1 = 101 := rfl; rw [zn121]; omega⟩ hs401 rfl (fun t ht => by cases ht) ⟨rfl, fun h => absurd h (by decide), fun _ => rfl, rfl, fun h => absurd h (by decide), fun _ => rfl, trivial⟩ (zTy_T hw hTc6.1) hTc6.2 (fun st7 μc7 hp7 hTt7 hJ7 hfr7 => ?_)
  obtain rfl := hp7
  have hTc7 : zTJ none μc7 := ⟨zTy_of hw hTt7, hJ7⟩
  have hz := zWc_fr hz (zRq_fr hfr7 (by decide +kernel))
  refine pm_blk hK zmm120 [] 4 93 [(2, 2), (2, 45)] [(2, 74), (2, 31)] μc7 [] rfl trivial ?_
  refine pm_ccall hK zmm120 hC402 hw zGm_lt zJ_loc (93, 0, 121, 1) zM121 [(2, 31), (2, 74)] [] rfl rfl rfl rfl rfl ⟨by have e : zC402.2.2.2.1 = 2 := rfl; omega, by have e : zC402.2.2.2.2.1 = 101 := rfl; rw [zn121]; omega⟩ hs402 rfl (fun t ht => by cases ht) ⟨rfl, fun h => absurd h (by decide), fun _ => rfl, rfl, fun h => absurd h (by decide), fun _ => rfl, trivial⟩ (zTy_T hw hTc7.1) hTc7.2 (fun st8 μc8 hp8 hTt8 hJ8 hfr8 => ?_)
  obtain rfl := hp8
  have hTc8 : zTJ none μc8 := ⟨zTy_of hw hTt8, hJ8⟩
  have hz := zWc_fr hz (zRq_fr hfr8 (by decide +kernel))
  refine pm_blk hK zmm120 [] 4 104 [(2, 2), (2, 45)] [(2, 76), (2, 33)] μc8 [] rfl trivial ?_
  refine pm_call hK zmm120 (93, 0, 121, 1) zM121 (2, 101) [(2, 33), (2, 76)] [] rfl rfl rfl rfl ⟨by omega, by rw [zn121]; omega⟩ (zh_rz33 hK hw hC239 hs239 hTc8 hb33 ⟨Nat.le_refl _, Nat.le_refl _⟩) (fun st9 μc9 hp9 => ?_)
  obtain ⟨rfl, hTc9, na9, nb9⟩ := hp9
  have hz := zWc_rcp (d := (33, 1)) (s := (76, 1)) hz (by decide) na9 nb9
  refine pm_blk hK zmm120 [] 4 115 [(2, 2), (2, 45)] [(2, 78), (2, 35)] μc9 [] rfl trivial ?_
  refine pm_call hK zmm120 (93, 0, 121, 1) zM121 (2, 101) [(2, 35), (2, 78)] [] rfl rfl rfl rfl ⟨by omega, by rw [zn121]; omega⟩ (zh_rz35 hK hw hC240 hs240 hTc9 hb35 ⟨Nat.le_refl _, Nat.le_refl _⟩) (fun st10 μc10 hp10 => ?_)
  obtain ⟨rfl, hTc10, na10, nb10⟩ := hp10
  have hz := zWc_rcp (d := (35, 1)) (s := (78, 1)) hz (by decide) na10 nb10
  refine pm_blk hK zmm120 [] 4 126 [(2, 2), (2, 45)] [(2, 80), (2, 37)] μc10 [] rfl trivial ?_
  refine pm_call hK zmm120 (93, 0, 121, 1) zM121 (2, 101) [(2, 37), (2, 80)] [] rfl rfl rfl rfl ⟨by omega, by rw [zn121]; omega⟩ (zh_rz37 hK hw hC241 hs241 hTc10 hb37 ⟨Nat.le_refl _, Nat.le_refl _⟩) (fun st11 μc11 hp11 => ?_)
  obtain ⟨rfl, hTc11, na11, nb11⟩ := hp11
  have hz := zWc_rcp (d := (37, 1)) (s := (80, 1)) hz (by decide) na11 nb11
  refine pm_blk hK zmm120 [] 4 137 [(2, 2), (2, 45)] [(2, 82), (2, 39)] μc11 [] rfl trivial ?_
  refine pm_call hK zmm120 (93, 0, 121, 1) zM121 (2, 101) [(2, 39), (2, 82)] [] rfl rfl rfl rfl ⟨by omega, by rw [zn121]; omega⟩ (zh_rz39 hK hw hC242 hs242 hTc11 hb39 ⟨Nat.le_refl _, Nat.le_refl _⟩) (fun st12 μc12 hp12 => ?_)
  obtain ⟨rfl, hTc12, na12, nb12⟩ := hp12
  have hz := zWc_rcp (d := (39, 1)) (s := (82, 1)) hz (by decide) na12 nb12
  refine pm_blk hK zmm120 [] 4 148 [(2, 2), (2, 45)] [(2, 84), (2, 41)] μc12 [] rfl trivial ?_
  refine pm_call hK zmm120 (93, 0, 121, 1) zM121 (2, 101) [(2, 41), (2, 84)] [] rfl rfl rfl rfl ⟨by omega, by rw [zn121]; omega⟩ (zh_rz41 hK hw hC243 hs243 hTc12 hb41 ⟨Nat.le_refl _, Nat.le_refl _⟩) (fun st13 μc13 hp13 => ?_)
  obtain ⟨rfl, hTc13, na13, nb13⟩ := hp13
  have hz := zWc_rcp (d := (41, 1)) (s := (84, 1)) hz (by decide) na13 nb13
  refine pm_blk hK zmm120 [] 4 159 [(2, 2), (2, 45)] [(2, 86), (2, 43)] μc13 [] rfl trivial ?_
  refine pm_call hK zmm120 (93, 0, 121, 1) zM121 (2, 101) [(2, 43), (2, 86)] [] rfl rfl rfl rfl ⟨by omega, by rw [zn121]; omega⟩ (zh_rz43 hK hw hC244 hs244 hTc13 hb43 ⟨Nat.le_refl _, Nat.le_refl _⟩) (fun st14 μc14 hp14 => ?_)
  obtain ⟨rfl, hTc14, na14, nb14⟩ := hp14
  have hz := zWc_rcp (d := (43, 1)) (s := (86, 1)) hz (by decide) na14 nb14
  exact pm_vret rfl rfl ⟨rfl, hTc14, zWc_eq hz (by decide)⟩
set_option maxRecDepth 100000 in
theorem zh_wz45 (hK : zKK ST) (hw : sx_Wd zNR zRT2 B0 Sg) (hC210 : zCK none D ST B0 l Sg zC210) (hs210 : sx_subm zC210.2.2.2.2.2 Wm = true) (hC211 : zCK none D ST B0 l Sg zC211) (hs211 : sx_subm zC211.2.2.2.2.2 Wm = true) (hC222 : zCK none D ST B0 l Sg zC222) (hs222 : sx_subm zC222.2.2.2.2.2 Wm = true) (hC223 : zCK none D ST B0 l Sg zC223) (hs223 : sx_subm zC223.2.2.2.2.2 Wm = true) (hC224 : zCK none D ST B0 l Sg zC224) (hs224 : sx_subm zC224.2.2.2.2.2 Wm = true) (hC225 : zCK none D ST B0 l Sg zC225) (hs225 : sx_subm zC225.2.2.2.2.2 Wm = true) (hC226 : zCK none D ST B0 l Sg zC226) (hs226 : sx_subm zC226.2.2.2.2.2 Wm = true) (hC227 : zCK none D ST B0 l Sg zC227) (hs227 : sx_subm zC227.2.2.2.2.2 Wm = true) (hC330 : zCK none D ST B0 l Sg zC330) (hs330 : sx_subm zC330.2.2.2.2.2 Wm = true) (hC331 : zCK none D ST B0 l Sg zC331) (hs331 : sx_subm zC331.2.2.2.2.2 Wm = true) (hC332 : zCK none D ST B0 l Sg zC332) (hs332 : sx_subm zC332.2.2.2.2.2 Wm = true) (hC333 : zCK none D ST B0 l Sg zC333) (hs333 : sx_subm zC333.2.2.2.2.2 Wm = true) (hC410 : zCK none D ST B0 l Sg zC410) (hs410 : sx_subm zC410.2.2.2.2.2 Wm = true) (hC411 : zCK none D ST B0 l Sg zC411) (hs411 : sx_subm zC411.2.2.2.2.2 Wm = true) (hT : zTJ none μ) (hb45 : sx_bit Wm 45 = true) (hb76 : sx_bit Wm 76 = true) (hb78 : sx_bit Wm 78 = true) (hb80 : sx_bit Wm 80 = true) (hb82 : sx_bit Wm 82 = true) (hb84 : sx_bit Wm 84 = true) (hb86 : sx_bit Wm 86 = true) (hbd : 3 ≤ bud.1 ∧ 122 ≤ bud.2.1) : zC D Wm ST (sx_bW zRT2 Wm B0 Sg, J) l Sg zM120 bud [(2, 45), (2, 2)] μ (fun st' μ' => st' = [] ∧ zTJ none μ' ∧ zWc zSq45 μ μ') := by
  have hz : zWc (fun q => q) μ μ := fun _ _ => rfl
  refine pm_blk hK zmm120 [] 4 8 [(2, 45), (2, 2)] [(2, 3), (2, 46)] μ [] rfl trivial ?_
  refine pm_ccall hK zmm120 hC210 hw zGm_lt zJ_loc (82, 0, 28, 1) zM28 [(2, 46), (2, 3)] [] rfl rfl rfl rfl rfl ⟨by have e : zC210.2.2.2.1 = 2 := rfl; omega, by have e : zC210.2.2.2.2.1 = 101 := rfl; rw [zn28]; omega⟩ hs210 rfl (fun t ht => by cases ht) ⟨rfl, fun h => absurd h (by decide), fun _ => rfl, rfl, fun h => absurd h (by decide), fun _ => rfl, trivial⟩ (zTy_T hw hT.1) hT.2 (fun st1 μc1 hp1 hTt1 hJ1 hfr1 => ?_)
  obtain rfl := hp1
  have hTc1 : zTJ none μc1 := ⟨zTy_of hw hTt1, hJ1⟩
  have hz := zWc_fr hz (zRq_fr hfr1 (by decide +kernel))
  refine pm_blk hK zmm120 [] 4 19 [(2, 45), (2, 2)] [(2, 59), (2, 16)] μc1 [] rfl trivial ?_
  refine pm_ccall hK zmm120 hC211 hw zGm_lt zJ_loc (86, 1, 29, 2) zM29 [(2, 16), (2, 59)] [] rfl rfl rfl rfl rfl ⟨by have e : zC211.2.2.2.1 = 1 := rfl; omega, by have e : zC211.2.2.2.2.1 = 80 := rfl; rw [zn29]; omega⟩ hs211 rfl (fun t ht => by cases ht) ⟨rfl, fun h => absurd h (by decide), fun _ => rfl, rfl, fun h => absurd h (by decide), fun _ => rfl, trivial⟩ (zTy_T hw hTc1.1) hTc1.2 (fun st2 μc2 hp2 hTt2 hJ2 hfr2 => ?_)
  obtain rfl := hp2
  have hTc2 : zTJ none μc2 := ⟨zTy_of hw hTt2, hJ2⟩
  have hz := zWc_fr hz (zRq_fr hfr2 (by decide +kernel))
  have f1 := zT_get hTc2 zs2_2 (i := 2) (by omega) (by omega)
  refine pm_blk hK zmm120 [] 4 30 [(2, 45), (2, 2)] [] (pm_up μc2 45 2 (μc2 2 2)) [sx_bit Wm 45 = true] rfl ⟨hb45, trivial⟩ ?_
  obtain ⟨μ1, eμ1⟩ : ∃ μ', μ' = pm_up μc2 45 2 (μc2 2 2) := ⟨_, rfl⟩
  rw [← eμ1]
  have hTμ1 : zTJ none μ1 := by rw [eμ1]; exact zT_upn hTc2 zs45_2 rfl (i := 2) (by omega) (by omega) (by omega) (by omega)
  have hz := zWc_fr (μ' := μ1) hz (fun q hq => by rw [eμ1]; exact pm_upq (k := 2) (i := 2) rfl ((show ∀ q ∈ zRq, q ≠ (45, 2) by decide) q hq))
  refine pm_blk hK zmm120 [] 4 38 [(2, 45), (2, 2)] [(2, 17), (2, 60)] μ1 [] rfl trivial ?_
  refine pm_ccall hK zmm120 hC330 hw zGm_lt zJ_loc (90, 0, 54, 1) zM54 [(2, 60), (2, 17)] [] rfl rfl rfl rfl rfl ⟨by have e : zC330.2.2.2.1 = 2 := rfl; omega, by have e : zC330.2.2.2.2.1 = 101 := rfl; rw [zn54]; omega⟩ hs330 rfl (fun t ht => by cases ht) ⟨rfl, fun h => absurd h (by decide), fun _ => rfl, rfl, fun h => absurd h (by decide), fun _ => rfl, trivial⟩ (zTy_T hw hTμ1.1) hTμ1.2 (fun st3 μc3 hp3 hTt3 hJ3 hfr3 => ?_)
  obtain rfl := hp3
  have hTc3 : zTJ none μc3 := ⟨zTy_of hw hTt3, hJ3⟩
  have hz := zWc_fr hz (zRq_fr hfr3 (by decide +kernel))
  refine pm_blk hK zmm120 [] 4 49 [(2, 45), (2, 2)] [(2, 20), (2, 63)] μc3 [] rfl trivial ?_
  refine pm_ccall hK zmm120 hC331 hw zGm_lt zJ_loc (90, 0, 54, 1) zM54 [(2, 63), (2, 20)] [] rfl rfl rfl rfl rfl ⟨by have e : zC331.2.2.2.1 = 2 := rfl; omega, by have e : zC331.2.2.2.2.1 = 101 := rfl; rw [zn54]; omega⟩ hs331 rfl (fun t ht => by cases ht) ⟨rfl, fun h => absurd h (by decide), fun _ => rfl, rfl, fun h => absurd h (by decide), fun _ => rfl, trivial⟩ (zTy_T hw hTc3.1) hTc3.2 (fun st4 μc4 hp4 hTt4 hJ4 hfr4 => ?_)
  obtain rfl := hp4
  have hTc4 : zTJ none μc4 := ⟨zTy_of hw hTt4, hJ4⟩
  have hz := zWc_fr hz (zRq_fr hfr4 (by decide +kernel))
  refine pm_blk hK zmm120 [] 4 60 [(2, 45), (2, 2)] [(2, 23), (2, 66)] μc4 [] rfl trivial ?_
  refine pm_ccall hK zmm120 hC332 hw zGm_lt zJ_loc (90, 0, 54, 1) zM54 [(2, 66), (2, 23)] [] rfl rfl rfl rfl rfl ⟨by have e : zC332.2.2.2.1 = 2 := rfl; omega, by have e : zC332.2.2.2.2.1 = 101 := rfl; rw [zn54]; omega⟩ hs332 rfl (fun t ht => by cases ht) ⟨rfl, fun h => absurd h (by decide), fun _ => rfl, rfl, fun h => absurd h (by decide), fun _ => rfl, trivial⟩ (zTy_T hw hTc4.1) hTc4.2 (fun st5 μc5 hp5 hTt5 hJ5 hfr5 => ?_)
  obtain rfl := hp5
  have hTc5 : zTJ none μc5 := ⟨zTy_of hw hTt5, hJ5⟩
  have hz := zWc_fr hz (zRq_fr hfr5 (by decide +kernel))
  refine pm_blk hK zmm120 [] 4 71 [(2, 45), (2, 2)] [(2, 26), (2, 69)] μc5 [] rfl trivial ?_
  refine pm_ccall hK zmm120 hC333 hw zGm_lt zJ_loc (90, 0, 54, 1) zM54 [(2, 69), (2, 26)] [] rfl rfl rfl rfl rfl ⟨by have e : zC333.2.2.2.1 = 2 := rfl; omega, by have e : zC333.2.2.2.2.1 = 101 := rfl; rw [zn54]; omega⟩ hs333 rfl (fun t ht => by cases ht) ⟨rfl, fun h => absurd h (by decide), fun _ => rfl, rfl, fun h => absurd h (by decide), fun _ => rfl, trivial⟩ (zTy_T hw hTc5.1) hTc5.2 (fun st6 μc6 hp6 hTt6 hJ6 hfr6 => ?_)
  obtain rfl := hp6
  have hTc6 : zTJ none μc6 := ⟨zTy_of hw hTt6, hJ6⟩
  have hz := zWc_fr hz (zRq_fr hfr6 (by decide +kernel))
  refine pm_blk hK zmm120 [] 4 82 [(2, 45), (2, 2)] [(2, 29), (2, 72)] μc6 [] rfl trivial ?_
  refine pm_ccall hK zmm120 hC410 hw zGm_lt zJ_loc (93, 0, 121, 1) zM121 [(2, 72), (2, 29)] [] rfl rfl rfl rfl rfl ⟨by have e : zC410.2.2.2.1 = 2 := rfl; omega, by have e : zC410.2.2.2.2.1 = 101 := rfl; rw [zn121]; omega⟩ hs410 rfl (fun t ht => by cases ht) ⟨rfl, fun h => absurd h (by decide), fun _ => rfl, rfl, fun h => absurd h (by decide), fun _ => rfl, trivial⟩ (zTy_T hw hTc6.1) hTc6.2 (fun st7 μc7 hp7 hTt7 hJ7 hfr7 => ?_)
  obtain rfl := hp7
  have hTc7 : zTJ none μc7 := ⟨zTy_of hw hTt7, hJ7⟩
  have hz := zWc_fr hz (zRq_fr hfr7 (by decide +kernel))
  refine pm_blk hK zmm120 [] 4 93 [(2, 45), (2, 2)] [(2, 31), (2, 74)] μc7 [] rfl trivial ?_
  refine pm_ccall hK zmm120 hC411 hw zGm_lt zJ_loc (93, 0, 121, 1) zM121 [(2, 74), (2, 31)] [] rfl rfl rfl rfl rfl ⟨by have e : zC411.2.2.2.1 = 2 := rfl; omega, by have e : zC411.2.2.2.2.1 = 101 := rfl; rw [zn121]; omega⟩ hs411 rfl (fun t ht => by cases ht) ⟨rfl, fun h => absurd h (by decide), fun _ => rfl, rfl, fun h => absurd h (by decide), fun _ => rfl, trivial⟩ (zTy_T hw hTc7.1) hTc7.2 (fun st8 μc8 hp8 hTt8 hJ8 hfr8 => ?_)
  obtain rfl := hp8
  have hTc8 : zTJ none μc8 := ⟨zTy_of hw hTt8, hJ8⟩
  have hz := zWc_fr hz (zRq_fr hfr8 (by decide +kernel))
  refine pm_blk hK zmm120 [] 4 104 [(2, 45), (2, 2)] [(2, 33), (2, 76)] μc8 [] rfl trivial ?_
  refine pm_call hK zmm120 (93, 0, 121, 1) zM121 (2, 101) [(2, 76), (2, 33)] [] rfl rfl rfl rfl ⟨by omega, by rw [zn121]; omega⟩ (zh_rz76 hK hw hC222 hs222 hTc8 hb76 ⟨Nat.le_refl _, Nat.le_refl _⟩) (fun st9 μc9 hp9 => ?_)
  obtain ⟨rfl, hTc9, na9, nb9⟩ := hp9
  have hz := zWc_rcp (d := (76, 1)) (s := (33, 1)) hz (by decide) na9 nb9
  refine pm_blk hK zmm120 [] 4 115 [(2, 45), (2, 2)] [(2, 35), (2, 78)] μc9 [] rfl trivial ?_
  refine pm_call hK zmm120 (93, 0, 121, 1) zM121 (2, 101) [(2, 78), (2, 35)] [] rfl rfl rfl rfl ⟨by omega, by rw [zn121]; omega⟩ (zh_rz78 hK hw hC223 hs223 hTc9 hb78 ⟨Nat.le_refl _, Nat.le_refl _⟩) (fun st10 μc10 hp10 => ?_)
  obtain ⟨rfl, hTc10, na10, nb10⟩ := hp10
  have hz := zWc_rcp (d := (78, 1)) (s := (35, 1)) hz (by decide) na10 nb10
  refine pm_blk hK zmm120 [] 4 126 [(2, 45), (2, 2)] [(2, 37), (2, 80)] μc10 [] rfl trivial ?_
  refine pm_call hK zmm120 (93, 0, 121, 1) zM121 (2, 101) [(2, 80), (2, 37)] [] rfl rfl rfl rfl ⟨by omega, by rw [zn121]; omega⟩ (zh_rz80 hK hw hC224 hs224 hTc10 hb80 ⟨Nat.le_refl _, Nat.le_refl _⟩) (fun st11 μc11 hp11 => ?_)
  obtain ⟨rfl, hTc11, na11, nb11⟩ := hp11
  have hz := zWc_rcp (d := (80, 1)) (s := (37, 1)) hz (by decide) na11 nb11
  refine pm_blk hK zmm120 [] 4 137 [(2, 45), (2, 2)] [(2, 39), (2, 82)] μc11 [] rfl trivial ?_
  refine pm_call hK zmm120 (93, 0, 121, 1) zM121 (2, 101) [(2, 82), (2, 39)] [] rfl rfl rfl rfl ⟨by omega, by rw [zn121]; omega⟩ (zh_rz82 hK hw hC225 hs225 hTc11 hb82 ⟨Nat.le_refl _, Nat.le_refl _⟩) (fun st12 μc12 hp12 => ?_)
  obtain ⟨rfl, hTc12, na12, nb12⟩ := hp12
  have hz := zWc_rcp (d := (82, 1)) (s := (39, 1)) hz (by decide) na12 nb12
  refine pm_blk hK zmm120 [] 4 148 [(2, 45), (2, 2)] [(2, 41), (2, 84)] μc12 [] rfl trivial ?_
  refine pm_call hK zmm120 (93, 0, 121, 1) zM121 (2, 101) [(2, 84), (2, 41)] [] rfl rfl rfl rfl ⟨by omega, by rw [zn121]; omega⟩ (zh_rz84 hK hw hC226 hs226 hTc12 hb84 ⟨Nat.le_refl _, Nat.le_refl _⟩) (fun st13 μc13 hp13 => ?_)
  obtain ⟨rfl, hTc13, na13, nb13⟩ := hp13
  have hz := zWc_rcp (d := (84, 1)) (s := (41, 1)) hz (by decide) na13 nb13
  refine pm_blk hK zmm120 [] 4 159 [(2, 45), (2, 2)] [(2, 43), (2, 86)] μc13 [] rfl trivial ?_
  refine pm_call hK zmm120 (93, 0, 121, 1) zM121 (2, 101) [(2, 86), (2, 43)] [] rfl rfl rfl rfl ⟨by omega, by rw [zn121]; omega⟩ (zh_rz86 hK hw hC227 hs227 hTc13 hb86 ⟨Nat.le_refl _, Nat.le_refl _⟩) (fun st14 μc14 hp14 => ?_)
  obtain ⟨rfl, hTc14, na14, nb14⟩ := hp14
  have hz := zWc_rcp (d := (86, 1)) (s := (43, 1)) hz (by decide) na14 nb14
  exact pm_vret rfl rfl ⟨rfl, hTc14, zWc_eq hz (by decide)⟩
set_option maxRecDepth 100000 in
theorem zh_imagez (hK : zKK ST) {b : Int} (hw : sx_Wd zNR zRT2 B0 Sg) (hC184 : zCK none D ST B0 l Sg zC184) (hs184 : sx_subm zC184.2.2.2.2.2 Wm = true) (hC210 : zCK none D ST B0 l Sg zC210) (hs210 : sx_subm zC210.2.2.2.2.2 Wm = true) (hC211 : zCK none D ST B0 l Sg zC211) (hs211 : sx_subm zC211.2.2.2.2.2 Wm = true) (hC222 : zCK none D ST B0 l Sg zC222) (hs222 : sx_subm zC222.2.2.2.2.2 Wm = true) (hC223 : zCK none D ST B0 l Sg zC223) (hs223 : sx_subm zC223.2.2.2.2.2 Wm = true) (hC224 : zCK none D ST B0 l Sg zC224) (hs224 : sx_subm zC224.2.2.2.2.2 Wm = true) (hC225 : zCK none D ST B0 l Sg zC225) (hs225 : sx_subm zC225.2.2.2.2.2 Wm = true) (hC226 : zCK none D ST B0 l Sg zC226) (hs226 : sx_subm zC226.2.2.2.2.2 Wm = true) (hC227 : zCK none D ST B0 l Sg zC227) (hs227 : sx_subm zC227.2.2.2.2.2 Wm = true) (hC228 : zCK none D ST B0 l Sg zC228) (hs228 : sx_subm zC228.2.2.2.2.2 Wm = true) (hC239 : zCK none D ST B0 l Sg zC239) (hs239 : sx_subm zC239.2.2.2.2.2 Wm = true) (hC240 : zCK none D ST B0 l Sg zC240) (hs240 : sx_subm zC240.2.2.2.2.2 Wm = true) (hC241 : zCK none D ST B0 l Sg zC241) (hs241 : sx_subm zC241.2.2.2.2.2 Wm = true) (hC242 : zCK none D ST B0 l Sg zC242) (hs242 : sx_subm zC242.2.2.2.2.2 Wm = true) (hC243 : zCK none D ST B0 l Sg zC243) (hs243 : sx_subm zC243.2.2.2.2.2 Wm = true) (hC244 : zCK none D ST B0 l Sg zC244) (hs244 : sx_subm zC244.2.2.2.2.2 Wm = true) (hC326 : zCK none D ST B0 l Sg zC326) (hs326 : sx_subm zC326.2.2.2.2.2 Wm = true) (hC327 : zCK none D ST B0 l Sg zC327) (hs327 : sx_subm zC327.2.2.2.2.2 Wm = true) (hC328 : zCK none D ST B0 l Sg zC328) (hs328 : sx_subm zC328.2.2.2.2.2 Wm = true) (hC329 : zCK none D ST B0 l Sg zC329) (hs329 : sx_subm zC329.2.2.2.2.2 Wm = true) (hC330 : zCK none D ST B0 l Sg zC330) (hs330 : sx_subm zC330.2.2.2.2.2 Wm = true) (hC331 : zCK none D ST B0 l Sg zC331) (hs331 : sx_subm zC331.2.2.2.2.2 Wm = true) (hC332 : zCK none D ST B0 l Sg zC332) (hs332 : sx_subm zC332.2.2.2.2.2 Wm = true) (hC333 : zCK none D ST B0 l Sg zC333) (hs333 : sx_subm zC333.2.2.2.2.2 Wm = true) (hC401 : zCK none D ST B0 l Sg zC401) (hs401 : sx_subm zC401.2.2.2.2.2 Wm = true) (hC402 : zCK none D ST B0 l Sg zC402) (hs402 : sx_subm zC402.2.2.2.2.2 Wm = true) (hC410 : zCK none D ST B0 l Sg zC410) (hs410 : sx_subm zC410.2.2.2.2.2 Wm = true) (hC411 : zCK none D ST B0 l Sg zC411) (hs411 : sx_subm zC411.2.2.2.2.2 Wm = true) (hT : zTJ none μ) (hb1 : sx_bit Wm 1 = true) (hb2 : sx_bit Wm 2 = true) (hb45 : sx_bit Wm 45 = true) (hb33 : sx_bit Wm 33 = true) (hb35 : sx_bit Wm 35 = true) (hb37 : sx_bit Wm 37 = true) (hb39 : sx_bit Wm 39 = true) (hb41 : sx_bit Wm 41 = true) (hb43 : sx_bit Wm 43 = true) (hb76 : sx_bit Wm 76 = true) (hb78 : sx_bit Wm 78 = true) (hb80 : sx_bit Wm 80 = true) (hb82 : sx_bit Wm 82 = true) (hb84 : sx_bit Wm 84 = true) (hb86 : sx_bit Wm 86 = true) (hb96 : sx_bit Wm 96 = true) (hbd : 4 ≤ bud.1 ∧ 143 ≤ bud.2.1) : zC D Wm ST (sx_bW zRT2 Wm B0 Sg, J) l Sg zM119 bud [(2, 1), (0, b)] μ (fun st' μ' => ∃ x, st' = [(0, x)] ∧ zTJ none μ' ∧ zIMX b μ x μ') := by
  refine pm_blk hK zmm119 [] 1 1 [(2, 1), (0, b)] [(0, b)] μ [] rfl trivial ?_
  refine pm_if hK zmm119 .eq 21 22 rfl rfl (fun h0 => ?_) (fun h0 => ?_)
  · have h0 : b = (0 : Int) := h0
    have f1 := zT_get hT zs1_2 (i := 2) (by omega) (by omega)
    refine pm_blk hK zmm119 [] 2 26 [(2, 1), (0, b)] [(0, μ 1 2)] μ [] rfl trivial ?_
    refine pm_if hK zmm119 .ne 5 31 rfl rfl (fun h1 => ?_) (fun h1 => ?_)
    · have h1 : μ 1 2 ≠ (0 : Int) := h1
      refine pm_blk hK zmm119 [] 4 39 [(2, 1), (0, b)] [(2, 45), (2, 2)] μ [] rfl trivial ?_
      refine pm_call hK zmm119 (408, 0, 120, 1) zM120 (3, 122) [(2, 2), (2, 45)] [] rfl rfl rfl rfl ⟨by omega, by rw [zn120]; omega⟩ (zh_wz2 hK hw hC184 hs184 hC228 hs228 hC239 hs239 hC240 hs240 hC241 hs241 hC242 hs242 hC243 hs243 hC244 hs244 hC326 hs326 hC327 hs327 hC328 hs328 hC329 hs329 hC401 hs401 hC402 hs402 hT hb2 hb33 hb35 hb37 hb39 hb41 hb43 ⟨Nat.le_refl _, Nat.le_refl _⟩) (fun st1 μc1 hp1 => ?_)
      obtain ⟨rfl, hTc1, hz1⟩ := hp1
      have hz := hz1
      refine pm_blk hK zmm119 [] 2 46 [(2, 1), (0, b)] [(2, 96)] μc1 [] rfl trivial ?_
      refine pm_call hK zmm119 (91, 0, 14, 0) zM14 (0, 0) [(2, 96)] [] rfl rfl rfl rfl ⟨by omega, by rw [zn14]; omega⟩ (zh_forget hK hTc1 hb96 ⟨Nat.le_refl _, Nat.le_refl _⟩) (fun st2 μc2 hp2 => ?_)
      obtain ⟨rfl, hTc2, hFg2⟩ := hp2
      have hFg := hFg2
      refine pm_blk hK zmm119 [] 1 50 [(2, 1), (0, b)] [(0, 1)] μc2 [] rfl trivial ?_
      exact pm_zret rfl rfl (by first | exact Or.inl rfl | exact Or.inr rfl | omega) ⟨_, rfl, hTc2, zIMX_b h0 h1 (zWc_fr hz (fun q hq => by rw [hFg q.1 ((show ∀ q ∈ zRq, q.1 ≠ 96 by decide) q hq)]))⟩
    · have h1 : μ 1 2 = (0 : Int) := h1
      refine pm_blk hK zmm119 [] 1 30 [(2, 1), (0, b)] [(0, 0)] μ [] rfl trivial ?_
      exact pm_zret rfl rfl (by first | exact Or.inl rfl | exact Or.inr rfl | omega) ⟨_, rfl, hT, zIMX_n h0 h1⟩
  · have h0 : b ≠ (0 : Int) := h0
    refine pm_blk hK zmm119 [] 4 12 [(2, 1), (0, b)] [(2, 2), (2, 45)] μ [] rfl trivial ?_
    refine pm_call hK zmm119 (408, 0, 120, 1) zM120 (3, 122) [(2, 45), (2, 2)] [] rfl rfl rfl rfl ⟨by omega, by rw [zn120]; omega⟩ (zh_wz45 hK hw hC210 hs210 hC211 hs211 hC222 hs222 hC223 hs223 hC224 hs224 hC225 hs225 hC226 hs226 hC227 hs227 hC330 hs330 hC331 hs331 hC332 hs332 hC333 hs333 hC410 hs410 hC411 hs411 hT hb45 hb76 hb78 hb80 hb82 hb84 hb86 ⟨Nat.le_refl _, Nat.le_refl _⟩) (fun st3 μc3 hp3 => ?_)
    obtain ⟨rfl, hTc3, hz3⟩ := hp3
    have hz := hz3
    refine pm_blk hK zmm119 [] 3 20 [(2, 1), (0, b)] [] (pm_up μc3 1 2 1) [sx_bit Wm 1 = true, 0 ≤ 1 ∧ 1 ≤ 1] rfl ⟨hb1, ⟨by omega, by omega⟩, trivial⟩ ?_
    obtain ⟨μ1, eμ1⟩ : ∃ μ', μ' = pm_up μc3 1 2 1 := ⟨_, rfl⟩
    rw [← eμ1]
    have hTμ1 : zTJ none μ1 := by rw [eμ1]; exact zT_upn hTc3 zs1_2 rfl (i := 2) (by omega) (by omega) (by omega) (by omega)
    refine pm_blk hK zmm119 [] 1 21 [(2, 1), (0, b)] [(0, 1)] μ1 [] rfl trivial ?_
    exact pm_zret rfl rfl (by first | exact Or.inl rfl | exact Or.inr rfl | omega) ⟨_, rfl, hTμ1, zIMX_t h0 hz eμ1⟩
end ZHW
