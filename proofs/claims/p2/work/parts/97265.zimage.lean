/-! counts: the image of the class; walks printed by program (wip/p30/pmgen.py) and filled by hand -/
section ZHW
variable {D : va_G} {Wm : Nat} {ST : List (String × String × String × Nat)} {b0 : sx_B} {l : Launch} {Sg : Nat → Option Nat} {bud : sx_Bu} {μ : pm_Mem} {B0 : Nat → Prop} {J : (Nat → Option Nat) → Heap → Prop}
set_option maxRecDepth 100000 in
theorem zh_rzk33 (hK : zKK ST) (hw : sx_Wd zNR zRT2 B0 Sg) (hC239 : zCK none D ST B0 l Sg zC239) (hs239 : sx_subm zC239.2.2.2.2.2 Wm = true) (hT : zTJ none μ) (hb33 : sx_bit Wm 33 = true) (hbd : 2 ≤ bud.1 ∧ 101 ≤ bud.2.1) : zC D Wm ST (sx_bW zRT2 Wm B0 Sg, J) l Sg zM121 bud [(2, 33), (2, 76)] μ (fun st' μ' => st' = [] ∧ zTJ none μ' ∧ (∀ q ∈ zRq, q ≠ (33, 1) → μ' q.1 (q.2 : Int) = μ q.1 (q.2 : Int)) ∧ μ' 33 1 = μ 76 1) := by
  refine pm_blk hK zmm121 [] 4 8 [(2, 33), (2, 76)] [(2, 34), (2, 77)] μ [] rfl trivial ?_
  refine pm_ccall hK zmm121 hC239 hw zGm_lt zJ_loc (23, 1, 29, 2) zM29 [(2, 77), (2, 34)] [] rfl rfl rfl rfl rfl ⟨by have e : zC239.2.2.2.1 = 1 := rfl; omega, by have e : zC239.2.2.2.2.1 = 80 := rfl; rw [zn29]; omega⟩ hs239 rfl (fun t ht => by cases ht) ⟨rfl, fun h => absurd h (by decide), fun _ => rfl, rfl, fun h => absurd h (by decide), fun _ => rfl, trivial⟩ (zTy_T hw hT.1) hT.2 (fun st1 μc1 hp1 hTt1 hJ1 hfr1 => ?_)
  obtain rfl := hp1
  have hTc1 : zTJ none μc1 := ⟨zTy_of hw hTt1, hJ1⟩
  have n1 := zRq_fr hfr1 (by decide +kernel)
  have f1 := zT_get hTc1 zs76_1 (i := 1) (by omega) (by omega)
  refine pm_blk hK zmm121 [] 4 19 [(2, 33), (2, 76)] [] (pm_up μc1 33 1 (μc1 76 1)) [sx_bit Wm 33 = true] rfl ⟨hb33, trivial⟩ ?_
  obtain ⟨μ1, eμ1⟩ : ∃ μ', μ' = pm_up μc1 33 1 (μc1 76 1) := ⟨_, rfl⟩
  rw [← eμ1]
  have hTμ1 : zTJ none μ1 := by rw [eμ1]; exact zT_upn hTc1 zs33_1 rfl (i := 1) (by omega) (by omega) (by omega) (by omega)
  exact pm_vret rfl rfl ⟨rfl, hTμ1, fun q hq hne => by rw [eμ1]; exact (pm_upq (k := 1) (i := 1) rfl hne).trans (n1 q hq), by rw [eμ1, pm_up_eq]; exact n1 (76, 1) (by decide)⟩
set_option maxRecDepth 100000 in
theorem zh_rzk35 (hK : zKK ST) (hw : sx_Wd zNR zRT2 B0 Sg) (hC240 : zCK none D ST B0 l Sg zC240) (hs240 : sx_subm zC240.2.2.2.2.2 Wm = true) (hT : zTJ none μ) (hb35 : sx_bit Wm 35 = true) (hbd : 2 ≤ bud.1 ∧ 101 ≤ bud.2.1) : zC D Wm ST (sx_bW zRT2 Wm B0 Sg, J) l Sg zM121 bud [(2, 35), (2, 78)] μ (fun st' μ' => st' = [] ∧ zTJ none μ' ∧ (∀ q ∈ zRq, q ≠ (35, 1) → μ' q.1 (q.2 : Int) = μ q.1 (q.2 : Int)) ∧ μ' 35 1 = μ 78 1) := by
  refine pm_blk hK zmm121 [] 4 8 [(2, 35), (2, 78)] [(2, 36), (2, 79)] μ [] rfl trivial ?_
  refine pm_ccall hK zmm121 hC240 hw zGm_lt zJ_loc (23, 1, 29, 2) zM29 [(2, 79), (2, 36)] [] rfl rfl rfl rfl rfl ⟨by have e : zC240.2.2.2.1 = 1 := rfl; omega, by have e : zC240.2.2.2.2.1 = 80 := rfl; rw [zn29]; omega⟩ hs240 rfl (fun t ht => by cases ht) ⟨rfl, fun h => absurd h (by decide), fun _ => rfl, rfl, fun h => absurd h (by decide), fun _ => rfl, trivial⟩ (zTy_T hw hT.1) hT.2 (fun st1 μc1 hp1 hTt1 hJ1 hfr1 => ?_)
  obtain rfl := hp1
  have hTc1 : zTJ none μc1 := ⟨zTy_of hw hTt1, hJ1⟩
  have n1 := zRq_fr hfr1 (by decide +kernel)
  have f1 := zT_get hTc1 zs78_1 (i := 1) (by omega) (by omega)
  refine pm_blk hK zmm121 [] 4 19 [(2, 35), (2, 78)] [] (pm_up μc1 35 1 (μc1 78 1)) [sx_bit Wm 35 = true] rfl ⟨hb35, trivial⟩ ?_
  obtain ⟨μ1, eμ1⟩ : ∃ μ', μ' = pm_up μc1 35 1 (μc1 78 1) := ⟨_, rfl⟩
  rw [← eμ1]
  have hTμ1 : zTJ none μ1 := by rw [eμ1]; exact zT_upn hTc1 zs35_1 rfl (i := 1) (by omega) (by omega) (by omega) (by omega)
  exact pm_vret rfl rfl ⟨rfl, hTμ1, fun q hq hne => by rw [eμ1]; exact (pm_upq (k := 1) (i := 1) rfl hne).trans (n1 q hq), by rw [eμ1, pm_up_eq]; exact n1 (78, 1) (by decide)⟩
set_option maxRecDepth 100000 in
theorem zh_rzk76 (hK : zKK ST) (hw : sx_Wd zNR zRT2 B0 Sg) (hC222 : zCK none D ST B0 l Sg zC222) (hs222 : sx_subm zC222.2.2.2.2.2 Wm = true) (hT : zTJ none μ) (hb76 : sx_bit Wm 76 = true) (hbd : 2 ≤ bud.1 ∧ 101 ≤ bud.2.1) : zC D Wm ST (sx_bW zRT2 Wm B0 Sg, J) l Sg zM121 bud [(2, 76), (2, 33)] μ (fun st' μ' => st' = [] ∧ zTJ none μ' ∧ (∀ q ∈ zRq, q ≠ (76, 1) → μ' q.1 (q.2 : Int) = μ q.1 (q.2 : Int)) ∧ μ' 76 1 = μ 33 1) := by
  refine pm_blk hK zmm121 [] 4 8 [(2, 76), (2, 33)] [(2, 77), (2, 34)] μ [] rfl trivial ?_
  refine pm_ccall hK zmm121 hC222 hw zGm_lt zJ_loc (23, 1, 29, 2) zM29 [(2, 34), (2, 77)] [] rfl rfl rfl rfl rfl ⟨by have e : zC222.2.2.2.1 = 1 := rfl; omega, by have e : zC222.2.2.2.2.1 = 80 := rfl; rw [zn29]; omega⟩ hs222 rfl (fun t ht => by cases ht) ⟨rfl, fun h => absurd h (by decide), fun _ => rfl, rfl, fun h => absurd h (by decide), fun _ => rfl, trivial⟩ (zTy_T hw hT.1) hT.2 (fun st1 μc1 hp1 hTt1 hJ1 hfr1 => ?_)
  obtain rfl := hp1
  have hTc1 : zTJ none μc1 := ⟨zTy_of hw hTt1, hJ1⟩
  have n1 := zRq_fr hfr1 (by decide +kernel)
  have f1 := zT_get hTc1 zs33_1 (i := 1) (by omega) (by omega)
  refine pm_blk hK zmm121 [] 4 19 [(2, 76), (2, 33)] [] (pm_up μc1 76 1 (μc1 33 1)) [sx_bit Wm 76 = true] rfl ⟨hb76, trivial⟩ ?_
  obtain ⟨μ1, eμ1⟩ : ∃ μ', μ' = pm_up μc1 76 1 (μc1 33 1) := ⟨_, rfl⟩
  rw [← eμ1]
  have hTμ1 : zTJ none μ1 := by rw [eμ1]; exact zT_upn hTc1 zs76_1 rfl (i := 1) (by omega) (by omega) (by omega) (by omega)
  exact pm_vret rfl rfl ⟨rfl, hTμ1, fun q hq hne => by rw [eμ1]; exact (pm_upq (k := 1) (i := 1) rfl hne).trans (n1 q hq), by rw [eμ1, pm_up_eq]; exact n1 (33, 1) (by decide)⟩
set_option maxRecDepth 100000 in
theorem zh_rzk78 (hK : zKK ST) (hw : sx_Wd zNR zRT2 B0 Sg) (hC223 : zCK none D ST B0 l Sg zC223) (hs223 : sx_subm zC223.2.2.2.2.2 Wm = true) (hT : zTJ none μ) (hb78 : sx_bit Wm 78 = true) (hbd : 2 ≤ bud.1 ∧ 101 ≤ bud.2.1) : zC D Wm ST (sx_bW zRT2 Wm B0 Sg, J) l Sg zM121 bud [(2, 78), (2, 35)] μ (fun st' μ' => st' = [] ∧ zTJ none μ' ∧ (∀ q ∈ zRq, q ≠ (78, 1) → μ' q.1 (q.2 : Int) = μ q.1 (q.2 : Int)) ∧ μ' 78 1 = μ 35 1) := by
  refine pm_blk hK zmm121 [] 4 8 [(2, 78), (2, 35)] [(2, 79), (2, 36)] μ [] rfl trivial ?_
  refine pm_ccall hK zmm121 hC223 hw zGm_lt zJ_loc (23, 1, 29, 2) zM29 [(2, 36), (2, 79)] [] rfl rfl rfl rfl rfl ⟨by have e : zC223.2.2.2.1 = 1 := rfl; omega, by have e : zC223.2.2.2.2.1 = 80 := rfl; rw [zn29]; omega⟩ hs223 rfl (fun t ht => by cases ht) ⟨rfl, fun h => absurd h (by decide), fun _ => rfl, rfl, fun h => absurd h (by decide), fun _ => rfl, trivial⟩ (zTy_T hw hT.1) hT.2 (fun st1 μc1 hp1 hTt1 hJ1 hfr1 => ?_)
  obtain rfl := hp1
  have hTc1 : zTJ none μc1 := ⟨zTy_of hw hTt1, hJ1⟩
  have n1 := zRq_fr hfr1 (by decide +kernel)
  have f1 := zT_get hTc1 zs35_1 (i := 1) (by omega) (by omega)
  refine pm_blk hK zmm121 [] 4 19 [(2, 78), (2, 35)] [] (pm_up μc1 78 1 (μc1 35 1)) [sx_bit Wm 78 = true] rfl ⟨hb78, trivial⟩ ?_
  obtain ⟨μ1, eμ1⟩ : ∃ μ', μ' = pm_up μc1 78 1 (μc1 35 1) := ⟨_, rfl⟩
  rw [← eμ1]
  have hTμ1 : zTJ none μ1 := by rw [eμ1]; exact zT_upn hTc1 zs78_1 rfl (i := 1) (by omega) (by omega) (by omega) (by omega)
  exact pm_vret rfl rfl ⟨rfl, hTμ1, fun q hq hne => by rw [eμ1]; exact (pm_upq (k := 1) (i := 1) rfl hne).trans (n1 q hq), by rw [eμ1, pm_up_eq]; exact n1 (35, 1) (by decide)⟩
set_option maxRecDepth 100000 in
theorem zh_wck2 (hK : zKK ST) (hw : sx_Wd zNR zRT2 B0 Sg) (hC172 : zCK none D ST B0 l Sg zC172) (hs172 : sx_subm zC172.2.2.2.2.2 Wm = true) (hC173 : zCK none D ST B0 l Sg zC173) (hs173 : sx_subm zC173.2.2.2.2.2 Wm = true) (hC174 : zCK none D ST B0 l Sg zC174) (hs174 : sx_subm zC174.2.2.2.2.2 Wm = true) (hC175 : zCK none D ST B0 l Sg zC175) (hs175 : sx_subm zC175.2.2.2.2.2 Wm = true) (hC176 : zCK none D ST B0 l Sg zC176) (hs176 : sx_subm zC176.2.2.2.2.2 Wm = true) (hC177 : zCK none D ST B0 l Sg zC177) (hs177 : sx_subm zC177.2.2.2.2.2 Wm = true) (hC178 : zCK none D ST B0 l Sg zC178) (hs178 : sx_subm zC178.2.2.2.2.2 Wm = true) (hC179 : zCK none D ST B0 l Sg zC179) (hs179 : sx_subm zC179.2.2.2.2.2 Wm = true) (hC180 : zCK none D ST B0 l Sg zC180) (hs180 : sx_subm zC180.2.2.2.2.2 Wm = true) (hC181 : zCK none D ST B0 l Sg zC181) (hs181 : sx_subm zC181.2.2.2.2.2 Wm = true) (hC182 : zCK none D ST B0 l Sg zC182) (hs182 : sx_subm zC182.2.2.2.2.2 Wm = true) (hC183 : zCK none D ST B0 l Sg zC183) (hs183 : sx_subm zC183.2.2.2.2.2 Wm = true) (hC228 : zCK none D ST B0 l Sg zC228) (hs228 : sx_subm zC228.2.2.2.2.2 Wm = true) (hC239 : zCK none D ST B0 l Sg zC239) (hs239 : sx_subm zC239.2.2.2.2.2 Wm = true) (hC240 : zCK none D ST B0 l Sg zC240) (hs240 : sx_subm zC240.2.2.2.2.2 Wm = true) (hC326 : zCK none D ST B0 l Sg zC326) (hs326 : sx_subm zC326.2.2.2.2.2 Wm = true) (hC327 : zCK none D ST B0 l Sg zC327) (hs327 : sx_subm zC327.2.2.2.2.2 Wm = true) (hC328 : zCK none D ST B0 l Sg zC328) (hs328 : sx_subm zC328.2.2.2.2.2 Wm = true) (hC329 : zCK none D ST B0 l Sg zC329) (hs329 : sx_subm zC329.2.2.2.2.2 Wm = true) (hC401 : zCK none D ST B0 l Sg zC401) (hs401 : sx_subm zC401.2.2.2.2.2 Wm = true) (hC402 : zCK none D ST B0 l Sg zC402) (hs402 : sx_subm zC402.2.2.2.2.2 Wm = true) (hC405 : zCK none D ST B0 l Sg zC405) (hs405 : sx_subm zC405.2.2.2.2.2 Wm = true) (hC406 : zCK none D ST B0 l Sg zC406) (hs406 : sx_subm zC406.2.2.2.2.2 Wm = true) (hC407 : zCK none D ST B0 l Sg zC407) (hs407 : sx_subm zC407.2.2.2.2.2 Wm = true) (hC408 : zCK none D ST B0 l Sg zC408) (hs408 : sx_subm zC408.2.2.2.2.2 Wm = true) (hT : zTJ none μ) (hb2 : sx_bit Wm 2 = true) (hb3 : sx_bit Wm 3 = true) (hb33 : sx_bit Wm 33 = true) (hb35 : sx_bit Wm 35 = true) (hbd : 3 ≤ bud.1 ∧ 125 ≤ bud.2.1) : zC D Wm ST (sx_bW zRT2 Wm B0 Sg, J) l Sg zM120 bud [(2, 2), (2, 45)] μ (fun st' μ' => st' = [] ∧ zTJ none μ' ∧ zWc zsqA μ μ') := by
  refine pm_blk hK zmm120 [] 4 8 [(2, 2), (2, 45)] [(2, 46), (2, 3)] μ [] rfl trivial ?_
  refine pm_call hK zmm120 (82, 0, 28, 1) zM28 (2, 101) [(2, 3), (2, 46)] [] rfl rfl rfl rfl ⟨by omega, by rw [zn28]; omega⟩ (zh_ac3_46 hK hw hC172 hs172 hC173 hs173 hC174 hs174 hC175 hs175 hC176 hs176 hC177 hs177 hC178 hs178 hC179 hs179 hC180 hs180 hC181 hs181 hC182 hs182 hC183 hs183 hT hb3 ⟨Nat.le_refl _, Nat.le_refl _⟩) (fun st1 μc1 hp1 => ?_)
  obtain ⟨rfl, hTc1, hz1⟩ := hp1
  have hz := hz1
  refine pm_blk hK zmm120 [] 4 19 [(2, 2), (2, 45)] [(2, 16), (2, 59)] μc1 [] rfl trivial ?_
  refine pm_ccall hK zmm120 hC228 hw zGm_lt zJ_loc (86, 1, 29, 2) zM29 [(2, 59), (2, 16)] [] rfl rfl rfl rfl rfl ⟨by have e : zC228.2.2.2.1 = 1 := rfl; omega, by have e : zC228.2.2.2.2.1 = 80 := rfl; rw [zn29]; omega⟩ hs228 rfl (fun t ht => by cases ht) ⟨rfl, fun h => absurd h (by decide), fun _ => rfl, rfl, fun h => absurd h (by decide), fun _ => rfl, trivial⟩ (zTy_T hw hTc1.1) hTc1.2 (fun st2 μc2 hp2 hTt2 hJ2 hfr2 => ?_)
  obtain rfl := hp2
  have hTc2 : zTJ none μc2 := ⟨zTy_of hw hTt2, hJ2⟩
  have hz := zWc_fr hz (zRq_fr hfr2 (by decide +kernel))
  have f1 := zT_get hTc2 zs45_2 (i := 2) (by omega) (by omega)
  refine pm_blk hK zmm120 [] 4 30 [(2, 2), (2, 45)] [] (pm_up μc2 2 2 (μc2 45 2)) [sx_bit Wm 2 = true] rfl ⟨hb2, trivial⟩ ?_
  obtain ⟨μ1, eμ1⟩ : ∃ μ', μ' = pm_up μc2 2 2 (μc2 45 2) := ⟨_, rfl⟩
  rw [← eμ1]
  have hTμ1 : zTJ none μ1 := by rw [eμ1]; exact zT_upn hTc2 zs2_2 rfl (i := 2) (by omega) (by omega) (by omega) (by omega)
  have hz := zWc_fr (μ' := μ1) hz (fun q hq => by rw [eμ1]; exact pm_upq (k := 2) (i := 2) rfl ((show ∀ q ∈ zRq, q ≠ (2, 2) by decide) q hq))
  refine pm_blk hK zmm120 [] 4 38 [(2, 2), (2, 45)] [(2, 60), (2, 17)] μ1 [] rfl trivial ?_
  refine pm_ccall hK zmm120 hC326 hw zGm_lt zJ_loc (90, 0, 54, 1) zM54 [(2, 17), (2, 60)] [] rfl rfl rfl rfl rfl ⟨by have e : zC326.2.2.2.1 = 2 := rfl; omega, by have e : zC326.2.2.2.2.1 = 101 := rfl; rw [zn54]; omega⟩ hs326 rfl (fun t ht => by cases ht) ⟨rfl, fun h => absurd h (by decide), fun _ => rfl, rfl, fun h => absurd h (by decide), fun _ => rfl, trivial⟩ (zTy_T hw hTμ1.1) hTμ1.2 (fun st3 μc3 hp3 hTt3 hJ3 hfr3 => ?_)
  obtain rfl := hp3
  have hTc3 : zTJ none μc3 := ⟨zTy_of hw hTt3, hJ3⟩
  have hz := zWc_fr hz (zRq_fr hfr3 (by decide +kernel))
  refine pm_blk hK zmm120 [] 4 49 [(2, 2), (2, 45)] [(2, 63), (2, 20)] μc3 [] rfl trivial ?_
  refine pm_ccall hK zmm120 hC327 hw zGm_lt zJ_loc (90, 0, 54, 1) zM54 [(2, 20), (2, 63)] [] rfl rfl rfl rfl rfl ⟨by have e : zC327.2.2.2.1 = 2 := rfl; omega, by have e : zC327.2.2.2.2.1 = 101 := rfl; rw [zn54]; omega⟩ hs327 rfl (fun t ht => by cases ht) ⟨rfl, fun h => absurd h (by decide), fun _ => rfl, rfl, fun h => absurd h (by decide), fun _ => rfl, trivial⟩ (zTy_T hw hTc3.1) hTc3.2 (fun st4 μc4 hp4 hTt4 hJ4 hfr4 => ?_)
  obtain rfl := hp4
  have hTc4 : zTJ none μc4 := ⟨zTy_of hw hTt4, hJ4⟩
  have hz := zWc_fr hz (zRq_fr hfr4 (by decide +kernel))
  refine pm_blk hK zmm120 [] 4 60 [(2, 2), (2, 45)] [(2, 66), (2, 23)] μc4 [] rfl trivial ?_
  refine pm_ccall hK zmm120 hC328 hw zGm_lt zJ_loc (90, 0, 54, 1) zM54 [(2, 23), (2, 66)] [] rfl rfl rfl rfl rfl ⟨by have e : zC328.2.2.2.1 = 2 := rfl; omega, by have e : zC328.2.2.2.2.1 = 101 := rfl; rw [zn54]; omega⟩ hs328 rfl (fun t ht => by cases ht) ⟨rfl, fun h => absurd h (by decide), fun _ => rfl, rfl, fun h => absurd h (by decide), fun _ => rfl, trivial⟩ (zTy_T hw hTc4.1) hTc4.2 (fun st5 μc5 hp5 hTt5 hJ5 hfr5 => ?_)
  obtain rfl := hp5
  have hTc5 : zTJ none μc5 := ⟨zTy_of hw hTt5, hJ5⟩
  have hz := zWc_fr hz (zRq_fr hfr5 (by decide +kernel))
  refine pm_blk hK zmm120 [] 4 71 [(2, 2), (2, 45)] [(2, 69), (2, 26)] μc5 [] rfl trivial ?_
  refine pm_ccall hK zmm120 hC329 hw zGm_lt zJ_loc (90, 0, 54, 1) zM54 [(2, 26), (2, 69)] [] rfl rfl rfl rfl rfl ⟨by have e : zC329.2.2.2.1 = 2 := rfl; omega, by have e : zC329.2.2.2.2.1 = 101 := rfl; rw [zn54]; omega⟩ hs329 rfl (fun t ht => by cases ht) ⟨rfl, fun h => absurd h (by decide), fun _ => rfl, rfl, fun h => absurd h (by decide), fun _ => rfl, trivial⟩ (zTy_T hw hTc5.1) hTc5.2 (fun st6 μc6 hp6 hTt6 hJ6 hfr6 => ?_)
  obtain rfl := hp6
  have hTc6 : zTJ none μc6 := ⟨zTy_of hw hTt6, hJ6⟩
  have hz := zWc_fr hz (zRq_fr hfr6 (by decide +kernel))
  refine pm_blk hK zmm120 [] 4 82 [(2, 2), (2, 45)] [(2, 72), (2, 29)] μc6 [] rfl trivial ?_
  refine pm_ccall hK zmm120 hC401 hw zGm_lt zJ_loc (93, 0, 121, 1) zM121 [(2, 29), (2, 72)] [] rfl rfl rfl rfl rfl ⟨by have e : zC401.2.2.2.1 = 2 := rfl; omega, by have e : zC401.2.2.2.2.1 = 101 := rfl; rw [zn121]; omega⟩ hs401 rfl (fun t ht => by cases ht) ⟨rfl, fun h => absurd h (by decide), fun _ => rfl, rfl, fun h => absurd h (by decide), fun _ => rfl, trivial⟩ (zTy_T hw hTc6.1) hTc6.2 (fun st7 μc7 hp7 hTt7 hJ7 hfr7 => ?_)
  obtain rfl := hp7
  have hTc7 : zTJ none μc7 := ⟨zTy_of hw hTt7, hJ7⟩
  have hz := zWc_fr hz (zRq_fr hfr7 (by decide +kernel))
  refine pm_blk hK zmm120 [] 4 93 [(2, 2), (2, 45)] [(2, 74), (2, 31)] μc7 [] rfl trivial ?_
  refine pm_ccall hK zmm120 hC402 hw zGm_lt zJ_loc (93, 0, 121, 1) zM121 [(2, 31), (2, 74)] [] rfl rfl rfl rfl rfl ⟨by have e : zC402.2.2.2.1 = 2 := rfl; omega, by have e : zC402.2.2.2.2.1 = 101 := rfl; rw [zn121]; omega⟩ hs402 rfl (fun t ht => by cases ht) ⟨rfl, fun h => absurd h (by decide), fun _ => rfl, rfl, fun h => absurd h (by decide), fun _ => rfl, trivial⟩ (zTy_T hw hTc7.1) hTc7.2 (fun st8 μc8 hp8 hTt8 hJ8 hfr8 => ?_)
  obtain rfl := hp8
  have hTc8 : zTJ none μc8 := ⟨zTy_of hw hTt8, hJ8⟩
  have hz := zWc_fr hz (zRq_fr hfr8 (by decide +kernel))
  refine pm_blk hK zmm120 [] 4 104 [(2, 2), (2, 45)] [(2, 76), (2, 33)] μc8 [] rfl trivial ?_
  refine pm_call hK zmm120 (93, 0, 121, 1) zM121 (2, 101) [(2, 33), (2, 76)] [] rfl rfl rfl rfl ⟨by omega, by rw [zn121]; omega⟩ (zh_rzk33 hK hw hC239 hs239 hTc8 hb33 ⟨Nat.le_refl _, Nat.le_refl _⟩) (fun st9 μc9 hp9 => ?_)
  obtain ⟨rfl, hTc9, na9, nb9⟩ := hp9
  have hz := zWc_rcp (μ' := μc9) (d := (33, 1)) (s := (76, 1)) hz (by decide) na9 nb9
  refine pm_blk hK zmm120 [] 4 115 [(2, 2), (2, 45)] [(2, 78), (2, 35)] μc9 [] rfl trivial ?_
  refine pm_call hK zmm120 (93, 0, 121, 1) zM121 (2, 101) [(2, 35), (2, 78)] [] rfl rfl rfl rfl ⟨by omega, by rw [zn121]; omega⟩ (zh_rzk35 hK hw hC240 hs240 hTc9 hb35 ⟨Nat.le_refl _, Nat.le_refl _⟩) (fun st10 μc10 hp10 => ?_)
  obtain ⟨rfl, hTc10, na10, nb10⟩ := hp10
  have hz := zWc_rcp (μ' := μc10) (d := (35, 1)) (s := (78, 1)) hz (by decide) na10 nb10
  refine pm_blk hK zmm120 [] 4 126 [(2, 2), (2, 45)] [(2, 80), (2, 37)] μc10 [] rfl trivial ?_
  refine pm_ccall hK zmm120 hC405 hw zGm_lt zJ_loc (93, 0, 121, 1) zM121 [(2, 37), (2, 80)] [] rfl rfl rfl rfl rfl ⟨by have e : zC405.2.2.2.1 = 2 := rfl; omega, by have e : zC405.2.2.2.2.1 = 101 := rfl; rw [zn121]; omega⟩ hs405 rfl (fun t ht => by cases ht) ⟨rfl, fun h => absurd h (by decide), fun _ => rfl, rfl, fun h => absurd h (by decide), fun _ => rfl, trivial⟩ (zTy_T hw hTc10.1) hTc10.2 (fun st11 μc11 hp11 hTt11 hJ11 hfr11 => ?_)
  obtain rfl := hp11
  have hTc11 : zTJ none μc11 := ⟨zTy_of hw hTt11, hJ11⟩
  have hz := zWc_fr hz (zRq_fr hfr11 (by decide +kernel))
  refine pm_blk hK zmm120 [] 4 137 [(2, 2), (2, 45)] [(2, 82), (2, 39)] μc11 [] rfl trivial ?_
  refine pm_ccall hK zmm120 hC406 hw zGm_lt zJ_loc (93, 0, 121, 1) zM121 [(2, 39), (2, 82)] [] rfl rfl rfl rfl rfl ⟨by have e : zC406.2.2.2.1 = 2 := rfl; omega, by have e : zC406.2.2.2.2.1 = 101 := rfl; rw [zn121]; omega⟩ hs406 rfl (fun t ht => by cases ht) ⟨rfl, fun h => absurd h (by decide), fun _ => rfl, rfl, fun h => absurd h (by decide), fun _ => rfl, trivial⟩ (zTy_T hw hTc11.1) hTc11.2 (fun st12 μc12 hp12 hTt12 hJ12 hfr12 => ?_)
  obtain rfl := hp12
  have hTc12 : zTJ none μc12 := ⟨zTy_of hw hTt12, hJ12⟩
  have hz := zWc_fr hz (zRq_fr hfr12 (by decide +kernel))
  refine pm_blk hK zmm120 [] 4 148 [(2, 2), (2, 45)] [(2, 84), (2, 41)] μc12 [] rfl trivial ?_
  refine pm_ccall hK zmm120 hC407 hw zGm_lt zJ_loc (93, 0, 121, 1) zM121 [(2, 41), (2, 84)] [] rfl rfl rfl rfl rfl ⟨by have e : zC407.2.2.2.1 = 2 := rfl; omega, by have e : zC407.2.2.2.2.1 = 101 := rfl; rw [zn121]; omega⟩ hs407 rfl (fun t ht => by cases ht) ⟨rfl, fun h => absurd h (by decide), fun _ => rfl, rfl, fun h => absurd h (by decide), fun _ => rfl, trivial⟩ (zTy_T hw hTc12.1) hTc12.2 (fun st13 μc13 hp13 hTt13 hJ13 hfr13 => ?_)
  obtain rfl := hp13
  have hTc13 : zTJ none μc13 := ⟨zTy_of hw hTt13, hJ13⟩
  have hz := zWc_fr hz (zRq_fr hfr13 (by decide +kernel))
  refine pm_blk hK zmm120 [] 4 159 [(2, 2), (2, 45)] [(2, 86), (2, 43)] μc13 [] rfl trivial ?_
  refine pm_ccall hK zmm120 hC408 hw zGm_lt zJ_loc (93, 0, 121, 1) zM121 [(2, 43), (2, 86)] [] rfl rfl rfl rfl rfl ⟨by have e : zC408.2.2.2.1 = 2 := rfl; omega, by have e : zC408.2.2.2.2.1 = 101 := rfl; rw [zn121]; omega⟩ hs408 rfl (fun t ht => by cases ht) ⟨rfl, fun h => absurd h (by decide), fun _ => rfl, rfl, fun h => absurd h (by decide), fun _ => rfl, trivial⟩ (zTy_T hw hTc13.1) hTc13.2 (fun st14 μc14 hp14 hTt14 hJ14 hfr14 => ?_)
  obtain rfl := hp14
  have hTc14 : zTJ none μc14 := ⟨zTy_of hw hTt14, hJ14⟩
  have hz := zWc_fr hz (zRq_fr hfr14 (by decide +kernel))
  exact pm_vret rfl rfl ⟨rfl, hTc14, zWc_eq hz (by decide)⟩
set_option maxRecDepth 100000 in
theorem zh_wck45 (hK : zKK ST) (hw : sx_Wd zNR zRT2 B0 Sg) (hC198 : zCK none D ST B0 l Sg zC198) (hs198 : sx_subm zC198.2.2.2.2.2 Wm = true) (hC199 : zCK none D ST B0 l Sg zC199) (hs199 : sx_subm zC199.2.2.2.2.2 Wm = true) (hC200 : zCK none D ST B0 l Sg zC200) (hs200 : sx_subm zC200.2.2.2.2.2 Wm = true) (hC201 : zCK none D ST B0 l Sg zC201) (hs201 : sx_subm zC201.2.2.2.2.2 Wm = true) (hC202 : zCK none D ST B0 l Sg zC202) (hs202 : sx_subm zC202.2.2.2.2.2 Wm = true) (hC203 : zCK none D ST B0 l Sg zC203) (hs203 : sx_subm zC203.2.2.2.2.2 Wm = true) (hC204 : zCK none D ST B0 l Sg zC204) (hs204 : sx_subm zC204.2.2.2.2.2 Wm = true) (hC205 : zCK none D ST B0 l Sg zC205) (hs205 : sx_subm zC205.2.2.2.2.2 Wm = true) (hC206 : zCK none D ST B0 l Sg zC206) (hs206 : sx_subm zC206.2.2.2.2.2 Wm = true) (hC207 : zCK none D ST B0 l Sg zC207) (hs207 : sx_subm zC207.2.2.2.2.2 Wm = true) (hC208 : zCK none D ST B0 l Sg zC208) (hs208 : sx_subm zC208.2.2.2.2.2 Wm = true) (hC209 : zCK none D ST B0 l Sg zC209) (hs209 : sx_subm zC209.2.2.2.2.2 Wm = true) (hC211 : zCK none D ST B0 l Sg zC211) (hs211 : sx_subm zC211.2.2.2.2.2 Wm = true) (hC222 : zCK none D ST B0 l Sg zC222) (hs222 : sx_subm zC222.2.2.2.2.2 Wm = true) (hC223 : zCK none D ST B0 l Sg zC223) (hs223 : sx_subm zC223.2.2.2.2.2 Wm = true) (hC330 : zCK none D ST B0 l Sg zC330) (hs330 : sx_subm zC330.2.2.2.2.2 Wm = true) (hC331 : zCK none D ST B0 l Sg zC331) (hs331 : sx_subm zC331.2.2.2.2.2 Wm = true) (hC332 : zCK none D ST B0 l Sg zC332) (hs332 : sx_subm zC332.2.2.2.2.2 Wm = true) (hC333 : zCK none D ST B0 l Sg zC333) (hs333 : sx_subm zC333.2.2.2.2.2 Wm = true) (hC410 : zCK none D ST B0 l Sg zC410) (hs410 : sx_subm zC410.2.2.2.2.2 Wm = true) (hC411 : zCK none D ST B0 l Sg zC411) (hs411 : sx_subm zC411.2.2.2.2.2 Wm = true) (hC414 : zCK none D ST B0 l Sg zC414) (hs414 : sx_subm zC414.2.2.2.2.2 Wm = true) (hC415 : zCK none D ST B0 l Sg zC415) (hs415 : sx_subm zC415.2.2.2.2.2 Wm = true) (hC416 : zCK none D ST B0 l Sg zC416) (hs416 : sx_subm zC416.2.2.2.2.2 Wm = true) (hC417 : zCK none D ST B0 l Sg zC417) (hs417 : sx_subm zC417.2.2.2.2.2 Wm = true) (hT : zTJ none μ) (hb45 : sx_bit Wm 45 = true) (hb46 : sx_bit Wm 46 = true) (hb76 : sx_bit Wm 76 = true) (hb78 : sx_bit Wm 78 = true) (hbd : 3 ≤ bud.1 ∧ 125 ≤ bud.2.1) : zC D Wm ST (sx_bW zRT2 Wm B0 Sg, J) l Sg zM120 bud [(2, 45), (2, 2)] μ (fun st' μ' => st' = [] ∧ zTJ none μ' ∧ zWc zsqB μ μ') := by
  refine pm_blk hK zmm120 [] 4 8 [(2, 45), (2, 2)] [(2, 3), (2, 46)] μ [] rfl trivial ?_
  refine pm_call hK zmm120 (82, 0, 28, 1) zM28 (2, 101) [(2, 46), (2, 3)] [] rfl rfl rfl rfl ⟨by omega, by rw [zn28]; omega⟩ (zh_ac46_3 hK hw hC198 hs198 hC199 hs199 hC200 hs200 hC201 hs201 hC202 hs202 hC203 hs203 hC204 hs204 hC205 hs205 hC206 hs206 hC207 hs207 hC208 hs208 hC209 hs209 hT hb46 ⟨Nat.le_refl _, Nat.le_refl _⟩) (fun st1 μc1 hp1 => ?_)
  obtain ⟨rfl, hTc1, hz1, hv1⟩ := hp1
  have hz := hz1
  refine pm_blk hK zmm120 [] 4 19 [(2, 45), (2, 2)] [(2, 59), (2, 16)] μc1 [] rfl trivial ?_
  refine pm_ccall hK zmm120 hC211 hw zGm_lt zJ_loc (86, 1, 29, 2) zM29 [(2, 16), (2, 59)] [] rfl rfl rfl rfl rfl ⟨by have e : zC211.2.2.2.1 = 1 := rfl; omega, by have e : zC211.2.2.2.2.1 = 80 := rfl; rw [zn29]; omega⟩ hs211 rfl (fun t ht => by cases ht) ⟨rfl, fun h => absurd h (by decide), fun _ => rfl, rfl, fun h => absurd h (by decide), fun _ => rfl, trivial⟩ (zTy_T hw hTc1.1) hTc1.2 (fun st2 μc2 hp2 hTt2 hJ2 hfr2 => ?_)
  obtain rfl := hp2
  have hTc2 : zTJ none μc2 := ⟨zTy_of hw hTt2, hJ2⟩
  have hz := zWc_fr hz (zRq_fr hfr2 (by decide +kernel))
  have f1 := zT_get hTc2 zs2_2 (i := 2) (by omega) (by omega)
  refine pm_blk hK zmm120 [] 4 30 [(2, 45), (2, 2)] [] (pm_up μc2 45 2 (μc2 2 2)) [sx_bit Wm 45 = true] rfl ⟨hb45, trivial⟩ ?_
  obtain ⟨μ1, eμ1⟩ : ∃ μ', μ' = pm_up μc2 45 2 (μc2 2 2) := ⟨_, rfl⟩
  rw [← eμ1]
  have hTμ1 : zTJ none μ1 := by rw [eμ1]; exact zT_upn hTc2 zs45_2 rfl (i := 2) (by omega) (by omega) (by omega) (by omega)
  have hz := zWc_fr (μ' := μ1) hz (fun q hq => by rw [eμ1]; exact pm_upq (k := 2) (i := 2) rfl ((show ∀ q ∈ zRq, q ≠ (45, 2) by decide) q hq))
  refine pm_blk hK zmm120 [] 4 38 [(2, 45), (2, 2)] [(2, 17), (2, 60)] μ1 [] rfl trivial ?_
  refine pm_ccall hK zmm120 hC330 hw zGm_lt zJ_loc (90, 0, 54, 1) zM54 [(2, 60), (2, 17)] [] rfl rfl rfl rfl rfl ⟨by have e : zC330.2.2.2.1 = 2 := rfl; omega, by have e : zC330.2.2.2.2.1 = 101 := rfl; rw [zn54]; omega⟩ hs330 rfl (fun t ht => by cases ht) ⟨rfl, fun h => absurd h (by decide), fun _ => rfl, rfl, fun h => absurd h (by decide), fun _ => rfl, trivial⟩ (zTy_T hw hTμ1.1) hTμ1.2 (fun st3 μc3 hp3 hTt3 hJ3 hfr3 => ?_)
  obtain rfl := hp3
  have hTc3 : zTJ none μc3 := ⟨zTy_of hw hTt3, hJ3⟩
  have hz := zWc_fr hz (zRq_fr hfr3 (by decide +kernel))
  refine pm_blk hK zmm120 [] 4 49 [(2, 45), (2, 2)] [(2, 20), (2, 63)] μc3 [] rfl trivial ?_
  refine pm_ccall hK zmm120 hC331 hw zGm_lt zJ_loc (90, 0, 54, 1) zM54 [(2, 63), (2, 20)] [] rfl rfl rfl rfl rfl ⟨by have e : zC331.2.2.2.1 = 2 := rfl; omega, by have e : zC331.2.2.2.2.1 = 101 := rfl; rw [zn54]; omega⟩ hs331 rfl (fun t ht => by cases ht) ⟨rfl, fun h => absurd h (by decide), fun _ => rfl, rfl, fun h => absurd h (by decide), fun _ => rfl, trivial⟩ (zTy_T hw hTc3.1) hTc3.2 (fun st4 μc4 hp4 hTt4 hJ4 hfr4 => ?_)
  obtain rfl := hp4
  have hTc4 : zTJ none μc4 := ⟨zTy_of hw hTt4, hJ4⟩
  have hz := zWc_fr hz (zRq_fr hfr4 (by decide +kernel))
  refine pm_blk hK zmm120 [] 4 60 [(2, 45), (2, 2)] [(2, 23), (2, 66)] μc4 [] rfl trivial ?_
  refine pm_ccall hK zmm120 hC332 hw zGm_lt zJ_loc (90, 0, 54, 1) zM54 [(2, 66), (2, 23)] [] rfl rfl rfl rfl rfl ⟨by have e : zC332.2.2.2.1 = 2 := rfl; omega, by have e : zC332.2.2.2.2.1 = 101 := rfl; rw [zn54]; omega⟩ hs332 rfl (fun t ht => by cases ht) ⟨rfl, fun h => absurd h (by decide), fun _ => rfl, rfl, fun h => absurd h (by decide), fun _ => rfl, trivial⟩ (zTy_T hw hTc4.1) hTc4.2 (fun st5 μc5 hp5 hTt5 hJ5 hfr5 => ?_)
  obtain rfl := hp5
  have hTc5 : zTJ none μc5 := ⟨zTy_of hw hTt5, hJ5⟩
  have hz := zWc_fr hz (zRq_fr hfr5 (by decide +kernel))
  refine pm_blk hK zmm120 [] 4 71 [(2, 45), (2, 2)] [(2, 26), (2, 69)] μc5 [] rfl trivial ?_
  refine pm_ccall hK zmm120 hC333 hw zGm_lt zJ_loc (90, 0, 54, 1) zM54 [(2, 69), (2, 26)] [] rfl rfl rfl rfl rfl ⟨by have e : zC333.2.2.2.1 = 2 := rfl; omega, by have e : zC333.2.2.2.2.1 = 101 := rfl; rw [zn54]; omega⟩ hs333 rfl (fun t ht => by cases ht) ⟨rfl, fun h => absurd h (by decide), fun _ => rfl, rfl, fun h => absurd h (by decide), fun _ => rfl, trivial⟩ (zTy_T hw hTc5.1) hTc5.2 (fun st6 μc6 hp6 hTt6 hJ6 hfr6 => ?_)
  obtain rfl := hp6
  have hTc6 : zTJ none μc6 := ⟨zTy_of hw hTt6, hJ6⟩
  have hz := zWc_fr hz (zRq_fr hfr6 (by decide +kernel))
  refine pm_blk hK zmm120 [] 4 82 [(2, 45), (2, 2)] [(2, 29), (2, 72)] μc6 [] rfl trivial ?_
  refine pm_ccall hK zmm120 hC410 hw zGm_lt zJ_loc (93, 0, 121, 1) zM121 [(2, 72), (2, 29)] [] rfl rfl rfl rfl rfl ⟨by have e : zC410.2.2.2.1 = 2 := rfl; omega, by have e : zC410.2.2.2.2.1 = 101 := rfl; rw [zn121]; omega⟩ hs410 rfl (fun t ht => by cases ht) ⟨rfl, fun h => absurd h (by decide), fun _ => rfl, rfl, fun h => absurd h (by decide), fun _ => rfl, trivial⟩ (zTy_T hw hTc6.1) hTc6.2 (fun st7 μc7 hp7 hTt7 hJ7 hfr7 => ?_)
  obtain rfl := hp7
  have hTc7 : zTJ none μc7 := ⟨zTy_of hw hTt7, hJ7⟩
  have hz := zWc_fr hz (zRq_fr hfr7 (by decide +kernel))
  refine pm_blk hK zmm120 [] 4 93 [(2, 45), (2, 2)] [(2, 31), (2, 74)] μc7 [] rfl trivial ?_
  refine pm_ccall hK zmm120 hC411 hw zGm_lt zJ_loc (93, 0, 121, 1) zM121 [(2, 74), (2, 31)] [] rfl rfl rfl rfl rfl ⟨by have e : zC411.2.2.2.1 = 2 := rfl; omega, by have e : zC411.2.2.2.2.1 = 101 := rfl; rw [zn121]; omega⟩ hs411 rfl (fun t ht => by cases ht) ⟨rfl, fun h => absurd h (by decide), fun _ => rfl, rfl, fun h => absurd h (by decide), fun _ => rfl, trivial⟩ (zTy_T hw hTc7.1) hTc7.2 (fun st8 μc8 hp8 hTt8 hJ8 hfr8 => ?_)
  obtain rfl := hp8
  have hTc8 : zTJ none μc8 := ⟨zTy_of hw hTt8, hJ8⟩
  have hz := zWc_fr hz (zRq_fr hfr8 (by decide +kernel))
  refine pm_blk hK zmm120 [] 4 104 [(2, 45), (2, 2)] [(2, 33), (2, 76)] μc8 [] rfl trivial ?_
  refine pm_call hK zmm120 (93, 0, 121, 1) zM121 (2, 101) [(2, 76), (2, 33)] [] rfl rfl rfl rfl ⟨by omega, by rw [zn121]; omega⟩ (zh_rzk76 hK hw hC222 hs222 hTc8 hb76 ⟨Nat.le_refl _, Nat.le_refl _⟩) (fun st9 μc9 hp9 => ?_)
  obtain ⟨rfl, hTc9, na9, nb9⟩ := hp9
  have hz := zWc_rcp (μ' := μc9) (d := (76, 1)) (s := (33, 1)) hz (by decide) na9 nb9
  refine pm_blk hK zmm120 [] 4 115 [(2, 45), (2, 2)] [(2, 35), (2, 78)] μc9 [] rfl trivial ?_
  refine pm_call hK zmm120 (93, 0, 121, 1) zM121 (2, 101) [(2, 78), (2, 35)] [] rfl rfl rfl rfl ⟨by omega, by rw [zn121]; omega⟩ (zh_rzk78 hK hw hC223 hs223 hTc9 hb78 ⟨Nat.le_refl _, Nat.le_refl _⟩) (fun st10 μc10 hp10 => ?_)
  obtain ⟨rfl, hTc10, na10, nb10⟩ := hp10
  have hz := zWc_rcp (μ' := μc10) (d := (78, 1)) (s := (35, 1)) hz (by decide) na10 nb10
  refine pm_blk hK zmm120 [] 4 126 [(2, 45), (2, 2)] [(2, 37), (2, 80)] μc10 [] rfl trivial ?_
  refine pm_ccall hK zmm120 hC414 hw zGm_lt zJ_loc (93, 0, 121, 1) zM121 [(2, 80), (2, 37)] [] rfl rfl rfl rfl rfl ⟨by have e : zC414.2.2.2.1 = 2 := rfl; omega, by have e : zC414.2.2.2.2.1 = 101 := rfl; rw [zn121]; omega⟩ hs414 rfl (fun t ht => by cases ht) ⟨rfl, fun h => absurd h (by decide), fun _ => rfl, rfl, fun h => absurd h (by decide), fun _ => rfl, trivial⟩ (zTy_T hw hTc10.1) hTc10.2 (fun st11 μc11 hp11 hTt11 hJ11 hfr11 => ?_)
  obtain rfl := hp11
  have hTc11 : zTJ none μc11 := ⟨zTy_of hw hTt11, hJ11⟩
  have hz := zWc_fr hz (zRq_fr hfr11 (by decide +kernel))
  refine pm_blk hK zmm120 [] 4 137 [(2, 45), (2, 2)] [(2, 39), (2, 82)] μc11 [] rfl trivial ?_
  refine pm_ccall hK zmm120 hC415 hw zGm_lt zJ_loc (93, 0, 121, 1) zM121 [(2, 82), (2, 39)] [] rfl rfl rfl rfl rfl ⟨by have e : zC415.2.2.2.1 = 2 := rfl; omega, by have e : zC415.2.2.2.2.1 = 101 := rfl; rw [zn121]; omega⟩ hs415 rfl (fun t ht => by cases ht) ⟨rfl, fun h => absurd h (by decide), fun _ => rfl, rfl, fun h => absurd h (by decide), fun _ => rfl, trivial⟩ (zTy_T hw hTc11.1) hTc11.2 (fun st12 μc12 hp12 hTt12 hJ12 hfr12 => ?_)
  obtain rfl := hp12
  have hTc12 : zTJ none μc12 := ⟨zTy_of hw hTt12, hJ12⟩
  have hz := zWc_fr hz (zRq_fr hfr12 (by decide +kernel))
  refine pm_blk hK zmm120 [] 4 148 [(2, 45), (2, 2)] [(2, 41), (2, 84)] μc12 [] rfl trivial ?_
  refine pm_ccall hK zmm120 hC416 hw zGm_lt zJ_loc (93, 0, 121, 1) zM121 [(2, 84), (2, 41)] [] rfl rfl rfl rfl rfl ⟨by have e : zC416.2.2.2.1 = 2 := rfl; omega, by have e : zC416.2.2.2.2.1 = 101 := rfl; rw [zn121]; omega⟩ hs416 rfl (fun t ht => by cases ht) ⟨rfl, fun h => absurd h (by decide), fun _ => rfl, rfl, fun h => absurd h (by decide), fun _ => rfl, trivial⟩ (zTy_T hw hTc12.1) hTc12.2 (fun st13 μc13 hp13 hTt13 hJ13 hfr13 => ?_)
  obtain rfl := hp13
  have hTc13 : zTJ none μc13 := ⟨zTy_of hw hTt13, hJ13⟩
  have hz := zWc_fr hz (zRq_fr hfr13 (by decide +kernel))
  refine pm_blk hK zmm120 [] 4 159 [(2, 45), (2, 2)] [(2, 43), (2, 86)] μc13 [] rfl trivial ?_
  refine pm_ccall hK zmm120 hC417 hw zGm_lt zJ_loc (93, 0, 121, 1) zM121 [(2, 86), (2, 43)] [] rfl rfl rfl rfl rfl ⟨by have e : zC417.2.2.2.1 = 2 := rfl; omega, by have e : zC417.2.2.2.2.1 = 101 := rfl; rw [zn121]; omega⟩ hs417 rfl (fun t ht => by cases ht) ⟨rfl, fun h => absurd h (by decide), fun _ => rfl, rfl, fun h => absurd h (by decide), fun _ => rfl, trivial⟩ (zTy_T hw hTc13.1) hTc13.2 (fun st14 μc14 hp14 hTt14 hJ14 hfr14 => ?_)
  obtain rfl := hp14
  have hTc14 : zTJ none μc14 := ⟨zTy_of hw hTt14, hJ14⟩
  have hz := zWc_fr hz (zRq_fr hfr14 (by decide +kernel))
  exact pm_vret rfl rfl ⟨rfl, hTc14, zWc_eq hz (by decide)⟩
set_option maxRecDepth 100000 in
theorem zh_imagek (hK : zKK ST) {b : Int} (hw : sx_Wd zNR zRT2 B0 Sg) (hC172 : zCK none D ST B0 l Sg zC172) (hs172 : sx_subm zC172.2.2.2.2.2 Wm = true) (hC173 : zCK none D ST B0 l Sg zC173) (hs173 : sx_subm zC173.2.2.2.2.2 Wm = true) (hC174 : zCK none D ST B0 l Sg zC174) (hs174 : sx_subm zC174.2.2.2.2.2 Wm = true) (hC175 : zCK none D ST B0 l Sg zC175) (hs175 : sx_subm zC175.2.2.2.2.2 Wm = true) (hC176 : zCK none D ST B0 l Sg zC176) (hs176 : sx_subm zC176.2.2.2.2.2 Wm = true) (hC177 : zCK none D ST B0 l Sg zC177) (hs177 : sx_subm zC177.2.2.2.2.2 Wm = true) (hC178 : zCK none D ST B0 l Sg zC178) (hs178 : sx_subm zC178.2.2.2.2.2 Wm = true) (hC179 : zCK none D ST B0 l Sg zC179) (hs179 : sx_subm zC179.2.2.2.2.2 Wm = true) (hC180 : zCK none D ST B0 l Sg zC180) (hs180 : sx_subm zC180.2.2.2.2.2 Wm = true) (hC181 : zCK none D ST B0 l Sg zC181) (hs181 : sx_subm zC181.2.2.2.2.2 Wm = true) (hC182 : zCK none D ST B0 l Sg zC182) (hs182 : sx_subm zC182.2.2.2.2.2 Wm = true) (hC183 : zCK none D ST B0 l Sg zC183) (hs183 : sx_subm zC183.2.2.2.2.2 Wm = true) (hC198 : zCK none D ST B0 l Sg zC198) (hs198 : sx_subm zC198.2.2.2.2.2 Wm = true) (hC199 : zCK none D ST B0 l Sg zC199) (hs199 : sx_subm zC199.2.2.2.2.2 Wm = true) (hC200 : zCK none D ST B0 l Sg zC200) (hs200 : sx_subm zC200.2.2.2.2.2 Wm = true) (hC201 : zCK none D ST B0 l Sg zC201) (hs201 : sx_subm zC201.2.2.2.2.2 Wm = true) (hC202 : zCK none D ST B0 l Sg zC202) (hs202 : sx_subm zC202.2.2.2.2.2 Wm = true) (hC203 : zCK none D ST B0 l Sg zC203) (hs203 : sx_subm zC203.2.2.2.2.2 Wm = true) (hC204 : zCK none D ST B0 l Sg zC204) (hs204 : sx_subm zC204.2.2.2.2.2 Wm = true) (hC205 : zCK none D ST B0 l Sg zC205) (hs205 : sx_subm zC205.2.2.2.2.2 Wm = true) (hC206 : zCK none D ST B0 l Sg zC206) (hs206 : sx_subm zC206.2.2.2.2.2 Wm = true) (hC207 : zCK none D ST B0 l Sg zC207) (hs207 : sx_subm zC207.2.2.2.2.2 Wm = true) (hC208 : zCK none D ST B0 l Sg zC208) (hs208 : sx_subm zC208.2.2.2.2.2 Wm = true) (hC209 : zCK none D ST B0 l Sg zC209) (hs209 : sx_subm zC209.2.2.2.2.2 Wm = true) (hC211 : zCK none D ST B0 l Sg zC211) (hs211 : sx_subm zC211.2.2.2.2.2 Wm = true) (hC222 : zCK none D ST B0 l Sg zC222) (hs222 : sx_subm zC222.2.2.2.2.2 Wm = true) (hC223 : zCK none D ST B0 l Sg zC223) (hs223 : sx_subm zC223.2.2.2.2.2 Wm = true) (hC228 : zCK none D ST B0 l Sg zC228) (hs228 : sx_subm zC228.2.2.2.2.2 Wm = true) (hC239 : zCK none D ST B0 l Sg zC239) (hs239 : sx_subm zC239.2.2.2.2.2 Wm = true) (hC240 : zCK none D ST B0 l Sg zC240) (hs240 : sx_subm zC240.2.2.2.2.2 Wm = true) (hC326 : zCK none D ST B0 l Sg zC326) (hs326 : sx_subm zC326.2.2.2.2.2 Wm = true) (hC327 : zCK none D ST B0 l Sg zC327) (hs327 : sx_subm zC327.2.2.2.2.2 Wm = true) (hC328 : zCK none D ST B0 l Sg zC328) (hs328 : sx_subm zC328.2.2.2.2.2 Wm = true) (hC329 : zCK none D ST B0 l Sg zC329) (hs329 : sx_subm zC329.2.2.2.2.2 Wm = true) (hC330 : zCK none D ST B0 l Sg zC330) (hs330 : sx_subm zC330.2.2.2.2.2 Wm = true) (hC331 : zCK none D ST B0 l Sg zC331) (hs331 : sx_subm zC331.2.2.2.2.2 Wm = true) (hC332 : zCK none D ST B0 l Sg zC332) (hs332 : sx_subm zC332.2.2.2.2.2 Wm = true) (hC333 : zCK none D ST B0 l Sg zC333) (hs333 : sx_subm zC333.2.2.2.2.2 Wm = true) (hC401 : zCK none D ST B0 l Sg zC401) (hs401 : sx_subm zC401.2.2.2.2.2 Wm = true) (hC402 : zCK none D ST B0 l Sg zC402) (hs402 : sx_subm zC402.2.2.2.2.2 Wm = true) (hC405 : zCK none D ST B0 l Sg zC405) (hs405 : sx_subm zC405.2.2.2.2.2 Wm = true) (hC406 : zCK none D ST B0 l Sg zC406) (hs406 : sx_subm zC406.2.2.2.2.2 Wm = true) (hC407 : zCK none D ST B0 l Sg zC407) (hs407 : sx_subm zC407.2.2.2.2.2 Wm = true) (hC408 : zCK none D ST B0 l Sg zC408) (hs408 : sx_subm zC408.2.2.2.2.2 Wm = true) (hC410 : zCK none D ST B0 l Sg zC410) (hs410 : sx_subm zC410.2.2.2.2.2 Wm = true) (hC411 : zCK none D ST B0 l Sg zC411) (hs411 : sx_subm zC411.2.2.2.2.2 Wm = true) (hC414 : zCK none D ST B0 l Sg zC414) (hs414 : sx_subm zC414.2.2.2.2.2 Wm = true) (hC415 : zCK none D ST B0 l Sg zC415) (hs415 : sx_subm zC415.2.2.2.2.2 Wm = true) (hC416 : zCK none D ST B0 l Sg zC416) (hs416 : sx_subm zC416.2.2.2.2.2 Wm = true) (hC417 : zCK none D ST B0 l Sg zC417) (hs417 : sx_subm zC417.2.2.2.2.2 Wm = true) (hT : zTJ none μ) (hb1 : sx_bit Wm 1 = true) (hb2 : sx_bit Wm 2 = true) (hb3 : sx_bit Wm 3 = true) (hb33 : sx_bit Wm 33 = true) (hb35 : sx_bit Wm 35 = true) (hb45 : sx_bit Wm 45 = true) (hb46 : sx_bit Wm 46 = true) (hb76 : sx_bit Wm 76 = true) (hb78 : sx_bit Wm 78 = true) (hb96 : sx_bit Wm 96 = true) (hbd : 4 ≤ bud.1 ∧ 150 ≤ bud.2.1) : zC D Wm ST (sx_bW zRT2 Wm B0 Sg, J) l Sg zM119 bud [(2, 1), (0, b)] μ (fun st' μ' => ∃ x, st' = [(0, x)] ∧ zTJ none μ' ∧ zIMC b μ x μ') := by
  refine pm_blk hK zmm119 [] 1 1 [(2, 1), (0, b)] [(0, b)] μ [] rfl trivial ?_
  refine pm_if hK zmm119 .eq 21 22 rfl rfl (fun h0 => ?_) (fun h0 => ?_)
  · have h0 : b = (0 : Int) := h0
    have f1 := zT_get hT zs1_2 (i := 2) (by omega) (by omega)
    refine pm_blk hK zmm119 [] 2 26 [(2, 1), (0, b)] [(0, μ 1 2)] μ [] rfl trivial ?_
    refine pm_if hK zmm119 .ne 5 31 rfl rfl (fun h1 => ?_) (fun h1 => ?_)
    · have h1 : μ 1 2 ≠ (0 : Int) := h1
      refine pm_blk hK zmm119 [] 4 39 [(2, 1), (0, b)] [(2, 45), (2, 2)] μ [] rfl trivial ?_
      refine pm_call hK zmm119 (408, 0, 120, 1) zM120 (3, 125) [(2, 2), (2, 45)] [] rfl rfl rfl rfl ⟨by omega, by rw [zn120]; omega⟩ (zh_wck2 hK hw hC172 hs172 hC173 hs173 hC174 hs174 hC175 hs175 hC176 hs176 hC177 hs177 hC178 hs178 hC179 hs179 hC180 hs180 hC181 hs181 hC182 hs182 hC183 hs183 hC228 hs228 hC239 hs239 hC240 hs240 hC326 hs326 hC327 hs327 hC328 hs328 hC329 hs329 hC401 hs401 hC402 hs402 hC405 hs405 hC406 hs406 hC407 hs407 hC408 hs408 hT hb2 hb3 hb33 hb35 ⟨Nat.le_refl _, Nat.le_refl _⟩) (fun st1 μc1 hp1 => ?_)
      obtain ⟨rfl, hTc1, hz1⟩ := hp1
      have hz := hz1
      refine pm_blk hK zmm119 [] 2 46 [(2, 1), (0, b)] [(2, 96)] μc1 [] rfl trivial ?_
      refine pm_call hK zmm119 (91, 0, 14, 0) zM14 (0, 0) [(2, 96)] [] rfl rfl rfl rfl ⟨by omega, by rw [zn14]; omega⟩ (zh_forgetk hK hTc1 hb96 ⟨Nat.le_refl _, Nat.le_refl _⟩) (fun st2 μc2 hp2 => ?_)
      obtain ⟨rfl, hTc2, ef2⟩ := hp2
      have ef := ef2
      refine pm_blk hK zmm119 [] 1 50 [(2, 1), (0, b)] [(0, 1)] μc2 [] rfl trivial ?_
      exact pm_zret rfl rfl (by first | exact Or.inl rfl | exact Or.inr rfl | omega) ⟨_, rfl, hTc2, zIMC_b h0 h1 hz ef⟩
    · have h1 : μ 1 2 = (0 : Int) := h1
      refine pm_blk hK zmm119 [] 1 30 [(2, 1), (0, b)] [(0, 0)] μ [] rfl trivial ?_
      exact pm_zret rfl rfl (by first | exact Or.inl rfl | exact Or.inr rfl | omega) ⟨_, rfl, hT, zIMC_n h0 h1⟩
  · have h0 : b ≠ (0 : Int) := h0
    refine pm_blk hK zmm119 [] 4 12 [(2, 1), (0, b)] [(2, 2), (2, 45)] μ [] rfl trivial ?_
    refine pm_call hK zmm119 (408, 0, 120, 1) zM120 (3, 125) [(2, 45), (2, 2)] [] rfl rfl rfl rfl ⟨by omega, by rw [zn120]; omega⟩ (zh_wck45 hK hw hC198 hs198 hC199 hs199 hC200 hs200 hC201 hs201 hC202 hs202 hC203 hs203 hC204 hs204 hC205 hs205 hC206 hs206 hC207 hs207 hC208 hs208 hC209 hs209 hC211 hs211 hC222 hs222 hC223 hs223 hC330 hs330 hC331 hs331 hC332 hs332 hC333 hs333 hC410 hs410 hC411 hs411 hC414 hs414 hC415 hs415 hC416 hs416 hC417 hs417 hT hb45 hb46 hb76 hb78 ⟨Nat.le_refl _, Nat.le_refl _⟩) (fun st3 μc3 hp3 => ?_)
    obtain ⟨rfl, hTc3, hz3⟩ := hp3
    have hz := hz3
    refine pm_blk hK zmm119 [] 3 20 [(2, 1), (0, b)] [] (pm_up μc3 1 2 1) [sx_bit Wm 1 = true, 0 ≤ 1 ∧ 1 ≤ 1] rfl ⟨hb1, ⟨by omega, by omega⟩, trivial⟩ ?_
    obtain ⟨μ1, eμ1⟩ : ∃ μ', μ' = pm_up μc3 1 2 1 := ⟨_, rfl⟩
    rw [← eμ1]
    have hTμ1 : zTJ none μ1 := by rw [eμ1]; exact zT_upn hTc3 zs1_2 rfl (i := 2) (by omega) (by omega) (by omega) (by omega)
    refine pm_blk hK zmm119 [] 1 21 [(2, 1), (0, b)] [(0, 1)] μ1 [] rfl trivial ?_
    exact pm_zret rfl rfl (by first | exact Or.inl rfl | exact Or.inr rfl | omega) ⟨_, rfl, hTμ1, zIMC_t h0 hz eμ1⟩
end ZHW
