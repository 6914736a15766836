/-! the image of the class; walks printed by program (wip/p30/pmgen.py) and filled by hand -/
section ZHW
variable {D : va_G} {Wm : Nat} {ST : List (String × String × String × Nat)} {b0 : sx_B} {l : Launch} {Sg : Nat → Option Nat} {bud : sx_Bu} {μ : pm_Mem} {B0 : Nat → Prop} {J : (Nat → Option Nat) → Heap → Prop}
set_option maxRecDepth 100000 in
theorem zh_rcp33 (hK : zKK ST) (hw : sx_Wd zNR zRT2 B0 Sg) (hC239 : zCK D ST B0 l Sg zC239) (hs239 : sx_subm zC239.2.2.2.2.2 Wm = true) (hT : zTJ μ) (hb33 : sx_bit Wm 33 = true) (hbd : 2 ≤ bud.1 ∧ 101 ≤ bud.2.1) : zC D Wm ST (sx_bW zRT2 Wm B0 Sg, J) l Sg zM121 bud [(2, 33), (2, 76)] μ (fun st' μ' => st' = [] ∧ zTJ μ' ∧ μ' 33 1 = μ 76 1 ∧ μ' 35 1 = μ 35 1 ∧ μ' 76 1 = μ 76 1 ∧ μ' 78 1 = μ 78 1) := by
  refine pm_blk hK zmm121 [] 4 8 [(2, 33), (2, 76)] [(2, 34), (2, 77)] μ [] rfl trivial ?_
  refine pm_ccall hK zmm121 hC239 hw zGm_lt zJ_loc (23, 1, 29, 2) zM29 [(2, 77), (2, 34)] [] rfl rfl rfl rfl rfl ⟨by have e : zC239.2.2.2.1 = 1 := rfl; omega, by have e : zC239.2.2.2.2.1 = 80 := rfl; rw [zn29]; omega⟩ hs239 rfl (fun t ht => by cases ht) ⟨rfl, fun h => absurd h (by decide), fun _ => rfl, rfl, fun h => absurd h (by decide), fun _ => rfl, trivial⟩ (zTy_T hw hT.1) hT.2 (fun st1 μc1 hp1 hTt1 hJ1 hfr1 => ?_)
  obtain rfl := hp1
  have hTc1 : zTJ μc1 := ⟨zTy_of hw hTt1, hJ1⟩
  have n1 := zNs_fr hfr1 (by decide +kernel)
  obtain ⟨n33, n35, n76, n78⟩ := n1
  have f1 := zT_get hTc1 zs76_1 (i := 1) (by omega) (by omega)
  refine pm_blk hK zmm121 [] 4 19 [(2, 33), (2, 76)] [] (pm_up μc1 33 1 (μc1 76 1)) [sx_bit Wm 33 = true] rfl ⟨hb33, trivial⟩ ?_
  obtain ⟨μ1, eμ1⟩ : ∃ μ', μ' = pm_up μc1 33 1 (μc1 76 1) := ⟨_, rfl⟩
  rw [← eμ1]
  have hTμ1 : zTJ μ1 := by rw [eμ1]; exact zT_up hTc1 zs33_1 rfl (i := 1) (by omega) (by omega) (by omega) (by omega)
  exact pm_vret rfl rfl ⟨rfl, hTμ1, by rw [eμ1, pm_up_eq]; exact n76, by rw [eμ1, pm_up_off (by decide)]; exact n35, by rw [eμ1, pm_up_off (by decide)]; exact n76, by rw [eμ1, pm_up_off (by decide)]; exact n78⟩
set_option maxRecDepth 100000 in
theorem zh_rcp35 (hK : zKK ST) (hw : sx_Wd zNR zRT2 B0 Sg) (hC240 : zCK D ST B0 l Sg zC240) (hs240 : sx_subm zC240.2.2.2.2.2 Wm = true) (hT : zTJ μ) (hb35 : sx_bit Wm 35 = true) (hbd : 2 ≤ bud.1 ∧ 101 ≤ bud.2.1) : zC D Wm ST (sx_bW zRT2 Wm B0 Sg, J) l Sg zM121 bud [(2, 35), (2, 78)] μ (fun st' μ' => st' = [] ∧ zTJ μ' ∧ μ' 33 1 = μ 33 1 ∧ μ' 35 1 = μ 78 1 ∧ μ' 76 1 = μ 76 1 ∧ μ' 78 1 = μ 78 1) := by
  refine pm_blk hK zmm121 [] 4 8 [(2, 35), (2, 78)] [(2, 36), (2, 79)] μ [] rfl trivial ?_
  refine pm_ccall hK zmm121 hC240 hw zGm_lt zJ_loc (23, 1, 29, 2) zM29 [(2, 79), (2, 36)] [] rfl rfl rfl rfl rfl ⟨by have e : zC240.2.2.2.1 = 1 := rfl; omega, by have e : zC240.2.2.2.2.1 = 80 := rfl; rw [zn29]; omega⟩ hs240 rfl (fun t ht => by cases ht) ⟨rfl, fun h => absurd h (by decide), fun _ => rfl, rfl, fun h => absurd h (by decide), fun _ => rfl, trivial⟩ (zTy_T hw hT.1) hT.2 (fun st1 μc1 hp1 hTt1 hJ1 hfr1 => ?_)
  obtain rfl := hp1
  have hTc1 : zTJ μc1 := ⟨zTy_of hw hTt1, hJ1⟩
  have n1 := zNs_fr hfr1 (by decide +kernel)
  obtain ⟨n33, n35, n76, n78⟩ := n1
  have f1 := zT_get hTc1 zs78_1 (i := 1) (by omega) (by omega)
  refine pm_blk hK zmm121 [] 4 19 [(2, 35), (2, 78)] [] (pm_up μc1 35 1 (μc1 78 1)) [sx_bit Wm 35 = true] rfl ⟨hb35, trivial⟩ ?_
  obtain ⟨μ1, eμ1⟩ : ∃ μ', μ' = pm_up μc1 35 1 (μc1 78 1) := ⟨_, rfl⟩
  rw [← eμ1]
  have hTμ1 : zTJ μ1 := by rw [eμ1]; exact zT_up hTc1 zs35_1 rfl (i := 1) (by omega) (by omega) (by omega) (by omega)
  exact pm_vret rfl rfl ⟨rfl, hTμ1, by rw [eμ1, pm_up_off (by decide)]; exact n33, by rw [eμ1, pm_up_eq]; exact n78, by rw [eμ1, pm_up_off (by decide)]; exact n76, by rw [eμ1, pm_up_off (by decide)]; exact n78⟩
set_option maxRecDepth 100000 in
theorem zh_rcp76 (hK : zKK ST) (hw : sx_Wd zNR zRT2 B0 Sg) (hC222 : zCK D ST B0 l Sg zC222) (hs222 : sx_subm zC222.2.2.2.2.2 Wm = true) (hT : zTJ μ) (hb76 : sx_bit Wm 76 = true) (hbd : 2 ≤ bud.1 ∧ 101 ≤ bud.2.1) : zC D Wm ST (sx_bW zRT2 Wm B0 Sg, J) l Sg zM121 bud [(2, 76), (2, 33)] μ (fun st' μ' => st' = [] ∧ zTJ μ' ∧ μ' 33 1 = μ 33 1 ∧ μ' 35 1 = μ 35 1 ∧ μ' 76 1 = μ 33 1 ∧ μ' 78 1 = μ 78 1) := by
  refine pm_blk hK zmm121 [] 4 8 [(2, 76), (2, 33)] [(2, 77), (2, 34)] μ [] rfl trivial ?_
  refine pm_ccall hK zmm121 hC222 hw zGm_lt zJ_loc (23, 1, 29, 2) zM29 [(2, 34), (2, 77)] [] rfl rfl rfl rfl rfl ⟨by have e : zC222.2.2.2.1 = 1 := rfl; omega, by have e : zC222.2.2.2.2.1 = 80 := rfl; rw [zn29]; omega⟩ hs222 rfl (fun t ht => by cases ht) ⟨rfl, fun h => absurd h (by decide), fun _ => rfl, rfl, fun h => absurd h (by decide), fun _ => rfl, trivial⟩ (zTy_T hw hT.1) hT.2 (fun st1 μc1 hp1 hTt1 hJ1 hfr1 => ?_)
  obtain rfl := hp1
  have hTc1 : zTJ μc1 := ⟨zTy_of hw hTt1, hJ1⟩
  have n1 := zNs_fr hfr1 (by decide +kernel)
  obtain ⟨n33, n35, n76, n78⟩ := n1
  have f1 := zT_get hTc1 zs33_1 (i := 1) (by omega) (by omega)
  refine pm_blk hK zmm121 [] 4 19 [(2, 76), (2, 33)] [] (pm_up μc1 76 1 (μc1 33 1)) [sx_bit Wm 76 = true] rfl ⟨hb76, trivial⟩ ?_
  obtain ⟨μ1, eμ1⟩ : ∃ μ', μ' = pm_up μc1 76 1 (μc1 33 1) := ⟨_, rfl⟩
  rw [← eμ1]
  have hTμ1 : zTJ μ1 := by rw [eμ1]; exact zT_up hTc1 zs76_1 rfl (i := 1) (by omega) (by omega) (by omega) (by omega)
  exact pm_vret rfl rfl ⟨rfl, hTμ1, by rw [eμ1, pm_up_off (by decide)]; exact n33, by rw [eμ1, pm_up_off (by decide)]; exact n35, by rw [eμ1, pm_up_eq]; exact n33, by rw [eμ1, pm_up_off (by decide)]; exact n78⟩
set_option maxRecDepth 100000 in
theorem zh_rcp78 (hK : zKK ST) (hw : sx_Wd zNR zRT2 B0 Sg) (hC223 : zCK D ST B0 l Sg zC223) (hs223 : sx_subm zC223.2.2.2.2.2 Wm = true) (hT : zTJ μ) (hb78 : sx_bit Wm 78 = true) (hbd : 2 ≤ bud.1 ∧ 101 ≤ bud.2.1) : zC D Wm ST (sx_bW zRT2 Wm B0 Sg, J) l Sg zM121 bud [(2, 78), (2, 35)] μ (fun st' μ' => st' = [] ∧ zTJ μ' ∧ μ' 33 1 = μ 33 1 ∧ μ' 35 1 = μ 35 1 ∧ μ' 76 1 = μ 76 1 ∧ μ' 78 1 = μ 35 1) := by
  refine pm_blk hK zmm121 [] 4 8 [(2, 78), (2, 35)] [(2, 79), (2, 36)] μ [] rfl trivial ?_
  refine pm_ccall hK zmm121 hC223 hw zGm_lt zJ_loc (23, 1, 29, 2) zM29 [(2, 36), (2, 79)] [] rfl rfl rfl rfl rfl ⟨by have e : zC223.2.2.2.1 = 1 := rfl; omega, by have e : zC223.2.2.2.2.1 = 80 := rfl; rw [zn29]; omega⟩ hs223 rfl (fun t ht => by cases ht) ⟨rfl, fun h => absurd h (by decide), fun _ => rfl, rfl, fun h => absurd h (by decide), fun _ => rfl, trivial⟩ (zTy_T hw hT.1) hT.2 (fun st1 μc1 hp1 hTt1 hJ1 hfr1 => ?_)
  obtain rfl := hp1
  have hTc1 : zTJ μc1 := ⟨zTy_of hw hTt1, hJ1⟩
  have n1 := zNs_fr hfr1 (by decide +kernel)
  obtain ⟨n33, n35, n76, n78⟩ := n1
  have f1 := zT_get hTc1 zs35_1 (i := 1) (by omega) (by omega)
  refine pm_blk hK zmm121 [] 4 19 [(2, 78), (2, 35)] [] (pm_up μc1 78 1 (μc1 35 1)) [sx_bit Wm 78 = true] rfl ⟨hb78, trivial⟩ ?_
  obtain ⟨μ1, eμ1⟩ : ∃ μ', μ' = pm_up μc1 78 1 (μc1 35 1) := ⟨_, rfl⟩
  rw [← eμ1]
  have hTμ1 : zTJ μ1 := by rw [eμ1]; exact zT_up hTc1 zs78_1 rfl (i := 1) (by omega) (by omega) (by omega) (by omega)
  exact pm_vret rfl rfl ⟨rfl, hTμ1, by rw [eμ1, pm_up_off (by decide)]; exact n33, by rw [eμ1, pm_up_off (by decide)]; exact n35, by rw [eμ1, pm_up_off (by decide)]; exact n76, by rw [eμ1, pm_up_eq]; exact n35⟩
set_option maxRecDepth 100000 in
theorem zh_wcp2 (hK : zKK ST) (hw : sx_Wd zNR zRT2 B0 Sg) (hC184 : zCK D ST B0 l Sg zC184) (hs184 : sx_subm zC184.2.2.2.2.2 Wm = true) (hC228 : zCK D ST B0 l Sg zC228) (hs228 : sx_subm zC228.2.2.2.2.2 Wm = true) (hC239 : zCK D ST B0 l Sg zC239) (hs239 : sx_subm zC239.2.2.2.2.2 Wm = true) (hC240 : zCK D ST B0 l Sg zC240) (hs240 : sx_subm zC240.2.2.2.2.2 Wm = true) (hC326 : zCK D ST B0 l Sg zC326) (hs326 : sx_subm zC326.2.2.2.2.2 Wm = true) (hC327 : zCK D ST B0 l Sg zC327) (hs327 : sx_subm zC327.2.2.2.2.2 Wm = true) (hC328 : zCK D ST B0 l Sg zC328) (hs328 : sx_subm zC328.2.2.2.2.2 Wm = true) (hC329 : zCK D ST B0 l Sg zC329) (hs329 : sx_subm zC329.2.2.2.2.2 Wm = true) (hC401 : zCK D ST B0 l Sg zC401) (hs401 : sx_subm zC401.2.2.2.2.2 Wm = true) (hC402 : zCK D ST B0 l Sg zC402) (hs402 : sx_subm zC402.2.2.2.2.2 Wm = true) (hC405 : zCK D ST B0 l Sg zC405) (hs405 : sx_subm zC405.2.2.2.2.2 Wm = true) (hC406 : zCK D ST B0 l Sg zC406) (hs406 : sx_subm zC406.2.2.2.2.2 Wm = true) (hC407 : zCK D ST B0 l Sg zC407) (hs407 : sx_subm zC407.2.2.2.2.2 Wm = true) (hC408 : zCK D ST B0 l Sg zC408) (hs408 : sx_subm zC408.2.2.2.2.2 Wm = true) (hT : zTJ μ) (hb2 : sx_bit Wm 2 = true) (hb33 : sx_bit Wm 33 = true) (hb35 : sx_bit Wm 35 = true) (hbd : 3 ≤ bud.1 ∧ 122 ≤ bud.2.1) : zC D Wm ST (sx_bW zRT2 Wm B0 Sg, J) l Sg zM120 bud [(2, 2), (2, 45)] μ (fun st' μ' => st' = [] ∧ zTJ μ' ∧ μ' 33 1 = μ 76 1 ∧ μ' 35 1 = μ 78 1 ∧ μ' 76 1 = μ 76 1 ∧ μ' 78 1 = μ 78 1) := by
  refine pm_blk hK zmm120 [] 4 8 [(2, 2), (2, 45)] [(2, 46), (2, 3)] μ [] rfl trivial ?_
  refine pm_ccall hK zmm120 hC184 hw zGm_lt zJ_loc (82, 0, 28, 1) zM28 [(2, 3), (2, 46)] [] rfl rfl rfl rfl rfl ⟨by have e : zC184.2.2.2.1 = 2 := rfl; omega, by have e : zC184.2.2.2.2.1 = 101 := rfl; rw [zn28]; omega⟩ hs184 rfl (fun t ht => by cases ht) ⟨rfl, fun h => absurd h (by decide), fun _ => rfl, rfl, fun h => absurd h (by decide), fun _ => rfl, trivial⟩ (zTy_T hw hT.1) hT.2 (fun st1 μc1 hp1 hTt1 hJ1 hfr1 => ?_)
  obtain rfl := hp1
  have hTc1 : zTJ μc1 := ⟨zTy_of hw hTt1, hJ1⟩
  have n1 := zNs_fr hfr1 (by decide +kernel)
  obtain ⟨na1, nb1, nc1, nd1⟩ := n1
  refine pm_blk hK zmm120 [] 4 19 [(2, 2), (2, 45)] [(2, 16), (2, 59)] μc1 [] rfl trivial ?_
  refine pm_ccall hK zmm120 hC228 hw zGm_lt zJ_loc (86, 1, 29, 2) zM29 [(2, 59), (2, 16)] [] rfl rfl rfl rfl rfl ⟨by have e : zC228.2.2.2.1 = 1 := rfl; omega, by have e : zC228.2.2.2.2.1 = 80 := rfl; rw [zn29]; omega⟩ hs228 rfl (fun t ht => by cases ht) ⟨rfl, fun h => absurd h (by decide), fun _ => rfl, rfl, fun h => absurd h (by decide), fun _ => rfl, trivial⟩ (zTy_T hw hTc1.1) hTc1.2 (fun st2 μc2 hp2 hTt2 hJ2 hfr2 => ?_)
  obtain rfl := hp2
  have hTc2 : zTJ μc2 := ⟨zTy_of hw hTt2, hJ2⟩
  have n2 := zNs_fr hfr2 (by decide +kernel)
  obtain ⟨na2, nb2, nc2, nd2⟩ := n2
  have f1 := zT_get hTc2 zs45_2 (i := 2) (by omega) (by omega)
  refine pm_blk hK zmm120 [] 4 30 [(2, 2), (2, 45)] [] (pm_up μc2 2 2 (μc2 45 2)) [sx_bit Wm 2 = true] rfl ⟨hb2, trivial⟩ ?_
  obtain ⟨μ1, eμ1⟩ : ∃ μ', μ' = pm_up μc2 2 2 (μc2 45 2) := ⟨_, rfl⟩
  rw [← eμ1]
  have hTμ1 : zTJ μ1 := by rw [eμ1]; exact zT_up hTc2 zs2_2 rfl (i := 2) (by omega) (by omega) (by omega) (by omega)
  obtain ⟨me1, me2, me3, me4⟩ : zNs μc2 μ1 := by rw [eμ1]; exact ⟨pm_up_off (by decide), pm_up_off (by decide), pm_up_off (by decide), pm_up_off (by decide)⟩
  refine pm_blk hK zmm120 [] 4 38 [(2, 2), (2, 45)] [(2, 60), (2, 17)] μ1 [] rfl trivial ?_
  refine pm_ccall hK zmm120 hC326 hw zGm_lt zJ_loc (90, 0, 54, 1) zM54 [(2, 17), (2, 60)] [] rfl rfl rfl rfl rfl ⟨by have e : zC326.2.2.2.1 = 2 := rfl; omega, by have e : zC326.2.2.2.2.1 = 101 := rfl; rw [zn54]; omega⟩ hs326 rfl (fun t ht => by cases ht) ⟨rfl, fun h => absurd h (by decide), fun _ => rfl, rfl, fun h => absurd h (by decide), fun _ => rfl, trivial⟩ (zTy_T hw hTμ1.1) hTμ1.2 (fun st3 μc3 hp3 hTt3 hJ3 hfr3 => ?_)
  obtain rfl := hp3
  have hTc3 : zTJ μc3 := ⟨zTy_of hw hTt3, hJ3⟩
  have n3 := zNs_fr hfr3 (by decide +kernel)
  obtain ⟨na3, nb3, nc3, nd3⟩ := n3
  refine pm_blk hK zmm120 [] 4 49 [(2, 2), (2, 45)] [(2, 63), (2, 20)] μc3 [] rfl trivial ?_
  refine pm_ccall hK zmm120 hC327 hw zGm_lt zJ_loc (90, 0, 54, 1) zM54 [(2, 20), (2, 63)] [] rfl rfl rfl rfl rfl ⟨by have e : zC327.2.2.2.1 = 2 := rfl; omega, by have e : zC327.2.2.2.2.1 = 101 := rfl; rw [zn54]; omega⟩ hs327 rfl (fun t ht => by cases ht) ⟨rfl, fun h => absurd h (by decide), fun _ => rfl, rfl, fun h => absurd h (by decide), fun _ => rfl, trivial⟩ (zTy_T hw hTc3.1) hTc3.2 (fun st4 μc4 hp4 hTt4 hJ4 hfr4 => ?_)
  obtain rfl := hp4
  have hTc4 : zTJ μc4 := ⟨zTy_of hw hTt4, hJ4⟩
  have n4 := zNs_fr hfr4 (by decide +kernel)
  obtain ⟨na4, nb4, nc4, nd4⟩ := n4
  refine pm_blk hK zmm120 [] 4 60 [(2, 2), (2, 45)] [(2, 66), (2, 23)] μc4 [] rfl trivial ?_
  refine pm_ccall hK zmm120 hC328 hw zGm_lt zJ_loc (90, 0, 54, 1) zM54 [(2, 23), (2, 66)] [] rfl rfl rfl rfl rfl ⟨by have e : zC328.2.2.2.1 = 2 := rfl; omega, by have e : zC328.2.2.2.2.1 = 101 := rfl; rw [zn54]; omega⟩ hs328 rfl (fun t ht => by cases ht) ⟨rfl, fun h => absurd h (by decide), fun _ => rfl, rfl, fun h => absurd h (by decide), fun _ => rfl, trivial⟩ (zTy_T hw hTc4.1) hTc4.2 (fun st5 μc5 hp5 hTt5 hJ5 hfr5 => ?_)
  obtain rfl := hp5
  have hTc5 : zTJ μc5 := ⟨zTy_of hw hTt5, hJ5⟩
  have n5 := zNs_fr hfr5 (by decide +kernel)
  obtain ⟨na5, nb5, nc5, nd5⟩ := n5
  refine pm_blk hK zmm120 [] 4 71 [(2, 2), (2, 45)] [(2, 69), (2, 26)] μc5 [] rfl trivial ?_
  refine pm_ccall hK zmm120 hC329 hw zGm_lt zJ_loc (90, 0, 54, 1) zM54 [(2, 26), (2, 69)] [] rfl rfl rfl rfl rfl ⟨by have e : zC329.2.2.2.1 = 2 := rfl; omega, by have e : zC329.2.2.2.2.1 = 101 := rfl; rw [zn54]; omega⟩ hs329 rfl (fun t ht => by cases ht) ⟨rfl, fun h => absurd h (by decide), fun _ => rfl, rfl, fun h => absurd h (by decide), fun _ => rfl, trivial⟩ (zTy_T hw hTc5.1) hTc5.2 (fun st6 μc6 hp6 hTt6 hJ6 hfr6 => ?_)
  obtain rfl := hp6
  have hTc6 : zTJ μc6 := ⟨zTy_of hw hTt6, hJ6⟩
  have n6 := zNs_fr hfr6 (by decide +kernel)
  obtain ⟨na6, nb6, nc6, nd6⟩ := n6
  refine pm_blk hK zmm120 [] 4 82 [(2, 2), (2, 45)] [(2, 72), (2, 29)] μc6 [] rfl trivial ?_
  refine pm_ccall hK zmm120 hC401 hw zGm_lt zJ_loc (93, 0, 121, 1) zM121 [(2, 29), (2, 72)] [] rfl rfl rfl rfl rfl ⟨by have e : zC401.2.2.2.1 = 2 := rfl; omega, by have e : zC401.2.2.2.2.1 = 101 := rfl; rw [zn121]; omega⟩ hs401 rfl (fun t ht => by cases ht) ⟨rfl, fun h => absurd h (by decide), fun _ => rfl, rfl, fun h => absurd h (by decide), fun _ => rfl, trivial⟩ (zTy_T hw hTc6.1) hTc6.2 (fun st7 μc7 hp7 hTt7 hJ7 hfr7 => ?_)
  obtain rfl := hp7
  have hTc7 : zTJ μc7 := ⟨zTy_of hw hTt7, hJ7⟩
  have n7 := zNs_fr hfr7 (by decide +kernel)
  obtain ⟨na7, nb7, nc7, nd7⟩ := n7
  refine pm_blk hK zmm120 [] 4 93 [(2, 2), (2, 45)] [(2, 74), (2, 31)] μc7 [] rfl trivial ?_
  refine pm_ccall hK zmm120 hC402 hw zGm_lt zJ_loc (93, 0, 121, 1) zM121 [(2, 31), (2, 74)] [] rfl rfl rfl rfl rfl ⟨by have e : zC402.2.2.2.1 = 2 := rfl; omega, by have e : zC402.2.2.2.2.1 = 101 := rfl; rw [zn121]; omega⟩ hs402 rfl (fun t ht => by cases ht) ⟨rfl, fun h => absurd h (by decide), fun _ => rfl, rfl, fun h => absurd h (by decide), fun _ => rfl, trivial⟩ (zTy_T hw hTc7.1) hTc7.2 (fun st8 μc8 hp8 hTt8 hJ8 hfr8 => ?_)
  obtain rfl := hp8
  have hTc8 : zTJ μc8 := ⟨zTy_of hw hTt8, hJ8⟩
  have n8 := zNs_fr hfr8 (by decide +kernel)
  obtain ⟨na8, nb8, nc8, nd8⟩ := n8
  refine pm_blk hK zmm120 [] 4 104 [(2, 2), (2, 45)] [(2, 76), (2, 33)] μc8 [] rfl trivial ?_
  refine pm_call hK zmm120 (93, 0, 121, 1) zM121 (2, 101) [(2, 33), (2, 76)] [] rfl rfl rfl rfl ⟨by omega, by rw [zn121]; omega⟩ (zh_rcp33 hK hw hC239 hs239 hTc8 hb33 ⟨Nat.le_refl _, Nat.le_refl _⟩) (fun st9 μc9 hp9 => ?_)
  obtain ⟨rfl, hTc9, na9, nb9, nc9, nd9⟩ := hp9
  refine pm_blk hK zmm120 [] 4 115 [(2, 2), (2, 45)] [(2, 78), (2, 35)] μc9 [] rfl trivial ?_
  refine pm_call hK zmm120 (93, 0, 121, 1) zM121 (2, 101) [(2, 35), (2, 78)] [] rfl rfl rfl rfl ⟨by omega, by rw [zn121]; omega⟩ (zh_rcp35 hK hw hC240 hs240 hTc9 hb35 ⟨Nat.le_refl _, Nat.le_refl _⟩) (fun st10 μc10 hp10 => ?_)
  obtain ⟨rfl, hTc10, na10, nb10, nc10, nd10⟩ := hp10
  refine pm_blk hK zmm120 [] 4 126 [(2, 2), (2, 45)] [(2, 80), (2, 37)] μc10 [] rfl trivial ?_
  refine pm_ccall hK zmm120 hC405 hw zGm_lt zJ_loc (93, 0, 121, 1) zM121 [(2, 37), (2, 80)] [] rfl rfl rfl rfl rfl ⟨by have e : zC405.2.2.2.1 = 2 := rfl; omega, by have e : zC405.2.2.2.2.1 = 101 := rfl; rw [zn121]; omega⟩ hs405 rfl (fun t ht => by cases ht) ⟨rfl, fun h => absurd h (by decide), fun _ => rfl, rfl, fun h => absurd h (by decide), fun _ => rfl, trivial⟩ (zTy_T hw hTc10.1) hTc10.2 (fun st11 μc11 hp11 hTt11 hJ11 hfr11 => ?_)
  obtain rfl := hp11
  have hTc11 : zTJ μc11 := ⟨zTy_of hw hTt11, hJ11⟩
  have n11 := zNs_fr hfr11 (by decide +kernel)
  obtain ⟨na11, nb11, nc11, nd11⟩ := n11
  refine pm_blk hK zmm120 [] 4 137 [(2, 2), (2, 45)] [(2, 82), (2, 39)] μc11 [] rfl trivial ?_
  refine pm_ccall hK zmm120 hC406 hw zGm_lt zJ_loc (93, 0, 121, 1) zM121 [(2, 39), (2, 82)] [] rfl rfl rfl rfl rfl ⟨by have e : zC406.2.2.2.1 = 2 := rfl; omega, by have e : zC406.2.2.2.2.1 = 101 := rfl; rw [zn121]; omega⟩ hs406 rfl (fun t ht => by cases ht) ⟨rfl, fun h => absurd h (by decide), fun _ => rfl, rfl, fun h => absurd h (by decide), fun _ => rfl, trivial⟩ (zTy_T hw hTc11.1) hTc11.2 (fun st12 μc12 hp12 hTt12 hJ12 hfr12 => ?_)
  obtain rfl := hp12
  have hTc12 : zTJ μc12 := ⟨zTy_of hw hTt12, hJ12⟩
  have n12 := zNs_fr hfr12 (by decide +kernel)
  obtain ⟨na12, nb12, nc12, nd12⟩ := n12
  refine pm_blk hK zmm120 [] 4 148 [(2, 2), (2, 45)] [(2, 84), (2, 41)] μc12 [] rfl trivial ?_
  refine pm_ccall hK zmm120 hC407 hw zGm_lt zJ_loc (93, 0, 121, 1) zM121 [(2, 41), (2, 84)] [] rfl rfl rfl rfl rfl ⟨by have e : zC407.2.2.2.1 = 2 := rfl; omega, by have e : zC407.2.2.2.2.1 = 101 := rfl; rw [zn121]; omega⟩ hs407 rfl (fun t ht => by cases ht) ⟨rfl, fun h => absurd h (by decide), fun _ => rfl, rfl, fun h => absurd h (by decide), fun _ => rfl, trivial⟩ (zTy_T hw hTc12.1) hTc12.2 (fun st13 μc13 hp13 hTt13 hJ13 hfr13 => ?_)
  obtain rfl := hp13
  have hTc13 : zTJ μc13 := ⟨zTy_of hw hTt13, hJ13⟩
  have n13 := zNs_fr hfr13 (by decide +kernel)
  obtain ⟨na13, nb13, nc13, nd13⟩ := n13
  refine pm_blk hK zmm120 [] 4 159 [(2, 2), (2, 45)] [(2, 86), (2, 43)] μc13 [] rfl trivial ?_
  refine pm_ccall hK zmm120 hC408 hw zGm_lt zJ_loc (93, 0, 121, 1) zM121 [(2, 43), (2, 86)] [] rfl rfl rfl rfl rfl ⟨by have e : zC408.2.2.2.1 = 2 := rfl; omega, by have e : zC408.2.2.2.2.1 = 101 := rfl; rw [zn121]; omega⟩ hs408 rfl (fun t ht => by cases ht) ⟨rfl, fun h => absurd h (by decide), fun _ => rfl, rfl, fun h => absurd h (by decide), fun _ => rfl, trivial⟩ (zTy_T hw hTc13.1) hTc13.2 (fun st14 μc14 hp14 hTt14 hJ14 hfr14 => ?_)
  obtain rfl := hp14
  have hTc14 : zTJ μc14 := ⟨zTy_of hw hTt14, hJ14⟩
  have n14 := zNs_fr hfr14 (by decide +kernel)
  obtain ⟨na14, nb14, nc14, nd14⟩ := n14
  exact pm_vret rfl rfl ⟨rfl, hTc14, by omega, by omega, by omega, by omega⟩
set_option maxRecDepth 100000 in
theorem zh_wcp45 (hK : zKK ST) (hw : sx_Wd zNR zRT2 B0 Sg) (hC210 : zCK D ST B0 l Sg zC210) (hs210 : sx_subm zC210.2.2.2.2.2 Wm = true) (hC211 : zCK D ST B0 l Sg zC211) (hs211 : sx_subm zC211.2.2.2.2.2 Wm = true) (hC222 : zCK D ST B0 l Sg zC222) (hs222 : sx_subm zC222.2.2.2.2.2 Wm = true) (hC223 : zCK D ST B0 l Sg zC223) (hs223 : sx_subm zC223.2.2.2.2.2 Wm = true) (hC330 : zCK D ST B0 l Sg zC330) (hs330 : sx_subm zC330.2.2.2.2.2 Wm = true) (hC331 : zCK D ST B0 l Sg zC331) (hs331 : sx_subm zC331.2.2.2.2.2 Wm = true) (hC332 : zCK D ST B0 l Sg zC332) (hs332 : sx_subm zC332.2.2.2.2.2 Wm = true) (hC333 : zCK D ST B0 l Sg zC333) (hs333 : sx_subm zC333.2.2.2.2.2 Wm = true) (hC410 : zCK D ST B0 l Sg zC410) (hs410 : sx_subm zC410.2.2.2.2.2 Wm = true) (hC411 : zCK D ST B0 l Sg zC411) (hs411 : sx_subm zC411.2.2.2.2.2 Wm = true) (hC414 : zCK D ST B0 l Sg zC414) (hs414 : sx_subm zC414.2.2.2.2.2 Wm = true) (hC415 : zCK D ST B0 l Sg zC415) (hs415 : sx_subm zC415.2.2.2.2.2 Wm = true) (hC416 : zCK D ST B0 l Sg zC416) (hs416 : sx_subm zC416.2.2.2.2.2 Wm = true) (hC417 : zCK D ST B0 l Sg zC417) (hs417 : sx_subm zC417.2.2.2.2.2 Wm = true) (hT : zTJ μ) (hb45 : sx_bit Wm 45 = true) (hb76 : sx_bit Wm 76 = true) (hb78 : sx_bit Wm 78 = true) (hbd : 3 ≤ bud.1 ∧ 122 ≤ bud.2.1) : zC D Wm ST (sx_bW zRT2 Wm B0 Sg, J) l Sg zM120 bud [(2, 45), (2, 2)] μ (fun st' μ' => st' = [] ∧ zTJ μ' ∧ μ' 33 1 = μ 33 1 ∧ μ' 35 1 = μ 35 1 ∧ μ' 76 1 = μ 33 1 ∧ μ' 78 1 = μ 35 1) := by
  refine pm_blk hK zmm120 [] 4 8 [(2, 45), (2, 2)] [(2, 3), (2, 46)] μ [] rfl trivial ?_
  refine pm_ccall hK zmm120 hC210 hw zGm_lt zJ_loc (82, 0, 28, 1) zM28 [(2, 46), (2, 3)] [] rfl rfl rfl rfl rfl ⟨by have e : zC210.2.2.2.1 = 2 := rfl; omega, by have e : zC210.2.2.2.2.1 = 101 := rfl; rw [zn28]; omega⟩ hs210 rfl (fun t ht => by cases ht) ⟨rfl, fun h => absurd h (by decide), fun _ => rfl, rfl, fun h => absurd h (by decide), fun _ => rfl, trivial⟩ (zTy_T hw hT.1) hT.2 (fun st1 μc1 hp1 hTt1 hJ1 hfr1 => ?_)
  obtain rfl := hp1
  have hTc1 : zTJ μc1 := ⟨zTy_of hw hTt1, hJ1⟩
  have n1 := zNs_fr hfr1 (by decide +kernel)
  obtain ⟨na1, nb1, nc1, nd1⟩ := n1
  refine pm_blk hK zmm120 [] 4 19 [(2, 45), (2, 2)] [(2, 59), (2, 16)] μc1 [] rfl trivial ?_
  refine pm_ccall hK zmm120 hC211 hw zGm_lt zJ_loc (86, 1, 29, 2) zM29 [(2, 16), (2, 59)] [] rfl rfl rfl rfl rfl ⟨by have e : zC211.2.2.2.1 = 1 := rfl; omega, by have e : zC211.2.2.2.2.1 = 80 := rfl; rw [zn29]; omega⟩ hs211 rfl (fun t ht => by cases ht) ⟨rfl, fun h => absurd h (by decide), fun _ => rfl, rfl, fun h => absurd h (by decide), fun _ => rfl, trivial⟩ (zTy_T hw hTc1.1) hTc1.2 (fun st2 μc2 hp2 hTt2 hJ2 hfr2 => ?_)
  obtain rfl := hp2
  have hTc2 : zTJ μc2 := ⟨zTy_of hw hTt2, hJ2⟩
  have n2 := zNs_fr hfr2 (by decide +kernel)
  obtain ⟨na2, nb2, nc2, nd2⟩ := n2
  have f1 := zT_get hTc2 zs2_2 (i := 2) (by omega) (by omega)
  refine pm_blk hK zmm120 [] 4 30 [(2, 45), (2, 2)] [] (pm_up μc2 45 2 (μc2 2 2)) [sx_bit Wm 45 = true] rfl ⟨hb45, trivial⟩ ?_
  obtain ⟨μ1, eμ1⟩ : ∃ μ', μ' = pm_up μc2 45 2 (μc2 2 2) := ⟨_, rfl⟩
  rw [← eμ1]
  have hTμ1 : zTJ μ1 := by rw [eμ1]; exact zT_up hTc2 zs45_2 rfl (i := 2) (by omega) (by omega) (by omega) (by omega)
  obtain ⟨me1, me2, me3, me4⟩ : zNs μc2 μ1 := by rw [eμ1]; exact ⟨pm_up_off (by decide), pm_up_off (by decide), pm_up_off (by decide), pm_up_off (by decide)⟩
  refine pm_blk hK zmm120 [] 4 38 [(2, 45), (2, 2)] [(2, 17), (2, 60)] μ1 [] rfl trivial ?_
  refine pm_ccall hK zmm120 hC330 hw zGm_lt zJ_loc (90, 0, 54, 1) zM54 [(2, 60), (2, 17)] [] rfl rfl rfl rfl rfl ⟨by have e : zC330.2.2.2.1 = 2 := rfl; omega, by have e : zC330.2.2.2.2.1 = 101 := rfl; rw [zn54]; omega⟩ hs330 rfl (fun t ht => by cases ht) ⟨rfl, fun h => absurd h (by decide), fun _ => rfl, rfl, fun h => absurd h (by decide), fun _ => rfl, trivial⟩ (zTy_T hw hTμ1.1) hTμ1.2 (fun st3 μc3 hp3 hTt3 hJ3 hfr3 => ?_)
  obtain rfl := hp3
  have hTc3 : zTJ μc3 := ⟨zTy_of hw hTt3, hJ3⟩
  have n3 := zNs_fr hfr3 (by decide +kernel)
  obtain ⟨na3, nb3, nc3, nd3⟩ := n3
  refine pm_blk hK zmm120 [] 4 49 [(2, 45), (2, 2)] [(2, 20), (2, 63)] μc3 [] rfl trivial ?_
  refine pm_ccall hK zmm120 hC331 hw zGm_lt zJ_loc (90, 0, 54, 1) zM54 [(2, 63), (2, 20)] [] rfl rfl rfl rfl rfl ⟨by have e : zC331.2.2.2.1 = 2 := rfl; omega, by have e : zC331.2.2.2.2.1 = 101 := rfl; rw [zn54]; omega⟩ hs331 rfl (fun t ht => by cases ht) ⟨rfl, fun h => absurd h (by decide), fun _ => rfl, rfl, fun h => absurd h (by decide), fun _ => rfl, trivial⟩ (zTy_T hw hTc3.1) hTc3.2 (fun st4 μc4 hp4 hTt4 hJ4 hfr4 => ?_)
  obtain rfl := hp4
  have hTc4 : zTJ μc4 := ⟨zTy_of hw hTt4, hJ4⟩
  have n4 := zNs_fr hfr4 (by decide +kernel)
  obtain ⟨na4, nb4, nc4, nd4⟩ := n4
  refine pm_blk hK zmm120 [] 4 60 [(2, 45), (2, 2)] [(2, 23), (2, 66)] μc4 [] rfl trivial ?_
  refine pm_ccall hK zmm120 hC332 hw zGm_lt zJ_loc (90, 0, 54, 1) zM54 [(2, 66), (2, 23)] [] rfl rfl rfl rfl rfl ⟨by have e : zC332.2.2.2.1 = 2 := rfl; omega, by have e : zC332.2.2.2.2.1 = 101 := rfl; rw [zn54]; omega⟩ hs332 rfl (fun t ht => by cases ht) ⟨rfl, fun h => absurd h (by decide), fun _ => rfl, rfl, fun h => absurd h (by decide), fun _ => rfl, trivial⟩ (zTy_T hw hTc4.1) hTc4.2 (fun st5 μc5 hp5 hTt5 hJ5 hfr5 => ?_)
  obtain rfl := hp5
  have hTc5 : zTJ μc5 := ⟨zTy_of hw hTt5, hJ5⟩
  have n5 := zNs_fr hfr5 (by decide +kernel)
  obtain ⟨na5, nb5, nc5, nd5⟩ := n5
  refine pm_blk hK zmm120 [] 4 71 [(2, 45), (2, 2)] [(2, 26), (2, 69)] μc5 [] rfl trivial ?_
  refine pm_ccall hK zmm120 hC333 hw zGm_lt zJ_loc (90, 0, 54, 1) zM54 [(2, 69), (2, 26)] [] rfl rfl rfl rfl rfl ⟨by have e : zC333.2.2.2.1 = 2 := rfl; omega, by have e : zC333.2.2.2.2.1 = 101 := rfl; rw [zn54]; omega⟩ hs333 rfl (fun t ht => by cases ht) ⟨rfl, fun h => absurd h (by decide), fun _ => rfl, rfl, fun h => absurd h (by decide), fun _ => rfl, trivial⟩ (zTy_T hw hTc5.1) hTc5.2 (fun st6 μc6 hp6 hTt6 hJ6 hfr6 => ?_)
  obtain rfl := hp6
  have hTc6 : zTJ μc6 := ⟨zTy_of hw hTt6, hJ6⟩
  have n6 := zNs_fr hfr6 (by decide +kernel)
  obtain ⟨na6, nb6, nc6, nd6⟩ := n6
  refine pm_blk hK zmm120 [] 4 82 [(2, 45), (2, 2)] [(2, 29), (2, 72)] μc6 [] rfl trivial ?_
  refine pm_ccall hK zmm120 hC410 hw zGm_lt zJ_loc (93, 0, 121, 1) zM121 [(2, 72), (2, 29)] [] rfl rfl rfl rfl rfl ⟨by have e : zC410.2.2.2.1 = 2 := rfl; omega, by have e : zC410.2.2.2.2.1 = 101 := rfl; rw [zn121]; omega⟩ hs410 rfl (fun t ht => by cases ht) ⟨rfl, fun h => absurd h (by decide), fun _ => rfl, rfl, fun h => absurd h (by decide), fun _ => rfl, trivial⟩ (zTy_T hw hTc6.1) hTc6.2 (fun st7 μc7 hp7 hTt7 hJ7 hfr7 => ?_)
  obtain rfl := hp7
  have hTc7 : zTJ μc7 := ⟨zTy_of hw hTt7, hJ7⟩
  have n7 := zNs_fr hfr7 (by decide +kernel)
  obtain ⟨na7, nb7, nc7, nd7⟩ := n7
  refine pm_blk hK zmm120 [] 4 93 [(2, 45), (2, 2)] [(2, 31), (2, 74)] μc7 [] rfl trivial ?_
  refine pm_ccall hK zmm120 hC411 hw zGm_lt zJ_loc (93, 0, 121, 1) zM121 [(2, 74), (2, 31)] [] rfl rfl rfl rfl rfl ⟨by have e : zC411.2.2.2.1 = 2 := rfl; omega, by have e : zC411.2.2.2.2.1 = 101 := rfl; rw [zn121]; omega⟩ hs411 rfl (fun t ht => by cases ht) ⟨rfl, fun h => absurd h (by decide), fun _ => rfl, rfl, fun h => absurd h (by decide), fun _ => rfl, trivial⟩ (zTy_T hw hTc7.1) hTc7.2 (fun st8 μc8 hp8 hTt8 hJ8 hfr8 => ?_)
  obtain rfl := hp8
  have hTc8 : zTJ μc8 := ⟨zTy_of hw hTt8, hJ8⟩
  have n8 := zNs_fr hfr8 (by decide +kernel)
  obtain ⟨na8, nb8, nc8, nd8⟩ := n8
  refine pm_blk hK zmm120 [] 4 104 [(2, 45), (2, 2)] [(2, 33), (2, 76)] μc8 [] rfl trivial ?_
  refine pm_call hK zmm120 (93, 0, 121, 1) zM121 (2, 101) [(2, 76), (2, 33)] [] rfl rfl rfl rfl ⟨by omega, by rw [zn121]; omega⟩ (zh_rcp76 hK hw hC222 hs222 hTc8 hb76 ⟨Nat.le_refl _, Nat.le_refl _⟩) (fun st9 μc9 hp9 => ?_)
  obtain ⟨rfl, hTc9, na9, nb9, nc9, nd9⟩ := hp9
  refine pm_blk hK zmm120 [] 4 115 [(2, 45), (2, 2)] [(2, 35), (2, 78)] μc9 [] rfl trivial ?_
  refine pm_call hK zmm120 (93, 0, 121, 1) zM121 (2, 101) [(2, 78), (2, 35)] [] rfl rfl rfl rfl ⟨by omega, by rw [zn121]; omega⟩ (zh_rcp78 hK hw hC223 hs223 hTc9 hb78 ⟨Nat.le_refl _, Nat.le_refl _⟩) (fun st10 μc10 hp10 => ?_)
  obtain ⟨rfl, hTc10, na10, nb10, nc10, nd10⟩ := hp10
  refine pm_blk hK zmm120 [] 4 126 [(2, 45), (2, 2)] [(2, 37), (2, 80)] μc10 [] rfl trivial ?_
  refine pm_ccall hK zmm120 hC414 hw zGm_lt zJ_loc (93, 0, 121, 1) zM121 [(2, 80), (2, 37)] [] rfl rfl rfl rfl rfl ⟨by have e : zC414.2.2.2.1 = 2 := rfl; omega, by have e : zC414.2.2.2.2.1 = 101 := rfl; rw [zn121]; omega⟩ hs414 rfl (fun t ht => by cases ht) ⟨rfl, fun h => absurd h (by decide), fun _ => rfl, rfl, fun h => absurd h (by decide), fun _ => rfl, trivial⟩ (zTy_T hw hTc10.1) hTc10.2 (fun st11 μc11 hp11 hTt11 hJ11 hfr11 => ?_)
  obtain rfl := hp11
  have hTc11 : zTJ μc11 := ⟨zTy_of hw hTt11, hJ11⟩
  have n11 := zNs_fr hfr11 (by decide +kernel)
  obtain ⟨na11, nb11, nc11, nd11⟩ := n11
  refine pm_blk hK zmm120 [] 4 137 [(2, 45), (2, 2)] [(2, 39), (2, 82)] μc11 [] rfl trivial ?_
  refine pm_ccall hK zmm120 hC415 hw zGm_lt zJ_loc (93, 0, 121, 1) zM121 [(2, 82), (2, 39)] [] rfl rfl rfl rfl rfl ⟨by have e : zC415.2.2.2.1 = 2 := rfl; omega, by have e : zC415.2.2.2.2.1 = 101 := rfl; rw [zn121]; omega⟩ hs415 rfl (fun t ht => by cases ht) ⟨rfl, fun h => absurd h (by decide), fun _ => rfl, rfl, fun h => absurd h (by decide), fun _ => rfl, trivial⟩ (zTy_T hw hTc11.1) hTc11.2 (fun st12 μc12 hp12 hTt12 hJ12 hfr12 => ?_)
  obtain rfl := hp12
  have hTc12 : zTJ μc12 := ⟨zTy_of hw hTt12, hJ12⟩
  have n12 := zNs_fr hfr12 (by decide +kernel)
  obtain ⟨na12, nb12, nc12, nd12⟩ := n12
  refine pm_blk hK zmm120 [] 4 148 [(2, 45), (2, 2)] [(2, 41), (2, 84)] μc12 [] rfl trivial ?_
  refine pm_ccall hK zmm120 hC416 hw zGm_lt zJ_loc (93, 0, 121, 1) zM121 [(2, 84), (2, 41)] [] rfl rfl rfl rfl rfl ⟨by have e : zC416.2.2.2.1 = 2 := rfl; omega, by have e : zC416.2.2.2.2.1 = 101 := rfl; rw [zn121]; omega⟩ hs416 rfl (fun t ht => by cases ht) ⟨rfl, fun h => absurd h (by decide), fun _ => rfl, rfl, fun h => absurd h (by decide), fun _ => rfl, trivial⟩ (zTy_T hw hTc12.1) hTc12.2 (fun st13 μc13 hp13 hTt13 hJ13 hfr13 => ?_)
  obtain rfl := hp13
  have hTc13 : zTJ μc13 := ⟨zTy_of hw hTt13, hJ13⟩
  have n13 := zNs_fr hfr13 (by decide +kernel)
  obtain ⟨na13, nb13, nc13, nd13⟩ := n13
  refine pm_blk hK zmm120 [] 4 159 [(2, 45), (2, 2)] [(2, 43), (2, 86)] μc13 [] rfl trivial ?_
  refine pm_ccall hK zmm120 hC417 hw zGm_lt zJ_loc (93, 0, 121, 1) zM121 [(2, 86), (2, 43)] [] rfl rfl rfl rfl rfl ⟨by have e : zC417.2.2.2.1 = 2 := rfl; omega, by have e : zC417.2.2.2.2.1 = 101 := rfl; rw [zn121]; omega⟩ hs417 rfl (fun t ht => by cases ht) ⟨rfl, fun h => absurd h (by decide), fun _ => rfl, rfl, fun h => absurd h (by decide), fun _ => rfl, trivial⟩ (zTy_T hw hTc13.1) hTc13.2 (fun st14 μc14 hp14 hTt14 hJ14 hfr14 => ?_)
  obtain rfl := hp14
  have hTc14 : zTJ μc14 := ⟨zTy_of hw hTt14, hJ14⟩
  have n14 := zNs_fr hfr14 (by decide +kernel)
  obtain ⟨na14, nb14, nc14, nd14⟩ := n14
  exact pm_vret rfl rfl ⟨rfl, hTc14, by omega, by omega, by omega, by omega⟩
set_option maxRecDepth 100000 in
theorem zh_forget (hK : zKK ST) (hT : zTJ μ) (hb96 : sx_bit Wm 96 = true) (hbd : 0 ≤ bud.1 ∧ 0 ≤ bud.2.1) : zC D Wm ST b0 l Sg zM14 bud [(2, 96)] μ (fun st' μ' => st' = [] ∧ zTJ μ' ∧ (∀ r, r ≠ 96 → μ' r = μ r)) := by
  refine pm_blk hK zmm14 [] 3 5 [(2, 96)] [] (pm_up μ 96 3 0) [sx_bit Wm 96 = true] rfl ⟨hb96, trivial⟩ ?_
  obtain ⟨μ1, eμ1⟩ : ∃ μ', μ' = pm_up μ 96 3 0 := ⟨_, rfl⟩
  rw [← eμ1]
  have hTμ1 : zTJ μ1 := by rw [eμ1]; exact zT_up hT zs96_3 rfl (i := 3) (by omega) (by omega) (by omega) (by omega)
  exact pm_vret rfl rfl ⟨rfl, hTμ1, fun r hr => by rw [eμ1, pm_up_row hr]⟩
set_option maxRecDepth 100000 in
theorem zh_imagex (hK : zKK ST) {b : Int} (hw : sx_Wd zNR zRT2 B0 Sg) (hC184 : zCK D ST B0 l Sg zC184) (hs184 : sx_subm zC184.2.2.2.2.2 Wm = true) (hC210 : zCK D ST B0 l Sg zC210) (hs210 : sx_subm zC210.2.2.2.2.2 Wm = true) (hC211 : zCK D ST B0 l Sg zC211) (hs211 : sx_subm zC211.2.2.2.2.2 Wm = true) (hC222 : zCK D ST B0 l Sg zC222) (hs222 : sx_subm zC222.2.2.2.2.2 Wm = true) (hC223 : zCK D ST B0 l Sg zC223) (hs223 : sx_subm zC223.2.2.2.2.2 Wm = true) (hC228 : zCK D ST B0 l Sg zC228) (hs228 : sx_subm zC228.2.2.2.2.2 Wm = true) (hC239 : zCK D ST B0 l Sg zC239) (hs239 : sx_subm zC239.2.2.2.2.2 Wm = true) (hC240 : zCK D ST B0 l Sg zC240) (hs240 : sx_subm zC240.2.2.2.2.2 Wm = true) (hC326 : zCK D ST B0 l Sg zC326) (hs326 : sx_subm zC326.2.2.2.2.2 Wm = true) (hC327 : zCK D ST B0 l Sg zC327) (hs327 : sx_subm zC327.2.2.2.2.2 Wm = true) (hC328 : zCK D ST B0 l Sg zC328) (hs328 : sx_subm zC328.2.2.2.2.2 Wm = true) (hC329 : zCK D ST B0 l Sg zC329) (hs329 : sx_subm zC329.2.2.2.2.2 Wm = true) (hC330 : zCK D ST B0 l Sg zC330) (hs330 : sx_subm zC330.2.2.2.2.2 Wm = true) (hC331 : zCK D ST B0 l Sg zC331) (hs331 : sx_subm zC331.2.2.2.2.2 Wm = true) (hC332 : zCK D ST B0 l Sg zC332) (hs332 : sx_subm zC332.2.2.2.2.2 Wm = true) (hC333 : zCK D ST B0 l Sg zC333) (hs333 : sx_subm zC333.2.2.2.2.2 Wm = true) (hC401 : zCK D ST B0 l Sg zC401) (hs401 : sx_subm zC401.2.2.2.2.2 Wm = true) (hC402 : zCK D ST B0 l Sg zC402) (hs402 : sx_subm zC402.2.2.2.2.2 Wm = true) (hC405 : zCK D ST B0 l Sg zC405) (hs405 : sx_subm zC405.2.2.2.2.2 Wm = true) (hC406 : zCK D ST B0 l Sg zC406) (hs406 : sx_subm zC406.2.2.2.2.2 Wm = true) (hC407 : zCK D ST B0 l Sg zC407) (hs407 : sx_subm zC407.2.2.2.2.2 Wm = true) (hC408 : zCK D ST B0 l Sg zC408) (hs408 : sx_subm zC408.2.2.2.2.2 Wm = true) (hC410 : zCK D ST B0 l Sg zC410) (hs410 : sx_subm zC410.2.2.2.2.2 Wm = true) (hC411 : zCK D ST B0 l Sg zC411) (hs411 : sx_subm zC411.2.2.2.2.2 Wm = true) (hC414 : zCK D ST B0 l Sg zC414) (hs414 : sx_subm zC414.2.2.2.2.2 Wm = true) (hC415 : zCK D ST B0 l Sg zC415) (hs415 : sx_subm zC415.2.2.2.2.2 Wm = true) (hC416 : zCK D ST B0 l Sg zC416) (hs416 : sx_subm zC416.2.2.2.2.2 Wm = true) (hC417 : zCK D ST B0 l Sg zC417) (hs417 : sx_subm zC417.2.2.2.2.2 Wm = true) (hT : zTJ μ) (he : μ 33 1 = μ 35 1) (he2 : μ 76 1 = μ 78 1) (hb1 : sx_bit Wm 1 = true) (hb2 : sx_bit Wm 2 = true) (hb45 : sx_bit Wm 45 = true) (hb33 : sx_bit Wm 33 = true) (hb35 : sx_bit Wm 35 = true) (hb76 : sx_bit Wm 76 = true) (hb78 : sx_bit Wm 78 = true) (hb96 : sx_bit Wm 96 = true) (hbd : 4 ≤ bud.1 ∧ 143 ≤ bud.2.1) : zC D Wm ST (sx_bW zRT2 Wm B0 Sg, J) l Sg zM119 bud [(2, 1), (0, b)] μ (fun st' μ' => ∃ x, st' = [(0, x)] ∧ 0 ≤ x ∧ x ≤ 1 ∧ zTJ μ' ∧ μ' 33 1 = μ' 35 1 ∧ μ' 76 1 = μ' 78 1) := by
  refine pm_blk hK zmm119 [] 1 1 [(2, 1), (0, b)] [(0, b)] μ [] rfl trivial ?_
  refine pm_if hK zmm119 .eq 21 22 rfl rfl (fun h0 => ?_) (fun h0 => ?_)
  · have h0 : b = (0 : Int) := h0
    have f1 := zT_get hT zs1_2 (i := 2) (by omega) (by omega)
    refine pm_blk hK zmm119 [] 2 26 [(2, 1), (0, b)] [(0, μ 1 2)] μ [] rfl trivial ?_
    refine pm_if hK zmm119 .ne 5 31 rfl rfl (fun h1 => ?_) (fun h1 => ?_)
    · have h1 : μ 1 2 ≠ (0 : Int) := h1
      refine pm_blk hK zmm119 [] 4 39 [(2, 1), (0, b)] [(2, 45), (2, 2)] μ [] rfl trivial ?_
      refine pm_call hK zmm119 (408, 0, 120, 1) zM120 (3, 122) [(2, 2), (2, 45)] [] rfl rfl rfl rfl ⟨by omega, by rw [zn120]; omega⟩ (zh_wcp2 hK hw hC184 hs184 hC228 hs228 hC239 hs239 hC240 hs240 hC326 hs326 hC327 hs327 hC328 hs328 hC329 hs329 hC401 hs401 hC402 hs402 hC405 hs405 hC406 hs406 hC407 hs407 hC408 hs408 hT hb2 hb33 hb35 ⟨Nat.le_refl _, Nat.le_refl _⟩) (fun st1 μc1 hp1 => ?_)
      obtain ⟨rfl, hTc1, na1, nb1, nc1, nd1⟩ := hp1
      refine pm_blk hK zmm119 [] 2 46 [(2, 1), (0, b)] [(2, 96)] μc1 [] rfl trivial ?_
      refine pm_call hK zmm119 (91, 0, 14, 0) zM14 (0, 0) [(2, 96)] [] rfl rfl rfl rfl ⟨by omega, by rw [zn14]; omega⟩ (zh_forget hK hTc1 hb96 ⟨Nat.le_refl _, Nat.le_refl _⟩) (fun st2 μc2 hp2 => ?_)
      obtain ⟨rfl, hTc2, hFg2⟩ := hp2
      have hFg := hFg2
      refine pm_blk hK zmm119 [] 1 50 [(2, 1), (0, b)] [(0, 1)] μc2 [] rfl trivial ?_
      exact pm_zret rfl rfl (by first | exact Or.inl rfl | exact Or.inr rfl | omega) ⟨_, rfl, by omega, by omega, hTc2, by rw [hFg 33 (by decide), hFg 35 (by decide)]; omega, by rw [hFg 76 (by decide), hFg 78 (by decide)]; omega⟩
    · have h1 : μ 1 2 = (0 : Int) := h1
      refine pm_blk hK zmm119 [] 1 30 [(2, 1), (0, b)] [(0, 0)] μ [] rfl trivial ?_
      exact pm_zret rfl rfl (by first | exact Or.inl rfl | exact Or.inr rfl | omega) ⟨_, rfl, by omega, by omega, hT, he, he2⟩
  · have h0 : b ≠ (0 : Int) := h0
    refine pm_blk hK zmm119 [] 4 12 [(2, 1), (0, b)] [(2, 2), (2, 45)] μ [] rfl trivial ?_
    refine pm_call hK zmm119 (408, 0, 120, 1) zM120 (3, 122) [(2, 45), (2, 2)] [] rfl rfl rfl rfl ⟨by omega, by rw [zn120]; omega⟩ (zh_wcp45 hK hw hC210 hs210 hC211 hs211 hC222 hs222 hC223 hs223 hC330 hs330 hC331 hs331 hC332 hs332 hC333 hs333 hC410 hs410 hC411 hs411 hC414 hs414 hC415 hs415 hC416 hs416 hC417 hs417 hT hb45 hb76 hb78 ⟨Nat.le_refl _, Nat.le_refl _⟩) (fun st3 μc3 hp3 => ?_)
    obtain ⟨rfl, hTc3, na3, nb3, nc3, nd3⟩ := hp3
    refine pm_blk hK zmm119 [] 3 20 [(2, 1), (0, b)] [] (pm_up μc3 1 2 1) [sx_bit Wm 1 = true, 0 ≤ 1 ∧ 1 ≤ 1] rfl ⟨hb1, ⟨by omega, by omega⟩, trivial⟩ ?_
    obtain ⟨μ1, eμ1⟩ : ∃ μ', μ' = pm_up μc3 1 2 1 := ⟨_, rfl⟩
    rw [← eμ1]
    have hTμ1 : zTJ μ1 := by rw [eμ1]; exact zT_up hTc3 zs1_2 rfl (i := 2) (by omega) (by omega) (by omega) (by omega)
    refine pm_blk hK zmm119 [] 1 21 [(2, 1), (0, b)] [(0, 1)] μ1 [] rfl trivial ?_
    exact pm_zret rfl rfl (by first | exact Or.inl rfl | exact Or.inr rfl | omega) ⟨_, rfl, by omega, by omega, hTμ1, by rw [eμ1, pm_up_off (by decide), pm_up_off (by decide)]; omega, by rw [eμ1, pm_up_off (by decide), pm_up_off (by decide)]; omega⟩
end ZHW
