/-! counts: what is kept; walks printed by program (wip/p30/pmgen.py) and filled by hand -/
section ZHW
variable {φ : Option pm_Mem}
variable {D : va_G} {Wm : Nat} {ST : List (String × String × String × Nat)} {b0 : sx_B} {l : Launch} {Sg : Nat → Option Nat} {bud : sx_Bu} {μ : pm_Mem} {B0 : Nat → Prop} {J : (Nat → Option Nat) → Heap → Prop}
set_option maxRecDepth 100000 in
theorem zh_ac99_3 (hK : zKK ST) (hw : sx_Wd zNR zRT2 B0 Sg) (hC69 : zCK φ D ST B0 l Sg zC69) (hs69 : sx_subm zC69.2.2.2.2.2 Wm = true) (hC70 : zCK φ D ST B0 l Sg zC70) (hs70 : sx_subm zC70.2.2.2.2.2 Wm = true) (hC71 : zCK φ D ST B0 l Sg zC71) (hs71 : sx_subm zC71.2.2.2.2.2 Wm = true) (hC72 : zCK φ D ST B0 l Sg zC72) (hs72 : sx_subm zC72.2.2.2.2.2 Wm = true) (hC73 : zCK φ D ST B0 l Sg zC73) (hs73 : sx_subm zC73.2.2.2.2.2 Wm = true) (hC74 : zCK φ D ST B0 l Sg zC74) (hs74 : sx_subm zC74.2.2.2.2.2 Wm = true) (hC75 : zCK φ D ST B0 l Sg zC75) (hs75 : sx_subm zC75.2.2.2.2.2 Wm = true) (hC76 : zCK φ D ST B0 l Sg zC76) (hs76 : sx_subm zC76.2.2.2.2.2 Wm = true) (hC77 : zCK φ D ST B0 l Sg zC77) (hs77 : sx_subm zC77.2.2.2.2.2 Wm = true) (hC78 : zCK φ D ST B0 l Sg zC78) (hs78 : sx_subm zC78.2.2.2.2.2 Wm = true) (hC79 : zCK φ D ST B0 l Sg zC79) (hs79 : sx_subm zC79.2.2.2.2.2 Wm = true) (hC80 : zCK φ D ST B0 l Sg zC80) (hs80 : sx_subm zC80.2.2.2.2.2 Wm = true) (hT : zTJ φ μ) (hb99 : sx_bit Wm 99 = true) (hbd : 2 ≤ bud.1 ∧ 101 ≤ bud.2.1) : zC D Wm ST (sx_bW zRT2 Wm B0 Sg, J) l Sg zM28 bud [(2, 99), (2, 3)] μ (fun st' μ' => st' = [] ∧ zTJ φ μ' ∧ zWc (zsw 99 3) μ μ' ∧ zKF μ μ') := by
  have hz : zWc (fun q => q) μ μ := fun _ _ => rfl
  have hv : zKF μ μ := zKF_refl
  have f1 := zT_get hT zs3_0 (i := 0) (by omega) (by omega)
  refine pm_blk hK zmm28 [] 4 8 [(2, 99), (2, 3)] [] (pm_up μ 99 0 (μ 3 0)) [sx_bit Wm 99 = true] rfl ⟨hb99, trivial⟩ ?_
  obtain ⟨μ1, eμ1⟩ : ∃ μ', μ' = pm_up μ 99 0 (μ 3 0) := ⟨_, rfl⟩
  rw [← eμ1]
  have hTμ1 : zTJ φ μ1 := by rw [eμ1]; exact zT_up hT zs99_0 rfl (i := 0) (by omega) (by omega) (by omega) (by omega)
  have hz := zWc_rcp (μ' := μ1) (d := (99, 0)) (s := (3, 0)) hz (by decide) (fun q hq hne => by rw [eμ1]; exact pm_upq (k := 0) (i := 0) rfl hne) (by show μ1 99 0 = μ 3 0; rw [eμ1, pm_up_eq])
  have hv := zKF_up hv eμ1 (by decide)
  have g2 : μ1 3 1 = μ 3 1 := by rw [eμ1, pm_up_off (by decide)]
  have f3 := zT_get hTμ1 zs3_1 (i := 1) (by omega) (by omega)
  refine pm_blk hK zmm28 [] 4 16 [(2, 99), (2, 3)] [] (pm_up μ1 99 1 (μ1 3 1)) [sx_bit Wm 99 = true] rfl ⟨hb99, trivial⟩ ?_
  obtain ⟨μ2, eμ2⟩ : ∃ μ', μ' = pm_up μ1 99 1 (μ1 3 1) := ⟨_, rfl⟩
  rw [← eμ2]
  have hTμ2 : zTJ φ μ2 := by rw [eμ2]; exact zT_up hTμ1 zs99_1 rfl (i := 1) (by omega) (by omega) (by omega) (by omega)
  have hz := zWc_rcp (μ' := μ2) (d := (99, 1)) (s := (3, 1)) hz (by decide) (fun q hq hne => by rw [eμ2]; exact pm_upq (k := 1) (i := 1) rfl hne) (by show μ2 99 1 = μ1 3 1; rw [eμ2, pm_up_eq])
  have hv := zKF_up hv eμ2 (by decide)
  have g4 : μ2 3 2 = μ 3 2 := by rw [eμ2, pm_up_off (by decide), eμ1, pm_up_off (by decide)]
  have f5 := zT_get hTμ2 zs3_2 (i := 2) (by omega) (by omega)
  refine pm_blk hK zmm28 [] 4 24 [(2, 99), (2, 3)] [] (pm_up μ2 99 2 (μ2 3 2)) [sx_bit Wm 99 = true] rfl ⟨hb99, trivial⟩ ?_
  obtain ⟨μ3, eμ3⟩ : ∃ μ', μ' = pm_up μ2 99 2 (μ2 3 2) := ⟨_, rfl⟩
  rw [← eμ3]
  have hTμ3 : zTJ φ μ3 := by rw [eμ3]; exact zT_up hTμ2 zs99_2 rfl (i := 2) (by omega) (by omega) (by omega) (by omega)
  have hz := zWc_fr (μ' := μ3) hz (fun q hq => by rw [eμ3]; exact pm_upq (k := 2) (i := 2) rfl ((show ∀ q ∈ zRq, q ≠ (99, 2) by decide) q hq))
  have hv := zKF_up hv eμ3 (by decide)
  have g6 : μ3 3 3 = μ 3 3 := by rw [eμ3, pm_up_off (by decide), eμ2, pm_up_off (by decide), eμ1, pm_up_off (by decide)]
  have f7 := zT_get hTμ3 zs3_3 (i := 3) (by omega) (by omega)
  refine pm_blk hK zmm28 [] 4 32 [(2, 99), (2, 3)] [] (pm_up μ3 99 3 (μ3 3 3)) [sx_bit Wm 99 = true] rfl ⟨hb99, trivial⟩ ?_
  obtain ⟨μ4, eμ4⟩ : ∃ μ', μ' = pm_up μ3 99 3 (μ3 3 3) := ⟨_, rfl⟩
  rw [← eμ4]
  have hTμ4 : zTJ φ μ4 := by rw [eμ4]; exact zT_up hTμ3 zs99_3 rfl (i := 3) (by omega) (by omega) (by omega) (by omega)
  have hz := zWc_fr (μ' := μ4) hz (fun q hq => by rw [eμ4]; exact pm_upq (k := 3) (i := 3) rfl ((show ∀ q ∈ zRq, q ≠ (99, 3) by decide) q hq))
  have hv := zKF_up hv eμ4 (by decide)
  have g8 : μ4 3 4 = μ 3 4 := by rw [eμ4, pm_up_off (by decide), eμ3, pm_up_off (by decide), eμ2, pm_up_off (by decide), eμ1, pm_up_off (by decide)]
  have f9 := zT_get hTμ4 zs3_4 (i := 4) (by omega) (by omega)
  refine pm_blk hK zmm28 [] 4 40 [(2, 99), (2, 3)] [] (pm_up μ4 99 4 (μ4 3 4)) [sx_bit Wm 99 = true] rfl ⟨hb99, trivial⟩ ?_
  obtain ⟨μ5, eμ5⟩ : ∃ μ', μ' = pm_up μ4 99 4 (μ4 3 4) := ⟨_, rfl⟩
  rw [← eμ5]
  have hTμ5 : zTJ φ μ5 := by rw [eμ5]; exact zT_up hTμ4 zs99_4 rfl (i := 4) (by omega) (by omega) (by omega) (by omega)
  have hz := zWc_fr (μ' := μ5) hz (fun q hq => by rw [eμ5]; exact pm_upq (k := 4) (i := 4) rfl ((show ∀ q ∈ zRq, q ≠ (99, 4) by decide) q hq))
  have hv := zKF_up hv eμ5 (by decide)
  refine pm_blk hK zmm28 [] 4 48 [(2, 99), (2, 3)] [(2, 100), (2, 4)] μ5 [] rfl trivial ?_
  refine pm_ccall hK zmm28 hC75 hw zGm_lt zJ_loc (91, 1, 29, 2) zM29 [(2, 4), (2, 100)] [] rfl rfl rfl rfl rfl ⟨by have e : zC75.2.2.2.1 = 1 := rfl; omega, by have e : zC75.2.2.2.2.1 = 80 := rfl; rw [zn29]; omega⟩ hs75 rfl (fun t ht => by cases ht) ⟨rfl, fun h => absurd h (by decide), fun _ => rfl, rfl, fun h => absurd h (by decide), fun _ => rfl, trivial⟩ (zTy_T hw hTμ5.1) hTμ5.2 (fun st1 μc1 hp1 hTt1 hJ1 hfr1 => ?_)
  obtain rfl := hp1
  have hTc1 : zTJ φ μc1 := ⟨zTy_of hw hTt1, hJ1⟩
  have hz := zWc_fr hz (zRq_fr hfr1 (by decide +kernel))
  have hv := zKF_tr hv (zRl_fr hfr1 zRz_t (by decide +kernel))
  refine pm_blk hK zmm28 [] 4 59 [(2, 99), (2, 3)] [(2, 101), (2, 5)] μc1 [] rfl trivial ?_
  refine pm_ccall hK zmm28 hC76 hw zGm_lt zJ_loc (91, 1, 29, 2) zM29 [(2, 5), (2, 101)] [] rfl rfl rfl rfl rfl ⟨by have e : zC76.2.2.2.1 = 1 := rfl; omega, by have e : zC76.2.2.2.2.1 = 80 := rfl; rw [zn29]; omega⟩ hs76 rfl (fun t ht => by cases ht) ⟨rfl, fun h => absurd h (by decide), fun _ => rfl, rfl, fun h => absurd h (by decide), fun _ => rfl, trivial⟩ (zTy_T hw hTc1.1) hTc1.2 (fun st2 μc2 hp2 hTt2 hJ2 hfr2 => ?_)
  obtain rfl := hp2
  have hTc2 : zTJ φ μc2 := ⟨zTy_of hw hTt2, hJ2⟩
  have hz := zWc_fr hz (zRq_fr hfr2 (by decide +kernel))
  have hv := zKF_tr hv (zRl_fr hfr2 zRz_t (by decide +kernel))
  refine pm_blk hK zmm28 [] 4 70 [(2, 99), (2, 3)] [(2, 102), (2, 6)] μc2 [] rfl trivial ?_
  refine pm_ccall hK zmm28 hC77 hw zGm_lt zJ_loc (91, 1, 29, 2) zM29 [(2, 6), (2, 102)] [] rfl rfl rfl rfl rfl ⟨by have e : zC77.2.2.2.1 = 1 := rfl; omega, by have e : zC77.2.2.2.2.1 = 80 := rfl; rw [zn29]; omega⟩ hs77 rfl (fun t ht => by cases ht) ⟨rfl, fun h => absurd h (by decide), fun _ => rfl, rfl, fun h => absurd h (by decide), fun _ => rfl, trivial⟩ (zTy_T hw hTc2.1) hTc2.2 (fun st3 μc3 hp3 hTt3 hJ3 hfr3 => ?_)
  obtain rfl := hp3
  have hTc3 : zTJ φ μc3 := ⟨zTy_of hw hTt3, hJ3⟩
  have hz := zWc_fr hz (zRq_fr hfr3 (by decide +kernel))
  have hv := zKF_tr hv (zRl_fr hfr3 zRz_t (by decide +kernel))
  refine pm_blk hK zmm28 [] 4 81 [(2, 99), (2, 3)] [(2, 103), (2, 7)] μc3 [] rfl trivial ?_
  refine pm_ccall hK zmm28 hC78 hw zGm_lt zJ_loc (91, 1, 29, 2) zM29 [(2, 7), (2, 103)] [] rfl rfl rfl rfl rfl ⟨by have e : zC78.2.2.2.1 = 1 := rfl; omega, by have e : zC78.2.2.2.2.1 = 80 := rfl; rw [zn29]; omega⟩ hs78 rfl (fun t ht => by cases ht) ⟨rfl, fun h => absurd h (by decide), fun _ => rfl, rfl, fun h => absurd h (by decide), fun _ => rfl, trivial⟩ (zTy_T hw hTc3.1) hTc3.2 (fun st4 μc4 hp4 hTt4 hJ4 hfr4 => ?_)
  obtain rfl := hp4
  have hTc4 : zTJ φ μc4 := ⟨zTy_of hw hTt4, hJ4⟩
  have hz := zWc_fr hz (zRq_fr hfr4 (by decide +kernel))
  have hv := zKF_tr hv (zRl_fr hfr4 zRz_t (by decide +kernel))
  refine pm_blk hK zmm28 [] 4 92 [(2, 99), (2, 3)] [(2, 104), (2, 8)] μc4 [] rfl trivial ?_
  refine pm_ccall hK zmm28 hC79 hw zGm_lt zJ_loc (91, 1, 29, 2) zM29 [(2, 8), (2, 104)] [] rfl rfl rfl rfl rfl ⟨by have e : zC79.2.2.2.1 = 1 := rfl; omega, by have e : zC79.2.2.2.2.1 = 80 := rfl; rw [zn29]; omega⟩ hs79 rfl (fun t ht => by cases ht) ⟨rfl, fun h => absurd h (by decide), fun _ => rfl, rfl, fun h => absurd h (by decide), fun _ => rfl, trivial⟩ (zTy_T hw hTc4.1) hTc4.2 (fun st5 μc5 hp5 hTt5 hJ5 hfr5 => ?_)
  obtain rfl := hp5
  have hTc5 : zTJ φ μc5 := ⟨zTy_of hw hTt5, hJ5⟩
  have hz := zWc_fr hz (zRq_fr hfr5 (by decide +kernel))
  have hv := zKF_tr hv (zRl_fr hfr5 zRz_t (by decide +kernel))
  refine pm_blk hK zmm28 [] 4 103 [(2, 99), (2, 3)] [(2, 105), (2, 9)] μc5 [] rfl trivial ?_
  refine pm_ccall hK zmm28 hC80 hw zGm_lt zJ_loc (91, 1, 29, 2) zM29 [(2, 9), (2, 105)] [] rfl rfl rfl rfl rfl ⟨by have e : zC80.2.2.2.1 = 1 := rfl; omega, by have e : zC80.2.2.2.2.1 = 80 := rfl; rw [zn29]; omega⟩ hs80 rfl (fun t ht => by cases ht) ⟨rfl, fun h => absurd h (by decide), fun _ => rfl, rfl, fun h => absurd h (by decide), fun _ => rfl, trivial⟩ (zTy_T hw hTc5.1) hTc5.2 (fun st6 μc6 hp6 hTt6 hJ6 hfr6 => ?_)
  obtain rfl := hp6
  have hTc6 : zTJ φ μc6 := ⟨zTy_of hw hTt6, hJ6⟩
  have hz := zWc_fr hz (zRq_fr hfr6 (by decide +kernel))
  have hv := zKF_tr hv (zRl_fr hfr6 zRz_t (by decide +kernel))
  refine pm_blk hK zmm28 [] 4 114 [(2, 99), (2, 3)] [(2, 106), (2, 10)] μc6 [] rfl trivial ?_
  refine pm_ccall hK zmm28 hC69 hw zGm_lt zJ_loc (91, 1, 29, 2) zM29 [(2, 10), (2, 106)] [] rfl rfl rfl rfl rfl ⟨by have e : zC69.2.2.2.1 = 1 := rfl; omega, by have e : zC69.2.2.2.2.1 = 80 := rfl; rw [zn29]; omega⟩ hs69 rfl (fun t ht => by cases ht) ⟨rfl, fun h => absurd h (by decide), fun _ => rfl, rfl, fun h => absurd h (by decide), fun _ => rfl, trivial⟩ (zTy_T hw hTc6.1) hTc6.2 (fun st7 μc7 hp7 hTt7 hJ7 hfr7 => ?_)
  obtain rfl := hp7
  have hTc7 : zTJ φ μc7 := ⟨zTy_of hw hTt7, hJ7⟩
  have hz := zWc_fr hz (zRq_fr hfr7 (by decide +kernel))
  have hv := zKF_tr hv (zRl_fr hfr7 zRz_t (by decide +kernel))
  refine pm_blk hK zmm28 [] 4 125 [(2, 99), (2, 3)] [(2, 107), (2, 11)] μc7 [] rfl trivial ?_
  refine pm_ccall hK zmm28 hC70 hw zGm_lt zJ_loc (91, 1, 29, 2) zM29 [(2, 11), (2, 107)] [] rfl rfl rfl rfl rfl ⟨by have e : zC70.2.2.2.1 = 1 := rfl; omega, by have e : zC70.2.2.2.2.1 = 80 := rfl; rw [zn29]; omega⟩ hs70 rfl (fun t ht => by cases ht) ⟨rfl, fun h => absurd h (by decide), fun _ => rfl, rfl, fun h => absurd h (by decide), fun _ => rfl, trivial⟩ (zTy_T hw hTc7.1) hTc7.2 (fun st8 μc8 hp8 hTt8 hJ8 hfr8 => ?_)
  obtain rfl := hp8
  have hTc8 : zTJ φ μc8 := ⟨zTy_of hw hTt8, hJ8⟩
  have hz := zWc_fr hz (zRq_fr hfr8 (by decide +kernel))
  have hv := zKF_tr hv (zRl_fr hfr8 zRz_t (by decide +kernel))
  refine pm_blk hK zmm28 [] 4 136 [(2, 99), (2, 3)] [(2, 108), (2, 12)] μc8 [] rfl trivial ?_
  refine pm_ccall hK zmm28 hC71 hw zGm_lt zJ_loc (91, 1, 29, 2) zM29 [(2, 12), (2, 108)] [] rfl rfl rfl rfl rfl ⟨by have e : zC71.2.2.2.1 = 1 := rfl; omega, by have e : zC71.2.2.2.2.1 = 80 := rfl; rw [zn29]; omega⟩ hs71 rfl (fun t ht => by cases ht) ⟨rfl, fun h => absurd h (by decide), fun _ => rfl, rfl, fun h => absurd h (by decide), fun _ => rfl, trivial⟩ (zTy_T hw hTc8.1) hTc8.2 (fun st9 μc9 hp9 hTt9 hJ9 hfr9 => ?_)
  obtain rfl := hp9
  have hTc9 : zTJ φ μc9 := ⟨zTy_of hw hTt9, hJ9⟩
  have hz := zWc_fr hz (zRq_fr hfr9 (by decide +kernel))
  have hv := zKF_tr hv (zRl_fr hfr9 zRz_t (by decide +kernel))
  refine pm_blk hK zmm28 [] 4 147 [(2, 99), (2, 3)] [(2, 109), (2, 13)] μc9 [] rfl trivial ?_
  refine pm_ccall hK zmm28 hC72 hw zGm_lt zJ_loc (91, 1, 29, 2) zM29 [(2, 13), (2, 109)] [] rfl rfl rfl rfl rfl ⟨by have e : zC72.2.2.2.1 = 1 := rfl; omega, by have e : zC72.2.2.2.2.1 = 80 := rfl; rw [zn29]; omega⟩ hs72 rfl (fun t ht => by cases ht) ⟨rfl, fun h => absurd h (by decide), fun _ => rfl, rfl, fun h => absurd h (by decide), fun _ => rfl, trivial⟩ (zTy_T hw hTc9.1) hTc9.2 (fun st10 μc10 hp10 hTt10 hJ10 hfr10 => ?_)
  obtain rfl := hp10
  have hTc10 : zTJ φ μc10 := ⟨zTy_of hw hTt10, hJ10⟩
  have hz := zWc_fr hz (zRq_fr hfr10 (by decide +kernel))
  have hv := zKF_tr hv (zRl_fr hfr10 zRz_t (by decide +kernel))
  refine pm_blk hK zmm28 [] 4 158 [(2, 99), (2, 3)] [(2, 110), (2, 14)] μc10 [] rfl trivial ?_
  refine pm_ccall hK zmm28 hC73 hw zGm_lt zJ_loc (91, 1, 29, 2) zM29 [(2, 14), (2, 110)] [] rfl rfl rfl rfl rfl ⟨by have e : zC73.2.2.2.1 = 1 := rfl; omega, by have e : zC73.2.2.2.2.1 = 80 := rfl; rw [zn29]; omega⟩ hs73 rfl (fun t ht => by cases ht) ⟨rfl, fun h => absurd h (by decide), fun _ => rfl, rfl, fun h => absurd h (by decide), fun _ => rfl, trivial⟩ (zTy_T hw hTc10.1) hTc10.2 (fun st11 μc11 hp11 hTt11 hJ11 hfr11 => ?_)
  obtain rfl := hp11
  have hTc11 : zTJ φ μc11 := ⟨zTy_of hw hTt11, hJ11⟩
  have hz := zWc_fr hz (zRq_fr hfr11 (by decide +kernel))
  have hv := zKF_tr hv (zRl_fr hfr11 zRz_t (by decide +kernel))
  refine pm_blk hK zmm28 [] 4 169 [(2, 99), (2, 3)] [(2, 111), (2, 15)] μc11 [] rfl trivial ?_
  refine pm_ccall hK zmm28 hC74 hw zGm_lt zJ_loc (91, 1, 29, 2) zM29 [(2, 15), (2, 111)] [] rfl rfl rfl rfl rfl ⟨by have e : zC74.2.2.2.1 = 1 := rfl; omega, by have e : zC74.2.2.2.2.1 = 80 := rfl; rw [zn29]; omega⟩ hs74 rfl (fun t ht => by cases ht) ⟨rfl, fun h => absurd h (by decide), fun _ => rfl, rfl, fun h => absurd h (by decide), fun _ => rfl, trivial⟩ (zTy_T hw hTc11.1) hTc11.2 (fun st12 μc12 hp12 hTt12 hJ12 hfr12 => ?_)
  obtain rfl := hp12
  have hTc12 : zTJ φ μc12 := ⟨zTy_of hw hTt12, hJ12⟩
  have hz := zWc_fr hz (zRq_fr hfr12 (by decide +kernel))
  have hv := zKF_tr hv (zRl_fr hfr12 zRz_t (by decide +kernel))
  exact pm_vret rfl rfl ⟨rfl, hTc12, zWc_eq hz (by decide), hv⟩
set_option maxRecDepth 100000 in
theorem zh_ac112_3 (hK : zKK ST) (hw : sx_Wd zNR zRT2 B0 Sg) (hC4 : zCK φ D ST B0 l Sg zC4) (hs4 : sx_subm zC4.2.2.2.2.2 Wm = true) (hC5 : zCK φ D ST B0 l Sg zC5) (hs5 : sx_subm zC5.2.2.2.2.2 Wm = true) (hC6 : zCK φ D ST B0 l Sg zC6) (hs6 : sx_subm zC6.2.2.2.2.2 Wm = true) (hC7 : zCK φ D ST B0 l Sg zC7) (hs7 : sx_subm zC7.2.2.2.2.2 Wm = true) (hC8 : zCK φ D ST B0 l Sg zC8) (hs8 : sx_subm zC8.2.2.2.2.2 Wm = true) (hC9 : zCK φ D ST B0 l Sg zC9) (hs9 : sx_subm zC9.2.2.2.2.2 Wm = true) (hC10 : zCK φ D ST B0 l Sg zC10) (hs10 : sx_subm zC10.2.2.2.2.2 Wm = true) (hC11 : zCK φ D ST B0 l Sg zC11) (hs11 : sx_subm zC11.2.2.2.2.2 Wm = true) (hC12 : zCK φ D ST B0 l Sg zC12) (hs12 : sx_subm zC12.2.2.2.2.2 Wm = true) (hC13 : zCK φ D ST B0 l Sg zC13) (hs13 : sx_subm zC13.2.2.2.2.2 Wm = true) (hC14 : zCK φ D ST B0 l Sg zC14) (hs14 : sx_subm zC14.2.2.2.2.2 Wm = true) (hC15 : zCK φ D ST B0 l Sg zC15) (hs15 : sx_subm zC15.2.2.2.2.2 Wm = true) (hT : zTJ φ μ) (hb112 : sx_bit Wm 112 = true) (hbd : 2 ≤ bud.1 ∧ 101 ≤ bud.2.1) : zC D Wm ST (sx_bW zRT2 Wm B0 Sg, J) l Sg zM28 bud [(2, 112), (2, 3)] μ (fun st' μ' => st' = [] ∧ zTJ φ μ' ∧ zWc (zsw 112 3) μ μ' ∧ zKF μ μ') := by
  have hz : zWc (fun q => q) μ μ := fun _ _ => rfl
  have hv : zKF μ μ := zKF_refl
  have f1 := zT_get hT zs3_0 (i := 0) (by omega) (by omega)
  refine pm_blk hK zmm28 [] 4 8 [(2, 112), (2, 3)] [] (pm_up μ 112 0 (μ 3 0)) [sx_bit Wm 112 = true] rfl ⟨hb112, trivial⟩ ?_
  obtain ⟨μ1, eμ1⟩ : ∃ μ', μ' = pm_up μ 112 0 (μ 3 0) := ⟨_, rfl⟩
  rw [← eμ1]
  have hTμ1 : zTJ φ μ1 := by rw [eμ1]; exact zT_up hT zs112_0 rfl (i := 0) (by omega) (by omega) (by omega) (by omega)
  have hz := zWc_rcp (μ' := μ1) (d := (112, 0)) (s := (3, 0)) hz (by decide) (fun q hq hne => by rw [eμ1]; exact pm_upq (k := 0) (i := 0) rfl hne) (by show μ1 112 0 = μ 3 0; rw [eμ1, pm_up_eq])
  have hv := zKF_up hv eμ1 (by decide)
  have g2 : μ1 3 1 = μ 3 1 := by rw [eμ1, pm_up_off (by decide)]
  have f3 := zT_get hTμ1 zs3_1 (i := 1) (by omega) (by omega)
  refine pm_blk hK zmm28 [] 4 16 [(2, 112), (2, 3)] [] (pm_up μ1 112 1 (μ1 3 1)) [sx_bit Wm 112 = true] rfl ⟨hb112, trivial⟩ ?_
  obtain ⟨μ2, eμ2⟩ : ∃ μ', μ' = pm_up μ1 112 1 (μ1 3 1) := ⟨_, rfl⟩
  rw [← eμ2]
  have hTμ2 : zTJ φ μ2 := by rw [eμ2]; exact zT_up hTμ1 zs112_1 rfl (i := 1) (by omega) (by omega) (by omega) (by omega)
  have hz := zWc_rcp (μ' := μ2) (d := (112, 1)) (s := (3, 1)) hz (by decide) (fun q hq hne => by rw [eμ2]; exact pm_upq (k := 1) (i := 1) rfl hne) (by show μ2 112 1 = μ1 3 1; rw [eμ2, pm_up_eq])
  have hv := zKF_up hv eμ2 (by decide)
  have g4 : μ2 3 2 = μ 3 2 := by rw [eμ2, pm_up_off (by decide), eμ1, pm_up_off (by decide)]
  have f5 := zT_get hTμ2 zs3_2 (i := 2) (by omega) (by omega)
  refine pm_blk hK zmm28 [] 4 24 [(2, 112), (2, 3)] [] (pm_up μ2 112 2 (μ2 3 2)) [sx_bit Wm 112 = true] rfl ⟨hb112, trivial⟩ ?_
  obtain ⟨μ3, eμ3⟩ : ∃ μ', μ' = pm_up μ2 112 2 (μ2 3 2) := ⟨_, rfl⟩
  rw [← eμ3]
  have hTμ3 : zTJ φ μ3 := by rw [eμ3]; exact zT_up hTμ2 zs112_2 rfl (i := 2) (by omega) (by omega) (by omega) (by omega)
  have hz := zWc_fr (μ' := μ3) hz (fun q hq => by rw [eμ3]; exact pm_upq (k := 2) (i := 2) rfl ((show ∀ q ∈ zRq, q ≠ (112, 2) by decide) q hq))
  have hv := zKF_up hv eμ3 (by decide)
  have g6 : μ3 3 3 = μ 3 3 := by rw [eμ3, pm_up_off (by decide), eμ2, pm_up_off (by decide), eμ1, pm_up_off (by decide)]
  have f7 := zT_get hTμ3 zs3_3 (i := 3) (by omega) (by omega)
  refine pm_blk hK zmm28 [] 4 32 [(2, 112), (2, 3)] [] (pm_up μ3 112 3 (μ3 3 3)) [sx_bit Wm 112 = true] rfl ⟨hb112, trivial⟩ ?_
  obtain ⟨μ4, eμ4⟩ : ∃ μ', μ' = pm_up μ3 112 3 (μ3 3 3) := ⟨_, rfl⟩
  rw [← eμ4]
  have hTμ4 : zTJ φ μ4 := by rw [eμ4]; exact zT_up hTμ3 zs112_3 rfl (i := 3) (by omega) (by omega) (by omega) (by omega)
  have hz := zWc_fr (μ' := μ4) hz (fun q hq => by rw [eμ4]; exact pm_upq (k := 3) (i := 3) rfl ((show ∀ q ∈ zRq, q ≠ (112, 3) by decide) q hq))
  have hv := zKF_up hv eμ4 (by decide)
  have g8 : μ4 3 4 = μ 3 4 := by rw [eμ4, pm_up_off (by decide), eμ3, pm_up_off (by decide), eμ2, pm_up_off (by decide), eμ1, pm_up_off (by decide)]
  have f9 := zT_get hTμ4 zs3_4 (i := 4) (by omega) (by omega)
  refine pm_blk hK zmm28 [] 4 40 [(2, 112), (2, 3)] [] (pm_up μ4 112 4 (μ4 3 4)) [sx_bit Wm 112 = true] rfl ⟨hb112, trivial⟩ ?_
  obtain ⟨μ5, eμ5⟩ : ∃ μ', μ' = pm_up μ4 112 4 (μ4 3 4) := ⟨_, rfl⟩
  rw [← eμ5]
  have hTμ5 : zTJ φ μ5 := by rw [eμ5]; exact zT_up hTμ4 zs112_4 rfl (i := 4) (by omega) (by omega) (by omega) (by omega)
  have hz := zWc_fr (μ' := μ5) hz (fun q hq => by rw [eμ5]; exact pm_upq (k := 4) (i := 4) rfl ((show ∀ q ∈ zRq, q ≠ (112, 4) by decide) q hq))
  have hv := zKF_up hv eμ5 (by decide)
  refine pm_blk hK zmm28 [] 4 48 [(2, 112), (2, 3)] [(2, 113), (2, 4)] μ5 [] rfl trivial ?_
  refine pm_ccall hK zmm28 hC10 hw zGm_lt zJ_loc (91, 1, 29, 2) zM29 [(2, 4), (2, 113)] [] rfl rfl rfl rfl rfl ⟨by have e : zC10.2.2.2.1 = 1 := rfl; omega, by have e : zC10.2.2.2.2.1 = 80 := rfl; rw [zn29]; omega⟩ hs10 rfl (fun t ht => by cases ht) ⟨rfl, fun h => absurd h (by decide), fun _ => rfl, rfl, fun h => absurd h (by decide), fun _ => rfl, trivial⟩ (zTy_T hw hTμ5.1) hTμ5.2 (fun st1 μc1 hp1 hTt1 hJ1 hfr1 => ?_)
  obtain rfl := hp1
  have hTc1 : zTJ φ μc1 := ⟨zTy_of hw hTt1, hJ1⟩
  have hz := zWc_fr hz (zRq_fr hfr1 (by decide +kernel))
  have hv := zKF_tr hv (zRl_fr hfr1 zRz_t (by decide +kernel))
  refine pm_blk hK zmm28 [] 4 59 [(2, 112), (2, 3)] [(2, 114), (2, 5)] μc1 [] rfl trivial ?_
  refine pm_ccall hK zmm28 hC11 hw zGm_lt zJ_loc (91, 1, 29, 2) zM29 [(2, 5), (2, 114)] [] rfl rfl rfl rfl rfl ⟨by have e : zC11.2.2.2.1 = 1 := rfl; omega, by have e : zC11.2.2.2.2.1 = 80 := rfl; rw [zn29]; omega⟩ hs11 rfl (fun t ht => by cases ht) ⟨rfl, fun h => absurd h (by decide), fun _ => rfl, rfl, fun h => absurd h (by decide), fun _ => rfl, trivial⟩ (zTy_T hw hTc1.1) hTc1.2 (fun st2 μc2 hp2 hTt2 hJ2 hfr2 => ?_)
  obtain rfl := hp2
  have hTc2 : zTJ φ μc2 := ⟨zTy_of hw hTt2, hJ2⟩
  have hz := zWc_fr hz (zRq_fr hfr2 (by decide +kernel))
  have hv := zKF_tr hv (zRl_fr hfr2 zRz_t (by decide +kernel))
  refine pm_blk hK zmm28 [] 4 70 [(2, 112), (2, 3)] [(2, 115), (2, 6)] μc2 [] rfl trivial ?_
  refine pm_ccall hK zmm28 hC12 hw zGm_lt zJ_loc (91, 1, 29, 2) zM29 [(2, 6), (2, 115)] [] rfl rfl rfl rfl rfl ⟨by have e : zC12.2.2.2.1 = 1 := rfl; omega, by have e : zC12.2.2.2.2.1 = 80 := rfl; rw [zn29]; omega⟩ hs12 rfl (fun t ht => by cases ht) ⟨rfl, fun h => absurd h (by decide), fun _ => rfl, rfl, fun h => absurd h (by decide), fun _ => rfl, trivial⟩ (zTy_T hw hTc2.1) hTc2.2 (fun st3 μc3 hp3 hTt3 hJ3 hfr3 => ?_)
  obtain rfl := hp3
  have hTc3 : zTJ φ μc3 := ⟨zTy_of hw hTt3, hJ3⟩
  have hz := zWc_fr hz (zRq_fr hfr3 (by decide +kernel))
  have hv := zKF_tr hv (zRl_fr hfr3 zRz_t (by decide +kernel))
  refine pm_blk hK zmm28 [] 4 81 [(2, 112), (2, 3)] [(2, 116), (2, 7)] μc3 [] rfl trivial ?_
  refine pm_ccall hK zmm28 hC13 hw zGm_lt zJ_loc (91, 1, 29, 2) zM29 [(2, 7), (2, 116)] [] rfl rfl rfl rfl rfl ⟨by have e : zC13.2.2.2.1 = 1 := rfl; omega, by have e : zC13.2.2.2.2.1 = 80 := rfl; rw [zn29]; omega⟩ hs13 rfl (fun t ht => by cases ht) ⟨rfl, fun h => absurd h (by decide), fun _ => rfl, rfl, fun h => absurd h (by decide), fun _ => rfl, trivial⟩ (zTy_T hw hTc3.1) hTc3.2 (fun st4 μc4 hp4 hTt4 hJ4 hfr4 => ?_)
  obtain rfl := hp4
  have hTc4 : zTJ φ μc4 := ⟨zTy_of hw hTt4, hJ4⟩
  have hz := zWc_fr hz (zRq_fr hfr4 (by decide +kernel))
  have hv := zKF_tr hv (zRl_fr hfr4 zRz_t (by decide +kernel))
  refine pm_blk hK zmm28 [] 4 92 [(2, 112), (2, 3)] [(2, 117), (2, 8)] μc4 [] rfl trivial ?_
  refine pm_ccall hK zmm28 hC14 hw zGm_lt zJ_loc (91, 1, 29, 2) zM29 [(2, 8), (2, 117)] [] rfl rfl rfl rfl rfl ⟨by have e : zC14.2.2.2.1 = 1 := rfl; omega, by have e : zC14.2.2.2.2.1 = 80 := rfl; rw [zn29]; omega⟩ hs14 rfl (fun t ht => by cases ht) ⟨rfl, fun h => absurd h (by decide), fun _ => rfl, rfl, fun h => absurd h (by decide), fun _ => rfl, trivial⟩ (zTy_T hw hTc4.1) hTc4.2 (fun st5 μc5 hp5 hTt5 hJ5 hfr5 => ?_)
  obtain rfl := hp5
  have hTc5 : zTJ φ μc5 := ⟨zTy_of hw hTt5, hJ5⟩
  have hz := zWc_fr hz (zRq_fr hfr5 (by decide +kernel))
  have hv := zKF_tr hv (zRl_fr hfr5 zRz_t (by decide +kernel))
  refine pm_blk hK zmm28 [] 4 103 [(2, 112), (2, 3)] [(2, 118), (2, 9)] μc5 [] rfl trivial ?_
  refine pm_ccall hK zmm28 hC15 hw zGm_lt zJ_loc (91, 1, 29, 2) zM29 [(2, 9), (2, 118)] [] rfl rfl rfl rfl rfl ⟨by have e : zC15.2.2.2.1 = 1 := rfl; omega, by have e : zC15.2.2.2.2.1 = 80 := rfl; rw [zn29]; omega⟩ hs15 rfl (fun t ht => by cases ht) ⟨rfl, fun h => absurd h (by decide), fun _ => rfl, rfl, fun h => absurd h (by decide), fun _ => rfl, trivial⟩ (zTy_T hw hTc5.1) hTc5.2 (fun st6 μc6 hp6 hTt6 hJ6 hfr6 => ?_)
  obtain rfl := hp6
  have hTc6 : zTJ φ μc6 := ⟨zTy_of hw hTt6, hJ6⟩
  have hz := zWc_fr hz (zRq_fr hfr6 (by decide +kernel))
  have hv := zKF_tr hv (zRl_fr hfr6 zRz_t (by decide +kernel))
  refine pm_blk hK zmm28 [] 4 114 [(2, 112), (2, 3)] [(2, 119), (2, 10)] μc6 [] rfl trivial ?_
  refine pm_ccall hK zmm28 hC4 hw zGm_lt zJ_loc (91, 1, 29, 2) zM29 [(2, 10), (2, 119)] [] rfl rfl rfl rfl rfl ⟨by have e : zC4.2.2.2.1 = 1 := rfl; omega, by have e : zC4.2.2.2.2.1 = 80 := rfl; rw [zn29]; omega⟩ hs4 rfl (fun t ht => by cases ht) ⟨rfl, fun h => absurd h (by decide), fun _ => rfl, rfl, fun h => absurd h (by decide), fun _ => rfl, trivial⟩ (zTy_T hw hTc6.1) hTc6.2 (fun st7 μc7 hp7 hTt7 hJ7 hfr7 => ?_)
  obtain rfl := hp7
  have hTc7 : zTJ φ μc7 := ⟨zTy_of hw hTt7, hJ7⟩
  have hz := zWc_fr hz (zRq_fr hfr7 (by decide +kernel))
  have hv := zKF_tr hv (zRl_fr hfr7 zRz_t (by decide +kernel))
  refine pm_blk hK zmm28 [] 4 125 [(2, 112), (2, 3)] [(2, 120), (2, 11)] μc7 [] rfl trivial ?_
  refine pm_ccall hK zmm28 hC5 hw zGm_lt zJ_loc (91, 1, 29, 2) zM29 [(2, 11), (2, 120)] [] rfl rfl rfl rfl rfl ⟨by have e : zC5.2.2.2.1 = 1 := rfl; omega, by have e : zC5.2.2.2.2.1 = 80 := rfl; rw [zn29]; omega⟩ hs5 rfl (fun t ht => by cases ht) ⟨rfl, fun h => absurd h (by decide), fun _ => rfl, rfl, fun h => absurd h (by decide), fun _ => rfl, trivial⟩ (zTy_T hw hTc7.1) hTc7.2 (fun st8 μc8 hp8 hTt8 hJ8 hfr8 => ?_)
  obtain rfl := hp8
  have hTc8 : zTJ φ μc8 := ⟨zTy_of hw hTt8, hJ8⟩
  have hz := zWc_fr hz (zRq_fr hfr8 (by decide +kernel))
  have hv := zKF_tr hv (zRl_fr hfr8 zRz_t (by decide +kernel))
  refine pm_blk hK zmm28 [] 4 136 [(2, 112), (2, 3)] [(2, 121), (2, 12)] μc8 [] rfl trivial ?_
  refine pm_ccall hK zmm28 hC6 hw zGm_lt zJ_loc (91, 1, 29, 2) zM29 [(2, 12), (2, 121)] [] rfl rfl rfl rfl rfl ⟨by have e : zC6.2.2.2.1 = 1 := rfl; omega, by have e : zC6.2.2.2.2.1 = 80 := rfl; rw [zn29]; omega⟩ hs6 rfl (fun t ht => by cases ht) ⟨rfl, fun h => absurd h (by decide), fun _ => rfl, rfl, fun h => absurd h (by decide), fun _ => rfl, trivial⟩ (zTy_T hw hTc8.1) hTc8.2 (fun st9 μc9 hp9 hTt9 hJ9 hfr9 => ?_)
  obtain rfl := hp9
  have hTc9 : zTJ φ μc9 := ⟨zTy_of hw hTt9, hJ9⟩
  have hz := zWc_fr hz (zRq_fr hfr9 (by decide +kernel))
  have hv := zKF_tr hv (zRl_fr hfr9 zRz_t (by decide +kernel))
  refine pm_blk hK zmm28 [] 4 147 [(2, 112), (2, 3)] [(2, 122), (2, 13)] μc9 [] rfl trivial ?_
  refine pm_ccall hK zmm28 hC7 hw zGm_lt zJ_loc (91, 1, 29, 2) zM29 [(2, 13), (2, 122)] [] rfl rfl rfl rfl rfl ⟨by have e : zC7.2.2.2.1 = 1 := rfl; omega, by have e : zC7.2.2.2.2.1 = 80 := rfl; rw [zn29]; omega⟩ hs7 rfl (fun t ht => by cases ht) ⟨rfl, fun h => absurd h (by decide), fun _ => rfl, rfl, fun h => absurd h (by decide), fun _ => rfl, trivial⟩ (zTy_T hw hTc9.1) hTc9.2 (fun st10 μc10 hp10 hTt10 hJ10 hfr10 => ?_)
  obtain rfl := hp10
  have hTc10 : zTJ φ μc10 := ⟨zTy_of hw hTt10, hJ10⟩
  have hz := zWc_fr hz (zRq_fr hfr10 (by decide +kernel))
  have hv := zKF_tr hv (zRl_fr hfr10 zRz_t (by decide +kernel))
  refine pm_blk hK zmm28 [] 4 158 [(2, 112), (2, 3)] [(2, 123), (2, 14)] μc10 [] rfl trivial ?_
  refine pm_ccall hK zmm28 hC8 hw zGm_lt zJ_loc (91, 1, 29, 2) zM29 [(2, 14), (2, 123)] [] rfl rfl rfl rfl rfl ⟨by have e : zC8.2.2.2.1 = 1 := rfl; omega, by have e : zC8.2.2.2.2.1 = 80 := rfl; rw [zn29]; omega⟩ hs8 rfl (fun t ht => by cases ht) ⟨rfl, fun h => absurd h (by decide), fun _ => rfl, rfl, fun h => absurd h (by decide), fun _ => rfl, trivial⟩ (zTy_T hw hTc10.1) hTc10.2 (fun st11 μc11 hp11 hTt11 hJ11 hfr11 => ?_)
  obtain rfl := hp11
  have hTc11 : zTJ φ μc11 := ⟨zTy_of hw hTt11, hJ11⟩
  have hz := zWc_fr hz (zRq_fr hfr11 (by decide +kernel))
  have hv := zKF_tr hv (zRl_fr hfr11 zRz_t (by decide +kernel))
  refine pm_blk hK zmm28 [] 4 169 [(2, 112), (2, 3)] [(2, 124), (2, 15)] μc11 [] rfl trivial ?_
  refine pm_ccall hK zmm28 hC9 hw zGm_lt zJ_loc (91, 1, 29, 2) zM29 [(2, 15), (2, 124)] [] rfl rfl rfl rfl rfl ⟨by have e : zC9.2.2.2.1 = 1 := rfl; omega, by have e : zC9.2.2.2.2.1 = 80 := rfl; rw [zn29]; omega⟩ hs9 rfl (fun t ht => by cases ht) ⟨rfl, fun h => absurd h (by decide), fun _ => rfl, rfl, fun h => absurd h (by decide), fun _ => rfl, trivial⟩ (zTy_T hw hTc11.1) hTc11.2 (fun st12 μc12 hp12 hTt12 hJ12 hfr12 => ?_)
  obtain rfl := hp12
  have hTc12 : zTJ φ μc12 := ⟨zTy_of hw hTt12, hJ12⟩
  have hz := zWc_fr hz (zRq_fr hfr12 (by decide +kernel))
  have hv := zKF_tr hv (zRl_fr hfr12 zRz_t (by decide +kernel))
  exact pm_vret rfl rfl ⟨rfl, hTc12, zWc_eq hz (by decide), hv⟩
set_option maxRecDepth 100000 in
theorem zh_ac125_3 (hK : zKK ST) (hw : sx_Wd zNR zRT2 B0 Sg) (hC17 : zCK φ D ST B0 l Sg zC17) (hs17 : sx_subm zC17.2.2.2.2.2 Wm = true) (hC18 : zCK φ D ST B0 l Sg zC18) (hs18 : sx_subm zC18.2.2.2.2.2 Wm = true) (hC19 : zCK φ D ST B0 l Sg zC19) (hs19 : sx_subm zC19.2.2.2.2.2 Wm = true) (hC20 : zCK φ D ST B0 l Sg zC20) (hs20 : sx_subm zC20.2.2.2.2.2 Wm = true) (hC21 : zCK φ D ST B0 l Sg zC21) (hs21 : sx_subm zC21.2.2.2.2.2 Wm = true) (hC22 : zCK φ D ST B0 l Sg zC22) (hs22 : sx_subm zC22.2.2.2.2.2 Wm = true) (hC23 : zCK φ D ST B0 l Sg zC23) (hs23 : sx_subm zC23.2.2.2.2.2 Wm = true) (hC24 : zCK φ D ST B0 l Sg zC24) (hs24 : sx_subm zC24.2.2.2.2.2 Wm = true) (hC25 : zCK φ D ST B0 l Sg zC25) (hs25 : sx_subm zC25.2.2.2.2.2 Wm = true) (hC26 : zCK φ D ST B0 l Sg zC26) (hs26 : sx_subm zC26.2.2.2.2.2 Wm = true) (hC27 : zCK φ D ST B0 l Sg zC27) (hs27 : sx_subm zC27.2.2.2.2.2 Wm = true) (hC28 : zCK φ D ST B0 l Sg zC28) (hs28 : sx_subm zC28.2.2.2.2.2 Wm = true) (hT : zTJ φ μ) (hb125 : sx_bit Wm 125 = true) (hbd : 2 ≤ bud.1 ∧ 101 ≤ bud.2.1) : zC D Wm ST (sx_bW zRT2 Wm B0 Sg, J) l Sg zM28 bud [(2, 125), (2, 3)] μ (fun st' μ' => st' = [] ∧ zTJ φ μ' ∧ zWc (zsw 125 3) μ μ' ∧ zKF μ μ') := by
  have hz : zWc (fun q => q) μ μ := fun _ _ => rfl
  have hv : zKF μ μ := zKF_refl
  have f1 := zT_get hT zs3_0 (i := 0) (by omega) (by omega)
  refine pm_blk hK zmm28 [] 4 8 [(2, 125), (2, 3)] [] (pm_up μ 125 0 (μ 3 0)) [sx_bit Wm 125 = true] rfl ⟨hb125, trivial⟩ ?_
  obtain ⟨μ1, eμ1⟩ : ∃ μ', μ' = pm_up μ 125 0 (μ 3 0) := ⟨_, rfl⟩
  rw [← eμ1]
  have hTμ1 : zTJ φ μ1 := by rw [eμ1]; exact zT_up hT zs125_0 rfl (i := 0) (by omega) (by omega) (by omega) (by omega)
  have hz := zWc_rcp (μ' := μ1) (d := (125, 0)) (s := (3, 0)) hz (by decide) (fun q hq hne => by rw [eμ1]; exact pm_upq (k := 0) (i := 0) rfl hne) (by show μ1 125 0 = μ 3 0; rw [eμ1, pm_up_eq])
  have hv := zKF_up hv eμ1 (by decide)
  have g2 : μ1 3 1 = μ 3 1 := by rw [eμ1, pm_up_off (by decide)]
  have f3 := zT_get hTμ1 zs3_1 (i := 1) (by omega) (by omega)
  refine pm_blk hK zmm28 [] 4 16 [(2, 125), (2, 3)] [] (pm_up μ1 125 1 (μ1 3 1)) [sx_bit Wm 125 = true] rfl ⟨hb125, trivial⟩ ?_
  obtain ⟨μ2, eμ2⟩ : ∃ μ', μ' = pm_up μ1 125 1 (μ1 3 1) := ⟨_, rfl⟩
  rw [← eμ2]
  have hTμ2 : zTJ φ μ2 := by rw [eμ2]; exact zT_up hTμ1 zs125_1 rfl (i := 1) (by omega) (by omega) (by omega) (by omega)
  have hz := zWc_rcp (μ' := μ2) (d := (125, 1)) (s := (3, 1)) hz (by decide) (fun q hq hne => by rw [eμ2]; exact pm_upq (k := 1) (i := 1) rfl hne) (by show μ2 125 1 = μ1 3 1; rw [eμ2, pm_up_eq])
  have hv := zKF_up hv eμ2 (by decide)
  have g4 : μ2 3 2 = μ 3 2 := by rw [eμ2, pm_up_off (by decide), eμ1, pm_up_off (by decide)]
  have f5 := zT_get hTμ2 zs3_2 (i := 2) (by omega) (by omega)
  refine pm_blk hK zmm28 [] 4 24 [(2, 125), (2, 3)] [] (pm_up μ2 125 2 (μ2 3 2)) [sx_bit Wm 125 = true] rfl ⟨hb125, trivial⟩ ?_
  obtain ⟨μ3, eμ3⟩ : ∃ μ', μ' = pm_up μ2 125 2 (μ2 3 2) := ⟨_, rfl⟩
  rw [← eμ3]
  have hTμ3 : zTJ φ μ3 := by rw [eμ3]; exact zT_up hTμ2 zs125_2 rfl (i := 2) (by omega) (by omega) (by omega) (by omega)
  have hz := zWc_fr (μ' := μ3) hz (fun q hq => by rw [eμ3]; exact pm_upq (k := 2) (i := 2) rfl ((show ∀ q ∈ zRq, q ≠ (125, 2) by decide) q hq))
  have hv := zKF_up hv eμ3 (by decide)
  have g6 : μ3 3 3 = μ 3 3 := by rw [eμ3, pm_up_off (by decide), eμ2, pm_up_off (by decide), eμ1, pm_up_off (by decide)]
  have f7 := zT_get hTμ3 zs3_3 (i := 3) (by omega) (by omega)
  refine pm_blk hK zmm28 [] 4 32 [(2, 125), (2, 3)] [] (pm_up μ3 125 3 (μ3 3 3)) [sx_bit Wm 125 = true] rfl ⟨hb125, trivial⟩ ?_
  obtain ⟨μ4, eμ4⟩ : ∃ μ', μ' = pm_up μ3 125 3 (μ3 3 3) := ⟨_, rfl⟩
  rw [← eμ4]
  have hTμ4 : zTJ φ μ4 := by rw [eμ4]; exact zT_up hTμ3 zs125_3 rfl (i := 3) (by omega) (by omega) (by omega) (by omega)
  have hz := zWc_fr (μ' := μ4) hz (fun q hq => by rw [eμ4]; exact pm_upq (k := 3) (i := 3) rfl ((show ∀ q ∈ zRq, q ≠ (125, 3) by decide) q hq))
  have hv := zKF_up hv eμ4 (by decide)
  have g8 : μ4 3 4 = μ 3 4 := by rw [eμ4, pm_up_off (by decide), eμ3, pm_up_off (by decide), eμ2, pm_up_off (by decide), eμ1, pm_up_off (by decide)]
  have f9 := zT_get hTμ4 zs3_4 (i := 4) (by omega) (by omega)
  refine pm_blk hK zmm28 [] 4 40 [(2, 125), (2, 3)] [] (pm_up μ4 125 4 (μ4 3 4)) [sx_bit Wm 125 = true] rfl ⟨hb125, trivial⟩ ?_
  obtain ⟨μ5, eμ5⟩ : ∃ μ', μ' = pm_up μ4 125 4 (μ4 3 4) := ⟨_, rfl⟩
  rw [← eμ5]
  have hTμ5 : zTJ φ μ5 := by rw [eμ5]; exact zT_up hTμ4 zs125_4 rfl (i := 4) (by omega) (by omega) (by omega) (by omega)
  have hz := zWc_fr (μ' := μ5) hz (fun q hq => by rw [eμ5]; exact pm_upq (k := 4) (i := 4) rfl ((show ∀ q ∈ zRq, q ≠ (125, 4) by decide) q hq))
  have hv := zKF_up hv eμ5 (by decide)
  refine pm_blk hK zmm28 [] 4 48 [(2, 125), (2, 3)] [(2, 126), (2, 4)] μ5 [] rfl trivial ?_
  refine pm_ccall hK zmm28 hC23 hw zGm_lt zJ_loc (91, 1, 29, 2) zM29 [(2, 4), (2, 126)] [] rfl rfl rfl rfl rfl ⟨by have e : zC23.2.2.2.1 = 1 := rfl; omega, by have e : zC23.2.2.2.2.1 = 80 := rfl; rw [zn29]; omega⟩ hs23 rfl (fun t ht => by cases ht) ⟨rfl, fun h => absurd h (by decide), fun _ => rfl, rfl, fun h => absurd h (by decide), fun _ => rfl, trivial⟩ (zTy_T hw hTμ5.1) hTμ5.2 (fun st1 μc1 hp1 hTt1 hJ1 hfr1 => ?_)
  obtain rfl := hp1
  have hTc1 : zTJ φ μc1 := ⟨zTy_of hw hTt1, hJ1⟩
  have hz := zWc_fr hz (zRq_fr hfr1 (by decide +kernel))
  have hv := zKF_tr hv (zRl_fr hfr1 zRz_t (by decide +kernel))
  refine pm_blk hK zmm28 [] 4 59 [(2, 125), (2, 3)] [(2, 127), (2, 5)] μc1 [] rfl trivial ?_
  refine pm_ccall hK zmm28 hC24 hw zGm_lt zJ_loc (91, 1, 29, 2) zM29 [(2, 5), (2, 127)] [] rfl rfl rfl rfl rfl ⟨by have e : zC24.2.2.2.1 = 1 := rfl; omega, by have e : zC24.2.2.2.2.1 = 80 := rfl; rw [zn29]; omega⟩ hs24 rfl (fun t ht => by cases ht) ⟨rfl, fun h => absurd h (by decide), fun _ => rfl, rfl, fun h => absurd h (by decide), fun _ => rfl, trivial⟩ (zTy_T hw hTc1.1) hTc1.2 (fun st2 μc2 hp2 hTt2 hJ2 hfr2 => ?_)
  obtain rfl := hp2
  have hTc2 : zTJ φ μc2 := ⟨zTy_of hw hTt2, hJ2⟩
  have hz := zWc_fr hz (zRq_fr hfr2 (by decide +kernel))
  have hv := zKF_tr hv (zRl_fr hfr2 zRz_t (by decide +kernel))
  refine pm_blk hK zmm28 [] 4 70 [(2, 125), (2, 3)] [(2, 128), (2, 6)] μc2 [] rfl trivial ?_
  refine pm_ccall hK zmm28 hC25 hw zGm_lt zJ_loc (91, 1, 29, 2) zM29 [(2, 6), (2, 128)] [] rfl rfl rfl rfl rfl ⟨by have e : zC25.2.2.2.1 = 1 := rfl; omega, by have e : zC25.2.2.2.2.1 = 80 := rfl; rw [zn29]; omega⟩ hs25 rfl (fun t ht => by cases ht) ⟨rfl, fun h => absurd h (by decide), fun _ => rfl, rfl, fun h => absurd h (by decide), fun _ => rfl, trivial⟩ (zTy_T hw hTc2.1) hTc2.2 (fun st3 μc3 hp3 hTt3 hJ3 hfr3 => ?_)
  obtain rfl := hp3
  have hTc3 : zTJ φ μc3 := ⟨zTy_of hw hTt3, hJ3⟩
  have hz := zWc_fr hz (zRq_fr hfr3 (by decide +kernel))
  have hv := zKF_tr hv (zRl_fr hfr3 zRz_t (by decide +kernel))
  refine pm_blk hK zmm28 [] 4 81 [(2, 125), (2, 3)] [(2, 129), (2, 7)] μc3 [] rfl trivial ?_
  refine pm_ccall hK zmm28 hC26 hw zGm_lt zJ_loc (91, 1, 29, 2) zM29 [(2, 7), (2, 129)] [] rfl rfl rfl rfl rfl ⟨by have e : zC26.2.2.2.1 = 1 := rfl; omega, by have e : zC26.2.2.2.2.1 = 80 := rfl; rw [zn29]; omega⟩ hs26 rfl (fun t ht => by cases ht) ⟨rfl, fun h => absurd h (by decide), fun _ => rfl, rfl, fun h => absurd h (by decide), fun _ => rfl, trivial⟩ (zTy_T hw hTc3.1) hTc3.2 (fun st4 μc4 hp4 hTt4 hJ4 hfr4 => ?_)
  obtain rfl := hp4
  have hTc4 : zTJ φ μc4 := ⟨zTy_of hw hTt4, hJ4⟩
  have hz := zWc_fr hz (zRq_fr hfr4 (by decide +kernel))
  have hv := zKF_tr hv (zRl_fr hfr4 zRz_t (by decide +kernel))
  refine pm_blk hK zmm28 [] 4 92 [(2, 125), (2, 3)] [(2, 130), (2, 8)] μc4 [] rfl trivial ?_
  refine pm_ccall hK zmm28 hC27 hw zGm_lt zJ_loc (91, 1, 29, 2) zM29 [(2, 8), (2, 130)] [] rfl rfl rfl rfl rfl ⟨by have e : zC27.2.2.2.1 = 1 := rfl; omega, by have e : zC27.2.2.2.2.1 = 80 := rfl; rw [zn29]; omega⟩ hs27 rfl (fun t ht => by cases ht) ⟨rfl, fun h => absurd h (by decide), fun _ => rfl, rfl, fun h => absurd h (by decide), fun _ => rfl, trivial⟩ (zTy_T hw hTc4.1) hTc4.2 (fun st5 μc5 hp5 hTt5 hJ5 hfr5 => ?_)
  obtain rfl := hp5
  have hTc5 : zTJ φ μc5 := ⟨zTy_of hw hTt5, hJ5⟩
  have hz := zWc_fr hz (zRq_fr hfr5 (by decide +kernel))
  have hv := zKF_tr hv (zRl_fr hfr5 zRz_t (by decide +kernel))
  refine pm_blk hK zmm28 [] 4 103 [(2, 125), (2, 3)] [(2, 131), (2, 9)] μc5 [] rfl trivial ?_
  refine pm_ccall hK zmm28 hC28 hw zGm_lt zJ_loc (91, 1, 29, 2) zM29 [(2, 9), (2, 131)] [] rfl rfl rfl rfl rfl ⟨by have e : zC28.2.2.2.1 = 1 := rfl; omega, by have e : zC28.2.2.2.2.1 = 80 := rfl; rw [zn29]; omega⟩ hs28 rfl (fun t ht => by cases ht) ⟨rfl, fun h => absurd h (by decide), fun _ => rfl, rfl, fun h => absurd h (by decide), fun _ => rfl, trivial⟩ (zTy_T hw hTc5.1) hTc5.2 (fun st6 μc6 hp6 hTt6 hJ6 hfr6 => ?_)
  obtain rfl := hp6
  have hTc6 : zTJ φ μc6 := ⟨zTy_of hw hTt6, hJ6⟩
  have hz := zWc_fr hz (zRq_fr hfr6 (by decide +kernel))
  have hv := zKF_tr hv (zRl_fr hfr6 zRz_t (by decide +kernel))
  refine pm_blk hK zmm28 [] 4 114 [(2, 125), (2, 3)] [(2, 132), (2, 10)] μc6 [] rfl trivial ?_
  refine pm_ccall hK zmm28 hC17 hw zGm_lt zJ_loc (91, 1, 29, 2) zM29 [(2, 10), (2, 132)] [] rfl rfl rfl rfl rfl ⟨by have e : zC17.2.2.2.1 = 1 := rfl; omega, by have e : zC17.2.2.2.2.1 = 80 := rfl; rw [zn29]; omega⟩ hs17 rfl (fun t ht => by cases ht) ⟨rfl, fun h => absurd h (by decide), fun _ => rfl, rfl, fun h => absurd h (by decide), fun _ => rfl, trivial⟩ (zTy_T hw hTc6.1) hTc6.2 (fun st7 μc7 hp7 hTt7 hJ7 hfr7 => ?_)
  obtain rfl := hp7
  have hTc7 : zTJ φ μc7 := ⟨zTy_of hw hTt7, hJ7⟩
  have hz := zWc_fr hz (zRq_fr hfr7 (by decide +kernel))
  have hv := zKF_tr hv (zRl_fr hfr7 zRz_t (by decide +kernel))
  refine pm_blk hK zmm28 [] 4 125 [(2, 125), (2, 3)] [(2, 133), (2, 11)] μc7 [] rfl trivial ?_
  refine pm_ccall hK zmm28 hC18 hw zGm_lt zJ_loc (91, 1, 29, 2) zM29 [(2, 11), (2, 133)] [] rfl rfl rfl rfl rfl ⟨by have e : zC18.2.2.2.1 = 1 := rfl; omega, by have e : zC18.2.2.2.2.1 = 80 := rfl; rw [zn29]; omega⟩ hs18 rfl (fun t ht => by cases ht) ⟨rfl, fun h => absurd h (by decide), fun _ => rfl, rfl, fun h => absurd h (by decide), fun _ => rfl, trivial⟩ (zTy_T hw hTc7.1) hTc7.2 (fun st8 μc8 hp8 hTt8 hJ8 hfr8 => ?_)
  obtain rfl := hp8
  have hTc8 : zTJ φ μc8 := ⟨zTy_of hw hTt8, hJ8⟩
  have hz := zWc_fr hz (zRq_fr hfr8 (by decide +kernel))
  have hv := zKF_tr hv (zRl_fr hfr8 zRz_t (by decide +kernel))
  refine pm_blk hK zmm28 [] 4 136 [(2, 125), (2, 3)] [(2, 134), (2, 12)] μc8 [] rfl trivial ?_
  refine pm_ccall hK zmm28 hC19 hw zGm_lt zJ_loc (91, 1, 29, 2) zM29 [(2, 12), (2, 134)] [] rfl rfl rfl rfl rfl ⟨by have e : zC19.2.2.2.1 = 1 := rfl; omega, by have e : zC19.2.2.2.2.1 = 80 := rfl; rw [zn29]; omega⟩ hs19 rfl (fun t ht => by cases ht) ⟨rfl, fun h => absurd h (by decide), fun _ => rfl, rfl, fun h => absurd h (by decide), fun _ => rfl, trivial⟩ (zTy_T hw hTc8.1) hTc8.2 (fun st9 μc9 hp9 hTt9 hJ9 hfr9 => ?_)
  obtain rfl := hp9
  have hTc9 : zTJ φ μc9 := ⟨zTy_of hw hTt9, hJ9⟩
  have hz := zWc_fr hz (zRq_fr hfr9 (by decide +kernel))
  have hv := zKF_tr hv (zRl_fr hfr9 zRz_t (by decide +kernel))
  refine pm_blk hK zmm28 [] 4 147 [(2, 125), (2, 3)] [(2, 135), (2, 13)] μc9 [] rfl trivial ?_
  refine pm_ccall hK zmm28 hC20 hw zGm_lt zJ_loc (91, 1, 29, 2) zM29 [(2, 13), (2, 135)] [] rfl rfl rfl rfl rfl ⟨by have e : zC20.2.2.2.1 = 1 := rfl; omega, by have e : zC20.2.2.2.2.1 = 80 := rfl; rw [zn29]; omega⟩ hs20 rfl (fun t ht => by cases ht) ⟨rfl, fun h => absurd h (by decide), fun _ => rfl, rfl, fun h => absurd h (by decide), fun _ => rfl, trivial⟩ (zTy_T hw hTc9.1) hTc9.2 (fun st10 μc10 hp10 hTt10 hJ10 hfr10 => ?_)
  obtain rfl := hp10
  have hTc10 : zTJ φ μc10 := ⟨zTy_of hw hTt10, hJ10⟩
  have hz := zWc_fr hz (zRq_fr hfr10 (by decide +kernel))
  have hv := zKF_tr hv (zRl_fr hfr10 zRz_t (by decide +kernel))
  refine pm_blk hK zmm28 [] 4 158 [(2, 125), (2, 3)] [(2, 136), (2, 14)] μc10 [] rfl trivial ?_
  refine pm_ccall hK zmm28 hC21 hw zGm_lt zJ_loc (91, 1, 29, 2) zM29 [(2, 14), (2, 136)] [] rfl rfl rfl rfl rfl ⟨by have e : zC21.2.2.2.1 = 1 := rfl; omega, by have e : zC21.2.2.2.2.1 = 80 := rfl; rw [zn29]; omega⟩ hs21 rfl (fun t ht => by cases ht) ⟨rfl, fun h => absurd h (by decide), fun _ => rfl, rfl, fun h => absurd h (by decide), fun _ => rfl, trivial⟩ (zTy_T hw hTc10.1) hTc10.2 (fun st11 μc11 hp11 hTt11 hJ11 hfr11 => ?_)
  obtain rfl := hp11
  have hTc11 : zTJ φ μc11 := ⟨zTy_of hw hTt11, hJ11⟩
  have hz := zWc_fr hz (zRq_fr hfr11 (by decide +kernel))
  have hv := zKF_tr hv (zRl_fr hfr11 zRz_t (by decide +kernel))
  refine pm_blk hK zmm28 [] 4 169 [(2, 125), (2, 3)] [(2, 137), (2, 15)] μc11 [] rfl trivial ?_
  refine pm_ccall hK zmm28 hC22 hw zGm_lt zJ_loc (91, 1, 29, 2) zM29 [(2, 15), (2, 137)] [] rfl rfl rfl rfl rfl ⟨by have e : zC22.2.2.2.1 = 1 := rfl; omega, by have e : zC22.2.2.2.2.1 = 80 := rfl; rw [zn29]; omega⟩ hs22 rfl (fun t ht => by cases ht) ⟨rfl, fun h => absurd h (by decide), fun _ => rfl, rfl, fun h => absurd h (by decide), fun _ => rfl, trivial⟩ (zTy_T hw hTc11.1) hTc11.2 (fun st12 μc12 hp12 hTt12 hJ12 hfr12 => ?_)
  obtain rfl := hp12
  have hTc12 : zTJ φ μc12 := ⟨zTy_of hw hTt12, hJ12⟩
  have hz := zWc_fr hz (zRq_fr hfr12 (by decide +kernel))
  have hv := zKF_tr hv (zRl_fr hfr12 zRz_t (by decide +kernel))
  exact pm_vret rfl rfl ⟨rfl, hTc12, zWc_eq hz (by decide), hv⟩
set_option maxRecDepth 100000 in
theorem zh_ac138_3 (hK : zKK ST) (hw : sx_Wd zNR zRT2 B0 Sg) (hC30 : zCK φ D ST B0 l Sg zC30) (hs30 : sx_subm zC30.2.2.2.2.2 Wm = true) (hC31 : zCK φ D ST B0 l Sg zC31) (hs31 : sx_subm zC31.2.2.2.2.2 Wm = true) (hC32 : zCK φ D ST B0 l Sg zC32) (hs32 : sx_subm zC32.2.2.2.2.2 Wm = true) (hC33 : zCK φ D ST B0 l Sg zC33) (hs33 : sx_subm zC33.2.2.2.2.2 Wm = true) (hC34 : zCK φ D ST B0 l Sg zC34) (hs34 : sx_subm zC34.2.2.2.2.2 Wm = true) (hC35 : zCK φ D ST B0 l Sg zC35) (hs35 : sx_subm zC35.2.2.2.2.2 Wm = true) (hC36 : zCK φ D ST B0 l Sg zC36) (hs36 : sx_subm zC36.2.2.2.2.2 Wm = true) (hC37 : zCK φ D ST B0 l Sg zC37) (hs37 : sx_subm zC37.2.2.2.2.2 Wm = true) (hC38 : zCK φ D ST B0 l Sg zC38) (hs38 : sx_subm zC38.2.2.2.2.2 Wm = true) (hC39 : zCK φ D ST B0 l Sg zC39) (hs39 : sx_subm zC39.2.2.2.2.2 Wm = true) (hC40 : zCK φ D ST B0 l Sg zC40) (hs40 : sx_subm zC40.2.2.2.2.2 Wm = true) (hC41 : zCK φ D ST B0 l Sg zC41) (hs41 : sx_subm zC41.2.2.2.2.2 Wm = true) (hT : zTJ φ μ) (hb138 : sx_bit Wm 138 = true) (hbd : 2 ≤ bud.1 ∧ 101 ≤ bud.2.1) : zC D Wm ST (sx_bW zRT2 Wm B0 Sg, J) l Sg zM28 bud [(2, 138), (2, 3)] μ (fun st' μ' => st' = [] ∧ zTJ φ μ' ∧ zWc (zsw 138 3) μ μ' ∧ zKF μ μ') := by
  have hz : zWc (fun q => q) μ μ := fun _ _ => rfl
  have hv : zKF μ μ := zKF_refl
  have f1 := zT_get hT zs3_0 (i := 0) (by omega) (by omega)
  refine pm_blk hK zmm28 [] 4 8 [(2, 138), (2, 3)] [] (pm_up μ 138 0 (μ 3 0)) [sx_bit Wm 138 = true] rfl ⟨hb138, trivial⟩ ?_
  obtain ⟨μ1, eμ1⟩ : ∃ μ', μ' = pm_up μ 138 0 (μ 3 0) := ⟨_, rfl⟩
  rw [← eμ1]
  have hTμ1 : zTJ φ μ1 := by rw [eμ1]; exact zT_up hT zs138_0 rfl (i := 0) (by omega) (by omega) (by omega) (by omega)
  have hz := zWc_rcp (μ' := μ1) (d := (138, 0)) (s := (3, 0)) hz (by decide) (fun q hq hne => by rw [eμ1]; exact pm_upq (k := 0) (i := 0) rfl hne) (by show μ1 138 0 = μ 3 0; rw [eμ1, pm_up_eq])
  have hv := zKF_up hv eμ1 (by decide)
  have g2 : μ1 3 1 = μ 3 1 := by rw [eμ1, pm_up_off (by decide)]
  have f3 := zT_get hTμ1 zs3_1 (i := 1) (by omega) (by omega)
  refine pm_blk hK zmm28 [] 4 16 [(2, 138), (2, 3)] [] (pm_up μ1 138 1 (μ1 3 1)) [sx_bit Wm 138 = true] rfl ⟨hb138, trivial⟩ ?_
  obtain ⟨μ2, eμ2⟩ : ∃ μ', μ' = pm_up μ1 138 1 (μ1 3 1) := ⟨_, rfl⟩
  rw [← eμ2]
  have hTμ2 : zTJ φ μ2 := by rw [eμ2]; exact zT_up hTμ1 zs138_1 rfl (i := 1) (by omega) (by omega) (by omega) (by omega)
  have hz := zWc_rcp (μ' := μ2) (d := (138, 1)) (s := (3, 1)) hz (by decide) (fun q hq hne => by rw [eμ2]; exact pm_upq (k := 1) (i := 1) rfl hne) (by show μ2 138 1 = μ1 3 1; rw [eμ2, pm_up_eq])
  have hv := zKF_up hv eμ2 (by decide)
  have g4 : μ2 3 2 = μ 3 2 := by rw [eμ2, pm_up_off (by decide), eμ1, pm_up_off (by decide)]
  have f5 := zT_get hTμ2 zs3_2 (i := 2) (by omega) (by omega)
  refine pm_blk hK zmm28 [] 4 24 [(2, 138), (2, 3)] [] (pm_up μ2 138 2 (μ2 3 2)) [sx_bit Wm 138 = true] rfl ⟨hb138, trivial⟩ ?_
  obtain ⟨μ3, eμ3⟩ : ∃ μ', μ' = pm_up μ2 138 2 (μ2 3 2) := ⟨_, rfl⟩
  rw [← eμ3]
  have hTμ3 : zTJ φ μ3 := by rw [eμ3]; exact zT_up hTμ2 zs138_2 rfl (i := 2) (by omega) (by omega) (by omega) (by omega)
  have hz := zWc_fr (μ' := μ3) hz (fun q hq => by rw [eμ3]; exact pm_upq (k := 2) (i := 2) rfl ((show ∀ q ∈ zRq, q ≠ (138, 2) by decide) q hq))
  have hv := zKF_up hv eμ3 (by decide)
  have g6 : μ3 3 3 = μ 3 3 := by rw [eμ3, pm_up_off (by decide), eμ2, pm_up_off (by decide), eμ1, pm_up_off (by decide)]
  have f7 := zT_get hTμ3 zs3_3 (i := 3) (by omega) (by omega)
  refine pm_blk hK zmm28 [] 4 32 [(2, 138), (2, 3)] [] (pm_up μ3 138 3 (μ3 3 3)) [sx_bit Wm 138 = true] rfl ⟨hb138, trivial⟩ ?_
  obtain ⟨μ4, eμ4⟩ : ∃ μ', μ' = pm_up μ3 138 3 (μ3 3 3) := ⟨_, rfl⟩
  rw [← eμ4]
  have hTμ4 : zTJ φ μ4 := by rw [eμ4]; exact zT_up hTμ3 zs138_3 rfl (i := 3) (by omega) (by omega) (by omega) (by omega)
  have hz := zWc_fr (μ' := μ4) hz (fun q hq => by rw [eμ4]; exact pm_upq (k := 3) (i := 3) rfl ((show ∀ q ∈ zRq, q ≠ (138, 3) by decide) q hq))
  have hv := zKF_up hv eμ4 (by decide)
  have g8 : μ4 3 4 = μ 3 4 := by rw [eμ4, pm_up_off (by decide), eμ3, pm_up_off (by decide), eμ2, pm_up_off (by decide), eμ1, pm_up_off (by decide)]
  have f9 := zT_get hTμ4 zs3_4 (i := 4) (by omega) (by omega)
  refine pm_blk hK zmm28 [] 4 40 [(2, 138), (2, 3)] [] (pm_up μ4 138 4 (μ4 3 4)) [sx_bit Wm 138 = true] rfl ⟨hb138, trivial⟩ ?_
  obtain ⟨μ5, eμ5⟩ : ∃ μ', μ' = pm_up μ4 138 4 (μ4 3 4) := ⟨_, rfl⟩
  rw [← eμ5]
  have hTμ5 : zTJ φ μ5 := by rw [eμ5]; exact zT_up hTμ4 zs138_4 rfl (i := 4) (by omega) (by omega) (by omega) (by omega)
  have hz := zWc_fr (μ' := μ5) hz (fun q hq => by rw [eμ5]; exact pm_upq (k := 4) (i := 4) rfl ((show ∀ q ∈ zRq, q ≠ (138, 4) by decide) q hq))
  have hv := zKF_up hv eμ5 (by decide)
  refine pm_blk hK zmm28 [] 4 48 [(2, 138), (2, 3)] [(2, 139), (2, 4)] μ5 [] rfl trivial ?_
  refine pm_ccall hK zmm28 hC36 hw zGm_lt zJ_loc (91, 1, 29, 2) zM29 [(2, 4), (2, 139)] [] rfl rfl rfl rfl rfl ⟨by have e : zC36.2.2.2.1 = 1 := rfl; omega, by have e : zC36.2.2.2.2.1 = 80 := rfl; rw [zn29]; omega⟩ hs36 rfl (fun t ht => by cases ht) ⟨rfl, fun h => absurd h (by decide), fun _ => rfl, rfl, fun h => absurd h (by decide), fun _ => rfl, trivial⟩ (zTy_T hw hTμ5.1) hTμ5.2 (fun st1 μc1 hp1 hTt1 hJ1 hfr1 => ?_)
  obtain rfl := hp1
  have hTc1 : zTJ φ μc1 := ⟨zTy_of hw hTt1, hJ1⟩
  have hz := zWc_fr hz (zRq_fr hfr1 (by decide +kernel))
  have hv := zKF_tr hv (zRl_fr hfr1 zRz_t (by decide +kernel))
  refine pm_blk hK zmm28 [] 4 59 [(2, 138), (2, 3)] [(2, 140), (2, 5)] μc1 [] rfl trivial ?_
  refine pm_ccall hK zmm28 hC37 hw zGm_lt zJ_loc (91, 1, 29, 2) zM29 [(2, 5), (2, 140)] [] rfl rfl rfl rfl rfl ⟨by have e : zC37.2.2.2.1 = 1 := rfl; omega, by have e : zC37.2.2.2.2.1 = 80 := rfl; rw [zn29]; omega⟩ hs37 rfl (fun t ht => by cases ht) ⟨rfl, fun h => absurd h (by decide), fun _ => rfl, rfl, fun h => absurd h (by decide), fun _ => rfl, trivial⟩ (zTy_T hw hTc1.1) hTc1.2 (fun st2 μc2 hp2 hTt2 hJ2 hfr2 => ?_)
  obtain rfl := hp2
  have hTc2 : zTJ φ μc2 := ⟨zTy_of hw hTt2, hJ2⟩
  have hz := zWc_fr hz (zRq_fr hfr2 (by decide +kernel))
  have hv := zKF_tr hv (zRl_fr hfr2 zRz_t (by decide +kernel))
  refine pm_blk hK zmm28 [] 4 70 [(2, 138), (2, 3)] [(2, 141), (2, 6)] μc2 [] rfl trivial ?_
  refine pm_ccall hK zmm28 hC38 hw zGm_lt zJ_loc (91, 1, 29, 2) zM29 [(2, 6), (2, 141)] [] rfl rfl rfl rfl rfl ⟨by have e : zC38.2.2.2.1 = 1 := rfl; omega, by have e : zC38.2.2.2.2.1 = 80 := rfl; rw [zn29]; omega⟩ hs38 rfl (fun t ht => by cases ht) ⟨rfl, fun h => absurd h (by decide), fun _ => rfl, rfl, fun h => absurd h (by decide), fun _ => rfl, trivial⟩ (zTy_T hw hTc2.1) hTc2.2 (fun st3 μc3 hp3 hTt3 hJ3 hfr3 => ?_)
  obtain rfl := hp3
  have hTc3 : zTJ φ μc3 := ⟨zTy_of hw hTt3, hJ3⟩
  have hz := zWc_fr hz (zRq_fr hfr3 (by decide +kernel))
  have hv := zKF_tr hv (zRl_fr hfr3 zRz_t (by decide +kernel))
  refine pm_blk hK zmm28 [] 4 81 [(2, 138), (2, 3)] [(2, 142), (2, 7)] μc3 [] rfl trivial ?_
  refine pm_ccall hK zmm28 hC39 hw zGm_lt zJ_loc (91, 1, 29, 2) zM29 [(2, 7), (2, 142)] [] rfl rfl rfl rfl rfl ⟨by have e : zC39.2.2.2.1 = 1 := rfl; omega, by have e : zC39.2.2.2.2.1 = 80 := rfl; rw [zn29]; omega⟩ hs39 rfl (fun t ht => by cases ht) ⟨rfl, fun h => absurd h (by decide), fun _ => rfl, rfl, fun h => absurd h (by decide), fun _ => rfl, trivial⟩ (zTy_T hw hTc3.1) hTc3.2 (fun st4 μc4 hp4 hTt4 hJ4 hfr4 => ?_)
  obtain rfl := hp4
  have hTc4 : zTJ φ μc4 := ⟨zTy_of hw hTt4, hJ4⟩
  have hz := zWc_fr hz (zRq_fr hfr4 (by decide +kernel))
  have hv := zKF_tr hv (zRl_fr hfr4 zRz_t (by decide +kernel))
  refine pm_blk hK zmm28 [] 4 92 [(2, 138), (2, 3)] [(2, 143), (2, 8)] μc4 [] rfl trivial ?_
  refine pm_ccall hK zmm28 hC40 hw zGm_lt zJ_loc (91, 1, 29, 2) zM29 [(2, 8), (2, 143)] [] rfl rfl rfl rfl rfl ⟨by have e : zC40.2.2.2.1 = 1 := rfl; omega, by have e : zC40.2.2.2.2.1 = 80 := rfl; rw [zn29]; omega⟩ hs40 rfl (fun t ht => by cases ht) ⟨rfl, fun h => absurd h (by decide), fun _ => rfl, rfl, fun h => absurd h (by decide), fun _ => rfl, trivial⟩ (zTy_T hw hTc4.1) hTc4.2 (fun st5 μc5 hp5 hTt5 hJ5 hfr5 => ?_)
  obtain rfl := hp5
  have hTc5 : zTJ φ μc5 := ⟨zTy_of hw hTt5, hJ5⟩
  have hz := zWc_fr hz (zRq_fr hfr5 (by decide +kernel))
  have hv := zKF_tr hv (zRl_fr hfr5 zRz_t (by decide +kernel))
  refine pm_blk hK zmm28 [] 4 103 [(2, 138), (2, 3)] [(2, 144), (2, 9)] μc5 [] rfl trivial ?_
  refine pm_ccall hK zmm28 hC41 hw zGm_lt zJ_loc (91, 1, 29, 2) zM29 [(2, 9), (2, 144)] [] rfl rfl rfl rfl rfl ⟨by have e : zC41.2.2.2.1 = 1 := rfl; omega, by have e : zC41.2.2.2.2.1 = 80 := rfl; rw [zn29]; omega⟩ hs41 rfl (fun t ht => by cases ht) ⟨rfl, fun h => absurd h (by decide), fun _ => rfl, rfl, fun h => absurd h (by decide), fun _ => rfl, trivial⟩ (zTy_T hw hTc5.1) hTc5.2 (fun st6 μc6 hp6 hTt6 hJ6 hfr6 => ?_)
  obtain rfl := hp6
  have hTc6 : zTJ φ μc6 := ⟨zTy_of hw hTt6, hJ6⟩
  have hz := zWc_fr hz (zRq_fr hfr6 (by decide +kernel))
  have hv := zKF_tr hv (zRl_fr hfr6 zRz_t (by decide +kernel))
  refine pm_blk hK zmm28 [] 4 114 [(2, 138), (2, 3)] [(2, 145), (2, 10)] μc6 [] rfl trivial ?_
  refine pm_ccall hK zmm28 hC30 hw zGm_lt zJ_loc (91, 1, 29, 2) zM29 [(2, 10), (2, 145)] [] rfl rfl rfl rfl rfl ⟨by have e : zC30.2.2.2.1 = 1 := rfl; omega, by have e : zC30.2.2.2.2.1 = 80 := rfl; rw [zn29]; omega⟩ hs30 rfl (fun t ht => by cases ht) ⟨rfl, fun h => absurd h (by decide), fun _ => rfl, rfl, fun h => absurd h (by decide), fun _ => rfl, trivial⟩ (zTy_T hw hTc6.1) hTc6.2 (fun st7 μc7 hp7 hTt7 hJ7 hfr7 => ?_)
  obtain rfl := hp7
  have hTc7 : zTJ φ μc7 := ⟨zTy_of hw hTt7, hJ7⟩
  have hz := zWc_fr hz (zRq_fr hfr7 (by decide +kernel))
  have hv := zKF_tr hv (zRl_fr hfr7 zRz_t (by decide +kernel))
  refine pm_blk hK zmm28 [] 4 125 [(2, 138), (2, 3)] [(2, 146), (2, 11)] μc7 [] rfl trivial ?_
  refine pm_ccall hK zmm28 hC31 hw zGm_lt zJ_loc (91, 1, 29, 2) zM29 [(2, 11), (2, 146)] [] rfl rfl rfl rfl rfl ⟨by have e : zC31.2.2.2.1 = 1 := rfl; omega, by have e : zC31.2.2.2.2.1 = 80 := rfl; rw [zn29]; omega⟩ hs31 rfl (fun t ht => by cases ht) ⟨rfl, fun h => absurd h (by decide), fun _ => rfl, rfl, fun h => absurd h (by decide), fun _ => rfl, trivial⟩ (zTy_T hw hTc7.1) hTc7.2 (fun st8 μc8 hp8 hTt8 hJ8 hfr8 => ?_)
  obtain rfl := hp8
  have hTc8 : zTJ φ μc8 := ⟨zTy_of hw hTt8, hJ8⟩
  have hz := zWc_fr hz (zRq_fr hfr8 (by decide +kernel))
  have hv := zKF_tr hv (zRl_fr hfr8 zRz_t (by decide +kernel))
  refine pm_blk hK zmm28 [] 4 136 [(2, 138), (2, 3)] [(2, 147), (2, 12)] μc8 [] rfl trivial ?_
  refine pm_ccall hK zmm28 hC32 hw zGm_lt zJ_loc (91, 1, 29, 2) zM29 [(2, 12), (2, 147)] [] rfl rfl rfl rfl rfl ⟨by have e : zC32.2.2.2.1 = 1 := rfl; omega, by have e : zC32.2.2.2.2.1 = 80 := rfl; rw [zn29]; omega⟩ hs32 rfl (fun t ht => by cases ht) ⟨rfl, fun h => absurd h (by decide), fun _ => rfl, rfl, fun h => absurd h (by decide), fun _ => rfl, trivial⟩ (zTy_T hw hTc8.1) hTc8.2 (fun st9 μc9 hp9 hTt9 hJ9 hfr9 => ?_)
  obtain rfl := hp9
  have hTc9 : zTJ φ μc9 := ⟨zTy_of hw hTt9, hJ9⟩
  have hz := zWc_fr hz (zRq_fr hfr9 (by decide +kernel))
  have hv := zKF_tr hv (zRl_fr hfr9 zRz_t (by decide +kernel))
  refine pm_blk hK zmm28 [] 4 147 [(2, 138), (2, 3)] [(2, 148), (2, 13)] μc9 [] rfl trivial ?_
  refine pm_ccall hK zmm28 hC33 hw zGm_lt zJ_loc (91, 1, 29, 2) zM29 [(2, 13), (2, 148)] [] rfl rfl rfl rfl rfl ⟨by have e : zC33.2.2.2.1 = 1 := rfl; omega, by have e : zC33.2.2.2.2.1 = 80 := rfl; rw [zn29]; omega⟩ hs33 rfl (fun t ht => by cases ht) ⟨rfl, fun h => absurd h (by decide), fun _ => rfl, rfl, fun h => absurd h (by decide), fun _ => rfl, trivial⟩ (zTy_T hw hTc9.1) hTc9.2 (fun st10 μc10 hp10 hTt10 hJ10 hfr10 => ?_)
  obtain rfl := hp10
  have hTc10 : zTJ φ μc10 := ⟨zTy_of hw hTt10, hJ10⟩
  have hz := zWc_fr hz (zRq_fr hfr10 (by decide +kernel))
  have hv := zKF_tr hv (zRl_fr hfr10 zRz_t (by decide +kernel))
  refine pm_blk hK zmm28 [] 4 158 [(2, 138), (2, 3)] [(2, 149), (2, 14)] μc10 [] rfl trivial ?_
  refine pm_ccall hK zmm28 hC34 hw zGm_lt zJ_loc (91, 1, 29, 2) zM29 [(2, 14), (2, 149)] [] rfl rfl rfl rfl rfl ⟨by have e : zC34.2.2.2.1 = 1 := rfl; omega, by have e : zC34.2.2.2.2.1 = 80 := rfl; rw [zn29]; omega⟩ hs34 rfl (fun t ht => by cases ht) ⟨rfl, fun h => absurd h (by decide), fun _ => rfl, rfl, fun h => absurd h (by decide), fun _ => rfl, trivial⟩ (zTy_T hw hTc10.1) hTc10.2 (fun st11 μc11 hp11 hTt11 hJ11 hfr11 => ?_)
  obtain rfl := hp11
  have hTc11 : zTJ φ μc11 := ⟨zTy_of hw hTt11, hJ11⟩
  have hz := zWc_fr hz (zRq_fr hfr11 (by decide +kernel))
  have hv := zKF_tr hv (zRl_fr hfr11 zRz_t (by decide +kernel))
  refine pm_blk hK zmm28 [] 4 169 [(2, 138), (2, 3)] [(2, 150), (2, 15)] μc11 [] rfl trivial ?_
  refine pm_ccall hK zmm28 hC35 hw zGm_lt zJ_loc (91, 1, 29, 2) zM29 [(2, 15), (2, 150)] [] rfl rfl rfl rfl rfl ⟨by have e : zC35.2.2.2.1 = 1 := rfl; omega, by have e : zC35.2.2.2.2.1 = 80 := rfl; rw [zn29]; omega⟩ hs35 rfl (fun t ht => by cases ht) ⟨rfl, fun h => absurd h (by decide), fun _ => rfl, rfl, fun h => absurd h (by decide), fun _ => rfl, trivial⟩ (zTy_T hw hTc11.1) hTc11.2 (fun st12 μc12 hp12 hTt12 hJ12 hfr12 => ?_)
  obtain rfl := hp12
  have hTc12 : zTJ φ μc12 := ⟨zTy_of hw hTt12, hJ12⟩
  have hz := zWc_fr hz (zRq_fr hfr12 (by decide +kernel))
  have hv := zKF_tr hv (zRl_fr hfr12 zRz_t (by decide +kernel))
  exact pm_vret rfl rfl ⟨rfl, hTc12, zWc_eq hz (by decide), hv⟩
set_option maxRecDepth 100000 in
theorem zh_ac151_3 (hK : zKK ST) (hw : sx_Wd zNR zRT2 B0 Sg) (hC43 : zCK φ D ST B0 l Sg zC43) (hs43 : sx_subm zC43.2.2.2.2.2 Wm = true) (hC44 : zCK φ D ST B0 l Sg zC44) (hs44 : sx_subm zC44.2.2.2.2.2 Wm = true) (hC45 : zCK φ D ST B0 l Sg zC45) (hs45 : sx_subm zC45.2.2.2.2.2 Wm = true) (hC46 : zCK φ D ST B0 l Sg zC46) (hs46 : sx_subm zC46.2.2.2.2.2 Wm = true) (hC47 : zCK φ D ST B0 l Sg zC47) (hs47 : sx_subm zC47.2.2.2.2.2 Wm = true) (hC48 : zCK φ D ST B0 l Sg zC48) (hs48 : sx_subm zC48.2.2.2.2.2 Wm = true) (hC49 : zCK φ D ST B0 l Sg zC49) (hs49 : sx_subm zC49.2.2.2.2.2 Wm = true) (hC50 : zCK φ D ST B0 l Sg zC50) (hs50 : sx_subm zC50.2.2.2.2.2 Wm = true) (hC51 : zCK φ D ST B0 l Sg zC51) (hs51 : sx_subm zC51.2.2.2.2.2 Wm = true) (hC52 : zCK φ D ST B0 l Sg zC52) (hs52 : sx_subm zC52.2.2.2.2.2 Wm = true) (hC53 : zCK φ D ST B0 l Sg zC53) (hs53 : sx_subm zC53.2.2.2.2.2 Wm = true) (hC54 : zCK φ D ST B0 l Sg zC54) (hs54 : sx_subm zC54.2.2.2.2.2 Wm = true) (hT : zTJ φ μ) (hb151 : sx_bit Wm 151 = true) (hbd : 2 ≤ bud.1 ∧ 101 ≤ bud.2.1) : zC D Wm ST (sx_bW zRT2 Wm B0 Sg, J) l Sg zM28 bud [(2, 151), (2, 3)] μ (fun st' μ' => st' = [] ∧ zTJ φ μ' ∧ zWc (zsw 151 3) μ μ' ∧ zKF μ μ') := by
  have hz : zWc (fun q => q) μ μ := fun _ _ => rfl
  have hv : zKF μ μ := zKF_refl
  have f1 := zT_get hT zs3_0 (i := 0) (by omega) (by omega)
  refine pm_blk hK zmm28 [] 4 8 [(2, 151), (2, 3)] [] (pm_up μ 151 0 (μ 3 0)) [sx_bit Wm 151 = true] rfl ⟨hb151, trivial⟩ ?_
  obtain ⟨μ1, eμ1⟩ : ∃ μ', μ' = pm_up μ 151 0 (μ 3 0) := ⟨_, rfl⟩
  rw [← eμ1]
  have hTμ1 : zTJ φ μ1 := by rw [eμ1]; exact zT_up hT zs151_0 rfl (i := 0) (by omega) (by omega) (by omega) (by omega)
  have hz := zWc_rcp (μ' := μ1) (d := (151, 0)) (s := (3, 0)) hz (by decide) (fun q hq hne => by rw [eμ1]; exact pm_upq (k := 0) (i := 0) rfl hne) (by show μ1 151 0 = μ 3 0; rw [eμ1, pm_up_eq])
  have hv := zKF_up hv eμ1 (by decide)
  have g2 : μ1 3 1 = μ 3 1 := by rw [eμ1, pm_up_off (by decide)]
  have f3 := zT_get hTμ1 zs3_1 (i := 1) (by omega) (by omega)
  refine pm_blk hK zmm28 [] 4 16 [(2, 151), (2, 3)] [] (pm_up μ1 151 1 (μ1 3 1)) [sx_bit Wm 151 = true] rfl ⟨hb151, trivial⟩ ?_
  obtain ⟨μ2, eμ2⟩ : ∃ μ', μ' = pm_up μ1 151 1 (μ1 3 1) := ⟨_, rfl⟩
  rw [← eμ2]
  have hTμ2 : zTJ φ μ2 := by rw [eμ2]; exact zT_up hTμ1 zs151_1 rfl (i := 1) (by omega) (by omega) (by omega) (by omega)
  have hz := zWc_rcp (μ' := μ2) (d := (151, 1)) (s := (3, 1)) hz (by decide) (fun q hq hne => by rw [eμ2]; exact pm_upq (k := 1) (i := 1) rfl hne) (by show μ2 151 1 = μ1 3 1; rw [eμ2, pm_up_eq])
  have hv := zKF_up hv eμ2 (by decide)
  have g4 : μ2 3 2 = μ 3 2 := by rw [eμ2, pm_up_off (by decide), eμ1, pm_up_off (by decide)]
  have f5 := zT_get hTμ2 zs3_2 (i := 2) (by omega) (by omega)
  refine pm_blk hK zmm28 [] 4 24 [(2, 151), (2, 3)] [] (pm_up μ2 151 2 (μ2 3 2)) [sx_bit Wm 151 = true] rfl ⟨hb151, trivial⟩ ?_
  obtain ⟨μ3, eμ3⟩ : ∃ μ', μ' = pm_up μ2 151 2 (μ2 3 2) := ⟨_, rfl⟩
  rw [← eμ3]
  have hTμ3 : zTJ φ μ3 := by rw [eμ3]; exact zT_up hTμ2 zs151_2 rfl (i := 2) (by omega) (by omega) (by omega) (by omega)
  have hz := zWc_fr (μ' := μ3) hz (fun q hq => by rw [eμ3]; exact pm_upq (k := 2) (i := 2) rfl ((show ∀ q ∈ zRq, q ≠ (151, 2) by decide) q hq))
  have hv := zKF_up hv eμ3 (by decide)
  have g6 : μ3 3 3 = μ 3 3 := by rw [eμ3, pm_up_off (by decide), eμ2, pm_up_off (by decide), eμ1, pm_up_off (by decide)]
  have f7 := zT_get hTμ3 zs3_3 (i := 3) (by omega) (by omega)
  refine pm_blk hK zmm28 [] 4 32 [(2, 151), (2, 3)] [] (pm_up μ3 151 3 (μ3 3 3)) [sx_bit Wm 151 = true] rfl ⟨hb151, trivial⟩ ?_
  obtain ⟨μ4, eμ4⟩ : ∃ μ', μ' = pm_up μ3 151 3 (μ3 3 3) := ⟨_, rfl⟩
  rw [← eμ4]
  have hTμ4 : zTJ φ μ4 := by rw [eμ4]; exact zT_up hTμ3 zs151_3 rfl (i := 3) (by omega) (by omega) (by omega) (by omega)
  have hz := zWc_fr (μ' := μ4) hz (fun q hq => by rw [eμ4]; exact pm_upq (k := 3) (i := 3) rfl ((show ∀ q ∈ zRq, q ≠ (151, 3) by decide) q hq))
  have hv := zKF_up hv eμ4 (by decide)
  have g8 : μ4 3 4 = μ 3 4 := by rw [eμ4, pm_up_off (by decide), eμ3, pm_up_off (by decide), eμ2, pm_up_off (by decide), eμ1, pm_up_off (by decide)]
  have f9 := zT_get hTμ4 zs3_4 (i := 4) (by omega) (by omega)
  refine pm_blk hK zmm28 [] 4 40 [(2, 151), (2, 3)] [] (pm_up μ4 151 4 (μ4 3 4)) [sx_bit Wm 151 = true] rfl ⟨hb151, trivial⟩ ?_
  obtain ⟨μ5, eμ5⟩ : ∃ μ', μ' = pm_up μ4 151 4 (μ4 3 4) := ⟨_, rfl⟩
  rw [← eμ5]
  have hTμ5 : zTJ φ μ5 := by rw [eμ5]; exact zT_up hTμ4 zs151_4 rfl (i := 4) (by omega) (by omega) (by omega) (by omega)
  have hz := zWc_fr (μ' := μ5) hz (fun q hq => by rw [eμ5]; exact pm_upq (k := 4) (i := 4) rfl ((show ∀ q ∈ zRq, q ≠ (151, 4) by decide) q hq))
  have hv := zKF_up hv eμ5 (by decide)
  refine pm_blk hK zmm28 [] 4 48 [(2, 151), (2, 3)] [(2, 152), (2, 4)] μ5 [] rfl trivial ?_
  refine pm_ccall hK zmm28 hC49 hw zGm_lt zJ_loc (91, 1, 29, 2) zM29 [(2, 4), (2, 152)] [] rfl rfl rfl rfl rfl ⟨by have e : zC49.2.2.2.1 = 1 := rfl; omega, by have e : zC49.2.2.2.2.1 = 80 := rfl; rw [zn29]; omega⟩ hs49 rfl (fun t ht => by cases ht) ⟨rfl, fun h => absurd h (by decide), fun _ => rfl, rfl, fun h => absurd h (by decide), fun _ => rfl, trivial⟩ (zTy_T hw hTμ5.1) hTμ5.2 (fun st1 μc1 hp1 hTt1 hJ1 hfr1 => ?_)
  obtain rfl := hp1
  have hTc1 : zTJ φ μc1 := ⟨zTy_of hw hTt1, hJ1⟩
  have hz := zWc_fr hz (zRq_fr hfr1 (by decide +kernel))
  have hv := zKF_tr hv (zRl_fr hfr1 zRz_t (by decide +kernel))
  refine pm_blk hK zmm28 [] 4 59 [(2, 151), (2, 3)] [(2, 153), (2, 5)] μc1 [] rfl trivial ?_
  refine pm_ccall hK zmm28 hC50 hw zGm_lt zJ_loc (91, 1, 29, 2) zM29 [(2, 5), (2, 153)] [] rfl rfl rfl rfl rfl ⟨by have e : zC50.2.2.2.1 = 1 := rfl; omega, by have e : zC50.2.2.2.2.1 = 80 := rfl; rw [zn29]; omega⟩ hs50 rfl (fun t ht => by cases ht) ⟨rfl, fun h => absurd h (by decide), fun _ => rfl, rfl, fun h => absurd h (by decide), fun _ => rfl, trivial⟩ (zTy_T hw hTc1.1) hTc1.2 (fun st2 μc2 hp2 hTt2 hJ2 hfr2 => ?_)
  obtain rfl := hp2
  have hTc2 : zTJ φ μc2 := ⟨zTy_of hw hTt2, hJ2⟩
  have hz := zWc_fr hz (zRq_fr hfr2 (by decide +kernel))
  have hv := zKF_tr hv (zRl_fr hfr2 zRz_t (by decide +kernel))
  refine pm_blk hK zmm28 [] 4 70 [(2, 151), (2, 3)] [(2, 154), (2, 6)] μc2 [] rfl trivial ?_
  refine pm_ccall hK zmm28 hC51 hw zGm_lt zJ_loc (91, 1, 29, 2) zM29 [(2, 6), (2, 154)] [] rfl rfl rfl rfl rfl ⟨by have e : zC51.2.2.2.1 = 1 := rfl; omega, by have e : zC51.2.2.2.2.1 = 80 := rfl; rw [zn29]; omega⟩ hs51 rfl (fun t ht => by cases ht) ⟨rfl, fun h => absurd h (by decide), fun _ => rfl, rfl, fun h => absurd h (by decide), fun _ => rfl, trivial⟩ (zTy_T hw hTc2.1) hTc2.2 (fun st3 μc3 hp3 hTt3 hJ3 hfr3 => ?_)
  obtain rfl := hp3
  have hTc3 : zTJ φ μc3 := ⟨zTy_of hw hTt3, hJ3⟩
  have hz := zWc_fr hz (zRq_fr hfr3 (by decide +kernel))
  have hv := zKF_tr hv (zRl_fr hfr3 zRz_t (by decide +kernel))
  refine pm_blk hK zmm28 [] 4 81 [(2, 151), (2, 3)] [(2, 155), (2, 7)] μc3 [] rfl trivial ?_
  refine pm_ccall hK zmm28 hC52 hw zGm_lt zJ_loc (91, 1, 29, 2) zM29 [(2, 7), (2, 155)] [] rfl rfl rfl rfl rfl ⟨by have e : zC52.2.2.2.1 = 1 := rfl; omega, by have e : zC52.2.2.2.2.1 = 80 := rfl; rw [zn29]; omega⟩ hs52 rfl (fun t ht => by cases ht) ⟨rfl, fun h => absurd h (by decide), fun _ => rfl, rfl, fun h => absurd h (by decide), fun _ => rfl, trivial⟩ (zTy_T hw hTc3.1) hTc3.2 (fun st4 μc4 hp4 hTt4 hJ4 hfr4 => ?_)
  obtain rfl := hp4
  have hTc4 : zTJ φ μc4 := ⟨zTy_of hw hTt4, hJ4⟩
  have hz := zWc_fr hz (zRq_fr hfr4 (by decide +kernel))
  have hv := zKF_tr hv (zRl_fr hfr4 zRz_t (by decide +kernel))
  refine pm_blk hK zmm28 [] 4 92 [(2, 151), (2, 3)] [(2, 156), (2, 8)] μc4 [] rfl trivial ?_
  refine pm_ccall hK zmm28 hC53 hw zGm_lt zJ_loc (91, 1, 29, 2) zM29 [(2, 8), (2, 156)] [] rfl rfl rfl rfl rfl ⟨by have e : zC53.2.2.2.1 = 1 := rfl; omega, by have e : zC53.2.2.2.2.1 = 80 := rfl; rw [zn29]; omega⟩ hs53 rfl (fun t ht => by cases ht) ⟨rfl, fun h => absurd h (by decide), fun _ => rfl, rfl, fun h => absurd h (by decide), fun _ => rfl, trivial⟩ (zTy_T hw hTc4.1) hTc4.2 (fun st5 μc5 hp5 hTt5 hJ5 hfr5 => ?_)
  obtain rfl := hp5
  have hTc5 : zTJ φ μc5 := ⟨zTy_of hw hTt5, hJ5⟩
  have hz := zWc_fr hz (zRq_fr hfr5 (by decide +kernel))
  have hv := zKF_tr hv (zRl_fr hfr5 zRz_t (by decide +kernel))
  refine pm_blk hK zmm28 [] 4 103 [(2, 151), (2, 3)] [(2, 157), (2, 9)] μc5 [] rfl trivial ?_
  refine pm_ccall hK zmm28 hC54 hw zGm_lt zJ_loc (91, 1, 29, 2) zM29 [(2, 9), (2, 157)] [] rfl rfl rfl rfl rfl ⟨by have e : zC54.2.2.2.1 = 1 := rfl; omega, by have e : zC54.2.2.2.2.1 = 80 := rfl; rw [zn29]; omega⟩ hs54 rfl (fun t ht => by cases ht) ⟨rfl, fun h => absurd h (by decide), fun _ => rfl, rfl, fun h => absurd h (by decide), fun _ => rfl, trivial⟩ (zTy_T hw hTc5.1) hTc5.2 (fun st6 μc6 hp6 hTt6 hJ6 hfr6 => ?_)
  obtain rfl := hp6
  have hTc6 : zTJ φ μc6 := ⟨zTy_of hw hTt6, hJ6⟩
  have hz := zWc_fr hz (zRq_fr hfr6 (by decide +kernel))
  have hv := zKF_tr hv (zRl_fr hfr6 zRz_t (by decide +kernel))
  refine pm_blk hK zmm28 [] 4 114 [(2, 151), (2, 3)] [(2, 158), (2, 10)] μc6 [] rfl trivial ?_
  refine pm_ccall hK zmm28 hC43 hw zGm_lt zJ_loc (91, 1, 29, 2) zM29 [(2, 10), (2, 158)] [] rfl rfl rfl rfl rfl ⟨by have e : zC43.2.2.2.1 = 1 := rfl; omega, by have e : zC43.2.2.2.2.1 = 80 := rfl; rw [zn29]; omega⟩ hs43 rfl (fun t ht => by cases ht) ⟨rfl, fun h => absurd h (by decide), fun _ => rfl, rfl, fun h => absurd h (by decide), fun _ => rfl, trivial⟩ (zTy_T hw hTc6.1) hTc6.2 (fun st7 μc7 hp7 hTt7 hJ7 hfr7 => ?_)
  obtain rfl := hp7
  have hTc7 : zTJ φ μc7 := ⟨zTy_of hw hTt7, hJ7⟩
  have hz := zWc_fr hz (zRq_fr hfr7 (by decide +kernel))
  have hv := zKF_tr hv (zRl_fr hfr7 zRz_t (by decide +kernel))
  refine pm_blk hK zmm28 [] 4 125 [(2, 151), (2, 3)] [(2, 159), (2, 11)] μc7 [] rfl trivial ?_
  refine pm_ccall hK zmm28 hC44 hw zGm_lt zJ_loc (91, 1, 29, 2) zM29 [(2, 11), (2, 159)] [] rfl rfl rfl rfl rfl ⟨by have e : zC44.2.2.2.1 = 1 := rfl; omega, by have e : zC44.2.2.2.2.1 = 80 := rfl; rw [zn29]; omega⟩ hs44 rfl (fun t ht => by cases ht) ⟨rfl, fun h => absurd h (by decide), fun _ => rfl, rfl, fun h => absurd h (by decide), fun _ => rfl, trivial⟩ (zTy_T hw hTc7.1) hTc7.2 (fun st8 μc8 hp8 hTt8 hJ8 hfr8 => ?_)
  obtain rfl := hp8
  have hTc8 : zTJ φ μc8 := ⟨zTy_of hw hTt8, hJ8⟩
  have hz := zWc_fr hz (zRq_fr hfr8 (by decide +kernel))
  have hv := zKF_tr hv (zRl_fr hfr8 zRz_t (by decide +kernel))
  refine pm_blk hK zmm28 [] 4 136 [(2, 151), (2, 3)] [(2, 160), (2, 12)] μc8 [] rfl trivial ?_
  refine pm_ccall hK zmm28 hC45 hw zGm_lt zJ_loc (91, 1, 29, 2) zM29 [(2, 12), (2, 160)] [] rfl rfl rfl rfl rfl ⟨by have e : zC45.2.2.2.1 = 1 := rfl; omega, by have e : zC45.2.2.2.2.1 = 80 := rfl; rw [zn29]; omega⟩ hs45 rfl (fun t ht => by cases ht) ⟨rfl, fun h => absurd h (by decide), fun _ => rfl, rfl, fun h => absurd h (by decide), fun _ => rfl, trivial⟩ (zTy_T hw hTc8.1) hTc8.2 (fun st9 μc9 hp9 hTt9 hJ9 hfr9 => ?_)
  obtain rfl := hp9
  have hTc9 : zTJ φ μc9 := ⟨zTy_of hw hTt9, hJ9⟩
  have hz := zWc_fr hz (zRq_fr hfr9 (by decide +kernel))
  have hv := zKF_tr hv (zRl_fr hfr9 zRz_t (by decide +kernel))
  refine pm_blk hK zmm28 [] 4 147 [(2, 151), (2, 3)] [(2, 161), (2, 13)] μc9 [] rfl trivial ?_
  refine pm_ccall hK zmm28 hC46 hw zGm_lt zJ_loc (91, 1, 29, 2) zM29 [(2, 13), (2, 161)] [] rfl rfl rfl rfl rfl ⟨by have e : zC46.2.2.2.1 = 1 := rfl; omega, by have e : zC46.2.2.2.2.1 = 80 := rfl; rw [zn29]; omega⟩ hs46 rfl (fun t ht => by cases ht) ⟨rfl, fun h => absurd h (by decide), fun _ => rfl, rfl, fun h => absurd h (by decide), fun _ => rfl, trivial⟩ (zTy_T hw hTc9.1) hTc9.2 (fun st10 μc10 hp10 hTt10 hJ10 hfr10 => ?_)
  obtain rfl := hp10
  have hTc10 : zTJ φ μc10 := ⟨zTy_of hw hTt10, hJ10⟩
  have hz := zWc_fr hz (zRq_fr hfr10 (by decide +kernel))
  have hv := zKF_tr hv (zRl_fr hfr10 zRz_t (by decide +kernel))
  refine pm_blk hK zmm28 [] 4 158 [(2, 151), (2, 3)] [(2, 162), (2, 14)] μc10 [] rfl trivial ?_
  refine pm_ccall hK zmm28 hC47 hw zGm_lt zJ_loc (91, 1, 29, 2) zM29 [(2, 14), (2, 162)] [] rfl rfl rfl rfl rfl ⟨by have e : zC47.2.2.2.1 = 1 := rfl; omega, by have e : zC47.2.2.2.2.1 = 80 := rfl; rw [zn29]; omega⟩ hs47 rfl (fun t ht => by cases ht) ⟨rfl, fun h => absurd h (by decide), fun _ => rfl, rfl, fun h => absurd h (by decide), fun _ => rfl, trivial⟩ (zTy_T hw hTc10.1) hTc10.2 (fun st11 μc11 hp11 hTt11 hJ11 hfr11 => ?_)
  obtain rfl := hp11
  have hTc11 : zTJ φ μc11 := ⟨zTy_of hw hTt11, hJ11⟩
  have hz := zWc_fr hz (zRq_fr hfr11 (by decide +kernel))
  have hv := zKF_tr hv (zRl_fr hfr11 zRz_t (by decide +kernel))
  refine pm_blk hK zmm28 [] 4 169 [(2, 151), (2, 3)] [(2, 163), (2, 15)] μc11 [] rfl trivial ?_
  refine pm_ccall hK zmm28 hC48 hw zGm_lt zJ_loc (91, 1, 29, 2) zM29 [(2, 15), (2, 163)] [] rfl rfl rfl rfl rfl ⟨by have e : zC48.2.2.2.1 = 1 := rfl; omega, by have e : zC48.2.2.2.2.1 = 80 := rfl; rw [zn29]; omega⟩ hs48 rfl (fun t ht => by cases ht) ⟨rfl, fun h => absurd h (by decide), fun _ => rfl, rfl, fun h => absurd h (by decide), fun _ => rfl, trivial⟩ (zTy_T hw hTc11.1) hTc11.2 (fun st12 μc12 hp12 hTt12 hJ12 hfr12 => ?_)
  obtain rfl := hp12
  have hTc12 : zTJ φ μc12 := ⟨zTy_of hw hTt12, hJ12⟩
  have hz := zWc_fr hz (zRq_fr hfr12 (by decide +kernel))
  have hv := zKF_tr hv (zRl_fr hfr12 zRz_t (by decide +kernel))
  exact pm_vret rfl rfl ⟨rfl, hTc12, zWc_eq hz (by decide), hv⟩
set_option maxRecDepth 100000 in
theorem zh_ac164_3 (hK : zKK ST) (hw : sx_Wd zNR zRT2 B0 Sg) (hC56 : zCK φ D ST B0 l Sg zC56) (hs56 : sx_subm zC56.2.2.2.2.2 Wm = true) (hC57 : zCK φ D ST B0 l Sg zC57) (hs57 : sx_subm zC57.2.2.2.2.2 Wm = true) (hC58 : zCK φ D ST B0 l Sg zC58) (hs58 : sx_subm zC58.2.2.2.2.2 Wm = true) (hC59 : zCK φ D ST B0 l Sg zC59) (hs59 : sx_subm zC59.2.2.2.2.2 Wm = true) (hC60 : zCK φ D ST B0 l Sg zC60) (hs60 : sx_subm zC60.2.2.2.2.2 Wm = true) (hC61 : zCK φ D ST B0 l Sg zC61) (hs61 : sx_subm zC61.2.2.2.2.2 Wm = true) (hC62 : zCK φ D ST B0 l Sg zC62) (hs62 : sx_subm zC62.2.2.2.2.2 Wm = true) (hC63 : zCK φ D ST B0 l Sg zC63) (hs63 : sx_subm zC63.2.2.2.2.2 Wm = true) (hC64 : zCK φ D ST B0 l Sg zC64) (hs64 : sx_subm zC64.2.2.2.2.2 Wm = true) (hC65 : zCK φ D ST B0 l Sg zC65) (hs65 : sx_subm zC65.2.2.2.2.2 Wm = true) (hC66 : zCK φ D ST B0 l Sg zC66) (hs66 : sx_subm zC66.2.2.2.2.2 Wm = true) (hC67 : zCK φ D ST B0 l Sg zC67) (hs67 : sx_subm zC67.2.2.2.2.2 Wm = true) (hT : zTJ φ μ) (hb164 : sx_bit Wm 164 = true) (hbd : 2 ≤ bud.1 ∧ 101 ≤ bud.2.1) : zC D Wm ST (sx_bW zRT2 Wm B0 Sg, J) l Sg zM28 bud [(2, 164), (2, 3)] μ (fun st' μ' => st' = [] ∧ zTJ φ μ' ∧ zWc (zsw 164 3) μ μ' ∧ zKF μ μ') := by
  have hz : zWc (fun q => q) μ μ := fun _ _ => rfl
  have hv : zKF μ μ := zKF_refl
  have f1 := zT_get hT zs3_0 (i := 0) (by omega) (by omega)
  refine pm_blk hK zmm28 [] 4 8 [(2, 164), (2, 3)] [] (pm_up μ 164 0 (μ 3 0)) [sx_bit Wm 164 = true] rfl ⟨hb164, trivial⟩ ?_
  obtain ⟨μ1, eμ1⟩ : ∃ μ', μ' = pm_up μ 164 0 (μ 3 0) := ⟨_, rfl⟩
  rw [← eμ1]
  have hTμ1 : zTJ φ μ1 := by rw [eμ1]; exact zT_up hT zs164_0 rfl (i := 0) (by omega) (by omega) (by omega) (by omega)
  have hz := zWc_rcp (μ' := μ1) (d := (164, 0)) (s := (3, 0)) hz (by decide) (fun q hq hne => by rw [eμ1]; exact pm_upq (k := 0) (i := 0) rfl hne) (by show μ1 164 0 = μ 3 0; rw [eμ1, pm_up_eq])
  have hv := zKF_up hv eμ1 (by decide)
  have g2 : μ1 3 1 = μ 3 1 := by rw [eμ1, pm_up_off (by decide)]
  have f3 := zT_get hTμ1 zs3_1 (i := 1) (by omega) (by omega)
  refine pm_blk hK zmm28 [] 4 16 [(2, 164), (2, 3)] [] (pm_up μ1 164 1 (μ1 3 1)) [sx_bit Wm 164 = true] rfl ⟨hb164, trivial⟩ ?_
  obtain ⟨μ2, eμ2⟩ : ∃ μ', μ' = pm_up μ1 164 1 (μ1 3 1) := ⟨_, rfl⟩
  rw [← eμ2]
  have hTμ2 : zTJ φ μ2 := by rw [eμ2]; exact zT_up hTμ1 zs164_1 rfl (i := 1) (by omega) (by omega) (by omega) (by omega)
  have hz := zWc_rcp (μ' := μ2) (d := (164, 1)) (s := (3, 1)) hz (by decide) (fun q hq hne => by rw [eμ2]; exact pm_upq (k := 1) (i := 1) rfl hne) (by show μ2 164 1 = μ1 3 1; rw [eμ2, pm_up_eq])
  have hv := zKF_up hv eμ2 (by decide)
  have g4 : μ2 3 2 = μ 3 2 := by rw [eμ2, pm_up_off (by decide), eμ1, pm_up_off (by decide)]
  have f5 := zT_get hTμ2 zs3_2 (i := 2) (by omega) (by omega)
  refine pm_blk hK zmm28 [] 4 24 [(2, 164), (2, 3)] [] (pm_up μ2 164 2 (μ2 3 2)) [sx_bit Wm 164 = true] rfl ⟨hb164, trivial⟩ ?_
  obtain ⟨μ3, eμ3⟩ : ∃ μ', μ' = pm_up μ2 164 2 (μ2 3 2) := ⟨_, rfl⟩
  rw [← eμ3]
  have hTμ3 : zTJ φ μ3 := by rw [eμ3]; exact zT_up hTμ2 zs164_2 rfl (i := 2) (by omega) (by omega) (by omega) (by omega)
  have hz := zWc_fr (μ' := μ3) hz (fun q hq => by rw [eμ3]; exact pm_upq (k := 2) (i := 2) rfl ((show ∀ q ∈ zRq, q ≠ (164, 2) by decide) q hq))
  have hv := zKF_up hv eμ3 (by decide)
  have g6 : μ3 3 3 = μ 3 3 := by rw [eμ3, pm_up_off (by decide), eμ2, pm_up_off (by decide), eμ1, pm_up_off (by decide)]
  have f7 := zT_get hTμ3 zs3_3 (i := 3) (by omega) (by omega)
  refine pm_blk hK zmm28 [] 4 32 [(2, 164), (2, 3)] [] (pm_up μ3 164 3 (μ3 3 3)) [sx_bit Wm 164 = true] rfl ⟨hb164, trivial⟩ ?_
  obtain ⟨μ4, eμ4⟩ : ∃ μ', μ' = pm_up μ3 164 3 (μ3 3 3) := ⟨_, rfl⟩
  rw [← eμ4]
  have hTμ4 : zTJ φ μ4 := by rw [eμ4]; exact zT_up hTμ3 zs164_3 rfl (i := 3) (by omega) (by omega) (by omega) (by omega)
  have hz := zWc_fr (μ' := μ4) hz (fun q hq => by rw [eμ4]; exact pm_upq (k := 3) (i := 3) rfl ((show ∀ q ∈ zRq, q ≠ (164, 3) by decide) q hq))
  have hv := zKF_up hv eμ4 (by decide)
  have g8 : μ4 3 4 = μ 3 4 := by rw [eμ4, pm_up_off (by decide), eμ3, pm_up_off (by decide), eμ2, pm_up_off (by decide), eμ1, pm_up_off (by decide)]
  have f9 := zT_get hTμ4 zs3_4 (i := 4) (by omega) (by omega)
  refine pm_blk hK zmm28 [] 4 40 [(2, 164), (2, 3)] [] (pm_up μ4 164 4 (μ4 3 4)) [sx_bit Wm 164 = true] rfl ⟨hb164, trivial⟩ ?_
  obtain ⟨μ5, eμ5⟩ : ∃ μ', μ' = pm_up μ4 164 4 (μ4 3 4) := ⟨_, rfl⟩
  rw [← eμ5]
  have hTμ5 : zTJ φ μ5 := by rw [eμ5]; exact zT_up hTμ4 zs164_4 rfl (i := 4) (by omega) (by omega) (by omega) (by omega)
  have hz := zWc_fr (μ' := μ5) hz (fun q hq => by rw [eμ5]; exact pm_upq (k := 4) (i := 4) rfl ((show ∀ q ∈ zRq, q ≠ (164, 4) by decide) q hq))
  have hv := zKF_up hv eμ5 (by decide)
  refine pm_blk hK zmm28 [] 4 48 [(2, 164), (2, 3)] [(2, 165), (2, 4)] μ5 [] rfl trivial ?_
  refine pm_ccall hK zmm28 hC62 hw zGm_lt zJ_loc (91, 1, 29, 2) zM29 [(2, 4), (2, 165)] [] rfl rfl rfl rfl rfl ⟨by have e : zC62.2.2.2.1 = 1 := rfl; omega, by have e : zC62.2.2.2.2.1 = 80 := rfl; rw [zn29]; omega⟩ hs62 rfl (fun t ht => by cases ht) ⟨rfl, fun h => absurd h (by decide), fun _ => rfl, rfl, fun h => absurd h (by decide), fun _ => rfl, trivial⟩ (zTy_T hw hTμ5.1) hTμ5.2 (fun st1 μc1 hp1 hTt1 hJ1 hfr1 => ?_)
  obtain rfl := hp1
  have hTc1 : zTJ φ μc1 := ⟨zTy_of hw hTt1, hJ1⟩
  have hz := zWc_fr hz (zRq_fr hfr1 (by decide +kernel))
  have hv := zKF_tr hv (zRl_fr hfr1 zRz_t (by decide +kernel))
  refine pm_blk hK zmm28 [] 4 59 [(2, 164), (2, 3)] [(2, 166), (2, 5)] μc1 [] rfl trivial ?_
  refine pm_ccall hK zmm28 hC63 hw zGm_lt zJ_loc (91, 1, 29, 2) zM29 [(2, 5), (2, 166)] [] rfl rfl rfl rfl rfl ⟨by have e : zC63.2.2.2.1 = 1 := rfl; omega, by have e : zC63.2.2.2.2.1 = 80 := rfl; rw [zn29]; omega⟩ hs63 rfl (fun t ht => by cases ht) ⟨rfl, fun h => absurd h (by decide), fun _ => rfl, rfl, fun h => absurd h (by decide), fun _ => rfl, trivial⟩ (zTy_T hw hTc1.1) hTc1.2 (fun st2 μc2 hp2 hTt2 hJ2 hfr2 => ?_)
  obtain rfl := hp2
  have hTc2 : zTJ φ μc2 := ⟨zTy_of hw hTt2, hJ2⟩
  have hz := zWc_fr hz (zRq_fr hfr2 (by decide +kernel))
  have hv := zKF_tr hv (zRl_fr hfr2 zRz_t (by decide +kernel))
  refine pm_blk hK zmm28 [] 4 70 [(2, 164), (2, 3)] [(2, 167), (2, 6)] μc2 [] rfl trivial ?_
  refine pm_ccall hK zmm28 hC64 hw zGm_lt zJ_loc (91, 1, 29, 2) zM29 [(2, 6), (2, 167)] [] rfl rfl rfl rfl rfl ⟨by have e : zC64.2.2.2.1 = 1 := rfl; omega, by have e : zC64.2.2.2.2.1 = 80 := rfl; rw [zn29]; omega⟩ hs64 rfl (fun t ht => by cases ht) ⟨rfl, fun h => absurd h (by decide), fun _ => rfl, rfl, fun h => absurd h (by decide), fun _ => rfl, trivial⟩ (zTy_T hw hTc2.1) hTc2.2 (fun st3 μc3 hp3 hTt3 hJ3 hfr3 => ?_)
  obtain rfl := hp3
  have hTc3 : zTJ φ μc3 := ⟨zTy_of hw hTt3, hJ3⟩
  have hz := zWc_fr hz (zRq_fr hfr3 (by decide +kernel))
  have hv := zKF_tr hv (zRl_fr hfr3 zRz_t (by decide +kernel))
  refine pm_blk hK zmm28 [] 4 81 [(2, 164), (2, 3)] [(2, 168), (2, 7)] μc3 [] rfl trivial ?_
  refine pm_ccall hK zmm28 hC65 hw zGm_lt zJ_loc (91, 1, 29, 2) zM29 [(2, 7), (2, 168)] [] rfl rfl rfl rfl rfl ⟨by have e : zC65.2.2.2.1 = 1 := rfl; omega, by have e : zC65.2.2.2.2.1 = 80 := rfl; rw [zn29]; omega⟩ hs65 rfl (fun t ht => by cases ht) ⟨rfl, fun h => absurd h (by decide), fun _ => rfl, rfl, fun h => absurd h (by decide), fun _ => rfl, trivial⟩ (zTy_T hw hTc3.1) hTc3.2 (fun st4 μc4 hp4 hTt4 hJ4 hfr4 => ?_)
  obtain rfl := hp4
  have hTc4 : zTJ φ μc4 := ⟨zTy_of hw hTt4, hJ4⟩
  have hz := zWc_fr hz (zRq_fr hfr4 (by decide +kernel))
  have hv := zKF_tr hv (zRl_fr hfr4 zRz_t (by decide +kernel))
  refine pm_blk hK zmm28 [] 4 92 [(2, 164), (2, 3)] [(2, 169), (2, 8)] μc4 [] rfl trivial ?_
  refine pm_ccall hK zmm28 hC66 hw zGm_lt zJ_loc (91, 1, 29, 2) zM29 [(2, 8), (2, 169)] [] rfl rfl rfl rfl rfl ⟨by have e : zC66.2.2.2.1 = 1 := rfl; omega, by have e : zC66.2.2.2.2.1 = 80 := rfl; rw [zn29]; omega⟩ hs66 rfl (fun t ht => by cases ht) ⟨rfl, fun h => absurd h (by decide), fun _ => rfl, rfl, fun h => absurd h (by decide), fun _ => rfl, trivial⟩ (zTy_T hw hTc4.1) hTc4.2 (fun st5 μc5 hp5 hTt5 hJ5 hfr5 => ?_)
  obtain rfl := hp5
  have hTc5 : zTJ φ μc5 := ⟨zTy_of hw hTt5, hJ5⟩
  have hz := zWc_fr hz (zRq_fr hfr5 (by decide +kernel))
  have hv := zKF_tr hv (zRl_fr hfr5 zRz_t (by decide +kernel))
  refine pm_blk hK zmm28 [] 4 103 [(2, 164), (2, 3)] [(2, 170), (2, 9)] μc5 [] rfl trivial ?_
  refine pm_ccall hK zmm28 hC67 hw zGm_lt zJ_loc (91, 1, 29, 2) zM29 [(2, 9), (2, 170)] [] rfl rfl rfl rfl rfl ⟨by have e : zC67.2.2.2.1 = 1 := rfl; omega, by have e : zC67.2.2.2.2.1 = 80 := rfl; rw [zn29]; omega⟩ hs67 rfl (fun t ht => by cases ht) ⟨rfl, fun h => absurd h (by decide), fun _ => rfl, rfl, fun h => absurd h (by decide), fun _ => rfl, trivial⟩ (zTy_T hw hTc5.1) hTc5.2 (fun st6 μc6 hp6 hTt6 hJ6 hfr6 => ?_)
  obtain rfl := hp6
  have hTc6 : zTJ φ μc6 := ⟨zTy_of hw hTt6, hJ6⟩
  have hz := zWc_fr hz (zRq_fr hfr6 (by decide +kernel))
  have hv := zKF_tr hv (zRl_fr hfr6 zRz_t (by decide +kernel))
  refine pm_blk hK zmm28 [] 4 114 [(2, 164), (2, 3)] [(2, 171), (2, 10)] μc6 [] rfl trivial ?_
  refine pm_ccall hK zmm28 hC56 hw zGm_lt zJ_loc (91, 1, 29, 2) zM29 [(2, 10), (2, 171)] [] rfl rfl rfl rfl rfl ⟨by have e : zC56.2.2.2.1 = 1 := rfl; omega, by have e : zC56.2.2.2.2.1 = 80 := rfl; rw [zn29]; omega⟩ hs56 rfl (fun t ht => by cases ht) ⟨rfl, fun h => absurd h (by decide), fun _ => rfl, rfl, fun h => absurd h (by decide), fun _ => rfl, trivial⟩ (zTy_T hw hTc6.1) hTc6.2 (fun st7 μc7 hp7 hTt7 hJ7 hfr7 => ?_)
  obtain rfl := hp7
  have hTc7 : zTJ φ μc7 := ⟨zTy_of hw hTt7, hJ7⟩
  have hz := zWc_fr hz (zRq_fr hfr7 (by decide +kernel))
  have hv := zKF_tr hv (zRl_fr hfr7 zRz_t (by decide +kernel))
  refine pm_blk hK zmm28 [] 4 125 [(2, 164), (2, 3)] [(2, 172), (2, 11)] μc7 [] rfl trivial ?_
  refine pm_ccall hK zmm28 hC57 hw zGm_lt zJ_loc (91, 1, 29, 2) zM29 [(2, 11), (2, 172)] [] rfl rfl rfl rfl rfl ⟨by have e : zC57.2.2.2.1 = 1 := rfl; omega, by have e : zC57.2.2.2.2.1 = 80 := rfl; rw [zn29]; omega⟩ hs57 rfl (fun t ht => by cases ht) ⟨rfl, fun h => absurd h (by decide), fun _ => rfl, rfl, fun h => absurd h (by decide), fun _ => rfl, trivial⟩ (zTy_T hw hTc7.1) hTc7.2 (fun st8 μc8 hp8 hTt8 hJ8 hfr8 => ?_)
  obtain rfl := hp8
  have hTc8 : zTJ φ μc8 := ⟨zTy_of hw hTt8, hJ8⟩
  have hz := zWc_fr hz (zRq_fr hfr8 (by decide +kernel))
  have hv := zKF_tr hv (zRl_fr hfr8 zRz_t (by decide +kernel))
  refine pm_blk hK zmm28 [] 4 136 [(2, 164), (2, 3)] [(2, 173), (2, 12)] μc8 [] rfl trivial ?_
  refine pm_ccall hK zmm28 hC58 hw zGm_lt zJ_loc (91, 1, 29, 2) zM29 [(2, 12), (2, 173)] [] rfl rfl rfl rfl rfl ⟨by have e : zC58.2.2.2.1 = 1 := rfl; omega, by have e : zC58.2.2.2.2.1 = 80 := rfl; rw [zn29]; omega⟩ hs58 rfl (fun t ht => by cases ht) ⟨rfl, fun h => absurd h (by decide), fun _ => rfl, rfl, fun h => absurd h (by decide), fun _ => rfl, trivial⟩ (zTy_T hw hTc8.1) hTc8.2 (fun st9 μc9 hp9 hTt9 hJ9 hfr9 => ?_)
  obtain rfl := hp9
  have hTc9 : zTJ φ μc9 := ⟨zTy_of hw hTt9, hJ9⟩
  have hz := zWc_fr hz (zRq_fr hfr9 (by decide +kernel))
  have hv := zKF_tr hv (zRl_fr hfr9 zRz_t (by decide +kernel))
  refine pm_blk hK zmm28 [] 4 147 [(2, 164), (2, 3)] [(2, 174), (2, 13)] μc9 [] rfl trivial ?_
  refine pm_ccall hK zmm28 hC59 hw zGm_lt zJ_loc (91, 1, 29, 2) zM29 [(2, 13), (2, 174)] [] rfl rfl rfl rfl rfl ⟨by have e : zC59.2.2.2.1 = 1 := rfl; omega, by have e : zC59.2.2.2.2.1 = 80 := rfl; rw [zn29]; omega⟩ hs59 rfl (fun t ht => by cases ht) ⟨rfl, fun h => absurd h (by decide), fun _ => rfl, rfl, fun h => absurd h (by decide), fun _ => rfl, trivial⟩ (zTy_T hw hTc9.1) hTc9.2 (fun st10 μc10 hp10 hTt10 hJ10 hfr10 => ?_)
  obtain rfl := hp10
  have hTc10 : zTJ φ μc10 := ⟨zTy_of hw hTt10, hJ10⟩
  have hz := zWc_fr hz (zRq_fr hfr10 (by decide +kernel))
  have hv := zKF_tr hv (zRl_fr hfr10 zRz_t (by decide +kernel))
  refine pm_blk hK zmm28 [] 4 158 [(2, 164), (2, 3)] [(2, 175), (2, 14)] μc10 [] rfl trivial ?_
  refine pm_ccall hK zmm28 hC60 hw zGm_lt zJ_loc (91, 1, 29, 2) zM29 [(2, 14), (2, 175)] [] rfl rfl rfl rfl rfl ⟨by have e : zC60.2.2.2.1 = 1 := rfl; omega, by have e : zC60.2.2.2.2.1 = 80 := rfl; rw [zn29]; omega⟩ hs60 rfl (fun t ht => by cases ht) ⟨rfl, fun h => absurd h (by decide), fun _ => rfl, rfl, fun h => absurd h (by decide), fun _ => rfl, trivial⟩ (zTy_T hw hTc10.1) hTc10.2 (fun st11 μc11 hp11 hTt11 hJ11 hfr11 => ?_)
  obtain rfl := hp11
  have hTc11 : zTJ φ μc11 := ⟨zTy_of hw hTt11, hJ11⟩
  have hz := zWc_fr hz (zRq_fr hfr11 (by decide +kernel))
  have hv := zKF_tr hv (zRl_fr hfr11 zRz_t (by decide +kernel))
  refine pm_blk hK zmm28 [] 4 169 [(2, 164), (2, 3)] [(2, 176), (2, 15)] μc11 [] rfl trivial ?_
  refine pm_ccall hK zmm28 hC61 hw zGm_lt zJ_loc (91, 1, 29, 2) zM29 [(2, 15), (2, 176)] [] rfl rfl rfl rfl rfl ⟨by have e : zC61.2.2.2.1 = 1 := rfl; omega, by have e : zC61.2.2.2.2.1 = 80 := rfl; rw [zn29]; omega⟩ hs61 rfl (fun t ht => by cases ht) ⟨rfl, fun h => absurd h (by decide), fun _ => rfl, rfl, fun h => absurd h (by decide), fun _ => rfl, trivial⟩ (zTy_T hw hTc11.1) hTc11.2 (fun st12 μc12 hp12 hTt12 hJ12 hfr12 => ?_)
  obtain rfl := hp12
  have hTc12 : zTJ φ μc12 := ⟨zTy_of hw hTt12, hJ12⟩
  have hz := zWc_fr hz (zRq_fr hfr12 (by decide +kernel))
  have hv := zKF_tr hv (zRl_fr hfr12 zRz_t (by decide +kernel))
  exact pm_vret rfl rfl ⟨rfl, hTc12, zWc_eq hz (by decide), hv⟩
set_option maxRecDepth 100000 in
theorem zh_ac46_3 (hK : zKK ST) (hw : sx_Wd zNR zRT2 B0 Sg) (hC198 : zCK φ D ST B0 l Sg zC198) (hs198 : sx_subm zC198.2.2.2.2.2 Wm = true) (hC199 : zCK φ D ST B0 l Sg zC199) (hs199 : sx_subm zC199.2.2.2.2.2 Wm = true) (hC200 : zCK φ D ST B0 l Sg zC200) (hs200 : sx_subm zC200.2.2.2.2.2 Wm = true) (hC201 : zCK φ D ST B0 l Sg zC201) (hs201 : sx_subm zC201.2.2.2.2.2 Wm = true) (hC202 : zCK φ D ST B0 l Sg zC202) (hs202 : sx_subm zC202.2.2.2.2.2 Wm = true) (hC203 : zCK φ D ST B0 l Sg zC203) (hs203 : sx_subm zC203.2.2.2.2.2 Wm = true) (hC204 : zCK φ D ST B0 l Sg zC204) (hs204 : sx_subm zC204.2.2.2.2.2 Wm = true) (hC205 : zCK φ D ST B0 l Sg zC205) (hs205 : sx_subm zC205.2.2.2.2.2 Wm = true) (hC206 : zCK φ D ST B0 l Sg zC206) (hs206 : sx_subm zC206.2.2.2.2.2 Wm = true) (hC207 : zCK φ D ST B0 l Sg zC207) (hs207 : sx_subm zC207.2.2.2.2.2 Wm = true) (hC208 : zCK φ D ST B0 l Sg zC208) (hs208 : sx_subm zC208.2.2.2.2.2 Wm = true) (hC209 : zCK φ D ST B0 l Sg zC209) (hs209 : sx_subm zC209.2.2.2.2.2 Wm = true) (hT : zTJ φ μ) (hb46 : sx_bit Wm 46 = true) (hbd : 2 ≤ bud.1 ∧ 101 ≤ bud.2.1) : zC D Wm ST (sx_bW zRT2 Wm B0 Sg, J) l Sg zM28 bud [(2, 46), (2, 3)] μ (fun st' μ' => st' = [] ∧ zTJ φ μ' ∧ zWc (zsw 46 3) μ μ' ∧ zKF μ μ') := by
  have hz : zWc (fun q => q) μ μ := fun _ _ => rfl
  have hv : zKF μ μ := zKF_refl
  have f1 := zT_get hT zs3_0 (i := 0) (by omega) (by omega)
  refine pm_blk hK zmm28 [] 4 8 [(2, 46), (2, 3)] [] (pm_up μ 46 0 (μ 3 0)) [sx_bit Wm 46 = true] rfl ⟨hb46, trivial⟩ ?_
  obtain ⟨μ1, eμ1⟩ : ∃ μ', μ' = pm_up μ 46 0 (μ 3 0) := ⟨_, rfl⟩
  rw [← eμ1]
  have hTμ1 : zTJ φ μ1 := by rw [eμ1]; exact zT_up hT zs46_0 rfl (i := 0) (by omega) (by omega) (by omega) (by omega)
  have hz := zWc_rcp (μ' := μ1) (d := (46, 0)) (s := (3, 0)) hz (by decide) (fun q hq hne => by rw [eμ1]; exact pm_upq (k := 0) (i := 0) rfl hne) (by show μ1 46 0 = μ 3 0; rw [eμ1, pm_up_eq])
  have hv := zKF_up hv eμ1 (by decide)
  have g2 : μ1 3 1 = μ 3 1 := by rw [eμ1, pm_up_off (by decide)]
  have f3 := zT_get hTμ1 zs3_1 (i := 1) (by omega) (by omega)
  refine pm_blk hK zmm28 [] 4 16 [(2, 46), (2, 3)] [] (pm_up μ1 46 1 (μ1 3 1)) [sx_bit Wm 46 = true] rfl ⟨hb46, trivial⟩ ?_
  obtain ⟨μ2, eμ2⟩ : ∃ μ', μ' = pm_up μ1 46 1 (μ1 3 1) := ⟨_, rfl⟩
  rw [← eμ2]
  have hTμ2 : zTJ φ μ2 := by rw [eμ2]; exact zT_up hTμ1 zs46_1 rfl (i := 1) (by omega) (by omega) (by omega) (by omega)
  have hz := zWc_rcp (μ' := μ2) (d := (46, 1)) (s := (3, 1)) hz (by decide) (fun q hq hne => by rw [eμ2]; exact pm_upq (k := 1) (i := 1) rfl hne) (by show μ2 46 1 = μ1 3 1; rw [eμ2, pm_up_eq])
  have hv := zKF_up hv eμ2 (by decide)
  have g4 : μ2 3 2 = μ 3 2 := by rw [eμ2, pm_up_off (by decide), eμ1, pm_up_off (by decide)]
  have f5 := zT_get hTμ2 zs3_2 (i := 2) (by omega) (by omega)
  refine pm_blk hK zmm28 [] 4 24 [(2, 46), (2, 3)] [] (pm_up μ2 46 2 (μ2 3 2)) [sx_bit Wm 46 = true] rfl ⟨hb46, trivial⟩ ?_
  obtain ⟨μ3, eμ3⟩ : ∃ μ', μ' = pm_up μ2 46 2 (μ2 3 2) := ⟨_, rfl⟩
  rw [← eμ3]
  have hTμ3 : zTJ φ μ3 := by rw [eμ3]; exact zT_up hTμ2 zs46_2 rfl (i := 2) (by omega) (by omega) (by omega) (by omega)
  have hz := zWc_fr (μ' := μ3) hz (fun q hq => by rw [eμ3]; exact pm_upq (k := 2) (i := 2) rfl ((show ∀ q ∈ zRq, q ≠ (46, 2) by decide) q hq))
  have hv := zKF_up hv eμ3 (by decide)
  have g6 : μ3 3 3 = μ 3 3 := by rw [eμ3, pm_up_off (by decide), eμ2, pm_up_off (by decide), eμ1, pm_up_off (by decide)]
  have f7 := zT_get hTμ3 zs3_3 (i := 3) (by omega) (by omega)
  refine pm_blk hK zmm28 [] 4 32 [(2, 46), (2, 3)] [] (pm_up μ3 46 3 (μ3 3 3)) [sx_bit Wm 46 = true] rfl ⟨hb46, trivial⟩ ?_
  obtain ⟨μ4, eμ4⟩ : ∃ μ', μ' = pm_up μ3 46 3 (μ3 3 3) := ⟨_, rfl⟩
  rw [← eμ4]
  have hTμ4 : zTJ φ μ4 := by rw [eμ4]; exact zT_up hTμ3 zs46_3 rfl (i := 3) (by omega) (by omega) (by omega) (by omega)
  have hz := zWc_fr (μ' := μ4) hz (fun q hq => by rw [eμ4]; exact pm_upq (k := 3) (i := 3) rfl ((show ∀ q ∈ zRq, q ≠ (46, 3) by decide) q hq))
  have hv := zKF_up hv eμ4 (by decide)
  have g8 : μ4 3 4 = μ 3 4 := by rw [eμ4, pm_up_off (by decide), eμ3, pm_up_off (by decide), eμ2, pm_up_off (by decide), eμ1, pm_up_off (by decide)]
  have f9 := zT_get hTμ4 zs3_4 (i := 4) (by omega) (by omega)
  refine pm_blk hK zmm28 [] 4 40 [(2, 46), (2, 3)] [] (pm_up μ4 46 4 (μ4 3 4)) [sx_bit Wm 46 = true] rfl ⟨hb46, trivial⟩ ?_
  obtain ⟨μ5, eμ5⟩ : ∃ μ', μ' = pm_up μ4 46 4 (μ4 3 4) := ⟨_, rfl⟩
  rw [← eμ5]
  have hTμ5 : zTJ φ μ5 := by rw [eμ5]; exact zT_up hTμ4 zs46_4 rfl (i := 4) (by omega) (by omega) (by omega) (by omega)
  have hz := zWc_fr (μ' := μ5) hz (fun q hq => by rw [eμ5]; exact pm_upq (k := 4) (i := 4) rfl ((show ∀ q ∈ zRq, q ≠ (46, 4) by decide) q hq))
  have hv := zKF_up hv eμ5 (by decide)
  refine pm_blk hK zmm28 [] 4 48 [(2, 46), (2, 3)] [(2, 47), (2, 4)] μ5 [] rfl trivial ?_
  refine pm_ccall hK zmm28 hC204 hw zGm_lt zJ_loc (91, 1, 29, 2) zM29 [(2, 4), (2, 47)] [] rfl rfl rfl rfl rfl ⟨by have e : zC204.2.2.2.1 = 1 := rfl; omega, by have e : zC204.2.2.2.2.1 = 80 := rfl; rw [zn29]; omega⟩ hs204 rfl (fun t ht => by cases ht) ⟨rfl, fun h => absurd h (by decide), fun _ => rfl, rfl, fun h => absurd h (by decide), fun _ => rfl, trivial⟩ (zTy_T hw hTμ5.1) hTμ5.2 (fun st1 μc1 hp1 hTt1 hJ1 hfr1 => ?_)
  obtain rfl := hp1
  have hTc1 : zTJ φ μc1 := ⟨zTy_of hw hTt1, hJ1⟩
  have hz := zWc_fr hz (zRq_fr hfr1 (by decide +kernel))
  have hv := zKF_tr hv (zRl_fr hfr1 zRz_t (by decide +kernel))
  refine pm_blk hK zmm28 [] 4 59 [(2, 46), (2, 3)] [(2, 48), (2, 5)] μc1 [] rfl trivial ?_
  refine pm_ccall hK zmm28 hC205 hw zGm_lt zJ_loc (91, 1, 29, 2) zM29 [(2, 5), (2, 48)] [] rfl rfl rfl rfl rfl ⟨by have e : zC205.2.2.2.1 = 1 := rfl; omega, by have e : zC205.2.2.2.2.1 = 80 := rfl; rw [zn29]; omega⟩ hs205 rfl (fun t ht => by cases ht) ⟨rfl, fun h => absurd h (by decide), fun _ => rfl, rfl, fun h => absurd h (by decide), fun _ => rfl, trivial⟩ (zTy_T hw hTc1.1) hTc1.2 (fun st2 μc2 hp2 hTt2 hJ2 hfr2 => ?_)
  obtain rfl := hp2
  have hTc2 : zTJ φ μc2 := ⟨zTy_of hw hTt2, hJ2⟩
  have hz := zWc_fr hz (zRq_fr hfr2 (by decide +kernel))
  have hv := zKF_tr hv (zRl_fr hfr2 zRz_t (by decide +kernel))
  refine pm_blk hK zmm28 [] 4 70 [(2, 46), (2, 3)] [(2, 49), (2, 6)] μc2 [] rfl trivial ?_
  refine pm_ccall hK zmm28 hC206 hw zGm_lt zJ_loc (91, 1, 29, 2) zM29 [(2, 6), (2, 49)] [] rfl rfl rfl rfl rfl ⟨by have e : zC206.2.2.2.1 = 1 := rfl; omega, by have e : zC206.2.2.2.2.1 = 80 := rfl; rw [zn29]; omega⟩ hs206 rfl (fun t ht => by cases ht) ⟨rfl, fun h => absurd h (by decide), fun _ => rfl, rfl, fun h => absurd h (by decide), fun _ => rfl, trivial⟩ (zTy_T hw hTc2.1) hTc2.2 (fun st3 μc3 hp3 hTt3 hJ3 hfr3 => ?_)
  obtain rfl := hp3
  have hTc3 : zTJ φ μc3 := ⟨zTy_of hw hTt3, hJ3⟩
  have hz := zWc_fr hz (zRq_fr hfr3 (by decide +kernel))
  have hv := zKF_tr hv (zRl_fr hfr3 zRz_t (by decide +kernel))
  refine pm_blk hK zmm28 [] 4 81 [(2, 46), (2, 3)] [(2, 50), (2, 7)] μc3 [] rfl trivial ?_
  refine pm_ccall hK zmm28 hC207 hw zGm_lt zJ_loc (91, 1, 29, 2) zM29 [(2, 7), (2, 50)] [] rfl rfl rfl rfl rfl ⟨by have e : zC207.2.2.2.1 = 1 := rfl; omega, by have e : zC207.2.2.2.2.1 = 80 := rfl; rw [zn29]; omega⟩ hs207 rfl (fun t ht => by cases ht) ⟨rfl, fun h => absurd h (by decide), fun _ => rfl, rfl, fun h => absurd h (by decide), fun _ => rfl, trivial⟩ (zTy_T hw hTc3.1) hTc3.2 (fun st4 μc4 hp4 hTt4 hJ4 hfr4 => ?_)
  obtain rfl := hp4
  have hTc4 : zTJ φ μc4 := ⟨zTy_of hw hTt4, hJ4⟩
  have hz := zWc_fr hz (zRq_fr hfr4 (by decide +kernel))
  have hv := zKF_tr hv (zRl_fr hfr4 zRz_t (by decide +kernel))
  refine pm_blk hK zmm28 [] 4 92 [(2, 46), (2, 3)] [(2, 51), (2, 8)] μc4 [] rfl trivial ?_
  refine pm_ccall hK zmm28 hC208 hw zGm_lt zJ_loc (91, 1, 29, 2) zM29 [(2, 8), (2, 51)] [] rfl rfl rfl rfl rfl ⟨by have e : zC208.2.2.2.1 = 1 := rfl; omega, by have e : zC208.2.2.2.2.1 = 80 := rfl; rw [zn29]; omega⟩ hs208 rfl (fun t ht => by cases ht) ⟨rfl, fun h => absurd h (by decide), fun _ => rfl, rfl, fun h => absurd h (by decide), fun _ => rfl, trivial⟩ (zTy_T hw hTc4.1) hTc4.2 (fun st5 μc5 hp5 hTt5 hJ5 hfr5 => ?_)
  obtain rfl := hp5
  have hTc5 : zTJ φ μc5 := ⟨zTy_of hw hTt5, hJ5⟩
  have hz := zWc_fr hz (zRq_fr hfr5 (by decide +kernel))
  have hv := zKF_tr hv (zRl_fr hfr5 zRz_t (by decide +kernel))
  refine pm_blk hK zmm28 [] 4 103 [(2, 46), (2, 3)] [(2, 52), (2, 9)] μc5 [] rfl trivial ?_
  refine pm_ccall hK zmm28 hC209 hw zGm_lt zJ_loc (91, 1, 29, 2) zM29 [(2, 9), (2, 52)] [] rfl rfl rfl rfl rfl ⟨by have e : zC209.2.2.2.1 = 1 := rfl; omega, by have e : zC209.2.2.2.2.1 = 80 := rfl; rw [zn29]; omega⟩ hs209 rfl (fun t ht => by cases ht) ⟨rfl, fun h => absurd h (by decide), fun _ => rfl, rfl, fun h => absurd h (by decide), fun _ => rfl, trivial⟩ (zTy_T hw hTc5.1) hTc5.2 (fun st6 μc6 hp6 hTt6 hJ6 hfr6 => ?_)
  obtain rfl := hp6
  have hTc6 : zTJ φ μc6 := ⟨zTy_of hw hTt6, hJ6⟩
  have hz := zWc_fr hz (zRq_fr hfr6 (by decide +kernel))
  have hv := zKF_tr hv (zRl_fr hfr6 zRz_t (by decide +kernel))
  refine pm_blk hK zmm28 [] 4 114 [(2, 46), (2, 3)] [(2, 53), (2, 10)] μc6 [] rfl trivial ?_
  refine pm_ccall hK zmm28 hC198 hw zGm_lt zJ_loc (91, 1, 29, 2) zM29 [(2, 10), (2, 53)] [] rfl rfl rfl rfl rfl ⟨by have e : zC198.2.2.2.1 = 1 := rfl; omega, by have e : zC198.2.2.2.2.1 = 80 := rfl; rw [zn29]; omega⟩ hs198 rfl (fun t ht => by cases ht) ⟨rfl, fun h => absurd h (by decide), fun _ => rfl, rfl, fun h => absurd h (by decide), fun _ => rfl, trivial⟩ (zTy_T hw hTc6.1) hTc6.2 (fun st7 μc7 hp7 hTt7 hJ7 hfr7 => ?_)
  obtain rfl := hp7
  have hTc7 : zTJ φ μc7 := ⟨zTy_of hw hTt7, hJ7⟩
  have hz := zWc_fr hz (zRq_fr hfr7 (by decide +kernel))
  have hv := zKF_tr hv (zRl_fr hfr7 zRz_t (by decide +kernel))
  refine pm_blk hK zmm28 [] 4 125 [(2, 46), (2, 3)] [(2, 54), (2, 11)] μc7 [] rfl trivial ?_
  refine pm_ccall hK zmm28 hC199 hw zGm_lt zJ_loc (91, 1, 29, 2) zM29 [(2, 11), (2, 54)] [] rfl rfl rfl rfl rfl ⟨by have e : zC199.2.2.2.1 = 1 := rfl; omega, by have e : zC199.2.2.2.2.1 = 80 := rfl; rw [zn29]; omega⟩ hs199 rfl (fun t ht => by cases ht) ⟨rfl, fun h => absurd h (by decide), fun _ => rfl, rfl, fun h => absurd h (by decide), fun _ => rfl, trivial⟩ (zTy_T hw hTc7.1) hTc7.2 (fun st8 μc8 hp8 hTt8 hJ8 hfr8 => ?_)
  obtain rfl := hp8
  have hTc8 : zTJ φ μc8 := ⟨zTy_of hw hTt8, hJ8⟩
  have hz := zWc_fr hz (zRq_fr hfr8 (by decide +kernel))
  have hv := zKF_tr hv (zRl_fr hfr8 zRz_t (by decide +kernel))
  refine pm_blk hK zmm28 [] 4 136 [(2, 46), (2, 3)] [(2, 55), (2, 12)] μc8 [] rfl trivial ?_
  refine pm_ccall hK zmm28 hC200 hw zGm_lt zJ_loc (91, 1, 29, 2) zM29 [(2, 12), (2, 55)] [] rfl rfl rfl rfl rfl ⟨by have e : zC200.2.2.2.1 = 1 := rfl; omega, by have e : zC200.2.2.2.2.1 = 80 := rfl; rw [zn29]; omega⟩ hs200 rfl (fun t ht => by cases ht) ⟨rfl, fun h => absurd h (by decide), fun _ => rfl, rfl, fun h => absurd h (by decide), fun _ => rfl, trivial⟩ (zTy_T hw hTc8.1) hTc8.2 (fun st9 μc9 hp9 hTt9 hJ9 hfr9 => ?_)
  obtain rfl := hp9
  have hTc9 : zTJ φ μc9 := ⟨zTy_of hw hTt9, hJ9⟩
  have hz := zWc_fr hz (zRq_fr hfr9 (by decide +kernel))
  have hv := zKF_tr hv (zRl_fr hfr9 zRz_t (by decide +kernel))
  refine pm_blk hK zmm28 [] 4 147 [(2, 46), (2, 3)] [(2, 56), (2, 13)] μc9 [] rfl trivial ?_
  refine pm_ccall hK zmm28 hC201 hw zGm_lt zJ_loc (91, 1, 29, 2) zM29 [(2, 13), (2, 56)] [] rfl rfl rfl rfl rfl ⟨by have e : zC201.2.2.2.1 = 1 := rfl; omega, by have e : zC201.2.2.2.2.1 = 80 := rfl; rw [zn29]; omega⟩ hs201 rfl (fun t ht => by cases ht) ⟨rfl, fun h => absurd h (by decide), fun _ => rfl, rfl, fun h => absurd h (by decide), fun _ => rfl, trivial⟩ (zTy_T hw hTc9.1) hTc9.2 (fun st10 μc10 hp10 hTt10 hJ10 hfr10 => ?_)
  obtain rfl := hp10
  have hTc10 : zTJ φ μc10 := ⟨zTy_of hw hTt10, hJ10⟩
  have hz := zWc_fr hz (zRq_fr hfr10 (by decide +kernel))
  have hv := zKF_tr hv (zRl_fr hfr10 zRz_t (by decide +kernel))
  refine pm_blk hK zmm28 [] 4 158 [(2, 46), (2, 3)] [(2, 57), (2, 14)] μc10 [] rfl trivial ?_
  refine pm_ccall hK zmm28 hC202 hw zGm_lt zJ_loc (91, 1, 29, 2) zM29 [(2, 14), (2, 57)] [] rfl rfl rfl rfl rfl ⟨by have e : zC202.2.2.2.1 = 1 := rfl; omega, by have e : zC202.2.2.2.2.1 = 80 := rfl; rw [zn29]; omega⟩ hs202 rfl (fun t ht => by cases ht) ⟨rfl, fun h => absurd h (by decide), fun _ => rfl, rfl, fun h => absurd h (by decide), fun _ => rfl, trivial⟩ (zTy_T hw hTc10.1) hTc10.2 (fun st11 μc11 hp11 hTt11 hJ11 hfr11 => ?_)
  obtain rfl := hp11
  have hTc11 : zTJ φ μc11 := ⟨zTy_of hw hTt11, hJ11⟩
  have hz := zWc_fr hz (zRq_fr hfr11 (by decide +kernel))
  have hv := zKF_tr hv (zRl_fr hfr11 zRz_t (by decide +kernel))
  refine pm_blk hK zmm28 [] 4 169 [(2, 46), (2, 3)] [(2, 58), (2, 15)] μc11 [] rfl trivial ?_
  refine pm_ccall hK zmm28 hC203 hw zGm_lt zJ_loc (91, 1, 29, 2) zM29 [(2, 15), (2, 58)] [] rfl rfl rfl rfl rfl ⟨by have e : zC203.2.2.2.1 = 1 := rfl; omega, by have e : zC203.2.2.2.2.1 = 80 := rfl; rw [zn29]; omega⟩ hs203 rfl (fun t ht => by cases ht) ⟨rfl, fun h => absurd h (by decide), fun _ => rfl, rfl, fun h => absurd h (by decide), fun _ => rfl, trivial⟩ (zTy_T hw hTc11.1) hTc11.2 (fun st12 μc12 hp12 hTt12 hJ12 hfr12 => ?_)
  obtain rfl := hp12
  have hTc12 : zTJ φ μc12 := ⟨zTy_of hw hTt12, hJ12⟩
  have hz := zWc_fr hz (zRq_fr hfr12 (by decide +kernel))
  have hv := zKF_tr hv (zRl_fr hfr12 zRz_t (by decide +kernel))
  exact pm_vret rfl rfl ⟨rfl, hTc12, zWc_eq hz (by decide), hv⟩
set_option maxRecDepth 100000 in
theorem zh_forgetk (hK : zKK ST) (hT : zTJ φ μ) (hb96 : sx_bit Wm 96 = true) (hbd : 0 ≤ bud.1 ∧ 0 ≤ bud.2.1) : zC D Wm ST b0 l Sg zM14 bud [(2, 96)] μ (fun st' μ' => st' = [] ∧ zTJ φ μ' ∧ μ' = pm_up μ 96 3 0) := by
  refine pm_blk hK zmm14 [] 3 5 [(2, 96)] [] (pm_up μ 96 3 0) [sx_bit Wm 96 = true] rfl ⟨hb96, trivial⟩ ?_
  obtain ⟨μ1, eμ1⟩ : ∃ μ', μ' = pm_up μ 96 3 0 := ⟨_, rfl⟩
  rw [← eμ1]
  have hTμ1 : zTJ φ μ1 := by rw [eμ1]; exact zT_up hT zs96_3 rfl (i := 3) (by omega) (by omega) (by omega) (by omega)
  exact pm_vret rfl rfl ⟨rfl, hTμ1, by first | exact eμ1 | rfl⟩
set_option maxRecDepth 100000 in
theorem zh_keep (hK : zKK ST) (hw : sx_Wd zNR zRT2 B0 Sg) (hC4 : zCK φ D ST B0 l Sg zC4) (hs4 : sx_subm zC4.2.2.2.2.2 Wm = true) (hC5 : zCK φ D ST B0 l Sg zC5) (hs5 : sx_subm zC5.2.2.2.2.2 Wm = true) (hC6 : zCK φ D ST B0 l Sg zC6) (hs6 : sx_subm zC6.2.2.2.2.2 Wm = true) (hC7 : zCK φ D ST B0 l Sg zC7) (hs7 : sx_subm zC7.2.2.2.2.2 Wm = true) (hC8 : zCK φ D ST B0 l Sg zC8) (hs8 : sx_subm zC8.2.2.2.2.2 Wm = true) (hC9 : zCK φ D ST B0 l Sg zC9) (hs9 : sx_subm zC9.2.2.2.2.2 Wm = true) (hC10 : zCK φ D ST B0 l Sg zC10) (hs10 : sx_subm zC10.2.2.2.2.2 Wm = true) (hC11 : zCK φ D ST B0 l Sg zC11) (hs11 : sx_subm zC11.2.2.2.2.2 Wm = true) (hC12 : zCK φ D ST B0 l Sg zC12) (hs12 : sx_subm zC12.2.2.2.2.2 Wm = true) (hC13 : zCK φ D ST B0 l Sg zC13) (hs13 : sx_subm zC13.2.2.2.2.2 Wm = true) (hC14 : zCK φ D ST B0 l Sg zC14) (hs14 : sx_subm zC14.2.2.2.2.2 Wm = true) (hC15 : zCK φ D ST B0 l Sg zC15) (hs15 : sx_subm zC15.2.2.2.2.2 Wm = true) (hC17 : zCK φ D ST B0 l Sg zC17) (hs17 : sx_subm zC17.2.2.2.2.2 Wm = true) (hC18 : zCK φ D ST B0 l Sg zC18) (hs18 : sx_subm zC18.2.2.2.2.2 Wm = true) (hC19 : zCK φ D ST B0 l Sg zC19) (hs19 : sx_subm zC19.2.2.2.2.2 Wm = true) (hC20 : zCK φ D ST B0 l Sg zC20) (hs20 : sx_subm zC20.2.2.2.2.2 Wm = true) (hC21 : zCK φ D ST B0 l Sg zC21) (hs21 : sx_subm zC21.2.2.2.2.2 Wm = true) (hC22 : zCK φ D ST B0 l Sg zC22) (hs22 : sx_subm zC22.2.2.2.2.2 Wm = true) (hC23 : zCK φ D ST B0 l Sg zC23) (hs23 : sx_subm zC23.2.2.2.2.2 Wm = true) (hC24 : zCK φ D ST B0 l Sg zC24) (hs24 : sx_subm zC24.2.2.2.2.2 Wm = true) (hC25 : zCK φ D ST B0 l Sg zC25) (hs25 : sx_subm zC25.2.2.2.2.2 Wm = true) (hC26 : zCK φ D ST B0 l Sg zC26) (hs26 : sx_subm zC26.2.2.2.2.2 Wm = true) (hC27 : zCK φ D ST B0 l Sg zC27) (hs27 : sx_subm zC27.2.2.2.2.2 Wm = true) (hC28 : zCK φ D ST B0 l Sg zC28) (hs28 : sx_subm zC28.2.2.2.2.2 Wm = true) (hC30 : zCK φ D ST B0 l Sg zC30) (hs30 : sx_subm zC30.2.2.2.2.2 Wm = true) (hC31 : zCK φ D ST B0 l Sg zC31) (hs31 : sx_subm zC31.2.2.2.2.2 Wm = true) (hC32 : zCK φ D ST B0 l Sg zC32) (hs32 : sx_subm zC32.2.2.2.2.2 Wm = true) (hC33 : zCK φ D ST B0 l Sg zC33) (hs33 : sx_subm zC33.2.2.2.2.2 Wm = true) (hC34 : zCK φ D ST B0 l Sg zC34) (hs34 : sx_subm zC34.2.2.2.2.2 Wm = true) (hC35 : zCK φ D ST B0 l Sg zC35) (hs35 : sx_subm zC35.2.2.2.2.2 Wm = true) (hC36 : zCK φ D ST B0 l Sg zC36) (hs36 : sx_subm zC36.2.2.2.2.2 Wm = true) (hC37 : zCK φ D ST B0 l Sg zC37) (hs37 : sx_subm zC37.2.2.2.2.2 Wm = true) (hC38 : zCK φ D ST B0 l Sg zC38) (hs38 : sx_subm zC38.2.2.2.2.2 Wm = true) (hC39 : zCK φ D ST B0 l Sg zC39) (hs39 : sx_subm zC39.2.2.2.2.2 Wm = true) (hC40 : zCK φ D ST B0 l Sg zC40) (hs40 : sx_subm zC40.2.2.2.2.2 Wm = true) (hC41 : zCK φ D ST B0 l Sg zC41) (hs41 : sx_subm zC41.2.2.2.2.2 Wm = true) (hC43 : zCK φ D ST B0 l Sg zC43) (hs43 : sx_subm zC43.2.2.2.2.2 Wm = true) (hC44 : zCK φ D ST B0 l Sg zC44) (hs44 : sx_subm zC44.2.2.2.2.2 Wm = true) (hC45 : zCK φ D ST B0 l Sg zC45) (hs45 : sx_subm zC45.2.2.2.2.2 Wm = true) (hC46 : zCK φ D ST B0 l Sg zC46) (hs46 : sx_subm zC46.2.2.2.2.2 Wm = true) (hC47 : zCK φ D ST B0 l Sg zC47) (hs47 : sx_subm zC47.2.2.2.2.2 Wm = true) (hC48 : zCK φ D ST B0 l Sg zC48) (hs48 : sx_subm zC48.2.2.2.2.2 Wm = true) (hC49 : zCK φ D ST B0 l Sg zC49) (hs49 : sx_subm zC49.2.2.2.2.2 Wm = true) (hC50 : zCK φ D ST B0 l Sg zC50) (hs50 : sx_subm zC50.2.2.2.2.2 Wm = true) (hC51 : zCK φ D ST B0 l Sg zC51) (hs51 : sx_subm zC51.2.2.2.2.2 Wm = true) (hC52 : zCK φ D ST B0 l Sg zC52) (hs52 : sx_subm zC52.2.2.2.2.2 Wm = true) (hC53 : zCK φ D ST B0 l Sg zC53) (hs53 : sx_subm zC53.2.2.2.2.2 Wm = true) (hC54 : zCK φ D ST B0 l Sg zC54) (hs54 : sx_subm zC54.2.2.2.2.2 Wm = true) (hC56 : zCK φ D ST B0 l Sg zC56) (hs56 : sx_subm zC56.2.2.2.2.2 Wm = true) (hC57 : zCK φ D ST B0 l Sg zC57) (hs57 : sx_subm zC57.2.2.2.2.2 Wm = true) (hC58 : zCK φ D ST B0 l Sg zC58) (hs58 : sx_subm zC58.2.2.2.2.2 Wm = true) (hC59 : zCK φ D ST B0 l Sg zC59) (hs59 : sx_subm zC59.2.2.2.2.2 Wm = true) (hC60 : zCK φ D ST B0 l Sg zC60) (hs60 : sx_subm zC60.2.2.2.2.2 Wm = true) (hC61 : zCK φ D ST B0 l Sg zC61) (hs61 : sx_subm zC61.2.2.2.2.2 Wm = true) (hC62 : zCK φ D ST B0 l Sg zC62) (hs62 : sx_subm zC62.2.2.2.2.2 Wm = true) (hC63 : zCK φ D ST B0 l Sg zC63) (hs63 : sx_subm zC63.2.2.2.2.2 Wm = true) (hC64 : zCK φ D ST B0 l Sg zC64) (hs64 : sx_subm zC64.2.2.2.2.2 Wm = true) (hC65 : zCK φ D ST B0 l Sg zC65) (hs65 : sx_subm zC65.2.2.2.2.2 Wm = true) (hC66 : zCK φ D ST B0 l Sg zC66) (hs66 : sx_subm zC66.2.2.2.2.2 Wm = true) (hC67 : zCK φ D ST B0 l Sg zC67) (hs67 : sx_subm zC67.2.2.2.2.2 Wm = true) (hC69 : zCK φ D ST B0 l Sg zC69) (hs69 : sx_subm zC69.2.2.2.2.2 Wm = true) (hC70 : zCK φ D ST B0 l Sg zC70) (hs70 : sx_subm zC70.2.2.2.2.2 Wm = true) (hC71 : zCK φ D ST B0 l Sg zC71) (hs71 : sx_subm zC71.2.2.2.2.2 Wm = true) (hC72 : zCK φ D ST B0 l Sg zC72) (hs72 : sx_subm zC72.2.2.2.2.2 Wm = true) (hC73 : zCK φ D ST B0 l Sg zC73) (hs73 : sx_subm zC73.2.2.2.2.2 Wm = true) (hC74 : zCK φ D ST B0 l Sg zC74) (hs74 : sx_subm zC74.2.2.2.2.2 Wm = true) (hC75 : zCK φ D ST B0 l Sg zC75) (hs75 : sx_subm zC75.2.2.2.2.2 Wm = true) (hC76 : zCK φ D ST B0 l Sg zC76) (hs76 : sx_subm zC76.2.2.2.2.2 Wm = true) (hC77 : zCK φ D ST B0 l Sg zC77) (hs77 : sx_subm zC77.2.2.2.2.2 Wm = true) (hC78 : zCK φ D ST B0 l Sg zC78) (hs78 : sx_subm zC78.2.2.2.2.2 Wm = true) (hC79 : zCK φ D ST B0 l Sg zC79) (hs79 : sx_subm zC79.2.2.2.2.2 Wm = true) (hC80 : zCK φ D ST B0 l Sg zC80) (hs80 : sx_subm zC80.2.2.2.2.2 Wm = true) (hT : zTJ φ μ) (hb96 : sx_bit Wm 96 = true) (hb98 : sx_bit Wm 98 = true) (hb99 : sx_bit Wm 99 = true) (hb112 : sx_bit Wm 112 = true) (hb125 : sx_bit Wm 125 = true) (hb138 : sx_bit Wm 138 = true) (hb151 : sx_bit Wm 151 = true) (hb164 : sx_bit Wm 164 = true) (hbd : 3 ≤ bud.1 ∧ 122 ≤ bud.2.1) : zC D Wm ST (sx_bW zRT2 Wm B0 Sg, J) l Sg zM27 bud [(2, 96), (2, 2)] μ (fun st' μ' => st' = [] ∧ zTJ φ μ' ∧ zKC μ μ' ∧ zKF μ μ') := by
  have f92 := zT_get hT zs96_2 (i := 2) (by omega) (by omega)
  have f93 := zT_get hT zs96_3 (i := 3) (by omega) (by omega)
  have f1 := zT_get hT zs96_2 (i := 2) (by omega) (by omega)
  refine pm_blk hK zmm27 [] 4 8 [(2, 96), (2, 2)] [(0, μ 96 2), (2, 97)] μ [] rfl trivial ?_
  have hk0 : μ 96 2 = ((0 : Nat) : Int) ∨ μ 96 2 = ((1 : Nat) : Int) ∨ μ 96 2 = ((2 : Nat) : Int) ∨ μ 96 2 = ((3 : Nat) : Int) ∨ μ 96 2 = ((4 : Nat) : Int) ∨ μ 96 2 = ((5 : Nat) : Int) := by omega
  rcases hk0 with hk0 | hk0 | hk0 | hk0 | hk0 | hk0
  · refine zp_aald hK zmm27 (r := 97) (q := 99) (k := 0) (g := zG97) (t := (2, 99, 0)) rfl rfl (by decide) hk0 rfl rfl rfl rfl ?_
    refine pm_blk hK zmm27 [] 2 13 [(2, 96), (2, 2)] [(2, 3), (2, 99)] μ [] rfl trivial ?_
    refine pm_call hK zmm27 (33, 0, 28, 1) zM28 (2, 101) [(2, 99), (2, 3)] [] rfl rfl rfl rfl ⟨by omega, by rw [zn28]; omega⟩ (zh_ac99_3 hK hw hC69 hs69 hC70 hs70 hC71 hs71 hC72 hs72 hC73 hs73 hC74 hs74 hC75 hs75 hC76 hs76 hC77 hs77 hC78 hs78 hC79 hs79 hC80 hs80 hT hb99 ⟨Nat.le_refl _, Nat.le_refl _⟩) (fun st1 μc1 hp1 => ?_)
    obtain ⟨rfl, hTc1, hz1, hv1⟩ := hp1
    have hz := hz1
    have hv := hv1
    have n2 : μc1 96 2 = μ 96 2 := zWc_ne hz (q := (96, 2)) (by decide) (by decide)
    have n3 : μc1 96 3 = μ 96 3 := zWc_ne hz (q := (96, 3)) (by decide) (by decide)
    have f2 := zT_get hTc1 zs96_2 (i := 2) (by omega) (by omega)
    have f3 := zT_get hTc1 zs2_2 (i := 2) (by omega) (by omega)
    refine pm_blk hK zmm27 [] 7 29 [(2, 96), (2, 2)] [] (pm_up μc1 98 (μc1 96 2) (μc1 2 2)) [sx_bit Wm 98 = true, 0 ≤ μc1 96 2 ∧ μc1 96 2 < 6] rfl ⟨hb98, ⟨by omega, by omega⟩, trivial⟩ ?_
    obtain ⟨μ1, eμ1⟩ : ∃ μ', μ' = pm_up μc1 98 (μc1 96 2) (μc1 2 2) := ⟨_, rfl⟩
    rw [← eμ1]
    have hTμ1 : zTJ φ μ1 := by rw [eμ1]; exact zT_up hTc1 zs98_0 rfl (i := μc1 96 2) (by omega) (by omega) (by omega) (by omega)
    have hv := zKF_up hv eμ1 (by decide)
    have q1 : ∀ q ∈ zRq, μ1 q.1 (q.2 : Int) = μc1 q.1 (q.2 : Int) := fun q hq => by rw [eμ1, pm_up_off ((show ∀ q ∈ zRq, q.1 ≠ 98 by decide) q hq)]
    have n2 : μ1 96 2 = μ 96 2 := (q1 (96, 2) (by decide)).trans n2
    have n3 : μ1 96 3 = μ 96 3 := (q1 (96, 3) (by decide)).trans n3
    have g4 : μ1 96 2 = μc1 96 2 := by rw [eμ1, pm_up_off (by decide)]
    have f5 := zT_get hTμ1 zs96_2 (i := 2) (by omega) (by omega)
    refine pm_blk hK zmm27 [] 4 35 [(2, 96), (2, 2)] [(0, 5), (0, μ1 96 2), (2, 96)] μ1 [] rfl trivial ?_
    refine pm_icmp hK zmm27 .ne 7 42 rfl rfl (fun h1 => ?_) (fun h1 => ?_)
    · have h1 : μ1 96 2 ≠ (5 : Int) := h1
      refine pm_blk hK zmm27 [] 5 51 [(2, 96), (2, 2)] [] (pm_up μ1 96 2 ((μ1 96 2) + 1)) [pm_in ((μ1 96 2) + 1), sx_bit Wm 96 = true] rfl ⟨pm_in_mk (by omega) (by omega), hb96, trivial⟩ ?_
      obtain ⟨μ2, eμ2⟩ : ∃ μ', μ' = pm_up μ1 96 2 ((μ1 96 2) + 1) := ⟨_, rfl⟩
      rw [← eμ2]
      have hTμ2 : zTJ φ μ2 := by rw [eμ2]; exact zT_up hTμ1 zs96_2 rfl (i := 2) (by omega) (by omega) (by omega) (by omega)
      have hv := zKF_up hv eμ2 (by decide)
      have q2 : ∀ q ∈ zRq, q ≠ (96, 2) → μ2 q.1 (q.2 : Int) = μ1 q.1 (q.2 : Int) := fun q hq hne => by rw [eμ2]; exact pm_upq (k := 2) (i := 2) rfl hne
      have d2 : μ2 96 2 = if μ 96 2 = 5 then 0 else μ 96 2 + 1 := by rw [eμ2, pm_up_eq]; first | (exfalso; omega) | rw [if_pos (by omega)] | (rw [if_neg (by omega)]; omega)
      have d3 : μ2 96 3 = μ 96 3 := (q2 (96, 3) (by decide) (by decide)).trans n3
      have f6 := zT_get hTμ2 zs96_3 (i := 3) (by omega) (by omega)
      refine pm_blk hK zmm27 [] 6 60 [(2, 96), (2, 2)] [(0, (μ2 96 3) + 1), (0, 6), (2, 96)] μ2 [pm_in ((μ2 96 3) + 1)] rfl ⟨pm_in_mk (by omega) (by omega), trivial⟩ ?_
      refine pm_call hK zmm27 (39, 1, 30, 2) zM30 (0, 0) [(0, 6), (0, (μ2 96 3) + 1)] [(2, 96)] rfl rfl rfl rfl ⟨by omega, by rw [zn30]; omega⟩ (zh_min hK ⟨Nat.le_refl _, Nat.le_refl _⟩) (fun st2 μc2 hp2 => ?_)
      obtain ⟨rfl, rfl⟩ := hp2
      refine pm_blk hK zmm27 [] 1 66 [(2, 96), (2, 2)] [] (pm_up μ2 96 3 (min 6 ((μ2 96 3) + 1))) [sx_bit Wm 96 = true] rfl ⟨hb96, trivial⟩ ?_
      obtain ⟨μ3, eμ3⟩ : ∃ μ', μ' = pm_up μ2 96 3 (min 6 ((μ2 96 3) + 1)) := ⟨_, rfl⟩
      rw [← eμ3]
      have hTμ3 : zTJ φ μ3 := by rw [eμ3]; exact zT_up hTμ2 zs96_3 rfl (i := 3) (by omega) (by omega) (by omega) (by omega)
      have q3 : ∀ q ∈ zRq, q ≠ (96, 3) → μ3 q.1 (q.2 : Int) = μ2 q.1 (q.2 : Int) := fun q hq hne => by rw [eμ3]; exact pm_upq (k := 3) (i := 3) rfl hne
      exact pm_vret rfl rfl ⟨rfl, hTμ3, zKC_keep (n := 0) (by decide) hk0 ⟨by omega, by omega⟩ hz (fun q hq h2 h3 => ((q3 q hq h3).trans (q2 q hq h2)).trans (q1 q hq)) ((q3 (96, 2) (by decide) (by decide)).trans d2) (by rw [eμ3, pm_up_eq]; omega), zKF_up hv eμ3 (by decide)⟩
    · have h1 : μ1 96 2 = (5 : Int) := h1
      refine pm_blk hK zmm27 [] 3 51 [(2, 96), (2, 2)] [] (pm_up μ1 96 2 0) [sx_bit Wm 96 = true] rfl ⟨hb96, trivial⟩ ?_
      obtain ⟨μ4, eμ4⟩ : ∃ μ', μ' = pm_up μ1 96 2 0 := ⟨_, rfl⟩
      rw [← eμ4]
      have hTμ4 : zTJ φ μ4 := by rw [eμ4]; exact zT_up hTμ1 zs96_2 rfl (i := 2) (by omega) (by omega) (by omega) (by omega)
      have hv := zKF_up hv eμ4 (by decide)
      have q2 : ∀ q ∈ zRq, q ≠ (96, 2) → μ4 q.1 (q.2 : Int) = μ1 q.1 (q.2 : Int) := fun q hq hne => by rw [eμ4]; exact pm_upq (k := 2) (i := 2) rfl hne
      have d2 : μ4 96 2 = if μ 96 2 = 5 then 0 else μ 96 2 + 1 := by rw [eμ4, pm_up_eq]; first | (exfalso; omega) | rw [if_pos (by omega)] | (rw [if_neg (by omega)]; omega)
      have d3 : μ4 96 3 = μ 96 3 := (q2 (96, 3) (by decide) (by decide)).trans n3
      have f7 := zT_get hTμ4 zs96_3 (i := 3) (by omega) (by omega)
      refine pm_blk hK zmm27 [] 6 60 [(2, 96), (2, 2)] [(0, (μ4 96 3) + 1), (0, 6), (2, 96)] μ4 [pm_in ((μ4 96 3) + 1)] rfl ⟨pm_in_mk (by omega) (by omega), trivial⟩ ?_
      refine pm_call hK zmm27 (39, 1, 30, 2) zM30 (0, 0) [(0, 6), (0, (μ4 96 3) + 1)] [(2, 96)] rfl rfl rfl rfl ⟨by omega, by rw [zn30]; omega⟩ (zh_min hK ⟨Nat.le_refl _, Nat.le_refl _⟩) (fun st3 μc3 hp3 => ?_)
      obtain ⟨rfl, rfl⟩ := hp3
      refine pm_blk hK zmm27 [] 1 66 [(2, 96), (2, 2)] [] (pm_up μ4 96 3 (min 6 ((μ4 96 3) + 1))) [sx_bit Wm 96 = true] rfl ⟨hb96, trivial⟩ ?_
      obtain ⟨μ5, eμ5⟩ : ∃ μ', μ' = pm_up μ4 96 3 (min 6 ((μ4 96 3) + 1)) := ⟨_, rfl⟩
      rw [← eμ5]
      have hTμ5 : zTJ φ μ5 := by rw [eμ5]; exact zT_up hTμ4 zs96_3 rfl (i := 3) (by omega) (by omega) (by omega) (by omega)
      have q3 : ∀ q ∈ zRq, q ≠ (96, 3) → μ5 q.1 (q.2 : Int) = μ4 q.1 (q.2 : Int) := fun q hq hne => by rw [eμ5]; exact pm_upq (k := 3) (i := 3) rfl hne
      exact pm_vret rfl rfl ⟨rfl, hTμ5, zKC_keep (n := 0) (by decide) hk0 ⟨by omega, by omega⟩ hz (fun q hq h2 h3 => ((q3 q hq h3).trans (q2 q hq h2)).trans (q1 q hq)) ((q3 (96, 2) (by decide) (by decide)).trans d2) (by rw [eμ5, pm_up_eq]; omega), zKF_up hv eμ5 (by decide)⟩
  · refine zp_aald hK zmm27 (r := 97) (q := 112) (k := 1) (g := zG97) (t := (2, 112, 0)) rfl rfl (by decide) hk0 rfl rfl rfl rfl ?_
    refine pm_blk hK zmm27 [] 2 13 [(2, 96), (2, 2)] [(2, 3), (2, 112)] μ [] rfl trivial ?_
    refine pm_call hK zmm27 (33, 0, 28, 1) zM28 (2, 101) [(2, 112), (2, 3)] [] rfl rfl rfl rfl ⟨by omega, by rw [zn28]; omega⟩ (zh_ac112_3 hK hw hC4 hs4 hC5 hs5 hC6 hs6 hC7 hs7 hC8 hs8 hC9 hs9 hC10 hs10 hC11 hs11 hC12 hs12 hC13 hs13 hC14 hs14 hC15 hs15 hT hb112 ⟨Nat.le_refl _, Nat.le_refl _⟩) (fun st4 μc4 hp4 => ?_)
    obtain ⟨rfl, hTc4, hz4, hv4⟩ := hp4
    have hz := hz4
    have hv := hv4
    have n2 : μc4 96 2 = μ 96 2 := zWc_ne hz (q := (96, 2)) (by decide) (by decide)
    have n3 : μc4 96 3 = μ 96 3 := zWc_ne hz (q := (96, 3)) (by decide) (by decide)
    have f8 := zT_get hTc4 zs96_2 (i := 2) (by omega) (by omega)
    have f9 := zT_get hTc4 zs2_2 (i := 2) (by omega) (by omega)
    refine pm_blk hK zmm27 [] 7 29 [(2, 96), (2, 2)] [] (pm_up μc4 98 (μc4 96 2) (μc4 2 2)) [sx_bit Wm 98 = true, 0 ≤ μc4 96 2 ∧ μc4 96 2 < 6] rfl ⟨hb98, ⟨by omega, by omega⟩, trivial⟩ ?_
    obtain ⟨μ6, eμ6⟩ : ∃ μ', μ' = pm_up μc4 98 (μc4 96 2) (μc4 2 2) := ⟨_, rfl⟩
    rw [← eμ6]
    have hTμ6 : zTJ φ μ6 := by rw [eμ6]; exact zT_up hTc4 zs98_0 rfl (i := μc4 96 2) (by omega) (by omega) (by omega) (by omega)
    have hv := zKF_up hv eμ6 (by decide)
    have q1 : ∀ q ∈ zRq, μ6 q.1 (q.2 : Int) = μc4 q.1 (q.2 : Int) := fun q hq => by rw [eμ6, pm_up_off ((show ∀ q ∈ zRq, q.1 ≠ 98 by decide) q hq)]
    have n2 : μ6 96 2 = μ 96 2 := (q1 (96, 2) (by decide)).trans n2
    have n3 : μ6 96 3 = μ 96 3 := (q1 (96, 3) (by decide)).trans n3
    have g10 : μ6 96 2 = μc4 96 2 := by rw [eμ6, pm_up_off (by decide)]
    have f11 := zT_get hTμ6 zs96_2 (i := 2) (by omega) (by omega)
    refine pm_blk hK zmm27 [] 4 35 [(2, 96), (2, 2)] [(0, 5), (0, μ6 96 2), (2, 96)] μ6 [] rfl trivial ?_
    refine pm_icmp hK zmm27 .ne 7 42 rfl rfl (fun h2 => ?_) (fun h2 => ?_)
    · have h2 : μ6 96 2 ≠ (5 : Int) := h2
      refine pm_blk hK zmm27 [] 5 51 [(2, 96), (2, 2)] [] (pm_up μ6 96 2 ((μ6 96 2) + 1)) [pm_in ((μ6 96 2) + 1), sx_bit Wm 96 = true] rfl ⟨pm_in_mk (by omega) (by omega), hb96, trivial⟩ ?_
      obtain ⟨μ7, eμ7⟩ : ∃ μ', μ' = pm_up μ6 96 2 ((μ6 96 2) + 1) := ⟨_, rfl⟩
      rw [← eμ7]
      have hTμ7 : zTJ φ μ7 := by rw [eμ7]; exact zT_up hTμ6 zs96_2 rfl (i := 2) (by omega) (by omega) (by omega) (by omega)
      have hv := zKF_up hv eμ7 (by decide)
      have q2 : ∀ q ∈ zRq, q ≠ (96, 2) → μ7 q.1 (q.2 : Int) = μ6 q.1 (q.2 : Int) := fun q hq hne => by rw [eμ7]; exact pm_upq (k := 2) (i := 2) rfl hne
      have d2 : μ7 96 2 = if μ 96 2 = 5 then 0 else μ 96 2 + 1 := by rw [eμ7, pm_up_eq]; first | (exfalso; omega) | rw [if_pos (by omega)] | (rw [if_neg (by omega)]; omega)
      have d3 : μ7 96 3 = μ 96 3 := (q2 (96, 3) (by decide) (by decide)).trans n3
      have f12 := zT_get hTμ7 zs96_3 (i := 3) (by omega) (by omega)
      refine pm_blk hK zmm27 [] 6 60 [(2, 96), (2, 2)] [(0, (μ7 96 3) + 1), (0, 6), (2, 96)] μ7 [pm_in ((μ7 96 3) + 1)] rfl ⟨pm_in_mk (by omega) (by omega), trivial⟩ ?_
      refine pm_call hK zmm27 (39, 1, 30, 2) zM30 (0, 0) [(0, 6), (0, (μ7 96 3) + 1)] [(2, 96)] rfl rfl rfl rfl ⟨by omega, by rw [zn30]; omega⟩ (zh_min hK ⟨Nat.le_refl _, Nat.le_refl _⟩) (fun st5 μc5 hp5 => ?_)
      obtain ⟨rfl, rfl⟩ := hp5
      refine pm_blk hK zmm27 [] 1 66 [(2, 96), (2, 2)] [] (pm_up μ7 96 3 (min 6 ((μ7 96 3) + 1))) [sx_bit Wm 96 = true] rfl ⟨hb96, trivial⟩ ?_
      obtain ⟨μ8, eμ8⟩ : ∃ μ', μ' = pm_up μ7 96 3 (min 6 ((μ7 96 3) + 1)) := ⟨_, rfl⟩
      rw [← eμ8]
      have hTμ8 : zTJ φ μ8 := by rw [eμ8]; exact zT_up hTμ7 zs96_3 rfl (i := 3) (by omega) (by omega) (by omega) (by omega)
      have q3 : ∀ q ∈ zRq, q ≠ (96, 3) → μ8 q.1 (q.2 : Int) = μ7 q.1 (q.2 : Int) := fun q hq hne => by rw [eμ8]; exact pm_upq (k := 3) (i := 3) rfl hne
      exact pm_vret rfl rfl ⟨rfl, hTμ8, zKC_keep (n := 1) (by decide) hk0 ⟨by omega, by omega⟩ hz (fun q hq h2 h3 => ((q3 q hq h3).trans (q2 q hq h2)).trans (q1 q hq)) ((q3 (96, 2) (by decide) (by decide)).trans d2) (by rw [eμ8, pm_up_eq]; omega), zKF_up hv eμ8 (by decide)⟩
    · have h2 : μ6 96 2 = (5 : Int) := h2
      refine pm_blk hK zmm27 [] 3 51 [(2, 96), (2, 2)] [] (pm_up μ6 96 2 0) [sx_bit Wm 96 = true] rfl ⟨hb96, trivial⟩ ?_
      obtain ⟨μ9, eμ9⟩ : ∃ μ', μ' = pm_up μ6 96 2 0 := ⟨_, rfl⟩
      rw [← eμ9]
      have hTμ9 : zTJ φ μ9 := by rw [eμ9]; exact zT_up hTμ6 zs96_2 rfl (i := 2) (by omega) (by omega) (by omega) (by omega)
      have hv := zKF_up hv eμ9 (by decide)
      have q2 : ∀ q ∈ zRq, q ≠ (96, 2) → μ9 q.1 (q.2 : Int) = μ6 q.1 (q.2 : Int) := fun q hq hne => by rw [eμ9]; exact pm_upq (k := 2) (i := 2) rfl hne
      have d2 : μ9 96 2 = if μ 96 2 = 5 then 0 else μ 96 2 + 1 := by rw [eμ9, pm_up_eq]; first | (exfalso; omega) | rw [if_pos (by omega)] | (rw [if_neg (by omega)]; omega)
      have d3 : μ9 96 3 = μ 96 3 := (q2 (96, 3) (by decide) (by decide)).trans n3
      have f13 := zT_get hTμ9 zs96_3 (i := 3) (by omega) (by omega)
      refine pm_blk hK zmm27 [] 6 60 [(2, 96), (2, 2)] [(0, (μ9 96 3) + 1), (0, 6), (2, 96)] μ9 [pm_in ((μ9 96 3) + 1)] rfl ⟨pm_in_mk (by omega) (by omega), trivial⟩ ?_
      refine pm_call hK zmm27 (39, 1, 30, 2) zM30 (0, 0) [(0, 6), (0, (μ9 96 3) + 1)] [(2, 96)] rfl rfl rfl rfl ⟨by omega, by rw [zn30]; omega⟩ (zh_min hK ⟨Nat.le_refl _, Nat.le_refl _⟩) (fun st6 μc6 hp6 => ?_)
      obtain ⟨rfl, rfl⟩ := hp6
      refine pm_blk hK zmm27 [] 1 66 [(2, 96), (2, 2)] [] (pm_up μ9 96 3 (min 6 ((μ9 96 3) + 1))) [sx_bit Wm 96 = true] rfl ⟨hb96, trivial⟩ ?_
      obtain ⟨μ10, eμ10⟩ : ∃ μ', μ' = pm_up μ9 96 3 (min 6 ((μ9 96 3) + 1)) := ⟨_, rfl⟩
      rw [← eμ10]
      have hTμ10 : zTJ φ μ10 := by rw [eμ10]; exact zT_up hTμ9 zs96_3 rfl (i := 3) (by omega) (by omega) (by omega) (by omega)
      have q3 : ∀ q ∈ zRq, q ≠ (96, 3) → μ10 q.1 (q.2 : Int) = μ9 q.1 (q.2 : Int) := fun q hq hne => by rw [eμ10]; exact pm_upq (k := 3) (i := 3) rfl hne
      exact pm_vret rfl rfl ⟨rfl, hTμ10, zKC_keep (n := 1) (by decide) hk0 ⟨by omega, by omega⟩ hz (fun q hq h2 h3 => ((q3 q hq h3).trans (q2 q hq h2)).trans (q1 q hq)) ((q3 (96, 2) (by decide) (by decide)).trans d2) (by rw [eμ10, pm_up_eq]; omega), zKF_up hv eμ10 (by decide)⟩
  · refine zp_aald hK zmm27 (r := 97) (q := 125) (k := 2) (g := zG97) (t := (2, 125, 0)) rfl rfl (by decide) hk0 rfl rfl rfl rfl ?_
    refine pm_blk hK zmm27 [] 2 13 [(2, 96), (2, 2)] [(2, 3), (2, 125)] μ [] rfl trivial ?_
    refine pm_call hK zmm27 (33, 0, 28, 1) zM28 (2, 101) [(2, 125), (2, 3)] [] rfl rfl rfl rfl ⟨by omega, by rw [zn28]; omega⟩ (zh_ac125_3 hK hw hC17 hs17 hC18 hs18 hC19 hs19 hC20 hs20 hC21 hs21 hC22 hs22 hC23 hs23 hC24 hs24 hC25 hs25 hC26 hs26 hC27 hs27 hC28 hs28 hT hb125 ⟨Nat.le_refl _, Nat.le_refl _⟩) (fun st7 μc7 hp7 => ?_)
    obtain ⟨rfl, hTc7, hz7, hv7⟩ := hp7
    have hz := hz7
    have hv := hv7
    have n2 : μc7 96 2 = μ 96 2 := zWc_ne hz (q := (96, 2)) (by decide) (by decide)
    have n3 : μc7 96 3 = μ 96 3 := zWc_ne hz (q := (96, 3)) (by decide) (by decide)
    have f14 := zT_get hTc7 zs96_2 (i := 2) (by omega) (by omega)
    have f15 := zT_get hTc7 zs2_2 (i := 2) (by omega) (by omega)
    refine pm_blk hK zmm27 [] 7 29 [(2, 96), (2, 2)] [] (pm_up μc7 98 (μc7 96 2) (μc7 2 2)) [sx_bit Wm 98 = true, 0 ≤ μc7 96 2 ∧ μc7 96 2 < 6] rfl ⟨hb98, ⟨by omega, by omega⟩, trivial⟩ ?_
    obtain ⟨μ11, eμ11⟩ : ∃ μ', μ' = pm_up μc7 98 (μc7 96 2) (μc7 2 2) := ⟨_, rfl⟩
    rw [← eμ11]
    have hTμ11 : zTJ φ μ11 := by rw [eμ11]; exact zT_up hTc7 zs98_0 rfl (i := μc7 96 2) (by omega) (by omega) (by omega) (by omega)
    have hv := zKF_up hv eμ11 (by decide)
    have q1 : ∀ q ∈ zRq, μ11 q.1 (q.2 : Int) = μc7 q.1 (q.2 : Int) := fun q hq => by rw [eμ11, pm_up_off ((show ∀ q ∈ zRq, q.1 ≠ 98 by decide) q hq)]
    have n2 : μ11 96 2 = μ 96 2 := (q1 (96, 2) (by decide)).trans n2
    have n3 : μ11 96 3 = μ 96 3 := (q1 (96, 3) (by decide)).trans n3
    have g16 : μ11 96 2 = μc7 96 2 := by rw [eμ11, pm_up_off (by decide)]
    have f17 := zT_get hTμ11 zs96_2 (i := 2) (by omega) (by omega)
    refine pm_blk hK zmm27 [] 4 35 [(2, 96), (2, 2)] [(0, 5), (0, μ11 96 2), (2, 96)] μ11 [] rfl trivial ?_
    refine pm_icmp hK zmm27 .ne 7 42 rfl rfl (fun h3 => ?_) (fun h3 => ?_)
    · have h3 : μ11 96 2 ≠ (5 : Int) := h3
      refine pm_blk hK zmm27 [] 5 51 [(2, 96), (2, 2)] [] (pm_up μ11 96 2 ((μ11 96 2) + 1)) [pm_in ((μ11 96 2) + 1), sx_bit Wm 96 = true] rfl ⟨pm_in_mk (by omega) (by omega), hb96, trivial⟩ ?_
      obtain ⟨μ12, eμ12⟩ : ∃ μ', μ' = pm_up μ11 96 2 ((μ11 96 2) + 1) := ⟨_, rfl⟩
      rw [← eμ12]
      have hTμ12 : zTJ φ μ12 := by rw [eμ12]; exact zT_up hTμ11 zs96_2 rfl (i := 2) (by omega) (by omega) (by omega) (by omega)
      have hv := zKF_up hv eμ12 (by decide)
      have q2 : ∀ q ∈ zRq, q ≠ (96, 2) → μ12 q.1 (q.2 : Int) = μ11 q.1 (q.2 : Int) := fun q hq hne => by rw [eμ12]; exact pm_upq (k := 2) (i := 2) rfl hne
      have d2 : μ12 96 2 = if μ 96 2 = 5 then 0 else μ 96 2 + 1 := by rw [eμ12, pm_up_eq]; first | (exfalso; omega) | rw [if_pos (by omega)] | (rw [if_neg (by omega)]; omega)
      have d3 : μ12 96 3 = μ 96 3 := (q2 (96, 3) (by decide) (by decide)).trans n3
      have f18 := zT_get hTμ12 zs96_3 (i := 3) (by omega) (by omega)
      refine pm_blk hK zmm27 [] 6 60 [(2, 96), (2, 2)] [(0, (μ12 96 3) + 1), (0, 6), (2, 96)] μ12 [pm_in ((μ12 96 3) + 1)] rfl ⟨pm_in_mk (by omega) (by omega), trivial⟩ ?_
      refine pm_call hK zmm27 (39, 1, 30, 2) zM30 (0, 0) [(0, 6), (0, (μ12 96 3) + 1)] [(2, 96)] rfl rfl rfl rfl ⟨by omega, by rw [zn30]; omega⟩ (zh_min hK ⟨Nat.le_refl _, Nat.le_refl _⟩) (fun st8 μc8 hp8 => ?_)
      obtain ⟨rfl, rfl⟩ := hp8
      refine pm_blk hK zmm27 [] 1 66 [(2, 96), (2, 2)] [] (pm_up μ12 96 3 (min 6 ((μ12 96 3) + 1))) [sx_bit Wm 96 = true] rfl ⟨hb96, trivial⟩ ?_
      obtain ⟨μ13, eμ13⟩ : ∃ μ', μ' = pm_up μ12 96 3 (min 6 ((μ12 96 3) + 1)) := ⟨_, rfl⟩
      rw [← eμ13]
      have hTμ13 : zTJ φ μ13 := by rw [eμ13]; exact zT_up hTμ12 zs96_3 rfl (i := 3) (by omega) (by omega) (by omega) (by omega)
      have q3 : ∀ q ∈ zRq, q ≠ (96, 3) → μ13 q.1 (q.2 : Int) = μ12 q.1 (q.2 : Int) := fun q hq hne => by rw [eμ13]; exact pm_upq (k := 3) (i := 3) rfl hne
      exact pm_vret rfl rfl ⟨rfl, hTμ13, zKC_keep (n := 2) (by decide) hk0 ⟨by omega, by omega⟩ hz (fun q hq h2 h3 => ((q3 q hq h3).trans (q2 q hq h2)).trans (q1 q hq)) ((q3 (96, 2) (by decide) (by decide)).trans d2) (by rw [eμ13, pm_up_eq]; omega), zKF_up hv eμ13 (by decide)⟩
    · have h3 : μ11 96 2 = (5 : Int) := h3
      refine pm_blk hK zmm27 [] 3 51 [(2, 96), (2, 2)] [] (pm_up μ11 96 2 0) [sx_bit Wm 96 = true] rfl ⟨hb96, trivial⟩ ?_
      obtain ⟨μ14, eμ14⟩ : ∃ μ', μ' = pm_up μ11 96 2 0 := ⟨_, rfl⟩
      rw [← eμ14]
      have hTμ14 : zTJ φ μ14 := by rw [eμ14]; exact zT_up hTμ11 zs96_2 rfl (i := 2) (by omega) (by omega) (by omega) (by omega)
      have hv := zKF_up hv eμ14 (by decide)
      have q2 : ∀ q ∈ zRq, q ≠ (96, 2) → μ14 q.1 (q.2 : Int) = μ11 q.1 (q.2 : Int) := fun q hq hne => by rw [eμ14]; exact pm_upq (k := 2) (i := 2) rfl hne
      have d2 : μ14 96 2 = if μ 96 2 = 5 then 0 else μ 96 2 + 1 := by rw [eμ14, pm_up_eq]; first | (exfalso; omega) | rw [if_pos (by omega)] | (rw [if_neg (by omega)]; omega)
      have d3 : μ14 96 3 = μ 96 3 := (q2 (96, 3) (by decide) (by decide)).trans n3
      have f19 := zT_get hTμ14 zs96_3 (i := 3) (by omega) (by omega)
      refine pm_blk hK zmm27 [] 6 60 [(2, 96), (2, 2)] [(0, (μ14 96 3) + 1), (0, 6), (2, 96)] μ14 [pm_in ((μ14 96 3) + 1)] rfl ⟨pm_in_mk (by omega) (by omega), trivial⟩ ?_
      refine pm_call hK zmm27 (39, 1, 30, 2) zM30 (0, 0) [(0, 6), (0, (μ14 96 3) + 1)] [(2, 96)] rfl rfl rfl rfl ⟨by omega, by rw [zn30]; omega⟩ (zh_min hK ⟨Nat.le_refl _, Nat.le_refl _⟩) (fun st9 μc9 hp9 => ?_)
      obtain ⟨rfl, rfl⟩ := hp9
      refine pm_blk hK zmm27 [] 1 66 [(2, 96), (2, 2)] [] (pm_up μ14 96 3 (min 6 ((μ14 96 3) + 1))) [sx_bit Wm 96 = true] rfl ⟨hb96, trivial⟩ ?_
      obtain ⟨μ15, eμ15⟩ : ∃ μ', μ' = pm_up μ14 96 3 (min 6 ((μ14 96 3) + 1)) := ⟨_, rfl⟩
      rw [← eμ15]
      have hTμ15 : zTJ φ μ15 := by rw [eμ15]; exact zT_up hTμ14 zs96_3 rfl (i := 3) (by omega) (by omega) (by omega) (by omega)
      have q3 : ∀ q ∈ zRq, q ≠ (96, 3) → μ15 q.1 (q.2 : Int) = μ14 q.1 (q.2 : Int) := fun q hq hne => by rw [eμ15]; exact pm_upq (k := 3) (i := 3) rfl hne
      exact pm_vret rfl rfl ⟨rfl, hTμ15, zKC_keep (n := 2) (by decide) hk0 ⟨by omega, by omega⟩ hz (fun q hq h2 h3 => ((q3 q hq h3).trans (q2 q hq h2)).trans (q1 q hq)) ((q3 (96, 2) (by decide) (by decide)).trans d2) (by rw [eμ15, pm_up_eq]; omega), zKF_up hv eμ15 (by decide)⟩
  · refine zp_aald hK zmm27 (r := 97) (q := 138) (k := 3) (g := zG97) (t := (2, 138, 0)) rfl rfl (by decide) hk0 rfl rfl rfl rfl ?_
    refine pm_blk hK zmm27 [] 2 13 [(2, 96), (2, 2)] [(2, 3), (2, 138)] μ [] rfl trivial ?_
    refine pm_call hK zmm27 (33, 0, 28, 1) zM28 (2, 101) [(2, 138), (2, 3)] [] rfl rfl rfl rfl ⟨by omega, by rw [zn28]; omega⟩ (zh_ac138_3 hK hw hC30 hs30 hC31 hs31 hC32 hs32 hC33 hs33 hC34 hs34 hC35 hs35 hC36 hs36 hC37 hs37 hC38 hs38 hC39 hs39 hC40 hs40 hC41 hs41 hT hb138 ⟨Nat.le_refl _, Nat.le_refl _⟩) (fun st10 μc10 hp10 => ?_)
    obtain ⟨rfl, hTc10, hz10, hv10⟩ := hp10
    have hz := hz10
    have hv := hv10
    have n2 : μc10 96 2 = μ 96 2 := zWc_ne hz (q := (96, 2)) (by decide) (by decide)
    have n3 : μc10 96 3 = μ 96 3 := zWc_ne hz (q := (96, 3)) (by decide) (by decide)
    have f20 := zT_get hTc10 zs96_2 (i := 2) (by omega) (by omega)
    have f21 := zT_get hTc10 zs2_2 (i := 2) (by omega) (by omega)
    refine pm_blk hK zmm27 [] 7 29 [(2, 96), (2, 2)] [] (pm_up μc10 98 (μc10 96 2) (μc10 2 2)) [sx_bit Wm 98 = true, 0 ≤ μc10 96 2 ∧ μc10 96 2 < 6] rfl ⟨hb98, ⟨by omega, by omega⟩, trivial⟩ ?_
    obtain ⟨μ16, eμ16⟩ : ∃ μ', μ' = pm_up μc10 98 (μc10 96 2) (μc10 2 2) := ⟨_, rfl⟩
    rw [← eμ16]
    have hTμ16 : zTJ φ μ16 := by rw [eμ16]; exact zT_up hTc10 zs98_0 rfl (i := μc10 96 2) (by omega) (by omega) (by omega) (by omega)
    have hv := zKF_up hv eμ16 (by decide)
    have q1 : ∀ q ∈ zRq, μ16 q.1 (q.2 : Int) = μc10 q.1 (q.2 : Int) := fun q hq => by rw [eμ16, pm_up_off ((show ∀ q ∈ zRq, q.1 ≠ 98 by decide) q hq)]
    have n2 : μ16 96 2 = μ 96 2 := (q1 (96, 2) (by decide)).trans n2
    have n3 : μ16 96 3 = μ 96 3 := (q1 (96, 3) (by decide)).trans n3
    have g22 : μ16 96 2 = μc10 96 2 := by rw [eμ16, pm_up_off (by decide)]
    have f23 := zT_get hTμ16 zs96_2 (i := 2) (by omega) (by omega)
    refine pm_blk hK zmm27 [] 4 35 [(2, 96), (2, 2)] [(0, 5), (0, μ16 96 2), (2, 96)] μ16 [] rfl trivial ?_
    refine pm_icmp hK zmm27 .ne 7 42 rfl rfl (fun h4 => ?_) (fun h4 => ?_)
    · have h4 : μ16 96 2 ≠ (5 : Int) := h4
      refine pm_blk hK zmm27 [] 5 51 [(2, 96), (2, 2)] [] (pm_up μ16 96 2 ((μ16 96 2) + 1)) [pm_in ((μ16 96 2) + 1), sx_bit Wm 96 = true] rfl ⟨pm_in_mk (by omega) (by omega), hb96, trivial⟩ ?_
      obtain ⟨μ17, eμ17⟩ : ∃ μ', μ' = pm_up μ16 96 2 ((μ16 96 2) + 1) := ⟨_, rfl⟩
      rw [← eμ17]
      have hTμ17 : zTJ φ μ17 := by rw [eμ17]; exact zT_up hTμ16 zs96_2 rfl (i := 2) (by omega) (by omega) (by omega) (by omega)
      have hv := zKF_up hv eμ17 (by decide)
      have q2 : ∀ q ∈ zRq, q ≠ (96, 2) → μ17 q.1 (q.2 : Int) = μ16 q.1 (q.2 : Int) := fun q hq hne => by rw [eμ17]; exact pm_upq (k := 2) (i := 2) rfl hne
      have d2 : μ17 96 2 = if μ 96 2 = 5 then 0 else μ 96 2 + 1 := by rw [eμ17, pm_up_eq]; first | (exfalso; omega) | rw [if_pos (by omega)] | (rw [if_neg (by omega)]; omega)
      have d3 : μ17 96 3 = μ 96 3 := (q2 (96, 3) (by decide) (by decide)).trans n3
      have f24 := zT_get hTμ17 zs96_3 (i := 3) (by omega) (by omega)
      refine pm_blk hK zmm27 [] 6 60 [(2, 96), (2, 2)] [(0, (μ17 96 3) + 1), (0, 6), (2, 96)] μ17 [pm_in ((μ17 96 3) + 1)] rfl ⟨pm_in_mk (by omega) (by omega), trivial⟩ ?_
      refine pm_call hK zmm27 (39, 1, 30, 2) zM30 (0, 0) [(0, 6), (0, (μ17 96 3) + 1)] [(2, 96)] rfl rfl rfl rfl ⟨by omega, by rw [zn30]; omega⟩ (zh_min hK ⟨Nat.le_refl _, Nat.le_refl _⟩) (fun st11 μc11 hp11 => ?_)
      obtain ⟨rfl, rfl⟩ := hp11
      refine pm_blk hK zmm27 [] 1 66 [(2, 96), (2, 2)] [] (pm_up μ17 96 3 (min 6 ((μ17 96 3) + 1))) [sx_bit Wm 96 = true] rfl ⟨hb96, trivial⟩ ?_
      obtain ⟨μ18, eμ18⟩ : ∃ μ', μ' = pm_up μ17 96 3 (min 6 ((μ17 96 3) + 1)) := ⟨_, rfl⟩
      rw [← eμ18]
      have hTμ18 : zTJ φ μ18 := by rw [eμ18]; exact zT_up hTμ17 zs96_3 rfl (i := 3) (by omega) (by omega) (by omega) (by omega)
      have q3 : ∀ q ∈ zRq, q ≠ (96, 3) → μ18 q.1 (q.2 : Int) = μ17 q.1 (q.2 : Int) := fun q hq hne => by rw [eμ18]; exact pm_upq (k := 3) (i := 3) rfl hne
      exact pm_vret rfl rfl ⟨rfl, hTμ18, zKC_keep (n := 3) (by decide) hk0 ⟨by omega, by omega⟩ hz (fun q hq h2 h3 => ((q3 q hq h3).trans (q2 q hq h2)).trans (q1 q hq)) ((q3 (96, 2) (by decide) (by decide)).trans d2) (by rw [eμ18, pm_up_eq]; omega), zKF_up hv eμ18 (by decide)⟩
    · have h4 : μ16 96 2 = (5 : Int) := h4
      refine pm_blk hK zmm27 [] 3 51 [(2, 96), (2, 2)] [] (pm_up μ16 96 2 0) [sx_bit Wm 96 = true] rfl ⟨hb96, trivial⟩ ?_
      obtain ⟨μ19, eμ19⟩ : ∃ μ', μ' = pm_up μ16 96 2 0 := ⟨_, rfl⟩
      rw [← eμ19]
      have hTμ19 : zTJ φ μ19 := by rw [eμ19]; exact zT_up hTμ16 zs96_2 rfl (i := 2) (by omega) (by omega) (by omega) (by omega)
      have hv := zKF_up hv eμ19 (by decide)
      have q2 : ∀ q ∈ zRq, q ≠ (96, 2) → μ19 q.1 (q.2 : Int) = μ16 q.1 (q.2 : Int) := fun q hq hne => by rw [eμ19]; exact pm_upq (k := 2) (i := 2) rfl hne
      have d2 : μ19 96 2 = if μ 96 2 = 5 then 0 else μ 96 2 + 1 := by rw [eμ19, pm_up_eq]; first | (exfalso; omega) | rw [if_pos (by omega)] | (rw [if_neg (by omega)]; omega)
      have d3 : μ19 96 3 = μ 96 3 := (q2 (96, 3) (by decide) (by decide)).trans n3
      have f25 := zT_get hTμ19 zs96_3 (i := 3) (by omega) (by omega)
      refine pm_blk hK zmm27 [] 6 60 [(2, 96), (2, 2)] [(0, (μ19 96 3) + 1), (0, 6), (2, 96)] μ19 [pm_in ((μ19 96 3) + 1)] rfl ⟨pm_in_mk (by omega) (by omega), trivial⟩ ?_
      refine pm_call hK zmm27 (39, 1, 30, 2) zM30 (0, 0) [(0, 6), (0, (μ19 96 3) + 1)] [(2, 96)] rfl rfl rfl rfl ⟨by omega, by rw [zn30]; omega⟩ (zh_min hK ⟨Nat.le_refl _, Nat.le_refl _⟩) (fun st12 μc12 hp12 => ?_)
      obtain ⟨rfl, rfl⟩ := hp12
      refine pm_blk hK zmm27 [] 1 66 [(2, 96), (2, 2)] [] (pm_up μ19 96 3 (min 6 ((μ19 96 3) + 1))) [sx_bit Wm 96 = true] rfl ⟨hb96, trivial⟩ ?_
      obtain ⟨μ20, eμ20⟩ : ∃ μ', μ' = pm_up μ19 96 3 (min 6 ((μ19 96 3) + 1)) := ⟨_, rfl⟩
      rw [← eμ20]
      have hTμ20 : zTJ φ μ20 := by rw [eμ20]; exact zT_up hTμ19 zs96_3 rfl (i := 3) (by omega) (by omega) (by omega) (by omega)
      have q3 : ∀ q ∈ zRq, q ≠ (96, 3) → μ20 q.1 (q.2 : Int) = μ19 q.1 (q.2 : Int) := fun q hq hne => by rw [eμ20]; exact pm_upq (k := 3) (i := 3) rfl hne
      exact pm_vret rfl rfl ⟨rfl, hTμ20, zKC_keep (n := 3) (by decide) hk0 ⟨by omega, by omega⟩ hz (fun q hq h2 h3 => ((q3 q hq h3).trans (q2 q hq h2)).trans (q1 q hq)) ((q3 (96, 2) (by decide) (by decide)).trans d2) (by rw [eμ20, pm_up_eq]; omega), zKF_up hv eμ20 (by decide)⟩
  · refine zp_aald hK zmm27 (r := 97) (q := 151) (k := 4) (g := zG97) (t := (2, 151, 0)) rfl rfl (by decide) hk0 rfl rfl rfl rfl ?_
    refine pm_blk hK zmm27 [] 2 13 [(2, 96), (2, 2)] [(2, 3), (2, 151)] μ [] rfl trivial ?_
    refine pm_call hK zmm27 (33, 0, 28, 1) zM28 (2, 101) [(2, 151), (2, 3)] [] rfl rfl rfl rfl ⟨by omega, by rw [zn28]; omega⟩ (zh_ac151_3 hK hw hC43 hs43 hC44 hs44 hC45 hs45 hC46 hs46 hC47 hs47 hC48 hs48 hC49 hs49 hC50 hs50 hC51 hs51 hC52 hs52 hC53 hs53 hC54 hs54 hT hb151 ⟨Nat.le_refl _, Nat.le_refl _⟩) (fun st13 μc13 hp13 => ?_)
    obtain ⟨rfl, hTc13, hz13, hv13⟩ := hp13
    have hz := hz13
    have hv := hv13
    have n2 : μc13 96 2 = μ 96 2 := zWc_ne hz (q := (96, 2)) (by decide) (by decide)
    have n3 : μc13 96 3 = μ 96 3 := zWc_ne hz (q := (96, 3)) (by decide) (by decide)
    have f26 := zT_get hTc13 zs96_2 (i := 2) (by omega) (by omega)
    have f27 := zT_get hTc13 zs2_2 (i := 2) (by omega) (by omega)
    refine pm_blk hK zmm27 [] 7 29 [(2, 96), (2, 2)] [] (pm_up μc13 98 (μc13 96 2) (μc13 2 2)) [sx_bit Wm 98 = true, 0 ≤ μc13 96 2 ∧ μc13 96 2 < 6] rfl ⟨hb98, ⟨by omega, by omega⟩, trivial⟩ ?_
    obtain ⟨μ21, eμ21⟩ : ∃ μ', μ' = pm_up μc13 98 (μc13 96 2) (μc13 2 2) := ⟨_, rfl⟩
    rw [← eμ21]
    have hTμ21 : zTJ φ μ21 := by rw [eμ21]; exact zT_up hTc13 zs98_0 rfl (i := μc13 96 2) (by omega) (by omega) (by omega) (by omega)
    have hv := zKF_up hv eμ21 (by decide)
    have q1 : ∀ q ∈ zRq, μ21 q.1 (q.2 : Int) = μc13 q.1 (q.2 : Int) := fun q hq => by rw [eμ21, pm_up_off ((show ∀ q ∈ zRq, q.1 ≠ 98 by decide) q hq)]
    have n2 : μ21 96 2 = μ 96 2 := (q1 (96, 2) (by decide)).trans n2
    have n3 : μ21 96 3 = μ 96 3 := (q1 (96, 3) (by decide)).trans n3
    have g28 : μ21 96 2 = μc13 96 2 := by rw [eμ21, pm_up_off (by decide)]
    have f29 := zT_get hTμ21 zs96_2 (i := 2) (by omega) (by omega)
    refine pm_blk hK zmm27 [] 4 35 [(2, 96), (2, 2)] [(0, 5), (0, μ21 96 2), (2, 96)] μ21 [] rfl trivial ?_
    refine pm_icmp hK zmm27 .ne 7 42 rfl rfl (fun h5 => ?_) (fun h5 => ?_)
    · have h5 : μ21 96 2 ≠ (5 : Int) := h5
      refine pm_blk hK zmm27 [] 5 51 [(2, 96), (2, 2)] [] (pm_up μ21 96 2 ((μ21 96 2) + 1)) [pm_in ((μ21 96 2) + 1), sx_bit Wm 96 = true] rfl ⟨pm_in_mk (by omega) (by omega), hb96, trivial⟩ ?_
      obtain ⟨μ22, eμ22⟩ : ∃ μ', μ' = pm_up μ21 96 2 ((μ21 96 2) + 1) := ⟨_, rfl⟩
      rw [← eμ22]
      have hTμ22 : zTJ φ μ22 := by rw [eμ22]; exact zT_up hTμ21 zs96_2 rfl (i := 2) (by omega) (by omega) (by omega) (by omega)
      have hv := zKF_up hv eμ22 (by decide)
      have q2 : ∀ q ∈ zRq, q ≠ (96, 2) → μ22 q.1 (q.2 : Int) = μ21 q.1 (q.2 : Int) := fun q hq hne => by rw [eμ22]; exact pm_upq (k := 2) (i := 2) rfl hne
      have d2 : μ22 96 2 = if μ 96 2 = 5 then 0 else μ 96 2 + 1 := by rw [eμ22, pm_up_eq]; first | (exfalso; omega) | rw [if_pos (by omega)] | (rw [if_neg (by omega)]; omega)
      have d3 : μ22 96 3 = μ 96 3 := (q2 (96, 3) (by decide) (by decide)).trans n3
      have f30 := zT_get hTμ22 zs96_3 (i := 3) (by omega) (by omega)
      refine pm_blk hK zmm27 [] 6 60 [(2, 96), (2, 2)] [(0, (μ22 96 3) + 1), (0, 6), (2, 96)] μ22 [pm_in ((μ22 96 3) + 1)] rfl ⟨pm_in_mk (by omega) (by omega), trivial⟩ ?_
      refine pm_call hK zmm27 (39, 1, 30, 2) zM30 (0, 0) [(0, 6), (0, (μ22 96 3) + 1)] [(2, 96)] rfl rfl rfl rfl ⟨by omega, by rw [zn30]; omega⟩ (zh_min hK ⟨Nat.le_refl _, Nat.le_refl _⟩) (fun st14 μc14 hp14 => ?_)
      obtain ⟨rfl, rfl⟩ := hp14
      refine pm_blk hK zmm27 [] 1 66 [(2, 96), (2, 2)] [] (pm_up μ22 96 3 (min 6 ((μ22 96 3) + 1))) [sx_bit Wm 96 = true] rfl ⟨hb96, trivial⟩ ?_
      obtain ⟨μ23, eμ23⟩ : ∃ μ', μ' = pm_up μ22 96 3 (min 6 ((μ22 96 3) + 1)) := ⟨_, rfl⟩
      rw [← eμ23]
      have hTμ23 : zTJ φ μ23 := by rw [eμ23]; exact zT_up hTμ22 zs96_3 rfl (i := 3) (by omega) (by omega) (by omega) (by omega)
      have q3 : ∀ q ∈ zRq, q ≠ (96, 3) → μ23 q.1 (q.2 : Int) = μ22 q.1 (q.2 : Int) := fun q hq hne => by rw [eμ23]; exact pm_upq (k := 3) (i := 3) rfl hne
      exact pm_vret rfl rfl ⟨rfl, hTμ23, zKC_keep (n := 4) (by decide) hk0 ⟨by omega, by omega⟩ hz (fun q hq h2 h3 => ((q3 q hq h3).trans (q2 q hq h2)).trans (q1 q hq)) ((q3 (96, 2) (by decide) (by decide)).trans d2) (by rw [eμ23, pm_up_eq]; omega), zKF_up hv eμ23 (by decide)⟩
    · have h5 : μ21 96 2 = (5 : Int) := h5
      refine pm_blk hK zmm27 [] 3 51 [(2, 96), (2, 2)] [] (pm_up μ21 96 2 0) [sx_bit Wm 96 = true] rfl ⟨hb96, trivial⟩ ?_
      obtain ⟨μ24, eμ24⟩ : ∃ μ', μ' = pm_up μ21 96 2 0 := ⟨_, rfl⟩
      rw [← eμ24]
      have hTμ24 : zTJ φ μ24 := by rw [eμ24]; exact zT_up hTμ21 zs96_2 rfl (i := 2) (by omega) (by omega) (by omega) (by omega)
      have hv := zKF_up hv eμ24 (by decide)
      have q2 : ∀ q ∈ zRq, q ≠ (96, 2) → μ24 q.1 (q.2 : Int) = μ21 q.1 (q.2 : Int) := fun q hq hne => by rw [eμ24]; exact pm_upq (k := 2) (i := 2) rfl hne
      have d2 : μ24 96 2 = if μ 96 2 = 5 then 0 else μ 96 2 + 1 := by rw [eμ24, pm_up_eq]; first | (exfalso; omega) | rw [if_pos (by omega)] | (rw [if_neg (by omega)]; omega)
      have d3 : μ24 96 3 = μ 96 3 := (q2 (96, 3) (by decide) (by decide)).trans n3
      have f31 := zT_get hTμ24 zs96_3 (i := 3) (by omega) (by omega)
      refine pm_blk hK zmm27 [] 6 60 [(2, 96), (2, 2)] [(0, (μ24 96 3) + 1), (0, 6), (2, 96)] μ24 [pm_in ((μ24 96 3) + 1)] rfl ⟨pm_in_mk (by omega) (by omega), trivial⟩ ?_
      refine pm_call hK zmm27 (39, 1, 30, 2) zM30 (0, 0) [(0, 6), (0, (μ24 96 3) + 1)] [(2, 96)] rfl rfl rfl rfl ⟨by omega, by rw [zn30]; omega⟩ (zh_min hK ⟨Nat.le_refl _, Nat.le_refl _⟩) (fun st15 μc15 hp15 => ?_)
      obtain ⟨rfl, rfl⟩ := hp15
      refine pm_blk hK zmm27 [] 1 66 [(2, 96), (2, 2)] [] (pm_up μ24 96 3 (min 6 ((μ24 96 3) + 1))) [sx_bit Wm 96 = true] rfl ⟨hb96, trivial⟩ ?_
      obtain ⟨μ25, eμ25⟩ : ∃ μ', μ' = pm_up μ24 96 3 (min 6 ((μ24 96 3) + 1)) := ⟨_, rfl⟩
      rw [← eμ25]
      have hTμ25 : zTJ φ μ25 := by rw [eμ25]; exact zT_up hTμ24 zs96_3 rfl (i := 3) (by omega) (by omega) (by omega) (by omega)
      have q3 : ∀ q ∈ zRq, q ≠ (96, 3) → μ25 q.1 (q.2 : Int) = μ24 q.1 (q.2 : Int) := fun q hq hne => by rw [eμ25]; exact pm_upq (k := 3) (i := 3) rfl hne
      exact pm_vret rfl rfl ⟨rfl, hTμ25, zKC_keep (n := 4) (by decide) hk0 ⟨by omega, by omega⟩ hz (fun q hq h2 h3 => ((q3 q hq h3).trans (q2 q hq h2)).trans (q1 q hq)) ((q3 (96, 2) (by decide) (by decide)).trans d2) (by rw [eμ25, pm_up_eq]; omega), zKF_up hv eμ25 (by decide)⟩
  · refine zp_aald hK zmm27 (r := 97) (q := 164) (k := 5) (g := zG97) (t := (2, 164, 0)) rfl rfl (by decide) hk0 rfl rfl rfl rfl ?_
    refine pm_blk hK zmm27 [] 2 13 [(2, 96), (2, 2)] [(2, 3), (2, 164)] μ [] rfl trivial ?_
    refine pm_call hK zmm27 (33, 0, 28, 1) zM28 (2, 101) [(2, 164), (2, 3)] [] rfl rfl rfl rfl ⟨by omega, by rw [zn28]; omega⟩ (zh_ac164_3 hK hw hC56 hs56 hC57 hs57 hC58 hs58 hC59 hs59 hC60 hs60 hC61 hs61 hC62 hs62 hC63 hs63 hC64 hs64 hC65 hs65 hC66 hs66 hC67 hs67 hT hb164 ⟨Nat.le_refl _, Nat.le_refl _⟩) (fun st16 μc16 hp16 => ?_)
    obtain ⟨rfl, hTc16, hz16, hv16⟩ := hp16
    have hz := hz16
    have hv := hv16
    have n2 : μc16 96 2 = μ 96 2 := zWc_ne hz (q := (96, 2)) (by decide) (by decide)
    have n3 : μc16 96 3 = μ 96 3 := zWc_ne hz (q := (96, 3)) (by decide) (by decide)
    have f32 := zT_get hTc16 zs96_2 (i := 2) (by omega) (by omega)
    have f33 := zT_get hTc16 zs2_2 (i := 2) (by omega) (by omega)
    refine pm_blk hK zmm27 [] 7 29 [(2, 96), (2, 2)] [] (pm_up μc16 98 (μc16 96 2) (μc16 2 2)) [sx_bit Wm 98 = true, 0 ≤ μc16 96 2 ∧ μc16 96 2 < 6] rfl ⟨hb98, ⟨by omega, by omega⟩, trivial⟩ ?_
    obtain ⟨μ26, eμ26⟩ : ∃ μ', μ' = pm_up μc16 98 (μc16 96 2) (μc16 2 2) := ⟨_, rfl⟩
    rw [← eμ26]
    have hTμ26 : zTJ φ μ26 := by rw [eμ26]; exact zT_up hTc16 zs98_0 rfl (i := μc16 96 2) (by omega) (by omega) (by omega) (by omega)
    have hv := zKF_up hv eμ26 (by decide)
    have q1 : ∀ q ∈ zRq, μ26 q.1 (q.2 : Int) = μc16 q.1 (q.2 : Int) := fun q hq => by rw [eμ26, pm_up_off ((show ∀ q ∈ zRq, q.1 ≠ 98 by decide) q hq)]
    have n2 : μ26 96 2 = μ 96 2 := (q1 (96, 2) (by decide)).trans n2
    have n3 : μ26 96 3 = μ 96 3 := (q1 (96, 3) (by decide)).trans n3
    have g34 : μ26 96 2 = μc16 96 2 := by rw [eμ26, pm_up_off (by decide)]
    have f35 := zT_get hTμ26 zs96_2 (i := 2) (by omega) (by omega)
    refine pm_blk hK zmm27 [] 4 35 [(2, 96), (2, 2)] [(0, 5), (0, μ26 96 2), (2, 96)] μ26 [] rfl trivial ?_
    refine pm_icmp hK zmm27 .ne 7 42 rfl rfl (fun h6 => ?_) (fun h6 => ?_)
    · have h6 : μ26 96 2 ≠ (5 : Int) := h6
      refine pm_blk hK zmm27 [] 5 51 [(2, 96), (2, 2)] [] (pm_up μ26 96 2 ((μ26 96 2) + 1)) [pm_in ((μ26 96 2) + 1), sx_bit Wm 96 = true] rfl ⟨pm_in_mk (by omega) (by omega), hb96, trivial⟩ ?_
      obtain ⟨μ27, eμ27⟩ : ∃ μ', μ' = pm_up μ26 96 2 ((μ26 96 2) + 1) := ⟨_, rfl⟩
      rw [← eμ27]
      have hTμ27 : zTJ φ μ27 := by rw [eμ27]; exact zT_up hTμ26 zs96_2 rfl (i := 2) (by omega) (by omega) (by omega) (by omega)
      have hv := zKF_up hv eμ27 (by decide)
      have q2 : ∀ q ∈ zRq, q ≠ (96, 2) → μ27 q.1 (q.2 : Int) = μ26 q.1 (q.2 : Int) := fun q hq hne => by rw [eμ27]; exact pm_upq (k := 2) (i := 2) rfl hne
      have d2 : μ27 96 2 = if μ 96 2 = 5 then 0 else μ 96 2 + 1 := by rw [eμ27, pm_up_eq]; first | (exfalso; omega) | rw [if_pos (by omega)] | (rw [if_neg (by omega)]; omega)
      have d3 : μ27 96 3 = μ 96 3 := (q2 (96, 3) (by decide) (by decide)).trans n3
      have f36 := zT_get hTμ27 zs96_3 (i := 3) (by omega) (by omega)
      refine pm_blk hK zmm27 [] 6 60 [(2, 96), (2, 2)] [(0, (μ27 96 3) + 1), (0, 6), (2, 96)] μ27 [pm_in ((μ27 96 3) + 1)] rfl ⟨pm_in_mk (by omega) (by omega), trivial⟩ ?_
      refine pm_call hK zmm27 (39, 1, 30, 2) zM30 (0, 0) [(0, 6), (0, (μ27 96 3) + 1)] [(2, 96)] rfl rfl rfl rfl ⟨by omega, by rw [zn30]; omega⟩ (zh_min hK ⟨Nat.le_refl _, Nat.le_refl _⟩) (fun st17 μc17 hp17 => ?_)
      obtain ⟨rfl, rfl⟩ := hp17
      refine pm_blk hK zmm27 [] 1 66 [(2, 96), (2, 2)] [] (pm_up μ27 96 3 (min 6 ((μ27 96 3) + 1))) [sx_bit Wm 96 = true] rfl ⟨hb96, trivial⟩ ?_
      obtain ⟨μ28, eμ28⟩ : ∃ μ', μ' = pm_up μ27 96 3 (min 6 ((μ27 96 3) + 1)) := ⟨_, rfl⟩
      rw [← eμ28]
      have hTμ28 : zTJ φ μ28 := by rw [eμ28]; exact zT_up hTμ27 zs96_3 rfl (i := 3) (by omega) (by omega) (by omega) (by omega)
      have q3 : ∀ q ∈ zRq, q ≠ (96, 3) → μ28 q.1 (q.2 : Int) = μ27 q.1 (q.2 : Int) := fun q hq hne => by rw [eμ28]; exact pm_upq (k := 3) (i := 3) rfl hne
      exact pm_vret rfl rfl ⟨rfl, hTμ28, zKC_keep (n := 5) (by decide) hk0 ⟨by omega, by omega⟩ hz (fun q hq h2 h3 => ((q3 q hq h3).trans (q2 q hq h2)).trans (q1 q hq)) ((q3 (96, 2) (by decide) (by decide)).trans d2) (by rw [eμ28, pm_up_eq]; omega), zKF_up hv eμ28 (by decide)⟩
    · have h6 : μ26 96 2 = (5 : Int) := h6
      refine pm_blk hK zmm27 [] 3 51 [(2, 96), (2, 2)] [] (pm_up μ26 96 2 0) [sx_bit Wm 96 = true] rfl ⟨hb96, trivial⟩ ?_
      obtain ⟨μ29, eμ29⟩ : ∃ μ', μ' = pm_up μ26 96 2 0 := ⟨_, rfl⟩
      rw [← eμ29]
      have hTμ29 : zTJ φ μ29 := by rw [eμ29]; exact zT_up hTμ26 zs96_2 rfl (i := 2) (by omega) (by omega) (by omega) (by omega)
      have hv := zKF_up hv eμ29 (by decide)
      have q2 : ∀ q ∈ zRq, q ≠ (96, 2) → μ29 q.1 (q.2 : Int) = μ26 q.1 (q.2 : Int) := fun q hq hne => by rw [eμ29]; exact pm_upq (k := 2) (i := 2) rfl hne
      have d2 : μ29 96 2 = if μ 96 2 = 5 then 0 else μ 96 2 + 1 := by rw [eμ29, pm_up_eq]; first | (exfalso; omega) | rw [if_pos (by omega)] | (rw [if_neg (by omega)]; omega)
      have d3 : μ29 96 3 = μ 96 3 := (q2 (96, 3) (by decide) (by decide)).trans n3
      have f37 := zT_get hTμ29 zs96_3 (i := 3) (by omega) (by omega)
      refine pm_blk hK zmm27 [] 6 60 [(2, 96), (2, 2)] [(0, (μ29 96 3) + 1), (0, 6), (2, 96)] μ29 [pm_in ((μ29 96 3) + 1)] rfl ⟨pm_in_mk (by omega) (by omega), trivial⟩ ?_
      refine pm_call hK zmm27 (39, 1, 30, 2) zM30 (0, 0) [(0, 6), (0, (μ29 96 3) + 1)] [(2, 96)] rfl rfl rfl rfl ⟨by omega, by rw [zn30]; omega⟩ (zh_min hK ⟨Nat.le_refl _, Nat.le_refl _⟩) (fun st18 μc18 hp18 => ?_)
      obtain ⟨rfl, rfl⟩ := hp18
      refine pm_blk hK zmm27 [] 1 66 [(2, 96), (2, 2)] [] (pm_up μ29 96 3 (min 6 ((μ29 96 3) + 1))) [sx_bit Wm 96 = true] rfl ⟨hb96, trivial⟩ ?_
      obtain ⟨μ30, eμ30⟩ : ∃ μ', μ' = pm_up μ29 96 3 (min 6 ((μ29 96 3) + 1)) := ⟨_, rfl⟩
      rw [← eμ30]
      have hTμ30 : zTJ φ μ30 := by rw [eμ30]; exact zT_up hTμ29 zs96_3 rfl (i := 3) (by omega) (by omega) (by omega) (by omega)
      have q3 : ∀ q ∈ zRq, q ≠ (96, 3) → μ30 q.1 (q.2 : Int) = μ29 q.1 (q.2 : Int) := fun q hq hne => by rw [eμ30]; exact pm_upq (k := 3) (i := 3) rfl hne
      exact pm_vret rfl rfl ⟨rfl, hTμ30, zKC_keep (n := 5) (by decide) hk0 ⟨by omega, by omega⟩ hz (fun q hq h2 h3 => ((q3 q hq h3).trans (q2 q hq h2)).trans (q1 q hq)) ((q3 (96, 2) (by decide) (by decide)).trans d2) (by rw [eμ30, pm_up_eq]; omega), zKF_up hv eμ30 (by decide)⟩
end ZHW
