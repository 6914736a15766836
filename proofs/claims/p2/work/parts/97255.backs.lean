/-! counts: what writes them in the class; walks printed by program (wip/p30/pmgen.py) and filled by hand -/
section ZHW
variable {D : va_G} {Wm : Nat} {ST : List (String × String × String × Nat)} {b0 : sx_B} {l : Launch} {Sg : Nat → Option Nat} {bud : sx_Bu} {μ : pm_Mem} {B0 : Nat → Prop} {J : (Nat → Option Nat) → Heap → Prop}
set_option maxRecDepth 100000 in
theorem zh_ac3_99 (hK : zKK ST) (hw : sx_Wd zNR zRT2 B0 Sg) (hC185 : zCK none D ST B0 l Sg zC185) (hs185 : sx_subm zC185.2.2.2.2.2 Wm = true) (hC186 : zCK none D ST B0 l Sg zC186) (hs186 : sx_subm zC186.2.2.2.2.2 Wm = true) (hC187 : zCK none D ST B0 l Sg zC187) (hs187 : sx_subm zC187.2.2.2.2.2 Wm = true) (hC188 : zCK none D ST B0 l Sg zC188) (hs188 : sx_subm zC188.2.2.2.2.2 Wm = true) (hC189 : zCK none D ST B0 l Sg zC189) (hs189 : sx_subm zC189.2.2.2.2.2 Wm = true) (hC190 : zCK none D ST B0 l Sg zC190) (hs190 : sx_subm zC190.2.2.2.2.2 Wm = true) (hC191 : zCK none D ST B0 l Sg zC191) (hs191 : sx_subm zC191.2.2.2.2.2 Wm = true) (hC192 : zCK none D ST B0 l Sg zC192) (hs192 : sx_subm zC192.2.2.2.2.2 Wm = true) (hC193 : zCK none D ST B0 l Sg zC193) (hs193 : sx_subm zC193.2.2.2.2.2 Wm = true) (hC194 : zCK none D ST B0 l Sg zC194) (hs194 : sx_subm zC194.2.2.2.2.2 Wm = true) (hC195 : zCK none D ST B0 l Sg zC195) (hs195 : sx_subm zC195.2.2.2.2.2 Wm = true) (hC196 : zCK none D ST B0 l Sg zC196) (hs196 : sx_subm zC196.2.2.2.2.2 Wm = true) (hT : zTJ none μ) (hb3 : sx_bit Wm 3 = true) (hbd : 2 ≤ bud.1 ∧ 101 ≤ bud.2.1) : zC D Wm ST (sx_bW zRT2 Wm B0 Sg, J) l Sg zM28 bud [(2, 3), (2, 99)] μ (fun st' μ' => st' = [] ∧ zTJ none μ' ∧ zWc (zsw 3 99) μ μ') := by
  have hz : zWc (fun q => q) μ μ := fun _ _ => rfl
  have f1 := zT_get hT zs99_0 (i := 0) (by omega) (by omega)
  refine pm_blk hK zmm28 [] 4 8 [(2, 3), (2, 99)] [] (pm_up μ 3 0 (μ 99 0)) [sx_bit Wm 3 = true] rfl ⟨hb3, trivial⟩ ?_
  obtain ⟨μ1, eμ1⟩ : ∃ μ', μ' = pm_up μ 3 0 (μ 99 0) := ⟨_, rfl⟩
  rw [← eμ1]
  have hTμ1 : zTJ none μ1 := by rw [eμ1]; exact zT_upn hT zs3_0 rfl (i := 0) (by omega) (by omega) (by omega) (by omega)
  have hz := zWc_rcp (μ' := μ1) (d := (3, 0)) (s := (99, 0)) hz (by decide) (fun q hq hne => by rw [eμ1]; exact pm_upq (k := 0) (i := 0) rfl hne) (by show μ1 3 0 = μ 99 0; rw [eμ1, pm_up_eq])
  have g2 : μ1 99 1 = μ 99 1 := by rw [eμ1, pm_up_off (by decide)]
  have f3 := zT_get hTμ1 zs99_1 (i := 1) (by omega) (by omega)
  refine pm_blk hK zmm28 [] 4 16 [(2, 3), (2, 99)] [] (pm_up μ1 3 1 (μ1 99 1)) [sx_bit Wm 3 = true] rfl ⟨hb3, trivial⟩ ?_
  obtain ⟨μ2, eμ2⟩ : ∃ μ', μ' = pm_up μ1 3 1 (μ1 99 1) := ⟨_, rfl⟩
  rw [← eμ2]
  have hTμ2 : zTJ none μ2 := by rw [eμ2]; exact zT_upn hTμ1 zs3_1 rfl (i := 1) (by omega) (by omega) (by omega) (by omega)
  have hz := zWc_rcp (μ' := μ2) (d := (3, 1)) (s := (99, 1)) hz (by decide) (fun q hq hne => by rw [eμ2]; exact pm_upq (k := 1) (i := 1) rfl hne) (by show μ2 3 1 = μ1 99 1; rw [eμ2, pm_up_eq])
  have g4 : μ2 99 2 = μ 99 2 := by rw [eμ2, pm_up_off (by decide), eμ1, pm_up_off (by decide)]
  have f5 := zT_get hTμ2 zs99_2 (i := 2) (by omega) (by omega)
  refine pm_blk hK zmm28 [] 4 24 [(2, 3), (2, 99)] [] (pm_up μ2 3 2 (μ2 99 2)) [sx_bit Wm 3 = true] rfl ⟨hb3, trivial⟩ ?_
  obtain ⟨μ3, eμ3⟩ : ∃ μ', μ' = pm_up μ2 3 2 (μ2 99 2) := ⟨_, rfl⟩
  rw [← eμ3]
  have hTμ3 : zTJ none μ3 := by rw [eμ3]; exact zT_upn hTμ2 zs3_2 rfl (i := 2) (by omega) (by omega) (by omega) (by omega)
  have hz := zWc_fr (μ' := μ3) hz (fun q hq => by rw [eμ3]; exact pm_upq (k := 2) (i := 2) rfl ((show ∀ q ∈ zRq, q ≠ (3, 2) by decide) q hq))
  have g6 : μ3 99 3 = μ 99 3 := by rw [eμ3, pm_up_off (by decide), eμ2, pm_up_off (by decide), eμ1, pm_up_off (by decide)]
  have f7 := zT_get hTμ3 zs99_3 (i := 3) (by omega) (by omega)
  refine pm_blk hK zmm28 [] 4 32 [(2, 3), (2, 99)] [] (pm_up μ3 3 3 (μ3 99 3)) [sx_bit Wm 3 = true] rfl ⟨hb3, trivial⟩ ?_
  obtain ⟨μ4, eμ4⟩ : ∃ μ', μ' = pm_up μ3 3 3 (μ3 99 3) := ⟨_, rfl⟩
  rw [← eμ4]
  have hTμ4 : zTJ none μ4 := by rw [eμ4]; exact zT_upn hTμ3 zs3_3 rfl (i := 3) (by omega) (by omega) (by omega) (by omega)
  have hz := zWc_fr (μ' := μ4) hz (fun q hq => by rw [eμ4]; exact pm_upq (k := 3) (i := 3) rfl ((show ∀ q ∈ zRq, q ≠ (3, 3) by decide) q hq))
  have g8 : μ4 99 4 = μ 99 4 := by rw [eμ4, pm_up_off (by decide), eμ3, pm_up_off (by decide), eμ2, pm_up_off (by decide), eμ1, pm_up_off (by decide)]
  have f9 := zT_get hTμ4 zs99_4 (i := 4) (by omega) (by omega)
  refine pm_blk hK zmm28 [] 4 40 [(2, 3), (2, 99)] [] (pm_up μ4 3 4 (μ4 99 4)) [sx_bit Wm 3 = true] rfl ⟨hb3, trivial⟩ ?_
  obtain ⟨μ5, eμ5⟩ : ∃ μ', μ' = pm_up μ4 3 4 (μ4 99 4) := ⟨_, rfl⟩
  rw [← eμ5]
  have hTμ5 : zTJ none μ5 := by rw [eμ5]; exact zT_upn hTμ4 zs3_4 rfl (i := 4) (by omega) (by omega) (by omega) (by omega)
  have hz := zWc_fr (μ' := μ5) hz (fun q hq => by rw [eμ5]; exact pm_upq (k := 4) (i := 4) rfl ((show ∀ q ∈ zRq, q ≠ (3, 4) by decide) q hq))
  refine pm_blk hK zmm28 [] 4 48 [(2, 3), (2, 99)] [(2, 4), (2, 100)] μ5 [] rfl trivial ?_
  refine pm_ccall hK zmm28 hC185 hw zGm_lt zJ_loc (91, 1, 29, 2) zM29 [(2, 100), (2, 4)] [] rfl rfl rfl rfl rfl ⟨by have e : zC185.2.2.2.1 = 1 := rfl; omega, by have e : zC185.2.2.2.2.1 = 80 := rfl; rw [zn29]; omega⟩ hs185 rfl (fun t ht => by cases ht) ⟨rfl, fun h => absurd h (by decide), fun _ => rfl, rfl, fun h => absurd h (by decide), fun _ => rfl, trivial⟩ (zTy_T hw hTμ5.1) hTμ5.2 (fun st1 μc1 hp1 hTt1 hJ1 hfr1 => ?_)
  obtain rfl := hp1
  have hTc1 : zTJ none μc1 := ⟨zTy_of hw hTt1, hJ1⟩
  have hz := zWc_fr hz (zRq_fr hfr1 (by decide +kernel))
  refine pm_blk hK zmm28 [] 4 59 [(2, 3), (2, 99)] [(2, 5), (2, 101)] μc1 [] rfl trivial ?_
  refine pm_ccall hK zmm28 hC186 hw zGm_lt zJ_loc (91, 1, 29, 2) zM29 [(2, 101), (2, 5)] [] rfl rfl rfl rfl rfl ⟨by have e : zC186.2.2.2.1 = 1 := rfl; omega, by have e : zC186.2.2.2.2.1 = 80 := rfl; rw [zn29]; omega⟩ hs186 rfl (fun t ht => by cases ht) ⟨rfl, fun h => absurd h (by decide), fun _ => rfl, rfl, fun h => absurd h (by decide), fun _ => rfl, trivial⟩ (zTy_T hw hTc1.1) hTc1.2 (fun st2 μc2 hp2 hTt2 hJ2 hfr2 => ?_)
  obtain rfl := hp2
  have hTc2 : zTJ none μc2 := ⟨zTy_of hw hTt2, hJ2⟩
  have hz := zWc_fr hz (zRq_fr hfr2 (by decide +kernel))
  refine pm_blk hK zmm28 [] 4 70 [(2, 3), (2, 99)] [(2, 6), (2, 102)] μc2 [] rfl trivial ?_
  refine pm_ccall hK zmm28 hC187 hw zGm_lt zJ_loc (91, 1, 29, 2) zM29 [(2, 102), (2, 6)] [] rfl rfl rfl rfl rfl ⟨by have e : zC187.2.2.2.1 = 1 := rfl; omega, by have e : zC187.2.2.2.2.1 = 80 := rfl; rw [zn29]; omega⟩ hs187 rfl (fun t ht => by cases ht) ⟨rfl, fun h => absurd h (by decide), fun _ => rfl, rfl, fun h => absurd h (by decide), fun _ => rfl, trivial⟩ (zTy_T hw hTc2.1) hTc2.2 (fun st3 μc3 hp3 hTt3 hJ3 hfr3 => ?_)
  obtain rfl := hp3
  have hTc3 : zTJ none μc3 := ⟨zTy_of hw hTt3, hJ3⟩
  have hz := zWc_fr hz (zRq_fr hfr3 (by decide +kernel))
  refine pm_blk hK zmm28 [] 4 81 [(2, 3), (2, 99)] [(2, 7), (2, 103)] μc3 [] rfl trivial ?_
  refine pm_ccall hK zmm28 hC188 hw zGm_lt zJ_loc (91, 1, 29, 2) zM29 [(2, 103), (2, 7)] [] rfl rfl rfl rfl rfl ⟨by have e : zC188.2.2.2.1 = 1 := rfl; omega, by have e : zC188.2.2.2.2.1 = 80 := rfl; rw [zn29]; omega⟩ hs188 rfl (fun t ht => by cases ht) ⟨rfl, fun h => absurd h (by decide), fun _ => rfl, rfl, fun h => absurd h (by decide), fun _ => rfl, trivial⟩ (zTy_T hw hTc3.1) hTc3.2 (fun st4 μc4 hp4 hTt4 hJ4 hfr4 => ?_)
  obtain rfl := hp4
  have hTc4 : zTJ none μc4 := ⟨zTy_of hw hTt4, hJ4⟩
  have hz := zWc_fr hz (zRq_fr hfr4 (by decide +kernel))
  refine pm_blk hK zmm28 [] 4 92 [(2, 3), (2, 99)] [(2, 8), (2, 104)] μc4 [] rfl trivial ?_
  refine pm_ccall hK zmm28 hC189 hw zGm_lt zJ_loc (91, 1, 29, 2) zM29 [(2, 104), (2, 8)] [] rfl rfl rfl rfl rfl ⟨by have e : zC189.2.2.2.1 = 1 := rfl; omega, by have e : zC189.2.2.2.2.1 = 80 := rfl; rw [zn29]; omega⟩ hs189 rfl (fun t ht => by cases ht) ⟨rfl, fun h => absurd h (by decide), fun _ => rfl, rfl, fun h => absurd h (by decide), fun _ => rfl, trivial⟩ (zTy_T hw hTc4.1) hTc4.2 (fun st5 μc5 hp5 hTt5 hJ5 hfr5 => ?_)
  obtain rfl := hp5
  have hTc5 : zTJ none μc5 := ⟨zTy_of hw hTt5, hJ5⟩
  have hz := zWc_fr hz (zRq_fr hfr5 (by decide +kernel))
  refine pm_blk hK zmm28 [] 4 103 [(2, 3), (2, 99)] [(2, 9), (2, 105)] μc5 [] rfl trivial ?_
  refine pm_ccall hK zmm28 hC190 hw zGm_lt zJ_loc (91, 1, 29, 2) zM29 [(2, 105), (2, 9)] [] rfl rfl rfl rfl rfl ⟨by have e : zC190.2.2.2.1 = 1 := rfl; omega, by have e : zC190.2.2.2.2.1 = 80 := rfl; rw [zn29]; omega⟩ hs190 rfl (fun t ht => by cases ht) ⟨rfl, fun h => absurd h (by decide), fun _ => rfl, rfl, fun h => absurd h (by decide), fun _ => rfl, trivial⟩ (zTy_T hw hTc5.1) hTc5.2 (fun st6 μc6 hp6 hTt6 hJ6 hfr6 => ?_)
  obtain rfl := hp6
  have hTc6 : zTJ none μc6 := ⟨zTy_of hw hTt6, hJ6⟩
  have hz := zWc_fr hz (zRq_fr hfr6 (by decide +kernel))
  refine pm_blk hK zmm28 [] 4 114 [(2, 3), (2, 99)] [(2, 10), (2, 106)] μc6 [] rfl trivial ?_
  refine pm_ccall hK zmm28 hC191 hw zGm_lt zJ_loc (91, 1, 29, 2) zM29 [(2, 106), (2, 10)] [] rfl rfl rfl rfl rfl ⟨by have e : zC191.2.2.2.1 = 1 := rfl; omega, by have e : zC191.2.2.2.2.1 = 80 := rfl; rw [zn29]; omega⟩ hs191 rfl (fun t ht => by cases ht) ⟨rfl, fun h => absurd h (by decide), fun _ => rfl, rfl, fun h => absurd h (by decide), fun _ => rfl, trivial⟩ (zTy_T hw hTc6.1) hTc6.2 (fun st7 μc7 hp7 hTt7 hJ7 hfr7 => ?_)
  obtain rfl := hp7
  have hTc7 : zTJ none μc7 := ⟨zTy_of hw hTt7, hJ7⟩
  have hz := zWc_fr hz (zRq_fr hfr7 (by decide +kernel))
  refine pm_blk hK zmm28 [] 4 125 [(2, 3), (2, 99)] [(2, 11), (2, 107)] μc7 [] rfl trivial ?_
  refine pm_ccall hK zmm28 hC192 hw zGm_lt zJ_loc (91, 1, 29, 2) zM29 [(2, 107), (2, 11)] [] rfl rfl rfl rfl rfl ⟨by have e : zC192.2.2.2.1 = 1 := rfl; omega, by have e : zC192.2.2.2.2.1 = 80 := rfl; rw [zn29]; omega⟩ hs192 rfl (fun t ht => by cases ht) ⟨rfl, fun h => absurd h (by decide), fun _ => rfl, rfl, fun h => absurd h (by decide), fun _ => rfl, trivial⟩ (zTy_T hw hTc7.1) hTc7.2 (fun st8 μc8 hp8 hTt8 hJ8 hfr8 => ?_)
  obtain rfl := hp8
  have hTc8 : zTJ none μc8 := ⟨zTy_of hw hTt8, hJ8⟩
  have hz := zWc_fr hz (zRq_fr hfr8 (by decide +kernel))
  refine pm_blk hK zmm28 [] 4 136 [(2, 3), (2, 99)] [(2, 12), (2, 108)] μc8 [] rfl trivial ?_
  refine pm_ccall hK zmm28 hC193 hw zGm_lt zJ_loc (91, 1, 29, 2) zM29 [(2, 108), (2, 12)] [] rfl rfl rfl rfl rfl ⟨by have e : zC193.2.2.2.1 = 1 := rfl; omega, by have e : zC193.2.2.2.2.1 = 80 := rfl; rw [zn29]; omega⟩ hs193 rfl (fun t ht => by cases ht) ⟨rfl, fun h => absurd h (by decide), fun _ => rfl, rfl, fun h => absurd h (by decide), fun _ => rfl, trivial⟩ (zTy_T hw hTc8.1) hTc8.2 (fun st9 μc9 hp9 hTt9 hJ9 hfr9 => ?_)
  obtain rfl := hp9
  have hTc9 : zTJ none μc9 := ⟨zTy_of hw hTt9, hJ9⟩
  have hz := zWc_fr hz (zRq_fr hfr9 (by decide +kernel))
  refine pm_blk hK zmm28 [] 4 147 [(2, 3), (2, 99)] [(2, 13), (2, 109)] μc9 [] rfl trivial ?_
  refine pm_ccall hK zmm28 hC194 hw zGm_lt zJ_loc (91, 1, 29, 2) zM29 [(2, 109), (2, 13)] [] rfl rfl rfl rfl rfl ⟨by have e : zC194.2.2.2.1 = 1 := rfl; omega, by have e : zC194.2.2.2.2.1 = 80 := rfl; rw [zn29]; omega⟩ hs194 rfl (fun t ht => by cases ht) ⟨rfl, fun h => absurd h (by decide), fun _ => rfl, rfl, fun h => absurd h (by decide), fun _ => rfl, trivial⟩ (zTy_T hw hTc9.1) hTc9.2 (fun st10 μc10 hp10 hTt10 hJ10 hfr10 => ?_)
  obtain rfl := hp10
  have hTc10 : zTJ none μc10 := ⟨zTy_of hw hTt10, hJ10⟩
  have hz := zWc_fr hz (zRq_fr hfr10 (by decide +kernel))
  refine pm_blk hK zmm28 [] 4 158 [(2, 3), (2, 99)] [(2, 14), (2, 110)] μc10 [] rfl trivial ?_
  refine pm_ccall hK zmm28 hC195 hw zGm_lt zJ_loc (91, 1, 29, 2) zM29 [(2, 110), (2, 14)] [] rfl rfl rfl rfl rfl ⟨by have e : zC195.2.2.2.1 = 1 := rfl; omega, by have e : zC195.2.2.2.2.1 = 80 := rfl; rw [zn29]; omega⟩ hs195 rfl (fun t ht => by cases ht) ⟨rfl, fun h => absurd h (by decide), fun _ => rfl, rfl, fun h => absurd h (by decide), fun _ => rfl, trivial⟩ (zTy_T hw hTc10.1) hTc10.2 (fun st11 μc11 hp11 hTt11 hJ11 hfr11 => ?_)
  obtain rfl := hp11
  have hTc11 : zTJ none μc11 := ⟨zTy_of hw hTt11, hJ11⟩
  have hz := zWc_fr hz (zRq_fr hfr11 (by decide +kernel))
  refine pm_blk hK zmm28 [] 4 169 [(2, 3), (2, 99)] [(2, 15), (2, 111)] μc11 [] rfl trivial ?_
  refine pm_ccall hK zmm28 hC196 hw zGm_lt zJ_loc (91, 1, 29, 2) zM29 [(2, 111), (2, 15)] [] rfl rfl rfl rfl rfl ⟨by have e : zC196.2.2.2.1 = 1 := rfl; omega, by have e : zC196.2.2.2.2.1 = 80 := rfl; rw [zn29]; omega⟩ hs196 rfl (fun t ht => by cases ht) ⟨rfl, fun h => absurd h (by decide), fun _ => rfl, rfl, fun h => absurd h (by decide), fun _ => rfl, trivial⟩ (zTy_T hw hTc11.1) hTc11.2 (fun st12 μc12 hp12 hTt12 hJ12 hfr12 => ?_)
  obtain rfl := hp12
  have hTc12 : zTJ none μc12 := ⟨zTy_of hw hTt12, hJ12⟩
  have hz := zWc_fr hz (zRq_fr hfr12 (by decide +kernel))
  exact pm_vret rfl rfl ⟨rfl, hTc12, zWc_eq hz (by decide)⟩
set_option maxRecDepth 100000 in
theorem zh_ac3_112 (hK : zKK ST) (hw : sx_Wd zNR zRT2 B0 Sg) (hC107 : zCK none D ST B0 l Sg zC107) (hs107 : sx_subm zC107.2.2.2.2.2 Wm = true) (hC108 : zCK none D ST B0 l Sg zC108) (hs108 : sx_subm zC108.2.2.2.2.2 Wm = true) (hC109 : zCK none D ST B0 l Sg zC109) (hs109 : sx_subm zC109.2.2.2.2.2 Wm = true) (hC110 : zCK none D ST B0 l Sg zC110) (hs110 : sx_subm zC110.2.2.2.2.2 Wm = true) (hC111 : zCK none D ST B0 l Sg zC111) (hs111 : sx_subm zC111.2.2.2.2.2 Wm = true) (hC112 : zCK none D ST B0 l Sg zC112) (hs112 : sx_subm zC112.2.2.2.2.2 Wm = true) (hC113 : zCK none D ST B0 l Sg zC113) (hs113 : sx_subm zC113.2.2.2.2.2 Wm = true) (hC114 : zCK none D ST B0 l Sg zC114) (hs114 : sx_subm zC114.2.2.2.2.2 Wm = true) (hC115 : zCK none D ST B0 l Sg zC115) (hs115 : sx_subm zC115.2.2.2.2.2 Wm = true) (hC116 : zCK none D ST B0 l Sg zC116) (hs116 : sx_subm zC116.2.2.2.2.2 Wm = true) (hC117 : zCK none D ST B0 l Sg zC117) (hs117 : sx_subm zC117.2.2.2.2.2 Wm = true) (hC118 : zCK none D ST B0 l Sg zC118) (hs118 : sx_subm zC118.2.2.2.2.2 Wm = true) (hT : zTJ none μ) (hb3 : sx_bit Wm 3 = true) (hbd : 2 ≤ bud.1 ∧ 101 ≤ bud.2.1) : zC D Wm ST (sx_bW zRT2 Wm B0 Sg, J) l Sg zM28 bud [(2, 3), (2, 112)] μ (fun st' μ' => st' = [] ∧ zTJ none μ' ∧ zWc (zsw 3 112) μ μ') := by
  have hz : zWc (fun q => q) μ μ := fun _ _ => rfl
  have f1 := zT_get hT zs112_0 (i := 0) (by omega) (by omega)
  refine pm_blk hK zmm28 [] 4 8 [(2, 3), (2, 112)] [] (pm_up μ 3 0 (μ 112 0)) [sx_bit Wm 3 = true] rfl ⟨hb3, trivial⟩ ?_
  obtain ⟨μ1, eμ1⟩ : ∃ μ', μ' = pm_up μ 3 0 (μ 112 0) := ⟨_, rfl⟩
  rw [← eμ1]
  have hTμ1 : zTJ none μ1 := by rw [eμ1]; exact zT_upn hT zs3_0 rfl (i := 0) (by omega) (by omega) (by omega) (by omega)
  have hz := zWc_rcp (μ' := μ1) (d := (3, 0)) (s := (112, 0)) hz (by decide) (fun q hq hne => by rw [eμ1]; exact pm_upq (k := 0) (i := 0) rfl hne) (by show μ1 3 0 = μ 112 0; rw [eμ1, pm_up_eq])
  have g2 : μ1 112 1 = μ 112 1 := by rw [eμ1, pm_up_off (by decide)]
  have f3 := zT_get hTμ1 zs112_1 (i := 1) (by omega) (by omega)
  refine pm_blk hK zmm28 [] 4 16 [(2, 3), (2, 112)] [] (pm_up μ1 3 1 (μ1 112 1)) [sx_bit Wm 3 = true] rfl ⟨hb3, trivial⟩ ?_
  obtain ⟨μ2, eμ2⟩ : ∃ μ', μ' = pm_up μ1 3 1 (μ1 112 1) := ⟨_, rfl⟩
  rw [← eμ2]
  have hTμ2 : zTJ none μ2 := by rw [eμ2]; exact zT_upn hTμ1 zs3_1 rfl (i := 1) (by omega) (by omega) (by omega) (by omega)
  have hz := zWc_rcp (μ' := μ2) (d := (3, 1)) (s := (112, 1)) hz (by decide) (fun q hq hne => by rw [eμ2]; exact pm_upq (k := 1) (i := 1) rfl hne) (by show μ2 3 1 = μ1 112 1; rw [eμ2, pm_up_eq])
  have g4 : μ2 112 2 = μ 112 2 := by rw [eμ2, pm_up_off (by decide), eμ1, pm_up_off (by decide)]
  have f5 := zT_get hTμ2 zs112_2 (i := 2) (by omega) (by omega)
  refine pm_blk hK zmm28 [] 4 24 [(2, 3), (2, 112)] [] (pm_up μ2 3 2 (μ2 112 2)) [sx_bit Wm 3 = true] rfl ⟨hb3, trivial⟩ ?_
  obtain ⟨μ3, eμ3⟩ : ∃ μ', μ' = pm_up μ2 3 2 (μ2 112 2) := ⟨_, rfl⟩
  rw [← eμ3]
  have hTμ3 : zTJ none μ3 := by rw [eμ3]; exact zT_upn hTμ2 zs3_2 rfl (i := 2) (by omega) (by omega) (by omega) (by omega)
  have hz := zWc_fr (μ' := μ3) hz (fun q hq => by rw [eμ3]; exact pm_upq (k := 2) (i := 2) rfl ((show ∀ q ∈ zRq, q ≠ (3, 2) by decide) q hq))
  have g6 : μ3 112 3 = μ 112 3 := by rw [eμ3, pm_up_off (by decide), eμ2, pm_up_off (by decide), eμ1, pm_up_off (by decide)]
  have f7 := zT_get hTμ3 zs112_3 (i := 3) (by omega) (by omega)
  refine pm_blk hK zmm28 [] 4 32 [(2, 3), (2, 112)] [] (pm_up μ3 3 3 (μ3 112 3)) [sx_bit Wm 3 = true] rfl ⟨hb3, trivial⟩ ?_
  obtain ⟨μ4, eμ4⟩ : ∃ μ', μ' = pm_up μ3 3 3 (μ3 112 3) := ⟨_, rfl⟩
  rw [← eμ4]
  have hTμ4 : zTJ none μ4 := by rw [eμ4]; exact zT_upn hTμ3 zs3_3 rfl (i := 3) (by omega) (by omega) (by omega) (by omega)
  have hz := zWc_fr (μ' := μ4) hz (fun q hq => by rw [eμ4]; exact pm_upq (k := 3) (i := 3) rfl ((show ∀ q ∈ zRq, q ≠ (3, 3) by decide) q hq))
  have g8 : μ4 112 4 = μ 112 4 := by rw [eμ4, pm_up_off (by decide), eμ3, pm_up_off (by decide), eμ2, pm_up_off (by decide), eμ1, pm_up_off (by decide)]
  have f9 := zT_get hTμ4 zs112_4 (i := 4) (by omega) (by omega)
  refine pm_blk hK zmm28 [] 4 40 [(2, 3), (2, 112)] [] (pm_up μ4 3 4 (μ4 112 4)) [sx_bit Wm 3 = true] rfl ⟨hb3, trivial⟩ ?_
  obtain ⟨μ5, eμ5⟩ : ∃ μ', μ' = pm_up μ4 3 4 (μ4 112 4) := ⟨_, rfl⟩
  rw [← eμ5]
  have hTμ5 : zTJ none μ5 := by rw [eμ5]; exact zT_upn hTμ4 zs3_4 rfl (i := 4) (by omega) (by omega) (by omega) (by omega)
  have hz := zWc_fr (μ' := μ5) hz (fun q hq => by rw [eμ5]; exact pm_upq (k := 4) (i := 4) rfl ((show ∀ q ∈ zRq, q ≠ (3, 4) by decide) q hq))
  refine pm_blk hK zmm28 [] 4 48 [(2, 3), (2, 112)] [(2, 4), (2, 113)] μ5 [] rfl trivial ?_
  refine pm_ccall hK zmm28 hC107 hw zGm_lt zJ_loc (91, 1, 29, 2) zM29 [(2, 113), (2, 4)] [] rfl rfl rfl rfl rfl ⟨by have e : zC107.2.2.2.1 = 1 := rfl; omega, by have e : zC107.2.2.2.2.1 = 80 := rfl; rw [zn29]; omega⟩ hs107 rfl (fun t ht => by cases ht) ⟨rfl, fun h => absurd h (by decide), fun _ => rfl, rfl, fun h => absurd h (by decide), fun _ => rfl, trivial⟩ (zTy_T hw hTμ5.1) hTμ5.2 (fun st1 μc1 hp1 hTt1 hJ1 hfr1 => ?_)
  obtain rfl := hp1
  have hTc1 : zTJ none μc1 := ⟨zTy_of hw hTt1, hJ1⟩
  have hz := zWc_fr hz (zRq_fr hfr1 (by decide +kernel))
  refine pm_blk hK zmm28 [] 4 59 [(2, 3), (2, 112)] [(2, 5), (2, 114)] μc1 [] rfl trivial ?_
  refine pm_ccall hK zmm28 hC108 hw zGm_lt zJ_loc (91, 1, 29, 2) zM29 [(2, 114), (2, 5)] [] rfl rfl rfl rfl rfl ⟨by have e : zC108.2.2.2.1 = 1 := rfl; omega, by have e : zC108.2.2.2.2.1 = 80 := rfl; rw [zn29]; omega⟩ hs108 rfl (fun t ht => by cases ht) ⟨rfl, fun h => absurd h (by decide), fun _ => rfl, rfl, fun h => absurd h (by decide), fun _ => rfl, trivial⟩ (zTy_T hw hTc1.1) hTc1.2 (fun st2 μc2 hp2 hTt2 hJ2 hfr2 => ?_)
  obtain rfl := hp2
  have hTc2 : zTJ none μc2 := ⟨zTy_of hw hTt2, hJ2⟩
  have hz := zWc_fr hz (zRq_fr hfr2 (by decide +kernel))
  refine pm_blk hK zmm28 [] 4 70 [(2, 3), (2, 112)] [(2, 6), (2, 115)] μc2 [] rfl trivial ?_
  refine pm_ccall hK zmm28 hC109 hw zGm_lt zJ_loc (91, 1, 29, 2) zM29 [(2, 115), (2, 6)] [] rfl rfl rfl rfl rfl ⟨by have e : zC109.2.2.2.1 = 1 := rfl; omega, by have e : zC109.2.2.2.2.1 = 80 := rfl; rw [zn29]; omega⟩ hs109 rfl (fun t ht => by cases ht) ⟨rfl, fun h => absurd h (by decide), fun _ => rfl, rfl, fun h => absurd h (by decide), fun _ => rfl, trivial⟩ (zTy_T hw hTc2.1) hTc2.2 (fun st3 μc3 hp3 hTt3 hJ3 hfr3 => ?_)
  obtain rfl := hp3
  have hTc3 : zTJ none μc3 := ⟨zTy_of hw hTt3, hJ3⟩
  have hz := zWc_fr hz (zRq_fr hfr3 (by decide +kernel))
  refine pm_blk hK zmm28 [] 4 81 [(2, 3), (2, 112)] [(2, 7), (2, 116)] μc3 [] rfl trivial ?_
  refine pm_ccall hK zmm28 hC110 hw zGm_lt zJ_loc (91, 1, 29, 2) zM29 [(2, 116), (2, 7)] [] rfl rfl rfl rfl rfl ⟨by have e : zC110.2.2.2.1 = 1 := rfl; omega, by have e : zC110.2.2.2.2.1 = 80 := rfl; rw [zn29]; omega⟩ hs110 rfl (fun t ht => by cases ht) ⟨rfl, fun h => absurd h (by decide), fun _ => rfl, rfl, fun h => absurd h (by decide), fun _ => rfl, trivial⟩ (zTy_T hw hTc3.1) hTc3.2 (fun st4 μc4 hp4 hTt4 hJ4 hfr4 => ?_)
  obtain rfl := hp4
  have hTc4 : zTJ none μc4 := ⟨zTy_of hw hTt4, hJ4⟩
  have hz := zWc_fr hz (zRq_fr hfr4 (by decide +kernel))
  refine pm_blk hK zmm28 [] 4 92 [(2, 3), (2, 112)] [(2, 8), (2, 117)] μc4 [] rfl trivial ?_
  refine pm_ccall hK zmm28 hC111 hw zGm_lt zJ_loc (91, 1, 29, 2) zM29 [(2, 117), (2, 8)] [] rfl rfl rfl rfl rfl ⟨by have e : zC111.2.2.2.1 = 1 := rfl; omega, by have e : zC111.2.2.2.2.1 = 80 := rfl; rw [zn29]; omega⟩ hs111 rfl (fun t ht => by cases ht) ⟨rfl, fun h => absurd h (by decide), fun _ => rfl, rfl, fun h => absurd h (by decide), fun _ => rfl, trivial⟩ (zTy_T hw hTc4.1) hTc4.2 (fun st5 μc5 hp5 hTt5 hJ5 hfr5 => ?_)
  obtain rfl := hp5
  have hTc5 : zTJ none μc5 := ⟨zTy_of hw hTt5, hJ5⟩
  have hz := zWc_fr hz (zRq_fr hfr5 (by decide +kernel))
  refine pm_blk hK zmm28 [] 4 103 [(2, 3), (2, 112)] [(2, 9), (2, 118)] μc5 [] rfl trivial ?_
  refine pm_ccall hK zmm28 hC112 hw zGm_lt zJ_loc (91, 1, 29, 2) zM29 [(2, 118), (2, 9)] [] rfl rfl rfl rfl rfl ⟨by have e : zC112.2.2.2.1 = 1 := rfl; omega, by have e : zC112.2.2.2.2.1 = 80 := rfl; rw [zn29]; omega⟩ hs112 rfl (fun t ht => by cases ht) ⟨rfl, fun h => absurd h (by decide), fun _ => rfl, rfl, fun h => absurd h (by decide), fun _ => rfl, trivial⟩ (zTy_T hw hTc5.1) hTc5.2 (fun st6 μc6 hp6 hTt6 hJ6 hfr6 => ?_)
  obtain rfl := hp6
  have hTc6 : zTJ none μc6 := ⟨zTy_of hw hTt6, hJ6⟩
  have hz := zWc_fr hz (zRq_fr hfr6 (by decide +kernel))
  refine pm_blk hK zmm28 [] 4 114 [(2, 3), (2, 112)] [(2, 10), (2, 119)] μc6 [] rfl trivial ?_
  refine pm_ccall hK zmm28 hC113 hw zGm_lt zJ_loc (91, 1, 29, 2) zM29 [(2, 119), (2, 10)] [] rfl rfl rfl rfl rfl ⟨by have e : zC113.2.2.2.1 = 1 := rfl; omega, by have e : zC113.2.2.2.2.1 = 80 := rfl; rw [zn29]; omega⟩ hs113 rfl (fun t ht => by cases ht) ⟨rfl, fun h => absurd h (by decide), fun _ => rfl, rfl, fun h => absurd h (by decide), fun _ => rfl, trivial⟩ (zTy_T hw hTc6.1) hTc6.2 (fun st7 μc7 hp7 hTt7 hJ7 hfr7 => ?_)
  obtain rfl := hp7
  have hTc7 : zTJ none μc7 := ⟨zTy_of hw hTt7, hJ7⟩
  have hz := zWc_fr hz (zRq_fr hfr7 (by decide +kernel))
  refine pm_blk hK zmm28 [] 4 125 [(2, 3), (2, 112)] [(2, 11), (2, 120)] μc7 [] rfl trivial ?_
  refine pm_ccall hK zmm28 hC114 hw zGm_lt zJ_loc (91, 1, 29, 2) zM29 [(2, 120), (2, 11)] [] rfl rfl rfl rfl rfl ⟨by have e : zC114.2.2.2.1 = 1 := rfl; omega, by have e : zC114.2.2.2.2.1 = 80 := rfl; rw [zn29]; omega⟩ hs114 rfl (fun t ht => by cases ht) ⟨rfl, fun h => absurd h (by decide), fun _ => rfl, rfl, fun h => absurd h (by decide), fun _ => rfl, trivial⟩ (zTy_T hw hTc7.1) hTc7.2 (fun st8 μc8 hp8 hTt8 hJ8 hfr8 => ?_)
  obtain rfl := hp8
  have hTc8 : zTJ none μc8 := ⟨zTy_of hw hTt8, hJ8⟩
  have hz := zWc_fr hz (zRq_fr hfr8 (by decide +kernel))
  refine pm_blk hK zmm28 [] 4 136 [(2, 3), (2, 112)] [(2, 12), (2, 121)] μc8 [] rfl trivial ?_
  refine pm_ccall hK zmm28 hC115 hw zGm_lt zJ_loc (91, 1, 29, 2) zM29 [(2, 121), (2, 12)] [] rfl rfl rfl rfl rfl ⟨by have e : zC115.2.2.2.1 = 1 := rfl; omega, by have e : zC115.2.2.2.2.1 = 80 := rfl; rw [zn29]; omega⟩ hs115 rfl (fun t ht => by cases ht) ⟨rfl, fun h => absurd h (by decide), fun _ => rfl, rfl, fun h => absurd h (by decide), fun _ => rfl, trivial⟩ (zTy_T hw hTc8.1) hTc8.2 (fun st9 μc9 hp9 hTt9 hJ9 hfr9 => ?_)
  obtain rfl := hp9
  have hTc9 : zTJ none μc9 := ⟨zTy_of hw hTt9, hJ9⟩
  have hz := zWc_fr hz (zRq_fr hfr9 (by decide +kernel))
  refine pm_blk hK zmm28 [] 4 147 [(2, 3), (2, 112)] [(2, 13), (2, 122)] μc9 [] rfl trivial ?_
  refine pm_ccall hK zmm28 hC116 hw zGm_lt zJ_loc (91, 1, 29, 2) zM29 [(2, 122), (2, 13)] [] rfl rfl rfl rfl rfl ⟨by have e : zC116.2.2.2.1 = 1 := rfl; omega, by have e : zC116.2.2.2.2.1 = 80 := rfl; rw [zn29]; omega⟩ hs116 rfl (fun t ht => by cases ht) ⟨rfl, fun h => absurd h (by decide), fun _ => rfl, rfl, fun h => absurd h (by decide), fun _ => rfl, trivial⟩ (zTy_T hw hTc9.1) hTc9.2 (fun st10 μc10 hp10 hTt10 hJ10 hfr10 => ?_)
  obtain rfl := hp10
  have hTc10 : zTJ none μc10 := ⟨zTy_of hw hTt10, hJ10⟩
  have hz := zWc_fr hz (zRq_fr hfr10 (by decide +kernel))
  refine pm_blk hK zmm28 [] 4 158 [(2, 3), (2, 112)] [(2, 14), (2, 123)] μc10 [] rfl trivial ?_
  refine pm_ccall hK zmm28 hC117 hw zGm_lt zJ_loc (91, 1, 29, 2) zM29 [(2, 123), (2, 14)] [] rfl rfl rfl rfl rfl ⟨by have e : zC117.2.2.2.1 = 1 := rfl; omega, by have e : zC117.2.2.2.2.1 = 80 := rfl; rw [zn29]; omega⟩ hs117 rfl (fun t ht => by cases ht) ⟨rfl, fun h => absurd h (by decide), fun _ => rfl, rfl, fun h => absurd h (by decide), fun _ => rfl, trivial⟩ (zTy_T hw hTc10.1) hTc10.2 (fun st11 μc11 hp11 hTt11 hJ11 hfr11 => ?_)
  obtain rfl := hp11
  have hTc11 : zTJ none μc11 := ⟨zTy_of hw hTt11, hJ11⟩
  have hz := zWc_fr hz (zRq_fr hfr11 (by decide +kernel))
  refine pm_blk hK zmm28 [] 4 169 [(2, 3), (2, 112)] [(2, 15), (2, 124)] μc11 [] rfl trivial ?_
  refine pm_ccall hK zmm28 hC118 hw zGm_lt zJ_loc (91, 1, 29, 2) zM29 [(2, 124), (2, 15)] [] rfl rfl rfl rfl rfl ⟨by have e : zC118.2.2.2.1 = 1 := rfl; omega, by have e : zC118.2.2.2.2.1 = 80 := rfl; rw [zn29]; omega⟩ hs118 rfl (fun t ht => by cases ht) ⟨rfl, fun h => absurd h (by decide), fun _ => rfl, rfl, fun h => absurd h (by decide), fun _ => rfl, trivial⟩ (zTy_T hw hTc11.1) hTc11.2 (fun st12 μc12 hp12 hTt12 hJ12 hfr12 => ?_)
  obtain rfl := hp12
  have hTc12 : zTJ none μc12 := ⟨zTy_of hw hTt12, hJ12⟩
  have hz := zWc_fr hz (zRq_fr hfr12 (by decide +kernel))
  exact pm_vret rfl rfl ⟨rfl, hTc12, zWc_eq hz (by decide)⟩
set_option maxRecDepth 100000 in
theorem zh_ac3_125 (hK : zKK ST) (hw : sx_Wd zNR zRT2 B0 Sg) (hC120 : zCK none D ST B0 l Sg zC120) (hs120 : sx_subm zC120.2.2.2.2.2 Wm = true) (hC121 : zCK none D ST B0 l Sg zC121) (hs121 : sx_subm zC121.2.2.2.2.2 Wm = true) (hC122 : zCK none D ST B0 l Sg zC122) (hs122 : sx_subm zC122.2.2.2.2.2 Wm = true) (hC123 : zCK none D ST B0 l Sg zC123) (hs123 : sx_subm zC123.2.2.2.2.2 Wm = true) (hC124 : zCK none D ST B0 l Sg zC124) (hs124 : sx_subm zC124.2.2.2.2.2 Wm = true) (hC125 : zCK none D ST B0 l Sg zC125) (hs125 : sx_subm zC125.2.2.2.2.2 Wm = true) (hC126 : zCK none D ST B0 l Sg zC126) (hs126 : sx_subm zC126.2.2.2.2.2 Wm = true) (hC127 : zCK none D ST B0 l Sg zC127) (hs127 : sx_subm zC127.2.2.2.2.2 Wm = true) (hC128 : zCK none D ST B0 l Sg zC128) (hs128 : sx_subm zC128.2.2.2.2.2 Wm = true) (hC129 : zCK none D ST B0 l Sg zC129) (hs129 : sx_subm zC129.2.2.2.2.2 Wm = true) (hC130 : zCK none D ST B0 l Sg zC130) (hs130 : sx_subm zC130.2.2.2.2.2 Wm = true) (hC131 : zCK none D ST B0 l Sg zC131) (hs131 : sx_subm zC131.2.2.2.2.2 Wm = true) (hT : zTJ none μ) (hb3 : sx_bit Wm 3 = true) (hbd : 2 ≤ bud.1 ∧ 101 ≤ bud.2.1) : zC D Wm ST (sx_bW zRT2 Wm B0 Sg, J) l Sg zM28 bud [(2, 3), (2, 125)] μ (fun st' μ' => st' = [] ∧ zTJ none μ' ∧ zWc (zsw 3 125) μ μ') := by
  have hz : zWc (fun q => q) μ μ := fun _ _ => rfl
  have f1 := zT_get hT zs125_0 (i := 0) (by omega) (by omega)
  refine pm_blk hK zmm28 [] 4 8 [(2, 3), (2, 125)] [] (pm_up μ 3 0 (μ 125 0)) [sx_bit Wm 3 = true] rfl ⟨hb3, trivial⟩ ?_
  obtain ⟨μ1, eμ1⟩ : ∃ μ', μ' = pm_up μ 3 0 (μ 125 0) := ⟨_, rfl⟩
  rw [← eμ1]
  have hTμ1 : zTJ none μ1 := by rw [eμ1]; exact zT_upn hT zs3_0 rfl (i := 0) (by omega) (by omega) (by omega) (by omega)
  have hz := zWc_rcp (μ' := μ1) (d := (3, 0)) (s := (125, 0)) hz (by decide) (fun q hq hne => by rw [eμ1]; exact pm_upq (k := 0) (i := 0) rfl hne) (by show μ1 3 0 = μ 125 0; rw [eμ1, pm_up_eq])
  have g2 : μ1 125 1 = μ 125 1 := by rw [eμ1, pm_up_off (by decide)]
  have f3 := zT_get hTμ1 zs125_1 (i := 1) (by omega) (by omega)
  refine pm_blk hK zmm28 [] 4 16 [(2, 3), (2, 125)] [] (pm_up μ1 3 1 (μ1 125 1)) [sx_bit Wm 3 = true] rfl ⟨hb3, trivial⟩ ?_
  obtain ⟨μ2, eμ2⟩ : ∃ μ', μ' = pm_up μ1 3 1 (μ1 125 1) := ⟨_, rfl⟩
  rw [← eμ2]
  have hTμ2 : zTJ none μ2 := by rw [eμ2]; exact zT_upn hTμ1 zs3_1 rfl (i := 1) (by omega) (by omega) (by omega) (by omega)
  have hz := zWc_rcp (μ' := μ2) (d := (3, 1)) (s := (125, 1)) hz (by decide) (fun q hq hne => by rw [eμ2]; exact pm_upq (k := 1) (i := 1) rfl hne) (by show μ2 3 1 = μ1 125 1; rw [eμ2, pm_up_eq])
  have g4 : μ2 125 2 = μ 125 2 := by rw [eμ2, pm_up_off (by decide), eμ1, pm_up_off (by decide)]
  have f5 := zT_get hTμ2 zs125_2 (i := 2) (by omega) (by omega)
  refine pm_blk hK zmm28 [] 4 24 [(2, 3), (2, 125)] [] (pm_up μ2 3 2 (μ2 125 2)) [sx_bit Wm 3 = true] rfl ⟨hb3, trivial⟩ ?_
  obtain ⟨μ3, eμ3⟩ : ∃ μ', μ' = pm_up μ2 3 2 (μ2 125 2) := ⟨_, rfl⟩
  rw [← eμ3]
  have hTμ3 : zTJ none μ3 := by rw [eμ3]; exact zT_upn hTμ2 zs3_2 rfl (i := 2) (by omega) (by omega) (by omega) (by omega)
  have hz := zWc_fr (μ' := μ3) hz (fun q hq => by rw [eμ3]; exact pm_upq (k := 2) (i := 2) rfl ((show ∀ q ∈ zRq, q ≠ (3, 2) by decide) q hq))
  have g6 : μ3 125 3 = μ 125 3 := by rw [eμ3, pm_up_off (by decide), eμ2, pm_up_off (by decide), eμ1, pm_up_off (by decide)]
  have f7 := zT_get hTμ3 zs125_3 (i := 3) (by omega) (by omega)
  refine pm_blk hK zmm28 [] 4 32 [(2, 3), (2, 125)] [] (pm_up μ3 3 3 (μ3 125 3)) [sx_bit Wm 3 = true] rfl ⟨hb3, trivial⟩ ?_
  obtain ⟨μ4, eμ4⟩ : ∃ μ', μ' = pm_up μ3 3 3 (μ3 125 3) := ⟨_, rfl⟩
  rw [← eμ4]
  have hTμ4 : zTJ none μ4 := by rw [eμ4]; exact zT_upn hTμ3 zs3_3 rfl (i := 3) (by omega) (by omega) (by omega) (by omega)
  have hz := zWc_fr (μ' := μ4) hz (fun q hq => by rw [eμ4]; exact pm_upq (k := 3) (i := 3) rfl ((show ∀ q ∈ zRq, q ≠ (3, 3) by decide) q hq))
  have g8 : μ4 125 4 = μ 125 4 := by rw [eμ4, pm_up_off (by decide), eμ3, pm_up_off (by decide), eμ2, pm_up_off (by decide), eμ1, pm_up_off (by decide)]
  have f9 := zT_get hTμ4 zs125_4 (i := 4) (by omega) (by omega)
  refine pm_blk hK zmm28 [] 4 40 [(2, 3), (2, 125)] [] (pm_up μ4 3 4 (μ4 125 4)) [sx_bit Wm 3 = true] rfl ⟨hb3, trivial⟩ ?_
  obtain ⟨μ5, eμ5⟩ : ∃ μ', μ' = pm_up μ4 3 4 (μ4 125 4) := ⟨_, rfl⟩
  rw [← eμ5]
  have hTμ5 : zTJ none μ5 := by rw [eμ5]; exact zT_upn hTμ4 zs3_4 rfl (i := 4) (by omega) (by omega) (by omega) (by omega)
  have hz := zWc_fr (μ' := μ5) hz (fun q hq => by rw [eμ5]; exact pm_upq (k := 4) (i := 4) rfl ((show ∀ q ∈ zRq, q ≠ (3, 4) by decide) q hq))
  refine pm_blk hK zmm28 [] 4 48 [(2, 3), (2, 125)] [(2, 4), (2, 126)] μ5 [] rfl trivial ?_
  refine pm_ccall hK zmm28 hC120 hw zGm_lt zJ_loc (91, 1, 29, 2) zM29 [(2, 126), (2, 4)] [] rfl rfl rfl rfl rfl ⟨by have e : zC120.2.2.2.1 = 1 := rfl; omega, by have e : zC120.2.2.2.2.1 = 80 := rfl; rw [zn29]; omega⟩ hs120 rfl (fun t ht => by cases ht) ⟨rfl, fun h => absurd h (by decide), fun _ => rfl, rfl, fun h => absurd h (by decide), fun _ => rfl, trivial⟩ (zTy_T hw hTμ5.1) hTμ5.2 (fun st1 μc1 hp1 hTt1 hJ1 hfr1 => ?_)
  obtain rfl := hp1
  have hTc1 : zTJ none μc1 := ⟨zTy_of hw hTt1, hJ1⟩
  have hz := zWc_fr hz (zRq_fr hfr1 (by decide +kernel))
  refine pm_blk hK zmm28 [] 4 59 [(2, 3), (2, 125)] [(2, 5), (2, 127)] μc1 [] rfl trivial ?_
  refine pm_ccall hK zmm28 hC121 hw zGm_lt zJ_loc (91, 1, 29, 2) zM29 [(2, 127), (2, 5)] [] rfl rfl rfl rfl rfl ⟨by have e : zC121.2.2.2.1 = 1 := rfl; omega, by have e : zC121.2.2.2.2.1 = 80 := rfl; rw [zn29]; omega⟩ hs121 rfl (fun t ht => by cases ht) ⟨rfl, fun h => absurd h (by decide), fun _ => rfl, rfl, fun h => absurd h (by decide), fun _ => rfl, trivial⟩ (zTy_T hw hTc1.1) hTc1.2 (fun st2 μc2 hp2 hTt2 hJ2 hfr2 => ?_)
  obtain rfl := hp2
  have hTc2 : zTJ none μc2 := ⟨zTy_of hw hTt2, hJ2⟩
  have hz := zWc_fr hz (zRq_fr hfr2 (by decide +kernel))
  refine pm_blk hK zmm28 [] 4 70 [(2, 3), (2, 125)] [(2, 6), (2, 128)] μc2 [] rfl trivial ?_
  refine pm_ccall hK zmm28 hC122 hw zGm_lt zJ_loc (91, 1, 29, 2) zM29 [(2, 128), (2, 6)] [] rfl rfl rfl rfl rfl ⟨by have e : zC122.2.2.2.1 = 1 := rfl; omega, by have e : zC122.2.2.2.2.1 = 80 := rfl; rw [zn29]; omega⟩ hs122 rfl (fun t ht => by cases ht) ⟨rfl, fun h => absurd h (by decide), fun _ => rfl, rfl, fun h => absurd h (by decide), fun _ => rfl, trivial⟩ (zTy_T hw hTc2.1) hTc2.2 (fun st3 μc3 hp3 hTt3 hJ3 hfr3 => ?_)
  obtain rfl := hp3
  have hTc3 : zTJ none μc3 := ⟨zTy_of hw hTt3, hJ3⟩
  have hz := zWc_fr hz (zRq_fr hfr3 (by decide +kernel))
  refine pm_blk hK zmm28 [] 4 81 [(2, 3), (2, 125)] [(2, 7), (2, 129)] μc3 [] rfl trivial ?_
  refine pm_ccall hK zmm28 hC123 hw zGm_lt zJ_loc (91, 1, 29, 2) zM29 [(2, 129), (2, 7)] [] rfl rfl rfl rfl rfl ⟨by have e : zC123.2.2.2.1 = 1 := rfl; omega, by have e : zC123.2.2.2.2.1 = 80 := rfl; rw [zn29]; omega⟩ hs123 rfl (fun t ht => by cases ht) ⟨rfl, fun h => absurd h (by decide), fun _ => rfl, rfl, fun h => absurd h (by decide), fun _ => rfl, trivial⟩ (zTy_T hw hTc3.1) hTc3.2 (fun st4 μc4 hp4 hTt4 hJ4 hfr4 => ?_)
  obtain rfl := hp4
  have hTc4 : zTJ none μc4 := ⟨zTy_of hw hTt4, hJ4⟩
  have hz := zWc_fr hz (zRq_fr hfr4 (by decide +kernel))
  refine pm_blk hK zmm28 [] 4 92 [(2, 3), (2, 125)] [(2, 8), (2, 130)] μc4 [] rfl trivial ?_
  refine pm_ccall hK zmm28 hC124 hw zGm_lt zJ_loc (91, 1, 29, 2) zM29 [(2, 130), (2, 8)] [] rfl rfl rfl rfl rfl ⟨by have e : zC124.2.2.2.1 = 1 := rfl; omega, by have e : zC124.2.2.2.2.1 = 80 := rfl; rw [zn29]; omega⟩ hs124 rfl (fun t ht => by cases ht) ⟨rfl, fun h => absurd h (by decide), fun _ => rfl, rfl, fun h => absurd h (by decide), fun _ => rfl, trivial⟩ (zTy_T hw hTc4.1) hTc4.2 (fun st5 μc5 hp5 hTt5 hJ5 hfr5 => ?_)
  obtain rfl := hp5
  have hTc5 : zTJ none μc5 := ⟨zTy_of hw hTt5, hJ5⟩
  have hz := zWc_fr hz (zRq_fr hfr5 (by decide +kernel))
  refine pm_blk hK zmm28 [] 4 103 [(2, 3), (2, 125)] [(2, 9), (2, 131)] μc5 [] rfl trivial ?_
  refine pm_ccall hK zmm28 hC125 hw zGm_lt zJ_loc (91, 1, 29, 2) zM29 [(2, 131), (2, 9)] [] rfl rfl rfl rfl rfl ⟨by have e : zC125.2.2.2.1 = 1 := rfl; omega, by have e : zC125.2.2.2.2.1 = 80 := rfl; rw [zn29]; omega⟩ hs125 rfl (fun t ht => by cases ht) ⟨rfl, fun h => absurd h (by decide), fun _ => rfl, rfl, fun h => absurd h (by decide), fun _ => rfl, trivial⟩ (zTy_T hw hTc5.1) hTc5.2 (fun st6 μc6 hp6 hTt6 hJ6 hfr6 => ?_)
  obtain rfl := hp6
  have hTc6 : zTJ none μc6 := ⟨zTy_of hw hTt6, hJ6⟩
  have hz := zWc_fr hz (zRq_fr hfr6 (by decide +kernel))
  refine pm_blk hK zmm28 [] 4 114 [(2, 3), (2, 125)] [(2, 10), (2, 132)] μc6 [] rfl trivial ?_
  refine pm_ccall hK zmm28 hC126 hw zGm_lt zJ_loc (91, 1, 29, 2) zM29 [(2, 132), (2, 10)] [] rfl rfl rfl rfl rfl ⟨by have e : zC126.2.2.2.1 = 1 := rfl; omega, by have e : zC126.2.2.2.2.1 = 80 := rfl; rw [zn29]; omega⟩ hs126 rfl (fun t ht => by cases ht) ⟨rfl, fun h => absurd h (by decide), fun _ => rfl, rfl, fun h => absurd h (by decide), fun _ => rfl, trivial⟩ (zTy_T hw hTc6.1) hTc6.2 (fun st7 μc7 hp7 hTt7 hJ7 hfr7 => ?_)
  obtain rfl := hp7
  have hTc7 : zTJ none μc7 := ⟨zTy_of hw hTt7, hJ7⟩
  have hz := zWc_fr hz (zRq_fr hfr7 (by decide +kernel))
  refine pm_blk hK zmm28 [] 4 125 [(2, 3), (2, 125)] [(2, 11), (2, 133)] μc7 [] rfl trivial ?_
  refine pm_ccall hK zmm28 hC127 hw zGm_lt zJ_loc (91, 1, 29, 2) zM29 [(2, 133), (2, 11)] [] rfl rfl rfl rfl rfl ⟨by have e : zC127.2.2.2.1 = 1 := rfl; omega, by have e : zC127.2.2.2.2.1 = 80 := rfl; rw [zn29]; omega⟩ hs127 rfl (fun t ht => by cases ht) ⟨rfl, fun h => absurd h (by decide), fun _ => rfl, rfl, fun h => absurd h (by decide), fun _ => rfl, trivial⟩ (zTy_T hw hTc7.1) hTc7.2 (fun st8 μc8 hp8 hTt8 hJ8 hfr8 => ?_)
  obtain rfl := hp8
  have hTc8 : zTJ none μc8 := ⟨zTy_of hw hTt8, hJ8⟩
  have hz := zWc_fr hz (zRq_fr hfr8 (by decide +kernel))
  refine pm_blk hK zmm28 [] 4 136 [(2, 3), (2, 125)] [(2, 12), (2, 134)] μc8 [] rfl trivial ?_
  refine pm_ccall hK zmm28 hC128 hw zGm_lt zJ_loc (91, 1, 29, 2) zM29 [(2, 134), (2, 12)] [] rfl rfl rfl rfl rfl ⟨by have e : zC128.2.2.2.1 = 1 := rfl; omega, by have e : zC128.2.2.2.2.1 = 80 := rfl; rw [zn29]; omega⟩ hs128 rfl (fun t ht => by cases ht) ⟨rfl, fun h => absurd h (by decide), fun _ => rfl, rfl, fun h => absurd h (by decide), fun _ => rfl, trivial⟩ (zTy_T hw hTc8.1) hTc8.2 (fun st9 μc9 hp9 hTt9 hJ9 hfr9 => ?_)
  obtain rfl := hp9
  have hTc9 : zTJ none μc9 := ⟨zTy_of hw hTt9, hJ9⟩
  have hz := zWc_fr hz (zRq_fr hfr9 (by decide +kernel))
  refine pm_blk hK zmm28 [] 4 147 [(2, 3), (2, 125)] [(2, 13), (2, 135)] μc9 [] rfl trivial ?_
  refine pm_ccall hK zmm28 hC129 hw zGm_lt zJ_loc (91, 1, 29, 2) zM29 [(2, 135), (2, 13)] [] rfl rfl rfl rfl rfl ⟨by have e : zC129.2.2.2.1 = 1 := rfl; omega, by have e : zC129.2.2.2.2.1 = 80 := rfl; rw [zn29]; omega⟩ hs129 rfl (fun t ht => by cases ht) ⟨rfl, fun h => absurd h (by decide), fun _ => rfl, rfl, fun h => absurd h (by decide), fun _ => rfl, trivial⟩ (zTy_T hw hTc9.1) hTc9.2 (fun st10 μc10 hp10 hTt10 hJ10 hfr10 => ?_)
  obtain rfl := hp10
  have hTc10 : zTJ none μc10 := ⟨zTy_of hw hTt10, hJ10⟩
  have hz := zWc_fr hz (zRq_fr hfr10 (by decide +kernel))
  refine pm_blk hK zmm28 [] 4 158 [(2, 3), (2, 125)] [(2, 14), (2, 136)] μc10 [] rfl trivial ?_
  refine pm_ccall hK zmm28 hC130 hw zGm_lt zJ_loc (91, 1, 29, 2) zM29 [(2, 136), (2, 14)] [] rfl rfl rfl rfl rfl ⟨by have e : zC130.2.2.2.1 = 1 := rfl; omega, by have e : zC130.2.2.2.2.1 = 80 := rfl; rw [zn29]; omega⟩ hs130 rfl (fun t ht => by cases ht) ⟨rfl, fun h => absurd h (by decide), fun _ => rfl, rfl, fun h => absurd h (by decide), fun _ => rfl, trivial⟩ (zTy_T hw hTc10.1) hTc10.2 (fun st11 μc11 hp11 hTt11 hJ11 hfr11 => ?_)
  obtain rfl := hp11
  have hTc11 : zTJ none μc11 := ⟨zTy_of hw hTt11, hJ11⟩
  have hz := zWc_fr hz (zRq_fr hfr11 (by decide +kernel))
  refine pm_blk hK zmm28 [] 4 169 [(2, 3), (2, 125)] [(2, 15), (2, 137)] μc11 [] rfl trivial ?_
  refine pm_ccall hK zmm28 hC131 hw zGm_lt zJ_loc (91, 1, 29, 2) zM29 [(2, 137), (2, 15)] [] rfl rfl rfl rfl rfl ⟨by have e : zC131.2.2.2.1 = 1 := rfl; omega, by have e : zC131.2.2.2.2.1 = 80 := rfl; rw [zn29]; omega⟩ hs131 rfl (fun t ht => by cases ht) ⟨rfl, fun h => absurd h (by decide), fun _ => rfl, rfl, fun h => absurd h (by decide), fun _ => rfl, trivial⟩ (zTy_T hw hTc11.1) hTc11.2 (fun st12 μc12 hp12 hTt12 hJ12 hfr12 => ?_)
  obtain rfl := hp12
  have hTc12 : zTJ none μc12 := ⟨zTy_of hw hTt12, hJ12⟩
  have hz := zWc_fr hz (zRq_fr hfr12 (by decide +kernel))
  exact pm_vret rfl rfl ⟨rfl, hTc12, zWc_eq hz (by decide)⟩
set_option maxRecDepth 100000 in
theorem zh_ac3_138 (hK : zKK ST) (hw : sx_Wd zNR zRT2 B0 Sg) (hC133 : zCK none D ST B0 l Sg zC133) (hs133 : sx_subm zC133.2.2.2.2.2 Wm = true) (hC134 : zCK none D ST B0 l Sg zC134) (hs134 : sx_subm zC134.2.2.2.2.2 Wm = true) (hC135 : zCK none D ST B0 l Sg zC135) (hs135 : sx_subm zC135.2.2.2.2.2 Wm = true) (hC136 : zCK none D ST B0 l Sg zC136) (hs136 : sx_subm zC136.2.2.2.2.2 Wm = true) (hC137 : zCK none D ST B0 l Sg zC137) (hs137 : sx_subm zC137.2.2.2.2.2 Wm = true) (hC138 : zCK none D ST B0 l Sg zC138) (hs138 : sx_subm zC138.2.2.2.2.2 Wm = true) (hC139 : zCK none D ST B0 l Sg zC139) (hs139 : sx_subm zC139.2.2.2.2.2 Wm = true) (hC140 : zCK none D ST B0 l Sg zC140) (hs140 : sx_subm zC140.2.2.2.2.2 Wm = true) (hC141 : zCK none D ST B0 l Sg zC141) (hs141 : sx_subm zC141.2.2.2.2.2 Wm = true) (hC142 : zCK none D ST B0 l Sg zC142) (hs142 : sx_subm zC142.2.2.2.2.2 Wm = true) (hC143 : zCK none D ST B0 l Sg zC143) (hs143 : sx_subm zC143.2.2.2.2.2 Wm = true) (hC144 : zCK none D ST B0 l Sg zC144) (hs144 : sx_subm zC144.2.2.2.2.2 Wm = true) (hT : zTJ none μ) (hb3 : sx_bit Wm 3 = true) (hbd : 2 ≤ bud.1 ∧ 101 ≤ bud.2.1) : zC D Wm ST (sx_bW zRT2 Wm B0 Sg, J) l Sg zM28 bud [(2, 3), (2, 138)] μ (fun st' μ' => st' = [] ∧ zTJ none μ' ∧ zWc (zsw 3 138) μ μ') := by
  have hz : zWc (fun q => q) μ μ := fun _ _ => rfl
  have f1 := zT_get hT zs138_0 (i := 0) (by omega) (by omega)
  refine pm_blk hK zmm28 [] 4 8 [(2, 3), (2, 138)] [] (pm_up μ 3 0 (μ 138 0)) [sx_bit Wm 3 = true] rfl ⟨hb3, trivial⟩ ?_
  obtain ⟨μ1, eμ1⟩ : ∃ μ', μ' = pm_up μ 3 0 (μ 138 0) := ⟨_, rfl⟩
  rw [← eμ1]
  have hTμ1 : zTJ none μ1 := by rw [eμ1]; exact zT_upn hT zs3_0 rfl (i := 0) (by omega) (by omega) (by omega) (by omega)
  have hz := zWc_rcp (μ' := μ1) (d := (3, 0)) (s := (138, 0)) hz (by decide) (fun q hq hne => by rw [eμ1]; exact pm_upq (k := 0) (i := 0) rfl hne) (by show μ1 3 0 = μ 138 0; rw [eμ1, pm_up_eq])
  have g2 : μ1 138 1 = μ 138 1 := by rw [eμ1, pm_up_off (by decide)]
  have f3 := zT_get hTμ1 zs138_1 (i := 1) (by omega) (by omega)
  refine pm_blk hK zmm28 [] 4 16 [(2, 3), (2, 138)] [] (pm_up μ1 3 1 (μ1 138 1)) [sx_bit Wm 3 = true] rfl ⟨hb3, trivial⟩ ?_
  obtain ⟨μ2, eμ2⟩ : ∃ μ', μ' = pm_up μ1 3 1 (μ1 138 1) := ⟨_, rfl⟩
  rw [← eμ2]
  have hTμ2 : zTJ none μ2 := by rw [eμ2]; exact zT_upn hTμ1 zs3_1 rfl (i := 1) (by omega) (by omega) (by omega) (by omega)
  have hz := zWc_rcp (μ' := μ2) (d := (3, 1)) (s := (138, 1)) hz (by decide) (fun q hq hne => by rw [eμ2]; exact pm_upq (k := 1) (i := 1) rfl hne) (by show μ2 3 1 = μ1 138 1; rw [eμ2, pm_up_eq])
  have g4 : μ2 138 2 = μ 138 2 := by rw [eμ2, pm_up_off (by decide), eμ1, pm_up_off (by decide)]
  have f5 := zT_get hTμ2 zs138_2 (i := 2) (by omega) (by omega)
  refine pm_blk hK zmm28 [] 4 24 [(2, 3), (2, 138)] [] (pm_up μ2 3 2 (μ2 138 2)) [sx_bit Wm 3 = true] rfl ⟨hb3, trivial⟩ ?_
  obtain ⟨μ3, eμ3⟩ : ∃ μ', μ' = pm_up μ2 3 2 (μ2 138 2) := ⟨_, rfl⟩
  rw [← eμ3]
  have hTμ3 : zTJ none μ3 := by rw [eμ3]; exact zT_upn hTμ2 zs3_2 rfl (i := 2) (by omega) (by omega) (by omega) (by omega)
  have hz := zWc_fr (μ' := μ3) hz (fun q hq => by rw [eμ3]; exact pm_upq (k := 2) (i := 2) rfl ((show ∀ q ∈ zRq, q ≠ (3, 2) by decide) q hq))
  have g6 : μ3 138 3 = μ 138 3 := by rw [eμ3, pm_up_off (by decide), eμ2, pm_up_off (by decide), eμ1, pm_up_off (by decide)]
  have f7 := zT_get hTμ3 zs138_3 (i := 3) (by omega) (by omega)
  refine pm_blk hK zmm28 [] 4 32 [(2, 3), (2, 138)] [] (pm_up μ3 3 3 (μ3 138 3)) [sx_bit Wm 3 = true] rfl ⟨hb3, trivial⟩ ?_
  obtain ⟨μ4, eμ4⟩ : ∃ μ', μ' = pm_up μ3 3 3 (μ3 138 3) := ⟨_, rfl⟩
  rw [← eμ4]
  have hTμ4 : zTJ none μ4 := by rw [eμ4]; exact zT_upn hTμ3 zs3_3 rfl (i := 3) (by omega) (by omega) (by omega) (by omega)
  have hz := zWc_fr (μ' := μ4) hz (fun q hq => by rw [eμ4]; exact pm_upq (k := 3) (i := 3) rfl ((show ∀ q ∈ zRq, q ≠ (3, 3) by decide) q hq))
  have g8 : μ4 138 4 = μ 138 4 := by rw [eμ4, pm_up_off (by decide), eμ3, pm_up_off (by decide), eμ2, pm_up_off (by decide), eμ1, pm_up_off (by decide)]
  have f9 := zT_get hTμ4 zs138_4 (i := 4) (by omega) (by omega)
  refine pm_blk hK zmm28 [] 4 40 [(2, 3), (2, 138)] [] (pm_up μ4 3 4 (μ4 138 4)) [sx_bit Wm 3 = true] rfl ⟨hb3, trivial⟩ ?_
  obtain ⟨μ5, eμ5⟩ : ∃ μ', μ' = pm_up μ4 3 4 (μ4 138 4) := ⟨_, rfl⟩
  rw [← eμ5]
  have hTμ5 : zTJ none μ5 := by rw [eμ5]; exact zT_upn hTμ4 zs3_4 rfl (i := 4) (by omega) (by omega) (by omega) (by omega)
  have hz := zWc_fr (μ' := μ5) hz (fun q hq => by rw [eμ5]; exact pm_upq (k := 4) (i := 4) rfl ((show ∀ q ∈ zRq, q ≠ (3, 4) by decide) q hq))
  refine pm_blk hK zmm28 [] 4 48 [(2, 3), (2, 138)] [(2, 4), (2, 139)] μ5 [] rfl trivial ?_
  refine pm_ccall hK zmm28 hC133 hw zGm_lt zJ_loc (91, 1, 29, 2) zM29 [(2, 139), (2, 4)] [] rfl rfl rfl rfl rfl ⟨by have e : zC133.2.2.2.1 = 1 := rfl; omega, by have e : zC133.2.2.2.2.1 = 80 := rfl; rw [zn29]; omega⟩ hs133 rfl (fun t ht => by cases ht) ⟨rfl, fun h => absurd h (by decide), fun _ => rfl, rfl, fun h => absurd h (by decide), fun _ => rfl, trivial⟩ (zTy_T hw hTμ5.1) hTμ5.2 (fun st1 μc1 hp1 hTt1 hJ1 hfr1 => ?_)
  obtain rfl := hp1
  have hTc1 : zTJ none μc1 := ⟨zTy_of hw hTt1, hJ1⟩
  have hz := zWc_fr hz (zRq_fr hfr1 (by decide +kernel))
  refine pm_blk hK zmm28 [] 4 59 [(2, 3), (2, 138)] [(2, 5), (2, 140)] μc1 [] rfl trivial ?_
  refine pm_ccall hK zmm28 hC134 hw zGm_lt zJ_loc (91, 1, 29, 2) zM29 [(2, 140), (2, 5)] [] rfl rfl rfl rfl rfl ⟨by have e : zC134.2.2.2.1 = 1 := rfl; omega, by have e : zC134.2.2.2.2.1 = 80 := rfl; rw [zn29]; omega⟩ hs134 rfl (fun t ht => by cases ht) ⟨rfl, fun h => absurd h (by decide), fun _ => rfl, rfl, fun h => absurd h (by decide), fun _ => rfl, trivial⟩ (zTy_T hw hTc1.1) hTc1.2 (fun st2 μc2 hp2 hTt2 hJ2 hfr2 => ?_)
  obtain rfl := hp2
  have hTc2 : zTJ none μc2 := ⟨zTy_of hw hTt2, hJ2⟩
  have hz := zWc_fr hz (zRq_fr hfr2 (by decide +kernel))
  refine pm_blk hK zmm28 [] 4 70 [(2, 3), (2, 138)] [(2, 6), (2, 141)] μc2 [] rfl trivial ?_
  refine pm_ccall hK zmm28 hC135 hw zGm_lt zJ_loc (91, 1, 29, 2) zM29 [(2, 141), (2, 6)] [] rfl rfl rfl rfl rfl ⟨by have e : zC135.2.2.2.1 = 1 := rfl; omega, by have e : zC135.2.2.2.2.1 = 80 := rfl; rw [zn29]; omega⟩ hs135 rfl (fun t ht => by cases ht) ⟨rfl, fun h => absurd h (by decide), fun _ => rfl, rfl, fun h => absurd h (by decide), fun _ => rfl, trivial⟩ (zTy_T hw hTc2.1) hTc2.2 (fun st3 μc3 hp3 hTt3 hJ3 hfr3 => ?_)
  obtain rfl := hp3
  have hTc3 : zTJ none μc3 := ⟨zTy_of hw hTt3, hJ3⟩
  have hz := zWc_fr hz (zRq_fr hfr3 (by decide +kernel))
  refine pm_blk hK zmm28 [] 4 81 [(2, 3), (2, 138)] [(2, 7), (2, 142)] μc3 [] rfl trivial ?_
  refine pm_ccall hK zmm28 hC136 hw zGm_lt zJ_loc (91, 1, 29, 2) zM29 [(2, 142), (2, 7)] [] rfl rfl rfl rfl rfl ⟨by have e : zC136.2.2.2.1 = 1 := rfl; omega, by have e : zC136.2.2.2.2.1 = 80 := rfl; rw [zn29]; omega⟩ hs136 rfl (fun t ht => by cases ht) ⟨rfl, fun h => absurd h (by decide), fun _ => rfl, rfl, fun h => absurd h (by decide), fun _ => rfl, trivial⟩ (zTy_T hw hTc3.1) hTc3.2 (fun st4 μc4 hp4 hTt4 hJ4 hfr4 => ?_)
  obtain rfl := hp4
  have hTc4 : zTJ none μc4 := ⟨zTy_of hw hTt4, hJ4⟩
  have hz := zWc_fr hz (zRq_fr hfr4 (by decide +kernel))
  refine pm_blk hK zmm28 [] 4 92 [(2, 3), (2, 138)] [(2, 8), (2, 143)] μc4 [] rfl trivial ?_
  refine pm_ccall hK zmm28 hC137 hw zGm_lt zJ_loc (91, 1, 29, 2) zM29 [(2, 143), (2, 8)] [] rfl rfl rfl rfl rfl ⟨by have e : zC137.2.2.2.1 = 1 := rfl; omega, by have e : zC137.2.2.2.2.1 = 80 := rfl; rw [zn29]; omega⟩ hs137 rfl (fun t ht => by cases ht) ⟨rfl, fun h => absurd h (by decide), fun _ => rfl, rfl, fun h => absurd h (by decide), fun _ => rfl, trivial⟩ (zTy_T hw hTc4.1) hTc4.2 (fun st5 μc5 hp5 hTt5 hJ5 hfr5 => ?_)
  obtain rfl := hp5
  have hTc5 : zTJ none μc5 := ⟨zTy_of hw hTt5, hJ5⟩
  have hz := zWc_fr hz (zRq_fr hfr5 (by decide +kernel))
  refine pm_blk hK zmm28 [] 4 103 [(2, 3), (2, 138)] [(2, 9), (2, 144)] μc5 [] rfl trivial ?_
  refine pm_ccall hK zmm28 hC138 hw zGm_lt zJ_loc (91, 1, 29, 2) zM29 [(2, 144), (2, 9)] [] rfl rfl rfl rfl rfl ⟨by have e : zC138.2.2.2.1 = 1 := rfl; omega, by have e : zC138.2.2.2.2.1 = 80 := rfl; rw [zn29]; omega⟩ hs138 rfl (fun t ht => by cases ht) ⟨rfl, fun h => absurd h (by decide), fun _ => rfl, rfl, fun h => absurd h (by decide), fun _ => rfl, trivial⟩ (zTy_T hw hTc5.1) hTc5.2 (fun st6 μc6 hp6 hTt6 hJ6 hfr6 => ?_)
  obtain rfl := hp6
  have hTc6 : zTJ none μc6 := ⟨zTy_of hw hTt6, hJ6⟩
  have hz := zWc_fr hz (zRq_fr hfr6 (by decide +kernel))
  refine pm_blk hK zmm28 [] 4 114 [(2, 3), (2, 138)] [(2, 10), (2, 145)] μc6 [] rfl trivial ?_
  refine pm_ccall hK zmm28 hC139 hw zGm_lt zJ_loc (91, 1, 29, 2) zM29 [(2, 145), (2, 10)] [] rfl rfl rfl rfl rfl ⟨by have e : zC139.2.2.2.1 = 1 := rfl; omega, by have e : zC139.2.2.2.2.1 = 80 := rfl; rw [zn29]; omega⟩ hs139 rfl (fun t ht => by cases ht) ⟨rfl, fun h => absurd h (by decide), fun _ => rfl, rfl, fun h => absurd h (by decide), fun _ => rfl, trivial⟩ (zTy_T hw hTc6.1) hTc6.2 (fun st7 μc7 hp7 hTt7 hJ7 hfr7 => ?_)
  obtain rfl := hp7
  have hTc7 : zTJ none μc7 := ⟨zTy_of hw hTt7, hJ7⟩
  have hz := zWc_fr hz (zRq_fr hfr7 (by decide +kernel))
  refine pm_blk hK zmm28 [] 4 125 [(2, 3), (2, 138)] [(2, 11), (2, 146)] μc7 [] rfl trivial ?_
  refine pm_ccall hK zmm28 hC140 hw zGm_lt zJ_loc (91, 1, 29, 2) zM29 [(2, 146), (2, 11)] [] rfl rfl rfl rfl rfl ⟨by have e : zC140.2.2.2.1 = 1 := rfl; omega, by have e : zC140.2.2.2.2.1 = 80 := rfl; rw [zn29]; omega⟩ hs140 rfl (fun t ht => by cases ht) ⟨rfl, fun h => absurd h (by decide), fun _ => rfl, rfl, fun h => absurd h (by decide), fun _ => rfl, trivial⟩ (zTy_T hw hTc7.1) hTc7.2 (fun st8 μc8 hp8 hTt8 hJ8 hfr8 => ?_)
  obtain rfl := hp8
  have hTc8 : zTJ none μc8 := ⟨zTy_of hw hTt8, hJ8⟩
  have hz := zWc_fr hz (zRq_fr hfr8 (by decide +kernel))
  refine pm_blk hK zmm28 [] 4 136 [(2, 3), (2, 138)] [(2, 12), (2, 147)] μc8 [] rfl trivial ?_
  refine pm_ccall hK zmm28 hC141 hw zGm_lt zJ_loc (91, 1, 29, 2) zM29 [(2, 147), (2, 12)] [] rfl rfl rfl rfl rfl ⟨by have e : zC141.2.2.2.1 = 1 := rfl; omega, by have e : zC141.2.2.2.2.1 = 80 := rfl; rw [zn29]; omega⟩ hs141 rfl (fun t ht => by cases ht) ⟨rfl, fun h => absurd h (by decide), fun _ => rfl, rfl, fun h => absurd h (by decide), fun _ => rfl, trivial⟩ (zTy_T hw hTc8.1) hTc8.2 (fun st9 μc9 hp9 hTt9 hJ9 hfr9 => ?_)
  obtain rfl := hp9
  have hTc9 : zTJ none μc9 := ⟨zTy_of hw hTt9, hJ9⟩
  have hz := zWc_fr hz (zRq_fr hfr9 (by decide +kernel))
  refine pm_blk hK zmm28 [] 4 147 [(2, 3), (2, 138)] [(2, 13), (2, 148)] μc9 [] rfl trivial ?_
  refine pm_ccall hK zmm28 hC142 hw zGm_lt zJ_loc (91, 1, 29, 2) zM29 [(2, 148), (2, 13)] [] rfl rfl rfl rfl rfl ⟨by have e : zC142.2.2.2.1 = 1 := rfl; omega, by have e : zC142.2.2.2.2.1 = 80 := rfl; rw [zn29]; omega⟩ hs142 rfl (fun t ht => by cases ht) ⟨rfl, fun h => absurd h (by decide), fun _ => rfl, rfl, fun h => absurd h (by decide), fun _ => rfl, trivial⟩ (zTy_T hw hTc9.1) hTc9.2 (fun st10 μc10 hp10 hTt10 hJ10 hfr10 => ?_)
  obtain rfl := hp10
  have hTc10 : zTJ none μc10 := ⟨zTy_of hw hTt10, hJ10⟩
  have hz := zWc_fr hz (zRq_fr hfr10 (by decide +kernel))
  refine pm_blk hK zmm28 [] 4 158 [(2, 3), (2, 138)] [(2, 14), (2, 149)] μc10 [] rfl trivial ?_
  refine pm_ccall hK zmm28 hC143 hw zGm_lt zJ_loc (91, 1, 29, 2) zM29 [(2, 149), (2, 14)] [] rfl rfl rfl rfl rfl ⟨by have e : zC143.2.2.2.1 = 1 := rfl; omega, by have e : zC143.2.2.2.2.1 = 80 := rfl; rw [zn29]; omega⟩ hs143 rfl (fun t ht => by cases ht) ⟨rfl, fun h => absurd h (by decide), fun _ => rfl, rfl, fun h => absurd h (by decide), fun _ => rfl, trivial⟩ (zTy_T hw hTc10.1) hTc10.2 (fun st11 μc11 hp11 hTt11 hJ11 hfr11 => ?_)
  obtain rfl := hp11
  have hTc11 : zTJ none μc11 := ⟨zTy_of hw hTt11, hJ11⟩
  have hz := zWc_fr hz (zRq_fr hfr11 (by decide +kernel))
  refine pm_blk hK zmm28 [] 4 169 [(2, 3), (2, 138)] [(2, 15), (2, 150)] μc11 [] rfl trivial ?_
  refine pm_ccall hK zmm28 hC144 hw zGm_lt zJ_loc (91, 1, 29, 2) zM29 [(2, 150), (2, 15)] [] rfl rfl rfl rfl rfl ⟨by have e : zC144.2.2.2.1 = 1 := rfl; omega, by have e : zC144.2.2.2.2.1 = 80 := rfl; rw [zn29]; omega⟩ hs144 rfl (fun t ht => by cases ht) ⟨rfl, fun h => absurd h (by decide), fun _ => rfl, rfl, fun h => absurd h (by decide), fun _ => rfl, trivial⟩ (zTy_T hw hTc11.1) hTc11.2 (fun st12 μc12 hp12 hTt12 hJ12 hfr12 => ?_)
  obtain rfl := hp12
  have hTc12 : zTJ none μc12 := ⟨zTy_of hw hTt12, hJ12⟩
  have hz := zWc_fr hz (zRq_fr hfr12 (by decide +kernel))
  exact pm_vret rfl rfl ⟨rfl, hTc12, zWc_eq hz (by decide)⟩
set_option maxRecDepth 100000 in
theorem zh_ac3_151 (hK : zKK ST) (hw : sx_Wd zNR zRT2 B0 Sg) (hC146 : zCK none D ST B0 l Sg zC146) (hs146 : sx_subm zC146.2.2.2.2.2 Wm = true) (hC147 : zCK none D ST B0 l Sg zC147) (hs147 : sx_subm zC147.2.2.2.2.2 Wm = true) (hC148 : zCK none D ST B0 l Sg zC148) (hs148 : sx_subm zC148.2.2.2.2.2 Wm = true) (hC149 : zCK none D ST B0 l Sg zC149) (hs149 : sx_subm zC149.2.2.2.2.2 Wm = true) (hC150 : zCK none D ST B0 l Sg zC150) (hs150 : sx_subm zC150.2.2.2.2.2 Wm = true) (hC151 : zCK none D ST B0 l Sg zC151) (hs151 : sx_subm zC151.2.2.2.2.2 Wm = true) (hC152 : zCK none D ST B0 l Sg zC152) (hs152 : sx_subm zC152.2.2.2.2.2 Wm = true) (hC153 : zCK none D ST B0 l Sg zC153) (hs153 : sx_subm zC153.2.2.2.2.2 Wm = true) (hC154 : zCK none D ST B0 l Sg zC154) (hs154 : sx_subm zC154.2.2.2.2.2 Wm = true) (hC155 : zCK none D ST B0 l Sg zC155) (hs155 : sx_subm zC155.2.2.2.2.2 Wm = true) (hC156 : zCK none D ST B0 l Sg zC156) (hs156 : sx_subm zC156.2.2.2.2.2 Wm = true) (hC157 : zCK none D ST B0 l Sg zC157) (hs157 : sx_subm zC157.2.2.2.2.2 Wm = true) (hT : zTJ none μ) (hb3 : sx_bit Wm 3 = true) (hbd : 2 ≤ bud.1 ∧ 101 ≤ bud.2.1) : zC D Wm ST (sx_bW zRT2 Wm B0 Sg, J) l Sg zM28 bud [(2, 3), (2, 151)] μ (fun st' μ' => st' = [] ∧ zTJ none μ' ∧ zWc (zsw 3 151) μ μ') := by
  have hz : zWc (fun q => q) μ μ := fun _ _ => rfl
  have f1 := zT_get hT zs151_0 (i := 0) (by omega) (by omega)
  refine pm_blk hK zmm28 [] 4 8 [(2, 3), (2, 151)] [] (pm_up μ 3 0 (μ 151 0)) [sx_bit Wm 3 = true] rfl ⟨hb3, trivial⟩ ?_
  obtain ⟨μ1, eμ1⟩ : ∃ μ', μ' = pm_up μ 3 0 (μ 151 0) := ⟨_, rfl⟩
  rw [← eμ1]
  have hTμ1 : zTJ none μ1 := by rw [eμ1]; exact zT_upn hT zs3_0 rfl (i := 0) (by omega) (by omega) (by omega) (by omega)
  have hz := zWc_rcp (μ' := μ1) (d := (3, 0)) (s := (151, 0)) hz (by decide) (fun q hq hne => by rw [eμ1]; exact pm_upq (k := 0) (i := 0) rfl hne) (by show μ1 3 0 = μ 151 0; rw [eμ1, pm_up_eq])
  have g2 : μ1 151 1 = μ 151 1 := by rw [eμ1, pm_up_off (by decide)]
  have f3 := zT_get hTμ1 zs151_1 (i := 1) (by omega) (by omega)
  refine pm_blk hK zmm28 [] 4 16 [(2, 3), (2, 151)] [] (pm_up μ1 3 1 (μ1 151 1)) [sx_bit Wm 3 = true] rfl ⟨hb3, trivial⟩ ?_
  obtain ⟨μ2, eμ2⟩ : ∃ μ', μ' = pm_up μ1 3 1 (μ1 151 1) := ⟨_, rfl⟩
  rw [← eμ2]
  have hTμ2 : zTJ none μ2 := by rw [eμ2]; exact zT_upn hTμ1 zs3_1 rfl (i := 1) (by omega) (by omega) (by omega) (by omega)
  have hz := zWc_rcp (μ' := μ2) (d := (3, 1)) (s := (151, 1)) hz (by decide) (fun q hq hne => by rw [eμ2]; exact pm_upq (k := 1) (i := 1) rfl hne) (by show μ2 3 1 = μ1 151 1; rw [eμ2, pm_up_eq])
  have g4 : μ2 151 2 = μ 151 2 := by rw [eμ2, pm_up_off (by decide), eμ1, pm_up_off (by decide)]
  have f5 := zT_get hTμ2 zs151_2 (i := 2) (by omega) (by omega)
  refine pm_blk hK zmm28 [] 4 24 [(2, 3), (2, 151)] [] (pm_up μ2 3 2 (μ2 151 2)) [sx_bit Wm 3 = true] rfl ⟨hb3, trivial⟩ ?_
  obtain ⟨μ3, eμ3⟩ : ∃ μ', μ' = pm_up μ2 3 2 (μ2 151 2) := ⟨_, rfl⟩
  rw [← eμ3]
  have hTμ3 : zTJ none μ3 := by rw [eμ3]; exact zT_upn hTμ2 zs3_2 rfl (i := 2) (by omega) (by omega) (by omega) (by omega)
  have hz := zWc_fr (μ' := μ3) hz (fun q hq => by rw [eμ3]; exact pm_upq (k := 2) (i := 2) rfl ((show ∀ q ∈ zRq, q ≠ (3, 2) by decide) q hq))
  have g6 : μ3 151 3 = μ 151 3 := by rw [eμ3, pm_up_off (by decide), eμ2, pm_up_off (by decide), eμ1, pm_up_off (by decide)]
  have f7 := zT_get hTμ3 zs151_3 (i := 3) (by omega) (by omega)
  refine pm_blk hK zmm28 [] 4 32 [(2, 3), (2, 151)] [] (pm_up μ3 3 3 (μ3 151 3)) [sx_bit Wm 3 = true] rfl ⟨hb3, trivial⟩ ?_
  obtain ⟨μ4, eμ4⟩ : ∃ μ', μ' = pm_up μ3 3 3 (μ3 151 3) := ⟨_, rfl⟩
  rw [← eμ4]
  have hTμ4 : zTJ none μ4 := by rw [eμ4]; exact zT_upn hTμ3 zs3_3 rfl (i := 3) (by omega) (by omega) (by omega) (by omega)
  have hz := zWc_fr (μ' := μ4) hz (fun q hq => by rw [eμ4]; exact pm_upq (k := 3) (i := 3) rfl ((show ∀ q ∈ zRq, q ≠ (3, 3) by decide) q hq))
  have g8 : μ4 151 4 = μ 151 4 := by rw [eμ4, pm_up_off (by decide), eμ3, pm_up_off (by decide), eμ2, pm_up_off (by decide), eμ1, pm_up_off (by decide)]
  have f9 := zT_get hTμ4 zs151_4 (i := 4) (by omega) (by omega)
  refine pm_blk hK zmm28 [] 4 40 [(2, 3), (2, 151)] [] (pm_up μ4 3 4 (μ4 151 4)) [sx_bit Wm 3 = true] rfl ⟨hb3, trivial⟩ ?_
  obtain ⟨μ5, eμ5⟩ : ∃ μ', μ' = pm_up μ4 3 4 (μ4 151 4) := ⟨_, rfl⟩
  rw [← eμ5]
  have hTμ5 : zTJ none μ5 := by rw [eμ5]; exact zT_upn hTμ4 zs3_4 rfl (i := 4) (by omega) (by omega) (by omega) (by omega)
  have hz := zWc_fr (μ' := μ5) hz (fun q hq => by rw [eμ5]; exact pm_upq (k := 4) (i := 4) rfl ((show ∀ q ∈ zRq, q ≠ (3, 4) by decide) q hq))
  refine pm_blk hK zmm28 [] 4 48 [(2, 3), (2, 151)] [(2, 4), (2, 152)] μ5 [] rfl trivial ?_
  refine pm_ccall hK zmm28 hC146 hw zGm_lt zJ_loc (91, 1, 29, 2) zM29 [(2, 152), (2, 4)] [] rfl rfl rfl rfl rfl ⟨by have e : zC146.2.2.2.1 = 1 := rfl; omega, by have e : zC146.2.2.2.2.1 = 80 := rfl; rw [zn29]; omega⟩ hs146 rfl (fun t ht => by cases ht) ⟨rfl, fun h => absurd h (by decide), fun _ => rfl, rfl, fun h => absurd h (by decide), fun _ => rfl, trivial⟩ (zTy_T hw hTμ5.1) hTμ5.2 (fun st1 μc1 hp1 hTt1 hJ1 hfr1 => ?_)
  obtain rfl := hp1
  have hTc1 : zTJ none μc1 := ⟨zTy_of hw hTt1, hJ1⟩
  have hz := zWc_fr hz (zRq_fr hfr1 (by decide +kernel))
  refine pm_blk hK zmm28 [] 4 59 [(2, 3), (2, 151)] [(2, 5), (2, 153)] μc1 [] rfl trivial ?_
  refine pm_ccall hK zmm28 hC147 hw zGm_lt zJ_loc (91, 1, 29, 2) zM29 [(2, 153), (2, 5)] [] rfl rfl rfl rfl rfl ⟨by have e : zC147.2.2.2.1 = 1 := rfl; omega, by have e : zC147.2.2.2.2.1 = 80 := rfl; rw [zn29]; omega⟩ hs147 rfl (fun t ht => by cases ht) ⟨rfl, fun h => absurd h (by decide), fun _ => rfl, rfl, fun h => absurd h (by decide), fun _ => rfl, trivial⟩ (zTy_T hw hTc1.1) hTc1.2 (fun st2 μc2 hp2 hTt2 hJ2 hfr2 => ?_)
  obtain rfl := hp2
  have hTc2 : zTJ none μc2 := ⟨zTy_of hw hTt2, hJ2⟩
  have hz := zWc_fr hz (zRq_fr hfr2 (by decide +kernel))
  refine pm_blk hK zmm28 [] 4 70 [(2, 3), (2, 151)] [(2, 6), (2, 154)] μc2 [] rfl trivial ?_
  refine pm_ccall hK zmm28 hC148 hw zGm_lt zJ_loc (91, 1, 29, 2) zM29 [(2, 154), (2, 6)] [] rfl rfl rfl rfl rfl ⟨by have e : zC148.2.2.2.1 = 1 := rfl; omega, by have e : zC148.2.2.2.2.1 = 80 := rfl; rw [zn29]; omega⟩ hs148 rfl (fun t ht => by cases ht) ⟨rfl, fun h => absurd h (by decide), fun _ => rfl, rfl, fun h => absurd h (by decide), fun _ => rfl, trivial⟩ (zTy_T hw hTc2.1) hTc2.2 (fun st3 μc3 hp3 hTt3 hJ3 hfr3 => ?_)
  obtain rfl := hp3
  have hTc3 : zTJ none μc3 := ⟨zTy_of hw hTt3, hJ3⟩
  have hz := zWc_fr hz (zRq_fr hfr3 (by decide +kernel))
  refine pm_blk hK zmm28 [] 4 81 [(2, 3), (2, 151)] [(2, 7), (2, 155)] μc3 [] rfl trivial ?_
  refine pm_ccall hK zmm28 hC149 hw zGm_lt zJ_loc (91, 1, 29, 2) zM29 [(2, 155), (2, 7)] [] rfl rfl rfl rfl rfl ⟨by have e : zC149.2.2.2.1 = 1 := rfl; omega, by have e : zC149.2.2.2.2.1 = 80 := rfl; rw [zn29]; omega⟩ hs149 rfl (fun t ht => by cases ht) ⟨rfl, fun h => absurd h (by decide), fun _ => rfl, rfl, fun h => absurd h (by decide), fun _ => rfl, trivial⟩ (zTy_T hw hTc3.1) hTc3.2 (fun st4 μc4 hp4 hTt4 hJ4 hfr4 => ?_)
  obtain rfl := hp4
  have hTc4 : zTJ none μc4 := ⟨zTy_of hw hTt4, hJ4⟩
  have hz := zWc_fr hz (zRq_fr hfr4 (by decide +kernel))
  refine pm_blk hK zmm28 [] 4 92 [(2, 3), (2, 151)] [(2, 8), (2, 156)] μc4 [] rfl trivial ?_
  refine pm_ccall hK zmm28 hC150 hw zGm_lt zJ_loc (91, 1, 29, 2) zM29 [(2, 156), (2, 8)] [] rfl rfl rfl rfl rfl ⟨by have e : zC150.2.2.2.1 = 1 := rfl; omega, by have e : zC150.2.2.2.2.1 = 80 := rfl; rw [zn29]; omega⟩ hs150 rfl (fun t ht => by cases ht) ⟨rfl, fun h => absurd h (by decide), fun _ => rfl, rfl, fun h => absurd h (by decide), fun _ => rfl, trivial⟩ (zTy_T hw hTc4.1) hTc4.2 (fun st5 μc5 hp5 hTt5 hJ5 hfr5 => ?_)
  obtain rfl := hp5
  have hTc5 : zTJ none μc5 := ⟨zTy_of hw hTt5, hJ5⟩
  have hz := zWc_fr hz (zRq_fr hfr5 (by decide +kernel))
  refine pm_blk hK zmm28 [] 4 103 [(2, 3), (2, 151)] [(2, 9), (2, 157)] μc5 [] rfl trivial ?_
  refine pm_ccall hK zmm28 hC151 hw zGm_lt zJ_loc (91, 1, 29, 2) zM29 [(2, 157), (2, 9)] [] rfl rfl rfl rfl rfl ⟨by have e : zC151.2.2.2.1 = 1 := rfl; omega, by have e : zC151.2.2.2.2.1 = 80 := rfl; rw [zn29]; omega⟩ hs151 rfl (fun t ht => by cases ht) ⟨rfl, fun h => absurd h (by decide), fun _ => rfl, rfl, fun h => absurd h (by decide), fun _ => rfl, trivial⟩ (zTy_T hw hTc5.1) hTc5.2 (fun st6 μc6 hp6 hTt6 hJ6 hfr6 => ?_)
  obtain rfl := hp6
  have hTc6 : zTJ none μc6 := ⟨zTy_of hw hTt6, hJ6⟩
  have hz := zWc_fr hz (zRq_fr hfr6 (by decide +kernel))
  refine pm_blk hK zmm28 [] 4 114 [(2, 3), (2, 151)] [(2, 10), (2, 158)] μc6 [] rfl trivial ?_
  refine pm_ccall hK zmm28 hC152 hw zGm_lt zJ_loc (91, 1, 29, 2) zM29 [(2, 158), (2, 10)] [] rfl rfl rfl rfl rfl ⟨by have e : zC152.2.2.2.1 = 1 := rfl; omega, by have e : zC152.2.2.2.2.1 = 80 := rfl; rw [zn29]; omega⟩ hs152 rfl (fun t ht => by cases ht) ⟨rfl, fun h => absurd h (by decide), fun _ => rfl, rfl, fun h => absurd h (by decide), fun _ => rfl, trivial⟩ (zTy_T hw hTc6.1) hTc6.2 (fun st7 μc7 hp7 hTt7 hJ7 hfr7 => ?_)
  obtain rfl := hp7
  have hTc7 : zTJ none μc7 := ⟨zTy_of hw hTt7, hJ7⟩
  have hz := zWc_fr hz (zRq_fr hfr7 (by decide +kernel))
  refine pm_blk hK zmm28 [] 4 125 [(2, 3), (2, 151)] [(2, 11), (2, 159)] μc7 [] rfl trivial ?_
  refine pm_ccall hK zmm28 hC153 hw zGm_lt zJ_loc (91, 1, 29, 2) zM29 [(2, 159), (2, 11)] [] rfl rfl rfl rfl rfl ⟨by have e : zC153.2.2.2.1 = 1 := rfl; omega, by have e : zC153.2.2.2.2.1 = 80 := rfl; rw [zn29]; omega⟩ hs153 rfl (fun t ht => by cases ht) ⟨rfl, fun h => absurd h (by decide), fun _ => rfl, rfl, fun h => absurd h (by decide), fun _ => rfl, trivial⟩ (zTy_T hw hTc7.1) hTc7.2 (fun st8 μc8 hp8 hTt8 hJ8 hfr8 => ?_)
  obtain rfl := hp8
  have hTc8 : zTJ none μc8 := ⟨zTy_of hw hTt8, hJ8⟩
  have hz := zWc_fr hz (zRq_fr hfr8 (by decide +kernel))
  refine pm_blk hK zmm28 [] 4 136 [(2, 3), (2, 151)] [(2, 12), (2, 160)] μc8 [] rfl trivial ?_
  refine pm_ccall hK zmm28 hC154 hw zGm_lt zJ_loc (91, 1, 29, 2) zM29 [(2, 160), (2, 12)] [] rfl rfl rfl rfl rfl ⟨by have e : zC154.2.2.2.1 = 1 := rfl; omega, by have e : zC154.2.2.2.2.1 = 80 := rfl; rw [zn29]; omega⟩ hs154 rfl (fun t ht => by cases ht) ⟨rfl, fun h => absurd h (by decide), fun _ => rfl, rfl, fun h => absurd h (by decide), fun _ => rfl, trivial⟩ (zTy_T hw hTc8.1) hTc8.2 (fun st9 μc9 hp9 hTt9 hJ9 hfr9 => ?_)
  obtain rfl := hp9
  have hTc9 : zTJ none μc9 := ⟨zTy_of hw hTt9, hJ9⟩
  have hz := zWc_fr hz (zRq_fr hfr9 (by decide +kernel))
  refine pm_blk hK zmm28 [] 4 147 [(2, 3), (2, 151)] [(2, 13), (2, 161)] μc9 [] rfl trivial ?_
  refine pm_ccall hK zmm28 hC155 hw zGm_lt zJ_loc (91, 1, 29, 2) zM29 [(2, 161), (2, 13)] [] rfl rfl rfl rfl rfl ⟨by have e : zC155.2.2.2.1 = 1 := rfl; omega, by have e : zC155.2.2.2.2.1 = 80 := rfl; rw [zn29]; omega⟩ hs155 rfl (fun t ht => by cases ht) ⟨rfl, fun h => absurd h (by decide), fun _ => rfl, rfl, fun h => absurd h (by decide), fun _ => rfl, trivial⟩ (zTy_T hw hTc9.1) hTc9.2 (fun st10 μc10 hp10 hTt10 hJ10 hfr10 => ?_)
  obtain rfl := hp10
  have hTc10 : zTJ none μc10 := ⟨zTy_of hw hTt10, hJ10⟩
  have hz := zWc_fr hz (zRq_fr hfr10 (by decide +kernel))
  refine pm_blk hK zmm28 [] 4 158 [(2, 3), (2, 151)] [(2, 14), (2, 162)] μc10 [] rfl trivial ?_
  refine pm_ccall hK zmm28 hC156 hw zGm_lt zJ_loc (91, 1, 29, 2) zM29 [(2, 162), (2, 14)] [] rfl rfl rfl rfl rfl ⟨by have e : zC156.2.2.2.1 = 1 := rfl; omega, by have e : zC156.2.2.2.2.1 = 80 := rfl; rw [zn29]; omega⟩ hs156 rfl (fun t ht => by cases ht) ⟨rfl, fun h => absurd h (by decide), fun _ => rfl, rfl, fun h => absurd h (by decide), fun _ => rfl, trivial⟩ (zTy_T hw hTc10.1) hTc10.2 (fun st11 μc11 hp11 hTt11 hJ11 hfr11 => ?_)
  obtain rfl := hp11
  have hTc11 : zTJ none μc11 := ⟨zTy_of hw hTt11, hJ11⟩
  have hz := zWc_fr hz (zRq_fr hfr11 (by decide +kernel))
  refine pm_blk hK zmm28 [] 4 169 [(2, 3), (2, 151)] [(2, 15), (2, 163)] μc11 [] rfl trivial ?_
  refine pm_ccall hK zmm28 hC157 hw zGm_lt zJ_loc (91, 1, 29, 2) zM29 [(2, 163), (2, 15)] [] rfl rfl rfl rfl rfl ⟨by have e : zC157.2.2.2.1 = 1 := rfl; omega, by have e : zC157.2.2.2.2.1 = 80 := rfl; rw [zn29]; omega⟩ hs157 rfl (fun t ht => by cases ht) ⟨rfl, fun h => absurd h (by decide), fun _ => rfl, rfl, fun h => absurd h (by decide), fun _ => rfl, trivial⟩ (zTy_T hw hTc11.1) hTc11.2 (fun st12 μc12 hp12 hTt12 hJ12 hfr12 => ?_)
  obtain rfl := hp12
  have hTc12 : zTJ none μc12 := ⟨zTy_of hw hTt12, hJ12⟩
  have hz := zWc_fr hz (zRq_fr hfr12 (by decide +kernel))
  exact pm_vret rfl rfl ⟨rfl, hTc12, zWc_eq hz (by decide)⟩
set_option maxRecDepth 100000 in
theorem zh_ac3_164 (hK : zKK ST) (hw : sx_Wd zNR zRT2 B0 Sg) (hC159 : zCK none D ST B0 l Sg zC159) (hs159 : sx_subm zC159.2.2.2.2.2 Wm = true) (hC160 : zCK none D ST B0 l Sg zC160) (hs160 : sx_subm zC160.2.2.2.2.2 Wm = true) (hC161 : zCK none D ST B0 l Sg zC161) (hs161 : sx_subm zC161.2.2.2.2.2 Wm = true) (hC162 : zCK none D ST B0 l Sg zC162) (hs162 : sx_subm zC162.2.2.2.2.2 Wm = true) (hC163 : zCK none D ST B0 l Sg zC163) (hs163 : sx_subm zC163.2.2.2.2.2 Wm = true) (hC164 : zCK none D ST B0 l Sg zC164) (hs164 : sx_subm zC164.2.2.2.2.2 Wm = true) (hC165 : zCK none D ST B0 l Sg zC165) (hs165 : sx_subm zC165.2.2.2.2.2 Wm = true) (hC166 : zCK none D ST B0 l Sg zC166) (hs166 : sx_subm zC166.2.2.2.2.2 Wm = true) (hC167 : zCK none D ST B0 l Sg zC167) (hs167 : sx_subm zC167.2.2.2.2.2 Wm = true) (hC168 : zCK none D ST B0 l Sg zC168) (hs168 : sx_subm zC168.2.2.2.2.2 Wm = true) (hC169 : zCK none D ST B0 l Sg zC169) (hs169 : sx_subm zC169.2.2.2.2.2 Wm = true) (hC170 : zCK none D ST B0 l Sg zC170) (hs170 : sx_subm zC170.2.2.2.2.2 Wm = true) (hT : zTJ none μ) (hb3 : sx_bit Wm 3 = true) (hbd : 2 ≤ bud.1 ∧ 101 ≤ bud.2.1) : zC D Wm ST (sx_bW zRT2 Wm B0 Sg, J) l Sg zM28 bud [(2, 3), (2, 164)] μ (fun st' μ' => st' = [] ∧ zTJ none μ' ∧ zWc (zsw 3 164) μ μ') := by
  have hz : zWc (fun q => q) μ μ := fun _ _ => rfl
  have f1 := zT_get hT zs164_0 (i := 0) (by omega) (by omega)
  refine pm_blk hK zmm28 [] 4 8 [(2, 3), (2, 164)] [] (pm_up μ 3 0 (μ 164 0)) [sx_bit Wm 3 = true] rfl ⟨hb3, trivial⟩ ?_
  obtain ⟨μ1, eμ1⟩ : ∃ μ', μ' = pm_up μ 3 0 (μ 164 0) := ⟨_, rfl⟩
  rw [← eμ1]
  have hTμ1 : zTJ none μ1 := by rw [eμ1]; exact zT_upn hT zs3_0 rfl (i := 0) (by omega) (by omega) (by omega) (by omega)
  have hz := zWc_rcp (μ' := μ1) (d := (3, 0)) (s := (164, 0)) hz (by decide) (fun q hq hne => by rw [eμ1]; exact pm_upq (k := 0) (i := 0) rfl hne) (by show μ1 3 0 = μ 164 0; rw [eμ1, pm_up_eq])
  have g2 : μ1 164 1 = μ 164 1 := by rw [eμ1, pm_up_off (by decide)]
  have f3 := zT_get hTμ1 zs164_1 (i := 1) (by omega) (by omega)
  refine pm_blk hK zmm28 [] 4 16 [(2, 3), (2, 164)] [] (pm_up μ1 3 1 (μ1 164 1)) [sx_bit Wm 3 = true] rfl ⟨hb3, trivial⟩ ?_
  obtain ⟨μ2, eμ2⟩ : ∃ μ', μ' = pm_up μ1 3 1 (μ1 164 1) := ⟨_, rfl⟩
  rw [← eμ2]
  have hTμ2 : zTJ none μ2 := by rw [eμ2]; exact zT_upn hTμ1 zs3_1 rfl (i := 1) (by omega) (by omega) (by omega) (by omega)
  have hz := zWc_rcp (μ' := μ2) (d := (3, 1)) (s := (164, 1)) hz (by decide) (fun q hq hne => by rw [eμ2]; exact pm_upq (k := 1) (i := 1) rfl hne) (by show μ2 3 1 = μ1 164 1; rw [eμ2, pm_up_eq])
  have g4 : μ2 164 2 = μ 164 2 := by rw [eμ2, pm_up_off (by decide), eμ1, pm_up_off (by decide)]
  have f5 := zT_get hTμ2 zs164_2 (i := 2) (by omega) (by omega)
  refine pm_blk hK zmm28 [] 4 24 [(2, 3), (2, 164)] [] (pm_up μ2 3 2 (μ2 164 2)) [sx_bit Wm 3 = true] rfl ⟨hb3, trivial⟩ ?_
  obtain ⟨μ3, eμ3⟩ : ∃ μ', μ' = pm_up μ2 3 2 (μ2 164 2) := ⟨_, rfl⟩
  rw [← eμ3]
  have hTμ3 : zTJ none μ3 := by rw [eμ3]; exact zT_upn hTμ2 zs3_2 rfl (i := 2) (by omega) (by omega) (by omega) (by omega)
  have hz := zWc_fr (μ' := μ3) hz (fun q hq => by rw [eμ3]; exact pm_upq (k := 2) (i := 2) rfl ((show ∀ q ∈ zRq, q ≠ (3, 2) by decide) q hq))
  have g6 : μ3 164 3 = μ 164 3 := by rw [eμ3, pm_up_off (by decide), eμ2, pm_up_off (by decide), eμ1, pm_up_off (by decide)]
  have f7 := zT_get hTμ3 zs164_3 (i := 3) (by omega) (by omega)
  refine pm_blk hK zmm28 [] 4 32 [(2, 3), (2, 164)] [] (pm_up μ3 3 3 (μ3 164 3)) [sx_bit Wm 3 = true] rfl ⟨hb3, trivial⟩ ?_
  obtain ⟨μ4, eμ4⟩ : ∃ μ', μ' = pm_up μ3 3 3 (μ3 164 3) := ⟨_, rfl⟩
  rw [← eμ4]
  have hTμ4 : zTJ none μ4 := by rw [eμ4]; exact zT_upn hTμ3 zs3_3 rfl (i := 3) (by omega) (by omega) (by omega) (by omega)
  have hz := zWc_fr (μ' := μ4) hz (fun q hq => by rw [eμ4]; exact pm_upq (k := 3) (i := 3) rfl ((show ∀ q ∈ zRq, q ≠ (3, 3) by decide) q hq))
  have g8 : μ4 164 4 = μ 164 4 := by rw [eμ4, pm_up_off (by decide), eμ3, pm_up_off (by decide), eμ2, pm_up_off (by decide), eμ1, pm_up_off (by decide)]
  have f9 := zT_get hTμ4 zs164_4 (i := 4) (by omega) (by omega)
  refine pm_blk hK zmm28 [] 4 40 [(2, 3), (2, 164)] [] (pm_up μ4 3 4 (μ4 164 4)) [sx_bit Wm 3 = true] rfl ⟨hb3, trivial⟩ ?_
  obtain ⟨μ5, eμ5⟩ : ∃ μ', μ' = pm_up μ4 3 4 (μ4 164 4) := ⟨_, rfl⟩
  rw [← eμ5]
  have hTμ5 : zTJ none μ5 := by rw [eμ5]; exact zT_upn hTμ4 zs3_4 rfl (i := 4) (by omega) (by omega) (by omega) (by omega)
  have hz := zWc_fr (μ' := μ5) hz (fun q hq => by rw [eμ5]; exact pm_upq (k := 4) (i := 4) rfl ((show ∀ q ∈ zRq, q ≠ (3, 4) by decide) q hq))
  refine pm_blk hK zmm28 [] 4 48 [(2, 3), (2, 164)] [(2, 4), (2, 165)] μ5 [] rfl trivial ?_
  refine pm_ccall hK zmm28 hC159 hw zGm_lt zJ_loc (91, 1, 29, 2) zM29 [(2, 165), (2, 4)] [] rfl rfl rfl rfl rfl ⟨by have e : zC159.2.2.2.1 = 1 := rfl; omega, by have e : zC159.2.2.2.2.1 = 80 := rfl; rw [zn29]; omega⟩ hs159 rfl (fun t ht => by cases ht) ⟨rfl, fun h => absurd h (by decide), fun _ => rfl, rfl, fun h => absurd h (by decide), fun _ => rfl, trivial⟩ (zTy_T hw hTμ5.1) hTμ5.2 (fun st1 μc1 hp1 hTt1 hJ1 hfr1 => ?_)
  obtain rfl := hp1
  have hTc1 : zTJ none μc1 := ⟨zTy_of hw hTt1, hJ1⟩
  have hz := zWc_fr hz (zRq_fr hfr1 (by decide +kernel))
  refine pm_blk hK zmm28 [] 4 59 [(2, 3), (2, 164)] [(2, 5), (2, 166)] μc1 [] rfl trivial ?_
  refine pm_ccall hK zmm28 hC160 hw zGm_lt zJ_loc (91, 1, 29, 2) zM29 [(2, 166), (2, 5)] [] rfl rfl rfl rfl rfl ⟨by have e : zC160.2.2.2.1 = 1 := rfl; omega, by have e : zC160.2.2.2.2.1 = 80 := rfl; rw [zn29]; omega⟩ hs160 rfl (fun t ht => by cases ht) ⟨rfl, fun h => absurd h (by decide), fun _ => rfl, rfl, fun h => absurd h (by decide), fun _ => rfl, trivial⟩ (zTy_T hw hTc1.1) hTc1.2 (fun st2 μc2 hp2 hTt2 hJ2 hfr2 => ?_)
  obtain rfl := hp2
  have hTc2 : zTJ none μc2 := ⟨zTy_of hw hTt2, hJ2⟩
  have hz := zWc_fr hz (zRq_fr hfr2 (by decide +kernel))
  refine pm_blk hK zmm28 [] 4 70 [(2, 3), (2, 164)] [(2, 6), (2, 167)] μc2 [] rfl trivial ?_
  refine pm_ccall hK zmm28 hC161 hw zGm_lt zJ_loc (91, 1, 29, 2) zM29 [(2, 167), (2, 6)] [] rfl rfl rfl rfl rfl ⟨by have e : zC161.2.2.2.1 = 1 := rfl; omega, by have e : zC161.2.2.2.2.1 = 80 := rfl; rw [zn29]; omega⟩ hs161 rfl (fun t ht => by cases ht) ⟨rfl, fun h => absurd h (by decide), fun _ => rfl, rfl, fun h => absurd h (by decide), fun _ => rfl, trivial⟩ (zTy_T hw hTc2.1) hTc2.2 (fun st3 μc3 hp3 hTt3 hJ3 hfr3 => ?_)
  obtain rfl := hp3
  have hTc3 : zTJ none μc3 := ⟨zTy_of hw hTt3, hJ3⟩
  have hz := zWc_fr hz (zRq_fr hfr3 (by decide +kernel))
  refine pm_blk hK zmm28 [] 4 81 [(2, 3), (2, 164)] [(2, 7), (2, 168)] μc3 [] rfl trivial ?_
  refine pm_ccall hK zmm28 hC162 hw zGm_lt zJ_loc (91, 1, 29, 2) zM29 [(2, 168), (2, 7)] [] rfl rfl rfl rfl rfl ⟨by have e : zC162.2.2.2.1 = 1 := rfl; omega, by have e : zC162.2.2.2.2.1 = 80 := rfl; rw [zn29]; omega⟩ hs162 rfl (fun t ht => by cases ht) ⟨rfl, fun h => absurd h (by decide), fun _ => rfl, rfl, fun h => absurd h (by decide), fun _ => rfl, trivial⟩ (zTy_T hw hTc3.1) hTc3.2 (fun st4 μc4 hp4 hTt4 hJ4 hfr4 => ?_)
  obtain rfl := hp4
  have hTc4 : zTJ none μc4 := ⟨zTy_of hw hTt4, hJ4⟩
  have hz := zWc_fr hz (zRq_fr hfr4 (by decide +kernel))
  refine pm_blk hK zmm28 [] 4 92 [(2, 3), (2, 164)] [(2, 8), (2, 169)] μc4 [] rfl trivial ?_
  refine pm_ccall hK zmm28 hC163 hw zGm_lt zJ_loc (91, 1, 29, 2) zM29 [(2, 169), (2, 8)] [] rfl rfl rfl rfl rfl ⟨by have e : zC163.2.2.2.1 = 1 := rfl; omega, by have e : zC163.2.2.2.2.1 = 80 := rfl; rw [zn29]; omega⟩ hs163 rfl (fun t ht => by cases ht) ⟨rfl, fun h => absurd h (by decide), fun _ => rfl, rfl, fun h => absurd h (by decide), fun _ => rfl, trivial⟩ (zTy_T hw hTc4.1) hTc4.2 (fun st5 μc5 hp5 hTt5 hJ5 hfr5 => ?_)
  obtain rfl := hp5
  have hTc5 : zTJ none μc5 := ⟨zTy_of hw hTt5, hJ5⟩
  have hz := zWc_fr hz (zRq_fr hfr5 (by decide +kernel))
  refine pm_blk hK zmm28 [] 4 103 [(2, 3), (2, 164)] [(2, 9), (2, 170)] μc5 [] rfl trivial ?_
  refine pm_ccall hK zmm28 hC164 hw zGm_lt zJ_loc (91, 1, 29, 2) zM29 [(2, 170), (2, 9)] [] rfl rfl rfl rfl rfl ⟨by have e : zC164.2.2.2.1 = 1 := rfl; omega, by have e : zC164.2.2.2.2.1 = 80 := rfl; rw [zn29]; omega⟩ hs164 rfl (fun t ht => by cases ht) ⟨rfl, fun h => absurd h (by decide), fun _ => rfl, rfl, fun h => absurd h (by decide), fun _ => rfl, trivial⟩ (zTy_T hw hTc5.1) hTc5.2 (fun st6 μc6 hp6 hTt6 hJ6 hfr6 => ?_)
  obtain rfl := hp6
  have hTc6 : zTJ none μc6 := ⟨zTy_of hw hTt6, hJ6⟩
  have hz := zWc_fr hz (zRq_fr hfr6 (by decide +kernel))
  refine pm_blk hK zmm28 [] 4 114 [(2, 3), (2, 164)] [(2, 10), (2, 171)] μc6 [] rfl trivial ?_
  refine pm_ccall hK zmm28 hC165 hw zGm_lt zJ_loc (91, 1, 29, 2) zM29 [(2, 171), (2, 10)] [] rfl rfl rfl rfl rfl ⟨by have e : zC165.2.2.2.1 = 1 := rfl; omega, by have e : zC165.2.2.2.2.1 = 80 := rfl; rw [zn29]; omega⟩ hs165 rfl (fun t ht => by cases ht) ⟨rfl, fun h => absurd h (by decide), fun _ => rfl, rfl, fun h => absurd h (by decide), fun _ => rfl, trivial⟩ (zTy_T hw hTc6.1) hTc6.2 (fun st7 μc7 hp7 hTt7 hJ7 hfr7 => ?_)
  obtain rfl := hp7
  have hTc7 : zTJ none μc7 := ⟨zTy_of hw hTt7, hJ7⟩
  have hz := zWc_fr hz (zRq_fr hfr7 (by decide +kernel))
  refine pm_blk hK zmm28 [] 4 125 [(2, 3), (2, 164)] [(2, 11), (2, 172)] μc7 [] rfl trivial ?_
  refine pm_ccall hK zmm28 hC166 hw zGm_lt zJ_loc (91, 1, 29, 2) zM29 [(2, 172), (2, 11)] [] rfl rfl rfl rfl rfl ⟨by have e : zC166.2.2.2.1 = 1 := rfl; omega, by have e : zC166.2.2.2.2.1 = 80 := rfl; rw [zn29]; omega⟩ hs166 rfl (fun t ht => by cases ht) ⟨rfl, fun h => absurd h (by decide), fun _ => rfl, rfl, fun h => absurd h (by decide), fun _ => rfl, trivial⟩ (zTy_T hw hTc7.1) hTc7.2 (fun st8 μc8 hp8 hTt8 hJ8 hfr8 => ?_)
  obtain rfl := hp8
  have hTc8 : zTJ none μc8 := ⟨zTy_of hw hTt8, hJ8⟩
  have hz := zWc_fr hz (zRq_fr hfr8 (by decide +kernel))
  refine pm_blk hK zmm28 [] 4 136 [(2, 3), (2, 164)] [(2, 12), (2, 173)] μc8 [] rfl trivial ?_
  refine pm_ccall hK zmm28 hC167 hw zGm_lt zJ_loc (91, 1, 29, 2) zM29 [(2, 173), (2, 12)] [] rfl rfl rfl rfl rfl ⟨by have e : zC167.2.2.2.1 = 1 := rfl; omega, by have e : zC167.2.2.2.2.1 = 80 := rfl; rw [zn29]; omega⟩ hs167 rfl (fun t ht => by cases ht) ⟨rfl, fun h => absurd h (by decide), fun _ => rfl, rfl, fun h => absurd h (by decide), fun _ => rfl, trivial⟩ (zTy_T hw hTc8.1) hTc8.2 (fun st9 μc9 hp9 hTt9 hJ9 hfr9 => ?_)
  obtain rfl := hp9
  have hTc9 : zTJ none μc9 := ⟨zTy_of hw hTt9, hJ9⟩
  have hz := zWc_fr hz (zRq_fr hfr9 (by decide +kernel))
  refine pm_blk hK zmm28 [] 4 147 [(2, 3), (2, 164)] [(2, 13), (2, 174)] μc9 [] rfl trivial ?_
  refine pm_ccall hK zmm28 hC168 hw zGm_lt zJ_loc (91, 1, 29, 2) zM29 [(2, 174), (2, 13)] [] rfl rfl rfl rfl rfl ⟨by have e : zC168.2.2.2.1 = 1 := rfl; omega, by have e : zC168.2.2.2.2.1 = 80 := rfl; rw [zn29]; omega⟩ hs168 rfl (fun t ht => by cases ht) ⟨rfl, fun h => absurd h (by decide), fun _ => rfl, rfl, fun h => absurd h (by decide), fun _ => rfl, trivial⟩ (zTy_T hw hTc9.1) hTc9.2 (fun st10 μc10 hp10 hTt10 hJ10 hfr10 => ?_)
  obtain rfl := hp10
  have hTc10 : zTJ none μc10 := ⟨zTy_of hw hTt10, hJ10⟩
  have hz := zWc_fr hz (zRq_fr hfr10 (by decide +kernel))
  refine pm_blk hK zmm28 [] 4 158 [(2, 3), (2, 164)] [(2, 14), (2, 175)] μc10 [] rfl trivial ?_
  refine pm_ccall hK zmm28 hC169 hw zGm_lt zJ_loc (91, 1, 29, 2) zM29 [(2, 175), (2, 14)] [] rfl rfl rfl rfl rfl ⟨by have e : zC169.2.2.2.1 = 1 := rfl; omega, by have e : zC169.2.2.2.2.1 = 80 := rfl; rw [zn29]; omega⟩ hs169 rfl (fun t ht => by cases ht) ⟨rfl, fun h => absurd h (by decide), fun _ => rfl, rfl, fun h => absurd h (by decide), fun _ => rfl, trivial⟩ (zTy_T hw hTc10.1) hTc10.2 (fun st11 μc11 hp11 hTt11 hJ11 hfr11 => ?_)
  obtain rfl := hp11
  have hTc11 : zTJ none μc11 := ⟨zTy_of hw hTt11, hJ11⟩
  have hz := zWc_fr hz (zRq_fr hfr11 (by decide +kernel))
  refine pm_blk hK zmm28 [] 4 169 [(2, 3), (2, 164)] [(2, 15), (2, 176)] μc11 [] rfl trivial ?_
  refine pm_ccall hK zmm28 hC170 hw zGm_lt zJ_loc (91, 1, 29, 2) zM29 [(2, 176), (2, 15)] [] rfl rfl rfl rfl rfl ⟨by have e : zC170.2.2.2.1 = 1 := rfl; omega, by have e : zC170.2.2.2.2.1 = 80 := rfl; rw [zn29]; omega⟩ hs170 rfl (fun t ht => by cases ht) ⟨rfl, fun h => absurd h (by decide), fun _ => rfl, rfl, fun h => absurd h (by decide), fun _ => rfl, trivial⟩ (zTy_T hw hTc11.1) hTc11.2 (fun st12 μc12 hp12 hTt12 hJ12 hfr12 => ?_)
  obtain rfl := hp12
  have hTc12 : zTJ none μc12 := ⟨zTy_of hw hTt12, hJ12⟩
  have hz := zWc_fr hz (zRq_fr hfr12 (by decide +kernel))
  exact pm_vret rfl rfl ⟨rfl, hTc12, zWc_eq hz (by decide)⟩
set_option maxRecDepth 100000 in
theorem zh_ac3_46 (hK : zKK ST) (hw : sx_Wd zNR zRT2 B0 Sg) (hC172 : zCK none D ST B0 l Sg zC172) (hs172 : sx_subm zC172.2.2.2.2.2 Wm = true) (hC173 : zCK none D ST B0 l Sg zC173) (hs173 : sx_subm zC173.2.2.2.2.2 Wm = true) (hC174 : zCK none D ST B0 l Sg zC174) (hs174 : sx_subm zC174.2.2.2.2.2 Wm = true) (hC175 : zCK none D ST B0 l Sg zC175) (hs175 : sx_subm zC175.2.2.2.2.2 Wm = true) (hC176 : zCK none D ST B0 l Sg zC176) (hs176 : sx_subm zC176.2.2.2.2.2 Wm = true) (hC177 : zCK none D ST B0 l Sg zC177) (hs177 : sx_subm zC177.2.2.2.2.2 Wm = true) (hC178 : zCK none D ST B0 l Sg zC178) (hs178 : sx_subm zC178.2.2.2.2.2 Wm = true) (hC179 : zCK none D ST B0 l Sg zC179) (hs179 : sx_subm zC179.2.2.2.2.2 Wm = true) (hC180 : zCK none D ST B0 l Sg zC180) (hs180 : sx_subm zC180.2.2.2.2.2 Wm = true) (hC181 : zCK none D ST B0 l Sg zC181) (hs181 : sx_subm zC181.2.2.2.2.2 Wm = true) (hC182 : zCK none D ST B0 l Sg zC182) (hs182 : sx_subm zC182.2.2.2.2.2 Wm = true) (hC183 : zCK none D ST B0 l Sg zC183) (hs183 : sx_subm zC183.2.2.2.2.2 Wm = true) (hT : zTJ none μ) (hb3 : sx_bit Wm 3 = true) (hbd : 2 ≤ bud.1 ∧ 101 ≤ bud.2.1) : zC D Wm ST (sx_bW zRT2 Wm B0 Sg, J) l Sg zM28 bud [(2, 3), (2, 46)] μ (fun st' μ' => st' = [] ∧ zTJ none μ' ∧ zWc (zsw 3 46) μ μ') := by
  have hz : zWc (fun q => q) μ μ := fun _ _ => rfl
  have f1 := zT_get hT zs46_0 (i := 0) (by omega) (by omega)
  refine pm_blk hK zmm28 [] 4 8 [(2, 3), (2, 46)] [] (pm_up μ 3 0 (μ 46 0)) [sx_bit Wm 3 = true] rfl ⟨hb3, trivial⟩ ?_
  obtain ⟨μ1, eμ1⟩ : ∃ μ', μ' = pm_up μ 3 0 (μ 46 0) := ⟨_, rfl⟩
  rw [← eμ1]
  have hTμ1 : zTJ none μ1 := by rw [eμ1]; exact zT_upn hT zs3_0 rfl (i := 0) (by omega) (by omega) (by omega) (by omega)
  have hz := zWc_rcp (μ' := μ1) (d := (3, 0)) (s := (46, 0)) hz (by decide) (fun q hq hne => by rw [eμ1]; exact pm_upq (k := 0) (i := 0) rfl hne) (by show μ1 3 0 = μ 46 0; rw [eμ1, pm_up_eq])
  have g2 : μ1 46 1 = μ 46 1 := by rw [eμ1, pm_up_off (by decide)]
  have f3 := zT_get hTμ1 zs46_1 (i := 1) (by omega) (by omega)
  refine pm_blk hK zmm28 [] 4 16 [(2, 3), (2, 46)] [] (pm_up μ1 3 1 (μ1 46 1)) [sx_bit Wm 3 = true] rfl ⟨hb3, trivial⟩ ?_
  obtain ⟨μ2, eμ2⟩ : ∃ μ', μ' = pm_up μ1 3 1 (μ1 46 1) := ⟨_, rfl⟩
  rw [← eμ2]
  have hTμ2 : zTJ none μ2 := by rw [eμ2]; exact zT_upn hTμ1 zs3_1 rfl (i := 1) (by omega) (by omega) (by omega) (by omega)
  have hz := zWc_rcp (μ' := μ2) (d := (3, 1)) (s := (46, 1)) hz (by decide) (fun q hq hne => by rw [eμ2]; exact pm_upq (k := 1) (i := 1) rfl hne) (by show μ2 3 1 = μ1 46 1; rw [eμ2, pm_up_eq])
  have g4 : μ2 46 2 = μ 46 2 := by rw [eμ2, pm_up_off (by decide), eμ1, pm_up_off (by decide)]
  have f5 := zT_get hTμ2 zs46_2 (i := 2) (by omega) (by omega)
  refine pm_blk hK zmm28 [] 4 24 [(2, 3), (2, 46)] [] (pm_up μ2 3 2 (μ2 46 2)) [sx_bit Wm 3 = true] rfl ⟨hb3, trivial⟩ ?_
  obtain ⟨μ3, eμ3⟩ : ∃ μ', μ' = pm_up μ2 3 2 (μ2 46 2) := ⟨_, rfl⟩
  rw [← eμ3]
  have hTμ3 : zTJ none μ3 := by rw [eμ3]; exact zT_upn hTμ2 zs3_2 rfl (i := 2) (by omega) (by omega) (by omega) (by omega)
  have hz := zWc_fr (μ' := μ3) hz (fun q hq => by rw [eμ3]; exact pm_upq (k := 2) (i := 2) rfl ((show ∀ q ∈ zRq, q ≠ (3, 2) by decide) q hq))
  have g6 : μ3 46 3 = μ 46 3 := by rw [eμ3, pm_up_off (by decide), eμ2, pm_up_off (by decide), eμ1, pm_up_off (by decide)]
  have f7 := zT_get hTμ3 zs46_3 (i := 3) (by omega) (by omega)
  refine pm_blk hK zmm28 [] 4 32 [(2, 3), (2, 46)] [] (pm_up μ3 3 3 (μ3 46 3)) [sx_bit Wm 3 = true] rfl ⟨hb3, trivial⟩ ?_
  obtain ⟨μ4, eμ4⟩ : ∃ μ', μ' = pm_up μ3 3 3 (μ3 46 3) := ⟨_, rfl⟩
  rw [← eμ4]
  have hTμ4 : zTJ none μ4 := by rw [eμ4]; exact zT_upn hTμ3 zs3_3 rfl (i := 3) (by omega) (by omega) (by omega) (by omega)
  have hz := zWc_fr (μ' := μ4) hz (fun q hq => by rw [eμ4]; exact pm_upq (k := 3) (i := 3) rfl ((show ∀ q ∈ zRq, q ≠ (3, 3) by decide) q hq))
  have g8 : μ4 46 4 = μ 46 4 := by rw [eμ4, pm_up_off (by decide), eμ3, pm_up_off (by decide), eμ2, pm_up_off (by decide), eμ1, pm_up_off (by decide)]
  have f9 := zT_get hTμ4 zs46_4 (i := 4) (by omega) (by omega)
  refine pm_blk hK zmm28 [] 4 40 [(2, 3), (2, 46)] [] (pm_up μ4 3 4 (μ4 46 4)) [sx_bit Wm 3 = true] rfl ⟨hb3, trivial⟩ ?_
  obtain ⟨μ5, eμ5⟩ : ∃ μ', μ' = pm_up μ4 3 4 (μ4 46 4) := ⟨_, rfl⟩
  rw [← eμ5]
  have hTμ5 : zTJ none μ5 := by rw [eμ5]; exact zT_upn hTμ4 zs3_4 rfl (i := 4) (by omega) (by omega) (by omega) (by omega)
  have hz := zWc_fr (μ' := μ5) hz (fun q hq => by rw [eμ5]; exact pm_upq (k := 4) (i := 4) rfl ((show ∀ q ∈ zRq, q ≠ (3, 4) by decide) q hq))
  refine pm_blk hK zmm28 [] 4 48 [(2, 3), (2, 46)] [(2, 4), (2, 47)] μ5 [] rfl trivial ?_
  refine pm_ccall hK zmm28 hC172 hw zGm_lt zJ_loc (91, 1, 29, 2) zM29 [(2, 47), (2, 4)] [] rfl rfl rfl rfl rfl ⟨by have e : zC172.2.2.2.1 = 1 := rfl; omega, by have e : zC172.2.2.2.2.1 = 80 := rfl; rw [zn29]; omega⟩ hs172 rfl (fun t ht => by cases ht) ⟨rfl, fun h => absurd h (by decide), fun _ => rfl, rfl, fun h => absurd h (by decide), fun _ => rfl, trivial⟩ (zTy_T hw hTμ5.1) hTμ5.2 (fun st1 μc1 hp1 hTt1 hJ1 hfr1 => ?_)
  obtain rfl := hp1
  have hTc1 : zTJ none μc1 := ⟨zTy_of hw hTt1, hJ1⟩
  have hz := zWc_fr hz (zRq_fr hfr1 (by decide +kernel))
  refine pm_blk hK zmm28 [] 4 59 [(2, 3), (2, 46)] [(2, 5), (2, 48)] μc1 [] rfl trivial ?_
  refine pm_ccall hK zmm28 hC173 hw zGm_lt zJ_loc (91, 1, 29, 2) zM29 [(2, 48), (2, 5)] [] rfl rfl rfl rfl rfl ⟨by have e : zC173.2.2.2.1 = 1 := rfl; omega, by have e : zC173.2.2.2.2.1 = 80 := rfl; rw [zn29]; omega⟩ hs173 rfl (fun t ht => by cases ht) ⟨rfl, fun h => absurd h (by decide), fun _ => rfl, rfl, fun h => absurd h (by decide), fun _ => rfl, trivial⟩ (zTy_T hw hTc1.1) hTc1.2 (fun st2 μc2 hp2 hTt2 hJ2 hfr2 => ?_)
  obtain rfl := hp2
  have hTc2 : zTJ none μc2 := ⟨zTy_of hw hTt2, hJ2⟩
  have hz := zWc_fr hz (zRq_fr hfr2 (by decide +kernel))
  refine pm_blk hK zmm28 [] 4 70 [(2, 3), (2, 46)] [(2, 6), (2, 49)] μc2 [] rfl trivial ?_
  refine pm_ccall hK zmm28 hC174 hw zGm_lt zJ_loc (91, 1, 29, 2) zM29 [(2, 49), (2, 6)] [] rfl rfl rfl rfl rfl ⟨by have e : zC174.2.2.2.1 = 1 := rfl; omega, by have e : zC174.2.2.2.2.1 = 80 := rfl; rw [zn29]; omega⟩ hs174 rfl (fun t ht => by cases ht) ⟨rfl, fun h => absurd h (by decide), fun _ => rfl, rfl, fun h => absurd h (by decide), fun _ => rfl, trivial⟩ (zTy_T hw hTc2.1) hTc2.2 (fun st3 μc3 hp3 hTt3 hJ3 hfr3 => ?_)
  obtain rfl := hp3
  have hTc3 : zTJ none μc3 := ⟨zTy_of hw hTt3, hJ3⟩
  have hz := zWc_fr hz (zRq_fr hfr3 (by decide +kernel))
  refine pm_blk hK zmm28 [] 4 81 [(2, 3), (2, 46)] [(2, 7), (2, 50)] μc3 [] rfl trivial ?_
  refine pm_ccall hK zmm28 hC175 hw zGm_lt zJ_loc (91, 1, 29, 2) zM29 [(2, 50), (2, 7)] [] rfl rfl rfl rfl rfl ⟨by have e : zC175.2.2.2.1 = 1 := rfl; omega, by have e : zC175.2.2.2.2.1 = 80 := rfl; rw [zn29]; omega⟩ hs175 rfl (fun t ht => by cases ht) ⟨rfl, fun h => absurd h (by decide), fun _ => rfl, rfl, fun h => absurd h (by decide), fun _ => rfl, trivial⟩ (zTy_T hw hTc3.1) hTc3.2 (fun st4 μc4 hp4 hTt4 hJ4 hfr4 => ?_)
  obtain rfl := hp4
  have hTc4 : zTJ none μc4 := ⟨zTy_of hw hTt4, hJ4⟩
  have hz := zWc_fr hz (zRq_fr hfr4 (by decide +kernel))
  refine pm_blk hK zmm28 [] 4 92 [(2, 3), (2, 46)] [(2, 8), (2, 51)] μc4 [] rfl trivial ?_
  refine pm_ccall hK zmm28 hC176 hw zGm_lt zJ_loc (91, 1, 29, 2) zM29 [(2, 51), (2, 8)] [] rfl rfl rfl rfl rfl ⟨by have e : zC176.2.2.2.1 = 1 := rfl; omega, by have e : zC176.2.2.2.2.1 = 80 := rfl; rw [zn29]; omega⟩ hs176 rfl (fun t ht => by cases ht) ⟨rfl, fun h => absurd h (by decide), fun _ => rfl, rfl, fun h => absurd h (by decide), fun _ => rfl, trivial⟩ (zTy_T hw hTc4.1) hTc4.2 (fun st5 μc5 hp5 hTt5 hJ5 hfr5 => ?_)
  obtain rfl := hp5
  have hTc5 : zTJ none μc5 := ⟨zTy_of hw hTt5, hJ5⟩
  have hz := zWc_fr hz (zRq_fr hfr5 (by decide +kernel))
  refine pm_blk hK zmm28 [] 4 103 [(2, 3), (2, 46)] [(2, 9), (2, 52)] μc5 [] rfl trivial ?_
  refine pm_ccall hK zmm28 hC177 hw zGm_lt zJ_loc (91, 1, 29, 2) zM29 [(2, 52), (2, 9)] [] rfl rfl rfl rfl rfl ⟨by have e : zC177.2.2.2.1 = 1 := rfl; omega, by have e : zC177.2.2.2.2.1 = 80 := rfl; rw [zn29]; omega⟩ hs177 rfl (fun t ht => by cases ht) ⟨rfl, fun h => absurd h (by decide), fun _ => rfl, rfl, fun h => absurd h (by decide), fun _ => rfl, trivial⟩ (zTy_T hw hTc5.1) hTc5.2 (fun st6 μc6 hp6 hTt6 hJ6 hfr6 => ?_)
  obtain rfl := hp6
  have hTc6 : zTJ none μc6 := ⟨zTy_of hw hTt6, hJ6⟩
  have hz := zWc_fr hz (zRq_fr hfr6 (by decide +kernel))
  refine pm_blk hK zmm28 [] 4 114 [(2, 3), (2, 46)] [(2, 10), (2, 53)] μc6 [] rfl trivial ?_
  refine pm_ccall hK zmm28 hC178 hw zGm_lt zJ_loc (91, 1, 29, 2) zM29 [(2, 53), (2, 10)] [] rfl rfl rfl rfl rfl ⟨by have e : zC178.2.2.2.1 = 1 := rfl; omega, by have e : zC178.2.2.2.2.1 = 80 := rfl; rw [zn29]; omega⟩ hs178 rfl (fun t ht => by cases ht) ⟨rfl, fun h => absurd h (by decide), fun _ => rfl, rfl, fun h => absurd h (by decide), fun _ => rfl, trivial⟩ (zTy_T hw hTc6.1) hTc6.2 (fun st7 μc7 hp7 hTt7 hJ7 hfr7 => ?_)
  obtain rfl := hp7
  have hTc7 : zTJ none μc7 := ⟨zTy_of hw hTt7, hJ7⟩
  have hz := zWc_fr hz (zRq_fr hfr7 (by decide +kernel))
  refine pm_blk hK zmm28 [] 4 125 [(2, 3), (2, 46)] [(2, 11), (2, 54)] μc7 [] rfl trivial ?_
  refine pm_ccall hK zmm28 hC179 hw zGm_lt zJ_loc (91, 1, 29, 2) zM29 [(2, 54), (2, 11)] [] rfl rfl rfl rfl rfl ⟨by have e : zC179.2.2.2.1 = 1 := rfl; omega, by have e : zC179.2.2.2.2.1 = 80 := rfl; rw [zn29]; omega⟩ hs179 rfl (fun t ht => by cases ht) ⟨rfl, fun h => absurd h (by decide), fun _ => rfl, rfl, fun h => absurd h (by decide), fun _ => rfl, trivial⟩ (zTy_T hw hTc7.1) hTc7.2 (fun st8 μc8 hp8 hTt8 hJ8 hfr8 => ?_)
  obtain rfl := hp8
  have hTc8 : zTJ none μc8 := ⟨zTy_of hw hTt8, hJ8⟩
  have hz := zWc_fr hz (zRq_fr hfr8 (by decide +kernel))
  refine pm_blk hK zmm28 [] 4 136 [(2, 3), (2, 46)] [(2, 12), (2, 55)] μc8 [] rfl trivial ?_
  refine pm_ccall hK zmm28 hC180 hw zGm_lt zJ_loc (91, 1, 29, 2) zM29 [(2, 55), (2, 12)] [] rfl rfl rfl rfl rfl ⟨by have e : zC180.2.2.2.1 = 1 := rfl; omega, by have e : zC180.2.2.2.2.1 = 80 := rfl; rw [zn29]; omega⟩ hs180 rfl (fun t ht => by cases ht) ⟨rfl, fun h => absurd h (by decide), fun _ => rfl, rfl, fun h => absurd h (by decide), fun _ => rfl, trivial⟩ (zTy_T hw hTc8.1) hTc8.2 (fun st9 μc9 hp9 hTt9 hJ9 hfr9 => ?_)
  obtain rfl := hp9
  have hTc9 : zTJ none μc9 := ⟨zTy_of hw hTt9, hJ9⟩
  have hz := zWc_fr hz (zRq_fr hfr9 (by decide +kernel))
  refine pm_blk hK zmm28 [] 4 147 [(2, 3), (2, 46)] [(2, 13), (2, 56)] μc9 [] rfl trivial ?_
  refine pm_ccall hK zmm28 hC181 hw zGm_lt zJ_loc (91, 1, 29, 2) zM29 [(2, 56), (2, 13)] [] rfl rfl rfl rfl rfl ⟨by have e : zC181.2.2.2.1 = 1 := rfl; omega, by have e : zC181.2.2.2.2.1 = 80 := rfl; rw [zn29]; omega⟩ hs181 rfl (fun t ht => by cases ht) ⟨rfl, fun h => absurd h (by decide), fun _ => rfl, rfl, fun h => absurd h (by decide), fun _ => rfl, trivial⟩ (zTy_T hw hTc9.1) hTc9.2 (fun st10 μc10 hp10 hTt10 hJ10 hfr10 => ?_)
  obtain rfl := hp10
  have hTc10 : zTJ none μc10 := ⟨zTy_of hw hTt10, hJ10⟩
  have hz := zWc_fr hz (zRq_fr hfr10 (by decide +kernel))
  refine pm_blk hK zmm28 [] 4 158 [(2, 3), (2, 46)] [(2, 14), (2, 57)] μc10 [] rfl trivial ?_
  refine pm_ccall hK zmm28 hC182 hw zGm_lt zJ_loc (91, 1, 29, 2) zM29 [(2, 57), (2, 14)] [] rfl rfl rfl rfl rfl ⟨by have e : zC182.2.2.2.1 = 1 := rfl; omega, by have e : zC182.2.2.2.2.1 = 80 := rfl; rw [zn29]; omega⟩ hs182 rfl (fun t ht => by cases ht) ⟨rfl, fun h => absurd h (by decide), fun _ => rfl, rfl, fun h => absurd h (by decide), fun _ => rfl, trivial⟩ (zTy_T hw hTc10.1) hTc10.2 (fun st11 μc11 hp11 hTt11 hJ11 hfr11 => ?_)
  obtain rfl := hp11
  have hTc11 : zTJ none μc11 := ⟨zTy_of hw hTt11, hJ11⟩
  have hz := zWc_fr hz (zRq_fr hfr11 (by decide +kernel))
  refine pm_blk hK zmm28 [] 4 169 [(2, 3), (2, 46)] [(2, 15), (2, 58)] μc11 [] rfl trivial ?_
  refine pm_ccall hK zmm28 hC183 hw zGm_lt zJ_loc (91, 1, 29, 2) zM29 [(2, 58), (2, 15)] [] rfl rfl rfl rfl rfl ⟨by have e : zC183.2.2.2.1 = 1 := rfl; omega, by have e : zC183.2.2.2.2.1 = 80 := rfl; rw [zn29]; omega⟩ hs183 rfl (fun t ht => by cases ht) ⟨rfl, fun h => absurd h (by decide), fun _ => rfl, rfl, fun h => absurd h (by decide), fun _ => rfl, trivial⟩ (zTy_T hw hTc11.1) hTc11.2 (fun st12 μc12 hp12 hTt12 hJ12 hfr12 => ?_)
  obtain rfl := hp12
  have hTc12 : zTJ none μc12 := ⟨zTy_of hw hTt12, hJ12⟩
  have hz := zWc_fr hz (zRq_fr hfr12 (by decide +kernel))
  exact pm_vret rfl rfl ⟨rfl, hTc12, zWc_eq hz (by decide)⟩
set_option maxRecDepth 100000 in
theorem zh_back (hK : zKK ST) (hw : sx_Wd zNR zRT2 B0 Sg) (hC107 : zCK none D ST B0 l Sg zC107) (hs107 : sx_subm zC107.2.2.2.2.2 Wm = true) (hC108 : zCK none D ST B0 l Sg zC108) (hs108 : sx_subm zC108.2.2.2.2.2 Wm = true) (hC109 : zCK none D ST B0 l Sg zC109) (hs109 : sx_subm zC109.2.2.2.2.2 Wm = true) (hC110 : zCK none D ST B0 l Sg zC110) (hs110 : sx_subm zC110.2.2.2.2.2 Wm = true) (hC111 : zCK none D ST B0 l Sg zC111) (hs111 : sx_subm zC111.2.2.2.2.2 Wm = true) (hC112 : zCK none D ST B0 l Sg zC112) (hs112 : sx_subm zC112.2.2.2.2.2 Wm = true) (hC113 : zCK none D ST B0 l Sg zC113) (hs113 : sx_subm zC113.2.2.2.2.2 Wm = true) (hC114 : zCK none D ST B0 l Sg zC114) (hs114 : sx_subm zC114.2.2.2.2.2 Wm = true) (hC115 : zCK none D ST B0 l Sg zC115) (hs115 : sx_subm zC115.2.2.2.2.2 Wm = true) (hC116 : zCK none D ST B0 l Sg zC116) (hs116 : sx_subm zC116.2.2.2.2.2 Wm = true) (hC117 : zCK none D ST B0 l Sg zC117) (hs117 : sx_subm zC117.2.2.2.2.2 Wm = true) (hC118 : zCK none D ST B0 l Sg zC118) (hs118 : sx_subm zC118.2.2.2.2.2 Wm = true) (hC120 : zCK none D ST B0 l Sg zC120) (hs120 : sx_subm zC120.2.2.2.2.2 Wm = true) (hC121 : zCK none D ST B0 l Sg zC121) (hs121 : sx_subm zC121.2.2.2.2.2 Wm = true) (hC122 : zCK none D ST B0 l Sg zC122) (hs122 : sx_subm zC122.2.2.2.2.2 Wm = true) (hC123 : zCK none D ST B0 l Sg zC123) (hs123 : sx_subm zC123.2.2.2.2.2 Wm = true) (hC124 : zCK none D ST B0 l Sg zC124) (hs124 : sx_subm zC124.2.2.2.2.2 Wm = true) (hC125 : zCK none D ST B0 l Sg zC125) (hs125 : sx_subm zC125.2.2.2.2.2 Wm = true) (hC126 : zCK none D ST B0 l Sg zC126) (hs126 : sx_subm zC126.2.2.2.2.2 Wm = true) (hC127 : zCK none D ST B0 l Sg zC127) (hs127 : sx_subm zC127.2.2.2.2.2 Wm = true) (hC128 : zCK none D ST B0 l Sg zC128) (hs128 : sx_subm zC128.2.2.2.2.2 Wm = true) (hC129 : zCK none D ST B0 l Sg zC129) (hs129 : sx_subm zC129.2.2.2.2.2 Wm = true) (hC130 : zCK none D ST B0 l Sg zC130) (hs130 : sx_subm zC130.2.2.2.2.2 Wm = true) (hC131 : zCK none D ST B0 l Sg zC131) (hs131 : sx_subm zC131.2.2.2.2.2 Wm = true) (hC133 : zCK none D ST B0 l Sg zC133) (hs133 : sx_subm zC133.2.2.2.2.2 Wm = true) (hC134 : zCK none D ST B0 l Sg zC134) (hs134 : sx_subm zC134.2.2.2.2.2 Wm = true) (hC135 : zCK none D ST B0 l Sg zC135) (hs135 : sx_subm zC135.2.2.2.2.2 Wm = true) (hC136 : zCK none D ST B0 l Sg zC136) (hs136 : sx_subm zC136.2.2.2.2.2 Wm = true) (hC137 : zCK none D ST B0 l Sg zC137) (hs137 : sx_subm zC137.2.2.2.2.2 Wm = true) (hC138 : zCK none D ST B0 l Sg zC138) (hs138 : sx_subm zC138.2.2.2.2.2 Wm = true) (hC139 : zCK none D ST B0 l Sg zC139) (hs139 : sx_subm zC139.2.2.2.2.2 Wm = true) (hC140 : zCK none D ST B0 l Sg zC140) (hs140 : sx_subm zC140.2.2.2.2.2 Wm = true) (hC141 : zCK none D ST B0 l Sg zC141) (hs141 : sx_subm zC141.2.2.2.2.2 Wm = true) (hC142 : zCK none D ST B0 l Sg zC142) (hs142 : sx_subm zC142.2.2.2.2.2 Wm = true) (hC143 : zCK none D ST B0 l Sg zC143) (hs143 : sx_subm zC143.2.2.2.2.2 Wm = true) (hC144 : zCK none D ST B0 l Sg zC144) (hs144 : sx_subm zC144.2.2.2.2.2 Wm = true) (hC146 : zCK none D ST B0 l Sg zC146) (hs146 : sx_subm zC146.2.2.2.2.2 Wm = true) (hC147 : zCK none D ST B0 l Sg zC147) (hs147 : sx_subm zC147.2.2.2.2.2 Wm = true) (hC148 : zCK none D ST B0 l Sg zC148) (hs148 : sx_subm zC148.2.2.2.2.2 Wm = true) (hC149 : zCK none D ST B0 l Sg zC149) (hs149 : sx_subm zC149.2.2.2.2.2 Wm = true) (hC150 : zCK none D ST B0 l Sg zC150) (hs150 : sx_subm zC150.2.2.2.2.2 Wm = true) (hC151 : zCK none D ST B0 l Sg zC151) (hs151 : sx_subm zC151.2.2.2.2.2 Wm = true) (hC152 : zCK none D ST B0 l Sg zC152) (hs152 : sx_subm zC152.2.2.2.2.2 Wm = true) (hC153 : zCK none D ST B0 l Sg zC153) (hs153 : sx_subm zC153.2.2.2.2.2 Wm = true) (hC154 : zCK none D ST B0 l Sg zC154) (hs154 : sx_subm zC154.2.2.2.2.2 Wm = true) (hC155 : zCK none D ST B0 l Sg zC155) (hs155 : sx_subm zC155.2.2.2.2.2 Wm = true) (hC156 : zCK none D ST B0 l Sg zC156) (hs156 : sx_subm zC156.2.2.2.2.2 Wm = true) (hC157 : zCK none D ST B0 l Sg zC157) (hs157 : sx_subm zC157.2.2.2.2.2 Wm = true) (hC159 : zCK none D ST B0 l Sg zC159) (hs159 : sx_subm zC159.2.2.2.2.2 Wm = true) (hC160 : zCK none D ST B0 l Sg zC160) (hs160 : sx_subm zC160.2.2.2.2.2 Wm = true) (hC161 : zCK none D ST B0 l Sg zC161) (hs161 : sx_subm zC161.2.2.2.2.2 Wm = true) (hC162 : zCK none D ST B0 l Sg zC162) (hs162 : sx_subm zC162.2.2.2.2.2 Wm = true) (hC163 : zCK none D ST B0 l Sg zC163) (hs163 : sx_subm zC163.2.2.2.2.2 Wm = true) (hC164 : zCK none D ST B0 l Sg zC164) (hs164 : sx_subm zC164.2.2.2.2.2 Wm = true) (hC165 : zCK none D ST B0 l Sg zC165) (hs165 : sx_subm zC165.2.2.2.2.2 Wm = true) (hC166 : zCK none D ST B0 l Sg zC166) (hs166 : sx_subm zC166.2.2.2.2.2 Wm = true) (hC167 : zCK none D ST B0 l Sg zC167) (hs167 : sx_subm zC167.2.2.2.2.2 Wm = true) (hC168 : zCK none D ST B0 l Sg zC168) (hs168 : sx_subm zC168.2.2.2.2.2 Wm = true) (hC169 : zCK none D ST B0 l Sg zC169) (hs169 : sx_subm zC169.2.2.2.2.2 Wm = true) (hC170 : zCK none D ST B0 l Sg zC170) (hs170 : sx_subm zC170.2.2.2.2.2 Wm = true) (hC185 : zCK none D ST B0 l Sg zC185) (hs185 : sx_subm zC185.2.2.2.2.2 Wm = true) (hC186 : zCK none D ST B0 l Sg zC186) (hs186 : sx_subm zC186.2.2.2.2.2 Wm = true) (hC187 : zCK none D ST B0 l Sg zC187) (hs187 : sx_subm zC187.2.2.2.2.2 Wm = true) (hC188 : zCK none D ST B0 l Sg zC188) (hs188 : sx_subm zC188.2.2.2.2.2 Wm = true) (hC189 : zCK none D ST B0 l Sg zC189) (hs189 : sx_subm zC189.2.2.2.2.2 Wm = true) (hC190 : zCK none D ST B0 l Sg zC190) (hs190 : sx_subm zC190.2.2.2.2.2 Wm = true) (hC191 : zCK none D ST B0 l Sg zC191) (hs191 : sx_subm zC191.2.2.2.2.2 Wm = true) (hC192 : zCK none D ST B0 l Sg zC192) (hs192 : sx_subm zC192.2.2.2.2.2 Wm = true) (hC193 : zCK none D ST B0 l Sg zC193) (hs193 : sx_subm zC193.2.2.2.2.2 Wm = true) (hC194 : zCK none D ST B0 l Sg zC194) (hs194 : sx_subm zC194.2.2.2.2.2 Wm = true) (hC195 : zCK none D ST B0 l Sg zC195) (hs195 : sx_subm zC195.2.2.2.2.2 Wm = true) (hC196 : zCK none D ST B0 l Sg zC196) (hs196 : sx_subm zC196.2.2.2.2.2 Wm = true) (hT : zTJ none μ) (hk : zKw μ) (hb2 : sx_bit Wm 2 = true) (hb3 : sx_bit Wm 3 = true) (hb96 : sx_bit Wm 96 = true) (hbd : 3 ≤ bud.1 ∧ 122 ≤ bud.2.1) : zC D Wm ST (sx_bW zRT2 Wm B0 Sg, J) l Sg zM118 bud [(2, 96), (2, 2)] μ (fun st' μ' => ∃ x, st' = [(0, x)] ∧ (0 ≤ x ∧ x ≤ 1) ∧ zTJ none μ' ∧ zKC μ μ') := by
  have f92 := zT_get hT zs96_2 (i := 2) (by omega) (by omega)
  have f93 := zT_get hT zs96_3 (i := 3) (by omega) (by omega)
  have f1 := zT_get hT zs96_3 (i := 3) (by omega) (by omega)
  refine pm_blk hK zmm118 [] 3 5 [(2, 96), (2, 2)] [(0, 1), (0, μ 96 3)] μ [] rfl trivial ?_
  refine pm_icmp hK zmm118 .ge 5 10 rfl rfl (fun h0 => ?_) (fun h0 => ?_)
  · have h0 : (1 : Int) ≤ μ 96 3 := h0
    have f2 := zT_get hT zs96_2 (i := 2) (by omega) (by omega)
    refine pm_blk hK zmm118 [] 3 15 [(2, 96), (2, 2)] [(0, μ 96 2), (2, 96)] μ [] rfl trivial ?_
    refine pm_if hK zmm118 .ne 7 22 rfl rfl (fun h1 => ?_) (fun h1 => ?_)
    · have h1 : μ 96 2 ≠ (0 : Int) := h1
      refine pm_blk hK zmm118 [] 5 31 [(2, 96), (2, 2)] [] (pm_up μ 96 2 ((μ 96 2) - 1)) [pm_in ((μ 96 2) - 1), sx_bit Wm 96 = true] rfl ⟨pm_in_mk (by omega) (by omega), hb96, trivial⟩ ?_
      obtain ⟨μ1, eμ1⟩ : ∃ μ', μ' = pm_up μ 96 2 ((μ 96 2) - 1) := ⟨_, rfl⟩
      rw [← eμ1]
      have hTμ1 : zTJ none μ1 := by rw [eμ1]; exact zT_upn hT zs96_2 rfl (i := 2) (by omega) (by omega) (by omega) (by omega)
      have q1 : ∀ q ∈ zRq, q ≠ (96, 2) → μ1 q.1 (q.2 : Int) = μ q.1 (q.2 : Int) := fun q hq hne => by rw [eμ1]; exact pm_upq (k := 2) (i := 2) rfl hne
      have d2 : μ1 96 2 = if μ 96 2 = 0 then 5 else μ 96 2 - 1 := by rw [eμ1, pm_up_eq]; first | rw [if_pos (by omega)] | rw [if_neg (by omega)]
      have d3 : μ1 96 3 = μ 96 3 := q1 (96, 3) (by decide) (by decide)
      have f3 := zT_get hTμ1 zs96_3 (i := 3) (by omega) (by omega)
      refine pm_blk hK zmm118 [] 6 41 [(2, 96), (2, 2)] [] (pm_up μ1 96 3 ((μ1 96 3) - 1)) [pm_in ((μ1 96 3) - 1), sx_bit Wm 96 = true] rfl ⟨pm_in_mk (by omega) (by omega), hb96, trivial⟩ ?_
      obtain ⟨μ2, eμ2⟩ : ∃ μ', μ' = pm_up μ1 96 3 ((μ1 96 3) - 1) := ⟨_, rfl⟩
      rw [← eμ2]
      have hTμ2 : zTJ none μ2 := by rw [eμ2]; exact zT_upn hTμ1 zs96_3 rfl (i := 3) (by omega) (by omega) (by omega) (by omega)
      have q2 : ∀ q ∈ zRq, q ≠ (96, 3) → μ2 q.1 (q.2 : Int) = μ1 q.1 (q.2 : Int) := fun q hq hne => by rw [eμ2]; exact pm_upq (k := 3) (i := 3) rfl hne
      have d2 : μ2 96 2 = if μ 96 2 = 0 then 5 else μ 96 2 - 1 := (q2 (96, 2) (by decide) (by decide)).trans d2
      have d3 : μ2 96 3 = μ 96 3 - 1 := by rw [eμ2, pm_up_eq, d3]
      have d4 : 0 ≤ μ2 96 2 ∧ μ2 96 2 ≤ 5 := by rw [d2]; split <;> omega
      have f4 := zT_get hTμ2 zs96_2 (i := 2) (by omega) (by omega)
      refine pm_blk hK zmm118 [] 6 53 [(2, 96), (2, 2)] [(0, μ2 96 2), (2, 97), (2, 3)] μ2 [] rfl trivial ?_
      have hk2 : μ2 96 2 = ((0 : Nat) : Int) ∨ μ2 96 2 = ((1 : Nat) : Int) ∨ μ2 96 2 = ((2 : Nat) : Int) ∨ μ2 96 2 = ((3 : Nat) : Int) ∨ μ2 96 2 = ((4 : Nat) : Int) ∨ μ2 96 2 = ((5 : Nat) : Int) := by omega
      rcases hk2 with hk2 | hk2 | hk2 | hk2 | hk2 | hk2
      · refine zp_aald hK zmm118 (r := 97) (q := 99) (k := 0) (g := zG97) (t := (2, 99, 0)) rfl rfl (by decide) hk2 rfl rfl rfl rfl ?_
        refine pm_call hK zmm118 (33, 0, 28, 1) zM28 (2, 101) [(2, 3), (2, 99)] [] rfl rfl rfl rfl ⟨by omega, by rw [zn28]; omega⟩ (zh_ac3_99 hK hw hC185 hs185 hC186 hs186 hC187 hs187 hC188 hs188 hC189 hs189 hC190 hs190 hC191 hs191 hC192 hs192 hC193 hs193 hC194 hs194 hC195 hs195 hC196 hs196 hTμ2 hb3 ⟨Nat.le_refl _, Nat.le_refl _⟩) (fun st1 μc1 hp1 => ?_)
        obtain ⟨rfl, hTc1, hz1⟩ := hp1
        have hz := hz1
        have f5 := zT_get hTc1 zs96_2 (i := 2) (by omega) (by omega)
        have f6 := zT_get hTc1 zs98_0 (i := μc1 96 2) (by omega) (by omega)
        refine pm_blk hK zmm118 [] 7 70 [(2, 96), (2, 2)] [] (pm_up μc1 2 2 (μc1 98 (μc1 96 2))) [0 ≤ μc1 96 2 ∧ μc1 96 2 < 6, sx_bit Wm 2 = true] rfl ⟨⟨by omega, by omega⟩, hb2, trivial⟩ ?_
        obtain ⟨μ3, eμ3⟩ : ∃ μ', μ' = pm_up μc1 2 2 (μc1 98 (μc1 96 2)) := ⟨_, rfl⟩
        rw [← eμ3]
        have hTμ3 : zTJ none μ3 := by rw [eμ3]; exact zT_upn hTc1 zs2_2 rfl (i := 2) (by omega) (by omega) (by omega) (by omega)
        refine pm_blk hK zmm118 [] 1 71 [(2, 96), (2, 2)] [(0, 1)] μ3 [] rfl trivial ?_
        have q3 : ∀ q ∈ zRq, μ3 q.1 (q.2 : Int) = μc1 q.1 (q.2 : Int) := fun q hq => by rw [eμ3]; exact pm_upq (k := 2) (i := 2) rfl ((show ∀ q ∈ zRq, q ≠ (2, 2) by decide) q hq)
        exact pm_zret rfl rfl (by first | exact Or.inl rfl | exact Or.inr rfl | omega) ⟨_, rfl, ⟨by omega, by omega⟩, hTμ3, zKC_back (n := 0) (by decide) (hk2.symm.trans d2) f92 (by omega) (fun q hq h2 h3 => (q2 q hq h3).trans (q1 q hq h2)) hk2 d3 hz q3 hk⟩
      · refine zp_aald hK zmm118 (r := 97) (q := 112) (k := 1) (g := zG97) (t := (2, 112, 0)) rfl rfl (by decide) hk2 rfl rfl rfl rfl ?_
        refine pm_call hK zmm118 (33, 0, 28, 1) zM28 (2, 101) [(2, 3), (2, 112)] [] rfl rfl rfl rfl ⟨by omega, by rw [zn28]; omega⟩ (zh_ac3_112 hK hw hC107 hs107 hC108 hs108 hC109 hs109 hC110 hs110 hC111 hs111 hC112 hs112 hC113 hs113 hC114 hs114 hC115 hs115 hC116 hs116 hC117 hs117 hC118 hs118 hTμ2 hb3 ⟨Nat.le_refl _, Nat.le_refl _⟩) (fun st2 μc2 hp2 => ?_)
        obtain ⟨rfl, hTc2, hz2⟩ := hp2
        have hz := hz2
        have f7 := zT_get hTc2 zs96_2 (i := 2) (by omega) (by omega)
        have f8 := zT_get hTc2 zs98_0 (i := μc2 96 2) (by omega) (by omega)
        refine pm_blk hK zmm118 [] 7 70 [(2, 96), (2, 2)] [] (pm_up μc2 2 2 (μc2 98 (μc2 96 2))) [0 ≤ μc2 96 2 ∧ μc2 96 2 < 6, sx_bit Wm 2 = true] rfl ⟨⟨by omega, by omega⟩, hb2, trivial⟩ ?_
        obtain ⟨μ4, eμ4⟩ : ∃ μ', μ' = pm_up μc2 2 2 (μc2 98 (μc2 96 2)) := ⟨_, rfl⟩
        rw [← eμ4]
        have hTμ4 : zTJ none μ4 := by rw [eμ4]; exact zT_upn hTc2 zs2_2 rfl (i := 2) (by omega) (by omega) (by omega) (by omega)
        refine pm_blk hK zmm118 [] 1 71 [(2, 96), (2, 2)] [(0, 1)] μ4 [] rfl trivial ?_
        have q3 : ∀ q ∈ zRq, μ4 q.1 (q.2 : Int) = μc2 q.1 (q.2 : Int) := fun q hq => by rw [eμ4]; exact pm_upq (k := 2) (i := 2) rfl ((show ∀ q ∈ zRq, q ≠ (2, 2) by decide) q hq)
        exact pm_zret rfl rfl (by first | exact Or.inl rfl | exact Or.inr rfl | omega) ⟨_, rfl, ⟨by omega, by omega⟩, hTμ4, zKC_back (n := 1) (by decide) (hk2.symm.trans d2) f92 (by omega) (fun q hq h2 h3 => (q2 q hq h3).trans (q1 q hq h2)) hk2 d3 hz q3 hk⟩
      · refine zp_aald hK zmm118 (r := 97) (q := 125) (k := 2) (g := zG97) (t := (2, 125, 0)) rfl rfl (by decide) hk2 rfl rfl rfl rfl ?_
        refine pm_call hK zmm118 (33, 0, 28, 1) zM28 (2, 101) [(2, 3), (2, 125)] [] rfl rfl rfl rfl ⟨by omega, by rw [zn28]; omega⟩ (zh_ac3_125 hK hw hC120 hs120 hC121 hs121 hC122 hs122 hC123 hs123 hC124 hs124 hC125 hs125 hC126 hs126 hC127 hs127 hC128 hs128 hC129 hs129 hC130 hs130 hC131 hs131 hTμ2 hb3 ⟨Nat.le_refl _, Nat.le_refl _⟩) (fun st3 μc3 hp3 => ?_)
        obtain ⟨rfl, hTc3, hz3⟩ := hp3
        have hz := hz3
        have f9 := zT_get hTc3 zs96_2 (i := 2) (by omega) (by omega)
        have f10 := zT_get hTc3 zs98_0 (i := μc3 96 2) (by omega) (by omega)
        refine pm_blk hK zmm118 [] 7 70 [(2, 96), (2, 2)] [] (pm_up μc3 2 2 (μc3 98 (μc3 96 2))) [0 ≤ μc3 96 2 ∧ μc3 96 2 < 6, sx_bit Wm 2 = true] rfl ⟨⟨by omega, by omega⟩, hb2, trivial⟩ ?_
        obtain ⟨μ5, eμ5⟩ : ∃ μ', μ' = pm_up μc3 2 2 (μc3 98 (μc3 96 2)) := ⟨_, rfl⟩
        rw [← eμ5]
        have hTμ5 : zTJ none μ5 := by rw [eμ5]; exact zT_upn hTc3 zs2_2 rfl (i := 2) (by omega) (by omega) (by omega) (by omega)
        refine pm_blk hK zmm118 [] 1 71 [(2, 96), (2, 2)] [(0, 1)] μ5 [] rfl trivial ?_
        have q3 : ∀ q ∈ zRq, μ5 q.1 (q.2 : Int) = μc3 q.1 (q.2 : Int) := fun q hq => by rw [eμ5]; exact pm_upq (k := 2) (i := 2) rfl ((show ∀ q ∈ zRq, q ≠ (2, 2) by decide) q hq)
        exact pm_zret rfl rfl (by first | exact Or.inl rfl | exact Or.inr rfl | omega) ⟨_, rfl, ⟨by omega, by omega⟩, hTμ5, zKC_back (n := 2) (by decide) (hk2.symm.trans d2) f92 (by omega) (fun q hq h2 h3 => (q2 q hq h3).trans (q1 q hq h2)) hk2 d3 hz q3 hk⟩
      · refine zp_aald hK zmm118 (r := 97) (q := 138) (k := 3) (g := zG97) (t := (2, 138, 0)) rfl rfl (by decide) hk2 rfl rfl rfl rfl ?_
        refine pm_call hK zmm118 (33, 0, 28, 1) zM28 (2, 101) [(2, 3), (2, 138)] [] rfl rfl rfl rfl ⟨by omega, by rw [zn28]; omega⟩ (zh_ac3_138 hK hw hC133 hs133 hC134 hs134 hC135 hs135 hC136 hs136 hC137 hs137 hC138 hs138 hC139 hs139 hC140 hs140 hC141 hs141 hC142 hs142 hC143 hs143 hC144 hs144 hTμ2 hb3 ⟨Nat.le_refl _, Nat.le_refl _⟩) (fun st4 μc4 hp4 => ?_)
        obtain ⟨rfl, hTc4, hz4⟩ := hp4
        have hz := hz4
        have f11 := zT_get hTc4 zs96_2 (i := 2) (by omega) (by omega)
        have f12 := zT_get hTc4 zs98_0 (i := μc4 96 2) (by omega) (by omega)
        refine pm_blk hK zmm118 [] 7 70 [(2, 96), (2, 2)] [] (pm_up μc4 2 2 (μc4 98 (μc4 96 2))) [0 ≤ μc4 96 2 ∧ μc4 96 2 < 6, sx_bit Wm 2 = true] rfl ⟨⟨by omega, by omega⟩, hb2, trivial⟩ ?_
        obtain ⟨μ6, eμ6⟩ : ∃ μ', μ' = pm_up μc4 2 2 (μc4 98 (μc4 96 2)) := ⟨_, rfl⟩
        rw [← eμ6]
        have hTμ6 : zTJ none μ6 := by rw [eμ6]; exact zT_upn hTc4 zs2_2 rfl (i := 2) (by omega) (by omega) (by omega) (by omega)
        refine pm_blk hK zmm118 [] 1 71 [(2, 96), (2, 2)] [(0, 1)] μ6 [] rfl trivial ?_
        have q3 : ∀ q ∈ zRq, μ6 q.1 (q.2 : Int) = μc4 q.1 (q.2 : Int) := fun q hq => by rw [eμ6]; exact pm_upq (k := 2) (i := 2) rfl ((show ∀ q ∈ zRq, q ≠ (2, 2) by decide) q hq)
        exact pm_zret rfl rfl (by first | exact Or.inl rfl | exact Or.inr rfl | omega) ⟨_, rfl, ⟨by omega, by omega⟩, hTμ6, zKC_back (n := 3) (by decide) (hk2.symm.trans d2) f92 (by omega) (fun q hq h2 h3 => (q2 q hq h3).trans (q1 q hq h2)) hk2 d3 hz q3 hk⟩
      · refine zp_aald hK zmm118 (r := 97) (q := 151) (k := 4) (g := zG97) (t := (2, 151, 0)) rfl rfl (by decide) hk2 rfl rfl rfl rfl ?_
        refine pm_call hK zmm118 (33, 0, 28, 1) zM28 (2, 101) [(2, 3), (2, 151)] [] rfl rfl rfl rfl ⟨by omega, by rw [zn28]; omega⟩ (zh_ac3_151 hK hw hC146 hs146 hC147 hs147 hC148 hs148 hC149 hs149 hC150 hs150 hC151 hs151 hC152 hs152 hC153 hs153 hC154 hs154 hC155 hs155 hC156 hs156 hC157 hs157 hTμ2 hb3 ⟨Nat.le_refl _, Nat.le_refl _⟩) (fun st5 μc5 hp5 => ?_)
        obtain ⟨rfl, hTc5, hz5⟩ := hp5
        have hz := hz5
        have f13 := zT_get hTc5 zs96_2 (i := 2) (by omega) (by omega)
        have f14 := zT_get hTc5 zs98_0 (i := μc5 96 2) (by omega) (by omega)
        refine pm_blk hK zmm118 [] 7 70 [(2, 96), (2, 2)] [] (pm_up μc5 2 2 (μc5 98 (μc5 96 2))) [0 ≤ μc5 96 2 ∧ μc5 96 2 < 6, sx_bit Wm 2 = true] rfl ⟨⟨by omega, by omega⟩, hb2, trivial⟩ ?_
        obtain ⟨μ7, eμ7⟩ : ∃ μ', μ' = pm_up μc5 2 2 (μc5 98 (μc5 96 2)) := ⟨_, rfl⟩
        rw [← eμ7]
        have hTμ7 : zTJ none μ7 := by rw [eμ7]; exact zT_upn hTc5 zs2_2 rfl (i := 2) (by omega) (by omega) (by omega) (by omega)
        refine pm_blk hK zmm118 [] 1 71 [(2, 96), (2, 2)] [(0, 1)] μ7 [] rfl trivial ?_
        have q3 : ∀ q ∈ zRq, μ7 q.1 (q.2 : Int) = μc5 q.1 (q.2 : Int) := fun q hq => by rw [eμ7]; exact pm_upq (k := 2) (i := 2) rfl ((show ∀ q ∈ zRq, q ≠ (2, 2) by decide) q hq)
        exact pm_zret rfl rfl (by first | exact Or.inl rfl | exact Or.inr rfl | omega) ⟨_, rfl, ⟨by omega, by omega⟩, hTμ7, zKC_back (n := 4) (by decide) (hk2.symm.trans d2) f92 (by omega) (fun q hq h2 h3 => (q2 q hq h3).trans (q1 q hq h2)) hk2 d3 hz q3 hk⟩
      · refine zp_aald hK zmm118 (r := 97) (q := 164) (k := 5) (g := zG97) (t := (2, 164, 0)) rfl rfl (by decide) hk2 rfl rfl rfl rfl ?_
        refine pm_call hK zmm118 (33, 0, 28, 1) zM28 (2, 101) [(2, 3), (2, 164)] [] rfl rfl rfl rfl ⟨by omega, by rw [zn28]; omega⟩ (zh_ac3_164 hK hw hC159 hs159 hC160 hs160 hC161 hs161 hC162 hs162 hC163 hs163 hC164 hs164 hC165 hs165 hC166 hs166 hC167 hs167 hC168 hs168 hC169 hs169 hC170 hs170 hTμ2 hb3 ⟨Nat.le_refl _, Nat.le_refl _⟩) (fun st6 μc6 hp6 => ?_)
        obtain ⟨rfl, hTc6, hz6⟩ := hp6
        have hz := hz6
        have f15 := zT_get hTc6 zs96_2 (i := 2) (by omega) (by omega)
        have f16 := zT_get hTc6 zs98_0 (i := μc6 96 2) (by omega) (by omega)
        refine pm_blk hK zmm118 [] 7 70 [(2, 96), (2, 2)] [] (pm_up μc6 2 2 (μc6 98 (μc6 96 2))) [0 ≤ μc6 96 2 ∧ μc6 96 2 < 6, sx_bit Wm 2 = true] rfl ⟨⟨by omega, by omega⟩, hb2, trivial⟩ ?_
        obtain ⟨μ8, eμ8⟩ : ∃ μ', μ' = pm_up μc6 2 2 (μc6 98 (μc6 96 2)) := ⟨_, rfl⟩
        rw [← eμ8]
        have hTμ8 : zTJ none μ8 := by rw [eμ8]; exact zT_upn hTc6 zs2_2 rfl (i := 2) (by omega) (by omega) (by omega) (by omega)
        refine pm_blk hK zmm118 [] 1 71 [(2, 96), (2, 2)] [(0, 1)] μ8 [] rfl trivial ?_
        have q3 : ∀ q ∈ zRq, μ8 q.1 (q.2 : Int) = μc6 q.1 (q.2 : Int) := fun q hq => by rw [eμ8]; exact pm_upq (k := 2) (i := 2) rfl ((show ∀ q ∈ zRq, q ≠ (2, 2) by decide) q hq)
        exact pm_zret rfl rfl (by first | exact Or.inl rfl | exact Or.inr rfl | omega) ⟨_, rfl, ⟨by omega, by omega⟩, hTμ8, zKC_back (n := 5) (by decide) (hk2.symm.trans d2) f92 (by omega) (fun q hq h2 h3 => (q2 q hq h3).trans (q1 q hq h2)) hk2 d3 hz q3 hk⟩
    · have h1 : μ 96 2 = (0 : Int) := h1
      refine pm_blk hK zmm118 [] 3 31 [(2, 96), (2, 2)] [] (pm_up μ 96 2 5) [sx_bit Wm 96 = true] rfl ⟨hb96, trivial⟩ ?_
      obtain ⟨μ9, eμ9⟩ : ∃ μ', μ' = pm_up μ 96 2 5 := ⟨_, rfl⟩
      rw [← eμ9]
      have hTμ9 : zTJ none μ9 := by rw [eμ9]; exact zT_upn hT zs96_2 rfl (i := 2) (by omega) (by omega) (by omega) (by omega)
      have q1 : ∀ q ∈ zRq, q ≠ (96, 2) → μ9 q.1 (q.2 : Int) = μ q.1 (q.2 : Int) := fun q hq hne => by rw [eμ9]; exact pm_upq (k := 2) (i := 2) rfl hne
      have d2 : μ9 96 2 = if μ 96 2 = 0 then 5 else μ 96 2 - 1 := by rw [eμ9, pm_up_eq]; first | rw [if_pos (by omega)] | rw [if_neg (by omega)]
      have d3 : μ9 96 3 = μ 96 3 := q1 (96, 3) (by decide) (by decide)
      have f17 := zT_get hTμ9 zs96_3 (i := 3) (by omega) (by omega)
      refine pm_blk hK zmm118 [] 6 41 [(2, 96), (2, 2)] [] (pm_up μ9 96 3 ((μ9 96 3) - 1)) [pm_in ((μ9 96 3) - 1), sx_bit Wm 96 = true] rfl ⟨pm_in_mk (by omega) (by omega), hb96, trivial⟩ ?_
      obtain ⟨μ10, eμ10⟩ : ∃ μ', μ' = pm_up μ9 96 3 ((μ9 96 3) - 1) := ⟨_, rfl⟩
      rw [← eμ10]
      have hTμ10 : zTJ none μ10 := by rw [eμ10]; exact zT_upn hTμ9 zs96_3 rfl (i := 3) (by omega) (by omega) (by omega) (by omega)
      have q2 : ∀ q ∈ zRq, q ≠ (96, 3) → μ10 q.1 (q.2 : Int) = μ9 q.1 (q.2 : Int) := fun q hq hne => by rw [eμ10]; exact pm_upq (k := 3) (i := 3) rfl hne
      have d2 : μ10 96 2 = if μ 96 2 = 0 then 5 else μ 96 2 - 1 := (q2 (96, 2) (by decide) (by decide)).trans d2
      have d3 : μ10 96 3 = μ 96 3 - 1 := by rw [eμ10, pm_up_eq, d3]
      have d4 : 0 ≤ μ10 96 2 ∧ μ10 96 2 ≤ 5 := by rw [d2]; split <;> omega
      have f18 := zT_get hTμ10 zs96_2 (i := 2) (by omega) (by omega)
      refine pm_blk hK zmm118 [] 6 53 [(2, 96), (2, 2)] [(0, μ10 96 2), (2, 97), (2, 3)] μ10 [] rfl trivial ?_
      have hk3 : μ10 96 2 = ((0 : Nat) : Int) ∨ μ10 96 2 = ((1 : Nat) : Int) ∨ μ10 96 2 = ((2 : Nat) : Int) ∨ μ10 96 2 = ((3 : Nat) : Int) ∨ μ10 96 2 = ((4 : Nat) : Int) ∨ μ10 96 2 = ((5 : Nat) : Int) := by omega
      rcases hk3 with hk3 | hk3 | hk3 | hk3 | hk3 | hk3
      · refine zp_aald hK zmm118 (r := 97) (q := 99) (k := 0) (g := zG97) (t := (2, 99, 0)) rfl rfl (by decide) hk3 rfl rfl rfl rfl ?_
        refine pm_call hK zmm118 (33, 0, 28, 1) zM28 (2, 101) [(2, 3), (2, 99)] [] rfl rfl rfl rfl ⟨by omega, by rw [zn28]; omega⟩ (zh_ac3_99 hK hw hC185 hs185 hC186 hs186 hC187 hs187 hC188 hs188 hC189 hs189 hC190 hs190 hC191 hs191 hC192 hs192 hC193 hs193 hC194 hs194 hC195 hs195 hC196 hs196 hTμ10 hb3 ⟨Nat.le_refl _, Nat.le_refl _⟩) (fun st7 μc7 hp7 => ?_)
        obtain ⟨rfl, hTc7, hz7⟩ := hp7
        have hz := hz7
        have f19 := zT_get hTc7 zs96_2 (i := 2) (by omega) (by omega)
        have f20 := zT_get hTc7 zs98_0 (i := μc7 96 2) (by omega) (by omega)
        refine pm_blk hK zmm118 [] 7 70 [(2, 96), (2, 2)] [] (pm_up μc7 2 2 (μc7 98 (μc7 96 2))) [0 ≤ μc7 96 2 ∧ μc7 96 2 < 6, sx_bit Wm 2 = true] rfl ⟨⟨by omega, by omega⟩, hb2, trivial⟩ ?_
        obtain ⟨μ11, eμ11⟩ : ∃ μ', μ' = pm_up μc7 2 2 (μc7 98 (μc7 96 2)) := ⟨_, rfl⟩
        rw [← eμ11]
        have hTμ11 : zTJ none μ11 := by rw [eμ11]; exact zT_upn hTc7 zs2_2 rfl (i := 2) (by omega) (by omega) (by omega) (by omega)
        refine pm_blk hK zmm118 [] 1 71 [(2, 96), (2, 2)] [(0, 1)] μ11 [] rfl trivial ?_
        have q3 : ∀ q ∈ zRq, μ11 q.1 (q.2 : Int) = μc7 q.1 (q.2 : Int) := fun q hq => by rw [eμ11]; exact pm_upq (k := 2) (i := 2) rfl ((show ∀ q ∈ zRq, q ≠ (2, 2) by decide) q hq)
        exact pm_zret rfl rfl (by first | exact Or.inl rfl | exact Or.inr rfl | omega) ⟨_, rfl, ⟨by omega, by omega⟩, hTμ11, zKC_back (n := 0) (by decide) (hk3.symm.trans d2) f92 (by omega) (fun q hq h2 h3 => (q2 q hq h3).trans (q1 q hq h2)) hk3 d3 hz q3 hk⟩
      · refine zp_aald hK zmm118 (r := 97) (q := 112) (k := 1) (g := zG97) (t := (2, 112, 0)) rfl rfl (by decide) hk3 rfl rfl rfl rfl ?_
        refine pm_call hK zmm118 (33, 0, 28, 1) zM28 (2, 101) [(2, 3), (2, 112)] [] rfl rfl rfl rfl ⟨by omega, by rw [zn28]; omega⟩ (zh_ac3_112 hK hw hC107 hs107 hC108 hs108 hC109 hs109 hC110 hs110 hC111 hs111 hC112 hs112 hC113 hs113 hC114 hs114 hC115 hs115 hC116 hs116 hC117 hs117 hC118 hs118 hTμ10 hb3 ⟨Nat.le_refl _, Nat.le_refl _⟩) (fun st8 μc8 hp8 => ?_)
        obtain ⟨rfl, hTc8, hz8⟩ := hp8
        have hz := hz8
        have f21 := zT_get hTc8 zs96_2 (i := 2) (by omega) (by omega)
        have f22 := zT_get hTc8 zs98_0 (i := μc8 96 2) (by omega) (by omega)
        refine pm_blk hK zmm118 [] 7 70 [(2, 96), (2, 2)] [] (pm_up μc8 2 2 (μc8 98 (μc8 96 2))) [0 ≤ μc8 96 2 ∧ μc8 96 2 < 6, sx_bit Wm 2 = true] rfl ⟨⟨by omega, by omega⟩, hb2, trivial⟩ ?_
        obtain ⟨μ12, eμ12⟩ : ∃ μ', μ' = pm_up μc8 2 2 (μc8 98 (μc8 96 2)) := ⟨_, rfl⟩
        rw [← eμ12]
        have hTμ12 : zTJ none μ12 := by rw [eμ12]; exact zT_upn hTc8 zs2_2 rfl (i := 2) (by omega) (by omega) (by omega) (by omega)
        refine pm_blk hK zmm118 [] 1 71 [(2, 96), (2, 2)] [(0, 1)] μ12 [] rfl trivial ?_
        have q3 : ∀ q ∈ zRq, μ12 q.1 (q.2 : Int) = μc8 q.1 (q.2 : Int) := fun q hq => by rw [eμ12]; exact pm_upq (k := 2) (i := 2) rfl ((show ∀ q ∈ zRq, q ≠ (2, 2) by decide) q hq)
        exact pm_zret rfl rfl (by first | exact Or.inl rfl | exact Or.inr rfl | omega) ⟨_, rfl, ⟨by omega, by omega⟩, hTμ12, zKC_back (n := 1) (by decide) (hk3.symm.trans d2) f92 (by omega) (fun q hq h2 h3 => (q2 q hq h3).trans (q1 q hq h2)) hk3 d3 hz q3 hk⟩
      · refine zp_aald hK zmm118 (r := 97) (q := 125) (k := 2) (g := zG97) (t := (2, 125, 0)) rfl rfl (by decide) hk3 rfl rfl rfl rfl ?_
        refine pm_call hK zmm118 (33, 0, 28, 1) zM28 (2, 101) [(2, 3), (2, 125)] [] rfl rfl rfl rfl ⟨by omega, by rw [zn28]; omega⟩ (zh_ac3_125 hK hw hC120 hs120 hC121 hs121 hC122 hs122 hC123 hs123 hC124 hs124 hC125 hs125 hC126 hs126 hC127 hs127 hC128 hs128 hC129 hs129 hC130 hs130 hC131 hs131 hTμ10 hb3 ⟨Nat.le_refl _, Nat.le_refl _⟩) (fun st9 μc9 hp9 => ?_)
        obtain ⟨rfl, hTc9, hz9⟩ := hp9
        have hz := hz9
        have f23 := zT_get hTc9 zs96_2 (i := 2) (by omega) (by omega)
        have f24 := zT_get hTc9 zs98_0 (i := μc9 96 2) (by omega) (by omega)
        refine pm_blk hK zmm118 [] 7 70 [(2, 96), (2, 2)] [] (pm_up μc9 2 2 (μc9 98 (μc9 96 2))) [0 ≤ μc9 96 2 ∧ μc9 96 2 < 6, sx_bit Wm 2 = true] rfl ⟨⟨by omega, by omega⟩, hb2, trivial⟩ ?_
        obtain ⟨μ13, eμ13⟩ : ∃ μ', μ' = pm_up μc9 2 2 (μc9 98 (μc9 96 2)) := ⟨_, rfl⟩
        rw [← eμ13]
        have hTμ13 : zTJ none μ13 := by rw [eμ13]; exact zT_upn hTc9 zs2_2 rfl (i := 2) (by omega) (by omega) (by omega) (by omega)
        refine pm_blk hK zmm118 [] 1 71 [(2, 96), (2, 2)] [(0, 1)] μ13 [] rfl trivial ?_
        have q3 : ∀ q ∈ zRq, μ13 q.1 (q.2 : Int) = μc9 q.1 (q.2 : Int) := fun q hq => by rw [eμ13]; exact pm_upq (k := 2) (i := 2) rfl ((show ∀ q ∈ zRq, q ≠ (2, 2) by decide) q hq)
        exact pm_zret rfl rfl (by first | exact Or.inl rfl | exact Or.inr rfl | omega) ⟨_, rfl, ⟨by omega, by omega⟩, hTμ13, zKC_back (n := 2) (by decide) (hk3.symm.trans d2) f92 (by omega) (fun q hq h2 h3 => (q2 q hq h3).trans (q1 q hq h2)) hk3 d3 hz q3 hk⟩
      · refine zp_aald hK zmm118 (r := 97) (q := 138) (k := 3) (g := zG97) (t := (2, 138, 0)) rfl rfl (by decide) hk3 rfl rfl rfl rfl ?_
        refine pm_call hK zmm118 (33, 0, 28, 1) zM28 (2, 101) [(2, 3), (2, 138)] [] rfl rfl rfl rfl ⟨by omega, by rw [zn28]; omega⟩ (zh_ac3_138 hK hw hC133 hs133 hC134 hs134 hC135 hs135 hC136 hs136 hC137 hs137 hC138 hs138 hC139 hs139 hC140 hs140 hC141 hs141 hC142 hs142 hC143 hs143 hC144 hs144 hTμ10 hb3 ⟨Nat.le_refl _, Nat.le_refl _⟩) (fun st10 μc10 hp10 => ?_)
        obtain ⟨rfl, hTc10, hz10⟩ := hp10
        have hz := hz10
        have f25 := zT_get hTc10 zs96_2 (i := 2) (by omega) (by omega)
        have f26 := zT_get hTc10 zs98_0 (i := μc10 96 2) (by omega) (by omega)
        refine pm_blk hK zmm118 [] 7 70 [(2, 96), (2, 2)] [] (pm_up μc10 2 2 (μc10 98 (μc10 96 2))) [0 ≤ μc10 96 2 ∧ μc10 96 2 < 6, sx_bit Wm 2 = true] rfl ⟨⟨by omega, by omega⟩, hb2, trivial⟩ ?_
        obtain ⟨μ14, eμ14⟩ : ∃ μ', μ' = pm_up μc10 2 2 (μc10 98 (μc10 96 2)) := ⟨_, rfl⟩
        rw [← eμ14]
        have hTμ14 : zTJ none μ14 := by rw [eμ14]; exact zT_upn hTc10 zs2_2 rfl (i := 2) (by omega) (by omega) (by omega) (by omega)
        refine pm_blk hK zmm118 [] 1 71 [(2, 96), (2, 2)] [(0, 1)] μ14 [] rfl trivial ?_
        have q3 : ∀ q ∈ zRq, μ14 q.1 (q.2 : Int) = μc10 q.1 (q.2 : Int) := fun q hq => by rw [eμ14]; exact pm_upq (k := 2) (i := 2) rfl ((show ∀ q ∈ zRq, q ≠ (2, 2) by decide) q hq)
        exact pm_zret rfl rfl (by first | exact Or.inl rfl | exact Or.inr rfl | omega) ⟨_, rfl, ⟨by omega, by omega⟩, hTμ14, zKC_back (n := 3) (by decide) (hk3.symm.trans d2) f92 (by omega) (fun q hq h2 h3 => (q2 q hq h3).trans (q1 q hq h2)) hk3 d3 hz q3 hk⟩
      · refine zp_aald hK zmm118 (r := 97) (q := 151) (k := 4) (g := zG97) (t := (2, 151, 0)) rfl rfl (by decide) hk3 rfl rfl rfl rfl ?_
        refine pm_call hK zmm118 (33, 0, 28, 1) zM28 (2, 101) [(2, 3), (2, 151)] [] rfl rfl rfl rfl ⟨by omega, by rw [zn28]; omega⟩ (zh_ac3_151 hK hw hC146 hs146 hC147 hs147 hC148 hs148 hC149 hs149 hC150 hs150 hC151 hs151 hC152 hs152 hC153 hs153 hC154 hs154 hC155 hs155 hC156 hs156 hC157 hs157 hTμ10 hb3 ⟨Nat.le_refl _, Nat.le_refl _⟩) (fun st11 μc11 hp11 => ?_)
        obtain ⟨rfl, hTc11, hz11⟩ := hp11
        have hz := hz11
        have f27 := zT_get hTc11 zs96_2 (i := 2) (by omega) (by omega)
        have f28 := zT_get hTc11 zs98_0 (i := μc11 96 2) (by omega) (by omega)
        refine pm_blk hK zmm118 [] 7 70 [(2, 96), (2, 2)] [] (pm_up μc11 2 2 (μc11 98 (μc11 96 2))) [0 ≤ μc11 96 2 ∧ μc11 96 2 < 6, sx_bit Wm 2 = true] rfl ⟨⟨by omega, by omega⟩, hb2, trivial⟩ ?_
        obtain ⟨μ15, eμ15⟩ : ∃ μ', μ' = pm_up μc11 2 2 (μc11 98 (μc11 96 2)) := ⟨_, rfl⟩
        rw [← eμ15]
        have hTμ15 : zTJ none μ15 := by rw [eμ15]; exact zT_upn hTc11 zs2_2 rfl (i := 2) (by omega) (by omega) (by omega) (by omega)
        refine pm_blk hK zmm118 [] 1 71 [(2, 96), (2, 2)] [(0, 1)] μ15 [] rfl trivial ?_
        have q3 : ∀ q ∈ zRq, μ15 q.1 (q.2 : Int) = μc11 q.1 (q.2 : Int) := fun q hq => by rw [eμ15]; exact pm_upq (k := 2) (i := 2) rfl ((show ∀ q ∈ zRq, q ≠ (2, 2) by decide) q hq)
        exact pm_zret rfl rfl (by first | exact Or.inl rfl | exact Or.inr rfl | omega) ⟨_, rfl, ⟨by omega, by omega⟩, hTμ15, zKC_back (n := 4) (by decide) (hk3.symm.trans d2) f92 (by omega) (fun q hq h2 h3 => (q2 q hq h3).trans (q1 q hq h2)) hk3 d3 hz q3 hk⟩
      · refine zp_aald hK zmm118 (r := 97) (q := 164) (k := 5) (g := zG97) (t := (2, 164, 0)) rfl rfl (by decide) hk3 rfl rfl rfl rfl ?_
        refine pm_call hK zmm118 (33, 0, 28, 1) zM28 (2, 101) [(2, 3), (2, 164)] [] rfl rfl rfl rfl ⟨by omega, by rw [zn28]; omega⟩ (zh_ac3_164 hK hw hC159 hs159 hC160 hs160 hC161 hs161 hC162 hs162 hC163 hs163 hC164 hs164 hC165 hs165 hC166 hs166 hC167 hs167 hC168 hs168 hC169 hs169 hC170 hs170 hTμ10 hb3 ⟨Nat.le_refl _, Nat.le_refl _⟩) (fun st12 μc12 hp12 => ?_)
        obtain ⟨rfl, hTc12, hz12⟩ := hp12
        have hz := hz12
        have f29 := zT_get hTc12 zs96_2 (i := 2) (by omega) (by omega)
        have f30 := zT_get hTc12 zs98_0 (i := μc12 96 2) (by omega) (by omega)
        refine pm_blk hK zmm118 [] 7 70 [(2, 96), (2, 2)] [] (pm_up μc12 2 2 (μc12 98 (μc12 96 2))) [0 ≤ μc12 96 2 ∧ μc12 96 2 < 6, sx_bit Wm 2 = true] rfl ⟨⟨by omega, by omega⟩, hb2, trivial⟩ ?_
        obtain ⟨μ16, eμ16⟩ : ∃ μ', μ' = pm_up μc12 2 2 (μc12 98 (μc12 96 2)) := ⟨_, rfl⟩
        rw [← eμ16]
        have hTμ16 : zTJ none μ16 := by rw [eμ16]; exact zT_upn hTc12 zs2_2 rfl (i := 2) (by omega) (by omega) (by omega) (by omega)
        refine pm_blk hK zmm118 [] 1 71 [(2, 96), (2, 2)] [(0, 1)] μ16 [] rfl trivial ?_
        have q3 : ∀ q ∈ zRq, μ16 q.1 (q.2 : Int) = μc12 q.1 (q.2 : Int) := fun q hq => by rw [eμ16]; exact pm_upq (k := 2) (i := 2) rfl ((show ∀ q ∈ zRq, q ≠ (2, 2) by decide) q hq)
        exact pm_zret rfl rfl (by first | exact Or.inl rfl | exact Or.inr rfl | omega) ⟨_, rfl, ⟨by omega, by omega⟩, hTμ16, zKC_back (n := 5) (by decide) (hk3.symm.trans d2) f92 (by omega) (fun q hq h2 h3 => (q2 q hq h3).trans (q1 q hq h2)) hk3 d3 hz q3 hk⟩
  · have h0 : μ 96 3 < (1 : Int) := h0
    refine pm_blk hK zmm118 [] 1 9 [(2, 96), (2, 2)] [(0, 0)] μ [] rfl trivial ?_
    exact pm_zret rfl rfl (by first | exact Or.inl rfl | exact Or.inr rfl | omega) ⟨_, rfl, ⟨by omega, by omega⟩, hT, zKC_refl⟩
set_option maxRecDepth 100000 in
theorem zh_undok (hK : zKK ST) (hw : sx_Wd zNR zRT2 B0 Sg) (hC107 : zCK none D ST B0 l Sg zC107) (hs107 : sx_subm zC107.2.2.2.2.2 Wm = true) (hC108 : zCK none D ST B0 l Sg zC108) (hs108 : sx_subm zC108.2.2.2.2.2 Wm = true) (hC109 : zCK none D ST B0 l Sg zC109) (hs109 : sx_subm zC109.2.2.2.2.2 Wm = true) (hC110 : zCK none D ST B0 l Sg zC110) (hs110 : sx_subm zC110.2.2.2.2.2 Wm = true) (hC111 : zCK none D ST B0 l Sg zC111) (hs111 : sx_subm zC111.2.2.2.2.2 Wm = true) (hC112 : zCK none D ST B0 l Sg zC112) (hs112 : sx_subm zC112.2.2.2.2.2 Wm = true) (hC113 : zCK none D ST B0 l Sg zC113) (hs113 : sx_subm zC113.2.2.2.2.2 Wm = true) (hC114 : zCK none D ST B0 l Sg zC114) (hs114 : sx_subm zC114.2.2.2.2.2 Wm = true) (hC115 : zCK none D ST B0 l Sg zC115) (hs115 : sx_subm zC115.2.2.2.2.2 Wm = true) (hC116 : zCK none D ST B0 l Sg zC116) (hs116 : sx_subm zC116.2.2.2.2.2 Wm = true) (hC117 : zCK none D ST B0 l Sg zC117) (hs117 : sx_subm zC117.2.2.2.2.2 Wm = true) (hC118 : zCK none D ST B0 l Sg zC118) (hs118 : sx_subm zC118.2.2.2.2.2 Wm = true) (hC120 : zCK none D ST B0 l Sg zC120) (hs120 : sx_subm zC120.2.2.2.2.2 Wm = true) (hC121 : zCK none D ST B0 l Sg zC121) (hs121 : sx_subm zC121.2.2.2.2.2 Wm = true) (hC122 : zCK none D ST B0 l Sg zC122) (hs122 : sx_subm zC122.2.2.2.2.2 Wm = true) (hC123 : zCK none D ST B0 l Sg zC123) (hs123 : sx_subm zC123.2.2.2.2.2 Wm = true) (hC124 : zCK none D ST B0 l Sg zC124) (hs124 : sx_subm zC124.2.2.2.2.2 Wm = true) (hC125 : zCK none D ST B0 l Sg zC125) (hs125 : sx_subm zC125.2.2.2.2.2 Wm = true) (hC126 : zCK none D ST B0 l Sg zC126) (hs126 : sx_subm zC126.2.2.2.2.2 Wm = true) (hC127 : zCK none D ST B0 l Sg zC127) (hs127 : sx_subm zC127.2.2.2.2.2 Wm = true) (hC128 : zCK none D ST B0 l Sg zC128) (hs128 : sx_subm zC128.2.2.2.2.2 Wm = true) (hC129 : zCK none D ST B0 l Sg zC129) (hs129 : sx_subm zC129.2.2.2.2.2 Wm = true) (hC130 : zCK none D ST B0 l Sg zC130) (hs130 : sx_subm zC130.2.2.2.2.2 Wm = true) (hC131 : zCK none D ST B0 l Sg zC131) (hs131 : sx_subm zC131.2.2.2.2.2 Wm = true) (hC133 : zCK none D ST B0 l Sg zC133) (hs133 : sx_subm zC133.2.2.2.2.2 Wm = true) (hC134 : zCK none D ST B0 l Sg zC134) (hs134 : sx_subm zC134.2.2.2.2.2 Wm = true) (hC135 : zCK none D ST B0 l Sg zC135) (hs135 : sx_subm zC135.2.2.2.2.2 Wm = true) (hC136 : zCK none D ST B0 l Sg zC136) (hs136 : sx_subm zC136.2.2.2.2.2 Wm = true) (hC137 : zCK none D ST B0 l Sg zC137) (hs137 : sx_subm zC137.2.2.2.2.2 Wm = true) (hC138 : zCK none D ST B0 l Sg zC138) (hs138 : sx_subm zC138.2.2.2.2.2 Wm = true) (hC139 : zCK none D ST B0 l Sg zC139) (hs139 : sx_subm zC139.2.2.2.2.2 Wm = true) (hC140 : zCK none D ST B0 l Sg zC140) (hs140 : sx_subm zC140.2.2.2.2.2 Wm = true) (hC141 : zCK none D ST B0 l Sg zC141) (hs141 : sx_subm zC141.2.2.2.2.2 Wm = true) (hC142 : zCK none D ST B0 l Sg zC142) (hs142 : sx_subm zC142.2.2.2.2.2 Wm = true) (hC143 : zCK none D ST B0 l Sg zC143) (hs143 : sx_subm zC143.2.2.2.2.2 Wm = true) (hC144 : zCK none D ST B0 l Sg zC144) (hs144 : sx_subm zC144.2.2.2.2.2 Wm = true) (hC146 : zCK none D ST B0 l Sg zC146) (hs146 : sx_subm zC146.2.2.2.2.2 Wm = true) (hC147 : zCK none D ST B0 l Sg zC147) (hs147 : sx_subm zC147.2.2.2.2.2 Wm = true) (hC148 : zCK none D ST B0 l Sg zC148) (hs148 : sx_subm zC148.2.2.2.2.2 Wm = true) (hC149 : zCK none D ST B0 l Sg zC149) (hs149 : sx_subm zC149.2.2.2.2.2 Wm = true) (hC150 : zCK none D ST B0 l Sg zC150) (hs150 : sx_subm zC150.2.2.2.2.2 Wm = true) (hC151 : zCK none D ST B0 l Sg zC151) (hs151 : sx_subm zC151.2.2.2.2.2 Wm = true) (hC152 : zCK none D ST B0 l Sg zC152) (hs152 : sx_subm zC152.2.2.2.2.2 Wm = true) (hC153 : zCK none D ST B0 l Sg zC153) (hs153 : sx_subm zC153.2.2.2.2.2 Wm = true) (hC154 : zCK none D ST B0 l Sg zC154) (hs154 : sx_subm zC154.2.2.2.2.2 Wm = true) (hC155 : zCK none D ST B0 l Sg zC155) (hs155 : sx_subm zC155.2.2.2.2.2 Wm = true) (hC156 : zCK none D ST B0 l Sg zC156) (hs156 : sx_subm zC156.2.2.2.2.2 Wm = true) (hC157 : zCK none D ST B0 l Sg zC157) (hs157 : sx_subm zC157.2.2.2.2.2 Wm = true) (hC159 : zCK none D ST B0 l Sg zC159) (hs159 : sx_subm zC159.2.2.2.2.2 Wm = true) (hC160 : zCK none D ST B0 l Sg zC160) (hs160 : sx_subm zC160.2.2.2.2.2 Wm = true) (hC161 : zCK none D ST B0 l Sg zC161) (hs161 : sx_subm zC161.2.2.2.2.2 Wm = true) (hC162 : zCK none D ST B0 l Sg zC162) (hs162 : sx_subm zC162.2.2.2.2.2 Wm = true) (hC163 : zCK none D ST B0 l Sg zC163) (hs163 : sx_subm zC163.2.2.2.2.2 Wm = true) (hC164 : zCK none D ST B0 l Sg zC164) (hs164 : sx_subm zC164.2.2.2.2.2 Wm = true) (hC165 : zCK none D ST B0 l Sg zC165) (hs165 : sx_subm zC165.2.2.2.2.2 Wm = true) (hC166 : zCK none D ST B0 l Sg zC166) (hs166 : sx_subm zC166.2.2.2.2.2 Wm = true) (hC167 : zCK none D ST B0 l Sg zC167) (hs167 : sx_subm zC167.2.2.2.2.2 Wm = true) (hC168 : zCK none D ST B0 l Sg zC168) (hs168 : sx_subm zC168.2.2.2.2.2 Wm = true) (hC169 : zCK none D ST B0 l Sg zC169) (hs169 : sx_subm zC169.2.2.2.2.2 Wm = true) (hC170 : zCK none D ST B0 l Sg zC170) (hs170 : sx_subm zC170.2.2.2.2.2 Wm = true) (hC185 : zCK none D ST B0 l Sg zC185) (hs185 : sx_subm zC185.2.2.2.2.2 Wm = true) (hC186 : zCK none D ST B0 l Sg zC186) (hs186 : sx_subm zC186.2.2.2.2.2 Wm = true) (hC187 : zCK none D ST B0 l Sg zC187) (hs187 : sx_subm zC187.2.2.2.2.2 Wm = true) (hC188 : zCK none D ST B0 l Sg zC188) (hs188 : sx_subm zC188.2.2.2.2.2 Wm = true) (hC189 : zCK none D ST B0 l Sg zC189) (hs189 : sx_subm zC189.2.2.2.2.2 Wm = true) (hC190 : zCK none D ST B0 l Sg zC190) (hs190 : sx_subm zC190.2.2.2.2.2 Wm = true) (hC191 : zCK none D ST B0 l Sg zC191) (hs191 : sx_subm zC191.2.2.2.2.2 Wm = true) (hC192 : zCK none D ST B0 l Sg zC192) (hs192 : sx_subm zC192.2.2.2.2.2 Wm = true) (hC193 : zCK none D ST B0 l Sg zC193) (hs193 : sx_subm zC193.2.2.2.2.2 Wm = true) (hC194 : zCK none D ST B0 l Sg zC194) (hs194 : sx_subm zC194.2.2.2.2.2 Wm = true) (hC195 : zCK none D ST B0 l Sg zC195) (hs195 : sx_subm zC195.2.2.2.2.2 Wm = true) (hC196 : zCK none D ST B0 l Sg zC196) (hs196 : sx_subm zC196.2.2.2.2.2 Wm = true) (hT : zTJ none μ) (hk : zKw μ) (hb2 : sx_bit Wm 2 = true) (hb3 : sx_bit Wm 3 = true) (hb96 : sx_bit Wm 96 = true) (hbd : 4 ≤ bud.1 ∧ 146 ≤ bud.2.1) : zC D Wm ST (sx_bW zRT2 Wm B0 Sg, J) l Sg zM117 bud [(2, 1)] μ (fun st' μ' => ∃ x, st' = [(0, x)] ∧ zTJ none μ' ∧ zKC μ μ') := by
  refine pm_blk hK zmm117 [] 4 8 [(2, 1)] [(2, 2), (2, 96)] μ [] rfl trivial ?_
  refine pm_call hK zmm117 (404, 0, 118, 1) zM118 (3, 122) [(2, 96), (2, 2)] [] rfl rfl rfl rfl ⟨by omega, by rw [zn118]; omega⟩ (zh_back hK hw hC107 hs107 hC108 hs108 hC109 hs109 hC110 hs110 hC111 hs111 hC112 hs112 hC113 hs113 hC114 hs114 hC115 hs115 hC116 hs116 hC117 hs117 hC118 hs118 hC120 hs120 hC121 hs121 hC122 hs122 hC123 hs123 hC124 hs124 hC125 hs125 hC126 hs126 hC127 hs127 hC128 hs128 hC129 hs129 hC130 hs130 hC131 hs131 hC133 hs133 hC134 hs134 hC135 hs135 hC136 hs136 hC137 hs137 hC138 hs138 hC139 hs139 hC140 hs140 hC141 hs141 hC142 hs142 hC143 hs143 hC144 hs144 hC146 hs146 hC147 hs147 hC148 hs148 hC149 hs149 hC150 hs150 hC151 hs151 hC152 hs152 hC153 hs153 hC154 hs154 hC155 hs155 hC156 hs156 hC157 hs157 hC159 hs159 hC160 hs160 hC161 hs161 hC162 hs162 hC163 hs163 hC164 hs164 hC165 hs165 hC166 hs166 hC167 hs167 hC168 hs168 hC169 hs169 hC170 hs170 hC185 hs185 hC186 hs186 hC187 hs187 hC188 hs188 hC189 hs189 hC190 hs190 hC191 hs191 hC192 hs192 hC193 hs193 hC194 hs194 hC195 hs195 hC196 hs196 hT hk hb2 hb3 hb96 ⟨Nat.le_refl _, Nat.le_refl _⟩) (fun st1 μc1 hp1 => ?_)
  obtain ⟨x1, rfl, hx1, hTc1, hA1⟩ := hp1
  exact pm_zret rfl rfl (by first | exact Or.inl rfl | exact Or.inr rfl | omega) ⟨_, rfl, hTc1, hA1⟩
set_option maxRecDepth 100000 in
theorem zh_adSh (hK : zKK ST) {g p : Int} (hT : zTJ none μ) (hg : 0 ≤ g ∧ g ≤ 99) (hp : 1 ≤ p ∧ p ≤ 99) (hb3 : sx_bit Wm 3 = true) (hb4 : sx_bit Wm 4 = true) (hb5 : sx_bit Wm 5 = true) (hb6 : sx_bit Wm 6 = true) (hb7 : sx_bit Wm 7 = true) (hb8 : sx_bit Wm 8 = true) (hb9 : sx_bit Wm 9 = true) (hb10 : sx_bit Wm 10 = true) (hbd : 1 ≤ bud.1 ∧ 23 ≤ bud.2.1) : zC D Wm ST b0 l Sg zM17 bud [(2, 3), (0, g), (0, p)] μ (fun st' μ' => ∃ x, st' = [(0, x)] ∧ zTJ none μ' ∧ ((x = -1 ∧ 12 ≤ μ 3 0 ∧ μ' = μ) ∨ (x = μ 3 0 ∧ μ 3 0 < 12 ∧ μ' 3 0 = μ 3 0 + 1 ∧ ∀ q ∈ zRo, q ≠ (3, 0) → μ' q.1 (q.2 : Int) = μ q.1 (q.2 : Int)))) := by
  have hA : zKC μ μ := zKC_refl
  have f30 := zT_get hT zs3_0 (i := 0) (by omega) (by omega)
  have f1 := zT_get hT zs3_0 (i := 0) (by omega) (by omega)
  refine pm_blk hK zmm17 [] 4 7 [(2, 3), (0, g), (0, p), (9, 0)] [(0, 11), (0, 0), (0, μ 3 0)] μ [] rfl trivial ?_
  refine pm_call hK zmm17 (64, 1, 16, 3) zM16 (0, 0) [(0, μ 3 0), (0, 0), (0, 11)] [] rfl rfl rfl rfl ⟨by omega, by rw [zn16]; omega⟩ (zh_within hK ⟨Nat.le_refl _, Nat.le_refl _⟩) (fun st1 μc1 hp1 => ?_)
  obtain ⟨rfl, rfl⟩ := hp1
  refine pm_if hK zmm17 .ne 5 15 rfl rfl (fun h0 => ?_) (fun h0 => ?_)
  · have h0 : (if 0 ≤ (μ 3 0) ∧ (μ 3 0) ≤ 11 then 1 else 0 : Int) ≠ (0 : Int) := h0
    have h0 := zif1 h0
    refine pm_blk hK zmm17 [] 8 27 [(2, 3), (0, g), (0, p), (0, μ 3 0)] [] (pm_up μ 4 (μ 3 0) g) [sx_bit Wm 4 = true, 0 ≤ μ 3 0 ∧ μ 3 0 < 12] rfl ⟨hb4, ⟨by omega, by omega⟩, trivial⟩ ?_
    obtain ⟨μ1, eμ1⟩ : ∃ μ', μ' = pm_up μ 4 (μ 3 0) g := ⟨_, rfl⟩
    rw [← eμ1]
    have hTμ1 : zTJ none μ1 := by rw [eμ1]; exact zT_upn hT zs4_0 rfl (i := μ 3 0) (by omega) (by omega) (by omega) (by omega)
    have hA : zKC μ μ1 := by rw [eμ1]; exact zKC_up hA (by decide)
    refine pm_blk hK zmm17 [] 5 34 [(2, 3), (0, g), (0, p), (0, μ 3 0)] [] (pm_up μ1 5 (μ 3 0) p) [sx_bit Wm 5 = true, 0 ≤ μ 3 0 ∧ μ 3 0 < 12] rfl ⟨hb5, ⟨by omega, by omega⟩, trivial⟩ ?_
    obtain ⟨μ2, eμ2⟩ : ∃ μ', μ' = pm_up μ1 5 (μ 3 0) p := ⟨_, rfl⟩
    rw [← eμ2]
    have hTμ2 : zTJ none μ2 := by rw [eμ2]; exact zT_upn hTμ1 zs5_0 rfl (i := μ 3 0) (by omega) (by omega) (by omega) (by omega)
    have hA : zKC μ μ2 := by rw [eμ2]; exact zKC_up hA (by decide)
    refine pm_blk hK zmm17 [] 5 41 [(2, 3), (0, g), (0, p), (0, μ 3 0)] [] (pm_up μ2 6 (μ 3 0) 0) [sx_bit Wm 6 = true, 0 ≤ μ 3 0 ∧ μ 3 0 < 12] rfl ⟨hb6, ⟨by omega, by omega⟩, trivial⟩ ?_
    obtain ⟨μ3, eμ3⟩ : ∃ μ', μ' = pm_up μ2 6 (μ 3 0) 0 := ⟨_, rfl⟩
    rw [← eμ3]
    have hTμ3 : zTJ none μ3 := by rw [eμ3]; exact zT_upn hTμ2 zs6_0 rfl (i := μ 3 0) (by omega) (by omega) (by omega) (by omega)
    have hA : zKC μ μ3 := by rw [eμ3]; exact zKC_up hA (by decide)
    refine pm_blk hK zmm17 [] 5 48 [(2, 3), (0, g), (0, p), (0, μ 3 0)] [] (pm_up μ3 10 (μ 3 0) 0) [sx_bit Wm 10 = true, 0 ≤ μ 3 0 ∧ μ 3 0 < 12] rfl ⟨hb10, ⟨by omega, by omega⟩, trivial⟩ ?_
    obtain ⟨μ4, eμ4⟩ : ∃ μ', μ' = pm_up μ3 10 (μ 3 0) 0 := ⟨_, rfl⟩
    rw [← eμ4]
    have hTμ4 : zTJ none μ4 := by rw [eμ4]; exact zT_upn hTμ3 zs10_0 rfl (i := μ 3 0) (by omega) (by omega) (by omega) (by omega)
    have hA : zKC μ μ4 := by rw [eμ4]; exact zKC_up hA (by decide)
    refine pm_blk hK zmm17 [] 2 50 [(2, 3), (0, g), (0, p), (0, μ 3 0)] [(0, μ 3 0), (2, 3)] μ4 [] rfl trivial ?_
    refine pm_call hK zmm17 (68, 0, 18, 1) zM18 (0, 0) [(2, 3), (0, μ 3 0)] [] rfl rfl rfl rfl ⟨by omega, by rw [zn18]; omega⟩ (zh_opk hK (s := (μ 3 0)) hTμ4 ⟨by omega, by omega⟩ hb7 hb8 hb9 ⟨Nat.le_refl _, Nat.le_refl _⟩) (fun st2 μc2 hp2 => ?_)
    obtain ⟨rfl, hTc2, hA2⟩ := hp2
    have hA := zKC_tr hA hA2
    have e0 : μc2 3 0 = μ 3 0 := hA.1 (3, 0) (by decide)
    have f2 := zT_get hTc2 zs3_0 (i := 0) (by omega) (by omega)
    refine pm_blk hK zmm17 [] 6 63 [(2, 3), (0, g), (0, p), (0, μ 3 0)] [] (pm_up μc2 3 0 ((μc2 3 0) + 1)) [pm_in ((μc2 3 0) + 1), sx_bit Wm 3 = true] rfl ⟨pm_in_mk (by omega) (by omega), hb3, trivial⟩ ?_
    obtain ⟨μ5, eμ5⟩ : ∃ μ', μ' = pm_up μc2 3 0 ((μc2 3 0) + 1) := ⟨_, rfl⟩
    rw [← eμ5]
    have hTμ5 : zTJ none μ5 := by rw [eμ5]; exact zT_upn hTc2 zs3_0 rfl (i := 0) (by omega) (by omega) (by omega) (by omega)
    refine pm_blk hK zmm17 [] 1 64 [(2, 3), (0, g), (0, p), (0, μ 3 0)] [(0, μ 3 0)] μ5 [] rfl trivial ?_
    exact pm_iret rfl rfl ⟨_, rfl, hTμ5, Or.inr ⟨rfl, by omega, by rw [eμ5, pm_up_eq, e0], fun q hq hne => by rw [eμ5]; exact (pm_upq (k := 0) (i := 0) rfl hne).trans (hA.1 q hq)⟩⟩
  · have h0 : (if 0 ≤ (μ 3 0) ∧ (μ 3 0) ≤ 11 then 1 else 0 : Int) = (0 : Int) := h0
    have h0 := zif0 h0
    refine pm_blk hK zmm17 [] 1 14 [(2, 3), (0, g), (0, p), (9, 0)] [(0, (-1))] μ [] rfl trivial ?_
    exact pm_iret rfl rfl ⟨_, rfl, hT, Or.inl ⟨rfl, by omega, rfl⟩⟩
set_option maxRecDepth 100000 in
theorem zh_adCu (hK : zKK ST) {g p : Int} (hT : zTJ none μ) (hg : 0 ≤ g ∧ g ≤ 9999) (hp : 0 ≤ p ∧ p ≤ 9) (hb3 : sx_bit Wm 3 = true) (hb11 : sx_bit Wm 11 = true) (hb12 : sx_bit Wm 12 = true) (hb13 : sx_bit Wm 13 = true) (hb14 : sx_bit Wm 14 = true) (hb15 : sx_bit Wm 15 = true) (hbd : 1 ≤ bud.1 ∧ 23 ≤ bud.2.1) : zC D Wm ST b0 l Sg zM20 bud [(2, 3), (0, g), (0, p)] μ (fun st' μ' => ∃ x, st' = [(0, x)] ∧ zTJ none μ' ∧ ((x = -1 ∧ 18 ≤ μ 3 1 ∧ μ' = μ) ∨ (x = μ 3 1 ∧ μ 3 1 < 18 ∧ μ' 3 1 = μ 3 1 + 1 ∧ ∀ q ∈ zRo, q ≠ (3, 1) → μ' q.1 (q.2 : Int) = μ q.1 (q.2 : Int)))) := by
  have hA : zKC μ μ := zKC_refl
  have f31 := zT_get hT zs3_1 (i := 1) (by omega) (by omega)
  have f1 := zT_get hT zs3_1 (i := 1) (by omega) (by omega)
  refine pm_blk hK zmm20 [] 4 7 [(2, 3), (0, g), (0, p), (9, 0)] [(0, 17), (0, 0), (0, μ 3 1)] μ [] rfl trivial ?_
  refine pm_call hK zmm20 (64, 1, 16, 3) zM16 (0, 0) [(0, μ 3 1), (0, 0), (0, 17)] [] rfl rfl rfl rfl ⟨by omega, by rw [zn16]; omega⟩ (zh_within hK ⟨Nat.le_refl _, Nat.le_refl _⟩) (fun st1 μc1 hp1 => ?_)
  obtain ⟨rfl, rfl⟩ := hp1
  refine pm_if hK zmm20 .ne 5 15 rfl rfl (fun h0 => ?_) (fun h0 => ?_)
  · have h0 : (if 0 ≤ (μ 3 1) ∧ (μ 3 1) ≤ 17 then 1 else 0 : Int) ≠ (0 : Int) := h0
    have h0 := zif1 h0
    refine pm_blk hK zmm20 [] 8 27 [(2, 3), (0, g), (0, p), (0, μ 3 1)] [] (pm_up μ 11 (μ 3 1) g) [sx_bit Wm 11 = true, 0 ≤ μ 3 1 ∧ μ 3 1 < 18] rfl ⟨hb11, ⟨by omega, by omega⟩, trivial⟩ ?_
    obtain ⟨μ1, eμ1⟩ : ∃ μ', μ' = pm_up μ 11 (μ 3 1) g := ⟨_, rfl⟩
    rw [← eμ1]
    have hTμ1 : zTJ none μ1 := by rw [eμ1]; exact zT_upn hT zs11_0 rfl (i := μ 3 1) (by omega) (by omega) (by omega) (by omega)
    have hA : zKC μ μ1 := by rw [eμ1]; exact zKC_up hA (by decide)
    refine pm_blk hK zmm20 [] 5 34 [(2, 3), (0, g), (0, p), (0, μ 3 1)] [] (pm_up μ1 12 (μ 3 1) p) [sx_bit Wm 12 = true, 0 ≤ μ 3 1 ∧ μ 3 1 < 18] rfl ⟨hb12, ⟨by omega, by omega⟩, trivial⟩ ?_
    obtain ⟨μ2, eμ2⟩ : ∃ μ', μ' = pm_up μ1 12 (μ 3 1) p := ⟨_, rfl⟩
    rw [← eμ2]
    have hTμ2 : zTJ none μ2 := by rw [eμ2]; exact zT_upn hTμ1 zs12_0 rfl (i := μ 3 1) (by omega) (by omega) (by omega) (by omega)
    have hA : zKC μ μ2 := by rw [eμ2]; exact zKC_up hA (by decide)
    refine pm_blk hK zmm20 [] 5 41 [(2, 3), (0, g), (0, p), (0, μ 3 1)] [] (pm_up μ2 13 (μ 3 1) ((-1))) [sx_bit Wm 13 = true, 0 ≤ μ 3 1 ∧ μ 3 1 < 18] rfl ⟨hb13, ⟨by omega, by omega⟩, trivial⟩ ?_
    obtain ⟨μ3, eμ3⟩ : ∃ μ', μ' = pm_up μ2 13 (μ 3 1) ((-1)) := ⟨_, rfl⟩
    rw [← eμ3]
    have hTμ3 : zTJ none μ3 := by rw [eμ3]; exact zT_upn hTμ2 zs13_0 rfl (i := μ 3 1) (by omega) (by omega) (by omega) (by omega)
    have hA : zKC μ μ3 := by rw [eμ3]; exact zKC_up hA (by decide)
    refine pm_blk hK zmm20 [] 5 48 [(2, 3), (0, g), (0, p), (0, μ 3 1)] [] (pm_up μ3 14 (μ 3 1) 0) [sx_bit Wm 14 = true, 0 ≤ μ 3 1 ∧ μ 3 1 < 18] rfl ⟨hb14, ⟨by omega, by omega⟩, trivial⟩ ?_
    obtain ⟨μ4, eμ4⟩ : ∃ μ', μ' = pm_up μ3 14 (μ 3 1) 0 := ⟨_, rfl⟩
    rw [← eμ4]
    have hTμ4 : zTJ none μ4 := by rw [eμ4]; exact zT_upn hTμ3 zs14_0 rfl (i := μ 3 1) (by omega) (by omega) (by omega) (by omega)
    have hA : zKC μ μ4 := by rw [eμ4]; exact zKC_up hA (by decide)
    refine pm_blk hK zmm20 [] 5 55 [(2, 3), (0, g), (0, p), (0, μ 3 1)] [] (pm_up μ4 15 (μ 3 1) 0) [sx_bit Wm 15 = true, 0 ≤ μ 3 1 ∧ μ 3 1 < 18] rfl ⟨hb15, ⟨by omega, by omega⟩, trivial⟩ ?_
    obtain ⟨μ5, eμ5⟩ : ∃ μ', μ' = pm_up μ4 15 (μ 3 1) 0 := ⟨_, rfl⟩
    rw [← eμ5]
    have hTμ5 : zTJ none μ5 := by rw [eμ5]; exact zT_upn hTμ4 zs15_0 rfl (i := μ 3 1) (by omega) (by omega) (by omega) (by omega)
    have hA : zKC μ μ5 := by rw [eμ5]; exact zKC_up hA (by decide)
    have e0 : μ5 3 1 = μ 3 1 := hA.1 (3, 1) (by decide)
    have g2 : μ5 3 1 = μ 3 1 := by rw [eμ5, pm_up_off (by decide), eμ4, pm_up_off (by decide), eμ3, pm_up_off (by decide), eμ2, pm_up_off (by decide), eμ1, pm_up_off (by decide)]
    have f3 := zT_get hTμ5 zs3_1 (i := 1) (by omega) (by omega)
    refine pm_blk hK zmm20 [] 6 65 [(2, 3), (0, g), (0, p), (0, μ 3 1)] [] (pm_up μ5 3 1 ((μ5 3 1) + 1)) [pm_in ((μ5 3 1) + 1), sx_bit Wm 3 = true] rfl ⟨pm_in_mk (by omega) (by omega), hb3, trivial⟩ ?_
    obtain ⟨μ6, eμ6⟩ : ∃ μ', μ' = pm_up μ5 3 1 ((μ5 3 1) + 1) := ⟨_, rfl⟩
    rw [← eμ6]
    have hTμ6 : zTJ none μ6 := by rw [eμ6]; exact zT_upn hTμ5 zs3_1 rfl (i := 1) (by omega) (by omega) (by omega) (by omega)
    refine pm_blk hK zmm20 [] 1 66 [(2, 3), (0, g), (0, p), (0, μ 3 1)] [(0, μ 3 1)] μ6 [] rfl trivial ?_
    exact pm_iret rfl rfl ⟨_, rfl, hTμ6, Or.inr ⟨rfl, by omega, by rw [eμ6, pm_up_eq, e0], fun q hq hne => by rw [eμ6]; exact (pm_upq (k := 1) (i := 1) rfl hne).trans (hA.1 q hq)⟩⟩
  · have h0 : (if 0 ≤ (μ 3 1) ∧ (μ 3 1) ≤ 17 then 1 else 0 : Int) = (0 : Int) := h0
    have h0 := zif0 h0
    refine pm_blk hK zmm20 [] 1 14 [(2, 3), (0, g), (0, p), (9, 0)] [(0, (-1))] μ [] rfl trivial ?_
    exact pm_iret rfl rfl ⟨_, rfl, hT, Or.inl ⟨rfl, by omega, rfl⟩⟩
set_option maxRecDepth 100000 in
theorem zh_shopk (hK : zKK ST) {g p : Int} (hT : zTJ none μ) (hb3 : sx_bit Wm 3 = true) (hb4 : sx_bit Wm 4 = true) (hb5 : sx_bit Wm 5 = true) (hb6 : sx_bit Wm 6 = true) (hb7 : sx_bit Wm 7 = true) (hb8 : sx_bit Wm 8 = true) (hb9 : sx_bit Wm 9 = true) (hb10 : sx_bit Wm 10 = true) (hb96 : sx_bit Wm 96 = true) (hbd : 2 ≤ bud.1 ∧ 50 ≤ bud.2.1) : zC D Wm ST b0 l Sg zM15 bud [(2, 1), (0, g), (0, p)] μ (fun st' μ' => st' = [(0, zSx g p (μ 3 0))] ∧ zTJ none μ' ∧ (∀ q ∈ zRo, q ≠ (3, 0) → μ' q.1 (q.2 : Int) = μ q.1 (q.2 : Int)) ∧ μ' 3 0 = zSc g p (μ 3 0) ∧ (zKw μ → zKw μ')) := by
  have f30 := zT_get hT zs3_0 (i := 0) (by omega) (by omega)
  have f31 := zT_get hT zs3_1 (i := 1) (by omega) (by omega)
  refine pm_blk hK zmm15 [] 3 4 [(2, 1), (0, g), (0, p), (9, 0)] [(0, 99), (0, 0), (0, g)] μ [] rfl trivial ?_
  refine pm_call hK zmm15 (94, 1, 16, 3) zM16 (0, 0) [(0, g), (0, 0), (0, 99)] [] rfl rfl rfl rfl ⟨by omega, by rw [zn16]; omega⟩ (zh_within hK ⟨Nat.le_refl _, Nat.le_refl _⟩) (fun st1 μc1 hp1 => ?_)
  obtain ⟨rfl, rfl⟩ := hp1
  refine pm_if hK zmm15 .eq 13 20 rfl rfl (fun h0 => ?_) (fun h0 => ?_)
  · have h0 : (if 0 ≤ g ∧ g ≤ 99 then 1 else 0 : Int) = (0 : Int) := h0
    have h0 := zif0 h0
    refine pm_blk hK zmm15 [] 1 21 [(2, 1), (0, g), (0, p), (9, 0)] [(0, (-1))] μ [] rfl trivial ?_
    have zn := zS_n (a := g) (b := p) (c := μ 3 0) (by omega)
    exact pm_iret rfl rfl ⟨by rw [zn.1], hT, fun _ _ _ => rfl, by rw [zn.2], fun h => h⟩
  · have h0 : (if 0 ≤ g ∧ g ≤ 99 then 1 else 0 : Int) ≠ (0 : Int) := h0
    have h0 := zif1 h0
    refine pm_blk hK zmm15 [] 3 14 [(2, 1), (0, g), (0, p), (9, 0)] [(0, 99), (0, 1), (0, p)] μ [] rfl trivial ?_
    refine pm_call hK zmm15 (94, 1, 16, 3) zM16 (0, 0) [(0, p), (0, 1), (0, 99)] [] rfl rfl rfl rfl ⟨by omega, by rw [zn16]; omega⟩ (zh_within hK ⟨Nat.le_refl _, Nat.le_refl _⟩) (fun st2 μc2 hp2 => ?_)
    obtain ⟨rfl, rfl⟩ := hp2
    refine pm_if hK zmm15 .ne 5 22 rfl rfl (fun h1 => ?_) (fun h1 => ?_)
    · have h1 : (if 1 ≤ p ∧ p ≤ 99 then 1 else 0 : Int) ≠ (0 : Int) := h1
      have h1 := zif1 h1
      refine pm_blk hK zmm15 [] 5 31 [(2, 1), (0, g), (0, p), (9, 0)] [(0, p), (0, g), (2, 3)] μ [] rfl trivial ?_
      refine pm_call hK zmm15 (98, 0, 17, 2) zM17 (1, 23) [(2, 3), (0, g), (0, p)] [] rfl rfl rfl rfl ⟨by omega, by rw [zn17]; omega⟩ (zh_adSh hK (g := g) (p := p) hT ⟨by omega, by omega⟩ ⟨by omega, by omega⟩ hb3 hb4 hb5 hb6 hb7 hb8 hb9 hb10 ⟨Nat.le_refl _, Nat.le_refl _⟩) (fun st3 μc3 hp3 => ?_)
      obtain ⟨x3, rfl, hTc3, hd3⟩ := hp3
      have hd := hd3
      refine pm_blk hK zmm15 [] 3 37 [(2, 1), (0, g), (0, p), (0, x3)] [(0, (-1)), (0, x3)] μc3 [] rfl trivial ?_
      refine pm_icmp hK zmm15 .eq 10 47 rfl rfl (fun h2 => ?_) (fun h2 => ?_)
      · have h2 : x3 = ((-1) : Int) := h2
        refine pm_blk hK zmm15 [] 1 48 [(2, 1), (0, g), (0, p), (0, x3)] [(0, x3)] μc3 [] rfl trivial ?_
        rcases hd with ⟨d1, d2, d3⟩ | ⟨d1, d2, d3, d4⟩
        · first
          | (exfalso; omega)
          | (have zn := zS_n (a := g) (b := p) (c := μ 3 0) (by omega); subst d3; exact pm_iret rfl rfl ⟨by rw [zn.1, d1], hTc3, fun _ _ _ => rfl, by rw [zn.2], fun h => h⟩)
        · first
          | (exfalso; omega)
          | (have zy := zS_y (a := g) (b := p) (c := μ 3 0) (by omega); exact pm_iret rfl rfl ⟨by rw [zy.1, d1], hTc3, fun q hq hne => by rw [ef]; exact (pm_upq (k := 3) (i := 3) rfl ((show ∀ q ∈ zRo, q ≠ (96, 3) by decide) q hq)).trans (d4 q hq hne), by rw [zy.2, ef, pm_up_off (by decide)]; exact d3, fun _ => zKw_0 (by rw [ef, pm_up_eq])⟩)
      · have h2 : x3 ≠ ((-1) : Int) := h2
        refine pm_blk hK zmm15 [] 2 44 [(2, 1), (0, g), (0, p), (0, x3)] [(2, 96)] μc3 [] rfl trivial ?_
        refine pm_call hK zmm15 (91, 0, 14, 0) zM14 (0, 0) [(2, 96)] [] rfl rfl rfl rfl ⟨by omega, by rw [zn14]; omega⟩ (zh_forgetk hK hTc3 hb96 ⟨Nat.le_refl _, Nat.le_refl _⟩) (fun st4 μc4 hp4 => ?_)
        obtain ⟨rfl, hTc4, ef4⟩ := hp4
        have ef := ef4
        refine pm_blk hK zmm15 [] 1 48 [(2, 1), (0, g), (0, p), (0, x3)] [(0, x3)] μc4 [] rfl trivial ?_
        rcases hd with ⟨d1, d2, d3⟩ | ⟨d1, d2, d3, d4⟩
        · first
          | (exfalso; omega)
          | (have zn := zS_n (a := g) (b := p) (c := μ 3 0) (by omega); subst d3; exact pm_iret rfl rfl ⟨by rw [zn.1, d1], hTc4, fun _ _ _ => rfl, by rw [zn.2], fun h => h⟩)
        · first
          | (exfalso; omega)
          | (have zy := zS_y (a := g) (b := p) (c := μ 3 0) (by omega); exact pm_iret rfl rfl ⟨by rw [zy.1, d1], hTc4, fun q hq hne => by rw [ef]; exact (pm_upq (k := 3) (i := 3) rfl ((show ∀ q ∈ zRo, q ≠ (96, 3) by decide) q hq)).trans (d4 q hq hne), by rw [zy.2, ef, pm_up_off (by decide)]; exact d3, fun _ => zKw_0 (by rw [ef, pm_up_eq])⟩)
    · have h1 : (if 1 ≤ p ∧ p ≤ 99 then 1 else 0 : Int) = (0 : Int) := h1
      have h1 := zif0 h1
      refine pm_blk hK zmm15 [] 1 21 [(2, 1), (0, g), (0, p), (9, 0)] [(0, (-1))] μ [] rfl trivial ?_
      have zn := zS_n (a := g) (b := p) (c := μ 3 0) (by omega)
      exact pm_iret rfl rfl ⟨by rw [zn.1], hT, fun _ _ _ => rfl, by rw [zn.2], fun h => h⟩
set_option maxRecDepth 100000 in
theorem zh_customerk (hK : zKK ST) {g p : Int} (hT : zTJ none μ) (hb3 : sx_bit Wm 3 = true) (hb11 : sx_bit Wm 11 = true) (hb12 : sx_bit Wm 12 = true) (hb13 : sx_bit Wm 13 = true) (hb14 : sx_bit Wm 14 = true) (hb15 : sx_bit Wm 15 = true) (hb96 : sx_bit Wm 96 = true) (hbd : 2 ≤ bud.1 ∧ 50 ≤ bud.2.1) : zC D Wm ST b0 l Sg zM19 bud [(2, 1), (0, g), (0, p)] μ (fun st' μ' => st' = [(0, zCx g p (μ 3 1))] ∧ zTJ none μ' ∧ (∀ q ∈ zRo, q ≠ (3, 1) → μ' q.1 (q.2 : Int) = μ q.1 (q.2 : Int)) ∧ μ' 3 1 = zCc g p (μ 3 1) ∧ (zKw μ → zKw μ')) := by
  have f30 := zT_get hT zs3_0 (i := 0) (by omega) (by omega)
  have f31 := zT_get hT zs3_1 (i := 1) (by omega) (by omega)
  refine pm_blk hK zmm19 [] 3 5 [(2, 1), (0, g), (0, p), (9, 0)] [(0, 9999), (0, 0), (0, g)] μ [] rfl trivial ?_
  refine pm_call hK zmm19 (94, 1, 16, 3) zM16 (0, 0) [(0, g), (0, 0), (0, 9999)] [] rfl rfl rfl rfl ⟨by omega, by rw [zn16]; omega⟩ (zh_within hK ⟨Nat.le_refl _, Nat.le_refl _⟩) (fun st1 μc1 hp1 => ?_)
  obtain ⟨rfl, rfl⟩ := hp1
  refine pm_if hK zmm19 .eq 13 21 rfl rfl (fun h0 => ?_) (fun h0 => ?_)
  · have h0 : (if 0 ≤ g ∧ g ≤ 9999 then 1 else 0 : Int) = (0 : Int) := h0
    have h0 := zif0 h0
    refine pm_blk hK zmm19 [] 1 22 [(2, 1), (0, g), (0, p), (9, 0)] [(0, (-1))] μ [] rfl trivial ?_
    have zn := zCu_n (a := g) (b := p) (c := μ 3 1) (by omega)
    exact pm_iret rfl rfl ⟨by rw [zn.1], hT, fun _ _ _ => rfl, by rw [zn.2], fun h => h⟩
  · have h0 : (if 0 ≤ g ∧ g ≤ 9999 then 1 else 0 : Int) ≠ (0 : Int) := h0
    have h0 := zif1 h0
    refine pm_blk hK zmm19 [] 3 15 [(2, 1), (0, g), (0, p), (9, 0)] [(0, 9), (0, 0), (0, p)] μ [] rfl trivial ?_
    refine pm_call hK zmm19 (94, 1, 16, 3) zM16 (0, 0) [(0, p), (0, 0), (0, 9)] [] rfl rfl rfl rfl ⟨by omega, by rw [zn16]; omega⟩ (zh_within hK ⟨Nat.le_refl _, Nat.le_refl _⟩) (fun st2 μc2 hp2 => ?_)
    obtain ⟨rfl, rfl⟩ := hp2
    refine pm_if hK zmm19 .ne 5 23 rfl rfl (fun h1 => ?_) (fun h1 => ?_)
    · have h1 : (if 0 ≤ p ∧ p ≤ 9 then 1 else 0 : Int) ≠ (0 : Int) := h1
      have h1 := zif1 h1
      refine pm_blk hK zmm19 [] 5 32 [(2, 1), (0, g), (0, p), (9, 0)] [(0, p), (0, g), (2, 3)] μ [] rfl trivial ?_
      refine pm_call hK zmm19 (102, 0, 20, 2) zM20 (1, 23) [(2, 3), (0, g), (0, p)] [] rfl rfl rfl rfl ⟨by omega, by rw [zn20]; omega⟩ (zh_adCu hK (g := g) (p := p) hT ⟨by omega, by omega⟩ ⟨by omega, by omega⟩ hb3 hb11 hb12 hb13 hb14 hb15 ⟨Nat.le_refl _, Nat.le_refl _⟩) (fun st3 μc3 hp3 => ?_)
      obtain ⟨x3, rfl, hTc3, hd3⟩ := hp3
      have hd := hd3
      refine pm_blk hK zmm19 [] 3 38 [(2, 1), (0, g), (0, p), (0, x3)] [(0, (-1)), (0, x3)] μc3 [] rfl trivial ?_
      refine pm_icmp hK zmm19 .eq 10 48 rfl rfl (fun h2 => ?_) (fun h2 => ?_)
      · have h2 : x3 = ((-1) : Int) := h2
        refine pm_blk hK zmm19 [] 1 49 [(2, 1), (0, g), (0, p), (0, x3)] [(0, x3)] μc3 [] rfl trivial ?_
        rcases hd with ⟨d1, d2, d3⟩ | ⟨d1, d2, d3, d4⟩
        · first
          | (exfalso; omega)
          | (have zn := zCu_n (a := g) (b := p) (c := μ 3 1) (by omega); subst d3; exact pm_iret rfl rfl ⟨by rw [zn.1, d1], hTc3, fun _ _ _ => rfl, by rw [zn.2], fun h => h⟩)
        · first
          | (exfalso; omega)
          | (have zy := zCu_y (a := g) (b := p) (c := μ 3 1) (by omega); exact pm_iret rfl rfl ⟨by rw [zy.1, d1], hTc3, fun q hq hne => by rw [ef]; exact (pm_upq (k := 3) (i := 3) rfl ((show ∀ q ∈ zRo, q ≠ (96, 3) by decide) q hq)).trans (d4 q hq hne), by rw [zy.2, ef, pm_up_off (by decide)]; exact d3, fun _ => zKw_0 (by rw [ef, pm_up_eq])⟩)
      · have h2 : x3 ≠ ((-1) : Int) := h2
        refine pm_blk hK zmm19 [] 2 45 [(2, 1), (0, g), (0, p), (0, x3)] [(2, 96)] μc3 [] rfl trivial ?_
        refine pm_call hK zmm19 (91, 0, 14, 0) zM14 (0, 0) [(2, 96)] [] rfl rfl rfl rfl ⟨by omega, by rw [zn14]; omega⟩ (zh_forgetk hK hTc3 hb96 ⟨Nat.le_refl _, Nat.le_refl _⟩) (fun st4 μc4 hp4 => ?_)
        obtain ⟨rfl, hTc4, ef4⟩ := hp4
        have ef := ef4
        refine pm_blk hK zmm19 [] 1 49 [(2, 1), (0, g), (0, p), (0, x3)] [(0, x3)] μc4 [] rfl trivial ?_
        rcases hd with ⟨d1, d2, d3⟩ | ⟨d1, d2, d3, d4⟩
        · first
          | (exfalso; omega)
          | (have zn := zCu_n (a := g) (b := p) (c := μ 3 1) (by omega); subst d3; exact pm_iret rfl rfl ⟨by rw [zn.1, d1], hTc4, fun _ _ _ => rfl, by rw [zn.2], fun h => h⟩)
        · first
          | (exfalso; omega)
          | (have zy := zCu_y (a := g) (b := p) (c := μ 3 1) (by omega); exact pm_iret rfl rfl ⟨by rw [zy.1, d1], hTc4, fun q hq hne => by rw [ef]; exact (pm_upq (k := 3) (i := 3) rfl ((show ∀ q ∈ zRo, q ≠ (96, 3) by decide) q hq)).trans (d4 q hq hne), by rw [zy.2, ef, pm_up_off (by decide)]; exact d3, fun _ => zKw_0 (by rw [ef, pm_up_eq])⟩)
    · have h1 : (if 0 ≤ p ∧ p ≤ 9 then 1 else 0 : Int) = (0 : Int) := h1
      have h1 := zif0 h1
      refine pm_blk hK zmm19 [] 1 22 [(2, 1), (0, g), (0, p), (9, 0)] [(0, (-1))] μ [] rfl trivial ?_
      have zn := zCu_n (a := g) (b := p) (c := μ 3 1) (by omega)
      exact pm_iret rfl rfl ⟨by rw [zn.1], hT, fun _ _ _ => rfl, by rw [zn.2], fun h => h⟩
end ZHW
