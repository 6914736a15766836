/-! the tape: what changes how long it is; walks printed by program (wip/p30/pmgen.py) and filled by hand -/
section ZHW
variable {D : va_G} {Wm : Nat} {ST : List (String × String × String × Nat)} {b0 : sx_B} {l : Launch} {Sg : Nat → Option Nat} {bud : sx_Bu} {μ : pm_Mem} {B0 : Nat → Prop} {J : (Nat → Option Nat) → Heap → Prop}
set_option maxRecDepth 100000 in
theorem zh_drop (hK : zKK ST) (hT : zTJ none μ) (hb88 : sx_bit Wm 88 = true) (hbd : 0 ≤ bud.1 ∧ 0 ≤ bud.2.1) : zC D Wm ST b0 l Sg zM48 bud [(2, 88)] μ (fun st' μ' => st' = [] ∧ zTJ none μ' ∧ μ' 88 1 = 0) := by
  refine pm_blk hK zmm48 [] 3 5 [(2, 88)] [] (pm_up μ 88 1 0) [sx_bit Wm 88 = true] rfl ⟨hb88, trivial⟩ ?_
  obtain ⟨μ1, eμ1⟩ : ∃ μ', μ' = pm_up μ 88 1 0 := ⟨_, rfl⟩
  rw [← eμ1]
  have hTμ1 : zTJ none μ1 := by rw [eμ1]; exact zT_upn hT zs88_1 rfl (i := 1) (by omega) (by omega) (by omega) (by omega)
  refine pm_blk hK zmm48 [] 3 10 [(2, 88)] [] (pm_up μ1 88 2 0) [sx_bit Wm 88 = true] rfl ⟨hb88, trivial⟩ ?_
  obtain ⟨μ2, eμ2⟩ : ∃ μ', μ' = pm_up μ1 88 2 0 := ⟨_, rfl⟩
  rw [← eμ2]
  have hTμ2 : zTJ none μ2 := by rw [eμ2]; exact zT_upn hTμ1 zs88_2 rfl (i := 2) (by omega) (by omega) (by omega) (by omega)
  refine pm_blk hK zmm48 [] 3 15 [(2, 88)] [] (pm_up μ2 88 3 ((-1))) [sx_bit Wm 88 = true] rfl ⟨hb88, trivial⟩ ?_
  obtain ⟨μ3, eμ3⟩ : ∃ μ', μ' = pm_up μ2 88 3 ((-1)) := ⟨_, rfl⟩
  rw [← eμ3]
  have hTμ3 : zTJ none μ3 := by rw [eμ3]; exact zT_upn hTμ2 zs88_3 rfl (i := 3) (by omega) (by omega) (by omega) (by omega)
  exact pm_vret rfl rfl ⟨rfl, hTμ3, by rw [eμ3, pm_up_ne (by decide), eμ2, pm_up_ne (by decide), eμ1, pm_up_eq]⟩
set_option maxRecDepth 100000 in
theorem zh_readsz (hK : zKK ST) {k : Int} (hw : sx_Wd zNR zRT2 B0 Sg) (hCt : zAll D ST B0 l Sg) (hs319 : sx_subm zC319.2.2.2.2.2 Wm = true) (hs277 : sx_subm zC277.2.2.2.2.2 Wm = true) (hs284 : sx_subm zC284.2.2.2.2.2 Wm = true) (hs309 : sx_subm zC309.2.2.2.2.2 Wm = true) (hs314 : sx_subm zC314.2.2.2.2.2 Wm = true) (hT : zTJ none μ) (hk : 0 ≤ k ∧ k ≤ 3) (hb88 : sx_bit Wm 88 = true) (hb93 : sx_bit Wm 93 = true) (hbd : 71 ≤ bud.1 ∧ 1600 ≤ bud.2.1) : zC D Wm ST (sx_bW zRT2 Wm B0 Sg, J) l Sg zM49 bud [(2, 88), (0, k), (2, 3)] μ (fun st' μ' => (∃ x, st' = [(0, x)] ∧ 0 ≤ x ∧ x ≤ 1) ∧ zTJ none μ' ∧ μ' 88 1 = 0) := by
  have hC319 := hCt none 319 zC319 rfl
  have f1 := zT_get hT zs3_0 (i := 0) (by omega) (by omega)
  refine pm_blk hK zmm49 [] 4 8 [(2, 88), (0, k), (2, 3), (9, 0), (9, 0)] [] (pm_up μ 88 9 (μ 3 0)) [sx_bit Wm 88 = true] rfl ⟨hb88, trivial⟩ ?_
  obtain ⟨μ1, eμ1⟩ : ∃ μ', μ' = pm_up μ 88 9 (μ 3 0) := ⟨_, rfl⟩
  rw [← eμ1]
  have hTμ1 : zTJ none μ1 := by rw [eμ1]; exact zT_upn hT zs88_9 rfl (i := 9) (by omega) (by omega) (by omega) (by omega)
  have g2 : μ1 3 1 = μ 3 1 := by rw [eμ1, pm_up_off (by decide)]
  have f3 := zT_get hTμ1 zs3_1 (i := 1) (by omega) (by omega)
  refine pm_blk hK zmm49 [] 4 16 [(2, 88), (0, k), (2, 3), (9, 0), (9, 0)] [] (pm_up μ1 88 10 (μ1 3 1)) [sx_bit Wm 88 = true] rfl ⟨hb88, trivial⟩ ?_
  obtain ⟨μ2, eμ2⟩ : ∃ μ', μ' = pm_up μ1 88 10 (μ1 3 1) := ⟨_, rfl⟩
  rw [← eμ2]
  have hTμ2 : zTJ none μ2 := by rw [eμ2]; exact zT_upn hTμ1 zs88_10 rfl (i := 10) (by omega) (by omega) (by omega) (by omega)
  refine pm_blk hK zmm49 [] 2 20 [(2, 88), (0, k), (2, 3), (9, 0), (9, 0)] [(2, 93)] μ2 [] rfl trivial ?_
  refine pm_call hK zmm49 (61, 0, 50, 0) zM50 (0, 0) [(2, 93)] [] rfl rfl rfl rfl ⟨by omega, by rw [zn50]; omega⟩ (zh_clear hK hTμ2 hb93 ⟨Nat.le_refl _, Nat.le_refl _⟩) (fun st1 μc1 hp1 => ?_)
  obtain ⟨rfl, hTc1⟩ := hp1
  refine pm_blk hK zmm49 [] 1 24 [(2, 88), (0, k), (2, 3), (9, 0), (9, 0)] [(2, 88)] μc1 [] rfl trivial ?_
  refine pm_ccall hK zmm49 hC319 hw zGm_lt zJ_loc (64, 0, 51, 0) zM51 [(2, 88)] [] rfl rfl rfl rfl rfl ⟨by have e : zC319.2.2.2.1 = 22 := rfl; omega, by have e : zC319.2.2.2.2.1 = 938 := rfl; rw [zn51]; omega⟩ hs319 rfl (fun t ht => by cases ht) ⟨rfl, fun h => absurd h (by decide), fun _ => rfl, trivial⟩ (zTy_T hw hTc1.1) hTc1.2 (fun st2 μc2 hp2 hTt2 hJ2 hfr2 => ?_)
  obtain rfl := hp2
  have hTc2 : zTJ none μc2 := ⟨zTy_of hw hTt2, hJ2⟩
  refine pm_blk hK zmm49 [] 1 28 [(2, 88), (0, k), (2, 3), (9, 0), (9, 0)] [(2, 88)] μc2 [] rfl trivial ?_
  refine pm_call hK zmm49 (67, 0, 48, 0) zM48 (0, 0) [(2, 88)] [] rfl rfl rfl rfl ⟨by omega, by rw [zn48]; omega⟩ (zh_drop hK hTc2 hb88 ⟨Nat.le_refl _, Nat.le_refl _⟩) (fun st3 μc3 hp3 => ?_)
  obtain ⟨rfl, hTc3, hz3⟩ := hp3
  have hTs : zTJ (some μc3) μc3 := zTJ_self hTc3
  have z88 := hz3
  refine pm_blk hK zmm49 [] 3 36 [(2, 88), (0, k), (2, 3), (9, 0), (9, 0)] [] (pm_up μc3 88 8 0) [sx_bit Wm 88 = true] rfl ⟨hb88, trivial⟩ ?_
  obtain ⟨μ3, eμ3⟩ : ∃ μ', μ' = pm_up μc3 88 8 0 := ⟨_, rfl⟩
  rw [← eμ3]
  have hTμ3 : zTJ none μ3 := by rw [eμ3]; exact zT_upn hTc3 zs88_8 rfl (i := 8) (by omega) (by omega) (by omega) (by omega)
  refine pm_blk hK zmm49 [] 4 41 [(2, 88), (0, k), (2, 3), (0, 1), (0, 0)] [] μ3 [] rfl trivial ?_
  have hTq : zTJ (some μc3) μ3 := by rw [eμ3]; exact zT_up hTs zs88_8 rfl (i := 8) (by omega) (by omega) (by omega) (by omega)
  refine zl_rdl (φ := some μc3) hK hk hw (hCt (some μc3) 277 zC277 rfl) hs277 (hCt (some μc3) 284 zC284 rfl) hs284 (hCt (some μc3) 309 zC309 rfl) hs309 (hCt (some μc3) 314 zC314 rfl) hs314 hb93 (fun f μe hf hTe => ?_) ⟨by omega, by omega⟩ _ rfl ⟨by omega, by omega⟩ ⟨by omega, by omega⟩ hTq
  have q88 : μe 88 1 = 0 := (zTJ_fz hTe (88, 1) (by decide)).trans z88
  refine pm_blk hK zmm49 [] 1 135 [(2, 88), (0, k), (2, 3), (0, f), (9, 0)] [(0, f)] μe [] rfl trivial ?_
  exact pm_zret rfl rfl (by first | exact Or.inl rfl | exact Or.inr rfl | omega) ⟨⟨_, rfl, by omega, by omega⟩, zTJ_none hTe, q88⟩
set_option maxRecDepth 100000 in
theorem zh_textx0 (hK : zKK ST) (hw : sx_Wd zNR zRT2 B0 Sg) (hCt : zAll D ST B0 l Sg) (hs319 : sx_subm zC319.2.2.2.2.2 Wm = true) (hs277 : sx_subm zC277.2.2.2.2.2 Wm = true) (hs284 : sx_subm zC284.2.2.2.2.2 Wm = true) (hs309 : sx_subm zC309.2.2.2.2.2 Wm = true) (hs314 : sx_subm zC314.2.2.2.2.2 Wm = true) (hs321 : sx_subm zC321.2.2.2.2.2 Wm = true) (hs322 : sx_subm zC322.2.2.2.2.2 Wm = true) (hs323 : sx_subm zC323.2.2.2.2.2 Wm = true) (hs324 : sx_subm zC324.2.2.2.2.2 Wm = true) (hT : zTJ none μ) (hb88 : sx_bit Wm 88 = true) (hb93 : sx_bit Wm 93 = true) (hb96 : sx_bit Wm 96 = true) (hbd : 72 ≤ bud.1 ∧ 1700 ≤ bud.2.1) : zC D Wm ST (sx_bW zRT2 Wm B0 Sg, J) l Sg zM46 bud [(2, 1), (0, 0)] μ (fun st' μ' => (∃ x, st' = [(0, x)]) ∧ zTJ none μ' ∧ μ' 88 1 = 0) := by
  refine pm_blk hK zmm46 [] 3 5 [(2, 1), (0, 0), (9, 0)] [(0, 0), (2, 2)] μ [] rfl trivial ?_
  refine pm_call hK zmm46 (176, 0, 47, 1) zM47 (0, 0) [(2, 2), (0, 0)] [] rfl rfl rfl rfl ⟨by omega, by rw [zn47]; omega⟩ (zh_tof0 hK) (fun st1 μc1 hp1 => ?_)
  obtain ⟨rfl, rfl⟩ := hp1
  refine pm_blk hK zmm46 [] 2 10 [(2, 1), (0, 0), (2, 17)] [(2, 17)] μ [] rfl trivial ?_
  refine zp_ifnn hK zmm46 (off := 12) (tgt := 22) rfl (by decide) ?_
  refine pm_blk hK zmm46 [] 6 34 [(2, 1), (0, 0), (2, 17)] [(2, 3), (0, 0), (2, 88)] μ [] rfl trivial ?_
  refine pm_call hK zmm46 (183, 0, 49, 2) zM49 (71, 1600) [(2, 88), (0, 0), (2, 3)] [] rfl rfl rfl rfl ⟨by omega, by rw [zn49]; omega⟩ (zh_readsz hK hw hCt hs319 hs277 hs284 hs309 hs314 hT ⟨by omega, by omega⟩ hb88 hb93 ⟨Nat.le_refl _, Nat.le_refl _⟩) (fun st2 μc2 hp2 => ?_)
  obtain ⟨⟨x2, rfl, hx2, hy2⟩, hTc2, z88⟩ := hp2
  have hTs : zTJ (some μc2) μc2 := zTJ_self hTc2
  exact pm_then (zh_txb0 (φ := some μc2) hK hw (hCt (some μc2) 321 zC321 rfl) hs321 hTs hb96 ⟨by omega, by omega⟩) (fun pc2 lv2 st2 μe hX => pm_exit ⟨hX.1, hX.2.1, zTJ_none hX.2.2, (zTJ_fz hX.2.2 (88, 1) (by decide)).trans z88⟩)
set_option maxRecDepth 100000 in
theorem zh_textx1 (hK : zKK ST) (hw : sx_Wd zNR zRT2 B0 Sg) (hCt : zAll D ST B0 l Sg) (hs319 : sx_subm zC319.2.2.2.2.2 Wm = true) (hs277 : sx_subm zC277.2.2.2.2.2 Wm = true) (hs284 : sx_subm zC284.2.2.2.2.2 Wm = true) (hs309 : sx_subm zC309.2.2.2.2.2 Wm = true) (hs314 : sx_subm zC314.2.2.2.2.2 Wm = true) (hs321 : sx_subm zC321.2.2.2.2.2 Wm = true) (hs322 : sx_subm zC322.2.2.2.2.2 Wm = true) (hs323 : sx_subm zC323.2.2.2.2.2 Wm = true) (hs324 : sx_subm zC324.2.2.2.2.2 Wm = true) (hT : zTJ none μ) (hb88 : sx_bit Wm 88 = true) (hb93 : sx_bit Wm 93 = true) (hb96 : sx_bit Wm 96 = true) (hbd : 72 ≤ bud.1 ∧ 1700 ≤ bud.2.1) : zC D Wm ST (sx_bW zRT2 Wm B0 Sg, J) l Sg zM46 bud [(2, 1), (0, 1)] μ (fun st' μ' => (∃ x, st' = [(0, x)]) ∧ zTJ none μ' ∧ μ' 88 1 = 0) := by
  refine pm_blk hK zmm46 [] 3 5 [(2, 1), (0, 1), (9, 0)] [(0, 1), (2, 2)] μ [] rfl trivial ?_
  refine pm_call hK zmm46 (176, 0, 47, 1) zM47 (0, 0) [(2, 2), (0, 1)] [] rfl rfl rfl rfl ⟨by omega, by rw [zn47]; omega⟩ (zh_tof1 hK) (fun st1 μc1 hp1 => ?_)
  obtain ⟨rfl, rfl⟩ := hp1
  refine pm_blk hK zmm46 [] 2 10 [(2, 1), (0, 1), (2, 20)] [(2, 20)] μ [] rfl trivial ?_
  refine zp_ifnn hK zmm46 (off := 12) (tgt := 22) rfl (by decide) ?_
  refine pm_blk hK zmm46 [] 6 34 [(2, 1), (0, 1), (2, 20)] [(2, 3), (0, 1), (2, 88)] μ [] rfl trivial ?_
  refine pm_call hK zmm46 (183, 0, 49, 2) zM49 (71, 1600) [(2, 88), (0, 1), (2, 3)] [] rfl rfl rfl rfl ⟨by omega, by rw [zn49]; omega⟩ (zh_readsz hK hw hCt hs319 hs277 hs284 hs309 hs314 hT ⟨by omega, by omega⟩ hb88 hb93 ⟨Nat.le_refl _, Nat.le_refl _⟩) (fun st2 μc2 hp2 => ?_)
  obtain ⟨⟨x2, rfl, hx2, hy2⟩, hTc2, z88⟩ := hp2
  have hTs : zTJ (some μc2) μc2 := zTJ_self hTc2
  exact pm_then (zh_txb1 (φ := some μc2) hK hw (hCt (some μc2) 322 zC322 rfl) hs322 hTs hb96 ⟨by omega, by omega⟩) (fun pc2 lv2 st2 μe hX => pm_exit ⟨hX.1, hX.2.1, zTJ_none hX.2.2, (zTJ_fz hX.2.2 (88, 1) (by decide)).trans z88⟩)
set_option maxRecDepth 100000 in
theorem zh_textx2 (hK : zKK ST) (hw : sx_Wd zNR zRT2 B0 Sg) (hCt : zAll D ST B0 l Sg) (hs319 : sx_subm zC319.2.2.2.2.2 Wm = true) (hs277 : sx_subm zC277.2.2.2.2.2 Wm = true) (hs284 : sx_subm zC284.2.2.2.2.2 Wm = true) (hs309 : sx_subm zC309.2.2.2.2.2 Wm = true) (hs314 : sx_subm zC314.2.2.2.2.2 Wm = true) (hs321 : sx_subm zC321.2.2.2.2.2 Wm = true) (hs322 : sx_subm zC322.2.2.2.2.2 Wm = true) (hs323 : sx_subm zC323.2.2.2.2.2 Wm = true) (hs324 : sx_subm zC324.2.2.2.2.2 Wm = true) (hT : zTJ none μ) (hb88 : sx_bit Wm 88 = true) (hb93 : sx_bit Wm 93 = true) (hb96 : sx_bit Wm 96 = true) (hbd : 72 ≤ bud.1 ∧ 1700 ≤ bud.2.1) : zC D Wm ST (sx_bW zRT2 Wm B0 Sg, J) l Sg zM46 bud [(2, 1), (0, 2)] μ (fun st' μ' => (∃ x, st' = [(0, x)]) ∧ zTJ none μ' ∧ μ' 88 1 = 0) := by
  refine pm_blk hK zmm46 [] 3 5 [(2, 1), (0, 2), (9, 0)] [(0, 2), (2, 2)] μ [] rfl trivial ?_
  refine pm_call hK zmm46 (176, 0, 47, 1) zM47 (0, 0) [(2, 2), (0, 2)] [] rfl rfl rfl rfl ⟨by omega, by rw [zn47]; omega⟩ (zh_tof2 hK) (fun st1 μc1 hp1 => ?_)
  obtain ⟨rfl, rfl⟩ := hp1
  refine pm_blk hK zmm46 [] 2 10 [(2, 1), (0, 2), (2, 23)] [(2, 23)] μ [] rfl trivial ?_
  refine zp_ifnn hK zmm46 (off := 12) (tgt := 22) rfl (by decide) ?_
  refine pm_blk hK zmm46 [] 6 34 [(2, 1), (0, 2), (2, 23)] [(2, 3), (0, 2), (2, 88)] μ [] rfl trivial ?_
  refine pm_call hK zmm46 (183, 0, 49, 2) zM49 (71, 1600) [(2, 88), (0, 2), (2, 3)] [] rfl rfl rfl rfl ⟨by omega, by rw [zn49]; omega⟩ (zh_readsz hK hw hCt hs319 hs277 hs284 hs309 hs314 hT ⟨by omega, by omega⟩ hb88 hb93 ⟨Nat.le_refl _, Nat.le_refl _⟩) (fun st2 μc2 hp2 => ?_)
  obtain ⟨⟨x2, rfl, hx2, hy2⟩, hTc2, z88⟩ := hp2
  have hTs : zTJ (some μc2) μc2 := zTJ_self hTc2
  exact pm_then (zh_txb2 (φ := some μc2) hK hw (hCt (some μc2) 323 zC323 rfl) hs323 hTs hb96 ⟨by omega, by omega⟩) (fun pc2 lv2 st2 μe hX => pm_exit ⟨hX.1, hX.2.1, zTJ_none hX.2.2, (zTJ_fz hX.2.2 (88, 1) (by decide)).trans z88⟩)
set_option maxRecDepth 100000 in
theorem zh_textx3 (hK : zKK ST) (hw : sx_Wd zNR zRT2 B0 Sg) (hCt : zAll D ST B0 l Sg) (hs319 : sx_subm zC319.2.2.2.2.2 Wm = true) (hs277 : sx_subm zC277.2.2.2.2.2 Wm = true) (hs284 : sx_subm zC284.2.2.2.2.2 Wm = true) (hs309 : sx_subm zC309.2.2.2.2.2 Wm = true) (hs314 : sx_subm zC314.2.2.2.2.2 Wm = true) (hs321 : sx_subm zC321.2.2.2.2.2 Wm = true) (hs322 : sx_subm zC322.2.2.2.2.2 Wm = true) (hs323 : sx_subm zC323.2.2.2.2.2 Wm = true) (hs324 : sx_subm zC324.2.2.2.2.2 Wm = true) (hT : zTJ none μ) (hb88 : sx_bit Wm 88 = true) (hb93 : sx_bit Wm 93 = true) (hb96 : sx_bit Wm 96 = true) (hbd : 72 ≤ bud.1 ∧ 1700 ≤ bud.2.1) : zC D Wm ST (sx_bW zRT2 Wm B0 Sg, J) l Sg zM46 bud [(2, 1), (0, 3)] μ (fun st' μ' => (∃ x, st' = [(0, x)]) ∧ zTJ none μ' ∧ μ' 88 1 = 0) := by
  refine pm_blk hK zmm46 [] 3 5 [(2, 1), (0, 3), (9, 0)] [(0, 3), (2, 2)] μ [] rfl trivial ?_
  refine pm_call hK zmm46 (176, 0, 47, 1) zM47 (0, 0) [(2, 2), (0, 3)] [] rfl rfl rfl rfl ⟨by omega, by rw [zn47]; omega⟩ (zh_tof3 hK) (fun st1 μc1 hp1 => ?_)
  obtain ⟨rfl, rfl⟩ := hp1
  refine pm_blk hK zmm46 [] 2 10 [(2, 1), (0, 3), (2, 26)] [(2, 26)] μ [] rfl trivial ?_
  refine zp_ifnn hK zmm46 (off := 12) (tgt := 22) rfl (by decide) ?_
  refine pm_blk hK zmm46 [] 6 34 [(2, 1), (0, 3), (2, 26)] [(2, 3), (0, 3), (2, 88)] μ [] rfl trivial ?_
  refine pm_call hK zmm46 (183, 0, 49, 2) zM49 (71, 1600) [(2, 88), (0, 3), (2, 3)] [] rfl rfl rfl rfl ⟨by omega, by rw [zn49]; omega⟩ (zh_readsz hK hw hCt hs319 hs277 hs284 hs309 hs314 hT ⟨by omega, by omega⟩ hb88 hb93 ⟨Nat.le_refl _, Nat.le_refl _⟩) (fun st2 μc2 hp2 => ?_)
  obtain ⟨⟨x2, rfl, hx2, hy2⟩, hTc2, z88⟩ := hp2
  have hTs : zTJ (some μc2) μc2 := zTJ_self hTc2
  exact pm_then (zh_txb3 (φ := some μc2) hK hw (hCt (some μc2) 324 zC324 rfl) hs324 hTs hb96 ⟨by omega, by omega⟩) (fun pc2 lv2 st2 μe hX => pm_exit ⟨hX.1, hX.2.1, zTJ_none hX.2.2, (zTJ_fz hX.2.2 (88, 1) (by decide)).trans z88⟩)
set_option maxRecDepth 100000 in
theorem zh_textxn (hK : zKK ST) {k : Int} (hk : k < 0 ∨ 3 < k) (hT : zTJ none μ) (hb88 : sx_bit Wm 88 = true) (hbd : 1 ≤ bud.1 ∧ 40 ≤ bud.2.1) : zC D Wm ST b0 l Sg zM46 bud [(2, 1), (0, k)] μ (fun st' μ' => (∃ x, st' = [(0, x)]) ∧ zTJ none μ' ∧ μ' 88 1 = 0) := by
  refine pm_blk hK zmm46 [] 3 5 [(2, 1), (0, k), (9, 0)] [(0, k), (2, 2)] μ [] rfl trivial ?_
  refine pm_call hK zmm46 (176, 0, 47, 1) zM47 (0, 0) [(2, 2), (0, k)] [] rfl rfl rfl rfl ⟨by omega, by rw [zn47]; omega⟩ (zh_tofn hK hk) (fun st1 μc1 hp1 => ?_)
  obtain ⟨rfl, rfl⟩ := hp1
  refine zp_nul3 hK zmm46 rfl rfl rfl (Nat.le_of_ble_eq_true rfl) rfl ?_
  refine pm_blk hK zmm46 [] 2 17 [(2, 1), (0, k), (3, 0)] [(2, 88)] μ [] rfl trivial ?_
  refine pm_call hK zmm46 (180, 0, 48, 0) zM48 (0, 0) [(2, 88)] [] rfl rfl rfl rfl ⟨by omega, by rw [zn48]; omega⟩ (zh_drop hK hT hb88 ⟨Nat.le_refl _, Nat.le_refl _⟩) (fun st2 μc2 hp2 => ?_)
  obtain ⟨rfl, hTc2, hz2⟩ := hp2
  have z88 := hz2
  refine pm_blk hK zmm46 [] 1 21 [(2, 1), (0, k), (3, 0)] [(0, (-1))] μc2 [] rfl trivial ?_
  exact pm_iret rfl rfl ⟨⟨_, rfl⟩, hTc2, z88⟩
set_option maxRecDepth 100000 in
theorem zh_textx (hK : zKK ST) {k : Int} (hw : sx_Wd zNR zRT2 B0 Sg) (hCt : zAll D ST B0 l Sg) (hs319 : sx_subm zC319.2.2.2.2.2 Wm = true) (hs277 : sx_subm zC277.2.2.2.2.2 Wm = true) (hs284 : sx_subm zC284.2.2.2.2.2 Wm = true) (hs309 : sx_subm zC309.2.2.2.2.2 Wm = true) (hs314 : sx_subm zC314.2.2.2.2.2 Wm = true) (hs321 : sx_subm zC321.2.2.2.2.2 Wm = true) (hs322 : sx_subm zC322.2.2.2.2.2 Wm = true) (hs323 : sx_subm zC323.2.2.2.2.2 Wm = true) (hs324 : sx_subm zC324.2.2.2.2.2 Wm = true) (hT : zTJ none μ) (hb88 : sx_bit Wm 88 = true) (hb93 : sx_bit Wm 93 = true) (hb96 : sx_bit Wm 96 = true) (hbd : 72 ≤ bud.1 ∧ 1700 ≤ bud.2.1) : zC D Wm ST (sx_bW zRT2 Wm B0 Sg, J) l Sg zM46 bud [(2, 1), (0, k)] μ (fun st' μ' => (∃ x, st' = [(0, x)]) ∧ zTJ none μ' ∧ μ' 88 1 = 0) := by
  by_cases hk : k < 0 ∨ 3 < k
  · exact zh_textxn hK hk hT hb88 ⟨by omega, by omega⟩
  · have hh : k = 0 ∨ k = 1 ∨ k = 2 ∨ k = 3 := by omega
    rcases hh with rfl | rfl | rfl | rfl
    · exact zh_textx0 hK hw hCt hs319 hs277 hs284 hs309 hs314 hs321 hs322 hs323 hs324 hT hb88 hb93 hb96 hbd
    · exact zh_textx1 hK hw hCt hs319 hs277 hs284 hs309 hs314 hs321 hs322 hs323 hs324 hT hb88 hb93 hb96 hbd
    · exact zh_textx2 hK hw hCt hs319 hs277 hs284 hs309 hs314 hs321 hs322 hs323 hs324 hT hb88 hb93 hb96 hbd
    · exact zh_textx3 hK hw hCt hs319 hs277 hs284 hs309 hs314 hs321 hs322 hs323 hs324 hT hb88 hb93 hb96 hbd
set_option maxRecDepth 100000 in
theorem zh_hasRoom (hK : zKK ST) (hT : zTJ none μ) (hbd : 0 ≤ bud.1 ∧ 0 ≤ bud.2.1) : zC D Wm ST b0 l Sg zM43 bud [(2, 88), (0, 20)] μ (fun st' μ' => μ = μ' ∧ st' = [(0, if μ 88 1 ≤ 380 then 1 else 0)]) := by
  have f1 := zT_get hT zs88_1 (i := 1) (by omega) (by omega)
  refine pm_blk hK zmm43 [] 5 9 [(2, 88), (0, 20)] [(0, 400), (0, (μ 88 1) + 20)] μ [pm_in ((μ 88 1) + 20)] rfl ⟨pm_in_mk (by omega) (by omega), trivial⟩ ?_
  refine pm_icmp hK zmm43 .gt 7 16 rfl rfl (fun h0 => ?_) (fun h0 => ?_)
  · have h0 : (400 : Int) < (μ 88 1) + 20 := h0
    refine pm_blk hK zmm43 [] 1 17 [(2, 88), (0, 20)] [(0, 0)] μ [] rfl trivial ?_
    exact pm_zret rfl rfl (by first | exact Or.inl rfl | exact Or.inr rfl | omega) ⟨rfl, by first | rw [if_pos (by omega)] | rw [if_neg (by omega)]⟩
  · have h0 : (μ 88 1) + 20 ≤ (400 : Int) := h0
    refine pm_blk hK zmm43 [] 2 17 [(2, 88), (0, 20)] [(0, 1)] μ [] rfl trivial ?_
    exact pm_zret rfl rfl (by first | exact Or.inl rfl | exact Or.inr rfl | omega) ⟨rfl, by first | rw [if_pos (by omega)] | rw [if_neg (by omega)]⟩
set_option maxRecDepth 100000 in
theorem zl_ti (hK : zKK ST)  {v N : Int} (hN : N ≤ 400) (hb88 : sx_bit Wm 88 = true) (hb89 : sx_bit Wm 89 = true) (hbd : 1 ≤ bud.1 ∧ 30 ≤ bud.2.1) : ∀ (n : Nat) {z j : Int} {μ : pm_Mem}, j.toNat = n → ∀ (hj : 0 ≤ j ∧ j ≤ 4) (hz : z = 8 * j - 8) (hl : μ 88 1 + j = N) (hT : zTJ none μ), zW D Wm ST b0 l Sg zM44 bud (pm_X zM44 (fun st' μ' => st' = [] ∧ zTJ none μ' ∧ μ' 88 1 = N)) 3 [(2, 88), (0, v), (0, z)] [] μ := by
  intro n
  induction n using Nat.strongRecOn with
  | ind n ih =>
    intro z j μ hn hj hz hl hT
    refine pm_blk hK zmm44 [] 1 4 [(2, 88), (0, v), (0, z)] [(0, z)] μ [] rfl trivial ?_
    refine pm_if hK zmm44 .lt 49 53 rfl rfl (fun h0 => ?_) (fun h0 => ?_)
    · have h0 : z < (0 : Int) := h0
      exact pm_vret rfl rfl ⟨rfl, hT, by omega⟩
    · have h0 : (0 : Int) ≤ z := h0
      have fl := zT_get hT zs88_1 (i := 1) (by omega) (by omega)
      have f1 := zT_get hT zs88_1 (i := 1) (by omega) (by omega)
      refine pm_blk hK zmm44 [] 4 15 [(2, 88), (0, v), (0, z)] [(0, 399), (0, 0), (0, μ 88 1)] μ [] rfl trivial ?_
      refine pm_call hK zmm44 (53, 1, 16, 3) zM16 (0, 0) [(0, μ 88 1), (0, 0), (0, 399)] [] rfl rfl rfl rfl ⟨by omega, by rw [zn16]; omega⟩ (zh_within hK ⟨Nat.le_refl _, Nat.le_refl _⟩) (fun st1 μc1 hp1 => ?_)
      obtain ⟨rfl, rfl⟩ := hp1
      refine pm_if hK zmm44 .eq 29 47 rfl rfl (fun h1 => ?_) (fun h1 => ?_)
      · have h1 : (if 0 ≤ (μ 88 1) ∧ (μ 88 1) ≤ 399 then 1 else 0 : Int) = (0 : Int) := h1
        have h1 := zif0 h1
        refine pm_blk hK zmm44 [] 2 3 [(2, 88), (0, v), (0, z + (-8))] [] μ [pm_in (z + (-8))] rfl ⟨pm_in_mk (by omega) (by omega), trivial⟩ ?_
        first
        | (exfalso; omega)
        | (have a2 : μ 88 1 = μ 88 1 + 1 := (by rw [eμ, pm_up_eq, e, pm_up_off (by decide)]); exact ih (j - 1).toNat (by omega) (j := j - 1) rfl ⟨by omega, by omega⟩ (by omega) (by omega) hT)
      · have h1 : (if 0 ≤ (μ 88 1) ∧ (μ 88 1) ≤ 399 then 1 else 0 : Int) ≠ (0 : Int) := h1
        have h1 := zif1 h1
        refine pm_blk hK zmm44 [] 9 36 [(2, 88), (0, v), (0, z)] [(0, pm_and (pm_ushr v z) 255), (0, μ 88 1), (2, 89)] μ [] rfl trivial ?_
        have b255 := zand255 (pm_ushr v z)
        refine pm_blk hK zmm44 [] 1 37 [(2, 88), (0, v), (0, z)] [] (pm_up μ 89 (μ 88 1) (pm_and (pm_ushr v z) 255)) [sx_bit Wm 89 = true, 0 ≤ μ 88 1 ∧ μ 88 1 < 400] rfl ⟨hb89, ⟨by omega, by omega⟩, trivial⟩ ?_
        obtain ⟨μ1, eμ1⟩ : ∃ μ', μ' = pm_up μ 89 (μ 88 1) (pm_and (pm_ushr v z) 255) := ⟨_, rfl⟩
        rw [← eμ1]
        have hTμ1 : zTJ none μ1 := by rw [eμ1]; exact zT_upn hT zs89_0 rfl (i := μ 88 1) (by omega) (by omega) (by omega) (by omega)
        have g2 : μ1 88 1 = μ 88 1 := by rw [eμ1, pm_up_off (by decide)]
        have f3 := zT_get hTμ1 zs88_1 (i := 1) (by omega) (by omega)
        refine pm_blk hK zmm44 [] 6 47 [(2, 88), (0, v), (0, z)] [] (pm_up μ1 88 1 ((μ1 88 1) + 1)) [pm_in ((μ1 88 1) + 1), sx_bit Wm 88 = true] rfl ⟨pm_in_mk (by omega) (by omega), hb88, trivial⟩ ?_
        obtain ⟨μ2, eμ2⟩ : ∃ μ', μ' = pm_up μ1 88 1 ((μ1 88 1) + 1) := ⟨_, rfl⟩
        rw [← eμ2]
        have hTμ2 : zTJ none μ2 := by rw [eμ2]; exact zT_upn hTμ1 zs88_1 rfl (i := 1) (by omega) (by omega) (by omega) (by omega)
        refine pm_blk hK zmm44 [] 2 3 [(2, 88), (0, v), (0, z + (-8))] [] μ2 [pm_in (z + (-8))] rfl ⟨pm_in_mk (by omega) (by omega), trivial⟩ ?_
        first
        | (exfalso; omega)
        | (have a2 : μ2 88 1 = μ 88 1 + 1 := (by rw [eμ2, pm_up_eq, eμ1, pm_up_off (by decide)]); exact ih (j - 1).toNat (by omega) (j := j - 1) rfl ⟨by omega, by omega⟩ (by omega) (by omega) hTμ2)
set_option maxRecDepth 100000 in
theorem zh_takeIn (hK : zKK ST) {v : Int} (hT : zTJ none μ) (hN : μ 88 1 ≤ 396) (hb88 : sx_bit Wm 88 = true) (hb89 : sx_bit Wm 89 = true) (hbd : 1 ≤ bud.1 ∧ 30 ≤ bud.2.1) : zC D Wm ST b0 l Sg zM44 bud [(2, 88), (0, v)] μ (fun st' μ' => st' = [] ∧ zTJ none μ' ∧ μ' 88 1 = μ 88 1 + 4) := by
  refine pm_blk hK zmm44 [] 2 3 [(2, 88), (0, v), (0, 24)] [] μ [] rfl trivial ?_
  exact zl_ti hK (N := μ 88 1 + 4) (by omega) hb88 hb89 hbd _ (j := 4) rfl ⟨by omega, by omega⟩ (by omega) rfl hT
set_option maxRecDepth 100000 in
theorem zh_feedx (hK : zKK ST) {a b c d e : Int} (hT : zTJ none μ) (hb88 : sx_bit Wm 88 = true) (hb89 : sx_bit Wm 89 = true) (hbd : 2 ≤ bud.1 ∧ 60 ≤ bud.2.1) : zC D Wm ST b0 l Sg zM42 bud [(2, 1), (0, a), (0, b), (0, c), (0, d), (0, e)] μ (fun st' μ' => st' = [(0, zFd (μ 88 1))] ∧ zTJ none μ' ∧ μ' 88 1 = zFe (μ 88 1)) := by
  refine pm_blk hK zmm42 [] 3 6 [(2, 1), (0, a), (0, b), (0, c), (0, d), (0, e)] [(0, 20), (2, 88)] μ [] rfl trivial ?_
  refine pm_call hK zmm42 (166, 0, 43, 1) zM43 (0, 0) [(2, 88), (0, 20)] [] rfl rfl rfl rfl ⟨by omega, by rw [zn43]; omega⟩ (zh_hasRoom hK hT ⟨Nat.le_refl _, Nat.le_refl _⟩) (fun st1 μc1 hp1 => ?_)
  obtain ⟨rfl, rfl⟩ := hp1
  refine pm_if hK zmm42 .ne 5 14 rfl rfl (fun h0 => ?_) (fun h0 => ?_)
  · have h0 : (if μ 88 1 ≤ 380 then 1 else 0 : Int) ≠ (0 : Int) := h0
    have h0 := zif1 h0
    refine pm_blk hK zmm42 [] 3 19 [(2, 1), (0, a), (0, b), (0, c), (0, d), (0, e)] [(0, a), (2, 88)] μ [] rfl trivial ?_
    refine pm_call hK zmm42 (169, 0, 44, 1) zM44 (1, 30) [(2, 88), (0, a)] [] rfl rfl rfl rfl ⟨by omega, by rw [zn44]; omega⟩ (zh_takeIn hK (v := a) hT (by omega) hb88 hb89 ⟨Nat.le_refl _, Nat.le_refl _⟩) (fun st2 μc2 hp2 => ?_)
    obtain ⟨rfl, hTc2, hq2⟩ := hp2
    refine pm_blk hK zmm42 [] 3 27 [(2, 1), (0, a), (0, b), (0, c), (0, d), (0, e)] [(0, b), (2, 88)] μc2 [] rfl trivial ?_
    refine pm_call hK zmm42 (169, 0, 44, 1) zM44 (1, 30) [(2, 88), (0, b)] [] rfl rfl rfl rfl ⟨by omega, by rw [zn44]; omega⟩ (zh_takeIn hK (v := b) hTc2 (by omega) hb88 hb89 ⟨Nat.le_refl _, Nat.le_refl _⟩) (fun st3 μc3 hp3 => ?_)
    obtain ⟨rfl, hTc3, hq3⟩ := hp3
    refine pm_blk hK zmm42 [] 3 35 [(2, 1), (0, a), (0, b), (0, c), (0, d), (0, e)] [(0, c), (2, 88)] μc3 [] rfl trivial ?_
    refine pm_call hK zmm42 (169, 0, 44, 1) zM44 (1, 30) [(2, 88), (0, c)] [] rfl rfl rfl rfl ⟨by omega, by rw [zn44]; omega⟩ (zh_takeIn hK (v := c) hTc3 (by omega) hb88 hb89 ⟨Nat.le_refl _, Nat.le_refl _⟩) (fun st4 μc4 hp4 => ?_)
    obtain ⟨rfl, hTc4, hq4⟩ := hp4
    refine pm_blk hK zmm42 [] 3 44 [(2, 1), (0, a), (0, b), (0, c), (0, d), (0, e)] [(0, d), (2, 88)] μc4 [] rfl trivial ?_
    refine pm_call hK zmm42 (169, 0, 44, 1) zM44 (1, 30) [(2, 88), (0, d)] [] rfl rfl rfl rfl ⟨by omega, by rw [zn44]; omega⟩ (zh_takeIn hK (v := d) hTc4 (by omega) hb88 hb89 ⟨Nat.le_refl _, Nat.le_refl _⟩) (fun st5 μc5 hp5 => ?_)
    obtain ⟨rfl, hTc5, hq5⟩ := hp5
    refine pm_blk hK zmm42 [] 3 53 [(2, 1), (0, a), (0, b), (0, c), (0, d), (0, e)] [(0, e), (2, 88)] μc5 [] rfl trivial ?_
    refine pm_call hK zmm42 (169, 0, 44, 1) zM44 (1, 30) [(2, 88), (0, e)] [] rfl rfl rfl rfl ⟨by omega, by rw [zn44]; omega⟩ (zh_takeIn hK (v := e) hTc5 (by omega) hb88 hb89 ⟨Nat.le_refl _, Nat.le_refl _⟩) (fun st6 μc6 hp6 => ?_)
    obtain ⟨rfl, hTc6, hq6⟩ := hp6
    have f1 := zT_get hTc6 zs88_1 (i := 1) (by omega) (by omega)
    refine pm_blk hK zmm42 [] 3 63 [(2, 1), (0, a), (0, b), (0, c), (0, d), (0, e)] [(0, μc6 88 1)] μc6 [] rfl trivial ?_
    have zn := zFd_y (L := μ 88 1) (by omega)
    exact pm_iret rfl rfl ⟨by rw [zn.1, show μc6 88 1 = μ 88 1 + 20 by omega], hTc6, by rw [zn.2]; omega⟩
  · have h0 : (if μ 88 1 ≤ 380 then 1 else 0 : Int) = (0 : Int) := h0
    have h0 := zif0 h0
    refine pm_blk hK zmm42 [] 1 13 [(2, 1), (0, a), (0, b), (0, c), (0, d), (0, e)] [(0, (-1))] μ [] rfl trivial ?_
    have zn := zFd_n (L := μ 88 1) (by omega)
    exact pm_iret rfl rfl ⟨by rw [zn.1], hT, by rw [zn.2]⟩
set_option maxRecDepth 100000 in
theorem zh_endx (hK : zKK ST) {n : Int} (hT : zTJ none μ) (hb88 : sx_bit Wm 88 = true) (hbd : 1 ≤ bud.1 ∧ 40 ≤ bud.2.1) : zC D Wm ST b0 l Sg zM45 bud [(2, 1), (0, n)] μ (fun st' μ' => st' = [(0, zEd n (μ 88 1))] ∧ zTJ none μ' ∧ μ' 88 1 = zEe n (μ 88 1)) := by
  have fl := zT_get hT zs88_1 (i := 1) (by omega) (by omega)
  have f1 := zT_get hT zs88_1 (i := 1) (by omega) (by omega)
  refine pm_blk hK zmm45 [] 5 9 [(2, 1), (0, n)] [(0, μ 88 1), (0, 0), (0, n)] μ [] rfl trivial ?_
  refine pm_call hK zmm45 (94, 1, 16, 3) zM16 (0, 0) [(0, n), (0, 0), (0, μ 88 1)] [] rfl rfl rfl rfl ⟨by omega, by rw [zn16]; omega⟩ (zh_within hK ⟨Nat.le_refl _, Nat.le_refl _⟩) (fun st1 μc1 hp1 => ?_)
  obtain ⟨rfl, rfl⟩ := hp1
  refine pm_if hK zmm45 .ne 5 17 rfl rfl (fun h0 => ?_) (fun h0 => ?_)
  · have h0 : (if 0 ≤ n ∧ n ≤ (μ 88 1) then 1 else 0 : Int) ≠ (0 : Int) := h0
    have h0 := zif1 h0
    refine pm_blk hK zmm45 [] 4 25 [(2, 1), (0, n)] [] (pm_up μ 88 1 n) [sx_bit Wm 88 = true] rfl ⟨hb88, trivial⟩ ?_
    obtain ⟨μ1, eμ1⟩ : ∃ μ', μ' = pm_up μ 88 1 n := ⟨_, rfl⟩
    rw [← eμ1]
    have hTμ1 : zTJ none μ1 := by rw [eμ1]; exact zT_upn hT zs88_1 rfl (i := 1) (by omega) (by omega) (by omega) (by omega)
    refine pm_blk hK zmm45 [] 1 26 [(2, 1), (0, n)] [(0, 1)] μ1 [] rfl trivial ?_
    have zn := zEd_y (n := n) (L := μ 88 1) (by omega)
    exact pm_zret rfl rfl (by first | exact Or.inl rfl | exact Or.inr rfl | omega) ⟨by rw [zn.1], hTμ1, by rw [zn.2, eμ1, pm_up_eq]⟩
  · have h0 : (if 0 ≤ n ∧ n ≤ (μ 88 1) then 1 else 0 : Int) = (0 : Int) := h0
    have h0 := zif0 h0
    refine pm_blk hK zmm45 [] 1 16 [(2, 1), (0, n)] [(0, 0)] μ [] rfl trivial ?_
    have zn := zEd_n (n := n) (L := μ 88 1) (by omega)
    exact pm_zret rfl rfl (by first | exact Or.inl rfl | exact Or.inr rfl | omega) ⟨by rw [zn.1], hT, by rw [zn.2]⟩
set_option maxRecDepth 100000 in
theorem zl_ty (hK : zKK ST)  {v N : Int} (hN : N ≤ 400) (hb205 : sx_bit Wm 205 = true) (hb211 : sx_bit Wm 211 = true) (hbd : 0 ≤ bud.1 ∧ 0 ≤ bud.2.1) : ∀ (n : Nat) {z j : Int} {μ : pm_Mem}, j.toNat = n → ∀ (hj : 0 ≤ j ∧ j ≤ 4) (hz : z = 8 * j - 8) (hl : μ 205 11 + j = N) (hT : zTJ none μ), zW D Wm ST b0 l Sg zM135 bud (pm_X zM135 (fun st' μ' => st' = [] ∧ zTJ none μ' ∧ μ' 205 11 = N)) 3 [(2, 205), (0, v), (0, z)] [] μ := by
  intro n
  induction n using Nat.strongRecOn with
  | ind n ih =>
    intro z j μ hn hj hz hl hT
    refine pm_blk hK zmm135 [] 1 4 [(2, 205), (0, v), (0, z)] [(0, z)] μ [] rfl trivial ?_
    refine pm_if hK zmm135 .lt 35 39 rfl rfl (fun h0 => ?_) (fun h0 => ?_)
    · have h0 : z < (0 : Int) := h0
      exact pm_vret rfl rfl ⟨rfl, hT, by omega⟩
    · have h0 : (0 : Int) ≤ z := h0
      have fl := zT_get hT zs205_11 (i := 11) (by omega) (by omega)
      have f1 := zT_get hT zs205_11 (i := 11) (by omega) (by omega)
      refine pm_blk hK zmm135 [] 9 22 [(2, 205), (0, v), (0, z)] [(0, pm_and (pm_shr v z) 255), (0, μ 205 11), (2, 211)] μ [] rfl trivial ?_
      have b255 := zand255 (pm_shr v z)
      refine pm_blk hK zmm135 [] 1 23 [(2, 205), (0, v), (0, z)] [] (pm_up μ 211 (μ 205 11) (pm_and (pm_shr v z) 255)) [sx_bit Wm 211 = true, 0 ≤ μ 205 11 ∧ μ 205 11 < 400] rfl ⟨hb211, ⟨by omega, by omega⟩, trivial⟩ ?_
      obtain ⟨μ1, eμ1⟩ : ∃ μ', μ' = pm_up μ 211 (μ 205 11) (pm_and (pm_shr v z) 255) := ⟨_, rfl⟩
      rw [← eμ1]
      have hTμ1 : zTJ none μ1 := by rw [eμ1]; exact zT_upn hT zs211_0 rfl (i := μ 205 11) (by omega) (by omega) (by omega) (by omega)
      have g2 : μ1 205 11 = μ 205 11 := by rw [eμ1, pm_up_off (by decide)]
      have f3 := zT_get hTμ1 zs205_11 (i := 11) (by omega) (by omega)
      refine pm_blk hK zmm135 [] 6 33 [(2, 205), (0, v), (0, z)] [] (pm_up μ1 205 11 ((μ1 205 11) + 1)) [pm_in ((μ1 205 11) + 1), sx_bit Wm 205 = true] rfl ⟨pm_in_mk (by omega) (by omega), hb205, trivial⟩ ?_
      obtain ⟨μ2, eμ2⟩ : ∃ μ', μ' = pm_up μ1 205 11 ((μ1 205 11) + 1) := ⟨_, rfl⟩
      rw [← eμ2]
      have hTμ2 : zTJ none μ2 := by rw [eμ2]; exact zT_upn hTμ1 zs205_11 rfl (i := 11) (by omega) (by omega) (by omega) (by omega)
      refine pm_blk hK zmm135 [] 2 3 [(2, 205), (0, v), (0, z + (-8))] [] μ2 [pm_in (z + (-8))] rfl ⟨pm_in_mk (by omega) (by omega), trivial⟩ ?_
      have a2 : μ2 205 11 = μ 205 11 + 1 := by rw [eμ2, pm_up_eq, eμ1, pm_up_off (by decide)]
      exact ih (j - 1).toNat (by omega) (j := j - 1) rfl ⟨by omega, by omega⟩ (by omega) (by omega) hTμ2
set_option maxRecDepth 100000 in
theorem zh_types (hK : zKK ST) {v : Int} (hT : zTJ none μ) (hN : μ 205 11 ≤ 396) (hb205 : sx_bit Wm 205 = true) (hb211 : sx_bit Wm 211 = true) (hbd : 0 ≤ bud.1 ∧ 0 ≤ bud.2.1) : zC D Wm ST b0 l Sg zM135 bud [(2, 205), (0, v)] μ (fun st' μ' => st' = [] ∧ zTJ none μ' ∧ μ' 205 11 = μ 205 11 + 4) := by
  refine pm_blk hK zmm135 [] 2 3 [(2, 205), (0, v), (0, 24)] [] μ [] rfl trivial ?_
  exact zl_ty hK (N := μ 205 11 + 4) (by omega) hb205 hb211 hbd _ (j := 4) rfl ⟨by omega, by omega⟩ (by omega) rfl hT
set_option maxRecDepth 100000 in
theorem zh_feedm (hK : zKK ST) {a b c d e : Int} (hT : zTJ none μ) (hb205 : sx_bit Wm 205 = true) (hb211 : sx_bit Wm 211 = true) (hbd : 1 ≤ bud.1 ∧ 40 ≤ bud.2.1) : zC D Wm ST b0 l Sg zM134 bud [(2, 205), (0, a), (0, b), (0, c), (0, d), (0, e)] μ (fun st' μ' => st' = [(0, zFd (μ 205 11))] ∧ zTJ none μ' ∧ μ' 205 11 = zFe (μ 205 11)) := by
  refine pm_blk hK zmm134 [] 3 5 [(2, 205), (0, a), (0, b), (0, c), (0, d), (0, e)] [] (pm_up μ 205 0 0) [sx_bit Wm 205 = true] rfl ⟨hb205, trivial⟩ ?_
  obtain ⟨μ1, eμ1⟩ : ∃ μ', μ' = pm_up μ 205 0 0 := ⟨_, rfl⟩
  rw [← eμ1]
  have hTμ1 : zTJ none μ1 := by rw [eμ1]; exact zT_upn hT zs205_0 rfl (i := 0) (by omega) (by omega) (by omega) (by omega)
  have b3 : μ1 205 11 = μ 205 11 := by rw [eμ1, pm_up_ne (by decide)]
  have f1 := zT_get hTμ1 zs205_11 (i := 11) (by omega) (by omega)
  refine pm_blk hK zmm134 [] 3 12 [(2, 205), (0, a), (0, b), (0, c), (0, d), (0, e)] [(0, 380), (0, μ1 205 11)] μ1 [] rfl trivial ?_
  refine pm_icmp hK zmm134 .le 5 17 rfl rfl (fun h0 => ?_) (fun h0 => ?_)
  · have h0 : μ1 205 11 ≤ (380 : Int) := h0
    refine pm_blk hK zmm134 [] 2 19 [(2, 205), (0, a), (0, b), (0, c), (0, d), (0, e)] [(0, a), (2, 205)] μ1 [] rfl trivial ?_
    refine pm_call hK zmm134 (172, 0, 135, 1) zM135 (0, 0) [(2, 205), (0, a)] [] rfl rfl rfl rfl ⟨by omega, by rw [zn135]; omega⟩ (zh_types hK (v := a) hTμ1 (by omega) hb205 hb211 ⟨Nat.le_refl _, Nat.le_refl _⟩) (fun st1 μc1 hp1 => ?_)
    obtain ⟨rfl, hTc1, hq1⟩ := hp1
    refine pm_blk hK zmm134 [] 2 24 [(2, 205), (0, a), (0, b), (0, c), (0, d), (0, e)] [(0, b), (2, 205)] μc1 [] rfl trivial ?_
    refine pm_call hK zmm134 (172, 0, 135, 1) zM135 (0, 0) [(2, 205), (0, b)] [] rfl rfl rfl rfl ⟨by omega, by rw [zn135]; omega⟩ (zh_types hK (v := b) hTc1 (by omega) hb205 hb211 ⟨Nat.le_refl _, Nat.le_refl _⟩) (fun st2 μc2 hp2 => ?_)
    obtain ⟨rfl, hTc2, hq2⟩ := hp2
    refine pm_blk hK zmm134 [] 2 29 [(2, 205), (0, a), (0, b), (0, c), (0, d), (0, e)] [(0, c), (2, 205)] μc2 [] rfl trivial ?_
    refine pm_call hK zmm134 (172, 0, 135, 1) zM135 (0, 0) [(2, 205), (0, c)] [] rfl rfl rfl rfl ⟨by omega, by rw [zn135]; omega⟩ (zh_types hK (v := c) hTc2 (by omega) hb205 hb211 ⟨Nat.le_refl _, Nat.le_refl _⟩) (fun st3 μc3 hp3 => ?_)
    obtain ⟨rfl, hTc3, hq3⟩ := hp3
    refine pm_blk hK zmm134 [] 2 35 [(2, 205), (0, a), (0, b), (0, c), (0, d), (0, e)] [(0, d), (2, 205)] μc3 [] rfl trivial ?_
    refine pm_call hK zmm134 (172, 0, 135, 1) zM135 (0, 0) [(2, 205), (0, d)] [] rfl rfl rfl rfl ⟨by omega, by rw [zn135]; omega⟩ (zh_types hK (v := d) hTc3 (by omega) hb205 hb211 ⟨Nat.le_refl _, Nat.le_refl _⟩) (fun st4 μc4 hp4 => ?_)
    obtain ⟨rfl, hTc4, hq4⟩ := hp4
    refine pm_blk hK zmm134 [] 2 41 [(2, 205), (0, a), (0, b), (0, c), (0, d), (0, e)] [(0, e), (2, 205)] μc4 [] rfl trivial ?_
    refine pm_call hK zmm134 (172, 0, 135, 1) zM135 (0, 0) [(2, 205), (0, e)] [] rfl rfl rfl rfl ⟨by omega, by rw [zn135]; omega⟩ (zh_types hK (v := e) hTc4 (by omega) hb205 hb211 ⟨Nat.le_refl _, Nat.le_refl _⟩) (fun st5 μc5 hp5 => ?_)
    obtain ⟨rfl, hTc5, hq5⟩ := hp5
    have f2 := zT_get hTc5 zs205_11 (i := 11) (by omega) (by omega)
    refine pm_blk hK zmm134 [] 2 48 [(2, 205), (0, a), (0, b), (0, c), (0, d), (0, e)] [(0, μc5 205 11)] μc5 [] rfl trivial ?_
    have zn := zFd_y (L := μ 205 11) (by omega)
    exact pm_iret rfl rfl ⟨by rw [zn.1, show μc5 205 11 = μ 205 11 + 20 by omega], hTc5, by rw [zn.2]; omega⟩
  · have h0 : (380 : Int) < μ1 205 11 := h0
    refine pm_blk hK zmm134 [] 1 16 [(2, 205), (0, a), (0, b), (0, c), (0, d), (0, e)] [(0, (-1))] μ1 [] rfl trivial ?_
    have zn := zFd_n (L := μ 205 11) (by omega)
    exact pm_iret rfl rfl ⟨by rw [zn.1], hTμ1, by rw [zn.2]; omega⟩
set_option maxRecDepth 100000 in
theorem zh_endm (hK : zKK ST) {n : Int} (hT : zTJ none μ) (hb205 : sx_bit Wm 205 = true) (hbd : 1 ≤ bud.1 ∧ 40 ≤ bud.2.1) : zC D Wm ST b0 l Sg zM136 bud [(2, 205), (0, n)] μ (fun st' μ' => st' = [(0, zEd n (μ 205 11))] ∧ zTJ none μ' ∧ μ' 205 11 = zEe n (μ 205 11)) := by
  have fl := zT_get hT zs205_11 (i := 11) (by omega) (by omega)
  refine pm_blk hK zmm136 [] 3 5 [(2, 205), (0, n)] [] (pm_up μ 205 0 0) [sx_bit Wm 205 = true] rfl ⟨hb205, trivial⟩ ?_
  obtain ⟨μ1, eμ1⟩ : ∃ μ', μ' = pm_up μ 205 0 0 := ⟨_, rfl⟩
  rw [← eμ1]
  have hTμ1 : zTJ none μ1 := by rw [eμ1]; exact zT_upn hT zs205_0 rfl (i := 0) (by omega) (by omega) (by omega) (by omega)
  have b3 : μ1 205 11 = μ 205 11 := by rw [eμ1, pm_up_ne (by decide)]
  have f1 := zT_get hTμ1 zs205_11 (i := 11) (by omega) (by omega)
  refine pm_blk hK zmm136 [] 5 12 [(2, 205), (0, n)] [(0, μ1 205 11), (0, 0), (0, n), (2, 205)] μ1 [] rfl trivial ?_
  refine pm_call hK zmm136 (158, 0, 129, 3) zM129 (0, 0) [(2, 205), (0, n), (0, 0), (0, μ1 205 11)] [] rfl rfl rfl rfl ⟨by omega, by rw [zn129]; omega⟩ (zh_isIn hK ⟨by omega, by omega⟩) (fun st1 μc1 hp1 => ?_)
  obtain ⟨rfl, rfl⟩ := hp1
  refine pm_if hK zmm136 .ne 5 20 rfl rfl (fun h0 => ?_) (fun h0 => ?_)
  · have h0 : (if 0 ≤ n ∧ n ≤ (μ1 205 11) then 1 else 0 : Int) ≠ (0 : Int) := h0
    have h0 := zif1 h0
    refine pm_blk hK zmm136 [] 3 25 [(2, 205), (0, n)] [] (pm_up μ1 205 11 n) [sx_bit Wm 205 = true] rfl ⟨hb205, trivial⟩ ?_
    obtain ⟨μ2, eμ2⟩ : ∃ μ', μ' = pm_up μ1 205 11 n := ⟨_, rfl⟩
    rw [← eμ2]
    have hTμ2 : zTJ none μ2 := by rw [eμ2]; exact zT_upn hTμ1 zs205_11 rfl (i := 11) (by omega) (by omega) (by omega) (by omega)
    refine pm_blk hK zmm136 [] 1 26 [(2, 205), (0, n)] [(0, 1)] μ2 [] rfl trivial ?_
    have zn := zEd_y (n := n) (L := μ 205 11) (by omega)
    exact pm_zret rfl rfl (by first | exact Or.inl rfl | exact Or.inr rfl | omega) ⟨by rw [zn.1], hTμ2, by rw [zn.2, eμ2, pm_up_eq]⟩
  · have h0 : (if 0 ≤ n ∧ n ≤ (μ1 205 11) then 1 else 0 : Int) = (0 : Int) := h0
    have h0 := zif0 h0
    refine pm_blk hK zmm136 [] 1 19 [(2, 205), (0, n)] [(0, 0)] μ1 [] rfl trivial ?_
    have zn := zEd_n (n := n) (L := μ 205 11) (by omega)
    exact pm_zret rfl rfl (by first | exact Or.inl rfl | exact Or.inr rfl | omega) ⟨by rw [zn.1], hTμ1, by rw [zn.2]; omega⟩
set_option maxRecDepth 100000 in
theorem zh_textm (hK : zKK ST) {kind : Int} (hw : sx_Wd zNR zRT2 B0 Sg) (hC432 : zCK none D ST B0 l Sg zC432) (hs432 : sx_subm zC432.2.2.2.2.2 Wm = true) (hC433 : zCK none D ST B0 l Sg zC433) (hs433 : sx_subm zC433.2.2.2.2.2 Wm = true) (hT : zTJ none μ) (hb205 : sx_bit Wm 205 = true) (hb213 : sx_bit Wm 213 = true) (hb214 : sx_bit Wm 214 = true) (hb215 : sx_bit Wm 215 = true) (hb216 : sx_bit Wm 216 = true) (hb217 : sx_bit Wm 217 = true) (hb218 : sx_bit Wm 218 = true) (hb219 : sx_bit Wm 219 = true) (hb220 : sx_bit Wm 220 = true) (hb221 : sx_bit Wm 221 = true) (hb222 : sx_bit Wm 222 = true) (hb223 : sx_bit Wm 223 = true) (hbd : 10 ≤ bud.1 ∧ 215 ≤ bud.2.1) : zC D Wm ST (sx_bW zRT2 Wm B0 Sg, J) l Sg zM137 bud [(2, 205), (0, kind)] μ (fun st' μ' => (∃ x, st' = [(0, x)]) ∧ zTJ none μ' ∧ μ' 205 11 = 0) := by
  refine pm_blk hK zmm137 [] 3 5 [(2, 205), (0, kind), (9, 0)] [] (pm_up μ 205 0 0) [sx_bit Wm 205 = true] rfl ⟨hb205, trivial⟩ ?_
  obtain ⟨μ1, eμ1⟩ : ∃ μ', μ' = pm_up μ 205 0 0 := ⟨_, rfl⟩
  rw [← eμ1]
  have hTμ1 : zTJ none μ1 := by rw [eμ1]; exact zT_upn hT zs205_0 rfl (i := 0) (by omega) (by omega) (by omega) (by omega)
  refine pm_blk hK zmm137 [] 3 10 [(2, 205), (0, kind), (9, 0)] [] (pm_up μ1 205 31 0) [sx_bit Wm 205 = true] rfl ⟨hb205, trivial⟩ ?_
  obtain ⟨μ2, eμ2⟩ : ∃ μ', μ' = pm_up μ1 205 31 0 := ⟨_, rfl⟩
  rw [← eμ2]
  have hTμ2 : zTJ none μ2 := by rw [eμ2]; exact zT_upn hTμ1 zs205_31 rfl (i := 31) (by omega) (by omega) (by omega) (by omega)
  refine pm_blk hK zmm137 [] 3 15 [(2, 205), (0, kind), (9, 0)] [] (pm_up μ2 205 32 ((-1))) [sx_bit Wm 205 = true] rfl ⟨hb205, trivial⟩ ?_
  obtain ⟨μ3, eμ3⟩ : ∃ μ', μ' = pm_up μ2 205 32 ((-1)) := ⟨_, rfl⟩
  rw [← eμ3]
  have hTμ3 : zTJ none μ3 := by rw [eμ3]; exact zT_upn hTμ2 zs205_32 rfl (i := 32) (by omega) (by omega) (by omega) (by omega)
  refine pm_blk hK zmm137 [] 3 20 [(2, 205), (0, kind), (9, 0)] [] (pm_up μ3 205 12 0) [sx_bit Wm 205 = true] rfl ⟨hb205, trivial⟩ ?_
  obtain ⟨μ4, eμ4⟩ : ∃ μ', μ' = pm_up μ3 205 12 0 := ⟨_, rfl⟩
  rw [← eμ4]
  have hTμ4 : zTJ none μ4 := by rw [eμ4]; exact zT_upn hTμ3 zs205_12 rfl (i := 12) (by omega) (by omega) (by omega) (by omega)
  refine pm_blk hK zmm137 [] 3 25 [(2, 205), (0, kind), (9, 0)] [] (pm_up μ4 205 25 0) [sx_bit Wm 205 = true] rfl ⟨hb205, trivial⟩ ?_
  obtain ⟨μ5, eμ5⟩ : ∃ μ', μ' = pm_up μ4 205 25 0 := ⟨_, rfl⟩
  rw [← eμ5]
  have hTμ5 : zTJ none μ5 := by rw [eμ5]; exact zT_upn hTμ4 zs205_25 rfl (i := 25) (by omega) (by omega) (by omega) (by omega)
  refine pm_blk hK zmm137 [] 3 30 [(2, 205), (0, kind), (9, 0)] [] (pm_up μ5 205 26 0) [sx_bit Wm 205 = true] rfl ⟨hb205, trivial⟩ ?_
  obtain ⟨μ6, eμ6⟩ : ∃ μ', μ' = pm_up μ5 205 26 0 := ⟨_, rfl⟩
  rw [← eμ6]
  have hTμ6 : zTJ none μ6 := by rw [eμ6]; exact zT_upn hTμ5 zs205_26 rfl (i := 26) (by omega) (by omega) (by omega) (by omega)
  have z12 : μ6 205 12 = 0 := by rw [eμ6, pm_up_ne (by decide), eμ5, pm_up_ne (by decide), eμ4, pm_up_eq]
  have z25 : μ6 205 25 = 0 := by rw [eμ6, pm_up_ne (by decide), eμ5, pm_up_eq]
  have z26 : μ6 205 26 = 0 := by rw [eμ6, pm_up_eq]
  refine pm_blk hK zmm137 [] 6 36 [(2, 205), (0, kind), (0, (-1))] [(0, 3), (0, 0), (0, kind), (2, 205)] μ6 [] rfl trivial ?_
  refine pm_call hK zmm137 (158, 0, 129, 3) zM129 (0, 0) [(2, 205), (0, kind), (0, 0), (0, 3)] [] rfl rfl rfl rfl ⟨by omega, by rw [zn129]; omega⟩ (zh_isIn hK ⟨by omega, by omega⟩) (fun st1 μc1 hp1 => ?_)
  obtain ⟨rfl, rfl⟩ := hp1
  refine pm_if hK zmm137 .eq 30 69 rfl rfl (fun h0 => ?_) (fun h0 => ?_)
  · have h0 : (if 0 ≤ kind ∧ kind ≤ 3 then 1 else 0 : Int) = (0 : Int) := h0
    have h0 := zif0 h0
    refine pm_blk hK zmm137 [] 3 74 [(2, 205), (0, kind), (0, (-1))] [] (pm_up μ6 205 11 0) [sx_bit Wm 205 = true] rfl ⟨hb205, trivial⟩ ?_
    obtain ⟨μ7, eμ7⟩ : ∃ μ', μ' = pm_up μ6 205 11 0 := ⟨_, rfl⟩
    rw [← eμ7]
    have hTμ7 : zTJ none μ7 := by rw [eμ7]; exact zT_upn hTμ6 zs205_11 rfl (i := 11) (by omega) (by omega) (by omega) (by omega)
    have z11 : μ7 205 11 = 0 := by rw [eμ7, pm_up_eq]
    refine pm_blk hK zmm137 [] 2 76 [(2, 205), (0, kind), (0, (-1))] [(0, (-1)), (0, (-1))] μ7 [] rfl trivial ?_
    refine pm_icmp hK zmm137 .ne 5 81 rfl rfl (fun h1 => ?_) (fun h1 => ?_)
    · have h1 : ((-1) : Int) ≠ ((-1) : Int) := h1
      exact absurd h1 (by decide)
    · have h1 : ((-1) : Int) = ((-1) : Int) := h1
      refine pm_blk hK zmm137 [] 1 80 [(2, 205), (0, kind), (0, (-1))] [(0, (-1))] μ7 [] rfl trivial ?_
      exact pm_iret rfl rfl ⟨⟨_, rfl⟩, hTμ7, z11⟩
  · have h0 : (if 0 ≤ kind ∧ kind ≤ 3 then 1 else 0 : Int) ≠ (0 : Int) := h0
    have h0 := zif1 h0
    refine pm_blk hK zmm137 [] 2 44 [(2, 205), (0, kind), (0, (-1))] [(0, kind), (2, 205)] μ6 [] rfl trivial ?_
    refine pm_call hK zmm137 (316, 0, 138, 1) zM138 (9, 194) [(2, 205), (0, kind)] [] rfl rfl rfl rfl ⟨by omega, by rw [zn138]; omega⟩ (zh_readsText hK (kind := kind) hw hC432 hs432 hC433 hs433 hTμ6 ⟨by omega, by omega⟩ z12 z25 z26 hb205 hb213 hb214 hb215 hb216 hb217 hb218 hb219 hb220 hb221 hb222 hb223 ⟨Nat.le_refl _, Nat.le_refl _⟩) (fun st2 μc2 hp2 => ?_)
    obtain ⟨x2, rfl, hx2, hy2, hTc2, hO2⟩ := hp2
    have hRT := hO2
    refine pm_blk hK zmm137 [] 3 50 [(2, 205), (0, kind), (0, x2)] [(0, (-1)), (0, x2)] μc2 [] rfl trivial ?_
    refine pm_icmp hK zmm137 .ne 19 69 rfl rfl (fun h2 => ?_) (fun h2 => ?_)
    · have h2 : x2 ≠ ((-1) : Int) := h2
      refine pm_blk hK zmm137 [] 3 74 [(2, 205), (0, kind), (0, x2)] [] (pm_up μc2 205 11 0) [sx_bit Wm 205 = true] rfl ⟨hb205, trivial⟩ ?_
      obtain ⟨μ8, eμ8⟩ : ∃ μ', μ' = pm_up μc2 205 11 0 := ⟨_, rfl⟩
      rw [← eμ8]
      have hTμ8 : zTJ none μ8 := by rw [eμ8]; exact zT_upn hTc2 zs205_11 rfl (i := 11) (by omega) (by omega) (by omega) (by omega)
      have z11 : μ8 205 11 = 0 := by rw [eμ8, pm_up_eq]
      refine pm_blk hK zmm137 [] 2 76 [(2, 205), (0, kind), (0, x2)] [(0, (-1)), (0, x2)] μ8 [] rfl trivial ?_
      refine pm_icmp hK zmm137 .ne 5 81 rfl rfl (fun h3 => ?_) (fun h3 => ?_)
      · have h3 : x2 ≠ ((-1) : Int) := h3
        refine pm_blk hK zmm137 [] 1 82 [(2, 205), (0, kind), (0, x2)] [(0, kind)] μ8 [] rfl trivial ?_
        refine pm_if hK zmm137 .ne 11 93 rfl rfl (fun h4 => ?_) (fun h4 => ?_)
        · have h4 : kind ≠ (0 : Int) := h4
          refine pm_blk hK zmm137 [] 3 96 [(2, 205), (0, kind), (0, x2)] [(0, x2), (0, kind), (2, 205)] μ8 [] rfl trivial ?_
          have hD2 : kind = 2 → zDr μ8 x2 := fun h2 => zDr_same ((hRT (by omega)).2 h2) (by rw [eμ8, pm_up_row (by decide)])
          refine pm_call hK zmm137 (322, 0, 148, 2) zM148 (0, 0) [(2, 205), (0, kind), (0, x2)] [] rfl rfl rfl rfl ⟨by omega, by rw [zn148]; omega⟩ (zh_takesOther (φ := some μ8) hK (kind := kind) (nn := x2) (zTJ_self hTμ8) ⟨by omega, by omega⟩ ⟨by omega, by omega⟩ hD2 hb205 hb221 hb222 hb223 ⟨Nat.le_refl _, Nat.le_refl _⟩) (fun st3 μc3 hp3 => ?_)
          obtain ⟨rfl, hTq3⟩ := hp3
          have hTc3 := zTJ_none hTq3
          have z11 : μc3 205 11 = 0 := (zTJ_fz hTq3 (205, 11) (by decide)).trans z11
          refine pm_blk hK zmm137 [] 1 100 [(2, 205), (0, kind), (0, x2)] [(0, x2)] μc3 [] rfl trivial ?_
          exact pm_iret rfl rfl ⟨⟨_, rfl⟩, hTc3, z11⟩
        · have h4 : kind = (0 : Int) := h4
          refine pm_blk hK zmm137 [] 2 87 [(2, 205), (0, kind), (0, x2)] [(0, x2), (2, 205)] μ8 [] rfl trivial ?_
          have hL2 := zLn_same (μ' := μ8) (fun r hr => by rw [eμ8, pm_up_row hr]) (by rw [eμ8, pm_up_ne (by decide)]) ((hRT (by omega)).1 (by omega))
          refine pm_call hK zmm137 (319, 0, 147, 1) zM147 (0, 0) [(2, 205), (0, x2)] [] rfl rfl rfl rfl ⟨by omega, by rw [zn147]; omega⟩ (zh_takesLaw (φ := some μ8) hK (nn := x2) (zTJ_self hTμ8) ⟨by omega, by omega⟩ hL2 hb213 hb214 hb215 hb216 hb217 hb218 hb219 ⟨Nat.le_refl _, Nat.le_refl _⟩) (fun st4 μc4 hp4 => ?_)
          obtain ⟨rfl, hTq4⟩ := hp4
          have hTc4 := zTJ_none hTq4
          have z11 : μc4 205 11 = 0 := (zTJ_fz hTq4 (205, 11) (by decide)).trans z11
          refine pm_blk hK zmm137 [] 2 100 [(2, 205), (0, kind), (0, x2)] [(0, x2)] μc4 [] rfl trivial ?_
          exact pm_iret rfl rfl ⟨⟨_, rfl⟩, hTc4, z11⟩
      · have h3 : x2 = ((-1) : Int) := h3
        exact absurd h3 h2
    · have h2 : x2 = ((-1) : Int) := h2
      have f1 := zT_get hTc2 zs205_29 (i := 29) (by omega) (by omega)
      refine pm_blk hK zmm137 [] 4 61 [(2, 205), (0, kind), (0, x2)] [] (pm_up μc2 205 31 (μc2 205 29)) [sx_bit Wm 205 = true] rfl ⟨hb205, trivial⟩ ?_
      obtain ⟨μ9, eμ9⟩ : ∃ μ', μ' = pm_up μc2 205 31 (μc2 205 29) := ⟨_, rfl⟩
      rw [← eμ9]
      have hTμ9 : zTJ none μ9 := by rw [eμ9]; exact zT_upn hTc2 zs205_31 rfl (i := 31) (by omega) (by omega) (by omega) (by omega)
      have f2 := zT_get hTμ9 zs205_30 (i := 30) (by omega) (by omega)
      refine pm_blk hK zmm137 [] 4 69 [(2, 205), (0, kind), (0, x2)] [] (pm_up μ9 205 32 (μ9 205 30)) [sx_bit Wm 205 = true] rfl ⟨hb205, trivial⟩ ?_
      obtain ⟨μ10, eμ10⟩ : ∃ μ', μ' = pm_up μ9 205 32 (μ9 205 30) := ⟨_, rfl⟩
      rw [← eμ10]
      have hTμ10 : zTJ none μ10 := by rw [eμ10]; exact zT_upn hTμ9 zs205_32 rfl (i := 32) (by omega) (by omega) (by omega) (by omega)
      refine pm_blk hK zmm137 [] 3 74 [(2, 205), (0, kind), (0, x2)] [] (pm_up μ10 205 11 0) [sx_bit Wm 205 = true] rfl ⟨hb205, trivial⟩ ?_
      obtain ⟨μ11, eμ11⟩ : ∃ μ', μ' = pm_up μ10 205 11 0 := ⟨_, rfl⟩
      rw [← eμ11]
      have hTμ11 : zTJ none μ11 := by rw [eμ11]; exact zT_upn hTμ10 zs205_11 rfl (i := 11) (by omega) (by omega) (by omega) (by omega)
      have z11 : μ11 205 11 = 0 := by rw [eμ11, pm_up_eq]
      refine pm_blk hK zmm137 [] 2 76 [(2, 205), (0, kind), (0, x2)] [(0, (-1)), (0, x2)] μ11 [] rfl trivial ?_
      refine pm_icmp hK zmm137 .ne 5 81 rfl rfl (fun h5 => ?_) (fun h5 => ?_)
      · have h5 : x2 ≠ ((-1) : Int) := h5
        exact absurd h2 h5
      · have h5 : x2 = ((-1) : Int) := h5
        refine pm_blk hK zmm137 [] 1 80 [(2, 205), (0, kind), (0, x2)] [(0, (-1))] μ11 [] rfl trivial ?_
        exact pm_iret rfl rfl ⟨⟨_, rfl⟩, hTμ11, z11⟩
end ZHW
