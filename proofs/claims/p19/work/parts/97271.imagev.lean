/-! the image of the class, told wholly, with its rows; walks printed by program (wip/p30/pmgen.py) and filled by hand -/
section ZHW
variable {D : va_G} {Wm : Nat} {ST : List (String × String × String × Nat)} {b0 : sx_B} {l : Launch} {Sg : Nat → Option Nat} {bud : sx_Bu} {μ : pm_Mem} {B0 : Nat → Prop} {J : (Nat → Option Nat) → Heap → Prop}
set_option maxRecDepth 100000 in
theorem zh_cp32 (hK : zKK ST) (hT : zTJ none μ) (hb32 : sx_bit Wm 32 = true) (hbd : 1 ≤ bud.1 ∧ 61 ≤ bud.2.1) : zC D Wm ST b0 l Sg zM29 bud [(2, 75), (2, 32)] μ (fun st' μ' => st' = [] ∧ zTJ none μ' ∧ (∀ q, q ≠ 32 → μ' q = μ q) ∧ ∀ i : Int, 0 ≤ i → i < 4 → μ' 32 i = μ 75 i) := by
  refine pm_blk hK zmm29 [] 8 8 [(2, 75), (2, 32)] [(0, 4), (0, 4), (0, 0), (2, 32), (0, 0), (2, 75)] μ [] rfl trivial ?_
  refine pm_call hK zmm29 (427, 1, 30, 2) zM30 (0, 0) [(0, 4), (0, 4)] [(0, 0), (2, 32), (0, 0), (2, 75)] rfl rfl rfl rfl ⟨by omega, by rw [zn30]; omega⟩ (zh_min hK ⟨Nat.le_refl _, Nat.le_refl _⟩) (fun st1 μc1 hp1 => ?_)
  obtain ⟨rfl, rfl⟩ := hp1
  refine zp_acq hK zmm29 (sp := 0) (dp := 0) (n := (min 4 4)) (g := zG32) (gs := zG75) rfl rfl rfl rfl rfl rfl rfl rfl rfl hb32 (by omega) (by omega) (by omega) (by show _ ≤ ((4 : Nat) : Int); omega) (by show _ ≤ ((4 : Nat) : Int); omega) (List.mem_of_getElem? (i := 0) rfl) rfl (Nat.le_of_ble_eq_true rfl) ⟨by omega, by omega⟩ ?_
  obtain ⟨μ1, eμ1⟩ : ∃ μ', μ' = pm_cq μ 32 75 0 0 (min 4 4) := ⟨_, rfl⟩
  rw [← eμ1]
  have hTμ1 : zTJ none μ1 := by rw [eμ1]; exact zT_cq hT zs32_0 zs75_0 (by omega) (by omega) rfl (by omega) (by omega) (by omega) (by omega)
  exact pm_vret rfl rfl ⟨rfl, hTμ1, fun q hq => by rw [eμ1, pm_cq_row hq], fun i i0 i1 => by rw [eμ1, pm_cq_at (n := min 4 4) i0 (by omega)]⟩
set_option maxRecDepth 100000 in
theorem zh_rv31 (hK : zKK ST) (hT : zTJ none μ) (hb31 : sx_bit Wm 31 = true) (hb32 : sx_bit Wm 32 = true) (hbd : 2 ≤ bud.1 ∧ 85 ≤ bud.2.1) : zC D Wm ST b0 l Sg zM121 bud [(2, 31), (2, 74)] μ (fun st' μ' => st' = [] ∧ zTJ none μ' ∧ (∀ q ∈ zRq, q ≠ (31, 1) → μ' q.1 (q.2 : Int) = μ q.1 (q.2 : Int)) ∧ μ' 31 1 = μ 74 1 ∧ (∀ q ∈ zRa, q.1 ≠ 32 → ∀ i : Int, 0 ≤ i → i < q.2 → μ' q.1 i = μ q.1 i) ∧ ∀ i : Int, 0 ≤ i → i < (4 : Nat) → μ' 32 i = μ 75 i) := by
  refine pm_blk hK zmm121 [] 4 8 [(2, 31), (2, 74)] [(2, 32), (2, 75)] μ [] rfl trivial ?_
  refine pm_call hK zmm121 (23, 1, 29, 2) zM29 (1, 61) [(2, 75), (2, 32)] [] rfl rfl rfl rfl ⟨by omega, by rw [zn29]; omega⟩ (zh_cp32 hK hT hb32 ⟨Nat.le_refl _, Nat.le_refl _⟩) (fun st1 μc1 hp1 => ?_)
  obtain ⟨rfl, hTc1, nn1, nv1⟩ := hp1
  have f1 := zT_get hTc1 zs74_1 (i := 1) (by omega) (by omega)
  refine pm_blk hK zmm121 [] 4 19 [(2, 31), (2, 74)] [] (pm_up μc1 31 1 (μc1 74 1)) [sx_bit Wm 31 = true] rfl ⟨hb31, trivial⟩ ?_
  obtain ⟨μ1, eμ1⟩ : ∃ μ', μ' = pm_up μc1 31 1 (μc1 74 1) := ⟨_, rfl⟩
  rw [← eμ1]
  have hTμ1 : zTJ none μ1 := by rw [eμ1]; exact zT_upn hTc1 zs31_1 rfl (i := 1) (by omega) (by omega) (by omega) (by omega)
  exact pm_vret rfl rfl ⟨rfl, hTμ1, fun q hq hne => by rw [eμ1, pm_upq (k := 1) (i := 1) rfl hne, nn1 q.1 ((show ∀ q ∈ zRq, q.1 ≠ 32 by decide) q hq)], by rw [eμ1, pm_up_eq, nn1 74 (by decide)], fun q hq hne i i0 i1 => by rw [eμ1, pm_up_off ((show ∀ q ∈ zRa, q.1 ≠ 31 by decide) q hq), nn1 q.1 hne], fun i i0 i1 => by rw [eμ1, pm_up_off (by decide)]; exact nv1 i i0 (by omega)⟩
set_option maxRecDepth 100000 in
theorem zh_cp34 (hK : zKK ST) (hT : zTJ none μ) (hb34 : sx_bit Wm 34 = true) (hbd : 1 ≤ bud.1 ∧ 61 ≤ bud.2.1) : zC D Wm ST b0 l Sg zM29 bud [(2, 77), (2, 34)] μ (fun st' μ' => st' = [] ∧ zTJ none μ' ∧ (∀ q, q ≠ 34 → μ' q = μ q) ∧ ∀ i : Int, 0 ≤ i → i < 10 → μ' 34 i = μ 77 i) := by
  refine pm_blk hK zmm29 [] 8 8 [(2, 77), (2, 34)] [(0, 10), (0, 10), (0, 0), (2, 34), (0, 0), (2, 77)] μ [] rfl trivial ?_
  refine pm_call hK zmm29 (427, 1, 30, 2) zM30 (0, 0) [(0, 10), (0, 10)] [(0, 0), (2, 34), (0, 0), (2, 77)] rfl rfl rfl rfl ⟨by omega, by rw [zn30]; omega⟩ (zh_min hK ⟨Nat.le_refl _, Nat.le_refl _⟩) (fun st1 μc1 hp1 => ?_)
  obtain ⟨rfl, rfl⟩ := hp1
  refine zp_acq hK zmm29 (sp := 0) (dp := 0) (n := (min 10 10)) (g := zG34) (gs := zG77) rfl rfl rfl rfl rfl rfl rfl rfl rfl hb34 (by omega) (by omega) (by omega) (by show _ ≤ ((10 : Nat) : Int); omega) (by show _ ≤ ((10 : Nat) : Int); omega) (List.mem_of_getElem? (i := 0) rfl) rfl (Nat.le_of_ble_eq_true rfl) ⟨by omega, by omega⟩ ?_
  obtain ⟨μ1, eμ1⟩ : ∃ μ', μ' = pm_cq μ 34 77 0 0 (min 10 10) := ⟨_, rfl⟩
  rw [← eμ1]
  have hTμ1 : zTJ none μ1 := by rw [eμ1]; exact zT_cq hT zs34_0 zs77_0 (by omega) (by omega) rfl (by omega) (by omega) (by omega) (by omega)
  exact pm_vret rfl rfl ⟨rfl, hTμ1, fun q hq => by rw [eμ1, pm_cq_row hq], fun i i0 i1 => by rw [eμ1, pm_cq_at (n := min 10 10) i0 (by omega)]⟩
set_option maxRecDepth 100000 in
theorem zh_rv33 (hK : zKK ST) (hT : zTJ none μ) (hb33 : sx_bit Wm 33 = true) (hb34 : sx_bit Wm 34 = true) (hbd : 2 ≤ bud.1 ∧ 85 ≤ bud.2.1) : zC D Wm ST b0 l Sg zM121 bud [(2, 33), (2, 76)] μ (fun st' μ' => st' = [] ∧ zTJ none μ' ∧ (∀ q ∈ zRq, q ≠ (33, 1) → μ' q.1 (q.2 : Int) = μ q.1 (q.2 : Int)) ∧ μ' 33 1 = μ 76 1 ∧ (∀ q ∈ zRa, q.1 ≠ 34 → ∀ i : Int, 0 ≤ i → i < q.2 → μ' q.1 i = μ q.1 i) ∧ ∀ i : Int, 0 ≤ i → i < (10 : Nat) → μ' 34 i = μ 77 i) := by
  refine pm_blk hK zmm121 [] 4 8 [(2, 33), (2, 76)] [(2, 34), (2, 77)] μ [] rfl trivial ?_
  refine pm_call hK zmm121 (23, 1, 29, 2) zM29 (1, 61) [(2, 77), (2, 34)] [] rfl rfl rfl rfl ⟨by omega, by rw [zn29]; omega⟩ (zh_cp34 hK hT hb34 ⟨Nat.le_refl _, Nat.le_refl _⟩) (fun st1 μc1 hp1 => ?_)
  obtain ⟨rfl, hTc1, nn1, nv1⟩ := hp1
  have f1 := zT_get hTc1 zs76_1 (i := 1) (by omega) (by omega)
  refine pm_blk hK zmm121 [] 4 19 [(2, 33), (2, 76)] [] (pm_up μc1 33 1 (μc1 76 1)) [sx_bit Wm 33 = true] rfl ⟨hb33, trivial⟩ ?_
  obtain ⟨μ1, eμ1⟩ : ∃ μ', μ' = pm_up μc1 33 1 (μc1 76 1) := ⟨_, rfl⟩
  rw [← eμ1]
  have hTμ1 : zTJ none μ1 := by rw [eμ1]; exact zT_upn hTc1 zs33_1 rfl (i := 1) (by omega) (by omega) (by omega) (by omega)
  exact pm_vret rfl rfl ⟨rfl, hTμ1, fun q hq hne => by rw [eμ1, pm_upq (k := 1) (i := 1) rfl hne, nn1 q.1 ((show ∀ q ∈ zRq, q.1 ≠ 34 by decide) q hq)], by rw [eμ1, pm_up_eq, nn1 76 (by decide)], fun q hq hne i i0 i1 => by rw [eμ1, pm_up_off ((show ∀ q ∈ zRa, q.1 ≠ 33 by decide) q hq), nn1 q.1 hne], fun i i0 i1 => by rw [eμ1, pm_up_off (by decide)]; exact nv1 i i0 (by omega)⟩
set_option maxRecDepth 100000 in
theorem zh_cp36 (hK : zKK ST) (hT : zTJ none μ) (hb36 : sx_bit Wm 36 = true) (hbd : 1 ≤ bud.1 ∧ 61 ≤ bud.2.1) : zC D Wm ST b0 l Sg zM29 bud [(2, 79), (2, 36)] μ (fun st' μ' => st' = [] ∧ zTJ none μ' ∧ (∀ q, q ≠ 36 → μ' q = μ q) ∧ ∀ i : Int, 0 ≤ i → i < 10 → μ' 36 i = μ 79 i) := by
  refine pm_blk hK zmm29 [] 8 8 [(2, 79), (2, 36)] [(0, 10), (0, 10), (0, 0), (2, 36), (0, 0), (2, 79)] μ [] rfl trivial ?_
  refine pm_call hK zmm29 (427, 1, 30, 2) zM30 (0, 0) [(0, 10), (0, 10)] [(0, 0), (2, 36), (0, 0), (2, 79)] rfl rfl rfl rfl ⟨by omega, by rw [zn30]; omega⟩ (zh_min hK ⟨Nat.le_refl _, Nat.le_refl _⟩) (fun st1 μc1 hp1 => ?_)
  obtain ⟨rfl, rfl⟩ := hp1
  refine zp_acq hK zmm29 (sp := 0) (dp := 0) (n := (min 10 10)) (g := zG36) (gs := zG79) rfl rfl rfl rfl rfl rfl rfl rfl rfl hb36 (by omega) (by omega) (by omega) (by show _ ≤ ((10 : Nat) : Int); omega) (by show _ ≤ ((10 : Nat) : Int); omega) (List.mem_of_getElem? (i := 0) rfl) rfl (Nat.le_of_ble_eq_true rfl) ⟨by omega, by omega⟩ ?_
  obtain ⟨μ1, eμ1⟩ : ∃ μ', μ' = pm_cq μ 36 79 0 0 (min 10 10) := ⟨_, rfl⟩
  rw [← eμ1]
  have hTμ1 : zTJ none μ1 := by rw [eμ1]; exact zT_cq hT zs36_0 zs79_0 (by omega) (by omega) rfl (by omega) (by omega) (by omega) (by omega)
  exact pm_vret rfl rfl ⟨rfl, hTμ1, fun q hq => by rw [eμ1, pm_cq_row hq], fun i i0 i1 => by rw [eμ1, pm_cq_at (n := min 10 10) i0 (by omega)]⟩
set_option maxRecDepth 100000 in
theorem zh_rv35 (hK : zKK ST) (hT : zTJ none μ) (hb35 : sx_bit Wm 35 = true) (hb36 : sx_bit Wm 36 = true) (hbd : 2 ≤ bud.1 ∧ 85 ≤ bud.2.1) : zC D Wm ST b0 l Sg zM121 bud [(2, 35), (2, 78)] μ (fun st' μ' => st' = [] ∧ zTJ none μ' ∧ (∀ q ∈ zRq, q ≠ (35, 1) → μ' q.1 (q.2 : Int) = μ q.1 (q.2 : Int)) ∧ μ' 35 1 = μ 78 1 ∧ (∀ q ∈ zRa, q.1 ≠ 36 → ∀ i : Int, 0 ≤ i → i < q.2 → μ' q.1 i = μ q.1 i) ∧ ∀ i : Int, 0 ≤ i → i < (10 : Nat) → μ' 36 i = μ 79 i) := by
  refine pm_blk hK zmm121 [] 4 8 [(2, 35), (2, 78)] [(2, 36), (2, 79)] μ [] rfl trivial ?_
  refine pm_call hK zmm121 (23, 1, 29, 2) zM29 (1, 61) [(2, 79), (2, 36)] [] rfl rfl rfl rfl ⟨by omega, by rw [zn29]; omega⟩ (zh_cp36 hK hT hb36 ⟨Nat.le_refl _, Nat.le_refl _⟩) (fun st1 μc1 hp1 => ?_)
  obtain ⟨rfl, hTc1, nn1, nv1⟩ := hp1
  have f1 := zT_get hTc1 zs78_1 (i := 1) (by omega) (by omega)
  refine pm_blk hK zmm121 [] 4 19 [(2, 35), (2, 78)] [] (pm_up μc1 35 1 (μc1 78 1)) [sx_bit Wm 35 = true] rfl ⟨hb35, trivial⟩ ?_
  obtain ⟨μ1, eμ1⟩ : ∃ μ', μ' = pm_up μc1 35 1 (μc1 78 1) := ⟨_, rfl⟩
  rw [← eμ1]
  have hTμ1 : zTJ none μ1 := by rw [eμ1]; exact zT_upn hTc1 zs35_1 rfl (i := 1) (by omega) (by omega) (by omega) (by omega)
  exact pm_vret rfl rfl ⟨rfl, hTμ1, fun q hq hne => by rw [eμ1, pm_upq (k := 1) (i := 1) rfl hne, nn1 q.1 ((show ∀ q ∈ zRq, q.1 ≠ 36 by decide) q hq)], by rw [eμ1, pm_up_eq, nn1 78 (by decide)], fun q hq hne i i0 i1 => by rw [eμ1, pm_up_off ((show ∀ q ∈ zRa, q.1 ≠ 35 by decide) q hq), nn1 q.1 hne], fun i i0 i1 => by rw [eμ1, pm_up_off (by decide)]; exact nv1 i i0 (by omega)⟩
set_option maxRecDepth 100000 in
theorem zh_cp38 (hK : zKK ST) (hT : zTJ none μ) (hb38 : sx_bit Wm 38 = true) (hbd : 1 ≤ bud.1 ∧ 61 ≤ bud.2.1) : zC D Wm ST b0 l Sg zM29 bud [(2, 81), (2, 38)] μ (fun st' μ' => st' = [] ∧ zTJ none μ' ∧ (∀ q, q ≠ 38 → μ' q = μ q) ∧ ∀ i : Int, 0 ≤ i → i < 8 → μ' 38 i = μ 81 i) := by
  refine pm_blk hK zmm29 [] 8 8 [(2, 81), (2, 38)] [(0, 8), (0, 8), (0, 0), (2, 38), (0, 0), (2, 81)] μ [] rfl trivial ?_
  refine pm_call hK zmm29 (427, 1, 30, 2) zM30 (0, 0) [(0, 8), (0, 8)] [(0, 0), (2, 38), (0, 0), (2, 81)] rfl rfl rfl rfl ⟨by omega, by rw [zn30]; omega⟩ (zh_min hK ⟨Nat.le_refl _, Nat.le_refl _⟩) (fun st1 μc1 hp1 => ?_)
  obtain ⟨rfl, rfl⟩ := hp1
  refine zp_acq hK zmm29 (sp := 0) (dp := 0) (n := (min 8 8)) (g := zG38) (gs := zG81) rfl rfl rfl rfl rfl rfl rfl rfl rfl hb38 (by omega) (by omega) (by omega) (by show _ ≤ ((8 : Nat) : Int); omega) (by show _ ≤ ((8 : Nat) : Int); omega) (List.mem_of_getElem? (i := 0) rfl) rfl (Nat.le_of_ble_eq_true rfl) ⟨by omega, by omega⟩ ?_
  obtain ⟨μ1, eμ1⟩ : ∃ μ', μ' = pm_cq μ 38 81 0 0 (min 8 8) := ⟨_, rfl⟩
  rw [← eμ1]
  have hTμ1 : zTJ none μ1 := by rw [eμ1]; exact zT_cq hT zs38_0 zs81_0 (by omega) (by omega) rfl (by omega) (by omega) (by omega) (by omega)
  exact pm_vret rfl rfl ⟨rfl, hTμ1, fun q hq => by rw [eμ1, pm_cq_row hq], fun i i0 i1 => by rw [eμ1, pm_cq_at (n := min 8 8) i0 (by omega)]⟩
set_option maxRecDepth 100000 in
theorem zh_rv37 (hK : zKK ST) (hT : zTJ none μ) (hb37 : sx_bit Wm 37 = true) (hb38 : sx_bit Wm 38 = true) (hbd : 2 ≤ bud.1 ∧ 85 ≤ bud.2.1) : zC D Wm ST b0 l Sg zM121 bud [(2, 37), (2, 80)] μ (fun st' μ' => st' = [] ∧ zTJ none μ' ∧ (∀ q ∈ zRq, q ≠ (37, 1) → μ' q.1 (q.2 : Int) = μ q.1 (q.2 : Int)) ∧ μ' 37 1 = μ 80 1 ∧ (∀ q ∈ zRa, q.1 ≠ 38 → ∀ i : Int, 0 ≤ i → i < q.2 → μ' q.1 i = μ q.1 i) ∧ ∀ i : Int, 0 ≤ i → i < (8 : Nat) → μ' 38 i = μ 81 i) := by
  refine pm_blk hK zmm121 [] 4 8 [(2, 37), (2, 80)] [(2, 38), (2, 81)] μ [] rfl trivial ?_
  refine pm_call hK zmm121 (23, 1, 29, 2) zM29 (1, 61) [(2, 81), (2, 38)] [] rfl rfl rfl rfl ⟨by omega, by rw [zn29]; omega⟩ (zh_cp38 hK hT hb38 ⟨Nat.le_refl _, Nat.le_refl _⟩) (fun st1 μc1 hp1 => ?_)
  obtain ⟨rfl, hTc1, nn1, nv1⟩ := hp1
  have f1 := zT_get hTc1 zs80_1 (i := 1) (by omega) (by omega)
  refine pm_blk hK zmm121 [] 4 19 [(2, 37), (2, 80)] [] (pm_up μc1 37 1 (μc1 80 1)) [sx_bit Wm 37 = true] rfl ⟨hb37, trivial⟩ ?_
  obtain ⟨μ1, eμ1⟩ : ∃ μ', μ' = pm_up μc1 37 1 (μc1 80 1) := ⟨_, rfl⟩
  rw [← eμ1]
  have hTμ1 : zTJ none μ1 := by rw [eμ1]; exact zT_upn hTc1 zs37_1 rfl (i := 1) (by omega) (by omega) (by omega) (by omega)
  exact pm_vret rfl rfl ⟨rfl, hTμ1, fun q hq hne => by rw [eμ1, pm_upq (k := 1) (i := 1) rfl hne, nn1 q.1 ((show ∀ q ∈ zRq, q.1 ≠ 38 by decide) q hq)], by rw [eμ1, pm_up_eq, nn1 80 (by decide)], fun q hq hne i i0 i1 => by rw [eμ1, pm_up_off ((show ∀ q ∈ zRa, q.1 ≠ 37 by decide) q hq), nn1 q.1 hne], fun i i0 i1 => by rw [eμ1, pm_up_off (by decide)]; exact nv1 i i0 (by omega)⟩
set_option maxRecDepth 100000 in
theorem zh_cp40 (hK : zKK ST) (hT : zTJ none μ) (hb40 : sx_bit Wm 40 = true) (hbd : 1 ≤ bud.1 ∧ 61 ≤ bud.2.1) : zC D Wm ST b0 l Sg zM29 bud [(2, 83), (2, 40)] μ (fun st' μ' => st' = [] ∧ zTJ none μ' ∧ (∀ q, q ≠ 40 → μ' q = μ q) ∧ ∀ i : Int, 0 ≤ i → i < 12 → μ' 40 i = μ 83 i) := by
  refine pm_blk hK zmm29 [] 8 8 [(2, 83), (2, 40)] [(0, 12), (0, 12), (0, 0), (2, 40), (0, 0), (2, 83)] μ [] rfl trivial ?_
  refine pm_call hK zmm29 (427, 1, 30, 2) zM30 (0, 0) [(0, 12), (0, 12)] [(0, 0), (2, 40), (0, 0), (2, 83)] rfl rfl rfl rfl ⟨by omega, by rw [zn30]; omega⟩ (zh_min hK ⟨Nat.le_refl _, Nat.le_refl _⟩) (fun st1 μc1 hp1 => ?_)
  obtain ⟨rfl, rfl⟩ := hp1
  refine zp_acq hK zmm29 (sp := 0) (dp := 0) (n := (min 12 12)) (g := zG40) (gs := zG83) rfl rfl rfl rfl rfl rfl rfl rfl rfl hb40 (by omega) (by omega) (by omega) (by show _ ≤ ((12 : Nat) : Int); omega) (by show _ ≤ ((12 : Nat) : Int); omega) (List.mem_of_getElem? (i := 0) rfl) rfl (Nat.le_of_ble_eq_true rfl) ⟨by omega, by omega⟩ ?_
  obtain ⟨μ1, eμ1⟩ : ∃ μ', μ' = pm_cq μ 40 83 0 0 (min 12 12) := ⟨_, rfl⟩
  rw [← eμ1]
  have hTμ1 : zTJ none μ1 := by rw [eμ1]; exact zT_cq hT zs40_0 zs83_0 (by omega) (by omega) rfl (by omega) (by omega) (by omega) (by omega)
  exact pm_vret rfl rfl ⟨rfl, hTμ1, fun q hq => by rw [eμ1, pm_cq_row hq], fun i i0 i1 => by rw [eμ1, pm_cq_at (n := min 12 12) i0 (by omega)]⟩
set_option maxRecDepth 100000 in
theorem zh_rv39 (hK : zKK ST) (hT : zTJ none μ) (hb39 : sx_bit Wm 39 = true) (hb40 : sx_bit Wm 40 = true) (hbd : 2 ≤ bud.1 ∧ 85 ≤ bud.2.1) : zC D Wm ST b0 l Sg zM121 bud [(2, 39), (2, 82)] μ (fun st' μ' => st' = [] ∧ zTJ none μ' ∧ (∀ q ∈ zRq, q ≠ (39, 1) → μ' q.1 (q.2 : Int) = μ q.1 (q.2 : Int)) ∧ μ' 39 1 = μ 82 1 ∧ (∀ q ∈ zRa, q.1 ≠ 40 → ∀ i : Int, 0 ≤ i → i < q.2 → μ' q.1 i = μ q.1 i) ∧ ∀ i : Int, 0 ≤ i → i < (12 : Nat) → μ' 40 i = μ 83 i) := by
  refine pm_blk hK zmm121 [] 4 8 [(2, 39), (2, 82)] [(2, 40), (2, 83)] μ [] rfl trivial ?_
  refine pm_call hK zmm121 (23, 1, 29, 2) zM29 (1, 61) [(2, 83), (2, 40)] [] rfl rfl rfl rfl ⟨by omega, by rw [zn29]; omega⟩ (zh_cp40 hK hT hb40 ⟨Nat.le_refl _, Nat.le_refl _⟩) (fun st1 μc1 hp1 => ?_)
  obtain ⟨rfl, hTc1, nn1, nv1⟩ := hp1
  have f1 := zT_get hTc1 zs82_1 (i := 1) (by omega) (by omega)
  refine pm_blk hK zmm121 [] 4 19 [(2, 39), (2, 82)] [] (pm_up μc1 39 1 (μc1 82 1)) [sx_bit Wm 39 = true] rfl ⟨hb39, trivial⟩ ?_
  obtain ⟨μ1, eμ1⟩ : ∃ μ', μ' = pm_up μc1 39 1 (μc1 82 1) := ⟨_, rfl⟩
  rw [← eμ1]
  have hTμ1 : zTJ none μ1 := by rw [eμ1]; exact zT_upn hTc1 zs39_1 rfl (i := 1) (by omega) (by omega) (by omega) (by omega)
  exact pm_vret rfl rfl ⟨rfl, hTμ1, fun q hq hne => by rw [eμ1, pm_upq (k := 1) (i := 1) rfl hne, nn1 q.1 ((show ∀ q ∈ zRq, q.1 ≠ 40 by decide) q hq)], by rw [eμ1, pm_up_eq, nn1 82 (by decide)], fun q hq hne i i0 i1 => by rw [eμ1, pm_up_off ((show ∀ q ∈ zRa, q.1 ≠ 39 by decide) q hq), nn1 q.1 hne], fun i i0 i1 => by rw [eμ1, pm_up_off (by decide)]; exact nv1 i i0 (by omega)⟩
set_option maxRecDepth 100000 in
theorem zh_cp30 (hK : zKK ST) (hT : zTJ none μ) (hb30 : sx_bit Wm 30 = true) (hbd : 1 ≤ bud.1 ∧ 61 ≤ bud.2.1) : zC D Wm ST b0 l Sg zM29 bud [(2, 73), (2, 30)] μ (fun st' μ' => st' = [] ∧ zTJ none μ' ∧ (∀ q, q ≠ 30 → μ' q = μ q) ∧ ∀ i : Int, 0 ≤ i → i < 6 → μ' 30 i = μ 73 i) := by
  refine pm_blk hK zmm29 [] 8 8 [(2, 73), (2, 30)] [(0, 6), (0, 6), (0, 0), (2, 30), (0, 0), (2, 73)] μ [] rfl trivial ?_
  refine pm_call hK zmm29 (427, 1, 30, 2) zM30 (0, 0) [(0, 6), (0, 6)] [(0, 0), (2, 30), (0, 0), (2, 73)] rfl rfl rfl rfl ⟨by omega, by rw [zn30]; omega⟩ (zh_min hK ⟨Nat.le_refl _, Nat.le_refl _⟩) (fun st1 μc1 hp1 => ?_)
  obtain ⟨rfl, rfl⟩ := hp1
  refine zp_acq hK zmm29 (sp := 0) (dp := 0) (n := (min 6 6)) (g := zG30) (gs := zG73) rfl rfl rfl rfl rfl rfl rfl rfl rfl hb30 (by omega) (by omega) (by omega) (by show _ ≤ ((6 : Nat) : Int); omega) (by show _ ≤ ((6 : Nat) : Int); omega) (List.mem_of_getElem? (i := 0) rfl) rfl (Nat.le_of_ble_eq_true rfl) ⟨by omega, by omega⟩ ?_
  obtain ⟨μ1, eμ1⟩ : ∃ μ', μ' = pm_cq μ 30 73 0 0 (min 6 6) := ⟨_, rfl⟩
  rw [← eμ1]
  have hTμ1 : zTJ none μ1 := by rw [eμ1]; exact zT_cq hT zs30_0 zs73_0 (by omega) (by omega) rfl (by omega) (by omega) (by omega) (by omega)
  exact pm_vret rfl rfl ⟨rfl, hTμ1, fun q hq => by rw [eμ1, pm_cq_row hq], fun i i0 i1 => by rw [eμ1, pm_cq_at (n := min 6 6) i0 (by omega)]⟩
set_option maxRecDepth 100000 in
theorem zh_rv29 (hK : zKK ST) (hT : zTJ none μ) (hb29 : sx_bit Wm 29 = true) (hb30 : sx_bit Wm 30 = true) (hbd : 2 ≤ bud.1 ∧ 85 ≤ bud.2.1) : zC D Wm ST b0 l Sg zM121 bud [(2, 29), (2, 72)] μ (fun st' μ' => st' = [] ∧ zTJ none μ' ∧ (∀ q ∈ zRq, q ≠ (29, 1) → μ' q.1 (q.2 : Int) = μ q.1 (q.2 : Int)) ∧ μ' 29 1 = μ 72 1 ∧ (∀ q ∈ zRa, q.1 ≠ 30 → ∀ i : Int, 0 ≤ i → i < q.2 → μ' q.1 i = μ q.1 i) ∧ ∀ i : Int, 0 ≤ i → i < (6 : Nat) → μ' 30 i = μ 73 i) := by
  refine pm_blk hK zmm121 [] 4 8 [(2, 29), (2, 72)] [(2, 30), (2, 73)] μ [] rfl trivial ?_
  refine pm_call hK zmm121 (23, 1, 29, 2) zM29 (1, 61) [(2, 73), (2, 30)] [] rfl rfl rfl rfl ⟨by omega, by rw [zn29]; omega⟩ (zh_cp30 hK hT hb30 ⟨Nat.le_refl _, Nat.le_refl _⟩) (fun st1 μc1 hp1 => ?_)
  obtain ⟨rfl, hTc1, nn1, nv1⟩ := hp1
  have f1 := zT_get hTc1 zs72_1 (i := 1) (by omega) (by omega)
  refine pm_blk hK zmm121 [] 4 19 [(2, 29), (2, 72)] [] (pm_up μc1 29 1 (μc1 72 1)) [sx_bit Wm 29 = true] rfl ⟨hb29, trivial⟩ ?_
  obtain ⟨μ1, eμ1⟩ : ∃ μ', μ' = pm_up μc1 29 1 (μc1 72 1) := ⟨_, rfl⟩
  rw [← eμ1]
  have hTμ1 : zTJ none μ1 := by rw [eμ1]; exact zT_upn hTc1 zs29_1 rfl (i := 1) (by omega) (by omega) (by omega) (by omega)
  exact pm_vret rfl rfl ⟨rfl, hTμ1, fun q hq hne => by rw [eμ1, pm_upq (k := 1) (i := 1) rfl hne, nn1 q.1 ((show ∀ q ∈ zRq, q.1 ≠ 30 by decide) q hq)], by rw [eμ1, pm_up_eq, nn1 72 (by decide)], fun q hq hne i i0 i1 => by rw [eμ1, pm_up_off ((show ∀ q ∈ zRa, q.1 ≠ 29 by decide) q hq), nn1 q.1 hne], fun i i0 i1 => by rw [eμ1, pm_up_off (by decide)]; exact nv1 i i0 (by omega)⟩
set_option maxRecDepth 100000 in
theorem zh_cp44 (hK : zKK ST) (hT : zTJ none μ) (hb44 : sx_bit Wm 44 = true) (hbd : 1 ≤ bud.1 ∧ 61 ≤ bud.2.1) : zC D Wm ST b0 l Sg zM29 bud [(2, 87), (2, 44)] μ (fun st' μ' => st' = [] ∧ zTJ none μ' ∧ (∀ q, q ≠ 44 → μ' q = μ q) ∧ ∀ i : Int, 0 ≤ i → i < 8 → μ' 44 i = μ 87 i) := by
  refine pm_blk hK zmm29 [] 8 8 [(2, 87), (2, 44)] [(0, 8), (0, 8), (0, 0), (2, 44), (0, 0), (2, 87)] μ [] rfl trivial ?_
  refine pm_call hK zmm29 (427, 1, 30, 2) zM30 (0, 0) [(0, 8), (0, 8)] [(0, 0), (2, 44), (0, 0), (2, 87)] rfl rfl rfl rfl ⟨by omega, by rw [zn30]; omega⟩ (zh_min hK ⟨Nat.le_refl _, Nat.le_refl _⟩) (fun st1 μc1 hp1 => ?_)
  obtain ⟨rfl, rfl⟩ := hp1
  refine zp_acq hK zmm29 (sp := 0) (dp := 0) (n := (min 8 8)) (g := zG44) (gs := zG87) rfl rfl rfl rfl rfl rfl rfl rfl rfl hb44 (by omega) (by omega) (by omega) (by show _ ≤ ((8 : Nat) : Int); omega) (by show _ ≤ ((8 : Nat) : Int); omega) (List.mem_of_getElem? (i := 0) rfl) rfl (Nat.le_of_ble_eq_true rfl) ⟨by omega, by omega⟩ ?_
  obtain ⟨μ1, eμ1⟩ : ∃ μ', μ' = pm_cq μ 44 87 0 0 (min 8 8) := ⟨_, rfl⟩
  rw [← eμ1]
  have hTμ1 : zTJ none μ1 := by rw [eμ1]; exact zT_cq hT zs44_0 zs87_0 (by omega) (by omega) rfl (by omega) (by omega) (by omega) (by omega)
  exact pm_vret rfl rfl ⟨rfl, hTμ1, fun q hq => by rw [eμ1, pm_cq_row hq], fun i i0 i1 => by rw [eμ1, pm_cq_at (n := min 8 8) i0 (by omega)]⟩
set_option maxRecDepth 100000 in
theorem zh_rv43 (hK : zKK ST) (hT : zTJ none μ) (hb43 : sx_bit Wm 43 = true) (hb44 : sx_bit Wm 44 = true) (hbd : 2 ≤ bud.1 ∧ 85 ≤ bud.2.1) : zC D Wm ST b0 l Sg zM121 bud [(2, 43), (2, 86)] μ (fun st' μ' => st' = [] ∧ zTJ none μ' ∧ (∀ q ∈ zRq, q ≠ (43, 1) → μ' q.1 (q.2 : Int) = μ q.1 (q.2 : Int)) ∧ μ' 43 1 = μ 86 1 ∧ (∀ q ∈ zRa, q.1 ≠ 44 → ∀ i : Int, 0 ≤ i → i < q.2 → μ' q.1 i = μ q.1 i) ∧ ∀ i : Int, 0 ≤ i → i < (8 : Nat) → μ' 44 i = μ 87 i) := by
  refine pm_blk hK zmm121 [] 4 8 [(2, 43), (2, 86)] [(2, 44), (2, 87)] μ [] rfl trivial ?_
  refine pm_call hK zmm121 (23, 1, 29, 2) zM29 (1, 61) [(2, 87), (2, 44)] [] rfl rfl rfl rfl ⟨by omega, by rw [zn29]; omega⟩ (zh_cp44 hK hT hb44 ⟨Nat.le_refl _, Nat.le_refl _⟩) (fun st1 μc1 hp1 => ?_)
  obtain ⟨rfl, hTc1, nn1, nv1⟩ := hp1
  have f1 := zT_get hTc1 zs86_1 (i := 1) (by omega) (by omega)
  refine pm_blk hK zmm121 [] 4 19 [(2, 43), (2, 86)] [] (pm_up μc1 43 1 (μc1 86 1)) [sx_bit Wm 43 = true] rfl ⟨hb43, trivial⟩ ?_
  obtain ⟨μ1, eμ1⟩ : ∃ μ', μ' = pm_up μc1 43 1 (μc1 86 1) := ⟨_, rfl⟩
  rw [← eμ1]
  have hTμ1 : zTJ none μ1 := by rw [eμ1]; exact zT_upn hTc1 zs43_1 rfl (i := 1) (by omega) (by omega) (by omega) (by omega)
  exact pm_vret rfl rfl ⟨rfl, hTμ1, fun q hq hne => by rw [eμ1, pm_upq (k := 1) (i := 1) rfl hne, nn1 q.1 ((show ∀ q ∈ zRq, q.1 ≠ 44 by decide) q hq)], by rw [eμ1, pm_up_eq, nn1 86 (by decide)], fun q hq hne i i0 i1 => by rw [eμ1, pm_up_off ((show ∀ q ∈ zRa, q.1 ≠ 43 by decide) q hq), nn1 q.1 hne], fun i i0 i1 => by rw [eμ1, pm_up_off (by decide)]; exact nv1 i i0 (by omega)⟩
set_option maxRecDepth 100000 in
theorem zh_cp75 (hK : zKK ST) (hT : zTJ none μ) (hb75 : sx_bit Wm 75 = true) (hbd : 1 ≤ bud.1 ∧ 61 ≤ bud.2.1) : zC D Wm ST b0 l Sg zM29 bud [(2, 32), (2, 75)] μ (fun st' μ' => st' = [] ∧ zTJ none μ' ∧ (∀ q, q ≠ 75 → μ' q = μ q) ∧ ∀ i : Int, 0 ≤ i → i < 4 → μ' 75 i = μ 32 i) := by
  refine pm_blk hK zmm29 [] 8 8 [(2, 32), (2, 75)] [(0, 4), (0, 4), (0, 0), (2, 75), (0, 0), (2, 32)] μ [] rfl trivial ?_
  refine pm_call hK zmm29 (427, 1, 30, 2) zM30 (0, 0) [(0, 4), (0, 4)] [(0, 0), (2, 75), (0, 0), (2, 32)] rfl rfl rfl rfl ⟨by omega, by rw [zn30]; omega⟩ (zh_min hK ⟨Nat.le_refl _, Nat.le_refl _⟩) (fun st1 μc1 hp1 => ?_)
  obtain ⟨rfl, rfl⟩ := hp1
  refine zp_acq hK zmm29 (sp := 0) (dp := 0) (n := (min 4 4)) (g := zG75) (gs := zG32) rfl rfl rfl rfl rfl rfl rfl rfl rfl hb75 (by omega) (by omega) (by omega) (by show _ ≤ ((4 : Nat) : Int); omega) (by show _ ≤ ((4 : Nat) : Int); omega) (List.mem_of_getElem? (i := 0) rfl) rfl (Nat.le_of_ble_eq_true rfl) ⟨by omega, by omega⟩ ?_
  obtain ⟨μ1, eμ1⟩ : ∃ μ', μ' = pm_cq μ 75 32 0 0 (min 4 4) := ⟨_, rfl⟩
  rw [← eμ1]
  have hTμ1 : zTJ none μ1 := by rw [eμ1]; exact zT_cq hT zs75_0 zs32_0 (by omega) (by omega) rfl (by omega) (by omega) (by omega) (by omega)
  exact pm_vret rfl rfl ⟨rfl, hTμ1, fun q hq => by rw [eμ1, pm_cq_row hq], fun i i0 i1 => by rw [eμ1, pm_cq_at (n := min 4 4) i0 (by omega)]⟩
set_option maxRecDepth 100000 in
theorem zh_rv74 (hK : zKK ST) (hT : zTJ none μ) (hb74 : sx_bit Wm 74 = true) (hb75 : sx_bit Wm 75 = true) (hbd : 2 ≤ bud.1 ∧ 85 ≤ bud.2.1) : zC D Wm ST b0 l Sg zM121 bud [(2, 74), (2, 31)] μ (fun st' μ' => st' = [] ∧ zTJ none μ' ∧ (∀ q ∈ zRq, q ≠ (74, 1) → μ' q.1 (q.2 : Int) = μ q.1 (q.2 : Int)) ∧ μ' 74 1 = μ 31 1 ∧ (∀ q ∈ zRa, q.1 ≠ 75 → ∀ i : Int, 0 ≤ i → i < q.2 → μ' q.1 i = μ q.1 i) ∧ ∀ i : Int, 0 ≤ i → i < (4 : Nat) → μ' 75 i = μ 32 i) := by
  refine pm_blk hK zmm121 [] 4 8 [(2, 74), (2, 31)] [(2, 75), (2, 32)] μ [] rfl trivial ?_
  refine pm_call hK zmm121 (23, 1, 29, 2) zM29 (1, 61) [(2, 32), (2, 75)] [] rfl rfl rfl rfl ⟨by omega, by rw [zn29]; omega⟩ (zh_cp75 hK hT hb75 ⟨Nat.le_refl _, Nat.le_refl _⟩) (fun st1 μc1 hp1 => ?_)
  obtain ⟨rfl, hTc1, nn1, nv1⟩ := hp1
  have f1 := zT_get hTc1 zs31_1 (i := 1) (by omega) (by omega)
  refine pm_blk hK zmm121 [] 4 19 [(2, 74), (2, 31)] [] (pm_up μc1 74 1 (μc1 31 1)) [sx_bit Wm 74 = true] rfl ⟨hb74, trivial⟩ ?_
  obtain ⟨μ1, eμ1⟩ : ∃ μ', μ' = pm_up μc1 74 1 (μc1 31 1) := ⟨_, rfl⟩
  rw [← eμ1]
  have hTμ1 : zTJ none μ1 := by rw [eμ1]; exact zT_upn hTc1 zs74_1 rfl (i := 1) (by omega) (by omega) (by omega) (by omega)
  exact pm_vret rfl rfl ⟨rfl, hTμ1, fun q hq hne => by rw [eμ1, pm_upq (k := 1) (i := 1) rfl hne, nn1 q.1 ((show ∀ q ∈ zRq, q.1 ≠ 75 by decide) q hq)], by rw [eμ1, pm_up_eq, nn1 31 (by decide)], fun q hq hne i i0 i1 => by rw [eμ1, pm_up_off ((show ∀ q ∈ zRa, q.1 ≠ 74 by decide) q hq), nn1 q.1 hne], fun i i0 i1 => by rw [eμ1, pm_up_off (by decide)]; exact nv1 i i0 (by omega)⟩
set_option maxRecDepth 100000 in
theorem zh_cp77 (hK : zKK ST) (hT : zTJ none μ) (hb77 : sx_bit Wm 77 = true) (hbd : 1 ≤ bud.1 ∧ 61 ≤ bud.2.1) : zC D Wm ST b0 l Sg zM29 bud [(2, 34), (2, 77)] μ (fun st' μ' => st' = [] ∧ zTJ none μ' ∧ (∀ q, q ≠ 77 → μ' q = μ q) ∧ ∀ i : Int, 0 ≤ i → i < 10 → μ' 77 i = μ 34 i) := by
  refine pm_blk hK zmm29 [] 8 8 [(2, 34), (2, 77)] [(0, 10), (0, 10), (0, 0), (2, 77), (0, 0), (2, 34)] μ [] rfl trivial ?_
  refine pm_call hK zmm29 (427, 1, 30, 2) zM30 (0, 0) [(0, 10), (0, 10)] [(0, 0), (2, 77), (0, 0), (2, 34)] rfl rfl rfl rfl ⟨by omega, by rw [zn30]; omega⟩ (zh_min hK ⟨Nat.le_refl _, Nat.le_refl _⟩) (fun st1 μc1 hp1 => ?_)
  obtain ⟨rfl, rfl⟩ := hp1
  refine zp_acq hK zmm29 (sp := 0) (dp := 0) (n := (min 10 10)) (g := zG77) (gs := zG34) rfl rfl rfl rfl rfl rfl rfl rfl rfl hb77 (by omega) (by omega) (by omega) (by show _ ≤ ((10 : Nat) : Int); omega) (by show _ ≤ ((10 : Nat) : Int); omega) (List.mem_of_getElem? (i := 0) rfl) rfl (Nat.le_of_ble_eq_true rfl) ⟨by omega, by omega⟩ ?_
  obtain ⟨μ1, eμ1⟩ : ∃ μ', μ' = pm_cq μ 77 34 0 0 (min 10 10) := ⟨_, rfl⟩
  rw [← eμ1]
  have hTμ1 : zTJ none μ1 := by rw [eμ1]; exact zT_cq hT zs77_0 zs34_0 (by omega) (by omega) rfl (by omega) (by omega) (by omega) (by omega)
  exact pm_vret rfl rfl ⟨rfl, hTμ1, fun q hq => by rw [eμ1, pm_cq_row hq], fun i i0 i1 => by rw [eμ1, pm_cq_at (n := min 10 10) i0 (by omega)]⟩
set_option maxRecDepth 100000 in
theorem zh_rv76 (hK : zKK ST) (hT : zTJ none μ) (hb76 : sx_bit Wm 76 = true) (hb77 : sx_bit Wm 77 = true) (hbd : 2 ≤ bud.1 ∧ 85 ≤ bud.2.1) : zC D Wm ST b0 l Sg zM121 bud [(2, 76), (2, 33)] μ (fun st' μ' => st' = [] ∧ zTJ none μ' ∧ (∀ q ∈ zRq, q ≠ (76, 1) → μ' q.1 (q.2 : Int) = μ q.1 (q.2 : Int)) ∧ μ' 76 1 = μ 33 1 ∧ (∀ q ∈ zRa, q.1 ≠ 77 → ∀ i : Int, 0 ≤ i → i < q.2 → μ' q.1 i = μ q.1 i) ∧ ∀ i : Int, 0 ≤ i → i < (10 : Nat) → μ' 77 i = μ 34 i) := by
  refine pm_blk hK zmm121 [] 4 8 [(2, 76), (2, 33)] [(2, 77), (2, 34)] μ [] rfl trivial ?_
  refine pm_call hK zmm121 (23, 1, 29, 2) zM29 (1, 61) [(2, 34), (2, 77)] [] rfl rfl rfl rfl ⟨by omega, by rw [zn29]; omega⟩ (zh_cp77 hK hT hb77 ⟨Nat.le_refl _, Nat.le_refl _⟩) (fun st1 μc1 hp1 => ?_)
  obtain ⟨rfl, hTc1, nn1, nv1⟩ := hp1
  have f1 := zT_get hTc1 zs33_1 (i := 1) (by omega) (by omega)
  refine pm_blk hK zmm121 [] 4 19 [(2, 76), (2, 33)] [] (pm_up μc1 76 1 (μc1 33 1)) [sx_bit Wm 76 = true] rfl ⟨hb76, trivial⟩ ?_
  obtain ⟨μ1, eμ1⟩ : ∃ μ', μ' = pm_up μc1 76 1 (μc1 33 1) := ⟨_, rfl⟩
  rw [← eμ1]
  have hTμ1 : zTJ none μ1 := by rw [eμ1]; exact zT_upn hTc1 zs76_1 rfl (i := 1) (by omega) (by omega) (by omega) (by omega)
  exact pm_vret rfl rfl ⟨rfl, hTμ1, fun q hq hne => by rw [eμ1, pm_upq (k := 1) (i := 1) rfl hne, nn1 q.1 ((show ∀ q ∈ zRq, q.1 ≠ 77 by decide) q hq)], by rw [eμ1, pm_up_eq, nn1 33 (by decide)], fun q hq hne i i0 i1 => by rw [eμ1, pm_up_off ((show ∀ q ∈ zRa, q.1 ≠ 76 by decide) q hq), nn1 q.1 hne], fun i i0 i1 => by rw [eμ1, pm_up_off (by decide)]; exact nv1 i i0 (by omega)⟩
set_option maxRecDepth 100000 in
theorem zh_cp79 (hK : zKK ST) (hT : zTJ none μ) (hb79 : sx_bit Wm 79 = true) (hbd : 1 ≤ bud.1 ∧ 61 ≤ bud.2.1) : zC D Wm ST b0 l Sg zM29 bud [(2, 36), (2, 79)] μ (fun st' μ' => st' = [] ∧ zTJ none μ' ∧ (∀ q, q ≠ 79 → μ' q = μ q) ∧ ∀ i : Int, 0 ≤ i → i < 10 → μ' 79 i = μ 36 i) := by
  refine pm_blk hK zmm29 [] 8 8 [(2, 36), (2, 79)] [(0, 10), (0, 10), (0, 0), (2, 79), (0, 0), (2, 36)] μ [] rfl trivial ?_
  refine pm_call hK zmm29 (427, 1, 30, 2) zM30 (0, 0) [(0, 10), (0, 10)] [(0, 0), (2, 79), (0, 0), (2, 36)] rfl rfl rfl rfl ⟨by omega, by rw [zn30]; omega⟩ (zh_min hK ⟨Nat.le_refl _, Nat.le_refl _⟩) (fun st1 μc1 hp1 => ?_)
  obtain ⟨rfl, rfl⟩ := hp1
  refine zp_acq hK zmm29 (sp := 0) (dp := 0) (n := (min 10 10)) (g := zG79) (gs := zG36) rfl rfl rfl rfl rfl rfl rfl rfl rfl hb79 (by omega) (by omega) (by omega) (by show _ ≤ ((10 : Nat) : Int); omega) (by show _ ≤ ((10 : Nat) : Int); omega) (List.mem_of_getElem? (i := 0) rfl) rfl (Nat.le_of_ble_eq_true rfl) ⟨by omega, by omega⟩ ?_
  obtain ⟨μ1, eμ1⟩ : ∃ μ', μ' = pm_cq μ 79 36 0 0 (min 10 10) := ⟨_, rfl⟩
  rw [← eμ1]
  have hTμ1 : zTJ none μ1 := by rw [eμ1]; exact zT_cq hT zs79_0 zs36_0 (by omega) (by omega) rfl (by omega) (by omega) (by omega) (by omega)
  exact pm_vret rfl rfl ⟨rfl, hTμ1, fun q hq => by rw [eμ1, pm_cq_row hq], fun i i0 i1 => by rw [eμ1, pm_cq_at (n := min 10 10) i0 (by omega)]⟩
set_option maxRecDepth 100000 in
theorem zh_rv78 (hK : zKK ST) (hT : zTJ none μ) (hb78 : sx_bit Wm 78 = true) (hb79 : sx_bit Wm 79 = true) (hbd : 2 ≤ bud.1 ∧ 85 ≤ bud.2.1) : zC D Wm ST b0 l Sg zM121 bud [(2, 78), (2, 35)] μ (fun st' μ' => st' = [] ∧ zTJ none μ' ∧ (∀ q ∈ zRq, q ≠ (78, 1) → μ' q.1 (q.2 : Int) = μ q.1 (q.2 : Int)) ∧ μ' 78 1 = μ 35 1 ∧ (∀ q ∈ zRa, q.1 ≠ 79 → ∀ i : Int, 0 ≤ i → i < q.2 → μ' q.1 i = μ q.1 i) ∧ ∀ i : Int, 0 ≤ i → i < (10 : Nat) → μ' 79 i = μ 36 i) := by
  refine pm_blk hK zmm121 [] 4 8 [(2, 78), (2, 35)] [(2, 79), (2, 36)] μ [] rfl trivial ?_
  refine pm_call hK zmm121 (23, 1, 29, 2) zM29 (1, 61) [(2, 36), (2, 79)] [] rfl rfl rfl rfl ⟨by omega, by rw [zn29]; omega⟩ (zh_cp79 hK hT hb79 ⟨Nat.le_refl _, Nat.le_refl _⟩) (fun st1 μc1 hp1 => ?_)
  obtain ⟨rfl, hTc1, nn1, nv1⟩ := hp1
  have f1 := zT_get hTc1 zs35_1 (i := 1) (by omega) (by omega)
  refine pm_blk hK zmm121 [] 4 19 [(2, 78), (2, 35)] [] (pm_up μc1 78 1 (μc1 35 1)) [sx_bit Wm 78 = true] rfl ⟨hb78, trivial⟩ ?_
  obtain ⟨μ1, eμ1⟩ : ∃ μ', μ' = pm_up μc1 78 1 (μc1 35 1) := ⟨_, rfl⟩
  rw [← eμ1]
  have hTμ1 : zTJ none μ1 := by rw [eμ1]; exact zT_upn hTc1 zs78_1 rfl (i := 1) (by omega) (by omega) (by omega) (by omega)
  exact pm_vret rfl rfl ⟨rfl, hTμ1, fun q hq hne => by rw [eμ1, pm_upq (k := 1) (i := 1) rfl hne, nn1 q.1 ((show ∀ q ∈ zRq, q.1 ≠ 79 by decide) q hq)], by rw [eμ1, pm_up_eq, nn1 35 (by decide)], fun q hq hne i i0 i1 => by rw [eμ1, pm_up_off ((show ∀ q ∈ zRa, q.1 ≠ 78 by decide) q hq), nn1 q.1 hne], fun i i0 i1 => by rw [eμ1, pm_up_off (by decide)]; exact nv1 i i0 (by omega)⟩
set_option maxRecDepth 100000 in
theorem zh_cp81 (hK : zKK ST) (hT : zTJ none μ) (hb81 : sx_bit Wm 81 = true) (hbd : 1 ≤ bud.1 ∧ 61 ≤ bud.2.1) : zC D Wm ST b0 l Sg zM29 bud [(2, 38), (2, 81)] μ (fun st' μ' => st' = [] ∧ zTJ none μ' ∧ (∀ q, q ≠ 81 → μ' q = μ q) ∧ ∀ i : Int, 0 ≤ i → i < 8 → μ' 81 i = μ 38 i) := by
  refine pm_blk hK zmm29 [] 8 8 [(2, 38), (2, 81)] [(0, 8), (0, 8), (0, 0), (2, 81), (0, 0), (2, 38)] μ [] rfl trivial ?_
  refine pm_call hK zmm29 (427, 1, 30, 2) zM30 (0, 0) [(0, 8), (0, 8)] [(0, 0), (2, 81), (0, 0), (2, 38)] rfl rfl rfl rfl ⟨by omega, by rw [zn30]; omega⟩ (zh_min hK ⟨Nat.le_refl _, Nat.le_refl _⟩) (fun st1 μc1 hp1 => ?_)
  obtain ⟨rfl, rfl⟩ := hp1
  refine zp_acq hK zmm29 (sp := 0) (dp := 0) (n := (min 8 8)) (g := zG81) (gs := zG38) rfl rfl rfl rfl rfl rfl rfl rfl rfl hb81 (by omega) (by omega) (by omega) (by show _ ≤ ((8 : Nat) : Int); omega) (by show _ ≤ ((8 : Nat) : Int); omega) (List.mem_of_getElem? (i := 0) rfl) rfl (Nat.le_of_ble_eq_true rfl) ⟨by omega, by omega⟩ ?_
  obtain ⟨μ1, eμ1⟩ : ∃ μ', μ' = pm_cq μ 81 38 0 0 (min 8 8) := ⟨_, rfl⟩
  rw [← eμ1]
  have hTμ1 : zTJ none μ1 := by rw [eμ1]; exact zT_cq hT zs81_0 zs38_0 (by omega) (by omega) rfl (by omega) (by omega) (by omega) (by omega)
  exact pm_vret rfl rfl ⟨rfl, hTμ1, fun q hq => by rw [eμ1, pm_cq_row hq], fun i i0 i1 => by rw [eμ1, pm_cq_at (n := min 8 8) i0 (by omega)]⟩
set_option maxRecDepth 100000 in
theorem zh_rv80 (hK : zKK ST) (hT : zTJ none μ) (hb80 : sx_bit Wm 80 = true) (hb81 : sx_bit Wm 81 = true) (hbd : 2 ≤ bud.1 ∧ 85 ≤ bud.2.1) : zC D Wm ST b0 l Sg zM121 bud [(2, 80), (2, 37)] μ (fun st' μ' => st' = [] ∧ zTJ none μ' ∧ (∀ q ∈ zRq, q ≠ (80, 1) → μ' q.1 (q.2 : Int) = μ q.1 (q.2 : Int)) ∧ μ' 80 1 = μ 37 1 ∧ (∀ q ∈ zRa, q.1 ≠ 81 → ∀ i : Int, 0 ≤ i → i < q.2 → μ' q.1 i = μ q.1 i) ∧ ∀ i : Int, 0 ≤ i → i < (8 : Nat) → μ' 81 i = μ 38 i) := by
  refine pm_blk hK zmm121 [] 4 8 [(2, 80), (2, 37)] [(2, 81), (2, 38)] μ [] rfl trivial ?_
  refine pm_call hK zmm121 (23, 1, 29, 2) zM29 (1, 61) [(2, 38), (2, 81)] [] rfl rfl rfl rfl ⟨by omega, by rw [zn29]; omega⟩ (zh_cp81 hK hT hb81 ⟨Nat.le_refl _, Nat.le_refl _⟩) (fun st1 μc1 hp1 => ?_)
  obtain ⟨rfl, hTc1, nn1, nv1⟩ := hp1
  have f1 := zT_get hTc1 zs37_1 (i := 1) (by omega) (by omega)
  refine pm_blk hK zmm121 [] 4 19 [(2, 80), (2, 37)] [] (pm_up μc1 80 1 (μc1 37 1)) [sx_bit Wm 80 = true] rfl ⟨hb80, trivial⟩ ?_
  obtain ⟨μ1, eμ1⟩ : ∃ μ', μ' = pm_up μc1 80 1 (μc1 37 1) := ⟨_, rfl⟩
  rw [← eμ1]
  have hTμ1 : zTJ none μ1 := by rw [eμ1]; exact zT_upn hTc1 zs80_1 rfl (i := 1) (by omega) (by omega) (by omega) (by omega)
  exact pm_vret rfl rfl ⟨rfl, hTμ1, fun q hq hne => by rw [eμ1, pm_upq (k := 1) (i := 1) rfl hne, nn1 q.1 ((show ∀ q ∈ zRq, q.1 ≠ 81 by decide) q hq)], by rw [eμ1, pm_up_eq, nn1 37 (by decide)], fun q hq hne i i0 i1 => by rw [eμ1, pm_up_off ((show ∀ q ∈ zRa, q.1 ≠ 80 by decide) q hq), nn1 q.1 hne], fun i i0 i1 => by rw [eμ1, pm_up_off (by decide)]; exact nv1 i i0 (by omega)⟩
set_option maxRecDepth 100000 in
theorem zh_cp83 (hK : zKK ST) (hT : zTJ none μ) (hb83 : sx_bit Wm 83 = true) (hbd : 1 ≤ bud.1 ∧ 61 ≤ bud.2.1) : zC D Wm ST b0 l Sg zM29 bud [(2, 40), (2, 83)] μ (fun st' μ' => st' = [] ∧ zTJ none μ' ∧ (∀ q, q ≠ 83 → μ' q = μ q) ∧ ∀ i : Int, 0 ≤ i → i < 12 → μ' 83 i = μ 40 i) := by
  refine pm_blk hK zmm29 [] 8 8 [(2, 40), (2, 83)] [(0, 12), (0, 12), (0, 0), (2, 83), (0, 0), (2, 40)] μ [] rfl trivial ?_
  refine pm_call hK zmm29 (427, 1, 30, 2) zM30 (0, 0) [(0, 12), (0, 12)] [(0, 0), (2, 83), (0, 0), (2, 40)] rfl rfl rfl rfl ⟨by omega, by rw [zn30]; omega⟩ (zh_min hK ⟨Nat.le_refl _, Nat.le_refl _⟩) (fun st1 μc1 hp1 => ?_)
  obtain ⟨rfl, rfl⟩ := hp1
  refine zp_acq hK zmm29 (sp := 0) (dp := 0) (n := (min 12 12)) (g := zG83) (gs := zG40) rfl rfl rfl rfl rfl rfl rfl rfl rfl hb83 (by omega) (by omega) (by omega) (by show _ ≤ ((12 : Nat) : Int); omega) (by show _ ≤ ((12 : Nat) : Int); omega) (List.mem_of_getElem? (i := 0) rfl) rfl (Nat.le_of_ble_eq_true rfl) ⟨by omega, by omega⟩ ?_
  obtain ⟨μ1, eμ1⟩ : ∃ μ', μ' = pm_cq μ 83 40 0 0 (min 12 12) := ⟨_, rfl⟩
  rw [← eμ1]
  have hTμ1 : zTJ none μ1 := by rw [eμ1]; exact zT_cq hT zs83_0 zs40_0 (by omega) (by omega) rfl (by omega) (by omega) (by omega) (by omega)
  exact pm_vret rfl rfl ⟨rfl, hTμ1, fun q hq => by rw [eμ1, pm_cq_row hq], fun i i0 i1 => by rw [eμ1, pm_cq_at (n := min 12 12) i0 (by omega)]⟩
set_option maxRecDepth 100000 in
theorem zh_rv82 (hK : zKK ST) (hT : zTJ none μ) (hb82 : sx_bit Wm 82 = true) (hb83 : sx_bit Wm 83 = true) (hbd : 2 ≤ bud.1 ∧ 85 ≤ bud.2.1) : zC D Wm ST b0 l Sg zM121 bud [(2, 82), (2, 39)] μ (fun st' μ' => st' = [] ∧ zTJ none μ' ∧ (∀ q ∈ zRq, q ≠ (82, 1) → μ' q.1 (q.2 : Int) = μ q.1 (q.2 : Int)) ∧ μ' 82 1 = μ 39 1 ∧ (∀ q ∈ zRa, q.1 ≠ 83 → ∀ i : Int, 0 ≤ i → i < q.2 → μ' q.1 i = μ q.1 i) ∧ ∀ i : Int, 0 ≤ i → i < (12 : Nat) → μ' 83 i = μ 40 i) := by
  refine pm_blk hK zmm121 [] 4 8 [(2, 82), (2, 39)] [(2, 83), (2, 40)] μ [] rfl trivial ?_
  refine pm_call hK zmm121 (23, 1, 29, 2) zM29 (1, 61) [(2, 40), (2, 83)] [] rfl rfl rfl rfl ⟨by omega, by rw [zn29]; omega⟩ (zh_cp83 hK hT hb83 ⟨Nat.le_refl _, Nat.le_refl _⟩) (fun st1 μc1 hp1 => ?_)
  obtain ⟨rfl, hTc1, nn1, nv1⟩ := hp1
  have f1 := zT_get hTc1 zs39_1 (i := 1) (by omega) (by omega)
  refine pm_blk hK zmm121 [] 4 19 [(2, 82), (2, 39)] [] (pm_up μc1 82 1 (μc1 39 1)) [sx_bit Wm 82 = true] rfl ⟨hb82, trivial⟩ ?_
  obtain ⟨μ1, eμ1⟩ : ∃ μ', μ' = pm_up μc1 82 1 (μc1 39 1) := ⟨_, rfl⟩
  rw [← eμ1]
  have hTμ1 : zTJ none μ1 := by rw [eμ1]; exact zT_upn hTc1 zs82_1 rfl (i := 1) (by omega) (by omega) (by omega) (by omega)
  exact pm_vret rfl rfl ⟨rfl, hTμ1, fun q hq hne => by rw [eμ1, pm_upq (k := 1) (i := 1) rfl hne, nn1 q.1 ((show ∀ q ∈ zRq, q.1 ≠ 83 by decide) q hq)], by rw [eμ1, pm_up_eq, nn1 39 (by decide)], fun q hq hne i i0 i1 => by rw [eμ1, pm_up_off ((show ∀ q ∈ zRa, q.1 ≠ 82 by decide) q hq), nn1 q.1 hne], fun i i0 i1 => by rw [eμ1, pm_up_off (by decide)]; exact nv1 i i0 (by omega)⟩
set_option maxRecDepth 100000 in
theorem zh_cp73 (hK : zKK ST) (hT : zTJ none μ) (hb73 : sx_bit Wm 73 = true) (hbd : 1 ≤ bud.1 ∧ 61 ≤ bud.2.1) : zC D Wm ST b0 l Sg zM29 bud [(2, 30), (2, 73)] μ (fun st' μ' => st' = [] ∧ zTJ none μ' ∧ (∀ q, q ≠ 73 → μ' q = μ q) ∧ ∀ i : Int, 0 ≤ i → i < 6 → μ' 73 i = μ 30 i) := by
  refine pm_blk hK zmm29 [] 8 8 [(2, 30), (2, 73)] [(0, 6), (0, 6), (0, 0), (2, 73), (0, 0), (2, 30)] μ [] rfl trivial ?_
  refine pm_call hK zmm29 (427, 1, 30, 2) zM30 (0, 0) [(0, 6), (0, 6)] [(0, 0), (2, 73), (0, 0), (2, 30)] rfl rfl rfl rfl ⟨by omega, by rw [zn30]; omega⟩ (zh_min hK ⟨Nat.le_refl _, Nat.le_refl _⟩) (fun st1 μc1 hp1 => ?_)
  obtain ⟨rfl, rfl⟩ := hp1
  refine zp_acq hK zmm29 (sp := 0) (dp := 0) (n := (min 6 6)) (g := zG73) (gs := zG30) rfl rfl rfl rfl rfl rfl rfl rfl rfl hb73 (by omega) (by omega) (by omega) (by show _ ≤ ((6 : Nat) : Int); omega) (by show _ ≤ ((6 : Nat) : Int); omega) (List.mem_of_getElem? (i := 0) rfl) rfl (Nat.le_of_ble_eq_true rfl) ⟨by omega, by omega⟩ ?_
  obtain ⟨μ1, eμ1⟩ : ∃ μ', μ' = pm_cq μ 73 30 0 0 (min 6 6) := ⟨_, rfl⟩
  rw [← eμ1]
  have hTμ1 : zTJ none μ1 := by rw [eμ1]; exact zT_cq hT zs73_0 zs30_0 (by omega) (by omega) rfl (by omega) (by omega) (by omega) (by omega)
  exact pm_vret rfl rfl ⟨rfl, hTμ1, fun q hq => by rw [eμ1, pm_cq_row hq], fun i i0 i1 => by rw [eμ1, pm_cq_at (n := min 6 6) i0 (by omega)]⟩
set_option maxRecDepth 100000 in
theorem zh_rv72 (hK : zKK ST) (hT : zTJ none μ) (hb72 : sx_bit Wm 72 = true) (hb73 : sx_bit Wm 73 = true) (hbd : 2 ≤ bud.1 ∧ 85 ≤ bud.2.1) : zC D Wm ST b0 l Sg zM121 bud [(2, 72), (2, 29)] μ (fun st' μ' => st' = [] ∧ zTJ none μ' ∧ (∀ q ∈ zRq, q ≠ (72, 1) → μ' q.1 (q.2 : Int) = μ q.1 (q.2 : Int)) ∧ μ' 72 1 = μ 29 1 ∧ (∀ q ∈ zRa, q.1 ≠ 73 → ∀ i : Int, 0 ≤ i → i < q.2 → μ' q.1 i = μ q.1 i) ∧ ∀ i : Int, 0 ≤ i → i < (6 : Nat) → μ' 73 i = μ 30 i) := by
  refine pm_blk hK zmm121 [] 4 8 [(2, 72), (2, 29)] [(2, 73), (2, 30)] μ [] rfl trivial ?_
  refine pm_call hK zmm121 (23, 1, 29, 2) zM29 (1, 61) [(2, 30), (2, 73)] [] rfl rfl rfl rfl ⟨by omega, by rw [zn29]; omega⟩ (zh_cp73 hK hT hb73 ⟨Nat.le_refl _, Nat.le_refl _⟩) (fun st1 μc1 hp1 => ?_)
  obtain ⟨rfl, hTc1, nn1, nv1⟩ := hp1
  have f1 := zT_get hTc1 zs29_1 (i := 1) (by omega) (by omega)
  refine pm_blk hK zmm121 [] 4 19 [(2, 72), (2, 29)] [] (pm_up μc1 72 1 (μc1 29 1)) [sx_bit Wm 72 = true] rfl ⟨hb72, trivial⟩ ?_
  obtain ⟨μ1, eμ1⟩ : ∃ μ', μ' = pm_up μc1 72 1 (μc1 29 1) := ⟨_, rfl⟩
  rw [← eμ1]
  have hTμ1 : zTJ none μ1 := by rw [eμ1]; exact zT_upn hTc1 zs72_1 rfl (i := 1) (by omega) (by omega) (by omega) (by omega)
  exact pm_vret rfl rfl ⟨rfl, hTμ1, fun q hq hne => by rw [eμ1, pm_upq (k := 1) (i := 1) rfl hne, nn1 q.1 ((show ∀ q ∈ zRq, q.1 ≠ 73 by decide) q hq)], by rw [eμ1, pm_up_eq, nn1 29 (by decide)], fun q hq hne i i0 i1 => by rw [eμ1, pm_up_off ((show ∀ q ∈ zRa, q.1 ≠ 72 by decide) q hq), nn1 q.1 hne], fun i i0 i1 => by rw [eμ1, pm_up_off (by decide)]; exact nv1 i i0 (by omega)⟩
set_option maxRecDepth 100000 in
theorem zh_cp87 (hK : zKK ST) (hT : zTJ none μ) (hb87 : sx_bit Wm 87 = true) (hbd : 1 ≤ bud.1 ∧ 61 ≤ bud.2.1) : zC D Wm ST b0 l Sg zM29 bud [(2, 44), (2, 87)] μ (fun st' μ' => st' = [] ∧ zTJ none μ' ∧ (∀ q, q ≠ 87 → μ' q = μ q) ∧ ∀ i : Int, 0 ≤ i → i < 8 → μ' 87 i = μ 44 i) := by
  refine pm_blk hK zmm29 [] 8 8 [(2, 44), (2, 87)] [(0, 8), (0, 8), (0, 0), (2, 87), (0, 0), (2, 44)] μ [] rfl trivial ?_
  refine pm_call hK zmm29 (427, 1, 30, 2) zM30 (0, 0) [(0, 8), (0, 8)] [(0, 0), (2, 87), (0, 0), (2, 44)] rfl rfl rfl rfl ⟨by omega, by rw [zn30]; omega⟩ (zh_min hK ⟨Nat.le_refl _, Nat.le_refl _⟩) (fun st1 μc1 hp1 => ?_)
  obtain ⟨rfl, rfl⟩ := hp1
  refine zp_acq hK zmm29 (sp := 0) (dp := 0) (n := (min 8 8)) (g := zG87) (gs := zG44) rfl rfl rfl rfl rfl rfl rfl rfl rfl hb87 (by omega) (by omega) (by omega) (by show _ ≤ ((8 : Nat) : Int); omega) (by show _ ≤ ((8 : Nat) : Int); omega) (List.mem_of_getElem? (i := 0) rfl) rfl (Nat.le_of_ble_eq_true rfl) ⟨by omega, by omega⟩ ?_
  obtain ⟨μ1, eμ1⟩ : ∃ μ', μ' = pm_cq μ 87 44 0 0 (min 8 8) := ⟨_, rfl⟩
  rw [← eμ1]
  have hTμ1 : zTJ none μ1 := by rw [eμ1]; exact zT_cq hT zs87_0 zs44_0 (by omega) (by omega) rfl (by omega) (by omega) (by omega) (by omega)
  exact pm_vret rfl rfl ⟨rfl, hTμ1, fun q hq => by rw [eμ1, pm_cq_row hq], fun i i0 i1 => by rw [eμ1, pm_cq_at (n := min 8 8) i0 (by omega)]⟩
set_option maxRecDepth 100000 in
theorem zh_rv86 (hK : zKK ST) (hT : zTJ none μ) (hb86 : sx_bit Wm 86 = true) (hb87 : sx_bit Wm 87 = true) (hbd : 2 ≤ bud.1 ∧ 85 ≤ bud.2.1) : zC D Wm ST b0 l Sg zM121 bud [(2, 86), (2, 43)] μ (fun st' μ' => st' = [] ∧ zTJ none μ' ∧ (∀ q ∈ zRq, q ≠ (86, 1) → μ' q.1 (q.2 : Int) = μ q.1 (q.2 : Int)) ∧ μ' 86 1 = μ 43 1 ∧ (∀ q ∈ zRa, q.1 ≠ 87 → ∀ i : Int, 0 ≤ i → i < q.2 → μ' q.1 i = μ q.1 i) ∧ ∀ i : Int, 0 ≤ i → i < (8 : Nat) → μ' 87 i = μ 44 i) := by
  refine pm_blk hK zmm121 [] 4 8 [(2, 86), (2, 43)] [(2, 87), (2, 44)] μ [] rfl trivial ?_
  refine pm_call hK zmm121 (23, 1, 29, 2) zM29 (1, 61) [(2, 44), (2, 87)] [] rfl rfl rfl rfl ⟨by omega, by rw [zn29]; omega⟩ (zh_cp87 hK hT hb87 ⟨Nat.le_refl _, Nat.le_refl _⟩) (fun st1 μc1 hp1 => ?_)
  obtain ⟨rfl, hTc1, nn1, nv1⟩ := hp1
  have f1 := zT_get hTc1 zs43_1 (i := 1) (by omega) (by omega)
  refine pm_blk hK zmm121 [] 4 19 [(2, 86), (2, 43)] [] (pm_up μc1 86 1 (μc1 43 1)) [sx_bit Wm 86 = true] rfl ⟨hb86, trivial⟩ ?_
  obtain ⟨μ1, eμ1⟩ : ∃ μ', μ' = pm_up μc1 86 1 (μc1 43 1) := ⟨_, rfl⟩
  rw [← eμ1]
  have hTμ1 : zTJ none μ1 := by rw [eμ1]; exact zT_upn hTc1 zs86_1 rfl (i := 1) (by omega) (by omega) (by omega) (by omega)
  exact pm_vret rfl rfl ⟨rfl, hTμ1, fun q hq hne => by rw [eμ1, pm_upq (k := 1) (i := 1) rfl hne, nn1 q.1 ((show ∀ q ∈ zRq, q.1 ≠ 87 by decide) q hq)], by rw [eμ1, pm_up_eq, nn1 43 (by decide)], fun q hq hne i i0 i1 => by rw [eμ1, pm_up_off ((show ∀ q ∈ zRa, q.1 ≠ 86 by decide) q hq), nn1 q.1 hne], fun i i0 i1 => by rw [eμ1, pm_up_off (by decide)]; exact nv1 i i0 (by omega)⟩
set_option maxRecDepth 100000 in
theorem zh_wv2 (hK : zKK ST) (hw : sx_Wd zNR zRT2 B0 Sg) (hC184 : zCK none D ST B0 l Sg zC184) (hs184 : sx_subm zC184.2.2.2.2.2 Wm = true) (hC228 : zCK none D ST B0 l Sg zC228) (hs228 : sx_subm zC228.2.2.2.2.2 Wm = true) (hC326 : zCK none D ST B0 l Sg zC326) (hs326 : sx_subm zC326.2.2.2.2.2 Wm = true) (hC327 : zCK none D ST B0 l Sg zC327) (hs327 : sx_subm zC327.2.2.2.2.2 Wm = true) (hC328 : zCK none D ST B0 l Sg zC328) (hs328 : sx_subm zC328.2.2.2.2.2 Wm = true) (hC329 : zCK none D ST B0 l Sg zC329) (hs329 : sx_subm zC329.2.2.2.2.2 Wm = true) (hC407 : zCK none D ST B0 l Sg zC407) (hs407 : sx_subm zC407.2.2.2.2.2 Wm = true) (hT : zTJ none μ) (hb2 : sx_bit Wm 2 = true) (hb29 : sx_bit Wm 29 = true) (hb30 : sx_bit Wm 30 = true) (hb31 : sx_bit Wm 31 = true) (hb32 : sx_bit Wm 32 = true) (hb33 : sx_bit Wm 33 = true) (hb34 : sx_bit Wm 34 = true) (hb35 : sx_bit Wm 35 = true) (hb36 : sx_bit Wm 36 = true) (hb37 : sx_bit Wm 37 = true) (hb38 : sx_bit Wm 38 = true) (hb39 : sx_bit Wm 39 = true) (hb40 : sx_bit Wm 40 = true) (hb43 : sx_bit Wm 43 = true) (hb44 : sx_bit Wm 44 = true) (hbd : 3 ≤ bud.1 ∧ 122 ≤ bud.2.1) : zC D Wm ST (sx_bW zRT2 Wm B0 Sg, J) l Sg zM120 bud [(2, 2), (2, 45)] μ (fun st' μ' => st' = [] ∧ zTJ none μ' ∧ zWc zSq2 μ μ' ∧ zWv zSv2 μ μ') := by
  have hz : zWc (fun q => q) μ μ := fun _ _ => rfl
  have hy : zWv (fun q => q) μ μ := fun _ _ _ _ _ => rfl
  refine pm_blk hK zmm120 [] 4 8 [(2, 2), (2, 45)] [(2, 46), (2, 3)] μ [] rfl trivial ?_
  refine pm_ccall hK zmm120 hC184 hw zGm_lt zJ_loc (82, 0, 28, 1) zM28 [(2, 3), (2, 46)] [] rfl rfl rfl rfl rfl ⟨by have e : zC184.2.2.2.1 = 2 := rfl; omega, by have e : zC184.2.2.2.2.1 = 101 := rfl; rw [zn28]; omega⟩ hs184 rfl (fun t ht => by cases ht) ⟨rfl, fun h => absurd h (by decide), fun _ => rfl, rfl, fun h => absurd h (by decide), fun _ => rfl, trivial⟩ (zTy_T hw hT.1) hT.2 (fun st1 μc1 hp1 hTt1 hJ1 hfr1 => ?_)
  obtain rfl := hp1
  have hTc1 : zTJ none μc1 := ⟨zTy_of hw hTt1, hJ1⟩
  have hz := zWc_fr hz (zRq_fr hfr1 (by decide +kernel))
  have hy := zWv_fr hy (zRa_fr hfr1 (by decide +kernel))
  refine pm_blk hK zmm120 [] 4 19 [(2, 2), (2, 45)] [(2, 16), (2, 59)] μc1 [] rfl trivial ?_
  refine pm_ccall hK zmm120 hC228 hw zGm_lt zJ_loc (86, 1, 29, 2) zM29 [(2, 59), (2, 16)] [] rfl rfl rfl rfl rfl ⟨by have e : zC228.2.2.2.1 = 1 := rfl; omega, by have e : zC228.2.2.2.2.1 = 80 := rfl; rw [zn29]; omega⟩ hs228 rfl (fun t ht => by cases ht) ⟨rfl, fun h => absurd h (by decide), fun _ => rfl, rfl, fun h => absurd h (by decide), fun _ => rfl, trivial⟩ (zTy_T hw hTc1.1) hTc1.2 (fun st2 μc2 hp2 hTt2 hJ2 hfr2 => ?_)
  obtain rfl := hp2
  have hTc2 : zTJ none μc2 := ⟨zTy_of hw hTt2, hJ2⟩
  have hz := zWc_fr hz (zRq_fr hfr2 (by decide +kernel))
  have hy := zWv_fr hy (zRa_fr hfr2 (by decide +kernel))
  have f1 := zT_get hTc2 zs45_2 (i := 2) (by omega) (by omega)
  refine pm_blk hK zmm120 [] 4 30 [(2, 2), (2, 45)] [] (pm_up μc2 2 2 (μc2 45 2)) [sx_bit Wm 2 = true] rfl ⟨hb2, trivial⟩ ?_
  obtain ⟨μ1, eμ1⟩ : ∃ μ', μ' = pm_up μc2 2 2 (μc2 45 2) := ⟨_, rfl⟩
  rw [← eμ1]
  have hTμ1 : zTJ none μ1 := by rw [eμ1]; exact zT_upn hTc2 zs2_2 rfl (i := 2) (by omega) (by omega) (by omega) (by omega)
  have hz := zWc_fr (μ' := μ1) hz (fun q hq => by rw [eμ1]; exact pm_upq (k := 2) (i := 2) rfl ((show ∀ q ∈ zRq, q ≠ (2, 2) by decide) q hq))
  have hy := zWv_fr (μ' := μ1) hy (fun q hq i i0 i1 => by rw [eμ1, pm_up_off ((show ∀ q ∈ zRa, q.1 ≠ 2 by decide) q hq)])
  refine pm_blk hK zmm120 [] 4 38 [(2, 2), (2, 45)] [(2, 60), (2, 17)] μ1 [] rfl trivial ?_
  refine pm_ccall hK zmm120 hC326 hw zGm_lt zJ_loc (90, 0, 54, 1) zM54 [(2, 17), (2, 60)] [] rfl rfl rfl rfl rfl ⟨by have e : zC326.2.2.2.1 = 2 := rfl; omega, by have e : zC326.2.2.2.2.1 = 101 := rfl; rw [zn54]; omega⟩ hs326 rfl (fun t ht => by cases ht) ⟨rfl, fun h => absurd h (by decide), fun _ => rfl, rfl, fun h => absurd h (by decide), fun _ => rfl, trivial⟩ (zTy_T hw hTμ1.1) hTμ1.2 (fun st3 μc3 hp3 hTt3 hJ3 hfr3 => ?_)
  obtain rfl := hp3
  have hTc3 : zTJ none μc3 := ⟨zTy_of hw hTt3, hJ3⟩
  have hz := zWc_fr hz (zRq_fr hfr3 (by decide +kernel))
  have hy := zWv_fr hy (zRa_fr hfr3 (by decide +kernel))
  refine pm_blk hK zmm120 [] 4 49 [(2, 2), (2, 45)] [(2, 63), (2, 20)] μc3 [] rfl trivial ?_
  refine pm_ccall hK zmm120 hC327 hw zGm_lt zJ_loc (90, 0, 54, 1) zM54 [(2, 20), (2, 63)] [] rfl rfl rfl rfl rfl ⟨by have e : zC327.2.2.2.1 = 2 := rfl; omega, by have e : zC327.2.2.2.2.1 = 101 := rfl; rw [zn54]; omega⟩ hs327 rfl (fun t ht => by cases ht) ⟨rfl, fun h => absurd h (by decide), fun _ => rfl, rfl, fun h => absurd h (by decide), fun _ => rfl, trivial⟩ (zTy_T hw hTc3.1) hTc3.2 (fun st4 μc4 hp4 hTt4 hJ4 hfr4 => ?_)
  obtain rfl := hp4
  have hTc4 : zTJ none μc4 := ⟨zTy_of hw hTt4, hJ4⟩
  have hz := zWc_fr hz (zRq_fr hfr4 (by decide +kernel))
  have hy := zWv_fr hy (zRa_fr hfr4 (by decide +kernel))
  refine pm_blk hK zmm120 [] 4 60 [(2, 2), (2, 45)] [(2, 66), (2, 23)] μc4 [] rfl trivial ?_
  refine pm_ccall hK zmm120 hC328 hw zGm_lt zJ_loc (90, 0, 54, 1) zM54 [(2, 23), (2, 66)] [] rfl rfl rfl rfl rfl ⟨by have e : zC328.2.2.2.1 = 2 := rfl; omega, by have e : zC328.2.2.2.2.1 = 101 := rfl; rw [zn54]; omega⟩ hs328 rfl (fun t ht => by cases ht) ⟨rfl, fun h => absurd h (by decide), fun _ => rfl, rfl, fun h => absurd h (by decide), fun _ => rfl, trivial⟩ (zTy_T hw hTc4.1) hTc4.2 (fun st5 μc5 hp5 hTt5 hJ5 hfr5 => ?_)
  obtain rfl := hp5
  have hTc5 : zTJ none μc5 := ⟨zTy_of hw hTt5, hJ5⟩
  have hz := zWc_fr hz (zRq_fr hfr5 (by decide +kernel))
  have hy := zWv_fr hy (zRa_fr hfr5 (by decide +kernel))
  refine pm_blk hK zmm120 [] 4 71 [(2, 2), (2, 45)] [(2, 69), (2, 26)] μc5 [] rfl trivial ?_
  refine pm_ccall hK zmm120 hC329 hw zGm_lt zJ_loc (90, 0, 54, 1) zM54 [(2, 26), (2, 69)] [] rfl rfl rfl rfl rfl ⟨by have e : zC329.2.2.2.1 = 2 := rfl; omega, by have e : zC329.2.2.2.2.1 = 101 := rfl; rw [zn54]; omega⟩ hs329 rfl (fun t ht => by cases ht) ⟨rfl, fun h => absurd h (by decide), fun _ => rfl, rfl, fun h => absurd h (by decide), fun _ => rfl, trivial⟩ (zTy_T hw hTc5.1) hTc5.2 (fun st6 μc6 hp6 hTt6 hJ6 hfr6 => ?_)
  obtain rfl := hp6
  have hTc6 : zTJ none μc6 := ⟨zTy_of hw hTt6, hJ6⟩
  have hz := zWc_fr hz (zRq_fr hfr6 (by decide +kernel))
  have hy := zWv_fr hy (zRa_fr hfr6 (by decide +kernel))
  refine pm_blk hK zmm120 [] 4 82 [(2, 2), (2, 45)] [(2, 72), (2, 29)] μc6 [] rfl trivial ?_
  refine pm_call hK zmm120 (93, 0, 121, 1) zM121 (2, 85) [(2, 29), (2, 72)] [] rfl rfl rfl rfl ⟨by omega, by rw [zn121]; omega⟩ (zh_rv29 hK hTc6 hb29 hb30 ⟨Nat.le_refl _, Nat.le_refl _⟩) (fun st7 μc7 hp7 => ?_)
  obtain ⟨rfl, hTc7, na7, nb7, nc7, nd7⟩ := hp7
  have hz := zWc_rcp (d := (29, 1)) (s := (72, 1)) hz (by decide) na7 nb7
  have hy := zWv_rcp (d := 30) (s := 73) (n := 6) hy (by decide) (by decide) nc7 nd7
  refine pm_blk hK zmm120 [] 4 93 [(2, 2), (2, 45)] [(2, 74), (2, 31)] μc7 [] rfl trivial ?_
  refine pm_call hK zmm120 (93, 0, 121, 1) zM121 (2, 85) [(2, 31), (2, 74)] [] rfl rfl rfl rfl ⟨by omega, by rw [zn121]; omega⟩ (zh_rv31 hK hTc7 hb31 hb32 ⟨Nat.le_refl _, Nat.le_refl _⟩) (fun st8 μc8 hp8 => ?_)
  obtain ⟨rfl, hTc8, na8, nb8, nc8, nd8⟩ := hp8
  have hz := zWc_fr hz (fun q hq => na8 q hq ((show ∀ q ∈ zRq, q ≠ (31, 1) by decide) q hq))
  have hy := zWv_rcp (d := 32) (s := 75) (n := 4) hy (by decide) (by decide) nc8 nd8
  refine pm_blk hK zmm120 [] 4 104 [(2, 2), (2, 45)] [(2, 76), (2, 33)] μc8 [] rfl trivial ?_
  refine pm_call hK zmm120 (93, 0, 121, 1) zM121 (2, 85) [(2, 33), (2, 76)] [] rfl rfl rfl rfl ⟨by omega, by rw [zn121]; omega⟩ (zh_rv33 hK hTc8 hb33 hb34 ⟨Nat.le_refl _, Nat.le_refl _⟩) (fun st9 μc9 hp9 => ?_)
  obtain ⟨rfl, hTc9, na9, nb9, nc9, nd9⟩ := hp9
  have hz := zWc_rcp (d := (33, 1)) (s := (76, 1)) hz (by decide) na9 nb9
  have hy := zWv_rcp (d := 34) (s := 77) (n := 10) hy (by decide) (by decide) nc9 nd9
  refine pm_blk hK zmm120 [] 4 115 [(2, 2), (2, 45)] [(2, 78), (2, 35)] μc9 [] rfl trivial ?_
  refine pm_call hK zmm120 (93, 0, 121, 1) zM121 (2, 85) [(2, 35), (2, 78)] [] rfl rfl rfl rfl ⟨by omega, by rw [zn121]; omega⟩ (zh_rv35 hK hTc9 hb35 hb36 ⟨Nat.le_refl _, Nat.le_refl _⟩) (fun st10 μc10 hp10 => ?_)
  obtain ⟨rfl, hTc10, na10, nb10, nc10, nd10⟩ := hp10
  have hz := zWc_rcp (d := (35, 1)) (s := (78, 1)) hz (by decide) na10 nb10
  have hy := zWv_rcp (d := 36) (s := 79) (n := 10) hy (by decide) (by decide) nc10 nd10
  refine pm_blk hK zmm120 [] 4 126 [(2, 2), (2, 45)] [(2, 80), (2, 37)] μc10 [] rfl trivial ?_
  refine pm_call hK zmm120 (93, 0, 121, 1) zM121 (2, 85) [(2, 37), (2, 80)] [] rfl rfl rfl rfl ⟨by omega, by rw [zn121]; omega⟩ (zh_rv37 hK hTc10 hb37 hb38 ⟨Nat.le_refl _, Nat.le_refl _⟩) (fun st11 μc11 hp11 => ?_)
  obtain ⟨rfl, hTc11, na11, nb11, nc11, nd11⟩ := hp11
  have hz := zWc_rcp (d := (37, 1)) (s := (80, 1)) hz (by decide) na11 nb11
  have hy := zWv_rcp (d := 38) (s := 81) (n := 8) hy (by decide) (by decide) nc11 nd11
  refine pm_blk hK zmm120 [] 4 137 [(2, 2), (2, 45)] [(2, 82), (2, 39)] μc11 [] rfl trivial ?_
  refine pm_call hK zmm120 (93, 0, 121, 1) zM121 (2, 85) [(2, 39), (2, 82)] [] rfl rfl rfl rfl ⟨by omega, by rw [zn121]; omega⟩ (zh_rv39 hK hTc11 hb39 hb40 ⟨Nat.le_refl _, Nat.le_refl _⟩) (fun st12 μc12 hp12 => ?_)
  obtain ⟨rfl, hTc12, na12, nb12, nc12, nd12⟩ := hp12
  have hz := zWc_rcp (d := (39, 1)) (s := (82, 1)) hz (by decide) na12 nb12
  have hy := zWv_rcp (d := 40) (s := 83) (n := 12) hy (by decide) (by decide) nc12 nd12
  refine pm_blk hK zmm120 [] 4 148 [(2, 2), (2, 45)] [(2, 84), (2, 41)] μc12 [] rfl trivial ?_
  refine pm_ccall hK zmm120 hC407 hw zGm_lt zJ_loc (93, 0, 121, 1) zM121 [(2, 41), (2, 84)] [] rfl rfl rfl rfl rfl ⟨by have e : zC407.2.2.2.1 = 2 := rfl; omega, by have e : zC407.2.2.2.2.1 = 101 := rfl; rw [zn121]; omega⟩ hs407 rfl (fun t ht => by cases ht) ⟨rfl, fun h => absurd h (by decide), fun _ => rfl, rfl, fun h => absurd h (by decide), fun _ => rfl, trivial⟩ (zTy_T hw hTc12.1) hTc12.2 (fun st13 μc13 hp13 hTt13 hJ13 hfr13 => ?_)
  obtain rfl := hp13
  have hTc13 : zTJ none μc13 := ⟨zTy_of hw hTt13, hJ13⟩
  have hz := zWc_fr hz (zRq_fr hfr13 (by decide +kernel))
  have hy := zWv_fr hy (zRa_fr hfr13 (by decide +kernel))
  refine pm_blk hK zmm120 [] 4 159 [(2, 2), (2, 45)] [(2, 86), (2, 43)] μc13 [] rfl trivial ?_
  refine pm_call hK zmm120 (93, 0, 121, 1) zM121 (2, 85) [(2, 43), (2, 86)] [] rfl rfl rfl rfl ⟨by omega, by rw [zn121]; omega⟩ (zh_rv43 hK hTc13 hb43 hb44 ⟨Nat.le_refl _, Nat.le_refl _⟩) (fun st14 μc14 hp14 => ?_)
  obtain ⟨rfl, hTc14, na14, nb14, nc14, nd14⟩ := hp14
  have hz := zWc_rcp (d := (43, 1)) (s := (86, 1)) hz (by decide) na14 nb14
  have hy := zWv_rcp (d := 44) (s := 87) (n := 8) hy (by decide) (by decide) nc14 nd14
  exact pm_vret rfl rfl ⟨rfl, hTc14, zWc_eq hz (by decide), zWv_eq hy (by decide)⟩
set_option maxRecDepth 100000 in
theorem zh_wv45 (hK : zKK ST) (hw : sx_Wd zNR zRT2 B0 Sg) (hC210 : zCK none D ST B0 l Sg zC210) (hs210 : sx_subm zC210.2.2.2.2.2 Wm = true) (hC211 : zCK none D ST B0 l Sg zC211) (hs211 : sx_subm zC211.2.2.2.2.2 Wm = true) (hC330 : zCK none D ST B0 l Sg zC330) (hs330 : sx_subm zC330.2.2.2.2.2 Wm = true) (hC331 : zCK none D ST B0 l Sg zC331) (hs331 : sx_subm zC331.2.2.2.2.2 Wm = true) (hC332 : zCK none D ST B0 l Sg zC332) (hs332 : sx_subm zC332.2.2.2.2.2 Wm = true) (hC333 : zCK none D ST B0 l Sg zC333) (hs333 : sx_subm zC333.2.2.2.2.2 Wm = true) (hC416 : zCK none D ST B0 l Sg zC416) (hs416 : sx_subm zC416.2.2.2.2.2 Wm = true) (hT : zTJ none μ) (hb45 : sx_bit Wm 45 = true) (hb72 : sx_bit Wm 72 = true) (hb73 : sx_bit Wm 73 = true) (hb74 : sx_bit Wm 74 = true) (hb75 : sx_bit Wm 75 = true) (hb76 : sx_bit Wm 76 = true) (hb77 : sx_bit Wm 77 = true) (hb78 : sx_bit Wm 78 = true) (hb79 : sx_bit Wm 79 = true) (hb80 : sx_bit Wm 80 = true) (hb81 : sx_bit Wm 81 = true) (hb82 : sx_bit Wm 82 = true) (hb83 : sx_bit Wm 83 = true) (hb86 : sx_bit Wm 86 = true) (hb87 : sx_bit Wm 87 = true) (hbd : 3 ≤ bud.1 ∧ 122 ≤ bud.2.1) : zC D Wm ST (sx_bW zRT2 Wm B0 Sg, J) l Sg zM120 bud [(2, 45), (2, 2)] μ (fun st' μ' => st' = [] ∧ zTJ none μ' ∧ zWc zSq45 μ μ' ∧ zWv zSv45 μ μ') := by
  have hz : zWc (fun q => q) μ μ := fun _ _ => rfl
  have hy : zWv (fun q => q) μ μ := fun _ _ _ _ _ => rfl
  refine pm_blk hK zmm120 [] 4 8 [(2, 45), (2, 2)] [(2, 3), (2, 46)] μ [] rfl trivial ?_
  refine pm_ccall hK zmm120 hC210 hw zGm_lt zJ_loc (82, 0, 28, 1) zM28 [(2, 46), (2, 3)] [] rfl rfl rfl rfl rfl ⟨by have e : zC210.2.2.2.1 = 2 := rfl; omega, by have e : zC210.2.2.2.2.1 = 101 := rfl; rw [zn28]; omega⟩ hs210 rfl (fun t ht => by cases ht) ⟨rfl, fun h => absurd h (by decide), fun _ => rfl, rfl, fun h => absurd h (by decide), fun _ => rfl, trivial⟩ (zTy_T hw hT.1) hT.2 (fun st1 μc1 hp1 hTt1 hJ1 hfr1 => ?_)
  obtain rfl := hp1
  have hTc1 : zTJ none μc1 := ⟨zTy_of hw hTt1, hJ1⟩
  have hz := zWc_fr hz (zRq_fr hfr1 (by decide +kernel))
  have hy := zWv_fr hy (zRa_fr hfr1 (by decide +kernel))
  refine pm_blk hK zmm120 [] 4 19 [(2, 45), (2, 2)] [(2, 59), (2, 16)] μc1 [] rfl trivial ?_
  refine pm_ccall hK zmm120 hC211 hw zGm_lt zJ_loc (86, 1, 29, 2) zM29 [(2, 16), (2, 59)] [] rfl rfl rfl rfl rfl ⟨by have e : zC211.2.2.2.1 = 1 := rfl; omega, by have e : zC211.2.2.2.2.1 = 80 := rfl; rw [zn29]; omega⟩ hs211 rfl (fun t ht => by cases ht) ⟨rfl, fun h => absurd h (by decide), fun _ => rfl, rfl, fun h => absurd h (by decide), fun _ => rfl, trivial⟩ (zTy_T hw hTc1.1) hTc1.2 (fun st2 μc2 hp2 hTt2 hJ2 hfr2 => ?_)
  obtain rfl := hp2
  have hTc2 : zTJ none μc2 := ⟨zTy_of hw hTt2, hJ2⟩
  have hz := zWc_fr hz (zRq_fr hfr2 (by decide +kernel))
  have hy := zWv_fr hy (zRa_fr hfr2 (by decide +kernel))
  have f1 := zT_get hTc2 zs2_2 (i := 2) (by omega) (by omega)
  refine pm_blk hK zmm120 [] 4 30 [(2, 45), (2, 2)] [] (pm_up μc2 45 2 (μc2 2 2)) [sx_bit Wm 45 = true] rfl ⟨hb45, trivial⟩ ?_
  obtain ⟨μ1, eμ1⟩ : ∃ μ', μ' = pm_up μc2 45 2 (μc2 2 2) := ⟨_, rfl⟩
  rw [← eμ1]
  have hTμ1 : zTJ none μ1 := by rw [eμ1]; exact zT_upn hTc2 zs45_2 rfl (i := 2) (by omega) (by omega) (by omega) (by omega)
  have hz := zWc_fr (μ' := μ1) hz (fun q hq => by rw [eμ1]; exact pm_upq (k := 2) (i := 2) rfl ((show ∀ q ∈ zRq, q ≠ (45, 2) by decide) q hq))
  have hy := zWv_fr (μ' := μ1) hy (fun q hq i i0 i1 => by rw [eμ1, pm_up_off ((show ∀ q ∈ zRa, q.1 ≠ 45 by decide) q hq)])
  refine pm_blk hK zmm120 [] 4 38 [(2, 45), (2, 2)] [(2, 17), (2, 60)] μ1 [] rfl trivial ?_
  refine pm_ccall hK zmm120 hC330 hw zGm_lt zJ_loc (90, 0, 54, 1) zM54 [(2, 60), (2, 17)] [] rfl rfl rfl rfl rfl ⟨by have e : zC330.2.2.2.1 = 2 := rfl; omega, by have e : zC330.2.2.2.2.1 = 101 := rfl; rw [zn54]; omega⟩ hs330 rfl (fun t ht => by cases ht) ⟨rfl, fun h => absurd h (by decide), fun _ => rfl, rfl, fun h => absurd h (by decide), fun _ => rfl, trivial⟩ (zTy_T hw hTμ1.1) hTμ1.2 (fun st3 μc3 hp3 hTt3 hJ3 hfr3 => ?_)
  obtain rfl := hp3
  have hTc3 : zTJ none μc3 := ⟨zTy_of hw hTt3, hJ3⟩
  have hz := zWc_fr hz (zRq_fr hfr3 (by decide +kernel))
  have hy := zWv_fr hy (zRa_fr hfr3 (by decide +kernel))
  refine pm_blk hK zmm120 [] 4 49 [(2, 45), (2, 2)] [(2, 20), (2, 63)] μc3 [] rfl trivial ?_
  refine pm_ccall hK zmm120 hC331 hw zGm_lt zJ_loc (90, 0, 54, 1) zM54 [(2, 63), (2, 20)] [] rfl rfl rfl rfl rfl ⟨by have e : zC331.2.2.2.1 = 2 := rfl; omega, by have e : zC331.2.2.2.2.1 = 101 := rfl; rw [zn54]; omega⟩ hs331 rfl (fun t ht => by cases ht) ⟨rfl, fun h => absurd h (by decide), fun _ => rfl, rfl, fun h => absurd h (by decide), fun _ => rfl, trivial⟩ (zTy_T hw hTc3.1) hTc3.2 (fun st4 μc4 hp4 hTt4 hJ4 hfr4 => ?_)
  obtain rfl := hp4
  have hTc4 : zTJ none μc4 := ⟨zTy_of hw hTt4, hJ4⟩
  have hz := zWc_fr hz (zRq_fr hfr4 (by decide +kernel))
  have hy := zWv_fr hy (zRa_fr hfr4 (by decide +kernel))
  refine pm_blk hK zmm120 [] 4 60 [(2, 45), (2, 2)] [(2, 23), (2, 66)] μc4 [] rfl trivial ?_
  refine pm_ccall hK zmm120 hC332 hw zGm_lt zJ_loc (90, 0, 54, 1) zM54 [(2, 66), (2, 23)] [] rfl rfl rfl rfl rfl ⟨by have e : zC332.2.2.2.1 = 2 := rfl; omega, by have e : zC332.2.2.2.2.1 = 101 := rfl; rw [zn54]; omega⟩ hs332 rfl (fun t ht => by cases ht) ⟨rfl, fun h => absurd h (by decide), fun _ => rfl, rfl, fun h => absurd h (by decide), fun _ => rfl, trivial⟩ (zTy_T hw hTc4.1) hTc4.2 (fun st5 μc5 hp5 hTt5 hJ5 hfr5 => ?_)
  obtain rfl := hp5
  have hTc5 : zTJ none μc5 := ⟨zTy_of hw hTt5, hJ5⟩
  have hz := zWc_fr hz (zRq_fr hfr5 (by decide +kernel))
  have hy := zWv_fr hy (zRa_fr hfr5 (by decide +kernel))
  refine pm_blk hK zmm120 [] 4 71 [(2, 45), (2, 2)] [(2, 26), (2, 69)] μc5 [] rfl trivial ?_
  refine pm_ccall hK zmm120 hC333 hw zGm_lt zJ_loc (90, 0, 54, 1) zM54 [(2, 69), (2, 26)] [] rfl rfl rfl rfl rfl ⟨by have e : zC333.2.2.2.1 = 2 := rfl; omega, by have e : zC333.2.2.2.2.1 = 101 := rfl; rw [zn54]; omega⟩ hs333 rfl (fun t ht => by cases ht) ⟨rfl, fun h => absurd h (by decide), fun _ => rfl, rfl, fun h => absurd h (by decide), fun _ => rfl, trivial⟩ (zTy_T hw hTc5.1) hTc5.2 (fun st6 μc6 hp6 hTt6 hJ6 hfr6 => ?_)
  obtain rfl := hp6
  have hTc6 : zTJ none μc6 := ⟨zTy_of hw hTt6, hJ6⟩
  have hz := zWc_fr hz (zRq_fr hfr6 (by decide +kernel))
  have hy := zWv_fr hy (zRa_fr hfr6 (by decide +kernel))
  refine pm_blk hK zmm120 [] 4 82 [(2, 45), (2, 2)] [(2, 29), (2, 72)] μc6 [] rfl trivial ?_
  refine pm_call hK zmm120 (93, 0, 121, 1) zM121 (2, 85) [(2, 72), (2, 29)] [] rfl rfl rfl rfl ⟨by omega, by rw [zn121]; omega⟩ (zh_rv72 hK hTc6 hb72 hb73 ⟨Nat.le_refl _, Nat.le_refl _⟩) (fun st7 μc7 hp7 => ?_)
  obtain ⟨rfl, hTc7, na7, nb7, nc7, nd7⟩ := hp7
  have hz := zWc_rcp (d := (72, 1)) (s := (29, 1)) hz (by decide) na7 nb7
  have hy := zWv_rcp (d := 73) (s := 30) (n := 6) hy (by decide) (by decide) nc7 nd7
  refine pm_blk hK zmm120 [] 4 93 [(2, 45), (2, 2)] [(2, 31), (2, 74)] μc7 [] rfl trivial ?_
  refine pm_call hK zmm120 (93, 0, 121, 1) zM121 (2, 85) [(2, 74), (2, 31)] [] rfl rfl rfl rfl ⟨by omega, by rw [zn121]; omega⟩ (zh_rv74 hK hTc7 hb74 hb75 ⟨Nat.le_refl _, Nat.le_refl _⟩) (fun st8 μc8 hp8 => ?_)
  obtain ⟨rfl, hTc8, na8, nb8, nc8, nd8⟩ := hp8
  have hz := zWc_fr hz (fun q hq => na8 q hq ((show ∀ q ∈ zRq, q ≠ (74, 1) by decide) q hq))
  have hy := zWv_rcp (d := 75) (s := 32) (n := 4) hy (by decide) (by decide) nc8 nd8
  refine pm_blk hK zmm120 [] 4 104 [(2, 45), (2, 2)] [(2, 33), (2, 76)] μc8 [] rfl trivial ?_
  refine pm_call hK zmm120 (93, 0, 121, 1) zM121 (2, 85) [(2, 76), (2, 33)] [] rfl rfl rfl rfl ⟨by omega, by rw [zn121]; omega⟩ (zh_rv76 hK hTc8 hb76 hb77 ⟨Nat.le_refl _, Nat.le_refl _⟩) (fun st9 μc9 hp9 => ?_)
  obtain ⟨rfl, hTc9, na9, nb9, nc9, nd9⟩ := hp9
  have hz := zWc_rcp (d := (76, 1)) (s := (33, 1)) hz (by decide) na9 nb9
  have hy := zWv_rcp (d := 77) (s := 34) (n := 10) hy (by decide) (by decide) nc9 nd9
  refine pm_blk hK zmm120 [] 4 115 [(2, 45), (2, 2)] [(2, 35), (2, 78)] μc9 [] rfl trivial ?_
  refine pm_call hK zmm120 (93, 0, 121, 1) zM121 (2, 85) [(2, 78), (2, 35)] [] rfl rfl rfl rfl ⟨by omega, by rw [zn121]; omega⟩ (zh_rv78 hK hTc9 hb78 hb79 ⟨Nat.le_refl _, Nat.le_refl _⟩) (fun st10 μc10 hp10 => ?_)
  obtain ⟨rfl, hTc10, na10, nb10, nc10, nd10⟩ := hp10
  have hz := zWc_rcp (d := (78, 1)) (s := (35, 1)) hz (by decide) na10 nb10
  have hy := zWv_rcp (d := 79) (s := 36) (n := 10) hy (by decide) (by decide) nc10 nd10
  refine pm_blk hK zmm120 [] 4 126 [(2, 45), (2, 2)] [(2, 37), (2, 80)] μc10 [] rfl trivial ?_
  refine pm_call hK zmm120 (93, 0, 121, 1) zM121 (2, 85) [(2, 80), (2, 37)] [] rfl rfl rfl rfl ⟨by omega, by rw [zn121]; omega⟩ (zh_rv80 hK hTc10 hb80 hb81 ⟨Nat.le_refl _, Nat.le_refl _⟩) (fun st11 μc11 hp11 => ?_)
  obtain ⟨rfl, hTc11, na11, nb11, nc11, nd11⟩ := hp11
  have hz := zWc_rcp (d := (80, 1)) (s := (37, 1)) hz (by decide) na11 nb11
  have hy := zWv_rcp (d := 81) (s := 38) (n := 8) hy (by decide) (by decide) nc11 nd11
  refine pm_blk hK zmm120 [] 4 137 [(2, 45), (2, 2)] [(2, 39), (2, 82)] μc11 [] rfl trivial ?_
  refine pm_call hK zmm120 (93, 0, 121, 1) zM121 (2, 85) [(2, 82), (2, 39)] [] rfl rfl rfl rfl ⟨by omega, by rw [zn121]; omega⟩ (zh_rv82 hK hTc11 hb82 hb83 ⟨Nat.le_refl _, Nat.le_refl _⟩) (fun st12 μc12 hp12 => ?_)
  obtain ⟨rfl, hTc12, na12, nb12, nc12, nd12⟩ := hp12
  have hz := zWc_rcp (d := (82, 1)) (s := (39, 1)) hz (by decide) na12 nb12
  have hy := zWv_rcp (d := 83) (s := 40) (n := 12) hy (by decide) (by decide) nc12 nd12
  refine pm_blk hK zmm120 [] 4 148 [(2, 45), (2, 2)] [(2, 41), (2, 84)] μc12 [] rfl trivial ?_
  refine pm_ccall hK zmm120 hC416 hw zGm_lt zJ_loc (93, 0, 121, 1) zM121 [(2, 84), (2, 41)] [] rfl rfl rfl rfl rfl ⟨by have e : zC416.2.2.2.1 = 2 := rfl; omega, by have e : zC416.2.2.2.2.1 = 101 := rfl; rw [zn121]; omega⟩ hs416 rfl (fun t ht => by cases ht) ⟨rfl, fun h => absurd h (by decide), fun _ => rfl, rfl, fun h => absurd h (by decide), fun _ => rfl, trivial⟩ (zTy_T hw hTc12.1) hTc12.2 (fun st13 μc13 hp13 hTt13 hJ13 hfr13 => ?_)
  obtain rfl := hp13
  have hTc13 : zTJ none μc13 := ⟨zTy_of hw hTt13, hJ13⟩
  have hz := zWc_fr hz (zRq_fr hfr13 (by decide +kernel))
  have hy := zWv_fr hy (zRa_fr hfr13 (by decide +kernel))
  refine pm_blk hK zmm120 [] 4 159 [(2, 45), (2, 2)] [(2, 43), (2, 86)] μc13 [] rfl trivial ?_
  refine pm_call hK zmm120 (93, 0, 121, 1) zM121 (2, 85) [(2, 86), (2, 43)] [] rfl rfl rfl rfl ⟨by omega, by rw [zn121]; omega⟩ (zh_rv86 hK hTc13 hb86 hb87 ⟨Nat.le_refl _, Nat.le_refl _⟩) (fun st14 μc14 hp14 => ?_)
  obtain ⟨rfl, hTc14, na14, nb14, nc14, nd14⟩ := hp14
  have hz := zWc_rcp (d := (86, 1)) (s := (43, 1)) hz (by decide) na14 nb14
  have hy := zWv_rcp (d := 87) (s := 44) (n := 8) hy (by decide) (by decide) nc14 nd14
  exact pm_vret rfl rfl ⟨rfl, hTc14, zWc_eq hz (by decide), zWv_eq hy (by decide)⟩
set_option maxRecDepth 100000 in
theorem zh_imagev (hK : zKK ST) {b : Int} (hw : sx_Wd zNR zRT2 B0 Sg) (hC184 : zCK none D ST B0 l Sg zC184) (hs184 : sx_subm zC184.2.2.2.2.2 Wm = true) (hC210 : zCK none D ST B0 l Sg zC210) (hs210 : sx_subm zC210.2.2.2.2.2 Wm = true) (hC211 : zCK none D ST B0 l Sg zC211) (hs211 : sx_subm zC211.2.2.2.2.2 Wm = true) (hC228 : zCK none D ST B0 l Sg zC228) (hs228 : sx_subm zC228.2.2.2.2.2 Wm = true) (hC326 : zCK none D ST B0 l Sg zC326) (hs326 : sx_subm zC326.2.2.2.2.2 Wm = true) (hC327 : zCK none D ST B0 l Sg zC327) (hs327 : sx_subm zC327.2.2.2.2.2 Wm = true) (hC328 : zCK none D ST B0 l Sg zC328) (hs328 : sx_subm zC328.2.2.2.2.2 Wm = true) (hC329 : zCK none D ST B0 l Sg zC329) (hs329 : sx_subm zC329.2.2.2.2.2 Wm = true) (hC330 : zCK none D ST B0 l Sg zC330) (hs330 : sx_subm zC330.2.2.2.2.2 Wm = true) (hC331 : zCK none D ST B0 l Sg zC331) (hs331 : sx_subm zC331.2.2.2.2.2 Wm = true) (hC332 : zCK none D ST B0 l Sg zC332) (hs332 : sx_subm zC332.2.2.2.2.2 Wm = true) (hC333 : zCK none D ST B0 l Sg zC333) (hs333 : sx_subm zC333.2.2.2.2.2 Wm = true) (hC407 : zCK none D ST B0 l Sg zC407) (hs407 : sx_subm zC407.2.2.2.2.2 Wm = true) (hC416 : zCK none D ST B0 l Sg zC416) (hs416 : sx_subm zC416.2.2.2.2.2 Wm = true) (hT : zTJ none μ) (hb1 : sx_bit Wm 1 = true) (hb2 : sx_bit Wm 2 = true) (hb45 : sx_bit Wm 45 = true) (hb29 : sx_bit Wm 29 = true) (hb30 : sx_bit Wm 30 = true) (hb31 : sx_bit Wm 31 = true) (hb32 : sx_bit Wm 32 = true) (hb33 : sx_bit Wm 33 = true) (hb34 : sx_bit Wm 34 = true) (hb35 : sx_bit Wm 35 = true) (hb36 : sx_bit Wm 36 = true) (hb37 : sx_bit Wm 37 = true) (hb38 : sx_bit Wm 38 = true) (hb39 : sx_bit Wm 39 = true) (hb40 : sx_bit Wm 40 = true) (hb43 : sx_bit Wm 43 = true) (hb44 : sx_bit Wm 44 = true) (hb72 : sx_bit Wm 72 = true) (hb73 : sx_bit Wm 73 = true) (hb74 : sx_bit Wm 74 = true) (hb75 : sx_bit Wm 75 = true) (hb76 : sx_bit Wm 76 = true) (hb77 : sx_bit Wm 77 = true) (hb78 : sx_bit Wm 78 = true) (hb79 : sx_bit Wm 79 = true) (hb80 : sx_bit Wm 80 = true) (hb81 : sx_bit Wm 81 = true) (hb82 : sx_bit Wm 82 = true) (hb83 : sx_bit Wm 83 = true) (hb86 : sx_bit Wm 86 = true) (hb87 : sx_bit Wm 87 = true) (hb96 : sx_bit Wm 96 = true) (hbd : 4 ≤ bud.1 ∧ 143 ≤ bud.2.1) : zC D Wm ST (sx_bW zRT2 Wm B0 Sg, J) l Sg zM119 bud [(2, 1), (0, b)] μ (fun st' μ' => ∃ x, st' = [(0, x)] ∧ zTJ none μ' ∧ zIMX b μ x μ' ∧ zIMY b μ μ') := by
  refine pm_blk hK zmm119 [] 1 1 [(2, 1), (0, b)] [(0, b)] μ [] rfl trivial ?_
  refine pm_if hK zmm119 .eq 21 22 rfl rfl (fun h0 => ?_) (fun h0 => ?_)
  · have h0 : b = (0 : Int) := h0
    have f1 := zT_get hT zs1_2 (i := 2) (by omega) (by omega)
    refine pm_blk hK zmm119 [] 2 26 [(2, 1), (0, b)] [(0, μ 1 2)] μ [] rfl trivial ?_
    refine pm_if hK zmm119 .ne 5 31 rfl rfl (fun h1 => ?_) (fun h1 => ?_)
    · have h1 : μ 1 2 ≠ (0 : Int) := h1
      refine pm_blk hK zmm119 [] 4 39 [(2, 1), (0, b)] [(2, 45), (2, 2)] μ [] rfl trivial ?_
      refine pm_call hK zmm119 (408, 0, 120, 1) zM120 (3, 122) [(2, 2), (2, 45)] [] rfl rfl rfl rfl ⟨by omega, by rw [zn120]; omega⟩ (zh_wv2 hK hw hC184 hs184 hC228 hs228 hC326 hs326 hC327 hs327 hC328 hs328 hC329 hs329 hC407 hs407 hT hb2 hb29 hb30 hb31 hb32 hb33 hb34 hb35 hb36 hb37 hb38 hb39 hb40 hb43 hb44 ⟨Nat.le_refl _, Nat.le_refl _⟩) (fun st1 μc1 hp1 => ?_)
      obtain ⟨rfl, hTc1, hz1, hy1⟩ := hp1
      have hz := hz1
      have hy := hy1
      refine pm_blk hK zmm119 [] 2 46 [(2, 1), (0, b)] [(2, 96)] μc1 [] rfl trivial ?_
      refine pm_call hK zmm119 (91, 0, 14, 0) zM14 (0, 0) [(2, 96)] [] rfl rfl rfl rfl ⟨by omega, by rw [zn14]; omega⟩ (zh_forget hK hTc1 hb96 ⟨Nat.le_refl _, Nat.le_refl _⟩) (fun st2 μc2 hp2 => ?_)
      obtain ⟨rfl, hTc2, hFg2⟩ := hp2
      have hFg := hFg2
      refine pm_blk hK zmm119 [] 1 50 [(2, 1), (0, b)] [(0, 1)] μc2 [] rfl trivial ?_
      exact pm_zret rfl rfl (by first | exact Or.inl rfl | exact Or.inr rfl | omega) ⟨_, rfl, hTc2, zIMX_b h0 h1 (zWc_fr hz (fun q hq => by rw [hFg q.1 ((show ∀ q ∈ zRq, q.1 ≠ 96 by decide) q hq)])), zIMY_b h0 h1 (zWv_fr hy (fun q hq i i0 i1 => by rw [hFg q.1 ((show ∀ q ∈ zRa, q.1 ≠ 96 by decide) q hq)]))⟩
    · have h1 : μ 1 2 = (0 : Int) := h1
      refine pm_blk hK zmm119 [] 1 30 [(2, 1), (0, b)] [(0, 0)] μ [] rfl trivial ?_
      exact pm_zret rfl rfl (by first | exact Or.inl rfl | exact Or.inr rfl | omega) ⟨_, rfl, hT, zIMX_n h0 h1, zIMY_n h0 h1 (fun _ _ _ _ _ => rfl)⟩
  · have h0 : b ≠ (0 : Int) := h0
    refine pm_blk hK zmm119 [] 4 12 [(2, 1), (0, b)] [(2, 2), (2, 45)] μ [] rfl trivial ?_
    refine pm_call hK zmm119 (408, 0, 120, 1) zM120 (3, 122) [(2, 45), (2, 2)] [] rfl rfl rfl rfl ⟨by omega, by rw [zn120]; omega⟩ (zh_wv45 hK hw hC210 hs210 hC211 hs211 hC330 hs330 hC331 hs331 hC332 hs332 hC333 hs333 hC416 hs416 hT hb45 hb72 hb73 hb74 hb75 hb76 hb77 hb78 hb79 hb80 hb81 hb82 hb83 hb86 hb87 ⟨Nat.le_refl _, Nat.le_refl _⟩) (fun st3 μc3 hp3 => ?_)
    obtain ⟨rfl, hTc3, hz3, hy3⟩ := hp3
    have hz := hz3
    have hy := hy3
    refine pm_blk hK zmm119 [] 3 20 [(2, 1), (0, b)] [] (pm_up μc3 1 2 1) [sx_bit Wm 1 = true, 0 ≤ 1 ∧ 1 ≤ 1] rfl ⟨hb1, ⟨by omega, by omega⟩, trivial⟩ ?_
    obtain ⟨μ1, eμ1⟩ : ∃ μ', μ' = pm_up μc3 1 2 1 := ⟨_, rfl⟩
    rw [← eμ1]
    have hTμ1 : zTJ none μ1 := by rw [eμ1]; exact zT_upn hTc3 zs1_2 rfl (i := 2) (by omega) (by omega) (by omega) (by omega)
    refine pm_blk hK zmm119 [] 1 21 [(2, 1), (0, b)] [(0, 1)] μ1 [] rfl trivial ?_
    exact pm_zret rfl rfl (by first | exact Or.inl rfl | exact Or.inr rfl | omega) ⟨_, rfl, hTμ1, zIMX_t h0 hz eμ1, zIMY_t h0 (zWv_fr hy (fun q hq i i0 i1 => by rw [eμ1, pm_up_off ((show ∀ q ∈ zRa, q.1 ≠ 1 by decide) q hq)]))⟩
end ZHW
