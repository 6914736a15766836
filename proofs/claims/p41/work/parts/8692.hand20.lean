/-! what waits is settled; walks printed by program (wip/p30/pmgen.py) and filled by hand -/
variable {φ : Option pm_Mem}
section ZHW
variable {D : va_G} {Wm : Nat} {ST : List (String × String × String × Nat)} {b0 : sx_B} {l : Launch} {Sg : Nat → Option Nat} {bud : sx_Bu} {μ : pm_Mem} {B0 : Nat → Prop} {J : (Nat → Option Nat) → Heap → Prop}
set_option maxRecDepth 100000 in
theorem zh_waits (hK : zKK ST) {v : Int} (hT : zTJ φ μ) (h28 : 0 ≤ μ 205 28 ∧ μ 205 28 < 40) (hv : 0 ≤ v ∧ v ≤ 12) (hb205 : sx_bit Wm 205 = true) (hb220 : sx_bit Wm 220 = true) (hbd : 0 ≤ bud.1 ∧ 0 ≤ bud.2.1) : zC D Wm ST b0 l Sg zM294 bud [(2, 205), (0, v)] μ (fun st' μ' => st' = [] ∧ zTJ φ μ' ∧ ∃ μ1, μ1 = pm_up μ 220 (μ 205 28) v ∧ μ' = pm_up μ1 205 28 (μ 205 28 + 1)) := by
  have f1 := zT_get hT zs205_28 (i := 28) (by omega) (by omega)
  refine pm_blk hK zmm294 [] 6 10 [(2, 205), (0, v)] [] (pm_up μ 220 (μ 205 28) v) [sx_bit Wm 220 = true, 0 ≤ μ 205 28 ∧ μ 205 28 < 40] rfl ⟨hb220, ⟨by omega, by omega⟩, trivial⟩ ?_
  obtain ⟨μ1, eμ1⟩ : ∃ μ', μ' = pm_up μ 220 (μ 205 28) v := ⟨_, rfl⟩
  rw [← eμ1]
  have hTμ1 : zTJ φ μ1 := by rw [eμ1]; exact zT_up hT zs220_0 rfl (i := μ 205 28) (by omega) (by omega) (by omega) (by omega)
  have a28 : μ1 205 28 = μ 205 28 := by rw [eμ1, pm_up_off (by decide)]
  have g2 : μ1 205 28 = μ 205 28 := by rw [eμ1, pm_up_off (by decide)]
  have f3 := zT_get hTμ1 zs205_28 (i := 28) (by omega) (by omega)
  refine pm_blk hK zmm294 [] 6 20 [(2, 205), (0, v)] [] (pm_up μ1 205 28 ((μ1 205 28) + 1)) [pm_in ((μ1 205 28) + 1), sx_bit Wm 205 = true] rfl ⟨pm_in_mk (by omega) (by omega), hb205, trivial⟩ ?_
  obtain ⟨μ2, eμ2⟩ : ∃ μ', μ' = pm_up μ1 205 28 ((μ1 205 28) + 1) := ⟨_, rfl⟩
  rw [← eμ2]
  have hTμ2 : zTJ φ μ2 := by rw [eμ2]; exact zT_up hTμ1 zs205_28 rfl (i := 28) (by omega) (by omega) (by omega) (by omega)
  exact pm_vret rfl rfl ⟨rfl, hTμ2, _, rfl, by rw [eμ2, a28]⟩
end ZHW
