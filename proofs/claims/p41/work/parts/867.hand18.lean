/-! a unit of the law; walks printed by program (wip/p30/pmgen.py) and filled by hand -/
variable {φ : Option pm_Mem}
section ZHW
variable {D : va_G} {Wm : Nat} {ST : List (String × String × String × Nat)} {b0 : sx_B} {l : Launch} {Sg : Nat → Option Nat} {bud : sx_Bu} {μ : pm_Mem} {B0 : Nat → Prop} {J : (Nat → Option Nat) → Heap → Prop}
set_option maxRecDepth 100000 in
theorem zh_emits (hK : zKK ST) {o v : Int} (hT : zTJ φ μ) (hc : 0 ≤ μ 205 25 ∧ μ 205 25 < 400) (ho : 0 ≤ o ∧ o ≤ 12) (hv : -1 ≤ v ∧ v ≤ 99999) (hb205 : sx_bit Wm 205 = true) (hb218 : sx_bit Wm 218 = true) (hb219 : sx_bit Wm 219 = true) (hbd : 0 ≤ bud.1 ∧ 0 ≤ bud.2.1) : zC D Wm ST b0 l Sg zM292 bud [(2, 205), (0, o), (0, v)] μ (fun st' μ' => st' = [] ∧ zTJ φ μ' ∧ zE1 μ μ' o v) := by
  have f1 := zT_get hT zs205_25 (i := 25) (by omega) (by omega)
  refine pm_blk hK zmm292 [] 8 14 [(2, 205), (0, o), (0, v)] [] (pm_up μ 218 (800 + (μ 205 25)) o) [pm_in (800 + (μ 205 25)), sx_bit Wm 218 = true, 0 ≤ 800 + (μ 205 25) ∧ 800 + (μ 205 25) < 1200] rfl ⟨pm_in_mk (by omega) (by omega), hb218, ⟨by omega, by omega⟩, trivial⟩ ?_
  obtain ⟨μ1, eμ1⟩ : ∃ μ', μ' = pm_up μ 218 (800 + (μ 205 25)) o := ⟨_, rfl⟩
  rw [← eμ1]
  have hTμ1 : zTJ φ μ1 := by rw [eμ1]; exact zT_op hT ⟨by omega, by omega⟩ ⟨by omega, by omega⟩
  have a25 : μ1 205 25 = μ 205 25 := by rw [eμ1, pm_up_off (by decide)]
  have g2 : μ1 205 25 = μ 205 25 := by rw [eμ1, pm_up_off (by decide)]
  have f3 := zT_get hTμ1 zs205_25 (i := 25) (by omega) (by omega)
  refine pm_blk hK zmm292 [] 8 28 [(2, 205), (0, o), (0, v)] [] (pm_up μ1 219 (800 + (μ1 205 25)) v) [pm_in (800 + (μ1 205 25)), sx_bit Wm 219 = true, 0 ≤ 800 + (μ1 205 25) ∧ 800 + (μ1 205 25) < 1200] rfl ⟨pm_in_mk (by omega) (by omega), hb219, ⟨by omega, by omega⟩, trivial⟩ ?_
  obtain ⟨μ2, eμ2⟩ : ∃ μ', μ' = pm_up μ1 219 (800 + (μ1 205 25)) v := ⟨_, rfl⟩
  rw [← eμ2]
  have hTμ2 : zTJ φ μ2 := by rw [eμ2]; exact zT_arg hTμ1 ⟨by omega, by omega⟩ ⟨by omega, by omega⟩
  have b25 : μ2 205 25 = μ 205 25 := by rw [eμ2, pm_up_off (by decide)]; exact a25
  have g4 : μ2 205 25 = μ 205 25 := by rw [eμ2, pm_up_off (by decide), eμ1, pm_up_off (by decide)]
  have f5 := zT_get hTμ2 zs205_25 (i := 25) (by omega) (by omega)
  refine pm_blk hK zmm292 [] 6 38 [(2, 205), (0, o), (0, v)] [] (pm_up μ2 205 25 ((μ2 205 25) + 1)) [pm_in ((μ2 205 25) + 1), sx_bit Wm 205 = true] rfl ⟨pm_in_mk (by omega) (by omega), hb205, trivial⟩ ?_
  obtain ⟨μ3, eμ3⟩ : ∃ μ', μ' = pm_up μ2 205 25 ((μ2 205 25) + 1) := ⟨_, rfl⟩
  rw [← eμ3]
  have hTμ3 : zTJ φ μ3 := by rw [eμ3]; exact zT_up hTμ2 zs205_25 rfl (i := 25) (by omega) (by omega) (by omega) (by omega)
  refine pm_vret rfl rfl ⟨rfl, hTμ3, ?_, ?_, ?_, ?_, ?_, ?_, ?_⟩
  · rw [eμ3, pm_up_eq, b25]
  · rw [eμ3, pm_up_off (by decide), eμ2, pm_up_off (by decide), eμ1, pm_up_eq]
  · rw [eμ3, pm_up_off (by decide), eμ2, a25, pm_up_eq]
  · intro i hi; rw [eμ3, pm_up_off (by decide), eμ2, pm_up_off (by decide), eμ1, pm_up_ne hi]
  · intro i hi; rw [eμ3, pm_up_off (by decide), eμ2, a25, pm_up_ne hi, eμ1, pm_up_off (by decide)]
  · intro r h1 h2 h3; rw [eμ3, pm_up_row h1, eμ2, pm_up_row h3, eμ1, pm_up_row h2]
  · intro k hk; rw [eμ3, pm_up_ne hk, eμ2, pm_up_off (by decide), eμ1, pm_up_off (by decide)]
set_option maxRecDepth 100000 in
theorem zh_canAsk (hK : zKK ST) {c : Int} (hbd : 1 ≤ bud.1 ∧ 23 ≤ bud.2.1) : zC D Wm ST b0 l Sg zM291 bud [(2, 205), (0, c)] μ (fun st' μ' => μ = μ' ∧ ∃ x, st' = [(0, x)] ∧ 0 ≤ x ∧ x ≤ 1 ∧ (x = 1 ↔ 7 ≤ c ∧ c ≤ 17)) := by
  refine pm_blk hK zmm291 [] 4 6 [(2, 205), (0, c)] [(0, 17), (0, 7), (0, c), (2, 205)] μ [] rfl trivial ?_
  refine pm_call hK zmm291 (158, 0, 129, 3) zM129 (0, 0) [(2, 205), (0, c), (0, 7), (0, 17)] [] rfl rfl rfl rfl ⟨by omega, by rw [zn129]; omega⟩ (zh_isIn hK ⟨by omega, by omega⟩) (fun st1 μc1 hp1 => ?_)
  obtain ⟨rfl, rfl⟩ := hp1
  rcases zif01 (7 ≤ c ∧ c ≤ 17) with q | q
  · have q2 := zif0 q; rw [q]; exact pm_zret rfl rfl (by first | exact Or.inl rfl | exact Or.inr rfl | omega) ⟨rfl, _, rfl, by omega, by omega, by omega⟩
  · rw [q]; have q2 := zif1 (P := 7 ≤ c ∧ c ≤ 17) (by omega); exact pm_zret rfl rfl (by first | exact Or.inl rfl | exact Or.inr rfl | omega) ⟨rfl, _, rfl, by omega, by omega, by omega⟩
end ZHW
