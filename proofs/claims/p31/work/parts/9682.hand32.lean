/-! the rounds of an hour; walks printed by program (wip/p30/pmgen.py) and filled by hand -/
section ZHW
variable {D : va_G} {Wm : Nat} {ST : List (String × String × String × Nat)} {b0 : sx_B} {l : Launch} {Sg : Nat → Option Nat} {bud : sx_Bu} {μ : pm_Mem} {B0 : Nat → Prop} {J : (Nat → Option Nat) → Heap → Prop}
set_option maxRecDepth 100000 in
theorem zl_gb (hK : zKK ST) {X : Nat → List pm_V → List pm_V → pm_Mem → Prop} (hb206 : sx_bit Wm 206 = true) (K : ∀ (μ : pm_Mem), zTJ μ → zW D Wm ST b0 l Sg zM155 bud X 90 [(2, 205), (9, 0), (9, 0), (9, 0), (9, 0)] [] μ) (hbd : 1 ≤ bud.1 ∧ 24 ≤ bud.2.1) : ∀ (n : Nat) {k z : Int} {μ : pm_Mem}, (16 - z).toNat = n → ∀ (hk : k = 3 * z) (hz : 0 ≤ z ∧ z ≤ 16) (hT : zTJ μ), zW D Wm ST b0 l Sg zM155 bud X 15 [(2, 205), (0, k), (9, 0), (9, 0), (9, 0)] [] μ := by
  intro n
  induction n using Nat.strongRecOn with
  | ind n ih =>
    intro k z μ hn hk hz hT
    have f1 := zT_get hT zs205_33 (i := 33) (by omega) (by omega)
    refine pm_blk hK zmm155 [] 5 22 [(2, 205), (0, k), (9, 0), (9, 0), (9, 0)] [(0, 3 * (μ 205 33)), (0, k)] μ [pm_in (3 * (μ 205 33))] rfl ⟨pm_in_mk (by omega) (by omega), trivial⟩ ?_
    refine pm_icmp hK zmm155 .ge 68 90 rfl rfl (fun h0 => ?_) (fun h0 => ?_)
    · have h0 : 3 * (μ 205 33) ≤ k := h0
      refine pm_hide [1] ?_
      exact K _ hT
    · have h0 : k < 3 * (μ 205 33) := h0
      have f2 := zT_getp hT zp221_2 (i := k + 2) (z := z) (by omega) (by omega) (by omega)
      have f3 := zT_getp hT zp221_1 (i := k + 1) (z := z) (by omega) (by omega) (by omega)
      have f4 := zT_get hT zs206_1 (i := 1) (by omega) (by omega)
      refine pm_blk hK zmm155 [] 19 50 [(2, 205), (0, k), (0, (μ 221 (k + 2)) - 1), (9, 0), (9, 0)] [(0, μ 206 1), (0, μ 221 (k + 1))] μ [pm_in (k + 2), 0 ≤ k + 2 ∧ k + 2 < 96, pm_in ((μ 221 (k + 2)) - 1), pm_in (k + 1), 0 ≤ k + 1 ∧ k + 1 < 96, 0 ≤ 1 ∧ 1 < 160] rfl ⟨pm_in_mk (by omega) (by omega), ⟨by omega, by omega⟩, pm_in_mk (by omega) (by omega), pm_in_mk (by omega) (by omega), ⟨by omega, by omega⟩, ⟨by omega, by omega⟩, trivial⟩ ?_
      refine pm_icmp hK zmm155 .ne 33 83 rfl rfl (fun h1 => ?_) (fun h1 => ?_)
      · have h1 : μ 221 (k + 1) ≠ μ 206 1 := h1
        refine pm_blk hK zmm155 [] 5 15 [(2, 205), (0, k + 3), (0, (μ 221 (k + 2)) - 1), (9, 0), (9, 0)] [] μ [pm_in (k + 3)] rfl ⟨pm_in_mk (by omega) (by omega), trivial⟩ ?_
        refine pm_hide [2] ?_
        exact ih _ (by omega) (k := k + 3) (z := z + 1) rfl (by omega) ⟨by omega, by omega⟩ hT
      · have h1 : μ 221 (k + 1) = μ 206 1 := h1
        refine pm_blk hK zmm155 [] 2 55 [(2, 205), (0, k), (0, (μ 221 (k + 2)) - 1), (9, 0), (9, 0)] [(0, (-1)), (0, (μ 221 (k + 2)) - 1)] μ [] rfl trivial ?_
        refine pm_icmp hK zmm155 .eq 11 66 rfl rfl (fun h2 => ?_) (fun h2 => ?_)
        · have h2 : (μ 221 (k + 2)) - 1 = ((-1) : Int) := h2
          have f5 := zT_getp hT zp221_0 (i := k) (z := z) (by omega) (by omega) (by omega)
          refine pm_blk hK zmm155 [] 12 83 [(2, 205), (0, k), (0, (μ 221 (k + 2)) - 1), (9, 0), (9, 0)] [] (pm_up μ 206 (106 + (μ 221 k)) (((μ 221 (k + 2)) - 1) + 1)) [0 ≤ k ∧ k < 96, pm_in (106 + (μ 221 k)), pm_in (((μ 221 (k + 2)) - 1) + 1), sx_bit Wm 206 = true, 0 ≤ 106 + (μ 221 k) ∧ 106 + (μ 221 k) < 160] rfl ⟨⟨by omega, by omega⟩, pm_in_mk (by omega) (by omega), pm_in_mk (by omega) (by omega), hb206, ⟨by omega, by omega⟩, trivial⟩ ?_
          obtain ⟨μ1, eμ1⟩ : ∃ μ', μ' = pm_up μ 206 (106 + (μ 221 k)) (((μ 221 (k + 2)) - 1) + 1) := ⟨_, rfl⟩
          rw [← eμ1]
          have hTμ1 : zTJ μ1 := by rw [eμ1]; exact zT_now hT ⟨by omega, by omega⟩ ⟨by omega, by omega⟩
          refine pm_blk hK zmm155 [] 5 15 [(2, 205), (0, k + 3), (0, (μ 221 (k + 2)) - 1), (9, 0), (9, 0)] [] μ1 [pm_in (k + 3)] rfl ⟨pm_in_mk (by omega) (by omega), trivial⟩ ?_
          refine pm_hide [2] ?_
          exact ih _ (by omega) (k := k + 3) (z := z + 1) rfl (by omega) ⟨by omega, by omega⟩ hTμ1
        · have h2 : (μ 221 (k + 2)) - 1 ≠ ((-1) : Int) := h2
          refine pm_blk hK zmm155 [] 2 60 [(2, 205), (0, k), (0, (μ 221 (k + 2)) - 1), (9, 0), (9, 0)] [(0, (μ 221 (k + 2)) - 1), (2, 205)] μ [] rfl trivial ?_
          refine pm_call hK zmm155 (356, 0, 297, 1) zM297 (0, 0) [(2, 205), (0, (μ 221 (k + 2)) - 1)] [] rfl rfl rfl rfl ⟨by omega, by rw [zn297]; omega⟩ (zh_isOpen hK (s := ((μ 221 (k + 2)) - 1)) hT ⟨by omega, by omega⟩ ⟨Nat.le_refl _, Nat.le_refl _⟩) (fun st1 μc1 hp1 => ?_)
          obtain ⟨rfl, rfl⟩ := hp1
          refine pm_if hK zmm155 .eq 20 83 rfl rfl (fun h3 => ?_) (fun h3 => ?_)
          · have h3 : (if μ 206 (40 + ((μ 221 (k + 2)) - 1)) = 0 then 1 else 0 : Int) = (0 : Int) := h3
            have h3 := zif0 h3
            refine pm_blk hK zmm155 [] 5 15 [(2, 205), (0, k + 3), (0, (μ 221 (k + 2)) - 1), (9, 0), (9, 0)] [] μ [pm_in (k + 3)] rfl ⟨pm_in_mk (by omega) (by omega), trivial⟩ ?_
            refine pm_hide [2] ?_
            exact ih _ (by omega) (k := k + 3) (z := z + 1) rfl (by omega) ⟨by omega, by omega⟩ hT
          · have h3 : (if μ 206 (40 + ((μ 221 (k + 2)) - 1)) = 0 then 1 else 0 : Int) ≠ (0 : Int) := h3
            have h3 := zif1 h3
            have f6 := zT_getp hT zp221_0 (i := k) (z := z) (by omega) (by omega) (by omega)
            refine pm_blk hK zmm155 [] 12 83 [(2, 205), (0, k), (0, (μ 221 (k + 2)) - 1), (9, 0), (9, 0)] [] (pm_up μ 206 (106 + (μ 221 k)) (((μ 221 (k + 2)) - 1) + 1)) [0 ≤ k ∧ k < 96, pm_in (106 + (μ 221 k)), pm_in (((μ 221 (k + 2)) - 1) + 1), sx_bit Wm 206 = true, 0 ≤ 106 + (μ 221 k) ∧ 106 + (μ 221 k) < 160] rfl ⟨⟨by omega, by omega⟩, pm_in_mk (by omega) (by omega), pm_in_mk (by omega) (by omega), hb206, ⟨by omega, by omega⟩, trivial⟩ ?_
            obtain ⟨μ2, eμ2⟩ : ∃ μ', μ' = pm_up μ 206 (106 + (μ 221 k)) (((μ 221 (k + 2)) - 1) + 1) := ⟨_, rfl⟩
            rw [← eμ2]
            have hTμ2 : zTJ μ2 := by rw [eμ2]; exact zT_now hT ⟨by omega, by omega⟩ ⟨by omega, by omega⟩
            refine pm_blk hK zmm155 [] 5 15 [(2, 205), (0, k + 3), (0, (μ 221 (k + 2)) - 1), (9, 0), (9, 0)] [] μ2 [pm_in (k + 3)] rfl ⟨pm_in_mk (by omega) (by omega), trivial⟩ ?_
            refine pm_hide [2] ?_
            exact ih _ (by omega) (k := k + 3) (z := z + 1) rfl (by omega) ⟨by omega, by omega⟩ hTμ2
end ZHW
