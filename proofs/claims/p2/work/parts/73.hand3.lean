/-! what can be undone is kept; walks printed by program (wip/p30/pmgen.py) and filled by hand -/
variable {φ : Option pm_Mem}
section ZHW
variable {D : va_G} {Wm : Nat} {ST : List (String × String × String × Nat)} {b0 : sx_B} {l : Launch} {Sg : Nat → Option Nat} {bud : sx_Bu} {μ : pm_Mem} {B0 : Nat → Prop} {J : (Nat → Option Nat) → Heap → Prop}
set_option maxRecDepth 100000 in
theorem zl_keep1 (hK : zKK ST) {X : Nat → List pm_V → List pm_V → pm_Mem → Prop} (hb207 : sx_bit Wm 207 = true) (K : ∀ (k : Int) (μ : pm_Mem), μ 205 3 = 5 → zTJ φ μ → zW D Wm ST b0 l Sg zM153 bud X 55 [(2, 205), (0, k)] [] μ) (hbd : 0 ≤ bud.1 ∧ 0 ≤ bud.2.1) : ∀ (n : Nat) {k : Int} {μ : pm_Mem}, (800 - k).toNat = n → ∀ (hk : 0 ≤ k ∧ k ≤ 800) (hu : μ 205 3 = 5) (hT : zTJ φ μ), zW D Wm ST b0 l Sg zM153 bud X 21 [(2, 205), (0, k)] [] μ := by
  intro n
  induction n using Nat.strongRecOn with
  | ind n ih =>
    intro k μ hn hk hu hT
    have f1 := zT_get hT zs205_3 (i := 3) (by omega) (by omega)
    refine pm_blk hK zmm153 [] 5 30 [(2, 205), (0, k)] [(0, 160 * (μ 205 3)), (0, k)] μ [pm_in (160 * (μ 205 3))] rfl ⟨pm_in_mk (by omega) (by omega), trivial⟩ ?_
    refine pm_icmp hK zmm153 .ge 25 55 rfl rfl (fun h0 => ?_) (fun h0 => ?_)
    · have h0 : 160 * (μ 205 3) ≤ k := h0
      exact K _ _ hu hT
    · have h0 : k < 160 * (μ 205 3) := h0
      refine pm_blk hK zmm153 [] 10 49 [(2, 205), (0, k)] [] (pm_up μ 207 k (μ 207 (k + 160))) [pm_in (k + 160), 0 ≤ k + 160 ∧ k + 160 < 960, sx_bit Wm 207 = true, 0 ≤ k ∧ k < 960] rfl ⟨pm_in_mk (by omega) (by omega), ⟨by omega, by omega⟩, hb207, ⟨by omega, by omega⟩, trivial⟩ ?_
      obtain ⟨μ1, eμ1⟩ : ∃ μ', μ' = pm_up μ 207 k (μ 207 (k + 160)) := ⟨_, rfl⟩
      rw [← eμ1]
      have hTμ1 : zTJ φ μ1 := by rw [eμ1]; exact zT_shift hT (by omega) (by omega)
      refine pm_blk hK zmm153 [] 2 21 [(2, 205), (0, k + 1)] [] μ1 [pm_in (k + 1)] rfl ⟨pm_in_mk (by omega) (by omega), trivial⟩ ?_
      have hu1 : μ1 205 3 = 5 := by rw [eμ1, pm_up_off (by decide)]; exact hu
      exact ih _ (by omega) rfl ⟨by omega, by omega⟩ hu1 hTμ1
end ZHW
