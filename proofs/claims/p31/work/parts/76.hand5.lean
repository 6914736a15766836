/-! sets side by side; walks printed by program (wip/p30/pmgen.py) and filled by hand -/
section ZHW
variable {D : va_G} {Wm : Nat} {ST : List (String × String × String × Nat)} {b0 : sx_B} {l : Launch} {Sg : Nat → Option Nat} {bud : sx_Bu} {μ : pm_Mem} {B0 : Nat → Prop} {J : (Nat → Option Nat) → Heap → Prop}
set_option maxRecDepth 100000 in
theorem zl_areBeside (hK : zKK ST)  {μ0 : pm_Mem} {w : Int} (hbd : 0 ≤ bud.1 ∧ 0 ≤ bud.2.1) : ∀ (n : Nat) {v : Int} {μ : pm_Mem}, v.toNat = n → ∀ (hμ : μ0 = μ) (hv : 1 ≤ v ∧ v ≤ 255), zW D Wm ST b0 l Sg zM320 bud (pm_X zM320 (fun st' μ' => μ0 = μ' ∧ ∃ x, st' = [(0, x)] ∧ 0 ≤ x ∧ x ≤ 1)) 2 [(2, 205), (0, w), (0, v)] [] μ := by
  intro n
  induction n using Nat.strongRecOn with
  | ind n ih =>
    intro v μ hn hμ hv
    refine pm_blk hK zmm320 [] 3 5 [(2, 205), (0, w), (0, v)] [(0, Int.tmod v 2)] μ [2 ≠ 0] rfl ⟨by omega, trivial⟩ ?_
    refine pm_if hK zmm320 .ne 10 15 rfl rfl (fun h0 => ?_) (fun h0 => ?_)
    · have h0 : Int.tmod v 2 ≠ (0 : Int) := h0
      refine pm_blk hK zmm320 [] 5 20 [(2, 205), (0, w), (0, v)] [(0, pm_and v (v + 1))] μ [pm_in (v + 1)] rfl ⟨pm_in_mk (by omega) (by omega), trivial⟩ ?_
      refine pm_if hK zmm320 .ne 7 27 rfl rfl (fun h1 => ?_) (fun h1 => ?_)
      · have h1 : pm_and v (v + 1) ≠ (0 : Int) := h1
        refine pm_blk hK zmm320 [] 1 28 [(2, 205), (0, w), (0, v)] [(0, 0)] μ [] rfl trivial ?_
        exact pm_zret rfl rfl (by first | exact Or.inl rfl | exact Or.inr rfl | omega) ⟨hμ, _, rfl, by omega, by omega⟩
      · have h1 : pm_and v (v + 1) = (0 : Int) := h1
        refine pm_blk hK zmm320 [] 2 28 [(2, 205), (0, w), (0, v)] [(0, 1)] μ [] rfl trivial ?_
        exact pm_zret rfl rfl (by first | exact Or.inl rfl | exact Or.inr rfl | omega) ⟨hμ, _, rfl, by omega, by omega⟩
    · have h0 : Int.tmod v 2 = (0 : Int) := h0
      have hm : v.tmod 2 = v % 2 := Int.tmod_eq_emod_of_nonneg (by omega)
      have hs := zshr (v := v) (k := 1) (by decide) (by unfold pm_in; omega)
      have hs : pm_shr v 1 = v / 2 := hs
      refine pm_blk hK zmm320 [] 4 12 [(2, 205), (0, w), (0, pm_shr v 1)] [] μ [] rfl trivial ?_
      have hm : v.tmod 2 = v % 2 := Int.tmod_eq_emod_of_nonneg (by omega)
      refine pm_blk hK zmm320 [] 1 2 [(2, 205), (0, w), (0, pm_shr v 1)] [] μ [] rfl trivial ?_
      rw [hs]
      exact ih _ (by omega) rfl hμ ⟨by omega, by omega⟩
set_option maxRecDepth 100000 in
theorem zh_areBeside (hK : zKK ST) {w : Int} (hw : 1 ≤ w ∧ w ≤ 255) (hbd : 0 ≤ bud.1 ∧ 0 ≤ bud.2.1) : zC D Wm ST b0 l Sg zM320 bud [(2, 205), (0, w)] μ (fun st' μ' => μ = μ' ∧ ∃ x, st' = [(0, x)] ∧ 0 ≤ x ∧ x ≤ 1) := by
  refine pm_blk hK zmm320 [] 2 2 [(2, 205), (0, w), (0, w)] [] μ [] rfl trivial ?_
  exact zl_areBeside hK hbd _ rfl rfl hw
end ZHW
