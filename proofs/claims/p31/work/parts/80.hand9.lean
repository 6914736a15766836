/-! is one of a set; walks printed by program (wip/p30/pmgen.py) and filled by hand -/
section ZHW
variable {D : va_G} {Wm : Nat} {ST : List (String × String × String × Nat)} {b0 : sx_B} {l : Launch} {Sg : Nat → Option Nat} {bud : sx_Bu} {μ : pm_Mem} {B0 : Nat → Prop} {J : (Nat → Option Nat) → Heap → Prop}
set_option maxRecDepth 100000 in
theorem zh_has (hK : zKK ST) {w k : Int} (hw : 0 ≤ w ∧ w ≤ 2147483647) (hk : 0 ≤ k ∧ k < 32) (hbd : 0 ≤ bud.1 ∧ 0 ≤ bud.2.1) : zC D Wm ST b0 l Sg zM169 bud [(2, 205), (0, w), (0, k)] μ (fun st' μ' => μ = μ' ∧ st' = [(0, if w.toNat.testBit k.toNat = true then 1 else 0)]) := by
  have hh := zhas (s := w) (k := k.toNat) (by omega) (by omega) (by omega)
  rw [Int.toNat_of_nonneg hk.1] at hh
  refine pm_blk hK zmm169 [] 6 6 [(2, 205), (0, w), (0, k)] [(0, 1), (0, pm_and (pm_shr w k) 1)] μ [] rfl trivial ?_
  refine pm_icmp hK zmm169 .ne 7 13 rfl rfl (fun h0 => ?_) (fun h0 => ?_)
  · have h0 : pm_and (pm_shr w k) 1 ≠ (1 : Int) := h0
    refine pm_blk hK zmm169 [] 1 14 [(2, 205), (0, w), (0, k)] [(0, 0)] μ [] rfl trivial ?_
    exact pm_zret rfl rfl (by first | exact Or.inl rfl | exact Or.inr rfl | omega) ⟨rfl, by first | (rw [← hh, h0]) | (rcases zif01 (w.toNat.testBit k.toNat = true) with q | q; (rw [q]); (rw [← hh] at q; exact absurd q h0))⟩
  · have h0 : pm_and (pm_shr w k) 1 = (1 : Int) := h0
    refine pm_blk hK zmm169 [] 2 14 [(2, 205), (0, w), (0, k)] [(0, 1)] μ [] rfl trivial ?_
    exact pm_zret rfl rfl (by first | exact Or.inl rfl | exact Or.inr rfl | omega) ⟨rfl, by first | (rw [← hh, h0]) | (rcases zif01 (w.toNat.testBit k.toNat = true) with q | q; (rw [q]); (rw [← hh] at q; exact absurd q h0))⟩
end ZHW
