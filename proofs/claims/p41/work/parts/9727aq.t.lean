/-! how far: the class; walks printed by program (wip/p30/pmgen.py) and filled by hand -/
section ZHW
variable {φ : Option pm_Mem}
variable {D : va_G} {Wm : Nat} {ST : List (String × String × String × Nat)} {b0 : sx_B} {l : Launch} {Sg : Nat → Option Nat} {bud : sx_Bu} {μ : pm_Mem} {B0 : Nat → Prop} {J : (Nat → Option Nat) → Heap → Prop}
set_option maxRecDepth 100000 in
theorem zk_min (hK : zKK ST) {a b : Int} (hbd : 0 ≤ bud.1 ∧ 0 ≤ bud.2.1) : zC D Wm ST b0 l Sg zM30 bud [(0, a), (0, b)] μ (fun st' μ' => μ = μ' ∧ st' = [(0, min a b)]) := by
  refine pm_blk hK zmm30 [] 2 2 [(0, a), (0, b)] [(0, b), (0, a)] μ [] rfl trivial ?_
  refine pm_icmp hK zmm30 .gt 7 9 rfl rfl (fun h0 => ?_) (fun h0 => ?_)
  · have h0 : b < a := h0
    refine pm_blk hK zmm30 [] 1 10 [(0, a), (0, b)] [(0, b)] μ [] rfl trivial ?_
    exact pm_iret rfl rfl ⟨rfl, by rw [show min a b = b by omega]⟩
  · have h0 : a ≤ b := h0
    refine pm_blk hK zmm30 [] 2 10 [(0, a), (0, b)] [(0, a)] μ [] rfl trivial ?_
    exact pm_iret rfl rfl ⟨rfl, by rw [show min a b = a by omega]⟩
end ZHW
