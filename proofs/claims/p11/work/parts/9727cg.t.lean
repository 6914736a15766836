/-! what is wrong in a text; walks printed by program (wip/p30/pmgen.py) and filled by hand -/
section ZHW
variable {φ : Option pm_Mem}
variable {D : va_G} {Wm : Nat} {ST : List (String × String × String × Nat)} {b0 : sx_B} {l : Launch} {Sg : Nat → Option Nat} {bud : sx_Bu} {μ : pm_Mem} {B0 : Nat → Prop} {J : (Nat → Option Nat) → Heap → Prop}
set_option maxRecDepth 100000 in
theorem zx_fault (hK : zKK ST) {u : Int} (hT : zTJ φ μ) (hbd : 0 ≤ bud.1 ∧ 0 ≤ bud.2.1) : zC D Wm ST b0 l Sg zM55 bud [(2, 1), (0, u)] μ (fun st' μ' => st' = [(0, if u = 0 then μ 88 2 else if u = 1 then μ 88 3 else -1)] ∧ zTJ φ μ' ∧ μ' = μ) := by
  refine pm_blk hK zmm55 [] 1 1 [(2, 1), (0, u)] [(0, u)] μ [] rfl trivial ?_
  refine pm_if hK zmm55 .ne 11 12 rfl rfl (fun h0 => ?_) (fun h0 => ?_)
  · have h0 : u ≠ (0 : Int) := h0
    refine pm_blk hK zmm55 [] 2 14 [(2, 1), (0, u)] [(0, 1), (0, u)] μ [] rfl trivial ?_
    refine pm_icmp hK zmm55 .ne 13 27 rfl rfl (fun h1 => ?_) (fun h1 => ?_)
    · have h1 : u ≠ (1 : Int) := h1
      refine pm_blk hK zmm55 [] 1 28 [(2, 1), (0, u)] [(0, (-1))] μ [] rfl trivial ?_
      exact pm_iret rfl rfl ⟨by first | rw [if_pos (by omega)] | rw [if_neg (by omega), if_pos (by omega)] | rw [if_neg (by omega), if_neg (by omega)], hT, rfl⟩
    · have h1 : u = (1 : Int) := h1
      have f1 := zT_get hT zs88_3 (i := 3) (by omega) (by omega)
      refine pm_blk hK zmm55 [] 4 28 [(2, 1), (0, u)] [(0, μ 88 3)] μ [] rfl trivial ?_
      exact pm_iret rfl rfl ⟨by first | rw [if_pos (by omega)] | rw [if_neg (by omega), if_pos (by omega)] | rw [if_neg (by omega), if_neg (by omega)], hT, rfl⟩
  · have h0 : u = (0 : Int) := h0
    have f2 := zT_get hT zs88_2 (i := 2) (by omega) (by omega)
    refine pm_blk hK zmm55 [] 3 11 [(2, 1), (0, u)] [(0, μ 88 2)] μ [] rfl trivial ?_
    exact pm_iret rfl rfl ⟨by first | rw [if_pos (by omega)] | rw [if_neg (by omega), if_pos (by omega)] | rw [if_neg (by omega), if_neg (by omega)], hT, rfl⟩
set_option maxRecDepth 100000 in
theorem zx_faultR (hK : zKK ST) {u : Int} (hT : zTJ φ μ) (hb205 : sx_bit Wm 205 = true) (hbd : 0 ≤ bud.1 ∧ 0 ≤ bud.2.1) : zC D Wm ST b0 l Sg zM149 bud [(2, 205), (0, u)] μ (fun st' μ' => st' = [(0, if u = 0 then μ 205 31 else if u = 1 then μ 205 32 else -1)] ∧ zTJ φ μ' ∧ (∀ r, r ≠ 205 → μ' r = μ r) ∧ (∀ k : Int, k ≠ 0 → μ' 205 k = μ 205 k)) := by
  refine pm_blk hK zmm149 [] 3 5 [(2, 205), (0, u)] [] (pm_up μ 205 0 0) [sx_bit Wm 205 = true] rfl ⟨hb205, trivial⟩ ?_
  obtain ⟨μ1, eμ1⟩ : ∃ μ', μ' = pm_up μ 205 0 0 := ⟨_, rfl⟩
  rw [← eμ1]
  have hTμ1 : zTJ φ μ1 := by rw [eμ1]; exact zT_up hT zs205_0 rfl (i := 0) (by omega) (by omega) (by omega) (by omega)
  have c31 : μ1 205 31 = μ 205 31 := by rw [eμ1, pm_up_ne (by decide)]
  have c32 : μ1 205 32 = μ 205 32 := by rw [eμ1, pm_up_ne (by decide)]
  refine pm_blk hK zmm149 [] 1 6 [(2, 205), (0, u)] [(0, u)] μ1 [] rfl trivial ?_
  refine pm_if hK zmm149 .ne 10 16 rfl rfl (fun h0 => ?_) (fun h0 => ?_)
  · have h0 : u ≠ (0 : Int) := h0
    refine pm_blk hK zmm149 [] 2 18 [(2, 205), (0, u)] [(0, 1), (0, u)] μ1 [] rfl trivial ?_
    refine pm_icmp hK zmm149 .ne 10 28 rfl rfl (fun h1 => ?_) (fun h1 => ?_)
    · have h1 : u ≠ (1 : Int) := h1
      refine pm_blk hK zmm149 [] 1 29 [(2, 205), (0, u)] [(0, (-1))] μ1 [] rfl trivial ?_
      exact pm_iret rfl rfl ⟨by first | rw [if_pos (by omega), c31] | rw [if_neg (by omega), if_pos (by omega), c32] | rw [if_neg (by omega), if_neg (by omega)], hTμ1, fun r hr => by rw [eμ1, pm_up_row hr], fun k hk => by rw [eμ1, pm_up_ne hk]⟩
    · have h1 : u = (1 : Int) := h1
      have f1 := zT_get hTμ1 zs205_32 (i := 32) (by omega) (by omega)
      refine pm_blk hK zmm149 [] 3 29 [(2, 205), (0, u)] [(0, μ1 205 32)] μ1 [] rfl trivial ?_
      exact pm_iret rfl rfl ⟨by first | rw [if_pos (by omega), c31] | rw [if_neg (by omega), if_pos (by omega), c32] | rw [if_neg (by omega), if_neg (by omega)], hTμ1, fun r hr => by rw [eμ1, pm_up_row hr], fun k hk => by rw [eμ1, pm_up_ne hk]⟩
  · have h0 : u = (0 : Int) := h0
    have f2 := zT_get hTμ1 zs205_31 (i := 31) (by omega) (by omega)
    refine pm_blk hK zmm149 [] 3 29 [(2, 205), (0, u)] [(0, μ1 205 31)] μ1 [] rfl trivial ?_
    exact pm_iret rfl rfl ⟨by first | rw [if_pos (by omega), c31] | rw [if_neg (by omega), if_pos (by omega), c32] | rw [if_neg (by omega), if_neg (by omega)], hTμ1, fun r hr => by rw [eμ1, pm_up_row hr], fun k hk => by rw [eμ1, pm_up_ne hk]⟩
end ZHW
