/-! what can be undone is kept; walks printed by program (wip/p30/pmgen.py) and filled by hand -/
section ZHW
variable {D : va_G} {Wm : Nat} {ST : List (String × String × String × Nat)} {b0 : sx_B} {l : Launch} {Sg : Nat → Option Nat} {bud : sx_Bu} {μ : pm_Mem} {B0 : Nat → Prop} {J : (Nat → Option Nat) → Heap → Prop}
set_option maxRecDepth 100000 in
theorem zl_keep1 (hK : zKK ST) {X : Nat → List pm_V → List pm_V → pm_Mem → Prop} (hb207 : sx_bit Wm 207 = true) (K : ∀ (k : Int) (μ : pm_Mem), μ 205 3 = 5 → zTJ μ → zW D Wm ST b0 l Sg zM153 bud X 55 [(2, 205), (0, k)] [] μ) (hbd : 0 ≤ bud.1 ∧ 0 ≤ bud.2.1) : ∀ (n : Nat) {k : Int} {μ : pm_Mem}, (800 - k).toNat = n → ∀ (hk : 0 ≤ k ∧ k ≤ 800) (hu : μ 205 3 = 5) (hT : zTJ μ), zW D Wm ST b0 l Sg zM153 bud X 21 [(2, 205), (0, k)] [] μ := by
  intro n
  induction n using Nat.strongRecOn with
  | ind n ih =>
    intro k μ hn hk hu hT
    have f1 := zT_get hT zs205_3 (i := 3) (by omega) (by omega)
    refine pm_blk hK zmm153 [] 5 30 [(2, 205), (0, k)] [(0, 160 * (μ 205 3)), (0, k)] μ [pm_in (160 * (μ 205 3))] rfl ⟨pm_in_mk (by omega) (by omega), trivial⟩ ?_
    refine pm_icmp hK zmm153 .ge 25 55 rfl rfl (fun h0 => ?_) (fun h0 => ?_)
    · have h0 : 160 * (μ 205 3) ≤ k := h0
      exact K _ _ hu hT
    · have h0 : k < 160 * (μ 205 3) := h0
      refine pm_blk hK zmm153 [] 10 49 [(2, 205), (0, k)] [] (pm_up μ 207 k (μ 207 (k + 160))) [pm_in (k + 160), 0 ≤ k + 160 ∧ k + 160 < 960, sx_bit Wm 207 = true, 0 ≤ k ∧ k < 960] rfl ⟨pm_in_mk (by omega) (by omega), ⟨by omega, by omega⟩, hb207, ⟨by omega, by omega⟩, trivial⟩ ?_
      obtain ⟨μ1, eμ1⟩ : ∃ μ', μ' = pm_up μ 207 k (μ 207 (k + 160)) := ⟨_, rfl⟩
      rw [← eμ1]
      have hTμ1 : zTJ μ1 := by rw [eμ1]; exact zT_shift hT (by omega) (by omega)
      refine pm_blk hK zmm153 [] 2 21 [(2, 205), (0, k + 1)] [] μ1 [pm_in (k + 1)] rfl ⟨pm_in_mk (by omega) (by omega), trivial⟩ ?_
      have hu1 : μ1 205 3 = 5 := by rw [eμ1, pm_up_off (by decide)]; exact hu
      exact ih _ (by omega) rfl ⟨by omega, by omega⟩ hu1 hTμ1
set_option maxRecDepth 100000 in
theorem zl_keep2 (hK : zKK ST)  (hb205 : sx_bit Wm 205 = true) (hb207 : sx_bit Wm 207 = true) (hbd : 0 ≤ bud.1 ∧ 0 ≤ bud.2.1) : ∀ (n : Nat) {k : Int} {μ : pm_Mem}, (160 - k).toNat = n → ∀ (hk : 0 ≤ k ∧ k ≤ 160) (hu : 0 ≤ μ 205 3 ∧ μ 205 3 ≤ 5) (hT : zTJ μ), zW D Wm ST b0 l Sg zM153 bud (pm_X zM153 (fun st' μ' => st' = [] ∧ zTJ μ')) 57 [(2, 205), (0, k)] [] μ := by
  intro n
  induction n using Nat.strongRecOn with
  | ind n ih =>
    intro k μ hn hk hu hT
    refine pm_blk hK zmm153 [] 2 61 [(2, 205), (0, k)] [(0, 160), (0, k)] μ [] rfl trivial ?_
    refine pm_icmp hK zmm153 .ge 30 91 rfl rfl (fun h0 => ?_) (fun h0 => ?_)
    · have h0 : (160 : Int) ≤ k := h0
      have f1 := zT_get hT zs205_3 (i := 3) (by omega) (by omega)
      refine pm_blk hK zmm153 [] 6 101 [(2, 205), (0, k)] [] (pm_up μ 205 3 ((μ 205 3) + 1)) [pm_in ((μ 205 3) + 1), sx_bit Wm 205 = true] rfl ⟨pm_in_mk (by omega) (by omega), hb205, trivial⟩ ?_
      obtain ⟨μ1, eμ1⟩ : ∃ μ', μ' = pm_up μ 205 3 ((μ 205 3) + 1) := ⟨_, rfl⟩
      rw [← eμ1]
      have hTμ1 : zTJ μ1 := by rw [eμ1]; exact zT_up hT zs205_3 rfl (i := 3) (by omega) (by omega) (by omega) (by omega)
      exact pm_vret rfl rfl ⟨rfl, hTμ1⟩
    · have h0 : k < (160 : Int) := h0
      have f2 := zT_get hT zs205_3 (i := 3) (by omega) (by omega)
      refine pm_blk hK zmm153 [] 13 85 [(2, 205), (0, k)] [] (pm_up μ 207 ((160 * (μ 205 3)) + k) (μ 206 k)) [pm_in (160 * (μ 205 3)), pm_in ((160 * (μ 205 3)) + k), 0 ≤ k ∧ k < 160, sx_bit Wm 207 = true, 0 ≤ (160 * (μ 205 3)) + k ∧ (160 * (μ 205 3)) + k < 960] rfl ⟨pm_in_mk (by omega) (by omega), pm_in_mk (by omega) (by omega), ⟨by omega, by omega⟩, hb207, ⟨by omega, by omega⟩, trivial⟩ ?_
      obtain ⟨μ2, eμ2⟩ : ∃ μ', μ' = pm_up μ 207 ((160 * (μ 205 3)) + k) (μ 206 k) := ⟨_, rfl⟩
      rw [← eμ2]
      have hTμ2 : zTJ μ2 := by rw [eμ2]; exact zT_keep hT (by omega) (by omega) (by omega) (by omega)
      refine pm_blk hK zmm153 [] 2 57 [(2, 205), (0, k + 1)] [] μ2 [pm_in (k + 1)] rfl ⟨pm_in_mk (by omega) (by omega), trivial⟩ ?_
      have hu1 : μ2 205 3 = μ 205 3 := by rw [eμ2, pm_up_off (by decide)]
      exact ih _ (by omega) rfl ⟨by omega, by omega⟩ ⟨by omega, by omega⟩ hTμ2
set_option maxRecDepth 100000 in
theorem zh_keepsAhead (hK : zKK ST) (hT : zTJ μ) (hb205 : sx_bit Wm 205 = true) (hb207 : sx_bit Wm 207 = true) (hbd : 0 ≤ bud.1 ∧ 0 ≤ bud.2.1) : zC D Wm ST b0 l Sg zM153 bud [(2, 205)] μ (fun st' μ' => st' = [] ∧ zTJ μ') := by
  have f1 := zT_get hT zs205_3 (i := 3) (by omega) (by omega)
  refine pm_blk hK zmm153 [] 3 6 [(2, 205), (9, 0)] [(0, 6), (0, μ 205 3)] μ [] rfl trivial ?_
  refine pm_icmp hK zmm153 .ne 49 55 rfl rfl (fun h0 => ?_) (fun h0 => ?_)
  · have h0 : μ 205 3 ≠ (6 : Int) := h0
    refine pm_blk hK zmm153 [] 2 57 [(2, 205), (0, 0)] [] μ [] rfl trivial ?_
    exact zl_keep2 hK hb205 hb207 hbd _ (k := 0) rfl ⟨by omega, by omega⟩ ⟨by omega, by omega⟩ hT
  · have h0 : μ 205 3 = (6 : Int) := h0
    refine pm_blk hK zmm153 [] 6 19 [(2, 205), (9, 0)] [] (pm_up μ 205 3 ((μ 205 3) - 1)) [pm_in ((μ 205 3) - 1), sx_bit Wm 205 = true] rfl ⟨pm_in_mk (by omega) (by omega), hb205, trivial⟩ ?_
    obtain ⟨μ1, eμ1⟩ : ∃ μ', μ' = pm_up μ 205 3 ((μ 205 3) - 1) := ⟨_, rfl⟩
    rw [← eμ1]
    have hTμ1 : zTJ μ1 := by rw [eμ1]; exact zT_up hT zs205_3 rfl (i := 3) (by omega) (by omega) (by omega) (by omega)
    refine pm_blk hK zmm153 [] 2 21 [(2, 205), (0, 0)] [] μ1 [] rfl trivial ?_
    have hu : μ1 205 3 = 5 := by rw [eμ1, pm_up_eq]; omega
    refine zl_keep1 hK hb207 (fun k μ hu hT => ?_) hbd _ rfl ⟨by omega, by omega⟩ hu hTμ1
    refine pm_blk hK zmm153 [] 2 57 [(2, 205), (0, 0)] [] μ [] rfl trivial ?_
    exact zl_keep2 hK hb205 hb207 hbd _ (k := 0) rfl ⟨by omega, by omega⟩ ⟨by omega, by omega⟩ hT
end ZHW
