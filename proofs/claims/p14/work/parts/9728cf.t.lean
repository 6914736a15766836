/-! F: the class: BOOK; walks printed by program (wip/p30/pmgen.py) and filled by hand -/
section ZHW
variable {φ : Option pm_Mem}
variable {D : va_G} {Wm : Nat} {ST : List (String × String × String × Nat)} {b0 : sx_B} {l : Launch} {Sg : Nat → Option Nat} {bud : sx_Bu} {μ : pm_Mem} {B0 : Nat → Prop} {J : (Nat → Option Nat) → Heap → Prop}
set_option maxRecDepth 100000 in
theorem fg_bookc (hK : zKK ST) {i w : Int} (hT : zTJ φ μ) {N B pol : Int → Int} {n m : Int} (hC : fa_C false 3 n m (N, B) pol μ) (hn0 : 0 ≤ n) (hm0 : 0 ≤ m) (hq : n ≤ 12 ∧ m ≤ 18)  (hbd : 1 ≤ bud.1 ∧ 22 ≤ bud.2.1) : zC D Wm ST b0 l Sg zM58 bud [(2, 1), (0, i), (0, w)] μ (fun st' μ' => μ = μ' ∧ st' = [(0, if (0 ≤ i ∧ i < N 3) ∧ 0 ≤ w ∧ w ≤ 4 then B (5 * i + w) else -1)]) := by
  have b2 : μ 2 2 = N 3 := (hC.2 rfl).1
  have f22 := zT_get hT zs2_2 (i := 2) (by omega) (by omega)
  have b16 := (hC.2 rfl).2
  have f1 := zT_get hT zs2_2 (i := 2) (by omega) (by omega)
  refine pm_blk hK zmm58 [] 7 11 [(2, 1), (0, i), (0, w)] [(0, (μ 2 2) - 1), (0, 0), (0, i)] μ [pm_in ((μ 2 2) - 1)] rfl ⟨pm_in_mk (by omega) (by omega), trivial⟩ ?_
  refine pm_call hK zmm58 (94, 1, 16, 3) zM16 (0, 0) [(0, i), (0, 0), (0, (μ 2 2) - 1)] [] rfl rfl rfl rfl ⟨by omega, by rw [zn16]; omega⟩ (zh_within hK ⟨Nat.le_refl _, Nat.le_refl _⟩) (fun st1 μc1 hp1 => ?_)
  obtain ⟨rfl, rfl⟩ := hp1
  refine pm_if hK zmm58 .eq 12 26 rfl rfl (fun h0 => ?_) (fun h0 => ?_)
  · have h0 : (if 0 ≤ i ∧ i ≤ ((μ 2 2) - 1) then 1 else 0 : Int) = (0 : Int) := h0
    have h0 := zif0 h0
    refine pm_blk hK zmm58 [] 1 27 [(2, 1), (0, i), (0, w)] [(0, (-1))] μ [] rfl trivial ?_
    exact pm_iret rfl rfl ⟨rfl, by rw [if_neg (fun q => by omega)]⟩
  · have h0 : (if 0 ≤ i ∧ i ≤ ((μ 2 2) - 1) then 1 else 0 : Int) ≠ (0 : Int) := h0
    have h0 := zif1 h0
    refine pm_blk hK zmm58 [] 3 20 [(2, 1), (0, i), (0, w)] [(0, 4), (0, 0), (0, w)] μ [] rfl trivial ?_
    refine pm_call hK zmm58 (94, 1, 16, 3) zM16 (0, 0) [(0, w), (0, 0), (0, 4)] [] rfl rfl rfl rfl ⟨by omega, by rw [zn16]; omega⟩ (zh_within hK ⟨Nat.le_refl _, Nat.le_refl _⟩) (fun st2 μc2 hp2 => ?_)
    obtain ⟨rfl, rfl⟩ := hp2
    refine pm_if hK zmm58 .ne 5 28 rfl rfl (fun h1 => ?_) (fun h1 => ?_)
    · have h1 : (if 0 ≤ w ∧ w ≤ 4 then 1 else 0 : Int) ≠ (0 : Int) := h1
      have h1 := zif1 h1
      have f2 := zT_get hT zs16_0 (i := (i * 5) + w) (by omega) (by omega)
      refine pm_blk hK zmm58 [] 9 41 [(2, 1), (0, i), (0, w)] [(0, μ 16 ((i * 5) + w))] μ [pm_in (i * 5), pm_in ((i * 5) + w), 0 ≤ (i * 5) + w ∧ (i * 5) + w < 750] rfl ⟨pm_in_mk (by omega) (by omega), pm_in_mk (by omega) (by omega), ⟨by omega, by omega⟩, trivial⟩ ?_
      exact pm_iret rfl rfl ⟨rfl, by rw [if_pos ⟨⟨by omega, by omega⟩, by omega, by omega⟩, b16 _ (by omega) (by omega), Int.mul_comm i 5]⟩
    · have h1 : (if 0 ≤ w ∧ w ≤ 4 then 1 else 0 : Int) = (0 : Int) := h1
      have h1 := zif0 h1
      refine pm_blk hK zmm58 [] 1 27 [(2, 1), (0, i), (0, w)] [(0, (-1))] μ [] rfl trivial ?_
      exact pm_iret rfl rfl ⟨rfl, by rw [if_neg (fun q => by omega)]⟩
end ZHW
