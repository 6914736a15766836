/-! F: the reference: BOOK; walks printed by program (wip/p30/pmgen.py) and filled by hand -/
section ZHW
variable {φ : Option pm_Mem}
variable {D : va_G} {Wm : Nat} {ST : List (String × String × String × Nat)} {b0 : sx_B} {l : Launch} {Sg : Nat → Option Nat} {bud : sx_Bu} {μ : pm_Mem} {B0 : Nat → Prop} {J : (Nat → Option Nat) → Heap → Prop}
set_option maxRecDepth 100000 in
theorem fs_book (hK : zKK ST) {i w : Int} (hT : zTJ φ μ) (hb205 : sx_bit Wm 205 = true) (hbd : 1 ≤ bud.1 ∧ 23 ≤ bud.2.1) : zC D Wm ST b0 l Sg zM161 bud [(2, 205), (0, i), (0, w)] μ (fun st' μ' => zTJ φ μ' ∧ st' = [(0, if (0 ≤ i ∧ i < μ 206 3) ∧ 0 ≤ w ∧ w ≤ 4 then μ 210 (5 * i + w) else -1)] ∧ (∀ k : Int, k ≠ 0 → μ' 205 k = μ 205 k) ∧ ∀ r, r ≠ 205 → μ' r = μ r) := by
  have f63 := zT_get hT zs206_3 (i := 3) (by omega) (by omega)
  refine pm_blk hK zmm161 [] 3 5 [(2, 205), (0, i), (0, w)] [] (pm_up μ 205 0 0) [sx_bit Wm 205 = true] rfl ⟨hb205, trivial⟩ ?_
  obtain ⟨μ1, eμ1⟩ : ∃ μ', μ' = pm_up μ 205 0 0 := ⟨_, rfl⟩
  rw [← eμ1]
  have hTμ1 : zTJ φ μ1 := by rw [eμ1]; exact zT_up hT zs205_0 rfl (i := 0) (by omega) (by omega) (by omega) (by omega)
  have b1 : ∀ k : Int, k ≠ 0 → μ1 205 k = μ 205 k := fun k hk => by rw [eμ1, pm_up_ne hk]
  have b2 : ∀ r, r ≠ 205 → μ1 r = μ r := fun r hr => by rw [eμ1, pm_up_row hr]
  have bn := b2 206 (by decide)
  have b10 := b2 210 (by decide)
  have c63 : μ1 206 3 = μ 206 3 := by rw [bn]
  have g1 : μ1 206 3 = μ 206 3 := by rw [eμ1, pm_up_off (by decide)]
  have f2 := zT_get hTμ1 zs206_3 (i := 3) (by omega) (by omega)
  refine pm_blk hK zmm161 [] 9 16 [(2, 205), (0, i), (0, w)] [(0, (μ1 206 3) - 1), (0, 0), (0, i), (2, 205)] μ1 [0 ≤ 3 ∧ 3 < 160, pm_in ((μ1 206 3) - 1)] rfl ⟨⟨by omega, by omega⟩, pm_in_mk (by omega) (by omega), trivial⟩ ?_
  refine pm_call hK zmm161 (158, 0, 129, 3) zM129 (0, 0) [(2, 205), (0, i), (0, 0), (0, (μ1 206 3) - 1)] [] rfl rfl rfl rfl ⟨by omega, by rw [zn129]; omega⟩ (zh_isIn hK ⟨by omega, by omega⟩) (fun st1 μc1 hp1 => ?_)
  obtain ⟨rfl, rfl⟩ := hp1
  refine pm_if hK zmm161 .eq 26 45 rfl rfl (fun h0 => ?_) (fun h0 => ?_)
  · have h0 : (if 0 ≤ i ∧ i ≤ ((μ1 206 3) - 1) then 1 else 0 : Int) = (0 : Int) := h0
    have h0 := zif0 h0
    refine pm_blk hK zmm161 [] 1 46 [(2, 205), (0, i), (0, w)] [(0, (-1))] μ1 [] rfl trivial ?_
    first
    | exact pm_iret rfl rfl ⟨hTμ1, by rw [if_neg (fun q => by omega)], b1, b2⟩
    | exact pm_iret rfl rfl ⟨hTμ1, by rw [if_pos ⟨⟨by omega, by omega⟩, by omega, by omega⟩, b10], b1, b2⟩
    | (exfalso; omega)
  · have h0 : (if 0 ≤ i ∧ i ≤ ((μ1 206 3) - 1) then 1 else 0 : Int) ≠ (0 : Int) := h0
    have h0 := zif1 h0
    refine pm_blk hK zmm161 [] 4 26 [(2, 205), (0, i), (0, w)] [(0, 4), (0, 0), (0, w), (2, 205)] μ1 [] rfl trivial ?_
    refine pm_call hK zmm161 (158, 0, 129, 3) zM129 (0, 0) [(2, 205), (0, w), (0, 0), (0, 4)] [] rfl rfl rfl rfl ⟨by omega, by rw [zn129]; omega⟩ (zh_isIn hK ⟨by omega, by omega⟩) (fun st2 μc2 hp2 => ?_)
    obtain ⟨rfl, rfl⟩ := hp2
    refine pm_if hK zmm161 .eq 16 45 rfl rfl (fun h1 => ?_) (fun h1 => ?_)
    · have h1 : (if 0 ≤ w ∧ w ≤ 4 then 1 else 0 : Int) = (0 : Int) := h1
      have h1 := zif0 h1
      refine pm_blk hK zmm161 [] 1 46 [(2, 205), (0, i), (0, w)] [(0, (-1))] μ1 [] rfl trivial ?_
      first
      | exact pm_iret rfl rfl ⟨hTμ1, by rw [if_neg (fun q => by omega)], b1, b2⟩
      | exact pm_iret rfl rfl ⟨hTμ1, by rw [if_pos ⟨⟨by omega, by omega⟩, by omega, by omega⟩, b10], b1, b2⟩
      | (exfalso; omega)
    · have h1 : (if 0 ≤ w ∧ w ≤ 4 then 1 else 0 : Int) ≠ (0 : Int) := h1
      have h1 := zif1 h1
      have g3 : μ1 210 ((5 * i) + w) = μ 210 ((5 * i) + w) := by rw [eμ1, pm_up_off (by decide)]
      refine pm_blk hK zmm161 [] 9 46 [(2, 205), (0, i), (0, w)] [(0, μ1 210 ((5 * i) + w))] μ1 [pm_in (5 * i), pm_in ((5 * i) + w), 0 ≤ (5 * i) + w ∧ (5 * i) + w < 750] rfl ⟨pm_in_mk (by omega) (by omega), pm_in_mk (by omega) (by omega), ⟨by omega, by omega⟩, trivial⟩ ?_
      first
      | exact pm_iret rfl rfl ⟨hTμ1, by rw [if_neg (fun q => by omega)], b1, b2⟩
      | exact pm_iret rfl rfl ⟨hTμ1, by rw [if_pos ⟨⟨by omega, by omega⟩, by omega, by omega⟩, b10], b1, b2⟩
      | (exfalso; omega)
end ZHW
