/-! the calendar is read; walks printed by program (wip/p30/pmgen.py) and filled by hand -/
section ZHW
variable {D : va_G} {Wm : Nat} {ST : List (String × String × String × Nat)} {b0 : sx_B} {l : Launch} {Sg : Nat → Option Nat} {bud : sx_Bu} {μ : pm_Mem} {B0 : Nat → Prop} {J : (Nat → Option Nat) → Heap → Prop}
set_option maxRecDepth 100000 in
theorem zl_rc (hK : zKK ST)  (hb205 : sx_bit Wm 205 = true) (hb222 : sx_bit Wm 222 = true) (hbd : 6 ≤ bud.1 ∧ 133 ≤ bud.2.1) : ∀ (n : Nat) {u : Int} {μ : pm_Mem}, (16 - u).toNat = n → ∀ (hu : 0 ≤ u ∧ u ≤ 16) (hT : zTJ μ) (hD : zDr μ u), zW D Wm ST b0 l Sg zM143 bud (pm_X zM143 (fun st' μ' => ∃ x, st' = [(0, x)] ∧ -1 ≤ x ∧ x ≤ 16 ∧ zTJ μ' ∧ (x ≠ -1 → zDr μ' x))) 2 [(2, 205), (0, u)] [] μ := by
  intro n
  induction n using Nat.strongRecOn with
  | ind n ih =>
    intro u μ hn hu hT hD
    refine pm_blk hK zmm143 [] 2 5 [(2, 205), (0, u)] [(0, 22), (2, 205)] μ [] rfl trivial ?_
    refine pm_call hK zmm143 (245, 0, 142, 1) zM142 (0, 0) [(2, 205), (0, 22)] [] rfl rfl rfl rfl ⟨by omega, by rw [zn142]; omega⟩ (zh_isWord hK (c := 22) ⟨Nat.le_refl _, Nat.le_refl _⟩) (fun st1 μc1 hp1 => ?_)
    obtain ⟨rfl, x1, rfl, hx1a, hx1b, hx1c⟩ := hp1
    refine pm_if hK zmm143 .eq 38 46 rfl rfl (fun h0 => ?_) (fun h0 => ?_)
    · have h0 : x1 = (0 : Int) := h0
      have f1 := zT_get hT zs205_14 (i := 14) (by omega) (by omega)
      refine pm_blk hK zmm143 [] 2 50 [(2, 205), (0, u)] [(0, μ 205 14)] μ [] rfl trivial ?_
      refine pm_if hK zmm143 .ne 7 57 rfl rfl (fun h1 => ?_) (fun h1 => ?_)
      · have h1 : μ 205 14 ≠ (0 : Int) := h1
        refine pm_blk hK zmm143 [] 2 59 [(2, 205), (0, u)] [(0, 1), (2, 205)] μ [] rfl trivial ?_
        refine pm_call hK zmm143 (216, 0, 278, 1) zM278 (0, 0) [(2, 205), (0, 1)] [] rfl rfl rfl rfl ⟨by omega, by rw [zn278]; omega⟩ (zh_errs2 hK (k := 1) hT ⟨by omega, by omega⟩ hb205 ⟨Nat.le_refl _, Nat.le_refl _⟩) (fun st2 μc2 hp2 => ?_)
        obtain ⟨rfl, hTc2, hFE2⟩ := hp2
        have hFE := hFE2
        first
        | exact pm_iret rfl rfl ⟨_, rfl, by omega, by omega, hTc2, fun h => absurd rfl h⟩
        | exact pm_iret rfl rfl ⟨_, rfl, by omega, by omega, hTc2, fun _ => hD⟩
      · have h1 : μ 205 14 = (0 : Int) := h1
        refine pm_blk hK zmm143 [] 2 62 [(2, 205), (0, u)] [(0, u)] μ [] rfl trivial ?_
        first
        | exact pm_iret rfl rfl ⟨_, rfl, by omega, by omega, hT, fun h => absurd rfl h⟩
        | exact pm_iret rfl rfl ⟨_, rfl, by omega, by omega, hT, fun _ => hD⟩
    · have h0 : x1 ≠ (0 : Int) := h0
      refine pm_blk hK zmm143 [] 2 14 [(2, 205), (0, u)] [(0, 16), (0, u)] μ [] rfl trivial ?_
      refine pm_icmp hK zmm143 .ne 9 23 rfl rfl (fun h2 => ?_) (fun h2 => ?_)
      · have h2 : u ≠ (16 : Int) := h2
        refine pm_blk hK zmm143 [] 6 30 [(2, 205), (0, u)] [(0, 64 + (4 * u)), (2, 205)] μ [pm_in (4 * u), pm_in (64 + (4 * u))] rfl ⟨pm_in_mk (by omega) (by omega), pm_in_mk (by omega) (by omega), trivial⟩ ?_
        refine pm_call hK zmm143 (283, 0, 284, 1) zM284 (5, 111) [(2, 205), (0, 64 + (4 * u))] [] rfl rfl rfl rfl ⟨by omega, by rw [zn284]; omega⟩ (zh_readDeed hK (p := (64 + (4 * u))) (z := 16 + u) hT (by omega) ⟨by omega, by omega⟩ hb205 hb222 ⟨Nat.le_refl _, Nat.le_refl _⟩) (fun st3 μc3 hp3 => ?_)
        obtain ⟨x3, rfl, hx3, hy3, hTc3, hA3, hW3⟩ := hp3
        have hA := hA3
        have hW := hW3
        refine pm_blk hK zmm143 [] 1 34 [(2, 205), (0, u)] [(0, (-1)), (0, x3)] μc3 [] rfl trivial ?_
        refine pm_icmp hK zmm143 .ne 5 39 rfl rfl (fun h3 => ?_) (fun h3 => ?_)
        · have h3 : x3 ≠ ((-1) : Int) := h3
          refine pm_blk hK zmm143 [] 5 2 [(2, 205), (0, u + 1)] [] μc3 [pm_in (u + 1)] rfl ⟨pm_in_mk (by omega) (by omega), trivial⟩ ?_
          exact ih _ (by omega) rfl ⟨by omega, by omega⟩ hTc3 (zDr_step hD hA (hW (by omega)))
        · have h3 : x3 = ((-1) : Int) := h3
          refine pm_blk hK zmm143 [] 1 38 [(2, 205), (0, u)] [(0, (-1))] μc3 [] rfl trivial ?_
          first
          | exact pm_iret rfl rfl ⟨_, rfl, by omega, by omega, hTc3, fun h => absurd rfl h⟩
          | exact pm_iret rfl rfl ⟨_, rfl, by omega, by omega, hTc3, fun _ => hD⟩
      · have h2 : u = (16 : Int) := h2
        refine pm_blk hK zmm143 [] 2 19 [(2, 205), (0, u)] [(0, 3), (2, 205)] μ [] rfl trivial ?_
        refine pm_call hK zmm143 (216, 0, 278, 1) zM278 (0, 0) [(2, 205), (0, 3)] [] rfl rfl rfl rfl ⟨by omega, by rw [zn278]; omega⟩ (zh_errs2 hK (k := 3) hT ⟨by omega, by omega⟩ hb205 ⟨Nat.le_refl _, Nat.le_refl _⟩) (fun st4 μc4 hp4 => ?_)
        obtain ⟨rfl, hTc4, hFE4⟩ := hp4
        have hFE := hFE4
        first
        | exact pm_iret rfl rfl ⟨_, rfl, by omega, by omega, hTc4, fun h => absurd rfl h⟩
        | exact pm_iret rfl rfl ⟨_, rfl, by omega, by omega, hTc4, fun _ => hD⟩
set_option maxRecDepth 100000 in
theorem zh_readCalendar (hK : zKK ST) (hT : zTJ μ) (hb205 : sx_bit Wm 205 = true) (hb222 : sx_bit Wm 222 = true) (hbd : 6 ≤ bud.1 ∧ 133 ≤ bud.2.1) : zC D Wm ST b0 l Sg zM143 bud [(2, 205)] μ (fun st' μ' => ∃ x, st' = [(0, x)] ∧ -1 ≤ x ∧ x ≤ 16 ∧ zTJ μ' ∧ (x ≠ -1 → zDr μ' x)) := by
  refine pm_blk hK zmm143 [] 2 2 [(2, 205), (0, 0)] [] μ [] rfl trivial ?_
  exact zl_rc hK hb205 hb222 hbd _ (u := 0) rfl ⟨by omega, by omega⟩ hT (fun j j0 j1 => absurd j1 (by omega))
end ZHW
