/-! numbers and marks of a text; walks printed by program (wip/p30/pmgen.py) and filled by hand -/
section ZHW
variable {D : va_G} {Wm : Nat} {ST : List (String × String × String × Nat)} {b0 : sx_B} {l : Launch} {Sg : Nat → Option Nat} {bud : sx_Bu} {μ : pm_Mem} {B0 : Nat → Prop} {J : (Nat → Option Nat) → Heap → Prop}
set_option maxRecDepth 100000 in
theorem zh_errs2 (hK : zKK ST) {k : Int} (hT : zTJ μ) (hk : 0 ≤ k ∧ k ≤ 3) (hb205 : sx_bit Wm 205 = true) (hbd : 0 ≤ bud.1 ∧ 0 ≤ bud.2.1) : zC D Wm ST b0 l Sg zM278 bud [(2, 205), (0, k)] μ (fun st' μ' => st' = [(0, -1)] ∧ zTJ μ' ∧ (∀ r, r ≠ 205 → μ' r = μ r)) := by
  refine pm_blk hK zmm278 [] 3 5 [(2, 205), (0, k)] [] (pm_up μ 205 29 k) [sx_bit Wm 205 = true] rfl ⟨hb205, trivial⟩ ?_
  obtain ⟨μ1, eμ1⟩ : ∃ μ', μ' = pm_up μ 205 29 k := ⟨_, rfl⟩
  rw [← eμ1]
  have hTμ1 : zTJ μ1 := by rw [eμ1]; exact zT_up hT zs205_29 rfl (i := 29) (by omega) (by omega) (by omega) (by omega)
  have f13 := zT_get hTμ1 zs205_13 (i := 13) (by omega) (by omega)
  have f1 := zT_get hTμ1 zs205_13 (i := 13) (by omega) (by omega)
  refine pm_blk hK zmm278 [] 4 13 [(2, 205), (0, k)] [] (pm_up μ1 205 30 (μ1 205 13)) [sx_bit Wm 205 = true] rfl ⟨hb205, trivial⟩ ?_
  obtain ⟨μ2, eμ2⟩ : ∃ μ', μ' = pm_up μ1 205 30 (μ1 205 13) := ⟨_, rfl⟩
  rw [← eμ2]
  have hTμ2 : zTJ μ2 := by rw [eμ2]; exact zT_up hTμ1 zs205_30 rfl (i := 30) (by omega) (by omega) (by omega) (by omega)
  refine pm_blk hK zmm278 [] 1 14 [(2, 205), (0, k)] [(0, (-1))] μ2 [] rfl trivial ?_
  exact pm_iret rfl rfl ⟨rfl, hTμ2, fun r hr => by rw [eμ2, pm_up_row hr, eμ1, pm_up_row hr]⟩
set_option maxRecDepth 100000 in
theorem zh_readNumber (hK : zKK ST) {a b : Int} (hT : zTJ μ) (hb205 : sx_bit Wm 205 = true) (hbd : 3 ≤ bud.1 ∧ 65 ≤ bud.2.1) : zC D Wm ST b0 l Sg zM281 bud [(2, 205), (0, a), (0, b)] μ (fun st' μ' => ∃ x, st' = [(0, x)] ∧ -1 ≤ x ∧ x ≤ 99999 ∧ (x = -1 ∨ (a ≤ x ∧ x ≤ b)) ∧ zTJ μ' ∧ (∀ r, r ≠ 205 → μ' r = μ r)) := by
  have f1 := zT_get hT zs205_14 (i := 14) (by omega) (by omega)
  refine pm_blk hK zmm281 [] 3 5 [(2, 205), (0, a), (0, b), (9, 0)] [(0, 3), (0, μ 205 14)] μ [] rfl trivial ?_
  refine pm_icmp hK zmm281 .eq 9 14 rfl rfl (fun h0 => ?_) (fun h0 => ?_)
  · have h0 : μ 205 14 = (3 : Int) := h0
    have f2 := zT_get hT zs205_15 (i := 15) (by omega) (by omega)
    refine pm_blk hK zmm281 [] 5 21 [(2, 205), (0, a), (0, b), (9, 0)] [(0, b), (0, a), (0, μ 205 15), (2, 205)] μ [] rfl trivial ?_
    refine pm_call hK zmm281 (158, 0, 129, 3) zM129 (0, 0) [(2, 205), (0, μ 205 15), (0, a), (0, b)] [] rfl rfl rfl rfl ⟨by omega, by rw [zn129]; omega⟩ (zh_isIn hK ⟨by omega, by omega⟩) (fun st1 μc1 hp1 => ?_)
    obtain ⟨rfl, rfl⟩ := hp1
    refine pm_if hK zmm281 .ne 9 33 rfl rfl (fun h1 => ?_) (fun h1 => ?_)
    · have h1 : (if a ≤ (μ 205 15) ∧ (μ 205 15) ≤ b then 1 else 0 : Int) ≠ (0 : Int) := h1
      have h1 := zif1 h1
      have q9 : a ≤ μ 205 15 ∧ μ 205 15 ≤ b := h1
      have f15 := zT_get hT zs205_15 (i := 15) (by omega) (by omega)
      refine pm_blk hK zmm281 [] 4 39 [(2, 205), (0, a), (0, b), (0, μ 205 15)] [(2, 205)] μ [] rfl trivial ?_
      refine pm_call hK zmm281 (223, 0, 139, 0) zM139 (2, 44) [(2, 205)] [] rfl rfl rfl rfl ⟨by omega, by rw [zn139]; omega⟩ (zh_reads hK hT hb205 ⟨Nat.le_refl _, Nat.le_refl _⟩) (fun st2 μc2 hp2 => ?_)
      obtain ⟨rfl, hTc2, hF2, hS2, hR2⟩ := hp2
      have hF := hF2
      have hS := hS2
      have hR := hR2
      refine pm_blk hK zmm281 [] 1 43 [(2, 205), (0, a), (0, b), (0, μ 205 15)] [(0, μ 205 15)] μc2 [] rfl trivial ?_
      exact pm_iret rfl rfl ⟨_, rfl, by omega, by omega, Or.inr q9, hTc2, fun r hr => hF.1 r hr⟩
    · have h1 : (if a ≤ (μ 205 15) ∧ (μ 205 15) ≤ b then 1 else 0 : Int) = (0 : Int) := h1
      have h1 := zif0 h1
      refine pm_blk hK zmm281 [] 2 29 [(2, 205), (0, a), (0, b), (9, 0)] [(0, 2), (2, 205)] μ [] rfl trivial ?_
      refine pm_call hK zmm281 (216, 0, 278, 1) zM278 (0, 0) [(2, 205), (0, 2)] [] rfl rfl rfl rfl ⟨by omega, by rw [zn278]; omega⟩ (zh_errs2 hK (k := 2) hT ⟨by omega, by omega⟩ hb205 ⟨Nat.le_refl _, Nat.le_refl _⟩) (fun st3 μc3 hp3 => ?_)
      obtain ⟨rfl, hTc3, hFE3⟩ := hp3
      have hFE := hFE3
      exact pm_iret rfl rfl ⟨_, rfl, by omega, by omega, Or.inl rfl, hTc3, hFE⟩
  · have h0 : μ 205 14 ≠ (3 : Int) := h0
    refine pm_blk hK zmm281 [] 2 10 [(2, 205), (0, a), (0, b), (9, 0)] [(0, 1), (2, 205)] μ [] rfl trivial ?_
    refine pm_call hK zmm281 (216, 0, 278, 1) zM278 (0, 0) [(2, 205), (0, 1)] [] rfl rfl rfl rfl ⟨by omega, by rw [zn278]; omega⟩ (zh_errs2 hK (k := 1) hT ⟨by omega, by omega⟩ hb205 ⟨Nat.le_refl _, Nat.le_refl _⟩) (fun st4 μc4 hp4 => ?_)
    obtain ⟨rfl, hTc4, hFE4⟩ := hp4
    have hFE := hFE4
    exact pm_iret rfl rfl ⟨_, rfl, by omega, by omega, Or.inl rfl, hTc4, hFE⟩
set_option maxRecDepth 100000 in
theorem zh_kindOfDeed (hK : zKK ST) (hbd : 1 ≤ bud.1 ∧ 21 ≤ bud.2.1) : zC D Wm ST b0 l Sg zM285 bud [(2, 205)] μ (fun st' μ' => μ = μ' ∧ ∃ x, st' = [(0, x)] ∧ -1 ≤ x ∧ x ≤ 3) := by
  refine pm_blk hK zmm285 [] 2 3 [(2, 205)] [(0, 23), (2, 205)] μ [] rfl trivial ?_
  refine pm_call hK zmm285 (245, 0, 142, 1) zM142 (0, 0) [(2, 205), (0, 23)] [] rfl rfl rfl rfl ⟨by omega, by rw [zn142]; omega⟩ (zh_isWord hK (c := 23) ⟨Nat.le_refl _, Nat.le_refl _⟩) (fun st1 μc1 hp1 => ?_)
  obtain ⟨rfl, x1, rfl, hx1a, hx1b, hx1c⟩ := hp1
  refine pm_if hK zmm285 .eq 5 11 rfl rfl (fun h0 => ?_) (fun h0 => ?_)
  · have h0 : x1 = (0 : Int) := h0
    refine pm_blk hK zmm285 [] 2 14 [(2, 205)] [(0, 10), (2, 205)] μ [] rfl trivial ?_
    refine pm_call hK zmm285 (245, 0, 142, 1) zM142 (0, 0) [(2, 205), (0, 10)] [] rfl rfl rfl rfl ⟨by omega, by rw [zn142]; omega⟩ (zh_isWord hK (c := 10) ⟨Nat.le_refl _, Nat.le_refl _⟩) (fun st2 μc2 hp2 => ?_)
    obtain ⟨rfl, x2, rfl, hx2a, hx2b, hx2c⟩ := hp2
    refine pm_if hK zmm285 .eq 5 22 rfl rfl (fun h1 => ?_) (fun h1 => ?_)
    · have h1 : x2 = (0 : Int) := h1
      refine pm_blk hK zmm285 [] 2 25 [(2, 205)] [(0, 24), (2, 205)] μ [] rfl trivial ?_
      refine pm_call hK zmm285 (245, 0, 142, 1) zM142 (0, 0) [(2, 205), (0, 24)] [] rfl rfl rfl rfl ⟨by omega, by rw [zn142]; omega⟩ (zh_isWord hK (c := 24) ⟨Nat.le_refl _, Nat.le_refl _⟩) (fun st3 μc3 hp3 => ?_)
      obtain ⟨rfl, x3, rfl, hx3a, hx3b, hx3c⟩ := hp3
      refine pm_if hK zmm285 .eq 7 35 rfl rfl (fun h2 => ?_) (fun h2 => ?_)
      · have h2 : x3 = (0 : Int) := h2
        refine pm_blk hK zmm285 [] 2 38 [(2, 205)] [(0, 25), (2, 205)] μ [] rfl trivial ?_
        refine pm_call hK zmm285 (245, 0, 142, 1) zM142 (0, 0) [(2, 205), (0, 25)] [] rfl rfl rfl rfl ⟨by omega, by rw [zn142]; omega⟩ (zh_isWord hK (c := 25) ⟨Nat.le_refl _, Nat.le_refl _⟩) (fun st4 μc4 hp4 => ?_)
        obtain ⟨rfl, x4, rfl, hx4a, hx4b, hx4c⟩ := hp4
        refine pm_if hK zmm285 .eq 7 48 rfl rfl (fun h3 => ?_) (fun h3 => ?_)
        · have h3 : x4 = (0 : Int) := h3
          refine pm_blk hK zmm285 [] 1 49 [(2, 205)] [(0, (-1))] μ [] rfl trivial ?_
          exact pm_iret rfl rfl ⟨rfl, _, rfl, by omega, by omega⟩
        · have h3 : x4 ≠ (0 : Int) := h3
          refine pm_blk hK zmm285 [] 2 49 [(2, 205)] [(0, 3)] μ [] rfl trivial ?_
          exact pm_iret rfl rfl ⟨rfl, _, rfl, by omega, by omega⟩
      · have h2 : x3 ≠ (0 : Int) := h2
        refine pm_blk hK zmm285 [] 2 49 [(2, 205)] [(0, 2)] μ [] rfl trivial ?_
        exact pm_iret rfl rfl ⟨rfl, _, rfl, by omega, by omega⟩
    · have h1 : x2 ≠ (0 : Int) := h1
      refine pm_blk hK zmm285 [] 1 21 [(2, 205)] [(0, 1)] μ [] rfl trivial ?_
      exact pm_iret rfl rfl ⟨rfl, _, rfl, by omega, by omega⟩
  · have h0 : x1 ≠ (0 : Int) := h0
    refine pm_blk hK zmm285 [] 1 10 [(2, 205)] [(0, 0)] μ [] rfl trivial ?_
    exact pm_iret rfl rfl ⟨rfl, _, rfl, by omega, by omega⟩
set_option maxRecDepth 100000 in
theorem zh_readMark (hK : zKK ST) {c : Int} (hT : zTJ μ) (hb205 : sx_bit Wm 205 = true) (hbd : 3 ≤ bud.1 ∧ 65 ≤ bud.2.1) : zC D Wm ST b0 l Sg zM282 bud [(2, 205), (0, c)] μ (fun st' μ' => ∃ x, st' = [(0, x)] ∧ -1 ≤ x ∧ x ≤ 0 ∧ zTJ μ' ∧ (∀ r, r ≠ 205 → μ' r = μ r)) := by
  refine pm_blk hK zmm282 [] 2 2 [(2, 205), (0, c)] [(0, c), (2, 205)] μ [] rfl trivial ?_
  refine pm_call hK zmm282 (230, 0, 283, 1) zM283 (0, 0) [(2, 205), (0, c)] [] rfl rfl rfl rfl ⟨by omega, by rw [zn283]; omega⟩ (zh_isSign hK (c := c) ⟨Nat.le_refl _, Nat.le_refl _⟩) (fun st1 μc1 hp1 => ?_)
  obtain ⟨rfl, x1, rfl, hx1a, hx1b, hx1c⟩ := hp1
  refine pm_if hK zmm282 .ne 9 14 rfl rfl (fun h0 => ?_) (fun h0 => ?_)
  · have h0 : x1 ≠ (0 : Int) := h0
    refine pm_blk hK zmm282 [] 1 15 [(2, 205), (0, c)] [(2, 205)] μ [] rfl trivial ?_
    refine pm_call hK zmm282 (223, 0, 139, 0) zM139 (2, 44) [(2, 205)] [] rfl rfl rfl rfl ⟨by omega, by rw [zn139]; omega⟩ (zh_reads hK hT hb205 ⟨Nat.le_refl _, Nat.le_refl _⟩) (fun st2 μc2 hp2 => ?_)
    obtain ⟨rfl, hTc2, hF2, hS2, hR2⟩ := hp2
    have hF := hF2
    have hS := hS2
    have hR := hR2
    refine pm_blk hK zmm282 [] 1 19 [(2, 205), (0, c)] [(0, 0)] μc2 [] rfl trivial ?_
    exact pm_iret rfl rfl ⟨_, rfl, by omega, by omega, hTc2, fun r hr => hF.1 r hr⟩
  · have h0 : x1 = (0 : Int) := h0
    refine pm_blk hK zmm282 [] 2 10 [(2, 205), (0, c)] [(0, 1), (2, 205)] μ [] rfl trivial ?_
    refine pm_call hK zmm282 (216, 0, 278, 1) zM278 (0, 0) [(2, 205), (0, 1)] [] rfl rfl rfl rfl ⟨by omega, by rw [zn278]; omega⟩ (zh_errs2 hK (k := 1) hT ⟨by omega, by omega⟩ hb205 ⟨Nat.le_refl _, Nat.le_refl _⟩) (fun st3 μc3 hp3 => ?_)
    obtain ⟨rfl, hTc3, hFE3⟩ := hp3
    have hFE := hFE3
    exact pm_iret rfl rfl ⟨_, rfl, by omega, by omega, hTc3, hFE⟩
end ZHW
