/-! what waits is settled; walks printed by program (wip/p30/pmgen.py) and filled by hand -/
section ZHW
variable {D : va_G} {Wm : Nat} {ST : List (String × String × String × Nat)} {b0 : sx_B} {l : Launch} {Sg : Nat → Option Nat} {bud : sx_Bu} {μ : pm_Mem} {B0 : Nat → Prop} {J : (Nat → Option Nat) → Heap → Prop}
set_option maxRecDepth 100000 in
theorem zh_waits (hK : zKK ST) {v : Int} (hT : zTJ μ) (h28 : 0 ≤ μ 205 28 ∧ μ 205 28 < 40) (hv : 0 ≤ v ∧ v ≤ 12) (hb205 : sx_bit Wm 205 = true) (hb220 : sx_bit Wm 220 = true) (hbd : 0 ≤ bud.1 ∧ 0 ≤ bud.2.1) : zC D Wm ST b0 l Sg zM294 bud [(2, 205), (0, v)] μ (fun st' μ' => st' = [] ∧ zTJ μ' ∧ ∃ μ1, μ1 = pm_up μ 220 (μ 205 28) v ∧ μ' = pm_up μ1 205 28 (μ 205 28 + 1)) := by
  have f1 := zT_get hT zs205_28 (i := 28) (by omega) (by omega)
  refine pm_blk hK zmm294 [] 6 10 [(2, 205), (0, v)] [] (pm_up μ 220 (μ 205 28) v) [sx_bit Wm 220 = true, 0 ≤ μ 205 28 ∧ μ 205 28 < 40] rfl ⟨hb220, ⟨by omega, by omega⟩, trivial⟩ ?_
  obtain ⟨μ1, eμ1⟩ : ∃ μ', μ' = pm_up μ 220 (μ 205 28) v := ⟨_, rfl⟩
  rw [← eμ1]
  have hTμ1 : zTJ μ1 := by rw [eμ1]; exact zT_up hT zs220_0 rfl (i := μ 205 28) (by omega) (by omega) (by omega) (by omega)
  have a28 : μ1 205 28 = μ 205 28 := by rw [eμ1, pm_up_off (by decide)]
  have g2 : μ1 205 28 = μ 205 28 := by rw [eμ1, pm_up_off (by decide)]
  have f3 := zT_get hTμ1 zs205_28 (i := 28) (by omega) (by omega)
  refine pm_blk hK zmm294 [] 6 20 [(2, 205), (0, v)] [] (pm_up μ1 205 28 ((μ1 205 28) + 1)) [pm_in ((μ1 205 28) + 1), sx_bit Wm 205 = true] rfl ⟨pm_in_mk (by omega) (by omega), hb205, trivial⟩ ?_
  obtain ⟨μ2, eμ2⟩ : ∃ μ', μ' = pm_up μ1 205 28 ((μ1 205 28) + 1) := ⟨_, rfl⟩
  rw [← eμ2]
  have hTμ2 : zTJ μ2 := by rw [eμ2]; exact zT_up hTμ1 zs205_28 rfl (i := 28) (by omega) (by omega) (by omega) (by omega)
  exact pm_vret rfl rfl ⟨rfl, hTμ2, _, rfl, by rw [eμ2, a28]⟩
set_option maxRecDepth 100000 in
theorem zl_st (hK : zKK ST)  {μ0 : pm_Mem} {o : Int} {n0 : Nat} (ho : o = 9 ∨ o = 10 ∨ o = 11) (hn0 : 0 ≤ μ0 205 25 ∧ μ0 205 25 + n0 ≤ 400) (hb205 : sx_bit Wm 205 = true) (hb218 : sx_bit Wm 218 = true) (hb219 : sx_bit Wm 219 = true) (hbd : 1 ≤ bud.1 ∧ 22 ≤ bud.2.1) : ∀ (n : Nat) {μ : pm_Mem}, (μ 205 28).toNat = n → ∀ (m : Nat) (hT : zTJ μ) (hs : zSt μ0 μ o n0 m), zW D Wm ST b0 l Sg zM296 bud (pm_X zM296 (fun st' μ' => st' = [] ∧ zTJ μ' ∧ ∃ k : Nat, zSt μ0 μ' o n0 k ∧ (k = 0 ∨ μ0 220 ((k : Int) - 1) ≠ o))) 0 [(2, 205), (0, o)] [] μ := by
  intro n
  induction n using Nat.strongRecOn with
  | ind n ih =>
    intro  μ hn m hT hs
    have hs2 := hs
    obtain ⟨s1, s2, s3, s4, s5, s6, s7, s8, s9⟩ := hs2
    have e220 : μ 220 = μ0 220 := s6.1 220 (by decide) (by decide) (by decide)
    have f1 := zT_get hT zs205_28 (i := 28) (by omega) (by omega)
    refine pm_blk hK zmm296 [] 2 4 [(2, 205), (0, o)] [(0, μ 205 28)] μ [] rfl trivial ?_
    refine pm_if hK zmm296 .le 53 57 rfl rfl (fun h0 => ?_) (fun h0 => ?_)
    · have h0 : μ 205 28 ≤ (0 : Int) := h0
      refine pm_vret rfl rfl ⟨rfl, hT, m, hs, ?_⟩
      first
      | (left; omega)
      | (right; rw [← e220, show (m : Int) - 1 = μ 205 28 - 1 by omega]; assumption)
    · have h0 : (0 : Int) < μ 205 28 := h0
      have f2 := zT_get hT zs220_0 (i := (μ 205 28) - 1) (by omega) (by omega)
      refine pm_blk hK zmm296 [] 8 19 [(2, 205), (0, o)] [(0, o), (0, μ 220 ((μ 205 28) - 1))] μ [pm_in ((μ 205 28) - 1), 0 ≤ (μ 205 28) - 1 ∧ (μ 205 28) - 1 < 40] rfl ⟨pm_in_mk (by omega) (by omega), ⟨by omega, by omega⟩, trivial⟩ ?_
      refine pm_icmp hK zmm296 .ne 38 57 rfl rfl (fun h1 => ?_) (fun h1 => ?_)
      · have h1 : μ 220 ((μ 205 28) - 1) ≠ o := h1
        refine pm_vret rfl rfl ⟨rfl, hT, m, hs, ?_⟩
        first
        | (left; omega)
        | (right; rw [← e220, show (m : Int) - 1 = μ 205 28 - 1 by omega]; assumption)
      · have h1 : μ 220 ((μ 205 28) - 1) = o := h1
        obtain ⟨k, rfl⟩ : ∃ k, m = k + 1 := ⟨m - 1, by omega⟩
        have hpk : μ0 220 (k : Int) = o := by rw [← e220, show (k : Int) = μ 205 28 - 1 by omega]; exact h1
        have b0 := zP_bd s7.1
        refine pm_blk hK zmm296 [] 6 32 [(2, 205), (0, o)] [] (pm_up μ 205 28 ((μ 205 28) - 1)) [pm_in ((μ 205 28) - 1), sx_bit Wm 205 = true] rfl ⟨pm_in_mk (by omega) (by omega), hb205, trivial⟩ ?_
        obtain ⟨μ1, eμ1⟩ : ∃ μ', μ' = pm_up μ 205 28 ((μ 205 28) - 1) := ⟨_, rfl⟩
        rw [← eμ1]
        have hTμ1 : zTJ μ1 := by rw [eμ1]; exact zT_up hT zs205_28 rfl (i := 28) (by omega) (by omega) (by omega) (by omega)
        have a25 : μ1 205 25 = μ 205 25 := by rw [eμ1, pm_up_ne (by decide)]
        have a28 : μ1 205 28 = μ 205 28 - 1 := by rw [eμ1, pm_up_eq]
        have a26 : μ1 205 26 = μ 205 26 := by rw [eμ1, pm_up_ne (by decide)]
        refine pm_blk hK zmm296 [] 3 35 [(2, 205), (0, o)] [(0, 0), (0, o), (2, 205)] μ1 [] rfl trivial ?_
        refine pm_call hK zmm296 (219, 0, 292, 2) zM292 (0, 0) [(2, 205), (0, o), (0, 0)] [] rfl rfl rfl rfl ⟨by omega, by rw [zn292]; omega⟩ (zh_emits hK (o := o) (v := 0) hTμ1 ⟨by omega, by omega⟩ ⟨by omega, by omega⟩ ⟨by omega, by omega⟩ hb205 hb218 hb219 ⟨Nat.le_refl _, Nat.le_refl _⟩) (fun st1 μc1 hp1 => ?_)
        obtain ⟨rfl, hTc1, hE1⟩ := hp1
        have hE := hE1
        have d26 := hE.2.2.2.2.2.2 26 (by decide)
        have d28 := hE.2.2.2.2.2.2 28 (by decide)
        refine pm_blk hK zmm296 [] 2 41 [(2, 205), (0, o)] [(0, 9), (0, o)] μc1 [] rfl trivial ?_
        refine pm_icmp hK zmm296 .ne (-41) 0 rfl rfl (fun h2 => ?_) (fun h2 => ?_)
        · have h2 : o ≠ (9 : Int) := h2
          first
          | exact ih _ (by omega) rfl k hTc1 (zSt_step hs ho hpk eμ1 (by omega) hE (Or.inl ⟨h2, rfl⟩))
          | (have f28 : μc1 205 28 = μc1 205 28 := by rw [eμc1, pm_up_ne (by decide)]
             refine ih _ (by omega) rfl k hTc1 (zSt_step hs ho hpk eμ1 (by omega) hE (Or.inr ⟨o9, ?_⟩))
             rw [eμc1, show μc1 205 26 - 1 = zPo (μ0 220) k by omega])
        · have h2 : o = (9 : Int) := h2
          have o9 : o = 9 := h2
          have hoo := zPo_s (μ0 220) k
          rw [hpk, if_pos (by omega)] at hoo
          have f3 := zT_get hTc1 zs205_26 (i := 26) (by omega) (by omega)
          refine pm_blk hK zmm296 [] 6 54 [(2, 205), (0, o)] [] (pm_up μc1 205 26 ((μc1 205 26) - 1)) [pm_in ((μc1 205 26) - 1), sx_bit Wm 205 = true] rfl ⟨pm_in_mk (by omega) (by omega), hb205, trivial⟩ ?_
          obtain ⟨μ2, eμ2⟩ : ∃ μ', μ' = pm_up μc1 205 26 ((μc1 205 26) - 1) := ⟨_, rfl⟩
          rw [← eμ2]
          have hTμ2 : zTJ μ2 := by rw [eμ2]; exact zT_up hTc1 zs205_26 rfl (i := 26) (by omega) (by omega) (by omega) (by omega)
          refine pm_blk hK zmm296 [] 1 0 [(2, 205), (0, o)] [] μ2 [] rfl trivial ?_
          first
          | exact ih _ (by omega) rfl k hTμ2 (zSt_step hs ho hpk eμ1 (by omega) hE (Or.inl ⟨h2, rfl⟩))
          | (have f28 : μ2 205 28 = μc1 205 28 := by rw [eμ2, pm_up_ne (by decide)]
             refine ih _ (by omega) rfl k hTμ2 (zSt_step hs ho hpk eμ1 (by omega) hE (Or.inr ⟨o9, ?_⟩))
             rw [eμ2, show μc1 205 26 - 1 = zPo (μ0 220) k by omega])
set_option maxRecDepth 100000 in
theorem zh_settles (hK : zKK ST) {o : Int} {n0 : Nat} (hT : zTJ μ) (h28 : μ 205 28 = (n0 : Int)) (h26 : μ 205 26 = zPo (μ 220) n0) (hk : zPk (μ 220) n0) (ho : o = 9 ∨ o = 10 ∨ o = 11) (hn0 : 0 ≤ μ 205 25 ∧ μ 205 25 + n0 ≤ 400) (hb205 : sx_bit Wm 205 = true) (hb218 : sx_bit Wm 218 = true) (hb219 : sx_bit Wm 219 = true) (hbd : 1 ≤ bud.1 ∧ 22 ≤ bud.2.1) : zC D Wm ST b0 l Sg zM296 bud [(2, 205), (0, o)] μ (fun st' μ' => st' = [] ∧ zTJ μ' ∧ ∃ k : Nat, zSt μ μ' o n0 k ∧ (k = 0 ∨ μ 220 ((k : Int) - 1) ≠ o)) := by
  exact zl_st hK (μ0 := μ) ho hn0 hb205 hb218 hb219 hbd _ rfl n0 hT (zSt_0 h28 h26 hk)
end ZHW
