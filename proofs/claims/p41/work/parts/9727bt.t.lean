/-! THE LAW: what waits is settled; walks printed by program (wip/p30/pmgen.py) and filled by hand -/
section ZHW
variable {φ : Option pm_Mem}
variable {D : va_G} {Wm : Nat} {ST : List (String × String × String × Nat)} {b0 : sx_B} {l : Launch} {Sg : Nat → Option Nat} {bud : sx_Bu} {μ : pm_Mem} {B0 : Nat → Prop} {J : (Nat → Option Nat) → Heap → Prop}
set_option maxRecDepth 100000 in
theorem zn_st (hK : zKK ST)  {μ0 : pm_Mem} {o : Int} {m0 : Nat} (ho : o = 9 ∨ o = 10 ∨ o = 11) (hn0 : 0 ≤ μ0 205 25 ∧ μ0 205 25 + (m0 : Int) ≤ 400) (hm0 : m0 ≤ 40) (hb205 : sx_bit Wm 205 = true) (hb218 : sx_bit Wm 218 = true) (hb219 : sx_bit Wm 219 = true) (hbd : 1 ≤ bud.1 ∧ 22 ≤ bud.2.1) : ∀ (n : Nat) {μ : pm_Mem}, (μ 205 28).toNat = n → ∀ (m : Nat) (k : Nat) (hT : zTJ φ μ) (hs : zSe μ0 μ o m0 m k) (h26 : μ 205 26 = zOn (zPl_TT (μ 220) m)), zW D Wm ST b0 l Sg zM296 bud (pm_X zM296 (fun st' μ' => st' = [] ∧ zTJ φ μ' ∧ ∃ m k, zSe μ0 μ' o m0 m k ∧ (m = 0 ∨ μ0 220 ((m : Int) - 1) ≠ o))) 0 [(2, 205), (0, o)] [] μ := by
  intro n
  induction n using Nat.strongRecOn with
  | ind n ih =>
    intro  μ hn m k hT hs h26
    have s1 := hs.1
    have s2 := hs.2.1
    have s6 := hs.2.2.2.2.2.1
    have s25 := hs.2.2.2.1.2.1
    rw [zTz_len] at s25
    have f1 := zT_get hT zs205_28 (i := 28) (by omega) (by omega)
    refine pm_blk hK zmm296 [] 2 4 [(2, 205), (0, o)] [(0, μ 205 28)] μ [] rfl trivial ?_
    refine pm_if hK zmm296 .le 53 57 rfl rfl (fun h0 => ?_) (fun h0 => ?_)
    · have h0 : μ 205 28 ≤ (0 : Int) := h0
      refine pm_vret rfl rfl ⟨rfl, hT, m, k, hs, ?_⟩
      first
      | (left; omega)
      | (right; rw [← s6, show (m : Int) - 1 = μ 205 28 - 1 by omega]; assumption)
      | (exfalso; omega)
    · have h0 : (0 : Int) < μ 205 28 := h0
      have f2 := zT_get hT zs220_0 (i := (μ 205 28) - 1) (by omega) (by omega)
      refine pm_blk hK zmm296 [] 8 19 [(2, 205), (0, o)] [(0, o), (0, μ 220 ((μ 205 28) - 1))] μ [pm_in ((μ 205 28) - 1), 0 ≤ (μ 205 28) - 1 ∧ (μ 205 28) - 1 < 40] rfl ⟨pm_in_mk (by omega) (by omega), ⟨by omega, by omega⟩, trivial⟩ ?_
      refine pm_icmp hK zmm296 .ne 38 57 rfl rfl (fun h1 => ?_) (fun h1 => ?_)
      · have h1 : μ 220 ((μ 205 28) - 1) ≠ o := h1
        refine pm_vret rfl rfl ⟨rfl, hT, m, k, hs, ?_⟩
        first
        | (left; omega)
        | (right; rw [← s6, show (m : Int) - 1 = μ 205 28 - 1 by omega]; assumption)
        | (exfalso; omega)
      · have h1 : μ 220 ((μ 205 28) - 1) = o := h1
        obtain ⟨m, rfl⟩ : ∃ y, m = y + 1 := ⟨m - 1, by omega⟩
        have hpk : μ0 220 (m : Int) = o := by rw [← s6, show (m : Int) = μ 205 28 - 1 by omega]; exact h1
        rw [zPl_s, zOn_c] at h26
        have hon := zOn_0 (zPl_TT (μ 220) m)
        rw [s6, hpk] at h26
        refine pm_blk hK zmm296 [] 6 32 [(2, 205), (0, o)] [] (pm_up μ 205 28 ((μ 205 28) - 1)) [pm_in ((μ 205 28) - 1), sx_bit Wm 205 = true] rfl ⟨pm_in_mk (by omega) (by omega), hb205, trivial⟩ ?_
        obtain ⟨μ1, eμ1⟩ : ∃ μ', μ' = pm_up μ 205 28 ((μ 205 28) - 1) := ⟨_, rfl⟩
        rw [← eμ1]
        have hTμ1 : zTJ φ μ1 := by rw [eμ1]; exact zT_up hT zs205_28 rfl (i := 28) (by omega) (by omega) (by omega) (by omega)
        have a25 : μ1 205 25 = μ 205 25 := by rw [eμ1, pm_up_ne (by decide)]
        have a28 : μ1 = pm_up μ 205 28 (m : Int) := by rw [eμ1, show μ 205 28 - 1 = (m : Int) by omega]
        have a26 : μ1 205 26 = μ 205 26 := by rw [eμ1, pm_up_ne (by decide)]
        have a20 : μ1 220 = μ0 220 := by rw [eμ1, pm_up_row (by decide), s6]
        refine pm_blk hK zmm296 [] 3 35 [(2, 205), (0, o)] [(0, 0), (0, o), (2, 205)] μ1 [] rfl trivial ?_
        refine pm_call hK zmm296 (219, 0, 292, 2) zM292 (0, 0) [(2, 205), (0, o), (0, 0)] [] rfl rfl rfl rfl ⟨by omega, by rw [zn292]; omega⟩ (zh_emits hK (o := o) (v := 0) hTμ1 ⟨by omega, by omega⟩ ⟨by omega, by omega⟩ ⟨by omega, by omega⟩ hb205 hb218 hb219 ⟨Nat.le_refl _, Nat.le_refl _⟩) (fun st1 μc1 hp1 => ?_)
        obtain ⟨rfl, hTc1, hE1⟩ := hp1
        have hE := hE1
        have d26 := hE.2.2.2.2.2.2 26 (by decide)
        have d20 := hE.2.2.2.2.2.1 220 (by decide) (by decide) (by decide)
        refine pm_blk hK zmm296 [] 2 41 [(2, 205), (0, o)] [(0, 9), (0, o)] μc1 [] rfl trivial ?_
        refine pm_icmp hK zmm296 .ne (-41) 0 rfl rfl (fun h2 => ?_) (fun h2 => ?_)
        · have h2 : o ≠ (9 : Int) := h2
          first
          | exact ih _ (by have g28 := hE.2.2.2.2.2.2 28 (by decide); rw [g28, a28, pm_up_eq]; omega) rfl m (k + 1) hTc1 (zSe_s hs hpk a28 hE (Or.inl ⟨h2, rfl⟩)) (by rw [d20, a20]; rw [if_neg (by omega)] at h26; rw [s6] at hon; omega)
          | (have f28 : μc1 205 28 = μc1 205 28 := by rw [eμc1, pm_up_ne (by decide)]
             have g28 := hE.2.2.2.2.2.2 28 (by decide)
             exact ih _ (by rw [f28, g28, a28, pm_up_eq]; omega) rfl m (k + 1) hTc1 (zSe_s hs hpk a28 hE (Or.inr ⟨o9, eμc1⟩)) (by rw [eμc1, pm_up_eq, pm_up_row (by decide), d20, a20]; omega))
          | (exfalso; omega)
        · have h2 : o = (9 : Int) := h2
          have o9 : o = 9 := h2
          rw [if_pos (Or.inl o9)] at h26
          rw [s6] at hon
          have f3 := zT_get hTc1 zs205_26 (i := 26) (by omega) (by omega)
          refine pm_blk hK zmm296 [] 6 54 [(2, 205), (0, o)] [] (pm_up μc1 205 26 ((μc1 205 26) - 1)) [pm_in ((μc1 205 26) - 1), sx_bit Wm 205 = true] rfl ⟨pm_in_mk (by omega) (by omega), hb205, trivial⟩ ?_
          obtain ⟨μ2, eμ2⟩ : ∃ μ', μ' = pm_up μc1 205 26 ((μc1 205 26) - 1) := ⟨_, rfl⟩
          rw [← eμ2]
          have hTμ2 : zTJ φ μ2 := by rw [eμ2]; exact zT_up hTc1 zs205_26 rfl (i := 26) (by omega) (by omega) (by omega) (by omega)
          refine pm_blk hK zmm296 [] 1 0 [(2, 205), (0, o)] [] μ2 [] rfl trivial ?_
          first
          | exact ih _ (by have g28 := hE.2.2.2.2.2.2 28 (by decide); rw [g28, a28, pm_up_eq]; omega) rfl m (k + 1) hTμ2 (zSe_s hs hpk a28 hE (Or.inl ⟨h2, rfl⟩)) (by rw [d20, a20]; rw [if_neg (by omega)] at h26; rw [s6] at hon; omega)
          | (have f28 : μ2 205 28 = μc1 205 28 := by rw [eμ2, pm_up_ne (by decide)]
             have g28 := hE.2.2.2.2.2.2 28 (by decide)
             exact ih _ (by rw [f28, g28, a28, pm_up_eq]; omega) rfl m (k + 1) hTμ2 (zSe_s hs hpk a28 hE (Or.inr ⟨o9, eμ2⟩)) (by rw [eμ2, pm_up_eq, pm_up_row (by decide), d20, a20]; omega))
          | (exfalso; omega)
set_option maxRecDepth 100000 in
theorem zn_settles (hK : zKK ST) {o : Int} {m0 : Nat} (hT : zTJ φ μ) (h28 : μ 205 28 = (m0 : Int)) (h26 : μ 205 26 = zOn (zPl_TT (μ 220) m0)) (ho : o = 9 ∨ o = 10 ∨ o = 11) (hn0 : 0 ≤ μ 205 25 ∧ μ 205 25 + (m0 : Int) ≤ 400) (hm0 : m0 ≤ 40) (hb205 : sx_bit Wm 205 = true) (hb218 : sx_bit Wm 218 = true) (hb219 : sx_bit Wm 219 = true) (hbd : 1 ≤ bud.1 ∧ 22 ≤ bud.2.1) : zC D Wm ST b0 l Sg zM296 bud [(2, 205), (0, o)] μ (fun st' μ' => st' = [] ∧ zTJ φ μ' ∧ ∃ m k, zSe μ μ' o m0 m k ∧ (m = 0 ∨ μ 220 ((m : Int) - 1) ≠ o)) := by
  exact zn_st hK (μ0 := μ) ho hn0 hm0 hb205 hb218 hb219 hbd _ rfl m0 0 hT (zSe_0 h28) h26
end ZHW
