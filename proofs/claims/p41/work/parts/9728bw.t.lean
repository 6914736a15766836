/-! F: the reference is told; walks printed by program (wip/p30/pmgen.py) and filled by hand -/
section ZHW
variable {D : va_G} {Wm : Nat} {ST : List (String × String × String × Nat)} {b0 : sx_B} {l : Launch} {Sg : Nat → Option Nat} {bud : sx_Bu} {μ : pm_Mem} {B0 : Nat → Prop} {J : (Nat → Option Nat) → Heap → Prop}
set_option maxRecDepth 100000 in
theorem fs_state (hK : zKK ST) {v : Int} (hT : zTJ none μ) (hv : pm_in v) (hb205 : sx_bit Wm 205 = true) (hb206 : sx_bit Wm 206 = true) (hbd : 0 ≤ bud.1 ∧ 0 ≤ bud.2.1) : zC D Wm ST b0 l Sg zM127 bud [(2, 205), (0, v)] μ (fun st' μ' => st' = [(0, μ 206 2)] ∧ zTJ none μ' ∧ μ' 206 = fa_up (μ 206) 2 v ∧ μ' 205 3 = 0 ∧ (∀ k : Int, k ≠ 0 → k ≠ 3 → μ' 205 k = μ 205 k) ∧ ∀ r, r ≠ 205 → r ≠ 206 → μ' r = μ r) := by
  have hv2 : -2147483648 ≤ v ∧ v ≤ 2147483647 := hv
  refine pm_blk hK zmm127 [] 3 5 [(2, 205), (0, v), (9, 0)] [] (pm_up μ 205 0 0) [sx_bit Wm 205 = true] rfl ⟨hb205, trivial⟩ ?_
  obtain ⟨μ1, eμ1⟩ : ∃ μ', μ' = pm_up μ 205 0 0 := ⟨_, rfl⟩
  rw [← eμ1]
  have hTμ1 : zTJ none μ1 := by rw [eμ1]; exact zT_upn hT zs205_0 rfl (i := 0) (by omega) (by omega) (by omega) (by omega)
  have b1 : ∀ k : Int, k ≠ 0 → μ1 205 k = μ 205 k := fun k hk => by rw [eμ1, pm_up_ne hk]
  have b2 : ∀ r, r ≠ 205 → μ1 r = μ r := fun r hr => by rw [eμ1, pm_up_row hr]
  have g1 : μ1 206 2 = μ 206 2 := by rw [eμ1, pm_up_off (by decide)]
  have f2 := zT_get hTμ1 zs206_2 (i := 2) (by omega) (by omega)
  refine pm_blk hK zmm127 [] 10 19 [(2, 205), (0, v), (0, μ1 206 2)] [] (pm_up μ1 206 2 v) [0 ≤ 2 ∧ 2 < 160, sx_bit Wm 206 = true, 0 ≤ 2 ∧ 2 < 160] rfl ⟨⟨by omega, by omega⟩, hb206, ⟨by omega, by omega⟩, trivial⟩ ?_
  obtain ⟨μ2, eμ2⟩ : ∃ μ', μ' = pm_up μ1 206 2 v := ⟨_, rfl⟩
  rw [← eμ2]
  have hTμ2 : zTJ none μ2 := by rw [eμ2]; exact zT_upn hTμ1 zs206_2 rfl (i := 2) (by omega) (by omega) (by omega) (by omega)
  have n1 : μ2 206 = fa_up (μ 206) 2 v := by rw [eμ2, fa_pm, b2 206 (by decide)]
  have c1 : ∀ k : Int, k ≠ 0 → μ2 205 k = μ 205 k := fun k hk => by rw [eμ2, pm_up_off (by decide)]; exact b1 k hk
  have c2 : ∀ r, r ≠ 205 → r ≠ 206 → μ2 r = μ r := fun r h5 h6 => by rw [eμ2, pm_up_row h6]; exact b2 r h5
  refine pm_blk hK zmm127 [] 3 24 [(2, 205), (0, v), (0, μ1 206 2)] [] (pm_up μ2 205 3 0) [sx_bit Wm 205 = true] rfl ⟨hb205, trivial⟩ ?_
  obtain ⟨μ3, eμ3⟩ : ∃ μ', μ' = pm_up μ2 205 3 0 := ⟨_, rfl⟩
  rw [← eμ3]
  have hTμ3 : zTJ none μ3 := by rw [eμ3]; exact zT_upn hTμ2 zs205_3 rfl (i := 3) (by omega) (by omega) (by omega) (by omega)
  refine pm_blk hK zmm127 [] 1 25 [(2, 205), (0, v), (0, μ1 206 2)] [(0, μ1 206 2)] μ3 [] rfl trivial ?_
  exact pm_iret rfl rfl ⟨by rw [b2 206 (by decide)], hTμ3, by rw [eμ3, pm_up_row (by decide)]; exact n1, by rw [eμ3, pm_up_eq], fun k h0 h3 => by rw [eμ3, pm_up_ne h3]; exact c1 k h0, fun r h5 h6 => by rw [eμ3, pm_up_row h5]; exact c2 r h5 h6⟩
set_option maxRecDepth 100000 in
theorem fs_shopl (hK : zKK ST) {X : Nat → List pm_V → List pm_V → pm_Mem → Prop} {μ0 : pm_Mem} {N : Int → Int} {g p s0 : Int} (h0 : μ0 205 6 = s0) (hs0 : 0 ≤ s0 ∧ s0 ≤ 11) (hb206 : sx_bit Wm 206 = true) (K : ∀ (μ : pm_Mem), μ 206 = fs_zS N s0 7 → (∀ r, r ≠ 206 → μ r = μ0 r) → zTJ none μ → zW D Wm ST b0 l Sg zM128 bud X 66 [(2, 205), (0, g), (0, p), (9, 0)] [] μ) (hbd : 0 ≤ bud.1 ∧ 0 ≤ bud.2.1) : ∀ (nM : Nat) {k t : Int} {μ : pm_Mem}, (7 - t).toNat = nM → ∀ (hk : k = 4 + 12 * t) (ht : 0 ≤ t ∧ t ≤ 7) (hn : μ 206 = fs_zS N s0 t.toNat) (hf : ∀ r, r ≠ 206 → μ r = μ0 r) (hT : zTJ none μ), zW D Wm ST b0 l Sg zM128 bud X 40 [(2, 205), (0, g), (0, p), (0, k)] [] μ := by
  intro nM
  induction nM using Nat.strongRecOn with
  | ind nM ih =>
    intro k t μ hn hk ht hn hf hT
    have h6 : μ 205 6 = s0 := by rw [hf 205 (by decide)]; exact h0
    have et : ((t.toNat : Nat) : Int) = t := by omega
    refine pm_blk hK zmm128 [] 2 43 [(2, 205), (0, g), (0, p), (0, k)] [(0, 88), (0, k)] μ [] rfl trivial ?_
    refine pm_icmp hK zmm128 .ge 23 66 rfl rfl (fun h0 => ?_) (fun h0 => ?_)
    · have h0 : (88 : Int) ≤ k := h0
      refine pm_hide [3] ?_
      have ek : t.toNat = 7 := by omega
      exact K _ (by rw [hn, ek]) hf hT
    · have h0 : k < (88 : Int) := h0
      have f1 := zT_get hT zs205_6 (i := 6) (by omega) (by omega)
      refine pm_blk hK zmm128 [] 8 58 [(2, 205), (0, g), (0, p), (0, k)] [] (pm_up μ 206 (k + (μ 205 6)) 0) [pm_in (k + (μ 205 6)), sx_bit Wm 206 = true, 0 ≤ k + (μ 205 6) ∧ k + (μ 205 6) < 160] rfl ⟨pm_in_mk (by omega) (by omega), hb206, ⟨by omega, by omega⟩, trivial⟩ ?_
      obtain ⟨μ1, eμ1⟩ : ∃ μ', μ' = pm_up μ 206 (k + (μ 205 6)) 0 := ⟨_, rfl⟩
      rw [← eμ1]
      have hTμ1 : zTJ none μ1 := by rw [eμ1]; exact zT_z206 hT (by omega) (by omega)
      refine pm_blk hK zmm128 [] 5 40 [(2, 205), (0, g), (0, p), (0, k + 12)] [] μ1 [pm_in (k + 12)] rfl ⟨pm_in_mk (by omega) (by omega), trivial⟩ ?_
      exact ih _ (by omega) (k := k + 12) (t := t + 1) rfl (by omega) ⟨by omega, by omega⟩ (by rw [eμ1, fa_pm, hn, show (t + 1).toNat = t.toNat + 1 by omega, fs_zS_s, et, h6, ← hk]) (fun r hr => by rw [eμ1, pm_up_row hr]; exact hf r hr) hTμ1
set_option maxRecDepth 100000 in
theorem fs_shop (hK : zKK ST) {g p : Int} (hT : zTJ none μ) (hb205 : sx_bit Wm 205 = true) (hb206 : sx_bit Wm 206 = true) (hb209 : sx_bit Wm 209 = true) (hbd : 1 ≤ bud.1 ∧ 23 ≤ bud.2.1) : zC D Wm ST b0 l Sg zM128 bud [(2, 205), (0, g), (0, p)] μ (fun st' μ' => ∃ x, st' = [(0, x)] ∧ zTJ none μ' ∧ ((((0 ≤ g ∧ g ≤ 99) ∧ (1 ≤ p ∧ p ≤ 99)) ∧ μ 205 6 ≠ 12 ∧ x = μ 205 6 ∧ (μ' 206 = fa_addS (μ 206) (μ 205 6) g p ∧ μ' 209 = μ 209) ∧ μ' 205 6 = μ 205 6 + 1 ∧ μ' 205 3 = 0 ∧ (∀ k : Int, k ≠ 0 → k ≠ 3 → k ≠ 6 → μ' 205 k = μ 205 k) ∧ ∀ r, r ≠ 205 → r ≠ 206 → r ≠ 209 → μ' r = μ r) ∨ (¬ (((0 ≤ g ∧ g ≤ 99) ∧ (1 ≤ p ∧ p ≤ 99)) ∧ μ 205 6 ≠ 12) ∧ x = -1 ∧ (∀ k : Int, k ≠ 0 → μ' 205 k = μ 205 k) ∧ ∀ r, r ≠ 205 → μ' r = μ r))) := by
  have f6 := zT_get hT zs205_6 (i := 6) (by omega) (by omega)
  refine pm_blk hK zmm128 [] 3 5 [(2, 205), (0, g), (0, p), (9, 0)] [] (pm_up μ 205 0 0) [sx_bit Wm 205 = true] rfl ⟨hb205, trivial⟩ ?_
  obtain ⟨μ1, eμ1⟩ : ∃ μ', μ' = pm_up μ 205 0 0 := ⟨_, rfl⟩
  rw [← eμ1]
  have hTμ1 : zTJ none μ1 := by rw [eμ1]; exact zT_upn hT zs205_0 rfl (i := 0) (by omega) (by omega) (by omega) (by omega)
  have b1 : ∀ k : Int, k ≠ 0 → μ1 205 k = μ 205 k := fun k hk => by rw [eμ1, pm_up_ne hk]
  have b2 : ∀ r, r ≠ 205 → μ1 r = μ r := fun r hr => by rw [eμ1, pm_up_row hr]
  have b3 := b1 6 (by decide)
  refine pm_blk hK zmm128 [] 4 10 [(2, 205), (0, g), (0, p), (9, 0)] [(0, 99), (0, 0), (0, g), (2, 205)] μ1 [] rfl trivial ?_
  refine pm_call hK zmm128 (158, 0, 129, 3) zM129 (0, 0) [(2, 205), (0, g), (0, 0), (0, 99)] [] rfl rfl rfl rfl ⟨by omega, by rw [zn129]; omega⟩ (zh_isIn hK ⟨by omega, by omega⟩) (fun st1 μc1 hp1 => ?_)
  obtain ⟨rfl, rfl⟩ := hp1
  refine pm_if hK zmm128 .eq 23 36 rfl rfl (fun h0 => ?_) (fun h0 => ?_)
  · have h0 : (if 0 ≤ g ∧ g ≤ 99 then 1 else 0 : Int) = (0 : Int) := h0
    have h0 := zif0 h0
    refine pm_blk hK zmm128 [] 1 37 [(2, 205), (0, g), (0, p), (9, 0)] [(0, (-1))] μ1 [] rfl trivial ?_
    exact pm_iret rfl rfl ⟨_, rfl, hTμ1, Or.inr ⟨by omega, rfl, b1, b2⟩⟩
  · have h0 : (if 0 ≤ g ∧ g ≤ 99 then 1 else 0 : Int) ≠ (0 : Int) := h0
    have h0 := zif1 h0
    refine pm_blk hK zmm128 [] 4 21 [(2, 205), (0, g), (0, p), (9, 0)] [(0, 99), (0, 1), (0, p), (2, 205)] μ1 [] rfl trivial ?_
    refine pm_call hK zmm128 (158, 0, 129, 3) zM129 (0, 0) [(2, 205), (0, p), (0, 1), (0, 99)] [] rfl rfl rfl rfl ⟨by omega, by rw [zn129]; omega⟩ (zh_isIn hK ⟨by omega, by omega⟩) (fun st2 μc2 hp2 => ?_)
    obtain ⟨rfl, rfl⟩ := hp2
    refine pm_if hK zmm128 .eq 12 36 rfl rfl (fun h1 => ?_) (fun h1 => ?_)
    · have h1 : (if 1 ≤ p ∧ p ≤ 99 then 1 else 0 : Int) = (0 : Int) := h1
      have h1 := zif0 h1
      refine pm_blk hK zmm128 [] 1 37 [(2, 205), (0, g), (0, p), (9, 0)] [(0, (-1))] μ1 [] rfl trivial ?_
      exact pm_iret rfl rfl ⟨_, rfl, hTμ1, Or.inr ⟨by omega, rfl, b1, b2⟩⟩
    · have h1 : (if 1 ≤ p ∧ p ≤ 99 then 1 else 0 : Int) ≠ (0 : Int) := h1
      have h1 := zif1 h1
      have f1 := zT_get hTμ1 zs205_6 (i := 6) (by omega) (by omega)
      refine pm_blk hK zmm128 [] 3 33 [(2, 205), (0, g), (0, p), (9, 0)] [(0, 12), (0, μ1 205 6)] μ1 [] rfl trivial ?_
      refine pm_icmp hK zmm128 .ne 5 38 rfl rfl (fun h2 => ?_) (fun h2 => ?_)
      · have h2 : μ1 205 6 ≠ (12 : Int) := h2
        refine pm_blk hK zmm128 [] 2 40 [(2, 205), (0, g), (0, p), (0, 4)] [] μ1 [] rfl trivial ?_
        refine fs_shopl hK (μ0 := μ1) (N := μ 206) (s0 := μ 205 6) b3 ⟨by omega, by omega⟩ hb206 (fun μ2 hn2 hf2 hT2 => ?_) ⟨by omega, by omega⟩ _ (t := 0) rfl (by omega) ⟨by omega, by omega⟩ (b2 206 (by decide)) (fun _ _ => rfl) hTμ1
        have c6 : μ2 205 6 = μ 205 6 := by rw [hf2 205 (by decide)]; exact b3
        have f1 := zT_get hT2 zs205_6 (i := 6) (by omega) (by omega)
        refine pm_blk hK zmm128 [] 8 78 [(2, 205), (0, g), (0, p), (9, 0)] [] (pm_up μ2 206 (4 + (μ2 205 6)) g) [pm_in (4 + (μ2 205 6)), sx_bit Wm 206 = true, 0 ≤ 4 + (μ2 205 6) ∧ 4 + (μ2 205 6) < 160] rfl ⟨pm_in_mk (by omega) (by omega), hb206, ⟨by omega, by omega⟩, trivial⟩ ?_
        obtain ⟨μy1, eμy1⟩ : ∃ μ', μ' = pm_up μ2 206 (4 + (μ2 205 6)) g := ⟨_, rfl⟩
        rw [← eμy1]
        have hTμy1 : zTJ none μy1 := by rw [eμy1]; exact zT_upn hT2 zs206_4 rfl (i := 4 + (μ2 205 6)) (by omega) (by omega) (by omega) (by omega)
        have n1 : μy1 206 = fa_up (fs_zS (μ 206) (μ 205 6) 7) (4 + μ 205 6) g := by rw [eμy1, fa_pm, hn2, c6]
        have g2 : μy1 205 6 = μ2 205 6 := by rw [eμy1, pm_up_off (by decide)]
        have f3 := zT_get hTμy1 zs205_6 (i := 6) (by omega) (by omega)
        refine pm_blk hK zmm128 [] 8 91 [(2, 205), (0, g), (0, p), (9, 0)] [] (pm_up μy1 206 (16 + (μy1 205 6)) p) [pm_in (16 + (μy1 205 6)), sx_bit Wm 206 = true, 0 ≤ 16 + (μy1 205 6) ∧ 16 + (μy1 205 6) < 160] rfl ⟨pm_in_mk (by omega) (by omega), hb206, ⟨by omega, by omega⟩, trivial⟩ ?_
        obtain ⟨μy2, eμy2⟩ : ∃ μ', μ' = pm_up μy1 206 (16 + (μy1 205 6)) p := ⟨_, rfl⟩
        rw [← eμy2]
        have hTμy2 : zTJ none μy2 := by rw [eμy2]; exact zT_upn hTμy1 zs206_4 rfl (i := 16 + (μy1 205 6)) (by omega) (by omega) (by omega) (by omega)
        have n2 : μy2 206 = fa_addS (μ 206) (μ 205 6) g p := by
          rw [eμy2, fa_pm, n1, show μy1 205 6 = μ 205 6 by rw [eμy1, pm_up_off (by decide)]; exact c6]
          exact fs_zS_7
        have g4 : μy2 205 6 = μ2 205 6 := by rw [eμy2, pm_up_off (by decide), eμy1, pm_up_off (by decide)]
        have f5 := zT_get hTμy2 zs205_6 (i := 6) (by omega) (by omega)
        refine pm_blk hK zmm128 [] 6 101 [(2, 205), (0, g), (0, p), (9, 0)] [] (pm_up μy2 205 6 ((μy2 205 6) + 1)) [pm_in ((μy2 205 6) + 1), sx_bit Wm 205 = true] rfl ⟨pm_in_mk (by omega) (by omega), hb205, trivial⟩ ?_
        obtain ⟨μy3, eμy3⟩ : ∃ μ', μ' = pm_up μy2 205 6 ((μy2 205 6) + 1) := ⟨_, rfl⟩
        rw [← eμy3]
        have hTμy3 : zTJ none μy3 := by rw [eμy3]; exact zT_upn hTμy2 zs205_6 rfl (i := 6) (by omega) (by omega) (by omega) (by omega)
        refine pm_blk hK zmm128 [] 3 106 [(2, 205), (0, g), (0, p), (9, 0)] [] (pm_up μy3 205 3 0) [sx_bit Wm 205 = true] rfl ⟨hb205, trivial⟩ ?_
        obtain ⟨μy4, eμy4⟩ : ∃ μ', μ' = pm_up μy3 205 3 0 := ⟨_, rfl⟩
        rw [← eμy4]
        have hTμy4 : zTJ none μy4 := by rw [eμy4]; exact zT_upn hTμy3 zs205_3 rfl (i := 3) (by omega) (by omega) (by omega) (by omega)
        have f6 := zT_get hTμy4 zs205_6 (i := 6) (by omega) (by omega)
        refine pm_blk hK zmm128 [] 4 112 [(2, 205), (0, g), (0, p), (9, 0)] [(0, (μy4 205 6) - 1)] μy4 [pm_in ((μy4 205 6) - 1)] rfl ⟨pm_in_mk (by omega) (by omega), trivial⟩ ?_
        have v6 : μy4 205 6 = μ 205 6 + 1 := by rw [eμy4, pm_up_ne (by decide), eμy3, pm_up_eq]; omega
        exact pm_iret rfl rfl ⟨_, rfl, hTμy4, Or.inl ⟨by omega, by omega, by rw [v6]; omega, ⟨by rw [eμy4, pm_up_row (by decide), eμy3, pm_up_row (by decide)]; exact n2, by rw [eμy4, pm_up_row (by decide), eμy3, pm_up_row (by decide), eμy2, pm_up_row (by decide), eμy1, pm_up_row (by decide), hf2 209 (by decide), b2 209 (by decide)]⟩, v6, by rw [eμy4, pm_up_eq], fun k k0 k3 k6 => by rw [eμy4, pm_up_ne k3, eμy3, pm_up_ne k6, eμy2, pm_up_off (by decide), eμy1, pm_up_off (by decide), hf2 205 (by decide)]; exact b1 k k0, fun r r5 r6 r9 => by rw [eμy4, pm_up_row r5, eμy3, pm_up_row r5, eμy2, pm_up_row r6, eμy1, pm_up_row r6, hf2 r r6]; exact b2 r r5⟩⟩
      · have h2 : μ1 205 6 = (12 : Int) := h2
        refine pm_blk hK zmm128 [] 1 37 [(2, 205), (0, g), (0, p), (9, 0)] [(0, (-1))] μ1 [] rfl trivial ?_
        exact pm_iret rfl rfl ⟨_, rfl, hTμ1, Or.inr ⟨by omega, rfl, b1, b2⟩⟩
set_option maxRecDepth 100000 in
theorem fs_customerl (hK : zKK ST) {X : Nat → List pm_V → List pm_V → pm_Mem → Prop} {μ0 : pm_Mem} {N : Int → Int} {g p s0 : Int} (h0 : μ0 205 7 = s0) (hs0 : 0 ≤ s0 ∧ s0 ≤ 17) (hb206 : sx_bit Wm 206 = true) (K : ∀ (μ : pm_Mem), μ 206 = fs_zC N s0 4 → (∀ r, r ≠ 206 → μ r = μ0 r) → zTJ none μ → zW D Wm ST b0 l Sg zM130 bud X 69 [(2, 205), (0, g), (0, p), (9, 0)] [] μ) (hbd : 0 ≤ bud.1 ∧ 0 ≤ bud.2.1) : ∀ (nM : Nat) {k t : Int} {μ : pm_Mem}, (4 - t).toNat = nM → ∀ (hk : k = 88 + 18 * t) (ht : 0 ≤ t ∧ t ≤ 4) (hn : μ 206 = fs_zC N s0 t.toNat) (hf : ∀ r, r ≠ 206 → μ r = μ0 r) (hT : zTJ none μ), zW D Wm ST b0 l Sg zM130 bud X 42 [(2, 205), (0, g), (0, p), (0, k)] [] μ := by
  intro nM
  induction nM using Nat.strongRecOn with
  | ind nM ih =>
    intro k t μ hn hk ht hn hf hT
    have h6 : μ 205 7 = s0 := by rw [hf 205 (by decide)]; exact h0
    have et : ((t.toNat : Nat) : Int) = t := by omega
    refine pm_blk hK zmm130 [] 2 46 [(2, 205), (0, g), (0, p), (0, k)] [(0, 160), (0, k)] μ [] rfl trivial ?_
    refine pm_icmp hK zmm130 .ge 23 69 rfl rfl (fun h0 => ?_) (fun h0 => ?_)
    · have h0 : (160 : Int) ≤ k := h0
      refine pm_hide [3] ?_
      have ek : t.toNat = 4 := by omega
      exact K _ (by rw [hn, ek]) hf hT
    · have h0 : k < (160 : Int) := h0
      have f1 := zT_get hT zs205_7 (i := 7) (by omega) (by omega)
      refine pm_blk hK zmm130 [] 8 61 [(2, 205), (0, g), (0, p), (0, k)] [] (pm_up μ 206 (k + (μ 205 7)) 0) [pm_in (k + (μ 205 7)), sx_bit Wm 206 = true, 0 ≤ k + (μ 205 7) ∧ k + (μ 205 7) < 160] rfl ⟨pm_in_mk (by omega) (by omega), hb206, ⟨by omega, by omega⟩, trivial⟩ ?_
      obtain ⟨μ1, eμ1⟩ : ∃ μ', μ' = pm_up μ 206 (k + (μ 205 7)) 0 := ⟨_, rfl⟩
      rw [← eμ1]
      have hTμ1 : zTJ none μ1 := by rw [eμ1]; exact zT_z206 hT (by omega) (by omega)
      refine pm_blk hK zmm130 [] 5 42 [(2, 205), (0, g), (0, p), (0, k + 18)] [] μ1 [pm_in (k + 18)] rfl ⟨pm_in_mk (by omega) (by omega), trivial⟩ ?_
      exact ih _ (by omega) (k := k + 18) (t := t + 1) rfl (by omega) ⟨by omega, by omega⟩ (by rw [eμ1, fa_pm, hn, show (t + 1).toNat = t.toNat + 1 by omega, fs_zC_s, et, h6, ← hk]) (fun r hr => by rw [eμ1, pm_up_row hr]; exact hf r hr) hTμ1
set_option maxRecDepth 100000 in
theorem fs_customer (hK : zKK ST) {g p : Int} (hT : zTJ none μ) (hb205 : sx_bit Wm 205 = true) (hb206 : sx_bit Wm 206 = true) (hb209 : sx_bit Wm 209 = true) (hbd : 1 ≤ bud.1 ∧ 23 ≤ bud.2.1) : zC D Wm ST b0 l Sg zM130 bud [(2, 205), (0, g), (0, p)] μ (fun st' μ' => ∃ x, st' = [(0, x)] ∧ zTJ none μ' ∧ ((((0 ≤ g ∧ g ≤ 9999) ∧ (0 ≤ p ∧ p ≤ 9)) ∧ μ 205 7 ≠ 18 ∧ x = μ 205 7 ∧ (μ' 206 = fa_addC (μ 206) (μ 205 7) g ∧ μ' 209 = fa_up (μ 209) (μ 205 7) p) ∧ μ' 205 7 = μ 205 7 + 1 ∧ μ' 205 3 = 0 ∧ (∀ k : Int, k ≠ 0 → k ≠ 3 → k ≠ 7 → μ' 205 k = μ 205 k) ∧ ∀ r, r ≠ 205 → r ≠ 206 → r ≠ 209 → μ' r = μ r) ∨ (¬ (((0 ≤ g ∧ g ≤ 9999) ∧ (0 ≤ p ∧ p ≤ 9)) ∧ μ 205 7 ≠ 18) ∧ x = -1 ∧ (∀ k : Int, k ≠ 0 → μ' 205 k = μ 205 k) ∧ ∀ r, r ≠ 205 → μ' r = μ r))) := by
  have f7 := zT_get hT zs205_7 (i := 7) (by omega) (by omega)
  refine pm_blk hK zmm130 [] 3 5 [(2, 205), (0, g), (0, p), (9, 0)] [] (pm_up μ 205 0 0) [sx_bit Wm 205 = true] rfl ⟨hb205, trivial⟩ ?_
  obtain ⟨μ1, eμ1⟩ : ∃ μ', μ' = pm_up μ 205 0 0 := ⟨_, rfl⟩
  rw [← eμ1]
  have hTμ1 : zTJ none μ1 := by rw [eμ1]; exact zT_upn hT zs205_0 rfl (i := 0) (by omega) (by omega) (by omega) (by omega)
  have b1 : ∀ k : Int, k ≠ 0 → μ1 205 k = μ 205 k := fun k hk => by rw [eμ1, pm_up_ne hk]
  have b2 : ∀ r, r ≠ 205 → μ1 r = μ r := fun r hr => by rw [eμ1, pm_up_row hr]
  have b3 := b1 7 (by decide)
  refine pm_blk hK zmm130 [] 4 11 [(2, 205), (0, g), (0, p), (9, 0)] [(0, 9999), (0, 0), (0, g), (2, 205)] μ1 [] rfl trivial ?_
  refine pm_call hK zmm130 (158, 0, 129, 3) zM129 (0, 0) [(2, 205), (0, g), (0, 0), (0, 9999)] [] rfl rfl rfl rfl ⟨by omega, by rw [zn129]; omega⟩ (zh_isIn hK ⟨by omega, by omega⟩) (fun st1 μc1 hp1 => ?_)
  obtain ⟨rfl, rfl⟩ := hp1
  refine pm_if hK zmm130 .eq 23 37 rfl rfl (fun h0 => ?_) (fun h0 => ?_)
  · have h0 : (if 0 ≤ g ∧ g ≤ 9999 then 1 else 0 : Int) = (0 : Int) := h0
    have h0 := zif0 h0
    refine pm_blk hK zmm130 [] 1 38 [(2, 205), (0, g), (0, p), (9, 0)] [(0, (-1))] μ1 [] rfl trivial ?_
    exact pm_iret rfl rfl ⟨_, rfl, hTμ1, Or.inr ⟨by omega, rfl, b1, b2⟩⟩
  · have h0 : (if 0 ≤ g ∧ g ≤ 9999 then 1 else 0 : Int) ≠ (0 : Int) := h0
    have h0 := zif1 h0
    refine pm_blk hK zmm130 [] 4 22 [(2, 205), (0, g), (0, p), (9, 0)] [(0, 9), (0, 0), (0, p), (2, 205)] μ1 [] rfl trivial ?_
    refine pm_call hK zmm130 (158, 0, 129, 3) zM129 (0, 0) [(2, 205), (0, p), (0, 0), (0, 9)] [] rfl rfl rfl rfl ⟨by omega, by rw [zn129]; omega⟩ (zh_isIn hK ⟨by omega, by omega⟩) (fun st2 μc2 hp2 => ?_)
    obtain ⟨rfl, rfl⟩ := hp2
    refine pm_if hK zmm130 .eq 12 37 rfl rfl (fun h1 => ?_) (fun h1 => ?_)
    · have h1 : (if 0 ≤ p ∧ p ≤ 9 then 1 else 0 : Int) = (0 : Int) := h1
      have h1 := zif0 h1
      refine pm_blk hK zmm130 [] 1 38 [(2, 205), (0, g), (0, p), (9, 0)] [(0, (-1))] μ1 [] rfl trivial ?_
      exact pm_iret rfl rfl ⟨_, rfl, hTμ1, Or.inr ⟨by omega, rfl, b1, b2⟩⟩
    · have h1 : (if 0 ≤ p ∧ p ≤ 9 then 1 else 0 : Int) ≠ (0 : Int) := h1
      have h1 := zif1 h1
      have f1 := zT_get hTμ1 zs205_7 (i := 7) (by omega) (by omega)
      refine pm_blk hK zmm130 [] 3 34 [(2, 205), (0, g), (0, p), (9, 0)] [(0, 18), (0, μ1 205 7)] μ1 [] rfl trivial ?_
      refine pm_icmp hK zmm130 .ne 5 39 rfl rfl (fun h2 => ?_) (fun h2 => ?_)
      · have h2 : μ1 205 7 ≠ (18 : Int) := h2
        refine pm_blk hK zmm130 [] 2 42 [(2, 205), (0, g), (0, p), (0, 88)] [] μ1 [] rfl trivial ?_
        refine fs_customerl hK (μ0 := μ1) (N := μ 206) (s0 := μ 205 7) b3 ⟨by omega, by omega⟩ hb206 (fun μ2 hn2 hf2 hT2 => ?_) ⟨by omega, by omega⟩ _ (t := 0) rfl (by omega) ⟨by omega, by omega⟩ (b2 206 (by decide)) (fun _ _ => rfl) hTμ1
        have c6 : μ2 205 7 = μ 205 7 := by rw [hf2 205 (by decide)]; exact b3
        have f1 := zT_get hT2 zs205_7 (i := 7) (by omega) (by omega)
        refine pm_blk hK zmm130 [] 8 82 [(2, 205), (0, g), (0, p), (9, 0)] [] (pm_up μ2 206 (88 + (μ2 205 7)) g) [pm_in (88 + (μ2 205 7)), sx_bit Wm 206 = true, 0 ≤ 88 + (μ2 205 7) ∧ 88 + (μ2 205 7) < 160] rfl ⟨pm_in_mk (by omega) (by omega), hb206, ⟨by omega, by omega⟩, trivial⟩ ?_
        obtain ⟨μy1, eμy1⟩ : ∃ μ', μ' = pm_up μ2 206 (88 + (μ2 205 7)) g := ⟨_, rfl⟩
        rw [← eμy1]
        have hTμy1 : zTJ none μy1 := by rw [eμy1]; exact zT_upn hT2 zs206_88 rfl (i := 88 + (μ2 205 7)) (by omega) (by omega) (by omega) (by omega)
        have n1 : μy1 206 = fa_addC (μ 206) (μ 205 7) g := by
          rw [eμy1, fa_pm, hn2, c6]
          exact fs_zC_4
        have g2 : μy1 205 7 = μ2 205 7 := by rw [eμy1, pm_up_off (by decide)]
        have f3 := zT_get hTμy1 zs205_7 (i := 7) (by omega) (by omega)
        refine pm_blk hK zmm130 [] 6 92 [(2, 205), (0, g), (0, p), (9, 0)] [] (pm_up μy1 209 (μy1 205 7) p) [sx_bit Wm 209 = true, 0 ≤ μy1 205 7 ∧ μy1 205 7 < 18] rfl ⟨hb209, ⟨by omega, by omega⟩, trivial⟩ ?_
        obtain ⟨μy2, eμy2⟩ : ∃ μ', μ' = pm_up μy1 209 (μy1 205 7) p := ⟨_, rfl⟩
        rw [← eμy2]
        have hTμy2 : zTJ none μy2 := by rw [eμy2]; exact zT_upn hTμy1 zs209_0 rfl (i := μy1 205 7) (by omega) (by omega) (by omega) (by omega)
        have n2 : μy2 209 = fa_up (μ 209) (μ 205 7) p := by rw [eμy2, fa_pm, show μy1 205 7 = μ 205 7 by rw [eμy1, pm_up_off (by decide)]; exact c6, eμy1, pm_up_row (by decide), hf2 209 (by decide), b2 209 (by decide)]
        have g4 : μy2 205 7 = μ2 205 7 := by rw [eμy2, pm_up_off (by decide), eμy1, pm_up_off (by decide)]
        have f5 := zT_get hTμy2 zs205_7 (i := 7) (by omega) (by omega)
        refine pm_blk hK zmm130 [] 6 102 [(2, 205), (0, g), (0, p), (9, 0)] [] (pm_up μy2 205 7 ((μy2 205 7) + 1)) [pm_in ((μy2 205 7) + 1), sx_bit Wm 205 = true] rfl ⟨pm_in_mk (by omega) (by omega), hb205, trivial⟩ ?_
        obtain ⟨μy3, eμy3⟩ : ∃ μ', μ' = pm_up μy2 205 7 ((μy2 205 7) + 1) := ⟨_, rfl⟩
        rw [← eμy3]
        have hTμy3 : zTJ none μy3 := by rw [eμy3]; exact zT_upn hTμy2 zs205_7 rfl (i := 7) (by omega) (by omega) (by omega) (by omega)
        refine pm_blk hK zmm130 [] 3 107 [(2, 205), (0, g), (0, p), (9, 0)] [] (pm_up μy3 205 3 0) [sx_bit Wm 205 = true] rfl ⟨hb205, trivial⟩ ?_
        obtain ⟨μy4, eμy4⟩ : ∃ μ', μ' = pm_up μy3 205 3 0 := ⟨_, rfl⟩
        rw [← eμy4]
        have hTμy4 : zTJ none μy4 := by rw [eμy4]; exact zT_upn hTμy3 zs205_3 rfl (i := 3) (by omega) (by omega) (by omega) (by omega)
        have f6 := zT_get hTμy4 zs205_7 (i := 7) (by omega) (by omega)
        refine pm_blk hK zmm130 [] 4 113 [(2, 205), (0, g), (0, p), (9, 0)] [(0, (μy4 205 7) - 1)] μy4 [pm_in ((μy4 205 7) - 1)] rfl ⟨pm_in_mk (by omega) (by omega), trivial⟩ ?_
        have v6 : μy4 205 7 = μ 205 7 + 1 := by rw [eμy4, pm_up_ne (by decide), eμy3, pm_up_eq]; omega
        exact pm_iret rfl rfl ⟨_, rfl, hTμy4, Or.inl ⟨by omega, by omega, by rw [v6]; omega, ⟨by rw [eμy4, pm_up_row (by decide), eμy3, pm_up_row (by decide), eμy2, pm_up_row (by decide)]; exact n1, by rw [eμy4, pm_up_row (by decide), eμy3, pm_up_row (by decide)]; exact n2⟩, v6, by rw [eμy4, pm_up_eq], fun k k0 k3 k6 => by rw [eμy4, pm_up_ne k3, eμy3, pm_up_ne k6, eμy2, pm_up_off (by decide), eμy1, pm_up_off (by decide), hf2 205 (by decide)]; exact b1 k k0, fun r r5 r6 r9 => by rw [eμy4, pm_up_row r5, eμy3, pm_up_row r5, eμy2, pm_up_row r9, eμy1, pm_up_row r6, hf2 r r6]; exact b2 r r5⟩⟩
      · have h2 : μ1 205 7 = (18 : Int) := h2
        refine pm_blk hK zmm130 [] 1 38 [(2, 205), (0, g), (0, p), (9, 0)] [(0, (-1))] μ1 [] rfl trivial ?_
        exact pm_iret rfl rfl ⟨_, rfl, hTμ1, Or.inr ⟨by omega, rfl, b1, b2⟩⟩
set_option maxRecDepth 100000 in
theorem fs_isShop (hK : zKK ST) {s : Int} (hbd : 0 ≤ bud.1 ∧ 0 ≤ bud.2.1) : zC D Wm ST b0 l Sg zM132 bud [(2, 205), (0, s)] μ (fun st' μ' => μ = μ' ∧ st' = [(0, if 0 ≤ s ∧ s < μ 205 6 then 1 else 0)]) := by
  refine pm_blk hK zmm132 [] 1 1 [(2, 205), (0, s)] [(0, s)] μ [] rfl trivial ?_
  refine pm_if hK zmm132 .lt 15 16 rfl rfl (fun h0 => ?_) (fun h0 => ?_)
  · have h0 : s < (0 : Int) := h0
    refine pm_blk hK zmm132 [] 1 17 [(2, 205), (0, s)] [(0, 0)] μ [] rfl trivial ?_
    exact pm_zret rfl rfl (by first | exact Or.inl rfl | exact Or.inr rfl | omega) ⟨rfl, by first | rw [if_pos (by omega)] | rw [if_neg (by omega)]⟩
  · have h0 : (0 : Int) ≤ s := h0
    refine pm_blk hK zmm132 [] 3 9 [(2, 205), (0, s)] [(0, μ 205 6), (0, s)] μ [] rfl trivial ?_
    refine pm_icmp hK zmm132 .ge 7 16 rfl rfl (fun h1 => ?_) (fun h1 => ?_)
    · have h1 : μ 205 6 ≤ s := h1
      refine pm_blk hK zmm132 [] 1 17 [(2, 205), (0, s)] [(0, 0)] μ [] rfl trivial ?_
      exact pm_zret rfl rfl (by first | exact Or.inl rfl | exact Or.inr rfl | omega) ⟨rfl, by first | rw [if_pos (by omega)] | rw [if_neg (by omega)]⟩
    · have h1 : s < μ 205 6 := h1
      refine pm_blk hK zmm132 [] 2 17 [(2, 205), (0, s)] [(0, 1)] μ [] rfl trivial ?_
      exact pm_zret rfl rfl (by first | exact Or.inl rfl | exact Or.inr rfl | omega) ⟨rfl, by first | rw [if_pos (by omega)] | rw [if_neg (by omega)]⟩
set_option maxRecDepth 100000 in
theorem fs_isCustomer (hK : zKK ST) {s : Int} (hbd : 0 ≤ bud.1 ∧ 0 ≤ bud.2.1) : zC D Wm ST b0 l Sg zM133 bud [(2, 205), (0, s)] μ (fun st' μ' => μ = μ' ∧ st' = [(0, if 0 ≤ s ∧ s < μ 205 7 then 1 else 0)]) := by
  refine pm_blk hK zmm133 [] 1 1 [(2, 205), (0, s)] [(0, s)] μ [] rfl trivial ?_
  refine pm_if hK zmm133 .lt 15 16 rfl rfl (fun h0 => ?_) (fun h0 => ?_)
  · have h0 : s < (0 : Int) := h0
    refine pm_blk hK zmm133 [] 1 17 [(2, 205), (0, s)] [(0, 0)] μ [] rfl trivial ?_
    exact pm_zret rfl rfl (by first | exact Or.inl rfl | exact Or.inr rfl | omega) ⟨rfl, by first | rw [if_pos (by omega)] | rw [if_neg (by omega)]⟩
  · have h0 : (0 : Int) ≤ s := h0
    refine pm_blk hK zmm133 [] 3 9 [(2, 205), (0, s)] [(0, μ 205 7), (0, s)] μ [] rfl trivial ?_
    refine pm_icmp hK zmm133 .ge 7 16 rfl rfl (fun h1 => ?_) (fun h1 => ?_)
    · have h1 : μ 205 7 ≤ s := h1
      refine pm_blk hK zmm133 [] 1 17 [(2, 205), (0, s)] [(0, 0)] μ [] rfl trivial ?_
      exact pm_zret rfl rfl (by first | exact Or.inl rfl | exact Or.inr rfl | omega) ⟨rfl, by first | rw [if_pos (by omega)] | rw [if_neg (by omega)]⟩
    · have h1 : s < μ 205 7 := h1
      refine pm_blk hK zmm133 [] 2 17 [(2, 205), (0, s)] [(0, 1)] μ [] rfl trivial ?_
      exact pm_zret rfl rfl (by first | exact Or.inl rfl | exact Or.inr rfl | omega) ⟨rfl, by first | rw [if_pos (by omega)] | rw [if_neg (by omega)]⟩
set_option maxRecDepth 100000 in
theorem fs_set (hK : zKK ST) {w s v : Int} (hT : zTJ none μ) (hb205 : sx_bit Wm 205 = true) (hb206 : sx_bit Wm 206 = true) (hb209 : sx_bit Wm 209 = true) (hbd : 1 ≤ bud.1 ∧ 24 ≤ bud.2.1) : zC D Wm ST b0 l Sg zM131 bud [(2, 205), (0, w), (0, s), (0, v)] μ (fun st' μ' => ∃ x, st' = [(0, x)] ∧ zTJ none μ' ∧ ((fa_setP (μ 205 6) (μ 205 7) w s v ∧ x = 1 ∧ μ' 206 = fa_setN (μ 206) w s v ∧ μ' 209 = fa_setL (μ 209) w s v ∧ μ' 205 3 = 0 ∧ (∀ k : Int, k ≠ 0 → k ≠ 3 → μ' 205 k = μ 205 k) ∧ ∀ r, r ≠ 205 → r ≠ 206 → r ≠ 209 → μ' r = μ r) ∨ (¬ fa_setP (μ 205 6) (μ 205 7) w s v ∧ x = 0 ∧ (∀ k : Int, k ≠ 0 → μ' 205 k = μ 205 k) ∧ ∀ r, r ≠ 205 → μ' r = μ r))) := by
  have f6 := zT_get hT zs205_6 (i := 6) (by omega) (by omega)
  have f7 := zT_get hT zs205_7 (i := 7) (by omega) (by omega)
  refine pm_blk hK zmm131 [] 3 5 [(2, 205), (0, w), (0, s), (0, v), (9, 0)] [] (pm_up μ 205 0 0) [sx_bit Wm 205 = true] rfl ⟨hb205, trivial⟩ ?_
  obtain ⟨μ1, eμ1⟩ : ∃ μ', μ' = pm_up μ 205 0 0 := ⟨_, rfl⟩
  rw [← eμ1]
  have hTμ1 : zTJ none μ1 := by rw [eμ1]; exact zT_upn hT zs205_0 rfl (i := 0) (by omega) (by omega) (by omega) (by omega)
  have b1 : ∀ k : Int, k ≠ 0 → μ1 205 k = μ 205 k := fun k hk => by rw [eμ1, pm_up_ne hk]
  have b2 : ∀ r, r ≠ 205 → μ1 r = μ r := fun r hr => by rw [eμ1, pm_up_row hr]
  have b6 := b1 6 (by decide)
  have b7 := b1 7 (by decide)
  refine pm_blk hK zmm131 [] 1 6 [(2, 205), (0, w), (0, s), (0, v), (9, 0)] [(0, w)] μ1 [] rfl trivial ?_
  refine pm_if hK zmm131 .ne 22 28 rfl rfl (fun h0 => ?_) (fun h0 => ?_)
  · have h0 : w ≠ (0 : Int) := h0
    refine pm_blk hK zmm131 [] 2 30 [(2, 205), (0, w), (0, s), (0, v), (9, 0)] [(0, 1), (0, w)] μ1 [] rfl trivial ?_
    refine pm_icmp hK zmm131 .ne 23 53 rfl rfl (fun h1 => ?_) (fun h1 => ?_)
    · have h1 : w ≠ (1 : Int) := h1
      refine pm_blk hK zmm131 [] 2 55 [(2, 205), (0, w), (0, s), (0, v), (9, 0)] [(0, 2), (0, w)] μ1 [] rfl trivial ?_
      refine pm_icmp hK zmm131 .ne 26 81 rfl rfl (fun h2 => ?_) (fun h2 => ?_)
      · have h2 : w ≠ (2 : Int) := h2
        refine pm_blk hK zmm131 [] 3 86 [(2, 205), (0, w), (0, s), (0, v), (0, 0)] [(0, 0)] μ1 [] rfl trivial ?_
        refine pm_if hK zmm131 .ne 5 91 rfl rfl (fun h3 => ?_) (fun h3 => ?_)
        · have h3 : (0 : Int) ≠ (0 : Int) := h3
          exact absurd h3 (by decide)
        · have h3 : (0 : Int) = (0 : Int) := h3
          refine pm_blk hK zmm131 [] 1 90 [(2, 205), (0, w), (0, s), (0, v), (0, 0)] [(0, 0)] μ1 [] rfl trivial ?_
          exact pm_zret rfl rfl (by first | exact Or.inl rfl | exact Or.inr rfl | omega) ⟨_, rfl, hTμ1, Or.inr ⟨by unfold fa_setP; omega, rfl, b1, b2⟩⟩
      · have h2 : w = (2 : Int) := h2
        refine pm_blk hK zmm131 [] 2 60 [(2, 205), (0, w), (0, s), (0, v), (9, 0)] [(0, s), (2, 205)] μ1 [] rfl trivial ?_
        refine pm_call hK zmm131 (166, 0, 133, 1) zM133 (0, 0) [(2, 205), (0, s)] [] rfl rfl rfl rfl ⟨by omega, by rw [zn133]; omega⟩ (fs_isCustomer hK (s := s) ⟨Nat.le_refl _, Nat.le_refl _⟩) (fun st1 μc1 hp1 => ?_)
        obtain ⟨rfl, rfl⟩ := hp1
        refine pm_if hK zmm131 .eq 18 81 rfl rfl (fun h4 => ?_) (fun h4 => ?_)
        · have h4 : (if 0 ≤ s ∧ s < μ1 205 7 then 1 else 0 : Int) = (0 : Int) := h4
          have h4 := zif0 h4
          refine pm_blk hK zmm131 [] 3 86 [(2, 205), (0, w), (0, s), (0, v), (0, 0)] [(0, 0)] μ1 [] rfl trivial ?_
          refine pm_if hK zmm131 .ne 5 91 rfl rfl (fun h5 => ?_) (fun h5 => ?_)
          · have h5 : (0 : Int) ≠ (0 : Int) := h5
            exact absurd h5 (by decide)
          · have h5 : (0 : Int) = (0 : Int) := h5
            refine pm_blk hK zmm131 [] 1 90 [(2, 205), (0, w), (0, s), (0, v), (0, 0)] [(0, 0)] μ1 [] rfl trivial ?_
            exact pm_zret rfl rfl (by first | exact Or.inl rfl | exact Or.inr rfl | omega) ⟨_, rfl, hTμ1, Or.inr ⟨by unfold fa_setP; omega, rfl, b1, b2⟩⟩
        · have h4 : (if 0 ≤ s ∧ s < μ1 205 7 then 1 else 0 : Int) ≠ (0 : Int) := h4
          have h4 := zif1 h4
          refine pm_blk hK zmm131 [] 4 71 [(2, 205), (0, w), (0, s), (0, v), (9, 0)] [(0, 9), (0, 0), (0, v), (2, 205)] μ1 [] rfl trivial ?_
          refine pm_call hK zmm131 (158, 0, 129, 3) zM129 (0, 0) [(2, 205), (0, v), (0, 0), (0, 9)] [] rfl rfl rfl rfl ⟨by omega, by rw [zn129]; omega⟩ (zh_isIn hK ⟨by omega, by omega⟩) (fun st2 μc2 hp2 => ?_)
          obtain ⟨rfl, rfl⟩ := hp2
          refine pm_if hK zmm131 .eq 7 81 rfl rfl (fun h6 => ?_) (fun h6 => ?_)
          · have h6 : (if 0 ≤ v ∧ v ≤ 9 then 1 else 0 : Int) = (0 : Int) := h6
            have h6 := zif0 h6
            refine pm_blk hK zmm131 [] 3 86 [(2, 205), (0, w), (0, s), (0, v), (0, 0)] [(0, 0)] μ1 [] rfl trivial ?_
            refine pm_if hK zmm131 .ne 5 91 rfl rfl (fun h7 => ?_) (fun h7 => ?_)
            · have h7 : (0 : Int) ≠ (0 : Int) := h7
              exact absurd h7 (by decide)
            · have h7 : (0 : Int) = (0 : Int) := h7
              refine pm_blk hK zmm131 [] 1 90 [(2, 205), (0, w), (0, s), (0, v), (0, 0)] [(0, 0)] μ1 [] rfl trivial ?_
              exact pm_zret rfl rfl (by first | exact Or.inl rfl | exact Or.inr rfl | omega) ⟨_, rfl, hTμ1, Or.inr ⟨by unfold fa_setP; omega, rfl, b1, b2⟩⟩
          · have h6 : (if 0 ≤ v ∧ v ≤ 9 then 1 else 0 : Int) ≠ (0 : Int) := h6
            have h6 := zif1 h6
            refine pm_blk hK zmm131 [] 4 86 [(2, 205), (0, w), (0, s), (0, v), (0, 1)] [(0, 1)] μ1 [] rfl trivial ?_
            refine pm_if hK zmm131 .ne 5 91 rfl rfl (fun h8 => ?_) (fun h8 => ?_)
            · have h8 : (1 : Int) ≠ (0 : Int) := h8
              refine pm_blk hK zmm131 [] 1 92 [(2, 205), (0, w), (0, s), (0, v), (0, 1)] [(0, w)] μ1 [] rfl trivial ?_
              refine pm_if hK zmm131 .ne 13 105 rfl rfl (fun h9 => ?_) (fun h9 => ?_)
              · have h9 : w ≠ (0 : Int) := h9
                refine pm_blk hK zmm131 [] 2 107 [(2, 205), (0, w), (0, s), (0, v), (0, 1)] [(0, 1), (0, w)] μ1 [] rfl trivial ?_
                refine pm_icmp hK zmm131 .ne 13 120 rfl rfl (fun h10 => ?_) (fun h10 => ?_)
                · have h10 : w ≠ (1 : Int) := h10
                  refine pm_blk hK zmm131 [] 2 122 [(2, 205), (0, w), (0, s), (0, v), (0, 1)] [(0, 2), (0, w)] μ1 [] rfl trivial ?_
                  refine pm_icmp hK zmm131 .ne 10 132 rfl rfl (fun h11 => ?_) (fun h11 => ?_)
                  · have h11 : w ≠ (2 : Int) := h11
                    exact absurd h2 h11
                  · have h11 : w = (2 : Int) := h11
                    refine pm_blk hK zmm131 [] 5 132 [(2, 205), (0, w), (0, s), (0, v), (0, 1)] [] (pm_up μ1 209 s v) [sx_bit Wm 209 = true, 0 ≤ s ∧ s < 18] rfl ⟨hb209, ⟨by omega, by omega⟩, trivial⟩ ?_
                    obtain ⟨μ2, eμ2⟩ : ∃ μ', μ' = pm_up μ1 209 s v := ⟨_, rfl⟩
                    rw [← eμ2]
                    have hTμ2 : zTJ none μ2 := by rw [eμ2]; exact zT_upn hTμ1 zs209_0 rfl (i := s) (by omega) (by omega) (by omega) (by omega)
                    have n1 : μ2 206 = fa_setN (μ 206) w s v := by first | (rw [eμ2, pm_up_row (by decide), b2 206 (by decide), show w = 2 by omega, fa_setN_2]) | (exfalso; omega)
                    have n2 : μ2 209 = fa_setL (μ 209) w s v := by first | (rw [eμ2, fa_pm, b2 209 (by decide), show w = 2 by omega, fa_setL_2]) | (exfalso; omega)
                    have c1 : ∀ k : Int, k ≠ 0 → μ2 205 k = μ 205 k := fun k hk => by first | (rw [eμ2, pm_up_off (by decide)]; exact b1 k hk) | (exfalso; omega)
                    have c2 : ∀ r, r ≠ 205 → r ≠ 206 → r ≠ 209 → μ2 r = μ r := fun r h5 h6 h9 => by first | (rw [eμ2, pm_up_row h9]; exact b2 r h5) | (exfalso; omega)
                    refine pm_blk hK zmm131 [] 3 137 [(2, 205), (0, w), (0, s), (0, v), (0, 1)] [] (pm_up μ2 205 3 0) [sx_bit Wm 205 = true] rfl ⟨hb205, trivial⟩ ?_
                    obtain ⟨μ3, eμ3⟩ : ∃ μ', μ' = pm_up μ2 205 3 0 := ⟨_, rfl⟩
                    rw [← eμ3]
                    have hTμ3 : zTJ none μ3 := by rw [eμ3]; exact zT_upn hTμ2 zs205_3 rfl (i := 3) (by omega) (by omega) (by omega) (by omega)
                    refine pm_blk hK zmm131 [] 1 138 [(2, 205), (0, w), (0, s), (0, v), (0, 1)] [(0, 1)] μ3 [] rfl trivial ?_
                    first
                    | exact pm_zret rfl rfl (by first | exact Or.inl rfl | exact Or.inr rfl | omega) ⟨_, rfl, hTμ3, Or.inl ⟨by unfold fa_setP; omega, rfl, by rw [eμ3, pm_up_row (by decide)]; exact n1, by rw [eμ3, pm_up_row (by decide)]; exact n2, by rw [eμ3, pm_up_eq], fun k h0 h3 => by rw [eμ3, pm_up_ne h3]; exact c1 k h0, fun r h5 h6 h9 => by rw [eμ3, pm_up_row h5]; exact c2 r h5 h6 h9⟩⟩
                    | (exfalso; omega)
                · have h10 : w = (1 : Int) := h10
                  exact absurd h10 h1
              · have h9 : w = (0 : Int) := h9
                exact absurd h9 h0
            · have h8 : (1 : Int) = (0 : Int) := h8
              exact absurd h8 (by decide)
    · have h1 : w = (1 : Int) := h1
      refine pm_blk hK zmm131 [] 2 35 [(2, 205), (0, w), (0, s), (0, v), (9, 0)] [(0, s), (2, 205)] μ1 [] rfl trivial ?_
      refine pm_call hK zmm131 (166, 0, 133, 1) zM133 (0, 0) [(2, 205), (0, s)] [] rfl rfl rfl rfl ⟨by omega, by rw [zn133]; omega⟩ (fs_isCustomer hK (s := s) ⟨Nat.le_refl _, Nat.le_refl _⟩) (fun st3 μc3 hp3 => ?_)
      obtain ⟨rfl, rfl⟩ := hp3
      refine pm_if hK zmm131 .eq 15 53 rfl rfl (fun h12 => ?_) (fun h12 => ?_)
      · have h12 : (if 0 ≤ s ∧ s < μ1 205 7 then 1 else 0 : Int) = (0 : Int) := h12
        have h12 := zif0 h12
        refine pm_blk hK zmm131 [] 2 55 [(2, 205), (0, w), (0, s), (0, v), (9, 0)] [(0, 2), (0, w)] μ1 [] rfl trivial ?_
        refine pm_icmp hK zmm131 .ne 26 81 rfl rfl (fun h13 => ?_) (fun h13 => ?_)
        · have h13 : w ≠ (2 : Int) := h13
          refine pm_blk hK zmm131 [] 3 86 [(2, 205), (0, w), (0, s), (0, v), (0, 0)] [(0, 0)] μ1 [] rfl trivial ?_
          refine pm_if hK zmm131 .ne 5 91 rfl rfl (fun h14 => ?_) (fun h14 => ?_)
          · have h14 : (0 : Int) ≠ (0 : Int) := h14
            exact absurd h14 (by decide)
          · have h14 : (0 : Int) = (0 : Int) := h14
            refine pm_blk hK zmm131 [] 1 90 [(2, 205), (0, w), (0, s), (0, v), (0, 0)] [(0, 0)] μ1 [] rfl trivial ?_
            exact pm_zret rfl rfl (by first | exact Or.inl rfl | exact Or.inr rfl | omega) ⟨_, rfl, hTμ1, Or.inr ⟨by unfold fa_setP; omega, rfl, b1, b2⟩⟩
        · have h13 : w = (2 : Int) := h13
          refine pm_blk hK zmm131 [] 2 60 [(2, 205), (0, w), (0, s), (0, v), (9, 0)] [(0, s), (2, 205)] μ1 [] rfl trivial ?_
          refine pm_call hK zmm131 (166, 0, 133, 1) zM133 (0, 0) [(2, 205), (0, s)] [] rfl rfl rfl rfl ⟨by omega, by rw [zn133]; omega⟩ (fs_isCustomer hK (s := s) ⟨Nat.le_refl _, Nat.le_refl _⟩) (fun st4 μc4 hp4 => ?_)
          obtain ⟨rfl, rfl⟩ := hp4
          refine pm_if hK zmm131 .eq 18 81 rfl rfl (fun h15 => ?_) (fun h15 => ?_)
          · have h15 : (if 0 ≤ s ∧ s < μ1 205 7 then 1 else 0 : Int) = (0 : Int) := h15
            have h15 := zif0 h15
            refine pm_blk hK zmm131 [] 3 86 [(2, 205), (0, w), (0, s), (0, v), (0, 0)] [(0, 0)] μ1 [] rfl trivial ?_
            refine pm_if hK zmm131 .ne 5 91 rfl rfl (fun h16 => ?_) (fun h16 => ?_)
            · have h16 : (0 : Int) ≠ (0 : Int) := h16
              exact absurd h16 (by decide)
            · have h16 : (0 : Int) = (0 : Int) := h16
              refine pm_blk hK zmm131 [] 1 90 [(2, 205), (0, w), (0, s), (0, v), (0, 0)] [(0, 0)] μ1 [] rfl trivial ?_
              exact pm_zret rfl rfl (by first | exact Or.inl rfl | exact Or.inr rfl | omega) ⟨_, rfl, hTμ1, Or.inr ⟨by unfold fa_setP; omega, rfl, b1, b2⟩⟩
          · have h15 : (if 0 ≤ s ∧ s < μ1 205 7 then 1 else 0 : Int) ≠ (0 : Int) := h15
            have h15 := zif1 h15
            exact absurd h15 h12
      · have h12 : (if 0 ≤ s ∧ s < μ1 205 7 then 1 else 0 : Int) ≠ (0 : Int) := h12
        have h12 := zif1 h12
        refine pm_blk hK zmm131 [] 4 47 [(2, 205), (0, w), (0, s), (0, v), (9, 0)] [(0, 9999), (0, 0), (0, v), (2, 205)] μ1 [] rfl trivial ?_
        refine pm_call hK zmm131 (158, 0, 129, 3) zM129 (0, 0) [(2, 205), (0, v), (0, 0), (0, 9999)] [] rfl rfl rfl rfl ⟨by omega, by rw [zn129]; omega⟩ (zh_isIn hK ⟨by omega, by omega⟩) (fun st5 μc5 hp5 => ?_)
        obtain ⟨rfl, rfl⟩ := hp5
        refine pm_if hK zmm131 .ne 27 77 rfl rfl (fun h17 => ?_) (fun h17 => ?_)
        · have h17 : (if 0 ≤ v ∧ v ≤ 9999 then 1 else 0 : Int) ≠ (0 : Int) := h17
          have h17 := zif1 h17
          refine pm_blk hK zmm131 [] 4 86 [(2, 205), (0, w), (0, s), (0, v), (0, 1)] [(0, 1)] μ1 [] rfl trivial ?_
          refine pm_if hK zmm131 .ne 5 91 rfl rfl (fun h18 => ?_) (fun h18 => ?_)
          · have h18 : (1 : Int) ≠ (0 : Int) := h18
            refine pm_blk hK zmm131 [] 1 92 [(2, 205), (0, w), (0, s), (0, v), (0, 1)] [(0, w)] μ1 [] rfl trivial ?_
            refine pm_if hK zmm131 .ne 13 105 rfl rfl (fun h19 => ?_) (fun h19 => ?_)
            · have h19 : w ≠ (0 : Int) := h19
              refine pm_blk hK zmm131 [] 2 107 [(2, 205), (0, w), (0, s), (0, v), (0, 1)] [(0, 1), (0, w)] μ1 [] rfl trivial ?_
              refine pm_icmp hK zmm131 .ne 13 120 rfl rfl (fun h20 => ?_) (fun h20 => ?_)
              · have h20 : w ≠ (1 : Int) := h20
                exact absurd h1 h20
              · have h20 : w = (1 : Int) := h20
                refine pm_blk hK zmm131 [] 7 120 [(2, 205), (0, w), (0, s), (0, v), (0, 1)] [] (pm_up μ1 206 (88 + s) v) [pm_in (88 + s), sx_bit Wm 206 = true, 0 ≤ 88 + s ∧ 88 + s < 160] rfl ⟨pm_in_mk (by omega) (by omega), hb206, ⟨by omega, by omega⟩, trivial⟩ ?_
                obtain ⟨μ4, eμ4⟩ : ∃ μ', μ' = pm_up μ1 206 (88 + s) v := ⟨_, rfl⟩
                rw [← eμ4]
                have hTμ4 : zTJ none μ4 := by rw [eμ4]; exact zT_upn hTμ1 zs206_88 rfl (i := 88 + s) (by omega) (by omega) (by omega) (by omega)
                have n1 : μ4 206 = fa_setN (μ 206) w s v := by first | (rw [eμ4, fa_pm, b2 206 (by decide), show w = 1 by omega, fa_setN_1]) | (exfalso; omega)
                have n2 : μ4 209 = fa_setL (μ 209) w s v := by first | (rw [eμ4, pm_up_row (by decide), b2 209 (by decide), show w = 1 by omega, fa_setL_1]) | (exfalso; omega)
                have c1 : ∀ k : Int, k ≠ 0 → μ4 205 k = μ 205 k := fun k hk => by first | (rw [eμ4, pm_up_off (by decide)]; exact b1 k hk) | (exfalso; omega)
                have c2 : ∀ r, r ≠ 205 → r ≠ 206 → r ≠ 209 → μ4 r = μ r := fun r h5 h6 h9 => by first | (rw [eμ4, pm_up_row h6]; exact b2 r h5) | (exfalso; omega)
                refine pm_blk hK zmm131 [] 2 122 [(2, 205), (0, w), (0, s), (0, v), (0, 1)] [(0, 2), (0, w)] μ4 [] rfl trivial ?_
                refine pm_icmp hK zmm131 .ne 10 132 rfl rfl (fun h21 => ?_) (fun h21 => ?_)
                · have h21 : w ≠ (2 : Int) := h21
                  refine pm_blk hK zmm131 [] 3 137 [(2, 205), (0, w), (0, s), (0, v), (0, 1)] [] (pm_up μ4 205 3 0) [sx_bit Wm 205 = true] rfl ⟨hb205, trivial⟩ ?_
                  obtain ⟨μ5, eμ5⟩ : ∃ μ', μ' = pm_up μ4 205 3 0 := ⟨_, rfl⟩
                  rw [← eμ5]
                  have hTμ5 : zTJ none μ5 := by rw [eμ5]; exact zT_upn hTμ4 zs205_3 rfl (i := 3) (by omega) (by omega) (by omega) (by omega)
                  refine pm_blk hK zmm131 [] 1 138 [(2, 205), (0, w), (0, s), (0, v), (0, 1)] [(0, 1)] μ5 [] rfl trivial ?_
                  first
                  | exact pm_zret rfl rfl (by first | exact Or.inl rfl | exact Or.inr rfl | omega) ⟨_, rfl, hTμ5, Or.inl ⟨by unfold fa_setP; omega, rfl, by rw [eμ5, pm_up_row (by decide)]; exact n1, by rw [eμ5, pm_up_row (by decide)]; exact n2, by rw [eμ5, pm_up_eq], fun k h0 h3 => by rw [eμ5, pm_up_ne h3]; exact c1 k h0, fun r h5 h6 h9 => by rw [eμ5, pm_up_row h5]; exact c2 r h5 h6 h9⟩⟩
                  | (exfalso; omega)
                · have h21 : w = (2 : Int) := h21
                  refine pm_blk hK zmm131 [] 5 132 [(2, 205), (0, w), (0, s), (0, v), (0, 1)] [] (pm_up μ4 209 s v) [sx_bit Wm 209 = true, 0 ≤ s ∧ s < 18] rfl ⟨hb209, ⟨by omega, by omega⟩, trivial⟩ ?_
                  obtain ⟨μ6, eμ6⟩ : ∃ μ', μ' = pm_up μ4 209 s v := ⟨_, rfl⟩
                  rw [← eμ6]
                  have hTμ6 : zTJ none μ6 := by rw [eμ6]; exact zT_upn hTμ4 zs209_0 rfl (i := s) (by omega) (by omega) (by omega) (by omega)
                  have n1 : μ6 206 = fa_setN (μ 206) w s v := by first | (rw [eμ6, pm_up_row (by decide), b2 206 (by decide), show w = 2 by omega, fa_setN_2]) | (exfalso; omega)
                  have n2 : μ6 209 = fa_setL (μ 209) w s v := by first | (rw [eμ6, fa_pm, b2 209 (by decide), show w = 2 by omega, fa_setL_2]) | (exfalso; omega)
                  have c1 : ∀ k : Int, k ≠ 0 → μ6 205 k = μ 205 k := fun k hk => by first | (rw [eμ6, pm_up_off (by decide)]; exact b1 k hk) | (exfalso; omega)
                  have c2 : ∀ r, r ≠ 205 → r ≠ 206 → r ≠ 209 → μ6 r = μ r := fun r h5 h6 h9 => by first | (rw [eμ6, pm_up_row h9]; exact b2 r h5) | (exfalso; omega)
                  refine pm_blk hK zmm131 [] 3 137 [(2, 205), (0, w), (0, s), (0, v), (0, 1)] [] (pm_up μ6 205 3 0) [sx_bit Wm 205 = true] rfl ⟨hb205, trivial⟩ ?_
                  obtain ⟨μ7, eμ7⟩ : ∃ μ', μ' = pm_up μ6 205 3 0 := ⟨_, rfl⟩
                  rw [← eμ7]
                  have hTμ7 : zTJ none μ7 := by rw [eμ7]; exact zT_upn hTμ6 zs205_3 rfl (i := 3) (by omega) (by omega) (by omega) (by omega)
                  refine pm_blk hK zmm131 [] 1 138 [(2, 205), (0, w), (0, s), (0, v), (0, 1)] [(0, 1)] μ7 [] rfl trivial ?_
                  first
                  | exact pm_zret rfl rfl (by first | exact Or.inl rfl | exact Or.inr rfl | omega) ⟨_, rfl, hTμ7, Or.inl ⟨by unfold fa_setP; omega, rfl, by rw [eμ7, pm_up_row (by decide)]; exact n1, by rw [eμ7, pm_up_row (by decide)]; exact n2, by rw [eμ7, pm_up_eq], fun k h0 h3 => by rw [eμ7, pm_up_ne h3]; exact c1 k h0, fun r h5 h6 h9 => by rw [eμ7, pm_up_row h5]; exact c2 r h5 h6 h9⟩⟩
                  | (exfalso; omega)
            · have h19 : w = (0 : Int) := h19
              exact absurd h19 h0
          · have h18 : (1 : Int) = (0 : Int) := h18
            exact absurd h18 (by decide)
        · have h17 : (if 0 ≤ v ∧ v ≤ 9999 then 1 else 0 : Int) = (0 : Int) := h17
          have h17 := zif0 h17
          refine pm_blk hK zmm131 [] 2 55 [(2, 205), (0, w), (0, s), (0, v), (9, 0)] [(0, 2), (0, w)] μ1 [] rfl trivial ?_
          refine pm_icmp hK zmm131 .ne 26 81 rfl rfl (fun h22 => ?_) (fun h22 => ?_)
          · have h22 : w ≠ (2 : Int) := h22
            refine pm_blk hK zmm131 [] 3 86 [(2, 205), (0, w), (0, s), (0, v), (0, 0)] [(0, 0)] μ1 [] rfl trivial ?_
            refine pm_if hK zmm131 .ne 5 91 rfl rfl (fun h23 => ?_) (fun h23 => ?_)
            · have h23 : (0 : Int) ≠ (0 : Int) := h23
              exact absurd h23 (by decide)
            · have h23 : (0 : Int) = (0 : Int) := h23
              refine pm_blk hK zmm131 [] 1 90 [(2, 205), (0, w), (0, s), (0, v), (0, 0)] [(0, 0)] μ1 [] rfl trivial ?_
              exact pm_zret rfl rfl (by first | exact Or.inl rfl | exact Or.inr rfl | omega) ⟨_, rfl, hTμ1, Or.inr ⟨by unfold fa_setP; omega, rfl, b1, b2⟩⟩
          · have h22 : w = (2 : Int) := h22
            refine pm_blk hK zmm131 [] 2 60 [(2, 205), (0, w), (0, s), (0, v), (9, 0)] [(0, s), (2, 205)] μ1 [] rfl trivial ?_
            refine pm_call hK zmm131 (166, 0, 133, 1) zM133 (0, 0) [(2, 205), (0, s)] [] rfl rfl rfl rfl ⟨by omega, by rw [zn133]; omega⟩ (fs_isCustomer hK (s := s) ⟨Nat.le_refl _, Nat.le_refl _⟩) (fun st6 μc6 hp6 => ?_)
            obtain ⟨rfl, rfl⟩ := hp6
            refine pm_if hK zmm131 .eq 18 81 rfl rfl (fun h24 => ?_) (fun h24 => ?_)
            · have h24 : (if 0 ≤ s ∧ s < μ1 205 7 then 1 else 0 : Int) = (0 : Int) := h24
              have h24 := zif0 h24
              exact absurd h12 h24
            · have h24 : (if 0 ≤ s ∧ s < μ1 205 7 then 1 else 0 : Int) ≠ (0 : Int) := h24
              have h24 := zif1 h24
              refine pm_blk hK zmm131 [] 4 71 [(2, 205), (0, w), (0, s), (0, v), (9, 0)] [(0, 9), (0, 0), (0, v), (2, 205)] μ1 [] rfl trivial ?_
              refine pm_call hK zmm131 (158, 0, 129, 3) zM129 (0, 0) [(2, 205), (0, v), (0, 0), (0, 9)] [] rfl rfl rfl rfl ⟨by omega, by rw [zn129]; omega⟩ (zh_isIn hK ⟨by omega, by omega⟩) (fun st7 μc7 hp7 => ?_)
              obtain ⟨rfl, rfl⟩ := hp7
              refine pm_if hK zmm131 .eq 7 81 rfl rfl (fun h25 => ?_) (fun h25 => ?_)
              · have h25 : (if 0 ≤ v ∧ v ≤ 9 then 1 else 0 : Int) = (0 : Int) := h25
                have h25 := zif0 h25
                refine pm_blk hK zmm131 [] 3 86 [(2, 205), (0, w), (0, s), (0, v), (0, 0)] [(0, 0)] μ1 [] rfl trivial ?_
                refine pm_if hK zmm131 .ne 5 91 rfl rfl (fun h26 => ?_) (fun h26 => ?_)
                · have h26 : (0 : Int) ≠ (0 : Int) := h26
                  exact absurd h26 (by decide)
                · have h26 : (0 : Int) = (0 : Int) := h26
                  refine pm_blk hK zmm131 [] 1 90 [(2, 205), (0, w), (0, s), (0, v), (0, 0)] [(0, 0)] μ1 [] rfl trivial ?_
                  exact pm_zret rfl rfl (by first | exact Or.inl rfl | exact Or.inr rfl | omega) ⟨_, rfl, hTμ1, Or.inr ⟨by unfold fa_setP; omega, rfl, b1, b2⟩⟩
              · have h25 : (if 0 ≤ v ∧ v ≤ 9 then 1 else 0 : Int) ≠ (0 : Int) := h25
                have h25 := zif1 h25
                refine pm_blk hK zmm131 [] 4 86 [(2, 205), (0, w), (0, s), (0, v), (0, 1)] [(0, 1)] μ1 [] rfl trivial ?_
                refine pm_if hK zmm131 .ne 5 91 rfl rfl (fun h27 => ?_) (fun h27 => ?_)
                · have h27 : (1 : Int) ≠ (0 : Int) := h27
                  refine pm_blk hK zmm131 [] 1 92 [(2, 205), (0, w), (0, s), (0, v), (0, 1)] [(0, w)] μ1 [] rfl trivial ?_
                  refine pm_if hK zmm131 .ne 13 105 rfl rfl (fun h28 => ?_) (fun h28 => ?_)
                  · have h28 : w ≠ (0 : Int) := h28
                    refine pm_blk hK zmm131 [] 2 107 [(2, 205), (0, w), (0, s), (0, v), (0, 1)] [(0, 1), (0, w)] μ1 [] rfl trivial ?_
                    refine pm_icmp hK zmm131 .ne 13 120 rfl rfl (fun h29 => ?_) (fun h29 => ?_)
                    · have h29 : w ≠ (1 : Int) := h29
                      exact absurd h1 h29
                    · have h29 : w = (1 : Int) := h29
                      refine pm_blk hK zmm131 [] 7 120 [(2, 205), (0, w), (0, s), (0, v), (0, 1)] [] (pm_up μ1 206 (88 + s) v) [pm_in (88 + s), sx_bit Wm 206 = true, 0 ≤ 88 + s ∧ 88 + s < 160] rfl ⟨pm_in_mk (by omega) (by omega), hb206, ⟨by omega, by omega⟩, trivial⟩ ?_
                      obtain ⟨μ8, eμ8⟩ : ∃ μ', μ' = pm_up μ1 206 (88 + s) v := ⟨_, rfl⟩
                      rw [← eμ8]
                      have hTμ8 : zTJ none μ8 := by rw [eμ8]; exact zT_upn hTμ1 zs206_88 rfl (i := 88 + s) (by omega) (by omega) (by omega) (by omega)
                      have n1 : μ8 206 = fa_setN (μ 206) w s v := by first | (rw [eμ8, fa_pm, b2 206 (by decide), show w = 1 by omega, fa_setN_1]) | (exfalso; omega)
                      have n2 : μ8 209 = fa_setL (μ 209) w s v := by first | (rw [eμ8, pm_up_row (by decide), b2 209 (by decide), show w = 1 by omega, fa_setL_1]) | (exfalso; omega)
                      have c1 : ∀ k : Int, k ≠ 0 → μ8 205 k = μ 205 k := fun k hk => by first | (rw [eμ8, pm_up_off (by decide)]; exact b1 k hk) | (exfalso; omega)
                      have c2 : ∀ r, r ≠ 205 → r ≠ 206 → r ≠ 209 → μ8 r = μ r := fun r h5 h6 h9 => by first | (rw [eμ8, pm_up_row h6]; exact b2 r h5) | (exfalso; omega)
                      refine pm_blk hK zmm131 [] 2 122 [(2, 205), (0, w), (0, s), (0, v), (0, 1)] [(0, 2), (0, w)] μ8 [] rfl trivial ?_
                      refine pm_icmp hK zmm131 .ne 10 132 rfl rfl (fun h30 => ?_) (fun h30 => ?_)
                      · have h30 : w ≠ (2 : Int) := h30
                        exact absurd h22 h30
                      · have h30 : w = (2 : Int) := h30
                        refine pm_blk hK zmm131 [] 5 132 [(2, 205), (0, w), (0, s), (0, v), (0, 1)] [] (pm_up μ8 209 s v) [sx_bit Wm 209 = true, 0 ≤ s ∧ s < 18] rfl ⟨hb209, ⟨by omega, by omega⟩, trivial⟩ ?_
                        obtain ⟨μ9, eμ9⟩ : ∃ μ', μ' = pm_up μ8 209 s v := ⟨_, rfl⟩
                        rw [← eμ9]
                        have hTμ9 : zTJ none μ9 := by rw [eμ9]; exact zT_upn hTμ8 zs209_0 rfl (i := s) (by omega) (by omega) (by omega) (by omega)
                        have n1 : μ9 206 = fa_setN (μ 206) w s v := by first | (rw [eμ9, pm_up_row (by decide), b2 206 (by decide), show w = 2 by omega, fa_setN_2]) | (exfalso; omega)
                        have n2 : μ9 209 = fa_setL (μ 209) w s v := by first | (rw [eμ9, fa_pm, b2 209 (by decide), show w = 2 by omega, fa_setL_2]) | (exfalso; omega)
                        have c1 : ∀ k : Int, k ≠ 0 → μ9 205 k = μ 205 k := fun k hk => by first | (rw [eμ9, pm_up_off (by decide)]; exact b1 k hk) | (exfalso; omega)
                        have c2 : ∀ r, r ≠ 205 → r ≠ 206 → r ≠ 209 → μ9 r = μ r := fun r h5 h6 h9 => by first | (rw [eμ9, pm_up_row h9]; exact b2 r h5) | (exfalso; omega)
                        refine pm_blk hK zmm131 [] 3 137 [(2, 205), (0, w), (0, s), (0, v), (0, 1)] [] (pm_up μ9 205 3 0) [sx_bit Wm 205 = true] rfl ⟨hb205, trivial⟩ ?_
                        obtain ⟨μ10, eμ10⟩ : ∃ μ', μ' = pm_up μ9 205 3 0 := ⟨_, rfl⟩
                        rw [← eμ10]
                        have hTμ10 : zTJ none μ10 := by rw [eμ10]; exact zT_upn hTμ9 zs205_3 rfl (i := 3) (by omega) (by omega) (by omega) (by omega)
                        refine pm_blk hK zmm131 [] 1 138 [(2, 205), (0, w), (0, s), (0, v), (0, 1)] [(0, 1)] μ10 [] rfl trivial ?_
                        first
                        | exact pm_zret rfl rfl (by first | exact Or.inl rfl | exact Or.inr rfl | omega) ⟨_, rfl, hTμ10, Or.inl ⟨by unfold fa_setP; omega, rfl, by rw [eμ10, pm_up_row (by decide)]; exact n1, by rw [eμ10, pm_up_row (by decide)]; exact n2, by rw [eμ10, pm_up_eq], fun k h0 h3 => by rw [eμ10, pm_up_ne h3]; exact c1 k h0, fun r h5 h6 h9 => by rw [eμ10, pm_up_row h5]; exact c2 r h5 h6 h9⟩⟩
                        | (exfalso; omega)
                  · have h28 : w = (0 : Int) := h28
                    exact absurd h28 h0
                · have h27 : (1 : Int) = (0 : Int) := h27
                  exact absurd h27 (by decide)
  · have h0 : w = (0 : Int) := h0
    refine pm_blk hK zmm131 [] 2 11 [(2, 205), (0, w), (0, s), (0, v), (9, 0)] [(0, s), (2, 205)] μ1 [] rfl trivial ?_
    refine pm_call hK zmm131 (162, 0, 132, 1) zM132 (0, 0) [(2, 205), (0, s)] [] rfl rfl rfl rfl ⟨by omega, by rw [zn132]; omega⟩ (fs_isShop hK (s := s) ⟨Nat.le_refl _, Nat.le_refl _⟩) (fun st8 μc8 hp8 => ?_)
    obtain ⟨rfl, rfl⟩ := hp8
    refine pm_if hK zmm131 .eq 14 28 rfl rfl (fun h31 => ?_) (fun h31 => ?_)
    · have h31 : (if 0 ≤ s ∧ s < μ1 205 6 then 1 else 0 : Int) = (0 : Int) := h31
      have h31 := zif0 h31
      refine pm_blk hK zmm131 [] 2 30 [(2, 205), (0, w), (0, s), (0, v), (9, 0)] [(0, 1), (0, w)] μ1 [] rfl trivial ?_
      refine pm_icmp hK zmm131 .ne 23 53 rfl rfl (fun h32 => ?_) (fun h32 => ?_)
      · have h32 : w ≠ (1 : Int) := h32
        refine pm_blk hK zmm131 [] 2 55 [(2, 205), (0, w), (0, s), (0, v), (9, 0)] [(0, 2), (0, w)] μ1 [] rfl trivial ?_
        refine pm_icmp hK zmm131 .ne 26 81 rfl rfl (fun h33 => ?_) (fun h33 => ?_)
        · have h33 : w ≠ (2 : Int) := h33
          refine pm_blk hK zmm131 [] 3 86 [(2, 205), (0, w), (0, s), (0, v), (0, 0)] [(0, 0)] μ1 [] rfl trivial ?_
          refine pm_if hK zmm131 .ne 5 91 rfl rfl (fun h34 => ?_) (fun h34 => ?_)
          · have h34 : (0 : Int) ≠ (0 : Int) := h34
            exact absurd h34 (by decide)
          · have h34 : (0 : Int) = (0 : Int) := h34
            refine pm_blk hK zmm131 [] 1 90 [(2, 205), (0, w), (0, s), (0, v), (0, 0)] [(0, 0)] μ1 [] rfl trivial ?_
            exact pm_zret rfl rfl (by first | exact Or.inl rfl | exact Or.inr rfl | omega) ⟨_, rfl, hTμ1, Or.inr ⟨by unfold fa_setP; omega, rfl, b1, b2⟩⟩
        · have h33 : w = (2 : Int) := h33
          refine pm_blk hK zmm131 [] 2 60 [(2, 205), (0, w), (0, s), (0, v), (9, 0)] [(0, s), (2, 205)] μ1 [] rfl trivial ?_
          refine pm_call hK zmm131 (166, 0, 133, 1) zM133 (0, 0) [(2, 205), (0, s)] [] rfl rfl rfl rfl ⟨by omega, by rw [zn133]; omega⟩ (fs_isCustomer hK (s := s) ⟨Nat.le_refl _, Nat.le_refl _⟩) (fun st9 μc9 hp9 => ?_)
          obtain ⟨rfl, rfl⟩ := hp9
          refine pm_if hK zmm131 .eq 18 81 rfl rfl (fun h35 => ?_) (fun h35 => ?_)
          · have h35 : (if 0 ≤ s ∧ s < μ1 205 7 then 1 else 0 : Int) = (0 : Int) := h35
            have h35 := zif0 h35
            refine pm_blk hK zmm131 [] 3 86 [(2, 205), (0, w), (0, s), (0, v), (0, 0)] [(0, 0)] μ1 [] rfl trivial ?_
            refine pm_if hK zmm131 .ne 5 91 rfl rfl (fun h36 => ?_) (fun h36 => ?_)
            · have h36 : (0 : Int) ≠ (0 : Int) := h36
              exact absurd h36 (by decide)
            · have h36 : (0 : Int) = (0 : Int) := h36
              refine pm_blk hK zmm131 [] 1 90 [(2, 205), (0, w), (0, s), (0, v), (0, 0)] [(0, 0)] μ1 [] rfl trivial ?_
              exact pm_zret rfl rfl (by first | exact Or.inl rfl | exact Or.inr rfl | omega) ⟨_, rfl, hTμ1, Or.inr ⟨by unfold fa_setP; omega, rfl, b1, b2⟩⟩
          · have h35 : (if 0 ≤ s ∧ s < μ1 205 7 then 1 else 0 : Int) ≠ (0 : Int) := h35
            have h35 := zif1 h35
            refine pm_blk hK zmm131 [] 4 71 [(2, 205), (0, w), (0, s), (0, v), (9, 0)] [(0, 9), (0, 0), (0, v), (2, 205)] μ1 [] rfl trivial ?_
            refine pm_call hK zmm131 (158, 0, 129, 3) zM129 (0, 0) [(2, 205), (0, v), (0, 0), (0, 9)] [] rfl rfl rfl rfl ⟨by omega, by rw [zn129]; omega⟩ (zh_isIn hK ⟨by omega, by omega⟩) (fun st10 μc10 hp10 => ?_)
            obtain ⟨rfl, rfl⟩ := hp10
            refine pm_if hK zmm131 .eq 7 81 rfl rfl (fun h37 => ?_) (fun h37 => ?_)
            · have h37 : (if 0 ≤ v ∧ v ≤ 9 then 1 else 0 : Int) = (0 : Int) := h37
              have h37 := zif0 h37
              refine pm_blk hK zmm131 [] 3 86 [(2, 205), (0, w), (0, s), (0, v), (0, 0)] [(0, 0)] μ1 [] rfl trivial ?_
              refine pm_if hK zmm131 .ne 5 91 rfl rfl (fun h38 => ?_) (fun h38 => ?_)
              · have h38 : (0 : Int) ≠ (0 : Int) := h38
                exact absurd h38 (by decide)
              · have h38 : (0 : Int) = (0 : Int) := h38
                refine pm_blk hK zmm131 [] 1 90 [(2, 205), (0, w), (0, s), (0, v), (0, 0)] [(0, 0)] μ1 [] rfl trivial ?_
                exact pm_zret rfl rfl (by first | exact Or.inl rfl | exact Or.inr rfl | omega) ⟨_, rfl, hTμ1, Or.inr ⟨by unfold fa_setP; omega, rfl, b1, b2⟩⟩
            · have h37 : (if 0 ≤ v ∧ v ≤ 9 then 1 else 0 : Int) ≠ (0 : Int) := h37
              have h37 := zif1 h37
              refine pm_blk hK zmm131 [] 4 86 [(2, 205), (0, w), (0, s), (0, v), (0, 1)] [(0, 1)] μ1 [] rfl trivial ?_
              refine pm_if hK zmm131 .ne 5 91 rfl rfl (fun h39 => ?_) (fun h39 => ?_)
              · have h39 : (1 : Int) ≠ (0 : Int) := h39
                refine pm_blk hK zmm131 [] 1 92 [(2, 205), (0, w), (0, s), (0, v), (0, 1)] [(0, w)] μ1 [] rfl trivial ?_
                refine pm_if hK zmm131 .ne 13 105 rfl rfl (fun h40 => ?_) (fun h40 => ?_)
                · have h40 : w ≠ (0 : Int) := h40
                  exact absurd h0 h40
                · have h40 : w = (0 : Int) := h40
                  refine pm_blk hK zmm131 [] 7 105 [(2, 205), (0, w), (0, s), (0, v), (0, 1)] [] (pm_up μ1 206 (16 + s) v) [pm_in (16 + s), sx_bit Wm 206 = true, 0 ≤ 16 + s ∧ 16 + s < 160] rfl ⟨pm_in_mk (by omega) (by omega), hb206, ⟨by omega, by omega⟩, trivial⟩ ?_
                  obtain ⟨μ11, eμ11⟩ : ∃ μ', μ' = pm_up μ1 206 (16 + s) v := ⟨_, rfl⟩
                  rw [← eμ11]
                  have hTμ11 : zTJ none μ11 := by rw [eμ11]; exact zT_upn hTμ1 zs206_4 rfl (i := 16 + s) (by omega) (by omega) (by omega) (by omega)
                  have n1 : μ11 206 = fa_setN (μ 206) w s v := by first | (rw [eμ11, fa_pm, b2 206 (by decide), show w = 0 by omega, fa_setN_0]) | (exfalso; omega)
                  have n2 : μ11 209 = fa_setL (μ 209) w s v := by first | (rw [eμ11, pm_up_row (by decide), b2 209 (by decide), show w = 0 by omega, fa_setL_0]) | (exfalso; omega)
                  have c1 : ∀ k : Int, k ≠ 0 → μ11 205 k = μ 205 k := fun k hk => by first | (rw [eμ11, pm_up_off (by decide)]; exact b1 k hk) | (exfalso; omega)
                  have c2 : ∀ r, r ≠ 205 → r ≠ 206 → r ≠ 209 → μ11 r = μ r := fun r h5 h6 h9 => by first | (rw [eμ11, pm_up_row h6]; exact b2 r h5) | (exfalso; omega)
                  refine pm_blk hK zmm131 [] 2 107 [(2, 205), (0, w), (0, s), (0, v), (0, 1)] [(0, 1), (0, w)] μ11 [] rfl trivial ?_
                  refine pm_icmp hK zmm131 .ne 13 120 rfl rfl (fun h41 => ?_) (fun h41 => ?_)
                  · have h41 : w ≠ (1 : Int) := h41
                    refine pm_blk hK zmm131 [] 2 122 [(2, 205), (0, w), (0, s), (0, v), (0, 1)] [(0, 2), (0, w)] μ11 [] rfl trivial ?_
                    refine pm_icmp hK zmm131 .ne 10 132 rfl rfl (fun h42 => ?_) (fun h42 => ?_)
                    · have h42 : w ≠ (2 : Int) := h42
                      exact absurd h33 h42
                    · have h42 : w = (2 : Int) := h42
                      refine pm_blk hK zmm131 [] 5 132 [(2, 205), (0, w), (0, s), (0, v), (0, 1)] [] (pm_up μ11 209 s v) [sx_bit Wm 209 = true, 0 ≤ s ∧ s < 18] rfl ⟨hb209, ⟨by omega, by omega⟩, trivial⟩ ?_
                      obtain ⟨μ12, eμ12⟩ : ∃ μ', μ' = pm_up μ11 209 s v := ⟨_, rfl⟩
                      rw [← eμ12]
                      have hTμ12 : zTJ none μ12 := by rw [eμ12]; exact zT_upn hTμ11 zs209_0 rfl (i := s) (by omega) (by omega) (by omega) (by omega)
                      have n1 : μ12 206 = fa_setN (μ 206) w s v := by first | (rw [eμ12, pm_up_row (by decide), b2 206 (by decide), show w = 2 by omega, fa_setN_2]) | (exfalso; omega)
                      have n2 : μ12 209 = fa_setL (μ 209) w s v := by first | (rw [eμ12, fa_pm, b2 209 (by decide), show w = 2 by omega, fa_setL_2]) | (exfalso; omega)
                      have c1 : ∀ k : Int, k ≠ 0 → μ12 205 k = μ 205 k := fun k hk => by first | (rw [eμ12, pm_up_off (by decide)]; exact b1 k hk) | (exfalso; omega)
                      have c2 : ∀ r, r ≠ 205 → r ≠ 206 → r ≠ 209 → μ12 r = μ r := fun r h5 h6 h9 => by first | (rw [eμ12, pm_up_row h9]; exact b2 r h5) | (exfalso; omega)
                      refine pm_blk hK zmm131 [] 3 137 [(2, 205), (0, w), (0, s), (0, v), (0, 1)] [] (pm_up μ12 205 3 0) [sx_bit Wm 205 = true] rfl ⟨hb205, trivial⟩ ?_
                      obtain ⟨μ13, eμ13⟩ : ∃ μ', μ' = pm_up μ12 205 3 0 := ⟨_, rfl⟩
                      rw [← eμ13]
                      have hTμ13 : zTJ none μ13 := by rw [eμ13]; exact zT_upn hTμ12 zs205_3 rfl (i := 3) (by omega) (by omega) (by omega) (by omega)
                      refine pm_blk hK zmm131 [] 1 138 [(2, 205), (0, w), (0, s), (0, v), (0, 1)] [(0, 1)] μ13 [] rfl trivial ?_
                      first
                      | exact pm_zret rfl rfl (by first | exact Or.inl rfl | exact Or.inr rfl | omega) ⟨_, rfl, hTμ13, Or.inl ⟨by unfold fa_setP; omega, rfl, by rw [eμ13, pm_up_row (by decide)]; exact n1, by rw [eμ13, pm_up_row (by decide)]; exact n2, by rw [eμ13, pm_up_eq], fun k h0 h3 => by rw [eμ13, pm_up_ne h3]; exact c1 k h0, fun r h5 h6 h9 => by rw [eμ13, pm_up_row h5]; exact c2 r h5 h6 h9⟩⟩
                      | (exfalso; omega)
                  · have h41 : w = (1 : Int) := h41
                    exact absurd h41 h32
              · have h39 : (1 : Int) = (0 : Int) := h39
                exact absurd h39 (by decide)
      · have h32 : w = (1 : Int) := h32
        refine pm_blk hK zmm131 [] 2 35 [(2, 205), (0, w), (0, s), (0, v), (9, 0)] [(0, s), (2, 205)] μ1 [] rfl trivial ?_
        refine pm_call hK zmm131 (166, 0, 133, 1) zM133 (0, 0) [(2, 205), (0, s)] [] rfl rfl rfl rfl ⟨by omega, by rw [zn133]; omega⟩ (fs_isCustomer hK (s := s) ⟨Nat.le_refl _, Nat.le_refl _⟩) (fun st11 μc11 hp11 => ?_)
        obtain ⟨rfl, rfl⟩ := hp11
        refine pm_if hK zmm131 .eq 15 53 rfl rfl (fun h43 => ?_) (fun h43 => ?_)
        · have h43 : (if 0 ≤ s ∧ s < μ1 205 7 then 1 else 0 : Int) = (0 : Int) := h43
          have h43 := zif0 h43
          refine pm_blk hK zmm131 [] 2 55 [(2, 205), (0, w), (0, s), (0, v), (9, 0)] [(0, 2), (0, w)] μ1 [] rfl trivial ?_
          refine pm_icmp hK zmm131 .ne 26 81 rfl rfl (fun h44 => ?_) (fun h44 => ?_)
          · have h44 : w ≠ (2 : Int) := h44
            refine pm_blk hK zmm131 [] 3 86 [(2, 205), (0, w), (0, s), (0, v), (0, 0)] [(0, 0)] μ1 [] rfl trivial ?_
            refine pm_if hK zmm131 .ne 5 91 rfl rfl (fun h45 => ?_) (fun h45 => ?_)
            · have h45 : (0 : Int) ≠ (0 : Int) := h45
              exact absurd h45 (by decide)
            · have h45 : (0 : Int) = (0 : Int) := h45
              refine pm_blk hK zmm131 [] 1 90 [(2, 205), (0, w), (0, s), (0, v), (0, 0)] [(0, 0)] μ1 [] rfl trivial ?_
              exact pm_zret rfl rfl (by first | exact Or.inl rfl | exact Or.inr rfl | omega) ⟨_, rfl, hTμ1, Or.inr ⟨by unfold fa_setP; omega, rfl, b1, b2⟩⟩
          · have h44 : w = (2 : Int) := h44
            refine pm_blk hK zmm131 [] 2 60 [(2, 205), (0, w), (0, s), (0, v), (9, 0)] [(0, s), (2, 205)] μ1 [] rfl trivial ?_
            refine pm_call hK zmm131 (166, 0, 133, 1) zM133 (0, 0) [(2, 205), (0, s)] [] rfl rfl rfl rfl ⟨by omega, by rw [zn133]; omega⟩ (fs_isCustomer hK (s := s) ⟨Nat.le_refl _, Nat.le_refl _⟩) (fun st12 μc12 hp12 => ?_)
            obtain ⟨rfl, rfl⟩ := hp12
            refine pm_if hK zmm131 .eq 18 81 rfl rfl (fun h46 => ?_) (fun h46 => ?_)
            · have h46 : (if 0 ≤ s ∧ s < μ1 205 7 then 1 else 0 : Int) = (0 : Int) := h46
              have h46 := zif0 h46
              refine pm_blk hK zmm131 [] 3 86 [(2, 205), (0, w), (0, s), (0, v), (0, 0)] [(0, 0)] μ1 [] rfl trivial ?_
              refine pm_if hK zmm131 .ne 5 91 rfl rfl (fun h47 => ?_) (fun h47 => ?_)
              · have h47 : (0 : Int) ≠ (0 : Int) := h47
                exact absurd h47 (by decide)
              · have h47 : (0 : Int) = (0 : Int) := h47
                refine pm_blk hK zmm131 [] 1 90 [(2, 205), (0, w), (0, s), (0, v), (0, 0)] [(0, 0)] μ1 [] rfl trivial ?_
                exact pm_zret rfl rfl (by first | exact Or.inl rfl | exact Or.inr rfl | omega) ⟨_, rfl, hTμ1, Or.inr ⟨by unfold fa_setP; omega, rfl, b1, b2⟩⟩
            · have h46 : (if 0 ≤ s ∧ s < μ1 205 7 then 1 else 0 : Int) ≠ (0 : Int) := h46
              have h46 := zif1 h46
              exact absurd h46 h43
        · have h43 : (if 0 ≤ s ∧ s < μ1 205 7 then 1 else 0 : Int) ≠ (0 : Int) := h43
          have h43 := zif1 h43
          refine pm_blk hK zmm131 [] 4 47 [(2, 205), (0, w), (0, s), (0, v), (9, 0)] [(0, 9999), (0, 0), (0, v), (2, 205)] μ1 [] rfl trivial ?_
          refine pm_call hK zmm131 (158, 0, 129, 3) zM129 (0, 0) [(2, 205), (0, v), (0, 0), (0, 9999)] [] rfl rfl rfl rfl ⟨by omega, by rw [zn129]; omega⟩ (zh_isIn hK ⟨by omega, by omega⟩) (fun st13 μc13 hp13 => ?_)
          obtain ⟨rfl, rfl⟩ := hp13
          refine pm_if hK zmm131 .ne 27 77 rfl rfl (fun h48 => ?_) (fun h48 => ?_)
          · have h48 : (if 0 ≤ v ∧ v ≤ 9999 then 1 else 0 : Int) ≠ (0 : Int) := h48
            have h48 := zif1 h48
            refine pm_blk hK zmm131 [] 4 86 [(2, 205), (0, w), (0, s), (0, v), (0, 1)] [(0, 1)] μ1 [] rfl trivial ?_
            refine pm_if hK zmm131 .ne 5 91 rfl rfl (fun h49 => ?_) (fun h49 => ?_)
            · have h49 : (1 : Int) ≠ (0 : Int) := h49
              refine pm_blk hK zmm131 [] 1 92 [(2, 205), (0, w), (0, s), (0, v), (0, 1)] [(0, w)] μ1 [] rfl trivial ?_
              refine pm_if hK zmm131 .ne 13 105 rfl rfl (fun h50 => ?_) (fun h50 => ?_)
              · have h50 : w ≠ (0 : Int) := h50
                exact absurd h0 h50
              · have h50 : w = (0 : Int) := h50
                refine pm_blk hK zmm131 [] 7 105 [(2, 205), (0, w), (0, s), (0, v), (0, 1)] [] (pm_up μ1 206 (16 + s) v) [pm_in (16 + s), sx_bit Wm 206 = true, 0 ≤ 16 + s ∧ 16 + s < 160] rfl ⟨pm_in_mk (by omega) (by omega), hb206, ⟨by omega, by omega⟩, trivial⟩ ?_
                obtain ⟨μ14, eμ14⟩ : ∃ μ', μ' = pm_up μ1 206 (16 + s) v := ⟨_, rfl⟩
                rw [← eμ14]
                have hTμ14 : zTJ none μ14 := by rw [eμ14]; exact zT_upn hTμ1 zs206_4 rfl (i := 16 + s) (by omega) (by omega) (by omega) (by omega)
                have n1 : μ14 206 = fa_setN (μ 206) w s v := by first | (rw [eμ14, fa_pm, b2 206 (by decide), show w = 0 by omega, fa_setN_0]) | (exfalso; omega)
                have n2 : μ14 209 = fa_setL (μ 209) w s v := by first | (rw [eμ14, pm_up_row (by decide), b2 209 (by decide), show w = 0 by omega, fa_setL_0]) | (exfalso; omega)
                have c1 : ∀ k : Int, k ≠ 0 → μ14 205 k = μ 205 k := fun k hk => by first | (rw [eμ14, pm_up_off (by decide)]; exact b1 k hk) | (exfalso; omega)
                have c2 : ∀ r, r ≠ 205 → r ≠ 206 → r ≠ 209 → μ14 r = μ r := fun r h5 h6 h9 => by first | (rw [eμ14, pm_up_row h6]; exact b2 r h5) | (exfalso; omega)
                refine pm_blk hK zmm131 [] 2 107 [(2, 205), (0, w), (0, s), (0, v), (0, 1)] [(0, 1), (0, w)] μ14 [] rfl trivial ?_
                refine pm_icmp hK zmm131 .ne 13 120 rfl rfl (fun h51 => ?_) (fun h51 => ?_)
                · have h51 : w ≠ (1 : Int) := h51
                  exact absurd h32 h51
                · have h51 : w = (1 : Int) := h51
                  refine pm_blk hK zmm131 [] 7 120 [(2, 205), (0, w), (0, s), (0, v), (0, 1)] [] (pm_up μ14 206 (88 + s) v) [pm_in (88 + s), sx_bit Wm 206 = true, 0 ≤ 88 + s ∧ 88 + s < 160] rfl ⟨pm_in_mk (by omega) (by omega), hb206, ⟨by omega, by omega⟩, trivial⟩ ?_
                  obtain ⟨μ15, eμ15⟩ : ∃ μ', μ' = pm_up μ14 206 (88 + s) v := ⟨_, rfl⟩
                  rw [← eμ15]
                  have hTμ15 : zTJ none μ15 := by rw [eμ15]; exact zT_upn hTμ14 zs206_88 rfl (i := 88 + s) (by omega) (by omega) (by omega) (by omega)
                  have n1 : μ15 206 = fa_setN (μ 206) w s v := by first | (rw [eμ15, fa_pm, b2 206 (by decide), show w = 1 by omega, fa_setN_1]) | (exfalso; omega)
                  have n2 : μ15 209 = fa_setL (μ 209) w s v := by first | (rw [eμ15, pm_up_row (by decide), b2 209 (by decide), show w = 1 by omega, fa_setL_1]) | (exfalso; omega)
                  have c1 : ∀ k : Int, k ≠ 0 → μ15 205 k = μ 205 k := fun k hk => by first | (rw [eμ15, pm_up_off (by decide)]; exact b1 k hk) | (exfalso; omega)
                  have c2 : ∀ r, r ≠ 205 → r ≠ 206 → r ≠ 209 → μ15 r = μ r := fun r h5 h6 h9 => by first | (rw [eμ15, pm_up_row h6]; exact b2 r h5) | (exfalso; omega)
                  refine pm_blk hK zmm131 [] 2 122 [(2, 205), (0, w), (0, s), (0, v), (0, 1)] [(0, 2), (0, w)] μ15 [] rfl trivial ?_
                  refine pm_icmp hK zmm131 .ne 10 132 rfl rfl (fun h52 => ?_) (fun h52 => ?_)
                  · have h52 : w ≠ (2 : Int) := h52
                    refine pm_blk hK zmm131 [] 3 137 [(2, 205), (0, w), (0, s), (0, v), (0, 1)] [] (pm_up μ15 205 3 0) [sx_bit Wm 205 = true] rfl ⟨hb205, trivial⟩ ?_
                    obtain ⟨μ16, eμ16⟩ : ∃ μ', μ' = pm_up μ15 205 3 0 := ⟨_, rfl⟩
                    rw [← eμ16]
                    have hTμ16 : zTJ none μ16 := by rw [eμ16]; exact zT_upn hTμ15 zs205_3 rfl (i := 3) (by omega) (by omega) (by omega) (by omega)
                    refine pm_blk hK zmm131 [] 1 138 [(2, 205), (0, w), (0, s), (0, v), (0, 1)] [(0, 1)] μ16 [] rfl trivial ?_
                    first
                    | exact pm_zret rfl rfl (by first | exact Or.inl rfl | exact Or.inr rfl | omega) ⟨_, rfl, hTμ16, Or.inl ⟨by unfold fa_setP; omega, rfl, by rw [eμ16, pm_up_row (by decide)]; exact n1, by rw [eμ16, pm_up_row (by decide)]; exact n2, by rw [eμ16, pm_up_eq], fun k h0 h3 => by rw [eμ16, pm_up_ne h3]; exact c1 k h0, fun r h5 h6 h9 => by rw [eμ16, pm_up_row h5]; exact c2 r h5 h6 h9⟩⟩
                    | (exfalso; omega)
                  · have h52 : w = (2 : Int) := h52
                    refine pm_blk hK zmm131 [] 5 132 [(2, 205), (0, w), (0, s), (0, v), (0, 1)] [] (pm_up μ15 209 s v) [sx_bit Wm 209 = true, 0 ≤ s ∧ s < 18] rfl ⟨hb209, ⟨by omega, by omega⟩, trivial⟩ ?_
                    obtain ⟨μ17, eμ17⟩ : ∃ μ', μ' = pm_up μ15 209 s v := ⟨_, rfl⟩
                    rw [← eμ17]
                    have hTμ17 : zTJ none μ17 := by rw [eμ17]; exact zT_upn hTμ15 zs209_0 rfl (i := s) (by omega) (by omega) (by omega) (by omega)
                    have n1 : μ17 206 = fa_setN (μ 206) w s v := by first | (rw [eμ17, pm_up_row (by decide), b2 206 (by decide), show w = 2 by omega, fa_setN_2]) | (exfalso; omega)
                    have n2 : μ17 209 = fa_setL (μ 209) w s v := by first | (rw [eμ17, fa_pm, b2 209 (by decide), show w = 2 by omega, fa_setL_2]) | (exfalso; omega)
                    have c1 : ∀ k : Int, k ≠ 0 → μ17 205 k = μ 205 k := fun k hk => by first | (rw [eμ17, pm_up_off (by decide)]; exact b1 k hk) | (exfalso; omega)
                    have c2 : ∀ r, r ≠ 205 → r ≠ 206 → r ≠ 209 → μ17 r = μ r := fun r h5 h6 h9 => by first | (rw [eμ17, pm_up_row h9]; exact b2 r h5) | (exfalso; omega)
                    refine pm_blk hK zmm131 [] 3 137 [(2, 205), (0, w), (0, s), (0, v), (0, 1)] [] (pm_up μ17 205 3 0) [sx_bit Wm 205 = true] rfl ⟨hb205, trivial⟩ ?_
                    obtain ⟨μ18, eμ18⟩ : ∃ μ', μ' = pm_up μ17 205 3 0 := ⟨_, rfl⟩
                    rw [← eμ18]
                    have hTμ18 : zTJ none μ18 := by rw [eμ18]; exact zT_upn hTμ17 zs205_3 rfl (i := 3) (by omega) (by omega) (by omega) (by omega)
                    refine pm_blk hK zmm131 [] 1 138 [(2, 205), (0, w), (0, s), (0, v), (0, 1)] [(0, 1)] μ18 [] rfl trivial ?_
                    first
                    | exact pm_zret rfl rfl (by first | exact Or.inl rfl | exact Or.inr rfl | omega) ⟨_, rfl, hTμ18, Or.inl ⟨by unfold fa_setP; omega, rfl, by rw [eμ18, pm_up_row (by decide)]; exact n1, by rw [eμ18, pm_up_row (by decide)]; exact n2, by rw [eμ18, pm_up_eq], fun k h0 h3 => by rw [eμ18, pm_up_ne h3]; exact c1 k h0, fun r h5 h6 h9 => by rw [eμ18, pm_up_row h5]; exact c2 r h5 h6 h9⟩⟩
                    | (exfalso; omega)
            · have h49 : (1 : Int) = (0 : Int) := h49
              exact absurd h49 (by decide)
          · have h48 : (if 0 ≤ v ∧ v ≤ 9999 then 1 else 0 : Int) = (0 : Int) := h48
            have h48 := zif0 h48
            refine pm_blk hK zmm131 [] 2 55 [(2, 205), (0, w), (0, s), (0, v), (9, 0)] [(0, 2), (0, w)] μ1 [] rfl trivial ?_
            refine pm_icmp hK zmm131 .ne 26 81 rfl rfl (fun h53 => ?_) (fun h53 => ?_)
            · have h53 : w ≠ (2 : Int) := h53
              refine pm_blk hK zmm131 [] 3 86 [(2, 205), (0, w), (0, s), (0, v), (0, 0)] [(0, 0)] μ1 [] rfl trivial ?_
              refine pm_if hK zmm131 .ne 5 91 rfl rfl (fun h54 => ?_) (fun h54 => ?_)
              · have h54 : (0 : Int) ≠ (0 : Int) := h54
                exact absurd h54 (by decide)
              · have h54 : (0 : Int) = (0 : Int) := h54
                refine pm_blk hK zmm131 [] 1 90 [(2, 205), (0, w), (0, s), (0, v), (0, 0)] [(0, 0)] μ1 [] rfl trivial ?_
                exact pm_zret rfl rfl (by first | exact Or.inl rfl | exact Or.inr rfl | omega) ⟨_, rfl, hTμ1, Or.inr ⟨by unfold fa_setP; omega, rfl, b1, b2⟩⟩
            · have h53 : w = (2 : Int) := h53
              refine pm_blk hK zmm131 [] 2 60 [(2, 205), (0, w), (0, s), (0, v), (9, 0)] [(0, s), (2, 205)] μ1 [] rfl trivial ?_
              refine pm_call hK zmm131 (166, 0, 133, 1) zM133 (0, 0) [(2, 205), (0, s)] [] rfl rfl rfl rfl ⟨by omega, by rw [zn133]; omega⟩ (fs_isCustomer hK (s := s) ⟨Nat.le_refl _, Nat.le_refl _⟩) (fun st14 μc14 hp14 => ?_)
              obtain ⟨rfl, rfl⟩ := hp14
              refine pm_if hK zmm131 .eq 18 81 rfl rfl (fun h55 => ?_) (fun h55 => ?_)
              · have h55 : (if 0 ≤ s ∧ s < μ1 205 7 then 1 else 0 : Int) = (0 : Int) := h55
                have h55 := zif0 h55
                exact absurd h43 h55
              · have h55 : (if 0 ≤ s ∧ s < μ1 205 7 then 1 else 0 : Int) ≠ (0 : Int) := h55
                have h55 := zif1 h55
                refine pm_blk hK zmm131 [] 4 71 [(2, 205), (0, w), (0, s), (0, v), (9, 0)] [(0, 9), (0, 0), (0, v), (2, 205)] μ1 [] rfl trivial ?_
                refine pm_call hK zmm131 (158, 0, 129, 3) zM129 (0, 0) [(2, 205), (0, v), (0, 0), (0, 9)] [] rfl rfl rfl rfl ⟨by omega, by rw [zn129]; omega⟩ (zh_isIn hK ⟨by omega, by omega⟩) (fun st15 μc15 hp15 => ?_)
                obtain ⟨rfl, rfl⟩ := hp15
                refine pm_if hK zmm131 .eq 7 81 rfl rfl (fun h56 => ?_) (fun h56 => ?_)
                · have h56 : (if 0 ≤ v ∧ v ≤ 9 then 1 else 0 : Int) = (0 : Int) := h56
                  have h56 := zif0 h56
                  refine pm_blk hK zmm131 [] 3 86 [(2, 205), (0, w), (0, s), (0, v), (0, 0)] [(0, 0)] μ1 [] rfl trivial ?_
                  refine pm_if hK zmm131 .ne 5 91 rfl rfl (fun h57 => ?_) (fun h57 => ?_)
                  · have h57 : (0 : Int) ≠ (0 : Int) := h57
                    exact absurd h57 (by decide)
                  · have h57 : (0 : Int) = (0 : Int) := h57
                    refine pm_blk hK zmm131 [] 1 90 [(2, 205), (0, w), (0, s), (0, v), (0, 0)] [(0, 0)] μ1 [] rfl trivial ?_
                    exact pm_zret rfl rfl (by first | exact Or.inl rfl | exact Or.inr rfl | omega) ⟨_, rfl, hTμ1, Or.inr ⟨by unfold fa_setP; omega, rfl, b1, b2⟩⟩
                · have h56 : (if 0 ≤ v ∧ v ≤ 9 then 1 else 0 : Int) ≠ (0 : Int) := h56
                  have h56 := zif1 h56
                  refine pm_blk hK zmm131 [] 4 86 [(2, 205), (0, w), (0, s), (0, v), (0, 1)] [(0, 1)] μ1 [] rfl trivial ?_
                  refine pm_if hK zmm131 .ne 5 91 rfl rfl (fun h58 => ?_) (fun h58 => ?_)
                  · have h58 : (1 : Int) ≠ (0 : Int) := h58
                    refine pm_blk hK zmm131 [] 1 92 [(2, 205), (0, w), (0, s), (0, v), (0, 1)] [(0, w)] μ1 [] rfl trivial ?_
                    refine pm_if hK zmm131 .ne 13 105 rfl rfl (fun h59 => ?_) (fun h59 => ?_)
                    · have h59 : w ≠ (0 : Int) := h59
                      exact absurd h0 h59
                    · have h59 : w = (0 : Int) := h59
                      refine pm_blk hK zmm131 [] 7 105 [(2, 205), (0, w), (0, s), (0, v), (0, 1)] [] (pm_up μ1 206 (16 + s) v) [pm_in (16 + s), sx_bit Wm 206 = true, 0 ≤ 16 + s ∧ 16 + s < 160] rfl ⟨pm_in_mk (by omega) (by omega), hb206, ⟨by omega, by omega⟩, trivial⟩ ?_
                      obtain ⟨μ19, eμ19⟩ : ∃ μ', μ' = pm_up μ1 206 (16 + s) v := ⟨_, rfl⟩
                      rw [← eμ19]
                      have hTμ19 : zTJ none μ19 := by rw [eμ19]; exact zT_upn hTμ1 zs206_4 rfl (i := 16 + s) (by omega) (by omega) (by omega) (by omega)
                      have n1 : μ19 206 = fa_setN (μ 206) w s v := by first | (rw [eμ19, fa_pm, b2 206 (by decide), show w = 0 by omega, fa_setN_0]) | (exfalso; omega)
                      have n2 : μ19 209 = fa_setL (μ 209) w s v := by first | (rw [eμ19, pm_up_row (by decide), b2 209 (by decide), show w = 0 by omega, fa_setL_0]) | (exfalso; omega)
                      have c1 : ∀ k : Int, k ≠ 0 → μ19 205 k = μ 205 k := fun k hk => by first | (rw [eμ19, pm_up_off (by decide)]; exact b1 k hk) | (exfalso; omega)
                      have c2 : ∀ r, r ≠ 205 → r ≠ 206 → r ≠ 209 → μ19 r = μ r := fun r h5 h6 h9 => by first | (rw [eμ19, pm_up_row h6]; exact b2 r h5) | (exfalso; omega)
                      refine pm_blk hK zmm131 [] 2 107 [(2, 205), (0, w), (0, s), (0, v), (0, 1)] [(0, 1), (0, w)] μ19 [] rfl trivial ?_
                      refine pm_icmp hK zmm131 .ne 13 120 rfl rfl (fun h60 => ?_) (fun h60 => ?_)
                      · have h60 : w ≠ (1 : Int) := h60
                        exact absurd h32 h60
                      · have h60 : w = (1 : Int) := h60
                        refine pm_blk hK zmm131 [] 7 120 [(2, 205), (0, w), (0, s), (0, v), (0, 1)] [] (pm_up μ19 206 (88 + s) v) [pm_in (88 + s), sx_bit Wm 206 = true, 0 ≤ 88 + s ∧ 88 + s < 160] rfl ⟨pm_in_mk (by omega) (by omega), hb206, ⟨by omega, by omega⟩, trivial⟩ ?_
                        obtain ⟨μ20, eμ20⟩ : ∃ μ', μ' = pm_up μ19 206 (88 + s) v := ⟨_, rfl⟩
                        rw [← eμ20]
                        have hTμ20 : zTJ none μ20 := by rw [eμ20]; exact zT_upn hTμ19 zs206_88 rfl (i := 88 + s) (by omega) (by omega) (by omega) (by omega)
                        have n1 : μ20 206 = fa_setN (μ 206) w s v := by first | (rw [eμ20, fa_pm, b2 206 (by decide), show w = 1 by omega, fa_setN_1]) | (exfalso; omega)
                        have n2 : μ20 209 = fa_setL (μ 209) w s v := by first | (rw [eμ20, pm_up_row (by decide), b2 209 (by decide), show w = 1 by omega, fa_setL_1]) | (exfalso; omega)
                        have c1 : ∀ k : Int, k ≠ 0 → μ20 205 k = μ 205 k := fun k hk => by first | (rw [eμ20, pm_up_off (by decide)]; exact b1 k hk) | (exfalso; omega)
                        have c2 : ∀ r, r ≠ 205 → r ≠ 206 → r ≠ 209 → μ20 r = μ r := fun r h5 h6 h9 => by first | (rw [eμ20, pm_up_row h6]; exact b2 r h5) | (exfalso; omega)
                        refine pm_blk hK zmm131 [] 2 122 [(2, 205), (0, w), (0, s), (0, v), (0, 1)] [(0, 2), (0, w)] μ20 [] rfl trivial ?_
                        refine pm_icmp hK zmm131 .ne 10 132 rfl rfl (fun h61 => ?_) (fun h61 => ?_)
                        · have h61 : w ≠ (2 : Int) := h61
                          exact absurd h53 h61
                        · have h61 : w = (2 : Int) := h61
                          refine pm_blk hK zmm131 [] 5 132 [(2, 205), (0, w), (0, s), (0, v), (0, 1)] [] (pm_up μ20 209 s v) [sx_bit Wm 209 = true, 0 ≤ s ∧ s < 18] rfl ⟨hb209, ⟨by omega, by omega⟩, trivial⟩ ?_
                          obtain ⟨μ21, eμ21⟩ : ∃ μ', μ' = pm_up μ20 209 s v := ⟨_, rfl⟩
                          rw [← eμ21]
                          have hTμ21 : zTJ none μ21 := by rw [eμ21]; exact zT_upn hTμ20 zs209_0 rfl (i := s) (by omega) (by omega) (by omega) (by omega)
                          have n1 : μ21 206 = fa_setN (μ 206) w s v := by first | (rw [eμ21, pm_up_row (by decide), b2 206 (by decide), show w = 2 by omega, fa_setN_2]) | (exfalso; omega)
                          have n2 : μ21 209 = fa_setL (μ 209) w s v := by first | (rw [eμ21, fa_pm, b2 209 (by decide), show w = 2 by omega, fa_setL_2]) | (exfalso; omega)
                          have c1 : ∀ k : Int, k ≠ 0 → μ21 205 k = μ 205 k := fun k hk => by first | (rw [eμ21, pm_up_off (by decide)]; exact b1 k hk) | (exfalso; omega)
                          have c2 : ∀ r, r ≠ 205 → r ≠ 206 → r ≠ 209 → μ21 r = μ r := fun r h5 h6 h9 => by first | (rw [eμ21, pm_up_row h9]; exact b2 r h5) | (exfalso; omega)
                          refine pm_blk hK zmm131 [] 3 137 [(2, 205), (0, w), (0, s), (0, v), (0, 1)] [] (pm_up μ21 205 3 0) [sx_bit Wm 205 = true] rfl ⟨hb205, trivial⟩ ?_
                          obtain ⟨μ22, eμ22⟩ : ∃ μ', μ' = pm_up μ21 205 3 0 := ⟨_, rfl⟩
                          rw [← eμ22]
                          have hTμ22 : zTJ none μ22 := by rw [eμ22]; exact zT_upn hTμ21 zs205_3 rfl (i := 3) (by omega) (by omega) (by omega) (by omega)
                          refine pm_blk hK zmm131 [] 1 138 [(2, 205), (0, w), (0, s), (0, v), (0, 1)] [(0, 1)] μ22 [] rfl trivial ?_
                          first
                          | exact pm_zret rfl rfl (by first | exact Or.inl rfl | exact Or.inr rfl | omega) ⟨_, rfl, hTμ22, Or.inl ⟨by unfold fa_setP; omega, rfl, by rw [eμ22, pm_up_row (by decide)]; exact n1, by rw [eμ22, pm_up_row (by decide)]; exact n2, by rw [eμ22, pm_up_eq], fun k h0 h3 => by rw [eμ22, pm_up_ne h3]; exact c1 k h0, fun r h5 h6 h9 => by rw [eμ22, pm_up_row h5]; exact c2 r h5 h6 h9⟩⟩
                          | (exfalso; omega)
                  · have h58 : (1 : Int) = (0 : Int) := h58
                    exact absurd h58 (by decide)
    · have h31 : (if 0 ≤ s ∧ s < μ1 205 6 then 1 else 0 : Int) ≠ (0 : Int) := h31
      have h31 := zif1 h31
      refine pm_blk hK zmm131 [] 4 22 [(2, 205), (0, w), (0, s), (0, v), (9, 0)] [(0, 99), (0, 1), (0, v), (2, 205)] μ1 [] rfl trivial ?_
      refine pm_call hK zmm131 (158, 0, 129, 3) zM129 (0, 0) [(2, 205), (0, v), (0, 1), (0, 99)] [] rfl rfl rfl rfl ⟨by omega, by rw [zn129]; omega⟩ (zh_isIn hK ⟨by omega, by omega⟩) (fun st16 μc16 hp16 => ?_)
      obtain ⟨rfl, rfl⟩ := hp16
      refine pm_if hK zmm131 .ne 52 77 rfl rfl (fun h62 => ?_) (fun h62 => ?_)
      · have h62 : (if 1 ≤ v ∧ v ≤ 99 then 1 else 0 : Int) ≠ (0 : Int) := h62
        have h62 := zif1 h62
        refine pm_blk hK zmm131 [] 4 86 [(2, 205), (0, w), (0, s), (0, v), (0, 1)] [(0, 1)] μ1 [] rfl trivial ?_
        refine pm_if hK zmm131 .ne 5 91 rfl rfl (fun h63 => ?_) (fun h63 => ?_)
        · have h63 : (1 : Int) ≠ (0 : Int) := h63
          refine pm_blk hK zmm131 [] 1 92 [(2, 205), (0, w), (0, s), (0, v), (0, 1)] [(0, w)] μ1 [] rfl trivial ?_
          refine pm_if hK zmm131 .ne 13 105 rfl rfl (fun h64 => ?_) (fun h64 => ?_)
          · have h64 : w ≠ (0 : Int) := h64
            exact absurd h0 h64
          · have h64 : w = (0 : Int) := h64
            refine pm_blk hK zmm131 [] 7 105 [(2, 205), (0, w), (0, s), (0, v), (0, 1)] [] (pm_up μ1 206 (16 + s) v) [pm_in (16 + s), sx_bit Wm 206 = true, 0 ≤ 16 + s ∧ 16 + s < 160] rfl ⟨pm_in_mk (by omega) (by omega), hb206, ⟨by omega, by omega⟩, trivial⟩ ?_
            obtain ⟨μ23, eμ23⟩ : ∃ μ', μ' = pm_up μ1 206 (16 + s) v := ⟨_, rfl⟩
            rw [← eμ23]
            have hTμ23 : zTJ none μ23 := by rw [eμ23]; exact zT_upn hTμ1 zs206_4 rfl (i := 16 + s) (by omega) (by omega) (by omega) (by omega)
            have n1 : μ23 206 = fa_setN (μ 206) w s v := by first | (rw [eμ23, fa_pm, b2 206 (by decide), show w = 0 by omega, fa_setN_0]) | (exfalso; omega)
            have n2 : μ23 209 = fa_setL (μ 209) w s v := by first | (rw [eμ23, pm_up_row (by decide), b2 209 (by decide), show w = 0 by omega, fa_setL_0]) | (exfalso; omega)
            have c1 : ∀ k : Int, k ≠ 0 → μ23 205 k = μ 205 k := fun k hk => by first | (rw [eμ23, pm_up_off (by decide)]; exact b1 k hk) | (exfalso; omega)
            have c2 : ∀ r, r ≠ 205 → r ≠ 206 → r ≠ 209 → μ23 r = μ r := fun r h5 h6 h9 => by first | (rw [eμ23, pm_up_row h6]; exact b2 r h5) | (exfalso; omega)
            refine pm_blk hK zmm131 [] 2 107 [(2, 205), (0, w), (0, s), (0, v), (0, 1)] [(0, 1), (0, w)] μ23 [] rfl trivial ?_
            refine pm_icmp hK zmm131 .ne 13 120 rfl rfl (fun h65 => ?_) (fun h65 => ?_)
            · have h65 : w ≠ (1 : Int) := h65
              refine pm_blk hK zmm131 [] 2 122 [(2, 205), (0, w), (0, s), (0, v), (0, 1)] [(0, 2), (0, w)] μ23 [] rfl trivial ?_
              refine pm_icmp hK zmm131 .ne 10 132 rfl rfl (fun h66 => ?_) (fun h66 => ?_)
              · have h66 : w ≠ (2 : Int) := h66
                refine pm_blk hK zmm131 [] 3 137 [(2, 205), (0, w), (0, s), (0, v), (0, 1)] [] (pm_up μ23 205 3 0) [sx_bit Wm 205 = true] rfl ⟨hb205, trivial⟩ ?_
                obtain ⟨μ24, eμ24⟩ : ∃ μ', μ' = pm_up μ23 205 3 0 := ⟨_, rfl⟩
                rw [← eμ24]
                have hTμ24 : zTJ none μ24 := by rw [eμ24]; exact zT_upn hTμ23 zs205_3 rfl (i := 3) (by omega) (by omega) (by omega) (by omega)
                refine pm_blk hK zmm131 [] 1 138 [(2, 205), (0, w), (0, s), (0, v), (0, 1)] [(0, 1)] μ24 [] rfl trivial ?_
                first
                | exact pm_zret rfl rfl (by first | exact Or.inl rfl | exact Or.inr rfl | omega) ⟨_, rfl, hTμ24, Or.inl ⟨by unfold fa_setP; omega, rfl, by rw [eμ24, pm_up_row (by decide)]; exact n1, by rw [eμ24, pm_up_row (by decide)]; exact n2, by rw [eμ24, pm_up_eq], fun k h0 h3 => by rw [eμ24, pm_up_ne h3]; exact c1 k h0, fun r h5 h6 h9 => by rw [eμ24, pm_up_row h5]; exact c2 r h5 h6 h9⟩⟩
                | (exfalso; omega)
              · have h66 : w = (2 : Int) := h66
                refine pm_blk hK zmm131 [] 5 132 [(2, 205), (0, w), (0, s), (0, v), (0, 1)] [] (pm_up μ23 209 s v) [sx_bit Wm 209 = true, 0 ≤ s ∧ s < 18] rfl ⟨hb209, ⟨by omega, by omega⟩, trivial⟩ ?_
                obtain ⟨μ25, eμ25⟩ : ∃ μ', μ' = pm_up μ23 209 s v := ⟨_, rfl⟩
                rw [← eμ25]
                have hTμ25 : zTJ none μ25 := by rw [eμ25]; exact zT_upn hTμ23 zs209_0 rfl (i := s) (by omega) (by omega) (by omega) (by omega)
                have n1 : μ25 206 = fa_setN (μ 206) w s v := by first | (rw [eμ25, pm_up_row (by decide), b2 206 (by decide), show w = 2 by omega, fa_setN_2]) | (exfalso; omega)
                have n2 : μ25 209 = fa_setL (μ 209) w s v := by first | (rw [eμ25, fa_pm, b2 209 (by decide), show w = 2 by omega, fa_setL_2]) | (exfalso; omega)
                have c1 : ∀ k : Int, k ≠ 0 → μ25 205 k = μ 205 k := fun k hk => by first | (rw [eμ25, pm_up_off (by decide)]; exact b1 k hk) | (exfalso; omega)
                have c2 : ∀ r, r ≠ 205 → r ≠ 206 → r ≠ 209 → μ25 r = μ r := fun r h5 h6 h9 => by first | (rw [eμ25, pm_up_row h9]; exact b2 r h5) | (exfalso; omega)
                refine pm_blk hK zmm131 [] 3 137 [(2, 205), (0, w), (0, s), (0, v), (0, 1)] [] (pm_up μ25 205 3 0) [sx_bit Wm 205 = true] rfl ⟨hb205, trivial⟩ ?_
                obtain ⟨μ26, eμ26⟩ : ∃ μ', μ' = pm_up μ25 205 3 0 := ⟨_, rfl⟩
                rw [← eμ26]
                have hTμ26 : zTJ none μ26 := by rw [eμ26]; exact zT_upn hTμ25 zs205_3 rfl (i := 3) (by omega) (by omega) (by omega) (by omega)
                refine pm_blk hK zmm131 [] 1 138 [(2, 205), (0, w), (0, s), (0, v), (0, 1)] [(0, 1)] μ26 [] rfl trivial ?_
                first
                | exact pm_zret rfl rfl (by first | exact Or.inl rfl | exact Or.inr rfl | omega) ⟨_, rfl, hTμ26, Or.inl ⟨by unfold fa_setP; omega, rfl, by rw [eμ26, pm_up_row (by decide)]; exact n1, by rw [eμ26, pm_up_row (by decide)]; exact n2, by rw [eμ26, pm_up_eq], fun k h0 h3 => by rw [eμ26, pm_up_ne h3]; exact c1 k h0, fun r h5 h6 h9 => by rw [eμ26, pm_up_row h5]; exact c2 r h5 h6 h9⟩⟩
                | (exfalso; omega)
            · have h65 : w = (1 : Int) := h65
              refine pm_blk hK zmm131 [] 7 120 [(2, 205), (0, w), (0, s), (0, v), (0, 1)] [] (pm_up μ23 206 (88 + s) v) [pm_in (88 + s), sx_bit Wm 206 = true, 0 ≤ 88 + s ∧ 88 + s < 160] rfl ⟨pm_in_mk (by omega) (by omega), hb206, ⟨by omega, by omega⟩, trivial⟩ ?_
              obtain ⟨μ27, eμ27⟩ : ∃ μ', μ' = pm_up μ23 206 (88 + s) v := ⟨_, rfl⟩
              rw [← eμ27]
              have hTμ27 : zTJ none μ27 := by rw [eμ27]; exact zT_upn hTμ23 zs206_88 rfl (i := 88 + s) (by omega) (by omega) (by omega) (by omega)
              have n1 : μ27 206 = fa_setN (μ 206) w s v := by first | (rw [eμ27, fa_pm, b2 206 (by decide), show w = 1 by omega, fa_setN_1]) | (exfalso; omega)
              have n2 : μ27 209 = fa_setL (μ 209) w s v := by first | (rw [eμ27, pm_up_row (by decide), b2 209 (by decide), show w = 1 by omega, fa_setL_1]) | (exfalso; omega)
              have c1 : ∀ k : Int, k ≠ 0 → μ27 205 k = μ 205 k := fun k hk => by first | (rw [eμ27, pm_up_off (by decide)]; exact b1 k hk) | (exfalso; omega)
              have c2 : ∀ r, r ≠ 205 → r ≠ 206 → r ≠ 209 → μ27 r = μ r := fun r h5 h6 h9 => by first | (rw [eμ27, pm_up_row h6]; exact b2 r h5) | (exfalso; omega)
              refine pm_blk hK zmm131 [] 2 122 [(2, 205), (0, w), (0, s), (0, v), (0, 1)] [(0, 2), (0, w)] μ27 [] rfl trivial ?_
              refine pm_icmp hK zmm131 .ne 10 132 rfl rfl (fun h67 => ?_) (fun h67 => ?_)
              · have h67 : w ≠ (2 : Int) := h67
                refine pm_blk hK zmm131 [] 3 137 [(2, 205), (0, w), (0, s), (0, v), (0, 1)] [] (pm_up μ27 205 3 0) [sx_bit Wm 205 = true] rfl ⟨hb205, trivial⟩ ?_
                obtain ⟨μ28, eμ28⟩ : ∃ μ', μ' = pm_up μ27 205 3 0 := ⟨_, rfl⟩
                rw [← eμ28]
                have hTμ28 : zTJ none μ28 := by rw [eμ28]; exact zT_upn hTμ27 zs205_3 rfl (i := 3) (by omega) (by omega) (by omega) (by omega)
                refine pm_blk hK zmm131 [] 1 138 [(2, 205), (0, w), (0, s), (0, v), (0, 1)] [(0, 1)] μ28 [] rfl trivial ?_
                first
                | exact pm_zret rfl rfl (by first | exact Or.inl rfl | exact Or.inr rfl | omega) ⟨_, rfl, hTμ28, Or.inl ⟨by unfold fa_setP; omega, rfl, by rw [eμ28, pm_up_row (by decide)]; exact n1, by rw [eμ28, pm_up_row (by decide)]; exact n2, by rw [eμ28, pm_up_eq], fun k h0 h3 => by rw [eμ28, pm_up_ne h3]; exact c1 k h0, fun r h5 h6 h9 => by rw [eμ28, pm_up_row h5]; exact c2 r h5 h6 h9⟩⟩
                | (exfalso; omega)
              · have h67 : w = (2 : Int) := h67
                refine pm_blk hK zmm131 [] 5 132 [(2, 205), (0, w), (0, s), (0, v), (0, 1)] [] (pm_up μ27 209 s v) [sx_bit Wm 209 = true, 0 ≤ s ∧ s < 18] rfl ⟨hb209, ⟨by omega, by omega⟩, trivial⟩ ?_
                obtain ⟨μ29, eμ29⟩ : ∃ μ', μ' = pm_up μ27 209 s v := ⟨_, rfl⟩
                rw [← eμ29]
                have hTμ29 : zTJ none μ29 := by rw [eμ29]; exact zT_upn hTμ27 zs209_0 rfl (i := s) (by omega) (by omega) (by omega) (by omega)
                have n1 : μ29 206 = fa_setN (μ 206) w s v := by first | (rw [eμ29, pm_up_row (by decide), b2 206 (by decide), show w = 2 by omega, fa_setN_2]) | (exfalso; omega)
                have n2 : μ29 209 = fa_setL (μ 209) w s v := by first | (rw [eμ29, fa_pm, b2 209 (by decide), show w = 2 by omega, fa_setL_2]) | (exfalso; omega)
                have c1 : ∀ k : Int, k ≠ 0 → μ29 205 k = μ 205 k := fun k hk => by first | (rw [eμ29, pm_up_off (by decide)]; exact b1 k hk) | (exfalso; omega)
                have c2 : ∀ r, r ≠ 205 → r ≠ 206 → r ≠ 209 → μ29 r = μ r := fun r h5 h6 h9 => by first | (rw [eμ29, pm_up_row h9]; exact b2 r h5) | (exfalso; omega)
                refine pm_blk hK zmm131 [] 3 137 [(2, 205), (0, w), (0, s), (0, v), (0, 1)] [] (pm_up μ29 205 3 0) [sx_bit Wm 205 = true] rfl ⟨hb205, trivial⟩ ?_
                obtain ⟨μ30, eμ30⟩ : ∃ μ', μ' = pm_up μ29 205 3 0 := ⟨_, rfl⟩
                rw [← eμ30]
                have hTμ30 : zTJ none μ30 := by rw [eμ30]; exact zT_upn hTμ29 zs205_3 rfl (i := 3) (by omega) (by omega) (by omega) (by omega)
                refine pm_blk hK zmm131 [] 1 138 [(2, 205), (0, w), (0, s), (0, v), (0, 1)] [(0, 1)] μ30 [] rfl trivial ?_
                first
                | exact pm_zret rfl rfl (by first | exact Or.inl rfl | exact Or.inr rfl | omega) ⟨_, rfl, hTμ30, Or.inl ⟨by unfold fa_setP; omega, rfl, by rw [eμ30, pm_up_row (by decide)]; exact n1, by rw [eμ30, pm_up_row (by decide)]; exact n2, by rw [eμ30, pm_up_eq], fun k h0 h3 => by rw [eμ30, pm_up_ne h3]; exact c1 k h0, fun r h5 h6 h9 => by rw [eμ30, pm_up_row h5]; exact c2 r h5 h6 h9⟩⟩
                | (exfalso; omega)
        · have h63 : (1 : Int) = (0 : Int) := h63
          exact absurd h63 (by decide)
      · have h62 : (if 1 ≤ v ∧ v ≤ 99 then 1 else 0 : Int) = (0 : Int) := h62
        have h62 := zif0 h62
        refine pm_blk hK zmm131 [] 2 30 [(2, 205), (0, w), (0, s), (0, v), (9, 0)] [(0, 1), (0, w)] μ1 [] rfl trivial ?_
        refine pm_icmp hK zmm131 .ne 23 53 rfl rfl (fun h68 => ?_) (fun h68 => ?_)
        · have h68 : w ≠ (1 : Int) := h68
          refine pm_blk hK zmm131 [] 2 55 [(2, 205), (0, w), (0, s), (0, v), (9, 0)] [(0, 2), (0, w)] μ1 [] rfl trivial ?_
          refine pm_icmp hK zmm131 .ne 26 81 rfl rfl (fun h69 => ?_) (fun h69 => ?_)
          · have h69 : w ≠ (2 : Int) := h69
            refine pm_blk hK zmm131 [] 3 86 [(2, 205), (0, w), (0, s), (0, v), (0, 0)] [(0, 0)] μ1 [] rfl trivial ?_
            refine pm_if hK zmm131 .ne 5 91 rfl rfl (fun h70 => ?_) (fun h70 => ?_)
            · have h70 : (0 : Int) ≠ (0 : Int) := h70
              exact absurd h70 (by decide)
            · have h70 : (0 : Int) = (0 : Int) := h70
              refine pm_blk hK zmm131 [] 1 90 [(2, 205), (0, w), (0, s), (0, v), (0, 0)] [(0, 0)] μ1 [] rfl trivial ?_
              exact pm_zret rfl rfl (by first | exact Or.inl rfl | exact Or.inr rfl | omega) ⟨_, rfl, hTμ1, Or.inr ⟨by unfold fa_setP; omega, rfl, b1, b2⟩⟩
          · have h69 : w = (2 : Int) := h69
            refine pm_blk hK zmm131 [] 2 60 [(2, 205), (0, w), (0, s), (0, v), (9, 0)] [(0, s), (2, 205)] μ1 [] rfl trivial ?_
            refine pm_call hK zmm131 (166, 0, 133, 1) zM133 (0, 0) [(2, 205), (0, s)] [] rfl rfl rfl rfl ⟨by omega, by rw [zn133]; omega⟩ (fs_isCustomer hK (s := s) ⟨Nat.le_refl _, Nat.le_refl _⟩) (fun st17 μc17 hp17 => ?_)
            obtain ⟨rfl, rfl⟩ := hp17
            refine pm_if hK zmm131 .eq 18 81 rfl rfl (fun h71 => ?_) (fun h71 => ?_)
            · have h71 : (if 0 ≤ s ∧ s < μ1 205 7 then 1 else 0 : Int) = (0 : Int) := h71
              have h71 := zif0 h71
              refine pm_blk hK zmm131 [] 3 86 [(2, 205), (0, w), (0, s), (0, v), (0, 0)] [(0, 0)] μ1 [] rfl trivial ?_
              refine pm_if hK zmm131 .ne 5 91 rfl rfl (fun h72 => ?_) (fun h72 => ?_)
              · have h72 : (0 : Int) ≠ (0 : Int) := h72
                exact absurd h72 (by decide)
              · have h72 : (0 : Int) = (0 : Int) := h72
                refine pm_blk hK zmm131 [] 1 90 [(2, 205), (0, w), (0, s), (0, v), (0, 0)] [(0, 0)] μ1 [] rfl trivial ?_
                exact pm_zret rfl rfl (by first | exact Or.inl rfl | exact Or.inr rfl | omega) ⟨_, rfl, hTμ1, Or.inr ⟨by unfold fa_setP; omega, rfl, b1, b2⟩⟩
            · have h71 : (if 0 ≤ s ∧ s < μ1 205 7 then 1 else 0 : Int) ≠ (0 : Int) := h71
              have h71 := zif1 h71
              refine pm_blk hK zmm131 [] 4 71 [(2, 205), (0, w), (0, s), (0, v), (9, 0)] [(0, 9), (0, 0), (0, v), (2, 205)] μ1 [] rfl trivial ?_
              refine pm_call hK zmm131 (158, 0, 129, 3) zM129 (0, 0) [(2, 205), (0, v), (0, 0), (0, 9)] [] rfl rfl rfl rfl ⟨by omega, by rw [zn129]; omega⟩ (zh_isIn hK ⟨by omega, by omega⟩) (fun st18 μc18 hp18 => ?_)
              obtain ⟨rfl, rfl⟩ := hp18
              refine pm_if hK zmm131 .eq 7 81 rfl rfl (fun h73 => ?_) (fun h73 => ?_)
              · have h73 : (if 0 ≤ v ∧ v ≤ 9 then 1 else 0 : Int) = (0 : Int) := h73
                have h73 := zif0 h73
                refine pm_blk hK zmm131 [] 3 86 [(2, 205), (0, w), (0, s), (0, v), (0, 0)] [(0, 0)] μ1 [] rfl trivial ?_
                refine pm_if hK zmm131 .ne 5 91 rfl rfl (fun h74 => ?_) (fun h74 => ?_)
                · have h74 : (0 : Int) ≠ (0 : Int) := h74
                  exact absurd h74 (by decide)
                · have h74 : (0 : Int) = (0 : Int) := h74
                  refine pm_blk hK zmm131 [] 1 90 [(2, 205), (0, w), (0, s), (0, v), (0, 0)] [(0, 0)] μ1 [] rfl trivial ?_
                  exact pm_zret rfl rfl (by first | exact Or.inl rfl | exact Or.inr rfl | omega) ⟨_, rfl, hTμ1, Or.inr ⟨by unfold fa_setP; omega, rfl, b1, b2⟩⟩
              · have h73 : (if 0 ≤ v ∧ v ≤ 9 then 1 else 0 : Int) ≠ (0 : Int) := h73
                have h73 := zif1 h73
                refine pm_blk hK zmm131 [] 4 86 [(2, 205), (0, w), (0, s), (0, v), (0, 1)] [(0, 1)] μ1 [] rfl trivial ?_
                refine pm_if hK zmm131 .ne 5 91 rfl rfl (fun h75 => ?_) (fun h75 => ?_)
                · have h75 : (1 : Int) ≠ (0 : Int) := h75
                  refine pm_blk hK zmm131 [] 1 92 [(2, 205), (0, w), (0, s), (0, v), (0, 1)] [(0, w)] μ1 [] rfl trivial ?_
                  refine pm_if hK zmm131 .ne 13 105 rfl rfl (fun h76 => ?_) (fun h76 => ?_)
                  · have h76 : w ≠ (0 : Int) := h76
                    exact absurd h0 h76
                  · have h76 : w = (0 : Int) := h76
                    refine pm_blk hK zmm131 [] 7 105 [(2, 205), (0, w), (0, s), (0, v), (0, 1)] [] (pm_up μ1 206 (16 + s) v) [pm_in (16 + s), sx_bit Wm 206 = true, 0 ≤ 16 + s ∧ 16 + s < 160] rfl ⟨pm_in_mk (by omega) (by omega), hb206, ⟨by omega, by omega⟩, trivial⟩ ?_
                    obtain ⟨μ31, eμ31⟩ : ∃ μ', μ' = pm_up μ1 206 (16 + s) v := ⟨_, rfl⟩
                    rw [← eμ31]
                    have hTμ31 : zTJ none μ31 := by rw [eμ31]; exact zT_upn hTμ1 zs206_4 rfl (i := 16 + s) (by omega) (by omega) (by omega) (by omega)
                    have n1 : μ31 206 = fa_setN (μ 206) w s v := by first | (rw [eμ31, fa_pm, b2 206 (by decide), show w = 0 by omega, fa_setN_0]) | (exfalso; omega)
                    have n2 : μ31 209 = fa_setL (μ 209) w s v := by first | (rw [eμ31, pm_up_row (by decide), b2 209 (by decide), show w = 0 by omega, fa_setL_0]) | (exfalso; omega)
                    have c1 : ∀ k : Int, k ≠ 0 → μ31 205 k = μ 205 k := fun k hk => by first | (rw [eμ31, pm_up_off (by decide)]; exact b1 k hk) | (exfalso; omega)
                    have c2 : ∀ r, r ≠ 205 → r ≠ 206 → r ≠ 209 → μ31 r = μ r := fun r h5 h6 h9 => by first | (rw [eμ31, pm_up_row h6]; exact b2 r h5) | (exfalso; omega)
                    refine pm_blk hK zmm131 [] 2 107 [(2, 205), (0, w), (0, s), (0, v), (0, 1)] [(0, 1), (0, w)] μ31 [] rfl trivial ?_
                    refine pm_icmp hK zmm131 .ne 13 120 rfl rfl (fun h77 => ?_) (fun h77 => ?_)
                    · have h77 : w ≠ (1 : Int) := h77
                      refine pm_blk hK zmm131 [] 2 122 [(2, 205), (0, w), (0, s), (0, v), (0, 1)] [(0, 2), (0, w)] μ31 [] rfl trivial ?_
                      refine pm_icmp hK zmm131 .ne 10 132 rfl rfl (fun h78 => ?_) (fun h78 => ?_)
                      · have h78 : w ≠ (2 : Int) := h78
                        exact absurd h69 h78
                      · have h78 : w = (2 : Int) := h78
                        refine pm_blk hK zmm131 [] 5 132 [(2, 205), (0, w), (0, s), (0, v), (0, 1)] [] (pm_up μ31 209 s v) [sx_bit Wm 209 = true, 0 ≤ s ∧ s < 18] rfl ⟨hb209, ⟨by omega, by omega⟩, trivial⟩ ?_
                        obtain ⟨μ32, eμ32⟩ : ∃ μ', μ' = pm_up μ31 209 s v := ⟨_, rfl⟩
                        rw [← eμ32]
                        have hTμ32 : zTJ none μ32 := by rw [eμ32]; exact zT_upn hTμ31 zs209_0 rfl (i := s) (by omega) (by omega) (by omega) (by omega)
                        have n1 : μ32 206 = fa_setN (μ 206) w s v := by first | (rw [eμ32, pm_up_row (by decide), b2 206 (by decide), show w = 2 by omega, fa_setN_2]) | (exfalso; omega)
                        have n2 : μ32 209 = fa_setL (μ 209) w s v := by first | (rw [eμ32, fa_pm, b2 209 (by decide), show w = 2 by omega, fa_setL_2]) | (exfalso; omega)
                        have c1 : ∀ k : Int, k ≠ 0 → μ32 205 k = μ 205 k := fun k hk => by first | (rw [eμ32, pm_up_off (by decide)]; exact b1 k hk) | (exfalso; omega)
                        have c2 : ∀ r, r ≠ 205 → r ≠ 206 → r ≠ 209 → μ32 r = μ r := fun r h5 h6 h9 => by first | (rw [eμ32, pm_up_row h9]; exact b2 r h5) | (exfalso; omega)
                        refine pm_blk hK zmm131 [] 3 137 [(2, 205), (0, w), (0, s), (0, v), (0, 1)] [] (pm_up μ32 205 3 0) [sx_bit Wm 205 = true] rfl ⟨hb205, trivial⟩ ?_
                        obtain ⟨μ33, eμ33⟩ : ∃ μ', μ' = pm_up μ32 205 3 0 := ⟨_, rfl⟩
                        rw [← eμ33]
                        have hTμ33 : zTJ none μ33 := by rw [eμ33]; exact zT_upn hTμ32 zs205_3 rfl (i := 3) (by omega) (by omega) (by omega) (by omega)
                        refine pm_blk hK zmm131 [] 1 138 [(2, 205), (0, w), (0, s), (0, v), (0, 1)] [(0, 1)] μ33 [] rfl trivial ?_
                        first
                        | exact pm_zret rfl rfl (by first | exact Or.inl rfl | exact Or.inr rfl | omega) ⟨_, rfl, hTμ33, Or.inl ⟨by unfold fa_setP; omega, rfl, by rw [eμ33, pm_up_row (by decide)]; exact n1, by rw [eμ33, pm_up_row (by decide)]; exact n2, by rw [eμ33, pm_up_eq], fun k h0 h3 => by rw [eμ33, pm_up_ne h3]; exact c1 k h0, fun r h5 h6 h9 => by rw [eμ33, pm_up_row h5]; exact c2 r h5 h6 h9⟩⟩
                        | (exfalso; omega)
                    · have h77 : w = (1 : Int) := h77
                      exact absurd h77 h68
                · have h75 : (1 : Int) = (0 : Int) := h75
                  exact absurd h75 (by decide)
        · have h68 : w = (1 : Int) := h68
          refine pm_blk hK zmm131 [] 2 35 [(2, 205), (0, w), (0, s), (0, v), (9, 0)] [(0, s), (2, 205)] μ1 [] rfl trivial ?_
          refine pm_call hK zmm131 (166, 0, 133, 1) zM133 (0, 0) [(2, 205), (0, s)] [] rfl rfl rfl rfl ⟨by omega, by rw [zn133]; omega⟩ (fs_isCustomer hK (s := s) ⟨Nat.le_refl _, Nat.le_refl _⟩) (fun st19 μc19 hp19 => ?_)
          obtain ⟨rfl, rfl⟩ := hp19
          refine pm_if hK zmm131 .eq 15 53 rfl rfl (fun h79 => ?_) (fun h79 => ?_)
          · have h79 : (if 0 ≤ s ∧ s < μ1 205 7 then 1 else 0 : Int) = (0 : Int) := h79
            have h79 := zif0 h79
            refine pm_blk hK zmm131 [] 2 55 [(2, 205), (0, w), (0, s), (0, v), (9, 0)] [(0, 2), (0, w)] μ1 [] rfl trivial ?_
            refine pm_icmp hK zmm131 .ne 26 81 rfl rfl (fun h80 => ?_) (fun h80 => ?_)
            · have h80 : w ≠ (2 : Int) := h80
              refine pm_blk hK zmm131 [] 3 86 [(2, 205), (0, w), (0, s), (0, v), (0, 0)] [(0, 0)] μ1 [] rfl trivial ?_
              refine pm_if hK zmm131 .ne 5 91 rfl rfl (fun h81 => ?_) (fun h81 => ?_)
              · have h81 : (0 : Int) ≠ (0 : Int) := h81
                exact absurd h81 (by decide)
              · have h81 : (0 : Int) = (0 : Int) := h81
                refine pm_blk hK zmm131 [] 1 90 [(2, 205), (0, w), (0, s), (0, v), (0, 0)] [(0, 0)] μ1 [] rfl trivial ?_
                exact pm_zret rfl rfl (by first | exact Or.inl rfl | exact Or.inr rfl | omega) ⟨_, rfl, hTμ1, Or.inr ⟨by unfold fa_setP; omega, rfl, b1, b2⟩⟩
            · have h80 : w = (2 : Int) := h80
              refine pm_blk hK zmm131 [] 2 60 [(2, 205), (0, w), (0, s), (0, v), (9, 0)] [(0, s), (2, 205)] μ1 [] rfl trivial ?_
              refine pm_call hK zmm131 (166, 0, 133, 1) zM133 (0, 0) [(2, 205), (0, s)] [] rfl rfl rfl rfl ⟨by omega, by rw [zn133]; omega⟩ (fs_isCustomer hK (s := s) ⟨Nat.le_refl _, Nat.le_refl _⟩) (fun st20 μc20 hp20 => ?_)
              obtain ⟨rfl, rfl⟩ := hp20
              refine pm_if hK zmm131 .eq 18 81 rfl rfl (fun h82 => ?_) (fun h82 => ?_)
              · have h82 : (if 0 ≤ s ∧ s < μ1 205 7 then 1 else 0 : Int) = (0 : Int) := h82
                have h82 := zif0 h82
                refine pm_blk hK zmm131 [] 3 86 [(2, 205), (0, w), (0, s), (0, v), (0, 0)] [(0, 0)] μ1 [] rfl trivial ?_
                refine pm_if hK zmm131 .ne 5 91 rfl rfl (fun h83 => ?_) (fun h83 => ?_)
                · have h83 : (0 : Int) ≠ (0 : Int) := h83
                  exact absurd h83 (by decide)
                · have h83 : (0 : Int) = (0 : Int) := h83
                  refine pm_blk hK zmm131 [] 1 90 [(2, 205), (0, w), (0, s), (0, v), (0, 0)] [(0, 0)] μ1 [] rfl trivial ?_
                  exact pm_zret rfl rfl (by first | exact Or.inl rfl | exact Or.inr rfl | omega) ⟨_, rfl, hTμ1, Or.inr ⟨by unfold fa_setP; omega, rfl, b1, b2⟩⟩
              · have h82 : (if 0 ≤ s ∧ s < μ1 205 7 then 1 else 0 : Int) ≠ (0 : Int) := h82
                have h82 := zif1 h82
                exact absurd h82 h79
          · have h79 : (if 0 ≤ s ∧ s < μ1 205 7 then 1 else 0 : Int) ≠ (0 : Int) := h79
            have h79 := zif1 h79
            refine pm_blk hK zmm131 [] 4 47 [(2, 205), (0, w), (0, s), (0, v), (9, 0)] [(0, 9999), (0, 0), (0, v), (2, 205)] μ1 [] rfl trivial ?_
            refine pm_call hK zmm131 (158, 0, 129, 3) zM129 (0, 0) [(2, 205), (0, v), (0, 0), (0, 9999)] [] rfl rfl rfl rfl ⟨by omega, by rw [zn129]; omega⟩ (zh_isIn hK ⟨by omega, by omega⟩) (fun st21 μc21 hp21 => ?_)
            obtain ⟨rfl, rfl⟩ := hp21
            refine pm_if hK zmm131 .ne 27 77 rfl rfl (fun h84 => ?_) (fun h84 => ?_)
            · have h84 : (if 0 ≤ v ∧ v ≤ 9999 then 1 else 0 : Int) ≠ (0 : Int) := h84
              have h84 := zif1 h84
              refine pm_blk hK zmm131 [] 4 86 [(2, 205), (0, w), (0, s), (0, v), (0, 1)] [(0, 1)] μ1 [] rfl trivial ?_
              refine pm_if hK zmm131 .ne 5 91 rfl rfl (fun h85 => ?_) (fun h85 => ?_)
              · have h85 : (1 : Int) ≠ (0 : Int) := h85
                refine pm_blk hK zmm131 [] 1 92 [(2, 205), (0, w), (0, s), (0, v), (0, 1)] [(0, w)] μ1 [] rfl trivial ?_
                refine pm_if hK zmm131 .ne 13 105 rfl rfl (fun h86 => ?_) (fun h86 => ?_)
                · have h86 : w ≠ (0 : Int) := h86
                  exact absurd h0 h86
                · have h86 : w = (0 : Int) := h86
                  refine pm_blk hK zmm131 [] 7 105 [(2, 205), (0, w), (0, s), (0, v), (0, 1)] [] (pm_up μ1 206 (16 + s) v) [pm_in (16 + s), sx_bit Wm 206 = true, 0 ≤ 16 + s ∧ 16 + s < 160] rfl ⟨pm_in_mk (by omega) (by omega), hb206, ⟨by omega, by omega⟩, trivial⟩ ?_
                  obtain ⟨μ34, eμ34⟩ : ∃ μ', μ' = pm_up μ1 206 (16 + s) v := ⟨_, rfl⟩
                  rw [← eμ34]
                  have hTμ34 : zTJ none μ34 := by rw [eμ34]; exact zT_upn hTμ1 zs206_4 rfl (i := 16 + s) (by omega) (by omega) (by omega) (by omega)
                  have n1 : μ34 206 = fa_setN (μ 206) w s v := by first | (rw [eμ34, fa_pm, b2 206 (by decide), show w = 0 by omega, fa_setN_0]) | (exfalso; omega)
                  have n2 : μ34 209 = fa_setL (μ 209) w s v := by first | (rw [eμ34, pm_up_row (by decide), b2 209 (by decide), show w = 0 by omega, fa_setL_0]) | (exfalso; omega)
                  have c1 : ∀ k : Int, k ≠ 0 → μ34 205 k = μ 205 k := fun k hk => by first | (rw [eμ34, pm_up_off (by decide)]; exact b1 k hk) | (exfalso; omega)
                  have c2 : ∀ r, r ≠ 205 → r ≠ 206 → r ≠ 209 → μ34 r = μ r := fun r h5 h6 h9 => by first | (rw [eμ34, pm_up_row h6]; exact b2 r h5) | (exfalso; omega)
                  refine pm_blk hK zmm131 [] 2 107 [(2, 205), (0, w), (0, s), (0, v), (0, 1)] [(0, 1), (0, w)] μ34 [] rfl trivial ?_
                  refine pm_icmp hK zmm131 .ne 13 120 rfl rfl (fun h87 => ?_) (fun h87 => ?_)
                  · have h87 : w ≠ (1 : Int) := h87
                    exact absurd h68 h87
                  · have h87 : w = (1 : Int) := h87
                    refine pm_blk hK zmm131 [] 7 120 [(2, 205), (0, w), (0, s), (0, v), (0, 1)] [] (pm_up μ34 206 (88 + s) v) [pm_in (88 + s), sx_bit Wm 206 = true, 0 ≤ 88 + s ∧ 88 + s < 160] rfl ⟨pm_in_mk (by omega) (by omega), hb206, ⟨by omega, by omega⟩, trivial⟩ ?_
                    obtain ⟨μ35, eμ35⟩ : ∃ μ', μ' = pm_up μ34 206 (88 + s) v := ⟨_, rfl⟩
                    rw [← eμ35]
                    have hTμ35 : zTJ none μ35 := by rw [eμ35]; exact zT_upn hTμ34 zs206_88 rfl (i := 88 + s) (by omega) (by omega) (by omega) (by omega)
                    have n1 : μ35 206 = fa_setN (μ 206) w s v := by first | (rw [eμ35, fa_pm, b2 206 (by decide), show w = 1 by omega, fa_setN_1]) | (exfalso; omega)
                    have n2 : μ35 209 = fa_setL (μ 209) w s v := by first | (rw [eμ35, pm_up_row (by decide), b2 209 (by decide), show w = 1 by omega, fa_setL_1]) | (exfalso; omega)
                    have c1 : ∀ k : Int, k ≠ 0 → μ35 205 k = μ 205 k := fun k hk => by first | (rw [eμ35, pm_up_off (by decide)]; exact b1 k hk) | (exfalso; omega)
                    have c2 : ∀ r, r ≠ 205 → r ≠ 206 → r ≠ 209 → μ35 r = μ r := fun r h5 h6 h9 => by first | (rw [eμ35, pm_up_row h6]; exact b2 r h5) | (exfalso; omega)
                    refine pm_blk hK zmm131 [] 2 122 [(2, 205), (0, w), (0, s), (0, v), (0, 1)] [(0, 2), (0, w)] μ35 [] rfl trivial ?_
                    refine pm_icmp hK zmm131 .ne 10 132 rfl rfl (fun h88 => ?_) (fun h88 => ?_)
                    · have h88 : w ≠ (2 : Int) := h88
                      refine pm_blk hK zmm131 [] 3 137 [(2, 205), (0, w), (0, s), (0, v), (0, 1)] [] (pm_up μ35 205 3 0) [sx_bit Wm 205 = true] rfl ⟨hb205, trivial⟩ ?_
                      obtain ⟨μ36, eμ36⟩ : ∃ μ', μ' = pm_up μ35 205 3 0 := ⟨_, rfl⟩
                      rw [← eμ36]
                      have hTμ36 : zTJ none μ36 := by rw [eμ36]; exact zT_upn hTμ35 zs205_3 rfl (i := 3) (by omega) (by omega) (by omega) (by omega)
                      refine pm_blk hK zmm131 [] 1 138 [(2, 205), (0, w), (0, s), (0, v), (0, 1)] [(0, 1)] μ36 [] rfl trivial ?_
                      first
                      | exact pm_zret rfl rfl (by first | exact Or.inl rfl | exact Or.inr rfl | omega) ⟨_, rfl, hTμ36, Or.inl ⟨by unfold fa_setP; omega, rfl, by rw [eμ36, pm_up_row (by decide)]; exact n1, by rw [eμ36, pm_up_row (by decide)]; exact n2, by rw [eμ36, pm_up_eq], fun k h0 h3 => by rw [eμ36, pm_up_ne h3]; exact c1 k h0, fun r h5 h6 h9 => by rw [eμ36, pm_up_row h5]; exact c2 r h5 h6 h9⟩⟩
                      | (exfalso; omega)
                    · have h88 : w = (2 : Int) := h88
                      refine pm_blk hK zmm131 [] 5 132 [(2, 205), (0, w), (0, s), (0, v), (0, 1)] [] (pm_up μ35 209 s v) [sx_bit Wm 209 = true, 0 ≤ s ∧ s < 18] rfl ⟨hb209, ⟨by omega, by omega⟩, trivial⟩ ?_
                      obtain ⟨μ37, eμ37⟩ : ∃ μ', μ' = pm_up μ35 209 s v := ⟨_, rfl⟩
                      rw [← eμ37]
                      have hTμ37 : zTJ none μ37 := by rw [eμ37]; exact zT_upn hTμ35 zs209_0 rfl (i := s) (by omega) (by omega) (by omega) (by omega)
                      have n1 : μ37 206 = fa_setN (μ 206) w s v := by first | (rw [eμ37, pm_up_row (by decide), b2 206 (by decide), show w = 2 by omega, fa_setN_2]) | (exfalso; omega)
                      have n2 : μ37 209 = fa_setL (μ 209) w s v := by first | (rw [eμ37, fa_pm, b2 209 (by decide), show w = 2 by omega, fa_setL_2]) | (exfalso; omega)
                      have c1 : ∀ k : Int, k ≠ 0 → μ37 205 k = μ 205 k := fun k hk => by first | (rw [eμ37, pm_up_off (by decide)]; exact b1 k hk) | (exfalso; omega)
                      have c2 : ∀ r, r ≠ 205 → r ≠ 206 → r ≠ 209 → μ37 r = μ r := fun r h5 h6 h9 => by first | (rw [eμ37, pm_up_row h9]; exact b2 r h5) | (exfalso; omega)
                      refine pm_blk hK zmm131 [] 3 137 [(2, 205), (0, w), (0, s), (0, v), (0, 1)] [] (pm_up μ37 205 3 0) [sx_bit Wm 205 = true] rfl ⟨hb205, trivial⟩ ?_
                      obtain ⟨μ38, eμ38⟩ : ∃ μ', μ' = pm_up μ37 205 3 0 := ⟨_, rfl⟩
                      rw [← eμ38]
                      have hTμ38 : zTJ none μ38 := by rw [eμ38]; exact zT_upn hTμ37 zs205_3 rfl (i := 3) (by omega) (by omega) (by omega) (by omega)
                      refine pm_blk hK zmm131 [] 1 138 [(2, 205), (0, w), (0, s), (0, v), (0, 1)] [(0, 1)] μ38 [] rfl trivial ?_
                      first
                      | exact pm_zret rfl rfl (by first | exact Or.inl rfl | exact Or.inr rfl | omega) ⟨_, rfl, hTμ38, Or.inl ⟨by unfold fa_setP; omega, rfl, by rw [eμ38, pm_up_row (by decide)]; exact n1, by rw [eμ38, pm_up_row (by decide)]; exact n2, by rw [eμ38, pm_up_eq], fun k h0 h3 => by rw [eμ38, pm_up_ne h3]; exact c1 k h0, fun r h5 h6 h9 => by rw [eμ38, pm_up_row h5]; exact c2 r h5 h6 h9⟩⟩
                      | (exfalso; omega)
              · have h85 : (1 : Int) = (0 : Int) := h85
                exact absurd h85 (by decide)
            · have h84 : (if 0 ≤ v ∧ v ≤ 9999 then 1 else 0 : Int) = (0 : Int) := h84
              have h84 := zif0 h84
              refine pm_blk hK zmm131 [] 2 55 [(2, 205), (0, w), (0, s), (0, v), (9, 0)] [(0, 2), (0, w)] μ1 [] rfl trivial ?_
              refine pm_icmp hK zmm131 .ne 26 81 rfl rfl (fun h89 => ?_) (fun h89 => ?_)
              · have h89 : w ≠ (2 : Int) := h89
                refine pm_blk hK zmm131 [] 3 86 [(2, 205), (0, w), (0, s), (0, v), (0, 0)] [(0, 0)] μ1 [] rfl trivial ?_
                refine pm_if hK zmm131 .ne 5 91 rfl rfl (fun h90 => ?_) (fun h90 => ?_)
                · have h90 : (0 : Int) ≠ (0 : Int) := h90
                  exact absurd h90 (by decide)
                · have h90 : (0 : Int) = (0 : Int) := h90
                  refine pm_blk hK zmm131 [] 1 90 [(2, 205), (0, w), (0, s), (0, v), (0, 0)] [(0, 0)] μ1 [] rfl trivial ?_
                  exact pm_zret rfl rfl (by first | exact Or.inl rfl | exact Or.inr rfl | omega) ⟨_, rfl, hTμ1, Or.inr ⟨by unfold fa_setP; omega, rfl, b1, b2⟩⟩
              · have h89 : w = (2 : Int) := h89
                refine pm_blk hK zmm131 [] 2 60 [(2, 205), (0, w), (0, s), (0, v), (9, 0)] [(0, s), (2, 205)] μ1 [] rfl trivial ?_
                refine pm_call hK zmm131 (166, 0, 133, 1) zM133 (0, 0) [(2, 205), (0, s)] [] rfl rfl rfl rfl ⟨by omega, by rw [zn133]; omega⟩ (fs_isCustomer hK (s := s) ⟨Nat.le_refl _, Nat.le_refl _⟩) (fun st22 μc22 hp22 => ?_)
                obtain ⟨rfl, rfl⟩ := hp22
                refine pm_if hK zmm131 .eq 18 81 rfl rfl (fun h91 => ?_) (fun h91 => ?_)
                · have h91 : (if 0 ≤ s ∧ s < μ1 205 7 then 1 else 0 : Int) = (0 : Int) := h91
                  have h91 := zif0 h91
                  exact absurd h79 h91
                · have h91 : (if 0 ≤ s ∧ s < μ1 205 7 then 1 else 0 : Int) ≠ (0 : Int) := h91
                  have h91 := zif1 h91
                  refine pm_blk hK zmm131 [] 4 71 [(2, 205), (0, w), (0, s), (0, v), (9, 0)] [(0, 9), (0, 0), (0, v), (2, 205)] μ1 [] rfl trivial ?_
                  refine pm_call hK zmm131 (158, 0, 129, 3) zM129 (0, 0) [(2, 205), (0, v), (0, 0), (0, 9)] [] rfl rfl rfl rfl ⟨by omega, by rw [zn129]; omega⟩ (zh_isIn hK ⟨by omega, by omega⟩) (fun st23 μc23 hp23 => ?_)
                  obtain ⟨rfl, rfl⟩ := hp23
                  refine pm_if hK zmm131 .eq 7 81 rfl rfl (fun h92 => ?_) (fun h92 => ?_)
                  · have h92 : (if 0 ≤ v ∧ v ≤ 9 then 1 else 0 : Int) = (0 : Int) := h92
                    have h92 := zif0 h92
                    refine pm_blk hK zmm131 [] 3 86 [(2, 205), (0, w), (0, s), (0, v), (0, 0)] [(0, 0)] μ1 [] rfl trivial ?_
                    refine pm_if hK zmm131 .ne 5 91 rfl rfl (fun h93 => ?_) (fun h93 => ?_)
                    · have h93 : (0 : Int) ≠ (0 : Int) := h93
                      exact absurd h93 (by decide)
                    · have h93 : (0 : Int) = (0 : Int) := h93
                      refine pm_blk hK zmm131 [] 1 90 [(2, 205), (0, w), (0, s), (0, v), (0, 0)] [(0, 0)] μ1 [] rfl trivial ?_
                      exact pm_zret rfl rfl (by first | exact Or.inl rfl | exact Or.inr rfl | omega) ⟨_, rfl, hTμ1, Or.inr ⟨by unfold fa_setP; omega, rfl, b1, b2⟩⟩
                  · have h92 : (if 0 ≤ v ∧ v ≤ 9 then 1 else 0 : Int) ≠ (0 : Int) := h92
                    have h92 := zif1 h92
                    refine pm_blk hK zmm131 [] 4 86 [(2, 205), (0, w), (0, s), (0, v), (0, 1)] [(0, 1)] μ1 [] rfl trivial ?_
                    refine pm_if hK zmm131 .ne 5 91 rfl rfl (fun h94 => ?_) (fun h94 => ?_)
                    · have h94 : (1 : Int) ≠ (0 : Int) := h94
                      refine pm_blk hK zmm131 [] 1 92 [(2, 205), (0, w), (0, s), (0, v), (0, 1)] [(0, w)] μ1 [] rfl trivial ?_
                      refine pm_if hK zmm131 .ne 13 105 rfl rfl (fun h95 => ?_) (fun h95 => ?_)
                      · have h95 : w ≠ (0 : Int) := h95
                        exact absurd h0 h95
                      · have h95 : w = (0 : Int) := h95
                        refine pm_blk hK zmm131 [] 7 105 [(2, 205), (0, w), (0, s), (0, v), (0, 1)] [] (pm_up μ1 206 (16 + s) v) [pm_in (16 + s), sx_bit Wm 206 = true, 0 ≤ 16 + s ∧ 16 + s < 160] rfl ⟨pm_in_mk (by omega) (by omega), hb206, ⟨by omega, by omega⟩, trivial⟩ ?_
                        obtain ⟨μ39, eμ39⟩ : ∃ μ', μ' = pm_up μ1 206 (16 + s) v := ⟨_, rfl⟩
                        rw [← eμ39]
                        have hTμ39 : zTJ none μ39 := by rw [eμ39]; exact zT_upn hTμ1 zs206_4 rfl (i := 16 + s) (by omega) (by omega) (by omega) (by omega)
                        have n1 : μ39 206 = fa_setN (μ 206) w s v := by first | (rw [eμ39, fa_pm, b2 206 (by decide), show w = 0 by omega, fa_setN_0]) | (exfalso; omega)
                        have n2 : μ39 209 = fa_setL (μ 209) w s v := by first | (rw [eμ39, pm_up_row (by decide), b2 209 (by decide), show w = 0 by omega, fa_setL_0]) | (exfalso; omega)
                        have c1 : ∀ k : Int, k ≠ 0 → μ39 205 k = μ 205 k := fun k hk => by first | (rw [eμ39, pm_up_off (by decide)]; exact b1 k hk) | (exfalso; omega)
                        have c2 : ∀ r, r ≠ 205 → r ≠ 206 → r ≠ 209 → μ39 r = μ r := fun r h5 h6 h9 => by first | (rw [eμ39, pm_up_row h6]; exact b2 r h5) | (exfalso; omega)
                        refine pm_blk hK zmm131 [] 2 107 [(2, 205), (0, w), (0, s), (0, v), (0, 1)] [(0, 1), (0, w)] μ39 [] rfl trivial ?_
                        refine pm_icmp hK zmm131 .ne 13 120 rfl rfl (fun h96 => ?_) (fun h96 => ?_)
                        · have h96 : w ≠ (1 : Int) := h96
                          exact absurd h68 h96
                        · have h96 : w = (1 : Int) := h96
                          refine pm_blk hK zmm131 [] 7 120 [(2, 205), (0, w), (0, s), (0, v), (0, 1)] [] (pm_up μ39 206 (88 + s) v) [pm_in (88 + s), sx_bit Wm 206 = true, 0 ≤ 88 + s ∧ 88 + s < 160] rfl ⟨pm_in_mk (by omega) (by omega), hb206, ⟨by omega, by omega⟩, trivial⟩ ?_
                          obtain ⟨μ40, eμ40⟩ : ∃ μ', μ' = pm_up μ39 206 (88 + s) v := ⟨_, rfl⟩
                          rw [← eμ40]
                          have hTμ40 : zTJ none μ40 := by rw [eμ40]; exact zT_upn hTμ39 zs206_88 rfl (i := 88 + s) (by omega) (by omega) (by omega) (by omega)
                          have n1 : μ40 206 = fa_setN (μ 206) w s v := by first | (rw [eμ40, fa_pm, b2 206 (by decide), show w = 1 by omega, fa_setN_1]) | (exfalso; omega)
                          have n2 : μ40 209 = fa_setL (μ 209) w s v := by first | (rw [eμ40, pm_up_row (by decide), b2 209 (by decide), show w = 1 by omega, fa_setL_1]) | (exfalso; omega)
                          have c1 : ∀ k : Int, k ≠ 0 → μ40 205 k = μ 205 k := fun k hk => by first | (rw [eμ40, pm_up_off (by decide)]; exact b1 k hk) | (exfalso; omega)
                          have c2 : ∀ r, r ≠ 205 → r ≠ 206 → r ≠ 209 → μ40 r = μ r := fun r h5 h6 h9 => by first | (rw [eμ40, pm_up_row h6]; exact b2 r h5) | (exfalso; omega)
                          refine pm_blk hK zmm131 [] 2 122 [(2, 205), (0, w), (0, s), (0, v), (0, 1)] [(0, 2), (0, w)] μ40 [] rfl trivial ?_
                          refine pm_icmp hK zmm131 .ne 10 132 rfl rfl (fun h97 => ?_) (fun h97 => ?_)
                          · have h97 : w ≠ (2 : Int) := h97
                            exact absurd h89 h97
                          · have h97 : w = (2 : Int) := h97
                            refine pm_blk hK zmm131 [] 5 132 [(2, 205), (0, w), (0, s), (0, v), (0, 1)] [] (pm_up μ40 209 s v) [sx_bit Wm 209 = true, 0 ≤ s ∧ s < 18] rfl ⟨hb209, ⟨by omega, by omega⟩, trivial⟩ ?_
                            obtain ⟨μ41, eμ41⟩ : ∃ μ', μ' = pm_up μ40 209 s v := ⟨_, rfl⟩
                            rw [← eμ41]
                            have hTμ41 : zTJ none μ41 := by rw [eμ41]; exact zT_upn hTμ40 zs209_0 rfl (i := s) (by omega) (by omega) (by omega) (by omega)
                            have n1 : μ41 206 = fa_setN (μ 206) w s v := by first | (rw [eμ41, pm_up_row (by decide), b2 206 (by decide), show w = 2 by omega, fa_setN_2]) | (exfalso; omega)
                            have n2 : μ41 209 = fa_setL (μ 209) w s v := by first | (rw [eμ41, fa_pm, b2 209 (by decide), show w = 2 by omega, fa_setL_2]) | (exfalso; omega)
                            have c1 : ∀ k : Int, k ≠ 0 → μ41 205 k = μ 205 k := fun k hk => by first | (rw [eμ41, pm_up_off (by decide)]; exact b1 k hk) | (exfalso; omega)
                            have c2 : ∀ r, r ≠ 205 → r ≠ 206 → r ≠ 209 → μ41 r = μ r := fun r h5 h6 h9 => by first | (rw [eμ41, pm_up_row h9]; exact b2 r h5) | (exfalso; omega)
                            refine pm_blk hK zmm131 [] 3 137 [(2, 205), (0, w), (0, s), (0, v), (0, 1)] [] (pm_up μ41 205 3 0) [sx_bit Wm 205 = true] rfl ⟨hb205, trivial⟩ ?_
                            obtain ⟨μ42, eμ42⟩ : ∃ μ', μ' = pm_up μ41 205 3 0 := ⟨_, rfl⟩
                            rw [← eμ42]
                            have hTμ42 : zTJ none μ42 := by rw [eμ42]; exact zT_upn hTμ41 zs205_3 rfl (i := 3) (by omega) (by omega) (by omega) (by omega)
                            refine pm_blk hK zmm131 [] 1 138 [(2, 205), (0, w), (0, s), (0, v), (0, 1)] [(0, 1)] μ42 [] rfl trivial ?_
                            first
                            | exact pm_zret rfl rfl (by first | exact Or.inl rfl | exact Or.inr rfl | omega) ⟨_, rfl, hTμ42, Or.inl ⟨by unfold fa_setP; omega, rfl, by rw [eμ42, pm_up_row (by decide)]; exact n1, by rw [eμ42, pm_up_row (by decide)]; exact n2, by rw [eμ42, pm_up_eq], fun k h0 h3 => by rw [eμ42, pm_up_ne h3]; exact c1 k h0, fun r h5 h6 h9 => by rw [eμ42, pm_up_row h5]; exact c2 r h5 h6 h9⟩⟩
                            | (exfalso; omega)
                    · have h94 : (1 : Int) = (0 : Int) := h94
                      exact absurd h94 (by decide)
end ZHW
