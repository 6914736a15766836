/-! F: the class: state, shops, customers; walks printed by program (wip/p30/pmgen.py) and filled by hand -/
section ZHW
variable {D : va_G} {Wm : Nat} {ST : List (String × String × String × Nat)} {b0 : sx_B} {l : Launch} {Sg : Nat → Option Nat} {bud : sx_Bu} {μ : pm_Mem} {B0 : Nat → Prop} {J : (Nat → Option Nat) → Heap → Prop}
set_option maxRecDepth 100000 in
theorem fm_state (hK : zKK ST) {v : Int} (hT : zTJ none μ) (hv_v : -2147483648 ≤ v ∧ v ≤ 2147483647) {N B pol : Int → Int} {n m : Int} (hC : fa_C false 3 n m (N, B) pol μ) (hn0 : 0 ≤ n) (hm0 : 0 ≤ m) (hq : n ≤ 12 ∧ m ≤ 18) (hb3 : sx_bit Wm 3 = true) (hb96 : sx_bit Wm 96 = true) (hbd : 1 ≤ bud.1 ∧ 20 ≤ bud.2.1) : zC D Wm ST b0 l Sg zM13 bud [(2, 1), (0, v)] μ (fun st' μ' => st' = [(0, N 2)] ∧ zTJ none μ' ∧ fa_C false 3 n m (fa_up N 2 v, B) pol μ' ∧ fa_K0 μ' ∧ fa_fr [3, 96] μ μ') := by
  have a4 : μ 3 4 = N 2 := hC.1.1.2.2.2.2
  have f1 := zT_get hT zs3_4 (i := 4) (by omega) (by omega)
  refine pm_blk hK zmm13 [] 10 22 [(2, 1), (0, v), (0, μ 3 4)] [] (pm_up μ 3 4 v) [sx_bit Wm 3 = true] rfl ⟨hb3, trivial⟩ ?_
  obtain ⟨μ1, eμ1⟩ : ∃ μ', μ' = pm_up μ 3 4 v := ⟨_, rfl⟩
  rw [← eμ1]
  have hTμ1 : zTJ none μ1 := by rw [eμ1]; exact zT_upn hT zs3_4 rfl (i := 4) (by omega) (by omega) (by omega) (by omega)
  have hC1 : fa_C false 3 n m (fa_up N 2 v, B) pol μ1 := by rw [eμ1]; exact fa_C_w hC (fa_A_f (k := 4) (j := 2) (Or.inr (Or.inr ⟨rfl, rfl⟩)) hC.1) ⟨by decide, by decide⟩ (fa_up_ne (by decide))
  have hF1 : fa_fr [3, 96] μ μ1 := fa_fr_st fa_fr_0 eμ1 rfl
  refine pm_blk hK zmm13 [] 2 26 [(2, 1), (0, v), (0, μ 3 4)] [(2, 96)] μ1 [] rfl trivial ?_
  refine pm_call hK zmm13 (91, 0, 14, 0) zM14 (0, 0) [(2, 96)] [] rfl rfl rfl rfl ⟨by omega, by rw [zn14]; omega⟩ (fc_forget hK hTμ1 hb96 ⟨Nat.le_refl _, Nat.le_refl _⟩) (fun st1 μc1 hp1 => ?_)
  obtain ⟨rfl, hTc1, hk0, hfr1⟩ := hp1
  have hC9 := fa_C_m hC1 (fa_A_fr hC1.1 (fun r h1 h2 => hfr1 r (by omega))) (hfr1 2 (by decide)) (hfr1 16 (by decide)) rfl
  have hF9 := fa_fr_t hF1 (fa_fr_1 hfr1 rfl)
  refine pm_blk hK zmm13 [] 1 30 [(2, 1), (0, v), (0, μ 3 4)] [(0, μ 3 4)] μc1 [] rfl trivial ?_
  exact pm_iret rfl rfl ⟨by rw [a4], hTc1, hC9, hk0, hF9⟩
set_option maxRecDepth 100000 in
theorem fm_addS (hK : zKK ST) {g p : Int} (hT : zTJ none μ) {N pol : Int → Int} {n m : Int} (hA : fa_A 3 n m N pol μ) (hn0 : 0 ≤ n) (hm0 : 0 ≤ m) (hq : n ≤ 12 ∧ m ≤ 18) (hg : 0 ≤ g ∧ g ≤ 99) (hp : 1 ≤ p ∧ p ≤ 99) (hb3 : sx_bit Wm 3 = true) (hb4 : sx_bit Wm 4 = true) (hb5 : sx_bit Wm 5 = true) (hb6 : sx_bit Wm 6 = true) (hb7 : sx_bit Wm 7 = true) (hb8 : sx_bit Wm 8 = true) (hb9 : sx_bit Wm 9 = true) (hb10 : sx_bit Wm 10 = true) (hbd : 1 ≤ bud.1 ∧ 22 ≤ bud.2.1) : zC D Wm ST b0 l Sg zM17 bud [(2, 3), (0, g), (0, p)] μ (fun st' μ' => ∃ x, st' = [(0, x)] ∧ zTJ none μ' ∧ ((n = 12 ∧ x = -1 ∧ μ' = μ) ∨ (n ≠ 12 ∧ x = n ∧ fa_A 3 (n + 1) m (fa_addS N n g p) pol μ' ∧ fa_fr [3, 4, 5, 6, 7, 8, 9, 10] μ μ'))) := by
  have a0 : μ 3 0 = n := hA.1.1
  have f1 := zT_get hT zs3_0 (i := 0) (by omega) (by omega)
  refine pm_blk hK zmm17 [] 4 7 [(2, 3), (0, g), (0, p), (9, 0)] [(0, 11), (0, 0), (0, μ 3 0)] μ [] rfl trivial ?_
  refine pm_call hK zmm17 (64, 1, 16, 3) zM16 (0, 0) [(0, μ 3 0), (0, 0), (0, 11)] [] rfl rfl rfl rfl ⟨by omega, by rw [zn16]; omega⟩ (zh_within hK ⟨Nat.le_refl _, Nat.le_refl _⟩) (fun st1 μc1 hp1 => ?_)
  obtain ⟨rfl, rfl⟩ := hp1
  refine pm_if hK zmm17 .ne 5 15 rfl rfl (fun h0 => ?_) (fun h0 => ?_)
  · have h0 : (if 0 ≤ (μ 3 0) ∧ (μ 3 0) ≤ 11 then 1 else 0 : Int) ≠ (0 : Int) := h0
    have h0 := zif1 h0
    refine pm_blk hK zmm17 [] 8 27 [(2, 3), (0, g), (0, p), (0, μ 3 0)] [] (pm_up μ 4 (μ 3 0) g) [sx_bit Wm 4 = true, 0 ≤ μ 3 0 ∧ μ 3 0 < 12] rfl ⟨hb4, ⟨by omega, by omega⟩, trivial⟩ ?_
    obtain ⟨μ1, eμ1⟩ : ∃ μ', μ' = pm_up μ 4 (μ 3 0) g := ⟨_, rfl⟩
    rw [← eμ1]
    have hTμ1 : zTJ none μ1 := by rw [eμ1]; exact zT_upn hT zs4_0 rfl (i := μ 3 0) (by omega) (by omega) (by omega) (by omega)
    refine pm_blk hK zmm17 [] 5 34 [(2, 3), (0, g), (0, p), (0, μ 3 0)] [] (pm_up μ1 5 (μ 3 0) p) [sx_bit Wm 5 = true, 0 ≤ μ 3 0 ∧ μ 3 0 < 12] rfl ⟨hb5, ⟨by omega, by omega⟩, trivial⟩ ?_
    obtain ⟨μ2, eμ2⟩ : ∃ μ', μ' = pm_up μ1 5 (μ 3 0) p := ⟨_, rfl⟩
    rw [← eμ2]
    have hTμ2 : zTJ none μ2 := by rw [eμ2]; exact zT_upn hTμ1 zs5_0 rfl (i := μ 3 0) (by omega) (by omega) (by omega) (by omega)
    refine pm_blk hK zmm17 [] 5 41 [(2, 3), (0, g), (0, p), (0, μ 3 0)] [] (pm_up μ2 6 (μ 3 0) 0) [sx_bit Wm 6 = true, 0 ≤ μ 3 0 ∧ μ 3 0 < 12] rfl ⟨hb6, ⟨by omega, by omega⟩, trivial⟩ ?_
    obtain ⟨μ3, eμ3⟩ : ∃ μ', μ' = pm_up μ2 6 (μ 3 0) 0 := ⟨_, rfl⟩
    rw [← eμ3]
    have hTμ3 : zTJ none μ3 := by rw [eμ3]; exact zT_upn hTμ2 zs6_0 rfl (i := μ 3 0) (by omega) (by omega) (by omega) (by omega)
    refine pm_blk hK zmm17 [] 5 48 [(2, 3), (0, g), (0, p), (0, μ 3 0)] [] (pm_up μ3 10 (μ 3 0) 0) [sx_bit Wm 10 = true, 0 ≤ μ 3 0 ∧ μ 3 0 < 12] rfl ⟨hb10, ⟨by omega, by omega⟩, trivial⟩ ?_
    obtain ⟨μ4, eμ4⟩ : ∃ μ', μ' = pm_up μ3 10 (μ 3 0) 0 := ⟨_, rfl⟩
    rw [← eμ4]
    have hTμ4 : zTJ none μ4 := by rw [eμ4]; exact zT_upn hTμ3 zs10_0 rfl (i := μ 3 0) (by omega) (by omega) (by omega) (by omega)
    refine pm_blk hK zmm17 [] 2 50 [(2, 3), (0, g), (0, p), (0, μ 3 0)] [(0, μ 3 0), (2, 3)] μ4 [] rfl trivial ?_
    refine pm_call hK zmm17 (68, 0, 18, 1) zM18 (0, 0) [(2, 3), (0, μ 3 0)] [] rfl rfl rfl rfl ⟨by omega, by rw [zn18]; omega⟩ (fm_opensR hK (s := (μ 3 0)) hTμ4 ⟨by omega, by omega⟩ hb7 hb8 hb9 ⟨Nat.le_refl _, Nat.le_refl _⟩) (fun st2 μc2 hp2 => ?_)
    obtain ⟨rfl, hTc2, eo⟩ := hp2
    have c0 : μc2 3 0 = μ 3 0 := by rw [eo, pm_up_off (by decide), pm_up_off (by decide), pm_up_off (by decide), eμ4, pm_up_off (by decide), eμ3, pm_up_off (by decide), eμ2, pm_up_off (by decide), eμ1, pm_up_off (by decide)]
    have f2 := zT_get hTc2 zs3_0 (i := 0) (by omega) (by omega)
    refine pm_blk hK zmm17 [] 6 63 [(2, 3), (0, g), (0, p), (0, μ 3 0)] [] (pm_up μc2 3 0 ((μc2 3 0) + 1)) [pm_in ((μc2 3 0) + 1), sx_bit Wm 3 = true] rfl ⟨pm_in_mk (by omega) (by omega), hb3, trivial⟩ ?_
    obtain ⟨μ5, eμ5⟩ : ∃ μ', μ' = pm_up μc2 3 0 ((μc2 3 0) + 1) := ⟨_, rfl⟩
    rw [← eμ5]
    have hTμ5 : zTJ none μ5 := by rw [eμ5]; exact zT_upn hTc2 zs3_0 rfl (i := 0) (by omega) (by omega) (by omega) (by omega)
    refine pm_blk hK zmm17 [] 1 64 [(2, 3), (0, g), (0, p), (0, μ 3 0)] [(0, μ 3 0)] μ5 [] rfl trivial ?_
    have hAA := fm_addS_A (g := g) (p := p) hA (show 0 ≤ n ∧ n < 12 by omega) hq.2 (μ' := μ5) (by rw [eμ5, c0, eo, eμ4, eμ3, eμ2, eμ1, a0])
    exact pm_iret rfl rfl ⟨_, rfl, hTμ5, Or.inr ⟨by omega, a0, hAA.1, hAA.2⟩⟩
  · have h0 : (if 0 ≤ (μ 3 0) ∧ (μ 3 0) ≤ 11 then 1 else 0 : Int) = (0 : Int) := h0
    have h0 := zif0 h0
    refine pm_blk hK zmm17 [] 1 14 [(2, 3), (0, g), (0, p), (9, 0)] [(0, (-1))] μ [] rfl trivial ?_
    exact pm_iret rfl rfl ⟨_, rfl, hT, Or.inl ⟨by omega, rfl, rfl⟩⟩
set_option maxRecDepth 100000 in
theorem fm_addC (hK : zKK ST) {v w : Int} (hT : zTJ none μ) {N pol : Int → Int} {n m : Int} (hA : fa_A 3 n m N pol μ) (hn0 : 0 ≤ n) (hm0 : 0 ≤ m) (hq : n ≤ 12 ∧ m ≤ 18) (hg : 0 ≤ v ∧ v ≤ 9999) (hp : 0 ≤ w ∧ w ≤ 9) (hb3 : sx_bit Wm 3 = true) (hb11 : sx_bit Wm 11 = true) (hb12 : sx_bit Wm 12 = true) (hb13 : sx_bit Wm 13 = true) (hb14 : sx_bit Wm 14 = true) (hb15 : sx_bit Wm 15 = true) (hbd : 1 ≤ bud.1 ∧ 22 ≤ bud.2.1) : zC D Wm ST b0 l Sg zM20 bud [(2, 3), (0, v), (0, w)] μ (fun st' μ' => ∃ x, st' = [(0, x)] ∧ zTJ none μ' ∧ ((m = 18 ∧ x = -1 ∧ μ' = μ) ∨ (m ≠ 18 ∧ x = m ∧ fa_A 3 n (m + 1) (fa_addC N m v) (fa_up pol m w) μ' ∧ fa_fr [3, 11, 12, 13, 14, 15] μ μ'))) := by
  have a1 : μ 3 1 = m := hA.1.2.1
  have f1 := zT_get hT zs3_1 (i := 1) (by omega) (by omega)
  refine pm_blk hK zmm20 [] 4 7 [(2, 3), (0, v), (0, w), (9, 0)] [(0, 17), (0, 0), (0, μ 3 1)] μ [] rfl trivial ?_
  refine pm_call hK zmm20 (64, 1, 16, 3) zM16 (0, 0) [(0, μ 3 1), (0, 0), (0, 17)] [] rfl rfl rfl rfl ⟨by omega, by rw [zn16]; omega⟩ (zh_within hK ⟨Nat.le_refl _, Nat.le_refl _⟩) (fun st1 μc1 hp1 => ?_)
  obtain ⟨rfl, rfl⟩ := hp1
  refine pm_if hK zmm20 .ne 5 15 rfl rfl (fun h0 => ?_) (fun h0 => ?_)
  · have h0 : (if 0 ≤ (μ 3 1) ∧ (μ 3 1) ≤ 17 then 1 else 0 : Int) ≠ (0 : Int) := h0
    have h0 := zif1 h0
    refine pm_blk hK zmm20 [] 8 27 [(2, 3), (0, v), (0, w), (0, μ 3 1)] [] (pm_up μ 11 (μ 3 1) v) [sx_bit Wm 11 = true, 0 ≤ μ 3 1 ∧ μ 3 1 < 18] rfl ⟨hb11, ⟨by omega, by omega⟩, trivial⟩ ?_
    obtain ⟨μ1, eμ1⟩ : ∃ μ', μ' = pm_up μ 11 (μ 3 1) v := ⟨_, rfl⟩
    rw [← eμ1]
    have hTμ1 : zTJ none μ1 := by rw [eμ1]; exact zT_upn hT zs11_0 rfl (i := μ 3 1) (by omega) (by omega) (by omega) (by omega)
    refine pm_blk hK zmm20 [] 5 34 [(2, 3), (0, v), (0, w), (0, μ 3 1)] [] (pm_up μ1 12 (μ 3 1) w) [sx_bit Wm 12 = true, 0 ≤ μ 3 1 ∧ μ 3 1 < 18] rfl ⟨hb12, ⟨by omega, by omega⟩, trivial⟩ ?_
    obtain ⟨μ2, eμ2⟩ : ∃ μ', μ' = pm_up μ1 12 (μ 3 1) w := ⟨_, rfl⟩
    rw [← eμ2]
    have hTμ2 : zTJ none μ2 := by rw [eμ2]; exact zT_upn hTμ1 zs12_0 rfl (i := μ 3 1) (by omega) (by omega) (by omega) (by omega)
    refine pm_blk hK zmm20 [] 5 41 [(2, 3), (0, v), (0, w), (0, μ 3 1)] [] (pm_up μ2 13 (μ 3 1) ((-1))) [sx_bit Wm 13 = true, 0 ≤ μ 3 1 ∧ μ 3 1 < 18] rfl ⟨hb13, ⟨by omega, by omega⟩, trivial⟩ ?_
    obtain ⟨μ3, eμ3⟩ : ∃ μ', μ' = pm_up μ2 13 (μ 3 1) ((-1)) := ⟨_, rfl⟩
    rw [← eμ3]
    have hTμ3 : zTJ none μ3 := by rw [eμ3]; exact zT_upn hTμ2 zs13_0 rfl (i := μ 3 1) (by omega) (by omega) (by omega) (by omega)
    refine pm_blk hK zmm20 [] 5 48 [(2, 3), (0, v), (0, w), (0, μ 3 1)] [] (pm_up μ3 14 (μ 3 1) 0) [sx_bit Wm 14 = true, 0 ≤ μ 3 1 ∧ μ 3 1 < 18] rfl ⟨hb14, ⟨by omega, by omega⟩, trivial⟩ ?_
    obtain ⟨μ4, eμ4⟩ : ∃ μ', μ' = pm_up μ3 14 (μ 3 1) 0 := ⟨_, rfl⟩
    rw [← eμ4]
    have hTμ4 : zTJ none μ4 := by rw [eμ4]; exact zT_upn hTμ3 zs14_0 rfl (i := μ 3 1) (by omega) (by omega) (by omega) (by omega)
    refine pm_blk hK zmm20 [] 5 55 [(2, 3), (0, v), (0, w), (0, μ 3 1)] [] (pm_up μ4 15 (μ 3 1) 0) [sx_bit Wm 15 = true, 0 ≤ μ 3 1 ∧ μ 3 1 < 18] rfl ⟨hb15, ⟨by omega, by omega⟩, trivial⟩ ?_
    obtain ⟨μ5, eμ5⟩ : ∃ μ', μ' = pm_up μ4 15 (μ 3 1) 0 := ⟨_, rfl⟩
    rw [← eμ5]
    have hTμ5 : zTJ none μ5 := by rw [eμ5]; exact zT_upn hTμ4 zs15_0 rfl (i := μ 3 1) (by omega) (by omega) (by omega) (by omega)
    have c0 : μ5 3 1 = μ 3 1 := by rw [eμ5, pm_up_off (by decide), eμ4, pm_up_off (by decide), eμ3, pm_up_off (by decide), eμ2, pm_up_off (by decide), eμ1, pm_up_off (by decide)]
    have g2 : μ5 3 1 = μ 3 1 := by rw [eμ5, pm_up_off (by decide), eμ4, pm_up_off (by decide), eμ3, pm_up_off (by decide), eμ2, pm_up_off (by decide), eμ1, pm_up_off (by decide)]
    have f3 := zT_get hTμ5 zs3_1 (i := 1) (by omega) (by omega)
    refine pm_blk hK zmm20 [] 6 65 [(2, 3), (0, v), (0, w), (0, μ 3 1)] [] (pm_up μ5 3 1 ((μ5 3 1) + 1)) [pm_in ((μ5 3 1) + 1), sx_bit Wm 3 = true] rfl ⟨pm_in_mk (by omega) (by omega), hb3, trivial⟩ ?_
    obtain ⟨μ6, eμ6⟩ : ∃ μ', μ' = pm_up μ5 3 1 ((μ5 3 1) + 1) := ⟨_, rfl⟩
    rw [← eμ6]
    have hTμ6 : zTJ none μ6 := by rw [eμ6]; exact zT_upn hTμ5 zs3_1 rfl (i := 1) (by omega) (by omega) (by omega) (by omega)
    refine pm_blk hK zmm20 [] 1 66 [(2, 3), (0, v), (0, w), (0, μ 3 1)] [(0, μ 3 1)] μ6 [] rfl trivial ?_
    have hAA := fm_addC_A (v := v) (w := w) hA (show 0 ≤ m ∧ m < 18 by omega) hq.1 (μ' := μ6) (by rw [eμ6, c0, eμ5, eμ4, eμ3, eμ2, eμ1, a1])
    exact pm_iret rfl rfl ⟨_, rfl, hTμ6, Or.inr ⟨by omega, a1, hAA.1, hAA.2⟩⟩
  · have h0 : (if 0 ≤ (μ 3 1) ∧ (μ 3 1) ≤ 17 then 1 else 0 : Int) = (0 : Int) := h0
    have h0 := zif0 h0
    refine pm_blk hK zmm20 [] 1 14 [(2, 3), (0, v), (0, w), (9, 0)] [(0, (-1))] μ [] rfl trivial ?_
    exact pm_iret rfl rfl ⟨_, rfl, hT, Or.inl ⟨by omega, rfl, rfl⟩⟩
set_option maxRecDepth 100000 in
theorem fm_shop (hK : zKK ST) {g p : Int} (hT : zTJ none μ) {N B pol : Int → Int} {n m : Int} (hC : fa_C false 3 n m (N, B) pol μ) (hn0 : 0 ≤ n) (hm0 : 0 ≤ m) (hq : n ≤ 12 ∧ m ≤ 18) (hb3 : sx_bit Wm 3 = true) (hb4 : sx_bit Wm 4 = true) (hb5 : sx_bit Wm 5 = true) (hb6 : sx_bit Wm 6 = true) (hb7 : sx_bit Wm 7 = true) (hb8 : sx_bit Wm 8 = true) (hb9 : sx_bit Wm 9 = true) (hb10 : sx_bit Wm 10 = true) (hb96 : sx_bit Wm 96 = true) (hbd : 2 ≤ bud.1 ∧ 45 ≤ bud.2.1) : zC D Wm ST b0 l Sg zM15 bud [(2, 1), (0, g), (0, p)] μ (fun st' μ' => ∃ x, st' = [(0, x)] ∧ zTJ none μ' ∧ ((((0 ≤ g ∧ g ≤ 99) ∧ 1 ≤ p ∧ p ≤ 99) ∧ n ≠ 12 ∧ x = n ∧ fa_C false 3 (n + 1) m (fa_addS N n g p, B) (pol) μ' ∧ fa_K0 μ' ∧ fa_fr [3, 4, 5, 6, 7, 8, 9, 10, 96] μ μ') ∨ (¬ (((0 ≤ g ∧ g ≤ 99) ∧ 1 ≤ p ∧ p ≤ 99) ∧ n ≠ 12) ∧ x = -1 ∧ μ' = μ))) := by
  have a0 : μ 3 0 = n := hC.1.1.1
  have a1 : μ 3 1 = m := hC.1.1.2.1
  refine pm_blk hK zmm15 [] 3 4 [(2, 1), (0, g), (0, p), (9, 0)] [(0, 99), (0, 0), (0, g)] μ [] rfl trivial ?_
  refine pm_call hK zmm15 (94, 1, 16, 3) zM16 (0, 0) [(0, g), (0, 0), (0, 99)] [] rfl rfl rfl rfl ⟨by omega, by rw [zn16]; omega⟩ (zh_within hK ⟨Nat.le_refl _, Nat.le_refl _⟩) (fun st1 μc1 hp1 => ?_)
  obtain ⟨rfl, rfl⟩ := hp1
  refine pm_if hK zmm15 .eq 13 20 rfl rfl (fun h0 => ?_) (fun h0 => ?_)
  · have h0 : (if 0 ≤ g ∧ g ≤ 99 then 1 else 0 : Int) = (0 : Int) := h0
    have h0 := zif0 h0
    refine pm_blk hK zmm15 [] 1 21 [(2, 1), (0, g), (0, p), (9, 0)] [(0, (-1))] μ [] rfl trivial ?_
    first
    | exact pm_iret rfl rfl ⟨_, rfl, hT, Or.inl ⟨⟨⟨by omega, by omega⟩, by omega, by omega⟩, p1, p2, hC9, hk0, hF9⟩⟩
    | (obtain ⟨p1, p2, p3⟩ := hS.resolve_right (fun q => by have := q.2.1; omega); exact pm_iret rfl rfl ⟨_, rfl, hT, Or.inr ⟨fun q => q.2 p1, by omega, p3⟩⟩)
    | exact pm_iret rfl rfl ⟨_, rfl, hT, Or.inr ⟨fun q => by omega, rfl, rfl⟩⟩
    | (exfalso; omega)
  · have h0 : (if 0 ≤ g ∧ g ≤ 99 then 1 else 0 : Int) ≠ (0 : Int) := h0
    have h0 := zif1 h0
    refine pm_blk hK zmm15 [] 3 14 [(2, 1), (0, g), (0, p), (9, 0)] [(0, 99), (0, 1), (0, p)] μ [] rfl trivial ?_
    refine pm_call hK zmm15 (94, 1, 16, 3) zM16 (0, 0) [(0, p), (0, 1), (0, 99)] [] rfl rfl rfl rfl ⟨by omega, by rw [zn16]; omega⟩ (zh_within hK ⟨Nat.le_refl _, Nat.le_refl _⟩) (fun st2 μc2 hp2 => ?_)
    obtain ⟨rfl, rfl⟩ := hp2
    refine pm_if hK zmm15 .ne 5 22 rfl rfl (fun h1 => ?_) (fun h1 => ?_)
    · have h1 : (if 1 ≤ p ∧ p ≤ 99 then 1 else 0 : Int) ≠ (0 : Int) := h1
      have h1 := zif1 h1
      refine pm_blk hK zmm15 [] 5 31 [(2, 1), (0, g), (0, p), (9, 0)] [(0, p), (0, g), (2, 3)] μ [] rfl trivial ?_
      refine pm_call hK zmm15 (98, 0, 17, 2) zM17 (1, 22) [(2, 3), (0, g), (0, p)] [] rfl rfl rfl rfl ⟨by omega, by rw [zn17]; omega⟩ (fm_addS hK (g := g) (p := p) hT hC.1 hn0 hm0 hq ⟨by omega, by omega⟩ ⟨by omega, by omega⟩ hb3 hb4 hb5 hb6 hb7 hb8 hb9 hb10 ⟨Nat.le_refl _, Nat.le_refl _⟩) (fun st3 μc3 hp3 => ?_)
      obtain ⟨xs, rfl, hTc3, hS⟩ := hp3
      refine pm_blk hK zmm15 [] 3 37 [(2, 1), (0, g), (0, p), (0, xs)] [(0, (-1)), (0, xs)] μc3 [] rfl trivial ?_
      refine pm_icmp hK zmm15 .eq 10 47 rfl rfl (fun h2 => ?_) (fun h2 => ?_)
      · have h2 : xs = ((-1) : Int) := h2
        refine pm_blk hK zmm15 [] 1 48 [(2, 1), (0, g), (0, p), (0, xs)] [(0, xs)] μc3 [] rfl trivial ?_
        first
        | exact pm_iret rfl rfl ⟨_, rfl, hTc3, Or.inl ⟨⟨⟨by omega, by omega⟩, by omega, by omega⟩, p1, p2, hC9, hk0, hF9⟩⟩
        | (obtain ⟨p1, p2, p3⟩ := hS.resolve_right (fun q => by have := q.2.1; omega); exact pm_iret rfl rfl ⟨_, rfl, hTc3, Or.inr ⟨fun q => q.2 p1, by omega, p3⟩⟩)
        | exact pm_iret rfl rfl ⟨_, rfl, hTc3, Or.inr ⟨fun q => by omega, rfl, rfl⟩⟩
        | (exfalso; omega)
      · have h2 : xs ≠ ((-1) : Int) := h2
        obtain ⟨p1, p2, hA1, hf1⟩ := hS.resolve_left (fun q => absurd q.2.1 (by omega))
        have hC1 : fa_C false 3 (n + 1) m (fa_addS N n g p, B) (pol) μc3 := ⟨hA1, fun _ => fa_B_n (fa_B_fr (hC.2 rfl) (hf1 2 rfl) (hf1 16 rfl)) (fa_addS_ne (by omega))⟩
        have hF1 : fa_fr [3, 4, 5, 6, 7, 8, 9, 10, 96] μ μc3 := fa_fr_tr fa_fr_0 hf1 rfl
        refine pm_blk hK zmm15 [] 2 44 [(2, 1), (0, g), (0, p), (0, xs)] [(2, 96)] μc3 [] rfl trivial ?_
        refine pm_call hK zmm15 (91, 0, 14, 0) zM14 (0, 0) [(2, 96)] [] rfl rfl rfl rfl ⟨by omega, by rw [zn14]; omega⟩ (fc_forget hK hTc3 hb96 ⟨Nat.le_refl _, Nat.le_refl _⟩) (fun st4 μc4 hp4 => ?_)
        obtain ⟨rfl, hTc4, hk0, hfr4⟩ := hp4
        have hC9 := fa_C_m hC1 (fa_A_fr hC1.1 (fun r h1 h2 => hfr4 r (by omega))) (hfr4 2 (by decide)) (hfr4 16 (by decide)) rfl
        have hF9 := fa_fr_t hF1 (fa_fr_1 hfr4 rfl)
        refine pm_blk hK zmm15 [] 1 48 [(2, 1), (0, g), (0, p), (0, xs)] [(0, xs)] μc4 [] rfl trivial ?_
        first
        | exact pm_iret rfl rfl ⟨_, rfl, hTc4, Or.inl ⟨⟨⟨by omega, by omega⟩, by omega, by omega⟩, p1, p2, hC9, hk0, hF9⟩⟩
        | (obtain ⟨p1, p2, p3⟩ := hS.resolve_right (fun q => by have := q.2.1; omega); exact pm_iret rfl rfl ⟨_, rfl, hTc4, Or.inr ⟨fun q => q.2 p1, by omega, p3⟩⟩)
        | exact pm_iret rfl rfl ⟨_, rfl, hTc4, Or.inr ⟨fun q => by omega, rfl, rfl⟩⟩
        | (exfalso; omega)
    · have h1 : (if 1 ≤ p ∧ p ≤ 99 then 1 else 0 : Int) = (0 : Int) := h1
      have h1 := zif0 h1
      refine pm_blk hK zmm15 [] 1 21 [(2, 1), (0, g), (0, p), (9, 0)] [(0, (-1))] μ [] rfl trivial ?_
      first
      | exact pm_iret rfl rfl ⟨_, rfl, hT, Or.inl ⟨⟨⟨by omega, by omega⟩, by omega, by omega⟩, p1, p2, hC9, hk0, hF9⟩⟩
      | (obtain ⟨p1, p2, p3⟩ := hS.resolve_right (fun q => by have := q.2.1; omega); exact pm_iret rfl rfl ⟨_, rfl, hT, Or.inr ⟨fun q => q.2 p1, by omega, p3⟩⟩)
      | exact pm_iret rfl rfl ⟨_, rfl, hT, Or.inr ⟨fun q => by omega, rfl, rfl⟩⟩
      | (exfalso; omega)
set_option maxRecDepth 100000 in
theorem fm_customer (hK : zKK ST) {v w : Int} (hT : zTJ none μ) {N B pol : Int → Int} {n m : Int} (hC : fa_C false 3 n m (N, B) pol μ) (hn0 : 0 ≤ n) (hm0 : 0 ≤ m) (hq : n ≤ 12 ∧ m ≤ 18) (hb3 : sx_bit Wm 3 = true) (hb11 : sx_bit Wm 11 = true) (hb12 : sx_bit Wm 12 = true) (hb13 : sx_bit Wm 13 = true) (hb14 : sx_bit Wm 14 = true) (hb15 : sx_bit Wm 15 = true) (hb96 : sx_bit Wm 96 = true) (hbd : 2 ≤ bud.1 ∧ 45 ≤ bud.2.1) : zC D Wm ST b0 l Sg zM19 bud [(2, 1), (0, v), (0, w)] μ (fun st' μ' => ∃ x, st' = [(0, x)] ∧ zTJ none μ' ∧ ((((0 ≤ v ∧ v ≤ 9999) ∧ 0 ≤ w ∧ w ≤ 9) ∧ m ≠ 18 ∧ x = m ∧ fa_C false 3 n (m + 1) (fa_addC N m v, B) (fa_up pol m w) μ' ∧ fa_K0 μ' ∧ fa_fr [3, 11, 12, 13, 14, 15, 96] μ μ') ∨ (¬ (((0 ≤ v ∧ v ≤ 9999) ∧ 0 ≤ w ∧ w ≤ 9) ∧ m ≠ 18) ∧ x = -1 ∧ μ' = μ))) := by
  have a0 : μ 3 0 = n := hC.1.1.1
  have a1 : μ 3 1 = m := hC.1.1.2.1
  refine pm_blk hK zmm19 [] 3 5 [(2, 1), (0, v), (0, w), (9, 0)] [(0, 9999), (0, 0), (0, v)] μ [] rfl trivial ?_
  refine pm_call hK zmm19 (94, 1, 16, 3) zM16 (0, 0) [(0, v), (0, 0), (0, 9999)] [] rfl rfl rfl rfl ⟨by omega, by rw [zn16]; omega⟩ (zh_within hK ⟨Nat.le_refl _, Nat.le_refl _⟩) (fun st1 μc1 hp1 => ?_)
  obtain ⟨rfl, rfl⟩ := hp1
  refine pm_if hK zmm19 .eq 13 21 rfl rfl (fun h0 => ?_) (fun h0 => ?_)
  · have h0 : (if 0 ≤ v ∧ v ≤ 9999 then 1 else 0 : Int) = (0 : Int) := h0
    have h0 := zif0 h0
    refine pm_blk hK zmm19 [] 1 22 [(2, 1), (0, v), (0, w), (9, 0)] [(0, (-1))] μ [] rfl trivial ?_
    first
    | exact pm_iret rfl rfl ⟨_, rfl, hT, Or.inl ⟨⟨⟨by omega, by omega⟩, by omega, by omega⟩, p1, p2, hC9, hk0, hF9⟩⟩
    | (obtain ⟨p1, p2, p3⟩ := hS.resolve_right (fun q => by have := q.2.1; omega); exact pm_iret rfl rfl ⟨_, rfl, hT, Or.inr ⟨fun q => q.2 p1, by omega, p3⟩⟩)
    | exact pm_iret rfl rfl ⟨_, rfl, hT, Or.inr ⟨fun q => by omega, rfl, rfl⟩⟩
    | (exfalso; omega)
  · have h0 : (if 0 ≤ v ∧ v ≤ 9999 then 1 else 0 : Int) ≠ (0 : Int) := h0
    have h0 := zif1 h0
    refine pm_blk hK zmm19 [] 3 15 [(2, 1), (0, v), (0, w), (9, 0)] [(0, 9), (0, 0), (0, w)] μ [] rfl trivial ?_
    refine pm_call hK zmm19 (94, 1, 16, 3) zM16 (0, 0) [(0, w), (0, 0), (0, 9)] [] rfl rfl rfl rfl ⟨by omega, by rw [zn16]; omega⟩ (zh_within hK ⟨Nat.le_refl _, Nat.le_refl _⟩) (fun st2 μc2 hp2 => ?_)
    obtain ⟨rfl, rfl⟩ := hp2
    refine pm_if hK zmm19 .ne 5 23 rfl rfl (fun h1 => ?_) (fun h1 => ?_)
    · have h1 : (if 0 ≤ w ∧ w ≤ 9 then 1 else 0 : Int) ≠ (0 : Int) := h1
      have h1 := zif1 h1
      refine pm_blk hK zmm19 [] 5 32 [(2, 1), (0, v), (0, w), (9, 0)] [(0, w), (0, v), (2, 3)] μ [] rfl trivial ?_
      refine pm_call hK zmm19 (102, 0, 20, 2) zM20 (1, 22) [(2, 3), (0, v), (0, w)] [] rfl rfl rfl rfl ⟨by omega, by rw [zn20]; omega⟩ (fm_addC hK (v := v) (w := w) hT hC.1 hn0 hm0 hq ⟨by omega, by omega⟩ ⟨by omega, by omega⟩ hb3 hb11 hb12 hb13 hb14 hb15 ⟨Nat.le_refl _, Nat.le_refl _⟩) (fun st3 μc3 hp3 => ?_)
      obtain ⟨xs, rfl, hTc3, hS⟩ := hp3
      refine pm_blk hK zmm19 [] 3 38 [(2, 1), (0, v), (0, w), (0, xs)] [(0, (-1)), (0, xs)] μc3 [] rfl trivial ?_
      refine pm_icmp hK zmm19 .eq 10 48 rfl rfl (fun h2 => ?_) (fun h2 => ?_)
      · have h2 : xs = ((-1) : Int) := h2
        refine pm_blk hK zmm19 [] 1 49 [(2, 1), (0, v), (0, w), (0, xs)] [(0, xs)] μc3 [] rfl trivial ?_
        first
        | exact pm_iret rfl rfl ⟨_, rfl, hTc3, Or.inl ⟨⟨⟨by omega, by omega⟩, by omega, by omega⟩, p1, p2, hC9, hk0, hF9⟩⟩
        | (obtain ⟨p1, p2, p3⟩ := hS.resolve_right (fun q => by have := q.2.1; omega); exact pm_iret rfl rfl ⟨_, rfl, hTc3, Or.inr ⟨fun q => q.2 p1, by omega, p3⟩⟩)
        | exact pm_iret rfl rfl ⟨_, rfl, hTc3, Or.inr ⟨fun q => by omega, rfl, rfl⟩⟩
        | (exfalso; omega)
      · have h2 : xs ≠ ((-1) : Int) := h2
        obtain ⟨p1, p2, hA1, hf1⟩ := hS.resolve_left (fun q => absurd q.2.1 (by omega))
        have hC1 : fa_C false 3 n (m + 1) (fa_addC N m v, B) (fa_up pol m w) μc3 := ⟨hA1, fun _ => fa_B_n (fa_B_fr (hC.2 rfl) (hf1 2 rfl) (hf1 16 rfl)) (fa_addC_ne (by omega))⟩
        have hF1 : fa_fr [3, 11, 12, 13, 14, 15, 96] μ μc3 := fa_fr_tr fa_fr_0 hf1 rfl
        refine pm_blk hK zmm19 [] 2 45 [(2, 1), (0, v), (0, w), (0, xs)] [(2, 96)] μc3 [] rfl trivial ?_
        refine pm_call hK zmm19 (91, 0, 14, 0) zM14 (0, 0) [(2, 96)] [] rfl rfl rfl rfl ⟨by omega, by rw [zn14]; omega⟩ (fc_forget hK hTc3 hb96 ⟨Nat.le_refl _, Nat.le_refl _⟩) (fun st4 μc4 hp4 => ?_)
        obtain ⟨rfl, hTc4, hk0, hfr4⟩ := hp4
        have hC9 := fa_C_m hC1 (fa_A_fr hC1.1 (fun r h1 h2 => hfr4 r (by omega))) (hfr4 2 (by decide)) (hfr4 16 (by decide)) rfl
        have hF9 := fa_fr_t hF1 (fa_fr_1 hfr4 rfl)
        refine pm_blk hK zmm19 [] 1 49 [(2, 1), (0, v), (0, w), (0, xs)] [(0, xs)] μc4 [] rfl trivial ?_
        first
        | exact pm_iret rfl rfl ⟨_, rfl, hTc4, Or.inl ⟨⟨⟨by omega, by omega⟩, by omega, by omega⟩, p1, p2, hC9, hk0, hF9⟩⟩
        | (obtain ⟨p1, p2, p3⟩ := hS.resolve_right (fun q => by have := q.2.1; omega); exact pm_iret rfl rfl ⟨_, rfl, hTc4, Or.inr ⟨fun q => q.2 p1, by omega, p3⟩⟩)
        | exact pm_iret rfl rfl ⟨_, rfl, hTc4, Or.inr ⟨fun q => by omega, rfl, rfl⟩⟩
        | (exfalso; omega)
    · have h1 : (if 0 ≤ w ∧ w ≤ 9 then 1 else 0 : Int) = (0 : Int) := h1
      have h1 := zif0 h1
      refine pm_blk hK zmm19 [] 1 22 [(2, 1), (0, v), (0, w), (9, 0)] [(0, (-1))] μ [] rfl trivial ?_
      first
      | exact pm_iret rfl rfl ⟨_, rfl, hT, Or.inl ⟨⟨⟨by omega, by omega⟩, by omega, by omega⟩, p1, p2, hC9, hk0, hF9⟩⟩
      | (obtain ⟨p1, p2, p3⟩ := hS.resolve_right (fun q => by have := q.2.1; omega); exact pm_iret rfl rfl ⟨_, rfl, hT, Or.inr ⟨fun q => q.2 p1, by omega, p3⟩⟩)
      | exact pm_iret rfl rfl ⟨_, rfl, hT, Or.inr ⟨fun q => by omega, rfl, rfl⟩⟩
      | (exfalso; omega)
end ZHW
