/-! F: the class: OF; walks printed by program (wip/p30/pmgen.py) and filled by hand -/
section ZHW
variable {φ : Option pm_Mem}
variable {D : va_G} {Wm : Nat} {ST : List (String × String × String × Nat)} {b0 : sx_B} {l : Launch} {Sg : Nat → Option Nat} {bud : sx_Bu} {μ : pm_Mem} {B0 : Nat → Prop} {J : (Nat → Option Nat) → Heap → Prop}
set_option maxRecDepth 100000 in
theorem fg_ofc (hK : zKK ST) {s w : Int} (hT : zTJ φ μ) (hv_w : -2147483648 ≤ w ∧ w ≤ 2147483647) {N B pol : Int → Int} {n m : Int} (hC : fa_C false 3 n m (N, B) pol μ) (hn0 : 0 ≤ n) (hm0 : 0 ≤ m) (hq : n ≤ 12 ∧ m ≤ 18) {k9 : Nat} (hn26 : μ 26 2 = (k9 : Int)) (hm16 : k9 ≤ 16) (hlv : zLvs (μ 27) k9)  (hbd : 3 ≤ bud.1 ∧ 72 ≤ bud.2.1) : zC D Wm ST b0 l Sg zM56 bud [(2, 1), (0, s), (0, w)] μ (fun st' μ' => μ = μ' ∧ ∃ ol, st' = [(0, fg_of n m N ol s w)] ∧ ((0 ≤ s ∧ s < n) → (0 ≤ w - 10 ∧ w - 10 < n) → zlf (μ 27) k9 s (w - 10) ol)) := by
  have a0 : μ 3 0 = n := hC.1.1.1
  have a1 : μ 3 1 = m := hC.1.1.2.1
  have w10 := pm_w32_lo (x := w - 10) (by omega) (by omega)
  refine pm_blk hK zmm56 [23, 41] 6 10 [(2, 1), (0, s), (0, w), (2, 3)] [(0, s), (2, 3)] μ [] rfl trivial ?_
  refine pm_call hK zmm56 (105, 0, 22, 1) zM22 (0, 0) [(2, 3), (0, s)] [] rfl rfl rfl rfl ⟨by omega, by rw [zn22]; omega⟩ (fc_isShop3 hK (s := s) ⟨Nat.le_refl _, Nat.le_refl _⟩) (fun st1 μc1 hp1 => ?_)
  obtain ⟨rfl, rfl⟩ := hp1
  refine pm_if hK zmm56 .ne 6 19 rfl rfl (fun h0 => ?_) (fun h0 => ?_)
  · have h0 : (if 0 ≤ (s) ∧ (s) < μ 3 0 then 1 else 0 : Int) ≠ (0 : Int) := h0
    have h0 := zif1 h0
    have w1 := zw32 (w - 10)
    refine pm_blk hK zmm56 [23, 41] 4 24 [(2, 1), (0, s), (0, w), (2, 3)] [(0, pm_w32 (w - 10)), (2, 3)] μ [] rfl trivial ?_
    refine pm_call hK zmm56 (105, 0, 22, 1) zM22 (0, 0) [(2, 3), (0, pm_w32 (w - 10))] [] rfl rfl rfl rfl ⟨by omega, by rw [zn22]; omega⟩ (fc_isShop3 hK (s := (pm_w32 (w - 10))) ⟨Nat.le_refl _, Nat.le_refl _⟩) (fun st2 μc2 hp2 => ?_)
    obtain ⟨rfl, rfl⟩ := hp2
    refine pm_if hK zmm56 .eq 19 46 rfl rfl (fun h1 => ?_) (fun h1 => ?_)
    · have h1 : (if 0 ≤ ((pm_w32 (w - 10))) ∧ ((pm_w32 (w - 10))) < μ 3 0 then 1 else 0 : Int) = (0 : Int) := h1
      have h1 := zif0 h1
      refine pm_blk hK zmm56 [23, 41] 1 47 [(2, 1), (0, s), (0, w), (2, 3)] [(0, w)] μ [] rfl trivial ?_
      have ht2 : (w < 0 ∨ 7 < w) ∨ w = 0 ∨ w = 1 ∨ w = 2 ∨ w = 3 ∨ w = 4 ∨ w = 5 ∨ w = 6 ∨ w = 7 := by omega
      rcases ht2 with ht2 | ht2 | ht2 | ht2 | ht2 | ht2 | ht2 | ht2 | ht2
      · refine zp_tout hK zmm56 rfl ht2 (tgt := 147) (by decide) ?_
        refine pm_blk hK zmm56 [23, 41] 1 149 [(2, 1), (0, s), (0, w), (2, 3)] [(0, (-2))] μ [] rfl trivial ?_
        exact pm_iret rfl rfl ⟨rfl, 0, by rw [fg_of_z (by omega)], fun _ h => absurd h (by omega)⟩
      · refine zp_tin hK zmm56 (off := 45) (tgt := 92) rfl (by omega) (by omega) (by rw [ht2]; rfl) (by decide) ?_
        have f2 := zT_get hT zs4_0 (i := s) (by omega) (by omega)
        refine pm_blk hK zmm56 [23, 41] 4 98 [(2, 1), (0, s), (0, w), (2, 3)] [(0, μ 4 s)] μ [0 ≤ s ∧ s < 12] rfl ⟨⟨by omega, by omega⟩, trivial⟩ ?_
        exact pm_iret rfl rfl ⟨rfl, 0, by rw [show w = 0 by omega, fg_of_0 ⟨by omega, by omega⟩, fa_r_goods hC.1 (by omega) (by omega)], fun _ h => absurd h (by omega)⟩
      · refine zp_tin hK zmm56 (off := 52) (tgt := 99) rfl (by omega) (by omega) (by rw [ht2]; rfl) (by decide) ?_
        have f3 := zT_get hT zs5_0 (i := s) (by omega) (by omega)
        refine pm_blk hK zmm56 [23, 41] 4 105 [(2, 1), (0, s), (0, w), (2, 3)] [(0, μ 5 s)] μ [0 ≤ s ∧ s < 12] rfl ⟨⟨by omega, by omega⟩, trivial⟩ ?_
        exact pm_iret rfl rfl ⟨rfl, 0, by rw [show w = 1 by omega, fg_of_1 ⟨by omega, by omega⟩, fa_r_price hC.1 (by omega) (by omega)], fun _ h => absurd h (by omega)⟩
      · refine zp_tin hK zmm56 (off := 59) (tgt := 106) rfl (by omega) (by omega) (by rw [ht2]; rfl) (by decide) ?_
        have f4 := zT_get hT zs6_0 (i := s) (by omega) (by omega)
        refine pm_blk hK zmm56 [23, 41] 4 112 [(2, 1), (0, s), (0, w), (2, 3)] [(0, μ 6 s)] μ [0 ≤ s ∧ s < 12] rfl ⟨⟨by omega, by omega⟩, trivial⟩ ?_
        exact pm_iret rfl rfl ⟨rfl, 0, by rw [show w = 2 by omega, fg_of_2 ⟨by omega, by omega⟩, fa_r_till hC.1 (by omega) (by omega)], fun _ h => absurd h (by omega)⟩
      · refine zp_tin hK zmm56 (off := 66) (tgt := 113) rfl (by omega) (by omega) (by rw [ht2]; rfl) (by decide) ?_
        have f5 := zT_get hT zs7_0 (i := s) (by omega) (by omega)
        refine pm_blk hK zmm56 [23, 41] 4 119 [(2, 1), (0, s), (0, w), (2, 3)] [(0, μ 7 s)] μ [0 ≤ s ∧ s < 12] rfl ⟨⟨by omega, by omega⟩, trivial⟩ ?_
        exact pm_iret rfl rfl ⟨rfl, 0, by rw [show w = 3 by omega, fg_of_3 ⟨by omega, by omega⟩, fa_r_open hC.1 (by omega) (by omega)], fun _ h => absurd h (by omega)⟩
      · refine zp_tin hK zmm56 (off := 73) (tgt := 120) rfl (by omega) (by omega) (by rw [ht2]; rfl) (by decide) ?_
        have f6 := zT_get hT zs8_0 (i := s) (by omega) (by omega)
        refine pm_blk hK zmm56 [23, 41] 4 126 [(2, 1), (0, s), (0, w), (2, 3)] [(0, μ 8 s)] μ [0 ≤ s ∧ s < 12] rfl ⟨⟨by omega, by omega⟩, trivial⟩ ?_
        exact pm_iret rfl rfl ⟨rfl, 0, by rw [show w = 4 by omega, fg_of_4 ⟨by omega, by omega⟩, fa_r_last hC.1 (by omega) (by omega)], fun _ h => absurd h (by omega)⟩
      · refine zp_tin hK zmm56 (off := 80) (tgt := 127) rfl (by omega) (by omega) (by rw [ht2]; rfl) (by decide) ?_
        have f7 := zT_get hT zs9_0 (i := s) (by omega) (by omega)
        refine pm_blk hK zmm56 [23, 41] 4 133 [(2, 1), (0, s), (0, w), (2, 3)] [(0, μ 9 s)] μ [0 ≤ s ∧ s < 12] rfl ⟨⟨by omega, by omega⟩, trivial⟩ ?_
        exact pm_iret rfl rfl ⟨rfl, 0, by rw [show w = 5 by omega, fg_of_5 ⟨by omega, by omega⟩, fa_r_before hC.1 (by omega) (by omega)], fun _ h => absurd h (by omega)⟩
      · refine zp_tin hK zmm56 (off := 87) (tgt := 134) rfl (by omega) (by omega) (by rw [ht2]; rfl) (by decide) ?_
        have f8 := zT_get hT zs10_0 (i := s) (by omega) (by omega)
        refine pm_blk hK zmm56 [23, 41] 4 140 [(2, 1), (0, s), (0, w), (2, 3)] [(0, μ 10 s)] μ [0 ≤ s ∧ s < 12] rfl ⟨⟨by omega, by omega⟩, trivial⟩ ?_
        exact pm_iret rfl rfl ⟨rfl, 0, by rw [show w = 6 by omega, fg_of_6 ⟨by omega, by omega⟩, fa_r_nights hC.1 (by omega) (by omega)], fun _ h => absurd h (by omega)⟩
      · refine zp_tin hK zmm56 (off := 94) (tgt := 141) rfl (by omega) (by omega) (by rw [ht2]; rfl) (by decide) ?_
        refine pm_blk hK zmm56 [23, 41] 2 143 [(2, 1), (0, s), (0, w), (2, 3)] [(0, s), (2, 3)] μ [] rfl trivial ?_
        refine pm_call hK zmm56 (228, 0, 216, 1) zM216 (0, 0) [(2, 3), (0, s)] [] rfl rfl rfl rfl ⟨by omega, by rw [zn216]; omega⟩ (fc_inside3 hK (s := s) hT hC.1 hn0 hm0 hq ⟨Nat.le_refl _, Nat.le_refl _⟩) (fun st3 μc3 hp3 => ?_)
        obtain ⟨rfl, rfl⟩ := hp3
        have hlt := fq_set_lt N (s) m.toNat
        have hp : 2 ^ m.toNat ≤ 2 ^ 18 := Nat.pow_le_pow_right (by decide) (by omega)
        have hp8 : (2 : Nat) ^ 18 = 262144 := by decide
        exact pm_iret rfl rfl ⟨rfl, 0, by rw [show w = 7 by omega, fg_of_7 ⟨by omega, by omega⟩], fun _ h => absurd h (by omega)⟩
    · have h1 : (if 0 ≤ ((pm_w32 (w - 10))) ∧ ((pm_w32 (w - 10))) < μ 3 0 then 1 else 0 : Int) ≠ (0 : Int) := h1
      have h1 := zif1 h1
      have w9 := zw32 (w - 10)
      refine pm_blk hK zmm56 [23, 41] 7 42 [(2, 1), (0, s), (0, w), (2, 3)] [(0, pm_w32 (w - 10)), (0, s), (2, 26)] μ [] rfl trivial ?_
      refine pm_call hK zmm56 (209, 1, 260, 3) zM260 (2, 45) [(2, 26), (0, s), (0, pm_w32 (w - 10))] [] rfl rfl rfl rfl ⟨by omega, by rw [zn260]; omega⟩ (zk_oneLine hK hn26 hm16 hlv ⟨Nat.le_refl _, Nat.le_refl _⟩) (fun st4 μc4 hp4 => ?_)
      obtain ⟨rfl, x4, rfl, hx4⟩ := hp4
      have hol := hx4
      exact pm_iret rfl rfl ⟨rfl, _, by rw [fg_of_l ⟨by omega, by omega⟩ ⟨by omega, by omega⟩], fun _ _ => by have h9 := hol; rwa [show pm_w32 (w - 10) = w - 10 by omega] at h9⟩
  · have h0 : (if 0 ≤ (s) ∧ (s) < μ 3 0 then 1 else 0 : Int) = (0 : Int) := h0
    have h0 := zif0 h0
    refine pm_blk hK zmm56 [23, 41] 1 18 [(2, 1), (0, s), (0, w), (2, 3)] [(0, (-2))] μ [] rfl trivial ?_
    exact pm_iret rfl rfl ⟨rfl, 0, by rw [fg_of_n (by omega)], fun h => absurd h (by omega)⟩
end ZHW
