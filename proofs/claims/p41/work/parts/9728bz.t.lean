/-! F: the class: what is told; walks printed by program (wip/p30/pmgen.py) and filled by hand -/
section ZHW
variable {D : va_G} {Wm : Nat} {ST : List (String × String × String × Nat)} {b0 : sx_B} {l : Launch} {Sg : Nat → Option Nat} {bud : sx_Bu} {μ : pm_Mem} {B0 : Nat → Prop} {J : (Nat → Option Nat) → Heap → Prop}
set_option maxRecDepth 100000 in
theorem fm_opensR (hK : zKK ST) {s : Int} (hT : zTJ none μ) (hs : 0 ≤ s ∧ s < 12) (hb7 : sx_bit Wm 7 = true) (hb8 : sx_bit Wm 8 = true) (hb9 : sx_bit Wm 9 = true) (hbd : 0 ≤ bud.1 ∧ 0 ≤ bud.2.1) : zC D Wm ST b0 l Sg zM18 bud [(2, 3), (0, s)] μ (fun st' μ' => st' = [] ∧ zTJ none μ' ∧ μ' = pm_up (pm_up (pm_up μ 7 s 1) 8 s (-1)) 9 s (-1)) := by
  refine pm_blk hK zmm18 [] 5 7 [(2, 3), (0, s)] [] (pm_up μ 7 s 1) [sx_bit Wm 7 = true, 0 ≤ s ∧ s < 12] rfl ⟨hb7, ⟨by omega, by omega⟩, trivial⟩ ?_
  obtain ⟨μ1, eμ1⟩ : ∃ μ', μ' = pm_up μ 7 s 1 := ⟨_, rfl⟩
  rw [← eμ1]
  have hTμ1 : zTJ none μ1 := by rw [eμ1]; exact zT_upn hT zs7_0 rfl (i := s) (by omega) (by omega) (by omega) (by omega)
  refine pm_blk hK zmm18 [] 5 14 [(2, 3), (0, s)] [] (pm_up μ1 8 s ((-1))) [sx_bit Wm 8 = true, 0 ≤ s ∧ s < 12] rfl ⟨hb8, ⟨by omega, by omega⟩, trivial⟩ ?_
  obtain ⟨μ2, eμ2⟩ : ∃ μ', μ' = pm_up μ1 8 s ((-1)) := ⟨_, rfl⟩
  rw [← eμ2]
  have hTμ2 : zTJ none μ2 := by rw [eμ2]; exact zT_upn hTμ1 zs8_0 rfl (i := s) (by omega) (by omega) (by omega) (by omega)
  refine pm_blk hK zmm18 [] 5 21 [(2, 3), (0, s)] [] (pm_up μ2 9 s ((-1))) [sx_bit Wm 9 = true, 0 ≤ s ∧ s < 12] rfl ⟨hb9, ⟨by omega, by omega⟩, trivial⟩ ?_
  obtain ⟨μ3, eμ3⟩ : ∃ μ', μ' = pm_up μ2 9 s ((-1)) := ⟨_, rfl⟩
  rw [← eμ3]
  have hTμ3 : zTJ none μ3 := by rw [eμ3]; exact zT_upn hTμ2 zs9_0 rfl (i := s) (by omega) (by omega) (by omega) (by omega)
  exact pm_vret rfl rfl ⟨rfl, hTμ3, by rw [eμ3, eμ2, eμ1]⟩
set_option maxRecDepth 100000 in
theorem fm_set (hK : zKK ST) {w c v : Int} (hT : zTJ none μ) {N B pol : Int → Int} {n m : Int} (hC : fa_C false 3 n m (N, B) pol μ) (hn0 : 0 ≤ n) (hm0 : 0 ≤ m) (hq : n ≤ 12 ∧ m ≤ 18) (hb5 : sx_bit Wm 5 = true) (hb11 : sx_bit Wm 11 = true) (hb12 : sx_bit Wm 12 = true) (hb96 : sx_bit Wm 96 = true) (hbd : 1 ≤ bud.1 ∧ 22 ≤ bud.2.1) : zC D Wm ST b0 l Sg zM21 bud [(2, 1), (0, w), (0, c), (0, v)] μ (fun st' μ' => ∃ x, st' = [(0, x)] ∧ zTJ none μ' ∧ ((fa_setP n m w c v ∧ x = 1 ∧ fa_C false 3 n m (fa_setN N w c v, B) (fa_setL pol w c v) μ' ∧ fa_K0 μ' ∧ fa_fr [5, 11, 12, 96] μ μ') ∨ (¬ fa_setP n m w c v ∧ x = 0 ∧ μ' = μ))) := by
  have a0 : μ 3 0 = n := hC.1.1.1
  have a1 : μ 3 1 = m := hC.1.1.2.1
  refine pm_blk hK zmm21 [] 5 10 [(2, 1), (0, w), (0, c), (0, v), (2, 3)] [(0, w)] μ [] rfl trivial ?_
  refine pm_if hK zmm21 .ne 33 43 rfl rfl (fun h0 => ?_) (fun h0 => ?_)
  · have h0 : w ≠ (0 : Int) := h0
    refine pm_blk hK zmm21 [] 2 45 [(2, 1), (0, w), (0, c), (0, v), (2, 3)] [(0, 1), (0, w)] μ [] rfl trivial ?_
    refine pm_icmp hK zmm21 .ne 34 79 rfl rfl (fun h1 => ?_) (fun h1 => ?_)
    · have h1 : w ≠ (1 : Int) := h1
      refine pm_blk hK zmm21 [] 2 81 [(2, 1), (0, w), (0, c), (0, v), (2, 3)] [(0, 2), (0, w)] μ [] rfl trivial ?_
      refine pm_icmp hK zmm21 .ne 33 114 rfl rfl (fun h2 => ?_) (fun h2 => ?_)
      · have h2 : w ≠ (2 : Int) := h2
        refine pm_blk hK zmm21 [] 1 115 [(2, 1), (0, w), (0, c), (0, v), (2, 3)] [(0, 0)] μ [] rfl trivial ?_
        exact pm_zret rfl rfl (by first | exact Or.inl rfl | exact Or.inr rfl | omega) ⟨_, rfl, hT, Or.inr ⟨by unfold fa_setP; omega, rfl, rfl⟩⟩
      · have h2 : w = (2 : Int) := h2
        refine pm_blk hK zmm21 [] 2 87 [(2, 1), (0, w), (0, c), (0, v), (2, 3)] [(0, c), (2, 3)] μ [] rfl trivial ?_
        refine pm_call hK zmm21 (113, 0, 23, 1) zM23 (0, 0) [(2, 3), (0, c)] [] rfl rfl rfl rfl ⟨by omega, by rw [zn23]; omega⟩ (fc_isCustomer3 hK (s := c) ⟨Nat.le_refl _, Nat.le_refl _⟩) (fun st1 μc1 hp1 => ?_)
        obtain ⟨rfl, rfl⟩ := hp1
        refine pm_if hK zmm21 .eq 24 114 rfl rfl (fun h3 => ?_) (fun h3 => ?_)
        · have h3 : (if 0 ≤ (c) ∧ (c) < μ 3 1 then 1 else 0 : Int) = (0 : Int) := h3
          have h3 := zif0 h3
          refine pm_blk hK zmm21 [] 1 115 [(2, 1), (0, w), (0, c), (0, v), (2, 3)] [(0, 0)] μ [] rfl trivial ?_
          exact pm_zret rfl rfl (by first | exact Or.inl rfl | exact Or.inr rfl | omega) ⟨_, rfl, hT, Or.inr ⟨by unfold fa_setP; omega, rfl, rfl⟩⟩
        · have h3 : (if 0 ≤ (c) ∧ (c) < μ 3 1 then 1 else 0 : Int) ≠ (0 : Int) := h3
          have h3 := zif1 h3
          refine pm_blk hK zmm21 [] 3 97 [(2, 1), (0, w), (0, c), (0, v), (2, 3)] [(0, 9), (0, 0), (0, v)] μ [] rfl trivial ?_
          refine pm_call hK zmm21 (94, 1, 16, 3) zM16 (0, 0) [(0, v), (0, 0), (0, 9)] [] rfl rfl rfl rfl ⟨by omega, by rw [zn16]; omega⟩ (zh_within hK ⟨Nat.le_refl _, Nat.le_refl _⟩) (fun st2 μc2 hp2 => ?_)
          obtain ⟨rfl, rfl⟩ := hp2
          refine pm_if hK zmm21 .eq 14 114 rfl rfl (fun h4 => ?_) (fun h4 => ?_)
          · have h4 : (if 0 ≤ v ∧ v ≤ 9 then 1 else 0 : Int) = (0 : Int) := h4
            have h4 := zif0 h4
            refine pm_blk hK zmm21 [] 1 115 [(2, 1), (0, w), (0, c), (0, v), (2, 3)] [(0, 0)] μ [] rfl trivial ?_
            exact pm_zret rfl rfl (by first | exact Or.inl rfl | exact Or.inr rfl | omega) ⟨_, rfl, hT, Or.inr ⟨by unfold fa_setP; omega, rfl, rfl⟩⟩
          · have h4 : (if 0 ≤ v ∧ v ≤ 9 then 1 else 0 : Int) ≠ (0 : Int) := h4
            have h4 := zif1 h4
            refine pm_blk hK zmm21 [] 5 111 [(2, 1), (0, w), (0, c), (0, v), (2, 3)] [] (pm_up μ 12 c v) [sx_bit Wm 12 = true, 0 ≤ c ∧ c < 18] rfl ⟨hb12, ⟨by omega, by omega⟩, trivial⟩ ?_
            obtain ⟨μ1, eμ1⟩ : ∃ μ', μ' = pm_up μ 12 c v := ⟨_, rfl⟩
            rw [← eμ1]
            have hTμ1 : zTJ none μ1 := by rw [eμ1]; exact zT_upn hT zs12_0 rfl (i := c) (by omega) (by omega) (by omega) (by omega)
            have hC1 : fa_C false 3 n m (fa_setN N w c v, B) (fa_setL pol w c v) μ1 := by rw [eμ1, show w = 2 by omega, fa_setN_2, fa_setL_2]; exact ⟨fa_w_polite hC.1, fun e => fa_B_fr (hC.2 e) (pm_up_row (by decide)) (pm_up_row (by decide))⟩
            have hF1 : fa_fr [5, 11, 12, 96] μ μ1 := fa_fr_st fa_fr_0 eμ1 rfl
            refine pm_blk hK zmm21 [] 3 120 [(2, 1), (0, w), (0, c), (0, v), (2, 3)] [(2, 96)] μ1 [] rfl trivial ?_
            refine pm_call hK zmm21 (91, 0, 14, 0) zM14 (0, 0) [(2, 96)] [] rfl rfl rfl rfl ⟨by omega, by rw [zn14]; omega⟩ (fc_forget hK hTμ1 hb96 ⟨Nat.le_refl _, Nat.le_refl _⟩) (fun st3 μc3 hp3 => ?_)
            obtain ⟨rfl, hTc3, hk0, hfr3⟩ := hp3
            have hC9 := fa_C_m hC1 (fa_A_fr hC1.1 (fun r h1 h2 => hfr3 r (by omega))) (hfr3 2 (by decide)) (hfr3 16 (by decide)) rfl
            have hF9 := fa_fr_t hF1 (fa_fr_1 hfr3 rfl)
            refine pm_blk hK zmm21 [] 1 124 [(2, 1), (0, w), (0, c), (0, v), (2, 3)] [(0, 1)] μc3 [] rfl trivial ?_
            first
            | exact pm_zret rfl rfl (by first | exact Or.inl rfl | exact Or.inr rfl | omega) ⟨_, rfl, hTc3, Or.inl ⟨by unfold fa_setP; omega, rfl, hC9, hk0, hF9⟩⟩
            | (exfalso; omega)
    · have h1 : w = (1 : Int) := h1
      refine pm_blk hK zmm21 [] 2 51 [(2, 1), (0, w), (0, c), (0, v), (2, 3)] [(0, c), (2, 3)] μ [] rfl trivial ?_
      refine pm_call hK zmm21 (113, 0, 23, 1) zM23 (0, 0) [(2, 3), (0, c)] [] rfl rfl rfl rfl ⟨by omega, by rw [zn23]; omega⟩ (fc_isCustomer3 hK (s := c) ⟨Nat.le_refl _, Nat.le_refl _⟩) (fun st4 μc4 hp4 => ?_)
      obtain ⟨rfl, rfl⟩ := hp4
      refine pm_if hK zmm21 .eq 25 79 rfl rfl (fun h5 => ?_) (fun h5 => ?_)
      · have h5 : (if 0 ≤ (c) ∧ (c) < μ 3 1 then 1 else 0 : Int) = (0 : Int) := h5
        have h5 := zif0 h5
        refine pm_blk hK zmm21 [] 2 81 [(2, 1), (0, w), (0, c), (0, v), (2, 3)] [(0, 2), (0, w)] μ [] rfl trivial ?_
        refine pm_icmp hK zmm21 .ne 33 114 rfl rfl (fun h6 => ?_) (fun h6 => ?_)
        · have h6 : w ≠ (2 : Int) := h6
          refine pm_blk hK zmm21 [] 1 115 [(2, 1), (0, w), (0, c), (0, v), (2, 3)] [(0, 0)] μ [] rfl trivial ?_
          exact pm_zret rfl rfl (by first | exact Or.inl rfl | exact Or.inr rfl | omega) ⟨_, rfl, hT, Or.inr ⟨by unfold fa_setP; omega, rfl, rfl⟩⟩
        · have h6 : w = (2 : Int) := h6
          refine pm_blk hK zmm21 [] 2 87 [(2, 1), (0, w), (0, c), (0, v), (2, 3)] [(0, c), (2, 3)] μ [] rfl trivial ?_
          refine pm_call hK zmm21 (113, 0, 23, 1) zM23 (0, 0) [(2, 3), (0, c)] [] rfl rfl rfl rfl ⟨by omega, by rw [zn23]; omega⟩ (fc_isCustomer3 hK (s := c) ⟨Nat.le_refl _, Nat.le_refl _⟩) (fun st5 μc5 hp5 => ?_)
          obtain ⟨rfl, rfl⟩ := hp5
          refine pm_if hK zmm21 .eq 24 114 rfl rfl (fun h7 => ?_) (fun h7 => ?_)
          · have h7 : (if 0 ≤ (c) ∧ (c) < μ 3 1 then 1 else 0 : Int) = (0 : Int) := h7
            have h7 := zif0 h7
            refine pm_blk hK zmm21 [] 1 115 [(2, 1), (0, w), (0, c), (0, v), (2, 3)] [(0, 0)] μ [] rfl trivial ?_
            exact pm_zret rfl rfl (by first | exact Or.inl rfl | exact Or.inr rfl | omega) ⟨_, rfl, hT, Or.inr ⟨by unfold fa_setP; omega, rfl, rfl⟩⟩
          · have h7 : (if 0 ≤ (c) ∧ (c) < μ 3 1 then 1 else 0 : Int) ≠ (0 : Int) := h7
            have h7 := zif1 h7
            exact absurd h7 h5
      · have h5 : (if 0 ≤ (c) ∧ (c) < μ 3 1 then 1 else 0 : Int) ≠ (0 : Int) := h5
        have h5 := zif1 h5
        refine pm_blk hK zmm21 [] 3 62 [(2, 1), (0, w), (0, c), (0, v), (2, 3)] [(0, 9999), (0, 0), (0, v)] μ [] rfl trivial ?_
        refine pm_call hK zmm21 (94, 1, 16, 3) zM16 (0, 0) [(0, v), (0, 0), (0, 9999)] [] rfl rfl rfl rfl ⟨by omega, by rw [zn16]; omega⟩ (zh_within hK ⟨Nat.le_refl _, Nat.le_refl _⟩) (fun st6 μc6 hp6 => ?_)
        obtain ⟨rfl, rfl⟩ := hp6
        refine pm_if hK zmm21 .eq 14 79 rfl rfl (fun h8 => ?_) (fun h8 => ?_)
        · have h8 : (if 0 ≤ v ∧ v ≤ 9999 then 1 else 0 : Int) = (0 : Int) := h8
          have h8 := zif0 h8
          refine pm_blk hK zmm21 [] 2 81 [(2, 1), (0, w), (0, c), (0, v), (2, 3)] [(0, 2), (0, w)] μ [] rfl trivial ?_
          refine pm_icmp hK zmm21 .ne 33 114 rfl rfl (fun h9 => ?_) (fun h9 => ?_)
          · have h9 : w ≠ (2 : Int) := h9
            refine pm_blk hK zmm21 [] 1 115 [(2, 1), (0, w), (0, c), (0, v), (2, 3)] [(0, 0)] μ [] rfl trivial ?_
            exact pm_zret rfl rfl (by first | exact Or.inl rfl | exact Or.inr rfl | omega) ⟨_, rfl, hT, Or.inr ⟨by unfold fa_setP; omega, rfl, rfl⟩⟩
          · have h9 : w = (2 : Int) := h9
            refine pm_blk hK zmm21 [] 2 87 [(2, 1), (0, w), (0, c), (0, v), (2, 3)] [(0, c), (2, 3)] μ [] rfl trivial ?_
            refine pm_call hK zmm21 (113, 0, 23, 1) zM23 (0, 0) [(2, 3), (0, c)] [] rfl rfl rfl rfl ⟨by omega, by rw [zn23]; omega⟩ (fc_isCustomer3 hK (s := c) ⟨Nat.le_refl _, Nat.le_refl _⟩) (fun st7 μc7 hp7 => ?_)
            obtain ⟨rfl, rfl⟩ := hp7
            refine pm_if hK zmm21 .eq 24 114 rfl rfl (fun h10 => ?_) (fun h10 => ?_)
            · have h10 : (if 0 ≤ (c) ∧ (c) < μ 3 1 then 1 else 0 : Int) = (0 : Int) := h10
              have h10 := zif0 h10
              exact absurd h5 h10
            · have h10 : (if 0 ≤ (c) ∧ (c) < μ 3 1 then 1 else 0 : Int) ≠ (0 : Int) := h10
              have h10 := zif1 h10
              refine pm_blk hK zmm21 [] 3 97 [(2, 1), (0, w), (0, c), (0, v), (2, 3)] [(0, 9), (0, 0), (0, v)] μ [] rfl trivial ?_
              refine pm_call hK zmm21 (94, 1, 16, 3) zM16 (0, 0) [(0, v), (0, 0), (0, 9)] [] rfl rfl rfl rfl ⟨by omega, by rw [zn16]; omega⟩ (zh_within hK ⟨Nat.le_refl _, Nat.le_refl _⟩) (fun st8 μc8 hp8 => ?_)
              obtain ⟨rfl, rfl⟩ := hp8
              refine pm_if hK zmm21 .eq 14 114 rfl rfl (fun h11 => ?_) (fun h11 => ?_)
              · have h11 : (if 0 ≤ v ∧ v ≤ 9 then 1 else 0 : Int) = (0 : Int) := h11
                have h11 := zif0 h11
                refine pm_blk hK zmm21 [] 1 115 [(2, 1), (0, w), (0, c), (0, v), (2, 3)] [(0, 0)] μ [] rfl trivial ?_
                exact pm_zret rfl rfl (by first | exact Or.inl rfl | exact Or.inr rfl | omega) ⟨_, rfl, hT, Or.inr ⟨by unfold fa_setP; omega, rfl, rfl⟩⟩
              · have h11 : (if 0 ≤ v ∧ v ≤ 9 then 1 else 0 : Int) ≠ (0 : Int) := h11
                have h11 := zif1 h11
                refine pm_blk hK zmm21 [] 5 111 [(2, 1), (0, w), (0, c), (0, v), (2, 3)] [] (pm_up μ 12 c v) [sx_bit Wm 12 = true, 0 ≤ c ∧ c < 18] rfl ⟨hb12, ⟨by omega, by omega⟩, trivial⟩ ?_
                obtain ⟨μ2, eμ2⟩ : ∃ μ', μ' = pm_up μ 12 c v := ⟨_, rfl⟩
                rw [← eμ2]
                have hTμ2 : zTJ none μ2 := by rw [eμ2]; exact zT_upn hT zs12_0 rfl (i := c) (by omega) (by omega) (by omega) (by omega)
                have hC1 : fa_C false 3 n m (fa_setN N w c v, B) (fa_setL pol w c v) μ2 := by rw [eμ2, show w = 2 by omega, fa_setN_2, fa_setL_2]; exact ⟨fa_w_polite hC.1, fun e => fa_B_fr (hC.2 e) (pm_up_row (by decide)) (pm_up_row (by decide))⟩
                have hF1 : fa_fr [5, 11, 12, 96] μ μ2 := fa_fr_st fa_fr_0 eμ2 rfl
                refine pm_blk hK zmm21 [] 3 120 [(2, 1), (0, w), (0, c), (0, v), (2, 3)] [(2, 96)] μ2 [] rfl trivial ?_
                refine pm_call hK zmm21 (91, 0, 14, 0) zM14 (0, 0) [(2, 96)] [] rfl rfl rfl rfl ⟨by omega, by rw [zn14]; omega⟩ (fc_forget hK hTμ2 hb96 ⟨Nat.le_refl _, Nat.le_refl _⟩) (fun st9 μc9 hp9 => ?_)
                obtain ⟨rfl, hTc9, hk0, hfr9⟩ := hp9
                have hC9 := fa_C_m hC1 (fa_A_fr hC1.1 (fun r h1 h2 => hfr9 r (by omega))) (hfr9 2 (by decide)) (hfr9 16 (by decide)) rfl
                have hF9 := fa_fr_t hF1 (fa_fr_1 hfr9 rfl)
                refine pm_blk hK zmm21 [] 1 124 [(2, 1), (0, w), (0, c), (0, v), (2, 3)] [(0, 1)] μc9 [] rfl trivial ?_
                first
                | exact pm_zret rfl rfl (by first | exact Or.inl rfl | exact Or.inr rfl | omega) ⟨_, rfl, hTc9, Or.inl ⟨by unfold fa_setP; omega, rfl, hC9, hk0, hF9⟩⟩
                | (exfalso; omega)
        · have h8 : (if 0 ≤ v ∧ v ≤ 9999 then 1 else 0 : Int) ≠ (0 : Int) := h8
          have h8 := zif1 h8
          refine pm_blk hK zmm21 [] 5 76 [(2, 1), (0, w), (0, c), (0, v), (2, 3)] [] (pm_up μ 11 c v) [sx_bit Wm 11 = true, 0 ≤ c ∧ c < 18] rfl ⟨hb11, ⟨by omega, by omega⟩, trivial⟩ ?_
          obtain ⟨μ3, eμ3⟩ : ∃ μ', μ' = pm_up μ 11 c v := ⟨_, rfl⟩
          rw [← eμ3]
          have hTμ3 : zTJ none μ3 := by rw [eμ3]; exact zT_upn hT zs11_0 rfl (i := c) (by omega) (by omega) (by omega) (by omega)
          have hC1 : fa_C false 3 n m (fa_setN N w c v, B) (fa_setL pol w c v) μ3 := by rw [eμ3, show w = 1 by omega, fa_setN_1, fa_setL_1]; exact fa_C_w hC (fa_w_purse hC.1 hq (by omega) (by omega) rfl) ⟨by decide, by decide⟩ (fa_up_ne (by omega))
          have hF1 : fa_fr [5, 11, 12, 96] μ μ3 := fa_fr_st fa_fr_0 eμ3 rfl
          refine pm_blk hK zmm21 [] 3 120 [(2, 1), (0, w), (0, c), (0, v), (2, 3)] [(2, 96)] μ3 [] rfl trivial ?_
          refine pm_call hK zmm21 (91, 0, 14, 0) zM14 (0, 0) [(2, 96)] [] rfl rfl rfl rfl ⟨by omega, by rw [zn14]; omega⟩ (fc_forget hK hTμ3 hb96 ⟨Nat.le_refl _, Nat.le_refl _⟩) (fun st10 μc10 hp10 => ?_)
          obtain ⟨rfl, hTc10, hk0, hfr10⟩ := hp10
          have hC9 := fa_C_m hC1 (fa_A_fr hC1.1 (fun r h1 h2 => hfr10 r (by omega))) (hfr10 2 (by decide)) (hfr10 16 (by decide)) rfl
          have hF9 := fa_fr_t hF1 (fa_fr_1 hfr10 rfl)
          refine pm_blk hK zmm21 [] 1 124 [(2, 1), (0, w), (0, c), (0, v), (2, 3)] [(0, 1)] μc10 [] rfl trivial ?_
          first
          | exact pm_zret rfl rfl (by first | exact Or.inl rfl | exact Or.inr rfl | omega) ⟨_, rfl, hTc10, Or.inl ⟨by unfold fa_setP; omega, rfl, hC9, hk0, hF9⟩⟩
          | (exfalso; omega)
  · have h0 : w = (0 : Int) := h0
    refine pm_blk hK zmm21 [] 2 16 [(2, 1), (0, w), (0, c), (0, v), (2, 3)] [(0, c), (2, 3)] μ [] rfl trivial ?_
    refine pm_call hK zmm21 (105, 0, 22, 1) zM22 (0, 0) [(2, 3), (0, c)] [] rfl rfl rfl rfl ⟨by omega, by rw [zn22]; omega⟩ (fc_isShop3 hK (s := c) ⟨Nat.le_refl _, Nat.le_refl _⟩) (fun st11 μc11 hp11 => ?_)
    obtain ⟨rfl, rfl⟩ := hp11
    refine pm_if hK zmm21 .eq 24 43 rfl rfl (fun h12 => ?_) (fun h12 => ?_)
    · have h12 : (if 0 ≤ (c) ∧ (c) < μ 3 0 then 1 else 0 : Int) = (0 : Int) := h12
      have h12 := zif0 h12
      refine pm_blk hK zmm21 [] 2 45 [(2, 1), (0, w), (0, c), (0, v), (2, 3)] [(0, 1), (0, w)] μ [] rfl trivial ?_
      refine pm_icmp hK zmm21 .ne 34 79 rfl rfl (fun h13 => ?_) (fun h13 => ?_)
      · have h13 : w ≠ (1 : Int) := h13
        refine pm_blk hK zmm21 [] 2 81 [(2, 1), (0, w), (0, c), (0, v), (2, 3)] [(0, 2), (0, w)] μ [] rfl trivial ?_
        refine pm_icmp hK zmm21 .ne 33 114 rfl rfl (fun h14 => ?_) (fun h14 => ?_)
        · have h14 : w ≠ (2 : Int) := h14
          refine pm_blk hK zmm21 [] 1 115 [(2, 1), (0, w), (0, c), (0, v), (2, 3)] [(0, 0)] μ [] rfl trivial ?_
          exact pm_zret rfl rfl (by first | exact Or.inl rfl | exact Or.inr rfl | omega) ⟨_, rfl, hT, Or.inr ⟨by unfold fa_setP; omega, rfl, rfl⟩⟩
        · have h14 : w = (2 : Int) := h14
          refine pm_blk hK zmm21 [] 2 87 [(2, 1), (0, w), (0, c), (0, v), (2, 3)] [(0, c), (2, 3)] μ [] rfl trivial ?_
          refine pm_call hK zmm21 (113, 0, 23, 1) zM23 (0, 0) [(2, 3), (0, c)] [] rfl rfl rfl rfl ⟨by omega, by rw [zn23]; omega⟩ (fc_isCustomer3 hK (s := c) ⟨Nat.le_refl _, Nat.le_refl _⟩) (fun st12 μc12 hp12 => ?_)
          obtain ⟨rfl, rfl⟩ := hp12
          refine pm_if hK zmm21 .eq 24 114 rfl rfl (fun h15 => ?_) (fun h15 => ?_)
          · have h15 : (if 0 ≤ (c) ∧ (c) < μ 3 1 then 1 else 0 : Int) = (0 : Int) := h15
            have h15 := zif0 h15
            refine pm_blk hK zmm21 [] 1 115 [(2, 1), (0, w), (0, c), (0, v), (2, 3)] [(0, 0)] μ [] rfl trivial ?_
            exact pm_zret rfl rfl (by first | exact Or.inl rfl | exact Or.inr rfl | omega) ⟨_, rfl, hT, Or.inr ⟨by unfold fa_setP; omega, rfl, rfl⟩⟩
          · have h15 : (if 0 ≤ (c) ∧ (c) < μ 3 1 then 1 else 0 : Int) ≠ (0 : Int) := h15
            have h15 := zif1 h15
            refine pm_blk hK zmm21 [] 3 97 [(2, 1), (0, w), (0, c), (0, v), (2, 3)] [(0, 9), (0, 0), (0, v)] μ [] rfl trivial ?_
            refine pm_call hK zmm21 (94, 1, 16, 3) zM16 (0, 0) [(0, v), (0, 0), (0, 9)] [] rfl rfl rfl rfl ⟨by omega, by rw [zn16]; omega⟩ (zh_within hK ⟨Nat.le_refl _, Nat.le_refl _⟩) (fun st13 μc13 hp13 => ?_)
            obtain ⟨rfl, rfl⟩ := hp13
            refine pm_if hK zmm21 .eq 14 114 rfl rfl (fun h16 => ?_) (fun h16 => ?_)
            · have h16 : (if 0 ≤ v ∧ v ≤ 9 then 1 else 0 : Int) = (0 : Int) := h16
              have h16 := zif0 h16
              refine pm_blk hK zmm21 [] 1 115 [(2, 1), (0, w), (0, c), (0, v), (2, 3)] [(0, 0)] μ [] rfl trivial ?_
              exact pm_zret rfl rfl (by first | exact Or.inl rfl | exact Or.inr rfl | omega) ⟨_, rfl, hT, Or.inr ⟨by unfold fa_setP; omega, rfl, rfl⟩⟩
            · have h16 : (if 0 ≤ v ∧ v ≤ 9 then 1 else 0 : Int) ≠ (0 : Int) := h16
              have h16 := zif1 h16
              refine pm_blk hK zmm21 [] 5 111 [(2, 1), (0, w), (0, c), (0, v), (2, 3)] [] (pm_up μ 12 c v) [sx_bit Wm 12 = true, 0 ≤ c ∧ c < 18] rfl ⟨hb12, ⟨by omega, by omega⟩, trivial⟩ ?_
              obtain ⟨μ4, eμ4⟩ : ∃ μ', μ' = pm_up μ 12 c v := ⟨_, rfl⟩
              rw [← eμ4]
              have hTμ4 : zTJ none μ4 := by rw [eμ4]; exact zT_upn hT zs12_0 rfl (i := c) (by omega) (by omega) (by omega) (by omega)
              have hC1 : fa_C false 3 n m (fa_setN N w c v, B) (fa_setL pol w c v) μ4 := by rw [eμ4, show w = 2 by omega, fa_setN_2, fa_setL_2]; exact ⟨fa_w_polite hC.1, fun e => fa_B_fr (hC.2 e) (pm_up_row (by decide)) (pm_up_row (by decide))⟩
              have hF1 : fa_fr [5, 11, 12, 96] μ μ4 := fa_fr_st fa_fr_0 eμ4 rfl
              refine pm_blk hK zmm21 [] 3 120 [(2, 1), (0, w), (0, c), (0, v), (2, 3)] [(2, 96)] μ4 [] rfl trivial ?_
              refine pm_call hK zmm21 (91, 0, 14, 0) zM14 (0, 0) [(2, 96)] [] rfl rfl rfl rfl ⟨by omega, by rw [zn14]; omega⟩ (fc_forget hK hTμ4 hb96 ⟨Nat.le_refl _, Nat.le_refl _⟩) (fun st14 μc14 hp14 => ?_)
              obtain ⟨rfl, hTc14, hk0, hfr14⟩ := hp14
              have hC9 := fa_C_m hC1 (fa_A_fr hC1.1 (fun r h1 h2 => hfr14 r (by omega))) (hfr14 2 (by decide)) (hfr14 16 (by decide)) rfl
              have hF9 := fa_fr_t hF1 (fa_fr_1 hfr14 rfl)
              refine pm_blk hK zmm21 [] 1 124 [(2, 1), (0, w), (0, c), (0, v), (2, 3)] [(0, 1)] μc14 [] rfl trivial ?_
              first
              | exact pm_zret rfl rfl (by first | exact Or.inl rfl | exact Or.inr rfl | omega) ⟨_, rfl, hTc14, Or.inl ⟨by unfold fa_setP; omega, rfl, hC9, hk0, hF9⟩⟩
              | (exfalso; omega)
      · have h13 : w = (1 : Int) := h13
        refine pm_blk hK zmm21 [] 2 51 [(2, 1), (0, w), (0, c), (0, v), (2, 3)] [(0, c), (2, 3)] μ [] rfl trivial ?_
        refine pm_call hK zmm21 (113, 0, 23, 1) zM23 (0, 0) [(2, 3), (0, c)] [] rfl rfl rfl rfl ⟨by omega, by rw [zn23]; omega⟩ (fc_isCustomer3 hK (s := c) ⟨Nat.le_refl _, Nat.le_refl _⟩) (fun st15 μc15 hp15 => ?_)
        obtain ⟨rfl, rfl⟩ := hp15
        refine pm_if hK zmm21 .eq 25 79 rfl rfl (fun h17 => ?_) (fun h17 => ?_)
        · have h17 : (if 0 ≤ (c) ∧ (c) < μ 3 1 then 1 else 0 : Int) = (0 : Int) := h17
          have h17 := zif0 h17
          refine pm_blk hK zmm21 [] 2 81 [(2, 1), (0, w), (0, c), (0, v), (2, 3)] [(0, 2), (0, w)] μ [] rfl trivial ?_
          refine pm_icmp hK zmm21 .ne 33 114 rfl rfl (fun h18 => ?_) (fun h18 => ?_)
          · have h18 : w ≠ (2 : Int) := h18
            refine pm_blk hK zmm21 [] 1 115 [(2, 1), (0, w), (0, c), (0, v), (2, 3)] [(0, 0)] μ [] rfl trivial ?_
            exact pm_zret rfl rfl (by first | exact Or.inl rfl | exact Or.inr rfl | omega) ⟨_, rfl, hT, Or.inr ⟨by unfold fa_setP; omega, rfl, rfl⟩⟩
          · have h18 : w = (2 : Int) := h18
            refine pm_blk hK zmm21 [] 2 87 [(2, 1), (0, w), (0, c), (0, v), (2, 3)] [(0, c), (2, 3)] μ [] rfl trivial ?_
            refine pm_call hK zmm21 (113, 0, 23, 1) zM23 (0, 0) [(2, 3), (0, c)] [] rfl rfl rfl rfl ⟨by omega, by rw [zn23]; omega⟩ (fc_isCustomer3 hK (s := c) ⟨Nat.le_refl _, Nat.le_refl _⟩) (fun st16 μc16 hp16 => ?_)
            obtain ⟨rfl, rfl⟩ := hp16
            refine pm_if hK zmm21 .eq 24 114 rfl rfl (fun h19 => ?_) (fun h19 => ?_)
            · have h19 : (if 0 ≤ (c) ∧ (c) < μ 3 1 then 1 else 0 : Int) = (0 : Int) := h19
              have h19 := zif0 h19
              refine pm_blk hK zmm21 [] 1 115 [(2, 1), (0, w), (0, c), (0, v), (2, 3)] [(0, 0)] μ [] rfl trivial ?_
              exact pm_zret rfl rfl (by first | exact Or.inl rfl | exact Or.inr rfl | omega) ⟨_, rfl, hT, Or.inr ⟨by unfold fa_setP; omega, rfl, rfl⟩⟩
            · have h19 : (if 0 ≤ (c) ∧ (c) < μ 3 1 then 1 else 0 : Int) ≠ (0 : Int) := h19
              have h19 := zif1 h19
              exact absurd h19 h17
        · have h17 : (if 0 ≤ (c) ∧ (c) < μ 3 1 then 1 else 0 : Int) ≠ (0 : Int) := h17
          have h17 := zif1 h17
          refine pm_blk hK zmm21 [] 3 62 [(2, 1), (0, w), (0, c), (0, v), (2, 3)] [(0, 9999), (0, 0), (0, v)] μ [] rfl trivial ?_
          refine pm_call hK zmm21 (94, 1, 16, 3) zM16 (0, 0) [(0, v), (0, 0), (0, 9999)] [] rfl rfl rfl rfl ⟨by omega, by rw [zn16]; omega⟩ (zh_within hK ⟨Nat.le_refl _, Nat.le_refl _⟩) (fun st17 μc17 hp17 => ?_)
          obtain ⟨rfl, rfl⟩ := hp17
          refine pm_if hK zmm21 .eq 14 79 rfl rfl (fun h20 => ?_) (fun h20 => ?_)
          · have h20 : (if 0 ≤ v ∧ v ≤ 9999 then 1 else 0 : Int) = (0 : Int) := h20
            have h20 := zif0 h20
            refine pm_blk hK zmm21 [] 2 81 [(2, 1), (0, w), (0, c), (0, v), (2, 3)] [(0, 2), (0, w)] μ [] rfl trivial ?_
            refine pm_icmp hK zmm21 .ne 33 114 rfl rfl (fun h21 => ?_) (fun h21 => ?_)
            · have h21 : w ≠ (2 : Int) := h21
              refine pm_blk hK zmm21 [] 1 115 [(2, 1), (0, w), (0, c), (0, v), (2, 3)] [(0, 0)] μ [] rfl trivial ?_
              exact pm_zret rfl rfl (by first | exact Or.inl rfl | exact Or.inr rfl | omega) ⟨_, rfl, hT, Or.inr ⟨by unfold fa_setP; omega, rfl, rfl⟩⟩
            · have h21 : w = (2 : Int) := h21
              refine pm_blk hK zmm21 [] 2 87 [(2, 1), (0, w), (0, c), (0, v), (2, 3)] [(0, c), (2, 3)] μ [] rfl trivial ?_
              refine pm_call hK zmm21 (113, 0, 23, 1) zM23 (0, 0) [(2, 3), (0, c)] [] rfl rfl rfl rfl ⟨by omega, by rw [zn23]; omega⟩ (fc_isCustomer3 hK (s := c) ⟨Nat.le_refl _, Nat.le_refl _⟩) (fun st18 μc18 hp18 => ?_)
              obtain ⟨rfl, rfl⟩ := hp18
              refine pm_if hK zmm21 .eq 24 114 rfl rfl (fun h22 => ?_) (fun h22 => ?_)
              · have h22 : (if 0 ≤ (c) ∧ (c) < μ 3 1 then 1 else 0 : Int) = (0 : Int) := h22
                have h22 := zif0 h22
                exact absurd h17 h22
              · have h22 : (if 0 ≤ (c) ∧ (c) < μ 3 1 then 1 else 0 : Int) ≠ (0 : Int) := h22
                have h22 := zif1 h22
                refine pm_blk hK zmm21 [] 3 97 [(2, 1), (0, w), (0, c), (0, v), (2, 3)] [(0, 9), (0, 0), (0, v)] μ [] rfl trivial ?_
                refine pm_call hK zmm21 (94, 1, 16, 3) zM16 (0, 0) [(0, v), (0, 0), (0, 9)] [] rfl rfl rfl rfl ⟨by omega, by rw [zn16]; omega⟩ (zh_within hK ⟨Nat.le_refl _, Nat.le_refl _⟩) (fun st19 μc19 hp19 => ?_)
                obtain ⟨rfl, rfl⟩ := hp19
                refine pm_if hK zmm21 .eq 14 114 rfl rfl (fun h23 => ?_) (fun h23 => ?_)
                · have h23 : (if 0 ≤ v ∧ v ≤ 9 then 1 else 0 : Int) = (0 : Int) := h23
                  have h23 := zif0 h23
                  refine pm_blk hK zmm21 [] 1 115 [(2, 1), (0, w), (0, c), (0, v), (2, 3)] [(0, 0)] μ [] rfl trivial ?_
                  exact pm_zret rfl rfl (by first | exact Or.inl rfl | exact Or.inr rfl | omega) ⟨_, rfl, hT, Or.inr ⟨by unfold fa_setP; omega, rfl, rfl⟩⟩
                · have h23 : (if 0 ≤ v ∧ v ≤ 9 then 1 else 0 : Int) ≠ (0 : Int) := h23
                  have h23 := zif1 h23
                  refine pm_blk hK zmm21 [] 5 111 [(2, 1), (0, w), (0, c), (0, v), (2, 3)] [] (pm_up μ 12 c v) [sx_bit Wm 12 = true, 0 ≤ c ∧ c < 18] rfl ⟨hb12, ⟨by omega, by omega⟩, trivial⟩ ?_
                  obtain ⟨μ5, eμ5⟩ : ∃ μ', μ' = pm_up μ 12 c v := ⟨_, rfl⟩
                  rw [← eμ5]
                  have hTμ5 : zTJ none μ5 := by rw [eμ5]; exact zT_upn hT zs12_0 rfl (i := c) (by omega) (by omega) (by omega) (by omega)
                  have hC1 : fa_C false 3 n m (fa_setN N w c v, B) (fa_setL pol w c v) μ5 := by rw [eμ5, show w = 2 by omega, fa_setN_2, fa_setL_2]; exact ⟨fa_w_polite hC.1, fun e => fa_B_fr (hC.2 e) (pm_up_row (by decide)) (pm_up_row (by decide))⟩
                  have hF1 : fa_fr [5, 11, 12, 96] μ μ5 := fa_fr_st fa_fr_0 eμ5 rfl
                  refine pm_blk hK zmm21 [] 3 120 [(2, 1), (0, w), (0, c), (0, v), (2, 3)] [(2, 96)] μ5 [] rfl trivial ?_
                  refine pm_call hK zmm21 (91, 0, 14, 0) zM14 (0, 0) [(2, 96)] [] rfl rfl rfl rfl ⟨by omega, by rw [zn14]; omega⟩ (fc_forget hK hTμ5 hb96 ⟨Nat.le_refl _, Nat.le_refl _⟩) (fun st20 μc20 hp20 => ?_)
                  obtain ⟨rfl, hTc20, hk0, hfr20⟩ := hp20
                  have hC9 := fa_C_m hC1 (fa_A_fr hC1.1 (fun r h1 h2 => hfr20 r (by omega))) (hfr20 2 (by decide)) (hfr20 16 (by decide)) rfl
                  have hF9 := fa_fr_t hF1 (fa_fr_1 hfr20 rfl)
                  refine pm_blk hK zmm21 [] 1 124 [(2, 1), (0, w), (0, c), (0, v), (2, 3)] [(0, 1)] μc20 [] rfl trivial ?_
                  first
                  | exact pm_zret rfl rfl (by first | exact Or.inl rfl | exact Or.inr rfl | omega) ⟨_, rfl, hTc20, Or.inl ⟨by unfold fa_setP; omega, rfl, hC9, hk0, hF9⟩⟩
                  | (exfalso; omega)
          · have h20 : (if 0 ≤ v ∧ v ≤ 9999 then 1 else 0 : Int) ≠ (0 : Int) := h20
            have h20 := zif1 h20
            refine pm_blk hK zmm21 [] 5 76 [(2, 1), (0, w), (0, c), (0, v), (2, 3)] [] (pm_up μ 11 c v) [sx_bit Wm 11 = true, 0 ≤ c ∧ c < 18] rfl ⟨hb11, ⟨by omega, by omega⟩, trivial⟩ ?_
            obtain ⟨μ6, eμ6⟩ : ∃ μ', μ' = pm_up μ 11 c v := ⟨_, rfl⟩
            rw [← eμ6]
            have hTμ6 : zTJ none μ6 := by rw [eμ6]; exact zT_upn hT zs11_0 rfl (i := c) (by omega) (by omega) (by omega) (by omega)
            have hC1 : fa_C false 3 n m (fa_setN N w c v, B) (fa_setL pol w c v) μ6 := by rw [eμ6, show w = 1 by omega, fa_setN_1, fa_setL_1]; exact fa_C_w hC (fa_w_purse hC.1 hq (by omega) (by omega) rfl) ⟨by decide, by decide⟩ (fa_up_ne (by omega))
            have hF1 : fa_fr [5, 11, 12, 96] μ μ6 := fa_fr_st fa_fr_0 eμ6 rfl
            refine pm_blk hK zmm21 [] 3 120 [(2, 1), (0, w), (0, c), (0, v), (2, 3)] [(2, 96)] μ6 [] rfl trivial ?_
            refine pm_call hK zmm21 (91, 0, 14, 0) zM14 (0, 0) [(2, 96)] [] rfl rfl rfl rfl ⟨by omega, by rw [zn14]; omega⟩ (fc_forget hK hTμ6 hb96 ⟨Nat.le_refl _, Nat.le_refl _⟩) (fun st21 μc21 hp21 => ?_)
            obtain ⟨rfl, hTc21, hk0, hfr21⟩ := hp21
            have hC9 := fa_C_m hC1 (fa_A_fr hC1.1 (fun r h1 h2 => hfr21 r (by omega))) (hfr21 2 (by decide)) (hfr21 16 (by decide)) rfl
            have hF9 := fa_fr_t hF1 (fa_fr_1 hfr21 rfl)
            refine pm_blk hK zmm21 [] 1 124 [(2, 1), (0, w), (0, c), (0, v), (2, 3)] [(0, 1)] μc21 [] rfl trivial ?_
            first
            | exact pm_zret rfl rfl (by first | exact Or.inl rfl | exact Or.inr rfl | omega) ⟨_, rfl, hTc21, Or.inl ⟨by unfold fa_setP; omega, rfl, hC9, hk0, hF9⟩⟩
            | (exfalso; omega)
    · have h12 : (if 0 ≤ (c) ∧ (c) < μ 3 0 then 1 else 0 : Int) ≠ (0 : Int) := h12
      have h12 := zif1 h12
      refine pm_blk hK zmm21 [] 3 26 [(2, 1), (0, w), (0, c), (0, v), (2, 3)] [(0, 99), (0, 1), (0, v)] μ [] rfl trivial ?_
      refine pm_call hK zmm21 (94, 1, 16, 3) zM16 (0, 0) [(0, v), (0, 1), (0, 99)] [] rfl rfl rfl rfl ⟨by omega, by rw [zn16]; omega⟩ (zh_within hK ⟨Nat.le_refl _, Nat.le_refl _⟩) (fun st22 μc22 hp22 => ?_)
      obtain ⟨rfl, rfl⟩ := hp22
      refine pm_if hK zmm21 .eq 14 43 rfl rfl (fun h24 => ?_) (fun h24 => ?_)
      · have h24 : (if 1 ≤ v ∧ v ≤ 99 then 1 else 0 : Int) = (0 : Int) := h24
        have h24 := zif0 h24
        refine pm_blk hK zmm21 [] 2 45 [(2, 1), (0, w), (0, c), (0, v), (2, 3)] [(0, 1), (0, w)] μ [] rfl trivial ?_
        refine pm_icmp hK zmm21 .ne 34 79 rfl rfl (fun h25 => ?_) (fun h25 => ?_)
        · have h25 : w ≠ (1 : Int) := h25
          refine pm_blk hK zmm21 [] 2 81 [(2, 1), (0, w), (0, c), (0, v), (2, 3)] [(0, 2), (0, w)] μ [] rfl trivial ?_
          refine pm_icmp hK zmm21 .ne 33 114 rfl rfl (fun h26 => ?_) (fun h26 => ?_)
          · have h26 : w ≠ (2 : Int) := h26
            refine pm_blk hK zmm21 [] 1 115 [(2, 1), (0, w), (0, c), (0, v), (2, 3)] [(0, 0)] μ [] rfl trivial ?_
            exact pm_zret rfl rfl (by first | exact Or.inl rfl | exact Or.inr rfl | omega) ⟨_, rfl, hT, Or.inr ⟨by unfold fa_setP; omega, rfl, rfl⟩⟩
          · have h26 : w = (2 : Int) := h26
            refine pm_blk hK zmm21 [] 2 87 [(2, 1), (0, w), (0, c), (0, v), (2, 3)] [(0, c), (2, 3)] μ [] rfl trivial ?_
            refine pm_call hK zmm21 (113, 0, 23, 1) zM23 (0, 0) [(2, 3), (0, c)] [] rfl rfl rfl rfl ⟨by omega, by rw [zn23]; omega⟩ (fc_isCustomer3 hK (s := c) ⟨Nat.le_refl _, Nat.le_refl _⟩) (fun st23 μc23 hp23 => ?_)
            obtain ⟨rfl, rfl⟩ := hp23
            refine pm_if hK zmm21 .eq 24 114 rfl rfl (fun h27 => ?_) (fun h27 => ?_)
            · have h27 : (if 0 ≤ (c) ∧ (c) < μ 3 1 then 1 else 0 : Int) = (0 : Int) := h27
              have h27 := zif0 h27
              refine pm_blk hK zmm21 [] 1 115 [(2, 1), (0, w), (0, c), (0, v), (2, 3)] [(0, 0)] μ [] rfl trivial ?_
              exact pm_zret rfl rfl (by first | exact Or.inl rfl | exact Or.inr rfl | omega) ⟨_, rfl, hT, Or.inr ⟨by unfold fa_setP; omega, rfl, rfl⟩⟩
            · have h27 : (if 0 ≤ (c) ∧ (c) < μ 3 1 then 1 else 0 : Int) ≠ (0 : Int) := h27
              have h27 := zif1 h27
              refine pm_blk hK zmm21 [] 3 97 [(2, 1), (0, w), (0, c), (0, v), (2, 3)] [(0, 9), (0, 0), (0, v)] μ [] rfl trivial ?_
              refine pm_call hK zmm21 (94, 1, 16, 3) zM16 (0, 0) [(0, v), (0, 0), (0, 9)] [] rfl rfl rfl rfl ⟨by omega, by rw [zn16]; omega⟩ (zh_within hK ⟨Nat.le_refl _, Nat.le_refl _⟩) (fun st24 μc24 hp24 => ?_)
              obtain ⟨rfl, rfl⟩ := hp24
              refine pm_if hK zmm21 .eq 14 114 rfl rfl (fun h28 => ?_) (fun h28 => ?_)
              · have h28 : (if 0 ≤ v ∧ v ≤ 9 then 1 else 0 : Int) = (0 : Int) := h28
                have h28 := zif0 h28
                refine pm_blk hK zmm21 [] 1 115 [(2, 1), (0, w), (0, c), (0, v), (2, 3)] [(0, 0)] μ [] rfl trivial ?_
                exact pm_zret rfl rfl (by first | exact Or.inl rfl | exact Or.inr rfl | omega) ⟨_, rfl, hT, Or.inr ⟨by unfold fa_setP; omega, rfl, rfl⟩⟩
              · have h28 : (if 0 ≤ v ∧ v ≤ 9 then 1 else 0 : Int) ≠ (0 : Int) := h28
                have h28 := zif1 h28
                refine pm_blk hK zmm21 [] 5 111 [(2, 1), (0, w), (0, c), (0, v), (2, 3)] [] (pm_up μ 12 c v) [sx_bit Wm 12 = true, 0 ≤ c ∧ c < 18] rfl ⟨hb12, ⟨by omega, by omega⟩, trivial⟩ ?_
                obtain ⟨μ7, eμ7⟩ : ∃ μ', μ' = pm_up μ 12 c v := ⟨_, rfl⟩
                rw [← eμ7]
                have hTμ7 : zTJ none μ7 := by rw [eμ7]; exact zT_upn hT zs12_0 rfl (i := c) (by omega) (by omega) (by omega) (by omega)
                have hC1 : fa_C false 3 n m (fa_setN N w c v, B) (fa_setL pol w c v) μ7 := by rw [eμ7, show w = 2 by omega, fa_setN_2, fa_setL_2]; exact ⟨fa_w_polite hC.1, fun e => fa_B_fr (hC.2 e) (pm_up_row (by decide)) (pm_up_row (by decide))⟩
                have hF1 : fa_fr [5, 11, 12, 96] μ μ7 := fa_fr_st fa_fr_0 eμ7 rfl
                refine pm_blk hK zmm21 [] 3 120 [(2, 1), (0, w), (0, c), (0, v), (2, 3)] [(2, 96)] μ7 [] rfl trivial ?_
                refine pm_call hK zmm21 (91, 0, 14, 0) zM14 (0, 0) [(2, 96)] [] rfl rfl rfl rfl ⟨by omega, by rw [zn14]; omega⟩ (fc_forget hK hTμ7 hb96 ⟨Nat.le_refl _, Nat.le_refl _⟩) (fun st25 μc25 hp25 => ?_)
                obtain ⟨rfl, hTc25, hk0, hfr25⟩ := hp25
                have hC9 := fa_C_m hC1 (fa_A_fr hC1.1 (fun r h1 h2 => hfr25 r (by omega))) (hfr25 2 (by decide)) (hfr25 16 (by decide)) rfl
                have hF9 := fa_fr_t hF1 (fa_fr_1 hfr25 rfl)
                refine pm_blk hK zmm21 [] 1 124 [(2, 1), (0, w), (0, c), (0, v), (2, 3)] [(0, 1)] μc25 [] rfl trivial ?_
                first
                | exact pm_zret rfl rfl (by first | exact Or.inl rfl | exact Or.inr rfl | omega) ⟨_, rfl, hTc25, Or.inl ⟨by unfold fa_setP; omega, rfl, hC9, hk0, hF9⟩⟩
                | (exfalso; omega)
        · have h25 : w = (1 : Int) := h25
          refine pm_blk hK zmm21 [] 2 51 [(2, 1), (0, w), (0, c), (0, v), (2, 3)] [(0, c), (2, 3)] μ [] rfl trivial ?_
          refine pm_call hK zmm21 (113, 0, 23, 1) zM23 (0, 0) [(2, 3), (0, c)] [] rfl rfl rfl rfl ⟨by omega, by rw [zn23]; omega⟩ (fc_isCustomer3 hK (s := c) ⟨Nat.le_refl _, Nat.le_refl _⟩) (fun st26 μc26 hp26 => ?_)
          obtain ⟨rfl, rfl⟩ := hp26
          refine pm_if hK zmm21 .eq 25 79 rfl rfl (fun h29 => ?_) (fun h29 => ?_)
          · have h29 : (if 0 ≤ (c) ∧ (c) < μ 3 1 then 1 else 0 : Int) = (0 : Int) := h29
            have h29 := zif0 h29
            refine pm_blk hK zmm21 [] 2 81 [(2, 1), (0, w), (0, c), (0, v), (2, 3)] [(0, 2), (0, w)] μ [] rfl trivial ?_
            refine pm_icmp hK zmm21 .ne 33 114 rfl rfl (fun h30 => ?_) (fun h30 => ?_)
            · have h30 : w ≠ (2 : Int) := h30
              refine pm_blk hK zmm21 [] 1 115 [(2, 1), (0, w), (0, c), (0, v), (2, 3)] [(0, 0)] μ [] rfl trivial ?_
              exact pm_zret rfl rfl (by first | exact Or.inl rfl | exact Or.inr rfl | omega) ⟨_, rfl, hT, Or.inr ⟨by unfold fa_setP; omega, rfl, rfl⟩⟩
            · have h30 : w = (2 : Int) := h30
              refine pm_blk hK zmm21 [] 2 87 [(2, 1), (0, w), (0, c), (0, v), (2, 3)] [(0, c), (2, 3)] μ [] rfl trivial ?_
              refine pm_call hK zmm21 (113, 0, 23, 1) zM23 (0, 0) [(2, 3), (0, c)] [] rfl rfl rfl rfl ⟨by omega, by rw [zn23]; omega⟩ (fc_isCustomer3 hK (s := c) ⟨Nat.le_refl _, Nat.le_refl _⟩) (fun st27 μc27 hp27 => ?_)
              obtain ⟨rfl, rfl⟩ := hp27
              refine pm_if hK zmm21 .eq 24 114 rfl rfl (fun h31 => ?_) (fun h31 => ?_)
              · have h31 : (if 0 ≤ (c) ∧ (c) < μ 3 1 then 1 else 0 : Int) = (0 : Int) := h31
                have h31 := zif0 h31
                refine pm_blk hK zmm21 [] 1 115 [(2, 1), (0, w), (0, c), (0, v), (2, 3)] [(0, 0)] μ [] rfl trivial ?_
                exact pm_zret rfl rfl (by first | exact Or.inl rfl | exact Or.inr rfl | omega) ⟨_, rfl, hT, Or.inr ⟨by unfold fa_setP; omega, rfl, rfl⟩⟩
              · have h31 : (if 0 ≤ (c) ∧ (c) < μ 3 1 then 1 else 0 : Int) ≠ (0 : Int) := h31
                have h31 := zif1 h31
                exact absurd h31 h29
          · have h29 : (if 0 ≤ (c) ∧ (c) < μ 3 1 then 1 else 0 : Int) ≠ (0 : Int) := h29
            have h29 := zif1 h29
            refine pm_blk hK zmm21 [] 3 62 [(2, 1), (0, w), (0, c), (0, v), (2, 3)] [(0, 9999), (0, 0), (0, v)] μ [] rfl trivial ?_
            refine pm_call hK zmm21 (94, 1, 16, 3) zM16 (0, 0) [(0, v), (0, 0), (0, 9999)] [] rfl rfl rfl rfl ⟨by omega, by rw [zn16]; omega⟩ (zh_within hK ⟨Nat.le_refl _, Nat.le_refl _⟩) (fun st28 μc28 hp28 => ?_)
            obtain ⟨rfl, rfl⟩ := hp28
            refine pm_if hK zmm21 .eq 14 79 rfl rfl (fun h32 => ?_) (fun h32 => ?_)
            · have h32 : (if 0 ≤ v ∧ v ≤ 9999 then 1 else 0 : Int) = (0 : Int) := h32
              have h32 := zif0 h32
              refine pm_blk hK zmm21 [] 2 81 [(2, 1), (0, w), (0, c), (0, v), (2, 3)] [(0, 2), (0, w)] μ [] rfl trivial ?_
              refine pm_icmp hK zmm21 .ne 33 114 rfl rfl (fun h33 => ?_) (fun h33 => ?_)
              · have h33 : w ≠ (2 : Int) := h33
                refine pm_blk hK zmm21 [] 1 115 [(2, 1), (0, w), (0, c), (0, v), (2, 3)] [(0, 0)] μ [] rfl trivial ?_
                exact pm_zret rfl rfl (by first | exact Or.inl rfl | exact Or.inr rfl | omega) ⟨_, rfl, hT, Or.inr ⟨by unfold fa_setP; omega, rfl, rfl⟩⟩
              · have h33 : w = (2 : Int) := h33
                refine pm_blk hK zmm21 [] 2 87 [(2, 1), (0, w), (0, c), (0, v), (2, 3)] [(0, c), (2, 3)] μ [] rfl trivial ?_
                refine pm_call hK zmm21 (113, 0, 23, 1) zM23 (0, 0) [(2, 3), (0, c)] [] rfl rfl rfl rfl ⟨by omega, by rw [zn23]; omega⟩ (fc_isCustomer3 hK (s := c) ⟨Nat.le_refl _, Nat.le_refl _⟩) (fun st29 μc29 hp29 => ?_)
                obtain ⟨rfl, rfl⟩ := hp29
                refine pm_if hK zmm21 .eq 24 114 rfl rfl (fun h34 => ?_) (fun h34 => ?_)
                · have h34 : (if 0 ≤ (c) ∧ (c) < μ 3 1 then 1 else 0 : Int) = (0 : Int) := h34
                  have h34 := zif0 h34
                  exact absurd h29 h34
                · have h34 : (if 0 ≤ (c) ∧ (c) < μ 3 1 then 1 else 0 : Int) ≠ (0 : Int) := h34
                  have h34 := zif1 h34
                  refine pm_blk hK zmm21 [] 3 97 [(2, 1), (0, w), (0, c), (0, v), (2, 3)] [(0, 9), (0, 0), (0, v)] μ [] rfl trivial ?_
                  refine pm_call hK zmm21 (94, 1, 16, 3) zM16 (0, 0) [(0, v), (0, 0), (0, 9)] [] rfl rfl rfl rfl ⟨by omega, by rw [zn16]; omega⟩ (zh_within hK ⟨Nat.le_refl _, Nat.le_refl _⟩) (fun st30 μc30 hp30 => ?_)
                  obtain ⟨rfl, rfl⟩ := hp30
                  refine pm_if hK zmm21 .eq 14 114 rfl rfl (fun h35 => ?_) (fun h35 => ?_)
                  · have h35 : (if 0 ≤ v ∧ v ≤ 9 then 1 else 0 : Int) = (0 : Int) := h35
                    have h35 := zif0 h35
                    refine pm_blk hK zmm21 [] 1 115 [(2, 1), (0, w), (0, c), (0, v), (2, 3)] [(0, 0)] μ [] rfl trivial ?_
                    exact pm_zret rfl rfl (by first | exact Or.inl rfl | exact Or.inr rfl | omega) ⟨_, rfl, hT, Or.inr ⟨by unfold fa_setP; omega, rfl, rfl⟩⟩
                  · have h35 : (if 0 ≤ v ∧ v ≤ 9 then 1 else 0 : Int) ≠ (0 : Int) := h35
                    have h35 := zif1 h35
                    refine pm_blk hK zmm21 [] 5 111 [(2, 1), (0, w), (0, c), (0, v), (2, 3)] [] (pm_up μ 12 c v) [sx_bit Wm 12 = true, 0 ≤ c ∧ c < 18] rfl ⟨hb12, ⟨by omega, by omega⟩, trivial⟩ ?_
                    obtain ⟨μ8, eμ8⟩ : ∃ μ', μ' = pm_up μ 12 c v := ⟨_, rfl⟩
                    rw [← eμ8]
                    have hTμ8 : zTJ none μ8 := by rw [eμ8]; exact zT_upn hT zs12_0 rfl (i := c) (by omega) (by omega) (by omega) (by omega)
                    have hC1 : fa_C false 3 n m (fa_setN N w c v, B) (fa_setL pol w c v) μ8 := by rw [eμ8, show w = 2 by omega, fa_setN_2, fa_setL_2]; exact ⟨fa_w_polite hC.1, fun e => fa_B_fr (hC.2 e) (pm_up_row (by decide)) (pm_up_row (by decide))⟩
                    have hF1 : fa_fr [5, 11, 12, 96] μ μ8 := fa_fr_st fa_fr_0 eμ8 rfl
                    refine pm_blk hK zmm21 [] 3 120 [(2, 1), (0, w), (0, c), (0, v), (2, 3)] [(2, 96)] μ8 [] rfl trivial ?_
                    refine pm_call hK zmm21 (91, 0, 14, 0) zM14 (0, 0) [(2, 96)] [] rfl rfl rfl rfl ⟨by omega, by rw [zn14]; omega⟩ (fc_forget hK hTμ8 hb96 ⟨Nat.le_refl _, Nat.le_refl _⟩) (fun st31 μc31 hp31 => ?_)
                    obtain ⟨rfl, hTc31, hk0, hfr31⟩ := hp31
                    have hC9 := fa_C_m hC1 (fa_A_fr hC1.1 (fun r h1 h2 => hfr31 r (by omega))) (hfr31 2 (by decide)) (hfr31 16 (by decide)) rfl
                    have hF9 := fa_fr_t hF1 (fa_fr_1 hfr31 rfl)
                    refine pm_blk hK zmm21 [] 1 124 [(2, 1), (0, w), (0, c), (0, v), (2, 3)] [(0, 1)] μc31 [] rfl trivial ?_
                    first
                    | exact pm_zret rfl rfl (by first | exact Or.inl rfl | exact Or.inr rfl | omega) ⟨_, rfl, hTc31, Or.inl ⟨by unfold fa_setP; omega, rfl, hC9, hk0, hF9⟩⟩
                    | (exfalso; omega)
            · have h32 : (if 0 ≤ v ∧ v ≤ 9999 then 1 else 0 : Int) ≠ (0 : Int) := h32
              have h32 := zif1 h32
              refine pm_blk hK zmm21 [] 5 76 [(2, 1), (0, w), (0, c), (0, v), (2, 3)] [] (pm_up μ 11 c v) [sx_bit Wm 11 = true, 0 ≤ c ∧ c < 18] rfl ⟨hb11, ⟨by omega, by omega⟩, trivial⟩ ?_
              obtain ⟨μ9, eμ9⟩ : ∃ μ', μ' = pm_up μ 11 c v := ⟨_, rfl⟩
              rw [← eμ9]
              have hTμ9 : zTJ none μ9 := by rw [eμ9]; exact zT_upn hT zs11_0 rfl (i := c) (by omega) (by omega) (by omega) (by omega)
              have hC1 : fa_C false 3 n m (fa_setN N w c v, B) (fa_setL pol w c v) μ9 := by rw [eμ9, show w = 1 by omega, fa_setN_1, fa_setL_1]; exact fa_C_w hC (fa_w_purse hC.1 hq (by omega) (by omega) rfl) ⟨by decide, by decide⟩ (fa_up_ne (by omega))
              have hF1 : fa_fr [5, 11, 12, 96] μ μ9 := fa_fr_st fa_fr_0 eμ9 rfl
              refine pm_blk hK zmm21 [] 3 120 [(2, 1), (0, w), (0, c), (0, v), (2, 3)] [(2, 96)] μ9 [] rfl trivial ?_
              refine pm_call hK zmm21 (91, 0, 14, 0) zM14 (0, 0) [(2, 96)] [] rfl rfl rfl rfl ⟨by omega, by rw [zn14]; omega⟩ (fc_forget hK hTμ9 hb96 ⟨Nat.le_refl _, Nat.le_refl _⟩) (fun st32 μc32 hp32 => ?_)
              obtain ⟨rfl, hTc32, hk0, hfr32⟩ := hp32
              have hC9 := fa_C_m hC1 (fa_A_fr hC1.1 (fun r h1 h2 => hfr32 r (by omega))) (hfr32 2 (by decide)) (hfr32 16 (by decide)) rfl
              have hF9 := fa_fr_t hF1 (fa_fr_1 hfr32 rfl)
              refine pm_blk hK zmm21 [] 1 124 [(2, 1), (0, w), (0, c), (0, v), (2, 3)] [(0, 1)] μc32 [] rfl trivial ?_
              first
              | exact pm_zret rfl rfl (by first | exact Or.inl rfl | exact Or.inr rfl | omega) ⟨_, rfl, hTc32, Or.inl ⟨by unfold fa_setP; omega, rfl, hC9, hk0, hF9⟩⟩
              | (exfalso; omega)
      · have h24 : (if 1 ≤ v ∧ v ≤ 99 then 1 else 0 : Int) ≠ (0 : Int) := h24
        have h24 := zif1 h24
        refine pm_blk hK zmm21 [] 5 40 [(2, 1), (0, w), (0, c), (0, v), (2, 3)] [] (pm_up μ 5 c v) [sx_bit Wm 5 = true, 0 ≤ c ∧ c < 12] rfl ⟨hb5, ⟨by omega, by omega⟩, trivial⟩ ?_
        obtain ⟨μ10, eμ10⟩ : ∃ μ', μ' = pm_up μ 5 c v := ⟨_, rfl⟩
        rw [← eμ10]
        have hTμ10 : zTJ none μ10 := by rw [eμ10]; exact zT_upn hT zs5_0 rfl (i := c) (by omega) (by omega) (by omega) (by omega)
        have hC1 : fa_C false 3 n m (fa_setN N w c v, B) (fa_setL pol w c v) μ10 := by rw [eμ10, show w = 0 by omega, fa_setN_0, fa_setL_0]; exact fa_C_w hC (fa_w_price hC.1 hq (by omega) (by omega) rfl) ⟨by decide, by decide⟩ (fa_up_ne (by omega))
        have hF1 : fa_fr [5, 11, 12, 96] μ μ10 := fa_fr_st fa_fr_0 eμ10 rfl
        refine pm_blk hK zmm21 [] 3 120 [(2, 1), (0, w), (0, c), (0, v), (2, 3)] [(2, 96)] μ10 [] rfl trivial ?_
        refine pm_call hK zmm21 (91, 0, 14, 0) zM14 (0, 0) [(2, 96)] [] rfl rfl rfl rfl ⟨by omega, by rw [zn14]; omega⟩ (fc_forget hK hTμ10 hb96 ⟨Nat.le_refl _, Nat.le_refl _⟩) (fun st33 μc33 hp33 => ?_)
        obtain ⟨rfl, hTc33, hk0, hfr33⟩ := hp33
        have hC9 := fa_C_m hC1 (fa_A_fr hC1.1 (fun r h1 h2 => hfr33 r (by omega))) (hfr33 2 (by decide)) (hfr33 16 (by decide)) rfl
        have hF9 := fa_fr_t hF1 (fa_fr_1 hfr33 rfl)
        refine pm_blk hK zmm21 [] 1 124 [(2, 1), (0, w), (0, c), (0, v), (2, 3)] [(0, 1)] μc33 [] rfl trivial ?_
        first
        | exact pm_zret rfl rfl (by first | exact Or.inl rfl | exact Or.inr rfl | omega) ⟨_, rfl, hTc33, Or.inl ⟨by unfold fa_setP; omega, rfl, hC9, hk0, hF9⟩⟩
        | (exfalso; omega)
end ZHW
