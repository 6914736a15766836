/-! a deed of the calendar; walks printed by program (wip/p30/pmgen.py) and filled by hand -/
section ZHW
variable {D : va_G} {Wm : Nat} {ST : List (String × String × String × Nat)} {b0 : sx_B} {l : Launch} {Sg : Nat → Option Nat} {bud : sx_Bu} {μ : pm_Mem} {B0 : Nat → Prop} {J : (Nat → Option Nat) → Heap → Prop}
set_option maxRecDepth 100000 in
theorem zh_readTold (hK : zKK ST) {c a b : Int} (hT : zTJ μ) (hb205 : sx_bit Wm 205 = true) (hbd : 4 ≤ bud.1 ∧ 88 ≤ bud.2.1) : zC D Wm ST b0 l Sg zM280 bud [(2, 205), (0, c), (0, a), (0, b)] μ (fun st' μ' => ∃ x, st' = [(0, x)] ∧ -1 ≤ x ∧ x ≤ 99999 ∧ (x = -1 ∨ (a ≤ x ∧ x ≤ b)) ∧ zTJ μ' ∧ (∀ r, r ≠ 205 → μ' r = μ r)) := by
  refine pm_blk hK zmm280 [] 2 2 [(2, 205), (0, c), (0, a), (0, b)] [(0, c), (2, 205)] μ [] rfl trivial ?_
  refine pm_call hK zmm280 (245, 0, 142, 1) zM142 (0, 0) [(2, 205), (0, c)] [] rfl rfl rfl rfl ⟨by omega, by rw [zn142]; omega⟩ (zh_isWord hK (c := c) ⟨Nat.le_refl _, Nat.le_refl _⟩) (fun st1 μc1 hp1 => ?_)
  obtain ⟨rfl, x1, rfl, hx1a, hx1b, hx1c⟩ := hp1
  refine pm_if hK zmm280 .ne 9 14 rfl rfl (fun h0 => ?_) (fun h0 => ?_)
  · have h0 : x1 ≠ (0 : Int) := h0
    refine pm_blk hK zmm280 [] 1 15 [(2, 205), (0, c), (0, a), (0, b)] [(2, 205)] μ [] rfl trivial ?_
    refine pm_call hK zmm280 (223, 0, 139, 0) zM139 (2, 44) [(2, 205)] [] rfl rfl rfl rfl ⟨by omega, by rw [zn139]; omega⟩ (zh_reads hK hT hb205 ⟨Nat.le_refl _, Nat.le_refl _⟩) (fun st2 μc2 hp2 => ?_)
    obtain ⟨rfl, hTc2, hF2, hS2, hR2⟩ := hp2
    have hF := hF2
    have hS := hS2
    have hR := hR2
    refine pm_blk hK zmm280 [] 3 21 [(2, 205), (0, c), (0, a), (0, b)] [(0, b), (0, a), (2, 205)] μc2 [] rfl trivial ?_
    refine pm_call hK zmm280 (267, 0, 281, 2) zM281 (3, 65) [(2, 205), (0, a), (0, b)] [] rfl rfl rfl rfl ⟨by omega, by rw [zn281]; omega⟩ (zh_readNumber hK (a := a) (b := b) hTc2 hb205 ⟨Nat.le_refl _, Nat.le_refl _⟩) (fun st3 μc3 hp3 => ?_)
    obtain ⟨x3, rfl, hx3, hy3, hz3, hTc3, hFN3⟩ := hp3
    have hFN := hFN3
    exact pm_iret rfl rfl ⟨_, rfl, by omega, by omega, by omega, hTc3, fun r hr => by rw [hFN r hr, hF.1 r hr]⟩
  · have h0 : x1 = (0 : Int) := h0
    refine pm_blk hK zmm280 [] 2 10 [(2, 205), (0, c), (0, a), (0, b)] [(0, 1), (2, 205)] μ [] rfl trivial ?_
    refine pm_call hK zmm280 (216, 0, 278, 1) zM278 (0, 0) [(2, 205), (0, 1)] [] rfl rfl rfl rfl ⟨by omega, by rw [zn278]; omega⟩ (zh_errs2 hK (k := 1) hT ⟨by omega, by omega⟩ hb205 ⟨Nat.le_refl _, Nat.le_refl _⟩) (fun st4 μc4 hp4 => ?_)
    obtain ⟨rfl, hTc4, hFE4⟩ := hp4
    have hFE := hFE4
    exact pm_iret rfl rfl ⟨_, rfl, by omega, by omega, Or.inl rfl, hTc4, hFE⟩
set_option maxRecDepth 100000 in
theorem zh_readDeed (hK : zKK ST) {p : Int} {z : Int} (hT : zTJ μ) (hp : p = 4 * z) (hz : 16 ≤ z ∧ z < 32) (hb205 : sx_bit Wm 205 = true) (hb222 : sx_bit Wm 222 = true) (hbd : 5 ≤ bud.1 ∧ 111 ≤ bud.2.1) : zC D Wm ST b0 l Sg zM284 bud [(2, 205), (0, p)] μ (fun st' μ' => ∃ x, st' = [(0, x)] ∧ -1 ≤ x ∧ x ≤ 0 ∧ zTJ μ' ∧ (∀ i, i < p → μ' 222 i = μ 222 i) ∧ (x ≠ -1 → zDeed (μ' 222 (p + 1)) (μ' 222 (p + 2)) (μ' 222 (p + 3)))) := by
  refine pm_blk hK zmm284 [] 7 12 [(2, 205), (0, p), (9, 0)] [(0, 999), (0, 0), (0, 22), (2, 205), (0, p), (2, 222)] μ [] rfl trivial ?_
  refine pm_call hK zmm284 (270, 0, 280, 3) zM280 (4, 88) [(2, 205), (0, 22), (0, 0), (0, 999)] [(0, p), (2, 222)] rfl rfl rfl rfl ⟨by omega, by rw [zn280]; omega⟩ (zh_readTold hK (c := 22) (a := 0) (b := 999) hT hb205 ⟨Nat.le_refl _, Nat.le_refl _⟩) (fun st1 μc1 hp1 => ?_)
  obtain ⟨x1, rfl, hx1, hy1, hz1, hTc1, hFN1⟩ := hp1
  have hFN := hFN1
  refine pm_blk hK zmm284 [] 1 16 [(2, 205), (0, p), (9, 0)] [] (pm_up μc1 222 p x1) [sx_bit Wm 222 = true, 0 ≤ p ∧ p < 128] rfl ⟨hb222, ⟨by omega, by omega⟩, trivial⟩ ?_
  obtain ⟨μ1, eμ1⟩ : ∃ μ', μ' = pm_up μc1 222 p x1 := ⟨_, rfl⟩
  rw [← eμ1]
  have hTμ1 : zTJ μ1 := by rw [eμ1]; exact zT_deed hTc1 zp222_0 (z := z) (by omega) (by omega) (by omega) (by omega) (by omega)
  have A : ∀ i, i < p → μ1 222 i = μ 222 i := fun i hi => by rw [eμ1, pm_up_ne (by omega), hFN 222 (by decide)]
  have f1 := zT_getp hTμ1 zp222_0 (i := p) (z := z) (by omega) (by omega) (by omega)
  refine pm_blk hK zmm284 [] 5 23 [(2, 205), (0, p), (9, 0)] [(0, (-1)), (0, μ1 222 p)] μ1 [0 ≤ p ∧ p < 128] rfl ⟨⟨by omega, by omega⟩, trivial⟩ ?_
  refine pm_icmp hK zmm284 .ne 5 28 rfl rfl (fun h0 => ?_) (fun h0 => ?_)
  · have h0 : μ1 222 p ≠ ((-1) : Int) := h0
    refine pm_blk hK zmm284 [] 1 29 [(2, 205), (0, p), (9, 0)] [(2, 205)] μ1 [] rfl trivial ?_
    refine pm_call hK zmm284 (280, 0, 285, 0) zM285 (1, 21) [(2, 205)] [] rfl rfl rfl rfl ⟨by omega, by rw [zn285]; omega⟩ (zh_kindOfDeed hK ⟨Nat.le_refl _, Nat.le_refl _⟩) (fun st2 μc2 hp2 => ?_)
    obtain ⟨rfl, x2, rfl, hx2a, hx2b⟩ := hp2
    refine pm_blk hK zmm284 [] 3 35 [(2, 205), (0, p), (0, x2)] [(0, (-1)), (0, x2)] μ1 [] rfl trivial ?_
    refine pm_icmp hK zmm284 .ne 9 44 rfl rfl (fun h1 => ?_) (fun h1 => ?_)
    · have h1 : x2 ≠ ((-1) : Int) := h1
      refine pm_blk hK zmm284 [] 1 45 [(2, 205), (0, p), (0, x2)] [(2, 205)] μ1 [] rfl trivial ?_
      refine pm_call hK zmm284 (223, 0, 139, 0) zM139 (2, 44) [(2, 205)] [] rfl rfl rfl rfl ⟨by omega, by rw [zn139]; omega⟩ (zh_reads hK hTμ1 hb205 ⟨Nat.le_refl _, Nat.le_refl _⟩) (fun st3 μc3 hp3 => ?_)
      obtain ⟨rfl, hTc3, hF3, hS3, hR3⟩ := hp3
      have hF := hF3
      have hS := hS3
      have hR := hR3
      have A : ∀ i, i < p → μc3 222 i = μ 222 i := fun i hi => by rw [hF.1 222 (by decide)]; exact A i hi
      refine pm_blk hK zmm284 [] 7 57 [(2, 205), (0, p), (0, x2)] [] (pm_up μc3 222 (p + 1) x2) [pm_in (p + 1), sx_bit Wm 222 = true, 0 ≤ p + 1 ∧ p + 1 < 128] rfl ⟨pm_in_mk (by omega) (by omega), hb222, ⟨by omega, by omega⟩, trivial⟩ ?_
      obtain ⟨μ2, eμ2⟩ : ∃ μ', μ' = pm_up μc3 222 (p + 1) x2 := ⟨_, rfl⟩
      rw [← eμ2]
      have hTμ2 : zTJ μ2 := by rw [eμ2]; exact zT_deed hTc3 zp222_1 (z := z) (by omega) (by omega) (by omega) (by omega) (by omega)
      have A : ∀ i, i < p → μ2 222 i = μ 222 i := fun i hi => by rw [eμ2, pm_up_ne (by omega)]; exact A i hi
      have B : μ2 222 (p + 1) = x2 := by rw [eμ2, pm_up_eq]
      refine pm_blk hK zmm284 [] 9 68 [(2, 205), (0, p), (0, x2)] [(0, 2), (0, x2), (0, 0), (2, 205), (0, p + 2), (2, 222)] μ2 [pm_in (p + 2)] rfl ⟨pm_in_mk (by omega) (by omega), trivial⟩ ?_
      refine pm_icmp hK zmm284 .ne 10 78 rfl rfl (fun h2 => ?_) (fun h2 => ?_)
      · have h2 : x2 ≠ (2 : Int) := h2
        have g2 : μ2 205 6 = μc3 205 6 := by rw [eμ2, pm_up_off (by decide)]
        have f3 := zT_get hTμ2 zs205_6 (i := 6) (by omega) (by omega)
        refine pm_blk hK zmm284 [] 4 84 [(2, 205), (0, p), (0, x2)] [(0, (μ2 205 6) - 1), (0, 0), (2, 205), (0, p + 2), (2, 222)] μ2 [pm_in ((μ2 205 6) - 1)] rfl ⟨pm_in_mk (by omega) (by omega), trivial⟩ ?_
        refine pm_call hK zmm284 (267, 0, 281, 2) zM281 (3, 65) [(2, 205), (0, 0), (0, (μ2 205 6) - 1)] [(0, p + 2), (2, 222)] rfl rfl rfl rfl ⟨by omega, by rw [zn281]; omega⟩ (zh_readNumber hK (a := 0) (b := ((μ2 205 6) - 1)) hTμ2 hb205 ⟨Nat.le_refl _, Nat.le_refl _⟩) (fun st4 μc4 hp4 => ?_)
        obtain ⟨x4, rfl, hx4, hy4, hz4, hTc4, hFN4⟩ := hp4
        have hFN := hFN4
        have A : ∀ i, i < p → μc4 222 i = μ 222 i := fun i hi => by rw [hFN 222 (by decide)]; exact A i hi
        have B : μc4 222 (p + 1) = x2 := by rw [hFN 222 (by decide)]; exact B
        refine pm_blk hK zmm284 [] 1 88 [(2, 205), (0, p), (0, x2)] [] (pm_up μc4 222 (p + 2) x4) [sx_bit Wm 222 = true, 0 ≤ p + 2 ∧ p + 2 < 128] rfl ⟨hb222, ⟨by omega, by omega⟩, trivial⟩ ?_
        obtain ⟨μ3, eμ3⟩ : ∃ μ', μ' = pm_up μc4 222 (p + 2) x4 := ⟨_, rfl⟩
        rw [← eμ3]
        have hTμ3 : zTJ μ3 := by rw [eμ3]; exact zT_deed hTc4 zp222_2 (z := z) (by omega) (by omega) (by omega) (by omega) (by omega)
        have A : ∀ i, i < p → μ3 222 i = μ 222 i := fun i hi => by rw [eμ3, pm_up_ne (by omega)]; exact A i hi
        have B : μ3 222 (p + 1) = x2 := by rw [eμ3, pm_up_ne (by omega)]; exact B
        obtain ⟨v2, C⟩ : ∃ v, μ3 222 (p + 2) = v := ⟨_, rfl⟩
        have C2 := C
        rw [eμ3, pm_up_eq] at C2
        have f4 := zT_getp hTμ3 zp222_2 (i := p + 2) (z := z) (by omega) (by omega) (by omega)
        refine pm_blk hK zmm284 [] 7 97 [(2, 205), (0, p), (0, x2)] [(0, (-1)), (0, μ3 222 (p + 2))] μ3 [pm_in (p + 2), 0 ≤ p + 2 ∧ p + 2 < 128] rfl ⟨pm_in_mk (by omega) (by omega), ⟨by omega, by omega⟩, trivial⟩ ?_
        refine pm_icmp hK zmm284 .ne 5 102 rfl rfl (fun h3 => ?_) (fun h3 => ?_)
        · have h3 : μ3 222 (p + 2) ≠ ((-1) : Int) := h3
          refine pm_blk hK zmm284 [] 7 111 [(2, 205), (0, p), (0, x2)] [(0, 3), (0, x2), (0, p + 3), (2, 222)] μ3 [pm_in (p + 3)] rfl ⟨pm_in_mk (by omega) (by omega), trivial⟩ ?_
          refine pm_icmp hK zmm284 .ne 17 128 rfl rfl (fun h4 => ?_) (fun h4 => ?_)
          · have h4 : x2 ≠ (3 : Int) := h4
            refine pm_blk hK zmm284 [] 2 130 [(2, 205), (0, p), (0, x2)] [(0, x2), (2, 205), (0, p + 3), (2, 222)] μ3 [] rfl trivial ?_
            refine pm_if hK zmm284 .ne 7 137 rfl rfl (fun h5 => ?_) (fun h5 => ?_)
            · have h5 : x2 ≠ (0 : Int) := h5
              refine pm_blk hK zmm284 [] 3 140 [(2, 205), (0, p), (0, x2)] [(0, 2), (0, x2), (0, 1), (2, 205), (0, p + 3), (2, 222)] μ3 [] rfl trivial ?_
              refine pm_icmp hK zmm284 .ne 9 149 rfl rfl (fun h6 => ?_) (fun h6 => ?_)
              · have h6 : x2 ≠ (2 : Int) := h6
                refine pm_blk hK zmm284 [] 1 151 [(2, 205), (0, p), (0, x2)] [(0, 99), (0, 1), (2, 205), (0, p + 3), (2, 222)] μ3 [] rfl trivial ?_
                refine pm_call hK zmm284 (267, 0, 281, 2) zM281 (3, 65) [(2, 205), (0, 1), (0, 99)] [(0, p + 3), (2, 222)] rfl rfl rfl rfl ⟨by omega, by rw [zn281]; omega⟩ (zh_readNumber hK (a := 1) (b := 99) hTμ3 hb205 ⟨Nat.le_refl _, Nat.le_refl _⟩) (fun st5 μc5 hp5 => ?_)
                obtain ⟨x5, rfl, hx5, hy5, hz5, hTc5, hFN5⟩ := hp5
                have hFN := hFN5
                have A : ∀ i, i < p → μc5 222 i = μ 222 i := fun i hi => by rw [hFN 222 (by decide)]; exact A i hi
                have B : μc5 222 (p + 1) = x2 := by rw [hFN 222 (by decide)]; exact B
                have C : μc5 222 (p + 2) = v2 := by rw [hFN 222 (by decide)]; exact C
                refine pm_blk hK zmm284 [] 1 155 [(2, 205), (0, p), (0, x2)] [] (pm_up μc5 222 (p + 3) x5) [sx_bit Wm 222 = true, 0 ≤ p + 3 ∧ p + 3 < 128] rfl ⟨hb222, ⟨by omega, by omega⟩, trivial⟩ ?_
                obtain ⟨μ4, eμ4⟩ : ∃ μ', μ' = pm_up μc5 222 (p + 3) x5 := ⟨_, rfl⟩
                rw [← eμ4]
                have hTμ4 : zTJ μ4 := by rw [eμ4]; exact zT_deed hTc5 zp222_3 (z := z) (by omega) (by omega) (by omega) (by omega) (by omega)
                have A : ∀ i, i < p → μ4 222 i = μ 222 i := fun i hi => by rw [eμ4, pm_up_ne (by omega)]; exact A i hi
                have B : μ4 222 (p + 1) = x2 := by rw [eμ4, pm_up_ne (by omega)]; exact B
                have C : μ4 222 (p + 2) = v2 := by rw [eμ4, pm_up_ne (by omega)]; exact C
                obtain ⟨v3, D⟩ : ∃ v, μ4 222 (p + 3) = v := ⟨_, rfl⟩
                have D2 := D
                rw [eμ4, pm_up_eq] at D2
                have f5 := zT_getp hTμ4 zp222_3 (i := p + 3) (z := z) (by omega) (by omega) (by omega)
                refine pm_blk hK zmm284 [] 7 164 [(2, 205), (0, p), (0, x2)] [(0, (-1)), (0, μ4 222 (p + 3))] μ4 [pm_in (p + 3), 0 ≤ p + 3 ∧ p + 3 < 128] rfl ⟨pm_in_mk (by omega) (by omega), ⟨by omega, by omega⟩, trivial⟩ ?_
                refine pm_icmp hK zmm284 .ne 7 171 rfl rfl (fun h7 => ?_) (fun h7 => ?_)
                · have h7 : μ4 222 (p + 3) ≠ ((-1) : Int) := h7
                  refine pm_blk hK zmm284 [] 2 174 [(2, 205), (0, p), (0, x2)] [(0, 59), (2, 205)] μ4 [] rfl trivial ?_
                  refine pm_call hK zmm284 (274, 0, 282, 1) zM282 (3, 65) [(2, 205), (0, 59)] [] rfl rfl rfl rfl ⟨by omega, by rw [zn282]; omega⟩ (zh_readMark hK (c := 59) hTμ4 hb205 ⟨Nat.le_refl _, Nat.le_refl _⟩) (fun st6 μc6 hp6 => ?_)
                  obtain ⟨x6, rfl, hx6, hy6, hTc6, hFN6⟩ := hp6
                  have hFN := hFN6
                  first
                  | exact pm_iret rfl rfl ⟨_, rfl, by omega, by omega, hTc6, A, fun h => absurd rfl h⟩
                  | (refine pm_iret rfl rfl ⟨_, rfl, by omega, by omega, hTc6, fun i hi => by rw [hFN 222 (by decide)]; exact A i hi, fun _ => ?_⟩
                     rw [hFN 222 (by decide), B, C, D]
                     exact ⟨by omega, by omega, by omega, by omega, fun _ => ⟨by omega, by omega⟩, fun _ => ⟨by omega, by omega⟩, fun _ => ⟨by omega, by omega⟩⟩)
                · have h7 : μ4 222 (p + 3) = ((-1) : Int) := h7
                  refine pm_blk hK zmm284 [] 2 177 [(2, 205), (0, p), (0, x2)] [(0, (-1))] μ4 [] rfl trivial ?_
                  first
                  | exact pm_iret rfl rfl ⟨_, rfl, by omega, by omega, hTμ4, A, fun h => absurd rfl h⟩
                  | (refine pm_iret rfl rfl ⟨_, rfl, by omega, by omega, hTμ4, fun i hi => by rw [hFN 222 (by decide)]; exact A i hi, fun _ => ?_⟩
                     rw [hFN 222 (by decide), B, C, D]
                     exact ⟨by omega, by omega, by omega, by omega, fun _ => ⟨by omega, by omega⟩, fun _ => ⟨by omega, by omega⟩, fun _ => ⟨by omega, by omega⟩⟩)
              · have h6 : x2 = (2 : Int) := h6
                exact absurd h6 h2
            · have h5 : x2 = (0 : Int) := h5
              refine pm_blk hK zmm284 [] 4 140 [(2, 205), (0, p), (0, x2)] [(0, 2), (0, x2), (0, 0), (2, 205), (0, p + 3), (2, 222)] μ3 [] rfl trivial ?_
              refine pm_icmp hK zmm284 .ne 9 149 rfl rfl (fun h8 => ?_) (fun h8 => ?_)
              · have h8 : x2 ≠ (2 : Int) := h8
                refine pm_blk hK zmm284 [] 1 151 [(2, 205), (0, p), (0, x2)] [(0, 99), (0, 0), (2, 205), (0, p + 3), (2, 222)] μ3 [] rfl trivial ?_
                refine pm_call hK zmm284 (267, 0, 281, 2) zM281 (3, 65) [(2, 205), (0, 0), (0, 99)] [(0, p + 3), (2, 222)] rfl rfl rfl rfl ⟨by omega, by rw [zn281]; omega⟩ (zh_readNumber hK (a := 0) (b := 99) hTμ3 hb205 ⟨Nat.le_refl _, Nat.le_refl _⟩) (fun st7 μc7 hp7 => ?_)
                obtain ⟨x7, rfl, hx7, hy7, hz7, hTc7, hFN7⟩ := hp7
                have hFN := hFN7
                have A : ∀ i, i < p → μc7 222 i = μ 222 i := fun i hi => by rw [hFN 222 (by decide)]; exact A i hi
                have B : μc7 222 (p + 1) = x2 := by rw [hFN 222 (by decide)]; exact B
                have C : μc7 222 (p + 2) = v2 := by rw [hFN 222 (by decide)]; exact C
                refine pm_blk hK zmm284 [] 1 155 [(2, 205), (0, p), (0, x2)] [] (pm_up μc7 222 (p + 3) x7) [sx_bit Wm 222 = true, 0 ≤ p + 3 ∧ p + 3 < 128] rfl ⟨hb222, ⟨by omega, by omega⟩, trivial⟩ ?_
                obtain ⟨μ5, eμ5⟩ : ∃ μ', μ' = pm_up μc7 222 (p + 3) x7 := ⟨_, rfl⟩
                rw [← eμ5]
                have hTμ5 : zTJ μ5 := by rw [eμ5]; exact zT_deed hTc7 zp222_3 (z := z) (by omega) (by omega) (by omega) (by omega) (by omega)
                have A : ∀ i, i < p → μ5 222 i = μ 222 i := fun i hi => by rw [eμ5, pm_up_ne (by omega)]; exact A i hi
                have B : μ5 222 (p + 1) = x2 := by rw [eμ5, pm_up_ne (by omega)]; exact B
                have C : μ5 222 (p + 2) = v2 := by rw [eμ5, pm_up_ne (by omega)]; exact C
                obtain ⟨v3, D⟩ : ∃ v, μ5 222 (p + 3) = v := ⟨_, rfl⟩
                have D2 := D
                rw [eμ5, pm_up_eq] at D2
                have f6 := zT_getp hTμ5 zp222_3 (i := p + 3) (z := z) (by omega) (by omega) (by omega)
                refine pm_blk hK zmm284 [] 7 164 [(2, 205), (0, p), (0, x2)] [(0, (-1)), (0, μ5 222 (p + 3))] μ5 [pm_in (p + 3), 0 ≤ p + 3 ∧ p + 3 < 128] rfl ⟨pm_in_mk (by omega) (by omega), ⟨by omega, by omega⟩, trivial⟩ ?_
                refine pm_icmp hK zmm284 .ne 7 171 rfl rfl (fun h9 => ?_) (fun h9 => ?_)
                · have h9 : μ5 222 (p + 3) ≠ ((-1) : Int) := h9
                  refine pm_blk hK zmm284 [] 2 174 [(2, 205), (0, p), (0, x2)] [(0, 59), (2, 205)] μ5 [] rfl trivial ?_
                  refine pm_call hK zmm284 (274, 0, 282, 1) zM282 (3, 65) [(2, 205), (0, 59)] [] rfl rfl rfl rfl ⟨by omega, by rw [zn282]; omega⟩ (zh_readMark hK (c := 59) hTμ5 hb205 ⟨Nat.le_refl _, Nat.le_refl _⟩) (fun st8 μc8 hp8 => ?_)
                  obtain ⟨x8, rfl, hx8, hy8, hTc8, hFN8⟩ := hp8
                  have hFN := hFN8
                  first
                  | exact pm_iret rfl rfl ⟨_, rfl, by omega, by omega, hTc8, A, fun h => absurd rfl h⟩
                  | (refine pm_iret rfl rfl ⟨_, rfl, by omega, by omega, hTc8, fun i hi => by rw [hFN 222 (by decide)]; exact A i hi, fun _ => ?_⟩
                     rw [hFN 222 (by decide), B, C, D]
                     exact ⟨by omega, by omega, by omega, by omega, fun _ => ⟨by omega, by omega⟩, fun _ => ⟨by omega, by omega⟩, fun _ => ⟨by omega, by omega⟩⟩)
                · have h9 : μ5 222 (p + 3) = ((-1) : Int) := h9
                  refine pm_blk hK zmm284 [] 2 177 [(2, 205), (0, p), (0, x2)] [(0, (-1))] μ5 [] rfl trivial ?_
                  first
                  | exact pm_iret rfl rfl ⟨_, rfl, by omega, by omega, hTμ5, A, fun h => absurd rfl h⟩
                  | (refine pm_iret rfl rfl ⟨_, rfl, by omega, by omega, hTμ5, fun i hi => by rw [hFN 222 (by decide)]; exact A i hi, fun _ => ?_⟩
                     rw [hFN 222 (by decide), B, C, D]
                     exact ⟨by omega, by omega, by omega, by omega, fun _ => ⟨by omega, by omega⟩, fun _ => ⟨by omega, by omega⟩, fun _ => ⟨by omega, by omega⟩⟩)
              · have h8 : x2 = (2 : Int) := h8
                exact absurd h8 h2
          · have h4 : x2 = (3 : Int) := h4
            have g7 : μ3 205 7 = μc4 205 7 := by rw [eμ3, pm_up_off (by decide)]
            have f8 := zT_get hTμ3 zs205_7 (i := 7) (by omega) (by omega)
            refine pm_blk hK zmm284 [] 6 122 [(2, 205), (0, p), (0, x2)] [(0, (μ3 205 7) - 1), (0, 0), (2, 205), (0, p + 3), (2, 222)] μ3 [pm_in ((μ3 205 7) - 1)] rfl ⟨pm_in_mk (by omega) (by omega), trivial⟩ ?_
            refine pm_call hK zmm284 (267, 0, 281, 2) zM281 (3, 65) [(2, 205), (0, 0), (0, (μ3 205 7) - 1)] [(0, p + 3), (2, 222)] rfl rfl rfl rfl ⟨by omega, by rw [zn281]; omega⟩ (zh_readNumber hK (a := 0) (b := ((μ3 205 7) - 1)) hTμ3 hb205 ⟨Nat.le_refl _, Nat.le_refl _⟩) (fun st9 μc9 hp9 => ?_)
            obtain ⟨x9, rfl, hx9, hy9, hz9, hTc9, hFN9⟩ := hp9
            have hFN := hFN9
            refine pm_blk hK zmm284 [] 1 154 [(2, 205), (0, p), (0, x2)] [(0, x9), (0, p + 3), (2, 222)] μc9 [] rfl trivial ?_
            have A : ∀ i, i < p → μc9 222 i = μ 222 i := fun i hi => by rw [hFN 222 (by decide)]; exact A i hi
            have B : μc9 222 (p + 1) = x2 := by rw [hFN 222 (by decide)]; exact B
            have C : μc9 222 (p + 2) = v2 := by rw [hFN 222 (by decide)]; exact C
            refine pm_blk hK zmm284 [] 1 155 [(2, 205), (0, p), (0, x2)] [] (pm_up μc9 222 (p + 3) x9) [sx_bit Wm 222 = true, 0 ≤ p + 3 ∧ p + 3 < 128] rfl ⟨hb222, ⟨by omega, by omega⟩, trivial⟩ ?_
            obtain ⟨μ6, eμ6⟩ : ∃ μ', μ' = pm_up μc9 222 (p + 3) x9 := ⟨_, rfl⟩
            rw [← eμ6]
            have hTμ6 : zTJ μ6 := by rw [eμ6]; exact zT_deed hTc9 zp222_3 (z := z) (by omega) (by omega) (by omega) (by omega) (by omega)
            have A : ∀ i, i < p → μ6 222 i = μ 222 i := fun i hi => by rw [eμ6, pm_up_ne (by omega)]; exact A i hi
            have B : μ6 222 (p + 1) = x2 := by rw [eμ6, pm_up_ne (by omega)]; exact B
            have C : μ6 222 (p + 2) = v2 := by rw [eμ6, pm_up_ne (by omega)]; exact C
            obtain ⟨v3, D⟩ : ∃ v, μ6 222 (p + 3) = v := ⟨_, rfl⟩
            have D2 := D
            rw [eμ6, pm_up_eq] at D2
            have f9 := zT_getp hTμ6 zp222_3 (i := p + 3) (z := z) (by omega) (by omega) (by omega)
            refine pm_blk hK zmm284 [] 7 164 [(2, 205), (0, p), (0, x2)] [(0, (-1)), (0, μ6 222 (p + 3))] μ6 [pm_in (p + 3), 0 ≤ p + 3 ∧ p + 3 < 128] rfl ⟨pm_in_mk (by omega) (by omega), ⟨by omega, by omega⟩, trivial⟩ ?_
            refine pm_icmp hK zmm284 .ne 7 171 rfl rfl (fun h10 => ?_) (fun h10 => ?_)
            · have h10 : μ6 222 (p + 3) ≠ ((-1) : Int) := h10
              refine pm_blk hK zmm284 [] 2 174 [(2, 205), (0, p), (0, x2)] [(0, 59), (2, 205)] μ6 [] rfl trivial ?_
              refine pm_call hK zmm284 (274, 0, 282, 1) zM282 (3, 65) [(2, 205), (0, 59)] [] rfl rfl rfl rfl ⟨by omega, by rw [zn282]; omega⟩ (zh_readMark hK (c := 59) hTμ6 hb205 ⟨Nat.le_refl _, Nat.le_refl _⟩) (fun st10 μc10 hp10 => ?_)
              obtain ⟨x10, rfl, hx10, hy10, hTc10, hFN10⟩ := hp10
              have hFN := hFN10
              first
              | exact pm_iret rfl rfl ⟨_, rfl, by omega, by omega, hTc10, A, fun h => absurd rfl h⟩
              | (refine pm_iret rfl rfl ⟨_, rfl, by omega, by omega, hTc10, fun i hi => by rw [hFN 222 (by decide)]; exact A i hi, fun _ => ?_⟩
                 rw [hFN 222 (by decide), B, C, D]
                 exact ⟨by omega, by omega, by omega, by omega, fun _ => ⟨by omega, by omega⟩, fun _ => ⟨by omega, by omega⟩, fun _ => ⟨by omega, by omega⟩⟩)
            · have h10 : μ6 222 (p + 3) = ((-1) : Int) := h10
              refine pm_blk hK zmm284 [] 2 177 [(2, 205), (0, p), (0, x2)] [(0, (-1))] μ6 [] rfl trivial ?_
              first
              | exact pm_iret rfl rfl ⟨_, rfl, by omega, by omega, hTμ6, A, fun h => absurd rfl h⟩
              | (refine pm_iret rfl rfl ⟨_, rfl, by omega, by omega, hTμ6, fun i hi => by rw [hFN 222 (by decide)]; exact A i hi, fun _ => ?_⟩
                 rw [hFN 222 (by decide), B, C, D]
                 exact ⟨by omega, by omega, by omega, by omega, fun _ => ⟨by omega, by omega⟩, fun _ => ⟨by omega, by omega⟩, fun _ => ⟨by omega, by omega⟩⟩)
        · have h3 : μ3 222 (p + 2) = ((-1) : Int) := h3
          refine pm_blk hK zmm284 [] 1 101 [(2, 205), (0, p), (0, x2)] [(0, (-1))] μ3 [] rfl trivial ?_
          exact pm_iret rfl rfl ⟨_, rfl, by omega, by omega, hTμ3, A, fun h => absurd rfl h⟩
      · have h2 : x2 = (2 : Int) := h2
        have g10 : μ2 205 7 = μc3 205 7 := by rw [eμ2, pm_up_off (by decide)]
        have f11 := zT_get hTμ2 zs205_7 (i := 7) (by omega) (by omega)
        refine pm_blk hK zmm284 [] 5 84 [(2, 205), (0, p), (0, x2)] [(0, (μ2 205 7) - 1), (0, 0), (2, 205), (0, p + 2), (2, 222)] μ2 [pm_in ((μ2 205 7) - 1)] rfl ⟨pm_in_mk (by omega) (by omega), trivial⟩ ?_
        refine pm_call hK zmm284 (267, 0, 281, 2) zM281 (3, 65) [(2, 205), (0, 0), (0, (μ2 205 7) - 1)] [(0, p + 2), (2, 222)] rfl rfl rfl rfl ⟨by omega, by rw [zn281]; omega⟩ (zh_readNumber hK (a := 0) (b := ((μ2 205 7) - 1)) hTμ2 hb205 ⟨Nat.le_refl _, Nat.le_refl _⟩) (fun st11 μc11 hp11 => ?_)
        obtain ⟨x11, rfl, hx11, hy11, hz11, hTc11, hFN11⟩ := hp11
        have hFN := hFN11
        have A : ∀ i, i < p → μc11 222 i = μ 222 i := fun i hi => by rw [hFN 222 (by decide)]; exact A i hi
        have B : μc11 222 (p + 1) = x2 := by rw [hFN 222 (by decide)]; exact B
        refine pm_blk hK zmm284 [] 1 88 [(2, 205), (0, p), (0, x2)] [] (pm_up μc11 222 (p + 2) x11) [sx_bit Wm 222 = true, 0 ≤ p + 2 ∧ p + 2 < 128] rfl ⟨hb222, ⟨by omega, by omega⟩, trivial⟩ ?_
        obtain ⟨μ7, eμ7⟩ : ∃ μ', μ' = pm_up μc11 222 (p + 2) x11 := ⟨_, rfl⟩
        rw [← eμ7]
        have hTμ7 : zTJ μ7 := by rw [eμ7]; exact zT_deed hTc11 zp222_2 (z := z) (by omega) (by omega) (by omega) (by omega) (by omega)
        have A : ∀ i, i < p → μ7 222 i = μ 222 i := fun i hi => by rw [eμ7, pm_up_ne (by omega)]; exact A i hi
        have B : μ7 222 (p + 1) = x2 := by rw [eμ7, pm_up_ne (by omega)]; exact B
        obtain ⟨v2, C⟩ : ∃ v, μ7 222 (p + 2) = v := ⟨_, rfl⟩
        have C2 := C
        rw [eμ7, pm_up_eq] at C2
        have f12 := zT_getp hTμ7 zp222_2 (i := p + 2) (z := z) (by omega) (by omega) (by omega)
        refine pm_blk hK zmm284 [] 7 97 [(2, 205), (0, p), (0, x2)] [(0, (-1)), (0, μ7 222 (p + 2))] μ7 [pm_in (p + 2), 0 ≤ p + 2 ∧ p + 2 < 128] rfl ⟨pm_in_mk (by omega) (by omega), ⟨by omega, by omega⟩, trivial⟩ ?_
        refine pm_icmp hK zmm284 .ne 5 102 rfl rfl (fun h11 => ?_) (fun h11 => ?_)
        · have h11 : μ7 222 (p + 2) ≠ ((-1) : Int) := h11
          refine pm_blk hK zmm284 [] 7 111 [(2, 205), (0, p), (0, x2)] [(0, 3), (0, x2), (0, p + 3), (2, 222)] μ7 [pm_in (p + 3)] rfl ⟨pm_in_mk (by omega) (by omega), trivial⟩ ?_
          refine pm_icmp hK zmm284 .ne 17 128 rfl rfl (fun h12 => ?_) (fun h12 => ?_)
          · have h12 : x2 ≠ (3 : Int) := h12
            refine pm_blk hK zmm284 [] 2 130 [(2, 205), (0, p), (0, x2)] [(0, x2), (2, 205), (0, p + 3), (2, 222)] μ7 [] rfl trivial ?_
            refine pm_if hK zmm284 .ne 7 137 rfl rfl (fun h13 => ?_) (fun h13 => ?_)
            · have h13 : x2 ≠ (0 : Int) := h13
              refine pm_blk hK zmm284 [] 3 140 [(2, 205), (0, p), (0, x2)] [(0, 2), (0, x2), (0, 1), (2, 205), (0, p + 3), (2, 222)] μ7 [] rfl trivial ?_
              refine pm_icmp hK zmm284 .ne 9 149 rfl rfl (fun h14 => ?_) (fun h14 => ?_)
              · have h14 : x2 ≠ (2 : Int) := h14
                exact absurd h2 h14
              · have h14 : x2 = (2 : Int) := h14
                refine pm_blk hK zmm284 [] 2 151 [(2, 205), (0, p), (0, x2)] [(0, 999), (0, 1), (2, 205), (0, p + 3), (2, 222)] μ7 [] rfl trivial ?_
                refine pm_call hK zmm284 (267, 0, 281, 2) zM281 (3, 65) [(2, 205), (0, 1), (0, 999)] [(0, p + 3), (2, 222)] rfl rfl rfl rfl ⟨by omega, by rw [zn281]; omega⟩ (zh_readNumber hK (a := 1) (b := 999) hTμ7 hb205 ⟨Nat.le_refl _, Nat.le_refl _⟩) (fun st12 μc12 hp12 => ?_)
                obtain ⟨x12, rfl, hx12, hy12, hz12, hTc12, hFN12⟩ := hp12
                have hFN := hFN12
                have A : ∀ i, i < p → μc12 222 i = μ 222 i := fun i hi => by rw [hFN 222 (by decide)]; exact A i hi
                have B : μc12 222 (p + 1) = x2 := by rw [hFN 222 (by decide)]; exact B
                have C : μc12 222 (p + 2) = v2 := by rw [hFN 222 (by decide)]; exact C
                refine pm_blk hK zmm284 [] 1 155 [(2, 205), (0, p), (0, x2)] [] (pm_up μc12 222 (p + 3) x12) [sx_bit Wm 222 = true, 0 ≤ p + 3 ∧ p + 3 < 128] rfl ⟨hb222, ⟨by omega, by omega⟩, trivial⟩ ?_
                obtain ⟨μ8, eμ8⟩ : ∃ μ', μ' = pm_up μc12 222 (p + 3) x12 := ⟨_, rfl⟩
                rw [← eμ8]
                have hTμ8 : zTJ μ8 := by rw [eμ8]; exact zT_deed hTc12 zp222_3 (z := z) (by omega) (by omega) (by omega) (by omega) (by omega)
                have A : ∀ i, i < p → μ8 222 i = μ 222 i := fun i hi => by rw [eμ8, pm_up_ne (by omega)]; exact A i hi
                have B : μ8 222 (p + 1) = x2 := by rw [eμ8, pm_up_ne (by omega)]; exact B
                have C : μ8 222 (p + 2) = v2 := by rw [eμ8, pm_up_ne (by omega)]; exact C
                obtain ⟨v3, D⟩ : ∃ v, μ8 222 (p + 3) = v := ⟨_, rfl⟩
                have D2 := D
                rw [eμ8, pm_up_eq] at D2
                have f13 := zT_getp hTμ8 zp222_3 (i := p + 3) (z := z) (by omega) (by omega) (by omega)
                refine pm_blk hK zmm284 [] 7 164 [(2, 205), (0, p), (0, x2)] [(0, (-1)), (0, μ8 222 (p + 3))] μ8 [pm_in (p + 3), 0 ≤ p + 3 ∧ p + 3 < 128] rfl ⟨pm_in_mk (by omega) (by omega), ⟨by omega, by omega⟩, trivial⟩ ?_
                refine pm_icmp hK zmm284 .ne 7 171 rfl rfl (fun h15 => ?_) (fun h15 => ?_)
                · have h15 : μ8 222 (p + 3) ≠ ((-1) : Int) := h15
                  refine pm_blk hK zmm284 [] 2 174 [(2, 205), (0, p), (0, x2)] [(0, 59), (2, 205)] μ8 [] rfl trivial ?_
                  refine pm_call hK zmm284 (274, 0, 282, 1) zM282 (3, 65) [(2, 205), (0, 59)] [] rfl rfl rfl rfl ⟨by omega, by rw [zn282]; omega⟩ (zh_readMark hK (c := 59) hTμ8 hb205 ⟨Nat.le_refl _, Nat.le_refl _⟩) (fun st13 μc13 hp13 => ?_)
                  obtain ⟨x13, rfl, hx13, hy13, hTc13, hFN13⟩ := hp13
                  have hFN := hFN13
                  first
                  | exact pm_iret rfl rfl ⟨_, rfl, by omega, by omega, hTc13, A, fun h => absurd rfl h⟩
                  | (refine pm_iret rfl rfl ⟨_, rfl, by omega, by omega, hTc13, fun i hi => by rw [hFN 222 (by decide)]; exact A i hi, fun _ => ?_⟩
                     rw [hFN 222 (by decide), B, C, D]
                     exact ⟨by omega, by omega, by omega, by omega, fun _ => ⟨by omega, by omega⟩, fun _ => ⟨by omega, by omega⟩, fun _ => ⟨by omega, by omega⟩⟩)
                · have h15 : μ8 222 (p + 3) = ((-1) : Int) := h15
                  refine pm_blk hK zmm284 [] 2 177 [(2, 205), (0, p), (0, x2)] [(0, (-1))] μ8 [] rfl trivial ?_
                  first
                  | exact pm_iret rfl rfl ⟨_, rfl, by omega, by omega, hTμ8, A, fun h => absurd rfl h⟩
                  | (refine pm_iret rfl rfl ⟨_, rfl, by omega, by omega, hTμ8, fun i hi => by rw [hFN 222 (by decide)]; exact A i hi, fun _ => ?_⟩
                     rw [hFN 222 (by decide), B, C, D]
                     exact ⟨by omega, by omega, by omega, by omega, fun _ => ⟨by omega, by omega⟩, fun _ => ⟨by omega, by omega⟩, fun _ => ⟨by omega, by omega⟩⟩)
            · have h13 : x2 = (0 : Int) := h13
              refine pm_blk hK zmm284 [] 4 140 [(2, 205), (0, p), (0, x2)] [(0, 2), (0, x2), (0, 0), (2, 205), (0, p + 3), (2, 222)] μ7 [] rfl trivial ?_
              refine pm_icmp hK zmm284 .ne 9 149 rfl rfl (fun h16 => ?_) (fun h16 => ?_)
              · have h16 : x2 ≠ (2 : Int) := h16
                exact absurd h2 h16
              · have h16 : x2 = (2 : Int) := h16
                refine pm_blk hK zmm284 [] 2 151 [(2, 205), (0, p), (0, x2)] [(0, 999), (0, 0), (2, 205), (0, p + 3), (2, 222)] μ7 [] rfl trivial ?_
                refine pm_call hK zmm284 (267, 0, 281, 2) zM281 (3, 65) [(2, 205), (0, 0), (0, 999)] [(0, p + 3), (2, 222)] rfl rfl rfl rfl ⟨by omega, by rw [zn281]; omega⟩ (zh_readNumber hK (a := 0) (b := 999) hTμ7 hb205 ⟨Nat.le_refl _, Nat.le_refl _⟩) (fun st14 μc14 hp14 => ?_)
                obtain ⟨x14, rfl, hx14, hy14, hz14, hTc14, hFN14⟩ := hp14
                have hFN := hFN14
                have A : ∀ i, i < p → μc14 222 i = μ 222 i := fun i hi => by rw [hFN 222 (by decide)]; exact A i hi
                have B : μc14 222 (p + 1) = x2 := by rw [hFN 222 (by decide)]; exact B
                have C : μc14 222 (p + 2) = v2 := by rw [hFN 222 (by decide)]; exact C
                refine pm_blk hK zmm284 [] 1 155 [(2, 205), (0, p), (0, x2)] [] (pm_up μc14 222 (p + 3) x14) [sx_bit Wm 222 = true, 0 ≤ p + 3 ∧ p + 3 < 128] rfl ⟨hb222, ⟨by omega, by omega⟩, trivial⟩ ?_
                obtain ⟨μ9, eμ9⟩ : ∃ μ', μ' = pm_up μc14 222 (p + 3) x14 := ⟨_, rfl⟩
                rw [← eμ9]
                have hTμ9 : zTJ μ9 := by rw [eμ9]; exact zT_deed hTc14 zp222_3 (z := z) (by omega) (by omega) (by omega) (by omega) (by omega)
                have A : ∀ i, i < p → μ9 222 i = μ 222 i := fun i hi => by rw [eμ9, pm_up_ne (by omega)]; exact A i hi
                have B : μ9 222 (p + 1) = x2 := by rw [eμ9, pm_up_ne (by omega)]; exact B
                have C : μ9 222 (p + 2) = v2 := by rw [eμ9, pm_up_ne (by omega)]; exact C
                obtain ⟨v3, D⟩ : ∃ v, μ9 222 (p + 3) = v := ⟨_, rfl⟩
                have D2 := D
                rw [eμ9, pm_up_eq] at D2
                have f14 := zT_getp hTμ9 zp222_3 (i := p + 3) (z := z) (by omega) (by omega) (by omega)
                refine pm_blk hK zmm284 [] 7 164 [(2, 205), (0, p), (0, x2)] [(0, (-1)), (0, μ9 222 (p + 3))] μ9 [pm_in (p + 3), 0 ≤ p + 3 ∧ p + 3 < 128] rfl ⟨pm_in_mk (by omega) (by omega), ⟨by omega, by omega⟩, trivial⟩ ?_
                refine pm_icmp hK zmm284 .ne 7 171 rfl rfl (fun h17 => ?_) (fun h17 => ?_)
                · have h17 : μ9 222 (p + 3) ≠ ((-1) : Int) := h17
                  refine pm_blk hK zmm284 [] 2 174 [(2, 205), (0, p), (0, x2)] [(0, 59), (2, 205)] μ9 [] rfl trivial ?_
                  refine pm_call hK zmm284 (274, 0, 282, 1) zM282 (3, 65) [(2, 205), (0, 59)] [] rfl rfl rfl rfl ⟨by omega, by rw [zn282]; omega⟩ (zh_readMark hK (c := 59) hTμ9 hb205 ⟨Nat.le_refl _, Nat.le_refl _⟩) (fun st15 μc15 hp15 => ?_)
                  obtain ⟨x15, rfl, hx15, hy15, hTc15, hFN15⟩ := hp15
                  have hFN := hFN15
                  first
                  | exact pm_iret rfl rfl ⟨_, rfl, by omega, by omega, hTc15, A, fun h => absurd rfl h⟩
                  | (refine pm_iret rfl rfl ⟨_, rfl, by omega, by omega, hTc15, fun i hi => by rw [hFN 222 (by decide)]; exact A i hi, fun _ => ?_⟩
                     rw [hFN 222 (by decide), B, C, D]
                     exact ⟨by omega, by omega, by omega, by omega, fun _ => ⟨by omega, by omega⟩, fun _ => ⟨by omega, by omega⟩, fun _ => ⟨by omega, by omega⟩⟩)
                · have h17 : μ9 222 (p + 3) = ((-1) : Int) := h17
                  refine pm_blk hK zmm284 [] 2 177 [(2, 205), (0, p), (0, x2)] [(0, (-1))] μ9 [] rfl trivial ?_
                  first
                  | exact pm_iret rfl rfl ⟨_, rfl, by omega, by omega, hTμ9, A, fun h => absurd rfl h⟩
                  | (refine pm_iret rfl rfl ⟨_, rfl, by omega, by omega, hTμ9, fun i hi => by rw [hFN 222 (by decide)]; exact A i hi, fun _ => ?_⟩
                     rw [hFN 222 (by decide), B, C, D]
                     exact ⟨by omega, by omega, by omega, by omega, fun _ => ⟨by omega, by omega⟩, fun _ => ⟨by omega, by omega⟩, fun _ => ⟨by omega, by omega⟩⟩)
          · have h12 : x2 = (3 : Int) := h12
            have g15 : μ7 205 7 = μc11 205 7 := by rw [eμ7, pm_up_off (by decide)]
            have f16 := zT_get hTμ7 zs205_7 (i := 7) (by omega) (by omega)
            refine pm_blk hK zmm284 [] 6 122 [(2, 205), (0, p), (0, x2)] [(0, (μ7 205 7) - 1), (0, 0), (2, 205), (0, p + 3), (2, 222)] μ7 [pm_in ((μ7 205 7) - 1)] rfl ⟨pm_in_mk (by omega) (by omega), trivial⟩ ?_
            refine pm_call hK zmm284 (267, 0, 281, 2) zM281 (3, 65) [(2, 205), (0, 0), (0, (μ7 205 7) - 1)] [(0, p + 3), (2, 222)] rfl rfl rfl rfl ⟨by omega, by rw [zn281]; omega⟩ (zh_readNumber hK (a := 0) (b := ((μ7 205 7) - 1)) hTμ7 hb205 ⟨Nat.le_refl _, Nat.le_refl _⟩) (fun st16 μc16 hp16 => ?_)
            obtain ⟨x16, rfl, hx16, hy16, hz16, hTc16, hFN16⟩ := hp16
            have hFN := hFN16
            refine pm_blk hK zmm284 [] 1 154 [(2, 205), (0, p), (0, x2)] [(0, x16), (0, p + 3), (2, 222)] μc16 [] rfl trivial ?_
            have A : ∀ i, i < p → μc16 222 i = μ 222 i := fun i hi => by rw [hFN 222 (by decide)]; exact A i hi
            have B : μc16 222 (p + 1) = x2 := by rw [hFN 222 (by decide)]; exact B
            have C : μc16 222 (p + 2) = v2 := by rw [hFN 222 (by decide)]; exact C
            refine pm_blk hK zmm284 [] 1 155 [(2, 205), (0, p), (0, x2)] [] (pm_up μc16 222 (p + 3) x16) [sx_bit Wm 222 = true, 0 ≤ p + 3 ∧ p + 3 < 128] rfl ⟨hb222, ⟨by omega, by omega⟩, trivial⟩ ?_
            obtain ⟨μ10, eμ10⟩ : ∃ μ', μ' = pm_up μc16 222 (p + 3) x16 := ⟨_, rfl⟩
            rw [← eμ10]
            have hTμ10 : zTJ μ10 := by rw [eμ10]; exact zT_deed hTc16 zp222_3 (z := z) (by omega) (by omega) (by omega) (by omega) (by omega)
            have A : ∀ i, i < p → μ10 222 i = μ 222 i := fun i hi => by rw [eμ10, pm_up_ne (by omega)]; exact A i hi
            have B : μ10 222 (p + 1) = x2 := by rw [eμ10, pm_up_ne (by omega)]; exact B
            have C : μ10 222 (p + 2) = v2 := by rw [eμ10, pm_up_ne (by omega)]; exact C
            obtain ⟨v3, D⟩ : ∃ v, μ10 222 (p + 3) = v := ⟨_, rfl⟩
            have D2 := D
            rw [eμ10, pm_up_eq] at D2
            have f17 := zT_getp hTμ10 zp222_3 (i := p + 3) (z := z) (by omega) (by omega) (by omega)
            refine pm_blk hK zmm284 [] 7 164 [(2, 205), (0, p), (0, x2)] [(0, (-1)), (0, μ10 222 (p + 3))] μ10 [pm_in (p + 3), 0 ≤ p + 3 ∧ p + 3 < 128] rfl ⟨pm_in_mk (by omega) (by omega), ⟨by omega, by omega⟩, trivial⟩ ?_
            refine pm_icmp hK zmm284 .ne 7 171 rfl rfl (fun h18 => ?_) (fun h18 => ?_)
            · have h18 : μ10 222 (p + 3) ≠ ((-1) : Int) := h18
              refine pm_blk hK zmm284 [] 2 174 [(2, 205), (0, p), (0, x2)] [(0, 59), (2, 205)] μ10 [] rfl trivial ?_
              refine pm_call hK zmm284 (274, 0, 282, 1) zM282 (3, 65) [(2, 205), (0, 59)] [] rfl rfl rfl rfl ⟨by omega, by rw [zn282]; omega⟩ (zh_readMark hK (c := 59) hTμ10 hb205 ⟨Nat.le_refl _, Nat.le_refl _⟩) (fun st17 μc17 hp17 => ?_)
              obtain ⟨x17, rfl, hx17, hy17, hTc17, hFN17⟩ := hp17
              have hFN := hFN17
              first
              | exact pm_iret rfl rfl ⟨_, rfl, by omega, by omega, hTc17, A, fun h => absurd rfl h⟩
              | (refine pm_iret rfl rfl ⟨_, rfl, by omega, by omega, hTc17, fun i hi => by rw [hFN 222 (by decide)]; exact A i hi, fun _ => ?_⟩
                 rw [hFN 222 (by decide), B, C, D]
                 exact ⟨by omega, by omega, by omega, by omega, fun _ => ⟨by omega, by omega⟩, fun _ => ⟨by omega, by omega⟩, fun _ => ⟨by omega, by omega⟩⟩)
            · have h18 : μ10 222 (p + 3) = ((-1) : Int) := h18
              refine pm_blk hK zmm284 [] 2 177 [(2, 205), (0, p), (0, x2)] [(0, (-1))] μ10 [] rfl trivial ?_
              first
              | exact pm_iret rfl rfl ⟨_, rfl, by omega, by omega, hTμ10, A, fun h => absurd rfl h⟩
              | (refine pm_iret rfl rfl ⟨_, rfl, by omega, by omega, hTμ10, fun i hi => by rw [hFN 222 (by decide)]; exact A i hi, fun _ => ?_⟩
                 rw [hFN 222 (by decide), B, C, D]
                 exact ⟨by omega, by omega, by omega, by omega, fun _ => ⟨by omega, by omega⟩, fun _ => ⟨by omega, by omega⟩, fun _ => ⟨by omega, by omega⟩⟩)
        · have h11 : μ7 222 (p + 2) = ((-1) : Int) := h11
          refine pm_blk hK zmm284 [] 1 101 [(2, 205), (0, p), (0, x2)] [(0, (-1))] μ7 [] rfl trivial ?_
          exact pm_iret rfl rfl ⟨_, rfl, by omega, by omega, hTμ7, A, fun h => absurd rfl h⟩
    · have h1 : x2 = ((-1) : Int) := h1
      refine pm_blk hK zmm284 [] 2 40 [(2, 205), (0, p), (0, x2)] [(0, 1), (2, 205)] μ1 [] rfl trivial ?_
      refine pm_call hK zmm284 (216, 0, 278, 1) zM278 (0, 0) [(2, 205), (0, 1)] [] rfl rfl rfl rfl ⟨by omega, by rw [zn278]; omega⟩ (zh_errs2 hK (k := 1) hTμ1 ⟨by omega, by omega⟩ hb205 ⟨Nat.le_refl _, Nat.le_refl _⟩) (fun st18 μc18 hp18 => ?_)
      obtain ⟨rfl, hTc18, hFE18⟩ := hp18
      have hFE := hFE18
      exact pm_iret rfl rfl ⟨_, rfl, by omega, by omega, hTc18, fun i hi => by rw [hFE 222 (by decide)]; exact A i hi, fun h => absurd rfl h⟩
  · have h0 : μ1 222 p = ((-1) : Int) := h0
    refine pm_blk hK zmm284 [] 1 27 [(2, 205), (0, p), (9, 0)] [(0, (-1))] μ1 [] rfl trivial ?_
    exact pm_iret rfl rfl ⟨_, rfl, by omega, by omega, hTμ1, A, fun h => absurd rfl h⟩
end ZHW
