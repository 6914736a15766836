/-! products, sums, comparisons of the law; walks printed by program (wip/p30/pmgen.py) and filled by hand -/
section ZHW
variable {D : va_G} {Wm : Nat} {ST : List (String × String × String × Nat)} {b0 : sx_B} {l : Launch} {Sg : Nat → Option Nat} {bud : sx_Bu} {μ : pm_Mem} {B0 : Nat → Prop} {J : (Nat → Option Nat) → Heap → Prop}
set_option maxRecDepth 100000 in
theorem zl_rp (hK : zKK ST)  {μ0 : pm_Mem} {w : Int} (hw0 : 0 ≤ w) (hb205 : sx_bit Wm 205 = true) (hb218 : sx_bit Wm 218 = true) (hb219 : sx_bit Wm 219 = true) (hbd : 4 ≤ bud.1 ∧ 86 ≤ bud.2.1) : ∀ (n : Nat) {μ : pm_Mem}, (400 - μ 205 13).toNat = n → ∀ (hT : zTJ μ) (hOK : zOK μ0 μ w), zW D Wm ST b0 l Sg zM289 bud (pm_X zM289 (fun st' μ' => ∃ x, st' = [(0, x)] ∧ -1 ≤ x ∧ x ≤ 0 ∧ zTJ μ' ∧ (x ≠ -1 → zOK μ0 μ' w))) 10 [(2, 205), (9, 0)] [] μ := by
  intro n
  induction n using Nat.strongRecOn with
  | ind n ih =>
    intro  μ hn hT hOK
    obtain ⟨hR0, h1a, h1b, h1c⟩ := zOK_0 hOK
    have hR1 := hR0
    obtain ⟨r1, r2, r3, r4, r5, r6, -⟩ := hR1
    have f25 := zT_get hT zs205_25 (i := 25) (by omega) (by omega)
    refine pm_blk hK zmm289 [] 2 13 [(2, 205), (9, 0)] [(0, 42), (2, 205)] μ [] rfl trivial ?_
    refine pm_call hK zmm289 (230, 0, 283, 1) zM283 (0, 0) [(2, 205), (0, 42)] [] rfl rfl rfl rfl ⟨by omega, by rw [zn283]; omega⟩ (zh_isSign hK (c := 42) ⟨Nat.le_refl _, Nat.le_refl _⟩) (fun st1 μc1 hp1 => ?_)
    obtain ⟨rfl, x1, rfl, hx1a, hx1b, hx1c⟩ := hp1
    refine pm_if hK zmm289 .ne 12 28 rfl rfl (fun h0 => ?_) (fun h0 => ?_)
    · have h0 : x1 ≠ (0 : Int) := h0
      refine pm_blk hK zmm289 [] 2 31 [(2, 205), (9, 0)] [(0, 42), (2, 205)] μ [] rfl trivial ?_
      refine pm_call hK zmm289 (230, 0, 283, 1) zM283 (0, 0) [(2, 205), (0, 42)] [] rfl rfl rfl rfl ⟨by omega, by rw [zn283]; omega⟩ (zh_isSign hK (c := 42) ⟨Nat.le_refl _, Nat.le_refl _⟩) (fun st2 μc2 hp2 => ?_)
      obtain ⟨rfl, x2, rfl, hx2a, hx2b, hx2c⟩ := hp2
      refine pm_blk hK zmm289 [] 2 36 [(2, 205), (0, x2)] [(2, 205)] μ [] rfl trivial ?_
      refine pm_call hK zmm289 (223, 0, 139, 0) zM139 (2, 44) [(2, 205)] [] rfl rfl rfl rfl ⟨by omega, by rw [zn139]; omega⟩ (zh_reads hK hT hb205 ⟨Nat.le_refl _, Nat.le_refl _⟩) (fun st3 μc3 hp3 => ?_)
      obtain ⟨rfl, hTc3, hF3, hS3, hR3⟩ := hp3
      have hF := hF3
      have hS := hS3
      have hR := hR3
      have hS2 := hS
      have hR2 := hR
      obtain ⟨s1, s2, s3, s4, s5, -, -, s8⟩ := hR2
      have hadv : μ 205 13 + 1 ≤ μc3 205 13 := by omega
      clear r6
      try clear hx1c
      try clear hx2c
      try clear hx3c
      try clear hx4c
      try clear hx5c
      try clear hx6c
      try clear hx7c
      try clear hx8c
      have hF25 := hF.2 25 (by decide) (by decide) (by decide) (by decide)
      refine pm_blk hK zmm289 [] 1 40 [(2, 205), (0, x2)] [(0, x2)] μc3 [] rfl trivial ?_
      refine pm_if hK zmm289 .ne 17 57 rfl rfl (fun h1 => ?_) (fun h1 => ?_)
      · have h1 : x2 ≠ (0 : Int) := h1
        refine pm_blk hK zmm289 [] 1 58 [(2, 205), (0, x2)] [(0, x2)] μc3 [] rfl trivial ?_
        refine pm_if hK zmm289 .ne 16 74 rfl rfl (fun h2 => ?_) (fun h2 => ?_)
        · have h2 : x2 ≠ (0 : Int) := h2
          refine pm_blk hK zmm289 [] 1 75 [(2, 205), (0, x2)] [(2, 205)] μc3 [] rfl trivial ?_
          refine pm_call hK zmm289 (226, 0, 290, 0) zM290 (3, 65) [(2, 205)] [] rfl rfl rfl rfl ⟨by omega, by rw [zn290]; omega⟩ (zh_readUnit hK (w := w + 1) hTc3 hR ⟨by omega, by omega⟩ hb205 hb218 hb219 ⟨Nat.le_refl _, Nat.le_refl _⟩) (fun st4 μc4 hp4 => ?_)
          obtain ⟨x4, rfl, hx4, hy4, hTc4, hO4⟩ := hp4
          have hO := hO4
          refine pm_blk hK zmm289 [] 1 79 [(2, 205), (0, x2)] [(0, (-1)), (0, x4)] μc4 [] rfl trivial ?_
          refine pm_icmp hK zmm289 .ne 5 84 rfl rfl (fun h3 => ?_) (fun h3 => ?_)
          · have h3 : x4 ≠ ((-1) : Int) := h3
            obtain ⟨hO1, hO2⟩ := hO (by omega)
            obtain ⟨u1, u2, u3, u4⟩ := zOK_0 hO1
            have hu1 := u1
            obtain ⟨v1, v2, v3, v4, v5, -⟩ := hu1
            refine pm_blk hK zmm289 [] 2 86 [(2, 205), (0, x2)] [(0, x2), (2, 205)] μc4 [] rfl trivial ?_
            refine pm_if hK zmm289 .eq 7 93 rfl rfl (fun h4 => ?_) (fun h4 => ?_)
            · have h4 : x2 = (0 : Int) := h4
              exact absurd h4 h2
            · have h4 : x2 ≠ (0 : Int) := h4
              refine pm_blk hK zmm289 [] 3 95 [(2, 205), (0, x2)] [(0, 0), (0, 4), (2, 205)] μc4 [] rfl trivial ?_
              refine pm_call hK zmm289 (219, 0, 292, 2) zM292 (0, 0) [(2, 205), (0, 4), (0, 0)] [] rfl rfl rfl rfl ⟨by omega, by rw [zn292]; omega⟩ (zh_emits hK (o := 4) (v := 0) hTc4 ⟨by omega, by omega⟩ ⟨by omega, by omega⟩ ⟨by omega, by omega⟩ hb205 hb218 hb219 ⟨Nat.le_refl _, Nat.le_refl _⟩) (fun st5 μc5 hp5 => ?_)
              obtain ⟨rfl, hTc5, hE5⟩ := hp5
              have hE := hE5
              refine pm_blk hK zmm289 [] 1 10 [(2, 205), (0, x2)] [] μc5 [] rfl trivial ?_
              refine pm_hide [1] ?_
              have hE2 := hE
              have e25 := hE2.1
              have e13 := hE2.2.2.2.2.2.2 13 (by decide)
              first
              | exact ih _ (by omega) rfl hTc5 (zOK_two hOK hF (by omega) hO1 rfl hE (by decide) (by decide) (by decide) (fun h => absurd h (by decide)))
              | (have hO3 := hO2 (by omega)
                 obtain ⟨o1, o2, o3⟩ := hO3
                 refine ih _ (by omega) rfl hTc5 (zOK_two hOK hF (by omega) hO1 rfl hE (by decide) (by decide) (by decide) (fun _ => ?_))
                 rw [o1, show ∀ z : Int, 800 + (z + 1) - 1 = 800 + z from fun z => by omega]
                 omega)
          · have h3 : x4 = ((-1) : Int) := h3
            refine pm_blk hK zmm289 [] 1 83 [(2, 205), (0, x2)] [(0, (-1))] μc4 [] rfl trivial ?_
            exact pm_iret rfl rfl ⟨_, rfl, by omega, by omega, hTc4, fun h => absurd rfl h⟩
        · have h2 : x2 = (0 : Int) := h2
          exact absurd h2 h1
      · have h1 : x2 = (0 : Int) := h1
        have f1 := zT_get hTc3 zs205_14 (i := 14) (by omega) (by omega)
        refine pm_blk hK zmm289 [] 3 48 [(2, 205), (0, x2)] [(0, 3), (0, μc3 205 14)] μc3 [] rfl trivial ?_
        refine pm_icmp hK zmm289 .eq 9 57 rfl rfl (fun h5 => ?_) (fun h5 => ?_)
        · have h5 : μc3 205 14 = (3 : Int) := h5
          refine pm_blk hK zmm289 [] 1 58 [(2, 205), (0, x2)] [(0, x2)] μc3 [] rfl trivial ?_
          refine pm_if hK zmm289 .ne 16 74 rfl rfl (fun h6 => ?_) (fun h6 => ?_)
          · have h6 : x2 ≠ (0 : Int) := h6
            exact absurd h1 h6
          · have h6 : x2 = (0 : Int) := h6
            have f2 := zT_get hTc3 zs205_15 (i := 15) (by omega) (by omega)
            refine pm_blk hK zmm289 [] 2 65 [(2, 205), (0, x2)] [(0, μc3 205 15)] μc3 [] rfl trivial ?_
            refine pm_if hK zmm289 .ne 9 74 rfl rfl (fun h7 => ?_) (fun h7 => ?_)
            · have h7 : μc3 205 15 ≠ (0 : Int) := h7
              refine pm_blk hK zmm289 [] 1 75 [(2, 205), (0, x2)] [(2, 205)] μc3 [] rfl trivial ?_
              refine pm_call hK zmm289 (226, 0, 290, 0) zM290 (3, 65) [(2, 205)] [] rfl rfl rfl rfl ⟨by omega, by rw [zn290]; omega⟩ (zh_readUnit hK (w := w + 1) hTc3 hR ⟨by omega, by omega⟩ hb205 hb218 hb219 ⟨Nat.le_refl _, Nat.le_refl _⟩) (fun st6 μc6 hp6 => ?_)
              obtain ⟨x6, rfl, hx6, hy6, hTc6, hO6⟩ := hp6
              have hO := hO6
              refine pm_blk hK zmm289 [] 1 79 [(2, 205), (0, x2)] [(0, (-1)), (0, x6)] μc6 [] rfl trivial ?_
              refine pm_icmp hK zmm289 .ne 5 84 rfl rfl (fun h8 => ?_) (fun h8 => ?_)
              · have h8 : x6 ≠ ((-1) : Int) := h8
                obtain ⟨hO1, hO2⟩ := hO (by omega)
                obtain ⟨u1, u2, u3, u4⟩ := zOK_0 hO1
                have hu1 := u1
                obtain ⟨v1, v2, v3, v4, v5, -⟩ := hu1
                refine pm_blk hK zmm289 [] 2 86 [(2, 205), (0, x2)] [(0, x2), (2, 205)] μc6 [] rfl trivial ?_
                refine pm_if hK zmm289 .eq 7 93 rfl rfl (fun h9 => ?_) (fun h9 => ?_)
                · have h9 : x2 = (0 : Int) := h9
                  refine pm_blk hK zmm289 [] 2 95 [(2, 205), (0, x2)] [(0, 0), (0, 5), (2, 205)] μc6 [] rfl trivial ?_
                  refine pm_call hK zmm289 (219, 0, 292, 2) zM292 (0, 0) [(2, 205), (0, 5), (0, 0)] [] rfl rfl rfl rfl ⟨by omega, by rw [zn292]; omega⟩ (zh_emits hK (o := 5) (v := 0) hTc6 ⟨by omega, by omega⟩ ⟨by omega, by omega⟩ ⟨by omega, by omega⟩ hb205 hb218 hb219 ⟨Nat.le_refl _, Nat.le_refl _⟩) (fun st7 μc7 hp7 => ?_)
                  obtain ⟨rfl, hTc7, hE7⟩ := hp7
                  have hE := hE7
                  refine pm_blk hK zmm289 [] 1 10 [(2, 205), (0, x2)] [] μc7 [] rfl trivial ?_
                  refine pm_hide [1] ?_
                  have hE2 := hE
                  have e25 := hE2.1
                  have e13 := hE2.2.2.2.2.2.2 13 (by decide)
                  first
                  | exact ih _ (by omega) rfl hTc7 (zOK_two hOK hF (by omega) hO1 rfl hE (by decide) (by decide) (by decide) (fun h => absurd h (by decide)))
                  | (have hO3 := hO2 (by omega)
                     obtain ⟨o1, o2, o3⟩ := hO3
                     refine ih _ (by omega) rfl hTc7 (zOK_two hOK hF (by omega) hO1 rfl hE (by decide) (by decide) (by decide) (fun _ => ?_))
                     rw [o1, show ∀ z : Int, 800 + (z + 1) - 1 = 800 + z from fun z => by omega]
                     omega)
                · have h9 : x2 ≠ (0 : Int) := h9
                  exact absurd h6 h9
              · have h8 : x6 = ((-1) : Int) := h8
                refine pm_blk hK zmm289 [] 1 83 [(2, 205), (0, x2)] [(0, (-1))] μc6 [] rfl trivial ?_
                exact pm_iret rfl rfl ⟨_, rfl, by omega, by omega, hTc6, fun h => absurd rfl h⟩
            · have h7 : μc3 205 15 = (0 : Int) := h7
              refine pm_blk hK zmm289 [] 2 70 [(2, 205), (0, x2)] [(0, 2), (2, 205)] μc3 [] rfl trivial ?_
              refine pm_call hK zmm289 (216, 0, 278, 1) zM278 (0, 0) [(2, 205), (0, 2)] [] rfl rfl rfl rfl ⟨by omega, by rw [zn278]; omega⟩ (zh_errs hK (k := 2) hTc3 ⟨by omega, by omega⟩ hb205 ⟨Nat.le_refl _, Nat.le_refl _⟩) (fun st8 μc8 hp8 => ?_)
              obtain ⟨rfl, hTc8⟩ := hp8
              exact pm_iret rfl rfl ⟨_, rfl, by omega, by omega, hTc8, fun h => absurd rfl h⟩
        · have h5 : μc3 205 14 ≠ (3 : Int) := h5
          refine pm_blk hK zmm289 [] 2 53 [(2, 205), (0, x2)] [(0, 1), (2, 205)] μc3 [] rfl trivial ?_
          refine pm_call hK zmm289 (216, 0, 278, 1) zM278 (0, 0) [(2, 205), (0, 1)] [] rfl rfl rfl rfl ⟨by omega, by rw [zn278]; omega⟩ (zh_errs hK (k := 1) hTc3 ⟨by omega, by omega⟩ hb205 ⟨Nat.le_refl _, Nat.le_refl _⟩) (fun st9 μc9 hp9 => ?_)
          obtain ⟨rfl, hTc9⟩ := hp9
          exact pm_iret rfl rfl ⟨_, rfl, by omega, by omega, hTc9, fun h => absurd rfl h⟩
    · have h0 : x1 = (0 : Int) := h0
      refine pm_blk hK zmm289 [] 2 22 [(2, 205), (9, 0)] [(0, 47), (2, 205)] μ [] rfl trivial ?_
      refine pm_call hK zmm289 (230, 0, 283, 1) zM283 (0, 0) [(2, 205), (0, 47)] [] rfl rfl rfl rfl ⟨by omega, by rw [zn283]; omega⟩ (zh_isSign hK (c := 47) ⟨Nat.le_refl _, Nat.le_refl _⟩) (fun st10 μc10 hp10 => ?_)
      obtain ⟨rfl, x10, rfl, hx10a, hx10b, hx10c⟩ := hp10
      refine pm_if hK zmm289 .eq 76 101 rfl rfl (fun h10 => ?_) (fun h10 => ?_)
      · have h10 : x10 = (0 : Int) := h10
        refine pm_blk hK zmm289 [] 1 102 [(2, 205), (9, 0)] [(0, 0)] μ [] rfl trivial ?_
        exact pm_iret rfl rfl ⟨_, rfl, by omega, by omega, hT, fun _ => hOK⟩
      · have h10 : x10 ≠ (0 : Int) := h10
        refine pm_blk hK zmm289 [] 2 31 [(2, 205), (9, 0)] [(0, 42), (2, 205)] μ [] rfl trivial ?_
        refine pm_call hK zmm289 (230, 0, 283, 1) zM283 (0, 0) [(2, 205), (0, 42)] [] rfl rfl rfl rfl ⟨by omega, by rw [zn283]; omega⟩ (zh_isSign hK (c := 42) ⟨Nat.le_refl _, Nat.le_refl _⟩) (fun st11 μc11 hp11 => ?_)
        obtain ⟨rfl, x11, rfl, hx11a, hx11b, hx11c⟩ := hp11
        refine pm_blk hK zmm289 [] 2 36 [(2, 205), (0, x11)] [(2, 205)] μ [] rfl trivial ?_
        refine pm_call hK zmm289 (223, 0, 139, 0) zM139 (2, 44) [(2, 205)] [] rfl rfl rfl rfl ⟨by omega, by rw [zn139]; omega⟩ (zh_reads hK hT hb205 ⟨Nat.le_refl _, Nat.le_refl _⟩) (fun st12 μc12 hp12 => ?_)
        obtain ⟨rfl, hTc12, hF12, hS12, hR12⟩ := hp12
        have hF := hF12
        have hS := hS12
        have hR := hR12
        have hS2 := hS
        have hR2 := hR
        obtain ⟨s1, s2, s3, s4, s5, -, -, s8⟩ := hR2
        have hadv : μ 205 13 + 1 ≤ μc12 205 13 := by omega
        clear r6
        try clear hx1c
        try clear hx2c
        try clear hx3c
        try clear hx4c
        try clear hx5c
        try clear hx6c
        try clear hx7c
        try clear hx8c
        have hF25 := hF.2 25 (by decide) (by decide) (by decide) (by decide)
        refine pm_blk hK zmm289 [] 1 40 [(2, 205), (0, x11)] [(0, x11)] μc12 [] rfl trivial ?_
        refine pm_if hK zmm289 .ne 17 57 rfl rfl (fun h11 => ?_) (fun h11 => ?_)
        · have h11 : x11 ≠ (0 : Int) := h11
          refine pm_blk hK zmm289 [] 1 58 [(2, 205), (0, x11)] [(0, x11)] μc12 [] rfl trivial ?_
          refine pm_if hK zmm289 .ne 16 74 rfl rfl (fun h12 => ?_) (fun h12 => ?_)
          · have h12 : x11 ≠ (0 : Int) := h12
            refine pm_blk hK zmm289 [] 1 75 [(2, 205), (0, x11)] [(2, 205)] μc12 [] rfl trivial ?_
            refine pm_call hK zmm289 (226, 0, 290, 0) zM290 (3, 65) [(2, 205)] [] rfl rfl rfl rfl ⟨by omega, by rw [zn290]; omega⟩ (zh_readUnit hK (w := w + 1) hTc12 hR ⟨by omega, by omega⟩ hb205 hb218 hb219 ⟨Nat.le_refl _, Nat.le_refl _⟩) (fun st13 μc13 hp13 => ?_)
            obtain ⟨x13, rfl, hx13, hy13, hTc13, hO13⟩ := hp13
            have hO := hO13
            refine pm_blk hK zmm289 [] 1 79 [(2, 205), (0, x11)] [(0, (-1)), (0, x13)] μc13 [] rfl trivial ?_
            refine pm_icmp hK zmm289 .ne 5 84 rfl rfl (fun h13 => ?_) (fun h13 => ?_)
            · have h13 : x13 ≠ ((-1) : Int) := h13
              obtain ⟨hO1, hO2⟩ := hO (by omega)
              obtain ⟨u1, u2, u3, u4⟩ := zOK_0 hO1
              have hu1 := u1
              obtain ⟨v1, v2, v3, v4, v5, -⟩ := hu1
              refine pm_blk hK zmm289 [] 2 86 [(2, 205), (0, x11)] [(0, x11), (2, 205)] μc13 [] rfl trivial ?_
              refine pm_if hK zmm289 .eq 7 93 rfl rfl (fun h14 => ?_) (fun h14 => ?_)
              · have h14 : x11 = (0 : Int) := h14
                exact absurd h14 h12
              · have h14 : x11 ≠ (0 : Int) := h14
                refine pm_blk hK zmm289 [] 3 95 [(2, 205), (0, x11)] [(0, 0), (0, 4), (2, 205)] μc13 [] rfl trivial ?_
                refine pm_call hK zmm289 (219, 0, 292, 2) zM292 (0, 0) [(2, 205), (0, 4), (0, 0)] [] rfl rfl rfl rfl ⟨by omega, by rw [zn292]; omega⟩ (zh_emits hK (o := 4) (v := 0) hTc13 ⟨by omega, by omega⟩ ⟨by omega, by omega⟩ ⟨by omega, by omega⟩ hb205 hb218 hb219 ⟨Nat.le_refl _, Nat.le_refl _⟩) (fun st14 μc14 hp14 => ?_)
                obtain ⟨rfl, hTc14, hE14⟩ := hp14
                have hE := hE14
                refine pm_blk hK zmm289 [] 1 10 [(2, 205), (0, x11)] [] μc14 [] rfl trivial ?_
                refine pm_hide [1] ?_
                have hE2 := hE
                have e25 := hE2.1
                have e13 := hE2.2.2.2.2.2.2 13 (by decide)
                first
                | exact ih _ (by omega) rfl hTc14 (zOK_two hOK hF (by omega) hO1 rfl hE (by decide) (by decide) (by decide) (fun h => absurd h (by decide)))
                | (have hO3 := hO2 (by omega)
                   obtain ⟨o1, o2, o3⟩ := hO3
                   refine ih _ (by omega) rfl hTc14 (zOK_two hOK hF (by omega) hO1 rfl hE (by decide) (by decide) (by decide) (fun _ => ?_))
                   rw [o1, show ∀ z : Int, 800 + (z + 1) - 1 = 800 + z from fun z => by omega]
                   omega)
            · have h13 : x13 = ((-1) : Int) := h13
              refine pm_blk hK zmm289 [] 1 83 [(2, 205), (0, x11)] [(0, (-1))] μc13 [] rfl trivial ?_
              exact pm_iret rfl rfl ⟨_, rfl, by omega, by omega, hTc13, fun h => absurd rfl h⟩
          · have h12 : x11 = (0 : Int) := h12
            exact absurd h12 h11
        · have h11 : x11 = (0 : Int) := h11
          have f3 := zT_get hTc12 zs205_14 (i := 14) (by omega) (by omega)
          refine pm_blk hK zmm289 [] 3 48 [(2, 205), (0, x11)] [(0, 3), (0, μc12 205 14)] μc12 [] rfl trivial ?_
          refine pm_icmp hK zmm289 .eq 9 57 rfl rfl (fun h15 => ?_) (fun h15 => ?_)
          · have h15 : μc12 205 14 = (3 : Int) := h15
            refine pm_blk hK zmm289 [] 1 58 [(2, 205), (0, x11)] [(0, x11)] μc12 [] rfl trivial ?_
            refine pm_if hK zmm289 .ne 16 74 rfl rfl (fun h16 => ?_) (fun h16 => ?_)
            · have h16 : x11 ≠ (0 : Int) := h16
              exact absurd h11 h16
            · have h16 : x11 = (0 : Int) := h16
              have f4 := zT_get hTc12 zs205_15 (i := 15) (by omega) (by omega)
              refine pm_blk hK zmm289 [] 2 65 [(2, 205), (0, x11)] [(0, μc12 205 15)] μc12 [] rfl trivial ?_
              refine pm_if hK zmm289 .ne 9 74 rfl rfl (fun h17 => ?_) (fun h17 => ?_)
              · have h17 : μc12 205 15 ≠ (0 : Int) := h17
                refine pm_blk hK zmm289 [] 1 75 [(2, 205), (0, x11)] [(2, 205)] μc12 [] rfl trivial ?_
                refine pm_call hK zmm289 (226, 0, 290, 0) zM290 (3, 65) [(2, 205)] [] rfl rfl rfl rfl ⟨by omega, by rw [zn290]; omega⟩ (zh_readUnit hK (w := w + 1) hTc12 hR ⟨by omega, by omega⟩ hb205 hb218 hb219 ⟨Nat.le_refl _, Nat.le_refl _⟩) (fun st15 μc15 hp15 => ?_)
                obtain ⟨x15, rfl, hx15, hy15, hTc15, hO15⟩ := hp15
                have hO := hO15
                refine pm_blk hK zmm289 [] 1 79 [(2, 205), (0, x11)] [(0, (-1)), (0, x15)] μc15 [] rfl trivial ?_
                refine pm_icmp hK zmm289 .ne 5 84 rfl rfl (fun h18 => ?_) (fun h18 => ?_)
                · have h18 : x15 ≠ ((-1) : Int) := h18
                  obtain ⟨hO1, hO2⟩ := hO (by omega)
                  obtain ⟨u1, u2, u3, u4⟩ := zOK_0 hO1
                  have hu1 := u1
                  obtain ⟨v1, v2, v3, v4, v5, -⟩ := hu1
                  refine pm_blk hK zmm289 [] 2 86 [(2, 205), (0, x11)] [(0, x11), (2, 205)] μc15 [] rfl trivial ?_
                  refine pm_if hK zmm289 .eq 7 93 rfl rfl (fun h19 => ?_) (fun h19 => ?_)
                  · have h19 : x11 = (0 : Int) := h19
                    refine pm_blk hK zmm289 [] 2 95 [(2, 205), (0, x11)] [(0, 0), (0, 5), (2, 205)] μc15 [] rfl trivial ?_
                    refine pm_call hK zmm289 (219, 0, 292, 2) zM292 (0, 0) [(2, 205), (0, 5), (0, 0)] [] rfl rfl rfl rfl ⟨by omega, by rw [zn292]; omega⟩ (zh_emits hK (o := 5) (v := 0) hTc15 ⟨by omega, by omega⟩ ⟨by omega, by omega⟩ ⟨by omega, by omega⟩ hb205 hb218 hb219 ⟨Nat.le_refl _, Nat.le_refl _⟩) (fun st16 μc16 hp16 => ?_)
                    obtain ⟨rfl, hTc16, hE16⟩ := hp16
                    have hE := hE16
                    refine pm_blk hK zmm289 [] 1 10 [(2, 205), (0, x11)] [] μc16 [] rfl trivial ?_
                    refine pm_hide [1] ?_
                    have hE2 := hE
                    have e25 := hE2.1
                    have e13 := hE2.2.2.2.2.2.2 13 (by decide)
                    first
                    | exact ih _ (by omega) rfl hTc16 (zOK_two hOK hF (by omega) hO1 rfl hE (by decide) (by decide) (by decide) (fun h => absurd h (by decide)))
                    | (have hO3 := hO2 (by omega)
                       obtain ⟨o1, o2, o3⟩ := hO3
                       refine ih _ (by omega) rfl hTc16 (zOK_two hOK hF (by omega) hO1 rfl hE (by decide) (by decide) (by decide) (fun _ => ?_))
                       rw [o1, show ∀ z : Int, 800 + (z + 1) - 1 = 800 + z from fun z => by omega]
                       omega)
                  · have h19 : x11 ≠ (0 : Int) := h19
                    exact absurd h16 h19
                · have h18 : x15 = ((-1) : Int) := h18
                  refine pm_blk hK zmm289 [] 1 83 [(2, 205), (0, x11)] [(0, (-1))] μc15 [] rfl trivial ?_
                  exact pm_iret rfl rfl ⟨_, rfl, by omega, by omega, hTc15, fun h => absurd rfl h⟩
              · have h17 : μc12 205 15 = (0 : Int) := h17
                refine pm_blk hK zmm289 [] 2 70 [(2, 205), (0, x11)] [(0, 2), (2, 205)] μc12 [] rfl trivial ?_
                refine pm_call hK zmm289 (216, 0, 278, 1) zM278 (0, 0) [(2, 205), (0, 2)] [] rfl rfl rfl rfl ⟨by omega, by rw [zn278]; omega⟩ (zh_errs hK (k := 2) hTc12 ⟨by omega, by omega⟩ hb205 ⟨Nat.le_refl _, Nat.le_refl _⟩) (fun st17 μc17 hp17 => ?_)
                obtain ⟨rfl, hTc17⟩ := hp17
                exact pm_iret rfl rfl ⟨_, rfl, by omega, by omega, hTc17, fun h => absurd rfl h⟩
          · have h15 : μc12 205 14 ≠ (3 : Int) := h15
            refine pm_blk hK zmm289 [] 2 53 [(2, 205), (0, x11)] [(0, 1), (2, 205)] μc12 [] rfl trivial ?_
            refine pm_call hK zmm289 (216, 0, 278, 1) zM278 (0, 0) [(2, 205), (0, 1)] [] rfl rfl rfl rfl ⟨by omega, by rw [zn278]; omega⟩ (zh_errs hK (k := 1) hTc12 ⟨by omega, by omega⟩ hb205 ⟨Nat.le_refl _, Nat.le_refl _⟩) (fun st18 μc18 hp18 => ?_)
            obtain ⟨rfl, hTc18⟩ := hp18
            exact pm_iret rfl rfl ⟨_, rfl, by omega, by omega, hTc18, fun h => absurd rfl h⟩
set_option maxRecDepth 100000 in
theorem zh_readProduct (hK : zKK ST) {w : Int} (hT : zTJ μ) (hRd : zRd μ) (hw : 0 ≤ w ∧ μ 205 25 + w ≤ μ 205 13) (hb205 : sx_bit Wm 205 = true) (hb218 : sx_bit Wm 218 = true) (hb219 : sx_bit Wm 219 = true) (hbd : 4 ≤ bud.1 ∧ 86 ≤ bud.2.1) : zC D Wm ST b0 l Sg zM289 bud [(2, 205)] μ (fun st' μ' => ∃ x, st' = [(0, x)] ∧ -1 ≤ x ∧ x ≤ 0 ∧ zTJ μ' ∧ (x ≠ -1 → zOK μ μ' w)) := by
  refine pm_blk hK zmm289 [] 1 1 [(2, 205), (9, 0)] [(2, 205)] μ [] rfl trivial ?_
  refine pm_call hK zmm289 (226, 0, 290, 0) zM290 (3, 65) [(2, 205)] [] rfl rfl rfl rfl ⟨by omega, by rw [zn290]; omega⟩ (zh_readUnit hK (w := w) hT hRd ⟨by omega, by omega⟩ hb205 hb218 hb219 ⟨Nat.le_refl _, Nat.le_refl _⟩) (fun st1 μc1 hp1 => ?_)
  obtain ⟨x1, rfl, hx1, hy1, hTc1, hO1⟩ := hp1
  have hO := hO1
  refine pm_blk hK zmm289 [] 1 5 [(2, 205), (9, 0)] [(0, (-1)), (0, x1)] μc1 [] rfl trivial ?_
  refine pm_icmp hK zmm289 .ne 5 10 rfl rfl (fun h0 => ?_) (fun h0 => ?_)
  · have h0 : x1 ≠ ((-1) : Int) := h0
    exact zl_rp hK hw.1 hb205 hb218 hb219 hbd _ rfl hTc1 (hO (by omega)).1
  · have h0 : x1 = ((-1) : Int) := h0
    refine pm_blk hK zmm289 [] 1 9 [(2, 205), (9, 0)] [(0, (-1))] μc1 [] rfl trivial ?_
    exact pm_iret rfl rfl ⟨_, rfl, by omega, by omega, hTc1, fun h => absurd rfl h⟩
set_option maxRecDepth 100000 in
theorem zl_rs (hK : zKK ST)  {μ0 : pm_Mem} {w : Int} (hw0 : 0 ≤ w) (hb205 : sx_bit Wm 205 = true) (hb218 : sx_bit Wm 218 = true) (hb219 : sx_bit Wm 219 = true) (hbd : 5 ≤ bud.1 ∧ 107 ≤ bud.2.1) : ∀ (n : Nat) {μ : pm_Mem}, (400 - μ 205 13).toNat = n → ∀ (hT : zTJ μ) (hOK : zOK μ0 μ w), zW D Wm ST b0 l Sg zM288 bud (pm_X zM288 (fun st' μ' => ∃ x, st' = [(0, x)] ∧ -1 ≤ x ∧ x ≤ 0 ∧ zTJ μ' ∧ (x ≠ -1 → zOK μ0 μ' w))) 10 [(2, 205), (9, 0)] [] μ := by
  intro n
  induction n using Nat.strongRecOn with
  | ind n ih =>
    intro  μ hn hT hOK
    obtain ⟨hR0, h1a, h1b, h1c⟩ := zOK_0 hOK
    have hR1 := hR0
    obtain ⟨r1, r2, r3, r4, r5, r6, -⟩ := hR1
    have f25 := zT_get hT zs205_25 (i := 25) (by omega) (by omega)
    refine pm_blk hK zmm288 [] 2 13 [(2, 205), (9, 0)] [(0, 43), (2, 205)] μ [] rfl trivial ?_
    refine pm_call hK zmm288 (230, 0, 283, 1) zM283 (0, 0) [(2, 205), (0, 43)] [] rfl rfl rfl rfl ⟨by omega, by rw [zn283]; omega⟩ (zh_isSign hK (c := 43) ⟨Nat.le_refl _, Nat.le_refl _⟩) (fun st1 μc1 hp1 => ?_)
    obtain ⟨rfl, x1, rfl, hx1a, hx1b, hx1c⟩ := hp1
    refine pm_if hK zmm288 .ne 12 28 rfl rfl (fun h0 => ?_) (fun h0 => ?_)
    · have h0 : x1 ≠ (0 : Int) := h0
      have f1 := zT_get hT zs205_15 (i := 15) (by omega) (by omega)
      refine pm_blk hK zmm288 [] 3 34 [(2, 205), (9, 0)] [(0, 43), (0, μ 205 15)] μ [] rfl trivial ?_
      refine pm_icmp hK zmm288 .ne 7 41 rfl rfl (fun h1 => ?_) (fun h1 => ?_)
      · have h1 : μ 205 15 ≠ (43 : Int) := h1
        refine pm_blk hK zmm288 [] 3 44 [(2, 205), (0, 3)] [(2, 205)] μ [] rfl trivial ?_
        refine pm_call hK zmm288 (223, 0, 139, 0) zM139 (2, 44) [(2, 205)] [] rfl rfl rfl rfl ⟨by omega, by rw [zn139]; omega⟩ (zh_reads hK hT hb205 ⟨Nat.le_refl _, Nat.le_refl _⟩) (fun st2 μc2 hp2 => ?_)
        obtain ⟨rfl, hTc2, hF2, hS2, hR2⟩ := hp2
        have hF := hF2
        have hS := hS2
        have hR := hR2
        have hS2 := hS
        have hR2 := hR
        obtain ⟨s1, s2, s3, s4, s5, -, -, s8⟩ := hR2
        have hadv : μ 205 13 + 1 ≤ μc2 205 13 := by omega
        clear r6
        try clear hx1c
        try clear hx2c
        try clear hx3c
        try clear hx4c
        try clear hx5c
        try clear hx6c
        try clear hx7c
        try clear hx8c
        have hF25 := hF.2 25 (by decide) (by decide) (by decide) (by decide)
        refine pm_blk hK zmm288 [] 1 48 [(2, 205), (0, 3)] [(2, 205)] μc2 [] rfl trivial ?_
        refine pm_call hK zmm288 (233, 0, 289, 0) zM289 (4, 86) [(2, 205)] [] rfl rfl rfl rfl ⟨by omega, by rw [zn289]; omega⟩ (zh_readProduct hK (w := w + 1) hTc2 hR ⟨by omega, by omega⟩ hb205 hb218 hb219 ⟨Nat.le_refl _, Nat.le_refl _⟩) (fun st3 μc3 hp3 => ?_)
        obtain ⟨x3, rfl, hx3, hy3, hTc3, hO3⟩ := hp3
        have hO := hO3
        refine pm_blk hK zmm288 [] 1 52 [(2, 205), (0, 3)] [(0, (-1)), (0, x3)] μc3 [] rfl trivial ?_
        refine pm_icmp hK zmm288 .ne 5 57 rfl rfl (fun h2 => ?_) (fun h2 => ?_)
        · have h2 : x3 ≠ ((-1) : Int) := h2
          have hO1 := hO (by omega)
          obtain ⟨u1, u2, u3, u4⟩ := zOK_0 hO1
          have hu1 := u1
          obtain ⟨v1, v2, v3, v4, v5, -⟩ := hu1
          refine pm_blk hK zmm288 [] 3 60 [(2, 205), (0, 3)] [(0, 0), (0, 3), (2, 205)] μc3 [] rfl trivial ?_
          refine pm_call hK zmm288 (219, 0, 292, 2) zM292 (0, 0) [(2, 205), (0, 3), (0, 0)] [] rfl rfl rfl rfl ⟨by omega, by rw [zn292]; omega⟩ (zh_emits hK (o := 3) (v := 0) hTc3 ⟨by omega, by omega⟩ ⟨by omega, by omega⟩ ⟨by omega, by omega⟩ hb205 hb218 hb219 ⟨Nat.le_refl _, Nat.le_refl _⟩) (fun st4 μc4 hp4 => ?_)
          obtain ⟨rfl, hTc4, hE4⟩ := hp4
          have hE := hE4
          refine pm_blk hK zmm288 [] 1 10 [(2, 205), (0, 3)] [] μc4 [] rfl trivial ?_
          refine pm_hide [1] ?_
          have hE2 := hE
          have e25 := hE2.1
          have e13 := hE2.2.2.2.2.2.2 13 (by decide)
          exact ih _ (by omega) rfl hTc4 (zOK_two hOK hF (by omega) hO1 rfl hE (by decide) (by decide) (by decide) (fun h => absurd h (by decide)))
        · have h2 : x3 = ((-1) : Int) := h2
          refine pm_blk hK zmm288 [] 1 56 [(2, 205), (0, 3)] [(0, (-1))] μc3 [] rfl trivial ?_
          exact pm_iret rfl rfl ⟨_, rfl, by omega, by omega, hTc3, fun h => absurd rfl h⟩
      · have h1 : μ 205 15 = (43 : Int) := h1
        refine pm_blk hK zmm288 [] 4 44 [(2, 205), (0, 2)] [(2, 205)] μ [] rfl trivial ?_
        refine pm_call hK zmm288 (223, 0, 139, 0) zM139 (2, 44) [(2, 205)] [] rfl rfl rfl rfl ⟨by omega, by rw [zn139]; omega⟩ (zh_reads hK hT hb205 ⟨Nat.le_refl _, Nat.le_refl _⟩) (fun st5 μc5 hp5 => ?_)
        obtain ⟨rfl, hTc5, hF5, hS5, hR5⟩ := hp5
        have hF := hF5
        have hS := hS5
        have hR := hR5
        have hS2 := hS
        have hR2 := hR
        obtain ⟨s1, s2, s3, s4, s5, -, -, s8⟩ := hR2
        have hadv : μ 205 13 + 1 ≤ μc5 205 13 := by omega
        clear r6
        try clear hx1c
        try clear hx2c
        try clear hx3c
        try clear hx4c
        try clear hx5c
        try clear hx6c
        try clear hx7c
        try clear hx8c
        have hF25 := hF.2 25 (by decide) (by decide) (by decide) (by decide)
        refine pm_blk hK zmm288 [] 1 48 [(2, 205), (0, 2)] [(2, 205)] μc5 [] rfl trivial ?_
        refine pm_call hK zmm288 (233, 0, 289, 0) zM289 (4, 86) [(2, 205)] [] rfl rfl rfl rfl ⟨by omega, by rw [zn289]; omega⟩ (zh_readProduct hK (w := w + 1) hTc5 hR ⟨by omega, by omega⟩ hb205 hb218 hb219 ⟨Nat.le_refl _, Nat.le_refl _⟩) (fun st6 μc6 hp6 => ?_)
        obtain ⟨x6, rfl, hx6, hy6, hTc6, hO6⟩ := hp6
        have hO := hO6
        refine pm_blk hK zmm288 [] 1 52 [(2, 205), (0, 2)] [(0, (-1)), (0, x6)] μc6 [] rfl trivial ?_
        refine pm_icmp hK zmm288 .ne 5 57 rfl rfl (fun h3 => ?_) (fun h3 => ?_)
        · have h3 : x6 ≠ ((-1) : Int) := h3
          have hO1 := hO (by omega)
          obtain ⟨u1, u2, u3, u4⟩ := zOK_0 hO1
          have hu1 := u1
          obtain ⟨v1, v2, v3, v4, v5, -⟩ := hu1
          refine pm_blk hK zmm288 [] 3 60 [(2, 205), (0, 2)] [(0, 0), (0, 2), (2, 205)] μc6 [] rfl trivial ?_
          refine pm_call hK zmm288 (219, 0, 292, 2) zM292 (0, 0) [(2, 205), (0, 2), (0, 0)] [] rfl rfl rfl rfl ⟨by omega, by rw [zn292]; omega⟩ (zh_emits hK (o := 2) (v := 0) hTc6 ⟨by omega, by omega⟩ ⟨by omega, by omega⟩ ⟨by omega, by omega⟩ hb205 hb218 hb219 ⟨Nat.le_refl _, Nat.le_refl _⟩) (fun st7 μc7 hp7 => ?_)
          obtain ⟨rfl, hTc7, hE7⟩ := hp7
          have hE := hE7
          refine pm_blk hK zmm288 [] 1 10 [(2, 205), (0, 2)] [] μc7 [] rfl trivial ?_
          refine pm_hide [1] ?_
          have hE2 := hE
          have e25 := hE2.1
          have e13 := hE2.2.2.2.2.2.2 13 (by decide)
          exact ih _ (by omega) rfl hTc7 (zOK_two hOK hF (by omega) hO1 rfl hE (by decide) (by decide) (by decide) (fun h => absurd h (by decide)))
        · have h3 : x6 = ((-1) : Int) := h3
          refine pm_blk hK zmm288 [] 1 56 [(2, 205), (0, 2)] [(0, (-1))] μc6 [] rfl trivial ?_
          exact pm_iret rfl rfl ⟨_, rfl, by omega, by omega, hTc6, fun h => absurd rfl h⟩
    · have h0 : x1 = (0 : Int) := h0
      refine pm_blk hK zmm288 [] 2 22 [(2, 205), (9, 0)] [(0, 45), (2, 205)] μ [] rfl trivial ?_
      refine pm_call hK zmm288 (230, 0, 283, 1) zM283 (0, 0) [(2, 205), (0, 45)] [] rfl rfl rfl rfl ⟨by omega, by rw [zn283]; omega⟩ (zh_isSign hK (c := 45) ⟨Nat.le_refl _, Nat.le_refl _⟩) (fun st8 μc8 hp8 => ?_)
      obtain ⟨rfl, x8, rfl, hx8a, hx8b, hx8c⟩ := hp8
      refine pm_if hK zmm288 .eq 41 66 rfl rfl (fun h4 => ?_) (fun h4 => ?_)
      · have h4 : x8 = (0 : Int) := h4
        refine pm_blk hK zmm288 [] 1 67 [(2, 205), (9, 0)] [(0, 0)] μ [] rfl trivial ?_
        exact pm_iret rfl rfl ⟨_, rfl, by omega, by omega, hT, fun _ => hOK⟩
      · have h4 : x8 ≠ (0 : Int) := h4
        have f2 := zT_get hT zs205_15 (i := 15) (by omega) (by omega)
        refine pm_blk hK zmm288 [] 3 34 [(2, 205), (9, 0)] [(0, 43), (0, μ 205 15)] μ [] rfl trivial ?_
        refine pm_icmp hK zmm288 .ne 7 41 rfl rfl (fun h5 => ?_) (fun h5 => ?_)
        · have h5 : μ 205 15 ≠ (43 : Int) := h5
          refine pm_blk hK zmm288 [] 3 44 [(2, 205), (0, 3)] [(2, 205)] μ [] rfl trivial ?_
          refine pm_call hK zmm288 (223, 0, 139, 0) zM139 (2, 44) [(2, 205)] [] rfl rfl rfl rfl ⟨by omega, by rw [zn139]; omega⟩ (zh_reads hK hT hb205 ⟨Nat.le_refl _, Nat.le_refl _⟩) (fun st9 μc9 hp9 => ?_)
          obtain ⟨rfl, hTc9, hF9, hS9, hR9⟩ := hp9
          have hF := hF9
          have hS := hS9
          have hR := hR9
          have hS2 := hS
          have hR2 := hR
          obtain ⟨s1, s2, s3, s4, s5, -, -, s8⟩ := hR2
          have hadv : μ 205 13 + 1 ≤ μc9 205 13 := by omega
          clear r6
          try clear hx1c
          try clear hx2c
          try clear hx3c
          try clear hx4c
          try clear hx5c
          try clear hx6c
          try clear hx7c
          try clear hx8c
          have hF25 := hF.2 25 (by decide) (by decide) (by decide) (by decide)
          refine pm_blk hK zmm288 [] 1 48 [(2, 205), (0, 3)] [(2, 205)] μc9 [] rfl trivial ?_
          refine pm_call hK zmm288 (233, 0, 289, 0) zM289 (4, 86) [(2, 205)] [] rfl rfl rfl rfl ⟨by omega, by rw [zn289]; omega⟩ (zh_readProduct hK (w := w + 1) hTc9 hR ⟨by omega, by omega⟩ hb205 hb218 hb219 ⟨Nat.le_refl _, Nat.le_refl _⟩) (fun st10 μc10 hp10 => ?_)
          obtain ⟨x10, rfl, hx10, hy10, hTc10, hO10⟩ := hp10
          have hO := hO10
          refine pm_blk hK zmm288 [] 1 52 [(2, 205), (0, 3)] [(0, (-1)), (0, x10)] μc10 [] rfl trivial ?_
          refine pm_icmp hK zmm288 .ne 5 57 rfl rfl (fun h6 => ?_) (fun h6 => ?_)
          · have h6 : x10 ≠ ((-1) : Int) := h6
            have hO1 := hO (by omega)
            obtain ⟨u1, u2, u3, u4⟩ := zOK_0 hO1
            have hu1 := u1
            obtain ⟨v1, v2, v3, v4, v5, -⟩ := hu1
            refine pm_blk hK zmm288 [] 3 60 [(2, 205), (0, 3)] [(0, 0), (0, 3), (2, 205)] μc10 [] rfl trivial ?_
            refine pm_call hK zmm288 (219, 0, 292, 2) zM292 (0, 0) [(2, 205), (0, 3), (0, 0)] [] rfl rfl rfl rfl ⟨by omega, by rw [zn292]; omega⟩ (zh_emits hK (o := 3) (v := 0) hTc10 ⟨by omega, by omega⟩ ⟨by omega, by omega⟩ ⟨by omega, by omega⟩ hb205 hb218 hb219 ⟨Nat.le_refl _, Nat.le_refl _⟩) (fun st11 μc11 hp11 => ?_)
            obtain ⟨rfl, hTc11, hE11⟩ := hp11
            have hE := hE11
            refine pm_blk hK zmm288 [] 1 10 [(2, 205), (0, 3)] [] μc11 [] rfl trivial ?_
            refine pm_hide [1] ?_
            have hE2 := hE
            have e25 := hE2.1
            have e13 := hE2.2.2.2.2.2.2 13 (by decide)
            exact ih _ (by omega) rfl hTc11 (zOK_two hOK hF (by omega) hO1 rfl hE (by decide) (by decide) (by decide) (fun h => absurd h (by decide)))
          · have h6 : x10 = ((-1) : Int) := h6
            refine pm_blk hK zmm288 [] 1 56 [(2, 205), (0, 3)] [(0, (-1))] μc10 [] rfl trivial ?_
            exact pm_iret rfl rfl ⟨_, rfl, by omega, by omega, hTc10, fun h => absurd rfl h⟩
        · have h5 : μ 205 15 = (43 : Int) := h5
          refine pm_blk hK zmm288 [] 4 44 [(2, 205), (0, 2)] [(2, 205)] μ [] rfl trivial ?_
          refine pm_call hK zmm288 (223, 0, 139, 0) zM139 (2, 44) [(2, 205)] [] rfl rfl rfl rfl ⟨by omega, by rw [zn139]; omega⟩ (zh_reads hK hT hb205 ⟨Nat.le_refl _, Nat.le_refl _⟩) (fun st12 μc12 hp12 => ?_)
          obtain ⟨rfl, hTc12, hF12, hS12, hR12⟩ := hp12
          have hF := hF12
          have hS := hS12
          have hR := hR12
          have hS2 := hS
          have hR2 := hR
          obtain ⟨s1, s2, s3, s4, s5, -, -, s8⟩ := hR2
          have hadv : μ 205 13 + 1 ≤ μc12 205 13 := by omega
          clear r6
          try clear hx1c
          try clear hx2c
          try clear hx3c
          try clear hx4c
          try clear hx5c
          try clear hx6c
          try clear hx7c
          try clear hx8c
          have hF25 := hF.2 25 (by decide) (by decide) (by decide) (by decide)
          refine pm_blk hK zmm288 [] 1 48 [(2, 205), (0, 2)] [(2, 205)] μc12 [] rfl trivial ?_
          refine pm_call hK zmm288 (233, 0, 289, 0) zM289 (4, 86) [(2, 205)] [] rfl rfl rfl rfl ⟨by omega, by rw [zn289]; omega⟩ (zh_readProduct hK (w := w + 1) hTc12 hR ⟨by omega, by omega⟩ hb205 hb218 hb219 ⟨Nat.le_refl _, Nat.le_refl _⟩) (fun st13 μc13 hp13 => ?_)
          obtain ⟨x13, rfl, hx13, hy13, hTc13, hO13⟩ := hp13
          have hO := hO13
          refine pm_blk hK zmm288 [] 1 52 [(2, 205), (0, 2)] [(0, (-1)), (0, x13)] μc13 [] rfl trivial ?_
          refine pm_icmp hK zmm288 .ne 5 57 rfl rfl (fun h7 => ?_) (fun h7 => ?_)
          · have h7 : x13 ≠ ((-1) : Int) := h7
            have hO1 := hO (by omega)
            obtain ⟨u1, u2, u3, u4⟩ := zOK_0 hO1
            have hu1 := u1
            obtain ⟨v1, v2, v3, v4, v5, -⟩ := hu1
            refine pm_blk hK zmm288 [] 3 60 [(2, 205), (0, 2)] [(0, 0), (0, 2), (2, 205)] μc13 [] rfl trivial ?_
            refine pm_call hK zmm288 (219, 0, 292, 2) zM292 (0, 0) [(2, 205), (0, 2), (0, 0)] [] rfl rfl rfl rfl ⟨by omega, by rw [zn292]; omega⟩ (zh_emits hK (o := 2) (v := 0) hTc13 ⟨by omega, by omega⟩ ⟨by omega, by omega⟩ ⟨by omega, by omega⟩ hb205 hb218 hb219 ⟨Nat.le_refl _, Nat.le_refl _⟩) (fun st14 μc14 hp14 => ?_)
            obtain ⟨rfl, hTc14, hE14⟩ := hp14
            have hE := hE14
            refine pm_blk hK zmm288 [] 1 10 [(2, 205), (0, 2)] [] μc14 [] rfl trivial ?_
            refine pm_hide [1] ?_
            have hE2 := hE
            have e25 := hE2.1
            have e13 := hE2.2.2.2.2.2.2 13 (by decide)
            exact ih _ (by omega) rfl hTc14 (zOK_two hOK hF (by omega) hO1 rfl hE (by decide) (by decide) (by decide) (fun h => absurd h (by decide)))
          · have h7 : x13 = ((-1) : Int) := h7
            refine pm_blk hK zmm288 [] 1 56 [(2, 205), (0, 2)] [(0, (-1))] μc13 [] rfl trivial ?_
            exact pm_iret rfl rfl ⟨_, rfl, by omega, by omega, hTc13, fun h => absurd rfl h⟩
set_option maxRecDepth 100000 in
theorem zh_readSum (hK : zKK ST) {w : Int} (hT : zTJ μ) (hRd : zRd μ) (hw : 0 ≤ w ∧ μ 205 25 + w ≤ μ 205 13) (hb205 : sx_bit Wm 205 = true) (hb218 : sx_bit Wm 218 = true) (hb219 : sx_bit Wm 219 = true) (hbd : 5 ≤ bud.1 ∧ 107 ≤ bud.2.1) : zC D Wm ST b0 l Sg zM288 bud [(2, 205)] μ (fun st' μ' => ∃ x, st' = [(0, x)] ∧ -1 ≤ x ∧ x ≤ 0 ∧ zTJ μ' ∧ (x ≠ -1 → zOK μ μ' w)) := by
  refine pm_blk hK zmm288 [] 1 1 [(2, 205), (9, 0)] [(2, 205)] μ [] rfl trivial ?_
  refine pm_call hK zmm288 (233, 0, 289, 0) zM289 (4, 86) [(2, 205)] [] rfl rfl rfl rfl ⟨by omega, by rw [zn289]; omega⟩ (zh_readProduct hK (w := w) hT hRd ⟨by omega, by omega⟩ hb205 hb218 hb219 ⟨Nat.le_refl _, Nat.le_refl _⟩) (fun st1 μc1 hp1 => ?_)
  obtain ⟨x1, rfl, hx1, hy1, hTc1, hO1⟩ := hp1
  have hO := hO1
  refine pm_blk hK zmm288 [] 1 5 [(2, 205), (9, 0)] [(0, (-1)), (0, x1)] μc1 [] rfl trivial ?_
  refine pm_icmp hK zmm288 .ne 5 10 rfl rfl (fun h0 => ?_) (fun h0 => ?_)
  · have h0 : x1 ≠ ((-1) : Int) := h0
    exact zl_rs hK hw.1 hb205 hb218 hb219 hbd _ rfl hTc1 (hO (by omega))
  · have h0 : x1 = ((-1) : Int) := h0
    refine pm_blk hK zmm288 [] 1 9 [(2, 205), (9, 0)] [(0, (-1))] μc1 [] rfl trivial ?_
    exact pm_iret rfl rfl ⟨_, rfl, by omega, by omega, hTc1, fun h => absurd rfl h⟩
set_option maxRecDepth 100000 in
theorem zh_readCompared (hK : zKK ST) {w : Int} (hT : zTJ μ) (hRd : zRd μ) (hw : 0 ≤ w ∧ μ 205 25 + w ≤ μ 205 13) (hb205 : sx_bit Wm 205 = true) (hb218 : sx_bit Wm 218 = true) (hb219 : sx_bit Wm 219 = true) (hbd : 6 ≤ bud.1 ∧ 128 ≤ bud.2.1) : zC D Wm ST b0 l Sg zM295 bud [(2, 205)] μ (fun st' μ' => ∃ x, st' = [(0, x)] ∧ -1 ≤ x ∧ x ≤ 0 ∧ zTJ μ' ∧ (x ≠ -1 → zOK μ μ' w)) := by
  refine pm_blk hK zmm295 [] 1 1 [(2, 205), (9, 0)] [(2, 205)] μ [] rfl trivial ?_
  refine pm_call hK zmm295 (236, 0, 288, 0) zM288 (5, 107) [(2, 205)] [] rfl rfl rfl rfl ⟨by omega, by rw [zn288]; omega⟩ (zh_readSum hK (w := w) hT hRd ⟨by omega, by omega⟩ hb205 hb218 hb219 ⟨Nat.le_refl _, Nat.le_refl _⟩) (fun st1 μc1 hp1 => ?_)
  obtain ⟨x1, rfl, hx1, hy1, hTc1, hO1⟩ := hp1
  have hOa := hO1
  refine pm_blk hK zmm295 [] 1 5 [(2, 205), (9, 0)] [(0, (-1)), (0, x1)] μc1 [] rfl trivial ?_
  refine pm_icmp hK zmm295 .ne 5 10 rfl rfl (fun h0 => ?_) (fun h0 => ?_)
  · have h0 : x1 ≠ ((-1) : Int) := h0
    have hOK := hOa (by omega)
    obtain ⟨hR0, h1a, h1b, h1c⟩ := zOK_0 hOK
    have hR1 := hR0
    obtain ⟨r1, r2, r3, r4, r5, r6, -⟩ := hR1
    have f25 := zT_get hTc1 zs205_25 (i := 25) (by omega) (by omega)
    refine pm_blk hK zmm295 [] 2 13 [(2, 205), (9, 0)] [(0, 60), (2, 205)] μc1 [] rfl trivial ?_
    refine pm_call hK zmm295 (230, 0, 283, 1) zM283 (0, 0) [(2, 205), (0, 60)] [] rfl rfl rfl rfl ⟨by omega, by rw [zn283]; omega⟩ (zh_isSign hK (c := 60) ⟨Nat.le_refl _, Nat.le_refl _⟩) (fun st2 μc2 hp2 => ?_)
    obtain ⟨rfl, x2, rfl, hx2a, hx2b, hx2c⟩ := hp2
    refine pm_if hK zmm295 .ne 27 43 rfl rfl (fun h1 => ?_) (fun h1 => ?_)
    · have h1 : x2 ≠ (0 : Int) := h1
      have f1 := zT_get hTc1 zs205_15 (i := 15) (by omega) (by omega)
      refine pm_blk hK zmm295 [] 3 49 [(2, 205), (9, 0)] [(0, 60), (0, μc1 205 15)] μc1 [] rfl trivial ?_
      refine pm_icmp hK zmm295 .ne 8 57 rfl rfl (fun h2 => ?_) (fun h2 => ?_)
      · have h2 : μc1 205 15 ≠ (60 : Int) := h2
        refine pm_blk hK zmm295 [] 3 63 [(2, 205), (9, 0)] [(0, 61), (0, μc1 205 15)] μc1 [] rfl trivial ?_
        refine pm_icmp hK zmm295 .ne 8 71 rfl rfl (fun h3 => ?_) (fun h3 => ?_)
        · have h3 : μc1 205 15 ≠ (61 : Int) := h3
          refine pm_blk hK zmm295 [] 3 75 [(2, 205), (0, 8)] [(2, 205)] μc1 [] rfl trivial ?_
          refine pm_call hK zmm295 (223, 0, 139, 0) zM139 (2, 44) [(2, 205)] [] rfl rfl rfl rfl ⟨by omega, by rw [zn139]; omega⟩ (zh_reads hK hTc1 hb205 ⟨Nat.le_refl _, Nat.le_refl _⟩) (fun st3 μc3 hp3 => ?_)
          obtain ⟨rfl, hTc3, hF3, hS3, hR3⟩ := hp3
          have hF := hF3
          have hS := hS3
          have hR := hR3
          have hS2 := hS
          have hR2 := hR
          obtain ⟨s1, s2, s3, s4, s5, -, -, s8⟩ := hR2
          have hadv : μc1 205 13 + 1 ≤ μc3 205 13 := by omega
          clear r6
          try clear hx1c
          try clear hx2c
          try clear hx3c
          try clear hx4c
          try clear hx5c
          try clear hx6c
          try clear hx7c
          try clear hx8c
          have hF25 := hF.2 25 (by decide) (by decide) (by decide) (by decide)
          refine pm_blk hK zmm295 [] 1 79 [(2, 205), (0, 8)] [(2, 205)] μc3 [] rfl trivial ?_
          refine pm_call hK zmm295 (236, 0, 288, 0) zM288 (5, 107) [(2, 205)] [] rfl rfl rfl rfl ⟨by omega, by rw [zn288]; omega⟩ (zh_readSum hK (w := w + 1) hTc3 hR ⟨by omega, by omega⟩ hb205 hb218 hb219 ⟨Nat.le_refl _, Nat.le_refl _⟩) (fun st4 μc4 hp4 => ?_)
          obtain ⟨x4, rfl, hx4, hy4, hTc4, hO4⟩ := hp4
          have hO := hO4
          refine pm_blk hK zmm295 [] 1 83 [(2, 205), (0, 8)] [(0, (-1)), (0, x4)] μc4 [] rfl trivial ?_
          refine pm_icmp hK zmm295 .ne 5 88 rfl rfl (fun h4 => ?_) (fun h4 => ?_)
          · have h4 : x4 ≠ ((-1) : Int) := h4
            have hO1 := hO (by omega)
            obtain ⟨u1, u2, u3, u4⟩ := zOK_0 hO1
            have hu1 := u1
            obtain ⟨v1, v2, v3, v4, v5, -⟩ := hu1
            refine pm_blk hK zmm295 [] 3 91 [(2, 205), (0, 8)] [(0, 0), (0, 8), (2, 205)] μc4 [] rfl trivial ?_
            refine pm_call hK zmm295 (219, 0, 292, 2) zM292 (0, 0) [(2, 205), (0, 8), (0, 0)] [] rfl rfl rfl rfl ⟨by omega, by rw [zn292]; omega⟩ (zh_emits hK (o := 8) (v := 0) hTc4 ⟨by omega, by omega⟩ ⟨by omega, by omega⟩ ⟨by omega, by omega⟩ hb205 hb218 hb219 ⟨Nat.le_refl _, Nat.le_refl _⟩) (fun st5 μc5 hp5 => ?_)
            obtain ⟨rfl, hTc5, hE5⟩ := hp5
            have hE := hE5
            refine pm_blk hK zmm295 [] 1 95 [(2, 205), (0, 8)] [(0, 0)] μc5 [] rfl trivial ?_
            exact pm_iret rfl rfl ⟨_, rfl, by omega, by omega, hTc5, fun _ => zOK_two hOK hF (by omega) hO1 rfl hE (by decide) (by decide) (by decide) (fun h => absurd h (by decide))⟩
          · have h4 : x4 = ((-1) : Int) := h4
            refine pm_blk hK zmm295 [] 1 87 [(2, 205), (0, 8)] [(0, (-1))] μc4 [] rfl trivial ?_
            exact pm_iret rfl rfl ⟨_, rfl, by omega, by omega, hTc4, fun h => absurd rfl h⟩
        · have h3 : μc1 205 15 = (61 : Int) := h3
          refine pm_blk hK zmm295 [] 4 75 [(2, 205), (0, 7)] [(2, 205)] μc1 [] rfl trivial ?_
          refine pm_call hK zmm295 (223, 0, 139, 0) zM139 (2, 44) [(2, 205)] [] rfl rfl rfl rfl ⟨by omega, by rw [zn139]; omega⟩ (zh_reads hK hTc1 hb205 ⟨Nat.le_refl _, Nat.le_refl _⟩) (fun st6 μc6 hp6 => ?_)
          obtain ⟨rfl, hTc6, hF6, hS6, hR6⟩ := hp6
          have hF := hF6
          have hS := hS6
          have hR := hR6
          have hS2 := hS
          have hR2 := hR
          obtain ⟨s1, s2, s3, s4, s5, -, -, s8⟩ := hR2
          have hadv : μc1 205 13 + 1 ≤ μc6 205 13 := by omega
          clear r6
          try clear hx1c
          try clear hx2c
          try clear hx3c
          try clear hx4c
          try clear hx5c
          try clear hx6c
          try clear hx7c
          try clear hx8c
          have hF25 := hF.2 25 (by decide) (by decide) (by decide) (by decide)
          refine pm_blk hK zmm295 [] 1 79 [(2, 205), (0, 7)] [(2, 205)] μc6 [] rfl trivial ?_
          refine pm_call hK zmm295 (236, 0, 288, 0) zM288 (5, 107) [(2, 205)] [] rfl rfl rfl rfl ⟨by omega, by rw [zn288]; omega⟩ (zh_readSum hK (w := w + 1) hTc6 hR ⟨by omega, by omega⟩ hb205 hb218 hb219 ⟨Nat.le_refl _, Nat.le_refl _⟩) (fun st7 μc7 hp7 => ?_)
          obtain ⟨x7, rfl, hx7, hy7, hTc7, hO7⟩ := hp7
          have hO := hO7
          refine pm_blk hK zmm295 [] 1 83 [(2, 205), (0, 7)] [(0, (-1)), (0, x7)] μc7 [] rfl trivial ?_
          refine pm_icmp hK zmm295 .ne 5 88 rfl rfl (fun h5 => ?_) (fun h5 => ?_)
          · have h5 : x7 ≠ ((-1) : Int) := h5
            have hO1 := hO (by omega)
            obtain ⟨u1, u2, u3, u4⟩ := zOK_0 hO1
            have hu1 := u1
            obtain ⟨v1, v2, v3, v4, v5, -⟩ := hu1
            refine pm_blk hK zmm295 [] 3 91 [(2, 205), (0, 7)] [(0, 0), (0, 7), (2, 205)] μc7 [] rfl trivial ?_
            refine pm_call hK zmm295 (219, 0, 292, 2) zM292 (0, 0) [(2, 205), (0, 7), (0, 0)] [] rfl rfl rfl rfl ⟨by omega, by rw [zn292]; omega⟩ (zh_emits hK (o := 7) (v := 0) hTc7 ⟨by omega, by omega⟩ ⟨by omega, by omega⟩ ⟨by omega, by omega⟩ hb205 hb218 hb219 ⟨Nat.le_refl _, Nat.le_refl _⟩) (fun st8 μc8 hp8 => ?_)
            obtain ⟨rfl, hTc8, hE8⟩ := hp8
            have hE := hE8
            refine pm_blk hK zmm295 [] 1 95 [(2, 205), (0, 7)] [(0, 0)] μc8 [] rfl trivial ?_
            exact pm_iret rfl rfl ⟨_, rfl, by omega, by omega, hTc8, fun _ => zOK_two hOK hF (by omega) hO1 rfl hE (by decide) (by decide) (by decide) (fun h => absurd h (by decide))⟩
          · have h5 : x7 = ((-1) : Int) := h5
            refine pm_blk hK zmm295 [] 1 87 [(2, 205), (0, 7)] [(0, (-1))] μc7 [] rfl trivial ?_
            exact pm_iret rfl rfl ⟨_, rfl, by omega, by omega, hTc7, fun h => absurd rfl h⟩
      · have h2 : μc1 205 15 = (60 : Int) := h2
        refine pm_blk hK zmm295 [] 4 75 [(2, 205), (0, 6)] [(2, 205)] μc1 [] rfl trivial ?_
        refine pm_call hK zmm295 (223, 0, 139, 0) zM139 (2, 44) [(2, 205)] [] rfl rfl rfl rfl ⟨by omega, by rw [zn139]; omega⟩ (zh_reads hK hTc1 hb205 ⟨Nat.le_refl _, Nat.le_refl _⟩) (fun st9 μc9 hp9 => ?_)
        obtain ⟨rfl, hTc9, hF9, hS9, hR9⟩ := hp9
        have hF := hF9
        have hS := hS9
        have hR := hR9
        have hS2 := hS
        have hR2 := hR
        obtain ⟨s1, s2, s3, s4, s5, -, -, s8⟩ := hR2
        have hadv : μc1 205 13 + 1 ≤ μc9 205 13 := by omega
        clear r6
        try clear hx1c
        try clear hx2c
        try clear hx3c
        try clear hx4c
        try clear hx5c
        try clear hx6c
        try clear hx7c
        try clear hx8c
        have hF25 := hF.2 25 (by decide) (by decide) (by decide) (by decide)
        refine pm_blk hK zmm295 [] 1 79 [(2, 205), (0, 6)] [(2, 205)] μc9 [] rfl trivial ?_
        refine pm_call hK zmm295 (236, 0, 288, 0) zM288 (5, 107) [(2, 205)] [] rfl rfl rfl rfl ⟨by omega, by rw [zn288]; omega⟩ (zh_readSum hK (w := w + 1) hTc9 hR ⟨by omega, by omega⟩ hb205 hb218 hb219 ⟨Nat.le_refl _, Nat.le_refl _⟩) (fun st10 μc10 hp10 => ?_)
        obtain ⟨x10, rfl, hx10, hy10, hTc10, hO10⟩ := hp10
        have hO := hO10
        refine pm_blk hK zmm295 [] 1 83 [(2, 205), (0, 6)] [(0, (-1)), (0, x10)] μc10 [] rfl trivial ?_
        refine pm_icmp hK zmm295 .ne 5 88 rfl rfl (fun h6 => ?_) (fun h6 => ?_)
        · have h6 : x10 ≠ ((-1) : Int) := h6
          have hO1 := hO (by omega)
          obtain ⟨u1, u2, u3, u4⟩ := zOK_0 hO1
          have hu1 := u1
          obtain ⟨v1, v2, v3, v4, v5, -⟩ := hu1
          refine pm_blk hK zmm295 [] 3 91 [(2, 205), (0, 6)] [(0, 0), (0, 6), (2, 205)] μc10 [] rfl trivial ?_
          refine pm_call hK zmm295 (219, 0, 292, 2) zM292 (0, 0) [(2, 205), (0, 6), (0, 0)] [] rfl rfl rfl rfl ⟨by omega, by rw [zn292]; omega⟩ (zh_emits hK (o := 6) (v := 0) hTc10 ⟨by omega, by omega⟩ ⟨by omega, by omega⟩ ⟨by omega, by omega⟩ hb205 hb218 hb219 ⟨Nat.le_refl _, Nat.le_refl _⟩) (fun st11 μc11 hp11 => ?_)
          obtain ⟨rfl, hTc11, hE11⟩ := hp11
          have hE := hE11
          refine pm_blk hK zmm295 [] 1 95 [(2, 205), (0, 6)] [(0, 0)] μc11 [] rfl trivial ?_
          exact pm_iret rfl rfl ⟨_, rfl, by omega, by omega, hTc11, fun _ => zOK_two hOK hF (by omega) hO1 rfl hE (by decide) (by decide) (by decide) (fun h => absurd h (by decide))⟩
        · have h6 : x10 = ((-1) : Int) := h6
          refine pm_blk hK zmm295 [] 1 87 [(2, 205), (0, 6)] [(0, (-1))] μc10 [] rfl trivial ?_
          exact pm_iret rfl rfl ⟨_, rfl, by omega, by omega, hTc10, fun h => absurd rfl h⟩
    · have h1 : x2 = (0 : Int) := h1
      refine pm_blk hK zmm295 [] 2 22 [(2, 205), (9, 0)] [(0, 61), (2, 205)] μc1 [] rfl trivial ?_
      refine pm_call hK zmm295 (230, 0, 283, 1) zM283 (0, 0) [(2, 205), (0, 61)] [] rfl rfl rfl rfl ⟨by omega, by rw [zn283]; omega⟩ (zh_isSign hK (c := 61) ⟨Nat.le_refl _, Nat.le_refl _⟩) (fun st12 μc12 hp12 => ?_)
      obtain ⟨rfl, x12, rfl, hx12a, hx12b, hx12c⟩ := hp12
      refine pm_if hK zmm295 .ne 18 43 rfl rfl (fun h7 => ?_) (fun h7 => ?_)
      · have h7 : x12 ≠ (0 : Int) := h7
        have f2 := zT_get hTc1 zs205_15 (i := 15) (by omega) (by omega)
        refine pm_blk hK zmm295 [] 3 49 [(2, 205), (9, 0)] [(0, 60), (0, μc1 205 15)] μc1 [] rfl trivial ?_
        refine pm_icmp hK zmm295 .ne 8 57 rfl rfl (fun h8 => ?_) (fun h8 => ?_)
        · have h8 : μc1 205 15 ≠ (60 : Int) := h8
          refine pm_blk hK zmm295 [] 3 63 [(2, 205), (9, 0)] [(0, 61), (0, μc1 205 15)] μc1 [] rfl trivial ?_
          refine pm_icmp hK zmm295 .ne 8 71 rfl rfl (fun h9 => ?_) (fun h9 => ?_)
          · have h9 : μc1 205 15 ≠ (61 : Int) := h9
            refine pm_blk hK zmm295 [] 3 75 [(2, 205), (0, 8)] [(2, 205)] μc1 [] rfl trivial ?_
            refine pm_call hK zmm295 (223, 0, 139, 0) zM139 (2, 44) [(2, 205)] [] rfl rfl rfl rfl ⟨by omega, by rw [zn139]; omega⟩ (zh_reads hK hTc1 hb205 ⟨Nat.le_refl _, Nat.le_refl _⟩) (fun st13 μc13 hp13 => ?_)
            obtain ⟨rfl, hTc13, hF13, hS13, hR13⟩ := hp13
            have hF := hF13
            have hS := hS13
            have hR := hR13
            have hS2 := hS
            have hR2 := hR
            obtain ⟨s1, s2, s3, s4, s5, -, -, s8⟩ := hR2
            have hadv : μc1 205 13 + 1 ≤ μc13 205 13 := by omega
            clear r6
            try clear hx1c
            try clear hx2c
            try clear hx3c
            try clear hx4c
            try clear hx5c
            try clear hx6c
            try clear hx7c
            try clear hx8c
            have hF25 := hF.2 25 (by decide) (by decide) (by decide) (by decide)
            refine pm_blk hK zmm295 [] 1 79 [(2, 205), (0, 8)] [(2, 205)] μc13 [] rfl trivial ?_
            refine pm_call hK zmm295 (236, 0, 288, 0) zM288 (5, 107) [(2, 205)] [] rfl rfl rfl rfl ⟨by omega, by rw [zn288]; omega⟩ (zh_readSum hK (w := w + 1) hTc13 hR ⟨by omega, by omega⟩ hb205 hb218 hb219 ⟨Nat.le_refl _, Nat.le_refl _⟩) (fun st14 μc14 hp14 => ?_)
            obtain ⟨x14, rfl, hx14, hy14, hTc14, hO14⟩ := hp14
            have hO := hO14
            refine pm_blk hK zmm295 [] 1 83 [(2, 205), (0, 8)] [(0, (-1)), (0, x14)] μc14 [] rfl trivial ?_
            refine pm_icmp hK zmm295 .ne 5 88 rfl rfl (fun h10 => ?_) (fun h10 => ?_)
            · have h10 : x14 ≠ ((-1) : Int) := h10
              have hO1 := hO (by omega)
              obtain ⟨u1, u2, u3, u4⟩ := zOK_0 hO1
              have hu1 := u1
              obtain ⟨v1, v2, v3, v4, v5, -⟩ := hu1
              refine pm_blk hK zmm295 [] 3 91 [(2, 205), (0, 8)] [(0, 0), (0, 8), (2, 205)] μc14 [] rfl trivial ?_
              refine pm_call hK zmm295 (219, 0, 292, 2) zM292 (0, 0) [(2, 205), (0, 8), (0, 0)] [] rfl rfl rfl rfl ⟨by omega, by rw [zn292]; omega⟩ (zh_emits hK (o := 8) (v := 0) hTc14 ⟨by omega, by omega⟩ ⟨by omega, by omega⟩ ⟨by omega, by omega⟩ hb205 hb218 hb219 ⟨Nat.le_refl _, Nat.le_refl _⟩) (fun st15 μc15 hp15 => ?_)
              obtain ⟨rfl, hTc15, hE15⟩ := hp15
              have hE := hE15
              refine pm_blk hK zmm295 [] 1 95 [(2, 205), (0, 8)] [(0, 0)] μc15 [] rfl trivial ?_
              exact pm_iret rfl rfl ⟨_, rfl, by omega, by omega, hTc15, fun _ => zOK_two hOK hF (by omega) hO1 rfl hE (by decide) (by decide) (by decide) (fun h => absurd h (by decide))⟩
            · have h10 : x14 = ((-1) : Int) := h10
              refine pm_blk hK zmm295 [] 1 87 [(2, 205), (0, 8)] [(0, (-1))] μc14 [] rfl trivial ?_
              exact pm_iret rfl rfl ⟨_, rfl, by omega, by omega, hTc14, fun h => absurd rfl h⟩
          · have h9 : μc1 205 15 = (61 : Int) := h9
            refine pm_blk hK zmm295 [] 4 75 [(2, 205), (0, 7)] [(2, 205)] μc1 [] rfl trivial ?_
            refine pm_call hK zmm295 (223, 0, 139, 0) zM139 (2, 44) [(2, 205)] [] rfl rfl rfl rfl ⟨by omega, by rw [zn139]; omega⟩ (zh_reads hK hTc1 hb205 ⟨Nat.le_refl _, Nat.le_refl _⟩) (fun st16 μc16 hp16 => ?_)
            obtain ⟨rfl, hTc16, hF16, hS16, hR16⟩ := hp16
            have hF := hF16
            have hS := hS16
            have hR := hR16
            have hS2 := hS
            have hR2 := hR
            obtain ⟨s1, s2, s3, s4, s5, -, -, s8⟩ := hR2
            have hadv : μc1 205 13 + 1 ≤ μc16 205 13 := by omega
            clear r6
            try clear hx1c
            try clear hx2c
            try clear hx3c
            try clear hx4c
            try clear hx5c
            try clear hx6c
            try clear hx7c
            try clear hx8c
            have hF25 := hF.2 25 (by decide) (by decide) (by decide) (by decide)
            refine pm_blk hK zmm295 [] 1 79 [(2, 205), (0, 7)] [(2, 205)] μc16 [] rfl trivial ?_
            refine pm_call hK zmm295 (236, 0, 288, 0) zM288 (5, 107) [(2, 205)] [] rfl rfl rfl rfl ⟨by omega, by rw [zn288]; omega⟩ (zh_readSum hK (w := w + 1) hTc16 hR ⟨by omega, by omega⟩ hb205 hb218 hb219 ⟨Nat.le_refl _, Nat.le_refl _⟩) (fun st17 μc17 hp17 => ?_)
            obtain ⟨x17, rfl, hx17, hy17, hTc17, hO17⟩ := hp17
            have hO := hO17
            refine pm_blk hK zmm295 [] 1 83 [(2, 205), (0, 7)] [(0, (-1)), (0, x17)] μc17 [] rfl trivial ?_
            refine pm_icmp hK zmm295 .ne 5 88 rfl rfl (fun h11 => ?_) (fun h11 => ?_)
            · have h11 : x17 ≠ ((-1) : Int) := h11
              have hO1 := hO (by omega)
              obtain ⟨u1, u2, u3, u4⟩ := zOK_0 hO1
              have hu1 := u1
              obtain ⟨v1, v2, v3, v4, v5, -⟩ := hu1
              refine pm_blk hK zmm295 [] 3 91 [(2, 205), (0, 7)] [(0, 0), (0, 7), (2, 205)] μc17 [] rfl trivial ?_
              refine pm_call hK zmm295 (219, 0, 292, 2) zM292 (0, 0) [(2, 205), (0, 7), (0, 0)] [] rfl rfl rfl rfl ⟨by omega, by rw [zn292]; omega⟩ (zh_emits hK (o := 7) (v := 0) hTc17 ⟨by omega, by omega⟩ ⟨by omega, by omega⟩ ⟨by omega, by omega⟩ hb205 hb218 hb219 ⟨Nat.le_refl _, Nat.le_refl _⟩) (fun st18 μc18 hp18 => ?_)
              obtain ⟨rfl, hTc18, hE18⟩ := hp18
              have hE := hE18
              refine pm_blk hK zmm295 [] 1 95 [(2, 205), (0, 7)] [(0, 0)] μc18 [] rfl trivial ?_
              exact pm_iret rfl rfl ⟨_, rfl, by omega, by omega, hTc18, fun _ => zOK_two hOK hF (by omega) hO1 rfl hE (by decide) (by decide) (by decide) (fun h => absurd h (by decide))⟩
            · have h11 : x17 = ((-1) : Int) := h11
              refine pm_blk hK zmm295 [] 1 87 [(2, 205), (0, 7)] [(0, (-1))] μc17 [] rfl trivial ?_
              exact pm_iret rfl rfl ⟨_, rfl, by omega, by omega, hTc17, fun h => absurd rfl h⟩
        · have h8 : μc1 205 15 = (60 : Int) := h8
          refine pm_blk hK zmm295 [] 4 75 [(2, 205), (0, 6)] [(2, 205)] μc1 [] rfl trivial ?_
          refine pm_call hK zmm295 (223, 0, 139, 0) zM139 (2, 44) [(2, 205)] [] rfl rfl rfl rfl ⟨by omega, by rw [zn139]; omega⟩ (zh_reads hK hTc1 hb205 ⟨Nat.le_refl _, Nat.le_refl _⟩) (fun st19 μc19 hp19 => ?_)
          obtain ⟨rfl, hTc19, hF19, hS19, hR19⟩ := hp19
          have hF := hF19
          have hS := hS19
          have hR := hR19
          have hS2 := hS
          have hR2 := hR
          obtain ⟨s1, s2, s3, s4, s5, -, -, s8⟩ := hR2
          have hadv : μc1 205 13 + 1 ≤ μc19 205 13 := by omega
          clear r6
          try clear hx1c
          try clear hx2c
          try clear hx3c
          try clear hx4c
          try clear hx5c
          try clear hx6c
          try clear hx7c
          try clear hx8c
          have hF25 := hF.2 25 (by decide) (by decide) (by decide) (by decide)
          refine pm_blk hK zmm295 [] 1 79 [(2, 205), (0, 6)] [(2, 205)] μc19 [] rfl trivial ?_
          refine pm_call hK zmm295 (236, 0, 288, 0) zM288 (5, 107) [(2, 205)] [] rfl rfl rfl rfl ⟨by omega, by rw [zn288]; omega⟩ (zh_readSum hK (w := w + 1) hTc19 hR ⟨by omega, by omega⟩ hb205 hb218 hb219 ⟨Nat.le_refl _, Nat.le_refl _⟩) (fun st20 μc20 hp20 => ?_)
          obtain ⟨x20, rfl, hx20, hy20, hTc20, hO20⟩ := hp20
          have hO := hO20
          refine pm_blk hK zmm295 [] 1 83 [(2, 205), (0, 6)] [(0, (-1)), (0, x20)] μc20 [] rfl trivial ?_
          refine pm_icmp hK zmm295 .ne 5 88 rfl rfl (fun h12 => ?_) (fun h12 => ?_)
          · have h12 : x20 ≠ ((-1) : Int) := h12
            have hO1 := hO (by omega)
            obtain ⟨u1, u2, u3, u4⟩ := zOK_0 hO1
            have hu1 := u1
            obtain ⟨v1, v2, v3, v4, v5, -⟩ := hu1
            refine pm_blk hK zmm295 [] 3 91 [(2, 205), (0, 6)] [(0, 0), (0, 6), (2, 205)] μc20 [] rfl trivial ?_
            refine pm_call hK zmm295 (219, 0, 292, 2) zM292 (0, 0) [(2, 205), (0, 6), (0, 0)] [] rfl rfl rfl rfl ⟨by omega, by rw [zn292]; omega⟩ (zh_emits hK (o := 6) (v := 0) hTc20 ⟨by omega, by omega⟩ ⟨by omega, by omega⟩ ⟨by omega, by omega⟩ hb205 hb218 hb219 ⟨Nat.le_refl _, Nat.le_refl _⟩) (fun st21 μc21 hp21 => ?_)
            obtain ⟨rfl, hTc21, hE21⟩ := hp21
            have hE := hE21
            refine pm_blk hK zmm295 [] 1 95 [(2, 205), (0, 6)] [(0, 0)] μc21 [] rfl trivial ?_
            exact pm_iret rfl rfl ⟨_, rfl, by omega, by omega, hTc21, fun _ => zOK_two hOK hF (by omega) hO1 rfl hE (by decide) (by decide) (by decide) (fun h => absurd h (by decide))⟩
          · have h12 : x20 = ((-1) : Int) := h12
            refine pm_blk hK zmm295 [] 1 87 [(2, 205), (0, 6)] [(0, (-1))] μc20 [] rfl trivial ?_
            exact pm_iret rfl rfl ⟨_, rfl, by omega, by omega, hTc20, fun h => absurd rfl h⟩
      · have h7 : x12 = (0 : Int) := h7
        refine pm_blk hK zmm295 [] 2 31 [(2, 205), (9, 0)] [(0, 62), (2, 205)] μc1 [] rfl trivial ?_
        refine pm_call hK zmm295 (230, 0, 283, 1) zM283 (0, 0) [(2, 205), (0, 62)] [] rfl rfl rfl rfl ⟨by omega, by rw [zn283]; omega⟩ (zh_isSign hK (c := 62) ⟨Nat.le_refl _, Nat.le_refl _⟩) (fun st22 μc22 hp22 => ?_)
        obtain ⟨rfl, x22, rfl, hx22a, hx22b, hx22c⟩ := hp22
        refine pm_if hK zmm295 .ne 9 43 rfl rfl (fun h13 => ?_) (fun h13 => ?_)
        · have h13 : x22 ≠ (0 : Int) := h13
          have f3 := zT_get hTc1 zs205_15 (i := 15) (by omega) (by omega)
          refine pm_blk hK zmm295 [] 3 49 [(2, 205), (9, 0)] [(0, 60), (0, μc1 205 15)] μc1 [] rfl trivial ?_
          refine pm_icmp hK zmm295 .ne 8 57 rfl rfl (fun h14 => ?_) (fun h14 => ?_)
          · have h14 : μc1 205 15 ≠ (60 : Int) := h14
            refine pm_blk hK zmm295 [] 3 63 [(2, 205), (9, 0)] [(0, 61), (0, μc1 205 15)] μc1 [] rfl trivial ?_
            refine pm_icmp hK zmm295 .ne 8 71 rfl rfl (fun h15 => ?_) (fun h15 => ?_)
            · have h15 : μc1 205 15 ≠ (61 : Int) := h15
              refine pm_blk hK zmm295 [] 3 75 [(2, 205), (0, 8)] [(2, 205)] μc1 [] rfl trivial ?_
              refine pm_call hK zmm295 (223, 0, 139, 0) zM139 (2, 44) [(2, 205)] [] rfl rfl rfl rfl ⟨by omega, by rw [zn139]; omega⟩ (zh_reads hK hTc1 hb205 ⟨Nat.le_refl _, Nat.le_refl _⟩) (fun st23 μc23 hp23 => ?_)
              obtain ⟨rfl, hTc23, hF23, hS23, hR23⟩ := hp23
              have hF := hF23
              have hS := hS23
              have hR := hR23
              have hS2 := hS
              have hR2 := hR
              obtain ⟨s1, s2, s3, s4, s5, -, -, s8⟩ := hR2
              have hadv : μc1 205 13 + 1 ≤ μc23 205 13 := by omega
              clear r6
              try clear hx1c
              try clear hx2c
              try clear hx3c
              try clear hx4c
              try clear hx5c
              try clear hx6c
              try clear hx7c
              try clear hx8c
              have hF25 := hF.2 25 (by decide) (by decide) (by decide) (by decide)
              refine pm_blk hK zmm295 [] 1 79 [(2, 205), (0, 8)] [(2, 205)] μc23 [] rfl trivial ?_
              refine pm_call hK zmm295 (236, 0, 288, 0) zM288 (5, 107) [(2, 205)] [] rfl rfl rfl rfl ⟨by omega, by rw [zn288]; omega⟩ (zh_readSum hK (w := w + 1) hTc23 hR ⟨by omega, by omega⟩ hb205 hb218 hb219 ⟨Nat.le_refl _, Nat.le_refl _⟩) (fun st24 μc24 hp24 => ?_)
              obtain ⟨x24, rfl, hx24, hy24, hTc24, hO24⟩ := hp24
              have hO := hO24
              refine pm_blk hK zmm295 [] 1 83 [(2, 205), (0, 8)] [(0, (-1)), (0, x24)] μc24 [] rfl trivial ?_
              refine pm_icmp hK zmm295 .ne 5 88 rfl rfl (fun h16 => ?_) (fun h16 => ?_)
              · have h16 : x24 ≠ ((-1) : Int) := h16
                have hO1 := hO (by omega)
                obtain ⟨u1, u2, u3, u4⟩ := zOK_0 hO1
                have hu1 := u1
                obtain ⟨v1, v2, v3, v4, v5, -⟩ := hu1
                refine pm_blk hK zmm295 [] 3 91 [(2, 205), (0, 8)] [(0, 0), (0, 8), (2, 205)] μc24 [] rfl trivial ?_
                refine pm_call hK zmm295 (219, 0, 292, 2) zM292 (0, 0) [(2, 205), (0, 8), (0, 0)] [] rfl rfl rfl rfl ⟨by omega, by rw [zn292]; omega⟩ (zh_emits hK (o := 8) (v := 0) hTc24 ⟨by omega, by omega⟩ ⟨by omega, by omega⟩ ⟨by omega, by omega⟩ hb205 hb218 hb219 ⟨Nat.le_refl _, Nat.le_refl _⟩) (fun st25 μc25 hp25 => ?_)
                obtain ⟨rfl, hTc25, hE25⟩ := hp25
                have hE := hE25
                refine pm_blk hK zmm295 [] 1 95 [(2, 205), (0, 8)] [(0, 0)] μc25 [] rfl trivial ?_
                exact pm_iret rfl rfl ⟨_, rfl, by omega, by omega, hTc25, fun _ => zOK_two hOK hF (by omega) hO1 rfl hE (by decide) (by decide) (by decide) (fun h => absurd h (by decide))⟩
              · have h16 : x24 = ((-1) : Int) := h16
                refine pm_blk hK zmm295 [] 1 87 [(2, 205), (0, 8)] [(0, (-1))] μc24 [] rfl trivial ?_
                exact pm_iret rfl rfl ⟨_, rfl, by omega, by omega, hTc24, fun h => absurd rfl h⟩
            · have h15 : μc1 205 15 = (61 : Int) := h15
              refine pm_blk hK zmm295 [] 4 75 [(2, 205), (0, 7)] [(2, 205)] μc1 [] rfl trivial ?_
              refine pm_call hK zmm295 (223, 0, 139, 0) zM139 (2, 44) [(2, 205)] [] rfl rfl rfl rfl ⟨by omega, by rw [zn139]; omega⟩ (zh_reads hK hTc1 hb205 ⟨Nat.le_refl _, Nat.le_refl _⟩) (fun st26 μc26 hp26 => ?_)
              obtain ⟨rfl, hTc26, hF26, hS26, hR26⟩ := hp26
              have hF := hF26
              have hS := hS26
              have hR := hR26
              have hS2 := hS
              have hR2 := hR
              obtain ⟨s1, s2, s3, s4, s5, -, -, s8⟩ := hR2
              have hadv : μc1 205 13 + 1 ≤ μc26 205 13 := by omega
              clear r6
              try clear hx1c
              try clear hx2c
              try clear hx3c
              try clear hx4c
              try clear hx5c
              try clear hx6c
              try clear hx7c
              try clear hx8c
              have hF25 := hF.2 25 (by decide) (by decide) (by decide) (by decide)
              refine pm_blk hK zmm295 [] 1 79 [(2, 205), (0, 7)] [(2, 205)] μc26 [] rfl trivial ?_
              refine pm_call hK zmm295 (236, 0, 288, 0) zM288 (5, 107) [(2, 205)] [] rfl rfl rfl rfl ⟨by omega, by rw [zn288]; omega⟩ (zh_readSum hK (w := w + 1) hTc26 hR ⟨by omega, by omega⟩ hb205 hb218 hb219 ⟨Nat.le_refl _, Nat.le_refl _⟩) (fun st27 μc27 hp27 => ?_)
              obtain ⟨x27, rfl, hx27, hy27, hTc27, hO27⟩ := hp27
              have hO := hO27
              refine pm_blk hK zmm295 [] 1 83 [(2, 205), (0, 7)] [(0, (-1)), (0, x27)] μc27 [] rfl trivial ?_
              refine pm_icmp hK zmm295 .ne 5 88 rfl rfl (fun h17 => ?_) (fun h17 => ?_)
              · have h17 : x27 ≠ ((-1) : Int) := h17
                have hO1 := hO (by omega)
                obtain ⟨u1, u2, u3, u4⟩ := zOK_0 hO1
                have hu1 := u1
                obtain ⟨v1, v2, v3, v4, v5, -⟩ := hu1
                refine pm_blk hK zmm295 [] 3 91 [(2, 205), (0, 7)] [(0, 0), (0, 7), (2, 205)] μc27 [] rfl trivial ?_
                refine pm_call hK zmm295 (219, 0, 292, 2) zM292 (0, 0) [(2, 205), (0, 7), (0, 0)] [] rfl rfl rfl rfl ⟨by omega, by rw [zn292]; omega⟩ (zh_emits hK (o := 7) (v := 0) hTc27 ⟨by omega, by omega⟩ ⟨by omega, by omega⟩ ⟨by omega, by omega⟩ hb205 hb218 hb219 ⟨Nat.le_refl _, Nat.le_refl _⟩) (fun st28 μc28 hp28 => ?_)
                obtain ⟨rfl, hTc28, hE28⟩ := hp28
                have hE := hE28
                refine pm_blk hK zmm295 [] 1 95 [(2, 205), (0, 7)] [(0, 0)] μc28 [] rfl trivial ?_
                exact pm_iret rfl rfl ⟨_, rfl, by omega, by omega, hTc28, fun _ => zOK_two hOK hF (by omega) hO1 rfl hE (by decide) (by decide) (by decide) (fun h => absurd h (by decide))⟩
              · have h17 : x27 = ((-1) : Int) := h17
                refine pm_blk hK zmm295 [] 1 87 [(2, 205), (0, 7)] [(0, (-1))] μc27 [] rfl trivial ?_
                exact pm_iret rfl rfl ⟨_, rfl, by omega, by omega, hTc27, fun h => absurd rfl h⟩
          · have h14 : μc1 205 15 = (60 : Int) := h14
            refine pm_blk hK zmm295 [] 4 75 [(2, 205), (0, 6)] [(2, 205)] μc1 [] rfl trivial ?_
            refine pm_call hK zmm295 (223, 0, 139, 0) zM139 (2, 44) [(2, 205)] [] rfl rfl rfl rfl ⟨by omega, by rw [zn139]; omega⟩ (zh_reads hK hTc1 hb205 ⟨Nat.le_refl _, Nat.le_refl _⟩) (fun st29 μc29 hp29 => ?_)
            obtain ⟨rfl, hTc29, hF29, hS29, hR29⟩ := hp29
            have hF := hF29
            have hS := hS29
            have hR := hR29
            have hS2 := hS
            have hR2 := hR
            obtain ⟨s1, s2, s3, s4, s5, -, -, s8⟩ := hR2
            have hadv : μc1 205 13 + 1 ≤ μc29 205 13 := by omega
            clear r6
            try clear hx1c
            try clear hx2c
            try clear hx3c
            try clear hx4c
            try clear hx5c
            try clear hx6c
            try clear hx7c
            try clear hx8c
            have hF25 := hF.2 25 (by decide) (by decide) (by decide) (by decide)
            refine pm_blk hK zmm295 [] 1 79 [(2, 205), (0, 6)] [(2, 205)] μc29 [] rfl trivial ?_
            refine pm_call hK zmm295 (236, 0, 288, 0) zM288 (5, 107) [(2, 205)] [] rfl rfl rfl rfl ⟨by omega, by rw [zn288]; omega⟩ (zh_readSum hK (w := w + 1) hTc29 hR ⟨by omega, by omega⟩ hb205 hb218 hb219 ⟨Nat.le_refl _, Nat.le_refl _⟩) (fun st30 μc30 hp30 => ?_)
            obtain ⟨x30, rfl, hx30, hy30, hTc30, hO30⟩ := hp30
            have hO := hO30
            refine pm_blk hK zmm295 [] 1 83 [(2, 205), (0, 6)] [(0, (-1)), (0, x30)] μc30 [] rfl trivial ?_
            refine pm_icmp hK zmm295 .ne 5 88 rfl rfl (fun h18 => ?_) (fun h18 => ?_)
            · have h18 : x30 ≠ ((-1) : Int) := h18
              have hO1 := hO (by omega)
              obtain ⟨u1, u2, u3, u4⟩ := zOK_0 hO1
              have hu1 := u1
              obtain ⟨v1, v2, v3, v4, v5, -⟩ := hu1
              refine pm_blk hK zmm295 [] 3 91 [(2, 205), (0, 6)] [(0, 0), (0, 6), (2, 205)] μc30 [] rfl trivial ?_
              refine pm_call hK zmm295 (219, 0, 292, 2) zM292 (0, 0) [(2, 205), (0, 6), (0, 0)] [] rfl rfl rfl rfl ⟨by omega, by rw [zn292]; omega⟩ (zh_emits hK (o := 6) (v := 0) hTc30 ⟨by omega, by omega⟩ ⟨by omega, by omega⟩ ⟨by omega, by omega⟩ hb205 hb218 hb219 ⟨Nat.le_refl _, Nat.le_refl _⟩) (fun st31 μc31 hp31 => ?_)
              obtain ⟨rfl, hTc31, hE31⟩ := hp31
              have hE := hE31
              refine pm_blk hK zmm295 [] 1 95 [(2, 205), (0, 6)] [(0, 0)] μc31 [] rfl trivial ?_
              exact pm_iret rfl rfl ⟨_, rfl, by omega, by omega, hTc31, fun _ => zOK_two hOK hF (by omega) hO1 rfl hE (by decide) (by decide) (by decide) (fun h => absurd h (by decide))⟩
            · have h18 : x30 = ((-1) : Int) := h18
              refine pm_blk hK zmm295 [] 1 87 [(2, 205), (0, 6)] [(0, (-1))] μc30 [] rfl trivial ?_
              exact pm_iret rfl rfl ⟨_, rfl, by omega, by omega, hTc30, fun h => absurd rfl h⟩
        · have h13 : x22 = (0 : Int) := h13
          refine pm_blk hK zmm295 [] 2 39 [(2, 205), (9, 0)] [(0, 1), (2, 205)] μc1 [] rfl trivial ?_
          refine pm_call hK zmm295 (216, 0, 278, 1) zM278 (0, 0) [(2, 205), (0, 1)] [] rfl rfl rfl rfl ⟨by omega, by rw [zn278]; omega⟩ (zh_errs hK (k := 1) hTc1 ⟨by omega, by omega⟩ hb205 ⟨Nat.le_refl _, Nat.le_refl _⟩) (fun st32 μc32 hp32 => ?_)
          obtain ⟨rfl, hTc32⟩ := hp32
          exact pm_iret rfl rfl ⟨_, rfl, by omega, by omega, hTc32, fun h => absurd rfl h⟩
  · have h0 : x1 = ((-1) : Int) := h0
    refine pm_blk hK zmm295 [] 1 9 [(2, 205), (9, 0)] [(0, (-1))] μc1 [] rfl trivial ?_
    exact pm_iret rfl rfl ⟨_, rfl, by omega, by omega, hTc1, fun h => absurd rfl h⟩
end ZHW
