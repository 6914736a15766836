/-! the law is read; walks printed by program (wip/p30/pmgen.py) and filled by hand -/
section ZHW
variable {D : va_G} {Wm : Nat} {ST : List (String × String × String × Nat)} {b0 : sx_B} {l : Launch} {Sg : Nat → Option Nat} {bud : sx_Bu} {μ : pm_Mem} {B0 : Nat → Prop} {J : (Nat → Option Nat) → Heap → Prop}
set_option maxRecDepth 100000 in
theorem zh_isLineWord (hK : zKK ST) (hbd : 1 ≤ bud.1 ∧ 23 ≤ bud.2.1) : zC D Wm ST b0 l Sg zM146 bud [(2, 205)] μ (fun st' μ' => μ = μ' ∧ ∃ x, st' = [(0, x)] ∧ 0 ≤ x ∧ x ≤ 1 ∧ (x = 1 → μ 205 14 = 2 ∧ 0 ≤ μ 205 15 ∧ μ 205 15 ≤ 2)) := by
  refine pm_blk hK zmm146 [] 3 5 [(2, 205)] [(0, 2), (0, μ 205 14)] μ [] rfl trivial ?_
  refine pm_icmp hK zmm146 .ne 20 25 rfl rfl (fun h0 => ?_) (fun h0 => ?_)
  · have h0 : μ 205 14 ≠ (2 : Int) := h0
    refine pm_blk hK zmm146 [] 1 26 [(2, 205)] [(0, 0)] μ [] rfl trivial ?_
    exact pm_zret rfl rfl (by first | exact Or.inl rfl | exact Or.inr rfl | omega) ⟨rfl, _, rfl, by omega, by omega, by omega⟩
  · have h0 : μ 205 14 = (2 : Int) := h0
    refine pm_blk hK zmm146 [] 5 15 [(2, 205)] [(0, 2), (0, 0), (0, μ 205 15), (2, 205)] μ [] rfl trivial ?_
    refine pm_call hK zmm146 (158, 0, 129, 3) zM129 (0, 0) [(2, 205), (0, μ 205 15), (0, 0), (0, 2)] [] rfl rfl rfl rfl ⟨by omega, by rw [zn129]; omega⟩ (zh_isIn hK ⟨by omega, by omega⟩) (fun st1 μc1 hp1 => ?_)
    obtain ⟨rfl, rfl⟩ := hp1
    refine pm_if hK zmm146 .eq 7 25 rfl rfl (fun h1 => ?_) (fun h1 => ?_)
    · have h1 : (if 0 ≤ (μ 205 15) ∧ (μ 205 15) ≤ 2 then 1 else 0 : Int) = (0 : Int) := h1
      have h1 := zif0 h1
      refine pm_blk hK zmm146 [] 1 26 [(2, 205)] [(0, 0)] μ [] rfl trivial ?_
      exact pm_zret rfl rfl (by first | exact Or.inl rfl | exact Or.inr rfl | omega) ⟨rfl, _, rfl, by omega, by omega, by omega⟩
    · have h1 : (if 0 ≤ (μ 205 15) ∧ (μ 205 15) ≤ 2 then 1 else 0 : Int) ≠ (0 : Int) := h1
      have h1 := zif1 h1
      refine pm_blk hK zmm146 [] 2 26 [(2, 205)] [(0, 1)] μ [] rfl trivial ?_
      exact pm_zret rfl rfl (by first | exact Or.inl rfl | exact Or.inr rfl | omega) ⟨rfl, _, rfl, by omega, by omega, by omega⟩
set_option maxRecDepth 100000 in
theorem zl_rl (hK : zKK ST)  (hb205 : sx_bit Wm 205 = true) (hb214 : sx_bit Wm 214 = true) (hb215 : sx_bit Wm 215 = true) (hb216 : sx_bit Wm 216 = true) (hb217 : sx_bit Wm 217 = true) (hb218 : sx_bit Wm 218 = true) (hb219 : sx_bit Wm 219 = true) (hb220 : sx_bit Wm 220 = true) (hbd : 8 ≤ bud.1 ∧ 172 ≤ bud.2.1) : ∀ (n : Nat) {u : Int} {μ : pm_Mem}, (400 - μ 205 13).toNat = n → ∀ (hu : 0 ≤ u ∧ u ≤ 16) (hT : zTJ μ) (hRd : zRd μ) (hco : μ 205 25 ≤ μ 205 13) (ho : μ 205 26 = 0) (hL : zLn μ u), zW D Wm ST b0 l Sg zM145 bud (pm_X zM145 (fun st' μ' => ∃ x, st' = [(0, x)] ∧ -1 ≤ x ∧ x ≤ 16 ∧ zTJ μ' ∧ (x ≠ -1 → zLn μ' x))) 2 [(2, 205), (0, u), (9, 0)] [] μ := by
  intro n
  induction n using Nat.strongRecOn with
  | ind n ih =>
    intro u μ hn hu hT hRd hco ho hL
    have hR0 := hRd
    obtain ⟨r1, r2, r3, r4, r5, r6, -⟩ := hR0
    have f25 := zT_get hT zs205_25 (i := 25) (by omega) (by omega)
    refine pm_blk hK zmm145 [] 1 3 [(2, 205), (0, u), (9, 0)] [(2, 205)] μ [] rfl trivial ?_
    refine pm_call hK zmm145 (257, 0, 146, 0) zM146 (1, 23) [(2, 205)] [] rfl rfl rfl rfl ⟨by omega, by rw [zn146]; omega⟩ (zh_isLineWord hK ⟨Nat.le_refl _, Nat.le_refl _⟩) (fun st1 μc1 hp1 => ?_)
    obtain ⟨rfl, x1, rfl, hx1a, hx1b, hx1c⟩ := hp1
    refine pm_if hK zmm145 .eq 122 128 rfl rfl (fun h0 => ?_) (fun h0 => ?_)
    · have h0 : x1 = (0 : Int) := h0
      have f1 := zT_get hT zs205_14 (i := 14) (by omega) (by omega)
      refine pm_blk hK zmm145 [] 2 132 [(2, 205), (0, u), (9, 0)] [(0, μ 205 14)] μ [] rfl trivial ?_
      refine pm_if hK zmm145 .ne 7 139 rfl rfl (fun h1 => ?_) (fun h1 => ?_)
      · have h1 : μ 205 14 ≠ (0 : Int) := h1
        refine pm_blk hK zmm145 [] 2 141 [(2, 205), (0, u), (9, 0)] [(0, 1), (2, 205)] μ [] rfl trivial ?_
        refine pm_call hK zmm145 (216, 0, 278, 1) zM278 (0, 0) [(2, 205), (0, 1)] [] rfl rfl rfl rfl ⟨by omega, by rw [zn278]; omega⟩ (zh_errs hK (k := 1) hT ⟨by omega, by omega⟩ hb205 ⟨Nat.le_refl _, Nat.le_refl _⟩) (fun st2 μc2 hp2 => ?_)
        obtain ⟨rfl, hTc2⟩ := hp2
        first
        | exact pm_iret rfl rfl ⟨_, rfl, by omega, by omega, hTc2, fun h => absurd rfl h⟩
        | exact pm_iret rfl rfl ⟨_, rfl, by omega, by omega, hTc2, fun _ => hL⟩
      · have h1 : μ 205 14 = (0 : Int) := h1
        refine pm_blk hK zmm145 [] 2 144 [(2, 205), (0, u), (9, 0)] [(0, u)] μ [] rfl trivial ?_
        first
        | exact pm_iret rfl rfl ⟨_, rfl, by omega, by omega, hT, fun h => absurd rfl h⟩
        | exact pm_iret rfl rfl ⟨_, rfl, by omega, by omega, hT, fun _ => hL⟩
    · have h0 : x1 ≠ (0 : Int) := h0
      have hw2 := hx1c (by omega)
      have hadv : μ 205 13 < μ 205 12 := by omega
      clear r6 hx1c
      refine pm_blk hK zmm145 [] 2 12 [(2, 205), (0, u), (9, 0)] [(0, 16), (0, u)] μ [] rfl trivial ?_
      refine pm_icmp hK zmm145 .ne 9 21 rfl rfl (fun h2 => ?_) (fun h2 => ?_)
      · have h2 : u ≠ (16 : Int) := h2
        have f2 := zT_get hT zs205_15 (i := 15) (by omega) (by omega)
        refine pm_blk hK zmm145 [] 10 36 [(2, 205), (0, u), (0, 32 + u)] [] (pm_up μ 214 (32 + u) (μ 205 15)) [pm_in (32 + u), sx_bit Wm 214 = true, 0 ≤ 32 + u ∧ 32 + u < 48] rfl ⟨pm_in_mk (by omega) (by omega), hb214, ⟨by omega, by omega⟩, trivial⟩ ?_
        obtain ⟨μ1, eμ1⟩ : ∃ μ', μ' = pm_up μ 214 (32 + u) (μ 205 15) := ⟨_, rfl⟩
        rw [← eμ1]
        have hTμ1 : zTJ μ1 := by rw [eμ1]; exact zT_up hT zs214_0 rfl (i := 32 + u) (by omega) (by omega) (by omega) (by omega)
        have b12 : μ1 205 12 = μ 205 12 := by rw [eμ1, pm_up_off (by decide)]
        have b13 : μ1 205 13 = μ 205 13 := by rw [eμ1, pm_up_off (by decide)]
        refine pm_blk hK zmm145 [] 1 37 [(2, 205), (0, u), (0, 32 + u)] [(2, 205)] μ1 [] rfl trivial ?_
        refine pm_call hK zmm145 (223, 0, 139, 0) zM139 (2, 44) [(2, 205)] [] rfl rfl rfl rfl ⟨by omega, by rw [zn139]; omega⟩ (zh_reads hK hTμ1 hb205 ⟨Nat.le_refl _, Nat.le_refl _⟩) (fun st3 μc3 hp3 => ?_)
        obtain ⟨rfl, hTc3, hF3, hS3, hR3⟩ := hp3
        have hF := hF3
        have hS := hS3
        have hR := hR3
        have a25 : μc3 205 25 = μ 205 25 := by rw [hF.2 25 (by decide) (by decide) (by decide) (by decide), eμ1, pm_up_off (by decide)]
        have a26 : μc3 205 26 = μ 205 26 := by rw [hF.2 26 (by decide) (by decide) (by decide) (by decide), eμ1, pm_up_off (by decide)]
        have a218 : μc3 218 = μ 218 := by rw [hF.1 218 (by decide), eμ1, pm_up_row (by decide)]
        have a219 : μc3 219 = μ 219 := by rw [hF.1 219 (by decide), eμ1, pm_up_row (by decide)]
        have aL : ∀ r, r ≠ 205 → r ≠ 214 → μc3 r = μ r := fun r h1 h2 => by rw [hF.1 r h1, eμ1, pm_up_row h2]
        have hR1 := hR
        obtain ⟨s1, s2, s3, -⟩ := hR1
        have hS1 := hS
        have f3 := zT_get hTc3 zs205_25 (i := 25) (by omega) (by omega)
        refine pm_blk hK zmm145 [] 6 50 [(2, 205), (0, u), (0, 32 + u)] [] (pm_up μc3 215 (32 + u) (μc3 205 25)) [sx_bit Wm 215 = true, 0 ≤ 32 + u ∧ 32 + u < 48] rfl ⟨hb215, ⟨by omega, by omega⟩, trivial⟩ ?_
        obtain ⟨μ2, eμ2⟩ : ∃ μ', μ' = pm_up μc3 215 (32 + u) (μc3 205 25) := ⟨_, rfl⟩
        rw [← eμ2]
        have hTμ2 : zTJ μ2 := by rw [eμ2]; exact zT_line hTc3 (Or.inl rfl) ⟨by omega, by omega⟩ ⟨by omega, by omega⟩
        have hRd2 : zRd μ2 := zRd_Fr (fun k _ _ => by rw [eμ2, pm_up_off (by decide)]) hR
        have c25 : μ2 205 25 = μ 205 25 := by rw [eμ2, pm_up_off (by decide)]; exact a25
        have c13 : μ2 205 13 = μc3 205 13 := by rw [eμ2, pm_up_off (by decide)]
        have c26 : μ2 205 26 = μ 205 26 := by rw [eμ2, pm_up_off (by decide)]; exact a26
        have cE : zEm μ μ2 0 0 := zEm_same c25 (by rw [eμ2, pm_up_row (by decide)]; exact a218) (by rw [eμ2, pm_up_row (by decide)]; exact a219)
        have cL : ∀ r, r ≠ 205 → r ≠ 214 → r ≠ 215 → μ2 r = μ r := fun r h1 h2 h3 => by rw [eμ2, pm_up_row h3]; exact aL r h1 h2
        refine pm_blk hK zmm145 [] 1 51 [(2, 205), (0, u), (0, 32 + u)] [(2, 205)] μ2 [] rfl trivial ?_
        refine pm_call hK zmm145 (236, 0, 288, 0) zM288 (5, 107) [(2, 205)] [] rfl rfl rfl rfl ⟨by omega, by rw [zn288]; omega⟩ (zh_readSum hK (w := 0) hTμ2 hRd2 ⟨by omega, by omega⟩ hb205 hb218 hb219 ⟨Nat.le_refl _, Nat.le_refl _⟩) (fun st4 μc4 hp4 => ?_)
        obtain ⟨x4, rfl, hx4, hy4, hTc4, hO4⟩ := hp4
        have hO := hO4
        refine pm_blk hK zmm145 [] 1 55 [(2, 205), (0, u), (0, 32 + u)] [(0, (-1)), (0, x4)] μc4 [] rfl trivial ?_
        refine pm_icmp hK zmm145 .ne 5 60 rfl rfl (fun h3 => ?_) (fun h3 => ?_)
        · have h3 : x4 ≠ ((-1) : Int) := h3
          obtain ⟨u1, u2, u3, u4, u5⟩ := hO (by omega)
          have uS := zEm_trans cE u4
          have u26 := u5.2 26 (by decide) (by decide) (by decide) (by decide) (by decide)
          have f4 := zT_get hTc4 zs205_25 (i := 25) (by omega) (by omega)
          refine pm_blk hK zmm145 [] 6 70 [(2, 205), (0, u), (0, 32 + u)] [] (pm_up μc4 216 (32 + u) (μc4 205 25)) [sx_bit Wm 216 = true, 0 ≤ 32 + u ∧ 32 + u < 48] rfl ⟨hb216, ⟨by omega, by omega⟩, trivial⟩ ?_
          obtain ⟨μ3, eμ3⟩ : ∃ μ', μ' = pm_up μc4 216 (32 + u) (μc4 205 25) := ⟨_, rfl⟩
          rw [← eμ3]
          have hTμ3 : zTJ μ3 := by rw [eμ3]; exact zT_line hTc4 (Or.inr (Or.inl rfl)) ⟨by omega, by omega⟩ ⟨by omega, by omega⟩
          have hRd3 : zRd μ3 := zRd_Fr (fun k _ _ => by rw [eμ3, pm_up_off (by decide)]) u1
          have d25 : μ3 205 25 = μc4 205 25 := by rw [eμ3, pm_up_off (by decide)]
          have d13 : μ3 205 13 = μc4 205 13 := by rw [eμ3, pm_up_off (by decide)]
          have d26 : μ3 205 26 = μc4 205 26 := by rw [eμ3, pm_up_off (by decide)]
          have dE : zEm μc4 μ3 0 0 := zEm_same d25 (by rw [eμ3, pm_up_row (by decide)]) (by rw [eμ3, pm_up_row (by decide)])
          refine pm_blk hK zmm145 [] 2 72 [(2, 205), (0, u), (0, 32 + u)] [(0, 3), (2, 205)] μ3 [] rfl trivial ?_
          refine pm_call hK zmm145 (245, 0, 142, 1) zM142 (0, 0) [(2, 205), (0, 3)] [] rfl rfl rfl rfl ⟨by omega, by rw [zn142]; omega⟩ (zh_isWord hK (c := 3) ⟨Nat.le_refl _, Nat.le_refl _⟩) (fun st5 μc5 hp5 => ?_)
          obtain ⟨rfl, x5, rfl, hx5a, hx5b, hx5c⟩ := hp5
          refine pm_if hK zmm145 .eq 17 92 rfl rfl (fun h4 => ?_) (fun h4 => ?_)
          · have h4 : x5 = (0 : Int) := h4
            have h92 : zRd μ3 ∧ μ3 205 25 ≤ μ3 205 13 ∧ μ3 205 26 = 0 ∧ μ3 205 13 ≤ μ3 205 13 ∧ (∃ b, zEm μ3 μ3 0 b) ∧ zFw μ3 μ3 := by
              first
              | exact ⟨hRd3, by omega, by omega, by omega, ⟨0, zEm_same rfl rfl rfl⟩, ⟨fun _ _ _ _ _ => rfl, fun _ _ _ _ _ _ _ _ => rfl⟩⟩
              | (obtain ⟨⟨o1, o2, o3, ⟨b, o4⟩, o5⟩, o6⟩ := hOA (by omega)
                 exact ⟨o1, by omega, o6, by omega, ⟨b, zEm_trans (zEm_fr hF) o4⟩, zFw_trans (zFs_w (zFr_s hF)) o5⟩)
            obtain ⟨k1, k2, k3, k4, ⟨b9, k5⟩, k6⟩ := h92
            have g5 : μ3 205 25 = μc4 205 25 := by rw [eμ3, pm_up_off (by decide)]
            have f6 := zT_get hTμ3 zs205_25 (i := 25) (by omega) (by omega)
            refine pm_blk hK zmm145 [] 6 102 [(2, 205), (0, u), (0, 32 + u)] [] (pm_up μ3 217 (32 + u) (μ3 205 25)) [sx_bit Wm 217 = true, 0 ≤ 32 + u ∧ 32 + u < 48] rfl ⟨hb217, ⟨by omega, by omega⟩, trivial⟩ ?_
            obtain ⟨μ4, eμ4⟩ : ∃ μ', μ' = pm_up μ3 217 (32 + u) (μ3 205 25) := ⟨_, rfl⟩
            rw [← eμ4]
            have hTμ4 : zTJ μ4 := by rw [eμ4]; exact zT_line hTμ3 (Or.inr (Or.inr rfl)) ⟨by omega, by omega⟩ ⟨by omega, by omega⟩
            have g25 : μ4 205 25 = μ3 205 25 := by rw [eμ4, pm_up_off (by decide)]
            have g13 : μ4 205 13 = μ3 205 13 := by rw [eμ4, pm_up_off (by decide)]
            have g12 : μ4 205 12 = μ3 205 12 := by rw [eμ4, pm_up_off (by decide)]
            have g26 : μ4 205 26 = μ3 205 26 := by rw [eμ4, pm_up_off (by decide)]
            have gL : ∀ r, r ≠ 217 → μ4 r = μ3 r := fun r h => by rw [eμ4, pm_up_row h]
            have gv : μ4 217 (32 + u) = μ3 205 25 := by rw [eμ4, pm_up_eq]
            have gw : ∀ l, l < u → μ4 217 (32 + l) = μ3 217 (32 + l) := fun l hl => by rw [eμ4, pm_up_ne (by omega)]
            have k12 := k1.2.1
            refine pm_blk hK zmm145 [] 2 105 [(2, 205), (0, u), (0, 32 + u)] [(0, 59), (2, 205)] μ4 [] rfl trivial ?_
            refine pm_call hK zmm145 (230, 0, 283, 1) zM283 (0, 0) [(2, 205), (0, 59)] [] rfl rfl rfl rfl ⟨by omega, by rw [zn283]; omega⟩ (zh_isSign hK (c := 59) ⟨Nat.le_refl _, Nat.le_refl _⟩) (fun st6 μc6 hp6 => ?_)
            obtain ⟨rfl, x6, rfl, hx6a, hx6b, hx6c⟩ := hp6
            refine pm_if hK zmm145 .ne 9 117 rfl rfl (fun h5 => ?_) (fun h5 => ?_)
            · have h5 : x6 ≠ (0 : Int) := h5
              refine pm_blk hK zmm145 [] 1 118 [(2, 205), (0, u), (0, 32 + u)] [(2, 205)] μ4 [] rfl trivial ?_
              refine pm_call hK zmm145 (223, 0, 139, 0) zM139 (2, 44) [(2, 205)] [] rfl rfl rfl rfl ⟨by omega, by rw [zn139]; omega⟩ (zh_reads hK hTμ4 hb205 ⟨Nat.le_refl _, Nat.le_refl _⟩) (fun st7 μc7 hp7 => ?_)
              obtain ⟨rfl, hTc7, hF7, hS7, hR7⟩ := hp7
              have hF := hF7
              have hS := hS7
              have hR := hR7
              refine pm_blk hK zmm145 [] 5 2 [(2, 205), (0, u + 1), (0, 32 + u)] [] μc7 [pm_in (u + 1)] rfl ⟨pm_in_mk (by omega) (by omega), trivial⟩ ?_
              refine pm_hide [2] ?_
              have z25 := hF.2 25 (by decide) (by decide) (by decide) (by decide)
              have z26 := hF.2 26 (by decide) (by decide) (by decide) (by decide)
              refine ih _ (by omega) rfl ⟨by omega, by omega⟩ hTc7 hR (by omega) (by omega) ?_
              have q215 : μc7 215 = μ2 215 := by rw [hF.1 215 (by decide), gL 215 (by decide), k6.1 215 (by decide) (by decide) (by decide) (by decide), eμ3, pm_up_row (by decide), u5.1 215 (by decide) (by decide) (by decide)]
              have q216 : μc7 216 = μ3 216 := by rw [hF.1 216 (by decide), gL 216 (by decide), k6.1 216 (by decide) (by decide) (by decide) (by decide)]
              have q217 : μc7 217 = μ4 217 := hF.1 217 (by decide)
              have w217 : ∀ l, l < u → μ4 217 (32 + l) = μ 217 (32 + l) := fun l hl => by rw [gw l hl, k6.1 217 (by decide) (by decide) (by decide) (by decide), eμ3, pm_up_row (by decide), u5.1 217 (by decide) (by decide) (by decide), cL 217 (by decide) (by decide) (by decide)]
              refine zLn_step hL hu.1 f25.1 uS (zEm_trans dE k5) (by rw [hF.1 218 (by decide), gL 218 (by decide)]) (by rw [hF.1 219 (by decide), gL 219 (by decide)]) (by omega) ?_ ?_ ?_ ?_ ?_ ?_
              · rw [q215, eμ2, pm_up_eq, a25]
              · rw [q216, eμ3, pm_up_eq]
              · rw [q217, gv]
              · intro l l0 l1; rw [q215, eμ2, pm_up_ne (by omega), aL 215 (by decide) (by decide)]
              · intro l l0 l1; rw [q216, eμ3, pm_up_ne (by omega), u5.1 216 (by decide) (by decide) (by decide), cL 216 (by decide) (by decide) (by decide)]
              · intro l l0 l1; rw [q217, w217 l l1]
            · have h5 : x6 = (0 : Int) := h5
              refine pm_blk hK zmm145 [] 2 113 [(2, 205), (0, u), (0, 32 + u)] [(0, 1), (2, 205)] μ4 [] rfl trivial ?_
              refine pm_call hK zmm145 (216, 0, 278, 1) zM278 (0, 0) [(2, 205), (0, 1)] [] rfl rfl rfl rfl ⟨by omega, by rw [zn278]; omega⟩ (zh_errs hK (k := 1) hTμ4 ⟨by omega, by omega⟩ hb205 ⟨Nat.le_refl _, Nat.le_refl _⟩) (fun st8 μc8 hp8 => ?_)
              obtain ⟨rfl, hTc8⟩ := hp8
              exact pm_iret rfl rfl ⟨_, rfl, by omega, by omega, hTc8, fun h => absurd rfl h⟩
          · have h4 : x5 ≠ (0 : Int) := h4
            refine pm_blk hK zmm145 [] 1 79 [(2, 205), (0, u), (0, 32 + u)] [(2, 205)] μ3 [] rfl trivial ?_
            refine pm_call hK zmm145 (223, 0, 139, 0) zM139 (2, 44) [(2, 205)] [] rfl rfl rfl rfl ⟨by omega, by rw [zn139]; omega⟩ (zh_reads hK hTμ3 hb205 ⟨Nat.le_refl _, Nat.le_refl _⟩) (fun st9 μc9 hp9 => ?_)
            obtain ⟨rfl, hTc9, hF9, hS9, hR9⟩ := hp9
            have hF := hF9
            have hS := hS9
            have hR := hR9
            refine pm_blk hK zmm145 [] 1 83 [(2, 205), (0, u), (0, 32 + u)] [(2, 205)] μc9 [] rfl trivial ?_
            have v25 := hF.2 25 (by decide) (by decide) (by decide) (by decide)
            have v26 := hF.2 26 (by decide) (by decide) (by decide) (by decide)
            have v1 := hRd3.2.1
            refine pm_call hK zmm145 (261, 0, 293, 0) zM293 (7, 149) [(2, 205)] [] rfl rfl rfl rfl ⟨by omega, by rw [zn293]; omega⟩ (zh_readAny hK (w := 0) hTc9 hR (by omega) ⟨by omega, by omega⟩ hb205 hb218 hb219 hb220 ⟨Nat.le_refl _, Nat.le_refl _⟩) (fun st10 μc10 hp10 => ?_)
            obtain ⟨x10, rfl, hx10, hy10, hTc10, hO10⟩ := hp10
            have hOA := hO10
            refine pm_blk hK zmm145 [] 1 87 [(2, 205), (0, u), (0, 32 + u)] [(0, (-1)), (0, x10)] μc10 [] rfl trivial ?_
            refine pm_icmp hK zmm145 .ne 5 92 rfl rfl (fun h6 => ?_) (fun h6 => ?_)
            · have h6 : x10 ≠ ((-1) : Int) := h6
              have h92 : zRd μc10 ∧ μc10 205 25 ≤ μc10 205 13 ∧ μc10 205 26 = 0 ∧ μ3 205 13 ≤ μc10 205 13 ∧ (∃ b, zEm μ3 μc10 0 b) ∧ zFw μ3 μc10 := by
                first
                | exact ⟨hRd3, by omega, by omega, by omega, ⟨0, zEm_same rfl rfl rfl⟩, ⟨fun _ _ _ _ _ => rfl, fun _ _ _ _ _ _ _ _ => rfl⟩⟩
                | (obtain ⟨⟨o1, o2, o3, ⟨b, o4⟩, o5⟩, o6⟩ := hOA (by omega)
                   exact ⟨o1, by omega, o6, by omega, ⟨b, zEm_trans (zEm_fr hF) o4⟩, zFw_trans (zFs_w (zFr_s hF)) o5⟩)
              obtain ⟨k1, k2, k3, k4, ⟨b9, k5⟩, k6⟩ := h92
              have f7 := zT_get hTc10 zs205_25 (i := 25) (by omega) (by omega)
              refine pm_blk hK zmm145 [] 6 102 [(2, 205), (0, u), (0, 32 + u)] [] (pm_up μc10 217 (32 + u) (μc10 205 25)) [sx_bit Wm 217 = true, 0 ≤ 32 + u ∧ 32 + u < 48] rfl ⟨hb217, ⟨by omega, by omega⟩, trivial⟩ ?_
              obtain ⟨μ5, eμ5⟩ : ∃ μ', μ' = pm_up μc10 217 (32 + u) (μc10 205 25) := ⟨_, rfl⟩
              rw [← eμ5]
              have hTμ5 : zTJ μ5 := by rw [eμ5]; exact zT_line hTc10 (Or.inr (Or.inr rfl)) ⟨by omega, by omega⟩ ⟨by omega, by omega⟩
              have g25 : μ5 205 25 = μc10 205 25 := by rw [eμ5, pm_up_off (by decide)]
              have g13 : μ5 205 13 = μc10 205 13 := by rw [eμ5, pm_up_off (by decide)]
              have g12 : μ5 205 12 = μc10 205 12 := by rw [eμ5, pm_up_off (by decide)]
              have g26 : μ5 205 26 = μc10 205 26 := by rw [eμ5, pm_up_off (by decide)]
              have gL : ∀ r, r ≠ 217 → μ5 r = μc10 r := fun r h => by rw [eμ5, pm_up_row h]
              have gv : μ5 217 (32 + u) = μc10 205 25 := by rw [eμ5, pm_up_eq]
              have gw : ∀ l, l < u → μ5 217 (32 + l) = μc10 217 (32 + l) := fun l hl => by rw [eμ5, pm_up_ne (by omega)]
              have k12 := k1.2.1
              refine pm_blk hK zmm145 [] 2 105 [(2, 205), (0, u), (0, 32 + u)] [(0, 59), (2, 205)] μ5 [] rfl trivial ?_
              refine pm_call hK zmm145 (230, 0, 283, 1) zM283 (0, 0) [(2, 205), (0, 59)] [] rfl rfl rfl rfl ⟨by omega, by rw [zn283]; omega⟩ (zh_isSign hK (c := 59) ⟨Nat.le_refl _, Nat.le_refl _⟩) (fun st11 μc11 hp11 => ?_)
              obtain ⟨rfl, x11, rfl, hx11a, hx11b, hx11c⟩ := hp11
              refine pm_if hK zmm145 .ne 9 117 rfl rfl (fun h7 => ?_) (fun h7 => ?_)
              · have h7 : x11 ≠ (0 : Int) := h7
                refine pm_blk hK zmm145 [] 1 118 [(2, 205), (0, u), (0, 32 + u)] [(2, 205)] μ5 [] rfl trivial ?_
                refine pm_call hK zmm145 (223, 0, 139, 0) zM139 (2, 44) [(2, 205)] [] rfl rfl rfl rfl ⟨by omega, by rw [zn139]; omega⟩ (zh_reads hK hTμ5 hb205 ⟨Nat.le_refl _, Nat.le_refl _⟩) (fun st12 μc12 hp12 => ?_)
                obtain ⟨rfl, hTc12, hF12, hS12, hR12⟩ := hp12
                have hF := hF12
                have hS := hS12
                have hR := hR12
                refine pm_blk hK zmm145 [] 5 2 [(2, 205), (0, u + 1), (0, 32 + u)] [] μc12 [pm_in (u + 1)] rfl ⟨pm_in_mk (by omega) (by omega), trivial⟩ ?_
                refine pm_hide [2] ?_
                have z25 := hF.2 25 (by decide) (by decide) (by decide) (by decide)
                have z26 := hF.2 26 (by decide) (by decide) (by decide) (by decide)
                refine ih _ (by omega) rfl ⟨by omega, by omega⟩ hTc12 hR (by omega) (by omega) ?_
                have q215 : μc12 215 = μ2 215 := by rw [hF.1 215 (by decide), gL 215 (by decide), k6.1 215 (by decide) (by decide) (by decide) (by decide), eμ3, pm_up_row (by decide), u5.1 215 (by decide) (by decide) (by decide)]
                have q216 : μc12 216 = μ3 216 := by rw [hF.1 216 (by decide), gL 216 (by decide), k6.1 216 (by decide) (by decide) (by decide) (by decide)]
                have q217 : μc12 217 = μ5 217 := hF.1 217 (by decide)
                have w217 : ∀ l, l < u → μ5 217 (32 + l) = μ 217 (32 + l) := fun l hl => by rw [gw l hl, k6.1 217 (by decide) (by decide) (by decide) (by decide), eμ3, pm_up_row (by decide), u5.1 217 (by decide) (by decide) (by decide), cL 217 (by decide) (by decide) (by decide)]
                refine zLn_step hL hu.1 f25.1 uS (zEm_trans dE k5) (by rw [hF.1 218 (by decide), gL 218 (by decide)]) (by rw [hF.1 219 (by decide), gL 219 (by decide)]) (by omega) ?_ ?_ ?_ ?_ ?_ ?_
                · rw [q215, eμ2, pm_up_eq, a25]
                · rw [q216, eμ3, pm_up_eq]
                · rw [q217, gv]
                · intro l l0 l1; rw [q215, eμ2, pm_up_ne (by omega), aL 215 (by decide) (by decide)]
                · intro l l0 l1; rw [q216, eμ3, pm_up_ne (by omega), u5.1 216 (by decide) (by decide) (by decide), cL 216 (by decide) (by decide) (by decide)]
                · intro l l0 l1; rw [q217, w217 l l1]
              · have h7 : x11 = (0 : Int) := h7
                refine pm_blk hK zmm145 [] 2 113 [(2, 205), (0, u), (0, 32 + u)] [(0, 1), (2, 205)] μ5 [] rfl trivial ?_
                refine pm_call hK zmm145 (216, 0, 278, 1) zM278 (0, 0) [(2, 205), (0, 1)] [] rfl rfl rfl rfl ⟨by omega, by rw [zn278]; omega⟩ (zh_errs hK (k := 1) hTμ5 ⟨by omega, by omega⟩ hb205 ⟨Nat.le_refl _, Nat.le_refl _⟩) (fun st13 μc13 hp13 => ?_)
                obtain ⟨rfl, hTc13⟩ := hp13
                exact pm_iret rfl rfl ⟨_, rfl, by omega, by omega, hTc13, fun h => absurd rfl h⟩
            · have h6 : x10 = ((-1) : Int) := h6
              refine pm_blk hK zmm145 [] 1 91 [(2, 205), (0, u), (0, 32 + u)] [(0, (-1))] μc10 [] rfl trivial ?_
              exact pm_iret rfl rfl ⟨_, rfl, by omega, by omega, hTc10, fun h => absurd rfl h⟩
        · have h3 : x4 = ((-1) : Int) := h3
          refine pm_blk hK zmm145 [] 1 59 [(2, 205), (0, u), (0, 32 + u)] [(0, (-1))] μc4 [] rfl trivial ?_
          exact pm_iret rfl rfl ⟨_, rfl, by omega, by omega, hTc4, fun h => absurd rfl h⟩
      · have h2 : u = (16 : Int) := h2
        refine pm_blk hK zmm145 [] 2 17 [(2, 205), (0, u), (9, 0)] [(0, 3), (2, 205)] μ [] rfl trivial ?_
        refine pm_call hK zmm145 (216, 0, 278, 1) zM278 (0, 0) [(2, 205), (0, 3)] [] rfl rfl rfl rfl ⟨by omega, by rw [zn278]; omega⟩ (zh_errs hK (k := 3) hT ⟨by omega, by omega⟩ hb205 ⟨Nat.le_refl _, Nat.le_refl _⟩) (fun st14 μc14 hp14 => ?_)
        obtain ⟨rfl, hTc14⟩ := hp14
        exact pm_iret rfl rfl ⟨_, rfl, by omega, by omega, hTc14, fun h => absurd rfl h⟩
set_option maxRecDepth 100000 in
theorem zh_readLaw (hK : zKK ST) (hT : zTJ μ) (hRd : zRd μ) (hco : μ 205 25 ≤ μ 205 13) (ho : μ 205 26 = 0) (hb205 : sx_bit Wm 205 = true) (hb214 : sx_bit Wm 214 = true) (hb215 : sx_bit Wm 215 = true) (hb216 : sx_bit Wm 216 = true) (hb217 : sx_bit Wm 217 = true) (hb218 : sx_bit Wm 218 = true) (hb219 : sx_bit Wm 219 = true) (hb220 : sx_bit Wm 220 = true) (hbd : 8 ≤ bud.1 ∧ 172 ≤ bud.2.1) : zC D Wm ST b0 l Sg zM145 bud [(2, 205)] μ (fun st' μ' => ∃ x, st' = [(0, x)] ∧ -1 ≤ x ∧ x ≤ 16 ∧ zTJ μ' ∧ (x ≠ -1 → zLn μ' x)) := by
  refine pm_blk hK zmm145 [] 2 2 [(2, 205), (0, 0), (9, 0)] [] μ [] rfl trivial ?_
  exact zl_rl hK hb205 hb214 hb215 hb216 hb217 hb218 hb219 hb220 hbd _ (u := 0) rfl ⟨by omega, by omega⟩ hT hRd hco ho (fun l l0 l1 => absurd l1 (by omega))
end ZHW
