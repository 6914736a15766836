/-! THE LAW: products in the reference; walks printed by program (wip/p30/pmgen.py) and filled by hand -/
section ZHW
variable {φ : Option pm_Mem}
variable {D : va_G} {Wm : Nat} {ST : List (String × String × String × Nat)} {b0 : sx_B} {l : Launch} {Sg : Nat → Option Nat} {bud : sx_Bu} {μ : pm_Mem} {B0 : Nat → Prop} {J : (Nat → Option Nat) → Heap → Prop}
set_option maxRecDepth 100000 in
theorem zn_unit (hK : zKK ST) {j1 : Int} {T : Int → Int} {L : Int} {K S V : Int → Int} {N j : Int} {P : Nat → Int} (hx : zMx T L K S V N P μ) (hm : zMs K S V N P j μ) (hj1 : j1 = j + 1) (hT : zTJ φ μ) (hcl : μ 205 25 ≤ j) (hb205 : sx_bit Wm 205 = true) (hb218 : sx_bit Wm 218 = true) (hb219 : sx_bit Wm 219 = true) (hbd : 3 ≤ bud.1 ∧ 65 ≤ bud.2.1) : zC D Wm ST b0 l Sg zM290 bud [(2, 205)] μ (fun st' μ' => ∃ x, st' = [(0, x)] ∧ zTJ φ μ' ∧ zMq μ μ' ∧ (x ≠ -1 → x = 0 ∧ zUn (K j) ∧ zMs K S V N P j1 μ' ∧ zRe μ μ' [zUc K V j] ∧ μ' 205 25 = μ 205 25 + 1) ∧ (x = -1 → zXi (fun f => (f = 1 ∧ ¬ zUn (K j)) ∧ zFm S f j μ'))) := by
  have hF : zMq μ μ := zMq_0
  have hk := zMs_k hx hm
  obtain ⟨t1, t2, t3, t4⟩ := id hm
  obtain ⟨v1, v2, v3, v4, v5⟩ := id t3
  have hnL := hx.1.1
  have h11 := hx.2.2
  have f11 := zT_get hT zs205_11 (i := 11) (by omega) (by omega)
  have f25 := zT_get hT zs205_25 (i := 25) (by omega) (by omega)
  have hM := zwM_c (K j - 300)
  have f1 := zT_get hT zs205_14 (i := 14) (by omega) (by omega)
  refine pm_blk hK zmm290 [] 3 5 [(2, 205), (9, 0)] [(0, 2), (0, μ 205 14)] μ [] rfl trivial ?_
  refine pm_icmp hK zmm290 .ne 18 23 rfl rfl (fun h0 => ?_) (fun h0 => ?_)
  · have h0 : μ 205 14 ≠ (2 : Int) := h0
    refine pm_blk hK zmm290 [] 3 26 [(2, 205), (0, 0)] [(0, 0)] μ [] rfl trivial ?_
    refine pm_if hK zmm290 .ne 17 43 rfl rfl (fun h1 => ?_) (fun h1 => ?_)
    · have h1 : (0 : Int) ≠ (0 : Int) := h1
      exact absurd h1 (by decide)
    · have h1 : (0 : Int) = (0 : Int) := h1
      refine pm_blk hK zmm290 [] 3 34 [(2, 205), (0, 0)] [(0, 3), (0, μ 205 14)] μ [] rfl trivial ?_
      refine pm_icmp hK zmm290 .eq 9 43 rfl rfl (fun h2 => ?_) (fun h2 => ?_)
      · have h2 : μ 205 14 = (3 : Int) := h2
        have hun : zUn (K j) := by omega
        have hjn : j < N := by omega
        refine pm_blk hK zmm290 [] 2 45 [(2, 205), (0, 0)] [(0, 0), (2, 205)] μ [] rfl trivial ?_
        refine pm_if hK zmm290 .eq 7 52 rfl rfl (fun h3 => ?_) (fun h3 => ?_)
        · have h3 : (0 : Int) = (0 : Int) := h3
          refine pm_blk hK zmm290 [] 2 54 [(2, 205), (0, 0)] [(0, 0), (0, 0), (2, 205)] μ [] rfl trivial ?_
          refine pm_if hK zmm290 .eq 13 67 rfl rfl (fun h4 => ?_) (fun h4 => ?_)
          · have h4 : (0 : Int) = (0 : Int) := h4
            have f2 := zT_get hT zs205_15 (i := 15) (by omega) (by omega)
            refine pm_blk hK zmm290 [] 2 71 [(2, 205), (0, 0)] [(0, μ 205 15), (0, 0), (2, 205)] μ [] rfl trivial ?_
            refine pm_call hK zmm290 (219, 0, 292, 2) zM292 (0, 0) [(2, 205), (0, 0), (0, μ 205 15)] [] rfl rfl rfl rfl ⟨by omega, by rw [zn292]; omega⟩ (zh_emits hK (o := 0) (v := (μ 205 15)) hT ⟨by omega, by omega⟩ ⟨by omega, by omega⟩ ⟨by omega, by omega⟩ hb205 hb218 hb219 ⟨Nat.le_refl _, Nat.le_refl _⟩) (fun st1 μc1 hp1 => ?_)
            obtain ⟨rfl, hTc1, hE1⟩ := hp1
            have hm := zMs_q hm hE1
            have hF := zMq_tr hF (zMq_e hE1)
            have hx := zMx_f hx (zMf_q (zMq_e hE1))
            obtain ⟨hdd, hl8⟩ := zRe_e hE1
            refine pm_blk hK zmm290 [] 1 75 [(2, 205), (0, 0)] [(2, 205)] μc1 [] rfl trivial ?_
            refine pm_call hK zmm290 (223, 0, 139, 0) zM139 (2, 44) [(2, 205)] [] rfl rfl rfl rfl ⟨by omega, by rw [zn139]; omega⟩ (zt_reads hK hTc1 (zMs_sp hx hm hjn) hb205 ⟨Nat.le_refl _, Nat.le_refl _⟩) (fun st2 μc2 hp2 => ?_)
            obtain ⟨rfl, hTc2, hr2⟩ := hp2
            have hm := zMs_rd hx hm hjn hr2
            have hF := zMq_tr hF (zMq_r (zMr_fr hr2.1))
            have hx := zMx_f hx (zMf_fr hr2.1)
            have h25 := hr2.1.2 25 (by decide) (by decide) (by decide) (by decide)
            have h218 := hr2.1.1 218 (by decide)
            have h219 := hr2.1.1 219 (by decide)
            have hdd := zRe_fr hdd h218 h219 h25
            have hl8 := h25.trans hl8
            refine pm_blk hK zmm290 [] 1 79 [(2, 205), (0, 0)] [(0, 0)] μc2 [] rfl trivial ?_
            obtain rfl : j1 = j + 1 := hj1
            exact pm_iret rfl rfl ⟨_, rfl, hTc2, hF, fun _ => ⟨rfl, hun, hm, zRe_uc hdd (by omega), hl8⟩, fun h9 => absurd h9 (by decide)⟩
          · have h4 : (0 : Int) ≠ (0 : Int) := h4
            exact absurd h4 (by decide)
        · have h3 : (0 : Int) ≠ (0 : Int) := h3
          exact absurd h3 (by decide)
      · have h2 : μ 205 14 ≠ (3 : Int) := h2
        refine pm_blk hK zmm290 [] 2 39 [(2, 205), (0, 0)] [(0, 1), (2, 205)] μ [] rfl trivial ?_
        refine pm_call hK zmm290 (216, 0, 278, 1) zM278 (0, 0) [(2, 205), (0, 1)] [] rfl rfl rfl rfl ⟨by omega, by rw [zn278]; omega⟩ (zm_errs hK (j := j) hx hm hT ⟨by omega, by omega⟩ hb205 ⟨Nat.le_refl _, Nat.le_refl _⟩) (fun st3 μc3 hp3 => ?_)
        obtain ⟨rfl, hTc3, hF3, hf3⟩ := hp3
        have hF := zMq_tr hF (zMq_r hF3)
        have hff := hf3
        exact pm_iret rfl rfl ⟨_, rfl, hTc3, hF, fun h9 => absurd rfl h9, fun _ => zXi_i 1 ⟨⟨rfl, by omega⟩, hff⟩⟩
  · have h0 : μ 205 14 = (2 : Int) := h0
    have f3 := zT_get hT zs205_15 (i := 15) (by omega) (by omega)
    refine pm_blk hK zmm290 [] 3 13 [(2, 205), (9, 0)] [(0, μ 205 15), (2, 205)] μ [] rfl trivial ?_
    refine pm_call hK zmm290 (213, 0, 291, 1) zM291 (1, 23) [(2, 205), (0, μ 205 15)] [] rfl rfl rfl rfl ⟨by omega, by rw [zn291]; omega⟩ (zh_canAsk hK (c := (μ 205 15)) ⟨Nat.le_refl _, Nat.le_refl _⟩) (fun st4 μc4 hp4 => ?_)
    obtain ⟨rfl, x4, rfl, ha4, hb4, hq4⟩ := hp4
    have hca := hq4
    refine pm_if hK zmm290 .eq 7 23 rfl rfl (fun h5 => ?_) (fun h5 => ?_)
    · have h5 : x4 = (0 : Int) := h5
      refine pm_blk hK zmm290 [] 3 26 [(2, 205), (0, 0)] [(0, 0)] μ [] rfl trivial ?_
      refine pm_if hK zmm290 .ne 17 43 rfl rfl (fun h6 => ?_) (fun h6 => ?_)
      · have h6 : (0 : Int) ≠ (0 : Int) := h6
        exact absurd h6 (by decide)
      · have h6 : (0 : Int) = (0 : Int) := h6
        refine pm_blk hK zmm290 [] 3 34 [(2, 205), (0, 0)] [(0, 3), (0, μ 205 14)] μ [] rfl trivial ?_
        refine pm_icmp hK zmm290 .eq 9 43 rfl rfl (fun h7 => ?_) (fun h7 => ?_)
        · have h7 : μ 205 14 = (3 : Int) := h7
          have hun : zUn (K j) := by omega
          have hjn : j < N := by omega
          refine pm_blk hK zmm290 [] 2 45 [(2, 205), (0, 0)] [(0, 0), (2, 205)] μ [] rfl trivial ?_
          refine pm_if hK zmm290 .eq 7 52 rfl rfl (fun h8 => ?_) (fun h8 => ?_)
          · have h8 : (0 : Int) = (0 : Int) := h8
            refine pm_blk hK zmm290 [] 2 54 [(2, 205), (0, 0)] [(0, 0), (0, 0), (2, 205)] μ [] rfl trivial ?_
            refine pm_if hK zmm290 .eq 13 67 rfl rfl (fun h9 => ?_) (fun h9 => ?_)
            · have h9 : (0 : Int) = (0 : Int) := h9
              refine pm_blk hK zmm290 [] 2 71 [(2, 205), (0, 0)] [(0, μ 205 15), (0, 0), (2, 205)] μ [] rfl trivial ?_
              refine pm_call hK zmm290 (219, 0, 292, 2) zM292 (0, 0) [(2, 205), (0, 0), (0, μ 205 15)] [] rfl rfl rfl rfl ⟨by omega, by rw [zn292]; omega⟩ (zh_emits hK (o := 0) (v := (μ 205 15)) hT ⟨by omega, by omega⟩ ⟨by omega, by omega⟩ ⟨by omega, by omega⟩ hb205 hb218 hb219 ⟨Nat.le_refl _, Nat.le_refl _⟩) (fun st5 μc5 hp5 => ?_)
              obtain ⟨rfl, hTc5, hE5⟩ := hp5
              have hm := zMs_q hm hE5
              have hF := zMq_tr hF (zMq_e hE5)
              have hx := zMx_f hx (zMf_q (zMq_e hE5))
              obtain ⟨hdd, hl8⟩ := zRe_e hE5
              refine pm_blk hK zmm290 [] 1 75 [(2, 205), (0, 0)] [(2, 205)] μc5 [] rfl trivial ?_
              refine pm_call hK zmm290 (223, 0, 139, 0) zM139 (2, 44) [(2, 205)] [] rfl rfl rfl rfl ⟨by omega, by rw [zn139]; omega⟩ (zt_reads hK hTc5 (zMs_sp hx hm hjn) hb205 ⟨Nat.le_refl _, Nat.le_refl _⟩) (fun st6 μc6 hp6 => ?_)
              obtain ⟨rfl, hTc6, hr6⟩ := hp6
              have hm := zMs_rd hx hm hjn hr6
              have hF := zMq_tr hF (zMq_r (zMr_fr hr6.1))
              have hx := zMx_f hx (zMf_fr hr6.1)
              have h25 := hr6.1.2 25 (by decide) (by decide) (by decide) (by decide)
              have h218 := hr6.1.1 218 (by decide)
              have h219 := hr6.1.1 219 (by decide)
              have hdd := zRe_fr hdd h218 h219 h25
              have hl8 := h25.trans hl8
              refine pm_blk hK zmm290 [] 1 79 [(2, 205), (0, 0)] [(0, 0)] μc6 [] rfl trivial ?_
              obtain rfl : j1 = j + 1 := hj1
              exact pm_iret rfl rfl ⟨_, rfl, hTc6, hF, fun _ => ⟨rfl, hun, hm, zRe_uc hdd (by omega), hl8⟩, fun h9 => absurd h9 (by decide)⟩
            · have h9 : (0 : Int) ≠ (0 : Int) := h9
              exact absurd h9 (by decide)
          · have h8 : (0 : Int) ≠ (0 : Int) := h8
            exact absurd h8 (by decide)
        · have h7 : μ 205 14 ≠ (3 : Int) := h7
          refine pm_blk hK zmm290 [] 2 39 [(2, 205), (0, 0)] [(0, 1), (2, 205)] μ [] rfl trivial ?_
          refine pm_call hK zmm290 (216, 0, 278, 1) zM278 (0, 0) [(2, 205), (0, 1)] [] rfl rfl rfl rfl ⟨by omega, by rw [zn278]; omega⟩ (zm_errs hK (j := j) hx hm hT ⟨by omega, by omega⟩ hb205 ⟨Nat.le_refl _, Nat.le_refl _⟩) (fun st7 μc7 hp7 => ?_)
          obtain ⟨rfl, hTc7, hF7, hf7⟩ := hp7
          have hF := zMq_tr hF (zMq_r hF7)
          have hff := hf7
          exact pm_iret rfl rfl ⟨_, rfl, hTc7, hF, fun h9 => absurd rfl h9, fun _ => zXi_i 1 ⟨⟨rfl, by omega⟩, hff⟩⟩
    · have h5 : x4 ≠ (0 : Int) := h5
      refine pm_blk hK zmm290 [] 4 26 [(2, 205), (0, 1)] [(0, 1)] μ [] rfl trivial ?_
      refine pm_if hK zmm290 .ne 17 43 rfl rfl (fun h10 => ?_) (fun h10 => ?_)
      · have h10 : (1 : Int) ≠ (0 : Int) := h10
        have hun : zUn (K j) := by omega
        have hjn : j < N := by omega
        refine pm_blk hK zmm290 [] 2 45 [(2, 205), (0, 1)] [(0, 1), (2, 205)] μ [] rfl trivial ?_
        refine pm_if hK zmm290 .eq 7 52 rfl rfl (fun h11 => ?_) (fun h11 => ?_)
        · have h11 : (1 : Int) = (0 : Int) := h11
          exact absurd h11 (by decide)
        · have h11 : (1 : Int) ≠ (0 : Int) := h11
          refine pm_blk hK zmm290 [] 3 54 [(2, 205), (0, 1)] [(0, 1), (0, 1), (2, 205)] μ [] rfl trivial ?_
          refine pm_if hK zmm290 .eq 13 67 rfl rfl (fun h12 => ?_) (fun h12 => ?_)
          · have h12 : (1 : Int) = (0 : Int) := h12
            exact absurd h12 (by decide)
          · have h12 : (1 : Int) ≠ (0 : Int) := h12
            refine pm_blk hK zmm290 [] 5 71 [(2, 205), (0, 1)] [(0, (μ 205 15) - 7), (0, 1), (2, 205)] μ [pm_in ((μ 205 15) - 7)] rfl ⟨pm_in_mk (by omega) (by omega), trivial⟩ ?_
            refine pm_call hK zmm290 (219, 0, 292, 2) zM292 (0, 0) [(2, 205), (0, 1), (0, (μ 205 15) - 7)] [] rfl rfl rfl rfl ⟨by omega, by rw [zn292]; omega⟩ (zh_emits hK (o := 1) (v := ((μ 205 15) - 7)) hT ⟨by omega, by omega⟩ ⟨by omega, by omega⟩ ⟨by omega, by omega⟩ hb205 hb218 hb219 ⟨Nat.le_refl _, Nat.le_refl _⟩) (fun st8 μc8 hp8 => ?_)
            obtain ⟨rfl, hTc8, hE8⟩ := hp8
            have hm := zMs_q hm hE8
            have hF := zMq_tr hF (zMq_e hE8)
            have hx := zMx_f hx (zMf_q (zMq_e hE8))
            obtain ⟨hdd, hl8⟩ := zRe_e hE8
            refine pm_blk hK zmm290 [] 1 75 [(2, 205), (0, 1)] [(2, 205)] μc8 [] rfl trivial ?_
            refine pm_call hK zmm290 (223, 0, 139, 0) zM139 (2, 44) [(2, 205)] [] rfl rfl rfl rfl ⟨by omega, by rw [zn139]; omega⟩ (zt_reads hK hTc8 (zMs_sp hx hm hjn) hb205 ⟨Nat.le_refl _, Nat.le_refl _⟩) (fun st9 μc9 hp9 => ?_)
            obtain ⟨rfl, hTc9, hr9⟩ := hp9
            have hm := zMs_rd hx hm hjn hr9
            have hF := zMq_tr hF (zMq_r (zMr_fr hr9.1))
            have hx := zMx_f hx (zMf_fr hr9.1)
            have h25 := hr9.1.2 25 (by decide) (by decide) (by decide) (by decide)
            have h218 := hr9.1.1 218 (by decide)
            have h219 := hr9.1.1 219 (by decide)
            have hdd := zRe_fr hdd h218 h219 h25
            have hl8 := h25.trans hl8
            refine pm_blk hK zmm290 [] 1 79 [(2, 205), (0, 1)] [(0, 0)] μc9 [] rfl trivial ?_
            obtain rfl : j1 = j + 1 := hj1
            exact pm_iret rfl rfl ⟨_, rfl, hTc9, hF, fun _ => ⟨rfl, hun, hm, zRe_uc hdd (by omega), hl8⟩, fun h9 => absurd h9 (by decide)⟩
      · have h10 : (1 : Int) = (0 : Int) := h10
        exact absurd h10 (by decide)
set_option maxRecDepth 100000 in
theorem zn_pl (hK : zKK ST)  {μ0 : pm_Mem} {T : Int → Int} {L : Int} {K S V : Int → Int} {N j0 : Int} {P : Nat → Int} (hc0 : μ0 205 25 ≤ j0) (hb205 : sx_bit Wm 205 = true) (hb218 : sx_bit Wm 218 = true) (hb219 : sx_bit Wm 219 = true) (hbd : 4 ≤ bud.1 ∧ 86 ≤ bud.2.1) : ∀ (n : Nat) {j : Int} {μ : pm_Mem}, (N + 1 - j).toNat = n → ∀ (hm : zMs K S V N P j μ) (hx : zMx T L K S V N P μ) (hF : zMq μ0 μ) (hQ0 : ∃ Lp, zRe μ0 μ (zXp Lp) ∧ ∀ m f q L, zPrl K V m j f q L → zPro K V j0 f q (Lp ++ L)) (hcl : μ 205 25 + j0 ≤ μ0 205 25 + j) (hT : zTJ φ μ), zW D Wm ST b0 l Sg zM289 bud (pm_X zM289 (fun st' μ' => ∃ x f q LL, st' = [(0, x)] ∧ zTJ φ μ' ∧ zMq μ0 μ' ∧ zPro K V j0 f q LL ∧ ((x ≠ -1 ∧ f = 0 ∧ zMs K S V N P q μ' ∧ zRe μ0 μ' (zXp LL) ∧ μ' 205 25 + j0 ≤ μ0 205 25 + q) ∨ (x = -1 ∧ f ≠ 0 ∧ zFm S f q μ')))) 10 [(2, 205), (9, 0)] [] μ := by
  intro n
  induction n using Nat.strongRecOn with
  | ind n ih =>
    intro j μ hn hm hx hF hQ0 hcl hT
    obtain ⟨Lp, hLp, hQ⟩ := hQ0
    have hk := zMs_k hx hm
    obtain ⟨t1, t2, t3, t4⟩ := id hm
    obtain ⟨v1, v2, v3, v4, v5⟩ := id t3
    have hnL := hx.1.1
    have h11 := hx.2.2
    have f11 := zT_get hT zs205_11 (i := 11) (by omega) (by omega)
    have f25 := zT_get hT zs205_25 (i := 25) (by omega) (by omega)
    refine pm_blk hK zmm289 [] 2 13 [(2, 205), (9, 0)] [(0, 42), (2, 205)] μ [] rfl trivial ?_
    refine pm_call hK zmm289 (230, 0, 283, 1) zM283 (0, 0) [(2, 205), (0, 42)] [] rfl rfl rfl rfl ⟨by omega, by rw [zn283]; omega⟩ (zm_isSign hK (j := j) (c := 42) hx hm (by decide) ⟨Nat.le_refl _, Nat.le_refl _⟩) (fun st1 μc1 hp1 => ?_)
    obtain ⟨rfl, x1, rfl, hw1⟩ := hp1
    have hw := hw1
    refine pm_if hK zmm289 .ne 12 28 rfl rfl (fun h0 => ?_) (fun h0 => ?_)
    · have h0 : x1 ≠ (0 : Int) := h0
      have hk9 : K j = 42 ∨ K j = 47 := by omega
      have hjn : j < N := by omega
      refine pm_blk hK zmm289 [] 2 31 [(2, 205), (9, 0)] [(0, 42), (2, 205)] μ [] rfl trivial ?_
      refine pm_call hK zmm289 (230, 0, 283, 1) zM283 (0, 0) [(2, 205), (0, 42)] [] rfl rfl rfl rfl ⟨by omega, by rw [zn283]; omega⟩ (zm_isSign hK (j := j) (c := 42) hx hm (by decide) ⟨Nat.le_refl _, Nat.le_refl _⟩) (fun st2 μc2 hp2 => ?_)
      obtain ⟨rfl, x2, rfl, hw2⟩ := hp2
      have hw := hw2
      refine pm_blk hK zmm289 [] 2 36 [(2, 205), (0, x2)] [(2, 205)] μ [] rfl trivial ?_
      refine pm_call hK zmm289 (223, 0, 139, 0) zM139 (2, 44) [(2, 205)] [] rfl rfl rfl rfl ⟨by omega, by rw [zn139]; omega⟩ (zt_reads hK hT (zMs_sp hx hm hjn) hb205 ⟨Nat.le_refl _, Nat.le_refl _⟩) (fun st3 μc3 hp3 => ?_)
      obtain ⟨rfl, hTc3, hr3⟩ := hp3
      have hm := zMs_rd hx hm hjn hr3
      have hF := zMq_tr hF (zMq_r (zMr_fr hr3.1))
      have hx := zMx_f hx (zMf_fr hr3.1)
      have h25 := hr3.1.2 25 (by decide) (by decide) (by decide) (by decide)
      have h218 := hr3.1.1 218 (by decide)
      have h219 := hr3.1.1 219 (by decide)
      have hLp := zRe_fr hLp h218 h219 h25
      have hk := zMs_k hx hm
      obtain ⟨t1, t2, t3, t4⟩ := id hm
      obtain ⟨v1, v2, v3, v4, v5⟩ := id t3
      refine pm_blk hK zmm289 [] 1 40 [(2, 205), (0, x2)] [(0, x2)] μc3 [] rfl trivial ?_
      refine pm_if hK zmm289 .ne 17 57 rfl rfl (fun h1 => ?_) (fun h1 => ?_)
      · have h1 : x2 ≠ (0 : Int) := h1
        refine pm_blk hK zmm289 [] 1 58 [(2, 205), (0, x2)] [(0, x2)] μc3 [] rfl trivial ?_
        refine pm_if hK zmm289 .ne 16 74 rfl rfl (fun h2 => ?_) (fun h2 => ?_)
        · have h2 : x2 ≠ (0 : Int) := h2
          refine pm_blk hK zmm289 [] 1 75 [(2, 205), (0, x2)] [(2, 205)] μc3 [] rfl trivial ?_
          refine pm_call hK zmm289 (226, 0, 290, 0) zM290 (3, 65) [(2, 205)] [] rfl rfl rfl rfl ⟨by omega, by rw [zn290]; omega⟩ (zn_unit hK (j := j + 1) (j1 := j + 2) hx hm (by omega) hTc3 (by omega) hb205 hb218 hb219 ⟨Nat.le_refl _, Nat.le_refl _⟩) (fun st4 μc4 hp4 => ?_)
          obtain ⟨x4, rfl, hTc4, hF4, hA4, hB4⟩ := hp4
          have hF := zMq_tr hF hF4
          have hx := zMx_f hx (zMf_q hF4)
          have hA := hA4
          have hB := hB4
          refine pm_blk hK zmm289 [] 1 79 [(2, 205), (0, x2)] [(0, (-1)), (0, x4)] μc4 [] rfl trivial ?_
          refine pm_icmp hK zmm289 .ne 5 84 rfl rfl (fun h3 => ?_) (fun h3 => ?_)
          · have h3 : x4 ≠ ((-1) : Int) := h3
            obtain ⟨-, hok, hm, hdu, hl9⟩ := hA (by omega)
            have hLp := zRe_tr hLp hdu
            have hV1 : K (j + 1) = 256 → 0 ≤ V (j + 1) := fun h9 => (zLex_V hx.1 (by omega) (by omega) h9).1
            refine pm_blk hK zmm289 [] 2 86 [(2, 205), (0, x2)] [(0, x2), (2, 205)] μc4 [] rfl trivial ?_
            refine pm_if hK zmm289 .eq 7 93 rfl rfl (fun h4 => ?_) (fun h4 => ?_)
            · have h4 : x2 = (0 : Int) := h4
              exact absurd h4 h2
            · have h4 : x2 ≠ (0 : Int) := h4
              refine pm_blk hK zmm289 [] 3 95 [(2, 205), (0, x2)] [(0, 0), (0, 4), (2, 205)] μc4 [] rfl trivial ?_
              refine pm_call hK zmm289 (219, 0, 292, 2) zM292 (0, 0) [(2, 205), (0, 4), (0, 0)] [] rfl rfl rfl rfl ⟨by omega, by rw [zn292]; omega⟩ (zh_emits hK (o := 4) (v := 0) hTc4 ⟨by omega, by omega⟩ ⟨by omega, by omega⟩ ⟨by omega, by omega⟩ hb205 hb218 hb219 ⟨Nat.le_refl _, Nat.le_refl _⟩) (fun st5 μc5 hp5 => ?_)
              obtain ⟨rfl, hTc5, hE5⟩ := hp5
              have hm := zMs_q hm hE5
              have hF := zMq_tr hF (zMq_e hE5)
              have hx := zMx_f hx (zMf_q (zMq_e hE5))
              obtain ⟨hdd, hl8⟩ := zRe_e hE5
              have hLp := zRe_tr hLp hdd
              refine pm_blk hK zmm289 [] 1 10 [(2, 205), (0, x2)] [] μc5 [] rfl trivial ?_
              refine pm_hide [1] ?_
              have hjl := hm.1
              first
              | (refine ih _ (by omega) (j := j + 2) rfl hm hx hF ⟨Lp ++ [zUc K V (j + 1), (4, 0)], by rw [zXp_tt _ (zUc_n K V (j + 1))]; exact hLp, fun m f q L h9 => ?_⟩ (by omega) hTc5
                 have h8 := hQ (m + 1) f q _ (Or.inr (Or.inr (Or.inl ⟨by omega, hok, L, h9, rfl⟩)))
                 simpa using h8)
              | (have h256 : K (j + 1) = 256 := by omega
                 rw [zUc_256 h256] at hLp
                 refine ih _ (by omega) (j := j + 2) rfl hm hx hF ⟨Lp ++ [(5, V (j + 1))], by rw [zXp_pp]; exact hLp, fun m f q L h9 => ?_⟩ (by omega) hTc5
                 have h8 := hQ (m + 1) f q _ (Or.inr (Or.inr (Or.inr (Or.inr (Or.inr ⟨by omega, h256, by have := hV1 h256; omega, L, h9, rfl⟩)))))
                 simpa using h8)
              | (exfalso; omega)
          · have h3 : x4 = ((-1) : Int) := h3
            refine pm_blk hK zmm289 [] 1 83 [(2, 205), (0, x2)] [(0, (-1))] μc4 [] rfl trivial ?_
            obtain ⟨f, f1, hff⟩ := hB (by omega)
            first
            | exact pm_iret rfl rfl ⟨_, f, j + 1, _, rfl, hTc4, hF, hQ 1 f (j + 1) [] (Or.inr (Or.inl ⟨by omega, f1.2, f1.1, rfl⟩)), Or.inr ⟨rfl, by omega, hff⟩⟩
            | exact absurd (show zUn (K (j + 1)) by omega) f1.2
            | (exfalso; omega)
        · have h2 : x2 = (0 : Int) := h2
          exact absurd h2 h1
      · have h1 : x2 = (0 : Int) := h1
        have f1 := zT_get hTc3 zs205_14 (i := 14) (by omega) (by omega)
        refine pm_blk hK zmm289 [] 3 48 [(2, 205), (0, x2)] [(0, 3), (0, μc3 205 14)] μc3 [] rfl trivial ?_
        refine pm_icmp hK zmm289 .eq 9 57 rfl rfl (fun h5 => ?_) (fun h5 => ?_)
        · have h5 : μc3 205 14 = (3 : Int) := h5
          refine pm_blk hK zmm289 [] 1 58 [(2, 205), (0, x2)] [(0, x2)] μc3 [] rfl trivial ?_
          refine pm_if hK zmm289 .ne 16 74 rfl rfl (fun h6 => ?_) (fun h6 => ?_)
          · have h6 : x2 ≠ (0 : Int) := h6
            exact absurd h1 h6
          · have h6 : x2 = (0 : Int) := h6
            have f2 := zT_get hTc3 zs205_15 (i := 15) (by omega) (by omega)
            refine pm_blk hK zmm289 [] 2 65 [(2, 205), (0, x2)] [(0, μc3 205 15)] μc3 [] rfl trivial ?_
            refine pm_if hK zmm289 .ne 9 74 rfl rfl (fun h7 => ?_) (fun h7 => ?_)
            · have h7 : μc3 205 15 ≠ (0 : Int) := h7
              refine pm_blk hK zmm289 [] 1 75 [(2, 205), (0, x2)] [(2, 205)] μc3 [] rfl trivial ?_
              refine pm_call hK zmm289 (226, 0, 290, 0) zM290 (3, 65) [(2, 205)] [] rfl rfl rfl rfl ⟨by omega, by rw [zn290]; omega⟩ (zn_unit hK (j := j + 1) (j1 := j + 2) hx hm (by omega) hTc3 (by omega) hb205 hb218 hb219 ⟨Nat.le_refl _, Nat.le_refl _⟩) (fun st6 μc6 hp6 => ?_)
              obtain ⟨x6, rfl, hTc6, hF6, hA6, hB6⟩ := hp6
              have hF := zMq_tr hF hF6
              have hx := zMx_f hx (zMf_q hF6)
              have hA := hA6
              have hB := hB6
              refine pm_blk hK zmm289 [] 1 79 [(2, 205), (0, x2)] [(0, (-1)), (0, x6)] μc6 [] rfl trivial ?_
              refine pm_icmp hK zmm289 .ne 5 84 rfl rfl (fun h8 => ?_) (fun h8 => ?_)
              · have h8 : x6 ≠ ((-1) : Int) := h8
                obtain ⟨-, hok, hm, hdu, hl9⟩ := hA (by omega)
                have hLp := zRe_tr hLp hdu
                have hV1 : K (j + 1) = 256 → 0 ≤ V (j + 1) := fun h9 => (zLex_V hx.1 (by omega) (by omega) h9).1
                refine pm_blk hK zmm289 [] 2 86 [(2, 205), (0, x2)] [(0, x2), (2, 205)] μc6 [] rfl trivial ?_
                refine pm_if hK zmm289 .eq 7 93 rfl rfl (fun h9 => ?_) (fun h9 => ?_)
                · have h9 : x2 = (0 : Int) := h9
                  refine pm_blk hK zmm289 [] 2 95 [(2, 205), (0, x2)] [(0, 0), (0, 5), (2, 205)] μc6 [] rfl trivial ?_
                  refine pm_call hK zmm289 (219, 0, 292, 2) zM292 (0, 0) [(2, 205), (0, 5), (0, 0)] [] rfl rfl rfl rfl ⟨by omega, by rw [zn292]; omega⟩ (zh_emits hK (o := 5) (v := 0) hTc6 ⟨by omega, by omega⟩ ⟨by omega, by omega⟩ ⟨by omega, by omega⟩ hb205 hb218 hb219 ⟨Nat.le_refl _, Nat.le_refl _⟩) (fun st7 μc7 hp7 => ?_)
                  obtain ⟨rfl, hTc7, hE7⟩ := hp7
                  have hm := zMs_q hm hE7
                  have hF := zMq_tr hF (zMq_e hE7)
                  have hx := zMx_f hx (zMf_q (zMq_e hE7))
                  obtain ⟨hdd, hl8⟩ := zRe_e hE7
                  have hLp := zRe_tr hLp hdd
                  refine pm_blk hK zmm289 [] 1 10 [(2, 205), (0, x2)] [] μc7 [] rfl trivial ?_
                  refine pm_hide [1] ?_
                  have hjl := hm.1
                  first
                  | (refine ih _ (by omega) (j := j + 2) rfl hm hx hF ⟨Lp ++ [zUc K V (j + 1), (4, 0)], by rw [zXp_tt _ (zUc_n K V (j + 1))]; exact hLp, fun m f q L h9 => ?_⟩ (by omega) hTc7
                     have h8 := hQ (m + 1) f q _ (Or.inr (Or.inr (Or.inl ⟨by omega, hok, L, h9, rfl⟩)))
                     simpa using h8)
                  | (have h256 : K (j + 1) = 256 := by omega
                     rw [zUc_256 h256] at hLp
                     refine ih _ (by omega) (j := j + 2) rfl hm hx hF ⟨Lp ++ [(5, V (j + 1))], by rw [zXp_pp]; exact hLp, fun m f q L h9 => ?_⟩ (by omega) hTc7
                     have h8 := hQ (m + 1) f q _ (Or.inr (Or.inr (Or.inr (Or.inr (Or.inr ⟨by omega, h256, by have := hV1 h256; omega, L, h9, rfl⟩)))))
                     simpa using h8)
                  | (exfalso; omega)
                · have h9 : x2 ≠ (0 : Int) := h9
                  exact absurd h6 h9
              · have h8 : x6 = ((-1) : Int) := h8
                refine pm_blk hK zmm289 [] 1 83 [(2, 205), (0, x2)] [(0, (-1))] μc6 [] rfl trivial ?_
                obtain ⟨f, f1, hff⟩ := hB (by omega)
                first
                | exact pm_iret rfl rfl ⟨_, f, j + 1, _, rfl, hTc6, hF, hQ 1 f (j + 1) [] (Or.inr (Or.inl ⟨by omega, f1.2, f1.1, rfl⟩)), Or.inr ⟨rfl, by omega, hff⟩⟩
                | exact absurd (show zUn (K (j + 1)) by omega) f1.2
                | (exfalso; omega)
            · have h7 : μc3 205 15 = (0 : Int) := h7
              refine pm_blk hK zmm289 [] 2 70 [(2, 205), (0, x2)] [(0, 2), (2, 205)] μc3 [] rfl trivial ?_
              refine pm_call hK zmm289 (216, 0, 278, 1) zM278 (0, 0) [(2, 205), (0, 2)] [] rfl rfl rfl rfl ⟨by omega, by rw [zn278]; omega⟩ (zm_errs hK (j := (j + 1)) hx hm hTc3 ⟨by omega, by omega⟩ hb205 ⟨Nat.le_refl _, Nat.le_refl _⟩) (fun st8 μc8 hp8 => ?_)
              obtain ⟨rfl, hTc8, hF8, hf8⟩ := hp8
              have hF := zMq_tr hF (zMq_r hF8)
              have hff := hf8
              exact pm_iret rfl rfl ⟨_, 2, j + 1, _, rfl, hTc8, hF, hQ 1 2 (j + 1) [] (Or.inr (Or.inr (Or.inr (Or.inr (Or.inl ⟨by omega, by omega, by omega, rfl, rfl⟩))))), Or.inr ⟨rfl, by decide, hff⟩⟩
        · have h5 : μc3 205 14 ≠ (3 : Int) := h5
          refine pm_blk hK zmm289 [] 2 53 [(2, 205), (0, x2)] [(0, 1), (2, 205)] μc3 [] rfl trivial ?_
          refine pm_call hK zmm289 (216, 0, 278, 1) zM278 (0, 0) [(2, 205), (0, 1)] [] rfl rfl rfl rfl ⟨by omega, by rw [zn278]; omega⟩ (zm_errs hK (j := (j + 1)) hx hm hTc3 ⟨by omega, by omega⟩ hb205 ⟨Nat.le_refl _, Nat.le_refl _⟩) (fun st9 μc9 hp9 => ?_)
          obtain ⟨rfl, hTc9, hF9, hf9⟩ := hp9
          have hF := zMq_tr hF (zMq_r hF9)
          have hff := hf9
          exact pm_iret rfl rfl ⟨_, 1, j + 1, _, rfl, hTc9, hF, hQ 1 1 (j + 1) [] (Or.inr (Or.inr (Or.inr (Or.inl ⟨by omega, by omega, rfl, rfl⟩)))), Or.inr ⟨rfl, by decide, hff⟩⟩
    · have h0 : x1 = (0 : Int) := h0
      refine pm_blk hK zmm289 [] 2 22 [(2, 205), (9, 0)] [(0, 47), (2, 205)] μ [] rfl trivial ?_
      refine pm_call hK zmm289 (230, 0, 283, 1) zM283 (0, 0) [(2, 205), (0, 47)] [] rfl rfl rfl rfl ⟨by omega, by rw [zn283]; omega⟩ (zm_isSign hK (j := j) (c := 47) hx hm (by decide) ⟨Nat.le_refl _, Nat.le_refl _⟩) (fun st10 μc10 hp10 => ?_)
      obtain ⟨rfl, x10, rfl, hw10⟩ := hp10
      have hw := hw10
      refine pm_if hK zmm289 .eq 76 101 rfl rfl (fun h10 => ?_) (fun h10 => ?_)
      · have h10 : x10 = (0 : Int) := h10
        refine pm_blk hK zmm289 [] 1 102 [(2, 205), (9, 0)] [(0, 0)] μ [] rfl trivial ?_
        exact pm_iret rfl rfl ⟨_, 0, j, Lp ++ [], rfl, hT, hF, hQ 1 0 j [] (Or.inl ⟨by omega, by omega, rfl, rfl, rfl⟩), Or.inl ⟨by decide, rfl, hm, by rw [List.append_nil]; exact hLp, by omega⟩⟩
      · have h10 : x10 ≠ (0 : Int) := h10
        have hk9 : K j = 42 ∨ K j = 47 := by omega
        have hjn : j < N := by omega
        refine pm_blk hK zmm289 [] 2 31 [(2, 205), (9, 0)] [(0, 42), (2, 205)] μ [] rfl trivial ?_
        refine pm_call hK zmm289 (230, 0, 283, 1) zM283 (0, 0) [(2, 205), (0, 42)] [] rfl rfl rfl rfl ⟨by omega, by rw [zn283]; omega⟩ (zm_isSign hK (j := j) (c := 42) hx hm (by decide) ⟨Nat.le_refl _, Nat.le_refl _⟩) (fun st11 μc11 hp11 => ?_)
        obtain ⟨rfl, x11, rfl, hw11⟩ := hp11
        have hw := hw11
        refine pm_blk hK zmm289 [] 2 36 [(2, 205), (0, x11)] [(2, 205)] μ [] rfl trivial ?_
        refine pm_call hK zmm289 (223, 0, 139, 0) zM139 (2, 44) [(2, 205)] [] rfl rfl rfl rfl ⟨by omega, by rw [zn139]; omega⟩ (zt_reads hK hT (zMs_sp hx hm hjn) hb205 ⟨Nat.le_refl _, Nat.le_refl _⟩) (fun st12 μc12 hp12 => ?_)
        obtain ⟨rfl, hTc12, hr12⟩ := hp12
        have hm := zMs_rd hx hm hjn hr12
        have hF := zMq_tr hF (zMq_r (zMr_fr hr12.1))
        have hx := zMx_f hx (zMf_fr hr12.1)
        have h25 := hr12.1.2 25 (by decide) (by decide) (by decide) (by decide)
        have h218 := hr12.1.1 218 (by decide)
        have h219 := hr12.1.1 219 (by decide)
        have hLp := zRe_fr hLp h218 h219 h25
        have hk := zMs_k hx hm
        obtain ⟨t1, t2, t3, t4⟩ := id hm
        obtain ⟨v1, v2, v3, v4, v5⟩ := id t3
        refine pm_blk hK zmm289 [] 1 40 [(2, 205), (0, x11)] [(0, x11)] μc12 [] rfl trivial ?_
        refine pm_if hK zmm289 .ne 17 57 rfl rfl (fun h11 => ?_) (fun h11 => ?_)
        · have h11 : x11 ≠ (0 : Int) := h11
          refine pm_blk hK zmm289 [] 1 58 [(2, 205), (0, x11)] [(0, x11)] μc12 [] rfl trivial ?_
          refine pm_if hK zmm289 .ne 16 74 rfl rfl (fun h12 => ?_) (fun h12 => ?_)
          · have h12 : x11 ≠ (0 : Int) := h12
            refine pm_blk hK zmm289 [] 1 75 [(2, 205), (0, x11)] [(2, 205)] μc12 [] rfl trivial ?_
            refine pm_call hK zmm289 (226, 0, 290, 0) zM290 (3, 65) [(2, 205)] [] rfl rfl rfl rfl ⟨by omega, by rw [zn290]; omega⟩ (zn_unit hK (j := j + 1) (j1 := j + 2) hx hm (by omega) hTc12 (by omega) hb205 hb218 hb219 ⟨Nat.le_refl _, Nat.le_refl _⟩) (fun st13 μc13 hp13 => ?_)
            obtain ⟨x13, rfl, hTc13, hF13, hA13, hB13⟩ := hp13
            have hF := zMq_tr hF hF13
            have hx := zMx_f hx (zMf_q hF13)
            have hA := hA13
            have hB := hB13
            refine pm_blk hK zmm289 [] 1 79 [(2, 205), (0, x11)] [(0, (-1)), (0, x13)] μc13 [] rfl trivial ?_
            refine pm_icmp hK zmm289 .ne 5 84 rfl rfl (fun h13 => ?_) (fun h13 => ?_)
            · have h13 : x13 ≠ ((-1) : Int) := h13
              obtain ⟨-, hok, hm, hdu, hl9⟩ := hA (by omega)
              have hLp := zRe_tr hLp hdu
              have hV1 : K (j + 1) = 256 → 0 ≤ V (j + 1) := fun h9 => (zLex_V hx.1 (by omega) (by omega) h9).1
              refine pm_blk hK zmm289 [] 2 86 [(2, 205), (0, x11)] [(0, x11), (2, 205)] μc13 [] rfl trivial ?_
              refine pm_if hK zmm289 .eq 7 93 rfl rfl (fun h14 => ?_) (fun h14 => ?_)
              · have h14 : x11 = (0 : Int) := h14
                exact absurd h14 h12
              · have h14 : x11 ≠ (0 : Int) := h14
                refine pm_blk hK zmm289 [] 3 95 [(2, 205), (0, x11)] [(0, 0), (0, 4), (2, 205)] μc13 [] rfl trivial ?_
                refine pm_call hK zmm289 (219, 0, 292, 2) zM292 (0, 0) [(2, 205), (0, 4), (0, 0)] [] rfl rfl rfl rfl ⟨by omega, by rw [zn292]; omega⟩ (zh_emits hK (o := 4) (v := 0) hTc13 ⟨by omega, by omega⟩ ⟨by omega, by omega⟩ ⟨by omega, by omega⟩ hb205 hb218 hb219 ⟨Nat.le_refl _, Nat.le_refl _⟩) (fun st14 μc14 hp14 => ?_)
                obtain ⟨rfl, hTc14, hE14⟩ := hp14
                have hm := zMs_q hm hE14
                have hF := zMq_tr hF (zMq_e hE14)
                have hx := zMx_f hx (zMf_q (zMq_e hE14))
                obtain ⟨hdd, hl8⟩ := zRe_e hE14
                have hLp := zRe_tr hLp hdd
                refine pm_blk hK zmm289 [] 1 10 [(2, 205), (0, x11)] [] μc14 [] rfl trivial ?_
                refine pm_hide [1] ?_
                have hjl := hm.1
                first
                | (refine ih _ (by omega) (j := j + 2) rfl hm hx hF ⟨Lp ++ [zUc K V (j + 1), (4, 0)], by rw [zXp_tt _ (zUc_n K V (j + 1))]; exact hLp, fun m f q L h9 => ?_⟩ (by omega) hTc14
                   have h8 := hQ (m + 1) f q _ (Or.inr (Or.inr (Or.inl ⟨by omega, hok, L, h9, rfl⟩)))
                   simpa using h8)
                | (have h256 : K (j + 1) = 256 := by omega
                   rw [zUc_256 h256] at hLp
                   refine ih _ (by omega) (j := j + 2) rfl hm hx hF ⟨Lp ++ [(5, V (j + 1))], by rw [zXp_pp]; exact hLp, fun m f q L h9 => ?_⟩ (by omega) hTc14
                   have h8 := hQ (m + 1) f q _ (Or.inr (Or.inr (Or.inr (Or.inr (Or.inr ⟨by omega, h256, by have := hV1 h256; omega, L, h9, rfl⟩)))))
                   simpa using h8)
                | (exfalso; omega)
            · have h13 : x13 = ((-1) : Int) := h13
              refine pm_blk hK zmm289 [] 1 83 [(2, 205), (0, x11)] [(0, (-1))] μc13 [] rfl trivial ?_
              obtain ⟨f, f1, hff⟩ := hB (by omega)
              first
              | exact pm_iret rfl rfl ⟨_, f, j + 1, _, rfl, hTc13, hF, hQ 1 f (j + 1) [] (Or.inr (Or.inl ⟨by omega, f1.2, f1.1, rfl⟩)), Or.inr ⟨rfl, by omega, hff⟩⟩
              | exact absurd (show zUn (K (j + 1)) by omega) f1.2
              | (exfalso; omega)
          · have h12 : x11 = (0 : Int) := h12
            exact absurd h12 h11
        · have h11 : x11 = (0 : Int) := h11
          have f3 := zT_get hTc12 zs205_14 (i := 14) (by omega) (by omega)
          refine pm_blk hK zmm289 [] 3 48 [(2, 205), (0, x11)] [(0, 3), (0, μc12 205 14)] μc12 [] rfl trivial ?_
          refine pm_icmp hK zmm289 .eq 9 57 rfl rfl (fun h15 => ?_) (fun h15 => ?_)
          · have h15 : μc12 205 14 = (3 : Int) := h15
            refine pm_blk hK zmm289 [] 1 58 [(2, 205), (0, x11)] [(0, x11)] μc12 [] rfl trivial ?_
            refine pm_if hK zmm289 .ne 16 74 rfl rfl (fun h16 => ?_) (fun h16 => ?_)
            · have h16 : x11 ≠ (0 : Int) := h16
              exact absurd h11 h16
            · have h16 : x11 = (0 : Int) := h16
              have f4 := zT_get hTc12 zs205_15 (i := 15) (by omega) (by omega)
              refine pm_blk hK zmm289 [] 2 65 [(2, 205), (0, x11)] [(0, μc12 205 15)] μc12 [] rfl trivial ?_
              refine pm_if hK zmm289 .ne 9 74 rfl rfl (fun h17 => ?_) (fun h17 => ?_)
              · have h17 : μc12 205 15 ≠ (0 : Int) := h17
                refine pm_blk hK zmm289 [] 1 75 [(2, 205), (0, x11)] [(2, 205)] μc12 [] rfl trivial ?_
                refine pm_call hK zmm289 (226, 0, 290, 0) zM290 (3, 65) [(2, 205)] [] rfl rfl rfl rfl ⟨by omega, by rw [zn290]; omega⟩ (zn_unit hK (j := j + 1) (j1 := j + 2) hx hm (by omega) hTc12 (by omega) hb205 hb218 hb219 ⟨Nat.le_refl _, Nat.le_refl _⟩) (fun st15 μc15 hp15 => ?_)
                obtain ⟨x15, rfl, hTc15, hF15, hA15, hB15⟩ := hp15
                have hF := zMq_tr hF hF15
                have hx := zMx_f hx (zMf_q hF15)
                have hA := hA15
                have hB := hB15
                refine pm_blk hK zmm289 [] 1 79 [(2, 205), (0, x11)] [(0, (-1)), (0, x15)] μc15 [] rfl trivial ?_
                refine pm_icmp hK zmm289 .ne 5 84 rfl rfl (fun h18 => ?_) (fun h18 => ?_)
                · have h18 : x15 ≠ ((-1) : Int) := h18
                  obtain ⟨-, hok, hm, hdu, hl9⟩ := hA (by omega)
                  have hLp := zRe_tr hLp hdu
                  have hV1 : K (j + 1) = 256 → 0 ≤ V (j + 1) := fun h9 => (zLex_V hx.1 (by omega) (by omega) h9).1
                  refine pm_blk hK zmm289 [] 2 86 [(2, 205), (0, x11)] [(0, x11), (2, 205)] μc15 [] rfl trivial ?_
                  refine pm_if hK zmm289 .eq 7 93 rfl rfl (fun h19 => ?_) (fun h19 => ?_)
                  · have h19 : x11 = (0 : Int) := h19
                    refine pm_blk hK zmm289 [] 2 95 [(2, 205), (0, x11)] [(0, 0), (0, 5), (2, 205)] μc15 [] rfl trivial ?_
                    refine pm_call hK zmm289 (219, 0, 292, 2) zM292 (0, 0) [(2, 205), (0, 5), (0, 0)] [] rfl rfl rfl rfl ⟨by omega, by rw [zn292]; omega⟩ (zh_emits hK (o := 5) (v := 0) hTc15 ⟨by omega, by omega⟩ ⟨by omega, by omega⟩ ⟨by omega, by omega⟩ hb205 hb218 hb219 ⟨Nat.le_refl _, Nat.le_refl _⟩) (fun st16 μc16 hp16 => ?_)
                    obtain ⟨rfl, hTc16, hE16⟩ := hp16
                    have hm := zMs_q hm hE16
                    have hF := zMq_tr hF (zMq_e hE16)
                    have hx := zMx_f hx (zMf_q (zMq_e hE16))
                    obtain ⟨hdd, hl8⟩ := zRe_e hE16
                    have hLp := zRe_tr hLp hdd
                    refine pm_blk hK zmm289 [] 1 10 [(2, 205), (0, x11)] [] μc16 [] rfl trivial ?_
                    refine pm_hide [1] ?_
                    have hjl := hm.1
                    first
                    | (refine ih _ (by omega) (j := j + 2) rfl hm hx hF ⟨Lp ++ [zUc K V (j + 1), (4, 0)], by rw [zXp_tt _ (zUc_n K V (j + 1))]; exact hLp, fun m f q L h9 => ?_⟩ (by omega) hTc16
                       have h8 := hQ (m + 1) f q _ (Or.inr (Or.inr (Or.inl ⟨by omega, hok, L, h9, rfl⟩)))
                       simpa using h8)
                    | (have h256 : K (j + 1) = 256 := by omega
                       rw [zUc_256 h256] at hLp
                       refine ih _ (by omega) (j := j + 2) rfl hm hx hF ⟨Lp ++ [(5, V (j + 1))], by rw [zXp_pp]; exact hLp, fun m f q L h9 => ?_⟩ (by omega) hTc16
                       have h8 := hQ (m + 1) f q _ (Or.inr (Or.inr (Or.inr (Or.inr (Or.inr ⟨by omega, h256, by have := hV1 h256; omega, L, h9, rfl⟩)))))
                       simpa using h8)
                    | (exfalso; omega)
                  · have h19 : x11 ≠ (0 : Int) := h19
                    exact absurd h16 h19
                · have h18 : x15 = ((-1) : Int) := h18
                  refine pm_blk hK zmm289 [] 1 83 [(2, 205), (0, x11)] [(0, (-1))] μc15 [] rfl trivial ?_
                  obtain ⟨f, f1, hff⟩ := hB (by omega)
                  first
                  | exact pm_iret rfl rfl ⟨_, f, j + 1, _, rfl, hTc15, hF, hQ 1 f (j + 1) [] (Or.inr (Or.inl ⟨by omega, f1.2, f1.1, rfl⟩)), Or.inr ⟨rfl, by omega, hff⟩⟩
                  | exact absurd (show zUn (K (j + 1)) by omega) f1.2
                  | (exfalso; omega)
              · have h17 : μc12 205 15 = (0 : Int) := h17
                refine pm_blk hK zmm289 [] 2 70 [(2, 205), (0, x11)] [(0, 2), (2, 205)] μc12 [] rfl trivial ?_
                refine pm_call hK zmm289 (216, 0, 278, 1) zM278 (0, 0) [(2, 205), (0, 2)] [] rfl rfl rfl rfl ⟨by omega, by rw [zn278]; omega⟩ (zm_errs hK (j := (j + 1)) hx hm hTc12 ⟨by omega, by omega⟩ hb205 ⟨Nat.le_refl _, Nat.le_refl _⟩) (fun st17 μc17 hp17 => ?_)
                obtain ⟨rfl, hTc17, hF17, hf17⟩ := hp17
                have hF := zMq_tr hF (zMq_r hF17)
                have hff := hf17
                exact pm_iret rfl rfl ⟨_, 2, j + 1, _, rfl, hTc17, hF, hQ 1 2 (j + 1) [] (Or.inr (Or.inr (Or.inr (Or.inr (Or.inl ⟨by omega, by omega, by omega, rfl, rfl⟩))))), Or.inr ⟨rfl, by decide, hff⟩⟩
          · have h15 : μc12 205 14 ≠ (3 : Int) := h15
            refine pm_blk hK zmm289 [] 2 53 [(2, 205), (0, x11)] [(0, 1), (2, 205)] μc12 [] rfl trivial ?_
            refine pm_call hK zmm289 (216, 0, 278, 1) zM278 (0, 0) [(2, 205), (0, 1)] [] rfl rfl rfl rfl ⟨by omega, by rw [zn278]; omega⟩ (zm_errs hK (j := (j + 1)) hx hm hTc12 ⟨by omega, by omega⟩ hb205 ⟨Nat.le_refl _, Nat.le_refl _⟩) (fun st18 μc18 hp18 => ?_)
            obtain ⟨rfl, hTc18, hF18, hf18⟩ := hp18
            have hF := zMq_tr hF (zMq_r hF18)
            have hff := hf18
            exact pm_iret rfl rfl ⟨_, 1, j + 1, _, rfl, hTc18, hF, hQ 1 1 (j + 1) [] (Or.inr (Or.inr (Or.inr (Or.inl ⟨by omega, by omega, rfl, rfl⟩)))), Or.inr ⟨rfl, by decide, hff⟩⟩
set_option maxRecDepth 100000 in
theorem zn_prod (hK : zKK ST) {T : Int → Int} {L : Int} {K S V : Int → Int} {N j : Int} {P : Nat → Int} (hx : zMx T L K S V N P μ) (hm : zMs K S V N P j μ) (hT : zTJ φ μ) (hcl : μ 205 25 ≤ j) (hb205 : sx_bit Wm 205 = true) (hb218 : sx_bit Wm 218 = true) (hb219 : sx_bit Wm 219 = true) (hbd : 4 ≤ bud.1 ∧ 86 ≤ bud.2.1) : zC D Wm ST b0 l Sg zM289 bud [(2, 205)] μ (fun st' μ' => ∃ x f q LL, st' = [(0, x)] ∧ zTJ φ μ' ∧ zMq μ μ' ∧ zPro K V j f q LL ∧ ((x ≠ -1 ∧ f = 0 ∧ zMs K S V N P q μ' ∧ zRe μ μ' (zXp LL) ∧ μ' 205 25 + j ≤ μ 205 25 + q) ∨ (x = -1 ∧ f ≠ 0 ∧ zFm S f q μ'))) := by
  have hF : zMq μ μ := zMq_0
  have hk := zMs_k hx hm
  obtain ⟨t1, t2, t3, t4⟩ := id hm
  obtain ⟨v1, v2, v3, v4, v5⟩ := id t3
  have hnL := hx.1.1
  have h11 := hx.2.2
  have f11 := zT_get hT zs205_11 (i := 11) (by omega) (by omega)
  have f25 := zT_get hT zs205_25 (i := 25) (by omega) (by omega)
  refine pm_blk hK zmm289 [] 1 1 [(2, 205), (9, 0)] [(2, 205)] μ [] rfl trivial ?_
  refine pm_call hK zmm289 (226, 0, 290, 0) zM290 (3, 65) [(2, 205)] [] rfl rfl rfl rfl ⟨by omega, by rw [zn290]; omega⟩ (zn_unit hK (j := j) (j1 := j + 1) hx hm (by omega) hT (by omega) hb205 hb218 hb219 ⟨Nat.le_refl _, Nat.le_refl _⟩) (fun st1 μc1 hp1 => ?_)
  obtain ⟨x1, rfl, hTc1, hF1, hA1, hB1⟩ := hp1
  have hF := zMq_tr hF hF1
  have hx := zMx_f hx (zMf_q hF1)
  have hA := hA1
  have hB := hB1
  refine pm_blk hK zmm289 [] 1 5 [(2, 205), (9, 0)] [(0, (-1)), (0, x1)] μc1 [] rfl trivial ?_
  refine pm_icmp hK zmm289 .ne 5 10 rfl rfl (fun h0 => ?_) (fun h0 => ?_)
  · have h0 : x1 ≠ ((-1) : Int) := h0
    obtain ⟨-, hok, hm, hdu, hl9⟩ := hA (by omega)
    exact zn_pl hK (μ0 := μ) (j0 := j) hcl hb205 hb218 hb219 hbd _ (j := j + 1) rfl hm hx hF ⟨[zUc K V j], by rw [zXp_1 (zUc_n K V j)]; exact hdu, fun m f q L h9 => Or.inr ⟨hok, m, L, h9, rfl⟩⟩ (by omega) hTc1
  · have h0 : x1 = ((-1) : Int) := h0
    refine pm_blk hK zmm289 [] 1 9 [(2, 205), (9, 0)] [(0, (-1))] μc1 [] rfl trivial ?_
    obtain ⟨f, f1, hff⟩ := hB (by omega)
    exact pm_iret rfl rfl ⟨_, f, j, [], rfl, hTc1, hF, Or.inl ⟨f1.2, f1.1, rfl⟩, Or.inr ⟨rfl, by omega, hff⟩⟩
end ZHW
