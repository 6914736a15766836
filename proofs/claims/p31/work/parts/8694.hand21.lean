/-! a condition is read; walks printed by program (wip/p30/pmgen.py) and filled by hand -/
section ZHW
variable {D : va_G} {Wm : Nat} {ST : List (String × String × String × Nat)} {b0 : sx_B} {l : Launch} {Sg : Nat → Option Nat} {bud : sx_Bu} {μ : pm_Mem} {B0 : Nat → Prop} {J : (Nat → Option Nat) → Heap → Prop}
set_option maxRecDepth 100000 in
theorem zl_ra (hK : zKK ST)  {μ0 : pm_Mem} {w : Int} (hw0 : 0 ≤ w) (hb205 : sx_bit Wm 205 = true) (hb218 : sx_bit Wm 218 = true) (hb219 : sx_bit Wm 219 = true) (hb220 : sx_bit Wm 220 = true) (hbd : 7 ≤ bud.1 ∧ 149 ≤ bud.2.1) : ∀ (n : Nat) {q t : Int} {μ : pm_Mem}, (2 * (400 - μ 205 13) + t).toNat = n → ∀ (m : Nat) (ht : t = 0 ∨ t = 1) (hA : zAn μ0 μ w q t m) (h9 : t = 0 → zNt (μ 220) m 9) (h13 : μ0 205 13 ≤ μ 205 13), zW D Wm ST b0 l Sg zM293 bud (pm_X zM293 (fun st' μ' => ∃ x, st' = [(0, x)] ∧ -1 ≤ x ∧ x ≤ 0 ∧ zTJ μ' ∧ (x ≠ -1 → zOA μ0 μ' w ∧ μ' 205 26 = 0))) 9 [(2, 205), (0, q), (0, t), (9, 0)] [] μ := by
  intro n
  induction n using Nat.strongRecOn with
  | ind n ih =>
    intro q t μ hn m ht hA h9 h13
    have hT := hA.1
    have hRd := hA.2.1
    have hR0 := hRd
    obtain ⟨r1, r2, r3, r4, r5, r6, -⟩ := hR0
    have a28 := hA.2.2.1
    have a26 := hA.2.2.2.1
    have a25 := hA.2.2.2.2.2.2.1
    have b28 := zAn_28 hA
    have f26 := zT_get hT zs205_26 (i := 26) (by omega) (by omega)
    have hqq := hA.2.2.2.2.2.1
    obtain ⟨qb1, qb2, qb3, -⟩ := zP_bd hA.2.2.2.2.1
    have bdA := zAn_bd hA hw0
    refine pm_blk hK zmm293 [] 1 10 [(2, 205), (0, q), (0, t), (9, 0)] [(0, t)] μ [] rfl trivial ?_
    refine pm_if hK zmm293 .eq 99 109 rfl rfl (fun h0 => ?_) (fun h0 => ?_)
    · have h0 : t = (0 : Int) := h0
      have hA0 : zAn μ0 μ w q 0 m := (show t = 0 by omega) ▸ hA
      have h9a := h9 (by omega)
      refine pm_blk hK zmm293 [] 2 111 [(2, 205), (0, q), (0, t), (9, 0)] [(0, 5), (2, 205)] μ [] rfl trivial ?_
      refine pm_call hK zmm293 (245, 0, 142, 1) zM142 (0, 0) [(2, 205), (0, 5)] [] rfl rfl rfl rfl ⟨by omega, by rw [zn142]; omega⟩ (zh_isWord hK (c := 5) ⟨Nat.le_refl _, Nat.le_refl _⟩) (fun st1 μc1 hp1 => ?_)
      obtain ⟨rfl, x1, rfl, hx1a, hx1b, hx1c⟩ := hp1
      refine pm_if hK zmm293 .eq 24 138 rfl rfl (fun h1 => ?_) (fun h1 => ?_)
      · have h1 : x1 = (0 : Int) := h1
        refine pm_blk hK zmm293 [] 2 140 [(2, 205), (0, q), (0, t), (9, 0)] [(0, 4), (2, 205)] μ [] rfl trivial ?_
        refine pm_call hK zmm293 (245, 0, 142, 1) zM142 (0, 0) [(2, 205), (0, 4)] [] rfl rfl rfl rfl ⟨by omega, by rw [zn142]; omega⟩ (zh_isWord hK (c := 4) ⟨Nat.le_refl _, Nat.le_refl _⟩) (fun st2 μc2 hp2 => ?_)
        obtain ⟨rfl, x2, rfl, hx2a, hx2b, hx2c⟩ := hp2
        refine pm_if hK zmm293 .eq 30 173 rfl rfl (fun h2 => ?_) (fun h2 => ?_)
        · have h2 : x2 = (0 : Int) := h2
          refine pm_blk hK zmm293 [] 2 176 [(2, 205), (0, q), (0, t), (9, 0)] [(0, 10), (2, 205)] μ [] rfl trivial ?_
          have bdE := zAn_bd hA0 hw0
          refine pm_call hK zmm293 (254, 0, 296, 1) zM296 (1, 22) [(2, 205), (0, 10)] [] rfl rfl rfl rfl ⟨by omega, by rw [zn296]; omega⟩ (zh_settles hK (o := 10) (n0 := m) hT hA0.2.2.1 hA0.2.2.2.1 hA0.2.2.2.2.1 (by decide) bdE hb205 hb218 hb219 ⟨Nat.le_refl _, Nat.le_refl _⟩) (fun st3 μc3 hp3 => ?_)
          obtain ⟨rfl, hTc3, nE, hsE, htE⟩ := hp3
          have htE := zNt_mk htE
          have hVE := zAn_set hA0 hTc3 hsE
          have hsE_12 := hsE.2.2.2.2.2.1.2 12 (by decide) (by decide) (by decide)
          have hsE_13 := hsE.2.2.2.2.2.1.2 13 (by decide) (by decide) (by decide)
          have hsE_14 := hsE.2.2.2.2.2.1.2 14 (by decide) (by decide) (by decide)
          have hsE_15 := hsE.2.2.2.2.2.1.2 15 (by decide) (by decide) (by decide)
          have hsE_p := hsE.2.2.2.2.2.1.1 220 (by decide) (by decide) (by decide)
          have topE := zIt2_mk (zTp10 hA.2.2.2.2.1 h9a hsE htE)
          rw [← hsE_p] at topE
          refine pm_blk hK zmm293 [] 2 182 [(2, 205), (0, q), (0, t), (9, 0)] [(0, 11), (2, 205)] μc3 [] rfl trivial ?_
          have bdF := zAn_bd hVE hw0
          refine pm_call hK zmm293 (254, 0, 296, 1) zM296 (1, 22) [(2, 205), (0, 11)] [] rfl rfl rfl rfl ⟨by omega, by rw [zn296]; omega⟩ (zh_settles hK (o := 11) (n0 := nE) hTc3 hVE.2.2.1 hVE.2.2.2.1 hVE.2.2.2.2.1 (by decide) bdF hb205 hb218 hb219 ⟨Nat.le_refl _, Nat.le_refl _⟩) (fun st4 μc4 hp4 => ?_)
          obtain ⟨rfl, hTc4, nF, hsF, htF⟩ := hp4
          have htF := zNt_mk htF
          have hVF := zAn_set hVE hTc4 hsF
          have hsF_12 := hsF.2.2.2.2.2.1.2 12 (by decide) (by decide) (by decide)
          have hsF_13 := hsF.2.2.2.2.2.1.2 13 (by decide) (by decide) (by decide)
          have hsF_14 := hsF.2.2.2.2.2.1.2 14 (by decide) (by decide) (by decide)
          have hsF_15 := hsF.2.2.2.2.2.1.2 15 (by decide) (by decide) (by decide)
          have hsF_p := hsF.2.2.2.2.2.1.1 220 (by decide) (by decide) (by decide)
          have topF := zIt1_mk (zTp11 topE hsF htF)
          rw [← hsF_p] at topF
          refine pm_blk hK zmm293 [] 1 186 [(2, 205), (0, q), (0, t), (9, 0)] [(0, q)] μc4 [] rfl trivial ?_
          refine pm_if hK zmm293 .ne 5 191 rfl rfl (fun h3 => ?_) (fun h3 => ?_)
          · have h3 : q ≠ (0 : Int) := h3
            have hq6 := hVF.2.2.2.2.2.1
            obtain ⟨kk, hkk⟩ : ∃ k, nF = k + 1 := by
              cases hn : nF with
              | zero => rw [hn] at hq6; exact absurd hq6 h3
              | succ k => exact ⟨k, rfl⟩
            subst hkk
            have hp12 : μc4 220 (kk : Int) = 12 := zIt1_12 topF
            have g28 := hVF.2.2.1
            have g26 := hVF.2.2.2.1
            have goo := zPo_s (μc4 220) kk
            rw [hp12, if_pos (by decide)] at goo
            obtain ⟨gb1, gb2, gb3, gb4, gb5, -⟩ := zP_bd hVF.2.2.2.2.1.1
            have gqq := zPq_s (μc4 220) kk
            rw [hp12, if_pos rfl] at gqq
            refine pm_blk hK zmm293 [] 2 194 [(2, 205), (0, q), (0, t), (9, 0)] [(0, 41), (2, 205)] μc4 [] rfl trivial ?_
            refine pm_call hK zmm293 (230, 0, 283, 1) zM283 (0, 0) [(2, 205), (0, 41)] [] rfl rfl rfl rfl ⟨by omega, by rw [zn283]; omega⟩ (zh_isSign hK (c := 41) ⟨Nat.le_refl _, Nat.le_refl _⟩) (fun st5 μc5 hp5 => ?_)
            obtain ⟨rfl, x5, rfl, hx5a, hx5b, hx5c⟩ := hp5
            refine pm_if hK zmm293 .ne 9 206 rfl rfl (fun h4 => ?_) (fun h4 => ?_)
            · have h4 : x5 ≠ (0 : Int) := h4
              have hadv : μ 205 13 < μ 205 12 := by omega
              clear r6
              try clear hx1c
              try clear hx2c
              try clear hx3c
              try clear hx4c
              try clear hx5c
              try clear hx6c
              try clear hx7c
              try clear hx8c
              have f1 := zT_get hTc4 zs205_28 (i := 28) (by omega) (by omega)
              refine pm_blk hK zmm293 [] 6 216 [(2, 205), (0, q), (0, t), (9, 0)] [] (pm_up μc4 205 28 ((μc4 205 28) - 1)) [pm_in ((μc4 205 28) - 1), sx_bit Wm 205 = true] rfl ⟨pm_in_mk (by omega) (by omega), hb205, trivial⟩ ?_
              obtain ⟨μ1, eμ1⟩ : ∃ μ', μ' = pm_up μc4 205 28 ((μc4 205 28) - 1) := ⟨_, rfl⟩
              rw [← eμ1]
              have hTμ1 : zTJ μ1 := by rw [eμ1]; exact zT_up hTc4 zs205_28 rfl (i := 28) (by omega) (by omega) (by omega) (by omega)
              have c26 : μ1 205 26 = μc4 205 26 := by rw [eμ1, pm_up_ne (by decide)]
              have c12 : μ1 205 12 = μc4 205 12 := by rw [eμ1, pm_up_ne (by decide)]
              have c13 : μ1 205 13 = μc4 205 13 := by rw [eμ1, pm_up_ne (by decide)]
              have f2 := zT_get hTμ1 zs205_26 (i := 26) (by omega) (by omega)
              refine pm_blk hK zmm293 [] 10 230 [(2, 205), (0, q - 1), (0, t), (9, 0)] [] (pm_up μ1 205 26 ((μ1 205 26) - 1)) [pm_in (q - 1), pm_in ((μ1 205 26) - 1), sx_bit Wm 205 = true] rfl ⟨pm_in_mk (by omega) (by omega), pm_in_mk (by omega) (by omega), hb205, trivial⟩ ?_
              obtain ⟨μ2, eμ2⟩ : ∃ μ', μ' = pm_up μ1 205 26 ((μ1 205 26) - 1) := ⟨_, rfl⟩
              rw [← eμ2]
              have hTμ2 : zTJ μ2 := by rw [eμ2]; exact zT_up hTμ1 zs205_26 rfl (i := 26) (by omega) (by omega) (by omega) (by omega)
              have hVG := zAn_close hVF hp12 eμ1 (by omega) eμ2 (by omega) hTμ2
              have d12 : μ2 205 12 = μ1 205 12 := by rw [eμ2, pm_up_ne (by decide)]
              have d13 : μ2 205 13 = μ1 205 13 := by rw [eμ2, pm_up_ne (by decide)]
              refine pm_blk hK zmm293 [] 2 233 [(2, 205), (0, q - 1), (0, t), (9, 0)] [(0, 9), (2, 205)] μ2 [] rfl trivial ?_
              have bdH := zAn_bd hVG hw0
              refine pm_call hK zmm293 (254, 0, 296, 1) zM296 (1, 22) [(2, 205), (0, 9)] [] rfl rfl rfl rfl ⟨by omega, by rw [zn296]; omega⟩ (zh_settles hK (o := 9) (n0 := kk) hTμ2 hVG.2.2.1 hVG.2.2.2.1 hVG.2.2.2.2.1 (by decide) bdH hb205 hb218 hb219 ⟨Nat.le_refl _, Nat.le_refl _⟩) (fun st6 μc6 hp6 => ?_)
              obtain ⟨rfl, hTc6, nH, hsH, htH⟩ := hp6
              have htH := zNt_mk htH
              have hVH := zAn_set hVG hTc6 hsH
              have hsH_12 := hsH.2.2.2.2.2.1.2 12 (by decide) (by decide) (by decide)
              have hsH_13 := hsH.2.2.2.2.2.1.2 13 (by decide) (by decide) (by decide)
              have hsH_14 := hsH.2.2.2.2.2.1.2 14 (by decide) (by decide) (by decide)
              have hsH_15 := hsH.2.2.2.2.2.1.2 15 (by decide) (by decide) (by decide)
              have hsH_p := hsH.2.2.2.2.2.1.1 220 (by decide) (by decide) (by decide)
              refine pm_blk hK zmm293 [] 1 237 [(2, 205), (0, q - 1), (0, t), (9, 0)] [(2, 205)] μc6 [] rfl trivial ?_
              refine pm_call hK zmm293 (223, 0, 139, 0) zM139 (2, 44) [(2, 205)] [] rfl rfl rfl rfl ⟨by omega, by rw [zn139]; omega⟩ (zh_reads hK hTc6 hb205 ⟨Nat.le_refl _, Nat.le_refl _⟩) (fun st7 μc7 hp7 => ?_)
              obtain ⟨rfl, hTc7, hF7, hS7, hR7⟩ := hp7
              have hF := hF7
              have hS := hS7
              have hR := hR7
              refine pm_blk hK zmm293 [] 1 9 [(2, 205), (0, q - 1), (0, t), (9, 0)] [] μc7 [] rfl trivial ?_
              have hZ : zAn μ0 μc7 w (q - 1) t nH := by rw [show t = 0 by omega]; exact zAn_reads hVH hTc7 hF hS hR
              exact ih _ (by omega) (q := q - 1) (t := t) rfl nH ht hZ (fun _ => by rw [hF.1 220 (by decide), hsH_p]; exact htH) (by omega)
            · have h4 : x5 = (0 : Int) := h4
              refine pm_blk hK zmm293 [] 2 202 [(2, 205), (0, q), (0, t), (9, 0)] [(0, 1), (2, 205)] μc4 [] rfl trivial ?_
              refine pm_call hK zmm293 (216, 0, 278, 1) zM278 (0, 0) [(2, 205), (0, 1)] [] rfl rfl rfl rfl ⟨by omega, by rw [zn278]; omega⟩ (zh_errs hK (k := 1) hTc4 ⟨by omega, by omega⟩ hb205 ⟨Nat.le_refl _, Nat.le_refl _⟩) (fun st8 μc8 hp8 => ?_)
              obtain ⟨rfl, hTc8⟩ := hp8
              exact pm_iret rfl rfl ⟨_, rfl, by omega, by omega, hTc8, fun h => absurd rfl h⟩
          · have h3 : q = (0 : Int) := h3
            refine pm_blk hK zmm293 [] 1 190 [(2, 205), (0, q), (0, t), (9, 0)] [(0, 0)] μc4 [] rfl trivial ?_
            exact pm_iret rfl rfl ⟨_, rfl, by omega, by omega, hTc4, fun _ => ⟨zAn_end hVF (by omega), zAn_open0 hVF topF h3⟩⟩
        · have h2 : x2 ≠ (0 : Int) := h2
          refine pm_blk hK zmm293 [] 2 149 [(2, 205), (0, q), (0, t), (9, 0)] [(0, 10), (2, 205)] μ [] rfl trivial ?_
          have bdC := zAn_bd hA0 hw0
          refine pm_call hK zmm293 (254, 0, 296, 1) zM296 (1, 22) [(2, 205), (0, 10)] [] rfl rfl rfl rfl ⟨by omega, by rw [zn296]; omega⟩ (zh_settles hK (o := 10) (n0 := m) hT hA0.2.2.1 hA0.2.2.2.1 hA0.2.2.2.2.1 (by decide) bdC hb205 hb218 hb219 ⟨Nat.le_refl _, Nat.le_refl _⟩) (fun st9 μc9 hp9 => ?_)
          obtain ⟨rfl, hTc9, nC, hsC, htC⟩ := hp9
          have htC := zNt_mk htC
          have hVC := zAn_set hA0 hTc9 hsC
          have hsC_12 := hsC.2.2.2.2.2.1.2 12 (by decide) (by decide) (by decide)
          have hsC_13 := hsC.2.2.2.2.2.1.2 13 (by decide) (by decide) (by decide)
          have hsC_14 := hsC.2.2.2.2.2.1.2 14 (by decide) (by decide) (by decide)
          have hsC_15 := hsC.2.2.2.2.2.1.2 15 (by decide) (by decide) (by decide)
          have hsC_p := hsC.2.2.2.2.2.1.1 220 (by decide) (by decide) (by decide)
          have topC := zIt2_mk (zTp10 hA.2.2.2.2.1 h9a hsC htC)
          rw [← hsC_p] at topC
          refine pm_blk hK zmm293 [] 2 155 [(2, 205), (0, q), (0, t), (9, 0)] [(0, 11), (2, 205)] μc9 [] rfl trivial ?_
          have bdD := zAn_bd hVC hw0
          refine pm_call hK zmm293 (254, 0, 296, 1) zM296 (1, 22) [(2, 205), (0, 11)] [] rfl rfl rfl rfl ⟨by omega, by rw [zn296]; omega⟩ (zh_settles hK (o := 11) (n0 := nC) hTc9 hVC.2.2.1 hVC.2.2.2.1 hVC.2.2.2.2.1 (by decide) bdD hb205 hb218 hb219 ⟨Nat.le_refl _, Nat.le_refl _⟩) (fun st10 μc10 hp10 => ?_)
          obtain ⟨rfl, hTc10, nD, hsD, htD⟩ := hp10
          have htD := zNt_mk htD
          have hVD := zAn_set hVC hTc10 hsD
          have hsD_12 := hsD.2.2.2.2.2.1.2 12 (by decide) (by decide) (by decide)
          have hsD_13 := hsD.2.2.2.2.2.1.2 13 (by decide) (by decide) (by decide)
          have hsD_14 := hsD.2.2.2.2.2.1.2 14 (by decide) (by decide) (by decide)
          have hsD_15 := hsD.2.2.2.2.2.1.2 15 (by decide) (by decide) (by decide)
          have hsD_p := hsD.2.2.2.2.2.1.1 220 (by decide) (by decide) (by decide)
          have topD := zIt1_mk (zTp11 topC hsD htD)
          rw [← hsD_p] at topD
          refine pm_blk hK zmm293 [] 2 161 [(2, 205), (0, q), (0, t), (9, 0)] [(0, 11), (2, 205)] μc10 [] rfl trivial ?_
          have w28 := zAn_28 hVD
          have w28e := hVD.2.2.1
          have wadv := zAn_adv hVD (by omega)
          have wcod := hVD.2.2.2.2.2.2.1
          try clear hx1c
          try clear hx2c
          try clear hx3c
          try clear hx4c
          try clear hx5c
          try clear hx6c
          try clear hx7c
          try clear hx8c
          clear r6
          refine pm_call hK zmm293 (248, 0, 294, 1) zM294 (0, 0) [(2, 205), (0, 11)] [] rfl rfl rfl rfl ⟨by omega, by rw [zn294]; omega⟩ (zh_waits hK (v := 11) hTc10 ⟨by omega, by omega⟩ ⟨by omega, by omega⟩ hb205 hb220 ⟨Nat.le_refl _, Nat.le_refl _⟩) (fun st11 μc11 hp11 => ?_)
          obtain ⟨rfl, hTc11, μw11, hwa11, hwb11⟩ := hp11
          have hwa := hwa11
          have hwb := hwb11
          rw [w28e] at hwa hwb
          have w12 : μc11 205 12 = μ 205 12 := by rw [hwb, pm_up_ne (by decide), hwa, pm_up_off (by decide)]; omega
          refine pm_blk hK zmm293 [] 1 165 [(2, 205), (0, q), (0, t), (9, 0)] [(2, 205)] μc11 [] rfl trivial ?_
          refine pm_call hK zmm293 (223, 0, 139, 0) zM139 (2, 44) [(2, 205)] [] rfl rfl rfl rfl ⟨by omega, by rw [zn139]; omega⟩ (zh_reads hK hTc11 hb205 ⟨Nat.le_refl _, Nat.le_refl _⟩) (fun st12 μc12 hp12 => ?_)
          obtain ⟨rfl, hTc12, hF12, hS12, hR12⟩ := hp12
          have hF := hF12
          have hS := hS12
          have hR := hR12
          refine pm_blk hK zmm293 [] 3 9 [(2, 205), (0, q), (0, 1), (9, 0)] [] μc12 [] rfl trivial ?_
          exact ih _ (by omega) (q := q) (t := 1) rfl (nD + 1) (Or.inr rfl) (zAn_wait hVD hTc11 hwa hwb (by omega) (Or.inr ⟨rfl, rfl, topD⟩) hTc12 hF hS hR wadv) (fun h => absurd h (by decide)) (by omega)
      · have h1 : x1 ≠ (0 : Int) := h1
        refine pm_blk hK zmm293 [] 2 120 [(2, 205), (0, q), (0, t), (9, 0)] [(0, 10), (2, 205)] μ [] rfl trivial ?_
        have bdB := zAn_bd hA0 hw0
        refine pm_call hK zmm293 (254, 0, 296, 1) zM296 (1, 22) [(2, 205), (0, 10)] [] rfl rfl rfl rfl ⟨by omega, by rw [zn296]; omega⟩ (zh_settles hK (o := 10) (n0 := m) hT hA0.2.2.1 hA0.2.2.2.1 hA0.2.2.2.2.1 (by decide) bdB hb205 hb218 hb219 ⟨Nat.le_refl _, Nat.le_refl _⟩) (fun st13 μc13 hp13 => ?_)
        obtain ⟨rfl, hTc13, nB, hsB, htB⟩ := hp13
        have htB := zNt_mk htB
        have hVB := zAn_set hA0 hTc13 hsB
        have hsB_12 := hsB.2.2.2.2.2.1.2 12 (by decide) (by decide) (by decide)
        have hsB_13 := hsB.2.2.2.2.2.1.2 13 (by decide) (by decide) (by decide)
        have hsB_14 := hsB.2.2.2.2.2.1.2 14 (by decide) (by decide) (by decide)
        have hsB_15 := hsB.2.2.2.2.2.1.2 15 (by decide) (by decide) (by decide)
        have hsB_p := hsB.2.2.2.2.2.1.1 220 (by decide) (by decide) (by decide)
        have topB := zIt2_mk (zTp10 hA.2.2.2.2.1 h9a hsB htB)
        rw [← hsB_p] at topB
        refine pm_blk hK zmm293 [] 2 126 [(2, 205), (0, q), (0, t), (9, 0)] [(0, 10), (2, 205)] μc13 [] rfl trivial ?_
        have w28 := zAn_28 hVB
        have w28e := hVB.2.2.1
        have wadv := zAn_adv hVB (by omega)
        have wcod := hVB.2.2.2.2.2.2.1
        try clear hx1c
        try clear hx2c
        try clear hx3c
        try clear hx4c
        try clear hx5c
        try clear hx6c
        try clear hx7c
        try clear hx8c
        clear r6
        refine pm_call hK zmm293 (248, 0, 294, 1) zM294 (0, 0) [(2, 205), (0, 10)] [] rfl rfl rfl rfl ⟨by omega, by rw [zn294]; omega⟩ (zh_waits hK (v := 10) hTc13 ⟨by omega, by omega⟩ ⟨by omega, by omega⟩ hb205 hb220 ⟨Nat.le_refl _, Nat.le_refl _⟩) (fun st14 μc14 hp14 => ?_)
        obtain ⟨rfl, hTc14, μw14, hwa14, hwb14⟩ := hp14
        have hwa := hwa14
        have hwb := hwb14
        rw [w28e] at hwa hwb
        have w12 : μc14 205 12 = μ 205 12 := by rw [hwb, pm_up_ne (by decide), hwa, pm_up_off (by decide)]; omega
        refine pm_blk hK zmm293 [] 1 130 [(2, 205), (0, q), (0, t), (9, 0)] [(2, 205)] μc14 [] rfl trivial ?_
        refine pm_call hK zmm293 (223, 0, 139, 0) zM139 (2, 44) [(2, 205)] [] rfl rfl rfl rfl ⟨by omega, by rw [zn139]; omega⟩ (zh_reads hK hTc14 hb205 ⟨Nat.le_refl _, Nat.le_refl _⟩) (fun st15 μc15 hp15 => ?_)
        obtain ⟨rfl, hTc15, hF15, hS15, hR15⟩ := hp15
        have hF := hF15
        have hS := hS15
        have hR := hR15
        refine pm_blk hK zmm293 [] 3 9 [(2, 205), (0, q), (0, 1), (9, 0)] [] μc15 [] rfl trivial ?_
        exact ih _ (by omega) (q := q) (t := 1) rfl (nB + 1) (Or.inr rfl) (zAn_wait hVB hTc14 hwa hwb (by omega) (Or.inl ⟨rfl, rfl, topB⟩) hTc15 hF hS hR wadv) (fun h => absurd h (by decide)) (by omega)
    · have h0 : t ≠ (0 : Int) := h0
      have hA1 : zAn μ0 μ w q 1 m := (show t = 1 by omega) ▸ hA
      refine pm_blk hK zmm293 [] 2 16 [(2, 205), (0, q), (0, t), (9, 0)] [(0, 6), (2, 205)] μ [] rfl trivial ?_
      refine pm_call hK zmm293 (245, 0, 142, 1) zM142 (0, 0) [(2, 205), (0, 6)] [] rfl rfl rfl rfl ⟨by omega, by rw [zn142]; omega⟩ (zh_isWord hK (c := 6) ⟨Nat.le_refl _, Nat.le_refl _⟩) (fun st16 μc16 hp16 => ?_)
      obtain ⟨rfl, x16, rfl, hx16a, hx16b, hx16c⟩ := hp16
      refine pm_blk hK zmm293 [] 2 21 [(2, 205), (0, q), (0, t), (0, x16)] [(0, x16)] μ [] rfl trivial ?_
      refine pm_if hK zmm293 .ne 12 33 rfl rfl (fun h5 => ?_) (fun h5 => ?_)
      · have h5 : x16 ≠ (0 : Int) := h5
        have hadv : μ 205 13 < μ 205 12 := by omega
        clear r6
        try clear hx1c
        try clear hx2c
        try clear hx3c
        try clear hx4c
        try clear hx5c
        try clear hx6c
        try clear hx7c
        try clear hx8c
        have f3 := zT_get hT zs205_26 (i := 26) (by omega) (by omega)
        refine pm_blk hK zmm293 [] 3 39 [(2, 205), (0, q), (0, t), (0, x16)] [(0, 8), (0, μ 205 26)] μ [] rfl trivial ?_
        refine pm_icmp hK zmm293 .ne 9 48 rfl rfl (fun h6 => ?_) (fun h6 => ?_)
        · have h6 : μ 205 26 ≠ (8 : Int) := h6
          refine pm_blk hK zmm293 [] 6 58 [(2, 205), (0, q), (0, t), (0, x16)] [] (pm_up μ 205 26 ((μ 205 26) + 1)) [pm_in ((μ 205 26) + 1), sx_bit Wm 205 = true] rfl ⟨pm_in_mk (by omega) (by omega), hb205, trivial⟩ ?_
          obtain ⟨μ3, eμ3⟩ : ∃ μ', μ' = pm_up μ 205 26 ((μ 205 26) + 1) := ⟨_, rfl⟩
          rw [← eμ3]
          have hTμ3 : zTJ μ3 := by rw [eμ3]; exact zT_up hT zs205_26 rfl (i := 26) (by omega) (by omega) (by omega) (by omega)
          have a28b : μ3 205 28 = (m : Int) := by rw [eμ3, pm_up_ne (by decide)]; exact a28
          refine pm_blk hK zmm293 [] 1 59 [(2, 205), (0, q), (0, t), (0, x16)] [(0, x16)] μ3 [] rfl trivial ?_
          refine pm_if hK zmm293 .ne 7 66 rfl rfl (fun h7 => ?_) (fun h7 => ?_)
          · have h7 : x16 ≠ (0 : Int) := h7
            refine pm_blk hK zmm293 [] 2 68 [(2, 205), (0, q), (0, t), (0, x16)] [(0, x16), (2, 205)] μ3 [] rfl trivial ?_
            refine pm_if hK zmm293 .eq 8 76 rfl rfl (fun h8 => ?_) (fun h8 => ?_)
            · have h8 : x16 = (0 : Int) := h8
              exact absurd h8 h7
            · have h8 : x16 ≠ (0 : Int) := h8
              refine pm_blk hK zmm293 [] 2 78 [(2, 205), (0, q), (0, t), (0, x16)] [(0, 9), (2, 205)] μ3 [] rfl trivial ?_
              refine pm_call hK zmm293 (248, 0, 294, 1) zM294 (0, 0) [(2, 205), (0, 9)] [] rfl rfl rfl rfl ⟨by omega, by rw [zn294]; omega⟩ (zh_waits hK (v := 9) hTμ3 ⟨by omega, by omega⟩ ⟨by omega, by omega⟩ hb205 hb220 ⟨Nat.le_refl _, Nat.le_refl _⟩) (fun st17 μc17 hp17 => ?_)
              obtain ⟨rfl, hTc17, μw17, hwa17, hwb17⟩ := hp17
              have hwa := hwa17
              have hwb := hwb17
              rw [a28b] at hwa hwb
              have w12 : μc17 205 12 = μ 205 12 := by rw [hwb, pm_up_ne (by decide), hwa, pm_up_off (by decide), eμ3, pm_up_ne (by decide)]
              refine pm_blk hK zmm293 [] 1 82 [(2, 205), (0, q), (0, t), (0, x16)] [(2, 205)] μc17 [] rfl trivial ?_
              refine pm_call hK zmm293 (223, 0, 139, 0) zM139 (2, 44) [(2, 205)] [] rfl rfl rfl rfl ⟨by omega, by rw [zn139]; omega⟩ (zh_reads hK hTc17 hb205 ⟨Nat.le_refl _, Nat.le_refl _⟩) (fun st18 μc18 hp18 => ?_)
              obtain ⟨rfl, hTc18, hF18, hS18, hR18⟩ := hp18
              have hF := hF18
              have hS := hS18
              have hR := hR18
              refine pm_blk hK zmm293 [] 1 9 [(2, 205), (0, q), (0, t), (0, x16)] [] μc18 [] rfl trivial ?_
              refine pm_hide [3] ?_
              have hZ : zAn μ0 μc18 w (q) t (m + 1) := by rw [show t = 1 by omega]; exact zAn_open hA1 eμ3 rfl hwa hwb (by first | exact Or.inl ⟨rfl, rfl⟩ | exact Or.inr ⟨rfl, rfl⟩) hTc18 hF hS hR hadv
              exact ih _ (by omega) (q := q) (t := t) rfl (m + 1) ht hZ (fun h => absurd h (by omega)) (by omega)
          · have h7 : x16 = (0 : Int) := h7
            exact absurd h7 h5
        · have h6 : μ 205 26 = (8 : Int) := h6
          refine pm_blk hK zmm293 [] 2 44 [(2, 205), (0, q), (0, t), (0, x16)] [(0, 3), (2, 205)] μ [] rfl trivial ?_
          refine pm_call hK zmm293 (216, 0, 278, 1) zM278 (0, 0) [(2, 205), (0, 3)] [] rfl rfl rfl rfl ⟨by omega, by rw [zn278]; omega⟩ (zh_errs hK (k := 3) hT ⟨by omega, by omega⟩ hb205 ⟨Nat.le_refl _, Nat.le_refl _⟩) (fun st19 μc19 hp19 => ?_)
          obtain ⟨rfl, hTc19⟩ := hp19
          exact pm_iret rfl rfl ⟨_, rfl, by omega, by omega, hTc19, fun h => absurd rfl h⟩
      · have h5 : x16 = (0 : Int) := h5
        refine pm_blk hK zmm293 [] 2 27 [(2, 205), (0, q), (0, t), (0, x16)] [(0, 40), (2, 205)] μ [] rfl trivial ?_
        refine pm_call hK zmm293 (230, 0, 283, 1) zM283 (0, 0) [(2, 205), (0, 40)] [] rfl rfl rfl rfl ⟨by omega, by rw [zn283]; omega⟩ (zh_isSign hK (c := 40) ⟨Nat.le_refl _, Nat.le_refl _⟩) (fun st20 μc20 hp20 => ?_)
        obtain ⟨rfl, x20, rfl, hx20a, hx20b, hx20c⟩ := hp20
        refine pm_if hK zmm293 .eq 58 88 rfl rfl (fun h9 => ?_) (fun h9 => ?_)
        · have h9 : x20 = (0 : Int) := h9
          refine pm_blk hK zmm293 [] 1 89 [(2, 205), (0, q), (0, t), (0, x16)] [(2, 205)] μ [] rfl trivial ?_
          refine pm_call hK zmm293 (251, 0, 295, 0) zM295 (6, 128) [(2, 205)] [] rfl rfl rfl rfl ⟨by omega, by rw [zn295]; omega⟩ (zh_readCompared hK (w := m + w) hT hRd ⟨by omega, by omega⟩ hb205 hb218 hb219 ⟨Nat.le_refl _, Nat.le_refl _⟩) (fun st21 μc21 hp21 => ?_)
          obtain ⟨x21, rfl, hx21, hy21, hTc21, hO21⟩ := hp21
          have hO := hO21
          refine pm_blk hK zmm293 [] 1 93 [(2, 205), (0, q), (0, t), (0, x16)] [(0, (-1)), (0, x21)] μc21 [] rfl trivial ?_
          refine pm_icmp hK zmm293 .ne 5 98 rfl rfl (fun h10 => ?_) (fun h10 => ?_)
          · have h10 : x21 ≠ ((-1) : Int) := h10
            have hO1 := hO (by omega)
            have hV := zAn_val hA1 hTc21 hO1
            have o13 := hO1.2.1
            refine pm_blk hK zmm293 [] 2 101 [(2, 205), (0, q), (0, t), (0, x16)] [(0, 9), (2, 205)] μc21 [] rfl trivial ?_
            have bdA := zAn_bd hV hw0
            refine pm_call hK zmm293 (254, 0, 296, 1) zM296 (1, 22) [(2, 205), (0, 9)] [] rfl rfl rfl rfl ⟨by omega, by rw [zn296]; omega⟩ (zh_settles hK (o := 9) (n0 := m) hTc21 hV.2.2.1 hV.2.2.2.1 hV.2.2.2.2.1 (by decide) bdA hb205 hb218 hb219 ⟨Nat.le_refl _, Nat.le_refl _⟩) (fun st22 μc22 hp22 => ?_)
            obtain ⟨rfl, hTc22, nA, hsA, htA⟩ := hp22
            have htA := zNt_mk htA
            have hVA := zAn_set hV hTc22 hsA
            have hsA_12 := hsA.2.2.2.2.2.1.2 12 (by decide) (by decide) (by decide)
            have hsA_13 := hsA.2.2.2.2.2.1.2 13 (by decide) (by decide) (by decide)
            have hsA_14 := hsA.2.2.2.2.2.1.2 14 (by decide) (by decide) (by decide)
            have hsA_15 := hsA.2.2.2.2.2.1.2 15 (by decide) (by decide) (by decide)
            have hsA_p := hsA.2.2.2.2.2.1.1 220 (by decide) (by decide) (by decide)
            refine pm_blk hK zmm293 [] 3 9 [(2, 205), (0, q), (0, 0), (0, x16)] [] μc22 [] rfl trivial ?_
            refine pm_hide [3] ?_
            exact ih _ (by omega) (q := q) (t := 0) rfl nA (Or.inl rfl) hVA (fun _ => by rw [hsA_p]; exact htA) (by omega)
          · have h10 : x21 = ((-1) : Int) := h10
            refine pm_blk hK zmm293 [] 1 97 [(2, 205), (0, q), (0, t), (0, x16)] [(0, (-1))] μc21 [] rfl trivial ?_
            exact pm_iret rfl rfl ⟨_, rfl, by omega, by omega, hTc21, fun h => absurd rfl h⟩
        · have h9 : x20 ≠ (0 : Int) := h9
          have hadv : μ 205 13 < μ 205 12 := by omega
          clear r6
          try clear hx1c
          try clear hx2c
          try clear hx3c
          try clear hx4c
          try clear hx5c
          try clear hx6c
          try clear hx7c
          try clear hx8c
          have f4 := zT_get hT zs205_26 (i := 26) (by omega) (by omega)
          refine pm_blk hK zmm293 [] 3 39 [(2, 205), (0, q), (0, t), (0, x16)] [(0, 8), (0, μ 205 26)] μ [] rfl trivial ?_
          refine pm_icmp hK zmm293 .ne 9 48 rfl rfl (fun h11 => ?_) (fun h11 => ?_)
          · have h11 : μ 205 26 ≠ (8 : Int) := h11
            refine pm_blk hK zmm293 [] 6 58 [(2, 205), (0, q), (0, t), (0, x16)] [] (pm_up μ 205 26 ((μ 205 26) + 1)) [pm_in ((μ 205 26) + 1), sx_bit Wm 205 = true] rfl ⟨pm_in_mk (by omega) (by omega), hb205, trivial⟩ ?_
            obtain ⟨μ4, eμ4⟩ : ∃ μ', μ' = pm_up μ 205 26 ((μ 205 26) + 1) := ⟨_, rfl⟩
            rw [← eμ4]
            have hTμ4 : zTJ μ4 := by rw [eμ4]; exact zT_up hT zs205_26 rfl (i := 26) (by omega) (by omega) (by omega) (by omega)
            have a28b : μ4 205 28 = (m : Int) := by rw [eμ4, pm_up_ne (by decide)]; exact a28
            refine pm_blk hK zmm293 [] 1 59 [(2, 205), (0, q), (0, t), (0, x16)] [(0, x16)] μ4 [] rfl trivial ?_
            refine pm_if hK zmm293 .ne 7 66 rfl rfl (fun h12 => ?_) (fun h12 => ?_)
            · have h12 : x16 ≠ (0 : Int) := h12
              exact absurd h5 h12
            · have h12 : x16 = (0 : Int) := h12
              refine pm_blk hK zmm293 [] 6 68 [(2, 205), (0, q + 1), (0, t), (0, x16)] [(0, x16), (2, 205)] μ4 [pm_in (q + 1)] rfl ⟨pm_in_mk (by omega) (by omega), trivial⟩ ?_
              refine pm_if hK zmm293 .eq 8 76 rfl rfl (fun h13 => ?_) (fun h13 => ?_)
              · have h13 : x16 = (0 : Int) := h13
                refine pm_blk hK zmm293 [] 1 78 [(2, 205), (0, q + 1), (0, t), (0, x16)] [(0, 12), (2, 205)] μ4 [] rfl trivial ?_
                refine pm_call hK zmm293 (248, 0, 294, 1) zM294 (0, 0) [(2, 205), (0, 12)] [] rfl rfl rfl rfl ⟨by omega, by rw [zn294]; omega⟩ (zh_waits hK (v := 12) hTμ4 ⟨by omega, by omega⟩ ⟨by omega, by omega⟩ hb205 hb220 ⟨Nat.le_refl _, Nat.le_refl _⟩) (fun st23 μc23 hp23 => ?_)
                obtain ⟨rfl, hTc23, μw23, hwa23, hwb23⟩ := hp23
                have hwa := hwa23
                have hwb := hwb23
                rw [a28b] at hwa hwb
                have w12 : μc23 205 12 = μ 205 12 := by rw [hwb, pm_up_ne (by decide), hwa, pm_up_off (by decide), eμ4, pm_up_ne (by decide)]
                refine pm_blk hK zmm293 [] 1 82 [(2, 205), (0, q + 1), (0, t), (0, x16)] [(2, 205)] μc23 [] rfl trivial ?_
                refine pm_call hK zmm293 (223, 0, 139, 0) zM139 (2, 44) [(2, 205)] [] rfl rfl rfl rfl ⟨by omega, by rw [zn139]; omega⟩ (zh_reads hK hTc23 hb205 ⟨Nat.le_refl _, Nat.le_refl _⟩) (fun st24 μc24 hp24 => ?_)
                obtain ⟨rfl, hTc24, hF24, hS24, hR24⟩ := hp24
                have hF := hF24
                have hS := hS24
                have hR := hR24
                refine pm_blk hK zmm293 [] 1 9 [(2, 205), (0, q + 1), (0, t), (0, x16)] [] μc24 [] rfl trivial ?_
                refine pm_hide [3] ?_
                have hZ : zAn μ0 μc24 w (q + 1) t (m + 1) := by rw [show t = 1 by omega]; exact zAn_open hA1 eμ4 rfl hwa hwb (by first | exact Or.inl ⟨rfl, rfl⟩ | exact Or.inr ⟨rfl, rfl⟩) hTc24 hF hS hR hadv
                exact ih _ (by omega) (q := q + 1) (t := t) rfl (m + 1) ht hZ (fun h => absurd h (by omega)) (by omega)
              · have h13 : x16 ≠ (0 : Int) := h13
                exact absurd h12 h13
          · have h11 : μ 205 26 = (8 : Int) := h11
            refine pm_blk hK zmm293 [] 2 44 [(2, 205), (0, q), (0, t), (0, x16)] [(0, 3), (2, 205)] μ [] rfl trivial ?_
            refine pm_call hK zmm293 (216, 0, 278, 1) zM278 (0, 0) [(2, 205), (0, 3)] [] rfl rfl rfl rfl ⟨by omega, by rw [zn278]; omega⟩ (zh_errs hK (k := 3) hT ⟨by omega, by omega⟩ hb205 ⟨Nat.le_refl _, Nat.le_refl _⟩) (fun st25 μc25 hp25 => ?_)
            obtain ⟨rfl, hTc25⟩ := hp25
            exact pm_iret rfl rfl ⟨_, rfl, by omega, by omega, hTc25, fun h => absurd rfl h⟩
set_option maxRecDepth 100000 in
theorem zh_readAny (hK : zKK ST) {w : Int} (hT : zTJ μ) (hRd : zRd μ) (ho : μ 205 26 = 0) (hw : 0 ≤ w ∧ μ 205 25 + w ≤ μ 205 13) (hb205 : sx_bit Wm 205 = true) (hb218 : sx_bit Wm 218 = true) (hb219 : sx_bit Wm 219 = true) (hb220 : sx_bit Wm 220 = true) (hbd : 7 ≤ bud.1 ∧ 149 ≤ bud.2.1) : zC D Wm ST b0 l Sg zM293 bud [(2, 205)] μ (fun st' μ' => ∃ x, st' = [(0, x)] ∧ -1 ≤ x ∧ x ≤ 0 ∧ zTJ μ' ∧ (x ≠ -1 → zOA μ μ' w ∧ μ' 205 26 = 0)) := by
  refine pm_blk hK zmm293 [] 5 7 [(2, 205), (0, 0), (9, 0), (9, 0)] [] (pm_up μ 205 28 0) [sx_bit Wm 205 = true] rfl ⟨hb205, trivial⟩ ?_
  obtain ⟨μ1, eμ1⟩ : ∃ μ', μ' = pm_up μ 205 28 0 := ⟨_, rfl⟩
  rw [← eμ1]
  have hTμ1 : zTJ μ1 := by rw [eμ1]; exact zT_up hT zs205_28 rfl (i := 28) (by omega) (by omega) (by omega) (by omega)
  refine pm_blk hK zmm293 [] 2 9 [(2, 205), (0, 0), (0, 1), (9, 0)] [] μ1 [] rfl trivial ?_
  exact zl_ra hK hw.1 hb205 hb218 hb219 hb220 hbd _ (q := 0) (t := 1) rfl 0 (Or.inr rfl) (zAn_0 hTμ1 hRd ho hw.2 eμ1) (fun h => absurd h (by decide)) (by rw [eμ1, pm_up_ne (by decide)]; exact Int.le_refl _)
end ZHW
