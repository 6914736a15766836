/-! THE LAW: its lines in the reference; walks printed by program (wip/p30/pmgen.py) and filled by hand -/
section ZHW
variable {φ : Option pm_Mem}
variable {D : va_G} {Wm : Nat} {ST : List (String × String × String × Nat)} {b0 : sx_B} {l : Launch} {Sg : Nat → Option Nat} {bud : sx_Bu} {μ : pm_Mem} {B0 : Nat → Prop} {J : (Nat → Option Nat) → Heap → Prop}
set_option maxRecDepth 100000 in
theorem zn_isLine (hK : zKK ST) {T : Int → Int} {L : Int} {K S V : Int → Int} {N j : Int} {P : Nat → Int} (hx : zMx T L K S V N P μ) (hm : zMs K S V N P j μ)  (hbd : 1 ≤ bud.1 ∧ 23 ≤ bud.2.1) : zC D Wm ST b0 l Sg zM146 bud [(2, 205)] μ (fun st' μ' => μ = μ' ∧ ∃ x, st' = [(0, x)] ∧ ((x = 1 ∧ 300 ≤ K j ∧ K j ≤ 302) ∨ (x = 0 ∧ ¬ (300 ≤ K j ∧ K j ≤ 302)))) := by
  have hk := zMs_k hx hm
  obtain ⟨t1, t2, t3, t4⟩ := id hm
  obtain ⟨v1, v2, v3, v4, v5⟩ := id t3
  have hM := zwM_c (K j - 300)
  refine pm_blk hK zmm146 [] 3 5 [(2, 205)] [(0, 2), (0, μ 205 14)] μ [] rfl trivial ?_
  refine pm_icmp hK zmm146 .ne 20 25 rfl rfl (fun h0 => ?_) (fun h0 => ?_)
  · have h0 : μ 205 14 ≠ (2 : Int) := h0
    refine pm_blk hK zmm146 [] 1 26 [(2, 205)] [(0, 0)] μ [] rfl trivial ?_
    exact pm_zret rfl rfl (by first | exact Or.inl rfl | exact Or.inr rfl | omega) ⟨rfl, _, rfl, by omega⟩
  · have h0 : μ 205 14 = (2 : Int) := h0
    refine pm_blk hK zmm146 [] 5 15 [(2, 205)] [(0, 2), (0, 0), (0, μ 205 15), (2, 205)] μ [] rfl trivial ?_
    refine pm_call hK zmm146 (158, 0, 129, 3) zM129 (0, 0) [(2, 205), (0, μ 205 15), (0, 0), (0, 2)] [] rfl rfl rfl rfl ⟨by omega, by rw [zn129]; omega⟩ (zh_isIn hK ⟨by omega, by omega⟩) (fun st1 μc1 hp1 => ?_)
    obtain ⟨rfl, rfl⟩ := hp1
    refine pm_if hK zmm146 .eq 7 25 rfl rfl (fun h1 => ?_) (fun h1 => ?_)
    · have h1 : (if 0 ≤ (μ 205 15) ∧ (μ 205 15) ≤ 2 then 1 else 0 : Int) = (0 : Int) := h1
      have h1 := zif0 h1
      refine pm_blk hK zmm146 [] 1 26 [(2, 205)] [(0, 0)] μ [] rfl trivial ?_
      exact pm_zret rfl rfl (by first | exact Or.inl rfl | exact Or.inr rfl | omega) ⟨rfl, _, rfl, by omega⟩
    · have h1 : (if 0 ≤ (μ 205 15) ∧ (μ 205 15) ≤ 2 then 1 else 0 : Int) ≠ (0 : Int) := h1
      have h1 := zif1 h1
      refine pm_blk hK zmm146 [] 2 26 [(2, 205)] [(0, 1)] μ [] rfl trivial ?_
      exact pm_zret rfl rfl (by first | exact Or.inl rfl | exact Or.inr rfl | omega) ⟨rfl, _, rfl, by omega⟩
set_option maxRecDepth 100000 in
theorem zn_rl (hK : zKK ST)  {μ0 : pm_Mem} {T : Int → Int} {L : Int} {K S V : Int → Int} {N : Int} {P : Nat → Int} (hb205 : sx_bit Wm 205 = true) (hb214 : sx_bit Wm 214 = true) (hb215 : sx_bit Wm 215 = true) (hb216 : sx_bit Wm 216 = true) (hb217 : sx_bit Wm 217 = true) (hb218 : sx_bit Wm 218 = true) (hb219 : sx_bit Wm 219 = true) (hb220 : sx_bit Wm 220 = true) (hbd : 8 ≤ bud.1 ∧ 172 ≤ bud.2.1) : ∀ (n : Nat) {u : Int} {μ : pm_Mem}, (16 - u).toNat = n → ∀ (hi : 0 ≤ u ∧ u ≤ 16) (hS : zQs (zLw K V) (zcL K) T L K S V N P μ0 u μ) (hT : zTJ φ μ), zW D Wm ST b0 l Sg zM145 bud (pm_X zM145 (fun st' μ' => ∃ x, st' = [(0, x)] ∧ zTJ φ μ' ∧ zQo (zLw K V) (zcL K) K S V μ0 x μ')) 2 [(2, 205), (0, u), (9, 0)] [] μ := by
  intro n
  induction n using Nat.strongRecOn with
  | ind n ih =>
    intro u μ hn hi hS hT
    obtain ⟨hF, hx, J, hch, hm, hce⟩ := id hS
    obtain ⟨hlr, hcc, ho26⟩ := id hce
    have hk := zMs_k hx hm
    obtain ⟨t1, t2, t3, t4⟩ := id hm
    obtain ⟨v1, v2, v3, v4, v5⟩ := id t3
    have hnL := hx.1.1
    have h11 := hx.2.2
    have f11 := zT_get hT zs205_11 (i := 11) (by omega) (by omega)
    have f25 := zT_get hT zs205_25 (i := 25) (by omega) (by omega)
    have hM := zwM_c (K (J u.toNat) - 300)
    have eu : ((u.toNat : Nat) : Int) = u := by omega
    refine pm_blk hK zmm145 [] 1 3 [(2, 205), (0, u), (9, 0)] [(2, 205)] μ [] rfl trivial ?_
    refine pm_call hK zmm145 (257, 0, 146, 0) zM146 (1, 23) [(2, 205)] [] rfl rfl rfl rfl ⟨by omega, by rw [zn146]; omega⟩ (zn_isLine hK (j := J u.toNat) hx hm ⟨Nat.le_refl _, Nat.le_refl _⟩) (fun st1 μc1 hp1 => ?_)
    obtain ⟨rfl, x1, rfl, hw1⟩ := hp1
    have hw := hw1
    refine pm_if hK zmm145 .eq 122 128 rfl rfl (fun h0 => ?_) (fun h0 => ?_)
    · have h0 : x1 = (0 : Int) := h0
      have hnk : ¬ (300 ≤ K (J u.toNat) ∧ K (J u.toNat) ≤ 302) := by omega
      have f1 := zT_get hT zs205_14 (i := 14) (by omega) (by omega)
      refine pm_blk hK zmm145 [] 2 132 [(2, 205), (0, u), (9, 0)] [(0, μ 205 14)] μ [] rfl trivial ?_
      refine pm_if hK zmm145 .ne 7 139 rfl rfl (fun h1 => ?_) (fun h1 => ?_)
      · have h1 : μ 205 14 ≠ (0 : Int) := h1
        refine pm_blk hK zmm145 [] 2 141 [(2, 205), (0, u), (9, 0)] [(0, 1), (2, 205)] μ [] rfl trivial ?_
        refine pm_call hK zmm145 (216, 0, 278, 1) zM278 (0, 0) [(2, 205), (0, 1)] [] rfl rfl rfl rfl ⟨by omega, by rw [zn278]; omega⟩ (zm_errs hK (j := (J u.toNat)) hx hm hT ⟨by omega, by omega⟩ hb205 ⟨Nat.le_refl _, Nat.le_refl _⟩) (fun st2 μc2 hp2 => ?_)
        obtain ⟨rfl, hTc2, hF2, hf2⟩ := hp2
        have hF := zMf_tr hF (zMf_r hF2)
        have hff := hf2
        first
        | exact pm_iret rfl rfl ⟨_, rfl, hTc2, zQo_e hi hF hch (by omega) hce⟩
        | exact pm_iret rfl rfl ⟨_, rfl, hTc2, zQo_f (f := 1) (q := J u.toNat) hi.1 hF hch (by omega) (by decide) (Or.inl ⟨rfl, rfl, hnk⟩) hff⟩
        | (exfalso; omega)
      · have h1 : μ 205 14 = (0 : Int) := h1
        refine pm_blk hK zmm145 [] 2 144 [(2, 205), (0, u), (9, 0)] [(0, u)] μ [] rfl trivial ?_
        first
        | exact pm_iret rfl rfl ⟨_, rfl, hT, zQo_e hi hF hch (by omega) hce⟩
        | exact pm_iret rfl rfl ⟨_, rfl, hT, zQo_f (f := 1) (q := J u.toNat) hi.1 hF hch (by omega) (by decide) (Or.inl ⟨rfl, rfl, hnk⟩) hff⟩
        | (exfalso; omega)
    · have h0 : x1 ≠ (0 : Int) := h0
      have hkw : 300 ≤ K (J u.toNat) ∧ K (J u.toNat) ≤ 302 := by omega
      have hjn : J u.toNat < N := by omega
      refine pm_blk hK zmm145 [] 2 12 [(2, 205), (0, u), (9, 0)] [(0, 16), (0, u)] μ [] rfl trivial ?_
      refine pm_icmp hK zmm145 .ne 9 21 rfl rfl (fun h2 => ?_) (fun h2 => ?_)
      · have h2 : u ≠ (16 : Int) := h2
        have hu15 : u ≤ 15 := by omega
        have hval : μ 205 15 = K (J u.toNat) - 300 := by omega
        have f2 := zT_get hT zs205_15 (i := 15) (by omega) (by omega)
        refine pm_blk hK zmm145 [] 10 36 [(2, 205), (0, u), (0, 32 + u)] [] (pm_up μ 214 (32 + u) (μ 205 15)) [pm_in (32 + u), sx_bit Wm 214 = true, 0 ≤ 32 + u ∧ 32 + u < 48] rfl ⟨pm_in_mk (by omega) (by omega), hb214, ⟨by omega, by omega⟩, trivial⟩ ?_
        obtain ⟨μ1, eμ1⟩ : ∃ μ', μ' = pm_up μ 214 (32 + u) (μ 205 15) := ⟨_, rfl⟩
        rw [← eμ1]
        have hTμ1 : zTJ φ μ1 := by rw [eμ1]; exact zT_up hT zs214_0 rfl (i := 32 + u) (by omega) (by omega) (by omega) (by omega)
        have a14 : μ1 214 = zpu (μ 214) (32 + u) (K (J u.toNat) - 300) := by rw [eμ1, pm_up_zpu, hval]
        have ar : ∀ r, r ≠ 214 → μ1 r = μ r := fun r hr => by rw [eμ1, pm_up_row hr]
        have hF := zMf_tr hF (zMf_li (r := 214) eμ1 (by decide) (by omega))
        have hx := zMx_f hx (zMf_li (r := 214) eμ1 (by decide) (by omega))
        have hm := zMs_of (μ' := μ1) hm (fun y _ => by rw [eμ1, pm_up_off (by decide)])
        refine pm_blk hK zmm145 [] 1 37 [(2, 205), (0, u), (0, 32 + u)] [(2, 205)] μ1 [] rfl trivial ?_
        refine pm_call hK zmm145 (223, 0, 139, 0) zM139 (2, 44) [(2, 205)] [] rfl rfl rfl rfl ⟨by omega, by rw [zn139]; omega⟩ (zt_reads hK hTμ1 (zMs_sp hx hm hjn) hb205 ⟨Nat.le_refl _, Nat.le_refl _⟩) (fun st3 μc3 hp3 => ?_)
        obtain ⟨rfl, hTc3, hr3⟩ := hp3
        have hm := zMs_rd hx hm hjn hr3
        have hF := zMf_tr hF (zMf_fr hr3.1)
        have hx := zMx_f hx (zMf_fr hr3.1)
        have hz := hr3.1
        have b14 : μc3 214 = zpu (μ 214) (32 + u) (K (J u.toNat) - 300) := (hz.1 214 (by decide)).trans a14
        have br : ∀ r, r ≠ 205 → r ≠ 214 → μc3 r = μ r := fun r h1 h2 => (hz.1 r h1).trans (ar r h2)
        have b25 : μc3 205 25 = μ 205 25 := (hz.2 25 (by decide) (by decide) (by decide) (by decide)).trans (by rw [ar 205 (by decide)])
        have b26 : μc3 205 26 = 0 := (hz.2 26 (by decide) (by decide) (by decide) (by decide)).trans (by rw [ar 205 (by decide)]; exact ho26)
        have f3 := zT_get hTc3 zs205_25 (i := 25) (by omega) (by omega)
        refine pm_blk hK zmm145 [] 6 50 [(2, 205), (0, u), (0, 32 + u)] [] (pm_up μc3 215 (32 + u) (μc3 205 25)) [sx_bit Wm 215 = true, 0 ≤ 32 + u ∧ 32 + u < 48] rfl ⟨hb215, ⟨by omega, by omega⟩, trivial⟩ ?_
        obtain ⟨μ2, eμ2⟩ : ∃ μ', μ' = pm_up μc3 215 (32 + u) (μc3 205 25) := ⟨_, rfl⟩
        rw [← eμ2]
        have hTμ2 : zTJ φ μ2 := by rw [eμ2]; exact zT_line hTc3 (Or.inl rfl) ⟨by omega, by omega⟩ ⟨by omega, by omega⟩
        have c15 : μ2 215 = zpu (μ 215) (32 + u) (μ 205 25) := by rw [eμ2, pm_up_zpu, b25, br 215 (by decide) (by decide)]
        have cr : ∀ r, r ≠ 205 → r ≠ 214 → r ≠ 215 → μ2 r = μ r := fun r h1 h2 h3 => by rw [eμ2, pm_up_row h3]; exact br r h1 h2
        have c14 : μ2 214 = zpu (μ 214) (32 + u) (K (J u.toNat) - 300) := by rw [eμ2, pm_up_row (by decide)]; exact b14
        have c25 : μ2 205 25 = μ 205 25 := by rw [eμ2, pm_up_off (by decide)]; exact b25
        have c26 : μ2 205 26 = 0 := by rw [eμ2, pm_up_off (by decide)]; exact b26
        have hF := zMf_tr hF (zMf_li (r := 215) eμ2 (by decide) (by omega))
        have hx := zMx_f hx (zMf_li (r := 215) eμ2 (by decide) (by omega))
        have hm := zMs_of (μ' := μ2) hm (fun y _ => by rw [eμ2, pm_up_off (by decide)])
        have hjl := hm.1
        refine pm_blk hK zmm145 [] 1 51 [(2, 205), (0, u), (0, 32 + u)] [(2, 205)] μ2 [] rfl trivial ?_
        refine pm_call hK zmm145 (236, 0, 288, 0) zM288 (5, 107) [(2, 205)] [] rfl rfl rfl rfl ⟨by omega, by rw [zn288]; omega⟩ (zn_sum hK (j := J u.toNat + 1) hx hm hTμ2 (by omega) hb205 hb218 hb219 ⟨Nat.le_refl _, Nat.le_refl _⟩) (fun st4 μc4 hp4 => ?_)
        obtain ⟨x4, gg, pp, LL, rfl, hTc4, hF4, hPP, hR⟩ := hp4
        have hF := zMf_tr hF (zMf_q hF4)
        have hx := zMx_f hx (zMf_q hF4)
        have hq := hF4
        refine pm_blk hK zmm145 [] 1 55 [(2, 205), (0, u), (0, 32 + u)] [(0, (-1)), (0, x4)] μc4 [] rfl trivial ?_
        refine pm_icmp hK zmm145 .ne 5 60 rfl rfl (fun h3 => ?_) (fun h3 => ?_)
        · have h3 : x4 ≠ ((-1) : Int) := h3
          obtain ⟨g0, hm, hdu, hl9⟩ := zMok hR (by omega)
          have hjl := hm.1
          have fl25 := zT_get hTc4 zs205_25 (i := 25) (by omega) (by omega)
          subst g0
          have hgt := zExp_gt hPP
          have d14 := (hq.1 214 (by decide) (by decide) (by decide)).trans c14
          have d15 := (hq.1 215 (by decide) (by decide) (by decide)).trans c15
          have d16 : μc4 216 = μ 216 := (hq.1 216 (by decide) (by decide) (by decide)).trans (cr 216 (by decide) (by decide) (by decide))
          have d17 : μc4 217 = μ 217 := (hq.1 217 (by decide) (by decide) (by decide)).trans (cr 217 (by decide) (by decide) (by decide))
          have d26 : μc4 205 26 = 0 := (hq.2.1 26 (by decide) (by decide) (by decide) (by decide) (by decide) (by decide) (by decide)).trans c26
          have hl5 := hdu.2.1
          have hre : zRe μ μc4 (zXp LL) := zRe_to hdu (cr 218 (by decide) (by decide) (by decide)) (cr 219 (by decide) (by decide) (by decide)) c25
          have f4 := zT_get hTc4 zs205_25 (i := 25) (by omega) (by omega)
          refine pm_blk hK zmm145 [] 6 70 [(2, 205), (0, u), (0, 32 + u)] [] (pm_up μc4 216 (32 + u) (μc4 205 25)) [sx_bit Wm 216 = true, 0 ≤ 32 + u ∧ 32 + u < 48] rfl ⟨hb216, ⟨by omega, by omega⟩, trivial⟩ ?_
          obtain ⟨μ3, eμ3⟩ : ∃ μ', μ' = pm_up μc4 216 (32 + u) (μc4 205 25) := ⟨_, rfl⟩
          rw [← eμ3]
          have hTμ3 : zTJ φ μ3 := by rw [eμ3]; exact zT_line hTc4 (Or.inr (Or.inl rfl)) ⟨by omega, by omega⟩ ⟨by omega, by omega⟩
          have f16 : μ3 216 = zpu (μ 216) (32 + u) (μ 205 25 + ((zXp LL).length : Int)) := by rw [eμ3, pm_up_zpu, d16, show μc4 205 25 = μ 205 25 + ((zXp LL).length : Int) by omega]
          have f14 : μ3 214 = zpu (μ 214) (32 + u) (K (J u.toNat) - 300) := by rw [eμ3, pm_up_row (by decide)]; exact d14
          have f15 : μ3 215 = zpu (μ 215) (32 + u) (μ 205 25) := by rw [eμ3, pm_up_row (by decide)]; exact d15
          have f17 : μ3 217 = μ 217 := by rw [eμ3, pm_up_row (by decide)]; exact d17
          have f26 : μ3 205 26 = 0 := by rw [eμ3, pm_up_off (by decide)]; exact d26
          have f25c : μ3 205 25 = μc4 205 25 := by rw [eμ3, pm_up_off (by decide)]
          have hre := zRe_fr hre (show μ3 218 = μc4 218 by rw [eμ3, pm_up_row (by decide)]) (show μ3 219 = μc4 219 by rw [eμ3, pm_up_row (by decide)]) f25c
          have hF := zMf_tr hF (zMf_li (r := 216) eμ3 (by decide) (by omega))
          have hx := zMx_f hx (zMf_li (r := 216) eμ3 (by decide) (by omega))
          have hm := zMs_of (μ' := μ3) hm (fun y _ => by rw [eμ3, pm_up_off (by decide)])
          refine pm_blk hK zmm145 [] 2 72 [(2, 205), (0, u), (0, 32 + u)] [(0, 3), (2, 205)] μ3 [] rfl trivial ?_
          refine pm_call hK zmm145 (245, 0, 142, 1) zM142 (0, 0) [(2, 205), (0, 3)] [] rfl rfl rfl rfl ⟨by omega, by rw [zn142]; omega⟩ (zm_isWord hK (kw := 314) (j := pp) hx hm (by decide) (by decide) ⟨Nat.le_refl _, Nat.le_refl _⟩) (fun st5 μc5 hp5 => ?_)
          obtain ⟨rfl, x5, rfl, hw5⟩ := hp5
          have hw := hw5
          refine pm_if hK zmm145 .eq 17 92 rfl rfl (fun h4 => ?_) (fun h4 => ?_)
          · have h4 : x5 = (0 : Int) := h4
            obtain ⟨BB, QQ, hPa, hm, hre, g14, g15, g16, g17, g26, hle⟩ : ∃ BB QQ, zPa0 K V (J u.toNat + 1) 0 QQ LL BB ∧ zMs K S V N P QQ μ3 ∧ zRe μ μ3 (zXp LL ++ zXp BB) ∧ μ3 214 = zpu (μ 214) (32 + u) (K (J u.toNat) - 300) ∧ μ3 215 = zpu (μ 215) (32 + u) (μ 205 25) ∧ μ3 216 = zpu (μ 216) (32 + u) (μ 205 25 + ((zXp LL).length : Int)) ∧ μ3 217 = μ 217 ∧ μ3 205 26 = 0 ∧ μ3 205 25 + (J u.toNat + 1) ≤ μ 205 25 + QQ := by
              first
              | (obtain ⟨g02, hm2, hdu2, hl92, h266⟩ := zMok hR (by omega)
                 subst g02
                 exact ⟨LL2, pp2, ⟨0, pp, hPP, Or.inr (Or.inr ⟨rfl, hwn, hPP2⟩)⟩, hm2, zRe_tr (zRe_fr hre (hz.1 218 (by decide)) (hz.1 219 (by decide)) (hz.2 25 (by decide) (by decide) (by decide) (by decide))) hdu2, (hw9.1 214 (by decide) (by decide) (by decide) (by decide)).trans ((hz.1 214 (by decide)).trans f14), (hw9.1 215 (by decide) (by decide) (by decide) (by decide)).trans ((hz.1 215 (by decide)).trans f15), (hw9.1 216 (by decide) (by decide) (by decide) (by decide)).trans ((hz.1 216 (by decide)).trans f16), (hw9.1 217 (by decide) (by decide) (by decide) (by decide)).trans ((hz.1 217 (by decide)).trans f17), h266, by omega⟩)
              | exact ⟨[], pp, ⟨0, pp, hPP, Or.inr (Or.inl ⟨rfl, by omega, rfl, rfl, rfl⟩)⟩, hm, by rw [show zXp [] = [] from rfl, List.append_nil]; exact hre, f14, f15, f16, f17, f26, by omega⟩
              | (exfalso; omega)
            have g5 : μ3 205 25 = μc4 205 25 := by rw [eμ3, pm_up_off (by decide)]
            have f6 := zT_get hTμ3 zs205_25 (i := 25) (by omega) (by omega)
            refine pm_blk hK zmm145 [] 6 102 [(2, 205), (0, u), (0, 32 + u)] [] (pm_up μ3 217 (32 + u) (μ3 205 25)) [sx_bit Wm 217 = true, 0 ≤ 32 + u ∧ 32 + u < 48] rfl ⟨hb217, ⟨by omega, by omega⟩, trivial⟩ ?_
            obtain ⟨μ4, eμ4⟩ : ∃ μ', μ' = pm_up μ3 217 (32 + u) (μ3 205 25) := ⟨_, rfl⟩
            rw [← eμ4]
            have hTμ4 : zTJ φ μ4 := by rw [eμ4]; exact zT_line hTμ3 (Or.inr (Or.inr rfl)) ⟨by omega, by omega⟩ ⟨by omega, by omega⟩
            have hln := hre.2.1
            rw [List.length_append] at hln
            have i17 : μ4 217 = zpu (μ 217) (32 + u) (μ 205 25 + ((zXp LL).length : Int) + ((zXp BB).length : Int)) := by rw [eμ4, pm_up_zpu, g17, show μ3 205 25 = μ 205 25 + ((zXp LL).length : Int) + ((zXp BB).length : Int) by omega]
            have i14 : μ4 214 = zpu (μ 214) (32 + u) (K (J u.toNat) - 300) := by rw [eμ4, pm_up_row (by decide)]; exact g14
            have i15 : μ4 215 = zpu (μ 215) (32 + u) (μ 205 25) := by rw [eμ4, pm_up_row (by decide)]; exact g15
            have i16 : μ4 216 = zpu (μ 216) (32 + u) (μ 205 25 + ((zXp LL).length : Int)) := by rw [eμ4, pm_up_row (by decide)]; exact g16
            have i26 : μ4 205 26 = 0 := by rw [eμ4, pm_up_off (by decide)]; exact g26
            have i25c : μ4 205 25 = μ3 205 25 := by rw [eμ4, pm_up_off (by decide)]
            have hre := zRe_fr hre (show μ4 218 = μ3 218 by rw [eμ4, pm_up_row (by decide)]) (show μ4 219 = μ3 219 by rw [eμ4, pm_up_row (by decide)]) i25c
            have hF := zMf_tr hF (zMf_li (r := 217) eμ4 (by decide) (by omega))
            have hx := zMx_f hx (zMf_li (r := 217) eμ4 (by decide) (by omega))
            have hm := zMs_of (μ' := μ4) hm (fun y _ => by rw [eμ4, pm_up_off (by decide)])
            have hkq := zMs_k hx hm
            refine pm_blk hK zmm145 [] 2 105 [(2, 205), (0, u), (0, 32 + u)] [(0, 59), (2, 205)] μ4 [] rfl trivial ?_
            refine pm_call hK zmm145 (230, 0, 283, 1) zM283 (0, 0) [(2, 205), (0, 59)] [] rfl rfl rfl rfl ⟨by omega, by rw [zn283]; omega⟩ (zm_isSign hK (j := QQ) (c := 59) hx hm (by decide) ⟨Nat.le_refl _, Nat.le_refl _⟩) (fun st6 μc6 hp6 => ?_)
            obtain ⟨rfl, x6, rfl, hw6⟩ := hp6
            have hw := hw6
            refine pm_if hK zmm145 .ne 9 117 rfl rfl (fun h5 => ?_) (fun h5 => ?_)
            · have h5 : x6 ≠ (0 : Int) := h5
              have h59 : K QQ = 59 := by omega
              have hjn : QQ < N := by omega
              refine pm_blk hK zmm145 [] 1 118 [(2, 205), (0, u), (0, 32 + u)] [(2, 205)] μ4 [] rfl trivial ?_
              refine pm_call hK zmm145 (223, 0, 139, 0) zM139 (2, 44) [(2, 205)] [] rfl rfl rfl rfl ⟨by omega, by rw [zn139]; omega⟩ (zt_reads hK hTμ4 (zMs_sp hx hm hjn) hb205 ⟨Nat.le_refl _, Nat.le_refl _⟩) (fun st7 μc7 hp7 => ?_)
              obtain ⟨rfl, hTc7, hr7⟩ := hp7
              have hm := zMs_rd hx hm hjn hr7
              have hF := zMf_tr hF (zMf_fr hr7.1)
              have hx := zMx_f hx (zMf_fr hr7.1)
              have hz := hr7.1
              refine pm_blk hK zmm145 [] 5 2 [(2, 205), (0, u + 1), (0, 32 + u)] [] μc7 [pm_in (u + 1)] rfl ⟨pm_in_mk (by omega) (by omega), trivial⟩ ?_
              refine pm_hide [2] ?_
              refine ih _ (by omega) rfl ⟨by omega, by omega⟩ (zQs_ok hi.1 hF hx hch (Or.inr (Or.inr ⟨hkw, by omega, 0, QQ, LL, BB, hPa, Or.inr (Or.inr ⟨rfl, rfl, rfl, h59⟩)⟩)) hm ?_) hTc7
              have z25 := hz.2 25 (by decide) (by decide) (by decide) (by decide)
              exact zcL_add hce hPa (by rw [eu]; exact (hz.1 214 (by decide)).trans i14) (by rw [eu]; exact (hz.1 215 (by decide)).trans i15) (by rw [eu]; exact (hz.1 216 (by decide)).trans i16) (by rw [eu]; exact (hz.1 217 (by decide)).trans i17) (zRe_fr hre (hz.1 218 (by decide)) (hz.1 219 (by decide)) z25) ((hz.2 26 (by decide) (by decide) (by decide) (by decide)).trans i26) (by omega)
            · have h5 : x6 = (0 : Int) := h5
              refine pm_blk hK zmm145 [] 2 113 [(2, 205), (0, u), (0, 32 + u)] [(0, 1), (2, 205)] μ4 [] rfl trivial ?_
              refine pm_call hK zmm145 (216, 0, 278, 1) zM278 (0, 0) [(2, 205), (0, 1)] [] rfl rfl rfl rfl ⟨by omega, by rw [zn278]; omega⟩ (zm_errs hK (j := QQ) hx hm hTμ4 ⟨by omega, by omega⟩ hb205 ⟨Nat.le_refl _, Nat.le_refl _⟩) (fun st8 μc8 hp8 => ?_)
              obtain ⟨rfl, hTc8, hF8, hf8⟩ := hp8
              have hF := zMf_tr hF (zMf_r hF8)
              have hff := hf8
              exact pm_iret rfl rfl ⟨_, rfl, hTc8, zQo_f (f := 1) (q := QQ) hi.1 hF hch (by omega) (by decide) (Or.inr (Or.inr ⟨hkw, by omega, 0, QQ, LL, BB, hPa, Or.inr (Or.inl ⟨rfl, rfl, rfl, by omega⟩)⟩)) hff⟩
          · have h4 : x5 ≠ (0 : Int) := h4
            have hwn : K pp = 314 := by omega
            have hkp := zMs_k hx hm
            have hjn : pp < N := by omega
            refine pm_blk hK zmm145 [] 1 79 [(2, 205), (0, u), (0, 32 + u)] [(2, 205)] μ3 [] rfl trivial ?_
            refine pm_call hK zmm145 (223, 0, 139, 0) zM139 (2, 44) [(2, 205)] [] rfl rfl rfl rfl ⟨by omega, by rw [zn139]; omega⟩ (zt_reads hK hTμ3 (zMs_sp hx hm hjn) hb205 ⟨Nat.le_refl _, Nat.le_refl _⟩) (fun st9 μc9 hp9 => ?_)
            obtain ⟨rfl, hTc9, hr9⟩ := hp9
            have hm := zMs_rd hx hm hjn hr9
            have hF := zMf_tr hF (zMf_fr hr9.1)
            have hx := zMx_f hx (zMf_fr hr9.1)
            have hz := hr9.1
            refine pm_blk hK zmm145 [] 1 83 [(2, 205), (0, u), (0, 32 + u)] [(2, 205)] μc9 [] rfl trivial ?_
            have g26x : μc9 205 26 = 0 := (hz.2 26 (by decide) (by decide) (by decide) (by decide)).trans f26
            have g25x := hz.2 25 (by decide) (by decide) (by decide) (by decide)
            refine pm_call hK zmm145 (261, 0, 293, 0) zM293 (7, 149) [(2, 205)] [] rfl rfl rfl rfl ⟨by omega, by rw [zn293]; omega⟩ (zn_any hK (j := pp + 1) hx hm hTc9 (by omega) g26x hb205 hb218 hb219 hb220 ⟨Nat.le_refl _, Nat.le_refl _⟩) (fun st10 μc10 hp10 => ?_)
            obtain ⟨x10, gg2, pp2, LL2, rfl, hTc10, hF10, hPP2, hR⟩ := hp10
            have hF := zMf_tr hF (zMf_w hF10)
            have hx := zMx_f hx (zMf_w hF10)
            have hw9 := hF10
            refine pm_blk hK zmm145 [] 1 87 [(2, 205), (0, u), (0, 32 + u)] [(0, (-1)), (0, x10)] μc10 [] rfl trivial ?_
            refine pm_icmp hK zmm145 .ne 5 92 rfl rfl (fun h6 => ?_) (fun h6 => ?_)
            · have h6 : x10 ≠ ((-1) : Int) := h6
              obtain ⟨BB, QQ, hPa, hm, hre, g14, g15, g16, g17, g26, hle⟩ : ∃ BB QQ, zPa0 K V (J u.toNat + 1) 0 QQ LL BB ∧ zMs K S V N P QQ μc10 ∧ zRe μ μc10 (zXp LL ++ zXp BB) ∧ μc10 214 = zpu (μ 214) (32 + u) (K (J u.toNat) - 300) ∧ μc10 215 = zpu (μ 215) (32 + u) (μ 205 25) ∧ μc10 216 = zpu (μ 216) (32 + u) (μ 205 25 + ((zXp LL).length : Int)) ∧ μc10 217 = μ 217 ∧ μc10 205 26 = 0 ∧ μc10 205 25 + (J u.toNat + 1) ≤ μ 205 25 + QQ := by
                first
                | (obtain ⟨g02, hm2, hdu2, hl92, h266⟩ := zMok hR (by omega)
                   subst g02
                   exact ⟨LL2, pp2, ⟨0, pp, hPP, Or.inr (Or.inr ⟨rfl, hwn, hPP2⟩)⟩, hm2, zRe_tr (zRe_fr hre (hz.1 218 (by decide)) (hz.1 219 (by decide)) (hz.2 25 (by decide) (by decide) (by decide) (by decide))) hdu2, (hw9.1 214 (by decide) (by decide) (by decide) (by decide)).trans ((hz.1 214 (by decide)).trans f14), (hw9.1 215 (by decide) (by decide) (by decide) (by decide)).trans ((hz.1 215 (by decide)).trans f15), (hw9.1 216 (by decide) (by decide) (by decide) (by decide)).trans ((hz.1 216 (by decide)).trans f16), (hw9.1 217 (by decide) (by decide) (by decide) (by decide)).trans ((hz.1 217 (by decide)).trans f17), h266, by omega⟩)
                | exact ⟨[], pp, ⟨0, pp, hPP, Or.inr (Or.inl ⟨rfl, by omega, rfl, rfl, rfl⟩)⟩, hm, by rw [show zXp [] = [] from rfl, List.append_nil]; exact hre, f14, f15, f16, f17, f26, by omega⟩
                | (exfalso; omega)
              have f7 := zT_get hTc10 zs205_25 (i := 25) (by omega) (by omega)
              refine pm_blk hK zmm145 [] 6 102 [(2, 205), (0, u), (0, 32 + u)] [] (pm_up μc10 217 (32 + u) (μc10 205 25)) [sx_bit Wm 217 = true, 0 ≤ 32 + u ∧ 32 + u < 48] rfl ⟨hb217, ⟨by omega, by omega⟩, trivial⟩ ?_
              obtain ⟨μ5, eμ5⟩ : ∃ μ', μ' = pm_up μc10 217 (32 + u) (μc10 205 25) := ⟨_, rfl⟩
              rw [← eμ5]
              have hTμ5 : zTJ φ μ5 := by rw [eμ5]; exact zT_line hTc10 (Or.inr (Or.inr rfl)) ⟨by omega, by omega⟩ ⟨by omega, by omega⟩
              have hln := hre.2.1
              rw [List.length_append] at hln
              have i17 : μ5 217 = zpu (μ 217) (32 + u) (μ 205 25 + ((zXp LL).length : Int) + ((zXp BB).length : Int)) := by rw [eμ5, pm_up_zpu, g17, show μc10 205 25 = μ 205 25 + ((zXp LL).length : Int) + ((zXp BB).length : Int) by omega]
              have i14 : μ5 214 = zpu (μ 214) (32 + u) (K (J u.toNat) - 300) := by rw [eμ5, pm_up_row (by decide)]; exact g14
              have i15 : μ5 215 = zpu (μ 215) (32 + u) (μ 205 25) := by rw [eμ5, pm_up_row (by decide)]; exact g15
              have i16 : μ5 216 = zpu (μ 216) (32 + u) (μ 205 25 + ((zXp LL).length : Int)) := by rw [eμ5, pm_up_row (by decide)]; exact g16
              have i26 : μ5 205 26 = 0 := by rw [eμ5, pm_up_off (by decide)]; exact g26
              have i25c : μ5 205 25 = μc10 205 25 := by rw [eμ5, pm_up_off (by decide)]
              have hre := zRe_fr hre (show μ5 218 = μc10 218 by rw [eμ5, pm_up_row (by decide)]) (show μ5 219 = μc10 219 by rw [eμ5, pm_up_row (by decide)]) i25c
              have hF := zMf_tr hF (zMf_li (r := 217) eμ5 (by decide) (by omega))
              have hx := zMx_f hx (zMf_li (r := 217) eμ5 (by decide) (by omega))
              have hm := zMs_of (μ' := μ5) hm (fun y _ => by rw [eμ5, pm_up_off (by decide)])
              have hkq := zMs_k hx hm
              refine pm_blk hK zmm145 [] 2 105 [(2, 205), (0, u), (0, 32 + u)] [(0, 59), (2, 205)] μ5 [] rfl trivial ?_
              refine pm_call hK zmm145 (230, 0, 283, 1) zM283 (0, 0) [(2, 205), (0, 59)] [] rfl rfl rfl rfl ⟨by omega, by rw [zn283]; omega⟩ (zm_isSign hK (j := QQ) (c := 59) hx hm (by decide) ⟨Nat.le_refl _, Nat.le_refl _⟩) (fun st11 μc11 hp11 => ?_)
              obtain ⟨rfl, x11, rfl, hw11⟩ := hp11
              have hw := hw11
              refine pm_if hK zmm145 .ne 9 117 rfl rfl (fun h7 => ?_) (fun h7 => ?_)
              · have h7 : x11 ≠ (0 : Int) := h7
                have h59 : K QQ = 59 := by omega
                have hjn : QQ < N := by omega
                refine pm_blk hK zmm145 [] 1 118 [(2, 205), (0, u), (0, 32 + u)] [(2, 205)] μ5 [] rfl trivial ?_
                refine pm_call hK zmm145 (223, 0, 139, 0) zM139 (2, 44) [(2, 205)] [] rfl rfl rfl rfl ⟨by omega, by rw [zn139]; omega⟩ (zt_reads hK hTμ5 (zMs_sp hx hm hjn) hb205 ⟨Nat.le_refl _, Nat.le_refl _⟩) (fun st12 μc12 hp12 => ?_)
                obtain ⟨rfl, hTc12, hr12⟩ := hp12
                have hm := zMs_rd hx hm hjn hr12
                have hF := zMf_tr hF (zMf_fr hr12.1)
                have hx := zMx_f hx (zMf_fr hr12.1)
                have hz := hr12.1
                refine pm_blk hK zmm145 [] 5 2 [(2, 205), (0, u + 1), (0, 32 + u)] [] μc12 [pm_in (u + 1)] rfl ⟨pm_in_mk (by omega) (by omega), trivial⟩ ?_
                refine pm_hide [2] ?_
                refine ih _ (by omega) rfl ⟨by omega, by omega⟩ (zQs_ok hi.1 hF hx hch (Or.inr (Or.inr ⟨hkw, by omega, 0, QQ, LL, BB, hPa, Or.inr (Or.inr ⟨rfl, rfl, rfl, h59⟩)⟩)) hm ?_) hTc12
                have z25 := hz.2 25 (by decide) (by decide) (by decide) (by decide)
                exact zcL_add hce hPa (by rw [eu]; exact (hz.1 214 (by decide)).trans i14) (by rw [eu]; exact (hz.1 215 (by decide)).trans i15) (by rw [eu]; exact (hz.1 216 (by decide)).trans i16) (by rw [eu]; exact (hz.1 217 (by decide)).trans i17) (zRe_fr hre (hz.1 218 (by decide)) (hz.1 219 (by decide)) z25) ((hz.2 26 (by decide) (by decide) (by decide) (by decide)).trans i26) (by omega)
              · have h7 : x11 = (0 : Int) := h7
                refine pm_blk hK zmm145 [] 2 113 [(2, 205), (0, u), (0, 32 + u)] [(0, 1), (2, 205)] μ5 [] rfl trivial ?_
                refine pm_call hK zmm145 (216, 0, 278, 1) zM278 (0, 0) [(2, 205), (0, 1)] [] rfl rfl rfl rfl ⟨by omega, by rw [zn278]; omega⟩ (zm_errs hK (j := QQ) hx hm hTμ5 ⟨by omega, by omega⟩ hb205 ⟨Nat.le_refl _, Nat.le_refl _⟩) (fun st13 μc13 hp13 => ?_)
                obtain ⟨rfl, hTc13, hF13, hf13⟩ := hp13
                have hF := zMf_tr hF (zMf_r hF13)
                have hff := hf13
                exact pm_iret rfl rfl ⟨_, rfl, hTc13, zQo_f (f := 1) (q := QQ) hi.1 hF hch (by omega) (by decide) (Or.inr (Or.inr ⟨hkw, by omega, 0, QQ, LL, BB, hPa, Or.inr (Or.inl ⟨rfl, rfl, rfl, by omega⟩)⟩)) hff⟩
            · have h6 : x10 = ((-1) : Int) := h6
              refine pm_blk hK zmm145 [] 1 91 [(2, 205), (0, u), (0, 32 + u)] [(0, (-1))] μc10 [] rfl trivial ?_
              obtain ⟨g1, hff⟩ := zMno hR (by omega)
              exact pm_iret rfl rfl ⟨_, rfl, hTc10, zQo_f (f := gg2) (q := pp2) hi.1 hF hch (by omega) g1 (Or.inr (Or.inr ⟨hkw, by omega, gg2, pp2, LL, LL2, ⟨0, pp, hPP, Or.inr (Or.inr ⟨rfl, hwn, hPP2⟩)⟩, Or.inl ⟨g1, rfl, rfl⟩⟩)) hff⟩
        · have h3 : x4 = ((-1) : Int) := h3
          refine pm_blk hK zmm145 [] 1 59 [(2, 205), (0, u), (0, 32 + u)] [(0, (-1))] μc4 [] rfl trivial ?_
          obtain ⟨g1, hff⟩ := zMno hR (by omega)
          exact pm_iret rfl rfl ⟨_, rfl, hTc4, zQo_f (f := gg) (q := pp) hi.1 hF hch (by omega) g1 (Or.inr (Or.inr ⟨hkw, by omega, gg, pp, LL, [], ⟨gg, pp, hPP, Or.inl ⟨g1, rfl, rfl⟩⟩, Or.inl ⟨g1, rfl, rfl⟩⟩)) hff⟩
      · have h2 : u = (16 : Int) := h2
        refine pm_blk hK zmm145 [] 2 17 [(2, 205), (0, u), (9, 0)] [(0, 3), (2, 205)] μ [] rfl trivial ?_
        refine pm_call hK zmm145 (216, 0, 278, 1) zM278 (0, 0) [(2, 205), (0, 3)] [] rfl rfl rfl rfl ⟨by omega, by rw [zn278]; omega⟩ (zm_errs hK (j := (J u.toNat)) hx hm hT ⟨by omega, by omega⟩ hb205 ⟨Nat.le_refl _, Nat.le_refl _⟩) (fun st14 μc14 hp14 => ?_)
        obtain ⟨rfl, hTc14, hF14, hf14⟩ := hp14
        have hF := zMf_tr hF (zMf_r hF14)
        have hff := hf14
        exact pm_iret rfl rfl ⟨_, rfl, hTc14, zQo_f (f := 3) (q := J u.toNat) hi.1 hF hch (by omega) (by decide) (Or.inr (Or.inl ⟨rfl, rfl, hkw, by omega⟩)) hff⟩
set_option maxRecDepth 100000 in
theorem zn_law (hK : zKK ST) {T : Int → Int} {L : Int} {K S V : Int → Int} {N : Int} {P : Nat → Int} (hx : zMx T L K S V N P μ) (hm : zMs K S V N P 0 μ) (h25 : μ 205 25 = 0) (h26 : μ 205 26 = 0) (hT : zTJ φ μ) (hb205 : sx_bit Wm 205 = true) (hb214 : sx_bit Wm 214 = true) (hb215 : sx_bit Wm 215 = true) (hb216 : sx_bit Wm 216 = true) (hb217 : sx_bit Wm 217 = true) (hb218 : sx_bit Wm 218 = true) (hb219 : sx_bit Wm 219 = true) (hb220 : sx_bit Wm 220 = true) (hbd : 8 ≤ bud.1 ∧ 172 ≤ bud.2.1) : zC D Wm ST b0 l Sg zM145 bud [(2, 205)] μ (fun st' μ' => ∃ x, st' = [(0, x)] ∧ zTJ φ μ' ∧ zQo (zLw K V) (zcL K) K S V μ x μ') := by
  refine pm_blk hK zmm145 [] 2 2 [(2, 205), (0, 0), (9, 0)] [] μ [] rfl trivial ?_
  exact zn_rl hK (μ0 := μ) hb205 hb214 hb215 hb216 hb217 hb218 hb219 hb220 hbd _ (u := 0) rfl ⟨by omega, by omega⟩ ⟨zMf_refl, hx, fun _ => 0, ⟨rfl, fun t ht => absurd ht (by omega)⟩, hm, ⟨fun t ht => absurd ht (by omega), ⟨by omega, by show μ 205 25 ≤ (0 : Int); omega⟩, h26⟩⟩ hT
end ZHW
