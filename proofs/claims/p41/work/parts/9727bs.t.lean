/-! THE LAW: sums, two compared, in the reference; walks printed by program (wip/p30/pmgen.py) and filled by hand -/
section ZHW
variable {φ : Option pm_Mem}
variable {D : va_G} {Wm : Nat} {ST : List (String × String × String × Nat)} {b0 : sx_B} {l : Launch} {Sg : Nat → Option Nat} {bud : sx_Bu} {μ : pm_Mem} {B0 : Nat → Prop} {J : (Nat → Option Nat) → Heap → Prop}
set_option maxRecDepth 100000 in
theorem zn_sl (hK : zKK ST)  {μ0 : pm_Mem} {T : Int → Int} {L : Int} {K S V : Int → Int} {N j0 : Int} {P : Nat → Int} (hc0 : μ0 205 25 ≤ j0) (hb205 : sx_bit Wm 205 = true) (hb218 : sx_bit Wm 218 = true) (hb219 : sx_bit Wm 219 = true) (hbd : 5 ≤ bud.1 ∧ 107 ≤ bud.2.1) : ∀ (n : Nat) {j : Int} {μ : pm_Mem}, (N + 1 - j).toNat = n → ∀ (hm : zMs K S V N P j μ) (hx : zMx T L K S V N P μ) (hF : zMq μ0 μ) (hQ0 : ∃ Lp, zRe μ0 μ (zXp Lp) ∧ ∀ m f q L, zSul K V m j f q L → zSum K V j0 f q (Lp ++ L)) (hcl : μ 205 25 + j0 ≤ μ0 205 25 + j) (hT : zTJ φ μ), zW D Wm ST b0 l Sg zM288 bud (pm_X zM288 (fun st' μ' => ∃ x f q LL, st' = [(0, x)] ∧ zTJ φ μ' ∧ zMq μ0 μ' ∧ zSum K V j0 f q LL ∧ ((x ≠ -1 ∧ f = 0 ∧ zMs K S V N P q μ' ∧ zRe μ0 μ' (zXp LL) ∧ μ' 205 25 + j0 ≤ μ0 205 25 + q) ∨ (x = -1 ∧ f ≠ 0 ∧ zFm S f q μ')))) 10 [(2, 205), (9, 0)] [] μ := by
  intro n
  induction n using Nat.strongRecOn with
  | ind n ih =>
    intro j μ hn hm hx hF hQ0 hcl hT
    obtain ⟨Lp, hLp, hQ⟩ := hQ0
    have hk := zMs_k hx hm
    obtain ⟨t1, t2, t3, t4⟩ := id hm
    obtain ⟨v1, v2, v3, v4, v5⟩ := id t3
    have hnL := hx.1.1
    have h11 := hx.2.2
    have f11 := zT_get hT zs205_11 (i := 11) (by omega) (by omega)
    have f25 := zT_get hT zs205_25 (i := 25) (by omega) (by omega)
    refine pm_blk hK zmm288 [] 2 13 [(2, 205), (9, 0)] [(0, 43), (2, 205)] μ [] rfl trivial ?_
    refine pm_call hK zmm288 (230, 0, 283, 1) zM283 (0, 0) [(2, 205), (0, 43)] [] rfl rfl rfl rfl ⟨by omega, by rw [zn283]; omega⟩ (zm_isSign hK (j := j) (c := 43) hx hm (by decide) ⟨Nat.le_refl _, Nat.le_refl _⟩) (fun st1 μc1 hp1 => ?_)
    obtain ⟨rfl, x1, rfl, hw1⟩ := hp1
    have hw := hw1
    refine pm_if hK zmm288 .ne 12 28 rfl rfl (fun h0 => ?_) (fun h0 => ?_)
    · have h0 : x1 ≠ (0 : Int) := h0
      have hk9 : K j = 43 ∨ K j = 45 := by omega
      have hjn : j < N := by omega
      have f1 := zT_get hT zs205_15 (i := 15) (by omega) (by omega)
      refine pm_blk hK zmm288 [] 3 34 [(2, 205), (9, 0)] [(0, 43), (0, μ 205 15)] μ [] rfl trivial ?_
      refine pm_icmp hK zmm288 .ne 7 41 rfl rfl (fun h1 => ?_) (fun h1 => ?_)
      · have h1 : μ 205 15 ≠ (43 : Int) := h1
        refine pm_blk hK zmm288 [] 3 44 [(2, 205), (0, 3)] [(2, 205)] μ [] rfl trivial ?_
        refine pm_call hK zmm288 (223, 0, 139, 0) zM139 (2, 44) [(2, 205)] [] rfl rfl rfl rfl ⟨by omega, by rw [zn139]; omega⟩ (zt_reads hK hT (zMs_sp hx hm hjn) hb205 ⟨Nat.le_refl _, Nat.le_refl _⟩) (fun st2 μc2 hp2 => ?_)
        obtain ⟨rfl, hTc2, hr2⟩ := hp2
        have hm := zMs_rd hx hm hjn hr2
        have hF := zMq_tr hF (zMq_r (zMr_fr hr2.1))
        have hx := zMx_f hx (zMf_fr hr2.1)
        have h25 := hr2.1.2 25 (by decide) (by decide) (by decide) (by decide)
        have h218 := hr2.1.1 218 (by decide)
        have h219 := hr2.1.1 219 (by decide)
        have hLp := zRe_fr hLp h218 h219 h25
        refine pm_blk hK zmm288 [] 1 48 [(2, 205), (0, 3)] [(2, 205)] μc2 [] rfl trivial ?_
        refine pm_call hK zmm288 (233, 0, 289, 0) zM289 (4, 86) [(2, 205)] [] rfl rfl rfl rfl ⟨by omega, by rw [zn289]; omega⟩ (zn_prod hK (j := j + 1) hx hm hTc2 (by omega) hb205 hb218 hb219 ⟨Nat.le_refl _, Nat.le_refl _⟩) (fun st3 μc3 hp3 => ?_)
        obtain ⟨x3, gg, pp, LL, rfl, hTc3, hF3, hPP, hR⟩ := hp3
        have hF := zMq_tr hF hF3
        have hx := zMx_f hx (zMf_q hF3)
        refine pm_blk hK zmm288 [] 1 52 [(2, 205), (0, 3)] [(0, (-1)), (0, x3)] μc3 [] rfl trivial ?_
        refine pm_icmp hK zmm288 .ne 5 57 rfl rfl (fun h2 => ?_) (fun h2 => ?_)
        · have h2 : x3 ≠ ((-1) : Int) := h2
          obtain ⟨g0, hm, hdu, hl9⟩ := zMok hR (by omega)
          have hjl := hm.1
          have fl25 := zT_get hTc3 zs205_25 (i := 25) (by omega) (by omega)
          subst g0
          have hgt := zPro_gt hPP
          have hLp := zRe_tr hLp hdu
          refine pm_blk hK zmm288 [] 3 60 [(2, 205), (0, 3)] [(0, 0), (0, 3), (2, 205)] μc3 [] rfl trivial ?_
          refine pm_call hK zmm288 (219, 0, 292, 2) zM292 (0, 0) [(2, 205), (0, 3), (0, 0)] [] rfl rfl rfl rfl ⟨by omega, by rw [zn292]; omega⟩ (zh_emits hK (o := 3) (v := 0) hTc3 ⟨by omega, by omega⟩ ⟨by omega, by omega⟩ ⟨by omega, by omega⟩ hb205 hb218 hb219 ⟨Nat.le_refl _, Nat.le_refl _⟩) (fun st4 μc4 hp4 => ?_)
          obtain ⟨rfl, hTc4, hE4⟩ := hp4
          have hm := zMs_q hm hE4
          have hF := zMq_tr hF (zMq_e hE4)
          have hx := zMx_f hx (zMf_q (zMq_e hE4))
          obtain ⟨hdd, hl8⟩ := zRe_e hE4
          have hLp := zRe_tr hLp hdd
          refine pm_blk hK zmm288 [] 1 10 [(2, 205), (0, 3)] [] μc4 [] rfl trivial ?_
          refine pm_hide [1] ?_
          first
          | (refine ih _ (by omega) (j := pp) rfl hm hx hF ⟨Lp ++ LL ++ [(2, 0)], by rw [zXp_x _ (by decide), zXp_a]; exact hLp, fun m f q L h9 => ?_⟩ (by omega) hTc4
             have h8 := hQ (m + 1) f q (LL ++ (2, 0) :: L) (Or.inr ⟨by omega, 0, pp, LL, hPP, Or.inr ⟨rfl, L, h9, by rw [if_pos (by omega)]⟩⟩)
             simpa using h8)
          | (refine ih _ (by omega) (j := pp) rfl hm hx hF ⟨Lp ++ LL ++ [(3, 0)], by rw [zXp_x _ (by decide), zXp_a]; exact hLp, fun m f q L h9 => ?_⟩ (by omega) hTc4
             have h8 := hQ (m + 1) f q (LL ++ (3, 0) :: L) (Or.inr ⟨by omega, 0, pp, LL, hPP, Or.inr ⟨rfl, L, h9, by rw [if_neg (by omega)]⟩⟩)
             simpa using h8)
          | (exfalso; omega)
        · have h2 : x3 = ((-1) : Int) := h2
          refine pm_blk hK zmm288 [] 1 56 [(2, 205), (0, 3)] [(0, (-1))] μc3 [] rfl trivial ?_
          obtain ⟨g1, hff⟩ := zMno hR (by omega)
          exact pm_iret rfl rfl ⟨_, gg, pp, _, rfl, hTc3, hF, hQ 1 gg pp [] (Or.inr ⟨by omega, gg, pp, LL, hPP, Or.inl ⟨g1, rfl, rfl⟩⟩), Or.inr ⟨rfl, g1, hff⟩⟩
      · have h1 : μ 205 15 = (43 : Int) := h1
        refine pm_blk hK zmm288 [] 4 44 [(2, 205), (0, 2)] [(2, 205)] μ [] rfl trivial ?_
        refine pm_call hK zmm288 (223, 0, 139, 0) zM139 (2, 44) [(2, 205)] [] rfl rfl rfl rfl ⟨by omega, by rw [zn139]; omega⟩ (zt_reads hK hT (zMs_sp hx hm hjn) hb205 ⟨Nat.le_refl _, Nat.le_refl _⟩) (fun st5 μc5 hp5 => ?_)
        obtain ⟨rfl, hTc5, hr5⟩ := hp5
        have hm := zMs_rd hx hm hjn hr5
        have hF := zMq_tr hF (zMq_r (zMr_fr hr5.1))
        have hx := zMx_f hx (zMf_fr hr5.1)
        have h25 := hr5.1.2 25 (by decide) (by decide) (by decide) (by decide)
        have h218 := hr5.1.1 218 (by decide)
        have h219 := hr5.1.1 219 (by decide)
        have hLp := zRe_fr hLp h218 h219 h25
        refine pm_blk hK zmm288 [] 1 48 [(2, 205), (0, 2)] [(2, 205)] μc5 [] rfl trivial ?_
        refine pm_call hK zmm288 (233, 0, 289, 0) zM289 (4, 86) [(2, 205)] [] rfl rfl rfl rfl ⟨by omega, by rw [zn289]; omega⟩ (zn_prod hK (j := j + 1) hx hm hTc5 (by omega) hb205 hb218 hb219 ⟨Nat.le_refl _, Nat.le_refl _⟩) (fun st6 μc6 hp6 => ?_)
        obtain ⟨x6, gg, pp, LL, rfl, hTc6, hF6, hPP, hR⟩ := hp6
        have hF := zMq_tr hF hF6
        have hx := zMx_f hx (zMf_q hF6)
        refine pm_blk hK zmm288 [] 1 52 [(2, 205), (0, 2)] [(0, (-1)), (0, x6)] μc6 [] rfl trivial ?_
        refine pm_icmp hK zmm288 .ne 5 57 rfl rfl (fun h3 => ?_) (fun h3 => ?_)
        · have h3 : x6 ≠ ((-1) : Int) := h3
          obtain ⟨g0, hm, hdu, hl9⟩ := zMok hR (by omega)
          have hjl := hm.1
          have fl25 := zT_get hTc6 zs205_25 (i := 25) (by omega) (by omega)
          subst g0
          have hgt := zPro_gt hPP
          have hLp := zRe_tr hLp hdu
          refine pm_blk hK zmm288 [] 3 60 [(2, 205), (0, 2)] [(0, 0), (0, 2), (2, 205)] μc6 [] rfl trivial ?_
          refine pm_call hK zmm288 (219, 0, 292, 2) zM292 (0, 0) [(2, 205), (0, 2), (0, 0)] [] rfl rfl rfl rfl ⟨by omega, by rw [zn292]; omega⟩ (zh_emits hK (o := 2) (v := 0) hTc6 ⟨by omega, by omega⟩ ⟨by omega, by omega⟩ ⟨by omega, by omega⟩ hb205 hb218 hb219 ⟨Nat.le_refl _, Nat.le_refl _⟩) (fun st7 μc7 hp7 => ?_)
          obtain ⟨rfl, hTc7, hE7⟩ := hp7
          have hm := zMs_q hm hE7
          have hF := zMq_tr hF (zMq_e hE7)
          have hx := zMx_f hx (zMf_q (zMq_e hE7))
          obtain ⟨hdd, hl8⟩ := zRe_e hE7
          have hLp := zRe_tr hLp hdd
          refine pm_blk hK zmm288 [] 1 10 [(2, 205), (0, 2)] [] μc7 [] rfl trivial ?_
          refine pm_hide [1] ?_
          first
          | (refine ih _ (by omega) (j := pp) rfl hm hx hF ⟨Lp ++ LL ++ [(2, 0)], by rw [zXp_x _ (by decide), zXp_a]; exact hLp, fun m f q L h9 => ?_⟩ (by omega) hTc7
             have h8 := hQ (m + 1) f q (LL ++ (2, 0) :: L) (Or.inr ⟨by omega, 0, pp, LL, hPP, Or.inr ⟨rfl, L, h9, by rw [if_pos (by omega)]⟩⟩)
             simpa using h8)
          | (refine ih _ (by omega) (j := pp) rfl hm hx hF ⟨Lp ++ LL ++ [(3, 0)], by rw [zXp_x _ (by decide), zXp_a]; exact hLp, fun m f q L h9 => ?_⟩ (by omega) hTc7
             have h8 := hQ (m + 1) f q (LL ++ (3, 0) :: L) (Or.inr ⟨by omega, 0, pp, LL, hPP, Or.inr ⟨rfl, L, h9, by rw [if_neg (by omega)]⟩⟩)
             simpa using h8)
          | (exfalso; omega)
        · have h3 : x6 = ((-1) : Int) := h3
          refine pm_blk hK zmm288 [] 1 56 [(2, 205), (0, 2)] [(0, (-1))] μc6 [] rfl trivial ?_
          obtain ⟨g1, hff⟩ := zMno hR (by omega)
          exact pm_iret rfl rfl ⟨_, gg, pp, _, rfl, hTc6, hF, hQ 1 gg pp [] (Or.inr ⟨by omega, gg, pp, LL, hPP, Or.inl ⟨g1, rfl, rfl⟩⟩), Or.inr ⟨rfl, g1, hff⟩⟩
    · have h0 : x1 = (0 : Int) := h0
      refine pm_blk hK zmm288 [] 2 22 [(2, 205), (9, 0)] [(0, 45), (2, 205)] μ [] rfl trivial ?_
      refine pm_call hK zmm288 (230, 0, 283, 1) zM283 (0, 0) [(2, 205), (0, 45)] [] rfl rfl rfl rfl ⟨by omega, by rw [zn283]; omega⟩ (zm_isSign hK (j := j) (c := 45) hx hm (by decide) ⟨Nat.le_refl _, Nat.le_refl _⟩) (fun st8 μc8 hp8 => ?_)
      obtain ⟨rfl, x8, rfl, hw8⟩ := hp8
      have hw := hw8
      refine pm_if hK zmm288 .eq 41 66 rfl rfl (fun h4 => ?_) (fun h4 => ?_)
      · have h4 : x8 = (0 : Int) := h4
        refine pm_blk hK zmm288 [] 1 67 [(2, 205), (9, 0)] [(0, 0)] μ [] rfl trivial ?_
        exact pm_iret rfl rfl ⟨_, 0, j, Lp ++ [], rfl, hT, hF, hQ 1 0 j [] (Or.inl ⟨by omega, by omega, rfl, rfl, rfl⟩), Or.inl ⟨by decide, rfl, hm, by rw [List.append_nil]; exact hLp, by omega⟩⟩
      · have h4 : x8 ≠ (0 : Int) := h4
        have hk9 : K j = 43 ∨ K j = 45 := by omega
        have hjn : j < N := by omega
        have f2 := zT_get hT zs205_15 (i := 15) (by omega) (by omega)
        refine pm_blk hK zmm288 [] 3 34 [(2, 205), (9, 0)] [(0, 43), (0, μ 205 15)] μ [] rfl trivial ?_
        refine pm_icmp hK zmm288 .ne 7 41 rfl rfl (fun h5 => ?_) (fun h5 => ?_)
        · have h5 : μ 205 15 ≠ (43 : Int) := h5
          refine pm_blk hK zmm288 [] 3 44 [(2, 205), (0, 3)] [(2, 205)] μ [] rfl trivial ?_
          refine pm_call hK zmm288 (223, 0, 139, 0) zM139 (2, 44) [(2, 205)] [] rfl rfl rfl rfl ⟨by omega, by rw [zn139]; omega⟩ (zt_reads hK hT (zMs_sp hx hm hjn) hb205 ⟨Nat.le_refl _, Nat.le_refl _⟩) (fun st9 μc9 hp9 => ?_)
          obtain ⟨rfl, hTc9, hr9⟩ := hp9
          have hm := zMs_rd hx hm hjn hr9
          have hF := zMq_tr hF (zMq_r (zMr_fr hr9.1))
          have hx := zMx_f hx (zMf_fr hr9.1)
          have h25 := hr9.1.2 25 (by decide) (by decide) (by decide) (by decide)
          have h218 := hr9.1.1 218 (by decide)
          have h219 := hr9.1.1 219 (by decide)
          have hLp := zRe_fr hLp h218 h219 h25
          refine pm_blk hK zmm288 [] 1 48 [(2, 205), (0, 3)] [(2, 205)] μc9 [] rfl trivial ?_
          refine pm_call hK zmm288 (233, 0, 289, 0) zM289 (4, 86) [(2, 205)] [] rfl rfl rfl rfl ⟨by omega, by rw [zn289]; omega⟩ (zn_prod hK (j := j + 1) hx hm hTc9 (by omega) hb205 hb218 hb219 ⟨Nat.le_refl _, Nat.le_refl _⟩) (fun st10 μc10 hp10 => ?_)
          obtain ⟨x10, gg, pp, LL, rfl, hTc10, hF10, hPP, hR⟩ := hp10
          have hF := zMq_tr hF hF10
          have hx := zMx_f hx (zMf_q hF10)
          refine pm_blk hK zmm288 [] 1 52 [(2, 205), (0, 3)] [(0, (-1)), (0, x10)] μc10 [] rfl trivial ?_
          refine pm_icmp hK zmm288 .ne 5 57 rfl rfl (fun h6 => ?_) (fun h6 => ?_)
          · have h6 : x10 ≠ ((-1) : Int) := h6
            obtain ⟨g0, hm, hdu, hl9⟩ := zMok hR (by omega)
            have hjl := hm.1
            have fl25 := zT_get hTc10 zs205_25 (i := 25) (by omega) (by omega)
            subst g0
            have hgt := zPro_gt hPP
            have hLp := zRe_tr hLp hdu
            refine pm_blk hK zmm288 [] 3 60 [(2, 205), (0, 3)] [(0, 0), (0, 3), (2, 205)] μc10 [] rfl trivial ?_
            refine pm_call hK zmm288 (219, 0, 292, 2) zM292 (0, 0) [(2, 205), (0, 3), (0, 0)] [] rfl rfl rfl rfl ⟨by omega, by rw [zn292]; omega⟩ (zh_emits hK (o := 3) (v := 0) hTc10 ⟨by omega, by omega⟩ ⟨by omega, by omega⟩ ⟨by omega, by omega⟩ hb205 hb218 hb219 ⟨Nat.le_refl _, Nat.le_refl _⟩) (fun st11 μc11 hp11 => ?_)
            obtain ⟨rfl, hTc11, hE11⟩ := hp11
            have hm := zMs_q hm hE11
            have hF := zMq_tr hF (zMq_e hE11)
            have hx := zMx_f hx (zMf_q (zMq_e hE11))
            obtain ⟨hdd, hl8⟩ := zRe_e hE11
            have hLp := zRe_tr hLp hdd
            refine pm_blk hK zmm288 [] 1 10 [(2, 205), (0, 3)] [] μc11 [] rfl trivial ?_
            refine pm_hide [1] ?_
            first
            | (refine ih _ (by omega) (j := pp) rfl hm hx hF ⟨Lp ++ LL ++ [(2, 0)], by rw [zXp_x _ (by decide), zXp_a]; exact hLp, fun m f q L h9 => ?_⟩ (by omega) hTc11
               have h8 := hQ (m + 1) f q (LL ++ (2, 0) :: L) (Or.inr ⟨by omega, 0, pp, LL, hPP, Or.inr ⟨rfl, L, h9, by rw [if_pos (by omega)]⟩⟩)
               simpa using h8)
            | (refine ih _ (by omega) (j := pp) rfl hm hx hF ⟨Lp ++ LL ++ [(3, 0)], by rw [zXp_x _ (by decide), zXp_a]; exact hLp, fun m f q L h9 => ?_⟩ (by omega) hTc11
               have h8 := hQ (m + 1) f q (LL ++ (3, 0) :: L) (Or.inr ⟨by omega, 0, pp, LL, hPP, Or.inr ⟨rfl, L, h9, by rw [if_neg (by omega)]⟩⟩)
               simpa using h8)
            | (exfalso; omega)
          · have h6 : x10 = ((-1) : Int) := h6
            refine pm_blk hK zmm288 [] 1 56 [(2, 205), (0, 3)] [(0, (-1))] μc10 [] rfl trivial ?_
            obtain ⟨g1, hff⟩ := zMno hR (by omega)
            exact pm_iret rfl rfl ⟨_, gg, pp, _, rfl, hTc10, hF, hQ 1 gg pp [] (Or.inr ⟨by omega, gg, pp, LL, hPP, Or.inl ⟨g1, rfl, rfl⟩⟩), Or.inr ⟨rfl, g1, hff⟩⟩
        · have h5 : μ 205 15 = (43 : Int) := h5
          refine pm_blk hK zmm288 [] 4 44 [(2, 205), (0, 2)] [(2, 205)] μ [] rfl trivial ?_
          refine pm_call hK zmm288 (223, 0, 139, 0) zM139 (2, 44) [(2, 205)] [] rfl rfl rfl rfl ⟨by omega, by rw [zn139]; omega⟩ (zt_reads hK hT (zMs_sp hx hm hjn) hb205 ⟨Nat.le_refl _, Nat.le_refl _⟩) (fun st12 μc12 hp12 => ?_)
          obtain ⟨rfl, hTc12, hr12⟩ := hp12
          have hm := zMs_rd hx hm hjn hr12
          have hF := zMq_tr hF (zMq_r (zMr_fr hr12.1))
          have hx := zMx_f hx (zMf_fr hr12.1)
          have h25 := hr12.1.2 25 (by decide) (by decide) (by decide) (by decide)
          have h218 := hr12.1.1 218 (by decide)
          have h219 := hr12.1.1 219 (by decide)
          have hLp := zRe_fr hLp h218 h219 h25
          refine pm_blk hK zmm288 [] 1 48 [(2, 205), (0, 2)] [(2, 205)] μc12 [] rfl trivial ?_
          refine pm_call hK zmm288 (233, 0, 289, 0) zM289 (4, 86) [(2, 205)] [] rfl rfl rfl rfl ⟨by omega, by rw [zn289]; omega⟩ (zn_prod hK (j := j + 1) hx hm hTc12 (by omega) hb205 hb218 hb219 ⟨Nat.le_refl _, Nat.le_refl _⟩) (fun st13 μc13 hp13 => ?_)
          obtain ⟨x13, gg, pp, LL, rfl, hTc13, hF13, hPP, hR⟩ := hp13
          have hF := zMq_tr hF hF13
          have hx := zMx_f hx (zMf_q hF13)
          refine pm_blk hK zmm288 [] 1 52 [(2, 205), (0, 2)] [(0, (-1)), (0, x13)] μc13 [] rfl trivial ?_
          refine pm_icmp hK zmm288 .ne 5 57 rfl rfl (fun h7 => ?_) (fun h7 => ?_)
          · have h7 : x13 ≠ ((-1) : Int) := h7
            obtain ⟨g0, hm, hdu, hl9⟩ := zMok hR (by omega)
            have hjl := hm.1
            have fl25 := zT_get hTc13 zs205_25 (i := 25) (by omega) (by omega)
            subst g0
            have hgt := zPro_gt hPP
            have hLp := zRe_tr hLp hdu
            refine pm_blk hK zmm288 [] 3 60 [(2, 205), (0, 2)] [(0, 0), (0, 2), (2, 205)] μc13 [] rfl trivial ?_
            refine pm_call hK zmm288 (219, 0, 292, 2) zM292 (0, 0) [(2, 205), (0, 2), (0, 0)] [] rfl rfl rfl rfl ⟨by omega, by rw [zn292]; omega⟩ (zh_emits hK (o := 2) (v := 0) hTc13 ⟨by omega, by omega⟩ ⟨by omega, by omega⟩ ⟨by omega, by omega⟩ hb205 hb218 hb219 ⟨Nat.le_refl _, Nat.le_refl _⟩) (fun st14 μc14 hp14 => ?_)
            obtain ⟨rfl, hTc14, hE14⟩ := hp14
            have hm := zMs_q hm hE14
            have hF := zMq_tr hF (zMq_e hE14)
            have hx := zMx_f hx (zMf_q (zMq_e hE14))
            obtain ⟨hdd, hl8⟩ := zRe_e hE14
            have hLp := zRe_tr hLp hdd
            refine pm_blk hK zmm288 [] 1 10 [(2, 205), (0, 2)] [] μc14 [] rfl trivial ?_
            refine pm_hide [1] ?_
            first
            | (refine ih _ (by omega) (j := pp) rfl hm hx hF ⟨Lp ++ LL ++ [(2, 0)], by rw [zXp_x _ (by decide), zXp_a]; exact hLp, fun m f q L h9 => ?_⟩ (by omega) hTc14
               have h8 := hQ (m + 1) f q (LL ++ (2, 0) :: L) (Or.inr ⟨by omega, 0, pp, LL, hPP, Or.inr ⟨rfl, L, h9, by rw [if_pos (by omega)]⟩⟩)
               simpa using h8)
            | (refine ih _ (by omega) (j := pp) rfl hm hx hF ⟨Lp ++ LL ++ [(3, 0)], by rw [zXp_x _ (by decide), zXp_a]; exact hLp, fun m f q L h9 => ?_⟩ (by omega) hTc14
               have h8 := hQ (m + 1) f q (LL ++ (3, 0) :: L) (Or.inr ⟨by omega, 0, pp, LL, hPP, Or.inr ⟨rfl, L, h9, by rw [if_neg (by omega)]⟩⟩)
               simpa using h8)
            | (exfalso; omega)
          · have h7 : x13 = ((-1) : Int) := h7
            refine pm_blk hK zmm288 [] 1 56 [(2, 205), (0, 2)] [(0, (-1))] μc13 [] rfl trivial ?_
            obtain ⟨g1, hff⟩ := zMno hR (by omega)
            exact pm_iret rfl rfl ⟨_, gg, pp, _, rfl, hTc13, hF, hQ 1 gg pp [] (Or.inr ⟨by omega, gg, pp, LL, hPP, Or.inl ⟨g1, rfl, rfl⟩⟩), Or.inr ⟨rfl, g1, hff⟩⟩
set_option maxRecDepth 100000 in
theorem zn_sum0 (hK : zKK ST) {T : Int → Int} {L : Int} {K S V : Int → Int} {N j : Int} {P : Nat → Int} (hx : zMx T L K S V N P μ) (hm : zMs K S V N P j μ) (hT : zTJ φ μ) (hcl : μ 205 25 ≤ j) (hb205 : sx_bit Wm 205 = true) (hb218 : sx_bit Wm 218 = true) (hb219 : sx_bit Wm 219 = true) (hbd : 5 ≤ bud.1 ∧ 107 ≤ bud.2.1) : zC D Wm ST b0 l Sg zM288 bud [(2, 205)] μ (fun st' μ' => ∃ x f q LL, st' = [(0, x)] ∧ zTJ φ μ' ∧ zMq μ μ' ∧ zSum K V j f q LL ∧ ((x ≠ -1 ∧ f = 0 ∧ zMs K S V N P q μ' ∧ zRe μ μ' (zXp LL) ∧ μ' 205 25 + j ≤ μ 205 25 + q) ∨ (x = -1 ∧ f ≠ 0 ∧ zFm S f q μ'))) := by
  have hF : zMq μ μ := zMq_0
  have hk := zMs_k hx hm
  obtain ⟨t1, t2, t3, t4⟩ := id hm
  obtain ⟨v1, v2, v3, v4, v5⟩ := id t3
  have hnL := hx.1.1
  have h11 := hx.2.2
  have f11 := zT_get hT zs205_11 (i := 11) (by omega) (by omega)
  have f25 := zT_get hT zs205_25 (i := 25) (by omega) (by omega)
  refine pm_blk hK zmm288 [] 1 1 [(2, 205), (9, 0)] [(2, 205)] μ [] rfl trivial ?_
  refine pm_call hK zmm288 (233, 0, 289, 0) zM289 (4, 86) [(2, 205)] [] rfl rfl rfl rfl ⟨by omega, by rw [zn289]; omega⟩ (zn_prod hK (j := j) hx hm hT (by omega) hb205 hb218 hb219 ⟨Nat.le_refl _, Nat.le_refl _⟩) (fun st1 μc1 hp1 => ?_)
  obtain ⟨x1, gg, pp, LL, rfl, hTc1, hF1, hPP, hR⟩ := hp1
  have hF := zMq_tr hF hF1
  have hx := zMx_f hx (zMf_q hF1)
  refine pm_blk hK zmm288 [] 1 5 [(2, 205), (9, 0)] [(0, (-1)), (0, x1)] μc1 [] rfl trivial ?_
  refine pm_icmp hK zmm288 .ne 5 10 rfl rfl (fun h0 => ?_) (fun h0 => ?_)
  · have h0 : x1 ≠ ((-1) : Int) := h0
    obtain ⟨g0, hm, hdu, hl9⟩ := zMok hR (by omega)
    have hjl := hm.1
    have fl25 := zT_get hTc1 zs205_25 (i := 25) (by omega) (by omega)
    subst g0
    have hgt := zPro_gt hPP
    exact zn_sl hK (μ0 := μ) (j0 := j) hcl hb205 hb218 hb219 hbd _ (j := pp) rfl hm hx hF ⟨LL, hdu, fun m f q L h9 => ⟨0, pp, LL, hPP, Or.inr ⟨rfl, m, L, h9, rfl⟩⟩⟩ (by omega) hTc1
  · have h0 : x1 = ((-1) : Int) := h0
    refine pm_blk hK zmm288 [] 1 9 [(2, 205), (9, 0)] [(0, (-1))] μc1 [] rfl trivial ?_
    obtain ⟨g1, hff⟩ := zMno hR (by omega)
    exact pm_iret rfl rfl ⟨_, gg, pp, [], rfl, hTc1, hF, ⟨gg, pp, LL, hPP, Or.inl ⟨g1, rfl, rfl⟩⟩, Or.inr ⟨rfl, g1, hff⟩⟩
set_option maxRecDepth 100000 in
theorem zn_sum (hK : zKK ST) {T : Int → Int} {L : Int} {K S V : Int → Int} {N j : Int} {P : Nat → Int} (hx : zMx T L K S V N P μ) (hm : zMs K S V N P j μ) (hT : zTJ φ μ) (hcl : μ 205 25 ≤ j) (hb205 : sx_bit Wm 205 = true) (hb218 : sx_bit Wm 218 = true) (hb219 : sx_bit Wm 219 = true) (hbd : 5 ≤ bud.1 ∧ 107 ≤ bud.2.1) : zC D Wm ST b0 l Sg zM288 bud [(2, 205)] μ (fun st' μ' => ∃ x f q LL, st' = [(0, x)] ∧ zTJ φ μ' ∧ zMq μ μ' ∧ zExp K V j f q LL ∧ ((x ≠ -1 ∧ f = 0 ∧ zMs K S V N P q μ' ∧ zRe μ μ' (zXp LL) ∧ μ' 205 25 + j ≤ μ 205 25 + q) ∨ (x = -1 ∧ f ≠ 0 ∧ zFm S f q μ'))) :=
  zC_mono (zn_sum0 hK hx hm hT hcl hb205 hb218 hb219 hbd) (fun st' μ' h9 => by
    obtain ⟨x, f, q, LL, h1, h2, h3, h4, h5⟩ := h9
    obtain ⟨L2, e1, e2⟩ := zSum_E h4
    rcases h5 with ⟨k1, k2, k3, k4, k5⟩ | h5
    · have e3 := e2 k2
      subst e3
      exact ⟨x, f, q, L2, h1, h2, h3, e1, Or.inl ⟨k1, k2, k3, k4, k5⟩⟩
    · exact ⟨x, f, q, L2, h1, h2, h3, e1, Or.inr h5⟩)
set_option maxRecDepth 100000 in
theorem zn_cmp (hK : zKK ST) {T : Int → Int} {L : Int} {K S V : Int → Int} {N j : Int} {P : Nat → Int} (hx : zMx T L K S V N P μ) (hm : zMs K S V N P j μ) (hT : zTJ φ μ) (hcl : μ 205 25 ≤ j) (hb205 : sx_bit Wm 205 = true) (hb218 : sx_bit Wm 218 = true) (hb219 : sx_bit Wm 219 = true) (hbd : 6 ≤ bud.1 ∧ 128 ≤ bud.2.1) : zC D Wm ST b0 l Sg zM295 bud [(2, 205)] μ (fun st' μ' => ∃ x f q LL, st' = [(0, x)] ∧ zTJ φ μ' ∧ zMq μ μ' ∧ zCm K V j f q LL ∧ ((x ≠ -1 ∧ f = 0 ∧ zMs K S V N P q μ' ∧ zRe μ μ' (zXp LL) ∧ μ' 205 25 + j ≤ μ 205 25 + q) ∨ (x = -1 ∧ f ≠ 0 ∧ zFm S f q μ'))) := by
  have hF : zMq μ μ := zMq_0
  have hk := zMs_k hx hm
  obtain ⟨t1, t2, t3, t4⟩ := id hm
  obtain ⟨v1, v2, v3, v4, v5⟩ := id t3
  have hnL := hx.1.1
  have h11 := hx.2.2
  have f11 := zT_get hT zs205_11 (i := 11) (by omega) (by omega)
  have f25 := zT_get hT zs205_25 (i := 25) (by omega) (by omega)
  refine pm_blk hK zmm295 [] 1 1 [(2, 205), (9, 0)] [(2, 205)] μ [] rfl trivial ?_
  refine pm_call hK zmm295 (236, 0, 288, 0) zM288 (5, 107) [(2, 205)] [] rfl rfl rfl rfl ⟨by omega, by rw [zn288]; omega⟩ (zn_sum hK (j := j) hx hm hT (by omega) hb205 hb218 hb219 ⟨Nat.le_refl _, Nat.le_refl _⟩) (fun st1 μc1 hp1 => ?_)
  obtain ⟨x1, gg, pp, LL, rfl, hTc1, hF1, hPP, hR⟩ := hp1
  have hF := zMq_tr hF hF1
  have hx := zMx_f hx (zMf_q hF1)
  refine pm_blk hK zmm295 [] 1 5 [(2, 205), (9, 0)] [(0, (-1)), (0, x1)] μc1 [] rfl trivial ?_
  refine pm_icmp hK zmm295 .ne 5 10 rfl rfl (fun h0 => ?_) (fun h0 => ?_)
  · have h0 : x1 ≠ ((-1) : Int) := h0
    obtain ⟨g0, hm, hdu, hl9⟩ := zMok hR (by omega)
    have hjl := hm.1
    have fl25 := zT_get hTc1 zs205_25 (i := 25) (by omega) (by omega)
    have hk := zMs_k hx hm
    obtain ⟨t1, t2, t3, t4⟩ := id hm
    obtain ⟨v1, v2, v3, v4, v5⟩ := id t3
    refine pm_blk hK zmm295 [] 2 13 [(2, 205), (9, 0)] [(0, 60), (2, 205)] μc1 [] rfl trivial ?_
    refine pm_call hK zmm295 (230, 0, 283, 1) zM283 (0, 0) [(2, 205), (0, 60)] [] rfl rfl rfl rfl ⟨by omega, by rw [zn283]; omega⟩ (zm_isSign hK (j := pp) (c := 60) hx hm (by decide) ⟨Nat.le_refl _, Nat.le_refl _⟩) (fun st2 μc2 hp2 => ?_)
    obtain ⟨rfl, x2, rfl, hw2⟩ := hp2
    have hw := hw2
    refine pm_if hK zmm295 .ne 27 43 rfl rfl (fun h1 => ?_) (fun h1 => ?_)
    · have h1 : x2 ≠ (0 : Int) := h1
      have hcp : K pp = 60 ∨ K pp = 61 ∨ K pp = 62 := by omega
      have hjn : pp < N := by omega
      have f1 := zT_get hTc1 zs205_15 (i := 15) (by omega) (by omega)
      refine pm_blk hK zmm295 [] 3 49 [(2, 205), (9, 0)] [(0, 60), (0, μc1 205 15)] μc1 [] rfl trivial ?_
      refine pm_icmp hK zmm295 .ne 8 57 rfl rfl (fun h2 => ?_) (fun h2 => ?_)
      · have h2 : μc1 205 15 ≠ (60 : Int) := h2
        refine pm_blk hK zmm295 [] 3 63 [(2, 205), (9, 0)] [(0, 61), (0, μc1 205 15)] μc1 [] rfl trivial ?_
        refine pm_icmp hK zmm295 .ne 8 71 rfl rfl (fun h3 => ?_) (fun h3 => ?_)
        · have h3 : μc1 205 15 ≠ (61 : Int) := h3
          refine pm_blk hK zmm295 [] 3 75 [(2, 205), (0, 8)] [(2, 205)] μc1 [] rfl trivial ?_
          refine pm_call hK zmm295 (223, 0, 139, 0) zM139 (2, 44) [(2, 205)] [] rfl rfl rfl rfl ⟨by omega, by rw [zn139]; omega⟩ (zt_reads hK hTc1 (zMs_sp hx hm hjn) hb205 ⟨Nat.le_refl _, Nat.le_refl _⟩) (fun st3 μc3 hp3 => ?_)
          obtain ⟨rfl, hTc3, hr3⟩ := hp3
          have hm := zMs_rd hx hm hjn hr3
          have hF := zMq_tr hF (zMq_r (zMr_fr hr3.1))
          have hx := zMx_f hx (zMf_fr hr3.1)
          have h25 := hr3.1.2 25 (by decide) (by decide) (by decide) (by decide)
          have h218 := hr3.1.1 218 (by decide)
          have h219 := hr3.1.1 219 (by decide)
          have hdu := zRe_fr hdu h218 h219 h25
          refine pm_blk hK zmm295 [] 1 79 [(2, 205), (0, 8)] [(2, 205)] μc3 [] rfl trivial ?_
          refine pm_call hK zmm295 (236, 0, 288, 0) zM288 (5, 107) [(2, 205)] [] rfl rfl rfl rfl ⟨by omega, by rw [zn288]; omega⟩ (zn_sum hK (j := pp + 1) hx hm hTc3 (by omega) hb205 hb218 hb219 ⟨Nat.le_refl _, Nat.le_refl _⟩) (fun st4 μc4 hp4 => ?_)
          obtain ⟨x4, gg2, pp2, LL2, rfl, hTc4, hF4, hPP2, hR⟩ := hp4
          have hF := zMq_tr hF hF4
          have hx := zMx_f hx (zMf_q hF4)
          refine pm_blk hK zmm295 [] 1 83 [(2, 205), (0, 8)] [(0, (-1)), (0, x4)] μc4 [] rfl trivial ?_
          refine pm_icmp hK zmm295 .ne 5 88 rfl rfl (fun h4 => ?_) (fun h4 => ?_)
          · have h4 : x4 ≠ ((-1) : Int) := h4
            obtain ⟨g02, hm, hdu2, hl92⟩ := zMok hR (by omega)
            have hjl2 := hm.1
            have fl252 := zT_get hTc4 zs205_25 (i := 25) (by omega) (by omega)
            refine pm_blk hK zmm295 [] 3 91 [(2, 205), (0, 8)] [(0, 0), (0, 8), (2, 205)] μc4 [] rfl trivial ?_
            refine pm_call hK zmm295 (219, 0, 292, 2) zM292 (0, 0) [(2, 205), (0, 8), (0, 0)] [] rfl rfl rfl rfl ⟨by omega, by rw [zn292]; omega⟩ (zh_emits hK (o := 8) (v := 0) hTc4 ⟨by omega, by omega⟩ ⟨by omega, by omega⟩ ⟨by omega, by omega⟩ hb205 hb218 hb219 ⟨Nat.le_refl _, Nat.le_refl _⟩) (fun st5 μc5 hp5 => ?_)
            obtain ⟨rfl, hTc5, hE5⟩ := hp5
            have hm := zMs_q hm hE5
            have hF := zMq_tr hF (zMq_e hE5)
            have hx := zMx_f hx (zMf_q (zMq_e hE5))
            obtain ⟨hdd, hl8⟩ := zRe_e hE5
            refine pm_blk hK zmm295 [] 1 95 [(2, 205), (0, 8)] [(0, 0)] μc5 [] rfl trivial ?_
            exact pm_iret rfl rfl ⟨_, gg2, pp2, _, rfl, hTc5, hF, ⟨gg, pp, LL, hPP, Or.inr (Or.inr ⟨g0, hcp, LL2, hPP2, rfl⟩)⟩, Or.inl ⟨by decide, g02, hm, by rw [zXp_x _ (by unfold zCo; split; decide; split <;> decide), zXp_a]; exact zRe_tr (zRe_tr hdu hdu2) (zRe_x hdd (zCo_of (by omega)) rfl), by omega⟩⟩
          · have h4 : x4 = ((-1) : Int) := h4
            refine pm_blk hK zmm295 [] 1 87 [(2, 205), (0, 8)] [(0, (-1))] μc4 [] rfl trivial ?_
            obtain ⟨g1, hff⟩ := zMno hR (by omega)
            exact pm_iret rfl rfl ⟨_, gg2, pp2, _, rfl, hTc4, hF, ⟨gg, pp, LL, hPP, Or.inr (Or.inr ⟨g0, hcp, LL2, hPP2, rfl⟩)⟩, Or.inr ⟨rfl, g1, hff⟩⟩
        · have h3 : μc1 205 15 = (61 : Int) := h3
          refine pm_blk hK zmm295 [] 4 75 [(2, 205), (0, 7)] [(2, 205)] μc1 [] rfl trivial ?_
          refine pm_call hK zmm295 (223, 0, 139, 0) zM139 (2, 44) [(2, 205)] [] rfl rfl rfl rfl ⟨by omega, by rw [zn139]; omega⟩ (zt_reads hK hTc1 (zMs_sp hx hm hjn) hb205 ⟨Nat.le_refl _, Nat.le_refl _⟩) (fun st6 μc6 hp6 => ?_)
          obtain ⟨rfl, hTc6, hr6⟩ := hp6
          have hm := zMs_rd hx hm hjn hr6
          have hF := zMq_tr hF (zMq_r (zMr_fr hr6.1))
          have hx := zMx_f hx (zMf_fr hr6.1)
          have h25 := hr6.1.2 25 (by decide) (by decide) (by decide) (by decide)
          have h218 := hr6.1.1 218 (by decide)
          have h219 := hr6.1.1 219 (by decide)
          have hdu := zRe_fr hdu h218 h219 h25
          refine pm_blk hK zmm295 [] 1 79 [(2, 205), (0, 7)] [(2, 205)] μc6 [] rfl trivial ?_
          refine pm_call hK zmm295 (236, 0, 288, 0) zM288 (5, 107) [(2, 205)] [] rfl rfl rfl rfl ⟨by omega, by rw [zn288]; omega⟩ (zn_sum hK (j := pp + 1) hx hm hTc6 (by omega) hb205 hb218 hb219 ⟨Nat.le_refl _, Nat.le_refl _⟩) (fun st7 μc7 hp7 => ?_)
          obtain ⟨x7, gg2, pp2, LL2, rfl, hTc7, hF7, hPP2, hR⟩ := hp7
          have hF := zMq_tr hF hF7
          have hx := zMx_f hx (zMf_q hF7)
          refine pm_blk hK zmm295 [] 1 83 [(2, 205), (0, 7)] [(0, (-1)), (0, x7)] μc7 [] rfl trivial ?_
          refine pm_icmp hK zmm295 .ne 5 88 rfl rfl (fun h5 => ?_) (fun h5 => ?_)
          · have h5 : x7 ≠ ((-1) : Int) := h5
            obtain ⟨g02, hm, hdu2, hl92⟩ := zMok hR (by omega)
            have hjl2 := hm.1
            have fl252 := zT_get hTc7 zs205_25 (i := 25) (by omega) (by omega)
            refine pm_blk hK zmm295 [] 3 91 [(2, 205), (0, 7)] [(0, 0), (0, 7), (2, 205)] μc7 [] rfl trivial ?_
            refine pm_call hK zmm295 (219, 0, 292, 2) zM292 (0, 0) [(2, 205), (0, 7), (0, 0)] [] rfl rfl rfl rfl ⟨by omega, by rw [zn292]; omega⟩ (zh_emits hK (o := 7) (v := 0) hTc7 ⟨by omega, by omega⟩ ⟨by omega, by omega⟩ ⟨by omega, by omega⟩ hb205 hb218 hb219 ⟨Nat.le_refl _, Nat.le_refl _⟩) (fun st8 μc8 hp8 => ?_)
            obtain ⟨rfl, hTc8, hE8⟩ := hp8
            have hm := zMs_q hm hE8
            have hF := zMq_tr hF (zMq_e hE8)
            have hx := zMx_f hx (zMf_q (zMq_e hE8))
            obtain ⟨hdd, hl8⟩ := zRe_e hE8
            refine pm_blk hK zmm295 [] 1 95 [(2, 205), (0, 7)] [(0, 0)] μc8 [] rfl trivial ?_
            exact pm_iret rfl rfl ⟨_, gg2, pp2, _, rfl, hTc8, hF, ⟨gg, pp, LL, hPP, Or.inr (Or.inr ⟨g0, hcp, LL2, hPP2, rfl⟩)⟩, Or.inl ⟨by decide, g02, hm, by rw [zXp_x _ (by unfold zCo; split; decide; split <;> decide), zXp_a]; exact zRe_tr (zRe_tr hdu hdu2) (zRe_x hdd (zCo_of (by omega)) rfl), by omega⟩⟩
          · have h5 : x7 = ((-1) : Int) := h5
            refine pm_blk hK zmm295 [] 1 87 [(2, 205), (0, 7)] [(0, (-1))] μc7 [] rfl trivial ?_
            obtain ⟨g1, hff⟩ := zMno hR (by omega)
            exact pm_iret rfl rfl ⟨_, gg2, pp2, _, rfl, hTc7, hF, ⟨gg, pp, LL, hPP, Or.inr (Or.inr ⟨g0, hcp, LL2, hPP2, rfl⟩)⟩, Or.inr ⟨rfl, g1, hff⟩⟩
      · have h2 : μc1 205 15 = (60 : Int) := h2
        refine pm_blk hK zmm295 [] 4 75 [(2, 205), (0, 6)] [(2, 205)] μc1 [] rfl trivial ?_
        refine pm_call hK zmm295 (223, 0, 139, 0) zM139 (2, 44) [(2, 205)] [] rfl rfl rfl rfl ⟨by omega, by rw [zn139]; omega⟩ (zt_reads hK hTc1 (zMs_sp hx hm hjn) hb205 ⟨Nat.le_refl _, Nat.le_refl _⟩) (fun st9 μc9 hp9 => ?_)
        obtain ⟨rfl, hTc9, hr9⟩ := hp9
        have hm := zMs_rd hx hm hjn hr9
        have hF := zMq_tr hF (zMq_r (zMr_fr hr9.1))
        have hx := zMx_f hx (zMf_fr hr9.1)
        have h25 := hr9.1.2 25 (by decide) (by decide) (by decide) (by decide)
        have h218 := hr9.1.1 218 (by decide)
        have h219 := hr9.1.1 219 (by decide)
        have hdu := zRe_fr hdu h218 h219 h25
        refine pm_blk hK zmm295 [] 1 79 [(2, 205), (0, 6)] [(2, 205)] μc9 [] rfl trivial ?_
        refine pm_call hK zmm295 (236, 0, 288, 0) zM288 (5, 107) [(2, 205)] [] rfl rfl rfl rfl ⟨by omega, by rw [zn288]; omega⟩ (zn_sum hK (j := pp + 1) hx hm hTc9 (by omega) hb205 hb218 hb219 ⟨Nat.le_refl _, Nat.le_refl _⟩) (fun st10 μc10 hp10 => ?_)
        obtain ⟨x10, gg2, pp2, LL2, rfl, hTc10, hF10, hPP2, hR⟩ := hp10
        have hF := zMq_tr hF hF10
        have hx := zMx_f hx (zMf_q hF10)
        refine pm_blk hK zmm295 [] 1 83 [(2, 205), (0, 6)] [(0, (-1)), (0, x10)] μc10 [] rfl trivial ?_
        refine pm_icmp hK zmm295 .ne 5 88 rfl rfl (fun h6 => ?_) (fun h6 => ?_)
        · have h6 : x10 ≠ ((-1) : Int) := h6
          obtain ⟨g02, hm, hdu2, hl92⟩ := zMok hR (by omega)
          have hjl2 := hm.1
          have fl252 := zT_get hTc10 zs205_25 (i := 25) (by omega) (by omega)
          refine pm_blk hK zmm295 [] 3 91 [(2, 205), (0, 6)] [(0, 0), (0, 6), (2, 205)] μc10 [] rfl trivial ?_
          refine pm_call hK zmm295 (219, 0, 292, 2) zM292 (0, 0) [(2, 205), (0, 6), (0, 0)] [] rfl rfl rfl rfl ⟨by omega, by rw [zn292]; omega⟩ (zh_emits hK (o := 6) (v := 0) hTc10 ⟨by omega, by omega⟩ ⟨by omega, by omega⟩ ⟨by omega, by omega⟩ hb205 hb218 hb219 ⟨Nat.le_refl _, Nat.le_refl _⟩) (fun st11 μc11 hp11 => ?_)
          obtain ⟨rfl, hTc11, hE11⟩ := hp11
          have hm := zMs_q hm hE11
          have hF := zMq_tr hF (zMq_e hE11)
          have hx := zMx_f hx (zMf_q (zMq_e hE11))
          obtain ⟨hdd, hl8⟩ := zRe_e hE11
          refine pm_blk hK zmm295 [] 1 95 [(2, 205), (0, 6)] [(0, 0)] μc11 [] rfl trivial ?_
          exact pm_iret rfl rfl ⟨_, gg2, pp2, _, rfl, hTc11, hF, ⟨gg, pp, LL, hPP, Or.inr (Or.inr ⟨g0, hcp, LL2, hPP2, rfl⟩)⟩, Or.inl ⟨by decide, g02, hm, by rw [zXp_x _ (by unfold zCo; split; decide; split <;> decide), zXp_a]; exact zRe_tr (zRe_tr hdu hdu2) (zRe_x hdd (zCo_of (by omega)) rfl), by omega⟩⟩
        · have h6 : x10 = ((-1) : Int) := h6
          refine pm_blk hK zmm295 [] 1 87 [(2, 205), (0, 6)] [(0, (-1))] μc10 [] rfl trivial ?_
          obtain ⟨g1, hff⟩ := zMno hR (by omega)
          exact pm_iret rfl rfl ⟨_, gg2, pp2, _, rfl, hTc10, hF, ⟨gg, pp, LL, hPP, Or.inr (Or.inr ⟨g0, hcp, LL2, hPP2, rfl⟩)⟩, Or.inr ⟨rfl, g1, hff⟩⟩
    · have h1 : x2 = (0 : Int) := h1
      refine pm_blk hK zmm295 [] 2 22 [(2, 205), (9, 0)] [(0, 61), (2, 205)] μc1 [] rfl trivial ?_
      refine pm_call hK zmm295 (230, 0, 283, 1) zM283 (0, 0) [(2, 205), (0, 61)] [] rfl rfl rfl rfl ⟨by omega, by rw [zn283]; omega⟩ (zm_isSign hK (j := pp) (c := 61) hx hm (by decide) ⟨Nat.le_refl _, Nat.le_refl _⟩) (fun st12 μc12 hp12 => ?_)
      obtain ⟨rfl, x12, rfl, hw12⟩ := hp12
      have hw := hw12
      refine pm_if hK zmm295 .ne 18 43 rfl rfl (fun h7 => ?_) (fun h7 => ?_)
      · have h7 : x12 ≠ (0 : Int) := h7
        have hcp : K pp = 60 ∨ K pp = 61 ∨ K pp = 62 := by omega
        have hjn : pp < N := by omega
        have f2 := zT_get hTc1 zs205_15 (i := 15) (by omega) (by omega)
        refine pm_blk hK zmm295 [] 3 49 [(2, 205), (9, 0)] [(0, 60), (0, μc1 205 15)] μc1 [] rfl trivial ?_
        refine pm_icmp hK zmm295 .ne 8 57 rfl rfl (fun h8 => ?_) (fun h8 => ?_)
        · have h8 : μc1 205 15 ≠ (60 : Int) := h8
          refine pm_blk hK zmm295 [] 3 63 [(2, 205), (9, 0)] [(0, 61), (0, μc1 205 15)] μc1 [] rfl trivial ?_
          refine pm_icmp hK zmm295 .ne 8 71 rfl rfl (fun h9 => ?_) (fun h9 => ?_)
          · have h9 : μc1 205 15 ≠ (61 : Int) := h9
            refine pm_blk hK zmm295 [] 3 75 [(2, 205), (0, 8)] [(2, 205)] μc1 [] rfl trivial ?_
            refine pm_call hK zmm295 (223, 0, 139, 0) zM139 (2, 44) [(2, 205)] [] rfl rfl rfl rfl ⟨by omega, by rw [zn139]; omega⟩ (zt_reads hK hTc1 (zMs_sp hx hm hjn) hb205 ⟨Nat.le_refl _, Nat.le_refl _⟩) (fun st13 μc13 hp13 => ?_)
            obtain ⟨rfl, hTc13, hr13⟩ := hp13
            have hm := zMs_rd hx hm hjn hr13
            have hF := zMq_tr hF (zMq_r (zMr_fr hr13.1))
            have hx := zMx_f hx (zMf_fr hr13.1)
            have h25 := hr13.1.2 25 (by decide) (by decide) (by decide) (by decide)
            have h218 := hr13.1.1 218 (by decide)
            have h219 := hr13.1.1 219 (by decide)
            have hdu := zRe_fr hdu h218 h219 h25
            refine pm_blk hK zmm295 [] 1 79 [(2, 205), (0, 8)] [(2, 205)] μc13 [] rfl trivial ?_
            refine pm_call hK zmm295 (236, 0, 288, 0) zM288 (5, 107) [(2, 205)] [] rfl rfl rfl rfl ⟨by omega, by rw [zn288]; omega⟩ (zn_sum hK (j := pp + 1) hx hm hTc13 (by omega) hb205 hb218 hb219 ⟨Nat.le_refl _, Nat.le_refl _⟩) (fun st14 μc14 hp14 => ?_)
            obtain ⟨x14, gg2, pp2, LL2, rfl, hTc14, hF14, hPP2, hR⟩ := hp14
            have hF := zMq_tr hF hF14
            have hx := zMx_f hx (zMf_q hF14)
            refine pm_blk hK zmm295 [] 1 83 [(2, 205), (0, 8)] [(0, (-1)), (0, x14)] μc14 [] rfl trivial ?_
            refine pm_icmp hK zmm295 .ne 5 88 rfl rfl (fun h10 => ?_) (fun h10 => ?_)
            · have h10 : x14 ≠ ((-1) : Int) := h10
              obtain ⟨g02, hm, hdu2, hl92⟩ := zMok hR (by omega)
              have hjl2 := hm.1
              have fl252 := zT_get hTc14 zs205_25 (i := 25) (by omega) (by omega)
              refine pm_blk hK zmm295 [] 3 91 [(2, 205), (0, 8)] [(0, 0), (0, 8), (2, 205)] μc14 [] rfl trivial ?_
              refine pm_call hK zmm295 (219, 0, 292, 2) zM292 (0, 0) [(2, 205), (0, 8), (0, 0)] [] rfl rfl rfl rfl ⟨by omega, by rw [zn292]; omega⟩ (zh_emits hK (o := 8) (v := 0) hTc14 ⟨by omega, by omega⟩ ⟨by omega, by omega⟩ ⟨by omega, by omega⟩ hb205 hb218 hb219 ⟨Nat.le_refl _, Nat.le_refl _⟩) (fun st15 μc15 hp15 => ?_)
              obtain ⟨rfl, hTc15, hE15⟩ := hp15
              have hm := zMs_q hm hE15
              have hF := zMq_tr hF (zMq_e hE15)
              have hx := zMx_f hx (zMf_q (zMq_e hE15))
              obtain ⟨hdd, hl8⟩ := zRe_e hE15
              refine pm_blk hK zmm295 [] 1 95 [(2, 205), (0, 8)] [(0, 0)] μc15 [] rfl trivial ?_
              exact pm_iret rfl rfl ⟨_, gg2, pp2, _, rfl, hTc15, hF, ⟨gg, pp, LL, hPP, Or.inr (Or.inr ⟨g0, hcp, LL2, hPP2, rfl⟩)⟩, Or.inl ⟨by decide, g02, hm, by rw [zXp_x _ (by unfold zCo; split; decide; split <;> decide), zXp_a]; exact zRe_tr (zRe_tr hdu hdu2) (zRe_x hdd (zCo_of (by omega)) rfl), by omega⟩⟩
            · have h10 : x14 = ((-1) : Int) := h10
              refine pm_blk hK zmm295 [] 1 87 [(2, 205), (0, 8)] [(0, (-1))] μc14 [] rfl trivial ?_
              obtain ⟨g1, hff⟩ := zMno hR (by omega)
              exact pm_iret rfl rfl ⟨_, gg2, pp2, _, rfl, hTc14, hF, ⟨gg, pp, LL, hPP, Or.inr (Or.inr ⟨g0, hcp, LL2, hPP2, rfl⟩)⟩, Or.inr ⟨rfl, g1, hff⟩⟩
          · have h9 : μc1 205 15 = (61 : Int) := h9
            refine pm_blk hK zmm295 [] 4 75 [(2, 205), (0, 7)] [(2, 205)] μc1 [] rfl trivial ?_
            refine pm_call hK zmm295 (223, 0, 139, 0) zM139 (2, 44) [(2, 205)] [] rfl rfl rfl rfl ⟨by omega, by rw [zn139]; omega⟩ (zt_reads hK hTc1 (zMs_sp hx hm hjn) hb205 ⟨Nat.le_refl _, Nat.le_refl _⟩) (fun st16 μc16 hp16 => ?_)
            obtain ⟨rfl, hTc16, hr16⟩ := hp16
            have hm := zMs_rd hx hm hjn hr16
            have hF := zMq_tr hF (zMq_r (zMr_fr hr16.1))
            have hx := zMx_f hx (zMf_fr hr16.1)
            have h25 := hr16.1.2 25 (by decide) (by decide) (by decide) (by decide)
            have h218 := hr16.1.1 218 (by decide)
            have h219 := hr16.1.1 219 (by decide)
            have hdu := zRe_fr hdu h218 h219 h25
            refine pm_blk hK zmm295 [] 1 79 [(2, 205), (0, 7)] [(2, 205)] μc16 [] rfl trivial ?_
            refine pm_call hK zmm295 (236, 0, 288, 0) zM288 (5, 107) [(2, 205)] [] rfl rfl rfl rfl ⟨by omega, by rw [zn288]; omega⟩ (zn_sum hK (j := pp + 1) hx hm hTc16 (by omega) hb205 hb218 hb219 ⟨Nat.le_refl _, Nat.le_refl _⟩) (fun st17 μc17 hp17 => ?_)
            obtain ⟨x17, gg2, pp2, LL2, rfl, hTc17, hF17, hPP2, hR⟩ := hp17
            have hF := zMq_tr hF hF17
            have hx := zMx_f hx (zMf_q hF17)
            refine pm_blk hK zmm295 [] 1 83 [(2, 205), (0, 7)] [(0, (-1)), (0, x17)] μc17 [] rfl trivial ?_
            refine pm_icmp hK zmm295 .ne 5 88 rfl rfl (fun h11 => ?_) (fun h11 => ?_)
            · have h11 : x17 ≠ ((-1) : Int) := h11
              obtain ⟨g02, hm, hdu2, hl92⟩ := zMok hR (by omega)
              have hjl2 := hm.1
              have fl252 := zT_get hTc17 zs205_25 (i := 25) (by omega) (by omega)
              refine pm_blk hK zmm295 [] 3 91 [(2, 205), (0, 7)] [(0, 0), (0, 7), (2, 205)] μc17 [] rfl trivial ?_
              refine pm_call hK zmm295 (219, 0, 292, 2) zM292 (0, 0) [(2, 205), (0, 7), (0, 0)] [] rfl rfl rfl rfl ⟨by omega, by rw [zn292]; omega⟩ (zh_emits hK (o := 7) (v := 0) hTc17 ⟨by omega, by omega⟩ ⟨by omega, by omega⟩ ⟨by omega, by omega⟩ hb205 hb218 hb219 ⟨Nat.le_refl _, Nat.le_refl _⟩) (fun st18 μc18 hp18 => ?_)
              obtain ⟨rfl, hTc18, hE18⟩ := hp18
              have hm := zMs_q hm hE18
              have hF := zMq_tr hF (zMq_e hE18)
              have hx := zMx_f hx (zMf_q (zMq_e hE18))
              obtain ⟨hdd, hl8⟩ := zRe_e hE18
              refine pm_blk hK zmm295 [] 1 95 [(2, 205), (0, 7)] [(0, 0)] μc18 [] rfl trivial ?_
              exact pm_iret rfl rfl ⟨_, gg2, pp2, _, rfl, hTc18, hF, ⟨gg, pp, LL, hPP, Or.inr (Or.inr ⟨g0, hcp, LL2, hPP2, rfl⟩)⟩, Or.inl ⟨by decide, g02, hm, by rw [zXp_x _ (by unfold zCo; split; decide; split <;> decide), zXp_a]; exact zRe_tr (zRe_tr hdu hdu2) (zRe_x hdd (zCo_of (by omega)) rfl), by omega⟩⟩
            · have h11 : x17 = ((-1) : Int) := h11
              refine pm_blk hK zmm295 [] 1 87 [(2, 205), (0, 7)] [(0, (-1))] μc17 [] rfl trivial ?_
              obtain ⟨g1, hff⟩ := zMno hR (by omega)
              exact pm_iret rfl rfl ⟨_, gg2, pp2, _, rfl, hTc17, hF, ⟨gg, pp, LL, hPP, Or.inr (Or.inr ⟨g0, hcp, LL2, hPP2, rfl⟩)⟩, Or.inr ⟨rfl, g1, hff⟩⟩
        · have h8 : μc1 205 15 = (60 : Int) := h8
          refine pm_blk hK zmm295 [] 4 75 [(2, 205), (0, 6)] [(2, 205)] μc1 [] rfl trivial ?_
          refine pm_call hK zmm295 (223, 0, 139, 0) zM139 (2, 44) [(2, 205)] [] rfl rfl rfl rfl ⟨by omega, by rw [zn139]; omega⟩ (zt_reads hK hTc1 (zMs_sp hx hm hjn) hb205 ⟨Nat.le_refl _, Nat.le_refl _⟩) (fun st19 μc19 hp19 => ?_)
          obtain ⟨rfl, hTc19, hr19⟩ := hp19
          have hm := zMs_rd hx hm hjn hr19
          have hF := zMq_tr hF (zMq_r (zMr_fr hr19.1))
          have hx := zMx_f hx (zMf_fr hr19.1)
          have h25 := hr19.1.2 25 (by decide) (by decide) (by decide) (by decide)
          have h218 := hr19.1.1 218 (by decide)
          have h219 := hr19.1.1 219 (by decide)
          have hdu := zRe_fr hdu h218 h219 h25
          refine pm_blk hK zmm295 [] 1 79 [(2, 205), (0, 6)] [(2, 205)] μc19 [] rfl trivial ?_
          refine pm_call hK zmm295 (236, 0, 288, 0) zM288 (5, 107) [(2, 205)] [] rfl rfl rfl rfl ⟨by omega, by rw [zn288]; omega⟩ (zn_sum hK (j := pp + 1) hx hm hTc19 (by omega) hb205 hb218 hb219 ⟨Nat.le_refl _, Nat.le_refl _⟩) (fun st20 μc20 hp20 => ?_)
          obtain ⟨x20, gg2, pp2, LL2, rfl, hTc20, hF20, hPP2, hR⟩ := hp20
          have hF := zMq_tr hF hF20
          have hx := zMx_f hx (zMf_q hF20)
          refine pm_blk hK zmm295 [] 1 83 [(2, 205), (0, 6)] [(0, (-1)), (0, x20)] μc20 [] rfl trivial ?_
          refine pm_icmp hK zmm295 .ne 5 88 rfl rfl (fun h12 => ?_) (fun h12 => ?_)
          · have h12 : x20 ≠ ((-1) : Int) := h12
            obtain ⟨g02, hm, hdu2, hl92⟩ := zMok hR (by omega)
            have hjl2 := hm.1
            have fl252 := zT_get hTc20 zs205_25 (i := 25) (by omega) (by omega)
            refine pm_blk hK zmm295 [] 3 91 [(2, 205), (0, 6)] [(0, 0), (0, 6), (2, 205)] μc20 [] rfl trivial ?_
            refine pm_call hK zmm295 (219, 0, 292, 2) zM292 (0, 0) [(2, 205), (0, 6), (0, 0)] [] rfl rfl rfl rfl ⟨by omega, by rw [zn292]; omega⟩ (zh_emits hK (o := 6) (v := 0) hTc20 ⟨by omega, by omega⟩ ⟨by omega, by omega⟩ ⟨by omega, by omega⟩ hb205 hb218 hb219 ⟨Nat.le_refl _, Nat.le_refl _⟩) (fun st21 μc21 hp21 => ?_)
            obtain ⟨rfl, hTc21, hE21⟩ := hp21
            have hm := zMs_q hm hE21
            have hF := zMq_tr hF (zMq_e hE21)
            have hx := zMx_f hx (zMf_q (zMq_e hE21))
            obtain ⟨hdd, hl8⟩ := zRe_e hE21
            refine pm_blk hK zmm295 [] 1 95 [(2, 205), (0, 6)] [(0, 0)] μc21 [] rfl trivial ?_
            exact pm_iret rfl rfl ⟨_, gg2, pp2, _, rfl, hTc21, hF, ⟨gg, pp, LL, hPP, Or.inr (Or.inr ⟨g0, hcp, LL2, hPP2, rfl⟩)⟩, Or.inl ⟨by decide, g02, hm, by rw [zXp_x _ (by unfold zCo; split; decide; split <;> decide), zXp_a]; exact zRe_tr (zRe_tr hdu hdu2) (zRe_x hdd (zCo_of (by omega)) rfl), by omega⟩⟩
          · have h12 : x20 = ((-1) : Int) := h12
            refine pm_blk hK zmm295 [] 1 87 [(2, 205), (0, 6)] [(0, (-1))] μc20 [] rfl trivial ?_
            obtain ⟨g1, hff⟩ := zMno hR (by omega)
            exact pm_iret rfl rfl ⟨_, gg2, pp2, _, rfl, hTc20, hF, ⟨gg, pp, LL, hPP, Or.inr (Or.inr ⟨g0, hcp, LL2, hPP2, rfl⟩)⟩, Or.inr ⟨rfl, g1, hff⟩⟩
      · have h7 : x12 = (0 : Int) := h7
        refine pm_blk hK zmm295 [] 2 31 [(2, 205), (9, 0)] [(0, 62), (2, 205)] μc1 [] rfl trivial ?_
        refine pm_call hK zmm295 (230, 0, 283, 1) zM283 (0, 0) [(2, 205), (0, 62)] [] rfl rfl rfl rfl ⟨by omega, by rw [zn283]; omega⟩ (zm_isSign hK (j := pp) (c := 62) hx hm (by decide) ⟨Nat.le_refl _, Nat.le_refl _⟩) (fun st22 μc22 hp22 => ?_)
        obtain ⟨rfl, x22, rfl, hw22⟩ := hp22
        have hw := hw22
        refine pm_if hK zmm295 .ne 9 43 rfl rfl (fun h13 => ?_) (fun h13 => ?_)
        · have h13 : x22 ≠ (0 : Int) := h13
          have hcp : K pp = 60 ∨ K pp = 61 ∨ K pp = 62 := by omega
          have hjn : pp < N := by omega
          have f3 := zT_get hTc1 zs205_15 (i := 15) (by omega) (by omega)
          refine pm_blk hK zmm295 [] 3 49 [(2, 205), (9, 0)] [(0, 60), (0, μc1 205 15)] μc1 [] rfl trivial ?_
          refine pm_icmp hK zmm295 .ne 8 57 rfl rfl (fun h14 => ?_) (fun h14 => ?_)
          · have h14 : μc1 205 15 ≠ (60 : Int) := h14
            refine pm_blk hK zmm295 [] 3 63 [(2, 205), (9, 0)] [(0, 61), (0, μc1 205 15)] μc1 [] rfl trivial ?_
            refine pm_icmp hK zmm295 .ne 8 71 rfl rfl (fun h15 => ?_) (fun h15 => ?_)
            · have h15 : μc1 205 15 ≠ (61 : Int) := h15
              refine pm_blk hK zmm295 [] 3 75 [(2, 205), (0, 8)] [(2, 205)] μc1 [] rfl trivial ?_
              refine pm_call hK zmm295 (223, 0, 139, 0) zM139 (2, 44) [(2, 205)] [] rfl rfl rfl rfl ⟨by omega, by rw [zn139]; omega⟩ (zt_reads hK hTc1 (zMs_sp hx hm hjn) hb205 ⟨Nat.le_refl _, Nat.le_refl _⟩) (fun st23 μc23 hp23 => ?_)
              obtain ⟨rfl, hTc23, hr23⟩ := hp23
              have hm := zMs_rd hx hm hjn hr23
              have hF := zMq_tr hF (zMq_r (zMr_fr hr23.1))
              have hx := zMx_f hx (zMf_fr hr23.1)
              have h25 := hr23.1.2 25 (by decide) (by decide) (by decide) (by decide)
              have h218 := hr23.1.1 218 (by decide)
              have h219 := hr23.1.1 219 (by decide)
              have hdu := zRe_fr hdu h218 h219 h25
              refine pm_blk hK zmm295 [] 1 79 [(2, 205), (0, 8)] [(2, 205)] μc23 [] rfl trivial ?_
              refine pm_call hK zmm295 (236, 0, 288, 0) zM288 (5, 107) [(2, 205)] [] rfl rfl rfl rfl ⟨by omega, by rw [zn288]; omega⟩ (zn_sum hK (j := pp + 1) hx hm hTc23 (by omega) hb205 hb218 hb219 ⟨Nat.le_refl _, Nat.le_refl _⟩) (fun st24 μc24 hp24 => ?_)
              obtain ⟨x24, gg2, pp2, LL2, rfl, hTc24, hF24, hPP2, hR⟩ := hp24
              have hF := zMq_tr hF hF24
              have hx := zMx_f hx (zMf_q hF24)
              refine pm_blk hK zmm295 [] 1 83 [(2, 205), (0, 8)] [(0, (-1)), (0, x24)] μc24 [] rfl trivial ?_
              refine pm_icmp hK zmm295 .ne 5 88 rfl rfl (fun h16 => ?_) (fun h16 => ?_)
              · have h16 : x24 ≠ ((-1) : Int) := h16
                obtain ⟨g02, hm, hdu2, hl92⟩ := zMok hR (by omega)
                have hjl2 := hm.1
                have fl252 := zT_get hTc24 zs205_25 (i := 25) (by omega) (by omega)
                refine pm_blk hK zmm295 [] 3 91 [(2, 205), (0, 8)] [(0, 0), (0, 8), (2, 205)] μc24 [] rfl trivial ?_
                refine pm_call hK zmm295 (219, 0, 292, 2) zM292 (0, 0) [(2, 205), (0, 8), (0, 0)] [] rfl rfl rfl rfl ⟨by omega, by rw [zn292]; omega⟩ (zh_emits hK (o := 8) (v := 0) hTc24 ⟨by omega, by omega⟩ ⟨by omega, by omega⟩ ⟨by omega, by omega⟩ hb205 hb218 hb219 ⟨Nat.le_refl _, Nat.le_refl _⟩) (fun st25 μc25 hp25 => ?_)
                obtain ⟨rfl, hTc25, hE25⟩ := hp25
                have hm := zMs_q hm hE25
                have hF := zMq_tr hF (zMq_e hE25)
                have hx := zMx_f hx (zMf_q (zMq_e hE25))
                obtain ⟨hdd, hl8⟩ := zRe_e hE25
                refine pm_blk hK zmm295 [] 1 95 [(2, 205), (0, 8)] [(0, 0)] μc25 [] rfl trivial ?_
                exact pm_iret rfl rfl ⟨_, gg2, pp2, _, rfl, hTc25, hF, ⟨gg, pp, LL, hPP, Or.inr (Or.inr ⟨g0, hcp, LL2, hPP2, rfl⟩)⟩, Or.inl ⟨by decide, g02, hm, by rw [zXp_x _ (by unfold zCo; split; decide; split <;> decide), zXp_a]; exact zRe_tr (zRe_tr hdu hdu2) (zRe_x hdd (zCo_of (by omega)) rfl), by omega⟩⟩
              · have h16 : x24 = ((-1) : Int) := h16
                refine pm_blk hK zmm295 [] 1 87 [(2, 205), (0, 8)] [(0, (-1))] μc24 [] rfl trivial ?_
                obtain ⟨g1, hff⟩ := zMno hR (by omega)
                exact pm_iret rfl rfl ⟨_, gg2, pp2, _, rfl, hTc24, hF, ⟨gg, pp, LL, hPP, Or.inr (Or.inr ⟨g0, hcp, LL2, hPP2, rfl⟩)⟩, Or.inr ⟨rfl, g1, hff⟩⟩
            · have h15 : μc1 205 15 = (61 : Int) := h15
              refine pm_blk hK zmm295 [] 4 75 [(2, 205), (0, 7)] [(2, 205)] μc1 [] rfl trivial ?_
              refine pm_call hK zmm295 (223, 0, 139, 0) zM139 (2, 44) [(2, 205)] [] rfl rfl rfl rfl ⟨by omega, by rw [zn139]; omega⟩ (zt_reads hK hTc1 (zMs_sp hx hm hjn) hb205 ⟨Nat.le_refl _, Nat.le_refl _⟩) (fun st26 μc26 hp26 => ?_)
              obtain ⟨rfl, hTc26, hr26⟩ := hp26
              have hm := zMs_rd hx hm hjn hr26
              have hF := zMq_tr hF (zMq_r (zMr_fr hr26.1))
              have hx := zMx_f hx (zMf_fr hr26.1)
              have h25 := hr26.1.2 25 (by decide) (by decide) (by decide) (by decide)
              have h218 := hr26.1.1 218 (by decide)
              have h219 := hr26.1.1 219 (by decide)
              have hdu := zRe_fr hdu h218 h219 h25
              refine pm_blk hK zmm295 [] 1 79 [(2, 205), (0, 7)] [(2, 205)] μc26 [] rfl trivial ?_
              refine pm_call hK zmm295 (236, 0, 288, 0) zM288 (5, 107) [(2, 205)] [] rfl rfl rfl rfl ⟨by omega, by rw [zn288]; omega⟩ (zn_sum hK (j := pp + 1) hx hm hTc26 (by omega) hb205 hb218 hb219 ⟨Nat.le_refl _, Nat.le_refl _⟩) (fun st27 μc27 hp27 => ?_)
              obtain ⟨x27, gg2, pp2, LL2, rfl, hTc27, hF27, hPP2, hR⟩ := hp27
              have hF := zMq_tr hF hF27
              have hx := zMx_f hx (zMf_q hF27)
              refine pm_blk hK zmm295 [] 1 83 [(2, 205), (0, 7)] [(0, (-1)), (0, x27)] μc27 [] rfl trivial ?_
              refine pm_icmp hK zmm295 .ne 5 88 rfl rfl (fun h17 => ?_) (fun h17 => ?_)
              · have h17 : x27 ≠ ((-1) : Int) := h17
                obtain ⟨g02, hm, hdu2, hl92⟩ := zMok hR (by omega)
                have hjl2 := hm.1
                have fl252 := zT_get hTc27 zs205_25 (i := 25) (by omega) (by omega)
                refine pm_blk hK zmm295 [] 3 91 [(2, 205), (0, 7)] [(0, 0), (0, 7), (2, 205)] μc27 [] rfl trivial ?_
                refine pm_call hK zmm295 (219, 0, 292, 2) zM292 (0, 0) [(2, 205), (0, 7), (0, 0)] [] rfl rfl rfl rfl ⟨by omega, by rw [zn292]; omega⟩ (zh_emits hK (o := 7) (v := 0) hTc27 ⟨by omega, by omega⟩ ⟨by omega, by omega⟩ ⟨by omega, by omega⟩ hb205 hb218 hb219 ⟨Nat.le_refl _, Nat.le_refl _⟩) (fun st28 μc28 hp28 => ?_)
                obtain ⟨rfl, hTc28, hE28⟩ := hp28
                have hm := zMs_q hm hE28
                have hF := zMq_tr hF (zMq_e hE28)
                have hx := zMx_f hx (zMf_q (zMq_e hE28))
                obtain ⟨hdd, hl8⟩ := zRe_e hE28
                refine pm_blk hK zmm295 [] 1 95 [(2, 205), (0, 7)] [(0, 0)] μc28 [] rfl trivial ?_
                exact pm_iret rfl rfl ⟨_, gg2, pp2, _, rfl, hTc28, hF, ⟨gg, pp, LL, hPP, Or.inr (Or.inr ⟨g0, hcp, LL2, hPP2, rfl⟩)⟩, Or.inl ⟨by decide, g02, hm, by rw [zXp_x _ (by unfold zCo; split; decide; split <;> decide), zXp_a]; exact zRe_tr (zRe_tr hdu hdu2) (zRe_x hdd (zCo_of (by omega)) rfl), by omega⟩⟩
              · have h17 : x27 = ((-1) : Int) := h17
                refine pm_blk hK zmm295 [] 1 87 [(2, 205), (0, 7)] [(0, (-1))] μc27 [] rfl trivial ?_
                obtain ⟨g1, hff⟩ := zMno hR (by omega)
                exact pm_iret rfl rfl ⟨_, gg2, pp2, _, rfl, hTc27, hF, ⟨gg, pp, LL, hPP, Or.inr (Or.inr ⟨g0, hcp, LL2, hPP2, rfl⟩)⟩, Or.inr ⟨rfl, g1, hff⟩⟩
          · have h14 : μc1 205 15 = (60 : Int) := h14
            refine pm_blk hK zmm295 [] 4 75 [(2, 205), (0, 6)] [(2, 205)] μc1 [] rfl trivial ?_
            refine pm_call hK zmm295 (223, 0, 139, 0) zM139 (2, 44) [(2, 205)] [] rfl rfl rfl rfl ⟨by omega, by rw [zn139]; omega⟩ (zt_reads hK hTc1 (zMs_sp hx hm hjn) hb205 ⟨Nat.le_refl _, Nat.le_refl _⟩) (fun st29 μc29 hp29 => ?_)
            obtain ⟨rfl, hTc29, hr29⟩ := hp29
            have hm := zMs_rd hx hm hjn hr29
            have hF := zMq_tr hF (zMq_r (zMr_fr hr29.1))
            have hx := zMx_f hx (zMf_fr hr29.1)
            have h25 := hr29.1.2 25 (by decide) (by decide) (by decide) (by decide)
            have h218 := hr29.1.1 218 (by decide)
            have h219 := hr29.1.1 219 (by decide)
            have hdu := zRe_fr hdu h218 h219 h25
            refine pm_blk hK zmm295 [] 1 79 [(2, 205), (0, 6)] [(2, 205)] μc29 [] rfl trivial ?_
            refine pm_call hK zmm295 (236, 0, 288, 0) zM288 (5, 107) [(2, 205)] [] rfl rfl rfl rfl ⟨by omega, by rw [zn288]; omega⟩ (zn_sum hK (j := pp + 1) hx hm hTc29 (by omega) hb205 hb218 hb219 ⟨Nat.le_refl _, Nat.le_refl _⟩) (fun st30 μc30 hp30 => ?_)
            obtain ⟨x30, gg2, pp2, LL2, rfl, hTc30, hF30, hPP2, hR⟩ := hp30
            have hF := zMq_tr hF hF30
            have hx := zMx_f hx (zMf_q hF30)
            refine pm_blk hK zmm295 [] 1 83 [(2, 205), (0, 6)] [(0, (-1)), (0, x30)] μc30 [] rfl trivial ?_
            refine pm_icmp hK zmm295 .ne 5 88 rfl rfl (fun h18 => ?_) (fun h18 => ?_)
            · have h18 : x30 ≠ ((-1) : Int) := h18
              obtain ⟨g02, hm, hdu2, hl92⟩ := zMok hR (by omega)
              have hjl2 := hm.1
              have fl252 := zT_get hTc30 zs205_25 (i := 25) (by omega) (by omega)
              refine pm_blk hK zmm295 [] 3 91 [(2, 205), (0, 6)] [(0, 0), (0, 6), (2, 205)] μc30 [] rfl trivial ?_
              refine pm_call hK zmm295 (219, 0, 292, 2) zM292 (0, 0) [(2, 205), (0, 6), (0, 0)] [] rfl rfl rfl rfl ⟨by omega, by rw [zn292]; omega⟩ (zh_emits hK (o := 6) (v := 0) hTc30 ⟨by omega, by omega⟩ ⟨by omega, by omega⟩ ⟨by omega, by omega⟩ hb205 hb218 hb219 ⟨Nat.le_refl _, Nat.le_refl _⟩) (fun st31 μc31 hp31 => ?_)
              obtain ⟨rfl, hTc31, hE31⟩ := hp31
              have hm := zMs_q hm hE31
              have hF := zMq_tr hF (zMq_e hE31)
              have hx := zMx_f hx (zMf_q (zMq_e hE31))
              obtain ⟨hdd, hl8⟩ := zRe_e hE31
              refine pm_blk hK zmm295 [] 1 95 [(2, 205), (0, 6)] [(0, 0)] μc31 [] rfl trivial ?_
              exact pm_iret rfl rfl ⟨_, gg2, pp2, _, rfl, hTc31, hF, ⟨gg, pp, LL, hPP, Or.inr (Or.inr ⟨g0, hcp, LL2, hPP2, rfl⟩)⟩, Or.inl ⟨by decide, g02, hm, by rw [zXp_x _ (by unfold zCo; split; decide; split <;> decide), zXp_a]; exact zRe_tr (zRe_tr hdu hdu2) (zRe_x hdd (zCo_of (by omega)) rfl), by omega⟩⟩
            · have h18 : x30 = ((-1) : Int) := h18
              refine pm_blk hK zmm295 [] 1 87 [(2, 205), (0, 6)] [(0, (-1))] μc30 [] rfl trivial ?_
              obtain ⟨g1, hff⟩ := zMno hR (by omega)
              exact pm_iret rfl rfl ⟨_, gg2, pp2, _, rfl, hTc30, hF, ⟨gg, pp, LL, hPP, Or.inr (Or.inr ⟨g0, hcp, LL2, hPP2, rfl⟩)⟩, Or.inr ⟨rfl, g1, hff⟩⟩
        · have h13 : x22 = (0 : Int) := h13
          refine pm_blk hK zmm295 [] 2 39 [(2, 205), (9, 0)] [(0, 1), (2, 205)] μc1 [] rfl trivial ?_
          refine pm_call hK zmm295 (216, 0, 278, 1) zM278 (0, 0) [(2, 205), (0, 1)] [] rfl rfl rfl rfl ⟨by omega, by rw [zn278]; omega⟩ (zm_errs hK (j := pp) hx hm hTc1 ⟨by omega, by omega⟩ hb205 ⟨Nat.le_refl _, Nat.le_refl _⟩) (fun st32 μc32 hp32 => ?_)
          obtain ⟨rfl, hTc32, hF32, hf32⟩ := hp32
          have hF := zMq_tr hF (zMq_r hF32)
          have hff := hf32
          exact pm_iret rfl rfl ⟨_, 1, pp, [], rfl, hTc32, hF, ⟨gg, pp, LL, hPP, Or.inr (Or.inl ⟨g0, by omega, by omega, by omega, rfl, rfl⟩)⟩, Or.inr ⟨rfl, by decide, hff⟩⟩
  · have h0 : x1 = ((-1) : Int) := h0
    refine pm_blk hK zmm295 [] 1 9 [(2, 205), (9, 0)] [(0, (-1))] μc1 [] rfl trivial ?_
    obtain ⟨g1, hff⟩ := zMno hR (by omega)
    exact pm_iret rfl rfl ⟨_, gg, pp, [], rfl, hTc1, hF, ⟨gg, pp, LL, hPP, Or.inl ⟨g1, rfl, rfl⟩⟩, Or.inr ⟨rfl, g1, hff⟩⟩
end ZHW
