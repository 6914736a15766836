/-! THE LAW: read by the class; walks printed by program (wip/p30/pmgen.py) and filled by hand -/
section ZHW
variable {φ : Option pm_Mem}
variable {D : va_G} {Wm : Nat} {ST : List (String × String × String × Nat)} {b0 : sx_B} {l : Launch} {Sg : Nat → Option Nat} {bud : sx_Bu} {μ : pm_Mem} {B0 : Nat → Prop} {J : (Nat → Option Nat) → Heap → Prop}
set_option maxRecDepth 100000 in
theorem zw_line (hK : zKK ST) {ln : Int} {K S V : Int → Int} {n j : Int} (h : zCq K S V n j μ) (hKn : zKn K V n) (hT : zTJ φ μ) (hcl : μ 93 3 ≤ j) (hln : μ 93 2 = ln) (hl : 0 ≤ ln ∧ ln ≤ 15) (hb88 : sx_bit Wm 88 = true) (hb93 : sx_bit Wm 93 = true) (hb95 : sx_bit Wm 95 = true) (hb94 : sx_bit Wm 94 = true) (hbd : 29 ≤ bud.1 ∧ 676 ≤ bud.2.1) : zC D Wm ST b0 l Sg zM244 bud [(2, 88)] μ (fun st' μ' => ∃ x f q EE BB, st' = [(0, x)] ∧ zTJ φ μ' ∧ zCfx μ μ' ∧ zPa0 K V j f q EE BB ∧ ((x = 1 ∧ f = 0 ∧ zCq K S V n q μ' ∧ zCe0 μ μ' EE BB ln ∧ μ' 93 3 + j ≤ μ 93 3 + q) ∨ (x = 0 ∧ f ≠ 0 ∧ zFl S f q μ'))) := by
  have hc := h
  have hF : zCfx μ μ := zCfx_refl
  obtain ⟨⟨q1, q2, q3⟩, q4, q5, q6⟩ := id h
  have fv := zT_get hT zs92_0 (i := j) (by omega) (by omega)
  rw [q3] at fv
  have hlm := hln
  have f933 := zT_get hT zs93_3 (i := 3) (by omega) (by omega)
  have f1 := zT_get hT zs93_3 (i := 3) (by omega) (by omega)
  refine pm_blk hK zmm244 [] 6 12 [(2, 88)] [(0, μ 93 3), (0, 1), (2, 93)] μ [] rfl trivial ?_
  refine pm_call hK zmm244 (143, 0, 243, 2) zM243 (1, 22) [(2, 93), (0, 1), (0, μ 93 3)] [] rfl rfl rfl rfl ⟨by omega, by rw [zn243]; omega⟩ (zg_put hK (c := 1) (v := (μ 93 3)) hT hlm ⟨by omega, by omega⟩ ⟨by omega, by omega⟩ ⟨by omega, by omega⟩ hb94 ⟨Nat.le_refl _, Nat.le_refl _⟩) (fun st1 μc1 hp1 => ?_)
  obtain ⟨rfl, hTc1, ep1⟩ := hp1
  have hc : zCq K S V n j μc1 := by rw [ep1]; exact zCl_o hc (by decide)
  have hF := zCfx_tr hF (zCfx_f (show zCf _ μc1 by rw [ep1]; exact zCf_94 zCf_refl))
  have hlm : μc1 93 2 = ln := by rw [ep1, pm_up_off (by decide)]; exact hlm
  have p1 := congrFun ep1 94
  rw [pm_up_zpu] at p1
  have r1 := congrFun (congrFun ep1 93) 3
  rw [pm_up_off (by decide)] at r1
  have s1 := congrFun ep1 95
  rw [pm_up_row (by decide)] at s1
  refine pm_blk hK zmm244 [] 1 16 [(2, 88)] [(2, 88)] μc1 [] rfl trivial ?_
  refine pm_call hK zmm244 (164, 0, 245, 0) zM245 (2, 46) [(2, 88)] [] rfl rfl rfl rfl ⟨by omega, by rw [zn245]; omega⟩ (zw_expr hK hc hKn hTc1 (by omega) hb88 hb93 hb95 ⟨Nat.le_refl _, Nat.le_refl _⟩) (fun st2 μc2 hp2 => ?_)
  obtain ⟨x2, gg, pp, LL, rfl, hTc2, hC2, hPP, hQ⟩ := hp2
  have hx201 : x2 = 0 ∨ x2 = 1 := by rcases hQ with q | q; exact Or.inr q.1; exact Or.inl q.1
  have hF := zCfx_tr hF hC2
  have hlm : μc2 93 2 = ln := by rw [hC2.2.2 2 (by decide)]; exact hlm
  refine pm_if hK zmm244 .ne 5 24 rfl rfl (fun h0 => ?_) (fun h0 => ?_)
  · have h0 : x2 ≠ (0 : Int) := h0
    obtain ⟨g0, hc, hdu, hl9⟩ := zGok hQ h0
    have hpl := hc.2.2.2.1
    have f2 := zT_get hTc2 zs93_3 (i := 3) (by omega) (by omega)
    refine pm_blk hK zmm244 [] 6 36 [(2, 88)] [(0, μc2 93 3), (0, 2), (2, 93)] μc2 [] rfl trivial ?_
    refine pm_call hK zmm244 (143, 0, 243, 2) zM243 (1, 22) [(2, 93), (0, 2), (0, μc2 93 3)] [] rfl rfl rfl rfl ⟨by omega, by rw [zn243]; omega⟩ (zg_put hK (c := 2) (v := (μc2 93 3)) hTc2 hlm ⟨by omega, by omega⟩ ⟨by omega, by omega⟩ ⟨by omega, by omega⟩ hb94 ⟨Nat.le_refl _, Nat.le_refl _⟩) (fun st3 μc3 hp3 => ?_)
    obtain ⟨rfl, hTc3, ep3⟩ := hp3
    have hc : zCq K S V n pp μc3 := by rw [ep3]; exact zCl_o hc (by decide)
    have hF := zCfx_tr hF (zCfx_f (show zCf _ μc3 by rw [ep3]; exact zCf_94 zCf_refl))
    have hlm : μc3 93 2 = ln := by rw [ep3, pm_up_off (by decide)]; exact hlm
    have p2 := congrFun ep3 94
    rw [pm_up_zpu] at p2
    have r2 := congrFun (congrFun ep3 93) 3
    rw [pm_up_off (by decide)] at r2
    have s2 := congrFun ep3 95
    rw [pm_up_row (by decide)] at s2
    refine pm_blk hK zmm244 [] 1 40 [(2, 88)] [(2, 88)] μc3 [] rfl trivial ?_
    refine pm_call hK zmm244 (70, 0, 53, 0) zM53 (0, 0) [(2, 88)] [] rfl rfl rfl rfl ⟨by omega, by rw [zn53]; omega⟩ (zg_kind hK (j := pp) hc ⟨Nat.le_refl _, Nat.le_refl _⟩) (fun st4 μc4 hp4 => ?_)
    obtain ⟨rfl, rfl⟩ := hp4
    refine pm_blk hK zmm244 [] 1 46 [(2, 88)] [(0, 314), (0, K pp)] μc3 [] rfl trivial ?_
    refine pm_icmp hK zmm244 .ne 23 69 rfl rfl (fun h1 => ?_) (fun h1 => ?_)
    · have h1 : K pp ≠ (314 : Int) := h1
      have h9w := h1
      have f3 := zT_get hTc3 zs93_3 (i := 3) (by omega) (by omega)
      refine pm_blk hK zmm244 [] 6 81 [(2, 88)] [(0, μc3 93 3), (0, 3), (2, 93)] μc3 [] rfl trivial ?_
      refine pm_call hK zmm244 (143, 0, 243, 2) zM243 (1, 22) [(2, 93), (0, 3), (0, μc3 93 3)] [] rfl rfl rfl rfl ⟨by omega, by rw [zn243]; omega⟩ (zg_put hK (c := 3) (v := (μc3 93 3)) hTc3 hlm ⟨by omega, by omega⟩ ⟨by omega, by omega⟩ ⟨by omega, by omega⟩ hb94 ⟨Nat.le_refl _, Nat.le_refl _⟩) (fun st5 μc5 hp5 => ?_)
      obtain ⟨rfl, hTc5, ep5⟩ := hp5
      have hc : zCq K S V n pp μc5 := by rw [ep5]; exact zCl_o hc (by decide)
      have hF := zCfx_tr hF (zCfx_f (show zCf _ μc5 by rw [ep5]; exact zCf_94 zCf_refl))
      have hlm : μc5 93 2 = ln := by rw [ep5, pm_up_off (by decide)]; exact hlm
      have p4 := congrFun ep5 94
      rw [pm_up_zpu] at p4
      have r4 := congrFun (congrFun ep5 93) 3
      rw [pm_up_off (by decide)] at r4
      have s4 := congrFun ep5 95
      rw [pm_up_row (by decide)] at s4
      refine pm_blk hK zmm244 [] 1 85 [(2, 88)] [(0, 1)] μc5 [] rfl trivial ?_
      first
      | exact pm_zret rfl rfl (by first | exact Or.inl rfl | exact Or.inr rfl | omega) ⟨1, 0, pp, LL, [], rfl, hTc5, hF, ⟨gg, pp, hPP, Or.inr (Or.inl ⟨g0, h9w, rfl, rfl, rfl⟩)⟩, Or.inl ⟨rfl, rfl, hc, zCe0_of p1 r1 s1 hdu p2 r2 s2 rfl rfl rfl zCd_0 p4 r4 s4, by omega⟩⟩
      | exact pm_zret rfl rfl (by first | exact Or.inl rfl | exact Or.inr rfl | omega) ⟨1, gg2, pp2, LL, LL2, rfl, hTc5, hF, ⟨gg, pp, hPP, Or.inr (Or.inr ⟨g0, hkw, hPP2⟩)⟩, Or.inl ⟨rfl, g02, hc, zCe0_of p1 r1 s1 hdu p2 r2 s2 p3 r3 s3 hdu2 p4 r4 s4, by omega⟩⟩
      | (exfalso; omega)
    · have h1 : K pp = (314 : Int) := h1
      have hkw := h1
      have hpn : pp ≠ n := fun he => by rw [he, hKn.1] at hkw; omega
      have h8c := hc.2.2.1
      have f4 := zT_get hTc3 zs88_8 (i := 8) (by omega) (by omega)
      refine pm_blk hK zmm244 [] 6 59 [(2, 88)] [] (pm_up μc3 88 8 ((μc3 88 8) + 1)) [pm_in ((μc3 88 8) + 1), sx_bit Wm 88 = true] rfl ⟨pm_in_mk (by omega) (by omega), hb88, trivial⟩ ?_
      obtain ⟨μ1, eμ1⟩ : ∃ μ', μ' = pm_up μc3 88 8 ((μc3 88 8) + 1) := ⟨_, rfl⟩
      rw [← eμ1]
      have hTμ1 : zTJ φ μ1 := by rw [eμ1]; exact zT_up hTc3 zs88_8 rfl (i := 8) (by omega) (by omega) (by omega) (by omega)
      have hc := zCl_8 (j' := pp + 1) hc eμ1 (by rw [hc.2.2.1]) ⟨by omega, by omega⟩
      have hF := zCfx_tr hF (zCfx_f (show zCf μc3 μ1 by rw [eμ1]; exact zCf_88 zCf_refl (by omega)))
      have hz3 : μ1 93 3 = μc3 93 3 := by rw [eμ1, pm_up_off (by decide)]
      have hz5 : μ1 95 = μc3 95 := by rw [eμ1, pm_up_row (by decide)]
      have hz4 : μ1 94 = μc3 94 := by rw [eμ1, pm_up_row (by decide)]
      have p3 : μ1 94 = μc3 94 := by rw [eμ1, pm_up_row (by decide)]
      have r3 : μ1 93 3 = μc3 93 3 := by rw [eμ1, pm_up_off (by decide)]
      have s3 : μ1 95 = μc3 95 := by rw [eμ1, pm_up_row (by decide)]
      have hlm : μ1 93 2 = ln := by rw [eμ1, pm_up_off (by decide)]; exact hlm
      refine pm_blk hK zmm244 [] 2 61 [(2, 88)] [(0, 0), (2, 88)] μ1 [] rfl trivial ?_
      refine pm_call hK zmm244 (167, 0, 251, 1) zM251 (28, 652) [(2, 88), (0, 0)] [] rfl rfl rfl rfl ⟨by omega, by rw [zn251]; omega⟩ ((zw_lev hK hKn hb88 hb93 hb95 8 0 (by decide) (by decide)).2 _ _ (pp + 1) hTμ1 hc (by omega) ⟨Nat.le_refl _, Nat.le_refl _⟩) (fun st6 μc6 hp6 => ?_)
      obtain ⟨x6, gg2, pp2, LL2, rfl, hTc6, hC6, hPP2, hQ⟩ := hp6
      have hx601 : x6 = 0 ∨ x6 = 1 := by rcases hQ with q | q; exact Or.inr q.1; exact Or.inl q.1
      have hF := zCfx_tr hF hC6
      have hlm : μc6 93 2 = ln := by rw [hC6.2.2 2 (by decide)]; exact hlm
      refine pm_if hK zmm244 .ne 5 69 rfl rfl (fun h2 => ?_) (fun h2 => ?_)
      · have h2 : x6 ≠ (0 : Int) := h2
        have h9w := h2
        obtain ⟨g02, hc, hdu2, hl92⟩ := zGok hQ h2
        have hpl2 := hc.2.2.2.1
        have f5 := zT_get hTc6 zs93_3 (i := 3) (by omega) (by omega)
        refine pm_blk hK zmm244 [] 6 81 [(2, 88)] [(0, μc6 93 3), (0, 3), (2, 93)] μc6 [] rfl trivial ?_
        refine pm_call hK zmm244 (143, 0, 243, 2) zM243 (1, 22) [(2, 93), (0, 3), (0, μc6 93 3)] [] rfl rfl rfl rfl ⟨by omega, by rw [zn243]; omega⟩ (zg_put hK (c := 3) (v := (μc6 93 3)) hTc6 hlm ⟨by omega, by omega⟩ ⟨by omega, by omega⟩ ⟨by omega, by omega⟩ hb94 ⟨Nat.le_refl _, Nat.le_refl _⟩) (fun st7 μc7 hp7 => ?_)
        obtain ⟨rfl, hTc7, ep7⟩ := hp7
        have hc : zCq K S V n pp2 μc7 := by rw [ep7]; exact zCl_o hc (by decide)
        have hF := zCfx_tr hF (zCfx_f (show zCf _ μc7 by rw [ep7]; exact zCf_94 zCf_refl))
        have hlm : μc7 93 2 = ln := by rw [ep7, pm_up_off (by decide)]; exact hlm
        have p4 := congrFun ep7 94
        rw [pm_up_zpu] at p4
        have r4 := congrFun (congrFun ep7 93) 3
        rw [pm_up_off (by decide)] at r4
        have s4 := congrFun ep7 95
        rw [pm_up_row (by decide)] at s4
        refine pm_blk hK zmm244 [] 1 85 [(2, 88)] [(0, 1)] μc7 [] rfl trivial ?_
        first
        | exact pm_zret rfl rfl (by first | exact Or.inl rfl | exact Or.inr rfl | omega) ⟨1, 0, pp, LL, [], rfl, hTc7, hF, ⟨gg, pp, hPP, Or.inr (Or.inl ⟨g0, h9w, rfl, rfl, rfl⟩)⟩, Or.inl ⟨rfl, rfl, hc, zCe0_of p1 r1 s1 hdu p2 r2 s2 rfl rfl rfl zCd_0 p4 r4 s4, by omega⟩⟩
        | exact pm_zret rfl rfl (by first | exact Or.inl rfl | exact Or.inr rfl | omega) ⟨1, gg2, pp2, LL, LL2, rfl, hTc7, hF, ⟨gg, pp, hPP, Or.inr (Or.inr ⟨g0, hkw, hPP2⟩)⟩, Or.inl ⟨rfl, g02, hc, zCe0_of p1 r1 s1 hdu p2 r2 s2 p3 r3 s3 hdu2 p4 r4 s4, by omega⟩⟩
        | (exfalso; omega)
      · have h2 : x6 = (0 : Int) := h2
        refine pm_blk hK zmm244 [] 1 68 [(2, 88)] [(0, 0)] μc6 [] rfl trivial ?_
        obtain ⟨g1, hfl⟩ := zGno hQ h2
        exact pm_zret rfl rfl (by first | exact Or.inl rfl | exact Or.inr rfl | omega) ⟨0, gg2, pp2, LL, LL2, rfl, hTc6, hF, ⟨gg, pp, hPP, Or.inr (Or.inr ⟨g0, hkw, hPP2⟩)⟩, Or.inr ⟨rfl, g1, hfl⟩⟩
  · have h0 : x2 = (0 : Int) := h0
    refine pm_blk hK zmm244 [] 1 23 [(2, 88)] [(0, 0)] μc2 [] rfl trivial ?_
    obtain ⟨g1, hfl⟩ := zGno hQ h0
    exact pm_zret rfl rfl (by first | exact Or.inl rfl | exact Or.inr rfl | omega) ⟨0, gg, pp, LL, [], rfl, hTc2, hF, ⟨gg, pp, hPP, Or.inl ⟨g1, rfl, rfl⟩⟩, Or.inr ⟨rfl, g1, hfl⟩⟩
set_option maxRecDepth 100000 in
theorem zg_beg0 (hK : zKK ST) {j1 ln : Int} {K S V : Int → Int} {n j : Int} (h : zCq K S V n j μ) (hKn : zKn K V n) (hj1 : j1 = j + 1) (hT : zTJ φ μ) (hln : μ 93 2 = ln) (hl : 0 ≤ ln ∧ ln ≤ 16) (hb88 : sx_bit Wm 88 = true) (hb94 : sx_bit Wm 94 = true) (hbd : 2 ≤ bud.1 ∧ 45 ≤ bud.2.1) : zC D Wm ST b0 l Sg zM241 bud [(2, 88), (0, 0)] μ (fun st' μ' => ∃ x, st' = [(0, x)] ∧ zTJ φ μ' ∧ zCf μ μ' ∧ (x ≠ 0 → x = 1 ∧ ((300 ≤ K j ∧ K j ≤ 302) ∧ ln ≤ 15) ∧ zCq K S V n j1 μ' ∧ μ' 94 = zpu (μ 94) (ln * 4 + 0) (K j)) ∧ (x = 0 → zXi (fun f => ((f = 1 ∧ ¬ (300 ≤ K j ∧ K j ≤ 302)) ∨ (f = 3 ∧ (300 ≤ K j ∧ K j ≤ 302) ∧ ln = 16)) ∧ zFl S f j μ'))) := by
  obtain ⟨⟨q1, q2, q3⟩, q4, q5, q6⟩ := id h
  refine pm_blk hK zmm241 [] 1 1 [(2, 88), (0, 0), (9, 0), (9, 0)] [(2, 88)] μ [] rfl trivial ?_
  refine pm_call hK zmm241 (70, 0, 53, 0) zM53 (0, 0) [(2, 88)] [] rfl rfl rfl rfl ⟨by omega, by rw [zn53]; omega⟩ (zg_kind hK h ⟨Nat.le_refl _, Nat.le_refl _⟩) (fun st1 μc1 hp1 => ?_)
  obtain ⟨rfl, rfl⟩ := hp1
  refine pm_blk hK zmm241 [] 2 6 [(2, 88), (0, 0), (0, K j), (9, 0)] [(0, 0)] μ [] rfl trivial ?_
  refine zp_tin_TT hK zmm241 (off := 26) (tgt := 32) rfl (by decide) (by decide) rfl (by decide) ?_
  refine pm_blk hK zmm241 [] 3 39 [(2, 88), (0, 0), (0, K j), (9, 0)] [(0, 302), (0, 300), (0, K j)] μ [] rfl trivial ?_
  refine pm_call hK zmm241 (53, 1, 16, 3) zM16 (0, 0) [(0, K j), (0, 300), (0, 302)] [] rfl rfl rfl rfl ⟨by omega, by rw [zn16]; omega⟩ (zh_within hK ⟨Nat.le_refl _, Nat.le_refl _⟩) (fun st2 μc2 hp2 => ?_)
  obtain ⟨rfl, rfl⟩ := hp2
  refine pm_blk hK zmm241 [] 3 92 [(2, 88), (0, 0), (0, K j), (0, if 300 ≤ (K j) ∧ (K j) ≤ 302 then 1 else 0)] [(0, if 300 ≤ (K j) ∧ (K j) ≤ 302 then 1 else 0)] μ [] rfl trivial ?_
  refine pm_if hK zmm241 .ne 9 101 rfl rfl (fun h1 => ?_) (fun h1 => ?_)
  · have h1 : (if 300 ≤ (K j) ∧ (K j) ≤ 302 then 1 else 0 : Int) ≠ (0 : Int) := h1
    have h1 := zif1 h1
    have hkw := h1
    have hjn : j ≠ n := fun he => by rw [he, hKn.1] at hkw; omega
    have f1 := zT_get hT zs93_2 (i := 2) (by omega) (by omega)
    refine pm_blk hK zmm241 [] 4 110 [(2, 88), (0, 0), (0, K j), (0, if 300 ≤ (K j) ∧ (K j) ≤ 302 then 1 else 0)] [(0, 16), (0, μ 93 2)] μ [] rfl trivial ?_
    refine pm_icmp hK zmm241 .lt 9 119 rfl rfl (fun h2 => ?_) (fun h2 => ?_)
    · have h2 : μ 93 2 < (16 : Int) := h2
      have hl15 := h2
      refine pm_blk hK zmm241 [] 4 125 [(2, 88), (0, 0), (0, K j), (0, if 300 ≤ (K j) ∧ (K j) ≤ 302 then 1 else 0)] [(0, K j), (0, 0), (2, 93)] μ [] rfl trivial ?_
      refine pm_call hK zmm241 (143, 0, 243, 2) zM243 (1, 22) [(2, 93), (0, 0), (0, K j)] [] rfl rfl rfl rfl ⟨by omega, by rw [zn243]; omega⟩ (zg_put hK (c := 0) (v := (K j)) hT hln ⟨by omega, by omega⟩ ⟨by omega, by omega⟩ ⟨by omega, by omega⟩ hb94 ⟨Nat.le_refl _, Nat.le_refl _⟩) (fun st3 μc3 hp3 => ?_)
      obtain ⟨rfl, hTc3, ep3⟩ := hp3
      have ep := ep3
      have w8 : μc3 88 8 = j := by rw [ep, pm_up_off (by decide)]; exact q5
      have f2 := zT_get hTc3 zs88_8 (i := 8) (by omega) (by omega)
      refine pm_blk hK zmm241 [] 6 138 [(2, 88), (0, 0), (0, K j), (0, if 300 ≤ (K j) ∧ (K j) ≤ 302 then 1 else 0)] [] (pm_up μc3 88 8 ((μc3 88 8) + 1)) [pm_in ((μc3 88 8) + 1), sx_bit Wm 88 = true] rfl ⟨pm_in_mk (by omega) (by omega), hb88, trivial⟩ ?_
      obtain ⟨μ1, eμ1⟩ : ∃ μ', μ' = pm_up μc3 88 8 ((μc3 88 8) + 1) := ⟨_, rfl⟩
      rw [← eμ1]
      have hTμ1 : zTJ φ μ1 := by rw [eμ1]; exact zT_up hTc3 zs88_8 rfl (i := 8) (by omega) (by omega) (by omega) (by omega)
      refine pm_blk hK zmm241 [] 1 139 [(2, 88), (0, 0), (0, K j), (0, if 300 ≤ (K j) ∧ (K j) ≤ 302 then 1 else 0)] [(0, 1)] μ1 [] rfl trivial ?_
      exact pm_zret rfl rfl (by first | exact Or.inl rfl | exact Or.inr rfl | omega) ⟨_, rfl, hTμ1, by rw [eμ1, ep]; exact zCf_88 (zCf_94 zCf_refl) (by omega), fun _ => ⟨rfl, ⟨hkw, by omega⟩, zCl_8 (by rw [ep]; exact zCl_o h (by decide)) eμ1 (by rw [w8, hj1]) ⟨by omega, by omega⟩, by rw [eμ1, pm_up_row (by decide), ep, pm_up_zpu]⟩, fun h9 => absurd h9 (by decide)⟩
    · have h2 : (16 : Int) ≤ μ 93 2 := h2
      refine pm_blk hK zmm241 [] 2 115 [(2, 88), (0, 0), (0, K j), (0, if 300 ≤ (K j) ∧ (K j) ≤ 302 then 1 else 0)] [(0, 3), (2, 88)] μ [] rfl trivial ?_
      refine pm_call hK zmm241 (137, 0, 242, 1) zM242 (0, 0) [(2, 88), (0, 3)] [] rfl rfl rfl rfl ⟨by omega, by rw [zn242]; omega⟩ (zg_wrong hK h hT ⟨by omega, by omega⟩ hb88 ⟨Nat.le_refl _, Nat.le_refl _⟩) (fun st4 μc4 hp4 => ?_)
      obtain ⟨rfl, hTc4, hC4, hf4⟩ := hp4
      have hC := hC4
      have hff := hf4
      exact pm_zret rfl rfl (by first | exact Or.inl rfl | exact Or.inr rfl | omega) ⟨_, rfl, hTc4, hC, fun h9 => absurd rfl h9, fun _ => zXi_i 3 ⟨Or.inr ⟨rfl, hkw, by omega⟩, hff⟩⟩
  · have h1 : (if 300 ≤ (K j) ∧ (K j) ≤ 302 then 1 else 0 : Int) = (0 : Int) := h1
    have h1 := zif0 h1
    have hnk := h1
    refine pm_blk hK zmm241 [] 2 97 [(2, 88), (0, 0), (0, K j), (0, if 300 ≤ (K j) ∧ (K j) ≤ 302 then 1 else 0)] [(0, 1), (2, 88)] μ [] rfl trivial ?_
    refine pm_call hK zmm241 (137, 0, 242, 1) zM242 (0, 0) [(2, 88), (0, 1)] [] rfl rfl rfl rfl ⟨by omega, by rw [zn242]; omega⟩ (zg_wrong hK h hT ⟨by omega, by omega⟩ hb88 ⟨Nat.le_refl _, Nat.le_refl _⟩) (fun st5 μc5 hp5 => ?_)
    obtain ⟨rfl, hTc5, hC5, hf5⟩ := hp5
    have hC := hC5
    have hff := hf5
    exact pm_zret rfl rfl (by first | exact Or.inl rfl | exact Or.inr rfl | omega) ⟨_, rfl, hTc5, hC, fun h9 => absurd rfl h9, fun _ => zXi_i 1 ⟨Or.inl ⟨rfl, hnk⟩, hff⟩⟩
set_option maxRecDepth 100000 in
theorem zg_rs0 (hK : zKK ST)  {μ0 : pm_Mem} {K S V : Int → Int} {N : Int} (hKn : zKn K V N) {Q : Int → pm_Mem → Prop} (hQQ : ∀ y μ2, zRuo (zLw K V) (zLd K V) K S μ0 y μ2 → Q y μ2) (hb88 : sx_bit Wm 88 = true) (hb93 : sx_bit Wm 93 = true) (hb95 : sx_bit Wm 95 = true) (hb94 : sx_bit Wm 94 = true) (hbd : 30 ≤ bud.1 ∧ 700 ≤ bud.2.1) : ∀ (n : Nat) {x i : Int} {μ : pm_Mem}, (17 - i).toNat = n → ∀ (hS : zRu (zLw K V) (zLd K V) K S V N μ0 x i μ) (hT : zTJ φ μ), zW D Wm ST b0 l Sg zM49 bud (pm_X zM49 (fun st' μ' => ∃ y, st' = [(0, y)] ∧ zTJ φ μ' ∧ Q y μ')) 41 [(2, 88), (0, 0), (2, 3), (0, x), (0, i)] [] μ := by
  intro n
  induction n using Nat.strongRecOn with
  | ind n ih =>
    intro x i μ hn hS hT
    have hx01 := zRu_01 hS
    have hib := hS.1
    refine pm_blk hK zmm49 [] 2 45 [(2, 88), (0, 0), (2, 3), (0, x), (0, i)] [(0, 16), (0, i)] μ [] rfl trivial ?_
    refine pm_icmp hK zmm49 .gt 89 134 rfl rfl (fun h0 => ?_) (fun h0 => ?_)
    · have h0 : (16 : Int) < i := h0
      refine pm_blk hK zmm49 [] 1 135 [(2, 88), (0, 0), (2, 3), (0, x), (0, i)] [(0, x)] μ [] rfl trivial ?_
      first
      | exact pm_zret rfl rfl (by first | exact Or.inl rfl | exact Or.inr rfl | omega) ⟨_, rfl, hT, hQQ _ _ (zRu_17 hS h0)⟩
      | exact pm_zret rfl rfl (by first | exact Or.inl rfl | exact Or.inr rfl | omega) ⟨_, rfl, hT, hQQ _ _ (zRu_0 hS h0)⟩
      | exact pm_zret rfl rfl (by first | exact Or.inl rfl | exact Or.inr rfl | omega) ⟨_, rfl, hT, hQQ _ _ (zRu_e hS hx0 hch ⟨hce, hcl0, hcl⟩ h0 h)⟩
      | (exfalso; omega)
    · have h0 : i ≤ (16 : Int) := h0
      refine pm_blk hK zmm49 [] 1 49 [(2, 88), (0, 0), (2, 3), (0, x), (0, i)] [(0, x)] μ [] rfl trivial ?_
      refine pm_if hK zmm49 .eq 85 134 rfl rfl (fun h1 => ?_) (fun h1 => ?_)
      · have h1 : x = (0 : Int) := h1
        refine pm_blk hK zmm49 [] 1 135 [(2, 88), (0, 0), (2, 3), (0, x), (0, i)] [(0, x)] μ [] rfl trivial ?_
        first
        | exact pm_zret rfl rfl (by first | exact Or.inl rfl | exact Or.inr rfl | omega) ⟨_, rfl, hT, hQQ _ _ (zRu_17 hS h1)⟩
        | exact pm_zret rfl rfl (by first | exact Or.inl rfl | exact Or.inr rfl | omega) ⟨_, rfl, hT, hQQ _ _ (zRu_0 hS h1)⟩
        | exact pm_zret rfl rfl (by first | exact Or.inl rfl | exact Or.inr rfl | omega) ⟨_, rfl, hT, hQQ _ _ (zRu_e hS hx0 hch ⟨hce, hcl0, hcl⟩ h1 h)⟩
        | (exfalso; omega)
      · have h1 : x ≠ (0 : Int) := h1
        have hx0 := h1
        obtain ⟨hi16, hln, J, hch, h, hce⟩ := zRu_1 hS hx0
        obtain ⟨hce, hcl0, hcl⟩ := id hce
        have hlm := hln
        have hF : zCfx μ μ := zCfx_refl
        obtain ⟨⟨q1, q2, q3⟩, q4, q5, q6⟩ := id h
        refine pm_blk hK zmm49 [] 1 53 [(2, 88), (0, 0), (2, 3), (0, x), (0, i)] [(2, 88)] μ [] rfl trivial ?_
        refine pm_call hK zmm49 (70, 0, 53, 0) zM53 (0, 0) [(2, 88)] [] rfl rfl rfl rfl ⟨by omega, by rw [zn53]; omega⟩ (zg_kind hK h ⟨Nat.le_refl _, Nat.le_refl _⟩) (fun st1 μc1 hp1 => ?_)
        obtain ⟨rfl, rfl⟩ := hp1
        refine pm_blk hK zmm49 [] 1 59 [(2, 88), (0, 0), (2, 3), (0, x), (0, i)] [(0, 257), (0, K (J i.toNat))] μ [] rfl trivial ?_
        refine pm_icmp hK zmm49 .eq 75 134 rfl rfl (fun h2 => ?_) (fun h2 => ?_)
        · have h2 : K (J i.toNat) = (257 : Int) := h2
          refine pm_blk hK zmm49 [] 1 135 [(2, 88), (0, 0), (2, 3), (0, x), (0, i)] [(0, x)] μ [] rfl trivial ?_
          first
          | exact pm_zret rfl rfl (by first | exact Or.inl rfl | exact Or.inr rfl | omega) ⟨_, rfl, hT, hQQ _ _ (zRu_17 hS h2)⟩
          | exact pm_zret rfl rfl (by first | exact Or.inl rfl | exact Or.inr rfl | omega) ⟨_, rfl, hT, hQQ _ _ (zRu_0 hS h2)⟩
          | exact pm_zret rfl rfl (by first | exact Or.inl rfl | exact Or.inr rfl | omega) ⟨_, rfl, hT, hQQ _ _ (zRu_e hS hx0 hch ⟨hce, hcl0, hcl⟩ h2 h)⟩
          | (exfalso; omega)
        · have h2 : K (J i.toNat) ≠ (257 : Int) := h2
          have hKj := h2
          refine pm_blk hK zmm49 [] 2 64 [(2, 88), (0, 0), (2, 3), (0, x), (0, i)] [(0, 0), (2, 88)] μ [] rfl trivial ?_
          refine pm_call hK zmm49 (74, 0, 241, 1) zM241 (2, 45) [(2, 88), (0, 0)] [] rfl rfl rfl rfl ⟨by omega, by rw [zn241]; omega⟩ (zg_beg0 hK (j := J i.toNat) (j1 := J i.toNat + 1) h hKn (by omega) hT hlm ⟨by omega, by omega⟩ hb88 hb94 ⟨Nat.le_refl _, Nat.le_refl _⟩) (fun st2 μc2 hp2 => ?_)
          obtain ⟨x2, rfl, hTc2, hC2, hA2, hB2⟩ := hp2
          have hx201 : x2 = 0 ∨ x2 = 1 := by by_cases h9 : x2 = 0; exact Or.inl h9; exact Or.inr (hA2 h9).1
          have hF := zCfx_tr hF (zCfx_f hC2)
          have hA := hA2
          have hB := hB2
          have hlm : μc2 93 2 = i := by rw [hC2.1 93 (by decide) (by decide)]; exact hlm
          have v0 := congrFun (hC2.1 93 (by decide) (by decide)) 3
          have w0 := hC2.1 95 (by decide) (by decide)
          refine pm_if hK zmm49 .eq 38 105 rfl rfl (fun h3 => ?_) (fun h3 => ?_)
          · have h3 : x2 = (0 : Int) := h3
            have hx9 := h3
            have f1 := zT_get hTc2 zs93_2 (i := 2) (by omega) (by omega)
            refine pm_blk hK zmm49 [] 7 116 [(2, 88), (0, 0), (2, 3), (0, 0), (0, i)] [(0, 0), (0, μc2 93 2), (2, 93)] μc2 [] rfl trivial ?_
            refine pm_if hK zmm49 .eq 7 123 rfl rfl (fun h4 => ?_) (fun h4 => ?_)
            · have h4 : (0 : Int) = (0 : Int) := h4
              refine pm_blk hK zmm49 [] 3 128 [(2, 88), (0, 0), (2, 3), (0, 0), (0, i)] [] (pm_up μc2 93 2 ((μc2 93 2) + 0)) [pm_in ((μc2 93 2) + 0), sx_bit Wm 93 = true] rfl ⟨pm_in_mk (by omega) (by omega), hb93, trivial⟩ ?_
              obtain ⟨μ1, eμ1⟩ : ∃ μ', μ' = pm_up μc2 93 2 ((μc2 93 2) + 0) := ⟨_, rfl⟩
              rw [← eμ1]
              have hTμ1 : zTJ φ μ1 := by rw [eμ1]; exact zT_up hTc2 zs93_2 rfl (i := 2) (by omega) (by omega) (by omega) (by omega)
              refine pm_blk hK zmm49 [] 2 41 [(2, 88), (0, 0), (2, 3), (0, 0), (0, i + 1)] [] μ1 [pm_in (i + 1)] rfl ⟨pm_in_mk (by omega) (by omega), trivial⟩ ?_
              first
              | (refine ih _ (by omega) rfl (zRu_ok (J := J) ⟨by omega, by omega⟩ (by rw [eμ1]; exact zCg_93 (zCg_x hS.2.1 hF)) (by rw [eμ1, pm_up_eq]; omega) hch (Or.inr (Or.inr ⟨hkw, by omega, 0, pp, EE, BB, hPP, Or.inr (Or.inr ⟨rfl, rfl, rfl, hs59⟩)⟩)) (by rw [eμ1]; exact zCl_o hc (by decide)) (zLd_add (m := μ1) (p := pp + 1) ⟨by omega, by omega⟩ hce hcl0 hcl hPP m0 w0 v0 hE0 m2 w2 v2 hl9 (by rw [eμ1, pm_up_row (by decide)]) (by rw [eμ1, pm_up_row (by decide)]) (by rw [eμ1, pm_up_ne (by decide)]))) hTμ1)
              | (obtain ⟨f, f1, hfl⟩ := hB hx9
                 rcases f1 with ⟨a1, a2⟩ | ⟨a1, a2, a3⟩
                 · exact ih _ (by omega) rfl (zRu_no (J := J) ⟨by omega, by omega⟩ (by rw [eμ1]; exact zCg_93 (zCg_x hS.2.1 hF)) hch hKj (Or.inl ⟨a1, rfl, a2⟩) (by omega) (by rw [eμ1]; exact zFl_93 hfl)) hTμ1
                 · exact ih _ (by omega) rfl (zRu_no (J := J) ⟨by omega, by omega⟩ (by rw [eμ1]; exact zCg_93 (zCg_x hS.2.1 hF)) hch hKj (Or.inr (Or.inl ⟨a1, rfl, a2, by omega⟩)) (by omega) (by rw [eμ1]; exact zFl_93 hfl)) hTμ1)
              | (rcases hQ with ⟨a, -⟩ | ⟨-, g1, hfl⟩
                 · omega
                 · exact ih _ (by omega) rfl (zRu_no (J := J) ⟨by omega, by omega⟩ (by rw [eμ1]; exact zCg_93 (zCg_x hS.2.1 hF)) hch hKj (Or.inr (Or.inr ⟨hkw, by omega, gg, pp, EE, BB, hPP, Or.inl ⟨g1, rfl, rfl⟩⟩)) (by omega) (by rw [eμ1]; exact zFl_93 hfl)) hTμ1)
              | (obtain ⟨f, ⟨a1, a2⟩, hfl⟩ := hB hx9
                 exact ih _ (by omega) rfl (zRu_no (J := J) ⟨by omega, by omega⟩ (by rw [eμ1]; exact zCg_93 (zCg_x hS.2.1 hF)) hch hKj (Or.inr (Or.inr ⟨hkw, by omega, gg, pp, EE, BB, hPP, Or.inr (Or.inl ⟨g0, a1, rfl, a2⟩)⟩)) (by omega) (by rw [eμ1]; exact zFl_93 hfl)) hTμ1)
              | (exfalso; omega)
            · have h4 : (0 : Int) ≠ (0 : Int) := h4
              exact absurd h4 (by decide)
          · have h3 : x2 ≠ (0 : Int) := h3
            obtain ⟨-, ⟨hkw, hl15⟩, hc, m0⟩ := hA h3
            refine pm_blk hK zmm49 [] 1 71 [(2, 88), (0, 0), (2, 3), (0, x), (0, i)] [(0, 0)] μc2 [] rfl trivial ?_
            refine pm_if hK zmm49 .ne 13 84 rfl rfl (fun h5 => ?_) (fun h5 => ?_)
            · have h5 : (0 : Int) ≠ (0 : Int) := h5
              exact absurd h5 (by decide)
            · have h5 : (0 : Int) = (0 : Int) := h5
              refine pm_blk hK zmm49 [] 1 75 [(2, 88), (0, 0), (2, 3), (0, x), (0, i)] [(2, 88)] μc2 [] rfl trivial ?_
              refine pm_call hK zmm49 (78, 0, 244, 0) zM244 (29, 676) [(2, 88)] [] rfl rfl rfl rfl ⟨by omega, by rw [zn244]; omega⟩ (zw_line hK (j := J i.toNat + 1) hc hKn hTc2 (by omega) hlm ⟨by omega, by omega⟩ hb88 hb93 hb95 hb94 ⟨Nat.le_refl _, Nat.le_refl _⟩) (fun st3 μc3 hp3 => ?_)
              obtain ⟨x3, gg, pp, EE, BB, rfl, hTc3, hC3, hPP, hQ⟩ := hp3
              have hx301 : x3 = 0 ∨ x3 = 1 := by rcases hQ with q | q; exact Or.inr q.1; exact Or.inl q.1
              have hF := zCfx_tr hF hC3
              have hlm : μc3 93 2 = i := by rw [hC3.2.2 2 (by decide)]; exact hlm
              refine pm_if hK zmm49 .eq 27 105 rfl rfl (fun h6 => ?_) (fun h6 => ?_)
              · have h6 : x3 = (0 : Int) := h6
                have hx9 := h6
                have f2 := zT_get hTc3 zs93_2 (i := 2) (by omega) (by omega)
                refine pm_blk hK zmm49 [] 7 116 [(2, 88), (0, 0), (2, 3), (0, 0), (0, i)] [(0, 0), (0, μc3 93 2), (2, 93)] μc3 [] rfl trivial ?_
                refine pm_if hK zmm49 .eq 7 123 rfl rfl (fun h7 => ?_) (fun h7 => ?_)
                · have h7 : (0 : Int) = (0 : Int) := h7
                  refine pm_blk hK zmm49 [] 3 128 [(2, 88), (0, 0), (2, 3), (0, 0), (0, i)] [] (pm_up μc3 93 2 ((μc3 93 2) + 0)) [pm_in ((μc3 93 2) + 0), sx_bit Wm 93 = true] rfl ⟨pm_in_mk (by omega) (by omega), hb93, trivial⟩ ?_
                  obtain ⟨μ2, eμ2⟩ : ∃ μ', μ' = pm_up μc3 93 2 ((μc3 93 2) + 0) := ⟨_, rfl⟩
                  rw [← eμ2]
                  have hTμ2 : zTJ φ μ2 := by rw [eμ2]; exact zT_up hTc3 zs93_2 rfl (i := 2) (by omega) (by omega) (by omega) (by omega)
                  refine pm_blk hK zmm49 [] 2 41 [(2, 88), (0, 0), (2, 3), (0, 0), (0, i + 1)] [] μ2 [pm_in (i + 1)] rfl ⟨pm_in_mk (by omega) (by omega), trivial⟩ ?_
                  first
                  | (refine ih _ (by omega) rfl (zRu_ok (J := J) ⟨by omega, by omega⟩ (by rw [eμ2]; exact zCg_93 (zCg_x hS.2.1 hF)) (by rw [eμ2, pm_up_eq]; omega) hch (Or.inr (Or.inr ⟨hkw, by omega, 0, pp, EE, BB, hPP, Or.inr (Or.inr ⟨rfl, rfl, rfl, hs59⟩)⟩)) (by rw [eμ2]; exact zCl_o hc (by decide)) (zLd_add (m := μ2) (p := pp + 1) ⟨by omega, by omega⟩ hce hcl0 hcl hPP m0 w0 v0 hE0 m2 w2 v2 hl9 (by rw [eμ2, pm_up_row (by decide)]) (by rw [eμ2, pm_up_row (by decide)]) (by rw [eμ2, pm_up_ne (by decide)]))) hTμ2)
                  | (obtain ⟨f, f1, hfl⟩ := hB hx9
                     rcases f1 with ⟨a1, a2⟩ | ⟨a1, a2, a3⟩
                     · exact ih _ (by omega) rfl (zRu_no (J := J) ⟨by omega, by omega⟩ (by rw [eμ2]; exact zCg_93 (zCg_x hS.2.1 hF)) hch hKj (Or.inl ⟨a1, rfl, a2⟩) (by omega) (by rw [eμ2]; exact zFl_93 hfl)) hTμ2
                     · exact ih _ (by omega) rfl (zRu_no (J := J) ⟨by omega, by omega⟩ (by rw [eμ2]; exact zCg_93 (zCg_x hS.2.1 hF)) hch hKj (Or.inr (Or.inl ⟨a1, rfl, a2, by omega⟩)) (by omega) (by rw [eμ2]; exact zFl_93 hfl)) hTμ2)
                  | (rcases hQ with ⟨a, -⟩ | ⟨-, g1, hfl⟩
                     · omega
                     · exact ih _ (by omega) rfl (zRu_no (J := J) ⟨by omega, by omega⟩ (by rw [eμ2]; exact zCg_93 (zCg_x hS.2.1 hF)) hch hKj (Or.inr (Or.inr ⟨hkw, by omega, gg, pp, EE, BB, hPP, Or.inl ⟨g1, rfl, rfl⟩⟩)) (by omega) (by rw [eμ2]; exact zFl_93 hfl)) hTμ2)
                  | (obtain ⟨f, ⟨a1, a2⟩, hfl⟩ := hB hx9
                     exact ih _ (by omega) rfl (zRu_no (J := J) ⟨by omega, by omega⟩ (by rw [eμ2]; exact zCg_93 (zCg_x hS.2.1 hF)) hch hKj (Or.inr (Or.inr ⟨hkw, by omega, gg, pp, EE, BB, hPP, Or.inr (Or.inl ⟨g0, a1, rfl, a2⟩)⟩)) (by omega) (by rw [eμ2]; exact zFl_93 hfl)) hTμ2)
                  | (exfalso; omega)
                · have h7 : (0 : Int) ≠ (0 : Int) := h7
                  exact absurd h7 (by decide)
              · have h6 : x3 ≠ (0 : Int) := h6
                obtain ⟨g0, hc, hE0, hl9⟩ := zGok hQ h6
                refine pm_blk hK zmm49 [] 3 95 [(2, 88), (0, 0), (2, 3), (0, x), (0, i)] [(0, 59), (2, 88)] μc3 [] rfl trivial ?_
                refine pm_call hK zmm49 (85, 0, 254, 1) zM254 (1, 21) [(2, 88), (0, 59)] [] rfl rfl rfl rfl ⟨by omega, by rw [zn254]; omega⟩ (zg_sign hK (c := 59) (j := pp) (j1 := pp + 1) hc hKn.1 (by omega) (by decide) hTc3 hb88 ⟨Nat.le_refl _, Nat.le_refl _⟩) (fun st4 μc4 hp4 => ?_)
                obtain ⟨x4, rfl, hTc4, hC4, hA4, hB4⟩ := hp4
                have hx401 : x4 = 0 ∨ x4 = 1 := by by_cases h9 : x4 = 0; exact Or.inl h9; exact Or.inr (hA4 h9).1
                have hF := zCfx_tr hF (zCfx_f hC4)
                have hA := hA4
                have hB := hB4
                have hlm : μc4 93 2 = i := by rw [hC4.1 93 (by decide) (by decide)]; exact hlm
                have v2 := congrFun (hC4.1 93 (by decide) (by decide)) 3
                have w2 := hC4.1 95 (by decide) (by decide)
                refine pm_if hK zmm49 .eq 7 105 rfl rfl (fun h8 => ?_) (fun h8 => ?_)
                · have h8 : x4 = (0 : Int) := h8
                  have hx9 := h8
                  have f3 := zT_get hTc4 zs93_2 (i := 2) (by omega) (by omega)
                  refine pm_blk hK zmm49 [] 7 116 [(2, 88), (0, 0), (2, 3), (0, 0), (0, i)] [(0, 0), (0, μc4 93 2), (2, 93)] μc4 [] rfl trivial ?_
                  refine pm_if hK zmm49 .eq 7 123 rfl rfl (fun h9 => ?_) (fun h9 => ?_)
                  · have h9 : (0 : Int) = (0 : Int) := h9
                    refine pm_blk hK zmm49 [] 3 128 [(2, 88), (0, 0), (2, 3), (0, 0), (0, i)] [] (pm_up μc4 93 2 ((μc4 93 2) + 0)) [pm_in ((μc4 93 2) + 0), sx_bit Wm 93 = true] rfl ⟨pm_in_mk (by omega) (by omega), hb93, trivial⟩ ?_
                    obtain ⟨μ3, eμ3⟩ : ∃ μ', μ' = pm_up μc4 93 2 ((μc4 93 2) + 0) := ⟨_, rfl⟩
                    rw [← eμ3]
                    have hTμ3 : zTJ φ μ3 := by rw [eμ3]; exact zT_up hTc4 zs93_2 rfl (i := 2) (by omega) (by omega) (by omega) (by omega)
                    refine pm_blk hK zmm49 [] 2 41 [(2, 88), (0, 0), (2, 3), (0, 0), (0, i + 1)] [] μ3 [pm_in (i + 1)] rfl ⟨pm_in_mk (by omega) (by omega), trivial⟩ ?_
                    first
                    | (refine ih _ (by omega) rfl (zRu_ok (J := J) ⟨by omega, by omega⟩ (by rw [eμ3]; exact zCg_93 (zCg_x hS.2.1 hF)) (by rw [eμ3, pm_up_eq]; omega) hch (Or.inr (Or.inr ⟨hkw, by omega, 0, pp, EE, BB, hPP, Or.inr (Or.inr ⟨rfl, rfl, rfl, hs59⟩)⟩)) (by rw [eμ3]; exact zCl_o hc (by decide)) (zLd_add (m := μ3) (p := pp + 1) ⟨by omega, by omega⟩ hce hcl0 hcl hPP m0 w0 v0 hE0 m2 w2 v2 hl9 (by rw [eμ3, pm_up_row (by decide)]) (by rw [eμ3, pm_up_row (by decide)]) (by rw [eμ3, pm_up_ne (by decide)]))) hTμ3)
                    | (obtain ⟨f, f1, hfl⟩ := hB hx9
                       rcases f1 with ⟨a1, a2⟩ | ⟨a1, a2, a3⟩
                       · exact ih _ (by omega) rfl (zRu_no (J := J) ⟨by omega, by omega⟩ (by rw [eμ3]; exact zCg_93 (zCg_x hS.2.1 hF)) hch hKj (Or.inl ⟨a1, rfl, a2⟩) (by omega) (by rw [eμ3]; exact zFl_93 hfl)) hTμ3
                       · exact ih _ (by omega) rfl (zRu_no (J := J) ⟨by omega, by omega⟩ (by rw [eμ3]; exact zCg_93 (zCg_x hS.2.1 hF)) hch hKj (Or.inr (Or.inl ⟨a1, rfl, a2, by omega⟩)) (by omega) (by rw [eμ3]; exact zFl_93 hfl)) hTμ3)
                    | (rcases hQ with ⟨a, -⟩ | ⟨-, g1, hfl⟩
                       · omega
                       · exact ih _ (by omega) rfl (zRu_no (J := J) ⟨by omega, by omega⟩ (by rw [eμ3]; exact zCg_93 (zCg_x hS.2.1 hF)) hch hKj (Or.inr (Or.inr ⟨hkw, by omega, gg, pp, EE, BB, hPP, Or.inl ⟨g1, rfl, rfl⟩⟩)) (by omega) (by rw [eμ3]; exact zFl_93 hfl)) hTμ3)
                    | (obtain ⟨f, ⟨a1, a2⟩, hfl⟩ := hB hx9
                       exact ih _ (by omega) rfl (zRu_no (J := J) ⟨by omega, by omega⟩ (by rw [eμ3]; exact zCg_93 (zCg_x hS.2.1 hF)) hch hKj (Or.inr (Or.inr ⟨hkw, by omega, gg, pp, EE, BB, hPP, Or.inr (Or.inl ⟨g0, a1, rfl, a2⟩)⟩)) (by omega) (by rw [eμ3]; exact zFl_93 hfl)) hTμ3)
                    | (exfalso; omega)
                  · have h9 : (0 : Int) ≠ (0 : Int) := h9
                    exact absurd h9 (by decide)
                · have h8 : x4 ≠ (0 : Int) := h8
                  obtain ⟨-, hs59, hc, m2⟩ := hA h8
                  subst g0
                  have f4 := zT_get hTc4 zs93_2 (i := 2) (by omega) (by omega)
                  refine pm_blk hK zmm49 [] 8 116 [(2, 88), (0, 0), (2, 3), (0, 1), (0, i)] [(0, 1), (0, μc4 93 2), (2, 93)] μc4 [] rfl trivial ?_
                  refine pm_if hK zmm49 .eq 7 123 rfl rfl (fun h10 => ?_) (fun h10 => ?_)
                  · have h10 : (1 : Int) = (0 : Int) := h10
                    exact absurd h10 (by decide)
                  · have h10 : (1 : Int) ≠ (0 : Int) := h10
                    refine pm_blk hK zmm49 [] 4 128 [(2, 88), (0, 0), (2, 3), (0, 1), (0, i)] [] (pm_up μc4 93 2 ((μc4 93 2) + 1)) [pm_in ((μc4 93 2) + 1), sx_bit Wm 93 = true] rfl ⟨pm_in_mk (by omega) (by omega), hb93, trivial⟩ ?_
                    obtain ⟨μ4, eμ4⟩ : ∃ μ', μ' = pm_up μc4 93 2 ((μc4 93 2) + 1) := ⟨_, rfl⟩
                    rw [← eμ4]
                    have hTμ4 : zTJ φ μ4 := by rw [eμ4]; exact zT_up hTc4 zs93_2 rfl (i := 2) (by omega) (by omega) (by omega) (by omega)
                    refine pm_blk hK zmm49 [] 2 41 [(2, 88), (0, 0), (2, 3), (0, 1), (0, i + 1)] [] μ4 [pm_in (i + 1)] rfl ⟨pm_in_mk (by omega) (by omega), trivial⟩ ?_
                    first
                    | (refine ih _ (by omega) rfl (zRu_ok (J := J) ⟨by omega, by omega⟩ (by rw [eμ4]; exact zCg_93 (zCg_x hS.2.1 hF)) (by rw [eμ4, pm_up_eq]; omega) hch (Or.inr (Or.inr ⟨hkw, by omega, 0, pp, EE, BB, hPP, Or.inr (Or.inr ⟨rfl, rfl, rfl, hs59⟩)⟩)) (by rw [eμ4]; exact zCl_o hc (by decide)) (zLd_add (m := μ4) (p := pp + 1) ⟨by omega, by omega⟩ hce hcl0 hcl hPP m0 w0 v0 hE0 m2 w2 v2 hl9 (by rw [eμ4, pm_up_row (by decide)]) (by rw [eμ4, pm_up_row (by decide)]) (by rw [eμ4, pm_up_ne (by decide)]))) hTμ4)
                    | (obtain ⟨f, f1, hfl⟩ := hB hx9
                       rcases f1 with ⟨a1, a2⟩ | ⟨a1, a2, a3⟩
                       · exact ih _ (by omega) rfl (zRu_no (J := J) ⟨by omega, by omega⟩ (by rw [eμ4]; exact zCg_93 (zCg_x hS.2.1 hF)) hch hKj (Or.inl ⟨a1, rfl, a2⟩) (by omega) (by rw [eμ4]; exact zFl_93 hfl)) hTμ4
                       · exact ih _ (by omega) rfl (zRu_no (J := J) ⟨by omega, by omega⟩ (by rw [eμ4]; exact zCg_93 (zCg_x hS.2.1 hF)) hch hKj (Or.inr (Or.inl ⟨a1, rfl, a2, by omega⟩)) (by omega) (by rw [eμ4]; exact zFl_93 hfl)) hTμ4)
                    | (rcases hQ with ⟨a, -⟩ | ⟨-, g1, hfl⟩
                       · omega
                       · exact ih _ (by omega) rfl (zRu_no (J := J) ⟨by omega, by omega⟩ (by rw [eμ4]; exact zCg_93 (zCg_x hS.2.1 hF)) hch hKj (Or.inr (Or.inr ⟨hkw, by omega, gg, pp, EE, BB, hPP, Or.inl ⟨g1, rfl, rfl⟩⟩)) (by omega) (by rw [eμ4]; exact zFl_93 hfl)) hTμ4)
                    | (obtain ⟨f, ⟨a1, a2⟩, hfl⟩ := hB hx9
                       exact ih _ (by omega) rfl (zRu_no (J := J) ⟨by omega, by omega⟩ (by rw [eμ4]; exact zCg_93 (zCg_x hS.2.1 hF)) hch hKj (Or.inr (Or.inr ⟨hkw, by omega, gg, pp, EE, BB, hPP, Or.inr (Or.inl ⟨g0, a1, rfl, a2⟩)⟩)) (by omega) (by rw [eμ4]; exact zFl_93 hfl)) hTμ4)
                    | (exfalso; omega)
end ZHW
