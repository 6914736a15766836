/-! THE LAW: conditions in the class; walks printed by program (wip/p30/pmgen.py) and filled by hand -/
section ZHW
variable {φ : Option pm_Mem}
variable {D : va_G} {Wm : Nat} {ST : List (String × String × String × Nat)} {b0 : sx_B} {l : Launch} {Sg : Nat → Option Nat} {bud : sx_Bu} {μ : pm_Mem} {B0 : Nat → Prop} {J : (Nat → Option Nat) → Heap → Prop}
set_option maxRecDepth 100000 in
theorem zw_cl (hK : zKK ST)  {μ0 : pm_Mem} {fs ls : Nat} {K S V : Int → Int} {N j0 o : Int} (hKn : zKn K V N) (hc0 : μ0 93 3 ≤ j0) (ho : 0 ≤ o ∧ o ≤ 8) (IHs : o < 8 → zGc φ D Wm ST b0 l Sg 1 zM251 K S V N (o + 1) fs ls) (IHc : o < 8 → zGc φ D Wm ST b0 l Sg 0 zM252 K S V N (o + 1) fs ls) (hb2 : fs + 3 ≤ bud.1 ∧ ls + 68 ≤ bud.2.1) (hb88 : sx_bit Wm 88 = true) (hb93 : sx_bit Wm 93 = true) (hb95 : sx_bit Wm 95 = true) (hbd : 4 ≤ bud.1 ∧ 92 ≤ bud.2.1) : ∀ (n : Nat) {w i j : Int} {μ : pm_Mem}, (N + 1 - j).toNat = n → ∀ (hw : w = -1 ∨ w = 11) (hi : 0 ≤ i ∧ i ≤ j) (hc : zCq K S V N j μ) (hF : zCfx μ0 μ) (hQ0 : ∃ Lp, zCd μ0 μ Lp ∧ ∀ f q L, zBx K V 2 o w j f q L → zBx K V 1 o (-1) j0 f q (Lp ++ L)) (hcl : μ 93 3 + j0 ≤ μ0 93 3 + j ∧ (w ≠ -1 → μ 93 3 + 1 + j0 ≤ μ0 93 3 + j)) (hT : zTJ φ μ), zW D Wm ST b0 l Sg zM251 bud (pm_X zM251 (fun st' μ' => ∃ x f q LL, st' = [(0, x)] ∧ zTJ φ μ' ∧ zCfx μ0 μ' ∧ zBx K V 1 o (-1) j0 f q LL ∧ ((x = 1 ∧ f = 0 ∧ zCq K S V N q μ' ∧ zCd μ0 μ' LL ∧ μ' 93 3 + j0 ≤ μ0 93 3 + q) ∨ (x = 0 ∧ f ≠ 0 ∧ zFl S f q μ')))) 14 [(2, 88), (0, o), (0, w), (0, i), (9, 0)] [] μ := by
  intro n
  induction n using Nat.strongRecOn with
  | ind n ih =>
    intro w i j μ hn hw hi hc hF hQ0 hcl hT
    obtain ⟨⟨q1, q2, q3⟩, q4, q5, q6⟩ := id hc
    obtain ⟨Lp, hLp, hQQ⟩ := hQ0
    have f1 := zT_get hT zs88_7 (i := 7) (by omega) (by omega)
    refine pm_blk hK zmm251 [] 3 19 [(2, 88), (0, o), (0, w), (0, i), (9, 0)] [(0, μ 88 7), (0, i)] μ [] rfl trivial ?_
    refine pm_icmp hK zmm251 .ge 83 102 rfl rfl (fun h0 => ?_) (fun h0 => ?_)
    · have h0 : μ 88 7 ≤ i := h0
      refine pm_blk hK zmm251 [] 2 104 [(2, 88), (0, o), (0, w), (0, i), (9, 0)] [(0, w), (2, 88)] μ [] rfl trivial ?_
      refine pm_call hK zmm251 (173, 0, 249, 1) zM249 (1, 22) [(2, 88), (0, w)] [] rfl rfl rfl rfl ⟨by omega, by rw [zn249]; omega⟩ (zw_wait hK (o := w) hT (by omega) hb93 hb95 ⟨Nat.le_refl _, Nat.le_refl _⟩) (fun st1 μc1 hp1 => ?_)
      obtain ⟨rfl, hTc1, hm1, hn1, hd1⟩ := hp1
      have hc := zCl_e hc hm1
      have hF := zCfx_tr hF (zCfx_e hm1 hn1)
      obtain ⟨hdw, hw3⟩ := hd1 (by omega)
      have hLp := zCd_tr hLp hdw
      refine pm_blk hK zmm251 [] 1 108 [(2, 88), (0, o), (0, w), (0, i), (9, 0)] [(0, 1)] μc1 [] rfl trivial ?_
      exact pm_zret rfl rfl (by first | exact Or.inl rfl | exact Or.inr rfl | omega) ⟨1, 0, j, _, rfl, hTc1, hF, hQQ 0 j _ (zBx_2e (by omega) (by omega)), Or.inl ⟨rfl, rfl, hc, hLp, by omega⟩⟩
    · have h0 : i < μ 88 7 := h0
      refine pm_blk hK zmm251 [] 1 23 [(2, 88), (0, o), (0, w), (0, i), (9, 0)] [(2, 88)] μ [] rfl trivial ?_
      refine pm_call hK zmm251 (70, 0, 53, 0) zM53 (0, 0) [(2, 88)] [] rfl rfl rfl rfl ⟨by omega, by rw [zn53]; omega⟩ (zg_kind hK (j := j) hc ⟨Nat.le_refl _, Nat.le_refl _⟩) (fun st2 μc2 hp2 => ?_)
      obtain ⟨rfl, rfl⟩ := hp2
      refine pm_blk hK zmm251 [] 3 33 [(2, 88), (0, o), (0, w), (0, i), (0, K j)] [(0, 315), (0, K j)] μ [] rfl trivial ?_
      refine pm_icmp hK zmm251 .ne 14 47 rfl rfl (fun h1 => ?_) (fun h1 => ?_)
      · have h1 : K j ≠ (315 : Int) := h1
        refine pm_blk hK zmm251 [] 2 52 [(2, 88), (0, o), (0, w), (0, i), (0, K j)] [(0, 316), (0, K j)] μ [] rfl trivial ?_
        refine pm_icmp hK zmm251 .eq 6 58 rfl rfl (fun h2 => ?_) (fun h2 => ?_)
        · have h2 : K j = (316 : Int) := h2
          have hk9 : K j = 315 ∨ K j = 316 := by omega
          have hjn : j ≠ N := fun he => by rw [he, hKn.1] at hk9; omega
          have h8c := hc.2.2.1
          have f2 := zT_get hT zs88_8 (i := 8) (by omega) (by omega)
          refine pm_blk hK zmm251 [] 6 68 [(2, 88), (0, o), (0, w), (0, i), (0, K j)] [] (pm_up μ 88 8 ((μ 88 8) + 1)) [pm_in ((μ 88 8) + 1), sx_bit Wm 88 = true] rfl ⟨pm_in_mk (by omega) (by omega), hb88, trivial⟩ ?_
          obtain ⟨μ1, eμ1⟩ : ∃ μ', μ' = pm_up μ 88 8 ((μ 88 8) + 1) := ⟨_, rfl⟩
          rw [← eμ1]
          have hTμ1 : zTJ φ μ1 := by rw [eμ1]; exact zT_up hT zs88_8 rfl (i := 8) (by omega) (by omega) (by omega) (by omega)
          have hc := zCl_8 (j' := j + 1) hc eμ1 (by rw [hc.2.2.1]) ⟨by omega, by omega⟩
          have hF := zCfx_tr hF (zCfx_f (show zCf μ μ1 by rw [eμ1]; exact zCf_88 zCf_refl (by omega)))
          have hz3 : μ1 93 3 = μ 93 3 := by rw [eμ1, pm_up_off (by decide)]
          have hz5 : μ1 95 = μ 95 := by rw [eμ1, pm_up_row (by decide)]
          have hz4 : μ1 94 = μ 94 := by rw [eμ1, pm_up_row (by decide)]
          have hLp := zCd_fr hLp hz5 hz3 hz4
          refine pm_blk hK zmm251 [] 2 70 [(2, 88), (0, o), (0, w), (0, i), (0, K j)] [(0, o), (2, 88)] μ1 [] rfl trivial ?_
          refine pm_call hK zmm251 (183, 0, 252, 1) zM252 (max (fs + 2) 3, max (ls + 46) 70) [(2, 88), (0, o)] [] rfl rfl rfl rfl ⟨by omega, by rw [zn252]; omega⟩ (zw_cond hK (j := j + 1) hc hKn hTμ1 (by omega) ho IHs IHc ⟨(show fs + 2 ≤ max (fs + 2) 3 by omega), (show ls + 46 ≤ max (ls + 46) 70 by omega)⟩ hb88 hb93 hb95 ⟨(show 3 ≤ max (fs + 2) 3 by omega), (show 70 ≤ max (ls + 46) 70 by omega)⟩) (fun st3 μc3 hp3 => ?_)
          obtain ⟨x3, gg, pp, LL, rfl, hTc3, hC3, hPP, hQ⟩ := hp3
          have hx301 : x3 = 0 ∨ x3 = 1 := by rcases hQ with q | q; exact Or.inr q.1; exact Or.inl q.1
          have hF := zCfx_tr hF hC3
          refine pm_if hK zmm251 .ne 5 78 rfl rfl (fun h3 => ?_) (fun h3 => ?_)
          · have h3 : x3 ≠ (0 : Int) := h3
            obtain ⟨g0, hc, hdu, hl9⟩ := zGok hQ h3
            have hpl := hc.2.2.2.1
            subst g0
            have hLp := zCd_tr hLp hdu
            refine pm_blk hK zmm251 [] 2 83 [(2, 88), (0, o), (0, w), (0, i), (0, K j)] [(0, 316), (0, K j)] μc3 [] rfl trivial ?_
            refine pm_icmp hK zmm251 .ne 13 96 rfl rfl (fun h4 => ?_) (fun h4 => ?_)
            · have h4 : K j ≠ (316 : Int) := h4
              refine pm_blk hK zmm251 [] 2 14 [(2, 88), (0, o), (0, w), (0, i + 1), (0, K j)] [] μc3 [pm_in (i + 1)] rfl ⟨pm_in_mk (by omega) (by omega), trivial⟩ ?_
              refine pm_hide [4] ?_
              have hgt := zBx_gt hPP
              refine ih _ (by omega) rfl (by omega) ⟨by omega, by omega⟩ hc hF ⟨_, hLp, fun f q L h9 => ?_⟩ ⟨by omega, fun _ => by omega⟩ hTc3
              first
              | (have h8 := hQQ f q _ (zBx_2o (by omega) hPP h9)
                 simpa using h8)
              | (have h8 := hQQ f q _ (zBx_2a (by omega) hPP h9)
                 simpa using h8)
              | (exfalso; omega)
            · have h4 : K j = (316 : Int) := h4
              refine pm_blk hK zmm251 [] 4 93 [(2, 88), (0, o), (0, w), (0, i), (0, K j)] [(0, 0), (0, 10), (2, 93)] μc3 [] rfl trivial ?_
              refine pm_call hK zmm251 (180, 0, 248, 2) zM248 (0, 0) [(2, 93), (0, 10), (0, 0)] [] rfl rfl rfl rfl ⟨by omega, by rw [zn248]; omega⟩ (zw_emit hK (o := 10) (v := 0) hTc3 ⟨by omega, by omega⟩ ⟨by omega, by omega⟩ ⟨by omega, by omega⟩ hb93 hb95 ⟨Nat.le_refl _, Nat.le_refl _⟩) (fun st4 μc4 hp4 => ?_)
              obtain ⟨rfl, hTc4, hm4, hn4, hd4⟩ := hp4
              have hc := zCl_e hc hm4
              have hF := zCfx_tr hF (zCfx_e hm4 hn4)
              obtain ⟨hdd, hl8⟩ := hd4 (by omega)
              have hLp := zCd_tr hLp hdd
              refine pm_blk hK zmm251 [] 2 14 [(2, 88), (0, o), (0, w), (0, i + 1), (0, K j)] [] μc4 [pm_in (i + 1)] rfl ⟨pm_in_mk (by omega) (by omega), trivial⟩ ?_
              refine pm_hide [4] ?_
              have hgt := zBx_gt hPP
              refine ih _ (by omega) rfl (by omega) ⟨by omega, by omega⟩ hc hF ⟨_, hLp, fun f q L h9 => ?_⟩ ⟨by omega, fun _ => by omega⟩ hTc4
              first
              | (have h8 := hQQ f q _ (zBx_2o (by omega) hPP h9)
                 simpa using h8)
              | (have h8 := hQQ f q _ (zBx_2a (by omega) hPP h9)
                 simpa using h8)
              | (exfalso; omega)
          · have h3 : x3 = (0 : Int) := h3
            refine pm_blk hK zmm251 [] 1 77 [(2, 88), (0, o), (0, w), (0, i), (0, K j)] [(0, 0)] μc3 [] rfl trivial ?_
            obtain ⟨g1, hfl⟩ := zGno hQ h3
            exact pm_zret rfl rfl (by first | exact Or.inl rfl | exact Or.inr rfl | omega) ⟨0, gg, pp, _, rfl, hTc3, hF, hQQ gg pp [] (zBx_2f hk9 hPP g1), Or.inr ⟨rfl, g1, hfl⟩⟩
        · have h2 : K j ≠ (316 : Int) := h2
          refine pm_blk hK zmm251 [] 3 104 [(2, 88), (0, o), (0, w), (0, i), (0, K j)] [(0, w), (2, 88)] μ [] rfl trivial ?_
          refine pm_call hK zmm251 (173, 0, 249, 1) zM249 (1, 22) [(2, 88), (0, w)] [] rfl rfl rfl rfl ⟨by omega, by rw [zn249]; omega⟩ (zw_wait hK (o := w) hT (by omega) hb93 hb95 ⟨Nat.le_refl _, Nat.le_refl _⟩) (fun st5 μc5 hp5 => ?_)
          obtain ⟨rfl, hTc5, hm5, hn5, hd5⟩ := hp5
          have hc := zCl_e hc hm5
          have hF := zCfx_tr hF (zCfx_e hm5 hn5)
          obtain ⟨hdw, hw3⟩ := hd5 (by omega)
          have hLp := zCd_tr hLp hdw
          refine pm_blk hK zmm251 [] 1 108 [(2, 88), (0, o), (0, w), (0, i), (0, K j)] [(0, 1)] μc5 [] rfl trivial ?_
          exact pm_zret rfl rfl (by first | exact Or.inl rfl | exact Or.inr rfl | omega) ⟨1, 0, j, _, rfl, hTc5, hF, hQQ 0 j _ (zBx_2e (by omega) (by omega)), Or.inl ⟨rfl, rfl, hc, hLp, by omega⟩⟩
      · have h1 : K j = (315 : Int) := h1
        have hk9 : K j = 315 ∨ K j = 316 := by omega
        refine pm_blk hK zmm251 [] 2 38 [(2, 88), (0, o), (0, w), (0, i), (0, K j)] [(0, w), (2, 88)] μ [] rfl trivial ?_
        refine pm_call hK zmm251 (173, 0, 249, 1) zM249 (1, 22) [(2, 88), (0, w)] [] rfl rfl rfl rfl ⟨by omega, by rw [zn249]; omega⟩ (zw_wait hK (o := w) hT (by omega) hb93 hb95 ⟨Nat.le_refl _, Nat.le_refl _⟩) (fun st6 μc6 hp6 => ?_)
        obtain ⟨rfl, hTc6, hm6, hn6, hd6⟩ := hp6
        have hc := zCl_e hc hm6
        have hF := zCfx_tr hF (zCfx_e hm6 hn6)
        obtain ⟨hdw, hw3⟩ := hd6 (by omega)
        have hLp := zCd_tr hLp hdw
        refine pm_blk hK zmm251 [] 3 58 [(2, 88), (0, o), (0, 11), (0, i), (0, K j)] [] μc6 [] rfl trivial ?_
        have hk9 : K j = 315 ∨ K j = 316 := by omega
        have hjn : j ≠ N := fun he => by rw [he, hKn.1] at hk9; omega
        have h8c := hc.2.2.1
        have f3 := zT_get hTc6 zs88_8 (i := 8) (by omega) (by omega)
        refine pm_blk hK zmm251 [] 6 68 [(2, 88), (0, o), (0, 11), (0, i), (0, K j)] [] (pm_up μc6 88 8 ((μc6 88 8) + 1)) [pm_in ((μc6 88 8) + 1), sx_bit Wm 88 = true] rfl ⟨pm_in_mk (by omega) (by omega), hb88, trivial⟩ ?_
        obtain ⟨μ2, eμ2⟩ : ∃ μ', μ' = pm_up μc6 88 8 ((μc6 88 8) + 1) := ⟨_, rfl⟩
        rw [← eμ2]
        have hTμ2 : zTJ φ μ2 := by rw [eμ2]; exact zT_up hTc6 zs88_8 rfl (i := 8) (by omega) (by omega) (by omega) (by omega)
        have hc := zCl_8 (j' := j + 1) hc eμ2 (by rw [hc.2.2.1]) ⟨by omega, by omega⟩
        have hF := zCfx_tr hF (zCfx_f (show zCf μc6 μ2 by rw [eμ2]; exact zCf_88 zCf_refl (by omega)))
        have hz3 : μ2 93 3 = μc6 93 3 := by rw [eμ2, pm_up_off (by decide)]
        have hz5 : μ2 95 = μc6 95 := by rw [eμ2, pm_up_row (by decide)]
        have hz4 : μ2 94 = μc6 94 := by rw [eμ2, pm_up_row (by decide)]
        have hLp := zCd_fr hLp hz5 hz3 hz4
        refine pm_blk hK zmm251 [] 2 70 [(2, 88), (0, o), (0, 11), (0, i), (0, K j)] [(0, o), (2, 88)] μ2 [] rfl trivial ?_
        refine pm_call hK zmm251 (183, 0, 252, 1) zM252 (max (fs + 2) 3, max (ls + 46) 70) [(2, 88), (0, o)] [] rfl rfl rfl rfl ⟨by omega, by rw [zn252]; omega⟩ (zw_cond hK (j := j + 1) hc hKn hTμ2 (by omega) ho IHs IHc ⟨(show fs + 2 ≤ max (fs + 2) 3 by omega), (show ls + 46 ≤ max (ls + 46) 70 by omega)⟩ hb88 hb93 hb95 ⟨(show 3 ≤ max (fs + 2) 3 by omega), (show 70 ≤ max (ls + 46) 70 by omega)⟩) (fun st7 μc7 hp7 => ?_)
        obtain ⟨x7, gg, pp, LL, rfl, hTc7, hC7, hPP, hQ⟩ := hp7
        have hx701 : x7 = 0 ∨ x7 = 1 := by rcases hQ with q | q; exact Or.inr q.1; exact Or.inl q.1
        have hF := zCfx_tr hF hC7
        refine pm_if hK zmm251 .ne 5 78 rfl rfl (fun h5 => ?_) (fun h5 => ?_)
        · have h5 : x7 ≠ (0 : Int) := h5
          obtain ⟨g0, hc, hdu, hl9⟩ := zGok hQ h5
          have hpl := hc.2.2.2.1
          subst g0
          have hLp := zCd_tr hLp hdu
          refine pm_blk hK zmm251 [] 2 83 [(2, 88), (0, o), (0, 11), (0, i), (0, K j)] [(0, 316), (0, K j)] μc7 [] rfl trivial ?_
          refine pm_icmp hK zmm251 .ne 13 96 rfl rfl (fun h6 => ?_) (fun h6 => ?_)
          · have h6 : K j ≠ (316 : Int) := h6
            refine pm_blk hK zmm251 [] 2 14 [(2, 88), (0, o), (0, 11), (0, i + 1), (0, K j)] [] μc7 [pm_in (i + 1)] rfl ⟨pm_in_mk (by omega) (by omega), trivial⟩ ?_
            refine pm_hide [4] ?_
            have hgt := zBx_gt hPP
            refine ih _ (by omega) rfl (by omega) ⟨by omega, by omega⟩ hc hF ⟨_, hLp, fun f q L h9 => ?_⟩ ⟨by omega, fun _ => by omega⟩ hTc7
            first
            | (have h8 := hQQ f q _ (zBx_2o (by omega) hPP h9)
               simpa using h8)
            | (have h8 := hQQ f q _ (zBx_2a (by omega) hPP h9)
               simpa using h8)
            | (exfalso; omega)
          · have h6 : K j = (316 : Int) := h6
            refine pm_blk hK zmm251 [] 4 93 [(2, 88), (0, o), (0, 11), (0, i), (0, K j)] [(0, 0), (0, 10), (2, 93)] μc7 [] rfl trivial ?_
            refine pm_call hK zmm251 (180, 0, 248, 2) zM248 (0, 0) [(2, 93), (0, 10), (0, 0)] [] rfl rfl rfl rfl ⟨by omega, by rw [zn248]; omega⟩ (zw_emit hK (o := 10) (v := 0) hTc7 ⟨by omega, by omega⟩ ⟨by omega, by omega⟩ ⟨by omega, by omega⟩ hb93 hb95 ⟨Nat.le_refl _, Nat.le_refl _⟩) (fun st8 μc8 hp8 => ?_)
            obtain ⟨rfl, hTc8, hm8, hn8, hd8⟩ := hp8
            have hc := zCl_e hc hm8
            have hF := zCfx_tr hF (zCfx_e hm8 hn8)
            obtain ⟨hdd, hl8⟩ := hd8 (by omega)
            have hLp := zCd_tr hLp hdd
            refine pm_blk hK zmm251 [] 2 14 [(2, 88), (0, o), (0, 11), (0, i + 1), (0, K j)] [] μc8 [pm_in (i + 1)] rfl ⟨pm_in_mk (by omega) (by omega), trivial⟩ ?_
            refine pm_hide [4] ?_
            have hgt := zBx_gt hPP
            refine ih _ (by omega) rfl (by omega) ⟨by omega, by omega⟩ hc hF ⟨_, hLp, fun f q L h9 => ?_⟩ ⟨by omega, fun _ => by omega⟩ hTc8
            first
            | (have h8 := hQQ f q _ (zBx_2o (by omega) hPP h9)
               simpa using h8)
            | (have h8 := hQQ f q _ (zBx_2a (by omega) hPP h9)
               simpa using h8)
            | (exfalso; omega)
        · have h5 : x7 = (0 : Int) := h5
          refine pm_blk hK zmm251 [] 1 77 [(2, 88), (0, o), (0, 11), (0, i), (0, K j)] [(0, 0)] μc7 [] rfl trivial ?_
          obtain ⟨g1, hfl⟩ := zGno hQ h5
          exact pm_zret rfl rfl (by first | exact Or.inl rfl | exact Or.inr rfl | omega) ⟨0, gg, pp, _, rfl, hTc7, hF, hQQ gg pp [] (zBx_2f hk9 hPP g1), Or.inr ⟨rfl, g1, hfl⟩⟩
set_option maxRecDepth 100000 in
theorem zw_conds (hK : zKK ST) {o : Int} {fs ls : Nat} {K S V : Int → Int} {n j : Int} (h : zCq K S V n j μ) (hKn : zKn K V n) (hT : zTJ φ μ) (hcl : μ 93 3 ≤ j) (ho : 0 ≤ o ∧ o ≤ 8) (IHs : o < 8 → zGc φ D Wm ST b0 l Sg 1 zM251 K S V n (o + 1) fs ls) (IHc : o < 8 → zGc φ D Wm ST b0 l Sg 0 zM252 K S V n (o + 1) fs ls) (hb2 : fs + 3 ≤ bud.1 ∧ ls + 68 ≤ bud.2.1) (hb88 : sx_bit Wm 88 = true) (hb93 : sx_bit Wm 93 = true) (hb95 : sx_bit Wm 95 = true) (hbd : 4 ≤ bud.1 ∧ 92 ≤ bud.2.1) : zC D Wm ST b0 l Sg zM251 bud [(2, 88), (0, o)] μ (fun st' μ' => ∃ x f q LL, st' = [(0, x)] ∧ zTJ φ μ' ∧ zCfx μ μ' ∧ zBx K V 1 o (-1) j f q LL ∧ ((x = 1 ∧ f = 0 ∧ zCq K S V n q μ' ∧ zCd μ μ' LL ∧ μ' 93 3 + j ≤ μ 93 3 + q) ∨ (x = 0 ∧ f ≠ 0 ∧ zFl S f q μ'))) := by
  have hc := h
  have hF : zCfx μ μ := zCfx_refl
  obtain ⟨⟨q1, q2, q3⟩, q4, q5, q6⟩ := id h
  refine pm_blk hK zmm251 [] 2 2 [(2, 88), (0, o), (9, 0), (9, 0), (9, 0)] [(0, o), (2, 88)] μ [] rfl trivial ?_
  refine pm_call hK zmm251 (183, 0, 252, 1) zM252 (max (fs + 2) 3, max (ls + 46) 70) [(2, 88), (0, o)] [] rfl rfl rfl rfl ⟨by omega, by rw [zn252]; omega⟩ (zw_cond hK (j := j) hc hKn hT (by omega) ho IHs IHc ⟨(show fs + 2 ≤ max (fs + 2) 3 by omega), (show ls + 46 ≤ max (ls + 46) 70 by omega)⟩ hb88 hb93 hb95 ⟨(show 3 ≤ max (fs + 2) 3 by omega), (show 70 ≤ max (ls + 46) 70 by omega)⟩) (fun st1 μc1 hp1 => ?_)
  obtain ⟨x1, gg, pp, LL, rfl, hTc1, hC1, hPP, hQ⟩ := hp1
  have hx101 : x1 = 0 ∨ x1 = 1 := by rcases hQ with q | q; exact Or.inr q.1; exact Or.inl q.1
  have hF := zCfx_tr hF hC1
  refine pm_if hK zmm251 .ne 5 10 rfl rfl (fun h0 => ?_) (fun h0 => ?_)
  · have h0 : x1 ≠ (0 : Int) := h0
    obtain ⟨g0, hc, hdu, hl9⟩ := zGok hQ h0
    have hpl := hc.2.2.2.1
    subst g0
    refine pm_blk hK zmm251 [] 4 14 [(2, 88), (0, o), (0, (-1)), (0, 0), (9, 0)] [] μc1 [] rfl trivial ?_
    have hgt := zBx_gt hPP
    exact zw_cl hK (μ0 := μ) (j0 := j) hKn hcl ho IHs IHc hb2 hb88 hb93 hb95 hbd _ rfl (Or.inl rfl) ⟨by omega, by omega⟩ hc hF ⟨_, hdu, fun f q L h9 => zBx_1 hPP h9⟩ ⟨by omega, fun h9 => absurd rfl h9⟩ hTc1
  · have h0 : x1 = (0 : Int) := h0
    refine pm_blk hK zmm251 [] 1 9 [(2, 88), (0, o), (9, 0), (9, 0), (9, 0)] [(0, 0)] μc1 [] rfl trivial ?_
    obtain ⟨g1, hfl⟩ := zGno hQ h0
    exact pm_zret rfl rfl (by first | exact Or.inl rfl | exact Or.inr rfl | omega) ⟨0, gg, pp, [], rfl, hTc1, hF, zBx_1f hPP g1, Or.inr ⟨rfl, g1, hfl⟩⟩
set_option maxRecDepth 100000 in
theorem zw_lev (hK : zKK ST) {K S V : Int → Int} {n : Int} (hKn : zKn K V n) (hb88 : sx_bit Wm 88 = true) (hb93 : sx_bit Wm 93 = true) (hb95 : sx_bit Wm 95 = true) : ∀ (d : Nat) (o : Int), 0 ≤ o → o + (d : Int) = 8 → zGc φ D Wm ST b0 l Sg 0 zM252 K S V n o (3 * d + 3) (70 * d + 70) ∧ zGc φ D Wm ST b0 l Sg 1 zM251 K S V n o (3 * d + 4) (70 * d + 92)
  | 0, o, h0, ho => ⟨fun bud μ j hT h hcl hb => zw_cond hK (fs := 0) (ls := 0) h hKn hT hcl ⟨by omega, by omega⟩ (fun h9 => absurd h9 (by omega)) (fun h9 => absurd h9 (by omega)) ⟨by omega, by omega⟩ hb88 hb93 hb95 ⟨by omega, by omega⟩, fun bud μ j hT h hcl hb => zw_conds hK (fs := 0) (ls := 0) h hKn hT hcl ⟨by omega, by omega⟩ (fun h9 => absurd h9 (by omega)) (fun h9 => absurd h9 (by omega)) ⟨by omega, by omega⟩ hb88 hb93 hb95 ⟨by omega, by omega⟩⟩
  | d + 1, o, h0, ho => by
    obtain ⟨ic, is⟩ := zw_lev hK hKn hb88 hb93 hb95 d (o + 1) (by omega) (by omega)
    have ic2 : zGc φ D Wm ST b0 l Sg 0 zM252 K S V n (o + 1) (3 * d + 4) (70 * d + 92) := fun bud μ j hT h hcl hb => ic bud μ j hT h hcl ⟨by omega, by omega⟩
    exact ⟨fun bud μ j hT h hcl hb => zw_cond hK (fs := 3 * d + 4) (ls := 70 * d + 92) h hKn hT hcl ⟨by omega, by omega⟩ (fun _ => is) (fun _ => ic2) ⟨by omega, by omega⟩ hb88 hb93 hb95 ⟨by omega, by omega⟩, fun bud μ j hT h hcl hb => zw_conds hK (fs := 3 * d + 4) (ls := 70 * d + 92) h hKn hT hcl ⟨by omega, by omega⟩ (fun _ => is) (fun _ => ic2) ⟨by omega, by omega⟩ hb88 hb93 hb95 ⟨by omega, by omega⟩⟩
end ZHW
