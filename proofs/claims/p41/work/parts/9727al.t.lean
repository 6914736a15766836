/-! texts: read by the class; walks printed by program (wip/p30/pmgen.py) and filled by hand -/
section ZHW
variable {φ : Option pm_Mem}
variable {D : va_G} {Wm : Nat} {ST : List (String × String × String × Nat)} {b0 : sx_B} {l : Launch} {Sg : Nat → Option Nat} {bud : sx_Bu} {μ : pm_Mem} {B0 : Nat → Prop} {J : (Nat → Option Nat) → Heap → Prop}
set_option maxRecDepth 100000 in
theorem zg_clear (hK : zKK ST) (hT : zTJ φ μ) (hb93 : sx_bit Wm 93 = true) (hbd : 0 ≤ bud.1 ∧ 0 ≤ bud.2.1) : zC D Wm ST b0 l Sg zM50 bud [(2, 93)] μ (fun st' μ' => st' = [] ∧ zTJ φ μ' ∧ μ' = pm_up (pm_up μ 93 2 0) 93 3 0) := by
  refine pm_blk hK zmm50 [] 3 5 [(2, 93)] [] (pm_up μ 93 2 0) [sx_bit Wm 93 = true] rfl ⟨hb93, trivial⟩ ?_
  obtain ⟨μ1, eμ1⟩ : ∃ μ', μ' = pm_up μ 93 2 0 := ⟨_, rfl⟩
  rw [← eμ1]
  have hTμ1 : zTJ φ μ1 := by rw [eμ1]; exact zT_up hT zs93_2 rfl (i := 2) (by omega) (by omega) (by omega) (by omega)
  refine pm_blk hK zmm50 [] 3 10 [(2, 93)] [] (pm_up μ1 93 3 0) [sx_bit Wm 93 = true] rfl ⟨hb93, trivial⟩ ?_
  obtain ⟨μ2, eμ2⟩ : ∃ μ', μ' = pm_up μ1 93 3 0 := ⟨_, rfl⟩
  rw [← eμ2]
  have hTμ2 : zTJ φ μ2 := by rw [eμ2]; exact zT_up hTμ1 zs93_3 rfl (i := 3) (by omega) (by omega) (by omega) (by omega)
  exact pm_vret rfl rfl ⟨rfl, hTμ2, by rw [eμ2, eμ1]⟩
set_option maxRecDepth 100000 in
theorem zg_rs1 (hK : zKK ST)  {μ0 : pm_Mem} {sh cu : Int} {K S V : Int → Int} {N : Int} (hKn : K N = 257) {Q : Int → pm_Mem → Prop} (hQQ : ∀ y μ2, zRdo (zLi0 (zPa1 K V sh cu) K 318) (zCe1 K V) K S μ0 y μ2 → Q y μ2) (hsh : μ0 88 9 = sh) (hcu : μ0 88 10 = cu) (hb88 : sx_bit Wm 88 = true) (hb93 : sx_bit Wm 93 = true) (hb94 : sx_bit Wm 94 = true) (hbd : 5 ≤ bud.1 ∧ 111 ≤ bud.2.1) : ∀ (n : Nat) {x i : Int} {μ : pm_Mem}, (17 - i).toNat = n → ∀ (hS : zRs (zLi0 (zPa1 K V sh cu) K 318) (zCe1 K V) K S V N μ0 x i μ) (hT : zTJ φ μ), zW D Wm ST b0 l Sg zM49 bud (pm_X zM49 (fun st' μ' => ∃ y, st' = [(0, y)] ∧ zTJ φ μ' ∧ Q y μ')) 41 [(2, 88), (0, 1), (2, 3), (0, x), (0, i)] [] μ := by
  intro n
  induction n using Nat.strongRecOn with
  | ind n ih =>
    intro x i μ hn hS hT
    have hx01 := zRs_01 hS
    have hib := hS.1
    refine pm_blk hK zmm49 [] 2 45 [(2, 88), (0, 1), (2, 3), (0, x), (0, i)] [(0, 16), (0, i)] μ [] rfl trivial ?_
    refine pm_icmp hK zmm49 .gt 89 134 rfl rfl (fun h0 => ?_) (fun h0 => ?_)
    · have h0 : (16 : Int) < i := h0
      refine pm_blk hK zmm49 [] 1 135 [(2, 88), (0, 1), (2, 3), (0, x), (0, i)] [(0, x)] μ [] rfl trivial ?_
      first
      | exact pm_zret rfl rfl (by first | exact Or.inl rfl | exact Or.inr rfl | omega) ⟨_, rfl, hT, hQQ _ _ (zRs_17 hS h0)⟩
      | exact pm_zret rfl rfl (by first | exact Or.inl rfl | exact Or.inr rfl | omega) ⟨_, rfl, hT, hQQ _ _ (zRs_0 hS h0)⟩
      | exact pm_zret rfl rfl (by first | exact Or.inl rfl | exact Or.inr rfl | omega) ⟨_, rfl, hT, hQQ _ _ (zRs_e hS hx0 hch hce h0 h)⟩
      | (exfalso; omega)
    · have h0 : i ≤ (16 : Int) := h0
      refine pm_blk hK zmm49 [] 1 49 [(2, 88), (0, 1), (2, 3), (0, x), (0, i)] [(0, x)] μ [] rfl trivial ?_
      refine pm_if hK zmm49 .eq 85 134 rfl rfl (fun h1 => ?_) (fun h1 => ?_)
      · have h1 : x = (0 : Int) := h1
        refine pm_blk hK zmm49 [] 1 135 [(2, 88), (0, 1), (2, 3), (0, x), (0, i)] [(0, x)] μ [] rfl trivial ?_
        first
        | exact pm_zret rfl rfl (by first | exact Or.inl rfl | exact Or.inr rfl | omega) ⟨_, rfl, hT, hQQ _ _ (zRs_17 hS h1)⟩
        | exact pm_zret rfl rfl (by first | exact Or.inl rfl | exact Or.inr rfl | omega) ⟨_, rfl, hT, hQQ _ _ (zRs_0 hS h1)⟩
        | exact pm_zret rfl rfl (by first | exact Or.inl rfl | exact Or.inr rfl | omega) ⟨_, rfl, hT, hQQ _ _ (zRs_e hS hx0 hch hce h1 h)⟩
        | (exfalso; omega)
      · have h1 : x ≠ (0 : Int) := h1
        have hx0 := h1
        obtain ⟨hi16, hln, J, hch, h, hce⟩ := zRs_1 hS hx0
        have hlm := hln
        have hsm : μ 88 9 = sh := (hS.2.1.2.1 9 (by decide) (by decide) (by decide)).trans hsh
        have hcm : μ 88 10 = cu := (hS.2.1.2.1 10 (by decide) (by decide) (by decide)).trans hcu
        have hF : zCf μ μ := zCf_refl
        obtain ⟨⟨q1, q2, q3⟩, q4, q5, q6⟩ := id h
        refine pm_blk hK zmm49 [] 1 53 [(2, 88), (0, 1), (2, 3), (0, x), (0, i)] [(2, 88)] μ [] rfl trivial ?_
        refine pm_call hK zmm49 (70, 0, 53, 0) zM53 (0, 0) [(2, 88)] [] rfl rfl rfl rfl ⟨by omega, by rw [zn53]; omega⟩ (zg_kind hK h ⟨Nat.le_refl _, Nat.le_refl _⟩) (fun st1 μc1 hp1 => ?_)
        obtain ⟨rfl, rfl⟩ := hp1
        refine pm_blk hK zmm49 [] 1 59 [(2, 88), (0, 1), (2, 3), (0, x), (0, i)] [(0, 257), (0, K (J i.toNat))] μ [] rfl trivial ?_
        refine pm_icmp hK zmm49 .eq 75 134 rfl rfl (fun h2 => ?_) (fun h2 => ?_)
        · have h2 : K (J i.toNat) = (257 : Int) := h2
          refine pm_blk hK zmm49 [] 1 135 [(2, 88), (0, 1), (2, 3), (0, x), (0, i)] [(0, x)] μ [] rfl trivial ?_
          first
          | exact pm_zret rfl rfl (by first | exact Or.inl rfl | exact Or.inr rfl | omega) ⟨_, rfl, hT, hQQ _ _ (zRs_17 hS h2)⟩
          | exact pm_zret rfl rfl (by first | exact Or.inl rfl | exact Or.inr rfl | omega) ⟨_, rfl, hT, hQQ _ _ (zRs_0 hS h2)⟩
          | exact pm_zret rfl rfl (by first | exact Or.inl rfl | exact Or.inr rfl | omega) ⟨_, rfl, hT, hQQ _ _ (zRs_e hS hx0 hch hce h2 h)⟩
          | (exfalso; omega)
        · have h2 : K (J i.toNat) ≠ (257 : Int) := h2
          have hKj := h2
          refine pm_blk hK zmm49 [] 2 64 [(2, 88), (0, 1), (2, 3), (0, x), (0, i)] [(0, 1), (2, 88)] μ [] rfl trivial ?_
          refine pm_call hK zmm49 (74, 0, 241, 1) zM241 (2, 45) [(2, 88), (0, 1)] [] rfl rfl rfl rfl ⟨by omega, by rw [zn241]; omega⟩ (zg_beg1 hK (j := J i.toNat) (j1 := J i.toNat + 1) h hKn (by omega) hT hlm ⟨by omega, by omega⟩ hb88 hb94 ⟨Nat.le_refl _, Nat.le_refl _⟩) (fun st2 μc2 hp2 => ?_)
          obtain ⟨x2, rfl, hTc2, hC2, hA2, hB2⟩ := hp2
          have hx201 : x2 = 0 ∨ x2 = 1 := by by_cases h9 : x2 = 0; exact Or.inl h9; exact Or.inr (hA2 h9).1
          have hF := zCf_tr hF hC2
          have hA := hA2
          have hB := hB2
          have hl2 : μc2 93 2 = i := by rw [hC2.1 93 (by decide) (by decide)]; exact hlm
          have hlm := hl2
          have hs2 : μc2 88 9 = sh := by rw [hC2.2 9 (by decide) (by decide) (by decide)]; exact hsm
          have hsm := hs2
          have hd2 : μc2 88 10 = cu := by rw [hC2.2 10 (by decide) (by decide) (by decide)]; exact hcm
          have hcm := hd2
          refine pm_if hK zmm49 .eq 38 105 rfl rfl (fun h3 => ?_) (fun h3 => ?_)
          · have h3 : x2 = (0 : Int) := h3
            have hx9 := h3
            have f1 := zT_get hTc2 zs93_2 (i := 2) (by omega) (by omega)
            refine pm_blk hK zmm49 [] 7 116 [(2, 88), (0, 1), (2, 3), (0, 0), (0, i)] [(0, 0), (0, μc2 93 2), (2, 93)] μc2 [] rfl trivial ?_
            refine pm_if hK zmm49 .eq 7 123 rfl rfl (fun h4 => ?_) (fun h4 => ?_)
            · have h4 : (0 : Int) = (0 : Int) := h4
              refine pm_blk hK zmm49 [] 3 128 [(2, 88), (0, 1), (2, 3), (0, 0), (0, i)] [] (pm_up μc2 93 2 ((μc2 93 2) + 0)) [pm_in ((μc2 93 2) + 0), sx_bit Wm 93 = true] rfl ⟨pm_in_mk (by omega) (by omega), hb93, trivial⟩ ?_
              obtain ⟨μ1, eμ1⟩ : ∃ μ', μ' = pm_up μc2 93 2 ((μc2 93 2) + 0) := ⟨_, rfl⟩
              rw [← eμ1]
              have hTμ1 : zTJ φ μ1 := by rw [eμ1]; exact zT_up hTc2 zs93_2 rfl (i := 2) (by omega) (by omega) (by omega) (by omega)
              refine pm_blk hK zmm49 [] 2 41 [(2, 88), (0, 1), (2, 3), (0, 0), (0, i + 1)] [] μ1 [pm_in (i + 1)] rfl ⟨pm_in_mk (by omega) (by omega), trivial⟩ ?_
              first
              | (refine ih _ (by omega) rfl (zRs_ok (J := J) ⟨by omega, by omega⟩ (by rw [eμ1]; exact zCg_93 (zCg_f hS.2.1 hF)) (by rw [eμ1, pm_up_eq]; omega) hch (Or.inr (Or.inr ⟨hkw, by omega, gg, pp, hPP, Or.inr (Or.inr ⟨g0, rfl, rfl, hs59⟩)⟩)) (by rw [eμ1]; exact zCl_o hc (by decide)) (zCe1_add (kw := K (J i.toNat)) hce rfl (by rw [eμ1, pm_up_row (by decide), m2, m1, m0, show ((i.toNat : Nat) : Int) = i by omega]))) hTμ1)
              | (obtain ⟨f, f1, hfl⟩ := hB hx9
                 rcases f1 with ⟨a1, a2⟩ | ⟨a1, a2, a3⟩
                 · exact ih _ (by omega) rfl (zRs_no (J := J) ⟨by omega, by omega⟩ (by rw [eμ1]; exact zCg_93 (zCg_f hS.2.1 hF)) hch hKj (Or.inl ⟨a1, rfl, a2⟩) (by omega) (by rw [eμ1]; exact zFl_93 hfl)) hTμ1
                 · exact ih _ (by omega) rfl (zRs_no (J := J) ⟨by omega, by omega⟩ (by rw [eμ1]; exact zCg_93 (zCg_f hS.2.1 hF)) hch hKj (Or.inr (Or.inl ⟨a1, rfl, a2, by omega⟩)) (by omega) (by rw [eμ1]; exact zFl_93 hfl)) hTμ1)
              | (rcases hQ with ⟨a, -⟩ | ⟨-, g1, hfl⟩
                 · omega
                 · exact ih _ (by omega) rfl (zRs_no (J := J) ⟨by omega, by omega⟩ (by rw [eμ1]; exact zCg_93 (zCg_f hS.2.1 hF)) hch hKj (Or.inr (Or.inr ⟨hkw, by omega, gg, pp, hPP, Or.inl ⟨g1, rfl, rfl⟩⟩)) (by omega) (by rw [eμ1]; exact zFl_93 hfl)) hTμ1)
              | (obtain ⟨f, ⟨a1, a2⟩, hfl⟩ := hB hx9
                 exact ih _ (by omega) rfl (zRs_no (J := J) ⟨by omega, by omega⟩ (by rw [eμ1]; exact zCg_93 (zCg_f hS.2.1 hF)) hch hKj (Or.inr (Or.inr ⟨hkw, by omega, gg, pp, hPP, Or.inr (Or.inl ⟨g0, a1, rfl, a2⟩)⟩)) (by omega) (by rw [eμ1]; exact zFl_93 hfl)) hTμ1)
              | (exfalso; omega)
            · have h4 : (0 : Int) ≠ (0 : Int) := h4
              exact absurd h4 (by decide)
          · have h3 : x2 ≠ (0 : Int) := h3
            obtain ⟨-, ⟨hkw, hl15⟩, hc, m0⟩ := hA h3
            refine pm_blk hK zmm49 [] 1 71 [(2, 88), (0, 1), (2, 3), (0, x), (0, i)] [(0, 1)] μc2 [] rfl trivial ?_
            refine pm_if hK zmm49 .ne 13 84 rfl rfl (fun h5 => ?_) (fun h5 => ?_)
            · have h5 : (1 : Int) ≠ (0 : Int) := h5
              refine pm_blk hK zmm49 [] 2 86 [(2, 88), (0, 1), (2, 3), (0, x), (0, i)] [(0, 1), (2, 88)] μc2 [] rfl trivial ?_
              refine pm_call hK zmm49 (82, 0, 255, 1) zM255 (4, 90) [(2, 88), (0, 1)] [] rfl rfl rfl rfl ⟨by omega, by rw [zn255]; omega⟩ (zg_pl1 hK (j := J i.toNat + 1) hc hKn hTc2 hlm ⟨by omega, by omega⟩ hsm hcm hb88 hb94 ⟨Nat.le_refl _, Nat.le_refl _⟩) (fun st3 μc3 hp3 => ?_)
              obtain ⟨x3, gg, pp, rfl, hTc3, hC3, hPP, hQ⟩ := hp3
              have hx301 : x3 = 0 ∨ x3 = 1 := by rcases hQ with q | q; exact Or.inr q.1; exact Or.inl q.1
              have hF := zCf_tr hF hC3
              have hl3 : μc3 93 2 = i := by rw [hC3.1 93 (by decide) (by decide)]; exact hlm
              have hlm := hl3
              have hs3 : μc3 88 9 = sh := by rw [hC3.2 9 (by decide) (by decide) (by decide)]; exact hsm
              have hsm := hs3
              have hd3 : μc3 88 10 = cu := by rw [hC3.2 10 (by decide) (by decide) (by decide)]; exact hcm
              have hcm := hd3
              refine pm_if hK zmm49 .eq 16 105 rfl rfl (fun h6 => ?_) (fun h6 => ?_)
              · have h6 : x3 = (0 : Int) := h6
                have hx9 := h6
                have f2 := zT_get hTc3 zs93_2 (i := 2) (by omega) (by omega)
                refine pm_blk hK zmm49 [] 7 116 [(2, 88), (0, 1), (2, 3), (0, 0), (0, i)] [(0, 0), (0, μc3 93 2), (2, 93)] μc3 [] rfl trivial ?_
                refine pm_if hK zmm49 .eq 7 123 rfl rfl (fun h7 => ?_) (fun h7 => ?_)
                · have h7 : (0 : Int) = (0 : Int) := h7
                  refine pm_blk hK zmm49 [] 3 128 [(2, 88), (0, 1), (2, 3), (0, 0), (0, i)] [] (pm_up μc3 93 2 ((μc3 93 2) + 0)) [pm_in ((μc3 93 2) + 0), sx_bit Wm 93 = true] rfl ⟨pm_in_mk (by omega) (by omega), hb93, trivial⟩ ?_
                  obtain ⟨μ2, eμ2⟩ : ∃ μ', μ' = pm_up μc3 93 2 ((μc3 93 2) + 0) := ⟨_, rfl⟩
                  rw [← eμ2]
                  have hTμ2 : zTJ φ μ2 := by rw [eμ2]; exact zT_up hTc3 zs93_2 rfl (i := 2) (by omega) (by omega) (by omega) (by omega)
                  refine pm_blk hK zmm49 [] 2 41 [(2, 88), (0, 1), (2, 3), (0, 0), (0, i + 1)] [] μ2 [pm_in (i + 1)] rfl ⟨pm_in_mk (by omega) (by omega), trivial⟩ ?_
                  first
                  | (refine ih _ (by omega) rfl (zRs_ok (J := J) ⟨by omega, by omega⟩ (by rw [eμ2]; exact zCg_93 (zCg_f hS.2.1 hF)) (by rw [eμ2, pm_up_eq]; omega) hch (Or.inr (Or.inr ⟨hkw, by omega, gg, pp, hPP, Or.inr (Or.inr ⟨g0, rfl, rfl, hs59⟩)⟩)) (by rw [eμ2]; exact zCl_o hc (by decide)) (zCe1_add (kw := K (J i.toNat)) hce rfl (by rw [eμ2, pm_up_row (by decide), m2, m1, m0, show ((i.toNat : Nat) : Int) = i by omega]))) hTμ2)
                  | (obtain ⟨f, f1, hfl⟩ := hB hx9
                     rcases f1 with ⟨a1, a2⟩ | ⟨a1, a2, a3⟩
                     · exact ih _ (by omega) rfl (zRs_no (J := J) ⟨by omega, by omega⟩ (by rw [eμ2]; exact zCg_93 (zCg_f hS.2.1 hF)) hch hKj (Or.inl ⟨a1, rfl, a2⟩) (by omega) (by rw [eμ2]; exact zFl_93 hfl)) hTμ2
                     · exact ih _ (by omega) rfl (zRs_no (J := J) ⟨by omega, by omega⟩ (by rw [eμ2]; exact zCg_93 (zCg_f hS.2.1 hF)) hch hKj (Or.inr (Or.inl ⟨a1, rfl, a2, by omega⟩)) (by omega) (by rw [eμ2]; exact zFl_93 hfl)) hTμ2)
                  | (rcases hQ with ⟨a, -⟩ | ⟨-, g1, hfl⟩
                     · omega
                     · exact ih _ (by omega) rfl (zRs_no (J := J) ⟨by omega, by omega⟩ (by rw [eμ2]; exact zCg_93 (zCg_f hS.2.1 hF)) hch hKj (Or.inr (Or.inr ⟨hkw, by omega, gg, pp, hPP, Or.inl ⟨g1, rfl, rfl⟩⟩)) (by omega) (by rw [eμ2]; exact zFl_93 hfl)) hTμ2)
                  | (obtain ⟨f, ⟨a1, a2⟩, hfl⟩ := hB hx9
                     exact ih _ (by omega) rfl (zRs_no (J := J) ⟨by omega, by omega⟩ (by rw [eμ2]; exact zCg_93 (zCg_f hS.2.1 hF)) hch hKj (Or.inr (Or.inr ⟨hkw, by omega, gg, pp, hPP, Or.inr (Or.inl ⟨g0, a1, rfl, a2⟩)⟩)) (by omega) (by rw [eμ2]; exact zFl_93 hfl)) hTμ2)
                  | (exfalso; omega)
                · have h7 : (0 : Int) ≠ (0 : Int) := h7
                  exact absurd h7 (by decide)
              · have h6 : x3 ≠ (0 : Int) := h6
                obtain ⟨g0, hc, m1⟩ := zGok hQ h6
                refine pm_blk hK zmm49 [] 2 95 [(2, 88), (0, 1), (2, 3), (0, x), (0, i)] [(0, 59), (2, 88)] μc3 [] rfl trivial ?_
                refine pm_call hK zmm49 (85, 0, 254, 1) zM254 (1, 21) [(2, 88), (0, 59)] [] rfl rfl rfl rfl ⟨by omega, by rw [zn254]; omega⟩ (zg_sign hK (c := 59) (j := pp) (j1 := pp + 1) hc hKn (by omega) (by decide) hTc3 hb88 ⟨Nat.le_refl _, Nat.le_refl _⟩) (fun st4 μc4 hp4 => ?_)
                obtain ⟨x4, rfl, hTc4, hC4, hA4, hB4⟩ := hp4
                have hx401 : x4 = 0 ∨ x4 = 1 := by by_cases h9 : x4 = 0; exact Or.inl h9; exact Or.inr (hA4 h9).1
                have hF := zCf_tr hF hC4
                have hA := hA4
                have hB := hB4
                have hl4 : μc4 93 2 = i := by rw [hC4.1 93 (by decide) (by decide)]; exact hlm
                have hlm := hl4
                have hs4 : μc4 88 9 = sh := by rw [hC4.2 9 (by decide) (by decide) (by decide)]; exact hsm
                have hsm := hs4
                have hd4 : μc4 88 10 = cu := by rw [hC4.2 10 (by decide) (by decide) (by decide)]; exact hcm
                have hcm := hd4
                refine pm_if hK zmm49 .eq 7 105 rfl rfl (fun h8 => ?_) (fun h8 => ?_)
                · have h8 : x4 = (0 : Int) := h8
                  have hx9 := h8
                  have f3 := zT_get hTc4 zs93_2 (i := 2) (by omega) (by omega)
                  refine pm_blk hK zmm49 [] 7 116 [(2, 88), (0, 1), (2, 3), (0, 0), (0, i)] [(0, 0), (0, μc4 93 2), (2, 93)] μc4 [] rfl trivial ?_
                  refine pm_if hK zmm49 .eq 7 123 rfl rfl (fun h9 => ?_) (fun h9 => ?_)
                  · have h9 : (0 : Int) = (0 : Int) := h9
                    refine pm_blk hK zmm49 [] 3 128 [(2, 88), (0, 1), (2, 3), (0, 0), (0, i)] [] (pm_up μc4 93 2 ((μc4 93 2) + 0)) [pm_in ((μc4 93 2) + 0), sx_bit Wm 93 = true] rfl ⟨pm_in_mk (by omega) (by omega), hb93, trivial⟩ ?_
                    obtain ⟨μ3, eμ3⟩ : ∃ μ', μ' = pm_up μc4 93 2 ((μc4 93 2) + 0) := ⟨_, rfl⟩
                    rw [← eμ3]
                    have hTμ3 : zTJ φ μ3 := by rw [eμ3]; exact zT_up hTc4 zs93_2 rfl (i := 2) (by omega) (by omega) (by omega) (by omega)
                    refine pm_blk hK zmm49 [] 2 41 [(2, 88), (0, 1), (2, 3), (0, 0), (0, i + 1)] [] μ3 [pm_in (i + 1)] rfl ⟨pm_in_mk (by omega) (by omega), trivial⟩ ?_
                    first
                    | (refine ih _ (by omega) rfl (zRs_ok (J := J) ⟨by omega, by omega⟩ (by rw [eμ3]; exact zCg_93 (zCg_f hS.2.1 hF)) (by rw [eμ3, pm_up_eq]; omega) hch (Or.inr (Or.inr ⟨hkw, by omega, gg, pp, hPP, Or.inr (Or.inr ⟨g0, rfl, rfl, hs59⟩)⟩)) (by rw [eμ3]; exact zCl_o hc (by decide)) (zCe1_add (kw := K (J i.toNat)) hce rfl (by rw [eμ3, pm_up_row (by decide), m2, m1, m0, show ((i.toNat : Nat) : Int) = i by omega]))) hTμ3)
                    | (obtain ⟨f, f1, hfl⟩ := hB hx9
                       rcases f1 with ⟨a1, a2⟩ | ⟨a1, a2, a3⟩
                       · exact ih _ (by omega) rfl (zRs_no (J := J) ⟨by omega, by omega⟩ (by rw [eμ3]; exact zCg_93 (zCg_f hS.2.1 hF)) hch hKj (Or.inl ⟨a1, rfl, a2⟩) (by omega) (by rw [eμ3]; exact zFl_93 hfl)) hTμ3
                       · exact ih _ (by omega) rfl (zRs_no (J := J) ⟨by omega, by omega⟩ (by rw [eμ3]; exact zCg_93 (zCg_f hS.2.1 hF)) hch hKj (Or.inr (Or.inl ⟨a1, rfl, a2, by omega⟩)) (by omega) (by rw [eμ3]; exact zFl_93 hfl)) hTμ3)
                    | (rcases hQ with ⟨a, -⟩ | ⟨-, g1, hfl⟩
                       · omega
                       · exact ih _ (by omega) rfl (zRs_no (J := J) ⟨by omega, by omega⟩ (by rw [eμ3]; exact zCg_93 (zCg_f hS.2.1 hF)) hch hKj (Or.inr (Or.inr ⟨hkw, by omega, gg, pp, hPP, Or.inl ⟨g1, rfl, rfl⟩⟩)) (by omega) (by rw [eμ3]; exact zFl_93 hfl)) hTμ3)
                    | (obtain ⟨f, ⟨a1, a2⟩, hfl⟩ := hB hx9
                       exact ih _ (by omega) rfl (zRs_no (J := J) ⟨by omega, by omega⟩ (by rw [eμ3]; exact zCg_93 (zCg_f hS.2.1 hF)) hch hKj (Or.inr (Or.inr ⟨hkw, by omega, gg, pp, hPP, Or.inr (Or.inl ⟨g0, a1, rfl, a2⟩)⟩)) (by omega) (by rw [eμ3]; exact zFl_93 hfl)) hTμ3)
                    | (exfalso; omega)
                  · have h9 : (0 : Int) ≠ (0 : Int) := h9
                    exact absurd h9 (by decide)
                · have h8 : x4 ≠ (0 : Int) := h8
                  obtain ⟨-, hs59, hc, m2⟩ := hA h8
                  have f4 := zT_get hTc4 zs93_2 (i := 2) (by omega) (by omega)
                  refine pm_blk hK zmm49 [] 8 116 [(2, 88), (0, 1), (2, 3), (0, 1), (0, i)] [(0, 1), (0, μc4 93 2), (2, 93)] μc4 [] rfl trivial ?_
                  refine pm_if hK zmm49 .eq 7 123 rfl rfl (fun h10 => ?_) (fun h10 => ?_)
                  · have h10 : (1 : Int) = (0 : Int) := h10
                    exact absurd h10 (by decide)
                  · have h10 : (1 : Int) ≠ (0 : Int) := h10
                    refine pm_blk hK zmm49 [] 4 128 [(2, 88), (0, 1), (2, 3), (0, 1), (0, i)] [] (pm_up μc4 93 2 ((μc4 93 2) + 1)) [pm_in ((μc4 93 2) + 1), sx_bit Wm 93 = true] rfl ⟨pm_in_mk (by omega) (by omega), hb93, trivial⟩ ?_
                    obtain ⟨μ4, eμ4⟩ : ∃ μ', μ' = pm_up μc4 93 2 ((μc4 93 2) + 1) := ⟨_, rfl⟩
                    rw [← eμ4]
                    have hTμ4 : zTJ φ μ4 := by rw [eμ4]; exact zT_up hTc4 zs93_2 rfl (i := 2) (by omega) (by omega) (by omega) (by omega)
                    refine pm_blk hK zmm49 [] 2 41 [(2, 88), (0, 1), (2, 3), (0, 1), (0, i + 1)] [] μ4 [pm_in (i + 1)] rfl ⟨pm_in_mk (by omega) (by omega), trivial⟩ ?_
                    first
                    | (refine ih _ (by omega) rfl (zRs_ok (J := J) ⟨by omega, by omega⟩ (by rw [eμ4]; exact zCg_93 (zCg_f hS.2.1 hF)) (by rw [eμ4, pm_up_eq]; omega) hch (Or.inr (Or.inr ⟨hkw, by omega, gg, pp, hPP, Or.inr (Or.inr ⟨g0, rfl, rfl, hs59⟩)⟩)) (by rw [eμ4]; exact zCl_o hc (by decide)) (zCe1_add (kw := K (J i.toNat)) hce rfl (by rw [eμ4, pm_up_row (by decide), m2, m1, m0, show ((i.toNat : Nat) : Int) = i by omega]))) hTμ4)
                    | (obtain ⟨f, f1, hfl⟩ := hB hx9
                       rcases f1 with ⟨a1, a2⟩ | ⟨a1, a2, a3⟩
                       · exact ih _ (by omega) rfl (zRs_no (J := J) ⟨by omega, by omega⟩ (by rw [eμ4]; exact zCg_93 (zCg_f hS.2.1 hF)) hch hKj (Or.inl ⟨a1, rfl, a2⟩) (by omega) (by rw [eμ4]; exact zFl_93 hfl)) hTμ4
                       · exact ih _ (by omega) rfl (zRs_no (J := J) ⟨by omega, by omega⟩ (by rw [eμ4]; exact zCg_93 (zCg_f hS.2.1 hF)) hch hKj (Or.inr (Or.inl ⟨a1, rfl, a2, by omega⟩)) (by omega) (by rw [eμ4]; exact zFl_93 hfl)) hTμ4)
                    | (rcases hQ with ⟨a, -⟩ | ⟨-, g1, hfl⟩
                       · omega
                       · exact ih _ (by omega) rfl (zRs_no (J := J) ⟨by omega, by omega⟩ (by rw [eμ4]; exact zCg_93 (zCg_f hS.2.1 hF)) hch hKj (Or.inr (Or.inr ⟨hkw, by omega, gg, pp, hPP, Or.inl ⟨g1, rfl, rfl⟩⟩)) (by omega) (by rw [eμ4]; exact zFl_93 hfl)) hTμ4)
                    | (obtain ⟨f, ⟨a1, a2⟩, hfl⟩ := hB hx9
                       exact ih _ (by omega) rfl (zRs_no (J := J) ⟨by omega, by omega⟩ (by rw [eμ4]; exact zCg_93 (zCg_f hS.2.1 hF)) hch hKj (Or.inr (Or.inr ⟨hkw, by omega, gg, pp, hPP, Or.inr (Or.inl ⟨g0, a1, rfl, a2⟩)⟩)) (by omega) (by rw [eμ4]; exact zFl_93 hfl)) hTμ4)
                    | (exfalso; omega)
            · have h5 : (1 : Int) = (0 : Int) := h5
              exact absurd h5 (by decide)
set_option maxRecDepth 100000 in
theorem zg_rs2 (hK : zKK ST)  {μ0 : pm_Mem} {sh cu : Int} {K S V : Int → Int} {N : Int} (hKn : K N = 257) {Q : Int → pm_Mem → Prop} (hQQ : ∀ y μ2, zRdo (zLi0 (zPa2 K V sh cu) K 322) (zCe2 K V) K S μ0 y μ2 → Q y μ2) (hsh : μ0 88 9 = sh) (hcu : μ0 88 10 = cu) (hb88 : sx_bit Wm 88 = true) (hb93 : sx_bit Wm 93 = true) (hb94 : sx_bit Wm 94 = true) (hbd : 5 ≤ bud.1 ∧ 111 ≤ bud.2.1) : ∀ (n : Nat) {x i : Int} {μ : pm_Mem}, (17 - i).toNat = n → ∀ (hS : zRs (zLi0 (zPa2 K V sh cu) K 322) (zCe2 K V) K S V N μ0 x i μ) (hT : zTJ φ μ), zW D Wm ST b0 l Sg zM49 bud (pm_X zM49 (fun st' μ' => ∃ y, st' = [(0, y)] ∧ zTJ φ μ' ∧ Q y μ')) 41 [(2, 88), (0, 2), (2, 3), (0, x), (0, i)] [] μ := by
  intro n
  induction n using Nat.strongRecOn with
  | ind n ih =>
    intro x i μ hn hS hT
    have hx01 := zRs_01 hS
    have hib := hS.1
    refine pm_blk hK zmm49 [] 2 45 [(2, 88), (0, 2), (2, 3), (0, x), (0, i)] [(0, 16), (0, i)] μ [] rfl trivial ?_
    refine pm_icmp hK zmm49 .gt 89 134 rfl rfl (fun h0 => ?_) (fun h0 => ?_)
    · have h0 : (16 : Int) < i := h0
      refine pm_blk hK zmm49 [] 1 135 [(2, 88), (0, 2), (2, 3), (0, x), (0, i)] [(0, x)] μ [] rfl trivial ?_
      first
      | exact pm_zret rfl rfl (by first | exact Or.inl rfl | exact Or.inr rfl | omega) ⟨_, rfl, hT, hQQ _ _ (zRs_17 hS h0)⟩
      | exact pm_zret rfl rfl (by first | exact Or.inl rfl | exact Or.inr rfl | omega) ⟨_, rfl, hT, hQQ _ _ (zRs_0 hS h0)⟩
      | exact pm_zret rfl rfl (by first | exact Or.inl rfl | exact Or.inr rfl | omega) ⟨_, rfl, hT, hQQ _ _ (zRs_e hS hx0 hch hce h0 h)⟩
      | (exfalso; omega)
    · have h0 : i ≤ (16 : Int) := h0
      refine pm_blk hK zmm49 [] 1 49 [(2, 88), (0, 2), (2, 3), (0, x), (0, i)] [(0, x)] μ [] rfl trivial ?_
      refine pm_if hK zmm49 .eq 85 134 rfl rfl (fun h1 => ?_) (fun h1 => ?_)
      · have h1 : x = (0 : Int) := h1
        refine pm_blk hK zmm49 [] 1 135 [(2, 88), (0, 2), (2, 3), (0, x), (0, i)] [(0, x)] μ [] rfl trivial ?_
        first
        | exact pm_zret rfl rfl (by first | exact Or.inl rfl | exact Or.inr rfl | omega) ⟨_, rfl, hT, hQQ _ _ (zRs_17 hS h1)⟩
        | exact pm_zret rfl rfl (by first | exact Or.inl rfl | exact Or.inr rfl | omega) ⟨_, rfl, hT, hQQ _ _ (zRs_0 hS h1)⟩
        | exact pm_zret rfl rfl (by first | exact Or.inl rfl | exact Or.inr rfl | omega) ⟨_, rfl, hT, hQQ _ _ (zRs_e hS hx0 hch hce h1 h)⟩
        | (exfalso; omega)
      · have h1 : x ≠ (0 : Int) := h1
        have hx0 := h1
        obtain ⟨hi16, hln, J, hch, h, hce⟩ := zRs_1 hS hx0
        have hlm := hln
        have hsm : μ 88 9 = sh := (hS.2.1.2.1 9 (by decide) (by decide) (by decide)).trans hsh
        have hcm : μ 88 10 = cu := (hS.2.1.2.1 10 (by decide) (by decide) (by decide)).trans hcu
        have hF : zCf μ μ := zCf_refl
        obtain ⟨⟨q1, q2, q3⟩, q4, q5, q6⟩ := id h
        refine pm_blk hK zmm49 [] 1 53 [(2, 88), (0, 2), (2, 3), (0, x), (0, i)] [(2, 88)] μ [] rfl trivial ?_
        refine pm_call hK zmm49 (70, 0, 53, 0) zM53 (0, 0) [(2, 88)] [] rfl rfl rfl rfl ⟨by omega, by rw [zn53]; omega⟩ (zg_kind hK h ⟨Nat.le_refl _, Nat.le_refl _⟩) (fun st1 μc1 hp1 => ?_)
        obtain ⟨rfl, rfl⟩ := hp1
        refine pm_blk hK zmm49 [] 1 59 [(2, 88), (0, 2), (2, 3), (0, x), (0, i)] [(0, 257), (0, K (J i.toNat))] μ [] rfl trivial ?_
        refine pm_icmp hK zmm49 .eq 75 134 rfl rfl (fun h2 => ?_) (fun h2 => ?_)
        · have h2 : K (J i.toNat) = (257 : Int) := h2
          refine pm_blk hK zmm49 [] 1 135 [(2, 88), (0, 2), (2, 3), (0, x), (0, i)] [(0, x)] μ [] rfl trivial ?_
          first
          | exact pm_zret rfl rfl (by first | exact Or.inl rfl | exact Or.inr rfl | omega) ⟨_, rfl, hT, hQQ _ _ (zRs_17 hS h2)⟩
          | exact pm_zret rfl rfl (by first | exact Or.inl rfl | exact Or.inr rfl | omega) ⟨_, rfl, hT, hQQ _ _ (zRs_0 hS h2)⟩
          | exact pm_zret rfl rfl (by first | exact Or.inl rfl | exact Or.inr rfl | omega) ⟨_, rfl, hT, hQQ _ _ (zRs_e hS hx0 hch hce h2 h)⟩
          | (exfalso; omega)
        · have h2 : K (J i.toNat) ≠ (257 : Int) := h2
          have hKj := h2
          refine pm_blk hK zmm49 [] 2 64 [(2, 88), (0, 2), (2, 3), (0, x), (0, i)] [(0, 2), (2, 88)] μ [] rfl trivial ?_
          refine pm_call hK zmm49 (74, 0, 241, 1) zM241 (2, 45) [(2, 88), (0, 2)] [] rfl rfl rfl rfl ⟨by omega, by rw [zn241]; omega⟩ (zg_beg2 hK (j := J i.toNat) (j1 := J i.toNat + 1) h hKn (by omega) hT hlm ⟨by omega, by omega⟩ hb88 hb94 ⟨Nat.le_refl _, Nat.le_refl _⟩) (fun st2 μc2 hp2 => ?_)
          obtain ⟨x2, rfl, hTc2, hC2, hA2, hB2⟩ := hp2
          have hx201 : x2 = 0 ∨ x2 = 1 := by by_cases h9 : x2 = 0; exact Or.inl h9; exact Or.inr (hA2 h9).1
          have hF := zCf_tr hF hC2
          have hA := hA2
          have hB := hB2
          have hl2 : μc2 93 2 = i := by rw [hC2.1 93 (by decide) (by decide)]; exact hlm
          have hlm := hl2
          have hs2 : μc2 88 9 = sh := by rw [hC2.2 9 (by decide) (by decide) (by decide)]; exact hsm
          have hsm := hs2
          have hd2 : μc2 88 10 = cu := by rw [hC2.2 10 (by decide) (by decide) (by decide)]; exact hcm
          have hcm := hd2
          refine pm_if hK zmm49 .eq 38 105 rfl rfl (fun h3 => ?_) (fun h3 => ?_)
          · have h3 : x2 = (0 : Int) := h3
            have hx9 := h3
            have f1 := zT_get hTc2 zs93_2 (i := 2) (by omega) (by omega)
            refine pm_blk hK zmm49 [] 7 116 [(2, 88), (0, 2), (2, 3), (0, 0), (0, i)] [(0, 0), (0, μc2 93 2), (2, 93)] μc2 [] rfl trivial ?_
            refine pm_if hK zmm49 .eq 7 123 rfl rfl (fun h4 => ?_) (fun h4 => ?_)
            · have h4 : (0 : Int) = (0 : Int) := h4
              refine pm_blk hK zmm49 [] 3 128 [(2, 88), (0, 2), (2, 3), (0, 0), (0, i)] [] (pm_up μc2 93 2 ((μc2 93 2) + 0)) [pm_in ((μc2 93 2) + 0), sx_bit Wm 93 = true] rfl ⟨pm_in_mk (by omega) (by omega), hb93, trivial⟩ ?_
              obtain ⟨μ1, eμ1⟩ : ∃ μ', μ' = pm_up μc2 93 2 ((μc2 93 2) + 0) := ⟨_, rfl⟩
              rw [← eμ1]
              have hTμ1 : zTJ φ μ1 := by rw [eμ1]; exact zT_up hTc2 zs93_2 rfl (i := 2) (by omega) (by omega) (by omega) (by omega)
              refine pm_blk hK zmm49 [] 2 41 [(2, 88), (0, 2), (2, 3), (0, 0), (0, i + 1)] [] μ1 [pm_in (i + 1)] rfl ⟨pm_in_mk (by omega) (by omega), trivial⟩ ?_
              first
              | (refine ih _ (by omega) rfl (zRs_ok (J := J) ⟨by omega, by omega⟩ (by rw [eμ1]; exact zCg_93 (zCg_f hS.2.1 hF)) (by rw [eμ1, pm_up_eq]; omega) hch (Or.inr (Or.inr ⟨hkw, by omega, gg, pp, hPP, Or.inr (Or.inr ⟨g0, rfl, rfl, hs59⟩)⟩)) (by rw [eμ1]; exact zCl_o hc (by decide)) (zCe2_add (kw := K (J i.toNat)) hce rfl (by rw [eμ1, pm_up_row (by decide), m2, m1, m0, show ((i.toNat : Nat) : Int) = i by omega]))) hTμ1)
              | (obtain ⟨f, f1, hfl⟩ := hB hx9
                 rcases f1 with ⟨a1, a2⟩ | ⟨a1, a2, a3⟩
                 · exact ih _ (by omega) rfl (zRs_no (J := J) ⟨by omega, by omega⟩ (by rw [eμ1]; exact zCg_93 (zCg_f hS.2.1 hF)) hch hKj (Or.inl ⟨a1, rfl, a2⟩) (by omega) (by rw [eμ1]; exact zFl_93 hfl)) hTμ1
                 · exact ih _ (by omega) rfl (zRs_no (J := J) ⟨by omega, by omega⟩ (by rw [eμ1]; exact zCg_93 (zCg_f hS.2.1 hF)) hch hKj (Or.inr (Or.inl ⟨a1, rfl, a2, by omega⟩)) (by omega) (by rw [eμ1]; exact zFl_93 hfl)) hTμ1)
              | (rcases hQ with ⟨a, -⟩ | ⟨-, g1, hfl⟩
                 · omega
                 · exact ih _ (by omega) rfl (zRs_no (J := J) ⟨by omega, by omega⟩ (by rw [eμ1]; exact zCg_93 (zCg_f hS.2.1 hF)) hch hKj (Or.inr (Or.inr ⟨hkw, by omega, gg, pp, hPP, Or.inl ⟨g1, rfl, rfl⟩⟩)) (by omega) (by rw [eμ1]; exact zFl_93 hfl)) hTμ1)
              | (obtain ⟨f, ⟨a1, a2⟩, hfl⟩ := hB hx9
                 exact ih _ (by omega) rfl (zRs_no (J := J) ⟨by omega, by omega⟩ (by rw [eμ1]; exact zCg_93 (zCg_f hS.2.1 hF)) hch hKj (Or.inr (Or.inr ⟨hkw, by omega, gg, pp, hPP, Or.inr (Or.inl ⟨g0, a1, rfl, a2⟩)⟩)) (by omega) (by rw [eμ1]; exact zFl_93 hfl)) hTμ1)
              | (exfalso; omega)
            · have h4 : (0 : Int) ≠ (0 : Int) := h4
              exact absurd h4 (by decide)
          · have h3 : x2 ≠ (0 : Int) := h3
            obtain ⟨-, ⟨hkw, hl15⟩, hc, m0⟩ := hA h3
            refine pm_blk hK zmm49 [] 1 71 [(2, 88), (0, 2), (2, 3), (0, x), (0, i)] [(0, 2)] μc2 [] rfl trivial ?_
            refine pm_if hK zmm49 .ne 13 84 rfl rfl (fun h5 => ?_) (fun h5 => ?_)
            · have h5 : (2 : Int) ≠ (0 : Int) := h5
              refine pm_blk hK zmm49 [] 2 86 [(2, 88), (0, 2), (2, 3), (0, x), (0, i)] [(0, 2), (2, 88)] μc2 [] rfl trivial ?_
              refine pm_call hK zmm49 (82, 0, 255, 1) zM255 (4, 90) [(2, 88), (0, 2)] [] rfl rfl rfl rfl ⟨by omega, by rw [zn255]; omega⟩ (zg_pl2 hK (j := J i.toNat + 1) hc hKn hTc2 hlm ⟨by omega, by omega⟩ hsm hcm hb88 hb94 ⟨Nat.le_refl _, Nat.le_refl _⟩) (fun st3 μc3 hp3 => ?_)
              obtain ⟨x3, gg, pp, rfl, hTc3, hC3, hPP, hQ⟩ := hp3
              have hx301 : x3 = 0 ∨ x3 = 1 := by rcases hQ with q | q; exact Or.inr q.1; exact Or.inl q.1
              have hF := zCf_tr hF hC3
              have hl3 : μc3 93 2 = i := by rw [hC3.1 93 (by decide) (by decide)]; exact hlm
              have hlm := hl3
              have hs3 : μc3 88 9 = sh := by rw [hC3.2 9 (by decide) (by decide) (by decide)]; exact hsm
              have hsm := hs3
              have hd3 : μc3 88 10 = cu := by rw [hC3.2 10 (by decide) (by decide) (by decide)]; exact hcm
              have hcm := hd3
              refine pm_if hK zmm49 .eq 16 105 rfl rfl (fun h6 => ?_) (fun h6 => ?_)
              · have h6 : x3 = (0 : Int) := h6
                have hx9 := h6
                have f2 := zT_get hTc3 zs93_2 (i := 2) (by omega) (by omega)
                refine pm_blk hK zmm49 [] 7 116 [(2, 88), (0, 2), (2, 3), (0, 0), (0, i)] [(0, 0), (0, μc3 93 2), (2, 93)] μc3 [] rfl trivial ?_
                refine pm_if hK zmm49 .eq 7 123 rfl rfl (fun h7 => ?_) (fun h7 => ?_)
                · have h7 : (0 : Int) = (0 : Int) := h7
                  refine pm_blk hK zmm49 [] 3 128 [(2, 88), (0, 2), (2, 3), (0, 0), (0, i)] [] (pm_up μc3 93 2 ((μc3 93 2) + 0)) [pm_in ((μc3 93 2) + 0), sx_bit Wm 93 = true] rfl ⟨pm_in_mk (by omega) (by omega), hb93, trivial⟩ ?_
                  obtain ⟨μ2, eμ2⟩ : ∃ μ', μ' = pm_up μc3 93 2 ((μc3 93 2) + 0) := ⟨_, rfl⟩
                  rw [← eμ2]
                  have hTμ2 : zTJ φ μ2 := by rw [eμ2]; exact zT_up hTc3 zs93_2 rfl (i := 2) (by omega) (by omega) (by omega) (by omega)
                  refine pm_blk hK zmm49 [] 2 41 [(2, 88), (0, 2), (2, 3), (0, 0), (0, i + 1)] [] μ2 [pm_in (i + 1)] rfl ⟨pm_in_mk (by omega) (by omega), trivial⟩ ?_
                  first
                  | (refine ih _ (by omega) rfl (zRs_ok (J := J) ⟨by omega, by omega⟩ (by rw [eμ2]; exact zCg_93 (zCg_f hS.2.1 hF)) (by rw [eμ2, pm_up_eq]; omega) hch (Or.inr (Or.inr ⟨hkw, by omega, gg, pp, hPP, Or.inr (Or.inr ⟨g0, rfl, rfl, hs59⟩)⟩)) (by rw [eμ2]; exact zCl_o hc (by decide)) (zCe2_add (kw := K (J i.toNat)) hce rfl (by rw [eμ2, pm_up_row (by decide), m2, m1, m0, show ((i.toNat : Nat) : Int) = i by omega]))) hTμ2)
                  | (obtain ⟨f, f1, hfl⟩ := hB hx9
                     rcases f1 with ⟨a1, a2⟩ | ⟨a1, a2, a3⟩
                     · exact ih _ (by omega) rfl (zRs_no (J := J) ⟨by omega, by omega⟩ (by rw [eμ2]; exact zCg_93 (zCg_f hS.2.1 hF)) hch hKj (Or.inl ⟨a1, rfl, a2⟩) (by omega) (by rw [eμ2]; exact zFl_93 hfl)) hTμ2
                     · exact ih _ (by omega) rfl (zRs_no (J := J) ⟨by omega, by omega⟩ (by rw [eμ2]; exact zCg_93 (zCg_f hS.2.1 hF)) hch hKj (Or.inr (Or.inl ⟨a1, rfl, a2, by omega⟩)) (by omega) (by rw [eμ2]; exact zFl_93 hfl)) hTμ2)
                  | (rcases hQ with ⟨a, -⟩ | ⟨-, g1, hfl⟩
                     · omega
                     · exact ih _ (by omega) rfl (zRs_no (J := J) ⟨by omega, by omega⟩ (by rw [eμ2]; exact zCg_93 (zCg_f hS.2.1 hF)) hch hKj (Or.inr (Or.inr ⟨hkw, by omega, gg, pp, hPP, Or.inl ⟨g1, rfl, rfl⟩⟩)) (by omega) (by rw [eμ2]; exact zFl_93 hfl)) hTμ2)
                  | (obtain ⟨f, ⟨a1, a2⟩, hfl⟩ := hB hx9
                     exact ih _ (by omega) rfl (zRs_no (J := J) ⟨by omega, by omega⟩ (by rw [eμ2]; exact zCg_93 (zCg_f hS.2.1 hF)) hch hKj (Or.inr (Or.inr ⟨hkw, by omega, gg, pp, hPP, Or.inr (Or.inl ⟨g0, a1, rfl, a2⟩)⟩)) (by omega) (by rw [eμ2]; exact zFl_93 hfl)) hTμ2)
                  | (exfalso; omega)
                · have h7 : (0 : Int) ≠ (0 : Int) := h7
                  exact absurd h7 (by decide)
              · have h6 : x3 ≠ (0 : Int) := h6
                obtain ⟨g0, hc, m1⟩ := zGok hQ h6
                refine pm_blk hK zmm49 [] 2 95 [(2, 88), (0, 2), (2, 3), (0, x), (0, i)] [(0, 59), (2, 88)] μc3 [] rfl trivial ?_
                refine pm_call hK zmm49 (85, 0, 254, 1) zM254 (1, 21) [(2, 88), (0, 59)] [] rfl rfl rfl rfl ⟨by omega, by rw [zn254]; omega⟩ (zg_sign hK (c := 59) (j := pp) (j1 := pp + 1) hc hKn (by omega) (by decide) hTc3 hb88 ⟨Nat.le_refl _, Nat.le_refl _⟩) (fun st4 μc4 hp4 => ?_)
                obtain ⟨x4, rfl, hTc4, hC4, hA4, hB4⟩ := hp4
                have hx401 : x4 = 0 ∨ x4 = 1 := by by_cases h9 : x4 = 0; exact Or.inl h9; exact Or.inr (hA4 h9).1
                have hF := zCf_tr hF hC4
                have hA := hA4
                have hB := hB4
                have hl4 : μc4 93 2 = i := by rw [hC4.1 93 (by decide) (by decide)]; exact hlm
                have hlm := hl4
                have hs4 : μc4 88 9 = sh := by rw [hC4.2 9 (by decide) (by decide) (by decide)]; exact hsm
                have hsm := hs4
                have hd4 : μc4 88 10 = cu := by rw [hC4.2 10 (by decide) (by decide) (by decide)]; exact hcm
                have hcm := hd4
                refine pm_if hK zmm49 .eq 7 105 rfl rfl (fun h8 => ?_) (fun h8 => ?_)
                · have h8 : x4 = (0 : Int) := h8
                  have hx9 := h8
                  have f3 := zT_get hTc4 zs93_2 (i := 2) (by omega) (by omega)
                  refine pm_blk hK zmm49 [] 7 116 [(2, 88), (0, 2), (2, 3), (0, 0), (0, i)] [(0, 0), (0, μc4 93 2), (2, 93)] μc4 [] rfl trivial ?_
                  refine pm_if hK zmm49 .eq 7 123 rfl rfl (fun h9 => ?_) (fun h9 => ?_)
                  · have h9 : (0 : Int) = (0 : Int) := h9
                    refine pm_blk hK zmm49 [] 3 128 [(2, 88), (0, 2), (2, 3), (0, 0), (0, i)] [] (pm_up μc4 93 2 ((μc4 93 2) + 0)) [pm_in ((μc4 93 2) + 0), sx_bit Wm 93 = true] rfl ⟨pm_in_mk (by omega) (by omega), hb93, trivial⟩ ?_
                    obtain ⟨μ3, eμ3⟩ : ∃ μ', μ' = pm_up μc4 93 2 ((μc4 93 2) + 0) := ⟨_, rfl⟩
                    rw [← eμ3]
                    have hTμ3 : zTJ φ μ3 := by rw [eμ3]; exact zT_up hTc4 zs93_2 rfl (i := 2) (by omega) (by omega) (by omega) (by omega)
                    refine pm_blk hK zmm49 [] 2 41 [(2, 88), (0, 2), (2, 3), (0, 0), (0, i + 1)] [] μ3 [pm_in (i + 1)] rfl ⟨pm_in_mk (by omega) (by omega), trivial⟩ ?_
                    first
                    | (refine ih _ (by omega) rfl (zRs_ok (J := J) ⟨by omega, by omega⟩ (by rw [eμ3]; exact zCg_93 (zCg_f hS.2.1 hF)) (by rw [eμ3, pm_up_eq]; omega) hch (Or.inr (Or.inr ⟨hkw, by omega, gg, pp, hPP, Or.inr (Or.inr ⟨g0, rfl, rfl, hs59⟩)⟩)) (by rw [eμ3]; exact zCl_o hc (by decide)) (zCe2_add (kw := K (J i.toNat)) hce rfl (by rw [eμ3, pm_up_row (by decide), m2, m1, m0, show ((i.toNat : Nat) : Int) = i by omega]))) hTμ3)
                    | (obtain ⟨f, f1, hfl⟩ := hB hx9
                       rcases f1 with ⟨a1, a2⟩ | ⟨a1, a2, a3⟩
                       · exact ih _ (by omega) rfl (zRs_no (J := J) ⟨by omega, by omega⟩ (by rw [eμ3]; exact zCg_93 (zCg_f hS.2.1 hF)) hch hKj (Or.inl ⟨a1, rfl, a2⟩) (by omega) (by rw [eμ3]; exact zFl_93 hfl)) hTμ3
                       · exact ih _ (by omega) rfl (zRs_no (J := J) ⟨by omega, by omega⟩ (by rw [eμ3]; exact zCg_93 (zCg_f hS.2.1 hF)) hch hKj (Or.inr (Or.inl ⟨a1, rfl, a2, by omega⟩)) (by omega) (by rw [eμ3]; exact zFl_93 hfl)) hTμ3)
                    | (rcases hQ with ⟨a, -⟩ | ⟨-, g1, hfl⟩
                       · omega
                       · exact ih _ (by omega) rfl (zRs_no (J := J) ⟨by omega, by omega⟩ (by rw [eμ3]; exact zCg_93 (zCg_f hS.2.1 hF)) hch hKj (Or.inr (Or.inr ⟨hkw, by omega, gg, pp, hPP, Or.inl ⟨g1, rfl, rfl⟩⟩)) (by omega) (by rw [eμ3]; exact zFl_93 hfl)) hTμ3)
                    | (obtain ⟨f, ⟨a1, a2⟩, hfl⟩ := hB hx9
                       exact ih _ (by omega) rfl (zRs_no (J := J) ⟨by omega, by omega⟩ (by rw [eμ3]; exact zCg_93 (zCg_f hS.2.1 hF)) hch hKj (Or.inr (Or.inr ⟨hkw, by omega, gg, pp, hPP, Or.inr (Or.inl ⟨g0, a1, rfl, a2⟩)⟩)) (by omega) (by rw [eμ3]; exact zFl_93 hfl)) hTμ3)
                    | (exfalso; omega)
                  · have h9 : (0 : Int) ≠ (0 : Int) := h9
                    exact absurd h9 (by decide)
                · have h8 : x4 ≠ (0 : Int) := h8
                  obtain ⟨-, hs59, hc, m2⟩ := hA h8
                  have f4 := zT_get hTc4 zs93_2 (i := 2) (by omega) (by omega)
                  refine pm_blk hK zmm49 [] 8 116 [(2, 88), (0, 2), (2, 3), (0, 1), (0, i)] [(0, 1), (0, μc4 93 2), (2, 93)] μc4 [] rfl trivial ?_
                  refine pm_if hK zmm49 .eq 7 123 rfl rfl (fun h10 => ?_) (fun h10 => ?_)
                  · have h10 : (1 : Int) = (0 : Int) := h10
                    exact absurd h10 (by decide)
                  · have h10 : (1 : Int) ≠ (0 : Int) := h10
                    refine pm_blk hK zmm49 [] 4 128 [(2, 88), (0, 2), (2, 3), (0, 1), (0, i)] [] (pm_up μc4 93 2 ((μc4 93 2) + 1)) [pm_in ((μc4 93 2) + 1), sx_bit Wm 93 = true] rfl ⟨pm_in_mk (by omega) (by omega), hb93, trivial⟩ ?_
                    obtain ⟨μ4, eμ4⟩ : ∃ μ', μ' = pm_up μc4 93 2 ((μc4 93 2) + 1) := ⟨_, rfl⟩
                    rw [← eμ4]
                    have hTμ4 : zTJ φ μ4 := by rw [eμ4]; exact zT_up hTc4 zs93_2 rfl (i := 2) (by omega) (by omega) (by omega) (by omega)
                    refine pm_blk hK zmm49 [] 2 41 [(2, 88), (0, 2), (2, 3), (0, 1), (0, i + 1)] [] μ4 [pm_in (i + 1)] rfl ⟨pm_in_mk (by omega) (by omega), trivial⟩ ?_
                    first
                    | (refine ih _ (by omega) rfl (zRs_ok (J := J) ⟨by omega, by omega⟩ (by rw [eμ4]; exact zCg_93 (zCg_f hS.2.1 hF)) (by rw [eμ4, pm_up_eq]; omega) hch (Or.inr (Or.inr ⟨hkw, by omega, gg, pp, hPP, Or.inr (Or.inr ⟨g0, rfl, rfl, hs59⟩)⟩)) (by rw [eμ4]; exact zCl_o hc (by decide)) (zCe2_add (kw := K (J i.toNat)) hce rfl (by rw [eμ4, pm_up_row (by decide), m2, m1, m0, show ((i.toNat : Nat) : Int) = i by omega]))) hTμ4)
                    | (obtain ⟨f, f1, hfl⟩ := hB hx9
                       rcases f1 with ⟨a1, a2⟩ | ⟨a1, a2, a3⟩
                       · exact ih _ (by omega) rfl (zRs_no (J := J) ⟨by omega, by omega⟩ (by rw [eμ4]; exact zCg_93 (zCg_f hS.2.1 hF)) hch hKj (Or.inl ⟨a1, rfl, a2⟩) (by omega) (by rw [eμ4]; exact zFl_93 hfl)) hTμ4
                       · exact ih _ (by omega) rfl (zRs_no (J := J) ⟨by omega, by omega⟩ (by rw [eμ4]; exact zCg_93 (zCg_f hS.2.1 hF)) hch hKj (Or.inr (Or.inl ⟨a1, rfl, a2, by omega⟩)) (by omega) (by rw [eμ4]; exact zFl_93 hfl)) hTμ4)
                    | (rcases hQ with ⟨a, -⟩ | ⟨-, g1, hfl⟩
                       · omega
                       · exact ih _ (by omega) rfl (zRs_no (J := J) ⟨by omega, by omega⟩ (by rw [eμ4]; exact zCg_93 (zCg_f hS.2.1 hF)) hch hKj (Or.inr (Or.inr ⟨hkw, by omega, gg, pp, hPP, Or.inl ⟨g1, rfl, rfl⟩⟩)) (by omega) (by rw [eμ4]; exact zFl_93 hfl)) hTμ4)
                    | (obtain ⟨f, ⟨a1, a2⟩, hfl⟩ := hB hx9
                       exact ih _ (by omega) rfl (zRs_no (J := J) ⟨by omega, by omega⟩ (by rw [eμ4]; exact zCg_93 (zCg_f hS.2.1 hF)) hch hKj (Or.inr (Or.inr ⟨hkw, by omega, gg, pp, hPP, Or.inr (Or.inl ⟨g0, a1, rfl, a2⟩)⟩)) (by omega) (by rw [eμ4]; exact zFl_93 hfl)) hTμ4)
                    | (exfalso; omega)
            · have h5 : (2 : Int) = (0 : Int) := h5
              exact absurd h5 (by decide)
set_option maxRecDepth 100000 in
theorem zg_rs3 (hK : zKK ST)  {μ0 : pm_Mem} {sh cu : Int} {K S V : Int → Int} {N : Int} (hKn : K N = 257) {Q : Int → pm_Mem → Prop} (hQQ : ∀ y μ2, zRdo (zLi0 (zPa3 K V sh cu) K 326) (zCe3 K V) K S μ0 y μ2 → Q y μ2) (hsh : μ0 88 9 = sh) (hcu : μ0 88 10 = cu) (hb88 : sx_bit Wm 88 = true) (hb93 : sx_bit Wm 93 = true) (hb94 : sx_bit Wm 94 = true) (hbd : 5 ≤ bud.1 ∧ 111 ≤ bud.2.1) : ∀ (n : Nat) {x i : Int} {μ : pm_Mem}, (17 - i).toNat = n → ∀ (hS : zRs (zLi0 (zPa3 K V sh cu) K 326) (zCe3 K V) K S V N μ0 x i μ) (hT : zTJ φ μ), zW D Wm ST b0 l Sg zM49 bud (pm_X zM49 (fun st' μ' => ∃ y, st' = [(0, y)] ∧ zTJ φ μ' ∧ Q y μ')) 41 [(2, 88), (0, 3), (2, 3), (0, x), (0, i)] [] μ := by
  intro n
  induction n using Nat.strongRecOn with
  | ind n ih =>
    intro x i μ hn hS hT
    have hx01 := zRs_01 hS
    have hib := hS.1
    refine pm_blk hK zmm49 [] 2 45 [(2, 88), (0, 3), (2, 3), (0, x), (0, i)] [(0, 16), (0, i)] μ [] rfl trivial ?_
    refine pm_icmp hK zmm49 .gt 89 134 rfl rfl (fun h0 => ?_) (fun h0 => ?_)
    · have h0 : (16 : Int) < i := h0
      refine pm_blk hK zmm49 [] 1 135 [(2, 88), (0, 3), (2, 3), (0, x), (0, i)] [(0, x)] μ [] rfl trivial ?_
      first
      | exact pm_zret rfl rfl (by first | exact Or.inl rfl | exact Or.inr rfl | omega) ⟨_, rfl, hT, hQQ _ _ (zRs_17 hS h0)⟩
      | exact pm_zret rfl rfl (by first | exact Or.inl rfl | exact Or.inr rfl | omega) ⟨_, rfl, hT, hQQ _ _ (zRs_0 hS h0)⟩
      | exact pm_zret rfl rfl (by first | exact Or.inl rfl | exact Or.inr rfl | omega) ⟨_, rfl, hT, hQQ _ _ (zRs_e hS hx0 hch hce h0 h)⟩
      | (exfalso; omega)
    · have h0 : i ≤ (16 : Int) := h0
      refine pm_blk hK zmm49 [] 1 49 [(2, 88), (0, 3), (2, 3), (0, x), (0, i)] [(0, x)] μ [] rfl trivial ?_
      refine pm_if hK zmm49 .eq 85 134 rfl rfl (fun h1 => ?_) (fun h1 => ?_)
      · have h1 : x = (0 : Int) := h1
        refine pm_blk hK zmm49 [] 1 135 [(2, 88), (0, 3), (2, 3), (0, x), (0, i)] [(0, x)] μ [] rfl trivial ?_
        first
        | exact pm_zret rfl rfl (by first | exact Or.inl rfl | exact Or.inr rfl | omega) ⟨_, rfl, hT, hQQ _ _ (zRs_17 hS h1)⟩
        | exact pm_zret rfl rfl (by first | exact Or.inl rfl | exact Or.inr rfl | omega) ⟨_, rfl, hT, hQQ _ _ (zRs_0 hS h1)⟩
        | exact pm_zret rfl rfl (by first | exact Or.inl rfl | exact Or.inr rfl | omega) ⟨_, rfl, hT, hQQ _ _ (zRs_e hS hx0 hch hce h1 h)⟩
        | (exfalso; omega)
      · have h1 : x ≠ (0 : Int) := h1
        have hx0 := h1
        obtain ⟨hi16, hln, J, hch, h, hce⟩ := zRs_1 hS hx0
        have hlm := hln
        have hsm : μ 88 9 = sh := (hS.2.1.2.1 9 (by decide) (by decide) (by decide)).trans hsh
        have hcm : μ 88 10 = cu := (hS.2.1.2.1 10 (by decide) (by decide) (by decide)).trans hcu
        have hF : zCf μ μ := zCf_refl
        obtain ⟨⟨q1, q2, q3⟩, q4, q5, q6⟩ := id h
        refine pm_blk hK zmm49 [] 1 53 [(2, 88), (0, 3), (2, 3), (0, x), (0, i)] [(2, 88)] μ [] rfl trivial ?_
        refine pm_call hK zmm49 (70, 0, 53, 0) zM53 (0, 0) [(2, 88)] [] rfl rfl rfl rfl ⟨by omega, by rw [zn53]; omega⟩ (zg_kind hK h ⟨Nat.le_refl _, Nat.le_refl _⟩) (fun st1 μc1 hp1 => ?_)
        obtain ⟨rfl, rfl⟩ := hp1
        refine pm_blk hK zmm49 [] 1 59 [(2, 88), (0, 3), (2, 3), (0, x), (0, i)] [(0, 257), (0, K (J i.toNat))] μ [] rfl trivial ?_
        refine pm_icmp hK zmm49 .eq 75 134 rfl rfl (fun h2 => ?_) (fun h2 => ?_)
        · have h2 : K (J i.toNat) = (257 : Int) := h2
          refine pm_blk hK zmm49 [] 1 135 [(2, 88), (0, 3), (2, 3), (0, x), (0, i)] [(0, x)] μ [] rfl trivial ?_
          first
          | exact pm_zret rfl rfl (by first | exact Or.inl rfl | exact Or.inr rfl | omega) ⟨_, rfl, hT, hQQ _ _ (zRs_17 hS h2)⟩
          | exact pm_zret rfl rfl (by first | exact Or.inl rfl | exact Or.inr rfl | omega) ⟨_, rfl, hT, hQQ _ _ (zRs_0 hS h2)⟩
          | exact pm_zret rfl rfl (by first | exact Or.inl rfl | exact Or.inr rfl | omega) ⟨_, rfl, hT, hQQ _ _ (zRs_e hS hx0 hch hce h2 h)⟩
          | (exfalso; omega)
        · have h2 : K (J i.toNat) ≠ (257 : Int) := h2
          have hKj := h2
          refine pm_blk hK zmm49 [] 2 64 [(2, 88), (0, 3), (2, 3), (0, x), (0, i)] [(0, 3), (2, 88)] μ [] rfl trivial ?_
          refine pm_call hK zmm49 (74, 0, 241, 1) zM241 (2, 45) [(2, 88), (0, 3)] [] rfl rfl rfl rfl ⟨by omega, by rw [zn241]; omega⟩ (zg_beg3 hK (j := J i.toNat) (j1 := J i.toNat + 1) h hKn (by omega) hT hlm ⟨by omega, by omega⟩ hb88 hb94 ⟨Nat.le_refl _, Nat.le_refl _⟩) (fun st2 μc2 hp2 => ?_)
          obtain ⟨x2, rfl, hTc2, hC2, hA2, hB2⟩ := hp2
          have hx201 : x2 = 0 ∨ x2 = 1 := by by_cases h9 : x2 = 0; exact Or.inl h9; exact Or.inr (hA2 h9).1
          have hF := zCf_tr hF hC2
          have hA := hA2
          have hB := hB2
          have hl2 : μc2 93 2 = i := by rw [hC2.1 93 (by decide) (by decide)]; exact hlm
          have hlm := hl2
          have hs2 : μc2 88 9 = sh := by rw [hC2.2 9 (by decide) (by decide) (by decide)]; exact hsm
          have hsm := hs2
          have hd2 : μc2 88 10 = cu := by rw [hC2.2 10 (by decide) (by decide) (by decide)]; exact hcm
          have hcm := hd2
          refine pm_if hK zmm49 .eq 38 105 rfl rfl (fun h3 => ?_) (fun h3 => ?_)
          · have h3 : x2 = (0 : Int) := h3
            have hx9 := h3
            have f1 := zT_get hTc2 zs93_2 (i := 2) (by omega) (by omega)
            refine pm_blk hK zmm49 [] 7 116 [(2, 88), (0, 3), (2, 3), (0, 0), (0, i)] [(0, 0), (0, μc2 93 2), (2, 93)] μc2 [] rfl trivial ?_
            refine pm_if hK zmm49 .eq 7 123 rfl rfl (fun h4 => ?_) (fun h4 => ?_)
            · have h4 : (0 : Int) = (0 : Int) := h4
              refine pm_blk hK zmm49 [] 3 128 [(2, 88), (0, 3), (2, 3), (0, 0), (0, i)] [] (pm_up μc2 93 2 ((μc2 93 2) + 0)) [pm_in ((μc2 93 2) + 0), sx_bit Wm 93 = true] rfl ⟨pm_in_mk (by omega) (by omega), hb93, trivial⟩ ?_
              obtain ⟨μ1, eμ1⟩ : ∃ μ', μ' = pm_up μc2 93 2 ((μc2 93 2) + 0) := ⟨_, rfl⟩
              rw [← eμ1]
              have hTμ1 : zTJ φ μ1 := by rw [eμ1]; exact zT_up hTc2 zs93_2 rfl (i := 2) (by omega) (by omega) (by omega) (by omega)
              refine pm_blk hK zmm49 [] 2 41 [(2, 88), (0, 3), (2, 3), (0, 0), (0, i + 1)] [] μ1 [pm_in (i + 1)] rfl ⟨pm_in_mk (by omega) (by omega), trivial⟩ ?_
              first
              | (refine ih _ (by omega) rfl (zRs_ok (J := J) ⟨by omega, by omega⟩ (by rw [eμ1]; exact zCg_93 (zCg_f hS.2.1 hF)) (by rw [eμ1, pm_up_eq]; omega) hch (Or.inr (Or.inr ⟨hkw, by omega, gg, pp, hPP, Or.inr (Or.inr ⟨g0, rfl, rfl, hs59⟩)⟩)) (by rw [eμ1]; exact zCl_o hc (by decide)) (zCe3_add (kw := K (J i.toNat)) hce rfl (by rw [eμ1, pm_up_row (by decide), m2, m1, m0, show ((i.toNat : Nat) : Int) = i by omega]))) hTμ1)
              | (obtain ⟨f, f1, hfl⟩ := hB hx9
                 rcases f1 with ⟨a1, a2⟩ | ⟨a1, a2, a3⟩
                 · exact ih _ (by omega) rfl (zRs_no (J := J) ⟨by omega, by omega⟩ (by rw [eμ1]; exact zCg_93 (zCg_f hS.2.1 hF)) hch hKj (Or.inl ⟨a1, rfl, a2⟩) (by omega) (by rw [eμ1]; exact zFl_93 hfl)) hTμ1
                 · exact ih _ (by omega) rfl (zRs_no (J := J) ⟨by omega, by omega⟩ (by rw [eμ1]; exact zCg_93 (zCg_f hS.2.1 hF)) hch hKj (Or.inr (Or.inl ⟨a1, rfl, a2, by omega⟩)) (by omega) (by rw [eμ1]; exact zFl_93 hfl)) hTμ1)
              | (rcases hQ with ⟨a, -⟩ | ⟨-, g1, hfl⟩
                 · omega
                 · exact ih _ (by omega) rfl (zRs_no (J := J) ⟨by omega, by omega⟩ (by rw [eμ1]; exact zCg_93 (zCg_f hS.2.1 hF)) hch hKj (Or.inr (Or.inr ⟨hkw, by omega, gg, pp, hPP, Or.inl ⟨g1, rfl, rfl⟩⟩)) (by omega) (by rw [eμ1]; exact zFl_93 hfl)) hTμ1)
              | (obtain ⟨f, ⟨a1, a2⟩, hfl⟩ := hB hx9
                 exact ih _ (by omega) rfl (zRs_no (J := J) ⟨by omega, by omega⟩ (by rw [eμ1]; exact zCg_93 (zCg_f hS.2.1 hF)) hch hKj (Or.inr (Or.inr ⟨hkw, by omega, gg, pp, hPP, Or.inr (Or.inl ⟨g0, a1, rfl, a2⟩)⟩)) (by omega) (by rw [eμ1]; exact zFl_93 hfl)) hTμ1)
              | (exfalso; omega)
            · have h4 : (0 : Int) ≠ (0 : Int) := h4
              exact absurd h4 (by decide)
          · have h3 : x2 ≠ (0 : Int) := h3
            obtain ⟨-, ⟨hkw, hl15⟩, hc, m0⟩ := hA h3
            refine pm_blk hK zmm49 [] 1 71 [(2, 88), (0, 3), (2, 3), (0, x), (0, i)] [(0, 3)] μc2 [] rfl trivial ?_
            refine pm_if hK zmm49 .ne 13 84 rfl rfl (fun h5 => ?_) (fun h5 => ?_)
            · have h5 : (3 : Int) ≠ (0 : Int) := h5
              refine pm_blk hK zmm49 [] 2 86 [(2, 88), (0, 3), (2, 3), (0, x), (0, i)] [(0, 3), (2, 88)] μc2 [] rfl trivial ?_
              refine pm_call hK zmm49 (82, 0, 255, 1) zM255 (4, 89) [(2, 88), (0, 3)] [] rfl rfl rfl rfl ⟨by omega, by rw [zn255]; omega⟩ (zg_pl3 hK (j := J i.toNat + 1) hc hKn hTc2 hlm ⟨by omega, by omega⟩ hsm hcm hb88 hb94 ⟨Nat.le_refl _, Nat.le_refl _⟩) (fun st3 μc3 hp3 => ?_)
              obtain ⟨x3, gg, pp, rfl, hTc3, hC3, hPP, hQ⟩ := hp3
              have hx301 : x3 = 0 ∨ x3 = 1 := by rcases hQ with q | q; exact Or.inr q.1; exact Or.inl q.1
              have hF := zCf_tr hF hC3
              have hl3 : μc3 93 2 = i := by rw [hC3.1 93 (by decide) (by decide)]; exact hlm
              have hlm := hl3
              have hs3 : μc3 88 9 = sh := by rw [hC3.2 9 (by decide) (by decide) (by decide)]; exact hsm
              have hsm := hs3
              have hd3 : μc3 88 10 = cu := by rw [hC3.2 10 (by decide) (by decide) (by decide)]; exact hcm
              have hcm := hd3
              refine pm_if hK zmm49 .eq 16 105 rfl rfl (fun h6 => ?_) (fun h6 => ?_)
              · have h6 : x3 = (0 : Int) := h6
                have hx9 := h6
                have f2 := zT_get hTc3 zs93_2 (i := 2) (by omega) (by omega)
                refine pm_blk hK zmm49 [] 7 116 [(2, 88), (0, 3), (2, 3), (0, 0), (0, i)] [(0, 0), (0, μc3 93 2), (2, 93)] μc3 [] rfl trivial ?_
                refine pm_if hK zmm49 .eq 7 123 rfl rfl (fun h7 => ?_) (fun h7 => ?_)
                · have h7 : (0 : Int) = (0 : Int) := h7
                  refine pm_blk hK zmm49 [] 3 128 [(2, 88), (0, 3), (2, 3), (0, 0), (0, i)] [] (pm_up μc3 93 2 ((μc3 93 2) + 0)) [pm_in ((μc3 93 2) + 0), sx_bit Wm 93 = true] rfl ⟨pm_in_mk (by omega) (by omega), hb93, trivial⟩ ?_
                  obtain ⟨μ2, eμ2⟩ : ∃ μ', μ' = pm_up μc3 93 2 ((μc3 93 2) + 0) := ⟨_, rfl⟩
                  rw [← eμ2]
                  have hTμ2 : zTJ φ μ2 := by rw [eμ2]; exact zT_up hTc3 zs93_2 rfl (i := 2) (by omega) (by omega) (by omega) (by omega)
                  refine pm_blk hK zmm49 [] 2 41 [(2, 88), (0, 3), (2, 3), (0, 0), (0, i + 1)] [] μ2 [pm_in (i + 1)] rfl ⟨pm_in_mk (by omega) (by omega), trivial⟩ ?_
                  first
                  | (refine ih _ (by omega) rfl (zRs_ok (J := J) ⟨by omega, by omega⟩ (by rw [eμ2]; exact zCg_93 (zCg_f hS.2.1 hF)) (by rw [eμ2, pm_up_eq]; omega) hch (Or.inr (Or.inr ⟨hkw, by omega, gg, pp, hPP, Or.inr (Or.inr ⟨g0, rfl, rfl, hs59⟩)⟩)) (by rw [eμ2]; exact zCl_o hc (by decide)) (zCe3_add (kw := K (J i.toNat)) hce rfl (by rw [eμ2, pm_up_row (by decide), m2, m1, m0, show ((i.toNat : Nat) : Int) = i by omega]))) hTμ2)
                  | (obtain ⟨f, f1, hfl⟩ := hB hx9
                     rcases f1 with ⟨a1, a2⟩ | ⟨a1, a2, a3⟩
                     · exact ih _ (by omega) rfl (zRs_no (J := J) ⟨by omega, by omega⟩ (by rw [eμ2]; exact zCg_93 (zCg_f hS.2.1 hF)) hch hKj (Or.inl ⟨a1, rfl, a2⟩) (by omega) (by rw [eμ2]; exact zFl_93 hfl)) hTμ2
                     · exact ih _ (by omega) rfl (zRs_no (J := J) ⟨by omega, by omega⟩ (by rw [eμ2]; exact zCg_93 (zCg_f hS.2.1 hF)) hch hKj (Or.inr (Or.inl ⟨a1, rfl, a2, by omega⟩)) (by omega) (by rw [eμ2]; exact zFl_93 hfl)) hTμ2)
                  | (rcases hQ with ⟨a, -⟩ | ⟨-, g1, hfl⟩
                     · omega
                     · exact ih _ (by omega) rfl (zRs_no (J := J) ⟨by omega, by omega⟩ (by rw [eμ2]; exact zCg_93 (zCg_f hS.2.1 hF)) hch hKj (Or.inr (Or.inr ⟨hkw, by omega, gg, pp, hPP, Or.inl ⟨g1, rfl, rfl⟩⟩)) (by omega) (by rw [eμ2]; exact zFl_93 hfl)) hTμ2)
                  | (obtain ⟨f, ⟨a1, a2⟩, hfl⟩ := hB hx9
                     exact ih _ (by omega) rfl (zRs_no (J := J) ⟨by omega, by omega⟩ (by rw [eμ2]; exact zCg_93 (zCg_f hS.2.1 hF)) hch hKj (Or.inr (Or.inr ⟨hkw, by omega, gg, pp, hPP, Or.inr (Or.inl ⟨g0, a1, rfl, a2⟩)⟩)) (by omega) (by rw [eμ2]; exact zFl_93 hfl)) hTμ2)
                  | (exfalso; omega)
                · have h7 : (0 : Int) ≠ (0 : Int) := h7
                  exact absurd h7 (by decide)
              · have h6 : x3 ≠ (0 : Int) := h6
                obtain ⟨g0, hc, m1⟩ := zGok hQ h6
                refine pm_blk hK zmm49 [] 2 95 [(2, 88), (0, 3), (2, 3), (0, x), (0, i)] [(0, 59), (2, 88)] μc3 [] rfl trivial ?_
                refine pm_call hK zmm49 (85, 0, 254, 1) zM254 (1, 21) [(2, 88), (0, 59)] [] rfl rfl rfl rfl ⟨by omega, by rw [zn254]; omega⟩ (zg_sign hK (c := 59) (j := pp) (j1 := pp + 1) hc hKn (by omega) (by decide) hTc3 hb88 ⟨Nat.le_refl _, Nat.le_refl _⟩) (fun st4 μc4 hp4 => ?_)
                obtain ⟨x4, rfl, hTc4, hC4, hA4, hB4⟩ := hp4
                have hx401 : x4 = 0 ∨ x4 = 1 := by by_cases h9 : x4 = 0; exact Or.inl h9; exact Or.inr (hA4 h9).1
                have hF := zCf_tr hF hC4
                have hA := hA4
                have hB := hB4
                have hl4 : μc4 93 2 = i := by rw [hC4.1 93 (by decide) (by decide)]; exact hlm
                have hlm := hl4
                have hs4 : μc4 88 9 = sh := by rw [hC4.2 9 (by decide) (by decide) (by decide)]; exact hsm
                have hsm := hs4
                have hd4 : μc4 88 10 = cu := by rw [hC4.2 10 (by decide) (by decide) (by decide)]; exact hcm
                have hcm := hd4
                refine pm_if hK zmm49 .eq 7 105 rfl rfl (fun h8 => ?_) (fun h8 => ?_)
                · have h8 : x4 = (0 : Int) := h8
                  have hx9 := h8
                  have f3 := zT_get hTc4 zs93_2 (i := 2) (by omega) (by omega)
                  refine pm_blk hK zmm49 [] 7 116 [(2, 88), (0, 3), (2, 3), (0, 0), (0, i)] [(0, 0), (0, μc4 93 2), (2, 93)] μc4 [] rfl trivial ?_
                  refine pm_if hK zmm49 .eq 7 123 rfl rfl (fun h9 => ?_) (fun h9 => ?_)
                  · have h9 : (0 : Int) = (0 : Int) := h9
                    refine pm_blk hK zmm49 [] 3 128 [(2, 88), (0, 3), (2, 3), (0, 0), (0, i)] [] (pm_up μc4 93 2 ((μc4 93 2) + 0)) [pm_in ((μc4 93 2) + 0), sx_bit Wm 93 = true] rfl ⟨pm_in_mk (by omega) (by omega), hb93, trivial⟩ ?_
                    obtain ⟨μ3, eμ3⟩ : ∃ μ', μ' = pm_up μc4 93 2 ((μc4 93 2) + 0) := ⟨_, rfl⟩
                    rw [← eμ3]
                    have hTμ3 : zTJ φ μ3 := by rw [eμ3]; exact zT_up hTc4 zs93_2 rfl (i := 2) (by omega) (by omega) (by omega) (by omega)
                    refine pm_blk hK zmm49 [] 2 41 [(2, 88), (0, 3), (2, 3), (0, 0), (0, i + 1)] [] μ3 [pm_in (i + 1)] rfl ⟨pm_in_mk (by omega) (by omega), trivial⟩ ?_
                    first
                    | (refine ih _ (by omega) rfl (zRs_ok (J := J) ⟨by omega, by omega⟩ (by rw [eμ3]; exact zCg_93 (zCg_f hS.2.1 hF)) (by rw [eμ3, pm_up_eq]; omega) hch (Or.inr (Or.inr ⟨hkw, by omega, gg, pp, hPP, Or.inr (Or.inr ⟨g0, rfl, rfl, hs59⟩)⟩)) (by rw [eμ3]; exact zCl_o hc (by decide)) (zCe3_add (kw := K (J i.toNat)) hce rfl (by rw [eμ3, pm_up_row (by decide), m2, m1, m0, show ((i.toNat : Nat) : Int) = i by omega]))) hTμ3)
                    | (obtain ⟨f, f1, hfl⟩ := hB hx9
                       rcases f1 with ⟨a1, a2⟩ | ⟨a1, a2, a3⟩
                       · exact ih _ (by omega) rfl (zRs_no (J := J) ⟨by omega, by omega⟩ (by rw [eμ3]; exact zCg_93 (zCg_f hS.2.1 hF)) hch hKj (Or.inl ⟨a1, rfl, a2⟩) (by omega) (by rw [eμ3]; exact zFl_93 hfl)) hTμ3
                       · exact ih _ (by omega) rfl (zRs_no (J := J) ⟨by omega, by omega⟩ (by rw [eμ3]; exact zCg_93 (zCg_f hS.2.1 hF)) hch hKj (Or.inr (Or.inl ⟨a1, rfl, a2, by omega⟩)) (by omega) (by rw [eμ3]; exact zFl_93 hfl)) hTμ3)
                    | (rcases hQ with ⟨a, -⟩ | ⟨-, g1, hfl⟩
                       · omega
                       · exact ih _ (by omega) rfl (zRs_no (J := J) ⟨by omega, by omega⟩ (by rw [eμ3]; exact zCg_93 (zCg_f hS.2.1 hF)) hch hKj (Or.inr (Or.inr ⟨hkw, by omega, gg, pp, hPP, Or.inl ⟨g1, rfl, rfl⟩⟩)) (by omega) (by rw [eμ3]; exact zFl_93 hfl)) hTμ3)
                    | (obtain ⟨f, ⟨a1, a2⟩, hfl⟩ := hB hx9
                       exact ih _ (by omega) rfl (zRs_no (J := J) ⟨by omega, by omega⟩ (by rw [eμ3]; exact zCg_93 (zCg_f hS.2.1 hF)) hch hKj (Or.inr (Or.inr ⟨hkw, by omega, gg, pp, hPP, Or.inr (Or.inl ⟨g0, a1, rfl, a2⟩)⟩)) (by omega) (by rw [eμ3]; exact zFl_93 hfl)) hTμ3)
                    | (exfalso; omega)
                  · have h9 : (0 : Int) ≠ (0 : Int) := h9
                    exact absurd h9 (by decide)
                · have h8 : x4 ≠ (0 : Int) := h8
                  obtain ⟨-, hs59, hc, m2⟩ := hA h8
                  have f4 := zT_get hTc4 zs93_2 (i := 2) (by omega) (by omega)
                  refine pm_blk hK zmm49 [] 8 116 [(2, 88), (0, 3), (2, 3), (0, 1), (0, i)] [(0, 1), (0, μc4 93 2), (2, 93)] μc4 [] rfl trivial ?_
                  refine pm_if hK zmm49 .eq 7 123 rfl rfl (fun h10 => ?_) (fun h10 => ?_)
                  · have h10 : (1 : Int) = (0 : Int) := h10
                    exact absurd h10 (by decide)
                  · have h10 : (1 : Int) ≠ (0 : Int) := h10
                    refine pm_blk hK zmm49 [] 4 128 [(2, 88), (0, 3), (2, 3), (0, 1), (0, i)] [] (pm_up μc4 93 2 ((μc4 93 2) + 1)) [pm_in ((μc4 93 2) + 1), sx_bit Wm 93 = true] rfl ⟨pm_in_mk (by omega) (by omega), hb93, trivial⟩ ?_
                    obtain ⟨μ4, eμ4⟩ : ∃ μ', μ' = pm_up μc4 93 2 ((μc4 93 2) + 1) := ⟨_, rfl⟩
                    rw [← eμ4]
                    have hTμ4 : zTJ φ μ4 := by rw [eμ4]; exact zT_up hTc4 zs93_2 rfl (i := 2) (by omega) (by omega) (by omega) (by omega)
                    refine pm_blk hK zmm49 [] 2 41 [(2, 88), (0, 3), (2, 3), (0, 1), (0, i + 1)] [] μ4 [pm_in (i + 1)] rfl ⟨pm_in_mk (by omega) (by omega), trivial⟩ ?_
                    first
                    | (refine ih _ (by omega) rfl (zRs_ok (J := J) ⟨by omega, by omega⟩ (by rw [eμ4]; exact zCg_93 (zCg_f hS.2.1 hF)) (by rw [eμ4, pm_up_eq]; omega) hch (Or.inr (Or.inr ⟨hkw, by omega, gg, pp, hPP, Or.inr (Or.inr ⟨g0, rfl, rfl, hs59⟩)⟩)) (by rw [eμ4]; exact zCl_o hc (by decide)) (zCe3_add (kw := K (J i.toNat)) hce rfl (by rw [eμ4, pm_up_row (by decide), m2, m1, m0, show ((i.toNat : Nat) : Int) = i by omega]))) hTμ4)
                    | (obtain ⟨f, f1, hfl⟩ := hB hx9
                       rcases f1 with ⟨a1, a2⟩ | ⟨a1, a2, a3⟩
                       · exact ih _ (by omega) rfl (zRs_no (J := J) ⟨by omega, by omega⟩ (by rw [eμ4]; exact zCg_93 (zCg_f hS.2.1 hF)) hch hKj (Or.inl ⟨a1, rfl, a2⟩) (by omega) (by rw [eμ4]; exact zFl_93 hfl)) hTμ4
                       · exact ih _ (by omega) rfl (zRs_no (J := J) ⟨by omega, by omega⟩ (by rw [eμ4]; exact zCg_93 (zCg_f hS.2.1 hF)) hch hKj (Or.inr (Or.inl ⟨a1, rfl, a2, by omega⟩)) (by omega) (by rw [eμ4]; exact zFl_93 hfl)) hTμ4)
                    | (rcases hQ with ⟨a, -⟩ | ⟨-, g1, hfl⟩
                       · omega
                       · exact ih _ (by omega) rfl (zRs_no (J := J) ⟨by omega, by omega⟩ (by rw [eμ4]; exact zCg_93 (zCg_f hS.2.1 hF)) hch hKj (Or.inr (Or.inr ⟨hkw, by omega, gg, pp, hPP, Or.inl ⟨g1, rfl, rfl⟩⟩)) (by omega) (by rw [eμ4]; exact zFl_93 hfl)) hTμ4)
                    | (obtain ⟨f, ⟨a1, a2⟩, hfl⟩ := hB hx9
                       exact ih _ (by omega) rfl (zRs_no (J := J) ⟨by omega, by omega⟩ (by rw [eμ4]; exact zCg_93 (zCg_f hS.2.1 hF)) hch hKj (Or.inr (Or.inr ⟨hkw, by omega, gg, pp, hPP, Or.inr (Or.inl ⟨g0, a1, rfl, a2⟩)⟩)) (by omega) (by rw [eμ4]; exact zFl_93 hfl)) hTμ4)
                    | (exfalso; omega)
            · have h5 : (3 : Int) = (0 : Int) := h5
              exact absurd h5 (by decide)
end ZHW
