/-! THE LAW: a condition in the class; walks printed by program (wip/p30/pmgen.py) and filled by hand -/
section ZHW
variable {φ : Option pm_Mem}
variable {D : va_G} {Wm : Nat} {ST : List (String × String × String × Nat)} {b0 : sx_B} {l : Launch} {Sg : Nat → Option Nat} {bud : sx_Bu} {μ : pm_Mem} {B0 : Nat → Prop} {J : (Nat → Option Nat) → Heap → Prop}
/-- what a reading of conditions does, so many open ahead -/
def zGc (φ : Option pm_Mem) (D : va_G) (Wm : Nat) (ST : List (String × String × String × Nat)) (b0 : sx_B) (l : Launch) (Sg : Nat → Option Nat) (k : Nat) (M : sx_Me) (K S V : Int → Int) (n : Int) (o : Int) (fs ls : Nat) : Prop := ∀ (bud : sx_Bu) (μ : pm_Mem) (j : Int), zTJ φ μ → zCq K S V n j μ → μ 93 3 ≤ j → (fs ≤ bud.1 ∧ ls ≤ bud.2.1) → zC D Wm ST b0 l Sg M bud [(2, 88), (0, o)] μ (fun st' μ' => ∃ x g q LL, st' = [(0, x)] ∧ zTJ φ μ' ∧ zCfx μ μ' ∧ zBx K V k o (-1) j g q LL ∧ ((x = 1 ∧ g = 0 ∧ zCq K S V n q μ' ∧ zCd μ μ' LL ∧ μ' 93 3 + j ≤ μ 93 3 + q) ∨ (x = 0 ∧ g ≠ 0 ∧ zFl S g q μ')))
set_option maxRecDepth 100000 in
theorem zw_opened (hK : zKK ST) {o : Int} {fs ls : Nat} {K S V : Int → Int} {n j : Int} (h : zCq K S V n j μ) (hKn : zKn K V n) (hT : zTJ φ μ) (hcl : μ 93 3 ≤ j) (ho : 0 ≤ o ∧ o ≤ 8) (hk9 : K j = 317 ∨ K j = 40) (IHs : o < 8 → zGc φ D Wm ST b0 l Sg 1 zM251 K S V n (o + 1) fs ls) (IHc : o < 8 → zGc φ D Wm ST b0 l Sg 0 zM252 K S V n (o + 1) fs ls) (hb2 : fs + 1 ≤ bud.1 ∧ 24 + ls ≤ bud.2.1) (hb88 : sx_bit Wm 88 = true) (hb93 : sx_bit Wm 93 = true) (hb95 : sx_bit Wm 95 = true) (hbd : 2 ≤ bud.1 ∧ 48 ≤ bud.2.1) : zC D Wm ST b0 l Sg zM253 bud [(2, 88), (0, o)] μ (fun st' μ' => ∃ x f q LL, st' = [(0, x)] ∧ zTJ φ μ' ∧ zCfx μ μ' ∧ zBx K V 0 o (-1) j f q LL ∧ ((x = 1 ∧ f = 0 ∧ zCq K S V n q μ' ∧ zCd μ μ' LL ∧ μ' 93 3 + j ≤ μ 93 3 + q) ∨ (x = 0 ∧ f ≠ 0 ∧ zFl S f q μ'))) := by
  have hc := h
  have hF : zCfx μ μ := zCfx_refl
  obtain ⟨⟨q1, q2, q3⟩, q4, q5, q6⟩ := id h
  have hjn : j ≠ n := fun he => by rw [he, hKn.1] at hk9; omega
  refine pm_blk hK zmm253 [] 2 3 [(2, 88), (0, o), (9, 0)] [(0, 8), (0, o)] μ [] rfl trivial ?_
  refine pm_icmp hK zmm253 .lt 9 12 rfl rfl (fun h0 => ?_) (fun h0 => ?_)
  · have h0 : o < (8 : Int) := h0
    have ho8 := h0
    refine pm_blk hK zmm253 [] 1 13 [(2, 88), (0, o), (9, 0)] [(2, 88)] μ [] rfl trivial ?_
    refine pm_call hK zmm253 (70, 0, 53, 0) zM53 (0, 0) [(2, 88)] [] rfl rfl rfl rfl ⟨by omega, by rw [zn53]; omega⟩ (zg_kind hK hc ⟨Nat.le_refl _, Nat.le_refl _⟩) (fun st1 μc1 hp1 => ?_)
    obtain ⟨rfl, rfl⟩ := hp1
    refine pm_blk hK zmm253 [] 1 19 [(2, 88), (0, o), (9, 0)] [(0, 317), (0, K j)] μ [] rfl trivial ?_
    refine pm_icmp hK zmm253 .ne 7 26 rfl rfl (fun h1 => ?_) (fun h1 => ?_)
    · have h1 : K j ≠ (317 : Int) := h1
      have hbr : K j = 40 := by omega
      have f1 := zT_get hT zs88_8 (i := 8) (by omega) (by omega)
      refine pm_blk hK zmm253 [] 8 38 [(2, 88), (0, o), (0, 0)] [] (pm_up μ 88 8 ((μ 88 8) + 1)) [pm_in ((μ 88 8) + 1), sx_bit Wm 88 = true] rfl ⟨pm_in_mk (by omega) (by omega), hb88, trivial⟩ ?_
      obtain ⟨μ1, eμ1⟩ : ∃ μ', μ' = pm_up μ 88 8 ((μ 88 8) + 1) := ⟨_, rfl⟩
      rw [← eμ1]
      have hTμ1 : zTJ φ μ1 := by rw [eμ1]; exact zT_up hT zs88_8 rfl (i := 8) (by omega) (by omega) (by omega) (by omega)
      have hc := zCl_8 (j' := j + 1) hc eμ1 (by rw [hc.2.2.1]) ⟨by omega, by omega⟩
      have hF := zCfx_tr hF (zCfx_f (show zCf μ μ1 by rw [eμ1]; exact zCf_88 zCf_refl (by omega)))
      have hz3 : μ1 93 3 = μ 93 3 := by rw [eμ1, pm_up_off (by decide)]
      have hz5 : μ1 95 = μ 95 := by rw [eμ1, pm_up_row (by decide)]
      have hz4 : μ1 94 = μ 94 := by rw [eμ1, pm_up_row (by decide)]
      refine pm_blk hK zmm253 [] 1 39 [(2, 88), (0, o), (0, 0)] [(0, 0)] μ1 [] rfl trivial ?_
      refine pm_if hK zmm253 .ne 28 67 rfl rfl (fun h2 => ?_) (fun h2 => ?_)
      · have h2 : (0 : Int) ≠ (0 : Int) := h2
        exact absurd h2 (by decide)
      · have h2 : (0 : Int) = (0 : Int) := h2
        refine pm_blk hK zmm253 [] 4 46 [(2, 88), (0, o), (0, 0)] [(0, o + 1), (2, 88)] μ1 [pm_in (o + 1)] rfl ⟨pm_in_mk (by omega) (by omega), trivial⟩ ?_
        refine pm_call hK zmm253 (167, 0, 251, 1) zM251 (fs, ls) [(2, 88), (0, o + 1)] [] rfl rfl rfl rfl ⟨by omega, by rw [zn251]; omega⟩ (IHs (by omega) _ _ (j + 1) hTμ1 hc (by omega) ⟨Nat.le_refl _, Nat.le_refl _⟩) (fun st2 μc2 hp2 => ?_)
        obtain ⟨x2, gg, pp, LL, rfl, hTc2, hC2, hPP, hQ⟩ := hp2
        have hx201 : x2 = 0 ∨ x2 = 1 := by rcases hQ with q | q; exact Or.inr q.1; exact Or.inl q.1
        have hF := zCfx_tr hF hC2
        refine pm_if hK zmm253 .eq 16 65 rfl rfl (fun h3 => ?_) (fun h3 => ?_)
        · have h3 : x2 = (0 : Int) := h3
          refine pm_blk hK zmm253 [] 1 66 [(2, 88), (0, o), (0, 0)] [(0, 0)] μc2 [] rfl trivial ?_
          first
          | (obtain ⟨g1, hfl⟩ := zGno hQ h3; exact pm_zret rfl rfl (by first | exact Or.inl rfl | exact Or.inr rfl | omega) ⟨0, gg, pp, LL, rfl, hTc2, hF, zBx_b hbr (by omega) hPP (Or.inl ⟨g1, rfl, rfl⟩), Or.inr ⟨rfl, g1, hfl⟩⟩)
          | (obtain ⟨f, ⟨a1, a2⟩, hfl⟩ := hB h3; exact pm_zret rfl rfl (by first | exact Or.inl rfl | exact Or.inr rfl | omega) ⟨0, f, pp, LL, rfl, hTc2, hF, zBx_b hbr (by omega) hPP (Or.inr (Or.inl ⟨g0, a2, a1, rfl⟩)), Or.inr ⟨rfl, by omega, hfl⟩⟩)
          | (obtain ⟨-, a2, hc, h94⟩ := hA h3; exact pm_zret rfl rfl (by first | exact Or.inl rfl | exact Or.inr rfl | omega) ⟨1, 0, pp + 1, LL, rfl, hTc2, hF, zBx_b hbr (by omega) hPP (Or.inr (Or.inr ⟨g0, a2, rfl, rfl, rfl⟩)), Or.inl ⟨rfl, rfl, hc, zCd_to (zCd_fr hdu hu5 hu3 h94) hz3 hz5 hz4, by omega⟩⟩)
          | (exfalso; omega)
        · have h3 : x2 ≠ (0 : Int) := h3
          obtain ⟨g0, hc, hdu, hl9⟩ := zGok hQ h3
          have hpl := hc.2.2.2.1
          refine pm_blk hK zmm253 [] 2 55 [(2, 88), (0, o), (0, 0)] [(0, 41), (2, 88)] μc2 [] rfl trivial ?_
          refine pm_call hK zmm253 (85, 0, 254, 1) zM254 (1, 21) [(2, 88), (0, 41)] [] rfl rfl rfl rfl ⟨by omega, by rw [zn254]; omega⟩ (zg_sign hK (c := 41) (j := pp) (j1 := pp + 1) hc hKn.1 (by omega) (by decide) hTc2 hb88 ⟨Nat.le_refl _, Nat.le_refl _⟩) (fun st3 μc3 hp3 => ?_)
          obtain ⟨x3, rfl, hTc3, hC3, hA3, hB3⟩ := hp3
          have hx301 : x3 = 0 ∨ x3 = 1 := by by_cases h9 : x3 = 0; exact Or.inl h9; exact Or.inr (hA3 h9).1
          have hF := zCfx_tr hF (zCfx_f hC3)
          have hA := hA3
          have hB := hB3
          have hu3 := congrFun (hC3.1 93 (by decide) (by decide)) 3
          have hu5 := hC3.1 95 (by decide) (by decide)
          refine pm_if hK zmm253 .eq 7 65 rfl rfl (fun h4 => ?_) (fun h4 => ?_)
          · have h4 : x3 = (0 : Int) := h4
            refine pm_blk hK zmm253 [] 1 66 [(2, 88), (0, o), (0, 0)] [(0, 0)] μc3 [] rfl trivial ?_
            first
            | (obtain ⟨g1, hfl⟩ := zGno hQ h4; exact pm_zret rfl rfl (by first | exact Or.inl rfl | exact Or.inr rfl | omega) ⟨0, gg, pp, LL, rfl, hTc3, hF, zBx_b hbr (by omega) hPP (Or.inl ⟨g1, rfl, rfl⟩), Or.inr ⟨rfl, g1, hfl⟩⟩)
            | (obtain ⟨f, ⟨a1, a2⟩, hfl⟩ := hB h4; exact pm_zret rfl rfl (by first | exact Or.inl rfl | exact Or.inr rfl | omega) ⟨0, f, pp, LL, rfl, hTc3, hF, zBx_b hbr (by omega) hPP (Or.inr (Or.inl ⟨g0, a2, a1, rfl⟩)), Or.inr ⟨rfl, by omega, hfl⟩⟩)
            | (obtain ⟨-, a2, hc, h94⟩ := hA h4; exact pm_zret rfl rfl (by first | exact Or.inl rfl | exact Or.inr rfl | omega) ⟨1, 0, pp + 1, LL, rfl, hTc3, hF, zBx_b hbr (by omega) hPP (Or.inr (Or.inr ⟨g0, a2, rfl, rfl, rfl⟩)), Or.inl ⟨rfl, rfl, hc, zCd_to (zCd_fr hdu hu5 hu3 h94) hz3 hz5 hz4, by omega⟩⟩)
            | (exfalso; omega)
          · have h4 : x3 ≠ (0 : Int) := h4
            refine pm_blk hK zmm253 [] 2 66 [(2, 88), (0, o), (0, 0)] [(0, 1)] μc3 [] rfl trivial ?_
            first
            | (obtain ⟨g1, hfl⟩ := zGno hQ h4; exact pm_zret rfl rfl (by first | exact Or.inl rfl | exact Or.inr rfl | omega) ⟨0, gg, pp, LL, rfl, hTc3, hF, zBx_b hbr (by omega) hPP (Or.inl ⟨g1, rfl, rfl⟩), Or.inr ⟨rfl, g1, hfl⟩⟩)
            | (obtain ⟨f, ⟨a1, a2⟩, hfl⟩ := hB h4; exact pm_zret rfl rfl (by first | exact Or.inl rfl | exact Or.inr rfl | omega) ⟨0, f, pp, LL, rfl, hTc3, hF, zBx_b hbr (by omega) hPP (Or.inr (Or.inl ⟨g0, a2, a1, rfl⟩)), Or.inr ⟨rfl, by omega, hfl⟩⟩)
            | (obtain ⟨-, a2, hc, h94⟩ := hA h4; exact pm_zret rfl rfl (by first | exact Or.inl rfl | exact Or.inr rfl | omega) ⟨1, 0, pp + 1, LL, rfl, hTc3, hF, zBx_b hbr (by omega) hPP (Or.inr (Or.inr ⟨g0, a2, rfl, rfl, rfl⟩)), Or.inl ⟨rfl, rfl, hc, zCd_to (zCd_fr hdu hu5 hu3 h94) hz3 hz5 hz4, by omega⟩⟩)
            | (exfalso; omega)
    · have h1 : K j = (317 : Int) := h1
      have hnot := h1
      have f2 := zT_get hT zs88_8 (i := 8) (by omega) (by omega)
      refine pm_blk hK zmm253 [] 9 38 [(2, 88), (0, o), (0, 1)] [] (pm_up μ 88 8 ((μ 88 8) + 1)) [pm_in ((μ 88 8) + 1), sx_bit Wm 88 = true] rfl ⟨pm_in_mk (by omega) (by omega), hb88, trivial⟩ ?_
      obtain ⟨μ2, eμ2⟩ : ∃ μ', μ' = pm_up μ 88 8 ((μ 88 8) + 1) := ⟨_, rfl⟩
      rw [← eμ2]
      have hTμ2 : zTJ φ μ2 := by rw [eμ2]; exact zT_up hT zs88_8 rfl (i := 8) (by omega) (by omega) (by omega) (by omega)
      have hc := zCl_8 (j' := j + 1) hc eμ2 (by rw [hc.2.2.1]) ⟨by omega, by omega⟩
      have hF := zCfx_tr hF (zCfx_f (show zCf μ μ2 by rw [eμ2]; exact zCf_88 zCf_refl (by omega)))
      have hz3 : μ2 93 3 = μ 93 3 := by rw [eμ2, pm_up_off (by decide)]
      have hz5 : μ2 95 = μ 95 := by rw [eμ2, pm_up_row (by decide)]
      have hz4 : μ2 94 = μ 94 := by rw [eμ2, pm_up_row (by decide)]
      refine pm_blk hK zmm253 [] 1 39 [(2, 88), (0, o), (0, 1)] [(0, 1)] μ2 [] rfl trivial ?_
      refine pm_if hK zmm253 .ne 28 67 rfl rfl (fun h5 => ?_) (fun h5 => ?_)
      · have h5 : (1 : Int) ≠ (0 : Int) := h5
        refine pm_blk hK zmm253 [] 4 71 [(2, 88), (0, o), (0, 1)] [(0, o + 1), (2, 88)] μ2 [pm_in (o + 1)] rfl ⟨pm_in_mk (by omega) (by omega), trivial⟩ ?_
        refine pm_call hK zmm253 (183, 0, 252, 1) zM252 (fs, ls) [(2, 88), (0, o + 1)] [] rfl rfl rfl rfl ⟨by omega, by rw [zn252]; omega⟩ (IHc (by omega) _ _ (j + 1) hTμ2 hc (by omega) ⟨Nat.le_refl _, Nat.le_refl _⟩) (fun st4 μc4 hp4 => ?_)
        obtain ⟨x4, gg, pp, LL, rfl, hTc4, hC4, hPP, hQ⟩ := hp4
        have hx401 : x4 = 0 ∨ x4 = 1 := by rcases hQ with q | q; exact Or.inr q.1; exact Or.inl q.1
        have hF := zCfx_tr hF hC4
        refine pm_if hK zmm253 .ne 5 79 rfl rfl (fun h6 => ?_) (fun h6 => ?_)
        · have h6 : x4 ≠ (0 : Int) := h6
          obtain ⟨g0, hc, hdu, hl9⟩ := zGok hQ h6
          have hpl := hc.2.2.2.1
          refine pm_blk hK zmm253 [] 4 86 [(2, 88), (0, o), (0, 1)] [(0, 0), (0, 9), (2, 93)] μc4 [] rfl trivial ?_
          refine pm_call hK zmm253 (180, 0, 248, 2) zM248 (0, 0) [(2, 93), (0, 9), (0, 0)] [] rfl rfl rfl rfl ⟨by omega, by rw [zn248]; omega⟩ (zw_emit hK (o := 9) (v := 0) hTc4 ⟨by omega, by omega⟩ ⟨by omega, by omega⟩ ⟨by omega, by omega⟩ hb93 hb95 ⟨Nat.le_refl _, Nat.le_refl _⟩) (fun st5 μc5 hp5 => ?_)
          obtain ⟨rfl, hTc5, hm5, hn5, hd5⟩ := hp5
          have hc := zCl_e hc hm5
          have hF := zCfx_tr hF (zCfx_e hm5 hn5)
          obtain ⟨hdd, hl8⟩ := hd5 (by omega)
          refine pm_blk hK zmm253 [] 1 90 [(2, 88), (0, o), (0, 1)] [(0, 1)] μc5 [] rfl trivial ?_
          subst g0
          exact pm_zret rfl rfl (by first | exact Or.inl rfl | exact Or.inr rfl | omega) ⟨1, 0, pp, _, rfl, hTc5, hF, zBx_n hnot (by omega) hPP, Or.inl ⟨rfl, rfl, hc, zCd_to (zCd_tr hdu hdd) hz3 hz5 hz4, by omega⟩⟩
        · have h6 : x4 = (0 : Int) := h6
          refine pm_blk hK zmm253 [] 1 78 [(2, 88), (0, o), (0, 1)] [(0, 0)] μc4 [] rfl trivial ?_
          obtain ⟨g1, hfl⟩ := zGno hQ h6
          exact pm_zret rfl rfl (by first | exact Or.inl rfl | exact Or.inr rfl | omega) ⟨0, gg, pp, _, rfl, hTc4, hF, zBx_n hnot (by omega) hPP, Or.inr ⟨rfl, g1, hfl⟩⟩
      · have h5 : (1 : Int) = (0 : Int) := h5
        exact absurd h5 (by decide)
  · have h0 : (8 : Int) ≤ o := h0
    refine pm_blk hK zmm253 [] 2 8 [(2, 88), (0, o), (9, 0)] [(0, 3), (2, 88)] μ [] rfl trivial ?_
    refine pm_call hK zmm253 (137, 0, 242, 1) zM242 (0, 0) [(2, 88), (0, 3)] [] rfl rfl rfl rfl ⟨by omega, by rw [zn242]; omega⟩ (zg_wrong hK h hT ⟨by omega, by omega⟩ hb88 ⟨Nat.le_refl _, Nat.le_refl _⟩) (fun st6 μc6 hp6 => ?_)
    obtain ⟨rfl, hTc6, hC6, hf6⟩ := hp6
    have hC := hC6
    have hff := hf6
    exact pm_zret rfl rfl (by first | exact Or.inl rfl | exact Or.inr rfl | omega) ⟨0, 3, j, [], rfl, hTc6, zCfx_f hC, zBx_3 hk9 (by omega), Or.inr ⟨rfl, by decide, hff⟩⟩
set_option maxRecDepth 100000 in
theorem zw_cond (hK : zKK ST) {o : Int} {fs ls : Nat} {K S V : Int → Int} {n j : Int} (h : zCq K S V n j μ) (hKn : zKn K V n) (hT : zTJ φ μ) (hcl : μ 93 3 ≤ j) (ho : 0 ≤ o ∧ o ≤ 8) (IHs : o < 8 → zGc φ D Wm ST b0 l Sg 1 zM251 K S V n (o + 1) fs ls) (IHc : o < 8 → zGc φ D Wm ST b0 l Sg 0 zM252 K S V n (o + 1) fs ls) (hb2 : fs + 2 ≤ bud.1 ∧ ls + 46 ≤ bud.2.1) (hb88 : sx_bit Wm 88 = true) (hb93 : sx_bit Wm 93 = true) (hb95 : sx_bit Wm 95 = true) (hbd : 3 ≤ bud.1 ∧ 70 ≤ bud.2.1) : zC D Wm ST b0 l Sg zM252 bud [(2, 88), (0, o)] μ (fun st' μ' => ∃ x f q LL, st' = [(0, x)] ∧ zTJ φ μ' ∧ zCfx μ μ' ∧ zBx K V 0 o (-1) j f q LL ∧ ((x = 1 ∧ f = 0 ∧ zCq K S V n q μ' ∧ zCd μ μ' LL ∧ μ' 93 3 + j ≤ μ 93 3 + q) ∨ (x = 0 ∧ f ≠ 0 ∧ zFl S f q μ'))) := by
  have hc := h
  have hF : zCfx μ μ := zCfx_refl
  obtain ⟨⟨q1, q2, q3⟩, q4, q5, q6⟩ := id h
  refine pm_blk hK zmm252 [] 1 1 [(2, 88), (0, o), (9, 0)] [(2, 88)] μ [] rfl trivial ?_
  refine pm_call hK zmm252 (70, 0, 53, 0) zM53 (0, 0) [(2, 88)] [] rfl rfl rfl rfl ⟨by omega, by rw [zn53]; omega⟩ (zg_kind hK (j := j) hc ⟨Nat.le_refl _, Nat.le_refl _⟩) (fun st1 μc1 hp1 => ?_)
  obtain ⟨rfl, rfl⟩ := hp1
  refine pm_blk hK zmm252 [] 1 7 [(2, 88), (0, o), (9, 0)] [(0, 317), (0, K j)] μ [] rfl trivial ?_
  refine pm_icmp hK zmm252 .eq 12 19 rfl rfl (fun h0 => ?_) (fun h0 => ?_)
  · have h0 : K j = (317 : Int) := h0
    refine pm_blk hK zmm252 [] 2 21 [(2, 88), (0, o), (9, 0)] [(0, o), (2, 88)] μ [] rfl trivial ?_
    refine pm_call hK zmm252 (186, 0, 253, 1) zM253 (max (fs + 1) 2, max (ls + 24) 48) [(2, 88), (0, o)] [] rfl rfl rfl rfl ⟨by omega, by rw [zn253]; omega⟩ (zw_opened hK hc hKn hT hcl ho (by omega) IHs IHc ⟨(show fs + 1 ≤ max (fs + 1) 2 by omega), (show 24 + ls ≤ max (ls + 24) 48 by omega)⟩ hb88 hb93 hb95 ⟨(show 2 ≤ max (fs + 1) 2 by omega), (show 48 ≤ max (ls + 24) 48 by omega)⟩) (fun st2 μc2 hp2 => ?_)
    obtain ⟨x2, gg, pp, LL, rfl, hTc2, hC2, hPP, hQ⟩ := hp2
    have hx201 : x2 = 0 ∨ x2 = 1 := by rcases hQ with q | q; exact Or.inr q.1; exact Or.inl q.1
    have hF := zCfx_tr hF hC2
    exact pm_zret rfl rfl (by first | exact Or.inl rfl | exact Or.inr rfl | omega) ⟨_, gg, pp, _, rfl, hTc2, hF, hPP, hQ⟩
  · have h0 : K j ≠ (317 : Int) := h0
    refine pm_blk hK zmm252 [] 1 11 [(2, 88), (0, o), (9, 0)] [(2, 88)] μ [] rfl trivial ?_
    refine pm_call hK zmm252 (70, 0, 53, 0) zM53 (0, 0) [(2, 88)] [] rfl rfl rfl rfl ⟨by omega, by rw [zn53]; omega⟩ (zg_kind hK (j := j) hc ⟨Nat.le_refl _, Nat.le_refl _⟩) (fun st3 μc3 hp3 => ?_)
    obtain ⟨rfl, rfl⟩ := hp3
    refine pm_blk hK zmm252 [] 1 16 [(2, 88), (0, o), (9, 0)] [(0, 40), (0, K j)] μ [] rfl trivial ?_
    refine pm_icmp hK zmm252 .ne 9 25 rfl rfl (fun h1 => ?_) (fun h1 => ?_)
    · have h1 : K j ≠ (40 : Int) := h1
      have hn1 : K j ≠ 317 := by omega
      have hn2 : K j ≠ 40 := by omega
      refine pm_blk hK zmm252 [] 1 26 [(2, 88), (0, o), (9, 0)] [(2, 88)] μ [] rfl trivial ?_
      refine pm_call hK zmm252 (164, 0, 245, 0) zM245 (2, 46) [(2, 88)] [] rfl rfl rfl rfl ⟨by omega, by rw [zn245]; omega⟩ (zw_expr hK hc hKn hT hcl hb88 hb93 hb95 ⟨Nat.le_refl _, Nat.le_refl _⟩) (fun st4 μc4 hp4 => ?_)
      obtain ⟨x4, gg, pp, LL, rfl, hTc4, hC4, hPP, hQ⟩ := hp4
      have hx401 : x4 = 0 ∨ x4 = 1 := by rcases hQ with q | q; exact Or.inr q.1; exact Or.inl q.1
      have hF := zCfx_tr hF hC4
      refine pm_if hK zmm252 .ne 5 34 rfl rfl (fun h2 => ?_) (fun h2 => ?_)
      · have h2 : x4 ≠ (0 : Int) := h2
        obtain ⟨g0, hc, hdu, hl9⟩ := zGok hQ h2
        have hpl := hc.2.2.2.1
        refine pm_blk hK zmm252 [] 1 35 [(2, 88), (0, o), (9, 0)] [(2, 88)] μc4 [] rfl trivial ?_
        refine pm_call hK zmm252 (70, 0, 53, 0) zM53 (0, 0) [(2, 88)] [] rfl rfl rfl rfl ⟨by omega, by rw [zn53]; omega⟩ (zg_kind hK (j := pp) hc ⟨Nat.le_refl _, Nat.le_refl _⟩) (fun st5 μc5 hp5 => ?_)
        obtain ⟨rfl, rfl⟩ := hp5
        refine pm_blk hK zmm252 [] 3 42 [(2, 88), (0, o), (0, K pp)] [(0, 60), (0, K pp)] μc4 [] rfl trivial ?_
        refine pm_icmp hK zmm252 .eq 21 63 rfl rfl (fun h3 => ?_) (fun h3 => ?_)
        · have h3 : K pp = (60 : Int) := h3
          have hcp : K pp = 60 ∨ K pp = 61 ∨ K pp = 62 := by omega
          have hpn : pp ≠ n := fun he => by rw [he, hKn.1] at hcp; omega
          have h8c := hc.2.2.1
          have f1 := zT_get hTc4 zs88_8 (i := 8) (by omega) (by omega)
          refine pm_blk hK zmm252 [] 6 73 [(2, 88), (0, o), (0, K pp)] [] (pm_up μc4 88 8 ((μc4 88 8) + 1)) [pm_in ((μc4 88 8) + 1), sx_bit Wm 88 = true] rfl ⟨pm_in_mk (by omega) (by omega), hb88, trivial⟩ ?_
          obtain ⟨μ1, eμ1⟩ : ∃ μ', μ' = pm_up μc4 88 8 ((μc4 88 8) + 1) := ⟨_, rfl⟩
          rw [← eμ1]
          have hTμ1 : zTJ φ μ1 := by rw [eμ1]; exact zT_up hTc4 zs88_8 rfl (i := 8) (by omega) (by omega) (by omega) (by omega)
          have hc := zCl_8 (j' := pp + 1) hc eμ1 (by rw [hc.2.2.1]) ⟨by omega, by omega⟩
          have hF := zCfx_tr hF (zCfx_f (show zCf μc4 μ1 by rw [eμ1]; exact zCf_88 zCf_refl (by omega)))
          have hz3 : μ1 93 3 = μc4 93 3 := by rw [eμ1, pm_up_off (by decide)]
          have hz5 : μ1 95 = μc4 95 := by rw [eμ1, pm_up_row (by decide)]
          have hz4 : μ1 94 = μc4 94 := by rw [eμ1, pm_up_row (by decide)]
          refine pm_blk hK zmm252 [] 1 74 [(2, 88), (0, o), (0, K pp)] [(2, 88)] μ1 [] rfl trivial ?_
          refine pm_call hK zmm252 (164, 0, 245, 0) zM245 (2, 46) [(2, 88)] [] rfl rfl rfl rfl ⟨by omega, by rw [zn245]; omega⟩ (zw_expr hK (j := pp + 1) hc hKn hTμ1 (by omega) hb88 hb93 hb95 ⟨Nat.le_refl _, Nat.le_refl _⟩) (fun st6 μc6 hp6 => ?_)
          obtain ⟨x6, gg2, pp2, LL2, rfl, hTc6, hC6, hPP2, hQ⟩ := hp6
          have hx601 : x6 = 0 ∨ x6 = 1 := by rcases hQ with q | q; exact Or.inr q.1; exact Or.inl q.1
          have hF := zCfx_tr hF hC6
          refine pm_if hK zmm252 .ne 5 82 rfl rfl (fun h4 => ?_) (fun h4 => ?_)
          · have h4 : x6 ≠ (0 : Int) := h4
            obtain ⟨g02, hc, hdu2, hl92⟩ := zGok hQ h4
            have hpl2 := hc.2.2.2.1
            refine pm_blk hK zmm252 [] 4 89 [(2, 88), (0, o), (0, K pp)] [(0, 60), (0, K pp), (2, 93)] μc6 [] rfl trivial ?_
            refine pm_icmp hK zmm252 .ne 8 97 rfl rfl (fun h5 => ?_) (fun h5 => ?_)
            · have h5 : K pp ≠ (60 : Int) := h5
              refine pm_blk hK zmm252 [] 2 100 [(2, 88), (0, o), (0, K pp)] [(0, 61), (0, K pp), (2, 93)] μc6 [] rfl trivial ?_
              refine pm_icmp hK zmm252 .ne 8 108 rfl rfl (fun h6 => ?_) (fun h6 => ?_)
              · have h6 : K pp ≠ (61 : Int) := h6
                refine pm_blk hK zmm252 [] 2 111 [(2, 88), (0, o), (0, K pp)] [(0, 0), (0, 8), (2, 93)] μc6 [] rfl trivial ?_
                refine pm_call hK zmm252 (180, 0, 248, 2) zM248 (0, 0) [(2, 93), (0, 8), (0, 0)] [] rfl rfl rfl rfl ⟨by omega, by rw [zn248]; omega⟩ (zw_emit hK (o := 8) (v := 0) hTc6 ⟨by omega, by omega⟩ ⟨by omega, by omega⟩ ⟨by omega, by omega⟩ hb93 hb95 ⟨Nat.le_refl _, Nat.le_refl _⟩) (fun st7 μc7 hp7 => ?_)
                obtain ⟨rfl, hTc7, hm7, hn7, hd7⟩ := hp7
                have hc := zCl_e hc hm7
                have hF := zCfx_tr hF (zCfx_e hm7 hn7)
                obtain ⟨hdd, hl8⟩ := hd7 (by omega)
                refine pm_blk hK zmm252 [] 1 115 [(2, 88), (0, o), (0, K pp)] [(0, 1)] μc7 [] rfl trivial ?_
                exact pm_zret rfl rfl (by first | exact Or.inl rfl | exact Or.inr rfl | omega) ⟨1, gg2, pp2, _, rfl, hTc7, hF, zBx_c hn1 hn2 ⟨gg, pp, LL, hPP, Or.inr (Or.inr ⟨g0, hcp, LL2, hPP2, rfl⟩)⟩, Or.inl ⟨rfl, g02, hc, zCd_tr (zCd_tr hdu (zCd_to hdu2 hz3 hz5 hz4)) (zCd_o hdd (zCo_of (by omega))), by omega⟩⟩
              · have h6 : K pp = (61 : Int) := h6
                refine pm_blk hK zmm252 [] 3 111 [(2, 88), (0, o), (0, K pp)] [(0, 0), (0, 7), (2, 93)] μc6 [] rfl trivial ?_
                refine pm_call hK zmm252 (180, 0, 248, 2) zM248 (0, 0) [(2, 93), (0, 7), (0, 0)] [] rfl rfl rfl rfl ⟨by omega, by rw [zn248]; omega⟩ (zw_emit hK (o := 7) (v := 0) hTc6 ⟨by omega, by omega⟩ ⟨by omega, by omega⟩ ⟨by omega, by omega⟩ hb93 hb95 ⟨Nat.le_refl _, Nat.le_refl _⟩) (fun st8 μc8 hp8 => ?_)
                obtain ⟨rfl, hTc8, hm8, hn8, hd8⟩ := hp8
                have hc := zCl_e hc hm8
                have hF := zCfx_tr hF (zCfx_e hm8 hn8)
                obtain ⟨hdd, hl8⟩ := hd8 (by omega)
                refine pm_blk hK zmm252 [] 1 115 [(2, 88), (0, o), (0, K pp)] [(0, 1)] μc8 [] rfl trivial ?_
                exact pm_zret rfl rfl (by first | exact Or.inl rfl | exact Or.inr rfl | omega) ⟨1, gg2, pp2, _, rfl, hTc8, hF, zBx_c hn1 hn2 ⟨gg, pp, LL, hPP, Or.inr (Or.inr ⟨g0, hcp, LL2, hPP2, rfl⟩)⟩, Or.inl ⟨rfl, g02, hc, zCd_tr (zCd_tr hdu (zCd_to hdu2 hz3 hz5 hz4)) (zCd_o hdd (zCo_of (by omega))), by omega⟩⟩
            · have h5 : K pp = (60 : Int) := h5
              refine pm_blk hK zmm252 [] 3 111 [(2, 88), (0, o), (0, K pp)] [(0, 0), (0, 6), (2, 93)] μc6 [] rfl trivial ?_
              refine pm_call hK zmm252 (180, 0, 248, 2) zM248 (0, 0) [(2, 93), (0, 6), (0, 0)] [] rfl rfl rfl rfl ⟨by omega, by rw [zn248]; omega⟩ (zw_emit hK (o := 6) (v := 0) hTc6 ⟨by omega, by omega⟩ ⟨by omega, by omega⟩ ⟨by omega, by omega⟩ hb93 hb95 ⟨Nat.le_refl _, Nat.le_refl _⟩) (fun st9 μc9 hp9 => ?_)
              obtain ⟨rfl, hTc9, hm9, hn9, hd9⟩ := hp9
              have hc := zCl_e hc hm9
              have hF := zCfx_tr hF (zCfx_e hm9 hn9)
              obtain ⟨hdd, hl8⟩ := hd9 (by omega)
              refine pm_blk hK zmm252 [] 1 115 [(2, 88), (0, o), (0, K pp)] [(0, 1)] μc9 [] rfl trivial ?_
              exact pm_zret rfl rfl (by first | exact Or.inl rfl | exact Or.inr rfl | omega) ⟨1, gg2, pp2, _, rfl, hTc9, hF, zBx_c hn1 hn2 ⟨gg, pp, LL, hPP, Or.inr (Or.inr ⟨g0, hcp, LL2, hPP2, rfl⟩)⟩, Or.inl ⟨rfl, g02, hc, zCd_tr (zCd_tr hdu (zCd_to hdu2 hz3 hz5 hz4)) (zCd_o hdd (zCo_of (by omega))), by omega⟩⟩
          · have h4 : x6 = (0 : Int) := h4
            refine pm_blk hK zmm252 [] 1 81 [(2, 88), (0, o), (0, K pp)] [(0, 0)] μc6 [] rfl trivial ?_
            obtain ⟨g1, hfl⟩ := zGno hQ h4
            exact pm_zret rfl rfl (by first | exact Or.inl rfl | exact Or.inr rfl | omega) ⟨0, gg2, pp2, _, rfl, hTc6, hF, zBx_c hn1 hn2 ⟨gg, pp, LL, hPP, Or.inr (Or.inr ⟨g0, hcp, LL2, hPP2, rfl⟩)⟩, Or.inr ⟨rfl, g1, hfl⟩⟩
        · have h3 : K pp ≠ (60 : Int) := h3
          refine pm_blk hK zmm252 [] 2 48 [(2, 88), (0, o), (0, K pp)] [(0, 61), (0, K pp)] μc4 [] rfl trivial ?_
          refine pm_icmp hK zmm252 .eq 15 63 rfl rfl (fun h7 => ?_) (fun h7 => ?_)
          · have h7 : K pp = (61 : Int) := h7
            have hcp : K pp = 60 ∨ K pp = 61 ∨ K pp = 62 := by omega
            have hpn : pp ≠ n := fun he => by rw [he, hKn.1] at hcp; omega
            have h8c := hc.2.2.1
            have f2 := zT_get hTc4 zs88_8 (i := 8) (by omega) (by omega)
            refine pm_blk hK zmm252 [] 6 73 [(2, 88), (0, o), (0, K pp)] [] (pm_up μc4 88 8 ((μc4 88 8) + 1)) [pm_in ((μc4 88 8) + 1), sx_bit Wm 88 = true] rfl ⟨pm_in_mk (by omega) (by omega), hb88, trivial⟩ ?_
            obtain ⟨μ2, eμ2⟩ : ∃ μ', μ' = pm_up μc4 88 8 ((μc4 88 8) + 1) := ⟨_, rfl⟩
            rw [← eμ2]
            have hTμ2 : zTJ φ μ2 := by rw [eμ2]; exact zT_up hTc4 zs88_8 rfl (i := 8) (by omega) (by omega) (by omega) (by omega)
            have hc := zCl_8 (j' := pp + 1) hc eμ2 (by rw [hc.2.2.1]) ⟨by omega, by omega⟩
            have hF := zCfx_tr hF (zCfx_f (show zCf μc4 μ2 by rw [eμ2]; exact zCf_88 zCf_refl (by omega)))
            have hz3 : μ2 93 3 = μc4 93 3 := by rw [eμ2, pm_up_off (by decide)]
            have hz5 : μ2 95 = μc4 95 := by rw [eμ2, pm_up_row (by decide)]
            have hz4 : μ2 94 = μc4 94 := by rw [eμ2, pm_up_row (by decide)]
            refine pm_blk hK zmm252 [] 1 74 [(2, 88), (0, o), (0, K pp)] [(2, 88)] μ2 [] rfl trivial ?_
            refine pm_call hK zmm252 (164, 0, 245, 0) zM245 (2, 46) [(2, 88)] [] rfl rfl rfl rfl ⟨by omega, by rw [zn245]; omega⟩ (zw_expr hK (j := pp + 1) hc hKn hTμ2 (by omega) hb88 hb93 hb95 ⟨Nat.le_refl _, Nat.le_refl _⟩) (fun st10 μc10 hp10 => ?_)
            obtain ⟨x10, gg2, pp2, LL2, rfl, hTc10, hC10, hPP2, hQ⟩ := hp10
            have hx1001 : x10 = 0 ∨ x10 = 1 := by rcases hQ with q | q; exact Or.inr q.1; exact Or.inl q.1
            have hF := zCfx_tr hF hC10
            refine pm_if hK zmm252 .ne 5 82 rfl rfl (fun h8 => ?_) (fun h8 => ?_)
            · have h8 : x10 ≠ (0 : Int) := h8
              obtain ⟨g02, hc, hdu2, hl92⟩ := zGok hQ h8
              have hpl2 := hc.2.2.2.1
              refine pm_blk hK zmm252 [] 4 89 [(2, 88), (0, o), (0, K pp)] [(0, 60), (0, K pp), (2, 93)] μc10 [] rfl trivial ?_
              refine pm_icmp hK zmm252 .ne 8 97 rfl rfl (fun h9 => ?_) (fun h9 => ?_)
              · have h9 : K pp ≠ (60 : Int) := h9
                refine pm_blk hK zmm252 [] 2 100 [(2, 88), (0, o), (0, K pp)] [(0, 61), (0, K pp), (2, 93)] μc10 [] rfl trivial ?_
                refine pm_icmp hK zmm252 .ne 8 108 rfl rfl (fun h10 => ?_) (fun h10 => ?_)
                · have h10 : K pp ≠ (61 : Int) := h10
                  refine pm_blk hK zmm252 [] 2 111 [(2, 88), (0, o), (0, K pp)] [(0, 0), (0, 8), (2, 93)] μc10 [] rfl trivial ?_
                  refine pm_call hK zmm252 (180, 0, 248, 2) zM248 (0, 0) [(2, 93), (0, 8), (0, 0)] [] rfl rfl rfl rfl ⟨by omega, by rw [zn248]; omega⟩ (zw_emit hK (o := 8) (v := 0) hTc10 ⟨by omega, by omega⟩ ⟨by omega, by omega⟩ ⟨by omega, by omega⟩ hb93 hb95 ⟨Nat.le_refl _, Nat.le_refl _⟩) (fun st11 μc11 hp11 => ?_)
                  obtain ⟨rfl, hTc11, hm11, hn11, hd11⟩ := hp11
                  have hc := zCl_e hc hm11
                  have hF := zCfx_tr hF (zCfx_e hm11 hn11)
                  obtain ⟨hdd, hl8⟩ := hd11 (by omega)
                  refine pm_blk hK zmm252 [] 1 115 [(2, 88), (0, o), (0, K pp)] [(0, 1)] μc11 [] rfl trivial ?_
                  exact pm_zret rfl rfl (by first | exact Or.inl rfl | exact Or.inr rfl | omega) ⟨1, gg2, pp2, _, rfl, hTc11, hF, zBx_c hn1 hn2 ⟨gg, pp, LL, hPP, Or.inr (Or.inr ⟨g0, hcp, LL2, hPP2, rfl⟩)⟩, Or.inl ⟨rfl, g02, hc, zCd_tr (zCd_tr hdu (zCd_to hdu2 hz3 hz5 hz4)) (zCd_o hdd (zCo_of (by omega))), by omega⟩⟩
                · have h10 : K pp = (61 : Int) := h10
                  refine pm_blk hK zmm252 [] 3 111 [(2, 88), (0, o), (0, K pp)] [(0, 0), (0, 7), (2, 93)] μc10 [] rfl trivial ?_
                  refine pm_call hK zmm252 (180, 0, 248, 2) zM248 (0, 0) [(2, 93), (0, 7), (0, 0)] [] rfl rfl rfl rfl ⟨by omega, by rw [zn248]; omega⟩ (zw_emit hK (o := 7) (v := 0) hTc10 ⟨by omega, by omega⟩ ⟨by omega, by omega⟩ ⟨by omega, by omega⟩ hb93 hb95 ⟨Nat.le_refl _, Nat.le_refl _⟩) (fun st12 μc12 hp12 => ?_)
                  obtain ⟨rfl, hTc12, hm12, hn12, hd12⟩ := hp12
                  have hc := zCl_e hc hm12
                  have hF := zCfx_tr hF (zCfx_e hm12 hn12)
                  obtain ⟨hdd, hl8⟩ := hd12 (by omega)
                  refine pm_blk hK zmm252 [] 1 115 [(2, 88), (0, o), (0, K pp)] [(0, 1)] μc12 [] rfl trivial ?_
                  exact pm_zret rfl rfl (by first | exact Or.inl rfl | exact Or.inr rfl | omega) ⟨1, gg2, pp2, _, rfl, hTc12, hF, zBx_c hn1 hn2 ⟨gg, pp, LL, hPP, Or.inr (Or.inr ⟨g0, hcp, LL2, hPP2, rfl⟩)⟩, Or.inl ⟨rfl, g02, hc, zCd_tr (zCd_tr hdu (zCd_to hdu2 hz3 hz5 hz4)) (zCd_o hdd (zCo_of (by omega))), by omega⟩⟩
              · have h9 : K pp = (60 : Int) := h9
                refine pm_blk hK zmm252 [] 3 111 [(2, 88), (0, o), (0, K pp)] [(0, 0), (0, 6), (2, 93)] μc10 [] rfl trivial ?_
                refine pm_call hK zmm252 (180, 0, 248, 2) zM248 (0, 0) [(2, 93), (0, 6), (0, 0)] [] rfl rfl rfl rfl ⟨by omega, by rw [zn248]; omega⟩ (zw_emit hK (o := 6) (v := 0) hTc10 ⟨by omega, by omega⟩ ⟨by omega, by omega⟩ ⟨by omega, by omega⟩ hb93 hb95 ⟨Nat.le_refl _, Nat.le_refl _⟩) (fun st13 μc13 hp13 => ?_)
                obtain ⟨rfl, hTc13, hm13, hn13, hd13⟩ := hp13
                have hc := zCl_e hc hm13
                have hF := zCfx_tr hF (zCfx_e hm13 hn13)
                obtain ⟨hdd, hl8⟩ := hd13 (by omega)
                refine pm_blk hK zmm252 [] 1 115 [(2, 88), (0, o), (0, K pp)] [(0, 1)] μc13 [] rfl trivial ?_
                exact pm_zret rfl rfl (by first | exact Or.inl rfl | exact Or.inr rfl | omega) ⟨1, gg2, pp2, _, rfl, hTc13, hF, zBx_c hn1 hn2 ⟨gg, pp, LL, hPP, Or.inr (Or.inr ⟨g0, hcp, LL2, hPP2, rfl⟩)⟩, Or.inl ⟨rfl, g02, hc, zCd_tr (zCd_tr hdu (zCd_to hdu2 hz3 hz5 hz4)) (zCd_o hdd (zCo_of (by omega))), by omega⟩⟩
            · have h8 : x10 = (0 : Int) := h8
              refine pm_blk hK zmm252 [] 1 81 [(2, 88), (0, o), (0, K pp)] [(0, 0)] μc10 [] rfl trivial ?_
              obtain ⟨g1, hfl⟩ := zGno hQ h8
              exact pm_zret rfl rfl (by first | exact Or.inl rfl | exact Or.inr rfl | omega) ⟨0, gg2, pp2, _, rfl, hTc10, hF, zBx_c hn1 hn2 ⟨gg, pp, LL, hPP, Or.inr (Or.inr ⟨g0, hcp, LL2, hPP2, rfl⟩)⟩, Or.inr ⟨rfl, g1, hfl⟩⟩
          · have h7 : K pp ≠ (61 : Int) := h7
            refine pm_blk hK zmm252 [] 2 54 [(2, 88), (0, o), (0, K pp)] [(0, 62), (0, K pp)] μc4 [] rfl trivial ?_
            refine pm_icmp hK zmm252 .eq 9 63 rfl rfl (fun h11 => ?_) (fun h11 => ?_)
            · have h11 : K pp = (62 : Int) := h11
              have hcp : K pp = 60 ∨ K pp = 61 ∨ K pp = 62 := by omega
              have hpn : pp ≠ n := fun he => by rw [he, hKn.1] at hcp; omega
              have h8c := hc.2.2.1
              have f3 := zT_get hTc4 zs88_8 (i := 8) (by omega) (by omega)
              refine pm_blk hK zmm252 [] 6 73 [(2, 88), (0, o), (0, K pp)] [] (pm_up μc4 88 8 ((μc4 88 8) + 1)) [pm_in ((μc4 88 8) + 1), sx_bit Wm 88 = true] rfl ⟨pm_in_mk (by omega) (by omega), hb88, trivial⟩ ?_
              obtain ⟨μ3, eμ3⟩ : ∃ μ', μ' = pm_up μc4 88 8 ((μc4 88 8) + 1) := ⟨_, rfl⟩
              rw [← eμ3]
              have hTμ3 : zTJ φ μ3 := by rw [eμ3]; exact zT_up hTc4 zs88_8 rfl (i := 8) (by omega) (by omega) (by omega) (by omega)
              have hc := zCl_8 (j' := pp + 1) hc eμ3 (by rw [hc.2.2.1]) ⟨by omega, by omega⟩
              have hF := zCfx_tr hF (zCfx_f (show zCf μc4 μ3 by rw [eμ3]; exact zCf_88 zCf_refl (by omega)))
              have hz3 : μ3 93 3 = μc4 93 3 := by rw [eμ3, pm_up_off (by decide)]
              have hz5 : μ3 95 = μc4 95 := by rw [eμ3, pm_up_row (by decide)]
              have hz4 : μ3 94 = μc4 94 := by rw [eμ3, pm_up_row (by decide)]
              refine pm_blk hK zmm252 [] 1 74 [(2, 88), (0, o), (0, K pp)] [(2, 88)] μ3 [] rfl trivial ?_
              refine pm_call hK zmm252 (164, 0, 245, 0) zM245 (2, 46) [(2, 88)] [] rfl rfl rfl rfl ⟨by omega, by rw [zn245]; omega⟩ (zw_expr hK (j := pp + 1) hc hKn hTμ3 (by omega) hb88 hb93 hb95 ⟨Nat.le_refl _, Nat.le_refl _⟩) (fun st14 μc14 hp14 => ?_)
              obtain ⟨x14, gg2, pp2, LL2, rfl, hTc14, hC14, hPP2, hQ⟩ := hp14
              have hx1401 : x14 = 0 ∨ x14 = 1 := by rcases hQ with q | q; exact Or.inr q.1; exact Or.inl q.1
              have hF := zCfx_tr hF hC14
              refine pm_if hK zmm252 .ne 5 82 rfl rfl (fun h12 => ?_) (fun h12 => ?_)
              · have h12 : x14 ≠ (0 : Int) := h12
                obtain ⟨g02, hc, hdu2, hl92⟩ := zGok hQ h12
                have hpl2 := hc.2.2.2.1
                refine pm_blk hK zmm252 [] 4 89 [(2, 88), (0, o), (0, K pp)] [(0, 60), (0, K pp), (2, 93)] μc14 [] rfl trivial ?_
                refine pm_icmp hK zmm252 .ne 8 97 rfl rfl (fun h13 => ?_) (fun h13 => ?_)
                · have h13 : K pp ≠ (60 : Int) := h13
                  refine pm_blk hK zmm252 [] 2 100 [(2, 88), (0, o), (0, K pp)] [(0, 61), (0, K pp), (2, 93)] μc14 [] rfl trivial ?_
                  refine pm_icmp hK zmm252 .ne 8 108 rfl rfl (fun h14 => ?_) (fun h14 => ?_)
                  · have h14 : K pp ≠ (61 : Int) := h14
                    refine pm_blk hK zmm252 [] 2 111 [(2, 88), (0, o), (0, K pp)] [(0, 0), (0, 8), (2, 93)] μc14 [] rfl trivial ?_
                    refine pm_call hK zmm252 (180, 0, 248, 2) zM248 (0, 0) [(2, 93), (0, 8), (0, 0)] [] rfl rfl rfl rfl ⟨by omega, by rw [zn248]; omega⟩ (zw_emit hK (o := 8) (v := 0) hTc14 ⟨by omega, by omega⟩ ⟨by omega, by omega⟩ ⟨by omega, by omega⟩ hb93 hb95 ⟨Nat.le_refl _, Nat.le_refl _⟩) (fun st15 μc15 hp15 => ?_)
                    obtain ⟨rfl, hTc15, hm15, hn15, hd15⟩ := hp15
                    have hc := zCl_e hc hm15
                    have hF := zCfx_tr hF (zCfx_e hm15 hn15)
                    obtain ⟨hdd, hl8⟩ := hd15 (by omega)
                    refine pm_blk hK zmm252 [] 1 115 [(2, 88), (0, o), (0, K pp)] [(0, 1)] μc15 [] rfl trivial ?_
                    exact pm_zret rfl rfl (by first | exact Or.inl rfl | exact Or.inr rfl | omega) ⟨1, gg2, pp2, _, rfl, hTc15, hF, zBx_c hn1 hn2 ⟨gg, pp, LL, hPP, Or.inr (Or.inr ⟨g0, hcp, LL2, hPP2, rfl⟩)⟩, Or.inl ⟨rfl, g02, hc, zCd_tr (zCd_tr hdu (zCd_to hdu2 hz3 hz5 hz4)) (zCd_o hdd (zCo_of (by omega))), by omega⟩⟩
                  · have h14 : K pp = (61 : Int) := h14
                    refine pm_blk hK zmm252 [] 3 111 [(2, 88), (0, o), (0, K pp)] [(0, 0), (0, 7), (2, 93)] μc14 [] rfl trivial ?_
                    refine pm_call hK zmm252 (180, 0, 248, 2) zM248 (0, 0) [(2, 93), (0, 7), (0, 0)] [] rfl rfl rfl rfl ⟨by omega, by rw [zn248]; omega⟩ (zw_emit hK (o := 7) (v := 0) hTc14 ⟨by omega, by omega⟩ ⟨by omega, by omega⟩ ⟨by omega, by omega⟩ hb93 hb95 ⟨Nat.le_refl _, Nat.le_refl _⟩) (fun st16 μc16 hp16 => ?_)
                    obtain ⟨rfl, hTc16, hm16, hn16, hd16⟩ := hp16
                    have hc := zCl_e hc hm16
                    have hF := zCfx_tr hF (zCfx_e hm16 hn16)
                    obtain ⟨hdd, hl8⟩ := hd16 (by omega)
                    refine pm_blk hK zmm252 [] 1 115 [(2, 88), (0, o), (0, K pp)] [(0, 1)] μc16 [] rfl trivial ?_
                    exact pm_zret rfl rfl (by first | exact Or.inl rfl | exact Or.inr rfl | omega) ⟨1, gg2, pp2, _, rfl, hTc16, hF, zBx_c hn1 hn2 ⟨gg, pp, LL, hPP, Or.inr (Or.inr ⟨g0, hcp, LL2, hPP2, rfl⟩)⟩, Or.inl ⟨rfl, g02, hc, zCd_tr (zCd_tr hdu (zCd_to hdu2 hz3 hz5 hz4)) (zCd_o hdd (zCo_of (by omega))), by omega⟩⟩
                · have h13 : K pp = (60 : Int) := h13
                  refine pm_blk hK zmm252 [] 3 111 [(2, 88), (0, o), (0, K pp)] [(0, 0), (0, 6), (2, 93)] μc14 [] rfl trivial ?_
                  refine pm_call hK zmm252 (180, 0, 248, 2) zM248 (0, 0) [(2, 93), (0, 6), (0, 0)] [] rfl rfl rfl rfl ⟨by omega, by rw [zn248]; omega⟩ (zw_emit hK (o := 6) (v := 0) hTc14 ⟨by omega, by omega⟩ ⟨by omega, by omega⟩ ⟨by omega, by omega⟩ hb93 hb95 ⟨Nat.le_refl _, Nat.le_refl _⟩) (fun st17 μc17 hp17 => ?_)
                  obtain ⟨rfl, hTc17, hm17, hn17, hd17⟩ := hp17
                  have hc := zCl_e hc hm17
                  have hF := zCfx_tr hF (zCfx_e hm17 hn17)
                  obtain ⟨hdd, hl8⟩ := hd17 (by omega)
                  refine pm_blk hK zmm252 [] 1 115 [(2, 88), (0, o), (0, K pp)] [(0, 1)] μc17 [] rfl trivial ?_
                  exact pm_zret rfl rfl (by first | exact Or.inl rfl | exact Or.inr rfl | omega) ⟨1, gg2, pp2, _, rfl, hTc17, hF, zBx_c hn1 hn2 ⟨gg, pp, LL, hPP, Or.inr (Or.inr ⟨g0, hcp, LL2, hPP2, rfl⟩)⟩, Or.inl ⟨rfl, g02, hc, zCd_tr (zCd_tr hdu (zCd_to hdu2 hz3 hz5 hz4)) (zCd_o hdd (zCo_of (by omega))), by omega⟩⟩
              · have h12 : x14 = (0 : Int) := h12
                refine pm_blk hK zmm252 [] 1 81 [(2, 88), (0, o), (0, K pp)] [(0, 0)] μc14 [] rfl trivial ?_
                obtain ⟨g1, hfl⟩ := zGno hQ h12
                exact pm_zret rfl rfl (by first | exact Or.inl rfl | exact Or.inr rfl | omega) ⟨0, gg2, pp2, _, rfl, hTc14, hF, zBx_c hn1 hn2 ⟨gg, pp, LL, hPP, Or.inr (Or.inr ⟨g0, hcp, LL2, hPP2, rfl⟩)⟩, Or.inr ⟨rfl, g1, hfl⟩⟩
            · have h11 : K pp ≠ (62 : Int) := h11
              refine pm_blk hK zmm252 [] 2 59 [(2, 88), (0, o), (0, K pp)] [(0, 1), (2, 88)] μc4 [] rfl trivial ?_
              refine pm_call hK zmm252 (137, 0, 242, 1) zM242 (0, 0) [(2, 88), (0, 1)] [] rfl rfl rfl rfl ⟨by omega, by rw [zn242]; omega⟩ (zg_wrong hK (j := pp) hc hTc4 ⟨by omega, by omega⟩ hb88 ⟨Nat.le_refl _, Nat.le_refl _⟩) (fun st18 μc18 hp18 => ?_)
              obtain ⟨rfl, hTc18, hC18, hf18⟩ := hp18
              have hC := hC18
              have hff := hf18
              exact pm_zret rfl rfl (by first | exact Or.inl rfl | exact Or.inr rfl | omega) ⟨0, 1, pp, [], rfl, hTc18, zCfx_tr hF (zCfx_f hC), zBx_c hn1 hn2 ⟨gg, pp, LL, hPP, Or.inr (Or.inl ⟨g0, by omega, by omega, by omega, rfl, rfl⟩)⟩, Or.inr ⟨rfl, by decide, hff⟩⟩
      · have h2 : x4 = (0 : Int) := h2
        refine pm_blk hK zmm252 [] 1 33 [(2, 88), (0, o), (9, 0)] [(0, 0)] μc4 [] rfl trivial ?_
        obtain ⟨g1, hfl⟩ := zGno hQ h2
        exact pm_zret rfl rfl (by first | exact Or.inl rfl | exact Or.inr rfl | omega) ⟨0, gg, pp, [], rfl, hTc4, hF, zBx_c hn1 hn2 ⟨gg, pp, LL, hPP, Or.inl ⟨g1, rfl, rfl⟩⟩, Or.inr ⟨rfl, g1, hfl⟩⟩
    · have h1 : K j = (40 : Int) := h1
      refine pm_blk hK zmm252 [] 2 21 [(2, 88), (0, o), (9, 0)] [(0, o), (2, 88)] μ [] rfl trivial ?_
      refine pm_call hK zmm252 (186, 0, 253, 1) zM253 (max (fs + 1) 2, max (ls + 24) 48) [(2, 88), (0, o)] [] rfl rfl rfl rfl ⟨by omega, by rw [zn253]; omega⟩ (zw_opened hK hc hKn hT hcl ho (by omega) IHs IHc ⟨(show fs + 1 ≤ max (fs + 1) 2 by omega), (show 24 + ls ≤ max (ls + 24) 48 by omega)⟩ hb88 hb93 hb95 ⟨(show 2 ≤ max (fs + 1) 2 by omega), (show 48 ≤ max (ls + 24) 48 by omega)⟩) (fun st19 μc19 hp19 => ?_)
      obtain ⟨x19, gg, pp, LL, rfl, hTc19, hC19, hPP, hQ⟩ := hp19
      have hx1901 : x19 = 0 ∨ x19 = 1 := by rcases hQ with q | q; exact Or.inr q.1; exact Or.inl q.1
      have hF := zCfx_tr hF hC19
      exact pm_zret rfl rfl (by first | exact Or.inl rfl | exact Or.inr rfl | omega) ⟨_, gg, pp, _, rfl, hTc19, hF, hPP, hQ⟩
end ZHW
