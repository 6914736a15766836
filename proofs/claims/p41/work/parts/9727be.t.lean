/-! ROUNDS: the reference; walks printed by program (wip/p30/pmgen.py) and filled by hand -/
section ZHW
variable {φ : Option pm_Mem}
variable {D : va_G} {Wm : Nat} {ST : List (String × String × String × Nat)} {b0 : sx_B} {l : Launch} {Sg : Nat → Option Nat} {bud : sx_Bu} {μ : pm_Mem} {B0 : Nat → Prop} {J : (Nat → Option Nat) → Heap → Prop}
set_option maxRecDepth 100000 in
theorem zm_round (hK : zKK ST) {p : Int} {z : Int} {T : Int → Int} {L : Int} {K S V : Int → Int} {n j : Int} {P : Nat → Int} (hx : zMx T L K S V n P μ) (h : zMs K S V n P j μ) (hp : p = 3 * z) (hz : 16 ≤ z ∧ z < 32) (hkj : K j = 318) (hT : zTJ φ μ) (hb205 : sx_bit Wm 205 = true) (hb221 : sx_bit Wm 221 = true) (hbd : 5 ≤ bud.1 ∧ 111 ≤ bud.2.1) : zC D Wm ST b0 l Sg zM279 bud [(2, 205), (0, p)] μ (fun st' μ' => ∃ x f q, st' = [(0, x)] ∧ zTJ φ μ' ∧ zMf μ μ' ∧ (∃ g p, zPa1 K V (μ 205 6) (μ 205 7) (j + 1) g p ∧ ((g ≠ 0 ∧ f = g ∧ q = p) ∨ (g = 0 ∧ f = 1 ∧ q = p ∧ K p ≠ 59) ∨ (g = 0 ∧ f = 0 ∧ q = p + 1 ∧ K p = 59))) ∧ ((x ≠ -1 ∧ f = 0 ∧ zMs K S V n P q μ') ∨ (x = -1 ∧ f ≠ 0 ∧ zFm S f q μ')) ∧ (∀ i, i < p → μ' 221 i = μ 221 i) ∧ (x ≠ -1 → μ' 221 p = V (j + 1) ∧ μ' 221 (p + 1) = V (j + 3) ∧ μ' 221 (p + 2) = if K (j + 4) = 321 then 0 else V (j + 5) + 1)) := by
  have hm := h
  have hF : zMf μ μ := zMf_refl
  have hk := zMs_k hx hm
  have f6 := zT_get hT zs205_6 (i := 6) (by omega) (by omega)
  have f7 := zT_get hT zs205_7 (i := 7) (by omega) (by omega)
  have e11 : j + 1 + 1 = j + 2 := by omega
  have e12 : j + 1 + 2 = j + 3 := by omega
  have e13 : j + 1 + 3 = j + 4 := by omega
  have e14 : j + 1 + 4 = j + 5 := by omega
  have e15 : j + 1 + 5 = j + 6 := by omega
  have e16 : j + 1 + 6 = j + 7 := by omega
  have A : ∀ i, i < p → μ 221 i = μ 221 i := fun _ _ => rfl
  have r3 : V (j + 3) = V (j + 2 + 1) := congrArg V (by omega)
  have r5 : V (j + 5) = V (j + 4 + 1) := congrArg V (by omega)
  have f1 := zT_get hT zs205_7 (i := 7) (by omega) (by omega)
  refine pm_blk hK zmm279 [] 10 15 [(2, 205), (0, p), (9, 0)] [(0, (μ 205 7) - 1), (0, 0), (0, 18), (2, 205), (0, p), (2, 221)] μ [pm_in ((μ 205 7) - 1)] rfl ⟨pm_in_mk (by omega) (by omega), trivial⟩ ?_
  refine pm_call hK zmm279 (270, 0, 280, 3) zM280 (4, 88) [(2, 205), (0, 18), (0, 0), (0, (μ 205 7) - 1)] [(0, p), (2, 221)] rfl rfl rfl rfl ⟨by omega, by rw [zn280]; omega⟩ (zm_told hK (kw := 318) (j := j) (j2 := j + 2) hx hm (by omega) (by decide) (by decide) (by omega) hT hb205 ⟨Nat.le_refl _, Nat.le_refl _⟩) (fun st1 μc1 hp1 => ?_)
  obtain ⟨x1, rfl, hTc1, hF1, hA1, hB1⟩ := hp1
  have hF := zMf_tr hF (zMf_r hF1)
  have hx := zMx_f hx (zMf_r hF1)
  have hA := hA1
  have hB := hB1
  have hxr1 : x1 = -1 ∨ (0 ≤ x1 ∧ x1 ≤ ((μ 205 7) - 1)) := by
    by_cases hq : x1 = -1
    · exact Or.inl hq
    · obtain ⟨q1, ⟨-, -, q2, q3⟩, -⟩ := hA hq
      exact Or.inr ⟨by omega, by omega⟩
  obtain ⟨xa, exa⟩ : ∃ y, y = x1 := ⟨_, rfl⟩
  have A : ∀ i, i < p → μc1 221 i = μ 221 i := fun i hi => Eq.trans (by rw [hF1.1 221 (by decide)]) (A i hi)
  refine pm_blk hK zmm279 [] 1 19 [(2, 205), (0, p), (9, 0)] [] (pm_up μc1 221 p x1) [sx_bit Wm 221 = true, 0 ≤ p ∧ p < 96] rfl ⟨hb221, ⟨by omega, by omega⟩, trivial⟩ ?_
  obtain ⟨μ1, eμ1⟩ : ∃ μ', μ' = pm_up μc1 221 p x1 := ⟨_, rfl⟩
  rw [← eμ1]
  have hTμ1 : zTJ φ μ1 := by rw [eμ1]; exact zT_upp hTc1 zp221_0 rfl (i := p) (z := z) (by omega) (by omega) (by omega) (by omega) (by omega)
  have hFp := hF
  have hF : zMf μ μ1 := by rw [eμ1]; exact zMf_221 hFp (by omega)
  have hxp := hx
  have hx : zMx T L K S V n P μ1 := by rw [eμ1]; exact zMx_up hxp (by decide) (by decide)
  have v1 : μ1 221 p = x1 := by rw [eμ1, pm_up_eq]
  have w0 : μ1 221 p = xa := by rw [eμ1, pm_up_eq, exa]
  have A : ∀ i, i < p → μ1 221 i = μ 221 i := fun i hi => Eq.trans (by rw [eμ1, pm_up_ne (by omega)]) (A i hi)
  have f2 := zT_getp hTμ1 zp221_0 (i := p) (z := z) (by omega) (by omega) (by omega)
  refine pm_blk hK zmm279 [] 5 26 [(2, 205), (0, p), (9, 0)] [(0, (-1)), (0, μ1 221 p)] μ1 [0 ≤ p ∧ p < 96] rfl ⟨⟨by omega, by omega⟩, trivial⟩ ?_
  refine pm_icmp hK zmm279 .ne 5 31 rfl rfl (fun h0 => ?_) (fun h0 => ?_)
  · have h0 : μ1 221 p ≠ ((-1) : Int) := h0
    obtain ⟨a1, ⟨a2, a3, a4, a5⟩, hm1⟩ := hA (by omega)
    have hm : zMs K S V n P (j + 2) μ1 := by rw [eμ1]; exact zMs_up hm1 (by decide)
    have hk := zMs_k hx hm
    refine pm_blk hK zmm279 [] 9 44 [(2, 205), (0, p), (9, 0)] [(0, 11), (0, 0), (0, 19), (2, 205), (0, p + 1), (2, 221)] μ1 [pm_in (p + 1)] rfl ⟨pm_in_mk (by omega) (by omega), trivial⟩ ?_
    refine pm_call hK zmm279 (270, 0, 280, 3) zM280 (4, 88) [(2, 205), (0, 19), (0, 0), (0, 11)] [(0, p + 1), (2, 221)] rfl rfl rfl rfl ⟨by omega, by rw [zn280]; omega⟩ (zm_told hK (kw := 319) (j := j + 2) (j2 := j + 4) hx hm (by omega) (by decide) (by decide) (by omega) hTμ1 hb205 ⟨Nat.le_refl _, Nat.le_refl _⟩) (fun st2 μc2 hp2 => ?_)
    obtain ⟨x2, rfl, hTc2, hF2, hA2, hB2⟩ := hp2
    have hF := zMf_tr hF (zMf_r hF2)
    have hx := zMx_f hx (zMf_r hF2)
    have hA := hA2
    have hB := hB2
    have hxr2 : x2 = -1 ∨ (0 ≤ x2 ∧ x2 ≤ 11) := by
      by_cases hq : x2 = -1
      · exact Or.inl hq
      · obtain ⟨q1, ⟨-, -, q2, q3⟩, -⟩ := hA hq
        exact Or.inr ⟨by omega, by omega⟩
    obtain ⟨xb, exb⟩ : ∃ y, y = x2 := ⟨_, rfl⟩
    have A : ∀ i, i < p → μc2 221 i = μ 221 i := fun i hi => Eq.trans (by rw [hF2.1 221 (by decide)]) (A i hi)
    have w0 : μc2 221 p = xa := by rw [hF2.1 221 (by decide)]; exact w0
    refine pm_blk hK zmm279 [] 1 48 [(2, 205), (0, p), (9, 0)] [] (pm_up μc2 221 (p + 1) x2) [sx_bit Wm 221 = true, 0 ≤ p + 1 ∧ p + 1 < 96] rfl ⟨hb221, ⟨by omega, by omega⟩, trivial⟩ ?_
    obtain ⟨μ2, eμ2⟩ : ∃ μ', μ' = pm_up μc2 221 (p + 1) x2 := ⟨_, rfl⟩
    rw [← eμ2]
    have hTμ2 : zTJ φ μ2 := by rw [eμ2]; exact zT_upp hTc2 zp221_1 rfl (i := p + 1) (z := z) (by omega) (by omega) (by omega) (by omega) (by omega)
    have hFp := hF
    have hF : zMf μ μ2 := by rw [eμ2]; exact zMf_221 hFp (by omega)
    have hxp := hx
    have hx : zMx T L K S V n P μ2 := by rw [eμ2]; exact zMx_up hxp (by decide) (by decide)
    have v2 : μ2 221 (p + 1) = x2 := by rw [eμ2, pm_up_eq]
    have w1 : μ2 221 (p + 1) = xb := by rw [eμ2, pm_up_eq, exb]
    have w0 : μ2 221 p = xa := by rw [eμ2, pm_up_ne (by omega)]; exact w0
    have A : ∀ i, i < p → μ2 221 i = μ 221 i := fun i hi => Eq.trans (by rw [eμ2, pm_up_ne (by omega)]) (A i hi)
    have f3 := zT_getp hTμ2 zp221_1 (i := p + 1) (z := z) (by omega) (by omega) (by omega)
    refine pm_blk hK zmm279 [] 7 57 [(2, 205), (0, p), (9, 0)] [(0, (-1)), (0, μ2 221 (p + 1))] μ2 [pm_in (p + 1), 0 ≤ p + 1 ∧ p + 1 < 96] rfl ⟨pm_in_mk (by omega) (by omega), ⟨by omega, by omega⟩, trivial⟩ ?_
    refine pm_icmp hK zmm279 .ne 5 62 rfl rfl (fun h1 => ?_) (fun h1 => ?_)
    · have h1 : μ2 221 (p + 1) ≠ ((-1) : Int) := h1
      obtain ⟨b1, ⟨b2, b3, b4, b5⟩, hm2⟩ := hA (by omega)
      have hm : zMs K S V n P (j + 4) μ2 := by rw [eμ2]; exact zMs_up hm2 (by decide)
      refine pm_blk hK zmm279 [] 7 71 [(2, 205), (0, p), (9, 0)] [] (pm_up μ2 221 (p + 2) 0) [pm_in (p + 2), sx_bit Wm 221 = true, 0 ≤ p + 2 ∧ p + 2 < 96] rfl ⟨pm_in_mk (by omega) (by omega), hb221, ⟨by omega, by omega⟩, trivial⟩ ?_
      obtain ⟨μ3, eμ3⟩ : ∃ μ', μ' = pm_up μ2 221 (p + 2) 0 := ⟨_, rfl⟩
      rw [← eμ3]
      have hTμ3 : zTJ φ μ3 := by rw [eμ3]; exact zT_upp hTμ2 zp221_2 rfl (i := p + 2) (z := z) (by omega) (by omega) (by omega) (by omega) (by omega)
      have hFp := hF
      have hF : zMf μ μ3 := by rw [eμ3]; exact zMf_221 hFp (by omega)
      have hxp := hx
      have hx : zMx T L K S V n P μ3 := by rw [eμ3]; exact zMx_up hxp (by decide) (by decide)
      have hmp := hm
      have hm : zMs K S V n P (j + 4) μ3 := by rw [eμ3]; exact zMs_up hmp (by decide)
      have hk := zMs_k hx hm
      obtain ⟨yc, eyc⟩ : ∃ y : Int, y = 0 := ⟨_, rfl⟩
      have w2 : μ3 221 (p + 2) = yc := by rw [eμ3, pm_up_eq, eyc]
      have w0 : μ3 221 p = xa := by rw [eμ3, pm_up_ne (by omega)]; exact w0
      have w1 : μ3 221 (p + 1) = xb := by rw [eμ3, pm_up_ne (by omega)]; exact w1
      have A : ∀ i, i < p → μ3 221 i = μ 221 i := fun i hi => Eq.trans (by rw [eμ3, pm_up_ne (by omega)]) (A i hi)
      refine pm_blk hK zmm279 [] 2 74 [(2, 205), (0, p), (9, 0)] [(0, 21), (2, 205)] μ3 [] rfl trivial ?_
      refine pm_call hK zmm279 (245, 0, 142, 1) zM142 (0, 0) [(2, 205), (0, 21)] [] rfl rfl rfl rfl ⟨by omega, by rw [zn142]; omega⟩ (zm_isWord hK (kw := 321) (j := j + 4) hx hm (by decide) (by decide) ⟨Nat.le_refl _, Nat.le_refl _⟩) (fun st3 μc3 hp3 => ?_)
      obtain ⟨rfl, x3, rfl, hw3⟩ := hp3
      have hw := hw3
      refine pm_if hK zmm279 .eq 14 91 rfl rfl (fun h2 => ?_) (fun h2 => ?_)
      · have h2 : x3 = (0 : Int) := h2
        have hno : K (j + 4) ≠ 321 := by omega
        have e6 : μ3 205 6 = μ 205 6 := hF.2.1 6 (by decide) (by decide) (by decide) (by decide) (by decide) (by decide) (by decide) (by decide) (by decide)
        have g4 : μ3 205 6 = μc2 205 6 := by rw [eμ3, pm_up_off (by decide), eμ2, pm_up_off (by decide)]
        have f5 := zT_get hTμ3 zs205_6 (i := 6) (by omega) (by omega)
        refine pm_blk hK zmm279 [] 7 101 [(2, 205), (0, p), (9, 0)] [(0, (μ3 205 6) - 1), (0, 0), (0, 20), (2, 205)] μ3 [pm_in ((μ3 205 6) - 1)] rfl ⟨pm_in_mk (by omega) (by omega), trivial⟩ ?_
        refine pm_call hK zmm279 (270, 0, 280, 3) zM280 (4, 88) [(2, 205), (0, 20), (0, 0), (0, (μ3 205 6) - 1)] [] rfl rfl rfl rfl ⟨by omega, by rw [zn280]; omega⟩ (zm_told hK (kw := 320) (j := j + 4) (j2 := j + 6) hx hm (by omega) (by decide) (by decide) (by omega) hTμ3 hb205 ⟨Nat.le_refl _, Nat.le_refl _⟩) (fun st4 μc4 hp4 => ?_)
        obtain ⟨x4, rfl, hTc4, hF4, hA4, hB4⟩ := hp4
        have hF := zMf_tr hF (zMf_r hF4)
        have hx := zMx_f hx (zMf_r hF4)
        have hA := hA4
        have hB := hB4
        have hxr4 : x4 = -1 ∨ (0 ≤ x4 ∧ x4 ≤ ((μ3 205 6) - 1)) := by
          by_cases hq : x4 = -1
          · exact Or.inl hq
          · obtain ⟨q1, ⟨-, -, q2, q3⟩, -⟩ := hA hq
            exact Or.inr ⟨by omega, by omega⟩
        obtain ⟨xc, exc⟩ : ∃ y, y = x4 := ⟨_, rfl⟩
        have A : ∀ i, i < p → μc4 221 i = μ 221 i := fun i hi => Eq.trans (by rw [hF4.1 221 (by decide)]) (A i hi)
        have w0 : μc4 221 p = xa := by rw [hF4.1 221 (by decide)]; exact w0
        have w1 : μc4 221 (p + 1) = xb := by rw [hF4.1 221 (by decide)]; exact w1
        refine pm_blk hK zmm279 [] 3 107 [(2, 205), (0, p), (0, x4)] [(0, (-1)), (0, x4)] μc4 [] rfl trivial ?_
        refine pm_icmp hK zmm279 .ne 5 112 rfl rfl (fun h3 => ?_) (fun h3 => ?_)
        · have h3 : x4 ≠ ((-1) : Int) := h3
          obtain ⟨c1, ⟨c2, c3, c4, c5⟩, hm⟩ := hA h3
          refine pm_blk hK zmm279 [] 9 123 [(2, 205), (0, p), (0, x4)] [] (pm_up μc4 221 (p + 2) (x4 + 1)) [pm_in (p + 2), pm_in (x4 + 1), sx_bit Wm 221 = true, 0 ≤ p + 2 ∧ p + 2 < 96] rfl ⟨pm_in_mk (by omega) (by omega), pm_in_mk (by omega) (by omega), hb221, ⟨by omega, by omega⟩, trivial⟩ ?_
          obtain ⟨μ4, eμ4⟩ : ∃ μ', μ' = pm_up μc4 221 (p + 2) (x4 + 1) := ⟨_, rfl⟩
          rw [← eμ4]
          have hTμ4 : zTJ φ μ4 := by rw [eμ4]; exact zT_upp hTc4 zp221_2 rfl (i := p + 2) (z := z) (by omega) (by omega) (by omega) (by omega) (by omega)
          have hFp := hF
          have hF : zMf μ μ4 := by rw [eμ4]; exact zMf_221 hFp (by omega)
          have hxp := hx
          have hx : zMx T L K S V n P μ4 := by rw [eμ4]; exact zMx_up hxp (by decide) (by decide)
          have hmp := hm
          have hm : zMs K S V n P (j + 6) μ4 := by rw [eμ4]; exact zMs_up hmp (by decide)
          obtain ⟨yc, eyc⟩ : ∃ y : Int, y = xc + 1 := ⟨_, rfl⟩
          have w2 : μ4 221 (p + 2) = yc := by rw [eμ4, pm_up_eq, eyc, exc]
          have w0 : μ4 221 p = xa := by rw [eμ4, pm_up_ne (by omega)]; exact w0
          have w1 : μ4 221 (p + 1) = xb := by rw [eμ4, pm_up_ne (by omega)]; exact w1
          have A : ∀ i, i < p → μ4 221 i = μ 221 i := fun i hi => Eq.trans (by rw [eμ4, pm_up_ne (by omega)]) (A i hi)
          refine pm_blk hK zmm279 [] 2 126 [(2, 205), (0, p), (0, x4)] [(0, 59), (2, 205)] μ4 [] rfl trivial ?_
          refine pm_call hK zmm279 (274, 0, 282, 1) zM282 (3, 65) [(2, 205), (0, 59)] [] rfl rfl rfl rfl ⟨by omega, by rw [zn282]; omega⟩ (zm_mark hK (c := 59) (j := j + 6) (j1 := j + 7) hx hm (by omega) (by decide) hTμ4 hb205 ⟨Nat.le_refl _, Nat.le_refl _⟩) (fun st5 μc5 hp5 => ?_)
          obtain ⟨x5, rfl, hTc5, hF5, hA5, hB5⟩ := hp5
          have hF := zMf_tr hF (zMf_r hF5)
          have hx := zMx_f hx (zMf_r hF5)
          have hA := hA5
          have hB := hB5
          have A : ∀ i, i < p → μc5 221 i = μ 221 i := fun i hi => Eq.trans (by rw [hF5.1 221 (by decide)]) (A i hi)
          have w0 : μc5 221 p = xa := by rw [hF5.1 221 (by decide)]; exact w0
          have w1 : μc5 221 (p + 1) = xb := by rw [hF5.1 221 (by decide)]; exact w1
          have w2 : μc5 221 (p + 2) = yc := by rw [hF5.1 221 (by decide)]; exact w2
          have hP0 : zPa1 K V (μ 205 6) (μ 205 7) (j + 1) 0 (j + 6) := zR1_4 ⟨a3, a4, a5⟩ (by omega) b2 ⟨b3, b4, b5⟩ c2 ⟨c3, c4, c5⟩ (by omega)
          by_cases h9 : x5 = -1
          · obtain ⟨f, ⟨f1, f2⟩, hff⟩ := hB h9
            exact pm_iret rfl rfl ⟨_, 1, j + 6, rfl, hTc5, hF, ⟨0, j + 6, hP0, Or.inr (Or.inl ⟨rfl, rfl, rfl, f2⟩)⟩, Or.inr ⟨h9, by decide, by rw [← f1]; exact hff⟩, A, fun h8 => absurd h9 h8⟩
          · obtain ⟨-, d2, d3⟩ := hA h9
            exact pm_iret rfl rfl ⟨_, 0, j + 7, rfl, hTc5, hF, ⟨0, j + 6, hP0, Or.inr (Or.inr ⟨rfl, rfl, by omega, d2⟩)⟩, Or.inl ⟨h9, rfl, d3⟩, A, fun _ => ⟨by rw [w0]; omega, by rw [w1]; omega, by rw [if_neg hno, w2]; omega⟩⟩
        · have h3 : x4 = ((-1) : Int) := h3
          refine pm_blk hK zmm279 [] 1 111 [(2, 205), (0, p), (0, x4)] [(0, (-1))] μc4 [] rfl trivial ?_
          obtain ⟨f, q, f1, hff⟩ := hB h3
          obtain ⟨hP9, nz9⟩ := zR1_2 (K := K) (V := V) (sh := μ 205 6) (cu := μ 205 7) (j := j) ⟨a3, a4, a5⟩ (by omega) b2 ⟨b3, b4, b5⟩ hno f1 (by omega)
          exact pm_iret rfl rfl ⟨_, f, q, rfl, hTc4, hF, ⟨f, q, hP9, Or.inl ⟨nz9, rfl, rfl⟩⟩, Or.inr ⟨rfl, nz9, hff⟩, A, fun h8 => absurd rfl h8⟩
      · have h2 : x3 ≠ (0 : Int) := h2
        refine pm_blk hK zmm279 [] 1 81 [(2, 205), (0, p), (9, 0)] [(2, 205)] μ3 [] rfl trivial ?_
        have hyes : K (j + 4) = 321 := by omega
        refine pm_call hK zmm279 (223, 0, 139, 0) zM139 (2, 44) [(2, 205)] [] rfl rfl rfl rfl ⟨by omega, by rw [zn139]; omega⟩ (zt_reads hK hTμ3 (zMs_sp hx hm (by omega)) hb205 ⟨Nat.le_refl _, Nat.le_refl _⟩) (fun st6 μc6 hp6 => ?_)
        obtain ⟨rfl, hTc6, hr6⟩ := hp6
        have hm := zMs_rd hx hm (by omega) hr6
        rw [show j + 4 + 1 = j + 5 by omega] at hm
        have hF := zMf_tr hF (zMf_fr hr6.1)
        have hx := zMx_f hx (zMf_fr hr6.1)
        have hk := zMs_k hx hm
        have A : ∀ i, i < p → μc6 221 i = μ 221 i := fun i hi => Eq.trans (by rw [hr6.1.1 221 (by decide)]) (A i hi)
        have w0 : μc6 221 p = xa := by rw [hr6.1.1 221 (by decide)]; exact w0
        have w1 : μc6 221 (p + 1) = xb := by rw [hr6.1.1 221 (by decide)]; exact w1
        have w2 : μc6 221 (p + 2) = yc := by rw [hr6.1.1 221 (by decide)]; exact w2
        refine pm_blk hK zmm279 [] 2 87 [(2, 205), (0, p), (9, 0)] [(0, 59), (2, 205)] μc6 [] rfl trivial ?_
        refine pm_call hK zmm279 (274, 0, 282, 1) zM282 (3, 65) [(2, 205), (0, 59)] [] rfl rfl rfl rfl ⟨by omega, by rw [zn282]; omega⟩ (zm_mark hK (c := 59) (j := j + 5) (j1 := j + 6) hx hm (by omega) (by decide) hTc6 hb205 ⟨Nat.le_refl _, Nat.le_refl _⟩) (fun st7 μc7 hp7 => ?_)
        obtain ⟨x7, rfl, hTc7, hF7, hA7, hB7⟩ := hp7
        have hF := zMf_tr hF (zMf_r hF7)
        have hx := zMx_f hx (zMf_r hF7)
        have hA := hA7
        have hB := hB7
        have A : ∀ i, i < p → μc7 221 i = μ 221 i := fun i hi => Eq.trans (by rw [hF7.1 221 (by decide)]) (A i hi)
        have w0 : μc7 221 p = xa := by rw [hF7.1 221 (by decide)]; exact w0
        have w1 : μc7 221 (p + 1) = xb := by rw [hF7.1 221 (by decide)]; exact w1
        have w2 : μc7 221 (p + 2) = yc := by rw [hF7.1 221 (by decide)]; exact w2
        have hP0 : zPa1 K V (μ 205 6) (μ 205 7) (j + 1) 0 (j + 5) := zR1_3 ⟨a3, a4, a5⟩ (by omega) b2 ⟨b3, b4, b5⟩ hyes
        by_cases h9 : x7 = -1
        · obtain ⟨f, ⟨f1, f2⟩, hff⟩ := hB h9
          exact pm_iret rfl rfl ⟨_, 1, j + 5, rfl, hTc7, hF, ⟨0, j + 5, hP0, Or.inr (Or.inl ⟨rfl, rfl, rfl, f2⟩)⟩, Or.inr ⟨h9, by decide, by rw [← f1]; exact hff⟩, A, fun h8 => absurd h9 h8⟩
        · obtain ⟨-, d2, d3⟩ := hA h9
          exact pm_iret rfl rfl ⟨_, 0, j + 6, rfl, hTc7, hF, ⟨0, j + 5, hP0, Or.inr (Or.inr ⟨rfl, rfl, by omega, d2⟩)⟩, Or.inl ⟨h9, rfl, d3⟩, A, fun _ => ⟨by rw [w0]; omega, by rw [w1]; omega, by rw [if_pos hyes, w2]; exact eyc⟩⟩
    · have h1 : μ2 221 (p + 1) = ((-1) : Int) := h1
      refine pm_blk hK zmm279 [] 1 61 [(2, 205), (0, p), (9, 0)] [(0, (-1))] μ2 [] rfl trivial ?_
      obtain ⟨f, q, f1, hff⟩ := hB (by omega)
      obtain ⟨hP9, nz9⟩ := zR1_1 (K := K) (V := V) (sh := μ 205 6) (cu := μ 205 7) (j := j) ⟨a3, a4, a5⟩ (by omega) f1
      exact pm_iret rfl rfl ⟨_, f, q, rfl, hTμ2, hF, ⟨f, q, hP9, Or.inl ⟨nz9, rfl, rfl⟩⟩, Or.inr ⟨rfl, nz9, (by rw [eμ2]; exact zFm_up hff (by decide))⟩, A, fun h8 => absurd rfl h8⟩
  · have h0 : μ1 221 p = ((-1) : Int) := h0
    refine pm_blk hK zmm279 [] 1 30 [(2, 205), (0, p), (9, 0)] [(0, (-1))] μ1 [] rfl trivial ?_
    obtain ⟨f, q, f1, hff⟩ := hB (by omega)
    obtain ⟨hP9, nz9⟩ := zR1_0 (K := K) (V := V) (sh := μ 205 6) (cu := μ 205 7) (j := j) f1 hkj (by omega)
    exact pm_iret rfl rfl ⟨_, f, q, rfl, hTμ1, hF, ⟨f, q, hP9, Or.inl ⟨nz9, rfl, rfl⟩⟩, Or.inr ⟨rfl, nz9, (by rw [eμ1]; exact zFm_up hff (by decide))⟩, A, fun h8 => absurd rfl h8⟩
set_option maxRecDepth 100000 in
theorem zm_roundl (hK : zKK ST)  {μ0 : pm_Mem} {sh cu : Int} {T : Int → Int} {L : Int} {K S V : Int → Int} {N : Int} {P : Nat → Int} (hsh0 : μ0 205 6 = sh) (hcu0 : μ0 205 7 = cu) (hb205 : sx_bit Wm 205 = true) (hb221 : sx_bit Wm 221 = true) (hbd : 6 ≤ bud.1 ∧ 134 ≤ bud.2.1) : ∀ (n : Nat) {i : Int} {μ : pm_Mem}, (16 - i).toNat = n → ∀ (hi : 0 ≤ i ∧ i ≤ 16) (hS : zQs (zLi0 (zPa1 K V sh cu) K 318) (zcT K) T L K S V N P μ0 i μ) (hT : zTJ φ μ), zW D Wm ST b0 l Sg zM141 bud (pm_X zM141 (fun st' μ' => ∃ x, st' = [(0, x)] ∧ zTJ φ μ' ∧ zQo (zLi0 (zPa1 K V sh cu) K 318) (zcT K) K S V μ0 x μ')) 2 [(2, 205), (0, i)] [] μ := by
  intro n
  induction n using Nat.strongRecOn with
  | ind n ih =>
    intro i μ hn hi hS hT
    obtain ⟨hF, hx, J, hch, hm, hce⟩ := id hS
    have hk := zMs_k hx hm
    obtain ⟨t1, t2, t3, t4⟩ := id hm
    obtain ⟨v1, v2, v3, v4, v5⟩ := id t3
    have hsh : μ 205 6 = sh := (hF.2.1 6 (by decide) (by decide) (by decide) (by decide) (by decide) (by decide) (by decide) (by decide) (by decide)).trans hsh0
    have hcu : μ 205 7 = cu := (hF.2.1 7 (by decide) (by decide) (by decide) (by decide) (by decide) (by decide) (by decide) (by decide) (by decide)).trans hcu0
    refine pm_blk hK zmm141 [] 2 5 [(2, 205), (0, i)] [(0, 18), (2, 205)] μ [] rfl trivial ?_
    refine pm_call hK zmm141 (245, 0, 142, 1) zM142 (0, 0) [(2, 205), (0, 18)] [] rfl rfl rfl rfl ⟨by omega, by rw [zn142]; omega⟩ (zm_isWord hK (kw := 318) (j := J i.toNat) hx hm (by decide) (by decide) ⟨Nat.le_refl _, Nat.le_refl _⟩) (fun st1 μc1 hp1 => ?_)
    obtain ⟨rfl, x1, rfl, hw1⟩ := hp1
    have hw := hw1
    refine pm_if hK zmm141 .eq 38 46 rfl rfl (fun h0 => ?_) (fun h0 => ?_)
    · have h0 : x1 = (0 : Int) := h0
      have hnk : K (J i.toNat) ≠ 318 := by omega
      have f1 := zT_get hT zs205_14 (i := 14) (by omega) (by omega)
      refine pm_blk hK zmm141 [] 2 50 [(2, 205), (0, i)] [(0, μ 205 14)] μ [] rfl trivial ?_
      refine pm_if hK zmm141 .ne 7 57 rfl rfl (fun h1 => ?_) (fun h1 => ?_)
      · have h1 : μ 205 14 ≠ (0 : Int) := h1
        refine pm_blk hK zmm141 [] 2 59 [(2, 205), (0, i)] [(0, 1), (2, 205)] μ [] rfl trivial ?_
        refine pm_call hK zmm141 (216, 0, 278, 1) zM278 (0, 0) [(2, 205), (0, 1)] [] rfl rfl rfl rfl ⟨by omega, by rw [zn278]; omega⟩ (zm_errs hK (j := J i.toNat) hx hm hT ⟨by omega, by omega⟩ hb205 ⟨Nat.le_refl _, Nat.le_refl _⟩) (fun st2 μc2 hp2 => ?_)
        obtain ⟨rfl, hTc2, hF2, hf2⟩ := hp2
        have hF := zMf_tr hF (zMf_r hF2)
        have hff := hf2
        first
        | exact pm_iret rfl rfl ⟨_, rfl, hTc2, zQo_e hi hF hch (by omega) hce⟩
        | exact pm_iret rfl rfl ⟨_, rfl, hTc2, zQo_f (f := 1) (q := J i.toNat) hi.1 hF hch (by omega) (by decide) (Or.inl ⟨rfl, rfl, hnk⟩) hff⟩
        | (exfalso; omega)
      · have h1 : μ 205 14 = (0 : Int) := h1
        refine pm_blk hK zmm141 [] 2 62 [(2, 205), (0, i)] [(0, i)] μ [] rfl trivial ?_
        first
        | exact pm_iret rfl rfl ⟨_, rfl, hT, zQo_e hi hF hch (by omega) hce⟩
        | exact pm_iret rfl rfl ⟨_, rfl, hT, zQo_f (f := 1) (q := J i.toNat) hi.1 hF hch (by omega) (by decide) (Or.inl ⟨rfl, rfl, hnk⟩) hff⟩
        | (exfalso; omega)
    · have h0 : x1 ≠ (0 : Int) := h0
      have hkw : K (J i.toNat) = 318 := by omega
      refine pm_blk hK zmm141 [] 2 14 [(2, 205), (0, i)] [(0, 16), (0, i)] μ [] rfl trivial ?_
      refine pm_icmp hK zmm141 .ne 9 23 rfl rfl (fun h2 => ?_) (fun h2 => ?_)
      · have h2 : i ≠ (16 : Int) := h2
        refine pm_blk hK zmm141 [] 6 30 [(2, 205), (0, i)] [(0, 48 + (3 * i)), (2, 205)] μ [pm_in (3 * i), pm_in (48 + (3 * i))] rfl ⟨pm_in_mk (by omega) (by omega), pm_in_mk (by omega) (by omega), trivial⟩ ?_
        refine pm_call hK zmm141 (277, 0, 279, 1) zM279 (5, 111) [(2, 205), (0, 48 + (3 * i))] [] rfl rfl rfl rfl ⟨by omega, by rw [zn279]; omega⟩ (zm_round hK (p := (48 + (3 * i))) (z := 16 + i) (j := J i.toNat) hx hm (by omega) ⟨by omega, by omega⟩ hkw hT hb205 hb221 ⟨Nat.le_refl _, Nat.le_refl _⟩) (fun st3 μc3 hp3 => ?_)
        obtain ⟨x3, ff, qq, rfl, hTc3, hF3, hLL, hQ, hAA, hDD⟩ := hp3
        rw [hsh, hcu] at hLL
        have hx := zMx_f hx hF3
        have hF := zMf_tr hF hF3
        refine pm_blk hK zmm141 [] 1 34 [(2, 205), (0, i)] [(0, (-1)), (0, x3)] μc3 [] rfl trivial ?_
        refine pm_icmp hK zmm141 .ne 5 39 rfl rfl (fun h3 => ?_) (fun h3 => ?_)
        · have h3 : x3 ≠ ((-1) : Int) := h3
          refine pm_blk hK zmm141 [] 5 2 [(2, 205), (0, i + 1)] [] μc3 [pm_in (i + 1)] rfl ⟨pm_in_mk (by omega) (by omega), trivial⟩ ?_
          rcases hQ with ⟨a1, a2, a3⟩ | ⟨a1, -⟩
          · subst a2
            exact ih _ (by omega) rfl ⟨by omega, by omega⟩ (zQs_ok hi.1 hF hx hch (Or.inr (Or.inr ⟨hkw, by omega, hLL⟩)) a3 (zcT_add (i := i) (by omega) hce hAA (hDD a1))) hTc3
          · exact absurd a1 h3
        · have h3 : x3 = ((-1) : Int) := h3
          refine pm_blk hK zmm141 [] 1 38 [(2, 205), (0, i)] [(0, (-1))] μc3 [] rfl trivial ?_
          rcases hQ with ⟨a1, -⟩ | ⟨a1, a2, a3⟩
          · exact absurd h3 a1
          · exact pm_iret rfl rfl ⟨_, rfl, hTc3, zQo_f hi.1 hF hch (by omega) a2 (Or.inr (Or.inr ⟨hkw, by omega, hLL⟩)) a3⟩
      · have h2 : i = (16 : Int) := h2
        refine pm_blk hK zmm141 [] 2 19 [(2, 205), (0, i)] [(0, 3), (2, 205)] μ [] rfl trivial ?_
        refine pm_call hK zmm141 (216, 0, 278, 1) zM278 (0, 0) [(2, 205), (0, 3)] [] rfl rfl rfl rfl ⟨by omega, by rw [zn278]; omega⟩ (zm_errs hK (j := J i.toNat) hx hm hT ⟨by omega, by omega⟩ hb205 ⟨Nat.le_refl _, Nat.le_refl _⟩) (fun st4 μc4 hp4 => ?_)
        obtain ⟨rfl, hTc4, hF4, hf4⟩ := hp4
        have hF := zMf_tr hF (zMf_r hF4)
        have hff := hf4
        exact pm_iret rfl rfl ⟨_, rfl, hTc4, zQo_f (f := 3) (q := J i.toNat) hi.1 hF hch (by omega) (by decide) (Or.inr (Or.inl ⟨rfl, rfl, hkw, by omega⟩)) hff⟩
set_option maxRecDepth 100000 in
theorem zm_rounds (hK : zKK ST) {sh cu : Int} {T : Int → Int} {L : Int} {K S V : Int → Int} {N : Int} {P : Nat → Int} (hx : zMx T L K S V N P μ) (h : zMs K S V N P 0 μ) (hsh : μ 205 6 = sh) (hcu : μ 205 7 = cu) (hT : zTJ φ μ) (hb205 : sx_bit Wm 205 = true) (hb221 : sx_bit Wm 221 = true) (hbd : 6 ≤ bud.1 ∧ 134 ≤ bud.2.1) : zC D Wm ST b0 l Sg zM141 bud [(2, 205)] μ (fun st' μ' => ∃ x, st' = [(0, x)] ∧ zTJ φ μ' ∧ zQo (zLi0 (zPa1 K V sh cu) K 318) (zcT K) K S V μ x μ') := by
  refine pm_blk hK zmm141 [] 2 2 [(2, 205), (0, 0)] [] μ [] rfl trivial ?_
  exact zm_roundl hK (μ0 := μ) hsh hcu hb205 hb221 hbd _ rfl ⟨by omega, by omega⟩ ⟨zMf_refl, hx, fun _ => 0, ⟨rfl, fun t ht => absurd ht (by omega)⟩, h, fun s hs => absurd hs (by omega)⟩ hT
end ZHW
