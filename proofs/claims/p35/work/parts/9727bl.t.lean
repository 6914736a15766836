/-! CALENDAR: the reference; walks printed by program (wip/p30/pmgen.py) and filled by hand -/
section ZHW
variable {φ : Option pm_Mem}
variable {D : va_G} {Wm : Nat} {ST : List (String × String × String × Nat)} {b0 : sx_B} {l : Launch} {Sg : Nat → Option Nat} {bud : sx_Bu} {μ : pm_Mem} {B0 : Nat → Prop} {J : (Nat → Option Nat) → Heap → Prop}
set_option maxRecDepth 100000 in
theorem zm_kod (hK : zKK ST) {T : Int → Int} {L : Int} {K S V : Int → Int} {n j : Int} {P : Nat → Int} (hx : zMx T L K S V n P μ) (h : zMs K S V n P j μ)  (hbd : 1 ≤ bud.1 ∧ 21 ≤ bud.2.1) : zC D Wm ST b0 l Sg zM285 bud [(2, 205)] μ (fun st' μ' => μ = μ' ∧ ∃ x, st' = [(0, x)] ∧ ((x = 0 ∧ K j = 323) ∨ (x = 1 ∧ K j = 306) ∨ (x = 2 ∧ K j = 324) ∨ (x = 3 ∧ K j = 325) ∨ (x = -1 ∧ K j ≠ 323 ∧ K j ≠ 306 ∧ K j ≠ 324 ∧ K j ≠ 325))) := by
  have hm := h
  refine pm_blk hK zmm285 [] 2 3 [(2, 205)] [(0, 23), (2, 205)] μ [] rfl trivial ?_
  refine pm_call hK zmm285 (245, 0, 142, 1) zM142 (0, 0) [(2, 205), (0, 23)] [] rfl rfl rfl rfl ⟨by omega, by rw [zn142]; omega⟩ (zm_isWord hK (kw := 323) (j := j) hx hm (by decide) (by decide) ⟨Nat.le_refl _, Nat.le_refl _⟩) (fun st1 μc1 hp1 => ?_)
  obtain ⟨rfl, x1, rfl, hw1⟩ := hp1
  have hw := hw1
  refine pm_if hK zmm285 .eq 5 11 rfl rfl (fun h0 => ?_) (fun h0 => ?_)
  · have h0 : x1 = (0 : Int) := h0
    refine pm_blk hK zmm285 [] 2 14 [(2, 205)] [(0, 10), (2, 205)] μ [] rfl trivial ?_
    refine pm_call hK zmm285 (245, 0, 142, 1) zM142 (0, 0) [(2, 205), (0, 10)] [] rfl rfl rfl rfl ⟨by omega, by rw [zn142]; omega⟩ (zm_isWord hK (kw := 306) (j := j) hx hm (by decide) (by decide) ⟨Nat.le_refl _, Nat.le_refl _⟩) (fun st2 μc2 hp2 => ?_)
    obtain ⟨rfl, x2, rfl, hw2⟩ := hp2
    have hw := hw2
    refine pm_if hK zmm285 .eq 5 22 rfl rfl (fun h1 => ?_) (fun h1 => ?_)
    · have h1 : x2 = (0 : Int) := h1
      refine pm_blk hK zmm285 [] 2 25 [(2, 205)] [(0, 24), (2, 205)] μ [] rfl trivial ?_
      refine pm_call hK zmm285 (245, 0, 142, 1) zM142 (0, 0) [(2, 205), (0, 24)] [] rfl rfl rfl rfl ⟨by omega, by rw [zn142]; omega⟩ (zm_isWord hK (kw := 324) (j := j) hx hm (by decide) (by decide) ⟨Nat.le_refl _, Nat.le_refl _⟩) (fun st3 μc3 hp3 => ?_)
      obtain ⟨rfl, x3, rfl, hw3⟩ := hp3
      have hw := hw3
      refine pm_if hK zmm285 .eq 7 35 rfl rfl (fun h2 => ?_) (fun h2 => ?_)
      · have h2 : x3 = (0 : Int) := h2
        refine pm_blk hK zmm285 [] 2 38 [(2, 205)] [(0, 25), (2, 205)] μ [] rfl trivial ?_
        refine pm_call hK zmm285 (245, 0, 142, 1) zM142 (0, 0) [(2, 205), (0, 25)] [] rfl rfl rfl rfl ⟨by omega, by rw [zn142]; omega⟩ (zm_isWord hK (kw := 325) (j := j) hx hm (by decide) (by decide) ⟨Nat.le_refl _, Nat.le_refl _⟩) (fun st4 μc4 hp4 => ?_)
        obtain ⟨rfl, x4, rfl, hw4⟩ := hp4
        have hw := hw4
        refine pm_if hK zmm285 .eq 7 48 rfl rfl (fun h3 => ?_) (fun h3 => ?_)
        · have h3 : x4 = (0 : Int) := h3
          refine pm_blk hK zmm285 [] 1 49 [(2, 205)] [(0, (-1))] μ [] rfl trivial ?_
          exact pm_iret rfl rfl ⟨rfl, _, rfl, by omega⟩
        · have h3 : x4 ≠ (0 : Int) := h3
          refine pm_blk hK zmm285 [] 2 49 [(2, 205)] [(0, 3)] μ [] rfl trivial ?_
          exact pm_iret rfl rfl ⟨rfl, _, rfl, by omega⟩
      · have h2 : x3 ≠ (0 : Int) := h2
        refine pm_blk hK zmm285 [] 2 49 [(2, 205)] [(0, 2)] μ [] rfl trivial ?_
        exact pm_iret rfl rfl ⟨rfl, _, rfl, by omega⟩
    · have h1 : x2 ≠ (0 : Int) := h1
      refine pm_blk hK zmm285 [] 1 21 [(2, 205)] [(0, 1)] μ [] rfl trivial ?_
      exact pm_iret rfl rfl ⟨rfl, _, rfl, by omega⟩
  · have h0 : x1 ≠ (0 : Int) := h0
    refine pm_blk hK zmm285 [] 1 10 [(2, 205)] [(0, 0)] μ [] rfl trivial ?_
    exact pm_iret rfl rfl ⟨rfl, _, rfl, by omega⟩
set_option maxRecDepth 100000 in
theorem zm_deed (hK : zKK ST) {p : Int} {z : Int} {T : Int → Int} {L : Int} {K S V : Int → Int} {n j : Int} {P : Nat → Int} (hx : zMx T L K S V n P μ) (h : zMs K S V n P j μ) (hp : p = 4 * z) (hz : 16 ≤ z ∧ z < 32) (hkj : K j = 322) (hT : zTJ φ μ) (hb205 : sx_bit Wm 205 = true) (hb222 : sx_bit Wm 222 = true) (hbd : 5 ≤ bud.1 ∧ 111 ≤ bud.2.1) : zC D Wm ST b0 l Sg zM284 bud [(2, 205), (0, p)] μ (fun st' μ' => ∃ x f q, st' = [(0, x)] ∧ zTJ φ μ' ∧ zMf μ μ' ∧ (∃ g p, zPa2 K V (μ 205 6) (μ 205 7) (j + 1) g p ∧ ((g ≠ 0 ∧ f = g ∧ q = p) ∨ (g = 0 ∧ f = 1 ∧ q = p ∧ K p ≠ 59) ∨ (g = 0 ∧ f = 0 ∧ q = p + 1 ∧ K p = 59))) ∧ ((x ≠ -1 ∧ f = 0 ∧ zMs K S V n P q μ') ∨ (x = -1 ∧ f ≠ 0 ∧ zFm S f q μ')) ∧ (∀ i, i < p → μ' 222 i = μ 222 i) ∧ (x ≠ -1 → zDeed (μ' 222 (p + 1)) (μ' 222 (p + 2)) (μ' 222 (p + 3)))) := by
  have hm := h
  have hF : zMf μ μ := zMf_refl
  have hk := zMs_k hx hm
  have f6 := zT_get hT zs205_6 (i := 6) (by omega) (by omega)
  have f7 := zT_get hT zs205_7 (i := 7) (by omega) (by omega)
  have e11 : j + 1 + 1 = j + 2 := by omega
  have e12 : j + 1 + 2 = j + 3 := by omega
  have e13 : j + 1 + 3 = j + 4 := by omega
  have e14 : j + 1 + 4 = j + 5 := by omega
  have e15 : j + 1 + 5 = j + 6 := by omega
  have e16 : j + 1 + 6 = j + 7 := by omega
  have A : ∀ i, i < p → μ 222 i = μ 222 i := fun _ _ => rfl
  refine pm_blk hK zmm284 [] 7 12 [(2, 205), (0, p), (9, 0)] [(0, 999), (0, 0), (0, 22), (2, 205), (0, p), (2, 222)] μ [] rfl trivial ?_
  refine pm_call hK zmm284 (270, 0, 280, 3) zM280 (4, 88) [(2, 205), (0, 22), (0, 0), (0, 999)] [(0, p), (2, 222)] rfl rfl rfl rfl ⟨by omega, by rw [zn280]; omega⟩ (zm_told hK (kw := 322) (j := j) (j2 := j + 2) hx hm (by omega) (by decide) (by decide) (by omega) hT hb205 ⟨Nat.le_refl _, Nat.le_refl _⟩) (fun st1 μc1 hp1 => ?_)
  obtain ⟨x1, rfl, hTc1, hF1, hA1, hB1⟩ := hp1
  have hF := zMf_tr hF (zMf_r hF1)
  have hx := zMx_f hx (zMf_r hF1)
  have hA := hA1
  have hB := hB1
  have hxr1 : x1 = -1 ∨ (0 ≤ x1 ∧ x1 ≤ 999) := by
    by_cases hq : x1 = -1
    · exact Or.inl hq
    · obtain ⟨q1, ⟨-, -, q2, q3⟩, -⟩ := hA hq
      exact Or.inr ⟨by omega, by omega⟩
  obtain ⟨xa, exa⟩ : ∃ y, y = x1 := ⟨_, rfl⟩
  have A : ∀ i, i < p → μc1 222 i = μ 222 i := fun i hi => by rw [hF1.1 222 (by decide)]; exact A i hi
  refine pm_blk hK zmm284 [] 1 16 [(2, 205), (0, p), (9, 0)] [] (pm_up μc1 222 p x1) [sx_bit Wm 222 = true, 0 ≤ p ∧ p < 128] rfl ⟨hb222, ⟨by omega, by omega⟩, trivial⟩ ?_
  obtain ⟨μ1, eμ1⟩ : ∃ μ', μ' = pm_up μc1 222 p x1 := ⟨_, rfl⟩
  rw [← eμ1]
  have hTμ1 : zTJ φ μ1 := by rw [eμ1]; exact zT_deed hTc1 zp222_0 (z := z) (by omega) (by omega) (by omega) (by omega) (by omega)
  have hFp := hF
  have hF : zMf μ μ1 := by rw [eμ1]; exact zMf_222 hFp (by omega)
  have hxp := hx
  have hx : zMx T L K S V n P μ1 := by rw [eμ1]; exact zMx_up hxp (by decide) (by decide)
  have v1 : μ1 222 (p) = xa := by rw [eμ1, pm_up_eq, exa]
  have A : ∀ i, i < p → μ1 222 i = μ 222 i := fun i hi => by rw [eμ1, pm_up_ne (by omega)]; exact A i hi
  have f1 := zT_getp hTμ1 zp222_0 (i := p) (z := z) (by omega) (by omega) (by omega)
  refine pm_blk hK zmm284 [] 5 23 [(2, 205), (0, p), (9, 0)] [(0, (-1)), (0, μ1 222 p)] μ1 [0 ≤ p ∧ p < 128] rfl ⟨⟨by omega, by omega⟩, trivial⟩ ?_
  refine pm_icmp hK zmm284 .ne 5 28 rfl rfl (fun h0 => ?_) (fun h0 => ?_)
  · have h0 : μ1 222 p ≠ ((-1) : Int) := h0
    obtain ⟨a1, ⟨a2, a3, a4, a5⟩, hm1⟩ := hA (by omega)
    have hm : zMs K S V n P (j + 2) μ1 := by rw [eμ1]; exact zMs_up hm1 (by decide)
    have hk := zMs_k hx hm
    refine pm_blk hK zmm284 [] 1 29 [(2, 205), (0, p), (9, 0)] [(2, 205)] μ1 [] rfl trivial ?_
    refine pm_call hK zmm284 (280, 0, 285, 0) zM285 (1, 21) [(2, 205)] [] rfl rfl rfl rfl ⟨by omega, by rw [zn285]; omega⟩ (zm_kod hK (j := j + 2) hx hm ⟨Nat.le_refl _, Nat.le_refl _⟩) (fun st2 μc2 hp2 => ?_)
    obtain ⟨rfl, x2, rfl, hkd⟩ := hp2
    obtain ⟨xk, exk⟩ : ∃ y, y = x2 := ⟨_, rfl⟩
    refine pm_blk hK zmm284 [] 3 35 [(2, 205), (0, p), (0, x2)] [(0, (-1)), (0, x2)] μ1 [] rfl trivial ?_
    refine pm_icmp hK zmm284 .ne 9 44 rfl rfl (fun h1 => ?_) (fun h1 => ?_)
    · have h1 : x2 ≠ ((-1) : Int) := h1
      refine pm_blk hK zmm284 [] 1 45 [(2, 205), (0, p), (0, x2)] [(2, 205)] μ1 [] rfl trivial ?_
      refine pm_call hK zmm284 (223, 0, 139, 0) zM139 (2, 44) [(2, 205)] [] rfl rfl rfl rfl ⟨by omega, by rw [zn139]; omega⟩ (zt_reads hK hTμ1 (zMs_sp hx hm (by omega)) hb205 ⟨Nat.le_refl _, Nat.le_refl _⟩) (fun st3 μc3 hp3 => ?_)
      obtain ⟨rfl, hTc3, hr3⟩ := hp3
      have hm := zMs_rd hx hm (by omega) hr3
      rw [show j + 2 + 1 = j + 3 by omega] at hm
      have hF := zMf_tr hF (zMf_fr hr3.1)
      have hx := zMx_f hx (zMf_fr hr3.1)
      have hk := zMs_k hx hm
      have A : ∀ i, i < p → μc3 222 i = μ 222 i := fun i hi => by rw [hr3.1.1 222 (by decide)]; exact A i hi
      refine pm_blk hK zmm284 [] 7 57 [(2, 205), (0, p), (0, x2)] [] (pm_up μc3 222 (p + 1) x2) [pm_in (p + 1), sx_bit Wm 222 = true, 0 ≤ p + 1 ∧ p + 1 < 128] rfl ⟨pm_in_mk (by omega) (by omega), hb222, ⟨by omega, by omega⟩, trivial⟩ ?_
      obtain ⟨μ2, eμ2⟩ : ∃ μ', μ' = pm_up μc3 222 (p + 1) x2 := ⟨_, rfl⟩
      rw [← eμ2]
      have hTμ2 : zTJ φ μ2 := by rw [eμ2]; exact zT_deed hTc3 zp222_1 (z := z) (by omega) (by omega) (by omega) (by omega) (by omega)
      have hFp := hF
      have hF : zMf μ μ2 := by rw [eμ2]; exact zMf_222 hFp (by omega)
      have hxp := hx
      have hx : zMx T L K S V n P μ2 := by rw [eμ2]; exact zMx_up hxp (by decide) (by decide)
      have hmp := hm
      have hm : zMs K S V n P (j + 3) μ2 := by rw [eμ2]; exact zMs_up hmp (by decide)
      have e6 : μ2 205 6 = μ 205 6 := hF.2.1 6 (by decide) (by decide) (by decide) (by decide) (by decide) (by decide) (by decide) (by decide) (by decide)
      have e7 : μ2 205 7 = μ 205 7 := hF.2.1 7 (by decide) (by decide) (by decide) (by decide) (by decide) (by decide) (by decide) (by decide) (by decide)
      have w1 : μ2 222 (p + 1) = xk := by rw [eμ2, pm_up_eq, exk]
      have A : ∀ i, i < p → μ2 222 i = μ 222 i := fun i hi => by rw [eμ2, pm_up_ne (by omega)]; exact A i hi
      refine pm_blk hK zmm284 [] 9 68 [(2, 205), (0, p), (0, x2)] [(0, 2), (0, x2), (0, 0), (2, 205), (0, p + 2), (2, 222)] μ2 [pm_in (p + 2)] rfl ⟨pm_in_mk (by omega) (by omega), trivial⟩ ?_
      refine pm_icmp hK zmm284 .ne 10 78 rfl rfl (fun h2 => ?_) (fun h2 => ?_)
      · have h2 : x2 ≠ (2 : Int) := h2
        have g2 : μ2 205 6 = μc3 205 6 := by rw [eμ2, pm_up_off (by decide)]
        have f3 := zT_get hTμ2 zs205_6 (i := 6) (by omega) (by omega)
        refine pm_blk hK zmm284 [] 4 84 [(2, 205), (0, p), (0, x2)] [(0, (μ2 205 6) - 1), (0, 0), (2, 205), (0, p + 2), (2, 222)] μ2 [pm_in ((μ2 205 6) - 1)] rfl ⟨pm_in_mk (by omega) (by omega), trivial⟩ ?_
        refine pm_call hK zmm284 (267, 0, 281, 2) zM281 (3, 65) [(2, 205), (0, 0), (0, (μ2 205 6) - 1)] [(0, p + 2), (2, 222)] rfl rfl rfl rfl ⟨by omega, by rw [zn281]; omega⟩ (zm_num hK (lo := 0) (hi := ((μ2 205 6) - 1)) (j := j + 3) (j1 := j + 4) hx hm (by omega) (by omega) hTμ2 hb205 ⟨Nat.le_refl _, Nat.le_refl _⟩) (fun st4 μc4 hp4 => ?_)
        obtain ⟨x4, rfl, hTc4, hF4, hA4, hB4⟩ := hp4
        have hF := zMf_tr hF (zMf_r hF4)
        have hx := zMx_f hx (zMf_r hF4)
        have hA := hA4
        have hB := hB4
        have hxr4 : x4 = -1 ∨ (0 ≤ x4 ∧ x4 ≤ ((μ2 205 6) - 1)) := by
          by_cases hq : x4 = -1
          · exact Or.inl hq
          · obtain ⟨q1, ⟨-, q2, q3⟩, -⟩ := hA hq
            exact Or.inr ⟨by omega, by omega⟩
        obtain ⟨xb, exb⟩ : ∃ y, y = x4 := ⟨_, rfl⟩
        have A : ∀ i, i < p → μc4 222 i = μ 222 i := fun i hi => by rw [hF4.1 222 (by decide)]; exact A i hi
        have w1 : μc4 222 (p + 1) = xk := by rw [hF4.1 222 (by decide)]; exact w1
        refine pm_blk hK zmm284 [] 1 88 [(2, 205), (0, p), (0, x2)] [] (pm_up μc4 222 (p + 2) x4) [sx_bit Wm 222 = true, 0 ≤ p + 2 ∧ p + 2 < 128] rfl ⟨hb222, ⟨by omega, by omega⟩, trivial⟩ ?_
        obtain ⟨μ3, eμ3⟩ : ∃ μ', μ' = pm_up μc4 222 (p + 2) x4 := ⟨_, rfl⟩
        rw [← eμ3]
        have hTμ3 : zTJ φ μ3 := by rw [eμ3]; exact zT_deed hTc4 zp222_2 (z := z) (by omega) (by omega) (by omega) (by omega) (by omega)
        have hFp := hF
        have hF : zMf μ μ3 := by rw [eμ3]; exact zMf_222 hFp (by omega)
        have hxp := hx
        have hx : zMx T L K S V n P μ3 := by rw [eμ3]; exact zMx_up hxp (by decide) (by decide)
        have v2 : μ3 222 (p + 2) = xb := by rw [eμ3, pm_up_eq, exb]
        have w2 : μ3 222 (p + 2) = xb := by rw [eμ3, pm_up_eq, exb]
        have w1 : μ3 222 (p + 1) = xk := by rw [eμ3, pm_up_ne (by omega)]; exact w1
        have A : ∀ i, i < p → μ3 222 i = μ 222 i := fun i hi => by rw [eμ3, pm_up_ne (by omega)]; exact A i hi
        have f4 := zT_getp hTμ3 zp222_2 (i := p + 2) (z := z) (by omega) (by omega) (by omega)
        refine pm_blk hK zmm284 [] 7 97 [(2, 205), (0, p), (0, x2)] [(0, (-1)), (0, μ3 222 (p + 2))] μ3 [pm_in (p + 2), 0 ≤ p + 2 ∧ p + 2 < 128] rfl ⟨pm_in_mk (by omega) (by omega), ⟨by omega, by omega⟩, trivial⟩ ?_
        refine pm_icmp hK zmm284 .ne 5 102 rfl rfl (fun h3 => ?_) (fun h3 => ?_)
        · have h3 : μ3 222 (p + 2) ≠ ((-1) : Int) := h3
          obtain ⟨b1, ⟨b2, b3, b4⟩, hm2⟩ := hA (by omega)
          have hm : zMs K S V n P (j + 4) μ3 := by rw [eμ3]; exact zMs_up hm2 (by decide)
          have e6 : μ3 205 6 = μ 205 6 := hF.2.1 6 (by decide) (by decide) (by decide) (by decide) (by decide) (by decide) (by decide) (by decide) (by decide)
          have e7 : μ3 205 7 = μ 205 7 := hF.2.1 7 (by decide) (by decide) (by decide) (by decide) (by decide) (by decide) (by decide) (by decide) (by decide)
          refine pm_blk hK zmm284 [] 7 111 [(2, 205), (0, p), (0, x2)] [(0, 3), (0, x2), (0, p + 3), (2, 222)] μ3 [pm_in (p + 3)] rfl ⟨pm_in_mk (by omega) (by omega), trivial⟩ ?_
          refine pm_icmp hK zmm284 .ne 17 128 rfl rfl (fun h4 => ?_) (fun h4 => ?_)
          · have h4 : x2 ≠ (3 : Int) := h4
            refine pm_blk hK zmm284 [] 2 130 [(2, 205), (0, p), (0, x2)] [(0, x2), (2, 205), (0, p + 3), (2, 222)] μ3 [] rfl trivial ?_
            refine pm_if hK zmm284 .ne 7 137 rfl rfl (fun h5 => ?_) (fun h5 => ?_)
            · have h5 : x2 ≠ (0 : Int) := h5
              refine pm_blk hK zmm284 [] 3 140 [(2, 205), (0, p), (0, x2)] [(0, 2), (0, x2), (0, 1), (2, 205), (0, p + 3), (2, 222)] μ3 [] rfl trivial ?_
              refine pm_icmp hK zmm284 .ne 9 149 rfl rfl (fun h6 => ?_) (fun h6 => ?_)
              · have h6 : x2 ≠ (2 : Int) := h6
                refine pm_blk hK zmm284 [] 1 151 [(2, 205), (0, p), (0, x2)] [(0, 99), (0, 1), (2, 205), (0, p + 3), (2, 222)] μ3 [] rfl trivial ?_
                refine pm_call hK zmm284 (267, 0, 281, 2) zM281 (3, 65) [(2, 205), (0, 1), (0, 99)] [(0, p + 3), (2, 222)] rfl rfl rfl rfl ⟨by omega, by rw [zn281]; omega⟩ (zm_num hK (lo := 1) (hi := 99) (j := j + 4) (j1 := j + 5) hx hm (by omega) (by omega) hTμ3 hb205 ⟨Nat.le_refl _, Nat.le_refl _⟩) (fun st5 μc5 hp5 => ?_)
                obtain ⟨x5, rfl, hTc5, hF5, hA5, hB5⟩ := hp5
                have hF := zMf_tr hF (zMf_r hF5)
                have hx := zMx_f hx (zMf_r hF5)
                have hA := hA5
                have hB := hB5
                have hxr5 : x5 = -1 ∨ (1 ≤ x5 ∧ x5 ≤ 99) := by
                  by_cases hq : x5 = -1
                  · exact Or.inl hq
                  · obtain ⟨q1, ⟨-, q2, q3⟩, -⟩ := hA hq
                    exact Or.inr ⟨by omega, by omega⟩
                obtain ⟨xc, exc⟩ : ∃ y, y = x5 := ⟨_, rfl⟩
                have A : ∀ i, i < p → μc5 222 i = μ 222 i := fun i hi => by rw [hF5.1 222 (by decide)]; exact A i hi
                have w1 : μc5 222 (p + 1) = xk := by rw [hF5.1 222 (by decide)]; exact w1
                have w2 : μc5 222 (p + 2) = xb := by rw [hF5.1 222 (by decide)]; exact w2
                refine pm_blk hK zmm284 [] 1 155 [(2, 205), (0, p), (0, x2)] [] (pm_up μc5 222 (p + 3) x5) [sx_bit Wm 222 = true, 0 ≤ p + 3 ∧ p + 3 < 128] rfl ⟨hb222, ⟨by omega, by omega⟩, trivial⟩ ?_
                obtain ⟨μ4, eμ4⟩ : ∃ μ', μ' = pm_up μc5 222 (p + 3) x5 := ⟨_, rfl⟩
                rw [← eμ4]
                have hTμ4 : zTJ φ μ4 := by rw [eμ4]; exact zT_deed hTc5 zp222_3 (z := z) (by omega) (by omega) (by omega) (by omega) (by omega)
                have hFp := hF
                have hF : zMf μ μ4 := by rw [eμ4]; exact zMf_222 hFp (by omega)
                have hxp := hx
                have hx : zMx T L K S V n P μ4 := by rw [eμ4]; exact zMx_up hxp (by decide) (by decide)
                have v3 : μ4 222 (p + 3) = xc := by rw [eμ4, pm_up_eq, exc]
                have w3 : μ4 222 (p + 3) = xc := by rw [eμ4, pm_up_eq, exc]
                have w1 : μ4 222 (p + 1) = xk := by rw [eμ4, pm_up_ne (by omega)]; exact w1
                have w2 : μ4 222 (p + 2) = xb := by rw [eμ4, pm_up_ne (by omega)]; exact w2
                have A : ∀ i, i < p → μ4 222 i = μ 222 i := fun i hi => by rw [eμ4, pm_up_ne (by omega)]; exact A i hi
                have f5 := zT_getp hTμ4 zp222_3 (i := p + 3) (z := z) (by omega) (by omega) (by omega)
                refine pm_blk hK zmm284 [] 7 164 [(2, 205), (0, p), (0, x2)] [(0, (-1)), (0, μ4 222 (p + 3))] μ4 [pm_in (p + 3), 0 ≤ p + 3 ∧ p + 3 < 128] rfl ⟨pm_in_mk (by omega) (by omega), ⟨by omega, by omega⟩, trivial⟩ ?_
                refine pm_icmp hK zmm284 .ne 7 171 rfl rfl (fun h7 => ?_) (fun h7 => ?_)
                · have h7 : μ4 222 (p + 3) ≠ ((-1) : Int) := h7
                  obtain ⟨c1, ⟨c2, c3, c4⟩, hm3⟩ := hA (by omega)
                  have hm : zMs K S V n P (j + 5) μ4 := by rw [eμ4]; exact zMs_up hm3 (by decide)
                  refine pm_blk hK zmm284 [] 2 174 [(2, 205), (0, p), (0, x2)] [(0, 59), (2, 205)] μ4 [] rfl trivial ?_
                  refine pm_call hK zmm284 (274, 0, 282, 1) zM282 (3, 65) [(2, 205), (0, 59)] [] rfl rfl rfl rfl ⟨by omega, by rw [zn282]; omega⟩ (zm_mark hK (c := 59) (j := j + 5) (j1 := j + 6) hx hm (by omega) (by decide) hTμ4 hb205 ⟨Nat.le_refl _, Nat.le_refl _⟩) (fun st6 μc6 hp6 => ?_)
                  obtain ⟨x6, rfl, hTc6, hF6, hA6, hB6⟩ := hp6
                  have hF := zMf_tr hF (zMf_r hF6)
                  have hx := zMx_f hx (zMf_r hF6)
                  have hA := hA6
                  have hB := hB6
                  have A : ∀ i, i < p → μc6 222 i = μ 222 i := fun i hi => by rw [hF6.1 222 (by decide)]; exact A i hi
                  have w1 : μc6 222 (p + 1) = xk := by rw [hF6.1 222 (by decide)]; exact w1
                  have w2 : μc6 222 (p + 2) = xb := by rw [hF6.1 222 (by decide)]; exact w2
                  have w3 : μc6 222 (p + 3) = xc := by rw [hF6.1 222 (by decide)]; exact w3
                  first
                  | (exfalso; omega)
                  | (obtain ⟨f, f1, hff⟩ := hB (by omega)
                     obtain ⟨hP9, nz9⟩ := zR2_3 (K := K) (V := V) (sh := μ 205 6) (cu := μ 205 7) (j := j) ⟨a3, a4, a5⟩ (by omega) (by omega) ⟨b2, b3, b4⟩ (by omega) f1
                     exact pm_iret rfl rfl ⟨_, f, (j + 4), rfl, hTc6, hF, ⟨f, (j + 4), hP9, Or.inl ⟨nz9, rfl, rfl⟩⟩, Or.inr ⟨rfl, nz9, (by rw [eμc6]; exact zFm_up hff (by decide))⟩, A, fun h9 => absurd rfl h9⟩)
                  | (have hP0 : zPa2 K V (μ 205 6) (μ 205 7) (j + 1) 0 (j + 5) := zR2_4 ⟨a3, a4, a5⟩ (by omega) (by omega) ⟨b2, b3, b4⟩ (by omega) ⟨c2, c3, c4⟩
                     by_cases h9 : x6 = -1
                     · obtain ⟨f, ⟨f1, f2⟩, hff⟩ := hB h9
                       exact pm_iret rfl rfl ⟨_, 1, j + 5, rfl, hTc6, hF, ⟨0, j + 5, hP0, Or.inr (Or.inl ⟨rfl, rfl, rfl, f2⟩)⟩, Or.inr ⟨h9, by decide, by rw [← f1]; exact hff⟩, A, fun h8 => absurd h9 h8⟩
                     · obtain ⟨-, d2, d3⟩ := hA h9
                       exact pm_iret rfl rfl ⟨_, 0, j + 6, rfl, hTc6, hF, ⟨0, j + 5, hP0, Or.inr (Or.inr ⟨rfl, rfl, by omega, d2⟩)⟩, Or.inl ⟨h9, rfl, d3⟩, A, fun _ => by rw [w1, w2, w3]; exact ⟨by omega, by omega, by omega, by omega, fun _ => ⟨by omega, by omega⟩, fun _ => ⟨by omega, by omega⟩, fun _ => ⟨by omega, by omega⟩⟩⟩)
                  | (exfalso; omega)
                · have h7 : μ4 222 (p + 3) = ((-1) : Int) := h7
                  refine pm_blk hK zmm284 [] 2 177 [(2, 205), (0, p), (0, x2)] [(0, (-1))] μ4 [] rfl trivial ?_
                  first
                  | (exfalso; omega)
                  | (obtain ⟨f, f1, hff⟩ := hB (by omega)
                     obtain ⟨hP9, nz9⟩ := zR2_3 (K := K) (V := V) (sh := μ 205 6) (cu := μ 205 7) (j := j) ⟨a3, a4, a5⟩ (by omega) (by omega) ⟨b2, b3, b4⟩ (by omega) f1
                     exact pm_iret rfl rfl ⟨_, f, (j + 4), rfl, hTμ4, hF, ⟨f, (j + 4), hP9, Or.inl ⟨nz9, rfl, rfl⟩⟩, Or.inr ⟨rfl, nz9, (by rw [eμ4]; exact zFm_up hff (by decide))⟩, A, fun h9 => absurd rfl h9⟩)
                  | (have hP0 : zPa2 K V (μ 205 6) (μ 205 7) (j + 1) 0 (j + 5) := zR2_4 ⟨a3, a4, a5⟩ (by omega) (by omega) ⟨b2, b3, b4⟩ (by omega) ⟨c2, c3, c4⟩
                     by_cases h9 : ((-1)) = -1
                     · obtain ⟨f, ⟨f1, f2⟩, hff⟩ := hB h9
                       exact pm_iret rfl rfl ⟨_, 1, j + 5, rfl, hTμ4, hF, ⟨0, j + 5, hP0, Or.inr (Or.inl ⟨rfl, rfl, rfl, f2⟩)⟩, Or.inr ⟨h9, by decide, by rw [← f1]; exact hff⟩, A, fun h8 => absurd h9 h8⟩
                     · obtain ⟨-, d2, d3⟩ := hA h9
                       exact pm_iret rfl rfl ⟨_, 0, j + 6, rfl, hTμ4, hF, ⟨0, j + 5, hP0, Or.inr (Or.inr ⟨rfl, rfl, by omega, d2⟩)⟩, Or.inl ⟨h9, rfl, d3⟩, A, fun _ => by rw [w1, w2, w3]; exact ⟨by omega, by omega, by omega, by omega, fun _ => ⟨by omega, by omega⟩, fun _ => ⟨by omega, by omega⟩, fun _ => ⟨by omega, by omega⟩⟩⟩)
                  | (exfalso; omega)
              · have h6 : x2 = (2 : Int) := h6
                exact absurd h6 h2
            · have h5 : x2 = (0 : Int) := h5
              refine pm_blk hK zmm284 [] 4 140 [(2, 205), (0, p), (0, x2)] [(0, 2), (0, x2), (0, 0), (2, 205), (0, p + 3), (2, 222)] μ3 [] rfl trivial ?_
              refine pm_icmp hK zmm284 .ne 9 149 rfl rfl (fun h8 => ?_) (fun h8 => ?_)
              · have h8 : x2 ≠ (2 : Int) := h8
                refine pm_blk hK zmm284 [] 1 151 [(2, 205), (0, p), (0, x2)] [(0, 99), (0, 0), (2, 205), (0, p + 3), (2, 222)] μ3 [] rfl trivial ?_
                refine pm_call hK zmm284 (267, 0, 281, 2) zM281 (3, 65) [(2, 205), (0, 0), (0, 99)] [(0, p + 3), (2, 222)] rfl rfl rfl rfl ⟨by omega, by rw [zn281]; omega⟩ (zm_num hK (lo := 0) (hi := 99) (j := j + 4) (j1 := j + 5) hx hm (by omega) (by omega) hTμ3 hb205 ⟨Nat.le_refl _, Nat.le_refl _⟩) (fun st7 μc7 hp7 => ?_)
                obtain ⟨x7, rfl, hTc7, hF7, hA7, hB7⟩ := hp7
                have hF := zMf_tr hF (zMf_r hF7)
                have hx := zMx_f hx (zMf_r hF7)
                have hA := hA7
                have hB := hB7
                have hxr7 : x7 = -1 ∨ (0 ≤ x7 ∧ x7 ≤ 99) := by
                  by_cases hq : x7 = -1
                  · exact Or.inl hq
                  · obtain ⟨q1, ⟨-, q2, q3⟩, -⟩ := hA hq
                    exact Or.inr ⟨by omega, by omega⟩
                obtain ⟨xc, exc⟩ : ∃ y, y = x7 := ⟨_, rfl⟩
                have A : ∀ i, i < p → μc7 222 i = μ 222 i := fun i hi => by rw [hF7.1 222 (by decide)]; exact A i hi
                have w1 : μc7 222 (p + 1) = xk := by rw [hF7.1 222 (by decide)]; exact w1
                have w2 : μc7 222 (p + 2) = xb := by rw [hF7.1 222 (by decide)]; exact w2
                refine pm_blk hK zmm284 [] 1 155 [(2, 205), (0, p), (0, x2)] [] (pm_up μc7 222 (p + 3) x7) [sx_bit Wm 222 = true, 0 ≤ p + 3 ∧ p + 3 < 128] rfl ⟨hb222, ⟨by omega, by omega⟩, trivial⟩ ?_
                obtain ⟨μ5, eμ5⟩ : ∃ μ', μ' = pm_up μc7 222 (p + 3) x7 := ⟨_, rfl⟩
                rw [← eμ5]
                have hTμ5 : zTJ φ μ5 := by rw [eμ5]; exact zT_deed hTc7 zp222_3 (z := z) (by omega) (by omega) (by omega) (by omega) (by omega)
                have hFp := hF
                have hF : zMf μ μ5 := by rw [eμ5]; exact zMf_222 hFp (by omega)
                have hxp := hx
                have hx : zMx T L K S V n P μ5 := by rw [eμ5]; exact zMx_up hxp (by decide) (by decide)
                have v3 : μ5 222 (p + 3) = xc := by rw [eμ5, pm_up_eq, exc]
                have w3 : μ5 222 (p + 3) = xc := by rw [eμ5, pm_up_eq, exc]
                have w1 : μ5 222 (p + 1) = xk := by rw [eμ5, pm_up_ne (by omega)]; exact w1
                have w2 : μ5 222 (p + 2) = xb := by rw [eμ5, pm_up_ne (by omega)]; exact w2
                have A : ∀ i, i < p → μ5 222 i = μ 222 i := fun i hi => by rw [eμ5, pm_up_ne (by omega)]; exact A i hi
                have f6 := zT_getp hTμ5 zp222_3 (i := p + 3) (z := z) (by omega) (by omega) (by omega)
                refine pm_blk hK zmm284 [] 7 164 [(2, 205), (0, p), (0, x2)] [(0, (-1)), (0, μ5 222 (p + 3))] μ5 [pm_in (p + 3), 0 ≤ p + 3 ∧ p + 3 < 128] rfl ⟨pm_in_mk (by omega) (by omega), ⟨by omega, by omega⟩, trivial⟩ ?_
                refine pm_icmp hK zmm284 .ne 7 171 rfl rfl (fun h9 => ?_) (fun h9 => ?_)
                · have h9 : μ5 222 (p + 3) ≠ ((-1) : Int) := h9
                  obtain ⟨c1, ⟨c2, c3, c4⟩, hm3⟩ := hA (by omega)
                  have hm : zMs K S V n P (j + 5) μ5 := by rw [eμ5]; exact zMs_up hm3 (by decide)
                  refine pm_blk hK zmm284 [] 2 174 [(2, 205), (0, p), (0, x2)] [(0, 59), (2, 205)] μ5 [] rfl trivial ?_
                  refine pm_call hK zmm284 (274, 0, 282, 1) zM282 (3, 65) [(2, 205), (0, 59)] [] rfl rfl rfl rfl ⟨by omega, by rw [zn282]; omega⟩ (zm_mark hK (c := 59) (j := j + 5) (j1 := j + 6) hx hm (by omega) (by decide) hTμ5 hb205 ⟨Nat.le_refl _, Nat.le_refl _⟩) (fun st8 μc8 hp8 => ?_)
                  obtain ⟨x8, rfl, hTc8, hF8, hA8, hB8⟩ := hp8
                  have hF := zMf_tr hF (zMf_r hF8)
                  have hx := zMx_f hx (zMf_r hF8)
                  have hA := hA8
                  have hB := hB8
                  have A : ∀ i, i < p → μc8 222 i = μ 222 i := fun i hi => by rw [hF8.1 222 (by decide)]; exact A i hi
                  have w1 : μc8 222 (p + 1) = xk := by rw [hF8.1 222 (by decide)]; exact w1
                  have w2 : μc8 222 (p + 2) = xb := by rw [hF8.1 222 (by decide)]; exact w2
                  have w3 : μc8 222 (p + 3) = xc := by rw [hF8.1 222 (by decide)]; exact w3
                  first
                  | (exfalso; omega)
                  | (obtain ⟨f, f1, hff⟩ := hB (by omega)
                     obtain ⟨hP9, nz9⟩ := zR2_3 (K := K) (V := V) (sh := μ 205 6) (cu := μ 205 7) (j := j) ⟨a3, a4, a5⟩ (by omega) (by omega) ⟨b2, b3, b4⟩ (by omega) f1
                     exact pm_iret rfl rfl ⟨_, f, (j + 4), rfl, hTc8, hF, ⟨f, (j + 4), hP9, Or.inl ⟨nz9, rfl, rfl⟩⟩, Or.inr ⟨rfl, nz9, (by rw [eμc8]; exact zFm_up hff (by decide))⟩, A, fun h9 => absurd rfl h9⟩)
                  | (have hP0 : zPa2 K V (μ 205 6) (μ 205 7) (j + 1) 0 (j + 5) := zR2_4 ⟨a3, a4, a5⟩ (by omega) (by omega) ⟨b2, b3, b4⟩ (by omega) ⟨c2, c3, c4⟩
                     by_cases h9 : x8 = -1
                     · obtain ⟨f, ⟨f1, f2⟩, hff⟩ := hB h9
                       exact pm_iret rfl rfl ⟨_, 1, j + 5, rfl, hTc8, hF, ⟨0, j + 5, hP0, Or.inr (Or.inl ⟨rfl, rfl, rfl, f2⟩)⟩, Or.inr ⟨h9, by decide, by rw [← f1]; exact hff⟩, A, fun h8 => absurd h9 h8⟩
                     · obtain ⟨-, d2, d3⟩ := hA h9
                       exact pm_iret rfl rfl ⟨_, 0, j + 6, rfl, hTc8, hF, ⟨0, j + 5, hP0, Or.inr (Or.inr ⟨rfl, rfl, by omega, d2⟩)⟩, Or.inl ⟨h9, rfl, d3⟩, A, fun _ => by rw [w1, w2, w3]; exact ⟨by omega, by omega, by omega, by omega, fun _ => ⟨by omega, by omega⟩, fun _ => ⟨by omega, by omega⟩, fun _ => ⟨by omega, by omega⟩⟩⟩)
                  | (exfalso; omega)
                · have h9 : μ5 222 (p + 3) = ((-1) : Int) := h9
                  refine pm_blk hK zmm284 [] 2 177 [(2, 205), (0, p), (0, x2)] [(0, (-1))] μ5 [] rfl trivial ?_
                  first
                  | (exfalso; omega)
                  | (obtain ⟨f, f1, hff⟩ := hB (by omega)
                     obtain ⟨hP9, nz9⟩ := zR2_3 (K := K) (V := V) (sh := μ 205 6) (cu := μ 205 7) (j := j) ⟨a3, a4, a5⟩ (by omega) (by omega) ⟨b2, b3, b4⟩ (by omega) f1
                     exact pm_iret rfl rfl ⟨_, f, (j + 4), rfl, hTμ5, hF, ⟨f, (j + 4), hP9, Or.inl ⟨nz9, rfl, rfl⟩⟩, Or.inr ⟨rfl, nz9, (by rw [eμ5]; exact zFm_up hff (by decide))⟩, A, fun h9 => absurd rfl h9⟩)
                  | (have hP0 : zPa2 K V (μ 205 6) (μ 205 7) (j + 1) 0 (j + 5) := zR2_4 ⟨a3, a4, a5⟩ (by omega) (by omega) ⟨b2, b3, b4⟩ (by omega) ⟨c2, c3, c4⟩
                     by_cases h9 : ((-1)) = -1
                     · obtain ⟨f, ⟨f1, f2⟩, hff⟩ := hB h9
                       exact pm_iret rfl rfl ⟨_, 1, j + 5, rfl, hTμ5, hF, ⟨0, j + 5, hP0, Or.inr (Or.inl ⟨rfl, rfl, rfl, f2⟩)⟩, Or.inr ⟨h9, by decide, by rw [← f1]; exact hff⟩, A, fun h8 => absurd h9 h8⟩
                     · obtain ⟨-, d2, d3⟩ := hA h9
                       exact pm_iret rfl rfl ⟨_, 0, j + 6, rfl, hTμ5, hF, ⟨0, j + 5, hP0, Or.inr (Or.inr ⟨rfl, rfl, by omega, d2⟩)⟩, Or.inl ⟨h9, rfl, d3⟩, A, fun _ => by rw [w1, w2, w3]; exact ⟨by omega, by omega, by omega, by omega, fun _ => ⟨by omega, by omega⟩, fun _ => ⟨by omega, by omega⟩, fun _ => ⟨by omega, by omega⟩⟩⟩)
                  | (exfalso; omega)
              · have h8 : x2 = (2 : Int) := h8
                exact absurd h8 h2
          · have h4 : x2 = (3 : Int) := h4
            have g7 : μ3 205 7 = μc4 205 7 := by rw [eμ3, pm_up_off (by decide)]
            have f8 := zT_get hTμ3 zs205_7 (i := 7) (by omega) (by omega)
            refine pm_blk hK zmm284 [] 6 122 [(2, 205), (0, p), (0, x2)] [(0, (μ3 205 7) - 1), (0, 0), (2, 205), (0, p + 3), (2, 222)] μ3 [pm_in ((μ3 205 7) - 1)] rfl ⟨pm_in_mk (by omega) (by omega), trivial⟩ ?_
            refine pm_call hK zmm284 (267, 0, 281, 2) zM281 (3, 65) [(2, 205), (0, 0), (0, (μ3 205 7) - 1)] [(0, p + 3), (2, 222)] rfl rfl rfl rfl ⟨by omega, by rw [zn281]; omega⟩ (zm_num hK (lo := 0) (hi := ((μ3 205 7) - 1)) (j := j + 4) (j1 := j + 5) hx hm (by omega) (by omega) hTμ3 hb205 ⟨Nat.le_refl _, Nat.le_refl _⟩) (fun st9 μc9 hp9 => ?_)
            obtain ⟨x9, rfl, hTc9, hF9, hA9, hB9⟩ := hp9
            have hF := zMf_tr hF (zMf_r hF9)
            have hx := zMx_f hx (zMf_r hF9)
            have hA := hA9
            have hB := hB9
            have hxr9 : x9 = -1 ∨ (0 ≤ x9 ∧ x9 ≤ ((μ3 205 7) - 1)) := by
              by_cases hq : x9 = -1
              · exact Or.inl hq
              · obtain ⟨q1, ⟨-, q2, q3⟩, -⟩ := hA hq
                exact Or.inr ⟨by omega, by omega⟩
            obtain ⟨xc, exc⟩ : ∃ y, y = x9 := ⟨_, rfl⟩
            have A : ∀ i, i < p → μc9 222 i = μ 222 i := fun i hi => by rw [hF9.1 222 (by decide)]; exact A i hi
            have w1 : μc9 222 (p + 1) = xk := by rw [hF9.1 222 (by decide)]; exact w1
            have w2 : μc9 222 (p + 2) = xb := by rw [hF9.1 222 (by decide)]; exact w2
            refine pm_blk hK zmm284 [] 2 155 [(2, 205), (0, p), (0, x2)] [] (pm_up μc9 222 (p + 3) x9) [sx_bit Wm 222 = true, 0 ≤ p + 3 ∧ p + 3 < 128] rfl ⟨hb222, ⟨by omega, by omega⟩, trivial⟩ ?_
            obtain ⟨μ6, eμ6⟩ : ∃ μ', μ' = pm_up μc9 222 (p + 3) x9 := ⟨_, rfl⟩
            rw [← eμ6]
            have hTμ6 : zTJ φ μ6 := by rw [eμ6]; exact zT_deed hTc9 zp222_3 (z := z) (by omega) (by omega) (by omega) (by omega) (by omega)
            have hFp := hF
            have hF : zMf μ μ6 := by rw [eμ6]; exact zMf_222 hFp (by omega)
            have hxp := hx
            have hx : zMx T L K S V n P μ6 := by rw [eμ6]; exact zMx_up hxp (by decide) (by decide)
            have v3 : μ6 222 (p + 3) = xc := by rw [eμ6, pm_up_eq, exc]
            have w3 : μ6 222 (p + 3) = xc := by rw [eμ6, pm_up_eq, exc]
            have w1 : μ6 222 (p + 1) = xk := by rw [eμ6, pm_up_ne (by omega)]; exact w1
            have w2 : μ6 222 (p + 2) = xb := by rw [eμ6, pm_up_ne (by omega)]; exact w2
            have A : ∀ i, i < p → μ6 222 i = μ 222 i := fun i hi => by rw [eμ6, pm_up_ne (by omega)]; exact A i hi
            have f9 := zT_getp hTμ6 zp222_3 (i := p + 3) (z := z) (by omega) (by omega) (by omega)
            refine pm_blk hK zmm284 [] 7 164 [(2, 205), (0, p), (0, x2)] [(0, (-1)), (0, μ6 222 (p + 3))] μ6 [pm_in (p + 3), 0 ≤ p + 3 ∧ p + 3 < 128] rfl ⟨pm_in_mk (by omega) (by omega), ⟨by omega, by omega⟩, trivial⟩ ?_
            refine pm_icmp hK zmm284 .ne 7 171 rfl rfl (fun h10 => ?_) (fun h10 => ?_)
            · have h10 : μ6 222 (p + 3) ≠ ((-1) : Int) := h10
              obtain ⟨c1, ⟨c2, c3, c4⟩, hm3⟩ := hA (by omega)
              have hm : zMs K S V n P (j + 5) μ6 := by rw [eμ6]; exact zMs_up hm3 (by decide)
              refine pm_blk hK zmm284 [] 2 174 [(2, 205), (0, p), (0, x2)] [(0, 59), (2, 205)] μ6 [] rfl trivial ?_
              refine pm_call hK zmm284 (274, 0, 282, 1) zM282 (3, 65) [(2, 205), (0, 59)] [] rfl rfl rfl rfl ⟨by omega, by rw [zn282]; omega⟩ (zm_mark hK (c := 59) (j := j + 5) (j1 := j + 6) hx hm (by omega) (by decide) hTμ6 hb205 ⟨Nat.le_refl _, Nat.le_refl _⟩) (fun st10 μc10 hp10 => ?_)
              obtain ⟨x10, rfl, hTc10, hF10, hA10, hB10⟩ := hp10
              have hF := zMf_tr hF (zMf_r hF10)
              have hx := zMx_f hx (zMf_r hF10)
              have hA := hA10
              have hB := hB10
              have A : ∀ i, i < p → μc10 222 i = μ 222 i := fun i hi => by rw [hF10.1 222 (by decide)]; exact A i hi
              have w1 : μc10 222 (p + 1) = xk := by rw [hF10.1 222 (by decide)]; exact w1
              have w2 : μc10 222 (p + 2) = xb := by rw [hF10.1 222 (by decide)]; exact w2
              have w3 : μc10 222 (p + 3) = xc := by rw [hF10.1 222 (by decide)]; exact w3
              first
              | (exfalso; omega)
              | (obtain ⟨f, f1, hff⟩ := hB (by omega)
                 obtain ⟨hP9, nz9⟩ := zR2_3 (K := K) (V := V) (sh := μ 205 6) (cu := μ 205 7) (j := j) ⟨a3, a4, a5⟩ (by omega) (by omega) ⟨b2, b3, b4⟩ (by omega) f1
                 exact pm_iret rfl rfl ⟨_, f, (j + 4), rfl, hTc10, hF, ⟨f, (j + 4), hP9, Or.inl ⟨nz9, rfl, rfl⟩⟩, Or.inr ⟨rfl, nz9, (by rw [eμc10]; exact zFm_up hff (by decide))⟩, A, fun h9 => absurd rfl h9⟩)
              | (have hP0 : zPa2 K V (μ 205 6) (μ 205 7) (j + 1) 0 (j + 5) := zR2_4 ⟨a3, a4, a5⟩ (by omega) (by omega) ⟨b2, b3, b4⟩ (by omega) ⟨c2, c3, c4⟩
                 by_cases h9 : x10 = -1
                 · obtain ⟨f, ⟨f1, f2⟩, hff⟩ := hB h9
                   exact pm_iret rfl rfl ⟨_, 1, j + 5, rfl, hTc10, hF, ⟨0, j + 5, hP0, Or.inr (Or.inl ⟨rfl, rfl, rfl, f2⟩)⟩, Or.inr ⟨h9, by decide, by rw [← f1]; exact hff⟩, A, fun h8 => absurd h9 h8⟩
                 · obtain ⟨-, d2, d3⟩ := hA h9
                   exact pm_iret rfl rfl ⟨_, 0, j + 6, rfl, hTc10, hF, ⟨0, j + 5, hP0, Or.inr (Or.inr ⟨rfl, rfl, by omega, d2⟩)⟩, Or.inl ⟨h9, rfl, d3⟩, A, fun _ => by rw [w1, w2, w3]; exact ⟨by omega, by omega, by omega, by omega, fun _ => ⟨by omega, by omega⟩, fun _ => ⟨by omega, by omega⟩, fun _ => ⟨by omega, by omega⟩⟩⟩)
              | (exfalso; omega)
            · have h10 : μ6 222 (p + 3) = ((-1) : Int) := h10
              refine pm_blk hK zmm284 [] 2 177 [(2, 205), (0, p), (0, x2)] [(0, (-1))] μ6 [] rfl trivial ?_
              first
              | (exfalso; omega)
              | (obtain ⟨f, f1, hff⟩ := hB (by omega)
                 obtain ⟨hP9, nz9⟩ := zR2_3 (K := K) (V := V) (sh := μ 205 6) (cu := μ 205 7) (j := j) ⟨a3, a4, a5⟩ (by omega) (by omega) ⟨b2, b3, b4⟩ (by omega) f1
                 exact pm_iret rfl rfl ⟨_, f, (j + 4), rfl, hTμ6, hF, ⟨f, (j + 4), hP9, Or.inl ⟨nz9, rfl, rfl⟩⟩, Or.inr ⟨rfl, nz9, (by rw [eμ6]; exact zFm_up hff (by decide))⟩, A, fun h9 => absurd rfl h9⟩)
              | (have hP0 : zPa2 K V (μ 205 6) (μ 205 7) (j + 1) 0 (j + 5) := zR2_4 ⟨a3, a4, a5⟩ (by omega) (by omega) ⟨b2, b3, b4⟩ (by omega) ⟨c2, c3, c4⟩
                 by_cases h9 : ((-1)) = -1
                 · obtain ⟨f, ⟨f1, f2⟩, hff⟩ := hB h9
                   exact pm_iret rfl rfl ⟨_, 1, j + 5, rfl, hTμ6, hF, ⟨0, j + 5, hP0, Or.inr (Or.inl ⟨rfl, rfl, rfl, f2⟩)⟩, Or.inr ⟨h9, by decide, by rw [← f1]; exact hff⟩, A, fun h8 => absurd h9 h8⟩
                 · obtain ⟨-, d2, d3⟩ := hA h9
                   exact pm_iret rfl rfl ⟨_, 0, j + 6, rfl, hTμ6, hF, ⟨0, j + 5, hP0, Or.inr (Or.inr ⟨rfl, rfl, by omega, d2⟩)⟩, Or.inl ⟨h9, rfl, d3⟩, A, fun _ => by rw [w1, w2, w3]; exact ⟨by omega, by omega, by omega, by omega, fun _ => ⟨by omega, by omega⟩, fun _ => ⟨by omega, by omega⟩, fun _ => ⟨by omega, by omega⟩⟩⟩)
              | (exfalso; omega)
        · have h3 : μ3 222 (p + 2) = ((-1) : Int) := h3
          refine pm_blk hK zmm284 [] 1 101 [(2, 205), (0, p), (0, x2)] [(0, (-1))] μ3 [] rfl trivial ?_
          obtain ⟨f, f1, hff⟩ := hB (by omega)
          obtain ⟨hP9, nz9⟩ := zR2_2 (K := K) (V := V) (sh := μ 205 6) (cu := μ 205 7) (j := j) ⟨a3, a4, a5⟩ (by omega) (by omega) f1
          exact pm_iret rfl rfl ⟨_, f, (j + 3), rfl, hTμ3, hF, ⟨f, (j + 3), hP9, Or.inl ⟨nz9, rfl, rfl⟩⟩, Or.inr ⟨rfl, nz9, (by rw [eμ3]; exact zFm_up hff (by decide))⟩, A, fun h9 => absurd rfl h9⟩
      · have h2 : x2 = (2 : Int) := h2
        have g10 : μ2 205 7 = μc3 205 7 := by rw [eμ2, pm_up_off (by decide)]
        have f11 := zT_get hTμ2 zs205_7 (i := 7) (by omega) (by omega)
        refine pm_blk hK zmm284 [] 5 84 [(2, 205), (0, p), (0, x2)] [(0, (μ2 205 7) - 1), (0, 0), (2, 205), (0, p + 2), (2, 222)] μ2 [pm_in ((μ2 205 7) - 1)] rfl ⟨pm_in_mk (by omega) (by omega), trivial⟩ ?_
        refine pm_call hK zmm284 (267, 0, 281, 2) zM281 (3, 65) [(2, 205), (0, 0), (0, (μ2 205 7) - 1)] [(0, p + 2), (2, 222)] rfl rfl rfl rfl ⟨by omega, by rw [zn281]; omega⟩ (zm_num hK (lo := 0) (hi := ((μ2 205 7) - 1)) (j := j + 3) (j1 := j + 4) hx hm (by omega) (by omega) hTμ2 hb205 ⟨Nat.le_refl _, Nat.le_refl _⟩) (fun st11 μc11 hp11 => ?_)
        obtain ⟨x11, rfl, hTc11, hF11, hA11, hB11⟩ := hp11
        have hF := zMf_tr hF (zMf_r hF11)
        have hx := zMx_f hx (zMf_r hF11)
        have hA := hA11
        have hB := hB11
        have hxr11 : x11 = -1 ∨ (0 ≤ x11 ∧ x11 ≤ ((μ2 205 7) - 1)) := by
          by_cases hq : x11 = -1
          · exact Or.inl hq
          · obtain ⟨q1, ⟨-, q2, q3⟩, -⟩ := hA hq
            exact Or.inr ⟨by omega, by omega⟩
        obtain ⟨xb, exb⟩ : ∃ y, y = x11 := ⟨_, rfl⟩
        have A : ∀ i, i < p → μc11 222 i = μ 222 i := fun i hi => by rw [hF11.1 222 (by decide)]; exact A i hi
        have w1 : μc11 222 (p + 1) = xk := by rw [hF11.1 222 (by decide)]; exact w1
        refine pm_blk hK zmm284 [] 1 88 [(2, 205), (0, p), (0, x2)] [] (pm_up μc11 222 (p + 2) x11) [sx_bit Wm 222 = true, 0 ≤ p + 2 ∧ p + 2 < 128] rfl ⟨hb222, ⟨by omega, by omega⟩, trivial⟩ ?_
        obtain ⟨μ7, eμ7⟩ : ∃ μ', μ' = pm_up μc11 222 (p + 2) x11 := ⟨_, rfl⟩
        rw [← eμ7]
        have hTμ7 : zTJ φ μ7 := by rw [eμ7]; exact zT_deed hTc11 zp222_2 (z := z) (by omega) (by omega) (by omega) (by omega) (by omega)
        have hFp := hF
        have hF : zMf μ μ7 := by rw [eμ7]; exact zMf_222 hFp (by omega)
        have hxp := hx
        have hx : zMx T L K S V n P μ7 := by rw [eμ7]; exact zMx_up hxp (by decide) (by decide)
        have v2 : μ7 222 (p + 2) = xb := by rw [eμ7, pm_up_eq, exb]
        have w2 : μ7 222 (p + 2) = xb := by rw [eμ7, pm_up_eq, exb]
        have w1 : μ7 222 (p + 1) = xk := by rw [eμ7, pm_up_ne (by omega)]; exact w1
        have A : ∀ i, i < p → μ7 222 i = μ 222 i := fun i hi => by rw [eμ7, pm_up_ne (by omega)]; exact A i hi
        have f12 := zT_getp hTμ7 zp222_2 (i := p + 2) (z := z) (by omega) (by omega) (by omega)
        refine pm_blk hK zmm284 [] 7 97 [(2, 205), (0, p), (0, x2)] [(0, (-1)), (0, μ7 222 (p + 2))] μ7 [pm_in (p + 2), 0 ≤ p + 2 ∧ p + 2 < 128] rfl ⟨pm_in_mk (by omega) (by omega), ⟨by omega, by omega⟩, trivial⟩ ?_
        refine pm_icmp hK zmm284 .ne 5 102 rfl rfl (fun h11 => ?_) (fun h11 => ?_)
        · have h11 : μ7 222 (p + 2) ≠ ((-1) : Int) := h11
          obtain ⟨b1, ⟨b2, b3, b4⟩, hm2⟩ := hA (by omega)
          have hm : zMs K S V n P (j + 4) μ7 := by rw [eμ7]; exact zMs_up hm2 (by decide)
          have e6 : μ7 205 6 = μ 205 6 := hF.2.1 6 (by decide) (by decide) (by decide) (by decide) (by decide) (by decide) (by decide) (by decide) (by decide)
          have e7 : μ7 205 7 = μ 205 7 := hF.2.1 7 (by decide) (by decide) (by decide) (by decide) (by decide) (by decide) (by decide) (by decide) (by decide)
          refine pm_blk hK zmm284 [] 7 111 [(2, 205), (0, p), (0, x2)] [(0, 3), (0, x2), (0, p + 3), (2, 222)] μ7 [pm_in (p + 3)] rfl ⟨pm_in_mk (by omega) (by omega), trivial⟩ ?_
          refine pm_icmp hK zmm284 .ne 17 128 rfl rfl (fun h12 => ?_) (fun h12 => ?_)
          · have h12 : x2 ≠ (3 : Int) := h12
            refine pm_blk hK zmm284 [] 2 130 [(2, 205), (0, p), (0, x2)] [(0, x2), (2, 205), (0, p + 3), (2, 222)] μ7 [] rfl trivial ?_
            refine pm_if hK zmm284 .ne 7 137 rfl rfl (fun h13 => ?_) (fun h13 => ?_)
            · have h13 : x2 ≠ (0 : Int) := h13
              refine pm_blk hK zmm284 [] 3 140 [(2, 205), (0, p), (0, x2)] [(0, 2), (0, x2), (0, 1), (2, 205), (0, p + 3), (2, 222)] μ7 [] rfl trivial ?_
              refine pm_icmp hK zmm284 .ne 9 149 rfl rfl (fun h14 => ?_) (fun h14 => ?_)
              · have h14 : x2 ≠ (2 : Int) := h14
                exact absurd h2 h14
              · have h14 : x2 = (2 : Int) := h14
                refine pm_blk hK zmm284 [] 2 151 [(2, 205), (0, p), (0, x2)] [(0, 999), (0, 1), (2, 205), (0, p + 3), (2, 222)] μ7 [] rfl trivial ?_
                refine pm_call hK zmm284 (267, 0, 281, 2) zM281 (3, 65) [(2, 205), (0, 1), (0, 999)] [(0, p + 3), (2, 222)] rfl rfl rfl rfl ⟨by omega, by rw [zn281]; omega⟩ (zm_num hK (lo := 1) (hi := 999) (j := j + 4) (j1 := j + 5) hx hm (by omega) (by omega) hTμ7 hb205 ⟨Nat.le_refl _, Nat.le_refl _⟩) (fun st12 μc12 hp12 => ?_)
                obtain ⟨x12, rfl, hTc12, hF12, hA12, hB12⟩ := hp12
                have hF := zMf_tr hF (zMf_r hF12)
                have hx := zMx_f hx (zMf_r hF12)
                have hA := hA12
                have hB := hB12
                have hxr12 : x12 = -1 ∨ (1 ≤ x12 ∧ x12 ≤ 999) := by
                  by_cases hq : x12 = -1
                  · exact Or.inl hq
                  · obtain ⟨q1, ⟨-, q2, q3⟩, -⟩ := hA hq
                    exact Or.inr ⟨by omega, by omega⟩
                obtain ⟨xc, exc⟩ : ∃ y, y = x12 := ⟨_, rfl⟩
                have A : ∀ i, i < p → μc12 222 i = μ 222 i := fun i hi => by rw [hF12.1 222 (by decide)]; exact A i hi
                have w1 : μc12 222 (p + 1) = xk := by rw [hF12.1 222 (by decide)]; exact w1
                have w2 : μc12 222 (p + 2) = xb := by rw [hF12.1 222 (by decide)]; exact w2
                refine pm_blk hK zmm284 [] 1 155 [(2, 205), (0, p), (0, x2)] [] (pm_up μc12 222 (p + 3) x12) [sx_bit Wm 222 = true, 0 ≤ p + 3 ∧ p + 3 < 128] rfl ⟨hb222, ⟨by omega, by omega⟩, trivial⟩ ?_
                obtain ⟨μ8, eμ8⟩ : ∃ μ', μ' = pm_up μc12 222 (p + 3) x12 := ⟨_, rfl⟩
                rw [← eμ8]
                have hTμ8 : zTJ φ μ8 := by rw [eμ8]; exact zT_deed hTc12 zp222_3 (z := z) (by omega) (by omega) (by omega) (by omega) (by omega)
                have hFp := hF
                have hF : zMf μ μ8 := by rw [eμ8]; exact zMf_222 hFp (by omega)
                have hxp := hx
                have hx : zMx T L K S V n P μ8 := by rw [eμ8]; exact zMx_up hxp (by decide) (by decide)
                have v3 : μ8 222 (p + 3) = xc := by rw [eμ8, pm_up_eq, exc]
                have w3 : μ8 222 (p + 3) = xc := by rw [eμ8, pm_up_eq, exc]
                have w1 : μ8 222 (p + 1) = xk := by rw [eμ8, pm_up_ne (by omega)]; exact w1
                have w2 : μ8 222 (p + 2) = xb := by rw [eμ8, pm_up_ne (by omega)]; exact w2
                have A : ∀ i, i < p → μ8 222 i = μ 222 i := fun i hi => by rw [eμ8, pm_up_ne (by omega)]; exact A i hi
                have f13 := zT_getp hTμ8 zp222_3 (i := p + 3) (z := z) (by omega) (by omega) (by omega)
                refine pm_blk hK zmm284 [] 7 164 [(2, 205), (0, p), (0, x2)] [(0, (-1)), (0, μ8 222 (p + 3))] μ8 [pm_in (p + 3), 0 ≤ p + 3 ∧ p + 3 < 128] rfl ⟨pm_in_mk (by omega) (by omega), ⟨by omega, by omega⟩, trivial⟩ ?_
                refine pm_icmp hK zmm284 .ne 7 171 rfl rfl (fun h15 => ?_) (fun h15 => ?_)
                · have h15 : μ8 222 (p + 3) ≠ ((-1) : Int) := h15
                  obtain ⟨c1, ⟨c2, c3, c4⟩, hm3⟩ := hA (by omega)
                  have hm : zMs K S V n P (j + 5) μ8 := by rw [eμ8]; exact zMs_up hm3 (by decide)
                  refine pm_blk hK zmm284 [] 2 174 [(2, 205), (0, p), (0, x2)] [(0, 59), (2, 205)] μ8 [] rfl trivial ?_
                  refine pm_call hK zmm284 (274, 0, 282, 1) zM282 (3, 65) [(2, 205), (0, 59)] [] rfl rfl rfl rfl ⟨by omega, by rw [zn282]; omega⟩ (zm_mark hK (c := 59) (j := j + 5) (j1 := j + 6) hx hm (by omega) (by decide) hTμ8 hb205 ⟨Nat.le_refl _, Nat.le_refl _⟩) (fun st13 μc13 hp13 => ?_)
                  obtain ⟨x13, rfl, hTc13, hF13, hA13, hB13⟩ := hp13
                  have hF := zMf_tr hF (zMf_r hF13)
                  have hx := zMx_f hx (zMf_r hF13)
                  have hA := hA13
                  have hB := hB13
                  have A : ∀ i, i < p → μc13 222 i = μ 222 i := fun i hi => by rw [hF13.1 222 (by decide)]; exact A i hi
                  have w1 : μc13 222 (p + 1) = xk := by rw [hF13.1 222 (by decide)]; exact w1
                  have w2 : μc13 222 (p + 2) = xb := by rw [hF13.1 222 (by decide)]; exact w2
                  have w3 : μc13 222 (p + 3) = xc := by rw [hF13.1 222 (by decide)]; exact w3
                  first
                  | (exfalso; omega)
                  | (obtain ⟨f, f1, hff⟩ := hB (by omega)
                     obtain ⟨hP9, nz9⟩ := zR2_3 (K := K) (V := V) (sh := μ 205 6) (cu := μ 205 7) (j := j) ⟨a3, a4, a5⟩ (by omega) (by omega) ⟨b2, b3, b4⟩ (by omega) f1
                     exact pm_iret rfl rfl ⟨_, f, (j + 4), rfl, hTc13, hF, ⟨f, (j + 4), hP9, Or.inl ⟨nz9, rfl, rfl⟩⟩, Or.inr ⟨rfl, nz9, (by rw [eμc13]; exact zFm_up hff (by decide))⟩, A, fun h9 => absurd rfl h9⟩)
                  | (have hP0 : zPa2 K V (μ 205 6) (μ 205 7) (j + 1) 0 (j + 5) := zR2_4 ⟨a3, a4, a5⟩ (by omega) (by omega) ⟨b2, b3, b4⟩ (by omega) ⟨c2, c3, c4⟩
                     by_cases h9 : x13 = -1
                     · obtain ⟨f, ⟨f1, f2⟩, hff⟩ := hB h9
                       exact pm_iret rfl rfl ⟨_, 1, j + 5, rfl, hTc13, hF, ⟨0, j + 5, hP0, Or.inr (Or.inl ⟨rfl, rfl, rfl, f2⟩)⟩, Or.inr ⟨h9, by decide, by rw [← f1]; exact hff⟩, A, fun h8 => absurd h9 h8⟩
                     · obtain ⟨-, d2, d3⟩ := hA h9
                       exact pm_iret rfl rfl ⟨_, 0, j + 6, rfl, hTc13, hF, ⟨0, j + 5, hP0, Or.inr (Or.inr ⟨rfl, rfl, by omega, d2⟩)⟩, Or.inl ⟨h9, rfl, d3⟩, A, fun _ => by rw [w1, w2, w3]; exact ⟨by omega, by omega, by omega, by omega, fun _ => ⟨by omega, by omega⟩, fun _ => ⟨by omega, by omega⟩, fun _ => ⟨by omega, by omega⟩⟩⟩)
                  | (exfalso; omega)
                · have h15 : μ8 222 (p + 3) = ((-1) : Int) := h15
                  refine pm_blk hK zmm284 [] 2 177 [(2, 205), (0, p), (0, x2)] [(0, (-1))] μ8 [] rfl trivial ?_
                  first
                  | (exfalso; omega)
                  | (obtain ⟨f, f1, hff⟩ := hB (by omega)
                     obtain ⟨hP9, nz9⟩ := zR2_3 (K := K) (V := V) (sh := μ 205 6) (cu := μ 205 7) (j := j) ⟨a3, a4, a5⟩ (by omega) (by omega) ⟨b2, b3, b4⟩ (by omega) f1
                     exact pm_iret rfl rfl ⟨_, f, (j + 4), rfl, hTμ8, hF, ⟨f, (j + 4), hP9, Or.inl ⟨nz9, rfl, rfl⟩⟩, Or.inr ⟨rfl, nz9, (by rw [eμ8]; exact zFm_up hff (by decide))⟩, A, fun h9 => absurd rfl h9⟩)
                  | (have hP0 : zPa2 K V (μ 205 6) (μ 205 7) (j + 1) 0 (j + 5) := zR2_4 ⟨a3, a4, a5⟩ (by omega) (by omega) ⟨b2, b3, b4⟩ (by omega) ⟨c2, c3, c4⟩
                     by_cases h9 : ((-1)) = -1
                     · obtain ⟨f, ⟨f1, f2⟩, hff⟩ := hB h9
                       exact pm_iret rfl rfl ⟨_, 1, j + 5, rfl, hTμ8, hF, ⟨0, j + 5, hP0, Or.inr (Or.inl ⟨rfl, rfl, rfl, f2⟩)⟩, Or.inr ⟨h9, by decide, by rw [← f1]; exact hff⟩, A, fun h8 => absurd h9 h8⟩
                     · obtain ⟨-, d2, d3⟩ := hA h9
                       exact pm_iret rfl rfl ⟨_, 0, j + 6, rfl, hTμ8, hF, ⟨0, j + 5, hP0, Or.inr (Or.inr ⟨rfl, rfl, by omega, d2⟩)⟩, Or.inl ⟨h9, rfl, d3⟩, A, fun _ => by rw [w1, w2, w3]; exact ⟨by omega, by omega, by omega, by omega, fun _ => ⟨by omega, by omega⟩, fun _ => ⟨by omega, by omega⟩, fun _ => ⟨by omega, by omega⟩⟩⟩)
                  | (exfalso; omega)
            · have h13 : x2 = (0 : Int) := h13
              refine pm_blk hK zmm284 [] 4 140 [(2, 205), (0, p), (0, x2)] [(0, 2), (0, x2), (0, 0), (2, 205), (0, p + 3), (2, 222)] μ7 [] rfl trivial ?_
              refine pm_icmp hK zmm284 .ne 9 149 rfl rfl (fun h16 => ?_) (fun h16 => ?_)
              · have h16 : x2 ≠ (2 : Int) := h16
                exact absurd h2 h16
              · have h16 : x2 = (2 : Int) := h16
                refine pm_blk hK zmm284 [] 2 151 [(2, 205), (0, p), (0, x2)] [(0, 999), (0, 0), (2, 205), (0, p + 3), (2, 222)] μ7 [] rfl trivial ?_
                refine pm_call hK zmm284 (267, 0, 281, 2) zM281 (3, 65) [(2, 205), (0, 0), (0, 999)] [(0, p + 3), (2, 222)] rfl rfl rfl rfl ⟨by omega, by rw [zn281]; omega⟩ (zm_num hK (lo := 0) (hi := 999) (j := j + 4) (j1 := j + 5) hx hm (by omega) (by omega) hTμ7 hb205 ⟨Nat.le_refl _, Nat.le_refl _⟩) (fun st14 μc14 hp14 => ?_)
                obtain ⟨x14, rfl, hTc14, hF14, hA14, hB14⟩ := hp14
                have hF := zMf_tr hF (zMf_r hF14)
                have hx := zMx_f hx (zMf_r hF14)
                have hA := hA14
                have hB := hB14
                have hxr14 : x14 = -1 ∨ (0 ≤ x14 ∧ x14 ≤ 999) := by
                  by_cases hq : x14 = -1
                  · exact Or.inl hq
                  · obtain ⟨q1, ⟨-, q2, q3⟩, -⟩ := hA hq
                    exact Or.inr ⟨by omega, by omega⟩
                obtain ⟨xc, exc⟩ : ∃ y, y = x14 := ⟨_, rfl⟩
                have A : ∀ i, i < p → μc14 222 i = μ 222 i := fun i hi => by rw [hF14.1 222 (by decide)]; exact A i hi
                have w1 : μc14 222 (p + 1) = xk := by rw [hF14.1 222 (by decide)]; exact w1
                have w2 : μc14 222 (p + 2) = xb := by rw [hF14.1 222 (by decide)]; exact w2
                refine pm_blk hK zmm284 [] 1 155 [(2, 205), (0, p), (0, x2)] [] (pm_up μc14 222 (p + 3) x14) [sx_bit Wm 222 = true, 0 ≤ p + 3 ∧ p + 3 < 128] rfl ⟨hb222, ⟨by omega, by omega⟩, trivial⟩ ?_
                obtain ⟨μ9, eμ9⟩ : ∃ μ', μ' = pm_up μc14 222 (p + 3) x14 := ⟨_, rfl⟩
                rw [← eμ9]
                have hTμ9 : zTJ φ μ9 := by rw [eμ9]; exact zT_deed hTc14 zp222_3 (z := z) (by omega) (by omega) (by omega) (by omega) (by omega)
                have hFp := hF
                have hF : zMf μ μ9 := by rw [eμ9]; exact zMf_222 hFp (by omega)
                have hxp := hx
                have hx : zMx T L K S V n P μ9 := by rw [eμ9]; exact zMx_up hxp (by decide) (by decide)
                have v3 : μ9 222 (p + 3) = xc := by rw [eμ9, pm_up_eq, exc]
                have w3 : μ9 222 (p + 3) = xc := by rw [eμ9, pm_up_eq, exc]
                have w1 : μ9 222 (p + 1) = xk := by rw [eμ9, pm_up_ne (by omega)]; exact w1
                have w2 : μ9 222 (p + 2) = xb := by rw [eμ9, pm_up_ne (by omega)]; exact w2
                have A : ∀ i, i < p → μ9 222 i = μ 222 i := fun i hi => by rw [eμ9, pm_up_ne (by omega)]; exact A i hi
                have f14 := zT_getp hTμ9 zp222_3 (i := p + 3) (z := z) (by omega) (by omega) (by omega)
                refine pm_blk hK zmm284 [] 7 164 [(2, 205), (0, p), (0, x2)] [(0, (-1)), (0, μ9 222 (p + 3))] μ9 [pm_in (p + 3), 0 ≤ p + 3 ∧ p + 3 < 128] rfl ⟨pm_in_mk (by omega) (by omega), ⟨by omega, by omega⟩, trivial⟩ ?_
                refine pm_icmp hK zmm284 .ne 7 171 rfl rfl (fun h17 => ?_) (fun h17 => ?_)
                · have h17 : μ9 222 (p + 3) ≠ ((-1) : Int) := h17
                  obtain ⟨c1, ⟨c2, c3, c4⟩, hm3⟩ := hA (by omega)
                  have hm : zMs K S V n P (j + 5) μ9 := by rw [eμ9]; exact zMs_up hm3 (by decide)
                  refine pm_blk hK zmm284 [] 2 174 [(2, 205), (0, p), (0, x2)] [(0, 59), (2, 205)] μ9 [] rfl trivial ?_
                  refine pm_call hK zmm284 (274, 0, 282, 1) zM282 (3, 65) [(2, 205), (0, 59)] [] rfl rfl rfl rfl ⟨by omega, by rw [zn282]; omega⟩ (zm_mark hK (c := 59) (j := j + 5) (j1 := j + 6) hx hm (by omega) (by decide) hTμ9 hb205 ⟨Nat.le_refl _, Nat.le_refl _⟩) (fun st15 μc15 hp15 => ?_)
                  obtain ⟨x15, rfl, hTc15, hF15, hA15, hB15⟩ := hp15
                  have hF := zMf_tr hF (zMf_r hF15)
                  have hx := zMx_f hx (zMf_r hF15)
                  have hA := hA15
                  have hB := hB15
                  have A : ∀ i, i < p → μc15 222 i = μ 222 i := fun i hi => by rw [hF15.1 222 (by decide)]; exact A i hi
                  have w1 : μc15 222 (p + 1) = xk := by rw [hF15.1 222 (by decide)]; exact w1
                  have w2 : μc15 222 (p + 2) = xb := by rw [hF15.1 222 (by decide)]; exact w2
                  have w3 : μc15 222 (p + 3) = xc := by rw [hF15.1 222 (by decide)]; exact w3
                  first
                  | (exfalso; omega)
                  | (obtain ⟨f, f1, hff⟩ := hB (by omega)
                     obtain ⟨hP9, nz9⟩ := zR2_3 (K := K) (V := V) (sh := μ 205 6) (cu := μ 205 7) (j := j) ⟨a3, a4, a5⟩ (by omega) (by omega) ⟨b2, b3, b4⟩ (by omega) f1
                     exact pm_iret rfl rfl ⟨_, f, (j + 4), rfl, hTc15, hF, ⟨f, (j + 4), hP9, Or.inl ⟨nz9, rfl, rfl⟩⟩, Or.inr ⟨rfl, nz9, (by rw [eμc15]; exact zFm_up hff (by decide))⟩, A, fun h9 => absurd rfl h9⟩)
                  | (have hP0 : zPa2 K V (μ 205 6) (μ 205 7) (j + 1) 0 (j + 5) := zR2_4 ⟨a3, a4, a5⟩ (by omega) (by omega) ⟨b2, b3, b4⟩ (by omega) ⟨c2, c3, c4⟩
                     by_cases h9 : x15 = -1
                     · obtain ⟨f, ⟨f1, f2⟩, hff⟩ := hB h9
                       exact pm_iret rfl rfl ⟨_, 1, j + 5, rfl, hTc15, hF, ⟨0, j + 5, hP0, Or.inr (Or.inl ⟨rfl, rfl, rfl, f2⟩)⟩, Or.inr ⟨h9, by decide, by rw [← f1]; exact hff⟩, A, fun h8 => absurd h9 h8⟩
                     · obtain ⟨-, d2, d3⟩ := hA h9
                       exact pm_iret rfl rfl ⟨_, 0, j + 6, rfl, hTc15, hF, ⟨0, j + 5, hP0, Or.inr (Or.inr ⟨rfl, rfl, by omega, d2⟩)⟩, Or.inl ⟨h9, rfl, d3⟩, A, fun _ => by rw [w1, w2, w3]; exact ⟨by omega, by omega, by omega, by omega, fun _ => ⟨by omega, by omega⟩, fun _ => ⟨by omega, by omega⟩, fun _ => ⟨by omega, by omega⟩⟩⟩)
                  | (exfalso; omega)
                · have h17 : μ9 222 (p + 3) = ((-1) : Int) := h17
                  refine pm_blk hK zmm284 [] 2 177 [(2, 205), (0, p), (0, x2)] [(0, (-1))] μ9 [] rfl trivial ?_
                  first
                  | (exfalso; omega)
                  | (obtain ⟨f, f1, hff⟩ := hB (by omega)
                     obtain ⟨hP9, nz9⟩ := zR2_3 (K := K) (V := V) (sh := μ 205 6) (cu := μ 205 7) (j := j) ⟨a3, a4, a5⟩ (by omega) (by omega) ⟨b2, b3, b4⟩ (by omega) f1
                     exact pm_iret rfl rfl ⟨_, f, (j + 4), rfl, hTμ9, hF, ⟨f, (j + 4), hP9, Or.inl ⟨nz9, rfl, rfl⟩⟩, Or.inr ⟨rfl, nz9, (by rw [eμ9]; exact zFm_up hff (by decide))⟩, A, fun h9 => absurd rfl h9⟩)
                  | (have hP0 : zPa2 K V (μ 205 6) (μ 205 7) (j + 1) 0 (j + 5) := zR2_4 ⟨a3, a4, a5⟩ (by omega) (by omega) ⟨b2, b3, b4⟩ (by omega) ⟨c2, c3, c4⟩
                     by_cases h9 : ((-1)) = -1
                     · obtain ⟨f, ⟨f1, f2⟩, hff⟩ := hB h9
                       exact pm_iret rfl rfl ⟨_, 1, j + 5, rfl, hTμ9, hF, ⟨0, j + 5, hP0, Or.inr (Or.inl ⟨rfl, rfl, rfl, f2⟩)⟩, Or.inr ⟨h9, by decide, by rw [← f1]; exact hff⟩, A, fun h8 => absurd h9 h8⟩
                     · obtain ⟨-, d2, d3⟩ := hA h9
                       exact pm_iret rfl rfl ⟨_, 0, j + 6, rfl, hTμ9, hF, ⟨0, j + 5, hP0, Or.inr (Or.inr ⟨rfl, rfl, by omega, d2⟩)⟩, Or.inl ⟨h9, rfl, d3⟩, A, fun _ => by rw [w1, w2, w3]; exact ⟨by omega, by omega, by omega, by omega, fun _ => ⟨by omega, by omega⟩, fun _ => ⟨by omega, by omega⟩, fun _ => ⟨by omega, by omega⟩⟩⟩)
                  | (exfalso; omega)
          · have h12 : x2 = (3 : Int) := h12
            have g15 : μ7 205 7 = μc11 205 7 := by rw [eμ7, pm_up_off (by decide)]
            have f16 := zT_get hTμ7 zs205_7 (i := 7) (by omega) (by omega)
            refine pm_blk hK zmm284 [] 6 122 [(2, 205), (0, p), (0, x2)] [(0, (μ7 205 7) - 1), (0, 0), (2, 205), (0, p + 3), (2, 222)] μ7 [pm_in ((μ7 205 7) - 1)] rfl ⟨pm_in_mk (by omega) (by omega), trivial⟩ ?_
            refine pm_call hK zmm284 (267, 0, 281, 2) zM281 (3, 65) [(2, 205), (0, 0), (0, (μ7 205 7) - 1)] [(0, p + 3), (2, 222)] rfl rfl rfl rfl ⟨by omega, by rw [zn281]; omega⟩ (zm_num hK (lo := 0) (hi := ((μ7 205 7) - 1)) (j := j + 4) (j1 := j + 5) hx hm (by omega) (by omega) hTμ7 hb205 ⟨Nat.le_refl _, Nat.le_refl _⟩) (fun st16 μc16 hp16 => ?_)
            obtain ⟨x16, rfl, hTc16, hF16, hA16, hB16⟩ := hp16
            have hF := zMf_tr hF (zMf_r hF16)
            have hx := zMx_f hx (zMf_r hF16)
            have hA := hA16
            have hB := hB16
            have hxr16 : x16 = -1 ∨ (0 ≤ x16 ∧ x16 ≤ ((μ7 205 7) - 1)) := by
              by_cases hq : x16 = -1
              · exact Or.inl hq
              · obtain ⟨q1, ⟨-, q2, q3⟩, -⟩ := hA hq
                exact Or.inr ⟨by omega, by omega⟩
            obtain ⟨xc, exc⟩ : ∃ y, y = x16 := ⟨_, rfl⟩
            have A : ∀ i, i < p → μc16 222 i = μ 222 i := fun i hi => by rw [hF16.1 222 (by decide)]; exact A i hi
            have w1 : μc16 222 (p + 1) = xk := by rw [hF16.1 222 (by decide)]; exact w1
            have w2 : μc16 222 (p + 2) = xb := by rw [hF16.1 222 (by decide)]; exact w2
            refine pm_blk hK zmm284 [] 2 155 [(2, 205), (0, p), (0, x2)] [] (pm_up μc16 222 (p + 3) x16) [sx_bit Wm 222 = true, 0 ≤ p + 3 ∧ p + 3 < 128] rfl ⟨hb222, ⟨by omega, by omega⟩, trivial⟩ ?_
            obtain ⟨μ10, eμ10⟩ : ∃ μ', μ' = pm_up μc16 222 (p + 3) x16 := ⟨_, rfl⟩
            rw [← eμ10]
            have hTμ10 : zTJ φ μ10 := by rw [eμ10]; exact zT_deed hTc16 zp222_3 (z := z) (by omega) (by omega) (by omega) (by omega) (by omega)
            have hFp := hF
            have hF : zMf μ μ10 := by rw [eμ10]; exact zMf_222 hFp (by omega)
            have hxp := hx
            have hx : zMx T L K S V n P μ10 := by rw [eμ10]; exact zMx_up hxp (by decide) (by decide)
            have v3 : μ10 222 (p + 3) = xc := by rw [eμ10, pm_up_eq, exc]
            have w3 : μ10 222 (p + 3) = xc := by rw [eμ10, pm_up_eq, exc]
            have w1 : μ10 222 (p + 1) = xk := by rw [eμ10, pm_up_ne (by omega)]; exact w1
            have w2 : μ10 222 (p + 2) = xb := by rw [eμ10, pm_up_ne (by omega)]; exact w2
            have A : ∀ i, i < p → μ10 222 i = μ 222 i := fun i hi => by rw [eμ10, pm_up_ne (by omega)]; exact A i hi
            have f17 := zT_getp hTμ10 zp222_3 (i := p + 3) (z := z) (by omega) (by omega) (by omega)
            refine pm_blk hK zmm284 [] 7 164 [(2, 205), (0, p), (0, x2)] [(0, (-1)), (0, μ10 222 (p + 3))] μ10 [pm_in (p + 3), 0 ≤ p + 3 ∧ p + 3 < 128] rfl ⟨pm_in_mk (by omega) (by omega), ⟨by omega, by omega⟩, trivial⟩ ?_
            refine pm_icmp hK zmm284 .ne 7 171 rfl rfl (fun h18 => ?_) (fun h18 => ?_)
            · have h18 : μ10 222 (p + 3) ≠ ((-1) : Int) := h18
              obtain ⟨c1, ⟨c2, c3, c4⟩, hm3⟩ := hA (by omega)
              have hm : zMs K S V n P (j + 5) μ10 := by rw [eμ10]; exact zMs_up hm3 (by decide)
              refine pm_blk hK zmm284 [] 2 174 [(2, 205), (0, p), (0, x2)] [(0, 59), (2, 205)] μ10 [] rfl trivial ?_
              refine pm_call hK zmm284 (274, 0, 282, 1) zM282 (3, 65) [(2, 205), (0, 59)] [] rfl rfl rfl rfl ⟨by omega, by rw [zn282]; omega⟩ (zm_mark hK (c := 59) (j := j + 5) (j1 := j + 6) hx hm (by omega) (by decide) hTμ10 hb205 ⟨Nat.le_refl _, Nat.le_refl _⟩) (fun st17 μc17 hp17 => ?_)
              obtain ⟨x17, rfl, hTc17, hF17, hA17, hB17⟩ := hp17
              have hF := zMf_tr hF (zMf_r hF17)
              have hx := zMx_f hx (zMf_r hF17)
              have hA := hA17
              have hB := hB17
              have A : ∀ i, i < p → μc17 222 i = μ 222 i := fun i hi => by rw [hF17.1 222 (by decide)]; exact A i hi
              have w1 : μc17 222 (p + 1) = xk := by rw [hF17.1 222 (by decide)]; exact w1
              have w2 : μc17 222 (p + 2) = xb := by rw [hF17.1 222 (by decide)]; exact w2
              have w3 : μc17 222 (p + 3) = xc := by rw [hF17.1 222 (by decide)]; exact w3
              first
              | (exfalso; omega)
              | (obtain ⟨f, f1, hff⟩ := hB (by omega)
                 obtain ⟨hP9, nz9⟩ := zR2_3 (K := K) (V := V) (sh := μ 205 6) (cu := μ 205 7) (j := j) ⟨a3, a4, a5⟩ (by omega) (by omega) ⟨b2, b3, b4⟩ (by omega) f1
                 exact pm_iret rfl rfl ⟨_, f, (j + 4), rfl, hTc17, hF, ⟨f, (j + 4), hP9, Or.inl ⟨nz9, rfl, rfl⟩⟩, Or.inr ⟨rfl, nz9, (by rw [eμc17]; exact zFm_up hff (by decide))⟩, A, fun h9 => absurd rfl h9⟩)
              | (have hP0 : zPa2 K V (μ 205 6) (μ 205 7) (j + 1) 0 (j + 5) := zR2_4 ⟨a3, a4, a5⟩ (by omega) (by omega) ⟨b2, b3, b4⟩ (by omega) ⟨c2, c3, c4⟩
                 by_cases h9 : x17 = -1
                 · obtain ⟨f, ⟨f1, f2⟩, hff⟩ := hB h9
                   exact pm_iret rfl rfl ⟨_, 1, j + 5, rfl, hTc17, hF, ⟨0, j + 5, hP0, Or.inr (Or.inl ⟨rfl, rfl, rfl, f2⟩)⟩, Or.inr ⟨h9, by decide, by rw [← f1]; exact hff⟩, A, fun h8 => absurd h9 h8⟩
                 · obtain ⟨-, d2, d3⟩ := hA h9
                   exact pm_iret rfl rfl ⟨_, 0, j + 6, rfl, hTc17, hF, ⟨0, j + 5, hP0, Or.inr (Or.inr ⟨rfl, rfl, by omega, d2⟩)⟩, Or.inl ⟨h9, rfl, d3⟩, A, fun _ => by rw [w1, w2, w3]; exact ⟨by omega, by omega, by omega, by omega, fun _ => ⟨by omega, by omega⟩, fun _ => ⟨by omega, by omega⟩, fun _ => ⟨by omega, by omega⟩⟩⟩)
              | (exfalso; omega)
            · have h18 : μ10 222 (p + 3) = ((-1) : Int) := h18
              refine pm_blk hK zmm284 [] 2 177 [(2, 205), (0, p), (0, x2)] [(0, (-1))] μ10 [] rfl trivial ?_
              first
              | (exfalso; omega)
              | (obtain ⟨f, f1, hff⟩ := hB (by omega)
                 obtain ⟨hP9, nz9⟩ := zR2_3 (K := K) (V := V) (sh := μ 205 6) (cu := μ 205 7) (j := j) ⟨a3, a4, a5⟩ (by omega) (by omega) ⟨b2, b3, b4⟩ (by omega) f1
                 exact pm_iret rfl rfl ⟨_, f, (j + 4), rfl, hTμ10, hF, ⟨f, (j + 4), hP9, Or.inl ⟨nz9, rfl, rfl⟩⟩, Or.inr ⟨rfl, nz9, (by rw [eμ10]; exact zFm_up hff (by decide))⟩, A, fun h9 => absurd rfl h9⟩)
              | (have hP0 : zPa2 K V (μ 205 6) (μ 205 7) (j + 1) 0 (j + 5) := zR2_4 ⟨a3, a4, a5⟩ (by omega) (by omega) ⟨b2, b3, b4⟩ (by omega) ⟨c2, c3, c4⟩
                 by_cases h9 : ((-1)) = -1
                 · obtain ⟨f, ⟨f1, f2⟩, hff⟩ := hB h9
                   exact pm_iret rfl rfl ⟨_, 1, j + 5, rfl, hTμ10, hF, ⟨0, j + 5, hP0, Or.inr (Or.inl ⟨rfl, rfl, rfl, f2⟩)⟩, Or.inr ⟨h9, by decide, by rw [← f1]; exact hff⟩, A, fun h8 => absurd h9 h8⟩
                 · obtain ⟨-, d2, d3⟩ := hA h9
                   exact pm_iret rfl rfl ⟨_, 0, j + 6, rfl, hTμ10, hF, ⟨0, j + 5, hP0, Or.inr (Or.inr ⟨rfl, rfl, by omega, d2⟩)⟩, Or.inl ⟨h9, rfl, d3⟩, A, fun _ => by rw [w1, w2, w3]; exact ⟨by omega, by omega, by omega, by omega, fun _ => ⟨by omega, by omega⟩, fun _ => ⟨by omega, by omega⟩, fun _ => ⟨by omega, by omega⟩⟩⟩)
              | (exfalso; omega)
        · have h11 : μ7 222 (p + 2) = ((-1) : Int) := h11
          refine pm_blk hK zmm284 [] 1 101 [(2, 205), (0, p), (0, x2)] [(0, (-1))] μ7 [] rfl trivial ?_
          obtain ⟨f, f1, hff⟩ := hB (by omega)
          obtain ⟨hP9, nz9⟩ := zR2_2 (K := K) (V := V) (sh := μ 205 6) (cu := μ 205 7) (j := j) ⟨a3, a4, a5⟩ (by omega) (by omega) f1
          exact pm_iret rfl rfl ⟨_, f, (j + 3), rfl, hTμ7, hF, ⟨f, (j + 3), hP9, Or.inl ⟨nz9, rfl, rfl⟩⟩, Or.inr ⟨rfl, nz9, (by rw [eμ7]; exact zFm_up hff (by decide))⟩, A, fun h9 => absurd rfl h9⟩
    · have h1 : x2 = ((-1) : Int) := h1
      refine pm_blk hK zmm284 [] 2 40 [(2, 205), (0, p), (0, x2)] [(0, 1), (2, 205)] μ1 [] rfl trivial ?_
      refine pm_call hK zmm284 (216, 0, 278, 1) zM278 (0, 0) [(2, 205), (0, 1)] [] rfl rfl rfl rfl ⟨by omega, by rw [zn278]; omega⟩ (zm_errs hK (j := j + 2) hx hm hTμ1 ⟨by omega, by omega⟩ hb205 ⟨Nat.le_refl _, Nat.le_refl _⟩) (fun st18 μc18 hp18 => ?_)
      obtain ⟨rfl, hTc18, hF18, hf18⟩ := hp18
      have hF := zMf_tr hF (zMf_r hF18)
      have hff := hf18
      have A : ∀ i, i < p → μc18 222 i = μ 222 i := fun i hi => by rw [hF18.1 222 (by decide)]; exact A i hi
      have hP9 := zR2_1 (K := K) (V := V) (sh := μ 205 6) (cu := μ 205 7) (j := j) ⟨a3, a4, a5⟩ (by omega)
      exact pm_iret rfl rfl ⟨_, 1, (j + 2), rfl, hTc18, hF, ⟨1, (j + 2), hP9, Or.inl ⟨by decide, rfl, rfl⟩⟩, Or.inr ⟨rfl, by decide, hff⟩, A, fun h9 => absurd rfl h9⟩
  · have h0 : μ1 222 p = ((-1) : Int) := h0
    refine pm_blk hK zmm284 [] 1 27 [(2, 205), (0, p), (9, 0)] [(0, (-1))] μ1 [] rfl trivial ?_
    obtain ⟨f, q, f1, hff⟩ := hB (by omega)
    obtain ⟨hP9, nz9⟩ := zR2_0 (K := K) (V := V) (sh := μ 205 6) (cu := μ 205 7) (j := j) f1 hkj
    exact pm_iret rfl rfl ⟨_, f, q, rfl, hTμ1, hF, ⟨f, q, hP9, Or.inl ⟨nz9, rfl, rfl⟩⟩, Or.inr ⟨rfl, nz9, (by rw [eμ1]; exact zFm_up hff (by decide))⟩, A, fun h9 => absurd rfl h9⟩
set_option maxRecDepth 100000 in
theorem zm_deedl (hK : zKK ST)  {μ0 : pm_Mem} {sh cu : Int} {T : Int → Int} {L : Int} {K S V : Int → Int} {N : Int} {P : Nat → Int} (hsh0 : μ0 205 6 = sh) (hcu0 : μ0 205 7 = cu) (hb205 : sx_bit Wm 205 = true) (hb222 : sx_bit Wm 222 = true) (hbd : 6 ≤ bud.1 ∧ 134 ≤ bud.2.1) : ∀ (n : Nat) {i : Int} {μ : pm_Mem}, (16 - i).toNat = n → ∀ (hi : 0 ≤ i ∧ i ≤ 16) (hS : zQs (zLi0 (zPa2 K V sh cu) K 322) zcD T L K S V N P μ0 i μ) (hT : zTJ φ μ), zW D Wm ST b0 l Sg zM143 bud (pm_X zM143 (fun st' μ' => ∃ x, st' = [(0, x)] ∧ zTJ φ μ' ∧ zQo (zLi0 (zPa2 K V sh cu) K 322) zcD K S V μ0 x μ')) 2 [(2, 205), (0, i)] [] μ := by
  intro n
  induction n using Nat.strongRecOn with
  | ind n ih =>
    intro i μ hn hi hS hT
    obtain ⟨hF, hx, J, hch, hm, hce⟩ := id hS
    have hk := zMs_k hx hm
    obtain ⟨t1, t2, t3, t4⟩ := id hm
    obtain ⟨v1, v2, v3, v4, v5⟩ := id t3
    have hsh : μ 205 6 = sh := (hF.2.1 6 (by decide) (by decide) (by decide) (by decide) (by decide) (by decide) (by decide) (by decide) (by decide)).trans hsh0
    have hcu : μ 205 7 = cu := (hF.2.1 7 (by decide) (by decide) (by decide) (by decide) (by decide) (by decide) (by decide) (by decide) (by decide)).trans hcu0
    refine pm_blk hK zmm143 [] 2 5 [(2, 205), (0, i)] [(0, 22), (2, 205)] μ [] rfl trivial ?_
    refine pm_call hK zmm143 (245, 0, 142, 1) zM142 (0, 0) [(2, 205), (0, 22)] [] rfl rfl rfl rfl ⟨by omega, by rw [zn142]; omega⟩ (zm_isWord hK (kw := 322) (j := J i.toNat) hx hm (by decide) (by decide) ⟨Nat.le_refl _, Nat.le_refl _⟩) (fun st1 μc1 hp1 => ?_)
    obtain ⟨rfl, x1, rfl, hw1⟩ := hp1
    have hw := hw1
    refine pm_if hK zmm143 .eq 38 46 rfl rfl (fun h0 => ?_) (fun h0 => ?_)
    · have h0 : x1 = (0 : Int) := h0
      have hnk : K (J i.toNat) ≠ 322 := by omega
      have f1 := zT_get hT zs205_14 (i := 14) (by omega) (by omega)
      refine pm_blk hK zmm143 [] 2 50 [(2, 205), (0, i)] [(0, μ 205 14)] μ [] rfl trivial ?_
      refine pm_if hK zmm143 .ne 7 57 rfl rfl (fun h1 => ?_) (fun h1 => ?_)
      · have h1 : μ 205 14 ≠ (0 : Int) := h1
        refine pm_blk hK zmm143 [] 2 59 [(2, 205), (0, i)] [(0, 1), (2, 205)] μ [] rfl trivial ?_
        refine pm_call hK zmm143 (216, 0, 278, 1) zM278 (0, 0) [(2, 205), (0, 1)] [] rfl rfl rfl rfl ⟨by omega, by rw [zn278]; omega⟩ (zm_errs hK (j := J i.toNat) hx hm hT ⟨by omega, by omega⟩ hb205 ⟨Nat.le_refl _, Nat.le_refl _⟩) (fun st2 μc2 hp2 => ?_)
        obtain ⟨rfl, hTc2, hF2, hf2⟩ := hp2
        have hF := zMf_tr hF (zMf_r hF2)
        have hff := hf2
        first
        | exact pm_iret rfl rfl ⟨_, rfl, hTc2, zQo_e hi hF hch (by omega) hce⟩
        | exact pm_iret rfl rfl ⟨_, rfl, hTc2, zQo_f (f := 1) (q := J i.toNat) hi.1 hF hch (by omega) (by decide) (Or.inl ⟨rfl, rfl, hnk⟩) hff⟩
        | (exfalso; omega)
      · have h1 : μ 205 14 = (0 : Int) := h1
        refine pm_blk hK zmm143 [] 2 62 [(2, 205), (0, i)] [(0, i)] μ [] rfl trivial ?_
        first
        | exact pm_iret rfl rfl ⟨_, rfl, hT, zQo_e hi hF hch (by omega) hce⟩
        | exact pm_iret rfl rfl ⟨_, rfl, hT, zQo_f (f := 1) (q := J i.toNat) hi.1 hF hch (by omega) (by decide) (Or.inl ⟨rfl, rfl, hnk⟩) hff⟩
        | (exfalso; omega)
    · have h0 : x1 ≠ (0 : Int) := h0
      have hkw : K (J i.toNat) = 322 := by omega
      refine pm_blk hK zmm143 [] 2 14 [(2, 205), (0, i)] [(0, 16), (0, i)] μ [] rfl trivial ?_
      refine pm_icmp hK zmm143 .ne 9 23 rfl rfl (fun h2 => ?_) (fun h2 => ?_)
      · have h2 : i ≠ (16 : Int) := h2
        refine pm_blk hK zmm143 [] 6 30 [(2, 205), (0, i)] [(0, 64 + (4 * i)), (2, 205)] μ [pm_in (4 * i), pm_in (64 + (4 * i))] rfl ⟨pm_in_mk (by omega) (by omega), pm_in_mk (by omega) (by omega), trivial⟩ ?_
        refine pm_call hK zmm143 (283, 0, 284, 1) zM284 (5, 111) [(2, 205), (0, 64 + (4 * i))] [] rfl rfl rfl rfl ⟨by omega, by rw [zn284]; omega⟩ (zm_deed hK (p := (64 + (4 * i))) (z := 16 + i) (j := J i.toNat) hx hm (by omega) ⟨by omega, by omega⟩ hkw hT hb205 hb222 ⟨Nat.le_refl _, Nat.le_refl _⟩) (fun st3 μc3 hp3 => ?_)
        obtain ⟨x3, ff, qq, rfl, hTc3, hF3, hLL, hQ, hAA, hDD⟩ := hp3
        rw [hsh, hcu] at hLL
        have hx := zMx_f hx hF3
        have hF := zMf_tr hF hF3
        refine pm_blk hK zmm143 [] 1 34 [(2, 205), (0, i)] [(0, (-1)), (0, x3)] μc3 [] rfl trivial ?_
        refine pm_icmp hK zmm143 .ne 5 39 rfl rfl (fun h3 => ?_) (fun h3 => ?_)
        · have h3 : x3 ≠ ((-1) : Int) := h3
          refine pm_blk hK zmm143 [] 5 2 [(2, 205), (0, i + 1)] [] μc3 [pm_in (i + 1)] rfl ⟨pm_in_mk (by omega) (by omega), trivial⟩ ?_
          rcases hQ with ⟨a1, a2, a3⟩ | ⟨a1, -⟩
          · subst a2
            exact ih _ (by omega) rfl ⟨by omega, by omega⟩ (zQs_ok hi.1 hF hx hch (Or.inr (Or.inr ⟨hkw, by omega, hLL⟩)) a3 (zcD_add (i := i) (by omega) hce hAA (hDD a1))) hTc3
          · exact absurd a1 h3
        · have h3 : x3 = ((-1) : Int) := h3
          refine pm_blk hK zmm143 [] 1 38 [(2, 205), (0, i)] [(0, (-1))] μc3 [] rfl trivial ?_
          rcases hQ with ⟨a1, -⟩ | ⟨a1, a2, a3⟩
          · exact absurd h3 a1
          · exact pm_iret rfl rfl ⟨_, rfl, hTc3, zQo_f hi.1 hF hch (by omega) a2 (Or.inr (Or.inr ⟨hkw, by omega, hLL⟩)) a3⟩
      · have h2 : i = (16 : Int) := h2
        refine pm_blk hK zmm143 [] 2 19 [(2, 205), (0, i)] [(0, 3), (2, 205)] μ [] rfl trivial ?_
        refine pm_call hK zmm143 (216, 0, 278, 1) zM278 (0, 0) [(2, 205), (0, 3)] [] rfl rfl rfl rfl ⟨by omega, by rw [zn278]; omega⟩ (zm_errs hK (j := J i.toNat) hx hm hT ⟨by omega, by omega⟩ hb205 ⟨Nat.le_refl _, Nat.le_refl _⟩) (fun st4 μc4 hp4 => ?_)
        obtain ⟨rfl, hTc4, hF4, hf4⟩ := hp4
        have hF := zMf_tr hF (zMf_r hF4)
        have hff := hf4
        exact pm_iret rfl rfl ⟨_, rfl, hTc4, zQo_f (f := 3) (q := J i.toNat) hi.1 hF hch (by omega) (by decide) (Or.inr (Or.inl ⟨rfl, rfl, hkw, by omega⟩)) hff⟩
set_option maxRecDepth 100000 in
theorem zm_deeds (hK : zKK ST) {sh cu : Int} {T : Int → Int} {L : Int} {K S V : Int → Int} {N : Int} {P : Nat → Int} (hx : zMx T L K S V N P μ) (h : zMs K S V N P 0 μ) (hsh : μ 205 6 = sh) (hcu : μ 205 7 = cu) (hT : zTJ φ μ) (hb205 : sx_bit Wm 205 = true) (hb222 : sx_bit Wm 222 = true) (hbd : 6 ≤ bud.1 ∧ 134 ≤ bud.2.1) : zC D Wm ST b0 l Sg zM143 bud [(2, 205)] μ (fun st' μ' => ∃ x, st' = [(0, x)] ∧ zTJ φ μ' ∧ zQo (zLi0 (zPa2 K V sh cu) K 322) zcD K S V μ x μ') := by
  refine pm_blk hK zmm143 [] 2 2 [(2, 205), (0, 0)] [] μ [] rfl trivial ?_
  exact zm_deedl hK (μ0 := μ) hsh hcu hb205 hb222 hbd _ rfl ⟨by omega, by omega⟩ ⟨zMf_refl, hx, fun _ => 0, ⟨rfl, fun t ht => absurd ht (by omega)⟩, h, fun y y0 y1 => absurd y1 (by show ¬ y < ((0 : Nat) : Int); omega)⟩ hT
end ZHW
