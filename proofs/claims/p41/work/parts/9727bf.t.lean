/-! CALENDAR: the reference; walks printed by program (wip/p30/pmgen.py) and filled by hand -/
section ZHW
variable {φ : Option pm_Mem}
variable {D : va_G} {Wm : Nat} {ST : List (String × String × String × Nat)} {b0 : sx_B} {l : Launch} {Sg : Nat → Option Nat} {bud : sx_Bu} {μ : pm_Mem} {B0 : Nat → Prop} {J : (Nat → Option Nat) → Heap → Prop}
set_option maxRecDepth 100000 in
theorem zm_kod (hK : zKK ST) {T : Int → Int} {L : Int} {K S V : Int → Int} {n j : Int} {P : Nat → Int} (hx : zMx T L K S V n P μ) (h : zMs K S V n P j μ)  (hbd : 1 ≤ bud.1 ∧ 21 ≤ bud.2.1) : zC D Wm ST b0 l Sg zM285 bud [(2, 205)] μ (fun st' μ' => μ = μ' ∧ ∃ x, st' = [(0, x)] ∧ ((x = 0 ∧ K j = 323) ∨ (x = 1 ∧ K j = 306) ∨ (x = 2 ∧ K j = 324) ∨ (x = 3 ∧ K j = 325) ∨ (x = -1 ∧ K j ≠ 323 ∧ K j ≠ 306 ∧ K j ≠ 324 ∧ K j ≠ 325))) := by
  have hm := h
  refine pm_blk hK zmm285 [] 2 3 [(2, 205)] [(0, 23), (2, 205)] μ [] rfl trivial ?_
  refine pm_call hK zmm285 (245, 0, 142, 1) zM142 (0, 0) [(2, 205), (0, 23)] [] rfl rfl rfl rfl ⟨by omega, by rw [zn142]; omega⟩ (zm_isWord hK (kw := 323) (j := j) hx hm (by decide) (by decide) ⟨Nat.le_refl _, Nat.le_refl _⟩) (fun st1 μc1 hp1 => ?_)
  obtain ⟨rfl, x1, rfl, hw1⟩ := hp1
  have hw := hw1
  refine pm_if hK zmm285 .eq 5 11 rfl rfl (fun h0 => ?_) (fun h0 => ?_)
  · have h0 : x1 = (0 : Int) := h0
    refine pm_blk hK zmm285 [] 2 14 [(2, 205)] [(0, 10), (2, 205)] μ [] rfl trivial ?_
    refine pm_call hK zmm285 (245, 0, 142, 1) zM142 (0, 0) [(2, 205), (0, 10)] [] rfl rfl rfl rfl ⟨by omega, by rw [zn142]; omega⟩ (zm_isWord hK (kw := 306) (j := j) hx hm (by decide) (by decide) ⟨Nat.le_refl _, Nat.le_refl _⟩) (fun st2 μc2 hp2 => ?_)
    obtain ⟨rfl, x2, rfl, hw2⟩ := hp2
    have hw := hw2
    refine pm_if hK zmm285 .eq 5 22 rfl rfl (fun h1 => ?_) (fun h1 => ?_)
    · have h1 : x2 = (0 : Int) := h1
      refine pm_blk hK zmm285 [] 2 25 [(2, 205)] [(0, 24), (2, 205)] μ [] rfl trivial ?_
      refine pm_call hK zmm285 (245, 0, 142, 1) zM142 (0, 0) [(2, 205), (0, 24)] [] rfl rfl rfl rfl ⟨by omega, by rw [zn142]; omega⟩ (zm_isWord hK (kw := 324) (j := j) hx hm (by decide) (by decide) ⟨Nat.le_refl _, Nat.le_refl _⟩) (fun st3 μc3 hp3 => ?_)
      obtain ⟨rfl, x3, rfl, hw3⟩ := hp3
      have hw := hw3
      refine pm_if hK zmm285 .eq 7 35 rfl rfl (fun h2 => ?_) (fun h2 => ?_)
      · have h2 : x3 = (0 : Int) := h2
        refine pm_blk hK zmm285 [] 2 38 [(2, 205)] [(0, 25), (2, 205)] μ [] rfl trivial ?_
        refine pm_call hK zmm285 (245, 0, 142, 1) zM142 (0, 0) [(2, 205), (0, 25)] [] rfl rfl rfl rfl ⟨by omega, by rw [zn142]; omega⟩ (zm_isWord hK (kw := 325) (j := j) hx hm (by decide) (by decide) ⟨Nat.le_refl _, Nat.le_refl _⟩) (fun st4 μc4 hp4 => ?_)
        obtain ⟨rfl, x4, rfl, hw4⟩ := hp4
        have hw := hw4
        refine pm_if hK zmm285 .eq 7 48 rfl rfl (fun h3 => ?_) (fun h3 => ?_)
        · have h3 : x4 = (0 : Int) := h3
          refine pm_blk hK zmm285 [] 1 49 [(2, 205)] [(0, (-1))] μ [] rfl trivial ?_
          exact pm_iret rfl rfl ⟨rfl, _, rfl, by omega⟩
        · have h3 : x4 ≠ (0 : Int) := h3
          refine pm_blk hK zmm285 [] 2 49 [(2, 205)] [(0, 3)] μ [] rfl trivial ?_
          exact pm_iret rfl rfl ⟨rfl, _, rfl, by omega⟩
      · have h2 : x3 ≠ (0 : Int) := h2
        refine pm_blk hK zmm285 [] 2 49 [(2, 205)] [(0, 2)] μ [] rfl trivial ?_
        exact pm_iret rfl rfl ⟨rfl, _, rfl, by omega⟩
    · have h1 : x2 ≠ (0 : Int) := h1
      refine pm_blk hK zmm285 [] 1 21 [(2, 205)] [(0, 1)] μ [] rfl trivial ?_
      exact pm_iret rfl rfl ⟨rfl, _, rfl, by omega⟩
  · have h0 : x1 ≠ (0 : Int) := h0
    refine pm_blk hK zmm285 [] 1 10 [(2, 205)] [(0, 0)] μ [] rfl trivial ?_
    exact pm_iret rfl rfl ⟨rfl, _, rfl, by omega⟩
set_option maxHeartbeats 4000000 in
set_option maxRecDepth 100000 in
theorem zm_deed0 (hK : zKK ST) {p z : Int} {μm : pm_Mem} {T : Int → Int} {L : Int} {K S V : Int → Int} {n j : Int} {P : Nat → Int} (hx : zMx T L K S V n P μm) (hm : zMs K S V n P (j + 2) μm) (hF : zMf μ μm) (hp : p = 4 * z) (hz : 16 ≤ z ∧ z < 32) (hT0 : zTJ φ μ) (hT : zTJ φ μm) (hb205 : sx_bit Wm 205 = true) (hb222 : sx_bit Wm 222 = true) (a3 : K (j + 1) = 256) (a4 : 0 ≤ V (j + 1)) (a5 : V (j + 1) ≤ 999) (hkk : K (j + 2) = 323) (A : ∀ i, i < p → μm 222 i = μ 222 i) (w0 : μm 222 p = V (j + 1)) (hj2 : j + 2 ≤ n) (hbd : 5 ≤ bud.1 ∧ 111 ≤ bud.2.1) : zW D Wm ST b0 l Sg zM284 bud (pm_X zM284 (fun st' μ' => ∃ x f q, st' = [(0, x)] ∧ zTJ φ μ' ∧ zMf μ μ' ∧ (∃ g p, zPa2 K V (μ 205 6) (μ 205 7) (j + 1) g p ∧ ((g ≠ 0 ∧ f = g ∧ q = p) ∨ (g = 0 ∧ f = 1 ∧ q = p ∧ K p ≠ 59) ∨ (g = 0 ∧ f = 0 ∧ q = p + 1 ∧ K p = 59))) ∧ ((x ≠ -1 ∧ f = 0 ∧ zMs K S V n P q μ') ∨ (x = -1 ∧ f ≠ 0 ∧ zFm S f q μ')) ∧ (∀ i, i < p → μ' 222 i = μ 222 i) ∧ (x ≠ -1 → zDeed (μ' 222 (p + 1)) (μ' 222 (p + 2)) (μ' 222 (p + 3)) ∧ μ' 222 p = V (j + 1) ∧ zkd (μ' 222 (p + 1)) (K (j + 2)) ∧ μ' 222 (p + 2) = V (j + 3) ∧ μ' 222 (p + 3) = V (j + 4)))) 33 [(2, 205), (0, p), (0, 0)] [] μm := by
  have f6 := zT_get hT0 zs205_6 (i := 6) (by omega) (by omega)
  have f7 := zT_get hT0 zs205_7 (i := 7) (by omega) (by omega)
  have e11 : j + 1 + 1 = j + 2 := by omega
  have e12 : j + 1 + 2 = j + 3 := by omega
  have e13 : j + 1 + 3 = j + 4 := by omega
  have e14 : j + 1 + 4 = j + 5 := by omega
  have e15 : j + 1 + 5 = j + 6 := by omega
  have e16 : j + 1 + 6 = j + 7 := by omega
  have hj3 : j + 2 < n := by rcases zMs_k hx hm with hk | hk; exact hk.2; omega
  refine pm_blk hK zmm284 [] 2 35 [(2, 205), (0, p), (0, 0)] [(0, (-1)), (0, 0)] μm [] rfl trivial ?_
  refine pm_icmp hK zmm284 .ne 9 44 rfl rfl (fun h0 => ?_) (fun h0 => ?_)
  · have h0 : (0 : Int) ≠ ((-1) : Int) := h0
    refine pm_blk hK zmm284 [] 1 45 [(2, 205), (0, p), (0, 0)] [(2, 205)] μm [] rfl trivial ?_
    refine pm_call hK zmm284 (223, 0, 139, 0) zM139 (2, 44) [(2, 205)] [] rfl rfl rfl rfl ⟨by omega, by rw [zn139]; omega⟩ (zt_reads hK hT (zMs_sp hx hm (by omega)) hb205 ⟨Nat.le_refl _, Nat.le_refl _⟩) (fun st1 μc1 hp1 => ?_)
    obtain ⟨rfl, hTc1, hr1⟩ := hp1
    have hm := zMs_rd hx hm (by omega) hr1
    rw [show j + 2 + 1 = j + 3 by omega] at hm
    have hF := zMf_tr hF (zMf_fr hr1.1)
    have hx := zMx_f hx (zMf_fr hr1.1)
    have hk := zMs_k hx hm
    have A : ∀ i, i < p → μc1 222 i = μ 222 i := fun i hi => Eq.trans (by rw [hr1.1.1 222 (by decide)]) (A i hi)
    have w0 : μc1 222 p = V (j + 1) := by rw [hr1.1.1 222 (by decide)]; exact w0
    refine pm_blk hK zmm284 [] 7 57 [(2, 205), (0, p), (0, 0)] [] (pm_up μc1 222 (p + 1) 0) [pm_in (p + 1), sx_bit Wm 222 = true, 0 ≤ p + 1 ∧ p + 1 < 128] rfl ⟨pm_in_mk (by omega) (by omega), hb222, ⟨by omega, by omega⟩, trivial⟩ ?_
    obtain ⟨μ1, eμ1⟩ : ∃ μ', μ' = pm_up μc1 222 (p + 1) 0 := ⟨_, rfl⟩
    rw [← eμ1]
    have hTμ1 : zTJ φ μ1 := by rw [eμ1]; exact zT_deed hTc1 zp222_1 (z := z) (by omega) (by omega) (by omega) (by omega) (by omega)
    have hFp := hF
    have hF : zMf μ μ1 := by rw [eμ1]; exact zMf_222 hFp (by omega)
    have hxp := hx
    have hx : zMx T L K S V n P μ1 := by rw [eμ1]; exact zMx_up hxp (by decide) (by decide)
    have hmp := hm
    have hm : zMs K S V n P (j + 3) μ1 := by rw [eμ1]; exact zMs_up hmp (by decide)
    have e6 : μ1 205 6 = μ 205 6 := hF.2.1 6 (by decide) (by decide) (by decide) (by decide) (by decide) (by decide) (by decide) (by decide) (by decide)
    have e7 : μ1 205 7 = μ 205 7 := hF.2.1 7 (by decide) (by decide) (by decide) (by decide) (by decide) (by decide) (by decide) (by decide) (by decide)
    have w1 : μ1 222 (p + 1) = 0 := by rw [eμ1, pm_up_eq]
    have A : ∀ i, i < p → μ1 222 i = μ 222 i := fun i hi => Eq.trans (by rw [eμ1, pm_up_ne (by omega)]) (A i hi)
    have w0 : μ1 222 p = V (j + 1) := by rw [eμ1, pm_up_ne (by omega)]; exact w0
    refine pm_blk hK zmm284 [] 9 68 [(2, 205), (0, p), (0, 0)] [(0, 2), (0, 0), (0, 0), (2, 205), (0, p + 2), (2, 222)] μ1 [pm_in (p + 2)] rfl ⟨pm_in_mk (by omega) (by omega), trivial⟩ ?_
    refine pm_icmp hK zmm284 .ne 10 78 rfl rfl (fun h1 => ?_) (fun h1 => ?_)
    · have h1 : (0 : Int) ≠ (2 : Int) := h1
      have g1 : μ1 205 6 = μc1 205 6 := by rw [eμ1, pm_up_off (by decide)]
      have f2 := zT_get hTμ1 zs205_6 (i := 6) (by omega) (by omega)
      refine pm_blk hK zmm284 [] 4 84 [(2, 205), (0, p), (0, 0)] [(0, (μ1 205 6) - 1), (0, 0), (2, 205), (0, p + 2), (2, 222)] μ1 [pm_in ((μ1 205 6) - 1)] rfl ⟨pm_in_mk (by omega) (by omega), trivial⟩ ?_
      refine pm_call hK zmm284 (267, 0, 281, 2) zM281 (3, 65) [(2, 205), (0, 0), (0, (μ1 205 6) - 1)] [(0, p + 2), (2, 222)] rfl rfl rfl rfl ⟨by omega, by rw [zn281]; omega⟩ (zm_num hK (lo := 0) (hi := ((μ1 205 6) - 1)) (j := j + 3) (j1 := j + 4) hx hm (by omega) (by omega) hTμ1 hb205 ⟨Nat.le_refl _, Nat.le_refl _⟩) (fun st2 μc2 hp2 => ?_)
      obtain ⟨x2, rfl, hTc2, hF2, hA2, hB2⟩ := hp2
      have hF := zMf_tr hF (zMf_r hF2)
      have hx := zMx_f hx (zMf_r hF2)
      have hA := hA2
      have hB := hB2
      have hxr2 : x2 = -1 ∨ (0 ≤ x2 ∧ x2 ≤ ((μ1 205 6) - 1)) := by
        by_cases hq : x2 = -1
        · exact Or.inl hq
        · obtain ⟨q1, ⟨-, q2, q3⟩, -⟩ := hA hq
          exact Or.inr ⟨by omega, by omega⟩
      obtain ⟨xb, exb⟩ : ∃ y, y = x2 := ⟨_, rfl⟩
      have A : ∀ i, i < p → μc2 222 i = μ 222 i := fun i hi => Eq.trans (by rw [hF2.1 222 (by decide)]) (A i hi)
      have w1 : μc2 222 (p + 1) = 0 := by rw [hF2.1 222 (by decide)]; exact w1
      have w0 : μc2 222 p = V (j + 1) := by rw [hF2.1 222 (by decide)]; exact w0
      refine pm_blk hK zmm284 [] 1 88 [(2, 205), (0, p), (0, 0)] [] (pm_up μc2 222 (p + 2) x2) [sx_bit Wm 222 = true, 0 ≤ p + 2 ∧ p + 2 < 128] rfl ⟨hb222, ⟨by omega, by omega⟩, trivial⟩ ?_
      obtain ⟨μ2, eμ2⟩ : ∃ μ', μ' = pm_up μc2 222 (p + 2) x2 := ⟨_, rfl⟩
      rw [← eμ2]
      have hTμ2 : zTJ φ μ2 := by rw [eμ2]; exact zT_deed hTc2 zp222_2 (z := z) (by omega) (by omega) (by omega) (by omega) (by omega)
      have hFp := hF
      have hF : zMf μ μ2 := by rw [eμ2]; exact zMf_222 hFp (by omega)
      have hxp := hx
      have hx : zMx T L K S V n P μ2 := by rw [eμ2]; exact zMx_up hxp (by decide) (by decide)
      have v2 : μ2 222 (p + 2) = xb := by rw [eμ2, pm_up_eq, exb]
      have w2 : μ2 222 (p + 2) = xb := by rw [eμ2, pm_up_eq, exb]
      have w1 : μ2 222 (p + 1) = 0 := by rw [eμ2, pm_up_ne (by omega)]; exact w1
      have w0 : μ2 222 p = V (j + 1) := by rw [eμ2, pm_up_ne (by omega)]; exact w0
      have A : ∀ i, i < p → μ2 222 i = μ 222 i := fun i hi => Eq.trans (by rw [eμ2, pm_up_ne (by omega)]) (A i hi)
      have f3 := zT_getp hTμ2 zp222_2 (i := p + 2) (z := z) (by omega) (by omega) (by omega)
      refine pm_blk hK zmm284 [] 7 97 [(2, 205), (0, p), (0, 0)] [(0, (-1)), (0, μ2 222 (p + 2))] μ2 [pm_in (p + 2), 0 ≤ p + 2 ∧ p + 2 < 128] rfl ⟨pm_in_mk (by omega) (by omega), ⟨by omega, by omega⟩, trivial⟩ ?_
      refine pm_icmp hK zmm284 .ne 5 102 rfl rfl (fun h2 => ?_) (fun h2 => ?_)
      · have h2 : μ2 222 (p + 2) ≠ ((-1) : Int) := h2
        obtain ⟨b1, ⟨b2, b3, b4⟩, hm2⟩ := hA (by omega)
        have hm : zMs K S V n P (j + 4) μ2 := by rw [eμ2]; exact zMs_up hm2 (by decide)
        have e6 : μ2 205 6 = μ 205 6 := hF.2.1 6 (by decide) (by decide) (by decide) (by decide) (by decide) (by decide) (by decide) (by decide) (by decide)
        have e7 : μ2 205 7 = μ 205 7 := hF.2.1 7 (by decide) (by decide) (by decide) (by decide) (by decide) (by decide) (by decide) (by decide) (by decide)
        refine pm_blk hK zmm284 [] 7 111 [(2, 205), (0, p), (0, 0)] [(0, 3), (0, 0), (0, p + 3), (2, 222)] μ2 [pm_in (p + 3)] rfl ⟨pm_in_mk (by omega) (by omega), trivial⟩ ?_
        refine pm_icmp hK zmm284 .ne 17 128 rfl rfl (fun h3 => ?_) (fun h3 => ?_)
        · have h3 : (0 : Int) ≠ (3 : Int) := h3
          refine pm_blk hK zmm284 [] 2 130 [(2, 205), (0, p), (0, 0)] [(0, 0), (2, 205), (0, p + 3), (2, 222)] μ2 [] rfl trivial ?_
          refine pm_if hK zmm284 .ne 7 137 rfl rfl (fun h4 => ?_) (fun h4 => ?_)
          · have h4 : (0 : Int) ≠ (0 : Int) := h4
            exact absurd h4 (by decide)
          · have h4 : (0 : Int) = (0 : Int) := h4
            refine pm_blk hK zmm284 [] 4 140 [(2, 205), (0, p), (0, 0)] [(0, 2), (0, 0), (0, 0), (2, 205), (0, p + 3), (2, 222)] μ2 [] rfl trivial ?_
            refine pm_icmp hK zmm284 .ne 9 149 rfl rfl (fun h5 => ?_) (fun h5 => ?_)
            · have h5 : (0 : Int) ≠ (2 : Int) := h5
              refine pm_blk hK zmm284 [] 1 151 [(2, 205), (0, p), (0, 0)] [(0, 99), (0, 0), (2, 205), (0, p + 3), (2, 222)] μ2 [] rfl trivial ?_
              refine pm_call hK zmm284 (267, 0, 281, 2) zM281 (3, 65) [(2, 205), (0, 0), (0, 99)] [(0, p + 3), (2, 222)] rfl rfl rfl rfl ⟨by omega, by rw [zn281]; omega⟩ (zm_num hK (lo := 0) (hi := 99) (j := j + 4) (j1 := j + 5) hx hm (by omega) (by omega) hTμ2 hb205 ⟨Nat.le_refl _, Nat.le_refl _⟩) (fun st3 μc3 hp3 => ?_)
              obtain ⟨x3, rfl, hTc3, hF3, hA3, hB3⟩ := hp3
              have hF := zMf_tr hF (zMf_r hF3)
              have hx := zMx_f hx (zMf_r hF3)
              have hA := hA3
              have hB := hB3
              have hxr3 : x3 = -1 ∨ (0 ≤ x3 ∧ x3 ≤ 99) := by
                by_cases hq : x3 = -1
                · exact Or.inl hq
                · obtain ⟨q1, ⟨-, q2, q3⟩, -⟩ := hA hq
                  exact Or.inr ⟨by omega, by omega⟩
              obtain ⟨xc, exc⟩ : ∃ y, y = x3 := ⟨_, rfl⟩
              have A : ∀ i, i < p → μc3 222 i = μ 222 i := fun i hi => Eq.trans (by rw [hF3.1 222 (by decide)]) (A i hi)
              have w1 : μc3 222 (p + 1) = 0 := by rw [hF3.1 222 (by decide)]; exact w1
              have w2 : μc3 222 (p + 2) = xb := by rw [hF3.1 222 (by decide)]; exact w2
              have w0 : μc3 222 p = V (j + 1) := by rw [hF3.1 222 (by decide)]; exact w0
              refine pm_blk hK zmm284 [] 1 155 [(2, 205), (0, p), (0, 0)] [] (pm_up μc3 222 (p + 3) x3) [sx_bit Wm 222 = true, 0 ≤ p + 3 ∧ p + 3 < 128] rfl ⟨hb222, ⟨by omega, by omega⟩, trivial⟩ ?_
              obtain ⟨μ3, eμ3⟩ : ∃ μ', μ' = pm_up μc3 222 (p + 3) x3 := ⟨_, rfl⟩
              rw [← eμ3]
              have hTμ3 : zTJ φ μ3 := by rw [eμ3]; exact zT_deed hTc3 zp222_3 (z := z) (by omega) (by omega) (by omega) (by omega) (by omega)
              have hFp := hF
              have hF : zMf μ μ3 := by rw [eμ3]; exact zMf_222 hFp (by omega)
              have hxp := hx
              have hx : zMx T L K S V n P μ3 := by rw [eμ3]; exact zMx_up hxp (by decide) (by decide)
              have v3 : μ3 222 (p + 3) = xc := by rw [eμ3, pm_up_eq, exc]
              have w3 : μ3 222 (p + 3) = xc := by rw [eμ3, pm_up_eq, exc]
              have w1 : μ3 222 (p + 1) = 0 := by rw [eμ3, pm_up_ne (by omega)]; exact w1
              have w2 : μ3 222 (p + 2) = xb := by rw [eμ3, pm_up_ne (by omega)]; exact w2
              have w0 : μ3 222 p = V (j + 1) := by rw [eμ3, pm_up_ne (by omega)]; exact w0
              have A : ∀ i, i < p → μ3 222 i = μ 222 i := fun i hi => Eq.trans (by rw [eμ3, pm_up_ne (by omega)]) (A i hi)
              have f4 := zT_getp hTμ3 zp222_3 (i := p + 3) (z := z) (by omega) (by omega) (by omega)
              refine pm_blk hK zmm284 [] 7 164 [(2, 205), (0, p), (0, 0)] [(0, (-1)), (0, μ3 222 (p + 3))] μ3 [pm_in (p + 3), 0 ≤ p + 3 ∧ p + 3 < 128] rfl ⟨pm_in_mk (by omega) (by omega), ⟨by omega, by omega⟩, trivial⟩ ?_
              refine pm_icmp hK zmm284 .ne 7 171 rfl rfl (fun h6 => ?_) (fun h6 => ?_)
              · have h6 : μ3 222 (p + 3) ≠ ((-1) : Int) := h6
                obtain ⟨c1, ⟨c2, c3, c4⟩, hm3⟩ := hA (by omega)
                have hm : zMs K S V n P (j + 5) μ3 := by rw [eμ3]; exact zMs_up hm3 (by decide)
                refine pm_blk hK zmm284 [] 2 174 [(2, 205), (0, p), (0, 0)] [(0, 59), (2, 205)] μ3 [] rfl trivial ?_
                refine pm_call hK zmm284 (274, 0, 282, 1) zM282 (3, 65) [(2, 205), (0, 59)] [] rfl rfl rfl rfl ⟨by omega, by rw [zn282]; omega⟩ (zm_mark hK (c := 59) (j := j + 5) (j1 := j + 6) hx hm (by omega) (by decide) hTμ3 hb205 ⟨Nat.le_refl _, Nat.le_refl _⟩) (fun st4 μc4 hp4 => ?_)
                obtain ⟨x4, rfl, hTc4, hF4, hA4, hB4⟩ := hp4
                have hF := zMf_tr hF (zMf_r hF4)
                have hx := zMx_f hx (zMf_r hF4)
                have hA := hA4
                have hB := hB4
                have A : ∀ i, i < p → μc4 222 i = μ 222 i := fun i hi => Eq.trans (by rw [hF4.1 222 (by decide)]) (A i hi)
                have w1 : μc4 222 (p + 1) = 0 := by rw [hF4.1 222 (by decide)]; exact w1
                have w2 : μc4 222 (p + 2) = xb := by rw [hF4.1 222 (by decide)]; exact w2
                have w3 : μc4 222 (p + 3) = xc := by rw [hF4.1 222 (by decide)]; exact w3
                have w0 : μc4 222 p = V (j + 1) := by rw [hF4.1 222 (by decide)]; exact w0
                first
                | exact pm_iret rfl rfl ⟨_, f, (j + 4), rfl, hTc4, hF, ⟨f, (j + 4), hP9, Or.inl ⟨nz9, rfl, rfl⟩⟩, Or.inr ⟨rfl, nz9, (by rw [eμc4]; exact zFm_up hff (by decide))⟩, A, fun h9 => absurd rfl h9⟩
                | (have hP0 : zPa2 K V (μ 205 6) (μ 205 7) (j + 1) 0 (j + 5) := zR2_4 ⟨a3, a4, a5⟩ (by omega) (by omega) ⟨b2, b3, b4⟩ (by omega) ⟨c2, c3, c4⟩
                   by_cases h9 : x4 = -1
                   · obtain ⟨f, ⟨f1, f2⟩, hff⟩ := hB h9
                     exact pm_iret rfl rfl ⟨_, 1, j + 5, rfl, hTc4, hF, ⟨0, j + 5, hP0, Or.inr (Or.inl ⟨rfl, rfl, rfl, f2⟩)⟩, Or.inr ⟨h9, by decide, by rw [← f1]; exact hff⟩, A, fun h8 => absurd h9 h8⟩
                   · obtain ⟨-, d2, d3⟩ := hA h9
                     exact pm_iret rfl rfl ⟨_, 0, j + 6, rfl, hTc4, hF, ⟨0, j + 5, hP0, Or.inr (Or.inr ⟨rfl, rfl, by omega, d2⟩)⟩, Or.inl ⟨h9, rfl, d3⟩, A, fun _ => by rw [w1, w2, w3]; exact ⟨⟨by omega, by omega, by omega, by omega, fun _ => ⟨by omega, by omega⟩, fun _ => ⟨by omega, by omega⟩, fun _ => ⟨by omega, by omega⟩⟩, w0, by unfold zkd; omega, by omega, by omega⟩⟩)
                | (exfalso; omega)
              · have h6 : μ3 222 (p + 3) = ((-1) : Int) := h6
                obtain ⟨f, f1, hff⟩ := hB (by omega)
                obtain ⟨hP9, nz9⟩ := zR2_3 (K := K) (V := V) (sh := μ 205 6) (cu := μ 205 7) (j := j) ⟨a3, a4, a5⟩ (by omega) (by omega) ⟨b2, b3, b4⟩ (by omega) f1
                refine pm_blk hK zmm284 [] 2 177 [(2, 205), (0, p), (0, 0)] [(0, (-1))] μ3 [] rfl trivial ?_
                first
                | exact pm_iret rfl rfl ⟨_, f, (j + 4), rfl, hTμ3, hF, ⟨f, (j + 4), hP9, Or.inl ⟨nz9, rfl, rfl⟩⟩, Or.inr ⟨rfl, nz9, (by rw [eμ3]; exact zFm_up hff (by decide))⟩, A, fun h9 => absurd rfl h9⟩
                | (have hP0 : zPa2 K V (μ 205 6) (μ 205 7) (j + 1) 0 (j + 5) := zR2_4 ⟨a3, a4, a5⟩ (by omega) (by omega) ⟨b2, b3, b4⟩ (by omega) ⟨c2, c3, c4⟩
                   by_cases h9 : ((-1)) = -1
                   · obtain ⟨f, ⟨f1, f2⟩, hff⟩ := hB h9
                     exact pm_iret rfl rfl ⟨_, 1, j + 5, rfl, hTμ3, hF, ⟨0, j + 5, hP0, Or.inr (Or.inl ⟨rfl, rfl, rfl, f2⟩)⟩, Or.inr ⟨h9, by decide, by rw [← f1]; exact hff⟩, A, fun h8 => absurd h9 h8⟩
                   · obtain ⟨-, d2, d3⟩ := hA h9
                     exact pm_iret rfl rfl ⟨_, 0, j + 6, rfl, hTμ3, hF, ⟨0, j + 5, hP0, Or.inr (Or.inr ⟨rfl, rfl, by omega, d2⟩)⟩, Or.inl ⟨h9, rfl, d3⟩, A, fun _ => by rw [w1, w2, w3]; exact ⟨⟨by omega, by omega, by omega, by omega, fun _ => ⟨by omega, by omega⟩, fun _ => ⟨by omega, by omega⟩, fun _ => ⟨by omega, by omega⟩⟩, w0, by unfold zkd; omega, by omega, by omega⟩⟩)
                | (exfalso; omega)
            · have h5 : (0 : Int) = (2 : Int) := h5
              exact absurd h5 (by decide)
        · have h3 : (0 : Int) = (3 : Int) := h3
          exact absurd h3 (by decide)
      · have h2 : μ2 222 (p + 2) = ((-1) : Int) := h2
        refine pm_blk hK zmm284 [] 1 101 [(2, 205), (0, p), (0, 0)] [(0, (-1))] μ2 [] rfl trivial ?_
        obtain ⟨f, f1, hff⟩ := hB (by omega)
        obtain ⟨hP9, nz9⟩ := zR2_2 (K := K) (V := V) (sh := μ 205 6) (cu := μ 205 7) (j := j) ⟨a3, a4, a5⟩ (by omega) (by omega) f1
        exact pm_iret rfl rfl ⟨_, f, (j + 3), rfl, hTμ2, hF, ⟨f, (j + 3), hP9, Or.inl ⟨nz9, rfl, rfl⟩⟩, Or.inr ⟨rfl, nz9, (by rw [eμ2]; exact zFm_up hff (by decide))⟩, A, fun h9 => absurd rfl h9⟩
    · have h1 : (0 : Int) = (2 : Int) := h1
      exact absurd h1 (by decide)
  · have h0 : (0 : Int) = ((-1) : Int) := h0
    exact absurd h0 (by decide)
set_option maxHeartbeats 4000000 in
set_option maxRecDepth 100000 in
theorem zm_deed1 (hK : zKK ST) {p z : Int} {μm : pm_Mem} {T : Int → Int} {L : Int} {K S V : Int → Int} {n j : Int} {P : Nat → Int} (hx : zMx T L K S V n P μm) (hm : zMs K S V n P (j + 2) μm) (hF : zMf μ μm) (hp : p = 4 * z) (hz : 16 ≤ z ∧ z < 32) (hT0 : zTJ φ μ) (hT : zTJ φ μm) (hb205 : sx_bit Wm 205 = true) (hb222 : sx_bit Wm 222 = true) (a3 : K (j + 1) = 256) (a4 : 0 ≤ V (j + 1)) (a5 : V (j + 1) ≤ 999) (hkk : K (j + 2) = 306) (A : ∀ i, i < p → μm 222 i = μ 222 i) (w0 : μm 222 p = V (j + 1)) (hj2 : j + 2 ≤ n) (hbd : 5 ≤ bud.1 ∧ 111 ≤ bud.2.1) : zW D Wm ST b0 l Sg zM284 bud (pm_X zM284 (fun st' μ' => ∃ x f q, st' = [(0, x)] ∧ zTJ φ μ' ∧ zMf μ μ' ∧ (∃ g p, zPa2 K V (μ 205 6) (μ 205 7) (j + 1) g p ∧ ((g ≠ 0 ∧ f = g ∧ q = p) ∨ (g = 0 ∧ f = 1 ∧ q = p ∧ K p ≠ 59) ∨ (g = 0 ∧ f = 0 ∧ q = p + 1 ∧ K p = 59))) ∧ ((x ≠ -1 ∧ f = 0 ∧ zMs K S V n P q μ') ∨ (x = -1 ∧ f ≠ 0 ∧ zFm S f q μ')) ∧ (∀ i, i < p → μ' 222 i = μ 222 i) ∧ (x ≠ -1 → zDeed (μ' 222 (p + 1)) (μ' 222 (p + 2)) (μ' 222 (p + 3)) ∧ μ' 222 p = V (j + 1) ∧ zkd (μ' 222 (p + 1)) (K (j + 2)) ∧ μ' 222 (p + 2) = V (j + 3) ∧ μ' 222 (p + 3) = V (j + 4)))) 33 [(2, 205), (0, p), (0, 1)] [] μm := by
  have f6 := zT_get hT0 zs205_6 (i := 6) (by omega) (by omega)
  have f7 := zT_get hT0 zs205_7 (i := 7) (by omega) (by omega)
  have e11 : j + 1 + 1 = j + 2 := by omega
  have e12 : j + 1 + 2 = j + 3 := by omega
  have e13 : j + 1 + 3 = j + 4 := by omega
  have e14 : j + 1 + 4 = j + 5 := by omega
  have e15 : j + 1 + 5 = j + 6 := by omega
  have e16 : j + 1 + 6 = j + 7 := by omega
  have hj3 : j + 2 < n := by rcases zMs_k hx hm with hk | hk; exact hk.2; omega
  refine pm_blk hK zmm284 [] 2 35 [(2, 205), (0, p), (0, 1)] [(0, (-1)), (0, 1)] μm [] rfl trivial ?_
  refine pm_icmp hK zmm284 .ne 9 44 rfl rfl (fun h0 => ?_) (fun h0 => ?_)
  · have h0 : (1 : Int) ≠ ((-1) : Int) := h0
    refine pm_blk hK zmm284 [] 1 45 [(2, 205), (0, p), (0, 1)] [(2, 205)] μm [] rfl trivial ?_
    refine pm_call hK zmm284 (223, 0, 139, 0) zM139 (2, 44) [(2, 205)] [] rfl rfl rfl rfl ⟨by omega, by rw [zn139]; omega⟩ (zt_reads hK hT (zMs_sp hx hm (by omega)) hb205 ⟨Nat.le_refl _, Nat.le_refl _⟩) (fun st1 μc1 hp1 => ?_)
    obtain ⟨rfl, hTc1, hr1⟩ := hp1
    have hm := zMs_rd hx hm (by omega) hr1
    rw [show j + 2 + 1 = j + 3 by omega] at hm
    have hF := zMf_tr hF (zMf_fr hr1.1)
    have hx := zMx_f hx (zMf_fr hr1.1)
    have hk := zMs_k hx hm
    have A : ∀ i, i < p → μc1 222 i = μ 222 i := fun i hi => Eq.trans (by rw [hr1.1.1 222 (by decide)]) (A i hi)
    have w0 : μc1 222 p = V (j + 1) := by rw [hr1.1.1 222 (by decide)]; exact w0
    refine pm_blk hK zmm284 [] 7 57 [(2, 205), (0, p), (0, 1)] [] (pm_up μc1 222 (p + 1) 1) [pm_in (p + 1), sx_bit Wm 222 = true, 0 ≤ p + 1 ∧ p + 1 < 128] rfl ⟨pm_in_mk (by omega) (by omega), hb222, ⟨by omega, by omega⟩, trivial⟩ ?_
    obtain ⟨μ1, eμ1⟩ : ∃ μ', μ' = pm_up μc1 222 (p + 1) 1 := ⟨_, rfl⟩
    rw [← eμ1]
    have hTμ1 : zTJ φ μ1 := by rw [eμ1]; exact zT_deed hTc1 zp222_1 (z := z) (by omega) (by omega) (by omega) (by omega) (by omega)
    have hFp := hF
    have hF : zMf μ μ1 := by rw [eμ1]; exact zMf_222 hFp (by omega)
    have hxp := hx
    have hx : zMx T L K S V n P μ1 := by rw [eμ1]; exact zMx_up hxp (by decide) (by decide)
    have hmp := hm
    have hm : zMs K S V n P (j + 3) μ1 := by rw [eμ1]; exact zMs_up hmp (by decide)
    have e6 : μ1 205 6 = μ 205 6 := hF.2.1 6 (by decide) (by decide) (by decide) (by decide) (by decide) (by decide) (by decide) (by decide) (by decide)
    have e7 : μ1 205 7 = μ 205 7 := hF.2.1 7 (by decide) (by decide) (by decide) (by decide) (by decide) (by decide) (by decide) (by decide) (by decide)
    have w1 : μ1 222 (p + 1) = 1 := by rw [eμ1, pm_up_eq]
    have A : ∀ i, i < p → μ1 222 i = μ 222 i := fun i hi => Eq.trans (by rw [eμ1, pm_up_ne (by omega)]) (A i hi)
    have w0 : μ1 222 p = V (j + 1) := by rw [eμ1, pm_up_ne (by omega)]; exact w0
    refine pm_blk hK zmm284 [] 9 68 [(2, 205), (0, p), (0, 1)] [(0, 2), (0, 1), (0, 0), (2, 205), (0, p + 2), (2, 222)] μ1 [pm_in (p + 2)] rfl ⟨pm_in_mk (by omega) (by omega), trivial⟩ ?_
    refine pm_icmp hK zmm284 .ne 10 78 rfl rfl (fun h1 => ?_) (fun h1 => ?_)
    · have h1 : (1 : Int) ≠ (2 : Int) := h1
      have g1 : μ1 205 6 = μc1 205 6 := by rw [eμ1, pm_up_off (by decide)]
      have f2 := zT_get hTμ1 zs205_6 (i := 6) (by omega) (by omega)
      refine pm_blk hK zmm284 [] 4 84 [(2, 205), (0, p), (0, 1)] [(0, (μ1 205 6) - 1), (0, 0), (2, 205), (0, p + 2), (2, 222)] μ1 [pm_in ((μ1 205 6) - 1)] rfl ⟨pm_in_mk (by omega) (by omega), trivial⟩ ?_
      refine pm_call hK zmm284 (267, 0, 281, 2) zM281 (3, 65) [(2, 205), (0, 0), (0, (μ1 205 6) - 1)] [(0, p + 2), (2, 222)] rfl rfl rfl rfl ⟨by omega, by rw [zn281]; omega⟩ (zm_num hK (lo := 0) (hi := ((μ1 205 6) - 1)) (j := j + 3) (j1 := j + 4) hx hm (by omega) (by omega) hTμ1 hb205 ⟨Nat.le_refl _, Nat.le_refl _⟩) (fun st2 μc2 hp2 => ?_)
      obtain ⟨x2, rfl, hTc2, hF2, hA2, hB2⟩ := hp2
      have hF := zMf_tr hF (zMf_r hF2)
      have hx := zMx_f hx (zMf_r hF2)
      have hA := hA2
      have hB := hB2
      have hxr2 : x2 = -1 ∨ (0 ≤ x2 ∧ x2 ≤ ((μ1 205 6) - 1)) := by
        by_cases hq : x2 = -1
        · exact Or.inl hq
        · obtain ⟨q1, ⟨-, q2, q3⟩, -⟩ := hA hq
          exact Or.inr ⟨by omega, by omega⟩
      obtain ⟨xb, exb⟩ : ∃ y, y = x2 := ⟨_, rfl⟩
      have A : ∀ i, i < p → μc2 222 i = μ 222 i := fun i hi => Eq.trans (by rw [hF2.1 222 (by decide)]) (A i hi)
      have w1 : μc2 222 (p + 1) = 1 := by rw [hF2.1 222 (by decide)]; exact w1
      have w0 : μc2 222 p = V (j + 1) := by rw [hF2.1 222 (by decide)]; exact w0
      refine pm_blk hK zmm284 [] 1 88 [(2, 205), (0, p), (0, 1)] [] (pm_up μc2 222 (p + 2) x2) [sx_bit Wm 222 = true, 0 ≤ p + 2 ∧ p + 2 < 128] rfl ⟨hb222, ⟨by omega, by omega⟩, trivial⟩ ?_
      obtain ⟨μ2, eμ2⟩ : ∃ μ', μ' = pm_up μc2 222 (p + 2) x2 := ⟨_, rfl⟩
      rw [← eμ2]
      have hTμ2 : zTJ φ μ2 := by rw [eμ2]; exact zT_deed hTc2 zp222_2 (z := z) (by omega) (by omega) (by omega) (by omega) (by omega)
      have hFp := hF
      have hF : zMf μ μ2 := by rw [eμ2]; exact zMf_222 hFp (by omega)
      have hxp := hx
      have hx : zMx T L K S V n P μ2 := by rw [eμ2]; exact zMx_up hxp (by decide) (by decide)
      have v2 : μ2 222 (p + 2) = xb := by rw [eμ2, pm_up_eq, exb]
      have w2 : μ2 222 (p + 2) = xb := by rw [eμ2, pm_up_eq, exb]
      have w1 : μ2 222 (p + 1) = 1 := by rw [eμ2, pm_up_ne (by omega)]; exact w1
      have w0 : μ2 222 p = V (j + 1) := by rw [eμ2, pm_up_ne (by omega)]; exact w0
      have A : ∀ i, i < p → μ2 222 i = μ 222 i := fun i hi => Eq.trans (by rw [eμ2, pm_up_ne (by omega)]) (A i hi)
      have f3 := zT_getp hTμ2 zp222_2 (i := p + 2) (z := z) (by omega) (by omega) (by omega)
      refine pm_blk hK zmm284 [] 7 97 [(2, 205), (0, p), (0, 1)] [(0, (-1)), (0, μ2 222 (p + 2))] μ2 [pm_in (p + 2), 0 ≤ p + 2 ∧ p + 2 < 128] rfl ⟨pm_in_mk (by omega) (by omega), ⟨by omega, by omega⟩, trivial⟩ ?_
      refine pm_icmp hK zmm284 .ne 5 102 rfl rfl (fun h2 => ?_) (fun h2 => ?_)
      · have h2 : μ2 222 (p + 2) ≠ ((-1) : Int) := h2
        obtain ⟨b1, ⟨b2, b3, b4⟩, hm2⟩ := hA (by omega)
        have hm : zMs K S V n P (j + 4) μ2 := by rw [eμ2]; exact zMs_up hm2 (by decide)
        have e6 : μ2 205 6 = μ 205 6 := hF.2.1 6 (by decide) (by decide) (by decide) (by decide) (by decide) (by decide) (by decide) (by decide) (by decide)
        have e7 : μ2 205 7 = μ 205 7 := hF.2.1 7 (by decide) (by decide) (by decide) (by decide) (by decide) (by decide) (by decide) (by decide) (by decide)
        refine pm_blk hK zmm284 [] 7 111 [(2, 205), (0, p), (0, 1)] [(0, 3), (0, 1), (0, p + 3), (2, 222)] μ2 [pm_in (p + 3)] rfl ⟨pm_in_mk (by omega) (by omega), trivial⟩ ?_
        refine pm_icmp hK zmm284 .ne 17 128 rfl rfl (fun h3 => ?_) (fun h3 => ?_)
        · have h3 : (1 : Int) ≠ (3 : Int) := h3
          refine pm_blk hK zmm284 [] 2 130 [(2, 205), (0, p), (0, 1)] [(0, 1), (2, 205), (0, p + 3), (2, 222)] μ2 [] rfl trivial ?_
          refine pm_if hK zmm284 .ne 7 137 rfl rfl (fun h4 => ?_) (fun h4 => ?_)
          · have h4 : (1 : Int) ≠ (0 : Int) := h4
            refine pm_blk hK zmm284 [] 3 140 [(2, 205), (0, p), (0, 1)] [(0, 2), (0, 1), (0, 1), (2, 205), (0, p + 3), (2, 222)] μ2 [] rfl trivial ?_
            refine pm_icmp hK zmm284 .ne 9 149 rfl rfl (fun h5 => ?_) (fun h5 => ?_)
            · have h5 : (1 : Int) ≠ (2 : Int) := h5
              refine pm_blk hK zmm284 [] 1 151 [(2, 205), (0, p), (0, 1)] [(0, 99), (0, 1), (2, 205), (0, p + 3), (2, 222)] μ2 [] rfl trivial ?_
              refine pm_call hK zmm284 (267, 0, 281, 2) zM281 (3, 65) [(2, 205), (0, 1), (0, 99)] [(0, p + 3), (2, 222)] rfl rfl rfl rfl ⟨by omega, by rw [zn281]; omega⟩ (zm_num hK (lo := 1) (hi := 99) (j := j + 4) (j1 := j + 5) hx hm (by omega) (by omega) hTμ2 hb205 ⟨Nat.le_refl _, Nat.le_refl _⟩) (fun st3 μc3 hp3 => ?_)
              obtain ⟨x3, rfl, hTc3, hF3, hA3, hB3⟩ := hp3
              have hF := zMf_tr hF (zMf_r hF3)
              have hx := zMx_f hx (zMf_r hF3)
              have hA := hA3
              have hB := hB3
              have hxr3 : x3 = -1 ∨ (1 ≤ x3 ∧ x3 ≤ 99) := by
                by_cases hq : x3 = -1
                · exact Or.inl hq
                · obtain ⟨q1, ⟨-, q2, q3⟩, -⟩ := hA hq
                  exact Or.inr ⟨by omega, by omega⟩
              obtain ⟨xc, exc⟩ : ∃ y, y = x3 := ⟨_, rfl⟩
              have A : ∀ i, i < p → μc3 222 i = μ 222 i := fun i hi => Eq.trans (by rw [hF3.1 222 (by decide)]) (A i hi)
              have w1 : μc3 222 (p + 1) = 1 := by rw [hF3.1 222 (by decide)]; exact w1
              have w2 : μc3 222 (p + 2) = xb := by rw [hF3.1 222 (by decide)]; exact w2
              have w0 : μc3 222 p = V (j + 1) := by rw [hF3.1 222 (by decide)]; exact w0
              refine pm_blk hK zmm284 [] 1 155 [(2, 205), (0, p), (0, 1)] [] (pm_up μc3 222 (p + 3) x3) [sx_bit Wm 222 = true, 0 ≤ p + 3 ∧ p + 3 < 128] rfl ⟨hb222, ⟨by omega, by omega⟩, trivial⟩ ?_
              obtain ⟨μ3, eμ3⟩ : ∃ μ', μ' = pm_up μc3 222 (p + 3) x3 := ⟨_, rfl⟩
              rw [← eμ3]
              have hTμ3 : zTJ φ μ3 := by rw [eμ3]; exact zT_deed hTc3 zp222_3 (z := z) (by omega) (by omega) (by omega) (by omega) (by omega)
              have hFp := hF
              have hF : zMf μ μ3 := by rw [eμ3]; exact zMf_222 hFp (by omega)
              have hxp := hx
              have hx : zMx T L K S V n P μ3 := by rw [eμ3]; exact zMx_up hxp (by decide) (by decide)
              have v3 : μ3 222 (p + 3) = xc := by rw [eμ3, pm_up_eq, exc]
              have w3 : μ3 222 (p + 3) = xc := by rw [eμ3, pm_up_eq, exc]
              have w1 : μ3 222 (p + 1) = 1 := by rw [eμ3, pm_up_ne (by omega)]; exact w1
              have w2 : μ3 222 (p + 2) = xb := by rw [eμ3, pm_up_ne (by omega)]; exact w2
              have w0 : μ3 222 p = V (j + 1) := by rw [eμ3, pm_up_ne (by omega)]; exact w0
              have A : ∀ i, i < p → μ3 222 i = μ 222 i := fun i hi => Eq.trans (by rw [eμ3, pm_up_ne (by omega)]) (A i hi)
              have f4 := zT_getp hTμ3 zp222_3 (i := p + 3) (z := z) (by omega) (by omega) (by omega)
              refine pm_blk hK zmm284 [] 7 164 [(2, 205), (0, p), (0, 1)] [(0, (-1)), (0, μ3 222 (p + 3))] μ3 [pm_in (p + 3), 0 ≤ p + 3 ∧ p + 3 < 128] rfl ⟨pm_in_mk (by omega) (by omega), ⟨by omega, by omega⟩, trivial⟩ ?_
              refine pm_icmp hK zmm284 .ne 7 171 rfl rfl (fun h6 => ?_) (fun h6 => ?_)
              · have h6 : μ3 222 (p + 3) ≠ ((-1) : Int) := h6
                obtain ⟨c1, ⟨c2, c3, c4⟩, hm3⟩ := hA (by omega)
                have hm : zMs K S V n P (j + 5) μ3 := by rw [eμ3]; exact zMs_up hm3 (by decide)
                refine pm_blk hK zmm284 [] 2 174 [(2, 205), (0, p), (0, 1)] [(0, 59), (2, 205)] μ3 [] rfl trivial ?_
                refine pm_call hK zmm284 (274, 0, 282, 1) zM282 (3, 65) [(2, 205), (0, 59)] [] rfl rfl rfl rfl ⟨by omega, by rw [zn282]; omega⟩ (zm_mark hK (c := 59) (j := j + 5) (j1 := j + 6) hx hm (by omega) (by decide) hTμ3 hb205 ⟨Nat.le_refl _, Nat.le_refl _⟩) (fun st4 μc4 hp4 => ?_)
                obtain ⟨x4, rfl, hTc4, hF4, hA4, hB4⟩ := hp4
                have hF := zMf_tr hF (zMf_r hF4)
                have hx := zMx_f hx (zMf_r hF4)
                have hA := hA4
                have hB := hB4
                have A : ∀ i, i < p → μc4 222 i = μ 222 i := fun i hi => Eq.trans (by rw [hF4.1 222 (by decide)]) (A i hi)
                have w1 : μc4 222 (p + 1) = 1 := by rw [hF4.1 222 (by decide)]; exact w1
                have w2 : μc4 222 (p + 2) = xb := by rw [hF4.1 222 (by decide)]; exact w2
                have w3 : μc4 222 (p + 3) = xc := by rw [hF4.1 222 (by decide)]; exact w3
                have w0 : μc4 222 p = V (j + 1) := by rw [hF4.1 222 (by decide)]; exact w0
                first
                | exact pm_iret rfl rfl ⟨_, f, (j + 4), rfl, hTc4, hF, ⟨f, (j + 4), hP9, Or.inl ⟨nz9, rfl, rfl⟩⟩, Or.inr ⟨rfl, nz9, (by rw [eμc4]; exact zFm_up hff (by decide))⟩, A, fun h9 => absurd rfl h9⟩
                | (have hP0 : zPa2 K V (μ 205 6) (μ 205 7) (j + 1) 0 (j + 5) := zR2_4 ⟨a3, a4, a5⟩ (by omega) (by omega) ⟨b2, b3, b4⟩ (by omega) ⟨c2, c3, c4⟩
                   by_cases h9 : x4 = -1
                   · obtain ⟨f, ⟨f1, f2⟩, hff⟩ := hB h9
                     exact pm_iret rfl rfl ⟨_, 1, j + 5, rfl, hTc4, hF, ⟨0, j + 5, hP0, Or.inr (Or.inl ⟨rfl, rfl, rfl, f2⟩)⟩, Or.inr ⟨h9, by decide, by rw [← f1]; exact hff⟩, A, fun h8 => absurd h9 h8⟩
                   · obtain ⟨-, d2, d3⟩ := hA h9
                     exact pm_iret rfl rfl ⟨_, 0, j + 6, rfl, hTc4, hF, ⟨0, j + 5, hP0, Or.inr (Or.inr ⟨rfl, rfl, by omega, d2⟩)⟩, Or.inl ⟨h9, rfl, d3⟩, A, fun _ => by rw [w1, w2, w3]; exact ⟨⟨by omega, by omega, by omega, by omega, fun _ => ⟨by omega, by omega⟩, fun _ => ⟨by omega, by omega⟩, fun _ => ⟨by omega, by omega⟩⟩, w0, by unfold zkd; omega, by omega, by omega⟩⟩)
                | (exfalso; omega)
              · have h6 : μ3 222 (p + 3) = ((-1) : Int) := h6
                obtain ⟨f, f1, hff⟩ := hB (by omega)
                obtain ⟨hP9, nz9⟩ := zR2_3 (K := K) (V := V) (sh := μ 205 6) (cu := μ 205 7) (j := j) ⟨a3, a4, a5⟩ (by omega) (by omega) ⟨b2, b3, b4⟩ (by omega) f1
                refine pm_blk hK zmm284 [] 2 177 [(2, 205), (0, p), (0, 1)] [(0, (-1))] μ3 [] rfl trivial ?_
                first
                | exact pm_iret rfl rfl ⟨_, f, (j + 4), rfl, hTμ3, hF, ⟨f, (j + 4), hP9, Or.inl ⟨nz9, rfl, rfl⟩⟩, Or.inr ⟨rfl, nz9, (by rw [eμ3]; exact zFm_up hff (by decide))⟩, A, fun h9 => absurd rfl h9⟩
                | (have hP0 : zPa2 K V (μ 205 6) (μ 205 7) (j + 1) 0 (j + 5) := zR2_4 ⟨a3, a4, a5⟩ (by omega) (by omega) ⟨b2, b3, b4⟩ (by omega) ⟨c2, c3, c4⟩
                   by_cases h9 : ((-1)) = -1
                   · obtain ⟨f, ⟨f1, f2⟩, hff⟩ := hB h9
                     exact pm_iret rfl rfl ⟨_, 1, j + 5, rfl, hTμ3, hF, ⟨0, j + 5, hP0, Or.inr (Or.inl ⟨rfl, rfl, rfl, f2⟩)⟩, Or.inr ⟨h9, by decide, by rw [← f1]; exact hff⟩, A, fun h8 => absurd h9 h8⟩
                   · obtain ⟨-, d2, d3⟩ := hA h9
                     exact pm_iret rfl rfl ⟨_, 0, j + 6, rfl, hTμ3, hF, ⟨0, j + 5, hP0, Or.inr (Or.inr ⟨rfl, rfl, by omega, d2⟩)⟩, Or.inl ⟨h9, rfl, d3⟩, A, fun _ => by rw [w1, w2, w3]; exact ⟨⟨by omega, by omega, by omega, by omega, fun _ => ⟨by omega, by omega⟩, fun _ => ⟨by omega, by omega⟩, fun _ => ⟨by omega, by omega⟩⟩, w0, by unfold zkd; omega, by omega, by omega⟩⟩)
                | (exfalso; omega)
            · have h5 : (1 : Int) = (2 : Int) := h5
              exact absurd h5 (by decide)
          · have h4 : (1 : Int) = (0 : Int) := h4
            exact absurd h4 (by decide)
        · have h3 : (1 : Int) = (3 : Int) := h3
          exact absurd h3 (by decide)
      · have h2 : μ2 222 (p + 2) = ((-1) : Int) := h2
        refine pm_blk hK zmm284 [] 1 101 [(2, 205), (0, p), (0, 1)] [(0, (-1))] μ2 [] rfl trivial ?_
        obtain ⟨f, f1, hff⟩ := hB (by omega)
        obtain ⟨hP9, nz9⟩ := zR2_2 (K := K) (V := V) (sh := μ 205 6) (cu := μ 205 7) (j := j) ⟨a3, a4, a5⟩ (by omega) (by omega) f1
        exact pm_iret rfl rfl ⟨_, f, (j + 3), rfl, hTμ2, hF, ⟨f, (j + 3), hP9, Or.inl ⟨nz9, rfl, rfl⟩⟩, Or.inr ⟨rfl, nz9, (by rw [eμ2]; exact zFm_up hff (by decide))⟩, A, fun h9 => absurd rfl h9⟩
    · have h1 : (1 : Int) = (2 : Int) := h1
      exact absurd h1 (by decide)
  · have h0 : (1 : Int) = ((-1) : Int) := h0
    exact absurd h0 (by decide)
set_option maxHeartbeats 4000000 in
set_option maxRecDepth 100000 in
theorem zm_deed2 (hK : zKK ST) {p z : Int} {μm : pm_Mem} {T : Int → Int} {L : Int} {K S V : Int → Int} {n j : Int} {P : Nat → Int} (hx : zMx T L K S V n P μm) (hm : zMs K S V n P (j + 2) μm) (hF : zMf μ μm) (hp : p = 4 * z) (hz : 16 ≤ z ∧ z < 32) (hT0 : zTJ φ μ) (hT : zTJ φ μm) (hb205 : sx_bit Wm 205 = true) (hb222 : sx_bit Wm 222 = true) (a3 : K (j + 1) = 256) (a4 : 0 ≤ V (j + 1)) (a5 : V (j + 1) ≤ 999) (hkk : K (j + 2) = 324) (A : ∀ i, i < p → μm 222 i = μ 222 i) (w0 : μm 222 p = V (j + 1)) (hj2 : j + 2 ≤ n) (hbd : 5 ≤ bud.1 ∧ 111 ≤ bud.2.1) : zW D Wm ST b0 l Sg zM284 bud (pm_X zM284 (fun st' μ' => ∃ x f q, st' = [(0, x)] ∧ zTJ φ μ' ∧ zMf μ μ' ∧ (∃ g p, zPa2 K V (μ 205 6) (μ 205 7) (j + 1) g p ∧ ((g ≠ 0 ∧ f = g ∧ q = p) ∨ (g = 0 ∧ f = 1 ∧ q = p ∧ K p ≠ 59) ∨ (g = 0 ∧ f = 0 ∧ q = p + 1 ∧ K p = 59))) ∧ ((x ≠ -1 ∧ f = 0 ∧ zMs K S V n P q μ') ∨ (x = -1 ∧ f ≠ 0 ∧ zFm S f q μ')) ∧ (∀ i, i < p → μ' 222 i = μ 222 i) ∧ (x ≠ -1 → zDeed (μ' 222 (p + 1)) (μ' 222 (p + 2)) (μ' 222 (p + 3)) ∧ μ' 222 p = V (j + 1) ∧ zkd (μ' 222 (p + 1)) (K (j + 2)) ∧ μ' 222 (p + 2) = V (j + 3) ∧ μ' 222 (p + 3) = V (j + 4)))) 33 [(2, 205), (0, p), (0, 2)] [] μm := by
  have f6 := zT_get hT0 zs205_6 (i := 6) (by omega) (by omega)
  have f7 := zT_get hT0 zs205_7 (i := 7) (by omega) (by omega)
  have e11 : j + 1 + 1 = j + 2 := by omega
  have e12 : j + 1 + 2 = j + 3 := by omega
  have e13 : j + 1 + 3 = j + 4 := by omega
  have e14 : j + 1 + 4 = j + 5 := by omega
  have e15 : j + 1 + 5 = j + 6 := by omega
  have e16 : j + 1 + 6 = j + 7 := by omega
  have hj3 : j + 2 < n := by rcases zMs_k hx hm with hk | hk; exact hk.2; omega
  refine pm_blk hK zmm284 [] 2 35 [(2, 205), (0, p), (0, 2)] [(0, (-1)), (0, 2)] μm [] rfl trivial ?_
  refine pm_icmp hK zmm284 .ne 9 44 rfl rfl (fun h0 => ?_) (fun h0 => ?_)
  · have h0 : (2 : Int) ≠ ((-1) : Int) := h0
    refine pm_blk hK zmm284 [] 1 45 [(2, 205), (0, p), (0, 2)] [(2, 205)] μm [] rfl trivial ?_
    refine pm_call hK zmm284 (223, 0, 139, 0) zM139 (2, 44) [(2, 205)] [] rfl rfl rfl rfl ⟨by omega, by rw [zn139]; omega⟩ (zt_reads hK hT (zMs_sp hx hm (by omega)) hb205 ⟨Nat.le_refl _, Nat.le_refl _⟩) (fun st1 μc1 hp1 => ?_)
    obtain ⟨rfl, hTc1, hr1⟩ := hp1
    have hm := zMs_rd hx hm (by omega) hr1
    rw [show j + 2 + 1 = j + 3 by omega] at hm
    have hF := zMf_tr hF (zMf_fr hr1.1)
    have hx := zMx_f hx (zMf_fr hr1.1)
    have hk := zMs_k hx hm
    have A : ∀ i, i < p → μc1 222 i = μ 222 i := fun i hi => Eq.trans (by rw [hr1.1.1 222 (by decide)]) (A i hi)
    have w0 : μc1 222 p = V (j + 1) := by rw [hr1.1.1 222 (by decide)]; exact w0
    refine pm_blk hK zmm284 [] 7 57 [(2, 205), (0, p), (0, 2)] [] (pm_up μc1 222 (p + 1) 2) [pm_in (p + 1), sx_bit Wm 222 = true, 0 ≤ p + 1 ∧ p + 1 < 128] rfl ⟨pm_in_mk (by omega) (by omega), hb222, ⟨by omega, by omega⟩, trivial⟩ ?_
    obtain ⟨μ1, eμ1⟩ : ∃ μ', μ' = pm_up μc1 222 (p + 1) 2 := ⟨_, rfl⟩
    rw [← eμ1]
    have hTμ1 : zTJ φ μ1 := by rw [eμ1]; exact zT_deed hTc1 zp222_1 (z := z) (by omega) (by omega) (by omega) (by omega) (by omega)
    have hFp := hF
    have hF : zMf μ μ1 := by rw [eμ1]; exact zMf_222 hFp (by omega)
    have hxp := hx
    have hx : zMx T L K S V n P μ1 := by rw [eμ1]; exact zMx_up hxp (by decide) (by decide)
    have hmp := hm
    have hm : zMs K S V n P (j + 3) μ1 := by rw [eμ1]; exact zMs_up hmp (by decide)
    have e6 : μ1 205 6 = μ 205 6 := hF.2.1 6 (by decide) (by decide) (by decide) (by decide) (by decide) (by decide) (by decide) (by decide) (by decide)
    have e7 : μ1 205 7 = μ 205 7 := hF.2.1 7 (by decide) (by decide) (by decide) (by decide) (by decide) (by decide) (by decide) (by decide) (by decide)
    have w1 : μ1 222 (p + 1) = 2 := by rw [eμ1, pm_up_eq]
    have A : ∀ i, i < p → μ1 222 i = μ 222 i := fun i hi => Eq.trans (by rw [eμ1, pm_up_ne (by omega)]) (A i hi)
    have w0 : μ1 222 p = V (j + 1) := by rw [eμ1, pm_up_ne (by omega)]; exact w0
    refine pm_blk hK zmm284 [] 9 68 [(2, 205), (0, p), (0, 2)] [(0, 2), (0, 2), (0, 0), (2, 205), (0, p + 2), (2, 222)] μ1 [pm_in (p + 2)] rfl ⟨pm_in_mk (by omega) (by omega), trivial⟩ ?_
    refine pm_icmp hK zmm284 .ne 10 78 rfl rfl (fun h1 => ?_) (fun h1 => ?_)
    · have h1 : (2 : Int) ≠ (2 : Int) := h1
      exact absurd h1 (by decide)
    · have h1 : (2 : Int) = (2 : Int) := h1
      have g1 : μ1 205 7 = μc1 205 7 := by rw [eμ1, pm_up_off (by decide)]
      have f2 := zT_get hTμ1 zs205_7 (i := 7) (by omega) (by omega)
      refine pm_blk hK zmm284 [] 5 84 [(2, 205), (0, p), (0, 2)] [(0, (μ1 205 7) - 1), (0, 0), (2, 205), (0, p + 2), (2, 222)] μ1 [pm_in ((μ1 205 7) - 1)] rfl ⟨pm_in_mk (by omega) (by omega), trivial⟩ ?_
      refine pm_call hK zmm284 (267, 0, 281, 2) zM281 (3, 65) [(2, 205), (0, 0), (0, (μ1 205 7) - 1)] [(0, p + 2), (2, 222)] rfl rfl rfl rfl ⟨by omega, by rw [zn281]; omega⟩ (zm_num hK (lo := 0) (hi := ((μ1 205 7) - 1)) (j := j + 3) (j1 := j + 4) hx hm (by omega) (by omega) hTμ1 hb205 ⟨Nat.le_refl _, Nat.le_refl _⟩) (fun st2 μc2 hp2 => ?_)
      obtain ⟨x2, rfl, hTc2, hF2, hA2, hB2⟩ := hp2
      have hF := zMf_tr hF (zMf_r hF2)
      have hx := zMx_f hx (zMf_r hF2)
      have hA := hA2
      have hB := hB2
      have hxr2 : x2 = -1 ∨ (0 ≤ x2 ∧ x2 ≤ ((μ1 205 7) - 1)) := by
        by_cases hq : x2 = -1
        · exact Or.inl hq
        · obtain ⟨q1, ⟨-, q2, q3⟩, -⟩ := hA hq
          exact Or.inr ⟨by omega, by omega⟩
      obtain ⟨xb, exb⟩ : ∃ y, y = x2 := ⟨_, rfl⟩
      have A : ∀ i, i < p → μc2 222 i = μ 222 i := fun i hi => Eq.trans (by rw [hF2.1 222 (by decide)]) (A i hi)
      have w1 : μc2 222 (p + 1) = 2 := by rw [hF2.1 222 (by decide)]; exact w1
      have w0 : μc2 222 p = V (j + 1) := by rw [hF2.1 222 (by decide)]; exact w0
      refine pm_blk hK zmm284 [] 1 88 [(2, 205), (0, p), (0, 2)] [] (pm_up μc2 222 (p + 2) x2) [sx_bit Wm 222 = true, 0 ≤ p + 2 ∧ p + 2 < 128] rfl ⟨hb222, ⟨by omega, by omega⟩, trivial⟩ ?_
      obtain ⟨μ2, eμ2⟩ : ∃ μ', μ' = pm_up μc2 222 (p + 2) x2 := ⟨_, rfl⟩
      rw [← eμ2]
      have hTμ2 : zTJ φ μ2 := by rw [eμ2]; exact zT_deed hTc2 zp222_2 (z := z) (by omega) (by omega) (by omega) (by omega) (by omega)
      have hFp := hF
      have hF : zMf μ μ2 := by rw [eμ2]; exact zMf_222 hFp (by omega)
      have hxp := hx
      have hx : zMx T L K S V n P μ2 := by rw [eμ2]; exact zMx_up hxp (by decide) (by decide)
      have v2 : μ2 222 (p + 2) = xb := by rw [eμ2, pm_up_eq, exb]
      have w2 : μ2 222 (p + 2) = xb := by rw [eμ2, pm_up_eq, exb]
      have w1 : μ2 222 (p + 1) = 2 := by rw [eμ2, pm_up_ne (by omega)]; exact w1
      have w0 : μ2 222 p = V (j + 1) := by rw [eμ2, pm_up_ne (by omega)]; exact w0
      have A : ∀ i, i < p → μ2 222 i = μ 222 i := fun i hi => Eq.trans (by rw [eμ2, pm_up_ne (by omega)]) (A i hi)
      have f3 := zT_getp hTμ2 zp222_2 (i := p + 2) (z := z) (by omega) (by omega) (by omega)
      refine pm_blk hK zmm284 [] 7 97 [(2, 205), (0, p), (0, 2)] [(0, (-1)), (0, μ2 222 (p + 2))] μ2 [pm_in (p + 2), 0 ≤ p + 2 ∧ p + 2 < 128] rfl ⟨pm_in_mk (by omega) (by omega), ⟨by omega, by omega⟩, trivial⟩ ?_
      refine pm_icmp hK zmm284 .ne 5 102 rfl rfl (fun h2 => ?_) (fun h2 => ?_)
      · have h2 : μ2 222 (p + 2) ≠ ((-1) : Int) := h2
        obtain ⟨b1, ⟨b2, b3, b4⟩, hm2⟩ := hA (by omega)
        have hm : zMs K S V n P (j + 4) μ2 := by rw [eμ2]; exact zMs_up hm2 (by decide)
        have e6 : μ2 205 6 = μ 205 6 := hF.2.1 6 (by decide) (by decide) (by decide) (by decide) (by decide) (by decide) (by decide) (by decide) (by decide)
        have e7 : μ2 205 7 = μ 205 7 := hF.2.1 7 (by decide) (by decide) (by decide) (by decide) (by decide) (by decide) (by decide) (by decide) (by decide)
        refine pm_blk hK zmm284 [] 7 111 [(2, 205), (0, p), (0, 2)] [(0, 3), (0, 2), (0, p + 3), (2, 222)] μ2 [pm_in (p + 3)] rfl ⟨pm_in_mk (by omega) (by omega), trivial⟩ ?_
        refine pm_icmp hK zmm284 .ne 17 128 rfl rfl (fun h3 => ?_) (fun h3 => ?_)
        · have h3 : (2 : Int) ≠ (3 : Int) := h3
          refine pm_blk hK zmm284 [] 2 130 [(2, 205), (0, p), (0, 2)] [(0, 2), (2, 205), (0, p + 3), (2, 222)] μ2 [] rfl trivial ?_
          refine pm_if hK zmm284 .ne 7 137 rfl rfl (fun h4 => ?_) (fun h4 => ?_)
          · have h4 : (2 : Int) ≠ (0 : Int) := h4
            refine pm_blk hK zmm284 [] 3 140 [(2, 205), (0, p), (0, 2)] [(0, 2), (0, 2), (0, 1), (2, 205), (0, p + 3), (2, 222)] μ2 [] rfl trivial ?_
            refine pm_icmp hK zmm284 .ne 9 149 rfl rfl (fun h5 => ?_) (fun h5 => ?_)
            · have h5 : (2 : Int) ≠ (2 : Int) := h5
              exact absurd h5 (by decide)
            · have h5 : (2 : Int) = (2 : Int) := h5
              refine pm_blk hK zmm284 [] 2 151 [(2, 205), (0, p), (0, 2)] [(0, 999), (0, 1), (2, 205), (0, p + 3), (2, 222)] μ2 [] rfl trivial ?_
              refine pm_call hK zmm284 (267, 0, 281, 2) zM281 (3, 65) [(2, 205), (0, 1), (0, 999)] [(0, p + 3), (2, 222)] rfl rfl rfl rfl ⟨by omega, by rw [zn281]; omega⟩ (zm_num hK (lo := 1) (hi := 999) (j := j + 4) (j1 := j + 5) hx hm (by omega) (by omega) hTμ2 hb205 ⟨Nat.le_refl _, Nat.le_refl _⟩) (fun st3 μc3 hp3 => ?_)
              obtain ⟨x3, rfl, hTc3, hF3, hA3, hB3⟩ := hp3
              have hF := zMf_tr hF (zMf_r hF3)
              have hx := zMx_f hx (zMf_r hF3)
              have hA := hA3
              have hB := hB3
              have hxr3 : x3 = -1 ∨ (1 ≤ x3 ∧ x3 ≤ 999) := by
                by_cases hq : x3 = -1
                · exact Or.inl hq
                · obtain ⟨q1, ⟨-, q2, q3⟩, -⟩ := hA hq
                  exact Or.inr ⟨by omega, by omega⟩
              obtain ⟨xc, exc⟩ : ∃ y, y = x3 := ⟨_, rfl⟩
              have A : ∀ i, i < p → μc3 222 i = μ 222 i := fun i hi => Eq.trans (by rw [hF3.1 222 (by decide)]) (A i hi)
              have w1 : μc3 222 (p + 1) = 2 := by rw [hF3.1 222 (by decide)]; exact w1
              have w2 : μc3 222 (p + 2) = xb := by rw [hF3.1 222 (by decide)]; exact w2
              have w0 : μc3 222 p = V (j + 1) := by rw [hF3.1 222 (by decide)]; exact w0
              refine pm_blk hK zmm284 [] 1 155 [(2, 205), (0, p), (0, 2)] [] (pm_up μc3 222 (p + 3) x3) [sx_bit Wm 222 = true, 0 ≤ p + 3 ∧ p + 3 < 128] rfl ⟨hb222, ⟨by omega, by omega⟩, trivial⟩ ?_
              obtain ⟨μ3, eμ3⟩ : ∃ μ', μ' = pm_up μc3 222 (p + 3) x3 := ⟨_, rfl⟩
              rw [← eμ3]
              have hTμ3 : zTJ φ μ3 := by rw [eμ3]; exact zT_deed hTc3 zp222_3 (z := z) (by omega) (by omega) (by omega) (by omega) (by omega)
              have hFp := hF
              have hF : zMf μ μ3 := by rw [eμ3]; exact zMf_222 hFp (by omega)
              have hxp := hx
              have hx : zMx T L K S V n P μ3 := by rw [eμ3]; exact zMx_up hxp (by decide) (by decide)
              have v3 : μ3 222 (p + 3) = xc := by rw [eμ3, pm_up_eq, exc]
              have w3 : μ3 222 (p + 3) = xc := by rw [eμ3, pm_up_eq, exc]
              have w1 : μ3 222 (p + 1) = 2 := by rw [eμ3, pm_up_ne (by omega)]; exact w1
              have w2 : μ3 222 (p + 2) = xb := by rw [eμ3, pm_up_ne (by omega)]; exact w2
              have w0 : μ3 222 p = V (j + 1) := by rw [eμ3, pm_up_ne (by omega)]; exact w0
              have A : ∀ i, i < p → μ3 222 i = μ 222 i := fun i hi => Eq.trans (by rw [eμ3, pm_up_ne (by omega)]) (A i hi)
              have f4 := zT_getp hTμ3 zp222_3 (i := p + 3) (z := z) (by omega) (by omega) (by omega)
              refine pm_blk hK zmm284 [] 7 164 [(2, 205), (0, p), (0, 2)] [(0, (-1)), (0, μ3 222 (p + 3))] μ3 [pm_in (p + 3), 0 ≤ p + 3 ∧ p + 3 < 128] rfl ⟨pm_in_mk (by omega) (by omega), ⟨by omega, by omega⟩, trivial⟩ ?_
              refine pm_icmp hK zmm284 .ne 7 171 rfl rfl (fun h6 => ?_) (fun h6 => ?_)
              · have h6 : μ3 222 (p + 3) ≠ ((-1) : Int) := h6
                obtain ⟨c1, ⟨c2, c3, c4⟩, hm3⟩ := hA (by omega)
                have hm : zMs K S V n P (j + 5) μ3 := by rw [eμ3]; exact zMs_up hm3 (by decide)
                refine pm_blk hK zmm284 [] 2 174 [(2, 205), (0, p), (0, 2)] [(0, 59), (2, 205)] μ3 [] rfl trivial ?_
                refine pm_call hK zmm284 (274, 0, 282, 1) zM282 (3, 65) [(2, 205), (0, 59)] [] rfl rfl rfl rfl ⟨by omega, by rw [zn282]; omega⟩ (zm_mark hK (c := 59) (j := j + 5) (j1 := j + 6) hx hm (by omega) (by decide) hTμ3 hb205 ⟨Nat.le_refl _, Nat.le_refl _⟩) (fun st4 μc4 hp4 => ?_)
                obtain ⟨x4, rfl, hTc4, hF4, hA4, hB4⟩ := hp4
                have hF := zMf_tr hF (zMf_r hF4)
                have hx := zMx_f hx (zMf_r hF4)
                have hA := hA4
                have hB := hB4
                have A : ∀ i, i < p → μc4 222 i = μ 222 i := fun i hi => Eq.trans (by rw [hF4.1 222 (by decide)]) (A i hi)
                have w1 : μc4 222 (p + 1) = 2 := by rw [hF4.1 222 (by decide)]; exact w1
                have w2 : μc4 222 (p + 2) = xb := by rw [hF4.1 222 (by decide)]; exact w2
                have w3 : μc4 222 (p + 3) = xc := by rw [hF4.1 222 (by decide)]; exact w3
                have w0 : μc4 222 p = V (j + 1) := by rw [hF4.1 222 (by decide)]; exact w0
                first
                | exact pm_iret rfl rfl ⟨_, f, (j + 4), rfl, hTc4, hF, ⟨f, (j + 4), hP9, Or.inl ⟨nz9, rfl, rfl⟩⟩, Or.inr ⟨rfl, nz9, (by rw [eμc4]; exact zFm_up hff (by decide))⟩, A, fun h9 => absurd rfl h9⟩
                | (have hP0 : zPa2 K V (μ 205 6) (μ 205 7) (j + 1) 0 (j + 5) := zR2_4 ⟨a3, a4, a5⟩ (by omega) (by omega) ⟨b2, b3, b4⟩ (by omega) ⟨c2, c3, c4⟩
                   by_cases h9 : x4 = -1
                   · obtain ⟨f, ⟨f1, f2⟩, hff⟩ := hB h9
                     exact pm_iret rfl rfl ⟨_, 1, j + 5, rfl, hTc4, hF, ⟨0, j + 5, hP0, Or.inr (Or.inl ⟨rfl, rfl, rfl, f2⟩)⟩, Or.inr ⟨h9, by decide, by rw [← f1]; exact hff⟩, A, fun h8 => absurd h9 h8⟩
                   · obtain ⟨-, d2, d3⟩ := hA h9
                     exact pm_iret rfl rfl ⟨_, 0, j + 6, rfl, hTc4, hF, ⟨0, j + 5, hP0, Or.inr (Or.inr ⟨rfl, rfl, by omega, d2⟩)⟩, Or.inl ⟨h9, rfl, d3⟩, A, fun _ => by rw [w1, w2, w3]; exact ⟨⟨by omega, by omega, by omega, by omega, fun _ => ⟨by omega, by omega⟩, fun _ => ⟨by omega, by omega⟩, fun _ => ⟨by omega, by omega⟩⟩, w0, by unfold zkd; omega, by omega, by omega⟩⟩)
                | (exfalso; omega)
              · have h6 : μ3 222 (p + 3) = ((-1) : Int) := h6
                obtain ⟨f, f1, hff⟩ := hB (by omega)
                obtain ⟨hP9, nz9⟩ := zR2_3 (K := K) (V := V) (sh := μ 205 6) (cu := μ 205 7) (j := j) ⟨a3, a4, a5⟩ (by omega) (by omega) ⟨b2, b3, b4⟩ (by omega) f1
                refine pm_blk hK zmm284 [] 2 177 [(2, 205), (0, p), (0, 2)] [(0, (-1))] μ3 [] rfl trivial ?_
                first
                | exact pm_iret rfl rfl ⟨_, f, (j + 4), rfl, hTμ3, hF, ⟨f, (j + 4), hP9, Or.inl ⟨nz9, rfl, rfl⟩⟩, Or.inr ⟨rfl, nz9, (by rw [eμ3]; exact zFm_up hff (by decide))⟩, A, fun h9 => absurd rfl h9⟩
                | (have hP0 : zPa2 K V (μ 205 6) (μ 205 7) (j + 1) 0 (j + 5) := zR2_4 ⟨a3, a4, a5⟩ (by omega) (by omega) ⟨b2, b3, b4⟩ (by omega) ⟨c2, c3, c4⟩
                   by_cases h9 : ((-1)) = -1
                   · obtain ⟨f, ⟨f1, f2⟩, hff⟩ := hB h9
                     exact pm_iret rfl rfl ⟨_, 1, j + 5, rfl, hTμ3, hF, ⟨0, j + 5, hP0, Or.inr (Or.inl ⟨rfl, rfl, rfl, f2⟩)⟩, Or.inr ⟨h9, by decide, by rw [← f1]; exact hff⟩, A, fun h8 => absurd h9 h8⟩
                   · obtain ⟨-, d2, d3⟩ := hA h9
                     exact pm_iret rfl rfl ⟨_, 0, j + 6, rfl, hTμ3, hF, ⟨0, j + 5, hP0, Or.inr (Or.inr ⟨rfl, rfl, by omega, d2⟩)⟩, Or.inl ⟨h9, rfl, d3⟩, A, fun _ => by rw [w1, w2, w3]; exact ⟨⟨by omega, by omega, by omega, by omega, fun _ => ⟨by omega, by omega⟩, fun _ => ⟨by omega, by omega⟩, fun _ => ⟨by omega, by omega⟩⟩, w0, by unfold zkd; omega, by omega, by omega⟩⟩)
                | (exfalso; omega)
          · have h4 : (2 : Int) = (0 : Int) := h4
            exact absurd h4 (by decide)
        · have h3 : (2 : Int) = (3 : Int) := h3
          exact absurd h3 (by decide)
      · have h2 : μ2 222 (p + 2) = ((-1) : Int) := h2
        refine pm_blk hK zmm284 [] 1 101 [(2, 205), (0, p), (0, 2)] [(0, (-1))] μ2 [] rfl trivial ?_
        obtain ⟨f, f1, hff⟩ := hB (by omega)
        obtain ⟨hP9, nz9⟩ := zR2_2 (K := K) (V := V) (sh := μ 205 6) (cu := μ 205 7) (j := j) ⟨a3, a4, a5⟩ (by omega) (by omega) f1
        exact pm_iret rfl rfl ⟨_, f, (j + 3), rfl, hTμ2, hF, ⟨f, (j + 3), hP9, Or.inl ⟨nz9, rfl, rfl⟩⟩, Or.inr ⟨rfl, nz9, (by rw [eμ2]; exact zFm_up hff (by decide))⟩, A, fun h9 => absurd rfl h9⟩
  · have h0 : (2 : Int) = ((-1) : Int) := h0
    exact absurd h0 (by decide)
set_option maxHeartbeats 4000000 in
set_option maxRecDepth 100000 in
theorem zm_deed3 (hK : zKK ST) {p z : Int} {μm : pm_Mem} {T : Int → Int} {L : Int} {K S V : Int → Int} {n j : Int} {P : Nat → Int} (hx : zMx T L K S V n P μm) (hm : zMs K S V n P (j + 2) μm) (hF : zMf μ μm) (hp : p = 4 * z) (hz : 16 ≤ z ∧ z < 32) (hT0 : zTJ φ μ) (hT : zTJ φ μm) (hb205 : sx_bit Wm 205 = true) (hb222 : sx_bit Wm 222 = true) (a3 : K (j + 1) = 256) (a4 : 0 ≤ V (j + 1)) (a5 : V (j + 1) ≤ 999) (hkk : K (j + 2) = 325) (A : ∀ i, i < p → μm 222 i = μ 222 i) (w0 : μm 222 p = V (j + 1)) (hj2 : j + 2 ≤ n) (hbd : 5 ≤ bud.1 ∧ 111 ≤ bud.2.1) : zW D Wm ST b0 l Sg zM284 bud (pm_X zM284 (fun st' μ' => ∃ x f q, st' = [(0, x)] ∧ zTJ φ μ' ∧ zMf μ μ' ∧ (∃ g p, zPa2 K V (μ 205 6) (μ 205 7) (j + 1) g p ∧ ((g ≠ 0 ∧ f = g ∧ q = p) ∨ (g = 0 ∧ f = 1 ∧ q = p ∧ K p ≠ 59) ∨ (g = 0 ∧ f = 0 ∧ q = p + 1 ∧ K p = 59))) ∧ ((x ≠ -1 ∧ f = 0 ∧ zMs K S V n P q μ') ∨ (x = -1 ∧ f ≠ 0 ∧ zFm S f q μ')) ∧ (∀ i, i < p → μ' 222 i = μ 222 i) ∧ (x ≠ -1 → zDeed (μ' 222 (p + 1)) (μ' 222 (p + 2)) (μ' 222 (p + 3)) ∧ μ' 222 p = V (j + 1) ∧ zkd (μ' 222 (p + 1)) (K (j + 2)) ∧ μ' 222 (p + 2) = V (j + 3) ∧ μ' 222 (p + 3) = V (j + 4)))) 33 [(2, 205), (0, p), (0, 3)] [] μm := by
  have f6 := zT_get hT0 zs205_6 (i := 6) (by omega) (by omega)
  have f7 := zT_get hT0 zs205_7 (i := 7) (by omega) (by omega)
  have e11 : j + 1 + 1 = j + 2 := by omega
  have e12 : j + 1 + 2 = j + 3 := by omega
  have e13 : j + 1 + 3 = j + 4 := by omega
  have e14 : j + 1 + 4 = j + 5 := by omega
  have e15 : j + 1 + 5 = j + 6 := by omega
  have e16 : j + 1 + 6 = j + 7 := by omega
  have hj3 : j + 2 < n := by rcases zMs_k hx hm with hk | hk; exact hk.2; omega
  refine pm_blk hK zmm284 [] 2 35 [(2, 205), (0, p), (0, 3)] [(0, (-1)), (0, 3)] μm [] rfl trivial ?_
  refine pm_icmp hK zmm284 .ne 9 44 rfl rfl (fun h0 => ?_) (fun h0 => ?_)
  · have h0 : (3 : Int) ≠ ((-1) : Int) := h0
    refine pm_blk hK zmm284 [] 1 45 [(2, 205), (0, p), (0, 3)] [(2, 205)] μm [] rfl trivial ?_
    refine pm_call hK zmm284 (223, 0, 139, 0) zM139 (2, 44) [(2, 205)] [] rfl rfl rfl rfl ⟨by omega, by rw [zn139]; omega⟩ (zt_reads hK hT (zMs_sp hx hm (by omega)) hb205 ⟨Nat.le_refl _, Nat.le_refl _⟩) (fun st1 μc1 hp1 => ?_)
    obtain ⟨rfl, hTc1, hr1⟩ := hp1
    have hm := zMs_rd hx hm (by omega) hr1
    rw [show j + 2 + 1 = j + 3 by omega] at hm
    have hF := zMf_tr hF (zMf_fr hr1.1)
    have hx := zMx_f hx (zMf_fr hr1.1)
    have hk := zMs_k hx hm
    have A : ∀ i, i < p → μc1 222 i = μ 222 i := fun i hi => Eq.trans (by rw [hr1.1.1 222 (by decide)]) (A i hi)
    have w0 : μc1 222 p = V (j + 1) := by rw [hr1.1.1 222 (by decide)]; exact w0
    refine pm_blk hK zmm284 [] 7 57 [(2, 205), (0, p), (0, 3)] [] (pm_up μc1 222 (p + 1) 3) [pm_in (p + 1), sx_bit Wm 222 = true, 0 ≤ p + 1 ∧ p + 1 < 128] rfl ⟨pm_in_mk (by omega) (by omega), hb222, ⟨by omega, by omega⟩, trivial⟩ ?_
    obtain ⟨μ1, eμ1⟩ : ∃ μ', μ' = pm_up μc1 222 (p + 1) 3 := ⟨_, rfl⟩
    rw [← eμ1]
    have hTμ1 : zTJ φ μ1 := by rw [eμ1]; exact zT_deed hTc1 zp222_1 (z := z) (by omega) (by omega) (by omega) (by omega) (by omega)
    have hFp := hF
    have hF : zMf μ μ1 := by rw [eμ1]; exact zMf_222 hFp (by omega)
    have hxp := hx
    have hx : zMx T L K S V n P μ1 := by rw [eμ1]; exact zMx_up hxp (by decide) (by decide)
    have hmp := hm
    have hm : zMs K S V n P (j + 3) μ1 := by rw [eμ1]; exact zMs_up hmp (by decide)
    have e6 : μ1 205 6 = μ 205 6 := hF.2.1 6 (by decide) (by decide) (by decide) (by decide) (by decide) (by decide) (by decide) (by decide) (by decide)
    have e7 : μ1 205 7 = μ 205 7 := hF.2.1 7 (by decide) (by decide) (by decide) (by decide) (by decide) (by decide) (by decide) (by decide) (by decide)
    have w1 : μ1 222 (p + 1) = 3 := by rw [eμ1, pm_up_eq]
    have A : ∀ i, i < p → μ1 222 i = μ 222 i := fun i hi => Eq.trans (by rw [eμ1, pm_up_ne (by omega)]) (A i hi)
    have w0 : μ1 222 p = V (j + 1) := by rw [eμ1, pm_up_ne (by omega)]; exact w0
    refine pm_blk hK zmm284 [] 9 68 [(2, 205), (0, p), (0, 3)] [(0, 2), (0, 3), (0, 0), (2, 205), (0, p + 2), (2, 222)] μ1 [pm_in (p + 2)] rfl ⟨pm_in_mk (by omega) (by omega), trivial⟩ ?_
    refine pm_icmp hK zmm284 .ne 10 78 rfl rfl (fun h1 => ?_) (fun h1 => ?_)
    · have h1 : (3 : Int) ≠ (2 : Int) := h1
      have g1 : μ1 205 6 = μc1 205 6 := by rw [eμ1, pm_up_off (by decide)]
      have f2 := zT_get hTμ1 zs205_6 (i := 6) (by omega) (by omega)
      refine pm_blk hK zmm284 [] 4 84 [(2, 205), (0, p), (0, 3)] [(0, (μ1 205 6) - 1), (0, 0), (2, 205), (0, p + 2), (2, 222)] μ1 [pm_in ((μ1 205 6) - 1)] rfl ⟨pm_in_mk (by omega) (by omega), trivial⟩ ?_
      refine pm_call hK zmm284 (267, 0, 281, 2) zM281 (3, 65) [(2, 205), (0, 0), (0, (μ1 205 6) - 1)] [(0, p + 2), (2, 222)] rfl rfl rfl rfl ⟨by omega, by rw [zn281]; omega⟩ (zm_num hK (lo := 0) (hi := ((μ1 205 6) - 1)) (j := j + 3) (j1 := j + 4) hx hm (by omega) (by omega) hTμ1 hb205 ⟨Nat.le_refl _, Nat.le_refl _⟩) (fun st2 μc2 hp2 => ?_)
      obtain ⟨x2, rfl, hTc2, hF2, hA2, hB2⟩ := hp2
      have hF := zMf_tr hF (zMf_r hF2)
      have hx := zMx_f hx (zMf_r hF2)
      have hA := hA2
      have hB := hB2
      have hxr2 : x2 = -1 ∨ (0 ≤ x2 ∧ x2 ≤ ((μ1 205 6) - 1)) := by
        by_cases hq : x2 = -1
        · exact Or.inl hq
        · obtain ⟨q1, ⟨-, q2, q3⟩, -⟩ := hA hq
          exact Or.inr ⟨by omega, by omega⟩
      obtain ⟨xb, exb⟩ : ∃ y, y = x2 := ⟨_, rfl⟩
      have A : ∀ i, i < p → μc2 222 i = μ 222 i := fun i hi => Eq.trans (by rw [hF2.1 222 (by decide)]) (A i hi)
      have w1 : μc2 222 (p + 1) = 3 := by rw [hF2.1 222 (by decide)]; exact w1
      have w0 : μc2 222 p = V (j + 1) := by rw [hF2.1 222 (by decide)]; exact w0
      refine pm_blk hK zmm284 [] 1 88 [(2, 205), (0, p), (0, 3)] [] (pm_up μc2 222 (p + 2) x2) [sx_bit Wm 222 = true, 0 ≤ p + 2 ∧ p + 2 < 128] rfl ⟨hb222, ⟨by omega, by omega⟩, trivial⟩ ?_
      obtain ⟨μ2, eμ2⟩ : ∃ μ', μ' = pm_up μc2 222 (p + 2) x2 := ⟨_, rfl⟩
      rw [← eμ2]
      have hTμ2 : zTJ φ μ2 := by rw [eμ2]; exact zT_deed hTc2 zp222_2 (z := z) (by omega) (by omega) (by omega) (by omega) (by omega)
      have hFp := hF
      have hF : zMf μ μ2 := by rw [eμ2]; exact zMf_222 hFp (by omega)
      have hxp := hx
      have hx : zMx T L K S V n P μ2 := by rw [eμ2]; exact zMx_up hxp (by decide) (by decide)
      have v2 : μ2 222 (p + 2) = xb := by rw [eμ2, pm_up_eq, exb]
      have w2 : μ2 222 (p + 2) = xb := by rw [eμ2, pm_up_eq, exb]
      have w1 : μ2 222 (p + 1) = 3 := by rw [eμ2, pm_up_ne (by omega)]; exact w1
      have w0 : μ2 222 p = V (j + 1) := by rw [eμ2, pm_up_ne (by omega)]; exact w0
      have A : ∀ i, i < p → μ2 222 i = μ 222 i := fun i hi => Eq.trans (by rw [eμ2, pm_up_ne (by omega)]) (A i hi)
      have f3 := zT_getp hTμ2 zp222_2 (i := p + 2) (z := z) (by omega) (by omega) (by omega)
      refine pm_blk hK zmm284 [] 7 97 [(2, 205), (0, p), (0, 3)] [(0, (-1)), (0, μ2 222 (p + 2))] μ2 [pm_in (p + 2), 0 ≤ p + 2 ∧ p + 2 < 128] rfl ⟨pm_in_mk (by omega) (by omega), ⟨by omega, by omega⟩, trivial⟩ ?_
      refine pm_icmp hK zmm284 .ne 5 102 rfl rfl (fun h2 => ?_) (fun h2 => ?_)
      · have h2 : μ2 222 (p + 2) ≠ ((-1) : Int) := h2
        obtain ⟨b1, ⟨b2, b3, b4⟩, hm2⟩ := hA (by omega)
        have hm : zMs K S V n P (j + 4) μ2 := by rw [eμ2]; exact zMs_up hm2 (by decide)
        have e6 : μ2 205 6 = μ 205 6 := hF.2.1 6 (by decide) (by decide) (by decide) (by decide) (by decide) (by decide) (by decide) (by decide) (by decide)
        have e7 : μ2 205 7 = μ 205 7 := hF.2.1 7 (by decide) (by decide) (by decide) (by decide) (by decide) (by decide) (by decide) (by decide) (by decide)
        refine pm_blk hK zmm284 [] 7 111 [(2, 205), (0, p), (0, 3)] [(0, 3), (0, 3), (0, p + 3), (2, 222)] μ2 [pm_in (p + 3)] rfl ⟨pm_in_mk (by omega) (by omega), trivial⟩ ?_
        refine pm_icmp hK zmm284 .ne 17 128 rfl rfl (fun h3 => ?_) (fun h3 => ?_)
        · have h3 : (3 : Int) ≠ (3 : Int) := h3
          exact absurd h3 (by decide)
        · have h3 : (3 : Int) = (3 : Int) := h3
          have g4 : μ2 205 7 = μc2 205 7 := by rw [eμ2, pm_up_off (by decide)]
          have f5 := zT_get hTμ2 zs205_7 (i := 7) (by omega) (by omega)
          refine pm_blk hK zmm284 [] 6 122 [(2, 205), (0, p), (0, 3)] [(0, (μ2 205 7) - 1), (0, 0), (2, 205), (0, p + 3), (2, 222)] μ2 [pm_in ((μ2 205 7) - 1)] rfl ⟨pm_in_mk (by omega) (by omega), trivial⟩ ?_
          refine pm_call hK zmm284 (267, 0, 281, 2) zM281 (3, 65) [(2, 205), (0, 0), (0, (μ2 205 7) - 1)] [(0, p + 3), (2, 222)] rfl rfl rfl rfl ⟨by omega, by rw [zn281]; omega⟩ (zm_num hK (lo := 0) (hi := ((μ2 205 7) - 1)) (j := j + 4) (j1 := j + 5) hx hm (by omega) (by omega) hTμ2 hb205 ⟨Nat.le_refl _, Nat.le_refl _⟩) (fun st3 μc3 hp3 => ?_)
          obtain ⟨x3, rfl, hTc3, hF3, hA3, hB3⟩ := hp3
          have hF := zMf_tr hF (zMf_r hF3)
          have hx := zMx_f hx (zMf_r hF3)
          have hA := hA3
          have hB := hB3
          have hxr3 : x3 = -1 ∨ (0 ≤ x3 ∧ x3 ≤ ((μ2 205 7) - 1)) := by
            by_cases hq : x3 = -1
            · exact Or.inl hq
            · obtain ⟨q1, ⟨-, q2, q3⟩, -⟩ := hA hq
              exact Or.inr ⟨by omega, by omega⟩
          obtain ⟨xc, exc⟩ : ∃ y, y = x3 := ⟨_, rfl⟩
          have A : ∀ i, i < p → μc3 222 i = μ 222 i := fun i hi => Eq.trans (by rw [hF3.1 222 (by decide)]) (A i hi)
          have w1 : μc3 222 (p + 1) = 3 := by rw [hF3.1 222 (by decide)]; exact w1
          have w2 : μc3 222 (p + 2) = xb := by rw [hF3.1 222 (by decide)]; exact w2
          have w0 : μc3 222 p = V (j + 1) := by rw [hF3.1 222 (by decide)]; exact w0
          refine pm_blk hK zmm284 [] 2 155 [(2, 205), (0, p), (0, 3)] [] (pm_up μc3 222 (p + 3) x3) [sx_bit Wm 222 = true, 0 ≤ p + 3 ∧ p + 3 < 128] rfl ⟨hb222, ⟨by omega, by omega⟩, trivial⟩ ?_
          obtain ⟨μ3, eμ3⟩ : ∃ μ', μ' = pm_up μc3 222 (p + 3) x3 := ⟨_, rfl⟩
          rw [← eμ3]
          have hTμ3 : zTJ φ μ3 := by rw [eμ3]; exact zT_deed hTc3 zp222_3 (z := z) (by omega) (by omega) (by omega) (by omega) (by omega)
          have hFp := hF
          have hF : zMf μ μ3 := by rw [eμ3]; exact zMf_222 hFp (by omega)
          have hxp := hx
          have hx : zMx T L K S V n P μ3 := by rw [eμ3]; exact zMx_up hxp (by decide) (by decide)
          have v3 : μ3 222 (p + 3) = xc := by rw [eμ3, pm_up_eq, exc]
          have w3 : μ3 222 (p + 3) = xc := by rw [eμ3, pm_up_eq, exc]
          have w1 : μ3 222 (p + 1) = 3 := by rw [eμ3, pm_up_ne (by omega)]; exact w1
          have w2 : μ3 222 (p + 2) = xb := by rw [eμ3, pm_up_ne (by omega)]; exact w2
          have w0 : μ3 222 p = V (j + 1) := by rw [eμ3, pm_up_ne (by omega)]; exact w0
          have A : ∀ i, i < p → μ3 222 i = μ 222 i := fun i hi => Eq.trans (by rw [eμ3, pm_up_ne (by omega)]) (A i hi)
          have f6 := zT_getp hTμ3 zp222_3 (i := p + 3) (z := z) (by omega) (by omega) (by omega)
          refine pm_blk hK zmm284 [] 7 164 [(2, 205), (0, p), (0, 3)] [(0, (-1)), (0, μ3 222 (p + 3))] μ3 [pm_in (p + 3), 0 ≤ p + 3 ∧ p + 3 < 128] rfl ⟨pm_in_mk (by omega) (by omega), ⟨by omega, by omega⟩, trivial⟩ ?_
          refine pm_icmp hK zmm284 .ne 7 171 rfl rfl (fun h4 => ?_) (fun h4 => ?_)
          · have h4 : μ3 222 (p + 3) ≠ ((-1) : Int) := h4
            obtain ⟨c1, ⟨c2, c3, c4⟩, hm3⟩ := hA (by omega)
            have hm : zMs K S V n P (j + 5) μ3 := by rw [eμ3]; exact zMs_up hm3 (by decide)
            refine pm_blk hK zmm284 [] 2 174 [(2, 205), (0, p), (0, 3)] [(0, 59), (2, 205)] μ3 [] rfl trivial ?_
            refine pm_call hK zmm284 (274, 0, 282, 1) zM282 (3, 65) [(2, 205), (0, 59)] [] rfl rfl rfl rfl ⟨by omega, by rw [zn282]; omega⟩ (zm_mark hK (c := 59) (j := j + 5) (j1 := j + 6) hx hm (by omega) (by decide) hTμ3 hb205 ⟨Nat.le_refl _, Nat.le_refl _⟩) (fun st4 μc4 hp4 => ?_)
            obtain ⟨x4, rfl, hTc4, hF4, hA4, hB4⟩ := hp4
            have hF := zMf_tr hF (zMf_r hF4)
            have hx := zMx_f hx (zMf_r hF4)
            have hA := hA4
            have hB := hB4
            have A : ∀ i, i < p → μc4 222 i = μ 222 i := fun i hi => Eq.trans (by rw [hF4.1 222 (by decide)]) (A i hi)
            have w1 : μc4 222 (p + 1) = 3 := by rw [hF4.1 222 (by decide)]; exact w1
            have w2 : μc4 222 (p + 2) = xb := by rw [hF4.1 222 (by decide)]; exact w2
            have w3 : μc4 222 (p + 3) = xc := by rw [hF4.1 222 (by decide)]; exact w3
            have w0 : μc4 222 p = V (j + 1) := by rw [hF4.1 222 (by decide)]; exact w0
            first
            | exact pm_iret rfl rfl ⟨_, f, (j + 4), rfl, hTc4, hF, ⟨f, (j + 4), hP9, Or.inl ⟨nz9, rfl, rfl⟩⟩, Or.inr ⟨rfl, nz9, (by rw [eμc4]; exact zFm_up hff (by decide))⟩, A, fun h9 => absurd rfl h9⟩
            | (have hP0 : zPa2 K V (μ 205 6) (μ 205 7) (j + 1) 0 (j + 5) := zR2_4 ⟨a3, a4, a5⟩ (by omega) (by omega) ⟨b2, b3, b4⟩ (by omega) ⟨c2, c3, c4⟩
               by_cases h9 : x4 = -1
               · obtain ⟨f, ⟨f1, f2⟩, hff⟩ := hB h9
                 exact pm_iret rfl rfl ⟨_, 1, j + 5, rfl, hTc4, hF, ⟨0, j + 5, hP0, Or.inr (Or.inl ⟨rfl, rfl, rfl, f2⟩)⟩, Or.inr ⟨h9, by decide, by rw [← f1]; exact hff⟩, A, fun h8 => absurd h9 h8⟩
               · obtain ⟨-, d2, d3⟩ := hA h9
                 exact pm_iret rfl rfl ⟨_, 0, j + 6, rfl, hTc4, hF, ⟨0, j + 5, hP0, Or.inr (Or.inr ⟨rfl, rfl, by omega, d2⟩)⟩, Or.inl ⟨h9, rfl, d3⟩, A, fun _ => by rw [w1, w2, w3]; exact ⟨⟨by omega, by omega, by omega, by omega, fun _ => ⟨by omega, by omega⟩, fun _ => ⟨by omega, by omega⟩, fun _ => ⟨by omega, by omega⟩⟩, w0, by unfold zkd; omega, by omega, by omega⟩⟩)
            | (exfalso; omega)
          · have h4 : μ3 222 (p + 3) = ((-1) : Int) := h4
            obtain ⟨f, f1, hff⟩ := hB (by omega)
            obtain ⟨hP9, nz9⟩ := zR2_3 (K := K) (V := V) (sh := μ 205 6) (cu := μ 205 7) (j := j) ⟨a3, a4, a5⟩ (by omega) (by omega) ⟨b2, b3, b4⟩ (by omega) f1
            refine pm_blk hK zmm284 [] 2 177 [(2, 205), (0, p), (0, 3)] [(0, (-1))] μ3 [] rfl trivial ?_
            first
            | exact pm_iret rfl rfl ⟨_, f, (j + 4), rfl, hTμ3, hF, ⟨f, (j + 4), hP9, Or.inl ⟨nz9, rfl, rfl⟩⟩, Or.inr ⟨rfl, nz9, (by rw [eμ3]; exact zFm_up hff (by decide))⟩, A, fun h9 => absurd rfl h9⟩
            | (have hP0 : zPa2 K V (μ 205 6) (μ 205 7) (j + 1) 0 (j + 5) := zR2_4 ⟨a3, a4, a5⟩ (by omega) (by omega) ⟨b2, b3, b4⟩ (by omega) ⟨c2, c3, c4⟩
               by_cases h9 : ((-1)) = -1
               · obtain ⟨f, ⟨f1, f2⟩, hff⟩ := hB h9
                 exact pm_iret rfl rfl ⟨_, 1, j + 5, rfl, hTμ3, hF, ⟨0, j + 5, hP0, Or.inr (Or.inl ⟨rfl, rfl, rfl, f2⟩)⟩, Or.inr ⟨h9, by decide, by rw [← f1]; exact hff⟩, A, fun h8 => absurd h9 h8⟩
               · obtain ⟨-, d2, d3⟩ := hA h9
                 exact pm_iret rfl rfl ⟨_, 0, j + 6, rfl, hTμ3, hF, ⟨0, j + 5, hP0, Or.inr (Or.inr ⟨rfl, rfl, by omega, d2⟩)⟩, Or.inl ⟨h9, rfl, d3⟩, A, fun _ => by rw [w1, w2, w3]; exact ⟨⟨by omega, by omega, by omega, by omega, fun _ => ⟨by omega, by omega⟩, fun _ => ⟨by omega, by omega⟩, fun _ => ⟨by omega, by omega⟩⟩, w0, by unfold zkd; omega, by omega, by omega⟩⟩)
            | (exfalso; omega)
      · have h2 : μ2 222 (p + 2) = ((-1) : Int) := h2
        refine pm_blk hK zmm284 [] 1 101 [(2, 205), (0, p), (0, 3)] [(0, (-1))] μ2 [] rfl trivial ?_
        obtain ⟨f, f1, hff⟩ := hB (by omega)
        obtain ⟨hP9, nz9⟩ := zR2_2 (K := K) (V := V) (sh := μ 205 6) (cu := μ 205 7) (j := j) ⟨a3, a4, a5⟩ (by omega) (by omega) f1
        exact pm_iret rfl rfl ⟨_, f, (j + 3), rfl, hTμ2, hF, ⟨f, (j + 3), hP9, Or.inl ⟨nz9, rfl, rfl⟩⟩, Or.inr ⟨rfl, nz9, (by rw [eμ2]; exact zFm_up hff (by decide))⟩, A, fun h9 => absurd rfl h9⟩
    · have h1 : (3 : Int) = (2 : Int) := h1
      exact absurd h1 (by decide)
  · have h0 : (3 : Int) = ((-1) : Int) := h0
    exact absurd h0 (by decide)
set_option maxHeartbeats 4000000 in
set_option maxRecDepth 100000 in
theorem zm_deedn1 (hK : zKK ST) {p z : Int} {μm : pm_Mem} {T : Int → Int} {L : Int} {K S V : Int → Int} {n j : Int} {P : Nat → Int} (hx : zMx T L K S V n P μm) (hm : zMs K S V n P (j + 2) μm) (hF : zMf μ μm) (hp : p = 4 * z) (hz : 16 ≤ z ∧ z < 32) (hT0 : zTJ φ μ) (hT : zTJ φ μm) (hb205 : sx_bit Wm 205 = true) (hb222 : sx_bit Wm 222 = true) (a3 : K (j + 1) = 256) (a4 : 0 ≤ V (j + 1)) (a5 : V (j + 1) ≤ 999) (hkk : K (j + 2) ≠ 323 ∧ K (j + 2) ≠ 306 ∧ K (j + 2) ≠ 324 ∧ K (j + 2) ≠ 325) (A : ∀ i, i < p → μm 222 i = μ 222 i) (w0 : μm 222 p = V (j + 1)) (hj2 : j + 2 ≤ n) (hbd : 5 ≤ bud.1 ∧ 111 ≤ bud.2.1) : zW D Wm ST b0 l Sg zM284 bud (pm_X zM284 (fun st' μ' => ∃ x f q, st' = [(0, x)] ∧ zTJ φ μ' ∧ zMf μ μ' ∧ (∃ g p, zPa2 K V (μ 205 6) (μ 205 7) (j + 1) g p ∧ ((g ≠ 0 ∧ f = g ∧ q = p) ∨ (g = 0 ∧ f = 1 ∧ q = p ∧ K p ≠ 59) ∨ (g = 0 ∧ f = 0 ∧ q = p + 1 ∧ K p = 59))) ∧ ((x ≠ -1 ∧ f = 0 ∧ zMs K S V n P q μ') ∨ (x = -1 ∧ f ≠ 0 ∧ zFm S f q μ')) ∧ (∀ i, i < p → μ' 222 i = μ 222 i) ∧ (x ≠ -1 → zDeed (μ' 222 (p + 1)) (μ' 222 (p + 2)) (μ' 222 (p + 3)) ∧ μ' 222 p = V (j + 1) ∧ zkd (μ' 222 (p + 1)) (K (j + 2)) ∧ μ' 222 (p + 2) = V (j + 3) ∧ μ' 222 (p + 3) = V (j + 4)))) 33 [(2, 205), (0, p), (0, (-1))] [] μm := by
  have f6 := zT_get hT0 zs205_6 (i := 6) (by omega) (by omega)
  have f7 := zT_get hT0 zs205_7 (i := 7) (by omega) (by omega)
  have e11 : j + 1 + 1 = j + 2 := by omega
  have e12 : j + 1 + 2 = j + 3 := by omega
  have e13 : j + 1 + 3 = j + 4 := by omega
  have e14 : j + 1 + 4 = j + 5 := by omega
  have e15 : j + 1 + 5 = j + 6 := by omega
  have e16 : j + 1 + 6 = j + 7 := by omega
  refine pm_blk hK zmm284 [] 2 35 [(2, 205), (0, p), (0, (-1))] [(0, (-1)), (0, (-1))] μm [] rfl trivial ?_
  refine pm_icmp hK zmm284 .ne 9 44 rfl rfl (fun h0 => ?_) (fun h0 => ?_)
  · have h0 : ((-1) : Int) ≠ ((-1) : Int) := h0
    exact absurd h0 (by decide)
  · have h0 : ((-1) : Int) = ((-1) : Int) := h0
    refine pm_blk hK zmm284 [] 2 40 [(2, 205), (0, p), (0, (-1))] [(0, 1), (2, 205)] μm [] rfl trivial ?_
    refine pm_call hK zmm284 (216, 0, 278, 1) zM278 (0, 0) [(2, 205), (0, 1)] [] rfl rfl rfl rfl ⟨by omega, by rw [zn278]; omega⟩ (zm_errs hK (j := j + 2) hx hm hT ⟨by omega, by omega⟩ hb205 ⟨Nat.le_refl _, Nat.le_refl _⟩) (fun st1 μc1 hp1 => ?_)
    obtain ⟨rfl, hTc1, hF1, hf1⟩ := hp1
    have hF := zMf_tr hF (zMf_r hF1)
    have hff := hf1
    have A : ∀ i, i < p → μc1 222 i = μ 222 i := fun i hi => Eq.trans (by rw [hF1.1 222 (by decide)]) (A i hi)
    have hP9 := zR2_1 (K := K) (V := V) (sh := μ 205 6) (cu := μ 205 7) (j := j) ⟨a3, a4, a5⟩ hkk
    exact pm_iret rfl rfl ⟨_, 1, (j + 2), rfl, hTc1, hF, ⟨1, (j + 2), hP9, Or.inl ⟨by decide, rfl, rfl⟩⟩, Or.inr ⟨rfl, by decide, hff⟩, A, fun h9 => absurd rfl h9⟩
set_option maxRecDepth 100000 in
theorem zm_deed (hK : zKK ST) {p : Int} {z : Int} {T : Int → Int} {L : Int} {K S V : Int → Int} {n j : Int} {P : Nat → Int} (hx : zMx T L K S V n P μ) (h : zMs K S V n P j μ) (hp : p = 4 * z) (hz : 16 ≤ z ∧ z < 32) (hkj : K j = 322) (hT : zTJ φ μ) (hb205 : sx_bit Wm 205 = true) (hb222 : sx_bit Wm 222 = true) (hbd : 5 ≤ bud.1 ∧ 111 ≤ bud.2.1) : zC D Wm ST b0 l Sg zM284 bud [(2, 205), (0, p)] μ (fun st' μ' => ∃ x f q, st' = [(0, x)] ∧ zTJ φ μ' ∧ zMf μ μ' ∧ (∃ g p, zPa2 K V (μ 205 6) (μ 205 7) (j + 1) g p ∧ ((g ≠ 0 ∧ f = g ∧ q = p) ∨ (g = 0 ∧ f = 1 ∧ q = p ∧ K p ≠ 59) ∨ (g = 0 ∧ f = 0 ∧ q = p + 1 ∧ K p = 59))) ∧ ((x ≠ -1 ∧ f = 0 ∧ zMs K S V n P q μ') ∨ (x = -1 ∧ f ≠ 0 ∧ zFm S f q μ')) ∧ (∀ i, i < p → μ' 222 i = μ 222 i) ∧ (x ≠ -1 → zDeed (μ' 222 (p + 1)) (μ' 222 (p + 2)) (μ' 222 (p + 3)) ∧ μ' 222 p = V (j + 1) ∧ zkd (μ' 222 (p + 1)) (K (j + 2)) ∧ μ' 222 (p + 2) = V (j + 3) ∧ μ' 222 (p + 3) = V (j + 4))) := by
  have hm := h
  have hF : zMf μ μ := zMf_refl
  have hk := zMs_k hx hm
  have f6 := zT_get hT zs205_6 (i := 6) (by omega) (by omega)
  have f7 := zT_get hT zs205_7 (i := 7) (by omega) (by omega)
  have e11 : j + 1 + 1 = j + 2 := by omega
  have e12 : j + 1 + 2 = j + 3 := by omega
  have e13 : j + 1 + 3 = j + 4 := by omega
  have e14 : j + 1 + 4 = j + 5 := by omega
  have e15 : j + 1 + 5 = j + 6 := by omega
  have e16 : j + 1 + 6 = j + 7 := by omega
  have A : ∀ i, i < p → μ 222 i = μ 222 i := fun _ _ => rfl
  refine pm_blk hK zmm284 [] 7 12 [(2, 205), (0, p), (9, 0)] [(0, 999), (0, 0), (0, 22), (2, 205), (0, p), (2, 222)] μ [] rfl trivial ?_
  refine pm_call hK zmm284 (270, 0, 280, 3) zM280 (4, 88) [(2, 205), (0, 22), (0, 0), (0, 999)] [(0, p), (2, 222)] rfl rfl rfl rfl ⟨by omega, by rw [zn280]; omega⟩ (zm_told hK (kw := 322) (j := j) (j2 := j + 2) hx hm (by omega) (by decide) (by decide) (by omega) hT hb205 ⟨Nat.le_refl _, Nat.le_refl _⟩) (fun st1 μc1 hp1 => ?_)
  obtain ⟨x1, rfl, hTc1, hF1, hA1, hB1⟩ := hp1
  have hF := zMf_tr hF (zMf_r hF1)
  have hx := zMx_f hx (zMf_r hF1)
  have hA := hA1
  have hB := hB1
  have hxr1 : x1 = -1 ∨ (0 ≤ x1 ∧ x1 ≤ 999) := by
    by_cases hq : x1 = -1
    · exact Or.inl hq
    · obtain ⟨q1, ⟨-, -, q2, q3⟩, -⟩ := hA hq
      exact Or.inr ⟨by omega, by omega⟩
  obtain ⟨xa, exa⟩ : ∃ y, y = x1 := ⟨_, rfl⟩
  have A : ∀ i, i < p → μc1 222 i = μ 222 i := fun i hi => Eq.trans (by rw [hF1.1 222 (by decide)]) (A i hi)
  refine pm_blk hK zmm284 [] 1 16 [(2, 205), (0, p), (9, 0)] [] (pm_up μc1 222 p x1) [sx_bit Wm 222 = true, 0 ≤ p ∧ p < 128] rfl ⟨hb222, ⟨by omega, by omega⟩, trivial⟩ ?_
  obtain ⟨μ1, eμ1⟩ : ∃ μ', μ' = pm_up μc1 222 p x1 := ⟨_, rfl⟩
  rw [← eμ1]
  have hTμ1 : zTJ φ μ1 := by rw [eμ1]; exact zT_deed hTc1 zp222_0 (z := z) (by omega) (by omega) (by omega) (by omega) (by omega)
  have hFp := hF
  have hF : zMf μ μ1 := by rw [eμ1]; exact zMf_222 hFp (by omega)
  have hxp := hx
  have hx : zMx T L K S V n P μ1 := by rw [eμ1]; exact zMx_up hxp (by decide) (by decide)
  have v1 : μ1 222 (p) = xa := by rw [eμ1, pm_up_eq, exa]
  have A : ∀ i, i < p → μ1 222 i = μ 222 i := fun i hi => Eq.trans (by rw [eμ1, pm_up_ne (by omega)]) (A i hi)
  have f1 := zT_getp hTμ1 zp222_0 (i := p) (z := z) (by omega) (by omega) (by omega)
  refine pm_blk hK zmm284 [] 5 23 [(2, 205), (0, p), (9, 0)] [(0, (-1)), (0, μ1 222 p)] μ1 [0 ≤ p ∧ p < 128] rfl ⟨⟨by omega, by omega⟩, trivial⟩ ?_
  refine pm_icmp hK zmm284 .ne 5 28 rfl rfl (fun h0 => ?_) (fun h0 => ?_)
  · have h0 : μ1 222 p ≠ ((-1) : Int) := h0
    obtain ⟨a1, ⟨a2, a3, a4, a5⟩, hm1⟩ := hA (by omega)
    have hm : zMs K S V n P (j + 2) μ1 := by rw [eμ1]; exact zMs_up hm1 (by decide)
    have hk := zMs_k hx hm
    have hj2 : j + 2 ≤ n := by omega
    clear hk
    have w0 : μ1 222 p = V (j + 1) := by omega
    refine pm_blk hK zmm284 [] 1 29 [(2, 205), (0, p), (9, 0)] [(2, 205)] μ1 [] rfl trivial ?_
    refine pm_call hK zmm284 (280, 0, 285, 0) zM285 (1, 21) [(2, 205)] [] rfl rfl rfl rfl ⟨by omega, by rw [zn285]; omega⟩ (zm_kod hK (j := j + 2) hx hm ⟨Nat.le_refl _, Nat.le_refl _⟩) (fun st2 μc2 hp2 => ?_)
    obtain ⟨rfl, x2, rfl, hkd⟩ := hp2
    obtain ⟨xk, exk⟩ : ∃ y, y = x2 := ⟨_, rfl⟩
    refine pm_blk hK zmm284 [] 1 33 [(2, 205), (0, p), (0, x2)] [] μ1 [] rfl trivial ?_
    rcases hkd with ⟨hk1, hkk⟩ | ⟨hk1, hkk⟩ | ⟨hk1, hkk⟩ | ⟨hk1, hkk⟩ | ⟨hk1, hkk⟩
    · rw [hk1]; exact zm_deed0 hK hx hm hF hp hz hT hTμ1 hb205 hb222 a3 a4 a5 hkk A w0 hj2 ⟨by omega, by omega⟩
    · rw [hk1]; exact zm_deed1 hK hx hm hF hp hz hT hTμ1 hb205 hb222 a3 a4 a5 hkk A w0 hj2 ⟨by omega, by omega⟩
    · rw [hk1]; exact zm_deed2 hK hx hm hF hp hz hT hTμ1 hb205 hb222 a3 a4 a5 hkk A w0 hj2 ⟨by omega, by omega⟩
    · rw [hk1]; exact zm_deed3 hK hx hm hF hp hz hT hTμ1 hb205 hb222 a3 a4 a5 hkk A w0 hj2 ⟨by omega, by omega⟩
    · rw [hk1]; exact zm_deedn1 hK hx hm hF hp hz hT hTμ1 hb205 hb222 a3 a4 a5 hkk A w0 hj2 ⟨by omega, by omega⟩
  · have h0 : μ1 222 p = ((-1) : Int) := h0
    refine pm_blk hK zmm284 [] 1 27 [(2, 205), (0, p), (9, 0)] [(0, (-1))] μ1 [] rfl trivial ?_
    obtain ⟨f, q, f1, hff⟩ := hB (by omega)
    obtain ⟨hP9, nz9⟩ := zR2_0 (K := K) (V := V) (sh := μ 205 6) (cu := μ 205 7) (j := j) f1 hkj
    exact pm_iret rfl rfl ⟨_, f, q, rfl, hTμ1, hF, ⟨f, q, hP9, Or.inl ⟨nz9, rfl, rfl⟩⟩, Or.inr ⟨rfl, nz9, (by rw [eμ1]; exact zFm_up hff (by decide))⟩, A, fun h9 => absurd rfl h9⟩
set_option maxRecDepth 100000 in
theorem zm_deedl (hK : zKK ST)  {μ0 : pm_Mem} {sh cu : Int} {T : Int → Int} {L : Int} {K S V : Int → Int} {N : Int} {P : Nat → Int} (hsh0 : μ0 205 6 = sh) (hcu0 : μ0 205 7 = cu) (hb205 : sx_bit Wm 205 = true) (hb222 : sx_bit Wm 222 = true) (hbd : 6 ≤ bud.1 ∧ 134 ≤ bud.2.1) : ∀ (n : Nat) {i : Int} {μ : pm_Mem}, (16 - i).toNat = n → ∀ (hi : 0 ≤ i ∧ i ≤ 16) (hS : zQs (zLi0 (zPa2 K V sh cu) K 322) (zcD K) T L K S V N P μ0 i μ) (hT : zTJ φ μ), zW D Wm ST b0 l Sg zM143 bud (pm_X zM143 (fun st' μ' => ∃ x, st' = [(0, x)] ∧ zTJ φ μ' ∧ zQo (zLi0 (zPa2 K V sh cu) K 322) (zcD K) K S V μ0 x μ')) 2 [(2, 205), (0, i)] [] μ := by
  intro n
  induction n using Nat.strongRecOn with
  | ind n ih =>
    intro i μ hn hi hS hT
    obtain ⟨hF, hx, J, hch, hm, hce⟩ := id hS
    have hk := zMs_k hx hm
    obtain ⟨t1, t2, t3, t4⟩ := id hm
    obtain ⟨v1, v2, v3, v4, v5⟩ := id t3
    have hsh : μ 205 6 = sh := (hF.2.1 6 (by decide) (by decide) (by decide) (by decide) (by decide) (by decide) (by decide) (by decide) (by decide)).trans hsh0
    have hcu : μ 205 7 = cu := (hF.2.1 7 (by decide) (by decide) (by decide) (by decide) (by decide) (by decide) (by decide) (by decide) (by decide)).trans hcu0
    refine pm_blk hK zmm143 [] 2 5 [(2, 205), (0, i)] [(0, 22), (2, 205)] μ [] rfl trivial ?_
    refine pm_call hK zmm143 (245, 0, 142, 1) zM142 (0, 0) [(2, 205), (0, 22)] [] rfl rfl rfl rfl ⟨by omega, by rw [zn142]; omega⟩ (zm_isWord hK (kw := 322) (j := J i.toNat) hx hm (by decide) (by decide) ⟨Nat.le_refl _, Nat.le_refl _⟩) (fun st1 μc1 hp1 => ?_)
    obtain ⟨rfl, x1, rfl, hw1⟩ := hp1
    have hw := hw1
    refine pm_if hK zmm143 .eq 38 46 rfl rfl (fun h0 => ?_) (fun h0 => ?_)
    · have h0 : x1 = (0 : Int) := h0
      have hnk : K (J i.toNat) ≠ 322 := by omega
      have f1 := zT_get hT zs205_14 (i := 14) (by omega) (by omega)
      refine pm_blk hK zmm143 [] 2 50 [(2, 205), (0, i)] [(0, μ 205 14)] μ [] rfl trivial ?_
      refine pm_if hK zmm143 .ne 7 57 rfl rfl (fun h1 => ?_) (fun h1 => ?_)
      · have h1 : μ 205 14 ≠ (0 : Int) := h1
        refine pm_blk hK zmm143 [] 2 59 [(2, 205), (0, i)] [(0, 1), (2, 205)] μ [] rfl trivial ?_
        refine pm_call hK zmm143 (216, 0, 278, 1) zM278 (0, 0) [(2, 205), (0, 1)] [] rfl rfl rfl rfl ⟨by omega, by rw [zn278]; omega⟩ (zm_errs hK (j := J i.toNat) hx hm hT ⟨by omega, by omega⟩ hb205 ⟨Nat.le_refl _, Nat.le_refl _⟩) (fun st2 μc2 hp2 => ?_)
        obtain ⟨rfl, hTc2, hF2, hf2⟩ := hp2
        have hF := zMf_tr hF (zMf_r hF2)
        have hff := hf2
        first
        | exact pm_iret rfl rfl ⟨_, rfl, hTc2, zQo_e hi hF hch (by omega) hce⟩
        | exact pm_iret rfl rfl ⟨_, rfl, hTc2, zQo_f (f := 1) (q := J i.toNat) hi.1 hF hch (by omega) (by decide) (Or.inl ⟨rfl, rfl, hnk⟩) hff⟩
        | (exfalso; omega)
      · have h1 : μ 205 14 = (0 : Int) := h1
        refine pm_blk hK zmm143 [] 2 62 [(2, 205), (0, i)] [(0, i)] μ [] rfl trivial ?_
        first
        | exact pm_iret rfl rfl ⟨_, rfl, hT, zQo_e hi hF hch (by omega) hce⟩
        | exact pm_iret rfl rfl ⟨_, rfl, hT, zQo_f (f := 1) (q := J i.toNat) hi.1 hF hch (by omega) (by decide) (Or.inl ⟨rfl, rfl, hnk⟩) hff⟩
        | (exfalso; omega)
    · have h0 : x1 ≠ (0 : Int) := h0
      have hkw : K (J i.toNat) = 322 := by omega
      refine pm_blk hK zmm143 [] 2 14 [(2, 205), (0, i)] [(0, 16), (0, i)] μ [] rfl trivial ?_
      refine pm_icmp hK zmm143 .ne 9 23 rfl rfl (fun h2 => ?_) (fun h2 => ?_)
      · have h2 : i ≠ (16 : Int) := h2
        refine pm_blk hK zmm143 [] 6 30 [(2, 205), (0, i)] [(0, 64 + (4 * i)), (2, 205)] μ [pm_in (4 * i), pm_in (64 + (4 * i))] rfl ⟨pm_in_mk (by omega) (by omega), pm_in_mk (by omega) (by omega), trivial⟩ ?_
        refine pm_call hK zmm143 (283, 0, 284, 1) zM284 (5, 111) [(2, 205), (0, 64 + (4 * i))] [] rfl rfl rfl rfl ⟨by omega, by rw [zn284]; omega⟩ (zm_deed hK (p := (64 + (4 * i))) (z := 16 + i) (j := J i.toNat) hx hm (by omega) ⟨by omega, by omega⟩ hkw hT hb205 hb222 ⟨Nat.le_refl _, Nat.le_refl _⟩) (fun st3 μc3 hp3 => ?_)
        obtain ⟨x3, ff, qq, rfl, hTc3, hF3, hLL, hQ, hAA, hDD⟩ := hp3
        rw [hsh, hcu] at hLL
        have hx := zMx_f hx hF3
        have hF := zMf_tr hF hF3
        refine pm_blk hK zmm143 [] 1 34 [(2, 205), (0, i)] [(0, (-1)), (0, x3)] μc3 [] rfl trivial ?_
        refine pm_icmp hK zmm143 .ne 5 39 rfl rfl (fun h3 => ?_) (fun h3 => ?_)
        · have h3 : x3 ≠ ((-1) : Int) := h3
          refine pm_blk hK zmm143 [] 5 2 [(2, 205), (0, i + 1)] [] μc3 [pm_in (i + 1)] rfl ⟨pm_in_mk (by omega) (by omega), trivial⟩ ?_
          rcases hQ with ⟨a1, a2, a3⟩ | ⟨a1, -⟩
          · subst a2
            exact ih _ (by omega) rfl ⟨by omega, by omega⟩ (zQs_ok hi.1 hF hx hch (Or.inr (Or.inr ⟨hkw, by omega, hLL⟩)) a3 (zcD_add (i := i) (by omega) hce hAA (hDD a1))) hTc3
          · exact absurd a1 h3
        · have h3 : x3 = ((-1) : Int) := h3
          refine pm_blk hK zmm143 [] 1 38 [(2, 205), (0, i)] [(0, (-1))] μc3 [] rfl trivial ?_
          rcases hQ with ⟨a1, -⟩ | ⟨a1, a2, a3⟩
          · exact absurd h3 a1
          · exact pm_iret rfl rfl ⟨_, rfl, hTc3, zQo_f hi.1 hF hch (by omega) a2 (Or.inr (Or.inr ⟨hkw, by omega, hLL⟩)) a3⟩
      · have h2 : i = (16 : Int) := h2
        refine pm_blk hK zmm143 [] 2 19 [(2, 205), (0, i)] [(0, 3), (2, 205)] μ [] rfl trivial ?_
        refine pm_call hK zmm143 (216, 0, 278, 1) zM278 (0, 0) [(2, 205), (0, 3)] [] rfl rfl rfl rfl ⟨by omega, by rw [zn278]; omega⟩ (zm_errs hK (j := J i.toNat) hx hm hT ⟨by omega, by omega⟩ hb205 ⟨Nat.le_refl _, Nat.le_refl _⟩) (fun st4 μc4 hp4 => ?_)
        obtain ⟨rfl, hTc4, hF4, hf4⟩ := hp4
        have hF := zMf_tr hF (zMf_r hF4)
        have hff := hf4
        exact pm_iret rfl rfl ⟨_, rfl, hTc4, zQo_f (f := 3) (q := J i.toNat) hi.1 hF hch (by omega) (by decide) (Or.inr (Or.inl ⟨rfl, rfl, hkw, by omega⟩)) hff⟩
set_option maxRecDepth 100000 in
theorem zm_deeds (hK : zKK ST) {sh cu : Int} {T : Int → Int} {L : Int} {K S V : Int → Int} {N : Int} {P : Nat → Int} (hx : zMx T L K S V N P μ) (h : zMs K S V N P 0 μ) (hsh : μ 205 6 = sh) (hcu : μ 205 7 = cu) (hT : zTJ φ μ) (hb205 : sx_bit Wm 205 = true) (hb222 : sx_bit Wm 222 = true) (hbd : 6 ≤ bud.1 ∧ 134 ≤ bud.2.1) : zC D Wm ST b0 l Sg zM143 bud [(2, 205)] μ (fun st' μ' => ∃ x, st' = [(0, x)] ∧ zTJ φ μ' ∧ zQo (zLi0 (zPa2 K V sh cu) K 322) (zcD K) K S V μ x μ') := by
  refine pm_blk hK zmm143 [] 2 2 [(2, 205), (0, 0)] [] μ [] rfl trivial ?_
  exact zm_deedl hK (μ0 := μ) hsh hcu hb205 hb222 hbd _ rfl ⟨by omega, by omega⟩ ⟨zMf_refl, hx, fun _ => 0, ⟨rfl, fun t ht => absurd ht (by omega)⟩, h, ⟨fun y y0 y1 => absurd y1 (by show ¬ y < ((0 : Nat) : Int); omega), fun s hs => absurd hs (by omega)⟩⟩ hT
end ZHW
