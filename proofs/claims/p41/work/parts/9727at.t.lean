/-! lines of ARCADE: the reference; walks printed by program (wip/p30/pmgen.py) and filled by hand -/
section ZHW
variable {φ : Option pm_Mem}
variable {D : va_G} {Wm : Nat} {ST : List (String × String × String × Nat)} {b0 : sx_B} {l : Launch} {Sg : Nat → Option Nat} {bud : sx_Bu} {μ : pm_Mem} {B0 : Nat → Prop} {J : (Nat → Option Nat) → Heap → Prop}
set_option maxRecDepth 100000 in
theorem zm_ts (hK : zKK ST) {i v : Int} (hT : zTJ φ μ) (hi : 144 ≤ i ∧ i ≤ 287) (hv : 1 ≤ v ∧ v ≤ 99) (hb223 : sx_bit Wm 223 = true) (hbd : 0 ≤ bud.1 ∧ 0 ≤ bud.2.1) : zC D Wm ST b0 l Sg zM287 bud [(2, 205), (0, i), (0, v)] μ (fun st' μ' => st' = [] ∧ zTJ φ μ' ∧ (∀ r, r ≠ 223 → μ' r = μ r) ∧ μ' 223 = zsu (μ 223) i v) := by
  have f1 := zT_get hT zs223_0 (i := i) (by omega) (by omega)
  refine pm_blk hK zmm287 [] 4 6 [(2, 205), (0, i), (0, v)] [(0, μ 223 i)] μ [0 ≤ i ∧ i < 288] rfl ⟨⟨by omega, by omega⟩, trivial⟩ ?_
  refine pm_if hK zmm287 .eq 13 19 rfl rfl (fun h0 => ?_) (fun h0 => ?_)
  · have h0 : μ 223 i = (0 : Int) := h0
    refine pm_blk hK zmm287 [] 5 26 [(2, 205), (0, i), (0, v)] [] (pm_up μ 223 i v) [sx_bit Wm 223 = true, 0 ≤ i ∧ i < 288] rfl ⟨hb223, ⟨by omega, by omega⟩, trivial⟩ ?_
    obtain ⟨μ1, eμ1⟩ : ∃ μ', μ' = pm_up μ 223 i v := ⟨_, rfl⟩
    rw [← eμ1]
    have hTμ1 : zTJ φ μ1 := by rw [eμ1]; exact zT_up hT zs223_0 rfl (i := i) (by omega) (by omega) (by omega) (by omega)
    first
    | exact pm_vret rfl rfl ⟨rfl, hTμ1, fun r hr => by rw [eμ1, pm_up_row hr], by unfold zsu; rw [if_pos (by omega), eμ1, pm_up_zpu]⟩
    | exact pm_vret rfl rfl ⟨rfl, hTμ1, fun r hr => rfl, by unfold zsu; rw [if_neg (by omega)]⟩
    | (exfalso; omega)
  · have h0 : μ 223 i ≠ (0 : Int) := h0
    refine pm_blk hK zmm287 [] 5 16 [(2, 205), (0, i), (0, v)] [(0, μ 223 i), (0, v)] μ [0 ≤ i ∧ i < 288] rfl ⟨⟨by omega, by omega⟩, trivial⟩ ?_
    refine pm_icmp hK zmm287 .ge 10 26 rfl rfl (fun h1 => ?_) (fun h1 => ?_)
    · have h1 : μ 223 i ≤ v := h1
      first
      | exact pm_vret rfl rfl ⟨rfl, hT, fun r hr => rfl, by unfold zsu; rw [if_neg (by omega)]⟩
      | exact pm_vret rfl rfl ⟨rfl, hT, fun r hr => rfl, by unfold zsu; rw [if_neg (by omega)]⟩
      | (exfalso; omega)
    · have h1 : v < μ 223 i := h1
      refine pm_blk hK zmm287 [] 5 26 [(2, 205), (0, i), (0, v)] [] (pm_up μ 223 i v) [sx_bit Wm 223 = true, 0 ≤ i ∧ i < 288] rfl ⟨hb223, ⟨by omega, by omega⟩, trivial⟩ ?_
      obtain ⟨μ2, eμ2⟩ : ∃ μ', μ' = pm_up μ 223 i v := ⟨_, rfl⟩
      rw [← eμ2]
      have hTμ2 : zTJ φ μ2 := by rw [eμ2]; exact zT_up hT zs223_0 rfl (i := i) (by omega) (by omega) (by omega) (by omega)
      first
      | exact pm_vret rfl rfl ⟨rfl, hTμ2, fun r hr => by rw [eμ2, pm_up_row hr], by unfold zsu; rw [if_pos (by omega), eμ2, pm_up_zpu]⟩
      | exact pm_vret rfl rfl ⟨rfl, hTμ2, fun r hr => rfl, by unfold zsu; rw [if_neg (by omega)]⟩
      | (exfalso; omega)
set_option maxRecDepth 100000 in
theorem zm_beside (hK : zKK ST) {T : Int → Int} {L : Int} {K S V : Int → Int} {n j : Int} {P : Nat → Int} (hx : zMx T L K S V n P μ) (h : zMs K S V n P j μ) (hkj : K j = 326) (hT : zTJ φ μ) (hb205 : sx_bit Wm 205 = true) (hb223 : sx_bit Wm 223 = true) (hbd : 5 ≤ bud.1 ∧ 111 ≤ bud.2.1) : zC D Wm ST b0 l Sg zM286 bud [(2, 205)] μ (fun st' μ' => ∃ x f q, st' = [(0, x)] ∧ zTJ φ μ' ∧ zMf μ μ' ∧ (∃ g p, zPa3 K V (μ 205 6) (μ 205 7) (j + 1) g p ∧ ((g ≠ 0 ∧ f = g ∧ q = p) ∨ (g = 0 ∧ f = 1 ∧ q = p ∧ K p ≠ 59) ∨ (g = 0 ∧ f = 0 ∧ q = p + 1 ∧ K p = 59))) ∧ ((x ≠ -1 ∧ f = 0 ∧ zMs K S V n P q μ' ∧ (0 ≤ V (j + 1) ∧ V (j + 1) ≤ 11) ∧ (0 ≤ V (j + 4) ∧ V (j + 4) ≤ 11) ∧ V (j + 1) ≠ V (j + 4) ∧ μ' 223 = zsu (zsu (μ 223) (144 + 12 * V (j + 1) + V (j + 4)) (V (j + 5))) (144 + 12 * V (j + 4) + V (j + 1)) (V (j + 5))) ∨ (x = -1 ∧ f ≠ 0 ∧ zFm S f q μ'))) := by
  have hm := h
  have hF : zMr μ μ := zMr_refl
  have hk := zMs_k hx hm
  have f6 := zT_get hT zs205_6 (i := 6) (by omega) (by omega)
  have e11 : j + 1 + 1 = j + 2 := by omega
  have e12 : j + 1 + 2 = j + 3 := by omega
  have e13 : j + 1 + 3 = j + 4 := by omega
  have e14 : j + 1 + 4 = j + 5 := by omega
  have e15 : j + 1 + 5 = j + 6 := by omega
  have f1 := zT_get hT zs205_6 (i := 6) (by omega) (by omega)
  refine pm_blk hK zmm286 [] 7 10 [(2, 205), (9, 0), (9, 0), (9, 0)] [(0, (μ 205 6) - 1), (0, 0), (0, 26), (2, 205)] μ [pm_in ((μ 205 6) - 1)] rfl ⟨pm_in_mk (by omega) (by omega), trivial⟩ ?_
  refine pm_call hK zmm286 (270, 0, 280, 3) zM280 (4, 88) [(2, 205), (0, 26), (0, 0), (0, (μ 205 6) - 1)] [] rfl rfl rfl rfl ⟨by omega, by rw [zn280]; omega⟩ (zm_told hK (kw := 326) (j := j) (j2 := j + 2) hx hm rfl (by decide) (by decide) (by omega) hT hb205 ⟨Nat.le_refl _, Nat.le_refl _⟩) (fun st1 μc1 hp1 => ?_)
  obtain ⟨x1, rfl, hTc1, hF1, hA1, hB1⟩ := hp1
  have hF := zMr_tr hF hF1
  have hx := zMx_f hx (zMf_r hF1)
  have hA := hA1
  have hB := hB1
  refine pm_blk hK zmm286 [] 3 16 [(2, 205), (0, x1), (9, 0), (9, 0)] [(0, (-1)), (0, x1)] μc1 [] rfl trivial ?_
  refine pm_icmp hK zmm286 .ne 5 21 rfl rfl (fun h0 => ?_) (fun h0 => ?_)
  · have h0 : x1 ≠ ((-1) : Int) := h0
    obtain ⟨a1, ⟨a2, a3, a4⟩, hm⟩ := hA h0
    have hk := zMs_k hx hm
    refine pm_blk hK zmm286 [] 2 24 [(2, 205), (0, x1), (9, 0), (9, 0)] [(0, 27), (2, 205)] μc1 [] rfl trivial ?_
    refine pm_call hK zmm286 (245, 0, 142, 1) zM142 (0, 0) [(2, 205), (0, 27)] [] rfl rfl rfl rfl ⟨by omega, by rw [zn142]; omega⟩ (zm_isWord hK (kw := 327) (j := j + 2) hx hm (by decide) (by decide) ⟨Nat.le_refl _, Nat.le_refl _⟩) (fun st2 μc2 hp2 => ?_)
    obtain ⟨rfl, x2, rfl, hw2⟩ := hp2
    have hw := hw2
    refine pm_if hK zmm286 .ne 9 36 rfl rfl (fun h1 => ?_) (fun h1 => ?_)
    · have h1 : x2 ≠ (0 : Int) := h1
      have hkb : K (j + 2) = 327 := by omega
      refine pm_blk hK zmm286 [] 1 37 [(2, 205), (0, x1), (9, 0), (9, 0)] [(2, 205)] μc1 [] rfl trivial ?_
      refine pm_call hK zmm286 (223, 0, 139, 0) zM139 (2, 44) [(2, 205)] [] rfl rfl rfl rfl ⟨by omega, by rw [zn139]; omega⟩ (zt_reads hK hTc1 (zMs_sp hx hm (by omega)) hb205 ⟨Nat.le_refl _, Nat.le_refl _⟩) (fun st3 μc3 hp3 => ?_)
      obtain ⟨rfl, hTc3, hr3⟩ := hp3
      have hm := zMs_rd hx hm (by omega) hr3
      rw [show j + 2 + 1 = j + 3 by omega] at hm
      have hF := zMr_tr hF (zMr_fr hr3.1)
      have hx := zMx_f hx (zMf_fr hr3.1)
      have hk := zMs_k hx hm
      refine pm_blk hK zmm286 [] 2 43 [(2, 205), (0, x1), (9, 0), (9, 0)] [(0, 26), (2, 205)] μc3 [] rfl trivial ?_
      refine pm_call hK zmm286 (245, 0, 142, 1) zM142 (0, 0) [(2, 205), (0, 26)] [] rfl rfl rfl rfl ⟨by omega, by rw [zn142]; omega⟩ (zm_isWord hK (kw := 326) (j := j + 3) hx hm (by decide) (by decide) ⟨Nat.le_refl _, Nat.le_refl _⟩) (fun st4 μc4 hp4 => ?_)
      obtain ⟨rfl, x4, rfl, hw4⟩ := hp4
      have hw := hw4
      refine pm_if hK zmm286 .ne 9 55 rfl rfl (fun h2 => ?_) (fun h2 => ?_)
      · have h2 : x4 ≠ (0 : Int) := h2
        have hks : K (j + 3) = 326 := by omega
        refine pm_blk hK zmm286 [] 1 56 [(2, 205), (0, x1), (9, 0), (9, 0)] [(2, 205)] μc3 [] rfl trivial ?_
        refine pm_call hK zmm286 (223, 0, 139, 0) zM139 (2, 44) [(2, 205)] [] rfl rfl rfl rfl ⟨by omega, by rw [zn139]; omega⟩ (zt_reads hK hTc3 (zMs_sp hx hm (by omega)) hb205 ⟨Nat.le_refl _, Nat.le_refl _⟩) (fun st5 μc5 hp5 => ?_)
        obtain ⟨rfl, hTc5, hr5⟩ := hp5
        have hm := zMs_rd hx hm (by omega) hr5
        rw [show j + 3 + 1 = j + 4 by omega] at hm
        have hF := zMr_tr hF (zMr_fr hr5.1)
        have hx := zMx_f hx (zMf_fr hr5.1)
        have hk := zMs_k hx hm
        obtain ⟨t1, t2, t3, t4⟩ := id hm
        obtain ⟨v1, v2, v3, v4, v5⟩ := id t3
        have f2 := zT_get hTc5 zs205_14 (i := 14) (by omega) (by omega)
        refine pm_blk hK zmm286 [] 3 64 [(2, 205), (0, x1), (9, 0), (9, 0)] [(0, 3), (0, μc5 205 14)] μc5 [] rfl trivial ?_
        refine pm_icmp hK zmm286 .ne 17 81 rfl rfl (fun h3 => ?_) (fun h3 => ?_)
        · have h3 : μc5 205 14 ≠ (3 : Int) := h3
          have e6 : μc5 205 6 = μ 205 6 := hF.2 6 (by decide) (by decide) (by decide) (by decide) (by decide) (by decide)
          have hne : ¬ (K (j + 4) = 256 ∧ V (j + 4) = V (j + 1)) := fun h9 => by have h8 := v4 h9.1; omega
          have f3 := zT_get hTc5 zs205_6 (i := 6) (by omega) (by omega)
          refine pm_blk hK zmm286 [] 6 89 [(2, 205), (0, x1), (9, 0), (9, 0)] [(0, (μc5 205 6) - 1), (0, 0), (2, 205)] μc5 [pm_in ((μc5 205 6) - 1)] rfl ⟨pm_in_mk (by omega) (by omega), trivial⟩ ?_
          refine pm_call hK zmm286 (267, 0, 281, 2) zM281 (3, 65) [(2, 205), (0, 0), (0, (μc5 205 6) - 1)] [] rfl rfl rfl rfl ⟨by omega, by rw [zn281]; omega⟩ (zm_num hK (lo := 0) (hi := ((μc5 205 6) - 1)) (j := j + 4) (j1 := j + 5) hx hm (by omega) (by omega) hTc5 hb205 ⟨Nat.le_refl _, Nat.le_refl _⟩) (fun st6 μc6 hp6 => ?_)
          obtain ⟨x6, rfl, hTc6, hF6, hA6, hB6⟩ := hp6
          have hF := zMr_tr hF hF6
          have hx := zMx_f hx (zMf_r hF6)
          have hA := hA6
          have hB := hB6
          refine pm_blk hK zmm286 [] 3 95 [(2, 205), (0, x1), (0, x6), (9, 0)] [(0, (-1)), (0, x6)] μc6 [] rfl trivial ?_
          refine pm_icmp hK zmm286 .ne 5 100 rfl rfl (fun h4 => ?_) (fun h4 => ?_)
          · have h4 : x6 ≠ ((-1) : Int) := h4
            obtain ⟨b1, b2, hm⟩ := hA h4
            have hk := zMs_k hx hm
            refine pm_blk hK zmm286 [] 3 104 [(2, 205), (0, x1), (0, x6), (9, 0)] [(0, 99), (0, 1), (2, 205)] μc6 [] rfl trivial ?_
            refine pm_call hK zmm286 (267, 0, 281, 2) zM281 (3, 65) [(2, 205), (0, 1), (0, 99)] [] rfl rfl rfl rfl ⟨by omega, by rw [zn281]; omega⟩ (zm_num hK (lo := 1) (hi := 99) (j := j + 5) (j1 := j + 6) hx hm (by omega) (by omega) hTc6 hb205 ⟨Nat.le_refl _, Nat.le_refl _⟩) (fun st7 μc7 hp7 => ?_)
            obtain ⟨x7, rfl, hTc7, hF7, hA7, hB7⟩ := hp7
            have hF := zMr_tr hF hF7
            have hx := zMx_f hx (zMf_r hF7)
            have hA := hA7
            have hB := hB7
            refine pm_blk hK zmm286 [] 3 110 [(2, 205), (0, x1), (0, x6), (0, x7)] [(0, (-1)), (0, x7)] μc7 [] rfl trivial ?_
            refine pm_icmp hK zmm286 .ne 5 115 rfl rfl (fun h5 => ?_) (fun h5 => ?_)
            · have h5 : x7 ≠ ((-1) : Int) := h5
              obtain ⟨c1, c2, hm⟩ := hA h5
              have hk := zMs_k hx hm
              have hG := zMf_r hF
              have h223 := hF.1 223 (by decide)
              refine pm_blk hK zmm286 [] 9 127 [(2, 205), (0, x1), (0, x6), (0, x7)] [(0, x7), (0, (144 + (12 * x1)) + x6), (2, 205)] μc7 [pm_in (12 * x1), pm_in (144 + (12 * x1)), pm_in ((144 + (12 * x1)) + x6)] rfl ⟨pm_in_mk (by omega) (by omega), pm_in_mk (by omega) (by omega), pm_in_mk (by omega) (by omega), trivial⟩ ?_
              refine pm_call hK zmm286 (286, 0, 287, 2) zM287 (0, 0) [(2, 205), (0, (144 + (12 * x1)) + x6), (0, x7)] [] rfl rfl rfl rfl ⟨by omega, by rw [zn287]; omega⟩ (zm_ts hK (i := ((144 + (12 * x1)) + x6)) (v := x7) hTc7 ⟨by omega, by omega⟩ ⟨by omega, by omega⟩ hb223 ⟨Nat.le_refl _, Nat.le_refl _⟩) (fun st8 μc8 hp8 => ?_)
              obtain ⟨rfl, hTc8, hs8, hz8⟩ := hp8
              have hfs8 := zMf_s hs8 (fun i hi => by rw [hz8]; exact zsu_ne (by omega))
              have hG := zMf_tr hG hfs8
              have hx := zMx_f hx hfs8
              have hm := zMs_of (μ' := μc8) hm (fun y _ => by rw [hs8 205 (by decide)])
              have hz := hz8
              have hza := hz
              refine pm_blk hK zmm286 [] 9 142 [(2, 205), (0, x1), (0, x6), (0, x7)] [(0, x7), (0, (144 + (12 * x6)) + x1), (2, 205)] μc8 [pm_in (12 * x6), pm_in (144 + (12 * x6)), pm_in ((144 + (12 * x6)) + x1)] rfl ⟨pm_in_mk (by omega) (by omega), pm_in_mk (by omega) (by omega), pm_in_mk (by omega) (by omega), trivial⟩ ?_
              refine pm_call hK zmm286 (286, 0, 287, 2) zM287 (0, 0) [(2, 205), (0, (144 + (12 * x6)) + x1), (0, x7)] [] rfl rfl rfl rfl ⟨by omega, by rw [zn287]; omega⟩ (zm_ts hK (i := ((144 + (12 * x6)) + x1)) (v := x7) hTc8 ⟨by omega, by omega⟩ ⟨by omega, by omega⟩ hb223 ⟨Nat.le_refl _, Nat.le_refl _⟩) (fun st9 μc9 hp9 => ?_)
              obtain ⟨rfl, hTc9, hs9, hz9⟩ := hp9
              have hfs9 := zMf_s hs9 (fun i hi => by rw [hz9]; exact zsu_ne (by omega))
              have hG := zMf_tr hG hfs9
              have hx := zMx_f hx hfs9
              have hm := zMs_of (μ' := μc9) hm (fun y _ => by rw [hs9 205 (by decide)])
              have hz := hz9
              have hzb := hz
              refine pm_blk hK zmm286 [] 2 148 [(2, 205), (0, x1), (0, x6), (0, x7)] [(0, 59), (2, 205)] μc9 [] rfl trivial ?_
              refine pm_call hK zmm286 (274, 0, 282, 1) zM282 (3, 65) [(2, 205), (0, 59)] [] rfl rfl rfl rfl ⟨by omega, by rw [zn282]; omega⟩ (zm_mark hK (c := 59) (j := j + 6) (j1 := j + 7) hx hm (by omega) (by decide) hTc9 hb205 ⟨Nat.le_refl _, Nat.le_refl _⟩) (fun st10 μc10 hp10 => ?_)
              obtain ⟨x10, rfl, hTc10, hF10, hA10, hB10⟩ := hp10
              have hG := zMf_tr hG (zMf_r hF10)
              have hA := hA10
              have hB := hB10
              have e9 : μc10 223 = μ 223 → True := fun _ => trivial
              have hlast := hF10.1 223 (by decide)
              have hP0 : zPa3 K V (μ 205 6) (μ 205 7) (j + 1) 0 (j + 6) := zR3_6 ⟨a3, a4⟩ (by omega) hkb hks hne b2 (by omega) c2
              rw [h223, a1, b1, c1] at hza
              rw [hza, a1, b1, c1] at hzb
              by_cases h9 : x10 = -1
              · obtain ⟨f, ⟨f1, f2⟩, hff⟩ := hB h9
                exact pm_iret rfl rfl ⟨_, 1, j + 6, rfl, hTc10, hG, ⟨0, j + 6, hP0, Or.inr (Or.inl ⟨rfl, rfl, rfl, f2⟩)⟩, Or.inr ⟨h9, by decide, by rw [← f1]; exact hff⟩⟩
              · obtain ⟨-, d2, d3⟩ := hA h9
                exact pm_iret rfl rfl ⟨_, 0, j + 6 + 1, rfl, hTc10, hG, ⟨0, j + 6, hP0, Or.inr (Or.inr ⟨rfl, rfl, rfl, d2⟩)⟩, Or.inl ⟨h9, rfl, by rw [show j + 6 + 1 = j + 7 by omega]; exact d3, by omega, by omega, by omega, by rw [hlast]; exact hzb⟩⟩
            · have h5 : x7 = ((-1) : Int) := h5
              refine pm_blk hK zmm286 [] 1 114 [(2, 205), (0, x1), (0, x6), (0, x7)] [(0, (-1))] μc7 [] rfl trivial ?_
              obtain ⟨f, f1, hff⟩ := hB h5
              obtain ⟨hP9, nz9⟩ := zR3_5 (K := K) (V := V) (sh := μ 205 6) (cu := μ 205 7) (j := j) ⟨a3, a4⟩ (by omega) hkb hks hne b2 (by omega) f1
              exact pm_iret rfl rfl ⟨_, f, (j + 5), rfl, hTc7, zMf_r hF, ⟨f, (j + 5), hP9, Or.inl ⟨nz9, rfl, rfl⟩⟩, Or.inr ⟨rfl, nz9, hff⟩⟩
          · have h4 : x6 = ((-1) : Int) := h4
            refine pm_blk hK zmm286 [] 1 99 [(2, 205), (0, x1), (0, x6), (9, 0)] [(0, (-1))] μc6 [] rfl trivial ?_
            obtain ⟨f, f1, hff⟩ := hB h4
            obtain ⟨hP9, nz9⟩ := zR3_4 (K := K) (V := V) (sh := μ 205 6) (cu := μ 205 7) (j := j) ⟨a3, a4⟩ (by omega) hkb hks f1 (by omega)
            exact pm_iret rfl rfl ⟨_, f, (j + 4), rfl, hTc6, zMf_r hF, ⟨f, (j + 4), hP9, Or.inl ⟨nz9, rfl, rfl⟩⟩, Or.inr ⟨rfl, nz9, hff⟩⟩
        · have h3 : μc5 205 14 = (3 : Int) := h3
          have f4 := zT_get hTc5 zs205_15 (i := 15) (by omega) (by omega)
          refine pm_blk hK zmm286 [] 3 72 [(2, 205), (0, x1), (9, 0), (9, 0)] [(0, x1), (0, μc5 205 15)] μc5 [] rfl trivial ?_
          refine pm_icmp hK zmm286 .ne 9 81 rfl rfl (fun h6 => ?_) (fun h6 => ?_)
          · have h6 : μc5 205 15 ≠ x1 := h6
            have e6 : μc5 205 6 = μ 205 6 := hF.2 6 (by decide) (by decide) (by decide) (by decide) (by decide) (by decide)
            have hne : ¬ (K (j + 4) = 256 ∧ V (j + 4) = V (j + 1)) := fun h9 => by have h8 := v4 h9.1; omega
            have f5 := zT_get hTc5 zs205_6 (i := 6) (by omega) (by omega)
            refine pm_blk hK zmm286 [] 6 89 [(2, 205), (0, x1), (9, 0), (9, 0)] [(0, (μc5 205 6) - 1), (0, 0), (2, 205)] μc5 [pm_in ((μc5 205 6) - 1)] rfl ⟨pm_in_mk (by omega) (by omega), trivial⟩ ?_
            refine pm_call hK zmm286 (267, 0, 281, 2) zM281 (3, 65) [(2, 205), (0, 0), (0, (μc5 205 6) - 1)] [] rfl rfl rfl rfl ⟨by omega, by rw [zn281]; omega⟩ (zm_num hK (lo := 0) (hi := ((μc5 205 6) - 1)) (j := j + 4) (j1 := j + 5) hx hm (by omega) (by omega) hTc5 hb205 ⟨Nat.le_refl _, Nat.le_refl _⟩) (fun st11 μc11 hp11 => ?_)
            obtain ⟨x11, rfl, hTc11, hF11, hA11, hB11⟩ := hp11
            have hF := zMr_tr hF hF11
            have hx := zMx_f hx (zMf_r hF11)
            have hA := hA11
            have hB := hB11
            refine pm_blk hK zmm286 [] 3 95 [(2, 205), (0, x1), (0, x11), (9, 0)] [(0, (-1)), (0, x11)] μc11 [] rfl trivial ?_
            refine pm_icmp hK zmm286 .ne 5 100 rfl rfl (fun h7 => ?_) (fun h7 => ?_)
            · have h7 : x11 ≠ ((-1) : Int) := h7
              obtain ⟨b1, b2, hm⟩ := hA h7
              have hk := zMs_k hx hm
              refine pm_blk hK zmm286 [] 3 104 [(2, 205), (0, x1), (0, x11), (9, 0)] [(0, 99), (0, 1), (2, 205)] μc11 [] rfl trivial ?_
              refine pm_call hK zmm286 (267, 0, 281, 2) zM281 (3, 65) [(2, 205), (0, 1), (0, 99)] [] rfl rfl rfl rfl ⟨by omega, by rw [zn281]; omega⟩ (zm_num hK (lo := 1) (hi := 99) (j := j + 5) (j1 := j + 6) hx hm (by omega) (by omega) hTc11 hb205 ⟨Nat.le_refl _, Nat.le_refl _⟩) (fun st12 μc12 hp12 => ?_)
              obtain ⟨x12, rfl, hTc12, hF12, hA12, hB12⟩ := hp12
              have hF := zMr_tr hF hF12
              have hx := zMx_f hx (zMf_r hF12)
              have hA := hA12
              have hB := hB12
              refine pm_blk hK zmm286 [] 3 110 [(2, 205), (0, x1), (0, x11), (0, x12)] [(0, (-1)), (0, x12)] μc12 [] rfl trivial ?_
              refine pm_icmp hK zmm286 .ne 5 115 rfl rfl (fun h8 => ?_) (fun h8 => ?_)
              · have h8 : x12 ≠ ((-1) : Int) := h8
                obtain ⟨c1, c2, hm⟩ := hA h8
                have hk := zMs_k hx hm
                have hG := zMf_r hF
                have h223 := hF.1 223 (by decide)
                refine pm_blk hK zmm286 [] 9 127 [(2, 205), (0, x1), (0, x11), (0, x12)] [(0, x12), (0, (144 + (12 * x1)) + x11), (2, 205)] μc12 [pm_in (12 * x1), pm_in (144 + (12 * x1)), pm_in ((144 + (12 * x1)) + x11)] rfl ⟨pm_in_mk (by omega) (by omega), pm_in_mk (by omega) (by omega), pm_in_mk (by omega) (by omega), trivial⟩ ?_
                refine pm_call hK zmm286 (286, 0, 287, 2) zM287 (0, 0) [(2, 205), (0, (144 + (12 * x1)) + x11), (0, x12)] [] rfl rfl rfl rfl ⟨by omega, by rw [zn287]; omega⟩ (zm_ts hK (i := ((144 + (12 * x1)) + x11)) (v := x12) hTc12 ⟨by omega, by omega⟩ ⟨by omega, by omega⟩ hb223 ⟨Nat.le_refl _, Nat.le_refl _⟩) (fun st13 μc13 hp13 => ?_)
                obtain ⟨rfl, hTc13, hs13, hz13⟩ := hp13
                have hfs13 := zMf_s hs13 (fun i hi => by rw [hz13]; exact zsu_ne (by omega))
                have hG := zMf_tr hG hfs13
                have hx := zMx_f hx hfs13
                have hm := zMs_of (μ' := μc13) hm (fun y _ => by rw [hs13 205 (by decide)])
                have hz := hz13
                have hza := hz
                refine pm_blk hK zmm286 [] 9 142 [(2, 205), (0, x1), (0, x11), (0, x12)] [(0, x12), (0, (144 + (12 * x11)) + x1), (2, 205)] μc13 [pm_in (12 * x11), pm_in (144 + (12 * x11)), pm_in ((144 + (12 * x11)) + x1)] rfl ⟨pm_in_mk (by omega) (by omega), pm_in_mk (by omega) (by omega), pm_in_mk (by omega) (by omega), trivial⟩ ?_
                refine pm_call hK zmm286 (286, 0, 287, 2) zM287 (0, 0) [(2, 205), (0, (144 + (12 * x11)) + x1), (0, x12)] [] rfl rfl rfl rfl ⟨by omega, by rw [zn287]; omega⟩ (zm_ts hK (i := ((144 + (12 * x11)) + x1)) (v := x12) hTc13 ⟨by omega, by omega⟩ ⟨by omega, by omega⟩ hb223 ⟨Nat.le_refl _, Nat.le_refl _⟩) (fun st14 μc14 hp14 => ?_)
                obtain ⟨rfl, hTc14, hs14, hz14⟩ := hp14
                have hfs14 := zMf_s hs14 (fun i hi => by rw [hz14]; exact zsu_ne (by omega))
                have hG := zMf_tr hG hfs14
                have hx := zMx_f hx hfs14
                have hm := zMs_of (μ' := μc14) hm (fun y _ => by rw [hs14 205 (by decide)])
                have hz := hz14
                have hzb := hz
                refine pm_blk hK zmm286 [] 2 148 [(2, 205), (0, x1), (0, x11), (0, x12)] [(0, 59), (2, 205)] μc14 [] rfl trivial ?_
                refine pm_call hK zmm286 (274, 0, 282, 1) zM282 (3, 65) [(2, 205), (0, 59)] [] rfl rfl rfl rfl ⟨by omega, by rw [zn282]; omega⟩ (zm_mark hK (c := 59) (j := j + 6) (j1 := j + 7) hx hm (by omega) (by decide) hTc14 hb205 ⟨Nat.le_refl _, Nat.le_refl _⟩) (fun st15 μc15 hp15 => ?_)
                obtain ⟨x15, rfl, hTc15, hF15, hA15, hB15⟩ := hp15
                have hG := zMf_tr hG (zMf_r hF15)
                have hA := hA15
                have hB := hB15
                have e9 : μc15 223 = μ 223 → True := fun _ => trivial
                have hlast := hF15.1 223 (by decide)
                have hP0 : zPa3 K V (μ 205 6) (μ 205 7) (j + 1) 0 (j + 6) := zR3_6 ⟨a3, a4⟩ (by omega) hkb hks hne b2 (by omega) c2
                rw [h223, a1, b1, c1] at hza
                rw [hza, a1, b1, c1] at hzb
                by_cases h9 : x15 = -1
                · obtain ⟨f, ⟨f1, f2⟩, hff⟩ := hB h9
                  exact pm_iret rfl rfl ⟨_, 1, j + 6, rfl, hTc15, hG, ⟨0, j + 6, hP0, Or.inr (Or.inl ⟨rfl, rfl, rfl, f2⟩)⟩, Or.inr ⟨h9, by decide, by rw [← f1]; exact hff⟩⟩
                · obtain ⟨-, d2, d3⟩ := hA h9
                  exact pm_iret rfl rfl ⟨_, 0, j + 6 + 1, rfl, hTc15, hG, ⟨0, j + 6, hP0, Or.inr (Or.inr ⟨rfl, rfl, rfl, d2⟩)⟩, Or.inl ⟨h9, rfl, by rw [show j + 6 + 1 = j + 7 by omega]; exact d3, by omega, by omega, by omega, by rw [hlast]; exact hzb⟩⟩
              · have h8 : x12 = ((-1) : Int) := h8
                refine pm_blk hK zmm286 [] 1 114 [(2, 205), (0, x1), (0, x11), (0, x12)] [(0, (-1))] μc12 [] rfl trivial ?_
                obtain ⟨f, f1, hff⟩ := hB h8
                obtain ⟨hP9, nz9⟩ := zR3_5 (K := K) (V := V) (sh := μ 205 6) (cu := μ 205 7) (j := j) ⟨a3, a4⟩ (by omega) hkb hks hne b2 (by omega) f1
                exact pm_iret rfl rfl ⟨_, f, (j + 5), rfl, hTc12, zMf_r hF, ⟨f, (j + 5), hP9, Or.inl ⟨nz9, rfl, rfl⟩⟩, Or.inr ⟨rfl, nz9, hff⟩⟩
            · have h7 : x11 = ((-1) : Int) := h7
              refine pm_blk hK zmm286 [] 1 99 [(2, 205), (0, x1), (0, x11), (9, 0)] [(0, (-1))] μc11 [] rfl trivial ?_
              obtain ⟨f, f1, hff⟩ := hB h7
              obtain ⟨hP9, nz9⟩ := zR3_4 (K := K) (V := V) (sh := μ 205 6) (cu := μ 205 7) (j := j) ⟨a3, a4⟩ (by omega) hkb hks f1 (by omega)
              exact pm_iret rfl rfl ⟨_, f, (j + 4), rfl, hTc11, zMf_r hF, ⟨f, (j + 4), hP9, Or.inl ⟨nz9, rfl, rfl⟩⟩, Or.inr ⟨rfl, nz9, hff⟩⟩
          · have h6 : μc5 205 15 = x1 := h6
            refine pm_blk hK zmm286 [] 2 77 [(2, 205), (0, x1), (9, 0), (9, 0)] [(0, 2), (2, 205)] μc5 [] rfl trivial ?_
            refine pm_call hK zmm286 (216, 0, 278, 1) zM278 (0, 0) [(2, 205), (0, 2)] [] rfl rfl rfl rfl ⟨by omega, by rw [zn278]; omega⟩ (zm_errs hK (j := j + 4) hx hm hTc5 ⟨by omega, by omega⟩ hb205 ⟨Nat.le_refl _, Nat.le_refl _⟩) (fun st16 μc16 hp16 => ?_)
            obtain ⟨rfl, hTc16, hF16, hf16⟩ := hp16
            have hF := zMr_tr hF hF16
            have hff := hf16
            have h8 := v4 (by omega)
            have hP9 := zR3_3 (K := K) (V := V) (sh := μ 205 6) (cu := μ 205 7) (j := j) ⟨a3, a4⟩ (by omega) hkb hks ⟨by omega, by omega⟩
            exact pm_iret rfl rfl ⟨_, 2, (j + 4), rfl, hTc16, zMf_r hF, ⟨2, (j + 4), hP9, Or.inl ⟨by decide, rfl, rfl⟩⟩, Or.inr ⟨rfl, by decide, hff⟩⟩
      · have h2 : x4 = (0 : Int) := h2
        refine pm_blk hK zmm286 [] 2 51 [(2, 205), (0, x1), (9, 0), (9, 0)] [(0, 1), (2, 205)] μc3 [] rfl trivial ?_
        refine pm_call hK zmm286 (216, 0, 278, 1) zM278 (0, 0) [(2, 205), (0, 1)] [] rfl rfl rfl rfl ⟨by omega, by rw [zn278]; omega⟩ (zm_errs hK (j := j + 3) hx hm hTc3 ⟨by omega, by omega⟩ hb205 ⟨Nat.le_refl _, Nat.le_refl _⟩) (fun st17 μc17 hp17 => ?_)
        obtain ⟨rfl, hTc17, hF17, hf17⟩ := hp17
        have hF := zMr_tr hF hF17
        have hff := hf17
        have hP9 := zR3_2 (K := K) (V := V) (sh := μ 205 6) (cu := μ 205 7) (j := j) ⟨a3, a4⟩ (by omega) hkb (by omega)
        exact pm_iret rfl rfl ⟨_, 1, (j + 3), rfl, hTc17, zMf_r hF, ⟨1, (j + 3), hP9, Or.inl ⟨by decide, rfl, rfl⟩⟩, Or.inr ⟨rfl, by decide, hff⟩⟩
    · have h1 : x2 = (0 : Int) := h1
      refine pm_blk hK zmm286 [] 2 32 [(2, 205), (0, x1), (9, 0), (9, 0)] [(0, 1), (2, 205)] μc1 [] rfl trivial ?_
      refine pm_call hK zmm286 (216, 0, 278, 1) zM278 (0, 0) [(2, 205), (0, 1)] [] rfl rfl rfl rfl ⟨by omega, by rw [zn278]; omega⟩ (zm_errs hK (j := j + 2) hx hm hTc1 ⟨by omega, by omega⟩ hb205 ⟨Nat.le_refl _, Nat.le_refl _⟩) (fun st18 μc18 hp18 => ?_)
      obtain ⟨rfl, hTc18, hF18, hf18⟩ := hp18
      have hF := zMr_tr hF hF18
      have hff := hf18
      have hP9 := zR3_1 (K := K) (V := V) (sh := μ 205 6) (cu := μ 205 7) (j := j) ⟨a3, a4⟩ (by omega) (by omega)
      exact pm_iret rfl rfl ⟨_, 1, (j + 2), rfl, hTc18, zMf_r hF, ⟨1, (j + 2), hP9, Or.inl ⟨by decide, rfl, rfl⟩⟩, Or.inr ⟨rfl, by decide, hff⟩⟩
  · have h0 : x1 = ((-1) : Int) := h0
    refine pm_blk hK zmm286 [] 1 20 [(2, 205), (0, x1), (9, 0), (9, 0)] [(0, (-1))] μc1 [] rfl trivial ?_
    obtain ⟨f, q, f1, hff⟩ := hB h0
    obtain ⟨hP9, nz9⟩ := zR3_0 (K := K) (V := V) (sh := μ 205 6) (cu := μ 205 7) (j := j) f1 hkj (by omega)
    exact pm_iret rfl rfl ⟨_, f, q, rfl, hTc1, zMf_r hF, ⟨f, q, hP9, Or.inl ⟨nz9, rfl, rfl⟩⟩, Or.inr ⟨rfl, nz9, hff⟩⟩
end ZHW
