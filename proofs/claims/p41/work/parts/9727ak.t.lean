/-! lines: of ARCADE in the class; walks printed by program (wip/p30/pmgen.py) and filled by hand -/
section ZHW
variable {φ : Option pm_Mem}
variable {D : va_G} {Wm : Nat} {ST : List (String × String × String × Nat)} {b0 : sx_B} {l : Launch} {Sg : Nat → Option Nat} {bud : sx_Bu} {μ : pm_Mem} {B0 : Nat → Prop} {J : (Nat → Option Nat) → Heap → Prop}
set_option maxRecDepth 100000 in
theorem zg_other (hK : zKK ST) {a0 j1 : Int} {ln sh cu : Int} {K S V : Int → Int} {n j : Int} (h : zCq K S V n j μ) (hKn : K n = 257) (hT : zTJ φ μ) (hln : μ 93 2 = ln) (hl : 0 ≤ ln ∧ ln ≤ 15) (hsh : μ 88 9 = sh) (hcu : μ 88 10 = cu) (hb88 : sx_bit Wm 88 = true) (hb94 : sx_bit Wm 94 = true) (hj1 : j1 = j + 1) (ha0 : μ 94 (ln * 4 + 0) = a0) (hbd : 3 ≤ bud.1 ∧ 69 ≤ bud.2.1) : zC D Wm ST b0 l Sg zM259 bud [(2, 88)] μ (fun st' μ' => ∃ x, st' = [(0, x)] ∧ zTJ φ μ' ∧ zCf μ μ' ∧ (x ≠ 0 → x = 1 ∧ (K j = 256 ∧ V j ≠ a0 ∧ 0 ≤ V j ∧ V j ≤ sh - 1) ∧ zCq K S V n j1 μ' ∧ μ' 94 = zpu (μ 94) (ln * 4 + 1) (V j)) ∧ (x = 0 → zXi (fun f => ((f = 2 ∧ K j = 256 ∧ V j = a0) ∨ (f = 1 ∧ K j ≠ 256) ∨ (f = 2 ∧ K j = 256 ∧ ¬ (0 ≤ V j ∧ V j ≤ sh - 1))) ∧ zFl S f j μ'))) := by
  have hc := h
  have hlm := hln
  have hsm := hsh
  have hcm := hcu
  have hF : zCf μ μ := zCf_refl
  obtain ⟨⟨q1, q2, q3⟩, q4, q5, q6⟩ := id h
  have fs := zT_get hT zs88_9 (i := 9) (by omega) (by omega)
  have fu := zT_get hT zs88_10 (i := 10) (by omega) (by omega)
  refine pm_blk hK zmm259 [] 1 1 [(2, 88)] [(2, 88)] μ [] rfl trivial ?_
  refine pm_call hK zmm259 (70, 0, 53, 0) zM53 (0, 0) [(2, 88)] [] rfl rfl rfl rfl ⟨by omega, by rw [zn53]; omega⟩ (zg_kind hK h ⟨Nat.le_refl _, Nat.le_refl _⟩) (fun st1 μc1 hp1 => ?_)
  obtain ⟨rfl, rfl⟩ := hp1
  refine pm_blk hK zmm259 [] 1 7 [(2, 88)] [(0, 256), (0, K j)] μ [] rfl trivial ?_
  refine pm_icmp hK zmm259 .ne 31 38 rfl rfl (fun h0 => ?_) (fun h0 => ?_)
  · have h0 : K j ≠ (256 : Int) := h0
    have f1 := zT_get hT zs88_9 (i := 9) (by omega) (by omega)
    refine pm_blk hK zmm259 [] 7 47 [(2, 88)] [(0, (μ 88 9) - 1), (0, 0), (0, 1), (2, 88)] μ [pm_in ((μ 88 9) - 1)] rfl ⟨pm_in_mk (by omega) (by omega), trivial⟩ ?_
    refine pm_call hK zmm259 (146, 0, 256, 3) zM256 (2, 45) [(2, 88), (0, 1), (0, 0), (0, (μ 88 9) - 1)] [] rfl rfl rfl rfl ⟨by omega, by rw [zn256]; omega⟩ (zg_num hK (c := 1) (lo := 0) (hi := ((μ 88 9) - 1)) (j := j) (j1 := j + 1) hc hKn (by omega) hT hlm ⟨by omega, by omega⟩ ⟨by omega, by omega⟩ (by omega) (by omega) hb88 hb94 ⟨Nat.le_refl _, Nat.le_refl _⟩) (fun st2 μc2 hp2 => ?_)
    obtain ⟨x2, rfl, hTc2, hC2, hA2, hB2⟩ := hp2
    have hx201 : x2 = 0 ∨ x2 = 1 := by by_cases h9 : x2 = 0; exact Or.inl h9; exact Or.inr (hA2 h9).1
    have hF := zCf_tr hF hC2
    have hA := hA2
    have hB := hB2
    have hl2 : μc2 93 2 = ln := by rw [hC2.1 93 (by decide) (by decide)]; exact hlm
    have hlm := hl2
    have hs2 : μc2 88 9 = sh := by rw [hC2.2 9 (by decide) (by decide) (by decide)]; exact hsm
    have hsm := hs2
    have hd2 : μc2 88 10 = cu := by rw [hC2.2 10 (by decide) (by decide) (by decide)]; exact hcm
    have hcm := hd2
    have h9v := h0
    try rw [hln, ha0] at h9v
    refine pm_zret rfl rfl (by first | exact Or.inl rfl | exact Or.inr rfl | omega) ⟨_, rfl, hTc2, hF, fun h9 => ?_, fun h9 => ?_⟩
    · obtain ⟨a1, a2, a3, a4⟩ := hA h9
      obtain rfl : j1 = j + 1 := hj1
      exact ⟨a1, ⟨a2.1, by omega, by omega, by omega⟩, a3, a4⟩
    · obtain ⟨f, f1, f2⟩ := hB h9
      exact zXi_i f ⟨by omega, f2⟩
  · have h0 : K j = (256 : Int) := h0
    refine pm_blk hK zmm259 [] 1 11 [(2, 88)] [(2, 88)] μ [] rfl trivial ?_
    refine pm_call hK zmm259 (140, 0, 247, 0) zM247 (0, 0) [(2, 88)] [] rfl rfl rfl rfl ⟨by omega, by rw [zn247]; omega⟩ (zg_number hK h ⟨Nat.le_refl _, Nat.le_refl _⟩) (fun st3 μc3 hp3 => ?_)
    obtain ⟨rfl, rfl⟩ := hp3
    have f2 := zT_get hT zs93_2 (i := 2) (by omega) (by omega)
    refine pm_blk hK zmm259 [] 6 26 [(2, 88)] [(0, 0), (0, μ 93 2), (2, 93), (0, V j)] μ [] rfl trivial ?_
    refine pm_call hK zmm259 (158, 0, 219, 2) zM219 (1, 22) [(2, 93), (0, μ 93 2), (0, 0)] [(0, V j)] rfl rfl rfl rfl ⟨by omega, by rw [zn219]; omega⟩ (zg_cell hK (a := (μ 93 2)) (c := 0) ⟨by omega, by omega⟩ ⟨by omega, by omega⟩ ⟨Nat.le_refl _, Nat.le_refl _⟩) (fun st4 μc4 hp4 => ?_)
    obtain ⟨rfl, rfl⟩ := hp4
    refine pm_icmp hK zmm259 .ne 9 38 rfl rfl (fun h1 => ?_) (fun h1 => ?_)
    · have h1 : V j ≠ μ 94 ((μ 93 2) * 4 + 0) := h1
      have f3 := zT_get hT zs88_9 (i := 9) (by omega) (by omega)
      refine pm_blk hK zmm259 [] 7 47 [(2, 88)] [(0, (μ 88 9) - 1), (0, 0), (0, 1), (2, 88)] μ [pm_in ((μ 88 9) - 1)] rfl ⟨pm_in_mk (by omega) (by omega), trivial⟩ ?_
      refine pm_call hK zmm259 (146, 0, 256, 3) zM256 (2, 45) [(2, 88), (0, 1), (0, 0), (0, (μ 88 9) - 1)] [] rfl rfl rfl rfl ⟨by omega, by rw [zn256]; omega⟩ (zg_num hK (c := 1) (lo := 0) (hi := ((μ 88 9) - 1)) (j := j) (j1 := j + 1) hc hKn (by omega) hT hlm ⟨by omega, by omega⟩ ⟨by omega, by omega⟩ (by omega) (by omega) hb88 hb94 ⟨Nat.le_refl _, Nat.le_refl _⟩) (fun st5 μc5 hp5 => ?_)
      obtain ⟨x5, rfl, hTc5, hC5, hA5, hB5⟩ := hp5
      have hx501 : x5 = 0 ∨ x5 = 1 := by by_cases h9 : x5 = 0; exact Or.inl h9; exact Or.inr (hA5 h9).1
      have hF := zCf_tr hF hC5
      have hA := hA5
      have hB := hB5
      have hl5 : μc5 93 2 = ln := by rw [hC5.1 93 (by decide) (by decide)]; exact hlm
      have hlm := hl5
      have hs5 : μc5 88 9 = sh := by rw [hC5.2 9 (by decide) (by decide) (by decide)]; exact hsm
      have hsm := hs5
      have hd5 : μc5 88 10 = cu := by rw [hC5.2 10 (by decide) (by decide) (by decide)]; exact hcm
      have hcm := hd5
      have h9v := h1
      try rw [hln, ha0] at h9v
      refine pm_zret rfl rfl (by first | exact Or.inl rfl | exact Or.inr rfl | omega) ⟨_, rfl, hTc5, hF, fun h9 => ?_, fun h9 => ?_⟩
      · obtain ⟨a1, a2, a3, a4⟩ := hA h9
        obtain rfl : j1 = j + 1 := hj1
        exact ⟨a1, ⟨a2.1, by omega, by omega, by omega⟩, a3, a4⟩
      · obtain ⟨f, f1, f2⟩ := hB h9
        exact zXi_i f ⟨by omega, f2⟩
    · have h1 : V j = μ 94 ((μ 93 2) * 4 + 0) := h1
      refine pm_blk hK zmm259 [] 2 34 [(2, 88)] [(0, 2), (2, 88)] μ [] rfl trivial ?_
      refine pm_call hK zmm259 (137, 0, 242, 1) zM242 (0, 0) [(2, 88), (0, 2)] [] rfl rfl rfl rfl ⟨by omega, by rw [zn242]; omega⟩ (zg_wrong hK h hT ⟨by omega, by omega⟩ hb88 ⟨Nat.le_refl _, Nat.le_refl _⟩) (fun st6 μc6 hp6 => ?_)
      obtain ⟨rfl, hTc6, hC6, hf6⟩ := hp6
      have hC := hC6
      have hff := hf6
      have h9v := h1
      rw [hln, ha0] at h9v
      exact pm_zret rfl rfl (by first | exact Or.inl rfl | exact Or.inr rfl | omega) ⟨_, rfl, hTc6, hC, fun h9 => absurd rfl h9, fun _ => zXi_i 2 ⟨Or.inl ⟨rfl, by omega, h9v⟩, hff⟩⟩
set_option maxRecDepth 100000 in
theorem zg_pl3 (hK : zKK ST) {ln sh cu : Int} {K S V : Int → Int} {n j : Int} (h : zCq K S V n j μ) (hKn : K n = 257) (hT : zTJ φ μ) (hln : μ 93 2 = ln) (hl : 0 ≤ ln ∧ ln ≤ 15) (hsh : μ 88 9 = sh) (hcu : μ 88 10 = cu) (hb88 : sx_bit Wm 88 = true) (hb94 : sx_bit Wm 94 = true) (hbd : 4 ≤ bud.1 ∧ 89 ≤ bud.2.1) : zC D Wm ST b0 l Sg zM255 bud [(2, 88), (0, 3)] μ (fun st' μ' => ∃ x f q, st' = [(0, x)] ∧ zTJ φ μ' ∧ zCf μ μ' ∧ zPa3 K V sh cu j f q ∧ ((x = 1 ∧ f = 0 ∧ zCq K S V n q μ' ∧ μ' 94 = zpu (zpu (zpu (μ 94) (ln * 4 + 0) (V j)) (ln * 4 + 1) (V (j + 3))) (ln * 4 + 2) (V (j + 4))) ∨ (x = 0 ∧ f ≠ 0 ∧ zFl S f q μ'))) := by
  have hc := h
  have hlm := hln
  have hsm := hsh
  have hcm := hcu
  have hF : zCf μ μ := zCf_refl
  obtain ⟨⟨q1, q2, q3⟩, q4, q5, q6⟩ := id h
  have fs := zT_get hT zs88_9 (i := 9) (by omega) (by omega)
  have fu := zT_get hT zs88_10 (i := 10) (by omega) (by omega)
  refine pm_blk hK zmm255 [] 1 1 [(2, 88), (0, 3)] [(0, 3)] μ [] rfl trivial ?_
  refine zp_lsw hK zmm255 (off := 101) (tgt := 102) rfl (by decide) (by decide) (by decide) ?_
  have f1 := zT_get hT zs88_9 (i := 9) (by omega) (by omega)
  refine pm_blk hK zmm255 [] 7 111 [(2, 88), (0, 3)] [(0, (μ 88 9) - 1), (0, 0), (0, 0), (2, 88)] μ [pm_in ((μ 88 9) - 1)] rfl ⟨pm_in_mk (by omega) (by omega), trivial⟩ ?_
  refine pm_call hK zmm255 (146, 0, 256, 3) zM256 (2, 45) [(2, 88), (0, 0), (0, 0), (0, (μ 88 9) - 1)] [] rfl rfl rfl rfl ⟨by omega, by rw [zn256]; omega⟩ (zg_num hK (c := 0) (lo := 0) (hi := ((μ 88 9) - 1)) (j := j) (j1 := j + 1) hc hKn (by omega) hT hlm ⟨by omega, by omega⟩ ⟨by omega, by omega⟩ (by omega) (by omega) hb88 hb94 ⟨Nat.le_refl _, Nat.le_refl _⟩) (fun st1 μc1 hp1 => ?_)
  obtain ⟨x1, rfl, hTc1, hC1, hA1, hB1⟩ := hp1
  have hx101 : x1 = 0 ∨ x1 = 1 := by by_cases h9 : x1 = 0; exact Or.inl h9; exact Or.inr (hA1 h9).1
  have hF := zCf_tr hF hC1
  have hA := hA1
  have hB := hB1
  have hl1 : μc1 93 2 = ln := by rw [hC1.1 93 (by decide) (by decide)]; exact hlm
  have hlm := hl1
  have hs1 : μc1 88 9 = sh := by rw [hC1.2 9 (by decide) (by decide) (by decide)]; exact hsm
  have hsm := hs1
  have hd1 : μc1 88 10 = cu := by rw [hC1.2 10 (by decide) (by decide) (by decide)]; exact hcm
  have hcm := hd1
  refine pm_if hK zmm255 .eq 45 159 rfl rfl (fun h0 => ?_) (fun h0 => ?_)
  · have h0 : x1 = (0 : Int) := h0
    refine pm_blk hK zmm255 [] 1 160 [(2, 88), (0, 3)] [(0, 0)] μc1 [] rfl trivial ?_
    first
    | (obtain ⟨f, f1, f2⟩ := hB h0; exact pm_zret rfl rfl (by first | exact Or.inl rfl | exact Or.inr rfl | omega) ⟨0, f, j, rfl, hTc1, hF, zPa3_0 f1 (by omega), Or.inr ⟨rfl, zf12 f1, f2⟩⟩)
    | (obtain ⟨f, f1, f2⟩ := hB h0; exact pm_zret rfl rfl (by first | exact Or.inl rfl | exact Or.inr rfl | omega) ⟨0, f, j + 1, rfl, hTc1, hF, zPa3_1 b0 (by omega) f1, Or.inr ⟨rfl, zf1 f1, f2⟩⟩)
    | (obtain ⟨f, f1, f2⟩ := hB h0; exact pm_zret rfl rfl (by first | exact Or.inl rfl | exact Or.inr rfl | omega) ⟨0, f, j + 2, rfl, hTc1, hF, zPa3_2 b0 (by omega) b1 f1, Or.inr ⟨rfl, zf1 f1, f2⟩⟩)
    | (obtain ⟨f, f1, f2⟩ := hB h0; exact pm_zret rfl rfl (by first | exact Or.inl rfl | exact Or.inr rfl | omega) ⟨0, f, j + 3, rfl, hTc1, hF, zPa3_3 b0 (by omega) b1 b2 f1, Or.inr ⟨rfl, zf212 f1, f2⟩⟩)
    | (obtain ⟨f, f1, f2⟩ := hB h0; exact pm_zret rfl rfl (by first | exact Or.inl rfl | exact Or.inr rfl | omega) ⟨0, f, j + 4, rfl, hTc1, hF, zPa3_4 b0 (by omega) b1 b2 b3 f1, Or.inr ⟨rfl, zf12 f1, f2⟩⟩)
    | exact pm_zret rfl rfl (by first | exact Or.inl rfl | exact Or.inr rfl | omega) ⟨1, 0, j + 5, rfl, hTc1, hF, zPa3_5 b0 (by omega) b1 b2 b3 b4, Or.inl ⟨rfl, rfl, hc, by rw [m4, m3, m2, m1, m0]⟩⟩
    | (exfalso; omega)
  · have h0 : x1 ≠ (0 : Int) := h0
    obtain ⟨-, b0, hc, m0⟩ := hA h0
    refine pm_blk hK zmm255 [] 2 121 [(2, 88), (0, 3)] [(0, 327), (2, 88)] μc1 [] rfl trivial ?_
    refine pm_call hK zmm255 (85, 0, 254, 1) zM254 (1, 21) [(2, 88), (0, 327)] [] rfl rfl rfl rfl ⟨by omega, by rw [zn254]; omega⟩ (zg_sign hK (c := 327) (j := j + 1) (j1 := j + 2) hc hKn (by omega) (by decide) hTc1 hb88 ⟨Nat.le_refl _, Nat.le_refl _⟩) (fun st2 μc2 hp2 => ?_)
    obtain ⟨x2, rfl, hTc2, hC2, hA2, hB2⟩ := hp2
    have hx201 : x2 = 0 ∨ x2 = 1 := by by_cases h9 : x2 = 0; exact Or.inl h9; exact Or.inr (hA2 h9).1
    have hF := zCf_tr hF hC2
    have hA := hA2
    have hB := hB2
    have hl2 : μc2 93 2 = ln := by rw [hC2.1 93 (by decide) (by decide)]; exact hlm
    have hlm := hl2
    have hs2 : μc2 88 9 = sh := by rw [hC2.2 9 (by decide) (by decide) (by decide)]; exact hsm
    have hsm := hs2
    have hd2 : μc2 88 10 = cu := by rw [hC2.2 10 (by decide) (by decide) (by decide)]; exact hcm
    have hcm := hd2
    refine pm_if hK zmm255 .eq 35 159 rfl rfl (fun h1 => ?_) (fun h1 => ?_)
    · have h1 : x2 = (0 : Int) := h1
      refine pm_blk hK zmm255 [] 1 160 [(2, 88), (0, 3)] [(0, 0)] μc2 [] rfl trivial ?_
      first
      | (obtain ⟨f, f1, f2⟩ := hB h1; exact pm_zret rfl rfl (by first | exact Or.inl rfl | exact Or.inr rfl | omega) ⟨0, f, j, rfl, hTc2, hF, zPa3_0 f1 (by omega), Or.inr ⟨rfl, zf12 f1, f2⟩⟩)
      | (obtain ⟨f, f1, f2⟩ := hB h1; exact pm_zret rfl rfl (by first | exact Or.inl rfl | exact Or.inr rfl | omega) ⟨0, f, j + 1, rfl, hTc2, hF, zPa3_1 b0 (by omega) f1, Or.inr ⟨rfl, zf1 f1, f2⟩⟩)
      | (obtain ⟨f, f1, f2⟩ := hB h1; exact pm_zret rfl rfl (by first | exact Or.inl rfl | exact Or.inr rfl | omega) ⟨0, f, j + 2, rfl, hTc2, hF, zPa3_2 b0 (by omega) b1 f1, Or.inr ⟨rfl, zf1 f1, f2⟩⟩)
      | (obtain ⟨f, f1, f2⟩ := hB h1; exact pm_zret rfl rfl (by first | exact Or.inl rfl | exact Or.inr rfl | omega) ⟨0, f, j + 3, rfl, hTc2, hF, zPa3_3 b0 (by omega) b1 b2 f1, Or.inr ⟨rfl, zf212 f1, f2⟩⟩)
      | (obtain ⟨f, f1, f2⟩ := hB h1; exact pm_zret rfl rfl (by first | exact Or.inl rfl | exact Or.inr rfl | omega) ⟨0, f, j + 4, rfl, hTc2, hF, zPa3_4 b0 (by omega) b1 b2 b3 f1, Or.inr ⟨rfl, zf12 f1, f2⟩⟩)
      | exact pm_zret rfl rfl (by first | exact Or.inl rfl | exact Or.inr rfl | omega) ⟨1, 0, j + 5, rfl, hTc2, hF, zPa3_5 b0 (by omega) b1 b2 b3 b4, Or.inl ⟨rfl, rfl, hc, by rw [m4, m3, m2, m1, m0]⟩⟩
      | (exfalso; omega)
    · have h1 : x2 ≠ (0 : Int) := h1
      obtain ⟨-, b1, hc, m1⟩ := hA h1
      refine pm_blk hK zmm255 [] 2 131 [(2, 88), (0, 3)] [(0, 326), (2, 88)] μc2 [] rfl trivial ?_
      refine pm_call hK zmm255 (85, 0, 254, 1) zM254 (1, 21) [(2, 88), (0, 326)] [] rfl rfl rfl rfl ⟨by omega, by rw [zn254]; omega⟩ (zg_sign hK (c := 326) (j := j + 2) (j1 := j + 3) hc hKn (by omega) (by decide) hTc2 hb88 ⟨Nat.le_refl _, Nat.le_refl _⟩) (fun st3 μc3 hp3 => ?_)
      obtain ⟨x3, rfl, hTc3, hC3, hA3, hB3⟩ := hp3
      have hx301 : x3 = 0 ∨ x3 = 1 := by by_cases h9 : x3 = 0; exact Or.inl h9; exact Or.inr (hA3 h9).1
      have hF := zCf_tr hF hC3
      have hA := hA3
      have hB := hB3
      have hl3 : μc3 93 2 = ln := by rw [hC3.1 93 (by decide) (by decide)]; exact hlm
      have hlm := hl3
      have hs3 : μc3 88 9 = sh := by rw [hC3.2 9 (by decide) (by decide) (by decide)]; exact hsm
      have hsm := hs3
      have hd3 : μc3 88 10 = cu := by rw [hC3.2 10 (by decide) (by decide) (by decide)]; exact hcm
      have hcm := hd3
      refine pm_if hK zmm255 .eq 25 159 rfl rfl (fun h2 => ?_) (fun h2 => ?_)
      · have h2 : x3 = (0 : Int) := h2
        refine pm_blk hK zmm255 [] 1 160 [(2, 88), (0, 3)] [(0, 0)] μc3 [] rfl trivial ?_
        first
        | (obtain ⟨f, f1, f2⟩ := hB h2; exact pm_zret rfl rfl (by first | exact Or.inl rfl | exact Or.inr rfl | omega) ⟨0, f, j, rfl, hTc3, hF, zPa3_0 f1 (by omega), Or.inr ⟨rfl, zf12 f1, f2⟩⟩)
        | (obtain ⟨f, f1, f2⟩ := hB h2; exact pm_zret rfl rfl (by first | exact Or.inl rfl | exact Or.inr rfl | omega) ⟨0, f, j + 1, rfl, hTc3, hF, zPa3_1 b0 (by omega) f1, Or.inr ⟨rfl, zf1 f1, f2⟩⟩)
        | (obtain ⟨f, f1, f2⟩ := hB h2; exact pm_zret rfl rfl (by first | exact Or.inl rfl | exact Or.inr rfl | omega) ⟨0, f, j + 2, rfl, hTc3, hF, zPa3_2 b0 (by omega) b1 f1, Or.inr ⟨rfl, zf1 f1, f2⟩⟩)
        | (obtain ⟨f, f1, f2⟩ := hB h2; exact pm_zret rfl rfl (by first | exact Or.inl rfl | exact Or.inr rfl | omega) ⟨0, f, j + 3, rfl, hTc3, hF, zPa3_3 b0 (by omega) b1 b2 f1, Or.inr ⟨rfl, zf212 f1, f2⟩⟩)
        | (obtain ⟨f, f1, f2⟩ := hB h2; exact pm_zret rfl rfl (by first | exact Or.inl rfl | exact Or.inr rfl | omega) ⟨0, f, j + 4, rfl, hTc3, hF, zPa3_4 b0 (by omega) b1 b2 b3 f1, Or.inr ⟨rfl, zf12 f1, f2⟩⟩)
        | exact pm_zret rfl rfl (by first | exact Or.inl rfl | exact Or.inr rfl | omega) ⟨1, 0, j + 5, rfl, hTc3, hF, zPa3_5 b0 (by omega) b1 b2 b3 b4, Or.inl ⟨rfl, rfl, hc, by rw [m4, m3, m2, m1, m0]⟩⟩
        | (exfalso; omega)
      · have h2 : x3 ≠ (0 : Int) := h2
        obtain ⟨-, b2, hc, m2⟩ := hA h2
        refine pm_blk hK zmm255 [] 1 138 [(2, 88), (0, 3)] [(2, 88)] μc3 [] rfl trivial ?_
        refine pm_call hK zmm255 (155, 0, 259, 0) zM259 (3, 69) [(2, 88)] [] rfl rfl rfl rfl ⟨by omega, by rw [zn259]; omega⟩ (zg_other hK (j := j + 3) (j1 := j + 4) (a0 := V j) hc hKn hTc3 hlm ⟨by omega, by omega⟩ hsm hcm hb88 hb94 (by omega) (by rw [m2, m1, m0, zpu_eq]) ⟨Nat.le_refl _, Nat.le_refl _⟩) (fun st4 μc4 hp4 => ?_)
        obtain ⟨x4, rfl, hTc4, hC4, hA4, hB4⟩ := hp4
        have hx401 : x4 = 0 ∨ x4 = 1 := by by_cases h9 : x4 = 0; exact Or.inl h9; exact Or.inr (hA4 h9).1
        have hF := zCf_tr hF hC4
        have hA := hA4
        have hB := hB4
        have hl4 : μc4 93 2 = ln := by rw [hC4.1 93 (by decide) (by decide)]; exact hlm
        have hlm := hl4
        have hs4 : μc4 88 9 = sh := by rw [hC4.2 9 (by decide) (by decide) (by decide)]; exact hsm
        have hsm := hs4
        have hd4 : μc4 88 10 = cu := by rw [hC4.2 10 (by decide) (by decide) (by decide)]; exact hcm
        have hcm := hd4
        refine pm_if hK zmm255 .eq 18 159 rfl rfl (fun h3 => ?_) (fun h3 => ?_)
        · have h3 : x4 = (0 : Int) := h3
          refine pm_blk hK zmm255 [] 1 160 [(2, 88), (0, 3)] [(0, 0)] μc4 [] rfl trivial ?_
          first
          | (obtain ⟨f, f1, f2⟩ := hB h3; exact pm_zret rfl rfl (by first | exact Or.inl rfl | exact Or.inr rfl | omega) ⟨0, f, j, rfl, hTc4, hF, zPa3_0 f1 (by omega), Or.inr ⟨rfl, zf12 f1, f2⟩⟩)
          | (obtain ⟨f, f1, f2⟩ := hB h3; exact pm_zret rfl rfl (by first | exact Or.inl rfl | exact Or.inr rfl | omega) ⟨0, f, j + 1, rfl, hTc4, hF, zPa3_1 b0 (by omega) f1, Or.inr ⟨rfl, zf1 f1, f2⟩⟩)
          | (obtain ⟨f, f1, f2⟩ := hB h3; exact pm_zret rfl rfl (by first | exact Or.inl rfl | exact Or.inr rfl | omega) ⟨0, f, j + 2, rfl, hTc4, hF, zPa3_2 b0 (by omega) b1 f1, Or.inr ⟨rfl, zf1 f1, f2⟩⟩)
          | (obtain ⟨f, f1, f2⟩ := hB h3; exact pm_zret rfl rfl (by first | exact Or.inl rfl | exact Or.inr rfl | omega) ⟨0, f, j + 3, rfl, hTc4, hF, zPa3_3 b0 (by omega) b1 b2 f1, Or.inr ⟨rfl, zf212 f1, f2⟩⟩)
          | (obtain ⟨f, f1, f2⟩ := hB h3; exact pm_zret rfl rfl (by first | exact Or.inl rfl | exact Or.inr rfl | omega) ⟨0, f, j + 4, rfl, hTc4, hF, zPa3_4 b0 (by omega) b1 b2 b3 f1, Or.inr ⟨rfl, zf12 f1, f2⟩⟩)
          | exact pm_zret rfl rfl (by first | exact Or.inl rfl | exact Or.inr rfl | omega) ⟨1, 0, j + 5, rfl, hTc4, hF, zPa3_5 b0 (by omega) b1 b2 b3 b4, Or.inl ⟨rfl, rfl, hc, by rw [m4, m3, m2, m1, m0]⟩⟩
          | (exfalso; omega)
        · have h3 : x4 ≠ (0 : Int) := h3
          obtain ⟨-, b3, hc, m3⟩ := hA h3
          refine pm_blk hK zmm255 [] 4 149 [(2, 88), (0, 3)] [(0, 99), (0, 1), (0, 2), (2, 88)] μc4 [] rfl trivial ?_
          refine pm_call hK zmm255 (146, 0, 256, 3) zM256 (2, 45) [(2, 88), (0, 2), (0, 1), (0, 99)] [] rfl rfl rfl rfl ⟨by omega, by rw [zn256]; omega⟩ (zg_num hK (c := 2) (lo := 1) (hi := 99) (j := j + 4) (j1 := j + 5) hc hKn (by omega) hTc4 hlm ⟨by omega, by omega⟩ ⟨by omega, by omega⟩ (by omega) (by omega) hb88 hb94 ⟨Nat.le_refl _, Nat.le_refl _⟩) (fun st5 μc5 hp5 => ?_)
          obtain ⟨x5, rfl, hTc5, hC5, hA5, hB5⟩ := hp5
          have hx501 : x5 = 0 ∨ x5 = 1 := by by_cases h9 : x5 = 0; exact Or.inl h9; exact Or.inr (hA5 h9).1
          have hF := zCf_tr hF hC5
          have hA := hA5
          have hB := hB5
          have hl5 : μc5 93 2 = ln := by rw [hC5.1 93 (by decide) (by decide)]; exact hlm
          have hlm := hl5
          have hs5 : μc5 88 9 = sh := by rw [hC5.2 9 (by decide) (by decide) (by decide)]; exact hsm
          have hsm := hs5
          have hd5 : μc5 88 10 = cu := by rw [hC5.2 10 (by decide) (by decide) (by decide)]; exact hcm
          have hcm := hd5
          refine pm_if hK zmm255 .eq 7 159 rfl rfl (fun h4 => ?_) (fun h4 => ?_)
          · have h4 : x5 = (0 : Int) := h4
            refine pm_blk hK zmm255 [] 1 160 [(2, 88), (0, 3)] [(0, 0)] μc5 [] rfl trivial ?_
            first
            | (obtain ⟨f, f1, f2⟩ := hB h4; exact pm_zret rfl rfl (by first | exact Or.inl rfl | exact Or.inr rfl | omega) ⟨0, f, j, rfl, hTc5, hF, zPa3_0 f1 (by omega), Or.inr ⟨rfl, zf12 f1, f2⟩⟩)
            | (obtain ⟨f, f1, f2⟩ := hB h4; exact pm_zret rfl rfl (by first | exact Or.inl rfl | exact Or.inr rfl | omega) ⟨0, f, j + 1, rfl, hTc5, hF, zPa3_1 b0 (by omega) f1, Or.inr ⟨rfl, zf1 f1, f2⟩⟩)
            | (obtain ⟨f, f1, f2⟩ := hB h4; exact pm_zret rfl rfl (by first | exact Or.inl rfl | exact Or.inr rfl | omega) ⟨0, f, j + 2, rfl, hTc5, hF, zPa3_2 b0 (by omega) b1 f1, Or.inr ⟨rfl, zf1 f1, f2⟩⟩)
            | (obtain ⟨f, f1, f2⟩ := hB h4; exact pm_zret rfl rfl (by first | exact Or.inl rfl | exact Or.inr rfl | omega) ⟨0, f, j + 3, rfl, hTc5, hF, zPa3_3 b0 (by omega) b1 b2 f1, Or.inr ⟨rfl, zf212 f1, f2⟩⟩)
            | (obtain ⟨f, f1, f2⟩ := hB h4; exact pm_zret rfl rfl (by first | exact Or.inl rfl | exact Or.inr rfl | omega) ⟨0, f, j + 4, rfl, hTc5, hF, zPa3_4 b0 (by omega) b1 b2 b3 f1, Or.inr ⟨rfl, zf12 f1, f2⟩⟩)
            | exact pm_zret rfl rfl (by first | exact Or.inl rfl | exact Or.inr rfl | omega) ⟨1, 0, j + 5, rfl, hTc5, hF, zPa3_5 b0 (by omega) b1 b2 b3 b4, Or.inl ⟨rfl, rfl, hc, by rw [m4, m3, m2, m1, m0]⟩⟩
            | (exfalso; omega)
          · have h4 : x5 ≠ (0 : Int) := h4
            obtain ⟨-, b4, hc, m4⟩ := hA h4
            refine pm_blk hK zmm255 [] 2 160 [(2, 88), (0, 3)] [(0, 1)] μc5 [] rfl trivial ?_
            first
            | (obtain ⟨f, f1, f2⟩ := hB h4; exact pm_zret rfl rfl (by first | exact Or.inl rfl | exact Or.inr rfl | omega) ⟨0, f, j, rfl, hTc5, hF, zPa3_0 f1 (by omega), Or.inr ⟨rfl, zf12 f1, f2⟩⟩)
            | (obtain ⟨f, f1, f2⟩ := hB h4; exact pm_zret rfl rfl (by first | exact Or.inl rfl | exact Or.inr rfl | omega) ⟨0, f, j + 1, rfl, hTc5, hF, zPa3_1 b0 (by omega) f1, Or.inr ⟨rfl, zf1 f1, f2⟩⟩)
            | (obtain ⟨f, f1, f2⟩ := hB h4; exact pm_zret rfl rfl (by first | exact Or.inl rfl | exact Or.inr rfl | omega) ⟨0, f, j + 2, rfl, hTc5, hF, zPa3_2 b0 (by omega) b1 f1, Or.inr ⟨rfl, zf1 f1, f2⟩⟩)
            | (obtain ⟨f, f1, f2⟩ := hB h4; exact pm_zret rfl rfl (by first | exact Or.inl rfl | exact Or.inr rfl | omega) ⟨0, f, j + 3, rfl, hTc5, hF, zPa3_3 b0 (by omega) b1 b2 f1, Or.inr ⟨rfl, zf212 f1, f2⟩⟩)
            | (obtain ⟨f, f1, f2⟩ := hB h4; exact pm_zret rfl rfl (by first | exact Or.inl rfl | exact Or.inr rfl | omega) ⟨0, f, j + 4, rfl, hTc5, hF, zPa3_4 b0 (by omega) b1 b2 b3 f1, Or.inr ⟨rfl, zf12 f1, f2⟩⟩)
            | exact pm_zret rfl rfl (by first | exact Or.inl rfl | exact Or.inr rfl | omega) ⟨1, 0, j + 5, rfl, hTc5, hF, zPa3_5 b0 (by omega) b1 b2 b3 b4, Or.inl ⟨rfl, rfl, hc, by rw [m4, m3, m2, m1, m0]⟩⟩
            | (exfalso; omega)
set_option maxRecDepth 100000 in
theorem zg_where (hK : zKK ST) {ln sh cu : Int} {K S V : Int → Int} {n j : Int} (h : zCq K S V n j μ) (hKn : K n = 257) (hT : zTJ φ μ) (hln : μ 93 2 = ln) (hl : 0 ≤ ln ∧ ln ≤ 15) (hsh : μ 88 9 = sh) (hcu : μ 88 10 = cu) (hb88 : sx_bit Wm 88 = true) (hb94 : sx_bit Wm 94 = true) (hbd : 3 ≤ bud.1 ∧ 69 ≤ bud.2.1) : zC D Wm ST b0 l Sg zM257 bud [(2, 88)] μ (fun st' μ' => ∃ x f q, st' = [(0, x)] ∧ zTJ φ μ' ∧ zCf μ μ' ∧ zPw K V sh j f q ∧ ((x = 1 ∧ f = 0 ∧ zCq K S V n q μ' ∧ μ' 94 = zpu (μ 94) (ln * 4 + 2) (if K j = 321 then -1 else V (j + 1))) ∨ (x = 0 ∧ f ≠ 0 ∧ zFl S f q μ'))) := by
  have hc := h
  have hlm := hln
  have hsm := hsh
  have hcm := hcu
  have hF : zCf μ μ := zCf_refl
  obtain ⟨⟨q1, q2, q3⟩, q4, q5, q6⟩ := id h
  have fs := zT_get hT zs88_9 (i := 9) (by omega) (by omega)
  have fu := zT_get hT zs88_10 (i := 10) (by omega) (by omega)
  refine pm_blk hK zmm257 [] 1 1 [(2, 88)] [(2, 88)] μ [] rfl trivial ?_
  refine pm_call hK zmm257 (70, 0, 53, 0) zM53 (0, 0) [(2, 88)] [] rfl rfl rfl rfl ⟨by omega, by rw [zn53]; omega⟩ (zg_kind hK h ⟨Nat.le_refl _, Nat.le_refl _⟩) (fun st1 μc1 hp1 => ?_)
  obtain ⟨rfl, rfl⟩ := hp1
  refine pm_blk hK zmm257 [] 1 7 [(2, 88)] [(0, 321), (0, K j)] μ [] rfl trivial ?_
  refine pm_icmp hK zmm257 .ne 24 31 rfl rfl (fun h0 => ?_) (fun h0 => ?_)
  · have h0 : K j ≠ (321 : Int) := h0
    have hn321 := h0
    refine pm_blk hK zmm257 [] 2 35 [(2, 88)] [(0, 320), (2, 88)] μ [] rfl trivial ?_
    refine pm_call hK zmm257 (85, 0, 254, 1) zM254 (1, 21) [(2, 88), (0, 320)] [] rfl rfl rfl rfl ⟨by omega, by rw [zn254]; omega⟩ (zg_sign hK (c := 320) (j := j) (j1 := j + 1) hc hKn (by omega) (by decide) hT hb88 ⟨Nat.le_refl _, Nat.le_refl _⟩) (fun st2 μc2 hp2 => ?_)
    obtain ⟨x2, rfl, hTc2, hC2, hA2, hB2⟩ := hp2
    have hx201 : x2 = 0 ∨ x2 = 1 := by by_cases h9 : x2 = 0; exact Or.inl h9; exact Or.inr (hA2 h9).1
    have hF := zCf_tr hF hC2
    have hA := hA2
    have hB := hB2
    have hl2 : μc2 93 2 = ln := by rw [hC2.1 93 (by decide) (by decide)]; exact hlm
    have hlm := hl2
    have hs2 : μc2 88 9 = sh := by rw [hC2.2 9 (by decide) (by decide) (by decide)]; exact hsm
    have hsm := hs2
    have hd2 : μc2 88 10 = cu := by rw [hC2.2 10 (by decide) (by decide) (by decide)]; exact hcm
    have hcm := hd2
    refine pm_if hK zmm257 .eq 22 60 rfl rfl (fun h1 => ?_) (fun h1 => ?_)
    · have h1 : x2 = (0 : Int) := h1
      refine pm_blk hK zmm257 [] 1 61 [(2, 88)] [(0, 0)] μc2 [] rfl trivial ?_
      first
      | (obtain ⟨f, f1, f2⟩ := hB h1; exact pm_zret rfl rfl (by first | exact Or.inl rfl | exact Or.inr rfl | omega) ⟨0, f, j, rfl, hTc2, hF, zPw_1 hn321 f1, Or.inr ⟨rfl, zf1 f1, f2⟩⟩)
      | (obtain ⟨f, f1, f2⟩ := hB h1; exact pm_zret rfl rfl (by first | exact Or.inl rfl | exact Or.inr rfl | omega) ⟨0, f, j + 1, rfl, hTc2, hF, zPw_2 b0 f1 (by omega), Or.inr ⟨rfl, zf12 f1, f2⟩⟩)
      | exact pm_zret rfl rfl (by first | exact Or.inl rfl | exact Or.inr rfl | omega) ⟨1, 0, j + 2, rfl, hTc2, hF, zPw_3 b0 b1 (by omega), Or.inl ⟨rfl, rfl, hc, by rw [m1, m0, if_neg hn321]⟩⟩
      | (exfalso; omega)
    · have h1 : x2 ≠ (0 : Int) := h1
      obtain ⟨-, b0, hc, m0⟩ := hA h1
      have f1 := zT_get hTc2 zs88_9 (i := 9) (by omega) (by omega)
      refine pm_blk hK zmm257 [] 7 50 [(2, 88)] [(0, (μc2 88 9) - 1), (0, 0), (0, 2), (2, 88)] μc2 [pm_in ((μc2 88 9) - 1)] rfl ⟨pm_in_mk (by omega) (by omega), trivial⟩ ?_
      refine pm_call hK zmm257 (146, 0, 256, 3) zM256 (2, 45) [(2, 88), (0, 2), (0, 0), (0, (μc2 88 9) - 1)] [] rfl rfl rfl rfl ⟨by omega, by rw [zn256]; omega⟩ (zg_num hK (c := 2) (lo := 0) (hi := ((μc2 88 9) - 1)) (j := j + 1) (j1 := j + 2) hc hKn (by omega) hTc2 hlm ⟨by omega, by omega⟩ ⟨by omega, by omega⟩ (by omega) (by omega) hb88 hb94 ⟨Nat.le_refl _, Nat.le_refl _⟩) (fun st3 μc3 hp3 => ?_)
      obtain ⟨x3, rfl, hTc3, hC3, hA3, hB3⟩ := hp3
      have hx301 : x3 = 0 ∨ x3 = 1 := by by_cases h9 : x3 = 0; exact Or.inl h9; exact Or.inr (hA3 h9).1
      have hF := zCf_tr hF hC3
      have hA := hA3
      have hB := hB3
      have hl3 : μc3 93 2 = ln := by rw [hC3.1 93 (by decide) (by decide)]; exact hlm
      have hlm := hl3
      have hs3 : μc3 88 9 = sh := by rw [hC3.2 9 (by decide) (by decide) (by decide)]; exact hsm
      have hsm := hs3
      have hd3 : μc3 88 10 = cu := by rw [hC3.2 10 (by decide) (by decide) (by decide)]; exact hcm
      have hcm := hd3
      refine pm_if hK zmm257 .eq 7 60 rfl rfl (fun h2 => ?_) (fun h2 => ?_)
      · have h2 : x3 = (0 : Int) := h2
        refine pm_blk hK zmm257 [] 1 61 [(2, 88)] [(0, 0)] μc3 [] rfl trivial ?_
        first
        | (obtain ⟨f, f1, f2⟩ := hB h2; exact pm_zret rfl rfl (by first | exact Or.inl rfl | exact Or.inr rfl | omega) ⟨0, f, j, rfl, hTc3, hF, zPw_1 hn321 f1, Or.inr ⟨rfl, zf1 f1, f2⟩⟩)
        | (obtain ⟨f, f1, f2⟩ := hB h2; exact pm_zret rfl rfl (by first | exact Or.inl rfl | exact Or.inr rfl | omega) ⟨0, f, j + 1, rfl, hTc3, hF, zPw_2 b0 f1 (by omega), Or.inr ⟨rfl, zf12 f1, f2⟩⟩)
        | exact pm_zret rfl rfl (by first | exact Or.inl rfl | exact Or.inr rfl | omega) ⟨1, 0, j + 2, rfl, hTc3, hF, zPw_3 b0 b1 (by omega), Or.inl ⟨rfl, rfl, hc, by rw [m1, m0, if_neg hn321]⟩⟩
        | (exfalso; omega)
      · have h2 : x3 ≠ (0 : Int) := h2
        obtain ⟨-, b1, hc, m1⟩ := hA h2
        refine pm_blk hK zmm257 [] 2 61 [(2, 88)] [(0, 1)] μc3 [] rfl trivial ?_
        first
        | (obtain ⟨f, f1, f2⟩ := hB h2; exact pm_zret rfl rfl (by first | exact Or.inl rfl | exact Or.inr rfl | omega) ⟨0, f, j, rfl, hTc3, hF, zPw_1 hn321 f1, Or.inr ⟨rfl, zf1 f1, f2⟩⟩)
        | (obtain ⟨f, f1, f2⟩ := hB h2; exact pm_zret rfl rfl (by first | exact Or.inl rfl | exact Or.inr rfl | omega) ⟨0, f, j + 1, rfl, hTc3, hF, zPw_2 b0 f1 (by omega), Or.inr ⟨rfl, zf12 f1, f2⟩⟩)
        | exact pm_zret rfl rfl (by first | exact Or.inl rfl | exact Or.inr rfl | omega) ⟨1, 0, j + 2, rfl, hTc3, hF, zPw_3 b0 b1 (by omega), Or.inl ⟨rfl, rfl, hc, by rw [m1, m0, if_neg hn321]⟩⟩
        | (exfalso; omega)
  · have h0 : K j = (321 : Int) := h0
    have h321 := h0
    have hjn : j ≠ n := fun he => by rw [he, hKn] at h321; omega
    refine pm_blk hK zmm257 [] 4 16 [(2, 88)] [(0, (-1)), (0, 2), (2, 93)] μ [] rfl trivial ?_
    refine pm_call hK zmm257 (143, 0, 243, 2) zM243 (1, 22) [(2, 93), (0, 2), (0, (-1))] [] rfl rfl rfl rfl ⟨by omega, by rw [zn243]; omega⟩ (zg_put hK (c := 2) (v := ((-1))) hT hlm ⟨by omega, by omega⟩ ⟨by omega, by omega⟩ ⟨by omega, by omega⟩ hb94 ⟨Nat.le_refl _, Nat.le_refl _⟩) (fun st4 μc4 hp4 => ?_)
    obtain ⟨rfl, hTc4, ep4⟩ := hp4
    have ep := ep4
    have w8 : μc4 88 8 = j := by rw [ep, pm_up_off (by decide)]; exact q5
    have f2 := zT_get hTc4 zs88_8 (i := 8) (by omega) (by omega)
    refine pm_blk hK zmm257 [] 6 29 [(2, 88)] [] (pm_up μc4 88 8 ((μc4 88 8) + 1)) [pm_in ((μc4 88 8) + 1), sx_bit Wm 88 = true] rfl ⟨pm_in_mk (by omega) (by omega), hb88, trivial⟩ ?_
    obtain ⟨μ1, eμ1⟩ : ∃ μ', μ' = pm_up μc4 88 8 ((μc4 88 8) + 1) := ⟨_, rfl⟩
    rw [← eμ1]
    have hTμ1 : zTJ φ μ1 := by rw [eμ1]; exact zT_up hTc4 zs88_8 rfl (i := 8) (by omega) (by omega) (by omega) (by omega)
    refine pm_blk hK zmm257 [] 1 30 [(2, 88)] [(0, 1)] μ1 [] rfl trivial ?_
    exact pm_zret rfl rfl (by first | exact Or.inl rfl | exact Or.inr rfl | omega) ⟨1, 0, j + 1, rfl, hTμ1, by rw [eμ1, ep]; exact zCf_88 (zCf_94 zCf_refl) (by omega), Or.inl ⟨rfl, rfl, h321⟩, Or.inl ⟨rfl, rfl, zCl_8 (by rw [ep]; exact zCl_o hc (by decide)) eμ1 (by rw [ep, pm_up_off (by decide), q5]) ⟨by omega, by omega⟩, by rw [eμ1, pm_up_row (by decide), ep, pm_up_zpu, if_pos h321]⟩⟩
set_option maxRecDepth 100000 in
theorem zg_day (hK : zKK ST) {ln sh cu : Int} {K S V : Int → Int} {n j : Int} (h : zCq K S V n j μ) (hKn : K n = 257) (hT : zTJ φ μ) (hln : μ 93 2 = ln) (hl : 0 ≤ ln ∧ ln ≤ 15) (hsh : μ 88 9 = sh) (hcu : μ 88 10 = cu) (hb88 : sx_bit Wm 88 = true) (hb94 : sx_bit Wm 94 = true) (hbd : 3 ≤ bud.1 ∧ 69 ≤ bud.2.1) : zC D Wm ST b0 l Sg zM258 bud [(2, 88)] μ (fun st' μ' => ∃ x f q, st' = [(0, x)] ∧ zTJ φ μ' ∧ zCf μ μ' ∧ zPd K V sh cu j f q ∧ ((x = 1 ∧ f = 0 ∧ zCq K S V n q μ' ∧ μ' 94 = zpu (zpu (zpu (μ 94) (ln * 4 + 1) (K j)) (ln * 4 + 2) (V (j + 1))) (ln * 4 + 3) (V (j + 2))) ∨ (x = 0 ∧ f ≠ 0 ∧ zFl S f q μ'))) := by
  have hc := h
  have hlm := hln
  have hsm := hsh
  have hcm := hcu
  have hF : zCf μ μ := zCf_refl
  obtain ⟨⟨q1, q2, q3⟩, q4, q5, q6⟩ := id h
  have fs := zT_get hT zs88_9 (i := 9) (by omega) (by omega)
  have fu := zT_get hT zs88_10 (i := 10) (by omega) (by omega)
  refine pm_blk hK zmm258 [] 1 1 [(2, 88), (9, 0)] [(2, 88)] μ [] rfl trivial ?_
  refine pm_call hK zmm258 (70, 0, 53, 0) zM53 (0, 0) [(2, 88)] [] rfl rfl rfl rfl ⟨by omega, by rw [zn53]; omega⟩ (zg_kind hK h ⟨Nat.le_refl _, Nat.le_refl _⟩) (fun st1 μc1 hp1 => ?_)
  obtain ⟨rfl, rfl⟩ := hp1
  refine pm_blk hK zmm258 [] 3 9 [(2, 88), (0, K j)] [(0, 323), (0, K j)] μ [] rfl trivial ?_
  refine pm_icmp hK zmm258 .eq 30 39 rfl rfl (fun h0 => ?_) (fun h0 => ?_)
  · have h0 : K j = (323 : Int) := h0
    have hkk : K j = 323 ∨ K j = 306 ∨ K j = 324 ∨ K j = 325 := by omega
    have hjn : j ≠ n := fun he => by rw [he, hKn] at hkk; omega
    refine pm_blk hK zmm258 [] 4 45 [(2, 88), (0, K j)] [(0, K j), (0, 1), (2, 93)] μ [] rfl trivial ?_
    refine pm_call hK zmm258 (143, 0, 243, 2) zM243 (1, 22) [(2, 93), (0, 1), (0, K j)] [] rfl rfl rfl rfl ⟨by omega, by rw [zn243]; omega⟩ (zg_put hK (c := 1) (v := (K j)) hT hlm ⟨by omega, by omega⟩ ⟨by omega, by omega⟩ ⟨by omega, by omega⟩ hb94 ⟨Nat.le_refl _, Nat.le_refl _⟩) (fun st2 μc2 hp2 => ?_)
    obtain ⟨rfl, hTc2, ep2⟩ := hp2
    have ep := ep2
    have w8 : μc2 88 8 = j := by rw [ep, pm_up_off (by decide)]; exact q5
    have w94 : μc2 94 = zpu (μ 94) (ln * 4 + 1) (K j) := by rw [ep, pm_up_zpu]
    have hF := zCf_tr hF (show zCf μ μc2 from by rw [ep]; exact zCf_94 zCf_refl)
    have hc : zCq K S V n j μc2 := by rw [ep]; exact zCl_o hc (by decide)
    have f1 := zT_get hTc2 zs88_8 (i := 8) (by omega) (by omega)
    refine pm_blk hK zmm258 [] 6 58 [(2, 88), (0, K j)] [] (pm_up μc2 88 8 ((μc2 88 8) + 1)) [pm_in ((μc2 88 8) + 1), sx_bit Wm 88 = true] rfl ⟨pm_in_mk (by omega) (by omega), hb88, trivial⟩ ?_
    obtain ⟨μ1, eμ1⟩ : ∃ μ', μ' = pm_up μc2 88 8 ((μc2 88 8) + 1) := ⟨_, rfl⟩
    rw [← eμ1]
    have hTμ1 : zTJ φ μ1 := by rw [eμ1]; exact zT_up hTc2 zs88_8 rfl (i := 8) (by omega) (by omega) (by omega) (by omega)
    have hc : zCq K S V n (j + 1) μ1 := zCl_8 hc eμ1 (by rw [hc.2.2.1]) ⟨by omega, by omega⟩
    have hF : zCf μ μ1 := by rw [eμ1]; exact zCf_88 hF (by omega)
    have hlm : μ1 93 2 = ln := by rw [hF.1 93 (by decide) (by decide)]; exact hln
    have hsm : μ1 88 9 = sh := by rw [hF.2 9 (by decide) (by decide) (by decide)]; exact hsh
    have hcm : μ1 88 10 = cu := by rw [hF.2 10 (by decide) (by decide) (by decide)]; exact hcu
    have w94 : μ1 94 = zpu (μ 94) (ln * 4 + 1) (K j) := by rw [eμ1, pm_up_row (by decide)]; exact w94
    refine pm_blk hK zmm258 [] 1 59 [(2, 88), (0, K j)] [(0, K j)] μ1 [] rfl trivial ?_
    have ht1 : (K j) = 306 ∨ (K j) = 323 ∨ (K j) = 324 ∨ ((K j) ≠ 306 ∧ (K j) ≠ 323 ∧ (K j) ≠ 324) := by omega
    rcases ht1 with ht1 | ht1 | ht1 | ht1
    · refine zp_lsw hK zmm258 (off := 65) (tgt := 124) rfl (by decide) (by rw [ht1]; decide) (by decide) ?_
      have f2 := zT_get hTμ1 zs88_9 (i := 9) (by omega) (by omega)
      refine pm_blk hK zmm258 [] 7 133 [(2, 88), (0, K j)] [(0, (μ1 88 9) - 1), (0, 0), (0, 2), (2, 88)] μ1 [pm_in ((μ1 88 9) - 1)] rfl ⟨pm_in_mk (by omega) (by omega), trivial⟩ ?_
      refine pm_call hK zmm258 (146, 0, 256, 3) zM256 (2, 45) [(2, 88), (0, 2), (0, 0), (0, (μ1 88 9) - 1)] [] rfl rfl rfl rfl ⟨by omega, by rw [zn256]; omega⟩ (zg_num hK (c := 2) (lo := 0) (hi := ((μ1 88 9) - 1)) (j := j + 1) (j1 := j + 2) hc hKn (by omega) hTμ1 hlm ⟨by omega, by omega⟩ ⟨by omega, by omega⟩ (by omega) (by omega) hb88 hb94 ⟨Nat.le_refl _, Nat.le_refl _⟩) (fun st3 μc3 hp3 => ?_)
      obtain ⟨x3, rfl, hTc3, hC3, hA3, hB3⟩ := hp3
      have hx301 : x3 = 0 ∨ x3 = 1 := by by_cases h9 : x3 = 0; exact Or.inl h9; exact Or.inr (hA3 h9).1
      have hF := zCf_tr hF hC3
      have hA := hA3
      have hB := hB3
      have hl3 : μc3 93 2 = ln := by rw [hC3.1 93 (by decide) (by decide)]; exact hlm
      have hlm := hl3
      have hs3 : μc3 88 9 = sh := by rw [hC3.2 9 (by decide) (by decide) (by decide)]; exact hsm
      have hsm := hs3
      have hd3 : μc3 88 10 = cu := by rw [hC3.2 10 (by decide) (by decide) (by decide)]; exact hcm
      have hcm := hd3
      refine pm_if hK zmm258 .eq 18 154 rfl rfl (fun h2 => ?_) (fun h2 => ?_)
      · have h2 : x3 = (0 : Int) := h2
        refine pm_blk hK zmm258 [] 1 155 [(2, 88), (0, K j)] [(0, 0)] μc3 [] rfl trivial ?_
        first
        | (obtain ⟨f, f1, f2⟩ := hB h2; exact pm_zret rfl rfl (by first | exact Or.inl rfl | exact Or.inr rfl | omega) ⟨0, f, j + 1, rfl, hTc3, hF, zPd_1 hkk f1 (by omega), Or.inr ⟨rfl, zf12 f1, f2⟩⟩)
        | (obtain ⟨f, f1, f2⟩ := hB h2; exact pm_zret rfl rfl (by first | exact Or.inl rfl | exact Or.inr rfl | omega) ⟨0, f, j + 2, rfl, hTc3, hF, zPd_2 hkk b1 (by omega) f1 (by omega), Or.inr ⟨rfl, zf12 f1, f2⟩⟩)
        | exact pm_zret rfl rfl (by first | exact Or.inl rfl | exact Or.inr rfl | omega) ⟨1, 0, j + 3, rfl, hTc3, hF, zPd_3 hkk b1 (by omega) b2 (by omega), Or.inl ⟨rfl, rfl, hc, by rw [m2, m1, w94]⟩⟩
        | (exfalso; omega)
      · have h2 : x3 ≠ (0 : Int) := h2
        obtain ⟨-, b1, hc, m1⟩ := hA h2
        refine pm_blk hK zmm258 [] 4 144 [(2, 88), (0, K j)] [(0, 99), (0, 1), (0, 3), (2, 88)] μc3 [] rfl trivial ?_
        refine pm_call hK zmm258 (146, 0, 256, 3) zM256 (2, 45) [(2, 88), (0, 3), (0, 1), (0, 99)] [] rfl rfl rfl rfl ⟨by omega, by rw [zn256]; omega⟩ (zg_num hK (c := 3) (lo := 1) (hi := 99) (j := j + 2) (j1 := j + 3) hc hKn (by omega) hTc3 hlm ⟨by omega, by omega⟩ ⟨by omega, by omega⟩ (by omega) (by omega) hb88 hb94 ⟨Nat.le_refl _, Nat.le_refl _⟩) (fun st4 μc4 hp4 => ?_)
        obtain ⟨x4, rfl, hTc4, hC4, hA4, hB4⟩ := hp4
        have hx401 : x4 = 0 ∨ x4 = 1 := by by_cases h9 : x4 = 0; exact Or.inl h9; exact Or.inr (hA4 h9).1
        have hF := zCf_tr hF hC4
        have hA := hA4
        have hB := hB4
        have hl4 : μc4 93 2 = ln := by rw [hC4.1 93 (by decide) (by decide)]; exact hlm
        have hlm := hl4
        have hs4 : μc4 88 9 = sh := by rw [hC4.2 9 (by decide) (by decide) (by decide)]; exact hsm
        have hsm := hs4
        have hd4 : μc4 88 10 = cu := by rw [hC4.2 10 (by decide) (by decide) (by decide)]; exact hcm
        have hcm := hd4
        refine pm_if hK zmm258 .eq 7 154 rfl rfl (fun h3 => ?_) (fun h3 => ?_)
        · have h3 : x4 = (0 : Int) := h3
          refine pm_blk hK zmm258 [] 1 155 [(2, 88), (0, K j)] [(0, 0)] μc4 [] rfl trivial ?_
          first
          | (obtain ⟨f, f1, f2⟩ := hB h3; exact pm_zret rfl rfl (by first | exact Or.inl rfl | exact Or.inr rfl | omega) ⟨0, f, j + 1, rfl, hTc4, hF, zPd_1 hkk f1 (by omega), Or.inr ⟨rfl, zf12 f1, f2⟩⟩)
          | (obtain ⟨f, f1, f2⟩ := hB h3; exact pm_zret rfl rfl (by first | exact Or.inl rfl | exact Or.inr rfl | omega) ⟨0, f, j + 2, rfl, hTc4, hF, zPd_2 hkk b1 (by omega) f1 (by omega), Or.inr ⟨rfl, zf12 f1, f2⟩⟩)
          | exact pm_zret rfl rfl (by first | exact Or.inl rfl | exact Or.inr rfl | omega) ⟨1, 0, j + 3, rfl, hTc4, hF, zPd_3 hkk b1 (by omega) b2 (by omega), Or.inl ⟨rfl, rfl, hc, by rw [m2, m1, w94]⟩⟩
          | (exfalso; omega)
        · have h3 : x4 ≠ (0 : Int) := h3
          obtain ⟨-, b2, hc, m2⟩ := hA h3
          refine pm_blk hK zmm258 [] 2 155 [(2, 88), (0, K j)] [(0, 1)] μc4 [] rfl trivial ?_
          first
          | (obtain ⟨f, f1, f2⟩ := hB h3; exact pm_zret rfl rfl (by first | exact Or.inl rfl | exact Or.inr rfl | omega) ⟨0, f, j + 1, rfl, hTc4, hF, zPd_1 hkk f1 (by omega), Or.inr ⟨rfl, zf12 f1, f2⟩⟩)
          | (obtain ⟨f, f1, f2⟩ := hB h3; exact pm_zret rfl rfl (by first | exact Or.inl rfl | exact Or.inr rfl | omega) ⟨0, f, j + 2, rfl, hTc4, hF, zPd_2 hkk b1 (by omega) f1 (by omega), Or.inr ⟨rfl, zf12 f1, f2⟩⟩)
          | exact pm_zret rfl rfl (by first | exact Or.inl rfl | exact Or.inr rfl | omega) ⟨1, 0, j + 3, rfl, hTc4, hF, zPd_3 hkk b1 (by omega) b2 (by omega), Or.inl ⟨rfl, rfl, hc, by rw [m2, m1, w94]⟩⟩
          | (exfalso; omega)
    · refine zp_lsw hK zmm258 (off := 33) (tgt := 92) rfl (by decide) (by rw [ht1]; decide) (by decide) ?_
      have f3 := zT_get hTμ1 zs88_9 (i := 9) (by omega) (by omega)
      refine pm_blk hK zmm258 [] 7 101 [(2, 88), (0, K j)] [(0, (μ1 88 9) - 1), (0, 0), (0, 2), (2, 88)] μ1 [pm_in ((μ1 88 9) - 1)] rfl ⟨pm_in_mk (by omega) (by omega), trivial⟩ ?_
      refine pm_call hK zmm258 (146, 0, 256, 3) zM256 (2, 45) [(2, 88), (0, 2), (0, 0), (0, (μ1 88 9) - 1)] [] rfl rfl rfl rfl ⟨by omega, by rw [zn256]; omega⟩ (zg_num hK (c := 2) (lo := 0) (hi := ((μ1 88 9) - 1)) (j := j + 1) (j1 := j + 2) hc hKn (by omega) hTμ1 hlm ⟨by omega, by omega⟩ ⟨by omega, by omega⟩ (by omega) (by omega) hb88 hb94 ⟨Nat.le_refl _, Nat.le_refl _⟩) (fun st5 μc5 hp5 => ?_)
      obtain ⟨x5, rfl, hTc5, hC5, hA5, hB5⟩ := hp5
      have hx501 : x5 = 0 ∨ x5 = 1 := by by_cases h9 : x5 = 0; exact Or.inl h9; exact Or.inr (hA5 h9).1
      have hF := zCf_tr hF hC5
      have hA := hA5
      have hB := hB5
      have hl5 : μc5 93 2 = ln := by rw [hC5.1 93 (by decide) (by decide)]; exact hlm
      have hlm := hl5
      have hs5 : μc5 88 9 = sh := by rw [hC5.2 9 (by decide) (by decide) (by decide)]; exact hsm
      have hsm := hs5
      have hd5 : μc5 88 10 = cu := by rw [hC5.2 10 (by decide) (by decide) (by decide)]; exact hcm
      have hcm := hd5
      refine pm_if hK zmm258 .eq 18 122 rfl rfl (fun h4 => ?_) (fun h4 => ?_)
      · have h4 : x5 = (0 : Int) := h4
        refine pm_blk hK zmm258 [] 1 123 [(2, 88), (0, K j)] [(0, 0)] μc5 [] rfl trivial ?_
        first
        | (obtain ⟨f, f1, f2⟩ := hB h4; exact pm_zret rfl rfl (by first | exact Or.inl rfl | exact Or.inr rfl | omega) ⟨0, f, j + 1, rfl, hTc5, hF, zPd_1 hkk f1 (by omega), Or.inr ⟨rfl, zf12 f1, f2⟩⟩)
        | (obtain ⟨f, f1, f2⟩ := hB h4; exact pm_zret rfl rfl (by first | exact Or.inl rfl | exact Or.inr rfl | omega) ⟨0, f, j + 2, rfl, hTc5, hF, zPd_2 hkk b1 (by omega) f1 (by omega), Or.inr ⟨rfl, zf12 f1, f2⟩⟩)
        | exact pm_zret rfl rfl (by first | exact Or.inl rfl | exact Or.inr rfl | omega) ⟨1, 0, j + 3, rfl, hTc5, hF, zPd_3 hkk b1 (by omega) b2 (by omega), Or.inl ⟨rfl, rfl, hc, by rw [m2, m1, w94]⟩⟩
        | (exfalso; omega)
      · have h4 : x5 ≠ (0 : Int) := h4
        obtain ⟨-, b1, hc, m1⟩ := hA h4
        refine pm_blk hK zmm258 [] 4 112 [(2, 88), (0, K j)] [(0, 99), (0, 0), (0, 3), (2, 88)] μc5 [] rfl trivial ?_
        refine pm_call hK zmm258 (146, 0, 256, 3) zM256 (2, 45) [(2, 88), (0, 3), (0, 0), (0, 99)] [] rfl rfl rfl rfl ⟨by omega, by rw [zn256]; omega⟩ (zg_num hK (c := 3) (lo := 0) (hi := 99) (j := j + 2) (j1 := j + 3) hc hKn (by omega) hTc5 hlm ⟨by omega, by omega⟩ ⟨by omega, by omega⟩ (by omega) (by omega) hb88 hb94 ⟨Nat.le_refl _, Nat.le_refl _⟩) (fun st6 μc6 hp6 => ?_)
        obtain ⟨x6, rfl, hTc6, hC6, hA6, hB6⟩ := hp6
        have hx601 : x6 = 0 ∨ x6 = 1 := by by_cases h9 : x6 = 0; exact Or.inl h9; exact Or.inr (hA6 h9).1
        have hF := zCf_tr hF hC6
        have hA := hA6
        have hB := hB6
        have hl6 : μc6 93 2 = ln := by rw [hC6.1 93 (by decide) (by decide)]; exact hlm
        have hlm := hl6
        have hs6 : μc6 88 9 = sh := by rw [hC6.2 9 (by decide) (by decide) (by decide)]; exact hsm
        have hsm := hs6
        have hd6 : μc6 88 10 = cu := by rw [hC6.2 10 (by decide) (by decide) (by decide)]; exact hcm
        have hcm := hd6
        refine pm_if hK zmm258 .eq 7 122 rfl rfl (fun h5 => ?_) (fun h5 => ?_)
        · have h5 : x6 = (0 : Int) := h5
          refine pm_blk hK zmm258 [] 1 123 [(2, 88), (0, K j)] [(0, 0)] μc6 [] rfl trivial ?_
          first
          | (obtain ⟨f, f1, f2⟩ := hB h5; exact pm_zret rfl rfl (by first | exact Or.inl rfl | exact Or.inr rfl | omega) ⟨0, f, j + 1, rfl, hTc6, hF, zPd_1 hkk f1 (by omega), Or.inr ⟨rfl, zf12 f1, f2⟩⟩)
          | (obtain ⟨f, f1, f2⟩ := hB h5; exact pm_zret rfl rfl (by first | exact Or.inl rfl | exact Or.inr rfl | omega) ⟨0, f, j + 2, rfl, hTc6, hF, zPd_2 hkk b1 (by omega) f1 (by omega), Or.inr ⟨rfl, zf12 f1, f2⟩⟩)
          | exact pm_zret rfl rfl (by first | exact Or.inl rfl | exact Or.inr rfl | omega) ⟨1, 0, j + 3, rfl, hTc6, hF, zPd_3 hkk b1 (by omega) b2 (by omega), Or.inl ⟨rfl, rfl, hc, by rw [m2, m1, w94]⟩⟩
          | (exfalso; omega)
        · have h5 : x6 ≠ (0 : Int) := h5
          obtain ⟨-, b2, hc, m2⟩ := hA h5
          refine pm_blk hK zmm258 [] 2 123 [(2, 88), (0, K j)] [(0, 1)] μc6 [] rfl trivial ?_
          first
          | (obtain ⟨f, f1, f2⟩ := hB h5; exact pm_zret rfl rfl (by first | exact Or.inl rfl | exact Or.inr rfl | omega) ⟨0, f, j + 1, rfl, hTc6, hF, zPd_1 hkk f1 (by omega), Or.inr ⟨rfl, zf12 f1, f2⟩⟩)
          | (obtain ⟨f, f1, f2⟩ := hB h5; exact pm_zret rfl rfl (by first | exact Or.inl rfl | exact Or.inr rfl | omega) ⟨0, f, j + 2, rfl, hTc6, hF, zPd_2 hkk b1 (by omega) f1 (by omega), Or.inr ⟨rfl, zf12 f1, f2⟩⟩)
          | exact pm_zret rfl rfl (by first | exact Or.inl rfl | exact Or.inr rfl | omega) ⟨1, 0, j + 3, rfl, hTc6, hF, zPd_3 hkk b1 (by omega) b2 (by omega), Or.inl ⟨rfl, rfl, hc, by rw [m2, m1, w94]⟩⟩
          | (exfalso; omega)
    · refine zp_lsw hK zmm258 (off := 97) (tgt := 156) rfl (by decide) (by rw [ht1]; decide) (by decide) ?_
      have f4 := zT_get hTμ1 zs88_10 (i := 10) (by omega) (by omega)
      refine pm_blk hK zmm258 [] 7 165 [(2, 88), (0, K j)] [(0, (μ1 88 10) - 1), (0, 0), (0, 2), (2, 88)] μ1 [pm_in ((μ1 88 10) - 1)] rfl ⟨pm_in_mk (by omega) (by omega), trivial⟩ ?_
      refine pm_call hK zmm258 (146, 0, 256, 3) zM256 (2, 45) [(2, 88), (0, 2), (0, 0), (0, (μ1 88 10) - 1)] [] rfl rfl rfl rfl ⟨by omega, by rw [zn256]; omega⟩ (zg_num hK (c := 2) (lo := 0) (hi := ((μ1 88 10) - 1)) (j := j + 1) (j1 := j + 2) hc hKn (by omega) hTμ1 hlm ⟨by omega, by omega⟩ ⟨by omega, by omega⟩ (by omega) (by omega) hb88 hb94 ⟨Nat.le_refl _, Nat.le_refl _⟩) (fun st7 μc7 hp7 => ?_)
      obtain ⟨x7, rfl, hTc7, hC7, hA7, hB7⟩ := hp7
      have hx701 : x7 = 0 ∨ x7 = 1 := by by_cases h9 : x7 = 0; exact Or.inl h9; exact Or.inr (hA7 h9).1
      have hF := zCf_tr hF hC7
      have hA := hA7
      have hB := hB7
      have hl7 : μc7 93 2 = ln := by rw [hC7.1 93 (by decide) (by decide)]; exact hlm
      have hlm := hl7
      have hs7 : μc7 88 9 = sh := by rw [hC7.2 9 (by decide) (by decide) (by decide)]; exact hsm
      have hsm := hs7
      have hd7 : μc7 88 10 = cu := by rw [hC7.2 10 (by decide) (by decide) (by decide)]; exact hcm
      have hcm := hd7
      refine pm_if hK zmm258 .eq 19 187 rfl rfl (fun h6 => ?_) (fun h6 => ?_)
      · have h6 : x7 = (0 : Int) := h6
        refine pm_blk hK zmm258 [] 1 188 [(2, 88), (0, K j)] [(0, 0)] μc7 [] rfl trivial ?_
        first
        | (obtain ⟨f, f1, f2⟩ := hB h6; exact pm_zret rfl rfl (by first | exact Or.inl rfl | exact Or.inr rfl | omega) ⟨0, f, j + 1, rfl, hTc7, hF, zPd_1 hkk f1 (by omega), Or.inr ⟨rfl, zf12 f1, f2⟩⟩)
        | (obtain ⟨f, f1, f2⟩ := hB h6; exact pm_zret rfl rfl (by first | exact Or.inl rfl | exact Or.inr rfl | omega) ⟨0, f, j + 2, rfl, hTc7, hF, zPd_2 hkk b1 (by omega) f1 (by omega), Or.inr ⟨rfl, zf12 f1, f2⟩⟩)
        | exact pm_zret rfl rfl (by first | exact Or.inl rfl | exact Or.inr rfl | omega) ⟨1, 0, j + 3, rfl, hTc7, hF, zPd_3 hkk b1 (by omega) b2 (by omega), Or.inl ⟨rfl, rfl, hc, by rw [m2, m1, w94]⟩⟩
        | (exfalso; omega)
      · have h6 : x7 ≠ (0 : Int) := h6
        obtain ⟨-, b1, hc, m1⟩ := hA h6
        refine pm_blk hK zmm258 [] 4 177 [(2, 88), (0, K j)] [(0, 999), (0, 1), (0, 3), (2, 88)] μc7 [] rfl trivial ?_
        refine pm_call hK zmm258 (146, 0, 256, 3) zM256 (2, 45) [(2, 88), (0, 3), (0, 1), (0, 999)] [] rfl rfl rfl rfl ⟨by omega, by rw [zn256]; omega⟩ (zg_num hK (c := 3) (lo := 1) (hi := 999) (j := j + 2) (j1 := j + 3) hc hKn (by omega) hTc7 hlm ⟨by omega, by omega⟩ ⟨by omega, by omega⟩ (by omega) (by omega) hb88 hb94 ⟨Nat.le_refl _, Nat.le_refl _⟩) (fun st8 μc8 hp8 => ?_)
        obtain ⟨x8, rfl, hTc8, hC8, hA8, hB8⟩ := hp8
        have hx801 : x8 = 0 ∨ x8 = 1 := by by_cases h9 : x8 = 0; exact Or.inl h9; exact Or.inr (hA8 h9).1
        have hF := zCf_tr hF hC8
        have hA := hA8
        have hB := hB8
        have hl8 : μc8 93 2 = ln := by rw [hC8.1 93 (by decide) (by decide)]; exact hlm
        have hlm := hl8
        have hs8 : μc8 88 9 = sh := by rw [hC8.2 9 (by decide) (by decide) (by decide)]; exact hsm
        have hsm := hs8
        have hd8 : μc8 88 10 = cu := by rw [hC8.2 10 (by decide) (by decide) (by decide)]; exact hcm
        have hcm := hd8
        refine pm_if hK zmm258 .eq 7 187 rfl rfl (fun h7 => ?_) (fun h7 => ?_)
        · have h7 : x8 = (0 : Int) := h7
          refine pm_blk hK zmm258 [] 1 188 [(2, 88), (0, K j)] [(0, 0)] μc8 [] rfl trivial ?_
          first
          | (obtain ⟨f, f1, f2⟩ := hB h7; exact pm_zret rfl rfl (by first | exact Or.inl rfl | exact Or.inr rfl | omega) ⟨0, f, j + 1, rfl, hTc8, hF, zPd_1 hkk f1 (by omega), Or.inr ⟨rfl, zf12 f1, f2⟩⟩)
          | (obtain ⟨f, f1, f2⟩ := hB h7; exact pm_zret rfl rfl (by first | exact Or.inl rfl | exact Or.inr rfl | omega) ⟨0, f, j + 2, rfl, hTc8, hF, zPd_2 hkk b1 (by omega) f1 (by omega), Or.inr ⟨rfl, zf12 f1, f2⟩⟩)
          | exact pm_zret rfl rfl (by first | exact Or.inl rfl | exact Or.inr rfl | omega) ⟨1, 0, j + 3, rfl, hTc8, hF, zPd_3 hkk b1 (by omega) b2 (by omega), Or.inl ⟨rfl, rfl, hc, by rw [m2, m1, w94]⟩⟩
          | (exfalso; omega)
        · have h7 : x8 ≠ (0 : Int) := h7
          obtain ⟨-, b2, hc, m2⟩ := hA h7
          refine pm_blk hK zmm258 [] 2 188 [(2, 88), (0, K j)] [(0, 1)] μc8 [] rfl trivial ?_
          first
          | (obtain ⟨f, f1, f2⟩ := hB h7; exact pm_zret rfl rfl (by first | exact Or.inl rfl | exact Or.inr rfl | omega) ⟨0, f, j + 1, rfl, hTc8, hF, zPd_1 hkk f1 (by omega), Or.inr ⟨rfl, zf12 f1, f2⟩⟩)
          | (obtain ⟨f, f1, f2⟩ := hB h7; exact pm_zret rfl rfl (by first | exact Or.inl rfl | exact Or.inr rfl | omega) ⟨0, f, j + 2, rfl, hTc8, hF, zPd_2 hkk b1 (by omega) f1 (by omega), Or.inr ⟨rfl, zf12 f1, f2⟩⟩)
          | exact pm_zret rfl rfl (by first | exact Or.inl rfl | exact Or.inr rfl | omega) ⟨1, 0, j + 3, rfl, hTc8, hF, zPd_3 hkk b1 (by omega) b2 (by omega), Or.inl ⟨rfl, rfl, hc, by rw [m2, m1, w94]⟩⟩
          | (exfalso; omega)
    · refine zp_lsw hK zmm258 (off := 130) (tgt := 189) rfl (by decide) (by rw [Op.lookupswitch.offset_cons, if_neg (show ¬ (306 : Int) = (K j) by omega), Op.lookupswitch.offset_cons, if_neg (show ¬ (323 : Int) = (K j) by omega), Op.lookupswitch.offset_cons, if_neg (show ¬ (324 : Int) = (K j) by omega)]; rfl) (by decide) ?_
      have f5 := zT_get hTμ1 zs88_9 (i := 9) (by omega) (by omega)
      refine pm_blk hK zmm258 [] 7 198 [(2, 88), (0, K j)] [(0, (μ1 88 9) - 1), (0, 0), (0, 2), (2, 88)] μ1 [pm_in ((μ1 88 9) - 1)] rfl ⟨pm_in_mk (by omega) (by omega), trivial⟩ ?_
      refine pm_call hK zmm258 (146, 0, 256, 3) zM256 (2, 45) [(2, 88), (0, 2), (0, 0), (0, (μ1 88 9) - 1)] [] rfl rfl rfl rfl ⟨by omega, by rw [zn256]; omega⟩ (zg_num hK (c := 2) (lo := 0) (hi := ((μ1 88 9) - 1)) (j := j + 1) (j1 := j + 2) hc hKn (by omega) hTμ1 hlm ⟨by omega, by omega⟩ ⟨by omega, by omega⟩ (by omega) (by omega) hb88 hb94 ⟨Nat.le_refl _, Nat.le_refl _⟩) (fun st9 μc9 hp9 => ?_)
      obtain ⟨x9, rfl, hTc9, hC9, hA9, hB9⟩ := hp9
      have hx901 : x9 = 0 ∨ x9 = 1 := by by_cases h9 : x9 = 0; exact Or.inl h9; exact Or.inr (hA9 h9).1
      have hF := zCf_tr hF hC9
      have hA := hA9
      have hB := hB9
      have hl9 : μc9 93 2 = ln := by rw [hC9.1 93 (by decide) (by decide)]; exact hlm
      have hlm := hl9
      have hs9 : μc9 88 9 = sh := by rw [hC9.2 9 (by decide) (by decide) (by decide)]; exact hsm
      have hsm := hs9
      have hd9 : μc9 88 10 = cu := by rw [hC9.2 10 (by decide) (by decide) (by decide)]; exact hcm
      have hcm := hd9
      refine pm_if hK zmm258 .eq 22 223 rfl rfl (fun h8 => ?_) (fun h8 => ?_)
      · have h8 : x9 = (0 : Int) := h8
        refine pm_blk hK zmm258 [] 1 224 [(2, 88), (0, K j)] [(0, 0)] μc9 [] rfl trivial ?_
        first
        | (obtain ⟨f, f1, f2⟩ := hB h8; exact pm_zret rfl rfl (by first | exact Or.inl rfl | exact Or.inr rfl | omega) ⟨0, f, j + 1, rfl, hTc9, hF, zPd_1 hkk f1 (by omega), Or.inr ⟨rfl, zf12 f1, f2⟩⟩)
        | (obtain ⟨f, f1, f2⟩ := hB h8; exact pm_zret rfl rfl (by first | exact Or.inl rfl | exact Or.inr rfl | omega) ⟨0, f, j + 2, rfl, hTc9, hF, zPd_2 hkk b1 (by omega) f1 (by omega), Or.inr ⟨rfl, zf12 f1, f2⟩⟩)
        | exact pm_zret rfl rfl (by first | exact Or.inl rfl | exact Or.inr rfl | omega) ⟨1, 0, j + 3, rfl, hTc9, hF, zPd_3 hkk b1 (by omega) b2 (by omega), Or.inl ⟨rfl, rfl, hc, by rw [m2, m1, w94]⟩⟩
        | (exfalso; omega)
      · have h8 : x9 ≠ (0 : Int) := h8
        obtain ⟨-, b1, hc, m1⟩ := hA h8
        have f6 := zT_get hTc9 zs88_10 (i := 10) (by omega) (by omega)
        refine pm_blk hK zmm258 [] 7 213 [(2, 88), (0, K j)] [(0, (μc9 88 10) - 1), (0, 0), (0, 3), (2, 88)] μc9 [pm_in ((μc9 88 10) - 1)] rfl ⟨pm_in_mk (by omega) (by omega), trivial⟩ ?_
        refine pm_call hK zmm258 (146, 0, 256, 3) zM256 (2, 45) [(2, 88), (0, 3), (0, 0), (0, (μc9 88 10) - 1)] [] rfl rfl rfl rfl ⟨by omega, by rw [zn256]; omega⟩ (zg_num hK (c := 3) (lo := 0) (hi := ((μc9 88 10) - 1)) (j := j + 2) (j1 := j + 3) hc hKn (by omega) hTc9 hlm ⟨by omega, by omega⟩ ⟨by omega, by omega⟩ (by omega) (by omega) hb88 hb94 ⟨Nat.le_refl _, Nat.le_refl _⟩) (fun st10 μc10 hp10 => ?_)
        obtain ⟨x10, rfl, hTc10, hC10, hA10, hB10⟩ := hp10
        have hx1001 : x10 = 0 ∨ x10 = 1 := by by_cases h9 : x10 = 0; exact Or.inl h9; exact Or.inr (hA10 h9).1
        have hF := zCf_tr hF hC10
        have hA := hA10
        have hB := hB10
        have hl10 : μc10 93 2 = ln := by rw [hC10.1 93 (by decide) (by decide)]; exact hlm
        have hlm := hl10
        have hs10 : μc10 88 9 = sh := by rw [hC10.2 9 (by decide) (by decide) (by decide)]; exact hsm
        have hsm := hs10
        have hd10 : μc10 88 10 = cu := by rw [hC10.2 10 (by decide) (by decide) (by decide)]; exact hcm
        have hcm := hd10
        refine pm_if hK zmm258 .eq 7 223 rfl rfl (fun h9 => ?_) (fun h9 => ?_)
        · have h9 : x10 = (0 : Int) := h9
          refine pm_blk hK zmm258 [] 1 224 [(2, 88), (0, K j)] [(0, 0)] μc10 [] rfl trivial ?_
          first
          | (obtain ⟨f, f1, f2⟩ := hB h9; exact pm_zret rfl rfl (by first | exact Or.inl rfl | exact Or.inr rfl | omega) ⟨0, f, j + 1, rfl, hTc10, hF, zPd_1 hkk f1 (by omega), Or.inr ⟨rfl, zf12 f1, f2⟩⟩)
          | (obtain ⟨f, f1, f2⟩ := hB h9; exact pm_zret rfl rfl (by first | exact Or.inl rfl | exact Or.inr rfl | omega) ⟨0, f, j + 2, rfl, hTc10, hF, zPd_2 hkk b1 (by omega) f1 (by omega), Or.inr ⟨rfl, zf12 f1, f2⟩⟩)
          | exact pm_zret rfl rfl (by first | exact Or.inl rfl | exact Or.inr rfl | omega) ⟨1, 0, j + 3, rfl, hTc10, hF, zPd_3 hkk b1 (by omega) b2 (by omega), Or.inl ⟨rfl, rfl, hc, by rw [m2, m1, w94]⟩⟩
          | (exfalso; omega)
        · have h9 : x10 ≠ (0 : Int) := h9
          obtain ⟨-, b2, hc, m2⟩ := hA h9
          refine pm_blk hK zmm258 [] 2 224 [(2, 88), (0, K j)] [(0, 1)] μc10 [] rfl trivial ?_
          first
          | (obtain ⟨f, f1, f2⟩ := hB h9; exact pm_zret rfl rfl (by first | exact Or.inl rfl | exact Or.inr rfl | omega) ⟨0, f, j + 1, rfl, hTc10, hF, zPd_1 hkk f1 (by omega), Or.inr ⟨rfl, zf12 f1, f2⟩⟩)
          | (obtain ⟨f, f1, f2⟩ := hB h9; exact pm_zret rfl rfl (by first | exact Or.inl rfl | exact Or.inr rfl | omega) ⟨0, f, j + 2, rfl, hTc10, hF, zPd_2 hkk b1 (by omega) f1 (by omega), Or.inr ⟨rfl, zf12 f1, f2⟩⟩)
          | exact pm_zret rfl rfl (by first | exact Or.inl rfl | exact Or.inr rfl | omega) ⟨1, 0, j + 3, rfl, hTc10, hF, zPd_3 hkk b1 (by omega) b2 (by omega), Or.inl ⟨rfl, rfl, hc, by rw [m2, m1, w94]⟩⟩
          | (exfalso; omega)
  · have h0 : K j ≠ (323 : Int) := h0
    refine pm_blk hK zmm258 [] 2 16 [(2, 88), (0, K j)] [(0, 306), (0, K j)] μ [] rfl trivial ?_
    refine pm_icmp hK zmm258 .eq 23 39 rfl rfl (fun h10 => ?_) (fun h10 => ?_)
    · have h10 : K j = (306 : Int) := h10
      have hkk : K j = 323 ∨ K j = 306 ∨ K j = 324 ∨ K j = 325 := by omega
      have hjn : j ≠ n := fun he => by rw [he, hKn] at hkk; omega
      refine pm_blk hK zmm258 [] 4 45 [(2, 88), (0, K j)] [(0, K j), (0, 1), (2, 93)] μ [] rfl trivial ?_
      refine pm_call hK zmm258 (143, 0, 243, 2) zM243 (1, 22) [(2, 93), (0, 1), (0, K j)] [] rfl rfl rfl rfl ⟨by omega, by rw [zn243]; omega⟩ (zg_put hK (c := 1) (v := (K j)) hT hlm ⟨by omega, by omega⟩ ⟨by omega, by omega⟩ ⟨by omega, by omega⟩ hb94 ⟨Nat.le_refl _, Nat.le_refl _⟩) (fun st11 μc11 hp11 => ?_)
      obtain ⟨rfl, hTc11, ep11⟩ := hp11
      have ep := ep11
      have w8 : μc11 88 8 = j := by rw [ep, pm_up_off (by decide)]; exact q5
      have w94 : μc11 94 = zpu (μ 94) (ln * 4 + 1) (K j) := by rw [ep, pm_up_zpu]
      have hF := zCf_tr hF (show zCf μ μc11 from by rw [ep]; exact zCf_94 zCf_refl)
      have hc : zCq K S V n j μc11 := by rw [ep]; exact zCl_o hc (by decide)
      have f7 := zT_get hTc11 zs88_8 (i := 8) (by omega) (by omega)
      refine pm_blk hK zmm258 [] 6 58 [(2, 88), (0, K j)] [] (pm_up μc11 88 8 ((μc11 88 8) + 1)) [pm_in ((μc11 88 8) + 1), sx_bit Wm 88 = true] rfl ⟨pm_in_mk (by omega) (by omega), hb88, trivial⟩ ?_
      obtain ⟨μ2, eμ2⟩ : ∃ μ', μ' = pm_up μc11 88 8 ((μc11 88 8) + 1) := ⟨_, rfl⟩
      rw [← eμ2]
      have hTμ2 : zTJ φ μ2 := by rw [eμ2]; exact zT_up hTc11 zs88_8 rfl (i := 8) (by omega) (by omega) (by omega) (by omega)
      have hc : zCq K S V n (j + 1) μ2 := zCl_8 hc eμ2 (by rw [hc.2.2.1]) ⟨by omega, by omega⟩
      have hF : zCf μ μ2 := by rw [eμ2]; exact zCf_88 hF (by omega)
      have hlm : μ2 93 2 = ln := by rw [hF.1 93 (by decide) (by decide)]; exact hln
      have hsm : μ2 88 9 = sh := by rw [hF.2 9 (by decide) (by decide) (by decide)]; exact hsh
      have hcm : μ2 88 10 = cu := by rw [hF.2 10 (by decide) (by decide) (by decide)]; exact hcu
      have w94 : μ2 94 = zpu (μ 94) (ln * 4 + 1) (K j) := by rw [eμ2, pm_up_row (by decide)]; exact w94
      refine pm_blk hK zmm258 [] 1 59 [(2, 88), (0, K j)] [(0, K j)] μ2 [] rfl trivial ?_
      have ht11 : (K j) = 306 ∨ (K j) = 323 ∨ (K j) = 324 ∨ ((K j) ≠ 306 ∧ (K j) ≠ 323 ∧ (K j) ≠ 324) := by omega
      rcases ht11 with ht11 | ht11 | ht11 | ht11
      · refine zp_lsw hK zmm258 (off := 65) (tgt := 124) rfl (by decide) (by rw [ht11]; decide) (by decide) ?_
        have f8 := zT_get hTμ2 zs88_9 (i := 9) (by omega) (by omega)
        refine pm_blk hK zmm258 [] 7 133 [(2, 88), (0, K j)] [(0, (μ2 88 9) - 1), (0, 0), (0, 2), (2, 88)] μ2 [pm_in ((μ2 88 9) - 1)] rfl ⟨pm_in_mk (by omega) (by omega), trivial⟩ ?_
        refine pm_call hK zmm258 (146, 0, 256, 3) zM256 (2, 45) [(2, 88), (0, 2), (0, 0), (0, (μ2 88 9) - 1)] [] rfl rfl rfl rfl ⟨by omega, by rw [zn256]; omega⟩ (zg_num hK (c := 2) (lo := 0) (hi := ((μ2 88 9) - 1)) (j := j + 1) (j1 := j + 2) hc hKn (by omega) hTμ2 hlm ⟨by omega, by omega⟩ ⟨by omega, by omega⟩ (by omega) (by omega) hb88 hb94 ⟨Nat.le_refl _, Nat.le_refl _⟩) (fun st12 μc12 hp12 => ?_)
        obtain ⟨x12, rfl, hTc12, hC12, hA12, hB12⟩ := hp12
        have hx1201 : x12 = 0 ∨ x12 = 1 := by by_cases h9 : x12 = 0; exact Or.inl h9; exact Or.inr (hA12 h9).1
        have hF := zCf_tr hF hC12
        have hA := hA12
        have hB := hB12
        have hl12 : μc12 93 2 = ln := by rw [hC12.1 93 (by decide) (by decide)]; exact hlm
        have hlm := hl12
        have hs12 : μc12 88 9 = sh := by rw [hC12.2 9 (by decide) (by decide) (by decide)]; exact hsm
        have hsm := hs12
        have hd12 : μc12 88 10 = cu := by rw [hC12.2 10 (by decide) (by decide) (by decide)]; exact hcm
        have hcm := hd12
        refine pm_if hK zmm258 .eq 18 154 rfl rfl (fun h12 => ?_) (fun h12 => ?_)
        · have h12 : x12 = (0 : Int) := h12
          refine pm_blk hK zmm258 [] 1 155 [(2, 88), (0, K j)] [(0, 0)] μc12 [] rfl trivial ?_
          first
          | (obtain ⟨f, f1, f2⟩ := hB h12; exact pm_zret rfl rfl (by first | exact Or.inl rfl | exact Or.inr rfl | omega) ⟨0, f, j + 1, rfl, hTc12, hF, zPd_1 hkk f1 (by omega), Or.inr ⟨rfl, zf12 f1, f2⟩⟩)
          | (obtain ⟨f, f1, f2⟩ := hB h12; exact pm_zret rfl rfl (by first | exact Or.inl rfl | exact Or.inr rfl | omega) ⟨0, f, j + 2, rfl, hTc12, hF, zPd_2 hkk b1 (by omega) f1 (by omega), Or.inr ⟨rfl, zf12 f1, f2⟩⟩)
          | exact pm_zret rfl rfl (by first | exact Or.inl rfl | exact Or.inr rfl | omega) ⟨1, 0, j + 3, rfl, hTc12, hF, zPd_3 hkk b1 (by omega) b2 (by omega), Or.inl ⟨rfl, rfl, hc, by rw [m2, m1, w94]⟩⟩
          | (exfalso; omega)
        · have h12 : x12 ≠ (0 : Int) := h12
          obtain ⟨-, b1, hc, m1⟩ := hA h12
          refine pm_blk hK zmm258 [] 4 144 [(2, 88), (0, K j)] [(0, 99), (0, 1), (0, 3), (2, 88)] μc12 [] rfl trivial ?_
          refine pm_call hK zmm258 (146, 0, 256, 3) zM256 (2, 45) [(2, 88), (0, 3), (0, 1), (0, 99)] [] rfl rfl rfl rfl ⟨by omega, by rw [zn256]; omega⟩ (zg_num hK (c := 3) (lo := 1) (hi := 99) (j := j + 2) (j1 := j + 3) hc hKn (by omega) hTc12 hlm ⟨by omega, by omega⟩ ⟨by omega, by omega⟩ (by omega) (by omega) hb88 hb94 ⟨Nat.le_refl _, Nat.le_refl _⟩) (fun st13 μc13 hp13 => ?_)
          obtain ⟨x13, rfl, hTc13, hC13, hA13, hB13⟩ := hp13
          have hx1301 : x13 = 0 ∨ x13 = 1 := by by_cases h9 : x13 = 0; exact Or.inl h9; exact Or.inr (hA13 h9).1
          have hF := zCf_tr hF hC13
          have hA := hA13
          have hB := hB13
          have hl13 : μc13 93 2 = ln := by rw [hC13.1 93 (by decide) (by decide)]; exact hlm
          have hlm := hl13
          have hs13 : μc13 88 9 = sh := by rw [hC13.2 9 (by decide) (by decide) (by decide)]; exact hsm
          have hsm := hs13
          have hd13 : μc13 88 10 = cu := by rw [hC13.2 10 (by decide) (by decide) (by decide)]; exact hcm
          have hcm := hd13
          refine pm_if hK zmm258 .eq 7 154 rfl rfl (fun h13 => ?_) (fun h13 => ?_)
          · have h13 : x13 = (0 : Int) := h13
            refine pm_blk hK zmm258 [] 1 155 [(2, 88), (0, K j)] [(0, 0)] μc13 [] rfl trivial ?_
            first
            | (obtain ⟨f, f1, f2⟩ := hB h13; exact pm_zret rfl rfl (by first | exact Or.inl rfl | exact Or.inr rfl | omega) ⟨0, f, j + 1, rfl, hTc13, hF, zPd_1 hkk f1 (by omega), Or.inr ⟨rfl, zf12 f1, f2⟩⟩)
            | (obtain ⟨f, f1, f2⟩ := hB h13; exact pm_zret rfl rfl (by first | exact Or.inl rfl | exact Or.inr rfl | omega) ⟨0, f, j + 2, rfl, hTc13, hF, zPd_2 hkk b1 (by omega) f1 (by omega), Or.inr ⟨rfl, zf12 f1, f2⟩⟩)
            | exact pm_zret rfl rfl (by first | exact Or.inl rfl | exact Or.inr rfl | omega) ⟨1, 0, j + 3, rfl, hTc13, hF, zPd_3 hkk b1 (by omega) b2 (by omega), Or.inl ⟨rfl, rfl, hc, by rw [m2, m1, w94]⟩⟩
            | (exfalso; omega)
          · have h13 : x13 ≠ (0 : Int) := h13
            obtain ⟨-, b2, hc, m2⟩ := hA h13
            refine pm_blk hK zmm258 [] 2 155 [(2, 88), (0, K j)] [(0, 1)] μc13 [] rfl trivial ?_
            first
            | (obtain ⟨f, f1, f2⟩ := hB h13; exact pm_zret rfl rfl (by first | exact Or.inl rfl | exact Or.inr rfl | omega) ⟨0, f, j + 1, rfl, hTc13, hF, zPd_1 hkk f1 (by omega), Or.inr ⟨rfl, zf12 f1, f2⟩⟩)
            | (obtain ⟨f, f1, f2⟩ := hB h13; exact pm_zret rfl rfl (by first | exact Or.inl rfl | exact Or.inr rfl | omega) ⟨0, f, j + 2, rfl, hTc13, hF, zPd_2 hkk b1 (by omega) f1 (by omega), Or.inr ⟨rfl, zf12 f1, f2⟩⟩)
            | exact pm_zret rfl rfl (by first | exact Or.inl rfl | exact Or.inr rfl | omega) ⟨1, 0, j + 3, rfl, hTc13, hF, zPd_3 hkk b1 (by omega) b2 (by omega), Or.inl ⟨rfl, rfl, hc, by rw [m2, m1, w94]⟩⟩
            | (exfalso; omega)
      · refine zp_lsw hK zmm258 (off := 33) (tgt := 92) rfl (by decide) (by rw [ht11]; decide) (by decide) ?_
        have f9 := zT_get hTμ2 zs88_9 (i := 9) (by omega) (by omega)
        refine pm_blk hK zmm258 [] 7 101 [(2, 88), (0, K j)] [(0, (μ2 88 9) - 1), (0, 0), (0, 2), (2, 88)] μ2 [pm_in ((μ2 88 9) - 1)] rfl ⟨pm_in_mk (by omega) (by omega), trivial⟩ ?_
        refine pm_call hK zmm258 (146, 0, 256, 3) zM256 (2, 45) [(2, 88), (0, 2), (0, 0), (0, (μ2 88 9) - 1)] [] rfl rfl rfl rfl ⟨by omega, by rw [zn256]; omega⟩ (zg_num hK (c := 2) (lo := 0) (hi := ((μ2 88 9) - 1)) (j := j + 1) (j1 := j + 2) hc hKn (by omega) hTμ2 hlm ⟨by omega, by omega⟩ ⟨by omega, by omega⟩ (by omega) (by omega) hb88 hb94 ⟨Nat.le_refl _, Nat.le_refl _⟩) (fun st14 μc14 hp14 => ?_)
        obtain ⟨x14, rfl, hTc14, hC14, hA14, hB14⟩ := hp14
        have hx1401 : x14 = 0 ∨ x14 = 1 := by by_cases h9 : x14 = 0; exact Or.inl h9; exact Or.inr (hA14 h9).1
        have hF := zCf_tr hF hC14
        have hA := hA14
        have hB := hB14
        have hl14 : μc14 93 2 = ln := by rw [hC14.1 93 (by decide) (by decide)]; exact hlm
        have hlm := hl14
        have hs14 : μc14 88 9 = sh := by rw [hC14.2 9 (by decide) (by decide) (by decide)]; exact hsm
        have hsm := hs14
        have hd14 : μc14 88 10 = cu := by rw [hC14.2 10 (by decide) (by decide) (by decide)]; exact hcm
        have hcm := hd14
        refine pm_if hK zmm258 .eq 18 122 rfl rfl (fun h14 => ?_) (fun h14 => ?_)
        · have h14 : x14 = (0 : Int) := h14
          refine pm_blk hK zmm258 [] 1 123 [(2, 88), (0, K j)] [(0, 0)] μc14 [] rfl trivial ?_
          first
          | (obtain ⟨f, f1, f2⟩ := hB h14; exact pm_zret rfl rfl (by first | exact Or.inl rfl | exact Or.inr rfl | omega) ⟨0, f, j + 1, rfl, hTc14, hF, zPd_1 hkk f1 (by omega), Or.inr ⟨rfl, zf12 f1, f2⟩⟩)
          | (obtain ⟨f, f1, f2⟩ := hB h14; exact pm_zret rfl rfl (by first | exact Or.inl rfl | exact Or.inr rfl | omega) ⟨0, f, j + 2, rfl, hTc14, hF, zPd_2 hkk b1 (by omega) f1 (by omega), Or.inr ⟨rfl, zf12 f1, f2⟩⟩)
          | exact pm_zret rfl rfl (by first | exact Or.inl rfl | exact Or.inr rfl | omega) ⟨1, 0, j + 3, rfl, hTc14, hF, zPd_3 hkk b1 (by omega) b2 (by omega), Or.inl ⟨rfl, rfl, hc, by rw [m2, m1, w94]⟩⟩
          | (exfalso; omega)
        · have h14 : x14 ≠ (0 : Int) := h14
          obtain ⟨-, b1, hc, m1⟩ := hA h14
          refine pm_blk hK zmm258 [] 4 112 [(2, 88), (0, K j)] [(0, 99), (0, 0), (0, 3), (2, 88)] μc14 [] rfl trivial ?_
          refine pm_call hK zmm258 (146, 0, 256, 3) zM256 (2, 45) [(2, 88), (0, 3), (0, 0), (0, 99)] [] rfl rfl rfl rfl ⟨by omega, by rw [zn256]; omega⟩ (zg_num hK (c := 3) (lo := 0) (hi := 99) (j := j + 2) (j1 := j + 3) hc hKn (by omega) hTc14 hlm ⟨by omega, by omega⟩ ⟨by omega, by omega⟩ (by omega) (by omega) hb88 hb94 ⟨Nat.le_refl _, Nat.le_refl _⟩) (fun st15 μc15 hp15 => ?_)
          obtain ⟨x15, rfl, hTc15, hC15, hA15, hB15⟩ := hp15
          have hx1501 : x15 = 0 ∨ x15 = 1 := by by_cases h9 : x15 = 0; exact Or.inl h9; exact Or.inr (hA15 h9).1
          have hF := zCf_tr hF hC15
          have hA := hA15
          have hB := hB15
          have hl15 : μc15 93 2 = ln := by rw [hC15.1 93 (by decide) (by decide)]; exact hlm
          have hlm := hl15
          have hs15 : μc15 88 9 = sh := by rw [hC15.2 9 (by decide) (by decide) (by decide)]; exact hsm
          have hsm := hs15
          have hd15 : μc15 88 10 = cu := by rw [hC15.2 10 (by decide) (by decide) (by decide)]; exact hcm
          have hcm := hd15
          refine pm_if hK zmm258 .eq 7 122 rfl rfl (fun h15 => ?_) (fun h15 => ?_)
          · have h15 : x15 = (0 : Int) := h15
            refine pm_blk hK zmm258 [] 1 123 [(2, 88), (0, K j)] [(0, 0)] μc15 [] rfl trivial ?_
            first
            | (obtain ⟨f, f1, f2⟩ := hB h15; exact pm_zret rfl rfl (by first | exact Or.inl rfl | exact Or.inr rfl | omega) ⟨0, f, j + 1, rfl, hTc15, hF, zPd_1 hkk f1 (by omega), Or.inr ⟨rfl, zf12 f1, f2⟩⟩)
            | (obtain ⟨f, f1, f2⟩ := hB h15; exact pm_zret rfl rfl (by first | exact Or.inl rfl | exact Or.inr rfl | omega) ⟨0, f, j + 2, rfl, hTc15, hF, zPd_2 hkk b1 (by omega) f1 (by omega), Or.inr ⟨rfl, zf12 f1, f2⟩⟩)
            | exact pm_zret rfl rfl (by first | exact Or.inl rfl | exact Or.inr rfl | omega) ⟨1, 0, j + 3, rfl, hTc15, hF, zPd_3 hkk b1 (by omega) b2 (by omega), Or.inl ⟨rfl, rfl, hc, by rw [m2, m1, w94]⟩⟩
            | (exfalso; omega)
          · have h15 : x15 ≠ (0 : Int) := h15
            obtain ⟨-, b2, hc, m2⟩ := hA h15
            refine pm_blk hK zmm258 [] 2 123 [(2, 88), (0, K j)] [(0, 1)] μc15 [] rfl trivial ?_
            first
            | (obtain ⟨f, f1, f2⟩ := hB h15; exact pm_zret rfl rfl (by first | exact Or.inl rfl | exact Or.inr rfl | omega) ⟨0, f, j + 1, rfl, hTc15, hF, zPd_1 hkk f1 (by omega), Or.inr ⟨rfl, zf12 f1, f2⟩⟩)
            | (obtain ⟨f, f1, f2⟩ := hB h15; exact pm_zret rfl rfl (by first | exact Or.inl rfl | exact Or.inr rfl | omega) ⟨0, f, j + 2, rfl, hTc15, hF, zPd_2 hkk b1 (by omega) f1 (by omega), Or.inr ⟨rfl, zf12 f1, f2⟩⟩)
            | exact pm_zret rfl rfl (by first | exact Or.inl rfl | exact Or.inr rfl | omega) ⟨1, 0, j + 3, rfl, hTc15, hF, zPd_3 hkk b1 (by omega) b2 (by omega), Or.inl ⟨rfl, rfl, hc, by rw [m2, m1, w94]⟩⟩
            | (exfalso; omega)
      · refine zp_lsw hK zmm258 (off := 97) (tgt := 156) rfl (by decide) (by rw [ht11]; decide) (by decide) ?_
        have f10 := zT_get hTμ2 zs88_10 (i := 10) (by omega) (by omega)
        refine pm_blk hK zmm258 [] 7 165 [(2, 88), (0, K j)] [(0, (μ2 88 10) - 1), (0, 0), (0, 2), (2, 88)] μ2 [pm_in ((μ2 88 10) - 1)] rfl ⟨pm_in_mk (by omega) (by omega), trivial⟩ ?_
        refine pm_call hK zmm258 (146, 0, 256, 3) zM256 (2, 45) [(2, 88), (0, 2), (0, 0), (0, (μ2 88 10) - 1)] [] rfl rfl rfl rfl ⟨by omega, by rw [zn256]; omega⟩ (zg_num hK (c := 2) (lo := 0) (hi := ((μ2 88 10) - 1)) (j := j + 1) (j1 := j + 2) hc hKn (by omega) hTμ2 hlm ⟨by omega, by omega⟩ ⟨by omega, by omega⟩ (by omega) (by omega) hb88 hb94 ⟨Nat.le_refl _, Nat.le_refl _⟩) (fun st16 μc16 hp16 => ?_)
        obtain ⟨x16, rfl, hTc16, hC16, hA16, hB16⟩ := hp16
        have hx1601 : x16 = 0 ∨ x16 = 1 := by by_cases h9 : x16 = 0; exact Or.inl h9; exact Or.inr (hA16 h9).1
        have hF := zCf_tr hF hC16
        have hA := hA16
        have hB := hB16
        have hl16 : μc16 93 2 = ln := by rw [hC16.1 93 (by decide) (by decide)]; exact hlm
        have hlm := hl16
        have hs16 : μc16 88 9 = sh := by rw [hC16.2 9 (by decide) (by decide) (by decide)]; exact hsm
        have hsm := hs16
        have hd16 : μc16 88 10 = cu := by rw [hC16.2 10 (by decide) (by decide) (by decide)]; exact hcm
        have hcm := hd16
        refine pm_if hK zmm258 .eq 19 187 rfl rfl (fun h16 => ?_) (fun h16 => ?_)
        · have h16 : x16 = (0 : Int) := h16
          refine pm_blk hK zmm258 [] 1 188 [(2, 88), (0, K j)] [(0, 0)] μc16 [] rfl trivial ?_
          first
          | (obtain ⟨f, f1, f2⟩ := hB h16; exact pm_zret rfl rfl (by first | exact Or.inl rfl | exact Or.inr rfl | omega) ⟨0, f, j + 1, rfl, hTc16, hF, zPd_1 hkk f1 (by omega), Or.inr ⟨rfl, zf12 f1, f2⟩⟩)
          | (obtain ⟨f, f1, f2⟩ := hB h16; exact pm_zret rfl rfl (by first | exact Or.inl rfl | exact Or.inr rfl | omega) ⟨0, f, j + 2, rfl, hTc16, hF, zPd_2 hkk b1 (by omega) f1 (by omega), Or.inr ⟨rfl, zf12 f1, f2⟩⟩)
          | exact pm_zret rfl rfl (by first | exact Or.inl rfl | exact Or.inr rfl | omega) ⟨1, 0, j + 3, rfl, hTc16, hF, zPd_3 hkk b1 (by omega) b2 (by omega), Or.inl ⟨rfl, rfl, hc, by rw [m2, m1, w94]⟩⟩
          | (exfalso; omega)
        · have h16 : x16 ≠ (0 : Int) := h16
          obtain ⟨-, b1, hc, m1⟩ := hA h16
          refine pm_blk hK zmm258 [] 4 177 [(2, 88), (0, K j)] [(0, 999), (0, 1), (0, 3), (2, 88)] μc16 [] rfl trivial ?_
          refine pm_call hK zmm258 (146, 0, 256, 3) zM256 (2, 45) [(2, 88), (0, 3), (0, 1), (0, 999)] [] rfl rfl rfl rfl ⟨by omega, by rw [zn256]; omega⟩ (zg_num hK (c := 3) (lo := 1) (hi := 999) (j := j + 2) (j1 := j + 3) hc hKn (by omega) hTc16 hlm ⟨by omega, by omega⟩ ⟨by omega, by omega⟩ (by omega) (by omega) hb88 hb94 ⟨Nat.le_refl _, Nat.le_refl _⟩) (fun st17 μc17 hp17 => ?_)
          obtain ⟨x17, rfl, hTc17, hC17, hA17, hB17⟩ := hp17
          have hx1701 : x17 = 0 ∨ x17 = 1 := by by_cases h9 : x17 = 0; exact Or.inl h9; exact Or.inr (hA17 h9).1
          have hF := zCf_tr hF hC17
          have hA := hA17
          have hB := hB17
          have hl17 : μc17 93 2 = ln := by rw [hC17.1 93 (by decide) (by decide)]; exact hlm
          have hlm := hl17
          have hs17 : μc17 88 9 = sh := by rw [hC17.2 9 (by decide) (by decide) (by decide)]; exact hsm
          have hsm := hs17
          have hd17 : μc17 88 10 = cu := by rw [hC17.2 10 (by decide) (by decide) (by decide)]; exact hcm
          have hcm := hd17
          refine pm_if hK zmm258 .eq 7 187 rfl rfl (fun h17 => ?_) (fun h17 => ?_)
          · have h17 : x17 = (0 : Int) := h17
            refine pm_blk hK zmm258 [] 1 188 [(2, 88), (0, K j)] [(0, 0)] μc17 [] rfl trivial ?_
            first
            | (obtain ⟨f, f1, f2⟩ := hB h17; exact pm_zret rfl rfl (by first | exact Or.inl rfl | exact Or.inr rfl | omega) ⟨0, f, j + 1, rfl, hTc17, hF, zPd_1 hkk f1 (by omega), Or.inr ⟨rfl, zf12 f1, f2⟩⟩)
            | (obtain ⟨f, f1, f2⟩ := hB h17; exact pm_zret rfl rfl (by first | exact Or.inl rfl | exact Or.inr rfl | omega) ⟨0, f, j + 2, rfl, hTc17, hF, zPd_2 hkk b1 (by omega) f1 (by omega), Or.inr ⟨rfl, zf12 f1, f2⟩⟩)
            | exact pm_zret rfl rfl (by first | exact Or.inl rfl | exact Or.inr rfl | omega) ⟨1, 0, j + 3, rfl, hTc17, hF, zPd_3 hkk b1 (by omega) b2 (by omega), Or.inl ⟨rfl, rfl, hc, by rw [m2, m1, w94]⟩⟩
            | (exfalso; omega)
          · have h17 : x17 ≠ (0 : Int) := h17
            obtain ⟨-, b2, hc, m2⟩ := hA h17
            refine pm_blk hK zmm258 [] 2 188 [(2, 88), (0, K j)] [(0, 1)] μc17 [] rfl trivial ?_
            first
            | (obtain ⟨f, f1, f2⟩ := hB h17; exact pm_zret rfl rfl (by first | exact Or.inl rfl | exact Or.inr rfl | omega) ⟨0, f, j + 1, rfl, hTc17, hF, zPd_1 hkk f1 (by omega), Or.inr ⟨rfl, zf12 f1, f2⟩⟩)
            | (obtain ⟨f, f1, f2⟩ := hB h17; exact pm_zret rfl rfl (by first | exact Or.inl rfl | exact Or.inr rfl | omega) ⟨0, f, j + 2, rfl, hTc17, hF, zPd_2 hkk b1 (by omega) f1 (by omega), Or.inr ⟨rfl, zf12 f1, f2⟩⟩)
            | exact pm_zret rfl rfl (by first | exact Or.inl rfl | exact Or.inr rfl | omega) ⟨1, 0, j + 3, rfl, hTc17, hF, zPd_3 hkk b1 (by omega) b2 (by omega), Or.inl ⟨rfl, rfl, hc, by rw [m2, m1, w94]⟩⟩
            | (exfalso; omega)
      · refine zp_lsw hK zmm258 (off := 130) (tgt := 189) rfl (by decide) (by rw [Op.lookupswitch.offset_cons, if_neg (show ¬ (306 : Int) = (K j) by omega), Op.lookupswitch.offset_cons, if_neg (show ¬ (323 : Int) = (K j) by omega), Op.lookupswitch.offset_cons, if_neg (show ¬ (324 : Int) = (K j) by omega)]; rfl) (by decide) ?_
        have f11 := zT_get hTμ2 zs88_9 (i := 9) (by omega) (by omega)
        refine pm_blk hK zmm258 [] 7 198 [(2, 88), (0, K j)] [(0, (μ2 88 9) - 1), (0, 0), (0, 2), (2, 88)] μ2 [pm_in ((μ2 88 9) - 1)] rfl ⟨pm_in_mk (by omega) (by omega), trivial⟩ ?_
        refine pm_call hK zmm258 (146, 0, 256, 3) zM256 (2, 45) [(2, 88), (0, 2), (0, 0), (0, (μ2 88 9) - 1)] [] rfl rfl rfl rfl ⟨by omega, by rw [zn256]; omega⟩ (zg_num hK (c := 2) (lo := 0) (hi := ((μ2 88 9) - 1)) (j := j + 1) (j1 := j + 2) hc hKn (by omega) hTμ2 hlm ⟨by omega, by omega⟩ ⟨by omega, by omega⟩ (by omega) (by omega) hb88 hb94 ⟨Nat.le_refl _, Nat.le_refl _⟩) (fun st18 μc18 hp18 => ?_)
        obtain ⟨x18, rfl, hTc18, hC18, hA18, hB18⟩ := hp18
        have hx1801 : x18 = 0 ∨ x18 = 1 := by by_cases h9 : x18 = 0; exact Or.inl h9; exact Or.inr (hA18 h9).1
        have hF := zCf_tr hF hC18
        have hA := hA18
        have hB := hB18
        have hl18 : μc18 93 2 = ln := by rw [hC18.1 93 (by decide) (by decide)]; exact hlm
        have hlm := hl18
        have hs18 : μc18 88 9 = sh := by rw [hC18.2 9 (by decide) (by decide) (by decide)]; exact hsm
        have hsm := hs18
        have hd18 : μc18 88 10 = cu := by rw [hC18.2 10 (by decide) (by decide) (by decide)]; exact hcm
        have hcm := hd18
        refine pm_if hK zmm258 .eq 22 223 rfl rfl (fun h18 => ?_) (fun h18 => ?_)
        · have h18 : x18 = (0 : Int) := h18
          refine pm_blk hK zmm258 [] 1 224 [(2, 88), (0, K j)] [(0, 0)] μc18 [] rfl trivial ?_
          first
          | (obtain ⟨f, f1, f2⟩ := hB h18; exact pm_zret rfl rfl (by first | exact Or.inl rfl | exact Or.inr rfl | omega) ⟨0, f, j + 1, rfl, hTc18, hF, zPd_1 hkk f1 (by omega), Or.inr ⟨rfl, zf12 f1, f2⟩⟩)
          | (obtain ⟨f, f1, f2⟩ := hB h18; exact pm_zret rfl rfl (by first | exact Or.inl rfl | exact Or.inr rfl | omega) ⟨0, f, j + 2, rfl, hTc18, hF, zPd_2 hkk b1 (by omega) f1 (by omega), Or.inr ⟨rfl, zf12 f1, f2⟩⟩)
          | exact pm_zret rfl rfl (by first | exact Or.inl rfl | exact Or.inr rfl | omega) ⟨1, 0, j + 3, rfl, hTc18, hF, zPd_3 hkk b1 (by omega) b2 (by omega), Or.inl ⟨rfl, rfl, hc, by rw [m2, m1, w94]⟩⟩
          | (exfalso; omega)
        · have h18 : x18 ≠ (0 : Int) := h18
          obtain ⟨-, b1, hc, m1⟩ := hA h18
          have f12 := zT_get hTc18 zs88_10 (i := 10) (by omega) (by omega)
          refine pm_blk hK zmm258 [] 7 213 [(2, 88), (0, K j)] [(0, (μc18 88 10) - 1), (0, 0), (0, 3), (2, 88)] μc18 [pm_in ((μc18 88 10) - 1)] rfl ⟨pm_in_mk (by omega) (by omega), trivial⟩ ?_
          refine pm_call hK zmm258 (146, 0, 256, 3) zM256 (2, 45) [(2, 88), (0, 3), (0, 0), (0, (μc18 88 10) - 1)] [] rfl rfl rfl rfl ⟨by omega, by rw [zn256]; omega⟩ (zg_num hK (c := 3) (lo := 0) (hi := ((μc18 88 10) - 1)) (j := j + 2) (j1 := j + 3) hc hKn (by omega) hTc18 hlm ⟨by omega, by omega⟩ ⟨by omega, by omega⟩ (by omega) (by omega) hb88 hb94 ⟨Nat.le_refl _, Nat.le_refl _⟩) (fun st19 μc19 hp19 => ?_)
          obtain ⟨x19, rfl, hTc19, hC19, hA19, hB19⟩ := hp19
          have hx1901 : x19 = 0 ∨ x19 = 1 := by by_cases h9 : x19 = 0; exact Or.inl h9; exact Or.inr (hA19 h9).1
          have hF := zCf_tr hF hC19
          have hA := hA19
          have hB := hB19
          have hl19 : μc19 93 2 = ln := by rw [hC19.1 93 (by decide) (by decide)]; exact hlm
          have hlm := hl19
          have hs19 : μc19 88 9 = sh := by rw [hC19.2 9 (by decide) (by decide) (by decide)]; exact hsm
          have hsm := hs19
          have hd19 : μc19 88 10 = cu := by rw [hC19.2 10 (by decide) (by decide) (by decide)]; exact hcm
          have hcm := hd19
          refine pm_if hK zmm258 .eq 7 223 rfl rfl (fun h19 => ?_) (fun h19 => ?_)
          · have h19 : x19 = (0 : Int) := h19
            refine pm_blk hK zmm258 [] 1 224 [(2, 88), (0, K j)] [(0, 0)] μc19 [] rfl trivial ?_
            first
            | (obtain ⟨f, f1, f2⟩ := hB h19; exact pm_zret rfl rfl (by first | exact Or.inl rfl | exact Or.inr rfl | omega) ⟨0, f, j + 1, rfl, hTc19, hF, zPd_1 hkk f1 (by omega), Or.inr ⟨rfl, zf12 f1, f2⟩⟩)
            | (obtain ⟨f, f1, f2⟩ := hB h19; exact pm_zret rfl rfl (by first | exact Or.inl rfl | exact Or.inr rfl | omega) ⟨0, f, j + 2, rfl, hTc19, hF, zPd_2 hkk b1 (by omega) f1 (by omega), Or.inr ⟨rfl, zf12 f1, f2⟩⟩)
            | exact pm_zret rfl rfl (by first | exact Or.inl rfl | exact Or.inr rfl | omega) ⟨1, 0, j + 3, rfl, hTc19, hF, zPd_3 hkk b1 (by omega) b2 (by omega), Or.inl ⟨rfl, rfl, hc, by rw [m2, m1, w94]⟩⟩
            | (exfalso; omega)
          · have h19 : x19 ≠ (0 : Int) := h19
            obtain ⟨-, b2, hc, m2⟩ := hA h19
            refine pm_blk hK zmm258 [] 2 224 [(2, 88), (0, K j)] [(0, 1)] μc19 [] rfl trivial ?_
            first
            | (obtain ⟨f, f1, f2⟩ := hB h19; exact pm_zret rfl rfl (by first | exact Or.inl rfl | exact Or.inr rfl | omega) ⟨0, f, j + 1, rfl, hTc19, hF, zPd_1 hkk f1 (by omega), Or.inr ⟨rfl, zf12 f1, f2⟩⟩)
            | (obtain ⟨f, f1, f2⟩ := hB h19; exact pm_zret rfl rfl (by first | exact Or.inl rfl | exact Or.inr rfl | omega) ⟨0, f, j + 2, rfl, hTc19, hF, zPd_2 hkk b1 (by omega) f1 (by omega), Or.inr ⟨rfl, zf12 f1, f2⟩⟩)
            | exact pm_zret rfl rfl (by first | exact Or.inl rfl | exact Or.inr rfl | omega) ⟨1, 0, j + 3, rfl, hTc19, hF, zPd_3 hkk b1 (by omega) b2 (by omega), Or.inl ⟨rfl, rfl, hc, by rw [m2, m1, w94]⟩⟩
            | (exfalso; omega)
    · have h10 : K j ≠ (306 : Int) := h10
      refine pm_blk hK zmm258 [] 2 23 [(2, 88), (0, K j)] [(0, 324), (0, K j)] μ [] rfl trivial ?_
      refine pm_icmp hK zmm258 .eq 16 39 rfl rfl (fun h20 => ?_) (fun h20 => ?_)
      · have h20 : K j = (324 : Int) := h20
        have hkk : K j = 323 ∨ K j = 306 ∨ K j = 324 ∨ K j = 325 := by omega
        have hjn : j ≠ n := fun he => by rw [he, hKn] at hkk; omega
        refine pm_blk hK zmm258 [] 4 45 [(2, 88), (0, K j)] [(0, K j), (0, 1), (2, 93)] μ [] rfl trivial ?_
        refine pm_call hK zmm258 (143, 0, 243, 2) zM243 (1, 22) [(2, 93), (0, 1), (0, K j)] [] rfl rfl rfl rfl ⟨by omega, by rw [zn243]; omega⟩ (zg_put hK (c := 1) (v := (K j)) hT hlm ⟨by omega, by omega⟩ ⟨by omega, by omega⟩ ⟨by omega, by omega⟩ hb94 ⟨Nat.le_refl _, Nat.le_refl _⟩) (fun st20 μc20 hp20 => ?_)
        obtain ⟨rfl, hTc20, ep20⟩ := hp20
        have ep := ep20
        have w8 : μc20 88 8 = j := by rw [ep, pm_up_off (by decide)]; exact q5
        have w94 : μc20 94 = zpu (μ 94) (ln * 4 + 1) (K j) := by rw [ep, pm_up_zpu]
        have hF := zCf_tr hF (show zCf μ μc20 from by rw [ep]; exact zCf_94 zCf_refl)
        have hc : zCq K S V n j μc20 := by rw [ep]; exact zCl_o hc (by decide)
        have f13 := zT_get hTc20 zs88_8 (i := 8) (by omega) (by omega)
        refine pm_blk hK zmm258 [] 6 58 [(2, 88), (0, K j)] [] (pm_up μc20 88 8 ((μc20 88 8) + 1)) [pm_in ((μc20 88 8) + 1), sx_bit Wm 88 = true] rfl ⟨pm_in_mk (by omega) (by omega), hb88, trivial⟩ ?_
        obtain ⟨μ3, eμ3⟩ : ∃ μ', μ' = pm_up μc20 88 8 ((μc20 88 8) + 1) := ⟨_, rfl⟩
        rw [← eμ3]
        have hTμ3 : zTJ φ μ3 := by rw [eμ3]; exact zT_up hTc20 zs88_8 rfl (i := 8) (by omega) (by omega) (by omega) (by omega)
        have hc : zCq K S V n (j + 1) μ3 := zCl_8 hc eμ3 (by rw [hc.2.2.1]) ⟨by omega, by omega⟩
        have hF : zCf μ μ3 := by rw [eμ3]; exact zCf_88 hF (by omega)
        have hlm : μ3 93 2 = ln := by rw [hF.1 93 (by decide) (by decide)]; exact hln
        have hsm : μ3 88 9 = sh := by rw [hF.2 9 (by decide) (by decide) (by decide)]; exact hsh
        have hcm : μ3 88 10 = cu := by rw [hF.2 10 (by decide) (by decide) (by decide)]; exact hcu
        have w94 : μ3 94 = zpu (μ 94) (ln * 4 + 1) (K j) := by rw [eμ3, pm_up_row (by decide)]; exact w94
        refine pm_blk hK zmm258 [] 1 59 [(2, 88), (0, K j)] [(0, K j)] μ3 [] rfl trivial ?_
        have ht21 : (K j) = 306 ∨ (K j) = 323 ∨ (K j) = 324 ∨ ((K j) ≠ 306 ∧ (K j) ≠ 323 ∧ (K j) ≠ 324) := by omega
        rcases ht21 with ht21 | ht21 | ht21 | ht21
        · refine zp_lsw hK zmm258 (off := 65) (tgt := 124) rfl (by decide) (by rw [ht21]; decide) (by decide) ?_
          have f14 := zT_get hTμ3 zs88_9 (i := 9) (by omega) (by omega)
          refine pm_blk hK zmm258 [] 7 133 [(2, 88), (0, K j)] [(0, (μ3 88 9) - 1), (0, 0), (0, 2), (2, 88)] μ3 [pm_in ((μ3 88 9) - 1)] rfl ⟨pm_in_mk (by omega) (by omega), trivial⟩ ?_
          refine pm_call hK zmm258 (146, 0, 256, 3) zM256 (2, 45) [(2, 88), (0, 2), (0, 0), (0, (μ3 88 9) - 1)] [] rfl rfl rfl rfl ⟨by omega, by rw [zn256]; omega⟩ (zg_num hK (c := 2) (lo := 0) (hi := ((μ3 88 9) - 1)) (j := j + 1) (j1 := j + 2) hc hKn (by omega) hTμ3 hlm ⟨by omega, by omega⟩ ⟨by omega, by omega⟩ (by omega) (by omega) hb88 hb94 ⟨Nat.le_refl _, Nat.le_refl _⟩) (fun st21 μc21 hp21 => ?_)
          obtain ⟨x21, rfl, hTc21, hC21, hA21, hB21⟩ := hp21
          have hx2101 : x21 = 0 ∨ x21 = 1 := by by_cases h9 : x21 = 0; exact Or.inl h9; exact Or.inr (hA21 h9).1
          have hF := zCf_tr hF hC21
          have hA := hA21
          have hB := hB21
          have hl21 : μc21 93 2 = ln := by rw [hC21.1 93 (by decide) (by decide)]; exact hlm
          have hlm := hl21
          have hs21 : μc21 88 9 = sh := by rw [hC21.2 9 (by decide) (by decide) (by decide)]; exact hsm
          have hsm := hs21
          have hd21 : μc21 88 10 = cu := by rw [hC21.2 10 (by decide) (by decide) (by decide)]; exact hcm
          have hcm := hd21
          refine pm_if hK zmm258 .eq 18 154 rfl rfl (fun h22 => ?_) (fun h22 => ?_)
          · have h22 : x21 = (0 : Int) := h22
            refine pm_blk hK zmm258 [] 1 155 [(2, 88), (0, K j)] [(0, 0)] μc21 [] rfl trivial ?_
            first
            | (obtain ⟨f, f1, f2⟩ := hB h22; exact pm_zret rfl rfl (by first | exact Or.inl rfl | exact Or.inr rfl | omega) ⟨0, f, j + 1, rfl, hTc21, hF, zPd_1 hkk f1 (by omega), Or.inr ⟨rfl, zf12 f1, f2⟩⟩)
            | (obtain ⟨f, f1, f2⟩ := hB h22; exact pm_zret rfl rfl (by first | exact Or.inl rfl | exact Or.inr rfl | omega) ⟨0, f, j + 2, rfl, hTc21, hF, zPd_2 hkk b1 (by omega) f1 (by omega), Or.inr ⟨rfl, zf12 f1, f2⟩⟩)
            | exact pm_zret rfl rfl (by first | exact Or.inl rfl | exact Or.inr rfl | omega) ⟨1, 0, j + 3, rfl, hTc21, hF, zPd_3 hkk b1 (by omega) b2 (by omega), Or.inl ⟨rfl, rfl, hc, by rw [m2, m1, w94]⟩⟩
            | (exfalso; omega)
          · have h22 : x21 ≠ (0 : Int) := h22
            obtain ⟨-, b1, hc, m1⟩ := hA h22
            refine pm_blk hK zmm258 [] 4 144 [(2, 88), (0, K j)] [(0, 99), (0, 1), (0, 3), (2, 88)] μc21 [] rfl trivial ?_
            refine pm_call hK zmm258 (146, 0, 256, 3) zM256 (2, 45) [(2, 88), (0, 3), (0, 1), (0, 99)] [] rfl rfl rfl rfl ⟨by omega, by rw [zn256]; omega⟩ (zg_num hK (c := 3) (lo := 1) (hi := 99) (j := j + 2) (j1 := j + 3) hc hKn (by omega) hTc21 hlm ⟨by omega, by omega⟩ ⟨by omega, by omega⟩ (by omega) (by omega) hb88 hb94 ⟨Nat.le_refl _, Nat.le_refl _⟩) (fun st22 μc22 hp22 => ?_)
            obtain ⟨x22, rfl, hTc22, hC22, hA22, hB22⟩ := hp22
            have hx2201 : x22 = 0 ∨ x22 = 1 := by by_cases h9 : x22 = 0; exact Or.inl h9; exact Or.inr (hA22 h9).1
            have hF := zCf_tr hF hC22
            have hA := hA22
            have hB := hB22
            have hl22 : μc22 93 2 = ln := by rw [hC22.1 93 (by decide) (by decide)]; exact hlm
            have hlm := hl22
            have hs22 : μc22 88 9 = sh := by rw [hC22.2 9 (by decide) (by decide) (by decide)]; exact hsm
            have hsm := hs22
            have hd22 : μc22 88 10 = cu := by rw [hC22.2 10 (by decide) (by decide) (by decide)]; exact hcm
            have hcm := hd22
            refine pm_if hK zmm258 .eq 7 154 rfl rfl (fun h23 => ?_) (fun h23 => ?_)
            · have h23 : x22 = (0 : Int) := h23
              refine pm_blk hK zmm258 [] 1 155 [(2, 88), (0, K j)] [(0, 0)] μc22 [] rfl trivial ?_
              first
              | (obtain ⟨f, f1, f2⟩ := hB h23; exact pm_zret rfl rfl (by first | exact Or.inl rfl | exact Or.inr rfl | omega) ⟨0, f, j + 1, rfl, hTc22, hF, zPd_1 hkk f1 (by omega), Or.inr ⟨rfl, zf12 f1, f2⟩⟩)
              | (obtain ⟨f, f1, f2⟩ := hB h23; exact pm_zret rfl rfl (by first | exact Or.inl rfl | exact Or.inr rfl | omega) ⟨0, f, j + 2, rfl, hTc22, hF, zPd_2 hkk b1 (by omega) f1 (by omega), Or.inr ⟨rfl, zf12 f1, f2⟩⟩)
              | exact pm_zret rfl rfl (by first | exact Or.inl rfl | exact Or.inr rfl | omega) ⟨1, 0, j + 3, rfl, hTc22, hF, zPd_3 hkk b1 (by omega) b2 (by omega), Or.inl ⟨rfl, rfl, hc, by rw [m2, m1, w94]⟩⟩
              | (exfalso; omega)
            · have h23 : x22 ≠ (0 : Int) := h23
              obtain ⟨-, b2, hc, m2⟩ := hA h23
              refine pm_blk hK zmm258 [] 2 155 [(2, 88), (0, K j)] [(0, 1)] μc22 [] rfl trivial ?_
              first
              | (obtain ⟨f, f1, f2⟩ := hB h23; exact pm_zret rfl rfl (by first | exact Or.inl rfl | exact Or.inr rfl | omega) ⟨0, f, j + 1, rfl, hTc22, hF, zPd_1 hkk f1 (by omega), Or.inr ⟨rfl, zf12 f1, f2⟩⟩)
              | (obtain ⟨f, f1, f2⟩ := hB h23; exact pm_zret rfl rfl (by first | exact Or.inl rfl | exact Or.inr rfl | omega) ⟨0, f, j + 2, rfl, hTc22, hF, zPd_2 hkk b1 (by omega) f1 (by omega), Or.inr ⟨rfl, zf12 f1, f2⟩⟩)
              | exact pm_zret rfl rfl (by first | exact Or.inl rfl | exact Or.inr rfl | omega) ⟨1, 0, j + 3, rfl, hTc22, hF, zPd_3 hkk b1 (by omega) b2 (by omega), Or.inl ⟨rfl, rfl, hc, by rw [m2, m1, w94]⟩⟩
              | (exfalso; omega)
        · refine zp_lsw hK zmm258 (off := 33) (tgt := 92) rfl (by decide) (by rw [ht21]; decide) (by decide) ?_
          have f15 := zT_get hTμ3 zs88_9 (i := 9) (by omega) (by omega)
          refine pm_blk hK zmm258 [] 7 101 [(2, 88), (0, K j)] [(0, (μ3 88 9) - 1), (0, 0), (0, 2), (2, 88)] μ3 [pm_in ((μ3 88 9) - 1)] rfl ⟨pm_in_mk (by omega) (by omega), trivial⟩ ?_
          refine pm_call hK zmm258 (146, 0, 256, 3) zM256 (2, 45) [(2, 88), (0, 2), (0, 0), (0, (μ3 88 9) - 1)] [] rfl rfl rfl rfl ⟨by omega, by rw [zn256]; omega⟩ (zg_num hK (c := 2) (lo := 0) (hi := ((μ3 88 9) - 1)) (j := j + 1) (j1 := j + 2) hc hKn (by omega) hTμ3 hlm ⟨by omega, by omega⟩ ⟨by omega, by omega⟩ (by omega) (by omega) hb88 hb94 ⟨Nat.le_refl _, Nat.le_refl _⟩) (fun st23 μc23 hp23 => ?_)
          obtain ⟨x23, rfl, hTc23, hC23, hA23, hB23⟩ := hp23
          have hx2301 : x23 = 0 ∨ x23 = 1 := by by_cases h9 : x23 = 0; exact Or.inl h9; exact Or.inr (hA23 h9).1
          have hF := zCf_tr hF hC23
          have hA := hA23
          have hB := hB23
          have hl23 : μc23 93 2 = ln := by rw [hC23.1 93 (by decide) (by decide)]; exact hlm
          have hlm := hl23
          have hs23 : μc23 88 9 = sh := by rw [hC23.2 9 (by decide) (by decide) (by decide)]; exact hsm
          have hsm := hs23
          have hd23 : μc23 88 10 = cu := by rw [hC23.2 10 (by decide) (by decide) (by decide)]; exact hcm
          have hcm := hd23
          refine pm_if hK zmm258 .eq 18 122 rfl rfl (fun h24 => ?_) (fun h24 => ?_)
          · have h24 : x23 = (0 : Int) := h24
            refine pm_blk hK zmm258 [] 1 123 [(2, 88), (0, K j)] [(0, 0)] μc23 [] rfl trivial ?_
            first
            | (obtain ⟨f, f1, f2⟩ := hB h24; exact pm_zret rfl rfl (by first | exact Or.inl rfl | exact Or.inr rfl | omega) ⟨0, f, j + 1, rfl, hTc23, hF, zPd_1 hkk f1 (by omega), Or.inr ⟨rfl, zf12 f1, f2⟩⟩)
            | (obtain ⟨f, f1, f2⟩ := hB h24; exact pm_zret rfl rfl (by first | exact Or.inl rfl | exact Or.inr rfl | omega) ⟨0, f, j + 2, rfl, hTc23, hF, zPd_2 hkk b1 (by omega) f1 (by omega), Or.inr ⟨rfl, zf12 f1, f2⟩⟩)
            | exact pm_zret rfl rfl (by first | exact Or.inl rfl | exact Or.inr rfl | omega) ⟨1, 0, j + 3, rfl, hTc23, hF, zPd_3 hkk b1 (by omega) b2 (by omega), Or.inl ⟨rfl, rfl, hc, by rw [m2, m1, w94]⟩⟩
            | (exfalso; omega)
          · have h24 : x23 ≠ (0 : Int) := h24
            obtain ⟨-, b1, hc, m1⟩ := hA h24
            refine pm_blk hK zmm258 [] 4 112 [(2, 88), (0, K j)] [(0, 99), (0, 0), (0, 3), (2, 88)] μc23 [] rfl trivial ?_
            refine pm_call hK zmm258 (146, 0, 256, 3) zM256 (2, 45) [(2, 88), (0, 3), (0, 0), (0, 99)] [] rfl rfl rfl rfl ⟨by omega, by rw [zn256]; omega⟩ (zg_num hK (c := 3) (lo := 0) (hi := 99) (j := j + 2) (j1 := j + 3) hc hKn (by omega) hTc23 hlm ⟨by omega, by omega⟩ ⟨by omega, by omega⟩ (by omega) (by omega) hb88 hb94 ⟨Nat.le_refl _, Nat.le_refl _⟩) (fun st24 μc24 hp24 => ?_)
            obtain ⟨x24, rfl, hTc24, hC24, hA24, hB24⟩ := hp24
            have hx2401 : x24 = 0 ∨ x24 = 1 := by by_cases h9 : x24 = 0; exact Or.inl h9; exact Or.inr (hA24 h9).1
            have hF := zCf_tr hF hC24
            have hA := hA24
            have hB := hB24
            have hl24 : μc24 93 2 = ln := by rw [hC24.1 93 (by decide) (by decide)]; exact hlm
            have hlm := hl24
            have hs24 : μc24 88 9 = sh := by rw [hC24.2 9 (by decide) (by decide) (by decide)]; exact hsm
            have hsm := hs24
            have hd24 : μc24 88 10 = cu := by rw [hC24.2 10 (by decide) (by decide) (by decide)]; exact hcm
            have hcm := hd24
            refine pm_if hK zmm258 .eq 7 122 rfl rfl (fun h25 => ?_) (fun h25 => ?_)
            · have h25 : x24 = (0 : Int) := h25
              refine pm_blk hK zmm258 [] 1 123 [(2, 88), (0, K j)] [(0, 0)] μc24 [] rfl trivial ?_
              first
              | (obtain ⟨f, f1, f2⟩ := hB h25; exact pm_zret rfl rfl (by first | exact Or.inl rfl | exact Or.inr rfl | omega) ⟨0, f, j + 1, rfl, hTc24, hF, zPd_1 hkk f1 (by omega), Or.inr ⟨rfl, zf12 f1, f2⟩⟩)
              | (obtain ⟨f, f1, f2⟩ := hB h25; exact pm_zret rfl rfl (by first | exact Or.inl rfl | exact Or.inr rfl | omega) ⟨0, f, j + 2, rfl, hTc24, hF, zPd_2 hkk b1 (by omega) f1 (by omega), Or.inr ⟨rfl, zf12 f1, f2⟩⟩)
              | exact pm_zret rfl rfl (by first | exact Or.inl rfl | exact Or.inr rfl | omega) ⟨1, 0, j + 3, rfl, hTc24, hF, zPd_3 hkk b1 (by omega) b2 (by omega), Or.inl ⟨rfl, rfl, hc, by rw [m2, m1, w94]⟩⟩
              | (exfalso; omega)
            · have h25 : x24 ≠ (0 : Int) := h25
              obtain ⟨-, b2, hc, m2⟩ := hA h25
              refine pm_blk hK zmm258 [] 2 123 [(2, 88), (0, K j)] [(0, 1)] μc24 [] rfl trivial ?_
              first
              | (obtain ⟨f, f1, f2⟩ := hB h25; exact pm_zret rfl rfl (by first | exact Or.inl rfl | exact Or.inr rfl | omega) ⟨0, f, j + 1, rfl, hTc24, hF, zPd_1 hkk f1 (by omega), Or.inr ⟨rfl, zf12 f1, f2⟩⟩)
              | (obtain ⟨f, f1, f2⟩ := hB h25; exact pm_zret rfl rfl (by first | exact Or.inl rfl | exact Or.inr rfl | omega) ⟨0, f, j + 2, rfl, hTc24, hF, zPd_2 hkk b1 (by omega) f1 (by omega), Or.inr ⟨rfl, zf12 f1, f2⟩⟩)
              | exact pm_zret rfl rfl (by first | exact Or.inl rfl | exact Or.inr rfl | omega) ⟨1, 0, j + 3, rfl, hTc24, hF, zPd_3 hkk b1 (by omega) b2 (by omega), Or.inl ⟨rfl, rfl, hc, by rw [m2, m1, w94]⟩⟩
              | (exfalso; omega)
        · refine zp_lsw hK zmm258 (off := 97) (tgt := 156) rfl (by decide) (by rw [ht21]; decide) (by decide) ?_
          have f16 := zT_get hTμ3 zs88_10 (i := 10) (by omega) (by omega)
          refine pm_blk hK zmm258 [] 7 165 [(2, 88), (0, K j)] [(0, (μ3 88 10) - 1), (0, 0), (0, 2), (2, 88)] μ3 [pm_in ((μ3 88 10) - 1)] rfl ⟨pm_in_mk (by omega) (by omega), trivial⟩ ?_
          refine pm_call hK zmm258 (146, 0, 256, 3) zM256 (2, 45) [(2, 88), (0, 2), (0, 0), (0, (μ3 88 10) - 1)] [] rfl rfl rfl rfl ⟨by omega, by rw [zn256]; omega⟩ (zg_num hK (c := 2) (lo := 0) (hi := ((μ3 88 10) - 1)) (j := j + 1) (j1 := j + 2) hc hKn (by omega) hTμ3 hlm ⟨by omega, by omega⟩ ⟨by omega, by omega⟩ (by omega) (by omega) hb88 hb94 ⟨Nat.le_refl _, Nat.le_refl _⟩) (fun st25 μc25 hp25 => ?_)
          obtain ⟨x25, rfl, hTc25, hC25, hA25, hB25⟩ := hp25
          have hx2501 : x25 = 0 ∨ x25 = 1 := by by_cases h9 : x25 = 0; exact Or.inl h9; exact Or.inr (hA25 h9).1
          have hF := zCf_tr hF hC25
          have hA := hA25
          have hB := hB25
          have hl25 : μc25 93 2 = ln := by rw [hC25.1 93 (by decide) (by decide)]; exact hlm
          have hlm := hl25
          have hs25 : μc25 88 9 = sh := by rw [hC25.2 9 (by decide) (by decide) (by decide)]; exact hsm
          have hsm := hs25
          have hd25 : μc25 88 10 = cu := by rw [hC25.2 10 (by decide) (by decide) (by decide)]; exact hcm
          have hcm := hd25
          refine pm_if hK zmm258 .eq 19 187 rfl rfl (fun h26 => ?_) (fun h26 => ?_)
          · have h26 : x25 = (0 : Int) := h26
            refine pm_blk hK zmm258 [] 1 188 [(2, 88), (0, K j)] [(0, 0)] μc25 [] rfl trivial ?_
            first
            | (obtain ⟨f, f1, f2⟩ := hB h26; exact pm_zret rfl rfl (by first | exact Or.inl rfl | exact Or.inr rfl | omega) ⟨0, f, j + 1, rfl, hTc25, hF, zPd_1 hkk f1 (by omega), Or.inr ⟨rfl, zf12 f1, f2⟩⟩)
            | (obtain ⟨f, f1, f2⟩ := hB h26; exact pm_zret rfl rfl (by first | exact Or.inl rfl | exact Or.inr rfl | omega) ⟨0, f, j + 2, rfl, hTc25, hF, zPd_2 hkk b1 (by omega) f1 (by omega), Or.inr ⟨rfl, zf12 f1, f2⟩⟩)
            | exact pm_zret rfl rfl (by first | exact Or.inl rfl | exact Or.inr rfl | omega) ⟨1, 0, j + 3, rfl, hTc25, hF, zPd_3 hkk b1 (by omega) b2 (by omega), Or.inl ⟨rfl, rfl, hc, by rw [m2, m1, w94]⟩⟩
            | (exfalso; omega)
          · have h26 : x25 ≠ (0 : Int) := h26
            obtain ⟨-, b1, hc, m1⟩ := hA h26
            refine pm_blk hK zmm258 [] 4 177 [(2, 88), (0, K j)] [(0, 999), (0, 1), (0, 3), (2, 88)] μc25 [] rfl trivial ?_
            refine pm_call hK zmm258 (146, 0, 256, 3) zM256 (2, 45) [(2, 88), (0, 3), (0, 1), (0, 999)] [] rfl rfl rfl rfl ⟨by omega, by rw [zn256]; omega⟩ (zg_num hK (c := 3) (lo := 1) (hi := 999) (j := j + 2) (j1 := j + 3) hc hKn (by omega) hTc25 hlm ⟨by omega, by omega⟩ ⟨by omega, by omega⟩ (by omega) (by omega) hb88 hb94 ⟨Nat.le_refl _, Nat.le_refl _⟩) (fun st26 μc26 hp26 => ?_)
            obtain ⟨x26, rfl, hTc26, hC26, hA26, hB26⟩ := hp26
            have hx2601 : x26 = 0 ∨ x26 = 1 := by by_cases h9 : x26 = 0; exact Or.inl h9; exact Or.inr (hA26 h9).1
            have hF := zCf_tr hF hC26
            have hA := hA26
            have hB := hB26
            have hl26 : μc26 93 2 = ln := by rw [hC26.1 93 (by decide) (by decide)]; exact hlm
            have hlm := hl26
            have hs26 : μc26 88 9 = sh := by rw [hC26.2 9 (by decide) (by decide) (by decide)]; exact hsm
            have hsm := hs26
            have hd26 : μc26 88 10 = cu := by rw [hC26.2 10 (by decide) (by decide) (by decide)]; exact hcm
            have hcm := hd26
            refine pm_if hK zmm258 .eq 7 187 rfl rfl (fun h27 => ?_) (fun h27 => ?_)
            · have h27 : x26 = (0 : Int) := h27
              refine pm_blk hK zmm258 [] 1 188 [(2, 88), (0, K j)] [(0, 0)] μc26 [] rfl trivial ?_
              first
              | (obtain ⟨f, f1, f2⟩ := hB h27; exact pm_zret rfl rfl (by first | exact Or.inl rfl | exact Or.inr rfl | omega) ⟨0, f, j + 1, rfl, hTc26, hF, zPd_1 hkk f1 (by omega), Or.inr ⟨rfl, zf12 f1, f2⟩⟩)
              | (obtain ⟨f, f1, f2⟩ := hB h27; exact pm_zret rfl rfl (by first | exact Or.inl rfl | exact Or.inr rfl | omega) ⟨0, f, j + 2, rfl, hTc26, hF, zPd_2 hkk b1 (by omega) f1 (by omega), Or.inr ⟨rfl, zf12 f1, f2⟩⟩)
              | exact pm_zret rfl rfl (by first | exact Or.inl rfl | exact Or.inr rfl | omega) ⟨1, 0, j + 3, rfl, hTc26, hF, zPd_3 hkk b1 (by omega) b2 (by omega), Or.inl ⟨rfl, rfl, hc, by rw [m2, m1, w94]⟩⟩
              | (exfalso; omega)
            · have h27 : x26 ≠ (0 : Int) := h27
              obtain ⟨-, b2, hc, m2⟩ := hA h27
              refine pm_blk hK zmm258 [] 2 188 [(2, 88), (0, K j)] [(0, 1)] μc26 [] rfl trivial ?_
              first
              | (obtain ⟨f, f1, f2⟩ := hB h27; exact pm_zret rfl rfl (by first | exact Or.inl rfl | exact Or.inr rfl | omega) ⟨0, f, j + 1, rfl, hTc26, hF, zPd_1 hkk f1 (by omega), Or.inr ⟨rfl, zf12 f1, f2⟩⟩)
              | (obtain ⟨f, f1, f2⟩ := hB h27; exact pm_zret rfl rfl (by first | exact Or.inl rfl | exact Or.inr rfl | omega) ⟨0, f, j + 2, rfl, hTc26, hF, zPd_2 hkk b1 (by omega) f1 (by omega), Or.inr ⟨rfl, zf12 f1, f2⟩⟩)
              | exact pm_zret rfl rfl (by first | exact Or.inl rfl | exact Or.inr rfl | omega) ⟨1, 0, j + 3, rfl, hTc26, hF, zPd_3 hkk b1 (by omega) b2 (by omega), Or.inl ⟨rfl, rfl, hc, by rw [m2, m1, w94]⟩⟩
              | (exfalso; omega)
        · refine zp_lsw hK zmm258 (off := 130) (tgt := 189) rfl (by decide) (by rw [Op.lookupswitch.offset_cons, if_neg (show ¬ (306 : Int) = (K j) by omega), Op.lookupswitch.offset_cons, if_neg (show ¬ (323 : Int) = (K j) by omega), Op.lookupswitch.offset_cons, if_neg (show ¬ (324 : Int) = (K j) by omega)]; rfl) (by decide) ?_
          have f17 := zT_get hTμ3 zs88_9 (i := 9) (by omega) (by omega)
          refine pm_blk hK zmm258 [] 7 198 [(2, 88), (0, K j)] [(0, (μ3 88 9) - 1), (0, 0), (0, 2), (2, 88)] μ3 [pm_in ((μ3 88 9) - 1)] rfl ⟨pm_in_mk (by omega) (by omega), trivial⟩ ?_
          refine pm_call hK zmm258 (146, 0, 256, 3) zM256 (2, 45) [(2, 88), (0, 2), (0, 0), (0, (μ3 88 9) - 1)] [] rfl rfl rfl rfl ⟨by omega, by rw [zn256]; omega⟩ (zg_num hK (c := 2) (lo := 0) (hi := ((μ3 88 9) - 1)) (j := j + 1) (j1 := j + 2) hc hKn (by omega) hTμ3 hlm ⟨by omega, by omega⟩ ⟨by omega, by omega⟩ (by omega) (by omega) hb88 hb94 ⟨Nat.le_refl _, Nat.le_refl _⟩) (fun st27 μc27 hp27 => ?_)
          obtain ⟨x27, rfl, hTc27, hC27, hA27, hB27⟩ := hp27
          have hx2701 : x27 = 0 ∨ x27 = 1 := by by_cases h9 : x27 = 0; exact Or.inl h9; exact Or.inr (hA27 h9).1
          have hF := zCf_tr hF hC27
          have hA := hA27
          have hB := hB27
          have hl27 : μc27 93 2 = ln := by rw [hC27.1 93 (by decide) (by decide)]; exact hlm
          have hlm := hl27
          have hs27 : μc27 88 9 = sh := by rw [hC27.2 9 (by decide) (by decide) (by decide)]; exact hsm
          have hsm := hs27
          have hd27 : μc27 88 10 = cu := by rw [hC27.2 10 (by decide) (by decide) (by decide)]; exact hcm
          have hcm := hd27
          refine pm_if hK zmm258 .eq 22 223 rfl rfl (fun h28 => ?_) (fun h28 => ?_)
          · have h28 : x27 = (0 : Int) := h28
            refine pm_blk hK zmm258 [] 1 224 [(2, 88), (0, K j)] [(0, 0)] μc27 [] rfl trivial ?_
            first
            | (obtain ⟨f, f1, f2⟩ := hB h28; exact pm_zret rfl rfl (by first | exact Or.inl rfl | exact Or.inr rfl | omega) ⟨0, f, j + 1, rfl, hTc27, hF, zPd_1 hkk f1 (by omega), Or.inr ⟨rfl, zf12 f1, f2⟩⟩)
            | (obtain ⟨f, f1, f2⟩ := hB h28; exact pm_zret rfl rfl (by first | exact Or.inl rfl | exact Or.inr rfl | omega) ⟨0, f, j + 2, rfl, hTc27, hF, zPd_2 hkk b1 (by omega) f1 (by omega), Or.inr ⟨rfl, zf12 f1, f2⟩⟩)
            | exact pm_zret rfl rfl (by first | exact Or.inl rfl | exact Or.inr rfl | omega) ⟨1, 0, j + 3, rfl, hTc27, hF, zPd_3 hkk b1 (by omega) b2 (by omega), Or.inl ⟨rfl, rfl, hc, by rw [m2, m1, w94]⟩⟩
            | (exfalso; omega)
          · have h28 : x27 ≠ (0 : Int) := h28
            obtain ⟨-, b1, hc, m1⟩ := hA h28
            have f18 := zT_get hTc27 zs88_10 (i := 10) (by omega) (by omega)
            refine pm_blk hK zmm258 [] 7 213 [(2, 88), (0, K j)] [(0, (μc27 88 10) - 1), (0, 0), (0, 3), (2, 88)] μc27 [pm_in ((μc27 88 10) - 1)] rfl ⟨pm_in_mk (by omega) (by omega), trivial⟩ ?_
            refine pm_call hK zmm258 (146, 0, 256, 3) zM256 (2, 45) [(2, 88), (0, 3), (0, 0), (0, (μc27 88 10) - 1)] [] rfl rfl rfl rfl ⟨by omega, by rw [zn256]; omega⟩ (zg_num hK (c := 3) (lo := 0) (hi := ((μc27 88 10) - 1)) (j := j + 2) (j1 := j + 3) hc hKn (by omega) hTc27 hlm ⟨by omega, by omega⟩ ⟨by omega, by omega⟩ (by omega) (by omega) hb88 hb94 ⟨Nat.le_refl _, Nat.le_refl _⟩) (fun st28 μc28 hp28 => ?_)
            obtain ⟨x28, rfl, hTc28, hC28, hA28, hB28⟩ := hp28
            have hx2801 : x28 = 0 ∨ x28 = 1 := by by_cases h9 : x28 = 0; exact Or.inl h9; exact Or.inr (hA28 h9).1
            have hF := zCf_tr hF hC28
            have hA := hA28
            have hB := hB28
            have hl28 : μc28 93 2 = ln := by rw [hC28.1 93 (by decide) (by decide)]; exact hlm
            have hlm := hl28
            have hs28 : μc28 88 9 = sh := by rw [hC28.2 9 (by decide) (by decide) (by decide)]; exact hsm
            have hsm := hs28
            have hd28 : μc28 88 10 = cu := by rw [hC28.2 10 (by decide) (by decide) (by decide)]; exact hcm
            have hcm := hd28
            refine pm_if hK zmm258 .eq 7 223 rfl rfl (fun h29 => ?_) (fun h29 => ?_)
            · have h29 : x28 = (0 : Int) := h29
              refine pm_blk hK zmm258 [] 1 224 [(2, 88), (0, K j)] [(0, 0)] μc28 [] rfl trivial ?_
              first
              | (obtain ⟨f, f1, f2⟩ := hB h29; exact pm_zret rfl rfl (by first | exact Or.inl rfl | exact Or.inr rfl | omega) ⟨0, f, j + 1, rfl, hTc28, hF, zPd_1 hkk f1 (by omega), Or.inr ⟨rfl, zf12 f1, f2⟩⟩)
              | (obtain ⟨f, f1, f2⟩ := hB h29; exact pm_zret rfl rfl (by first | exact Or.inl rfl | exact Or.inr rfl | omega) ⟨0, f, j + 2, rfl, hTc28, hF, zPd_2 hkk b1 (by omega) f1 (by omega), Or.inr ⟨rfl, zf12 f1, f2⟩⟩)
              | exact pm_zret rfl rfl (by first | exact Or.inl rfl | exact Or.inr rfl | omega) ⟨1, 0, j + 3, rfl, hTc28, hF, zPd_3 hkk b1 (by omega) b2 (by omega), Or.inl ⟨rfl, rfl, hc, by rw [m2, m1, w94]⟩⟩
              | (exfalso; omega)
            · have h29 : x28 ≠ (0 : Int) := h29
              obtain ⟨-, b2, hc, m2⟩ := hA h29
              refine pm_blk hK zmm258 [] 2 224 [(2, 88), (0, K j)] [(0, 1)] μc28 [] rfl trivial ?_
              first
              | (obtain ⟨f, f1, f2⟩ := hB h29; exact pm_zret rfl rfl (by first | exact Or.inl rfl | exact Or.inr rfl | omega) ⟨0, f, j + 1, rfl, hTc28, hF, zPd_1 hkk f1 (by omega), Or.inr ⟨rfl, zf12 f1, f2⟩⟩)
              | (obtain ⟨f, f1, f2⟩ := hB h29; exact pm_zret rfl rfl (by first | exact Or.inl rfl | exact Or.inr rfl | omega) ⟨0, f, j + 2, rfl, hTc28, hF, zPd_2 hkk b1 (by omega) f1 (by omega), Or.inr ⟨rfl, zf12 f1, f2⟩⟩)
              | exact pm_zret rfl rfl (by first | exact Or.inl rfl | exact Or.inr rfl | omega) ⟨1, 0, j + 3, rfl, hTc28, hF, zPd_3 hkk b1 (by omega) b2 (by omega), Or.inl ⟨rfl, rfl, hc, by rw [m2, m1, w94]⟩⟩
              | (exfalso; omega)
      · have h20 : K j ≠ (324 : Int) := h20
        refine pm_blk hK zmm258 [] 2 30 [(2, 88), (0, K j)] [(0, 325), (0, K j)] μ [] rfl trivial ?_
        refine pm_icmp hK zmm258 .eq 9 39 rfl rfl (fun h30 => ?_) (fun h30 => ?_)
        · have h30 : K j = (325 : Int) := h30
          have hkk : K j = 323 ∨ K j = 306 ∨ K j = 324 ∨ K j = 325 := by omega
          have hjn : j ≠ n := fun he => by rw [he, hKn] at hkk; omega
          refine pm_blk hK zmm258 [] 4 45 [(2, 88), (0, K j)] [(0, K j), (0, 1), (2, 93)] μ [] rfl trivial ?_
          refine pm_call hK zmm258 (143, 0, 243, 2) zM243 (1, 22) [(2, 93), (0, 1), (0, K j)] [] rfl rfl rfl rfl ⟨by omega, by rw [zn243]; omega⟩ (zg_put hK (c := 1) (v := (K j)) hT hlm ⟨by omega, by omega⟩ ⟨by omega, by omega⟩ ⟨by omega, by omega⟩ hb94 ⟨Nat.le_refl _, Nat.le_refl _⟩) (fun st29 μc29 hp29 => ?_)
          obtain ⟨rfl, hTc29, ep29⟩ := hp29
          have ep := ep29
          have w8 : μc29 88 8 = j := by rw [ep, pm_up_off (by decide)]; exact q5
          have w94 : μc29 94 = zpu (μ 94) (ln * 4 + 1) (K j) := by rw [ep, pm_up_zpu]
          have hF := zCf_tr hF (show zCf μ μc29 from by rw [ep]; exact zCf_94 zCf_refl)
          have hc : zCq K S V n j μc29 := by rw [ep]; exact zCl_o hc (by decide)
          have f19 := zT_get hTc29 zs88_8 (i := 8) (by omega) (by omega)
          refine pm_blk hK zmm258 [] 6 58 [(2, 88), (0, K j)] [] (pm_up μc29 88 8 ((μc29 88 8) + 1)) [pm_in ((μc29 88 8) + 1), sx_bit Wm 88 = true] rfl ⟨pm_in_mk (by omega) (by omega), hb88, trivial⟩ ?_
          obtain ⟨μ4, eμ4⟩ : ∃ μ', μ' = pm_up μc29 88 8 ((μc29 88 8) + 1) := ⟨_, rfl⟩
          rw [← eμ4]
          have hTμ4 : zTJ φ μ4 := by rw [eμ4]; exact zT_up hTc29 zs88_8 rfl (i := 8) (by omega) (by omega) (by omega) (by omega)
          have hc : zCq K S V n (j + 1) μ4 := zCl_8 hc eμ4 (by rw [hc.2.2.1]) ⟨by omega, by omega⟩
          have hF : zCf μ μ4 := by rw [eμ4]; exact zCf_88 hF (by omega)
          have hlm : μ4 93 2 = ln := by rw [hF.1 93 (by decide) (by decide)]; exact hln
          have hsm : μ4 88 9 = sh := by rw [hF.2 9 (by decide) (by decide) (by decide)]; exact hsh
          have hcm : μ4 88 10 = cu := by rw [hF.2 10 (by decide) (by decide) (by decide)]; exact hcu
          have w94 : μ4 94 = zpu (μ 94) (ln * 4 + 1) (K j) := by rw [eμ4, pm_up_row (by decide)]; exact w94
          refine pm_blk hK zmm258 [] 1 59 [(2, 88), (0, K j)] [(0, K j)] μ4 [] rfl trivial ?_
          have ht31 : (K j) = 306 ∨ (K j) = 323 ∨ (K j) = 324 ∨ ((K j) ≠ 306 ∧ (K j) ≠ 323 ∧ (K j) ≠ 324) := by omega
          rcases ht31 with ht31 | ht31 | ht31 | ht31
          · refine zp_lsw hK zmm258 (off := 65) (tgt := 124) rfl (by decide) (by rw [ht31]; decide) (by decide) ?_
            have f20 := zT_get hTμ4 zs88_9 (i := 9) (by omega) (by omega)
            refine pm_blk hK zmm258 [] 7 133 [(2, 88), (0, K j)] [(0, (μ4 88 9) - 1), (0, 0), (0, 2), (2, 88)] μ4 [pm_in ((μ4 88 9) - 1)] rfl ⟨pm_in_mk (by omega) (by omega), trivial⟩ ?_
            refine pm_call hK zmm258 (146, 0, 256, 3) zM256 (2, 45) [(2, 88), (0, 2), (0, 0), (0, (μ4 88 9) - 1)] [] rfl rfl rfl rfl ⟨by omega, by rw [zn256]; omega⟩ (zg_num hK (c := 2) (lo := 0) (hi := ((μ4 88 9) - 1)) (j := j + 1) (j1 := j + 2) hc hKn (by omega) hTμ4 hlm ⟨by omega, by omega⟩ ⟨by omega, by omega⟩ (by omega) (by omega) hb88 hb94 ⟨Nat.le_refl _, Nat.le_refl _⟩) (fun st30 μc30 hp30 => ?_)
            obtain ⟨x30, rfl, hTc30, hC30, hA30, hB30⟩ := hp30
            have hx3001 : x30 = 0 ∨ x30 = 1 := by by_cases h9 : x30 = 0; exact Or.inl h9; exact Or.inr (hA30 h9).1
            have hF := zCf_tr hF hC30
            have hA := hA30
            have hB := hB30
            have hl30 : μc30 93 2 = ln := by rw [hC30.1 93 (by decide) (by decide)]; exact hlm
            have hlm := hl30
            have hs30 : μc30 88 9 = sh := by rw [hC30.2 9 (by decide) (by decide) (by decide)]; exact hsm
            have hsm := hs30
            have hd30 : μc30 88 10 = cu := by rw [hC30.2 10 (by decide) (by decide) (by decide)]; exact hcm
            have hcm := hd30
            refine pm_if hK zmm258 .eq 18 154 rfl rfl (fun h32 => ?_) (fun h32 => ?_)
            · have h32 : x30 = (0 : Int) := h32
              refine pm_blk hK zmm258 [] 1 155 [(2, 88), (0, K j)] [(0, 0)] μc30 [] rfl trivial ?_
              first
              | (obtain ⟨f, f1, f2⟩ := hB h32; exact pm_zret rfl rfl (by first | exact Or.inl rfl | exact Or.inr rfl | omega) ⟨0, f, j + 1, rfl, hTc30, hF, zPd_1 hkk f1 (by omega), Or.inr ⟨rfl, zf12 f1, f2⟩⟩)
              | (obtain ⟨f, f1, f2⟩ := hB h32; exact pm_zret rfl rfl (by first | exact Or.inl rfl | exact Or.inr rfl | omega) ⟨0, f, j + 2, rfl, hTc30, hF, zPd_2 hkk b1 (by omega) f1 (by omega), Or.inr ⟨rfl, zf12 f1, f2⟩⟩)
              | exact pm_zret rfl rfl (by first | exact Or.inl rfl | exact Or.inr rfl | omega) ⟨1, 0, j + 3, rfl, hTc30, hF, zPd_3 hkk b1 (by omega) b2 (by omega), Or.inl ⟨rfl, rfl, hc, by rw [m2, m1, w94]⟩⟩
              | (exfalso; omega)
            · have h32 : x30 ≠ (0 : Int) := h32
              obtain ⟨-, b1, hc, m1⟩ := hA h32
              refine pm_blk hK zmm258 [] 4 144 [(2, 88), (0, K j)] [(0, 99), (0, 1), (0, 3), (2, 88)] μc30 [] rfl trivial ?_
              refine pm_call hK zmm258 (146, 0, 256, 3) zM256 (2, 45) [(2, 88), (0, 3), (0, 1), (0, 99)] [] rfl rfl rfl rfl ⟨by omega, by rw [zn256]; omega⟩ (zg_num hK (c := 3) (lo := 1) (hi := 99) (j := j + 2) (j1 := j + 3) hc hKn (by omega) hTc30 hlm ⟨by omega, by omega⟩ ⟨by omega, by omega⟩ (by omega) (by omega) hb88 hb94 ⟨Nat.le_refl _, Nat.le_refl _⟩) (fun st31 μc31 hp31 => ?_)
              obtain ⟨x31, rfl, hTc31, hC31, hA31, hB31⟩ := hp31
              have hx3101 : x31 = 0 ∨ x31 = 1 := by by_cases h9 : x31 = 0; exact Or.inl h9; exact Or.inr (hA31 h9).1
              have hF := zCf_tr hF hC31
              have hA := hA31
              have hB := hB31
              have hl31 : μc31 93 2 = ln := by rw [hC31.1 93 (by decide) (by decide)]; exact hlm
              have hlm := hl31
              have hs31 : μc31 88 9 = sh := by rw [hC31.2 9 (by decide) (by decide) (by decide)]; exact hsm
              have hsm := hs31
              have hd31 : μc31 88 10 = cu := by rw [hC31.2 10 (by decide) (by decide) (by decide)]; exact hcm
              have hcm := hd31
              refine pm_if hK zmm258 .eq 7 154 rfl rfl (fun h33 => ?_) (fun h33 => ?_)
              · have h33 : x31 = (0 : Int) := h33
                refine pm_blk hK zmm258 [] 1 155 [(2, 88), (0, K j)] [(0, 0)] μc31 [] rfl trivial ?_
                first
                | (obtain ⟨f, f1, f2⟩ := hB h33; exact pm_zret rfl rfl (by first | exact Or.inl rfl | exact Or.inr rfl | omega) ⟨0, f, j + 1, rfl, hTc31, hF, zPd_1 hkk f1 (by omega), Or.inr ⟨rfl, zf12 f1, f2⟩⟩)
                | (obtain ⟨f, f1, f2⟩ := hB h33; exact pm_zret rfl rfl (by first | exact Or.inl rfl | exact Or.inr rfl | omega) ⟨0, f, j + 2, rfl, hTc31, hF, zPd_2 hkk b1 (by omega) f1 (by omega), Or.inr ⟨rfl, zf12 f1, f2⟩⟩)
                | exact pm_zret rfl rfl (by first | exact Or.inl rfl | exact Or.inr rfl | omega) ⟨1, 0, j + 3, rfl, hTc31, hF, zPd_3 hkk b1 (by omega) b2 (by omega), Or.inl ⟨rfl, rfl, hc, by rw [m2, m1, w94]⟩⟩
                | (exfalso; omega)
              · have h33 : x31 ≠ (0 : Int) := h33
                obtain ⟨-, b2, hc, m2⟩ := hA h33
                refine pm_blk hK zmm258 [] 2 155 [(2, 88), (0, K j)] [(0, 1)] μc31 [] rfl trivial ?_
                first
                | (obtain ⟨f, f1, f2⟩ := hB h33; exact pm_zret rfl rfl (by first | exact Or.inl rfl | exact Or.inr rfl | omega) ⟨0, f, j + 1, rfl, hTc31, hF, zPd_1 hkk f1 (by omega), Or.inr ⟨rfl, zf12 f1, f2⟩⟩)
                | (obtain ⟨f, f1, f2⟩ := hB h33; exact pm_zret rfl rfl (by first | exact Or.inl rfl | exact Or.inr rfl | omega) ⟨0, f, j + 2, rfl, hTc31, hF, zPd_2 hkk b1 (by omega) f1 (by omega), Or.inr ⟨rfl, zf12 f1, f2⟩⟩)
                | exact pm_zret rfl rfl (by first | exact Or.inl rfl | exact Or.inr rfl | omega) ⟨1, 0, j + 3, rfl, hTc31, hF, zPd_3 hkk b1 (by omega) b2 (by omega), Or.inl ⟨rfl, rfl, hc, by rw [m2, m1, w94]⟩⟩
                | (exfalso; omega)
          · refine zp_lsw hK zmm258 (off := 33) (tgt := 92) rfl (by decide) (by rw [ht31]; decide) (by decide) ?_
            have f21 := zT_get hTμ4 zs88_9 (i := 9) (by omega) (by omega)
            refine pm_blk hK zmm258 [] 7 101 [(2, 88), (0, K j)] [(0, (μ4 88 9) - 1), (0, 0), (0, 2), (2, 88)] μ4 [pm_in ((μ4 88 9) - 1)] rfl ⟨pm_in_mk (by omega) (by omega), trivial⟩ ?_
            refine pm_call hK zmm258 (146, 0, 256, 3) zM256 (2, 45) [(2, 88), (0, 2), (0, 0), (0, (μ4 88 9) - 1)] [] rfl rfl rfl rfl ⟨by omega, by rw [zn256]; omega⟩ (zg_num hK (c := 2) (lo := 0) (hi := ((μ4 88 9) - 1)) (j := j + 1) (j1 := j + 2) hc hKn (by omega) hTμ4 hlm ⟨by omega, by omega⟩ ⟨by omega, by omega⟩ (by omega) (by omega) hb88 hb94 ⟨Nat.le_refl _, Nat.le_refl _⟩) (fun st32 μc32 hp32 => ?_)
            obtain ⟨x32, rfl, hTc32, hC32, hA32, hB32⟩ := hp32
            have hx3201 : x32 = 0 ∨ x32 = 1 := by by_cases h9 : x32 = 0; exact Or.inl h9; exact Or.inr (hA32 h9).1
            have hF := zCf_tr hF hC32
            have hA := hA32
            have hB := hB32
            have hl32 : μc32 93 2 = ln := by rw [hC32.1 93 (by decide) (by decide)]; exact hlm
            have hlm := hl32
            have hs32 : μc32 88 9 = sh := by rw [hC32.2 9 (by decide) (by decide) (by decide)]; exact hsm
            have hsm := hs32
            have hd32 : μc32 88 10 = cu := by rw [hC32.2 10 (by decide) (by decide) (by decide)]; exact hcm
            have hcm := hd32
            refine pm_if hK zmm258 .eq 18 122 rfl rfl (fun h34 => ?_) (fun h34 => ?_)
            · have h34 : x32 = (0 : Int) := h34
              refine pm_blk hK zmm258 [] 1 123 [(2, 88), (0, K j)] [(0, 0)] μc32 [] rfl trivial ?_
              first
              | (obtain ⟨f, f1, f2⟩ := hB h34; exact pm_zret rfl rfl (by first | exact Or.inl rfl | exact Or.inr rfl | omega) ⟨0, f, j + 1, rfl, hTc32, hF, zPd_1 hkk f1 (by omega), Or.inr ⟨rfl, zf12 f1, f2⟩⟩)
              | (obtain ⟨f, f1, f2⟩ := hB h34; exact pm_zret rfl rfl (by first | exact Or.inl rfl | exact Or.inr rfl | omega) ⟨0, f, j + 2, rfl, hTc32, hF, zPd_2 hkk b1 (by omega) f1 (by omega), Or.inr ⟨rfl, zf12 f1, f2⟩⟩)
              | exact pm_zret rfl rfl (by first | exact Or.inl rfl | exact Or.inr rfl | omega) ⟨1, 0, j + 3, rfl, hTc32, hF, zPd_3 hkk b1 (by omega) b2 (by omega), Or.inl ⟨rfl, rfl, hc, by rw [m2, m1, w94]⟩⟩
              | (exfalso; omega)
            · have h34 : x32 ≠ (0 : Int) := h34
              obtain ⟨-, b1, hc, m1⟩ := hA h34
              refine pm_blk hK zmm258 [] 4 112 [(2, 88), (0, K j)] [(0, 99), (0, 0), (0, 3), (2, 88)] μc32 [] rfl trivial ?_
              refine pm_call hK zmm258 (146, 0, 256, 3) zM256 (2, 45) [(2, 88), (0, 3), (0, 0), (0, 99)] [] rfl rfl rfl rfl ⟨by omega, by rw [zn256]; omega⟩ (zg_num hK (c := 3) (lo := 0) (hi := 99) (j := j + 2) (j1 := j + 3) hc hKn (by omega) hTc32 hlm ⟨by omega, by omega⟩ ⟨by omega, by omega⟩ (by omega) (by omega) hb88 hb94 ⟨Nat.le_refl _, Nat.le_refl _⟩) (fun st33 μc33 hp33 => ?_)
              obtain ⟨x33, rfl, hTc33, hC33, hA33, hB33⟩ := hp33
              have hx3301 : x33 = 0 ∨ x33 = 1 := by by_cases h9 : x33 = 0; exact Or.inl h9; exact Or.inr (hA33 h9).1
              have hF := zCf_tr hF hC33
              have hA := hA33
              have hB := hB33
              have hl33 : μc33 93 2 = ln := by rw [hC33.1 93 (by decide) (by decide)]; exact hlm
              have hlm := hl33
              have hs33 : μc33 88 9 = sh := by rw [hC33.2 9 (by decide) (by decide) (by decide)]; exact hsm
              have hsm := hs33
              have hd33 : μc33 88 10 = cu := by rw [hC33.2 10 (by decide) (by decide) (by decide)]; exact hcm
              have hcm := hd33
              refine pm_if hK zmm258 .eq 7 122 rfl rfl (fun h35 => ?_) (fun h35 => ?_)
              · have h35 : x33 = (0 : Int) := h35
                refine pm_blk hK zmm258 [] 1 123 [(2, 88), (0, K j)] [(0, 0)] μc33 [] rfl trivial ?_
                first
                | (obtain ⟨f, f1, f2⟩ := hB h35; exact pm_zret rfl rfl (by first | exact Or.inl rfl | exact Or.inr rfl | omega) ⟨0, f, j + 1, rfl, hTc33, hF, zPd_1 hkk f1 (by omega), Or.inr ⟨rfl, zf12 f1, f2⟩⟩)
                | (obtain ⟨f, f1, f2⟩ := hB h35; exact pm_zret rfl rfl (by first | exact Or.inl rfl | exact Or.inr rfl | omega) ⟨0, f, j + 2, rfl, hTc33, hF, zPd_2 hkk b1 (by omega) f1 (by omega), Or.inr ⟨rfl, zf12 f1, f2⟩⟩)
                | exact pm_zret rfl rfl (by first | exact Or.inl rfl | exact Or.inr rfl | omega) ⟨1, 0, j + 3, rfl, hTc33, hF, zPd_3 hkk b1 (by omega) b2 (by omega), Or.inl ⟨rfl, rfl, hc, by rw [m2, m1, w94]⟩⟩
                | (exfalso; omega)
              · have h35 : x33 ≠ (0 : Int) := h35
                obtain ⟨-, b2, hc, m2⟩ := hA h35
                refine pm_blk hK zmm258 [] 2 123 [(2, 88), (0, K j)] [(0, 1)] μc33 [] rfl trivial ?_
                first
                | (obtain ⟨f, f1, f2⟩ := hB h35; exact pm_zret rfl rfl (by first | exact Or.inl rfl | exact Or.inr rfl | omega) ⟨0, f, j + 1, rfl, hTc33, hF, zPd_1 hkk f1 (by omega), Or.inr ⟨rfl, zf12 f1, f2⟩⟩)
                | (obtain ⟨f, f1, f2⟩ := hB h35; exact pm_zret rfl rfl (by first | exact Or.inl rfl | exact Or.inr rfl | omega) ⟨0, f, j + 2, rfl, hTc33, hF, zPd_2 hkk b1 (by omega) f1 (by omega), Or.inr ⟨rfl, zf12 f1, f2⟩⟩)
                | exact pm_zret rfl rfl (by first | exact Or.inl rfl | exact Or.inr rfl | omega) ⟨1, 0, j + 3, rfl, hTc33, hF, zPd_3 hkk b1 (by omega) b2 (by omega), Or.inl ⟨rfl, rfl, hc, by rw [m2, m1, w94]⟩⟩
                | (exfalso; omega)
          · refine zp_lsw hK zmm258 (off := 97) (tgt := 156) rfl (by decide) (by rw [ht31]; decide) (by decide) ?_
            have f22 := zT_get hTμ4 zs88_10 (i := 10) (by omega) (by omega)
            refine pm_blk hK zmm258 [] 7 165 [(2, 88), (0, K j)] [(0, (μ4 88 10) - 1), (0, 0), (0, 2), (2, 88)] μ4 [pm_in ((μ4 88 10) - 1)] rfl ⟨pm_in_mk (by omega) (by omega), trivial⟩ ?_
            refine pm_call hK zmm258 (146, 0, 256, 3) zM256 (2, 45) [(2, 88), (0, 2), (0, 0), (0, (μ4 88 10) - 1)] [] rfl rfl rfl rfl ⟨by omega, by rw [zn256]; omega⟩ (zg_num hK (c := 2) (lo := 0) (hi := ((μ4 88 10) - 1)) (j := j + 1) (j1 := j + 2) hc hKn (by omega) hTμ4 hlm ⟨by omega, by omega⟩ ⟨by omega, by omega⟩ (by omega) (by omega) hb88 hb94 ⟨Nat.le_refl _, Nat.le_refl _⟩) (fun st34 μc34 hp34 => ?_)
            obtain ⟨x34, rfl, hTc34, hC34, hA34, hB34⟩ := hp34
            have hx3401 : x34 = 0 ∨ x34 = 1 := by by_cases h9 : x34 = 0; exact Or.inl h9; exact Or.inr (hA34 h9).1
            have hF := zCf_tr hF hC34
            have hA := hA34
            have hB := hB34
            have hl34 : μc34 93 2 = ln := by rw [hC34.1 93 (by decide) (by decide)]; exact hlm
            have hlm := hl34
            have hs34 : μc34 88 9 = sh := by rw [hC34.2 9 (by decide) (by decide) (by decide)]; exact hsm
            have hsm := hs34
            have hd34 : μc34 88 10 = cu := by rw [hC34.2 10 (by decide) (by decide) (by decide)]; exact hcm
            have hcm := hd34
            refine pm_if hK zmm258 .eq 19 187 rfl rfl (fun h36 => ?_) (fun h36 => ?_)
            · have h36 : x34 = (0 : Int) := h36
              refine pm_blk hK zmm258 [] 1 188 [(2, 88), (0, K j)] [(0, 0)] μc34 [] rfl trivial ?_
              first
              | (obtain ⟨f, f1, f2⟩ := hB h36; exact pm_zret rfl rfl (by first | exact Or.inl rfl | exact Or.inr rfl | omega) ⟨0, f, j + 1, rfl, hTc34, hF, zPd_1 hkk f1 (by omega), Or.inr ⟨rfl, zf12 f1, f2⟩⟩)
              | (obtain ⟨f, f1, f2⟩ := hB h36; exact pm_zret rfl rfl (by first | exact Or.inl rfl | exact Or.inr rfl | omega) ⟨0, f, j + 2, rfl, hTc34, hF, zPd_2 hkk b1 (by omega) f1 (by omega), Or.inr ⟨rfl, zf12 f1, f2⟩⟩)
              | exact pm_zret rfl rfl (by first | exact Or.inl rfl | exact Or.inr rfl | omega) ⟨1, 0, j + 3, rfl, hTc34, hF, zPd_3 hkk b1 (by omega) b2 (by omega), Or.inl ⟨rfl, rfl, hc, by rw [m2, m1, w94]⟩⟩
              | (exfalso; omega)
            · have h36 : x34 ≠ (0 : Int) := h36
              obtain ⟨-, b1, hc, m1⟩ := hA h36
              refine pm_blk hK zmm258 [] 4 177 [(2, 88), (0, K j)] [(0, 999), (0, 1), (0, 3), (2, 88)] μc34 [] rfl trivial ?_
              refine pm_call hK zmm258 (146, 0, 256, 3) zM256 (2, 45) [(2, 88), (0, 3), (0, 1), (0, 999)] [] rfl rfl rfl rfl ⟨by omega, by rw [zn256]; omega⟩ (zg_num hK (c := 3) (lo := 1) (hi := 999) (j := j + 2) (j1 := j + 3) hc hKn (by omega) hTc34 hlm ⟨by omega, by omega⟩ ⟨by omega, by omega⟩ (by omega) (by omega) hb88 hb94 ⟨Nat.le_refl _, Nat.le_refl _⟩) (fun st35 μc35 hp35 => ?_)
              obtain ⟨x35, rfl, hTc35, hC35, hA35, hB35⟩ := hp35
              have hx3501 : x35 = 0 ∨ x35 = 1 := by by_cases h9 : x35 = 0; exact Or.inl h9; exact Or.inr (hA35 h9).1
              have hF := zCf_tr hF hC35
              have hA := hA35
              have hB := hB35
              have hl35 : μc35 93 2 = ln := by rw [hC35.1 93 (by decide) (by decide)]; exact hlm
              have hlm := hl35
              have hs35 : μc35 88 9 = sh := by rw [hC35.2 9 (by decide) (by decide) (by decide)]; exact hsm
              have hsm := hs35
              have hd35 : μc35 88 10 = cu := by rw [hC35.2 10 (by decide) (by decide) (by decide)]; exact hcm
              have hcm := hd35
              refine pm_if hK zmm258 .eq 7 187 rfl rfl (fun h37 => ?_) (fun h37 => ?_)
              · have h37 : x35 = (0 : Int) := h37
                refine pm_blk hK zmm258 [] 1 188 [(2, 88), (0, K j)] [(0, 0)] μc35 [] rfl trivial ?_
                first
                | (obtain ⟨f, f1, f2⟩ := hB h37; exact pm_zret rfl rfl (by first | exact Or.inl rfl | exact Or.inr rfl | omega) ⟨0, f, j + 1, rfl, hTc35, hF, zPd_1 hkk f1 (by omega), Or.inr ⟨rfl, zf12 f1, f2⟩⟩)
                | (obtain ⟨f, f1, f2⟩ := hB h37; exact pm_zret rfl rfl (by first | exact Or.inl rfl | exact Or.inr rfl | omega) ⟨0, f, j + 2, rfl, hTc35, hF, zPd_2 hkk b1 (by omega) f1 (by omega), Or.inr ⟨rfl, zf12 f1, f2⟩⟩)
                | exact pm_zret rfl rfl (by first | exact Or.inl rfl | exact Or.inr rfl | omega) ⟨1, 0, j + 3, rfl, hTc35, hF, zPd_3 hkk b1 (by omega) b2 (by omega), Or.inl ⟨rfl, rfl, hc, by rw [m2, m1, w94]⟩⟩
                | (exfalso; omega)
              · have h37 : x35 ≠ (0 : Int) := h37
                obtain ⟨-, b2, hc, m2⟩ := hA h37
                refine pm_blk hK zmm258 [] 2 188 [(2, 88), (0, K j)] [(0, 1)] μc35 [] rfl trivial ?_
                first
                | (obtain ⟨f, f1, f2⟩ := hB h37; exact pm_zret rfl rfl (by first | exact Or.inl rfl | exact Or.inr rfl | omega) ⟨0, f, j + 1, rfl, hTc35, hF, zPd_1 hkk f1 (by omega), Or.inr ⟨rfl, zf12 f1, f2⟩⟩)
                | (obtain ⟨f, f1, f2⟩ := hB h37; exact pm_zret rfl rfl (by first | exact Or.inl rfl | exact Or.inr rfl | omega) ⟨0, f, j + 2, rfl, hTc35, hF, zPd_2 hkk b1 (by omega) f1 (by omega), Or.inr ⟨rfl, zf12 f1, f2⟩⟩)
                | exact pm_zret rfl rfl (by first | exact Or.inl rfl | exact Or.inr rfl | omega) ⟨1, 0, j + 3, rfl, hTc35, hF, zPd_3 hkk b1 (by omega) b2 (by omega), Or.inl ⟨rfl, rfl, hc, by rw [m2, m1, w94]⟩⟩
                | (exfalso; omega)
          · refine zp_lsw hK zmm258 (off := 130) (tgt := 189) rfl (by decide) (by rw [Op.lookupswitch.offset_cons, if_neg (show ¬ (306 : Int) = (K j) by omega), Op.lookupswitch.offset_cons, if_neg (show ¬ (323 : Int) = (K j) by omega), Op.lookupswitch.offset_cons, if_neg (show ¬ (324 : Int) = (K j) by omega)]; rfl) (by decide) ?_
            have f23 := zT_get hTμ4 zs88_9 (i := 9) (by omega) (by omega)
            refine pm_blk hK zmm258 [] 7 198 [(2, 88), (0, K j)] [(0, (μ4 88 9) - 1), (0, 0), (0, 2), (2, 88)] μ4 [pm_in ((μ4 88 9) - 1)] rfl ⟨pm_in_mk (by omega) (by omega), trivial⟩ ?_
            refine pm_call hK zmm258 (146, 0, 256, 3) zM256 (2, 45) [(2, 88), (0, 2), (0, 0), (0, (μ4 88 9) - 1)] [] rfl rfl rfl rfl ⟨by omega, by rw [zn256]; omega⟩ (zg_num hK (c := 2) (lo := 0) (hi := ((μ4 88 9) - 1)) (j := j + 1) (j1 := j + 2) hc hKn (by omega) hTμ4 hlm ⟨by omega, by omega⟩ ⟨by omega, by omega⟩ (by omega) (by omega) hb88 hb94 ⟨Nat.le_refl _, Nat.le_refl _⟩) (fun st36 μc36 hp36 => ?_)
            obtain ⟨x36, rfl, hTc36, hC36, hA36, hB36⟩ := hp36
            have hx3601 : x36 = 0 ∨ x36 = 1 := by by_cases h9 : x36 = 0; exact Or.inl h9; exact Or.inr (hA36 h9).1
            have hF := zCf_tr hF hC36
            have hA := hA36
            have hB := hB36
            have hl36 : μc36 93 2 = ln := by rw [hC36.1 93 (by decide) (by decide)]; exact hlm
            have hlm := hl36
            have hs36 : μc36 88 9 = sh := by rw [hC36.2 9 (by decide) (by decide) (by decide)]; exact hsm
            have hsm := hs36
            have hd36 : μc36 88 10 = cu := by rw [hC36.2 10 (by decide) (by decide) (by decide)]; exact hcm
            have hcm := hd36
            refine pm_if hK zmm258 .eq 22 223 rfl rfl (fun h38 => ?_) (fun h38 => ?_)
            · have h38 : x36 = (0 : Int) := h38
              refine pm_blk hK zmm258 [] 1 224 [(2, 88), (0, K j)] [(0, 0)] μc36 [] rfl trivial ?_
              first
              | (obtain ⟨f, f1, f2⟩ := hB h38; exact pm_zret rfl rfl (by first | exact Or.inl rfl | exact Or.inr rfl | omega) ⟨0, f, j + 1, rfl, hTc36, hF, zPd_1 hkk f1 (by omega), Or.inr ⟨rfl, zf12 f1, f2⟩⟩)
              | (obtain ⟨f, f1, f2⟩ := hB h38; exact pm_zret rfl rfl (by first | exact Or.inl rfl | exact Or.inr rfl | omega) ⟨0, f, j + 2, rfl, hTc36, hF, zPd_2 hkk b1 (by omega) f1 (by omega), Or.inr ⟨rfl, zf12 f1, f2⟩⟩)
              | exact pm_zret rfl rfl (by first | exact Or.inl rfl | exact Or.inr rfl | omega) ⟨1, 0, j + 3, rfl, hTc36, hF, zPd_3 hkk b1 (by omega) b2 (by omega), Or.inl ⟨rfl, rfl, hc, by rw [m2, m1, w94]⟩⟩
              | (exfalso; omega)
            · have h38 : x36 ≠ (0 : Int) := h38
              obtain ⟨-, b1, hc, m1⟩ := hA h38
              have f24 := zT_get hTc36 zs88_10 (i := 10) (by omega) (by omega)
              refine pm_blk hK zmm258 [] 7 213 [(2, 88), (0, K j)] [(0, (μc36 88 10) - 1), (0, 0), (0, 3), (2, 88)] μc36 [pm_in ((μc36 88 10) - 1)] rfl ⟨pm_in_mk (by omega) (by omega), trivial⟩ ?_
              refine pm_call hK zmm258 (146, 0, 256, 3) zM256 (2, 45) [(2, 88), (0, 3), (0, 0), (0, (μc36 88 10) - 1)] [] rfl rfl rfl rfl ⟨by omega, by rw [zn256]; omega⟩ (zg_num hK (c := 3) (lo := 0) (hi := ((μc36 88 10) - 1)) (j := j + 2) (j1 := j + 3) hc hKn (by omega) hTc36 hlm ⟨by omega, by omega⟩ ⟨by omega, by omega⟩ (by omega) (by omega) hb88 hb94 ⟨Nat.le_refl _, Nat.le_refl _⟩) (fun st37 μc37 hp37 => ?_)
              obtain ⟨x37, rfl, hTc37, hC37, hA37, hB37⟩ := hp37
              have hx3701 : x37 = 0 ∨ x37 = 1 := by by_cases h9 : x37 = 0; exact Or.inl h9; exact Or.inr (hA37 h9).1
              have hF := zCf_tr hF hC37
              have hA := hA37
              have hB := hB37
              have hl37 : μc37 93 2 = ln := by rw [hC37.1 93 (by decide) (by decide)]; exact hlm
              have hlm := hl37
              have hs37 : μc37 88 9 = sh := by rw [hC37.2 9 (by decide) (by decide) (by decide)]; exact hsm
              have hsm := hs37
              have hd37 : μc37 88 10 = cu := by rw [hC37.2 10 (by decide) (by decide) (by decide)]; exact hcm
              have hcm := hd37
              refine pm_if hK zmm258 .eq 7 223 rfl rfl (fun h39 => ?_) (fun h39 => ?_)
              · have h39 : x37 = (0 : Int) := h39
                refine pm_blk hK zmm258 [] 1 224 [(2, 88), (0, K j)] [(0, 0)] μc37 [] rfl trivial ?_
                first
                | (obtain ⟨f, f1, f2⟩ := hB h39; exact pm_zret rfl rfl (by first | exact Or.inl rfl | exact Or.inr rfl | omega) ⟨0, f, j + 1, rfl, hTc37, hF, zPd_1 hkk f1 (by omega), Or.inr ⟨rfl, zf12 f1, f2⟩⟩)
                | (obtain ⟨f, f1, f2⟩ := hB h39; exact pm_zret rfl rfl (by first | exact Or.inl rfl | exact Or.inr rfl | omega) ⟨0, f, j + 2, rfl, hTc37, hF, zPd_2 hkk b1 (by omega) f1 (by omega), Or.inr ⟨rfl, zf12 f1, f2⟩⟩)
                | exact pm_zret rfl rfl (by first | exact Or.inl rfl | exact Or.inr rfl | omega) ⟨1, 0, j + 3, rfl, hTc37, hF, zPd_3 hkk b1 (by omega) b2 (by omega), Or.inl ⟨rfl, rfl, hc, by rw [m2, m1, w94]⟩⟩
                | (exfalso; omega)
              · have h39 : x37 ≠ (0 : Int) := h39
                obtain ⟨-, b2, hc, m2⟩ := hA h39
                refine pm_blk hK zmm258 [] 2 224 [(2, 88), (0, K j)] [(0, 1)] μc37 [] rfl trivial ?_
                first
                | (obtain ⟨f, f1, f2⟩ := hB h39; exact pm_zret rfl rfl (by first | exact Or.inl rfl | exact Or.inr rfl | omega) ⟨0, f, j + 1, rfl, hTc37, hF, zPd_1 hkk f1 (by omega), Or.inr ⟨rfl, zf12 f1, f2⟩⟩)
                | (obtain ⟨f, f1, f2⟩ := hB h39; exact pm_zret rfl rfl (by first | exact Or.inl rfl | exact Or.inr rfl | omega) ⟨0, f, j + 2, rfl, hTc37, hF, zPd_2 hkk b1 (by omega) f1 (by omega), Or.inr ⟨rfl, zf12 f1, f2⟩⟩)
                | exact pm_zret rfl rfl (by first | exact Or.inl rfl | exact Or.inr rfl | omega) ⟨1, 0, j + 3, rfl, hTc37, hF, zPd_3 hkk b1 (by omega) b2 (by omega), Or.inl ⟨rfl, rfl, hc, by rw [m2, m1, w94]⟩⟩
                | (exfalso; omega)
        · have h30 : K j ≠ (325 : Int) := h30
          have hnk : K j ≠ 323 ∧ K j ≠ 306 ∧ K j ≠ 324 ∧ K j ≠ 325 := by omega
          refine pm_blk hK zmm258 [] 2 35 [(2, 88), (0, K j)] [(0, 1), (2, 88)] μ [] rfl trivial ?_
          refine pm_call hK zmm258 (137, 0, 242, 1) zM242 (0, 0) [(2, 88), (0, 1)] [] rfl rfl rfl rfl ⟨by omega, by rw [zn242]; omega⟩ (zg_wrong hK h hT ⟨by omega, by omega⟩ hb88 ⟨Nat.le_refl _, Nat.le_refl _⟩) (fun st38 μc38 hp38 => ?_)
          obtain ⟨rfl, hTc38, hC38, hf38⟩ := hp38
          have hC := hC38
          have hff := hf38
          exact pm_zret rfl rfl (by first | exact Or.inl rfl | exact Or.inr rfl | omega) ⟨0, 1, j, rfl, hTc38, hC, Or.inl ⟨rfl, rfl, hnk⟩, Or.inr ⟨rfl, by decide, hff⟩⟩
set_option maxRecDepth 100000 in
theorem zg_pl1 (hK : zKK ST) {ln sh cu : Int} {K S V : Int → Int} {n j : Int} (h : zCq K S V n j μ) (hKn : K n = 257) (hT : zTJ φ μ) (hln : μ 93 2 = ln) (hl : 0 ≤ ln ∧ ln ≤ 15) (hsh : μ 88 9 = sh) (hcu : μ 88 10 = cu) (hb88 : sx_bit Wm 88 = true) (hb94 : sx_bit Wm 94 = true) (hbd : 4 ≤ bud.1 ∧ 90 ≤ bud.2.1) : zC D Wm ST b0 l Sg zM255 bud [(2, 88), (0, 1)] μ (fun st' μ' => ∃ x f q, st' = [(0, x)] ∧ zTJ φ μ' ∧ zCf μ μ' ∧ zPa1 K V sh cu j f q ∧ ((x = 1 ∧ f = 0 ∧ zCq K S V n q μ' ∧ μ' 94 = zpu (zpu (zpu (μ 94) (ln * 4 + 0) (V j)) (ln * 4 + 1) (V (j + 2))) (ln * 4 + 2) (if K (j + 3) = 321 then -1 else V (j + 4))) ∨ (x = 0 ∧ f ≠ 0 ∧ zFl S f q μ'))) := by
  have hc := h
  have hlm := hln
  have hsm := hsh
  have hcm := hcu
  have hF : zCf μ μ := zCf_refl
  obtain ⟨⟨q1, q2, q3⟩, q4, q5, q6⟩ := id h
  have fs := zT_get hT zs88_9 (i := 9) (by omega) (by omega)
  have fu := zT_get hT zs88_10 (i := 10) (by omega) (by omega)
  have e111 : j + 1 + 1 = j + 2 := by omega
  have e112 : j + 1 + 2 = j + 3 := by omega
  have e113 : j + 1 + 3 = j + 4 := by omega
  have e131 : j + 3 + 1 = j + 4 := by omega
  have e132 : j + 3 + 2 = j + 5 := by omega
  have e133 : j + 3 + 3 = j + 6 := by omega
  refine pm_blk hK zmm255 [] 1 1 [(2, 88), (0, 1)] [(0, 1)] μ [] rfl trivial ?_
  refine zp_lsw hK zmm255 (off := 27) (tgt := 28) rfl (by decide) (by decide) (by decide) ?_
  have f1 := zT_get hT zs88_10 (i := 10) (by omega) (by omega)
  refine pm_blk hK zmm255 [] 7 37 [(2, 88), (0, 1)] [(0, (μ 88 10) - 1), (0, 0), (0, 0), (2, 88)] μ [pm_in ((μ 88 10) - 1)] rfl ⟨pm_in_mk (by omega) (by omega), trivial⟩ ?_
  refine pm_call hK zmm255 (146, 0, 256, 3) zM256 (2, 45) [(2, 88), (0, 0), (0, 0), (0, (μ 88 10) - 1)] [] rfl rfl rfl rfl ⟨by omega, by rw [zn256]; omega⟩ (zg_num hK (c := 0) (lo := 0) (hi := ((μ 88 10) - 1)) (j := j) (j1 := j + 1) hc hKn (by omega) hT hlm ⟨by omega, by omega⟩ ⟨by omega, by omega⟩ (by omega) (by omega) hb88 hb94 ⟨Nat.le_refl _, Nat.le_refl _⟩) (fun st1 μc1 hp1 => ?_)
  obtain ⟨x1, rfl, hTc1, hC1, hA1, hB1⟩ := hp1
  have hx101 : x1 = 0 ∨ x1 = 1 := by by_cases h9 : x1 = 0; exact Or.inl h9; exact Or.inr (hA1 h9).1
  have hF := zCf_tr hF hC1
  have hA := hA1
  have hB := hB1
  have hl1 : μc1 93 2 = ln := by rw [hC1.1 93 (by decide) (by decide)]; exact hlm
  have hlm := hl1
  have hs1 : μc1 88 9 = sh := by rw [hC1.2 9 (by decide) (by decide) (by decide)]; exact hsm
  have hsm := hs1
  have hd1 : μc1 88 10 = cu := by rw [hC1.2 10 (by decide) (by decide) (by decide)]; exact hcm
  have hcm := hd1
  refine pm_if hK zmm255 .eq 35 75 rfl rfl (fun h0 => ?_) (fun h0 => ?_)
  · have h0 : x1 = (0 : Int) := h0
    refine pm_blk hK zmm255 [] 1 76 [(2, 88), (0, 1)] [(0, 0)] μc1 [] rfl trivial ?_
    first
    | (obtain ⟨f, f1, f2⟩ := hB h0; exact pm_zret rfl rfl (by first | exact Or.inl rfl | exact Or.inr rfl | omega) ⟨0, f, j, rfl, hTc1, hF, zPa1_0 f1 (by omega), Or.inr ⟨rfl, zf12 f1, f2⟩⟩)
    | (obtain ⟨f, f1, f2⟩ := hB h0; exact pm_zret rfl rfl (by first | exact Or.inl rfl | exact Or.inr rfl | omega) ⟨0, f, j + 1, rfl, hTc1, hF, zPa1_1 b0 (by omega) f1, Or.inr ⟨rfl, zf1 f1, f2⟩⟩)
    | (obtain ⟨f, f1, f2⟩ := hB h0; exact pm_zret rfl rfl (by first | exact Or.inl rfl | exact Or.inr rfl | omega) ⟨0, f, j + 2, rfl, hTc1, hF, zPa1_2 b0 (by omega) b1 f1, Or.inr ⟨rfl, zf12 f1, f2⟩⟩)
    | (rcases hQ with ⟨a1, -⟩ | ⟨-, g1, hfl⟩
       · omega
       · exact pm_zret rfl rfl (by first | exact Or.inl rfl | exact Or.inr rfl | omega) ⟨0, gg, pp, rfl, hTc1, hF, zPa1_w b0 (by omega) b1 b2 hPP, Or.inr ⟨rfl, g1, hfl⟩⟩)
    | (rcases hQ with ⟨-, g0, hc, m3⟩ | ⟨a1, -⟩
       · exact pm_zret rfl rfl (by first | exact Or.inl rfl | exact Or.inr rfl | omega) ⟨1, 0, pp, rfl, hTc1, hF, zPa1_w b0 (by omega) b1 b2 (g0 ▸ hPP), Or.inl ⟨rfl, rfl, hc, by rw [m3, m2, m1, m0]; simp only [e131]⟩⟩
       · omega)
    | (exfalso; omega)
  · have h0 : x1 ≠ (0 : Int) := h0
    obtain ⟨-, b0, hc, m0⟩ := hA h0
    refine pm_blk hK zmm255 [] 2 47 [(2, 88), (0, 1)] [(0, 319), (2, 88)] μc1 [] rfl trivial ?_
    refine pm_call hK zmm255 (85, 0, 254, 1) zM254 (1, 21) [(2, 88), (0, 319)] [] rfl rfl rfl rfl ⟨by omega, by rw [zn254]; omega⟩ (zg_sign hK (c := 319) (j := j + 1) (j1 := j + 2) hc hKn (by omega) (by decide) hTc1 hb88 ⟨Nat.le_refl _, Nat.le_refl _⟩) (fun st2 μc2 hp2 => ?_)
    obtain ⟨x2, rfl, hTc2, hC2, hA2, hB2⟩ := hp2
    have hx201 : x2 = 0 ∨ x2 = 1 := by by_cases h9 : x2 = 0; exact Or.inl h9; exact Or.inr (hA2 h9).1
    have hF := zCf_tr hF hC2
    have hA := hA2
    have hB := hB2
    have hl2 : μc2 93 2 = ln := by rw [hC2.1 93 (by decide) (by decide)]; exact hlm
    have hlm := hl2
    have hs2 : μc2 88 9 = sh := by rw [hC2.2 9 (by decide) (by decide) (by decide)]; exact hsm
    have hsm := hs2
    have hd2 : μc2 88 10 = cu := by rw [hC2.2 10 (by decide) (by decide) (by decide)]; exact hcm
    have hcm := hd2
    refine pm_if hK zmm255 .eq 25 75 rfl rfl (fun h1 => ?_) (fun h1 => ?_)
    · have h1 : x2 = (0 : Int) := h1
      refine pm_blk hK zmm255 [] 1 76 [(2, 88), (0, 1)] [(0, 0)] μc2 [] rfl trivial ?_
      first
      | (obtain ⟨f, f1, f2⟩ := hB h1; exact pm_zret rfl rfl (by first | exact Or.inl rfl | exact Or.inr rfl | omega) ⟨0, f, j, rfl, hTc2, hF, zPa1_0 f1 (by omega), Or.inr ⟨rfl, zf12 f1, f2⟩⟩)
      | (obtain ⟨f, f1, f2⟩ := hB h1; exact pm_zret rfl rfl (by first | exact Or.inl rfl | exact Or.inr rfl | omega) ⟨0, f, j + 1, rfl, hTc2, hF, zPa1_1 b0 (by omega) f1, Or.inr ⟨rfl, zf1 f1, f2⟩⟩)
      | (obtain ⟨f, f1, f2⟩ := hB h1; exact pm_zret rfl rfl (by first | exact Or.inl rfl | exact Or.inr rfl | omega) ⟨0, f, j + 2, rfl, hTc2, hF, zPa1_2 b0 (by omega) b1 f1, Or.inr ⟨rfl, zf12 f1, f2⟩⟩)
      | (rcases hQ with ⟨a1, -⟩ | ⟨-, g1, hfl⟩
         · omega
         · exact pm_zret rfl rfl (by first | exact Or.inl rfl | exact Or.inr rfl | omega) ⟨0, gg, pp, rfl, hTc2, hF, zPa1_w b0 (by omega) b1 b2 hPP, Or.inr ⟨rfl, g1, hfl⟩⟩)
      | (rcases hQ with ⟨-, g0, hc, m3⟩ | ⟨a1, -⟩
         · exact pm_zret rfl rfl (by first | exact Or.inl rfl | exact Or.inr rfl | omega) ⟨1, 0, pp, rfl, hTc2, hF, zPa1_w b0 (by omega) b1 b2 (g0 ▸ hPP), Or.inl ⟨rfl, rfl, hc, by rw [m3, m2, m1, m0]; simp only [e131]⟩⟩
         · omega)
      | (exfalso; omega)
    · have h1 : x2 ≠ (0 : Int) := h1
      obtain ⟨-, b1, hc, m1⟩ := hA h1
      refine pm_blk hK zmm255 [] 4 58 [(2, 88), (0, 1)] [(0, 11), (0, 0), (0, 1), (2, 88)] μc2 [] rfl trivial ?_
      refine pm_call hK zmm255 (146, 0, 256, 3) zM256 (2, 45) [(2, 88), (0, 1), (0, 0), (0, 11)] [] rfl rfl rfl rfl ⟨by omega, by rw [zn256]; omega⟩ (zg_num hK (c := 1) (lo := 0) (hi := 11) (j := j + 2) (j1 := j + 3) hc hKn (by omega) hTc2 hlm ⟨by omega, by omega⟩ ⟨by omega, by omega⟩ (by omega) (by omega) hb88 hb94 ⟨Nat.le_refl _, Nat.le_refl _⟩) (fun st3 μc3 hp3 => ?_)
      obtain ⟨x3, rfl, hTc3, hC3, hA3, hB3⟩ := hp3
      have hx301 : x3 = 0 ∨ x3 = 1 := by by_cases h9 : x3 = 0; exact Or.inl h9; exact Or.inr (hA3 h9).1
      have hF := zCf_tr hF hC3
      have hA := hA3
      have hB := hB3
      have hl3 : μc3 93 2 = ln := by rw [hC3.1 93 (by decide) (by decide)]; exact hlm
      have hlm := hl3
      have hs3 : μc3 88 9 = sh := by rw [hC3.2 9 (by decide) (by decide) (by decide)]; exact hsm
      have hsm := hs3
      have hd3 : μc3 88 10 = cu := by rw [hC3.2 10 (by decide) (by decide) (by decide)]; exact hcm
      have hcm := hd3
      refine pm_if hK zmm255 .eq 14 75 rfl rfl (fun h2 => ?_) (fun h2 => ?_)
      · have h2 : x3 = (0 : Int) := h2
        refine pm_blk hK zmm255 [] 1 76 [(2, 88), (0, 1)] [(0, 0)] μc3 [] rfl trivial ?_
        first
        | (obtain ⟨f, f1, f2⟩ := hB h2; exact pm_zret rfl rfl (by first | exact Or.inl rfl | exact Or.inr rfl | omega) ⟨0, f, j, rfl, hTc3, hF, zPa1_0 f1 (by omega), Or.inr ⟨rfl, zf12 f1, f2⟩⟩)
        | (obtain ⟨f, f1, f2⟩ := hB h2; exact pm_zret rfl rfl (by first | exact Or.inl rfl | exact Or.inr rfl | omega) ⟨0, f, j + 1, rfl, hTc3, hF, zPa1_1 b0 (by omega) f1, Or.inr ⟨rfl, zf1 f1, f2⟩⟩)
        | (obtain ⟨f, f1, f2⟩ := hB h2; exact pm_zret rfl rfl (by first | exact Or.inl rfl | exact Or.inr rfl | omega) ⟨0, f, j + 2, rfl, hTc3, hF, zPa1_2 b0 (by omega) b1 f1, Or.inr ⟨rfl, zf12 f1, f2⟩⟩)
        | (rcases hQ with ⟨a1, -⟩ | ⟨-, g1, hfl⟩
           · omega
           · exact pm_zret rfl rfl (by first | exact Or.inl rfl | exact Or.inr rfl | omega) ⟨0, gg, pp, rfl, hTc3, hF, zPa1_w b0 (by omega) b1 b2 hPP, Or.inr ⟨rfl, g1, hfl⟩⟩)
        | (rcases hQ with ⟨-, g0, hc, m3⟩ | ⟨a1, -⟩
           · exact pm_zret rfl rfl (by first | exact Or.inl rfl | exact Or.inr rfl | omega) ⟨1, 0, pp, rfl, hTc3, hF, zPa1_w b0 (by omega) b1 b2 (g0 ▸ hPP), Or.inl ⟨rfl, rfl, hc, by rw [m3, m2, m1, m0]; simp only [e131]⟩⟩
           · omega)
        | (exfalso; omega)
      · have h2 : x3 ≠ (0 : Int) := h2
        obtain ⟨-, b2, hc, m2⟩ := hA h2
        refine pm_blk hK zmm255 [] 1 65 [(2, 88), (0, 1)] [(2, 88)] μc3 [] rfl trivial ?_
        refine pm_call hK zmm255 (149, 0, 257, 0) zM257 (3, 69) [(2, 88)] [] rfl rfl rfl rfl ⟨by omega, by rw [zn257]; omega⟩ (zg_where hK (j := j + 3) hc hKn hTc3 hlm ⟨by omega, by omega⟩ hsm hcm hb88 hb94 ⟨Nat.le_refl _, Nat.le_refl _⟩) (fun st4 μc4 hp4 => ?_)
        obtain ⟨x4, gg, pp, rfl, hTc4, hC4, hPP, hQ⟩ := hp4
        have hx401 : x4 = 0 ∨ x4 = 1 := by rcases hQ with q | q; exact Or.inr q.1; exact Or.inl q.1
        have hF := zCf_tr hF hC4
        refine pm_if hK zmm255 .eq 7 75 rfl rfl (fun h3 => ?_) (fun h3 => ?_)
        · have h3 : x4 = (0 : Int) := h3
          refine pm_blk hK zmm255 [] 1 76 [(2, 88), (0, 1)] [(0, 0)] μc4 [] rfl trivial ?_
          first
          | (obtain ⟨f, f1, f2⟩ := hB h3; exact pm_zret rfl rfl (by first | exact Or.inl rfl | exact Or.inr rfl | omega) ⟨0, f, j, rfl, hTc4, hF, zPa1_0 f1 (by omega), Or.inr ⟨rfl, zf12 f1, f2⟩⟩)
          | (obtain ⟨f, f1, f2⟩ := hB h3; exact pm_zret rfl rfl (by first | exact Or.inl rfl | exact Or.inr rfl | omega) ⟨0, f, j + 1, rfl, hTc4, hF, zPa1_1 b0 (by omega) f1, Or.inr ⟨rfl, zf1 f1, f2⟩⟩)
          | (obtain ⟨f, f1, f2⟩ := hB h3; exact pm_zret rfl rfl (by first | exact Or.inl rfl | exact Or.inr rfl | omega) ⟨0, f, j + 2, rfl, hTc4, hF, zPa1_2 b0 (by omega) b1 f1, Or.inr ⟨rfl, zf12 f1, f2⟩⟩)
          | (rcases hQ with ⟨a1, -⟩ | ⟨-, g1, hfl⟩
             · omega
             · exact pm_zret rfl rfl (by first | exact Or.inl rfl | exact Or.inr rfl | omega) ⟨0, gg, pp, rfl, hTc4, hF, zPa1_w b0 (by omega) b1 b2 hPP, Or.inr ⟨rfl, g1, hfl⟩⟩)
          | (rcases hQ with ⟨-, g0, hc, m3⟩ | ⟨a1, -⟩
             · exact pm_zret rfl rfl (by first | exact Or.inl rfl | exact Or.inr rfl | omega) ⟨1, 0, pp, rfl, hTc4, hF, zPa1_w b0 (by omega) b1 b2 (g0 ▸ hPP), Or.inl ⟨rfl, rfl, hc, by rw [m3, m2, m1, m0]; simp only [e131]⟩⟩
             · omega)
          | (exfalso; omega)
        · have h3 : x4 ≠ (0 : Int) := h3
          refine pm_blk hK zmm255 [] 2 76 [(2, 88), (0, 1)] [(0, 1)] μc4 [] rfl trivial ?_
          first
          | (obtain ⟨f, f1, f2⟩ := hB h3; exact pm_zret rfl rfl (by first | exact Or.inl rfl | exact Or.inr rfl | omega) ⟨0, f, j, rfl, hTc4, hF, zPa1_0 f1 (by omega), Or.inr ⟨rfl, zf12 f1, f2⟩⟩)
          | (obtain ⟨f, f1, f2⟩ := hB h3; exact pm_zret rfl rfl (by first | exact Or.inl rfl | exact Or.inr rfl | omega) ⟨0, f, j + 1, rfl, hTc4, hF, zPa1_1 b0 (by omega) f1, Or.inr ⟨rfl, zf1 f1, f2⟩⟩)
          | (obtain ⟨f, f1, f2⟩ := hB h3; exact pm_zret rfl rfl (by first | exact Or.inl rfl | exact Or.inr rfl | omega) ⟨0, f, j + 2, rfl, hTc4, hF, zPa1_2 b0 (by omega) b1 f1, Or.inr ⟨rfl, zf12 f1, f2⟩⟩)
          | (rcases hQ with ⟨a1, -⟩ | ⟨-, g1, hfl⟩
             · omega
             · exact pm_zret rfl rfl (by first | exact Or.inl rfl | exact Or.inr rfl | omega) ⟨0, gg, pp, rfl, hTc4, hF, zPa1_w b0 (by omega) b1 b2 hPP, Or.inr ⟨rfl, g1, hfl⟩⟩)
          | (rcases hQ with ⟨-, g0, hc, m3⟩ | ⟨a1, -⟩
             · exact pm_zret rfl rfl (by first | exact Or.inl rfl | exact Or.inr rfl | omega) ⟨1, 0, pp, rfl, hTc4, hF, zPa1_w b0 (by omega) b1 b2 (g0 ▸ hPP), Or.inl ⟨rfl, rfl, hc, by rw [m3, m2, m1, m0]; simp only [e131]⟩⟩
             · omega)
          | (exfalso; omega)
set_option maxRecDepth 100000 in
theorem zg_pl2 (hK : zKK ST) {ln sh cu : Int} {K S V : Int → Int} {n j : Int} (h : zCq K S V n j μ) (hKn : K n = 257) (hT : zTJ φ μ) (hln : μ 93 2 = ln) (hl : 0 ≤ ln ∧ ln ≤ 15) (hsh : μ 88 9 = sh) (hcu : μ 88 10 = cu) (hb88 : sx_bit Wm 88 = true) (hb94 : sx_bit Wm 94 = true) (hbd : 4 ≤ bud.1 ∧ 90 ≤ bud.2.1) : zC D Wm ST b0 l Sg zM255 bud [(2, 88), (0, 2)] μ (fun st' μ' => ∃ x f q, st' = [(0, x)] ∧ zTJ φ μ' ∧ zCf μ μ' ∧ zPa2 K V sh cu j f q ∧ ((x = 1 ∧ f = 0 ∧ zCq K S V n q μ' ∧ μ' 94 = zpu (zpu (zpu (zpu (μ 94) (ln * 4 + 0) (V j)) (ln * 4 + 1) (K (j + 1))) (ln * 4 + 2) (V (j + 2))) (ln * 4 + 3) (V (j + 3))) ∨ (x = 0 ∧ f ≠ 0 ∧ zFl S f q μ'))) := by
  have hc := h
  have hlm := hln
  have hsm := hsh
  have hcm := hcu
  have hF : zCf μ μ := zCf_refl
  obtain ⟨⟨q1, q2, q3⟩, q4, q5, q6⟩ := id h
  have fs := zT_get hT zs88_9 (i := 9) (by omega) (by omega)
  have fu := zT_get hT zs88_10 (i := 10) (by omega) (by omega)
  have e111 : j + 1 + 1 = j + 2 := by omega
  have e112 : j + 1 + 2 = j + 3 := by omega
  have e113 : j + 1 + 3 = j + 4 := by omega
  have e131 : j + 3 + 1 = j + 4 := by omega
  have e132 : j + 3 + 2 = j + 5 := by omega
  have e133 : j + 3 + 3 = j + 6 := by omega
  refine pm_blk hK zmm255 [] 1 1 [(2, 88), (0, 2)] [(0, 2)] μ [] rfl trivial ?_
  refine zp_lsw hK zmm255 (off := 76) (tgt := 77) rfl (by decide) (by decide) (by decide) ?_
  refine pm_blk hK zmm255 [] 4 83 [(2, 88), (0, 2)] [(0, 999), (0, 0), (0, 0), (2, 88)] μ [] rfl trivial ?_
  refine pm_call hK zmm255 (146, 0, 256, 3) zM256 (2, 45) [(2, 88), (0, 0), (0, 0), (0, 999)] [] rfl rfl rfl rfl ⟨by omega, by rw [zn256]; omega⟩ (zg_num hK (c := 0) (lo := 0) (hi := 999) (j := j) (j1 := j + 1) hc hKn (by omega) hT hlm ⟨by omega, by omega⟩ ⟨by omega, by omega⟩ (by omega) (by omega) hb88 hb94 ⟨Nat.le_refl _, Nat.le_refl _⟩) (fun st1 μc1 hp1 => ?_)
  obtain ⟨x1, rfl, hTc1, hC1, hA1, hB1⟩ := hp1
  have hx101 : x1 = 0 ∨ x1 = 1 := by by_cases h9 : x1 = 0; exact Or.inl h9; exact Or.inr (hA1 h9).1
  have hF := zCf_tr hF hC1
  have hA := hA1
  have hB := hB1
  have hl1 : μc1 93 2 = ln := by rw [hC1.1 93 (by decide) (by decide)]; exact hlm
  have hlm := hl1
  have hs1 : μc1 88 9 = sh := by rw [hC1.2 9 (by decide) (by decide) (by decide)]; exact hsm
  have hsm := hs1
  have hd1 : μc1 88 10 = cu := by rw [hC1.2 10 (by decide) (by decide) (by decide)]; exact hcm
  have hcm := hd1
  refine pm_if hK zmm255 .eq 14 100 rfl rfl (fun h0 => ?_) (fun h0 => ?_)
  · have h0 : x1 = (0 : Int) := h0
    refine pm_blk hK zmm255 [] 1 101 [(2, 88), (0, 2)] [(0, 0)] μc1 [] rfl trivial ?_
    first
    | (obtain ⟨f, f1, f2⟩ := hB h0; exact pm_zret rfl rfl (by first | exact Or.inl rfl | exact Or.inr rfl | omega) ⟨0, f, j, rfl, hTc1, hF, zPa2_0 f1, Or.inr ⟨rfl, zf12 f1, f2⟩⟩)
    | (rcases hQ with ⟨a1, -⟩ | ⟨-, g1, hfl⟩
       · omega
       · exact pm_zret rfl rfl (by first | exact Or.inl rfl | exact Or.inr rfl | omega) ⟨0, gg, pp, rfl, hTc1, hF, zPa2_w b0 hPP, Or.inr ⟨rfl, g1, hfl⟩⟩)
    | (rcases hQ with ⟨-, g0, hc, m3⟩ | ⟨a1, -⟩
       · exact pm_zret rfl rfl (by first | exact Or.inl rfl | exact Or.inr rfl | omega) ⟨1, 0, pp, rfl, hTc1, hF, zPa2_w b0 (g0 ▸ hPP), Or.inl ⟨rfl, rfl, hc, by rw [m3, m0]; simp only [e111, e112]⟩⟩
       · omega)
    | (exfalso; omega)
  · have h0 : x1 ≠ (0 : Int) := h0
    obtain ⟨-, b0, hc, m0⟩ := hA h0
    refine pm_blk hK zmm255 [] 1 90 [(2, 88), (0, 2)] [(2, 88)] μc1 [] rfl trivial ?_
    refine pm_call hK zmm255 (152, 0, 258, 0) zM258 (3, 69) [(2, 88)] [] rfl rfl rfl rfl ⟨by omega, by rw [zn258]; omega⟩ (zg_day hK (j := j + 1) hc hKn hTc1 hlm ⟨by omega, by omega⟩ hsm hcm hb88 hb94 ⟨Nat.le_refl _, Nat.le_refl _⟩) (fun st2 μc2 hp2 => ?_)
    obtain ⟨x2, gg, pp, rfl, hTc2, hC2, hPP, hQ⟩ := hp2
    have hx201 : x2 = 0 ∨ x2 = 1 := by rcases hQ with q | q; exact Or.inr q.1; exact Or.inl q.1
    have hF := zCf_tr hF hC2
    refine pm_if hK zmm255 .eq 7 100 rfl rfl (fun h1 => ?_) (fun h1 => ?_)
    · have h1 : x2 = (0 : Int) := h1
      refine pm_blk hK zmm255 [] 1 101 [(2, 88), (0, 2)] [(0, 0)] μc2 [] rfl trivial ?_
      first
      | (obtain ⟨f, f1, f2⟩ := hB h1; exact pm_zret rfl rfl (by first | exact Or.inl rfl | exact Or.inr rfl | omega) ⟨0, f, j, rfl, hTc2, hF, zPa2_0 f1, Or.inr ⟨rfl, zf12 f1, f2⟩⟩)
      | (rcases hQ with ⟨a1, -⟩ | ⟨-, g1, hfl⟩
         · omega
         · exact pm_zret rfl rfl (by first | exact Or.inl rfl | exact Or.inr rfl | omega) ⟨0, gg, pp, rfl, hTc2, hF, zPa2_w b0 hPP, Or.inr ⟨rfl, g1, hfl⟩⟩)
      | (rcases hQ with ⟨-, g0, hc, m3⟩ | ⟨a1, -⟩
         · exact pm_zret rfl rfl (by first | exact Or.inl rfl | exact Or.inr rfl | omega) ⟨1, 0, pp, rfl, hTc2, hF, zPa2_w b0 (g0 ▸ hPP), Or.inl ⟨rfl, rfl, hc, by rw [m3, m0]; simp only [e111, e112]⟩⟩
         · omega)
      | (exfalso; omega)
    · have h1 : x2 ≠ (0 : Int) := h1
      refine pm_blk hK zmm255 [] 2 101 [(2, 88), (0, 2)] [(0, 1)] μc2 [] rfl trivial ?_
      first
      | (obtain ⟨f, f1, f2⟩ := hB h1; exact pm_zret rfl rfl (by first | exact Or.inl rfl | exact Or.inr rfl | omega) ⟨0, f, j, rfl, hTc2, hF, zPa2_0 f1, Or.inr ⟨rfl, zf12 f1, f2⟩⟩)
      | (rcases hQ with ⟨a1, -⟩ | ⟨-, g1, hfl⟩
         · omega
         · exact pm_zret rfl rfl (by first | exact Or.inl rfl | exact Or.inr rfl | omega) ⟨0, gg, pp, rfl, hTc2, hF, zPa2_w b0 hPP, Or.inr ⟨rfl, g1, hfl⟩⟩)
      | (rcases hQ with ⟨-, g0, hc, m3⟩ | ⟨a1, -⟩
         · exact pm_zret rfl rfl (by first | exact Or.inl rfl | exact Or.inr rfl | omega) ⟨1, 0, pp, rfl, hTc2, hF, zPa2_w b0 (g0 ▸ hPP), Or.inl ⟨rfl, rfl, hc, by rw [m3, m0]; simp only [e111, e112]⟩⟩
         · omega)
      | (exfalso; omega)
end ZHW
