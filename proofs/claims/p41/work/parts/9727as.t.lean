/-! lines: small ones of the reference; walks printed by program (wip/p30/pmgen.py) and filled by hand -/
section ZHW
variable {φ : Option pm_Mem}
variable {D : va_G} {Wm : Nat} {ST : List (String × String × String × Nat)} {b0 : sx_B} {l : Launch} {Sg : Nat → Option Nat} {bud : sx_Bu} {μ : pm_Mem} {B0 : Nat → Prop} {J : (Nat → Option Nat) → Heap → Prop}
set_option maxRecDepth 100000 in
theorem zm_errs (hK : zKK ST) {k : Int} {T : Int → Int} {L : Int} {K S V : Int → Int} {n j : Int} {P : Nat → Int} (hx : zMx T L K S V n P μ) (h : zMs K S V n P j μ) (hT : zTJ φ μ) (hk3 : 0 ≤ k ∧ k ≤ 3) (hb205 : sx_bit Wm 205 = true) (hbd : 0 ≤ bud.1 ∧ 0 ≤ bud.2.1) : zC D Wm ST b0 l Sg zM278 bud [(2, 205), (0, k)] μ (fun st' μ' => st' = [(0, -1)] ∧ zTJ φ μ' ∧ zMr μ μ' ∧ zFm S k j μ') := by
  obtain ⟨q1, q2, q3, q4⟩ := id h
  refine pm_blk hK zmm278 [] 3 5 [(2, 205), (0, k)] [] (pm_up μ 205 29 k) [sx_bit Wm 205 = true] rfl ⟨hb205, trivial⟩ ?_
  obtain ⟨μ1, eμ1⟩ : ∃ μ', μ' = pm_up μ 205 29 k := ⟨_, rfl⟩
  rw [← eμ1]
  have hTμ1 : zTJ φ μ1 := by rw [eμ1]; exact zT_up hT zs205_29 rfl (i := 29) (by omega) (by omega) (by omega) (by omega)
  have w13 : μ1 205 13 = S j := by rw [eμ1, pm_up_ne (by decide)]; exact q2
  have f13 := zT_get hTμ1 zs205_13 (i := 13) (by omega) (by omega)
  have f1 := zT_get hTμ1 zs205_13 (i := 13) (by omega) (by omega)
  refine pm_blk hK zmm278 [] 4 13 [(2, 205), (0, k)] [] (pm_up μ1 205 30 (μ1 205 13)) [sx_bit Wm 205 = true] rfl ⟨hb205, trivial⟩ ?_
  obtain ⟨μ2, eμ2⟩ : ∃ μ', μ' = pm_up μ1 205 30 (μ1 205 13) := ⟨_, rfl⟩
  rw [← eμ2]
  have hTμ2 : zTJ φ μ2 := by rw [eμ2]; exact zT_up hTμ1 zs205_30 rfl (i := 30) (by omega) (by omega) (by omega) (by omega)
  refine pm_blk hK zmm278 [] 1 14 [(2, 205), (0, k)] [(0, (-1))] μ2 [] rfl trivial ?_
  exact pm_iret rfl rfl ⟨rfl, hTμ2, by rw [eμ2, eμ1]; exact zMr_up (zMr_up zMr_refl (by decide)) (by decide), by rw [eμ2, pm_up_ne (by decide), eμ1, pm_up_eq], by rw [eμ2, pm_up_eq, w13]⟩
set_option maxRecDepth 100000 in
theorem zm_isWord (hK : zKK ST) {w : Int} {kw : Int} {T : Int → Int} {L : Int} {K S V : Int → Int} {n j : Int} {P : Nat → Int} (hx : zMx T L K S V n P μ) (h : zMs K S V n P j μ) (hkw : 300 ≤ kw ∧ kw ≤ 327) (hw : zwM (kw - 300) = w) (hbd : 0 ≤ bud.1 ∧ 0 ≤ bud.2.1) : zC D Wm ST b0 l Sg zM142 bud [(2, 205), (0, w)] μ (fun st' μ' => μ = μ' ∧ ∃ x, st' = [(0, x)] ∧ ((x = 1 ∧ K j = kw) ∨ (x = 0 ∧ K j ≠ kw))) := by
  obtain ⟨q1, q2, q3, q4⟩ := id h
  have hk := zMs_k hx h
  obtain ⟨v1, v2, v3, v4, v5⟩ := id q3
  have hM := zwM_c (K j - 300)
  have hM2 := zwM_c (kw - 300)
  refine pm_blk hK zmm142 [] 3 5 [(2, 205), (0, w)] [(0, 2), (0, μ 205 14)] μ [] rfl trivial ?_
  refine pm_icmp hK zmm142 .ne 15 20 rfl rfl (fun h0 => ?_) (fun h0 => ?_)
  · have h0 : μ 205 14 ≠ (2 : Int) := h0
    refine pm_blk hK zmm142 [] 1 21 [(2, 205), (0, w)] [(0, 0)] μ [] rfl trivial ?_
    first
    | exact pm_zret rfl rfl (by first | exact Or.inl rfl | exact Or.inr rfl | omega) ⟨rfl, _, rfl, Or.inl ⟨rfl, by omega⟩⟩
    | exact pm_zret rfl rfl (by first | exact Or.inl rfl | exact Or.inr rfl | omega) ⟨rfl, _, rfl, Or.inr ⟨rfl, fun he => by have h9 := v3 (by omega); rw [he, hw] at h9; omega⟩⟩
    | (exfalso; omega)
  · have h0 : μ 205 14 = (2 : Int) := h0
    refine pm_blk hK zmm142 [] 3 13 [(2, 205), (0, w)] [(0, w), (0, μ 205 15)] μ [] rfl trivial ?_
    refine pm_icmp hK zmm142 .ne 7 20 rfl rfl (fun h1 => ?_) (fun h1 => ?_)
    · have h1 : μ 205 15 ≠ w := h1
      refine pm_blk hK zmm142 [] 1 21 [(2, 205), (0, w)] [(0, 0)] μ [] rfl trivial ?_
      first
      | exact pm_zret rfl rfl (by first | exact Or.inl rfl | exact Or.inr rfl | omega) ⟨rfl, _, rfl, Or.inl ⟨rfl, by omega⟩⟩
      | exact pm_zret rfl rfl (by first | exact Or.inl rfl | exact Or.inr rfl | omega) ⟨rfl, _, rfl, Or.inr ⟨rfl, fun he => by have h9 := v3 (by omega); rw [he, hw] at h9; omega⟩⟩
      | (exfalso; omega)
    · have h1 : μ 205 15 = w := h1
      refine pm_blk hK zmm142 [] 2 21 [(2, 205), (0, w)] [(0, 1)] μ [] rfl trivial ?_
      first
      | exact pm_zret rfl rfl (by first | exact Or.inl rfl | exact Or.inr rfl | omega) ⟨rfl, _, rfl, Or.inl ⟨rfl, by omega⟩⟩
      | exact pm_zret rfl rfl (by first | exact Or.inl rfl | exact Or.inr rfl | omega) ⟨rfl, _, rfl, Or.inr ⟨rfl, fun he => by have h9 := v3 (by omega); rw [he, hw] at h9; omega⟩⟩
      | (exfalso; omega)
set_option maxRecDepth 100000 in
theorem zm_isSign (hK : zKK ST) {c : Int} {T : Int → Int} {L : Int} {K S V : Int → Int} {n j : Int} {P : Nat → Int} (hx : zMx T L K S V n P μ) (h : zMs K S V n P j μ) (hc : c < 256) (hbd : 0 ≤ bud.1 ∧ 0 ≤ bud.2.1) : zC D Wm ST b0 l Sg zM283 bud [(2, 205), (0, c)] μ (fun st' μ' => μ = μ' ∧ ∃ x, st' = [(0, x)] ∧ ((x = 1 ∧ K j = c) ∨ (x = 0 ∧ K j ≠ c))) := by
  obtain ⟨q1, q2, q3, q4⟩ := id h
  have hk := zMs_k hx h
  obtain ⟨v1, v2, v3, v4, v5⟩ := id q3
  refine pm_blk hK zmm283 [] 3 5 [(2, 205), (0, c)] [(0, 4), (0, μ 205 14)] μ [] rfl trivial ?_
  refine pm_icmp hK zmm283 .ne 15 20 rfl rfl (fun h0 => ?_) (fun h0 => ?_)
  · have h0 : μ 205 14 ≠ (4 : Int) := h0
    refine pm_blk hK zmm283 [] 1 21 [(2, 205), (0, c)] [(0, 0)] μ [] rfl trivial ?_
    exact pm_zret rfl rfl (by first | exact Or.inl rfl | exact Or.inr rfl | omega) ⟨rfl, _, rfl, by omega⟩
  · have h0 : μ 205 14 = (4 : Int) := h0
    refine pm_blk hK zmm283 [] 3 13 [(2, 205), (0, c)] [(0, c), (0, μ 205 15)] μ [] rfl trivial ?_
    refine pm_icmp hK zmm283 .ne 7 20 rfl rfl (fun h1 => ?_) (fun h1 => ?_)
    · have h1 : μ 205 15 ≠ c := h1
      refine pm_blk hK zmm283 [] 1 21 [(2, 205), (0, c)] [(0, 0)] μ [] rfl trivial ?_
      exact pm_zret rfl rfl (by first | exact Or.inl rfl | exact Or.inr rfl | omega) ⟨rfl, _, rfl, by omega⟩
    · have h1 : μ 205 15 = c := h1
      refine pm_blk hK zmm283 [] 2 21 [(2, 205), (0, c)] [(0, 1)] μ [] rfl trivial ?_
      exact pm_zret rfl rfl (by first | exact Or.inl rfl | exact Or.inr rfl | omega) ⟨rfl, _, rfl, by omega⟩
set_option maxRecDepth 100000 in
theorem zm_num (hK : zKK ST) {lo hi : Int} {j1 : Int} {T : Int → Int} {L : Int} {K S V : Int → Int} {n j : Int} {P : Nat → Int} (hx : zMx T L K S V n P μ) (h : zMs K S V n P j μ) (hj1 : j1 = j + 1) (hlo : 0 ≤ lo) (hT : zTJ φ μ) (hb205 : sx_bit Wm 205 = true) (hbd : 3 ≤ bud.1 ∧ 65 ≤ bud.2.1) : zC D Wm ST b0 l Sg zM281 bud [(2, 205), (0, lo), (0, hi)] μ (fun st' μ' => ∃ x, st' = [(0, x)] ∧ zTJ φ μ' ∧ zMr μ μ' ∧ (x ≠ -1 → x = V j ∧ (K j = 256 ∧ lo ≤ V j ∧ V j ≤ hi) ∧ zMs K S V n P j1 μ') ∧ (x = -1 → zXi (fun f => ((f = 1 ∧ K j ≠ 256) ∨ (f = 2 ∧ K j = 256 ∧ ¬ (lo ≤ V j ∧ V j ≤ hi))) ∧ zFm S f j μ'))) := by
  obtain ⟨q1, q2, q3, q4⟩ := id h
  have hk := zMs_k hx h
  obtain ⟨v1, v2, v3, v4, v5⟩ := id q3
  have f1 := zT_get hT zs205_14 (i := 14) (by omega) (by omega)
  refine pm_blk hK zmm281 [] 3 5 [(2, 205), (0, lo), (0, hi), (9, 0)] [(0, 3), (0, μ 205 14)] μ [] rfl trivial ?_
  refine pm_icmp hK zmm281 .eq 9 14 rfl rfl (fun h0 => ?_) (fun h0 => ?_)
  · have h0 : μ 205 14 = (3 : Int) := h0
    have h256 : K j = 256 := by omega
    have hjn : j < n := by omega
    have hvj : μ 205 15 = V j := (v4 h256).2
    have f2 := zT_get hT zs205_15 (i := 15) (by omega) (by omega)
    refine pm_blk hK zmm281 [] 5 21 [(2, 205), (0, lo), (0, hi), (9, 0)] [(0, hi), (0, lo), (0, μ 205 15), (2, 205)] μ [] rfl trivial ?_
    refine pm_call hK zmm281 (158, 0, 129, 3) zM129 (0, 0) [(2, 205), (0, μ 205 15), (0, lo), (0, hi)] [] rfl rfl rfl rfl ⟨by omega, by rw [zn129]; omega⟩ (zh_isIn hK ⟨by omega, by omega⟩) (fun st1 μc1 hp1 => ?_)
    obtain ⟨rfl, rfl⟩ := hp1
    refine pm_if hK zmm281 .ne 9 33 rfl rfl (fun h1 => ?_) (fun h1 => ?_)
    · have h1 : (if lo ≤ (μ 205 15) ∧ (μ 205 15) ≤ hi then 1 else 0 : Int) ≠ (0 : Int) := h1
      have h1 := zif1 h1
      have hrg := h1
      rw [hvj] at hrg
      refine pm_blk hK zmm281 [] 4 39 [(2, 205), (0, lo), (0, hi), (0, μ 205 15)] [(2, 205)] μ [] rfl trivial ?_
      refine pm_call hK zmm281 (223, 0, 139, 0) zM139 (2, 44) [(2, 205)] [] rfl rfl rfl rfl ⟨by omega, by rw [zn139]; omega⟩ (zt_reads hK hT (zMs_sp hx h hjn) hb205 ⟨Nat.le_refl _, Nat.le_refl _⟩) (fun st2 μc2 hp2 => ?_)
      obtain ⟨rfl, hTc2, hr2⟩ := hp2
      have hMn := zMs_rd hx h hjn hr2
      have hFn := zMr_fr hr2.1
      refine pm_blk hK zmm281 [] 1 43 [(2, 205), (0, lo), (0, hi), (0, μ 205 15)] [(0, μ 205 15)] μc2 [] rfl trivial ?_
      obtain rfl : j1 = j + 1 := hj1
      exact pm_iret rfl rfl ⟨_, rfl, hTc2, hFn, fun _ => ⟨hvj, ⟨h256, hrg⟩, hMn⟩, fun h9 => by omega⟩
    · have h1 : (if lo ≤ (μ 205 15) ∧ (μ 205 15) ≤ hi then 1 else 0 : Int) = (0 : Int) := h1
      have h1 := zif0 h1
      refine pm_blk hK zmm281 [] 2 29 [(2, 205), (0, lo), (0, hi), (9, 0)] [(0, 2), (2, 205)] μ [] rfl trivial ?_
      refine pm_call hK zmm281 (216, 0, 278, 1) zM278 (0, 0) [(2, 205), (0, 2)] [] rfl rfl rfl rfl ⟨by omega, by rw [zn278]; omega⟩ (zm_errs hK hx h hT ⟨by omega, by omega⟩ hb205 ⟨Nat.le_refl _, Nat.le_refl _⟩) (fun st3 μc3 hp3 => ?_)
      obtain ⟨rfl, hTc3, hF3, hf3⟩ := hp3
      have hFe := hF3
      have hff := hf3
      have hrg := h1
      rw [hvj] at hrg
      exact pm_iret rfl rfl ⟨_, rfl, hTc3, hFe, fun h9 => absurd rfl h9, fun _ => zXi_i 2 ⟨Or.inr ⟨rfl, h256, hrg⟩, hff⟩⟩
  · have h0 : μ 205 14 ≠ (3 : Int) := h0
    refine pm_blk hK zmm281 [] 2 10 [(2, 205), (0, lo), (0, hi), (9, 0)] [(0, 1), (2, 205)] μ [] rfl trivial ?_
    refine pm_call hK zmm281 (216, 0, 278, 1) zM278 (0, 0) [(2, 205), (0, 1)] [] rfl rfl rfl rfl ⟨by omega, by rw [zn278]; omega⟩ (zm_errs hK hx h hT ⟨by omega, by omega⟩ hb205 ⟨Nat.le_refl _, Nat.le_refl _⟩) (fun st4 μc4 hp4 => ?_)
    obtain ⟨rfl, hTc4, hF4, hf4⟩ := hp4
    have hFe := hF4
    have hff := hf4
    exact pm_iret rfl rfl ⟨_, rfl, hTc4, hFe, fun h9 => absurd rfl h9, fun _ => zXi_i 1 ⟨Or.inl ⟨rfl, by omega⟩, hff⟩⟩
set_option maxRecDepth 100000 in
theorem zm_mark (hK : zKK ST) {c : Int} {j1 : Int} {T : Int → Int} {L : Int} {K S V : Int → Int} {n j : Int} {P : Nat → Int} (hx : zMx T L K S V n P μ) (h : zMs K S V n P j μ) (hj1 : j1 = j + 1) (hc : c < 256) (hT : zTJ φ μ) (hb205 : sx_bit Wm 205 = true) (hbd : 3 ≤ bud.1 ∧ 65 ≤ bud.2.1) : zC D Wm ST b0 l Sg zM282 bud [(2, 205), (0, c)] μ (fun st' μ' => ∃ x, st' = [(0, x)] ∧ zTJ φ μ' ∧ zMr μ μ' ∧ (x ≠ -1 → x = 0 ∧ K j = c ∧ zMs K S V n P j1 μ') ∧ (x = -1 → zXi (fun f => (f = 1 ∧ K j ≠ c) ∧ zFm S f j μ'))) := by
  obtain ⟨q1, q2, q3, q4⟩ := id h
  have hk := zMs_k hx h
  obtain ⟨v1, v2, v3, v4, v5⟩ := id q3
  refine pm_blk hK zmm282 [] 2 2 [(2, 205), (0, c)] [(0, c), (2, 205)] μ [] rfl trivial ?_
  refine pm_call hK zmm282 (230, 0, 283, 1) zM283 (0, 0) [(2, 205), (0, c)] [] rfl rfl rfl rfl ⟨by omega, by rw [zn283]; omega⟩ (zm_isSign hK hx h hc ⟨Nat.le_refl _, Nat.le_refl _⟩) (fun st1 μc1 hp1 => ?_)
  obtain ⟨rfl, x1, rfl, hx1⟩ := hp1
  have hxs := hx1
  refine pm_if hK zmm282 .ne 9 14 rfl rfl (fun h0 => ?_) (fun h0 => ?_)
  · have h0 : x1 ≠ (0 : Int) := h0
    have hkc : K j = c := by omega
    have hjn : j < n := by omega
    refine pm_blk hK zmm282 [] 1 15 [(2, 205), (0, c)] [(2, 205)] μ [] rfl trivial ?_
    refine pm_call hK zmm282 (223, 0, 139, 0) zM139 (2, 44) [(2, 205)] [] rfl rfl rfl rfl ⟨by omega, by rw [zn139]; omega⟩ (zt_reads hK hT (zMs_sp hx h hjn) hb205 ⟨Nat.le_refl _, Nat.le_refl _⟩) (fun st2 μc2 hp2 => ?_)
    obtain ⟨rfl, hTc2, hr2⟩ := hp2
    have hMn := zMs_rd hx h hjn hr2
    have hFn := zMr_fr hr2.1
    refine pm_blk hK zmm282 [] 1 19 [(2, 205), (0, c)] [(0, 0)] μc2 [] rfl trivial ?_
    obtain rfl : j1 = j + 1 := hj1
    exact pm_iret rfl rfl ⟨_, rfl, hTc2, hFn, fun _ => ⟨rfl, hkc, hMn⟩, fun h9 => by omega⟩
  · have h0 : x1 = (0 : Int) := h0
    refine pm_blk hK zmm282 [] 2 10 [(2, 205), (0, c)] [(0, 1), (2, 205)] μ [] rfl trivial ?_
    refine pm_call hK zmm282 (216, 0, 278, 1) zM278 (0, 0) [(2, 205), (0, 1)] [] rfl rfl rfl rfl ⟨by omega, by rw [zn278]; omega⟩ (zm_errs hK hx h hT ⟨by omega, by omega⟩ hb205 ⟨Nat.le_refl _, Nat.le_refl _⟩) (fun st3 μc3 hp3 => ?_)
    obtain ⟨rfl, hTc3, hF3, hf3⟩ := hp3
    have hFe := hF3
    have hff := hf3
    exact pm_iret rfl rfl ⟨_, rfl, hTc3, hFe, fun h9 => absurd rfl h9, fun _ => zXi_i 1 ⟨⟨rfl, by omega⟩, hff⟩⟩
set_option maxRecDepth 100000 in
theorem zm_told (hK : zKK ST) {w lo hi : Int} {kw j2 : Int} {T : Int → Int} {L : Int} {K S V : Int → Int} {n j : Int} {P : Nat → Int} (hx : zMx T L K S V n P μ) (h : zMs K S V n P j μ) (hj2 : j2 = j + 2) (hkw : 300 ≤ kw ∧ kw ≤ 327) (hw : zwM (kw - 300) = w) (hlo : 0 ≤ lo) (hT : zTJ φ μ) (hb205 : sx_bit Wm 205 = true) (hbd : 4 ≤ bud.1 ∧ 88 ≤ bud.2.1) : zC D Wm ST b0 l Sg zM280 bud [(2, 205), (0, w), (0, lo), (0, hi)] μ (fun st' μ' => ∃ x, st' = [(0, x)] ∧ zTJ φ μ' ∧ zMr μ μ' ∧ (x ≠ -1 → x = V (j + 1) ∧ (K j = kw ∧ K (j + 1) = 256 ∧ lo ≤ V (j + 1) ∧ V (j + 1) ≤ hi) ∧ zMs K S V n P j2 μ') ∧ (x = -1 → zXi2 (fun f q => ((f = 1 ∧ q = j ∧ K j ≠ kw) ∨ (f = 1 ∧ q = j + 1 ∧ K j = kw ∧ K (j + 1) ≠ 256) ∨ (f = 2 ∧ q = j + 1 ∧ K j = kw ∧ K (j + 1) = 256 ∧ ¬ (lo ≤ V (j + 1) ∧ V (j + 1) ≤ hi))) ∧ zFm S f q μ'))) := by
  have hm := h
  have hF : zMr μ μ := zMr_refl
  have hk := zMs_k hx hm
  refine pm_blk hK zmm280 [] 2 2 [(2, 205), (0, w), (0, lo), (0, hi)] [(0, w), (2, 205)] μ [] rfl trivial ?_
  refine pm_call hK zmm280 (245, 0, 142, 1) zM142 (0, 0) [(2, 205), (0, w)] [] rfl rfl rfl rfl ⟨by omega, by rw [zn142]; omega⟩ (zm_isWord hK (kw := kw) hx hm hkw hw ⟨Nat.le_refl _, Nat.le_refl _⟩) (fun st1 μc1 hp1 => ?_)
  obtain ⟨rfl, x1, rfl, hw1⟩ := hp1
  have hw := hw1
  refine pm_if hK zmm280 .ne 9 14 rfl rfl (fun h0 => ?_) (fun h0 => ?_)
  · have h0 : x1 ≠ (0 : Int) := h0
    have hkj : K j = kw := by omega
    refine pm_blk hK zmm280 [] 1 15 [(2, 205), (0, w), (0, lo), (0, hi)] [(2, 205)] μ [] rfl trivial ?_
    refine pm_call hK zmm280 (223, 0, 139, 0) zM139 (2, 44) [(2, 205)] [] rfl rfl rfl rfl ⟨by omega, by rw [zn139]; omega⟩ (zt_reads hK hT (zMs_sp hx hm (by omega)) hb205 ⟨Nat.le_refl _, Nat.le_refl _⟩) (fun st2 μc2 hp2 => ?_)
    obtain ⟨rfl, hTc2, hr2⟩ := hp2
    have hm := zMs_rd hx hm (by omega) hr2
    have hm : zMs K S V n P (j + 1) μc2 := hm
    have hF := zMr_tr hF (zMr_fr hr2.1)
    have hx := zMx_f hx (zMf_fr hr2.1)
    have hk := zMs_k hx hm
    refine pm_blk hK zmm280 [] 3 21 [(2, 205), (0, w), (0, lo), (0, hi)] [(0, hi), (0, lo), (2, 205)] μc2 [] rfl trivial ?_
    refine pm_call hK zmm280 (267, 0, 281, 2) zM281 (3, 65) [(2, 205), (0, lo), (0, hi)] [] rfl rfl rfl rfl ⟨by omega, by rw [zn281]; omega⟩ (zm_num hK (lo := lo) (hi := hi) (j := j + 1) (j1 := j + 2) hx hm (by omega) (by omega) hTc2 hb205 ⟨Nat.le_refl _, Nat.le_refl _⟩) (fun st3 μc3 hp3 => ?_)
    obtain ⟨x3, rfl, hTc3, hF3, hA3, hB3⟩ := hp3
    have hF := zMr_tr hF hF3
    have hx := zMx_f hx (zMf_r hF3)
    have hA := hA3
    have hB := hB3
    obtain rfl : j2 = j + 2 := hj2
    refine pm_iret rfl rfl ⟨_, rfl, hTc3, hF, fun h9 => ?_, fun h9 => ?_⟩
    · obtain ⟨a1, a2, a3⟩ := hA h9
      exact ⟨a1, ⟨hkj, a2⟩, a3⟩
    · obtain ⟨f, f1, f2⟩ := hB h9
      exact zXi2_i f (j + 1) ⟨by omega, f2⟩
  · have h0 : x1 = (0 : Int) := h0
    refine pm_blk hK zmm280 [] 2 10 [(2, 205), (0, w), (0, lo), (0, hi)] [(0, 1), (2, 205)] μ [] rfl trivial ?_
    refine pm_call hK zmm280 (216, 0, 278, 1) zM278 (0, 0) [(2, 205), (0, 1)] [] rfl rfl rfl rfl ⟨by omega, by rw [zn278]; omega⟩ (zm_errs hK (j := j) hx hm hT ⟨by omega, by omega⟩ hb205 ⟨Nat.le_refl _, Nat.le_refl _⟩) (fun st4 μc4 hp4 => ?_)
    obtain ⟨rfl, hTc4, hF4, hf4⟩ := hp4
    have hF := zMr_tr hF hF4
    have hff := hf4
    exact pm_iret rfl rfl ⟨_, rfl, hTc4, hF, fun h9 => absurd rfl h9, fun _ => zXi2_i 1 j ⟨Or.inl ⟨rfl, rfl, by omega⟩, hff⟩⟩
end ZHW
