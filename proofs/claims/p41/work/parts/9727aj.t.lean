/-! lines: small ones of the class; walks printed by program (wip/p30/pmgen.py) and filled by hand -/
section ZHW
variable {φ : Option pm_Mem}
variable {D : va_G} {Wm : Nat} {ST : List (String × String × String × Nat)} {b0 : sx_B} {l : Launch} {Sg : Nat → Option Nat} {bud : sx_Bu} {μ : pm_Mem} {B0 : Nat → Prop} {J : (Nat → Option Nat) → Heap → Prop}
set_option maxRecDepth 100000 in
theorem zg_kind (hK : zKK ST) {K S V : Int → Int} {n j : Int} (h : zCq K S V n j μ)  (hbd : 0 ≤ bud.1 ∧ 0 ≤ bud.2.1) : zC D Wm ST b0 l Sg zM53 bud [(2, 88)] μ (fun st' μ' => μ = μ' ∧ st' = [(0, K j)]) := by
  obtain ⟨⟨q1, q2, q3⟩, q4, q5, q6⟩ := id h
  refine pm_blk hK zmm53 [] 2 4 [(2, 88)] [(0, μ 88 8)] μ [] rfl trivial ?_
  refine pm_if hK zmm53 .lt 26 30 rfl rfl (fun h0 => ?_) (fun h0 => ?_)
  · have h0 : μ 88 8 < (0 : Int) := h0
    refine pm_blk hK zmm53 [] 1 33 [(2, 88)] [(0, 257)] μ [] rfl trivial ?_
    exact pm_iret rfl rfl ⟨rfl, by first | (exfalso; omega) | rw [q5, q1]⟩
  · have h0 : (0 : Int) ≤ μ 88 8 := h0
    refine pm_blk hK zmm53 [] 4 15 [(2, 88)] [(0, μ 88 7), (0, μ 88 8)] μ [] rfl trivial ?_
    refine pm_icmp hK zmm53 .ge 15 30 rfl rfl (fun h1 => ?_) (fun h1 => ?_)
    · have h1 : μ 88 7 ≤ μ 88 8 := h1
      refine pm_blk hK zmm53 [] 1 33 [(2, 88)] [(0, 257)] μ [] rfl trivial ?_
      exact pm_iret rfl rfl ⟨rfl, by first | (exfalso; omega) | rw [q5, q1]⟩
    · have h1 : μ 88 8 < μ 88 7 := h1
      refine pm_blk hK zmm53 [] 6 33 [(2, 88)] [(0, μ 90 (μ 88 8))] μ [0 ≤ μ 88 8 ∧ μ 88 8 < 401] rfl ⟨⟨by omega, by omega⟩, trivial⟩ ?_
      exact pm_iret rfl rfl ⟨rfl, by first | (exfalso; omega) | rw [q5, q1]⟩
set_option maxRecDepth 100000 in
theorem zg_number (hK : zKK ST) {K S V : Int → Int} {n j : Int} (h : zCq K S V n j μ)  (hbd : 0 ≤ bud.1 ∧ 0 ≤ bud.2.1) : zC D Wm ST b0 l Sg zM247 bud [(2, 88)] μ (fun st' μ' => μ = μ' ∧ st' = [(0, V j)]) := by
  obtain ⟨⟨q1, q2, q3⟩, q4, q5, q6⟩ := id h
  refine pm_blk hK zmm247 [] 2 4 [(2, 88)] [(0, μ 88 8)] μ [] rfl trivial ?_
  refine pm_if hK zmm247 .lt 26 30 rfl rfl (fun h0 => ?_) (fun h0 => ?_)
  · have h0 : μ 88 8 < (0 : Int) := h0
    refine pm_blk hK zmm247 [] 1 31 [(2, 88)] [(0, 0)] μ [] rfl trivial ?_
    exact pm_iret rfl rfl ⟨rfl, by first | (exfalso; omega) | rw [q5, q3]⟩
  · have h0 : (0 : Int) ≤ μ 88 8 := h0
    refine pm_blk hK zmm247 [] 4 15 [(2, 88)] [(0, μ 88 7), (0, μ 88 8)] μ [] rfl trivial ?_
    refine pm_icmp hK zmm247 .ge 15 30 rfl rfl (fun h1 => ?_) (fun h1 => ?_)
    · have h1 : μ 88 7 ≤ μ 88 8 := h1
      refine pm_blk hK zmm247 [] 1 31 [(2, 88)] [(0, 0)] μ [] rfl trivial ?_
      exact pm_iret rfl rfl ⟨rfl, by first | (exfalso; omega) | rw [q5, q3]⟩
    · have h1 : μ 88 8 < μ 88 7 := h1
      refine pm_blk hK zmm247 [] 6 31 [(2, 88)] [(0, μ 92 (μ 88 8))] μ [0 ≤ μ 88 8 ∧ μ 88 8 < 401] rfl ⟨⟨by omega, by omega⟩, trivial⟩ ?_
      exact pm_iret rfl rfl ⟨rfl, by first | (exfalso; omega) | rw [q5, q3]⟩
set_option maxRecDepth 100000 in
theorem zg_wrong (hK : zKK ST) {f : Int} {K S V : Int → Int} {n j : Int} (h : zCq K S V n j μ) (hT : zTJ φ μ) (hf : 0 ≤ f ∧ f ≤ 3) (hb88 : sx_bit Wm 88 = true) (hbd : 0 ≤ bud.1 ∧ 0 ≤ bud.2.1) : zC D Wm ST b0 l Sg zM242 bud [(2, 88), (0, f)] μ (fun st' μ' => st' = [(0, 0)] ∧ zTJ φ μ' ∧ zCf μ μ' ∧ zFl S f j μ') := by
  obtain ⟨⟨q1, q2, q3⟩, q4, q5, q6⟩ := id h
  refine pm_blk hK zmm242 [] 3 5 [(2, 88), (0, f)] [] (pm_up μ 88 2 f) [sx_bit Wm 88 = true] rfl ⟨hb88, trivial⟩ ?_
  obtain ⟨μ1, eμ1⟩ : ∃ μ', μ' = pm_up μ 88 2 f := ⟨_, rfl⟩
  rw [← eμ1]
  have hTμ1 : zTJ φ μ1 := by rw [eμ1]; exact zT_up hT zs88_2 rfl (i := 2) (by omega) (by omega) (by omega) (by omega)
  have w8 : μ1 88 8 = j := by rw [eμ1, pm_up_ne (by decide)]; exact q5
  have w7 : μ1 88 7 = n + 1 := by rw [eμ1, pm_up_ne (by decide)]; exact q4
  have w2 : μ1 88 2 = f := by rw [eμ1, pm_up_eq]
  have w91 : μ1 91 = S := by rw [eμ1, pm_up_row (by decide)]; exact q2
  have hC : zCf μ μ1 := by rw [eμ1]; exact zCf_88 zCf_refl (by omega)
  have f1 := zT_get hTμ1 zs88_8 (i := 8) (by omega) (by omega)
  refine pm_blk hK zmm242 [] 3 10 [(2, 88), (0, f)] [(0, μ1 88 8), (2, 88)] μ1 [] rfl trivial ?_
  refine pm_if hK zmm242 .lt 26 36 rfl rfl (fun h0 => ?_) (fun h0 => ?_)
  · have h0 : μ1 88 8 < (0 : Int) := h0
    refine pm_blk hK zmm242 [] 2 40 [(2, 88), (0, f)] [] (pm_up μ1 88 3 ((-1))) [sx_bit Wm 88 = true] rfl ⟨hb88, trivial⟩ ?_
    obtain ⟨μ2, eμ2⟩ : ∃ μ', μ' = pm_up μ1 88 3 ((-1)) := ⟨_, rfl⟩
    rw [← eμ2]
    have hTμ2 : zTJ φ μ2 := by rw [eμ2]; exact zT_up hTμ1 zs88_3 rfl (i := 3) (by omega) (by omega) (by omega) (by omega)
    refine pm_blk hK zmm242 [] 1 41 [(2, 88), (0, f)] [(0, 0)] μ2 [] rfl trivial ?_
    first
    | (exfalso; omega)
    | exact pm_zret rfl rfl (by first | exact Or.inl rfl | exact Or.inr rfl | omega) ⟨rfl, hTμ2, by rw [eμ2]; exact zCf_88 hC (by omega), by rw [eμ2, pm_up_ne (by decide)]; exact w2, by rw [eμ2, pm_up_eq, w8, w91]⟩
    | (exfalso; omega)
  · have h0 : (0 : Int) ≤ μ1 88 8 := h0
    have f2 := zT_get hTμ1 zs88_7 (i := 7) (by omega) (by omega)
    refine pm_blk hK zmm242 [] 4 21 [(2, 88), (0, f)] [(0, μ1 88 7), (0, μ1 88 8), (2, 88)] μ1 [] rfl trivial ?_
    refine pm_icmp hK zmm242 .ge 15 36 rfl rfl (fun h1 => ?_) (fun h1 => ?_)
    · have h1 : μ1 88 7 ≤ μ1 88 8 := h1
      refine pm_blk hK zmm242 [] 2 40 [(2, 88), (0, f)] [] (pm_up μ1 88 3 ((-1))) [sx_bit Wm 88 = true] rfl ⟨hb88, trivial⟩ ?_
      obtain ⟨μ3, eμ3⟩ : ∃ μ', μ' = pm_up μ1 88 3 ((-1)) := ⟨_, rfl⟩
      rw [← eμ3]
      have hTμ3 : zTJ φ μ3 := by rw [eμ3]; exact zT_up hTμ1 zs88_3 rfl (i := 3) (by omega) (by omega) (by omega) (by omega)
      refine pm_blk hK zmm242 [] 1 41 [(2, 88), (0, f)] [(0, 0)] μ3 [] rfl trivial ?_
      first
      | (exfalso; omega)
      | exact pm_zret rfl rfl (by first | exact Or.inl rfl | exact Or.inr rfl | omega) ⟨rfl, hTμ3, by rw [eμ3]; exact zCf_88 hC (by omega), by rw [eμ3, pm_up_ne (by decide)]; exact w2, by rw [eμ3, pm_up_eq, w8, w91]⟩
      | (exfalso; omega)
    · have h1 : μ1 88 8 < μ1 88 7 := h1
      have g3 : μ1 91 (μ1 88 8) = μ 91 (μ1 88 8) := by rw [eμ1, pm_up_off (by decide)]
      have f4 := zT_get hTμ1 zs91_0 (i := μ1 88 8) (by omega) (by omega)
      refine pm_blk hK zmm242 [] 7 40 [(2, 88), (0, f)] [] (pm_up μ1 88 3 (μ1 91 (μ1 88 8))) [0 ≤ μ1 88 8 ∧ μ1 88 8 < 401, sx_bit Wm 88 = true] rfl ⟨⟨by omega, by omega⟩, hb88, trivial⟩ ?_
      obtain ⟨μ4, eμ4⟩ : ∃ μ', μ' = pm_up μ1 88 3 (μ1 91 (μ1 88 8)) := ⟨_, rfl⟩
      rw [← eμ4]
      have hTμ4 : zTJ φ μ4 := by rw [eμ4]; exact zT_up hTμ1 zs88_3 rfl (i := 3) (by omega) (by omega) (by omega) (by omega)
      refine pm_blk hK zmm242 [] 1 41 [(2, 88), (0, f)] [(0, 0)] μ4 [] rfl trivial ?_
      first
      | (exfalso; omega)
      | exact pm_zret rfl rfl (by first | exact Or.inl rfl | exact Or.inr rfl | omega) ⟨rfl, hTμ4, by rw [eμ4]; exact zCf_88 hC (by omega), by rw [eμ4, pm_up_ne (by decide)]; exact w2, by rw [eμ4, pm_up_eq, w8, w91]⟩
      | (exfalso; omega)
set_option maxRecDepth 100000 in
theorem zg_sign (hK : zKK ST) {c : Int} {j1 : Int} {K S V : Int → Int} {n j : Int} (h : zCq K S V n j μ) (hKn : K n = 257) (hj1 : j1 = j + 1) (hc : c ≠ 257) (hT : zTJ φ μ) (hb88 : sx_bit Wm 88 = true) (hbd : 1 ≤ bud.1 ∧ 21 ≤ bud.2.1) : zC D Wm ST b0 l Sg zM254 bud [(2, 88), (0, c)] μ (fun st' μ' => ∃ x, st' = [(0, x)] ∧ zTJ φ μ' ∧ zCf μ μ' ∧ (x ≠ 0 → x = 1 ∧ K j = c ∧ zCq K S V n j1 μ' ∧ μ' 94 = μ 94) ∧ (x = 0 → zXi (fun f => (f = 1 ∧ K j ≠ c) ∧ zFl S f j μ'))) := by
  obtain ⟨⟨q1, q2, q3⟩, q4, q5, q6⟩ := id h
  refine pm_blk hK zmm254 [] 1 1 [(2, 88), (0, c)] [(2, 88)] μ [] rfl trivial ?_
  refine pm_call hK zmm254 (70, 0, 53, 0) zM53 (0, 0) [(2, 88)] [] rfl rfl rfl rfl ⟨by omega, by rw [zn53]; omega⟩ (zg_kind hK h ⟨Nat.le_refl _, Nat.le_refl _⟩) (fun st1 μc1 hp1 => ?_)
  obtain ⟨rfl, rfl⟩ := hp1
  refine pm_blk hK zmm254 [] 1 5 [(2, 88), (0, c)] [(0, c), (0, K j)] μ [] rfl trivial ?_
  refine pm_icmp hK zmm254 .eq 9 14 rfl rfl (fun h0 => ?_) (fun h0 => ?_)
  · have h0 : K j = c := h0
    have hjn : j ≠ n := fun he => by rw [he, hKn] at h0; omega
    have f1 := zT_get hT zs88_8 (i := 8) (by omega) (by omega)
    refine pm_blk hK zmm254 [] 6 24 [(2, 88), (0, c)] [] (pm_up μ 88 8 ((μ 88 8) + 1)) [pm_in ((μ 88 8) + 1), sx_bit Wm 88 = true] rfl ⟨pm_in_mk (by omega) (by omega), hb88, trivial⟩ ?_
    obtain ⟨μ1, eμ1⟩ : ∃ μ', μ' = pm_up μ 88 8 ((μ 88 8) + 1) := ⟨_, rfl⟩
    rw [← eμ1]
    have hTμ1 : zTJ φ μ1 := by rw [eμ1]; exact zT_up hT zs88_8 rfl (i := 8) (by omega) (by omega) (by omega) (by omega)
    refine pm_blk hK zmm254 [] 1 25 [(2, 88), (0, c)] [(0, 1)] μ1 [] rfl trivial ?_
    exact pm_zret rfl rfl (by first | exact Or.inl rfl | exact Or.inr rfl | omega) ⟨_, rfl, hTμ1, by rw [eμ1]; exact zCf_88 zCf_refl (by omega), fun _ => ⟨rfl, h0, zCl_8 h eμ1 (by rw [q5, hj1]) ⟨by omega, by omega⟩, by rw [eμ1, pm_up_row (by decide)]⟩, fun h9 => absurd h9 (by decide)⟩
  · have h0 : K j ≠ c := h0
    refine pm_blk hK zmm254 [] 2 10 [(2, 88), (0, c)] [(0, 1), (2, 88)] μ [] rfl trivial ?_
    refine pm_call hK zmm254 (137, 0, 242, 1) zM242 (0, 0) [(2, 88), (0, 1)] [] rfl rfl rfl rfl ⟨by omega, by rw [zn242]; omega⟩ (zg_wrong hK h hT ⟨by omega, by omega⟩ hb88 ⟨Nat.le_refl _, Nat.le_refl _⟩) (fun st2 μc2 hp2 => ?_)
    obtain ⟨rfl, hTc2, hC2, hf2⟩ := hp2
    have hC := hC2
    have hff := hf2
    exact pm_zret rfl rfl (by first | exact Or.inl rfl | exact Or.inr rfl | omega) ⟨_, rfl, hTc2, hC, fun h9 => absurd rfl h9, fun _ => zXi_i 1 ⟨⟨rfl, h0⟩, hff⟩⟩
set_option maxRecDepth 100000 in
theorem zg_put (hK : zKK ST) {c v : Int} {ln : Int} (hT : zTJ φ μ) (hln : μ 93 2 = ln) (hl : 0 ≤ ln ∧ ln ≤ 15) (hc : 0 ≤ c ∧ c ≤ 3) (hv : -1 ≤ v ∧ v ≤ 999) (hb94 : sx_bit Wm 94 = true) (hbd : 1 ≤ bud.1 ∧ 22 ≤ bud.2.1) : zC D Wm ST b0 l Sg zM243 bud [(2, 93), (0, c), (0, v)] μ (fun st' μ' => st' = [] ∧ zTJ φ μ' ∧ μ' = pm_up μ 94 (ln * 4 + c) v) := by
  have f1 := zT_get hT zs93_2 (i := 2) (by omega) (by omega)
  refine pm_blk hK zmm243 [] 14 18 [(2, 93), (0, c), (0, v), (0, ((μ 93 2) * 4) + c)] [(0, 64 - 1), (0, 0), (0, ((μ 93 2) * 4) + c)] μ [pm_in ((μ 93 2) * 4), pm_in (((μ 93 2) * 4) + c), pm_in (64 - 1)] rfl ⟨pm_in_mk (by omega) (by omega), pm_in_mk (by omega) (by omega), pm_in_mk (by omega) (by omega), trivial⟩ ?_
  refine pm_call hK zmm243 (25, 1, 16, 3) zM16 (0, 0) [(0, ((μ 93 2) * 4) + c), (0, 0), (0, 64 - 1)] [] rfl rfl rfl rfl ⟨by omega, by rw [zn16]; omega⟩ (zh_within hK ⟨Nat.le_refl _, Nat.le_refl _⟩) (fun st1 μc1 hp1 => ?_)
  obtain ⟨rfl, rfl⟩ := hp1
  refine pm_if hK zmm243 .eq 10 31 rfl rfl (fun h0 => ?_) (fun h0 => ?_)
  · have h0 : (if 0 ≤ (((μ 93 2) * 4) + c) ∧ (((μ 93 2) * 4) + c) ≤ (64 - 1) then 1 else 0 : Int) = (0 : Int) := h0
    have h0 := zif0 h0
    exact pm_vret rfl rfl ⟨rfl, hT, by exfalso; omega⟩
  · have h0 : (if 0 ≤ (((μ 93 2) * 4) + c) ∧ (((μ 93 2) * 4) + c) ≤ (64 - 1) then 1 else 0 : Int) ≠ (0 : Int) := h0
    have h0 := zif1 h0
    refine pm_blk hK zmm243 [] 5 31 [(2, 93), (0, c), (0, v), (0, ((μ 93 2) * 4) + c)] [] (pm_up μ 94 (((μ 93 2) * 4) + c) v) [sx_bit Wm 94 = true, 0 ≤ ((μ 93 2) * 4) + c ∧ ((μ 93 2) * 4) + c < 64] rfl ⟨hb94, ⟨by omega, by omega⟩, trivial⟩ ?_
    obtain ⟨μ1, eμ1⟩ : ∃ μ', μ' = pm_up μ 94 (((μ 93 2) * 4) + c) v := ⟨_, rfl⟩
    rw [← eμ1]
    have hTμ1 : zTJ φ μ1 := by rw [eμ1]; exact zT_up hT zs94_0 rfl (i := ((μ 93 2) * 4) + c) (by omega) (by omega) (by omega) (by omega)
    exact pm_vret rfl rfl ⟨rfl, hTμ1, by first | rw [eμ1, hln] | (exfalso; omega)⟩
set_option maxRecDepth 100000 in
theorem zg_cell (hK : zKK ST) {a c : Int} (ha : 0 ≤ a ∧ a ≤ 15) (hc : 0 ≤ c ∧ c ≤ 3) (hbd : 1 ≤ bud.1 ∧ 22 ≤ bud.2.1) : zC D Wm ST b0 l Sg zM219 bud [(2, 93), (0, a), (0, c)] μ (fun st' μ' => μ = μ' ∧ st' = [(0, μ 94 (a * 4 + c))]) := by
  refine pm_blk hK zmm219 [] 13 15 [(2, 93), (0, a), (0, c), (0, (a * 4) + c)] [(0, 64 - 1), (0, 0), (0, (a * 4) + c)] μ [pm_in (a * 4), pm_in ((a * 4) + c), pm_in (64 - 1)] rfl ⟨pm_in_mk (by omega) (by omega), pm_in_mk (by omega) (by omega), pm_in_mk (by omega) (by omega), trivial⟩ ?_
  refine pm_call hK zmm219 (25, 1, 16, 3) zM16 (0, 0) [(0, (a * 4) + c), (0, 0), (0, 64 - 1)] [] rfl rfl rfl rfl ⟨by omega, by rw [zn16]; omega⟩ (zh_within hK ⟨Nat.le_refl _, Nat.le_refl _⟩) (fun st1 μc1 hp1 => ?_)
  obtain ⟨rfl, rfl⟩ := hp1
  refine pm_if hK zmm219 .eq 12 30 rfl rfl (fun h0 => ?_) (fun h0 => ?_)
  · have h0 : (if 0 ≤ ((a * 4) + c) ∧ ((a * 4) + c) ≤ (64 - 1) then 1 else 0 : Int) = (0 : Int) := h0
    have h0 := zif0 h0
    refine pm_blk hK zmm219 [] 1 31 [(2, 93), (0, a), (0, c), (0, (a * 4) + c)] [(0, (-1))] μ [] rfl trivial ?_
    exact pm_iret rfl rfl ⟨rfl, by first | rfl | (exfalso; omega)⟩
  · have h0 : (if 0 ≤ ((a * 4) + c) ∧ ((a * 4) + c) ≤ (64 - 1) then 1 else 0 : Int) ≠ (0 : Int) := h0
    have h0 := zif1 h0
    refine pm_blk hK zmm219 [] 5 31 [(2, 93), (0, a), (0, c), (0, (a * 4) + c)] [(0, μ 94 ((a * 4) + c))] μ [0 ≤ (a * 4) + c ∧ (a * 4) + c < 64] rfl ⟨⟨by omega, by omega⟩, trivial⟩ ?_
    exact pm_iret rfl rfl ⟨rfl, by first | rfl | (exfalso; omega)⟩
set_option maxRecDepth 100000 in
theorem zg_num (hK : zKK ST) {c lo hi : Int} {j1 ln : Int} {K S V : Int → Int} {n j : Int} (h : zCq K S V n j μ) (hKn : K n = 257) (hj1 : j1 = j + 1) (hT : zTJ φ μ) (hln : μ 93 2 = ln) (hl : 0 ≤ ln ∧ ln ≤ 15) (hc : 0 ≤ c ∧ c ≤ 3) (hlo : 0 ≤ lo) (hhi : hi ≤ 999) (hb88 : sx_bit Wm 88 = true) (hb94 : sx_bit Wm 94 = true) (hbd : 2 ≤ bud.1 ∧ 45 ≤ bud.2.1) : zC D Wm ST b0 l Sg zM256 bud [(2, 88), (0, c), (0, lo), (0, hi)] μ (fun st' μ' => ∃ x, st' = [(0, x)] ∧ zTJ φ μ' ∧ zCf μ μ' ∧ (x ≠ 0 → x = 1 ∧ (K j = 256 ∧ lo ≤ V j ∧ V j ≤ hi) ∧ zCq K S V n j1 μ' ∧ μ' 94 = zpu (μ 94) (ln * 4 + c) (V j)) ∧ (x = 0 → zXi (fun f => ((f = 1 ∧ K j ≠ 256) ∨ (f = 2 ∧ K j = 256 ∧ ¬ (lo ≤ V j ∧ V j ≤ hi))) ∧ zFl S f j μ'))) := by
  obtain ⟨⟨q1, q2, q3⟩, q4, q5, q6⟩ := id h
  refine pm_blk hK zmm256 [] 1 1 [(2, 88), (0, c), (0, lo), (0, hi)] [(2, 88)] μ [] rfl trivial ?_
  refine pm_call hK zmm256 (70, 0, 53, 0) zM53 (0, 0) [(2, 88)] [] rfl rfl rfl rfl ⟨by omega, by rw [zn53]; omega⟩ (zg_kind hK h ⟨Nat.le_refl _, Nat.le_refl _⟩) (fun st1 μc1 hp1 => ?_)
  obtain ⟨rfl, rfl⟩ := hp1
  refine pm_blk hK zmm256 [] 1 7 [(2, 88), (0, c), (0, lo), (0, hi)] [(0, 256), (0, K j)] μ [] rfl trivial ?_
  refine pm_icmp hK zmm256 .eq 9 16 rfl rfl (fun h0 => ?_) (fun h0 => ?_)
  · have h0 : K j = (256 : Int) := h0
    have hjn : j ≠ n := fun he => by rw [he, hKn] at h0; omega
    have h256 := h0
    refine pm_blk hK zmm256 [] 1 17 [(2, 88), (0, c), (0, lo), (0, hi)] [(2, 88)] μ [] rfl trivial ?_
    refine pm_call hK zmm256 (140, 0, 247, 0) zM247 (0, 0) [(2, 88)] [] rfl rfl rfl rfl ⟨by omega, by rw [zn247]; omega⟩ (zg_number hK h ⟨Nat.le_refl _, Nat.le_refl _⟩) (fun st2 μc2 hp2 => ?_)
    obtain ⟨rfl, rfl⟩ := hp2
    refine pm_blk hK zmm256 [] 2 22 [(2, 88), (0, c), (0, lo), (0, hi)] [(0, hi), (0, lo), (0, V j)] μ [] rfl trivial ?_
    refine pm_call hK zmm256 (53, 1, 16, 3) zM16 (0, 0) [(0, V j), (0, lo), (0, hi)] [] rfl rfl rfl rfl ⟨by omega, by rw [zn16]; omega⟩ (zh_within hK ⟨Nat.le_refl _, Nat.le_refl _⟩) (fun st3 μc3 hp3 => ?_)
    obtain ⟨rfl, rfl⟩ := hp3
    refine pm_if hK zmm256 .ne 9 34 rfl rfl (fun h1 => ?_) (fun h1 => ?_)
    · have h1 : (if lo ≤ (V j) ∧ (V j) ≤ hi then 1 else 0 : Int) ≠ (0 : Int) := h1
      have h1 := zif1 h1
      have hrg := h1
      refine pm_blk hK zmm256 [] 4 40 [(2, 88), (0, c), (0, lo), (0, hi)] [(2, 88), (0, c), (2, 93)] μ [] rfl trivial ?_
      refine pm_call hK zmm256 (140, 0, 247, 0) zM247 (0, 0) [(2, 88)] [(0, c), (2, 93)] rfl rfl rfl rfl ⟨by omega, by rw [zn247]; omega⟩ (zg_number hK h ⟨Nat.le_refl _, Nat.le_refl _⟩) (fun st4 μc4 hp4 => ?_)
      obtain ⟨rfl, rfl⟩ := hp4
      refine pm_call hK zmm256 (143, 0, 243, 2) zM243 (1, 22) [(2, 93), (0, c), (0, V j)] [] rfl rfl rfl rfl ⟨by omega, by rw [zn243]; omega⟩ (zg_put hK (c := c) (v := (V j)) hT hln ⟨by omega, by omega⟩ ⟨by omega, by omega⟩ ⟨by omega, by omega⟩ hb94 ⟨Nat.le_refl _, Nat.le_refl _⟩) (fun st5 μc5 hp5 => ?_)
      obtain ⟨rfl, hTc5, ep5⟩ := hp5
      have ep := ep5
      have w8 : μc5 88 8 = j := by rw [ep, pm_up_off (by decide)]; exact q5
      have f1 := zT_get hTc5 zs88_8 (i := 8) (by omega) (by omega)
      refine pm_blk hK zmm256 [] 6 56 [(2, 88), (0, c), (0, lo), (0, hi)] [] (pm_up μc5 88 8 ((μc5 88 8) + 1)) [pm_in ((μc5 88 8) + 1), sx_bit Wm 88 = true] rfl ⟨pm_in_mk (by omega) (by omega), hb88, trivial⟩ ?_
      obtain ⟨μ1, eμ1⟩ : ∃ μ', μ' = pm_up μc5 88 8 ((μc5 88 8) + 1) := ⟨_, rfl⟩
      rw [← eμ1]
      have hTμ1 : zTJ φ μ1 := by rw [eμ1]; exact zT_up hTc5 zs88_8 rfl (i := 8) (by omega) (by omega) (by omega) (by omega)
      refine pm_blk hK zmm256 [] 1 57 [(2, 88), (0, c), (0, lo), (0, hi)] [(0, 1)] μ1 [] rfl trivial ?_
      exact pm_zret rfl rfl (by first | exact Or.inl rfl | exact Or.inr rfl | omega) ⟨_, rfl, hTμ1, by rw [eμ1, ep]; exact zCf_88 (zCf_94 zCf_refl) (by omega), fun _ => ⟨rfl, ⟨h256, hrg⟩, zCl_8 (by rw [ep]; exact zCl_o h (by decide)) eμ1 (by rw [w8, hj1]) ⟨by omega, by omega⟩, by rw [eμ1, pm_up_row (by decide), ep, pm_up_zpu]⟩, fun h9 => absurd h9 (by decide)⟩
    · have h1 : (if lo ≤ (V j) ∧ (V j) ≤ hi then 1 else 0 : Int) = (0 : Int) := h1
      have h1 := zif0 h1
      refine pm_blk hK zmm256 [] 2 30 [(2, 88), (0, c), (0, lo), (0, hi)] [(0, 2), (2, 88)] μ [] rfl trivial ?_
      refine pm_call hK zmm256 (137, 0, 242, 1) zM242 (0, 0) [(2, 88), (0, 2)] [] rfl rfl rfl rfl ⟨by omega, by rw [zn242]; omega⟩ (zg_wrong hK h hT ⟨by omega, by omega⟩ hb88 ⟨Nat.le_refl _, Nat.le_refl _⟩) (fun st6 μc6 hp6 => ?_)
      obtain ⟨rfl, hTc6, hC6, hf6⟩ := hp6
      have hC := hC6
      have hff := hf6
      exact pm_zret rfl rfl (by first | exact Or.inl rfl | exact Or.inr rfl | omega) ⟨_, rfl, hTc6, hC, fun h9 => absurd rfl h9, fun _ => zXi_i 2 ⟨Or.inr ⟨rfl, h256, h1⟩, hff⟩⟩
  · have h0 : K j ≠ (256 : Int) := h0
    refine pm_blk hK zmm256 [] 2 12 [(2, 88), (0, c), (0, lo), (0, hi)] [(0, 1), (2, 88)] μ [] rfl trivial ?_
    refine pm_call hK zmm256 (137, 0, 242, 1) zM242 (0, 0) [(2, 88), (0, 1)] [] rfl rfl rfl rfl ⟨by omega, by rw [zn242]; omega⟩ (zg_wrong hK h hT ⟨by omega, by omega⟩ hb88 ⟨Nat.le_refl _, Nat.le_refl _⟩) (fun st7 μc7 hp7 => ?_)
    obtain ⟨rfl, hTc7, hC7, hf7⟩ := hp7
    have hC := hC7
    have hff := hf7
    exact pm_zret rfl rfl (by first | exact Or.inl rfl | exact Or.inr rfl | omega) ⟨_, rfl, hTc7, hC, fun h9 => absurd rfl h9, fun _ => zXi_i 1 ⟨Or.inl ⟨rfl, h0⟩, hff⟩⟩
set_option maxRecDepth 100000 in
theorem zg_beg1 (hK : zKK ST) {j1 ln : Int} {K S V : Int → Int} {n j : Int} (h : zCq K S V n j μ) (hKn : K n = 257) (hj1 : j1 = j + 1) (hT : zTJ φ μ) (hln : μ 93 2 = ln) (hl : 0 ≤ ln ∧ ln ≤ 16) (hb88 : sx_bit Wm 88 = true) (hb94 : sx_bit Wm 94 = true) (hbd : 2 ≤ bud.1 ∧ 45 ≤ bud.2.1) : zC D Wm ST b0 l Sg zM241 bud [(2, 88), (0, 1)] μ (fun st' μ' => ∃ x, st' = [(0, x)] ∧ zTJ φ μ' ∧ zCf μ μ' ∧ (x ≠ 0 → x = 1 ∧ (K j = 318 ∧ ln ≤ 15) ∧ zCq K S V n j1 μ' ∧ μ' 94 = zpu (μ 94) (ln * 4 + 0) (K j)) ∧ (x = 0 → zXi (fun f => ((f = 1 ∧ K j ≠ 318) ∨ (f = 3 ∧ K j = 318 ∧ ln = 16)) ∧ zFl S f j μ'))) := by
  obtain ⟨⟨q1, q2, q3⟩, q4, q5, q6⟩ := id h
  refine pm_blk hK zmm241 [] 1 1 [(2, 88), (0, 1), (9, 0), (9, 0)] [(2, 88)] μ [] rfl trivial ?_
  refine pm_call hK zmm241 (70, 0, 53, 0) zM53 (0, 0) [(2, 88)] [] rfl rfl rfl rfl ⟨by omega, by rw [zn53]; omega⟩ (zg_kind hK h ⟨Nat.le_refl _, Nat.le_refl _⟩) (fun st1 μc1 hp1 => ?_)
  obtain ⟨rfl, rfl⟩ := hp1
  refine pm_blk hK zmm241 [] 2 6 [(2, 88), (0, 1), (0, K j), (9, 0)] [(0, 1)] μ [] rfl trivial ?_
  refine zp_tin_TT hK zmm241 (off := 40) (tgt := 46) rfl (by decide) (by decide) rfl (by decide) ?_
  refine pm_blk hK zmm241 [] 2 50 [(2, 88), (0, 1), (0, K j), (9, 0)] [(0, 318), (0, K j)] μ [] rfl trivial ?_
  refine pm_icmp hK zmm241 .ne 7 57 rfl rfl (fun h1 => ?_) (fun h1 => ?_)
  · have h1 : K j ≠ (318 : Int) := h1
    have hnk := h1
    refine pm_blk hK zmm241 [] 4 92 [(2, 88), (0, 1), (0, K j), (0, 0)] [(0, 0)] μ [] rfl trivial ?_
    refine pm_if hK zmm241 .ne 9 101 rfl rfl (fun h2 => ?_) (fun h2 => ?_)
    · have h2 : (0 : Int) ≠ (0 : Int) := h2
      exact absurd h2 (by decide)
    · have h2 : (0 : Int) = (0 : Int) := h2
      refine pm_blk hK zmm241 [] 2 97 [(2, 88), (0, 1), (0, K j), (0, 0)] [(0, 1), (2, 88)] μ [] rfl trivial ?_
      refine pm_call hK zmm241 (137, 0, 242, 1) zM242 (0, 0) [(2, 88), (0, 1)] [] rfl rfl rfl rfl ⟨by omega, by rw [zn242]; omega⟩ (zg_wrong hK h hT ⟨by omega, by omega⟩ hb88 ⟨Nat.le_refl _, Nat.le_refl _⟩) (fun st2 μc2 hp2 => ?_)
      obtain ⟨rfl, hTc2, hC2, hf2⟩ := hp2
      have hC := hC2
      have hff := hf2
      exact pm_zret rfl rfl (by first | exact Or.inl rfl | exact Or.inr rfl | omega) ⟨_, rfl, hTc2, hC, fun h9 => absurd rfl h9, fun _ => zXi_i 1 ⟨Or.inl ⟨rfl, hnk⟩, hff⟩⟩
  · have h1 : K j = (318 : Int) := h1
    have hjn : j ≠ n := fun he => by rw [he, hKn] at h1; omega
    have hkw := h1
    refine pm_blk hK zmm241 [] 5 92 [(2, 88), (0, 1), (0, K j), (0, 1)] [(0, 1)] μ [] rfl trivial ?_
    refine pm_if hK zmm241 .ne 9 101 rfl rfl (fun h3 => ?_) (fun h3 => ?_)
    · have h3 : (1 : Int) ≠ (0 : Int) := h3
      have f1 := zT_get hT zs93_2 (i := 2) (by omega) (by omega)
      refine pm_blk hK zmm241 [] 4 110 [(2, 88), (0, 1), (0, K j), (0, 1)] [(0, 16), (0, μ 93 2)] μ [] rfl trivial ?_
      refine pm_icmp hK zmm241 .lt 9 119 rfl rfl (fun h4 => ?_) (fun h4 => ?_)
      · have h4 : μ 93 2 < (16 : Int) := h4
        have hl15 := h4
        refine pm_blk hK zmm241 [] 4 125 [(2, 88), (0, 1), (0, K j), (0, 1)] [(0, K j), (0, 0), (2, 93)] μ [] rfl trivial ?_
        refine pm_call hK zmm241 (143, 0, 243, 2) zM243 (1, 22) [(2, 93), (0, 0), (0, K j)] [] rfl rfl rfl rfl ⟨by omega, by rw [zn243]; omega⟩ (zg_put hK (c := 0) (v := (K j)) hT hln ⟨by omega, by omega⟩ ⟨by omega, by omega⟩ ⟨by omega, by omega⟩ hb94 ⟨Nat.le_refl _, Nat.le_refl _⟩) (fun st3 μc3 hp3 => ?_)
        obtain ⟨rfl, hTc3, ep3⟩ := hp3
        have ep := ep3
        have w8 : μc3 88 8 = j := by rw [ep, pm_up_off (by decide)]; exact q5
        have f2 := zT_get hTc3 zs88_8 (i := 8) (by omega) (by omega)
        refine pm_blk hK zmm241 [] 6 138 [(2, 88), (0, 1), (0, K j), (0, 1)] [] (pm_up μc3 88 8 ((μc3 88 8) + 1)) [pm_in ((μc3 88 8) + 1), sx_bit Wm 88 = true] rfl ⟨pm_in_mk (by omega) (by omega), hb88, trivial⟩ ?_
        obtain ⟨μ1, eμ1⟩ : ∃ μ', μ' = pm_up μc3 88 8 ((μc3 88 8) + 1) := ⟨_, rfl⟩
        rw [← eμ1]
        have hTμ1 : zTJ φ μ1 := by rw [eμ1]; exact zT_up hTc3 zs88_8 rfl (i := 8) (by omega) (by omega) (by omega) (by omega)
        refine pm_blk hK zmm241 [] 1 139 [(2, 88), (0, 1), (0, K j), (0, 1)] [(0, 1)] μ1 [] rfl trivial ?_
        exact pm_zret rfl rfl (by first | exact Or.inl rfl | exact Or.inr rfl | omega) ⟨_, rfl, hTμ1, by rw [eμ1, ep]; exact zCf_88 (zCf_94 zCf_refl) (by omega), fun _ => ⟨rfl, ⟨hkw, by omega⟩, zCl_8 (by rw [ep]; exact zCl_o h (by decide)) eμ1 (by rw [w8, hj1]) ⟨by omega, by omega⟩, by rw [eμ1, pm_up_row (by decide), ep, pm_up_zpu]⟩, fun h9 => absurd h9 (by decide)⟩
      · have h4 : (16 : Int) ≤ μ 93 2 := h4
        refine pm_blk hK zmm241 [] 2 115 [(2, 88), (0, 1), (0, K j), (0, 1)] [(0, 3), (2, 88)] μ [] rfl trivial ?_
        refine pm_call hK zmm241 (137, 0, 242, 1) zM242 (0, 0) [(2, 88), (0, 3)] [] rfl rfl rfl rfl ⟨by omega, by rw [zn242]; omega⟩ (zg_wrong hK h hT ⟨by omega, by omega⟩ hb88 ⟨Nat.le_refl _, Nat.le_refl _⟩) (fun st4 μc4 hp4 => ?_)
        obtain ⟨rfl, hTc4, hC4, hf4⟩ := hp4
        have hC := hC4
        have hff := hf4
        exact pm_zret rfl rfl (by first | exact Or.inl rfl | exact Or.inr rfl | omega) ⟨_, rfl, hTc4, hC, fun h9 => absurd rfl h9, fun _ => zXi_i 3 ⟨Or.inr ⟨rfl, hkw, by omega⟩, hff⟩⟩
    · have h3 : (1 : Int) = (0 : Int) := h3
      exact absurd h3 (by decide)
set_option maxRecDepth 100000 in
theorem zg_beg2 (hK : zKK ST) {j1 ln : Int} {K S V : Int → Int} {n j : Int} (h : zCq K S V n j μ) (hKn : K n = 257) (hj1 : j1 = j + 1) (hT : zTJ φ μ) (hln : μ 93 2 = ln) (hl : 0 ≤ ln ∧ ln ≤ 16) (hb88 : sx_bit Wm 88 = true) (hb94 : sx_bit Wm 94 = true) (hbd : 2 ≤ bud.1 ∧ 45 ≤ bud.2.1) : zC D Wm ST b0 l Sg zM241 bud [(2, 88), (0, 2)] μ (fun st' μ' => ∃ x, st' = [(0, x)] ∧ zTJ φ μ' ∧ zCf μ μ' ∧ (x ≠ 0 → x = 1 ∧ (K j = 322 ∧ ln ≤ 15) ∧ zCq K S V n j1 μ' ∧ μ' 94 = zpu (μ 94) (ln * 4 + 0) (K j)) ∧ (x = 0 → zXi (fun f => ((f = 1 ∧ K j ≠ 322) ∨ (f = 3 ∧ K j = 322 ∧ ln = 16)) ∧ zFl S f j μ'))) := by
  obtain ⟨⟨q1, q2, q3⟩, q4, q5, q6⟩ := id h
  refine pm_blk hK zmm241 [] 1 1 [(2, 88), (0, 2), (9, 0), (9, 0)] [(2, 88)] μ [] rfl trivial ?_
  refine pm_call hK zmm241 (70, 0, 53, 0) zM53 (0, 0) [(2, 88)] [] rfl rfl rfl rfl ⟨by omega, by rw [zn53]; omega⟩ (zg_kind hK h ⟨Nat.le_refl _, Nat.le_refl _⟩) (fun st1 μc1 hp1 => ?_)
  obtain ⟨rfl, rfl⟩ := hp1
  refine pm_blk hK zmm241 [] 2 6 [(2, 88), (0, 2), (0, K j), (9, 0)] [(0, 2)] μ [] rfl trivial ?_
  refine zp_tin_TT hK zmm241 (off := 56) (tgt := 62) rfl (by decide) (by decide) rfl (by decide) ?_
  refine pm_blk hK zmm241 [] 2 66 [(2, 88), (0, 2), (0, K j), (9, 0)] [(0, 322), (0, K j)] μ [] rfl trivial ?_
  refine pm_icmp hK zmm241 .ne 7 73 rfl rfl (fun h1 => ?_) (fun h1 => ?_)
  · have h1 : K j ≠ (322 : Int) := h1
    have hnk := h1
    refine pm_blk hK zmm241 [] 4 92 [(2, 88), (0, 2), (0, K j), (0, 0)] [(0, 0)] μ [] rfl trivial ?_
    refine pm_if hK zmm241 .ne 9 101 rfl rfl (fun h2 => ?_) (fun h2 => ?_)
    · have h2 : (0 : Int) ≠ (0 : Int) := h2
      exact absurd h2 (by decide)
    · have h2 : (0 : Int) = (0 : Int) := h2
      refine pm_blk hK zmm241 [] 2 97 [(2, 88), (0, 2), (0, K j), (0, 0)] [(0, 1), (2, 88)] μ [] rfl trivial ?_
      refine pm_call hK zmm241 (137, 0, 242, 1) zM242 (0, 0) [(2, 88), (0, 1)] [] rfl rfl rfl rfl ⟨by omega, by rw [zn242]; omega⟩ (zg_wrong hK h hT ⟨by omega, by omega⟩ hb88 ⟨Nat.le_refl _, Nat.le_refl _⟩) (fun st2 μc2 hp2 => ?_)
      obtain ⟨rfl, hTc2, hC2, hf2⟩ := hp2
      have hC := hC2
      have hff := hf2
      exact pm_zret rfl rfl (by first | exact Or.inl rfl | exact Or.inr rfl | omega) ⟨_, rfl, hTc2, hC, fun h9 => absurd rfl h9, fun _ => zXi_i 1 ⟨Or.inl ⟨rfl, hnk⟩, hff⟩⟩
  · have h1 : K j = (322 : Int) := h1
    have hjn : j ≠ n := fun he => by rw [he, hKn] at h1; omega
    have hkw := h1
    refine pm_blk hK zmm241 [] 5 92 [(2, 88), (0, 2), (0, K j), (0, 1)] [(0, 1)] μ [] rfl trivial ?_
    refine pm_if hK zmm241 .ne 9 101 rfl rfl (fun h3 => ?_) (fun h3 => ?_)
    · have h3 : (1 : Int) ≠ (0 : Int) := h3
      have f1 := zT_get hT zs93_2 (i := 2) (by omega) (by omega)
      refine pm_blk hK zmm241 [] 4 110 [(2, 88), (0, 2), (0, K j), (0, 1)] [(0, 16), (0, μ 93 2)] μ [] rfl trivial ?_
      refine pm_icmp hK zmm241 .lt 9 119 rfl rfl (fun h4 => ?_) (fun h4 => ?_)
      · have h4 : μ 93 2 < (16 : Int) := h4
        have hl15 := h4
        refine pm_blk hK zmm241 [] 4 125 [(2, 88), (0, 2), (0, K j), (0, 1)] [(0, K j), (0, 0), (2, 93)] μ [] rfl trivial ?_
        refine pm_call hK zmm241 (143, 0, 243, 2) zM243 (1, 22) [(2, 93), (0, 0), (0, K j)] [] rfl rfl rfl rfl ⟨by omega, by rw [zn243]; omega⟩ (zg_put hK (c := 0) (v := (K j)) hT hln ⟨by omega, by omega⟩ ⟨by omega, by omega⟩ ⟨by omega, by omega⟩ hb94 ⟨Nat.le_refl _, Nat.le_refl _⟩) (fun st3 μc3 hp3 => ?_)
        obtain ⟨rfl, hTc3, ep3⟩ := hp3
        have ep := ep3
        have w8 : μc3 88 8 = j := by rw [ep, pm_up_off (by decide)]; exact q5
        have f2 := zT_get hTc3 zs88_8 (i := 8) (by omega) (by omega)
        refine pm_blk hK zmm241 [] 6 138 [(2, 88), (0, 2), (0, K j), (0, 1)] [] (pm_up μc3 88 8 ((μc3 88 8) + 1)) [pm_in ((μc3 88 8) + 1), sx_bit Wm 88 = true] rfl ⟨pm_in_mk (by omega) (by omega), hb88, trivial⟩ ?_
        obtain ⟨μ1, eμ1⟩ : ∃ μ', μ' = pm_up μc3 88 8 ((μc3 88 8) + 1) := ⟨_, rfl⟩
        rw [← eμ1]
        have hTμ1 : zTJ φ μ1 := by rw [eμ1]; exact zT_up hTc3 zs88_8 rfl (i := 8) (by omega) (by omega) (by omega) (by omega)
        refine pm_blk hK zmm241 [] 1 139 [(2, 88), (0, 2), (0, K j), (0, 1)] [(0, 1)] μ1 [] rfl trivial ?_
        exact pm_zret rfl rfl (by first | exact Or.inl rfl | exact Or.inr rfl | omega) ⟨_, rfl, hTμ1, by rw [eμ1, ep]; exact zCf_88 (zCf_94 zCf_refl) (by omega), fun _ => ⟨rfl, ⟨hkw, by omega⟩, zCl_8 (by rw [ep]; exact zCl_o h (by decide)) eμ1 (by rw [w8, hj1]) ⟨by omega, by omega⟩, by rw [eμ1, pm_up_row (by decide), ep, pm_up_zpu]⟩, fun h9 => absurd h9 (by decide)⟩
      · have h4 : (16 : Int) ≤ μ 93 2 := h4
        refine pm_blk hK zmm241 [] 2 115 [(2, 88), (0, 2), (0, K j), (0, 1)] [(0, 3), (2, 88)] μ [] rfl trivial ?_
        refine pm_call hK zmm241 (137, 0, 242, 1) zM242 (0, 0) [(2, 88), (0, 3)] [] rfl rfl rfl rfl ⟨by omega, by rw [zn242]; omega⟩ (zg_wrong hK h hT ⟨by omega, by omega⟩ hb88 ⟨Nat.le_refl _, Nat.le_refl _⟩) (fun st4 μc4 hp4 => ?_)
        obtain ⟨rfl, hTc4, hC4, hf4⟩ := hp4
        have hC := hC4
        have hff := hf4
        exact pm_zret rfl rfl (by first | exact Or.inl rfl | exact Or.inr rfl | omega) ⟨_, rfl, hTc4, hC, fun h9 => absurd rfl h9, fun _ => zXi_i 3 ⟨Or.inr ⟨rfl, hkw, by omega⟩, hff⟩⟩
    · have h3 : (1 : Int) = (0 : Int) := h3
      exact absurd h3 (by decide)
set_option maxRecDepth 100000 in
theorem zg_beg3 (hK : zKK ST) {j1 ln : Int} {K S V : Int → Int} {n j : Int} (h : zCq K S V n j μ) (hKn : K n = 257) (hj1 : j1 = j + 1) (hT : zTJ φ μ) (hln : μ 93 2 = ln) (hl : 0 ≤ ln ∧ ln ≤ 16) (hb88 : sx_bit Wm 88 = true) (hb94 : sx_bit Wm 94 = true) (hbd : 2 ≤ bud.1 ∧ 45 ≤ bud.2.1) : zC D Wm ST b0 l Sg zM241 bud [(2, 88), (0, 3)] μ (fun st' μ' => ∃ x, st' = [(0, x)] ∧ zTJ φ μ' ∧ zCf μ μ' ∧ (x ≠ 0 → x = 1 ∧ (K j = 326 ∧ ln ≤ 15) ∧ zCq K S V n j1 μ' ∧ μ' 94 = zpu (μ 94) (ln * 4 + 0) (K j)) ∧ (x = 0 → zXi (fun f => ((f = 1 ∧ K j ≠ 326) ∨ (f = 3 ∧ K j = 326 ∧ ln = 16)) ∧ zFl S f j μ'))) := by
  obtain ⟨⟨q1, q2, q3⟩, q4, q5, q6⟩ := id h
  refine pm_blk hK zmm241 [] 1 1 [(2, 88), (0, 3), (9, 0), (9, 0)] [(2, 88)] μ [] rfl trivial ?_
  refine pm_call hK zmm241 (70, 0, 53, 0) zM53 (0, 0) [(2, 88)] [] rfl rfl rfl rfl ⟨by omega, by rw [zn53]; omega⟩ (zg_kind hK h ⟨Nat.le_refl _, Nat.le_refl _⟩) (fun st1 μc1 hp1 => ?_)
  obtain ⟨rfl, rfl⟩ := hp1
  refine pm_blk hK zmm241 [] 2 6 [(2, 88), (0, 3), (0, K j), (9, 0)] [(0, 3)] μ [] rfl trivial ?_
  refine zp_tout_TT hK zmm241 rfl (by decide) (tgt := 78) (by decide) ?_
  refine pm_blk hK zmm241 [] 2 82 [(2, 88), (0, 3), (0, K j), (9, 0)] [(0, 326), (0, K j)] μ [] rfl trivial ?_
  refine pm_icmp hK zmm241 .ne 7 89 rfl rfl (fun h1 => ?_) (fun h1 => ?_)
  · have h1 : K j ≠ (326 : Int) := h1
    have hnk := h1
    refine pm_blk hK zmm241 [] 3 92 [(2, 88), (0, 3), (0, K j), (0, 0)] [(0, 0)] μ [] rfl trivial ?_
    refine pm_if hK zmm241 .ne 9 101 rfl rfl (fun h2 => ?_) (fun h2 => ?_)
    · have h2 : (0 : Int) ≠ (0 : Int) := h2
      exact absurd h2 (by decide)
    · have h2 : (0 : Int) = (0 : Int) := h2
      refine pm_blk hK zmm241 [] 2 97 [(2, 88), (0, 3), (0, K j), (0, 0)] [(0, 1), (2, 88)] μ [] rfl trivial ?_
      refine pm_call hK zmm241 (137, 0, 242, 1) zM242 (0, 0) [(2, 88), (0, 1)] [] rfl rfl rfl rfl ⟨by omega, by rw [zn242]; omega⟩ (zg_wrong hK h hT ⟨by omega, by omega⟩ hb88 ⟨Nat.le_refl _, Nat.le_refl _⟩) (fun st2 μc2 hp2 => ?_)
      obtain ⟨rfl, hTc2, hC2, hf2⟩ := hp2
      have hC := hC2
      have hff := hf2
      exact pm_zret rfl rfl (by first | exact Or.inl rfl | exact Or.inr rfl | omega) ⟨_, rfl, hTc2, hC, fun h9 => absurd rfl h9, fun _ => zXi_i 1 ⟨Or.inl ⟨rfl, hnk⟩, hff⟩⟩
  · have h1 : K j = (326 : Int) := h1
    have hjn : j ≠ n := fun he => by rw [he, hKn] at h1; omega
    have hkw := h1
    refine pm_blk hK zmm241 [] 4 92 [(2, 88), (0, 3), (0, K j), (0, 1)] [(0, 1)] μ [] rfl trivial ?_
    refine pm_if hK zmm241 .ne 9 101 rfl rfl (fun h3 => ?_) (fun h3 => ?_)
    · have h3 : (1 : Int) ≠ (0 : Int) := h3
      have f1 := zT_get hT zs93_2 (i := 2) (by omega) (by omega)
      refine pm_blk hK zmm241 [] 4 110 [(2, 88), (0, 3), (0, K j), (0, 1)] [(0, 16), (0, μ 93 2)] μ [] rfl trivial ?_
      refine pm_icmp hK zmm241 .lt 9 119 rfl rfl (fun h4 => ?_) (fun h4 => ?_)
      · have h4 : μ 93 2 < (16 : Int) := h4
        have hl15 := h4
        refine pm_blk hK zmm241 [] 4 125 [(2, 88), (0, 3), (0, K j), (0, 1)] [(0, K j), (0, 0), (2, 93)] μ [] rfl trivial ?_
        refine pm_call hK zmm241 (143, 0, 243, 2) zM243 (1, 22) [(2, 93), (0, 0), (0, K j)] [] rfl rfl rfl rfl ⟨by omega, by rw [zn243]; omega⟩ (zg_put hK (c := 0) (v := (K j)) hT hln ⟨by omega, by omega⟩ ⟨by omega, by omega⟩ ⟨by omega, by omega⟩ hb94 ⟨Nat.le_refl _, Nat.le_refl _⟩) (fun st3 μc3 hp3 => ?_)
        obtain ⟨rfl, hTc3, ep3⟩ := hp3
        have ep := ep3
        have w8 : μc3 88 8 = j := by rw [ep, pm_up_off (by decide)]; exact q5
        have f2 := zT_get hTc3 zs88_8 (i := 8) (by omega) (by omega)
        refine pm_blk hK zmm241 [] 6 138 [(2, 88), (0, 3), (0, K j), (0, 1)] [] (pm_up μc3 88 8 ((μc3 88 8) + 1)) [pm_in ((μc3 88 8) + 1), sx_bit Wm 88 = true] rfl ⟨pm_in_mk (by omega) (by omega), hb88, trivial⟩ ?_
        obtain ⟨μ1, eμ1⟩ : ∃ μ', μ' = pm_up μc3 88 8 ((μc3 88 8) + 1) := ⟨_, rfl⟩
        rw [← eμ1]
        have hTμ1 : zTJ φ μ1 := by rw [eμ1]; exact zT_up hTc3 zs88_8 rfl (i := 8) (by omega) (by omega) (by omega) (by omega)
        refine pm_blk hK zmm241 [] 1 139 [(2, 88), (0, 3), (0, K j), (0, 1)] [(0, 1)] μ1 [] rfl trivial ?_
        exact pm_zret rfl rfl (by first | exact Or.inl rfl | exact Or.inr rfl | omega) ⟨_, rfl, hTμ1, by rw [eμ1, ep]; exact zCf_88 (zCf_94 zCf_refl) (by omega), fun _ => ⟨rfl, ⟨hkw, by omega⟩, zCl_8 (by rw [ep]; exact zCl_o h (by decide)) eμ1 (by rw [w8, hj1]) ⟨by omega, by omega⟩, by rw [eμ1, pm_up_row (by decide), ep, pm_up_zpu]⟩, fun h9 => absurd h9 (by decide)⟩
      · have h4 : (16 : Int) ≤ μ 93 2 := h4
        refine pm_blk hK zmm241 [] 2 115 [(2, 88), (0, 3), (0, K j), (0, 1)] [(0, 3), (2, 88)] μ [] rfl trivial ?_
        refine pm_call hK zmm241 (137, 0, 242, 1) zM242 (0, 0) [(2, 88), (0, 3)] [] rfl rfl rfl rfl ⟨by omega, by rw [zn242]; omega⟩ (zg_wrong hK h hT ⟨by omega, by omega⟩ hb88 ⟨Nat.le_refl _, Nat.le_refl _⟩) (fun st4 μc4 hp4 => ?_)
        obtain ⟨rfl, hTc4, hC4, hf4⟩ := hp4
        have hC := hC4
        have hff := hf4
        exact pm_zret rfl rfl (by first | exact Or.inl rfl | exact Or.inr rfl | omega) ⟨_, rfl, hTc4, hC, fun h9 => absurd rfl h9, fun _ => zXi_i 3 ⟨Or.inr ⟨rfl, hkw, by omega⟩, hff⟩⟩
    · have h3 : (1 : Int) = (0 : Int) := h3
      exact absurd h3 (by decide)
end ZHW
