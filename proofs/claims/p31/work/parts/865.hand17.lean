/-! the reading of a text; walks printed by program (wip/p30/pmgen.py) and filled by hand -/
section ZHW
variable {D : va_G} {Wm : Nat} {ST : List (String × String × String × Nat)} {b0 : sx_B} {l : Launch} {Sg : Nat → Option Nat} {bud : sx_Bu} {μ : pm_Mem} {B0 : Nat → Prop} {J : (Nat → Option Nat) → Heap → Prop}
set_option maxRecDepth 100000 in
theorem zl_rd1 (hK : zKK ST) {X : Nat → List pm_V → List pm_V → pm_Mem → Prop} {μ0 : pm_Mem} (hb205 : sx_bit Wm 205 = true) (K : ∀ (μ : pm_Mem), zTJ μ → zFr μ0 μ → μ0 205 12 ≤ μ 205 12 → zW D Wm ST b0 l Sg zM139 bud X 39 [(2, 205), (9, 0)] [] μ) (hbd : 2 ≤ bud.1 ∧ 44 ≤ bud.2.1) : ∀ (n : Nat) {μ : pm_Mem}, (400 - μ 205 12).toNat = n → ∀ (hT : zTJ μ) (hfr : zFr μ0 μ) (hs : μ0 205 12 ≤ μ 205 12), zW D Wm ST b0 l Sg zM139 bud X 0 [(2, 205), (9, 0)] [] μ := by
  intro n
  induction n using Nat.strongRecOn with
  | ind n ih =>
    intro  μ hn hT hfr hs
    have f1 := zT_get hT zs205_12 (i := 12) (by omega) (by omega)
    refine pm_blk hK zmm139 [] 3 5 [(2, 205), (9, 0)] [(0, μ 205 12), (2, 205)] μ [] rfl trivial ?_
    refine pm_call hK zmm139 (179, 0, 140, 1) zM140 (0, 0) [(2, 205), (0, μ 205 12)] [] rfl rfl rfl rfl ⟨by omega, by rw [zn140]; omega⟩ (zh_raw hK (i := (μ 205 12)) hT (by omega) ⟨Nat.le_refl _, Nat.le_refl _⟩) (fun st1 μc1 hp1 => ?_)
    obtain ⟨rfl, x1, rfl, hx1a, hx1b, hx1c, hx1d⟩ := hp1
    refine pm_blk hK zmm139 [] 1 10 [(2, 205), (9, 0)] [(0, 32), (0, x1)] μ [] rfl trivial ?_
    refine pm_icmp hK zmm139 .eq 16 26 rfl rfl (fun h0 => ?_) (fun h0 => ?_)
    · have h0 : x1 = (32 : Int) := h0
      refine pm_blk hK zmm139 [] 6 36 [(2, 205), (9, 0)] [] (pm_up μ 205 12 ((μ 205 12) + 1)) [pm_in ((μ 205 12) + 1), sx_bit Wm 205 = true] rfl ⟨pm_in_mk (by omega) (by omega), hb205, trivial⟩ ?_
      obtain ⟨μ1, eμ1⟩ : ∃ μ', μ' = pm_up μ 205 12 ((μ 205 12) + 1) := ⟨_, rfl⟩
      rw [← eμ1]
      have hTμ1 : zTJ μ1 := by rw [eμ1]; exact zT_up hT zs205_12 rfl (i := 12) (by omega) (by omega) (by omega) (by omega)
      refine pm_blk hK zmm139 [] 1 0 [(2, 205), (9, 0)] [] μ1 [] rfl trivial ?_
      have q12 : μ1 205 12 = μ 205 12 + 1 := by rw [eμ1, pm_up_eq]
      exact ih _ (by omega) rfl hTμ1 (by rw [eμ1]; exact zFr_up hfr (by decide)) (by omega)
    · have h0 : x1 ≠ (32 : Int) := h0
      refine pm_blk hK zmm139 [] 3 18 [(2, 205), (9, 0)] [(0, μ 205 12), (2, 205)] μ [] rfl trivial ?_
      refine pm_call hK zmm139 (179, 0, 140, 1) zM140 (0, 0) [(2, 205), (0, μ 205 12)] [] rfl rfl rfl rfl ⟨by omega, by rw [zn140]; omega⟩ (zh_raw hK (i := (μ 205 12)) hT (by omega) ⟨Nat.le_refl _, Nat.le_refl _⟩) (fun st2 μc2 hp2 => ?_)
      obtain ⟨rfl, x2, rfl, hx2a, hx2b, hx2c, hx2d⟩ := hp2
      refine pm_blk hK zmm139 [] 1 23 [(2, 205), (9, 0)] [(0, 10), (0, x2)] μ [] rfl trivial ?_
      refine pm_icmp hK zmm139 .ne 16 39 rfl rfl (fun h1 => ?_) (fun h1 => ?_)
      · have h1 : x2 ≠ (10 : Int) := h1
        exact K _ hT hfr hs
      · have h1 : x2 = (10 : Int) := h1
        refine pm_blk hK zmm139 [] 6 36 [(2, 205), (9, 0)] [] (pm_up μ 205 12 ((μ 205 12) + 1)) [pm_in ((μ 205 12) + 1), sx_bit Wm 205 = true] rfl ⟨pm_in_mk (by omega) (by omega), hb205, trivial⟩ ?_
        obtain ⟨μ2, eμ2⟩ : ∃ μ', μ' = pm_up μ 205 12 ((μ 205 12) + 1) := ⟨_, rfl⟩
        rw [← eμ2]
        have hTμ2 : zTJ μ2 := by rw [eμ2]; exact zT_up hT zs205_12 rfl (i := 12) (by omega) (by omega) (by omega) (by omega)
        refine pm_blk hK zmm139 [] 1 0 [(2, 205), (9, 0)] [] μ2 [] rfl trivial ?_
        have q12 : μ2 205 12 = μ 205 12 + 1 := by rw [eμ2, pm_up_eq]
        exact ih _ (by omega) rfl hTμ2 (by rw [eμ2]; exact zFr_up hfr (by decide)) (by omega)
set_option maxRecDepth 100000 in
theorem zl_rd2 (hK : zKK ST)  {μ0 : pm_Mem} {c : Int} (hb205 : sx_bit Wm 205 = true) (hbd : 2 ≤ bud.1 ∧ 44 ≤ bud.2.1) : ∀ (n : Nat) {μ : pm_Mem}, (400 - μ 205 12).toNat = n → ∀ (h14 : μ 205 14 = 1) (hs : 0 ≤ μ 205 13 ∧ μ0 205 12 ≤ μ 205 13 ∧ μ 205 13 < μ 205 12) (hT : zTJ μ) (hfr : zFr μ0 μ) (hq : ∀ i : Int, μ 205 13 ≤ i → i < μ 205 12 → 65 ≤ μ 211 i), zW D Wm ST b0 l Sg zM139 bud (pm_X zM139 (fun st' μ' => st' = [] ∧ zRdP μ0 μ')) 95 [(2, 205), (0, c)] [] μ := by
  intro n
  induction n using Nat.strongRecOn with
  | ind n ih =>
    intro  μ hn h14 hs hT hfr hq
    have hqw : ∀ i : Int, μ 205 13 ≤ i → i < μ 205 12 → μ 211 i ≠ 32 := fun i i0 i1 => by have := hq i i0 i1; omega
    have f1 := zT_get hT zs205_12 (i := 12) (by omega) (by omega)
    refine pm_blk hK zmm139 [] 4 101 [(2, 205), (0, c)] [(0, μ 205 12), (2, 205), (2, 205)] μ [] rfl trivial ?_
    refine pm_call hK zmm139 (179, 0, 140, 1) zM140 (0, 0) [(2, 205), (0, μ 205 12)] [(2, 205)] rfl rfl rfl rfl ⟨by omega, by rw [zn140]; omega⟩ (zh_raw hK (i := (μ 205 12)) hT (by omega) ⟨Nat.le_refl _, Nat.le_refl _⟩) (fun st1 μc1 hp1 => ?_)
    obtain ⟨rfl, x1, rfl, hx1a, hx1b, hx1c, hx1d⟩ := hp1
    refine pm_call hK zmm139 (191, 0, 274, 1) zM274 (1, 23) [(2, 205), (0, x1)] [] rfl rfl rfl rfl ⟨by omega, by rw [zn274]; omega⟩ (zh_isLetter hK (c := x1) ⟨Nat.le_refl _, Nat.le_refl _⟩) (fun st2 μc2 hp2 => ?_)
    obtain ⟨rfl, x2, rfl, hx2a, hx2b, hx2c⟩ := hp2
    refine pm_if hK zmm139 .eq 16 123 rfl rfl (fun h0 => ?_) (fun h0 => ?_)
    · have h0 : x2 = (0 : Int) := h0
      have f2 := zT_get hT zs205_13 (i := 13) (by omega) (by omega)
      refine pm_blk hK zmm139 [] 6 133 [(2, 205), (0, c)] [(0, μ 205 12), (0, μ 205 13), (2, 205), (2, 205)] μ [] rfl trivial ?_
      refine pm_call hK zmm139 (194, 0, 275, 2) zM275 (0, 0) [(2, 205), (0, μ 205 13), (0, μ 205 12)] [(2, 205)] rfl rfl rfl rfl ⟨by omega, by rw [zn275]; omega⟩ (zh_wordAt hK (f := (μ 205 13)) (w := (μ 205 12)) hT ⟨by omega, by omega, by omega⟩ hqw ⟨Nat.le_refl _, Nat.le_refl _⟩) (fun st3 μc3 hp3 => ?_)
      obtain ⟨rfl, x3, rfl, hx3a, hx3b⟩ := hp3
      refine pm_blk hK zmm139 [] 1 139 [(2, 205), (0, c)] [] (pm_up μ 205 15 x3) [sx_bit Wm 205 = true] rfl ⟨hb205, trivial⟩ ?_
      obtain ⟨μ1, eμ1⟩ : ∃ μ', μ' = pm_up μ 205 15 x3 := ⟨_, rfl⟩
      rw [← eμ1]
      have hTμ1 : zTJ μ1 := by rw [eμ1]; exact zT_up hT zs205_15 rfl (i := 15) (by omega) (by omega) (by omega) (by omega)
      have w12 : μ1 205 12 = μ 205 12 := by rw [eμ1, pm_up_ne (by decide)]
      have w13 : μ1 205 13 = μ 205 13 := by rw [eμ1, pm_up_ne (by decide)]
      have w14 : μ1 205 14 = μ 205 14 := by rw [eμ1, pm_up_ne (by decide)]
      have w15 : μ1 205 15 = x3 := by rw [eμ1, pm_up_eq]
      have hfr2 : zFr μ0 μ1 := by rw [eμ1]; exact zFr_up hfr (by decide)
      have f3 := zT_get hTμ1 zs205_15 (i := 15) (by omega) (by omega)
      refine pm_blk hK zmm139 [] 3 144 [(2, 205), (0, c)] [(0, (-1)), (0, μ1 205 15)] μ1 [] rfl trivial ?_
      refine pm_icmp hK zmm139 .eq 129 273 rfl rfl (fun h1 => ?_) (fun h1 => ?_)
      · have h1 : μ1 205 15 = ((-1) : Int) := h1
        first
        | exact pm_vret rfl rfl ⟨rfl, zRdP_mk hTμ1 hfr2 w12 w13 w14 w15 (by omega) (by omega) (by omega) (by omega) (by omega)⟩
        | exact pm_vret rfl rfl ⟨rfl, zRdP_mk hTμ1 (by rw [eμ1]; exact zFr_up hfr2 (by decide)) (by rw [eμ1, pm_up_ne (by decide)]) (by rw [eμ1, pm_up_ne (by decide)]) (by rw [eμ1, pm_up_eq]) (by rw [eμ1, pm_up_ne (by decide)]) (by omega) (by omega) (by omega) (by omega) (by omega)⟩
      · have h1 : μ1 205 15 ≠ ((-1) : Int) := h1
        refine pm_blk hK zmm139 [] 3 152 [(2, 205), (0, c)] [] (pm_up μ1 205 14 2) [sx_bit Wm 205 = true] rfl ⟨hb205, trivial⟩ ?_
        obtain ⟨μ2, eμ2⟩ : ∃ μ', μ' = pm_up μ1 205 14 2 := ⟨_, rfl⟩
        rw [← eμ2]
        have hTμ2 : zTJ μ2 := by rw [eμ2]; exact zT_up hTμ1 zs205_14 rfl (i := 14) (by omega) (by omega) (by omega) (by omega)
        refine pm_blk hK zmm139 [] 1 273 [(2, 205), (0, c)] [] μ2 [] rfl trivial ?_
        first
        | exact pm_vret rfl rfl ⟨rfl, zRdP_mk hTμ2 hfr2 w12 w13 w14 w15 (by omega) (by omega) (by omega) (by omega) (by omega)⟩
        | exact pm_vret rfl rfl ⟨rfl, zRdP_mk hTμ2 (by rw [eμ2]; exact zFr_up hfr2 (by decide)) (by rw [eμ2, pm_up_ne (by decide)]) (by rw [eμ2, pm_up_ne (by decide)]) (by rw [eμ2, pm_up_eq]) (by rw [eμ2, pm_up_ne (by decide)]) (by omega) (by omega) (by omega) (by omega) (by omega)⟩
    · have h0 : x2 ≠ (0 : Int) := h0
      refine pm_blk hK zmm139 [] 6 120 [(2, 205), (0, c)] [] (pm_up μ 205 12 ((μ 205 12) + 1)) [pm_in ((μ 205 12) + 1), sx_bit Wm 205 = true] rfl ⟨pm_in_mk (by omega) (by omega), hb205, trivial⟩ ?_
      obtain ⟨μ3, eμ3⟩ : ∃ μ', μ' = pm_up μ 205 12 ((μ 205 12) + 1) := ⟨_, rfl⟩
      rw [← eμ3]
      have hTμ3 : zTJ μ3 := by rw [eμ3]; exact zT_up hT zs205_12 rfl (i := 12) (by omega) (by omega) (by omega) (by omega)
      refine pm_blk hK zmm139 [] 1 95 [(2, 205), (0, c)] [] μ3 [] rfl trivial ?_
      have d13 : μ3 205 13 = μ 205 13 := by rw [eμ3, pm_up_ne (by decide)]
      have d14 : μ3 205 14 = μ 205 14 := by rw [eμ3, pm_up_ne (by decide)]
      have d12 : μ3 205 12 = μ 205 12 + 1 := by rw [eμ3, pm_up_eq]
      refine ih _ (by omega) rfl (by omega) ⟨by omega, by omega, by omega⟩ hTμ3 (by rw [eμ3]; exact zFr_up hfr (by decide)) (fun i i0 i1 => ?_)
      have e211 : μ3 211 i = μ 211 i := by rw [eμ3, pm_up_off (by decide)]
      rw [e211]
      by_cases hi : i = μ 205 12
      · rw [hi]; omega
      · exact hq i (by omega) (by omega)
set_option maxRecDepth 100000 in
theorem zl_rd3 (hK : zKK ST)  {μ0 : pm_Mem} {c : Int} (hb205 : sx_bit Wm 205 = true) (hbd : 2 ≤ bud.1 ∧ 44 ≤ bud.2.1) : ∀ (n : Nat) {μ : pm_Mem}, (400 - μ 205 12).toNat = n → ∀ (h14 : μ 205 14 = 1) (hs : 0 ≤ μ 205 13 ∧ μ0 205 12 ≤ μ 205 13 ∧ μ 205 13 < μ 205 12) (hT : zTJ μ) (hfr : zFr μ0 μ) (hv : 0 ≤ μ 205 15 ∧ μ 205 15 ≤ 99999), zW D Wm ST b0 l Sg zM139 bud (pm_X zM139 (fun st' μ' => st' = [] ∧ zRdP μ0 μ')) 171 [(2, 205), (0, c)] [] μ := by
  intro n
  induction n using Nat.strongRecOn with
  | ind n ih =>
    intro  μ hn h14 hs hT hfr hv
    have f1 := zT_get hT zs205_12 (i := 12) (by omega) (by omega)
    refine pm_blk hK zmm139 [] 4 177 [(2, 205), (0, c)] [(0, μ 205 12), (2, 205), (2, 205)] μ [] rfl trivial ?_
    refine pm_call hK zmm139 (179, 0, 140, 1) zM140 (0, 0) [(2, 205), (0, μ 205 12)] [(2, 205)] rfl rfl rfl rfl ⟨by omega, by rw [zn140]; omega⟩ (zh_raw hK (i := (μ 205 12)) hT (by omega) ⟨Nat.le_refl _, Nat.le_refl _⟩) (fun st1 μc1 hp1 => ?_)
    obtain ⟨rfl, x1, rfl, hx1a, hx1b, hx1c, hx1d⟩ := hp1
    refine pm_call hK zmm139 (198, 0, 276, 1) zM276 (1, 23) [(2, 205), (0, x1)] [] rfl rfl rfl rfl ⟨by omega, by rw [zn276]; omega⟩ (zh_isDigit hK (c := x1) ⟨Nat.le_refl _, Nat.le_refl _⟩) (fun st2 μc2 hp2 => ?_)
    obtain ⟨rfl, x2, rfl, hx2a, hx2b, hx2c⟩ := hp2
    refine pm_if hK zmm139 .eq 56 239 rfl rfl (fun h0 => ?_) (fun h0 => ?_)
    · have h0 : x2 = (0 : Int) := h0
      have f2 := zT_get hT zs205_13 (i := 13) (by omega) (by omega)
      refine pm_blk hK zmm139 [] 6 249 [(2, 205), (0, c)] [(0, 5), (0, (μ 205 12) - (μ 205 13))] μ [pm_in ((μ 205 12) - (μ 205 13))] rfl ⟨pm_in_mk (by omega) (by omega), trivial⟩ ?_
      refine pm_icmp hK zmm139 .ge 24 273 rfl rfl (fun h1 => ?_) (fun h1 => ?_)
      · have h1 : (5 : Int) ≤ (μ 205 12) - (μ 205 13) := h1
        first
        | exact pm_vret rfl rfl ⟨rfl, zRdP_mk hT hfr rfl rfl h14 rfl (by omega) (by omega) (by omega) (by omega) (by omega)⟩
        | exact pm_vret rfl rfl ⟨rfl, zRdP_mk hT (by rw [eμ]; exact zFr_up hfr (by decide)) (by rw [eμ, pm_up_ne (by decide)]) (by rw [eμ, pm_up_ne (by decide)]) (by rw [eμ, pm_up_eq]) (by rw [eμ, pm_up_ne (by decide)]) (by omega) (by omega) (by omega) (by omega) (by omega)⟩
      · have h1 : (μ 205 12) - (μ 205 13) < (5 : Int) := h1
        refine pm_blk hK zmm139 [] 3 257 [(2, 205), (0, c)] [] (pm_up μ 205 14 3) [sx_bit Wm 205 = true] rfl ⟨hb205, trivial⟩ ?_
        obtain ⟨μ1, eμ1⟩ : ∃ μ', μ' = pm_up μ 205 14 3 := ⟨_, rfl⟩
        rw [← eμ1]
        have hTμ1 : zTJ μ1 := by rw [eμ1]; exact zT_up hT zs205_14 rfl (i := 14) (by omega) (by omega) (by omega) (by omega)
        refine pm_blk hK zmm139 [] 1 273 [(2, 205), (0, c)] [] μ1 [] rfl trivial ?_
        first
        | exact pm_vret rfl rfl ⟨rfl, zRdP_mk hTμ1 hfr rfl rfl h14 rfl (by omega) (by omega) (by omega) (by omega) (by omega)⟩
        | exact pm_vret rfl rfl ⟨rfl, zRdP_mk hTμ1 (by rw [eμ1]; exact zFr_up hfr (by decide)) (by rw [eμ1, pm_up_ne (by decide)]) (by rw [eμ1, pm_up_ne (by decide)]) (by rw [eμ1, pm_up_eq]) (by rw [eμ1, pm_up_ne (by decide)]) (by omega) (by omega) (by omega) (by omega) (by omega)⟩
    · have h0 : x2 ≠ (0 : Int) := h0
      have f3 := zT_get hT zs205_15 (i := 15) (by omega) (by omega)
      refine pm_blk hK zmm139 [] 4 194 [(2, 205), (0, c)] [(0, 10000), (0, μ 205 15), (2, 205)] μ [] rfl trivial ?_
      refine pm_icmp hK zmm139 .ge 25 219 rfl rfl (fun h2 => ?_) (fun h2 => ?_)
      · have h2 : (10000 : Int) ≤ μ 205 15 := h2
        refine pm_blk hK zmm139 [] 3 226 [(2, 205), (0, c)] [] (pm_up μ 205 15 (μ 205 15)) [sx_bit Wm 205 = true] rfl ⟨hb205, trivial⟩ ?_
        obtain ⟨μ2, eμ2⟩ : ∃ μ', μ' = pm_up μ 205 15 (μ 205 15) := ⟨_, rfl⟩
        rw [← eμ2]
        have hTμ2 : zTJ μ2 := by rw [eμ2]; exact zT_up hT zs205_15 rfl (i := 15) (by omega) (by omega) (by omega) (by omega)
        have z12 : μ2 205 12 = μ 205 12 := by rw [eμ2, pm_up_ne (by decide)]
        have f4 := zT_get hTμ2 zs205_12 (i := 12) (by omega) (by omega)
        refine pm_blk hK zmm139 [] 6 236 [(2, 205), (0, c)] [] (pm_up μ2 205 12 ((μ2 205 12) + 1)) [pm_in ((μ2 205 12) + 1), sx_bit Wm 205 = true] rfl ⟨pm_in_mk (by omega) (by omega), hb205, trivial⟩ ?_
        obtain ⟨μ3, eμ3⟩ : ∃ μ', μ' = pm_up μ2 205 12 ((μ2 205 12) + 1) := ⟨_, rfl⟩
        rw [← eμ3]
        have hTμ3 : zTJ μ3 := by rw [eμ3]; exact zT_up hTμ2 zs205_12 rfl (i := 12) (by omega) (by omega) (by omega) (by omega)
        refine pm_blk hK zmm139 [] 1 171 [(2, 205), (0, c)] [] μ3 [] rfl trivial ?_
        have d12 : μ3 205 12 = μ 205 12 + 1 := by rw [eμ3, pm_up_eq, eμ2, pm_up_ne (by decide)]
        have d13 : μ3 205 13 = μ 205 13 := by rw [eμ3, pm_up_ne (by decide), eμ2, pm_up_ne (by decide)]
        have d14 : μ3 205 14 = μ 205 14 := by rw [eμ3, pm_up_ne (by decide), eμ2, pm_up_ne (by decide)]
        have d15 := zT_get hTμ3 zs205_15 (i := 15) (by omega) (by omega)
        have d15b : 0 ≤ μ3 205 15 := by rw [eμ3, pm_up_ne (by decide), eμ2, pm_up_eq]; omega
        exact ih _ (by omega) rfl (by omega) ⟨by omega, by omega, by omega⟩ hTμ3 (by rw [eμ3]; exact zFr_up (by rw [eμ2]; exact zFr_up hfr (by decide)) (by decide)) ⟨by omega, by omega⟩
      · have h2 : μ 205 15 < (10000 : Int) := h2
        refine pm_blk hK zmm139 [] 7 209 [(2, 205), (0, c)] [(0, μ 205 12), (2, 205), (0, 10 * (μ 205 15)), (2, 205)] μ [pm_in (10 * (μ 205 15))] rfl ⟨pm_in_mk (by omega) (by omega), trivial⟩ ?_
        refine pm_call hK zmm139 (179, 0, 140, 1) zM140 (0, 0) [(2, 205), (0, μ 205 12)] [(0, 10 * (μ 205 15)), (2, 205)] rfl rfl rfl rfl ⟨by omega, by rw [zn140]; omega⟩ (zh_raw hK (i := (μ 205 12)) hT (by omega) ⟨Nat.le_refl _, Nat.le_refl _⟩) (fun st3 μc3 hp3 => ?_)
        obtain ⟨rfl, x3, rfl, hx3a, hx3b, hx3c, hx3d⟩ := hp3
        refine pm_blk hK zmm139 [] 5 226 [(2, 205), (0, c)] [] (pm_up μ 205 15 (((10 * (μ 205 15)) + x3) - 48)) [pm_in ((10 * (μ 205 15)) + x3), pm_in (((10 * (μ 205 15)) + x3) - 48), sx_bit Wm 205 = true] rfl ⟨pm_in_mk (by omega) (by omega), pm_in_mk (by omega) (by omega), hb205, trivial⟩ ?_
        obtain ⟨μ4, eμ4⟩ : ∃ μ', μ' = pm_up μ 205 15 (((10 * (μ 205 15)) + x3) - 48) := ⟨_, rfl⟩
        rw [← eμ4]
        have hTμ4 : zTJ μ4 := by rw [eμ4]; exact zT_up hT zs205_15 rfl (i := 15) (by omega) (by omega) (by omega) (by omega)
        have z12 : μ4 205 12 = μ 205 12 := by rw [eμ4, pm_up_ne (by decide)]
        have f5 := zT_get hTμ4 zs205_12 (i := 12) (by omega) (by omega)
        refine pm_blk hK zmm139 [] 6 236 [(2, 205), (0, c)] [] (pm_up μ4 205 12 ((μ4 205 12) + 1)) [pm_in ((μ4 205 12) + 1), sx_bit Wm 205 = true] rfl ⟨pm_in_mk (by omega) (by omega), hb205, trivial⟩ ?_
        obtain ⟨μ5, eμ5⟩ : ∃ μ', μ' = pm_up μ4 205 12 ((μ4 205 12) + 1) := ⟨_, rfl⟩
        rw [← eμ5]
        have hTμ5 : zTJ μ5 := by rw [eμ5]; exact zT_up hTμ4 zs205_12 rfl (i := 12) (by omega) (by omega) (by omega) (by omega)
        refine pm_blk hK zmm139 [] 1 171 [(2, 205), (0, c)] [] μ5 [] rfl trivial ?_
        have d12 : μ5 205 12 = μ 205 12 + 1 := by rw [eμ5, pm_up_eq, eμ4, pm_up_ne (by decide)]
        have d13 : μ5 205 13 = μ 205 13 := by rw [eμ5, pm_up_ne (by decide), eμ4, pm_up_ne (by decide)]
        have d14 : μ5 205 14 = μ 205 14 := by rw [eμ5, pm_up_ne (by decide), eμ4, pm_up_ne (by decide)]
        have d15 := zT_get hTμ5 zs205_15 (i := 15) (by omega) (by omega)
        have d15b : 0 ≤ μ5 205 15 := by rw [eμ5, pm_up_ne (by decide), eμ4, pm_up_eq]; omega
        exact ih _ (by omega) rfl (by omega) ⟨by omega, by omega, by omega⟩ hTμ5 (by rw [eμ5]; exact zFr_up (by rw [eμ4]; exact zFr_up hfr (by decide)) (by decide)) ⟨by omega, by omega⟩
set_option maxRecDepth 100000 in
theorem zh_reads (hK : zKK ST) (hT : zTJ μ) (hb205 : sx_bit Wm 205 = true) (hbd : 2 ≤ bud.1 ∧ 44 ≤ bud.2.1) : zC D Wm ST b0 l Sg zM139 bud [(2, 205)] μ (fun st' μ' => st' = [] ∧ zRdP μ μ') := by
  generalize hm0 : μ = μ0 at hT ⊢
  have f12 := zT_get hT zs205_12 (i := 12) (by omega) (by omega)
  refine zl_rd1 hK (μ0 := μ0) hb205 (fun μ hT hfr hs => ?_) hbd _ rfl hT (zFr_refl _) (Int.le_refl _)
  have g12 := zT_get hT zs205_12 (i := 12) (by omega) (by omega)
  have f1 := zT_get hT zs205_12 (i := 12) (by omega) (by omega)
  refine pm_blk hK zmm139 [] 4 47 [(2, 205), (9, 0)] [] (pm_up μ 205 13 (μ 205 12)) [sx_bit Wm 205 = true] rfl ⟨hb205, trivial⟩ ?_
  obtain ⟨μy1, eμy1⟩ : ∃ μ', μ' = pm_up μ 205 13 (μ 205 12) := ⟨_, rfl⟩
  rw [← eμy1]
  have hTμy1 : zTJ μy1 := by rw [eμy1]; exact zT_up hT zs205_13 rfl (i := 13) (by omega) (by omega) (by omega) (by omega)
  refine pm_blk hK zmm139 [] 3 52 [(2, 205), (9, 0)] [] (pm_up μy1 205 14 1) [sx_bit Wm 205 = true] rfl ⟨hb205, trivial⟩ ?_
  obtain ⟨μy2, eμy2⟩ : ∃ μ', μ' = pm_up μy1 205 14 1 := ⟨_, rfl⟩
  rw [← eμy2]
  have hTμy2 : zTJ μy2 := by rw [eμy2]; exact zT_up hTμy1 zs205_14 rfl (i := 14) (by omega) (by omega) (by omega) (by omega)
  have a12 : μy2 205 12 = μ 205 12 := by rw [eμy2, pm_up_ne (by decide), eμy1, pm_up_ne (by decide)]
  have a13 : μy2 205 13 = μ 205 12 := by rw [eμy2, pm_up_ne (by decide), eμy1, pm_up_eq]
  have a14 : μy2 205 14 = 1 := by rw [eμy2, pm_up_eq]
  have hfa : zFr μ0 μy2 := by rw [eμy2]; exact zFr_up (by rw [eμy1]; exact zFr_up hfr (by decide)) (by decide)
  have f2 := zT_get hTμy2 zs205_12 (i := 12) (by omega) (by omega)
  refine pm_blk hK zmm139 [] 3 57 [(2, 205), (9, 0)] [(0, μy2 205 12), (2, 205)] μy2 [] rfl trivial ?_
  refine pm_call hK zmm139 (179, 0, 140, 1) zM140 (0, 0) [(2, 205), (0, μy2 205 12)] [] rfl rfl rfl rfl ⟨by omega, by rw [zn140]; omega⟩ (zh_raw hK (i := (μy2 205 12)) hTμy2 (by omega) ⟨Nat.le_refl _, Nat.le_refl _⟩) (fun sty1 μcy1 hpy1 => ?_)
  obtain ⟨rfl, xy1, rfl, hxy1a, hxy1b, hxy1c, hxy1d⟩ := hpy1
  refine pm_blk hK zmm139 [] 3 63 [(2, 205), (0, xy1)] [(0, (-1)), (0, xy1)] μy2 [] rfl trivial ?_
  refine pm_icmp hK zmm139 .ne 9 72 rfl rfl (fun hy0 => ?_) (fun hy0 => ?_)
  · have hy0 : xy1 ≠ ((-1) : Int) := hy0
    refine pm_blk hK zmm139 [] 6 82 [(2, 205), (0, xy1)] [] (pm_up μy2 205 12 ((μy2 205 12) + 1)) [pm_in ((μy2 205 12) + 1), sx_bit Wm 205 = true] rfl ⟨pm_in_mk (by omega) (by omega), hb205, trivial⟩ ?_
    obtain ⟨μy3, eμy3⟩ : ∃ μ', μ' = pm_up μy2 205 12 ((μy2 205 12) + 1) := ⟨_, rfl⟩
    rw [← eμy3]
    have hTμy3 : zTJ μy3 := by rw [eμy3]; exact zT_up hTμy2 zs205_12 rfl (i := 12) (by omega) (by omega) (by omega) (by omega)
    refine pm_blk hK zmm139 [] 3 87 [(2, 205), (0, xy1)] [] (pm_up μy3 205 15 xy1) [sx_bit Wm 205 = true] rfl ⟨hb205, trivial⟩ ?_
    obtain ⟨μy4, eμy4⟩ : ∃ μ', μ' = pm_up μy3 205 15 xy1 := ⟨_, rfl⟩
    rw [← eμy4]
    have hTμy4 : zTJ μy4 := by rw [eμy4]; exact zT_up hTμy3 zs205_15 rfl (i := 15) (by omega) (by omega) (by omega) (by omega)
    have c12 : μy4 205 12 = μ 205 12 + 1 := by rw [eμy4, pm_up_ne (by decide), eμy3, pm_up_eq]; omega
    have c13 : μy4 205 13 = μ 205 12 := by rw [eμy4, pm_up_ne (by decide), eμy3, pm_up_ne (by decide)]; exact a13
    have c14 : μy4 205 14 = 1 := by rw [eμy4, pm_up_ne (by decide), eμy3, pm_up_ne (by decide)]; exact a14
    have hfc : zFr μ0 μy4 := by rw [eμy4]; exact zFr_up (by rw [eμy3]; exact zFr_up hfa (by decide)) (by decide)
    have t211 : ∀ i, μy4 211 i = μy2 211 i := fun i => by rw [eμy4, pm_up_off (by decide), eμy3, pm_up_off (by decide)]
    refine pm_blk hK zmm139 [] 2 89 [(2, 205), (0, xy1)] [(0, xy1), (2, 205)] μy4 [] rfl trivial ?_
    refine pm_call hK zmm139 (191, 0, 274, 1) zM274 (1, 23) [(2, 205), (0, xy1)] [] rfl rfl rfl rfl ⟨by omega, by rw [zn274]; omega⟩ (zh_isLetter hK (c := xy1) ⟨Nat.le_refl _, Nat.le_refl _⟩) (fun sty2 μcy2 hpy2 => ?_)
    obtain ⟨rfl, xy2, rfl, hxy2a, hxy2b, hxy2c⟩ := hpy2
    refine pm_if hK zmm139 .eq 63 155 rfl rfl (fun hy1 => ?_) (fun hy1 => ?_)
    · have hy1 : xy2 = (0 : Int) := hy1
      refine pm_blk hK zmm139 [] 2 157 [(2, 205), (0, xy1)] [(0, xy1), (2, 205)] μy4 [] rfl trivial ?_
      refine pm_call hK zmm139 (198, 0, 276, 1) zM276 (1, 23) [(2, 205), (0, xy1)] [] rfl rfl rfl rfl ⟨by omega, by rw [zn276]; omega⟩ (zh_isDigit hK (c := xy1) ⟨Nat.le_refl _, Nat.le_refl _⟩) (fun sty3 μcy3 hpy3 => ?_)
      obtain ⟨rfl, xy3, rfl, hxy3a, hxy3b, hxy3c⟩ := hpy3
      refine pm_if hK zmm139 .eq 100 260 rfl rfl (fun hy2 => ?_) (fun hy2 => ?_)
      · have hy2 : xy3 = (0 : Int) := hy2
        refine pm_blk hK zmm139 [] 2 262 [(2, 205), (0, xy1)] [(0, xy1), (2, 205)] μy4 [] rfl trivial ?_
        refine pm_call hK zmm139 (201, 0, 277, 1) zM277 (0, 0) [(2, 205), (0, xy1)] [] rfl rfl rfl rfl ⟨by omega, by rw [zn277]; omega⟩ (zh_isMarkSign hK (c := xy1) ⟨Nat.le_refl _, Nat.le_refl _⟩) (fun sty4 μcy4 hpy4 => ?_)
        obtain ⟨rfl, xy4, rfl, hxy4a, hxy4b⟩ := hpy4
        refine pm_if hK zmm139 .eq 8 273 rfl rfl (fun hy3 => ?_) (fun hy3 => ?_)
        · have hy3 : xy4 = (0 : Int) := hy3
          first
          | exact pm_vret rfl rfl ⟨rfl, zRdP_mk hTμy4 hfc c12 c13 c14 rfl (by omega) (by omega) (by omega) (by omega) (by omega)⟩
          | exact pm_vret rfl rfl ⟨rfl, zRdP_mk hTμy4 (by rw [eμy4]; exact zFr_up hfc (by decide)) (by rw [eμy4, pm_up_ne (by decide)]) (by rw [eμy4, pm_up_ne (by decide)]) (by rw [eμy4, pm_up_eq]) rfl (by omega) (by omega) (by omega) (by omega) (by omega)⟩
        · have hy3 : xy4 ≠ (0 : Int) := hy3
          refine pm_blk hK zmm139 [] 3 273 [(2, 205), (0, xy1)] [] (pm_up μy4 205 14 4) [sx_bit Wm 205 = true] rfl ⟨hb205, trivial⟩ ?_
          obtain ⟨μy5, eμy5⟩ : ∃ μ', μ' = pm_up μy4 205 14 4 := ⟨_, rfl⟩
          rw [← eμy5]
          have hTμy5 : zTJ μy5 := by rw [eμy5]; exact zT_up hTμy4 zs205_14 rfl (i := 14) (by omega) (by omega) (by omega) (by omega)
          first
          | exact pm_vret rfl rfl ⟨rfl, zRdP_mk hTμy5 hfc c12 c13 c14 rfl (by omega) (by omega) (by omega) (by omega) (by omega)⟩
          | exact pm_vret rfl rfl ⟨rfl, zRdP_mk hTμy5 (by rw [eμy5]; exact zFr_up hfc (by decide)) (by rw [eμy5, pm_up_ne (by decide)]) (by rw [eμy5, pm_up_ne (by decide)]) (by rw [eμy5, pm_up_eq]) rfl (by omega) (by omega) (by omega) (by omega) (by omega)⟩
      · have hy2 : xy3 ≠ (0 : Int) := hy2
        refine pm_blk hK zmm139 [] 5 171 [(2, 205), (0, xy1)] [] (pm_up μy4 205 15 (xy1 - 48)) [pm_in (xy1 - 48), sx_bit Wm 205 = true] rfl ⟨pm_in_mk (by omega) (by omega), hb205, trivial⟩ ?_
        obtain ⟨μy6, eμy6⟩ : ∃ μ', μ' = pm_up μy4 205 15 (xy1 - 48) := ⟨_, rfl⟩
        rw [← eμy6]
        have hTμy6 : zTJ μy6 := by rw [eμy6]; exact zT_up hTμy4 zs205_15 rfl (i := 15) (by omega) (by omega) (by omega) (by omega)
        refine zl_rd3 hK (μ0 := μ0) hb205 hbd _ rfl (by rw [eμy6, pm_up_ne (by decide)]; exact c14) ?_ hTμy6 (by rw [eμy6]; exact zFr_up hfc (by decide)) ?_
        · have z12 : μy6 205 12 = μ 205 12 + 1 := by rw [eμy6, pm_up_ne (by decide)]; exact c12
          have z13 : μy6 205 13 = μ 205 12 := by rw [eμy6, pm_up_ne (by decide)]; exact c13
          omega
        · rw [eμy6, pm_up_eq]
          omega
    · have hy1 : xy2 ≠ (0 : Int) := hy1
      refine zl_rd2 hK (μ0 := μ0) hb205 hbd _ rfl c14 ⟨by omega, by omega, by omega⟩ hTμy4 hfc (fun i i0 i1 => ?_)
      rw [t211]
      obtain rfl : i = μ 205 12 := by omega
      rw [← a12]
      omega
  · have hy0 : xy1 = ((-1) : Int) := hy0
    refine pm_blk hK zmm139 [] 3 71 [(2, 205), (0, xy1)] [] (pm_up μy2 205 14 0) [sx_bit Wm 205 = true] rfl ⟨hb205, trivial⟩ ?_
    obtain ⟨μy7, eμy7⟩ : ∃ μ', μ' = pm_up μy2 205 14 0 := ⟨_, rfl⟩
    rw [← eμy7]
    have hTμy7 : zTJ μy7 := by rw [eμy7]; exact zT_up hTμy2 zs205_14 rfl (i := 14) (by omega) (by omega) (by omega) (by omega)
    exact pm_vret rfl rfl ⟨rfl, zRdP_mk hTμy7 (by rw [eμy7]; exact zFr_up hfa (by decide)) (by rw [eμy7, pm_up_ne (by decide)]) (by rw [eμy7, pm_up_ne (by decide)]) (by rw [eμy7, pm_up_eq]) rfl (by omega) (by omega) (by omega) (by omega) (by omega)⟩
end ZHW
