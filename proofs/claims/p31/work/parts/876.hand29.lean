/-! errands of the class; walks printed by program (wip/p30/pmgen.py) and filled by hand -/
section ZHW
variable {D : va_G} {Wm : Nat} {ST : List (String × String × String × Nat)} {b0 : sx_B} {l : Launch} {Sg : Nat → Option Nat} {bud : sx_Bu} {μ : pm_Mem} {B0 : Nat → Prop} {J : (Nat → Option Nat) → Heap → Prop}
set_option maxRecDepth 100000 in
theorem zh_full33 (hK : zKK ST) (hbd : 0 ≤ bud.1 ∧ 0 ≤ bud.2.1) : zC D Wm ST b0 l Sg zM72 bud [(2, 33)] μ (fun st' μ' => μ = μ' ∧ st' = [(0, if 10 ≤ μ 33 1 then 1 else 0)]) := by
  refine pm_blk hK zmm72 [] 5 9 [(2, 33)] [(0, 10), (0, μ 33 1)] μ [] rfl trivial ?_
  refine pm_icmp hK zmm72 .lt 7 16 rfl rfl (fun h0 => ?_) (fun h0 => ?_)
  · have h0 : μ 33 1 < (10 : Int) := h0
    refine pm_blk hK zmm72 [] 1 17 [(2, 33)] [(0, 0)] μ [] rfl trivial ?_
    exact pm_zret rfl rfl (by first | exact Or.inl rfl | exact Or.inr rfl | omega) ⟨rfl, by first | rw [if_pos (by omega)] | rw [if_neg (by omega)]⟩
  · have h0 : (10 : Int) ≤ μ 33 1 := h0
    refine pm_blk hK zmm72 [] 2 17 [(2, 33)] [(0, 1)] μ [] rfl trivial ?_
    exact pm_zret rfl rfl (by first | exact Or.inl rfl | exact Or.inr rfl | omega) ⟨rfl, by first | rw [if_pos (by omega)] | rw [if_neg (by omega)]⟩
set_option maxRecDepth 100000 in
theorem zh_add33 (hK : zKK ST) {v : Int} (hT : zTJ μ) (hv : 0 ≤ v ∧ v ≤ 20) (hb33 : sx_bit Wm 33 = true) (hb34 : sx_bit Wm 34 = true) (hbd : 1 ≤ bud.1 ∧ 20 ≤ bud.2.1) : zC D Wm ST b0 l Sg zM74 bud [(2, 33), (0, v)] μ (fun st' μ' => ∃ x, st' = [(0, x)] ∧ zTJ μ' ∧ (∀ q, q ≠ 33 → q ≠ 34 → μ' q = μ q) ∧ ((x = -1 ∧ μ 33 1 = 10 ∧ μ' 33 1 = μ 33 1) ∨ (x = μ 33 1 + 1 ∧ μ 33 1 < 10 ∧ μ' 33 1 = μ 33 1 + 1))) := by
  have f1 := zT_get hT zs33_1 (i := 1) (by omega) (by omega)
  refine pm_blk hK zmm74 [] 2 4 [(2, 33), (0, v)] [(0, μ 33 1)] μ [] rfl trivial ?_
  refine pm_if hK zmm74 .lt 10 14 rfl rfl (fun h0 => ?_) (fun h0 => ?_)
  · have h0 : μ 33 1 < (0 : Int) := h0
    refine pm_blk hK zmm74 [] 1 15 [(2, 33), (0, v)] [(0, (-1))] μ [] rfl trivial ?_
    first
    | (exfalso; omega)
    | exact pm_iret rfl rfl ⟨_, rfl, hT, fun _ _ _ => rfl, Or.inl ⟨rfl, by omega, rfl⟩⟩
  · have h0 : (0 : Int) ≤ μ 33 1 := h0
    refine pm_blk hK zmm74 [] 1 8 [(2, 33), (0, v)] [(2, 33)] μ [] rfl trivial ?_
    refine pm_call hK zmm74 (19, 0, 72, 0) zM72 (0, 0) [(2, 33)] [] rfl rfl rfl rfl ⟨by omega, by rw [zn72]; omega⟩ (zh_full33 hK ⟨Nat.le_refl _, Nat.le_refl _⟩) (fun st1 μc1 hp1 => ?_)
    obtain ⟨rfl, rfl⟩ := hp1
    refine pm_if hK zmm74 .eq 5 16 rfl rfl (fun h1 => ?_) (fun h1 => ?_)
    · have h1 : (if 10 ≤ μ 33 1 then 1 else 0 : Int) = (0 : Int) := h1
      have h1 := zif0 h1
      refine pm_blk hK zmm74 [] 6 26 [(2, 33), (0, v)] [] (pm_up μ 34 (μ 33 1) v) [sx_bit Wm 34 = true, 0 ≤ μ 33 1 ∧ μ 33 1 < 10] rfl ⟨hb34, ⟨by omega, by omega⟩, trivial⟩ ?_
      obtain ⟨μ1, eμ1⟩ : ∃ μ', μ' = pm_up μ 34 (μ 33 1) v := ⟨_, rfl⟩
      rw [← eμ1]
      have hTμ1 : zTJ μ1 := by rw [eμ1]; exact zT_up hT zs34_0 rfl (i := μ 33 1) (by omega) (by omega) (by omega) (by omega)
      have a1 : μ1 33 1 = μ 33 1 := by rw [eμ1, pm_up_off (by decide)]
      have g2 : μ1 33 1 = μ 33 1 := by rw [eμ1, pm_up_off (by decide)]
      have f3 := zT_get hTμ1 zs33_1 (i := 1) (by omega) (by omega)
      refine pm_blk hK zmm74 [] 6 36 [(2, 33), (0, v)] [] (pm_up μ1 33 1 ((μ1 33 1) + 1)) [pm_in ((μ1 33 1) + 1), sx_bit Wm 33 = true] rfl ⟨pm_in_mk (by omega) (by omega), hb33, trivial⟩ ?_
      obtain ⟨μ2, eμ2⟩ : ∃ μ', μ' = pm_up μ1 33 1 ((μ1 33 1) + 1) := ⟨_, rfl⟩
      rw [← eμ2]
      have hTμ2 : zTJ μ2 := by rw [eμ2]; exact zT_up hTμ1 zs33_1 rfl (i := 1) (by omega) (by omega) (by omega) (by omega)
      have a2 : μ2 33 1 = μ 33 1 + 1 := by rw [eμ2, pm_up_eq, a1]
      have f4 := zT_get hTμ2 zs33_1 (i := 1) (by omega) (by omega)
      refine pm_blk hK zmm74 [] 2 40 [(2, 33), (0, v)] [(0, μ2 33 1)] μ2 [] rfl trivial ?_
      exact pm_iret rfl rfl ⟨_, rfl, hTμ2, fun q q1 q2 => by rw [eμ2, pm_up_row q1, eμ1, pm_up_row q2], Or.inr ⟨a2, by omega, a2⟩⟩
    · have h1 : (if 10 ≤ μ 33 1 then 1 else 0 : Int) ≠ (0 : Int) := h1
      have h1 := zif1 h1
      refine pm_blk hK zmm74 [] 1 15 [(2, 33), (0, v)] [(0, (-1))] μ [] rfl trivial ?_
      first
      | (exfalso; omega)
      | exact pm_iret rfl rfl ⟨_, rfl, hT, fun _ _ _ => rfl, Or.inl ⟨rfl, by omega, rfl⟩⟩
set_option maxRecDepth 100000 in
theorem zh_full35 (hK : zKK ST) (hbd : 0 ≤ bud.1 ∧ 0 ≤ bud.2.1) : zC D Wm ST b0 l Sg zM72 bud [(2, 35)] μ (fun st' μ' => μ = μ' ∧ st' = [(0, if 10 ≤ μ 35 1 then 1 else 0)]) := by
  refine pm_blk hK zmm72 [] 5 9 [(2, 35)] [(0, 10), (0, μ 35 1)] μ [] rfl trivial ?_
  refine pm_icmp hK zmm72 .lt 7 16 rfl rfl (fun h0 => ?_) (fun h0 => ?_)
  · have h0 : μ 35 1 < (10 : Int) := h0
    refine pm_blk hK zmm72 [] 1 17 [(2, 35)] [(0, 0)] μ [] rfl trivial ?_
    exact pm_zret rfl rfl (by first | exact Or.inl rfl | exact Or.inr rfl | omega) ⟨rfl, by first | rw [if_pos (by omega)] | rw [if_neg (by omega)]⟩
  · have h0 : (10 : Int) ≤ μ 35 1 := h0
    refine pm_blk hK zmm72 [] 2 17 [(2, 35)] [(0, 1)] μ [] rfl trivial ?_
    exact pm_zret rfl rfl (by first | exact Or.inl rfl | exact Or.inr rfl | omega) ⟨rfl, by first | rw [if_pos (by omega)] | rw [if_neg (by omega)]⟩
set_option maxRecDepth 100000 in
theorem zh_add35 (hK : zKK ST) {v : Int} (hT : zTJ μ) (hv : 0 ≤ v ∧ v ≤ 99) (hb35 : sx_bit Wm 35 = true) (hb36 : sx_bit Wm 36 = true) (hbd : 1 ≤ bud.1 ∧ 20 ≤ bud.2.1) : zC D Wm ST b0 l Sg zM74 bud [(2, 35), (0, v)] μ (fun st' μ' => ∃ x, st' = [(0, x)] ∧ zTJ μ' ∧ (∀ q, q ≠ 35 → q ≠ 36 → μ' q = μ q) ∧ ((x = -1 ∧ μ 35 1 = 10 ∧ μ' 35 1 = μ 35 1) ∨ (x = μ 35 1 + 1 ∧ μ 35 1 < 10 ∧ μ' 35 1 = μ 35 1 + 1))) := by
  have f1 := zT_get hT zs35_1 (i := 1) (by omega) (by omega)
  refine pm_blk hK zmm74 [] 2 4 [(2, 35), (0, v)] [(0, μ 35 1)] μ [] rfl trivial ?_
  refine pm_if hK zmm74 .lt 10 14 rfl rfl (fun h0 => ?_) (fun h0 => ?_)
  · have h0 : μ 35 1 < (0 : Int) := h0
    refine pm_blk hK zmm74 [] 1 15 [(2, 35), (0, v)] [(0, (-1))] μ [] rfl trivial ?_
    first
    | (exfalso; omega)
    | exact pm_iret rfl rfl ⟨_, rfl, hT, fun _ _ _ => rfl, Or.inl ⟨rfl, by omega, rfl⟩⟩
  · have h0 : (0 : Int) ≤ μ 35 1 := h0
    refine pm_blk hK zmm74 [] 1 8 [(2, 35), (0, v)] [(2, 35)] μ [] rfl trivial ?_
    refine pm_call hK zmm74 (19, 0, 72, 0) zM72 (0, 0) [(2, 35)] [] rfl rfl rfl rfl ⟨by omega, by rw [zn72]; omega⟩ (zh_full35 hK ⟨Nat.le_refl _, Nat.le_refl _⟩) (fun st1 μc1 hp1 => ?_)
    obtain ⟨rfl, rfl⟩ := hp1
    refine pm_if hK zmm74 .eq 5 16 rfl rfl (fun h1 => ?_) (fun h1 => ?_)
    · have h1 : (if 10 ≤ μ 35 1 then 1 else 0 : Int) = (0 : Int) := h1
      have h1 := zif0 h1
      refine pm_blk hK zmm74 [] 6 26 [(2, 35), (0, v)] [] (pm_up μ 36 (μ 35 1) v) [sx_bit Wm 36 = true, 0 ≤ μ 35 1 ∧ μ 35 1 < 10] rfl ⟨hb36, ⟨by omega, by omega⟩, trivial⟩ ?_
      obtain ⟨μ1, eμ1⟩ : ∃ μ', μ' = pm_up μ 36 (μ 35 1) v := ⟨_, rfl⟩
      rw [← eμ1]
      have hTμ1 : zTJ μ1 := by rw [eμ1]; exact zT_up hT zs36_0 rfl (i := μ 35 1) (by omega) (by omega) (by omega) (by omega)
      have a1 : μ1 35 1 = μ 35 1 := by rw [eμ1, pm_up_off (by decide)]
      have g2 : μ1 35 1 = μ 35 1 := by rw [eμ1, pm_up_off (by decide)]
      have f3 := zT_get hTμ1 zs35_1 (i := 1) (by omega) (by omega)
      refine pm_blk hK zmm74 [] 6 36 [(2, 35), (0, v)] [] (pm_up μ1 35 1 ((μ1 35 1) + 1)) [pm_in ((μ1 35 1) + 1), sx_bit Wm 35 = true] rfl ⟨pm_in_mk (by omega) (by omega), hb35, trivial⟩ ?_
      obtain ⟨μ2, eμ2⟩ : ∃ μ', μ' = pm_up μ1 35 1 ((μ1 35 1) + 1) := ⟨_, rfl⟩
      rw [← eμ2]
      have hTμ2 : zTJ μ2 := by rw [eμ2]; exact zT_up hTμ1 zs35_1 rfl (i := 1) (by omega) (by omega) (by omega) (by omega)
      have a2 : μ2 35 1 = μ 35 1 + 1 := by rw [eμ2, pm_up_eq, a1]
      have f4 := zT_get hTμ2 zs35_1 (i := 1) (by omega) (by omega)
      refine pm_blk hK zmm74 [] 2 40 [(2, 35), (0, v)] [(0, μ2 35 1)] μ2 [] rfl trivial ?_
      exact pm_iret rfl rfl ⟨_, rfl, hTμ2, fun q q1 q2 => by rw [eμ2, pm_up_row q1, eμ1, pm_up_row q2], Or.inr ⟨a2, by omega, a2⟩⟩
    · have h1 : (if 10 ≤ μ 35 1 then 1 else 0 : Int) ≠ (0 : Int) := h1
      have h1 := zif1 h1
      refine pm_blk hK zmm74 [] 1 15 [(2, 35), (0, v)] [(0, (-1))] μ [] rfl trivial ?_
      first
      | (exfalso; omega)
      | exact pm_iret rfl rfl ⟨_, rfl, hT, fun _ _ _ => rfl, Or.inl ⟨rfl, by omega, rfl⟩⟩
set_option maxRecDepth 100000 in
theorem zh_tell33 (hK : zKK ST) {a : Int} (hT : zTJ μ) (hb33 : sx_bit Wm 33 = true) (hb34 : sx_bit Wm 34 = true) (hbd : 2 ≤ bud.1 ∧ 41 ≤ bud.2.1) : zC D Wm ST b0 l Sg zM73 bud [(2, 33), (0, a), (0, (-1)), (0, 1), (0, 20)] μ (fun st' μ' => ∃ x, st' = [(0, x)] ∧ -1 ≤ x ∧ x ≤ 10 ∧ zTJ μ' ∧ (∀ q, q ≠ 33 → q ≠ 34 → μ' q = μ q) ∧ ((a = -1 ∧ x = 0 ∧ μ' 33 1 = 0) ∨ (a ≠ -1 ∧ x = -1 ∧ μ' 33 1 = μ 33 1) ∨ (a ≠ -1 ∧ 0 < x ∧ μ 33 1 < 10 ∧ μ' 33 1 = μ 33 1 + 1))) := by
  have f0 := zT_get hT zs33_1 (i := 1) (by omega) (by omega)
  refine pm_blk hK zmm73 [] 2 2 [(2, 33), (0, a), (0, (-1)), (0, 1), (0, 20)] [(0, (-1)), (0, a)] μ [] rfl trivial ?_
  refine pm_icmp hK zmm73 .ne 10 12 rfl rfl (fun h0 => ?_) (fun h0 => ?_)
  · have h0 : a ≠ ((-1) : Int) := h0
    refine pm_blk hK zmm73 [] 3 16 [(2, 33), (0, a), (0, (-1)), (0, 1), (0, 20)] [(0, 20), (0, 1), (0, a)] μ [] rfl trivial ?_
    refine pm_call hK zmm73 (94, 1, 16, 3) zM16 (0, 0) [(0, a), (0, 1), (0, 20)] [] rfl rfl rfl rfl ⟨by omega, by rw [zn16]; omega⟩ (zh_within hK ⟨Nat.le_refl _, Nat.le_refl _⟩) (fun st1 μc1 hp1 => ?_)
    obtain ⟨rfl, rfl⟩ := hp1
    refine pm_if hK zmm73 .eq 11 30 rfl rfl (fun h1 => ?_) (fun h1 => ?_)
    · have h1 : (if 1 ≤ a ∧ a ≤ 20 then 1 else 0 : Int) = (0 : Int) := h1
      have h1 := zif0 h1
      refine pm_blk hK zmm73 [] 1 31 [(2, 33), (0, a), (0, (-1)), (0, 1), (0, 20)] [(0, (-1))] μ [] rfl trivial ?_
      first
      | exact pm_iret rfl rfl ⟨_, rfl, by omega, by omega, hT, hFa, by omega⟩
      | exact pm_iret rfl rfl ⟨_, rfl, by omega, by omega, hT, fun _ _ _ => rfl, Or.inr (Or.inl ⟨by omega, rfl, rfl⟩)⟩
    · have h1 : (if 1 ≤ a ∧ a ≤ 20 then 1 else 0 : Int) ≠ (0 : Int) := h1
      have h1 := zif1 h1
      refine pm_blk hK zmm73 [] 2 24 [(2, 33), (0, a), (0, (-1)), (0, 1), (0, 20)] [(0, a), (2, 33)] μ [] rfl trivial ?_
      refine pm_call hK zmm73 (310, 0, 74, 1) zM74 (1, 20) [(2, 33), (0, a)] [] rfl rfl rfl rfl ⟨by omega, by rw [zn74]; omega⟩ (zh_add33 hK (v := a) hT ⟨by omega, by omega⟩ hb33 hb34 ⟨Nat.le_refl _, Nat.le_refl _⟩) (fun st2 μc2 hp2 => ?_)
      obtain ⟨x2, rfl, hTc2, hFa2, hd2⟩ := hp2
      have hFa := hFa2
      have hda := hd2
      refine pm_blk hK zmm73 [] 1 31 [(2, 33), (0, a), (0, (-1)), (0, 1), (0, 20)] [(0, x2)] μc2 [] rfl trivial ?_
      first
      | exact pm_iret rfl rfl ⟨_, rfl, by omega, by omega, hTc2, hFa, by omega⟩
      | exact pm_iret rfl rfl ⟨_, rfl, by omega, by omega, hTc2, fun _ _ _ => rfl, Or.inr (Or.inl ⟨by omega, rfl, rfl⟩)⟩
  · have h0 : a = ((-1) : Int) := h0
    refine pm_blk hK zmm73 [] 3 10 [(2, 33), (0, a), (0, (-1)), (0, 1), (0, 20)] [] (pm_up μ 33 1 0) [sx_bit Wm 33 = true] rfl ⟨hb33, trivial⟩ ?_
    obtain ⟨μ1, eμ1⟩ : ∃ μ', μ' = pm_up μ 33 1 0 := ⟨_, rfl⟩
    rw [← eμ1]
    have hTμ1 : zTJ μ1 := by rw [eμ1]; exact zT_up hT zs33_1 rfl (i := 1) (by omega) (by omega) (by omega) (by omega)
    refine pm_blk hK zmm73 [] 1 11 [(2, 33), (0, a), (0, (-1)), (0, 1), (0, 20)] [(0, 0)] μ1 [] rfl trivial ?_
    exact pm_iret rfl rfl ⟨_, rfl, by omega, by omega, hTμ1, fun q q1 _ => by rw [eμ1, pm_up_row q1], Or.inl ⟨by omega, rfl, by rw [eμ1, pm_up_eq]⟩⟩
set_option maxRecDepth 100000 in
theorem zh_errandx (hK : zKK ST) {a b : Int} (hT : zTJ μ) (he : μ 33 1 = μ 35 1) (hb33 : sx_bit Wm 33 = true) (hb34 : sx_bit Wm 34 = true) (hb35 : sx_bit Wm 35 = true) (hb36 : sx_bit Wm 36 = true) (hbd : 3 ≤ bud.1 ∧ 65 ≤ bud.2.1) : zC D Wm ST b0 l Sg zM84 bud [(2, 1), (0, a), (0, b)] μ (fun st' μ' => ∃ x, st' = [(0, x)] ∧ -1 ≤ x ∧ x ≤ 10 ∧ zTJ μ' ∧ μ' 33 1 = μ' 35 1 ∧ (∀ q, q ≠ 33 → q ≠ 34 → q ≠ 35 → q ≠ 36 → μ' q = μ q)) := by
  refine pm_blk hK zmm84 [] 2 2 [(2, 1), (0, a), (0, b), (9, 0)] [(0, (-1)), (0, a)] μ [] rfl trivial ?_
  refine pm_icmp hK zmm84 .ne 17 19 rfl rfl (fun h0 => ?_) (fun h0 => ?_)
  · have h0 : a ≠ ((-1) : Int) := h0
    refine pm_blk hK zmm84 [] 3 23 [(2, 1), (0, a), (0, b), (9, 0)] [(0, 99), (0, 0), (0, b)] μ [] rfl trivial ?_
    refine pm_call hK zmm84 (94, 1, 16, 3) zM16 (0, 0) [(0, b), (0, 0), (0, 99)] [] rfl rfl rfl rfl ⟨by omega, by rw [zn16]; omega⟩ (zh_within hK ⟨Nat.le_refl _, Nat.le_refl _⟩) (fun st1 μc1 hp1 => ?_)
    obtain ⟨rfl, rfl⟩ := hp1
    refine pm_if hK zmm84 .ne 5 31 rfl rfl (fun h1 => ?_) (fun h1 => ?_)
    · have h1 : (if 0 ≤ b ∧ b ≤ 99 then 1 else 0 : Int) ≠ (0 : Int) := h1
      have h1 := zif1 h1
      refine pm_blk hK zmm84 [] 7 43 [(2, 1), (0, a), (0, b), (9, 0)] [(0, 20), (0, 1), (0, (-1)), (0, a), (2, 33)] μ [] rfl trivial ?_
      refine pm_call hK zmm84 (296, 1, 73, 5) zM73 (2, 41) [(2, 33), (0, a), (0, (-1)), (0, 1), (0, 20)] [] rfl rfl rfl rfl ⟨by omega, by rw [zn73]; omega⟩ (zh_tell33 hK (a := a) hT hb33 hb34 ⟨Nat.le_refl _, Nat.le_refl _⟩) (fun st2 μc2 hp2 => ?_)
      obtain ⟨x2, rfl, hx2, hy2, hTc2, hFt2, hd2⟩ := hp2
      have hFt := hFt2
      have hdt := hd2
      have q35 : (a = -1 ∧ μc2 35 1 = 0) ∨ (a ≠ -1 ∧ μc2 35 1 = μ 35 1) := by
        first
        | exact Or.inr ⟨by assumption, by rw [hFt 35 (by decide) (by decide)]⟩
        | exact Or.inl ⟨by omega, by rw [hFt 35 (by decide) (by decide), eμ1, pm_up_eq]⟩
      have qF : ∀ q, q ≠ 33 → q ≠ 34 → q ≠ 35 → q ≠ 36 → μc2 q = μ q := fun q q1 q2 q3 q4 => by
        first
        | (rw [hFt q q1 q2, eμ1, pm_up_row q3]; done)
        | (rw [hFt q q1 q2]; done)
      refine pm_blk hK zmm84 [] 2 48 [(2, 1), (0, a), (0, b), (0, x2)] [(0, x2)] μc2 [] rfl trivial ?_
      refine pm_if hK zmm84 .le 15 63 rfl rfl (fun h2 => ?_) (fun h2 => ?_)
      · have h2 : x2 ≤ (0 : Int) := h2
        refine pm_blk hK zmm84 [] 1 64 [(2, 1), (0, a), (0, b), (0, x2)] [(0, x2)] μc2 [] rfl trivial ?_
        first
        | exact pm_iret rfl rfl ⟨_, rfl, by omega, by omega, hTc2, by rw [hFa 33 (by decide) (by decide)]; omega, fun q q1 q2 q3 q4 => by rw [hFa q q3 q4]; exact qF q q1 q2 q3 q4⟩
        | exact pm_iret rfl rfl ⟨_, rfl, by omega, by omega, hTc2, by omega, qF⟩
      · have h2 : (0 : Int) < x2 := h2
        refine pm_blk hK zmm84 [] 4 59 [(2, 1), (0, a), (0, b), (0, x2)] [(0, b), (2, 35)] μc2 [] rfl trivial ?_
        refine pm_call hK zmm84 (310, 0, 74, 1) zM74 (1, 20) [(2, 35), (0, b)] [] rfl rfl rfl rfl ⟨by omega, by rw [zn74]; omega⟩ (zh_add35 hK (v := b) hTc2 ⟨by omega, by omega⟩ hb35 hb36 ⟨Nat.le_refl _, Nat.le_refl _⟩) (fun st3 μc3 hp3 => ?_)
        obtain ⟨x3, rfl, hTc3, hFa3, hd3⟩ := hp3
        have hFa := hFa3
        have hda := hd3
        refine pm_blk hK zmm84 [] 2 64 [(2, 1), (0, a), (0, b), (0, x2)] [(0, x2)] μc3 [] rfl trivial ?_
        first
        | exact pm_iret rfl rfl ⟨_, rfl, by omega, by omega, hTc3, by rw [hFa 33 (by decide) (by decide)]; omega, fun q q1 q2 q3 q4 => by rw [hFa q q3 q4]; exact qF q q1 q2 q3 q4⟩
        | exact pm_iret rfl rfl ⟨_, rfl, by omega, by omega, hTc3, by omega, qF⟩
    · have h1 : (if 0 ≤ b ∧ b ≤ 99 then 1 else 0 : Int) = (0 : Int) := h1
      have h1 := zif0 h1
      refine pm_blk hK zmm84 [] 1 30 [(2, 1), (0, a), (0, b), (9, 0)] [(0, (-1))] μ [] rfl trivial ?_
      exact pm_iret rfl rfl ⟨_, rfl, by omega, by omega, hT, he, fun _ _ _ _ _ => rfl⟩
  · have h0 : a = ((-1) : Int) := h0
    refine pm_blk hK zmm84 [] 5 16 [(2, 1), (0, a), (0, b), (9, 0)] [] (pm_up μ 35 1 0) [sx_bit Wm 35 = true] rfl ⟨hb35, trivial⟩ ?_
    obtain ⟨μ1, eμ1⟩ : ∃ μ', μ' = pm_up μ 35 1 0 := ⟨_, rfl⟩
    rw [← eμ1]
    have hTμ1 : zTJ μ1 := by rw [eμ1]; exact zT_up hT zs35_1 rfl (i := 1) (by omega) (by omega) (by omega) (by omega)
    refine pm_blk hK zmm84 [] 8 43 [(2, 1), (0, a), (0, b), (9, 0)] [(0, 20), (0, 1), (0, (-1)), (0, a), (2, 33)] μ1 [] rfl trivial ?_
    refine pm_call hK zmm84 (296, 1, 73, 5) zM73 (2, 41) [(2, 33), (0, a), (0, (-1)), (0, 1), (0, 20)] [] rfl rfl rfl rfl ⟨by omega, by rw [zn73]; omega⟩ (zh_tell33 hK (a := a) hTμ1 hb33 hb34 ⟨Nat.le_refl _, Nat.le_refl _⟩) (fun st4 μc4 hp4 => ?_)
    obtain ⟨x4, rfl, hx4, hy4, hTc4, hFt4, hd4⟩ := hp4
    have hFt := hFt4
    have hdt := hd4
    have q35 : (a = -1 ∧ μc4 35 1 = 0) ∨ (a ≠ -1 ∧ μc4 35 1 = μ 35 1) := by
      first
      | exact Or.inr ⟨by assumption, by rw [hFt 35 (by decide) (by decide)]⟩
      | exact Or.inl ⟨by omega, by rw [hFt 35 (by decide) (by decide), eμ1, pm_up_eq]⟩
    have qF : ∀ q, q ≠ 33 → q ≠ 34 → q ≠ 35 → q ≠ 36 → μc4 q = μ q := fun q q1 q2 q3 q4 => by
      first
      | (rw [hFt q q1 q2, eμ1, pm_up_row q3]; done)
      | (rw [hFt q q1 q2]; done)
    refine pm_blk hK zmm84 [] 2 48 [(2, 1), (0, a), (0, b), (0, x4)] [(0, x4)] μc4 [] rfl trivial ?_
    refine pm_if hK zmm84 .le 15 63 rfl rfl (fun h3 => ?_) (fun h3 => ?_)
    · have h3 : x4 ≤ (0 : Int) := h3
      refine pm_blk hK zmm84 [] 1 64 [(2, 1), (0, a), (0, b), (0, x4)] [(0, x4)] μc4 [] rfl trivial ?_
      first
      | exact pm_iret rfl rfl ⟨_, rfl, by omega, by omega, hTc4, by rw [hFa 33 (by decide) (by decide)]; omega, fun q q1 q2 q3 q4 => by rw [hFa q q3 q4]; exact qF q q1 q2 q3 q4⟩
      | exact pm_iret rfl rfl ⟨_, rfl, by omega, by omega, hTc4, by omega, qF⟩
    · have h3 : (0 : Int) < x4 := h3
      refine pm_blk hK zmm84 [] 4 59 [(2, 1), (0, a), (0, b), (0, x4)] [(0, b), (2, 35)] μc4 [] rfl trivial ?_
      refine pm_call hK zmm84 (310, 0, 74, 1) zM74 (1, 20) [(2, 35), (0, b)] [] rfl rfl rfl rfl ⟨by omega, by rw [zn74]; omega⟩ (zh_add35 hK (v := b) hTc4 ⟨by omega, by omega⟩ hb35 hb36 ⟨Nat.le_refl _, Nat.le_refl _⟩) (fun st5 μc5 hp5 => ?_)
      obtain ⟨x5, rfl, hTc5, hFa5, hd5⟩ := hp5
      have hFa := hFa5
      have hda := hd5
      refine pm_blk hK zmm84 [] 2 64 [(2, 1), (0, a), (0, b), (0, x4)] [(0, x4)] μc5 [] rfl trivial ?_
      first
      | exact pm_iret rfl rfl ⟨_, rfl, by omega, by omega, hTc5, by rw [hFa 33 (by decide) (by decide)]; omega, fun q q1 q2 q3 q4 => by rw [hFa q q3 q4]; exact qF q q1 q2 q3 q4⟩
      | exact pm_iret rfl rfl ⟨_, rfl, by omega, by omega, hTc5, by omega, qF⟩
end ZHW
