/-! rows for thought of the class; walks printed by program (wip/p30/pmgen.py) and filled by hand -/
section ZHW
variable {D : va_G} {Wm : Nat} {ST : List (String × String × String × Nat)} {b0 : sx_B} {l : Launch} {Sg : Nat → Option Nat} {bud : sx_Bu} {μ : pm_Mem} {B0 : Nat → Prop} {J : (Nat → Option Nat) → Heap → Prop}
set_option maxRecDepth 100000 in
theorem zh_fl35 (hK : zKK ST) (hbd : 0 ≤ bud.1 ∧ 0 ≤ bud.2.1) : zC D Wm ST b0 l Sg zM72 bud [(2, 35)] μ (fun st' μ' => μ = μ' ∧ st' = [(0, if 10 ≤ μ 35 1 then 1 else 0)]) := by
  refine pm_blk hK zmm72 [] 5 9 [(2, 35)] [(0, 10), (0, μ 35 1)] μ [] rfl trivial ?_
  refine pm_icmp hK zmm72 .lt 7 16 rfl rfl (fun h0 => ?_) (fun h0 => ?_)
  · have h0 : μ 35 1 < (10 : Int) := h0
    refine pm_blk hK zmm72 [] 1 17 [(2, 35)] [(0, 0)] μ [] rfl trivial ?_
    exact pm_zret rfl rfl (by first | exact Or.inl rfl | exact Or.inr rfl | omega) ⟨rfl, by first | rw [if_pos (by omega)] | rw [if_neg (by omega)]⟩
  · have h0 : (10 : Int) ≤ μ 35 1 := h0
    refine pm_blk hK zmm72 [] 2 17 [(2, 35)] [(0, 1)] μ [] rfl trivial ?_
    exact pm_zret rfl rfl (by first | exact Or.inl rfl | exact Or.inr rfl | omega) ⟨rfl, by first | rw [if_pos (by omega)] | rw [if_neg (by omega)]⟩
set_option maxRecDepth 100000 in
theorem zh_ad35 (hK : zKK ST) {v : Int} (hT : zTJ none μ) (hv : 0 ≤ v ∧ v ≤ 99) (hb35 : sx_bit Wm 35 = true) (hb36 : sx_bit Wm 36 = true) (hbd : 1 ≤ bud.1 ∧ 20 ≤ bud.2.1) : zC D Wm ST b0 l Sg zM74 bud [(2, 35), (0, v)] μ (fun st' μ' => ∃ x, st' = [(0, x)] ∧ zTJ none μ' ∧ (∀ q, q ≠ 35 → q ≠ 36 → μ' q = μ q) ∧ ((x = -1 ∧ 10 ≤ μ 35 1 ∧ μ' 35 1 = μ 35 1 ∧ μ' 36 = μ 36) ∨ (x = μ 35 1 + 1 ∧ μ 35 1 < 10 ∧ μ' 35 1 = μ 35 1 + 1 ∧ ∀ i, μ' 36 i = if i = μ 35 1 then v else μ 36 i))) := by
  have f1 := zT_get hT zs35_1 (i := 1) (by omega) (by omega)
  refine pm_blk hK zmm74 [] 2 4 [(2, 35), (0, v)] [(0, μ 35 1)] μ [] rfl trivial ?_
  refine pm_if hK zmm74 .lt 10 14 rfl rfl (fun h0 => ?_) (fun h0 => ?_)
  · have h0 : μ 35 1 < (0 : Int) := h0
    refine pm_blk hK zmm74 [] 1 15 [(2, 35), (0, v)] [(0, (-1))] μ [] rfl trivial ?_
    first
    | (exfalso; omega)
    | exact pm_iret rfl rfl ⟨_, rfl, hT, fun _ _ _ => rfl, Or.inl ⟨rfl, by omega, rfl, rfl⟩⟩
  · have h0 : (0 : Int) ≤ μ 35 1 := h0
    refine pm_blk hK zmm74 [] 1 8 [(2, 35), (0, v)] [(2, 35)] μ [] rfl trivial ?_
    refine pm_call hK zmm74 (19, 0, 72, 0) zM72 (0, 0) [(2, 35)] [] rfl rfl rfl rfl ⟨by omega, by rw [zn72]; omega⟩ (zh_fl35 hK ⟨Nat.le_refl _, Nat.le_refl _⟩) (fun st1 μc1 hp1 => ?_)
    obtain ⟨rfl, rfl⟩ := hp1
    refine pm_if hK zmm74 .eq 5 16 rfl rfl (fun h1 => ?_) (fun h1 => ?_)
    · have h1 : (if 10 ≤ μ 35 1 then 1 else 0 : Int) = (0 : Int) := h1
      have h1 := zif0 h1
      refine pm_blk hK zmm74 [] 6 26 [(2, 35), (0, v)] [] (pm_up μ 36 (μ 35 1) v) [sx_bit Wm 36 = true, 0 ≤ μ 35 1 ∧ μ 35 1 < 10] rfl ⟨hb36, ⟨by omega, by omega⟩, trivial⟩ ?_
      obtain ⟨μ1, eμ1⟩ : ∃ μ', μ' = pm_up μ 36 (μ 35 1) v := ⟨_, rfl⟩
      rw [← eμ1]
      have hTμ1 : zTJ none μ1 := by rw [eμ1]; exact zT_upn hT zs36_0 rfl (i := μ 35 1) (by omega) (by omega) (by omega) (by omega)
      have a1 : μ1 35 1 = μ 35 1 := by rw [eμ1, pm_up_off (by decide)]
      have g2 : μ1 35 1 = μ 35 1 := by rw [eμ1, pm_up_off (by decide)]
      have f3 := zT_get hTμ1 zs35_1 (i := 1) (by omega) (by omega)
      refine pm_blk hK zmm74 [] 6 36 [(2, 35), (0, v)] [] (pm_up μ1 35 1 ((μ1 35 1) + 1)) [pm_in ((μ1 35 1) + 1), sx_bit Wm 35 = true] rfl ⟨pm_in_mk (by omega) (by omega), hb35, trivial⟩ ?_
      obtain ⟨μ2, eμ2⟩ : ∃ μ', μ' = pm_up μ1 35 1 ((μ1 35 1) + 1) := ⟨_, rfl⟩
      rw [← eμ2]
      have hTμ2 : zTJ none μ2 := by rw [eμ2]; exact zT_upn hTμ1 zs35_1 rfl (i := 1) (by omega) (by omega) (by omega) (by omega)
      have a2 : μ2 35 1 = μ 35 1 + 1 := by rw [eμ2, pm_up_eq, a1]
      have f4 := zT_get hTμ2 zs35_1 (i := 1) (by omega) (by omega)
      refine pm_blk hK zmm74 [] 2 40 [(2, 35), (0, v)] [(0, μ2 35 1)] μ2 [] rfl trivial ?_
      exact pm_iret rfl rfl ⟨_, rfl, hTμ2, fun q q1 q2 => by rw [eμ2, pm_up_row q1, eμ1, pm_up_row q2], Or.inr ⟨a2, by omega, a2, fun i => by rw [eμ2, pm_up_off (by decide), eμ1, pm_up_if]⟩⟩
    · have h1 : (if 10 ≤ μ 35 1 then 1 else 0 : Int) ≠ (0 : Int) := h1
      have h1 := zif1 h1
      refine pm_blk hK zmm74 [] 1 15 [(2, 35), (0, v)] [(0, (-1))] μ [] rfl trivial ?_
      first
      | (exfalso; omega)
      | exact pm_iret rfl rfl ⟨_, rfl, hT, fun _ _ _ => rfl, Or.inl ⟨rfl, by omega, rfl, rfl⟩⟩
set_option maxRecDepth 100000 in
theorem zh_fl37 (hK : zKK ST) (hbd : 0 ≤ bud.1 ∧ 0 ≤ bud.2.1) : zC D Wm ST b0 l Sg zM72 bud [(2, 37)] μ (fun st' μ' => μ = μ' ∧ st' = [(0, if 8 ≤ μ 37 1 then 1 else 0)]) := by
  refine pm_blk hK zmm72 [] 5 9 [(2, 37)] [(0, 8), (0, μ 37 1)] μ [] rfl trivial ?_
  refine pm_icmp hK zmm72 .lt 7 16 rfl rfl (fun h0 => ?_) (fun h0 => ?_)
  · have h0 : μ 37 1 < (8 : Int) := h0
    refine pm_blk hK zmm72 [] 1 17 [(2, 37)] [(0, 0)] μ [] rfl trivial ?_
    exact pm_zret rfl rfl (by first | exact Or.inl rfl | exact Or.inr rfl | omega) ⟨rfl, by first | rw [if_pos (by omega)] | rw [if_neg (by omega)]⟩
  · have h0 : (8 : Int) ≤ μ 37 1 := h0
    refine pm_blk hK zmm72 [] 2 17 [(2, 37)] [(0, 1)] μ [] rfl trivial ?_
    exact pm_zret rfl rfl (by first | exact Or.inl rfl | exact Or.inr rfl | omega) ⟨rfl, by first | rw [if_pos (by omega)] | rw [if_neg (by omega)]⟩
set_option maxRecDepth 100000 in
theorem zh_ad37 (hK : zKK ST) {v : Int} (hT : zTJ none μ) (hv : 1 ≤ v ∧ v ≤ 99) (hb37 : sx_bit Wm 37 = true) (hb38 : sx_bit Wm 38 = true) (hbd : 1 ≤ bud.1 ∧ 20 ≤ bud.2.1) : zC D Wm ST b0 l Sg zM74 bud [(2, 37), (0, v)] μ (fun st' μ' => ∃ x, st' = [(0, x)] ∧ zTJ none μ' ∧ (∀ q, q ≠ 37 → q ≠ 38 → μ' q = μ q) ∧ ((x = -1 ∧ 8 ≤ μ 37 1 ∧ μ' 37 1 = μ 37 1 ∧ μ' 38 = μ 38) ∨ (x = μ 37 1 + 1 ∧ μ 37 1 < 8 ∧ μ' 37 1 = μ 37 1 + 1 ∧ ∀ i, μ' 38 i = if i = μ 37 1 then v else μ 38 i))) := by
  have f1 := zT_get hT zs37_1 (i := 1) (by omega) (by omega)
  refine pm_blk hK zmm74 [] 2 4 [(2, 37), (0, v)] [(0, μ 37 1)] μ [] rfl trivial ?_
  refine pm_if hK zmm74 .lt 10 14 rfl rfl (fun h0 => ?_) (fun h0 => ?_)
  · have h0 : μ 37 1 < (0 : Int) := h0
    refine pm_blk hK zmm74 [] 1 15 [(2, 37), (0, v)] [(0, (-1))] μ [] rfl trivial ?_
    first
    | (exfalso; omega)
    | exact pm_iret rfl rfl ⟨_, rfl, hT, fun _ _ _ => rfl, Or.inl ⟨rfl, by omega, rfl, rfl⟩⟩
  · have h0 : (0 : Int) ≤ μ 37 1 := h0
    refine pm_blk hK zmm74 [] 1 8 [(2, 37), (0, v)] [(2, 37)] μ [] rfl trivial ?_
    refine pm_call hK zmm74 (19, 0, 72, 0) zM72 (0, 0) [(2, 37)] [] rfl rfl rfl rfl ⟨by omega, by rw [zn72]; omega⟩ (zh_fl37 hK ⟨Nat.le_refl _, Nat.le_refl _⟩) (fun st1 μc1 hp1 => ?_)
    obtain ⟨rfl, rfl⟩ := hp1
    refine pm_if hK zmm74 .eq 5 16 rfl rfl (fun h1 => ?_) (fun h1 => ?_)
    · have h1 : (if 8 ≤ μ 37 1 then 1 else 0 : Int) = (0 : Int) := h1
      have h1 := zif0 h1
      refine pm_blk hK zmm74 [] 6 26 [(2, 37), (0, v)] [] (pm_up μ 38 (μ 37 1) v) [sx_bit Wm 38 = true, 0 ≤ μ 37 1 ∧ μ 37 1 < 8] rfl ⟨hb38, ⟨by omega, by omega⟩, trivial⟩ ?_
      obtain ⟨μ1, eμ1⟩ : ∃ μ', μ' = pm_up μ 38 (μ 37 1) v := ⟨_, rfl⟩
      rw [← eμ1]
      have hTμ1 : zTJ none μ1 := by rw [eμ1]; exact zT_upn hT zs38_0 rfl (i := μ 37 1) (by omega) (by omega) (by omega) (by omega)
      have a1 : μ1 37 1 = μ 37 1 := by rw [eμ1, pm_up_off (by decide)]
      have g2 : μ1 37 1 = μ 37 1 := by rw [eμ1, pm_up_off (by decide)]
      have f3 := zT_get hTμ1 zs37_1 (i := 1) (by omega) (by omega)
      refine pm_blk hK zmm74 [] 6 36 [(2, 37), (0, v)] [] (pm_up μ1 37 1 ((μ1 37 1) + 1)) [pm_in ((μ1 37 1) + 1), sx_bit Wm 37 = true] rfl ⟨pm_in_mk (by omega) (by omega), hb37, trivial⟩ ?_
      obtain ⟨μ2, eμ2⟩ : ∃ μ', μ' = pm_up μ1 37 1 ((μ1 37 1) + 1) := ⟨_, rfl⟩
      rw [← eμ2]
      have hTμ2 : zTJ none μ2 := by rw [eμ2]; exact zT_upn hTμ1 zs37_1 rfl (i := 1) (by omega) (by omega) (by omega) (by omega)
      have a2 : μ2 37 1 = μ 37 1 + 1 := by rw [eμ2, pm_up_eq, a1]
      have f4 := zT_get hTμ2 zs37_1 (i := 1) (by omega) (by omega)
      refine pm_blk hK zmm74 [] 2 40 [(2, 37), (0, v)] [(0, μ2 37 1)] μ2 [] rfl trivial ?_
      exact pm_iret rfl rfl ⟨_, rfl, hTμ2, fun q q1 q2 => by rw [eμ2, pm_up_row q1, eμ1, pm_up_row q2], Or.inr ⟨a2, by omega, a2, fun i => by rw [eμ2, pm_up_off (by decide), eμ1, pm_up_if]⟩⟩
    · have h1 : (if 8 ≤ μ 37 1 then 1 else 0 : Int) ≠ (0 : Int) := h1
      have h1 := zif1 h1
      refine pm_blk hK zmm74 [] 1 15 [(2, 37), (0, v)] [(0, (-1))] μ [] rfl trivial ?_
      first
      | (exfalso; omega)
      | exact pm_iret rfl rfl ⟨_, rfl, hT, fun _ _ _ => rfl, Or.inl ⟨rfl, by omega, rfl, rfl⟩⟩
set_option maxRecDepth 100000 in
theorem zh_tl37 (hK : zKK ST) {a : Int} (hT : zTJ none μ) (hb37 : sx_bit Wm 37 = true) (hb38 : sx_bit Wm 38 = true) (hbd : 2 ≤ bud.1 ∧ 41 ≤ bud.2.1) : zC D Wm ST b0 l Sg zM73 bud [(2, 37), (0, a), (0, (-1)), (0, 1), (0, 99)] μ (fun st' μ' => st' = [(0, zTx (-1) 1 99 8 a (μ 37 1))] ∧ zTJ none μ' ∧ (∀ q, q ≠ 37 → q ≠ 38 → μ' q = μ q) ∧ μ' 37 1 = zTc (-1) 1 99 8 a (μ 37 1) ∧ ∀ i, μ' 38 i = zTv (-1) 1 99 8 a (μ 37 1) (μ 38) i) := by
  refine pm_blk hK zmm73 [] 2 2 [(2, 37), (0, a), (0, (-1)), (0, 1), (0, 99)] [(0, (-1)), (0, a)] μ [] rfl trivial ?_
  refine pm_icmp hK zmm73 .ne 10 12 rfl rfl (fun h0 => ?_) (fun h0 => ?_)
  · have h0 : a ≠ ((-1) : Int) := h0
    refine pm_blk hK zmm73 [] 3 16 [(2, 37), (0, a), (0, (-1)), (0, 1), (0, 99)] [(0, 99), (0, 1), (0, a)] μ [] rfl trivial ?_
    refine pm_call hK zmm73 (94, 1, 16, 3) zM16 (0, 0) [(0, a), (0, 1), (0, 99)] [] rfl rfl rfl rfl ⟨by omega, by rw [zn16]; omega⟩ (zh_within hK ⟨Nat.le_refl _, Nat.le_refl _⟩) (fun st1 μc1 hp1 => ?_)
    obtain ⟨rfl, rfl⟩ := hp1
    refine pm_if hK zmm73 .eq 11 30 rfl rfl (fun h1 => ?_) (fun h1 => ?_)
    · have h1 : (if 1 ≤ a ∧ a ≤ 99 then 1 else 0 : Int) = (0 : Int) := h1
      have h1 := zif0 h1
      refine pm_blk hK zmm73 [] 1 31 [(2, 37), (0, a), (0, (-1)), (0, 1), (0, 99)] [(0, (-1))] μ [] rfl trivial ?_
      first
      | exact pm_iret rfl rfl ⟨by rw [← (zTl_d h0 h1 hda).1], hT, hFa, (zTl_d h0 h1 hda).2.1, (zTl_d h0 h1 hda).2.2⟩
      | (have zn := zTl_n (lo := 1) (hi := 99) (room := 8) (c := μ 37 1) h0 (by omega); exact pm_iret rfl rfl ⟨by rw [zn.1], hT, fun _ _ _ => rfl, by rw [zn.2.1], fun i => by rw [zn.2.2]⟩)
    · have h1 : (if 1 ≤ a ∧ a ≤ 99 then 1 else 0 : Int) ≠ (0 : Int) := h1
      have h1 := zif1 h1
      refine pm_blk hK zmm73 [] 2 24 [(2, 37), (0, a), (0, (-1)), (0, 1), (0, 99)] [(0, a), (2, 37)] μ [] rfl trivial ?_
      refine pm_call hK zmm73 (310, 0, 74, 1) zM74 (1, 20) [(2, 37), (0, a)] [] rfl rfl rfl rfl ⟨by omega, by rw [zn74]; omega⟩ (zh_ad37 hK (v := a) hT ⟨by omega, by omega⟩ hb37 hb38 ⟨Nat.le_refl _, Nat.le_refl _⟩) (fun st2 μc2 hp2 => ?_)
      obtain ⟨x2, rfl, hTc2, hFa2, hd2⟩ := hp2
      have hFa := hFa2
      have hda := hd2
      refine pm_blk hK zmm73 [] 1 31 [(2, 37), (0, a), (0, (-1)), (0, 1), (0, 99)] [(0, x2)] μc2 [] rfl trivial ?_
      first
      | exact pm_iret rfl rfl ⟨by rw [← (zTl_d h0 h1 hda).1], hTc2, hFa, (zTl_d h0 h1 hda).2.1, (zTl_d h0 h1 hda).2.2⟩
      | (have zn := zTl_n (lo := 1) (hi := 99) (room := 8) (c := μ 37 1) h0 (by omega); exact pm_iret rfl rfl ⟨by rw [zn.1], hTc2, fun _ _ _ => rfl, by rw [zn.2.1], fun i => by rw [zn.2.2]⟩)
  · have h0 : a = ((-1) : Int) := h0
    refine pm_blk hK zmm73 [] 3 10 [(2, 37), (0, a), (0, (-1)), (0, 1), (0, 99)] [] (pm_up μ 37 1 0) [sx_bit Wm 37 = true] rfl ⟨hb37, trivial⟩ ?_
    obtain ⟨μ1, eμ1⟩ : ∃ μ', μ' = pm_up μ 37 1 0 := ⟨_, rfl⟩
    rw [← eμ1]
    have hTμ1 : zTJ none μ1 := by rw [eμ1]; exact zT_upn hT zs37_1 rfl (i := 1) (by omega) (by omega) (by omega) (by omega)
    refine pm_blk hK zmm73 [] 1 11 [(2, 37), (0, a), (0, (-1)), (0, 1), (0, 99)] [(0, 0)] μ1 [] rfl trivial ?_
    exact pm_iret rfl rfl ⟨by rw [(zTl_e h0).1], hTμ1, fun q q1 _ => by rw [eμ1, pm_up_row q1], by rw [(zTl_e h0).2.1, eμ1, pm_up_eq], fun i => by rw [(zTl_e h0).2.2, eμ1, pm_up_off (by decide)]⟩
set_option maxRecDepth 100000 in
theorem zh_threadx (hK : zKK ST) {a : Int} (hT : zTJ none μ) (hb37 : sx_bit Wm 37 = true) (hb38 : sx_bit Wm 38 = true) (hbd : 3 ≤ bud.1 ∧ 65 ≤ bud.2.1) : zC D Wm ST b0 l Sg zM91 bud [(2, 1), (0, a)] μ (fun st' μ' => st' = [(0, zTx (-1) 1 99 8 a (μ 37 1))] ∧ zTJ none μ' ∧ (∀ q, q ≠ 37 → q ≠ 38 → μ' q = μ q) ∧ μ' 37 1 = zTc (-1) 1 99 8 a (μ 37 1) ∧ ∀ i, μ' 38 i = zTv (-1) 1 99 8 a (μ 37 1) (μ 38) i) := by
  refine pm_blk hK zmm91 [] 7 12 [(2, 1), (0, a)] [(0, 99), (0, 1), (0, (-1)), (0, a), (2, 37)] μ [] rfl trivial ?_
  refine pm_call hK zmm91 (296, 1, 73, 5) zM73 (2, 41) [(2, 37), (0, a), (0, (-1)), (0, 1), (0, 99)] [] rfl rfl rfl rfl ⟨by omega, by rw [zn73]; omega⟩ (zh_tl37 hK (a := a) hT hb37 hb38 ⟨Nat.le_refl _, Nat.le_refl _⟩) (fun st1 μc1 hp1 => ?_)
  obtain ⟨rfl, hTc1, hFt1, hc1, hv1⟩ := hp1
  have hFt := hFt1
  have hct := hc1
  have hvt := hv1
  exact pm_iret rfl rfl ⟨rfl, hTc1, hFt, hct, hvt⟩
set_option maxRecDepth 100000 in
theorem zh_fl39 (hK : zKK ST) (hbd : 0 ≤ bud.1 ∧ 0 ≤ bud.2.1) : zC D Wm ST b0 l Sg zM72 bud [(2, 39)] μ (fun st' μ' => μ = μ' ∧ st' = [(0, if 12 ≤ μ 39 1 then 1 else 0)]) := by
  refine pm_blk hK zmm72 [] 5 9 [(2, 39)] [(0, 12), (0, μ 39 1)] μ [] rfl trivial ?_
  refine pm_icmp hK zmm72 .lt 7 16 rfl rfl (fun h0 => ?_) (fun h0 => ?_)
  · have h0 : μ 39 1 < (12 : Int) := h0
    refine pm_blk hK zmm72 [] 1 17 [(2, 39)] [(0, 0)] μ [] rfl trivial ?_
    exact pm_zret rfl rfl (by first | exact Or.inl rfl | exact Or.inr rfl | omega) ⟨rfl, by first | rw [if_pos (by omega)] | rw [if_neg (by omega)]⟩
  · have h0 : (12 : Int) ≤ μ 39 1 := h0
    refine pm_blk hK zmm72 [] 2 17 [(2, 39)] [(0, 1)] μ [] rfl trivial ?_
    exact pm_zret rfl rfl (by first | exact Or.inl rfl | exact Or.inr rfl | omega) ⟨rfl, by first | rw [if_pos (by omega)] | rw [if_neg (by omega)]⟩
set_option maxRecDepth 100000 in
theorem zh_ad39 (hK : zKK ST) {v : Int} (hT : zTJ none μ) (hv : -99 ≤ v ∧ v ≤ 99) (hb39 : sx_bit Wm 39 = true) (hb40 : sx_bit Wm 40 = true) (hbd : 1 ≤ bud.1 ∧ 20 ≤ bud.2.1) : zC D Wm ST b0 l Sg zM74 bud [(2, 39), (0, v)] μ (fun st' μ' => ∃ x, st' = [(0, x)] ∧ zTJ none μ' ∧ (∀ q, q ≠ 39 → q ≠ 40 → μ' q = μ q) ∧ ((x = -1 ∧ 12 ≤ μ 39 1 ∧ μ' 39 1 = μ 39 1 ∧ μ' 40 = μ 40) ∨ (x = μ 39 1 + 1 ∧ μ 39 1 < 12 ∧ μ' 39 1 = μ 39 1 + 1 ∧ ∀ i, μ' 40 i = if i = μ 39 1 then v else μ 40 i))) := by
  have f1 := zT_get hT zs39_1 (i := 1) (by omega) (by omega)
  refine pm_blk hK zmm74 [] 2 4 [(2, 39), (0, v)] [(0, μ 39 1)] μ [] rfl trivial ?_
  refine pm_if hK zmm74 .lt 10 14 rfl rfl (fun h0 => ?_) (fun h0 => ?_)
  · have h0 : μ 39 1 < (0 : Int) := h0
    refine pm_blk hK zmm74 [] 1 15 [(2, 39), (0, v)] [(0, (-1))] μ [] rfl trivial ?_
    first
    | (exfalso; omega)
    | exact pm_iret rfl rfl ⟨_, rfl, hT, fun _ _ _ => rfl, Or.inl ⟨rfl, by omega, rfl, rfl⟩⟩
  · have h0 : (0 : Int) ≤ μ 39 1 := h0
    refine pm_blk hK zmm74 [] 1 8 [(2, 39), (0, v)] [(2, 39)] μ [] rfl trivial ?_
    refine pm_call hK zmm74 (19, 0, 72, 0) zM72 (0, 0) [(2, 39)] [] rfl rfl rfl rfl ⟨by omega, by rw [zn72]; omega⟩ (zh_fl39 hK ⟨Nat.le_refl _, Nat.le_refl _⟩) (fun st1 μc1 hp1 => ?_)
    obtain ⟨rfl, rfl⟩ := hp1
    refine pm_if hK zmm74 .eq 5 16 rfl rfl (fun h1 => ?_) (fun h1 => ?_)
    · have h1 : (if 12 ≤ μ 39 1 then 1 else 0 : Int) = (0 : Int) := h1
      have h1 := zif0 h1
      refine pm_blk hK zmm74 [] 6 26 [(2, 39), (0, v)] [] (pm_up μ 40 (μ 39 1) v) [sx_bit Wm 40 = true, 0 ≤ μ 39 1 ∧ μ 39 1 < 12] rfl ⟨hb40, ⟨by omega, by omega⟩, trivial⟩ ?_
      obtain ⟨μ1, eμ1⟩ : ∃ μ', μ' = pm_up μ 40 (μ 39 1) v := ⟨_, rfl⟩
      rw [← eμ1]
      have hTμ1 : zTJ none μ1 := by rw [eμ1]; exact zT_upn hT zs40_0 rfl (i := μ 39 1) (by omega) (by omega) (by omega) (by omega)
      have a1 : μ1 39 1 = μ 39 1 := by rw [eμ1, pm_up_off (by decide)]
      have g2 : μ1 39 1 = μ 39 1 := by rw [eμ1, pm_up_off (by decide)]
      have f3 := zT_get hTμ1 zs39_1 (i := 1) (by omega) (by omega)
      refine pm_blk hK zmm74 [] 6 36 [(2, 39), (0, v)] [] (pm_up μ1 39 1 ((μ1 39 1) + 1)) [pm_in ((μ1 39 1) + 1), sx_bit Wm 39 = true] rfl ⟨pm_in_mk (by omega) (by omega), hb39, trivial⟩ ?_
      obtain ⟨μ2, eμ2⟩ : ∃ μ', μ' = pm_up μ1 39 1 ((μ1 39 1) + 1) := ⟨_, rfl⟩
      rw [← eμ2]
      have hTμ2 : zTJ none μ2 := by rw [eμ2]; exact zT_upn hTμ1 zs39_1 rfl (i := 1) (by omega) (by omega) (by omega) (by omega)
      have a2 : μ2 39 1 = μ 39 1 + 1 := by rw [eμ2, pm_up_eq, a1]
      have f4 := zT_get hTμ2 zs39_1 (i := 1) (by omega) (by omega)
      refine pm_blk hK zmm74 [] 2 40 [(2, 39), (0, v)] [(0, μ2 39 1)] μ2 [] rfl trivial ?_
      exact pm_iret rfl rfl ⟨_, rfl, hTμ2, fun q q1 q2 => by rw [eμ2, pm_up_row q1, eμ1, pm_up_row q2], Or.inr ⟨a2, by omega, a2, fun i => by rw [eμ2, pm_up_off (by decide), eμ1, pm_up_if]⟩⟩
    · have h1 : (if 12 ≤ μ 39 1 then 1 else 0 : Int) ≠ (0 : Int) := h1
      have h1 := zif1 h1
      refine pm_blk hK zmm74 [] 1 15 [(2, 39), (0, v)] [(0, (-1))] μ [] rfl trivial ?_
      first
      | (exfalso; omega)
      | exact pm_iret rfl rfl ⟨_, rfl, hT, fun _ _ _ => rfl, Or.inl ⟨rfl, by omega, rfl, rfl⟩⟩
set_option maxRecDepth 100000 in
theorem zh_tl39 (hK : zKK ST) {a : Int} (hT : zTJ none μ) (hb39 : sx_bit Wm 39 = true) (hb40 : sx_bit Wm 40 = true) (hbd : 2 ≤ bud.1 ∧ 41 ≤ bud.2.1) : zC D Wm ST b0 l Sg zM73 bud [(2, 39), (0, a), (0, (-1000)), (0, (-99)), (0, 99)] μ (fun st' μ' => st' = [(0, zTx (-1000) (-99) 99 12 a (μ 39 1))] ∧ zTJ none μ' ∧ (∀ q, q ≠ 39 → q ≠ 40 → μ' q = μ q) ∧ μ' 39 1 = zTc (-1000) (-99) 99 12 a (μ 39 1) ∧ ∀ i, μ' 40 i = zTv (-1000) (-99) 99 12 a (μ 39 1) (μ 40) i) := by
  refine pm_blk hK zmm73 [] 2 2 [(2, 39), (0, a), (0, (-1000)), (0, (-99)), (0, 99)] [(0, (-1000)), (0, a)] μ [] rfl trivial ?_
  refine pm_icmp hK zmm73 .ne 10 12 rfl rfl (fun h0 => ?_) (fun h0 => ?_)
  · have h0 : a ≠ ((-1000) : Int) := h0
    refine pm_blk hK zmm73 [] 3 16 [(2, 39), (0, a), (0, (-1000)), (0, (-99)), (0, 99)] [(0, 99), (0, (-99)), (0, a)] μ [] rfl trivial ?_
    refine pm_call hK zmm73 (94, 1, 16, 3) zM16 (0, 0) [(0, a), (0, (-99)), (0, 99)] [] rfl rfl rfl rfl ⟨by omega, by rw [zn16]; omega⟩ (zh_within hK ⟨Nat.le_refl _, Nat.le_refl _⟩) (fun st1 μc1 hp1 => ?_)
    obtain ⟨rfl, rfl⟩ := hp1
    refine pm_if hK zmm73 .eq 11 30 rfl rfl (fun h1 => ?_) (fun h1 => ?_)
    · have h1 : (if ((-99)) ≤ a ∧ a ≤ 99 then 1 else 0 : Int) = (0 : Int) := h1
      have h1 := zif0 h1
      refine pm_blk hK zmm73 [] 1 31 [(2, 39), (0, a), (0, (-1000)), (0, (-99)), (0, 99)] [(0, (-1))] μ [] rfl trivial ?_
      first
      | exact pm_iret rfl rfl ⟨by rw [← (zTl_d h0 h1 hda).1], hT, hFa, (zTl_d h0 h1 hda).2.1, (zTl_d h0 h1 hda).2.2⟩
      | (have zn := zTl_n (lo := (-99)) (hi := 99) (room := 12) (c := μ 39 1) h0 (by omega); exact pm_iret rfl rfl ⟨by rw [zn.1], hT, fun _ _ _ => rfl, by rw [zn.2.1], fun i => by rw [zn.2.2]⟩)
    · have h1 : (if ((-99)) ≤ a ∧ a ≤ 99 then 1 else 0 : Int) ≠ (0 : Int) := h1
      have h1 := zif1 h1
      refine pm_blk hK zmm73 [] 2 24 [(2, 39), (0, a), (0, (-1000)), (0, (-99)), (0, 99)] [(0, a), (2, 39)] μ [] rfl trivial ?_
      refine pm_call hK zmm73 (310, 0, 74, 1) zM74 (1, 20) [(2, 39), (0, a)] [] rfl rfl rfl rfl ⟨by omega, by rw [zn74]; omega⟩ (zh_ad39 hK (v := a) hT ⟨by omega, by omega⟩ hb39 hb40 ⟨Nat.le_refl _, Nat.le_refl _⟩) (fun st2 μc2 hp2 => ?_)
      obtain ⟨x2, rfl, hTc2, hFa2, hd2⟩ := hp2
      have hFa := hFa2
      have hda := hd2
      refine pm_blk hK zmm73 [] 1 31 [(2, 39), (0, a), (0, (-1000)), (0, (-99)), (0, 99)] [(0, x2)] μc2 [] rfl trivial ?_
      first
      | exact pm_iret rfl rfl ⟨by rw [← (zTl_d h0 h1 hda).1], hTc2, hFa, (zTl_d h0 h1 hda).2.1, (zTl_d h0 h1 hda).2.2⟩
      | (have zn := zTl_n (lo := (-99)) (hi := 99) (room := 12) (c := μ 39 1) h0 (by omega); exact pm_iret rfl rfl ⟨by rw [zn.1], hTc2, fun _ _ _ => rfl, by rw [zn.2.1], fun i => by rw [zn.2.2]⟩)
  · have h0 : a = ((-1000) : Int) := h0
    refine pm_blk hK zmm73 [] 3 10 [(2, 39), (0, a), (0, (-1000)), (0, (-99)), (0, 99)] [] (pm_up μ 39 1 0) [sx_bit Wm 39 = true] rfl ⟨hb39, trivial⟩ ?_
    obtain ⟨μ1, eμ1⟩ : ∃ μ', μ' = pm_up μ 39 1 0 := ⟨_, rfl⟩
    rw [← eμ1]
    have hTμ1 : zTJ none μ1 := by rw [eμ1]; exact zT_upn hT zs39_1 rfl (i := 1) (by omega) (by omega) (by omega) (by omega)
    refine pm_blk hK zmm73 [] 1 11 [(2, 39), (0, a), (0, (-1000)), (0, (-99)), (0, 99)] [(0, 0)] μ1 [] rfl trivial ?_
    exact pm_iret rfl rfl ⟨by rw [(zTl_e h0).1], hTμ1, fun q q1 _ => by rw [eμ1, pm_up_row q1], by rw [(zTl_e h0).2.1, eμ1, pm_up_eq], fun i => by rw [(zTl_e h0).2.2, eμ1, pm_up_off (by decide)]⟩
set_option maxRecDepth 100000 in
theorem zh_earnx (hK : zKK ST) {a : Int} (hT : zTJ none μ) (hb39 : sx_bit Wm 39 = true) (hb40 : sx_bit Wm 40 = true) (hbd : 3 ≤ bud.1 ∧ 65 ≤ bud.2.1) : zC D Wm ST b0 l Sg zM95 bud [(2, 1), (0, a)] μ (fun st' μ' => st' = [(0, zTx (-1000) (-99) 99 12 a (μ 39 1))] ∧ zTJ none μ' ∧ (∀ q, q ≠ 39 → q ≠ 40 → μ' q = μ q) ∧ μ' 39 1 = zTc (-1000) (-99) 99 12 a (μ 39 1) ∧ ∀ i, μ' 40 i = zTv (-1000) (-99) 99 12 a (μ 39 1) (μ 40) i) := by
  refine pm_blk hK zmm95 [] 7 15 [(2, 1), (0, a)] [(0, 99), (0, (-99)), (0, (-1000)), (0, a), (2, 39)] μ [] rfl trivial ?_
  refine pm_call hK zmm95 (296, 1, 73, 5) zM73 (2, 41) [(2, 39), (0, a), (0, (-1000)), (0, (-99)), (0, 99)] [] rfl rfl rfl rfl ⟨by omega, by rw [zn73]; omega⟩ (zh_tl39 hK (a := a) hT hb39 hb40 ⟨Nat.le_refl _, Nat.le_refl _⟩) (fun st1 μc1 hp1 => ?_)
  obtain ⟨rfl, hTc1, hFt1, hc1, hv1⟩ := hp1
  have hFt := hFt1
  have hct := hc1
  have hvt := hv1
  exact pm_iret rfl rfl ⟨rfl, hTc1, hFt, hct, hvt⟩
set_option maxRecDepth 100000 in
theorem zh_fl41 (hK : zKK ST) (hbd : 0 ≤ bud.1 ∧ 0 ≤ bud.2.1) : zC D Wm ST b0 l Sg zM72 bud [(2, 41)] μ (fun st' μ' => μ = μ' ∧ st' = [(0, if 10 ≤ μ 41 1 then 1 else 0)]) := by
  refine pm_blk hK zmm72 [] 5 9 [(2, 41)] [(0, 10), (0, μ 41 1)] μ [] rfl trivial ?_
  refine pm_icmp hK zmm72 .lt 7 16 rfl rfl (fun h0 => ?_) (fun h0 => ?_)
  · have h0 : μ 41 1 < (10 : Int) := h0
    refine pm_blk hK zmm72 [] 1 17 [(2, 41)] [(0, 0)] μ [] rfl trivial ?_
    exact pm_zret rfl rfl (by first | exact Or.inl rfl | exact Or.inr rfl | omega) ⟨rfl, by first | rw [if_pos (by omega)] | rw [if_neg (by omega)]⟩
  · have h0 : (10 : Int) ≤ μ 41 1 := h0
    refine pm_blk hK zmm72 [] 2 17 [(2, 41)] [(0, 1)] μ [] rfl trivial ?_
    exact pm_zret rfl rfl (by first | exact Or.inl rfl | exact Or.inr rfl | omega) ⟨rfl, by first | rw [if_pos (by omega)] | rw [if_neg (by omega)]⟩
set_option maxRecDepth 100000 in
theorem zh_ad41 (hK : zKK ST) {v : Int} (hT : zTJ none μ) (hv : 1 ≤ v ∧ v ≤ 99) (hb41 : sx_bit Wm 41 = true) (hb42 : sx_bit Wm 42 = true) (hbd : 1 ≤ bud.1 ∧ 20 ≤ bud.2.1) : zC D Wm ST b0 l Sg zM74 bud [(2, 41), (0, v)] μ (fun st' μ' => ∃ x, st' = [(0, x)] ∧ zTJ none μ' ∧ (∀ q, q ≠ 41 → q ≠ 42 → μ' q = μ q) ∧ ((x = -1 ∧ 10 ≤ μ 41 1 ∧ μ' 41 1 = μ 41 1 ∧ μ' 42 = μ 42) ∨ (x = μ 41 1 + 1 ∧ μ 41 1 < 10 ∧ μ' 41 1 = μ 41 1 + 1 ∧ ∀ i, μ' 42 i = if i = μ 41 1 then v else μ 42 i))) := by
  have f1 := zT_get hT zs41_1 (i := 1) (by omega) (by omega)
  refine pm_blk hK zmm74 [] 2 4 [(2, 41), (0, v)] [(0, μ 41 1)] μ [] rfl trivial ?_
  refine pm_if hK zmm74 .lt 10 14 rfl rfl (fun h0 => ?_) (fun h0 => ?_)
  · have h0 : μ 41 1 < (0 : Int) := h0
    refine pm_blk hK zmm74 [] 1 15 [(2, 41), (0, v)] [(0, (-1))] μ [] rfl trivial ?_
    first
    | (exfalso; omega)
    | exact pm_iret rfl rfl ⟨_, rfl, hT, fun _ _ _ => rfl, Or.inl ⟨rfl, by omega, rfl, rfl⟩⟩
  · have h0 : (0 : Int) ≤ μ 41 1 := h0
    refine pm_blk hK zmm74 [] 1 8 [(2, 41), (0, v)] [(2, 41)] μ [] rfl trivial ?_
    refine pm_call hK zmm74 (19, 0, 72, 0) zM72 (0, 0) [(2, 41)] [] rfl rfl rfl rfl ⟨by omega, by rw [zn72]; omega⟩ (zh_fl41 hK ⟨Nat.le_refl _, Nat.le_refl _⟩) (fun st1 μc1 hp1 => ?_)
    obtain ⟨rfl, rfl⟩ := hp1
    refine pm_if hK zmm74 .eq 5 16 rfl rfl (fun h1 => ?_) (fun h1 => ?_)
    · have h1 : (if 10 ≤ μ 41 1 then 1 else 0 : Int) = (0 : Int) := h1
      have h1 := zif0 h1
      refine pm_blk hK zmm74 [] 6 26 [(2, 41), (0, v)] [] (pm_up μ 42 (μ 41 1) v) [sx_bit Wm 42 = true, 0 ≤ μ 41 1 ∧ μ 41 1 < 10] rfl ⟨hb42, ⟨by omega, by omega⟩, trivial⟩ ?_
      obtain ⟨μ1, eμ1⟩ : ∃ μ', μ' = pm_up μ 42 (μ 41 1) v := ⟨_, rfl⟩
      rw [← eμ1]
      have hTμ1 : zTJ none μ1 := by rw [eμ1]; exact zT_upn hT zs42_0 rfl (i := μ 41 1) (by omega) (by omega) (by omega) (by omega)
      have a1 : μ1 41 1 = μ 41 1 := by rw [eμ1, pm_up_off (by decide)]
      have g2 : μ1 41 1 = μ 41 1 := by rw [eμ1, pm_up_off (by decide)]
      have f3 := zT_get hTμ1 zs41_1 (i := 1) (by omega) (by omega)
      refine pm_blk hK zmm74 [] 6 36 [(2, 41), (0, v)] [] (pm_up μ1 41 1 ((μ1 41 1) + 1)) [pm_in ((μ1 41 1) + 1), sx_bit Wm 41 = true] rfl ⟨pm_in_mk (by omega) (by omega), hb41, trivial⟩ ?_
      obtain ⟨μ2, eμ2⟩ : ∃ μ', μ' = pm_up μ1 41 1 ((μ1 41 1) + 1) := ⟨_, rfl⟩
      rw [← eμ2]
      have hTμ2 : zTJ none μ2 := by rw [eμ2]; exact zT_upn hTμ1 zs41_1 rfl (i := 1) (by omega) (by omega) (by omega) (by omega)
      have a2 : μ2 41 1 = μ 41 1 + 1 := by rw [eμ2, pm_up_eq, a1]
      have f4 := zT_get hTμ2 zs41_1 (i := 1) (by omega) (by omega)
      refine pm_blk hK zmm74 [] 2 40 [(2, 41), (0, v)] [(0, μ2 41 1)] μ2 [] rfl trivial ?_
      exact pm_iret rfl rfl ⟨_, rfl, hTμ2, fun q q1 q2 => by rw [eμ2, pm_up_row q1, eμ1, pm_up_row q2], Or.inr ⟨a2, by omega, a2, fun i => by rw [eμ2, pm_up_off (by decide), eμ1, pm_up_if]⟩⟩
    · have h1 : (if 10 ≤ μ 41 1 then 1 else 0 : Int) ≠ (0 : Int) := h1
      have h1 := zif1 h1
      refine pm_blk hK zmm74 [] 1 15 [(2, 41), (0, v)] [(0, (-1))] μ [] rfl trivial ?_
      first
      | (exfalso; omega)
      | exact pm_iret rfl rfl ⟨_, rfl, hT, fun _ _ _ => rfl, Or.inl ⟨rfl, by omega, rfl, rfl⟩⟩
set_option maxRecDepth 100000 in
theorem zh_tl41 (hK : zKK ST) {a : Int} (hT : zTJ none μ) (hb41 : sx_bit Wm 41 = true) (hb42 : sx_bit Wm 42 = true) (hbd : 2 ≤ bud.1 ∧ 41 ≤ bud.2.1) : zC D Wm ST b0 l Sg zM73 bud [(2, 41), (0, a), (0, (-1)), (0, 1), (0, 99)] μ (fun st' μ' => st' = [(0, zTx (-1) 1 99 10 a (μ 41 1))] ∧ zTJ none μ' ∧ (∀ q, q ≠ 41 → q ≠ 42 → μ' q = μ q) ∧ μ' 41 1 = zTc (-1) 1 99 10 a (μ 41 1) ∧ ∀ i, μ' 42 i = zTv (-1) 1 99 10 a (μ 41 1) (μ 42) i) := by
  refine pm_blk hK zmm73 [] 2 2 [(2, 41), (0, a), (0, (-1)), (0, 1), (0, 99)] [(0, (-1)), (0, a)] μ [] rfl trivial ?_
  refine pm_icmp hK zmm73 .ne 10 12 rfl rfl (fun h0 => ?_) (fun h0 => ?_)
  · have h0 : a ≠ ((-1) : Int) := h0
    refine pm_blk hK zmm73 [] 3 16 [(2, 41), (0, a), (0, (-1)), (0, 1), (0, 99)] [(0, 99), (0, 1), (0, a)] μ [] rfl trivial ?_
    refine pm_call hK zmm73 (94, 1, 16, 3) zM16 (0, 0) [(0, a), (0, 1), (0, 99)] [] rfl rfl rfl rfl ⟨by omega, by rw [zn16]; omega⟩ (zh_within hK ⟨Nat.le_refl _, Nat.le_refl _⟩) (fun st1 μc1 hp1 => ?_)
    obtain ⟨rfl, rfl⟩ := hp1
    refine pm_if hK zmm73 .eq 11 30 rfl rfl (fun h1 => ?_) (fun h1 => ?_)
    · have h1 : (if 1 ≤ a ∧ a ≤ 99 then 1 else 0 : Int) = (0 : Int) := h1
      have h1 := zif0 h1
      refine pm_blk hK zmm73 [] 1 31 [(2, 41), (0, a), (0, (-1)), (0, 1), (0, 99)] [(0, (-1))] μ [] rfl trivial ?_
      first
      | exact pm_iret rfl rfl ⟨by rw [← (zTl_d h0 h1 hda).1], hT, hFa, (zTl_d h0 h1 hda).2.1, (zTl_d h0 h1 hda).2.2⟩
      | (have zn := zTl_n (lo := 1) (hi := 99) (room := 10) (c := μ 41 1) h0 (by omega); exact pm_iret rfl rfl ⟨by rw [zn.1], hT, fun _ _ _ => rfl, by rw [zn.2.1], fun i => by rw [zn.2.2]⟩)
    · have h1 : (if 1 ≤ a ∧ a ≤ 99 then 1 else 0 : Int) ≠ (0 : Int) := h1
      have h1 := zif1 h1
      refine pm_blk hK zmm73 [] 2 24 [(2, 41), (0, a), (0, (-1)), (0, 1), (0, 99)] [(0, a), (2, 41)] μ [] rfl trivial ?_
      refine pm_call hK zmm73 (310, 0, 74, 1) zM74 (1, 20) [(2, 41), (0, a)] [] rfl rfl rfl rfl ⟨by omega, by rw [zn74]; omega⟩ (zh_ad41 hK (v := a) hT ⟨by omega, by omega⟩ hb41 hb42 ⟨Nat.le_refl _, Nat.le_refl _⟩) (fun st2 μc2 hp2 => ?_)
      obtain ⟨x2, rfl, hTc2, hFa2, hd2⟩ := hp2
      have hFa := hFa2
      have hda := hd2
      refine pm_blk hK zmm73 [] 1 31 [(2, 41), (0, a), (0, (-1)), (0, 1), (0, 99)] [(0, x2)] μc2 [] rfl trivial ?_
      first
      | exact pm_iret rfl rfl ⟨by rw [← (zTl_d h0 h1 hda).1], hTc2, hFa, (zTl_d h0 h1 hda).2.1, (zTl_d h0 h1 hda).2.2⟩
      | (have zn := zTl_n (lo := 1) (hi := 99) (room := 10) (c := μ 41 1) h0 (by omega); exact pm_iret rfl rfl ⟨by rw [zn.1], hTc2, fun _ _ _ => rfl, by rw [zn.2.1], fun i => by rw [zn.2.2]⟩)
  · have h0 : a = ((-1) : Int) := h0
    refine pm_blk hK zmm73 [] 3 10 [(2, 41), (0, a), (0, (-1)), (0, 1), (0, 99)] [] (pm_up μ 41 1 0) [sx_bit Wm 41 = true] rfl ⟨hb41, trivial⟩ ?_
    obtain ⟨μ1, eμ1⟩ : ∃ μ', μ' = pm_up μ 41 1 0 := ⟨_, rfl⟩
    rw [← eμ1]
    have hTμ1 : zTJ none μ1 := by rw [eμ1]; exact zT_upn hT zs41_1 rfl (i := 1) (by omega) (by omega) (by omega) (by omega)
    refine pm_blk hK zmm73 [] 1 11 [(2, 41), (0, a), (0, (-1)), (0, 1), (0, 99)] [(0, 0)] μ1 [] rfl trivial ?_
    exact pm_iret rfl rfl ⟨by rw [(zTl_e h0).1], hTμ1, fun q q1 _ => by rw [eμ1, pm_up_row q1], by rw [(zTl_e h0).2.1, eμ1, pm_up_eq], fun i => by rw [(zTl_e h0).2.2, eμ1, pm_up_off (by decide)]⟩
set_option maxRecDepth 100000 in
theorem zh_pricex (hK : zKK ST) {a : Int} (hT : zTJ none μ) (hb41 : sx_bit Wm 41 = true) (hb42 : sx_bit Wm 42 = true) (hbd : 3 ≤ bud.1 ∧ 65 ≤ bud.2.1) : zC D Wm ST b0 l Sg zM104 bud [(2, 1), (0, a)] μ (fun st' μ' => st' = [(0, zTx (-1) 1 99 10 a (μ 41 1))] ∧ zTJ none μ' ∧ (∀ q, q ≠ 41 → q ≠ 42 → μ' q = μ q) ∧ μ' 41 1 = zTc (-1) 1 99 10 a (μ 41 1) ∧ ∀ i, μ' 42 i = zTv (-1) 1 99 10 a (μ 41 1) (μ 42) i) := by
  refine pm_blk hK zmm104 [] 7 12 [(2, 1), (0, a)] [(0, 99), (0, 1), (0, (-1)), (0, a), (2, 41)] μ [] rfl trivial ?_
  refine pm_call hK zmm104 (296, 1, 73, 5) zM73 (2, 41) [(2, 41), (0, a), (0, (-1)), (0, 1), (0, 99)] [] rfl rfl rfl rfl ⟨by omega, by rw [zn73]; omega⟩ (zh_tl41 hK (a := a) hT hb41 hb42 ⟨Nat.le_refl _, Nat.le_refl _⟩) (fun st1 μc1 hp1 => ?_)
  obtain ⟨rfl, hTc1, hFt1, hc1, hv1⟩ := hp1
  have hFt := hFt1
  have hct := hc1
  have hvt := hv1
  exact pm_iret rfl rfl ⟨rfl, hTc1, hFt, hct, hvt⟩
set_option maxRecDepth 100000 in
theorem zh_fl43 (hK : zKK ST) (hbd : 0 ≤ bud.1 ∧ 0 ≤ bud.2.1) : zC D Wm ST b0 l Sg zM72 bud [(2, 43)] μ (fun st' μ' => μ = μ' ∧ st' = [(0, if 8 ≤ μ 43 1 then 1 else 0)]) := by
  refine pm_blk hK zmm72 [] 5 9 [(2, 43)] [(0, 8), (0, μ 43 1)] μ [] rfl trivial ?_
  refine pm_icmp hK zmm72 .lt 7 16 rfl rfl (fun h0 => ?_) (fun h0 => ?_)
  · have h0 : μ 43 1 < (8 : Int) := h0
    refine pm_blk hK zmm72 [] 1 17 [(2, 43)] [(0, 0)] μ [] rfl trivial ?_
    exact pm_zret rfl rfl (by first | exact Or.inl rfl | exact Or.inr rfl | omega) ⟨rfl, by first | rw [if_pos (by omega)] | rw [if_neg (by omega)]⟩
  · have h0 : (8 : Int) ≤ μ 43 1 := h0
    refine pm_blk hK zmm72 [] 2 17 [(2, 43)] [(0, 1)] μ [] rfl trivial ?_
    exact pm_zret rfl rfl (by first | exact Or.inl rfl | exact Or.inr rfl | omega) ⟨rfl, by first | rw [if_pos (by omega)] | rw [if_neg (by omega)]⟩
set_option maxRecDepth 100000 in
theorem zh_ad43 (hK : zKK ST) {v : Int} (hT : zTJ none μ) (hv : 0 ≤ v ∧ v ≤ 99) (hb43 : sx_bit Wm 43 = true) (hb44 : sx_bit Wm 44 = true) (hbd : 1 ≤ bud.1 ∧ 20 ≤ bud.2.1) : zC D Wm ST b0 l Sg zM74 bud [(2, 43), (0, v)] μ (fun st' μ' => ∃ x, st' = [(0, x)] ∧ zTJ none μ' ∧ (∀ q, q ≠ 43 → q ≠ 44 → μ' q = μ q) ∧ ((x = -1 ∧ 8 ≤ μ 43 1 ∧ μ' 43 1 = μ 43 1 ∧ μ' 44 = μ 44) ∨ (x = μ 43 1 + 1 ∧ μ 43 1 < 8 ∧ μ' 43 1 = μ 43 1 + 1 ∧ ∀ i, μ' 44 i = if i = μ 43 1 then v else μ 44 i))) := by
  have f1 := zT_get hT zs43_1 (i := 1) (by omega) (by omega)
  refine pm_blk hK zmm74 [] 2 4 [(2, 43), (0, v)] [(0, μ 43 1)] μ [] rfl trivial ?_
  refine pm_if hK zmm74 .lt 10 14 rfl rfl (fun h0 => ?_) (fun h0 => ?_)
  · have h0 : μ 43 1 < (0 : Int) := h0
    refine pm_blk hK zmm74 [] 1 15 [(2, 43), (0, v)] [(0, (-1))] μ [] rfl trivial ?_
    first
    | (exfalso; omega)
    | exact pm_iret rfl rfl ⟨_, rfl, hT, fun _ _ _ => rfl, Or.inl ⟨rfl, by omega, rfl, rfl⟩⟩
  · have h0 : (0 : Int) ≤ μ 43 1 := h0
    refine pm_blk hK zmm74 [] 1 8 [(2, 43), (0, v)] [(2, 43)] μ [] rfl trivial ?_
    refine pm_call hK zmm74 (19, 0, 72, 0) zM72 (0, 0) [(2, 43)] [] rfl rfl rfl rfl ⟨by omega, by rw [zn72]; omega⟩ (zh_fl43 hK ⟨Nat.le_refl _, Nat.le_refl _⟩) (fun st1 μc1 hp1 => ?_)
    obtain ⟨rfl, rfl⟩ := hp1
    refine pm_if hK zmm74 .eq 5 16 rfl rfl (fun h1 => ?_) (fun h1 => ?_)
    · have h1 : (if 8 ≤ μ 43 1 then 1 else 0 : Int) = (0 : Int) := h1
      have h1 := zif0 h1
      refine pm_blk hK zmm74 [] 6 26 [(2, 43), (0, v)] [] (pm_up μ 44 (μ 43 1) v) [sx_bit Wm 44 = true, 0 ≤ μ 43 1 ∧ μ 43 1 < 8] rfl ⟨hb44, ⟨by omega, by omega⟩, trivial⟩ ?_
      obtain ⟨μ1, eμ1⟩ : ∃ μ', μ' = pm_up μ 44 (μ 43 1) v := ⟨_, rfl⟩
      rw [← eμ1]
      have hTμ1 : zTJ none μ1 := by rw [eμ1]; exact zT_upn hT zs44_0 rfl (i := μ 43 1) (by omega) (by omega) (by omega) (by omega)
      have a1 : μ1 43 1 = μ 43 1 := by rw [eμ1, pm_up_off (by decide)]
      have g2 : μ1 43 1 = μ 43 1 := by rw [eμ1, pm_up_off (by decide)]
      have f3 := zT_get hTμ1 zs43_1 (i := 1) (by omega) (by omega)
      refine pm_blk hK zmm74 [] 6 36 [(2, 43), (0, v)] [] (pm_up μ1 43 1 ((μ1 43 1) + 1)) [pm_in ((μ1 43 1) + 1), sx_bit Wm 43 = true] rfl ⟨pm_in_mk (by omega) (by omega), hb43, trivial⟩ ?_
      obtain ⟨μ2, eμ2⟩ : ∃ μ', μ' = pm_up μ1 43 1 ((μ1 43 1) + 1) := ⟨_, rfl⟩
      rw [← eμ2]
      have hTμ2 : zTJ none μ2 := by rw [eμ2]; exact zT_upn hTμ1 zs43_1 rfl (i := 1) (by omega) (by omega) (by omega) (by omega)
      have a2 : μ2 43 1 = μ 43 1 + 1 := by rw [eμ2, pm_up_eq, a1]
      have f4 := zT_get hTμ2 zs43_1 (i := 1) (by omega) (by omega)
      refine pm_blk hK zmm74 [] 2 40 [(2, 43), (0, v)] [(0, μ2 43 1)] μ2 [] rfl trivial ?_
      exact pm_iret rfl rfl ⟨_, rfl, hTμ2, fun q q1 q2 => by rw [eμ2, pm_up_row q1, eμ1, pm_up_row q2], Or.inr ⟨a2, by omega, a2, fun i => by rw [eμ2, pm_up_off (by decide), eμ1, pm_up_if]⟩⟩
    · have h1 : (if 8 ≤ μ 43 1 then 1 else 0 : Int) ≠ (0 : Int) := h1
      have h1 := zif1 h1
      refine pm_blk hK zmm74 [] 1 15 [(2, 43), (0, v)] [(0, (-1))] μ [] rfl trivial ?_
      first
      | (exfalso; omega)
      | exact pm_iret rfl rfl ⟨_, rfl, hT, fun _ _ _ => rfl, Or.inl ⟨rfl, by omega, rfl, rfl⟩⟩
set_option maxRecDepth 100000 in
theorem zh_tl43 (hK : zKK ST) {a : Int} (hT : zTJ none μ) (hb43 : sx_bit Wm 43 = true) (hb44 : sx_bit Wm 44 = true) (hbd : 2 ≤ bud.1 ∧ 41 ≤ bud.2.1) : zC D Wm ST b0 l Sg zM73 bud [(2, 43), (0, a), (0, (-1)), (0, 0), (0, 99)] μ (fun st' μ' => st' = [(0, zTx (-1) 0 99 8 a (μ 43 1))] ∧ zTJ none μ' ∧ (∀ q, q ≠ 43 → q ≠ 44 → μ' q = μ q) ∧ μ' 43 1 = zTc (-1) 0 99 8 a (μ 43 1) ∧ ∀ i, μ' 44 i = zTv (-1) 0 99 8 a (μ 43 1) (μ 44) i) := by
  refine pm_blk hK zmm73 [] 2 2 [(2, 43), (0, a), (0, (-1)), (0, 0), (0, 99)] [(0, (-1)), (0, a)] μ [] rfl trivial ?_
  refine pm_icmp hK zmm73 .ne 10 12 rfl rfl (fun h0 => ?_) (fun h0 => ?_)
  · have h0 : a ≠ ((-1) : Int) := h0
    refine pm_blk hK zmm73 [] 3 16 [(2, 43), (0, a), (0, (-1)), (0, 0), (0, 99)] [(0, 99), (0, 0), (0, a)] μ [] rfl trivial ?_
    refine pm_call hK zmm73 (94, 1, 16, 3) zM16 (0, 0) [(0, a), (0, 0), (0, 99)] [] rfl rfl rfl rfl ⟨by omega, by rw [zn16]; omega⟩ (zh_within hK ⟨Nat.le_refl _, Nat.le_refl _⟩) (fun st1 μc1 hp1 => ?_)
    obtain ⟨rfl, rfl⟩ := hp1
    refine pm_if hK zmm73 .eq 11 30 rfl rfl (fun h1 => ?_) (fun h1 => ?_)
    · have h1 : (if 0 ≤ a ∧ a ≤ 99 then 1 else 0 : Int) = (0 : Int) := h1
      have h1 := zif0 h1
      refine pm_blk hK zmm73 [] 1 31 [(2, 43), (0, a), (0, (-1)), (0, 0), (0, 99)] [(0, (-1))] μ [] rfl trivial ?_
      first
      | exact pm_iret rfl rfl ⟨by rw [← (zTl_d h0 h1 hda).1], hT, hFa, (zTl_d h0 h1 hda).2.1, (zTl_d h0 h1 hda).2.2⟩
      | (have zn := zTl_n (lo := 0) (hi := 99) (room := 8) (c := μ 43 1) h0 (by omega); exact pm_iret rfl rfl ⟨by rw [zn.1], hT, fun _ _ _ => rfl, by rw [zn.2.1], fun i => by rw [zn.2.2]⟩)
    · have h1 : (if 0 ≤ a ∧ a ≤ 99 then 1 else 0 : Int) ≠ (0 : Int) := h1
      have h1 := zif1 h1
      refine pm_blk hK zmm73 [] 2 24 [(2, 43), (0, a), (0, (-1)), (0, 0), (0, 99)] [(0, a), (2, 43)] μ [] rfl trivial ?_
      refine pm_call hK zmm73 (310, 0, 74, 1) zM74 (1, 20) [(2, 43), (0, a)] [] rfl rfl rfl rfl ⟨by omega, by rw [zn74]; omega⟩ (zh_ad43 hK (v := a) hT ⟨by omega, by omega⟩ hb43 hb44 ⟨Nat.le_refl _, Nat.le_refl _⟩) (fun st2 μc2 hp2 => ?_)
      obtain ⟨x2, rfl, hTc2, hFa2, hd2⟩ := hp2
      have hFa := hFa2
      have hda := hd2
      refine pm_blk hK zmm73 [] 1 31 [(2, 43), (0, a), (0, (-1)), (0, 0), (0, 99)] [(0, x2)] μc2 [] rfl trivial ?_
      first
      | exact pm_iret rfl rfl ⟨by rw [← (zTl_d h0 h1 hda).1], hTc2, hFa, (zTl_d h0 h1 hda).2.1, (zTl_d h0 h1 hda).2.2⟩
      | (have zn := zTl_n (lo := 0) (hi := 99) (room := 8) (c := μ 43 1) h0 (by omega); exact pm_iret rfl rfl ⟨by rw [zn.1], hTc2, fun _ _ _ => rfl, by rw [zn.2.1], fun i => by rw [zn.2.2]⟩)
  · have h0 : a = ((-1) : Int) := h0
    refine pm_blk hK zmm73 [] 3 10 [(2, 43), (0, a), (0, (-1)), (0, 0), (0, 99)] [] (pm_up μ 43 1 0) [sx_bit Wm 43 = true] rfl ⟨hb43, trivial⟩ ?_
    obtain ⟨μ1, eμ1⟩ : ∃ μ', μ' = pm_up μ 43 1 0 := ⟨_, rfl⟩
    rw [← eμ1]
    have hTμ1 : zTJ none μ1 := by rw [eμ1]; exact zT_upn hT zs43_1 rfl (i := 1) (by omega) (by omega) (by omega) (by omega)
    refine pm_blk hK zmm73 [] 1 11 [(2, 43), (0, a), (0, (-1)), (0, 0), (0, 99)] [(0, 0)] μ1 [] rfl trivial ?_
    exact pm_iret rfl rfl ⟨by rw [(zTl_e h0).1], hTμ1, fun q q1 _ => by rw [eμ1, pm_up_row q1], by rw [(zTl_e h0).2.1, eμ1, pm_up_eq], fun i => by rw [(zTl_e h0).2.2, eμ1, pm_up_off (by decide)]⟩
set_option maxRecDepth 100000 in
theorem zh_shutterx (hK : zKK ST) {a : Int} (hT : zTJ none μ) (hb43 : sx_bit Wm 43 = true) (hb44 : sx_bit Wm 44 = true) (hbd : 3 ≤ bud.1 ∧ 65 ≤ bud.2.1) : zC D Wm ST b0 l Sg zM112 bud [(2, 1), (0, a)] μ (fun st' μ' => st' = [(0, zTx (-1) 0 99 8 a (μ 43 1))] ∧ zTJ none μ' ∧ (∀ q, q ≠ 43 → q ≠ 44 → μ' q = μ q) ∧ μ' 43 1 = zTc (-1) 0 99 8 a (μ 43 1) ∧ ∀ i, μ' 44 i = zTv (-1) 0 99 8 a (μ 43 1) (μ 44) i) := by
  refine pm_blk hK zmm112 [] 7 12 [(2, 1), (0, a)] [(0, 99), (0, 0), (0, (-1)), (0, a), (2, 43)] μ [] rfl trivial ?_
  refine pm_call hK zmm112 (296, 1, 73, 5) zM73 (2, 41) [(2, 43), (0, a), (0, (-1)), (0, 0), (0, 99)] [] rfl rfl rfl rfl ⟨by omega, by rw [zn73]; omega⟩ (zh_tl43 hK (a := a) hT hb43 hb44 ⟨Nat.le_refl _, Nat.le_refl _⟩) (fun st1 μc1 hp1 => ?_)
  obtain ⟨rfl, hTc1, hFt1, hc1, hv1⟩ := hp1
  have hFt := hFt1
  have hct := hc1
  have hvt := hv1
  exact pm_iret rfl rfl ⟨rfl, hTc1, hFt, hct, hvt⟩
set_option maxRecDepth 100000 in
theorem zh_fl33 (hK : zKK ST) (hbd : 0 ≤ bud.1 ∧ 0 ≤ bud.2.1) : zC D Wm ST b0 l Sg zM72 bud [(2, 33)] μ (fun st' μ' => μ = μ' ∧ st' = [(0, if 10 ≤ μ 33 1 then 1 else 0)]) := by
  refine pm_blk hK zmm72 [] 5 9 [(2, 33)] [(0, 10), (0, μ 33 1)] μ [] rfl trivial ?_
  refine pm_icmp hK zmm72 .lt 7 16 rfl rfl (fun h0 => ?_) (fun h0 => ?_)
  · have h0 : μ 33 1 < (10 : Int) := h0
    refine pm_blk hK zmm72 [] 1 17 [(2, 33)] [(0, 0)] μ [] rfl trivial ?_
    exact pm_zret rfl rfl (by first | exact Or.inl rfl | exact Or.inr rfl | omega) ⟨rfl, by first | rw [if_pos (by omega)] | rw [if_neg (by omega)]⟩
  · have h0 : (10 : Int) ≤ μ 33 1 := h0
    refine pm_blk hK zmm72 [] 2 17 [(2, 33)] [(0, 1)] μ [] rfl trivial ?_
    exact pm_zret rfl rfl (by first | exact Or.inl rfl | exact Or.inr rfl | omega) ⟨rfl, by first | rw [if_pos (by omega)] | rw [if_neg (by omega)]⟩
set_option maxRecDepth 100000 in
theorem zh_ad33 (hK : zKK ST) {v : Int} (hT : zTJ none μ) (hv : 1 ≤ v ∧ v ≤ 20) (hb33 : sx_bit Wm 33 = true) (hb34 : sx_bit Wm 34 = true) (hbd : 1 ≤ bud.1 ∧ 20 ≤ bud.2.1) : zC D Wm ST b0 l Sg zM74 bud [(2, 33), (0, v)] μ (fun st' μ' => ∃ x, st' = [(0, x)] ∧ zTJ none μ' ∧ (∀ q, q ≠ 33 → q ≠ 34 → μ' q = μ q) ∧ ((x = -1 ∧ 10 ≤ μ 33 1 ∧ μ' 33 1 = μ 33 1 ∧ μ' 34 = μ 34) ∨ (x = μ 33 1 + 1 ∧ μ 33 1 < 10 ∧ μ' 33 1 = μ 33 1 + 1 ∧ ∀ i, μ' 34 i = if i = μ 33 1 then v else μ 34 i))) := by
  have f1 := zT_get hT zs33_1 (i := 1) (by omega) (by omega)
  refine pm_blk hK zmm74 [] 2 4 [(2, 33), (0, v)] [(0, μ 33 1)] μ [] rfl trivial ?_
  refine pm_if hK zmm74 .lt 10 14 rfl rfl (fun h0 => ?_) (fun h0 => ?_)
  · have h0 : μ 33 1 < (0 : Int) := h0
    refine pm_blk hK zmm74 [] 1 15 [(2, 33), (0, v)] [(0, (-1))] μ [] rfl trivial ?_
    first
    | (exfalso; omega)
    | exact pm_iret rfl rfl ⟨_, rfl, hT, fun _ _ _ => rfl, Or.inl ⟨rfl, by omega, rfl, rfl⟩⟩
  · have h0 : (0 : Int) ≤ μ 33 1 := h0
    refine pm_blk hK zmm74 [] 1 8 [(2, 33), (0, v)] [(2, 33)] μ [] rfl trivial ?_
    refine pm_call hK zmm74 (19, 0, 72, 0) zM72 (0, 0) [(2, 33)] [] rfl rfl rfl rfl ⟨by omega, by rw [zn72]; omega⟩ (zh_fl33 hK ⟨Nat.le_refl _, Nat.le_refl _⟩) (fun st1 μc1 hp1 => ?_)
    obtain ⟨rfl, rfl⟩ := hp1
    refine pm_if hK zmm74 .eq 5 16 rfl rfl (fun h1 => ?_) (fun h1 => ?_)
    · have h1 : (if 10 ≤ μ 33 1 then 1 else 0 : Int) = (0 : Int) := h1
      have h1 := zif0 h1
      refine pm_blk hK zmm74 [] 6 26 [(2, 33), (0, v)] [] (pm_up μ 34 (μ 33 1) v) [sx_bit Wm 34 = true, 0 ≤ μ 33 1 ∧ μ 33 1 < 10] rfl ⟨hb34, ⟨by omega, by omega⟩, trivial⟩ ?_
      obtain ⟨μ1, eμ1⟩ : ∃ μ', μ' = pm_up μ 34 (μ 33 1) v := ⟨_, rfl⟩
      rw [← eμ1]
      have hTμ1 : zTJ none μ1 := by rw [eμ1]; exact zT_upn hT zs34_0 rfl (i := μ 33 1) (by omega) (by omega) (by omega) (by omega)
      have a1 : μ1 33 1 = μ 33 1 := by rw [eμ1, pm_up_off (by decide)]
      have g2 : μ1 33 1 = μ 33 1 := by rw [eμ1, pm_up_off (by decide)]
      have f3 := zT_get hTμ1 zs33_1 (i := 1) (by omega) (by omega)
      refine pm_blk hK zmm74 [] 6 36 [(2, 33), (0, v)] [] (pm_up μ1 33 1 ((μ1 33 1) + 1)) [pm_in ((μ1 33 1) + 1), sx_bit Wm 33 = true] rfl ⟨pm_in_mk (by omega) (by omega), hb33, trivial⟩ ?_
      obtain ⟨μ2, eμ2⟩ : ∃ μ', μ' = pm_up μ1 33 1 ((μ1 33 1) + 1) := ⟨_, rfl⟩
      rw [← eμ2]
      have hTμ2 : zTJ none μ2 := by rw [eμ2]; exact zT_upn hTμ1 zs33_1 rfl (i := 1) (by omega) (by omega) (by omega) (by omega)
      have a2 : μ2 33 1 = μ 33 1 + 1 := by rw [eμ2, pm_up_eq, a1]
      have f4 := zT_get hTμ2 zs33_1 (i := 1) (by omega) (by omega)
      refine pm_blk hK zmm74 [] 2 40 [(2, 33), (0, v)] [(0, μ2 33 1)] μ2 [] rfl trivial ?_
      exact pm_iret rfl rfl ⟨_, rfl, hTμ2, fun q q1 q2 => by rw [eμ2, pm_up_row q1, eμ1, pm_up_row q2], Or.inr ⟨a2, by omega, a2, fun i => by rw [eμ2, pm_up_off (by decide), eμ1, pm_up_if]⟩⟩
    · have h1 : (if 10 ≤ μ 33 1 then 1 else 0 : Int) ≠ (0 : Int) := h1
      have h1 := zif1 h1
      refine pm_blk hK zmm74 [] 1 15 [(2, 33), (0, v)] [(0, (-1))] μ [] rfl trivial ?_
      first
      | (exfalso; omega)
      | exact pm_iret rfl rfl ⟨_, rfl, hT, fun _ _ _ => rfl, Or.inl ⟨rfl, by omega, rfl, rfl⟩⟩
set_option maxRecDepth 100000 in
theorem zh_tl33 (hK : zKK ST) {a : Int} (hT : zTJ none μ) (hb33 : sx_bit Wm 33 = true) (hb34 : sx_bit Wm 34 = true) (hbd : 2 ≤ bud.1 ∧ 41 ≤ bud.2.1) : zC D Wm ST b0 l Sg zM73 bud [(2, 33), (0, a), (0, (-1)), (0, 1), (0, 20)] μ (fun st' μ' => st' = [(0, zTx (-1) 1 20 10 a (μ 33 1))] ∧ zTJ none μ' ∧ (∀ q, q ≠ 33 → q ≠ 34 → μ' q = μ q) ∧ μ' 33 1 = zTc (-1) 1 20 10 a (μ 33 1) ∧ ∀ i, μ' 34 i = zTv (-1) 1 20 10 a (μ 33 1) (μ 34) i) := by
  refine pm_blk hK zmm73 [] 2 2 [(2, 33), (0, a), (0, (-1)), (0, 1), (0, 20)] [(0, (-1)), (0, a)] μ [] rfl trivial ?_
  refine pm_icmp hK zmm73 .ne 10 12 rfl rfl (fun h0 => ?_) (fun h0 => ?_)
  · have h0 : a ≠ ((-1) : Int) := h0
    refine pm_blk hK zmm73 [] 3 16 [(2, 33), (0, a), (0, (-1)), (0, 1), (0, 20)] [(0, 20), (0, 1), (0, a)] μ [] rfl trivial ?_
    refine pm_call hK zmm73 (94, 1, 16, 3) zM16 (0, 0) [(0, a), (0, 1), (0, 20)] [] rfl rfl rfl rfl ⟨by omega, by rw [zn16]; omega⟩ (zh_within hK ⟨Nat.le_refl _, Nat.le_refl _⟩) (fun st1 μc1 hp1 => ?_)
    obtain ⟨rfl, rfl⟩ := hp1
    refine pm_if hK zmm73 .eq 11 30 rfl rfl (fun h1 => ?_) (fun h1 => ?_)
    · have h1 : (if 1 ≤ a ∧ a ≤ 20 then 1 else 0 : Int) = (0 : Int) := h1
      have h1 := zif0 h1
      refine pm_blk hK zmm73 [] 1 31 [(2, 33), (0, a), (0, (-1)), (0, 1), (0, 20)] [(0, (-1))] μ [] rfl trivial ?_
      first
      | exact pm_iret rfl rfl ⟨by rw [← (zTl_d h0 h1 hda).1], hT, hFa, (zTl_d h0 h1 hda).2.1, (zTl_d h0 h1 hda).2.2⟩
      | (have zn := zTl_n (lo := 1) (hi := 20) (room := 10) (c := μ 33 1) h0 (by omega); exact pm_iret rfl rfl ⟨by rw [zn.1], hT, fun _ _ _ => rfl, by rw [zn.2.1], fun i => by rw [zn.2.2]⟩)
    · have h1 : (if 1 ≤ a ∧ a ≤ 20 then 1 else 0 : Int) ≠ (0 : Int) := h1
      have h1 := zif1 h1
      refine pm_blk hK zmm73 [] 2 24 [(2, 33), (0, a), (0, (-1)), (0, 1), (0, 20)] [(0, a), (2, 33)] μ [] rfl trivial ?_
      refine pm_call hK zmm73 (310, 0, 74, 1) zM74 (1, 20) [(2, 33), (0, a)] [] rfl rfl rfl rfl ⟨by omega, by rw [zn74]; omega⟩ (zh_ad33 hK (v := a) hT ⟨by omega, by omega⟩ hb33 hb34 ⟨Nat.le_refl _, Nat.le_refl _⟩) (fun st2 μc2 hp2 => ?_)
      obtain ⟨x2, rfl, hTc2, hFa2, hd2⟩ := hp2
      have hFa := hFa2
      have hda := hd2
      refine pm_blk hK zmm73 [] 1 31 [(2, 33), (0, a), (0, (-1)), (0, 1), (0, 20)] [(0, x2)] μc2 [] rfl trivial ?_
      first
      | exact pm_iret rfl rfl ⟨by rw [← (zTl_d h0 h1 hda).1], hTc2, hFa, (zTl_d h0 h1 hda).2.1, (zTl_d h0 h1 hda).2.2⟩
      | (have zn := zTl_n (lo := 1) (hi := 20) (room := 10) (c := μ 33 1) h0 (by omega); exact pm_iret rfl rfl ⟨by rw [zn.1], hTc2, fun _ _ _ => rfl, by rw [zn.2.1], fun i => by rw [zn.2.2]⟩)
  · have h0 : a = ((-1) : Int) := h0
    refine pm_blk hK zmm73 [] 3 10 [(2, 33), (0, a), (0, (-1)), (0, 1), (0, 20)] [] (pm_up μ 33 1 0) [sx_bit Wm 33 = true] rfl ⟨hb33, trivial⟩ ?_
    obtain ⟨μ1, eμ1⟩ : ∃ μ', μ' = pm_up μ 33 1 0 := ⟨_, rfl⟩
    rw [← eμ1]
    have hTμ1 : zTJ none μ1 := by rw [eμ1]; exact zT_upn hT zs33_1 rfl (i := 1) (by omega) (by omega) (by omega) (by omega)
    refine pm_blk hK zmm73 [] 1 11 [(2, 33), (0, a), (0, (-1)), (0, 1), (0, 20)] [(0, 0)] μ1 [] rfl trivial ?_
    exact pm_iret rfl rfl ⟨by rw [(zTl_e h0).1], hTμ1, fun q q1 _ => by rw [eμ1, pm_up_row q1], by rw [(zTl_e h0).2.1, eμ1, pm_up_eq], fun i => by rw [(zTl_e h0).2.2, eμ1, pm_up_off (by decide)]⟩
set_option maxRecDepth 100000 in
theorem zh_tlE (hK : zKK ST) {a : Int} (hT : zTJ none μ) (hb33 : sx_bit Wm 33 = true) (hb34 : sx_bit Wm 34 = true) (hbd : 2 ≤ bud.1 ∧ 41 ≤ bud.2.1) : zC D Wm ST b0 l Sg zM73 bud [(2, 33), (0, a), (0, (-1)), (0, 1), (0, 20)] μ (fun st' μ' => ∃ x, st' = [(0, x)] ∧ zTJ none μ' ∧ (∀ q, q ≠ 33 → q ≠ 34 → μ' q = μ q) ∧ ((a = -1 ∧ x = 0 ∧ μ' 33 1 = 0) ∨ (a ≠ -1 ∧ (1 ≤ a ∧ a ≤ 20 ∧ μ 33 1 < 10) ∧ x = μ 33 1 + 1 ∧ μ' 33 1 = μ 33 1 + 1) ∨ (a ≠ -1 ∧ ¬ (1 ≤ a ∧ a ≤ 20 ∧ μ 33 1 < 10) ∧ x = -1 ∧ μ' 33 1 = μ 33 1))) := zC_mono (zh_tl33 hK hT hb33 hb34 hbd) (fun st' μ' h => by
  obtain ⟨h1, h2, h3, h4, -⟩ := h
  refine ⟨_, h1, h2, h3, ?_⟩
  rw [h4]
  by_cases z0 : a = -1
  · exact Or.inl ⟨z0, (zTl_e z0).1, (zTl_e z0).2.1⟩
  · by_cases z1 : 1 ≤ a ∧ a ≤ 20 ∧ μ 33 1 < 10
    · exact Or.inr (Or.inl ⟨z0, z1, (zTl_a z0 ⟨z1.1, z1.2.1⟩ z1.2.2).1, (zTl_a z0 ⟨z1.1, z1.2.1⟩ z1.2.2).2.1⟩)
    · exact Or.inr (Or.inr ⟨z0, z1, (zTl_n z0 z1).1, (zTl_n z0 z1).2.1⟩))
set_option maxRecDepth 100000 in
theorem zh_errandz (hK : zKK ST) {a b : Int} (hT : zTJ none μ) (he : μ 33 1 = μ 35 1) (hb33 : sx_bit Wm 33 = true) (hb34 : sx_bit Wm 34 = true) (hb35 : sx_bit Wm 35 = true) (hb36 : sx_bit Wm 36 = true) (hbd : 3 ≤ bud.1 ∧ 65 ≤ bud.2.1) : zC D Wm ST b0 l Sg zM84 bud [(2, 1), (0, a), (0, b)] μ (fun st' μ' => st' = [(0, zEx a b (μ 33 1))] ∧ zTJ none μ' ∧ (∀ q, q ≠ 33 → q ≠ 34 → q ≠ 35 → q ≠ 36 → μ' q = μ q) ∧ μ' 33 1 = zEc a b (μ 33 1) ∧ μ' 35 1 = zEc a b (μ 33 1)) := by
  have f33 := zT_get hT zs33_1 (i := 1) (by omega) (by omega)
  refine pm_blk hK zmm84 [] 2 2 [(2, 1), (0, a), (0, b), (9, 0)] [(0, (-1)), (0, a)] μ [] rfl trivial ?_
  refine pm_icmp hK zmm84 .ne 17 19 rfl rfl (fun h0 => ?_) (fun h0 => ?_)
  · have h0 : a ≠ ((-1) : Int) := h0
    refine pm_blk hK zmm84 [] 3 23 [(2, 1), (0, a), (0, b), (9, 0)] [(0, 99), (0, 0), (0, b)] μ [] rfl trivial ?_
    refine pm_call hK zmm84 (94, 1, 16, 3) zM16 (0, 0) [(0, b), (0, 0), (0, 99)] [] rfl rfl rfl rfl ⟨by omega, by rw [zn16]; omega⟩ (zh_within hK ⟨Nat.le_refl _, Nat.le_refl _⟩) (fun st1 μc1 hp1 => ?_)
    obtain ⟨rfl, rfl⟩ := hp1
    refine pm_if hK zmm84 .ne 5 31 rfl rfl (fun h1 => ?_) (fun h1 => ?_)
    · have h1 : (if 0 ≤ b ∧ b ≤ 99 then 1 else 0 : Int) ≠ (0 : Int) := h1
      have h1 := zif1 h1
      refine pm_blk hK zmm84 [] 7 43 [(2, 1), (0, a), (0, b), (9, 0)] [(0, 20), (0, 1), (0, (-1)), (0, a), (2, 33)] μ [] rfl trivial ?_
      refine pm_call hK zmm84 (296, 1, 73, 5) zM73 (2, 41) [(2, 33), (0, a), (0, (-1)), (0, 1), (0, 20)] [] rfl rfl rfl rfl ⟨by omega, by rw [zn73]; omega⟩ (zh_tlE hK (a := a) hT hb33 hb34 ⟨Nat.le_refl _, Nat.le_refl _⟩) (fun st2 μc2 hp2 => ?_)
      obtain ⟨x2, rfl, hTc2, hFt2, hd2⟩ := hp2
      have hFt := hFt2
      have hdt := hd2
      have q35 : (a = -1 ∧ μc2 35 1 = 0) ∨ (a ≠ -1 ∧ μc2 35 1 = μ 33 1) := by
        first
        | exact Or.inr ⟨by assumption, by rw [hFt 35 (by decide) (by decide), he]⟩
        | exact Or.inl ⟨by omega, by rw [hFt 35 (by decide) (by decide), eμ1, pm_up_eq]⟩
      first
      | rw [m33] at hdt
      | skip
      have qF : ∀ q, q ≠ 33 → q ≠ 34 → q ≠ 35 → q ≠ 36 → μc2 q = μ q := fun q q1 q2 q3 q4 => by
        first
        | (rw [hFt q q1 q2, eμ1, pm_up_row q3]; done)
        | (rw [hFt q q1 q2]; done)
      refine pm_blk hK zmm84 [] 2 48 [(2, 1), (0, a), (0, b), (0, x2)] [(0, x2)] μc2 [] rfl trivial ?_
      refine pm_if hK zmm84 .le 15 63 rfl rfl (fun h2 => ?_) (fun h2 => ?_)
      · have h2 : x2 ≤ (0 : Int) := h2
        refine pm_blk hK zmm84 [] 1 64 [(2, 1), (0, a), (0, b), (0, x2)] [(0, x2)] μc2 [] rfl trivial ?_
        first
        | (exfalso; omega)
        | (have zf := zE_fin2 (b := b) hdt (by assumption) ⟨by omega, by omega⟩ hda q35; exact pm_iret rfl rfl ⟨by rw [← zf.1], hTc2, fun q q1 q2 q3 q4 => by rw [hFa q q3 q4]; exact qF q q1 q2 q3 q4, by rw [hFa 33 (by decide) (by decide)]; exact zf.2.1, zf.2.2⟩)
        | (have zf := zE_fin1 (b := b) hdt (by assumption) (by omega) q35; exact pm_iret rfl rfl ⟨by rw [← zf.1], hTc2, qF, zf.2.1, zf.2.2⟩)
      · have h2 : (0 : Int) < x2 := h2
        refine pm_blk hK zmm84 [] 4 59 [(2, 1), (0, a), (0, b), (0, x2)] [(0, b), (2, 35)] μc2 [] rfl trivial ?_
        refine pm_call hK zmm84 (310, 0, 74, 1) zM74 (1, 20) [(2, 35), (0, b)] [] rfl rfl rfl rfl ⟨by omega, by rw [zn74]; omega⟩ (zh_ad35 hK (v := b) hTc2 ⟨by omega, by omega⟩ hb35 hb36 ⟨Nat.le_refl _, Nat.le_refl _⟩) (fun st3 μc3 hp3 => ?_)
        obtain ⟨x3, rfl, hTc3, hFa3, hd3⟩ := hp3
        have hFa := hFa3
        have hda := hd3
        refine pm_blk hK zmm84 [] 2 64 [(2, 1), (0, a), (0, b), (0, x2)] [(0, x2)] μc3 [] rfl trivial ?_
        first
        | (exfalso; omega)
        | (have zf := zE_fin2 (b := b) hdt (by assumption) ⟨by omega, by omega⟩ hda q35; exact pm_iret rfl rfl ⟨by rw [← zf.1], hTc3, fun q q1 q2 q3 q4 => by rw [hFa q q3 q4]; exact qF q q1 q2 q3 q4, by rw [hFa 33 (by decide) (by decide)]; exact zf.2.1, zf.2.2⟩)
        | (have zf := zE_fin1 (b := b) hdt (by assumption) (by omega) q35; exact pm_iret rfl rfl ⟨by rw [← zf.1], hTc3, qF, zf.2.1, zf.2.2⟩)
    · have h1 : (if 0 ≤ b ∧ b ≤ 99 then 1 else 0 : Int) = (0 : Int) := h1
      have h1 := zif0 h1
      refine pm_blk hK zmm84 [] 1 30 [(2, 1), (0, a), (0, b), (9, 0)] [(0, (-1))] μ [] rfl trivial ?_
      have zn := zE_n (b := b) (c := μ 33 1) h0 (by omega)
      exact pm_iret rfl rfl ⟨by rw [zn.1], hT, fun _ _ _ _ _ => rfl, by rw [zn.2], by rw [zn.2]; omega⟩
  · have h0 : a = ((-1) : Int) := h0
    refine pm_blk hK zmm84 [] 5 16 [(2, 1), (0, a), (0, b), (9, 0)] [] (pm_up μ 35 1 0) [sx_bit Wm 35 = true] rfl ⟨hb35, trivial⟩ ?_
    obtain ⟨μ1, eμ1⟩ : ∃ μ', μ' = pm_up μ 35 1 0 := ⟨_, rfl⟩
    rw [← eμ1]
    have hTμ1 : zTJ none μ1 := by rw [eμ1]; exact zT_upn hT zs35_1 rfl (i := 1) (by omega) (by omega) (by omega) (by omega)
    have m33 : μ1 33 1 = μ 33 1 := by rw [eμ1, pm_up_off (by decide)]
    refine pm_blk hK zmm84 [] 8 43 [(2, 1), (0, a), (0, b), (9, 0)] [(0, 20), (0, 1), (0, (-1)), (0, a), (2, 33)] μ1 [] rfl trivial ?_
    refine pm_call hK zmm84 (296, 1, 73, 5) zM73 (2, 41) [(2, 33), (0, a), (0, (-1)), (0, 1), (0, 20)] [] rfl rfl rfl rfl ⟨by omega, by rw [zn73]; omega⟩ (zh_tlE hK (a := a) hTμ1 hb33 hb34 ⟨Nat.le_refl _, Nat.le_refl _⟩) (fun st4 μc4 hp4 => ?_)
    obtain ⟨x4, rfl, hTc4, hFt4, hd4⟩ := hp4
    have hFt := hFt4
    have hdt := hd4
    have q35 : (a = -1 ∧ μc4 35 1 = 0) ∨ (a ≠ -1 ∧ μc4 35 1 = μ 33 1) := by
      first
      | exact Or.inr ⟨by assumption, by rw [hFt 35 (by decide) (by decide), he]⟩
      | exact Or.inl ⟨by omega, by rw [hFt 35 (by decide) (by decide), eμ1, pm_up_eq]⟩
    first
    | rw [m33] at hdt
    | skip
    have qF : ∀ q, q ≠ 33 → q ≠ 34 → q ≠ 35 → q ≠ 36 → μc4 q = μ q := fun q q1 q2 q3 q4 => by
      first
      | (rw [hFt q q1 q2, eμ1, pm_up_row q3]; done)
      | (rw [hFt q q1 q2]; done)
    refine pm_blk hK zmm84 [] 2 48 [(2, 1), (0, a), (0, b), (0, x4)] [(0, x4)] μc4 [] rfl trivial ?_
    refine pm_if hK zmm84 .le 15 63 rfl rfl (fun h3 => ?_) (fun h3 => ?_)
    · have h3 : x4 ≤ (0 : Int) := h3
      refine pm_blk hK zmm84 [] 1 64 [(2, 1), (0, a), (0, b), (0, x4)] [(0, x4)] μc4 [] rfl trivial ?_
      first
      | (exfalso; omega)
      | (have zf := zE_fin2 (b := b) hdt (by assumption) ⟨by omega, by omega⟩ hda q35; exact pm_iret rfl rfl ⟨by rw [← zf.1], hTc4, fun q q1 q2 q3 q4 => by rw [hFa q q3 q4]; exact qF q q1 q2 q3 q4, by rw [hFa 33 (by decide) (by decide)]; exact zf.2.1, zf.2.2⟩)
      | (have zf := zE_fin1 (b := b) hdt (by assumption) (by omega) q35; exact pm_iret rfl rfl ⟨by rw [← zf.1], hTc4, qF, zf.2.1, zf.2.2⟩)
    · have h3 : (0 : Int) < x4 := h3
      refine pm_blk hK zmm84 [] 4 59 [(2, 1), (0, a), (0, b), (0, x4)] [(0, b), (2, 35)] μc4 [] rfl trivial ?_
      refine pm_call hK zmm84 (310, 0, 74, 1) zM74 (1, 20) [(2, 35), (0, b)] [] rfl rfl rfl rfl ⟨by omega, by rw [zn74]; omega⟩ (zh_ad35 hK (v := b) hTc4 ⟨by omega, by omega⟩ hb35 hb36 ⟨Nat.le_refl _, Nat.le_refl _⟩) (fun st5 μc5 hp5 => ?_)
      obtain ⟨x5, rfl, hTc5, hFa5, hd5⟩ := hp5
      have hFa := hFa5
      have hda := hd5
      refine pm_blk hK zmm84 [] 2 64 [(2, 1), (0, a), (0, b), (0, x4)] [(0, x4)] μc5 [] rfl trivial ?_
      first
      | (exfalso; omega)
      | (have zf := zE_fin2 (b := b) hdt (by assumption) ⟨by omega, by omega⟩ hda q35; exact pm_iret rfl rfl ⟨by rw [← zf.1], hTc5, fun q q1 q2 q3 q4 => by rw [hFa q q3 q4]; exact qF q q1 q2 q3 q4, by rw [hFa 33 (by decide) (by decide)]; exact zf.2.1, zf.2.2⟩)
      | (have zf := zE_fin1 (b := b) hdt (by assumption) (by omega) q35; exact pm_iret rfl rfl ⟨by rw [← zf.1], hTc5, qF, zf.2.1, zf.2.2⟩)
end ZHW
