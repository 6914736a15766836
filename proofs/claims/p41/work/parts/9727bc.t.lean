/-! the tape and what lies on it: both sides; walks printed by program (wip/p30/pmgen.py) and filled by hand -/
section ZHW
variable {D : va_G} {Wm : Nat} {ST : List (String × String × String × Nat)} {b0 : sx_B} {l : Launch} {Sg : Nat → Option Nat} {bud : sx_Bu} {μ : pm_Mem} {B0 : Nat → Prop} {J : (Nat → Option Nat) → Heap → Prop}
set_option maxRecDepth 100000 in
theorem zx_room (hK : zKK ST) (hT : zTJ none μ) (hbd : 0 ≤ bud.1 ∧ 0 ≤ bud.2.1) : zC D Wm ST b0 l Sg zM43 bud [(2, 88), (0, 20)] μ (fun st' μ' => μ = μ' ∧ st' = [(0, if μ 88 1 ≤ 380 then 1 else 0)]) := by
  have f1 := zT_get hT zs88_1 (i := 1) (by omega) (by omega)
  refine pm_blk hK zmm43 [] 5 9 [(2, 88), (0, 20)] [(0, 400), (0, (μ 88 1) + 20)] μ [pm_in ((μ 88 1) + 20)] rfl ⟨pm_in_mk (by omega) (by omega), trivial⟩ ?_
  refine pm_icmp hK zmm43 .gt 7 16 rfl rfl (fun h0 => ?_) (fun h0 => ?_)
  · have h0 : (400 : Int) < (μ 88 1) + 20 := h0
    refine pm_blk hK zmm43 [] 1 17 [(2, 88), (0, 20)] [(0, 0)] μ [] rfl trivial ?_
    exact pm_zret rfl rfl (by first | exact Or.inl rfl | exact Or.inr rfl | omega) ⟨rfl, by first | rw [if_pos (by omega)] | rw [if_neg (by omega)]⟩
  · have h0 : (μ 88 1) + 20 ≤ (400 : Int) := h0
    refine pm_blk hK zmm43 [] 2 17 [(2, 88), (0, 20)] [(0, 1)] μ [] rfl trivial ?_
    exact pm_zret rfl rfl (by first | exact Or.inl rfl | exact Or.inr rfl | omega) ⟨rfl, by first | rw [if_pos (by omega)] | rw [if_neg (by omega)]⟩
set_option maxRecDepth 100000 in
theorem zx_til (hK : zKK ST)  {μ0 : pm_Mem} {v n0 : Int} (hN : 0 ≤ n0 ∧ n0 ≤ 396) (hb88 : sx_bit Wm 88 = true) (hb89 : sx_bit Wm 89 = true) (hbd : 1 ≤ bud.1 ∧ 30 ≤ bud.2.1) : ∀ (n : Nat) {z j : Int} {μ : pm_Mem}, j.toNat = n → ∀ (hj : 0 ≤ j ∧ j ≤ 4) (hz : z = 8 * j - 8) (hl : μ 88 1 = n0 + 4 - j) (hf : (∀ r, r ≠ 88 → r ≠ 89 → μ r = μ0 r) ∧ (∀ k : Int, k ≠ 1 → μ 88 k = μ0 88 k)) (h89 : μ 89 = zbP (μ0 89) n0 v (4 - j)) (hT : zTJ none μ), zW D Wm ST b0 l Sg zM44 bud (pm_X zM44 (fun st' μ' => st' = [] ∧ zTJ none μ' ∧ (∀ r, r ≠ 88 → r ≠ 89 → μ' r = μ0 r) ∧ (∀ k : Int, k ≠ 1 → μ' 88 k = μ0 88 k) ∧ μ' 88 1 = n0 + 4 ∧ μ' 89 = zbP (μ0 89) n0 v 4)) 3 [(2, 88), (0, v), (0, z)] [] μ := by
  intro n
  induction n using Nat.strongRecOn with
  | ind n ih =>
    intro z j μ hn hj hz hl hf h89 hT
    refine pm_blk hK zmm44 [] 1 4 [(2, 88), (0, v), (0, z)] [(0, z)] μ [] rfl trivial ?_
    refine pm_if hK zmm44 .lt 49 53 rfl rfl (fun h0 => ?_) (fun h0 => ?_)
    · have h0 : z < (0 : Int) := h0
      exact pm_vret rfl rfl ⟨rfl, hT, hf.1, hf.2, by omega, by rw [h89, show (4 : Int) - j = 4 by omega]⟩
    · have h0 : (0 : Int) ≤ z := h0
      have f1 := zT_get hT zs88_1 (i := 1) (by omega) (by omega)
      refine pm_blk hK zmm44 [] 4 15 [(2, 88), (0, v), (0, z)] [(0, 399), (0, 0), (0, μ 88 1)] μ [] rfl trivial ?_
      refine pm_call hK zmm44 (53, 1, 16, 3) zM16 (0, 0) [(0, μ 88 1), (0, 0), (0, 399)] [] rfl rfl rfl rfl ⟨by omega, by rw [zn16]; omega⟩ (zh_within hK ⟨Nat.le_refl _, Nat.le_refl _⟩) (fun st1 μc1 hp1 => ?_)
      obtain ⟨rfl, rfl⟩ := hp1
      refine pm_if hK zmm44 .eq 29 47 rfl rfl (fun h1 => ?_) (fun h1 => ?_)
      · have h1 : (if 0 ≤ (μ 88 1) ∧ (μ 88 1) ≤ 399 then 1 else 0 : Int) = (0 : Int) := h1
        have h1 := zif0 h1
        refine pm_blk hK zmm44 [] 2 3 [(2, 88), (0, v), (0, z + (-8))] [] μ [pm_in (z + (-8))] rfl ⟨pm_in_mk (by omega) (by omega), trivial⟩ ?_
        first
        | (exfalso; omega)
        | (have a2 : μ 88 1 = μ 88 1 + 1 := (by rw [eμ, pm_up_eq, e, pm_up_off (by decide)])
           exact ih (j - 1).toNat (by omega) (j := j - 1) rfl ⟨by omega, by omega⟩ (by omega) (by omega) ⟨fun r a b => by rw [eμ, pm_up_row a, e, pm_up_row b]; exact hf.1 r a b, fun k hk => by rw [eμ, pm_up_ne hk, e, pm_up_off (by decide)]; exact hf.2 k hk⟩ (by rw [eμ, pm_up_row (by decide), e, pm_up_zpu, h89, eby]; exact (zbP_s (k := 4 - j) (by omega) (by omega) (by rw [show (24 : Int) - 8 * (4 - j) = z by omega])).trans (by rw [show (4 : Int) - j + 1 = 4 - (j - 1) by omega])) hT)
        | (exfalso; omega)
      · have h1 : (if 0 ≤ (μ 88 1) ∧ (μ 88 1) ≤ 399 then 1 else 0 : Int) ≠ (0 : Int) := h1
        have h1 := zif1 h1
        refine pm_blk hK zmm44 [] 9 36 [(2, 88), (0, v), (0, z)] [(0, pm_and (pm_ushr v z) 255), (0, μ 88 1), (2, 89)] μ [] rfl trivial ?_
        have b255 := zand255 (pm_ushr v z)
        have eby := zbyt v (z := z) (by omega)
        refine pm_blk hK zmm44 [] 1 37 [(2, 88), (0, v), (0, z)] [] (pm_up μ 89 (μ 88 1) (pm_and (pm_ushr v z) 255)) [sx_bit Wm 89 = true, 0 ≤ μ 88 1 ∧ μ 88 1 < 400] rfl ⟨hb89, ⟨by omega, by omega⟩, trivial⟩ ?_
        obtain ⟨μ1, eμ1⟩ : ∃ μ', μ' = pm_up μ 89 (μ 88 1) (pm_and (pm_ushr v z) 255) := ⟨_, rfl⟩
        rw [← eμ1]
        have hTμ1 : zTJ none μ1 := by rw [eμ1]; exact zT_upn hT zs89_0 rfl (i := μ 88 1) (by omega) (by omega) (by omega) (by omega)
        have g2 : μ1 88 1 = μ 88 1 := by rw [eμ1, pm_up_off (by decide)]
        have f3 := zT_get hTμ1 zs88_1 (i := 1) (by omega) (by omega)
        refine pm_blk hK zmm44 [] 6 47 [(2, 88), (0, v), (0, z)] [] (pm_up μ1 88 1 ((μ1 88 1) + 1)) [pm_in ((μ1 88 1) + 1), sx_bit Wm 88 = true] rfl ⟨pm_in_mk (by omega) (by omega), hb88, trivial⟩ ?_
        obtain ⟨μ2, eμ2⟩ : ∃ μ', μ' = pm_up μ1 88 1 ((μ1 88 1) + 1) := ⟨_, rfl⟩
        rw [← eμ2]
        have hTμ2 : zTJ none μ2 := by rw [eμ2]; exact zT_upn hTμ1 zs88_1 rfl (i := 1) (by omega) (by omega) (by omega) (by omega)
        refine pm_blk hK zmm44 [] 2 3 [(2, 88), (0, v), (0, z + (-8))] [] μ2 [pm_in (z + (-8))] rfl ⟨pm_in_mk (by omega) (by omega), trivial⟩ ?_
        first
        | (exfalso; omega)
        | (have a2 : μ2 88 1 = μ 88 1 + 1 := (by rw [eμ2, pm_up_eq, eμ1, pm_up_off (by decide)])
           exact ih (j - 1).toNat (by omega) (j := j - 1) rfl ⟨by omega, by omega⟩ (by omega) (by omega) ⟨fun r a b => by rw [eμ2, pm_up_row a, eμ1, pm_up_row b]; exact hf.1 r a b, fun k hk => by rw [eμ2, pm_up_ne hk, eμ1, pm_up_off (by decide)]; exact hf.2 k hk⟩ (by rw [eμ2, pm_up_row (by decide), eμ1, pm_up_zpu, h89, eby]; exact (zbP_s (k := 4 - j) (by omega) (by omega) (by rw [show (24 : Int) - 8 * (4 - j) = z by omega])).trans (by rw [show (4 : Int) - j + 1 = 4 - (j - 1) by omega])) hTμ2)
        | (exfalso; omega)
set_option maxRecDepth 100000 in
theorem zx_tin (hK : zKK ST) {v : Int} {n0 : Int} (hT : zTJ none μ) (hn0 : μ 88 1 = n0) (hN : 0 ≤ n0 ∧ n0 ≤ 396) (hb88 : sx_bit Wm 88 = true) (hb89 : sx_bit Wm 89 = true) (hbd : 1 ≤ bud.1 ∧ 30 ≤ bud.2.1) : zC D Wm ST b0 l Sg zM44 bud [(2, 88), (0, v)] μ (fun st' μ' => st' = [] ∧ zTJ none μ' ∧ ((∀ r, r ≠ 88 → r ≠ 89 → μ' r = μ r) ∧ (∀ k : Int, k ≠ 1 → μ' 88 k = μ 88 k)) ∧ μ' 88 1 = n0 + 4 ∧ μ' 89 = zbP (μ 89) n0 v 4) := by
  refine pm_blk hK zmm44 [] 2 3 [(2, 88), (0, v), (0, 24)] [] μ [] rfl trivial ?_
  exact pm_then (zx_til hK (μ0 := μ) (n0 := n0) hN hb88 hb89 hbd _ (j := 4) rfl ⟨by omega, by omega⟩ (by omega) (by omega) ⟨fun _ _ _ => rfl, fun _ _ => rfl⟩ (by rw [show (4 : Int) - 4 = 0 by decide, zbP_0]) hT) (fun pc2 lv2 st2 μ2 hX => pm_exit ⟨hX.1, hX.2.1, hX.2.2.1, ⟨hX.2.2.2.1, hX.2.2.2.2.1⟩, hX.2.2.2.2.2⟩)
set_option maxRecDepth 100000 in
theorem zx_feed (hK : zKK ST) {a b c d e : Int} {n : Int} (hT : zTJ none μ) (hn : μ 88 1 = n) (hb88 : sx_bit Wm 88 = true) (hb89 : sx_bit Wm 89 = true) (hbd : 2 ≤ bud.1 ∧ 60 ≤ bud.2.1) : zC D Wm ST b0 l Sg zM42 bud [(2, 1), (0, a), (0, b), (0, c), (0, d), (0, e)] μ (fun st' μ' => ∃ x, st' = [(0, x)] ∧ zTJ none μ' ∧ ((∀ r, r ≠ 88 → r ≠ 89 → μ' r = μ r) ∧ (∀ k : Int, k ≠ 1 → μ' 88 k = μ 88 k)) ∧ ((n ≤ 380 ∧ x = n + 20 ∧ μ' 88 1 = n + 20 ∧ μ' 89 = zfd (μ 89) n a b c d e) ∨ (380 < n ∧ x = -1 ∧ μ' 88 1 = n ∧ μ' 89 = μ 89))) := by
  have fl := zT_get hT zs88_1 (i := 1) (by omega) (by omega)
  refine pm_blk hK zmm42 [] 3 6 [(2, 1), (0, a), (0, b), (0, c), (0, d), (0, e)] [(0, 20), (2, 88)] μ [] rfl trivial ?_
  refine pm_call hK zmm42 (166, 0, 43, 1) zM43 (0, 0) [(2, 88), (0, 20)] [] rfl rfl rfl rfl ⟨by omega, by rw [zn43]; omega⟩ (zx_room hK hT ⟨Nat.le_refl _, Nat.le_refl _⟩) (fun st1 μc1 hp1 => ?_)
  obtain ⟨rfl, rfl⟩ := hp1
  refine pm_if hK zmm42 .ne 5 14 rfl rfl (fun h0 => ?_) (fun h0 => ?_)
  · have h0 : (if μ 88 1 ≤ 380 then 1 else 0 : Int) ≠ (0 : Int) := h0
    have h0 := zif1 h0
    refine pm_blk hK zmm42 [] 3 19 [(2, 1), (0, a), (0, b), (0, c), (0, d), (0, e)] [(0, a), (2, 88)] μ [] rfl trivial ?_
    refine pm_call hK zmm42 (169, 0, 44, 1) zM44 (1, 30) [(2, 88), (0, a)] [] rfl rfl rfl rfl ⟨by omega, by rw [zn44]; omega⟩ (zx_tin hK (v := a) (n0 := n + 0) hT (by omega) ⟨by omega, by omega⟩ hb88 hb89 ⟨Nat.le_refl _, Nat.le_refl _⟩) (fun st2 μc2 hp2 => ?_)
    obtain ⟨rfl, hTc2, fr0, ln0, tp0⟩ := hp2
    refine pm_blk hK zmm42 [] 3 27 [(2, 1), (0, a), (0, b), (0, c), (0, d), (0, e)] [(0, b), (2, 88)] μc2 [] rfl trivial ?_
    refine pm_call hK zmm42 (169, 0, 44, 1) zM44 (1, 30) [(2, 88), (0, b)] [] rfl rfl rfl rfl ⟨by omega, by rw [zn44]; omega⟩ (zx_tin hK (v := b) (n0 := n + 4) hTc2 (by omega) ⟨by omega, by omega⟩ hb88 hb89 ⟨Nat.le_refl _, Nat.le_refl _⟩) (fun st3 μc3 hp3 => ?_)
    obtain ⟨rfl, hTc3, fr1, ln1, tp1⟩ := hp3
    refine pm_blk hK zmm42 [] 3 35 [(2, 1), (0, a), (0, b), (0, c), (0, d), (0, e)] [(0, c), (2, 88)] μc3 [] rfl trivial ?_
    refine pm_call hK zmm42 (169, 0, 44, 1) zM44 (1, 30) [(2, 88), (0, c)] [] rfl rfl rfl rfl ⟨by omega, by rw [zn44]; omega⟩ (zx_tin hK (v := c) (n0 := n + 8) hTc3 (by omega) ⟨by omega, by omega⟩ hb88 hb89 ⟨Nat.le_refl _, Nat.le_refl _⟩) (fun st4 μc4 hp4 => ?_)
    obtain ⟨rfl, hTc4, fr2, ln2, tp2⟩ := hp4
    refine pm_blk hK zmm42 [] 3 44 [(2, 1), (0, a), (0, b), (0, c), (0, d), (0, e)] [(0, d), (2, 88)] μc4 [] rfl trivial ?_
    refine pm_call hK zmm42 (169, 0, 44, 1) zM44 (1, 30) [(2, 88), (0, d)] [] rfl rfl rfl rfl ⟨by omega, by rw [zn44]; omega⟩ (zx_tin hK (v := d) (n0 := n + 12) hTc4 (by omega) ⟨by omega, by omega⟩ hb88 hb89 ⟨Nat.le_refl _, Nat.le_refl _⟩) (fun st5 μc5 hp5 => ?_)
    obtain ⟨rfl, hTc5, fr3, ln3, tp3⟩ := hp5
    refine pm_blk hK zmm42 [] 3 53 [(2, 1), (0, a), (0, b), (0, c), (0, d), (0, e)] [(0, e), (2, 88)] μc5 [] rfl trivial ?_
    refine pm_call hK zmm42 (169, 0, 44, 1) zM44 (1, 30) [(2, 88), (0, e)] [] rfl rfl rfl rfl ⟨by omega, by rw [zn44]; omega⟩ (zx_tin hK (v := e) (n0 := n + 16) hTc5 (by omega) ⟨by omega, by omega⟩ hb88 hb89 ⟨Nat.le_refl _, Nat.le_refl _⟩) (fun st6 μc6 hp6 => ?_)
    obtain ⟨rfl, hTc6, fr4, ln4, tp4⟩ := hp6
    have f1 := zT_get hTc6 zs88_1 (i := 1) (by omega) (by omega)
    refine pm_blk hK zmm42 [] 3 63 [(2, 1), (0, a), (0, b), (0, c), (0, d), (0, e)] [(0, μc6 88 1)] μc6 [] rfl trivial ?_
    exact pm_iret rfl rfl ⟨_, rfl, hTc6, ⟨fun r x y => by rw [fr4.1 r x y, fr3.1 r x y, fr2.1 r x y, fr1.1 r x y, fr0.1 r x y], fun k x => by rw [fr4.2 k x, fr3.2 k x, fr2.2 k x, fr1.2 k x, fr0.2 k x]⟩, Or.inl ⟨by omega, by omega, by omega, by unfold zfd; rw [tp4, tp3, tp2, tp1, tp0, show n + 0 = n by omega]⟩⟩
  · have h0 : (if μ 88 1 ≤ 380 then 1 else 0 : Int) = (0 : Int) := h0
    have h0 := zif0 h0
    refine pm_blk hK zmm42 [] 1 13 [(2, 1), (0, a), (0, b), (0, c), (0, d), (0, e)] [(0, (-1))] μ [] rfl trivial ?_
    exact pm_iret rfl rfl ⟨_, rfl, hT, ⟨fun _ _ _ => rfl, fun _ _ => rfl⟩, Or.inr ⟨by omega, rfl, hn, rfl⟩⟩
set_option maxRecDepth 100000 in
theorem zx_end (hK : zKK ST) {u : Int} {n : Int} (hT : zTJ none μ) (hn : μ 88 1 = n) (hb88 : sx_bit Wm 88 = true) (hbd : 1 ≤ bud.1 ∧ 40 ≤ bud.2.1) : zC D Wm ST b0 l Sg zM45 bud [(2, 1), (0, u)] μ (fun st' μ' => ∃ x, st' = [(0, x)] ∧ zTJ none μ' ∧ (∀ r, r ≠ 88 → μ' r = μ r) ∧ (∀ k : Int, k ≠ 1 → μ' 88 k = μ 88 k) ∧ ((0 ≤ u ∧ u ≤ n ∧ x = 1 ∧ μ' 88 1 = u) ∨ (¬ (0 ≤ u ∧ u ≤ n) ∧ x = 0 ∧ μ' 88 1 = n))) := by
  have fl := zT_get hT zs88_1 (i := 1) (by omega) (by omega)
  have f1 := zT_get hT zs88_1 (i := 1) (by omega) (by omega)
  refine pm_blk hK zmm45 [] 5 9 [(2, 1), (0, u)] [(0, μ 88 1), (0, 0), (0, u)] μ [] rfl trivial ?_
  refine pm_call hK zmm45 (94, 1, 16, 3) zM16 (0, 0) [(0, u), (0, 0), (0, μ 88 1)] [] rfl rfl rfl rfl ⟨by omega, by rw [zn16]; omega⟩ (zh_within hK ⟨Nat.le_refl _, Nat.le_refl _⟩) (fun st1 μc1 hp1 => ?_)
  obtain ⟨rfl, rfl⟩ := hp1
  refine pm_if hK zmm45 .ne 5 17 rfl rfl (fun h0 => ?_) (fun h0 => ?_)
  · have h0 : (if 0 ≤ u ∧ u ≤ (μ 88 1) then 1 else 0 : Int) ≠ (0 : Int) := h0
    have h0 := zif1 h0
    refine pm_blk hK zmm45 [] 4 25 [(2, 1), (0, u)] [] (pm_up μ 88 1 u) [sx_bit Wm 88 = true] rfl ⟨hb88, trivial⟩ ?_
    obtain ⟨μ1, eμ1⟩ : ∃ μ', μ' = pm_up μ 88 1 u := ⟨_, rfl⟩
    rw [← eμ1]
    have hTμ1 : zTJ none μ1 := by rw [eμ1]; exact zT_upn hT zs88_1 rfl (i := 1) (by omega) (by omega) (by omega) (by omega)
    refine pm_blk hK zmm45 [] 1 26 [(2, 1), (0, u)] [(0, 1)] μ1 [] rfl trivial ?_
    exact pm_zret rfl rfl (by first | exact Or.inl rfl | exact Or.inr rfl | omega) ⟨_, rfl, hTμ1, fun r hr => by rw [eμ1, pm_up_row hr], fun k hk => by rw [eμ1, pm_up_ne hk], Or.inl ⟨by omega, by omega, rfl, by rw [eμ1, pm_up_eq]⟩⟩
  · have h0 : (if 0 ≤ u ∧ u ≤ (μ 88 1) then 1 else 0 : Int) = (0 : Int) := h0
    have h0 := zif0 h0
    refine pm_blk hK zmm45 [] 1 16 [(2, 1), (0, u)] [(0, 0)] μ [] rfl trivial ?_
    exact pm_zret rfl rfl (by first | exact Or.inl rfl | exact Or.inr rfl | omega) ⟨_, rfl, hT, fun _ _ => rfl, fun _ _ => rfl, Or.inr ⟨by omega, rfl, hn⟩⟩
set_option maxRecDepth 100000 in
theorem zx_tyl (hK : zKK ST)  {μ0 : pm_Mem} {v n0 : Int} (hN : 0 ≤ n0 ∧ n0 ≤ 396) (hb205 : sx_bit Wm 205 = true) (hb211 : sx_bit Wm 211 = true) (hbd : 0 ≤ bud.1 ∧ 0 ≤ bud.2.1) : ∀ (n : Nat) {z j : Int} {μ : pm_Mem}, j.toNat = n → ∀ (hj : 0 ≤ j ∧ j ≤ 4) (hz : z = 8 * j - 8) (hl : μ 205 11 = n0 + 4 - j) (hf : (∀ r, r ≠ 205 → r ≠ 211 → μ r = μ0 r) ∧ (∀ k : Int, k ≠ 11 → μ 205 k = μ0 205 k)) (h211 : μ 211 = zbP (μ0 211) n0 v (4 - j)) (hT : zTJ none μ), zW D Wm ST b0 l Sg zM135 bud (pm_X zM135 (fun st' μ' => st' = [] ∧ zTJ none μ' ∧ (∀ r, r ≠ 205 → r ≠ 211 → μ' r = μ0 r) ∧ (∀ k : Int, k ≠ 11 → μ' 205 k = μ0 205 k) ∧ μ' 205 11 = n0 + 4 ∧ μ' 211 = zbP (μ0 211) n0 v 4)) 3 [(2, 205), (0, v), (0, z)] [] μ := by
  intro n
  induction n using Nat.strongRecOn with
  | ind n ih =>
    intro z j μ hn hj hz hl hf h211 hT
    refine pm_blk hK zmm135 [] 1 4 [(2, 205), (0, v), (0, z)] [(0, z)] μ [] rfl trivial ?_
    refine pm_if hK zmm135 .lt 35 39 rfl rfl (fun h0 => ?_) (fun h0 => ?_)
    · have h0 : z < (0 : Int) := h0
      exact pm_vret rfl rfl ⟨rfl, hT, hf.1, hf.2, by omega, by rw [h211, show (4 : Int) - j = 4 by omega]⟩
    · have h0 : (0 : Int) ≤ z := h0
      have f1 := zT_get hT zs205_11 (i := 11) (by omega) (by omega)
      refine pm_blk hK zmm135 [] 9 22 [(2, 205), (0, v), (0, z)] [(0, pm_and (pm_shr v z) 255), (0, μ 205 11), (2, 211)] μ [] rfl trivial ?_
      have b255 := zand255 (pm_shr v z)
      refine pm_blk hK zmm135 [] 1 23 [(2, 205), (0, v), (0, z)] [] (pm_up μ 211 (μ 205 11) (pm_and (pm_shr v z) 255)) [sx_bit Wm 211 = true, 0 ≤ μ 205 11 ∧ μ 205 11 < 400] rfl ⟨hb211, ⟨by omega, by omega⟩, trivial⟩ ?_
      obtain ⟨μ1, eμ1⟩ : ∃ μ', μ' = pm_up μ 211 (μ 205 11) (pm_and (pm_shr v z) 255) := ⟨_, rfl⟩
      rw [← eμ1]
      have hTμ1 : zTJ none μ1 := by rw [eμ1]; exact zT_upn hT zs211_0 rfl (i := μ 205 11) (by omega) (by omega) (by omega) (by omega)
      have g2 : μ1 205 11 = μ 205 11 := by rw [eμ1, pm_up_off (by decide)]
      have f3 := zT_get hTμ1 zs205_11 (i := 11) (by omega) (by omega)
      refine pm_blk hK zmm135 [] 6 33 [(2, 205), (0, v), (0, z)] [] (pm_up μ1 205 11 ((μ1 205 11) + 1)) [pm_in ((μ1 205 11) + 1), sx_bit Wm 205 = true] rfl ⟨pm_in_mk (by omega) (by omega), hb205, trivial⟩ ?_
      obtain ⟨μ2, eμ2⟩ : ∃ μ', μ' = pm_up μ1 205 11 ((μ1 205 11) + 1) := ⟨_, rfl⟩
      rw [← eμ2]
      have hTμ2 : zTJ none μ2 := by rw [eμ2]; exact zT_upn hTμ1 zs205_11 rfl (i := 11) (by omega) (by omega) (by omega) (by omega)
      refine pm_blk hK zmm135 [] 2 3 [(2, 205), (0, v), (0, z + (-8))] [] μ2 [pm_in (z + (-8))] rfl ⟨pm_in_mk (by omega) (by omega), trivial⟩ ?_
      have a2 : μ2 205 11 = μ 205 11 + 1 := by rw [eμ2, pm_up_eq, eμ1, pm_up_off (by decide)]
      exact ih (j - 1).toNat (by omega) (j := j - 1) rfl ⟨by omega, by omega⟩ (by omega) (by omega) ⟨fun r a b => by rw [eμ2, pm_up_row a, eμ1, pm_up_row b]; exact hf.1 r a b, fun k hk => by rw [eμ2, pm_up_ne hk, eμ1, pm_up_off (by decide)]; exact hf.2 k hk⟩ (by rw [eμ2, pm_up_row (by decide), eμ1, pm_up_zpu, h211]; exact (zbP_s (k := 4 - j) (by omega) (by omega) (by rw [show (24 : Int) - 8 * (4 - j) = z by omega]; rfl)).trans (by rw [show (4 : Int) - j + 1 = 4 - (j - 1) by omega])) hTμ2
set_option maxRecDepth 100000 in
theorem zx_typ (hK : zKK ST) {v : Int} {n0 : Int} (hT : zTJ none μ) (hn0 : μ 205 11 = n0) (hN : 0 ≤ n0 ∧ n0 ≤ 396) (hb205 : sx_bit Wm 205 = true) (hb211 : sx_bit Wm 211 = true) (hbd : 0 ≤ bud.1 ∧ 0 ≤ bud.2.1) : zC D Wm ST b0 l Sg zM135 bud [(2, 205), (0, v)] μ (fun st' μ' => st' = [] ∧ zTJ none μ' ∧ ((∀ r, r ≠ 205 → r ≠ 211 → μ' r = μ r) ∧ (∀ k : Int, k ≠ 11 → μ' 205 k = μ 205 k)) ∧ μ' 205 11 = n0 + 4 ∧ μ' 211 = zbP (μ 211) n0 v 4) := by
  refine pm_blk hK zmm135 [] 2 3 [(2, 205), (0, v), (0, 24)] [] μ [] rfl trivial ?_
  exact pm_then (zx_tyl hK (μ0 := μ) (n0 := n0) hN hb205 hb211 hbd _ (j := 4) rfl ⟨by omega, by omega⟩ (by omega) (by omega) ⟨fun _ _ _ => rfl, fun _ _ => rfl⟩ (by rw [show (4 : Int) - 4 = 0 by decide, zbP_0]) hT) (fun pc2 lv2 st2 μ2 hX => pm_exit ⟨hX.1, hX.2.1, hX.2.2.1, ⟨hX.2.2.2.1, hX.2.2.2.2.1⟩, hX.2.2.2.2.2⟩)
set_option maxRecDepth 100000 in
theorem zx_feedR (hK : zKK ST) {a b c d e : Int} {n : Int} (hT : zTJ none μ) (hn : μ 205 11 = n) (hb205 : sx_bit Wm 205 = true) (hb211 : sx_bit Wm 211 = true) (hbd : 1 ≤ bud.1 ∧ 40 ≤ bud.2.1) : zC D Wm ST b0 l Sg zM134 bud [(2, 205), (0, a), (0, b), (0, c), (0, d), (0, e)] μ (fun st' μ' => ∃ x, st' = [(0, x)] ∧ zTJ none μ' ∧ ((∀ r, r ≠ 205 → r ≠ 211 → μ' r = μ r) ∧ (∀ k : Int, k ≠ 0 → k ≠ 11 → μ' 205 k = μ 205 k)) ∧ ((n ≤ 380 ∧ x = n + 20 ∧ μ' 205 11 = n + 20 ∧ μ' 211 = zfd (μ 211) n a b c d e) ∨ (380 < n ∧ x = -1 ∧ μ' 205 11 = n ∧ μ' 211 = μ 211))) := by
  have fl := zT_get hT zs205_11 (i := 11) (by omega) (by omega)
  refine pm_blk hK zmm134 [] 3 5 [(2, 205), (0, a), (0, b), (0, c), (0, d), (0, e)] [] (pm_up μ 205 0 0) [sx_bit Wm 205 = true] rfl ⟨hb205, trivial⟩ ?_
  obtain ⟨μ1, eμ1⟩ : ∃ μ', μ' = pm_up μ 205 0 0 := ⟨_, rfl⟩
  rw [← eμ1]
  have hTμ1 : zTJ none μ1 := by rw [eμ1]; exact zT_upn hT zs205_0 rfl (i := 0) (by omega) (by omega) (by omega) (by omega)
  have b3 : μ1 205 11 = n := by rw [eμ1, pm_up_ne (by decide)]; exact hn
  have g1 : ∀ r, r ≠ 205 → μ1 r = μ r := fun r hr => by rw [eμ1, pm_up_row hr]
  have g2 : ∀ k : Int, k ≠ 0 → μ1 205 k = μ 205 k := fun k hk => by rw [eμ1, pm_up_ne hk]
  have f1 := zT_get hTμ1 zs205_11 (i := 11) (by omega) (by omega)
  refine pm_blk hK zmm134 [] 3 12 [(2, 205), (0, a), (0, b), (0, c), (0, d), (0, e)] [(0, 380), (0, μ1 205 11)] μ1 [] rfl trivial ?_
  refine pm_icmp hK zmm134 .le 5 17 rfl rfl (fun h0 => ?_) (fun h0 => ?_)
  · have h0 : μ1 205 11 ≤ (380 : Int) := h0
    refine pm_blk hK zmm134 [] 2 19 [(2, 205), (0, a), (0, b), (0, c), (0, d), (0, e)] [(0, a), (2, 205)] μ1 [] rfl trivial ?_
    refine pm_call hK zmm134 (172, 0, 135, 1) zM135 (0, 0) [(2, 205), (0, a)] [] rfl rfl rfl rfl ⟨by omega, by rw [zn135]; omega⟩ (zx_typ hK (v := a) (n0 := n + 0) hTμ1 (by omega) ⟨by omega, by omega⟩ hb205 hb211 ⟨Nat.le_refl _, Nat.le_refl _⟩) (fun st1 μc1 hp1 => ?_)
    obtain ⟨rfl, hTc1, fr0, ln0, tp0⟩ := hp1
    refine pm_blk hK zmm134 [] 2 24 [(2, 205), (0, a), (0, b), (0, c), (0, d), (0, e)] [(0, b), (2, 205)] μc1 [] rfl trivial ?_
    refine pm_call hK zmm134 (172, 0, 135, 1) zM135 (0, 0) [(2, 205), (0, b)] [] rfl rfl rfl rfl ⟨by omega, by rw [zn135]; omega⟩ (zx_typ hK (v := b) (n0 := n + 4) hTc1 (by omega) ⟨by omega, by omega⟩ hb205 hb211 ⟨Nat.le_refl _, Nat.le_refl _⟩) (fun st2 μc2 hp2 => ?_)
    obtain ⟨rfl, hTc2, fr1, ln1, tp1⟩ := hp2
    refine pm_blk hK zmm134 [] 2 29 [(2, 205), (0, a), (0, b), (0, c), (0, d), (0, e)] [(0, c), (2, 205)] μc2 [] rfl trivial ?_
    refine pm_call hK zmm134 (172, 0, 135, 1) zM135 (0, 0) [(2, 205), (0, c)] [] rfl rfl rfl rfl ⟨by omega, by rw [zn135]; omega⟩ (zx_typ hK (v := c) (n0 := n + 8) hTc2 (by omega) ⟨by omega, by omega⟩ hb205 hb211 ⟨Nat.le_refl _, Nat.le_refl _⟩) (fun st3 μc3 hp3 => ?_)
    obtain ⟨rfl, hTc3, fr2, ln2, tp2⟩ := hp3
    refine pm_blk hK zmm134 [] 2 35 [(2, 205), (0, a), (0, b), (0, c), (0, d), (0, e)] [(0, d), (2, 205)] μc3 [] rfl trivial ?_
    refine pm_call hK zmm134 (172, 0, 135, 1) zM135 (0, 0) [(2, 205), (0, d)] [] rfl rfl rfl rfl ⟨by omega, by rw [zn135]; omega⟩ (zx_typ hK (v := d) (n0 := n + 12) hTc3 (by omega) ⟨by omega, by omega⟩ hb205 hb211 ⟨Nat.le_refl _, Nat.le_refl _⟩) (fun st4 μc4 hp4 => ?_)
    obtain ⟨rfl, hTc4, fr3, ln3, tp3⟩ := hp4
    refine pm_blk hK zmm134 [] 2 41 [(2, 205), (0, a), (0, b), (0, c), (0, d), (0, e)] [(0, e), (2, 205)] μc4 [] rfl trivial ?_
    refine pm_call hK zmm134 (172, 0, 135, 1) zM135 (0, 0) [(2, 205), (0, e)] [] rfl rfl rfl rfl ⟨by omega, by rw [zn135]; omega⟩ (zx_typ hK (v := e) (n0 := n + 16) hTc4 (by omega) ⟨by omega, by omega⟩ hb205 hb211 ⟨Nat.le_refl _, Nat.le_refl _⟩) (fun st5 μc5 hp5 => ?_)
    obtain ⟨rfl, hTc5, fr4, ln4, tp4⟩ := hp5
    have f2 := zT_get hTc5 zs205_11 (i := 11) (by omega) (by omega)
    refine pm_blk hK zmm134 [] 2 48 [(2, 205), (0, a), (0, b), (0, c), (0, d), (0, e)] [(0, μc5 205 11)] μc5 [] rfl trivial ?_
    exact pm_iret rfl rfl ⟨_, rfl, hTc5, ⟨fun r x y => by rw [fr4.1 r x y, fr3.1 r x y, fr2.1 r x y, fr1.1 r x y, fr0.1 r x y, g1 r x], fun k w x => by rw [fr4.2 k x, fr3.2 k x, fr2.2 k x, fr1.2 k x, fr0.2 k x, g2 k w]⟩, Or.inl ⟨by omega, by omega, by omega, by unfold zfd; rw [tp4, tp3, tp2, tp1, tp0, g1 211 (by decide), show n + 0 = n by omega]⟩⟩
  · have h0 : (380 : Int) < μ1 205 11 := h0
    refine pm_blk hK zmm134 [] 1 16 [(2, 205), (0, a), (0, b), (0, c), (0, d), (0, e)] [(0, (-1))] μ1 [] rfl trivial ?_
    exact pm_iret rfl rfl ⟨_, rfl, hTμ1, ⟨fun r x _ => g1 r x, fun k x _ => g2 k x⟩, Or.inr ⟨by omega, rfl, b3, g1 211 (by decide)⟩⟩
set_option maxRecDepth 100000 in
theorem zx_endR (hK : zKK ST) {u : Int} {n : Int} (hT : zTJ none μ) (hn : μ 205 11 = n) (hb205 : sx_bit Wm 205 = true) (hbd : 1 ≤ bud.1 ∧ 40 ≤ bud.2.1) : zC D Wm ST b0 l Sg zM136 bud [(2, 205), (0, u)] μ (fun st' μ' => ∃ x, st' = [(0, x)] ∧ zTJ none μ' ∧ (∀ r, r ≠ 205 → μ' r = μ r) ∧ (∀ k : Int, k ≠ 0 → k ≠ 11 → μ' 205 k = μ 205 k) ∧ ((0 ≤ u ∧ u ≤ n ∧ x = 1 ∧ μ' 205 11 = u) ∨ (¬ (0 ≤ u ∧ u ≤ n) ∧ x = 0 ∧ μ' 205 11 = n))) := by
  have fl := zT_get hT zs205_11 (i := 11) (by omega) (by omega)
  refine pm_blk hK zmm136 [] 3 5 [(2, 205), (0, u)] [] (pm_up μ 205 0 0) [sx_bit Wm 205 = true] rfl ⟨hb205, trivial⟩ ?_
  obtain ⟨μ1, eμ1⟩ : ∃ μ', μ' = pm_up μ 205 0 0 := ⟨_, rfl⟩
  rw [← eμ1]
  have hTμ1 : zTJ none μ1 := by rw [eμ1]; exact zT_upn hT zs205_0 rfl (i := 0) (by omega) (by omega) (by omega) (by omega)
  have b3 : μ1 205 11 = n := by rw [eμ1, pm_up_ne (by decide)]; exact hn
  have g1 : ∀ r, r ≠ 205 → μ1 r = μ r := fun r hr => by rw [eμ1, pm_up_row hr]
  have g2 : ∀ k : Int, k ≠ 0 → μ1 205 k = μ 205 k := fun k hk => by rw [eμ1, pm_up_ne hk]
  have f1 := zT_get hTμ1 zs205_11 (i := 11) (by omega) (by omega)
  refine pm_blk hK zmm136 [] 5 12 [(2, 205), (0, u)] [(0, μ1 205 11), (0, 0), (0, u), (2, 205)] μ1 [] rfl trivial ?_
  refine pm_call hK zmm136 (158, 0, 129, 3) zM129 (0, 0) [(2, 205), (0, u), (0, 0), (0, μ1 205 11)] [] rfl rfl rfl rfl ⟨by omega, by rw [zn129]; omega⟩ (zh_isIn hK ⟨by omega, by omega⟩) (fun st1 μc1 hp1 => ?_)
  obtain ⟨rfl, rfl⟩ := hp1
  refine pm_if hK zmm136 .ne 5 20 rfl rfl (fun h0 => ?_) (fun h0 => ?_)
  · have h0 : (if 0 ≤ u ∧ u ≤ (μ1 205 11) then 1 else 0 : Int) ≠ (0 : Int) := h0
    have h0 := zif1 h0
    refine pm_blk hK zmm136 [] 3 25 [(2, 205), (0, u)] [] (pm_up μ1 205 11 u) [sx_bit Wm 205 = true] rfl ⟨hb205, trivial⟩ ?_
    obtain ⟨μ2, eμ2⟩ : ∃ μ', μ' = pm_up μ1 205 11 u := ⟨_, rfl⟩
    rw [← eμ2]
    have hTμ2 : zTJ none μ2 := by rw [eμ2]; exact zT_upn hTμ1 zs205_11 rfl (i := 11) (by omega) (by omega) (by omega) (by omega)
    refine pm_blk hK zmm136 [] 1 26 [(2, 205), (0, u)] [(0, 1)] μ2 [] rfl trivial ?_
    exact pm_zret rfl rfl (by first | exact Or.inl rfl | exact Or.inr rfl | omega) ⟨_, rfl, hTμ2, fun r hr => by rw [eμ2, pm_up_row hr]; exact g1 r hr, fun k x y => by rw [eμ2, pm_up_ne y]; exact g2 k x, Or.inl ⟨by omega, by omega, rfl, by rw [eμ2, pm_up_eq]⟩⟩
  · have h0 : (if 0 ≤ u ∧ u ≤ (μ1 205 11) then 1 else 0 : Int) = (0 : Int) := h0
    have h0 := zif0 h0
    refine pm_blk hK zmm136 [] 1 19 [(2, 205), (0, u)] [(0, 0)] μ1 [] rfl trivial ?_
    exact pm_zret rfl rfl (by first | exact Or.inl rfl | exact Or.inr rfl | omega) ⟨_, rfl, hTμ1, g1, fun k x _ => g2 k x, Or.inr ⟨by omega, rfl, b3⟩⟩
end ZHW
