/-! F: GAME, both sides; walks printed by program (wip/p30/pmgen.py) and filled by hand -/
section ZHW
variable {φ : Option pm_Mem}
variable {D : va_G} {Wm : Nat} {ST : List (String × String × String × Nat)} {b0 : sx_B} {l : Launch} {Sg : Nat → Option Nat} {bud : sx_Bu} {μ : pm_Mem} {B0 : Nat → Prop} {J : (Nat → Option Nat) → Heap → Prop}
set_option maxRecDepth 100000 in
theorem fw_loses (hK : zKK ST) {x b : Int} (hbd : 0 ≤ bud.1 ∧ 0 ≤ bud.2.1) : zC D Wm ST b0 l Sg zM273 bud [(0, x), (0, b)] μ (fun st' μ' => μ = μ' ∧ st' = [(0, fw_ll x b)]) := by
  refine pm_blk hK zmm273 [] 1 1 [(0, x), (0, b)] [(0, b)] μ [] rfl trivial ?_
  refine pm_if hK zmm273 .ne 16 17 rfl rfl (fun h0 => ?_) (fun h0 => ?_)
  · have h0 : b ≠ (0 : Int) := h0
    refine pm_blk hK zmm273 [] 1 18 [(0, x), (0, b)] [(0, x)] μ [] rfl trivial ?_
    refine pm_if hK zmm273 .ne 7 25 rfl rfl (fun h1 => ?_) (fun h1 => ?_)
    · have h1 : x ≠ (0 : Int) := h1
      refine pm_blk hK zmm273 [] 1 26 [(0, x), (0, b)] [(0, 0)] μ [] rfl trivial ?_
      first
      | exact pm_zret rfl rfl (by first | exact Or.inl rfl | exact Or.inr rfl | omega) ⟨rfl, by rw [fw_ll_1 (by omega) (by omega)]⟩
      | exact pm_zret rfl rfl (by first | exact Or.inl rfl | exact Or.inr rfl | omega) ⟨rfl, by rw [fw_ll_2 (by omega) (by omega)]⟩
      | exact pm_zret rfl rfl (by first | exact Or.inl rfl | exact Or.inr rfl | omega) ⟨rfl, by rw [fw_ll_3 (by omega) (by omega)]⟩
      | exact pm_zret rfl rfl (by first | exact Or.inl rfl | exact Or.inr rfl | omega) ⟨rfl, by rw [fw_ll_4 (by omega) (by omega)]⟩
      | (exfalso; omega)
    · have h1 : x = (0 : Int) := h1
      refine pm_blk hK zmm273 [] 2 26 [(0, x), (0, b)] [(0, 1)] μ [] rfl trivial ?_
      first
      | exact pm_zret rfl rfl (by first | exact Or.inl rfl | exact Or.inr rfl | omega) ⟨rfl, by rw [fw_ll_1 (by omega) (by omega)]⟩
      | exact pm_zret rfl rfl (by first | exact Or.inl rfl | exact Or.inr rfl | omega) ⟨rfl, by rw [fw_ll_2 (by omega) (by omega)]⟩
      | exact pm_zret rfl rfl (by first | exact Or.inl rfl | exact Or.inr rfl | omega) ⟨rfl, by rw [fw_ll_3 (by omega) (by omega)]⟩
      | exact pm_zret rfl rfl (by first | exact Or.inl rfl | exact Or.inr rfl | omega) ⟨rfl, by rw [fw_ll_4 (by omega) (by omega)]⟩
      | (exfalso; omega)
  · have h0 : b = (0 : Int) := h0
    refine pm_blk hK zmm273 [] 2 6 [(0, x), (0, b)] [(0, 1), (0, x)] μ [] rfl trivial ?_
    refine pm_icmp hK zmm273 .ne 7 13 rfl rfl (fun h2 => ?_) (fun h2 => ?_)
    · have h2 : x ≠ (1 : Int) := h2
      refine pm_blk hK zmm273 [] 2 26 [(0, x), (0, b)] [(0, 0)] μ [] rfl trivial ?_
      first
      | exact pm_zret rfl rfl (by first | exact Or.inl rfl | exact Or.inr rfl | omega) ⟨rfl, by rw [fw_ll_1 (by omega) (by omega)]⟩
      | exact pm_zret rfl rfl (by first | exact Or.inl rfl | exact Or.inr rfl | omega) ⟨rfl, by rw [fw_ll_2 (by omega) (by omega)]⟩
      | exact pm_zret rfl rfl (by first | exact Or.inl rfl | exact Or.inr rfl | omega) ⟨rfl, by rw [fw_ll_3 (by omega) (by omega)]⟩
      | exact pm_zret rfl rfl (by first | exact Or.inl rfl | exact Or.inr rfl | omega) ⟨rfl, by rw [fw_ll_4 (by omega) (by omega)]⟩
      | (exfalso; omega)
    · have h2 : x = (1 : Int) := h2
      refine pm_blk hK zmm273 [] 2 26 [(0, x), (0, b)] [(0, 1)] μ [] rfl trivial ?_
      first
      | exact pm_zret rfl rfl (by first | exact Or.inl rfl | exact Or.inr rfl | omega) ⟨rfl, by rw [fw_ll_1 (by omega) (by omega)]⟩
      | exact pm_zret rfl rfl (by first | exact Or.inl rfl | exact Or.inr rfl | omega) ⟨rfl, by rw [fw_ll_2 (by omega) (by omega)]⟩
      | exact pm_zret rfl rfl (by first | exact Or.inl rfl | exact Or.inr rfl | omega) ⟨rfl, by rw [fw_ll_3 (by omega) (by omega)]⟩
      | exact pm_zret rfl rfl (by first | exact Or.inl rfl | exact Or.inr rfl | omega) ⟨rfl, by rw [fw_ll_4 (by omega) (by omega)]⟩
      | (exfalso; omega)
set_option maxRecDepth 100000 in
theorem fw_l1 (hK : zKK ST) {X : Nat → List pm_V → List pm_V → pm_Mem → Prop} {N w X0 B0 : Int} {μ : pm_Mem} (hT : zTJ φ μ) (hN : 0 ≤ N ∧ N ≤ 12) (K : (0 ≤ B0 ∧ B0 ≤ 12) → zW D Wm ST b0 l Sg zM116 bud X 52 [(2, 4), (0, N), (0, w), (0, X0), (0, B0), (9, 0), (9, 0), (9, 0), (9, 0)] [] μ) (hbd : 1 ≤ bud.1 ∧ 30 ≤ bud.2.1) : ∀ (n : Nat) {x b s : Int}, (N - s).toNat = n → ∀ (hs : 0 ≤ s ∧ s ≤ N) (hb : 0 ≤ b ∧ b ≤ s) (hx : fw_x (μ 4) (N - s).toNat s x = X0) (hb2 : fw_b (μ 4) (N - s).toNat s b = B0), zW D Wm ST b0 l Sg zM116 bud X 8 [(2, 4), (0, N), (0, w), (0, x), (0, b), (0, s), (9, 0), (9, 0), (9, 0)] [] μ := by
  intro n
  induction n using Nat.strongRecOn with
  | ind n ih =>
    intro x b s hn hs hb hx hb2
    refine pm_blk hK zmm116 [] 2 11 [(2, 4), (0, N), (0, w), (0, x), (0, b), (0, s), (9, 0), (9, 0), (9, 0)] [(0, N), (0, s)] μ [] rfl trivial ?_
    refine pm_icmp hK zmm116 .ge 41 52 rfl rfl (fun h0 => ?_) (fun h0 => ?_)
    · have h0 : N ≤ s := h0
      refine pm_hide [5] ?_
      first
      | (have e1 := fw_x_e (by omega) hx; have e2 := fw_b_e (by omega) hb2; subst e1; subst e2; exact K ⟨by omega, by omega⟩)
      | (exfalso; omega)
    · have h0 : s < N := h0
      refine pm_blk hK zmm116 [] 3 18 [(2, 4), (0, N), (0, w), (0, x), (0, b), (0, s), (9, 0), (9, 0), (9, 0)] [(0, 12), (0, s)] μ [] rfl trivial ?_
      refine pm_icmp hK zmm116 .ge 34 52 rfl rfl (fun h1 => ?_) (fun h1 => ?_)
      · have h1 : (12 : Int) ≤ s := h1
        refine pm_hide [5] ?_
        first
        | (have e1 := fw_x_e (by omega) hx; have e2 := fw_b_e (by omega) hb2; subst e1; subst e2; exact K ⟨by omega, by omega⟩)
        | (exfalso; omega)
      · have h1 : s < (12 : Int) := h1
        have f1 := zT_get hT zs4_0 (i := s) (by omega) (by omega)
        refine pm_blk hK zmm116 [] 11 35 [(2, 4), (0, N), (0, w), (0, pm_xor x (μ 4 s)), (0, b), (0, s), (9, 0), (9, 0), (9, 0)] [(0, 1), (0, μ 4 s), (0, b)] μ [0 ≤ s ∧ s < 12, 0 ≤ s ∧ s < 12] rfl ⟨⟨by omega, by omega⟩, ⟨by omega, by omega⟩, trivial⟩ ?_
        refine pm_icmp hK zmm116 .le 7 42 rfl rfl (fun h2 => ?_) (fun h2 => ?_)
        · have h2 : μ 4 s ≤ (1 : Int) := h2
          refine pm_blk hK zmm116 [] 5 8 [(2, 4), (0, N), (0, w), (0, pm_xor x (μ 4 s)), (0, b + 0), (0, s + 1), (9, 0), (9, 0), (9, 0)] [] μ [pm_in (b + 0), pm_in (s + 1)] rfl ⟨pm_in_mk (by omega) (by omega), pm_in_mk (by omega) (by omega), trivial⟩ ?_
          exact ih _ (by omega) rfl ⟨by omega, by omega⟩ ⟨by omega, by omega⟩ (fw_x_s (by omega) rfl rfl hx) (fw_b_s (by omega) rfl (by omega) hb2)
        · have h2 : (1 : Int) < μ 4 s := h2
          refine pm_blk hK zmm116 [] 6 8 [(2, 4), (0, N), (0, w), (0, pm_xor x (μ 4 s)), (0, b + 1), (0, s + 1), (9, 0), (9, 0), (9, 0)] [] μ [pm_in (b + 1), pm_in (s + 1)] rfl ⟨pm_in_mk (by omega) (by omega), pm_in_mk (by omega) (by omega), trivial⟩ ?_
          exact ih _ (by omega) rfl ⟨by omega, by omega⟩ ⟨by omega, by omega⟩ (fw_x_s (by omega) rfl rfl hx) (fw_b_s (by omega) rfl (by omega) hb2)
set_option maxRecDepth 100000 in
theorem fw_l3 (hK : zKK ST)  {N w x b s o U V : Int} {μ : pm_Mem} (hT : zTJ φ μ) (hN : 0 ≤ N ∧ N ≤ 12) (hw : 0 ≤ w ∧ w ≤ 1) (hs : 0 ≤ s ∧ s < N) (hg : ∀ j : Int, 0 ≤ j → j < N → 0 ≤ μ 4 j ∧ μ 4 j ≤ 99) (hx : fw_x (μ 4) N.toNat 0 0 = x) (hb : fw_b (μ 4) N.toNat 0 0 = b) (hbb : 0 ≤ b ∧ b ≤ 12) (ho : o = b - if 1 < μ 4 s then 1 else 0) (hV : U ≠ 0 → V = if w = 1 then U else s) (K : U = 0 → zW D Wm ST b0 l Sg zM116 bud (pm_X zM116 (fun st' μ' => μ = μ' ∧ st' = [(0, V)])) 156 [(2, 4), (0, N), (0, w), (0, x), (0, b), (0, s), (9, 0), (9, 0), (9, 0)] [] μ) (hbd : 1 ≤ bud.1 ∧ 30 ≤ bud.2.1) : ∀ (n : Nat) {t : Int}, (100 - t).toNat = n → ∀ (ht : 1 ≤ t ∧ t ≤ 100) (hz : fw_t (μ 4) N s (μ 4 s - t + 1).toNat t = U), zW D Wm ST b0 l Sg zM116 bud (pm_X zM116 (fun st' μ' => μ = μ' ∧ st' = [(0, V)])) 90 [(2, 4), (0, N), (0, w), (0, x), (0, b), (0, s), (0, o), (0, t), (9, 0)] [] μ := by
  intro n
  induction n using Nat.strongRecOn with
  | ind n ih =>
    intro t hn ht hz
    have fg := hg s hs.1 hs.2
    have ho1 : b - 1 ≤ o ∧ o ≤ b := by rw [ho]; split <;> omega
    have f1 := zT_get hT zs4_0 (i := s) (by omega) (by omega)
    refine pm_blk hK zmm116 [] 4 96 [(2, 4), (0, N), (0, w), (0, x), (0, b), (0, s), (0, o), (0, t), (9, 0)] [(0, μ 4 s), (0, t)] μ [0 ≤ s ∧ s < 12] rfl ⟨⟨by omega, by omega⟩, trivial⟩ ?_
    refine pm_icmp hK zmm116 .gt 60 156 rfl rfl (fun h0 => ?_) (fun h0 => ?_)
    · have h0 : μ 4 s < t := h0
      refine pm_hide [6, 7] ?_
      exact K (fw_t_e (by omega) hz)
    · have h0 : t ≤ μ 4 s := h0
      refine pm_blk hK zmm116 [] 15 120 [(2, 4), (0, N), (0, w), (0, x), (0, b), (0, s), (0, o), (0, t), (0, (μ 4 s) - t)] [(0, 1), (0, (μ 4 s) - t), (0, pm_xor (pm_xor x (μ 4 s)) ((μ 4 s) - t))] μ [0 ≤ s ∧ s < 12, pm_in ((μ 4 s) - t), 0 ≤ s ∧ s < 12] rfl ⟨⟨by omega, by omega⟩, pm_in_mk (by omega) (by omega), ⟨by omega, by omega⟩, trivial⟩ ?_
      refine pm_icmp hK zmm116 .le 10 130 rfl rfl (fun h1 => ?_) (fun h1 => ?_)
      · have h1 : (μ 4 s) - t ≤ (1 : Int) := h1
        refine pm_blk hK zmm116 [] 1 132 [(2, 4), (0, N), (0, w), (0, x), (0, b), (0, s), (0, o), (0, t), (0, (μ 4 s) - t)] [(0, o), (0, pm_xor (pm_xor x (μ 4 s)) ((μ 4 s) - t))] μ [] rfl trivial ?_
        refine pm_call hK zmm116 (87, 1, 273, 2) zM273 (0, 0) [(0, pm_xor (pm_xor x (μ 4 s)) ((μ 4 s) - t)), (0, o)] [] rfl rfl rfl rfl ⟨by omega, by rw [zn273]; omega⟩ (fw_loses hK (x := (pm_xor (pm_xor x (μ 4 s)) ((μ 4 s) - t))) (b := o) ⟨Nat.le_refl _, Nat.le_refl _⟩) (fun st1 μc1 hp1 => ?_)
        obtain ⟨rfl, rfl⟩ := hp1
        have hl9 : fw_ll ((pm_xor (pm_xor x (μ 4 s)) ((μ 4 s) - t))) (o) = fw_l (fa_up (μ 4) s (μ 4 s - t)) N := fw_up (v := μ 4 s - t) ⟨by omega, by omega⟩ hx hb (by first | rw [ho, if_pos (show (1 : Int) < μ 4 s - t by omega)] | rw [ho, if_neg (show ¬ (1 : Int) < μ 4 s - t by omega), Int.add_zero])
        refine pm_if hK zmm116 .eq 15 150 rfl rfl (fun h2 => ?_) (fun h2 => ?_)
        · have h2 : fw_ll ((pm_xor (pm_xor x (μ 4 s)) ((μ 4 s) - t))) (o) = (0 : Int) := h2
          refine pm_blk hK zmm116 [] 2 90 [(2, 4), (0, N), (0, w), (0, x), (0, b), (0, s), (0, o), (0, t + 1), (0, (μ 4 s) - t)] [] μ [pm_in (t + 1)] rfl ⟨pm_in_mk (by omega) (by omega), trivial⟩ ?_
          refine pm_hide [8] ?_
          exact ih _ (by omega) rfl ⟨by omega, by omega⟩ (fw_t_n (by omega) (by omega) hz)
        · have h2 : fw_ll ((pm_xor (pm_xor x (μ 4 s)) ((μ 4 s) - t))) (o) ≠ (0 : Int) := h2
          refine pm_blk hK zmm116 [] 1 139 [(2, 4), (0, N), (0, w), (0, x), (0, b), (0, s), (0, o), (0, t), (0, (μ 4 s) - t)] [(0, w)] μ [] rfl trivial ?_
          refine pm_if hK zmm116 .eq 8 147 rfl rfl (fun h3 => ?_) (fun h3 => ?_)
          · have h3 : w = (0 : Int) := h3
            refine pm_blk hK zmm116 [] 1 149 [(2, 4), (0, N), (0, w), (0, x), (0, b), (0, s), (0, o), (0, t), (0, (μ 4 s) - t)] [(0, s)] μ [] rfl trivial ?_
            have hU := fw_t_y (g := μ 4) (by omega) (by omega) hz
            have hV2 := hV (by omega)
            first
            | exact pm_iret rfl rfl ⟨rfl, by rw [hV2, if_pos (by omega), hU]⟩
            | exact pm_iret rfl rfl ⟨rfl, by rw [hV2, if_neg (by omega)]⟩
            | (exfalso; omega)
          · have h3 : w ≠ (0 : Int) := h3
            refine pm_blk hK zmm116 [] 2 149 [(2, 4), (0, N), (0, w), (0, x), (0, b), (0, s), (0, o), (0, t), (0, (μ 4 s) - t)] [(0, t)] μ [] rfl trivial ?_
            have hU := fw_t_y (g := μ 4) (by omega) (by omega) hz
            have hV2 := hV (by omega)
            first
            | exact pm_iret rfl rfl ⟨rfl, by rw [hV2, if_pos (by omega), hU]⟩
            | exact pm_iret rfl rfl ⟨rfl, by rw [hV2, if_neg (by omega)]⟩
            | (exfalso; omega)
      · have h1 : (1 : Int) < (μ 4 s) - t := h1
        refine pm_blk hK zmm116 [] 4 132 [(2, 4), (0, N), (0, w), (0, x), (0, b), (0, s), (0, o), (0, t), (0, (μ 4 s) - t)] [(0, o + 1), (0, pm_xor (pm_xor x (μ 4 s)) ((μ 4 s) - t))] μ [pm_in (o + 1)] rfl ⟨pm_in_mk (by omega) (by omega), trivial⟩ ?_
        refine pm_call hK zmm116 (87, 1, 273, 2) zM273 (0, 0) [(0, pm_xor (pm_xor x (μ 4 s)) ((μ 4 s) - t)), (0, o + 1)] [] rfl rfl rfl rfl ⟨by omega, by rw [zn273]; omega⟩ (fw_loses hK (x := (pm_xor (pm_xor x (μ 4 s)) ((μ 4 s) - t))) (b := (o + 1)) ⟨Nat.le_refl _, Nat.le_refl _⟩) (fun st2 μc2 hp2 => ?_)
        obtain ⟨rfl, rfl⟩ := hp2
        have hl9 : fw_ll ((pm_xor (pm_xor x (μ 4 s)) ((μ 4 s) - t))) ((o + 1)) = fw_l (fa_up (μ 4) s (μ 4 s - t)) N := fw_up (v := μ 4 s - t) ⟨by omega, by omega⟩ hx hb (by first | rw [ho, if_pos (show (1 : Int) < μ 4 s - t by omega)] | rw [ho, if_neg (show ¬ (1 : Int) < μ 4 s - t by omega), Int.add_zero])
        refine pm_if hK zmm116 .eq 15 150 rfl rfl (fun h4 => ?_) (fun h4 => ?_)
        · have h4 : fw_ll ((pm_xor (pm_xor x (μ 4 s)) ((μ 4 s) - t))) ((o + 1)) = (0 : Int) := h4
          refine pm_blk hK zmm116 [] 2 90 [(2, 4), (0, N), (0, w), (0, x), (0, b), (0, s), (0, o), (0, t + 1), (0, (μ 4 s) - t)] [] μ [pm_in (t + 1)] rfl ⟨pm_in_mk (by omega) (by omega), trivial⟩ ?_
          refine pm_hide [8] ?_
          exact ih _ (by omega) rfl ⟨by omega, by omega⟩ (fw_t_n (by omega) (by omega) hz)
        · have h4 : fw_ll ((pm_xor (pm_xor x (μ 4 s)) ((μ 4 s) - t))) ((o + 1)) ≠ (0 : Int) := h4
          refine pm_blk hK zmm116 [] 1 139 [(2, 4), (0, N), (0, w), (0, x), (0, b), (0, s), (0, o), (0, t), (0, (μ 4 s) - t)] [(0, w)] μ [] rfl trivial ?_
          refine pm_if hK zmm116 .eq 8 147 rfl rfl (fun h5 => ?_) (fun h5 => ?_)
          · have h5 : w = (0 : Int) := h5
            refine pm_blk hK zmm116 [] 1 149 [(2, 4), (0, N), (0, w), (0, x), (0, b), (0, s), (0, o), (0, t), (0, (μ 4 s) - t)] [(0, s)] μ [] rfl trivial ?_
            have hU := fw_t_y (g := μ 4) (by omega) (by omega) hz
            have hV2 := hV (by omega)
            first
            | exact pm_iret rfl rfl ⟨rfl, by rw [hV2, if_pos (by omega), hU]⟩
            | exact pm_iret rfl rfl ⟨rfl, by rw [hV2, if_neg (by omega)]⟩
            | (exfalso; omega)
          · have h5 : w ≠ (0 : Int) := h5
            refine pm_blk hK zmm116 [] 2 149 [(2, 4), (0, N), (0, w), (0, x), (0, b), (0, s), (0, o), (0, t), (0, (μ 4 s) - t)] [(0, t)] μ [] rfl trivial ?_
            have hU := fw_t_y (g := μ 4) (by omega) (by omega) hz
            have hV2 := hV (by omega)
            first
            | exact pm_iret rfl rfl ⟨rfl, by rw [hV2, if_pos (by omega), hU]⟩
            | exact pm_iret rfl rfl ⟨rfl, by rw [hV2, if_neg (by omega)]⟩
            | (exfalso; omega)
set_option maxRecDepth 100000 in
theorem fw_l2 (hK : zKK ST)  {N w x b V : Int} {T : Int × Int} {μ : pm_Mem} (hT : zTJ φ μ) (hN : 0 ≤ N ∧ N ≤ 12) (hw : 0 ≤ w ∧ w ≤ 1) (hg : ∀ j : Int, 0 ≤ j → j < N → 0 ≤ μ 4 j ∧ μ 4 j ≤ 99) (hx : fw_x (μ 4) N.toNat 0 0 = x) (hb : fw_b (μ 4) N.toNat 0 0 = b) (hbb : 0 ≤ b ∧ b ≤ 12) (hV : V = (if w = 1 then T.2 else T.1)) (hbd : 1 ≤ bud.1 ∧ 30 ≤ bud.2.1) : ∀ (n : Nat) {s : Int}, (N - s).toNat = n → ∀ (hs : 0 ≤ s ∧ s ≤ N) (hz : fw_s (μ 4) N (N - s).toNat s = T), zW D Wm ST b0 l Sg zM116 bud (pm_X zM116 (fun st' μ' => μ = μ' ∧ st' = [(0, V)])) 55 [(2, 4), (0, N), (0, w), (0, x), (0, b), (0, s), (9, 0), (9, 0), (9, 0)] [] μ := by
  intro n
  induction n using Nat.strongRecOn with
  | ind n ih =>
    intro s hn hs hz
    refine pm_blk hK zmm116 [] 2 58 [(2, 4), (0, N), (0, w), (0, x), (0, b), (0, s), (9, 0), (9, 0), (9, 0)] [(0, N), (0, s)] μ [] rfl trivial ?_
    refine pm_icmp hK zmm116 .ge 104 162 rfl rfl (fun h0 => ?_) (fun h0 => ?_)
    · have h0 : N ≤ s := h0
      refine pm_blk hK zmm116 [] 1 163 [(2, 4), (0, N), (0, w), (0, x), (0, b), (0, s), (9, 0), (9, 0), (9, 0)] [(0, (-1))] μ [] rfl trivial ?_
      first
      | (have eT := fw_s_e (by omega) hz; exact pm_iret rfl rfl ⟨rfl, by rw [hV, eT, ite_self]⟩)
      | (exfalso; omega)
    · have h0 : s < N := h0
      refine pm_blk hK zmm116 [] 3 65 [(2, 4), (0, N), (0, w), (0, x), (0, b), (0, s), (9, 0), (9, 0), (9, 0)] [(0, 12), (0, s)] μ [] rfl trivial ?_
      refine pm_icmp hK zmm116 .ge 97 162 rfl rfl (fun h1 => ?_) (fun h1 => ?_)
      · have h1 : (12 : Int) ≤ s := h1
        refine pm_blk hK zmm116 [] 1 163 [(2, 4), (0, N), (0, w), (0, x), (0, b), (0, s), (9, 0), (9, 0), (9, 0)] [(0, (-1))] μ [] rfl trivial ?_
        first
        | (have eT := fw_s_e (by omega) hz; exact pm_iret rfl rfl ⟨rfl, by rw [hV, eT, ite_self]⟩)
        | (exfalso; omega)
      · have h1 : s < (12 : Int) := h1
        have f1 := zT_get hT zs4_0 (i := s) (by omega) (by omega)
        refine pm_blk hK zmm116 [] 4 73 [(2, 4), (0, N), (0, w), (0, x), (0, b), (0, s), (9, 0), (9, 0), (9, 0)] [(0, 1), (0, μ 4 s)] μ [0 ≤ s ∧ s < 12] rfl ⟨⟨by omega, by omega⟩, trivial⟩ ?_
        refine pm_icmp hK zmm116 .le 10 83 rfl rfl (fun h2 => ?_) (fun h2 => ?_)
        · have h2 : μ 4 s ≤ (1 : Int) := h2
          refine pm_blk hK zmm116 [] 4 90 [(2, 4), (0, N), (0, w), (0, x), (0, b), (0, s), (0, b), (0, 1), (9, 0)] [] μ [] rfl trivial ?_
          have fg := hg s hs.1 (by omega)
          refine fw_l3 hK (U := fw_t (μ 4) N s (μ 4 s).toNat 1) (V := V) hT hN hw ⟨by omega, by omega⟩ hg hx hb hbb ?_ (fun hU => ?_) (fun hU => ?_) hbd _ rfl ⟨by omega, by omega⟩ (by rw [show μ 4 s - 1 + 1 = μ 4 s by omega])
          · first | rw [if_pos (by omega)] | rw [if_neg (by omega), Int.sub_zero]
          · rw [hV, fw_s_y (by omega) rfl hU hz]
          · refine pm_blk hK zmm116 [] 2 55 [(2, 4), (0, N), (0, w), (0, x), (0, b), (0, s + 1), (9, 0), (9, 0), (9, 0)] [] μ [pm_in (s + 1)] rfl ⟨pm_in_mk (by omega) (by omega), trivial⟩ ?_
            exact ih _ (by omega) rfl ⟨by omega, by omega⟩ (fw_s_n (by omega) hU hz)
        · have h2 : (1 : Int) < μ 4 s := h2
          refine pm_blk hK zmm116 [] 7 90 [(2, 4), (0, N), (0, w), (0, x), (0, b), (0, s), (0, b - 1), (0, 1), (9, 0)] [] μ [pm_in (b - 1)] rfl ⟨pm_in_mk (by omega) (by omega), trivial⟩ ?_
          have fg := hg s hs.1 (by omega)
          refine fw_l3 hK (U := fw_t (μ 4) N s (μ 4 s).toNat 1) (V := V) hT hN hw ⟨by omega, by omega⟩ hg hx hb hbb ?_ (fun hU => ?_) (fun hU => ?_) hbd _ rfl ⟨by omega, by omega⟩ (by rw [show μ 4 s - 1 + 1 = μ 4 s by omega])
          · first | rw [if_pos (by omega)] | rw [if_neg (by omega), Int.sub_zero]
          · rw [hV, fw_s_y (by omega) rfl hU hz]
          · refine pm_blk hK zmm116 [] 2 55 [(2, 4), (0, N), (0, w), (0, x), (0, b), (0, s + 1), (9, 0), (9, 0), (9, 0)] [] μ [pm_in (s + 1)] rfl ⟨pm_in_mk (by omega) (by omega), trivial⟩ ?_
            exact ih _ (by omega) rfl ⟨by omega, by omega⟩ (fw_s_n (by omega) hU hz)
set_option maxRecDepth 100000 in
theorem fw_good (hK : zKK ST) {N w : Int} (hT : zTJ φ μ) (hN : 0 ≤ N ∧ N ≤ 12) (hw : 0 ≤ w ∧ w ≤ 1) (hg : ∀ j : Int, 0 ≤ j → j < N → 0 ≤ μ 4 j ∧ μ 4 j ≤ 99) (hbd : 1 ≤ bud.1 ∧ 30 ≤ bud.2.1) : zC D Wm ST b0 l Sg zM116 bud [(2, 4), (0, N), (0, w)] μ (fun st' μ' => μ = μ' ∧ st' = [(0, if w = 1 then (fw_s (μ 4) N N.toNat 0).2 else (fw_s (μ 4) N N.toNat 0).1)]) := by
  refine pm_blk hK zmm116 [] 6 8 [(2, 4), (0, N), (0, w), (0, 0), (0, 0), (0, 0), (9, 0), (9, 0), (9, 0)] [] μ [] rfl trivial ?_
  refine fw_l1 hK (X0 := fw_x (μ 4) N.toNat 0 0) (B0 := fw_b (μ 4) N.toNat 0 0) hT hN (fun hB => ?_) hbd _ rfl ⟨by omega, by omega⟩ ⟨by omega, by omega⟩ (by rw [Int.sub_zero]) (by rw [Int.sub_zero])
  refine pm_blk hK zmm116 [] 2 55 [(2, 4), (0, N), (0, w), (0, fw_x (μ 4) N.toNat 0 0), (0, fw_b (μ 4) N.toNat 0 0), (0, 0), (9, 0), (9, 0), (9, 0)] [] μ [] rfl trivial ?_
  exact fw_l2 hK (T := fw_s (μ 4) N N.toNat 0) hT hN hw hg rfl rfl hB rfl hbd _ rfl ⟨by omega, by omega⟩ (by rw [Int.sub_zero])
set_option maxRecDepth 100000 in
theorem fw_gamex (hK : zKK ST) {w : Int} (hT : zTJ φ μ) (hg : ∀ j : Int, 0 ≤ j → j < μ 3 0 → 0 ≤ μ 4 j ∧ μ 4 j ≤ 99) (hbd : 2 ≤ bud.1 ∧ 60 ≤ bud.2.1) : zC D Wm ST b0 l Sg zM115 bud [(2, 1), (0, w)] μ (fun st' μ' => μ = μ' ∧ st' = [(0, fw_gm (μ 4) (μ 3 0) w)]) := by
  have f0 := zT_get hT zs3_0 (i := 0) (by omega) (by omega)
  refine pm_blk hK zmm115 [] 3 3 [(2, 1), (0, w)] [(0, 1), (0, 0), (0, w)] μ [] rfl trivial ?_
  refine pm_call hK zmm115 (94, 1, 16, 3) zM16 (0, 0) [(0, w), (0, 0), (0, 1)] [] rfl rfl rfl rfl ⟨by omega, by rw [zn16]; omega⟩ (zh_within hK ⟨Nat.le_refl _, Nat.le_refl _⟩) (fun st1 μc1 hp1 => ?_)
  obtain ⟨rfl, rfl⟩ := hp1
  refine pm_if hK zmm115 .ne 5 11 rfl rfl (fun h0 => ?_) (fun h0 => ?_)
  · have h0 : (if 0 ≤ w ∧ w ≤ 1 then 1 else 0 : Int) ≠ (0 : Int) := h0
    have h0 := zif1 h0
    have f1 := zT_get hT zs3_0 (i := 0) (by omega) (by omega)
    refine pm_blk hK zmm115 [] 10 33 [(2, 1), (0, w)] [(0, 1), (0, w), (0, μ 3 0), (2, 4)] μ [] rfl trivial ?_
    refine pm_icmp hK zmm115 .ne 7 40 rfl rfl (fun h1 => ?_) (fun h1 => ?_)
    · have h1 : w ≠ (1 : Int) := h1
      refine pm_blk hK zmm115 [] 1 41 [(2, 1), (0, w)] [(0, 0), (0, μ 3 0), (2, 4)] μ [] rfl trivial ?_
      refine pm_call hK zmm115 (400, 1, 116, 3) zM116 (1, 30) [(2, 4), (0, μ 3 0), (0, 0)] [] rfl rfl rfl rfl ⟨by omega, by rw [zn116]; omega⟩ (fw_good hK (N := (μ 3 0)) (w := 0) hT ⟨by omega, by omega⟩ ⟨by omega, by omega⟩ hg ⟨Nat.le_refl _, Nat.le_refl _⟩) (fun st2 μc2 hp2 => ?_)
      obtain ⟨rfl, rfl⟩ := hp2
      first
      | (exact pm_iret rfl rfl ⟨rfl, by rw [fw_gm_o (by omega)]⟩)
      | (have w1 : w = 1 := (by omega); subst w1; exact pm_iret rfl rfl ⟨rfl, by rw [fw_gm_1, if_pos rfl]⟩)
      | (have w0 : w = 0 := (by omega); subst w0; exact pm_iret rfl rfl ⟨rfl, by rw [fw_gm_0, if_neg (by decide)]⟩)
      | (exfalso; omega)
    · have h1 : w = (1 : Int) := h1
      refine pm_blk hK zmm115 [] 2 41 [(2, 1), (0, w)] [(0, 1), (0, μ 3 0), (2, 4)] μ [] rfl trivial ?_
      refine pm_call hK zmm115 (400, 1, 116, 3) zM116 (1, 30) [(2, 4), (0, μ 3 0), (0, 1)] [] rfl rfl rfl rfl ⟨by omega, by rw [zn116]; omega⟩ (fw_good hK (N := (μ 3 0)) (w := 1) hT ⟨by omega, by omega⟩ ⟨by omega, by omega⟩ hg ⟨Nat.le_refl _, Nat.le_refl _⟩) (fun st3 μc3 hp3 => ?_)
      obtain ⟨rfl, rfl⟩ := hp3
      first
      | (exact pm_iret rfl rfl ⟨rfl, by rw [fw_gm_o (by omega)]⟩)
      | (have w1 : w = 1 := (by omega); subst w1; exact pm_iret rfl rfl ⟨rfl, by rw [fw_gm_1, if_pos rfl]⟩)
      | (have w0 : w = 0 := (by omega); subst w0; exact pm_iret rfl rfl ⟨rfl, by rw [fw_gm_0, if_neg (by decide)]⟩)
      | (exfalso; omega)
  · have h0 : (if 0 ≤ w ∧ w ≤ 1 then 1 else 0 : Int) = (0 : Int) := h0
    have h0 := zif0 h0
    refine pm_blk hK zmm115 [] 1 10 [(2, 1), (0, w)] [(0, (-1))] μ [] rfl trivial ?_
    first
    | (exact pm_iret rfl rfl ⟨rfl, by rw [fw_gm_o (by omega)]⟩)
    | (have w1 : w = 1 := (by omega); subst w1; exact pm_iret rfl rfl ⟨rfl, by rw [fw_gm_1, if_pos rfl]⟩)
    | (have w0 : w = 0 := (by omega); subst w0; exact pm_iret rfl rfl ⟨rfl, by rw [fw_gm_0, if_neg (by decide)]⟩)
    | (exfalso; omega)
set_option maxRecDepth 100000 in
theorem fw_r1 (hK : zKK ST)  {p v X0 O0 M0 : Int} {μ : pm_Mem} (hT : zTJ φ μ) (hv : 0 ≤ v ∧ v ≤ 99) (hg : ∀ j : Int, 0 ≤ j → j < μ 205 6 → 0 ≤ μ 206 (4 + j) ∧ μ 206 (4 + j) ≤ 99) (hbd : 1 ≤ bud.1 ∧ 30 ≤ bud.2.1) : ∀ (n : Nat) {x o m s : Int}, (μ 205 6 - s).toNat = n → ∀ (hs : 0 ≤ s ∧ s ≤ μ 205 6) (ho : 0 ≤ o ∧ o ≤ s) (hm : 0 ≤ m ∧ m ≤ 99) (hx : fw_x (fa_up (fun i => μ 206 (4 + i)) p v) (μ 205 6 - s).toNat s x = X0) (ho2 : fw_o (fa_up (fun i => μ 206 (4 + i)) p v) (μ 205 6 - s).toNat s o = O0) (hm2 : fw_m (fa_up (fun i => μ 206 (4 + i)) p v) (μ 205 6 - s).toNat s m = M0), zW D Wm ST b0 l Sg zM324 bud (pm_X zM324 (fun st' μ' => μ = μ' ∧ st' = [(0, fw_rl X0 O0 M0)])) 11 [(2, 205), (0, p), (0, v), (0, x), (0, o), (0, m), (0, s), (9, 0)] [] μ := by
  intro n
  induction n using Nat.strongRecOn with
  | ind n ih =>
    intro x o m s hn hs ho hm hx ho2 hm2
    have fn := zT_get hT zs205_6 (i := 6) (by omega) (by omega)
    have gs := hg s
    have f1 := zT_get hT zs205_6 (i := 6) (by omega) (by omega)
    refine pm_blk hK zmm324 [] 3 17 [(2, 205), (0, p), (0, v), (0, x), (0, o), (0, m), (0, s), (9, 0)] [(0, μ 205 6), (0, s)] μ [] rfl trivial ?_
    refine pm_icmp hK zmm324 .ge 61 78 rfl rfl (fun h0 => ?_) (fun h0 => ?_)
    · have h0 : μ 205 6 ≤ s := h0
      refine pm_blk hK zmm324 [] 2 81 [(2, 205), (0, p), (0, v), (0, x), (0, o), (0, m), (0, s), (9, 0)] [(0, 1), (0, m)] μ [] rfl trivial ?_
      refine pm_icmp hK zmm324 .le 15 96 rfl rfl (fun h1 => ?_) (fun h1 => ?_)
      · have h1 : m ≤ (1 : Int) := h1
        have hm9 : Int.tmod o 2 = o % 2 := Int.tmod_eq_emod_of_nonneg (by omega)
        refine pm_blk hK zmm324 [] 4 101 [(2, 205), (0, p), (0, v), (0, x), (0, o), (0, m), (0, s), (9, 0)] [(0, 1), (0, Int.tmod o 2)] μ [2 ≠ 0] rfl ⟨by omega, trivial⟩ ?_
        refine pm_icmp hK zmm324 .ne 7 108 rfl rfl (fun h2 => ?_) (fun h2 => ?_)
        · have h2 : Int.tmod o 2 ≠ (1 : Int) := h2
          refine pm_blk hK zmm324 [] 1 109 [(2, 205), (0, p), (0, v), (0, x), (0, o), (0, m), (0, s), (9, 0)] [(0, 0)] μ [] rfl trivial ?_
          have e1 := fw_x_e (by omega) hx
          have e2 := fw_o_e (by omega) ho2
          have e3 := fw_m_e (by omega) hm2
          subst e1; subst e2; subst e3
          first
          | exact pm_zret rfl rfl (by first | exact Or.inl rfl | exact Or.inr rfl | omega) ⟨rfl, by rw [fw_rl_1 (by omega) (by omega)]⟩
          | exact pm_zret rfl rfl (by first | exact Or.inl rfl | exact Or.inr rfl | omega) ⟨rfl, by rw [fw_rl_2 (by omega) (by omega)]⟩
          | exact pm_zret rfl rfl (by first | exact Or.inl rfl | exact Or.inr rfl | omega) ⟨rfl, by rw [fw_rl_3 (by omega) (by omega)]⟩
          | exact pm_zret rfl rfl (by first | exact Or.inl rfl | exact Or.inr rfl | omega) ⟨rfl, by rw [fw_rl_4 (by omega) (by omega)]⟩
          | (exfalso; omega)
        · have h2 : Int.tmod o 2 = (1 : Int) := h2
          refine pm_blk hK zmm324 [] 2 109 [(2, 205), (0, p), (0, v), (0, x), (0, o), (0, m), (0, s), (9, 0)] [(0, 1)] μ [] rfl trivial ?_
          have e1 := fw_x_e (by omega) hx
          have e2 := fw_o_e (by omega) ho2
          have e3 := fw_m_e (by omega) hm2
          subst e1; subst e2; subst e3
          first
          | exact pm_zret rfl rfl (by first | exact Or.inl rfl | exact Or.inr rfl | omega) ⟨rfl, by rw [fw_rl_1 (by omega) (by omega)]⟩
          | exact pm_zret rfl rfl (by first | exact Or.inl rfl | exact Or.inr rfl | omega) ⟨rfl, by rw [fw_rl_2 (by omega) (by omega)]⟩
          | exact pm_zret rfl rfl (by first | exact Or.inl rfl | exact Or.inr rfl | omega) ⟨rfl, by rw [fw_rl_3 (by omega) (by omega)]⟩
          | exact pm_zret rfl rfl (by first | exact Or.inl rfl | exact Or.inr rfl | omega) ⟨rfl, by rw [fw_rl_4 (by omega) (by omega)]⟩
          | (exfalso; omega)
      · have h1 : (1 : Int) < m := h1
        refine pm_blk hK zmm324 [] 1 85 [(2, 205), (0, p), (0, v), (0, x), (0, o), (0, m), (0, s), (9, 0)] [(0, x)] μ [] rfl trivial ?_
        refine pm_if hK zmm324 .ne 7 92 rfl rfl (fun h3 => ?_) (fun h3 => ?_)
        · have h3 : x ≠ (0 : Int) := h3
          refine pm_blk hK zmm324 [] 2 109 [(2, 205), (0, p), (0, v), (0, x), (0, o), (0, m), (0, s), (9, 0)] [(0, 0)] μ [] rfl trivial ?_
          have e1 := fw_x_e (by omega) hx
          have e2 := fw_o_e (by omega) ho2
          have e3 := fw_m_e (by omega) hm2
          subst e1; subst e2; subst e3
          first
          | exact pm_zret rfl rfl (by first | exact Or.inl rfl | exact Or.inr rfl | omega) ⟨rfl, by rw [fw_rl_1 (by omega) (by omega)]⟩
          | exact pm_zret rfl rfl (by first | exact Or.inl rfl | exact Or.inr rfl | omega) ⟨rfl, by rw [fw_rl_2 (by omega) (by omega)]⟩
          | exact pm_zret rfl rfl (by first | exact Or.inl rfl | exact Or.inr rfl | omega) ⟨rfl, by rw [fw_rl_3 (by omega) (by omega)]⟩
          | exact pm_zret rfl rfl (by first | exact Or.inl rfl | exact Or.inr rfl | omega) ⟨rfl, by rw [fw_rl_4 (by omega) (by omega)]⟩
          | (exfalso; omega)
        · have h3 : x = (0 : Int) := h3
          refine pm_blk hK zmm324 [] 2 109 [(2, 205), (0, p), (0, v), (0, x), (0, o), (0, m), (0, s), (9, 0)] [(0, 1)] μ [] rfl trivial ?_
          have e1 := fw_x_e (by omega) hx
          have e2 := fw_o_e (by omega) ho2
          have e3 := fw_m_e (by omega) hm2
          subst e1; subst e2; subst e3
          first
          | exact pm_zret rfl rfl (by first | exact Or.inl rfl | exact Or.inr rfl | omega) ⟨rfl, by rw [fw_rl_1 (by omega) (by omega)]⟩
          | exact pm_zret rfl rfl (by first | exact Or.inl rfl | exact Or.inr rfl | omega) ⟨rfl, by rw [fw_rl_2 (by omega) (by omega)]⟩
          | exact pm_zret rfl rfl (by first | exact Or.inl rfl | exact Or.inr rfl | omega) ⟨rfl, by rw [fw_rl_3 (by omega) (by omega)]⟩
          | exact pm_zret rfl rfl (by first | exact Or.inl rfl | exact Or.inr rfl | omega) ⟨rfl, by rw [fw_rl_4 (by omega) (by omega)]⟩
          | (exfalso; omega)
    · have h0 : s < μ 205 6 := h0
      refine pm_blk hK zmm324 [] 2 23 [(2, 205), (0, p), (0, v), (0, x), (0, o), (0, m), (0, s), (9, 0)] [(0, p), (0, s)] μ [] rfl trivial ?_
      refine pm_icmp hK zmm324 .ne 7 30 rfl rfl (fun h4 => ?_) (fun h4 => ?_)
      · have h4 : s ≠ p := h4
        have f2 := zT_get hT zs206_4 (i := 4 + s) (by omega) (by omega)
        refine pm_blk hK zmm324 [] 14 51 [(2, 205), (0, p), (0, v), (0, pm_xor x (μ 206 (4 + s))), (0, o), (0, m), (0, s), (0, μ 206 (4 + s))] [(0, 1), (0, μ 206 (4 + s)), (0, o)] μ [pm_in (4 + s), 0 ≤ 4 + s ∧ 4 + s < 160] rfl ⟨pm_in_mk (by omega) (by omega), ⟨by omega, by omega⟩, trivial⟩ ?_
        refine pm_icmp hK zmm324 .ne 7 58 rfl rfl (fun h5 => ?_) (fun h5 => ?_)
        · have h5 : μ 206 (4 + s) ≠ (1 : Int) := h5
          refine pm_blk hK zmm324 [] 6 67 [(2, 205), (0, p), (0, v), (0, pm_xor x (μ 206 (4 + s))), (0, o + 0), (0, m), (0, s), (0, μ 206 (4 + s))] [(0, μ 206 (4 + s)), (0, m), (2, 205)] μ [pm_in (o + 0)] rfl ⟨pm_in_mk (by omega) (by omega), trivial⟩ ?_
          refine pm_call hK zmm324 (448, 0, 176, 2) zM176 (0, 0) [(2, 205), (0, m), (0, μ 206 (4 + s))] [] rfl rfl rfl rfl ⟨by omega, by rw [zn176]; omega⟩ (zh_greater hK ⟨by omega, by omega⟩) (fun st1 μc1 hp1 => ?_)
          obtain ⟨rfl, rfl⟩ := hp1
          refine pm_blk hK zmm324 [] 3 11 [(2, 205), (0, p), (0, v), (0, pm_xor x (μ 206 (4 + s))), (0, o + 0), (0, max m (μ 206 (4 + s))), (0, s + 1), (0, μ 206 (4 + s))] [] μ [pm_in (s + 1)] rfl ⟨pm_in_mk (by omega) (by omega), trivial⟩ ?_
          refine pm_hide [7] ?_
          have e9 : (fa_up (fun i => μ 206 (4 + i)) p v) s = (μ 206 (4 + s)) := by first | (rw [show s = p by omega]; exact fa_up_eq) | exact fa_up_ne (by omega)
          exact ih _ (by omega) rfl ⟨by omega, by omega⟩ ⟨by omega, by omega⟩ ⟨by omega, by omega⟩ (fw_x_s (by omega) e9 rfl hx) (fw_o_s (by omega) e9 (by omega) ho2) (fw_m_s (by omega) e9 rfl hm2)
        · have h5 : μ 206 (4 + s) = (1 : Int) := h5
          refine pm_blk hK zmm324 [] 7 67 [(2, 205), (0, p), (0, v), (0, pm_xor x (μ 206 (4 + s))), (0, o + 1), (0, m), (0, s), (0, μ 206 (4 + s))] [(0, μ 206 (4 + s)), (0, m), (2, 205)] μ [pm_in (o + 1)] rfl ⟨pm_in_mk (by omega) (by omega), trivial⟩ ?_
          refine pm_call hK zmm324 (448, 0, 176, 2) zM176 (0, 0) [(2, 205), (0, m), (0, μ 206 (4 + s))] [] rfl rfl rfl rfl ⟨by omega, by rw [zn176]; omega⟩ (zh_greater hK ⟨by omega, by omega⟩) (fun st2 μc2 hp2 => ?_)
          obtain ⟨rfl, rfl⟩ := hp2
          refine pm_blk hK zmm324 [] 3 11 [(2, 205), (0, p), (0, v), (0, pm_xor x (μ 206 (4 + s))), (0, o + 1), (0, max m (μ 206 (4 + s))), (0, s + 1), (0, μ 206 (4 + s))] [] μ [pm_in (s + 1)] rfl ⟨pm_in_mk (by omega) (by omega), trivial⟩ ?_
          refine pm_hide [7] ?_
          have e9 : (fa_up (fun i => μ 206 (4 + i)) p v) s = (μ 206 (4 + s)) := by first | (rw [show s = p by omega]; exact fa_up_eq) | exact fa_up_ne (by omega)
          exact ih _ (by omega) rfl ⟨by omega, by omega⟩ ⟨by omega, by omega⟩ ⟨by omega, by omega⟩ (fw_x_s (by omega) e9 rfl hx) (fw_o_s (by omega) e9 (by omega) ho2) (fw_m_s (by omega) e9 rfl hm2)
      · have h4 : s = p := h4
        refine pm_blk hK zmm324 [] 10 51 [(2, 205), (0, p), (0, v), (0, pm_xor x v), (0, o), (0, m), (0, s), (0, v)] [(0, 1), (0, v), (0, o)] μ [] rfl trivial ?_
        refine pm_icmp hK zmm324 .ne 7 58 rfl rfl (fun h6 => ?_) (fun h6 => ?_)
        · have h6 : v ≠ (1 : Int) := h6
          refine pm_blk hK zmm324 [] 6 67 [(2, 205), (0, p), (0, v), (0, pm_xor x v), (0, o + 0), (0, m), (0, s), (0, v)] [(0, v), (0, m), (2, 205)] μ [pm_in (o + 0)] rfl ⟨pm_in_mk (by omega) (by omega), trivial⟩ ?_
          refine pm_call hK zmm324 (448, 0, 176, 2) zM176 (0, 0) [(2, 205), (0, m), (0, v)] [] rfl rfl rfl rfl ⟨by omega, by rw [zn176]; omega⟩ (zh_greater hK ⟨by omega, by omega⟩) (fun st3 μc3 hp3 => ?_)
          obtain ⟨rfl, rfl⟩ := hp3
          refine pm_blk hK zmm324 [] 3 11 [(2, 205), (0, p), (0, v), (0, pm_xor x v), (0, o + 0), (0, max m v), (0, s + 1), (0, v)] [] μ [pm_in (s + 1)] rfl ⟨pm_in_mk (by omega) (by omega), trivial⟩ ?_
          refine pm_hide [7] ?_
          have e9 : (fa_up (fun i => μ 206 (4 + i)) p v) s = v := by first | (rw [show s = p by omega]; exact fa_up_eq) | exact fa_up_ne (by omega)
          exact ih _ (by omega) rfl ⟨by omega, by omega⟩ ⟨by omega, by omega⟩ ⟨by omega, by omega⟩ (fw_x_s (by omega) e9 rfl hx) (fw_o_s (by omega) e9 (by omega) ho2) (fw_m_s (by omega) e9 rfl hm2)
        · have h6 : v = (1 : Int) := h6
          refine pm_blk hK zmm324 [] 7 67 [(2, 205), (0, p), (0, v), (0, pm_xor x v), (0, o + 1), (0, m), (0, s), (0, v)] [(0, v), (0, m), (2, 205)] μ [pm_in (o + 1)] rfl ⟨pm_in_mk (by omega) (by omega), trivial⟩ ?_
          refine pm_call hK zmm324 (448, 0, 176, 2) zM176 (0, 0) [(2, 205), (0, m), (0, v)] [] rfl rfl rfl rfl ⟨by omega, by rw [zn176]; omega⟩ (zh_greater hK ⟨by omega, by omega⟩) (fun st4 μc4 hp4 => ?_)
          obtain ⟨rfl, rfl⟩ := hp4
          refine pm_blk hK zmm324 [] 3 11 [(2, 205), (0, p), (0, v), (0, pm_xor x v), (0, o + 1), (0, max m v), (0, s + 1), (0, v)] [] μ [pm_in (s + 1)] rfl ⟨pm_in_mk (by omega) (by omega), trivial⟩ ?_
          refine pm_hide [7] ?_
          have e9 : (fa_up (fun i => μ 206 (4 + i)) p v) s = v := by first | (rw [show s = p by omega]; exact fa_up_eq) | exact fa_up_ne (by omega)
          exact ih _ (by omega) rfl ⟨by omega, by omega⟩ ⟨by omega, by omega⟩ ⟨by omega, by omega⟩ (fw_x_s (by omega) e9 rfl hx) (fw_o_s (by omega) e9 (by omega) ho2) (fw_m_s (by omega) e9 rfl hm2)
set_option maxRecDepth 100000 in
theorem fw_isLost (hK : zKK ST) {p v : Int} (hT : zTJ φ μ) (hv : 0 ≤ v ∧ v ≤ 99) (hg : ∀ j : Int, 0 ≤ j → j < μ 205 6 → 0 ≤ μ 206 (4 + j) ∧ μ 206 (4 + j) ≤ 99) (hbd : 1 ≤ bud.1 ∧ 30 ≤ bud.2.1) : zC D Wm ST b0 l Sg zM324 bud [(2, 205), (0, p), (0, v)] μ (fun st' μ' => μ = μ' ∧ st' = [(0, fw_l (fa_up (fun i => μ 206 (4 + i)) p v) (μ 205 6))]) := by
  have fn := zT_get hT zs205_6 (i := 6) (by omega) (by omega)
  refine pm_blk hK zmm324 [] 8 11 [(2, 205), (0, p), (0, v), (0, 0), (0, 0), (0, 0), (0, 0), (9, 0)] [] μ [] rfl trivial ?_
  have hg9 : ∀ j : Int, 0 ≤ j → j < μ 205 6 → 0 ≤ (fa_up (fun i => μ 206 (4 + i)) p v) j := fun j j0 j1 => by
    by_cases hj : j = p
    · rw [hj, fa_up_eq]; exact hv.1
    · rw [fa_up_ne hj]; exact (hg j j0 j1).1
  rw [← fw_same hg9 rfl rfl rfl]
  exact fw_r1 hK hT hv hg hbd _ rfl ⟨by omega, by omega⟩ ⟨by omega, by omega⟩ ⟨by omega, by omega⟩ (by rw [Int.sub_zero]) (by rw [Int.sub_zero]) (by rw [Int.sub_zero])
set_option maxRecDepth 100000 in
theorem fw_r3 (hK : zKK ST)  {w s U V : Int} {μ0 μ : pm_Mem} (hT : zTJ φ μ) (hw : 0 ≤ w ∧ w ≤ 1) (hs : 0 ≤ s ∧ s < μ 205 6) (hg : ∀ j : Int, 0 ≤ j → j < μ 205 6 → 0 ≤ μ 206 (4 + j) ∧ μ 206 (4 + j) ≤ 99) (c6 : ∀ k : Int, k ≠ 0 → μ 205 k = μ0 205 k) (cr : ∀ r, r ≠ 205 → μ r = μ0 r) (hV : U ≠ 0 → V = if w = 1 then U else s) (K : U = 0 → zW D Wm ST b0 l Sg zM202 bud (pm_X zM202 (fun st' μ' => zTJ φ μ' ∧ st' = [(0, V)] ∧ (∀ k : Int, k ≠ 0 → μ' 205 k = μ0 205 k) ∧ ∀ r, r ≠ 205 → μ' r = μ0 r)) 75 [(2, 205), (0, w), (0, s), (9, 0)] [] μ) (hbd : 2 ≤ bud.1 ∧ 60 ≤ bud.2.1) : ∀ (n : Nat) {t : Int}, (100 - t).toNat = n → ∀ (ht : 1 ≤ t ∧ t ≤ 100) (hz : fw_t (fun i => μ 206 (4 + i)) (μ 205 6) s (μ 206 (4 + s) - t + 1).toNat t = U), zW D Wm ST b0 l Sg zM202 bud (pm_X zM202 (fun st' μ' => zTJ φ μ' ∧ st' = [(0, V)] ∧ (∀ k : Int, k ≠ 0 → μ' 205 k = μ0 205 k) ∧ ∀ r, r ≠ 205 → μ' r = μ0 r)) 29 [(2, 205), (0, w), (0, s), (0, t)] [] μ := by
  intro n
  induction n using Nat.strongRecOn with
  | ind n ih =>
    intro t hn ht hz
    have fn := zT_get hT zs205_6 (i := 6) (by omega) (by omega)
    have gs := hg s hs.1 hs.2
    have f1 := zT_get hT zs206_4 (i := 4 + s) (by omega) (by omega)
    refine pm_blk hK zmm202 [] 7 38 [(2, 205), (0, w), (0, s), (0, t)] [(0, μ 206 (4 + s)), (0, t)] μ [pm_in (4 + s), 0 ≤ 4 + s ∧ 4 + s < 160] rfl ⟨pm_in_mk (by omega) (by omega), ⟨by omega, by omega⟩, trivial⟩ ?_
    refine pm_icmp hK zmm202 .gt 37 75 rfl rfl (fun h0 => ?_) (fun h0 => ?_)
    · have h0 : μ 206 (4 + s) < t := h0
      refine pm_hide [3] ?_
      exact K (fw_t_e (g := (fun i => μ 206 (4 + i))) (by show μ 206 (4 + s) < t; omega) hz)
    · have h0 : t ≤ μ 206 (4 + s) := h0
      refine pm_blk hK zmm202 [] 10 53 [(2, 205), (0, w), (0, s), (0, t)] [(0, (μ 206 (4 + s)) - t), (0, s), (2, 205)] μ [pm_in (4 + s), 0 ≤ 4 + s ∧ 4 + s < 160, pm_in ((μ 206 (4 + s)) - t)] rfl ⟨pm_in_mk (by omega) (by omega), ⟨by omega, by omega⟩, pm_in_mk (by omega) (by omega), trivial⟩ ?_
      refine pm_call hK zmm202 (516, 0, 324, 2) zM324 (1, 30) [(2, 205), (0, s), (0, (μ 206 (4 + s)) - t)] [] rfl rfl rfl rfl ⟨by omega, by rw [zn324]; omega⟩ (fw_isLost hK (p := s) (v := ((μ 206 (4 + s)) - t)) hT ⟨by omega, by omega⟩ hg ⟨Nat.le_refl _, Nat.le_refl _⟩) (fun st1 μc1 hp1 => ?_)
      obtain ⟨rfl, rfl⟩ := hp1
      refine pm_if hK zmm202 .eq 13 69 rfl rfl (fun h1 => ?_) (fun h1 => ?_)
      · have h1 : fw_l (fa_up (fun i => μ 206 (4 + i)) (s) (((μ 206 (4 + s)) - t))) (μ 205 6) = (0 : Int) := h1
        refine pm_blk hK zmm202 [] 2 29 [(2, 205), (0, w), (0, s), (0, t + 1)] [] μ [pm_in (t + 1)] rfl ⟨pm_in_mk (by omega) (by omega), trivial⟩ ?_
        exact ih _ (by omega) rfl ⟨by omega, by omega⟩ (fw_t_n (g := (fun i => μ 206 (4 + i))) (by show t ≤ μ 206 (4 + s); omega) (by show fw_l (fa_up (fun i => μ 206 (4 + i)) s (μ 206 (4 + s) - t)) (μ 205 6) = 0; omega) hz)
      · have h1 : fw_l (fa_up (fun i => μ 206 (4 + i)) (s) (((μ 206 (4 + s)) - t))) (μ 205 6) ≠ (0 : Int) := h1
        refine pm_blk hK zmm202 [] 1 60 [(2, 205), (0, w), (0, s), (0, t)] [(0, w)] μ [] rfl trivial ?_
        refine pm_if hK zmm202 .ne 7 67 rfl rfl (fun h2 => ?_) (fun h2 => ?_)
        · have h2 : w ≠ (0 : Int) := h2
          refine pm_blk hK zmm202 [] 1 68 [(2, 205), (0, w), (0, s), (0, t)] [(0, t)] μ [] rfl trivial ?_
          have hU := fw_t_y (g := (fun i => μ 206 (4 + i))) (by show t ≤ μ 206 (4 + s); omega) (by show fw_l (fa_up (fun i => μ 206 (4 + i)) s (μ 206 (4 + s) - t)) (μ 205 6) ≠ 0; omega) hz
          have hV2 := hV (by omega)
          first
          | exact pm_iret rfl rfl ⟨hT, by rw [hV2, if_pos (by omega), hU], c6, cr⟩
          | exact pm_iret rfl rfl ⟨hT, by rw [hV2, if_neg (by omega)], c6, cr⟩
          | (exfalso; omega)
        · have h2 : w = (0 : Int) := h2
          refine pm_blk hK zmm202 [] 2 68 [(2, 205), (0, w), (0, s), (0, t)] [(0, s)] μ [] rfl trivial ?_
          have hU := fw_t_y (g := (fun i => μ 206 (4 + i))) (by show t ≤ μ 206 (4 + s); omega) (by show fw_l (fa_up (fun i => μ 206 (4 + i)) s (μ 206 (4 + s) - t)) (μ 205 6) ≠ 0; omega) hz
          have hV2 := hV (by omega)
          first
          | exact pm_iret rfl rfl ⟨hT, by rw [hV2, if_pos (by omega), hU], c6, cr⟩
          | exact pm_iret rfl rfl ⟨hT, by rw [hV2, if_neg (by omega)], c6, cr⟩
          | (exfalso; omega)
set_option maxRecDepth 100000 in
theorem fw_r2 (hK : zKK ST)  {w V : Int} {T : Int × Int} {μ0 μ : pm_Mem} (hT : zTJ φ μ) (hw : 0 ≤ w ∧ w ≤ 1) (hg : ∀ j : Int, 0 ≤ j → j < μ 205 6 → 0 ≤ μ 206 (4 + j) ∧ μ 206 (4 + j) ≤ 99) (hV : V = (if w = 1 then T.2 else T.1)) (c6 : ∀ k : Int, k ≠ 0 → μ 205 k = μ0 205 k) (cr : ∀ r, r ≠ 205 → μ r = μ0 r) (hbd : 2 ≤ bud.1 ∧ 60 ≤ bud.2.1) : ∀ (n : Nat) {s : Int}, (μ 205 6 - s).toNat = n → ∀ (hs : 0 ≤ s ∧ s ≤ μ 205 6) (hz : fw_s (fun i => μ 206 (4 + i)) (μ 205 6) (μ 205 6 - s).toNat s = T), zW D Wm ST b0 l Sg zM202 bud (pm_X zM202 (fun st' μ' => zTJ φ μ' ∧ st' = [(0, V)] ∧ (∀ k : Int, k ≠ 0 → μ' 205 k = μ0 205 k) ∧ ∀ r, r ≠ 205 → μ' r = μ0 r)) 19 [(2, 205), (0, w), (0, s), (9, 0)] [] μ := by
  intro n
  induction n using Nat.strongRecOn with
  | ind n ih =>
    intro s hn hs hz
    have fn := zT_get hT zs205_6 (i := 6) (by omega) (by omega)
    have f1 := zT_get hT zs205_6 (i := 6) (by omega) (by omega)
    refine pm_blk hK zmm202 [] 3 24 [(2, 205), (0, w), (0, s), (9, 0)] [(0, μ 205 6), (0, s)] μ [] rfl trivial ?_
    refine pm_icmp hK zmm202 .ge 57 81 rfl rfl (fun h0 => ?_) (fun h0 => ?_)
    · have h0 : μ 205 6 ≤ s := h0
      refine pm_blk hK zmm202 [] 1 82 [(2, 205), (0, w), (0, s), (9, 0)] [(0, (-1))] μ [] rfl trivial ?_
      have eT := fw_s_e (by omega) hz
      exact pm_iret rfl rfl ⟨hT, by rw [hV, eT, ite_self], c6, cr⟩
    · have h0 : s < μ 205 6 := h0
      refine pm_blk hK zmm202 [] 2 29 [(2, 205), (0, w), (0, s), (0, 1)] [] μ [] rfl trivial ?_
      have gs := hg s hs.1 (by omega)
      refine fw_r3 hK (U := fw_t (fun i => μ 206 (4 + i)) (μ 205 6) s (μ 206 (4 + s)).toNat 1) (V := V) hT hw ⟨by omega, by omega⟩ hg c6 cr (fun hU => ?_) (fun hU => ?_) hbd _ rfl ⟨by omega, by omega⟩ (by rw [show μ 206 (4 + s) - 1 + 1 = μ 206 (4 + s) by omega])
      · rw [hV, fw_s_y (g := (fun i => μ 206 (4 + i))) (by omega) rfl hU hz]
      · refine pm_blk hK zmm202 [] 2 19 [(2, 205), (0, w), (0, s + 1), (9, 0)] [] μ [pm_in (s + 1)] rfl ⟨pm_in_mk (by omega) (by omega), trivial⟩ ?_
        exact ih _ (by omega) rfl ⟨by omega, by omega⟩ (fw_s_n (g := (fun i => μ 206 (4 + i))) (by omega) hU hz)
set_option maxRecDepth 100000 in
theorem fw_gamem (hK : zKK ST) {w : Int} (hT : zTJ φ μ) (hg : ∀ j : Int, 0 ≤ j → j < μ 205 6 → 0 ≤ μ 206 (4 + j) ∧ μ 206 (4 + j) ≤ 99) (hb205 : sx_bit Wm 205 = true) (hbd : 2 ≤ bud.1 ∧ 60 ≤ bud.2.1) : zC D Wm ST b0 l Sg zM202 bud [(2, 205), (0, w)] μ (fun st' μ' => zTJ φ μ' ∧ st' = [(0, fw_gm (fun i => μ 206 (4 + i)) (μ 205 6) w)] ∧ (∀ k : Int, k ≠ 0 → μ' 205 k = μ 205 k) ∧ ∀ r, r ≠ 205 → μ' r = μ r) := by
  have fn := zT_get hT zs205_6 (i := 6) (by omega) (by omega)
  refine pm_blk hK zmm202 [] 3 5 [(2, 205), (0, w), (9, 0), (9, 0)] [] (pm_up μ 205 0 0) [sx_bit Wm 205 = true] rfl ⟨hb205, trivial⟩ ?_
  obtain ⟨μ1, eμ1⟩ : ∃ μ', μ' = pm_up μ 205 0 0 := ⟨_, rfl⟩
  rw [← eμ1]
  have hTμ1 : zTJ φ μ1 := by rw [eμ1]; exact zT_up hT zs205_0 rfl (i := 0) (by omega) (by omega) (by omega) (by omega)
  have c6 : ∀ k : Int, k ≠ 0 → μ1 205 k = μ 205 k := fun k h0 => by rw [eμ1, pm_up_ne h0]
  have cr : ∀ r, r ≠ 205 → μ1 r = μ r := fun r hr => by rw [eμ1, pm_up_row hr]
  refine pm_blk hK zmm202 [] 4 9 [(2, 205), (0, w), (9, 0), (9, 0)] [(0, 1), (0, 0), (0, w), (2, 205)] μ1 [] rfl trivial ?_
  refine pm_call hK zmm202 (158, 0, 129, 3) zM129 (0, 0) [(2, 205), (0, w), (0, 0), (0, 1)] [] rfl rfl rfl rfl ⟨by omega, by rw [zn129]; omega⟩ (zh_isIn hK ⟨by omega, by omega⟩) (fun st1 μc1 hp1 => ?_)
  obtain ⟨rfl, rfl⟩ := hp1
  refine pm_if hK zmm202 .ne 5 17 rfl rfl (fun h0 => ?_) (fun h0 => ?_)
  · have h0 : (if 0 ≤ w ∧ w ≤ 1 then 1 else 0 : Int) ≠ (0 : Int) := h0
    have h0 := zif1 h0
    refine pm_blk hK zmm202 [] 2 19 [(2, 205), (0, w), (0, 0), (9, 0)] [] μ1 [] rfl trivial ?_
    have hgm : ∀ j : Int, 0 ≤ j → j < μ1 205 6 → 0 ≤ μ1 206 (4 + j) ∧ μ1 206 (4 + j) ≤ 99 := by rw [c6 6 (by decide), cr 206 (by decide)]; exact hg
    have e9 : fw_gm (fun i => μ1 206 (4 + i)) (μ1 205 6) w = fw_gm (fun i => μ 206 (4 + i)) (μ 205 6) w := by rw [c6 6 (by decide), cr 206 (by decide)]
    have e8 : fw_gm (fun i => μ1 206 (4 + i)) (μ1 205 6) w = if w = 1 then (fw_s (fun i => μ1 206 (4 + i)) (μ1 205 6) (μ1 205 6).toNat 0).2 else (fw_s (fun i => μ1 206 (4 + i)) (μ1 205 6) (μ1 205 6).toNat 0).1 := if_pos ⟨by omega, by omega⟩
    have f6 := c6 6 (by decide)
    exact fw_r2 hK (T := fw_s (fun i => μ1 206 (4 + i)) (μ1 205 6) (μ1 205 6).toNat 0) (V := fw_gm (fun i => μ 206 (4 + i)) (μ 205 6) w) (μ0 := μ) hTμ1 ⟨by omega, by omega⟩ hgm (by rw [← e9, e8]) c6 cr hbd _ rfl ⟨by omega, by omega⟩ (by rw [Int.sub_zero])
  · have h0 : (if 0 ≤ w ∧ w ≤ 1 then 1 else 0 : Int) = (0 : Int) := h0
    have h0 := zif0 h0
    refine pm_blk hK zmm202 [] 1 16 [(2, 205), (0, w), (9, 0), (9, 0)] [(0, (-1))] μ1 [] rfl trivial ?_
    exact pm_iret rfl rfl ⟨hTμ1, by rw [fw_gm_o (by omega)], c6, cr⟩
end ZHW
