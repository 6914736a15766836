/-! F: the reference: ACT; walks printed by program (wip/p30/pmgen.py) and filled by hand -/
section ZHW
variable {D : va_G} {Wm : Nat} {ST : List (String × String × String × Nat)} {b0 : sx_B} {l : Launch} {Sg : Nat → Option Nat} {bud : sx_Bu} {μ : pm_Mem} {B0 : Nat → Prop} {J : (Nat → Option Nat) → Heap → Prop}
set_option maxRecDepth 100000 in
theorem fs_canBuy (hK : zKK ST) {c : Int} (hT : zTJ none μ) {ls : List (Int × List zIw × List zIw)} (hL : fr_L μ 0 ls) (hc : 0 ≤ c ∧ c < μ 205 7) (hb224 : sx_bit Wm 224 = true) (hb225 : sx_bit Wm 225 = true) (hbd : 5 ≤ bud.1 ∧ 116 ≤ bud.2.1) : zC D Wm ST b0 l Sg zM299 bud [(2, 205), (0, c)] μ (fun st' μ' => st' = [(0, if (fa_pay (fr_law ls) (μ 209) (μ 205 7) c (μ 206)) ≠ -1 then 1 else 0)] ∧ zTJ none μ' ∧ (∀ r, r ≠ 224 → r ≠ 225 → μ' r = μ r)) := by
  have f7 := zT_get hT zs205_7 (i := 7) (by omega) (by omega)
  have hcb := fa_costs_b (t := fr_law ls) (N := μ 206) (pol := μ 209) (m := μ 205 7) (c := c) (s := μ 206 (106 + c) - 1)
  have fin9 := zT_get hT zs206_106 (i := 106 + c) (by omega) (by omega)
  refine pm_blk hK zmm299 [] 2 2 [(2, 205), (0, c), (9, 0)] [(0, c), (2, 205)] μ [] rfl trivial ?_
  refine pm_call hK zmm299 (154, 0, 298, 1) zM298 (0, 0) [(2, 205), (0, c)] [] rfl rfl rfl rfl ⟨by omega, by rw [zn298]; omega⟩ (fr_in hK hT ⟨by omega, by omega⟩ ⟨Nat.le_refl _, Nat.le_refl _⟩) (fun st1 μc1 hp1 => ?_)
  obtain ⟨rfl, rfl⟩ := hp1
  refine pm_blk hK zmm299 [] 3 8 [(2, 205), (0, c), (0, μ 206 (106 + (c)) - 1)] [(0, (-1)), (0, μ 206 (106 + (c)) - 1)] μ [] rfl trivial ?_
  refine pm_icmp hK zmm299 .eq 44 52 rfl rfl (fun h0 => ?_) (fun h0 => ?_)
  · have h0 : μ 206 (106 + (c)) - 1 = ((-1) : Int) := h0
    refine pm_blk hK zmm299 [] 1 53 [(2, 205), (0, c), (0, μ 206 (106 + (c)) - 1)] [(0, 0)] μ [] rfl trivial ?_
    first
    | exact pm_zret rfl rfl (by first | exact Or.inl rfl | exact Or.inr rfl | omega) ⟨by rw [if_pos (by rw [fa_pay_y ⟨hc, by omega, by omega, by omega, by omega⟩]; omega)], hT, hff⟩
    | exact pm_zret rfl rfl (by first | exact Or.inl rfl | exact Or.inr rfl | omega) ⟨by rw [if_neg (by rw [fa_pay_n (fun k => by obtain ⟨-, k2, k3, k4, k5⟩ := k; omega)]; omega)], hT, hff⟩
    | exact pm_zret rfl rfl (by first | exact Or.inl rfl | exact Or.inr rfl | omega) ⟨by rw [if_neg (by rw [fa_pay_n (fun k => by obtain ⟨-, k2, k3, k4, -⟩ := k; omega)]; omega)], hT, fun _ _ _ => rfl⟩
    | (exfalso; omega)
  · have h0 : μ 206 (106 + (c)) - 1 ≠ ((-1) : Int) := h0
    refine pm_blk hK zmm299 [] 2 13 [(2, 205), (0, c), (0, μ 206 (106 + (c)) - 1)] [(0, μ 206 (106 + (c)) - 1), (2, 205)] μ [] rfl trivial ?_
    refine pm_call hK zmm299 (356, 0, 297, 1) zM297 (0, 0) [(2, 205), (0, μ 206 (106 + (c)) - 1)] [] rfl rfl rfl rfl ⟨by omega, by rw [zn297]; omega⟩ (zh_isOpen hK (s := (μ 206 (106 + (c)) - 1)) hT ⟨by omega, by omega⟩ ⟨Nat.le_refl _, Nat.le_refl _⟩) (fun st2 μc2 hp2 => ?_)
    obtain ⟨rfl, rfl⟩ := hp2
    refine pm_if hK zmm299 .eq 36 52 rfl rfl (fun h1 => ?_) (fun h1 => ?_)
    · have h1 : (if μ 206 (40 + ((μ 206 (106 + (c)) - 1))) = 0 then 1 else 0 : Int) = (0 : Int) := h1
      have h1 := zif0 h1
      refine pm_blk hK zmm299 [] 1 53 [(2, 205), (0, c), (0, μ 206 (106 + (c)) - 1)] [(0, 0)] μ [] rfl trivial ?_
      first
      | exact pm_zret rfl rfl (by first | exact Or.inl rfl | exact Or.inr rfl | omega) ⟨by rw [if_pos (by rw [fa_pay_y ⟨hc, by omega, by omega, by omega, by omega⟩]; omega)], hT, hff⟩
      | exact pm_zret rfl rfl (by first | exact Or.inl rfl | exact Or.inr rfl | omega) ⟨by rw [if_neg (by rw [fa_pay_n (fun k => by obtain ⟨-, k2, k3, k4, k5⟩ := k; omega)]; omega)], hT, hff⟩
      | exact pm_zret rfl rfl (by first | exact Or.inl rfl | exact Or.inr rfl | omega) ⟨by rw [if_neg (by rw [fa_pay_n (fun k => by obtain ⟨-, k2, k3, k4, -⟩ := k; omega)]; omega)], hT, fun _ _ _ => rfl⟩
      | (exfalso; omega)
    · have h1 : (if μ 206 (40 + ((μ 206 (106 + (c)) - 1))) = 0 then 1 else 0 : Int) ≠ (0 : Int) := h1
      have h1 := zif1 h1
      have f1 := zT_get hT zs206_4 (i := 4 + (μ 206 (106 + (c)) - 1)) (by omega) (by omega)
      refine pm_blk hK zmm299 [] 6 27 [(2, 205), (0, c), (0, μ 206 (106 + (c)) - 1)] [(0, μ 206 (4 + (μ 206 (106 + (c)) - 1)))] μ [pm_in (4 + (μ 206 (106 + (c)) - 1)), 0 ≤ 4 + (μ 206 (106 + (c)) - 1) ∧ 4 + (μ 206 (106 + (c)) - 1) < 160] rfl ⟨pm_in_mk (by omega) (by omega), ⟨by omega, by omega⟩, trivial⟩ ?_
      refine pm_if hK zmm299 .le 25 52 rfl rfl (fun h2 => ?_) (fun h2 => ?_)
      · have h2 : μ 206 (4 + (μ 206 (106 + (c)) - 1)) ≤ (0 : Int) := h2
        refine pm_blk hK zmm299 [] 1 53 [(2, 205), (0, c), (0, μ 206 (106 + (c)) - 1)] [(0, 0)] μ [] rfl trivial ?_
        first
        | exact pm_zret rfl rfl (by first | exact Or.inl rfl | exact Or.inr rfl | omega) ⟨by rw [if_pos (by rw [fa_pay_y ⟨hc, by omega, by omega, by omega, by omega⟩]; omega)], hT, hff⟩
        | exact pm_zret rfl rfl (by first | exact Or.inl rfl | exact Or.inr rfl | omega) ⟨by rw [if_neg (by rw [fa_pay_n (fun k => by obtain ⟨-, k2, k3, k4, k5⟩ := k; omega)]; omega)], hT, hff⟩
        | exact pm_zret rfl rfl (by first | exact Or.inl rfl | exact Or.inr rfl | omega) ⟨by rw [if_neg (by rw [fa_pay_n (fun k => by obtain ⟨-, k2, k3, k4, -⟩ := k; omega)]; omega)], hT, fun _ _ _ => rfl⟩
        | (exfalso; omega)
      · have h2 : (0 : Int) < μ 206 (4 + (μ 206 (106 + (c)) - 1)) := h2
        refine pm_blk hK zmm299 [] 3 33 [(2, 205), (0, c), (0, μ 206 (106 + (c)) - 1)] [(0, μ 206 (106 + (c)) - 1), (0, c), (2, 205)] μ [] rfl trivial ?_
        refine pm_call hK zmm299 (359, 0, 300, 2) zM300 (4, 94) [(2, 205), (0, c), (0, μ 206 (106 + (c)) - 1)] [] rfl rfl rfl rfl ⟨by omega, by rw [zn300]; omega⟩ (fr_costsOf hK (ls := ls) (N := μ 206) (pol := μ 209) (mm := μ 205 7) (c := c) (s := (μ 206 (106 + (c)) - 1)) rfl rfl rfl hL hT ⟨by omega, by omega⟩ ⟨by omega, by omega⟩ hb224 hb225 ⟨Nat.le_refl _, Nat.le_refl _⟩) (fun st3 μc3 hp3 => ?_)
        obtain ⟨rfl, hTc3, hf3⟩ := hp3
        have hff := hf3
        have p1 : μc3 206 (88 + c) = μ 206 (88 + c) := by rw [hff 206 (by decide) (by decide)]
        have f2 := zT_get hTc3 zs206_88 (i := 88 + c) (by omega) (by omega)
        refine pm_blk hK zmm299 [] 6 45 [(2, 205), (0, c), (0, μ 206 (106 + (c)) - 1)] [(0, μc3 206 (88 + c)), (0, fa_costs (fr_law ls) (μ 206) (μ 209) (μ 205 7) (c) ((μ 206 (106 + (c)) - 1)))] μc3 [pm_in (88 + c), 0 ≤ 88 + c ∧ 88 + c < 160] rfl ⟨pm_in_mk (by omega) (by omega), ⟨by omega, by omega⟩, trivial⟩ ?_
        refine pm_icmp hK zmm299 .gt 7 52 rfl rfl (fun h3 => ?_) (fun h3 => ?_)
        · have h3 : μc3 206 (88 + c) < fa_costs (fr_law ls) (μ 206) (μ 209) (μ 205 7) (c) ((μ 206 (106 + (c)) - 1)) := h3
          refine pm_blk hK zmm299 [] 1 53 [(2, 205), (0, c), (0, μ 206 (106 + (c)) - 1)] [(0, 0)] μc3 [] rfl trivial ?_
          first
          | exact pm_zret rfl rfl (by first | exact Or.inl rfl | exact Or.inr rfl | omega) ⟨by rw [if_pos (by rw [fa_pay_y ⟨hc, by omega, by omega, by omega, by omega⟩]; omega)], hTc3, hff⟩
          | exact pm_zret rfl rfl (by first | exact Or.inl rfl | exact Or.inr rfl | omega) ⟨by rw [if_neg (by rw [fa_pay_n (fun k => by obtain ⟨-, k2, k3, k4, k5⟩ := k; omega)]; omega)], hTc3, hff⟩
          | exact pm_zret rfl rfl (by first | exact Or.inl rfl | exact Or.inr rfl | omega) ⟨by rw [if_neg (by rw [fa_pay_n (fun k => by obtain ⟨-, k2, k3, k4, -⟩ := k; omega)]; omega)], hTc3, fun _ _ _ => rfl⟩
          | (exfalso; omega)
        · have h3 : fa_costs (fr_law ls) (μ 206) (μ 209) (μ 205 7) (c) ((μ 206 (106 + (c)) - 1)) ≤ μc3 206 (88 + c) := h3
          refine pm_blk hK zmm299 [] 2 53 [(2, 205), (0, c), (0, μ 206 (106 + (c)) - 1)] [(0, 1)] μc3 [] rfl trivial ?_
          first
          | exact pm_zret rfl rfl (by first | exact Or.inl rfl | exact Or.inr rfl | omega) ⟨by rw [if_pos (by rw [fa_pay_y ⟨hc, by omega, by omega, by omega, by omega⟩]; omega)], hTc3, hff⟩
          | exact pm_zret rfl rfl (by first | exact Or.inl rfl | exact Or.inr rfl | omega) ⟨by rw [if_neg (by rw [fa_pay_n (fun k => by obtain ⟨-, k2, k3, k4, k5⟩ := k; omega)]; omega)], hTc3, hff⟩
          | exact pm_zret rfl rfl (by first | exact Or.inl rfl | exact Or.inr rfl | omega) ⟨by rw [if_neg (by rw [fa_pay_n (fun k => by obtain ⟨-, k2, k3, k4, -⟩ := k; omega)]; omega)], hTc3, fun _ _ _ => rfl⟩
          | (exfalso; omega)
set_option maxRecDepth 100000 in
theorem fs_canAct (hK : zKK ST) {w c v : Int} (hT : zTJ none μ) {ls : List (Int × List zIw × List zIw)} (hL : fr_L μ 0 ls) (hb224 : sx_bit Wm 224 = true) (hb225 : sx_bit Wm 225 = true) (hbd : 6 ≤ bud.1 ∧ 138 ≤ bud.2.1) : zC D Wm ST b0 l Sg zM151 bud [(2, 205), (0, w), (0, c), (0, v)] μ (fun st' μ' => ∃ x, st' = [(0, x)] ∧ ((x = 1 ∧ fa_mayP (fr_law ls) (μ 209) (μ 205 6) (μ 205 7) (μ 206) w c v) ∨ (x = 0 ∧ ¬ fa_mayP (fr_law ls) (μ 209) (μ 205 6) (μ 205 7) (μ 206) w c v)) ∧ zTJ none μ' ∧ (∀ r, r ≠ 224 → r ≠ 225 → μ' r = μ r)) := by
  have f6 := zT_get hT zs205_6 (i := 6) (by omega) (by omega)
  have f7 := zT_get hT zs205_7 (i := 7) (by omega) (by omega)
  have hF : (∀ r, r ≠ 224 → r ≠ 225 → μ r = μ r) := fun _ _ _ => rfl
  have hpn : ¬ (0 ≤ c ∧ c < μ 205 7) → fa_pay (fr_law ls) (μ 209) (μ 205 7) c (μ 206) = -1 := fun h => fa_pay_n (fun k => h k.1)
  refine pm_blk hK zmm151 [] 1 1 [(2, 205), (0, w), (0, c), (0, v)] [(0, w)] μ [] rfl trivial ?_
  refine pm_if hK zmm151 .ne 42 43 rfl rfl (fun h0 => ?_) (fun h0 => ?_)
  · have h0 : w ≠ (0 : Int) := h0
    refine pm_blk hK zmm151 [] 2 45 [(2, 205), (0, w), (0, c), (0, v)] [(0, 1), (0, w)] μ [] rfl trivial ?_
    refine pm_icmp hK zmm151 .ne 26 71 rfl rfl (fun h1 => ?_) (fun h1 => ?_)
    · have h1 : w ≠ (1 : Int) := h1
      refine pm_blk hK zmm151 [] 2 73 [(2, 205), (0, w), (0, c), (0, v)] [(0, 2), (0, w)] μ [] rfl trivial ?_
      refine pm_icmp hK zmm151 .ne 19 92 rfl rfl (fun h2 => ?_) (fun h2 => ?_)
      · have h2 : w ≠ (2 : Int) := h2
        refine pm_blk hK zmm151 [] 2 94 [(2, 205), (0, w), (0, c), (0, v)] [(0, 3), (0, w)] μ [] rfl trivial ?_
        refine pm_icmp hK zmm151 .ne 26 120 rfl rfl (fun h3 => ?_) (fun h3 => ?_)
        · have h3 : w ≠ (3 : Int) := h3
          refine pm_blk hK zmm151 [] 1 121 [(2, 205), (0, w), (0, c), (0, v)] [(0, 0)] μ [] rfl trivial ?_
          first
          | exact pm_zret rfl rfl (by first | exact Or.inl rfl | exact Or.inr rfl | omega) ⟨_, rfl, Or.inl ⟨rfl, by unfold fa_mayP; omega⟩, hT, hF⟩
          | exact pm_zret rfl rfl (by first | exact Or.inl rfl | exact Or.inr rfl | omega) ⟨_, rfl, Or.inr ⟨rfl, by unfold fa_mayP; omega⟩, hT, hF⟩
          | exact pm_zret rfl rfl (by first | exact Or.inl rfl | exact Or.inr rfl | omega) ⟨_, rfl, Or.inr ⟨rfl, by unfold fa_mayP; have h9 := hpn (by omega); omega⟩, hT, hF⟩
          | (exfalso; omega)
        · have h3 : w = (3 : Int) := h3
          refine pm_blk hK zmm151 [] 2 99 [(2, 205), (0, w), (0, c), (0, v)] [(0, c), (2, 205)] μ [] rfl trivial ?_
          refine pm_call hK zmm151 (162, 0, 132, 1) zM132 (0, 0) [(2, 205), (0, c)] [] rfl rfl rfl rfl ⟨by omega, by rw [zn132]; omega⟩ (fs_isShop hK (s := c) ⟨Nat.le_refl _, Nat.le_refl _⟩) (fun st1 μc1 hp1 => ?_)
          obtain ⟨rfl, rfl⟩ := hp1
          refine pm_if hK zmm151 .eq 18 120 rfl rfl (fun h4 => ?_) (fun h4 => ?_)
          · have h4 : (if 0 ≤ c ∧ c < μ 205 6 then 1 else 0 : Int) = (0 : Int) := h4
            have h4 := zif0 h4
            refine pm_blk hK zmm151 [] 1 121 [(2, 205), (0, w), (0, c), (0, v)] [(0, 0)] μ [] rfl trivial ?_
            first
            | exact pm_zret rfl rfl (by first | exact Or.inl rfl | exact Or.inr rfl | omega) ⟨_, rfl, Or.inl ⟨rfl, by unfold fa_mayP; omega⟩, hT, hF⟩
            | exact pm_zret rfl rfl (by first | exact Or.inl rfl | exact Or.inr rfl | omega) ⟨_, rfl, Or.inr ⟨rfl, by unfold fa_mayP; omega⟩, hT, hF⟩
            | exact pm_zret rfl rfl (by first | exact Or.inl rfl | exact Or.inr rfl | omega) ⟨_, rfl, Or.inr ⟨rfl, by unfold fa_mayP; have h9 := hpn (by omega); omega⟩, hT, hF⟩
            | (exfalso; omega)
          · have h4 : (if 0 ≤ c ∧ c < μ 205 6 then 1 else 0 : Int) ≠ (0 : Int) := h4
            have h4 := zif1 h4
            refine pm_blk hK zmm151 [] 4 110 [(2, 205), (0, w), (0, c), (0, v)] [(0, 99), (0, 0), (0, v), (2, 205)] μ [] rfl trivial ?_
            refine pm_call hK zmm151 (158, 0, 129, 3) zM129 (0, 0) [(2, 205), (0, v), (0, 0), (0, 99)] [] rfl rfl rfl rfl ⟨by omega, by rw [zn129]; omega⟩ (zh_isIn hK ⟨by omega, by omega⟩) (fun st2 μc2 hp2 => ?_)
            obtain ⟨rfl, rfl⟩ := hp2
            refine pm_if hK zmm151 .eq 7 120 rfl rfl (fun h5 => ?_) (fun h5 => ?_)
            · have h5 : (if 0 ≤ v ∧ v ≤ 99 then 1 else 0 : Int) = (0 : Int) := h5
              have h5 := zif0 h5
              refine pm_blk hK zmm151 [] 1 121 [(2, 205), (0, w), (0, c), (0, v)] [(0, 0)] μ [] rfl trivial ?_
              first
              | exact pm_zret rfl rfl (by first | exact Or.inl rfl | exact Or.inr rfl | omega) ⟨_, rfl, Or.inl ⟨rfl, by unfold fa_mayP; omega⟩, hT, hF⟩
              | exact pm_zret rfl rfl (by first | exact Or.inl rfl | exact Or.inr rfl | omega) ⟨_, rfl, Or.inr ⟨rfl, by unfold fa_mayP; omega⟩, hT, hF⟩
              | exact pm_zret rfl rfl (by first | exact Or.inl rfl | exact Or.inr rfl | omega) ⟨_, rfl, Or.inr ⟨rfl, by unfold fa_mayP; have h9 := hpn (by omega); omega⟩, hT, hF⟩
              | (exfalso; omega)
            · have h5 : (if 0 ≤ v ∧ v ≤ 99 then 1 else 0 : Int) ≠ (0 : Int) := h5
              have h5 := zif1 h5
              refine pm_blk hK zmm151 [] 2 121 [(2, 205), (0, w), (0, c), (0, v)] [(0, 1)] μ [] rfl trivial ?_
              first
              | exact pm_zret rfl rfl (by first | exact Or.inl rfl | exact Or.inr rfl | omega) ⟨_, rfl, Or.inl ⟨rfl, by unfold fa_mayP; omega⟩, hT, hF⟩
              | exact pm_zret rfl rfl (by first | exact Or.inl rfl | exact Or.inr rfl | omega) ⟨_, rfl, Or.inr ⟨rfl, by unfold fa_mayP; omega⟩, hT, hF⟩
              | exact pm_zret rfl rfl (by first | exact Or.inl rfl | exact Or.inr rfl | omega) ⟨_, rfl, Or.inr ⟨rfl, by unfold fa_mayP; have h9 := hpn (by omega); omega⟩, hT, hF⟩
              | (exfalso; omega)
      · have h2 : w = (2 : Int) := h2
        refine pm_blk hK zmm151 [] 2 78 [(2, 205), (0, w), (0, c), (0, v)] [(0, c), (2, 205)] μ [] rfl trivial ?_
        refine pm_call hK zmm151 (166, 0, 133, 1) zM133 (0, 0) [(2, 205), (0, c)] [] rfl rfl rfl rfl ⟨by omega, by rw [zn133]; omega⟩ (fs_isCustomer hK (s := c) ⟨Nat.le_refl _, Nat.le_refl _⟩) (fun st3 μc3 hp3 => ?_)
        obtain ⟨rfl, rfl⟩ := hp3
        refine pm_if hK zmm151 .eq 11 92 rfl rfl (fun h6 => ?_) (fun h6 => ?_)
        · have h6 : (if 0 ≤ c ∧ c < μ 205 7 then 1 else 0 : Int) = (0 : Int) := h6
          have h6 := zif0 h6
          refine pm_blk hK zmm151 [] 2 94 [(2, 205), (0, w), (0, c), (0, v)] [(0, 3), (0, w)] μ [] rfl trivial ?_
          refine pm_icmp hK zmm151 .ne 26 120 rfl rfl (fun h7 => ?_) (fun h7 => ?_)
          · have h7 : w ≠ (3 : Int) := h7
            refine pm_blk hK zmm151 [] 1 121 [(2, 205), (0, w), (0, c), (0, v)] [(0, 0)] μ [] rfl trivial ?_
            first
            | exact pm_zret rfl rfl (by first | exact Or.inl rfl | exact Or.inr rfl | omega) ⟨_, rfl, Or.inl ⟨rfl, by unfold fa_mayP; omega⟩, hT, hF⟩
            | exact pm_zret rfl rfl (by first | exact Or.inl rfl | exact Or.inr rfl | omega) ⟨_, rfl, Or.inr ⟨rfl, by unfold fa_mayP; omega⟩, hT, hF⟩
            | exact pm_zret rfl rfl (by first | exact Or.inl rfl | exact Or.inr rfl | omega) ⟨_, rfl, Or.inr ⟨rfl, by unfold fa_mayP; have h9 := hpn (by omega); omega⟩, hT, hF⟩
            | (exfalso; omega)
          · have h7 : w = (3 : Int) := h7
            refine pm_blk hK zmm151 [] 2 99 [(2, 205), (0, w), (0, c), (0, v)] [(0, c), (2, 205)] μ [] rfl trivial ?_
            refine pm_call hK zmm151 (162, 0, 132, 1) zM132 (0, 0) [(2, 205), (0, c)] [] rfl rfl rfl rfl ⟨by omega, by rw [zn132]; omega⟩ (fs_isShop hK (s := c) ⟨Nat.le_refl _, Nat.le_refl _⟩) (fun st4 μc4 hp4 => ?_)
            obtain ⟨rfl, rfl⟩ := hp4
            refine pm_if hK zmm151 .eq 18 120 rfl rfl (fun h8 => ?_) (fun h8 => ?_)
            · have h8 : (if 0 ≤ c ∧ c < μ 205 6 then 1 else 0 : Int) = (0 : Int) := h8
              have h8 := zif0 h8
              refine pm_blk hK zmm151 [] 1 121 [(2, 205), (0, w), (0, c), (0, v)] [(0, 0)] μ [] rfl trivial ?_
              first
              | exact pm_zret rfl rfl (by first | exact Or.inl rfl | exact Or.inr rfl | omega) ⟨_, rfl, Or.inl ⟨rfl, by unfold fa_mayP; omega⟩, hT, hF⟩
              | exact pm_zret rfl rfl (by first | exact Or.inl rfl | exact Or.inr rfl | omega) ⟨_, rfl, Or.inr ⟨rfl, by unfold fa_mayP; omega⟩, hT, hF⟩
              | exact pm_zret rfl rfl (by first | exact Or.inl rfl | exact Or.inr rfl | omega) ⟨_, rfl, Or.inr ⟨rfl, by unfold fa_mayP; have h9 := hpn (by omega); omega⟩, hT, hF⟩
              | (exfalso; omega)
            · have h8 : (if 0 ≤ c ∧ c < μ 205 6 then 1 else 0 : Int) ≠ (0 : Int) := h8
              have h8 := zif1 h8
              refine pm_blk hK zmm151 [] 4 110 [(2, 205), (0, w), (0, c), (0, v)] [(0, 99), (0, 0), (0, v), (2, 205)] μ [] rfl trivial ?_
              refine pm_call hK zmm151 (158, 0, 129, 3) zM129 (0, 0) [(2, 205), (0, v), (0, 0), (0, 99)] [] rfl rfl rfl rfl ⟨by omega, by rw [zn129]; omega⟩ (zh_isIn hK ⟨by omega, by omega⟩) (fun st5 μc5 hp5 => ?_)
              obtain ⟨rfl, rfl⟩ := hp5
              refine pm_if hK zmm151 .eq 7 120 rfl rfl (fun h9 => ?_) (fun h9 => ?_)
              · have h9 : (if 0 ≤ v ∧ v ≤ 99 then 1 else 0 : Int) = (0 : Int) := h9
                have h9 := zif0 h9
                refine pm_blk hK zmm151 [] 1 121 [(2, 205), (0, w), (0, c), (0, v)] [(0, 0)] μ [] rfl trivial ?_
                first
                | exact pm_zret rfl rfl (by first | exact Or.inl rfl | exact Or.inr rfl | omega) ⟨_, rfl, Or.inl ⟨rfl, by unfold fa_mayP; omega⟩, hT, hF⟩
                | exact pm_zret rfl rfl (by first | exact Or.inl rfl | exact Or.inr rfl | omega) ⟨_, rfl, Or.inr ⟨rfl, by unfold fa_mayP; omega⟩, hT, hF⟩
                | exact pm_zret rfl rfl (by first | exact Or.inl rfl | exact Or.inr rfl | omega) ⟨_, rfl, Or.inr ⟨rfl, by unfold fa_mayP; have h9 := hpn (by omega); omega⟩, hT, hF⟩
                | (exfalso; omega)
              · have h9 : (if 0 ≤ v ∧ v ≤ 99 then 1 else 0 : Int) ≠ (0 : Int) := h9
                have h9 := zif1 h9
                refine pm_blk hK zmm151 [] 2 121 [(2, 205), (0, w), (0, c), (0, v)] [(0, 1)] μ [] rfl trivial ?_
                first
                | exact pm_zret rfl rfl (by first | exact Or.inl rfl | exact Or.inr rfl | omega) ⟨_, rfl, Or.inl ⟨rfl, by unfold fa_mayP; omega⟩, hT, hF⟩
                | exact pm_zret rfl rfl (by first | exact Or.inl rfl | exact Or.inr rfl | omega) ⟨_, rfl, Or.inr ⟨rfl, by unfold fa_mayP; omega⟩, hT, hF⟩
                | exact pm_zret rfl rfl (by first | exact Or.inl rfl | exact Or.inr rfl | omega) ⟨_, rfl, Or.inr ⟨rfl, by unfold fa_mayP; have h9 := hpn (by omega); omega⟩, hT, hF⟩
                | (exfalso; omega)
        · have h6 : (if 0 ≤ c ∧ c < μ 205 7 then 1 else 0 : Int) ≠ (0 : Int) := h6
          have h6 := zif1 h6
          refine pm_blk hK zmm151 [] 2 86 [(2, 205), (0, w), (0, c), (0, v)] [(0, c), (2, 205)] μ [] rfl trivial ?_
          refine pm_call hK zmm151 (362, 0, 299, 1) zM299 (5, 116) [(2, 205), (0, c)] [] rfl rfl rfl rfl ⟨by omega, by rw [zn299]; omega⟩ (fs_canBuy hK (ls := ls) (c := c) hT hL ⟨by omega, by omega⟩ hb224 hb225 ⟨Nat.le_refl _, Nat.le_refl _⟩) (fun st6 μc6 hp6 => ?_)
          obtain ⟨rfl, hTc6, hf6⟩ := hp6
          have hF := hf6
          refine pm_if hK zmm151 .ne 27 116 rfl rfl (fun h10 => ?_) (fun h10 => ?_)
          · have h10 : (if fa_pay (fr_law ls) (μ 209) (μ 205 7) (c) (μ 206) ≠ -1 then 1 else 0 : Int) ≠ (0 : Int) := h10
            have h10 := zif1 h10
            refine pm_blk hK zmm151 [] 2 121 [(2, 205), (0, w), (0, c), (0, v)] [(0, 1)] μc6 [] rfl trivial ?_
            first
            | exact pm_zret rfl rfl (by first | exact Or.inl rfl | exact Or.inr rfl | omega) ⟨_, rfl, Or.inl ⟨rfl, by unfold fa_mayP; omega⟩, hTc6, hF⟩
            | exact pm_zret rfl rfl (by first | exact Or.inl rfl | exact Or.inr rfl | omega) ⟨_, rfl, Or.inr ⟨rfl, by unfold fa_mayP; omega⟩, hTc6, hF⟩
            | exact pm_zret rfl rfl (by first | exact Or.inl rfl | exact Or.inr rfl | omega) ⟨_, rfl, Or.inr ⟨rfl, by unfold fa_mayP; have h9 := hpn (by omega); omega⟩, hTc6, hF⟩
            | (exfalso; omega)
          · have h10 : (if fa_pay (fr_law ls) (μ 209) (μ 205 7) (c) (μ 206) ≠ -1 then 1 else 0 : Int) = (0 : Int) := h10
            have h10 := zif0 h10
            refine pm_blk hK zmm151 [] 2 94 [(2, 205), (0, w), (0, c), (0, v)] [(0, 3), (0, w)] μc6 [] rfl trivial ?_
            refine pm_icmp hK zmm151 .ne 26 120 rfl rfl (fun h11 => ?_) (fun h11 => ?_)
            · have h11 : w ≠ (3 : Int) := h11
              refine pm_blk hK zmm151 [] 1 121 [(2, 205), (0, w), (0, c), (0, v)] [(0, 0)] μc6 [] rfl trivial ?_
              first
              | exact pm_zret rfl rfl (by first | exact Or.inl rfl | exact Or.inr rfl | omega) ⟨_, rfl, Or.inl ⟨rfl, by unfold fa_mayP; omega⟩, hTc6, hF⟩
              | exact pm_zret rfl rfl (by first | exact Or.inl rfl | exact Or.inr rfl | omega) ⟨_, rfl, Or.inr ⟨rfl, by unfold fa_mayP; omega⟩, hTc6, hF⟩
              | exact pm_zret rfl rfl (by first | exact Or.inl rfl | exact Or.inr rfl | omega) ⟨_, rfl, Or.inr ⟨rfl, by unfold fa_mayP; have h9 := hpn (by omega); omega⟩, hTc6, hF⟩
              | (exfalso; omega)
            · have h11 : w = (3 : Int) := h11
              refine pm_blk hK zmm151 [] 2 99 [(2, 205), (0, w), (0, c), (0, v)] [(0, c), (2, 205)] μc6 [] rfl trivial ?_
              refine pm_call hK zmm151 (162, 0, 132, 1) zM132 (0, 0) [(2, 205), (0, c)] [] rfl rfl rfl rfl ⟨by omega, by rw [zn132]; omega⟩ (fs_isShop hK (s := c) ⟨Nat.le_refl _, Nat.le_refl _⟩) (fun st7 μc7 hp7 => ?_)
              obtain ⟨rfl, rfl⟩ := hp7
              refine pm_if hK zmm151 .eq 18 120 rfl rfl (fun h12 => ?_) (fun h12 => ?_)
              · have h12 : (if 0 ≤ c ∧ c < μc6 205 6 then 1 else 0 : Int) = (0 : Int) := h12
                have h12 := zif0 h12
                refine pm_blk hK zmm151 [] 1 121 [(2, 205), (0, w), (0, c), (0, v)] [(0, 0)] μc6 [] rfl trivial ?_
                first
                | exact pm_zret rfl rfl (by first | exact Or.inl rfl | exact Or.inr rfl | omega) ⟨_, rfl, Or.inl ⟨rfl, by unfold fa_mayP; omega⟩, hTc6, hF⟩
                | exact pm_zret rfl rfl (by first | exact Or.inl rfl | exact Or.inr rfl | omega) ⟨_, rfl, Or.inr ⟨rfl, by unfold fa_mayP; omega⟩, hTc6, hF⟩
                | exact pm_zret rfl rfl (by first | exact Or.inl rfl | exact Or.inr rfl | omega) ⟨_, rfl, Or.inr ⟨rfl, by unfold fa_mayP; have h9 := hpn (by omega); omega⟩, hTc6, hF⟩
                | (exfalso; omega)
              · have h12 : (if 0 ≤ c ∧ c < μc6 205 6 then 1 else 0 : Int) ≠ (0 : Int) := h12
                have h12 := zif1 h12
                refine pm_blk hK zmm151 [] 4 110 [(2, 205), (0, w), (0, c), (0, v)] [(0, 99), (0, 0), (0, v), (2, 205)] μc6 [] rfl trivial ?_
                refine pm_call hK zmm151 (158, 0, 129, 3) zM129 (0, 0) [(2, 205), (0, v), (0, 0), (0, 99)] [] rfl rfl rfl rfl ⟨by omega, by rw [zn129]; omega⟩ (zh_isIn hK ⟨by omega, by omega⟩) (fun st8 μc8 hp8 => ?_)
                obtain ⟨rfl, rfl⟩ := hp8
                refine pm_if hK zmm151 .eq 7 120 rfl rfl (fun h13 => ?_) (fun h13 => ?_)
                · have h13 : (if 0 ≤ v ∧ v ≤ 99 then 1 else 0 : Int) = (0 : Int) := h13
                  have h13 := zif0 h13
                  refine pm_blk hK zmm151 [] 1 121 [(2, 205), (0, w), (0, c), (0, v)] [(0, 0)] μc6 [] rfl trivial ?_
                  first
                  | exact pm_zret rfl rfl (by first | exact Or.inl rfl | exact Or.inr rfl | omega) ⟨_, rfl, Or.inl ⟨rfl, by unfold fa_mayP; omega⟩, hTc6, hF⟩
                  | exact pm_zret rfl rfl (by first | exact Or.inl rfl | exact Or.inr rfl | omega) ⟨_, rfl, Or.inr ⟨rfl, by unfold fa_mayP; omega⟩, hTc6, hF⟩
                  | exact pm_zret rfl rfl (by first | exact Or.inl rfl | exact Or.inr rfl | omega) ⟨_, rfl, Or.inr ⟨rfl, by unfold fa_mayP; have h9 := hpn (by omega); omega⟩, hTc6, hF⟩
                  | (exfalso; omega)
                · have h13 : (if 0 ≤ v ∧ v ≤ 99 then 1 else 0 : Int) ≠ (0 : Int) := h13
                  have h13 := zif1 h13
                  refine pm_blk hK zmm151 [] 2 121 [(2, 205), (0, w), (0, c), (0, v)] [(0, 1)] μc6 [] rfl trivial ?_
                  first
                  | exact pm_zret rfl rfl (by first | exact Or.inl rfl | exact Or.inr rfl | omega) ⟨_, rfl, Or.inl ⟨rfl, by unfold fa_mayP; omega⟩, hTc6, hF⟩
                  | exact pm_zret rfl rfl (by first | exact Or.inl rfl | exact Or.inr rfl | omega) ⟨_, rfl, Or.inr ⟨rfl, by unfold fa_mayP; omega⟩, hTc6, hF⟩
                  | exact pm_zret rfl rfl (by first | exact Or.inl rfl | exact Or.inr rfl | omega) ⟨_, rfl, Or.inr ⟨rfl, by unfold fa_mayP; have h9 := hpn (by omega); omega⟩, hTc6, hF⟩
                  | (exfalso; omega)
    · have h1 : w = (1 : Int) := h1
      refine pm_blk hK zmm151 [] 2 50 [(2, 205), (0, w), (0, c), (0, v)] [(0, c), (2, 205)] μ [] rfl trivial ?_
      refine pm_call hK zmm151 (166, 0, 133, 1) zM133 (0, 0) [(2, 205), (0, c)] [] rfl rfl rfl rfl ⟨by omega, by rw [zn133]; omega⟩ (fs_isCustomer hK (s := c) ⟨Nat.le_refl _, Nat.le_refl _⟩) (fun st9 μc9 hp9 => ?_)
      obtain ⟨rfl, rfl⟩ := hp9
      refine pm_if hK zmm151 .eq 16 69 rfl rfl (fun h14 => ?_) (fun h14 => ?_)
      · have h14 : (if 0 ≤ c ∧ c < μ 205 7 then 1 else 0 : Int) = (0 : Int) := h14
        have h14 := zif0 h14
        refine pm_blk hK zmm151 [] 1 70 [(2, 205), (0, w), (0, c), (0, v)] [(0, 0)] μ [] rfl trivial ?_
        first
        | exact pm_zret rfl rfl (by first | exact Or.inl rfl | exact Or.inr rfl | omega) ⟨_, rfl, Or.inl ⟨rfl, by unfold fa_mayP; omega⟩, hT, hF⟩
        | exact pm_zret rfl rfl (by first | exact Or.inl rfl | exact Or.inr rfl | omega) ⟨_, rfl, Or.inr ⟨rfl, by unfold fa_mayP; omega⟩, hT, hF⟩
        | exact pm_zret rfl rfl (by first | exact Or.inl rfl | exact Or.inr rfl | omega) ⟨_, rfl, Or.inr ⟨rfl, by unfold fa_mayP; have h9 := hpn (by omega); omega⟩, hT, hF⟩
        | (exfalso; omega)
      · have h14 : (if 0 ≤ c ∧ c < μ 205 7 then 1 else 0 : Int) ≠ (0 : Int) := h14
        have h14 := zif1 h14
        refine pm_blk hK zmm151 [] 2 58 [(2, 205), (0, w), (0, c), (0, v)] [(0, c), (2, 205)] μ [] rfl trivial ?_
        refine pm_call hK zmm151 (154, 0, 298, 1) zM298 (0, 0) [(2, 205), (0, c)] [] rfl rfl rfl rfl ⟨by omega, by rw [zn298]; omega⟩ (fr_in hK hT ⟨by omega, by omega⟩ ⟨Nat.le_refl _, Nat.le_refl _⟩) (fun st10 μc10 hp10 => ?_)
        obtain ⟨rfl, rfl⟩ := hp10
        refine pm_blk hK zmm151 [] 1 62 [(2, 205), (0, w), (0, c), (0, v)] [(0, (-1)), (0, μ 206 (106 + (c)) - 1)] μ [] rfl trivial ?_
        refine pm_icmp hK zmm151 .eq 7 69 rfl rfl (fun h15 => ?_) (fun h15 => ?_)
        · have h15 : μ 206 (106 + (c)) - 1 = ((-1) : Int) := h15
          refine pm_blk hK zmm151 [] 1 70 [(2, 205), (0, w), (0, c), (0, v)] [(0, 0)] μ [] rfl trivial ?_
          first
          | exact pm_zret rfl rfl (by first | exact Or.inl rfl | exact Or.inr rfl | omega) ⟨_, rfl, Or.inl ⟨rfl, by unfold fa_mayP; omega⟩, hT, hF⟩
          | exact pm_zret rfl rfl (by first | exact Or.inl rfl | exact Or.inr rfl | omega) ⟨_, rfl, Or.inr ⟨rfl, by unfold fa_mayP; omega⟩, hT, hF⟩
          | exact pm_zret rfl rfl (by first | exact Or.inl rfl | exact Or.inr rfl | omega) ⟨_, rfl, Or.inr ⟨rfl, by unfold fa_mayP; have h9 := hpn (by omega); omega⟩, hT, hF⟩
          | (exfalso; omega)
        · have h15 : μ 206 (106 + (c)) - 1 ≠ ((-1) : Int) := h15
          refine pm_blk hK zmm151 [] 2 70 [(2, 205), (0, w), (0, c), (0, v)] [(0, 1)] μ [] rfl trivial ?_
          first
          | exact pm_zret rfl rfl (by first | exact Or.inl rfl | exact Or.inr rfl | omega) ⟨_, rfl, Or.inl ⟨rfl, by unfold fa_mayP; omega⟩, hT, hF⟩
          | exact pm_zret rfl rfl (by first | exact Or.inl rfl | exact Or.inr rfl | omega) ⟨_, rfl, Or.inr ⟨rfl, by unfold fa_mayP; omega⟩, hT, hF⟩
          | exact pm_zret rfl rfl (by first | exact Or.inl rfl | exact Or.inr rfl | omega) ⟨_, rfl, Or.inr ⟨rfl, by unfold fa_mayP; have h9 := hpn (by omega); omega⟩, hT, hF⟩
          | (exfalso; omega)
  · have h0 : w = (0 : Int) := h0
    refine pm_blk hK zmm151 [] 2 6 [(2, 205), (0, w), (0, c), (0, v)] [(0, c), (2, 205)] μ [] rfl trivial ?_
    refine pm_call hK zmm151 (166, 0, 133, 1) zM133 (0, 0) [(2, 205), (0, c)] [] rfl rfl rfl rfl ⟨by omega, by rw [zn133]; omega⟩ (fs_isCustomer hK (s := c) ⟨Nat.le_refl _, Nat.le_refl _⟩) (fun st11 μc11 hp11 => ?_)
    obtain ⟨rfl, rfl⟩ := hp11
    refine pm_if hK zmm151 .eq 32 41 rfl rfl (fun h16 => ?_) (fun h16 => ?_)
    · have h16 : (if 0 ≤ c ∧ c < μ 205 7 then 1 else 0 : Int) = (0 : Int) := h16
      have h16 := zif0 h16
      refine pm_blk hK zmm151 [] 1 42 [(2, 205), (0, w), (0, c), (0, v)] [(0, 0)] μ [] rfl trivial ?_
      first
      | exact pm_zret rfl rfl (by first | exact Or.inl rfl | exact Or.inr rfl | omega) ⟨_, rfl, Or.inl ⟨rfl, by unfold fa_mayP; omega⟩, hT, hF⟩
      | exact pm_zret rfl rfl (by first | exact Or.inl rfl | exact Or.inr rfl | omega) ⟨_, rfl, Or.inr ⟨rfl, by unfold fa_mayP; omega⟩, hT, hF⟩
      | exact pm_zret rfl rfl (by first | exact Or.inl rfl | exact Or.inr rfl | omega) ⟨_, rfl, Or.inr ⟨rfl, by unfold fa_mayP; have h9 := hpn (by omega); omega⟩, hT, hF⟩
      | (exfalso; omega)
    · have h16 : (if 0 ≤ c ∧ c < μ 205 7 then 1 else 0 : Int) ≠ (0 : Int) := h16
      have h16 := zif1 h16
      refine pm_blk hK zmm151 [] 2 14 [(2, 205), (0, w), (0, c), (0, v)] [(0, v), (2, 205)] μ [] rfl trivial ?_
      refine pm_call hK zmm151 (162, 0, 132, 1) zM132 (0, 0) [(2, 205), (0, v)] [] rfl rfl rfl rfl ⟨by omega, by rw [zn132]; omega⟩ (fs_isShop hK (s := v) ⟨Nat.le_refl _, Nat.le_refl _⟩) (fun st12 μc12 hp12 => ?_)
      obtain ⟨rfl, rfl⟩ := hp12
      refine pm_if hK zmm151 .eq 24 41 rfl rfl (fun h17 => ?_) (fun h17 => ?_)
      · have h17 : (if 0 ≤ v ∧ v < μ 205 6 then 1 else 0 : Int) = (0 : Int) := h17
        have h17 := zif0 h17
        refine pm_blk hK zmm151 [] 1 42 [(2, 205), (0, w), (0, c), (0, v)] [(0, 0)] μ [] rfl trivial ?_
        first
        | exact pm_zret rfl rfl (by first | exact Or.inl rfl | exact Or.inr rfl | omega) ⟨_, rfl, Or.inl ⟨rfl, by unfold fa_mayP; omega⟩, hT, hF⟩
        | exact pm_zret rfl rfl (by first | exact Or.inl rfl | exact Or.inr rfl | omega) ⟨_, rfl, Or.inr ⟨rfl, by unfold fa_mayP; omega⟩, hT, hF⟩
        | exact pm_zret rfl rfl (by first | exact Or.inl rfl | exact Or.inr rfl | omega) ⟨_, rfl, Or.inr ⟨rfl, by unfold fa_mayP; have h9 := hpn (by omega); omega⟩, hT, hF⟩
        | (exfalso; omega)
      · have h17 : (if 0 ≤ v ∧ v < μ 205 6 then 1 else 0 : Int) ≠ (0 : Int) := h17
        have h17 := zif1 h17
        refine pm_blk hK zmm151 [] 2 22 [(2, 205), (0, w), (0, c), (0, v)] [(0, v), (2, 205)] μ [] rfl trivial ?_
        refine pm_call hK zmm151 (356, 0, 297, 1) zM297 (0, 0) [(2, 205), (0, v)] [] rfl rfl rfl rfl ⟨by omega, by rw [zn297]; omega⟩ (zh_isOpen hK (s := v) hT ⟨by omega, by omega⟩ ⟨Nat.le_refl _, Nat.le_refl _⟩) (fun st13 μc13 hp13 => ?_)
        obtain ⟨rfl, rfl⟩ := hp13
        refine pm_if hK zmm151 .eq 16 41 rfl rfl (fun h18 => ?_) (fun h18 => ?_)
        · have h18 : (if μ 206 (40 + (v)) = 0 then 1 else 0 : Int) = (0 : Int) := h18
          have h18 := zif0 h18
          refine pm_blk hK zmm151 [] 1 42 [(2, 205), (0, w), (0, c), (0, v)] [(0, 0)] μ [] rfl trivial ?_
          first
          | exact pm_zret rfl rfl (by first | exact Or.inl rfl | exact Or.inr rfl | omega) ⟨_, rfl, Or.inl ⟨rfl, by unfold fa_mayP; omega⟩, hT, hF⟩
          | exact pm_zret rfl rfl (by first | exact Or.inl rfl | exact Or.inr rfl | omega) ⟨_, rfl, Or.inr ⟨rfl, by unfold fa_mayP; omega⟩, hT, hF⟩
          | exact pm_zret rfl rfl (by first | exact Or.inl rfl | exact Or.inr rfl | omega) ⟨_, rfl, Or.inr ⟨rfl, by unfold fa_mayP; have h9 := hpn (by omega); omega⟩, hT, hF⟩
          | (exfalso; omega)
        · have h18 : (if μ 206 (40 + (v)) = 0 then 1 else 0 : Int) ≠ (0 : Int) := h18
          have h18 := zif1 h18
          refine pm_blk hK zmm151 [] 2 30 [(2, 205), (0, w), (0, c), (0, v)] [(0, c), (2, 205)] μ [] rfl trivial ?_
          refine pm_call hK zmm151 (154, 0, 298, 1) zM298 (0, 0) [(2, 205), (0, c)] [] rfl rfl rfl rfl ⟨by omega, by rw [zn298]; omega⟩ (fr_in hK hT ⟨by omega, by omega⟩ ⟨Nat.le_refl _, Nat.le_refl _⟩) (fun st14 μc14 hp14 => ?_)
          obtain ⟨rfl, rfl⟩ := hp14
          refine pm_blk hK zmm151 [] 1 34 [(2, 205), (0, w), (0, c), (0, v)] [(0, v), (0, μ 206 (106 + (c)) - 1)] μ [] rfl trivial ?_
          refine pm_icmp hK zmm151 .eq 7 41 rfl rfl (fun h19 => ?_) (fun h19 => ?_)
          · have h19 : μ 206 (106 + (c)) - 1 = v := h19
            refine pm_blk hK zmm151 [] 1 42 [(2, 205), (0, w), (0, c), (0, v)] [(0, 0)] μ [] rfl trivial ?_
            first
            | exact pm_zret rfl rfl (by first | exact Or.inl rfl | exact Or.inr rfl | omega) ⟨_, rfl, Or.inl ⟨rfl, by unfold fa_mayP; omega⟩, hT, hF⟩
            | exact pm_zret rfl rfl (by first | exact Or.inl rfl | exact Or.inr rfl | omega) ⟨_, rfl, Or.inr ⟨rfl, by unfold fa_mayP; omega⟩, hT, hF⟩
            | exact pm_zret rfl rfl (by first | exact Or.inl rfl | exact Or.inr rfl | omega) ⟨_, rfl, Or.inr ⟨rfl, by unfold fa_mayP; have h9 := hpn (by omega); omega⟩, hT, hF⟩
            | (exfalso; omega)
          · have h19 : μ 206 (106 + (c)) - 1 ≠ v := h19
            refine pm_blk hK zmm151 [] 2 42 [(2, 205), (0, w), (0, c), (0, v)] [(0, 1)] μ [] rfl trivial ?_
            first
            | exact pm_zret rfl rfl (by first | exact Or.inl rfl | exact Or.inr rfl | omega) ⟨_, rfl, Or.inl ⟨rfl, by unfold fa_mayP; omega⟩, hT, hF⟩
            | exact pm_zret rfl rfl (by first | exact Or.inl rfl | exact Or.inr rfl | omega) ⟨_, rfl, Or.inr ⟨rfl, by unfold fa_mayP; omega⟩, hT, hF⟩
            | exact pm_zret rfl rfl (by first | exact Or.inl rfl | exact Or.inr rfl | omega) ⟨_, rfl, Or.inr ⟨rfl, by unfold fa_mayP; have h9 := hpn (by omega); omega⟩, hT, hF⟩
            | (exfalso; omega)
theorem fr_inN (hK : zKK ST) {c : Int} {N : Int → Int} (hN : μ 206 = N) (hT : zTJ none μ) (hc : 0 ≤ c ∧ c ≤ 17) (hbd : 0 ≤ bud.1 ∧ 0 ≤ bud.2.1) : zC D Wm ST b0 l Sg zM298 bud [(2, 205), (0, c)] μ (fun st' μ' => μ = μ' ∧ st' = [(0, N (106 + c) - 1)]) := by
  subst hN
  exact fr_in hK hT hc hbd
set_option maxRecDepth 100000 in
theorem fs_act (hK : zKK ST) {w c v : Int} (hT : zTJ none μ) {ls : List (Int × List zIw × List zIw)} (hL : fr_L μ 0 ls) (h5 : μ 205 5 = 0) (hb205 : sx_bit Wm 205 = true) (hb206 : sx_bit Wm 206 = true) (hb207 : sx_bit Wm 207 = true) (hb210 : sx_bit Wm 210 = true) (hb224 : sx_bit Wm 224 = true) (hb225 : sx_bit Wm 225 = true) (hbd : 7 ≤ bud.1 ∧ 161 ≤ bud.2.1) : zC D Wm ST b0 l Sg zM150 bud [(2, 205), (0, w), (0, c), (0, v)] μ (fun st' μ' => ∃ x, st' = [(0, x)] ∧ zTJ none μ' ∧ ((fa_mayP (fr_law ls) (μ 209) (μ 205 6) (μ 205 7) (μ 206) w c v ∧ x = 1 ∧ (μ' 206, μ' 210) = fa_acts (fr_law ls) (μ 209) (μ 205 7) w c v (μ 206, μ 210) ∧ μ' 207 = fa_kQ (μ 207) (μ 205 3) (μ 206) ∧ μ' 205 3 = fa_ku (μ 205 3) ∧ (∀ k : Int, k ≠ 0 → k ≠ 3 → μ' 205 k = μ 205 k) ∧ (∀ r, r ≠ 205 → r ≠ 206 → r ≠ 207 → r ≠ 210 → r ≠ 224 → r ≠ 225 → μ' r = μ r)) ∨ (¬ fa_mayP (fr_law ls) (μ 209) (μ 205 6) (μ 205 7) (μ 206) w c v ∧ x = 0 ∧ (∀ k : Int, k ≠ 0 → μ' 205 k = μ 205 k) ∧ ∀ r, r ≠ 205 → r ≠ 224 → r ≠ 225 → μ' r = μ r))) := by
  have f6 := zT_get hT zs205_6 (i := 6) (by omega) (by omega)
  have f7 := zT_get hT zs205_7 (i := 7) (by omega) (by omega)
  refine pm_blk hK zmm150 [] 3 5 [(2, 205), (0, w), (0, c), (0, v)] [] (pm_up μ 205 0 0) [sx_bit Wm 205 = true] rfl ⟨hb205, trivial⟩ ?_
  obtain ⟨μ1, eμ1⟩ : ∃ μ', μ' = pm_up μ 205 0 0 := ⟨_, rfl⟩
  rw [← eμ1]
  have hTμ1 : zTJ none μ1 := by rw [eμ1]; exact zT_upn hT zs205_0 rfl (i := 0) (by omega) (by omega) (by omega) (by omega)
  have b1 : ∀ k : Int, k ≠ 0 → μ1 205 k = μ 205 k := fun k hk => by rw [eμ1, pm_up_ne hk]
  have b2 : ∀ r, r ≠ 205 → μ1 r = μ r := fun r hr => by rw [eμ1, pm_up_row hr]
  have b6 := b1 6 (by decide)
  have b7 := b1 7 (by decide)
  have b9 := b2 209 (by decide)
  have bn := b2 206 (by decide)
  have hL1 := fr_L_fr (fun r a b => b2 r (by omega)) hL
  refine pm_blk hK zmm150 [] 4 9 [(2, 205), (0, w), (0, c), (0, v)] [(0, v), (0, c), (0, w), (2, 205)] μ1 [] rfl trivial ?_
  refine pm_call hK zmm150 (365, 0, 151, 3) zM151 (6, 138) [(2, 205), (0, w), (0, c), (0, v)] [] rfl rfl rfl rfl ⟨by omega, by rw [zn151]; omega⟩ (fs_canAct hK (ls := ls) (w := w) (c := c) (v := v) hTμ1 hL1 hb224 hb225 ⟨Nat.le_refl _, Nat.le_refl _⟩) (fun st1 μc1 hp1 => ?_)
  obtain ⟨x1, rfl, hx1, hTc1, hf1⟩ := hp1
  have hxc := hx1
  have hf1 := hf1
  rw [b6, b7, b9, bn] at hxc
  have d206 : μc1 206 = μ 206 := (hf1 206 (by decide) (by decide)).trans (b2 206 (by decide))
  have d205 : ∀ k : Int, k ≠ 0 → μc1 205 k = μ 205 k := fun k hk => by rw [hf1 205 (by decide) (by decide)]; exact b1 k hk
  have d207 : μc1 207 = μ 207 := (hf1 207 (by decide) (by decide)).trans (b2 207 (by decide))
  refine pm_if hK zmm150 .ne 5 17 rfl rfl (fun h0 => ?_) (fun h0 => ?_)
  · have h0 : x1 ≠ (0 : Int) := h0
    have hM : fa_mayP (fr_law ls) (μ 209) (μ 205 6) (μ 205 7) (μ 206) w c v := by
      rcases hxc with ⟨-, p⟩ | ⟨p, -⟩
      · exact p
      · exact absurd p (by omega)
    have hMM := hM
    unfold fa_mayP at hMM
    refine pm_blk hK zmm150 [] 1 18 [(2, 205), (0, w), (0, c), (0, v)] [(2, 205)] μc1 [] rfl trivial ?_
    refine pm_call hK zmm150 (368, 0, 153, 0) zM153 (0, 0) [(2, 205)] [] rfl rfl rfl rfl ⟨by omega, by rw [zn153]; omega⟩ (fs_keep hK hTc1 hb205 hb207 ⟨Nat.le_refl _, Nat.le_refl _⟩) (fun st2 μc2 hp2 => ?_)
    obtain ⟨rfl, hTc2, hk72, hk32, hk52, hkr2⟩ := hp2
    have k7 : μc2 207 = fa_kQ (μ 207) (μ 205 3) (μ 206) := by rw [hk72, d207, d205 3 (by decide), d206]
    have k3 : μc2 205 3 = fa_ku (μ 205 3) := by rw [hk32, d205 3 (by decide)]
    have k5 : ∀ k : Int, k ≠ 0 → k ≠ 3 → μc2 205 k = μ 205 k := fun k h0 h3 => (hk52 k h3).trans (d205 k h0)
    have k6 : μc2 206 = μ 206 := (hkr2 206 (by decide) (by decide)).trans d206
    have kr : ∀ r, r ≠ 205 → r ≠ 207 → r ≠ 224 → r ≠ 225 → μc2 r = μ r := fun r h5 h7 h4 h9 => (hkr2 r h5 h7).trans ((hf1 r h4 h9).trans (b2 r h5))
    refine pm_blk hK zmm150 [] 1 22 [(2, 205), (0, w), (0, c), (0, v)] [(0, w)] μc2 [] rfl trivial ?_
    refine pm_if hK zmm150 .ne 15 37 rfl rfl (fun h1 => ?_) (fun h1 => ?_)
    · have h1 : w ≠ (0 : Int) := h1
      refine pm_blk hK zmm150 [] 2 39 [(2, 205), (0, w), (0, c), (0, v)] [(0, 1), (0, w)] μc2 [] rfl trivial ?_
      refine pm_icmp hK zmm150 .ne 13 52 rfl rfl (fun h2 => ?_) (fun h2 => ?_)
      · have h2 : w ≠ (1 : Int) := h2
        refine pm_blk hK zmm150 [] 2 54 [(2, 205), (0, w), (0, c), (0, v)] [(0, 2), (0, w)] μc2 [] rfl trivial ?_
        refine pm_icmp hK zmm150 .ne 23 77 rfl rfl (fun h3 => ?_) (fun h3 => ?_)
        · have h3 : w ≠ (2 : Int) := h3
          refine pm_blk hK zmm150 [] 2 79 [(2, 205), (0, w), (0, c), (0, v)] [(0, 3), (0, w)] μc2 [] rfl trivial ?_
          refine pm_icmp hK zmm150 .ne 12 91 rfl rfl (fun h4 => ?_) (fun h4 => ?_)
          · have h4 : w ≠ (3 : Int) := h4
            refine pm_blk hK zmm150 [] 1 92 [(2, 205), (0, w), (0, c), (0, v)] [(0, 1)] μc2 [] rfl trivial ?_
            first
            | exact pm_zret rfl rfl (by first | exact Or.inl rfl | exact Or.inr rfl | omega) ⟨_, rfl, hTc2, Or.inl ⟨hM, rfl, hAC, j7, j3, j5, hFR⟩⟩
            | (exfalso; omega)
          · have h4 : w = (3 : Int) := h4
            refine pm_blk hK zmm150 [] 7 91 [(2, 205), (0, w), (0, c), (0, v)] [] (pm_up μc2 206 (4 + c) v) [pm_in (4 + c), sx_bit Wm 206 = true, 0 ≤ 4 + c ∧ 4 + c < 160] rfl ⟨pm_in_mk (by omega) (by omega), hb206, ⟨by omega, by omega⟩, trivial⟩ ?_
            obtain ⟨μ2, eμ2⟩ : ∃ μ', μ' = pm_up μc2 206 (4 + c) v := ⟨_, rfl⟩
            rw [← eμ2]
            have hTμ2 : zTJ none μ2 := by rw [eμ2]; exact zT_upn hTc2 zs206_4 rfl (i := 4 + c) (by omega) (by omega) (by omega) (by omega)
            have a6 : μ2 206 = fa_up (μ 206) (4 + c) (v) := by first | (exfalso; omega) | (rw [eμ2, fa_pm, k6])
            have a10 : μ2 210 = μ 210 := by first | (exfalso; omega) | (rw [eμ2, pm_up_row (by decide)]; exact kr 210 (by decide) (by decide) (by decide) (by decide))
            have hAC : (μ2 206, μ2 210) = fa_acts (fr_law ls) (μ 209) (μ 205 7) w c v (μ 206, μ 210) := by first | (exfalso; omega) | (rw [a6, a10, show w = 3 by omega, fa_acts_3])
            have hFR : (∀ r, r ≠ 205 → r ≠ 206 → r ≠ 207 → r ≠ 210 → r ≠ 224 → r ≠ 225 → μ2 r = μ r) := fun r r5 r6 r7 r10 r24 r25 => by first | (exfalso; omega) | (rw [eμ2, pm_up_row r6]; exact kr r r5 r7 r24 r25)
            have j7 : μ2 207 = fa_kQ (μ 207) (μ 205 3) (μ 206) := by first | (exfalso; omega) | (rw [eμ2, pm_up_row (by decide)]; exact k7)
            have j3 : μ2 205 3 = fa_ku (μ 205 3) := by first | (exfalso; omega) | (rw [eμ2, pm_up_off (by decide)]; exact k3)
            have j5 : ∀ k : Int, k ≠ 0 → k ≠ 3 → μ2 205 k = μ 205 k := fun k h0 h3 => by first | (exfalso; omega) | (rw [eμ2, pm_up_off (by decide)]; exact k5 k h0 h3)
            refine pm_blk hK zmm150 [] 1 92 [(2, 205), (0, w), (0, c), (0, v)] [(0, 1)] μ2 [] rfl trivial ?_
            first
            | exact pm_zret rfl rfl (by first | exact Or.inl rfl | exact Or.inr rfl | omega) ⟨_, rfl, hTμ2, Or.inl ⟨hM, rfl, hAC, j7, j3, j5, hFR⟩⟩
            | (exfalso; omega)
        · have h3 : w = (2 : Int) := h3
          have hp2 := fa_pay_e (t := fr_law ls) (pol := μ 209) (m := μ 205 7) (c := c) (N := μ 206) (by omega)
          obtain ⟨⟨q1, q2, q3, q4, q5⟩, -⟩ := hp2
          have hcb := fa_costs_b (t := fr_law ls) (N := μ 206) (pol := μ 209) (m := μ 205 7) (c := c) (s := μ 206 (106 + c) - 1)
          have fin8 := zT_get hTc2 zs206_106 (i := 106 + c) (by omega) (by omega)
          rw [k6] at fin8
          have fg9 := zT_get hTc2 zs206_4 (i := 4 + (μ 206 (106 + c) - 1)) (by omega) (by omega)
          rw [k6] at fg9
          refine pm_blk hK zmm150 [] 4 61 [(2, 205), (0, w), (0, c), (0, v)] [(0, c), (2, 205), (0, c), (2, 205)] μc2 [] rfl trivial ?_
          refine pm_call hK zmm150 (154, 0, 298, 1) zM298 (0, 0) [(2, 205), (0, c)] [(0, c), (2, 205)] rfl rfl rfl rfl ⟨by omega, by rw [zn298]; omega⟩ (fr_inN hK k6 hTc2 ⟨by omega, by omega⟩ ⟨Nat.le_refl _, Nat.le_refl _⟩) (fun st3 μc3 hp3 => ?_)
          obtain ⟨rfl, rfl⟩ := hp3
          refine pm_blk hK zmm150 [] 4 68 [(2, 205), (0, w), (0, c), (0, v)] [(0, c), (2, 205), (0, c), (2, 205), (0, μ 206 (106 + (c)) - 1), (0, c), (2, 205)] μc2 [] rfl trivial ?_
          refine pm_call hK zmm150 (154, 0, 298, 1) zM298 (0, 0) [(2, 205), (0, c)] [(0, c), (2, 205), (0, μ 206 (106 + (c)) - 1), (0, c), (2, 205)] rfl rfl rfl rfl ⟨by omega, by rw [zn298]; omega⟩ (fr_inN hK k6 hTc2 ⟨by omega, by omega⟩ ⟨Nat.le_refl _, Nat.le_refl _⟩) (fun st4 μc4 hp4 => ?_)
          obtain ⟨rfl, rfl⟩ := hp4
          have hL2 := fr_L_fr (fun r a b => kr r (by omega) (by omega) (by omega) (by omega)) hL
          have e9 := kr 209 (by decide) (by decide) (by decide) (by decide)
          have e7 := k5 7 (by decide) (by decide)
          refine pm_call hK zmm150 (359, 0, 300, 2) zM300 (4, 94) [(2, 205), (0, c), (0, μ 206 (106 + (c)) - 1)] [(0, μ 206 (106 + (c)) - 1), (0, c), (2, 205)] rfl rfl rfl rfl ⟨by omega, by rw [zn300]; omega⟩ (fr_costsOf hK (ls := ls) (N := μ 206) (pol := μ 209) (mm := μ 205 7) (c := c) (s := (μ 206 (106 + (c)) - 1)) k6 e9 e7 hL2 hTc2 ⟨by omega, by omega⟩ ⟨by omega, by omega⟩ hb224 hb225 ⟨Nat.le_refl _, Nat.le_refl _⟩) (fun st5 μc5 hp5 => ?_)
          obtain ⟨rfl, hTc5, hf5⟩ := hp5
          have hf3 := hf5
          have m6 : μc5 206 = μ 206 := (hf3 206 (by decide) (by decide)).trans k6
          refine pm_call hK zmm150 (371, 0, 308, 3) zM308 (1, 24) [(2, 205), (0, c), (0, μ 206 (106 + (c)) - 1), (0, fa_costs (fr_law ls) (μ 206) (μ 209) (μ 205 7) (c) ((μ 206 (106 + (c)) - 1)))] [] rfl rfl rfl rfl ⟨by omega, by rw [zn308]; omega⟩ (fr_bought hK (th := false) (c := c) (s := (μ 206 (106 + (c)) - 1)) (v := (fa_costs (fr_law ls) (μ 206) (μ 209) (μ 205 7) (c) ((μ 206 (106 + (c)) - 1)))) (fa_th_f (by rw [hf3 205 (by decide) (by decide), k5 5 (by decide) (by decide)]; exact h5)) hTc5 ⟨by omega, by omega⟩ ⟨by omega, by omega⟩ ⟨by omega, by omega⟩ (by rw [m6]; omega) (by rw [m6]; omega) hb206 hb210 ⟨Nat.le_refl _, Nat.le_refl _⟩) (fun st6 μc6 hp6 => ?_)
          obtain ⟨rfl, hTc6, hn6, hf6⟩ := hp6
          have hAC : (μc6 206, μc6 210) = fa_acts (fr_law ls) (μ 209) (μ 205 7) w c v (μ 206, μ 210) := by rw [show w = 2 by omega, fa_acts_2, hn6, m6, (hf3 210 (by decide) (by decide)).trans (kr 210 (by decide) (by decide) (by decide) (by decide))]
          have hFR : (∀ r, r ≠ 205 → r ≠ 206 → r ≠ 207 → r ≠ 210 → r ≠ 224 → r ≠ 225 → μc6 r = μ r) := fun r r5 r6 r7 r10 r24 r25 => (hf6 r r6 r10).trans ((hf3 r r24 r25).trans (kr r r5 r7 r24 r25))
          have j7 : μc6 207 = fa_kQ (μ 207) (μ 205 3) (μ 206) := (hf6 207 (by decide) (by decide)).trans ((hf3 207 (by decide) (by decide)).trans k7)
          have j3 : μc6 205 3 = fa_ku (μ 205 3) := by rw [hf6 205 (by decide) (by decide), hf3 205 (by decide) (by decide)]; exact k3
          have j5 : ∀ k : Int, k ≠ 0 → k ≠ 3 → μc6 205 k = μ 205 k := fun k h0 h3 => by rw [hf6 205 (by decide) (by decide), hf3 205 (by decide) (by decide)]; exact k5 k h0 h3
          refine pm_blk hK zmm150 [] 2 79 [(2, 205), (0, w), (0, c), (0, v)] [(0, 3), (0, w)] μc6 [] rfl trivial ?_
          refine pm_icmp hK zmm150 .ne 12 91 rfl rfl (fun h5 => ?_) (fun h5 => ?_)
          · have h5 : w ≠ (3 : Int) := h5
            refine pm_blk hK zmm150 [] 1 92 [(2, 205), (0, w), (0, c), (0, v)] [(0, 1)] μc6 [] rfl trivial ?_
            first
            | exact pm_zret rfl rfl (by first | exact Or.inl rfl | exact Or.inr rfl | omega) ⟨_, rfl, hTc6, Or.inl ⟨hM, rfl, hAC, j7, j3, j5, hFR⟩⟩
            | (exfalso; omega)
          · have h5 : w = (3 : Int) := h5
            exfalso
            omega
      · have h2 : w = (1 : Int) := h2
        refine pm_blk hK zmm150 [] 7 52 [(2, 205), (0, w), (0, c), (0, v)] [] (pm_up μc2 206 (106 + c) 0) [pm_in (106 + c), sx_bit Wm 206 = true, 0 ≤ 106 + c ∧ 106 + c < 160] rfl ⟨pm_in_mk (by omega) (by omega), hb206, ⟨by omega, by omega⟩, trivial⟩ ?_
        obtain ⟨μ3, eμ3⟩ : ∃ μ', μ' = pm_up μc2 206 (106 + c) 0 := ⟨_, rfl⟩
        rw [← eμ3]
        have hTμ3 : zTJ none μ3 := by rw [eμ3]; exact zT_upn hTc2 zs206_106 rfl (i := 106 + c) (by omega) (by omega) (by omega) (by omega)
        have a6 : μ3 206 = fa_up (μ 206) (106 + c) (0) := by first | (exfalso; omega) | (rw [eμ3, fa_pm, k6])
        have a10 : μ3 210 = μ 210 := by first | (exfalso; omega) | (rw [eμ3, pm_up_row (by decide)]; exact kr 210 (by decide) (by decide) (by decide) (by decide))
        have hAC : (μ3 206, μ3 210) = fa_acts (fr_law ls) (μ 209) (μ 205 7) w c v (μ 206, μ 210) := by first | (exfalso; omega) | (rw [a6, a10, show w = 1 by omega, fa_acts_1])
        have hFR : (∀ r, r ≠ 205 → r ≠ 206 → r ≠ 207 → r ≠ 210 → r ≠ 224 → r ≠ 225 → μ3 r = μ r) := fun r r5 r6 r7 r10 r24 r25 => by first | (exfalso; omega) | (rw [eμ3, pm_up_row r6]; exact kr r r5 r7 r24 r25)
        have j7 : μ3 207 = fa_kQ (μ 207) (μ 205 3) (μ 206) := by first | (exfalso; omega) | (rw [eμ3, pm_up_row (by decide)]; exact k7)
        have j3 : μ3 205 3 = fa_ku (μ 205 3) := by first | (exfalso; omega) | (rw [eμ3, pm_up_off (by decide)]; exact k3)
        have j5 : ∀ k : Int, k ≠ 0 → k ≠ 3 → μ3 205 k = μ 205 k := fun k h0 h3 => by first | (exfalso; omega) | (rw [eμ3, pm_up_off (by decide)]; exact k5 k h0 h3)
        refine pm_blk hK zmm150 [] 2 54 [(2, 205), (0, w), (0, c), (0, v)] [(0, 2), (0, w)] μ3 [] rfl trivial ?_
        refine pm_icmp hK zmm150 .ne 23 77 rfl rfl (fun h6 => ?_) (fun h6 => ?_)
        · have h6 : w ≠ (2 : Int) := h6
          refine pm_blk hK zmm150 [] 2 79 [(2, 205), (0, w), (0, c), (0, v)] [(0, 3), (0, w)] μ3 [] rfl trivial ?_
          refine pm_icmp hK zmm150 .ne 12 91 rfl rfl (fun h7 => ?_) (fun h7 => ?_)
          · have h7 : w ≠ (3 : Int) := h7
            refine pm_blk hK zmm150 [] 1 92 [(2, 205), (0, w), (0, c), (0, v)] [(0, 1)] μ3 [] rfl trivial ?_
            first
            | exact pm_zret rfl rfl (by first | exact Or.inl rfl | exact Or.inr rfl | omega) ⟨_, rfl, hTμ3, Or.inl ⟨hM, rfl, hAC, j7, j3, j5, hFR⟩⟩
            | (exfalso; omega)
          · have h7 : w = (3 : Int) := h7
            exfalso
            omega
        · have h6 : w = (2 : Int) := h6
          exfalso
          omega
    · have h1 : w = (0 : Int) := h1
      refine pm_blk hK zmm150 [] 9 37 [(2, 205), (0, w), (0, c), (0, v)] [] (pm_up μc2 206 (106 + c) (v + 1)) [pm_in (106 + c), pm_in (v + 1), sx_bit Wm 206 = true, 0 ≤ 106 + c ∧ 106 + c < 160] rfl ⟨pm_in_mk (by omega) (by omega), pm_in_mk (by omega) (by omega), hb206, ⟨by omega, by omega⟩, trivial⟩ ?_
      obtain ⟨μ4, eμ4⟩ : ∃ μ', μ' = pm_up μc2 206 (106 + c) (v + 1) := ⟨_, rfl⟩
      rw [← eμ4]
      have hTμ4 : zTJ none μ4 := by rw [eμ4]; exact zT_upn hTc2 zs206_106 rfl (i := 106 + c) (by omega) (by omega) (by omega) (by omega)
      have a6 : μ4 206 = fa_up (μ 206) (106 + c) (v + 1) := by first | (exfalso; omega) | (rw [eμ4, fa_pm, k6])
      have a10 : μ4 210 = μ 210 := by first | (exfalso; omega) | (rw [eμ4, pm_up_row (by decide)]; exact kr 210 (by decide) (by decide) (by decide) (by decide))
      have hAC : (μ4 206, μ4 210) = fa_acts (fr_law ls) (μ 209) (μ 205 7) w c v (μ 206, μ 210) := by first | (exfalso; omega) | (rw [a6, a10, show w = 0 by omega, fa_acts_0])
      have hFR : (∀ r, r ≠ 205 → r ≠ 206 → r ≠ 207 → r ≠ 210 → r ≠ 224 → r ≠ 225 → μ4 r = μ r) := fun r r5 r6 r7 r10 r24 r25 => by first | (exfalso; omega) | (rw [eμ4, pm_up_row r6]; exact kr r r5 r7 r24 r25)
      have j7 : μ4 207 = fa_kQ (μ 207) (μ 205 3) (μ 206) := by first | (exfalso; omega) | (rw [eμ4, pm_up_row (by decide)]; exact k7)
      have j3 : μ4 205 3 = fa_ku (μ 205 3) := by first | (exfalso; omega) | (rw [eμ4, pm_up_off (by decide)]; exact k3)
      have j5 : ∀ k : Int, k ≠ 0 → k ≠ 3 → μ4 205 k = μ 205 k := fun k h0 h3 => by first | (exfalso; omega) | (rw [eμ4, pm_up_off (by decide)]; exact k5 k h0 h3)
      refine pm_blk hK zmm150 [] 2 39 [(2, 205), (0, w), (0, c), (0, v)] [(0, 1), (0, w)] μ4 [] rfl trivial ?_
      refine pm_icmp hK zmm150 .ne 13 52 rfl rfl (fun h8 => ?_) (fun h8 => ?_)
      · have h8 : w ≠ (1 : Int) := h8
        refine pm_blk hK zmm150 [] 2 54 [(2, 205), (0, w), (0, c), (0, v)] [(0, 2), (0, w)] μ4 [] rfl trivial ?_
        refine pm_icmp hK zmm150 .ne 23 77 rfl rfl (fun h9 => ?_) (fun h9 => ?_)
        · have h9 : w ≠ (2 : Int) := h9
          refine pm_blk hK zmm150 [] 2 79 [(2, 205), (0, w), (0, c), (0, v)] [(0, 3), (0, w)] μ4 [] rfl trivial ?_
          refine pm_icmp hK zmm150 .ne 12 91 rfl rfl (fun h10 => ?_) (fun h10 => ?_)
          · have h10 : w ≠ (3 : Int) := h10
            refine pm_blk hK zmm150 [] 1 92 [(2, 205), (0, w), (0, c), (0, v)] [(0, 1)] μ4 [] rfl trivial ?_
            first
            | exact pm_zret rfl rfl (by first | exact Or.inl rfl | exact Or.inr rfl | omega) ⟨_, rfl, hTμ4, Or.inl ⟨hM, rfl, hAC, j7, j3, j5, hFR⟩⟩
            | (exfalso; omega)
          · have h10 : w = (3 : Int) := h10
            exfalso
            omega
        · have h9 : w = (2 : Int) := h9
          exfalso
          omega
      · have h8 : w = (1 : Int) := h8
        exfalso
        omega
  · have h0 : x1 = (0 : Int) := h0
    refine pm_blk hK zmm150 [] 1 16 [(2, 205), (0, w), (0, c), (0, v)] [(0, 0)] μc1 [] rfl trivial ?_
    have hN : ¬ fa_mayP (fr_law ls) (μ 209) (μ 205 6) (μ 205 7) (μ 206) w c v := by
      rcases hxc with ⟨p, -⟩ | ⟨-, p⟩
      · exact absurd p (by omega)
      · exact p
    exact pm_zret rfl rfl (by first | exact Or.inl rfl | exact Or.inr rfl | omega) ⟨_, rfl, hTc1, Or.inr ⟨hN, rfl, d205, fun r r5 r24 r25 => (hf1 r r24 r25).trans (b2 r r5)⟩⟩
end ZHW
