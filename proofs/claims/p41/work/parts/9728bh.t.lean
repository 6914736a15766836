/-! F: the class: small ones of an arcade; walks printed by program (wip/p30/pmgen.py) and filled by hand -/
section ZHW
variable {φ : Option pm_Mem}
variable {D : va_G} {Wm : Nat} {ST : List (String × String × String × Nat)} {b0 : sx_B} {l : Launch} {Sg : Nat → Option Nat} {bud : sx_Bu} {μ : pm_Mem} {B0 : Nat → Prop} {J : (Nat → Option Nat) → Heap → Prop}
set_option maxRecDepth 100000 in
theorem fc_bits (hK : zKK ST) {v : Int} (hv : 0 ≤ v ∧ v ≤ 262143) (hbd : 0 ≤ bud.1 ∧ 0 ≤ bud.2.1) : zC D Wm ST b0 l Sg zM217 bud [(0, v)] μ (fun st' μ' => μ = μ' ∧ st' = [(0, ((fq v.toNat 18 : Nat) : Int))]) := by
  obtain ⟨p1, p2, p3⟩ := fb_pm hv
  have q1 : fb_1 v.toNat ≤ 262143 := by omega
  obtain ⟨r1, q2⟩ := fb_p2 q1
  obtain ⟨s1, r2, q3⟩ := fb_p3 q2
  obtain ⟨r3, q4⟩ := fb_p4 q3
  obtain ⟨r4, q5⟩ := fb_p5 q4
  have r5 := fb_p6 q5
  have e : ((fb_5 (fb_4 (fb_3 (fb_2 (fb_1 v.toNat)))) &&& 63 : Nat) : Int) = ((fq v.toNat 18 : Nat) : Int) := by
    have h18 : (2 : Nat) ^ 18 = 262144 := by decide
    rw [← fb_fq 18 (v := v.toNat) (Nat.le_refl _) (by omega)]
    rfl
  refine pm_blk hK zmm217 [] 8 10 [(0, v - pm_and (pm_ushr v 1) 1431655765)] [] μ [pm_in (v - pm_and (pm_ushr v 1) 1431655765)] rfl ⟨pm_in_mk (by omega) (by omega), trivial⟩ ?_
  rw [p3]
  refine pm_blk hK zmm217 [] 10 24 [(0, pm_and ((fb_1 v.toNat : Nat) : Int) 858993459 + pm_and (pm_ushr ((fb_1 v.toNat : Nat) : Int) 2) 858993459)] [] μ [pm_in (pm_and ((fb_1 v.toNat : Nat) : Int) 858993459 + pm_and (pm_ushr ((fb_1 v.toNat : Nat) : Int) 2) 858993459)] rfl ⟨pm_in_mk (by omega) (by omega), trivial⟩ ?_
  rw [r1]
  refine pm_blk hK zmm217 [] 8 34 [(0, pm_and (((fb_2 (fb_1 v.toNat) : Nat) : Int) + pm_ushr ((fb_2 (fb_1 v.toNat) : Nat) : Int) 4) 252645135)] [] μ [pm_in (((fb_2 (fb_1 v.toNat) : Nat) : Int) + pm_ushr ((fb_2 (fb_1 v.toNat) : Nat) : Int) 4)] rfl ⟨pm_in_mk (by omega) (by omega), trivial⟩ ?_
  rw [r2]
  refine pm_blk hK zmm217 [] 6 41 [(0, ((fb_3 (fb_2 (fb_1 v.toNat)) : Nat) : Int) + pm_ushr ((fb_3 (fb_2 (fb_1 v.toNat)) : Nat) : Int) 8)] [] μ [pm_in (((fb_3 (fb_2 (fb_1 v.toNat)) : Nat) : Int) + pm_ushr ((fb_3 (fb_2 (fb_1 v.toNat)) : Nat) : Int) 8)] rfl ⟨pm_in_mk (by omega) (by omega), trivial⟩ ?_
  rw [r3]
  refine pm_blk hK zmm217 [] 6 48 [(0, ((fb_4 (fb_3 (fb_2 (fb_1 v.toNat))) : Nat) : Int) + pm_ushr ((fb_4 (fb_3 (fb_2 (fb_1 v.toNat))) : Nat) : Int) 16)] [] μ [pm_in (((fb_4 (fb_3 (fb_2 (fb_1 v.toNat))) : Nat) : Int) + pm_ushr ((fb_4 (fb_3 (fb_2 (fb_1 v.toNat))) : Nat) : Int) 16)] rfl ⟨pm_in_mk (by omega) (by omega), trivial⟩ ?_
  rw [r4]
  refine pm_blk hK zmm217 [] 3 52 [(0, ((fb_5 (fb_4 (fb_3 (fb_2 (fb_1 v.toNat)))) : Nat) : Int))] [(0, pm_and ((fb_5 (fb_4 (fb_3 (fb_2 (fb_1 v.toNat)))) : Nat) : Int) 63)] μ [] rfl trivial ?_
  rw [r5, e]
  exact pm_iret rfl rfl ⟨rfl, rfl⟩
set_option maxRecDepth 100000 in
theorem fc_isShop3 (hK : zKK ST) {s : Int} (hbd : 0 ≤ bud.1 ∧ 0 ≤ bud.2.1) : zC D Wm ST b0 l Sg zM22 bud [(2, 3), (0, s)] μ (fun st' μ' => μ = μ' ∧ st' = [(0, if 0 ≤ s ∧ s < μ 3 0 then 1 else 0)]) := by
  refine pm_blk hK zmm22 [] 1 1 [(2, 3), (0, s)] [(0, s)] μ [] rfl trivial ?_
  refine pm_if hK zmm22 .lt 15 16 rfl rfl (fun h0 => ?_) (fun h0 => ?_)
  · have h0 : s < (0 : Int) := h0
    refine pm_blk hK zmm22 [] 1 17 [(2, 3), (0, s)] [(0, 0)] μ [] rfl trivial ?_
    exact pm_zret rfl rfl (by first | exact Or.inl rfl | exact Or.inr rfl | omega) ⟨rfl, by first | rw [if_pos (by omega)] | rw [if_neg (by omega)]⟩
  · have h0 : (0 : Int) ≤ s := h0
    refine pm_blk hK zmm22 [] 3 9 [(2, 3), (0, s)] [(0, μ 3 0), (0, s)] μ [] rfl trivial ?_
    refine pm_icmp hK zmm22 .ge 7 16 rfl rfl (fun h1 => ?_) (fun h1 => ?_)
    · have h1 : μ 3 0 ≤ s := h1
      refine pm_blk hK zmm22 [] 1 17 [(2, 3), (0, s)] [(0, 0)] μ [] rfl trivial ?_
      exact pm_zret rfl rfl (by first | exact Or.inl rfl | exact Or.inr rfl | omega) ⟨rfl, by first | rw [if_pos (by omega)] | rw [if_neg (by omega)]⟩
    · have h1 : s < μ 3 0 := h1
      refine pm_blk hK zmm22 [] 2 17 [(2, 3), (0, s)] [(0, 1)] μ [] rfl trivial ?_
      exact pm_zret rfl rfl (by first | exact Or.inl rfl | exact Or.inr rfl | omega) ⟨rfl, by first | rw [if_pos (by omega)] | rw [if_neg (by omega)]⟩
set_option maxRecDepth 100000 in
theorem fc_isCustomer3 (hK : zKK ST) {s : Int} (hbd : 0 ≤ bud.1 ∧ 0 ≤ bud.2.1) : zC D Wm ST b0 l Sg zM23 bud [(2, 3), (0, s)] μ (fun st' μ' => μ = μ' ∧ st' = [(0, if 0 ≤ s ∧ s < μ 3 1 then 1 else 0)]) := by
  refine pm_blk hK zmm23 [] 1 1 [(2, 3), (0, s)] [(0, s)] μ [] rfl trivial ?_
  refine pm_if hK zmm23 .lt 15 16 rfl rfl (fun h0 => ?_) (fun h0 => ?_)
  · have h0 : s < (0 : Int) := h0
    refine pm_blk hK zmm23 [] 1 17 [(2, 3), (0, s)] [(0, 0)] μ [] rfl trivial ?_
    exact pm_zret rfl rfl (by first | exact Or.inl rfl | exact Or.inr rfl | omega) ⟨rfl, by first | rw [if_pos (by omega)] | rw [if_neg (by omega)]⟩
  · have h0 : (0 : Int) ≤ s := h0
    refine pm_blk hK zmm23 [] 3 9 [(2, 3), (0, s)] [(0, μ 3 1), (0, s)] μ [] rfl trivial ?_
    refine pm_icmp hK zmm23 .ge 7 16 rfl rfl (fun h1 => ?_) (fun h1 => ?_)
    · have h1 : μ 3 1 ≤ s := h1
      refine pm_blk hK zmm23 [] 1 17 [(2, 3), (0, s)] [(0, 0)] μ [] rfl trivial ?_
      exact pm_zret rfl rfl (by first | exact Or.inl rfl | exact Or.inr rfl | omega) ⟨rfl, by first | rw [if_pos (by omega)] | rw [if_neg (by omega)]⟩
    · have h1 : s < μ 3 1 := h1
      refine pm_blk hK zmm23 [] 2 17 [(2, 3), (0, s)] [(0, 1)] μ [] rfl trivial ?_
      exact pm_zret rfl rfl (by first | exact Or.inl rfl | exact Or.inr rfl | omega) ⟨rfl, by first | rw [if_pos (by omega)] | rw [if_neg (by omega)]⟩
set_option maxRecDepth 100000 in
theorem fc_isOpen3 (hK : zKK ST) {s : Int} (hT : zTJ φ μ) (hbd : 1 ≤ bud.1 ∧ 21 ≤ bud.2.1) : zC D Wm ST b0 l Sg zM26 bud [(2, 3), (0, s)] μ (fun st' μ' => μ = μ' ∧ st' = [(0, if (0 ≤ s ∧ s < μ 3 0) ∧ μ 7 s = 1 then 1 else 0)]) := by
  have f0 := zT_get hT zs3_0 (i := 0) (by omega) (by omega)
  refine pm_blk hK zmm26 [] 2 2 [(2, 3), (0, s)] [(0, s), (2, 3)] μ [] rfl trivial ?_
  refine pm_call hK zmm26 (72, 0, 22, 1) zM22 (0, 0) [(2, 3), (0, s)] [] rfl rfl rfl rfl ⟨by omega, by rw [zn22]; omega⟩ (fc_isShop3 hK (s := s) ⟨Nat.le_refl _, Nat.le_refl _⟩) (fun st1 μc1 hp1 => ?_)
  obtain ⟨rfl, rfl⟩ := hp1
  refine pm_if hK zmm26 .eq 17 22 rfl rfl (fun h0 => ?_) (fun h0 => ?_)
  · have h0 : (if 0 ≤ (s) ∧ (s) < μ 3 0 then 1 else 0 : Int) = (0 : Int) := h0
    have h0 := zif0 h0
    refine pm_blk hK zmm26 [] 1 23 [(2, 3), (0, s)] [(0, 0)] μ [] rfl trivial ?_
    exact pm_zret rfl rfl (by first | exact Or.inl rfl | exact Or.inr rfl | omega) ⟨rfl, by first | rw [if_pos (by omega)] | rw [if_neg (by omega)]⟩
  · have h0 : (if 0 ≤ (s) ∧ (s) < μ 3 0 then 1 else 0 : Int) ≠ (0 : Int) := h0
    have h0 := zif1 h0
    have f1 := zT_get hT zs7_0 (i := s) (by omega) (by omega)
    refine pm_blk hK zmm26 [] 5 15 [(2, 3), (0, s)] [(0, 1), (0, μ 7 s)] μ [0 ≤ s ∧ s < 12] rfl ⟨⟨by omega, by omega⟩, trivial⟩ ?_
    refine pm_icmp hK zmm26 .ne 7 22 rfl rfl (fun h1 => ?_) (fun h1 => ?_)
    · have h1 : μ 7 s ≠ (1 : Int) := h1
      refine pm_blk hK zmm26 [] 1 23 [(2, 3), (0, s)] [(0, 0)] μ [] rfl trivial ?_
      exact pm_zret rfl rfl (by first | exact Or.inl rfl | exact Or.inr rfl | omega) ⟨rfl, by first | rw [if_pos (by omega)] | rw [if_neg (by omega)]⟩
    · have h1 : μ 7 s = (1 : Int) := h1
      refine pm_blk hK zmm26 [] 2 23 [(2, 3), (0, s)] [(0, 1)] μ [] rfl trivial ?_
      exact pm_zret rfl rfl (by first | exact Or.inl rfl | exact Or.inr rfl | omega) ⟨rfl, by first | rw [if_pos (by omega)] | rw [if_neg (by omega)]⟩
set_option maxRecDepth 100000 in
theorem fc_opens3 (hK : zKK ST) {s : Int} (hT : zTJ φ μ) {N pol : Int → Int} {n m : Int} (hA : fa_A 3 n m N pol μ) (hn0 : 0 ≤ n) (hm0 : 0 ≤ m) (hq : n ≤ 12 ∧ m ≤ 18) (hs : 0 ≤ s ∧ s < n) (hb7 : sx_bit Wm 7 = true) (hb8 : sx_bit Wm 8 = true) (hb9 : sx_bit Wm 9 = true) (hbd : 0 ≤ bud.1 ∧ 0 ≤ bud.2.1) : zC D Wm ST b0 l Sg zM18 bud [(2, 3), (0, s)] μ (fun st' μ' => st' = [] ∧ zTJ φ μ' ∧ fa_A 3 n m (fa_up (fa_up (fa_up N (40 + s) 0) (52 + s) 0) (64 + s) 0) pol μ' ∧ (∀ r, r ≠ 7 → r ≠ 8 → r ≠ 9 → μ' r = μ r)) := by
  refine pm_blk hK zmm18 [] 5 7 [(2, 3), (0, s)] [] (pm_up μ 7 s 1) [sx_bit Wm 7 = true, 0 ≤ s ∧ s < 12] rfl ⟨hb7, ⟨by omega, by omega⟩, trivial⟩ ?_
  obtain ⟨μ1, eμ1⟩ : ∃ μ', μ' = pm_up μ 7 s 1 := ⟨_, rfl⟩
  rw [← eμ1]
  have hTμ1 : zTJ φ μ1 := by rw [eμ1]; exact zT_up hT zs7_0 rfl (i := s) (by omega) (by omega) (by omega) (by omega)
  have hA1 := fa_w_open (v := 1) (x := 0) hA hq hs.1 hs.2 (by omega)
  refine pm_blk hK zmm18 [] 5 14 [(2, 3), (0, s)] [] (pm_up μ1 8 s ((-1))) [sx_bit Wm 8 = true, 0 ≤ s ∧ s < 12] rfl ⟨hb8, ⟨by omega, by omega⟩, trivial⟩ ?_
  obtain ⟨μ2, eμ2⟩ : ∃ μ', μ' = pm_up μ1 8 s ((-1)) := ⟨_, rfl⟩
  rw [← eμ2]
  have hTμ2 : zTJ φ μ2 := by rw [eμ2]; exact zT_up hTμ1 zs8_0 rfl (i := s) (by omega) (by omega) (by omega) (by omega)
  have hA2 := fa_w_last (v := -1) (x := 0) hA1 hq hs.1 hs.2 (by omega)
  refine pm_blk hK zmm18 [] 5 21 [(2, 3), (0, s)] [] (pm_up μ2 9 s ((-1))) [sx_bit Wm 9 = true, 0 ≤ s ∧ s < 12] rfl ⟨hb9, ⟨by omega, by omega⟩, trivial⟩ ?_
  obtain ⟨μ3, eμ3⟩ : ∃ μ', μ' = pm_up μ2 9 s ((-1)) := ⟨_, rfl⟩
  rw [← eμ3]
  have hTμ3 : zTJ φ μ3 := by rw [eμ3]; exact zT_up hTμ2 zs9_0 rfl (i := s) (by omega) (by omega) (by omega) (by omega)
  have hA3 := fa_w_before (v := -1) (x := 0) hA2 hq hs.1 hs.2 (by omega)
  exact pm_vret rfl rfl ⟨rfl, hTμ3, by rw [eμ3, eμ2, eμ1]; exact hA3, fun r x y z => by rw [eμ3, pm_up_row z, eμ2, pm_up_row y, eμ1, pm_up_row x]⟩
set_option maxRecDepth 100000 in
theorem fc_bl3 (hK : zKK ST) {c s : Int} (hT : zTJ φ μ) {N pol : Int → Int} {n m : Int} (hA : fa_A 3 n m N pol μ) (hn0 : 0 ≤ n) (hm0 : 0 ≤ m) (hq : n ≤ 12 ∧ m ≤ 18) (hc : 0 ≤ c ∧ c < m) (hs : 0 ≤ s ∧ s < n) (hb8 : sx_bit Wm 8 = true) (hb9 : sx_bit Wm 9 = true) (hbd : 0 ≤ bud.1 ∧ 0 ≤ bud.2.1) : zC D Wm ST b0 l Sg zM225 bud [(2, 3), (0, c), (0, s)] μ (fun st' μ' => st' = [] ∧ zTJ φ μ' ∧ fa_A 3 n m (fa_last N c s) pol μ' ∧ (∀ r, r ≠ 8 → r ≠ 9 → μ' r = μ r)) := by
  have r5 : μ 8 s = N (52 + s) - 1 := fa_r_last hA hs.1 hs.2
  have f1 := zT_get hT zs8_0 (i := s) (by omega) (by omega)
  refine pm_blk hK zmm225 [] 5 7 [(2, 3), (0, c), (0, s)] [(0, c), (0, μ 8 s)] μ [0 ≤ s ∧ s < 12] rfl ⟨⟨by omega, by omega⟩, trivial⟩ ?_
  refine pm_icmp hK zmm225 .eq 15 22 rfl rfl (fun h0 => ?_) (fun h0 => ?_)
  · have h0 : μ 8 s = c := h0
    refine pm_blk hK zmm225 [] 5 29 [(2, 3), (0, c), (0, s)] [] (pm_up μ 8 s c) [sx_bit Wm 8 = true, 0 ≤ s ∧ s < 12] rfl ⟨hb8, ⟨by omega, by omega⟩, trivial⟩ ?_
    obtain ⟨μ1, eμ1⟩ : ∃ μ', μ' = pm_up μ 8 s c := ⟨_, rfl⟩
    rw [← eμ1]
    have hTμ1 : zTJ φ μ1 := by rw [eμ1]; exact zT_up hT zs8_0 rfl (i := s) (by omega) (by omega) (by omega) (by omega)
    first
    | exact pm_vret rfl rfl ⟨rfl, hTμ1, by rw [eμ1]; exact fc_last_y hA hq hs (by omega), fun r x y => by rw [eμ1, pm_up_row x]⟩
    | exact pm_vret rfl rfl ⟨rfl, hTμ1, by rw [eμ1, eμ]; exact fc_last_n hA hq hs (by omega) r5, fun r x y => by rw [eμ1, pm_up_row x, eμ, pm_up_row y]⟩
    | (exfalso; omega)
  · have h0 : μ 8 s ≠ c := h0
    refine pm_blk hK zmm225 [] 8 22 [(2, 3), (0, c), (0, s)] [] (pm_up μ 9 s (μ 8 s)) [0 ≤ s ∧ s < 12, sx_bit Wm 9 = true, 0 ≤ s ∧ s < 12] rfl ⟨⟨by omega, by omega⟩, hb9, ⟨by omega, by omega⟩, trivial⟩ ?_
    obtain ⟨μ2, eμ2⟩ : ∃ μ', μ' = pm_up μ 9 s (μ 8 s) := ⟨_, rfl⟩
    rw [← eμ2]
    have hTμ2 : zTJ φ μ2 := by rw [eμ2]; exact zT_up hT zs9_0 rfl (i := s) (by omega) (by omega) (by omega) (by omega)
    refine pm_blk hK zmm225 [] 5 29 [(2, 3), (0, c), (0, s)] [] (pm_up μ2 8 s c) [sx_bit Wm 8 = true, 0 ≤ s ∧ s < 12] rfl ⟨hb8, ⟨by omega, by omega⟩, trivial⟩ ?_
    obtain ⟨μ3, eμ3⟩ : ∃ μ', μ' = pm_up μ2 8 s c := ⟨_, rfl⟩
    rw [← eμ3]
    have hTμ3 : zTJ φ μ3 := by rw [eμ3]; exact zT_up hTμ2 zs8_0 rfl (i := s) (by omega) (by omega) (by omega) (by omega)
    first
    | exact pm_vret rfl rfl ⟨rfl, hTμ3, by rw [eμ3]; exact fc_last_y hA hq hs (by omega), fun r x y => by rw [eμ3, pm_up_row x]⟩
    | exact pm_vret rfl rfl ⟨rfl, hTμ3, by rw [eμ3, eμ2]; exact fc_last_n hA hq hs (by omega) r5, fun r x y => by rw [eμ3, pm_up_row x, eμ2, pm_up_row y]⟩
    | (exfalso; omega)
set_option maxRecDepth 100000 in
theorem fc_inl3 (hK : zKK ST)  {μ : pm_Mem} {s : Int} {N pol : Int → Int} {n m : Int} (hT : zTJ φ μ) (hA : fa_A 3 n m N pol μ) (hm : m ≤ 18) (hbd : 0 ≤ bud.1 ∧ 0 ≤ bud.2.1) : ∀ (nM : Nat) {z c : Int}, (m - c).toNat = nM → ∀ (hc : 0 ≤ c ∧ c ≤ m) (hz : z = ((fq_set N s c.toNat : Nat) : Int)), zW D Wm ST b0 l Sg zM216 bud (pm_X zM216 (fun st' μ' => μ = μ' ∧ st' = [(0, ((fq_set N s m.toNat : Nat) : Int))])) 4 [(2, 3), (0, s), (0, z), (0, c)] [] μ := by
  intro nM
  induction nM using Nat.strongRecOn with
  | ind nM ih =>
    intro z c hn hc hz
    have a1 := hA.1.2.1
    have hlt := fq_set_lt N s c.toNat
    have hp : 2 ^ c.toNat ≤ 2 ^ 18 := Nat.pow_le_pow_right (by decide) (by omega)
    have ec : ((c.toNat : Nat) : Int) = c := by omega
    have es := fq_set_s N s c.toNat
    rw [ec] at es
    have f1 := zT_get hT zs3_1 (i := 1) (by omega) (by omega)
    refine pm_blk hK zmm216 [] 3 9 [(2, 3), (0, s), (0, z), (0, c)] [(0, μ 3 1), (0, c)] μ [] rfl trivial ?_
    refine pm_icmp hK zmm216 .ge 25 34 rfl rfl (fun h0 => ?_) (fun h0 => ?_)
    · have h0 : μ 3 1 ≤ c := h0
      refine pm_blk hK zmm216 [] 1 35 [(2, 3), (0, s), (0, z), (0, c)] [(0, z)] μ [] rfl trivial ?_
      have ek : c = m := by omega
      exact pm_iret rfl rfl ⟨rfl, by rw [hz, ek]⟩
    · have h0 : c < μ 3 1 := h0
      have rin : μ 13 c = N (106 + c) - 1 := fa_r_in hA (by omega) (by omega)
      have f2 := zT_get hT zs13_0 (i := c) (by omega) (by omega)
      refine pm_blk hK zmm216 [] 5 19 [(2, 3), (0, s), (0, z), (0, c)] [(0, s), (0, μ 13 c)] μ [0 ≤ c ∧ c < 18] rfl ⟨⟨by omega, by omega⟩, trivial⟩ ?_
      refine pm_icmp hK zmm216 .ne 9 28 rfl rfl (fun h1 => ?_) (fun h1 => ?_)
      · have h1 : μ 13 c ≠ s := h1
        refine pm_blk hK zmm216 [] 2 4 [(2, 3), (0, s), (0, z), (0, c + 1)] [] μ [pm_in (c + 1)] rfl ⟨pm_in_mk (by omega) (by omega), trivial⟩ ?_
        refine ih _ (by omega) rfl ⟨by omega, by omega⟩ ?_
        rw [show (c + 1).toNat = c.toNat + 1 by omega]
        first
        | (rw [es, e1, hz]; exact eo)
        | (rw [es, if_neg (by omega)]; exact hz)
        | (exfalso; omega)
      · have h1 : μ 13 c = s := h1
        have hin : N (106 + c) = s + 1 := by omega
        have e1 := zshl1 c.toNat (by omega)
        rw [ec] at e1
        have eo := zor (x := z) (y := ((2 ^ c.toNat : Nat) : Int)) (by omega) (by omega) (by omega) (by omega)
        rw [Int.toNat_natCast, hz, Int.toNat_natCast] at eo
        rw [if_pos hin] at es
        refine pm_blk hK zmm216 [] 8 4 [(2, 3), (0, s), (0, pm_or z (pm_shl 1 c)), (0, c + 1)] [] μ [pm_in (c + 1)] rfl ⟨pm_in_mk (by omega) (by omega), trivial⟩ ?_
        refine ih _ (by omega) rfl ⟨by omega, by omega⟩ ?_
        rw [show (c + 1).toNat = c.toNat + 1 by omega]
        first
        | (rw [es, e1, hz]; exact eo)
        | (rw [es, if_neg (by omega)]; exact hz)
        | (exfalso; omega)
set_option maxRecDepth 100000 in
theorem fc_inside3 (hK : zKK ST) {s : Int} (hT : zTJ φ μ) {N pol : Int → Int} {n m : Int} (hA : fa_A 3 n m N pol μ) (hn0 : 0 ≤ n) (hm0 : 0 ≤ m) (hq : n ≤ 12 ∧ m ≤ 18)  (hbd : 0 ≤ bud.1 ∧ 0 ≤ bud.2.1) : zC D Wm ST b0 l Sg zM216 bud [(2, 3), (0, s)] μ (fun st' μ' => μ = μ' ∧ st' = [(0, ((fq_set N s m.toNat : Nat) : Int))]) := by
  refine pm_blk hK zmm216 [] 4 4 [(2, 3), (0, s), (0, 0), (0, 0)] [] μ [] rfl trivial ?_
  exact fc_inl3 hK hT hA hq.2 hbd _ rfl ⟨by omega, by omega⟩ rfl
set_option maxRecDepth 100000 in
theorem fc_crowd3 (hK : zKK ST) {s : Int} (hT : zTJ φ μ) {N pol : Int → Int} {n m : Int} (hA : fa_A 3 n m N pol μ) (hn0 : 0 ≤ n) (hm0 : 0 ≤ m) (hq : n ≤ 12 ∧ m ≤ 18)  (hbd : 1 ≤ bud.1 ∧ 23 ≤ bud.2.1) : zC D Wm ST b0 l Sg zM215 bud [(2, 3), (0, s)] μ (fun st' μ' => μ = μ' ∧ st' = [(0, fa_crowd N s m.toNat)]) := by
  refine pm_blk hK zmm215 [] 2 2 [(2, 3), (0, s)] [(0, s), (2, 3)] μ [] rfl trivial ?_
  refine pm_call hK zmm215 (78, 0, 216, 1) zM216 (0, 0) [(2, 3), (0, s)] [] rfl rfl rfl rfl ⟨by omega, by rw [zn216]; omega⟩ (fc_inside3 hK (s := s) hT hA hn0 hm0 hq ⟨Nat.le_refl _, Nat.le_refl _⟩) (fun st1 μc1 hp1 => ?_)
  obtain ⟨rfl, rfl⟩ := hp1
  have hlt := fq_set_lt N (s) m.toNat
  have hp : 2 ^ m.toNat ≤ 2 ^ 18 := Nat.pow_le_pow_right (by decide) (by omega)
  have hp8 : (2 : Nat) ^ 18 = 262144 := by decide
  refine pm_call hK zmm215 (82, 1, 217, 1) zM217 (0, 0) [(0, ((fq_set N (s) m.toNat : Nat) : Int))] [] rfl rfl rfl rfl ⟨by omega, by rw [zn217]; omega⟩ (fc_bits hK (v := (((fq_set N (s) m.toNat : Nat) : Int))) ⟨by omega, by omega⟩ ⟨Nat.le_refl _, Nat.le_refl _⟩) (fun st2 μc2 hp2 => ?_)
  obtain ⟨rfl, rfl⟩ := hp2
  exact pm_iret rfl rfl ⟨rfl, by rw [Int.toNat_natCast, fr_crowd (by omega)]⟩
set_option maxRecDepth 100000 in
theorem fc_isShop182 (hK : zKK ST) {s : Int} (hbd : 0 ≤ bud.1 ∧ 0 ≤ bud.2.1) : zC D Wm ST b0 l Sg zM22 bud [(2, 182), (0, s)] μ (fun st' μ' => μ = μ' ∧ st' = [(0, if 0 ≤ s ∧ s < μ 182 0 then 1 else 0)]) := by
  refine pm_blk hK zmm22 [] 1 1 [(2, 182), (0, s)] [(0, s)] μ [] rfl trivial ?_
  refine pm_if hK zmm22 .lt 15 16 rfl rfl (fun h0 => ?_) (fun h0 => ?_)
  · have h0 : s < (0 : Int) := h0
    refine pm_blk hK zmm22 [] 1 17 [(2, 182), (0, s)] [(0, 0)] μ [] rfl trivial ?_
    exact pm_zret rfl rfl (by first | exact Or.inl rfl | exact Or.inr rfl | omega) ⟨rfl, by first | rw [if_pos (by omega)] | rw [if_neg (by omega)]⟩
  · have h0 : (0 : Int) ≤ s := h0
    refine pm_blk hK zmm22 [] 3 9 [(2, 182), (0, s)] [(0, μ 182 0), (0, s)] μ [] rfl trivial ?_
    refine pm_icmp hK zmm22 .ge 7 16 rfl rfl (fun h1 => ?_) (fun h1 => ?_)
    · have h1 : μ 182 0 ≤ s := h1
      refine pm_blk hK zmm22 [] 1 17 [(2, 182), (0, s)] [(0, 0)] μ [] rfl trivial ?_
      exact pm_zret rfl rfl (by first | exact Or.inl rfl | exact Or.inr rfl | omega) ⟨rfl, by first | rw [if_pos (by omega)] | rw [if_neg (by omega)]⟩
    · have h1 : s < μ 182 0 := h1
      refine pm_blk hK zmm22 [] 2 17 [(2, 182), (0, s)] [(0, 1)] μ [] rfl trivial ?_
      exact pm_zret rfl rfl (by first | exact Or.inl rfl | exact Or.inr rfl | omega) ⟨rfl, by first | rw [if_pos (by omega)] | rw [if_neg (by omega)]⟩
set_option maxRecDepth 100000 in
theorem fc_isCustomer182 (hK : zKK ST) {s : Int} (hbd : 0 ≤ bud.1 ∧ 0 ≤ bud.2.1) : zC D Wm ST b0 l Sg zM23 bud [(2, 182), (0, s)] μ (fun st' μ' => μ = μ' ∧ st' = [(0, if 0 ≤ s ∧ s < μ 182 1 then 1 else 0)]) := by
  refine pm_blk hK zmm23 [] 1 1 [(2, 182), (0, s)] [(0, s)] μ [] rfl trivial ?_
  refine pm_if hK zmm23 .lt 15 16 rfl rfl (fun h0 => ?_) (fun h0 => ?_)
  · have h0 : s < (0 : Int) := h0
    refine pm_blk hK zmm23 [] 1 17 [(2, 182), (0, s)] [(0, 0)] μ [] rfl trivial ?_
    exact pm_zret rfl rfl (by first | exact Or.inl rfl | exact Or.inr rfl | omega) ⟨rfl, by first | rw [if_pos (by omega)] | rw [if_neg (by omega)]⟩
  · have h0 : (0 : Int) ≤ s := h0
    refine pm_blk hK zmm23 [] 3 9 [(2, 182), (0, s)] [(0, μ 182 1), (0, s)] μ [] rfl trivial ?_
    refine pm_icmp hK zmm23 .ge 7 16 rfl rfl (fun h1 => ?_) (fun h1 => ?_)
    · have h1 : μ 182 1 ≤ s := h1
      refine pm_blk hK zmm23 [] 1 17 [(2, 182), (0, s)] [(0, 0)] μ [] rfl trivial ?_
      exact pm_zret rfl rfl (by first | exact Or.inl rfl | exact Or.inr rfl | omega) ⟨rfl, by first | rw [if_pos (by omega)] | rw [if_neg (by omega)]⟩
    · have h1 : s < μ 182 1 := h1
      refine pm_blk hK zmm23 [] 2 17 [(2, 182), (0, s)] [(0, 1)] μ [] rfl trivial ?_
      exact pm_zret rfl rfl (by first | exact Or.inl rfl | exact Or.inr rfl | omega) ⟨rfl, by first | rw [if_pos (by omega)] | rw [if_neg (by omega)]⟩
set_option maxRecDepth 100000 in
theorem fc_isOpen182 (hK : zKK ST) {s : Int} (hT : zTJ φ μ) (hbd : 1 ≤ bud.1 ∧ 21 ≤ bud.2.1) : zC D Wm ST b0 l Sg zM26 bud [(2, 182), (0, s)] μ (fun st' μ' => μ = μ' ∧ st' = [(0, if (0 ≤ s ∧ s < μ 182 0) ∧ μ 186 s = 1 then 1 else 0)]) := by
  have f0 := zT_get hT zs182_0 (i := 0) (by omega) (by omega)
  refine pm_blk hK zmm26 [] 2 2 [(2, 182), (0, s)] [(0, s), (2, 182)] μ [] rfl trivial ?_
  refine pm_call hK zmm26 (72, 0, 22, 1) zM22 (0, 0) [(2, 182), (0, s)] [] rfl rfl rfl rfl ⟨by omega, by rw [zn22]; omega⟩ (fc_isShop182 hK (s := s) ⟨Nat.le_refl _, Nat.le_refl _⟩) (fun st1 μc1 hp1 => ?_)
  obtain ⟨rfl, rfl⟩ := hp1
  refine pm_if hK zmm26 .eq 17 22 rfl rfl (fun h0 => ?_) (fun h0 => ?_)
  · have h0 : (if 0 ≤ (s) ∧ (s) < μ 182 0 then 1 else 0 : Int) = (0 : Int) := h0
    have h0 := zif0 h0
    refine pm_blk hK zmm26 [] 1 23 [(2, 182), (0, s)] [(0, 0)] μ [] rfl trivial ?_
    exact pm_zret rfl rfl (by first | exact Or.inl rfl | exact Or.inr rfl | omega) ⟨rfl, by first | rw [if_pos (by omega)] | rw [if_neg (by omega)]⟩
  · have h0 : (if 0 ≤ (s) ∧ (s) < μ 182 0 then 1 else 0 : Int) ≠ (0 : Int) := h0
    have h0 := zif1 h0
    have f1 := zT_get hT zs186_0 (i := s) (by omega) (by omega)
    refine pm_blk hK zmm26 [] 5 15 [(2, 182), (0, s)] [(0, 1), (0, μ 186 s)] μ [0 ≤ s ∧ s < 12] rfl ⟨⟨by omega, by omega⟩, trivial⟩ ?_
    refine pm_icmp hK zmm26 .ne 7 22 rfl rfl (fun h1 => ?_) (fun h1 => ?_)
    · have h1 : μ 186 s ≠ (1 : Int) := h1
      refine pm_blk hK zmm26 [] 1 23 [(2, 182), (0, s)] [(0, 0)] μ [] rfl trivial ?_
      exact pm_zret rfl rfl (by first | exact Or.inl rfl | exact Or.inr rfl | omega) ⟨rfl, by first | rw [if_pos (by omega)] | rw [if_neg (by omega)]⟩
    · have h1 : μ 186 s = (1 : Int) := h1
      refine pm_blk hK zmm26 [] 2 23 [(2, 182), (0, s)] [(0, 1)] μ [] rfl trivial ?_
      exact pm_zret rfl rfl (by first | exact Or.inl rfl | exact Or.inr rfl | omega) ⟨rfl, by first | rw [if_pos (by omega)] | rw [if_neg (by omega)]⟩
set_option maxRecDepth 100000 in
theorem fc_opens182 (hK : zKK ST) {s : Int} (hT : zTJ φ μ) {N pol : Int → Int} {n m : Int} (hA : fa_A 182 n m N pol μ) (hn0 : 0 ≤ n) (hm0 : 0 ≤ m) (hq : n ≤ 12 ∧ m ≤ 18) (hs : 0 ≤ s ∧ s < n) (hb186 : sx_bit Wm 186 = true) (hb187 : sx_bit Wm 187 = true) (hb188 : sx_bit Wm 188 = true) (hbd : 0 ≤ bud.1 ∧ 0 ≤ bud.2.1) : zC D Wm ST b0 l Sg zM18 bud [(2, 182), (0, s)] μ (fun st' μ' => st' = [] ∧ zTJ φ μ' ∧ fa_A 182 n m (fa_up (fa_up (fa_up N (40 + s) 0) (52 + s) 0) (64 + s) 0) pol μ' ∧ (∀ r, r ≠ 186 → r ≠ 187 → r ≠ 188 → μ' r = μ r)) := by
  refine pm_blk hK zmm18 [] 5 7 [(2, 182), (0, s)] [] (pm_up μ 186 s 1) [sx_bit Wm 186 = true, 0 ≤ s ∧ s < 12] rfl ⟨hb186, ⟨by omega, by omega⟩, trivial⟩ ?_
  obtain ⟨μ1, eμ1⟩ : ∃ μ', μ' = pm_up μ 186 s 1 := ⟨_, rfl⟩
  rw [← eμ1]
  have hTμ1 : zTJ φ μ1 := by rw [eμ1]; exact zT_up hT zs186_0 rfl (i := s) (by omega) (by omega) (by omega) (by omega)
  have hA1 := fa_w_open (v := 1) (x := 0) hA hq hs.1 hs.2 (by omega)
  refine pm_blk hK zmm18 [] 5 14 [(2, 182), (0, s)] [] (pm_up μ1 187 s ((-1))) [sx_bit Wm 187 = true, 0 ≤ s ∧ s < 12] rfl ⟨hb187, ⟨by omega, by omega⟩, trivial⟩ ?_
  obtain ⟨μ2, eμ2⟩ : ∃ μ', μ' = pm_up μ1 187 s ((-1)) := ⟨_, rfl⟩
  rw [← eμ2]
  have hTμ2 : zTJ φ μ2 := by rw [eμ2]; exact zT_up hTμ1 zs187_0 rfl (i := s) (by omega) (by omega) (by omega) (by omega)
  have hA2 := fa_w_last (v := -1) (x := 0) hA1 hq hs.1 hs.2 (by omega)
  refine pm_blk hK zmm18 [] 5 21 [(2, 182), (0, s)] [] (pm_up μ2 188 s ((-1))) [sx_bit Wm 188 = true, 0 ≤ s ∧ s < 12] rfl ⟨hb188, ⟨by omega, by omega⟩, trivial⟩ ?_
  obtain ⟨μ3, eμ3⟩ : ∃ μ', μ' = pm_up μ2 188 s ((-1)) := ⟨_, rfl⟩
  rw [← eμ3]
  have hTμ3 : zTJ φ μ3 := by rw [eμ3]; exact zT_up hTμ2 zs188_0 rfl (i := s) (by omega) (by omega) (by omega) (by omega)
  have hA3 := fa_w_before (v := -1) (x := 0) hA2 hq hs.1 hs.2 (by omega)
  exact pm_vret rfl rfl ⟨rfl, hTμ3, by rw [eμ3, eμ2, eμ1]; exact hA3, fun r x y z => by rw [eμ3, pm_up_row z, eμ2, pm_up_row y, eμ1, pm_up_row x]⟩
set_option maxRecDepth 100000 in
theorem fc_bl182 (hK : zKK ST) {c s : Int} (hT : zTJ φ μ) {N pol : Int → Int} {n m : Int} (hA : fa_A 182 n m N pol μ) (hn0 : 0 ≤ n) (hm0 : 0 ≤ m) (hq : n ≤ 12 ∧ m ≤ 18) (hc : 0 ≤ c ∧ c < m) (hs : 0 ≤ s ∧ s < n) (hb187 : sx_bit Wm 187 = true) (hb188 : sx_bit Wm 188 = true) (hbd : 0 ≤ bud.1 ∧ 0 ≤ bud.2.1) : zC D Wm ST b0 l Sg zM225 bud [(2, 182), (0, c), (0, s)] μ (fun st' μ' => st' = [] ∧ zTJ φ μ' ∧ fa_A 182 n m (fa_last N c s) pol μ' ∧ (∀ r, r ≠ 187 → r ≠ 188 → μ' r = μ r)) := by
  have r5 : μ 187 s = N (52 + s) - 1 := fa_r_last hA hs.1 hs.2
  have f1 := zT_get hT zs187_0 (i := s) (by omega) (by omega)
  refine pm_blk hK zmm225 [] 5 7 [(2, 182), (0, c), (0, s)] [(0, c), (0, μ 187 s)] μ [0 ≤ s ∧ s < 12] rfl ⟨⟨by omega, by omega⟩, trivial⟩ ?_
  refine pm_icmp hK zmm225 .eq 15 22 rfl rfl (fun h0 => ?_) (fun h0 => ?_)
  · have h0 : μ 187 s = c := h0
    refine pm_blk hK zmm225 [] 5 29 [(2, 182), (0, c), (0, s)] [] (pm_up μ 187 s c) [sx_bit Wm 187 = true, 0 ≤ s ∧ s < 12] rfl ⟨hb187, ⟨by omega, by omega⟩, trivial⟩ ?_
    obtain ⟨μ1, eμ1⟩ : ∃ μ', μ' = pm_up μ 187 s c := ⟨_, rfl⟩
    rw [← eμ1]
    have hTμ1 : zTJ φ μ1 := by rw [eμ1]; exact zT_up hT zs187_0 rfl (i := s) (by omega) (by omega) (by omega) (by omega)
    first
    | exact pm_vret rfl rfl ⟨rfl, hTμ1, by rw [eμ1]; exact fc_last_y hA hq hs (by omega), fun r x y => by rw [eμ1, pm_up_row x]⟩
    | exact pm_vret rfl rfl ⟨rfl, hTμ1, by rw [eμ1, eμ]; exact fc_last_n hA hq hs (by omega) r5, fun r x y => by rw [eμ1, pm_up_row x, eμ, pm_up_row y]⟩
    | (exfalso; omega)
  · have h0 : μ 187 s ≠ c := h0
    refine pm_blk hK zmm225 [] 8 22 [(2, 182), (0, c), (0, s)] [] (pm_up μ 188 s (μ 187 s)) [0 ≤ s ∧ s < 12, sx_bit Wm 188 = true, 0 ≤ s ∧ s < 12] rfl ⟨⟨by omega, by omega⟩, hb188, ⟨by omega, by omega⟩, trivial⟩ ?_
    obtain ⟨μ2, eμ2⟩ : ∃ μ', μ' = pm_up μ 188 s (μ 187 s) := ⟨_, rfl⟩
    rw [← eμ2]
    have hTμ2 : zTJ φ μ2 := by rw [eμ2]; exact zT_up hT zs188_0 rfl (i := s) (by omega) (by omega) (by omega) (by omega)
    refine pm_blk hK zmm225 [] 5 29 [(2, 182), (0, c), (0, s)] [] (pm_up μ2 187 s c) [sx_bit Wm 187 = true, 0 ≤ s ∧ s < 12] rfl ⟨hb187, ⟨by omega, by omega⟩, trivial⟩ ?_
    obtain ⟨μ3, eμ3⟩ : ∃ μ', μ' = pm_up μ2 187 s c := ⟨_, rfl⟩
    rw [← eμ3]
    have hTμ3 : zTJ φ μ3 := by rw [eμ3]; exact zT_up hTμ2 zs187_0 rfl (i := s) (by omega) (by omega) (by omega) (by omega)
    first
    | exact pm_vret rfl rfl ⟨rfl, hTμ3, by rw [eμ3]; exact fc_last_y hA hq hs (by omega), fun r x y => by rw [eμ3, pm_up_row x]⟩
    | exact pm_vret rfl rfl ⟨rfl, hTμ3, by rw [eμ3, eμ2]; exact fc_last_n hA hq hs (by omega) r5, fun r x y => by rw [eμ3, pm_up_row x, eμ2, pm_up_row y]⟩
    | (exfalso; omega)
set_option maxRecDepth 100000 in
theorem fc_inl182 (hK : zKK ST)  {μ : pm_Mem} {s : Int} {N pol : Int → Int} {n m : Int} (hT : zTJ φ μ) (hA : fa_A 182 n m N pol μ) (hm : m ≤ 18) (hbd : 0 ≤ bud.1 ∧ 0 ≤ bud.2.1) : ∀ (nM : Nat) {z c : Int}, (m - c).toNat = nM → ∀ (hc : 0 ≤ c ∧ c ≤ m) (hz : z = ((fq_set N s c.toNat : Nat) : Int)), zW D Wm ST b0 l Sg zM216 bud (pm_X zM216 (fun st' μ' => μ = μ' ∧ st' = [(0, ((fq_set N s m.toNat : Nat) : Int))])) 4 [(2, 182), (0, s), (0, z), (0, c)] [] μ := by
  intro nM
  induction nM using Nat.strongRecOn with
  | ind nM ih =>
    intro z c hn hc hz
    have a1 := hA.1.2.1
    have hlt := fq_set_lt N s c.toNat
    have hp : 2 ^ c.toNat ≤ 2 ^ 18 := Nat.pow_le_pow_right (by decide) (by omega)
    have ec : ((c.toNat : Nat) : Int) = c := by omega
    have es := fq_set_s N s c.toNat
    rw [ec] at es
    have f1 := zT_get hT zs182_1 (i := 1) (by omega) (by omega)
    refine pm_blk hK zmm216 [] 3 9 [(2, 182), (0, s), (0, z), (0, c)] [(0, μ 182 1), (0, c)] μ [] rfl trivial ?_
    refine pm_icmp hK zmm216 .ge 25 34 rfl rfl (fun h0 => ?_) (fun h0 => ?_)
    · have h0 : μ 182 1 ≤ c := h0
      refine pm_blk hK zmm216 [] 1 35 [(2, 182), (0, s), (0, z), (0, c)] [(0, z)] μ [] rfl trivial ?_
      have ek : c = m := by omega
      exact pm_iret rfl rfl ⟨rfl, by rw [hz, ek]⟩
    · have h0 : c < μ 182 1 := h0
      have rin : μ 192 c = N (106 + c) - 1 := fa_r_in hA (by omega) (by omega)
      have f2 := zT_get hT zs192_0 (i := c) (by omega) (by omega)
      refine pm_blk hK zmm216 [] 5 19 [(2, 182), (0, s), (0, z), (0, c)] [(0, s), (0, μ 192 c)] μ [0 ≤ c ∧ c < 18] rfl ⟨⟨by omega, by omega⟩, trivial⟩ ?_
      refine pm_icmp hK zmm216 .ne 9 28 rfl rfl (fun h1 => ?_) (fun h1 => ?_)
      · have h1 : μ 192 c ≠ s := h1
        refine pm_blk hK zmm216 [] 2 4 [(2, 182), (0, s), (0, z), (0, c + 1)] [] μ [pm_in (c + 1)] rfl ⟨pm_in_mk (by omega) (by omega), trivial⟩ ?_
        refine ih _ (by omega) rfl ⟨by omega, by omega⟩ ?_
        rw [show (c + 1).toNat = c.toNat + 1 by omega]
        first
        | (rw [es, e1, hz]; exact eo)
        | (rw [es, if_neg (by omega)]; exact hz)
        | (exfalso; omega)
      · have h1 : μ 192 c = s := h1
        have hin : N (106 + c) = s + 1 := by omega
        have e1 := zshl1 c.toNat (by omega)
        rw [ec] at e1
        have eo := zor (x := z) (y := ((2 ^ c.toNat : Nat) : Int)) (by omega) (by omega) (by omega) (by omega)
        rw [Int.toNat_natCast, hz, Int.toNat_natCast] at eo
        rw [if_pos hin] at es
        refine pm_blk hK zmm216 [] 8 4 [(2, 182), (0, s), (0, pm_or z (pm_shl 1 c)), (0, c + 1)] [] μ [pm_in (c + 1)] rfl ⟨pm_in_mk (by omega) (by omega), trivial⟩ ?_
        refine ih _ (by omega) rfl ⟨by omega, by omega⟩ ?_
        rw [show (c + 1).toNat = c.toNat + 1 by omega]
        first
        | (rw [es, e1, hz]; exact eo)
        | (rw [es, if_neg (by omega)]; exact hz)
        | (exfalso; omega)
set_option maxRecDepth 100000 in
theorem fc_inside182 (hK : zKK ST) {s : Int} (hT : zTJ φ μ) {N pol : Int → Int} {n m : Int} (hA : fa_A 182 n m N pol μ) (hn0 : 0 ≤ n) (hm0 : 0 ≤ m) (hq : n ≤ 12 ∧ m ≤ 18)  (hbd : 0 ≤ bud.1 ∧ 0 ≤ bud.2.1) : zC D Wm ST b0 l Sg zM216 bud [(2, 182), (0, s)] μ (fun st' μ' => μ = μ' ∧ st' = [(0, ((fq_set N s m.toNat : Nat) : Int))]) := by
  refine pm_blk hK zmm216 [] 4 4 [(2, 182), (0, s), (0, 0), (0, 0)] [] μ [] rfl trivial ?_
  exact fc_inl182 hK hT hA hq.2 hbd _ rfl ⟨by omega, by omega⟩ rfl
set_option maxRecDepth 100000 in
theorem fc_crowd182 (hK : zKK ST) {s : Int} (hT : zTJ φ μ) {N pol : Int → Int} {n m : Int} (hA : fa_A 182 n m N pol μ) (hn0 : 0 ≤ n) (hm0 : 0 ≤ m) (hq : n ≤ 12 ∧ m ≤ 18)  (hbd : 1 ≤ bud.1 ∧ 23 ≤ bud.2.1) : zC D Wm ST b0 l Sg zM215 bud [(2, 182), (0, s)] μ (fun st' μ' => μ = μ' ∧ st' = [(0, fa_crowd N s m.toNat)]) := by
  refine pm_blk hK zmm215 [] 2 2 [(2, 182), (0, s)] [(0, s), (2, 182)] μ [] rfl trivial ?_
  refine pm_call hK zmm215 (78, 0, 216, 1) zM216 (0, 0) [(2, 182), (0, s)] [] rfl rfl rfl rfl ⟨by omega, by rw [zn216]; omega⟩ (fc_inside182 hK (s := s) hT hA hn0 hm0 hq ⟨Nat.le_refl _, Nat.le_refl _⟩) (fun st1 μc1 hp1 => ?_)
  obtain ⟨rfl, rfl⟩ := hp1
  have hlt := fq_set_lt N (s) m.toNat
  have hp : 2 ^ m.toNat ≤ 2 ^ 18 := Nat.pow_le_pow_right (by decide) (by omega)
  have hp8 : (2 : Nat) ^ 18 = 262144 := by decide
  refine pm_call hK zmm215 (82, 1, 217, 1) zM217 (0, 0) [(0, ((fq_set N (s) m.toNat : Nat) : Int))] [] rfl rfl rfl rfl ⟨by omega, by rw [zn217]; omega⟩ (fc_bits hK (v := (((fq_set N (s) m.toNat : Nat) : Int))) ⟨by omega, by omega⟩ ⟨Nat.le_refl _, Nat.le_refl _⟩) (fun st2 μc2 hp2 => ?_)
  obtain ⟨rfl, rfl⟩ := hp2
  exact pm_iret rfl rfl ⟨rfl, by rw [Int.toNat_natCast, fr_crowd (by omega)]⟩
end ZHW
