/-! F: the class: what is paid, sold, pushed; walks printed by program (wip/p30/pmgen.py) and filled by hand -/
section ZHW
variable {φ : Option pm_Mem}
variable {D : va_G} {Wm : Nat} {ST : List (String × String × String × Nat)} {b0 : sx_B} {l : Launch} {Sg : Nat → Option Nat} {bud : sx_Bu} {μ : pm_Mem} {B0 : Nat → Prop} {J : (Nat → Option Nat) → Heap → Prop}
set_option maxRecDepth 100000 in
theorem fc_pay3 (hK : zKK ST) {c : Int} (hT : zTJ φ μ) {N pol : Int → Int} {n m : Int} (hA : fa_A 3 n m N pol μ) (hn0 : 0 ≤ n) (hm0 : 0 ≤ m) (hq : n ≤ 12 ∧ m ≤ 18) (hI : fa_I n m N) {ls : List (Int × List zIw × List zIw)} (hL : fc_L (μ 17 2) (μ 18) (μ 19) 0 ls) (hl16 : μ 17 2 ≤ 16) (hb178 : sx_bit Wm 178 = true) (hb179 : sx_bit Wm 179 = true) (hbd : 4 ≤ bud.1 ∧ 96 ≤ bud.2.1) : zC D Wm ST b0 l Sg zM33 bud [(2, 180), (2, 3), (0, c)] μ (fun st' μ' => st' = [(0, fa_pay (fr_law ls) pol m c N)] ∧ zTJ φ μ' ∧ (∀ r, r ≠ 178 → r ≠ 179 → μ' r = μ r)) := by
  have a0 := hA.1.1
  have a1 := hA.1.2.1
  refine pm_blk hK zmm33 [] 2 2 [(2, 180), (2, 3), (0, c), (9, 0), (9, 0)] [(0, c), (2, 3)] μ [] rfl trivial ?_
  refine pm_call hK zmm33 (72, 0, 23, 1) zM23 (0, 0) [(2, 3), (0, c)] [] rfl rfl rfl rfl ⟨by omega, by rw [zn23]; omega⟩ (fc_isCustomer3 hK (s := c) ⟨Nat.le_refl _, Nat.le_refl _⟩) (fun st1 μc1 hp1 => ?_)
  obtain ⟨rfl, rfl⟩ := hp1
  refine pm_if hK zmm33 .ne 5 10 rfl rfl (fun h0 => ?_) (fun h0 => ?_)
  · have h0 : (if 0 ≤ (c) ∧ (c) < μ 3 1 then 1 else 0 : Int) ≠ (0 : Int) := h0
    have h0 := zif1 h0
    have f1 := zT_get hT zs13_0 (i := c) (by omega) (by omega)
    refine pm_blk hK zmm33 [] 5 17 [(2, 180), (2, 3), (0, c), (0, μ 13 c), (9, 0)] [] μ [0 ≤ c ∧ c < 18] rfl ⟨⟨by omega, by omega⟩, trivial⟩ ?_
    have rin : μ 13 c = N (106 + c) - 1 := fa_r_in hA (by omega) (by omega)
    have hbi := (fa_I_c hI (c := c) (by omega) (by omega)).2
    have ropen : 0 ≤ μ 13 c → μ 7 (μ 13 c) = 1 - N (40 + (N (106 + c) - 1)) := fun h => by
      have this : μ 7 (μ 13 c) = 1 - N (40 + μ 13 c) := fa_r_open hA h (by omega)
      rw [this, rin]
    have rgoods : 0 ≤ μ 13 c → μ 4 (μ 13 c) = N (4 + (N (106 + c) - 1)) := fun h => by
      have this : μ 4 (μ 13 c) = N (4 + μ 13 c) := fa_r_goods hA h (by omega)
      rw [this, rin]
    have hgb : 0 ≤ N (106 + c) - 1 → 0 ≤ N (4 + (N (106 + c) - 1)) := fun h => (fa_I_s hI h (by omega)).1.1
    refine pm_blk hK zmm33 [] 2 19 [(2, 180), (2, 3), (0, c), (0, μ 13 c), (9, 0)] [(0, μ 13 c), (2, 3)] μ [] rfl trivial ?_
    refine pm_call hK zmm33 (112, 0, 26, 1) zM26 (1, 21) [(2, 3), (0, μ 13 c)] [] rfl rfl rfl rfl ⟨by omega, by rw [zn26]; omega⟩ (fc_isOpen3 hK (s := (μ 13 c)) hT ⟨Nat.le_refl _, Nat.le_refl _⟩) (fun st2 μc2 hp2 => ?_)
    obtain ⟨rfl, rfl⟩ := hp2
    refine pm_if hK zmm33 .eq 13 35 rfl rfl (fun h1 => ?_) (fun h1 => ?_)
    · have h1 : (if (0 ≤ ((μ 13 c)) ∧ ((μ 13 c)) < μ 3 0) ∧ μ 7 ((μ 13 c)) = 1 then 1 else 0 : Int) = (0 : Int) := h1
      have h1 := zif0 h1
      refine pm_blk hK zmm33 [] 1 36 [(2, 180), (2, 3), (0, c), (0, μ 13 c), (9, 0)] [(0, (-1))] μ [] rfl trivial ?_
      exact pm_iret rfl rfl ⟨by rw [fa_pay_n (fun k => by have r1 := ropen (by omega); have r2 := rgoods (by omega); have k2 := k.2.1; have k3 := k.2.2.1; have k4 := k.2.2.2.1; have k5 := hgb (by omega); omega)], hT, fun _ _ _ => rfl⟩
    · have h1 : (if (0 ≤ ((μ 13 c)) ∧ ((μ 13 c)) < μ 3 0) ∧ μ 7 ((μ 13 c)) = 1 then 1 else 0 : Int) ≠ (0 : Int) := h1
      have h1 := zif1 h1
      have f2 := zT_get hT zs4_0 (i := μ 13 c) (by omega) (by omega)
      refine pm_blk hK zmm33 [] 5 32 [(2, 180), (2, 3), (0, c), (0, μ 13 c), (9, 0)] [(0, 1), (0, μ 4 (μ 13 c))] μ [0 ≤ μ 13 c ∧ μ 13 c < 12] rfl ⟨⟨by omega, by omega⟩, trivial⟩ ?_
      refine pm_icmp hK zmm33 .ge 5 37 rfl rfl (fun h2 => ?_) (fun h2 => ?_)
      · have h2 : (1 : Int) ≤ μ 4 (μ 13 c) := h2
        refine pm_blk hK zmm33 [] 9 54 [(2, 180), (2, 3), (0, c), (0, μ 13 c), (9, 0)] [(0, μ 13 c), (0, c), (0, 302), (2, 3), (2, 17), (2, 177)] μ [] rfl trivial ?_
        have hLc := hL
        have hLn := hl16
        refine pm_call hK zmm33 (127, 0, 213, 5) zM213 (3, 67) [(2, 177), (2, 17), (2, 3), (0, 302), (0, c), (0, μ 13 c)] [] rfl rfl rfl rfl ⟨by omega, by rw [zn213]; omega⟩ (fc_asked3 hK (w := 302) (c := c) (s := (μ 13 c)) hT hA hn0 hm0 hq hLc hLn (by omega) ⟨by omega, by omega⟩ ⟨by omega, by omega⟩ hb178 hb179 ⟨Nat.le_refl _, Nat.le_refl _⟩) (fun st3 μc3 hp3 => ?_)
        obtain ⟨rfl, hTc3, hfa3⟩ := hp3
        have hfa := hfa3
        have hA2 := fa_A_78 hA hfa3 (by decide)
        have rpu : μc3 11 c = N (88 + c) := fa_r_purse hA2 (by omega) (by omega)
        rw [fa_ask_2, show fa_costs (fr_law ls) N pol m c (μ 13 c) = fa_costs (fr_law ls) N pol m c (N (106 + c) - 1) by rw [rin]]
        have f3 := zT_get hTc3 zs11_0 (i := c) (by omega) (by omega)
        refine pm_blk hK zmm33 [] 6 67 [(2, 180), (2, 3), (0, c), (0, μ 13 c), (0, fa_costs (fr_law ls) N pol m c (N (106 + c) - 1))] [(0, μc3 11 c), (0, fa_costs (fr_law ls) N pol m c (N (106 + c) - 1))] μc3 [0 ≤ c ∧ c < 18] rfl ⟨⟨by omega, by omega⟩, trivial⟩ ?_
        refine pm_icmp hK zmm33 .gt 8 75 rfl rfl (fun h3 => ?_) (fun h3 => ?_)
        · have h3 : μc3 11 c < fa_costs (fr_law ls) N pol m c (N (106 + c) - 1) := h3
          refine pm_blk hK zmm33 [] 1 76 [(2, 180), (2, 3), (0, c), (0, μ 13 c), (0, fa_costs (fr_law ls) N pol m c (N (106 + c) - 1))] [(0, (-1))] μc3 [] rfl trivial ?_
          have r1 := ropen (by omega)
          have r2 := rgoods (by omega)
          first
          | exact pm_iret rfl rfl ⟨by rw [fa_pay_y ⟨⟨by omega, by omega⟩, by omega, by omega, by omega, by omega⟩], hTc3, hfa⟩
          | exact pm_iret rfl rfl ⟨by rw [fa_pay_n (fun k => absurd k.2.2.2.2 (by omega))], hTc3, hfa⟩
          | (exfalso; omega)
        · have h3 : fa_costs (fr_law ls) N pol m c (N (106 + c) - 1) ≤ μc3 11 c := h3
          refine pm_blk hK zmm33 [] 2 76 [(2, 180), (2, 3), (0, c), (0, μ 13 c), (0, fa_costs (fr_law ls) N pol m c (N (106 + c) - 1))] [(0, fa_costs (fr_law ls) N pol m c (N (106 + c) - 1))] μc3 [] rfl trivial ?_
          have r1 := ropen (by omega)
          have r2 := rgoods (by omega)
          first
          | exact pm_iret rfl rfl ⟨by rw [fa_pay_y ⟨⟨by omega, by omega⟩, by omega, by omega, by omega, by omega⟩], hTc3, hfa⟩
          | exact pm_iret rfl rfl ⟨by rw [fa_pay_n (fun k => absurd k.2.2.2.2 (by omega))], hTc3, hfa⟩
          | (exfalso; omega)
      · have h2 : μ 4 (μ 13 c) < (1 : Int) := h2
        refine pm_blk hK zmm33 [] 1 36 [(2, 180), (2, 3), (0, c), (0, μ 13 c), (9, 0)] [(0, (-1))] μ [] rfl trivial ?_
        exact pm_iret rfl rfl ⟨by rw [fa_pay_n (fun k => by have r1 := ropen (by omega); have r2 := rgoods (by omega); have k2 := k.2.1; have k3 := k.2.2.1; have k4 := k.2.2.2.1; have k5 := hgb (by omega); omega)], hT, fun _ _ _ => rfl⟩
  · have h0 : (if 0 ≤ (c) ∧ (c) < μ 3 1 then 1 else 0 : Int) = (0 : Int) := h0
    have h0 := zif0 h0
    refine pm_blk hK zmm33 [] 1 9 [(2, 180), (2, 3), (0, c), (9, 0), (9, 0)] [(0, (-1))] μ [] rfl trivial ?_
    exact pm_iret rfl rfl ⟨by rw [fa_pay_n (fun k => absurd k.1 (by omega))], hT, fun _ _ _ => rfl⟩
set_option maxRecDepth 100000 in
theorem fc_sell3 (hK : zKK ST) {c v : Int} (hT : zTJ φ μ) {N B pol : Int → Int} {n m : Int} (hC : fa_C false 3 n m (N, B) pol μ) (hn0 : 0 ≤ n) (hm0 : 0 ≤ m) (hq : n ≤ 12 ∧ m ≤ 18) (hI : fa_I n m N) {s : Int} (hc : 0 ≤ c ∧ c < m) (hs : 0 ≤ s ∧ s < n) (hi : N (106 + c) - 1 = s) (hg : 1 ≤ N (4 + s)) (hv : 0 ≤ v ∧ v ≤ N (88 + c)) (hb2 : sx_bit Wm 2 = true) (hb3 : sx_bit Wm 3 = true) (hb4 : sx_bit Wm 4 = true) (hb5 : sx_bit Wm 5 = true) (hb6 : sx_bit Wm 6 = true) (hb7 : sx_bit Wm 7 = true) (hb8 : sx_bit Wm 8 = true) (hb9 : sx_bit Wm 9 = true) (hb10 : sx_bit Wm 10 = true) (hb11 : sx_bit Wm 11 = true) (hb12 : sx_bit Wm 12 = true) (hb13 : sx_bit Wm 13 = true) (hb14 : sx_bit Wm 14 = true) (hb15 : sx_bit Wm 15 = true) (hb16 : sx_bit Wm 16 = true) (hb178 : sx_bit Wm 178 = true) (hb179 : sx_bit Wm 179 = true) (hbd : 3 ≤ bud.1 ∧ 69 ≤ bud.2.1) : zC D Wm ST b0 l Sg zM224 bud [(2, 180), (2, 3), (0, c), (0, v)] μ (fun st' μ' => st' = [] ∧ zTJ φ μ' ∧ fa_C false 3 n m (fa_bought false c s v (N, B)) pol μ' ∧ fa_fr fc_L3 μ μ') := by
  have hF : fa_fr fc_L3 μ μ := fa_fr_0
  have hA : fa_A 3 n m N pol μ := hC.1
  have a0 := hA.1.1
  have a1 := hA.1.2.1
  have rin : μ 13 c = s := (fa_r_in hA hc.1 hc.2 : μ 13 c = N (106 + c) - 1).trans hi
  have rg : μ 4 s = N (4 + s) := fa_r_goods hA hs.1 hs.2
  have rp : μ 11 c = N (88 + c) := fa_r_purse hA hc.1 hc.2
  have rt : μ 6 s = N (28 + s) := fa_r_till hA hs.1 hs.2
  have rb : μ 15 c = N (142 + c) := fa_r_bought hA hc.1 hc.2
  have hgg := (fa_I_s hI hs.1 hs.2).1
  have hpp := (fa_I_c hI hc.1 hc.2).1
  have rg2 : μ 4 (μ 13 c) = N (4 + s) := by rw [rin]; exact rg
  refine pm_blk hK zmm224 [60, 70] 2 2 [(2, 180), (2, 3), (0, c), (0, v), (9, 0)] [(0, c), (2, 3)] μ [] rfl trivial ?_
  refine pm_call hK zmm224 (72, 0, 23, 1) zM23 (0, 0) [(2, 3), (0, c)] [] rfl rfl rfl rfl ⟨by omega, by rw [zn23]; omega⟩ (fc_isCustomer3 hK (s := c) ⟨Nat.le_refl _, Nat.le_refl _⟩) (fun st1 μc1 hp1 => ?_)
  obtain ⟨rfl, rfl⟩ := hp1
  refine pm_if hK zmm224 .eq 12 17 rfl rfl (fun h0 => ?_) (fun h0 => ?_)
  · have h0 : (if 0 ≤ (c) ∧ (c) < μ 3 1 then 1 else 0 : Int) = (0 : Int) := h0
    have h0 := zif0 h0
    exfalso
    omega
  · have h0 : (if 0 ≤ (c) ∧ (c) < μ 3 1 then 1 else 0 : Int) ≠ (0 : Int) := h0
    have h0 := zif1 h0
    have f1 := zT_get hT zs13_0 (i := c) (by omega) (by omega)
    refine pm_blk hK zmm224 [60, 70] 8 23 [(2, 180), (2, 3), (0, c), (0, v), (0, μ 13 c)] [(0, μ 13 c), (2, 3)] μ [0 ≤ c ∧ c < 18] rfl ⟨⟨by omega, by omega⟩, trivial⟩ ?_
    refine pm_call hK zmm224 (85, 0, 22, 1) zM22 (0, 0) [(2, 3), (0, μ 13 c)] [] rfl rfl rfl rfl ⟨by omega, by rw [zn22]; omega⟩ (fc_isShop3 hK (s := (μ 13 c)) ⟨Nat.le_refl _, Nat.le_refl _⟩) (fun st2 μc2 hp2 => ?_)
    obtain ⟨rfl, rfl⟩ := hp2
    refine pm_if hK zmm224 .ne 4 30 rfl rfl (fun h1 => ?_) (fun h1 => ?_)
    · have h1 : (if 0 ≤ ((μ 13 c)) ∧ ((μ 13 c)) < μ 3 0 then 1 else 0 : Int) ≠ (0 : Int) := h1
      have h1 := zif1 h1
      refine pm_blk hK zmm224 [60, 70] 3 36 [(2, 180), (2, 3), (0, c), (0, v), (0, μ 13 c)] [(0, μ 13 c), (2, 4)] μ [] rfl trivial ?_
      refine zp_dup2 hK zmm224 rfl ?_
      have f2 := zT_get hT zs4_0 (i := μ 13 c) (by omega) (by omega)
      refine pm_blk hK zmm224 [60, 70] 4 41 [(2, 180), (2, 3), (0, c), (0, v), (0, μ 13 c)] [] (pm_up μ 4 (μ 13 c) ((μ 4 (μ 13 c)) - 1)) [0 ≤ μ 13 c ∧ μ 13 c < 12, pm_in ((μ 4 (μ 13 c)) - 1), sx_bit Wm 4 = true, 0 ≤ μ 13 c ∧ μ 13 c < 12] rfl ⟨⟨by omega, by omega⟩, pm_in_mk (by omega) (by omega), hb4, ⟨by omega, by omega⟩, trivial⟩ ?_
      obtain ⟨μ1, eμ1⟩ : ∃ μ', μ' = pm_up μ 4 (μ 13 c) ((μ 4 (μ 13 c)) - 1) := ⟨_, rfl⟩
      rw [← eμ1]
      have hTμ1 : zTJ φ μ1 := by rw [eμ1]; exact zT_up hT zs4_0 rfl (i := μ 13 c) (by omega) (by omega) (by omega) (by omega)
      have hF := fa_fr_st hF eμ1 rfl
      have hC1 : fa_C false 3 n m ((fa_up N (4 + s) (N (4 + s) - 1)), B) pol μ1 := by rw [eμ1, rg2, rin]; exact fa_C_w hC (fa_w_goods hA hq hs.1 hs.2 (by omega)) ⟨by decide, by decide⟩ (fa_up_ne (by omega))
      refine pm_blk hK zmm224 [60, 70] 3 46 [(2, 180), (2, 3), (0, c), (0, v), (0, μ 13 c)] [(0, c), (2, 11)] μ1 [] rfl trivial ?_
      refine zp_dup2 hK zmm224 rfl ?_
      have g3 : μ1 11 c = μ 11 c := by rw [eμ1, pm_up_off (by decide)]
      have f4 := zT_get hTμ1 zs11_0 (i := c) (by omega) (by omega)
      refine pm_blk hK zmm224 [60, 70] 4 51 [(2, 180), (2, 3), (0, c), (0, v), (0, μ 13 c)] [] (pm_up μ1 11 c ((μ1 11 c) - v)) [0 ≤ c ∧ c < 18, pm_in ((μ1 11 c) - v), sx_bit Wm 11 = true, 0 ≤ c ∧ c < 18] rfl ⟨⟨by omega, by omega⟩, pm_in_mk (by omega) (by omega), hb11, ⟨by omega, by omega⟩, trivial⟩ ?_
      obtain ⟨μ2, eμ2⟩ : ∃ μ', μ' = pm_up μ1 11 c ((μ1 11 c) - v) := ⟨_, rfl⟩
      rw [← eμ2]
      have hTμ2 : zTJ φ μ2 := by rw [eμ2]; exact zT_up hTμ1 zs11_0 rfl (i := c) (by omega) (by omega) (by omega) (by omega)
      have hF := fa_fr_st hF eμ2 rfl
      have g2 : μ1 11 c = N (88 + c) := by rw [eμ1, pm_up_off (by decide)]; exact rp
      have hC2 : fa_C false 3 n m ((fa_up (fa_up N (4 + s) (N (4 + s) - 1)) (88 + c) (N (88 + c) - v)), B) pol μ2 := by rw [eμ2, g2]; exact fa_C_w hC1 (fa_w_purse hC1.1 hq hc.1 hc.2 rfl) ⟨by decide, by decide⟩ (fa_up_ne (by omega))
      refine pm_blk hK zmm224 [60, 70] 3 57 [(2, 180), (2, 3), (0, c), (0, v), (0, μ 13 c)] [(0, μ 13 c), (2, 6)] μ2 [] rfl trivial ?_
      refine zp_dup2 hK zmm224 rfl ?_
      have g5 : μ2 6 (μ 13 c) = μ 6 (μ 13 c) := by rw [eμ2, pm_up_off (by decide), eμ1, pm_up_off (by decide)]
      have f6 := zT_get hTμ2 zs6_0 (i := μ 13 c) (by omega) (by omega)
      have w7 := zw32 ((μ2 6 (μ 13 c)) + v)
      refine pm_blk hK zmm224 [60, 70] 4 62 [(2, 180), (2, 3), (0, c), (0, v), (0, μ 13 c)] [] (pm_up μ2 6 (μ 13 c) (pm_w32 ((μ2 6 (μ 13 c)) + v))) [0 ≤ μ 13 c ∧ μ 13 c < 12, sx_bit Wm 6 = true, 0 ≤ μ 13 c ∧ μ 13 c < 12] rfl ⟨⟨by omega, by omega⟩, hb6, ⟨by omega, by omega⟩, trivial⟩ ?_
      obtain ⟨μ3, eμ3⟩ : ∃ μ', μ' = pm_up μ2 6 (μ 13 c) (pm_w32 ((μ2 6 (μ 13 c)) + v)) := ⟨_, rfl⟩
      rw [← eμ3]
      have hTμ3 : zTJ φ μ3 := by rw [eμ3]; exact zT_up hTμ2 zs6_0 rfl (i := μ 13 c) (by omega) (by omega) (by omega) (by omega)
      have hF := fa_fr_st hF eμ3 rfl
      have g3 : μ2 6 (μ 13 c) = N (28 + s) := by rw [eμ2, pm_up_off (by decide), eμ1, pm_up_off (by decide), rin]; exact rt
      have hC3 : fa_C false 3 n m ((fa_up (fa_up (fa_up N (4 + s) (N (4 + s) - 1)) (88 + c) (N (88 + c) - v)) (28 + s) (pm_w32 (N (28 + s) + v))), B) pol μ3 := by rw [eμ3, g3, rin]; exact fa_C_w hC2 (fa_w_till hC2.1 hq hs.1 hs.2 rfl) ⟨by decide, by decide⟩ (fa_up_ne (by omega))
      refine pm_blk hK zmm224 [60, 70] 3 67 [(2, 180), (2, 3), (0, c), (0, v), (0, μ 13 c)] [(0, c), (2, 15)] μ3 [] rfl trivial ?_
      refine zp_dup2 hK zmm224 rfl ?_
      have g8 : μ3 15 c = μ 15 c := by rw [eμ3, pm_up_off (by decide), eμ2, pm_up_off (by decide), eμ1, pm_up_off (by decide)]
      have f9 := zT_get hTμ3 zs15_0 (i := c) (by omega) (by omega)
      have w10 := zw32 ((μ3 15 c) + 1)
      refine pm_blk hK zmm224 [60, 70] 4 72 [(2, 180), (2, 3), (0, c), (0, v), (0, μ 13 c)] [] (pm_up μ3 15 c (pm_w32 ((μ3 15 c) + 1))) [0 ≤ c ∧ c < 18, sx_bit Wm 15 = true, 0 ≤ c ∧ c < 18] rfl ⟨⟨by omega, by omega⟩, hb15, ⟨by omega, by omega⟩, trivial⟩ ?_
      obtain ⟨μ4, eμ4⟩ : ∃ μ', μ' = pm_up μ3 15 c (pm_w32 ((μ3 15 c) + 1)) := ⟨_, rfl⟩
      rw [← eμ4]
      have hTμ4 : zTJ φ μ4 := by rw [eμ4]; exact zT_up hTμ3 zs15_0 rfl (i := c) (by omega) (by omega) (by omega) (by omega)
      have hF := fa_fr_st hF eμ4 rfl
      have g4 : μ3 15 c = N (142 + c) := by rw [eμ3, pm_up_off (by decide), eμ2, pm_up_off (by decide), eμ1, pm_up_off (by decide)]; exact rb
      have hC4 : fa_C false 3 n m ((fa_up (fa_up (fa_up (fa_up N (4 + s) (N (4 + s) - 1)) (88 + c) (N (88 + c) - v)) (28 + s) (pm_w32 (N (28 + s) + v))) (142 + c) (pm_w32 (N (142 + c) + 1))), B) pol μ4 := by rw [eμ4, g4]; exact fa_C_w hC3 (fa_w_bought hC3.1 hq hc.1 hc.2 rfl) ⟨by decide, by decide⟩ (fa_up_ne (by omega))
      refine pm_blk hK zmm224 [60, 70] 3 76 [(2, 180), (2, 3), (0, c), (0, v), (0, μ 13 c)] [(0, μ 13 c), (0, c), (2, 3)] μ4 [] rfl trivial ?_
      refine pm_call hK zmm224 (101, 0, 225, 2) zM225 (0, 0) [(2, 3), (0, c), (0, μ 13 c)] [] rfl rfl rfl rfl ⟨by omega, by rw [zn225]; omega⟩ (fc_bl3 hK (c := c) (s := (μ 13 c)) hTμ4 hC4.1 hn0 hm0 hq ⟨by omega, by omega⟩ ⟨by omega, by omega⟩ hb8 hb9 ⟨Nat.le_refl _, Nat.le_refl _⟩) (fun st3 μc3 hp3 => ?_)
      obtain ⟨rfl, hTc3, hAl3, hfl3⟩ := hp3
      have hAl := hAl3
      have hfl := hfl3
      have hF := fa_fr_t hF (fa_fr_2 hfl3 rfl rfl)
      rw [rin] at hAl
      have hC5 := fa_C_m hC4 hAl (hfl 2 (by decide) (by decide)) (hfl 16 (by decide) (by decide)) (fa_last_3 hs.1)
      refine pm_blk hK zmm224 [60, 70] 4 83 [(2, 180), (2, 3), (0, c), (0, v), (0, μ 13 c)] [(0, v), (0, c), (0, 0), (2, 180)] μc3 [] rfl trivial ?_
      refine pm_call hK zmm224 (105, 0, 226, 3) zM226 (2, 46) [(2, 180), (0, 0), (0, c), (0, v)] [] rfl rfl rfl rfl ⟨by omega, by rw [zn226]; omega⟩ (fc_note3 hK (k := 0) (w := c) (v := v) hTc3 hC5 hn0 hm0 hq ⟨by omega, by omega⟩ ⟨by omega, by omega⟩ ⟨by omega, by omega⟩ hb2 hb16 ⟨Nat.le_refl _, Nat.le_refl _⟩) (fun st4 μc4 hp4 => ?_)
      obtain ⟨rfl, hTc4, hCc4, hFk4⟩ := hp4
      have hCn := hCc4
      have hF := fa_fr_t hF hFk4
      first
      | (exfalso; omega)
      | exact pm_vret rfl rfl ⟨rfl, hTc4, by rw [fc_bought_e ⟨by omega, by omega⟩ ⟨by omega, by omega⟩]; exact hCn, hF⟩
      | (exfalso; omega)
    · have h1 : (if 0 ≤ ((μ 13 c)) ∧ ((μ 13 c)) < μ 3 0 then 1 else 0 : Int) = (0 : Int) := h1
      have h1 := zif0 h1
      first
      | (exfalso; omega)
      | exact pm_vret rfl rfl ⟨rfl, hT, by rw [fc_bought_e ⟨by omega, by omega⟩ ⟨by omega, by omega⟩]; exact hCn, hF⟩
      | (exfalso; omega)
set_option maxRecDepth 100000 in
theorem fc_push3 (hK : zKK ST) {s c : Int} (hT : zTJ φ μ) {N B pol : Int → Int} {n m : Int} (hC : fa_C false 3 n m (N, B) pol μ) (hn0 : 0 ≤ n) (hm0 : 0 ≤ m) (hq : n ≤ 12 ∧ m ≤ 18) (hI : fa_I n m N) (hc : 0 ≤ c ∧ c < m) (hs : 0 ≤ s ∧ s < n) (hb2 : sx_bit Wm 2 = true) (hb3 : sx_bit Wm 3 = true) (hb4 : sx_bit Wm 4 = true) (hb5 : sx_bit Wm 5 = true) (hb6 : sx_bit Wm 6 = true) (hb7 : sx_bit Wm 7 = true) (hb8 : sx_bit Wm 8 = true) (hb9 : sx_bit Wm 9 = true) (hb10 : sx_bit Wm 10 = true) (hb11 : sx_bit Wm 11 = true) (hb12 : sx_bit Wm 12 = true) (hb13 : sx_bit Wm 13 = true) (hb14 : sx_bit Wm 14 = true) (hb15 : sx_bit Wm 15 = true) (hb16 : sx_bit Wm 16 = true) (hb178 : sx_bit Wm 178 = true) (hb179 : sx_bit Wm 179 = true) (hbd : 3 ≤ bud.1 ∧ 69 ≤ bud.2.1) : zC D Wm ST b0 l Sg zM229 bud [(2, 180), (2, 3), (0, s), (0, c)] μ (fun st' μ' => st' = [] ∧ zTJ φ μ' ∧ fa_C false 3 n m (fa_deed false 3 s c (N, B)) pol μ' ∧ fa_fr fc_L3 μ μ') := by
  have hF : fa_fr fc_L3 μ μ := fa_fr_0
  have hA : fa_A 3 n m N pol μ := hC.1
  have a0 := hA.1.1
  have a1 := hA.1.2.1
  have rg : μ 4 s = N (4 + s) := fa_r_goods hA hs.1 hs.2
  have rb : μ 15 c = N (142 + c) := fa_r_bought hA hc.1 hc.2
  have hgg := (fa_I_s hI hs.1 hs.2).1
  have f1 := zT_get hT zs4_0 (i := s) (by omega) (by omega)
  refine pm_blk hK zmm229 [37] 5 7 [(2, 180), (2, 3), (0, s), (0, c)] [(0, 1), (0, μ 4 s)] μ [0 ≤ s ∧ s < 12] rfl ⟨⟨by omega, by omega⟩, trivial⟩ ?_
  refine pm_icmp hK zmm229 .lt 11 18 rfl rfl (fun h0 => ?_) (fun h0 => ?_)
  · have h0 : μ 4 s < (1 : Int) := h0
    first
    | (exfalso; omega)
    | exact pm_vret rfl rfl ⟨rfl, hT, by rw [fa_deed_z ⟨by decide, by decide, by decide⟩ (by omega)]; exact hC, hF⟩
    | (exfalso; omega)
  · have h0 : (1 : Int) ≤ μ 4 s := h0
    refine pm_blk hK zmm229 [37] 2 12 [(2, 180), (2, 3), (0, s), (0, c)] [(0, c), (2, 3)] μ [] rfl trivial ?_
    refine pm_call hK zmm229 (72, 0, 23, 1) zM23 (0, 0) [(2, 3), (0, c)] [] rfl rfl rfl rfl ⟨by omega, by rw [zn23]; omega⟩ (fc_isCustomer3 hK (s := c) ⟨Nat.le_refl _, Nat.le_refl _⟩) (fun st1 μc1 hp1 => ?_)
    obtain ⟨rfl, rfl⟩ := hp1
    refine pm_if hK zmm229 .ne 4 19 rfl rfl (fun h1 => ?_) (fun h1 => ?_)
    · have h1 : (if 0 ≤ (c) ∧ (c) < μ 3 1 then 1 else 0 : Int) ≠ (0 : Int) := h1
      have h1 := zif1 h1
      refine pm_blk hK zmm229 [37] 3 24 [(2, 180), (2, 3), (0, s), (0, c)] [(0, s), (2, 4)] μ [] rfl trivial ?_
      refine zp_dup2 hK zmm229 rfl ?_
      refine pm_blk hK zmm229 [37] 4 29 [(2, 180), (2, 3), (0, s), (0, c)] [] (pm_up μ 4 s ((μ 4 s) - 1)) [0 ≤ s ∧ s < 12, pm_in ((μ 4 s) - 1), sx_bit Wm 4 = true, 0 ≤ s ∧ s < 12] rfl ⟨⟨by omega, by omega⟩, pm_in_mk (by omega) (by omega), hb4, ⟨by omega, by omega⟩, trivial⟩ ?_
      obtain ⟨μ1, eμ1⟩ : ∃ μ', μ' = pm_up μ 4 s ((μ 4 s) - 1) := ⟨_, rfl⟩
      rw [← eμ1]
      have hTμ1 : zTJ φ μ1 := by rw [eμ1]; exact zT_up hT zs4_0 rfl (i := s) (by omega) (by omega) (by omega) (by omega)
      have hF := fa_fr_st hF eμ1 rfl
      have hC1 : fa_C false 3 n m ((fa_up N (4 + s) (N (4 + s) - 1)), B) pol μ1 := by rw [eμ1]; exact fa_C_w hC (fa_w_goods hA hq hs.1 hs.2 (by omega)) ⟨by decide, by decide⟩ (fa_up_ne (by omega))
      refine pm_blk hK zmm229 [37] 3 34 [(2, 180), (2, 3), (0, s), (0, c)] [(0, c), (2, 15)] μ1 [] rfl trivial ?_
      refine zp_dup2 hK zmm229 rfl ?_
      have g2 : μ1 15 c = μ 15 c := by rw [eμ1, pm_up_off (by decide)]
      have f3 := zT_get hTμ1 zs15_0 (i := c) (by omega) (by omega)
      have w4 := zw32 ((μ1 15 c) + 1)
      refine pm_blk hK zmm229 [37] 4 39 [(2, 180), (2, 3), (0, s), (0, c)] [] (pm_up μ1 15 c (pm_w32 ((μ1 15 c) + 1))) [0 ≤ c ∧ c < 18, sx_bit Wm 15 = true, 0 ≤ c ∧ c < 18] rfl ⟨⟨by omega, by omega⟩, hb15, ⟨by omega, by omega⟩, trivial⟩ ?_
      obtain ⟨μ2, eμ2⟩ : ∃ μ', μ' = pm_up μ1 15 c (pm_w32 ((μ1 15 c) + 1)) := ⟨_, rfl⟩
      rw [← eμ2]
      have hTμ2 : zTJ φ μ2 := by rw [eμ2]; exact zT_up hTμ1 zs15_0 rfl (i := c) (by omega) (by omega) (by omega) (by omega)
      have hF := fa_fr_st hF eμ2 rfl
      have g2 : μ1 15 c = N (142 + c) := by rw [eμ1, pm_up_off (by decide)]; exact rb
      have hC2 : fa_C false 3 n m ((fa_up (fa_up N (4 + s) (N (4 + s) - 1)) (142 + c) (pm_w32 (N (142 + c) + 1))), B) pol μ2 := by rw [eμ2, g2]; exact fa_C_w hC1 (fa_w_bought hC1.1 hq hc.1 hc.2 rfl) ⟨by decide, by decide⟩ (fa_up_ne (by omega))
      refine pm_blk hK zmm229 [37] 3 42 [(2, 180), (2, 3), (0, s), (0, c)] [(0, s), (0, c), (2, 3)] μ2 [] rfl trivial ?_
      refine pm_call hK zmm229 (101, 0, 225, 2) zM225 (0, 0) [(2, 3), (0, c), (0, s)] [] rfl rfl rfl rfl ⟨by omega, by rw [zn225]; omega⟩ (fc_bl3 hK (c := c) (s := s) hTμ2 hC2.1 hn0 hm0 hq ⟨by omega, by omega⟩ ⟨by omega, by omega⟩ hb8 hb9 ⟨Nat.le_refl _, Nat.le_refl _⟩) (fun st2 μc2 hp2 => ?_)
      obtain ⟨rfl, hTc2, hAl2, hfl2⟩ := hp2
      have hAl := hAl2
      have hfl := hfl2
      have hF := fa_fr_t hF (fa_fr_2 hfl2 rfl rfl)
      have hC5 := fa_C_m hC2 hAl (hfl 2 (by decide) (by decide)) (hfl 16 (by decide) (by decide)) (fa_last_3 hs.1)
      refine pm_blk hK zmm229 [37] 4 49 [(2, 180), (2, 3), (0, s), (0, c)] [(0, s), (0, c), (0, 1), (2, 180)] μc2 [] rfl trivial ?_
      refine pm_call hK zmm229 (105, 0, 226, 3) zM226 (2, 46) [(2, 180), (0, 1), (0, c), (0, s)] [] rfl rfl rfl rfl ⟨by omega, by rw [zn226]; omega⟩ (fc_note3 hK (k := 1) (w := c) (v := s) hTc2 hC5 hn0 hm0 hq ⟨by omega, by omega⟩ ⟨by omega, by omega⟩ ⟨by omega, by omega⟩ hb2 hb16 ⟨Nat.le_refl _, Nat.le_refl _⟩) (fun st3 μc3 hp3 => ?_)
      obtain ⟨rfl, hTc3, hCc3, hFk3⟩ := hp3
      have hCn := hCc3
      have hF := fa_fr_t hF hFk3
      exact pm_vret rfl rfl ⟨rfl, hTc3, by rw [fa_deed_n ⟨by decide, by decide, by decide⟩ (by omega), fc_thing_e ⟨by omega, by omega⟩ ⟨by omega, by omega⟩]; exact hCn, hF⟩
    · have h1 : (if 0 ≤ (c) ∧ (c) < μ 3 1 then 1 else 0 : Int) = (0 : Int) := h1
      have h1 := zif0 h1
      first
      | (exfalso; omega)
      | exact pm_vret rfl rfl ⟨rfl, hT, by rw [fa_deed_z ⟨by decide, by decide, by decide⟩ (by omega)]; exact hC, hF⟩
      | (exfalso; omega)
set_option maxRecDepth 100000 in
theorem fc_cal3 (hK : zKK ST) {k x y : Int} (hT : zTJ φ μ) {N B pol : Int → Int} {n m : Int} (hC : fa_C false 3 n m (N, B) pol μ) (hn0 : 0 ≤ n) (hm0 : 0 ≤ m) (hq : n ≤ 12 ∧ m ≤ 18) (hI : fa_I n m N) {o : Int} (hk : fa_kd o k) (hd : fa_dk n m o x y) (hb2 : sx_bit Wm 2 = true) (hb3 : sx_bit Wm 3 = true) (hb4 : sx_bit Wm 4 = true) (hb5 : sx_bit Wm 5 = true) (hb6 : sx_bit Wm 6 = true) (hb7 : sx_bit Wm 7 = true) (hb8 : sx_bit Wm 8 = true) (hb9 : sx_bit Wm 9 = true) (hb10 : sx_bit Wm 10 = true) (hb11 : sx_bit Wm 11 = true) (hb12 : sx_bit Wm 12 = true) (hb13 : sx_bit Wm 13 = true) (hb14 : sx_bit Wm 14 = true) (hb15 : sx_bit Wm 15 = true) (hb16 : sx_bit Wm 16 = true) (hb178 : sx_bit Wm 178 = true) (hb179 : sx_bit Wm 179 = true) (hbd : 4 ≤ bud.1 ∧ 92 ≤ bud.2.1) : zC D Wm ST b0 l Sg zM228 bud [(2, 180), (2, 3), (0, k), (0, x), (0, y)] μ (fun st' μ' => st' = [] ∧ zTJ φ μ' ∧ fa_C false 3 n m (fa_deed false o x y (N, B)) pol μ' ∧ fa_fr fc_L3 μ μ') := by
  have hF : fa_fr fc_L3 μ μ := fa_fr_0
  have hA : fa_A 3 n m N pol μ := hC.1
  have a0 := hA.1.1
  have a1 := hA.1.2.1
  obtain ⟨d1, d2, d3, d4⟩ := fa_deed_kd (th := false) (a := x) (b := y) (N := N) (B := B) hk
  obtain ⟨hd1, hd2, hd3, hd4, hd5⟩ := fa_kd_o hk hd
  refine pm_blk hK zmm228 [] 2 4 [(2, 180), (2, 3), (0, k), (0, x), (0, y)] [(0, 324), (0, k)] μ [] rfl trivial ?_
  refine pm_icmp hK zmm228 .ne 35 39 rfl rfl (fun h0 => ?_) (fun h0 => ?_)
  · have h0 : k ≠ (324 : Int) := h0
    refine pm_blk hK zmm228 [] 2 41 [(2, 180), (2, 3), (0, k), (0, x), (0, y)] [(0, x), (2, 3)] μ [] rfl trivial ?_
    refine pm_call hK zmm228 (85, 0, 22, 1) zM22 (0, 0) [(2, 3), (0, x)] [] rfl rfl rfl rfl ⟨by omega, by rw [zn22]; omega⟩ (fc_isShop3 hK (s := x) ⟨Nat.le_refl _, Nat.le_refl _⟩) (fun st1 μc1 hp1 => ?_)
    obtain ⟨rfl, rfl⟩ := hp1
    refine pm_if hK zmm228 .ne 4 48 rfl rfl (fun h1 => ?_) (fun h1 => ?_)
    · have h1 : (if 0 ≤ (x) ∧ (x) < μ 3 0 then 1 else 0 : Int) ≠ (0 : Int) := h1
      have h1 := zif1 h1
      refine pm_blk hK zmm228 [] 2 52 [(2, 180), (2, 3), (0, k), (0, x), (0, y)] [(0, 323), (0, k)] μ [] rfl trivial ?_
      refine pm_icmp hK zmm228 .ne 14 66 rfl rfl (fun h2 => ?_) (fun h2 => ?_)
      · have h2 : k ≠ (323 : Int) := h2
        refine pm_blk hK zmm228 [] 2 70 [(2, 180), (2, 3), (0, k), (0, x), (0, y)] [(0, 306), (0, k)] μ [] rfl trivial ?_
        refine pm_icmp hK zmm228 .ne 14 84 rfl rfl (fun h3 => ?_) (fun h3 => ?_)
        · have h3 : k ≠ (306 : Int) := h3
          refine pm_blk hK zmm228 [] 4 89 [(2, 180), (2, 3), (0, k), (0, x), (0, y)] [(0, y), (0, x), (2, 3), (2, 180)] μ [] rfl trivial ?_
          refine pm_call hK zmm228 (94, 0, 229, 3) zM229 (3, 69) [(2, 180), (2, 3), (0, x), (0, y)] [] rfl rfl rfl rfl ⟨by omega, by rw [zn229]; omega⟩ (fc_push3 hK (s := x) (c := y) hT hC hn0 hm0 hq hI (hd5 (by omega) (by omega) (by omega)) (hd2 (by omega)) hb2 hb3 hb4 hb5 hb6 hb7 hb8 hb9 hb10 hb11 hb12 hb13 hb14 hb15 hb16 hb178 hb179 ⟨Nat.le_refl _, Nat.le_refl _⟩) (fun st2 μc2 hp2 => ?_)
          obtain ⟨rfl, hTc2, hCc2, hFk2⟩ := hp2
          have hCp := hCc2
          have hF := hFk2
          first
          | (exfalso; have hx := hd1 (by omega); omega)
          | exact pm_vret rfl rfl ⟨rfl, hTc2, by rw [d3 (by omega)]; exact hC1, hF⟩
          | exact pm_vret rfl rfl ⟨rfl, hTc2, by rw [d1 (by omega)]; exact hC2, hF⟩
          | exact pm_vret rfl rfl ⟨rfl, hTc2, by rw [d2 (by omega)]; exact hC3, hF⟩
          | exact pm_vret rfl rfl ⟨rfl, hTc2, by rw [d4 (by omega) (by omega) (by omega)]; exact hCp, hF⟩
          | (exfalso; omega)
        · have h3 : k = (306 : Int) := h3
          have hx := hd2 (by omega)
          have hy := hd4 (by omega)
          refine pm_blk hK zmm228 [] 5 81 [(2, 180), (2, 3), (0, k), (0, x), (0, y)] [] (pm_up μ 5 x y) [sx_bit Wm 5 = true, 0 ≤ x ∧ x < 12] rfl ⟨hb5, ⟨by omega, by omega⟩, trivial⟩ ?_
          obtain ⟨μ1, eμ1⟩ : ∃ μ', μ' = pm_up μ 5 x y := ⟨_, rfl⟩
          rw [← eμ1]
          have hTμ1 : zTJ φ μ1 := by rw [eμ1]; exact zT_up hT zs5_0 rfl (i := x) (by omega) (by omega) (by omega) (by omega)
          have hF := fa_fr_st hF eμ1 rfl
          have hC3 : fa_C false 3 n m ((fa_up N (16 + x) y), B) pol μ1 := by rw [eμ1]; exact fa_C_w hC (fa_w_price hA hq hx.1 hx.2 rfl) ⟨by decide, by decide⟩ (fa_up_ne (by omega))
          refine pm_blk hK zmm228 [] 1 92 [(2, 180), (2, 3), (0, k), (0, x), (0, y)] [] μ1 [] rfl trivial ?_
          first
          | (exfalso; have hx := hd1 (by omega); omega)
          | exact pm_vret rfl rfl ⟨rfl, hTμ1, by rw [d3 (by omega)]; exact hC1, hF⟩
          | exact pm_vret rfl rfl ⟨rfl, hTμ1, by rw [d1 (by omega)]; exact hC2, hF⟩
          | exact pm_vret rfl rfl ⟨rfl, hTμ1, by rw [d2 (by omega)]; exact hC3, hF⟩
          | exact pm_vret rfl rfl ⟨rfl, hTμ1, by rw [d4 (by omega) (by omega) (by omega)]; exact hCp, hF⟩
          | (exfalso; omega)
      · have h2 : k = (323 : Int) := h2
        have hx := hd2 (by omega)
        have hy := hd3 (by omega)
        refine pm_blk hK zmm228 [] 5 63 [(2, 180), (2, 3), (0, k), (0, x), (0, y)] [] (pm_up μ 4 x y) [sx_bit Wm 4 = true, 0 ≤ x ∧ x < 12] rfl ⟨hb4, ⟨by omega, by omega⟩, trivial⟩ ?_
        obtain ⟨μ2, eμ2⟩ : ∃ μ', μ' = pm_up μ 4 x y := ⟨_, rfl⟩
        rw [← eμ2]
        have hTμ2 : zTJ φ μ2 := by rw [eμ2]; exact zT_up hT zs4_0 rfl (i := x) (by omega) (by omega) (by omega) (by omega)
        have hF := fa_fr_st hF eμ2 rfl
        have hC2 : fa_C false 3 n m ((fa_up N (4 + x) y), B) pol μ2 := by rw [eμ2]; exact fa_C_w hC (fa_w_goods hA hq hx.1 hx.2 rfl) ⟨by decide, by decide⟩ (fa_up_ne (by omega))
        refine pm_blk hK zmm228 [] 1 92 [(2, 180), (2, 3), (0, k), (0, x), (0, y)] [] μ2 [] rfl trivial ?_
        first
        | (exfalso; have hx := hd1 (by omega); omega)
        | exact pm_vret rfl rfl ⟨rfl, hTμ2, by rw [d3 (by omega)]; exact hC1, hF⟩
        | exact pm_vret rfl rfl ⟨rfl, hTμ2, by rw [d1 (by omega)]; exact hC2, hF⟩
        | exact pm_vret rfl rfl ⟨rfl, hTμ2, by rw [d2 (by omega)]; exact hC3, hF⟩
        | exact pm_vret rfl rfl ⟨rfl, hTμ2, by rw [d4 (by omega) (by omega) (by omega)]; exact hCp, hF⟩
        | (exfalso; omega)
    · have h1 : (if 0 ≤ (x) ∧ (x) < μ 3 0 then 1 else 0 : Int) = (0 : Int) := h1
      have h1 := zif0 h1
      exfalso
      have hx := hd2 (by omega)
      omega
  · have h0 : k = (324 : Int) := h0
    refine pm_blk hK zmm228 [] 2 9 [(2, 180), (2, 3), (0, k), (0, x), (0, y)] [(0, x), (2, 3)] μ [] rfl trivial ?_
    refine pm_call hK zmm228 (72, 0, 23, 1) zM23 (0, 0) [(2, 3), (0, x)] [] rfl rfl rfl rfl ⟨by omega, by rw [zn23]; omega⟩ (fc_isCustomer3 hK (s := x) ⟨Nat.le_refl _, Nat.le_refl _⟩) (fun st3 μc3 hp3 => ?_)
    obtain ⟨rfl, rfl⟩ := hp3
    refine pm_if hK zmm228 .eq 80 92 rfl rfl (fun h4 => ?_) (fun h4 => ?_)
    · have h4 : (if 0 ≤ (x) ∧ (x) < μ 3 1 then 1 else 0 : Int) = (0 : Int) := h4
      have h4 := zif0 h4
      first
      | (exfalso; have hx := hd1 (by omega); omega)
      | exact pm_vret rfl rfl ⟨rfl, hT, by rw [d3 (by omega)]; exact hC1, hF⟩
      | exact pm_vret rfl rfl ⟨rfl, hT, by rw [d1 (by omega)]; exact hC2, hF⟩
      | exact pm_vret rfl rfl ⟨rfl, hT, by rw [d2 (by omega)]; exact hC3, hF⟩
      | exact pm_vret rfl rfl ⟨rfl, hT, by rw [d4 (by omega) (by omega) (by omega)]; exact hCp, hF⟩
      | (exfalso; omega)
    · have h4 : (if 0 ≤ (x) ∧ (x) < μ 3 1 then 1 else 0 : Int) ≠ (0 : Int) := h4
      have h4 := zif1 h4
      obtain ⟨hx, hy⟩ := hd1 (by omega)
      have rp : μ 11 x = N (88 + x) := fa_r_purse hA hx.1 hx.2
      have hpp := (fa_I_c hI hx.1 hx.2).1
      have f1 := zT_get hT zs11_0 (i := x) (by omega) (by omega)
      refine pm_blk hK zmm228 [] 10 32 [(2, 180), (2, 3), (0, k), (0, x), (0, y)] [(0, (μ 11 x) + y), (0, 9999), (0, x), (2, 11)] μ [0 ≤ x ∧ x < 18, pm_in ((μ 11 x) + y)] rfl ⟨⟨by omega, by omega⟩, pm_in_mk (by omega) (by omega), trivial⟩ ?_
      refine pm_call hK zmm228 (80, 1, 30, 2) zM30 (0, 0) [(0, 9999), (0, (μ 11 x) + y)] [(0, x), (2, 11)] rfl rfl rfl rfl ⟨by omega, by rw [zn30]; omega⟩ (zh_min hK ⟨Nat.le_refl _, Nat.le_refl _⟩) (fun st4 μc4 hp4 => ?_)
      obtain ⟨rfl, rfl⟩ := hp4
      refine pm_blk hK zmm228 [] 1 36 [(2, 180), (2, 3), (0, k), (0, x), (0, y)] [] (pm_up μ 11 x (min 9999 ((μ 11 x) + y))) [sx_bit Wm 11 = true, 0 ≤ x ∧ x < 18] rfl ⟨hb11, ⟨by omega, by omega⟩, trivial⟩ ?_
      obtain ⟨μ3, eμ3⟩ : ∃ μ', μ' = pm_up μ 11 x (min 9999 ((μ 11 x) + y)) := ⟨_, rfl⟩
      rw [← eμ3]
      have hTμ3 : zTJ φ μ3 := by rw [eμ3]; exact zT_up hT zs11_0 rfl (i := x) (by omega) (by omega) (by omega) (by omega)
      have hF := fa_fr_st hF eμ3 rfl
      have hC1 : fa_C false 3 n m ((fa_up N (88 + x) (min 9999 (N (88 + x) + y))), B) pol μ3 := by rw [eμ3, rp]; exact fa_C_w hC (fa_w_purse hA hq hx.1 hx.2 rfl) ⟨by decide, by decide⟩ (fa_up_ne (by omega))
      refine pm_blk hK zmm228 [] 1 92 [(2, 180), (2, 3), (0, k), (0, x), (0, y)] [] μ3 [] rfl trivial ?_
      first
      | (exfalso; have hx := hd1 (by omega); omega)
      | exact pm_vret rfl rfl ⟨rfl, hTμ3, by rw [d3 (by omega)]; exact hC1, hF⟩
      | exact pm_vret rfl rfl ⟨rfl, hTμ3, by rw [d1 (by omega)]; exact hC2, hF⟩
      | exact pm_vret rfl rfl ⟨rfl, hTμ3, by rw [d2 (by omega)]; exact hC3, hF⟩
      | exact pm_vret rfl rfl ⟨rfl, hTμ3, by rw [d4 (by omega) (by omega) (by omega)]; exact hCp, hF⟩
      | (exfalso; omega)
set_option maxRecDepth 100000 in
theorem fc_pay182 (hK : zKK ST) {c : Int} (hT : zTJ φ μ) {N pol : Int → Int} {n m : Int} (hA : fa_A 182 n m N pol μ) (hn0 : 0 ≤ n) (hm0 : 0 ≤ m) (hq : n ≤ 12 ∧ m ≤ 18) (hI : fa_I n m N) {ls : List (Int × List zIw × List zIw)} (hL : fc_L (μ 17 2) (μ 18) (μ 19) 0 ls) (hl16 : μ 17 2 ≤ 16) (hb178 : sx_bit Wm 178 = true) (hb179 : sx_bit Wm 179 = true) (hbd : 4 ≤ bud.1 ∧ 96 ≤ bud.2.1) : zC D Wm ST b0 l Sg zM33 bud [(2, 181), (2, 182), (0, c)] μ (fun st' μ' => st' = [(0, fa_pay (fr_law ls) pol m c N)] ∧ zTJ φ μ' ∧ (∀ r, r ≠ 178 → r ≠ 179 → μ' r = μ r)) := by
  have a0 := hA.1.1
  have a1 := hA.1.2.1
  refine pm_blk hK zmm33 [] 2 2 [(2, 181), (2, 182), (0, c), (9, 0), (9, 0)] [(0, c), (2, 182)] μ [] rfl trivial ?_
  refine pm_call hK zmm33 (72, 0, 23, 1) zM23 (0, 0) [(2, 182), (0, c)] [] rfl rfl rfl rfl ⟨by omega, by rw [zn23]; omega⟩ (fc_isCustomer182 hK (s := c) ⟨Nat.le_refl _, Nat.le_refl _⟩) (fun st1 μc1 hp1 => ?_)
  obtain ⟨rfl, rfl⟩ := hp1
  refine pm_if hK zmm33 .ne 5 10 rfl rfl (fun h0 => ?_) (fun h0 => ?_)
  · have h0 : (if 0 ≤ (c) ∧ (c) < μ 182 1 then 1 else 0 : Int) ≠ (0 : Int) := h0
    have h0 := zif1 h0
    have f1 := zT_get hT zs192_0 (i := c) (by omega) (by omega)
    refine pm_blk hK zmm33 [] 5 17 [(2, 181), (2, 182), (0, c), (0, μ 192 c), (9, 0)] [] μ [0 ≤ c ∧ c < 18] rfl ⟨⟨by omega, by omega⟩, trivial⟩ ?_
    have rin : μ 192 c = N (106 + c) - 1 := fa_r_in hA (by omega) (by omega)
    have hbi := (fa_I_c hI (c := c) (by omega) (by omega)).2
    have ropen : 0 ≤ μ 192 c → μ 186 (μ 192 c) = 1 - N (40 + (N (106 + c) - 1)) := fun h => by
      have this : μ 186 (μ 192 c) = 1 - N (40 + μ 192 c) := fa_r_open hA h (by omega)
      rw [this, rin]
    have rgoods : 0 ≤ μ 192 c → μ 183 (μ 192 c) = N (4 + (N (106 + c) - 1)) := fun h => by
      have this : μ 183 (μ 192 c) = N (4 + μ 192 c) := fa_r_goods hA h (by omega)
      rw [this, rin]
    have hgb : 0 ≤ N (106 + c) - 1 → 0 ≤ N (4 + (N (106 + c) - 1)) := fun h => (fa_I_s hI h (by omega)).1.1
    refine pm_blk hK zmm33 [] 2 19 [(2, 181), (2, 182), (0, c), (0, μ 192 c), (9, 0)] [(0, μ 192 c), (2, 182)] μ [] rfl trivial ?_
    refine pm_call hK zmm33 (112, 0, 26, 1) zM26 (1, 21) [(2, 182), (0, μ 192 c)] [] rfl rfl rfl rfl ⟨by omega, by rw [zn26]; omega⟩ (fc_isOpen182 hK (s := (μ 192 c)) hT ⟨Nat.le_refl _, Nat.le_refl _⟩) (fun st2 μc2 hp2 => ?_)
    obtain ⟨rfl, rfl⟩ := hp2
    refine pm_if hK zmm33 .eq 13 35 rfl rfl (fun h1 => ?_) (fun h1 => ?_)
    · have h1 : (if (0 ≤ ((μ 192 c)) ∧ ((μ 192 c)) < μ 182 0) ∧ μ 186 ((μ 192 c)) = 1 then 1 else 0 : Int) = (0 : Int) := h1
      have h1 := zif0 h1
      refine pm_blk hK zmm33 [] 1 36 [(2, 181), (2, 182), (0, c), (0, μ 192 c), (9, 0)] [(0, (-1))] μ [] rfl trivial ?_
      exact pm_iret rfl rfl ⟨by rw [fa_pay_n (fun k => by have r1 := ropen (by omega); have r2 := rgoods (by omega); have k2 := k.2.1; have k3 := k.2.2.1; have k4 := k.2.2.2.1; have k5 := hgb (by omega); omega)], hT, fun _ _ _ => rfl⟩
    · have h1 : (if (0 ≤ ((μ 192 c)) ∧ ((μ 192 c)) < μ 182 0) ∧ μ 186 ((μ 192 c)) = 1 then 1 else 0 : Int) ≠ (0 : Int) := h1
      have h1 := zif1 h1
      have f2 := zT_get hT zs183_0 (i := μ 192 c) (by omega) (by omega)
      refine pm_blk hK zmm33 [] 5 32 [(2, 181), (2, 182), (0, c), (0, μ 192 c), (9, 0)] [(0, 1), (0, μ 183 (μ 192 c))] μ [0 ≤ μ 192 c ∧ μ 192 c < 12] rfl ⟨⟨by omega, by omega⟩, trivial⟩ ?_
      refine pm_icmp hK zmm33 .ge 5 37 rfl rfl (fun h2 => ?_) (fun h2 => ?_)
      · have h2 : (1 : Int) ≤ μ 183 (μ 192 c) := h2
        refine pm_blk hK zmm33 [] 9 54 [(2, 181), (2, 182), (0, c), (0, μ 192 c), (9, 0)] [(0, μ 192 c), (0, c), (0, 302), (2, 182), (2, 17), (2, 177)] μ [] rfl trivial ?_
        have hLc := hL
        have hLn := hl16
        refine pm_call hK zmm33 (127, 0, 213, 5) zM213 (3, 67) [(2, 177), (2, 17), (2, 182), (0, 302), (0, c), (0, μ 192 c)] [] rfl rfl rfl rfl ⟨by omega, by rw [zn213]; omega⟩ (fc_asked182 hK (w := 302) (c := c) (s := (μ 192 c)) hT hA hn0 hm0 hq hLc hLn (by omega) ⟨by omega, by omega⟩ ⟨by omega, by omega⟩ hb178 hb179 ⟨Nat.le_refl _, Nat.le_refl _⟩) (fun st3 μc3 hp3 => ?_)
        obtain ⟨rfl, hTc3, hfa3⟩ := hp3
        have hfa := hfa3
        have hA2 := fa_A_78 hA hfa3 (by decide)
        have rpu : μc3 190 c = N (88 + c) := fa_r_purse hA2 (by omega) (by omega)
        rw [fa_ask_2, show fa_costs (fr_law ls) N pol m c (μ 192 c) = fa_costs (fr_law ls) N pol m c (N (106 + c) - 1) by rw [rin]]
        have f3 := zT_get hTc3 zs190_0 (i := c) (by omega) (by omega)
        refine pm_blk hK zmm33 [] 6 67 [(2, 181), (2, 182), (0, c), (0, μ 192 c), (0, fa_costs (fr_law ls) N pol m c (N (106 + c) - 1))] [(0, μc3 190 c), (0, fa_costs (fr_law ls) N pol m c (N (106 + c) - 1))] μc3 [0 ≤ c ∧ c < 18] rfl ⟨⟨by omega, by omega⟩, trivial⟩ ?_
        refine pm_icmp hK zmm33 .gt 8 75 rfl rfl (fun h3 => ?_) (fun h3 => ?_)
        · have h3 : μc3 190 c < fa_costs (fr_law ls) N pol m c (N (106 + c) - 1) := h3
          refine pm_blk hK zmm33 [] 1 76 [(2, 181), (2, 182), (0, c), (0, μ 192 c), (0, fa_costs (fr_law ls) N pol m c (N (106 + c) - 1))] [(0, (-1))] μc3 [] rfl trivial ?_
          have r1 := ropen (by omega)
          have r2 := rgoods (by omega)
          first
          | exact pm_iret rfl rfl ⟨by rw [fa_pay_y ⟨⟨by omega, by omega⟩, by omega, by omega, by omega, by omega⟩], hTc3, hfa⟩
          | exact pm_iret rfl rfl ⟨by rw [fa_pay_n (fun k => absurd k.2.2.2.2 (by omega))], hTc3, hfa⟩
          | (exfalso; omega)
        · have h3 : fa_costs (fr_law ls) N pol m c (N (106 + c) - 1) ≤ μc3 190 c := h3
          refine pm_blk hK zmm33 [] 2 76 [(2, 181), (2, 182), (0, c), (0, μ 192 c), (0, fa_costs (fr_law ls) N pol m c (N (106 + c) - 1))] [(0, fa_costs (fr_law ls) N pol m c (N (106 + c) - 1))] μc3 [] rfl trivial ?_
          have r1 := ropen (by omega)
          have r2 := rgoods (by omega)
          first
          | exact pm_iret rfl rfl ⟨by rw [fa_pay_y ⟨⟨by omega, by omega⟩, by omega, by omega, by omega, by omega⟩], hTc3, hfa⟩
          | exact pm_iret rfl rfl ⟨by rw [fa_pay_n (fun k => absurd k.2.2.2.2 (by omega))], hTc3, hfa⟩
          | (exfalso; omega)
      · have h2 : μ 183 (μ 192 c) < (1 : Int) := h2
        refine pm_blk hK zmm33 [] 1 36 [(2, 181), (2, 182), (0, c), (0, μ 192 c), (9, 0)] [(0, (-1))] μ [] rfl trivial ?_
        exact pm_iret rfl rfl ⟨by rw [fa_pay_n (fun k => by have r1 := ropen (by omega); have r2 := rgoods (by omega); have k2 := k.2.1; have k3 := k.2.2.1; have k4 := k.2.2.2.1; have k5 := hgb (by omega); omega)], hT, fun _ _ _ => rfl⟩
  · have h0 : (if 0 ≤ (c) ∧ (c) < μ 182 1 then 1 else 0 : Int) = (0 : Int) := h0
    have h0 := zif0 h0
    refine pm_blk hK zmm33 [] 1 9 [(2, 181), (2, 182), (0, c), (9, 0), (9, 0)] [(0, (-1))] μ [] rfl trivial ?_
    exact pm_iret rfl rfl ⟨by rw [fa_pay_n (fun k => absurd k.1 (by omega))], hT, fun _ _ _ => rfl⟩
set_option maxRecDepth 100000 in
theorem fc_sell182 (hK : zKK ST) {c v : Int} (hT : zTJ φ μ) {N B pol : Int → Int} {n m : Int} (hC : fa_C true 182 n m (N, B) pol μ) (hn0 : 0 ≤ n) (hm0 : 0 ≤ m) (hq : n ≤ 12 ∧ m ≤ 18) (hI : fa_I n m N) {s : Int} (hc : 0 ≤ c ∧ c < m) (hs : 0 ≤ s ∧ s < n) (hi : N (106 + c) - 1 = s) (hg : 1 ≤ N (4 + s)) (hv : 0 ≤ v ∧ v ≤ N (88 + c)) (hb178 : sx_bit Wm 178 = true) (hb179 : sx_bit Wm 179 = true) (hb182 : sx_bit Wm 182 = true) (hb183 : sx_bit Wm 183 = true) (hb184 : sx_bit Wm 184 = true) (hb185 : sx_bit Wm 185 = true) (hb186 : sx_bit Wm 186 = true) (hb187 : sx_bit Wm 187 = true) (hb188 : sx_bit Wm 188 = true) (hb189 : sx_bit Wm 189 = true) (hb190 : sx_bit Wm 190 = true) (hb191 : sx_bit Wm 191 = true) (hb192 : sx_bit Wm 192 = true) (hb193 : sx_bit Wm 193 = true) (hb194 : sx_bit Wm 194 = true) (hbd : 1 ≤ bud.1 ∧ 23 ≤ bud.2.1) : zC D Wm ST b0 l Sg zM224 bud [(2, 181), (2, 182), (0, c), (0, v)] μ (fun st' μ' => st' = [] ∧ zTJ φ μ' ∧ fa_C true 182 n m (fa_bought true c s v (N, B)) pol μ' ∧ fa_fr fc_L182 μ μ') := by
  have hF : fa_fr fc_L182 μ μ := fa_fr_0
  have hA : fa_A 182 n m N pol μ := hC.1
  have a0 := hA.1.1
  have a1 := hA.1.2.1
  have rin : μ 192 c = s := (fa_r_in hA hc.1 hc.2 : μ 192 c = N (106 + c) - 1).trans hi
  have rg : μ 183 s = N (4 + s) := fa_r_goods hA hs.1 hs.2
  have rp : μ 190 c = N (88 + c) := fa_r_purse hA hc.1 hc.2
  have rt : μ 185 s = N (28 + s) := fa_r_till hA hs.1 hs.2
  have rb : μ 194 c = N (142 + c) := fa_r_bought hA hc.1 hc.2
  have hgg := (fa_I_s hI hs.1 hs.2).1
  have hpp := (fa_I_c hI hc.1 hc.2).1
  have rg2 : μ 183 (μ 192 c) = N (4 + s) := by rw [rin]; exact rg
  refine pm_blk hK zmm224 [60, 70] 2 2 [(2, 181), (2, 182), (0, c), (0, v), (9, 0)] [(0, c), (2, 182)] μ [] rfl trivial ?_
  refine pm_call hK zmm224 (72, 0, 23, 1) zM23 (0, 0) [(2, 182), (0, c)] [] rfl rfl rfl rfl ⟨by omega, by rw [zn23]; omega⟩ (fc_isCustomer182 hK (s := c) ⟨Nat.le_refl _, Nat.le_refl _⟩) (fun st1 μc1 hp1 => ?_)
  obtain ⟨rfl, rfl⟩ := hp1
  refine pm_if hK zmm224 .eq 12 17 rfl rfl (fun h0 => ?_) (fun h0 => ?_)
  · have h0 : (if 0 ≤ (c) ∧ (c) < μ 182 1 then 1 else 0 : Int) = (0 : Int) := h0
    have h0 := zif0 h0
    exfalso
    omega
  · have h0 : (if 0 ≤ (c) ∧ (c) < μ 182 1 then 1 else 0 : Int) ≠ (0 : Int) := h0
    have h0 := zif1 h0
    have f1 := zT_get hT zs192_0 (i := c) (by omega) (by omega)
    refine pm_blk hK zmm224 [60, 70] 8 23 [(2, 181), (2, 182), (0, c), (0, v), (0, μ 192 c)] [(0, μ 192 c), (2, 182)] μ [0 ≤ c ∧ c < 18] rfl ⟨⟨by omega, by omega⟩, trivial⟩ ?_
    refine pm_call hK zmm224 (85, 0, 22, 1) zM22 (0, 0) [(2, 182), (0, μ 192 c)] [] rfl rfl rfl rfl ⟨by omega, by rw [zn22]; omega⟩ (fc_isShop182 hK (s := (μ 192 c)) ⟨Nat.le_refl _, Nat.le_refl _⟩) (fun st2 μc2 hp2 => ?_)
    obtain ⟨rfl, rfl⟩ := hp2
    refine pm_if hK zmm224 .ne 4 30 rfl rfl (fun h1 => ?_) (fun h1 => ?_)
    · have h1 : (if 0 ≤ ((μ 192 c)) ∧ ((μ 192 c)) < μ 182 0 then 1 else 0 : Int) ≠ (0 : Int) := h1
      have h1 := zif1 h1
      refine pm_blk hK zmm224 [60, 70] 3 36 [(2, 181), (2, 182), (0, c), (0, v), (0, μ 192 c)] [(0, μ 192 c), (2, 183)] μ [] rfl trivial ?_
      refine zp_dup2 hK zmm224 rfl ?_
      have f2 := zT_get hT zs183_0 (i := μ 192 c) (by omega) (by omega)
      refine pm_blk hK zmm224 [60, 70] 4 41 [(2, 181), (2, 182), (0, c), (0, v), (0, μ 192 c)] [] (pm_up μ 183 (μ 192 c) ((μ 183 (μ 192 c)) - 1)) [0 ≤ μ 192 c ∧ μ 192 c < 12, pm_in ((μ 183 (μ 192 c)) - 1), sx_bit Wm 183 = true, 0 ≤ μ 192 c ∧ μ 192 c < 12] rfl ⟨⟨by omega, by omega⟩, pm_in_mk (by omega) (by omega), hb183, ⟨by omega, by omega⟩, trivial⟩ ?_
      obtain ⟨μ1, eμ1⟩ : ∃ μ', μ' = pm_up μ 183 (μ 192 c) ((μ 183 (μ 192 c)) - 1) := ⟨_, rfl⟩
      rw [← eμ1]
      have hTμ1 : zTJ φ μ1 := by rw [eμ1]; exact zT_up hT zs183_0 rfl (i := μ 192 c) (by omega) (by omega) (by omega) (by omega)
      have hF := fa_fr_st hF eμ1 rfl
      have hC1 : fa_C true 182 n m ((fa_up N (4 + s) (N (4 + s) - 1)), B) pol μ1 := by rw [eμ1, rg2, rin]; exact fa_C_w hC (fa_w_goods hA hq hs.1 hs.2 (by omega)) ⟨by decide, by decide⟩ (fa_up_ne (by omega))
      refine pm_blk hK zmm224 [60, 70] 3 46 [(2, 181), (2, 182), (0, c), (0, v), (0, μ 192 c)] [(0, c), (2, 190)] μ1 [] rfl trivial ?_
      refine zp_dup2 hK zmm224 rfl ?_
      have g3 : μ1 190 c = μ 190 c := by rw [eμ1, pm_up_off (by decide)]
      have f4 := zT_get hTμ1 zs190_0 (i := c) (by omega) (by omega)
      refine pm_blk hK zmm224 [60, 70] 4 51 [(2, 181), (2, 182), (0, c), (0, v), (0, μ 192 c)] [] (pm_up μ1 190 c ((μ1 190 c) - v)) [0 ≤ c ∧ c < 18, pm_in ((μ1 190 c) - v), sx_bit Wm 190 = true, 0 ≤ c ∧ c < 18] rfl ⟨⟨by omega, by omega⟩, pm_in_mk (by omega) (by omega), hb190, ⟨by omega, by omega⟩, trivial⟩ ?_
      obtain ⟨μ2, eμ2⟩ : ∃ μ', μ' = pm_up μ1 190 c ((μ1 190 c) - v) := ⟨_, rfl⟩
      rw [← eμ2]
      have hTμ2 : zTJ φ μ2 := by rw [eμ2]; exact zT_up hTμ1 zs190_0 rfl (i := c) (by omega) (by omega) (by omega) (by omega)
      have hF := fa_fr_st hF eμ2 rfl
      have g2 : μ1 190 c = N (88 + c) := by rw [eμ1, pm_up_off (by decide)]; exact rp
      have hC2 : fa_C true 182 n m ((fa_up (fa_up N (4 + s) (N (4 + s) - 1)) (88 + c) (N (88 + c) - v)), B) pol μ2 := by rw [eμ2, g2]; exact fa_C_w hC1 (fa_w_purse hC1.1 hq hc.1 hc.2 rfl) ⟨by decide, by decide⟩ (fa_up_ne (by omega))
      refine pm_blk hK zmm224 [60, 70] 3 57 [(2, 181), (2, 182), (0, c), (0, v), (0, μ 192 c)] [(0, μ 192 c), (2, 185)] μ2 [] rfl trivial ?_
      refine zp_dup2 hK zmm224 rfl ?_
      have g5 : μ2 185 (μ 192 c) = μ 185 (μ 192 c) := by rw [eμ2, pm_up_off (by decide), eμ1, pm_up_off (by decide)]
      have f6 := zT_get hTμ2 zs185_0 (i := μ 192 c) (by omega) (by omega)
      have w7 := zw32 ((μ2 185 (μ 192 c)) + v)
      refine pm_blk hK zmm224 [60, 70] 4 62 [(2, 181), (2, 182), (0, c), (0, v), (0, μ 192 c)] [] (pm_up μ2 185 (μ 192 c) (pm_w32 ((μ2 185 (μ 192 c)) + v))) [0 ≤ μ 192 c ∧ μ 192 c < 12, sx_bit Wm 185 = true, 0 ≤ μ 192 c ∧ μ 192 c < 12] rfl ⟨⟨by omega, by omega⟩, hb185, ⟨by omega, by omega⟩, trivial⟩ ?_
      obtain ⟨μ3, eμ3⟩ : ∃ μ', μ' = pm_up μ2 185 (μ 192 c) (pm_w32 ((μ2 185 (μ 192 c)) + v)) := ⟨_, rfl⟩
      rw [← eμ3]
      have hTμ3 : zTJ φ μ3 := by rw [eμ3]; exact zT_up hTμ2 zs185_0 rfl (i := μ 192 c) (by omega) (by omega) (by omega) (by omega)
      have hF := fa_fr_st hF eμ3 rfl
      have g3 : μ2 185 (μ 192 c) = N (28 + s) := by rw [eμ2, pm_up_off (by decide), eμ1, pm_up_off (by decide), rin]; exact rt
      have hC3 : fa_C true 182 n m ((fa_up (fa_up (fa_up N (4 + s) (N (4 + s) - 1)) (88 + c) (N (88 + c) - v)) (28 + s) (pm_w32 (N (28 + s) + v))), B) pol μ3 := by rw [eμ3, g3, rin]; exact fa_C_w hC2 (fa_w_till hC2.1 hq hs.1 hs.2 rfl) ⟨by decide, by decide⟩ (fa_up_ne (by omega))
      refine pm_blk hK zmm224 [60, 70] 3 67 [(2, 181), (2, 182), (0, c), (0, v), (0, μ 192 c)] [(0, c), (2, 194)] μ3 [] rfl trivial ?_
      refine zp_dup2 hK zmm224 rfl ?_
      have g8 : μ3 194 c = μ 194 c := by rw [eμ3, pm_up_off (by decide), eμ2, pm_up_off (by decide), eμ1, pm_up_off (by decide)]
      have f9 := zT_get hTμ3 zs194_0 (i := c) (by omega) (by omega)
      have w10 := zw32 ((μ3 194 c) + 1)
      refine pm_blk hK zmm224 [60, 70] 4 72 [(2, 181), (2, 182), (0, c), (0, v), (0, μ 192 c)] [] (pm_up μ3 194 c (pm_w32 ((μ3 194 c) + 1))) [0 ≤ c ∧ c < 18, sx_bit Wm 194 = true, 0 ≤ c ∧ c < 18] rfl ⟨⟨by omega, by omega⟩, hb194, ⟨by omega, by omega⟩, trivial⟩ ?_
      obtain ⟨μ4, eμ4⟩ : ∃ μ', μ' = pm_up μ3 194 c (pm_w32 ((μ3 194 c) + 1)) := ⟨_, rfl⟩
      rw [← eμ4]
      have hTμ4 : zTJ φ μ4 := by rw [eμ4]; exact zT_up hTμ3 zs194_0 rfl (i := c) (by omega) (by omega) (by omega) (by omega)
      have hF := fa_fr_st hF eμ4 rfl
      have g4 : μ3 194 c = N (142 + c) := by rw [eμ3, pm_up_off (by decide), eμ2, pm_up_off (by decide), eμ1, pm_up_off (by decide)]; exact rb
      have hC4 : fa_C true 182 n m ((fa_up (fa_up (fa_up (fa_up N (4 + s) (N (4 + s) - 1)) (88 + c) (N (88 + c) - v)) (28 + s) (pm_w32 (N (28 + s) + v))) (142 + c) (pm_w32 (N (142 + c) + 1))), B) pol μ4 := by rw [eμ4, g4]; exact fa_C_w hC3 (fa_w_bought hC3.1 hq hc.1 hc.2 rfl) ⟨by decide, by decide⟩ (fa_up_ne (by omega))
      refine pm_blk hK zmm224 [60, 70] 3 76 [(2, 181), (2, 182), (0, c), (0, v), (0, μ 192 c)] [(0, μ 192 c), (0, c), (2, 182)] μ4 [] rfl trivial ?_
      refine pm_call hK zmm224 (101, 0, 225, 2) zM225 (0, 0) [(2, 182), (0, c), (0, μ 192 c)] [] rfl rfl rfl rfl ⟨by omega, by rw [zn225]; omega⟩ (fc_bl182 hK (c := c) (s := (μ 192 c)) hTμ4 hC4.1 hn0 hm0 hq ⟨by omega, by omega⟩ ⟨by omega, by omega⟩ hb187 hb188 ⟨Nat.le_refl _, Nat.le_refl _⟩) (fun st3 μc3 hp3 => ?_)
      obtain ⟨rfl, hTc3, hAl3, hfl3⟩ := hp3
      have hAl := hAl3
      have hfl := hfl3
      have hF := fa_fr_t hF (fa_fr_2 hfl3 rfl rfl)
      rw [rin] at hAl
      have hC5 := fa_C_m hC4 hAl (hfl 2 (by decide) (by decide)) (hfl 16 (by decide) (by decide)) (fa_last_3 hs.1)
      refine pm_blk hK zmm224 [60, 70] 4 83 [(2, 181), (2, 182), (0, c), (0, v), (0, μ 192 c)] [(0, v), (0, c), (0, 0), (2, 181)] μc3 [] rfl trivial ?_
      refine pm_call hK zmm224 (105, 0, 226, 3) zM226 (0, 0) [(2, 181), (0, 0), (0, c), (0, v)] [] rfl rfl rfl rfl ⟨by omega, by rw [zn226]; omega⟩ (fc_note182 hK (k := 0) (w := c) (v := v) hTc3 hC5 hn0 hm0 hq ⟨Nat.le_refl _, Nat.le_refl _⟩) (fun st4 μc4 hp4 => ?_)
      obtain ⟨rfl, hTc4, hCc4, hFk4⟩ := hp4
      have hCn := hCc4
      have hF := fa_fr_t hF hFk4
      first
      | (exfalso; omega)
      | exact pm_vret rfl rfl ⟨rfl, hTc4, by rw [fc_bought_e ⟨by omega, by omega⟩ ⟨by omega, by omega⟩]; exact hCn, hF⟩
      | (exfalso; omega)
    · have h1 : (if 0 ≤ ((μ 192 c)) ∧ ((μ 192 c)) < μ 182 0 then 1 else 0 : Int) = (0 : Int) := h1
      have h1 := zif0 h1
      first
      | (exfalso; omega)
      | exact pm_vret rfl rfl ⟨rfl, hT, by rw [fc_bought_e ⟨by omega, by omega⟩ ⟨by omega, by omega⟩]; exact hCn, hF⟩
      | (exfalso; omega)
set_option maxRecDepth 100000 in
theorem fc_push182 (hK : zKK ST) {s c : Int} (hT : zTJ φ μ) {N B pol : Int → Int} {n m : Int} (hC : fa_C true 182 n m (N, B) pol μ) (hn0 : 0 ≤ n) (hm0 : 0 ≤ m) (hq : n ≤ 12 ∧ m ≤ 18) (hI : fa_I n m N) (hc : 0 ≤ c ∧ c < m) (hs : 0 ≤ s ∧ s < n) (hb178 : sx_bit Wm 178 = true) (hb179 : sx_bit Wm 179 = true) (hb182 : sx_bit Wm 182 = true) (hb183 : sx_bit Wm 183 = true) (hb184 : sx_bit Wm 184 = true) (hb185 : sx_bit Wm 185 = true) (hb186 : sx_bit Wm 186 = true) (hb187 : sx_bit Wm 187 = true) (hb188 : sx_bit Wm 188 = true) (hb189 : sx_bit Wm 189 = true) (hb190 : sx_bit Wm 190 = true) (hb191 : sx_bit Wm 191 = true) (hb192 : sx_bit Wm 192 = true) (hb193 : sx_bit Wm 193 = true) (hb194 : sx_bit Wm 194 = true) (hbd : 1 ≤ bud.1 ∧ 23 ≤ bud.2.1) : zC D Wm ST b0 l Sg zM229 bud [(2, 181), (2, 182), (0, s), (0, c)] μ (fun st' μ' => st' = [] ∧ zTJ φ μ' ∧ fa_C true 182 n m (fa_deed true 3 s c (N, B)) pol μ' ∧ fa_fr fc_L182 μ μ') := by
  have hF : fa_fr fc_L182 μ μ := fa_fr_0
  have hA : fa_A 182 n m N pol μ := hC.1
  have a0 := hA.1.1
  have a1 := hA.1.2.1
  have rg : μ 183 s = N (4 + s) := fa_r_goods hA hs.1 hs.2
  have rb : μ 194 c = N (142 + c) := fa_r_bought hA hc.1 hc.2
  have hgg := (fa_I_s hI hs.1 hs.2).1
  have f1 := zT_get hT zs183_0 (i := s) (by omega) (by omega)
  refine pm_blk hK zmm229 [37] 5 7 [(2, 181), (2, 182), (0, s), (0, c)] [(0, 1), (0, μ 183 s)] μ [0 ≤ s ∧ s < 12] rfl ⟨⟨by omega, by omega⟩, trivial⟩ ?_
  refine pm_icmp hK zmm229 .lt 11 18 rfl rfl (fun h0 => ?_) (fun h0 => ?_)
  · have h0 : μ 183 s < (1 : Int) := h0
    first
    | (exfalso; omega)
    | exact pm_vret rfl rfl ⟨rfl, hT, by rw [fa_deed_z ⟨by decide, by decide, by decide⟩ (by omega)]; exact hC, hF⟩
    | (exfalso; omega)
  · have h0 : (1 : Int) ≤ μ 183 s := h0
    refine pm_blk hK zmm229 [37] 2 12 [(2, 181), (2, 182), (0, s), (0, c)] [(0, c), (2, 182)] μ [] rfl trivial ?_
    refine pm_call hK zmm229 (72, 0, 23, 1) zM23 (0, 0) [(2, 182), (0, c)] [] rfl rfl rfl rfl ⟨by omega, by rw [zn23]; omega⟩ (fc_isCustomer182 hK (s := c) ⟨Nat.le_refl _, Nat.le_refl _⟩) (fun st1 μc1 hp1 => ?_)
    obtain ⟨rfl, rfl⟩ := hp1
    refine pm_if hK zmm229 .ne 4 19 rfl rfl (fun h1 => ?_) (fun h1 => ?_)
    · have h1 : (if 0 ≤ (c) ∧ (c) < μ 182 1 then 1 else 0 : Int) ≠ (0 : Int) := h1
      have h1 := zif1 h1
      refine pm_blk hK zmm229 [37] 3 24 [(2, 181), (2, 182), (0, s), (0, c)] [(0, s), (2, 183)] μ [] rfl trivial ?_
      refine zp_dup2 hK zmm229 rfl ?_
      refine pm_blk hK zmm229 [37] 4 29 [(2, 181), (2, 182), (0, s), (0, c)] [] (pm_up μ 183 s ((μ 183 s) - 1)) [0 ≤ s ∧ s < 12, pm_in ((μ 183 s) - 1), sx_bit Wm 183 = true, 0 ≤ s ∧ s < 12] rfl ⟨⟨by omega, by omega⟩, pm_in_mk (by omega) (by omega), hb183, ⟨by omega, by omega⟩, trivial⟩ ?_
      obtain ⟨μ1, eμ1⟩ : ∃ μ', μ' = pm_up μ 183 s ((μ 183 s) - 1) := ⟨_, rfl⟩
      rw [← eμ1]
      have hTμ1 : zTJ φ μ1 := by rw [eμ1]; exact zT_up hT zs183_0 rfl (i := s) (by omega) (by omega) (by omega) (by omega)
      have hF := fa_fr_st hF eμ1 rfl
      have hC1 : fa_C true 182 n m ((fa_up N (4 + s) (N (4 + s) - 1)), B) pol μ1 := by rw [eμ1]; exact fa_C_w hC (fa_w_goods hA hq hs.1 hs.2 (by omega)) ⟨by decide, by decide⟩ (fa_up_ne (by omega))
      refine pm_blk hK zmm229 [37] 3 34 [(2, 181), (2, 182), (0, s), (0, c)] [(0, c), (2, 194)] μ1 [] rfl trivial ?_
      refine zp_dup2 hK zmm229 rfl ?_
      have g2 : μ1 194 c = μ 194 c := by rw [eμ1, pm_up_off (by decide)]
      have f3 := zT_get hTμ1 zs194_0 (i := c) (by omega) (by omega)
      have w4 := zw32 ((μ1 194 c) + 1)
      refine pm_blk hK zmm229 [37] 4 39 [(2, 181), (2, 182), (0, s), (0, c)] [] (pm_up μ1 194 c (pm_w32 ((μ1 194 c) + 1))) [0 ≤ c ∧ c < 18, sx_bit Wm 194 = true, 0 ≤ c ∧ c < 18] rfl ⟨⟨by omega, by omega⟩, hb194, ⟨by omega, by omega⟩, trivial⟩ ?_
      obtain ⟨μ2, eμ2⟩ : ∃ μ', μ' = pm_up μ1 194 c (pm_w32 ((μ1 194 c) + 1)) := ⟨_, rfl⟩
      rw [← eμ2]
      have hTμ2 : zTJ φ μ2 := by rw [eμ2]; exact zT_up hTμ1 zs194_0 rfl (i := c) (by omega) (by omega) (by omega) (by omega)
      have hF := fa_fr_st hF eμ2 rfl
      have g2 : μ1 194 c = N (142 + c) := by rw [eμ1, pm_up_off (by decide)]; exact rb
      have hC2 : fa_C true 182 n m ((fa_up (fa_up N (4 + s) (N (4 + s) - 1)) (142 + c) (pm_w32 (N (142 + c) + 1))), B) pol μ2 := by rw [eμ2, g2]; exact fa_C_w hC1 (fa_w_bought hC1.1 hq hc.1 hc.2 rfl) ⟨by decide, by decide⟩ (fa_up_ne (by omega))
      refine pm_blk hK zmm229 [37] 3 42 [(2, 181), (2, 182), (0, s), (0, c)] [(0, s), (0, c), (2, 182)] μ2 [] rfl trivial ?_
      refine pm_call hK zmm229 (101, 0, 225, 2) zM225 (0, 0) [(2, 182), (0, c), (0, s)] [] rfl rfl rfl rfl ⟨by omega, by rw [zn225]; omega⟩ (fc_bl182 hK (c := c) (s := s) hTμ2 hC2.1 hn0 hm0 hq ⟨by omega, by omega⟩ ⟨by omega, by omega⟩ hb187 hb188 ⟨Nat.le_refl _, Nat.le_refl _⟩) (fun st2 μc2 hp2 => ?_)
      obtain ⟨rfl, hTc2, hAl2, hfl2⟩ := hp2
      have hAl := hAl2
      have hfl := hfl2
      have hF := fa_fr_t hF (fa_fr_2 hfl2 rfl rfl)
      have hC5 := fa_C_m hC2 hAl (hfl 2 (by decide) (by decide)) (hfl 16 (by decide) (by decide)) (fa_last_3 hs.1)
      refine pm_blk hK zmm229 [37] 4 49 [(2, 181), (2, 182), (0, s), (0, c)] [(0, s), (0, c), (0, 1), (2, 181)] μc2 [] rfl trivial ?_
      refine pm_call hK zmm229 (105, 0, 226, 3) zM226 (0, 0) [(2, 181), (0, 1), (0, c), (0, s)] [] rfl rfl rfl rfl ⟨by omega, by rw [zn226]; omega⟩ (fc_note182 hK (k := 1) (w := c) (v := s) hTc2 hC5 hn0 hm0 hq ⟨Nat.le_refl _, Nat.le_refl _⟩) (fun st3 μc3 hp3 => ?_)
      obtain ⟨rfl, hTc3, hCc3, hFk3⟩ := hp3
      have hCn := hCc3
      have hF := fa_fr_t hF hFk3
      exact pm_vret rfl rfl ⟨rfl, hTc3, by rw [fa_deed_n ⟨by decide, by decide, by decide⟩ (by omega), fc_thing_e ⟨by omega, by omega⟩ ⟨by omega, by omega⟩]; exact hCn, hF⟩
    · have h1 : (if 0 ≤ (c) ∧ (c) < μ 182 1 then 1 else 0 : Int) = (0 : Int) := h1
      have h1 := zif0 h1
      first
      | (exfalso; omega)
      | exact pm_vret rfl rfl ⟨rfl, hT, by rw [fa_deed_z ⟨by decide, by decide, by decide⟩ (by omega)]; exact hC, hF⟩
      | (exfalso; omega)
set_option maxRecDepth 100000 in
theorem fc_cal182 (hK : zKK ST) {k x y : Int} (hT : zTJ φ μ) {N B pol : Int → Int} {n m : Int} (hC : fa_C true 182 n m (N, B) pol μ) (hn0 : 0 ≤ n) (hm0 : 0 ≤ m) (hq : n ≤ 12 ∧ m ≤ 18) (hI : fa_I n m N) {o : Int} (hk : fa_kd o k) (hd : fa_dk n m o x y) (hb178 : sx_bit Wm 178 = true) (hb179 : sx_bit Wm 179 = true) (hb182 : sx_bit Wm 182 = true) (hb183 : sx_bit Wm 183 = true) (hb184 : sx_bit Wm 184 = true) (hb185 : sx_bit Wm 185 = true) (hb186 : sx_bit Wm 186 = true) (hb187 : sx_bit Wm 187 = true) (hb188 : sx_bit Wm 188 = true) (hb189 : sx_bit Wm 189 = true) (hb190 : sx_bit Wm 190 = true) (hb191 : sx_bit Wm 191 = true) (hb192 : sx_bit Wm 192 = true) (hb193 : sx_bit Wm 193 = true) (hb194 : sx_bit Wm 194 = true) (hbd : 2 ≤ bud.1 ∧ 46 ≤ bud.2.1) : zC D Wm ST b0 l Sg zM228 bud [(2, 181), (2, 182), (0, k), (0, x), (0, y)] μ (fun st' μ' => st' = [] ∧ zTJ φ μ' ∧ fa_C true 182 n m (fa_deed true o x y (N, B)) pol μ' ∧ fa_fr fc_L182 μ μ') := by
  have hF : fa_fr fc_L182 μ μ := fa_fr_0
  have hA : fa_A 182 n m N pol μ := hC.1
  have a0 := hA.1.1
  have a1 := hA.1.2.1
  obtain ⟨d1, d2, d3, d4⟩ := fa_deed_kd (th := true) (a := x) (b := y) (N := N) (B := B) hk
  obtain ⟨hd1, hd2, hd3, hd4, hd5⟩ := fa_kd_o hk hd
  refine pm_blk hK zmm228 [] 2 4 [(2, 181), (2, 182), (0, k), (0, x), (0, y)] [(0, 324), (0, k)] μ [] rfl trivial ?_
  refine pm_icmp hK zmm228 .ne 35 39 rfl rfl (fun h0 => ?_) (fun h0 => ?_)
  · have h0 : k ≠ (324 : Int) := h0
    refine pm_blk hK zmm228 [] 2 41 [(2, 181), (2, 182), (0, k), (0, x), (0, y)] [(0, x), (2, 182)] μ [] rfl trivial ?_
    refine pm_call hK zmm228 (85, 0, 22, 1) zM22 (0, 0) [(2, 182), (0, x)] [] rfl rfl rfl rfl ⟨by omega, by rw [zn22]; omega⟩ (fc_isShop182 hK (s := x) ⟨Nat.le_refl _, Nat.le_refl _⟩) (fun st1 μc1 hp1 => ?_)
    obtain ⟨rfl, rfl⟩ := hp1
    refine pm_if hK zmm228 .ne 4 48 rfl rfl (fun h1 => ?_) (fun h1 => ?_)
    · have h1 : (if 0 ≤ (x) ∧ (x) < μ 182 0 then 1 else 0 : Int) ≠ (0 : Int) := h1
      have h1 := zif1 h1
      refine pm_blk hK zmm228 [] 2 52 [(2, 181), (2, 182), (0, k), (0, x), (0, y)] [(0, 323), (0, k)] μ [] rfl trivial ?_
      refine pm_icmp hK zmm228 .ne 14 66 rfl rfl (fun h2 => ?_) (fun h2 => ?_)
      · have h2 : k ≠ (323 : Int) := h2
        refine pm_blk hK zmm228 [] 2 70 [(2, 181), (2, 182), (0, k), (0, x), (0, y)] [(0, 306), (0, k)] μ [] rfl trivial ?_
        refine pm_icmp hK zmm228 .ne 14 84 rfl rfl (fun h3 => ?_) (fun h3 => ?_)
        · have h3 : k ≠ (306 : Int) := h3
          refine pm_blk hK zmm228 [] 4 89 [(2, 181), (2, 182), (0, k), (0, x), (0, y)] [(0, y), (0, x), (2, 182), (2, 181)] μ [] rfl trivial ?_
          refine pm_call hK zmm228 (94, 0, 229, 3) zM229 (1, 23) [(2, 181), (2, 182), (0, x), (0, y)] [] rfl rfl rfl rfl ⟨by omega, by rw [zn229]; omega⟩ (fc_push182 hK (s := x) (c := y) hT hC hn0 hm0 hq hI (hd5 (by omega) (by omega) (by omega)) (hd2 (by omega)) hb178 hb179 hb182 hb183 hb184 hb185 hb186 hb187 hb188 hb189 hb190 hb191 hb192 hb193 hb194 ⟨Nat.le_refl _, Nat.le_refl _⟩) (fun st2 μc2 hp2 => ?_)
          obtain ⟨rfl, hTc2, hCc2, hFk2⟩ := hp2
          have hCp := hCc2
          have hF := hFk2
          first
          | (exfalso; have hx := hd1 (by omega); omega)
          | exact pm_vret rfl rfl ⟨rfl, hTc2, by rw [d3 (by omega)]; exact hC1, hF⟩
          | exact pm_vret rfl rfl ⟨rfl, hTc2, by rw [d1 (by omega)]; exact hC2, hF⟩
          | exact pm_vret rfl rfl ⟨rfl, hTc2, by rw [d2 (by omega)]; exact hC3, hF⟩
          | exact pm_vret rfl rfl ⟨rfl, hTc2, by rw [d4 (by omega) (by omega) (by omega)]; exact hCp, hF⟩
          | (exfalso; omega)
        · have h3 : k = (306 : Int) := h3
          have hx := hd2 (by omega)
          have hy := hd4 (by omega)
          refine pm_blk hK zmm228 [] 5 81 [(2, 181), (2, 182), (0, k), (0, x), (0, y)] [] (pm_up μ 184 x y) [sx_bit Wm 184 = true, 0 ≤ x ∧ x < 12] rfl ⟨hb184, ⟨by omega, by omega⟩, trivial⟩ ?_
          obtain ⟨μ1, eμ1⟩ : ∃ μ', μ' = pm_up μ 184 x y := ⟨_, rfl⟩
          rw [← eμ1]
          have hTμ1 : zTJ φ μ1 := by rw [eμ1]; exact zT_up hT zs184_0 rfl (i := x) (by omega) (by omega) (by omega) (by omega)
          have hF := fa_fr_st hF eμ1 rfl
          have hC3 : fa_C true 182 n m ((fa_up N (16 + x) y), B) pol μ1 := by rw [eμ1]; exact fa_C_w hC (fa_w_price hA hq hx.1 hx.2 rfl) ⟨by decide, by decide⟩ (fa_up_ne (by omega))
          refine pm_blk hK zmm228 [] 1 92 [(2, 181), (2, 182), (0, k), (0, x), (0, y)] [] μ1 [] rfl trivial ?_
          first
          | (exfalso; have hx := hd1 (by omega); omega)
          | exact pm_vret rfl rfl ⟨rfl, hTμ1, by rw [d3 (by omega)]; exact hC1, hF⟩
          | exact pm_vret rfl rfl ⟨rfl, hTμ1, by rw [d1 (by omega)]; exact hC2, hF⟩
          | exact pm_vret rfl rfl ⟨rfl, hTμ1, by rw [d2 (by omega)]; exact hC3, hF⟩
          | exact pm_vret rfl rfl ⟨rfl, hTμ1, by rw [d4 (by omega) (by omega) (by omega)]; exact hCp, hF⟩
          | (exfalso; omega)
      · have h2 : k = (323 : Int) := h2
        have hx := hd2 (by omega)
        have hy := hd3 (by omega)
        refine pm_blk hK zmm228 [] 5 63 [(2, 181), (2, 182), (0, k), (0, x), (0, y)] [] (pm_up μ 183 x y) [sx_bit Wm 183 = true, 0 ≤ x ∧ x < 12] rfl ⟨hb183, ⟨by omega, by omega⟩, trivial⟩ ?_
        obtain ⟨μ2, eμ2⟩ : ∃ μ', μ' = pm_up μ 183 x y := ⟨_, rfl⟩
        rw [← eμ2]
        have hTμ2 : zTJ φ μ2 := by rw [eμ2]; exact zT_up hT zs183_0 rfl (i := x) (by omega) (by omega) (by omega) (by omega)
        have hF := fa_fr_st hF eμ2 rfl
        have hC2 : fa_C true 182 n m ((fa_up N (4 + x) y), B) pol μ2 := by rw [eμ2]; exact fa_C_w hC (fa_w_goods hA hq hx.1 hx.2 rfl) ⟨by decide, by decide⟩ (fa_up_ne (by omega))
        refine pm_blk hK zmm228 [] 1 92 [(2, 181), (2, 182), (0, k), (0, x), (0, y)] [] μ2 [] rfl trivial ?_
        first
        | (exfalso; have hx := hd1 (by omega); omega)
        | exact pm_vret rfl rfl ⟨rfl, hTμ2, by rw [d3 (by omega)]; exact hC1, hF⟩
        | exact pm_vret rfl rfl ⟨rfl, hTμ2, by rw [d1 (by omega)]; exact hC2, hF⟩
        | exact pm_vret rfl rfl ⟨rfl, hTμ2, by rw [d2 (by omega)]; exact hC3, hF⟩
        | exact pm_vret rfl rfl ⟨rfl, hTμ2, by rw [d4 (by omega) (by omega) (by omega)]; exact hCp, hF⟩
        | (exfalso; omega)
    · have h1 : (if 0 ≤ (x) ∧ (x) < μ 182 0 then 1 else 0 : Int) = (0 : Int) := h1
      have h1 := zif0 h1
      exfalso
      have hx := hd2 (by omega)
      omega
  · have h0 : k = (324 : Int) := h0
    refine pm_blk hK zmm228 [] 2 9 [(2, 181), (2, 182), (0, k), (0, x), (0, y)] [(0, x), (2, 182)] μ [] rfl trivial ?_
    refine pm_call hK zmm228 (72, 0, 23, 1) zM23 (0, 0) [(2, 182), (0, x)] [] rfl rfl rfl rfl ⟨by omega, by rw [zn23]; omega⟩ (fc_isCustomer182 hK (s := x) ⟨Nat.le_refl _, Nat.le_refl _⟩) (fun st3 μc3 hp3 => ?_)
    obtain ⟨rfl, rfl⟩ := hp3
    refine pm_if hK zmm228 .eq 80 92 rfl rfl (fun h4 => ?_) (fun h4 => ?_)
    · have h4 : (if 0 ≤ (x) ∧ (x) < μ 182 1 then 1 else 0 : Int) = (0 : Int) := h4
      have h4 := zif0 h4
      first
      | (exfalso; have hx := hd1 (by omega); omega)
      | exact pm_vret rfl rfl ⟨rfl, hT, by rw [d3 (by omega)]; exact hC1, hF⟩
      | exact pm_vret rfl rfl ⟨rfl, hT, by rw [d1 (by omega)]; exact hC2, hF⟩
      | exact pm_vret rfl rfl ⟨rfl, hT, by rw [d2 (by omega)]; exact hC3, hF⟩
      | exact pm_vret rfl rfl ⟨rfl, hT, by rw [d4 (by omega) (by omega) (by omega)]; exact hCp, hF⟩
      | (exfalso; omega)
    · have h4 : (if 0 ≤ (x) ∧ (x) < μ 182 1 then 1 else 0 : Int) ≠ (0 : Int) := h4
      have h4 := zif1 h4
      obtain ⟨hx, hy⟩ := hd1 (by omega)
      have rp : μ 190 x = N (88 + x) := fa_r_purse hA hx.1 hx.2
      have hpp := (fa_I_c hI hx.1 hx.2).1
      have f1 := zT_get hT zs190_0 (i := x) (by omega) (by omega)
      refine pm_blk hK zmm228 [] 10 32 [(2, 181), (2, 182), (0, k), (0, x), (0, y)] [(0, (μ 190 x) + y), (0, 9999), (0, x), (2, 190)] μ [0 ≤ x ∧ x < 18, pm_in ((μ 190 x) + y)] rfl ⟨⟨by omega, by omega⟩, pm_in_mk (by omega) (by omega), trivial⟩ ?_
      refine pm_call hK zmm228 (80, 1, 30, 2) zM30 (0, 0) [(0, 9999), (0, (μ 190 x) + y)] [(0, x), (2, 190)] rfl rfl rfl rfl ⟨by omega, by rw [zn30]; omega⟩ (zh_min hK ⟨Nat.le_refl _, Nat.le_refl _⟩) (fun st4 μc4 hp4 => ?_)
      obtain ⟨rfl, rfl⟩ := hp4
      refine pm_blk hK zmm228 [] 1 36 [(2, 181), (2, 182), (0, k), (0, x), (0, y)] [] (pm_up μ 190 x (min 9999 ((μ 190 x) + y))) [sx_bit Wm 190 = true, 0 ≤ x ∧ x < 18] rfl ⟨hb190, ⟨by omega, by omega⟩, trivial⟩ ?_
      obtain ⟨μ3, eμ3⟩ : ∃ μ', μ' = pm_up μ 190 x (min 9999 ((μ 190 x) + y)) := ⟨_, rfl⟩
      rw [← eμ3]
      have hTμ3 : zTJ φ μ3 := by rw [eμ3]; exact zT_up hT zs190_0 rfl (i := x) (by omega) (by omega) (by omega) (by omega)
      have hF := fa_fr_st hF eμ3 rfl
      have hC1 : fa_C true 182 n m ((fa_up N (88 + x) (min 9999 (N (88 + x) + y))), B) pol μ3 := by rw [eμ3, rp]; exact fa_C_w hC (fa_w_purse hA hq hx.1 hx.2 rfl) ⟨by decide, by decide⟩ (fa_up_ne (by omega))
      refine pm_blk hK zmm228 [] 1 92 [(2, 181), (2, 182), (0, k), (0, x), (0, y)] [] μ3 [] rfl trivial ?_
      first
      | (exfalso; have hx := hd1 (by omega); omega)
      | exact pm_vret rfl rfl ⟨rfl, hTμ3, by rw [d3 (by omega)]; exact hC1, hF⟩
      | exact pm_vret rfl rfl ⟨rfl, hTμ3, by rw [d1 (by omega)]; exact hC2, hF⟩
      | exact pm_vret rfl rfl ⟨rfl, hTμ3, by rw [d2 (by omega)]; exact hC3, hF⟩
      | exact pm_vret rfl rfl ⟨rfl, hTμ3, by rw [d4 (by omega) (by omega) (by omega)]; exact hCp, hF⟩
      | (exfalso; omega)
end ZHW
