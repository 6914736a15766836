/-! F: the class: WHO; walks printed by program (wip/p30/pmgen.py) and filled by hand -/
section ZHW
variable {φ : Option pm_Mem}
variable {D : va_G} {Wm : Nat} {ST : List (String × String × String × Nat)} {b0 : sx_B} {l : Launch} {Sg : Nat → Option Nat} {bud : sx_Bu} {μ : pm_Mem} {B0 : Nat → Prop} {J : (Nat → Option Nat) → Heap → Prop}
set_option maxRecDepth 100000 in
theorem fg_whoc (hK : zKK ST) {c w : Int} (hT : zTJ φ μ) (hv_w : -2147483648 ≤ w ∧ w ≤ 2147483647) {N B pol : Int → Int} {n m : Int} (hC : fa_C false 3 n m (N, B) pol μ) (hn0 : 0 ≤ n) (hm0 : 0 ≤ m) (hq : n ≤ 12 ∧ m ≤ 18) (hI : fa_I n m N) {ls : List (Int × List zIw × List zIw)} (hL : fc_L (μ 17 2) (μ 18) (μ 19) 0 ls) (hl16 : μ 17 2 ≤ 16) (hb178 : sx_bit Wm 178 = true) (hb179 : sx_bit Wm 179 = true) (hbd : 4 ≤ bud.1 ∧ 96 ≤ bud.2.1) : zC D Wm ST b0 l Sg zM57 bud [(2, 1), (0, c), (0, w)] μ (fun st' μ' => zTJ φ μ' ∧ fa_fr [178, 179] μ μ' ∧ st' = [(0, fg_who (fr_law ls) pol n m N c w)]) := by
  have a0 : μ 3 0 = n := hC.1.1.1
  have a1 : μ 3 1 = m := hC.1.1.2.1
  have w10 := pm_w32_lo (x := w - 10) (by omega) (by omega)
  have w30 := pm_w32_lo (x := w - 30) (by omega) (by omega)
  have w50 := pm_w32_lo (x := w - 50) (by omega) (by omega)
  have hF0 : fa_fr [178, 179] μ μ := fa_fr_0
  have rc : (0 ≤ c ∧ c < m) → μ 11 c = N (88 + c) ∧ μ 12 c = pol c ∧ μ 13 c = N (106 + c) - 1 ∧ μ 14 c = N (124 + c) ∧ μ 15 c = N (142 + c) := fun h => ⟨fa_r_purse hC.1 h.1 h.2, fa_r_polite hC.1 h.1 h.2, fa_r_in hC.1 h.1 h.2, fa_r_poles hC.1 h.1 h.2, fa_r_bought hC.1 h.1 h.2⟩
  refine pm_blk hK zmm57 [23, 49, 58, 84, 93, 119] 6 10 [(2, 1), (0, c), (0, w), (2, 3)] [(0, c), (2, 3)] μ [] rfl trivial ?_
  refine pm_call hK zmm57 (113, 0, 23, 1) zM23 (0, 0) [(2, 3), (0, c)] [] rfl rfl rfl rfl ⟨by omega, by rw [zn23]; omega⟩ (fc_isCustomer3 hK (s := c) ⟨Nat.le_refl _, Nat.le_refl _⟩) (fun st1 μc1 hp1 => ?_)
  obtain ⟨rfl, rfl⟩ := hp1
  refine pm_if hK zmm57 .ne 6 19 rfl rfl (fun h0 => ?_) (fun h0 => ?_)
  · have h0 : (if 0 ≤ (c) ∧ (c) < μ 3 1 then 1 else 0 : Int) ≠ (0 : Int) := h0
    have h0 := zif1 h0
    have w1 := zw32 (w - 10)
    refine pm_blk hK zmm57 [23, 49, 58, 84, 93, 119] 4 24 [(2, 1), (0, c), (0, w), (2, 3)] [(0, pm_w32 (w - 10)), (2, 3)] μ [] rfl trivial ?_
    refine pm_call hK zmm57 (105, 0, 22, 1) zM22 (0, 0) [(2, 3), (0, pm_w32 (w - 10))] [] rfl rfl rfl rfl ⟨by omega, by rw [zn22]; omega⟩ (fc_isShop3 hK (s := (pm_w32 (w - 10))) ⟨Nat.le_refl _, Nat.le_refl _⟩) (fun st2 μc2 hp2 => ?_)
    obtain ⟨rfl, rfl⟩ := hp2
    refine pm_if hK zmm57 .eq 27 54 rfl rfl (fun h1 => ?_) (fun h1 => ?_)
    · have h1 : (if 0 ≤ ((pm_w32 (w - 10))) ∧ ((pm_w32 (w - 10))) < μ 3 0 then 1 else 0 : Int) = (0 : Int) := h1
      have h1 := zif0 h1
      have w2 := zw32 (w - 30)
      refine pm_blk hK zmm57 [23, 49, 58, 84, 93, 119] 4 59 [(2, 1), (0, c), (0, w), (2, 3)] [(0, pm_w32 (w - 30)), (2, 3)] μ [] rfl trivial ?_
      refine pm_call hK zmm57 (105, 0, 22, 1) zM22 (0, 0) [(2, 3), (0, pm_w32 (w - 30))] [] rfl rfl rfl rfl ⟨by omega, by rw [zn22]; omega⟩ (fc_isShop3 hK (s := (pm_w32 (w - 30))) ⟨Nat.le_refl _, Nat.le_refl _⟩) (fun st3 μc3 hp3 => ?_)
      obtain ⟨rfl, rfl⟩ := hp3
      refine pm_if hK zmm57 .eq 27 89 rfl rfl (fun h2 => ?_) (fun h2 => ?_)
      · have h2 : (if 0 ≤ ((pm_w32 (w - 30))) ∧ ((pm_w32 (w - 30))) < μ 3 0 then 1 else 0 : Int) = (0 : Int) := h2
        have h2 := zif0 h2
        have w3 := zw32 (w - 50)
        refine pm_blk hK zmm57 [23, 49, 58, 84, 93, 119] 4 94 [(2, 1), (0, c), (0, w), (2, 3)] [(0, pm_w32 (w - 50)), (2, 3)] μ [] rfl trivial ?_
        refine pm_call hK zmm57 (105, 0, 22, 1) zM22 (0, 0) [(2, 3), (0, pm_w32 (w - 50))] [] rfl rfl rfl rfl ⟨by omega, by rw [zn22]; omega⟩ (fc_isShop3 hK (s := (pm_w32 (w - 50))) ⟨Nat.le_refl _, Nat.le_refl _⟩) (fun st4 μc4 hp4 => ?_)
        obtain ⟨rfl, rfl⟩ := hp4
        refine pm_if hK zmm57 .eq 27 124 rfl rfl (fun h3 => ?_) (fun h3 => ?_)
        · have h3 : (if 0 ≤ ((pm_w32 (w - 50))) ∧ ((pm_w32 (w - 50))) < μ 3 0 then 1 else 0 : Int) = (0 : Int) := h3
          have h3 := zif0 h3
          refine pm_blk hK zmm57 [23, 49, 58, 84, 93, 119] 1 125 [(2, 1), (0, c), (0, w), (2, 3)] [(0, w)] μ [] rfl trivial ?_
          have ht4 : (w < 0 ∨ 4 < w) ∨ w = 0 ∨ w = 1 ∨ w = 2 ∨ w = 3 ∨ w = 4 := by omega
          rcases ht4 with ht4 | ht4 | ht4 | ht4 | ht4 | ht4
          · refine zp_tout hK zmm57 rfl ht4 (tgt := 195) (by decide) ?_
            refine pm_blk hK zmm57 [23, 49, 58, 84, 93, 119] 1 197 [(2, 1), (0, c), (0, w), (2, 3)] [(0, (-2))] μ [] rfl trivial ?_
            exact pm_iret rfl rfl ⟨hT, hF0, by rw [fg_who_z (by omega)]⟩
          · refine zp_tin hK zmm57 (off := 35) (tgt := 160) rfl (by omega) (by omega) (by rw [ht4]; rfl) (by decide) ?_
            have f4 := zT_get hT zs11_0 (i := c) (by omega) (by omega)
            refine pm_blk hK zmm57 [23, 49, 58, 84, 93, 119] 4 166 [(2, 1), (0, c), (0, w), (2, 3)] [(0, μ 11 c)] μ [0 ≤ c ∧ c < 18] rfl ⟨⟨by omega, by omega⟩, trivial⟩ ?_
            exact pm_iret rfl rfl ⟨hT, hF0, by rw [show w = 0 by omega, fg_who_0 ⟨by omega, by omega⟩, (rc ⟨by omega, by omega⟩).1]⟩
          · refine zp_tin hK zmm57 (off := 42) (tgt := 167) rfl (by omega) (by omega) (by rw [ht4]; rfl) (by decide) ?_
            have f5 := zT_get hT zs12_0 (i := c) (by omega) (by omega)
            refine pm_blk hK zmm57 [23, 49, 58, 84, 93, 119] 4 173 [(2, 1), (0, c), (0, w), (2, 3)] [(0, μ 12 c)] μ [0 ≤ c ∧ c < 18] rfl ⟨⟨by omega, by omega⟩, trivial⟩ ?_
            exact pm_iret rfl rfl ⟨hT, hF0, by rw [show w = 1 by omega, fg_who_1 ⟨by omega, by omega⟩, (rc ⟨by omega, by omega⟩).2.1]⟩
          · refine zp_tin hK zmm57 (off := 49) (tgt := 174) rfl (by omega) (by omega) (by rw [ht4]; rfl) (by decide) ?_
            have f6 := zT_get hT zs13_0 (i := c) (by omega) (by omega)
            refine pm_blk hK zmm57 [23, 49, 58, 84, 93, 119] 4 180 [(2, 1), (0, c), (0, w), (2, 3)] [(0, μ 13 c)] μ [0 ≤ c ∧ c < 18] rfl ⟨⟨by omega, by omega⟩, trivial⟩ ?_
            exact pm_iret rfl rfl ⟨hT, hF0, by rw [show w = 2 by omega, fg_who_2 ⟨by omega, by omega⟩, (rc ⟨by omega, by omega⟩).2.2.1]⟩
          · refine zp_tin hK zmm57 (off := 56) (tgt := 181) rfl (by omega) (by omega) (by rw [ht4]; rfl) (by decide) ?_
            have f7 := zT_get hT zs14_0 (i := c) (by omega) (by omega)
            refine pm_blk hK zmm57 [23, 49, 58, 84, 93, 119] 4 187 [(2, 1), (0, c), (0, w), (2, 3)] [(0, μ 14 c)] μ [0 ≤ c ∧ c < 18] rfl ⟨⟨by omega, by omega⟩, trivial⟩ ?_
            exact pm_iret rfl rfl ⟨hT, hF0, by rw [show w = 3 by omega, fg_who_3 ⟨by omega, by omega⟩, (rc ⟨by omega, by omega⟩).2.2.2.1]⟩
          · refine zp_tin hK zmm57 (off := 63) (tgt := 188) rfl (by omega) (by omega) (by rw [ht4]; rfl) (by decide) ?_
            have f8 := zT_get hT zs15_0 (i := c) (by omega) (by omega)
            refine pm_blk hK zmm57 [23, 49, 58, 84, 93, 119] 4 194 [(2, 1), (0, c), (0, w), (2, 3)] [(0, μ 15 c)] μ [0 ≤ c ∧ c < 18] rfl ⟨⟨by omega, by omega⟩, trivial⟩ ?_
            exact pm_iret rfl rfl ⟨hT, hF0, by rw [show w = 4 by omega, fg_who_4 ⟨by omega, by omega⟩, (rc ⟨by omega, by omega⟩).2.2.2.2]⟩
        · have h3 : (if 0 ≤ ((pm_w32 (w - 50))) ∧ ((pm_w32 (w - 50))) < μ 3 0 then 1 else 0 : Int) ≠ (0 : Int) := h3
          have h3 := zif1 h3
          have w9 := zw32 (w - 50)
          refine pm_blk hK zmm57 [23, 49, 58, 84, 93, 119] 11 120 [(2, 1), (0, c), (0, w), (2, 3)] [(0, pm_w32 (w - 50)), (0, c), (0, 302), (2, 3), (2, 17), (2, 177)] μ [] rfl trivial ?_
          refine pm_call hK zmm57 (234, 0, 213, 5) zM213 (3, 67) [(2, 177), (2, 17), (2, 3), (0, 302), (0, c), (0, pm_w32 (w - 50))] [] rfl rfl rfl rfl ⟨by omega, by rw [zn213]; omega⟩ (fc_asked3 hK (w := 302) (c := c) (s := (pm_w32 (w - 50))) hT hC.1 hn0 hm0 hq hL hl16 (by omega) ⟨by omega, by omega⟩ ⟨by omega, by omega⟩ hb178 hb179 ⟨Nat.le_refl _, Nat.le_refl _⟩) (fun st5 μc5 hp5 => ?_)
          obtain ⟨rfl, hTc5, hfa5⟩ := hp5
          have hF1 : fa_fr [178, 179] μ μc5 := fa_fr_78 hfa5 rfl rfl
          exact pm_iret rfl rfl ⟨hTc5, hF1, by rw [fg_who_c hq.1 ⟨by omega, by omega⟩ ⟨by omega, by omega⟩, fa_ask_2, show pm_w32 (w - 50) = w - 50 by omega]⟩
      · have h2 : (if 0 ≤ ((pm_w32 (w - 30))) ∧ ((pm_w32 (w - 30))) < μ 3 0 then 1 else 0 : Int) ≠ (0 : Int) := h2
        have h2 := zif1 h2
        have w10 := zw32 (w - 30)
        refine pm_blk hK zmm57 [23, 49, 58, 84, 93, 119] 11 85 [(2, 1), (0, c), (0, w), (2, 3)] [(0, pm_w32 (w - 30)), (0, c), (0, 301), (2, 3), (2, 17), (2, 177)] μ [] rfl trivial ?_
        refine pm_call hK zmm57 (234, 0, 213, 5) zM213 (3, 67) [(2, 177), (2, 17), (2, 3), (0, 301), (0, c), (0, pm_w32 (w - 30))] [] rfl rfl rfl rfl ⟨by omega, by rw [zn213]; omega⟩ (fc_asked3 hK (w := 301) (c := c) (s := (pm_w32 (w - 30))) hT hC.1 hn0 hm0 hq hL hl16 (by omega) ⟨by omega, by omega⟩ ⟨by omega, by omega⟩ hb178 hb179 ⟨Nat.le_refl _, Nat.le_refl _⟩) (fun st6 μc6 hp6 => ?_)
        obtain ⟨rfl, hTc6, hfa6⟩ := hp6
        have hF1 : fa_fr [178, 179] μ μc6 := fa_fr_78 hfa6 rfl rfl
        exact pm_iret rfl rfl ⟨hTc6, hF1, by rw [fg_who_y hq.1 ⟨by omega, by omega⟩ ⟨by omega, by omega⟩, fa_ask_1, show pm_w32 (w - 30) = w - 30 by omega]⟩
    · have h1 : (if 0 ≤ ((pm_w32 (w - 10))) ∧ ((pm_w32 (w - 10))) < μ 3 0 then 1 else 0 : Int) ≠ (0 : Int) := h1
      have h1 := zif1 h1
      have w11 := zw32 (w - 10)
      refine pm_blk hK zmm57 [23, 49, 58, 84, 93, 119] 11 50 [(2, 1), (0, c), (0, w), (2, 3)] [(0, pm_w32 (w - 10)), (0, c), (0, 300), (2, 3), (2, 17), (2, 177)] μ [] rfl trivial ?_
      refine pm_call hK zmm57 (234, 0, 213, 5) zM213 (3, 67) [(2, 177), (2, 17), (2, 3), (0, 300), (0, c), (0, pm_w32 (w - 10))] [] rfl rfl rfl rfl ⟨by omega, by rw [zn213]; omega⟩ (fc_asked3 hK (w := 300) (c := c) (s := (pm_w32 (w - 10))) hT hC.1 hn0 hm0 hq hL hl16 (by omega) ⟨by omega, by omega⟩ ⟨by omega, by omega⟩ hb178 hb179 ⟨Nat.le_refl _, Nat.le_refl _⟩) (fun st7 μc7 hp7 => ?_)
      obtain ⟨rfl, hTc7, hfa7⟩ := hp7
      have hF1 : fa_fr [178, 179] μ μc7 := fa_fr_78 hfa7 rfl rfl
      exact pm_iret rfl rfl ⟨hTc7, hF1, by rw [fg_who_b ⟨by omega, by omega⟩ ⟨by omega, by omega⟩, fa_ask_0, show pm_w32 (w - 10) = w - 10 by omega]⟩
  · have h0 : (if 0 ≤ (c) ∧ (c) < μ 3 1 then 1 else 0 : Int) = (0 : Int) := h0
    have h0 := zif0 h0
    refine pm_blk hK zmm57 [23, 49, 58, 84, 93, 119] 1 18 [(2, 1), (0, c), (0, w), (2, 3)] [(0, (-2))] μ [] rfl trivial ?_
    exact pm_iret rfl rfl ⟨hT, hF0, by rw [fg_who_n (by omega)]⟩
end ZHW
