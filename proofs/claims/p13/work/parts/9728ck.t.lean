/-! F: the reference: WHO; walks printed by program (wip/p30/pmgen.py) and filled by hand -/
section ZHW
variable {φ : Option pm_Mem}
variable {D : va_G} {Wm : Nat} {ST : List (String × String × String × Nat)} {b0 : sx_B} {l : Launch} {Sg : Nat → Option Nat} {bud : sx_Bu} {μ : pm_Mem} {B0 : Nat → Prop} {J : (Nat → Option Nat) → Heap → Prop}
set_option maxRecDepth 100000 in
theorem fs_who (hK : zKK ST) {c w : Int} (hT : zTJ φ μ) {ls : List (Int × List zIw × List zIw)} (hL : fr_L μ 0 ls) (hb205 : sx_bit Wm 205 = true) (hb224 : sx_bit Wm 224 = true) (hb225 : sx_bit Wm 225 = true) (hbd : 5 ≤ bud.1 ∧ 116 ≤ bud.2.1) : zC D Wm ST b0 l Sg zM160 bud [(2, 205), (0, c), (0, w)] μ (fun st' μ' => zTJ φ μ' ∧ st' = [(0, fg_who (fr_law ls) (μ 209) (μ 205 6) (μ 205 7) (μ 206) c w)] ∧ (∀ k : Int, k ≠ 0 → μ' 205 k = μ 205 k) ∧ ∀ r, r ≠ 205 → r ≠ 224 → r ≠ 225 → μ' r = μ r) := by
  have f6 := zT_get hT zs205_6 (i := 6) (by omega) (by omega)
  have f7 := zT_get hT zs205_7 (i := 7) (by omega) (by omega)
  refine pm_blk hK zmm160 [] 3 5 [(2, 205), (0, c), (0, w)] [] (pm_up μ 205 0 0) [sx_bit Wm 205 = true] rfl ⟨hb205, trivial⟩ ?_
  obtain ⟨μ1, eμ1⟩ : ∃ μ', μ' = pm_up μ 205 0 0 := ⟨_, rfl⟩
  rw [← eμ1]
  have hTμ1 : zTJ φ μ1 := by rw [eμ1]; exact zT_up hT zs205_0 rfl (i := 0) (by omega) (by omega) (by omega) (by omega)
  have b1 : ∀ k : Int, k ≠ 0 → μ1 205 k = μ 205 k := fun k hk => by rw [eμ1, pm_up_ne hk]
  have b2 : ∀ r, r ≠ 205 → μ1 r = μ r := fun r hr => by rw [eμ1, pm_up_row hr]
  have b6 := b1 6 (by decide)
  have b7 := b1 7 (by decide)
  have bn := b2 206 (by decide)
  have b9 := b2 209 (by decide)
  have hL1 := fr_L_fr (fun r a b => b2 r (by omega)) hL
  refine pm_blk hK zmm160 [] 2 7 [(2, 205), (0, c), (0, w)] [(0, c), (2, 205)] μ1 [] rfl trivial ?_
  refine pm_call hK zmm160 (166, 0, 133, 1) zM133 (0, 0) [(2, 205), (0, c)] [] rfl rfl rfl rfl ⟨by omega, by rw [zn133]; omega⟩ (fs_isCustomer hK (s := c) ⟨Nat.le_refl _, Nat.le_refl _⟩) (fun st1 μc1 hp1 => ?_)
  obtain ⟨rfl, rfl⟩ := hp1
  refine pm_if hK zmm160 .ne 6 16 rfl rfl (fun h0 => ?_) (fun h0 => ?_)
  · have h0 : (if 0 ≤ c ∧ c < μ1 205 7 then 1 else 0 : Int) ≠ (0 : Int) := h0
    have h0 := zif1 h0
    refine pm_blk hK zmm160 [] 1 17 [(2, 205), (0, c), (0, w)] [(0, w)] μ1 [] rfl trivial ?_
    refine pm_if hK zmm160 .ne 13 30 rfl rfl (fun h1 => ?_) (fun h1 => ?_)
    · have h1 : w ≠ (0 : Int) := h1
      refine pm_blk hK zmm160 [] 2 32 [(2, 205), (0, c), (0, w)] [(0, 1), (0, w)] μ1 [] rfl trivial ?_
      refine pm_icmp hK zmm160 .ne 10 42 rfl rfl (fun h2 => ?_) (fun h2 => ?_)
      · have h2 : w ≠ (1 : Int) := h2
        refine pm_blk hK zmm160 [] 2 44 [(2, 205), (0, c), (0, w)] [(0, 2), (0, w)] μ1 [] rfl trivial ?_
        refine pm_icmp hK zmm160 .ne 9 53 rfl rfl (fun h3 => ?_) (fun h3 => ?_)
        · have h3 : w ≠ (2 : Int) := h3
          refine pm_blk hK zmm160 [] 2 55 [(2, 205), (0, c), (0, w)] [(0, 3), (0, w)] μ1 [] rfl trivial ?_
          refine pm_icmp hK zmm160 .ne 13 68 rfl rfl (fun h4 => ?_) (fun h4 => ?_)
          · have h4 : w ≠ (3 : Int) := h4
            refine pm_blk hK zmm160 [] 2 70 [(2, 205), (0, c), (0, w)] [(0, 4), (0, w)] μ1 [] rfl trivial ?_
            refine pm_icmp hK zmm160 .ne 14 84 rfl rfl (fun h5 => ?_) (fun h5 => ?_)
            · have h5 : w ≠ (4 : Int) := h5
              have f1 := zT_get hTμ1 zs205_6 (i := 6) (by omega) (by omega)
              refine pm_blk hK zmm160 [] 7 95 [(2, 205), (0, c), (0, w)] [(0, 9 + (μ1 205 6)), (0, 10), (0, w), (2, 205)] μ1 [pm_in (9 + (μ1 205 6))] rfl ⟨pm_in_mk (by omega) (by omega), trivial⟩ ?_
              refine pm_call hK zmm160 (158, 0, 129, 3) zM129 (0, 0) [(2, 205), (0, w), (0, 10), (0, 9 + (μ1 205 6))] [] rfl rfl rfl rfl ⟨by omega, by rw [zn129]; omega⟩ (zh_isIn hK ⟨by omega, by omega⟩) (fun st2 μc2 hp2 => ?_)
              obtain ⟨rfl, rfl⟩ := hp2
              refine pm_if hK zmm160 .eq 13 111 rfl rfl (fun h6 => ?_) (fun h6 => ?_)
              · have h6 : (if 10 ≤ w ∧ w ≤ (9 + (μ1 205 6)) then 1 else 0 : Int) = (0 : Int) := h6
                have h6 := zif0 h6
                refine pm_blk hK zmm160 [] 7 122 [(2, 205), (0, c), (0, w)] [(0, 29 + (μ1 205 6)), (0, 30), (0, w), (2, 205)] μ1 [pm_in (29 + (μ1 205 6))] rfl ⟨pm_in_mk (by omega) (by omega), trivial⟩ ?_
                refine pm_call hK zmm160 (158, 0, 129, 3) zM129 (0, 0) [(2, 205), (0, w), (0, 30), (0, 29 + (μ1 205 6))] [] rfl rfl rfl rfl ⟨by omega, by rw [zn129]; omega⟩ (zh_isIn hK ⟨by omega, by omega⟩) (fun st3 μc3 hp3 => ?_)
                obtain ⟨rfl, rfl⟩ := hp3
                refine pm_if hK zmm160 .eq 13 138 rfl rfl (fun h7 => ?_) (fun h7 => ?_)
                · have h7 : (if 30 ≤ w ∧ w ≤ (29 + (μ1 205 6)) then 1 else 0 : Int) = (0 : Int) := h7
                  have h7 := zif0 h7
                  refine pm_blk hK zmm160 [] 7 149 [(2, 205), (0, c), (0, w)] [(0, 49 + (μ1 205 6)), (0, 50), (0, w), (2, 205)] μ1 [pm_in (49 + (μ1 205 6))] rfl ⟨pm_in_mk (by omega) (by omega), trivial⟩ ?_
                  refine pm_call hK zmm160 (158, 0, 129, 3) zM129 (0, 0) [(2, 205), (0, w), (0, 50), (0, 49 + (μ1 205 6))] [] rfl rfl rfl rfl ⟨by omega, by rw [zn129]; omega⟩ (zh_isIn hK ⟨by omega, by omega⟩) (fun st4 μc4 hp4 => ?_)
                  obtain ⟨rfl, rfl⟩ := hp4
                  refine pm_if hK zmm160 .eq 15 167 rfl rfl (fun h8 => ?_) (fun h8 => ?_)
                  · have h8 : (if 50 ≤ w ∧ w ≤ (49 + (μ1 205 6)) then 1 else 0 : Int) = (0 : Int) := h8
                    have h8 := zif0 h8
                    refine pm_blk hK zmm160 [] 1 169 [(2, 205), (0, c), (0, w)] [(0, (-2))] μ1 [] rfl trivial ?_
                    first
                    | exact pm_iret rfl rfl ⟨hTμ1, by rw [fg_who_z (by omega)], b1, fun r r5 _ _ => b2 r r5⟩
                    | exact pm_iret rfl rfl ⟨hTμ1, by rw [fg_who_c (by omega) ⟨by omega, by omega⟩ ⟨by omega, by omega⟩], fun k h0 => by rw [hff 205 (by decide) (by decide)]; exact b1 k h0, fun r r5 r24 r25 => (hff r r24 r25).trans (b2 r r5)⟩
                    | (exfalso; omega)
                  · have h8 : (if 50 ≤ w ∧ w ≤ (49 + (μ1 205 6)) then 1 else 0 : Int) ≠ (0 : Int) := h8
                    have h8 := zif1 h8
                    refine pm_blk hK zmm160 [] 5 161 [(2, 205), (0, c), (0, w)] [(0, w - 50), (0, c), (2, 205)] μ1 [pm_in (w - 50)] rfl ⟨pm_in_mk (by omega) (by omega), trivial⟩ ?_
                    refine pm_call hK zmm160 (359, 0, 300, 2) zM300 (4, 94) [(2, 205), (0, c), (0, w - 50)] [] rfl rfl rfl rfl ⟨by omega, by rw [zn300]; omega⟩ (fr_costsOf hK (ls := ls) (N := μ 206) (pol := μ 209) (mm := μ 205 7) (c := c) (s := (w - 50)) (b2 206 (by decide)) (b2 209 (by decide)) (b1 7 (by decide)) hL1 hTμ1 ⟨by omega, by omega⟩ ⟨by omega, by omega⟩ hb224 hb225 ⟨Nat.le_refl _, Nat.le_refl _⟩) (fun st5 μc5 hp5 => ?_)
                    obtain ⟨rfl, hTc5, hf5⟩ := hp5
                    have hff := hf5
                    refine pm_blk hK zmm160 [] 1 169 [(2, 205), (0, c), (0, w)] [(0, fa_costs (fr_law ls) (μ 206) (μ 209) (μ 205 7) (c) ((w - 50)))] μc5 [] rfl trivial ?_
                    first
                    | exact pm_iret rfl rfl ⟨hTc5, by rw [fg_who_z (by omega)], b1, fun r r5 _ _ => b2 r r5⟩
                    | exact pm_iret rfl rfl ⟨hTc5, by rw [fg_who_c (by omega) ⟨by omega, by omega⟩ ⟨by omega, by omega⟩], fun k h0 => by rw [hff 205 (by decide) (by decide)]; exact b1 k h0, fun r r5 r24 r25 => (hff r r24 r25).trans (b2 r r5)⟩
                    | (exfalso; omega)
                · have h7 : (if 30 ≤ w ∧ w ≤ (29 + (μ1 205 6)) then 1 else 0 : Int) ≠ (0 : Int) := h7
                  have h7 := zif1 h7
                  refine pm_blk hK zmm160 [] 5 134 [(2, 205), (0, c), (0, w)] [(0, w - 30), (0, c), (2, 205)] μ1 [pm_in (w - 30)] rfl ⟨pm_in_mk (by omega) (by omega), trivial⟩ ?_
                  refine pm_call hK zmm160 (383, 0, 316, 2) zM316 (4, 94) [(2, 205), (0, c), (0, w - 30)] [] rfl rfl rfl rfl ⟨by omega, by rw [zn316]; omega⟩ (fr_yieldsOf hK (ls := ls) (N := μ 206) (pol := μ 209) (mm := μ 205 7) (c := c) (s := (w - 30)) (b2 206 (by decide)) (b2 209 (by decide)) (b1 7 (by decide)) hL1 hTμ1 ⟨by omega, by omega⟩ ⟨by omega, by omega⟩ hb224 hb225 ⟨Nat.le_refl _, Nat.le_refl _⟩) (fun st6 μc6 hp6 => ?_)
                  obtain ⟨rfl, hTc6, hf6⟩ := hp6
                  have hff := hf6
                  exact pm_iret rfl rfl ⟨hTc6, by rw [fg_who_y (by omega) ⟨by omega, by omega⟩ ⟨by omega, by omega⟩], fun k h0 => by rw [hff 205 (by decide) (by decide)]; exact b1 k h0, fun r r5 r24 r25 => (hff r r24 r25).trans (b2 r r5)⟩
              · have h6 : (if 10 ≤ w ∧ w ≤ (9 + (μ1 205 6)) then 1 else 0 : Int) ≠ (0 : Int) := h6
                have h6 := zif1 h6
                refine pm_blk hK zmm160 [] 5 107 [(2, 205), (0, c), (0, w)] [(0, w - 10), (0, c), (2, 205)] μ1 [pm_in (w - 10)] rfl ⟨pm_in_mk (by omega) (by omega), trivial⟩ ?_
                refine pm_call hK zmm160 (398, 0, 312, 2) zM312 (4, 94) [(2, 205), (0, c), (0, w - 10)] [] rfl rfl rfl rfl ⟨by omega, by rw [zn312]; omega⟩ (fr_buysOf hK (ls := ls) (N := μ 206) (pol := μ 209) (mm := μ 205 7) (c := c) (s := (w - 10)) (b2 206 (by decide)) (b2 209 (by decide)) (b1 7 (by decide)) hL1 hTμ1 ⟨by omega, by omega⟩ ⟨by omega, by omega⟩ hb224 hb225 ⟨Nat.le_refl _, Nat.le_refl _⟩) (fun st7 μc7 hp7 => ?_)
                obtain ⟨rfl, hTc7, hf7⟩ := hp7
                have hff := hf7
                exact pm_iret rfl rfl ⟨hTc7, by rw [fg_who_b ⟨by omega, by omega⟩ ⟨by omega, by omega⟩], fun k h0 => by rw [hff 205 (by decide) (by decide)]; exact b1 k h0, fun r r5 r24 r25 => (hff r r24 r25).trans (b2 r r5)⟩
            · have h5 : w = (4 : Int) := h5
              have g2 : μ1 206 (142 + c) = μ 206 (142 + c) := by rw [eμ1, pm_up_off (by decide)]
              have f3 := zT_get hTμ1 zs206_124 (i := 142 + c) (by omega) (by omega)
              refine pm_blk hK zmm160 [] 6 83 [(2, 205), (0, c), (0, w)] [(0, μ1 206 (142 + c))] μ1 [pm_in (142 + c), 0 ≤ 142 + c ∧ 142 + c < 160] rfl ⟨pm_in_mk (by omega) (by omega), ⟨by omega, by omega⟩, trivial⟩ ?_
              exact pm_iret rfl rfl ⟨hTμ1, by rw [show w = 4 by omega, fg_who_4 ⟨by omega, by omega⟩, bn], b1, fun r r5 _ _ => b2 r r5⟩
          · have h4 : w = (3 : Int) := h4
            have g4 : μ1 206 (124 + c) = μ 206 (124 + c) := by rw [eμ1, pm_up_off (by decide)]
            have f5 := zT_get hTμ1 zs206_124 (i := 124 + c) (by omega) (by omega)
            refine pm_blk hK zmm160 [] 6 67 [(2, 205), (0, c), (0, w)] [(0, μ1 206 (124 + c))] μ1 [pm_in (124 + c), 0 ≤ 124 + c ∧ 124 + c < 160] rfl ⟨pm_in_mk (by omega) (by omega), ⟨by omega, by omega⟩, trivial⟩ ?_
            exact pm_iret rfl rfl ⟨hTμ1, by rw [show w = 3 by omega, fg_who_3 ⟨by omega, by omega⟩, bn], b1, fun r r5 _ _ => b2 r r5⟩
        · have h3 : w = (2 : Int) := h3
          refine pm_blk hK zmm160 [] 2 49 [(2, 205), (0, c), (0, w)] [(0, c), (2, 205)] μ1 [] rfl trivial ?_
          refine pm_call hK zmm160 (154, 0, 298, 1) zM298 (0, 0) [(2, 205), (0, c)] [] rfl rfl rfl rfl ⟨by omega, by rw [zn298]; omega⟩ (fr_in hK hTμ1 ⟨by omega, by omega⟩ ⟨Nat.le_refl _, Nat.le_refl _⟩) (fun st8 μc8 hp8 => ?_)
          obtain ⟨rfl, rfl⟩ := hp8
          exact pm_iret rfl rfl ⟨hTμ1, by rw [show w = 2 by omega, fg_who_2 ⟨by omega, by omega⟩, bn], b1, fun r r5 _ _ => b2 r r5⟩
      · have h2 : w = (1 : Int) := h2
        have g6 : μ1 209 c = μ 209 c := by rw [eμ1, pm_up_off (by decide)]
        have f7 := zT_get hTμ1 zs209_0 (i := c) (by omega) (by omega)
        refine pm_blk hK zmm160 [] 4 41 [(2, 205), (0, c), (0, w)] [(0, μ1 209 c)] μ1 [0 ≤ c ∧ c < 18] rfl ⟨⟨by omega, by omega⟩, trivial⟩ ?_
        exact pm_iret rfl rfl ⟨hTμ1, by rw [show w = 1 by omega, fg_who_1 ⟨by omega, by omega⟩, b9], b1, fun r r5 _ _ => b2 r r5⟩
    · have h1 : w = (0 : Int) := h1
      have g8 : μ1 206 (88 + c) = μ 206 (88 + c) := by rw [eμ1, pm_up_off (by decide)]
      have f9 := zT_get hTμ1 zs206_88 (i := 88 + c) (by omega) (by omega)
      refine pm_blk hK zmm160 [] 6 29 [(2, 205), (0, c), (0, w)] [(0, μ1 206 (88 + c))] μ1 [pm_in (88 + c), 0 ≤ 88 + c ∧ 88 + c < 160] rfl ⟨pm_in_mk (by omega) (by omega), ⟨by omega, by omega⟩, trivial⟩ ?_
      exact pm_iret rfl rfl ⟨hTμ1, by rw [show w = 0 by omega, fg_who_0 ⟨by omega, by omega⟩, bn], b1, fun r r5 _ _ => b2 r r5⟩
  · have h0 : (if 0 ≤ c ∧ c < μ1 205 7 then 1 else 0 : Int) = (0 : Int) := h0
    have h0 := zif0 h0
    refine pm_blk hK zmm160 [] 1 15 [(2, 205), (0, c), (0, w)] [(0, (-2))] μ1 [] rfl trivial ?_
    exact pm_iret rfl rfl ⟨hTμ1, by rw [fg_who_n (by omega)], b1, fun r r5 _ _ => b2 r r5⟩
end ZHW
