/-! F: the reference: OF; walks printed by program (wip/p30/pmgen.py) and filled by hand -/
section ZHW
variable {φ : Option pm_Mem}
variable {D : va_G} {Wm : Nat} {ST : List (String × String × String × Nat)} {b0 : sx_B} {l : Launch} {Sg : Nat → Option Nat} {bud : sx_Bu} {μ : pm_Mem} {B0 : Nat → Prop} {J : (Nat → Option Nat) → Heap → Prop}
set_option maxRecDepth 100000 in
theorem fs_of (hK : zKK ST) {s w : Int} (hT : zTJ φ μ) (hb205 : sx_bit Wm 205 = true) (hbd : 2 ≤ bud.1 ∧ 45 ≤ bud.2.1) : zC D Wm ST b0 l Sg zM159 bud [(2, 205), (0, s), (0, w)] μ (fun st' μ' => ∃ ol, zTJ φ μ' ∧ st' = [(0, fg_of (μ 205 6) (μ 205 7) (μ 206) ol s w)] ∧ ((0 ≤ s ∧ s < μ 205 6) → (0 ≤ w - 10 ∧ w - 10 < μ 205 6) → (ol = -1 ∧ μ 223 (12 * s + (w - 10)) = 0) ∨ (ol = μ 223 (12 * s + (w - 10)) ∧ μ 223 (12 * s + (w - 10)) ≠ 0)) ∧ (∀ k : Int, k ≠ 0 → μ' 205 k = μ 205 k) ∧ ∀ r, r ≠ 205 → μ' r = μ r) := by
  have f6 := zT_get hT zs205_6 (i := 6) (by omega) (by omega)
  have f7 := zT_get hT zs205_7 (i := 7) (by omega) (by omega)
  refine pm_blk hK zmm159 [] 3 5 [(2, 205), (0, s), (0, w), (9, 0)] [] (pm_up μ 205 0 0) [sx_bit Wm 205 = true] rfl ⟨hb205, trivial⟩ ?_
  obtain ⟨μ1, eμ1⟩ : ∃ μ', μ' = pm_up μ 205 0 0 := ⟨_, rfl⟩
  rw [← eμ1]
  have hTμ1 : zTJ φ μ1 := by rw [eμ1]; exact zT_up hT zs205_0 rfl (i := 0) (by omega) (by omega) (by omega) (by omega)
  have b1 : ∀ k : Int, k ≠ 0 → μ1 205 k = μ 205 k := fun k hk => by rw [eμ1, pm_up_ne hk]
  have b2 : ∀ r, r ≠ 205 → μ1 r = μ r := fun r hr => by rw [eμ1, pm_up_row hr]
  have b6 := b1 6 (by decide)
  have b7 := b1 7 (by decide)
  have bn := b2 206 (by decide)
  have b23 := b2 223 (by decide)
  refine pm_blk hK zmm159 [] 2 7 [(2, 205), (0, s), (0, w), (9, 0)] [(0, s), (2, 205)] μ1 [] rfl trivial ?_
  refine pm_call hK zmm159 (162, 0, 132, 1) zM132 (0, 0) [(2, 205), (0, s)] [] rfl rfl rfl rfl ⟨by omega, by rw [zn132]; omega⟩ (fs_isShop hK (s := s) ⟨Nat.le_refl _, Nat.le_refl _⟩) (fun st1 μc1 hp1 => ?_)
  obtain ⟨rfl, rfl⟩ := hp1
  refine pm_if hK zmm159 .ne 6 16 rfl rfl (fun h0 => ?_) (fun h0 => ?_)
  · have h0 : (if 0 ≤ s ∧ s < μ1 205 6 then 1 else 0 : Int) ≠ (0 : Int) := h0
    have h0 := zif1 h0
    refine pm_blk hK zmm159 [] 4 20 [(2, 205), (0, s), (0, w), (9, 0)] [(0, 2), (0, 0), (0, w), (2, 205)] μ1 [] rfl trivial ?_
    refine pm_call hK zmm159 (158, 0, 129, 3) zM129 (0, 0) [(2, 205), (0, w), (0, 0), (0, 2)] [] rfl rfl rfl rfl ⟨by omega, by rw [zn129]; omega⟩ (zh_isIn hK ⟨by omega, by omega⟩) (fun st2 μc2 hp2 => ?_)
    obtain ⟨rfl, rfl⟩ := hp2
    refine pm_if hK zmm159 .eq 17 40 rfl rfl (fun h1 => ?_) (fun h1 => ?_)
    · have h1 : (if 0 ≤ w ∧ w ≤ 2 then 1 else 0 : Int) = (0 : Int) := h1
      have h1 := zif0 h1
      refine pm_blk hK zmm159 [] 2 42 [(2, 205), (0, s), (0, w), (9, 0)] [(0, 3), (0, w)] μ1 [] rfl trivial ?_
      refine pm_icmp hK zmm159 .ne 17 59 rfl rfl (fun h2 => ?_) (fun h2 => ?_)
      · have h2 : w ≠ (3 : Int) := h2
        refine pm_blk hK zmm159 [] 2 61 [(2, 205), (0, s), (0, w), (9, 0)] [(0, 4), (0, w)] μ1 [] rfl trivial ?_
        refine pm_icmp hK zmm159 .ne 15 76 rfl rfl (fun h3 => ?_) (fun h3 => ?_)
        · have h3 : w ≠ (4 : Int) := h3
          refine pm_blk hK zmm159 [] 2 78 [(2, 205), (0, s), (0, w), (9, 0)] [(0, 5), (0, w)] μ1 [] rfl trivial ?_
          refine pm_icmp hK zmm159 .ne 15 93 rfl rfl (fun h4 => ?_) (fun h4 => ?_)
          · have h4 : w ≠ (5 : Int) := h4
            refine pm_blk hK zmm159 [] 2 96 [(2, 205), (0, s), (0, w), (9, 0)] [(0, 6), (0, w)] μ1 [] rfl trivial ?_
            refine pm_icmp hK zmm159 .ne 13 109 rfl rfl (fun h5 => ?_) (fun h5 => ?_)
            · have h5 : w ≠ (6 : Int) := h5
              refine pm_blk hK zmm159 [] 2 112 [(2, 205), (0, s), (0, w), (9, 0)] [(0, 7), (0, w)] μ1 [] rfl trivial ?_
              refine pm_icmp hK zmm159 .ne 9 121 rfl rfl (fun h6 => ?_) (fun h6 => ?_)
              · have h6 : w ≠ (7 : Int) := h6
                have f1 := zT_get hTμ1 zs205_6 (i := 6) (by omega) (by omega)
                refine pm_blk hK zmm159 [] 7 132 [(2, 205), (0, s), (0, w), (9, 0)] [(0, 9 + (μ1 205 6)), (0, 10), (0, w), (2, 205)] μ1 [pm_in (9 + (μ1 205 6))] rfl ⟨pm_in_mk (by omega) (by omega), trivial⟩ ?_
                refine pm_call hK zmm159 (158, 0, 129, 3) zM129 (0, 0) [(2, 205), (0, w), (0, 10), (0, 9 + (μ1 205 6))] [] rfl rfl rfl rfl ⟨by omega, by rw [zn129]; omega⟩ (zh_isIn hK ⟨by omega, by omega⟩) (fun st3 μc3 hp3 => ?_)
                obtain ⟨rfl, rfl⟩ := hp3
                refine pm_if hK zmm159 .ne 6 141 rfl rfl (fun h7 => ?_) (fun h7 => ?_)
                · have h7 : (if 10 ≤ w ∧ w ≤ (9 + (μ1 205 6)) then 1 else 0 : Int) ≠ (0 : Int) := h7
                  have h7 := zif1 h7
                  have g2 : μ1 223 (((12 * s) + w) - 10) = μ 223 (((12 * s) + w) - 10) := by rw [eμ1, pm_up_off (by decide)]
                  have f3 := zT_get hTμ1 zs223_0 (i := ((12 * s) + w) - 10) (by omega) (by omega)
                  refine pm_blk hK zmm159 [] 11 156 [(2, 205), (0, s), (0, w), (0, μ1 223 (((12 * s) + w) - 10))] [] μ1 [pm_in (12 * s), pm_in ((12 * s) + w), pm_in (((12 * s) + w) - 10), 0 ≤ ((12 * s) + w) - 10 ∧ ((12 * s) + w) - 10 < 288] rfl ⟨pm_in_mk (by omega) (by omega), pm_in_mk (by omega) (by omega), pm_in_mk (by omega) (by omega), ⟨by omega, by omega⟩, trivial⟩ ?_
                  have e223 : μ1 223 (12 * s + w - 10) = μ 223 (12 * s + (w - 10)) := by rw [b23, show 12 * s + w - 10 = 12 * s + (w - 10) by omega]
                  refine pm_blk hK zmm159 [] 1 157 [(2, 205), (0, s), (0, w), (0, μ1 223 (((12 * s) + w) - 10))] [(0, μ1 223 (((12 * s) + w) - 10))] μ1 [] rfl trivial ?_
                  refine pm_if hK zmm159 .ne 7 164 rfl rfl (fun h8 => ?_) (fun h8 => ?_)
                  · have h8 : μ1 223 (((12 * s) + w) - 10) ≠ (0 : Int) := h8
                    refine pm_blk hK zmm159 [] 1 165 [(2, 205), (0, s), (0, w), (0, μ1 223 (((12 * s) + w) - 10))] [(0, μ1 223 (((12 * s) + w) - 10))] μ1 [] rfl trivial ?_
                    first
                    | exact pm_iret rfl rfl ⟨-1, hTμ1, by rw [fg_of_l ⟨by omega, by omega⟩ ⟨by omega, by omega⟩], fun _ _ => Or.inl ⟨rfl, by omega⟩, b1, b2⟩
                    | exact pm_iret rfl rfl ⟨_, hTμ1, by rw [fg_of_l ⟨by omega, by omega⟩ ⟨by omega, by omega⟩], fun _ _ => Or.inr ⟨e223, by omega⟩, b1, b2⟩
                    | (exfalso; omega)
                  · have h8 : μ1 223 (((12 * s) + w) - 10) = (0 : Int) := h8
                    refine pm_blk hK zmm159 [] 2 165 [(2, 205), (0, s), (0, w), (0, μ1 223 (((12 * s) + w) - 10))] [(0, (-1))] μ1 [] rfl trivial ?_
                    first
                    | exact pm_iret rfl rfl ⟨-1, hTμ1, by rw [fg_of_l ⟨by omega, by omega⟩ ⟨by omega, by omega⟩], fun _ _ => Or.inl ⟨rfl, by omega⟩, b1, b2⟩
                    | exact pm_iret rfl rfl ⟨_, hTμ1, by rw [fg_of_l ⟨by omega, by omega⟩ ⟨by omega, by omega⟩], fun _ _ => Or.inr ⟨e223, by omega⟩, b1, b2⟩
                    | (exfalso; omega)
                · have h7 : (if 10 ≤ w ∧ w ≤ (9 + (μ1 205 6)) then 1 else 0 : Int) = (0 : Int) := h7
                  have h7 := zif0 h7
                  refine pm_blk hK zmm159 [] 1 140 [(2, 205), (0, s), (0, w), (9, 0)] [(0, (-2))] μ1 [] rfl trivial ?_
                  exact pm_iret rfl rfl ⟨0, hTμ1, by rw [fg_of_z (by omega)], fun _ h => absurd h (by omega), b1, b2⟩
              · have h6 : w = (7 : Int) := h6
                refine pm_blk hK zmm159 [] 2 117 [(2, 205), (0, s), (0, w), (9, 0)] [(0, s), (2, 205)] μ1 [] rfl trivial ?_
                refine pm_call hK zmm159 (331, 0, 302, 1) zM302 (1, 22) [(2, 205), (0, s)] [] rfl rfl rfl rfl ⟨by omega, by rw [zn302]; omega⟩ (fr_those hK (s := s) hTμ1 ⟨Nat.le_refl _, Nat.le_refl _⟩) (fun st4 μc4 hp4 => ?_)
                obtain ⟨rfl, rfl⟩ := hp4
                exact pm_iret rfl rfl ⟨0, hTμ1, by rw [show w = 7 by omega, fg_of_7 ⟨by omega, by omega⟩, bn, b7], fun _ h => absurd h (by omega), b1, b2⟩
            · have h5 : w = (6 : Int) := h5
              have g4 : μ1 206 (76 + s) = μ 206 (76 + s) := by rw [eμ1, pm_up_off (by decide)]
              have f5 := zT_get hTμ1 zs206_76 (i := 76 + s) (by omega) (by omega)
              refine pm_blk hK zmm159 [] 6 108 [(2, 205), (0, s), (0, w), (9, 0)] [(0, μ1 206 (76 + s))] μ1 [pm_in (76 + s), 0 ≤ 76 + s ∧ 76 + s < 160] rfl ⟨pm_in_mk (by omega) (by omega), ⟨by omega, by omega⟩, trivial⟩ ?_
              exact pm_iret rfl rfl ⟨0, hTμ1, by rw [show w = 6 by omega, fg_of_6 ⟨by omega, by omega⟩, bn], fun _ h => absurd h (by omega), b1, b2⟩
          · have h4 : w = (5 : Int) := h4
            have g6 : μ1 206 (64 + s) = μ 206 (64 + s) := by rw [eμ1, pm_up_off (by decide)]
            have f7 := zT_get hTμ1 zs206_52 (i := 64 + s) (by omega) (by omega)
            refine pm_blk hK zmm159 [] 8 92 [(2, 205), (0, s), (0, w), (9, 0)] [(0, (μ1 206 (64 + s)) - 1)] μ1 [pm_in (64 + s), 0 ≤ 64 + s ∧ 64 + s < 160, pm_in ((μ1 206 (64 + s)) - 1)] rfl ⟨pm_in_mk (by omega) (by omega), ⟨by omega, by omega⟩, pm_in_mk (by omega) (by omega), trivial⟩ ?_
            exact pm_iret rfl rfl ⟨0, hTμ1, by rw [show w = 5 by omega, fg_of_5 ⟨by omega, by omega⟩, bn], fun _ h => absurd h (by omega), b1, b2⟩
        · have h3 : w = (4 : Int) := h3
          have g8 : μ1 206 (52 + s) = μ 206 (52 + s) := by rw [eμ1, pm_up_off (by decide)]
          have f9 := zT_get hTμ1 zs206_52 (i := 52 + s) (by omega) (by omega)
          refine pm_blk hK zmm159 [] 8 75 [(2, 205), (0, s), (0, w), (9, 0)] [(0, (μ1 206 (52 + s)) - 1)] μ1 [pm_in (52 + s), 0 ≤ 52 + s ∧ 52 + s < 160, pm_in ((μ1 206 (52 + s)) - 1)] rfl ⟨pm_in_mk (by omega) (by omega), ⟨by omega, by omega⟩, pm_in_mk (by omega) (by omega), trivial⟩ ?_
          exact pm_iret rfl rfl ⟨0, hTμ1, by rw [show w = 4 by omega, fg_of_4 ⟨by omega, by omega⟩, bn], fun _ h => absurd h (by omega), b1, b2⟩
      · have h2 : w = (3 : Int) := h2
        have f40 := zT_get hTμ1 zs206_40 (i := 40 + s) (by omega) (by omega)
        refine pm_blk hK zmm159 [] 2 47 [(2, 205), (0, s), (0, w), (9, 0)] [(0, s), (2, 205)] μ1 [] rfl trivial ?_
        refine pm_call hK zmm159 (356, 0, 297, 1) zM297 (0, 0) [(2, 205), (0, s)] [] rfl rfl rfl rfl ⟨by omega, by rw [zn297]; omega⟩ (zh_isOpen hK (s := s) hTμ1 ⟨by omega, by omega⟩ ⟨Nat.le_refl _, Nat.le_refl _⟩) (fun st5 μc5 hp5 => ?_)
        obtain ⟨rfl, rfl⟩ := hp5
        refine pm_if hK zmm159 .eq 7 57 rfl rfl (fun h9 => ?_) (fun h9 => ?_)
        · have h9 : (if μ1 206 (40 + (s)) = 0 then 1 else 0 : Int) = (0 : Int) := h9
          have h9 := zif0 h9
          refine pm_blk hK zmm159 [] 1 58 [(2, 205), (0, s), (0, w), (9, 0)] [(0, 0)] μ1 [] rfl trivial ?_
          rw [bn] at f40
          first
          | (have h9 : μ 206 (40 + s) = 0 := by rw [bn] at *; omega
             exact pm_iret rfl rfl ⟨0, hTμ1, by rw [show w = 3 by omega, fg_of_3 ⟨by omega, by omega⟩, h9]; rfl, fun _ h => absurd h (by omega), b1, b2⟩)
          | (have h9 : μ 206 (40 + s) = 1 := by rw [bn] at *; omega
             exact pm_iret rfl rfl ⟨0, hTμ1, by rw [show w = 3 by omega, fg_of_3 ⟨by omega, by omega⟩, h9]; rfl, fun _ h => absurd h (by omega), b1, b2⟩)
          | (exfalso; omega)
        · have h9 : (if μ1 206 (40 + (s)) = 0 then 1 else 0 : Int) ≠ (0 : Int) := h9
          have h9 := zif1 h9
          refine pm_blk hK zmm159 [] 2 58 [(2, 205), (0, s), (0, w), (9, 0)] [(0, 1)] μ1 [] rfl trivial ?_
          rw [bn] at f40
          first
          | (have h9 : μ 206 (40 + s) = 0 := by rw [bn] at *; omega
             exact pm_iret rfl rfl ⟨0, hTμ1, by rw [show w = 3 by omega, fg_of_3 ⟨by omega, by omega⟩, h9]; rfl, fun _ h => absurd h (by omega), b1, b2⟩)
          | (have h9 : μ 206 (40 + s) = 1 := by rw [bn] at *; omega
             exact pm_iret rfl rfl ⟨0, hTμ1, by rw [show w = 3 by omega, fg_of_3 ⟨by omega, by omega⟩, h9]; rfl, fun _ h => absurd h (by omega), b1, b2⟩)
          | (exfalso; omega)
    · have h1 : (if 0 ≤ w ∧ w ≤ 2 then 1 else 0 : Int) ≠ (0 : Int) := h1
      have h1 := zif1 h1
      have g10 : μ1 206 ((4 + (12 * w)) + s) = μ 206 ((4 + (12 * w)) + s) := by rw [eμ1, pm_up_off (by decide)]
      refine pm_blk hK zmm159 [] 10 39 [(2, 205), (0, s), (0, w), (9, 0)] [(0, μ1 206 ((4 + (12 * w)) + s))] μ1 [pm_in (12 * w), pm_in (4 + (12 * w)), pm_in ((4 + (12 * w)) + s), 0 ≤ (4 + (12 * w)) + s ∧ (4 + (12 * w)) + s < 160] rfl ⟨pm_in_mk (by omega) (by omega), pm_in_mk (by omega) (by omega), pm_in_mk (by omega) (by omega), ⟨by omega, by omega⟩, trivial⟩ ?_
      have hw9 : w = 0 ∨ w = 1 ∨ w = 2 := by omega
      refine pm_iret rfl rfl ⟨0, hTμ1, ?_, fun _ h => absurd h (by omega), b1, b2⟩
      rcases hw9 with hw9 | hw9 | hw9
      · rw [hw9, fg_of_0 ⟨by omega, by omega⟩, bn, show (4 : Int) + 12 * 0 + s = 4 + s by omega]
      · rw [hw9, fg_of_1 ⟨by omega, by omega⟩, bn, show (4 : Int) + 12 * 1 + s = 16 + s by omega]
      · rw [hw9, fg_of_2 ⟨by omega, by omega⟩, bn, show (4 : Int) + 12 * 2 + s = 28 + s by omega]
  · have h0 : (if 0 ≤ s ∧ s < μ1 205 6 then 1 else 0 : Int) = (0 : Int) := h0
    have h0 := zif0 h0
    refine pm_blk hK zmm159 [] 1 15 [(2, 205), (0, s), (0, w), (9, 0)] [(0, (-2))] μ1 [] rfl trivial ?_
    exact pm_iret rfl rfl ⟨0, hTμ1, by rw [fg_of_n (by omega)], fun h => absurd h (by omega), b1, b2⟩
end ZHW
