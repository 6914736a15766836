/-! F: the class: a line of THE BOOK, a draw; walks printed by program (wip/p30/pmgen.py) and filled by hand -/
section ZHW
variable {φ : Option pm_Mem}
variable {D : va_G} {Wm : Nat} {ST : List (String × String × String × Nat)} {b0 : sx_B} {l : Launch} {Sg : Nat → Option Nat} {bud : sx_Bu} {μ : pm_Mem} {B0 : Nat → Prop} {J : (Nat → Option Nat) → Heap → Prop}
set_option maxRecDepth 100000 in
theorem fc_write (hK : zKK ST) {k w v : Int} (hT : zTJ φ μ) {N B pol : Int → Int} {n m : Int} (hC : fa_C false 3 n m (N, B) pol μ) (hn0 : 0 ≤ n) (hm0 : 0 ≤ m) (hq : n ≤ 12 ∧ m ≤ 18) (hk : pm_in k) (hww : pm_in w) (hv : pm_in v) (hb2 : sx_bit Wm 2 = true) (hb16 : sx_bit Wm 16 = true) (hbd : 1 ≤ bud.1 ∧ 22 ≤ bud.2.1) : zC D Wm ST b0 l Sg zM227 bud [(2, 2), (0, k), (0, w), (0, v)] μ (fun st' μ' => st' = [] ∧ zTJ φ μ' ∧ fa_C false 3 n m (fa_note false k w v (N, B)) pol μ' ∧ fa_fr fc_L3 μ μ') := by
  unfold pm_in at hk hww hv
  have hF : fa_fr fc_L3 μ μ := fa_fr_0
  have b2 : μ 2 2 = N 3 := (hC.2 rfl).1
  have a2 : μ 3 2 = N 1 := hC.1.1.2.2.1
  have a3 : μ 3 3 = N 0 := hC.1.1.2.2.2.1
  have f22 := zT_get hT zs2_2 (i := 2) (by omega) (by omega)
  have ei : μ 2 2 * 5 = 5 * N 3 := by omega
  have f1 := zT_get hT zs2_2 (i := 2) (by omega) (by omega)
  refine pm_blk hK zmm227 [] 4 8 [(2, 2), (0, k), (0, w), (0, v), (9, 0)] [(0, 149), (0, 0), (0, μ 2 2)] μ [] rfl trivial ?_
  refine pm_call hK zmm227 (72, 1, 16, 3) zM16 (0, 0) [(0, μ 2 2), (0, 0), (0, 149)] [] rfl rfl rfl rfl ⟨by omega, by rw [zn16]; omega⟩ (zh_within hK ⟨Nat.le_refl _, Nat.le_refl _⟩) (fun st1 μc1 hp1 => ?_)
  obtain ⟨rfl, rfl⟩ := hp1
  refine pm_if hK zmm227 .ne 4 15 rfl rfl (fun h0 => ?_) (fun h0 => ?_)
  · have h0 : (if 0 ≤ (μ 2 2) ∧ (μ 2 2) ≤ 149 then 1 else 0 : Int) ≠ (0 : Int) := h0
    have h0 := zif1 h0
    have f2 := zT_get hT zs3_3 (i := 3) (by omega) (by omega)
    refine pm_blk hK zmm227 [] 12 37 [(2, 2), (0, k), (0, w), (0, v), (0, (μ 2 2) * 5)] [] (pm_up μ 16 ((μ 2 2) * 5) (μ 3 3)) [pm_in ((μ 2 2) * 5), sx_bit Wm 16 = true, 0 ≤ (μ 2 2) * 5 ∧ (μ 2 2) * 5 < 750] rfl ⟨pm_in_mk (by omega) (by omega), hb16, ⟨by omega, by omega⟩, trivial⟩ ?_
    obtain ⟨μ1, eμ1⟩ : ∃ μ', μ' = pm_up μ 16 ((μ 2 2) * 5) (μ 3 3) := ⟨_, rfl⟩
    rw [← eμ1]
    have hTμ1 : zTJ φ μ1 := by rw [eμ1]; exact zT_up hT zs16_0 rfl (i := (μ 2 2) * 5) (by omega) (by omega) (by omega) (by omega)
    have hF := fa_fr_st hF eμ1 rfl
    have q1 : μ1 16 = fa_up (μ 16) (5 * N 3) (N 0) := by rw [eμ1, fa_pm, ei, a3]
    have r1 : μ1 3 2 = N 1 := by rw [eμ1, pm_up_off (by decide)]; exact a2
    have g3 : μ1 3 2 = μ 3 2 := by rw [eμ1, pm_up_off (by decide)]
    have f4 := zT_get hTμ1 zs3_2 (i := 2) (by omega) (by omega)
    refine pm_blk hK zmm227 [] 9 53 [(2, 2), (0, k), (0, w), (0, v), (0, (μ 2 2) * 5)] [] (pm_up μ1 16 (((μ 2 2) * 5) + 1) (μ1 3 2)) [pm_in (((μ 2 2) * 5) + 1), sx_bit Wm 16 = true, 0 ≤ ((μ 2 2) * 5) + 1 ∧ ((μ 2 2) * 5) + 1 < 750] rfl ⟨pm_in_mk (by omega) (by omega), hb16, ⟨by omega, by omega⟩, trivial⟩ ?_
    obtain ⟨μ2, eμ2⟩ : ∃ μ', μ' = pm_up μ1 16 (((μ 2 2) * 5) + 1) (μ1 3 2) := ⟨_, rfl⟩
    rw [← eμ2]
    have hTμ2 : zTJ φ μ2 := by rw [eμ2]; exact zT_up hTμ1 zs16_0 rfl (i := ((μ 2 2) * 5) + 1) (by omega) (by omega) (by omega) (by omega)
    have hF := fa_fr_st hF eμ2 rfl
    have q2 : μ2 16 = fa_up (fa_up (μ 16) (5 * N 3) (N 0)) (5 * N 3 + 1) (N 1) := by rw [eμ2, fa_pm, q1, ei, r1]
    refine pm_blk hK zmm227 [] 7 63 [(2, 2), (0, k), (0, w), (0, v), (0, (μ 2 2) * 5)] [] (pm_up μ2 16 (((μ 2 2) * 5) + 2) k) [pm_in (((μ 2 2) * 5) + 2), sx_bit Wm 16 = true, 0 ≤ ((μ 2 2) * 5) + 2 ∧ ((μ 2 2) * 5) + 2 < 750] rfl ⟨pm_in_mk (by omega) (by omega), hb16, ⟨by omega, by omega⟩, trivial⟩ ?_
    obtain ⟨μ3, eμ3⟩ : ∃ μ', μ' = pm_up μ2 16 (((μ 2 2) * 5) + 2) k := ⟨_, rfl⟩
    rw [← eμ3]
    have hTμ3 : zTJ φ μ3 := by rw [eμ3]; exact zT_up hTμ2 zs16_0 rfl (i := ((μ 2 2) * 5) + 2) (by omega) (by omega) (by omega) (by omega)
    have hF := fa_fr_st hF eμ3 rfl
    have q3 : μ3 16 = fa_up (fa_up (fa_up (μ 16) (5 * N 3) (N 0)) (5 * N 3 + 1) (N 1)) (5 * N 3 + 2) k := by rw [eμ3, fa_pm, q2, ei]
    refine pm_blk hK zmm227 [] 7 73 [(2, 2), (0, k), (0, w), (0, v), (0, (μ 2 2) * 5)] [] (pm_up μ3 16 (((μ 2 2) * 5) + 3) w) [pm_in (((μ 2 2) * 5) + 3), sx_bit Wm 16 = true, 0 ≤ ((μ 2 2) * 5) + 3 ∧ ((μ 2 2) * 5) + 3 < 750] rfl ⟨pm_in_mk (by omega) (by omega), hb16, ⟨by omega, by omega⟩, trivial⟩ ?_
    obtain ⟨μ4, eμ4⟩ : ∃ μ', μ' = pm_up μ3 16 (((μ 2 2) * 5) + 3) w := ⟨_, rfl⟩
    rw [← eμ4]
    have hTμ4 : zTJ φ μ4 := by rw [eμ4]; exact zT_up hTμ3 zs16_0 rfl (i := ((μ 2 2) * 5) + 3) (by omega) (by omega) (by omega) (by omega)
    have hF := fa_fr_st hF eμ4 rfl
    have q4 : μ4 16 = fa_up (fa_up (fa_up (fa_up (μ 16) (5 * N 3) (N 0)) (5 * N 3 + 1) (N 1)) (5 * N 3 + 2) k) (5 * N 3 + 3) w := by rw [eμ4, fa_pm, q3, ei]
    refine pm_blk hK zmm227 [] 7 83 [(2, 2), (0, k), (0, w), (0, v), (0, (μ 2 2) * 5)] [] (pm_up μ4 16 (((μ 2 2) * 5) + 4) v) [pm_in (((μ 2 2) * 5) + 4), sx_bit Wm 16 = true, 0 ≤ ((μ 2 2) * 5) + 4 ∧ ((μ 2 2) * 5) + 4 < 750] rfl ⟨pm_in_mk (by omega) (by omega), hb16, ⟨by omega, by omega⟩, trivial⟩ ?_
    obtain ⟨μ5, eμ5⟩ : ∃ μ', μ' = pm_up μ4 16 (((μ 2 2) * 5) + 4) v := ⟨_, rfl⟩
    rw [← eμ5]
    have hTμ5 : zTJ φ μ5 := by rw [eμ5]; exact zT_up hTμ4 zs16_0 rfl (i := ((μ 2 2) * 5) + 4) (by omega) (by omega) (by omega) (by omega)
    have hF := fa_fr_st hF eμ5 rfl
    have q5 : μ5 16 = fa_bk (μ 16) (N 3) (N 0) (N 1) k w v := by
      rw [eμ5, fa_pm, q4, ei]
      rfl
    have u2 : μ5 2 2 = N 3 := by rw [eμ5, pm_up_off (by decide), eμ4, pm_up_off (by decide), eμ3, pm_up_off (by decide), eμ2, pm_up_off (by decide), eμ1, pm_up_off (by decide)]; exact b2
    have g5 : μ5 2 2 = μ 2 2 := by rw [eμ5, pm_up_off (by decide), eμ4, pm_up_off (by decide), eμ3, pm_up_off (by decide), eμ2, pm_up_off (by decide), eμ1, pm_up_off (by decide)]
    have f6 := zT_get hTμ5 zs2_2 (i := 2) (by omega) (by omega)
    refine pm_blk hK zmm227 [] 6 93 [(2, 2), (0, k), (0, w), (0, v), (0, (μ 2 2) * 5)] [] (pm_up μ5 2 2 ((μ5 2 2) + 1)) [pm_in ((μ5 2 2) + 1), sx_bit Wm 2 = true] rfl ⟨pm_in_mk (by omega) (by omega), hb2, trivial⟩ ?_
    obtain ⟨μ6, eμ6⟩ : ∃ μ', μ' = pm_up μ5 2 2 ((μ5 2 2) + 1) := ⟨_, rfl⟩
    rw [← eμ6]
    have hTμ6 : zTJ φ μ6 := by rw [eμ6]; exact zT_up hTμ5 zs2_2 rfl (i := 2) (by omega) (by omega) (by omega) (by omega)
    have hF := fa_fr_st hF eμ6 rfl
    exact pm_vret rfl rfl ⟨rfl, hTμ6, fc_note hC (by omega) (by rw [eμ6, pm_up_row (by decide)]; exact q5) (fun r x y => by rw [eμ6, pm_up_row x, eμ5, pm_up_row y, eμ4, pm_up_row y, eμ3, pm_up_row y, eμ2, pm_up_row y, eμ1, pm_up_row y]) (by rw [eμ6, pm_up_eq, u2]), hF⟩
  · have h0 : (if 0 ≤ (μ 2 2) ∧ (μ 2 2) ≤ 149 then 1 else 0 : Int) = (0 : Int) := h0
    have h0 := zif0 h0
    exact pm_vret rfl rfl ⟨rfl, hT, by rw [fa_note_y (Or.inr (by omega))]; exact hC, hF⟩
set_option maxRecDepth 100000 in
theorem fc_note3 (hK : zKK ST) {k w v : Int} (hT : zTJ φ μ) {N B pol : Int → Int} {n m : Int} (hC : fa_C false 3 n m (N, B) pol μ) (hn0 : 0 ≤ n) (hm0 : 0 ≤ m) (hq : n ≤ 12 ∧ m ≤ 18) (hk : pm_in k) (hww : pm_in w) (hv : pm_in v) (hb2 : sx_bit Wm 2 = true) (hb16 : sx_bit Wm 16 = true) (hbd : 2 ≤ bud.1 ∧ 46 ≤ bud.2.1) : zC D Wm ST b0 l Sg zM226 bud [(2, 180), (0, k), (0, w), (0, v)] μ (fun st' μ' => st' = [] ∧ zTJ φ μ' ∧ fa_C false 3 n m (fa_note false k w v (N, B)) pol μ' ∧ fa_fr fc_L3 μ μ') := by
  have hk0 := hk
  have f1 := zT_get hT zs180_2 (i := 2) (by omega) (by omega)
  refine pm_blk hK zmm226 [] 2 4 [(2, 180), (0, k), (0, w), (0, v)] [(0, μ 180 2)] μ [] rfl trivial ?_
  refine pm_if hK zmm226 .ne 13 17 rfl rfl (fun h0 => ?_) (fun h0 => ?_)
  · have h0 : μ 180 2 ≠ (0 : Int) := h0
    first
    | (exfalso; omega)
    | exact pm_vret rfl rfl ⟨rfl, hT, hCw, hF⟩
    | (exfalso; omega)
  · have h0 : μ 180 2 = (0 : Int) := h0
    refine pm_blk hK zmm226 [] 5 14 [(2, 180), (0, k), (0, w), (0, v)] [(0, v), (0, w), (0, k), (2, 2)] μ [] rfl trivial ?_
    refine pm_call hK zmm226 (166, 0, 227, 3) zM227 (1, 22) [(2, 2), (0, k), (0, w), (0, v)] [] rfl rfl rfl rfl ⟨by omega, by rw [zn227]; omega⟩ (fc_write hK (k := k) (w := w) (v := v) hT hC hn0 hm0 hq hk hww hv hb2 hb16 ⟨Nat.le_refl _, Nat.le_refl _⟩) (fun st1 μc1 hp1 => ?_)
    obtain ⟨rfl, hTc1, hCc1, hFk1⟩ := hp1
    have hCw := hCc1
    have hF := hFk1
    first
    | (exfalso; omega)
    | exact pm_vret rfl rfl ⟨rfl, hTc1, hCw, hF⟩
    | (exfalso; omega)
set_option maxRecDepth 100000 in
theorem fc_note182 (hK : zKK ST) {k w v : Int} (hT : zTJ φ μ) {N B pol : Int → Int} {n m : Int} (hC : fa_C true 182 n m (N, B) pol μ) (hn0 : 0 ≤ n) (hm0 : 0 ≤ m) (hq : n ≤ 12 ∧ m ≤ 18)  (hbd : 0 ≤ bud.1 ∧ 0 ≤ bud.2.1) : zC D Wm ST b0 l Sg zM226 bud [(2, 181), (0, k), (0, w), (0, v)] μ (fun st' μ' => st' = [] ∧ zTJ φ μ' ∧ fa_C true 182 n m (fa_note true k w v (N, B)) pol μ' ∧ fa_fr fc_L182 μ μ') := by
  have f1 := zT_get hT zs181_2 (i := 2) (by omega) (by omega)
  refine pm_blk hK zmm226 [] 2 4 [(2, 181), (0, k), (0, w), (0, v)] [(0, μ 181 2)] μ [] rfl trivial ?_
  refine pm_if hK zmm226 .ne 13 17 rfl rfl (fun h0 => ?_) (fun h0 => ?_)
  · have h0 : μ 181 2 ≠ (0 : Int) := h0
    exact pm_vret rfl rfl ⟨rfl, hT, by rw [fa_note_y (Or.inl rfl)]; exact hC, fa_fr_0⟩
  · have h0 : μ 181 2 = (0 : Int) := h0
    exfalso
    omega
set_option maxRecDepth 100000 in
theorem fc_draw3 (hK : zKK ST) {u : Int} (hT : zTJ φ μ) {N pol : Int → Int} {n m : Int} (hA : fa_A 3 n m N pol μ) (hn0 : 0 ≤ n) (hm0 : 0 ≤ m) (hq : n ≤ 12 ∧ m ≤ 18) (hu : 1 ≤ u ∧ u ≤ 1000) (hb3 : sx_bit Wm 3 = true) (hbd : 0 ≤ bud.1 ∧ 0 ≤ bud.2.1) : zC D Wm ST b0 l Sg zM231 bud [(2, 3), (0, u)] μ (fun st' μ' => st' = [(0, fa_dr N u)] ∧ zTJ φ μ' ∧ fa_A 3 n m (fa_draw N) pol μ' ∧ (∀ r, r ≠ 3 → μ' r = μ r)) := by
  have a4 := hA.1.2.2.2.2
  have f1 := zT_get hT zs3_4 (i := 4) (by omega) (by omega)
  have w2 := zw32 (1664525 * (μ 3 4))
  have w3 := zw32 ((pm_w32 (1664525 * (μ 3 4))) + 1013904223)
  refine pm_blk hK zmm231 [7, 10] 8 14 [(2, 3), (0, u)] [] (pm_up μ 3 4 (pm_w32 ((pm_w32 (1664525 * (μ 3 4))) + 1013904223))) [sx_bit Wm 3 = true] rfl ⟨hb3, trivial⟩ ?_
  obtain ⟨μ1, eμ1⟩ : ∃ μ', μ' = pm_up μ 3 4 (pm_w32 ((pm_w32 (1664525 * (μ 3 4))) + 1013904223)) := ⟨_, rfl⟩
  rw [← eμ1]
  have hTμ1 : zTJ φ μ1 := by rw [eμ1]; exact zT_up hT zs3_4 rfl (i := 4) (by omega) (by omega) (by omega) (by omega)
  have hA1 : fa_A 3 n m (fa_draw N) pol μ1 := by
    have h := fa_A_f (k := 4) (j := 2) (v := fa_draw N 2) (Or.inr (Or.inr ⟨rfl, rfl⟩)) hA
    have e2 : fa_up N 2 (fa_draw N 2) = fa_draw N := by
      unfold fa_draw
      rw [fa_up_eq]
    have e4 : fa_draw N 2 = pm_w32 (pm_w32 (1664525 * μ 3 4) + 1013904223) := by
      unfold fa_draw
      rw [fa_up_eq, a4]
    rw [e2, e4] at h
    rw [eμ1]
    exact h
  have v4 : μ1 3 4 = fa_draw N 2 := hA1.1.2.2.2.2
  refine pm_blk hK zmm231 [7, 10] 2 16 [(2, 3), (0, u)] [(0, 1), (0, u)] μ1 [] rfl trivial ?_
  refine pm_icmp hK zmm231 .ge 7 23 rfl rfl (fun h0 => ?_) (fun h0 => ?_)
  · have h0 : (1 : Int) ≤ u := h0
    have f4 := zT_get hTμ1 zs3_4 (i := 4) (by omega) (by omega)
    refine pm_blk hK zmm231 [7, 10] 6 32 [(2, 3), (0, u)] [(0, Int.tmod (pm_ushr (μ1 3 4) 8) u)] μ1 [u ≠ 0] rfl ⟨by omega, trivial⟩ ?_
    first
    | (exfalso; omega)
    | exact pm_iret rfl rfl ⟨by unfold fa_dr; rw [v4], hTμ1, hA1, fun r x => by rw [eμ1, pm_up_row x]⟩
    | (exfalso; omega)
  · have h0 : u < (1 : Int) := h0
    refine pm_blk hK zmm231 [7, 10] 2 32 [(2, 3), (0, u)] [(0, 0)] μ1 [] rfl trivial ?_
    first
    | (exfalso; omega)
    | exact pm_iret rfl rfl ⟨by unfold fa_dr; rw [v4], hTμ1, hA1, fun r x => by rw [eμ1, pm_up_row x]⟩
    | (exfalso; omega)
set_option maxRecDepth 100000 in
theorem fc_so3 (hK : zKK ST) {o : Int} (hT : zTJ φ μ) {N pol : Int → Int} {n m : Int} (hA : fa_A 3 n m N pol μ) (hn0 : 0 ≤ n) (hm0 : 0 ≤ m) (hq : n ≤ 12 ∧ m ≤ 18) (hb3 : sx_bit Wm 3 = true) (hbd : 1 ≤ bud.1 ∧ 21 ≤ bud.2.1) : zC D Wm ST b0 l Sg zM230 bud [(2, 180), (2, 3), (0, o)] μ (fun st' μ' => st' = [(0, if fa_so false o N = true then 1 else 0)] ∧ zTJ φ μ' ∧ fa_A 3 n m (fa_soN false o N) pol μ' ∧ (∀ r, r ≠ 3 → μ' r = μ r)) := by
  have f1 := zT_get hT zs180_2 (i := 2) (by omega) (by omega)
  refine pm_blk hK zmm230 [] 2 4 [(2, 180), (2, 3), (0, o)] [(0, μ 180 2)] μ [] rfl trivial ?_
  refine pm_if hK zmm230 .eq 16 20 rfl rfl (fun h0 => ?_) (fun h0 => ?_)
  · have h0 : μ 180 2 = (0 : Int) := h0
    refine pm_blk hK zmm230 [] 1 21 [(2, 180), (2, 3), (0, o)] [(0, o)] μ [] rfl trivial ?_
    refine pm_if hK zmm230 .le 18 39 rfl rfl (fun h1 => ?_) (fun h1 => ?_)
    · have h1 : o ≤ (0 : Int) := h1
      refine pm_blk hK zmm230 [] 1 40 [(2, 180), (2, 3), (0, o)] [(0, 0)] μ [] rfl trivial ?_
      first
      | exact pm_zret rfl rfl (by first | exact Or.inl rfl | exact Or.inr rfl | omega) ⟨by rw [if_neg (fa_so_0 (by decide) (by omega))], hT, by rw [fa_soN_t (Or.inr (by omega))]; exact hA, fun _ _ => rfl⟩
      | exact pm_zret rfl rfl (by first | exact Or.inl rfl | exact Or.inr rfl | omega) ⟨by rw [if_pos (fa_so_y (by decide) (by omega) (by omega))], hT, by rw [fa_soN_n (by decide) (by omega)]; exact hAd, hfd⟩
      | exact pm_zret rfl rfl (by first | exact Or.inl rfl | exact Or.inr rfl | omega) ⟨by rw [if_neg (fa_so_n (by decide) (by omega))], hT, by rw [fa_soN_n (by decide) (by omega)]; exact hAd, hfd⟩
      | (exfalso; omega)
    · have h1 : (0 : Int) < o := h1
      refine pm_blk hK zmm230 [] 2 28 [(2, 180), (2, 3), (0, o)] [(0, 1000), (2, 3)] μ [] rfl trivial ?_
      refine pm_call hK zmm230 (143, 0, 231, 1) zM231 (0, 0) [(2, 3), (0, 1000)] [] rfl rfl rfl rfl ⟨by omega, by rw [zn231]; omega⟩ (fc_draw3 hK (u := 1000) hT hA hn0 hm0 hq ⟨by omega, by omega⟩ hb3 ⟨Nat.le_refl _, Nat.le_refl _⟩) (fun st1 μc1 hp1 => ?_)
      obtain ⟨rfl, hTc1, hAd1, hfd1⟩ := hp1
      have hAd := hAd1
      have hfd := hfd1
      refine pm_blk hK zmm230 [] 1 32 [(2, 180), (2, 3), (0, o)] [(0, o), (0, fa_dr N (1000))] μc1 [] rfl trivial ?_
      refine pm_icmp hK zmm230 .ge 7 39 rfl rfl (fun h2 => ?_) (fun h2 => ?_)
      · have h2 : o ≤ fa_dr N (1000) := h2
        refine pm_blk hK zmm230 [] 1 40 [(2, 180), (2, 3), (0, o)] [(0, 0)] μc1 [] rfl trivial ?_
        first
        | exact pm_zret rfl rfl (by first | exact Or.inl rfl | exact Or.inr rfl | omega) ⟨by rw [if_neg (fa_so_0 (by decide) (by omega))], hTc1, by rw [fa_soN_t (Or.inr (by omega))]; exact hA, fun _ _ => rfl⟩
        | exact pm_zret rfl rfl (by first | exact Or.inl rfl | exact Or.inr rfl | omega) ⟨by rw [if_pos (fa_so_y (by decide) (by omega) (by omega))], hTc1, by rw [fa_soN_n (by decide) (by omega)]; exact hAd, hfd⟩
        | exact pm_zret rfl rfl (by first | exact Or.inl rfl | exact Or.inr rfl | omega) ⟨by rw [if_neg (fa_so_n (by decide) (by omega))], hTc1, by rw [fa_soN_n (by decide) (by omega)]; exact hAd, hfd⟩
        | (exfalso; omega)
      · have h2 : fa_dr N (1000) < o := h2
        refine pm_blk hK zmm230 [] 2 40 [(2, 180), (2, 3), (0, o)] [(0, 1)] μc1 [] rfl trivial ?_
        first
        | exact pm_zret rfl rfl (by first | exact Or.inl rfl | exact Or.inr rfl | omega) ⟨by rw [if_neg (fa_so_0 (by decide) (by omega))], hTc1, by rw [fa_soN_t (Or.inr (by omega))]; exact hA, fun _ _ => rfl⟩
        | exact pm_zret rfl rfl (by first | exact Or.inl rfl | exact Or.inr rfl | omega) ⟨by rw [if_pos (fa_so_y (by decide) (by omega) (by omega))], hTc1, by rw [fa_soN_n (by decide) (by omega)]; exact hAd, hfd⟩
        | exact pm_zret rfl rfl (by first | exact Or.inl rfl | exact Or.inr rfl | omega) ⟨by rw [if_neg (fa_so_n (by decide) (by omega))], hTc1, by rw [fa_soN_n (by decide) (by omega)]; exact hAd, hfd⟩
        | (exfalso; omega)
  · have h0 : μ 180 2 ≠ (0 : Int) := h0
    exfalso
    omega
set_option maxRecDepth 100000 in
theorem fc_so182 (hK : zKK ST) {o : Int} (hT : zTJ φ μ) {N pol : Int → Int} {n m : Int} (hA : fa_A 182 n m N pol μ) (hn0 : 0 ≤ n) (hm0 : 0 ≤ m) (hq : n ≤ 12 ∧ m ≤ 18)  (hbd : 0 ≤ bud.1 ∧ 0 ≤ bud.2.1) : zC D Wm ST b0 l Sg zM230 bud [(2, 181), (2, 182), (0, o)] μ (fun st' μ' => st' = [(0, if fa_so true o N = true then 1 else 0)] ∧ zTJ φ μ' ∧ fa_A 182 n m (fa_soN true o N) pol μ' ∧ (∀ r, r ≠ 182 → μ' r = μ r)) := by
  have f1 := zT_get hT zs181_2 (i := 2) (by omega) (by omega)
  refine pm_blk hK zmm230 [] 2 4 [(2, 181), (2, 182), (0, o)] [(0, μ 181 2)] μ [] rfl trivial ?_
  refine pm_if hK zmm230 .eq 16 20 rfl rfl (fun h0 => ?_) (fun h0 => ?_)
  · have h0 : μ 181 2 = (0 : Int) := h0
    exfalso
    omega
  · have h0 : μ 181 2 ≠ (0 : Int) := h0
    refine pm_blk hK zmm230 [] 2 11 [(2, 181), (2, 182), (0, o)] [(0, 500), (0, o)] μ [] rfl trivial ?_
    refine pm_icmp hK zmm230 .lt 7 18 rfl rfl (fun h1 => ?_) (fun h1 => ?_)
    · have h1 : o < (500 : Int) := h1
      refine pm_blk hK zmm230 [] 1 19 [(2, 181), (2, 182), (0, o)] [(0, 0)] μ [] rfl trivial ?_
      first
      | exact pm_zret rfl rfl (by first | exact Or.inl rfl | exact Or.inr rfl | omega) ⟨by rw [if_pos (fa_so_ty rfl (by omega))], hT, by rw [fa_soN_t (Or.inl rfl)]; exact hA, fun _ _ => rfl⟩
      | exact pm_zret rfl rfl (by first | exact Or.inl rfl | exact Or.inr rfl | omega) ⟨by rw [if_neg (fa_so_tn rfl (by omega))], hT, by rw [fa_soN_t (Or.inl rfl)]; exact hA, fun _ _ => rfl⟩
      | (exfalso; omega)
    · have h1 : (500 : Int) ≤ o := h1
      refine pm_blk hK zmm230 [] 2 19 [(2, 181), (2, 182), (0, o)] [(0, 1)] μ [] rfl trivial ?_
      first
      | exact pm_zret rfl rfl (by first | exact Or.inl rfl | exact Or.inr rfl | omega) ⟨by rw [if_pos (fa_so_ty rfl (by omega))], hT, by rw [fa_soN_t (Or.inl rfl)]; exact hA, fun _ _ => rfl⟩
      | exact pm_zret rfl rfl (by first | exact Or.inl rfl | exact Or.inr rfl | omega) ⟨by rw [if_neg (fa_so_tn rfl (by omega))], hT, by rw [fa_soN_t (Or.inl rfl)]; exact hA, fun _ _ => rfl⟩
      | (exfalso; omega)
end ZHW
