/-! F: the reference: a line of THE BOOK, a thing bought, a shop stays open; walks printed by program (wip/p30/pmgen.py) and filled by hand -/
section ZHW
variable {φ : Option pm_Mem}
variable {D : va_G} {Wm : Nat} {ST : List (String × String × String × Nat)} {b0 : sx_B} {l : Launch} {Sg : Nat → Option Nat} {bud : sx_Bu} {μ : pm_Mem} {B0 : Nat → Prop} {J : (Nat → Option Nat) → Heap → Prop}
set_option maxRecDepth 100000 in
theorem fr_note (hK : zKK ST) {k w v : Int} {th : Bool} (hth : fa_th th μ) (hT : zTJ φ μ) (hk : 0 ≤ k ∧ k ≤ 4) (hw : 0 ≤ w ∧ w ≤ 17) (hv : pm_in v) (hb206 : sx_bit Wm 206 = true) (hb210 : sx_bit Wm 210 = true) (hbd : 0 ≤ bud.1 ∧ 0 ≤ bud.2.1) : zC D Wm ST b0 l Sg zM310 bud [(2, 205), (0, k), (0, w), (0, v)] μ (fun st' μ' => st' = [] ∧ zTJ φ μ' ∧ (μ' 206, μ' 210) = fa_note th k w v (μ 206, μ 210) ∧ (∀ r, r ≠ 206 → r ≠ 210 → μ' r = μ r)) := by
  unfold pm_in at hv
  have f1 := zT_get hT zs205_5 (i := 5) (by omega) (by omega)
  refine pm_blk hK zmm310 [] 2 4 [(2, 205), (0, k), (0, w), (0, v), (9, 0)] [(0, μ 205 5)] μ [] rfl trivial ?_
  refine pm_if hK zmm310 .ne 15 19 rfl rfl (fun h0 => ?_) (fun h0 => ?_)
  · have h0 : μ 205 5 ≠ (0 : Int) := h0
    exact pm_vret rfl rfl ⟨rfl, hT, (fa_note_y (by first | exact Or.inl (hth.mpr (by omega)) | exact Or.inr (by omega))).symm, fun _ _ _ => rfl⟩
  · have h0 : μ 205 5 = (0 : Int) := h0
    have f2 := zT_get hT zs206_3 (i := 3) (by omega) (by omega)
    refine pm_blk hK zmm310 [] 5 16 [(2, 205), (0, k), (0, w), (0, v), (9, 0)] [(0, 150), (0, μ 206 3)] μ [0 ≤ 3 ∧ 3 < 160] rfl ⟨⟨by omega, by omega⟩, trivial⟩ ?_
    refine pm_icmp hK zmm310 .ne 4 20 rfl rfl (fun h1 => ?_) (fun h1 => ?_)
    · have h1 : μ 206 3 ≠ (150 : Int) := h1
      have f3 := zT_get hT zs206_0 (i := 0) (by omega) (by omega)
      refine pm_blk hK zmm310 [] 15 43 [(2, 205), (0, k), (0, w), (0, v), (0, 5 * (μ 206 3))] [] (pm_up μ 210 (5 * (μ 206 3)) (μ 206 0)) [0 ≤ 3 ∧ 3 < 160, pm_in (5 * (μ 206 3)), 0 ≤ 0 ∧ 0 < 160, sx_bit Wm 210 = true, 0 ≤ 5 * (μ 206 3) ∧ 5 * (μ 206 3) < 750] rfl ⟨⟨by omega, by omega⟩, pm_in_mk (by omega) (by omega), ⟨by omega, by omega⟩, hb210, ⟨by omega, by omega⟩, trivial⟩ ?_
      obtain ⟨μ1, eμ1⟩ : ∃ μ', μ' = pm_up μ 210 (5 * (μ 206 3)) (μ 206 0) := ⟨_, rfl⟩
      rw [← eμ1]
      have hTμ1 : zTJ φ μ1 := by rw [eμ1]; exact zT_upp hT zp210_0 rfl (i := 5 * (μ 206 3)) (z := (μ 206 3)) (by omega) (by omega) (by omega) (by omega) (by omega)
      have q1 : μ1 210 = fa_up (μ 210) (5 * μ 206 3) (μ 206 0) := by rw [eμ1, fa_pm]
      have r1 : μ1 206 = μ 206 := by rw [eμ1, pm_up_row (by decide)]
      have g4 : μ1 206 1 = μ 206 1 := by rw [eμ1, pm_up_off (by decide)]
      have f5 := zT_get hTμ1 zs206_1 (i := 1) (by omega) (by omega)
      refine pm_blk hK zmm310 [] 10 58 [(2, 205), (0, k), (0, w), (0, v), (0, 5 * (μ 206 3))] [] (pm_up μ1 210 ((5 * (μ 206 3)) + 1) (μ1 206 1)) [pm_in ((5 * (μ 206 3)) + 1), 0 ≤ 1 ∧ 1 < 160, sx_bit Wm 210 = true, 0 ≤ (5 * (μ 206 3)) + 1 ∧ (5 * (μ 206 3)) + 1 < 750] rfl ⟨pm_in_mk (by omega) (by omega), ⟨by omega, by omega⟩, hb210, ⟨by omega, by omega⟩, trivial⟩ ?_
      obtain ⟨μ2, eμ2⟩ : ∃ μ', μ' = pm_up μ1 210 ((5 * (μ 206 3)) + 1) (μ1 206 1) := ⟨_, rfl⟩
      rw [← eμ2]
      have hTμ2 : zTJ φ μ2 := by rw [eμ2]; exact zT_upp hTμ1 zp210_1 rfl (i := (5 * (μ 206 3)) + 1) (z := (μ 206 3)) (by omega) (by omega) (by omega) (by omega) (by omega)
      have q2 : μ2 210 = fa_up (fa_up (μ 210) (5 * μ 206 3) (μ 206 0)) (5 * μ 206 3 + 1) (μ 206 1) := by rw [eμ2, fa_pm, q1, r1]
      have r2 : μ2 206 = μ 206 := by rw [eμ2, pm_up_row (by decide), r1]
      refine pm_blk hK zmm310 [] 7 68 [(2, 205), (0, k), (0, w), (0, v), (0, 5 * (μ 206 3))] [] (pm_up μ2 210 ((5 * (μ 206 3)) + 2) k) [pm_in ((5 * (μ 206 3)) + 2), sx_bit Wm 210 = true, 0 ≤ (5 * (μ 206 3)) + 2 ∧ (5 * (μ 206 3)) + 2 < 750] rfl ⟨pm_in_mk (by omega) (by omega), hb210, ⟨by omega, by omega⟩, trivial⟩ ?_
      obtain ⟨μ3, eμ3⟩ : ∃ μ', μ' = pm_up μ2 210 ((5 * (μ 206 3)) + 2) k := ⟨_, rfl⟩
      rw [← eμ3]
      have hTμ3 : zTJ φ μ3 := by rw [eμ3]; exact zT_upp hTμ2 zp210_2 rfl (i := (5 * (μ 206 3)) + 2) (z := (μ 206 3)) (by omega) (by omega) (by omega) (by omega) (by omega)
      have q3 : μ3 210 = fa_up (fa_up (fa_up (μ 210) (5 * μ 206 3) (μ 206 0)) (5 * μ 206 3 + 1) (μ 206 1)) (5 * μ 206 3 + 2) k := by rw [eμ3, fa_pm, q2]
      have r3 : μ3 206 = μ 206 := by rw [eμ3, pm_up_row (by decide), r2]
      refine pm_blk hK zmm310 [] 7 78 [(2, 205), (0, k), (0, w), (0, v), (0, 5 * (μ 206 3))] [] (pm_up μ3 210 ((5 * (μ 206 3)) + 3) w) [pm_in ((5 * (μ 206 3)) + 3), sx_bit Wm 210 = true, 0 ≤ (5 * (μ 206 3)) + 3 ∧ (5 * (μ 206 3)) + 3 < 750] rfl ⟨pm_in_mk (by omega) (by omega), hb210, ⟨by omega, by omega⟩, trivial⟩ ?_
      obtain ⟨μ4, eμ4⟩ : ∃ μ', μ' = pm_up μ3 210 ((5 * (μ 206 3)) + 3) w := ⟨_, rfl⟩
      rw [← eμ4]
      have hTμ4 : zTJ φ μ4 := by rw [eμ4]; exact zT_upp hTμ3 zp210_3 rfl (i := (5 * (μ 206 3)) + 3) (z := (μ 206 3)) (by omega) (by omega) (by omega) (by omega) (by omega)
      have q4 : μ4 210 = fa_up (fa_up (fa_up (fa_up (μ 210) (5 * μ 206 3) (μ 206 0)) (5 * μ 206 3 + 1) (μ 206 1)) (5 * μ 206 3 + 2) k) (5 * μ 206 3 + 3) w := by rw [eμ4, fa_pm, q3]
      have r4 : μ4 206 = μ 206 := by rw [eμ4, pm_up_row (by decide), r3]
      refine pm_blk hK zmm310 [] 7 88 [(2, 205), (0, k), (0, w), (0, v), (0, 5 * (μ 206 3))] [] (pm_up μ4 210 ((5 * (μ 206 3)) + 4) v) [pm_in ((5 * (μ 206 3)) + 4), sx_bit Wm 210 = true, 0 ≤ (5 * (μ 206 3)) + 4 ∧ (5 * (μ 206 3)) + 4 < 750] rfl ⟨pm_in_mk (by omega) (by omega), hb210, ⟨by omega, by omega⟩, trivial⟩ ?_
      obtain ⟨μ5, eμ5⟩ : ∃ μ', μ' = pm_up μ4 210 ((5 * (μ 206 3)) + 4) v := ⟨_, rfl⟩
      rw [← eμ5]
      have hTμ5 : zTJ φ μ5 := by rw [eμ5]; exact zT_upp hTμ4 zp210_4 rfl (i := (5 * (μ 206 3)) + 4) (z := (μ 206 3)) (by omega) (by omega) (by omega) (by omega) (by omega)
      have q5 : μ5 210 = fa_bk (μ 210) (μ 206 3) (μ 206 0) (μ 206 1) k w v := by
        rw [eμ5, fa_pm, q4]
        rfl
      have r5 : μ5 206 = μ 206 := by rw [eμ5, pm_up_row (by decide), r4]
      have r53 : μ5 206 3 = μ 206 3 := by rw [r5]
      have g6 : μ5 206 3 = μ 206 3 := by rw [eμ5, pm_up_off (by decide), eμ4, pm_up_off (by decide), eμ3, pm_up_off (by decide), eμ2, pm_up_off (by decide), eμ1, pm_up_off (by decide)]
      have f7 := zT_get hTμ5 zs206_3 (i := 3) (by omega) (by omega)
      refine pm_blk hK zmm310 [] 10 102 [(2, 205), (0, k), (0, w), (0, v), (0, 5 * (μ 206 3))] [] (pm_up μ5 206 3 ((μ5 206 3) + 1)) [0 ≤ 3 ∧ 3 < 160, pm_in ((μ5 206 3) + 1), sx_bit Wm 206 = true, 0 ≤ 3 ∧ 3 < 160] rfl ⟨⟨by omega, by omega⟩, pm_in_mk (by omega) (by omega), hb206, ⟨by omega, by omega⟩, trivial⟩ ?_
      obtain ⟨μ6, eμ6⟩ : ∃ μ', μ' = pm_up μ5 206 3 ((μ5 206 3) + 1) := ⟨_, rfl⟩
      rw [← eμ6]
      have hTμ6 : zTJ φ μ6 := by rw [eμ6]; exact zT_up hTμ5 zs206_3 rfl (i := 3) (by omega) (by omega) (by omega) (by omega)
      have n6 : μ6 206 = fa_up (μ 206) 3 (μ 206 3 + 1) := by rw [eμ6, fa_pm, r5]
      have q6 : μ6 210 = fa_bk (μ 210) (μ 206 3) (μ 206 0) (μ 206 1) k w v := by rw [eμ6, pm_up_row (by decide), q5]
      refine pm_vret rfl rfl ⟨rfl, hTμ6, ?_, fun r a b => by rw [eμ6, pm_up_row a, eμ5, pm_up_row b, eμ4, pm_up_row b, eμ3, pm_up_row b, eμ2, pm_up_row b, eμ1, pm_up_row b]⟩
      rw [n6, q6, fa_note_n]
      intro hh
      rcases hh with hh | hh
      · exact absurd (hth.mp hh) (by omega)
      · omega
    · have h1 : μ 206 3 = (150 : Int) := h1
      exact pm_vret rfl rfl ⟨rfl, hT, (fa_note_y (by first | exact Or.inl (hth.mpr (by omega)) | exact Or.inr (by omega))).symm, fun _ _ _ => rfl⟩
set_option maxRecDepth 100000 in
theorem fr_thing (hK : zKK ST) {c s : Int} (hT : zTJ φ μ) (hc : 0 ≤ c ∧ c ≤ 17) (hs : 0 ≤ s ∧ s ≤ 11) (hg : 1 ≤ μ 206 (4 + s)) (hb206 : sx_bit Wm 206 = true) (hbd : 0 ≤ bud.1 ∧ 0 ≤ bud.2.1) : zC D Wm ST b0 l Sg zM309 bud [(2, 205), (0, c), (0, s)] μ (fun st' μ' => st' = [] ∧ zTJ φ μ' ∧ μ' 206 = fa_thing (μ 206) c s ∧ (∀ r, r ≠ 206 → μ' r = μ r)) := by
  have f1 := zT_get hT zs206_4 (i := 4 + s) (by omega) (by omega)
  refine pm_blk hK zmm309 [38] 14 18 [(2, 205), (0, c), (0, s)] [] (pm_up μ 206 (4 + s) ((μ 206 (4 + s)) - 1)) [pm_in (4 + s), pm_in (4 + s), 0 ≤ 4 + s ∧ 4 + s < 160, pm_in ((μ 206 (4 + s)) - 1), sx_bit Wm 206 = true, 0 ≤ 4 + s ∧ 4 + s < 160] rfl ⟨pm_in_mk (by omega) (by omega), pm_in_mk (by omega) (by omega), ⟨by omega, by omega⟩, pm_in_mk (by omega) (by omega), hb206, ⟨by omega, by omega⟩, trivial⟩ ?_
  obtain ⟨μ1, eμ1⟩ : ∃ μ', μ' = pm_up μ 206 (4 + s) ((μ 206 (4 + s)) - 1) := ⟨_, rfl⟩
  rw [← eμ1]
  have hTμ1 : zTJ φ μ1 := by rw [eμ1]; exact zT_up hT zs206_4 rfl (i := 4 + s) (by omega) (by omega) (by omega) (by omega)
  have n1 : μ1 206 = fa_up (μ 206) (4 + s) (μ 206 (4 + s) - 1) := by rw [eμ1, fa_pm]
  have o1 : ∀ r, r ≠ 206 → μ1 r = μ r := fun r hr => by rw [eμ1, pm_up_row hr]
  have f2 := zT_get hTμ1 zs206_124 (i := 142 + c) (by omega) (by omega)
  have w3 := zw32 ((μ1 206 (142 + c)) + 1)
  refine pm_blk hK zmm309 [38] 14 40 [(2, 205), (0, c), (0, s)] [] (pm_up μ1 206 (142 + c) (pm_w32 ((μ1 206 (142 + c)) + 1))) [pm_in (142 + c), pm_in (142 + c), 0 ≤ 142 + c ∧ 142 + c < 160, sx_bit Wm 206 = true, 0 ≤ 142 + c ∧ 142 + c < 160] rfl ⟨pm_in_mk (by omega) (by omega), pm_in_mk (by omega) (by omega), ⟨by omega, by omega⟩, hb206, ⟨by omega, by omega⟩, trivial⟩ ?_
  obtain ⟨μ2, eμ2⟩ : ∃ μ', μ' = pm_up μ1 206 (142 + c) (pm_w32 ((μ1 206 (142 + c)) + 1)) := ⟨_, rfl⟩
  rw [← eμ2]
  have hTμ2 : zTJ φ μ2 := by rw [eμ2]; exact zT_up hTμ1 zs206_124 rfl (i := 142 + c) (by omega) (by omega) (by omega) (by omega)
  have n2 : μ2 206 = fa_bt (fa_up (μ 206) (4 + s) (μ 206 (4 + s) - 1)) c := by
    rw [eμ2, fa_pm, n1]
    rfl
  have o2 : ∀ r, r ≠ 206 → μ2 r = μ r := fun r hr => by rw [eμ2, pm_up_row hr]; exact o1 r hr
  have f4 := zT_get hTμ2 zs206_52 (i := 52 + s) (by omega) (by omega)
  refine pm_blk hK zmm309 [38] 9 52 [(2, 205), (0, c), (0, s)] [(0, c + 1), (0, μ2 206 (52 + s))] μ2 [pm_in (52 + s), 0 ≤ 52 + s ∧ 52 + s < 160, pm_in (c + 1)] rfl ⟨pm_in_mk (by omega) (by omega), ⟨by omega, by omega⟩, pm_in_mk (by omega) (by omega), trivial⟩ ?_
  refine pm_icmp hK zmm309 .eq 33 85 rfl rfl (fun h0 => ?_) (fun h0 => ?_)
  · have h0 : μ2 206 (52 + s) = c + 1 := h0
    first
    | (have hl := fa_last_y (N := μ2 206) (c := c) (s := s) (by omega)
       exact pm_vret rfl rfl ⟨rfl, hTμ2, by unfold fa_thing; rw [← n2, hl], o2⟩)
    | (have hl := fa_last_n (N := μ1 206) (c := c) (s := s) (by omega)
       skip
       omega)
    | exact pm_vret rfl rfl ⟨rfl, hTμ2, by unfold fa_thing; rw [← n2, fa_last_n (by assumption), eμ2, fa_pm, eμ1, fa_pm], fun r hr => by rw [eμ2, pm_up_row hr, eμ1, pm_up_row hr]; exact o2 r hr⟩
    | (exfalso; omega)
  · have h0 : μ2 206 (52 + s) ≠ c + 1 := h0
    refine pm_blk hK zmm309 [38] 12 73 [(2, 205), (0, c), (0, s)] [] (pm_up μ2 206 (64 + s) (μ2 206 (52 + s))) [pm_in (64 + s), pm_in (52 + s), 0 ≤ 52 + s ∧ 52 + s < 160, sx_bit Wm 206 = true, 0 ≤ 64 + s ∧ 64 + s < 160] rfl ⟨pm_in_mk (by omega) (by omega), pm_in_mk (by omega) (by omega), ⟨by omega, by omega⟩, hb206, ⟨by omega, by omega⟩, trivial⟩ ?_
    obtain ⟨μ3, eμ3⟩ : ∃ μ', μ' = pm_up μ2 206 (64 + s) (μ2 206 (52 + s)) := ⟨_, rfl⟩
    rw [← eμ3]
    have hTμ3 : zTJ φ μ3 := by rw [eμ3]; exact zT_up hTμ2 zs206_52 rfl (i := 64 + s) (by omega) (by omega) (by omega) (by omega)
    refine pm_blk hK zmm309 [38] 9 85 [(2, 205), (0, c), (0, s)] [] (pm_up μ3 206 (52 + s) (c + 1)) [pm_in (52 + s), pm_in (c + 1), sx_bit Wm 206 = true, 0 ≤ 52 + s ∧ 52 + s < 160] rfl ⟨pm_in_mk (by omega) (by omega), pm_in_mk (by omega) (by omega), hb206, ⟨by omega, by omega⟩, trivial⟩ ?_
    obtain ⟨μ4, eμ4⟩ : ∃ μ', μ' = pm_up μ3 206 (52 + s) (c + 1) := ⟨_, rfl⟩
    rw [← eμ4]
    have hTμ4 : zTJ φ μ4 := by rw [eμ4]; exact zT_up hTμ3 zs206_52 rfl (i := 52 + s) (by omega) (by omega) (by omega) (by omega)
    first
    | (have hl := fa_last_y (N := μ4 206) (c := c) (s := s) (by omega)
       exact pm_vret rfl rfl ⟨rfl, hTμ4, by unfold fa_thing; rw [← n2, hl], o2⟩)
    | (have hl := fa_last_n (N := μ3 206) (c := c) (s := s) (by omega)
       skip
       omega)
    | exact pm_vret rfl rfl ⟨rfl, hTμ4, by unfold fa_thing; rw [← n2, fa_last_n (by assumption), eμ4, fa_pm, eμ3, fa_pm], fun r hr => by rw [eμ4, pm_up_row hr, eμ3, pm_up_row hr]; exact o2 r hr⟩
    | (exfalso; omega)
set_option maxRecDepth 100000 in
theorem fr_bought (hK : zKK ST) {c s v : Int} {th : Bool} (hth : fa_th th μ) (hT : zTJ φ μ) (hc : 0 ≤ c ∧ c ≤ 17) (hs : 0 ≤ s ∧ s ≤ 11) (hv : 0 ≤ v ∧ v ≤ 999) (hp : v ≤ μ 206 (88 + c)) (hg : 1 ≤ μ 206 (4 + s)) (hb206 : sx_bit Wm 206 = true) (hb210 : sx_bit Wm 210 = true) (hbd : 1 ≤ bud.1 ∧ 24 ≤ bud.2.1) : zC D Wm ST b0 l Sg zM308 bud [(2, 205), (0, c), (0, s), (0, v)] μ (fun st' μ' => st' = [] ∧ zTJ φ μ' ∧ (μ' 206, μ' 210) = fa_bought th c s v (μ 206, μ 210) ∧ (∀ r, r ≠ 206 → r ≠ 210 → μ' r = μ r)) := by
  have f1 := zT_get hT zs206_88 (i := 88 + c) (by omega) (by omega)
  refine pm_blk hK zmm308 [38] 14 20 [(2, 205), (0, c), (0, s), (0, v)] [] (pm_up μ 206 (88 + c) ((μ 206 (88 + c)) - v)) [pm_in (88 + c), pm_in (88 + c), 0 ≤ 88 + c ∧ 88 + c < 160, pm_in ((μ 206 (88 + c)) - v), sx_bit Wm 206 = true, 0 ≤ 88 + c ∧ 88 + c < 160] rfl ⟨pm_in_mk (by omega) (by omega), pm_in_mk (by omega) (by omega), ⟨by omega, by omega⟩, pm_in_mk (by omega) (by omega), hb206, ⟨by omega, by omega⟩, trivial⟩ ?_
  obtain ⟨μ1, eμ1⟩ : ∃ μ', μ' = pm_up μ 206 (88 + c) ((μ 206 (88 + c)) - v) := ⟨_, rfl⟩
  rw [← eμ1]
  have hTμ1 : zTJ φ μ1 := by rw [eμ1]; exact zT_up hT zs206_88 rfl (i := 88 + c) (by omega) (by omega) (by omega) (by omega)
  have n1 : μ1 206 = fa_up (μ 206) (88 + c) (μ 206 (88 + c) - v) := by rw [eμ1, fa_pm]
  have o1 : ∀ r, r ≠ 206 → μ1 r = μ r := fun r hr => by rw [eμ1, pm_up_row hr]
  have f2 := zT_get hTμ1 zs206_28 (i := 28 + s) (by omega) (by omega)
  have w3 := zw32 ((μ1 206 (28 + s)) + v)
  refine pm_blk hK zmm308 [38] 14 40 [(2, 205), (0, c), (0, s), (0, v)] [] (pm_up μ1 206 (28 + s) (pm_w32 ((μ1 206 (28 + s)) + v))) [pm_in (28 + s), pm_in (28 + s), 0 ≤ 28 + s ∧ 28 + s < 160, sx_bit Wm 206 = true, 0 ≤ 28 + s ∧ 28 + s < 160] rfl ⟨pm_in_mk (by omega) (by omega), pm_in_mk (by omega) (by omega), ⟨by omega, by omega⟩, hb206, ⟨by omega, by omega⟩, trivial⟩ ?_
  obtain ⟨μ2, eμ2⟩ : ∃ μ', μ' = pm_up μ1 206 (28 + s) (pm_w32 ((μ1 206 (28 + s)) + v)) := ⟨_, rfl⟩
  rw [← eμ2]
  have hTμ2 : zTJ φ μ2 := by rw [eμ2]; exact zT_up hTμ1 zs206_28 rfl (i := 28 + s) (by omega) (by omega) (by omega) (by omega)
  have n2 : μ2 206 = fa_up (fa_up (μ 206) (88 + c) (μ 206 (88 + c) - v)) (28 + s) (pm_w32 (μ 206 (28 + s) + v)) := by rw [eμ2, fa_pm, n1, fa_up_ne (i := 28 + s) (j := 88 + c) (by omega)]
  have o2 : ∀ r, r ≠ 206 → μ2 r = μ r := fun r hr => by rw [eμ2, pm_up_row hr]; exact o1 r hr
  refine pm_blk hK zmm308 [38] 3 43 [(2, 205), (0, c), (0, s), (0, v)] [(0, s), (0, c), (2, 205)] μ2 [] rfl trivial ?_
  refine pm_call hK zmm308 (349, 0, 309, 2) zM309 (0, 0) [(2, 205), (0, c), (0, s)] [] rfl rfl rfl rfl ⟨by omega, by rw [zn309]; omega⟩ (fr_thing hK (c := c) (s := s) hTμ2 ⟨by omega, by omega⟩ ⟨by omega, by omega⟩ (by rw [n2, fa_up_ne (by omega), fa_up_ne (by omega)]; exact hg) hb206 ⟨Nat.le_refl _, Nat.le_refl _⟩) (fun st1 μc1 hp1 => ?_)
  obtain ⟨rfl, hTc1, ht1, hf1⟩ := hp1
  have htt := ht1
  have hfo := hf1
  have n3 : μc1 206 = fa_thing (fa_up (fa_up (μ 206) (88 + c) (μ 206 (88 + c) - v)) (28 + s) (pm_w32 (μ 206 (28 + s) + v))) c s := by rw [htt, n2]
  have o3 : ∀ r, r ≠ 206 → μc1 r = μ r := fun r hr => (hfo r hr).trans (o2 r hr)
  have hth := fa_th_r hth (o3 205 (by decide))
  refine pm_blk hK zmm308 [38] 4 50 [(2, 205), (0, c), (0, s), (0, v)] [(0, v), (0, c), (0, 0), (2, 205)] μc1 [] rfl trivial ?_
  refine pm_call hK zmm308 (352, 0, 310, 3) zM310 (0, 0) [(2, 205), (0, 0), (0, c), (0, v)] [] rfl rfl rfl rfl ⟨by omega, by rw [zn310]; omega⟩ (fr_note hK (th := th) (k := 0) (w := c) (v := v) hth hTc1 ⟨by omega, by omega⟩ ⟨by omega, by omega⟩ ⟨by omega, by omega⟩ hb206 hb210 ⟨Nat.le_refl _, Nat.le_refl _⟩) (fun st2 μc2 hp2 => ?_)
  obtain ⟨rfl, hTc2, hn2, hf2⟩ := hp2
  have hnn := hn2
  have hff := hf2
  exact pm_vret rfl rfl ⟨rfl, hTc2, by rw [hnn, n3, o3 210 (by decide)]; rfl, fun r a b => (hff r a b).trans (o3 r a)⟩
set_option maxRecDepth 100000 in
theorem fr_stays (hK : zKK ST) {s : Int} {th : Bool} (hth : fa_th th μ) (hT : zTJ φ μ) (hs : 0 ≤ s ∧ s ≤ 11) (hb206 : sx_bit Wm 206 = true) (hb210 : sx_bit Wm 210 = true) (hbd : 1 ≤ bud.1 ∧ 24 ≤ bud.2.1) : zC D Wm ST b0 l Sg zM317 bud [(2, 205), (0, s)] μ (fun st' μ' => st' = [] ∧ zTJ φ μ' ∧ (μ' 206, μ' 210) = fa_stays th s (μ 206, μ 210) ∧ (∀ r, r ≠ 206 → r ≠ 210 → μ' r = μ r)) := by
  have f1 := zT_get hT zs206_76 (i := 76 + s) (by omega) (by omega)
  have w2 := zw32 ((μ 206 (76 + s)) + 1)
  refine pm_blk hK zmm317 [18] 14 20 [(2, 205), (0, s)] [] (pm_up μ 206 (76 + s) (pm_w32 ((μ 206 (76 + s)) + 1))) [pm_in (76 + s), pm_in (76 + s), 0 ≤ 76 + s ∧ 76 + s < 160, sx_bit Wm 206 = true, 0 ≤ 76 + s ∧ 76 + s < 160] rfl ⟨pm_in_mk (by omega) (by omega), pm_in_mk (by omega) (by omega), ⟨by omega, by omega⟩, hb206, ⟨by omega, by omega⟩, trivial⟩ ?_
  obtain ⟨μ1, eμ1⟩ : ∃ μ', μ' = pm_up μ 206 (76 + s) (pm_w32 ((μ 206 (76 + s)) + 1)) := ⟨_, rfl⟩
  rw [← eμ1]
  have hTμ1 : zTJ φ μ1 := by rw [eμ1]; exact zT_up hT zs206_76 rfl (i := 76 + s) (by omega) (by omega) (by omega) (by omega)
  have n1 : μ1 206 = fa_up (μ 206) (76 + s) (pm_w32 (μ 206 (76 + s) + 1)) := by rw [eμ1, fa_pm]
  have o1 : ∀ r, r ≠ 206 → μ1 r = μ r := fun r hr => by rw [eμ1, pm_up_row hr]
  have hth := fa_th_r hth (o1 205 (by decide))
  have v1 : μ1 206 (76 + s) = pm_w32 (μ 206 (76 + s) + 1) := by rw [n1, fa_up_eq]
  have f3 := zT_get hTμ1 zs206_76 (i := 76 + s) (by omega) (by omega)
  refine pm_blk hK zmm317 [18] 9 32 [(2, 205), (0, s)] [(0, μ1 206 (76 + s)), (0, s), (0, 4), (2, 205)] μ1 [pm_in (76 + s), 0 ≤ 76 + s ∧ 76 + s < 160] rfl ⟨pm_in_mk (by omega) (by omega), ⟨by omega, by omega⟩, trivial⟩ ?_
  refine pm_call hK zmm317 (352, 0, 310, 3) zM310 (0, 0) [(2, 205), (0, 4), (0, s), (0, μ1 206 (76 + s))] [] rfl rfl rfl rfl ⟨by omega, by rw [zn310]; omega⟩ (fr_note hK (th := th) (k := 4) (w := s) (v := (μ1 206 (76 + s))) hth hTμ1 ⟨by omega, by omega⟩ ⟨by omega, by omega⟩ ⟨by omega, by omega⟩ hb206 hb210 ⟨Nat.le_refl _, Nat.le_refl _⟩) (fun st1 μc1 hp1 => ?_)
  obtain ⟨rfl, hTc1, hn1, hf1⟩ := hp1
  have hnn := hn1
  have hff := hf1
  exact pm_vret rfl rfl ⟨rfl, hTc1, by rw [hnn, n1, o1 210 (by decide), fa_up_eq]; rfl, fun r a b => (hff r a b).trans (o1 r a)⟩
end ZHW
