/-! F: the class: what is asked of THE LAW; walks printed by program (wip/p30/pmgen.py) and filled by hand -/
section ZHW
variable {φ : Option pm_Mem}
variable {D : va_G} {Wm : Nat} {ST : List (String × String × String × Nat)} {b0 : sx_B} {l : Launch} {Sg : Nat → Option Nat} {bud : sx_Bu} {μ : pm_Mem} {B0 : Nat → Prop} {J : (Nat → Option Nat) → Heap → Prop}
set_option maxRecDepth 100000 in
theorem fc_cell17 (hK : zKK ST) {a c : Int} (ha : 0 ≤ a ∧ a ≤ 15) (hc : 0 ≤ c ∧ c ≤ 3) (hbd : 1 ≤ bud.1 ∧ 22 ≤ bud.2.1) : zC D Wm ST b0 l Sg zM219 bud [(2, 17), (0, a), (0, c)] μ (fun st' μ' => μ = μ' ∧ st' = [(0, μ 18 (a * 4 + c))]) := by
  refine pm_blk hK zmm219 [] 13 15 [(2, 17), (0, a), (0, c), (0, (a * 4) + c)] [(0, 64 - 1), (0, 0), (0, (a * 4) + c)] μ [pm_in (a * 4), pm_in ((a * 4) + c), pm_in (64 - 1)] rfl ⟨pm_in_mk (by omega) (by omega), pm_in_mk (by omega) (by omega), pm_in_mk (by omega) (by omega), trivial⟩ ?_
  refine pm_call hK zmm219 (25, 1, 16, 3) zM16 (0, 0) [(0, (a * 4) + c), (0, 0), (0, 64 - 1)] [] rfl rfl rfl rfl ⟨by omega, by rw [zn16]; omega⟩ (zh_within hK ⟨Nat.le_refl _, Nat.le_refl _⟩) (fun st1 μc1 hp1 => ?_)
  obtain ⟨rfl, rfl⟩ := hp1
  refine pm_if hK zmm219 .eq 12 30 rfl rfl (fun h0 => ?_) (fun h0 => ?_)
  · have h0 : (if 0 ≤ ((a * 4) + c) ∧ ((a * 4) + c) ≤ (64 - 1) then 1 else 0 : Int) = (0 : Int) := h0
    have h0 := zif0 h0
    refine pm_blk hK zmm219 [] 1 31 [(2, 17), (0, a), (0, c), (0, (a * 4) + c)] [(0, (-1))] μ [] rfl trivial ?_
    exact pm_iret rfl rfl ⟨rfl, by first | rfl | (exfalso; omega)⟩
  · have h0 : (if 0 ≤ ((a * 4) + c) ∧ ((a * 4) + c) ≤ (64 - 1) then 1 else 0 : Int) ≠ (0 : Int) := h0
    have h0 := zif1 h0
    refine pm_blk hK zmm219 [] 5 31 [(2, 17), (0, a), (0, c), (0, (a * 4) + c)] [(0, μ 18 ((a * 4) + c))] μ [0 ≤ (a * 4) + c ∧ (a * 4) + c < 64] rfl ⟨⟨by omega, by omega⟩, trivial⟩ ?_
    exact pm_iret rfl rfl ⟨rfl, by first | rfl | (exfalso; omega)⟩
set_option maxRecDepth 100000 in
theorem fc_cell20 (hK : zKK ST) {a c : Int} (ha : 0 ≤ a ∧ a ≤ 15) (hc : 0 ≤ c ∧ c ≤ 3) (hbd : 1 ≤ bud.1 ∧ 22 ≤ bud.2.1) : zC D Wm ST b0 l Sg zM219 bud [(2, 20), (0, a), (0, c)] μ (fun st' μ' => μ = μ' ∧ st' = [(0, μ 21 (a * 4 + c))]) := by
  refine pm_blk hK zmm219 [] 13 15 [(2, 20), (0, a), (0, c), (0, (a * 4) + c)] [(0, 64 - 1), (0, 0), (0, (a * 4) + c)] μ [pm_in (a * 4), pm_in ((a * 4) + c), pm_in (64 - 1)] rfl ⟨pm_in_mk (by omega) (by omega), pm_in_mk (by omega) (by omega), pm_in_mk (by omega) (by omega), trivial⟩ ?_
  refine pm_call hK zmm219 (25, 1, 16, 3) zM16 (0, 0) [(0, (a * 4) + c), (0, 0), (0, 64 - 1)] [] rfl rfl rfl rfl ⟨by omega, by rw [zn16]; omega⟩ (zh_within hK ⟨Nat.le_refl _, Nat.le_refl _⟩) (fun st1 μc1 hp1 => ?_)
  obtain ⟨rfl, rfl⟩ := hp1
  refine pm_if hK zmm219 .eq 12 30 rfl rfl (fun h0 => ?_) (fun h0 => ?_)
  · have h0 : (if 0 ≤ ((a * 4) + c) ∧ ((a * 4) + c) ≤ (64 - 1) then 1 else 0 : Int) = (0 : Int) := h0
    have h0 := zif0 h0
    refine pm_blk hK zmm219 [] 1 31 [(2, 20), (0, a), (0, c), (0, (a * 4) + c)] [(0, (-1))] μ [] rfl trivial ?_
    exact pm_iret rfl rfl ⟨rfl, by first | rfl | (exfalso; omega)⟩
  · have h0 : (if 0 ≤ ((a * 4) + c) ∧ ((a * 4) + c) ≤ (64 - 1) then 1 else 0 : Int) ≠ (0 : Int) := h0
    have h0 := zif1 h0
    refine pm_blk hK zmm219 [] 5 31 [(2, 20), (0, a), (0, c), (0, (a * 4) + c)] [(0, μ 21 ((a * 4) + c))] μ [0 ≤ (a * 4) + c ∧ (a * 4) + c < 64] rfl ⟨⟨by omega, by omega⟩, trivial⟩ ?_
    exact pm_iret rfl rfl ⟨rfl, by first | rfl | (exfalso; omega)⟩
set_option maxRecDepth 100000 in
theorem fc_cell23 (hK : zKK ST) {a c : Int} (ha : 0 ≤ a ∧ a ≤ 15) (hc : 0 ≤ c ∧ c ≤ 3) (hbd : 1 ≤ bud.1 ∧ 22 ≤ bud.2.1) : zC D Wm ST b0 l Sg zM219 bud [(2, 23), (0, a), (0, c)] μ (fun st' μ' => μ = μ' ∧ st' = [(0, μ 24 (a * 4 + c))]) := by
  refine pm_blk hK zmm219 [] 13 15 [(2, 23), (0, a), (0, c), (0, (a * 4) + c)] [(0, 64 - 1), (0, 0), (0, (a * 4) + c)] μ [pm_in (a * 4), pm_in ((a * 4) + c), pm_in (64 - 1)] rfl ⟨pm_in_mk (by omega) (by omega), pm_in_mk (by omega) (by omega), pm_in_mk (by omega) (by omega), trivial⟩ ?_
  refine pm_call hK zmm219 (25, 1, 16, 3) zM16 (0, 0) [(0, (a * 4) + c), (0, 0), (0, 64 - 1)] [] rfl rfl rfl rfl ⟨by omega, by rw [zn16]; omega⟩ (zh_within hK ⟨Nat.le_refl _, Nat.le_refl _⟩) (fun st1 μc1 hp1 => ?_)
  obtain ⟨rfl, rfl⟩ := hp1
  refine pm_if hK zmm219 .eq 12 30 rfl rfl (fun h0 => ?_) (fun h0 => ?_)
  · have h0 : (if 0 ≤ ((a * 4) + c) ∧ ((a * 4) + c) ≤ (64 - 1) then 1 else 0 : Int) = (0 : Int) := h0
    have h0 := zif0 h0
    refine pm_blk hK zmm219 [] 1 31 [(2, 23), (0, a), (0, c), (0, (a * 4) + c)] [(0, (-1))] μ [] rfl trivial ?_
    exact pm_iret rfl rfl ⟨rfl, by first | rfl | (exfalso; omega)⟩
  · have h0 : (if 0 ≤ ((a * 4) + c) ∧ ((a * 4) + c) ≤ (64 - 1) then 1 else 0 : Int) ≠ (0 : Int) := h0
    have h0 := zif1 h0
    refine pm_blk hK zmm219 [] 5 31 [(2, 23), (0, a), (0, c), (0, (a * 4) + c)] [(0, μ 24 ((a * 4) + c))] μ [0 ≤ (a * 4) + c ∧ (a * 4) + c < 64] rfl ⟨⟨by omega, by omega⟩, trivial⟩ ?_
    exact pm_iret rfl rfl ⟨rfl, by first | rfl | (exfalso; omega)⟩
set_option maxRecDepth 100000 in
theorem fc_unt3 (hK : zKK ST) {w c s : Int} (hT : zTJ φ μ) {N pol : Int → Int} {n m : Int} (hA : fa_A 3 n m N pol μ) (hn0 : 0 ≤ n) (hm0 : 0 ≤ m) (hq : n ≤ 12 ∧ m ≤ 18) (hc : 0 ≤ c ∧ c < m) (hs : 0 ≤ s ∧ s < n) (hbd : 0 ≤ bud.1 ∧ 0 ≤ bud.2.1) : zC D Wm ST b0 l Sg zM218 bud [(2, 3), (0, w), (0, c), (0, s)] μ (fun st' μ' => μ = μ' ∧ st' = [(0, fa_unt N pol w c s)]) := by
  have a2 := hA.1.2.2.1
  have rp : μ 12 c = pol c := fa_r_polite hA hc.1 hc.2
  have rr : μ 5 s = N (16 + s) := fa_r_price hA hs.1 hs.2
  refine pm_blk hK zmm218 [] 2 4 [(2, 3), (0, w), (0, c), (0, s)] [(0, 300), (0, w)] μ [] rfl trivial ?_
  refine pm_icmp hK zmm218 .ne 15 19 rfl rfl (fun h0 => ?_) (fun h0 => ?_)
  · have h0 : w ≠ (300 : Int) := h0
    refine pm_blk hK zmm218 [] 2 23 [(2, 3), (0, w), (0, c), (0, s)] [(0, 301), (0, w)] μ [] rfl trivial ?_
    refine pm_icmp hK zmm218 .ne 15 38 rfl rfl (fun h1 => ?_) (fun h1 => ?_)
    · have h1 : w ≠ (301 : Int) := h1
      have f1 := zT_get hT zs5_0 (i := s) (by omega) (by omega)
      refine pm_blk hK zmm218 [] 4 44 [(2, 3), (0, w), (0, c), (0, s)] [(0, μ 5 s)] μ [0 ≤ s ∧ s < 12] rfl ⟨⟨by omega, by omega⟩, trivial⟩ ?_
      first
      | exact pm_iret rfl rfl ⟨rfl, by unfold fa_unt; rw [if_pos (by omega), ← a2]⟩
      | exact pm_iret rfl rfl ⟨rfl, by unfold fa_unt; rw [if_neg (by omega), if_pos (by omega), ← rp]⟩
      | exact pm_iret rfl rfl ⟨rfl, by unfold fa_unt; rw [if_neg (by omega), if_neg (by omega), ← rr]⟩
      | (exfalso; omega)
    · have h1 : w = (301 : Int) := h1
      have f2 := zT_get hT zs12_0 (i := c) (by omega) (by omega)
      refine pm_blk hK zmm218 [] 7 44 [(2, 3), (0, w), (0, c), (0, s)] [(0, 100 * (μ 12 c))] μ [0 ≤ c ∧ c < 18, pm_in (100 * (μ 12 c))] rfl ⟨⟨by omega, by omega⟩, pm_in_mk (by omega) (by omega), trivial⟩ ?_
      first
      | exact pm_iret rfl rfl ⟨rfl, by unfold fa_unt; rw [if_pos (by omega), ← a2]⟩
      | exact pm_iret rfl rfl ⟨rfl, by unfold fa_unt; rw [if_neg (by omega), if_pos (by omega), ← rp]⟩
      | exact pm_iret rfl rfl ⟨rfl, by unfold fa_unt; rw [if_neg (by omega), if_neg (by omega), ← rr]⟩
      | (exfalso; omega)
  · have h0 : w = (300 : Int) := h0
    have f3 := zT_get hT zs3_2 (i := 2) (by omega) (by omega)
    refine pm_blk hK zmm218 [] 6 18 [(2, 3), (0, w), (0, c), (0, s)] [(0, 600 - (40 * (μ 3 2)))] μ [pm_in (40 * (μ 3 2)), pm_in (600 - (40 * (μ 3 2)))] rfl ⟨pm_in_mk (by omega) (by omega), pm_in_mk (by omega) (by omega), trivial⟩ ?_
    first
    | exact pm_iret rfl rfl ⟨rfl, by unfold fa_unt; rw [if_pos (by omega), ← a2]⟩
    | exact pm_iret rfl rfl ⟨rfl, by unfold fa_unt; rw [if_neg (by omega), if_pos (by omega), ← rp]⟩
    | exact pm_iret rfl rfl ⟨rfl, by unfold fa_unt; rw [if_neg (by omega), if_neg (by omega), ← rr]⟩
    | (exfalso; omega)
set_option maxRecDepth 100000 in
theorem fc_gath3 (hK : zKK ST) {c s : Int} (hT : zTJ φ μ) {N pol : Int → Int} {n m : Int} (hA : fa_A 3 n m N pol μ) (hn0 : 0 ≤ n) (hm0 : 0 ≤ m) (hq : n ≤ 12 ∧ m ≤ 18) (hc : 0 ≤ c ∧ c < m) (hs : 0 ≤ s ∧ s < n) (hb178 : sx_bit Wm 178 = true) (hbd : 2 ≤ bud.1 ∧ 44 ≤ bud.2.1) : zC D Wm ST b0 l Sg zM214 bud [(2, 177), (2, 3), (0, c), (0, s)] μ (fun st' μ' => st' = [] ∧ zTJ φ μ' ∧ (∀ i : Int, 0 ≤ i → i ≤ 10 → μ' 178 i = fa_W N pol m c s i) ∧ (∀ r, r ≠ 178 → μ' r = μ r)) := by
  have o0 : ∀ r, r ≠ 178 → μ r = μ r := fun _ _ => rfl
  have hA0 := hA
  have f1 := zT_get hT zs11_0 (i := c) (by omega) (by omega)
  refine pm_blk hK zmm214 [] 8 12 [(2, 177), (2, 3), (0, c), (0, s)] [] (pm_up μ 178 0 (μ 11 c)) [0 ≤ c ∧ c < 18, sx_bit Wm 178 = true, 0 ≤ 0 ∧ 0 < 11] rfl ⟨⟨by omega, by omega⟩, hb178, ⟨by omega, by omega⟩, trivial⟩ ?_
  obtain ⟨μ1, eμ1⟩ : ∃ μ', μ' = pm_up μ 178 0 (μ 11 c) := ⟨_, rfl⟩
  rw [← eμ1]
  have hTμ1 : zTJ φ μ1 := by rw [eμ1]; exact zT_up hT zs178_0 rfl (i := 0) (by omega) (by omega) (by omega) (by omega)
  have o1 : ∀ r, r ≠ 178 → μ1 r = μ r := fun r hr => by rw [eμ1, pm_up_row hr]
  have w0 : μ1 178 0 = N (88 + c) := by rw [eμ1, pm_up_eq, o0 11 (by decide)]; exact fa_r_purse hA0 hc.1 hc.2
  have hA := fa_A_fr hA0 (fun r h1 h2 => o1 r (by omega))
  have g2 : μ1 12 c = μ 12 c := by rw [eμ1, pm_up_off (by decide)]
  have f3 := zT_get hTμ1 zs12_0 (i := c) (by omega) (by omega)
  refine pm_blk hK zmm214 [] 8 24 [(2, 177), (2, 3), (0, c), (0, s)] [] (pm_up μ1 178 1 (μ1 12 c)) [0 ≤ c ∧ c < 18, sx_bit Wm 178 = true, 0 ≤ 1 ∧ 1 < 11] rfl ⟨⟨by omega, by omega⟩, hb178, ⟨by omega, by omega⟩, trivial⟩ ?_
  obtain ⟨μ2, eμ2⟩ : ∃ μ', μ' = pm_up μ1 178 1 (μ1 12 c) := ⟨_, rfl⟩
  rw [← eμ2]
  have hTμ2 : zTJ φ μ2 := by rw [eμ2]; exact zT_up hTμ1 zs178_0 rfl (i := 1) (by omega) (by omega) (by omega) (by omega)
  have o2 : ∀ r, r ≠ 178 → μ2 r = μ r := fun r hr => by rw [eμ2, pm_up_row hr]; exact o1 r hr
  have w0 : μ2 178 0 = N (88 + c) := by rw [eμ2, pm_up_ne (by decide)]; exact w0
  have w1 : μ2 178 1 = pol c := by rw [eμ2, pm_up_eq, o1 12 (by decide)]; exact fa_r_polite hA0 hc.1 hc.2
  have hA := fa_A_fr hA0 (fun r h1 h2 => o2 r (by omega))
  have g4 : μ2 4 s = μ 4 s := by rw [eμ2, pm_up_off (by decide), eμ1, pm_up_off (by decide)]
  have f5 := zT_get hTμ2 zs4_0 (i := s) (by omega) (by omega)
  refine pm_blk hK zmm214 [] 8 36 [(2, 177), (2, 3), (0, c), (0, s)] [] (pm_up μ2 178 2 (μ2 4 s)) [0 ≤ s ∧ s < 12, sx_bit Wm 178 = true, 0 ≤ 2 ∧ 2 < 11] rfl ⟨⟨by omega, by omega⟩, hb178, ⟨by omega, by omega⟩, trivial⟩ ?_
  obtain ⟨μ3, eμ3⟩ : ∃ μ', μ' = pm_up μ2 178 2 (μ2 4 s) := ⟨_, rfl⟩
  rw [← eμ3]
  have hTμ3 : zTJ φ μ3 := by rw [eμ3]; exact zT_up hTμ2 zs178_0 rfl (i := 2) (by omega) (by omega) (by omega) (by omega)
  have o3 : ∀ r, r ≠ 178 → μ3 r = μ r := fun r hr => by rw [eμ3, pm_up_row hr]; exact o2 r hr
  have w0 : μ3 178 0 = N (88 + c) := by rw [eμ3, pm_up_ne (by decide)]; exact w0
  have w1 : μ3 178 1 = pol c := by rw [eμ3, pm_up_ne (by decide)]; exact w1
  have w2 : μ3 178 2 = N (4 + s) := by rw [eμ3, pm_up_eq, o2 4 (by decide)]; exact fa_r_goods hA0 hs.1 hs.2
  have hA := fa_A_fr hA0 (fun r h1 h2 => o3 r (by omega))
  have g6 : μ3 5 s = μ 5 s := by rw [eμ3, pm_up_off (by decide), eμ2, pm_up_off (by decide), eμ1, pm_up_off (by decide)]
  have f7 := zT_get hTμ3 zs5_0 (i := s) (by omega) (by omega)
  refine pm_blk hK zmm214 [] 8 48 [(2, 177), (2, 3), (0, c), (0, s)] [] (pm_up μ3 178 3 (μ3 5 s)) [0 ≤ s ∧ s < 12, sx_bit Wm 178 = true, 0 ≤ 3 ∧ 3 < 11] rfl ⟨⟨by omega, by omega⟩, hb178, ⟨by omega, by omega⟩, trivial⟩ ?_
  obtain ⟨μ4, eμ4⟩ : ∃ μ', μ' = pm_up μ3 178 3 (μ3 5 s) := ⟨_, rfl⟩
  rw [← eμ4]
  have hTμ4 : zTJ φ μ4 := by rw [eμ4]; exact zT_up hTμ3 zs178_0 rfl (i := 3) (by omega) (by omega) (by omega) (by omega)
  have o4 : ∀ r, r ≠ 178 → μ4 r = μ r := fun r hr => by rw [eμ4, pm_up_row hr]; exact o3 r hr
  have w0 : μ4 178 0 = N (88 + c) := by rw [eμ4, pm_up_ne (by decide)]; exact w0
  have w1 : μ4 178 1 = pol c := by rw [eμ4, pm_up_ne (by decide)]; exact w1
  have w2 : μ4 178 2 = N (4 + s) := by rw [eμ4, pm_up_ne (by decide)]; exact w2
  have w3 : μ4 178 3 = N (16 + s) := by rw [eμ4, pm_up_eq, o3 5 (by decide)]; exact fa_r_price hA0 hs.1 hs.2
  have hA := fa_A_fr hA0 (fun r h1 h2 => o4 r (by omega))
  have g8 : μ4 6 s = μ 6 s := by rw [eμ4, pm_up_off (by decide), eμ3, pm_up_off (by decide), eμ2, pm_up_off (by decide), eμ1, pm_up_off (by decide)]
  have f9 := zT_get hTμ4 zs6_0 (i := s) (by omega) (by omega)
  refine pm_blk hK zmm214 [] 8 60 [(2, 177), (2, 3), (0, c), (0, s)] [] (pm_up μ4 178 4 (μ4 6 s)) [0 ≤ s ∧ s < 12, sx_bit Wm 178 = true, 0 ≤ 4 ∧ 4 < 11] rfl ⟨⟨by omega, by omega⟩, hb178, ⟨by omega, by omega⟩, trivial⟩ ?_
  obtain ⟨μ5, eμ5⟩ : ∃ μ', μ' = pm_up μ4 178 4 (μ4 6 s) := ⟨_, rfl⟩
  rw [← eμ5]
  have hTμ5 : zTJ φ μ5 := by rw [eμ5]; exact zT_up hTμ4 zs178_0 rfl (i := 4) (by omega) (by omega) (by omega) (by omega)
  have o5 : ∀ r, r ≠ 178 → μ5 r = μ r := fun r hr => by rw [eμ5, pm_up_row hr]; exact o4 r hr
  have w0 : μ5 178 0 = N (88 + c) := by rw [eμ5, pm_up_ne (by decide)]; exact w0
  have w1 : μ5 178 1 = pol c := by rw [eμ5, pm_up_ne (by decide)]; exact w1
  have w2 : μ5 178 2 = N (4 + s) := by rw [eμ5, pm_up_ne (by decide)]; exact w2
  have w3 : μ5 178 3 = N (16 + s) := by rw [eμ5, pm_up_ne (by decide)]; exact w3
  have w4 : μ5 178 4 = N (28 + s) := by rw [eμ5, pm_up_eq, o4 6 (by decide)]; exact fa_r_till hA0 hs.1 hs.2
  have hA := fa_A_fr hA0 (fun r h1 h2 => o5 r (by omega))
  have g10 : μ5 10 s = μ 10 s := by rw [eμ5, pm_up_off (by decide), eμ4, pm_up_off (by decide), eμ3, pm_up_off (by decide), eμ2, pm_up_off (by decide), eμ1, pm_up_off (by decide)]
  have f11 := zT_get hTμ5 zs10_0 (i := s) (by omega) (by omega)
  refine pm_blk hK zmm214 [] 8 72 [(2, 177), (2, 3), (0, c), (0, s)] [] (pm_up μ5 178 5 (μ5 10 s)) [0 ≤ s ∧ s < 12, sx_bit Wm 178 = true, 0 ≤ 5 ∧ 5 < 11] rfl ⟨⟨by omega, by omega⟩, hb178, ⟨by omega, by omega⟩, trivial⟩ ?_
  obtain ⟨μ6, eμ6⟩ : ∃ μ', μ' = pm_up μ5 178 5 (μ5 10 s) := ⟨_, rfl⟩
  rw [← eμ6]
  have hTμ6 : zTJ φ μ6 := by rw [eμ6]; exact zT_up hTμ5 zs178_0 rfl (i := 5) (by omega) (by omega) (by omega) (by omega)
  have o6 : ∀ r, r ≠ 178 → μ6 r = μ r := fun r hr => by rw [eμ6, pm_up_row hr]; exact o5 r hr
  have w0 : μ6 178 0 = N (88 + c) := by rw [eμ6, pm_up_ne (by decide)]; exact w0
  have w1 : μ6 178 1 = pol c := by rw [eμ6, pm_up_ne (by decide)]; exact w1
  have w2 : μ6 178 2 = N (4 + s) := by rw [eμ6, pm_up_ne (by decide)]; exact w2
  have w3 : μ6 178 3 = N (16 + s) := by rw [eμ6, pm_up_ne (by decide)]; exact w3
  have w4 : μ6 178 4 = N (28 + s) := by rw [eμ6, pm_up_ne (by decide)]; exact w4
  have w5 : μ6 178 5 = N (76 + s) := by rw [eμ6, pm_up_eq, o5 10 (by decide)]; exact fa_r_nights hA0 hs.1 hs.2
  have hA := fa_A_fr hA0 (fun r h1 h2 => o6 r (by omega))
  have g12 : μ6 14 c = μ 14 c := by rw [eμ6, pm_up_off (by decide), eμ5, pm_up_off (by decide), eμ4, pm_up_off (by decide), eμ3, pm_up_off (by decide), eμ2, pm_up_off (by decide), eμ1, pm_up_off (by decide)]
  have f13 := zT_get hTμ6 zs14_0 (i := c) (by omega) (by omega)
  refine pm_blk hK zmm214 [] 8 85 [(2, 177), (2, 3), (0, c), (0, s)] [] (pm_up μ6 178 6 (μ6 14 c)) [0 ≤ c ∧ c < 18, sx_bit Wm 178 = true, 0 ≤ 6 ∧ 6 < 11] rfl ⟨⟨by omega, by omega⟩, hb178, ⟨by omega, by omega⟩, trivial⟩ ?_
  obtain ⟨μ7, eμ7⟩ : ∃ μ', μ' = pm_up μ6 178 6 (μ6 14 c) := ⟨_, rfl⟩
  rw [← eμ7]
  have hTμ7 : zTJ φ μ7 := by rw [eμ7]; exact zT_up hTμ6 zs178_0 rfl (i := 6) (by omega) (by omega) (by omega) (by omega)
  have o7 : ∀ r, r ≠ 178 → μ7 r = μ r := fun r hr => by rw [eμ7, pm_up_row hr]; exact o6 r hr
  have w0 : μ7 178 0 = N (88 + c) := by rw [eμ7, pm_up_ne (by decide)]; exact w0
  have w1 : μ7 178 1 = pol c := by rw [eμ7, pm_up_ne (by decide)]; exact w1
  have w2 : μ7 178 2 = N (4 + s) := by rw [eμ7, pm_up_ne (by decide)]; exact w2
  have w3 : μ7 178 3 = N (16 + s) := by rw [eμ7, pm_up_ne (by decide)]; exact w3
  have w4 : μ7 178 4 = N (28 + s) := by rw [eμ7, pm_up_ne (by decide)]; exact w4
  have w5 : μ7 178 5 = N (76 + s) := by rw [eμ7, pm_up_ne (by decide)]; exact w5
  have w6 : μ7 178 6 = N (124 + c) := by rw [eμ7, pm_up_eq, o6 14 (by decide)]; exact fa_r_poles hA0 hc.1 hc.2
  have hA := fa_A_fr hA0 (fun r h1 h2 => o7 r (by omega))
  refine pm_blk hK zmm214 [] 5 93 [(2, 177), (2, 3), (0, c), (0, s)] [(0, s), (2, 3), (0, 7), (2, 178)] μ7 [] rfl trivial ?_
  refine pm_call hK zmm214 (81, 0, 215, 1) zM215 (1, 23) [(2, 3), (0, s)] [(0, 7), (2, 178)] rfl rfl rfl rfl ⟨by omega, by rw [zn215]; omega⟩ (fc_crowd3 hK (s := s) hTμ7 hA hn0 hm0 hq ⟨Nat.le_refl _, Nat.le_refl _⟩) (fun st1 μc1 hp1 => ?_)
  obtain ⟨rfl, rfl⟩ := hp1
  have hcb := fa_crowd_b N (s) m.toNat
  refine pm_blk hK zmm214 [] 1 97 [(2, 177), (2, 3), (0, c), (0, s)] [] (pm_up μ7 178 7 (fa_crowd N (s) m.toNat)) [sx_bit Wm 178 = true, 0 ≤ 7 ∧ 7 < 11] rfl ⟨hb178, ⟨by omega, by omega⟩, trivial⟩ ?_
  obtain ⟨μ8, eμ8⟩ : ∃ μ', μ' = pm_up μ7 178 7 (fa_crowd N (s) m.toNat) := ⟨_, rfl⟩
  rw [← eμ8]
  have hTμ8 : zTJ φ μ8 := by rw [eμ8]; exact zT_up hTμ7 zs178_0 rfl (i := 7) (by omega) (by omega) (by omega) (by omega)
  have o8 : ∀ r, r ≠ 178 → μ8 r = μ r := fun r hr => by rw [eμ8, pm_up_row hr]; exact o7 r hr
  have w0 : μ8 178 0 = N (88 + c) := by rw [eμ8, pm_up_ne (by decide)]; exact w0
  have w1 : μ8 178 1 = pol c := by rw [eμ8, pm_up_ne (by decide)]; exact w1
  have w2 : μ8 178 2 = N (4 + s) := by rw [eμ8, pm_up_ne (by decide)]; exact w2
  have w3 : μ8 178 3 = N (16 + s) := by rw [eμ8, pm_up_ne (by decide)]; exact w3
  have w4 : μ8 178 4 = N (28 + s) := by rw [eμ8, pm_up_ne (by decide)]; exact w4
  have w5 : μ8 178 5 = N (76 + s) := by rw [eμ8, pm_up_ne (by decide)]; exact w5
  have w6 : μ8 178 6 = N (124 + c) := by rw [eμ8, pm_up_ne (by decide)]; exact w6
  have w7 : μ8 178 7 = fa_crowd N s m.toNat := by rw [eμ8, pm_up_eq]
  have hA := fa_A_fr hA0 (fun r h1 h2 => o8 r (by omega))
  have g14 : μ8 3 2 = μ 3 2 := by rw [eμ8, pm_up_off (by decide), eμ7, pm_up_off (by decide), eμ6, pm_up_off (by decide), eμ5, pm_up_off (by decide), eμ4, pm_up_off (by decide), eμ3, pm_up_off (by decide), eμ2, pm_up_off (by decide), eμ1, pm_up_off (by decide)]
  have f15 := zT_get hTμ8 zs3_2 (i := 2) (by omega) (by omega)
  refine pm_blk hK zmm214 [] 6 108 [(2, 177), (2, 3), (0, c), (0, s)] [] (pm_up μ8 178 8 (μ8 3 2)) [sx_bit Wm 178 = true, 0 ≤ 8 ∧ 8 < 11] rfl ⟨hb178, ⟨by omega, by omega⟩, trivial⟩ ?_
  obtain ⟨μ9, eμ9⟩ : ∃ μ', μ' = pm_up μ8 178 8 (μ8 3 2) := ⟨_, rfl⟩
  rw [← eμ9]
  have hTμ9 : zTJ φ μ9 := by rw [eμ9]; exact zT_up hTμ8 zs178_0 rfl (i := 8) (by omega) (by omega) (by omega) (by omega)
  have o9 : ∀ r, r ≠ 178 → μ9 r = μ r := fun r hr => by rw [eμ9, pm_up_row hr]; exact o8 r hr
  have w0 : μ9 178 0 = N (88 + c) := by rw [eμ9, pm_up_ne (by decide)]; exact w0
  have w1 : μ9 178 1 = pol c := by rw [eμ9, pm_up_ne (by decide)]; exact w1
  have w2 : μ9 178 2 = N (4 + s) := by rw [eμ9, pm_up_ne (by decide)]; exact w2
  have w3 : μ9 178 3 = N (16 + s) := by rw [eμ9, pm_up_ne (by decide)]; exact w3
  have w4 : μ9 178 4 = N (28 + s) := by rw [eμ9, pm_up_ne (by decide)]; exact w4
  have w5 : μ9 178 5 = N (76 + s) := by rw [eμ9, pm_up_ne (by decide)]; exact w5
  have w6 : μ9 178 6 = N (124 + c) := by rw [eμ9, pm_up_ne (by decide)]; exact w6
  have w7 : μ9 178 7 = fa_crowd N s m.toNat := by rw [eμ9, pm_up_ne (by decide)]; exact w7
  have w8 : μ9 178 8 = N 1 := by rw [eμ9, pm_up_eq, o8 3 (by decide)]; exact hA0.1.2.2.1
  have hA := fa_A_fr hA0 (fun r h1 h2 => o9 r (by omega))
  have g16 : μ9 15 c = μ 15 c := by rw [eμ9, pm_up_off (by decide), eμ8, pm_up_off (by decide), eμ7, pm_up_off (by decide), eμ6, pm_up_off (by decide), eμ5, pm_up_off (by decide), eμ4, pm_up_off (by decide), eμ3, pm_up_off (by decide), eμ2, pm_up_off (by decide), eμ1, pm_up_off (by decide)]
  have f17 := zT_get hTμ9 zs15_0 (i := c) (by omega) (by omega)
  refine pm_blk hK zmm214 [] 8 121 [(2, 177), (2, 3), (0, c), (0, s)] [] (pm_up μ9 178 9 (μ9 15 c)) [0 ≤ c ∧ c < 18, sx_bit Wm 178 = true, 0 ≤ 9 ∧ 9 < 11] rfl ⟨⟨by omega, by omega⟩, hb178, ⟨by omega, by omega⟩, trivial⟩ ?_
  obtain ⟨μ10, eμ10⟩ : ∃ μ', μ' = pm_up μ9 178 9 (μ9 15 c) := ⟨_, rfl⟩
  rw [← eμ10]
  have hTμ10 : zTJ φ μ10 := by rw [eμ10]; exact zT_up hTμ9 zs178_0 rfl (i := 9) (by omega) (by omega) (by omega) (by omega)
  have o10 : ∀ r, r ≠ 178 → μ10 r = μ r := fun r hr => by rw [eμ10, pm_up_row hr]; exact o9 r hr
  have w0 : μ10 178 0 = N (88 + c) := by rw [eμ10, pm_up_ne (by decide)]; exact w0
  have w1 : μ10 178 1 = pol c := by rw [eμ10, pm_up_ne (by decide)]; exact w1
  have w2 : μ10 178 2 = N (4 + s) := by rw [eμ10, pm_up_ne (by decide)]; exact w2
  have w3 : μ10 178 3 = N (16 + s) := by rw [eμ10, pm_up_ne (by decide)]; exact w3
  have w4 : μ10 178 4 = N (28 + s) := by rw [eμ10, pm_up_ne (by decide)]; exact w4
  have w5 : μ10 178 5 = N (76 + s) := by rw [eμ10, pm_up_ne (by decide)]; exact w5
  have w6 : μ10 178 6 = N (124 + c) := by rw [eμ10, pm_up_ne (by decide)]; exact w6
  have w7 : μ10 178 7 = fa_crowd N s m.toNat := by rw [eμ10, pm_up_ne (by decide)]; exact w7
  have w8 : μ10 178 8 = N 1 := by rw [eμ10, pm_up_ne (by decide)]; exact w8
  have w9 : μ10 178 9 = N (142 + c) := by rw [eμ10, pm_up_eq, o9 15 (by decide)]; exact fa_r_bought hA0 hc.1 hc.2
  have hA := fa_A_fr hA0 (fun r h1 h2 => o10 r (by omega))
  have g18 : μ10 3 3 = μ 3 3 := by rw [eμ10, pm_up_off (by decide), eμ9, pm_up_off (by decide), eμ8, pm_up_off (by decide), eμ7, pm_up_off (by decide), eμ6, pm_up_off (by decide), eμ5, pm_up_off (by decide), eμ4, pm_up_off (by decide), eμ3, pm_up_off (by decide), eμ2, pm_up_off (by decide), eμ1, pm_up_off (by decide)]
  have f19 := zT_get hTμ10 zs3_3 (i := 3) (by omega) (by omega)
  refine pm_blk hK zmm214 [] 6 132 [(2, 177), (2, 3), (0, c), (0, s)] [] (pm_up μ10 178 10 (μ10 3 3)) [sx_bit Wm 178 = true, 0 ≤ 10 ∧ 10 < 11] rfl ⟨hb178, ⟨by omega, by omega⟩, trivial⟩ ?_
  obtain ⟨μ11, eμ11⟩ : ∃ μ', μ' = pm_up μ10 178 10 (μ10 3 3) := ⟨_, rfl⟩
  rw [← eμ11]
  have hTμ11 : zTJ φ μ11 := by rw [eμ11]; exact zT_up hTμ10 zs178_0 rfl (i := 10) (by omega) (by omega) (by omega) (by omega)
  have o11 : ∀ r, r ≠ 178 → μ11 r = μ r := fun r hr => by rw [eμ11, pm_up_row hr]; exact o10 r hr
  have w0 : μ11 178 0 = N (88 + c) := by rw [eμ11, pm_up_ne (by decide)]; exact w0
  have w1 : μ11 178 1 = pol c := by rw [eμ11, pm_up_ne (by decide)]; exact w1
  have w2 : μ11 178 2 = N (4 + s) := by rw [eμ11, pm_up_ne (by decide)]; exact w2
  have w3 : μ11 178 3 = N (16 + s) := by rw [eμ11, pm_up_ne (by decide)]; exact w3
  have w4 : μ11 178 4 = N (28 + s) := by rw [eμ11, pm_up_ne (by decide)]; exact w4
  have w5 : μ11 178 5 = N (76 + s) := by rw [eμ11, pm_up_ne (by decide)]; exact w5
  have w6 : μ11 178 6 = N (124 + c) := by rw [eμ11, pm_up_ne (by decide)]; exact w6
  have w7 : μ11 178 7 = fa_crowd N s m.toNat := by rw [eμ11, pm_up_ne (by decide)]; exact w7
  have w8 : μ11 178 8 = N 1 := by rw [eμ11, pm_up_ne (by decide)]; exact w8
  have w9 : μ11 178 9 = N (142 + c) := by rw [eμ11, pm_up_ne (by decide)]; exact w9
  have w10 : μ11 178 10 = N 0 := by rw [eμ11, pm_up_eq, o10 3 (by decide)]; exact hA0.1.2.2.2.1
  have hA := fa_A_fr hA0 (fun r h1 h2 => o11 r (by omega))
  refine pm_vret rfl rfl ⟨rfl, hTμ11, fun i i0 i1 => ?_, o11⟩
  have hh : i = 0 ∨ i = 1 ∨ i = 2 ∨ i = 3 ∨ i = 4 ∨ i = 5 ∨ i = 6 ∨ i = 7 ∨ i = 8 ∨ i = 9 ∨ i = 10 := by omega
  rcases hh with rfl | rfl | rfl | rfl | rfl | rfl | rfl | rfl | rfl | rfl | rfl
  · exact w0
  · exact w1
  · exact w2
  · exact w3
  · exact w4
  · exact w5
  · exact w6
  · exact w7
  · exact w8
  · exact w9
  · exact w10
set_option maxRecDepth 100000 in
theorem fc_asl3 (hK : zKK ST) {X : Nat → List pm_V → List pm_V → pm_Mem → Prop} {μ0 : pm_Mem} {w c s x : Int} {ls : List (Int × List zIw × List zIw)} (hl16 : μ0 17 2 ≤ 16) (hb179 : sx_bit Wm 179 = true) (K : ∀ (x1 : Int) (μ : pm_Mem), x1 = fv_tell (μ0 178) (w - 300) ls x → zTJ φ μ → (∀ r, r ≠ 179 → μ r = μ0 r) → zW D Wm ST b0 l Sg zM213 bud X 125 [(2, 177), (2, 17), (2, 3), (0, w), (0, c), (0, s), (0, x1), (9, 0), (9, 0), (9, 0)] [] μ) (hbd : 2 ≤ bud.1 ∧ 49 ≤ bud.2.1) : ∀ (nM : Nat) {line : Int} {μ : pm_Mem}, (16 - line).toNat = nM → ∀ (hl : 0 ≤ line ∧ line ≤ μ0 17 2) (hfr : ∀ r, r ≠ 179 → μ r = μ0 r) (hr : fc_rest (μ0 178) (μ0 17 2) (μ0 18) (μ0 19) (w - 300) line ls) (hT : zTJ φ μ), zW D Wm ST b0 l Sg zM213 bud X 43 [(2, 177), (2, 17), (2, 3), (0, w), (0, c), (0, s), (0, x), (0, line), (9, 0), (9, 0)] [] μ := by
  intro nM
  induction nM using Nat.strongRecOn with
  | ind nM ih =>
    intro line μ hn hl hfr hr hT
    have k18 : μ 18 = μ0 18 := hfr 18 (by decide)
    have g17 : μ 17 2 = μ0 17 2 := by rw [hfr 17 (by decide)]
    have g18 : μ 18 = μ0 18 := hfr 18 (by decide)
    have g19 : μ 19 = μ0 19 := hfr 19 (by decide)
    have g178 : μ 178 = μ0 178 := hfr 178 (by decide)
    have f1 := zT_get hT zs17_2 (i := 2) (by omega) (by omega)
    refine pm_blk hK zmm213 [] 3 49 [(2, 177), (2, 17), (2, 3), (0, w), (0, c), (0, s), (0, x), (0, line), (9, 0), (9, 0)] [(0, μ 17 2), (0, line)] μ [] rfl trivial ?_
    refine pm_icmp hK zmm213 .ge 76 125 rfl rfl (fun h0 => ?_) (fun h0 => ?_)
    · have h0 : μ 17 2 ≤ line := h0
      refine pm_hide [7] ?_
      first
      | exact K _ _ (hu1 _).symm hT hfr
      | exact K _ _ (fc_rest_e hr (by omega) _).symm hT hfr
      | (exfalso; omega)
    · have h0 : line < μ 17 2 := h0
      have hbb := fc_rest_b hr (by omega)
      rw [← g18] at hbb
      refine pm_blk hK zmm213 [] 3 56 [(2, 177), (2, 17), (2, 3), (0, w), (0, c), (0, s), (0, x), (0, line), (9, 0), (9, 0)] [(0, 2), (0, line), (2, 17)] μ [] rfl trivial ?_
      refine pm_call hK zmm213 (41, 0, 219, 2) zM219 (1, 22) [(2, 17), (0, line), (0, 2)] [] rfl rfl rfl rfl ⟨by omega, by rw [zn219]; omega⟩ (fc_cell17 hK (a := line) (c := 2) ⟨by omega, by omega⟩ ⟨by omega, by omega⟩ ⟨Nat.le_refl _, Nat.le_refl _⟩) (fun st1 μc1 hp1 => ?_)
      obtain ⟨rfl, rfl⟩ := hp1
      refine pm_blk hK zmm213 [] 4 65 [(2, 177), (2, 17), (2, 3), (0, w), (0, c), (0, s), (0, x), (0, line), (0, μ 18 (line * 4 + 2)), (9, 0)] [(0, 3), (0, line), (2, 17)] μ [] rfl trivial ?_
      refine pm_call hK zmm213 (41, 0, 219, 2) zM219 (1, 22) [(2, 17), (0, line), (0, 3)] [] rfl rfl rfl rfl ⟨by omega, by rw [zn219]; omega⟩ (fc_cell17 hK (a := line) (c := 3) ⟨by omega, by omega⟩ ⟨by omega, by omega⟩ ⟨Nat.le_refl _, Nat.le_refl _⟩) (fun st2 μc2 hp2 => ?_)
      obtain ⟨rfl, rfl⟩ := hp2
      refine pm_blk hK zmm213 [] 4 74 [(2, 177), (2, 17), (2, 3), (0, w), (0, c), (0, s), (0, x), (0, line), (0, μ 18 (line * 4 + 2)), (0, μ 18 (line * 4 + 3))] [(0, 0), (0, line), (2, 17)] μ [] rfl trivial ?_
      refine pm_call hK zmm213 (41, 0, 219, 2) zM219 (1, 22) [(2, 17), (0, line), (0, 0)] [] rfl rfl rfl rfl ⟨by omega, by rw [zn219]; omega⟩ (fc_cell17 hK (a := line) (c := 0) ⟨by omega, by omega⟩ ⟨by omega, by omega⟩ ⟨Nat.le_refl _, Nat.le_refl _⟩) (fun st3 μc3 hp3 => ?_)
      obtain ⟨rfl, rfl⟩ := hp3
      refine pm_blk hK zmm213 [] 1 78 [(2, 177), (2, 17), (2, 3), (0, w), (0, c), (0, s), (0, x), (0, line), (0, μ 18 (line * 4 + 2)), (0, μ 18 (line * 4 + 3))] [(0, w), (0, μ 18 (line * 4 + 0))] μ [] rfl trivial ?_
      refine pm_icmp hK zmm213 .ne 41 119 rfl rfl (fun h1 => ?_) (fun h1 => ?_)
      · have h1 : μ 18 (line * 4 + 0) ≠ w := h1
        refine pm_blk hK zmm213 [] 2 43 [(2, 177), (2, 17), (2, 3), (0, w), (0, c), (0, s), (0, x), (0, line + 1), (0, μ 18 (line * 4 + 2)), (0, μ 18 (line * 4 + 3))] [] μ [pm_in (line + 1)] rfl ⟨pm_in_mk (by omega) (by omega), trivial⟩ ?_
        refine pm_hide [8, 9] ?_
        first
        | exact ih _ (by omega) rfl ⟨by omega, by omega⟩ hfr (fc_rest_w hr (by omega) (by rw [← g18]; omega)) hT
        | exact ih _ (by omega) rfl ⟨by omega, by omega⟩ hfr (hv2 (by omega)) hT
        | (exfalso; omega)
      · have h1 : μ 18 (line * 4 + 0) = w := h1
        refine pm_blk hK zmm213 [] 2 85 [(2, 177), (2, 17), (2, 3), (0, w), (0, c), (0, s), (0, x), (0, line), (0, μ 18 (line * 4 + 2)), (0, μ 18 (line * 4 + 3))] [(0, μ 18 (line * 4 + 3)), (0, μ 18 (line * 4 + 2))] μ [] rfl trivial ?_
        refine pm_icmp hK zmm213 .eq 15 100 rfl rfl (fun h2 => ?_) (fun h2 => ?_)
        · have h2 : μ 18 (line * 4 + 2) = μ 18 (line * 4 + 3) := h2
          refine pm_blk hK zmm213 [] 5 106 [(2, 177), (2, 17), (2, 3), (0, w), (0, c), (0, s), (0, x), (0, line), (0, μ 18 (line * 4 + 2)), (0, μ 18 (line * 4 + 3))] [(0, 1), (0, line), (2, 17), (2, 17), (2, 177)] μ [] rfl trivial ?_
          refine pm_call hK zmm213 (41, 0, 219, 2) zM219 (1, 22) [(2, 17), (0, line), (0, 1)] [(2, 17), (2, 177)] rfl rfl rfl rfl ⟨by omega, by rw [zn219]; omega⟩ (fc_cell17 hK (a := line) (c := 1) ⟨by omega, by omega⟩ ⟨by omega, by omega⟩ ⟨Nat.le_refl _, Nat.le_refl _⟩) (fun st4 μc4 hp4 => ?_)
          obtain ⟨rfl, rfl⟩ := hp4
          refine pm_blk hK zmm213 [] 1 111 [(2, 177), (2, 17), (2, 3), (0, w), (0, c), (0, s), (0, x), (0, line), (0, μ 18 (line * 4 + 2)), (0, μ 18 (line * 4 + 3))] [(0, μ 18 (line * 4 + 2)), (0, μ 18 (line * 4 + 1)), (2, 17), (2, 177)] μ [] rfl trivial ?_
          obtain ⟨u, hu1, hu2⟩ : ∃ u : Int, (∀ o : Int, fv_tell (μ0 178) (w - 300) ls o = u) ∧ ∀ R, fc_ok (μ0 178) (μ0 19) R 0 (μ0 18 (line * 4 + 1)) (μ0 18 (line * 4 + 2)) u := by
            first
            | exact hv3 (by omega)
            | exact fc_rest_f hr (by omega) (by rw [← g18]; omega) (by rw [← g18]; omega)
            | (exfalso; omega)
          refine pm_call hK zmm213 (45, 0, 220, 3) zM220 (1, 22) [(2, 177), (2, 17), (0, μ 18 (line * 4 + 1)), (0, μ 18 (line * 4 + 2))] [] rfl rfl rfl rfl ⟨by omega, by rw [zn220]; omega⟩ (fc_reck hK (a := (μ 18 (line * 4 + 1))) (b := (μ 18 (line * 4 + 2))) ⟨by omega, by omega⟩ (by omega) (by first | (rw [g178, g19, g18, k18]; exact hu2 _) | (rw [g178, g19, g18]; exact hu2 _)) hT hb179 ⟨Nat.le_refl _, Nat.le_refl _⟩) (fun st5 μc5 hp5 => ?_)
          obtain ⟨rfl, hTc5, hf5⟩ := hp5
          have hfr := fun r (h9 : r ≠ 179) => (hf5 r h9).trans (hfr r h9)
          refine pm_blk hK zmm213 [] 2 125 [(2, 177), (2, 17), (2, 3), (0, w), (0, c), (0, s), (0, u), (0, line), (0, μ 18 (line * 4 + 2)), (0, μ 18 (line * 4 + 3))] [] μc5 [] rfl trivial ?_
          refine pm_hide [7, 8, 9] ?_
          first
          | exact K _ _ (hu1 _).symm hTc5 hfr
          | exact K _ _ (fc_rest_e hr (by omega) _).symm hTc5 hfr
          | (exfalso; omega)
        · have h2 : μ 18 (line * 4 + 2) ≠ μ 18 (line * 4 + 3) := h2
          refine pm_blk hK zmm213 [] 4 94 [(2, 177), (2, 17), (2, 3), (0, w), (0, c), (0, s), (0, x), (0, line), (0, μ 18 (line * 4 + 2)), (0, μ 18 (line * 4 + 3))] [(0, μ 18 (line * 4 + 3)), (0, μ 18 (line * 4 + 2)), (2, 17), (2, 177)] μ [] rfl trivial ?_
          obtain ⟨v1, hv1, hv2, hv3⟩ := fc_rest_q hr (by omega) (by rw [← g18]; omega) (by rw [← g18]; omega)
          refine pm_call hK zmm213 (45, 0, 220, 3) zM220 (1, 22) [(2, 177), (2, 17), (0, μ 18 (line * 4 + 2)), (0, μ 18 (line * 4 + 3))] [] rfl rfl rfl rfl ⟨by omega, by rw [zn220]; omega⟩ (fc_reck hK (a := (μ 18 (line * 4 + 2))) (b := (μ 18 (line * 4 + 3))) ⟨by omega, by omega⟩ (by omega) (by rw [g178, g19, g18]; exact hv1 _) hT hb179 ⟨Nat.le_refl _, Nat.le_refl _⟩) (fun st6 μc6 hp6 => ?_)
          obtain ⟨rfl, hTc6, hf6⟩ := hp6
          have hfr := fun r (h9 : r ≠ 179) => (hf6 r h9).trans (hfr r h9)
          have g18 : μc6 18 = μ0 18 := hfr 18 (by decide)
          have g19 : μc6 19 = μ0 19 := hfr 19 (by decide)
          have g178 : μc6 178 = μ0 178 := hfr 178 (by decide)
          have q18 : μc6 18 (line * 4 + 1) = μ 18 (line * 4 + 1) := by rw [g18, k18]
          refine pm_if hK zmm213 .eq 22 119 rfl rfl (fun h3 => ?_) (fun h3 => ?_)
          · have h3 : v1 = (0 : Int) := h3
            refine pm_blk hK zmm213 [] 2 43 [(2, 177), (2, 17), (2, 3), (0, w), (0, c), (0, s), (0, x), (0, line + 1), (0, μ 18 (line * 4 + 2)), (0, μ 18 (line * 4 + 3))] [] μc6 [pm_in (line + 1)] rfl ⟨pm_in_mk (by omega) (by omega), trivial⟩ ?_
            refine pm_hide [8, 9] ?_
            first
            | exact ih _ (by omega) rfl ⟨by omega, by omega⟩ hfr (fc_rest_w hr (by omega) (by rw [← g18]; omega)) hTc6
            | exact ih _ (by omega) rfl ⟨by omega, by omega⟩ hfr (hv2 (by omega)) hTc6
            | (exfalso; omega)
          · have h3 : v1 ≠ (0 : Int) := h3
            refine pm_blk hK zmm213 [] 5 106 [(2, 177), (2, 17), (2, 3), (0, w), (0, c), (0, s), (0, x), (0, line), (0, μ 18 (line * 4 + 2)), (0, μ 18 (line * 4 + 3))] [(0, 1), (0, line), (2, 17), (2, 17), (2, 177)] μc6 [] rfl trivial ?_
            refine pm_call hK zmm213 (41, 0, 219, 2) zM219 (1, 22) [(2, 17), (0, line), (0, 1)] [(2, 17), (2, 177)] rfl rfl rfl rfl ⟨by omega, by rw [zn219]; omega⟩ (fc_cell17 hK (a := line) (c := 1) ⟨by omega, by omega⟩ ⟨by omega, by omega⟩ ⟨Nat.le_refl _, Nat.le_refl _⟩) (fun st7 μc7 hp7 => ?_)
            obtain ⟨rfl, rfl⟩ := hp7
            refine pm_blk hK zmm213 [] 1 111 [(2, 177), (2, 17), (2, 3), (0, w), (0, c), (0, s), (0, x), (0, line), (0, μ 18 (line * 4 + 2)), (0, μ 18 (line * 4 + 3))] [(0, μ 18 (line * 4 + 2)), (0, μc6 18 (line * 4 + 1)), (2, 17), (2, 177)] μc6 [] rfl trivial ?_
            obtain ⟨u, hu1, hu2⟩ : ∃ u : Int, (∀ o : Int, fv_tell (μ0 178) (w - 300) ls o = u) ∧ ∀ R, fc_ok (μ0 178) (μ0 19) R 0 (μ0 18 (line * 4 + 1)) (μ0 18 (line * 4 + 2)) u := by
              first
              | exact hv3 (by omega)
              | exact fc_rest_f hr (by omega) (by rw [← g18]; omega) (by rw [← g18]; omega)
              | (exfalso; omega)
            refine pm_call hK zmm213 (45, 0, 220, 3) zM220 (1, 22) [(2, 177), (2, 17), (0, μc6 18 (line * 4 + 1)), (0, μ 18 (line * 4 + 2))] [] rfl rfl rfl rfl ⟨by omega, by rw [zn220]; omega⟩ (fc_reck hK (a := (μc6 18 (line * 4 + 1))) (b := (μ 18 (line * 4 + 2))) ⟨by omega, by omega⟩ (by omega) (by first | (rw [g178, g19, g18, k18]; exact hu2 _) | (rw [g178, g19, g18]; exact hu2 _)) hTc6 hb179 ⟨Nat.le_refl _, Nat.le_refl _⟩) (fun st8 μc8 hp8 => ?_)
            obtain ⟨rfl, hTc8, hf8⟩ := hp8
            have hfr := fun r (h9 : r ≠ 179) => (hf8 r h9).trans (hfr r h9)
            refine pm_blk hK zmm213 [] 2 125 [(2, 177), (2, 17), (2, 3), (0, w), (0, c), (0, s), (0, u), (0, line), (0, μ 18 (line * 4 + 2)), (0, μ 18 (line * 4 + 3))] [] μc8 [] rfl trivial ?_
            refine pm_hide [7, 8, 9] ?_
            first
            | exact K _ _ (hu1 _).symm hTc8 hfr
            | exact K _ _ (fc_rest_e hr (by omega) _).symm hTc8 hfr
            | (exfalso; omega)
set_option maxRecDepth 100000 in
theorem fc_asked3 (hK : zKK ST) {w c s : Int} (hT : zTJ φ μ) {N pol : Int → Int} {n m : Int} (hA : fa_A 3 n m N pol μ) (hn0 : 0 ≤ n) (hm0 : 0 ≤ m) (hq : n ≤ 12 ∧ m ≤ 18) {ls : List (Int × List zIw × List zIw)} (hL : fc_L (μ 17 2) (μ 18) (μ 19) 0 ls) (hl16 : μ 17 2 ≤ 16) (hw : w = 300 ∨ w = 301 ∨ w = 302) (hc : 0 ≤ c ∧ c < m) (hs : 0 ≤ s ∧ s < n) (hb178 : sx_bit Wm 178 = true) (hb179 : sx_bit Wm 179 = true) (hbd : 3 ≤ bud.1 ∧ 67 ≤ bud.2.1) : zC D Wm ST b0 l Sg zM213 bud [(2, 177), (2, 17), (2, 3), (0, w), (0, c), (0, s)] μ (fun st' μ' => st' = [(0, fa_ask (fr_law ls) N pol m w c s)] ∧ zTJ φ μ' ∧ (∀ r, r ≠ 178 → r ≠ 179 → μ' r = μ r)) := by
  have a0 := hA.1.1
  have a1 := hA.1.2.1
  refine pm_blk hK zmm213 [] 2 3 [(2, 177), (2, 17), (2, 3), (0, w), (0, c), (0, s), (9, 0), (9, 0), (9, 0), (9, 0)] [(0, c), (2, 3)] μ [] rfl trivial ?_
  refine pm_call hK zmm213 (18, 0, 23, 1) zM23 (0, 0) [(2, 3), (0, c)] [] rfl rfl rfl rfl ⟨by omega, by rw [zn23]; omega⟩ (fc_isCustomer3 hK (s := c) ⟨Nat.le_refl _, Nat.le_refl _⟩) (fun st1 μc1 hp1 => ?_)
  obtain ⟨rfl, rfl⟩ := hp1
  refine pm_if hK zmm213 .eq 12 18 rfl rfl (fun h0 => ?_) (fun h0 => ?_)
  · have h0 : (if 0 ≤ (c) ∧ (c) < μ 3 1 then 1 else 0 : Int) = (0 : Int) := h0
    have h0 := zif0 h0
    refine pm_blk hK zmm213 [] 1 19 [(2, 177), (2, 17), (2, 3), (0, w), (0, c), (0, s), (9, 0), (9, 0), (9, 0), (9, 0)] [(0, 0)] μ [] rfl trivial ?_
    exfalso
    omega
  · have h0 : (if 0 ≤ (c) ∧ (c) < μ 3 1 then 1 else 0 : Int) ≠ (0 : Int) := h0
    have h0 := zif1 h0
    refine pm_blk hK zmm213 [] 2 12 [(2, 177), (2, 17), (2, 3), (0, w), (0, c), (0, s), (9, 0), (9, 0), (9, 0), (9, 0)] [(0, s), (2, 3)] μ [] rfl trivial ?_
    refine pm_call hK zmm213 (24, 0, 22, 1) zM22 (0, 0) [(2, 3), (0, s)] [] rfl rfl rfl rfl ⟨by omega, by rw [zn22]; omega⟩ (fc_isShop3 hK (s := s) ⟨Nat.le_refl _, Nat.le_refl _⟩) (fun st2 μc2 hp2 => ?_)
    obtain ⟨rfl, rfl⟩ := hp2
    refine pm_if hK zmm213 .ne 5 20 rfl rfl (fun h1 => ?_) (fun h1 => ?_)
    · have h1 : (if 0 ≤ (s) ∧ (s) < μ 3 0 then 1 else 0 : Int) ≠ (0 : Int) := h1
      have h1 := zif1 h1
      refine pm_blk hK zmm213 [] 4 26 [(2, 177), (2, 17), (2, 3), (0, w), (0, c), (0, s), (9, 0), (9, 0), (9, 0), (9, 0)] [(0, s), (0, c), (2, 3), (2, 177)] μ [] rfl trivial ?_
      refine pm_call hK zmm213 (27, 0, 214, 3) zM214 (2, 44) [(2, 177), (2, 3), (0, c), (0, s)] [] rfl rfl rfl rfl ⟨by omega, by rw [zn214]; omega⟩ (fc_gath3 hK (c := c) (s := s) hT hA hn0 hm0 hq hc hs hb178 ⟨Nat.le_refl _, Nat.le_refl _⟩) (fun st3 μc3 hp3 => ?_)
      obtain ⟨rfl, hTc3, hw3, hf3⟩ := hp3
      have hwd := hw3
      have hfg := hf3
      have hA1 := fa_A_fr hA (fun r h1 h2 => hfg r (by omega))
      have e17 := hfg 17 (by decide)
      have e18 := hfg 18 (by decide)
      have e19 := hfg 19 (by decide)
      refine pm_blk hK zmm213 [] 4 35 [(2, 177), (2, 17), (2, 3), (0, w), (0, c), (0, s), (9, 0), (9, 0), (9, 0), (9, 0)] [(0, s), (0, c), (0, w), (2, 3)] μc3 [] rfl trivial ?_
      refine pm_call hK zmm213 (31, 1, 218, 4) zM218 (0, 0) [(2, 3), (0, w), (0, c), (0, s)] [] rfl rfl rfl rfl ⟨by omega, by rw [zn218]; omega⟩ (fc_unt3 hK (w := w) (c := c) (s := s) hTc3 hA1 hn0 hm0 hq hc hs ⟨Nat.le_refl _, Nat.le_refl _⟩) (fun st4 μc4 hp4 => ?_)
      obtain ⟨rfl, rfl⟩ := hp4
      refine pm_blk hK zmm213 [] 3 43 [(2, 177), (2, 17), (2, 3), (0, w), (0, c), (0, s), (0, fa_unt N pol w c s), (0, 0), (9, 0), (9, 0)] [] μc3 [] rfl trivial ?_
      have hl0 : (0 : Int) ≤ μc3 17 2 := by rw [e17]; exact fc_L_0 hL
      refine fc_asl3 hK (μ0 := μc3) (ls := ls) (by rw [e17]; exact hl16) hb179 (fun x1 μ2 hx1 hT2 hf2 => ?_) ⟨by omega, by omega⟩ _ (line := 0) rfl ⟨by omega, hl0⟩ (fun r _ => rfl) (by rw [e17, e18, e19]; exact fc_rest_0 hL) hTc3
      refine pm_blk hK zmm213 [] 4 132 [(2, 177), (2, 17), (2, 3), (0, w), (0, c), (0, s), (0, x1), (9, 0), (9, 0), (9, 0)] [(0, 302), (0, w), (0, x1), (0, 0)] μ2 [] rfl trivial ?_
      refine pm_icmp hK zmm213 .ne 9 141 rfl rfl (fun hy0 => ?_) (fun hy0 => ?_)
      · have hy0 : w ≠ (302 : Int) := hy0
        refine pm_blk hK zmm213 [] 1 144 [(2, 177), (2, 17), (2, 3), (0, w), (0, c), (0, s), (0, x1), (9, 0), (9, 0), (9, 0)] [(0, 1000), (0, x1), (0, 0)] μ2 [] rfl trivial ?_
        refine pm_call hK zmm213 (49, 1, 30, 2) zM30 (0, 0) [(0, x1), (0, 1000)] [(0, 0)] rfl rfl rfl rfl ⟨by omega, by rw [zn30]; omega⟩ (zh_min hK ⟨Nat.le_refl _, Nat.le_refl _⟩) (fun sty1 μcy1 hpy1 => ?_)
        obtain ⟨rfl, rfl⟩ := hpy1
        refine pm_call hK zmm213 (54, 1, 34, 2) zM34 (0, 0) [(0, 0), (0, min x1 1000)] [] rfl rfl rfl rfl ⟨by omega, by rw [zn34]; omega⟩ (zh_max hK ⟨Nat.le_refl _, Nat.le_refl _⟩) (fun sty2 μcy2 hpy2 => ?_)
        obtain ⟨rfl, rfl⟩ := hpy2
        have he := fa_ask_e (x := x1) hL hwd hw hx1
        first
        | exact pm_iret rfl rfl ⟨by rw [← he, if_pos (by omega)], hT2, fun r h1 h2 => (hf2 r h2).trans (hfg r h1)⟩
        | exact pm_iret rfl rfl ⟨by rw [← he, if_neg (by omega)], hT2, fun r h1 h2 => (hf2 r h2).trans (hfg r h1)⟩
        | (exfalso; omega)
      · have hy0 : w = (302 : Int) := hy0
        refine pm_blk hK zmm213 [] 2 144 [(2, 177), (2, 17), (2, 3), (0, w), (0, c), (0, s), (0, x1), (9, 0), (9, 0), (9, 0)] [(0, 999), (0, x1), (0, 0)] μ2 [] rfl trivial ?_
        refine pm_call hK zmm213 (49, 1, 30, 2) zM30 (0, 0) [(0, x1), (0, 999)] [(0, 0)] rfl rfl rfl rfl ⟨by omega, by rw [zn30]; omega⟩ (zh_min hK ⟨Nat.le_refl _, Nat.le_refl _⟩) (fun sty3 μcy3 hpy3 => ?_)
        obtain ⟨rfl, rfl⟩ := hpy3
        refine pm_call hK zmm213 (54, 1, 34, 2) zM34 (0, 0) [(0, 0), (0, min x1 999)] [] rfl rfl rfl rfl ⟨by omega, by rw [zn34]; omega⟩ (zh_max hK ⟨Nat.le_refl _, Nat.le_refl _⟩) (fun sty4 μcy4 hpy4 => ?_)
        obtain ⟨rfl, rfl⟩ := hpy4
        have he := fa_ask_e (x := x1) hL hwd hw hx1
        first
        | exact pm_iret rfl rfl ⟨by rw [← he, if_pos (by omega)], hT2, fun r h1 h2 => (hf2 r h2).trans (hfg r h1)⟩
        | exact pm_iret rfl rfl ⟨by rw [← he, if_neg (by omega)], hT2, fun r h1 h2 => (hf2 r h2).trans (hfg r h1)⟩
        | (exfalso; omega)
    · have h1 : (if 0 ≤ (s) ∧ (s) < μ 3 0 then 1 else 0 : Int) = (0 : Int) := h1
      have h1 := zif0 h1
      refine pm_blk hK zmm213 [] 1 19 [(2, 177), (2, 17), (2, 3), (0, w), (0, c), (0, s), (9, 0), (9, 0), (9, 0), (9, 0)] [(0, 0)] μ [] rfl trivial ?_
      exfalso
      omega
set_option maxRecDepth 100000 in
theorem fc_unt182 (hK : zKK ST) {w c s : Int} (hT : zTJ φ μ) {N pol : Int → Int} {n m : Int} (hA : fa_A 182 n m N pol μ) (hn0 : 0 ≤ n) (hm0 : 0 ≤ m) (hq : n ≤ 12 ∧ m ≤ 18) (hc : 0 ≤ c ∧ c < m) (hs : 0 ≤ s ∧ s < n) (hbd : 0 ≤ bud.1 ∧ 0 ≤ bud.2.1) : zC D Wm ST b0 l Sg zM218 bud [(2, 182), (0, w), (0, c), (0, s)] μ (fun st' μ' => μ = μ' ∧ st' = [(0, fa_unt N pol w c s)]) := by
  have a2 := hA.1.2.2.1
  have rp : μ 191 c = pol c := fa_r_polite hA hc.1 hc.2
  have rr : μ 184 s = N (16 + s) := fa_r_price hA hs.1 hs.2
  refine pm_blk hK zmm218 [] 2 4 [(2, 182), (0, w), (0, c), (0, s)] [(0, 300), (0, w)] μ [] rfl trivial ?_
  refine pm_icmp hK zmm218 .ne 15 19 rfl rfl (fun h0 => ?_) (fun h0 => ?_)
  · have h0 : w ≠ (300 : Int) := h0
    refine pm_blk hK zmm218 [] 2 23 [(2, 182), (0, w), (0, c), (0, s)] [(0, 301), (0, w)] μ [] rfl trivial ?_
    refine pm_icmp hK zmm218 .ne 15 38 rfl rfl (fun h1 => ?_) (fun h1 => ?_)
    · have h1 : w ≠ (301 : Int) := h1
      have f1 := zT_get hT zs184_0 (i := s) (by omega) (by omega)
      refine pm_blk hK zmm218 [] 4 44 [(2, 182), (0, w), (0, c), (0, s)] [(0, μ 184 s)] μ [0 ≤ s ∧ s < 12] rfl ⟨⟨by omega, by omega⟩, trivial⟩ ?_
      first
      | exact pm_iret rfl rfl ⟨rfl, by unfold fa_unt; rw [if_pos (by omega), ← a2]⟩
      | exact pm_iret rfl rfl ⟨rfl, by unfold fa_unt; rw [if_neg (by omega), if_pos (by omega), ← rp]⟩
      | exact pm_iret rfl rfl ⟨rfl, by unfold fa_unt; rw [if_neg (by omega), if_neg (by omega), ← rr]⟩
      | (exfalso; omega)
    · have h1 : w = (301 : Int) := h1
      have f2 := zT_get hT zs191_0 (i := c) (by omega) (by omega)
      refine pm_blk hK zmm218 [] 7 44 [(2, 182), (0, w), (0, c), (0, s)] [(0, 100 * (μ 191 c))] μ [0 ≤ c ∧ c < 18, pm_in (100 * (μ 191 c))] rfl ⟨⟨by omega, by omega⟩, pm_in_mk (by omega) (by omega), trivial⟩ ?_
      first
      | exact pm_iret rfl rfl ⟨rfl, by unfold fa_unt; rw [if_pos (by omega), ← a2]⟩
      | exact pm_iret rfl rfl ⟨rfl, by unfold fa_unt; rw [if_neg (by omega), if_pos (by omega), ← rp]⟩
      | exact pm_iret rfl rfl ⟨rfl, by unfold fa_unt; rw [if_neg (by omega), if_neg (by omega), ← rr]⟩
      | (exfalso; omega)
  · have h0 : w = (300 : Int) := h0
    have f3 := zT_get hT zs182_2 (i := 2) (by omega) (by omega)
    refine pm_blk hK zmm218 [] 6 18 [(2, 182), (0, w), (0, c), (0, s)] [(0, 600 - (40 * (μ 182 2)))] μ [pm_in (40 * (μ 182 2)), pm_in (600 - (40 * (μ 182 2)))] rfl ⟨pm_in_mk (by omega) (by omega), pm_in_mk (by omega) (by omega), trivial⟩ ?_
    first
    | exact pm_iret rfl rfl ⟨rfl, by unfold fa_unt; rw [if_pos (by omega), ← a2]⟩
    | exact pm_iret rfl rfl ⟨rfl, by unfold fa_unt; rw [if_neg (by omega), if_pos (by omega), ← rp]⟩
    | exact pm_iret rfl rfl ⟨rfl, by unfold fa_unt; rw [if_neg (by omega), if_neg (by omega), ← rr]⟩
    | (exfalso; omega)
set_option maxRecDepth 100000 in
theorem fc_gath182 (hK : zKK ST) {c s : Int} (hT : zTJ φ μ) {N pol : Int → Int} {n m : Int} (hA : fa_A 182 n m N pol μ) (hn0 : 0 ≤ n) (hm0 : 0 ≤ m) (hq : n ≤ 12 ∧ m ≤ 18) (hc : 0 ≤ c ∧ c < m) (hs : 0 ≤ s ∧ s < n) (hb178 : sx_bit Wm 178 = true) (hbd : 2 ≤ bud.1 ∧ 44 ≤ bud.2.1) : zC D Wm ST b0 l Sg zM214 bud [(2, 177), (2, 182), (0, c), (0, s)] μ (fun st' μ' => st' = [] ∧ zTJ φ μ' ∧ (∀ i : Int, 0 ≤ i → i ≤ 10 → μ' 178 i = fa_W N pol m c s i) ∧ (∀ r, r ≠ 178 → μ' r = μ r)) := by
  have o0 : ∀ r, r ≠ 178 → μ r = μ r := fun _ _ => rfl
  have hA0 := hA
  have f1 := zT_get hT zs190_0 (i := c) (by omega) (by omega)
  refine pm_blk hK zmm214 [] 8 12 [(2, 177), (2, 182), (0, c), (0, s)] [] (pm_up μ 178 0 (μ 190 c)) [0 ≤ c ∧ c < 18, sx_bit Wm 178 = true, 0 ≤ 0 ∧ 0 < 11] rfl ⟨⟨by omega, by omega⟩, hb178, ⟨by omega, by omega⟩, trivial⟩ ?_
  obtain ⟨μ1, eμ1⟩ : ∃ μ', μ' = pm_up μ 178 0 (μ 190 c) := ⟨_, rfl⟩
  rw [← eμ1]
  have hTμ1 : zTJ φ μ1 := by rw [eμ1]; exact zT_up hT zs178_0 rfl (i := 0) (by omega) (by omega) (by omega) (by omega)
  have o1 : ∀ r, r ≠ 178 → μ1 r = μ r := fun r hr => by rw [eμ1, pm_up_row hr]
  have w0 : μ1 178 0 = N (88 + c) := by rw [eμ1, pm_up_eq, o0 190 (by decide)]; exact fa_r_purse hA0 hc.1 hc.2
  have hA := fa_A_fr hA0 (fun r h1 h2 => o1 r (by omega))
  have g2 : μ1 191 c = μ 191 c := by rw [eμ1, pm_up_off (by decide)]
  have f3 := zT_get hTμ1 zs191_0 (i := c) (by omega) (by omega)
  refine pm_blk hK zmm214 [] 8 24 [(2, 177), (2, 182), (0, c), (0, s)] [] (pm_up μ1 178 1 (μ1 191 c)) [0 ≤ c ∧ c < 18, sx_bit Wm 178 = true, 0 ≤ 1 ∧ 1 < 11] rfl ⟨⟨by omega, by omega⟩, hb178, ⟨by omega, by omega⟩, trivial⟩ ?_
  obtain ⟨μ2, eμ2⟩ : ∃ μ', μ' = pm_up μ1 178 1 (μ1 191 c) := ⟨_, rfl⟩
  rw [← eμ2]
  have hTμ2 : zTJ φ μ2 := by rw [eμ2]; exact zT_up hTμ1 zs178_0 rfl (i := 1) (by omega) (by omega) (by omega) (by omega)
  have o2 : ∀ r, r ≠ 178 → μ2 r = μ r := fun r hr => by rw [eμ2, pm_up_row hr]; exact o1 r hr
  have w0 : μ2 178 0 = N (88 + c) := by rw [eμ2, pm_up_ne (by decide)]; exact w0
  have w1 : μ2 178 1 = pol c := by rw [eμ2, pm_up_eq, o1 191 (by decide)]; exact fa_r_polite hA0 hc.1 hc.2
  have hA := fa_A_fr hA0 (fun r h1 h2 => o2 r (by omega))
  have g4 : μ2 183 s = μ 183 s := by rw [eμ2, pm_up_off (by decide), eμ1, pm_up_off (by decide)]
  have f5 := zT_get hTμ2 zs183_0 (i := s) (by omega) (by omega)
  refine pm_blk hK zmm214 [] 8 36 [(2, 177), (2, 182), (0, c), (0, s)] [] (pm_up μ2 178 2 (μ2 183 s)) [0 ≤ s ∧ s < 12, sx_bit Wm 178 = true, 0 ≤ 2 ∧ 2 < 11] rfl ⟨⟨by omega, by omega⟩, hb178, ⟨by omega, by omega⟩, trivial⟩ ?_
  obtain ⟨μ3, eμ3⟩ : ∃ μ', μ' = pm_up μ2 178 2 (μ2 183 s) := ⟨_, rfl⟩
  rw [← eμ3]
  have hTμ3 : zTJ φ μ3 := by rw [eμ3]; exact zT_up hTμ2 zs178_0 rfl (i := 2) (by omega) (by omega) (by omega) (by omega)
  have o3 : ∀ r, r ≠ 178 → μ3 r = μ r := fun r hr => by rw [eμ3, pm_up_row hr]; exact o2 r hr
  have w0 : μ3 178 0 = N (88 + c) := by rw [eμ3, pm_up_ne (by decide)]; exact w0
  have w1 : μ3 178 1 = pol c := by rw [eμ3, pm_up_ne (by decide)]; exact w1
  have w2 : μ3 178 2 = N (4 + s) := by rw [eμ3, pm_up_eq, o2 183 (by decide)]; exact fa_r_goods hA0 hs.1 hs.2
  have hA := fa_A_fr hA0 (fun r h1 h2 => o3 r (by omega))
  have g6 : μ3 184 s = μ 184 s := by rw [eμ3, pm_up_off (by decide), eμ2, pm_up_off (by decide), eμ1, pm_up_off (by decide)]
  have f7 := zT_get hTμ3 zs184_0 (i := s) (by omega) (by omega)
  refine pm_blk hK zmm214 [] 8 48 [(2, 177), (2, 182), (0, c), (0, s)] [] (pm_up μ3 178 3 (μ3 184 s)) [0 ≤ s ∧ s < 12, sx_bit Wm 178 = true, 0 ≤ 3 ∧ 3 < 11] rfl ⟨⟨by omega, by omega⟩, hb178, ⟨by omega, by omega⟩, trivial⟩ ?_
  obtain ⟨μ4, eμ4⟩ : ∃ μ', μ' = pm_up μ3 178 3 (μ3 184 s) := ⟨_, rfl⟩
  rw [← eμ4]
  have hTμ4 : zTJ φ μ4 := by rw [eμ4]; exact zT_up hTμ3 zs178_0 rfl (i := 3) (by omega) (by omega) (by omega) (by omega)
  have o4 : ∀ r, r ≠ 178 → μ4 r = μ r := fun r hr => by rw [eμ4, pm_up_row hr]; exact o3 r hr
  have w0 : μ4 178 0 = N (88 + c) := by rw [eμ4, pm_up_ne (by decide)]; exact w0
  have w1 : μ4 178 1 = pol c := by rw [eμ4, pm_up_ne (by decide)]; exact w1
  have w2 : μ4 178 2 = N (4 + s) := by rw [eμ4, pm_up_ne (by decide)]; exact w2
  have w3 : μ4 178 3 = N (16 + s) := by rw [eμ4, pm_up_eq, o3 184 (by decide)]; exact fa_r_price hA0 hs.1 hs.2
  have hA := fa_A_fr hA0 (fun r h1 h2 => o4 r (by omega))
  have g8 : μ4 185 s = μ 185 s := by rw [eμ4, pm_up_off (by decide), eμ3, pm_up_off (by decide), eμ2, pm_up_off (by decide), eμ1, pm_up_off (by decide)]
  have f9 := zT_get hTμ4 zs185_0 (i := s) (by omega) (by omega)
  refine pm_blk hK zmm214 [] 8 60 [(2, 177), (2, 182), (0, c), (0, s)] [] (pm_up μ4 178 4 (μ4 185 s)) [0 ≤ s ∧ s < 12, sx_bit Wm 178 = true, 0 ≤ 4 ∧ 4 < 11] rfl ⟨⟨by omega, by omega⟩, hb178, ⟨by omega, by omega⟩, trivial⟩ ?_
  obtain ⟨μ5, eμ5⟩ : ∃ μ', μ' = pm_up μ4 178 4 (μ4 185 s) := ⟨_, rfl⟩
  rw [← eμ5]
  have hTμ5 : zTJ φ μ5 := by rw [eμ5]; exact zT_up hTμ4 zs178_0 rfl (i := 4) (by omega) (by omega) (by omega) (by omega)
  have o5 : ∀ r, r ≠ 178 → μ5 r = μ r := fun r hr => by rw [eμ5, pm_up_row hr]; exact o4 r hr
  have w0 : μ5 178 0 = N (88 + c) := by rw [eμ5, pm_up_ne (by decide)]; exact w0
  have w1 : μ5 178 1 = pol c := by rw [eμ5, pm_up_ne (by decide)]; exact w1
  have w2 : μ5 178 2 = N (4 + s) := by rw [eμ5, pm_up_ne (by decide)]; exact w2
  have w3 : μ5 178 3 = N (16 + s) := by rw [eμ5, pm_up_ne (by decide)]; exact w3
  have w4 : μ5 178 4 = N (28 + s) := by rw [eμ5, pm_up_eq, o4 185 (by decide)]; exact fa_r_till hA0 hs.1 hs.2
  have hA := fa_A_fr hA0 (fun r h1 h2 => o5 r (by omega))
  have g10 : μ5 189 s = μ 189 s := by rw [eμ5, pm_up_off (by decide), eμ4, pm_up_off (by decide), eμ3, pm_up_off (by decide), eμ2, pm_up_off (by decide), eμ1, pm_up_off (by decide)]
  have f11 := zT_get hTμ5 zs189_0 (i := s) (by omega) (by omega)
  refine pm_blk hK zmm214 [] 8 72 [(2, 177), (2, 182), (0, c), (0, s)] [] (pm_up μ5 178 5 (μ5 189 s)) [0 ≤ s ∧ s < 12, sx_bit Wm 178 = true, 0 ≤ 5 ∧ 5 < 11] rfl ⟨⟨by omega, by omega⟩, hb178, ⟨by omega, by omega⟩, trivial⟩ ?_
  obtain ⟨μ6, eμ6⟩ : ∃ μ', μ' = pm_up μ5 178 5 (μ5 189 s) := ⟨_, rfl⟩
  rw [← eμ6]
  have hTμ6 : zTJ φ μ6 := by rw [eμ6]; exact zT_up hTμ5 zs178_0 rfl (i := 5) (by omega) (by omega) (by omega) (by omega)
  have o6 : ∀ r, r ≠ 178 → μ6 r = μ r := fun r hr => by rw [eμ6, pm_up_row hr]; exact o5 r hr
  have w0 : μ6 178 0 = N (88 + c) := by rw [eμ6, pm_up_ne (by decide)]; exact w0
  have w1 : μ6 178 1 = pol c := by rw [eμ6, pm_up_ne (by decide)]; exact w1
  have w2 : μ6 178 2 = N (4 + s) := by rw [eμ6, pm_up_ne (by decide)]; exact w2
  have w3 : μ6 178 3 = N (16 + s) := by rw [eμ6, pm_up_ne (by decide)]; exact w3
  have w4 : μ6 178 4 = N (28 + s) := by rw [eμ6, pm_up_ne (by decide)]; exact w4
  have w5 : μ6 178 5 = N (76 + s) := by rw [eμ6, pm_up_eq, o5 189 (by decide)]; exact fa_r_nights hA0 hs.1 hs.2
  have hA := fa_A_fr hA0 (fun r h1 h2 => o6 r (by omega))
  have g12 : μ6 193 c = μ 193 c := by rw [eμ6, pm_up_off (by decide), eμ5, pm_up_off (by decide), eμ4, pm_up_off (by decide), eμ3, pm_up_off (by decide), eμ2, pm_up_off (by decide), eμ1, pm_up_off (by decide)]
  have f13 := zT_get hTμ6 zs193_0 (i := c) (by omega) (by omega)
  refine pm_blk hK zmm214 [] 8 85 [(2, 177), (2, 182), (0, c), (0, s)] [] (pm_up μ6 178 6 (μ6 193 c)) [0 ≤ c ∧ c < 18, sx_bit Wm 178 = true, 0 ≤ 6 ∧ 6 < 11] rfl ⟨⟨by omega, by omega⟩, hb178, ⟨by omega, by omega⟩, trivial⟩ ?_
  obtain ⟨μ7, eμ7⟩ : ∃ μ', μ' = pm_up μ6 178 6 (μ6 193 c) := ⟨_, rfl⟩
  rw [← eμ7]
  have hTμ7 : zTJ φ μ7 := by rw [eμ7]; exact zT_up hTμ6 zs178_0 rfl (i := 6) (by omega) (by omega) (by omega) (by omega)
  have o7 : ∀ r, r ≠ 178 → μ7 r = μ r := fun r hr => by rw [eμ7, pm_up_row hr]; exact o6 r hr
  have w0 : μ7 178 0 = N (88 + c) := by rw [eμ7, pm_up_ne (by decide)]; exact w0
  have w1 : μ7 178 1 = pol c := by rw [eμ7, pm_up_ne (by decide)]; exact w1
  have w2 : μ7 178 2 = N (4 + s) := by rw [eμ7, pm_up_ne (by decide)]; exact w2
  have w3 : μ7 178 3 = N (16 + s) := by rw [eμ7, pm_up_ne (by decide)]; exact w3
  have w4 : μ7 178 4 = N (28 + s) := by rw [eμ7, pm_up_ne (by decide)]; exact w4
  have w5 : μ7 178 5 = N (76 + s) := by rw [eμ7, pm_up_ne (by decide)]; exact w5
  have w6 : μ7 178 6 = N (124 + c) := by rw [eμ7, pm_up_eq, o6 193 (by decide)]; exact fa_r_poles hA0 hc.1 hc.2
  have hA := fa_A_fr hA0 (fun r h1 h2 => o7 r (by omega))
  refine pm_blk hK zmm214 [] 5 93 [(2, 177), (2, 182), (0, c), (0, s)] [(0, s), (2, 182), (0, 7), (2, 178)] μ7 [] rfl trivial ?_
  refine pm_call hK zmm214 (81, 0, 215, 1) zM215 (1, 23) [(2, 182), (0, s)] [(0, 7), (2, 178)] rfl rfl rfl rfl ⟨by omega, by rw [zn215]; omega⟩ (fc_crowd182 hK (s := s) hTμ7 hA hn0 hm0 hq ⟨Nat.le_refl _, Nat.le_refl _⟩) (fun st1 μc1 hp1 => ?_)
  obtain ⟨rfl, rfl⟩ := hp1
  have hcb := fa_crowd_b N (s) m.toNat
  refine pm_blk hK zmm214 [] 1 97 [(2, 177), (2, 182), (0, c), (0, s)] [] (pm_up μ7 178 7 (fa_crowd N (s) m.toNat)) [sx_bit Wm 178 = true, 0 ≤ 7 ∧ 7 < 11] rfl ⟨hb178, ⟨by omega, by omega⟩, trivial⟩ ?_
  obtain ⟨μ8, eμ8⟩ : ∃ μ', μ' = pm_up μ7 178 7 (fa_crowd N (s) m.toNat) := ⟨_, rfl⟩
  rw [← eμ8]
  have hTμ8 : zTJ φ μ8 := by rw [eμ8]; exact zT_up hTμ7 zs178_0 rfl (i := 7) (by omega) (by omega) (by omega) (by omega)
  have o8 : ∀ r, r ≠ 178 → μ8 r = μ r := fun r hr => by rw [eμ8, pm_up_row hr]; exact o7 r hr
  have w0 : μ8 178 0 = N (88 + c) := by rw [eμ8, pm_up_ne (by decide)]; exact w0
  have w1 : μ8 178 1 = pol c := by rw [eμ8, pm_up_ne (by decide)]; exact w1
  have w2 : μ8 178 2 = N (4 + s) := by rw [eμ8, pm_up_ne (by decide)]; exact w2
  have w3 : μ8 178 3 = N (16 + s) := by rw [eμ8, pm_up_ne (by decide)]; exact w3
  have w4 : μ8 178 4 = N (28 + s) := by rw [eμ8, pm_up_ne (by decide)]; exact w4
  have w5 : μ8 178 5 = N (76 + s) := by rw [eμ8, pm_up_ne (by decide)]; exact w5
  have w6 : μ8 178 6 = N (124 + c) := by rw [eμ8, pm_up_ne (by decide)]; exact w6
  have w7 : μ8 178 7 = fa_crowd N s m.toNat := by rw [eμ8, pm_up_eq]
  have hA := fa_A_fr hA0 (fun r h1 h2 => o8 r (by omega))
  have g14 : μ8 182 2 = μ 182 2 := by rw [eμ8, pm_up_off (by decide), eμ7, pm_up_off (by decide), eμ6, pm_up_off (by decide), eμ5, pm_up_off (by decide), eμ4, pm_up_off (by decide), eμ3, pm_up_off (by decide), eμ2, pm_up_off (by decide), eμ1, pm_up_off (by decide)]
  have f15 := zT_get hTμ8 zs182_2 (i := 2) (by omega) (by omega)
  refine pm_blk hK zmm214 [] 6 108 [(2, 177), (2, 182), (0, c), (0, s)] [] (pm_up μ8 178 8 (μ8 182 2)) [sx_bit Wm 178 = true, 0 ≤ 8 ∧ 8 < 11] rfl ⟨hb178, ⟨by omega, by omega⟩, trivial⟩ ?_
  obtain ⟨μ9, eμ9⟩ : ∃ μ', μ' = pm_up μ8 178 8 (μ8 182 2) := ⟨_, rfl⟩
  rw [← eμ9]
  have hTμ9 : zTJ φ μ9 := by rw [eμ9]; exact zT_up hTμ8 zs178_0 rfl (i := 8) (by omega) (by omega) (by omega) (by omega)
  have o9 : ∀ r, r ≠ 178 → μ9 r = μ r := fun r hr => by rw [eμ9, pm_up_row hr]; exact o8 r hr
  have w0 : μ9 178 0 = N (88 + c) := by rw [eμ9, pm_up_ne (by decide)]; exact w0
  have w1 : μ9 178 1 = pol c := by rw [eμ9, pm_up_ne (by decide)]; exact w1
  have w2 : μ9 178 2 = N (4 + s) := by rw [eμ9, pm_up_ne (by decide)]; exact w2
  have w3 : μ9 178 3 = N (16 + s) := by rw [eμ9, pm_up_ne (by decide)]; exact w3
  have w4 : μ9 178 4 = N (28 + s) := by rw [eμ9, pm_up_ne (by decide)]; exact w4
  have w5 : μ9 178 5 = N (76 + s) := by rw [eμ9, pm_up_ne (by decide)]; exact w5
  have w6 : μ9 178 6 = N (124 + c) := by rw [eμ9, pm_up_ne (by decide)]; exact w6
  have w7 : μ9 178 7 = fa_crowd N s m.toNat := by rw [eμ9, pm_up_ne (by decide)]; exact w7
  have w8 : μ9 178 8 = N 1 := by rw [eμ9, pm_up_eq, o8 182 (by decide)]; exact hA0.1.2.2.1
  have hA := fa_A_fr hA0 (fun r h1 h2 => o9 r (by omega))
  have g16 : μ9 194 c = μ 194 c := by rw [eμ9, pm_up_off (by decide), eμ8, pm_up_off (by decide), eμ7, pm_up_off (by decide), eμ6, pm_up_off (by decide), eμ5, pm_up_off (by decide), eμ4, pm_up_off (by decide), eμ3, pm_up_off (by decide), eμ2, pm_up_off (by decide), eμ1, pm_up_off (by decide)]
  have f17 := zT_get hTμ9 zs194_0 (i := c) (by omega) (by omega)
  refine pm_blk hK zmm214 [] 8 121 [(2, 177), (2, 182), (0, c), (0, s)] [] (pm_up μ9 178 9 (μ9 194 c)) [0 ≤ c ∧ c < 18, sx_bit Wm 178 = true, 0 ≤ 9 ∧ 9 < 11] rfl ⟨⟨by omega, by omega⟩, hb178, ⟨by omega, by omega⟩, trivial⟩ ?_
  obtain ⟨μ10, eμ10⟩ : ∃ μ', μ' = pm_up μ9 178 9 (μ9 194 c) := ⟨_, rfl⟩
  rw [← eμ10]
  have hTμ10 : zTJ φ μ10 := by rw [eμ10]; exact zT_up hTμ9 zs178_0 rfl (i := 9) (by omega) (by omega) (by omega) (by omega)
  have o10 : ∀ r, r ≠ 178 → μ10 r = μ r := fun r hr => by rw [eμ10, pm_up_row hr]; exact o9 r hr
  have w0 : μ10 178 0 = N (88 + c) := by rw [eμ10, pm_up_ne (by decide)]; exact w0
  have w1 : μ10 178 1 = pol c := by rw [eμ10, pm_up_ne (by decide)]; exact w1
  have w2 : μ10 178 2 = N (4 + s) := by rw [eμ10, pm_up_ne (by decide)]; exact w2
  have w3 : μ10 178 3 = N (16 + s) := by rw [eμ10, pm_up_ne (by decide)]; exact w3
  have w4 : μ10 178 4 = N (28 + s) := by rw [eμ10, pm_up_ne (by decide)]; exact w4
  have w5 : μ10 178 5 = N (76 + s) := by rw [eμ10, pm_up_ne (by decide)]; exact w5
  have w6 : μ10 178 6 = N (124 + c) := by rw [eμ10, pm_up_ne (by decide)]; exact w6
  have w7 : μ10 178 7 = fa_crowd N s m.toNat := by rw [eμ10, pm_up_ne (by decide)]; exact w7
  have w8 : μ10 178 8 = N 1 := by rw [eμ10, pm_up_ne (by decide)]; exact w8
  have w9 : μ10 178 9 = N (142 + c) := by rw [eμ10, pm_up_eq, o9 194 (by decide)]; exact fa_r_bought hA0 hc.1 hc.2
  have hA := fa_A_fr hA0 (fun r h1 h2 => o10 r (by omega))
  have g18 : μ10 182 3 = μ 182 3 := by rw [eμ10, pm_up_off (by decide), eμ9, pm_up_off (by decide), eμ8, pm_up_off (by decide), eμ7, pm_up_off (by decide), eμ6, pm_up_off (by decide), eμ5, pm_up_off (by decide), eμ4, pm_up_off (by decide), eμ3, pm_up_off (by decide), eμ2, pm_up_off (by decide), eμ1, pm_up_off (by decide)]
  have f19 := zT_get hTμ10 zs182_3 (i := 3) (by omega) (by omega)
  refine pm_blk hK zmm214 [] 6 132 [(2, 177), (2, 182), (0, c), (0, s)] [] (pm_up μ10 178 10 (μ10 182 3)) [sx_bit Wm 178 = true, 0 ≤ 10 ∧ 10 < 11] rfl ⟨hb178, ⟨by omega, by omega⟩, trivial⟩ ?_
  obtain ⟨μ11, eμ11⟩ : ∃ μ', μ' = pm_up μ10 178 10 (μ10 182 3) := ⟨_, rfl⟩
  rw [← eμ11]
  have hTμ11 : zTJ φ μ11 := by rw [eμ11]; exact zT_up hTμ10 zs178_0 rfl (i := 10) (by omega) (by omega) (by omega) (by omega)
  have o11 : ∀ r, r ≠ 178 → μ11 r = μ r := fun r hr => by rw [eμ11, pm_up_row hr]; exact o10 r hr
  have w0 : μ11 178 0 = N (88 + c) := by rw [eμ11, pm_up_ne (by decide)]; exact w0
  have w1 : μ11 178 1 = pol c := by rw [eμ11, pm_up_ne (by decide)]; exact w1
  have w2 : μ11 178 2 = N (4 + s) := by rw [eμ11, pm_up_ne (by decide)]; exact w2
  have w3 : μ11 178 3 = N (16 + s) := by rw [eμ11, pm_up_ne (by decide)]; exact w3
  have w4 : μ11 178 4 = N (28 + s) := by rw [eμ11, pm_up_ne (by decide)]; exact w4
  have w5 : μ11 178 5 = N (76 + s) := by rw [eμ11, pm_up_ne (by decide)]; exact w5
  have w6 : μ11 178 6 = N (124 + c) := by rw [eμ11, pm_up_ne (by decide)]; exact w6
  have w7 : μ11 178 7 = fa_crowd N s m.toNat := by rw [eμ11, pm_up_ne (by decide)]; exact w7
  have w8 : μ11 178 8 = N 1 := by rw [eμ11, pm_up_ne (by decide)]; exact w8
  have w9 : μ11 178 9 = N (142 + c) := by rw [eμ11, pm_up_ne (by decide)]; exact w9
  have w10 : μ11 178 10 = N 0 := by rw [eμ11, pm_up_eq, o10 182 (by decide)]; exact hA0.1.2.2.2.1
  have hA := fa_A_fr hA0 (fun r h1 h2 => o11 r (by omega))
  refine pm_vret rfl rfl ⟨rfl, hTμ11, fun i i0 i1 => ?_, o11⟩
  have hh : i = 0 ∨ i = 1 ∨ i = 2 ∨ i = 3 ∨ i = 4 ∨ i = 5 ∨ i = 6 ∨ i = 7 ∨ i = 8 ∨ i = 9 ∨ i = 10 := by omega
  rcases hh with rfl | rfl | rfl | rfl | rfl | rfl | rfl | rfl | rfl | rfl | rfl
  · exact w0
  · exact w1
  · exact w2
  · exact w3
  · exact w4
  · exact w5
  · exact w6
  · exact w7
  · exact w8
  · exact w9
  · exact w10
set_option maxRecDepth 100000 in
theorem fc_asl182 (hK : zKK ST) {X : Nat → List pm_V → List pm_V → pm_Mem → Prop} {μ0 : pm_Mem} {w c s x : Int} {ls : List (Int × List zIw × List zIw)} (hl16 : μ0 17 2 ≤ 16) (hb179 : sx_bit Wm 179 = true) (K : ∀ (x1 : Int) (μ : pm_Mem), x1 = fv_tell (μ0 178) (w - 300) ls x → zTJ φ μ → (∀ r, r ≠ 179 → μ r = μ0 r) → zW D Wm ST b0 l Sg zM213 bud X 125 [(2, 177), (2, 17), (2, 182), (0, w), (0, c), (0, s), (0, x1), (9, 0), (9, 0), (9, 0)] [] μ) (hbd : 2 ≤ bud.1 ∧ 49 ≤ bud.2.1) : ∀ (nM : Nat) {line : Int} {μ : pm_Mem}, (16 - line).toNat = nM → ∀ (hl : 0 ≤ line ∧ line ≤ μ0 17 2) (hfr : ∀ r, r ≠ 179 → μ r = μ0 r) (hr : fc_rest (μ0 178) (μ0 17 2) (μ0 18) (μ0 19) (w - 300) line ls) (hT : zTJ φ μ), zW D Wm ST b0 l Sg zM213 bud X 43 [(2, 177), (2, 17), (2, 182), (0, w), (0, c), (0, s), (0, x), (0, line), (9, 0), (9, 0)] [] μ := by
  intro nM
  induction nM using Nat.strongRecOn with
  | ind nM ih =>
    intro line μ hn hl hfr hr hT
    have k18 : μ 18 = μ0 18 := hfr 18 (by decide)
    have g17 : μ 17 2 = μ0 17 2 := by rw [hfr 17 (by decide)]
    have g18 : μ 18 = μ0 18 := hfr 18 (by decide)
    have g19 : μ 19 = μ0 19 := hfr 19 (by decide)
    have g178 : μ 178 = μ0 178 := hfr 178 (by decide)
    have f1 := zT_get hT zs17_2 (i := 2) (by omega) (by omega)
    refine pm_blk hK zmm213 [] 3 49 [(2, 177), (2, 17), (2, 182), (0, w), (0, c), (0, s), (0, x), (0, line), (9, 0), (9, 0)] [(0, μ 17 2), (0, line)] μ [] rfl trivial ?_
    refine pm_icmp hK zmm213 .ge 76 125 rfl rfl (fun h0 => ?_) (fun h0 => ?_)
    · have h0 : μ 17 2 ≤ line := h0
      refine pm_hide [7] ?_
      first
      | exact K _ _ (hu1 _).symm hT hfr
      | exact K _ _ (fc_rest_e hr (by omega) _).symm hT hfr
      | (exfalso; omega)
    · have h0 : line < μ 17 2 := h0
      have hbb := fc_rest_b hr (by omega)
      rw [← g18] at hbb
      refine pm_blk hK zmm213 [] 3 56 [(2, 177), (2, 17), (2, 182), (0, w), (0, c), (0, s), (0, x), (0, line), (9, 0), (9, 0)] [(0, 2), (0, line), (2, 17)] μ [] rfl trivial ?_
      refine pm_call hK zmm213 (41, 0, 219, 2) zM219 (1, 22) [(2, 17), (0, line), (0, 2)] [] rfl rfl rfl rfl ⟨by omega, by rw [zn219]; omega⟩ (fc_cell17 hK (a := line) (c := 2) ⟨by omega, by omega⟩ ⟨by omega, by omega⟩ ⟨Nat.le_refl _, Nat.le_refl _⟩) (fun st1 μc1 hp1 => ?_)
      obtain ⟨rfl, rfl⟩ := hp1
      refine pm_blk hK zmm213 [] 4 65 [(2, 177), (2, 17), (2, 182), (0, w), (0, c), (0, s), (0, x), (0, line), (0, μ 18 (line * 4 + 2)), (9, 0)] [(0, 3), (0, line), (2, 17)] μ [] rfl trivial ?_
      refine pm_call hK zmm213 (41, 0, 219, 2) zM219 (1, 22) [(2, 17), (0, line), (0, 3)] [] rfl rfl rfl rfl ⟨by omega, by rw [zn219]; omega⟩ (fc_cell17 hK (a := line) (c := 3) ⟨by omega, by omega⟩ ⟨by omega, by omega⟩ ⟨Nat.le_refl _, Nat.le_refl _⟩) (fun st2 μc2 hp2 => ?_)
      obtain ⟨rfl, rfl⟩ := hp2
      refine pm_blk hK zmm213 [] 4 74 [(2, 177), (2, 17), (2, 182), (0, w), (0, c), (0, s), (0, x), (0, line), (0, μ 18 (line * 4 + 2)), (0, μ 18 (line * 4 + 3))] [(0, 0), (0, line), (2, 17)] μ [] rfl trivial ?_
      refine pm_call hK zmm213 (41, 0, 219, 2) zM219 (1, 22) [(2, 17), (0, line), (0, 0)] [] rfl rfl rfl rfl ⟨by omega, by rw [zn219]; omega⟩ (fc_cell17 hK (a := line) (c := 0) ⟨by omega, by omega⟩ ⟨by omega, by omega⟩ ⟨Nat.le_refl _, Nat.le_refl _⟩) (fun st3 μc3 hp3 => ?_)
      obtain ⟨rfl, rfl⟩ := hp3
      refine pm_blk hK zmm213 [] 1 78 [(2, 177), (2, 17), (2, 182), (0, w), (0, c), (0, s), (0, x), (0, line), (0, μ 18 (line * 4 + 2)), (0, μ 18 (line * 4 + 3))] [(0, w), (0, μ 18 (line * 4 + 0))] μ [] rfl trivial ?_
      refine pm_icmp hK zmm213 .ne 41 119 rfl rfl (fun h1 => ?_) (fun h1 => ?_)
      · have h1 : μ 18 (line * 4 + 0) ≠ w := h1
        refine pm_blk hK zmm213 [] 2 43 [(2, 177), (2, 17), (2, 182), (0, w), (0, c), (0, s), (0, x), (0, line + 1), (0, μ 18 (line * 4 + 2)), (0, μ 18 (line * 4 + 3))] [] μ [pm_in (line + 1)] rfl ⟨pm_in_mk (by omega) (by omega), trivial⟩ ?_
        refine pm_hide [8, 9] ?_
        first
        | exact ih _ (by omega) rfl ⟨by omega, by omega⟩ hfr (fc_rest_w hr (by omega) (by rw [← g18]; omega)) hT
        | exact ih _ (by omega) rfl ⟨by omega, by omega⟩ hfr (hv2 (by omega)) hT
        | (exfalso; omega)
      · have h1 : μ 18 (line * 4 + 0) = w := h1
        refine pm_blk hK zmm213 [] 2 85 [(2, 177), (2, 17), (2, 182), (0, w), (0, c), (0, s), (0, x), (0, line), (0, μ 18 (line * 4 + 2)), (0, μ 18 (line * 4 + 3))] [(0, μ 18 (line * 4 + 3)), (0, μ 18 (line * 4 + 2))] μ [] rfl trivial ?_
        refine pm_icmp hK zmm213 .eq 15 100 rfl rfl (fun h2 => ?_) (fun h2 => ?_)
        · have h2 : μ 18 (line * 4 + 2) = μ 18 (line * 4 + 3) := h2
          refine pm_blk hK zmm213 [] 5 106 [(2, 177), (2, 17), (2, 182), (0, w), (0, c), (0, s), (0, x), (0, line), (0, μ 18 (line * 4 + 2)), (0, μ 18 (line * 4 + 3))] [(0, 1), (0, line), (2, 17), (2, 17), (2, 177)] μ [] rfl trivial ?_
          refine pm_call hK zmm213 (41, 0, 219, 2) zM219 (1, 22) [(2, 17), (0, line), (0, 1)] [(2, 17), (2, 177)] rfl rfl rfl rfl ⟨by omega, by rw [zn219]; omega⟩ (fc_cell17 hK (a := line) (c := 1) ⟨by omega, by omega⟩ ⟨by omega, by omega⟩ ⟨Nat.le_refl _, Nat.le_refl _⟩) (fun st4 μc4 hp4 => ?_)
          obtain ⟨rfl, rfl⟩ := hp4
          refine pm_blk hK zmm213 [] 1 111 [(2, 177), (2, 17), (2, 182), (0, w), (0, c), (0, s), (0, x), (0, line), (0, μ 18 (line * 4 + 2)), (0, μ 18 (line * 4 + 3))] [(0, μ 18 (line * 4 + 2)), (0, μ 18 (line * 4 + 1)), (2, 17), (2, 177)] μ [] rfl trivial ?_
          obtain ⟨u, hu1, hu2⟩ : ∃ u : Int, (∀ o : Int, fv_tell (μ0 178) (w - 300) ls o = u) ∧ ∀ R, fc_ok (μ0 178) (μ0 19) R 0 (μ0 18 (line * 4 + 1)) (μ0 18 (line * 4 + 2)) u := by
            first
            | exact hv3 (by omega)
            | exact fc_rest_f hr (by omega) (by rw [← g18]; omega) (by rw [← g18]; omega)
            | (exfalso; omega)
          refine pm_call hK zmm213 (45, 0, 220, 3) zM220 (1, 22) [(2, 177), (2, 17), (0, μ 18 (line * 4 + 1)), (0, μ 18 (line * 4 + 2))] [] rfl rfl rfl rfl ⟨by omega, by rw [zn220]; omega⟩ (fc_reck hK (a := (μ 18 (line * 4 + 1))) (b := (μ 18 (line * 4 + 2))) ⟨by omega, by omega⟩ (by omega) (by first | (rw [g178, g19, g18, k18]; exact hu2 _) | (rw [g178, g19, g18]; exact hu2 _)) hT hb179 ⟨Nat.le_refl _, Nat.le_refl _⟩) (fun st5 μc5 hp5 => ?_)
          obtain ⟨rfl, hTc5, hf5⟩ := hp5
          have hfr := fun r (h9 : r ≠ 179) => (hf5 r h9).trans (hfr r h9)
          refine pm_blk hK zmm213 [] 2 125 [(2, 177), (2, 17), (2, 182), (0, w), (0, c), (0, s), (0, u), (0, line), (0, μ 18 (line * 4 + 2)), (0, μ 18 (line * 4 + 3))] [] μc5 [] rfl trivial ?_
          refine pm_hide [7, 8, 9] ?_
          first
          | exact K _ _ (hu1 _).symm hTc5 hfr
          | exact K _ _ (fc_rest_e hr (by omega) _).symm hTc5 hfr
          | (exfalso; omega)
        · have h2 : μ 18 (line * 4 + 2) ≠ μ 18 (line * 4 + 3) := h2
          refine pm_blk hK zmm213 [] 4 94 [(2, 177), (2, 17), (2, 182), (0, w), (0, c), (0, s), (0, x), (0, line), (0, μ 18 (line * 4 + 2)), (0, μ 18 (line * 4 + 3))] [(0, μ 18 (line * 4 + 3)), (0, μ 18 (line * 4 + 2)), (2, 17), (2, 177)] μ [] rfl trivial ?_
          obtain ⟨v1, hv1, hv2, hv3⟩ := fc_rest_q hr (by omega) (by rw [← g18]; omega) (by rw [← g18]; omega)
          refine pm_call hK zmm213 (45, 0, 220, 3) zM220 (1, 22) [(2, 177), (2, 17), (0, μ 18 (line * 4 + 2)), (0, μ 18 (line * 4 + 3))] [] rfl rfl rfl rfl ⟨by omega, by rw [zn220]; omega⟩ (fc_reck hK (a := (μ 18 (line * 4 + 2))) (b := (μ 18 (line * 4 + 3))) ⟨by omega, by omega⟩ (by omega) (by rw [g178, g19, g18]; exact hv1 _) hT hb179 ⟨Nat.le_refl _, Nat.le_refl _⟩) (fun st6 μc6 hp6 => ?_)
          obtain ⟨rfl, hTc6, hf6⟩ := hp6
          have hfr := fun r (h9 : r ≠ 179) => (hf6 r h9).trans (hfr r h9)
          have g18 : μc6 18 = μ0 18 := hfr 18 (by decide)
          have g19 : μc6 19 = μ0 19 := hfr 19 (by decide)
          have g178 : μc6 178 = μ0 178 := hfr 178 (by decide)
          have q18 : μc6 18 (line * 4 + 1) = μ 18 (line * 4 + 1) := by rw [g18, k18]
          refine pm_if hK zmm213 .eq 22 119 rfl rfl (fun h3 => ?_) (fun h3 => ?_)
          · have h3 : v1 = (0 : Int) := h3
            refine pm_blk hK zmm213 [] 2 43 [(2, 177), (2, 17), (2, 182), (0, w), (0, c), (0, s), (0, x), (0, line + 1), (0, μ 18 (line * 4 + 2)), (0, μ 18 (line * 4 + 3))] [] μc6 [pm_in (line + 1)] rfl ⟨pm_in_mk (by omega) (by omega), trivial⟩ ?_
            refine pm_hide [8, 9] ?_
            first
            | exact ih _ (by omega) rfl ⟨by omega, by omega⟩ hfr (fc_rest_w hr (by omega) (by rw [← g18]; omega)) hTc6
            | exact ih _ (by omega) rfl ⟨by omega, by omega⟩ hfr (hv2 (by omega)) hTc6
            | (exfalso; omega)
          · have h3 : v1 ≠ (0 : Int) := h3
            refine pm_blk hK zmm213 [] 5 106 [(2, 177), (2, 17), (2, 182), (0, w), (0, c), (0, s), (0, x), (0, line), (0, μ 18 (line * 4 + 2)), (0, μ 18 (line * 4 + 3))] [(0, 1), (0, line), (2, 17), (2, 17), (2, 177)] μc6 [] rfl trivial ?_
            refine pm_call hK zmm213 (41, 0, 219, 2) zM219 (1, 22) [(2, 17), (0, line), (0, 1)] [(2, 17), (2, 177)] rfl rfl rfl rfl ⟨by omega, by rw [zn219]; omega⟩ (fc_cell17 hK (a := line) (c := 1) ⟨by omega, by omega⟩ ⟨by omega, by omega⟩ ⟨Nat.le_refl _, Nat.le_refl _⟩) (fun st7 μc7 hp7 => ?_)
            obtain ⟨rfl, rfl⟩ := hp7
            refine pm_blk hK zmm213 [] 1 111 [(2, 177), (2, 17), (2, 182), (0, w), (0, c), (0, s), (0, x), (0, line), (0, μ 18 (line * 4 + 2)), (0, μ 18 (line * 4 + 3))] [(0, μ 18 (line * 4 + 2)), (0, μc6 18 (line * 4 + 1)), (2, 17), (2, 177)] μc6 [] rfl trivial ?_
            obtain ⟨u, hu1, hu2⟩ : ∃ u : Int, (∀ o : Int, fv_tell (μ0 178) (w - 300) ls o = u) ∧ ∀ R, fc_ok (μ0 178) (μ0 19) R 0 (μ0 18 (line * 4 + 1)) (μ0 18 (line * 4 + 2)) u := by
              first
              | exact hv3 (by omega)
              | exact fc_rest_f hr (by omega) (by rw [← g18]; omega) (by rw [← g18]; omega)
              | (exfalso; omega)
            refine pm_call hK zmm213 (45, 0, 220, 3) zM220 (1, 22) [(2, 177), (2, 17), (0, μc6 18 (line * 4 + 1)), (0, μ 18 (line * 4 + 2))] [] rfl rfl rfl rfl ⟨by omega, by rw [zn220]; omega⟩ (fc_reck hK (a := (μc6 18 (line * 4 + 1))) (b := (μ 18 (line * 4 + 2))) ⟨by omega, by omega⟩ (by omega) (by first | (rw [g178, g19, g18, k18]; exact hu2 _) | (rw [g178, g19, g18]; exact hu2 _)) hTc6 hb179 ⟨Nat.le_refl _, Nat.le_refl _⟩) (fun st8 μc8 hp8 => ?_)
            obtain ⟨rfl, hTc8, hf8⟩ := hp8
            have hfr := fun r (h9 : r ≠ 179) => (hf8 r h9).trans (hfr r h9)
            refine pm_blk hK zmm213 [] 2 125 [(2, 177), (2, 17), (2, 182), (0, w), (0, c), (0, s), (0, u), (0, line), (0, μ 18 (line * 4 + 2)), (0, μ 18 (line * 4 + 3))] [] μc8 [] rfl trivial ?_
            refine pm_hide [7, 8, 9] ?_
            first
            | exact K _ _ (hu1 _).symm hTc8 hfr
            | exact K _ _ (fc_rest_e hr (by omega) _).symm hTc8 hfr
            | (exfalso; omega)
set_option maxRecDepth 100000 in
theorem fc_asked182 (hK : zKK ST) {w c s : Int} (hT : zTJ φ μ) {N pol : Int → Int} {n m : Int} (hA : fa_A 182 n m N pol μ) (hn0 : 0 ≤ n) (hm0 : 0 ≤ m) (hq : n ≤ 12 ∧ m ≤ 18) {ls : List (Int × List zIw × List zIw)} (hL : fc_L (μ 17 2) (μ 18) (μ 19) 0 ls) (hl16 : μ 17 2 ≤ 16) (hw : w = 300 ∨ w = 301 ∨ w = 302) (hc : 0 ≤ c ∧ c < m) (hs : 0 ≤ s ∧ s < n) (hb178 : sx_bit Wm 178 = true) (hb179 : sx_bit Wm 179 = true) (hbd : 3 ≤ bud.1 ∧ 67 ≤ bud.2.1) : zC D Wm ST b0 l Sg zM213 bud [(2, 177), (2, 17), (2, 182), (0, w), (0, c), (0, s)] μ (fun st' μ' => st' = [(0, fa_ask (fr_law ls) N pol m w c s)] ∧ zTJ φ μ' ∧ (∀ r, r ≠ 178 → r ≠ 179 → μ' r = μ r)) := by
  have a0 := hA.1.1
  have a1 := hA.1.2.1
  refine pm_blk hK zmm213 [] 2 3 [(2, 177), (2, 17), (2, 182), (0, w), (0, c), (0, s), (9, 0), (9, 0), (9, 0), (9, 0)] [(0, c), (2, 182)] μ [] rfl trivial ?_
  refine pm_call hK zmm213 (18, 0, 23, 1) zM23 (0, 0) [(2, 182), (0, c)] [] rfl rfl rfl rfl ⟨by omega, by rw [zn23]; omega⟩ (fc_isCustomer182 hK (s := c) ⟨Nat.le_refl _, Nat.le_refl _⟩) (fun st1 μc1 hp1 => ?_)
  obtain ⟨rfl, rfl⟩ := hp1
  refine pm_if hK zmm213 .eq 12 18 rfl rfl (fun h0 => ?_) (fun h0 => ?_)
  · have h0 : (if 0 ≤ (c) ∧ (c) < μ 182 1 then 1 else 0 : Int) = (0 : Int) := h0
    have h0 := zif0 h0
    refine pm_blk hK zmm213 [] 1 19 [(2, 177), (2, 17), (2, 182), (0, w), (0, c), (0, s), (9, 0), (9, 0), (9, 0), (9, 0)] [(0, 0)] μ [] rfl trivial ?_
    exfalso
    omega
  · have h0 : (if 0 ≤ (c) ∧ (c) < μ 182 1 then 1 else 0 : Int) ≠ (0 : Int) := h0
    have h0 := zif1 h0
    refine pm_blk hK zmm213 [] 2 12 [(2, 177), (2, 17), (2, 182), (0, w), (0, c), (0, s), (9, 0), (9, 0), (9, 0), (9, 0)] [(0, s), (2, 182)] μ [] rfl trivial ?_
    refine pm_call hK zmm213 (24, 0, 22, 1) zM22 (0, 0) [(2, 182), (0, s)] [] rfl rfl rfl rfl ⟨by omega, by rw [zn22]; omega⟩ (fc_isShop182 hK (s := s) ⟨Nat.le_refl _, Nat.le_refl _⟩) (fun st2 μc2 hp2 => ?_)
    obtain ⟨rfl, rfl⟩ := hp2
    refine pm_if hK zmm213 .ne 5 20 rfl rfl (fun h1 => ?_) (fun h1 => ?_)
    · have h1 : (if 0 ≤ (s) ∧ (s) < μ 182 0 then 1 else 0 : Int) ≠ (0 : Int) := h1
      have h1 := zif1 h1
      refine pm_blk hK zmm213 [] 4 26 [(2, 177), (2, 17), (2, 182), (0, w), (0, c), (0, s), (9, 0), (9, 0), (9, 0), (9, 0)] [(0, s), (0, c), (2, 182), (2, 177)] μ [] rfl trivial ?_
      refine pm_call hK zmm213 (27, 0, 214, 3) zM214 (2, 44) [(2, 177), (2, 182), (0, c), (0, s)] [] rfl rfl rfl rfl ⟨by omega, by rw [zn214]; omega⟩ (fc_gath182 hK (c := c) (s := s) hT hA hn0 hm0 hq hc hs hb178 ⟨Nat.le_refl _, Nat.le_refl _⟩) (fun st3 μc3 hp3 => ?_)
      obtain ⟨rfl, hTc3, hw3, hf3⟩ := hp3
      have hwd := hw3
      have hfg := hf3
      have hA1 := fa_A_fr hA (fun r h1 h2 => hfg r (by omega))
      have e17 := hfg 17 (by decide)
      have e18 := hfg 18 (by decide)
      have e19 := hfg 19 (by decide)
      refine pm_blk hK zmm213 [] 4 35 [(2, 177), (2, 17), (2, 182), (0, w), (0, c), (0, s), (9, 0), (9, 0), (9, 0), (9, 0)] [(0, s), (0, c), (0, w), (2, 182)] μc3 [] rfl trivial ?_
      refine pm_call hK zmm213 (31, 1, 218, 4) zM218 (0, 0) [(2, 182), (0, w), (0, c), (0, s)] [] rfl rfl rfl rfl ⟨by omega, by rw [zn218]; omega⟩ (fc_unt182 hK (w := w) (c := c) (s := s) hTc3 hA1 hn0 hm0 hq hc hs ⟨Nat.le_refl _, Nat.le_refl _⟩) (fun st4 μc4 hp4 => ?_)
      obtain ⟨rfl, rfl⟩ := hp4
      refine pm_blk hK zmm213 [] 3 43 [(2, 177), (2, 17), (2, 182), (0, w), (0, c), (0, s), (0, fa_unt N pol w c s), (0, 0), (9, 0), (9, 0)] [] μc3 [] rfl trivial ?_
      have hl0 : (0 : Int) ≤ μc3 17 2 := by rw [e17]; exact fc_L_0 hL
      refine fc_asl182 hK (μ0 := μc3) (ls := ls) (by rw [e17]; exact hl16) hb179 (fun x1 μ2 hx1 hT2 hf2 => ?_) ⟨by omega, by omega⟩ _ (line := 0) rfl ⟨by omega, hl0⟩ (fun r _ => rfl) (by rw [e17, e18, e19]; exact fc_rest_0 hL) hTc3
      refine pm_blk hK zmm213 [] 4 132 [(2, 177), (2, 17), (2, 182), (0, w), (0, c), (0, s), (0, x1), (9, 0), (9, 0), (9, 0)] [(0, 302), (0, w), (0, x1), (0, 0)] μ2 [] rfl trivial ?_
      refine pm_icmp hK zmm213 .ne 9 141 rfl rfl (fun hy0 => ?_) (fun hy0 => ?_)
      · have hy0 : w ≠ (302 : Int) := hy0
        refine pm_blk hK zmm213 [] 1 144 [(2, 177), (2, 17), (2, 182), (0, w), (0, c), (0, s), (0, x1), (9, 0), (9, 0), (9, 0)] [(0, 1000), (0, x1), (0, 0)] μ2 [] rfl trivial ?_
        refine pm_call hK zmm213 (49, 1, 30, 2) zM30 (0, 0) [(0, x1), (0, 1000)] [(0, 0)] rfl rfl rfl rfl ⟨by omega, by rw [zn30]; omega⟩ (zh_min hK ⟨Nat.le_refl _, Nat.le_refl _⟩) (fun sty1 μcy1 hpy1 => ?_)
        obtain ⟨rfl, rfl⟩ := hpy1
        refine pm_call hK zmm213 (54, 1, 34, 2) zM34 (0, 0) [(0, 0), (0, min x1 1000)] [] rfl rfl rfl rfl ⟨by omega, by rw [zn34]; omega⟩ (zh_max hK ⟨Nat.le_refl _, Nat.le_refl _⟩) (fun sty2 μcy2 hpy2 => ?_)
        obtain ⟨rfl, rfl⟩ := hpy2
        have he := fa_ask_e (x := x1) hL hwd hw hx1
        first
        | exact pm_iret rfl rfl ⟨by rw [← he, if_pos (by omega)], hT2, fun r h1 h2 => (hf2 r h2).trans (hfg r h1)⟩
        | exact pm_iret rfl rfl ⟨by rw [← he, if_neg (by omega)], hT2, fun r h1 h2 => (hf2 r h2).trans (hfg r h1)⟩
        | (exfalso; omega)
      · have hy0 : w = (302 : Int) := hy0
        refine pm_blk hK zmm213 [] 2 144 [(2, 177), (2, 17), (2, 182), (0, w), (0, c), (0, s), (0, x1), (9, 0), (9, 0), (9, 0)] [(0, 999), (0, x1), (0, 0)] μ2 [] rfl trivial ?_
        refine pm_call hK zmm213 (49, 1, 30, 2) zM30 (0, 0) [(0, x1), (0, 999)] [(0, 0)] rfl rfl rfl rfl ⟨by omega, by rw [zn30]; omega⟩ (zh_min hK ⟨Nat.le_refl _, Nat.le_refl _⟩) (fun sty3 μcy3 hpy3 => ?_)
        obtain ⟨rfl, rfl⟩ := hpy3
        refine pm_call hK zmm213 (54, 1, 34, 2) zM34 (0, 0) [(0, 0), (0, min x1 999)] [] rfl rfl rfl rfl ⟨by omega, by rw [zn34]; omega⟩ (zh_max hK ⟨Nat.le_refl _, Nat.le_refl _⟩) (fun sty4 μcy4 hpy4 => ?_)
        obtain ⟨rfl, rfl⟩ := hpy4
        have he := fa_ask_e (x := x1) hL hwd hw hx1
        first
        | exact pm_iret rfl rfl ⟨by rw [← he, if_pos (by omega)], hT2, fun r h1 h2 => (hf2 r h2).trans (hfg r h1)⟩
        | exact pm_iret rfl rfl ⟨by rw [← he, if_neg (by omega)], hT2, fun r h1 h2 => (hf2 r h2).trans (hfg r h1)⟩
        | (exfalso; omega)
    · have h1 : (if 0 ≤ (s) ∧ (s) < μ 182 0 then 1 else 0 : Int) = (0 : Int) := h1
      have h1 := zif0 h1
      refine pm_blk hK zmm213 [] 1 19 [(2, 177), (2, 17), (2, 182), (0, w), (0, c), (0, s), (9, 0), (9, 0), (9, 0), (9, 0)] [(0, 0)] μ [] rfl trivial ?_
      exfalso
      omega
end ZHW
