/-! after you; walks printed by program (wip/p30/pmgen.py) and filled by hand -/
section ZHW
variable {D : va_G} {Wm : Nat} {ST : List (String × String × String × Nat)} {b0 : sx_B} {l : Launch} {Sg : Nat → Option Nat} {bud : sx_Bu} {μ : pm_Mem} {B0 : Nat → Prop} {J : (Nat → Option Nat) → Heap → Prop}
set_option maxRecDepth 100000 in
theorem zl_common (hK : zKK ST)  {μ0 : pm_Mem} {a b : Int} (hbd : 0 ≤ bud.1 ∧ 0 ≤ bud.2.1) : ∀ (n : Nat) {x y : Int} {μ : pm_Mem}, y.toNat = n → ∀ (hμ : μ0 = μ) (hx : 0 ≤ x ∧ x ≤ 19602) (hy : 0 ≤ y ∧ y ≤ 19602) (hxy : 1 ≤ x + y), zW D Wm ST b0 l Sg zM178 bud (pm_X zM178 (fun st' μ' => μ0 = μ' ∧ ∃ x, st' = [(0, x)] ∧ 1 ≤ x ∧ x ≤ 19602)) 23 [(2, 205), (0, a), (0, b), (0, x), (0, y), (9, 0)] [] μ := by
  intro n
  induction n using Nat.strongRecOn with
  | ind n ih =>
    intro x y μ hn hμ hx hy hxy
    refine pm_blk hK zmm178 [] 1 25 [(2, 205), (0, a), (0, b), (0, x), (0, y), (9, 0)] [(0, y)] μ [] rfl trivial ?_
    refine pm_if hK zmm178 .eq 19 44 rfl rfl (fun h0 => ?_) (fun h0 => ?_)
    · have h0 : y = (0 : Int) := h0
      refine pm_blk hK zmm178 [] 1 45 [(2, 205), (0, a), (0, b), (0, x), (0, y), (9, 0)] [(0, x)] μ [] rfl trivial ?_
      exact pm_iret rfl rfl ⟨hμ, _, rfl, by omega, by omega⟩
    · have h0 : y ≠ (0 : Int) := h0
      have hm : x.tmod y = x % y := Int.tmod_eq_emod_of_nonneg (by omega)
      have hm1 := Int.emod_nonneg x (b := y) (by omega)
      have hm2 := Int.emod_lt_of_pos x (b := y) (by omega)
      refine pm_blk hK zmm178 [] 9 23 [(2, 205), (0, a), (0, b), (0, y), (0, Int.tmod x y), (0, Int.tmod x y)] [] μ [y ≠ 0] rfl ⟨by omega, trivial⟩ ?_
      refine pm_hide [5] ?_
      rw [hm]
      exact ih (x % y).toNat (by omega) rfl hμ ⟨by omega, by omega⟩ ⟨by omega, by omega⟩ (by omega)
set_option maxRecDepth 100000 in
theorem zh_common (hK : zKK ST) {a b : Int} (ha : -19602 ≤ a ∧ a ≤ 19602) (hb : -19602 ≤ b ∧ b ≤ 19602) (hab : a ≠ 0 ∨ b ≠ 0) (hbd : 0 ≤ bud.1 ∧ 0 ≤ bud.2.1) : zC D Wm ST b0 l Sg zM178 bud [(2, 205), (0, a), (0, b)] μ (fun st' μ' => μ = μ' ∧ ∃ x, st' = [(0, x)] ∧ 1 ≤ x ∧ x ≤ 19602) := by
  refine pm_blk hK zmm178 [] 1 1 [(2, 205), (0, a), (0, b), (9, 0), (9, 0), (9, 0)] [(0, a)] μ [] rfl trivial ?_
  refine pm_if hK zmm178 .ge 8 9 rfl rfl (fun h0 => ?_) (fun h0 => ?_)
  · have h0 : (0 : Int) ≤ a := h0
    refine pm_blk hK zmm178 [] 3 12 [(2, 205), (0, a), (0, b), (0, a), (9, 0), (9, 0)] [(0, b)] μ [] rfl trivial ?_
    refine pm_if hK zmm178 .ge 8 20 rfl rfl (fun h1 => ?_) (fun h1 => ?_)
    · have h1 : (0 : Int) ≤ b := h1
      refine pm_blk hK zmm178 [] 2 23 [(2, 205), (0, a), (0, b), (0, a), (0, b), (9, 0)] [] μ [] rfl trivial ?_
      exact zl_common hK hbd _ rfl rfl ⟨by omega, by omega⟩ ⟨by omega, by omega⟩ (by omega)
    · have h1 : b < (0 : Int) := h1
      refine pm_blk hK zmm178 [] 4 23 [(2, 205), (0, a), (0, b), (0, a), (0, -b), (9, 0)] [] μ [pm_in (-b)] rfl ⟨pm_in_mk (by omega) (by omega), trivial⟩ ?_
      exact zl_common hK hbd _ rfl rfl ⟨by omega, by omega⟩ ⟨by omega, by omega⟩ (by omega)
  · have h0 : a < (0 : Int) := h0
    refine pm_blk hK zmm178 [] 5 12 [(2, 205), (0, a), (0, b), (0, -a), (9, 0), (9, 0)] [(0, b)] μ [pm_in (-a)] rfl ⟨pm_in_mk (by omega) (by omega), trivial⟩ ?_
    refine pm_if hK zmm178 .ge 8 20 rfl rfl (fun h2 => ?_) (fun h2 => ?_)
    · have h2 : (0 : Int) ≤ b := h2
      refine pm_blk hK zmm178 [] 2 23 [(2, 205), (0, a), (0, b), (0, -a), (0, b), (9, 0)] [] μ [] rfl trivial ?_
      exact zl_common hK hbd _ rfl rfl ⟨by omega, by omega⟩ ⟨by omega, by omega⟩ (by omega)
    · have h2 : b < (0 : Int) := h2
      refine pm_blk hK zmm178 [] 4 23 [(2, 205), (0, a), (0, b), (0, -a), (0, -b), (9, 0)] [] μ [pm_in (-b)] rfl ⟨pm_in_mk (by omega) (by omega), trivial⟩ ?_
      exact zl_common hK hbd _ rfl rfl ⟨by omega, by omega⟩ ⟨by omega, by omega⟩ (by omega)
set_option maxRecDepth 100000 in
theorem zh_isFraction (hK : zKK ST) {a b : Int} (ha : -19602 ≤ a ∧ a ≤ 19602) (hb : -19602 ≤ b ∧ b ≤ 19602) (hab : a ≠ 0 ∨ b ≠ 0) (hT : zTJ μ) (hb205 : sx_bit Wm 205 = true) (hbd : 1 ≤ bud.1 ∧ 25 ≤ bud.2.1) : zC D Wm ST b0 l Sg zM177 bud [(2, 205), (0, a), (0, b)] μ (fun st' μ' => st' = [] ∧ zTJ μ') := by
  refine pm_blk hK zmm177 [] 3 3 [(2, 205), (0, a), (0, b), (9, 0)] [(0, b), (0, a), (2, 205)] μ [] rfl trivial ?_
  refine pm_call hK zmm177 (439, 0, 178, 2) zM178 (0, 0) [(2, 205), (0, a), (0, b)] [] rfl rfl rfl rfl ⟨by omega, by rw [zn178]; omega⟩ (zh_common hK (a := a) (b := b) ⟨by omega, by omega⟩ ⟨by omega, by omega⟩ (by omega) ⟨Nat.le_refl _, Nat.le_refl _⟩) (fun st1 μc1 hp1 => ?_)
  obtain ⟨rfl, x1, rfl, hx1, hy1⟩ := hp1
  refine pm_blk hK zmm177 [] 3 9 [(2, 205), (0, a), (0, b), (0, x1)] [(0, b), (2, 205)] μ [] rfl trivial ?_
  refine pm_if hK zmm177 .ge 8 17 rfl rfl (fun h0 => ?_) (fun h0 => ?_)
  · have h0 : (0 : Int) ≤ b := h0
    refine pm_blk hK zmm177 [] 1 18 [(2, 205), (0, a), (0, b), (0, x1)] [(0, a), (2, 205)] μ [] rfl trivial ?_
    have d1 : -2147483648 ≤ Int.tdiv a x1 ∧ Int.tdiv a x1 ≤ 2147483647 := ztdiv (by omega) ⟨by omega, by omega⟩
    refine pm_blk hK zmm177 [] 3 23 [(2, 205), (0, a), (0, b), (0, x1)] [] (pm_up μ 205 49 (Int.tdiv a x1)) [x1 ≠ 0, pm_in (Int.tdiv a x1), sx_bit Wm 205 = true] rfl ⟨by omega, pm_in_mk (by omega) (by omega), hb205, trivial⟩ ?_
    obtain ⟨μ1, eμ1⟩ : ∃ μ', μ' = pm_up μ 205 49 (Int.tdiv a x1) := ⟨_, rfl⟩
    rw [← eμ1]
    have hTμ1 : zTJ μ1 := by rw [eμ1]; exact zT_up hT zs205_49 rfl (i := 49) (by omega) (by omega) (by omega) (by omega)
    refine pm_blk hK zmm177 [] 2 25 [(2, 205), (0, a), (0, b), (0, x1)] [(0, b), (2, 205)] μ1 [] rfl trivial ?_
    refine pm_if hK zmm177 .ge 8 33 rfl rfl (fun h1 => ?_) (fun h1 => ?_)
    · have h1 : (0 : Int) ≤ b := h1
      refine pm_blk hK zmm177 [] 1 34 [(2, 205), (0, a), (0, b), (0, x1)] [(0, b), (2, 205)] μ1 [] rfl trivial ?_
      have d2 : -2147483648 ≤ Int.tdiv b x1 ∧ Int.tdiv b x1 ≤ 2147483647 := ztdiv (by omega) ⟨by omega, by omega⟩
      refine pm_blk hK zmm177 [] 3 39 [(2, 205), (0, a), (0, b), (0, x1)] [] (pm_up μ1 205 50 (Int.tdiv b x1)) [x1 ≠ 0, pm_in (Int.tdiv b x1), sx_bit Wm 205 = true] rfl ⟨by omega, pm_in_mk (by omega) (by omega), hb205, trivial⟩ ?_
      obtain ⟨μ2, eμ2⟩ : ∃ μ', μ' = pm_up μ1 205 50 (Int.tdiv b x1) := ⟨_, rfl⟩
      rw [← eμ2]
      have hTμ2 : zTJ μ2 := by rw [eμ2]; exact zT_up hTμ1 zs205_50 rfl (i := 50) (by omega) (by omega) (by omega) (by omega)
      exact pm_vret rfl rfl ⟨rfl, hTμ2⟩
    · have h1 : b < (0 : Int) := h1
      refine pm_blk hK zmm177 [] 3 34 [(2, 205), (0, a), (0, b), (0, x1)] [(0, -b), (2, 205)] μ1 [pm_in (-b)] rfl ⟨pm_in_mk (by omega) (by omega), trivial⟩ ?_
      have d2 : -2147483648 ≤ Int.tdiv (-b) x1 ∧ Int.tdiv (-b) x1 ≤ 2147483647 := ztdiv (by omega) ⟨by omega, by omega⟩
      refine pm_blk hK zmm177 [] 3 39 [(2, 205), (0, a), (0, b), (0, x1)] [] (pm_up μ1 205 50 (Int.tdiv (-b) x1)) [x1 ≠ 0, pm_in (Int.tdiv (-b) x1), sx_bit Wm 205 = true] rfl ⟨by omega, pm_in_mk (by omega) (by omega), hb205, trivial⟩ ?_
      obtain ⟨μ3, eμ3⟩ : ∃ μ', μ' = pm_up μ1 205 50 (Int.tdiv (-b) x1) := ⟨_, rfl⟩
      rw [← eμ3]
      have hTμ3 : zTJ μ3 := by rw [eμ3]; exact zT_up hTμ1 zs205_50 rfl (i := 50) (by omega) (by omega) (by omega) (by omega)
      exact pm_vret rfl rfl ⟨rfl, hTμ3⟩
  · have h0 : b < (0 : Int) := h0
    refine pm_blk hK zmm177 [] 3 18 [(2, 205), (0, a), (0, b), (0, x1)] [(0, -a), (2, 205)] μ [pm_in (-a)] rfl ⟨pm_in_mk (by omega) (by omega), trivial⟩ ?_
    have d1 : -2147483648 ≤ Int.tdiv (-a) x1 ∧ Int.tdiv (-a) x1 ≤ 2147483647 := ztdiv (by omega) ⟨by omega, by omega⟩
    refine pm_blk hK zmm177 [] 3 23 [(2, 205), (0, a), (0, b), (0, x1)] [] (pm_up μ 205 49 (Int.tdiv (-a) x1)) [x1 ≠ 0, pm_in (Int.tdiv (-a) x1), sx_bit Wm 205 = true] rfl ⟨by omega, pm_in_mk (by omega) (by omega), hb205, trivial⟩ ?_
    obtain ⟨μ4, eμ4⟩ : ∃ μ', μ' = pm_up μ 205 49 (Int.tdiv (-a) x1) := ⟨_, rfl⟩
    rw [← eμ4]
    have hTμ4 : zTJ μ4 := by rw [eμ4]; exact zT_up hT zs205_49 rfl (i := 49) (by omega) (by omega) (by omega) (by omega)
    refine pm_blk hK zmm177 [] 2 25 [(2, 205), (0, a), (0, b), (0, x1)] [(0, b), (2, 205)] μ4 [] rfl trivial ?_
    refine pm_if hK zmm177 .ge 8 33 rfl rfl (fun h2 => ?_) (fun h2 => ?_)
    · have h2 : (0 : Int) ≤ b := h2
      refine pm_blk hK zmm177 [] 1 34 [(2, 205), (0, a), (0, b), (0, x1)] [(0, b), (2, 205)] μ4 [] rfl trivial ?_
      have d2 : -2147483648 ≤ Int.tdiv b x1 ∧ Int.tdiv b x1 ≤ 2147483647 := ztdiv (by omega) ⟨by omega, by omega⟩
      refine pm_blk hK zmm177 [] 3 39 [(2, 205), (0, a), (0, b), (0, x1)] [] (pm_up μ4 205 50 (Int.tdiv b x1)) [x1 ≠ 0, pm_in (Int.tdiv b x1), sx_bit Wm 205 = true] rfl ⟨by omega, pm_in_mk (by omega) (by omega), hb205, trivial⟩ ?_
      obtain ⟨μ5, eμ5⟩ : ∃ μ', μ' = pm_up μ4 205 50 (Int.tdiv b x1) := ⟨_, rfl⟩
      rw [← eμ5]
      have hTμ5 : zTJ μ5 := by rw [eμ5]; exact zT_up hTμ4 zs205_50 rfl (i := 50) (by omega) (by omega) (by omega) (by omega)
      exact pm_vret rfl rfl ⟨rfl, hTμ5⟩
    · have h2 : b < (0 : Int) := h2
      refine pm_blk hK zmm177 [] 3 34 [(2, 205), (0, a), (0, b), (0, x1)] [(0, -b), (2, 205)] μ4 [pm_in (-b)] rfl ⟨pm_in_mk (by omega) (by omega), trivial⟩ ?_
      have d2 : -2147483648 ≤ Int.tdiv (-b) x1 ∧ Int.tdiv (-b) x1 ≤ 2147483647 := ztdiv (by omega) ⟨by omega, by omega⟩
      refine pm_blk hK zmm177 [] 3 39 [(2, 205), (0, a), (0, b), (0, x1)] [] (pm_up μ4 205 50 (Int.tdiv (-b) x1)) [x1 ≠ 0, pm_in (Int.tdiv (-b) x1), sx_bit Wm 205 = true] rfl ⟨by omega, pm_in_mk (by omega) (by omega), hb205, trivial⟩ ?_
      obtain ⟨μ6, eμ6⟩ : ∃ μ', μ' = pm_up μ4 205 50 (Int.tdiv (-b) x1) := ⟨_, rfl⟩
      rw [← eμ6]
      have hTμ6 : zTJ μ6 := by rw [eμ6]; exact zT_up hTμ4 zs205_50 rfl (i := 50) (by omega) (by omega) (by omega) (by omega)
      exact pm_vret rfl rfl ⟨rfl, hTμ6⟩
set_option maxRecDepth 100000 in
theorem zh_after (hK : zKK ST) {q : Int} (hq : pm_in q) (hT : zTJ μ) (hb205 : sx_bit Wm 205 = true) (hbd : 2 ≤ bud.1 ∧ 48 ≤ bud.2.1) : zC D Wm ST b0 l Sg zM175 bud [(2, 205), (0, q)] μ (fun st' μ' => ∃ x, st' = [(0, x)] ∧ pm_in x ∧ zTJ μ') := by
  refine pm_blk hK zmm175 [] 3 5 [(2, 205), (0, q), (9, 0), (9, 0), (9, 0), (9, 0), (9, 0), (9, 0), (9, 0)] [] (pm_up μ 205 0 0) [sx_bit Wm 205 = true] rfl ⟨hb205, trivial⟩ ?_
  obtain ⟨μ1, eμ1⟩ : ∃ μ', μ' = pm_up μ 205 0 0 := ⟨_, rfl⟩
  rw [← eμ1]
  have hTμ1 : zTJ μ1 := by rw [eμ1]; exact zT_up hT zs205_0 rfl (i := 0) (by omega) (by omega) (by omega) (by omega)
  refine pm_blk hK zmm175 [] 4 9 [(2, 205), (0, q), (9, 0), (9, 0), (9, 0), (9, 0), (9, 0), (9, 0), (9, 0)] [(0, 3), (0, 0), (0, q), (2, 205)] μ1 [] rfl trivial ?_
  refine pm_call hK zmm175 (158, 0, 129, 3) zM129 (0, 0) [(2, 205), (0, q), (0, 0), (0, 3)] [] rfl rfl rfl rfl ⟨by omega, by rw [zn129]; omega⟩ (zh_isIn hK ⟨by omega, by omega⟩) (fun st1 μc1 hp1 => ?_)
  obtain ⟨rfl, rfl⟩ := hp1
  refine pm_if hK zmm175 .ne 7 19 rfl rfl (fun h0 => ?_) (fun h0 => ?_)
  · have h0 : (if 0 ≤ q ∧ q ≤ 3 then 1 else 0 : Int) ≠ (0 : Int) := h0
    have h0 := zif1 h0
    have g1 : μ1 232 0 = μ 232 0 := by rw [eμ1, pm_up_off (by decide)]
    have f2 := zT_get hTμ1 zs232_0 (i := 0) (by omega) (by omega)
    have g3 : μ1 232 1 = μ 232 1 := by rw [eμ1, pm_up_off (by decide)]
    have f4 := zT_get hTμ1 zs232_0 (i := 1) (by omega) (by omega)
    have g5 : μ1 232 2 = μ 232 2 := by rw [eμ1, pm_up_off (by decide)]
    have f6 := zT_get hTμ1 zs232_0 (i := 2) (by omega) (by omega)
    have g7 : μ1 232 3 = μ 232 3 := by rw [eμ1, pm_up_off (by decide)]
    have f8 := zT_get hTμ1 zs232_0 (i := 3) (by omega) (by omega)
    refine pm_blk hK zmm175 [] 24 53 [(2, 205), (0, q), (0, μ1 232 0), (0, μ1 232 1), (0, μ1 232 2), (0, μ1 232 3), (9, 0), (9, 0), (9, 0)] [(0, μ1 232 1), (0, μ1 232 0), (2, 205), (2, 205)] μ1 [0 ≤ 0 ∧ 0 < 4, 0 ≤ 1 ∧ 1 < 4, 0 ≤ 2 ∧ 2 < 4, 0 ≤ 3 ∧ 3 < 4] rfl ⟨⟨by omega, by omega⟩, ⟨by omega, by omega⟩, ⟨by omega, by omega⟩, ⟨by omega, by omega⟩, trivial⟩ ?_
    refine pm_call hK zmm175 (377, 0, 157, 2) zM157 (0, 0) [(2, 205), (0, μ1 232 0), (0, μ1 232 1)] [(2, 205)] rfl rfl rfl rfl ⟨by omega, by rw [zn157]; omega⟩ (zh_lesser hK ⟨by omega, by omega⟩) (fun st2 μc2 hp2 => ?_)
    obtain ⟨rfl, rfl⟩ := hp2
    refine pm_blk hK zmm175 [] 3 61 [(2, 205), (0, q), (0, μ1 232 0), (0, μ1 232 1), (0, μ1 232 2), (0, μ1 232 3), (9, 0), (9, 0), (9, 0)] [(0, μ1 232 3), (0, μ1 232 2), (2, 205), (0, min (μ1 232 0) (μ1 232 1)), (2, 205)] μ1 [] rfl trivial ?_
    refine pm_call hK zmm175 (377, 0, 157, 2) zM157 (0, 0) [(2, 205), (0, μ1 232 2), (0, μ1 232 3)] [(0, min (μ1 232 0) (μ1 232 1)), (2, 205)] rfl rfl rfl rfl ⟨by omega, by rw [zn157]; omega⟩ (zh_lesser hK ⟨by omega, by omega⟩) (fun st3 μc3 hp3 => ?_)
    obtain ⟨rfl, rfl⟩ := hp3
    refine pm_call hK zmm175 (448, 0, 176, 2) zM176 (0, 0) [(2, 205), (0, min (μ1 232 0) (μ1 232 1)), (0, min (μ1 232 2) (μ1 232 3))] [] rfl rfl rfl rfl ⟨by omega, by rw [zn176]; omega⟩ (zh_greater hK ⟨by omega, by omega⟩) (fun st4 μc4 hp4 => ?_)
    obtain ⟨rfl, rfl⟩ := hp4
    refine pm_blk hK zmm175 [] 5 74 [(2, 205), (0, q), (0, μ1 232 0), (0, μ1 232 1), (0, μ1 232 2), (0, μ1 232 3), (0, max (min (μ1 232 0) (μ1 232 1)) (min (μ1 232 2) (μ1 232 3))), (9, 0), (9, 0)] [(0, μ1 232 2), (0, μ1 232 0), (2, 205), (2, 205)] μ1 [] rfl trivial ?_
    refine pm_call hK zmm175 (448, 0, 176, 2) zM176 (0, 0) [(2, 205), (0, μ1 232 0), (0, μ1 232 2)] [(2, 205)] rfl rfl rfl rfl ⟨by omega, by rw [zn176]; omega⟩ (zh_greater hK ⟨by omega, by omega⟩) (fun st5 μc5 hp5 => ?_)
    obtain ⟨rfl, rfl⟩ := hp5
    refine pm_blk hK zmm175 [] 3 81 [(2, 205), (0, q), (0, μ1 232 0), (0, μ1 232 1), (0, μ1 232 2), (0, μ1 232 3), (0, max (min (μ1 232 0) (μ1 232 1)) (min (μ1 232 2) (μ1 232 3))), (9, 0), (9, 0)] [(0, μ1 232 3), (0, μ1 232 1), (2, 205), (0, max (μ1 232 0) (μ1 232 2)), (2, 205)] μ1 [] rfl trivial ?_
    refine pm_call hK zmm175 (448, 0, 176, 2) zM176 (0, 0) [(2, 205), (0, μ1 232 1), (0, μ1 232 3)] [(0, max (μ1 232 0) (μ1 232 2)), (2, 205)] rfl rfl rfl rfl ⟨by omega, by rw [zn176]; omega⟩ (zh_greater hK ⟨by omega, by omega⟩) (fun st6 μc6 hp6 => ?_)
    obtain ⟨rfl, rfl⟩ := hp6
    refine pm_call hK zmm175 (377, 0, 157, 2) zM157 (0, 0) [(2, 205), (0, max (μ1 232 0) (μ1 232 2)), (0, max (μ1 232 1) (μ1 232 3))] [] rfl rfl rfl rfl ⟨by omega, by rw [zn157]; omega⟩ (zh_lesser hK ⟨by omega, by omega⟩) (fun st7 μc7 hp7 => ?_)
    obtain ⟨rfl, rfl⟩ := hp7
    refine pm_blk hK zmm175 [] 3 91 [(2, 205), (0, q), (0, μ1 232 0), (0, μ1 232 1), (0, μ1 232 2), (0, μ1 232 3), (0, max (min (μ1 232 0) (μ1 232 1)) (min (μ1 232 2) (μ1 232 3))), (0, min (max (μ1 232 0) (μ1 232 2)) (max (μ1 232 1) (μ1 232 3))), (9, 0)] [(0, 2), (0, q)] μ1 [] rfl trivial ?_
    refine pm_icmp hK zmm175 .ge 7 98 rfl rfl (fun h1 => ?_) (fun h1 => ?_)
    · have h1 : (2 : Int) ≤ q := h1
      refine pm_blk hK zmm175 [] 4 105 [(2, 205), (0, q), (0, μ1 232 0), (0, μ1 232 1), (0, μ1 232 2), (0, μ1 232 3), (0, max (min (μ1 232 0) (μ1 232 1)) (min (μ1 232 2) (μ1 232 3))), (0, min (max (μ1 232 0) (μ1 232 2)) (max (μ1 232 1) (μ1 232 3))), (0, 0)] [(0, min (max (μ1 232 0) (μ1 232 2)) (max (μ1 232 1) (μ1 232 3))), (0, max (min (μ1 232 0) (μ1 232 1)) (min (μ1 232 2) (μ1 232 3)))] μ1 [] rfl trivial ?_
      refine pm_icmp hK zmm175 .ne 37 142 rfl rfl (fun h2 => ?_) (fun h2 => ?_)
      · have h2 : max (min (μ1 232 0) (μ1 232 1)) (min (μ1 232 2) (μ1 232 3)) ≠ min (max (μ1 232 0) (μ1 232 2)) (max (μ1 232 1) (μ1 232 3)) := h2
        refine pm_blk hK zmm175 [] 2 145 [(2, 205), (0, q), (0, μ1 232 0), (0, μ1 232 1), (0, μ1 232 2), (0, μ1 232 3), (0, max (min (μ1 232 0) (μ1 232 1)) (min (μ1 232 2) (μ1 232 3))), (0, min (max (μ1 232 0) (μ1 232 2)) (max (μ1 232 1) (μ1 232 3))), (0, 0)] [(0, 0), (2, 205)] μ1 [] rfl trivial ?_
        refine pm_if hK zmm175 .eq 15 160 rfl rfl (fun h3 => ?_) (fun h3 => ?_)
        · have h3 : (0 : Int) = (0 : Int) := h3
          refine pm_blk hK zmm175 [] 10 174 [(2, 205), (0, q), (0, μ1 232 0), (0, μ1 232 1), (0, μ1 232 2), (0, μ1 232 3), (0, max (min (μ1 232 0) (μ1 232 1)) (min (μ1 232 2) (μ1 232 3))), (0, min (max (μ1 232 0) (μ1 232 2)) (max (μ1 232 1) (μ1 232 3))), (0, 0)] [(0, (((μ1 232 0) + (μ1 232 3)) - (μ1 232 1)) - (μ1 232 2)), (0, (μ1 232 3) - (μ1 232 2)), (2, 205)] μ1 [pm_in ((μ1 232 3) - (μ1 232 2)), pm_in ((μ1 232 0) + (μ1 232 3)), pm_in (((μ1 232 0) + (μ1 232 3)) - (μ1 232 1)), pm_in ((((μ1 232 0) + (μ1 232 3)) - (μ1 232 1)) - (μ1 232 2))] rfl ⟨pm_in_mk (by omega) (by omega), pm_in_mk (by omega) (by omega), pm_in_mk (by omega) (by omega), pm_in_mk (by omega) (by omega), trivial⟩ ?_
          refine pm_call hK zmm175 (451, 0, 177, 2) zM177 (1, 25) [(2, 205), (0, (μ1 232 3) - (μ1 232 2)), (0, (((μ1 232 0) + (μ1 232 3)) - (μ1 232 1)) - (μ1 232 2))] [] rfl rfl rfl rfl ⟨by omega, by rw [zn177]; omega⟩ (zh_isFraction hK (a := ((μ1 232 3) - (μ1 232 2))) (b := ((((μ1 232 0) + (μ1 232 3)) - (μ1 232 1)) - (μ1 232 2))) ⟨by omega, by omega⟩ ⟨by omega, by omega⟩ (by omega) hTμ1 hb205 ⟨Nat.le_refl _, Nat.le_refl _⟩) (fun st8 μc8 hp8 => ?_)
          obtain ⟨rfl, hTc8⟩ := hp8
          refine pm_blk hK zmm175 [] 3 180 [(2, 205), (0, q), (0, μ1 232 0), (0, μ1 232 1), (0, μ1 232 2), (0, μ1 232 3), (0, max (min (μ1 232 0) (μ1 232 1)) (min (μ1 232 2) (μ1 232 3))), (0, min (max (μ1 232 0) (μ1 232 2)) (max (μ1 232 1) (μ1 232 3))), (0, 0)] [(0, Int.tmod q 2)] μc8 [2 ≠ 0] rfl ⟨by omega, trivial⟩ ?_
          refine pm_if hK zmm175 .ne 10 190 rfl rfl (fun h4 => ?_) (fun h4 => ?_)
          · have h4 : Int.tmod q 2 ≠ (0 : Int) := h4
            have f9 := zT_get hTc8 zs205_50 (i := 50) (by omega) (by omega)
            refine pm_blk hK zmm175 [] 2 194 [(2, 205), (0, q), (0, μ1 232 0), (0, μ1 232 1), (0, μ1 232 2), (0, μ1 232 3), (0, max (min (μ1 232 0) (μ1 232 1)) (min (μ1 232 2) (μ1 232 3))), (0, min (max (μ1 232 0) (μ1 232 2)) (max (μ1 232 1) (μ1 232 3))), (0, 0)] [(0, μc8 205 50)] μc8 [] rfl trivial ?_
            exact pm_iret rfl rfl ⟨_, rfl, ⟨by omega, by omega⟩, hTc8⟩
          · have h4 : Int.tmod q 2 = (0 : Int) := h4
            refine pm_blk hK zmm175 [] 1 184 [(2, 205), (0, q), (0, μ1 232 0), (0, μ1 232 1), (0, μ1 232 2), (0, μ1 232 3), (0, max (min (μ1 232 0) (μ1 232 1)) (min (μ1 232 2) (μ1 232 3))), (0, min (max (μ1 232 0) (μ1 232 2)) (max (μ1 232 1) (μ1 232 3))), (0, 0)] [(2, 205)] μc8 [] rfl trivial ?_
            have f10 := zT_get hTc8 zs205_49 (i := 49) (by omega) (by omega)
            refine pm_blk hK zmm175 [] 2 194 [(2, 205), (0, q), (0, μ1 232 0), (0, μ1 232 1), (0, μ1 232 2), (0, μ1 232 3), (0, max (min (μ1 232 0) (μ1 232 1)) (min (μ1 232 2) (μ1 232 3))), (0, min (max (μ1 232 0) (μ1 232 2)) (max (μ1 232 1) (μ1 232 3))), (0, 0)] [(0, μc8 205 49)] μc8 [] rfl trivial ?_
            exact pm_iret rfl rfl ⟨_, rfl, ⟨by omega, by omega⟩, hTc8⟩
        · have h3 : (0 : Int) ≠ (0 : Int) := h3
          have z1 := zmul99 (a := (μ1 232 0)) (b := (μ1 232 3)) (by omega) (by omega)
          have z2 := zmul99 (a := (μ1 232 1)) (b := (μ1 232 2)) (by omega) (by omega)
          refine pm_blk hK zmm175 [] 15 174 [(2, 205), (0, q), (0, μ1 232 0), (0, μ1 232 1), (0, μ1 232 2), (0, μ1 232 3), (0, max (min (μ1 232 0) (μ1 232 1)) (min (μ1 232 2) (μ1 232 3))), (0, min (max (μ1 232 0) (μ1 232 2)) (max (μ1 232 1) (μ1 232 3))), (0, 0)] [(0, (((μ1 232 0) + (μ1 232 3)) - (μ1 232 1)) - (μ1 232 2)), (0, ((μ1 232 0) * (μ1 232 3)) - ((μ1 232 1) * (μ1 232 2))), (2, 205)] μ1 [pm_in ((μ1 232 0) * (μ1 232 3)), pm_in ((μ1 232 1) * (μ1 232 2)), pm_in (((μ1 232 0) * (μ1 232 3)) - ((μ1 232 1) * (μ1 232 2))), pm_in ((μ1 232 0) + (μ1 232 3)), pm_in (((μ1 232 0) + (μ1 232 3)) - (μ1 232 1)), pm_in ((((μ1 232 0) + (μ1 232 3)) - (μ1 232 1)) - (μ1 232 2))] rfl ⟨pm_in_mk (by omega) (by omega), pm_in_mk (by omega) (by omega), pm_in_mk (by omega) (by omega), pm_in_mk (by omega) (by omega), pm_in_mk (by omega) (by omega), pm_in_mk (by omega) (by omega), trivial⟩ ?_
          refine pm_call hK zmm175 (451, 0, 177, 2) zM177 (1, 25) [(2, 205), (0, ((μ1 232 0) * (μ1 232 3)) - ((μ1 232 1) * (μ1 232 2))), (0, (((μ1 232 0) + (μ1 232 3)) - (μ1 232 1)) - (μ1 232 2))] [] rfl rfl rfl rfl ⟨by omega, by rw [zn177]; omega⟩ (zh_isFraction hK (a := (((μ1 232 0) * (μ1 232 3)) - ((μ1 232 1) * (μ1 232 2)))) (b := ((((μ1 232 0) + (μ1 232 3)) - (μ1 232 1)) - (μ1 232 2))) ⟨by omega, by omega⟩ ⟨by omega, by omega⟩ (by omega) hTμ1 hb205 ⟨Nat.le_refl _, Nat.le_refl _⟩) (fun st9 μc9 hp9 => ?_)
          obtain ⟨rfl, hTc9⟩ := hp9
          refine pm_blk hK zmm175 [] 3 180 [(2, 205), (0, q), (0, μ1 232 0), (0, μ1 232 1), (0, μ1 232 2), (0, μ1 232 3), (0, max (min (μ1 232 0) (μ1 232 1)) (min (μ1 232 2) (μ1 232 3))), (0, min (max (μ1 232 0) (μ1 232 2)) (max (μ1 232 1) (μ1 232 3))), (0, 0)] [(0, Int.tmod q 2)] μc9 [2 ≠ 0] rfl ⟨by omega, trivial⟩ ?_
          refine pm_if hK zmm175 .ne 10 190 rfl rfl (fun h5 => ?_) (fun h5 => ?_)
          · have h5 : Int.tmod q 2 ≠ (0 : Int) := h5
            have f11 := zT_get hTc9 zs205_50 (i := 50) (by omega) (by omega)
            refine pm_blk hK zmm175 [] 2 194 [(2, 205), (0, q), (0, μ1 232 0), (0, μ1 232 1), (0, μ1 232 2), (0, μ1 232 3), (0, max (min (μ1 232 0) (μ1 232 1)) (min (μ1 232 2) (μ1 232 3))), (0, min (max (μ1 232 0) (μ1 232 2)) (max (μ1 232 1) (μ1 232 3))), (0, 0)] [(0, μc9 205 50)] μc9 [] rfl trivial ?_
            exact pm_iret rfl rfl ⟨_, rfl, ⟨by omega, by omega⟩, hTc9⟩
          · have h5 : Int.tmod q 2 = (0 : Int) := h5
            refine pm_blk hK zmm175 [] 1 184 [(2, 205), (0, q), (0, μ1 232 0), (0, μ1 232 1), (0, μ1 232 2), (0, μ1 232 3), (0, max (min (μ1 232 0) (μ1 232 1)) (min (μ1 232 2) (μ1 232 3))), (0, min (max (μ1 232 0) (μ1 232 2)) (max (μ1 232 1) (μ1 232 3))), (0, 0)] [(2, 205)] μc9 [] rfl trivial ?_
            have f12 := zT_get hTc9 zs205_49 (i := 49) (by omega) (by omega)
            refine pm_blk hK zmm175 [] 2 194 [(2, 205), (0, q), (0, μ1 232 0), (0, μ1 232 1), (0, μ1 232 2), (0, μ1 232 3), (0, max (min (μ1 232 0) (μ1 232 1)) (min (μ1 232 2) (μ1 232 3))), (0, min (max (μ1 232 0) (μ1 232 2)) (max (μ1 232 1) (μ1 232 3))), (0, 0)] [(0, μc9 205 49)] μc9 [] rfl trivial ?_
            exact pm_iret rfl rfl ⟨_, rfl, ⟨by omega, by omega⟩, hTc9⟩
      · have h2 : max (min (μ1 232 0) (μ1 232 1)) (min (μ1 232 2) (μ1 232 3)) = min (max (μ1 232 0) (μ1 232 2)) (max (μ1 232 1) (μ1 232 3)) := h2
        refine pm_blk hK zmm175 [] 2 111 [(2, 205), (0, q), (0, μ1 232 0), (0, μ1 232 1), (0, μ1 232 2), (0, μ1 232 3), (0, max (min (μ1 232 0) (μ1 232 1)) (min (μ1 232 2) (μ1 232 3))), (0, min (max (μ1 232 0) (μ1 232 2)) (max (μ1 232 1) (μ1 232 3))), (0, 0)] [(0, 0), (2, 205)] μ1 [] rfl trivial ?_
        refine pm_if hK zmm175 .eq 8 119 rfl rfl (fun h6 => ?_) (fun h6 => ?_)
        · have h6 : (0 : Int) = (0 : Int) := h6
          refine pm_blk hK zmm175 [] 3 122 [(2, 205), (0, q), (0, μ1 232 0), (0, μ1 232 1), (0, μ1 232 2), (0, μ1 232 3), (0, max (min (μ1 232 0) (μ1 232 1)) (min (μ1 232 2) (μ1 232 3))), (0, min (max (μ1 232 0) (μ1 232 2)) (max (μ1 232 1) (μ1 232 3))), (0, 0)] [(0, μ1 232 1), (0, μ1 232 0), (2, 205), (2, 205)] μ1 [] rfl trivial ?_
          refine pm_call hK zmm175 (377, 0, 157, 2) zM157 (0, 0) [(2, 205), (0, μ1 232 0), (0, μ1 232 1)] [(2, 205)] rfl rfl rfl rfl ⟨by omega, by rw [zn157]; omega⟩ (zh_lesser hK ⟨by omega, by omega⟩) (fun st10 μc10 hp10 => ?_)
          obtain ⟨rfl, rfl⟩ := hp10
          refine pm_blk hK zmm175 [] 1 127 [(2, 205), (0, q), (0, μ1 232 0), (0, μ1 232 1), (0, μ1 232 2), (0, μ1 232 3), (0, max (min (μ1 232 0) (μ1 232 1)) (min (μ1 232 2) (μ1 232 3))), (0, min (max (μ1 232 0) (μ1 232 2)) (max (μ1 232 1) (μ1 232 3))), (0, 0)] [(0, max (min (μ1 232 0) (μ1 232 1)) (min (μ1 232 2) (μ1 232 3))), (0, min (μ1 232 0) (μ1 232 1)), (2, 205)] μ1 [] rfl trivial ?_
          refine pm_icmp hK zmm175 .ne 7 134 rfl rfl (fun h7 => ?_) (fun h7 => ?_)
          · have h7 : min (μ1 232 0) (μ1 232 1) ≠ max (min (μ1 232 0) (μ1 232 1)) (min (μ1 232 2) (μ1 232 3)) := h7
            refine pm_blk hK zmm175 [] 2 136 [(2, 205), (0, q), (0, μ1 232 0), (0, μ1 232 1), (0, μ1 232 2), (0, μ1 232 3), (0, max (min (μ1 232 0) (μ1 232 1)) (min (μ1 232 2) (μ1 232 3))), (0, min (max (μ1 232 0) (μ1 232 2)) (max (μ1 232 1) (μ1 232 3))), (0, 0)] [(0, 1), (0, 0), (2, 205)] μ1 [] rfl trivial ?_
            refine pm_call hK zmm175 (451, 0, 177, 2) zM177 (1, 25) [(2, 205), (0, 0), (0, 1)] [] rfl rfl rfl rfl ⟨by omega, by rw [zn177]; omega⟩ (zh_isFraction hK (a := 0) (b := 1) ⟨by omega, by omega⟩ ⟨by omega, by omega⟩ (by omega) hTμ1 hb205 ⟨Nat.le_refl _, Nat.le_refl _⟩) (fun st11 μc11 hp11 => ?_)
            obtain ⟨rfl, hTc11⟩ := hp11
            refine pm_blk hK zmm175 [] 4 180 [(2, 205), (0, q), (0, μ1 232 0), (0, μ1 232 1), (0, μ1 232 2), (0, μ1 232 3), (0, max (min (μ1 232 0) (μ1 232 1)) (min (μ1 232 2) (μ1 232 3))), (0, min (max (μ1 232 0) (μ1 232 2)) (max (μ1 232 1) (μ1 232 3))), (0, 0)] [(0, Int.tmod q 2)] μc11 [2 ≠ 0] rfl ⟨by omega, trivial⟩ ?_
            refine pm_if hK zmm175 .ne 10 190 rfl rfl (fun h8 => ?_) (fun h8 => ?_)
            · have h8 : Int.tmod q 2 ≠ (0 : Int) := h8
              have f13 := zT_get hTc11 zs205_50 (i := 50) (by omega) (by omega)
              refine pm_blk hK zmm175 [] 2 194 [(2, 205), (0, q), (0, μ1 232 0), (0, μ1 232 1), (0, μ1 232 2), (0, μ1 232 3), (0, max (min (μ1 232 0) (μ1 232 1)) (min (μ1 232 2) (μ1 232 3))), (0, min (max (μ1 232 0) (μ1 232 2)) (max (μ1 232 1) (μ1 232 3))), (0, 0)] [(0, μc11 205 50)] μc11 [] rfl trivial ?_
              exact pm_iret rfl rfl ⟨_, rfl, ⟨by omega, by omega⟩, hTc11⟩
            · have h8 : Int.tmod q 2 = (0 : Int) := h8
              refine pm_blk hK zmm175 [] 1 184 [(2, 205), (0, q), (0, μ1 232 0), (0, μ1 232 1), (0, μ1 232 2), (0, μ1 232 3), (0, max (min (μ1 232 0) (μ1 232 1)) (min (μ1 232 2) (μ1 232 3))), (0, min (max (μ1 232 0) (μ1 232 2)) (max (μ1 232 1) (μ1 232 3))), (0, 0)] [(2, 205)] μc11 [] rfl trivial ?_
              have f14 := zT_get hTc11 zs205_49 (i := 49) (by omega) (by omega)
              refine pm_blk hK zmm175 [] 2 194 [(2, 205), (0, q), (0, μ1 232 0), (0, μ1 232 1), (0, μ1 232 2), (0, μ1 232 3), (0, max (min (μ1 232 0) (μ1 232 1)) (min (μ1 232 2) (μ1 232 3))), (0, min (max (μ1 232 0) (μ1 232 2)) (max (μ1 232 1) (μ1 232 3))), (0, 0)] [(0, μc11 205 49)] μc11 [] rfl trivial ?_
              exact pm_iret rfl rfl ⟨_, rfl, ⟨by omega, by omega⟩, hTc11⟩
          · have h7 : min (μ1 232 0) (μ1 232 1) = max (min (μ1 232 0) (μ1 232 1)) (min (μ1 232 2) (μ1 232 3)) := h7
            refine pm_blk hK zmm175 [] 3 136 [(2, 205), (0, q), (0, μ1 232 0), (0, μ1 232 1), (0, μ1 232 2), (0, μ1 232 3), (0, max (min (μ1 232 0) (μ1 232 1)) (min (μ1 232 2) (μ1 232 3))), (0, min (max (μ1 232 0) (μ1 232 2)) (max (μ1 232 1) (μ1 232 3))), (0, 0)] [(0, 1), (0, 1), (2, 205)] μ1 [] rfl trivial ?_
            refine pm_call hK zmm175 (451, 0, 177, 2) zM177 (1, 25) [(2, 205), (0, 1), (0, 1)] [] rfl rfl rfl rfl ⟨by omega, by rw [zn177]; omega⟩ (zh_isFraction hK (a := 1) (b := 1) ⟨by omega, by omega⟩ ⟨by omega, by omega⟩ (by omega) hTμ1 hb205 ⟨Nat.le_refl _, Nat.le_refl _⟩) (fun st12 μc12 hp12 => ?_)
            obtain ⟨rfl, hTc12⟩ := hp12
            refine pm_blk hK zmm175 [] 4 180 [(2, 205), (0, q), (0, μ1 232 0), (0, μ1 232 1), (0, μ1 232 2), (0, μ1 232 3), (0, max (min (μ1 232 0) (μ1 232 1)) (min (μ1 232 2) (μ1 232 3))), (0, min (max (μ1 232 0) (μ1 232 2)) (max (μ1 232 1) (μ1 232 3))), (0, 0)] [(0, Int.tmod q 2)] μc12 [2 ≠ 0] rfl ⟨by omega, trivial⟩ ?_
            refine pm_if hK zmm175 .ne 10 190 rfl rfl (fun h9 => ?_) (fun h9 => ?_)
            · have h9 : Int.tmod q 2 ≠ (0 : Int) := h9
              have f15 := zT_get hTc12 zs205_50 (i := 50) (by omega) (by omega)
              refine pm_blk hK zmm175 [] 2 194 [(2, 205), (0, q), (0, μ1 232 0), (0, μ1 232 1), (0, μ1 232 2), (0, μ1 232 3), (0, max (min (μ1 232 0) (μ1 232 1)) (min (μ1 232 2) (μ1 232 3))), (0, min (max (μ1 232 0) (μ1 232 2)) (max (μ1 232 1) (μ1 232 3))), (0, 0)] [(0, μc12 205 50)] μc12 [] rfl trivial ?_
              exact pm_iret rfl rfl ⟨_, rfl, ⟨by omega, by omega⟩, hTc12⟩
            · have h9 : Int.tmod q 2 = (0 : Int) := h9
              refine pm_blk hK zmm175 [] 1 184 [(2, 205), (0, q), (0, μ1 232 0), (0, μ1 232 1), (0, μ1 232 2), (0, μ1 232 3), (0, max (min (μ1 232 0) (μ1 232 1)) (min (μ1 232 2) (μ1 232 3))), (0, min (max (μ1 232 0) (μ1 232 2)) (max (μ1 232 1) (μ1 232 3))), (0, 0)] [(2, 205)] μc12 [] rfl trivial ?_
              have f16 := zT_get hTc12 zs205_49 (i := 49) (by omega) (by omega)
              refine pm_blk hK zmm175 [] 2 194 [(2, 205), (0, q), (0, μ1 232 0), (0, μ1 232 1), (0, μ1 232 2), (0, μ1 232 3), (0, max (min (μ1 232 0) (μ1 232 1)) (min (μ1 232 2) (μ1 232 3))), (0, min (max (μ1 232 0) (μ1 232 2)) (max (μ1 232 1) (μ1 232 3))), (0, 0)] [(0, μc12 205 49)] μc12 [] rfl trivial ?_
              exact pm_iret rfl rfl ⟨_, rfl, ⟨by omega, by omega⟩, hTc12⟩
        · have h6 : (0 : Int) ≠ (0 : Int) := h6
          refine pm_blk hK zmm175 [] 3 136 [(2, 205), (0, q), (0, μ1 232 0), (0, μ1 232 1), (0, μ1 232 2), (0, μ1 232 3), (0, max (min (μ1 232 0) (μ1 232 1)) (min (μ1 232 2) (μ1 232 3))), (0, min (max (μ1 232 0) (μ1 232 2)) (max (μ1 232 1) (μ1 232 3))), (0, 0)] [(0, 1), (0, max (min (μ1 232 0) (μ1 232 1)) (min (μ1 232 2) (μ1 232 3))), (2, 205)] μ1 [] rfl trivial ?_
          refine pm_call hK zmm175 (451, 0, 177, 2) zM177 (1, 25) [(2, 205), (0, max (min (μ1 232 0) (μ1 232 1)) (min (μ1 232 2) (μ1 232 3))), (0, 1)] [] rfl rfl rfl rfl ⟨by omega, by rw [zn177]; omega⟩ (zh_isFraction hK (a := (max (min (μ1 232 0) (μ1 232 1)) (min (μ1 232 2) (μ1 232 3)))) (b := 1) ⟨by omega, by omega⟩ ⟨by omega, by omega⟩ (by omega) hTμ1 hb205 ⟨Nat.le_refl _, Nat.le_refl _⟩) (fun st13 μc13 hp13 => ?_)
          obtain ⟨rfl, hTc13⟩ := hp13
          refine pm_blk hK zmm175 [] 4 180 [(2, 205), (0, q), (0, μ1 232 0), (0, μ1 232 1), (0, μ1 232 2), (0, μ1 232 3), (0, max (min (μ1 232 0) (μ1 232 1)) (min (μ1 232 2) (μ1 232 3))), (0, min (max (μ1 232 0) (μ1 232 2)) (max (μ1 232 1) (μ1 232 3))), (0, 0)] [(0, Int.tmod q 2)] μc13 [2 ≠ 0] rfl ⟨by omega, trivial⟩ ?_
          refine pm_if hK zmm175 .ne 10 190 rfl rfl (fun h10 => ?_) (fun h10 => ?_)
          · have h10 : Int.tmod q 2 ≠ (0 : Int) := h10
            have f17 := zT_get hTc13 zs205_50 (i := 50) (by omega) (by omega)
            refine pm_blk hK zmm175 [] 2 194 [(2, 205), (0, q), (0, μ1 232 0), (0, μ1 232 1), (0, μ1 232 2), (0, μ1 232 3), (0, max (min (μ1 232 0) (μ1 232 1)) (min (μ1 232 2) (μ1 232 3))), (0, min (max (μ1 232 0) (μ1 232 2)) (max (μ1 232 1) (μ1 232 3))), (0, 0)] [(0, μc13 205 50)] μc13 [] rfl trivial ?_
            exact pm_iret rfl rfl ⟨_, rfl, ⟨by omega, by omega⟩, hTc13⟩
          · have h10 : Int.tmod q 2 = (0 : Int) := h10
            refine pm_blk hK zmm175 [] 1 184 [(2, 205), (0, q), (0, μ1 232 0), (0, μ1 232 1), (0, μ1 232 2), (0, μ1 232 3), (0, max (min (μ1 232 0) (μ1 232 1)) (min (μ1 232 2) (μ1 232 3))), (0, min (max (μ1 232 0) (μ1 232 2)) (max (μ1 232 1) (μ1 232 3))), (0, 0)] [(2, 205)] μc13 [] rfl trivial ?_
            have f18 := zT_get hTc13 zs205_49 (i := 49) (by omega) (by omega)
            refine pm_blk hK zmm175 [] 2 194 [(2, 205), (0, q), (0, μ1 232 0), (0, μ1 232 1), (0, μ1 232 2), (0, μ1 232 3), (0, max (min (μ1 232 0) (μ1 232 1)) (min (μ1 232 2) (μ1 232 3))), (0, min (max (μ1 232 0) (μ1 232 2)) (max (μ1 232 1) (μ1 232 3))), (0, 0)] [(0, μc13 205 49)] μc13 [] rfl trivial ?_
            exact pm_iret rfl rfl ⟨_, rfl, ⟨by omega, by omega⟩, hTc13⟩
    · have h1 : q < (2 : Int) := h1
      refine pm_blk hK zmm175 [] 5 105 [(2, 205), (0, q), (0, μ1 232 0), (0, μ1 232 1), (0, μ1 232 2), (0, μ1 232 3), (0, max (min (μ1 232 0) (μ1 232 1)) (min (μ1 232 2) (μ1 232 3))), (0, min (max (μ1 232 0) (μ1 232 2)) (max (μ1 232 1) (μ1 232 3))), (0, 1)] [(0, min (max (μ1 232 0) (μ1 232 2)) (max (μ1 232 1) (μ1 232 3))), (0, max (min (μ1 232 0) (μ1 232 1)) (min (μ1 232 2) (μ1 232 3)))] μ1 [] rfl trivial ?_
      refine pm_icmp hK zmm175 .ne 37 142 rfl rfl (fun h11 => ?_) (fun h11 => ?_)
      · have h11 : max (min (μ1 232 0) (μ1 232 1)) (min (μ1 232 2) (μ1 232 3)) ≠ min (max (μ1 232 0) (μ1 232 2)) (max (μ1 232 1) (μ1 232 3)) := h11
        refine pm_blk hK zmm175 [] 2 145 [(2, 205), (0, q), (0, μ1 232 0), (0, μ1 232 1), (0, μ1 232 2), (0, μ1 232 3), (0, max (min (μ1 232 0) (μ1 232 1)) (min (μ1 232 2) (μ1 232 3))), (0, min (max (μ1 232 0) (μ1 232 2)) (max (μ1 232 1) (μ1 232 3))), (0, 1)] [(0, 1), (2, 205)] μ1 [] rfl trivial ?_
        refine pm_if hK zmm175 .eq 15 160 rfl rfl (fun h12 => ?_) (fun h12 => ?_)
        · have h12 : (1 : Int) = (0 : Int) := h12
          refine pm_blk hK zmm175 [] 10 174 [(2, 205), (0, q), (0, μ1 232 0), (0, μ1 232 1), (0, μ1 232 2), (0, μ1 232 3), (0, max (min (μ1 232 0) (μ1 232 1)) (min (μ1 232 2) (μ1 232 3))), (0, min (max (μ1 232 0) (μ1 232 2)) (max (μ1 232 1) (μ1 232 3))), (0, 1)] [(0, (((μ1 232 0) + (μ1 232 3)) - (μ1 232 1)) - (μ1 232 2)), (0, (μ1 232 3) - (μ1 232 2)), (2, 205)] μ1 [pm_in ((μ1 232 3) - (μ1 232 2)), pm_in ((μ1 232 0) + (μ1 232 3)), pm_in (((μ1 232 0) + (μ1 232 3)) - (μ1 232 1)), pm_in ((((μ1 232 0) + (μ1 232 3)) - (μ1 232 1)) - (μ1 232 2))] rfl ⟨pm_in_mk (by omega) (by omega), pm_in_mk (by omega) (by omega), pm_in_mk (by omega) (by omega), pm_in_mk (by omega) (by omega), trivial⟩ ?_
          refine pm_call hK zmm175 (451, 0, 177, 2) zM177 (1, 25) [(2, 205), (0, (μ1 232 3) - (μ1 232 2)), (0, (((μ1 232 0) + (μ1 232 3)) - (μ1 232 1)) - (μ1 232 2))] [] rfl rfl rfl rfl ⟨by omega, by rw [zn177]; omega⟩ (zh_isFraction hK (a := ((μ1 232 3) - (μ1 232 2))) (b := ((((μ1 232 0) + (μ1 232 3)) - (μ1 232 1)) - (μ1 232 2))) ⟨by omega, by omega⟩ ⟨by omega, by omega⟩ (by omega) hTμ1 hb205 ⟨Nat.le_refl _, Nat.le_refl _⟩) (fun st14 μc14 hp14 => ?_)
          obtain ⟨rfl, hTc14⟩ := hp14
          refine pm_blk hK zmm175 [] 3 180 [(2, 205), (0, q), (0, μ1 232 0), (0, μ1 232 1), (0, μ1 232 2), (0, μ1 232 3), (0, max (min (μ1 232 0) (μ1 232 1)) (min (μ1 232 2) (μ1 232 3))), (0, min (max (μ1 232 0) (μ1 232 2)) (max (μ1 232 1) (μ1 232 3))), (0, 1)] [(0, Int.tmod q 2)] μc14 [2 ≠ 0] rfl ⟨by omega, trivial⟩ ?_
          refine pm_if hK zmm175 .ne 10 190 rfl rfl (fun h13 => ?_) (fun h13 => ?_)
          · have h13 : Int.tmod q 2 ≠ (0 : Int) := h13
            have f19 := zT_get hTc14 zs205_50 (i := 50) (by omega) (by omega)
            refine pm_blk hK zmm175 [] 2 194 [(2, 205), (0, q), (0, μ1 232 0), (0, μ1 232 1), (0, μ1 232 2), (0, μ1 232 3), (0, max (min (μ1 232 0) (μ1 232 1)) (min (μ1 232 2) (μ1 232 3))), (0, min (max (μ1 232 0) (μ1 232 2)) (max (μ1 232 1) (μ1 232 3))), (0, 1)] [(0, μc14 205 50)] μc14 [] rfl trivial ?_
            exact pm_iret rfl rfl ⟨_, rfl, ⟨by omega, by omega⟩, hTc14⟩
          · have h13 : Int.tmod q 2 = (0 : Int) := h13
            refine pm_blk hK zmm175 [] 1 184 [(2, 205), (0, q), (0, μ1 232 0), (0, μ1 232 1), (0, μ1 232 2), (0, μ1 232 3), (0, max (min (μ1 232 0) (μ1 232 1)) (min (μ1 232 2) (μ1 232 3))), (0, min (max (μ1 232 0) (μ1 232 2)) (max (μ1 232 1) (μ1 232 3))), (0, 1)] [(2, 205)] μc14 [] rfl trivial ?_
            have f20 := zT_get hTc14 zs205_49 (i := 49) (by omega) (by omega)
            refine pm_blk hK zmm175 [] 2 194 [(2, 205), (0, q), (0, μ1 232 0), (0, μ1 232 1), (0, μ1 232 2), (0, μ1 232 3), (0, max (min (μ1 232 0) (μ1 232 1)) (min (μ1 232 2) (μ1 232 3))), (0, min (max (μ1 232 0) (μ1 232 2)) (max (μ1 232 1) (μ1 232 3))), (0, 1)] [(0, μc14 205 49)] μc14 [] rfl trivial ?_
            exact pm_iret rfl rfl ⟨_, rfl, ⟨by omega, by omega⟩, hTc14⟩
        · have h12 : (1 : Int) ≠ (0 : Int) := h12
          have z1 := zmul99 (a := (μ1 232 0)) (b := (μ1 232 3)) (by omega) (by omega)
          have z2 := zmul99 (a := (μ1 232 1)) (b := (μ1 232 2)) (by omega) (by omega)
          refine pm_blk hK zmm175 [] 15 174 [(2, 205), (0, q), (0, μ1 232 0), (0, μ1 232 1), (0, μ1 232 2), (0, μ1 232 3), (0, max (min (μ1 232 0) (μ1 232 1)) (min (μ1 232 2) (μ1 232 3))), (0, min (max (μ1 232 0) (μ1 232 2)) (max (μ1 232 1) (μ1 232 3))), (0, 1)] [(0, (((μ1 232 0) + (μ1 232 3)) - (μ1 232 1)) - (μ1 232 2)), (0, ((μ1 232 0) * (μ1 232 3)) - ((μ1 232 1) * (μ1 232 2))), (2, 205)] μ1 [pm_in ((μ1 232 0) * (μ1 232 3)), pm_in ((μ1 232 1) * (μ1 232 2)), pm_in (((μ1 232 0) * (μ1 232 3)) - ((μ1 232 1) * (μ1 232 2))), pm_in ((μ1 232 0) + (μ1 232 3)), pm_in (((μ1 232 0) + (μ1 232 3)) - (μ1 232 1)), pm_in ((((μ1 232 0) + (μ1 232 3)) - (μ1 232 1)) - (μ1 232 2))] rfl ⟨pm_in_mk (by omega) (by omega), pm_in_mk (by omega) (by omega), pm_in_mk (by omega) (by omega), pm_in_mk (by omega) (by omega), pm_in_mk (by omega) (by omega), pm_in_mk (by omega) (by omega), trivial⟩ ?_
          refine pm_call hK zmm175 (451, 0, 177, 2) zM177 (1, 25) [(2, 205), (0, ((μ1 232 0) * (μ1 232 3)) - ((μ1 232 1) * (μ1 232 2))), (0, (((μ1 232 0) + (μ1 232 3)) - (μ1 232 1)) - (μ1 232 2))] [] rfl rfl rfl rfl ⟨by omega, by rw [zn177]; omega⟩ (zh_isFraction hK (a := (((μ1 232 0) * (μ1 232 3)) - ((μ1 232 1) * (μ1 232 2)))) (b := ((((μ1 232 0) + (μ1 232 3)) - (μ1 232 1)) - (μ1 232 2))) ⟨by omega, by omega⟩ ⟨by omega, by omega⟩ (by omega) hTμ1 hb205 ⟨Nat.le_refl _, Nat.le_refl _⟩) (fun st15 μc15 hp15 => ?_)
          obtain ⟨rfl, hTc15⟩ := hp15
          refine pm_blk hK zmm175 [] 3 180 [(2, 205), (0, q), (0, μ1 232 0), (0, μ1 232 1), (0, μ1 232 2), (0, μ1 232 3), (0, max (min (μ1 232 0) (μ1 232 1)) (min (μ1 232 2) (μ1 232 3))), (0, min (max (μ1 232 0) (μ1 232 2)) (max (μ1 232 1) (μ1 232 3))), (0, 1)] [(0, Int.tmod q 2)] μc15 [2 ≠ 0] rfl ⟨by omega, trivial⟩ ?_
          refine pm_if hK zmm175 .ne 10 190 rfl rfl (fun h14 => ?_) (fun h14 => ?_)
          · have h14 : Int.tmod q 2 ≠ (0 : Int) := h14
            have f21 := zT_get hTc15 zs205_50 (i := 50) (by omega) (by omega)
            refine pm_blk hK zmm175 [] 2 194 [(2, 205), (0, q), (0, μ1 232 0), (0, μ1 232 1), (0, μ1 232 2), (0, μ1 232 3), (0, max (min (μ1 232 0) (μ1 232 1)) (min (μ1 232 2) (μ1 232 3))), (0, min (max (μ1 232 0) (μ1 232 2)) (max (μ1 232 1) (μ1 232 3))), (0, 1)] [(0, μc15 205 50)] μc15 [] rfl trivial ?_
            exact pm_iret rfl rfl ⟨_, rfl, ⟨by omega, by omega⟩, hTc15⟩
          · have h14 : Int.tmod q 2 = (0 : Int) := h14
            refine pm_blk hK zmm175 [] 1 184 [(2, 205), (0, q), (0, μ1 232 0), (0, μ1 232 1), (0, μ1 232 2), (0, μ1 232 3), (0, max (min (μ1 232 0) (μ1 232 1)) (min (μ1 232 2) (μ1 232 3))), (0, min (max (μ1 232 0) (μ1 232 2)) (max (μ1 232 1) (μ1 232 3))), (0, 1)] [(2, 205)] μc15 [] rfl trivial ?_
            have f22 := zT_get hTc15 zs205_49 (i := 49) (by omega) (by omega)
            refine pm_blk hK zmm175 [] 2 194 [(2, 205), (0, q), (0, μ1 232 0), (0, μ1 232 1), (0, μ1 232 2), (0, μ1 232 3), (0, max (min (μ1 232 0) (μ1 232 1)) (min (μ1 232 2) (μ1 232 3))), (0, min (max (μ1 232 0) (μ1 232 2)) (max (μ1 232 1) (μ1 232 3))), (0, 1)] [(0, μc15 205 49)] μc15 [] rfl trivial ?_
            exact pm_iret rfl rfl ⟨_, rfl, ⟨by omega, by omega⟩, hTc15⟩
      · have h11 : max (min (μ1 232 0) (μ1 232 1)) (min (μ1 232 2) (μ1 232 3)) = min (max (μ1 232 0) (μ1 232 2)) (max (μ1 232 1) (μ1 232 3)) := h11
        refine pm_blk hK zmm175 [] 2 111 [(2, 205), (0, q), (0, μ1 232 0), (0, μ1 232 1), (0, μ1 232 2), (0, μ1 232 3), (0, max (min (μ1 232 0) (μ1 232 1)) (min (μ1 232 2) (μ1 232 3))), (0, min (max (μ1 232 0) (μ1 232 2)) (max (μ1 232 1) (μ1 232 3))), (0, 1)] [(0, 1), (2, 205)] μ1 [] rfl trivial ?_
        refine pm_if hK zmm175 .eq 8 119 rfl rfl (fun h15 => ?_) (fun h15 => ?_)
        · have h15 : (1 : Int) = (0 : Int) := h15
          refine pm_blk hK zmm175 [] 3 122 [(2, 205), (0, q), (0, μ1 232 0), (0, μ1 232 1), (0, μ1 232 2), (0, μ1 232 3), (0, max (min (μ1 232 0) (μ1 232 1)) (min (μ1 232 2) (μ1 232 3))), (0, min (max (μ1 232 0) (μ1 232 2)) (max (μ1 232 1) (μ1 232 3))), (0, 1)] [(0, μ1 232 1), (0, μ1 232 0), (2, 205), (2, 205)] μ1 [] rfl trivial ?_
          refine pm_call hK zmm175 (377, 0, 157, 2) zM157 (0, 0) [(2, 205), (0, μ1 232 0), (0, μ1 232 1)] [(2, 205)] rfl rfl rfl rfl ⟨by omega, by rw [zn157]; omega⟩ (zh_lesser hK ⟨by omega, by omega⟩) (fun st16 μc16 hp16 => ?_)
          obtain ⟨rfl, rfl⟩ := hp16
          refine pm_blk hK zmm175 [] 1 127 [(2, 205), (0, q), (0, μ1 232 0), (0, μ1 232 1), (0, μ1 232 2), (0, μ1 232 3), (0, max (min (μ1 232 0) (μ1 232 1)) (min (μ1 232 2) (μ1 232 3))), (0, min (max (μ1 232 0) (μ1 232 2)) (max (μ1 232 1) (μ1 232 3))), (0, 1)] [(0, max (min (μ1 232 0) (μ1 232 1)) (min (μ1 232 2) (μ1 232 3))), (0, min (μ1 232 0) (μ1 232 1)), (2, 205)] μ1 [] rfl trivial ?_
          refine pm_icmp hK zmm175 .ne 7 134 rfl rfl (fun h16 => ?_) (fun h16 => ?_)
          · have h16 : min (μ1 232 0) (μ1 232 1) ≠ max (min (μ1 232 0) (μ1 232 1)) (min (μ1 232 2) (μ1 232 3)) := h16
            refine pm_blk hK zmm175 [] 2 136 [(2, 205), (0, q), (0, μ1 232 0), (0, μ1 232 1), (0, μ1 232 2), (0, μ1 232 3), (0, max (min (μ1 232 0) (μ1 232 1)) (min (μ1 232 2) (μ1 232 3))), (0, min (max (μ1 232 0) (μ1 232 2)) (max (μ1 232 1) (μ1 232 3))), (0, 1)] [(0, 1), (0, 0), (2, 205)] μ1 [] rfl trivial ?_
            refine pm_call hK zmm175 (451, 0, 177, 2) zM177 (1, 25) [(2, 205), (0, 0), (0, 1)] [] rfl rfl rfl rfl ⟨by omega, by rw [zn177]; omega⟩ (zh_isFraction hK (a := 0) (b := 1) ⟨by omega, by omega⟩ ⟨by omega, by omega⟩ (by omega) hTμ1 hb205 ⟨Nat.le_refl _, Nat.le_refl _⟩) (fun st17 μc17 hp17 => ?_)
            obtain ⟨rfl, hTc17⟩ := hp17
            refine pm_blk hK zmm175 [] 4 180 [(2, 205), (0, q), (0, μ1 232 0), (0, μ1 232 1), (0, μ1 232 2), (0, μ1 232 3), (0, max (min (μ1 232 0) (μ1 232 1)) (min (μ1 232 2) (μ1 232 3))), (0, min (max (μ1 232 0) (μ1 232 2)) (max (μ1 232 1) (μ1 232 3))), (0, 1)] [(0, Int.tmod q 2)] μc17 [2 ≠ 0] rfl ⟨by omega, trivial⟩ ?_
            refine pm_if hK zmm175 .ne 10 190 rfl rfl (fun h17 => ?_) (fun h17 => ?_)
            · have h17 : Int.tmod q 2 ≠ (0 : Int) := h17
              have f23 := zT_get hTc17 zs205_50 (i := 50) (by omega) (by omega)
              refine pm_blk hK zmm175 [] 2 194 [(2, 205), (0, q), (0, μ1 232 0), (0, μ1 232 1), (0, μ1 232 2), (0, μ1 232 3), (0, max (min (μ1 232 0) (μ1 232 1)) (min (μ1 232 2) (μ1 232 3))), (0, min (max (μ1 232 0) (μ1 232 2)) (max (μ1 232 1) (μ1 232 3))), (0, 1)] [(0, μc17 205 50)] μc17 [] rfl trivial ?_
              exact pm_iret rfl rfl ⟨_, rfl, ⟨by omega, by omega⟩, hTc17⟩
            · have h17 : Int.tmod q 2 = (0 : Int) := h17
              refine pm_blk hK zmm175 [] 1 184 [(2, 205), (0, q), (0, μ1 232 0), (0, μ1 232 1), (0, μ1 232 2), (0, μ1 232 3), (0, max (min (μ1 232 0) (μ1 232 1)) (min (μ1 232 2) (μ1 232 3))), (0, min (max (μ1 232 0) (μ1 232 2)) (max (μ1 232 1) (μ1 232 3))), (0, 1)] [(2, 205)] μc17 [] rfl trivial ?_
              have f24 := zT_get hTc17 zs205_49 (i := 49) (by omega) (by omega)
              refine pm_blk hK zmm175 [] 2 194 [(2, 205), (0, q), (0, μ1 232 0), (0, μ1 232 1), (0, μ1 232 2), (0, μ1 232 3), (0, max (min (μ1 232 0) (μ1 232 1)) (min (μ1 232 2) (μ1 232 3))), (0, min (max (μ1 232 0) (μ1 232 2)) (max (μ1 232 1) (μ1 232 3))), (0, 1)] [(0, μc17 205 49)] μc17 [] rfl trivial ?_
              exact pm_iret rfl rfl ⟨_, rfl, ⟨by omega, by omega⟩, hTc17⟩
          · have h16 : min (μ1 232 0) (μ1 232 1) = max (min (μ1 232 0) (μ1 232 1)) (min (μ1 232 2) (μ1 232 3)) := h16
            refine pm_blk hK zmm175 [] 3 136 [(2, 205), (0, q), (0, μ1 232 0), (0, μ1 232 1), (0, μ1 232 2), (0, μ1 232 3), (0, max (min (μ1 232 0) (μ1 232 1)) (min (μ1 232 2) (μ1 232 3))), (0, min (max (μ1 232 0) (μ1 232 2)) (max (μ1 232 1) (μ1 232 3))), (0, 1)] [(0, 1), (0, 1), (2, 205)] μ1 [] rfl trivial ?_
            refine pm_call hK zmm175 (451, 0, 177, 2) zM177 (1, 25) [(2, 205), (0, 1), (0, 1)] [] rfl rfl rfl rfl ⟨by omega, by rw [zn177]; omega⟩ (zh_isFraction hK (a := 1) (b := 1) ⟨by omega, by omega⟩ ⟨by omega, by omega⟩ (by omega) hTμ1 hb205 ⟨Nat.le_refl _, Nat.le_refl _⟩) (fun st18 μc18 hp18 => ?_)
            obtain ⟨rfl, hTc18⟩ := hp18
            refine pm_blk hK zmm175 [] 4 180 [(2, 205), (0, q), (0, μ1 232 0), (0, μ1 232 1), (0, μ1 232 2), (0, μ1 232 3), (0, max (min (μ1 232 0) (μ1 232 1)) (min (μ1 232 2) (μ1 232 3))), (0, min (max (μ1 232 0) (μ1 232 2)) (max (μ1 232 1) (μ1 232 3))), (0, 1)] [(0, Int.tmod q 2)] μc18 [2 ≠ 0] rfl ⟨by omega, trivial⟩ ?_
            refine pm_if hK zmm175 .ne 10 190 rfl rfl (fun h18 => ?_) (fun h18 => ?_)
            · have h18 : Int.tmod q 2 ≠ (0 : Int) := h18
              have f25 := zT_get hTc18 zs205_50 (i := 50) (by omega) (by omega)
              refine pm_blk hK zmm175 [] 2 194 [(2, 205), (0, q), (0, μ1 232 0), (0, μ1 232 1), (0, μ1 232 2), (0, μ1 232 3), (0, max (min (μ1 232 0) (μ1 232 1)) (min (μ1 232 2) (μ1 232 3))), (0, min (max (μ1 232 0) (μ1 232 2)) (max (μ1 232 1) (μ1 232 3))), (0, 1)] [(0, μc18 205 50)] μc18 [] rfl trivial ?_
              exact pm_iret rfl rfl ⟨_, rfl, ⟨by omega, by omega⟩, hTc18⟩
            · have h18 : Int.tmod q 2 = (0 : Int) := h18
              refine pm_blk hK zmm175 [] 1 184 [(2, 205), (0, q), (0, μ1 232 0), (0, μ1 232 1), (0, μ1 232 2), (0, μ1 232 3), (0, max (min (μ1 232 0) (μ1 232 1)) (min (μ1 232 2) (μ1 232 3))), (0, min (max (μ1 232 0) (μ1 232 2)) (max (μ1 232 1) (μ1 232 3))), (0, 1)] [(2, 205)] μc18 [] rfl trivial ?_
              have f26 := zT_get hTc18 zs205_49 (i := 49) (by omega) (by omega)
              refine pm_blk hK zmm175 [] 2 194 [(2, 205), (0, q), (0, μ1 232 0), (0, μ1 232 1), (0, μ1 232 2), (0, μ1 232 3), (0, max (min (μ1 232 0) (μ1 232 1)) (min (μ1 232 2) (μ1 232 3))), (0, min (max (μ1 232 0) (μ1 232 2)) (max (μ1 232 1) (μ1 232 3))), (0, 1)] [(0, μc18 205 49)] μc18 [] rfl trivial ?_
              exact pm_iret rfl rfl ⟨_, rfl, ⟨by omega, by omega⟩, hTc18⟩
        · have h15 : (1 : Int) ≠ (0 : Int) := h15
          refine pm_blk hK zmm175 [] 3 136 [(2, 205), (0, q), (0, μ1 232 0), (0, μ1 232 1), (0, μ1 232 2), (0, μ1 232 3), (0, max (min (μ1 232 0) (μ1 232 1)) (min (μ1 232 2) (μ1 232 3))), (0, min (max (μ1 232 0) (μ1 232 2)) (max (μ1 232 1) (μ1 232 3))), (0, 1)] [(0, 1), (0, max (min (μ1 232 0) (μ1 232 1)) (min (μ1 232 2) (μ1 232 3))), (2, 205)] μ1 [] rfl trivial ?_
          refine pm_call hK zmm175 (451, 0, 177, 2) zM177 (1, 25) [(2, 205), (0, max (min (μ1 232 0) (μ1 232 1)) (min (μ1 232 2) (μ1 232 3))), (0, 1)] [] rfl rfl rfl rfl ⟨by omega, by rw [zn177]; omega⟩ (zh_isFraction hK (a := (max (min (μ1 232 0) (μ1 232 1)) (min (μ1 232 2) (μ1 232 3)))) (b := 1) ⟨by omega, by omega⟩ ⟨by omega, by omega⟩ (by omega) hTμ1 hb205 ⟨Nat.le_refl _, Nat.le_refl _⟩) (fun st19 μc19 hp19 => ?_)
          obtain ⟨rfl, hTc19⟩ := hp19
          refine pm_blk hK zmm175 [] 4 180 [(2, 205), (0, q), (0, μ1 232 0), (0, μ1 232 1), (0, μ1 232 2), (0, μ1 232 3), (0, max (min (μ1 232 0) (μ1 232 1)) (min (μ1 232 2) (μ1 232 3))), (0, min (max (μ1 232 0) (μ1 232 2)) (max (μ1 232 1) (μ1 232 3))), (0, 1)] [(0, Int.tmod q 2)] μc19 [2 ≠ 0] rfl ⟨by omega, trivial⟩ ?_
          refine pm_if hK zmm175 .ne 10 190 rfl rfl (fun h19 => ?_) (fun h19 => ?_)
          · have h19 : Int.tmod q 2 ≠ (0 : Int) := h19
            have f27 := zT_get hTc19 zs205_50 (i := 50) (by omega) (by omega)
            refine pm_blk hK zmm175 [] 2 194 [(2, 205), (0, q), (0, μ1 232 0), (0, μ1 232 1), (0, μ1 232 2), (0, μ1 232 3), (0, max (min (μ1 232 0) (μ1 232 1)) (min (μ1 232 2) (μ1 232 3))), (0, min (max (μ1 232 0) (μ1 232 2)) (max (μ1 232 1) (μ1 232 3))), (0, 1)] [(0, μc19 205 50)] μc19 [] rfl trivial ?_
            exact pm_iret rfl rfl ⟨_, rfl, ⟨by omega, by omega⟩, hTc19⟩
          · have h19 : Int.tmod q 2 = (0 : Int) := h19
            refine pm_blk hK zmm175 [] 1 184 [(2, 205), (0, q), (0, μ1 232 0), (0, μ1 232 1), (0, μ1 232 2), (0, μ1 232 3), (0, max (min (μ1 232 0) (μ1 232 1)) (min (μ1 232 2) (μ1 232 3))), (0, min (max (μ1 232 0) (μ1 232 2)) (max (μ1 232 1) (μ1 232 3))), (0, 1)] [(2, 205)] μc19 [] rfl trivial ?_
            have f28 := zT_get hTc19 zs205_49 (i := 49) (by omega) (by omega)
            refine pm_blk hK zmm175 [] 2 194 [(2, 205), (0, q), (0, μ1 232 0), (0, μ1 232 1), (0, μ1 232 2), (0, μ1 232 3), (0, max (min (μ1 232 0) (μ1 232 1)) (min (μ1 232 2) (μ1 232 3))), (0, min (max (μ1 232 0) (μ1 232 2)) (max (μ1 232 1) (μ1 232 3))), (0, 1)] [(0, μc19 205 49)] μc19 [] rfl trivial ?_
            exact pm_iret rfl rfl ⟨_, rfl, ⟨by omega, by omega⟩, hTc19⟩
  · have h0 : (if 0 ≤ q ∧ q ≤ 3 then 1 else 0 : Int) = (0 : Int) := h0
    have h0 := zif0 h0
    refine pm_blk hK zmm175 [] 1 18 [(2, 205), (0, q), (9, 0), (9, 0), (9, 0), (9, 0), (9, 0), (9, 0), (9, 0)] [(0, (-10000))] μ1 [] rfl trivial ?_
    exact pm_iret rfl rfl ⟨_, rfl, ⟨by omega, by omega⟩, hTμ1⟩
end ZHW
