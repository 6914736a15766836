/-! a year in letters; walks printed by program (wip/p30/pmgen.py) and filled by hand -/
section ZHW
variable {D : va_G} {Wm : Nat} {ST : List (String × String × String × Nat)} {b0 : sx_B} {l : Launch} {Sg : Nat → Option Nat} {bud : sx_Bu} {μ : pm_Mem} {B0 : Nat → Prop} {J : (Nat → Option Nat) → Heap → Prop}
set_option maxRecDepth 100000 in
theorem zh_writesLetter (hK : zKK ST) {v : Int} (hv : 0 ≤ v ∧ v ≤ 6) (hm : μ 205 62 ≤ 19) (hT : zTJ μ) (hb205 : sx_bit Wm 205 = true) (hb240 : sx_bit Wm 240 = true) (hbd : 0 ≤ bud.1 ∧ 0 ≤ bud.2.1) : zC D Wm ST b0 l Sg zM212 bud [(2, 205), (0, v)] μ (fun st' μ' => st' = [] ∧ zTJ μ' ∧ μ' 205 62 = μ 205 62 + 1) := by
  have f1 := zT_get hT zs205_62 (i := 62) (by omega) (by omega)
  refine pm_blk hK zmm212 [] 6 10 [(2, 205), (0, v)] [] (pm_up μ 240 (μ 205 62) v) [sx_bit Wm 240 = true, 0 ≤ μ 205 62 ∧ μ 205 62 < 20] rfl ⟨hb240, ⟨by omega, by omega⟩, trivial⟩ ?_
  obtain ⟨μ1, eμ1⟩ : ∃ μ', μ' = pm_up μ 240 (μ 205 62) v := ⟨_, rfl⟩
  rw [← eμ1]
  have hTμ1 : zTJ μ1 := by rw [eμ1]; exact zT_up hT zs240_0 rfl (i := μ 205 62) (by omega) (by omega) (by omega) (by omega)
  have g2 : μ1 205 62 = μ 205 62 := by rw [eμ1, pm_up_off (by decide)]
  have f3 := zT_get hTμ1 zs205_62 (i := 62) (by omega) (by omega)
  refine pm_blk hK zmm212 [] 6 20 [(2, 205), (0, v)] [] (pm_up μ1 205 62 ((μ1 205 62) + 1)) [pm_in ((μ1 205 62) + 1), sx_bit Wm 205 = true] rfl ⟨pm_in_mk (by omega) (by omega), hb205, trivial⟩ ?_
  obtain ⟨μ2, eμ2⟩ : ∃ μ', μ' = pm_up μ1 205 62 ((μ1 205 62) + 1) := ⟨_, rfl⟩
  rw [← eμ2]
  have hTμ2 : zTJ μ2 := by rw [eμ2]; exact zT_up hTμ1 zs205_62 rfl (i := 62) (by omega) (by omega) (by omega) (by omega)
  exact pm_vret rfl rfl ⟨rfl, hTμ2, by rw [eμ2, pm_up_eq]; omega⟩
set_option maxRecDepth 100000 in
theorem zl_wd (hK : zKK ST)  {g o t : Int} (ho : 0 ≤ o ∧ o ≤ 6) (ht : t ≤ 20) (hb205 : sx_bit Wm 205 = true) (hb240 : sx_bit Wm 240 = true) (hbd : 1 ≤ bud.1 ∧ 21 ≤ bud.2.1) : ∀ (n : Nat) {k : Int} {μ : pm_Mem}, k.toNat = n → ∀ (hk : 0 ≤ k ∧ k ≤ 4) (hm : μ 205 62 + k ≤ t) (hT : zTJ μ), zW D Wm ST b0 l Sg zM211 bud (pm_X zM211 (fun st' μ' => st' = [] ∧ zTJ μ' ∧ μ' 205 62 ≤ t)) 52 [(2, 205), (0, g), (0, o), (0, k)] [] μ := by
  intro n
  induction n using Nat.strongRecOn with
  | ind n ih =>
    intro k μ hn hk hm hT
    refine pm_blk hK zmm211 [] 1 53 [(2, 205), (0, g), (0, o), (0, k)] [(0, k)] μ [] rfl trivial ?_
    refine pm_if hK zmm211 .le 14 67 rfl rfl (fun h0 => ?_) (fun h0 => ?_)
    · have h0 : k ≤ (0 : Int) := h0
      exact pm_vret rfl rfl ⟨rfl, hT, by omega⟩
    · have h0 : (0 : Int) < k := h0
      refine pm_blk hK zmm211 [] 2 58 [(2, 205), (0, g), (0, o), (0, k)] [(0, o), (2, 205)] μ [] rfl trivial ?_
      refine pm_call hK zmm211 (486, 0, 212, 1) zM212 (0, 0) [(2, 205), (0, o)] [] rfl rfl rfl rfl ⟨by omega, by rw [zn212]; omega⟩ (zh_writesLetter hK (v := o) ⟨by omega, by omega⟩ (by omega) hT hb205 hb240 ⟨Nat.le_refl _, Nat.le_refl _⟩) (fun st1 μc1 hp1 => ?_)
      obtain ⟨rfl, hTc1, hm1⟩ := hp1
      refine pm_blk hK zmm211 [] 2 52 [(2, 205), (0, g), (0, o), (0, k + (-1))] [] μc1 [pm_in (k + (-1))] rfl ⟨pm_in_mk (by omega) (by omega), trivial⟩ ?_
      exact ih _ (by omega) rfl ⟨by omega, by omega⟩ (by omega) hTc1
set_option maxRecDepth 100000 in
theorem zh_writesDigit (hK : zKK ST) {g o : Int} (hg : 0 ≤ g ∧ g ≤ 9) (ho : 0 ≤ o ∧ o ≤ 6) (hgo : o ≤ 4 ∨ g ≤ 3) (hm : μ 205 62 ≤ 16) (hT : zTJ μ) (hb205 : sx_bit Wm 205 = true) (hb240 : sx_bit Wm 240 = true) (hbd : 1 ≤ bud.1 ∧ 21 ≤ bud.2.1) : zC D Wm ST b0 l Sg zM211 bud [(2, 205), (0, g), (0, o)] μ (fun st' μ' => st' = [] ∧ zTJ μ' ∧ μ' 205 62 ≤ μ 205 62 + 4) := by
  refine pm_blk hK zmm211 [] 2 3 [(2, 205), (0, g), (0, o), (9, 0)] [(0, 9), (0, g)] μ [] rfl trivial ?_
  refine pm_icmp hK zmm211 .eq 8 11 rfl rfl (fun h0 => ?_) (fun h0 => ?_)
  · have h0 : g = (9 : Int) := h0
    refine pm_blk hK zmm211 [] 2 13 [(2, 205), (0, g), (0, o), (9, 0)] [(0, o), (2, 205)] μ [] rfl trivial ?_
    refine pm_call hK zmm211 (486, 0, 212, 1) zM212 (0, 0) [(2, 205), (0, o)] [] rfl rfl rfl rfl ⟨by omega, by rw [zn212]; omega⟩ (zh_writesLetter hK (v := o) ⟨by omega, by omega⟩ (by omega) hT hb205 hb240 ⟨Nat.le_refl _, Nat.le_refl _⟩) (fun st1 μc1 hp1 => ?_)
    obtain ⟨rfl, hTc1, hm1⟩ := hp1
    refine pm_blk hK zmm211 [] 3 20 [(2, 205), (0, g), (0, o), (9, 0)] [(0, 9), (0, g), (2, 205)] μc1 [] rfl trivial ?_
    refine pm_icmp hK zmm211 .ne 9 29 rfl rfl (fun h1 => ?_) (fun h1 => ?_)
    · have h1 : g ≠ (9 : Int) := h1
      refine pm_blk hK zmm211 [] 3 32 [(2, 205), (0, g), (0, o), (9, 0)] [(0, o + 1), (2, 205)] μc1 [pm_in (o + 1)] rfl ⟨pm_in_mk (by omega) (by omega), trivial⟩ ?_
      refine pm_call hK zmm211 (486, 0, 212, 1) zM212 (0, 0) [(2, 205), (0, o + 1)] [] rfl rfl rfl rfl ⟨by omega, by rw [zn212]; omega⟩ (zh_writesLetter hK (v := (o + 1)) ⟨by omega, by omega⟩ (by omega) hTc1 hb205 hb240 ⟨Nat.le_refl _, Nat.le_refl _⟩) (fun st2 μc2 hp2 => ?_)
      obtain ⟨rfl, hTc2, hm2⟩ := hp2
      exact pm_vret rfl rfl ⟨rfl, hTc2, by omega⟩
    · have h1 : g = (9 : Int) := h1
      refine pm_blk hK zmm211 [] 4 32 [(2, 205), (0, g), (0, o), (9, 0)] [(0, o + 2), (2, 205)] μc1 [pm_in (o + 2)] rfl ⟨pm_in_mk (by omega) (by omega), trivial⟩ ?_
      refine pm_call hK zmm211 (486, 0, 212, 1) zM212 (0, 0) [(2, 205), (0, o + 2)] [] rfl rfl rfl rfl ⟨by omega, by rw [zn212]; omega⟩ (zh_writesLetter hK (v := (o + 2)) ⟨by omega, by omega⟩ (by omega) hTc1 hb205 hb240 ⟨Nat.le_refl _, Nat.le_refl _⟩) (fun st3 μc3 hp3 => ?_)
      obtain ⟨rfl, hTc3, hm3⟩ := hp3
      exact pm_vret rfl rfl ⟨rfl, hTc3, by omega⟩
  · have h0 : g ≠ (9 : Int) := h0
    refine pm_blk hK zmm211 [] 2 8 [(2, 205), (0, g), (0, o), (9, 0)] [(0, 4), (0, g)] μ [] rfl trivial ?_
    refine pm_icmp hK zmm211 .ne 28 36 rfl rfl (fun h2 => ?_) (fun h2 => ?_)
    · have h2 : g ≠ (4 : Int) := h2
      refine pm_blk hK zmm211 [] 2 38 [(2, 205), (0, g), (0, o), (9, 0)] [(0, 4), (0, g)] μ [] rfl trivial ?_
      refine pm_icmp hK zmm211 .le 10 48 rfl rfl (fun h3 => ?_) (fun h3 => ?_)
      · have h3 : g ≤ (4 : Int) := h3
        have hr : g.tmod 5 = g % 5 := Int.tmod_eq_emod_of_nonneg (by omega)
        refine pm_blk hK zmm211 [] 4 52 [(2, 205), (0, g), (0, o), (0, Int.tmod g 5)] [] μ [5 ≠ 0] rfl ⟨by omega, trivial⟩ ?_
        rw [hr]
        exact zl_wd hK (t := μ 205 62 + 4) ho (by omega) hb205 hb240 hbd _ rfl ⟨by omega, by omega⟩ (by omega) hT
      · have h3 : (4 : Int) < g := h3
        refine pm_blk hK zmm211 [] 4 45 [(2, 205), (0, g), (0, o), (9, 0)] [(0, o + 1), (2, 205)] μ [pm_in (o + 1)] rfl ⟨pm_in_mk (by omega) (by omega), trivial⟩ ?_
        refine pm_call hK zmm211 (486, 0, 212, 1) zM212 (0, 0) [(2, 205), (0, o + 1)] [] rfl rfl rfl rfl ⟨by omega, by rw [zn212]; omega⟩ (zh_writesLetter hK (v := (o + 1)) ⟨by omega, by omega⟩ (by omega) hT hb205 hb240 ⟨Nat.le_refl _, Nat.le_refl _⟩) (fun st4 μc4 hp4 => ?_)
        obtain ⟨rfl, hTc4, hm4⟩ := hp4
        have hr : g.tmod 5 = g % 5 := Int.tmod_eq_emod_of_nonneg (by omega)
        refine pm_blk hK zmm211 [] 4 52 [(2, 205), (0, g), (0, o), (0, Int.tmod g 5)] [] μc4 [5 ≠ 0] rfl ⟨by omega, trivial⟩ ?_
        rw [hr]
        exact zl_wd hK (t := μ 205 62 + 4) ho (by omega) hb205 hb240 hbd _ rfl ⟨by omega, by omega⟩ (by omega) hTc4
    · have h2 : g = (4 : Int) := h2
      refine pm_blk hK zmm211 [] 2 13 [(2, 205), (0, g), (0, o), (9, 0)] [(0, o), (2, 205)] μ [] rfl trivial ?_
      refine pm_call hK zmm211 (486, 0, 212, 1) zM212 (0, 0) [(2, 205), (0, o)] [] rfl rfl rfl rfl ⟨by omega, by rw [zn212]; omega⟩ (zh_writesLetter hK (v := o) ⟨by omega, by omega⟩ (by omega) hT hb205 hb240 ⟨Nat.le_refl _, Nat.le_refl _⟩) (fun st5 μc5 hp5 => ?_)
      obtain ⟨rfl, hTc5, hm5⟩ := hp5
      refine pm_blk hK zmm211 [] 3 20 [(2, 205), (0, g), (0, o), (9, 0)] [(0, 9), (0, g), (2, 205)] μc5 [] rfl trivial ?_
      refine pm_icmp hK zmm211 .ne 9 29 rfl rfl (fun h4 => ?_) (fun h4 => ?_)
      · have h4 : g ≠ (9 : Int) := h4
        refine pm_blk hK zmm211 [] 3 32 [(2, 205), (0, g), (0, o), (9, 0)] [(0, o + 1), (2, 205)] μc5 [pm_in (o + 1)] rfl ⟨pm_in_mk (by omega) (by omega), trivial⟩ ?_
        refine pm_call hK zmm211 (486, 0, 212, 1) zM212 (0, 0) [(2, 205), (0, o + 1)] [] rfl rfl rfl rfl ⟨by omega, by rw [zn212]; omega⟩ (zh_writesLetter hK (v := (o + 1)) ⟨by omega, by omega⟩ (by omega) hTc5 hb205 hb240 ⟨Nat.le_refl _, Nat.le_refl _⟩) (fun st6 μc6 hp6 => ?_)
        obtain ⟨rfl, hTc6, hm6⟩ := hp6
        exact pm_vret rfl rfl ⟨rfl, hTc6, by omega⟩
      · have h4 : g = (9 : Int) := h4
        refine pm_blk hK zmm211 [] 4 32 [(2, 205), (0, g), (0, o), (9, 0)] [(0, o + 2), (2, 205)] μc5 [pm_in (o + 2)] rfl ⟨pm_in_mk (by omega) (by omega), trivial⟩ ?_
        refine pm_call hK zmm211 (486, 0, 212, 1) zM212 (0, 0) [(2, 205), (0, o + 2)] [] rfl rfl rfl rfl ⟨by omega, by rw [zn212]; omega⟩ (zh_writesLetter hK (v := (o + 2)) ⟨by omega, by omega⟩ (by omega) hTc5 hb205 hb240 ⟨Nat.le_refl _, Nat.le_refl _⟩) (fun st7 μc7 hp7 => ?_)
        obtain ⟨rfl, hTc7, hm7⟩ := hp7
        exact pm_vret rfl rfl ⟨rfl, hTc7, by omega⟩
set_option maxRecDepth 100000 in
theorem zh_writesYear (hK : zKK ST) {y : Int} (hy : 1 ≤ y ∧ y ≤ 3999) (hT : zTJ μ) (hb205 : sx_bit Wm 205 = true) (hb240 : sx_bit Wm 240 = true) (hbd : 2 ≤ bud.1 ∧ 44 ≤ bud.2.1) : zC D Wm ST b0 l Sg zM210 bud [(2, 205), (0, y)] μ (fun st' μ' => st' = [] ∧ zTJ μ') := by
  have t1 : Int.tdiv y 1000 = y / 1000 := Int.tdiv_eq_ediv_of_nonneg (by omega)
  have t2 : Int.tdiv y 100 = y / 100 := Int.tdiv_eq_ediv_of_nonneg (by omega)
  have t3 : Int.tdiv y 10 = y / 10 := Int.tdiv_eq_ediv_of_nonneg (by omega)
  have t4 : Int.tmod y 10 = y % 10 := Int.tmod_eq_emod_of_nonneg (by omega)
  have t5 : Int.tmod (Int.tdiv y 100) 10 = (y / 100) % 10 := by rw [t2]; exact Int.tmod_eq_emod_of_nonneg (by omega)
  have t6 : Int.tmod (Int.tdiv y 10) 10 = (y / 10) % 10 := by rw [t3]; exact Int.tmod_eq_emod_of_nonneg (by omega)
  refine pm_blk hK zmm210 [] 3 5 [(2, 205), (0, y)] [] (pm_up μ 205 62 0) [sx_bit Wm 205 = true] rfl ⟨hb205, trivial⟩ ?_
  obtain ⟨μ1, eμ1⟩ : ∃ μ', μ' = pm_up μ 205 62 0 := ⟨_, rfl⟩
  rw [← eμ1]
  have hTμ1 : zTJ μ1 := by rw [eμ1]; exact zT_up hT zs205_62 rfl (i := 62) (by omega) (by omega) (by omega) (by omega)
  have hm0 : μ1 205 62 = 0 := by rw [eμ1, pm_up_eq]
  refine pm_blk hK zmm210 [] 5 13 [(2, 205), (0, y)] [(0, 6), (0, Int.tdiv y 1000), (2, 205)] μ1 [1000 ≠ 0, pm_in (Int.tdiv y 1000)] rfl ⟨by omega, pm_in_mk (by omega) (by omega), trivial⟩ ?_
  refine pm_call hK zmm210 (489, 0, 211, 2) zM211 (1, 21) [(2, 205), (0, Int.tdiv y 1000), (0, 6)] [] rfl rfl rfl rfl ⟨by omega, by rw [zn211]; omega⟩ (zh_writesDigit hK (g := (Int.tdiv y 1000)) (o := 6) ⟨by omega, by omega⟩ ⟨by omega, by omega⟩ (by omega) (by omega) hTμ1 hb205 hb240 ⟨Nat.le_refl _, Nat.le_refl _⟩) (fun st1 μc1 hp1 => ?_)
  obtain ⟨rfl, hTc1, hm1⟩ := hp1
  refine pm_blk hK zmm210 [] 7 25 [(2, 205), (0, y)] [(0, 4), (0, Int.tmod (Int.tdiv y 100) 10), (2, 205)] μc1 [100 ≠ 0, pm_in (Int.tdiv y 100), 10 ≠ 0] rfl ⟨by omega, pm_in_mk (by omega) (by omega), by omega, trivial⟩ ?_
  refine pm_call hK zmm210 (489, 0, 211, 2) zM211 (1, 21) [(2, 205), (0, Int.tmod (Int.tdiv y 100) 10), (0, 4)] [] rfl rfl rfl rfl ⟨by omega, by rw [zn211]; omega⟩ (zh_writesDigit hK (g := (Int.tmod (Int.tdiv y 100) 10)) (o := 4) ⟨by omega, by omega⟩ ⟨by omega, by omega⟩ (by omega) (by omega) hTc1 hb205 hb240 ⟨Nat.le_refl _, Nat.le_refl _⟩) (fun st2 μc2 hp2 => ?_)
  obtain ⟨rfl, hTc2, hm2⟩ := hp2
  refine pm_blk hK zmm210 [] 7 37 [(2, 205), (0, y)] [(0, 2), (0, Int.tmod (Int.tdiv y 10) 10), (2, 205)] μc2 [10 ≠ 0, pm_in (Int.tdiv y 10), 10 ≠ 0] rfl ⟨by omega, pm_in_mk (by omega) (by omega), by omega, trivial⟩ ?_
  refine pm_call hK zmm210 (489, 0, 211, 2) zM211 (1, 21) [(2, 205), (0, Int.tmod (Int.tdiv y 10) 10), (0, 2)] [] rfl rfl rfl rfl ⟨by omega, by rw [zn211]; omega⟩ (zh_writesDigit hK (g := (Int.tmod (Int.tdiv y 10) 10)) (o := 2) ⟨by omega, by omega⟩ ⟨by omega, by omega⟩ (by omega) (by omega) hTc2 hb205 hb240 ⟨Nat.le_refl _, Nat.le_refl _⟩) (fun st3 μc3 hp3 => ?_)
  obtain ⟨rfl, hTc3, hm3⟩ := hp3
  refine pm_blk hK zmm210 [] 5 46 [(2, 205), (0, y)] [(0, 0), (0, Int.tmod y 10), (2, 205)] μc3 [10 ≠ 0] rfl ⟨by omega, trivial⟩ ?_
  refine pm_call hK zmm210 (489, 0, 211, 2) zM211 (1, 21) [(2, 205), (0, Int.tmod y 10), (0, 0)] [] rfl rfl rfl rfl ⟨by omega, by rw [zn211]; omega⟩ (zh_writesDigit hK (g := (Int.tmod y 10)) (o := 0) ⟨by omega, by omega⟩ ⟨by omega, by omega⟩ (by omega) (by omega) hTc3 hb205 hb240 ⟨Nat.le_refl _, Nat.le_refl _⟩) (fun st4 μc4 hp4 => ?_)
  obtain ⟨rfl, hTc4, hm4⟩ := hp4
  exact pm_vret rfl rfl ⟨rfl, hTc4⟩
end ZHW
