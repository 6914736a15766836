/-! the image of the reference; walks printed by program (wip/p30/pmgen.py) and filled by hand -/
section ZHW
variable {D : va_G} {Wm : Nat} {ST : List (String × String × String × Nat)} {b0 : sx_B} {l : Launch} {Sg : Nat → Option Nat} {bud : sx_Bu} {μ : pm_Mem} {B0 : Nat → Prop} {J : (Nat → Option Nat) → Heap → Prop}
set_option maxRecDepth 100000 in
theorem zh_keeps (hK : zKK ST) {v : Int} {μ0 : pm_Mem} {n r k : Nat} {j : Int} (hn : n < 2128) (hkμ : zKp μ0 μ n) (hJ : zJ μ0) (hT0 : zTy μ0) (hp : zIpl n = (r, k)) (hj : j = (k : Int)) (hv : v = μ r j) (hb205 : sx_bit Wm 205 = true) (hb245 : sx_bit Wm 245 = true) (hbd : 0 ≤ bud.1 ∧ 0 ≤ bud.2.1) : zC D Wm ST b0 l Sg zM204 bud [(2, 205), (0, v)] μ (fun st' μ' => ∃ x, st' = [(0, x)] ∧ zKp μ0 (pm_up μ' r j x) (n + 1)) := by
  subst hj
  have ha := hkμ.at'
  have hm := hkμ.mo
  have hf : 0 ≤ μ 205 69 ∧ μ 205 69 ≤ 1 := zTy_get hkμ.ty (r := 205) (a := 69) (n := 1) (lo := 0) (hi := 1) zs205_69 (by decide) (by decide)
  refine pm_blk hK zmm204 [] 6 10 [(2, 205), (0, v)] [] (pm_up μ 205 71 ((μ 205 71) + 1)) [pm_in ((μ 205 71) + 1), sx_bit Wm 205 = true] rfl ⟨pm_in_mk (by omega) (by omega), hb205, trivial⟩ ?_
  obtain ⟨μ1, eμ1⟩ : ∃ μ', μ' = pm_up μ 205 71 ((μ 205 71) + 1) := ⟨_, rfl⟩
  rw [← eμ1]
  have q1 : μ1 205 71 = (n : Int) + 1 := by rw [eμ1, pm_up_eq]; omega
  have q2 : μ1 205 69 = μ0 205 69 := by rw [eμ1, pm_up_ne (by decide)]; exact hm
  have q4 : μ1 205 71 - 1 = (n : Int) := by omega
  have q5 : μ1 = pm_up μ 205 71 ((n : Int) + 1) := by rw [eμ1, ha]
  refine pm_blk hK zmm204 [] 2 14 [(2, 205), (0, v)] [(0, μ1 205 69)] μ1 [] rfl trivial ?_
  refine pm_if hK zmm204 .ne 15 29 rfl rfl (fun h0 => ?_) (fun h0 => ?_)
  · have h0 : μ1 205 69 ≠ (0 : Int) := h0
    refine pm_blk hK zmm204 [] 8 41 [(2, 205), (0, v)] [] (pm_up μ1 245 ((μ1 205 71) - 1) v) [pm_in ((μ1 205 71) - 1), sx_bit Wm 245 = true, 0 ≤ (μ1 205 71) - 1 ∧ (μ1 205 71) - 1 < 2600] rfl ⟨pm_in_mk (by omega) (by omega), hb245, ⟨by omega, by omega⟩, trivial⟩ ?_
    obtain ⟨μ2, eμ2⟩ : ∃ μ', μ' = pm_up μ1 245 ((μ1 205 71) - 1) v := ⟨_, rfl⟩
    rw [← eμ2]
    refine pm_blk hK zmm204 [] 1 42 [(2, 205), (0, v)] [(0, v)] μ2 [] rfl trivial ?_
    refine pm_iret rfl rfl ⟨_, rfl, ?_⟩
    rw [eμ2, q4, q5]
    exact zKp_take hn hkμ hp (by omega) hv
  · have h0 : μ1 205 69 = (0 : Int) := h0
    have g1 : μ1 245 ((μ1 205 71) - 1) = μ 245 ((μ1 205 71) - 1) := by rw [eμ1, pm_up_off (by decide)]
    refine pm_blk hK zmm204 [] 7 28 [(2, 205), (0, v)] [(0, μ1 245 ((μ1 205 71) - 1))] μ1 [pm_in ((μ1 205 71) - 1), 0 ≤ (μ1 205 71) - 1 ∧ (μ1 205 71) - 1 < 2600] rfl ⟨pm_in_mk (by omega) (by omega), ⟨by omega, by omega⟩, trivial⟩ ?_
    rw [q4]
    refine pm_iret rfl rfl ⟨_, rfl, ?_⟩
    have q6 : μ1 245 (n : Int) = μ 245 (n : Int) := by rw [eμ1, pm_up_off (by decide)]
    rw [q6, q5]
    exact zKp_back hn hkμ hJ hT0 hp (by omega)
set_option maxRecDepth 100000 in
theorem zh_keepsMany (hK : zKK ST) {μ0 : pm_Mem} (hJ : zJ μ0) (hT0 : zTy μ0) (hb205 : sx_bit Wm 205 = true) (hb206 : sx_bit Wm 206 = true) (hb209 : sx_bit Wm 209 = true) (hb210 : sx_bit Wm 210 = true) (hb213 : sx_bit Wm 213 = true) (hb214 : sx_bit Wm 214 = true) (hb215 : sx_bit Wm 215 = true) (hb216 : sx_bit Wm 216 = true) (hb217 : sx_bit Wm 217 = true) (hb218 : sx_bit Wm 218 = true) (hb219 : sx_bit Wm 219 = true) (hb221 : sx_bit Wm 221 = true) (hb222 : sx_bit Wm 222 = true) (hb223 : sx_bit Wm 223 = true) (hb230 : sx_bit Wm 230 = true) (hb232 : sx_bit Wm 232 = true) (hb234 : sx_bit Wm 234 = true) (hb235 : sx_bit Wm 235 = true) (hb237 : sx_bit Wm 237 = true) (hb239 : sx_bit Wm 239 = true) (hb241 : sx_bit Wm 241 = true) (hb244 : sx_bit Wm 244 = true) (hb245 : sx_bit Wm 245 = true) (hk0 : zKp μ0 μ 160) (hbd : 1 ≤ bud.1 ∧ 21 ≤ bud.2.1) : zC D Wm ST b0 l Sg zM205 bud [(2, 205)] μ (fun st' μ' => st' = [] ∧ zKp μ0 μ' 171) := by
  refine pm_blk hK zmm205 [] 4 6 [(2, 205)] [(0, μ 205 6), (2, 205), (2, 205)] μ [] rfl trivial ?_
  refine pm_call hK zmm205 (525, 0, 204, 1) zM204 (0, 0) [(2, 205), (0, μ 205 6)] [(2, 205)] rfl rfl rfl rfl ⟨by omega, by rw [zn204]; omega⟩ (zh_keeps hK (n := 160) (r := 205) (k := 6) (j := 6) (by omega) hk0 hJ hT0 rfl (by omega) rfl hb205 hb245 ⟨Nat.le_refl _, Nat.le_refl _⟩) (fun st1 μc1 hp1 => ?_)
  obtain ⟨x1, rfl, hq1⟩ := hp1
  refine pm_blk hK zmm205 [] 1 12 [(2, 205)] [] (pm_up μc1 205 6 x1) [sx_bit Wm 205 = true] rfl ⟨hb205, trivial⟩ ?_
  obtain ⟨μ1, eμ1⟩ : ∃ μ', μ' = pm_up μc1 205 6 x1 := ⟨_, rfl⟩
  rw [← eμ1]
  have hk1 : zKp μ0 μ1 161 := by rw [eμ1]; exact hq1
  refine pm_blk hK zmm205 [] 4 18 [(2, 205)] [(0, μ1 205 7), (2, 205), (2, 205)] μ1 [] rfl trivial ?_
  refine pm_call hK zmm205 (525, 0, 204, 1) zM204 (0, 0) [(2, 205), (0, μ1 205 7)] [(2, 205)] rfl rfl rfl rfl ⟨by omega, by rw [zn204]; omega⟩ (zh_keeps hK (n := 161) (r := 205) (k := 7) (j := 7) (by omega) hk1 hJ hT0 rfl (by omega) rfl hb205 hb245 ⟨Nat.le_refl _, Nat.le_refl _⟩) (fun st2 μc2 hp2 => ?_)
  obtain ⟨x2, rfl, hq2⟩ := hp2
  refine pm_blk hK zmm205 [] 1 24 [(2, 205)] [] (pm_up μc2 205 7 x2) [sx_bit Wm 205 = true] rfl ⟨hb205, trivial⟩ ?_
  obtain ⟨μ2, eμ2⟩ : ∃ μ', μ' = pm_up μc2 205 7 x2 := ⟨_, rfl⟩
  rw [← eμ2]
  have hk2 : zKp μ0 μ2 162 := by rw [eμ2]; exact hq2
  refine pm_blk hK zmm205 [] 4 30 [(2, 205)] [(0, μ2 205 33), (2, 205), (2, 205)] μ2 [] rfl trivial ?_
  refine pm_call hK zmm205 (525, 0, 204, 1) zM204 (0, 0) [(2, 205), (0, μ2 205 33)] [(2, 205)] rfl rfl rfl rfl ⟨by omega, by rw [zn204]; omega⟩ (zh_keeps hK (n := 162) (r := 205) (k := 33) (j := 33) (by omega) hk2 hJ hT0 rfl (by omega) rfl hb205 hb245 ⟨Nat.le_refl _, Nat.le_refl _⟩) (fun st3 μc3 hp3 => ?_)
  obtain ⟨x3, rfl, hq3⟩ := hp3
  refine pm_blk hK zmm205 [] 1 36 [(2, 205)] [] (pm_up μc3 205 33 x3) [sx_bit Wm 205 = true] rfl ⟨hb205, trivial⟩ ?_
  obtain ⟨μ3, eμ3⟩ : ∃ μ', μ' = pm_up μc3 205 33 x3 := ⟨_, rfl⟩
  rw [← eμ3]
  have hk3 : zKp μ0 μ3 163 := by rw [eμ3]; exact hq3
  refine pm_blk hK zmm205 [] 4 42 [(2, 205)] [(0, μ3 205 35), (2, 205), (2, 205)] μ3 [] rfl trivial ?_
  refine pm_call hK zmm205 (525, 0, 204, 1) zM204 (0, 0) [(2, 205), (0, μ3 205 35)] [(2, 205)] rfl rfl rfl rfl ⟨by omega, by rw [zn204]; omega⟩ (zh_keeps hK (n := 163) (r := 205) (k := 35) (j := 35) (by omega) hk3 hJ hT0 rfl (by omega) rfl hb205 hb245 ⟨Nat.le_refl _, Nat.le_refl _⟩) (fun st4 μc4 hp4 => ?_)
  obtain ⟨x4, rfl, hq4⟩ := hp4
  refine pm_blk hK zmm205 [] 1 48 [(2, 205)] [] (pm_up μc4 205 35 x4) [sx_bit Wm 205 = true] rfl ⟨hb205, trivial⟩ ?_
  obtain ⟨μ4, eμ4⟩ : ∃ μ', μ' = pm_up μc4 205 35 x4 := ⟨_, rfl⟩
  rw [← eμ4]
  have hk4 : zKp μ0 μ4 164 := by rw [eμ4]; exact hq4
  refine pm_blk hK zmm205 [] 4 54 [(2, 205)] [(0, μ4 205 37), (2, 205), (2, 205)] μ4 [] rfl trivial ?_
  refine pm_call hK zmm205 (525, 0, 204, 1) zM204 (0, 0) [(2, 205), (0, μ4 205 37)] [(2, 205)] rfl rfl rfl rfl ⟨by omega, by rw [zn204]; omega⟩ (zh_keeps hK (n := 164) (r := 205) (k := 37) (j := 37) (by omega) hk4 hJ hT0 rfl (by omega) rfl hb205 hb245 ⟨Nat.le_refl _, Nat.le_refl _⟩) (fun st5 μc5 hp5 => ?_)
  obtain ⟨x5, rfl, hq5⟩ := hp5
  refine pm_blk hK zmm205 [] 1 60 [(2, 205)] [] (pm_up μc5 205 37 x5) [sx_bit Wm 205 = true] rfl ⟨hb205, trivial⟩ ?_
  obtain ⟨μ5, eμ5⟩ : ∃ μ', μ' = pm_up μc5 205 37 x5 := ⟨_, rfl⟩
  rw [← eμ5]
  have hk5 : zKp μ0 μ5 165 := by rw [eμ5]; exact hq5
  refine pm_blk hK zmm205 [] 4 66 [(2, 205)] [(0, μ5 205 45), (2, 205), (2, 205)] μ5 [] rfl trivial ?_
  refine pm_call hK zmm205 (525, 0, 204, 1) zM204 (0, 0) [(2, 205), (0, μ5 205 45)] [(2, 205)] rfl rfl rfl rfl ⟨by omega, by rw [zn204]; omega⟩ (zh_keeps hK (n := 165) (r := 205) (k := 45) (j := 45) (by omega) hk5 hJ hT0 rfl (by omega) rfl hb205 hb245 ⟨Nat.le_refl _, Nat.le_refl _⟩) (fun st6 μc6 hp6 => ?_)
  obtain ⟨x6, rfl, hq6⟩ := hp6
  refine pm_blk hK zmm205 [] 1 72 [(2, 205)] [] (pm_up μc6 205 45 x6) [sx_bit Wm 205 = true] rfl ⟨hb205, trivial⟩ ?_
  obtain ⟨μ6, eμ6⟩ : ∃ μ', μ' = pm_up μc6 205 45 x6 := ⟨_, rfl⟩
  rw [← eμ6]
  have hk6 : zKp μ0 μ6 166 := by rw [eμ6]; exact hq6
  refine pm_blk hK zmm205 [] 4 78 [(2, 205)] [(0, μ6 205 52), (2, 205), (2, 205)] μ6 [] rfl trivial ?_
  refine pm_call hK zmm205 (525, 0, 204, 1) zM204 (0, 0) [(2, 205), (0, μ6 205 52)] [(2, 205)] rfl rfl rfl rfl ⟨by omega, by rw [zn204]; omega⟩ (zh_keeps hK (n := 166) (r := 205) (k := 52) (j := 52) (by omega) hk6 hJ hT0 rfl (by omega) rfl hb205 hb245 ⟨Nat.le_refl _, Nat.le_refl _⟩) (fun st7 μc7 hp7 => ?_)
  obtain ⟨x7, rfl, hq7⟩ := hp7
  refine pm_blk hK zmm205 [] 1 84 [(2, 205)] [] (pm_up μc7 205 52 x7) [sx_bit Wm 205 = true] rfl ⟨hb205, trivial⟩ ?_
  obtain ⟨μ7, eμ7⟩ : ∃ μ', μ' = pm_up μc7 205 52 x7 := ⟨_, rfl⟩
  rw [← eμ7]
  have hk7 : zKp μ0 μ7 167 := by rw [eμ7]; exact hq7
  refine pm_blk hK zmm205 [] 4 90 [(2, 205)] [(0, μ7 205 56), (2, 205), (2, 205)] μ7 [] rfl trivial ?_
  refine pm_call hK zmm205 (525, 0, 204, 1) zM204 (0, 0) [(2, 205), (0, μ7 205 56)] [(2, 205)] rfl rfl rfl rfl ⟨by omega, by rw [zn204]; omega⟩ (zh_keeps hK (n := 167) (r := 205) (k := 56) (j := 56) (by omega) hk7 hJ hT0 rfl (by omega) rfl hb205 hb245 ⟨Nat.le_refl _, Nat.le_refl _⟩) (fun st8 μc8 hp8 => ?_)
  obtain ⟨x8, rfl, hq8⟩ := hp8
  refine pm_blk hK zmm205 [] 1 96 [(2, 205)] [] (pm_up μc8 205 56 x8) [sx_bit Wm 205 = true] rfl ⟨hb205, trivial⟩ ?_
  obtain ⟨μ8, eμ8⟩ : ∃ μ', μ' = pm_up μc8 205 56 x8 := ⟨_, rfl⟩
  rw [← eμ8]
  have hk8 : zKp μ0 μ8 168 := by rw [eμ8]; exact hq8
  refine pm_blk hK zmm205 [] 4 102 [(2, 205)] [(0, μ8 205 59), (2, 205), (2, 205)] μ8 [] rfl trivial ?_
  refine pm_call hK zmm205 (525, 0, 204, 1) zM204 (0, 0) [(2, 205), (0, μ8 205 59)] [(2, 205)] rfl rfl rfl rfl ⟨by omega, by rw [zn204]; omega⟩ (zh_keeps hK (n := 168) (r := 205) (k := 59) (j := 59) (by omega) hk8 hJ hT0 rfl (by omega) rfl hb205 hb245 ⟨Nat.le_refl _, Nat.le_refl _⟩) (fun st9 μc9 hp9 => ?_)
  obtain ⟨x9, rfl, hq9⟩ := hp9
  refine pm_blk hK zmm205 [] 1 108 [(2, 205)] [] (pm_up μc9 205 59 x9) [sx_bit Wm 205 = true] rfl ⟨hb205, trivial⟩ ?_
  obtain ⟨μ9, eμ9⟩ : ∃ μ', μ' = pm_up μc9 205 59 x9 := ⟨_, rfl⟩
  rw [← eμ9]
  have hk9 : zKp μ0 μ9 169 := by rw [eμ9]; exact hq9
  refine pm_blk hK zmm205 [] 4 114 [(2, 205)] [(0, μ9 205 63), (2, 205), (2, 205)] μ9 [] rfl trivial ?_
  refine pm_call hK zmm205 (525, 0, 204, 1) zM204 (0, 0) [(2, 205), (0, μ9 205 63)] [(2, 205)] rfl rfl rfl rfl ⟨by omega, by rw [zn204]; omega⟩ (zh_keeps hK (n := 169) (r := 205) (k := 63) (j := 63) (by omega) hk9 hJ hT0 rfl (by omega) rfl hb205 hb245 ⟨Nat.le_refl _, Nat.le_refl _⟩) (fun st10 μc10 hp10 => ?_)
  obtain ⟨x10, rfl, hq10⟩ := hp10
  refine pm_blk hK zmm205 [] 1 120 [(2, 205)] [] (pm_up μc10 205 63 x10) [sx_bit Wm 205 = true] rfl ⟨hb205, trivial⟩ ?_
  obtain ⟨μ10, eμ10⟩ : ∃ μ', μ' = pm_up μc10 205 63 x10 := ⟨_, rfl⟩
  rw [← eμ10]
  have hk10 : zKp μ0 μ10 170 := by rw [eμ10]; exact hq10
  refine pm_blk hK zmm205 [] 4 126 [(2, 205)] [(0, μ10 205 67), (2, 205), (2, 205)] μ10 [] rfl trivial ?_
  refine pm_call hK zmm205 (525, 0, 204, 1) zM204 (0, 0) [(2, 205), (0, μ10 205 67)] [(2, 205)] rfl rfl rfl rfl ⟨by omega, by rw [zn204]; omega⟩ (zh_keeps hK (n := 170) (r := 205) (k := 67) (j := 67) (by omega) hk10 hJ hT0 rfl (by omega) rfl hb205 hb245 ⟨Nat.le_refl _, Nat.le_refl _⟩) (fun st11 μc11 hp11 => ?_)
  obtain ⟨x11, rfl, hq11⟩ := hp11
  refine pm_blk hK zmm205 [] 1 132 [(2, 205)] [] (pm_up μc11 205 67 x11) [sx_bit Wm 205 = true] rfl ⟨hb205, trivial⟩ ?_
  obtain ⟨μ11, eμ11⟩ : ∃ μ', μ' = pm_up μc11 205 67 x11 := ⟨_, rfl⟩
  rw [← eμ11]
  have hk11 : zKp μ0 μ11 171 := by rw [eμ11]; exact hq11
  exact pm_vret rfl rfl ⟨rfl, hk11⟩
set_option maxRecDepth 100000 in
theorem zl_kt0 (hK : zKK ST) {X : Nat → List pm_V → List pm_V → pm_Mem → Prop} {μ0 : pm_Mem} (hJ : zJ μ0) (hT0 : zTy μ0) (hb205 : sx_bit Wm 205 = true) (hb206 : sx_bit Wm 206 = true) (hb209 : sx_bit Wm 209 = true) (hb210 : sx_bit Wm 210 = true) (hb213 : sx_bit Wm 213 = true) (hb214 : sx_bit Wm 214 = true) (hb215 : sx_bit Wm 215 = true) (hb216 : sx_bit Wm 216 = true) (hb217 : sx_bit Wm 217 = true) (hb218 : sx_bit Wm 218 = true) (hb219 : sx_bit Wm 219 = true) (hb221 : sx_bit Wm 221 = true) (hb222 : sx_bit Wm 222 = true) (hb223 : sx_bit Wm 223 = true) (hb230 : sx_bit Wm 230 = true) (hb232 : sx_bit Wm 232 = true) (hb234 : sx_bit Wm 234 = true) (hb235 : sx_bit Wm 235 = true) (hb237 : sx_bit Wm 237 = true) (hb239 : sx_bit Wm 239 = true) (hb241 : sx_bit Wm 241 = true) (hb244 : sx_bit Wm 244 = true) (hb245 : sx_bit Wm 245 = true) (K : ∀ (i : Int) (μ : pm_Mem), zKp μ0 μ 189 → zW D Wm ST b0 l Sg zM206 bud X 30 [(2, 205), (0, i)] [] μ) (hbd : 1 ≤ bud.1 ∧ 21 ≤ bud.2.1) : ∀ (n : Nat) {i : Int} {μ : pm_Mem}, (18 - i).toNat = n → ∀ (hi : 0 ≤ i ∧ i ≤ 18) (hk : zKp μ0 μ (171 + i.toNat)), zW D Wm ST b0 l Sg zM206 bud X 2 [(2, 205), (0, i)] [] μ := by
  intro n
  induction n using Nat.strongRecOn with
  | ind n ih =>
    intro i μ hn hi hk
    have hi0 : ((i.toNat : Nat) : Int) = i := by omega
    refine pm_blk hK zmm206 [] 2 5 [(2, 205), (0, i)] [(0, 18), (0, i)] μ [] rfl trivial ?_
    refine pm_icmp hK zmm206 .ge 25 30 rfl rfl (fun h0 => ?_) (fun h0 => ?_)
    · have h0 : (18 : Int) ≤ i := h0
      have hk2 := hk
      rw [show 171 + i.toNat = 189 by omega] at hk2
      exact K _ _ hk2
    · have h0 : i < (18 : Int) := h0
      refine pm_blk hK zmm206 [] 8 20 [(2, 205), (0, i)] [(0, μ 209 i), (2, 205), (0, i), (2, 209)] μ [0 ≤ i ∧ i < 18] rfl ⟨⟨by omega, by omega⟩, trivial⟩ ?_
      refine pm_call hK zmm206 (525, 0, 204, 1) zM204 (0, 0) [(2, 205), (0, μ 209 i)] [(0, i), (2, 209)] rfl rfl rfl rfl ⟨by omega, by rw [zn204]; omega⟩ (zh_keeps hK (n := 171 + i.toNat) (r := 209) (k := i.toNat) (j := i) (by omega) hk hJ hT0 (zIpl_209 i.toNat (by omega)) (by omega) rfl hb205 hb245 ⟨Nat.le_refl _, Nat.le_refl _⟩) (fun st1 μc1 hp1 => ?_)
      obtain ⟨x1, rfl, hq1⟩ := hp1
      refine pm_blk hK zmm206 [] 1 24 [(2, 205), (0, i)] [] (pm_up μc1 209 i x1) [sx_bit Wm 209 = true, 0 ≤ i ∧ i < 18] rfl ⟨hb209, ⟨by omega, by omega⟩, trivial⟩ ?_
      obtain ⟨μ1, eμ1⟩ : ∃ μ', μ' = pm_up μc1 209 i x1 := ⟨_, rfl⟩
      rw [← eμ1]
      have hw1 := hq1
      rw [← eμ1] at hw1
      refine pm_blk hK zmm206 [] 2 2 [(2, 205), (0, i + 1)] [] μ1 [pm_in (i + 1)] rfl ⟨pm_in_mk (by omega) (by omega), trivial⟩ ?_
      refine ih _ (by omega) rfl ⟨by omega, by omega⟩ ?_
      rw [show 171 + (i + 1).toNat = 171 + i.toNat + 1 by omega]
      exact hw1
set_option maxRecDepth 100000 in
theorem zl_kt1 (hK : zKK ST) {X : Nat → List pm_V → List pm_V → pm_Mem → Prop} {μ0 : pm_Mem} (hJ : zJ μ0) (hT0 : zTy μ0) (hb205 : sx_bit Wm 205 = true) (hb206 : sx_bit Wm 206 = true) (hb209 : sx_bit Wm 209 = true) (hb210 : sx_bit Wm 210 = true) (hb213 : sx_bit Wm 213 = true) (hb214 : sx_bit Wm 214 = true) (hb215 : sx_bit Wm 215 = true) (hb216 : sx_bit Wm 216 = true) (hb217 : sx_bit Wm 217 = true) (hb218 : sx_bit Wm 218 = true) (hb219 : sx_bit Wm 219 = true) (hb221 : sx_bit Wm 221 = true) (hb222 : sx_bit Wm 222 = true) (hb223 : sx_bit Wm 223 = true) (hb230 : sx_bit Wm 230 = true) (hb232 : sx_bit Wm 232 = true) (hb234 : sx_bit Wm 234 = true) (hb235 : sx_bit Wm 235 = true) (hb237 : sx_bit Wm 237 = true) (hb239 : sx_bit Wm 239 = true) (hb241 : sx_bit Wm 241 = true) (hb244 : sx_bit Wm 244 = true) (hb245 : sx_bit Wm 245 = true) (K : ∀ (i : Int) (μ : pm_Mem), zKp μ0 μ 237 → zW D Wm ST b0 l Sg zM206 bud X 60 [(2, 205), (0, i)] [] μ) (hbd : 1 ≤ bud.1 ∧ 21 ≤ bud.2.1) : ∀ (n : Nat) {i : Int} {μ : pm_Mem}, (48 - i).toNat = n → ∀ (hi : 0 ≤ i ∧ i ≤ 48) (hk : zKp μ0 μ (189 + i.toNat)), zW D Wm ST b0 l Sg zM206 bud X 32 [(2, 205), (0, i)] [] μ := by
  intro n
  induction n using Nat.strongRecOn with
  | ind n ih =>
    intro i μ hn hi hk
    have hi0 : ((i.toNat : Nat) : Int) = i := by omega
    refine pm_blk hK zmm206 [] 2 35 [(2, 205), (0, i)] [(0, 48), (0, i)] μ [] rfl trivial ?_
    refine pm_icmp hK zmm206 .ge 25 60 rfl rfl (fun h0 => ?_) (fun h0 => ?_)
    · have h0 : (48 : Int) ≤ i := h0
      have hk2 := hk
      rw [show 189 + i.toNat = 237 by omega] at hk2
      exact K _ _ hk2
    · have h0 : i < (48 : Int) := h0
      refine pm_blk hK zmm206 [] 8 50 [(2, 205), (0, i)] [(0, μ 221 i), (2, 205), (0, i), (2, 221)] μ [0 ≤ i ∧ i < 96] rfl ⟨⟨by omega, by omega⟩, trivial⟩ ?_
      refine pm_call hK zmm206 (525, 0, 204, 1) zM204 (0, 0) [(2, 205), (0, μ 221 i)] [(0, i), (2, 221)] rfl rfl rfl rfl ⟨by omega, by rw [zn204]; omega⟩ (zh_keeps hK (n := 189 + i.toNat) (r := 221) (k := i.toNat) (j := i) (by omega) hk hJ hT0 (zIpl_221 i.toNat (by omega)) (by omega) rfl hb205 hb245 ⟨Nat.le_refl _, Nat.le_refl _⟩) (fun st1 μc1 hp1 => ?_)
      obtain ⟨x1, rfl, hq1⟩ := hp1
      refine pm_blk hK zmm206 [] 1 54 [(2, 205), (0, i)] [] (pm_up μc1 221 i x1) [sx_bit Wm 221 = true, 0 ≤ i ∧ i < 96] rfl ⟨hb221, ⟨by omega, by omega⟩, trivial⟩ ?_
      obtain ⟨μ1, eμ1⟩ : ∃ μ', μ' = pm_up μc1 221 i x1 := ⟨_, rfl⟩
      rw [← eμ1]
      have hw1 := hq1
      rw [← eμ1] at hw1
      refine pm_blk hK zmm206 [] 2 32 [(2, 205), (0, i + 1)] [] μ1 [pm_in (i + 1)] rfl ⟨pm_in_mk (by omega) (by omega), trivial⟩ ?_
      refine ih _ (by omega) rfl ⟨by omega, by omega⟩ ?_
      rw [show 189 + (i + 1).toNat = 189 + i.toNat + 1 by omega]
      exact hw1
set_option maxRecDepth 100000 in
theorem zl_kt2 (hK : zKK ST) {X : Nat → List pm_V → List pm_V → pm_Mem → Prop} {μ0 : pm_Mem} (hJ : zJ μ0) (hT0 : zTy μ0) (hb205 : sx_bit Wm 205 = true) (hb206 : sx_bit Wm 206 = true) (hb209 : sx_bit Wm 209 = true) (hb210 : sx_bit Wm 210 = true) (hb213 : sx_bit Wm 213 = true) (hb214 : sx_bit Wm 214 = true) (hb215 : sx_bit Wm 215 = true) (hb216 : sx_bit Wm 216 = true) (hb217 : sx_bit Wm 217 = true) (hb218 : sx_bit Wm 218 = true) (hb219 : sx_bit Wm 219 = true) (hb221 : sx_bit Wm 221 = true) (hb222 : sx_bit Wm 222 = true) (hb223 : sx_bit Wm 223 = true) (hb230 : sx_bit Wm 230 = true) (hb232 : sx_bit Wm 232 = true) (hb234 : sx_bit Wm 234 = true) (hb235 : sx_bit Wm 235 = true) (hb237 : sx_bit Wm 237 = true) (hb239 : sx_bit Wm 239 = true) (hb241 : sx_bit Wm 241 = true) (hb244 : sx_bit Wm 244 = true) (hb245 : sx_bit Wm 245 = true) (K : ∀ (i : Int) (μ : pm_Mem), zKp μ0 μ 301 → zW D Wm ST b0 l Sg zM206 bud X 90 [(2, 205), (0, i)] [] μ) (hbd : 1 ≤ bud.1 ∧ 21 ≤ bud.2.1) : ∀ (n : Nat) {i : Int} {μ : pm_Mem}, (64 - i).toNat = n → ∀ (hi : 0 ≤ i ∧ i ≤ 64) (hk : zKp μ0 μ (237 + i.toNat)), zW D Wm ST b0 l Sg zM206 bud X 62 [(2, 205), (0, i)] [] μ := by
  intro n
  induction n using Nat.strongRecOn with
  | ind n ih =>
    intro i μ hn hi hk
    have hi0 : ((i.toNat : Nat) : Int) = i := by omega
    refine pm_blk hK zmm206 [] 2 65 [(2, 205), (0, i)] [(0, 64), (0, i)] μ [] rfl trivial ?_
    refine pm_icmp hK zmm206 .ge 25 90 rfl rfl (fun h0 => ?_) (fun h0 => ?_)
    · have h0 : (64 : Int) ≤ i := h0
      have hk2 := hk
      rw [show 237 + i.toNat = 301 by omega] at hk2
      exact K _ _ hk2
    · have h0 : i < (64 : Int) := h0
      refine pm_blk hK zmm206 [] 8 80 [(2, 205), (0, i)] [(0, μ 222 i), (2, 205), (0, i), (2, 222)] μ [0 ≤ i ∧ i < 128] rfl ⟨⟨by omega, by omega⟩, trivial⟩ ?_
      refine pm_call hK zmm206 (525, 0, 204, 1) zM204 (0, 0) [(2, 205), (0, μ 222 i)] [(0, i), (2, 222)] rfl rfl rfl rfl ⟨by omega, by rw [zn204]; omega⟩ (zh_keeps hK (n := 237 + i.toNat) (r := 222) (k := i.toNat) (j := i) (by omega) hk hJ hT0 (zIpl_222 i.toNat (by omega)) (by omega) rfl hb205 hb245 ⟨Nat.le_refl _, Nat.le_refl _⟩) (fun st1 μc1 hp1 => ?_)
      obtain ⟨x1, rfl, hq1⟩ := hp1
      refine pm_blk hK zmm206 [] 1 84 [(2, 205), (0, i)] [] (pm_up μc1 222 i x1) [sx_bit Wm 222 = true, 0 ≤ i ∧ i < 128] rfl ⟨hb222, ⟨by omega, by omega⟩, trivial⟩ ?_
      obtain ⟨μ1, eμ1⟩ : ∃ μ', μ' = pm_up μc1 222 i x1 := ⟨_, rfl⟩
      rw [← eμ1]
      have hw1 := hq1
      rw [← eμ1] at hw1
      refine pm_blk hK zmm206 [] 2 62 [(2, 205), (0, i + 1)] [] μ1 [pm_in (i + 1)] rfl ⟨pm_in_mk (by omega) (by omega), trivial⟩ ?_
      refine ih _ (by omega) rfl ⟨by omega, by omega⟩ ?_
      rw [show 237 + (i + 1).toNat = 237 + i.toNat + 1 by omega]
      exact hw1
set_option maxRecDepth 100000 in
theorem zl_kt3 (hK : zKK ST) {X : Nat → List pm_V → List pm_V → pm_Mem → Prop} {μ0 : pm_Mem} (hJ : zJ μ0) (hT0 : zTy μ0) (hb205 : sx_bit Wm 205 = true) (hb206 : sx_bit Wm 206 = true) (hb209 : sx_bit Wm 209 = true) (hb210 : sx_bit Wm 210 = true) (hb213 : sx_bit Wm 213 = true) (hb214 : sx_bit Wm 214 = true) (hb215 : sx_bit Wm 215 = true) (hb216 : sx_bit Wm 216 = true) (hb217 : sx_bit Wm 217 = true) (hb218 : sx_bit Wm 218 = true) (hb219 : sx_bit Wm 219 = true) (hb221 : sx_bit Wm 221 = true) (hb222 : sx_bit Wm 222 = true) (hb223 : sx_bit Wm 223 = true) (hb230 : sx_bit Wm 230 = true) (hb232 : sx_bit Wm 232 = true) (hb234 : sx_bit Wm 234 = true) (hb235 : sx_bit Wm 235 = true) (hb237 : sx_bit Wm 237 = true) (hb239 : sx_bit Wm 239 = true) (hb241 : sx_bit Wm 241 = true) (hb244 : sx_bit Wm 244 = true) (hb245 : sx_bit Wm 245 = true) (K : ∀ (i : Int) (μ : pm_Mem), zKp μ0 μ 445 → zW D Wm ST b0 l Sg zM206 bud X 121 [(2, 205), (0, i)] [] μ) (hbd : 1 ≤ bud.1 ∧ 21 ≤ bud.2.1) : ∀ (n : Nat) {i : Int} {μ : pm_Mem}, (144 - i).toNat = n → ∀ (hi : 0 ≤ i ∧ i ≤ 144) (hk : zKp μ0 μ (301 + i.toNat)), zW D Wm ST b0 l Sg zM206 bud X 92 [(2, 205), (0, i)] [] μ := by
  intro n
  induction n using Nat.strongRecOn with
  | ind n ih =>
    intro i μ hn hi hk
    have hi0 : ((i.toNat : Nat) : Int) = i := by omega
    refine pm_blk hK zmm206 [] 2 96 [(2, 205), (0, i)] [(0, 144), (0, i)] μ [] rfl trivial ?_
    refine pm_icmp hK zmm206 .ge 25 121 rfl rfl (fun h0 => ?_) (fun h0 => ?_)
    · have h0 : (144 : Int) ≤ i := h0
      have hk2 := hk
      rw [show 301 + i.toNat = 445 by omega] at hk2
      exact K _ _ hk2
    · have h0 : i < (144 : Int) := h0
      refine pm_blk hK zmm206 [] 8 111 [(2, 205), (0, i)] [(0, μ 223 i), (2, 205), (0, i), (2, 223)] μ [0 ≤ i ∧ i < 288] rfl ⟨⟨by omega, by omega⟩, trivial⟩ ?_
      refine pm_call hK zmm206 (525, 0, 204, 1) zM204 (0, 0) [(2, 205), (0, μ 223 i)] [(0, i), (2, 223)] rfl rfl rfl rfl ⟨by omega, by rw [zn204]; omega⟩ (zh_keeps hK (n := 301 + i.toNat) (r := 223) (k := i.toNat) (j := i) (by omega) hk hJ hT0 (zIpl_223 i.toNat (by omega)) (by omega) rfl hb205 hb245 ⟨Nat.le_refl _, Nat.le_refl _⟩) (fun st1 μc1 hp1 => ?_)
      obtain ⟨x1, rfl, hq1⟩ := hp1
      refine pm_blk hK zmm206 [] 1 115 [(2, 205), (0, i)] [] (pm_up μc1 223 i x1) [sx_bit Wm 223 = true, 0 ≤ i ∧ i < 288] rfl ⟨hb223, ⟨by omega, by omega⟩, trivial⟩ ?_
      obtain ⟨μ1, eμ1⟩ : ∃ μ', μ' = pm_up μc1 223 i x1 := ⟨_, rfl⟩
      rw [← eμ1]
      have hw1 := hq1
      rw [← eμ1] at hw1
      refine pm_blk hK zmm206 [] 2 92 [(2, 205), (0, i + 1)] [] μ1 [pm_in (i + 1)] rfl ⟨pm_in_mk (by omega) (by omega), trivial⟩ ?_
      refine ih _ (by omega) rfl ⟨by omega, by omega⟩ ?_
      rw [show 301 + (i + 1).toNat = 301 + i.toNat + 1 by omega]
      exact hw1
set_option maxRecDepth 100000 in
theorem zl_kt4 (hK : zKK ST) {X : Nat → List pm_V → List pm_V → pm_Mem → Prop} {μ0 : pm_Mem} (hJ : zJ μ0) (hT0 : zTy μ0) (hb205 : sx_bit Wm 205 = true) (hb206 : sx_bit Wm 206 = true) (hb209 : sx_bit Wm 209 = true) (hb210 : sx_bit Wm 210 = true) (hb213 : sx_bit Wm 213 = true) (hb214 : sx_bit Wm 214 = true) (hb215 : sx_bit Wm 215 = true) (hb216 : sx_bit Wm 216 = true) (hb217 : sx_bit Wm 217 = true) (hb218 : sx_bit Wm 218 = true) (hb219 : sx_bit Wm 219 = true) (hb221 : sx_bit Wm 221 = true) (hb222 : sx_bit Wm 222 = true) (hb223 : sx_bit Wm 223 = true) (hb230 : sx_bit Wm 230 = true) (hb232 : sx_bit Wm 232 = true) (hb234 : sx_bit Wm 234 = true) (hb235 : sx_bit Wm 235 = true) (hb237 : sx_bit Wm 237 = true) (hb239 : sx_bit Wm 239 = true) (hb241 : sx_bit Wm 241 = true) (hb244 : sx_bit Wm 244 = true) (hb245 : sx_bit Wm 245 = true) (K : ∀ (i : Int) (μ : pm_Mem), zKp μ0 μ 451 → zW D Wm ST b0 l Sg zM206 bud X 151 [(2, 205), (0, i)] [] μ) (hbd : 1 ≤ bud.1 ∧ 21 ≤ bud.2.1) : ∀ (n : Nat) {i : Int} {μ : pm_Mem}, (6 - i).toNat = n → ∀ (hi : 0 ≤ i ∧ i ≤ 6) (hk : zKp μ0 μ (445 + i.toNat)), zW D Wm ST b0 l Sg zM206 bud X 123 [(2, 205), (0, i)] [] μ := by
  intro n
  induction n using Nat.strongRecOn with
  | ind n ih =>
    intro i μ hn hi hk
    have hi0 : ((i.toNat : Nat) : Int) = i := by omega
    refine pm_blk hK zmm206 [] 2 126 [(2, 205), (0, i)] [(0, 6), (0, i)] μ [] rfl trivial ?_
    refine pm_icmp hK zmm206 .ge 25 151 rfl rfl (fun h0 => ?_) (fun h0 => ?_)
    · have h0 : (6 : Int) ≤ i := h0
      have hk2 := hk
      rw [show 445 + i.toNat = 451 by omega] at hk2
      exact K _ _ hk2
    · have h0 : i < (6 : Int) := h0
      refine pm_blk hK zmm206 [] 8 141 [(2, 205), (0, i)] [(0, μ 230 i), (2, 205), (0, i), (2, 230)] μ [0 ≤ i ∧ i < 6] rfl ⟨⟨by omega, by omega⟩, trivial⟩ ?_
      refine pm_call hK zmm206 (525, 0, 204, 1) zM204 (0, 0) [(2, 205), (0, μ 230 i)] [(0, i), (2, 230)] rfl rfl rfl rfl ⟨by omega, by rw [zn204]; omega⟩ (zh_keeps hK (n := 445 + i.toNat) (r := 230) (k := i.toNat) (j := i) (by omega) hk hJ hT0 (zIpl_230 i.toNat (by omega)) (by omega) rfl hb205 hb245 ⟨Nat.le_refl _, Nat.le_refl _⟩) (fun st1 μc1 hp1 => ?_)
      obtain ⟨x1, rfl, hq1⟩ := hp1
      refine pm_blk hK zmm206 [] 1 145 [(2, 205), (0, i)] [] (pm_up μc1 230 i x1) [sx_bit Wm 230 = true, 0 ≤ i ∧ i < 6] rfl ⟨hb230, ⟨by omega, by omega⟩, trivial⟩ ?_
      obtain ⟨μ1, eμ1⟩ : ∃ μ', μ' = pm_up μc1 230 i x1 := ⟨_, rfl⟩
      rw [← eμ1]
      have hw1 := hq1
      rw [← eμ1] at hw1
      refine pm_blk hK zmm206 [] 2 123 [(2, 205), (0, i + 1)] [] μ1 [pm_in (i + 1)] rfl ⟨pm_in_mk (by omega) (by omega), trivial⟩ ?_
      refine ih _ (by omega) rfl ⟨by omega, by omega⟩ ?_
      rw [show 445 + (i + 1).toNat = 445 + i.toNat + 1 by omega]
      exact hw1
set_option maxRecDepth 100000 in
theorem zl_kt5 (hK : zKK ST) {X : Nat → List pm_V → List pm_V → pm_Mem → Prop} {μ0 : pm_Mem} (hJ : zJ μ0) (hT0 : zTy μ0) (hb205 : sx_bit Wm 205 = true) (hb206 : sx_bit Wm 206 = true) (hb209 : sx_bit Wm 209 = true) (hb210 : sx_bit Wm 210 = true) (hb213 : sx_bit Wm 213 = true) (hb214 : sx_bit Wm 214 = true) (hb215 : sx_bit Wm 215 = true) (hb216 : sx_bit Wm 216 = true) (hb217 : sx_bit Wm 217 = true) (hb218 : sx_bit Wm 218 = true) (hb219 : sx_bit Wm 219 = true) (hb221 : sx_bit Wm 221 = true) (hb222 : sx_bit Wm 222 = true) (hb223 : sx_bit Wm 223 = true) (hb230 : sx_bit Wm 230 = true) (hb232 : sx_bit Wm 232 = true) (hb234 : sx_bit Wm 234 = true) (hb235 : sx_bit Wm 235 = true) (hb237 : sx_bit Wm 237 = true) (hb239 : sx_bit Wm 239 = true) (hb241 : sx_bit Wm 241 = true) (hb244 : sx_bit Wm 244 = true) (hb245 : sx_bit Wm 245 = true) (K : ∀ (i : Int) (μ : pm_Mem), zKp μ0 μ 455 → zW D Wm ST b0 l Sg zM206 bud X 180 [(2, 205), (0, i)] [] μ) (hbd : 1 ≤ bud.1 ∧ 21 ≤ bud.2.1) : ∀ (n : Nat) {i : Int} {μ : pm_Mem}, (4 - i).toNat = n → ∀ (hi : 0 ≤ i ∧ i ≤ 4) (hk : zKp μ0 μ (451 + i.toNat)), zW D Wm ST b0 l Sg zM206 bud X 153 [(2, 205), (0, i)] [] μ := by
  intro n
  induction n using Nat.strongRecOn with
  | ind n ih =>
    intro i μ hn hi hk
    have hi0 : ((i.toNat : Nat) : Int) = i := by omega
    refine pm_blk hK zmm206 [] 2 155 [(2, 205), (0, i)] [(0, 4), (0, i)] μ [] rfl trivial ?_
    refine pm_icmp hK zmm206 .ge 25 180 rfl rfl (fun h0 => ?_) (fun h0 => ?_)
    · have h0 : (4 : Int) ≤ i := h0
      have hk2 := hk
      rw [show 451 + i.toNat = 455 by omega] at hk2
      exact K _ _ hk2
    · have h0 : i < (4 : Int) := h0
      refine pm_blk hK zmm206 [] 8 170 [(2, 205), (0, i)] [(0, μ 232 i), (2, 205), (0, i), (2, 232)] μ [0 ≤ i ∧ i < 4] rfl ⟨⟨by omega, by omega⟩, trivial⟩ ?_
      refine pm_call hK zmm206 (525, 0, 204, 1) zM204 (0, 0) [(2, 205), (0, μ 232 i)] [(0, i), (2, 232)] rfl rfl rfl rfl ⟨by omega, by rw [zn204]; omega⟩ (zh_keeps hK (n := 451 + i.toNat) (r := 232) (k := i.toNat) (j := i) (by omega) hk hJ hT0 (zIpl_232 i.toNat (by omega)) (by omega) rfl hb205 hb245 ⟨Nat.le_refl _, Nat.le_refl _⟩) (fun st1 μc1 hp1 => ?_)
      obtain ⟨x1, rfl, hq1⟩ := hp1
      refine pm_blk hK zmm206 [] 1 174 [(2, 205), (0, i)] [] (pm_up μc1 232 i x1) [sx_bit Wm 232 = true, 0 ≤ i ∧ i < 4] rfl ⟨hb232, ⟨by omega, by omega⟩, trivial⟩ ?_
      obtain ⟨μ1, eμ1⟩ : ∃ μ', μ' = pm_up μc1 232 i x1 := ⟨_, rfl⟩
      rw [← eμ1]
      have hw1 := hq1
      rw [← eμ1] at hw1
      refine pm_blk hK zmm206 [] 2 153 [(2, 205), (0, i + 1)] [] μ1 [pm_in (i + 1)] rfl ⟨pm_in_mk (by omega) (by omega), trivial⟩ ?_
      refine ih _ (by omega) rfl ⟨by omega, by omega⟩ ?_
      rw [show 451 + (i + 1).toNat = 451 + i.toNat + 1 by omega]
      exact hw1
set_option maxRecDepth 100000 in
theorem zl_kt6 (hK : zKK ST) {X : Nat → List pm_V → List pm_V → pm_Mem → Prop} {μ0 : pm_Mem} (hJ : zJ μ0) (hT0 : zTy μ0) (hb205 : sx_bit Wm 205 = true) (hb206 : sx_bit Wm 206 = true) (hb209 : sx_bit Wm 209 = true) (hb210 : sx_bit Wm 210 = true) (hb213 : sx_bit Wm 213 = true) (hb214 : sx_bit Wm 214 = true) (hb215 : sx_bit Wm 215 = true) (hb216 : sx_bit Wm 216 = true) (hb217 : sx_bit Wm 217 = true) (hb218 : sx_bit Wm 218 = true) (hb219 : sx_bit Wm 219 = true) (hb221 : sx_bit Wm 221 = true) (hb222 : sx_bit Wm 222 = true) (hb223 : sx_bit Wm 223 = true) (hb230 : sx_bit Wm 230 = true) (hb232 : sx_bit Wm 232 = true) (hb234 : sx_bit Wm 234 = true) (hb235 : sx_bit Wm 235 = true) (hb237 : sx_bit Wm 237 = true) (hb239 : sx_bit Wm 239 = true) (hb241 : sx_bit Wm 241 = true) (hb244 : sx_bit Wm 244 = true) (hb245 : sx_bit Wm 245 = true) (K : ∀ (i : Int) (μ : pm_Mem), zKp μ0 μ 485 → zW D Wm ST b0 l Sg zM206 bud X 242 [(2, 205), (0, i)] [] μ) (hbd : 1 ≤ bud.1 ∧ 21 ≤ bud.2.1) : ∀ (n : Nat) {i : Int} {μ : pm_Mem}, (10 - i).toNat = n → ∀ (hi : 0 ≤ i ∧ i ≤ 10) (hk : zKp μ0 μ (455 + 3 * i.toNat)), zW D Wm ST b0 l Sg zM206 bud X 182 [(2, 205), (0, i)] [] μ := by
  intro n
  induction n using Nat.strongRecOn with
  | ind n ih =>
    intro i μ hn hi hk
    have hi0 : ((i.toNat : Nat) : Int) = i := by omega
    refine pm_blk hK zmm206 [] 2 185 [(2, 205), (0, i)] [(0, 10), (0, i)] μ [] rfl trivial ?_
    refine pm_icmp hK zmm206 .ge 57 242 rfl rfl (fun h0 => ?_) (fun h0 => ?_)
    · have h0 : (10 : Int) ≤ i := h0
      have hk2 := hk
      rw [show 455 + 3 * i.toNat = 485 by omega] at hk2
      exact K _ _ hk2
    · have h0 : i < (10 : Int) := h0
      refine pm_blk hK zmm206 [] 8 200 [(2, 205), (0, i)] [(0, μ 234 i), (2, 205), (0, i), (2, 234)] μ [0 ≤ i ∧ i < 10] rfl ⟨⟨by omega, by omega⟩, trivial⟩ ?_
      refine pm_call hK zmm206 (525, 0, 204, 1) zM204 (0, 0) [(2, 205), (0, μ 234 i)] [(0, i), (2, 234)] rfl rfl rfl rfl ⟨by omega, by rw [zn204]; omega⟩ (zh_keeps hK (n := 455 + 3 * i.toNat) (r := 234) (k := i.toNat) (j := i) (by omega) hk hJ hT0 (zIpl_err i.toNat (by omega)).1 (by omega) rfl hb205 hb245 ⟨Nat.le_refl _, Nat.le_refl _⟩) (fun st1 μc1 hp1 => ?_)
      obtain ⟨x1, rfl, hq1⟩ := hp1
      refine pm_blk hK zmm206 [] 1 204 [(2, 205), (0, i)] [] (pm_up μc1 234 i x1) [sx_bit Wm 234 = true, 0 ≤ i ∧ i < 10] rfl ⟨hb234, ⟨by omega, by omega⟩, trivial⟩ ?_
      obtain ⟨μ1, eμ1⟩ : ∃ μ', μ' = pm_up μc1 234 i x1 := ⟨_, rfl⟩
      rw [← eμ1]
      have hw1 := hq1
      rw [← eμ1] at hw1
      have g1 : μ1 235 i = μc1 235 i := by rw [eμ1, pm_up_off (by decide)]
      refine pm_blk hK zmm206 [] 8 216 [(2, 205), (0, i)] [(0, μ1 235 i), (2, 205), (0, i), (2, 235)] μ1 [0 ≤ i ∧ i < 10] rfl ⟨⟨by omega, by omega⟩, trivial⟩ ?_
      refine pm_call hK zmm206 (525, 0, 204, 1) zM204 (0, 0) [(2, 205), (0, μ1 235 i)] [(0, i), (2, 235)] rfl rfl rfl rfl ⟨by omega, by rw [zn204]; omega⟩ (zh_keeps hK (n := 455 + 3 * i.toNat + 1) (r := 235) (k := i.toNat) (j := i) (by omega) hw1 hJ hT0 (zIpl_err i.toNat (by omega)).2.1 (by omega) rfl hb205 hb245 ⟨Nat.le_refl _, Nat.le_refl _⟩) (fun st2 μc2 hp2 => ?_)
      obtain ⟨x2, rfl, hq2⟩ := hp2
      refine pm_blk hK zmm206 [] 1 220 [(2, 205), (0, i)] [] (pm_up μc2 235 i x2) [sx_bit Wm 235 = true, 0 ≤ i ∧ i < 10] rfl ⟨hb235, ⟨by omega, by omega⟩, trivial⟩ ?_
      obtain ⟨μ2, eμ2⟩ : ∃ μ', μ' = pm_up μc2 235 i x2 := ⟨_, rfl⟩
      rw [← eμ2]
      have hw2 := hq2
      rw [← eμ2] at hw2
      have g2 : μ2 241 i = μc2 241 i := by rw [eμ2, pm_up_off (by decide)]
      refine pm_blk hK zmm206 [] 8 232 [(2, 205), (0, i)] [(0, μ2 241 i), (2, 205), (0, i), (2, 241)] μ2 [0 ≤ i ∧ i < 10] rfl ⟨⟨by omega, by omega⟩, trivial⟩ ?_
      refine pm_call hK zmm206 (525, 0, 204, 1) zM204 (0, 0) [(2, 205), (0, μ2 241 i)] [(0, i), (2, 241)] rfl rfl rfl rfl ⟨by omega, by rw [zn204]; omega⟩ (zh_keeps hK (n := 455 + 3 * i.toNat + 2) (r := 241) (k := i.toNat) (j := i) (by omega) hw2 hJ hT0 (zIpl_err i.toNat (by omega)).2.2 (by omega) rfl hb205 hb245 ⟨Nat.le_refl _, Nat.le_refl _⟩) (fun st3 μc3 hp3 => ?_)
      obtain ⟨x3, rfl, hq3⟩ := hp3
      refine pm_blk hK zmm206 [] 1 236 [(2, 205), (0, i)] [] (pm_up μc3 241 i x3) [sx_bit Wm 241 = true, 0 ≤ i ∧ i < 10] rfl ⟨hb241, ⟨by omega, by omega⟩, trivial⟩ ?_
      obtain ⟨μ3, eμ3⟩ : ∃ μ', μ' = pm_up μc3 241 i x3 := ⟨_, rfl⟩
      rw [← eμ3]
      have hw3 := hq3
      rw [← eμ3] at hw3
      refine pm_blk hK zmm206 [] 2 182 [(2, 205), (0, i + 1)] [] μ3 [pm_in (i + 1)] rfl ⟨pm_in_mk (by omega) (by omega), trivial⟩ ?_
      refine ih _ (by omega) rfl ⟨by omega, by omega⟩ ?_
      rw [show 455 + 3 * (i + 1).toNat = 455 + 3 * i.toNat + 3 by omega]
      exact hw3
set_option maxRecDepth 100000 in
theorem zl_kt7 (hK : zKK ST) {X : Nat → List pm_V → List pm_V → pm_Mem → Prop} {μ0 : pm_Mem} (hJ : zJ μ0) (hT0 : zTy μ0) (hb205 : sx_bit Wm 205 = true) (hb206 : sx_bit Wm 206 = true) (hb209 : sx_bit Wm 209 = true) (hb210 : sx_bit Wm 210 = true) (hb213 : sx_bit Wm 213 = true) (hb214 : sx_bit Wm 214 = true) (hb215 : sx_bit Wm 215 = true) (hb216 : sx_bit Wm 216 = true) (hb217 : sx_bit Wm 217 = true) (hb218 : sx_bit Wm 218 = true) (hb219 : sx_bit Wm 219 = true) (hb221 : sx_bit Wm 221 = true) (hb222 : sx_bit Wm 222 = true) (hb223 : sx_bit Wm 223 = true) (hb230 : sx_bit Wm 230 = true) (hb232 : sx_bit Wm 232 = true) (hb234 : sx_bit Wm 234 = true) (hb235 : sx_bit Wm 235 = true) (hb237 : sx_bit Wm 237 = true) (hb239 : sx_bit Wm 239 = true) (hb241 : sx_bit Wm 241 = true) (hb244 : sx_bit Wm 244 = true) (hb245 : sx_bit Wm 245 = true) (K : ∀ (i : Int) (μ : pm_Mem), zKp μ0 μ 501 → zW D Wm ST b0 l Sg zM206 bud X 288 [(2, 205), (0, i)] [] μ) (hbd : 1 ≤ bud.1 ∧ 21 ≤ bud.2.1) : ∀ (n : Nat) {i : Int} {μ : pm_Mem}, (8 - i).toNat = n → ∀ (hi : 0 ≤ i ∧ i ≤ 8) (hk : zKp μ0 μ (485 + 2 * i.toNat)), zW D Wm ST b0 l Sg zM206 bud X 244 [(2, 205), (0, i)] [] μ := by
  intro n
  induction n using Nat.strongRecOn with
  | ind n ih =>
    intro i μ hn hi hk
    have hi0 : ((i.toNat : Nat) : Int) = i := by omega
    refine pm_blk hK zmm206 [] 2 247 [(2, 205), (0, i)] [(0, 8), (0, i)] μ [] rfl trivial ?_
    refine pm_icmp hK zmm206 .ge 41 288 rfl rfl (fun h0 => ?_) (fun h0 => ?_)
    · have h0 : (8 : Int) ≤ i := h0
      have hk2 := hk
      rw [show 485 + 2 * i.toNat = 501 by omega] at hk2
      exact K _ _ hk2
    · have h0 : i < (8 : Int) := h0
      refine pm_blk hK zmm206 [] 8 262 [(2, 205), (0, i)] [(0, μ 237 i), (2, 205), (0, i), (2, 237)] μ [0 ≤ i ∧ i < 8] rfl ⟨⟨by omega, by omega⟩, trivial⟩ ?_
      refine pm_call hK zmm206 (525, 0, 204, 1) zM204 (0, 0) [(2, 205), (0, μ 237 i)] [(0, i), (2, 237)] rfl rfl rfl rfl ⟨by omega, by rw [zn204]; omega⟩ (zh_keeps hK (n := 485 + 2 * i.toNat) (r := 237) (k := i.toNat) (j := i) (by omega) hk hJ hT0 (zIpl_thr i.toNat (by omega)).1 (by omega) rfl hb205 hb245 ⟨Nat.le_refl _, Nat.le_refl _⟩) (fun st1 μc1 hp1 => ?_)
      obtain ⟨x1, rfl, hq1⟩ := hp1
      refine pm_blk hK zmm206 [] 1 266 [(2, 205), (0, i)] [] (pm_up μc1 237 i x1) [sx_bit Wm 237 = true, 0 ≤ i ∧ i < 8] rfl ⟨hb237, ⟨by omega, by omega⟩, trivial⟩ ?_
      obtain ⟨μ1, eμ1⟩ : ∃ μ', μ' = pm_up μc1 237 i x1 := ⟨_, rfl⟩
      rw [← eμ1]
      have hw1 := hq1
      rw [← eμ1] at hw1
      have g1 : μ1 244 i = μc1 244 i := by rw [eμ1, pm_up_off (by decide)]
      refine pm_blk hK zmm206 [] 8 278 [(2, 205), (0, i)] [(0, μ1 244 i), (2, 205), (0, i), (2, 244)] μ1 [0 ≤ i ∧ i < 8] rfl ⟨⟨by omega, by omega⟩, trivial⟩ ?_
      refine pm_call hK zmm206 (525, 0, 204, 1) zM204 (0, 0) [(2, 205), (0, μ1 244 i)] [(0, i), (2, 244)] rfl rfl rfl rfl ⟨by omega, by rw [zn204]; omega⟩ (zh_keeps hK (n := 485 + 2 * i.toNat + 1) (r := 244) (k := i.toNat) (j := i) (by omega) hw1 hJ hT0 (zIpl_thr i.toNat (by omega)).2 (by omega) rfl hb205 hb245 ⟨Nat.le_refl _, Nat.le_refl _⟩) (fun st2 μc2 hp2 => ?_)
      obtain ⟨x2, rfl, hq2⟩ := hp2
      refine pm_blk hK zmm206 [] 1 282 [(2, 205), (0, i)] [] (pm_up μc2 244 i x2) [sx_bit Wm 244 = true, 0 ≤ i ∧ i < 8] rfl ⟨hb244, ⟨by omega, by omega⟩, trivial⟩ ?_
      obtain ⟨μ2, eμ2⟩ : ∃ μ', μ' = pm_up μc2 244 i x2 := ⟨_, rfl⟩
      rw [← eμ2]
      have hw2 := hq2
      rw [← eμ2] at hw2
      refine pm_blk hK zmm206 [] 2 244 [(2, 205), (0, i + 1)] [] μ2 [pm_in (i + 1)] rfl ⟨pm_in_mk (by omega) (by omega), trivial⟩ ?_
      refine ih _ (by omega) rfl ⟨by omega, by omega⟩ ?_
      rw [show 485 + 2 * (i + 1).toNat = 485 + 2 * i.toNat + 2 by omega]
      exact hw2
set_option maxRecDepth 100000 in
theorem zl_kt8 (hK : zKK ST) {X : Nat → List pm_V → List pm_V → pm_Mem → Prop} {μ0 : pm_Mem} (hJ : zJ μ0) (hT0 : zTy μ0) (hb205 : sx_bit Wm 205 = true) (hb206 : sx_bit Wm 206 = true) (hb209 : sx_bit Wm 209 = true) (hb210 : sx_bit Wm 210 = true) (hb213 : sx_bit Wm 213 = true) (hb214 : sx_bit Wm 214 = true) (hb215 : sx_bit Wm 215 = true) (hb216 : sx_bit Wm 216 = true) (hb217 : sx_bit Wm 217 = true) (hb218 : sx_bit Wm 218 = true) (hb219 : sx_bit Wm 219 = true) (hb221 : sx_bit Wm 221 = true) (hb222 : sx_bit Wm 222 = true) (hb223 : sx_bit Wm 223 = true) (hb230 : sx_bit Wm 230 = true) (hb232 : sx_bit Wm 232 = true) (hb234 : sx_bit Wm 234 = true) (hb235 : sx_bit Wm 235 = true) (hb237 : sx_bit Wm 237 = true) (hb239 : sx_bit Wm 239 = true) (hb241 : sx_bit Wm 241 = true) (hb244 : sx_bit Wm 244 = true) (hb245 : sx_bit Wm 245 = true) (K : ∀ (i : Int) (μ : pm_Mem), zKp μ0 μ 513 → zW D Wm ST b0 l Sg zM206 bud X 318 [(2, 205), (0, i)] [] μ) (hbd : 1 ≤ bud.1 ∧ 21 ≤ bud.2.1) : ∀ (n : Nat) {i : Int} {μ : pm_Mem}, (12 - i).toNat = n → ∀ (hi : 0 ≤ i ∧ i ≤ 12) (hk : zKp μ0 μ (501 + i.toNat)), zW D Wm ST b0 l Sg zM206 bud X 290 [(2, 205), (0, i)] [] μ := by
  intro n
  induction n using Nat.strongRecOn with
  | ind n ih =>
    intro i μ hn hi hk
    have hi0 : ((i.toNat : Nat) : Int) = i := by omega
    refine pm_blk hK zmm206 [] 2 293 [(2, 205), (0, i)] [(0, 12), (0, i)] μ [] rfl trivial ?_
    refine pm_icmp hK zmm206 .ge 25 318 rfl rfl (fun h0 => ?_) (fun h0 => ?_)
    · have h0 : (12 : Int) ≤ i := h0
      have hk2 := hk
      rw [show 501 + i.toNat = 513 by omega] at hk2
      exact K _ _ hk2
    · have h0 : i < (12 : Int) := h0
      refine pm_blk hK zmm206 [] 8 308 [(2, 205), (0, i)] [(0, μ 239 i), (2, 205), (0, i), (2, 239)] μ [0 ≤ i ∧ i < 12] rfl ⟨⟨by omega, by omega⟩, trivial⟩ ?_
      refine pm_call hK zmm206 (525, 0, 204, 1) zM204 (0, 0) [(2, 205), (0, μ 239 i)] [(0, i), (2, 239)] rfl rfl rfl rfl ⟨by omega, by rw [zn204]; omega⟩ (zh_keeps hK (n := 501 + i.toNat) (r := 239) (k := i.toNat) (j := i) (by omega) hk hJ hT0 (zIpl_239 i.toNat (by omega)) (by omega) rfl hb205 hb245 ⟨Nat.le_refl _, Nat.le_refl _⟩) (fun st1 μc1 hp1 => ?_)
      obtain ⟨x1, rfl, hq1⟩ := hp1
      refine pm_blk hK zmm206 [] 1 312 [(2, 205), (0, i)] [] (pm_up μc1 239 i x1) [sx_bit Wm 239 = true, 0 ≤ i ∧ i < 12] rfl ⟨hb239, ⟨by omega, by omega⟩, trivial⟩ ?_
      obtain ⟨μ1, eμ1⟩ : ∃ μ', μ' = pm_up μc1 239 i x1 := ⟨_, rfl⟩
      rw [← eμ1]
      have hw1 := hq1
      rw [← eμ1] at hw1
      refine pm_blk hK zmm206 [] 2 290 [(2, 205), (0, i + 1)] [] μ1 [pm_in (i + 1)] rfl ⟨pm_in_mk (by omega) (by omega), trivial⟩ ?_
      refine ih _ (by omega) rfl ⟨by omega, by omega⟩ ?_
      rw [show 501 + (i + 1).toNat = 501 + i.toNat + 1 by omega]
      exact hw1
set_option maxRecDepth 100000 in
theorem zh_keepsTold (hK : zKK ST) {μ0 : pm_Mem} (hJ : zJ μ0) (hT0 : zTy μ0) (hb205 : sx_bit Wm 205 = true) (hb206 : sx_bit Wm 206 = true) (hb209 : sx_bit Wm 209 = true) (hb210 : sx_bit Wm 210 = true) (hb213 : sx_bit Wm 213 = true) (hb214 : sx_bit Wm 214 = true) (hb215 : sx_bit Wm 215 = true) (hb216 : sx_bit Wm 216 = true) (hb217 : sx_bit Wm 217 = true) (hb218 : sx_bit Wm 218 = true) (hb219 : sx_bit Wm 219 = true) (hb221 : sx_bit Wm 221 = true) (hb222 : sx_bit Wm 222 = true) (hb223 : sx_bit Wm 223 = true) (hb230 : sx_bit Wm 230 = true) (hb232 : sx_bit Wm 232 = true) (hb234 : sx_bit Wm 234 = true) (hb235 : sx_bit Wm 235 = true) (hb237 : sx_bit Wm 237 = true) (hb239 : sx_bit Wm 239 = true) (hb241 : sx_bit Wm 241 = true) (hb244 : sx_bit Wm 244 = true) (hb245 : sx_bit Wm 245 = true) (hk : zKp μ0 μ 171) (hbd : 1 ≤ bud.1 ∧ 21 ≤ bud.2.1) : zC D Wm ST b0 l Sg zM206 bud [(2, 205)] μ (fun st' μ' => st' = [] ∧ zKp μ0 μ' 513) := by
  refine pm_blk hK zmm206 [] 2 2 [(2, 205), (0, 0)] [] μ [] rfl trivial ?_
  refine zl_kt0 hK hJ hT0 hb205 hb206 hb209 hb210 hb213 hb214 hb215 hb216 hb217 hb218 hb219 hb221 hb222 hb223 hb230 hb232 hb234 hb235 hb237 hb239 hb241 hb244 hb245 (fun i μ hk => ?_) ⟨by omega, by omega⟩ _ (i := 0) rfl ⟨by omega, by omega⟩ hk
  refine pm_blk hK zmm206 [] 2 32 [(2, 205), (0, 0)] [] μ [] rfl trivial ?_
  refine zl_kt1 hK hJ hT0 hb205 hb206 hb209 hb210 hb213 hb214 hb215 hb216 hb217 hb218 hb219 hb221 hb222 hb223 hb230 hb232 hb234 hb235 hb237 hb239 hb241 hb244 hb245 (fun i μ hk => ?_) ⟨by omega, by omega⟩ _ (i := 0) rfl ⟨by omega, by omega⟩ hk
  refine pm_blk hK zmm206 [] 2 62 [(2, 205), (0, 0)] [] μ [] rfl trivial ?_
  refine zl_kt2 hK hJ hT0 hb205 hb206 hb209 hb210 hb213 hb214 hb215 hb216 hb217 hb218 hb219 hb221 hb222 hb223 hb230 hb232 hb234 hb235 hb237 hb239 hb241 hb244 hb245 (fun i μ hk => ?_) ⟨by omega, by omega⟩ _ (i := 0) rfl ⟨by omega, by omega⟩ hk
  refine pm_blk hK zmm206 [] 2 92 [(2, 205), (0, 0)] [] μ [] rfl trivial ?_
  refine zl_kt3 hK hJ hT0 hb205 hb206 hb209 hb210 hb213 hb214 hb215 hb216 hb217 hb218 hb219 hb221 hb222 hb223 hb230 hb232 hb234 hb235 hb237 hb239 hb241 hb244 hb245 (fun i μ hk => ?_) ⟨by omega, by omega⟩ _ (i := 0) rfl ⟨by omega, by omega⟩ hk
  refine pm_blk hK zmm206 [] 2 123 [(2, 205), (0, 0)] [] μ [] rfl trivial ?_
  refine zl_kt4 hK hJ hT0 hb205 hb206 hb209 hb210 hb213 hb214 hb215 hb216 hb217 hb218 hb219 hb221 hb222 hb223 hb230 hb232 hb234 hb235 hb237 hb239 hb241 hb244 hb245 (fun i μ hk => ?_) ⟨by omega, by omega⟩ _ (i := 0) rfl ⟨by omega, by omega⟩ hk
  refine pm_blk hK zmm206 [] 2 153 [(2, 205), (0, 0)] [] μ [] rfl trivial ?_
  refine zl_kt5 hK hJ hT0 hb205 hb206 hb209 hb210 hb213 hb214 hb215 hb216 hb217 hb218 hb219 hb221 hb222 hb223 hb230 hb232 hb234 hb235 hb237 hb239 hb241 hb244 hb245 (fun i μ hk => ?_) ⟨by omega, by omega⟩ _ (i := 0) rfl ⟨by omega, by omega⟩ hk
  refine pm_blk hK zmm206 [] 2 182 [(2, 205), (0, 0)] [] μ [] rfl trivial ?_
  refine zl_kt6 hK hJ hT0 hb205 hb206 hb209 hb210 hb213 hb214 hb215 hb216 hb217 hb218 hb219 hb221 hb222 hb223 hb230 hb232 hb234 hb235 hb237 hb239 hb241 hb244 hb245 (fun i μ hk => ?_) ⟨by omega, by omega⟩ _ (i := 0) rfl ⟨by omega, by omega⟩ hk
  refine pm_blk hK zmm206 [] 2 244 [(2, 205), (0, 0)] [] μ [] rfl trivial ?_
  refine zl_kt7 hK hJ hT0 hb205 hb206 hb209 hb210 hb213 hb214 hb215 hb216 hb217 hb218 hb219 hb221 hb222 hb223 hb230 hb232 hb234 hb235 hb237 hb239 hb241 hb244 hb245 (fun i μ hk => ?_) ⟨by omega, by omega⟩ _ (i := 0) rfl ⟨by omega, by omega⟩ hk
  refine pm_blk hK zmm206 [] 2 290 [(2, 205), (0, 0)] [] μ [] rfl trivial ?_
  refine zl_kt8 hK hJ hT0 hb205 hb206 hb209 hb210 hb213 hb214 hb215 hb216 hb217 hb218 hb219 hb221 hb222 hb223 hb230 hb232 hb234 hb235 hb237 hb239 hb241 hb244 hb245 (fun i μ hk => ?_) ⟨by omega, by omega⟩ _ (i := 0) rfl ⟨by omega, by omega⟩ hk
  exact pm_vret rfl rfl ⟨rfl, hk⟩
set_option maxRecDepth 100000 in
theorem zl_kl0 (hK : zKK ST) {X : Nat → List pm_V → List pm_V → pm_Mem → Prop} {μ0 : pm_Mem} (hJ : zJ μ0) (hT0 : zTy μ0) (hb205 : sx_bit Wm 205 = true) (hb206 : sx_bit Wm 206 = true) (hb209 : sx_bit Wm 209 = true) (hb210 : sx_bit Wm 210 = true) (hb213 : sx_bit Wm 213 = true) (hb214 : sx_bit Wm 214 = true) (hb215 : sx_bit Wm 215 = true) (hb216 : sx_bit Wm 216 = true) (hb217 : sx_bit Wm 217 = true) (hb218 : sx_bit Wm 218 = true) (hb219 : sx_bit Wm 219 = true) (hb221 : sx_bit Wm 221 = true) (hb222 : sx_bit Wm 222 = true) (hb223 : sx_bit Wm 223 = true) (hb230 : sx_bit Wm 230 = true) (hb232 : sx_bit Wm 232 = true) (hb234 : sx_bit Wm 234 = true) (hb235 : sx_bit Wm 235 = true) (hb237 : sx_bit Wm 237 = true) (hb239 : sx_bit Wm 239 = true) (hb241 : sx_bit Wm 241 = true) (hb244 : sx_bit Wm 244 = true) (hb245 : sx_bit Wm 245 = true) (K : ∀ (i : Int) (μ : pm_Mem), zKp μ0 μ 1328 → zW D Wm ST b0 l Sg zM207 bud X 94 [(2, 205), (0, i)] [] μ) (hbd : 1 ≤ bud.1 ∧ 21 ≤ bud.2.1) : ∀ (n : Nat) {i : Int} {μ : pm_Mem}, (16 - i).toNat = n → ∀ (hi : 0 ≤ i ∧ i ≤ 16) (hk : zKp μ0 μ (1264 + 4 * i.toNat)), zW D Wm ST b0 l Sg zM207 bud X 18 [(2, 205), (0, i)] [] μ := by
  intro n
  induction n using Nat.strongRecOn with
  | ind n ih =>
    intro i μ hn hi hk
    have hi0 : ((i.toNat : Nat) : Int) = i := by omega
    refine pm_blk hK zmm207 [] 2 21 [(2, 205), (0, i)] [(0, 16), (0, i)] μ [] rfl trivial ?_
    refine pm_icmp hK zmm207 .ge 73 94 rfl rfl (fun h0 => ?_) (fun h0 => ?_)
    · have h0 : (16 : Int) ≤ i := h0
      have hk2 := hk
      rw [show 1264 + 4 * i.toNat = 1328 by omega] at hk2
      exact K _ _ hk2
    · have h0 : i < (16 : Int) := h0
      refine pm_blk hK zmm207 [] 8 36 [(2, 205), (0, i)] [(0, μ 214 i), (2, 205), (0, i), (2, 214)] μ [0 ≤ i ∧ i < 48] rfl ⟨⟨by omega, by omega⟩, trivial⟩ ?_
      refine pm_call hK zmm207 (525, 0, 204, 1) zM204 (0, 0) [(2, 205), (0, μ 214 i)] [(0, i), (2, 214)] rfl rfl rfl rfl ⟨by omega, by rw [zn204]; omega⟩ (zh_keeps hK (n := 1264 + 4 * i.toNat) (r := 214) (k := i.toNat) (j := i) (by omega) hk hJ hT0 (zIpl_word i.toNat (by omega)).1 (by omega) rfl hb205 hb245 ⟨Nat.le_refl _, Nat.le_refl _⟩) (fun st1 μc1 hp1 => ?_)
      obtain ⟨x1, rfl, hq1⟩ := hp1
      refine pm_blk hK zmm207 [] 1 40 [(2, 205), (0, i)] [] (pm_up μc1 214 i x1) [sx_bit Wm 214 = true, 0 ≤ i ∧ i < 48] rfl ⟨hb214, ⟨by omega, by omega⟩, trivial⟩ ?_
      obtain ⟨μ1, eμ1⟩ : ∃ μ', μ' = pm_up μc1 214 i x1 := ⟨_, rfl⟩
      rw [← eμ1]
      have hw1 := hq1
      rw [← eμ1] at hw1
      have g1 : μ1 215 i = μc1 215 i := by rw [eμ1, pm_up_off (by decide)]
      refine pm_blk hK zmm207 [] 8 52 [(2, 205), (0, i)] [(0, μ1 215 i), (2, 205), (0, i), (2, 215)] μ1 [0 ≤ i ∧ i < 48] rfl ⟨⟨by omega, by omega⟩, trivial⟩ ?_
      refine pm_call hK zmm207 (525, 0, 204, 1) zM204 (0, 0) [(2, 205), (0, μ1 215 i)] [(0, i), (2, 215)] rfl rfl rfl rfl ⟨by omega, by rw [zn204]; omega⟩ (zh_keeps hK (n := 1264 + 4 * i.toNat + 1) (r := 215) (k := i.toNat) (j := i) (by omega) hw1 hJ hT0 (zIpl_word i.toNat (by omega)).2.1 (by omega) rfl hb205 hb245 ⟨Nat.le_refl _, Nat.le_refl _⟩) (fun st2 μc2 hp2 => ?_)
      obtain ⟨x2, rfl, hq2⟩ := hp2
      refine pm_blk hK zmm207 [] 1 56 [(2, 205), (0, i)] [] (pm_up μc2 215 i x2) [sx_bit Wm 215 = true, 0 ≤ i ∧ i < 48] rfl ⟨hb215, ⟨by omega, by omega⟩, trivial⟩ ?_
      obtain ⟨μ2, eμ2⟩ : ∃ μ', μ' = pm_up μc2 215 i x2 := ⟨_, rfl⟩
      rw [← eμ2]
      have hw2 := hq2
      rw [← eμ2] at hw2
      have g2 : μ2 216 i = μc2 216 i := by rw [eμ2, pm_up_off (by decide)]
      refine pm_blk hK zmm207 [] 8 68 [(2, 205), (0, i)] [(0, μ2 216 i), (2, 205), (0, i), (2, 216)] μ2 [0 ≤ i ∧ i < 48] rfl ⟨⟨by omega, by omega⟩, trivial⟩ ?_
      refine pm_call hK zmm207 (525, 0, 204, 1) zM204 (0, 0) [(2, 205), (0, μ2 216 i)] [(0, i), (2, 216)] rfl rfl rfl rfl ⟨by omega, by rw [zn204]; omega⟩ (zh_keeps hK (n := 1264 + 4 * i.toNat + 2) (r := 216) (k := i.toNat) (j := i) (by omega) hw2 hJ hT0 (zIpl_word i.toNat (by omega)).2.2.1 (by omega) rfl hb205 hb245 ⟨Nat.le_refl _, Nat.le_refl _⟩) (fun st3 μc3 hp3 => ?_)
      obtain ⟨x3, rfl, hq3⟩ := hp3
      refine pm_blk hK zmm207 [] 1 72 [(2, 205), (0, i)] [] (pm_up μc3 216 i x3) [sx_bit Wm 216 = true, 0 ≤ i ∧ i < 48] rfl ⟨hb216, ⟨by omega, by omega⟩, trivial⟩ ?_
      obtain ⟨μ3, eμ3⟩ : ∃ μ', μ' = pm_up μc3 216 i x3 := ⟨_, rfl⟩
      rw [← eμ3]
      have hw3 := hq3
      rw [← eμ3] at hw3
      have g3 : μ3 217 i = μc3 217 i := by rw [eμ3, pm_up_off (by decide)]
      refine pm_blk hK zmm207 [] 8 84 [(2, 205), (0, i)] [(0, μ3 217 i), (2, 205), (0, i), (2, 217)] μ3 [0 ≤ i ∧ i < 48] rfl ⟨⟨by omega, by omega⟩, trivial⟩ ?_
      refine pm_call hK zmm207 (525, 0, 204, 1) zM204 (0, 0) [(2, 205), (0, μ3 217 i)] [(0, i), (2, 217)] rfl rfl rfl rfl ⟨by omega, by rw [zn204]; omega⟩ (zh_keeps hK (n := 1264 + 4 * i.toNat + 3) (r := 217) (k := i.toNat) (j := i) (by omega) hw3 hJ hT0 (zIpl_word i.toNat (by omega)).2.2.2 (by omega) rfl hb205 hb245 ⟨Nat.le_refl _, Nat.le_refl _⟩) (fun st4 μc4 hp4 => ?_)
      obtain ⟨x4, rfl, hq4⟩ := hp4
      refine pm_blk hK zmm207 [] 1 88 [(2, 205), (0, i)] [] (pm_up μc4 217 i x4) [sx_bit Wm 217 = true, 0 ≤ i ∧ i < 48] rfl ⟨hb217, ⟨by omega, by omega⟩, trivial⟩ ?_
      obtain ⟨μ4, eμ4⟩ : ∃ μ', μ' = pm_up μc4 217 i x4 := ⟨_, rfl⟩
      rw [← eμ4]
      have hw4 := hq4
      rw [← eμ4] at hw4
      refine pm_blk hK zmm207 [] 2 18 [(2, 205), (0, i + 1)] [] μ4 [pm_in (i + 1)] rfl ⟨pm_in_mk (by omega) (by omega), trivial⟩ ?_
      refine ih _ (by omega) rfl ⟨by omega, by omega⟩ ?_
      rw [show 1264 + 4 * (i + 1).toNat = 1264 + 4 * i.toNat + 4 by omega]
      exact hw4
set_option maxRecDepth 100000 in
theorem zl_kl1 (hK : zKK ST) {X : Nat → List pm_V → List pm_V → pm_Mem → Prop} {μ0 : pm_Mem} (hJ : zJ μ0) (hT0 : zTy μ0) (hb205 : sx_bit Wm 205 = true) (hb206 : sx_bit Wm 206 = true) (hb209 : sx_bit Wm 209 = true) (hb210 : sx_bit Wm 210 = true) (hb213 : sx_bit Wm 213 = true) (hb214 : sx_bit Wm 214 = true) (hb215 : sx_bit Wm 215 = true) (hb216 : sx_bit Wm 216 = true) (hb217 : sx_bit Wm 217 = true) (hb218 : sx_bit Wm 218 = true) (hb219 : sx_bit Wm 219 = true) (hb221 : sx_bit Wm 221 = true) (hb222 : sx_bit Wm 222 = true) (hb223 : sx_bit Wm 223 = true) (hb230 : sx_bit Wm 230 = true) (hb232 : sx_bit Wm 232 = true) (hb234 : sx_bit Wm 234 = true) (hb235 : sx_bit Wm 235 = true) (hb237 : sx_bit Wm 237 = true) (hb239 : sx_bit Wm 239 = true) (hb241 : sx_bit Wm 241 = true) (hb244 : sx_bit Wm 244 = true) (hb245 : sx_bit Wm 245 = true) (K : ∀ (i : Int) (μ : pm_Mem), zKp μ0 μ 2128 → zW D Wm ST b0 l Sg zM207 bud X 141 [(2, 205), (0, i)] [] μ) (hbd : 1 ≤ bud.1 ∧ 21 ≤ bud.2.1) : ∀ (n : Nat) {i : Int} {μ : pm_Mem}, (400 - i).toNat = n → ∀ (hi : 0 ≤ i ∧ i ≤ 400) (hk : zKp μ0 μ (1328 + 2 * i.toNat)), zW D Wm ST b0 l Sg zM207 bud X 96 [(2, 205), (0, i)] [] μ := by
  intro n
  induction n using Nat.strongRecOn with
  | ind n ih =>
    intro i μ hn hi hk
    have hi0 : ((i.toNat : Nat) : Int) = i := by omega
    refine pm_blk hK zmm207 [] 2 100 [(2, 205), (0, i)] [(0, 400), (0, i)] μ [] rfl trivial ?_
    refine pm_icmp hK zmm207 .ge 41 141 rfl rfl (fun h0 => ?_) (fun h0 => ?_)
    · have h0 : (400 : Int) ≤ i := h0
      have hk2 := hk
      rw [show 1328 + 2 * i.toNat = 2128 by omega] at hk2
      exact K _ _ hk2
    · have h0 : i < (400 : Int) := h0
      refine pm_blk hK zmm207 [] 8 115 [(2, 205), (0, i)] [(0, μ 218 i), (2, 205), (0, i), (2, 218)] μ [0 ≤ i ∧ i < 1200] rfl ⟨⟨by omega, by omega⟩, trivial⟩ ?_
      refine pm_call hK zmm207 (525, 0, 204, 1) zM204 (0, 0) [(2, 205), (0, μ 218 i)] [(0, i), (2, 218)] rfl rfl rfl rfl ⟨by omega, by rw [zn204]; omega⟩ (zh_keeps hK (n := 1328 + 2 * i.toNat) (r := 218) (k := i.toNat) (j := i) (by omega) hk hJ hT0 (zIpl_code i.toNat (by omega)).1 (by omega) rfl hb205 hb245 ⟨Nat.le_refl _, Nat.le_refl _⟩) (fun st1 μc1 hp1 => ?_)
      obtain ⟨x1, rfl, hq1⟩ := hp1
      refine pm_blk hK zmm207 [] 1 119 [(2, 205), (0, i)] [] (pm_up μc1 218 i x1) [sx_bit Wm 218 = true, 0 ≤ i ∧ i < 1200] rfl ⟨hb218, ⟨by omega, by omega⟩, trivial⟩ ?_
      obtain ⟨μ1, eμ1⟩ : ∃ μ', μ' = pm_up μc1 218 i x1 := ⟨_, rfl⟩
      rw [← eμ1]
      have hw1 := hq1
      rw [← eμ1] at hw1
      have g1 : μ1 219 i = μc1 219 i := by rw [eμ1, pm_up_off (by decide)]
      refine pm_blk hK zmm207 [] 8 131 [(2, 205), (0, i)] [(0, μ1 219 i), (2, 205), (0, i), (2, 219)] μ1 [0 ≤ i ∧ i < 1200] rfl ⟨⟨by omega, by omega⟩, trivial⟩ ?_
      refine pm_call hK zmm207 (525, 0, 204, 1) zM204 (0, 0) [(2, 205), (0, μ1 219 i)] [(0, i), (2, 219)] rfl rfl rfl rfl ⟨by omega, by rw [zn204]; omega⟩ (zh_keeps hK (n := 1328 + 2 * i.toNat + 1) (r := 219) (k := i.toNat) (j := i) (by omega) hw1 hJ hT0 (zIpl_code i.toNat (by omega)).2 (by omega) rfl hb205 hb245 ⟨Nat.le_refl _, Nat.le_refl _⟩) (fun st2 μc2 hp2 => ?_)
      obtain ⟨x2, rfl, hq2⟩ := hp2
      refine pm_blk hK zmm207 [] 1 135 [(2, 205), (0, i)] [] (pm_up μc2 219 i x2) [sx_bit Wm 219 = true, 0 ≤ i ∧ i < 1200] rfl ⟨hb219, ⟨by omega, by omega⟩, trivial⟩ ?_
      obtain ⟨μ2, eμ2⟩ : ∃ μ', μ' = pm_up μc2 219 i x2 := ⟨_, rfl⟩
      rw [← eμ2]
      have hw2 := hq2
      rw [← eμ2] at hw2
      refine pm_blk hK zmm207 [] 2 96 [(2, 205), (0, i + 1)] [] μ2 [pm_in (i + 1)] rfl ⟨pm_in_mk (by omega) (by omega), trivial⟩ ?_
      refine ih _ (by omega) rfl ⟨by omega, by omega⟩ ?_
      rw [show 1328 + 2 * (i + 1).toNat = 1328 + 2 * i.toNat + 2 by omega]
      exact hw2
set_option maxRecDepth 100000 in
theorem zh_keepsLaw (hK : zKK ST) {μ0 : pm_Mem} (hJ : zJ μ0) (hT0 : zTy μ0) (hb205 : sx_bit Wm 205 = true) (hb206 : sx_bit Wm 206 = true) (hb209 : sx_bit Wm 209 = true) (hb210 : sx_bit Wm 210 = true) (hb213 : sx_bit Wm 213 = true) (hb214 : sx_bit Wm 214 = true) (hb215 : sx_bit Wm 215 = true) (hb216 : sx_bit Wm 216 = true) (hb217 : sx_bit Wm 217 = true) (hb218 : sx_bit Wm 218 = true) (hb219 : sx_bit Wm 219 = true) (hb221 : sx_bit Wm 221 = true) (hb222 : sx_bit Wm 222 = true) (hb223 : sx_bit Wm 223 = true) (hb230 : sx_bit Wm 230 = true) (hb232 : sx_bit Wm 232 = true) (hb234 : sx_bit Wm 234 = true) (hb235 : sx_bit Wm 235 = true) (hb237 : sx_bit Wm 237 = true) (hb239 : sx_bit Wm 239 = true) (hb241 : sx_bit Wm 241 = true) (hb244 : sx_bit Wm 244 = true) (hb245 : sx_bit Wm 245 = true) (hk : zKp μ0 μ 1263) (hbd : 1 ≤ bud.1 ∧ 21 ≤ bud.2.1) : zC D Wm ST b0 l Sg zM207 bud [(2, 205)] μ (fun st' μ' => st' = [] ∧ zKp μ0 μ' 2128) := by
  refine pm_blk hK zmm207 [] 8 12 [(2, 205), (9, 0)] [(0, μ 213 0), (2, 205), (0, 0), (2, 213)] μ [0 ≤ 0 ∧ 0 < 2] rfl ⟨⟨by omega, by omega⟩, trivial⟩ ?_
  refine pm_call hK zmm207 (525, 0, 204, 1) zM204 (0, 0) [(2, 205), (0, μ 213 0)] [(0, 0), (2, 213)] rfl rfl rfl rfl ⟨by omega, by rw [zn204]; omega⟩ (zh_keeps hK (n := 1263) (r := 213) (k := 0) (j := 0) (by omega) hk hJ hT0 rfl (by omega) rfl hb205 hb245 ⟨Nat.le_refl _, Nat.le_refl _⟩) (fun st1 μc1 hp1 => ?_)
  obtain ⟨x1, rfl, hq1⟩ := hp1
  refine pm_blk hK zmm207 [] 1 16 [(2, 205), (9, 0)] [] (pm_up μc1 213 0 x1) [sx_bit Wm 213 = true, 0 ≤ 0 ∧ 0 < 2] rfl ⟨hb213, ⟨by omega, by omega⟩, trivial⟩ ?_
  obtain ⟨μ1, eμ1⟩ : ∃ μ', μ' = pm_up μc1 213 0 x1 := ⟨_, rfl⟩
  rw [← eμ1]
  have hw := hq1
  rw [← eμ1] at hw
  refine pm_blk hK zmm207 [] 2 18 [(2, 205), (0, 0)] [] μ1 [] rfl trivial ?_
  refine zl_kl0 hK hJ hT0 hb205 hb206 hb209 hb210 hb213 hb214 hb215 hb216 hb217 hb218 hb219 hb221 hb222 hb223 hb230 hb232 hb234 hb235 hb237 hb239 hb241 hb244 hb245 (fun i μ hk => ?_) ⟨by omega, by omega⟩ _ (i := 0) rfl ⟨by omega, by omega⟩ hw
  refine pm_blk hK zmm207 [] 2 96 [(2, 205), (0, 0)] [] μ [] rfl trivial ?_
  refine zl_kl1 hK hJ hT0 hb205 hb206 hb209 hb210 hb213 hb214 hb215 hb216 hb217 hb218 hb219 hb221 hb222 hb223 hb230 hb232 hb234 hb235 hb237 hb239 hb241 hb244 hb245 (fun i μ hk => ?_) ⟨by omega, by omega⟩ _ (i := 0) rfl ⟨by omega, by omega⟩ hk
  exact pm_vret rfl rfl ⟨rfl, hk⟩
set_option maxRecDepth 100000 in
theorem zl_im0 (hK : zKK ST) {X : Nat → List pm_V → List pm_V → pm_Mem → Prop} {μ0 : pm_Mem} {t : Int} (hJ : zJ μ0) (hT0 : zTy μ0) (hb205 : sx_bit Wm 205 = true) (hb206 : sx_bit Wm 206 = true) (hb209 : sx_bit Wm 209 = true) (hb210 : sx_bit Wm 210 = true) (hb213 : sx_bit Wm 213 = true) (hb214 : sx_bit Wm 214 = true) (hb215 : sx_bit Wm 215 = true) (hb216 : sx_bit Wm 216 = true) (hb217 : sx_bit Wm 217 = true) (hb218 : sx_bit Wm 218 = true) (hb219 : sx_bit Wm 219 = true) (hb221 : sx_bit Wm 221 = true) (hb222 : sx_bit Wm 222 = true) (hb223 : sx_bit Wm 223 = true) (hb230 : sx_bit Wm 230 = true) (hb232 : sx_bit Wm 232 = true) (hb234 : sx_bit Wm 234 = true) (hb235 : sx_bit Wm 235 = true) (hb237 : sx_bit Wm 237 = true) (hb239 : sx_bit Wm 239 = true) (hb241 : sx_bit Wm 241 = true) (hb244 : sx_bit Wm 244 = true) (hb245 : sx_bit Wm 245 = true) (K : ∀ (i : Int) (μ : pm_Mem), zKp μ0 μ 160 → zW D Wm ST b0 l Sg zM203 bud X 64 [(2, 205), (0, t), (0, i)] [] μ) (hbd : 1 ≤ bud.1 ∧ 21 ≤ bud.2.1) : ∀ (n : Nat) {i : Int} {μ : pm_Mem}, (160 - i).toNat = n → ∀ (hi : 0 ≤ i ∧ i ≤ 160) (hk : zKp μ0 μ (i.toNat)), zW D Wm ST b0 l Sg zM203 bud X 35 [(2, 205), (0, t), (0, i)] [] μ := by
  intro n
  induction n using Nat.strongRecOn with
  | ind n ih =>
    intro i μ hn hi hk
    have hi0 : ((i.toNat : Nat) : Int) = i := by omega
    refine pm_blk hK zmm203 [] 2 39 [(2, 205), (0, t), (0, i)] [(0, 160), (0, i)] μ [] rfl trivial ?_
    refine pm_icmp hK zmm203 .ge 25 64 rfl rfl (fun h0 => ?_) (fun h0 => ?_)
    · have h0 : (160 : Int) ≤ i := h0
      have hk2 := hk
      rw [show i.toNat = 160 by omega] at hk2
      exact K _ _ hk2
    · have h0 : i < (160 : Int) := h0
      refine pm_blk hK zmm203 [] 8 54 [(2, 205), (0, t), (0, i)] [(0, μ 206 i), (2, 205), (0, i), (2, 206)] μ [0 ≤ i ∧ i < 160] rfl ⟨⟨by omega, by omega⟩, trivial⟩ ?_
      refine pm_call hK zmm203 (525, 0, 204, 1) zM204 (0, 0) [(2, 205), (0, μ 206 i)] [(0, i), (2, 206)] rfl rfl rfl rfl ⟨by omega, by rw [zn204]; omega⟩ (zh_keeps hK (n := i.toNat) (r := 206) (k := i.toNat) (j := i) (by omega) hk hJ hT0 (zIpl_now i.toNat (by omega)) (by omega) rfl hb205 hb245 ⟨Nat.le_refl _, Nat.le_refl _⟩) (fun st1 μc1 hp1 => ?_)
      obtain ⟨x1, rfl, hq1⟩ := hp1
      refine pm_blk hK zmm203 [] 1 58 [(2, 205), (0, t), (0, i)] [] (pm_up μc1 206 i x1) [sx_bit Wm 206 = true, 0 ≤ i ∧ i < 160] rfl ⟨hb206, ⟨by omega, by omega⟩, trivial⟩ ?_
      obtain ⟨μ1, eμ1⟩ : ∃ μ', μ' = pm_up μc1 206 i x1 := ⟨_, rfl⟩
      rw [← eμ1]
      have hw1 := hq1
      rw [← eμ1] at hw1
      refine pm_blk hK zmm203 [] 2 35 [(2, 205), (0, t), (0, i + 1)] [] μ1 [pm_in (i + 1)] rfl ⟨pm_in_mk (by omega) (by omega), trivial⟩ ?_
      refine ih _ (by omega) rfl ⟨by omega, by omega⟩ ?_
      rw [show (i + 1).toNat = i.toNat + 1 by omega]
      exact hw1
set_option maxRecDepth 100000 in
theorem zl_im1 (hK : zKK ST) {X : Nat → List pm_V → List pm_V → pm_Mem → Prop} {μ0 : pm_Mem} {t : Int} (hJ : zJ μ0) (hT0 : zTy μ0) (hb205 : sx_bit Wm 205 = true) (hb206 : sx_bit Wm 206 = true) (hb209 : sx_bit Wm 209 = true) (hb210 : sx_bit Wm 210 = true) (hb213 : sx_bit Wm 213 = true) (hb214 : sx_bit Wm 214 = true) (hb215 : sx_bit Wm 215 = true) (hb216 : sx_bit Wm 216 = true) (hb217 : sx_bit Wm 217 = true) (hb218 : sx_bit Wm 218 = true) (hb219 : sx_bit Wm 219 = true) (hb221 : sx_bit Wm 221 = true) (hb222 : sx_bit Wm 222 = true) (hb223 : sx_bit Wm 223 = true) (hb230 : sx_bit Wm 230 = true) (hb232 : sx_bit Wm 232 = true) (hb234 : sx_bit Wm 234 = true) (hb235 : sx_bit Wm 235 = true) (hb237 : sx_bit Wm 237 = true) (hb239 : sx_bit Wm 239 = true) (hb241 : sx_bit Wm 241 = true) (hb244 : sx_bit Wm 244 = true) (hb245 : sx_bit Wm 245 = true) (K : ∀ (i : Int) (μ : pm_Mem), zKp μ0 μ 1263 → zW D Wm ST b0 l Sg zM203 bud X 103 [(2, 205), (0, t), (0, i)] [] μ) (hbd : 1 ≤ bud.1 ∧ 21 ≤ bud.2.1) : ∀ (n : Nat) {i : Int} {μ : pm_Mem}, (750 - i).toNat = n → ∀ (hi : 0 ≤ i ∧ i ≤ 750) (hk : zKp μ0 μ (513 + i.toNat)), zW D Wm ST b0 l Sg zM203 bud X 74 [(2, 205), (0, t), (0, i)] [] μ := by
  intro n
  induction n using Nat.strongRecOn with
  | ind n ih =>
    intro i μ hn hi hk
    have hi0 : ((i.toNat : Nat) : Int) = i := by omega
    refine pm_blk hK zmm203 [] 2 78 [(2, 205), (0, t), (0, i)] [(0, 750), (0, i)] μ [] rfl trivial ?_
    refine pm_icmp hK zmm203 .ge 25 103 rfl rfl (fun h0 => ?_) (fun h0 => ?_)
    · have h0 : (750 : Int) ≤ i := h0
      have hk2 := hk
      rw [show 513 + i.toNat = 1263 by omega] at hk2
      exact K _ _ hk2
    · have h0 : i < (750 : Int) := h0
      refine pm_blk hK zmm203 [] 8 93 [(2, 205), (0, t), (0, i)] [(0, μ 210 i), (2, 205), (0, i), (2, 210)] μ [0 ≤ i ∧ i < 750] rfl ⟨⟨by omega, by omega⟩, trivial⟩ ?_
      refine pm_call hK zmm203 (525, 0, 204, 1) zM204 (0, 0) [(2, 205), (0, μ 210 i)] [(0, i), (2, 210)] rfl rfl rfl rfl ⟨by omega, by rw [zn204]; omega⟩ (zh_keeps hK (n := 513 + i.toNat) (r := 210) (k := i.toNat) (j := i) (by omega) hk hJ hT0 (zIpl_book i.toNat (by omega)) (by omega) rfl hb205 hb245 ⟨Nat.le_refl _, Nat.le_refl _⟩) (fun st1 μc1 hp1 => ?_)
      obtain ⟨x1, rfl, hq1⟩ := hp1
      refine pm_blk hK zmm203 [] 1 97 [(2, 205), (0, t), (0, i)] [] (pm_up μc1 210 i x1) [sx_bit Wm 210 = true, 0 ≤ i ∧ i < 750] rfl ⟨hb210, ⟨by omega, by omega⟩, trivial⟩ ?_
      obtain ⟨μ1, eμ1⟩ : ∃ μ', μ' = pm_up μc1 210 i x1 := ⟨_, rfl⟩
      rw [← eμ1]
      have hw1 := hq1
      rw [← eμ1] at hw1
      refine pm_blk hK zmm203 [] 2 74 [(2, 205), (0, t), (0, i + 1)] [] μ1 [pm_in (i + 1)] rfl ⟨pm_in_mk (by omega) (by omega), trivial⟩ ?_
      refine ih _ (by omega) rfl ⟨by omega, by omega⟩ ?_
      rw [show 513 + (i + 1).toNat = 513 + i.toNat + 1 by omega]
      exact hw1
set_option maxRecDepth 100000 in
theorem zh_image (hK : zKK ST) {t : Int} (ht : 0 ≤ t ∧ t ≤ 1) (hT : zTJ μ) (hb205 : sx_bit Wm 205 = true) (hb206 : sx_bit Wm 206 = true) (hb209 : sx_bit Wm 209 = true) (hb210 : sx_bit Wm 210 = true) (hb213 : sx_bit Wm 213 = true) (hb214 : sx_bit Wm 214 = true) (hb215 : sx_bit Wm 215 = true) (hb216 : sx_bit Wm 216 = true) (hb217 : sx_bit Wm 217 = true) (hb218 : sx_bit Wm 218 = true) (hb219 : sx_bit Wm 219 = true) (hb221 : sx_bit Wm 221 = true) (hb222 : sx_bit Wm 222 = true) (hb223 : sx_bit Wm 223 = true) (hb230 : sx_bit Wm 230 = true) (hb232 : sx_bit Wm 232 = true) (hb234 : sx_bit Wm 234 = true) (hb235 : sx_bit Wm 235 = true) (hb237 : sx_bit Wm 237 = true) (hb239 : sx_bit Wm 239 = true) (hb241 : sx_bit Wm 241 = true) (hb244 : sx_bit Wm 244 = true) (hb245 : sx_bit Wm 245 = true) (hbd : 2 ≤ bud.1 ∧ 42 ≤ bud.2.1) : zC D Wm ST b0 l Sg zM203 bud [(2, 205), (0, t)] μ (fun st' μ' => ∃ x, st' = [(0, x)] ∧ 0 ≤ x ∧ x ≤ 1 ∧ zTJ μ') := by
  refine pm_blk hK zmm203 [] 3 5 [(2, 205), (0, t), (9, 0)] [] (pm_up μ 205 0 0) [sx_bit Wm 205 = true] rfl ⟨hb205, trivial⟩ ?_
  obtain ⟨μ1, eμ1⟩ : ∃ μ', μ' = pm_up μ 205 0 0 := ⟨_, rfl⟩
  rw [← eμ1]
  have hTμ1 : zTJ μ1 := by rw [eμ1]; exact zT_up hT zs205_0 rfl (i := 0) (by omega) (by omega) (by omega) (by omega)
  refine pm_blk hK zmm203 [] 1 6 [(2, 205), (0, t), (9, 0)] [(0, t)] μ1 [] rfl trivial ?_
  refine pm_if hK zmm203 .ne 12 18 rfl rfl (fun h0 => ?_) (fun h0 => ?_)
  · have h0 : t ≠ (0 : Int) := h0
    refine pm_blk hK zmm203 [] 3 23 [(2, 205), (0, t), (9, 0)] [] (pm_up μ1 205 69 t) [sx_bit Wm 205 = true, 0 ≤ t ∧ t ≤ 1] rfl ⟨hb205, ⟨by omega, by omega⟩, trivial⟩ ?_
    obtain ⟨μ2, eμ2⟩ : ∃ μ', μ' = pm_up μ1 205 69 t := ⟨_, rfl⟩
    rw [← eμ2]
    have hTμ2 : zTJ μ2 := by rw [eμ2]; exact zT_up hTμ1 zs205_69 rfl (i := 69) (by omega) (by omega) (by omega) (by omega)
    refine pm_blk hK zmm203 [] 3 28 [(2, 205), (0, t), (9, 0)] [] (pm_up μ2 205 70 1) [sx_bit Wm 205 = true, 0 ≤ 1 ∧ 1 ≤ 1] rfl ⟨hb205, ⟨by omega, by omega⟩, trivial⟩ ?_
    obtain ⟨μ3, eμ3⟩ : ∃ μ', μ' = pm_up μ2 205 70 1 := ⟨_, rfl⟩
    rw [← eμ3]
    have hTμ3 : zTJ μ3 := by rw [eμ3]; exact zT_up hTμ2 zs205_70 rfl (i := 70) (by omega) (by omega) (by omega) (by omega)
    refine pm_blk hK zmm203 [] 3 33 [(2, 205), (0, t), (9, 0)] [] (pm_up μ3 205 71 0) [sx_bit Wm 205 = true] rfl ⟨hb205, trivial⟩ ?_
    obtain ⟨μ4, eμ4⟩ : ∃ μ', μ' = pm_up μ3 205 71 0 := ⟨_, rfl⟩
    rw [← eμ4]
    have hTμ4 : zTJ μ4 := by rw [eμ4]; exact zT_up hTμ3 zs205_71 rfl (i := 71) (by omega) (by omega) (by omega) (by omega)
    refine pm_blk hK zmm203 [] 2 35 [(2, 205), (0, t), (0, 0)] [] μ4 [] rfl trivial ?_
    have hk0 := zKp_0 hTμ4.1 (by rw [eμ4, pm_up_eq])
    have hJ := hTμ4.2
    have hT0 := hTμ4.1
    refine zl_im0 hK hJ hT0 hb205 hb206 hb209 hb210 hb213 hb214 hb215 hb216 hb217 hb218 hb219 hb221 hb222 hb223 hb230 hb232 hb234 hb235 hb237 hb239 hb241 hb244 hb245 (fun i μ hk => ?_) ⟨by omega, by omega⟩ _ (i := 0) rfl ⟨by omega, by omega⟩ hk0
    refine pm_blk hK zmm203 [] 1 65 [(2, 205), (0, t), (0, i)] [(2, 205)] μ [] rfl trivial ?_
    refine pm_call hK zmm203 (531, 0, 205, 0) zM205 (1, 21) [(2, 205)] [] rfl rfl rfl rfl ⟨by omega, by rw [zn205]; omega⟩ (zh_keepsMany hK hJ hT0 hb205 hb206 hb209 hb210 hb213 hb214 hb215 hb216 hb217 hb218 hb219 hb221 hb222 hb223 hb230 hb232 hb234 hb235 hb237 hb239 hb241 hb244 hb245 hk ⟨Nat.le_refl _, Nat.le_refl _⟩) (fun sty1 μcy1 hpy1 => ?_)
    obtain ⟨rfl, hk2⟩ := hpy1
    refine pm_blk hK zmm203 [] 1 69 [(2, 205), (0, t), (0, i)] [(2, 205)] μcy1 [] rfl trivial ?_
    refine pm_call hK zmm203 (534, 0, 206, 0) zM206 (1, 21) [(2, 205)] [] rfl rfl rfl rfl ⟨by omega, by rw [zn206]; omega⟩ (zh_keepsTold hK hJ hT0 hb205 hb206 hb209 hb210 hb213 hb214 hb215 hb216 hb217 hb218 hb219 hb221 hb222 hb223 hb230 hb232 hb234 hb235 hb237 hb239 hb241 hb244 hb245 hk2 ⟨Nat.le_refl _, Nat.le_refl _⟩) (fun sty2 μcy2 hpy2 => ?_)
    obtain ⟨rfl, hk3⟩ := hpy2
    refine pm_blk hK zmm203 [] 2 74 [(2, 205), (0, t), (0, 0)] [] μcy2 [] rfl trivial ?_
    refine zl_im1 hK hJ hT0 hb205 hb206 hb209 hb210 hb213 hb214 hb215 hb216 hb217 hb218 hb219 hb221 hb222 hb223 hb230 hb232 hb234 hb235 hb237 hb239 hb241 hb244 hb245 (fun i μ hk => ?_) ⟨by omega, by omega⟩ _ (i := 0) rfl ⟨by omega, by omega⟩ hk3
    refine pm_blk hK zmm203 [] 1 104 [(2, 205), (0, t), (0, i)] [(2, 205)] μ [] rfl trivial ?_
    refine pm_call hK zmm203 (537, 0, 207, 0) zM207 (1, 21) [(2, 205)] [] rfl rfl rfl rfl ⟨by omega, by rw [zn207]; omega⟩ (zh_keepsLaw hK hJ hT0 hb205 hb206 hb209 hb210 hb213 hb214 hb215 hb216 hb217 hb218 hb219 hb221 hb222 hb223 hb230 hb232 hb234 hb235 hb237 hb239 hb241 hb244 hb245 hk ⟨Nat.le_refl _, Nat.le_refl _⟩) (fun stz1 μcz1 hpz1 => ?_)
    obtain ⟨rfl, hk2⟩ := hpz1
    have hTz := zKp_end hk2 hJ
    refine pm_blk hK zmm203 [] 1 108 [(2, 205), (0, t), (0, i)] [(0, t)] μcz1 [] rfl trivial ?_
    refine pm_if hK zmm203 .ne 8 116 rfl rfl (fun hw0 => ?_) (fun hw0 => ?_)
    · have hw0 : t ≠ (0 : Int) := hw0
      refine pm_blk hK zmm203 [] 1 117 [(2, 205), (0, t), (0, i)] [(0, 1)] μcz1 [] rfl trivial ?_
      exact pm_zret rfl rfl (by first | exact Or.inl rfl | exact Or.inr rfl | omega) ⟨_, rfl, by omega, by omega, hTz⟩
    · have hw0 : t = (0 : Int) := hw0
      refine pm_blk hK zmm203 [] 3 116 [(2, 205), (0, t), (0, i)] [] (pm_up μcz1 205 3 0) [sx_bit Wm 205 = true] rfl ⟨hb205, trivial⟩ ?_
      obtain ⟨μw1, eμw1⟩ : ∃ μ', μ' = pm_up μcz1 205 3 0 := ⟨_, rfl⟩
      rw [← eμw1]
      have hTμw1 : zTJ μw1 := by rw [eμw1]; exact zT_up hTz zs205_3 rfl (i := 3) (by omega) (by omega) (by omega) (by omega)
      refine pm_blk hK zmm203 [] 1 117 [(2, 205), (0, t), (0, i)] [(0, 1)] μw1 [] rfl trivial ?_
      exact pm_zret rfl rfl (by first | exact Or.inl rfl | exact Or.inr rfl | omega) ⟨_, rfl, by omega, by omega, hTμw1⟩
  · have h0 : t = (0 : Int) := h0
    have f1 := zT_get hTμ1 zs205_70 (i := 70) (by omega) (by omega)
    refine pm_blk hK zmm203 [] 2 13 [(2, 205), (0, t), (9, 0)] [(0, μ1 205 70)] μ1 [] rfl trivial ?_
    refine pm_if hK zmm203 .ne 5 18 rfl rfl (fun h1 => ?_) (fun h1 => ?_)
    · have h1 : μ1 205 70 ≠ (0 : Int) := h1
      refine pm_blk hK zmm203 [] 3 23 [(2, 205), (0, t), (9, 0)] [] (pm_up μ1 205 69 t) [sx_bit Wm 205 = true, 0 ≤ t ∧ t ≤ 1] rfl ⟨hb205, ⟨by omega, by omega⟩, trivial⟩ ?_
      obtain ⟨μ5, eμ5⟩ : ∃ μ', μ' = pm_up μ1 205 69 t := ⟨_, rfl⟩
      rw [← eμ5]
      have hTμ5 : zTJ μ5 := by rw [eμ5]; exact zT_up hTμ1 zs205_69 rfl (i := 69) (by omega) (by omega) (by omega) (by omega)
      refine pm_blk hK zmm203 [] 3 28 [(2, 205), (0, t), (9, 0)] [] (pm_up μ5 205 70 1) [sx_bit Wm 205 = true, 0 ≤ 1 ∧ 1 ≤ 1] rfl ⟨hb205, ⟨by omega, by omega⟩, trivial⟩ ?_
      obtain ⟨μ6, eμ6⟩ : ∃ μ', μ' = pm_up μ5 205 70 1 := ⟨_, rfl⟩
      rw [← eμ6]
      have hTμ6 : zTJ μ6 := by rw [eμ6]; exact zT_up hTμ5 zs205_70 rfl (i := 70) (by omega) (by omega) (by omega) (by omega)
      refine pm_blk hK zmm203 [] 3 33 [(2, 205), (0, t), (9, 0)] [] (pm_up μ6 205 71 0) [sx_bit Wm 205 = true] rfl ⟨hb205, trivial⟩ ?_
      obtain ⟨μ7, eμ7⟩ : ∃ μ', μ' = pm_up μ6 205 71 0 := ⟨_, rfl⟩
      rw [← eμ7]
      have hTμ7 : zTJ μ7 := by rw [eμ7]; exact zT_up hTμ6 zs205_71 rfl (i := 71) (by omega) (by omega) (by omega) (by omega)
      refine pm_blk hK zmm203 [] 2 35 [(2, 205), (0, t), (0, 0)] [] μ7 [] rfl trivial ?_
      have hk0 := zKp_0 hTμ7.1 (by rw [eμ7, pm_up_eq])
      have hJ := hTμ7.2
      have hT0 := hTμ7.1
      refine zl_im0 hK hJ hT0 hb205 hb206 hb209 hb210 hb213 hb214 hb215 hb216 hb217 hb218 hb219 hb221 hb222 hb223 hb230 hb232 hb234 hb235 hb237 hb239 hb241 hb244 hb245 (fun i μ hk => ?_) ⟨by omega, by omega⟩ _ (i := 0) rfl ⟨by omega, by omega⟩ hk0
      refine pm_blk hK zmm203 [] 1 65 [(2, 205), (0, t), (0, i)] [(2, 205)] μ [] rfl trivial ?_
      refine pm_call hK zmm203 (531, 0, 205, 0) zM205 (1, 21) [(2, 205)] [] rfl rfl rfl rfl ⟨by omega, by rw [zn205]; omega⟩ (zh_keepsMany hK hJ hT0 hb205 hb206 hb209 hb210 hb213 hb214 hb215 hb216 hb217 hb218 hb219 hb221 hb222 hb223 hb230 hb232 hb234 hb235 hb237 hb239 hb241 hb244 hb245 hk ⟨Nat.le_refl _, Nat.le_refl _⟩) (fun sty1 μcy1 hpy1 => ?_)
      obtain ⟨rfl, hk2⟩ := hpy1
      refine pm_blk hK zmm203 [] 1 69 [(2, 205), (0, t), (0, i)] [(2, 205)] μcy1 [] rfl trivial ?_
      refine pm_call hK zmm203 (534, 0, 206, 0) zM206 (1, 21) [(2, 205)] [] rfl rfl rfl rfl ⟨by omega, by rw [zn206]; omega⟩ (zh_keepsTold hK hJ hT0 hb205 hb206 hb209 hb210 hb213 hb214 hb215 hb216 hb217 hb218 hb219 hb221 hb222 hb223 hb230 hb232 hb234 hb235 hb237 hb239 hb241 hb244 hb245 hk2 ⟨Nat.le_refl _, Nat.le_refl _⟩) (fun sty2 μcy2 hpy2 => ?_)
      obtain ⟨rfl, hk3⟩ := hpy2
      refine pm_blk hK zmm203 [] 2 74 [(2, 205), (0, t), (0, 0)] [] μcy2 [] rfl trivial ?_
      refine zl_im1 hK hJ hT0 hb205 hb206 hb209 hb210 hb213 hb214 hb215 hb216 hb217 hb218 hb219 hb221 hb222 hb223 hb230 hb232 hb234 hb235 hb237 hb239 hb241 hb244 hb245 (fun i μ hk => ?_) ⟨by omega, by omega⟩ _ (i := 0) rfl ⟨by omega, by omega⟩ hk3
      refine pm_blk hK zmm203 [] 1 104 [(2, 205), (0, t), (0, i)] [(2, 205)] μ [] rfl trivial ?_
      refine pm_call hK zmm203 (537, 0, 207, 0) zM207 (1, 21) [(2, 205)] [] rfl rfl rfl rfl ⟨by omega, by rw [zn207]; omega⟩ (zh_keepsLaw hK hJ hT0 hb205 hb206 hb209 hb210 hb213 hb214 hb215 hb216 hb217 hb218 hb219 hb221 hb222 hb223 hb230 hb232 hb234 hb235 hb237 hb239 hb241 hb244 hb245 hk ⟨Nat.le_refl _, Nat.le_refl _⟩) (fun stz1 μcz1 hpz1 => ?_)
      obtain ⟨rfl, hk2⟩ := hpz1
      have hTz := zKp_end hk2 hJ
      refine pm_blk hK zmm203 [] 1 108 [(2, 205), (0, t), (0, i)] [(0, t)] μcz1 [] rfl trivial ?_
      refine pm_if hK zmm203 .ne 8 116 rfl rfl (fun hw0 => ?_) (fun hw0 => ?_)
      · have hw0 : t ≠ (0 : Int) := hw0
        refine pm_blk hK zmm203 [] 1 117 [(2, 205), (0, t), (0, i)] [(0, 1)] μcz1 [] rfl trivial ?_
        exact pm_zret rfl rfl (by first | exact Or.inl rfl | exact Or.inr rfl | omega) ⟨_, rfl, by omega, by omega, hTz⟩
      · have hw0 : t = (0 : Int) := hw0
        refine pm_blk hK zmm203 [] 3 116 [(2, 205), (0, t), (0, i)] [] (pm_up μcz1 205 3 0) [sx_bit Wm 205 = true] rfl ⟨hb205, trivial⟩ ?_
        obtain ⟨μw1, eμw1⟩ : ∃ μ', μ' = pm_up μcz1 205 3 0 := ⟨_, rfl⟩
        rw [← eμw1]
        have hTμw1 : zTJ μw1 := by rw [eμw1]; exact zT_up hTz zs205_3 rfl (i := 3) (by omega) (by omega) (by omega) (by omega)
        refine pm_blk hK zmm203 [] 1 117 [(2, 205), (0, t), (0, i)] [(0, 1)] μw1 [] rfl trivial ?_
        exact pm_zret rfl rfl (by first | exact Or.inl rfl | exact Or.inr rfl | omega) ⟨_, rfl, by omega, by omega, hTμw1⟩
    · have h1 : μ1 205 70 = (0 : Int) := h1
      refine pm_blk hK zmm203 [] 1 17 [(2, 205), (0, t), (9, 0)] [(0, 0)] μ1 [] rfl trivial ?_
      exact pm_zret rfl rfl (by first | exact Or.inl rfl | exact Or.inr rfl | omega) ⟨_, rfl, by omega, by omega, hTμ1⟩
end ZHW
