/-! a text is read and taken; walks printed by program (wip/p30/pmgen.py) and filled by hand -/
variable {φ : Option pm_Mem}
section ZHW
variable {D : va_G} {Wm : Nat} {ST : List (String × String × String × Nat)} {b0 : sx_B} {l : Launch} {Sg : Nat → Option Nat} {bud : sx_Bu} {μ : pm_Mem} {B0 : Nat → Prop} {J : (Nat → Option Nat) → Heap → Prop}
set_option maxRecDepth 100000 in
theorem zh_readsText (hK : zKK ST) {kind : Int} (hw : sx_Wd zNR zRT2 B0 Sg) (hC432 : zCK φ D ST B0 l Sg zC432) (hs432 : sx_subm zC432.2.2.2.2.2 Wm = true) (hC433 : zCK φ D ST B0 l Sg zC433) (hs433 : sx_subm zC433.2.2.2.2.2 Wm = true) (hT : zTJ φ μ) (hki : 0 ≤ kind ∧ kind ≤ 3) (z12 : μ 205 12 = 0) (z25 : μ 205 25 = 0) (z26 : μ 205 26 = 0) (hb205 : sx_bit Wm 205 = true) (hb213 : sx_bit Wm 213 = true) (hb214 : sx_bit Wm 214 = true) (hb215 : sx_bit Wm 215 = true) (hb216 : sx_bit Wm 216 = true) (hb217 : sx_bit Wm 217 = true) (hb218 : sx_bit Wm 218 = true) (hb219 : sx_bit Wm 219 = true) (hb220 : sx_bit Wm 220 = true) (hb221 : sx_bit Wm 221 = true) (hb222 : sx_bit Wm 222 = true) (hb223 : sx_bit Wm 223 = true) (hbd : 9 ≤ bud.1 ∧ 194 ≤ bud.2.1) : zC D Wm ST (sx_bW zRT2 Wm B0 Sg, J) l Sg zM138 bud [(2, 205), (0, kind)] μ (fun st' μ' => ∃ x, st' = [(0, x)] ∧ -1 ≤ x ∧ x ≤ 16 ∧ zTJ φ μ' ∧ (x ≠ -1 → (kind = 0 → zLn μ' x) ∧ (kind = 2 → zDr μ' x))) := by
  refine pm_blk hK zmm138 [] 3 5 [(2, 205), (0, kind)] [] (pm_up μ 205 24 0) [sx_bit Wm 205 = true] rfl ⟨hb205, trivial⟩ ?_
  obtain ⟨μ1, eμ1⟩ : ∃ μ', μ' = pm_up μ 205 24 0 := ⟨_, rfl⟩
  rw [← eμ1]
  have hTμ1 : zTJ φ μ1 := by rw [eμ1]; exact zT_up hT zs205_24 rfl (i := 24) (by omega) (by omega) (by omega) (by omega)
  refine pm_blk hK zmm138 [] 1 6 [(2, 205), (0, kind)] [(2, 205)] μ1 [] rfl trivial ?_
  refine pm_call hK zmm138 (223, 0, 139, 0) zM139 (2, 44) [(2, 205)] [] rfl rfl rfl rfl ⟨by omega, by rw [zn139]; omega⟩ (zh_reads hK hTμ1 hb205 ⟨Nat.le_refl _, Nat.le_refl _⟩) (fun st1 μc1 hp1 => ?_)
  obtain ⟨rfl, hTc1, hF1, hS1, hR1⟩ := hp1
  have hF := hF1
  have hS := hS1
  have hR := hR1
  have hR2 := hR
  obtain ⟨r1, r2, r3, -⟩ := hR2
  have y25 : μc1 205 25 = 0 := by rw [hF.2 25 (by decide) (by decide) (by decide) (by decide), eμ1, pm_up_ne (by decide)]; exact z25
  have ho : μc1 205 26 = 0 := by rw [hF.2 26 (by decide) (by decide) (by decide) (by decide), eμ1, pm_up_ne (by decide)]; exact z26
  have hco : μc1 205 25 ≤ μc1 205 13 := by omega
  refine pm_blk hK zmm138 [] 2 11 [(2, 205), (0, kind)] [(0, 1), (0, kind)] μc1 [] rfl trivial ?_
  refine pm_icmp hK zmm138 .ne 8 19 rfl rfl (fun h0 => ?_) (fun h0 => ?_)
  · have h0 : kind ≠ (1 : Int) := h0
    refine pm_blk hK zmm138 [] 2 21 [(2, 205), (0, kind)] [(0, 2), (0, kind)] μc1 [] rfl trivial ?_
    refine pm_icmp hK zmm138 .ne 8 29 rfl rfl (fun h1 => ?_) (fun h1 => ?_)
    · have h1 : kind ≠ (2 : Int) := h1
      refine pm_blk hK zmm138 [] 2 31 [(2, 205), (0, kind)] [(0, 3), (0, kind)] μc1 [] rfl trivial ?_
      refine pm_icmp hK zmm138 .ne 10 41 rfl rfl (fun h2 => ?_) (fun h2 => ?_)
      · have h2 : kind ≠ (3 : Int) := h2
        refine pm_blk hK zmm138 [] 1 42 [(2, 205), (0, kind)] [(2, 205)] μc1 [] rfl trivial ?_
        refine pm_call hK zmm138 (301, 0, 145, 0) zM145 (8, 172) [(2, 205)] [] rfl rfl rfl rfl ⟨by omega, by rw [zn145]; omega⟩ (zh_readLaw hK hTc1 hR hco ho hb205 hb214 hb215 hb216 hb217 hb218 hb219 hb220 ⟨Nat.le_refl _, Nat.le_refl _⟩) (fun st2 μc2 hp2 => ?_)
        obtain ⟨x2, rfl, hx2, hy2, hTc2, hO2⟩ := hp2
        have hLN := hO2
        first
        | exact pm_iret rfl rfl ⟨_, rfl, by omega, by omega, hTc2, fun hx => ⟨fun h => absurd h (by omega), fun _ => hDR hx⟩⟩
        | exact pm_iret rfl rfl ⟨_, rfl, by omega, by omega, hTc2, fun hx => ⟨fun h => absurd h (by omega), fun h => absurd h (by omega)⟩⟩
        | exact pm_iret rfl rfl ⟨_, rfl, by omega, by omega, hTc2, fun hx => ⟨fun _ => hLN hx, fun h => absurd h (by omega)⟩⟩
      · have h2 : kind = (3 : Int) := h2
        refine pm_blk hK zmm138 [] 1 35 [(2, 205), (0, kind)] [(2, 205)] μc1 [] rfl trivial ?_
        refine pm_ccall hK zmm138 hC433 hw zGm_lt zJ_loc (298, 0, 144, 0) zM144 [(2, 205)] [] rfl rfl rfl rfl rfl ⟨by have e : zC433.2.2.2.1 = 7 := rfl; omega, by have e : zC433.2.2.2.2.1 = 157 := rfl; rw [zn144]; omega⟩ hs433 rfl (fun t ht => by cases ht; rfl) ⟨rfl, fun h => absurd h (by decide), fun _ => rfl, trivial⟩ (zTy_T hw hTc1.1) hTc1.2 (fun st3 μc3 hp3 hTt3 hJ3 hfr3 => ?_)
        obtain ⟨x3, rfl, hx3, hy3⟩ := hp3
        have hTc3 : zTJ φ μc3 := ⟨zTy_of hw hTt3, hJ3⟩
        have hx3 : -1 ≤ x3 := hx3
        have hy3 : x3 ≤ 16 := hy3
        refine pm_blk hK zmm138 [] 1 45 [(2, 205), (0, kind)] [(0, x3)] μc3 [] rfl trivial ?_
        first
        | exact pm_iret rfl rfl ⟨_, rfl, by omega, by omega, hTc3, fun hx => ⟨fun h => absurd h (by omega), fun _ => hDR hx⟩⟩
        | exact pm_iret rfl rfl ⟨_, rfl, by omega, by omega, hTc3, fun hx => ⟨fun h => absurd h (by omega), fun h => absurd h (by omega)⟩⟩
        | exact pm_iret rfl rfl ⟨_, rfl, by omega, by omega, hTc3, fun hx => ⟨fun _ => hLN hx, fun h => absurd h (by omega)⟩⟩
    · have h1 : kind = (2 : Int) := h1
      refine pm_blk hK zmm138 [] 1 25 [(2, 205), (0, kind)] [(2, 205)] μc1 [] rfl trivial ?_
      refine pm_call hK zmm138 (295, 0, 143, 0) zM143 (6, 133) [(2, 205)] [] rfl rfl rfl rfl ⟨by omega, by rw [zn143]; omega⟩ (zh_readCalendar hK hTc1 hb205 hb222 ⟨Nat.le_refl _, Nat.le_refl _⟩) (fun st4 μc4 hp4 => ?_)
      obtain ⟨x4, rfl, hx4, hy4, hTc4, hO4⟩ := hp4
      have hDR := hO4
      first
      | exact pm_iret rfl rfl ⟨_, rfl, by omega, by omega, hTc4, fun hx => ⟨fun h => absurd h (by omega), fun _ => hDR hx⟩⟩
      | exact pm_iret rfl rfl ⟨_, rfl, by omega, by omega, hTc4, fun hx => ⟨fun h => absurd h (by omega), fun h => absurd h (by omega)⟩⟩
      | exact pm_iret rfl rfl ⟨_, rfl, by omega, by omega, hTc4, fun hx => ⟨fun _ => hLN hx, fun h => absurd h (by omega)⟩⟩
  · have h0 : kind = (1 : Int) := h0
    refine pm_blk hK zmm138 [] 1 15 [(2, 205), (0, kind)] [(2, 205)] μc1 [] rfl trivial ?_
    refine pm_ccall hK zmm138 hC432 hw zGm_lt zJ_loc (292, 0, 141, 0) zM141 [(2, 205)] [] rfl rfl rfl rfl rfl ⟨by have e : zC432.2.2.2.1 = 7 := rfl; omega, by have e : zC432.2.2.2.2.1 = 156 := rfl; rw [zn141]; omega⟩ hs432 rfl (fun t ht => by cases ht; rfl) ⟨rfl, fun h => absurd h (by decide), fun _ => rfl, trivial⟩ (zTy_T hw hTc1.1) hTc1.2 (fun st5 μc5 hp5 hTt5 hJ5 hfr5 => ?_)
    obtain ⟨x5, rfl, hx5, hy5⟩ := hp5
    have hTc5 : zTJ φ μc5 := ⟨zTy_of hw hTt5, hJ5⟩
    have hx5 : -1 ≤ x5 := hx5
    have hy5 : x5 ≤ 16 := hy5
    first
    | exact pm_iret rfl rfl ⟨_, rfl, by omega, by omega, hTc5, fun hx => ⟨fun h => absurd h (by omega), fun _ => hDR hx⟩⟩
    | exact pm_iret rfl rfl ⟨_, rfl, by omega, by omega, hTc5, fun hx => ⟨fun h => absurd h (by omega), fun h => absurd h (by omega)⟩⟩
    | exact pm_iret rfl rfl ⟨_, rfl, by omega, by omega, hTc5, fun hx => ⟨fun _ => hLN hx, fun h => absurd h (by omega)⟩⟩
end ZHW
