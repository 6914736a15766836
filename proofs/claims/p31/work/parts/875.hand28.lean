/-! a text is read and taken; walks printed by program (wip/p30/pmgen.py) and filled by hand -/
section ZHW
variable {D : va_G} {Wm : Nat} {ST : List (String × String × String × Nat)} {b0 : sx_B} {l : Launch} {Sg : Nat → Option Nat} {bud : sx_Bu} {μ : pm_Mem} {B0 : Nat → Prop} {J : (Nat → Option Nat) → Heap → Prop}
set_option maxRecDepth 100000 in
theorem zh_readsText (hK : zKK ST) {kind : Int} (hw : sx_Wd zNR zRT2 B0 Sg) (hC432 : zCK D ST B0 l Sg zC432) (hs432 : sx_subm zC432.2.2.2.2.2 Wm = true) (hC433 : zCK D ST B0 l Sg zC433) (hs433 : sx_subm zC433.2.2.2.2.2 Wm = true) (hT : zTJ μ) (hki : 0 ≤ kind ∧ kind ≤ 3) (z12 : μ 205 12 = 0) (z25 : μ 205 25 = 0) (z26 : μ 205 26 = 0) (hb205 : sx_bit Wm 205 = true) (hb213 : sx_bit Wm 213 = true) (hb214 : sx_bit Wm 214 = true) (hb215 : sx_bit Wm 215 = true) (hb216 : sx_bit Wm 216 = true) (hb217 : sx_bit Wm 217 = true) (hb218 : sx_bit Wm 218 = true) (hb219 : sx_bit Wm 219 = true) (hb220 : sx_bit Wm 220 = true) (hb221 : sx_bit Wm 221 = true) (hb222 : sx_bit Wm 222 = true) (hb223 : sx_bit Wm 223 = true) (hbd : 9 ≤ bud.1 ∧ 194 ≤ bud.2.1) : zC D Wm ST (sx_bW zRT2 Wm B0 Sg, J) l Sg zM138 bud [(2, 205), (0, kind)] μ (fun st' μ' => ∃ x, st' = [(0, x)] ∧ -1 ≤ x ∧ x ≤ 16 ∧ zTJ μ' ∧ (x ≠ -1 → (kind = 0 → zLn μ' x) ∧ (kind = 2 → zDr μ' x))) := by
  refine pm_blk hK zmm138 [] 3 5 [(2, 205), (0, kind)] [] (pm_up μ 205 24 0) [sx_bit Wm 205 = true] rfl ⟨hb205, trivial⟩ ?_
  obtain ⟨μ1, eμ1⟩ : ∃ μ', μ' = pm_up μ 205 24 0 := ⟨_, rfl⟩
  rw [← eμ1]
  have hTμ1 : zTJ μ1 := by rw [eμ1]; exact zT_up hT zs205_24 rfl (i := 24) (by omega) (by omega) (by omega) (by omega)
  refine pm_blk hK zmm138 [] 1 6 [(2, 205), (0, kind)] [(2, 205)] μ1 [] rfl trivial ?_
  refine pm_call hK zmm138 (223, 0, 139, 0) zM139 (2, 44) [(2, 205)] [] rfl rfl rfl rfl ⟨by omega, by rw [zn139]; omega⟩ (zh_reads hK hTμ1 hb205 ⟨Nat.le_refl _, Nat.le_refl _⟩) (fun st1 μc1 hp1 => ?_)
  obtain ⟨rfl, hTc1, hF1, hS1, hR1⟩ := hp1
  have hF := hF1
  have hS := hS1
  have hR := hR1
  have hR2 := hR
  obtain ⟨r1, r2, r3, -⟩ := hR2
  have y25 : μc1 205 25 = 0 := by rw [hF.2 25 (by decide) (by decide) (by decide) (by decide), eμ1, pm_up_ne (by decide)]; exact z25
  have ho : μc1 205 26 = 0 := by rw [hF.2 26 (by decide) (by decide) (by decide) (by decide), eμ1, pm_up_ne (by decide)]; exact z26
  have hco : μc1 205 25 ≤ μc1 205 13 := by omega
  refine pm_blk hK zmm138 [] 2 11 [(2, 205), (0, kind)] [(0, 1), (0, kind)] μc1 [] rfl trivial ?_
  refine pm_icmp hK zmm138 .ne 8 19 rfl rfl (fun h0 => ?_) (fun h0 => ?_)
  · have h0 : kind ≠ (1 : Int) := h0
    refine pm_blk hK zmm138 [] 2 21 [(2, 205), (0, kind)] [(0, 2), (0, kind)] μc1 [] rfl trivial ?_
    refine pm_icmp hK zmm138 .ne 8 29 rfl rfl (fun h1 => ?_) (fun h1 => ?_)
    · have h1 : kind ≠ (2 : Int) := h1
      refine pm_blk hK zmm138 [] 2 31 [(2, 205), (0, kind)] [(0, 3), (0, kind)] μc1 [] rfl trivial ?_
      refine pm_icmp hK zmm138 .ne 10 41 rfl rfl (fun h2 => ?_) (fun h2 => ?_)
      · have h2 : kind ≠ (3 : Int) := h2
        refine pm_blk hK zmm138 [] 1 42 [(2, 205), (0, kind)] [(2, 205)] μc1 [] rfl trivial ?_
        refine pm_call hK zmm138 (301, 0, 145, 0) zM145 (8, 172) [(2, 205)] [] rfl rfl rfl rfl ⟨by omega, by rw [zn145]; omega⟩ (zh_readLaw hK hTc1 hR hco ho hb205 hb214 hb215 hb216 hb217 hb218 hb219 hb220 ⟨Nat.le_refl _, Nat.le_refl _⟩) (fun st2 μc2 hp2 => ?_)
        obtain ⟨x2, rfl, hx2, hy2, hTc2, hO2⟩ := hp2
        have hLN := hO2
        first
        | exact pm_iret rfl rfl ⟨_, rfl, by omega, by omega, hTc2, fun hx => ⟨fun h => absurd h (by omega), fun _ => hDR hx⟩⟩
        | exact pm_iret rfl rfl ⟨_, rfl, by omega, by omega, hTc2, fun hx => ⟨fun h => absurd h (by omega), fun h => absurd h (by omega)⟩⟩
        | exact pm_iret rfl rfl ⟨_, rfl, by omega, by omega, hTc2, fun hx => ⟨fun _ => hLN hx, fun h => absurd h (by omega)⟩⟩
      · have h2 : kind = (3 : Int) := h2
        refine pm_blk hK zmm138 [] 1 35 [(2, 205), (0, kind)] [(2, 205)] μc1 [] rfl trivial ?_
        refine pm_ccall hK zmm138 hC433 hw zGm_lt zJ_loc (298, 0, 144, 0) zM144 [(2, 205)] [] rfl rfl rfl rfl rfl ⟨by have e : zC433.2.2.2.1 = 7 := rfl; omega, by have e : zC433.2.2.2.2.1 = 157 := rfl; rw [zn144]; omega⟩ hs433 rfl (fun t ht => by cases ht; rfl) ⟨rfl, fun h => absurd h (by decide), fun _ => rfl, trivial⟩ (zTy_T hw hTc1.1) hTc1.2 (fun st3 μc3 hp3 hTt3 hJ3 hfr3 => ?_)
        obtain ⟨x3, rfl, hx3, hy3⟩ := hp3
        have hTc3 : zTJ μc3 := ⟨zTy_of hw hTt3, hJ3⟩
        have hx3 : -1 ≤ x3 := hx3
        have hy3 : x3 ≤ 16 := hy3
        refine pm_blk hK zmm138 [] 1 45 [(2, 205), (0, kind)] [(0, x3)] μc3 [] rfl trivial ?_
        first
        | exact pm_iret rfl rfl ⟨_, rfl, by omega, by omega, hTc3, fun hx => ⟨fun h => absurd h (by omega), fun _ => hDR hx⟩⟩
        | exact pm_iret rfl rfl ⟨_, rfl, by omega, by omega, hTc3, fun hx => ⟨fun h => absurd h (by omega), fun h => absurd h (by omega)⟩⟩
        | exact pm_iret rfl rfl ⟨_, rfl, by omega, by omega, hTc3, fun hx => ⟨fun _ => hLN hx, fun h => absurd h (by omega)⟩⟩
    · have h1 : kind = (2 : Int) := h1
      refine pm_blk hK zmm138 [] 1 25 [(2, 205), (0, kind)] [(2, 205)] μc1 [] rfl trivial ?_
      refine pm_call hK zmm138 (295, 0, 143, 0) zM143 (6, 133) [(2, 205)] [] rfl rfl rfl rfl ⟨by omega, by rw [zn143]; omega⟩ (zh_readCalendar hK hTc1 hb205 hb222 ⟨Nat.le_refl _, Nat.le_refl _⟩) (fun st4 μc4 hp4 => ?_)
      obtain ⟨x4, rfl, hx4, hy4, hTc4, hO4⟩ := hp4
      have hDR := hO4
      first
      | exact pm_iret rfl rfl ⟨_, rfl, by omega, by omega, hTc4, fun hx => ⟨fun h => absurd h (by omega), fun _ => hDR hx⟩⟩
      | exact pm_iret rfl rfl ⟨_, rfl, by omega, by omega, hTc4, fun hx => ⟨fun h => absurd h (by omega), fun h => absurd h (by omega)⟩⟩
      | exact pm_iret rfl rfl ⟨_, rfl, by omega, by omega, hTc4, fun hx => ⟨fun _ => hLN hx, fun h => absurd h (by omega)⟩⟩
  · have h0 : kind = (1 : Int) := h0
    refine pm_blk hK zmm138 [] 1 15 [(2, 205), (0, kind)] [(2, 205)] μc1 [] rfl trivial ?_
    refine pm_ccall hK zmm138 hC432 hw zGm_lt zJ_loc (292, 0, 141, 0) zM141 [(2, 205)] [] rfl rfl rfl rfl rfl ⟨by have e : zC432.2.2.2.1 = 7 := rfl; omega, by have e : zC432.2.2.2.2.1 = 156 := rfl; rw [zn141]; omega⟩ hs432 rfl (fun t ht => by cases ht; rfl) ⟨rfl, fun h => absurd h (by decide), fun _ => rfl, trivial⟩ (zTy_T hw hTc1.1) hTc1.2 (fun st5 μc5 hp5 hTt5 hJ5 hfr5 => ?_)
    obtain ⟨x5, rfl, hx5, hy5⟩ := hp5
    have hTc5 : zTJ μc5 := ⟨zTy_of hw hTt5, hJ5⟩
    have hx5 : -1 ≤ x5 := hx5
    have hy5 : x5 ≤ 16 := hy5
    first
    | exact pm_iret rfl rfl ⟨_, rfl, by omega, by omega, hTc5, fun hx => ⟨fun h => absurd h (by omega), fun _ => hDR hx⟩⟩
    | exact pm_iret rfl rfl ⟨_, rfl, by omega, by omega, hTc5, fun hx => ⟨fun h => absurd h (by omega), fun h => absurd h (by omega)⟩⟩
    | exact pm_iret rfl rfl ⟨_, rfl, by omega, by omega, hTc5, fun hx => ⟨fun _ => hLN hx, fun h => absurd h (by omega)⟩⟩
set_option maxRecDepth 100000 in
theorem zh_text (hK : zKK ST) {kind : Int} (hw : sx_Wd zNR zRT2 B0 Sg) (hC432 : zCK D ST B0 l Sg zC432) (hs432 : sx_subm zC432.2.2.2.2.2 Wm = true) (hC433 : zCK D ST B0 l Sg zC433) (hs433 : sx_subm zC433.2.2.2.2.2 Wm = true) (hT : zTJ μ) (hb205 : sx_bit Wm 205 = true) (hb213 : sx_bit Wm 213 = true) (hb214 : sx_bit Wm 214 = true) (hb215 : sx_bit Wm 215 = true) (hb216 : sx_bit Wm 216 = true) (hb217 : sx_bit Wm 217 = true) (hb218 : sx_bit Wm 218 = true) (hb219 : sx_bit Wm 219 = true) (hb220 : sx_bit Wm 220 = true) (hb221 : sx_bit Wm 221 = true) (hb222 : sx_bit Wm 222 = true) (hb223 : sx_bit Wm 223 = true) (hbd : 10 ≤ bud.1 ∧ 215 ≤ bud.2.1) : zC D Wm ST (sx_bW zRT2 Wm B0 Sg, J) l Sg zM137 bud [(2, 205), (0, kind)] μ (fun st' μ' => ∃ x, st' = [(0, x)] ∧ -1 ≤ x ∧ x ≤ 16 ∧ zTJ μ') := by
  refine pm_blk hK zmm137 [] 3 5 [(2, 205), (0, kind), (9, 0)] [] (pm_up μ 205 0 0) [sx_bit Wm 205 = true] rfl ⟨hb205, trivial⟩ ?_
  obtain ⟨μ1, eμ1⟩ : ∃ μ', μ' = pm_up μ 205 0 0 := ⟨_, rfl⟩
  rw [← eμ1]
  have hTμ1 : zTJ μ1 := by rw [eμ1]; exact zT_up hT zs205_0 rfl (i := 0) (by omega) (by omega) (by omega) (by omega)
  refine pm_blk hK zmm137 [] 3 10 [(2, 205), (0, kind), (9, 0)] [] (pm_up μ1 205 31 0) [sx_bit Wm 205 = true] rfl ⟨hb205, trivial⟩ ?_
  obtain ⟨μ2, eμ2⟩ : ∃ μ', μ' = pm_up μ1 205 31 0 := ⟨_, rfl⟩
  rw [← eμ2]
  have hTμ2 : zTJ μ2 := by rw [eμ2]; exact zT_up hTμ1 zs205_31 rfl (i := 31) (by omega) (by omega) (by omega) (by omega)
  refine pm_blk hK zmm137 [] 3 15 [(2, 205), (0, kind), (9, 0)] [] (pm_up μ2 205 32 ((-1))) [sx_bit Wm 205 = true] rfl ⟨hb205, trivial⟩ ?_
  obtain ⟨μ3, eμ3⟩ : ∃ μ', μ' = pm_up μ2 205 32 ((-1)) := ⟨_, rfl⟩
  rw [← eμ3]
  have hTμ3 : zTJ μ3 := by rw [eμ3]; exact zT_up hTμ2 zs205_32 rfl (i := 32) (by omega) (by omega) (by omega) (by omega)
  refine pm_blk hK zmm137 [] 3 20 [(2, 205), (0, kind), (9, 0)] [] (pm_up μ3 205 12 0) [sx_bit Wm 205 = true] rfl ⟨hb205, trivial⟩ ?_
  obtain ⟨μ4, eμ4⟩ : ∃ μ', μ' = pm_up μ3 205 12 0 := ⟨_, rfl⟩
  rw [← eμ4]
  have hTμ4 : zTJ μ4 := by rw [eμ4]; exact zT_up hTμ3 zs205_12 rfl (i := 12) (by omega) (by omega) (by omega) (by omega)
  refine pm_blk hK zmm137 [] 3 25 [(2, 205), (0, kind), (9, 0)] [] (pm_up μ4 205 25 0) [sx_bit Wm 205 = true] rfl ⟨hb205, trivial⟩ ?_
  obtain ⟨μ5, eμ5⟩ : ∃ μ', μ' = pm_up μ4 205 25 0 := ⟨_, rfl⟩
  rw [← eμ5]
  have hTμ5 : zTJ μ5 := by rw [eμ5]; exact zT_up hTμ4 zs205_25 rfl (i := 25) (by omega) (by omega) (by omega) (by omega)
  refine pm_blk hK zmm137 [] 3 30 [(2, 205), (0, kind), (9, 0)] [] (pm_up μ5 205 26 0) [sx_bit Wm 205 = true] rfl ⟨hb205, trivial⟩ ?_
  obtain ⟨μ6, eμ6⟩ : ∃ μ', μ' = pm_up μ5 205 26 0 := ⟨_, rfl⟩
  rw [← eμ6]
  have hTμ6 : zTJ μ6 := by rw [eμ6]; exact zT_up hTμ5 zs205_26 rfl (i := 26) (by omega) (by omega) (by omega) (by omega)
  have z12 : μ6 205 12 = 0 := by rw [eμ6, pm_up_ne (by decide), eμ5, pm_up_ne (by decide), eμ4, pm_up_eq]
  have z25 : μ6 205 25 = 0 := by rw [eμ6, pm_up_ne (by decide), eμ5, pm_up_eq]
  have z26 : μ6 205 26 = 0 := by rw [eμ6, pm_up_eq]
  refine pm_blk hK zmm137 [] 6 36 [(2, 205), (0, kind), (0, (-1))] [(0, 3), (0, 0), (0, kind), (2, 205)] μ6 [] rfl trivial ?_
  refine pm_call hK zmm137 (158, 0, 129, 3) zM129 (0, 0) [(2, 205), (0, kind), (0, 0), (0, 3)] [] rfl rfl rfl rfl ⟨by omega, by rw [zn129]; omega⟩ (zh_isIn hK ⟨by omega, by omega⟩) (fun st1 μc1 hp1 => ?_)
  obtain ⟨rfl, rfl⟩ := hp1
  refine pm_if hK zmm137 .eq 30 69 rfl rfl (fun h0 => ?_) (fun h0 => ?_)
  · have h0 : (if 0 ≤ kind ∧ kind ≤ 3 then 1 else 0 : Int) = (0 : Int) := h0
    have h0 := zif0 h0
    refine pm_blk hK zmm137 [] 3 74 [(2, 205), (0, kind), (0, (-1))] [] (pm_up μ6 205 11 0) [sx_bit Wm 205 = true] rfl ⟨hb205, trivial⟩ ?_
    obtain ⟨μ7, eμ7⟩ : ∃ μ', μ' = pm_up μ6 205 11 0 := ⟨_, rfl⟩
    rw [← eμ7]
    have hTμ7 : zTJ μ7 := by rw [eμ7]; exact zT_up hTμ6 zs205_11 rfl (i := 11) (by omega) (by omega) (by omega) (by omega)
    refine pm_blk hK zmm137 [] 2 76 [(2, 205), (0, kind), (0, (-1))] [(0, (-1)), (0, (-1))] μ7 [] rfl trivial ?_
    refine pm_icmp hK zmm137 .ne 5 81 rfl rfl (fun h1 => ?_) (fun h1 => ?_)
    · have h1 : ((-1) : Int) ≠ ((-1) : Int) := h1
      exact absurd h1 (by decide)
    · have h1 : ((-1) : Int) = ((-1) : Int) := h1
      refine pm_blk hK zmm137 [] 1 80 [(2, 205), (0, kind), (0, (-1))] [(0, (-1))] μ7 [] rfl trivial ?_
      exact pm_iret rfl rfl ⟨_, rfl, by omega, by omega, hTμ7⟩
  · have h0 : (if 0 ≤ kind ∧ kind ≤ 3 then 1 else 0 : Int) ≠ (0 : Int) := h0
    have h0 := zif1 h0
    refine pm_blk hK zmm137 [] 2 44 [(2, 205), (0, kind), (0, (-1))] [(0, kind), (2, 205)] μ6 [] rfl trivial ?_
    refine pm_call hK zmm137 (316, 0, 138, 1) zM138 (9, 194) [(2, 205), (0, kind)] [] rfl rfl rfl rfl ⟨by omega, by rw [zn138]; omega⟩ (zh_readsText hK (kind := kind) hw hC432 hs432 hC433 hs433 hTμ6 ⟨by omega, by omega⟩ z12 z25 z26 hb205 hb213 hb214 hb215 hb216 hb217 hb218 hb219 hb220 hb221 hb222 hb223 ⟨Nat.le_refl _, Nat.le_refl _⟩) (fun st2 μc2 hp2 => ?_)
    obtain ⟨x2, rfl, hx2, hy2, hTc2, hO2⟩ := hp2
    have hRT := hO2
    refine pm_blk hK zmm137 [] 3 50 [(2, 205), (0, kind), (0, x2)] [(0, (-1)), (0, x2)] μc2 [] rfl trivial ?_
    refine pm_icmp hK zmm137 .ne 19 69 rfl rfl (fun h2 => ?_) (fun h2 => ?_)
    · have h2 : x2 ≠ ((-1) : Int) := h2
      refine pm_blk hK zmm137 [] 3 74 [(2, 205), (0, kind), (0, x2)] [] (pm_up μc2 205 11 0) [sx_bit Wm 205 = true] rfl ⟨hb205, trivial⟩ ?_
      obtain ⟨μ8, eμ8⟩ : ∃ μ', μ' = pm_up μc2 205 11 0 := ⟨_, rfl⟩
      rw [← eμ8]
      have hTμ8 : zTJ μ8 := by rw [eμ8]; exact zT_up hTc2 zs205_11 rfl (i := 11) (by omega) (by omega) (by omega) (by omega)
      refine pm_blk hK zmm137 [] 2 76 [(2, 205), (0, kind), (0, x2)] [(0, (-1)), (0, x2)] μ8 [] rfl trivial ?_
      refine pm_icmp hK zmm137 .ne 5 81 rfl rfl (fun h3 => ?_) (fun h3 => ?_)
      · have h3 : x2 ≠ ((-1) : Int) := h3
        refine pm_blk hK zmm137 [] 1 82 [(2, 205), (0, kind), (0, x2)] [(0, kind)] μ8 [] rfl trivial ?_
        refine pm_if hK zmm137 .ne 11 93 rfl rfl (fun h4 => ?_) (fun h4 => ?_)
        · have h4 : kind ≠ (0 : Int) := h4
          refine pm_blk hK zmm137 [] 3 96 [(2, 205), (0, kind), (0, x2)] [(0, x2), (0, kind), (2, 205)] μ8 [] rfl trivial ?_
          have hD2 : kind = 2 → zDr μ8 x2 := fun h2 => zDr_same ((hRT (by omega)).2 h2) (by rw [eμ8, pm_up_row (by decide)])
          refine pm_call hK zmm137 (322, 0, 148, 2) zM148 (0, 0) [(2, 205), (0, kind), (0, x2)] [] rfl rfl rfl rfl ⟨by omega, by rw [zn148]; omega⟩ (zh_takesOther hK (kind := kind) (nn := x2) hTμ8 ⟨by omega, by omega⟩ ⟨by omega, by omega⟩ hD2 hb205 hb221 hb222 hb223 ⟨Nat.le_refl _, Nat.le_refl _⟩) (fun st3 μc3 hp3 => ?_)
          obtain ⟨rfl, hTc3⟩ := hp3
          refine pm_blk hK zmm137 [] 1 100 [(2, 205), (0, kind), (0, x2)] [(0, x2)] μc3 [] rfl trivial ?_
          exact pm_iret rfl rfl ⟨_, rfl, by omega, by omega, hTc3⟩
        · have h4 : kind = (0 : Int) := h4
          refine pm_blk hK zmm137 [] 2 87 [(2, 205), (0, kind), (0, x2)] [(0, x2), (2, 205)] μ8 [] rfl trivial ?_
          have hL2 := zLn_same (μ' := μ8) (fun r hr => by rw [eμ8, pm_up_row hr]) (by rw [eμ8, pm_up_ne (by decide)]) ((hRT (by omega)).1 (by omega))
          refine pm_call hK zmm137 (319, 0, 147, 1) zM147 (0, 0) [(2, 205), (0, x2)] [] rfl rfl rfl rfl ⟨by omega, by rw [zn147]; omega⟩ (zh_takesLaw hK (nn := x2) hTμ8 ⟨by omega, by omega⟩ hL2 hb213 hb214 hb215 hb216 hb217 hb218 hb219 ⟨Nat.le_refl _, Nat.le_refl _⟩) (fun st4 μc4 hp4 => ?_)
          obtain ⟨rfl, hTc4⟩ := hp4
          refine pm_blk hK zmm137 [] 2 100 [(2, 205), (0, kind), (0, x2)] [(0, x2)] μc4 [] rfl trivial ?_
          exact pm_iret rfl rfl ⟨_, rfl, by omega, by omega, hTc4⟩
      · have h3 : x2 = ((-1) : Int) := h3
        exact absurd h3 h2
    · have h2 : x2 = ((-1) : Int) := h2
      have f1 := zT_get hTc2 zs205_29 (i := 29) (by omega) (by omega)
      refine pm_blk hK zmm137 [] 4 61 [(2, 205), (0, kind), (0, x2)] [] (pm_up μc2 205 31 (μc2 205 29)) [sx_bit Wm 205 = true] rfl ⟨hb205, trivial⟩ ?_
      obtain ⟨μ9, eμ9⟩ : ∃ μ', μ' = pm_up μc2 205 31 (μc2 205 29) := ⟨_, rfl⟩
      rw [← eμ9]
      have hTμ9 : zTJ μ9 := by rw [eμ9]; exact zT_up hTc2 zs205_31 rfl (i := 31) (by omega) (by omega) (by omega) (by omega)
      have f2 := zT_get hTμ9 zs205_30 (i := 30) (by omega) (by omega)
      refine pm_blk hK zmm137 [] 4 69 [(2, 205), (0, kind), (0, x2)] [] (pm_up μ9 205 32 (μ9 205 30)) [sx_bit Wm 205 = true] rfl ⟨hb205, trivial⟩ ?_
      obtain ⟨μ10, eμ10⟩ : ∃ μ', μ' = pm_up μ9 205 32 (μ9 205 30) := ⟨_, rfl⟩
      rw [← eμ10]
      have hTμ10 : zTJ μ10 := by rw [eμ10]; exact zT_up hTμ9 zs205_32 rfl (i := 32) (by omega) (by omega) (by omega) (by omega)
      refine pm_blk hK zmm137 [] 3 74 [(2, 205), (0, kind), (0, x2)] [] (pm_up μ10 205 11 0) [sx_bit Wm 205 = true] rfl ⟨hb205, trivial⟩ ?_
      obtain ⟨μ11, eμ11⟩ : ∃ μ', μ' = pm_up μ10 205 11 0 := ⟨_, rfl⟩
      rw [← eμ11]
      have hTμ11 : zTJ μ11 := by rw [eμ11]; exact zT_up hTμ10 zs205_11 rfl (i := 11) (by omega) (by omega) (by omega) (by omega)
      refine pm_blk hK zmm137 [] 2 76 [(2, 205), (0, kind), (0, x2)] [(0, (-1)), (0, x2)] μ11 [] rfl trivial ?_
      refine pm_icmp hK zmm137 .ne 5 81 rfl rfl (fun h5 => ?_) (fun h5 => ?_)
      · have h5 : x2 ≠ ((-1) : Int) := h5
        exact absurd h2 h5
      · have h5 : x2 = ((-1) : Int) := h5
        refine pm_blk hK zmm137 [] 1 80 [(2, 205), (0, kind), (0, x2)] [(0, (-1))] μ11 [] rfl trivial ?_
        exact pm_iret rfl rfl ⟨_, rfl, by omega, by omega, hTμ11⟩
end ZHW
