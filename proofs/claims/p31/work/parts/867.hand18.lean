/-! a unit of the law; walks printed by program (wip/p30/pmgen.py) and filled by hand -/
section ZHW
variable {D : va_G} {Wm : Nat} {ST : List (String × String × String × Nat)} {b0 : sx_B} {l : Launch} {Sg : Nat → Option Nat} {bud : sx_Bu} {μ : pm_Mem} {B0 : Nat → Prop} {J : (Nat → Option Nat) → Heap → Prop}
set_option maxRecDepth 100000 in
theorem zh_emits (hK : zKK ST) {o v : Int} (hT : zTJ μ) (hc : 0 ≤ μ 205 25 ∧ μ 205 25 < 400) (ho : 0 ≤ o ∧ o ≤ 12) (hv : -1 ≤ v ∧ v ≤ 99999) (hb205 : sx_bit Wm 205 = true) (hb218 : sx_bit Wm 218 = true) (hb219 : sx_bit Wm 219 = true) (hbd : 0 ≤ bud.1 ∧ 0 ≤ bud.2.1) : zC D Wm ST b0 l Sg zM292 bud [(2, 205), (0, o), (0, v)] μ (fun st' μ' => st' = [] ∧ zTJ μ' ∧ zE1 μ μ' o v) := by
  have f1 := zT_get hT zs205_25 (i := 25) (by omega) (by omega)
  refine pm_blk hK zmm292 [] 8 14 [(2, 205), (0, o), (0, v)] [] (pm_up μ 218 (800 + (μ 205 25)) o) [pm_in (800 + (μ 205 25)), sx_bit Wm 218 = true, 0 ≤ 800 + (μ 205 25) ∧ 800 + (μ 205 25) < 1200] rfl ⟨pm_in_mk (by omega) (by omega), hb218, ⟨by omega, by omega⟩, trivial⟩ ?_
  obtain ⟨μ1, eμ1⟩ : ∃ μ', μ' = pm_up μ 218 (800 + (μ 205 25)) o := ⟨_, rfl⟩
  rw [← eμ1]
  have hTμ1 : zTJ μ1 := by rw [eμ1]; exact zT_op hT ⟨by omega, by omega⟩ ⟨by omega, by omega⟩
  have a25 : μ1 205 25 = μ 205 25 := by rw [eμ1, pm_up_off (by decide)]
  have g2 : μ1 205 25 = μ 205 25 := by rw [eμ1, pm_up_off (by decide)]
  have f3 := zT_get hTμ1 zs205_25 (i := 25) (by omega) (by omega)
  refine pm_blk hK zmm292 [] 8 28 [(2, 205), (0, o), (0, v)] [] (pm_up μ1 219 (800 + (μ1 205 25)) v) [pm_in (800 + (μ1 205 25)), sx_bit Wm 219 = true, 0 ≤ 800 + (μ1 205 25) ∧ 800 + (μ1 205 25) < 1200] rfl ⟨pm_in_mk (by omega) (by omega), hb219, ⟨by omega, by omega⟩, trivial⟩ ?_
  obtain ⟨μ2, eμ2⟩ : ∃ μ', μ' = pm_up μ1 219 (800 + (μ1 205 25)) v := ⟨_, rfl⟩
  rw [← eμ2]
  have hTμ2 : zTJ μ2 := by rw [eμ2]; exact zT_arg hTμ1 ⟨by omega, by omega⟩ ⟨by omega, by omega⟩
  have b25 : μ2 205 25 = μ 205 25 := by rw [eμ2, pm_up_off (by decide)]; exact a25
  have g4 : μ2 205 25 = μ 205 25 := by rw [eμ2, pm_up_off (by decide), eμ1, pm_up_off (by decide)]
  have f5 := zT_get hTμ2 zs205_25 (i := 25) (by omega) (by omega)
  refine pm_blk hK zmm292 [] 6 38 [(2, 205), (0, o), (0, v)] [] (pm_up μ2 205 25 ((μ2 205 25) + 1)) [pm_in ((μ2 205 25) + 1), sx_bit Wm 205 = true] rfl ⟨pm_in_mk (by omega) (by omega), hb205, trivial⟩ ?_
  obtain ⟨μ3, eμ3⟩ : ∃ μ', μ' = pm_up μ2 205 25 ((μ2 205 25) + 1) := ⟨_, rfl⟩
  rw [← eμ3]
  have hTμ3 : zTJ μ3 := by rw [eμ3]; exact zT_up hTμ2 zs205_25 rfl (i := 25) (by omega) (by omega) (by omega) (by omega)
  refine pm_vret rfl rfl ⟨rfl, hTμ3, ?_, ?_, ?_, ?_, ?_, ?_, ?_⟩
  · rw [eμ3, pm_up_eq, b25]
  · rw [eμ3, pm_up_off (by decide), eμ2, pm_up_off (by decide), eμ1, pm_up_eq]
  · rw [eμ3, pm_up_off (by decide), eμ2, a25, pm_up_eq]
  · intro i hi; rw [eμ3, pm_up_off (by decide), eμ2, pm_up_off (by decide), eμ1, pm_up_ne hi]
  · intro i hi; rw [eμ3, pm_up_off (by decide), eμ2, a25, pm_up_ne hi, eμ1, pm_up_off (by decide)]
  · intro r h1 h2 h3; rw [eμ3, pm_up_row h1, eμ2, pm_up_row h3, eμ1, pm_up_row h2]
  · intro k hk; rw [eμ3, pm_up_ne hk, eμ2, pm_up_off (by decide), eμ1, pm_up_off (by decide)]
set_option maxRecDepth 100000 in
theorem zh_errs (hK : zKK ST) {k : Int} (hT : zTJ μ) (hk : 0 ≤ k ∧ k ≤ 3) (hb205 : sx_bit Wm 205 = true) (hbd : 0 ≤ bud.1 ∧ 0 ≤ bud.2.1) : zC D Wm ST b0 l Sg zM278 bud [(2, 205), (0, k)] μ (fun st' μ' => st' = [(0, -1)] ∧ zTJ μ') := by
  refine pm_blk hK zmm278 [] 3 5 [(2, 205), (0, k)] [] (pm_up μ 205 29 k) [sx_bit Wm 205 = true] rfl ⟨hb205, trivial⟩ ?_
  obtain ⟨μ1, eμ1⟩ : ∃ μ', μ' = pm_up μ 205 29 k := ⟨_, rfl⟩
  rw [← eμ1]
  have hTμ1 : zTJ μ1 := by rw [eμ1]; exact zT_up hT zs205_29 rfl (i := 29) (by omega) (by omega) (by omega) (by omega)
  have f13 := zT_get hTμ1 zs205_13 (i := 13) (by omega) (by omega)
  have f1 := zT_get hTμ1 zs205_13 (i := 13) (by omega) (by omega)
  refine pm_blk hK zmm278 [] 4 13 [(2, 205), (0, k)] [] (pm_up μ1 205 30 (μ1 205 13)) [sx_bit Wm 205 = true] rfl ⟨hb205, trivial⟩ ?_
  obtain ⟨μ2, eμ2⟩ : ∃ μ', μ' = pm_up μ1 205 30 (μ1 205 13) := ⟨_, rfl⟩
  rw [← eμ2]
  have hTμ2 : zTJ μ2 := by rw [eμ2]; exact zT_up hTμ1 zs205_30 rfl (i := 30) (by omega) (by omega) (by omega) (by omega)
  refine pm_blk hK zmm278 [] 1 14 [(2, 205), (0, k)] [(0, (-1))] μ2 [] rfl trivial ?_
  exact pm_iret rfl rfl ⟨rfl, hTμ2⟩
set_option maxRecDepth 100000 in
theorem zh_isSign (hK : zKK ST) {c : Int} (hbd : 0 ≤ bud.1 ∧ 0 ≤ bud.2.1) : zC D Wm ST b0 l Sg zM283 bud [(2, 205), (0, c)] μ (fun st' μ' => μ = μ' ∧ ∃ x, st' = [(0, x)] ∧ 0 ≤ x ∧ x ≤ 1 ∧ (x = 1 ↔ μ 205 14 = 4 ∧ μ 205 15 = c)) := by
  refine pm_blk hK zmm283 [] 3 5 [(2, 205), (0, c)] [(0, 4), (0, μ 205 14)] μ [] rfl trivial ?_
  refine pm_icmp hK zmm283 .ne 15 20 rfl rfl (fun h0 => ?_) (fun h0 => ?_)
  · have h0 : μ 205 14 ≠ (4 : Int) := h0
    refine pm_blk hK zmm283 [] 1 21 [(2, 205), (0, c)] [(0, 0)] μ [] rfl trivial ?_
    exact pm_zret rfl rfl (by first | exact Or.inl rfl | exact Or.inr rfl | omega) ⟨rfl, _, rfl, by omega, by omega, by omega⟩
  · have h0 : μ 205 14 = (4 : Int) := h0
    refine pm_blk hK zmm283 [] 3 13 [(2, 205), (0, c)] [(0, c), (0, μ 205 15)] μ [] rfl trivial ?_
    refine pm_icmp hK zmm283 .ne 7 20 rfl rfl (fun h1 => ?_) (fun h1 => ?_)
    · have h1 : μ 205 15 ≠ c := h1
      refine pm_blk hK zmm283 [] 1 21 [(2, 205), (0, c)] [(0, 0)] μ [] rfl trivial ?_
      exact pm_zret rfl rfl (by first | exact Or.inl rfl | exact Or.inr rfl | omega) ⟨rfl, _, rfl, by omega, by omega, by omega⟩
    · have h1 : μ 205 15 = c := h1
      refine pm_blk hK zmm283 [] 2 21 [(2, 205), (0, c)] [(0, 1)] μ [] rfl trivial ?_
      exact pm_zret rfl rfl (by first | exact Or.inl rfl | exact Or.inr rfl | omega) ⟨rfl, _, rfl, by omega, by omega, by omega⟩
set_option maxRecDepth 100000 in
theorem zh_isWord (hK : zKK ST) {c : Int} (hbd : 0 ≤ bud.1 ∧ 0 ≤ bud.2.1) : zC D Wm ST b0 l Sg zM142 bud [(2, 205), (0, c)] μ (fun st' μ' => μ = μ' ∧ ∃ x, st' = [(0, x)] ∧ 0 ≤ x ∧ x ≤ 1 ∧ (x = 1 ↔ μ 205 14 = 2 ∧ μ 205 15 = c)) := by
  refine pm_blk hK zmm142 [] 3 5 [(2, 205), (0, c)] [(0, 2), (0, μ 205 14)] μ [] rfl trivial ?_
  refine pm_icmp hK zmm142 .ne 15 20 rfl rfl (fun h0 => ?_) (fun h0 => ?_)
  · have h0 : μ 205 14 ≠ (2 : Int) := h0
    refine pm_blk hK zmm142 [] 1 21 [(2, 205), (0, c)] [(0, 0)] μ [] rfl trivial ?_
    exact pm_zret rfl rfl (by first | exact Or.inl rfl | exact Or.inr rfl | omega) ⟨rfl, _, rfl, by omega, by omega, by omega⟩
  · have h0 : μ 205 14 = (2 : Int) := h0
    refine pm_blk hK zmm142 [] 3 13 [(2, 205), (0, c)] [(0, c), (0, μ 205 15)] μ [] rfl trivial ?_
    refine pm_icmp hK zmm142 .ne 7 20 rfl rfl (fun h1 => ?_) (fun h1 => ?_)
    · have h1 : μ 205 15 ≠ c := h1
      refine pm_blk hK zmm142 [] 1 21 [(2, 205), (0, c)] [(0, 0)] μ [] rfl trivial ?_
      exact pm_zret rfl rfl (by first | exact Or.inl rfl | exact Or.inr rfl | omega) ⟨rfl, _, rfl, by omega, by omega, by omega⟩
    · have h1 : μ 205 15 = c := h1
      refine pm_blk hK zmm142 [] 2 21 [(2, 205), (0, c)] [(0, 1)] μ [] rfl trivial ?_
      exact pm_zret rfl rfl (by first | exact Or.inl rfl | exact Or.inr rfl | omega) ⟨rfl, _, rfl, by omega, by omega, by omega⟩
set_option maxRecDepth 100000 in
theorem zh_canAsk (hK : zKK ST) {c : Int} (hbd : 1 ≤ bud.1 ∧ 23 ≤ bud.2.1) : zC D Wm ST b0 l Sg zM291 bud [(2, 205), (0, c)] μ (fun st' μ' => μ = μ' ∧ ∃ x, st' = [(0, x)] ∧ 0 ≤ x ∧ x ≤ 1 ∧ (x = 1 ↔ 7 ≤ c ∧ c ≤ 17)) := by
  refine pm_blk hK zmm291 [] 4 6 [(2, 205), (0, c)] [(0, 17), (0, 7), (0, c), (2, 205)] μ [] rfl trivial ?_
  refine pm_call hK zmm291 (158, 0, 129, 3) zM129 (0, 0) [(2, 205), (0, c), (0, 7), (0, 17)] [] rfl rfl rfl rfl ⟨by omega, by rw [zn129]; omega⟩ (zh_isIn hK ⟨by omega, by omega⟩) (fun st1 μc1 hp1 => ?_)
  obtain ⟨rfl, rfl⟩ := hp1
  rcases zif01 (7 ≤ c ∧ c ≤ 17) with q | q
  · have q2 := zif0 q; rw [q]; exact pm_zret rfl rfl (by first | exact Or.inl rfl | exact Or.inr rfl | omega) ⟨rfl, _, rfl, by omega, by omega, by omega⟩
  · rw [q]; have q2 := zif1 (P := 7 ≤ c ∧ c ≤ 17) (by omega); exact pm_zret rfl rfl (by first | exact Or.inl rfl | exact Or.inr rfl | omega) ⟨rfl, _, rfl, by omega, by omega, by omega⟩
set_option maxRecDepth 100000 in
theorem zh_readUnit (hK : zKK ST) {w : Int} (hT : zTJ μ) (hRd : zRd μ) (hw : 0 ≤ w ∧ μ 205 25 + w ≤ μ 205 13) (hb205 : sx_bit Wm 205 = true) (hb218 : sx_bit Wm 218 = true) (hb219 : sx_bit Wm 219 = true) (hbd : 3 ≤ bud.1 ∧ 65 ≤ bud.2.1) : zC D Wm ST b0 l Sg zM290 bud [(2, 205)] μ (fun st' μ' => ∃ x, st' = [(0, x)] ∧ -1 ≤ x ∧ x ≤ 0 ∧ zTJ μ' ∧ (x ≠ -1 → zOK μ μ' w ∧ (μ 205 14 = 3 → μ' 205 25 = μ 205 25 + 1 ∧ μ' 218 (800 + μ 205 25) = 0 ∧ μ' 219 (800 + μ 205 25) = μ 205 15))) := by
  obtain ⟨r1, r2, r3, r4, r5, r6, r7, r8⟩ := hRd
  have f25 := zT_get hT zs205_25 (i := 25) (by omega) (by omega)
  have f1 := zT_get hT zs205_14 (i := 14) (by omega) (by omega)
  refine pm_blk hK zmm290 [] 3 5 [(2, 205), (9, 0)] [(0, 2), (0, μ 205 14)] μ [] rfl trivial ?_
  refine pm_icmp hK zmm290 .ne 18 23 rfl rfl (fun h0 => ?_) (fun h0 => ?_)
  · have h0 : μ 205 14 ≠ (2 : Int) := h0
    refine pm_blk hK zmm290 [] 3 26 [(2, 205), (0, 0)] [(0, 0)] μ [] rfl trivial ?_
    refine pm_if hK zmm290 .ne 17 43 rfl rfl (fun h1 => ?_) (fun h1 => ?_)
    · have h1 : (0 : Int) ≠ (0 : Int) := h1
      refine pm_blk hK zmm290 [] 2 45 [(2, 205), (0, 0)] [(0, 0), (2, 205)] μ [] rfl trivial ?_
      refine pm_if hK zmm290 .eq 7 52 rfl rfl (fun h2 => ?_) (fun h2 => ?_)
      · have h2 : (0 : Int) = (0 : Int) := h2
        refine pm_blk hK zmm290 [] 2 54 [(2, 205), (0, 0)] [(0, 0), (0, 0), (2, 205)] μ [] rfl trivial ?_
        refine pm_if hK zmm290 .eq 13 67 rfl rfl (fun h3 => ?_) (fun h3 => ?_)
        · have h3 : (0 : Int) = (0 : Int) := h3
          have f2 := zT_get hT zs205_15 (i := 15) (by omega) (by omega)
          refine pm_blk hK zmm290 [] 2 71 [(2, 205), (0, 0)] [(0, μ 205 15), (0, 0), (2, 205)] μ [] rfl trivial ?_
          refine pm_call hK zmm290 (219, 0, 292, 2) zM292 (0, 0) [(2, 205), (0, 0), (0, μ 205 15)] [] rfl rfl rfl rfl ⟨by omega, by rw [zn292]; omega⟩ (zh_emits hK (o := 0) (v := (μ 205 15)) hT ⟨by omega, by omega⟩ ⟨by omega, by omega⟩ ⟨by omega, by omega⟩ hb205 hb218 hb219 ⟨Nat.le_refl _, Nat.le_refl _⟩) (fun st1 μc1 hp1 => ?_)
          obtain ⟨rfl, hTc1, hE1⟩ := hp1
          have hE := hE1
          have hE2 := hE
          obtain ⟨e1, e2, e3, e4, e5, e6, e7⟩ := hE2
          have e14 := e7 14 (by decide)
          have e13 := e7 13 (by decide)
          have e12 := e7 12 (by decide)
          refine pm_blk hK zmm290 [] 1 75 [(2, 205), (0, 0)] [(2, 205)] μc1 [] rfl trivial ?_
          refine pm_call hK zmm290 (223, 0, 139, 0) zM139 (2, 44) [(2, 205)] [] rfl rfl rfl rfl ⟨by omega, by rw [zn139]; omega⟩ (zh_reads hK hTc1 hb205 ⟨Nat.le_refl _, Nat.le_refl _⟩) (fun st2 μc2 hp2 => ?_)
          obtain ⟨rfl, hTc2, hF2, hS2, hR2⟩ := hp2
          have hF := hF2
          have hS := hS2
          have hR := hR2
          refine pm_blk hK zmm290 [] 1 79 [(2, 205), (0, 0)] [(0, 0)] μc2 [] rfl trivial ?_
          have g25 : μc2 205 25 = μ 205 25 + 1 := by rw [hF.2 25 (by decide) (by decide) (by decide) (by decide)]; exact e1
          have hS2 := hS
          have hR2 := hR
          obtain ⟨s1, s2, s3, s4, s5, s6, s7, s8⟩ := hR2
          refine pm_iret rfl rfl ⟨_, rfl, by omega, by omega, hTc2, fun _ => ⟨⟨hR, by omega, by omega, zEm_trans (zE1_push hE (by omega) (by omega)) (zEm_fr hF), zFs_trans (zE1_s hE) (zFr_s hF)⟩, fun h3 => ⟨g25, ?_, ?_⟩⟩⟩
          · rw [hF.1 218 (by decide)]; omega
          · rw [hF.1 219 (by decide)]; omega
        · have h3 : (0 : Int) ≠ (0 : Int) := h3
          have f3 := zT_get hT zs205_15 (i := 15) (by omega) (by omega)
          refine pm_blk hK zmm290 [] 5 71 [(2, 205), (0, 0)] [(0, (μ 205 15) - 7), (0, 0), (2, 205)] μ [pm_in ((μ 205 15) - 7)] rfl ⟨pm_in_mk (by omega) (by omega), trivial⟩ ?_
          refine pm_call hK zmm290 (219, 0, 292, 2) zM292 (0, 0) [(2, 205), (0, 0), (0, (μ 205 15) - 7)] [] rfl rfl rfl rfl ⟨by omega, by rw [zn292]; omega⟩ (zh_emits hK (o := 0) (v := ((μ 205 15) - 7)) hT ⟨by omega, by omega⟩ ⟨by omega, by omega⟩ ⟨by omega, by omega⟩ hb205 hb218 hb219 ⟨Nat.le_refl _, Nat.le_refl _⟩) (fun st3 μc3 hp3 => ?_)
          obtain ⟨rfl, hTc3, hE3⟩ := hp3
          have hE := hE3
          have hE2 := hE
          obtain ⟨e1, e2, e3, e4, e5, e6, e7⟩ := hE2
          have e14 := e7 14 (by decide)
          have e13 := e7 13 (by decide)
          have e12 := e7 12 (by decide)
          refine pm_blk hK zmm290 [] 1 75 [(2, 205), (0, 0)] [(2, 205)] μc3 [] rfl trivial ?_
          refine pm_call hK zmm290 (223, 0, 139, 0) zM139 (2, 44) [(2, 205)] [] rfl rfl rfl rfl ⟨by omega, by rw [zn139]; omega⟩ (zh_reads hK hTc3 hb205 ⟨Nat.le_refl _, Nat.le_refl _⟩) (fun st4 μc4 hp4 => ?_)
          obtain ⟨rfl, hTc4, hF4, hS4, hR4⟩ := hp4
          have hF := hF4
          have hS := hS4
          have hR := hR4
          refine pm_blk hK zmm290 [] 1 79 [(2, 205), (0, 0)] [(0, 0)] μc4 [] rfl trivial ?_
          have g25 : μc4 205 25 = μ 205 25 + 1 := by rw [hF.2 25 (by decide) (by decide) (by decide) (by decide)]; exact e1
          have hS2 := hS
          have hR2 := hR
          obtain ⟨s1, s2, s3, s4, s5, s6, s7, s8⟩ := hR2
          refine pm_iret rfl rfl ⟨_, rfl, by omega, by omega, hTc4, fun _ => ⟨⟨hR, by omega, by omega, zEm_trans (zE1_push hE (by omega) (by omega)) (zEm_fr hF), zFs_trans (zE1_s hE) (zFr_s hF)⟩, fun h3 => ⟨g25, ?_, ?_⟩⟩⟩
          · rw [hF.1 218 (by decide)]; omega
          · rw [hF.1 219 (by decide)]; omega
      · have h2 : (0 : Int) ≠ (0 : Int) := h2
        refine pm_blk hK zmm290 [] 3 54 [(2, 205), (0, 0)] [(0, 0), (0, 1), (2, 205)] μ [] rfl trivial ?_
        refine pm_if hK zmm290 .eq 13 67 rfl rfl (fun h4 => ?_) (fun h4 => ?_)
        · have h4 : (0 : Int) = (0 : Int) := h4
          have f4 := zT_get hT zs205_15 (i := 15) (by omega) (by omega)
          refine pm_blk hK zmm290 [] 2 71 [(2, 205), (0, 0)] [(0, μ 205 15), (0, 1), (2, 205)] μ [] rfl trivial ?_
          refine pm_call hK zmm290 (219, 0, 292, 2) zM292 (0, 0) [(2, 205), (0, 1), (0, μ 205 15)] [] rfl rfl rfl rfl ⟨by omega, by rw [zn292]; omega⟩ (zh_emits hK (o := 1) (v := (μ 205 15)) hT ⟨by omega, by omega⟩ ⟨by omega, by omega⟩ ⟨by omega, by omega⟩ hb205 hb218 hb219 ⟨Nat.le_refl _, Nat.le_refl _⟩) (fun st5 μc5 hp5 => ?_)
          obtain ⟨rfl, hTc5, hE5⟩ := hp5
          have hE := hE5
          have hE2 := hE
          obtain ⟨e1, e2, e3, e4, e5, e6, e7⟩ := hE2
          have e14 := e7 14 (by decide)
          have e13 := e7 13 (by decide)
          have e12 := e7 12 (by decide)
          refine pm_blk hK zmm290 [] 1 75 [(2, 205), (0, 0)] [(2, 205)] μc5 [] rfl trivial ?_
          refine pm_call hK zmm290 (223, 0, 139, 0) zM139 (2, 44) [(2, 205)] [] rfl rfl rfl rfl ⟨by omega, by rw [zn139]; omega⟩ (zh_reads hK hTc5 hb205 ⟨Nat.le_refl _, Nat.le_refl _⟩) (fun st6 μc6 hp6 => ?_)
          obtain ⟨rfl, hTc6, hF6, hS6, hR6⟩ := hp6
          have hF := hF6
          have hS := hS6
          have hR := hR6
          refine pm_blk hK zmm290 [] 1 79 [(2, 205), (0, 0)] [(0, 0)] μc6 [] rfl trivial ?_
          have g25 : μc6 205 25 = μ 205 25 + 1 := by rw [hF.2 25 (by decide) (by decide) (by decide) (by decide)]; exact e1
          have hS2 := hS
          have hR2 := hR
          obtain ⟨s1, s2, s3, s4, s5, s6, s7, s8⟩ := hR2
          refine pm_iret rfl rfl ⟨_, rfl, by omega, by omega, hTc6, fun _ => ⟨⟨hR, by omega, by omega, zEm_trans (zE1_push hE (by omega) (by omega)) (zEm_fr hF), zFs_trans (zE1_s hE) (zFr_s hF)⟩, fun h3 => ⟨g25, ?_, ?_⟩⟩⟩
          · rw [hF.1 218 (by decide)]; omega
          · rw [hF.1 219 (by decide)]; omega
        · have h4 : (0 : Int) ≠ (0 : Int) := h4
          have f5 := zT_get hT zs205_15 (i := 15) (by omega) (by omega)
          refine pm_blk hK zmm290 [] 5 71 [(2, 205), (0, 0)] [(0, (μ 205 15) - 7), (0, 1), (2, 205)] μ [pm_in ((μ 205 15) - 7)] rfl ⟨pm_in_mk (by omega) (by omega), trivial⟩ ?_
          refine pm_call hK zmm290 (219, 0, 292, 2) zM292 (0, 0) [(2, 205), (0, 1), (0, (μ 205 15) - 7)] [] rfl rfl rfl rfl ⟨by omega, by rw [zn292]; omega⟩ (zh_emits hK (o := 1) (v := ((μ 205 15) - 7)) hT ⟨by omega, by omega⟩ ⟨by omega, by omega⟩ ⟨by omega, by omega⟩ hb205 hb218 hb219 ⟨Nat.le_refl _, Nat.le_refl _⟩) (fun st7 μc7 hp7 => ?_)
          obtain ⟨rfl, hTc7, hE7⟩ := hp7
          have hE := hE7
          have hE2 := hE
          obtain ⟨e1, e2, e3, e4, e5, e6, e7⟩ := hE2
          have e14 := e7 14 (by decide)
          have e13 := e7 13 (by decide)
          have e12 := e7 12 (by decide)
          refine pm_blk hK zmm290 [] 1 75 [(2, 205), (0, 0)] [(2, 205)] μc7 [] rfl trivial ?_
          refine pm_call hK zmm290 (223, 0, 139, 0) zM139 (2, 44) [(2, 205)] [] rfl rfl rfl rfl ⟨by omega, by rw [zn139]; omega⟩ (zh_reads hK hTc7 hb205 ⟨Nat.le_refl _, Nat.le_refl _⟩) (fun st8 μc8 hp8 => ?_)
          obtain ⟨rfl, hTc8, hF8, hS8, hR8⟩ := hp8
          have hF := hF8
          have hS := hS8
          have hR := hR8
          refine pm_blk hK zmm290 [] 1 79 [(2, 205), (0, 0)] [(0, 0)] μc8 [] rfl trivial ?_
          have g25 : μc8 205 25 = μ 205 25 + 1 := by rw [hF.2 25 (by decide) (by decide) (by decide) (by decide)]; exact e1
          have hS2 := hS
          have hR2 := hR
          obtain ⟨s1, s2, s3, s4, s5, s6, s7, s8⟩ := hR2
          refine pm_iret rfl rfl ⟨_, rfl, by omega, by omega, hTc8, fun _ => ⟨⟨hR, by omega, by omega, zEm_trans (zE1_push hE (by omega) (by omega)) (zEm_fr hF), zFs_trans (zE1_s hE) (zFr_s hF)⟩, fun h3 => ⟨g25, ?_, ?_⟩⟩⟩
          · rw [hF.1 218 (by decide)]; omega
          · rw [hF.1 219 (by decide)]; omega
    · have h1 : (0 : Int) = (0 : Int) := h1
      refine pm_blk hK zmm290 [] 3 34 [(2, 205), (0, 0)] [(0, 3), (0, μ 205 14)] μ [] rfl trivial ?_
      refine pm_icmp hK zmm290 .eq 9 43 rfl rfl (fun h5 => ?_) (fun h5 => ?_)
      · have h5 : μ 205 14 = (3 : Int) := h5
        refine pm_blk hK zmm290 [] 2 45 [(2, 205), (0, 0)] [(0, 0), (2, 205)] μ [] rfl trivial ?_
        refine pm_if hK zmm290 .eq 7 52 rfl rfl (fun h6 => ?_) (fun h6 => ?_)
        · have h6 : (0 : Int) = (0 : Int) := h6
          refine pm_blk hK zmm290 [] 2 54 [(2, 205), (0, 0)] [(0, 0), (0, 0), (2, 205)] μ [] rfl trivial ?_
          refine pm_if hK zmm290 .eq 13 67 rfl rfl (fun h7 => ?_) (fun h7 => ?_)
          · have h7 : (0 : Int) = (0 : Int) := h7
            have f6 := zT_get hT zs205_15 (i := 15) (by omega) (by omega)
            refine pm_blk hK zmm290 [] 2 71 [(2, 205), (0, 0)] [(0, μ 205 15), (0, 0), (2, 205)] μ [] rfl trivial ?_
            refine pm_call hK zmm290 (219, 0, 292, 2) zM292 (0, 0) [(2, 205), (0, 0), (0, μ 205 15)] [] rfl rfl rfl rfl ⟨by omega, by rw [zn292]; omega⟩ (zh_emits hK (o := 0) (v := (μ 205 15)) hT ⟨by omega, by omega⟩ ⟨by omega, by omega⟩ ⟨by omega, by omega⟩ hb205 hb218 hb219 ⟨Nat.le_refl _, Nat.le_refl _⟩) (fun st9 μc9 hp9 => ?_)
            obtain ⟨rfl, hTc9, hE9⟩ := hp9
            have hE := hE9
            have hE2 := hE
            obtain ⟨e1, e2, e3, e4, e5, e6, e7⟩ := hE2
            have e14 := e7 14 (by decide)
            have e13 := e7 13 (by decide)
            have e12 := e7 12 (by decide)
            refine pm_blk hK zmm290 [] 1 75 [(2, 205), (0, 0)] [(2, 205)] μc9 [] rfl trivial ?_
            refine pm_call hK zmm290 (223, 0, 139, 0) zM139 (2, 44) [(2, 205)] [] rfl rfl rfl rfl ⟨by omega, by rw [zn139]; omega⟩ (zh_reads hK hTc9 hb205 ⟨Nat.le_refl _, Nat.le_refl _⟩) (fun st10 μc10 hp10 => ?_)
            obtain ⟨rfl, hTc10, hF10, hS10, hR10⟩ := hp10
            have hF := hF10
            have hS := hS10
            have hR := hR10
            refine pm_blk hK zmm290 [] 1 79 [(2, 205), (0, 0)] [(0, 0)] μc10 [] rfl trivial ?_
            have g25 : μc10 205 25 = μ 205 25 + 1 := by rw [hF.2 25 (by decide) (by decide) (by decide) (by decide)]; exact e1
            have hS2 := hS
            have hR2 := hR
            obtain ⟨s1, s2, s3, s4, s5, s6, s7, s8⟩ := hR2
            refine pm_iret rfl rfl ⟨_, rfl, by omega, by omega, hTc10, fun _ => ⟨⟨hR, by omega, by omega, zEm_trans (zE1_push hE (by omega) (by omega)) (zEm_fr hF), zFs_trans (zE1_s hE) (zFr_s hF)⟩, fun h3 => ⟨g25, ?_, ?_⟩⟩⟩
            · rw [hF.1 218 (by decide)]; omega
            · rw [hF.1 219 (by decide)]; omega
          · have h7 : (0 : Int) ≠ (0 : Int) := h7
            have f7 := zT_get hT zs205_15 (i := 15) (by omega) (by omega)
            refine pm_blk hK zmm290 [] 5 71 [(2, 205), (0, 0)] [(0, (μ 205 15) - 7), (0, 0), (2, 205)] μ [pm_in ((μ 205 15) - 7)] rfl ⟨pm_in_mk (by omega) (by omega), trivial⟩ ?_
            refine pm_call hK zmm290 (219, 0, 292, 2) zM292 (0, 0) [(2, 205), (0, 0), (0, (μ 205 15) - 7)] [] rfl rfl rfl rfl ⟨by omega, by rw [zn292]; omega⟩ (zh_emits hK (o := 0) (v := ((μ 205 15) - 7)) hT ⟨by omega, by omega⟩ ⟨by omega, by omega⟩ ⟨by omega, by omega⟩ hb205 hb218 hb219 ⟨Nat.le_refl _, Nat.le_refl _⟩) (fun st11 μc11 hp11 => ?_)
            obtain ⟨rfl, hTc11, hE11⟩ := hp11
            have hE := hE11
            have hE2 := hE
            obtain ⟨e1, e2, e3, e4, e5, e6, e7⟩ := hE2
            have e14 := e7 14 (by decide)
            have e13 := e7 13 (by decide)
            have e12 := e7 12 (by decide)
            refine pm_blk hK zmm290 [] 1 75 [(2, 205), (0, 0)] [(2, 205)] μc11 [] rfl trivial ?_
            refine pm_call hK zmm290 (223, 0, 139, 0) zM139 (2, 44) [(2, 205)] [] rfl rfl rfl rfl ⟨by omega, by rw [zn139]; omega⟩ (zh_reads hK hTc11 hb205 ⟨Nat.le_refl _, Nat.le_refl _⟩) (fun st12 μc12 hp12 => ?_)
            obtain ⟨rfl, hTc12, hF12, hS12, hR12⟩ := hp12
            have hF := hF12
            have hS := hS12
            have hR := hR12
            refine pm_blk hK zmm290 [] 1 79 [(2, 205), (0, 0)] [(0, 0)] μc12 [] rfl trivial ?_
            have g25 : μc12 205 25 = μ 205 25 + 1 := by rw [hF.2 25 (by decide) (by decide) (by decide) (by decide)]; exact e1
            have hS2 := hS
            have hR2 := hR
            obtain ⟨s1, s2, s3, s4, s5, s6, s7, s8⟩ := hR2
            refine pm_iret rfl rfl ⟨_, rfl, by omega, by omega, hTc12, fun _ => ⟨⟨hR, by omega, by omega, zEm_trans (zE1_push hE (by omega) (by omega)) (zEm_fr hF), zFs_trans (zE1_s hE) (zFr_s hF)⟩, fun h3 => ⟨g25, ?_, ?_⟩⟩⟩
            · rw [hF.1 218 (by decide)]; omega
            · rw [hF.1 219 (by decide)]; omega
        · have h6 : (0 : Int) ≠ (0 : Int) := h6
          refine pm_blk hK zmm290 [] 3 54 [(2, 205), (0, 0)] [(0, 0), (0, 1), (2, 205)] μ [] rfl trivial ?_
          refine pm_if hK zmm290 .eq 13 67 rfl rfl (fun h8 => ?_) (fun h8 => ?_)
          · have h8 : (0 : Int) = (0 : Int) := h8
            have f8 := zT_get hT zs205_15 (i := 15) (by omega) (by omega)
            refine pm_blk hK zmm290 [] 2 71 [(2, 205), (0, 0)] [(0, μ 205 15), (0, 1), (2, 205)] μ [] rfl trivial ?_
            refine pm_call hK zmm290 (219, 0, 292, 2) zM292 (0, 0) [(2, 205), (0, 1), (0, μ 205 15)] [] rfl rfl rfl rfl ⟨by omega, by rw [zn292]; omega⟩ (zh_emits hK (o := 1) (v := (μ 205 15)) hT ⟨by omega, by omega⟩ ⟨by omega, by omega⟩ ⟨by omega, by omega⟩ hb205 hb218 hb219 ⟨Nat.le_refl _, Nat.le_refl _⟩) (fun st13 μc13 hp13 => ?_)
            obtain ⟨rfl, hTc13, hE13⟩ := hp13
            have hE := hE13
            have hE2 := hE
            obtain ⟨e1, e2, e3, e4, e5, e6, e7⟩ := hE2
            have e14 := e7 14 (by decide)
            have e13 := e7 13 (by decide)
            have e12 := e7 12 (by decide)
            refine pm_blk hK zmm290 [] 1 75 [(2, 205), (0, 0)] [(2, 205)] μc13 [] rfl trivial ?_
            refine pm_call hK zmm290 (223, 0, 139, 0) zM139 (2, 44) [(2, 205)] [] rfl rfl rfl rfl ⟨by omega, by rw [zn139]; omega⟩ (zh_reads hK hTc13 hb205 ⟨Nat.le_refl _, Nat.le_refl _⟩) (fun st14 μc14 hp14 => ?_)
            obtain ⟨rfl, hTc14, hF14, hS14, hR14⟩ := hp14
            have hF := hF14
            have hS := hS14
            have hR := hR14
            refine pm_blk hK zmm290 [] 1 79 [(2, 205), (0, 0)] [(0, 0)] μc14 [] rfl trivial ?_
            have g25 : μc14 205 25 = μ 205 25 + 1 := by rw [hF.2 25 (by decide) (by decide) (by decide) (by decide)]; exact e1
            have hS2 := hS
            have hR2 := hR
            obtain ⟨s1, s2, s3, s4, s5, s6, s7, s8⟩ := hR2
            refine pm_iret rfl rfl ⟨_, rfl, by omega, by omega, hTc14, fun _ => ⟨⟨hR, by omega, by omega, zEm_trans (zE1_push hE (by omega) (by omega)) (zEm_fr hF), zFs_trans (zE1_s hE) (zFr_s hF)⟩, fun h3 => ⟨g25, ?_, ?_⟩⟩⟩
            · rw [hF.1 218 (by decide)]; omega
            · rw [hF.1 219 (by decide)]; omega
          · have h8 : (0 : Int) ≠ (0 : Int) := h8
            have f9 := zT_get hT zs205_15 (i := 15) (by omega) (by omega)
            refine pm_blk hK zmm290 [] 5 71 [(2, 205), (0, 0)] [(0, (μ 205 15) - 7), (0, 1), (2, 205)] μ [pm_in ((μ 205 15) - 7)] rfl ⟨pm_in_mk (by omega) (by omega), trivial⟩ ?_
            refine pm_call hK zmm290 (219, 0, 292, 2) zM292 (0, 0) [(2, 205), (0, 1), (0, (μ 205 15) - 7)] [] rfl rfl rfl rfl ⟨by omega, by rw [zn292]; omega⟩ (zh_emits hK (o := 1) (v := ((μ 205 15) - 7)) hT ⟨by omega, by omega⟩ ⟨by omega, by omega⟩ ⟨by omega, by omega⟩ hb205 hb218 hb219 ⟨Nat.le_refl _, Nat.le_refl _⟩) (fun st15 μc15 hp15 => ?_)
            obtain ⟨rfl, hTc15, hE15⟩ := hp15
            have hE := hE15
            have hE2 := hE
            obtain ⟨e1, e2, e3, e4, e5, e6, e7⟩ := hE2
            have e14 := e7 14 (by decide)
            have e13 := e7 13 (by decide)
            have e12 := e7 12 (by decide)
            refine pm_blk hK zmm290 [] 1 75 [(2, 205), (0, 0)] [(2, 205)] μc15 [] rfl trivial ?_
            refine pm_call hK zmm290 (223, 0, 139, 0) zM139 (2, 44) [(2, 205)] [] rfl rfl rfl rfl ⟨by omega, by rw [zn139]; omega⟩ (zh_reads hK hTc15 hb205 ⟨Nat.le_refl _, Nat.le_refl _⟩) (fun st16 μc16 hp16 => ?_)
            obtain ⟨rfl, hTc16, hF16, hS16, hR16⟩ := hp16
            have hF := hF16
            have hS := hS16
            have hR := hR16
            refine pm_blk hK zmm290 [] 1 79 [(2, 205), (0, 0)] [(0, 0)] μc16 [] rfl trivial ?_
            have g25 : μc16 205 25 = μ 205 25 + 1 := by rw [hF.2 25 (by decide) (by decide) (by decide) (by decide)]; exact e1
            have hS2 := hS
            have hR2 := hR
            obtain ⟨s1, s2, s3, s4, s5, s6, s7, s8⟩ := hR2
            refine pm_iret rfl rfl ⟨_, rfl, by omega, by omega, hTc16, fun _ => ⟨⟨hR, by omega, by omega, zEm_trans (zE1_push hE (by omega) (by omega)) (zEm_fr hF), zFs_trans (zE1_s hE) (zFr_s hF)⟩, fun h3 => ⟨g25, ?_, ?_⟩⟩⟩
            · rw [hF.1 218 (by decide)]; omega
            · rw [hF.1 219 (by decide)]; omega
      · have h5 : μ 205 14 ≠ (3 : Int) := h5
        refine pm_blk hK zmm290 [] 2 39 [(2, 205), (0, 0)] [(0, 1), (2, 205)] μ [] rfl trivial ?_
        refine pm_call hK zmm290 (216, 0, 278, 1) zM278 (0, 0) [(2, 205), (0, 1)] [] rfl rfl rfl rfl ⟨by omega, by rw [zn278]; omega⟩ (zh_errs hK (k := 1) hT ⟨by omega, by omega⟩ hb205 ⟨Nat.le_refl _, Nat.le_refl _⟩) (fun st17 μc17 hp17 => ?_)
        obtain ⟨rfl, hTc17⟩ := hp17
        exact pm_iret rfl rfl ⟨_, rfl, by omega, by omega, hTc17, fun h => absurd rfl h⟩
  · have h0 : μ 205 14 = (2 : Int) := h0
    have f10 := zT_get hT zs205_15 (i := 15) (by omega) (by omega)
    refine pm_blk hK zmm290 [] 3 13 [(2, 205), (9, 0)] [(0, μ 205 15), (2, 205)] μ [] rfl trivial ?_
    refine pm_call hK zmm290 (213, 0, 291, 1) zM291 (1, 23) [(2, 205), (0, μ 205 15)] [] rfl rfl rfl rfl ⟨by omega, by rw [zn291]; omega⟩ (zh_canAsk hK (c := (μ 205 15)) ⟨Nat.le_refl _, Nat.le_refl _⟩) (fun st18 μc18 hp18 => ?_)
    obtain ⟨rfl, x18, rfl, hx18a, hx18b, hx18c⟩ := hp18
    refine pm_if hK zmm290 .eq 7 23 rfl rfl (fun h9 => ?_) (fun h9 => ?_)
    · have h9 : x18 = (0 : Int) := h9
      refine pm_blk hK zmm290 [] 3 26 [(2, 205), (0, 0)] [(0, 0)] μ [] rfl trivial ?_
      refine pm_if hK zmm290 .ne 17 43 rfl rfl (fun h10 => ?_) (fun h10 => ?_)
      · have h10 : (0 : Int) ≠ (0 : Int) := h10
        refine pm_blk hK zmm290 [] 2 45 [(2, 205), (0, 0)] [(0, 0), (2, 205)] μ [] rfl trivial ?_
        refine pm_if hK zmm290 .eq 7 52 rfl rfl (fun h11 => ?_) (fun h11 => ?_)
        · have h11 : (0 : Int) = (0 : Int) := h11
          refine pm_blk hK zmm290 [] 2 54 [(2, 205), (0, 0)] [(0, 0), (0, 0), (2, 205)] μ [] rfl trivial ?_
          refine pm_if hK zmm290 .eq 13 67 rfl rfl (fun h12 => ?_) (fun h12 => ?_)
          · have h12 : (0 : Int) = (0 : Int) := h12
            refine pm_blk hK zmm290 [] 2 71 [(2, 205), (0, 0)] [(0, μ 205 15), (0, 0), (2, 205)] μ [] rfl trivial ?_
            refine pm_call hK zmm290 (219, 0, 292, 2) zM292 (0, 0) [(2, 205), (0, 0), (0, μ 205 15)] [] rfl rfl rfl rfl ⟨by omega, by rw [zn292]; omega⟩ (zh_emits hK (o := 0) (v := (μ 205 15)) hT ⟨by omega, by omega⟩ ⟨by omega, by omega⟩ ⟨by omega, by omega⟩ hb205 hb218 hb219 ⟨Nat.le_refl _, Nat.le_refl _⟩) (fun st19 μc19 hp19 => ?_)
            obtain ⟨rfl, hTc19, hE19⟩ := hp19
            have hE := hE19
            have hE2 := hE
            obtain ⟨e1, e2, e3, e4, e5, e6, e7⟩ := hE2
            have e14 := e7 14 (by decide)
            have e13 := e7 13 (by decide)
            have e12 := e7 12 (by decide)
            refine pm_blk hK zmm290 [] 1 75 [(2, 205), (0, 0)] [(2, 205)] μc19 [] rfl trivial ?_
            refine pm_call hK zmm290 (223, 0, 139, 0) zM139 (2, 44) [(2, 205)] [] rfl rfl rfl rfl ⟨by omega, by rw [zn139]; omega⟩ (zh_reads hK hTc19 hb205 ⟨Nat.le_refl _, Nat.le_refl _⟩) (fun st20 μc20 hp20 => ?_)
            obtain ⟨rfl, hTc20, hF20, hS20, hR20⟩ := hp20
            have hF := hF20
            have hS := hS20
            have hR := hR20
            refine pm_blk hK zmm290 [] 1 79 [(2, 205), (0, 0)] [(0, 0)] μc20 [] rfl trivial ?_
            have g25 : μc20 205 25 = μ 205 25 + 1 := by rw [hF.2 25 (by decide) (by decide) (by decide) (by decide)]; exact e1
            have hS2 := hS
            have hR2 := hR
            obtain ⟨s1, s2, s3, s4, s5, s6, s7, s8⟩ := hR2
            refine pm_iret rfl rfl ⟨_, rfl, by omega, by omega, hTc20, fun _ => ⟨⟨hR, by omega, by omega, zEm_trans (zE1_push hE (by omega) (by omega)) (zEm_fr hF), zFs_trans (zE1_s hE) (zFr_s hF)⟩, fun h3 => ⟨g25, ?_, ?_⟩⟩⟩
            · rw [hF.1 218 (by decide)]; omega
            · rw [hF.1 219 (by decide)]; omega
          · have h12 : (0 : Int) ≠ (0 : Int) := h12
            refine pm_blk hK zmm290 [] 5 71 [(2, 205), (0, 0)] [(0, (μ 205 15) - 7), (0, 0), (2, 205)] μ [pm_in ((μ 205 15) - 7)] rfl ⟨pm_in_mk (by omega) (by omega), trivial⟩ ?_
            refine pm_call hK zmm290 (219, 0, 292, 2) zM292 (0, 0) [(2, 205), (0, 0), (0, (μ 205 15) - 7)] [] rfl rfl rfl rfl ⟨by omega, by rw [zn292]; omega⟩ (zh_emits hK (o := 0) (v := ((μ 205 15) - 7)) hT ⟨by omega, by omega⟩ ⟨by omega, by omega⟩ ⟨by omega, by omega⟩ hb205 hb218 hb219 ⟨Nat.le_refl _, Nat.le_refl _⟩) (fun st21 μc21 hp21 => ?_)
            obtain ⟨rfl, hTc21, hE21⟩ := hp21
            have hE := hE21
            have hE2 := hE
            obtain ⟨e1, e2, e3, e4, e5, e6, e7⟩ := hE2
            have e14 := e7 14 (by decide)
            have e13 := e7 13 (by decide)
            have e12 := e7 12 (by decide)
            refine pm_blk hK zmm290 [] 1 75 [(2, 205), (0, 0)] [(2, 205)] μc21 [] rfl trivial ?_
            refine pm_call hK zmm290 (223, 0, 139, 0) zM139 (2, 44) [(2, 205)] [] rfl rfl rfl rfl ⟨by omega, by rw [zn139]; omega⟩ (zh_reads hK hTc21 hb205 ⟨Nat.le_refl _, Nat.le_refl _⟩) (fun st22 μc22 hp22 => ?_)
            obtain ⟨rfl, hTc22, hF22, hS22, hR22⟩ := hp22
            have hF := hF22
            have hS := hS22
            have hR := hR22
            refine pm_blk hK zmm290 [] 1 79 [(2, 205), (0, 0)] [(0, 0)] μc22 [] rfl trivial ?_
            have g25 : μc22 205 25 = μ 205 25 + 1 := by rw [hF.2 25 (by decide) (by decide) (by decide) (by decide)]; exact e1
            have hS2 := hS
            have hR2 := hR
            obtain ⟨s1, s2, s3, s4, s5, s6, s7, s8⟩ := hR2
            refine pm_iret rfl rfl ⟨_, rfl, by omega, by omega, hTc22, fun _ => ⟨⟨hR, by omega, by omega, zEm_trans (zE1_push hE (by omega) (by omega)) (zEm_fr hF), zFs_trans (zE1_s hE) (zFr_s hF)⟩, fun h3 => ⟨g25, ?_, ?_⟩⟩⟩
            · rw [hF.1 218 (by decide)]; omega
            · rw [hF.1 219 (by decide)]; omega
        · have h11 : (0 : Int) ≠ (0 : Int) := h11
          refine pm_blk hK zmm290 [] 3 54 [(2, 205), (0, 0)] [(0, 0), (0, 1), (2, 205)] μ [] rfl trivial ?_
          refine pm_if hK zmm290 .eq 13 67 rfl rfl (fun h13 => ?_) (fun h13 => ?_)
          · have h13 : (0 : Int) = (0 : Int) := h13
            refine pm_blk hK zmm290 [] 2 71 [(2, 205), (0, 0)] [(0, μ 205 15), (0, 1), (2, 205)] μ [] rfl trivial ?_
            refine pm_call hK zmm290 (219, 0, 292, 2) zM292 (0, 0) [(2, 205), (0, 1), (0, μ 205 15)] [] rfl rfl rfl rfl ⟨by omega, by rw [zn292]; omega⟩ (zh_emits hK (o := 1) (v := (μ 205 15)) hT ⟨by omega, by omega⟩ ⟨by omega, by omega⟩ ⟨by omega, by omega⟩ hb205 hb218 hb219 ⟨Nat.le_refl _, Nat.le_refl _⟩) (fun st23 μc23 hp23 => ?_)
            obtain ⟨rfl, hTc23, hE23⟩ := hp23
            have hE := hE23
            have hE2 := hE
            obtain ⟨e1, e2, e3, e4, e5, e6, e7⟩ := hE2
            have e14 := e7 14 (by decide)
            have e13 := e7 13 (by decide)
            have e12 := e7 12 (by decide)
            refine pm_blk hK zmm290 [] 1 75 [(2, 205), (0, 0)] [(2, 205)] μc23 [] rfl trivial ?_
            refine pm_call hK zmm290 (223, 0, 139, 0) zM139 (2, 44) [(2, 205)] [] rfl rfl rfl rfl ⟨by omega, by rw [zn139]; omega⟩ (zh_reads hK hTc23 hb205 ⟨Nat.le_refl _, Nat.le_refl _⟩) (fun st24 μc24 hp24 => ?_)
            obtain ⟨rfl, hTc24, hF24, hS24, hR24⟩ := hp24
            have hF := hF24
            have hS := hS24
            have hR := hR24
            refine pm_blk hK zmm290 [] 1 79 [(2, 205), (0, 0)] [(0, 0)] μc24 [] rfl trivial ?_
            have g25 : μc24 205 25 = μ 205 25 + 1 := by rw [hF.2 25 (by decide) (by decide) (by decide) (by decide)]; exact e1
            have hS2 := hS
            have hR2 := hR
            obtain ⟨s1, s2, s3, s4, s5, s6, s7, s8⟩ := hR2
            refine pm_iret rfl rfl ⟨_, rfl, by omega, by omega, hTc24, fun _ => ⟨⟨hR, by omega, by omega, zEm_trans (zE1_push hE (by omega) (by omega)) (zEm_fr hF), zFs_trans (zE1_s hE) (zFr_s hF)⟩, fun h3 => ⟨g25, ?_, ?_⟩⟩⟩
            · rw [hF.1 218 (by decide)]; omega
            · rw [hF.1 219 (by decide)]; omega
          · have h13 : (0 : Int) ≠ (0 : Int) := h13
            refine pm_blk hK zmm290 [] 5 71 [(2, 205), (0, 0)] [(0, (μ 205 15) - 7), (0, 1), (2, 205)] μ [pm_in ((μ 205 15) - 7)] rfl ⟨pm_in_mk (by omega) (by omega), trivial⟩ ?_
            refine pm_call hK zmm290 (219, 0, 292, 2) zM292 (0, 0) [(2, 205), (0, 1), (0, (μ 205 15) - 7)] [] rfl rfl rfl rfl ⟨by omega, by rw [zn292]; omega⟩ (zh_emits hK (o := 1) (v := ((μ 205 15) - 7)) hT ⟨by omega, by omega⟩ ⟨by omega, by omega⟩ ⟨by omega, by omega⟩ hb205 hb218 hb219 ⟨Nat.le_refl _, Nat.le_refl _⟩) (fun st25 μc25 hp25 => ?_)
            obtain ⟨rfl, hTc25, hE25⟩ := hp25
            have hE := hE25
            have hE2 := hE
            obtain ⟨e1, e2, e3, e4, e5, e6, e7⟩ := hE2
            have e14 := e7 14 (by decide)
            have e13 := e7 13 (by decide)
            have e12 := e7 12 (by decide)
            refine pm_blk hK zmm290 [] 1 75 [(2, 205), (0, 0)] [(2, 205)] μc25 [] rfl trivial ?_
            refine pm_call hK zmm290 (223, 0, 139, 0) zM139 (2, 44) [(2, 205)] [] rfl rfl rfl rfl ⟨by omega, by rw [zn139]; omega⟩ (zh_reads hK hTc25 hb205 ⟨Nat.le_refl _, Nat.le_refl _⟩) (fun st26 μc26 hp26 => ?_)
            obtain ⟨rfl, hTc26, hF26, hS26, hR26⟩ := hp26
            have hF := hF26
            have hS := hS26
            have hR := hR26
            refine pm_blk hK zmm290 [] 1 79 [(2, 205), (0, 0)] [(0, 0)] μc26 [] rfl trivial ?_
            have g25 : μc26 205 25 = μ 205 25 + 1 := by rw [hF.2 25 (by decide) (by decide) (by decide) (by decide)]; exact e1
            have hS2 := hS
            have hR2 := hR
            obtain ⟨s1, s2, s3, s4, s5, s6, s7, s8⟩ := hR2
            refine pm_iret rfl rfl ⟨_, rfl, by omega, by omega, hTc26, fun _ => ⟨⟨hR, by omega, by omega, zEm_trans (zE1_push hE (by omega) (by omega)) (zEm_fr hF), zFs_trans (zE1_s hE) (zFr_s hF)⟩, fun h3 => ⟨g25, ?_, ?_⟩⟩⟩
            · rw [hF.1 218 (by decide)]; omega
            · rw [hF.1 219 (by decide)]; omega
      · have h10 : (0 : Int) = (0 : Int) := h10
        refine pm_blk hK zmm290 [] 3 34 [(2, 205), (0, 0)] [(0, 3), (0, μ 205 14)] μ [] rfl trivial ?_
        refine pm_icmp hK zmm290 .eq 9 43 rfl rfl (fun h14 => ?_) (fun h14 => ?_)
        · have h14 : μ 205 14 = (3 : Int) := h14
          refine pm_blk hK zmm290 [] 2 45 [(2, 205), (0, 0)] [(0, 0), (2, 205)] μ [] rfl trivial ?_
          refine pm_if hK zmm290 .eq 7 52 rfl rfl (fun h15 => ?_) (fun h15 => ?_)
          · have h15 : (0 : Int) = (0 : Int) := h15
            refine pm_blk hK zmm290 [] 2 54 [(2, 205), (0, 0)] [(0, 0), (0, 0), (2, 205)] μ [] rfl trivial ?_
            refine pm_if hK zmm290 .eq 13 67 rfl rfl (fun h16 => ?_) (fun h16 => ?_)
            · have h16 : (0 : Int) = (0 : Int) := h16
              refine pm_blk hK zmm290 [] 2 71 [(2, 205), (0, 0)] [(0, μ 205 15), (0, 0), (2, 205)] μ [] rfl trivial ?_
              refine pm_call hK zmm290 (219, 0, 292, 2) zM292 (0, 0) [(2, 205), (0, 0), (0, μ 205 15)] [] rfl rfl rfl rfl ⟨by omega, by rw [zn292]; omega⟩ (zh_emits hK (o := 0) (v := (μ 205 15)) hT ⟨by omega, by omega⟩ ⟨by omega, by omega⟩ ⟨by omega, by omega⟩ hb205 hb218 hb219 ⟨Nat.le_refl _, Nat.le_refl _⟩) (fun st27 μc27 hp27 => ?_)
              obtain ⟨rfl, hTc27, hE27⟩ := hp27
              have hE := hE27
              have hE2 := hE
              obtain ⟨e1, e2, e3, e4, e5, e6, e7⟩ := hE2
              have e14 := e7 14 (by decide)
              have e13 := e7 13 (by decide)
              have e12 := e7 12 (by decide)
              refine pm_blk hK zmm290 [] 1 75 [(2, 205), (0, 0)] [(2, 205)] μc27 [] rfl trivial ?_
              refine pm_call hK zmm290 (223, 0, 139, 0) zM139 (2, 44) [(2, 205)] [] rfl rfl rfl rfl ⟨by omega, by rw [zn139]; omega⟩ (zh_reads hK hTc27 hb205 ⟨Nat.le_refl _, Nat.le_refl _⟩) (fun st28 μc28 hp28 => ?_)
              obtain ⟨rfl, hTc28, hF28, hS28, hR28⟩ := hp28
              have hF := hF28
              have hS := hS28
              have hR := hR28
              refine pm_blk hK zmm290 [] 1 79 [(2, 205), (0, 0)] [(0, 0)] μc28 [] rfl trivial ?_
              have g25 : μc28 205 25 = μ 205 25 + 1 := by rw [hF.2 25 (by decide) (by decide) (by decide) (by decide)]; exact e1
              have hS2 := hS
              have hR2 := hR
              obtain ⟨s1, s2, s3, s4, s5, s6, s7, s8⟩ := hR2
              refine pm_iret rfl rfl ⟨_, rfl, by omega, by omega, hTc28, fun _ => ⟨⟨hR, by omega, by omega, zEm_trans (zE1_push hE (by omega) (by omega)) (zEm_fr hF), zFs_trans (zE1_s hE) (zFr_s hF)⟩, fun h3 => ⟨g25, ?_, ?_⟩⟩⟩
              · rw [hF.1 218 (by decide)]; omega
              · rw [hF.1 219 (by decide)]; omega
            · have h16 : (0 : Int) ≠ (0 : Int) := h16
              refine pm_blk hK zmm290 [] 5 71 [(2, 205), (0, 0)] [(0, (μ 205 15) - 7), (0, 0), (2, 205)] μ [pm_in ((μ 205 15) - 7)] rfl ⟨pm_in_mk (by omega) (by omega), trivial⟩ ?_
              refine pm_call hK zmm290 (219, 0, 292, 2) zM292 (0, 0) [(2, 205), (0, 0), (0, (μ 205 15) - 7)] [] rfl rfl rfl rfl ⟨by omega, by rw [zn292]; omega⟩ (zh_emits hK (o := 0) (v := ((μ 205 15) - 7)) hT ⟨by omega, by omega⟩ ⟨by omega, by omega⟩ ⟨by omega, by omega⟩ hb205 hb218 hb219 ⟨Nat.le_refl _, Nat.le_refl _⟩) (fun st29 μc29 hp29 => ?_)
              obtain ⟨rfl, hTc29, hE29⟩ := hp29
              have hE := hE29
              have hE2 := hE
              obtain ⟨e1, e2, e3, e4, e5, e6, e7⟩ := hE2
              have e14 := e7 14 (by decide)
              have e13 := e7 13 (by decide)
              have e12 := e7 12 (by decide)
              refine pm_blk hK zmm290 [] 1 75 [(2, 205), (0, 0)] [(2, 205)] μc29 [] rfl trivial ?_
              refine pm_call hK zmm290 (223, 0, 139, 0) zM139 (2, 44) [(2, 205)] [] rfl rfl rfl rfl ⟨by omega, by rw [zn139]; omega⟩ (zh_reads hK hTc29 hb205 ⟨Nat.le_refl _, Nat.le_refl _⟩) (fun st30 μc30 hp30 => ?_)
              obtain ⟨rfl, hTc30, hF30, hS30, hR30⟩ := hp30
              have hF := hF30
              have hS := hS30
              have hR := hR30
              refine pm_blk hK zmm290 [] 1 79 [(2, 205), (0, 0)] [(0, 0)] μc30 [] rfl trivial ?_
              have g25 : μc30 205 25 = μ 205 25 + 1 := by rw [hF.2 25 (by decide) (by decide) (by decide) (by decide)]; exact e1
              have hS2 := hS
              have hR2 := hR
              obtain ⟨s1, s2, s3, s4, s5, s6, s7, s8⟩ := hR2
              refine pm_iret rfl rfl ⟨_, rfl, by omega, by omega, hTc30, fun _ => ⟨⟨hR, by omega, by omega, zEm_trans (zE1_push hE (by omega) (by omega)) (zEm_fr hF), zFs_trans (zE1_s hE) (zFr_s hF)⟩, fun h3 => ⟨g25, ?_, ?_⟩⟩⟩
              · rw [hF.1 218 (by decide)]; omega
              · rw [hF.1 219 (by decide)]; omega
          · have h15 : (0 : Int) ≠ (0 : Int) := h15
            refine pm_blk hK zmm290 [] 3 54 [(2, 205), (0, 0)] [(0, 0), (0, 1), (2, 205)] μ [] rfl trivial ?_
            refine pm_if hK zmm290 .eq 13 67 rfl rfl (fun h17 => ?_) (fun h17 => ?_)
            · have h17 : (0 : Int) = (0 : Int) := h17
              refine pm_blk hK zmm290 [] 2 71 [(2, 205), (0, 0)] [(0, μ 205 15), (0, 1), (2, 205)] μ [] rfl trivial ?_
              refine pm_call hK zmm290 (219, 0, 292, 2) zM292 (0, 0) [(2, 205), (0, 1), (0, μ 205 15)] [] rfl rfl rfl rfl ⟨by omega, by rw [zn292]; omega⟩ (zh_emits hK (o := 1) (v := (μ 205 15)) hT ⟨by omega, by omega⟩ ⟨by omega, by omega⟩ ⟨by omega, by omega⟩ hb205 hb218 hb219 ⟨Nat.le_refl _, Nat.le_refl _⟩) (fun st31 μc31 hp31 => ?_)
              obtain ⟨rfl, hTc31, hE31⟩ := hp31
              have hE := hE31
              have hE2 := hE
              obtain ⟨e1, e2, e3, e4, e5, e6, e7⟩ := hE2
              have e14 := e7 14 (by decide)
              have e13 := e7 13 (by decide)
              have e12 := e7 12 (by decide)
              refine pm_blk hK zmm290 [] 1 75 [(2, 205), (0, 0)] [(2, 205)] μc31 [] rfl trivial ?_
              refine pm_call hK zmm290 (223, 0, 139, 0) zM139 (2, 44) [(2, 205)] [] rfl rfl rfl rfl ⟨by omega, by rw [zn139]; omega⟩ (zh_reads hK hTc31 hb205 ⟨Nat.le_refl _, Nat.le_refl _⟩) (fun st32 μc32 hp32 => ?_)
              obtain ⟨rfl, hTc32, hF32, hS32, hR32⟩ := hp32
              have hF := hF32
              have hS := hS32
              have hR := hR32
              refine pm_blk hK zmm290 [] 1 79 [(2, 205), (0, 0)] [(0, 0)] μc32 [] rfl trivial ?_
              have g25 : μc32 205 25 = μ 205 25 + 1 := by rw [hF.2 25 (by decide) (by decide) (by decide) (by decide)]; exact e1
              have hS2 := hS
              have hR2 := hR
              obtain ⟨s1, s2, s3, s4, s5, s6, s7, s8⟩ := hR2
              refine pm_iret rfl rfl ⟨_, rfl, by omega, by omega, hTc32, fun _ => ⟨⟨hR, by omega, by omega, zEm_trans (zE1_push hE (by omega) (by omega)) (zEm_fr hF), zFs_trans (zE1_s hE) (zFr_s hF)⟩, fun h3 => ⟨g25, ?_, ?_⟩⟩⟩
              · rw [hF.1 218 (by decide)]; omega
              · rw [hF.1 219 (by decide)]; omega
            · have h17 : (0 : Int) ≠ (0 : Int) := h17
              refine pm_blk hK zmm290 [] 5 71 [(2, 205), (0, 0)] [(0, (μ 205 15) - 7), (0, 1), (2, 205)] μ [pm_in ((μ 205 15) - 7)] rfl ⟨pm_in_mk (by omega) (by omega), trivial⟩ ?_
              refine pm_call hK zmm290 (219, 0, 292, 2) zM292 (0, 0) [(2, 205), (0, 1), (0, (μ 205 15) - 7)] [] rfl rfl rfl rfl ⟨by omega, by rw [zn292]; omega⟩ (zh_emits hK (o := 1) (v := ((μ 205 15) - 7)) hT ⟨by omega, by omega⟩ ⟨by omega, by omega⟩ ⟨by omega, by omega⟩ hb205 hb218 hb219 ⟨Nat.le_refl _, Nat.le_refl _⟩) (fun st33 μc33 hp33 => ?_)
              obtain ⟨rfl, hTc33, hE33⟩ := hp33
              have hE := hE33
              have hE2 := hE
              obtain ⟨e1, e2, e3, e4, e5, e6, e7⟩ := hE2
              have e14 := e7 14 (by decide)
              have e13 := e7 13 (by decide)
              have e12 := e7 12 (by decide)
              refine pm_blk hK zmm290 [] 1 75 [(2, 205), (0, 0)] [(2, 205)] μc33 [] rfl trivial ?_
              refine pm_call hK zmm290 (223, 0, 139, 0) zM139 (2, 44) [(2, 205)] [] rfl rfl rfl rfl ⟨by omega, by rw [zn139]; omega⟩ (zh_reads hK hTc33 hb205 ⟨Nat.le_refl _, Nat.le_refl _⟩) (fun st34 μc34 hp34 => ?_)
              obtain ⟨rfl, hTc34, hF34, hS34, hR34⟩ := hp34
              have hF := hF34
              have hS := hS34
              have hR := hR34
              refine pm_blk hK zmm290 [] 1 79 [(2, 205), (0, 0)] [(0, 0)] μc34 [] rfl trivial ?_
              have g25 : μc34 205 25 = μ 205 25 + 1 := by rw [hF.2 25 (by decide) (by decide) (by decide) (by decide)]; exact e1
              have hS2 := hS
              have hR2 := hR
              obtain ⟨s1, s2, s3, s4, s5, s6, s7, s8⟩ := hR2
              refine pm_iret rfl rfl ⟨_, rfl, by omega, by omega, hTc34, fun _ => ⟨⟨hR, by omega, by omega, zEm_trans (zE1_push hE (by omega) (by omega)) (zEm_fr hF), zFs_trans (zE1_s hE) (zFr_s hF)⟩, fun h3 => ⟨g25, ?_, ?_⟩⟩⟩
              · rw [hF.1 218 (by decide)]; omega
              · rw [hF.1 219 (by decide)]; omega
        · have h14 : μ 205 14 ≠ (3 : Int) := h14
          refine pm_blk hK zmm290 [] 2 39 [(2, 205), (0, 0)] [(0, 1), (2, 205)] μ [] rfl trivial ?_
          refine pm_call hK zmm290 (216, 0, 278, 1) zM278 (0, 0) [(2, 205), (0, 1)] [] rfl rfl rfl rfl ⟨by omega, by rw [zn278]; omega⟩ (zh_errs hK (k := 1) hT ⟨by omega, by omega⟩ hb205 ⟨Nat.le_refl _, Nat.le_refl _⟩) (fun st35 μc35 hp35 => ?_)
          obtain ⟨rfl, hTc35⟩ := hp35
          exact pm_iret rfl rfl ⟨_, rfl, by omega, by omega, hTc35, fun h => absurd rfl h⟩
    · have h9 : x18 ≠ (0 : Int) := h9
      refine pm_blk hK zmm290 [] 4 26 [(2, 205), (0, 1)] [(0, 1)] μ [] rfl trivial ?_
      refine pm_if hK zmm290 .ne 17 43 rfl rfl (fun h18 => ?_) (fun h18 => ?_)
      · have h18 : (1 : Int) ≠ (0 : Int) := h18
        refine pm_blk hK zmm290 [] 2 45 [(2, 205), (0, 1)] [(0, 1), (2, 205)] μ [] rfl trivial ?_
        refine pm_if hK zmm290 .eq 7 52 rfl rfl (fun h19 => ?_) (fun h19 => ?_)
        · have h19 : (1 : Int) = (0 : Int) := h19
          refine pm_blk hK zmm290 [] 2 54 [(2, 205), (0, 1)] [(0, 1), (0, 0), (2, 205)] μ [] rfl trivial ?_
          refine pm_if hK zmm290 .eq 13 67 rfl rfl (fun h20 => ?_) (fun h20 => ?_)
          · have h20 : (1 : Int) = (0 : Int) := h20
            refine pm_blk hK zmm290 [] 2 71 [(2, 205), (0, 1)] [(0, μ 205 15), (0, 0), (2, 205)] μ [] rfl trivial ?_
            refine pm_call hK zmm290 (219, 0, 292, 2) zM292 (0, 0) [(2, 205), (0, 0), (0, μ 205 15)] [] rfl rfl rfl rfl ⟨by omega, by rw [zn292]; omega⟩ (zh_emits hK (o := 0) (v := (μ 205 15)) hT ⟨by omega, by omega⟩ ⟨by omega, by omega⟩ ⟨by omega, by omega⟩ hb205 hb218 hb219 ⟨Nat.le_refl _, Nat.le_refl _⟩) (fun st36 μc36 hp36 => ?_)
            obtain ⟨rfl, hTc36, hE36⟩ := hp36
            have hE := hE36
            have hE2 := hE
            obtain ⟨e1, e2, e3, e4, e5, e6, e7⟩ := hE2
            have e14 := e7 14 (by decide)
            have e13 := e7 13 (by decide)
            have e12 := e7 12 (by decide)
            refine pm_blk hK zmm290 [] 1 75 [(2, 205), (0, 1)] [(2, 205)] μc36 [] rfl trivial ?_
            refine pm_call hK zmm290 (223, 0, 139, 0) zM139 (2, 44) [(2, 205)] [] rfl rfl rfl rfl ⟨by omega, by rw [zn139]; omega⟩ (zh_reads hK hTc36 hb205 ⟨Nat.le_refl _, Nat.le_refl _⟩) (fun st37 μc37 hp37 => ?_)
            obtain ⟨rfl, hTc37, hF37, hS37, hR37⟩ := hp37
            have hF := hF37
            have hS := hS37
            have hR := hR37
            refine pm_blk hK zmm290 [] 1 79 [(2, 205), (0, 1)] [(0, 0)] μc37 [] rfl trivial ?_
            have g25 : μc37 205 25 = μ 205 25 + 1 := by rw [hF.2 25 (by decide) (by decide) (by decide) (by decide)]; exact e1
            have hS2 := hS
            have hR2 := hR
            obtain ⟨s1, s2, s3, s4, s5, s6, s7, s8⟩ := hR2
            refine pm_iret rfl rfl ⟨_, rfl, by omega, by omega, hTc37, fun _ => ⟨⟨hR, by omega, by omega, zEm_trans (zE1_push hE (by omega) (by omega)) (zEm_fr hF), zFs_trans (zE1_s hE) (zFr_s hF)⟩, fun h3 => ⟨g25, ?_, ?_⟩⟩⟩
            · rw [hF.1 218 (by decide)]; omega
            · rw [hF.1 219 (by decide)]; omega
          · have h20 : (1 : Int) ≠ (0 : Int) := h20
            refine pm_blk hK zmm290 [] 5 71 [(2, 205), (0, 1)] [(0, (μ 205 15) - 7), (0, 0), (2, 205)] μ [pm_in ((μ 205 15) - 7)] rfl ⟨pm_in_mk (by omega) (by omega), trivial⟩ ?_
            refine pm_call hK zmm290 (219, 0, 292, 2) zM292 (0, 0) [(2, 205), (0, 0), (0, (μ 205 15) - 7)] [] rfl rfl rfl rfl ⟨by omega, by rw [zn292]; omega⟩ (zh_emits hK (o := 0) (v := ((μ 205 15) - 7)) hT ⟨by omega, by omega⟩ ⟨by omega, by omega⟩ ⟨by omega, by omega⟩ hb205 hb218 hb219 ⟨Nat.le_refl _, Nat.le_refl _⟩) (fun st38 μc38 hp38 => ?_)
            obtain ⟨rfl, hTc38, hE38⟩ := hp38
            have hE := hE38
            have hE2 := hE
            obtain ⟨e1, e2, e3, e4, e5, e6, e7⟩ := hE2
            have e14 := e7 14 (by decide)
            have e13 := e7 13 (by decide)
            have e12 := e7 12 (by decide)
            refine pm_blk hK zmm290 [] 1 75 [(2, 205), (0, 1)] [(2, 205)] μc38 [] rfl trivial ?_
            refine pm_call hK zmm290 (223, 0, 139, 0) zM139 (2, 44) [(2, 205)] [] rfl rfl rfl rfl ⟨by omega, by rw [zn139]; omega⟩ (zh_reads hK hTc38 hb205 ⟨Nat.le_refl _, Nat.le_refl _⟩) (fun st39 μc39 hp39 => ?_)
            obtain ⟨rfl, hTc39, hF39, hS39, hR39⟩ := hp39
            have hF := hF39
            have hS := hS39
            have hR := hR39
            refine pm_blk hK zmm290 [] 1 79 [(2, 205), (0, 1)] [(0, 0)] μc39 [] rfl trivial ?_
            have g25 : μc39 205 25 = μ 205 25 + 1 := by rw [hF.2 25 (by decide) (by decide) (by decide) (by decide)]; exact e1
            have hS2 := hS
            have hR2 := hR
            obtain ⟨s1, s2, s3, s4, s5, s6, s7, s8⟩ := hR2
            refine pm_iret rfl rfl ⟨_, rfl, by omega, by omega, hTc39, fun _ => ⟨⟨hR, by omega, by omega, zEm_trans (zE1_push hE (by omega) (by omega)) (zEm_fr hF), zFs_trans (zE1_s hE) (zFr_s hF)⟩, fun h3 => ⟨g25, ?_, ?_⟩⟩⟩
            · rw [hF.1 218 (by decide)]; omega
            · rw [hF.1 219 (by decide)]; omega
        · have h19 : (1 : Int) ≠ (0 : Int) := h19
          refine pm_blk hK zmm290 [] 3 54 [(2, 205), (0, 1)] [(0, 1), (0, 1), (2, 205)] μ [] rfl trivial ?_
          refine pm_if hK zmm290 .eq 13 67 rfl rfl (fun h21 => ?_) (fun h21 => ?_)
          · have h21 : (1 : Int) = (0 : Int) := h21
            refine pm_blk hK zmm290 [] 2 71 [(2, 205), (0, 1)] [(0, μ 205 15), (0, 1), (2, 205)] μ [] rfl trivial ?_
            refine pm_call hK zmm290 (219, 0, 292, 2) zM292 (0, 0) [(2, 205), (0, 1), (0, μ 205 15)] [] rfl rfl rfl rfl ⟨by omega, by rw [zn292]; omega⟩ (zh_emits hK (o := 1) (v := (μ 205 15)) hT ⟨by omega, by omega⟩ ⟨by omega, by omega⟩ ⟨by omega, by omega⟩ hb205 hb218 hb219 ⟨Nat.le_refl _, Nat.le_refl _⟩) (fun st40 μc40 hp40 => ?_)
            obtain ⟨rfl, hTc40, hE40⟩ := hp40
            have hE := hE40
            have hE2 := hE
            obtain ⟨e1, e2, e3, e4, e5, e6, e7⟩ := hE2
            have e14 := e7 14 (by decide)
            have e13 := e7 13 (by decide)
            have e12 := e7 12 (by decide)
            refine pm_blk hK zmm290 [] 1 75 [(2, 205), (0, 1)] [(2, 205)] μc40 [] rfl trivial ?_
            refine pm_call hK zmm290 (223, 0, 139, 0) zM139 (2, 44) [(2, 205)] [] rfl rfl rfl rfl ⟨by omega, by rw [zn139]; omega⟩ (zh_reads hK hTc40 hb205 ⟨Nat.le_refl _, Nat.le_refl _⟩) (fun st41 μc41 hp41 => ?_)
            obtain ⟨rfl, hTc41, hF41, hS41, hR41⟩ := hp41
            have hF := hF41
            have hS := hS41
            have hR := hR41
            refine pm_blk hK zmm290 [] 1 79 [(2, 205), (0, 1)] [(0, 0)] μc41 [] rfl trivial ?_
            have g25 : μc41 205 25 = μ 205 25 + 1 := by rw [hF.2 25 (by decide) (by decide) (by decide) (by decide)]; exact e1
            have hS2 := hS
            have hR2 := hR
            obtain ⟨s1, s2, s3, s4, s5, s6, s7, s8⟩ := hR2
            refine pm_iret rfl rfl ⟨_, rfl, by omega, by omega, hTc41, fun _ => ⟨⟨hR, by omega, by omega, zEm_trans (zE1_push hE (by omega) (by omega)) (zEm_fr hF), zFs_trans (zE1_s hE) (zFr_s hF)⟩, fun h3 => ⟨g25, ?_, ?_⟩⟩⟩
            · rw [hF.1 218 (by decide)]; omega
            · rw [hF.1 219 (by decide)]; omega
          · have h21 : (1 : Int) ≠ (0 : Int) := h21
            refine pm_blk hK zmm290 [] 5 71 [(2, 205), (0, 1)] [(0, (μ 205 15) - 7), (0, 1), (2, 205)] μ [pm_in ((μ 205 15) - 7)] rfl ⟨pm_in_mk (by omega) (by omega), trivial⟩ ?_
            refine pm_call hK zmm290 (219, 0, 292, 2) zM292 (0, 0) [(2, 205), (0, 1), (0, (μ 205 15) - 7)] [] rfl rfl rfl rfl ⟨by omega, by rw [zn292]; omega⟩ (zh_emits hK (o := 1) (v := ((μ 205 15) - 7)) hT ⟨by omega, by omega⟩ ⟨by omega, by omega⟩ ⟨by omega, by omega⟩ hb205 hb218 hb219 ⟨Nat.le_refl _, Nat.le_refl _⟩) (fun st42 μc42 hp42 => ?_)
            obtain ⟨rfl, hTc42, hE42⟩ := hp42
            have hE := hE42
            have hE2 := hE
            obtain ⟨e1, e2, e3, e4, e5, e6, e7⟩ := hE2
            have e14 := e7 14 (by decide)
            have e13 := e7 13 (by decide)
            have e12 := e7 12 (by decide)
            refine pm_blk hK zmm290 [] 1 75 [(2, 205), (0, 1)] [(2, 205)] μc42 [] rfl trivial ?_
            refine pm_call hK zmm290 (223, 0, 139, 0) zM139 (2, 44) [(2, 205)] [] rfl rfl rfl rfl ⟨by omega, by rw [zn139]; omega⟩ (zh_reads hK hTc42 hb205 ⟨Nat.le_refl _, Nat.le_refl _⟩) (fun st43 μc43 hp43 => ?_)
            obtain ⟨rfl, hTc43, hF43, hS43, hR43⟩ := hp43
            have hF := hF43
            have hS := hS43
            have hR := hR43
            refine pm_blk hK zmm290 [] 1 79 [(2, 205), (0, 1)] [(0, 0)] μc43 [] rfl trivial ?_
            have g25 : μc43 205 25 = μ 205 25 + 1 := by rw [hF.2 25 (by decide) (by decide) (by decide) (by decide)]; exact e1
            have hS2 := hS
            have hR2 := hR
            obtain ⟨s1, s2, s3, s4, s5, s6, s7, s8⟩ := hR2
            refine pm_iret rfl rfl ⟨_, rfl, by omega, by omega, hTc43, fun _ => ⟨⟨hR, by omega, by omega, zEm_trans (zE1_push hE (by omega) (by omega)) (zEm_fr hF), zFs_trans (zE1_s hE) (zFr_s hF)⟩, fun h3 => ⟨g25, ?_, ?_⟩⟩⟩
            · rw [hF.1 218 (by decide)]; omega
            · rw [hF.1 219 (by decide)]; omega
      · have h18 : (1 : Int) = (0 : Int) := h18
        refine pm_blk hK zmm290 [] 3 34 [(2, 205), (0, 1)] [(0, 3), (0, μ 205 14)] μ [] rfl trivial ?_
        refine pm_icmp hK zmm290 .eq 9 43 rfl rfl (fun h22 => ?_) (fun h22 => ?_)
        · have h22 : μ 205 14 = (3 : Int) := h22
          refine pm_blk hK zmm290 [] 2 45 [(2, 205), (0, 1)] [(0, 1), (2, 205)] μ [] rfl trivial ?_
          refine pm_if hK zmm290 .eq 7 52 rfl rfl (fun h23 => ?_) (fun h23 => ?_)
          · have h23 : (1 : Int) = (0 : Int) := h23
            refine pm_blk hK zmm290 [] 2 54 [(2, 205), (0, 1)] [(0, 1), (0, 0), (2, 205)] μ [] rfl trivial ?_
            refine pm_if hK zmm290 .eq 13 67 rfl rfl (fun h24 => ?_) (fun h24 => ?_)
            · have h24 : (1 : Int) = (0 : Int) := h24
              refine pm_blk hK zmm290 [] 2 71 [(2, 205), (0, 1)] [(0, μ 205 15), (0, 0), (2, 205)] μ [] rfl trivial ?_
              refine pm_call hK zmm290 (219, 0, 292, 2) zM292 (0, 0) [(2, 205), (0, 0), (0, μ 205 15)] [] rfl rfl rfl rfl ⟨by omega, by rw [zn292]; omega⟩ (zh_emits hK (o := 0) (v := (μ 205 15)) hT ⟨by omega, by omega⟩ ⟨by omega, by omega⟩ ⟨by omega, by omega⟩ hb205 hb218 hb219 ⟨Nat.le_refl _, Nat.le_refl _⟩) (fun st44 μc44 hp44 => ?_)
              obtain ⟨rfl, hTc44, hE44⟩ := hp44
              have hE := hE44
              have hE2 := hE
              obtain ⟨e1, e2, e3, e4, e5, e6, e7⟩ := hE2
              have e14 := e7 14 (by decide)
              have e13 := e7 13 (by decide)
              have e12 := e7 12 (by decide)
              refine pm_blk hK zmm290 [] 1 75 [(2, 205), (0, 1)] [(2, 205)] μc44 [] rfl trivial ?_
              refine pm_call hK zmm290 (223, 0, 139, 0) zM139 (2, 44) [(2, 205)] [] rfl rfl rfl rfl ⟨by omega, by rw [zn139]; omega⟩ (zh_reads hK hTc44 hb205 ⟨Nat.le_refl _, Nat.le_refl _⟩) (fun st45 μc45 hp45 => ?_)
              obtain ⟨rfl, hTc45, hF45, hS45, hR45⟩ := hp45
              have hF := hF45
              have hS := hS45
              have hR := hR45
              refine pm_blk hK zmm290 [] 1 79 [(2, 205), (0, 1)] [(0, 0)] μc45 [] rfl trivial ?_
              have g25 : μc45 205 25 = μ 205 25 + 1 := by rw [hF.2 25 (by decide) (by decide) (by decide) (by decide)]; exact e1
              have hS2 := hS
              have hR2 := hR
              obtain ⟨s1, s2, s3, s4, s5, s6, s7, s8⟩ := hR2
              refine pm_iret rfl rfl ⟨_, rfl, by omega, by omega, hTc45, fun _ => ⟨⟨hR, by omega, by omega, zEm_trans (zE1_push hE (by omega) (by omega)) (zEm_fr hF), zFs_trans (zE1_s hE) (zFr_s hF)⟩, fun h3 => ⟨g25, ?_, ?_⟩⟩⟩
              · rw [hF.1 218 (by decide)]; omega
              · rw [hF.1 219 (by decide)]; omega
            · have h24 : (1 : Int) ≠ (0 : Int) := h24
              refine pm_blk hK zmm290 [] 5 71 [(2, 205), (0, 1)] [(0, (μ 205 15) - 7), (0, 0), (2, 205)] μ [pm_in ((μ 205 15) - 7)] rfl ⟨pm_in_mk (by omega) (by omega), trivial⟩ ?_
              refine pm_call hK zmm290 (219, 0, 292, 2) zM292 (0, 0) [(2, 205), (0, 0), (0, (μ 205 15) - 7)] [] rfl rfl rfl rfl ⟨by omega, by rw [zn292]; omega⟩ (zh_emits hK (o := 0) (v := ((μ 205 15) - 7)) hT ⟨by omega, by omega⟩ ⟨by omega, by omega⟩ ⟨by omega, by omega⟩ hb205 hb218 hb219 ⟨Nat.le_refl _, Nat.le_refl _⟩) (fun st46 μc46 hp46 => ?_)
              obtain ⟨rfl, hTc46, hE46⟩ := hp46
              have hE := hE46
              have hE2 := hE
              obtain ⟨e1, e2, e3, e4, e5, e6, e7⟩ := hE2
              have e14 := e7 14 (by decide)
              have e13 := e7 13 (by decide)
              have e12 := e7 12 (by decide)
              refine pm_blk hK zmm290 [] 1 75 [(2, 205), (0, 1)] [(2, 205)] μc46 [] rfl trivial ?_
              refine pm_call hK zmm290 (223, 0, 139, 0) zM139 (2, 44) [(2, 205)] [] rfl rfl rfl rfl ⟨by omega, by rw [zn139]; omega⟩ (zh_reads hK hTc46 hb205 ⟨Nat.le_refl _, Nat.le_refl _⟩) (fun st47 μc47 hp47 => ?_)
              obtain ⟨rfl, hTc47, hF47, hS47, hR47⟩ := hp47
              have hF := hF47
              have hS := hS47
              have hR := hR47
              refine pm_blk hK zmm290 [] 1 79 [(2, 205), (0, 1)] [(0, 0)] μc47 [] rfl trivial ?_
              have g25 : μc47 205 25 = μ 205 25 + 1 := by rw [hF.2 25 (by decide) (by decide) (by decide) (by decide)]; exact e1
              have hS2 := hS
              have hR2 := hR
              obtain ⟨s1, s2, s3, s4, s5, s6, s7, s8⟩ := hR2
              refine pm_iret rfl rfl ⟨_, rfl, by omega, by omega, hTc47, fun _ => ⟨⟨hR, by omega, by omega, zEm_trans (zE1_push hE (by omega) (by omega)) (zEm_fr hF), zFs_trans (zE1_s hE) (zFr_s hF)⟩, fun h3 => ⟨g25, ?_, ?_⟩⟩⟩
              · rw [hF.1 218 (by decide)]; omega
              · rw [hF.1 219 (by decide)]; omega
          · have h23 : (1 : Int) ≠ (0 : Int) := h23
            refine pm_blk hK zmm290 [] 3 54 [(2, 205), (0, 1)] [(0, 1), (0, 1), (2, 205)] μ [] rfl trivial ?_
            refine pm_if hK zmm290 .eq 13 67 rfl rfl (fun h25 => ?_) (fun h25 => ?_)
            · have h25 : (1 : Int) = (0 : Int) := h25
              refine pm_blk hK zmm290 [] 2 71 [(2, 205), (0, 1)] [(0, μ 205 15), (0, 1), (2, 205)] μ [] rfl trivial ?_
              refine pm_call hK zmm290 (219, 0, 292, 2) zM292 (0, 0) [(2, 205), (0, 1), (0, μ 205 15)] [] rfl rfl rfl rfl ⟨by omega, by rw [zn292]; omega⟩ (zh_emits hK (o := 1) (v := (μ 205 15)) hT ⟨by omega, by omega⟩ ⟨by omega, by omega⟩ ⟨by omega, by omega⟩ hb205 hb218 hb219 ⟨Nat.le_refl _, Nat.le_refl _⟩) (fun st48 μc48 hp48 => ?_)
              obtain ⟨rfl, hTc48, hE48⟩ := hp48
              have hE := hE48
              have hE2 := hE
              obtain ⟨e1, e2, e3, e4, e5, e6, e7⟩ := hE2
              have e14 := e7 14 (by decide)
              have e13 := e7 13 (by decide)
              have e12 := e7 12 (by decide)
              refine pm_blk hK zmm290 [] 1 75 [(2, 205), (0, 1)] [(2, 205)] μc48 [] rfl trivial ?_
              refine pm_call hK zmm290 (223, 0, 139, 0) zM139 (2, 44) [(2, 205)] [] rfl rfl rfl rfl ⟨by omega, by rw [zn139]; omega⟩ (zh_reads hK hTc48 hb205 ⟨Nat.le_refl _, Nat.le_refl _⟩) (fun st49 μc49 hp49 => ?_)
              obtain ⟨rfl, hTc49, hF49, hS49, hR49⟩ := hp49
              have hF := hF49
              have hS := hS49
              have hR := hR49
              refine pm_blk hK zmm290 [] 1 79 [(2, 205), (0, 1)] [(0, 0)] μc49 [] rfl trivial ?_
              have g25 : μc49 205 25 = μ 205 25 + 1 := by rw [hF.2 25 (by decide) (by decide) (by decide) (by decide)]; exact e1
              have hS2 := hS
              have hR2 := hR
              obtain ⟨s1, s2, s3, s4, s5, s6, s7, s8⟩ := hR2
              refine pm_iret rfl rfl ⟨_, rfl, by omega, by omega, hTc49, fun _ => ⟨⟨hR, by omega, by omega, zEm_trans (zE1_push hE (by omega) (by omega)) (zEm_fr hF), zFs_trans (zE1_s hE) (zFr_s hF)⟩, fun h3 => ⟨g25, ?_, ?_⟩⟩⟩
              · rw [hF.1 218 (by decide)]; omega
              · rw [hF.1 219 (by decide)]; omega
            · have h25 : (1 : Int) ≠ (0 : Int) := h25
              refine pm_blk hK zmm290 [] 5 71 [(2, 205), (0, 1)] [(0, (μ 205 15) - 7), (0, 1), (2, 205)] μ [pm_in ((μ 205 15) - 7)] rfl ⟨pm_in_mk (by omega) (by omega), trivial⟩ ?_
              refine pm_call hK zmm290 (219, 0, 292, 2) zM292 (0, 0) [(2, 205), (0, 1), (0, (μ 205 15) - 7)] [] rfl rfl rfl rfl ⟨by omega, by rw [zn292]; omega⟩ (zh_emits hK (o := 1) (v := ((μ 205 15) - 7)) hT ⟨by omega, by omega⟩ ⟨by omega, by omega⟩ ⟨by omega, by omega⟩ hb205 hb218 hb219 ⟨Nat.le_refl _, Nat.le_refl _⟩) (fun st50 μc50 hp50 => ?_)
              obtain ⟨rfl, hTc50, hE50⟩ := hp50
              have hE := hE50
              have hE2 := hE
              obtain ⟨e1, e2, e3, e4, e5, e6, e7⟩ := hE2
              have e14 := e7 14 (by decide)
              have e13 := e7 13 (by decide)
              have e12 := e7 12 (by decide)
              refine pm_blk hK zmm290 [] 1 75 [(2, 205), (0, 1)] [(2, 205)] μc50 [] rfl trivial ?_
              refine pm_call hK zmm290 (223, 0, 139, 0) zM139 (2, 44) [(2, 205)] [] rfl rfl rfl rfl ⟨by omega, by rw [zn139]; omega⟩ (zh_reads hK hTc50 hb205 ⟨Nat.le_refl _, Nat.le_refl _⟩) (fun st51 μc51 hp51 => ?_)
              obtain ⟨rfl, hTc51, hF51, hS51, hR51⟩ := hp51
              have hF := hF51
              have hS := hS51
              have hR := hR51
              refine pm_blk hK zmm290 [] 1 79 [(2, 205), (0, 1)] [(0, 0)] μc51 [] rfl trivial ?_
              have g25 : μc51 205 25 = μ 205 25 + 1 := by rw [hF.2 25 (by decide) (by decide) (by decide) (by decide)]; exact e1
              have hS2 := hS
              have hR2 := hR
              obtain ⟨s1, s2, s3, s4, s5, s6, s7, s8⟩ := hR2
              refine pm_iret rfl rfl ⟨_, rfl, by omega, by omega, hTc51, fun _ => ⟨⟨hR, by omega, by omega, zEm_trans (zE1_push hE (by omega) (by omega)) (zEm_fr hF), zFs_trans (zE1_s hE) (zFr_s hF)⟩, fun h3 => ⟨g25, ?_, ?_⟩⟩⟩
              · rw [hF.1 218 (by decide)]; omega
              · rw [hF.1 219 (by decide)]; omega
        · have h22 : μ 205 14 ≠ (3 : Int) := h22
          refine pm_blk hK zmm290 [] 2 39 [(2, 205), (0, 1)] [(0, 1), (2, 205)] μ [] rfl trivial ?_
          refine pm_call hK zmm290 (216, 0, 278, 1) zM278 (0, 0) [(2, 205), (0, 1)] [] rfl rfl rfl rfl ⟨by omega, by rw [zn278]; omega⟩ (zh_errs hK (k := 1) hT ⟨by omega, by omega⟩ hb205 ⟨Nat.le_refl _, Nat.le_refl _⟩) (fun st52 μc52 hp52 => ?_)
          obtain ⟨rfl, hTc52⟩ := hp52
          exact pm_iret rfl rfl ⟨_, rfl, by omega, by omega, hTc52, fun h => absurd rfl h⟩
end ZHW
