/-! F: the reference: a shop's evening; walks printed by program (wip/p30/pmgen.py) and filled by hand -/
section ZHW
variable {φ : Option pm_Mem}
variable {D : va_G} {Wm : Nat} {ST : List (String × String × String × Nat)} {b0 : sx_B} {l : Launch} {Sg : Nat → Option Nat} {bud : sx_Bu} {μ : pm_Mem} {B0 : Nat → Prop} {J : (Nat → Option Nat) → Heap → Prop}
set_option maxRecDepth 100000 in
theorem fr_isShut (hK : zKK ST) {s : Int} {th : Bool} (hth : fa_th th μ) {ls : List (Int × List zIw × List zIw)} (hL : fr_L μ 0 ls) (hT : zTJ φ μ) (hs : 0 ≤ s ∧ s ≤ 11) (hb206 : sx_bit Wm 206 = true) (hb210 : sx_bit Wm 210 = true) (hb224 : sx_bit Wm 224 = true) (hb225 : sx_bit Wm 225 = true) (hbd : 5 ≤ bud.1 ∧ 118 ≤ bud.2.1) : zC D Wm ST b0 l Sg zM315 bud [(2, 205), (0, s)] μ (fun st' μ' => st' = [] ∧ zTJ φ μ' ∧ (μ' 206, μ' 210) = fa_shut th (fr_law ls) (μ 209) (μ 205 7) s (μ 206, μ 210) ∧ (∀ r, r ≠ 206 → r ≠ 210 → r ≠ 224 → r ≠ 225 → μ' r = μ r)) := by
  have hF : (∀ r, r ≠ 206 → r ≠ 210 → r ≠ 224 → r ≠ 225 → μ r = μ r) := fun _ _ _ _ _ => rfl
  have f1 := zT_get hT zs206_52 (i := 52 + s) (by omega) (by omega)
  refine pm_blk hK zmm315 [78] 11 14 [(2, 205), (0, s), (0, (μ 206 (52 + s)) - 1)] [(0, (-1)), (0, (μ 206 (52 + s)) - 1)] μ [pm_in (52 + s), 0 ≤ 52 + s ∧ 52 + s < 160, pm_in ((μ 206 (52 + s)) - 1)] rfl ⟨pm_in_mk (by omega) (by omega), ⟨by omega, by omega⟩, pm_in_mk (by omega) (by omega), trivial⟩ ?_
  refine pm_icmp hK zmm315 .eq 35 49 rfl rfl (fun h0 => ?_) (fun h0 => ?_)
  · have h0 : (μ 206 (52 + s)) - 1 = ((-1) : Int) := h0
    refine pm_blk hK zmm315 [78] 2 51 [(2, 205), (0, s), (0, (μ 206 (52 + s)) - 1)] [(0, (-1)), (0, (μ 206 (52 + s)) - 1)] μ [] rfl trivial ?_
    refine pm_icmp hK zmm315 .ne 9 60 rfl rfl (fun h1 => ?_) (fun h1 => ?_)
    · have h1 : (μ 206 (52 + s)) - 1 ≠ ((-1) : Int) := h1
      have f2 := zT_get hT zs206_124 (i := 124 + ((μ 206 (52 + s)) - 1)) (by omega) (by omega)
      have w3 := zw32 ((μ 206 (124 + ((μ 206 (52 + s)) - 1))) + 1)
      refine pm_blk hK zmm315 [78] 14 80 [(2, 205), (0, s), (0, (μ 206 (52 + s)) - 1)] [] (pm_up μ 206 (124 + ((μ 206 (52 + s)) - 1)) (pm_w32 ((μ 206 (124 + ((μ 206 (52 + s)) - 1))) + 1))) [pm_in (124 + ((μ 206 (52 + s)) - 1)), pm_in (124 + ((μ 206 (52 + s)) - 1)), 0 ≤ 124 + ((μ 206 (52 + s)) - 1) ∧ 124 + ((μ 206 (52 + s)) - 1) < 160, sx_bit Wm 206 = true, 0 ≤ 124 + ((μ 206 (52 + s)) - 1) ∧ 124 + ((μ 206 (52 + s)) - 1) < 160] rfl ⟨pm_in_mk (by omega) (by omega), pm_in_mk (by omega) (by omega), ⟨by omega, by omega⟩, hb206, ⟨by omega, by omega⟩, trivial⟩ ?_
      obtain ⟨μ1, eμ1⟩ : ∃ μ', μ' = pm_up μ 206 (124 + ((μ 206 (52 + s)) - 1)) (pm_w32 ((μ 206 (124 + ((μ 206 (52 + s)) - 1))) + 1)) := ⟨_, rfl⟩
      rw [← eμ1]
      have hTμ1 : zTJ φ μ1 := by rw [eμ1]; exact zT_up hT zs206_124 rfl (i := 124 + ((μ 206 (52 + s)) - 1)) (by omega) (by omega) (by omega) (by omega)
      have n1 : μ1 206 = fa_up (μ 206) (124 + ((μ 206 (52 + s)) - 1)) (pm_w32 (μ 206 (124 + ((μ 206 (52 + s)) - 1)) + 1)) := by rw [eμ1, fa_pm]
      have b1 : μ1 210 = μ 210 := by rw [eμ1, pm_up_row (by decide)]
      have hF : (∀ r, r ≠ 206 → r ≠ 210 → r ≠ 224 → r ≠ 225 → μ1 r = μ r) := fun r a b c d => ((by rw [eμ1, pm_up_row a] : μ1 r = μ r)).trans (hF r a b c d)
      have hPP : ∀ v : fa_St, v = fa_note th 3 ((μ 206 (52 + s)) - 1) s (fa_up (fa_up (fa_up (μ 206) (124 + ((μ 206 (52 + s)) - 1)) (pm_w32 (μ 206 (124 + ((μ 206 (52 + s)) - 1)) + 1))) (40 + s) 1) (76 + s) 0, μ 210) → v = fa_pole th ((μ 206 (52 + s)) - 1) s (μ 206, μ 210) := fun _ h => h
      refine pm_blk hK zmm315 [78] 7 90 [(2, 205), (0, s), (0, (μ 206 (52 + s)) - 1)] [] (pm_up μ1 206 (40 + s) 1) [pm_in (40 + s), sx_bit Wm 206 = true, 0 ≤ 40 + s ∧ 40 + s < 160] rfl ⟨pm_in_mk (by omega) (by omega), hb206, ⟨by omega, by omega⟩, trivial⟩ ?_
      obtain ⟨μ2, eμ2⟩ : ∃ μ', μ' = pm_up μ1 206 (40 + s) 1 := ⟨_, rfl⟩
      rw [← eμ2]
      have hTμ2 : zTJ φ μ2 := by rw [eμ2]; exact zT_up hTμ1 zs206_40 rfl (i := 40 + s) (by omega) (by omega) (by omega) (by omega)
      have n2 : μ2 206 = fa_up (μ1 206) (40 + s) 1 := by rw [eμ2, fa_pm]
      have b2 : μ2 210 = μ1 210 := by rw [eμ2, pm_up_row (by decide)]
      have hF : (∀ r, r ≠ 206 → r ≠ 210 → r ≠ 224 → r ≠ 225 → μ2 r = μ r) := fun r a b c d => ((by rw [eμ2, pm_up_row a] : μ2 r = μ1 r)).trans (hF r a b c d)
      refine pm_blk hK zmm315 [78] 7 100 [(2, 205), (0, s), (0, (μ 206 (52 + s)) - 1)] [] (pm_up μ2 206 (76 + s) 0) [pm_in (76 + s), sx_bit Wm 206 = true, 0 ≤ 76 + s ∧ 76 + s < 160] rfl ⟨pm_in_mk (by omega) (by omega), hb206, ⟨by omega, by omega⟩, trivial⟩ ?_
      obtain ⟨μ3, eμ3⟩ : ∃ μ', μ' = pm_up μ2 206 (76 + s) 0 := ⟨_, rfl⟩
      rw [← eμ3]
      have hTμ3 : zTJ φ μ3 := by rw [eμ3]; exact zT_up hTμ2 zs206_76 rfl (i := 76 + s) (by omega) (by omega) (by omega) (by omega)
      have n3 : μ3 206 = fa_up (μ2 206) (76 + s) 0 := by rw [eμ3, fa_pm]
      have b3 : μ3 210 = μ2 210 := by rw [eμ3, pm_up_row (by decide)]
      have hF : (∀ r, r ≠ 206 → r ≠ 210 → r ≠ 224 → r ≠ 225 → μ3 r = μ r) := fun r a b c d => ((by rw [eμ3, pm_up_row a] : μ3 r = μ2 r)).trans (hF r a b c d)
      refine pm_blk hK zmm315 [78] 4 104 [(2, 205), (0, s), (0, (μ 206 (52 + s)) - 1)] [(0, s), (0, (μ 206 (52 + s)) - 1), (0, 3), (2, 205)] μ3 [] rfl trivial ?_
      have hthc := fa_th_r hth (hF 205 (by decide) (by decide) (by decide) (by decide))
      refine pm_call hK zmm315 (352, 0, 310, 3) zM310 (0, 0) [(2, 205), (0, 3), (0, (μ 206 (52 + s)) - 1), (0, s)] [] rfl rfl rfl rfl ⟨by omega, by rw [zn310]; omega⟩ (fr_note hK (th := th) (k := 3) (w := ((μ 206 (52 + s)) - 1)) (v := s) hthc hTμ3 ⟨by omega, by omega⟩ ⟨by omega, by omega⟩ ⟨by omega, by omega⟩ hb206 hb210 ⟨Nat.le_refl _, Nat.le_refl _⟩) (fun st1 μc1 hp1 => ?_)
      obtain ⟨rfl, hTc1, hn1, hf1⟩ := hp1
      have hnn := hn1
      have hF : (∀ r, r ≠ 206 → r ≠ 210 → r ≠ 224 → r ≠ 225 → μc1 r = μ r) := fun r a b c d => (hf1 r a b).trans (hF r a b c d)
      have hP := hPP (μc1 206, μc1 210) (by rw [hnn, n3, n2, n1, b3, b2, b1])
      first
      | omega
      | exact pm_vret rfl rfl ⟨rfl, hTc1, hP.trans ((fa_one_n (by omega)).symm.trans (fa_shut_y (by omega) (hsoe.symm.trans (fa_b1 (by assumption))) hN1).symm), hF⟩
      | exact pm_vret rfl rfl ⟨rfl, hTc1, hP.trans (by rw [hso2, hB]; exact (fa_shut_n (by omega) (fun c => fa_b0 (by assumption) (hsoe.trans c))).symm), hF⟩
      | (exfalso; omega)
    · have h1 : (μ 206 (52 + s)) - 1 = ((-1) : Int) := h1
      refine pm_blk hK zmm315 [78] 2 56 [(2, 205), (0, s), (0, (μ 206 (52 + s)) - 1)] [(0, s), (2, 205)] μ [] rfl trivial ?_
      have hthc := fa_th_r hth (hF 205 (by decide) (by decide) (by decide) (by decide))
      refine pm_call hK zmm315 (389, 0, 317, 1) zM317 (1, 24) [(2, 205), (0, s)] [] rfl rfl rfl rfl ⟨by omega, by rw [zn317]; omega⟩ (fr_stays hK (th := th) (s := s) hthc hT ⟨by omega, by omega⟩ hb206 hb210 ⟨Nat.le_refl _, Nat.le_refl _⟩) (fun st2 μc2 hp2 => ?_)
      obtain ⟨rfl, hTc2, hn2, hf2⟩ := hp2
      have hst := hn2
      have hF : (∀ r, r ≠ 206 → r ≠ 210 → r ≠ 224 → r ≠ 225 → μc2 r = μ r) := fun r a b c d => (hf2 r a b).trans (hF r a b c d)
      first
      | omega
      | exact pm_vret rfl rfl ⟨rfl, hTc2, hst.trans (fa_shut_0 (by omega)).symm, hF⟩
      | exact pm_vret rfl rfl ⟨rfl, hTc2, hst.trans ((fa_one_y (by omega)).symm.trans (fa_shut_y (by omega) (hsoe.symm.trans (fa_b1 (by assumption))) hN1).symm), hF⟩
      | (exfalso; omega)
  · have h0 : (μ 206 (52 + s)) - 1 ≠ ((-1) : Int) := h0
    refine pm_blk hK zmm315 [78] 4 21 [(2, 205), (0, s), (0, (μ 206 (52 + s)) - 1)] [(0, s), (0, (μ 206 (52 + s)) - 1), (2, 205), (2, 205)] μ [] rfl trivial ?_
    refine pm_call hK zmm315 (383, 0, 316, 2) zM316 (4, 94) [(2, 205), (0, (μ 206 (52 + s)) - 1), (0, s)] [(2, 205)] rfl rfl rfl rfl ⟨by omega, by rw [zn316]; omega⟩ (fr_yieldsOf hK (ls := ls) (c := ((μ 206 (52 + s)) - 1)) (s := s) rfl rfl rfl hL hT ⟨by omega, by omega⟩ ⟨by omega, by omega⟩ hb224 hb225 ⟨Nat.le_refl _, Nat.le_refl _⟩) (fun st3 μc3 hp3 => ?_)
    obtain ⟨rfl, hTc3, hf3⟩ := hp3
    have e206 := hf3 206 (by decide) (by decide)
    have hB := hf3 210 (by decide) (by decide)
    have hyb := fa_yields_b (t := fr_law ls) (N := μ 206) (pol := μ 209) (m := μ 205 7) (c := μ 206 (52 + s) - 1) (s := s)
    have hsoe : fa_so th (fa_yields (fr_law ls) (μ 206) (μ 209) (μ 205 7) (μ 206 (52 + s) - 1) s) (μc3 206) = fa_so th (fa_yields (fr_law ls) (μ 206) (μ 209) (μ 205 7) (μ 206 (52 + s) - 1) s) (μ 206) := by rw [e206]
    have hF : (∀ r, r ≠ 206 → r ≠ 210 → r ≠ 224 → r ≠ 225 → μc3 r = μ r) := fun r a b c d => (hf3 r c d).trans (hF r a b c d)
    have hthc := fa_th_r hth (hF 205 (by decide) (by decide) (by decide) (by decide))
    refine pm_call hK zmm315 (386, 0, 313, 1) zM313 (1, 24) [(2, 205), (0, fa_yields (fr_law ls) (μ 206) (μ 209) (μ 205 7) (((μ 206 (52 + s)) - 1)) (s))] [] rfl rfl rfl rfl ⟨by omega, by rw [zn313]; omega⟩ (fr_happens hK (th := th) (o := (fa_yields (fr_law ls) (μ 206) (μ 209) (μ 205 7) (((μ 206 (52 + s)) - 1)) (s))) hthc hTc3 ⟨hyb.1, hyb.2⟩ hb206 ⟨Nat.le_refl _, Nat.le_refl _⟩) (fun st4 μc4 hp4 => ?_)
    obtain ⟨rfl, hTc4, hn4, hf4⟩ := hp4
    have hso2 : μc4 206 = fa_soN th (fa_yields (fr_law ls) (μ 206) (μ 209) (μ 205 7) (μ 206 (52 + s) - 1) s) (μ 206) := hn4.trans (by rw [e206])
    have hB := (hf4 210 (by decide)).trans hB
    have hF : (∀ r, r ≠ 206 → r ≠ 210 → r ≠ 224 → r ≠ 225 → μc4 r = μ r) := fun r a b c d => (hf4 r a).trans (hF r a b c d)
    refine pm_if hK zmm315 .eq 22 49 rfl rfl (fun h2 => ?_) (fun h2 => ?_)
    · have h2 : (if fa_so th ((fa_yields (fr_law ls) (μ 206) (μ 209) (μ 205 7) (((μ 206 (52 + s)) - 1)) (s))) (μc3 206) = true then 1 else 0 : Int) = (0 : Int) := h2
      have h2 := zif0 h2
      refine pm_blk hK zmm315 [78] 2 51 [(2, 205), (0, s), (0, (μ 206 (52 + s)) - 1)] [(0, (-1)), (0, (μ 206 (52 + s)) - 1)] μc4 [] rfl trivial ?_
      refine pm_icmp hK zmm315 .ne 9 60 rfl rfl (fun h3 => ?_) (fun h3 => ?_)
      · have h3 : (μ 206 (52 + s)) - 1 ≠ ((-1) : Int) := h3
        have f4 := zT_get hTc4 zs206_124 (i := 124 + ((μ 206 (52 + s)) - 1)) (by omega) (by omega)
        have w5 := zw32 ((μc4 206 (124 + ((μ 206 (52 + s)) - 1))) + 1)
        refine pm_blk hK zmm315 [78] 14 80 [(2, 205), (0, s), (0, (μ 206 (52 + s)) - 1)] [] (pm_up μc4 206 (124 + ((μ 206 (52 + s)) - 1)) (pm_w32 ((μc4 206 (124 + ((μ 206 (52 + s)) - 1))) + 1))) [pm_in (124 + ((μ 206 (52 + s)) - 1)), pm_in (124 + ((μ 206 (52 + s)) - 1)), 0 ≤ 124 + ((μ 206 (52 + s)) - 1) ∧ 124 + ((μ 206 (52 + s)) - 1) < 160, sx_bit Wm 206 = true, 0 ≤ 124 + ((μ 206 (52 + s)) - 1) ∧ 124 + ((μ 206 (52 + s)) - 1) < 160] rfl ⟨pm_in_mk (by omega) (by omega), pm_in_mk (by omega) (by omega), ⟨by omega, by omega⟩, hb206, ⟨by omega, by omega⟩, trivial⟩ ?_
        obtain ⟨μ4, eμ4⟩ : ∃ μ', μ' = pm_up μc4 206 (124 + ((μ 206 (52 + s)) - 1)) (pm_w32 ((μc4 206 (124 + ((μ 206 (52 + s)) - 1))) + 1)) := ⟨_, rfl⟩
        rw [← eμ4]
        have hTμ4 : zTJ φ μ4 := by rw [eμ4]; exact zT_up hTc4 zs206_124 rfl (i := 124 + ((μ 206 (52 + s)) - 1)) (by omega) (by omega) (by omega) (by omega)
        have n1 : μ4 206 = fa_up (μc4 206) (124 + ((μ 206 (52 + s)) - 1)) (pm_w32 (μc4 206 (124 + ((μ 206 (52 + s)) - 1)) + 1)) := by rw [eμ4, fa_pm]
        have b1 : μ4 210 = μc4 210 := by rw [eμ4, pm_up_row (by decide)]
        have hF : (∀ r, r ≠ 206 → r ≠ 210 → r ≠ 224 → r ≠ 225 → μ4 r = μ r) := fun r a b c d => ((by rw [eμ4, pm_up_row a] : μ4 r = μc4 r)).trans (hF r a b c d)
        have hPP : ∀ v : fa_St, v = fa_note th 3 ((μ 206 (52 + s)) - 1) s (fa_up (fa_up (fa_up (μc4 206) (124 + ((μ 206 (52 + s)) - 1)) (pm_w32 (μc4 206 (124 + ((μ 206 (52 + s)) - 1)) + 1))) (40 + s) 1) (76 + s) 0, μc4 210) → v = fa_pole th ((μ 206 (52 + s)) - 1) s (μc4 206, μc4 210) := fun _ h => h
        refine pm_blk hK zmm315 [78] 7 90 [(2, 205), (0, s), (0, (μ 206 (52 + s)) - 1)] [] (pm_up μ4 206 (40 + s) 1) [pm_in (40 + s), sx_bit Wm 206 = true, 0 ≤ 40 + s ∧ 40 + s < 160] rfl ⟨pm_in_mk (by omega) (by omega), hb206, ⟨by omega, by omega⟩, trivial⟩ ?_
        obtain ⟨μ5, eμ5⟩ : ∃ μ', μ' = pm_up μ4 206 (40 + s) 1 := ⟨_, rfl⟩
        rw [← eμ5]
        have hTμ5 : zTJ φ μ5 := by rw [eμ5]; exact zT_up hTμ4 zs206_40 rfl (i := 40 + s) (by omega) (by omega) (by omega) (by omega)
        have n2 : μ5 206 = fa_up (μ4 206) (40 + s) 1 := by rw [eμ5, fa_pm]
        have b2 : μ5 210 = μ4 210 := by rw [eμ5, pm_up_row (by decide)]
        have hF : (∀ r, r ≠ 206 → r ≠ 210 → r ≠ 224 → r ≠ 225 → μ5 r = μ r) := fun r a b c d => ((by rw [eμ5, pm_up_row a] : μ5 r = μ4 r)).trans (hF r a b c d)
        refine pm_blk hK zmm315 [78] 7 100 [(2, 205), (0, s), (0, (μ 206 (52 + s)) - 1)] [] (pm_up μ5 206 (76 + s) 0) [pm_in (76 + s), sx_bit Wm 206 = true, 0 ≤ 76 + s ∧ 76 + s < 160] rfl ⟨pm_in_mk (by omega) (by omega), hb206, ⟨by omega, by omega⟩, trivial⟩ ?_
        obtain ⟨μ6, eμ6⟩ : ∃ μ', μ' = pm_up μ5 206 (76 + s) 0 := ⟨_, rfl⟩
        rw [← eμ6]
        have hTμ6 : zTJ φ μ6 := by rw [eμ6]; exact zT_up hTμ5 zs206_76 rfl (i := 76 + s) (by omega) (by omega) (by omega) (by omega)
        have n3 : μ6 206 = fa_up (μ5 206) (76 + s) 0 := by rw [eμ6, fa_pm]
        have b3 : μ6 210 = μ5 210 := by rw [eμ6, pm_up_row (by decide)]
        have hF : (∀ r, r ≠ 206 → r ≠ 210 → r ≠ 224 → r ≠ 225 → μ6 r = μ r) := fun r a b c d => ((by rw [eμ6, pm_up_row a] : μ6 r = μ5 r)).trans (hF r a b c d)
        refine pm_blk hK zmm315 [78] 4 104 [(2, 205), (0, s), (0, (μ 206 (52 + s)) - 1)] [(0, s), (0, (μ 206 (52 + s)) - 1), (0, 3), (2, 205)] μ6 [] rfl trivial ?_
        have hthc := fa_th_r hth (hF 205 (by decide) (by decide) (by decide) (by decide))
        refine pm_call hK zmm315 (352, 0, 310, 3) zM310 (0, 0) [(2, 205), (0, 3), (0, (μ 206 (52 + s)) - 1), (0, s)] [] rfl rfl rfl rfl ⟨by omega, by rw [zn310]; omega⟩ (fr_note hK (th := th) (k := 3) (w := ((μ 206 (52 + s)) - 1)) (v := s) hthc hTμ6 ⟨by omega, by omega⟩ ⟨by omega, by omega⟩ ⟨by omega, by omega⟩ hb206 hb210 ⟨Nat.le_refl _, Nat.le_refl _⟩) (fun st5 μc5 hp5 => ?_)
        obtain ⟨rfl, hTc5, hn5, hf5⟩ := hp5
        have hnn := hn5
        have hF : (∀ r, r ≠ 206 → r ≠ 210 → r ≠ 224 → r ≠ 225 → μc5 r = μ r) := fun r a b c d => (hf5 r a b).trans (hF r a b c d)
        have hP := hPP (μc5 206, μc5 210) (by rw [hnn, n3, n2, n1, b3, b2, b1])
        first
        | omega
        | exact pm_vret rfl rfl ⟨rfl, hTc5, hP.trans ((fa_one_n (by omega)).symm.trans (fa_shut_y (by omega) (hsoe.symm.trans (fa_b1 (by assumption))) hN1).symm), hF⟩
        | exact pm_vret rfl rfl ⟨rfl, hTc5, hP.trans (by rw [hso2, hB]; exact (fa_shut_n (by omega) (fun c => fa_b0 (by assumption) (hsoe.trans c))).symm), hF⟩
        | (exfalso; omega)
      · have h3 : (μ 206 (52 + s)) - 1 = ((-1) : Int) := h3
        refine pm_blk hK zmm315 [78] 2 56 [(2, 205), (0, s), (0, (μ 206 (52 + s)) - 1)] [(0, s), (2, 205)] μc4 [] rfl trivial ?_
        have hthc := fa_th_r hth (hF 205 (by decide) (by decide) (by decide) (by decide))
        refine pm_call hK zmm315 (389, 0, 317, 1) zM317 (1, 24) [(2, 205), (0, s)] [] rfl rfl rfl rfl ⟨by omega, by rw [zn317]; omega⟩ (fr_stays hK (th := th) (s := s) hthc hTc4 ⟨by omega, by omega⟩ hb206 hb210 ⟨Nat.le_refl _, Nat.le_refl _⟩) (fun st6 μc6 hp6 => ?_)
        obtain ⟨rfl, hTc6, hn6, hf6⟩ := hp6
        have hst := hn6
        have hF : (∀ r, r ≠ 206 → r ≠ 210 → r ≠ 224 → r ≠ 225 → μc6 r = μ r) := fun r a b c d => (hf6 r a b).trans (hF r a b c d)
        first
        | omega
        | exact pm_vret rfl rfl ⟨rfl, hTc6, hst.trans (fa_shut_0 (by omega)).symm, hF⟩
        | exact pm_vret rfl rfl ⟨rfl, hTc6, hst.trans ((fa_one_y (by omega)).symm.trans (fa_shut_y (by omega) (hsoe.symm.trans (fa_b1 (by assumption))) hN1).symm), hF⟩
        | (exfalso; omega)
    · have h2 : (if fa_so th ((fa_yields (fr_law ls) (μ 206) (μ 209) (μ 205 7) (((μ 206 (52 + s)) - 1)) (s))) (μc3 206) = true then 1 else 0 : Int) ≠ (0 : Int) := h2
      have h2 := zif1 h2
      refine pm_blk hK zmm315 [78] 4 34 [(2, 205), (0, s), (0, (μ 206 (52 + s)) - 1)] [(0, s), (0, (μ 206 (52 + s)) - 1), (0, 2), (2, 205)] μc4 [] rfl trivial ?_
      have hthc := fa_th_r hth (hF 205 (by decide) (by decide) (by decide) (by decide))
      refine pm_call hK zmm315 (352, 0, 310, 3) zM310 (0, 0) [(2, 205), (0, 2), (0, (μ 206 (52 + s)) - 1), (0, s)] [] rfl rfl rfl rfl ⟨by omega, by rw [zn310]; omega⟩ (fr_note hK (th := th) (k := 2) (w := ((μ 206 (52 + s)) - 1)) (v := s) hthc hTc4 ⟨by omega, by omega⟩ ⟨by omega, by omega⟩ ⟨by omega, by omega⟩ hb206 hb210 ⟨Nat.le_refl _, Nat.le_refl _⟩) (fun st7 μc7 hp7 => ?_)
      obtain ⟨rfl, hTc7, hn7, hf7⟩ := hp7
      have hnn := hn7
      have hF : (∀ r, r ≠ 206 → r ≠ 210 → r ≠ 224 → r ≠ 225 → μc7 r = μ r) := fun r a b c d => (hf7 r a b).trans (hF r a b c d)
      have hN1 : (μc7 206, μc7 210) = fa_note th 2 (μ 206 (52 + s) - 1) s (fa_soN th (fa_yields (fr_law ls) (μ 206) (μ 209) (μ 205 7) (μ 206 (52 + s) - 1) s) (μ 206), μ 210) := by rw [hnn, hso2, hB]
      have f6 := zT_get hTc7 zs206_52 (i := 64 + s) (by omega) (by omega)
      refine pm_blk hK zmm315 [78] 11 51 [(2, 205), (0, s), (0, (μc7 206 (64 + s)) - 1)] [(0, (-1)), (0, (μc7 206 (64 + s)) - 1)] μc7 [pm_in (64 + s), 0 ≤ 64 + s ∧ 64 + s < 160, pm_in ((μc7 206 (64 + s)) - 1)] rfl ⟨pm_in_mk (by omega) (by omega), ⟨by omega, by omega⟩, pm_in_mk (by omega) (by omega), trivial⟩ ?_
      refine pm_icmp hK zmm315 .ne 9 60 rfl rfl (fun h4 => ?_) (fun h4 => ?_)
      · have h4 : (μc7 206 (64 + s)) - 1 ≠ ((-1) : Int) := h4
        have f7 := zT_get hTc7 zs206_124 (i := 124 + ((μc7 206 (64 + s)) - 1)) (by omega) (by omega)
        have w8 := zw32 ((μc7 206 (124 + ((μc7 206 (64 + s)) - 1))) + 1)
        refine pm_blk hK zmm315 [78] 14 80 [(2, 205), (0, s), (0, (μc7 206 (64 + s)) - 1)] [] (pm_up μc7 206 (124 + ((μc7 206 (64 + s)) - 1)) (pm_w32 ((μc7 206 (124 + ((μc7 206 (64 + s)) - 1))) + 1))) [pm_in (124 + ((μc7 206 (64 + s)) - 1)), pm_in (124 + ((μc7 206 (64 + s)) - 1)), 0 ≤ 124 + ((μc7 206 (64 + s)) - 1) ∧ 124 + ((μc7 206 (64 + s)) - 1) < 160, sx_bit Wm 206 = true, 0 ≤ 124 + ((μc7 206 (64 + s)) - 1) ∧ 124 + ((μc7 206 (64 + s)) - 1) < 160] rfl ⟨pm_in_mk (by omega) (by omega), pm_in_mk (by omega) (by omega), ⟨by omega, by omega⟩, hb206, ⟨by omega, by omega⟩, trivial⟩ ?_
        obtain ⟨μ7, eμ7⟩ : ∃ μ', μ' = pm_up μc7 206 (124 + ((μc7 206 (64 + s)) - 1)) (pm_w32 ((μc7 206 (124 + ((μc7 206 (64 + s)) - 1))) + 1)) := ⟨_, rfl⟩
        rw [← eμ7]
        have hTμ7 : zTJ φ μ7 := by rw [eμ7]; exact zT_up hTc7 zs206_124 rfl (i := 124 + ((μc7 206 (64 + s)) - 1)) (by omega) (by omega) (by omega) (by omega)
        have n1 : μ7 206 = fa_up (μc7 206) (124 + ((μc7 206 (64 + s)) - 1)) (pm_w32 (μc7 206 (124 + ((μc7 206 (64 + s)) - 1)) + 1)) := by rw [eμ7, fa_pm]
        have b1 : μ7 210 = μc7 210 := by rw [eμ7, pm_up_row (by decide)]
        have hF : (∀ r, r ≠ 206 → r ≠ 210 → r ≠ 224 → r ≠ 225 → μ7 r = μ r) := fun r a b c d => ((by rw [eμ7, pm_up_row a] : μ7 r = μc7 r)).trans (hF r a b c d)
        have hPP : ∀ v : fa_St, v = fa_note th 3 ((μc7 206 (64 + s)) - 1) s (fa_up (fa_up (fa_up (μc7 206) (124 + ((μc7 206 (64 + s)) - 1)) (pm_w32 (μc7 206 (124 + ((μc7 206 (64 + s)) - 1)) + 1))) (40 + s) 1) (76 + s) 0, μc7 210) → v = fa_pole th ((μc7 206 (64 + s)) - 1) s (μc7 206, μc7 210) := fun _ h => h
        refine pm_blk hK zmm315 [78] 7 90 [(2, 205), (0, s), (0, (μc7 206 (64 + s)) - 1)] [] (pm_up μ7 206 (40 + s) 1) [pm_in (40 + s), sx_bit Wm 206 = true, 0 ≤ 40 + s ∧ 40 + s < 160] rfl ⟨pm_in_mk (by omega) (by omega), hb206, ⟨by omega, by omega⟩, trivial⟩ ?_
        obtain ⟨μ8, eμ8⟩ : ∃ μ', μ' = pm_up μ7 206 (40 + s) 1 := ⟨_, rfl⟩
        rw [← eμ8]
        have hTμ8 : zTJ φ μ8 := by rw [eμ8]; exact zT_up hTμ7 zs206_40 rfl (i := 40 + s) (by omega) (by omega) (by omega) (by omega)
        have n2 : μ8 206 = fa_up (μ7 206) (40 + s) 1 := by rw [eμ8, fa_pm]
        have b2 : μ8 210 = μ7 210 := by rw [eμ8, pm_up_row (by decide)]
        have hF : (∀ r, r ≠ 206 → r ≠ 210 → r ≠ 224 → r ≠ 225 → μ8 r = μ r) := fun r a b c d => ((by rw [eμ8, pm_up_row a] : μ8 r = μ7 r)).trans (hF r a b c d)
        refine pm_blk hK zmm315 [78] 7 100 [(2, 205), (0, s), (0, (μc7 206 (64 + s)) - 1)] [] (pm_up μ8 206 (76 + s) 0) [pm_in (76 + s), sx_bit Wm 206 = true, 0 ≤ 76 + s ∧ 76 + s < 160] rfl ⟨pm_in_mk (by omega) (by omega), hb206, ⟨by omega, by omega⟩, trivial⟩ ?_
        obtain ⟨μ9, eμ9⟩ : ∃ μ', μ' = pm_up μ8 206 (76 + s) 0 := ⟨_, rfl⟩
        rw [← eμ9]
        have hTμ9 : zTJ φ μ9 := by rw [eμ9]; exact zT_up hTμ8 zs206_76 rfl (i := 76 + s) (by omega) (by omega) (by omega) (by omega)
        have n3 : μ9 206 = fa_up (μ8 206) (76 + s) 0 := by rw [eμ9, fa_pm]
        have b3 : μ9 210 = μ8 210 := by rw [eμ9, pm_up_row (by decide)]
        have hF : (∀ r, r ≠ 206 → r ≠ 210 → r ≠ 224 → r ≠ 225 → μ9 r = μ r) := fun r a b c d => ((by rw [eμ9, pm_up_row a] : μ9 r = μ8 r)).trans (hF r a b c d)
        refine pm_blk hK zmm315 [78] 4 104 [(2, 205), (0, s), (0, (μc7 206 (64 + s)) - 1)] [(0, s), (0, (μc7 206 (64 + s)) - 1), (0, 3), (2, 205)] μ9 [] rfl trivial ?_
        have hthc := fa_th_r hth (hF 205 (by decide) (by decide) (by decide) (by decide))
        refine pm_call hK zmm315 (352, 0, 310, 3) zM310 (0, 0) [(2, 205), (0, 3), (0, (μc7 206 (64 + s)) - 1), (0, s)] [] rfl rfl rfl rfl ⟨by omega, by rw [zn310]; omega⟩ (fr_note hK (th := th) (k := 3) (w := ((μc7 206 (64 + s)) - 1)) (v := s) hthc hTμ9 ⟨by omega, by omega⟩ ⟨by omega, by omega⟩ ⟨by omega, by omega⟩ hb206 hb210 ⟨Nat.le_refl _, Nat.le_refl _⟩) (fun st8 μc8 hp8 => ?_)
        obtain ⟨rfl, hTc8, hn8, hf8⟩ := hp8
        have hnn := hn8
        have hF : (∀ r, r ≠ 206 → r ≠ 210 → r ≠ 224 → r ≠ 225 → μc8 r = μ r) := fun r a b c d => (hf8 r a b).trans (hF r a b c d)
        have hP := hPP (μc8 206, μc8 210) (by rw [hnn, n3, n2, n1, b3, b2, b1])
        first
        | omega
        | exact pm_vret rfl rfl ⟨rfl, hTc8, hP.trans ((fa_one_n (by omega)).symm.trans (fa_shut_y (by omega) (hsoe.symm.trans (fa_b1 (by assumption))) hN1).symm), hF⟩
        | exact pm_vret rfl rfl ⟨rfl, hTc8, hP.trans (by rw [hso2, hB]; exact (fa_shut_n (by omega) (fun c => fa_b0 (by assumption) (hsoe.trans c))).symm), hF⟩
        | (exfalso; omega)
      · have h4 : (μc7 206 (64 + s)) - 1 = ((-1) : Int) := h4
        refine pm_blk hK zmm315 [78] 2 56 [(2, 205), (0, s), (0, (μc7 206 (64 + s)) - 1)] [(0, s), (2, 205)] μc7 [] rfl trivial ?_
        have hthc := fa_th_r hth (hF 205 (by decide) (by decide) (by decide) (by decide))
        refine pm_call hK zmm315 (389, 0, 317, 1) zM317 (1, 24) [(2, 205), (0, s)] [] rfl rfl rfl rfl ⟨by omega, by rw [zn317]; omega⟩ (fr_stays hK (th := th) (s := s) hthc hTc7 ⟨by omega, by omega⟩ hb206 hb210 ⟨Nat.le_refl _, Nat.le_refl _⟩) (fun st9 μc9 hp9 => ?_)
        obtain ⟨rfl, hTc9, hn9, hf9⟩ := hp9
        have hst := hn9
        have hF : (∀ r, r ≠ 206 → r ≠ 210 → r ≠ 224 → r ≠ 225 → μc9 r = μ r) := fun r a b c d => (hf9 r a b).trans (hF r a b c d)
        first
        | omega
        | exact pm_vret rfl rfl ⟨rfl, hTc9, hst.trans (fa_shut_0 (by omega)).symm, hF⟩
        | exact pm_vret rfl rfl ⟨rfl, hTc9, hst.trans ((fa_one_y (by omega)).symm.trans (fa_shut_y (by omega) (hsoe.symm.trans (fa_b1 (by assumption))) hN1).symm), hF⟩
        | (exfalso; omega)
end ZHW
