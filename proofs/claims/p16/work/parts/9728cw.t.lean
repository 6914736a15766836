/-! F: CHEAPLY, the class; walks printed by program (wip/p30/pmgen.py) and filled by hand -/
section ZHW
variable {φ : Option pm_Mem}
variable {D : va_G} {Wm : Nat} {ST : List (String × String × String × Nat)} {b0 : sx_B} {l : Launch} {Sg : Nat → Option Nat} {bud : sx_Bu} {μ : pm_Mem} {B0 : Nat → Prop} {J : (Nat → Option Nat) → Heap → Prop}
set_option maxRecDepth 100000 in
theorem ch_fi2 (hK : zKK ST) {X : Nat → List pm_V → List pm_V → pm_Mem → Prop} {μ0 : pm_Mem} {N pol : Int → Int} {n m : Int} (hA : fa_A 3 n m N pol μ0) (hn0 : 0 ≤ n) (hm0 : 0 ≤ m) (hq : n ≤ 12 ∧ m ≤ 18) (hI : fa_I n m N) {ls : List (Int × List zIw × List zIw)} (hL : fc_L (μ0 17 2) (μ0 18) (μ0 19) 0 ls) (hl16 : μ0 17 2 ≤ 16) (hG : ∀ q ∈ zGT, sx_gtok zCDs (zAS ST) zTB Sg q) (hb195 : sx_bit Wm 195 = true) (hb196 : sx_bit Wm 196 = true) (hb197 : sx_bit Wm 197 = true) (hb178 : sx_bit Wm 178 = true) (hb179 : sx_bit Wm 179 = true) {ν : pm_Mem} {c : Int} (hc : 0 ≤ c ∧ c < m) (K : ∀ (μ : pm_Mem), zTJ φ μ → (∀ r, r ≠ 195 → r ≠ 196 → r ≠ 197 → r ≠ 178 → r ≠ 179 → μ r = μ0 r) → μ 195 2 = (((ch_wt n N 8) : Nat) : Int) → μ 196 = ν 196 → (∀ t : Nat, t < 8 → μ 197 (t : Int) = (if (ch_wt n N 8).testBit t = true then (ch_w1 (fun c s : Nat => fa_costs (fr_law ls) N pol m (c : Int) (s : Int)) (fun c s : Nat => decide (fa_costs (fr_law ls) N pol m (c : Int) (s : Int) ≤ N (88 + (c : Int))))) c.toNat t else 1000000000000000)) → (∀ t : Nat, t < 8 → 0 ≤ μ 197 (t : Int) ∧ μ 197 (t : Int) ≤ 1000000000000000) → zW D Wm ST b0 l Sg zM63 bud X 134 [(2, 195), (2, 3), (2, 17), (2, 177), (0, c), (9, 0), (9, 0)] [] μ) (hbd : 4 ≤ bud.1 ∧ 96 ≤ bud.2.1) : ∀ (nM : Nat) {s : Int} {μ : pm_Mem}, (8 - s).toNat = nM → ∀ (hs : 0 ≤ s ∧ s ≤ 8) (hT : zTJ φ μ) (hf : (∀ r, r ≠ 195 → r ≠ 196 → r ≠ 197 → r ≠ 178 → r ≠ 179 → μ r = μ0 r)) (hwd : μ 195 2 = (((ch_wt n N 8) : Nat) : Int)) (h196 : μ 196 = ν 196) (hwt : ∀ t : Nat, (t : Int) < s → μ 197 (t : Int) = (if (ch_wt n N 8).testBit t = true then (ch_w1 (fun c s : Nat => fa_costs (fr_law ls) N pol m (c : Int) (s : Int)) (fun c s : Nat => decide (fa_costs (fr_law ls) N pol m (c : Int) (s : Int) ≤ N (88 + (c : Int))))) c.toNat t else 1000000000000000)) (hwb : ∀ t : Nat, t < 8 → (t : Int) < s → 0 ≤ μ 197 (t : Int) ∧ μ 197 (t : Int) ≤ 1000000000000000), zW D Wm ST b0 l Sg zM63 bud X 40 [(2, 195), (2, 3), (2, 17), (2, 177), (0, c), (0, s), (9, 0)] [] μ := by
  intro nM
  induction nM using Nat.strongRecOn with
  | ind nM ih =>
    intro s μ hn hs hT hf hwd h196 hwt hwb
    have hA1 : fa_A 3 n m N pol μ := fa_A_fr hA (fun r h1 h2 => hf r (by omega) (by omega) (by omega) (by omega) (by omega))
    have a1 : μ 3 1 = m := hA1.1.2.1
    have hL1 : fc_L (μ 17 2) (μ 18) (μ 19) 0 ls := by rw [hf 17 (by decide) (by decide) (by decide) (by decide) (by decide), hf 18 (by decide) (by decide) (by decide) (by decide) (by decide), hf 19 (by decide) (by decide) (by decide) (by decide) (by decide)]; exact hL
    have hl1 : μ 17 2 ≤ 16 := by rw [hf 17 (by decide) (by decide) (by decide) (by decide) (by decide)]; exact hl16
    have es : ((s.toNat : Nat) : Int) = s := by omega
    have ec : ((c.toNat : Nat) : Int) = c := by omega
    have hw8 := ch_wt_8 n N
    refine pm_blk hK zmm63 [] 2 44 [(2, 195), (2, 3), (2, 17), (2, 177), (0, c), (0, s), (9, 0)] [(0, 8), (0, s)] μ [] rfl trivial ?_
    refine pm_icmp hK zmm63 .ge 90 134 rfl rfl (fun h0 => ?_) (fun h0 => ?_)
    · have h0 : (8 : Int) ≤ s := h0
      refine pm_hide [5] ?_
      exact K _ hT hf hwd h196 (fun t t8 => hwt t (by omega)) (fun t t8 => hwb t t8 (by omega))
    · have h0 : s < (8 : Int) := h0
      refine pm_blk hK zmm63 [] 3 53 [(2, 195), (2, 3), (2, 17), (2, 177), (0, c), (0, s), (9, 0)] [(0, s), (2, 197)] μ [] rfl trivial ?_
      refine zg_ldc2 hK zmm63 (n := 1000000000000000) rfl (List.mem_of_getElem? (i := 0) rfl) (zg_mkin (by decide) (by decide)) ?_
      refine zg_last hK zmm63 (r := 197) (i := s) (x := 1000000000000000) (g := zG197) rfl rfl rfl (zg_ft (by decide) (by decide)) hb197 (Nn := 8) rfl ⟨by omega, by omega⟩ rfl ?_
      obtain ⟨μ1, eμ1⟩ : ∃ μ', μ' = pm_up μ 197 s 1000000000000000 := ⟨_, rfl⟩
      rw [← eμ1]
      have hTμ1 : zTJ φ μ1 := by rw [eμ1]; exact zgT_up hT zs197_0 rfl (i := s) (by omega) (by omega) (by omega) (by omega)
      have q0 : ∀ r, r ≠ 197 → μ1 r = μ r := fun r hr => by rw [eμ1, pm_up_row hr]
      have hA2 : fa_A 3 n m N pol μ1 := fa_A_fr hA1 (fun r h1 h2 => q0 r (by omega))
      have hL2 : fc_L (μ1 17 2) (μ1 18) (μ1 19) 0 ls := by rw [q0 17 (by decide), q0 18 (by decide), q0 19 (by decide)]; exact hL1
      have hl2 : μ1 17 2 ≤ 16 := by rw [q0 17 (by decide)]; exact hl1
      have wd2 : μ1 195 2 = (((ch_wt n N 8) : Nat) : Int) := by rw [q0 195 (by decide)]; exact hwd
      have w1s : μ1 197 s = 1000000000000000 := by rw [eμ1, pm_up_eq]
      have w1o : ∀ t : Int, t ≠ s → μ1 197 t = μ 197 t := fun t ht => by rw [eμ1, pm_up_ne ht]
      have hbt : pm_and (pm_shr (μ1 195 2) s) 1 = if (ch_wt n N 8).testBit s.toNat = true then 1 else 0 := by
        have h9 := zhas (s := μ1 195 2) (k := s.toNat) (by omega) (by omega) (by omega)
        rw [es, wd2, Int.toNat_natCast] at h9
        rw [wd2]
        exact h9
      have g1 : μ1 195 2 = μ 195 2 := by rw [eμ1, pm_up_off (by decide)]
      have f2 := zT_get hTμ1 zs195_2 (i := 2) (by omega) (by omega)
      refine pm_blk hK zmm63 [] 7 67 [(2, 195), (2, 3), (2, 17), (2, 177), (0, c), (0, s), (9, 0)] [(0, 1), (0, pm_and (pm_shr (μ1 195 2) s) 1)] μ1 [] rfl trivial ?_
      refine pm_icmp hK zmm63 .ne 61 128 rfl rfl (fun h1 => ?_) (fun h1 => ?_)
      · have h1 : pm_and (pm_shr (μ1 195 2) s) 1 ≠ (1 : Int) := h1
        refine pm_blk hK zmm63 [] 2 40 [(2, 195), (2, 3), (2, 17), (2, 177), (0, c), (0, s + 1), (9, 0)] [] μ1 [pm_in (s + 1)] rfl ⟨pm_in_mk (by omega) (by omega), trivial⟩ ?_
        first
        | (refine ih _ (by omega) rfl ⟨by omega, by omega⟩ hTμ1 (fun r r1 r2 r3 r4 r5 => (q1 r r3 r4 r5).trans (hf r r1 r2 r3 r4 r5)) (by rw [q1 195 (by decide) (by decide) (by decide)]; exact hwd) ((q1 196 (by decide) (by decide) (by decide)).trans h196) (fun t t1 => ?_) (fun t t8 t1 => ?_)
           · by_cases hts : (t : Int) = s
             · rw [hts, show t = s.toNat by omega, if_pos hb9]; exact w2s.1
             · rw [w2o _ hts]; exact hwt t (by omega)
           · by_cases hts : (t : Int) = s
             · rw [hts]; exact w2s.2
             · rw [w2o _ hts]; exact hwb t t8 (by omega))
        | (refine ih _ (by omega) rfl ⟨by omega, by omega⟩ hTμ1 (fun r r1 r2 r3 r4 r5 => (q0 r r3).trans (hf r r1 r2 r3 r4 r5)) wd2 ((q0 196 (by decide)).trans h196) (fun t t1 => ?_) (fun t t8 t1 => ?_)
           · by_cases hts : (t : Int) = s
             · rw [hts, w1s, if_neg (fun q9 => by rw [show t = s.toNat by omega] at q9; rw [if_pos q9] at hbt; omega)]
             · rw [w1o _ hts]; exact hwt t (by omega)
           · by_cases hts : (t : Int) = s
             · rw [hts, w1s]; omega
             · rw [w1o _ hts]; exact hwb t t8 (by omega))
        | (exfalso; omega)
      · have h1 : pm_and (pm_shr (μ1 195 2) s) 1 = (1 : Int) := h1
        have hb9 : (ch_wt n N 8).testBit s.toNat = true := by
          by_cases q9 : (ch_wt n N 8).testBit s.toNat = true
          · exact q9
          · rw [if_neg q9] at hbt; omega
        have hsn := (ch_wt_t n N 8 s.toNat).mp hb9
        rw [es] at hsn
        refine pm_blk hK zmm63 [] 6 80 [(2, 195), (2, 3), (2, 17), (2, 177), (0, c), (0, s), (9, 0)] [(0, s), (0, c), (0, 302), (2, 3), (2, 17), (2, 177)] μ1 [] rfl trivial ?_
        refine pm_call hK zmm63 (39, 0, 213, 5) zM213 (3, 67) [(2, 177), (2, 17), (2, 3), (0, 302), (0, c), (0, s)] [] rfl rfl rfl rfl ⟨by omega, by rw [zn213]; omega⟩ (fc_asked3 hK (w := 302) (c := c) (s := s) hTμ1 hA2 hn0 hm0 hq hL2 hl2 (by omega) ⟨by omega, by omega⟩ ⟨by omega, by omega⟩ hb178 hb179 ⟨Nat.le_refl _, Nat.le_refl _⟩) (fun st1 μc1 hp1 => ?_)
        obtain ⟨rfl, hTc1, hfa1⟩ := hp1
        have hfa := hfa1
        rw [fa_ask_2]
        have hA3 : fa_A 3 n m N pol μc1 := fa_A_fr hA2 (fun r h1 h2 => hfa r (by omega) (by omega))
        have rp : μc1 11 c = N (88 + c) := fa_r_purse hA3 hc.1 hc.2
        have hcb := fa_costs_b (t := fr_law ls) (N := N) (pol := pol) (m := m) (c := c) (s := s)
        have f3 := zT_get hTc1 zs11_0 (i := c) (by omega) (by omega)
        refine pm_blk hK zmm63 [] 9 100 [(2, 195), (2, 3), (2, 17), (2, 177), (0, c), (0, s), (0, fa_costs (fr_law ls) N pol m c s)] [(0, μc1 11 c), (0, fa_costs (fr_law ls) N pol m c s), (0, s), (2, 197)] μc1 [0 ≤ c ∧ c < 18] rfl ⟨⟨by omega, by omega⟩, trivial⟩ ?_
        refine pm_icmp hK zmm63 .gt 24 124 rfl rfl (fun h2 => ?_) (fun h2 => ?_)
        · have h2 : μc1 11 c < fa_costs (fr_law ls) N pol m c s := h2
          refine zg_ldc2 hK zmm63 (n := 1000000000000000) rfl (List.mem_of_getElem? (i := 0) rfl) (zg_mkin (by decide) (by decide)) ?_
          refine zg_last hK zmm63 (r := 197) (i := s) (x := 1000000000000000) (g := zG197) rfl rfl rfl (zg_ft (by decide) (by decide)) hb197 (Nn := 8) rfl ⟨by omega, by omega⟩ rfl ?_
          obtain ⟨μ2, eμ2⟩ : ∃ μ', μ' = pm_up μc1 197 s 1000000000000000 := ⟨_, rfl⟩
          rw [← eμ2]
          have hTμ2 : zTJ φ μ2 := by rw [eμ2]; exact zgT_up hTc1 zs197_0 rfl (i := s) (by omega) (by omega) (by omega) (by omega)
          have q1 : ∀ r, r ≠ 197 → r ≠ 178 → r ≠ 179 → μ2 r = μ r := fun r h1 h2 h3 => by rw [eμ2, pm_up_row h1, hfa r h2 h3]; exact q0 r h1
          have w2o : ∀ t : Int, t ≠ s → μ2 197 t = μ 197 t := fun t ht => by rw [eμ2, pm_up_ne ht, hfa 197 (by decide) (by decide)]; exact w1o t ht
          have w2s : μ2 197 s = (ch_w1 (fun c s : Nat => fa_costs (fr_law ls) N pol m (c : Int) (s : Int)) (fun c s : Nat => decide (fa_costs (fr_law ls) N pol m (c : Int) (s : Int) ≤ N (88 + (c : Int))))) c.toNat s.toNat ∧ 0 ≤ μ2 197 s ∧ μ2 197 s ≤ 1000000000000000 := by
            rw [eμ2, pm_up_eq]
            unfold ch_w1
            simp only [ec, es]
            first
            | (rw [if_pos (decide_eq_true (by omega)), ← hdg]; exact ⟨rfl, by omega, by omega⟩)
            | (rw [if_neg (fun q9 => by have := of_decide_eq_true q9; omega)]; exact ⟨rfl, by omega, by omega⟩)
            | (exfalso; omega)
          refine pm_blk hK zmm63 [] 2 40 [(2, 195), (2, 3), (2, 17), (2, 177), (0, c), (0, s + 1), (0, fa_costs (fr_law ls) N pol m c s)] [] μ2 [pm_in (s + 1)] rfl ⟨pm_in_mk (by omega) (by omega), trivial⟩ ?_
          refine pm_hide [6] ?_
          first
          | (refine ih _ (by omega) rfl ⟨by omega, by omega⟩ hTμ2 (fun r r1 r2 r3 r4 r5 => (q1 r r3 r4 r5).trans (hf r r1 r2 r3 r4 r5)) (by rw [q1 195 (by decide) (by decide) (by decide)]; exact hwd) ((q1 196 (by decide) (by decide) (by decide)).trans h196) (fun t t1 => ?_) (fun t t8 t1 => ?_)
             · by_cases hts : (t : Int) = s
               · rw [hts, show t = s.toNat by omega, if_pos hb9]; exact w2s.1
               · rw [w2o _ hts]; exact hwt t (by omega)
             · by_cases hts : (t : Int) = s
               · rw [hts]; exact w2s.2
               · rw [w2o _ hts]; exact hwb t t8 (by omega))
          | (refine ih _ (by omega) rfl ⟨by omega, by omega⟩ hTμ2 (fun r r1 r2 r3 r4 r5 => (q0 r r3).trans (hf r r1 r2 r3 r4 r5)) wd2 ((q0 196 (by decide)).trans h196) (fun t t1 => ?_) (fun t t8 t1 => ?_)
             · by_cases hts : (t : Int) = s
               · rw [hts, w1s, if_neg (fun q9 => by rw [show t = s.toNat by omega] at q9; rw [if_pos q9] at hbt; omega)]
               · rw [w1o _ hts]; exact hwt t (by omega)
             · by_cases hts : (t : Int) = s
               · rw [hts, w1s]; omega
               · rw [w1o _ hts]; exact hwb t t8 (by omega))
          | (exfalso; omega)
        · have h2 : fa_costs (fr_law ls) N pol m c s ≤ μc1 11 c := h2
          have hdg := zg_dig hTc1 (s := s) (by omega) (by omega)
          have hcp := ch_cp (c := c) (k := s.toNat) ⟨by omega, by omega⟩
          rw [← hdg] at hcp
          refine pm_blk hK zmm63 [] 1 105 [(2, 195), (2, 3), (2, 17), (2, 177), (0, c), (0, s), (0, fa_costs (fr_law ls) N pol m c s)] [(0, fa_costs (fr_law ls) N pol m c s), (0, s), (2, 197)] μc1 [] rfl trivial ?_
          refine zg_i2l hK zmm63 rfl ?_
          refine zg_ldc2 hK zmm63 (n := 11019960576) rfl (List.mem_of_getElem? (i := 1) rfl) (zg_mkin (by decide) (by decide)) ?_
          refine zg_lmul hK zmm63 (x := fa_costs (fr_law ls) N pol m c s) (y := 11019960576) (zg_mkin (by omega) (by omega)) rfl ?_
          refine pm_blk hK zmm63 [] 1 112 [(2, 195), (2, 3), (2, 17), (2, 177), (0, c), (0, s), (0, fa_costs (fr_law ls) N pol m c s)] [(0, c), (1, (fa_costs (fr_law ls) N pol m c s) * 11019960576), (0, s), (2, 197)] μc1 [] rfl trivial ?_
          refine zg_i2l hK zmm63 rfl ?_
          refine zp_gst hK zmm63 (hG (1, 51, ("ArcadePoles$Cheapest", "DIGIT", "[J"), 0) (List.mem_of_getElem? (i := 4) rfl)) rfl rfl rfl ?_
          refine pm_blk hK zmm63 [] 1 118 [(2, 195), (2, 3), (2, 17), (2, 177), (0, c), (0, s), (0, fa_costs (fr_law ls) N pol m c s)] [(0, s), (2, 0), (1, c), (1, (fa_costs (fr_law ls) N pol m c s) * 11019960576), (0, s), (2, 197)] μc1 [] rfl trivial ?_
          refine zg_lald hK zmm63 (r := 0) (i := s) (g := zG250) rfl rfl (zg_ft (by decide) (by decide)) (Nn := 8) rfl ⟨by omega, by omega⟩ rfl ?_
          refine zg_lmul hK zmm63 (x := c) (y := μc1 0 s) (zg_mkin (by omega) (by omega)) rfl ?_
          refine zg_ladd hK zmm63 (x := (fa_costs (fr_law ls) N pol m c s) * 11019960576) (y := c * (μc1 0 s)) (zg_mkin (by omega) (by omega)) rfl ?_
          refine pm_blk hK zmm63 [] 1 127 [(2, 195), (2, 3), (2, 17), (2, 177), (0, c), (0, s), (0, fa_costs (fr_law ls) N pol m c s)] [(1, ((fa_costs (fr_law ls) N pol m c s) * 11019960576) + (c * (μc1 0 s))), (0, s), (2, 197)] μc1 [] rfl trivial ?_
          refine zg_last hK zmm63 (r := 197) (i := s) (x := ((fa_costs (fr_law ls) N pol m c s) * 11019960576) + (c * (μc1 0 s))) (g := zG197) rfl rfl rfl (zg_ft (by decide) (by decide)) hb197 (Nn := 8) rfl ⟨by omega, by omega⟩ rfl ?_
          obtain ⟨μ3, eμ3⟩ : ∃ μ', μ' = pm_up μc1 197 s (((fa_costs (fr_law ls) N pol m c s) * 11019960576) + (c * (μc1 0 s))) := ⟨_, rfl⟩
          rw [← eμ3]
          have hTμ3 : zTJ φ μ3 := by rw [eμ3]; exact zgT_up hTc1 zs197_0 rfl (i := s) (by omega) (by omega) (by omega) (by omega)
          have q1 : ∀ r, r ≠ 197 → r ≠ 178 → r ≠ 179 → μ3 r = μ r := fun r h1 h2 h3 => by rw [eμ3, pm_up_row h1, hfa r h2 h3]; exact q0 r h1
          have w2o : ∀ t : Int, t ≠ s → μ3 197 t = μ 197 t := fun t ht => by rw [eμ3, pm_up_ne ht, hfa 197 (by decide) (by decide)]; exact w1o t ht
          have w2s : μ3 197 s = (ch_w1 (fun c s : Nat => fa_costs (fr_law ls) N pol m (c : Int) (s : Int)) (fun c s : Nat => decide (fa_costs (fr_law ls) N pol m (c : Int) (s : Int) ≤ N (88 + (c : Int))))) c.toNat s.toNat ∧ 0 ≤ μ3 197 s ∧ μ3 197 s ≤ 1000000000000000 := by
            rw [eμ3, pm_up_eq]
            unfold ch_w1
            simp only [ec, es]
            first
            | (rw [if_pos (decide_eq_true (by omega)), ← hdg]; exact ⟨rfl, by omega, by omega⟩)
            | (rw [if_neg (fun q9 => by have := of_decide_eq_true q9; omega)]; exact ⟨rfl, by omega, by omega⟩)
            | (exfalso; omega)
          refine pm_blk hK zmm63 [] 2 40 [(2, 195), (2, 3), (2, 17), (2, 177), (0, c), (0, s + 1), (0, fa_costs (fr_law ls) N pol m c s)] [] μ3 [pm_in (s + 1)] rfl ⟨pm_in_mk (by omega) (by omega), trivial⟩ ?_
          refine pm_hide [6] ?_
          first
          | (refine ih _ (by omega) rfl ⟨by omega, by omega⟩ hTμ3 (fun r r1 r2 r3 r4 r5 => (q1 r r3 r4 r5).trans (hf r r1 r2 r3 r4 r5)) (by rw [q1 195 (by decide) (by decide) (by decide)]; exact hwd) ((q1 196 (by decide) (by decide) (by decide)).trans h196) (fun t t1 => ?_) (fun t t8 t1 => ?_)
             · by_cases hts : (t : Int) = s
               · rw [hts, show t = s.toNat by omega, if_pos hb9]; exact w2s.1
               · rw [w2o _ hts]; exact hwt t (by omega)
             · by_cases hts : (t : Int) = s
               · rw [hts]; exact w2s.2
               · rw [w2o _ hts]; exact hwb t t8 (by omega))
          | (refine ih _ (by omega) rfl ⟨by omega, by omega⟩ hTμ3 (fun r r1 r2 r3 r4 r5 => (q0 r r3).trans (hf r r1 r2 r3 r4 r5)) wd2 ((q0 196 (by decide)).trans h196) (fun t t1 => ?_) (fun t t8 t1 => ?_)
             · by_cases hts : (t : Int) = s
               · rw [hts, w1s, if_neg (fun q9 => by rw [show t = s.toNat by omega] at q9; rw [if_pos q9] at hbt; omega)]
               · rw [w1o _ hts]; exact hwt t (by omega)
             · by_cases hts : (t : Int) = s
               · rw [hts, w1s]; omega
               · rw [w1o _ hts]; exact hwb t t8 (by omega))
          | (exfalso; omega)
set_option maxRecDepth 100000 in
theorem ch_fi1 (hK : zKK ST)  {μ0 : pm_Mem} {N pol : Int → Int} {n m : Int} (hA : fa_A 3 n m N pol μ0) (hn0 : 0 ≤ n) (hm0 : 0 ≤ m) (hq : n ≤ 12 ∧ m ≤ 18) (hI : fa_I n m N) {ls : List (Int × List zIw × List zIw)} (hL : fc_L (μ0 17 2) (μ0 18) (μ0 19) 0 ls) (hl16 : μ0 17 2 ≤ 16) (hG : ∀ q ∈ zGT, sx_gtok zCDs (zAS ST) zTB Sg q) (hb195 : sx_bit Wm 195 = true) (hb196 : sx_bit Wm 196 = true) (hb197 : sx_bit Wm 197 = true) (hb178 : sx_bit Wm 178 = true) (hb179 : sx_bit Wm 179 = true) (hbd : 4 ≤ bud.1 ∧ 96 ≤ bud.2.1) : ∀ (nM : Nat) {c : Int} {μ : pm_Mem}, (m - c).toNat = nM → ∀ (hc : 0 ≤ c ∧ c ≤ m) (hT : zTJ φ μ) (hf : (∀ r, r ≠ 195 → r ≠ 196 → r ≠ 197 → r ≠ 178 → r ≠ 179 → μ r = μ0 r)) (hwd : μ 195 2 = (((ch_wt n N 8) : Nat) : Int)) (hb : ∀ q : Nat, q < 256 → 0 ≤ μ 196 (q : Int) ∧ μ 196 (q : Int) ≤ 1000000000000000) (hD : ∀ q : Nat, q < 256 → ch_sub q (ch_wt n N 8) → μ 196 (q : Int) = ch_D 1000000000000000 (ch_w1 (fun c s : Nat => fa_costs (fr_law ls) N pol m (c : Int) (s : Int)) (fun c s : Nat => decide (fa_costs (fr_law ls) N pol m (c : Int) (s : Int) ≤ N (88 + (c : Int))))) c.toNat q), zW D Wm ST b0 l Sg zM63 bud (pm_X zM63 (fun st' μ' => st' = [] ∧ zTJ φ μ' ∧ (∀ r, r ≠ 195 → r ≠ 196 → r ≠ 197 → r ≠ 178 → r ≠ 179 → μ' r = μ0 r) ∧ μ' 195 2 = (((ch_wt n N 8) : Nat) : Int) ∧ (∀ q : Nat, q < 256 → 0 ≤ μ' 196 (q : Int) ∧ μ' 196 (q : Int) ≤ 1000000000000000) ∧ μ' 196 (((ch_wt n N 8) : Nat) : Int) = ch_D 1000000000000000 (ch_w1 (fun c s : Nat => fa_costs (fr_law ls) N pol m (c : Int) (s : Int)) (fun c s : Nat => decide (fa_costs (fr_law ls) N pol m (c : Int) (s : Int) ≤ N (88 + (c : Int))))) m.toNat (ch_wt n N 8))) 28 [(2, 195), (2, 3), (2, 17), (2, 177), (0, c), (9, 0), (9, 0)] [] μ := by
  intro nM
  induction nM using Nat.strongRecOn with
  | ind nM ih =>
    intro c μ hn hc hT hf hwd hb hD
    have hA1 : fa_A 3 n m N pol μ := fa_A_fr hA (fun r h1 h2 => hf r (by omega) (by omega) (by omega) (by omega) (by omega))
    have a1 : μ 3 1 = m := hA1.1.2.1
    have hL1 : fc_L (μ 17 2) (μ 18) (μ 19) 0 ls := by rw [hf 17 (by decide) (by decide) (by decide) (by decide) (by decide), hf 18 (by decide) (by decide) (by decide) (by decide) (by decide), hf 19 (by decide) (by decide) (by decide) (by decide) (by decide)]; exact hL
    have hl1 : μ 17 2 ≤ 16 := by rw [hf 17 (by decide) (by decide) (by decide) (by decide) (by decide)]; exact hl16
    have ec : ((c.toNat : Nat) : Int) = c := by omega
    have e1 : (c + 1).toNat = c.toNat + 1 := by omega
    have f1 := zT_get hT zs3_1 (i := 1) (by omega) (by omega)
    refine pm_blk hK zmm63 [] 3 34 [(2, 195), (2, 3), (2, 17), (2, 177), (0, c), (9, 0), (9, 0)] [(0, μ 3 1), (0, c)] μ [] rfl trivial ?_
    refine pm_icmp hK zmm63 .ge 110 144 rfl rfl (fun h0 => ?_) (fun h0 => ?_)
    · have h0 : μ 3 1 ≤ c := h0
      have ek : c.toNat = m.toNat := by omega
      exact pm_vret rfl rfl ⟨rfl, hT, hf, hwd, hb, by rw [← ek]; exact hD _ (ch_wt_8 n N) ch_sub_self⟩
    · have h0 : c < μ 3 1 := h0
      refine pm_blk hK zmm63 [] 2 40 [(2, 195), (2, 3), (2, 17), (2, 177), (0, c), (0, 0), (9, 0)] [] μ [] rfl trivial ?_
      refine ch_fi2 hK hA hn0 hm0 hq hI hL hl16 hG hb195 hb196 hb197 hb178 hb179 (ν := μ) (c := c) ⟨by omega, by omega⟩ (fun μ2 k1 k2 k3 k4 k5 k6 => ?_) hbd _ (s := 0) rfl ⟨by omega, by omega⟩ hT hf hwd rfl (fun t t1 => absurd t1 (by omega)) (fun t t8 t1 => absurd t1 (by omega))
      refine pm_blk hK zmm63 [] 1 135 [(2, 195), (2, 3), (2, 17), (2, 177), (0, c), (9, 0), (9, 0)] [(2, 195)] μ2 [] rfl trivial ?_
      refine pm_call hK zmm63 (54, 0, 261, 0) zM261 (1, 23) [(2, 195)] [] rfl rfl rfl rfl ⟨by omega, by rw [zn261]; omega⟩ (ch_choose hK k1 (ch_wt_8 n N) k3 k6 (by rw [k4]; exact hb) hb196 ⟨Nat.le_refl _, Nat.le_refl _⟩) (fun sty1 μcy1 hpy1 => ?_)
      obtain ⟨rfl, hTcy1, hbc, hnc, hfc⟩ := hpy1
      refine pm_blk hK zmm63 [] 2 28 [(2, 195), (2, 3), (2, 17), (2, 177), (0, c + 1), (9, 0), (9, 0)] [] μcy1 [pm_in (c + 1)] rfl ⟨pm_in_mk (by omega) (by omega), trivial⟩ ?_
      refine ih _ (by omega) rfl ⟨by omega, by omega⟩ hTcy1 (fun r r1 r2 r3 r4 r5 => (hfc r r2).trans (k2 r r1 r2 r3 r4 r5)) (by rw [hfc 195 (by decide)]; exact k3) hbc ?_
      rw [e1]
      refine ch_next (D := fun q : Nat => μ 196 (q : Int)) (v := fun t : Nat => μ2 197 (t : Int)) hD (fun t ht => ?_) (fun q q1 q2 => ?_)
      · show μ2 197 (t : Int) = _
        rw [k5 t (ch_lt8 (ch_wt_8 n N) ht), if_pos ht]
      · have h9 := hnc q q1 q2
        rw [k4] at h9
        exact h9
set_option maxRecDepth 100000 in
theorem ch_find (hK : zKK ST) (hT : zTJ φ μ) {N pol : Int → Int} {n m : Int} (hA : fa_A 3 n m N pol μ) (hn0 : 0 ≤ n) (hm0 : 0 ≤ m) (hq : n ≤ 12 ∧ m ≤ 18) (hI : fa_I n m N) {ls : List (Int × List zIw × List zIw)} (hL : fc_L (μ 17 2) (μ 18) (μ 19) 0 ls) (hl16 : μ 17 2 ≤ 16) (hG : ∀ q ∈ zGT, sx_gtok zCDs (zAS ST) zTB Sg q) (hb195 : sx_bit Wm 195 = true) (hb196 : sx_bit Wm 196 = true) (hb197 : sx_bit Wm 197 = true) (hb178 : sx_bit Wm 178 = true) (hb179 : sx_bit Wm 179 = true) (hbd : 4 ≤ bud.1 ∧ 96 ≤ bud.2.1) : zC D Wm ST b0 l Sg zM63 bud [(2, 195), (2, 3), (2, 17), (2, 177)] μ (fun st' μ' => st' = [] ∧ zTJ φ μ' ∧ (∀ r, r ≠ 195 → r ≠ 196 → r ≠ 197 → r ≠ 178 → r ≠ 179 → μ' r = μ r) ∧ μ' 195 2 = (((ch_wt n N 8) : Nat) : Int) ∧ (∀ q : Nat, q < 256 → 0 ≤ μ' 196 (q : Int) ∧ μ' 196 (q : Int) ≤ 1000000000000000) ∧ μ' 196 (((ch_wt n N 8) : Nat) : Int) = ch_D 1000000000000000 (ch_w1 (fun c s : Nat => fa_costs (fr_law ls) N pol m (c : Int) (s : Int)) (fun c s : Nat => decide (fa_costs (fr_law ls) N pol m (c : Int) (s : Int) ≤ N (88 + (c : Int))))) m.toNat (ch_wt n N 8)) := by
  refine pm_blk hK zmm63 [] 2 2 [(2, 195), (2, 3), (2, 17), (2, 177), (9, 0), (9, 0), (9, 0)] [(2, 3), (2, 195)] μ [] rfl trivial ?_
  refine pm_call hK zmm63 (22, 1, 64, 1) zM64 (2, 42) [(2, 3)] [(2, 195)] rfl rfl rfl rfl ⟨by omega, by rw [zn64]; omega⟩ (ch_wanted hK hT hA hn0 hm0 hq hI ⟨Nat.le_refl _, Nat.le_refl _⟩) (fun st1 μc1 hp1 => ?_)
  obtain ⟨rfl, rfl⟩ := hp1
  have hw8 := ch_wt_8 n N
  refine pm_blk hK zmm63 [] 1 8 [(2, 195), (2, 3), (2, 17), (2, 177), (9, 0), (9, 0), (9, 0)] [] (pm_up μ 195 2 (((ch_wt n N 8 : Nat) : Int))) [sx_bit Wm 195 = true] rfl ⟨hb195, trivial⟩ ?_
  obtain ⟨μ1, eμ1⟩ : ∃ μ', μ' = pm_up μ 195 2 (((ch_wt n N 8 : Nat) : Int)) := ⟨_, rfl⟩
  rw [← eμ1]
  have hTμ1 : zTJ φ μ1 := by rw [eμ1]; exact zT_up hT zs195_2 rfl (i := 2) (by omega) (by omega) (by omega) (by omega)
  have t0 : ∀ r, r ≠ 195 → μ1 r = μ r := fun r hr => by rw [eμ1, pm_up_row hr]
  have t1 : μ1 195 2 = ((ch_wt n N 8 : Nat) : Int) := by rw [eμ1, pm_up_eq]
  refine pm_blk hK zmm63 [] 2 12 [(2, 195), (2, 3), (2, 17), (2, 177), (9, 0), (9, 0), (9, 0)] [(2, 196)] μ1 [] rfl trivial ?_
  refine zg_ldc2 hK zmm63 (n := 1000000000000000) rfl (List.mem_of_getElem? (i := 0) rfl) (zg_mkin (by decide) (by decide)) ?_
  refine zg_call hK zmm63 (28, 1, 65, 2) zM65 (0, 0) [(2, 196), (1, 1000000000000000)] [] rfl rfl rfl rfl ⟨by omega, by rw [zn65]; omega⟩ (ch_fill hK (v := 1000000000000000) (zg_mkin (by decide) (by decide)) hTμ1 hb196 ⟨Nat.le_refl _, Nat.le_refl _⟩) (fun st2 μc2 hp2 => ?_)
  obtain ⟨rfl, hTc2, hff, hfv⟩ := hp2
  refine pm_blk hK zmm63 [] 3 23 [(2, 195), (2, 3), (2, 17), (2, 177), (9, 0), (9, 0), (9, 0)] [(0, 0), (2, 196)] μc2 [] rfl trivial ?_
  refine zg_lconst hK zmm63 (n := 0) rfl ?_
  refine zg_last hK zmm63 (r := 196) (i := 0) (x := 0) (g := zG196) rfl rfl rfl (zg_ft (by decide) (by decide)) hb196 (Nn := 256) rfl ⟨by omega, by omega⟩ rfl ?_
  obtain ⟨μ2, eμ2⟩ : ∃ μ', μ' = pm_up μc2 196 0 0 := ⟨_, rfl⟩
  rw [← eμ2]
  have hTμ2 : zTJ φ μ2 := by rw [eμ2]; exact zgT_up hTc2 zs196_0 rfl (i := 0) (by omega) (by omega) (by omega) (by omega)
  have t2 : ∀ r, r ≠ 196 → μ2 r = μc2 r := fun r hr => by rw [eμ2, pm_up_row hr]
  have t3 : μ2 196 0 = 0 := by rw [eμ2, pm_up_eq]
  have t4 : ∀ j : Int, j ≠ 0 → μ2 196 j = μc2 196 j := fun j hj => by rw [eμ2, pm_up_ne hj]
  refine pm_blk hK zmm63 [] 2 28 [(2, 195), (2, 3), (2, 17), (2, 177), (0, 0), (9, 0), (9, 0)] [] μ2 [] rfl trivial ?_
  refine ch_fi1 hK (μ0 := μ) hA hn0 hm0 hq hI hL hl16 hG hb195 hb196 hb197 hb178 hb179 hbd _ (c := 0) rfl ⟨by omega, by omega⟩ hTμ2 (fun r r1 r2 r3 r4 r5 => (t2 r r2).trans ((hff r r2).trans (t0 r r1))) (by rw [t2 195 (by decide), hff 195 (by decide)]; exact t1) (fun q hq9 => ?_) (fun q q1 q2 => ?_)
  · by_cases hq0 : (q : Int) = 0
    · rw [hq0, t3]; omega
    · rw [t4 _ hq0, hfv _ (by omega) (by omega)]; omega
  · show _ = if q = 0 then 0 else 1000000000000000
    by_cases hq0 : q = 0
    · rw [if_pos hq0, hq0]; exact t3
    · rw [if_neg hq0, t4 _ (by omega), hfv _ (by omega) (by omega)]
set_option maxRecDepth 100000 in
theorem ch_costx (hK : zKK ST) (hT : zTJ φ μ) (hw : 0 ≤ μ 195 2 ∧ μ 195 2 ≤ 255) (hM : 0 ≤ μ 196 (μ 195 2) ∧ μ 196 (μ 195 2) ≤ 1000000000000000) (hbd : 0 ≤ bud.1 ∧ 0 ≤ bud.2.1) : zC D Wm ST b0 l Sg zM66 bud [(2, 195)] μ (fun st' μ' => μ = μ' ∧ st' = [(0, if μ 196 (μ 195 2) < 1000000000000000 then μ 196 (μ 195 2) / 11019960576 else -1)]) := by
  have f1 := zT_get hT zs195_2 (i := 2) (by omega) (by omega)
  refine pm_blk hK zmm66 [] 4 8 [(2, 195)] [(0, μ 195 2), (2, 196)] μ [] rfl trivial ?_
  refine zg_lald hK zmm66 (r := 196) (i := μ 195 2) (g := zG196) rfl rfl (zg_ft (by decide) (by decide)) (Nn := 256) rfl ⟨by omega, by omega⟩ rfl ?_
  refine zg_ldc2 hK zmm66 (n := 1000000000000000) rfl (List.mem_of_getElem? (i := 0) rfl) (zg_mkin (by decide) (by decide)) ?_
  refine zg_lcmp hK zmm66 (x := μ 196 (μ 195 2)) (y := 1000000000000000) rfl (fun z1 hz1 => ?_)
  refine pm_if hK zmm66 .lt 7 20 rfl rfl (fun h0 => ?_) (fun h0 => ?_)
  · have h0 : z1 < (0 : Int) := h0
    refine pm_blk hK zmm66 [] 4 28 [(2, 195)] [(0, μ 195 2), (2, 196)] μ [] rfl trivial ?_
    refine zg_lald hK zmm66 (r := 196) (i := μ 195 2) (g := zG196) rfl rfl (zg_ft (by decide) (by decide)) (Nn := 256) rfl ⟨by omega, by omega⟩ rfl ?_
    refine zg_ldc2 hK zmm66 (n := 11019960576) rfl (List.mem_of_getElem? (i := 1) rfl) (zg_mkin (by decide) (by decide)) ?_
    refine zg_ldiv hK zmm66 (x := μ 196 (μ 195 2)) (y := 11019960576) (by omega) (by omega) rfl ?_
    refine zg_l2i hK zmm66 (by unfold pm_in; omega) rfl ?_
    first
    | exact pm_iret rfl rfl ⟨rfl, by rw [if_pos (by omega)]⟩
    | exact pm_iret rfl rfl ⟨rfl, by rw [if_neg (by omega)]⟩
    | (exfalso; omega)
  · have h0 : (0 : Int) ≤ z1 := h0
    refine pm_blk hK zmm66 [] 2 34 [(2, 195)] [(0, (-1))] μ [] rfl trivial ?_
    first
    | exact pm_iret rfl rfl ⟨rfl, by rw [if_pos (by omega)]⟩
    | exact pm_iret rfl rfl ⟨rfl, by rw [if_neg (by omega)]⟩
    | (exfalso; omega)
set_option maxRecDepth 100000 in
theorem ch_whomx (hK : zKK ST) {s : Int} (hT : zTJ φ μ) (hG : ∀ q ∈ zGT, sx_gtok zCDs (zAS ST) zTB Sg q) (hw : 0 ≤ μ 195 2 ∧ μ 195 2 ≤ 255) (hM : 0 ≤ μ 196 (μ 195 2) ∧ μ 196 (μ 195 2) ≤ 1000000000000000) (hbd : 1 ≤ bud.1 ∧ 22 ≤ bud.2.1) : zC D Wm ST b0 l Sg zM67 bud [(2, 195), (0, s)] μ (fun st' μ' => μ = μ' ∧ st' = [(0, if (0 ≤ s ∧ s ≤ 7) ∧ (μ 195 2).toNat.testBit s.toNat = true ∧ μ 196 (μ 195 2) < 1000000000000000 then μ 196 (μ 195 2) / ch_p s.toNat % 18 else -1)]) := by
  refine pm_blk hK zmm67 [] 3 4 [(2, 195), (0, s)] [(0, 7), (0, 0), (0, s)] μ [] rfl trivial ?_
  refine pm_call hK zmm67 (70, 1, 16, 3) zM16 (0, 0) [(0, s), (0, 0), (0, 7)] [] rfl rfl rfl rfl ⟨by omega, by rw [zn16]; omega⟩ (zh_within hK ⟨Nat.le_refl _, Nat.le_refl _⟩) (fun st1 μc1 hp1 => ?_)
  obtain ⟨rfl, rfl⟩ := hp1
  refine pm_if hK zmm67 .eq 30 37 rfl rfl (fun h0 => ?_) (fun h0 => ?_)
  · have h0 : (if 0 ≤ s ∧ s ≤ 7 then 1 else 0 : Int) = (0 : Int) := h0
    have h0 := zif0 h0
    refine pm_blk hK zmm67 [] 1 38 [(2, 195), (0, s)] [(0, (-1))] μ [] rfl trivial ?_
    first
    | exact pm_iret rfl rfl ⟨rfl, by rw [if_neg (fun q9 => by omega)]⟩
    | exact pm_iret rfl rfl ⟨rfl, by rw [if_neg (fun q9 => by rw [if_pos q9.2.1] at hbt; omega)]⟩
    | (have hb9 : (μ 195 2).toNat.testBit s.toNat = true := Classical.byContradiction (fun q9 => by rw [if_neg q9] at hbt; omega); exact pm_iret rfl rfl ⟨rfl, by rw [if_pos ⟨⟨by omega, by omega⟩, hb9, by omega⟩, hdg]⟩)
    | (exfalso; omega)
  · have h0 : (if 0 ≤ s ∧ s ≤ 7 then 1 else 0 : Int) ≠ (0 : Int) := h0
    have h0 := zif1 h0
    have es : ((s.toNat : Nat) : Int) = s := by omega
    have hbt : pm_and (pm_shr (μ 195 2) s) 1 = if (μ 195 2).toNat.testBit s.toNat = true then 1 else 0 := by
      have h9 := zhas (s := μ 195 2) (k := s.toNat) (by omega) (by omega) (by omega)
      rw [es] at h9
      exact h9
    have hdg := zg_dig hT (s := s) (by omega) (by omega)
    have hp1 := ch_p_1 s.toNat
    rw [← hdg] at hp1
    have hq0 := Int.ediv_nonneg hM.1 (show 0 ≤ μ 0 s by omega)
    have f1 := zT_get hT zs195_2 (i := 2) (by omega) (by omega)
    refine pm_blk hK zmm67 [] 6 18 [(2, 195), (0, s)] [(0, pm_and (pm_shr (μ 195 2) s) 1)] μ [] rfl trivial ?_
    refine pm_if hK zmm67 .eq 19 37 rfl rfl (fun h1 => ?_) (fun h1 => ?_)
    · have h1 : pm_and (pm_shr (μ 195 2) s) 1 = (0 : Int) := h1
      refine pm_blk hK zmm67 [] 1 38 [(2, 195), (0, s)] [(0, (-1))] μ [] rfl trivial ?_
      first
      | exact pm_iret rfl rfl ⟨rfl, by rw [if_neg (fun q9 => by omega)]⟩
      | exact pm_iret rfl rfl ⟨rfl, by rw [if_neg (fun q9 => by rw [if_pos q9.2.1] at hbt; omega)]⟩
      | (have hb9 : (μ 195 2).toNat.testBit s.toNat = true := Classical.byContradiction (fun q9 => by rw [if_neg q9] at hbt; omega); exact pm_iret rfl rfl ⟨rfl, by rw [if_pos ⟨⟨by omega, by omega⟩, hb9, by omega⟩, hdg]⟩)
      | (exfalso; omega)
    · have h1 : pm_and (pm_shr (μ 195 2) s) 1 ≠ (0 : Int) := h1
      refine pm_blk hK zmm67 [] 4 29 [(2, 195), (0, s)] [(0, μ 195 2), (2, 196)] μ [] rfl trivial ?_
      refine zg_lald hK zmm67 (r := 196) (i := μ 195 2) (g := zG196) rfl rfl (zg_ft (by decide) (by decide)) (Nn := 256) rfl ⟨by omega, by omega⟩ rfl ?_
      refine zg_ldc2 hK zmm67 (n := 1000000000000000) rfl (List.mem_of_getElem? (i := 0) rfl) (zg_mkin (by decide) (by decide)) ?_
      refine zg_lcmp hK zmm67 (x := μ 196 (μ 195 2)) (y := 1000000000000000) rfl (fun z2 hz2 => ?_)
      refine pm_if hK zmm67 .lt 5 39 rfl rfl (fun h2 => ?_) (fun h2 => ?_)
      · have h2 : z2 < (0 : Int) := h2
        refine pm_blk hK zmm67 [] 4 47 [(2, 195), (0, s)] [(0, μ 195 2), (2, 196)] μ [] rfl trivial ?_
        refine zg_lald hK zmm67 (r := 196) (i := μ 195 2) (g := zG196) rfl rfl (zg_ft (by decide) (by decide)) (Nn := 256) rfl ⟨by omega, by omega⟩ rfl ?_
        refine zp_gst hK zmm67 (hG (1, 51, ("ArcadePoles$Cheapest", "DIGIT", "[J"), 0) (List.mem_of_getElem? (i := 4) rfl)) rfl rfl rfl ?_
        refine pm_blk hK zmm67 [] 1 52 [(2, 195), (0, s)] [(0, s), (2, 0), (1, μ 196 (μ 195 2))] μ [] rfl trivial ?_
        refine zg_lald hK zmm67 (r := 0) (i := s) (g := zG250) rfl rfl (zg_ft (by decide) (by decide)) (Nn := 8) rfl ⟨by omega, by omega⟩ rfl ?_
        refine zg_ldiv hK zmm67 (x := μ 196 (μ 195 2)) (y := μ 0 s) (by omega) (by omega) rfl ?_
        refine zg_ldc2 hK zmm67 (n := 18) rfl (List.mem_of_getElem? (i := 2) rfl) (zg_mkin (by decide) (by decide)) ?_
        refine zg_lrem hK zmm67 (x := (μ 196 (μ 195 2)) / (μ 0 s)) (y := 18) (by omega) (by omega) rfl ?_
        refine zg_l2i hK zmm67 (by unfold pm_in; omega) rfl ?_
        first
        | exact pm_iret rfl rfl ⟨rfl, by rw [if_neg (fun q9 => by omega)]⟩
        | exact pm_iret rfl rfl ⟨rfl, by rw [if_neg (fun q9 => by rw [if_pos q9.2.1] at hbt; omega)]⟩
        | (have hb9 : (μ 195 2).toNat.testBit s.toNat = true := Classical.byContradiction (fun q9 => by rw [if_neg q9] at hbt; omega); exact pm_iret rfl rfl ⟨rfl, by rw [if_pos ⟨⟨by omega, by omega⟩, hb9, by omega⟩, hdg]⟩)
        | (exfalso; omega)
      · have h2 : (0 : Int) ≤ z2 := h2
        refine pm_blk hK zmm67 [] 1 38 [(2, 195), (0, s)] [(0, (-1))] μ [] rfl trivial ?_
        first
        | exact pm_iret rfl rfl ⟨rfl, by rw [if_neg (fun q9 => by omega)]⟩
        | exact pm_iret rfl rfl ⟨rfl, by rw [if_neg (fun q9 => by rw [if_pos q9.2.1] at hbt; omega)]⟩
        | (have hb9 : (μ 195 2).toNat.testBit s.toNat = true := Classical.byContradiction (fun q9 => by rw [if_neg q9] at hbt; omega); exact pm_iret rfl rfl ⟨rfl, by rw [if_pos ⟨⟨by omega, by omega⟩, hb9, by omega⟩, hdg]⟩)
        | (exfalso; omega)
set_option maxRecDepth 100000 in
theorem ch_cheaplyx (hK : zKK ST) {w : Int} (hT : zTJ φ μ) {N pol : Int → Int} {n m : Int} (hA : fa_A 3 n m N pol μ) (hn0 : 0 ≤ n) (hm0 : 0 ≤ m) (hq : n ≤ 12 ∧ m ≤ 18) (hI : fa_I n m N) {ls : List (Int × List zIw × List zIw)} (hL : fc_L (μ 17 2) (μ 18) (μ 19) 0 ls) (hl16 : μ 17 2 ≤ 16) (hG : ∀ q ∈ zGT, sx_gtok zCDs (zAS ST) zTB Sg q) (hb195 : sx_bit Wm 195 = true) (hb196 : sx_bit Wm 196 = true) (hb197 : sx_bit Wm 197 = true) (hb178 : sx_bit Wm 178 = true) (hb179 : sx_bit Wm 179 = true) (hbd : 5 ≤ bud.1 ∧ 122 ≤ bud.2.1) : zC D Wm ST b0 l Sg zM62 bud [(2, 1), (0, w)] μ (fun st' μ' => ∃ x, st' = [(0, x)] ∧ zTJ φ μ' ∧ x = ch_an (ch_D 1000000000000000 (ch_w1 (fun c s : Nat => fa_costs (fr_law ls) N pol m (c : Int) (s : Int)) (fun c s : Nat => decide (fa_costs (fr_law ls) N pol m (c : Int) (s : Int) ≤ N (88 + (c : Int))))) m.toNat (ch_wt n N 8)) (ch_wt n N 8) w ∧ (∀ r, r ≠ 195 → r ≠ 196 → r ≠ 197 → r ≠ 178 → r ≠ 179 → μ' r = μ r)) := by
  refine pm_blk hK zmm62 [] 1 1 [(2, 1), (0, w)] [(0, w)] μ [] rfl trivial ?_
  refine pm_if hK zmm62 .eq 16 17 rfl rfl (fun h0 => ?_) (fun h0 => ?_)
  · have h0 : w = (0 : Int) := h0
    refine pm_blk hK zmm62 [] 10 39 [(2, 1), (0, w)] [(2, 177), (2, 17), (2, 3), (2, 195)] μ [] rfl trivial ?_
    refine pm_call hK zmm62 (256, 0, 63, 3) zM63 (4, 96) [(2, 195), (2, 3), (2, 17), (2, 177)] [] rfl rfl rfl rfl ⟨by omega, by rw [zn63]; omega⟩ (ch_find hK hT hA hn0 hm0 hq hI hL hl16 hG hb195 hb196 hb197 hb178 hb179 ⟨Nat.le_refl _, Nat.le_refl _⟩) (fun st1 μc1 hp1 => ?_)
    obtain ⟨rfl, hTc1, hff, hwd, hbb, hMM⟩ := hp1
    have hw8 := ch_wt_8 n N
    have hM9 := hbb _ hw8
    have hwd2 : μc1 196 (μc1 195 2) = μc1 196 (((ch_wt n N 8) : Nat) : Int) := by rw [hwd]
    refine pm_blk hK zmm62 [] 1 43 [(2, 1), (0, w)] [(0, w)] μc1 [] rfl trivial ?_
    refine pm_if hK zmm62 .ne 13 56 rfl rfl (fun h1 => ?_) (fun h1 => ?_)
    · have h1 : w ≠ (0 : Int) := h1
      exact absurd h0 h1
    · have h1 : w = (0 : Int) := h1
      refine pm_blk hK zmm62 [] 2 50 [(2, 1), (0, w)] [(2, 195)] μc1 [] rfl trivial ?_
      refine pm_call hK zmm62 (260, 0, 66, 0) zM66 (0, 0) [(2, 195)] [] rfl rfl rfl rfl ⟨by omega, by rw [zn66]; omega⟩ (ch_costx hK hTc1 ⟨by omega, by omega⟩ (by rw [hwd2]; exact hM9) ⟨Nat.le_refl _, Nat.le_refl _⟩) (fun st2 μc2 hp2 => ?_)
      obtain ⟨rfl, rfl⟩ := hp2
      refine pm_blk hK zmm62 [] 1 67 [(2, 1), (0, w)] [(0, if μc1 196 (μc1 195 2) < 1000000000000000 then μc1 196 (μc1 195 2) / 11019960576 else -1)] μc1 [] rfl trivial ?_
      refine pm_iret rfl rfl ⟨_, rfl, hTc1, ?_, hff⟩
      rw [hwd2, hMM]
      first
      | (have w0 : w = 0 := (by omega)
         subst w0
         by_cases hz : ch_D 1000000000000000 (ch_w1 (fun c s : Nat => fa_costs (fr_law ls) N pol m (c : Int) (s : Int)) (fun c s : Nat => decide (fa_costs (fr_law ls) N pol m (c : Int) (s : Int) ≤ N (88 + (c : Int))))) m.toNat (ch_wt n N 8) < 1000000000000000
         · rw [if_pos hz, ch_an_0 hz]
         · rw [if_neg hz, ch_an_0n hz])
      | (rw [hwd, Int.toNat_natCast]
         by_cases hz : (ch_wt n N 8).testBit (w - 10).toNat = true ∧ ch_D 1000000000000000 (ch_w1 (fun c s : Nat => fa_costs (fr_law ls) N pol m (c : Int) (s : Int)) (fun c s : Nat => decide (fa_costs (fr_law ls) N pol m (c : Int) (s : Int) ≤ N (88 + (c : Int))))) m.toNat (ch_wt n N 8) < 1000000000000000
         · rw [if_pos ⟨⟨by omega, by omega⟩, hz⟩, ch_an_s ⟨by omega, by omega⟩ hz.1 hz.2]
         · rw [if_neg (fun q9 => hz q9.2), ch_an_n (by omega) (Or.inr (Classical.not_and_iff_not_or_not.mp hz))])
      | (exfalso; omega)
  · have h0 : w ≠ (0 : Int) := h0
    refine pm_blk hK zmm62 [] 3 9 [(2, 1), (0, w)] [(0, 17), (0, 10), (0, w)] μ [] rfl trivial ?_
    refine pm_call hK zmm62 (94, 1, 16, 3) zM16 (0, 0) [(0, w), (0, 10), (0, 17)] [] rfl rfl rfl rfl ⟨by omega, by rw [zn16]; omega⟩ (zh_within hK ⟨Nat.le_refl _, Nat.le_refl _⟩) (fun st3 μc3 hp3 => ?_)
    obtain ⟨rfl, rfl⟩ := hp3
    refine pm_if hK zmm62 .ne 5 17 rfl rfl (fun h2 => ?_) (fun h2 => ?_)
    · have h2 : (if 10 ≤ w ∧ w ≤ 17 then 1 else 0 : Int) ≠ (0 : Int) := h2
      have h2 := zif1 h2
      refine pm_blk hK zmm62 [] 10 39 [(2, 1), (0, w)] [(2, 177), (2, 17), (2, 3), (2, 195)] μ [] rfl trivial ?_
      refine pm_call hK zmm62 (256, 0, 63, 3) zM63 (4, 96) [(2, 195), (2, 3), (2, 17), (2, 177)] [] rfl rfl rfl rfl ⟨by omega, by rw [zn63]; omega⟩ (ch_find hK hT hA hn0 hm0 hq hI hL hl16 hG hb195 hb196 hb197 hb178 hb179 ⟨Nat.le_refl _, Nat.le_refl _⟩) (fun st4 μc4 hp4 => ?_)
      obtain ⟨rfl, hTc4, hff, hwd, hbb, hMM⟩ := hp4
      have hw8 := ch_wt_8 n N
      have hM9 := hbb _ hw8
      have hwd2 : μc4 196 (μc4 195 2) = μc4 196 (((ch_wt n N 8) : Nat) : Int) := by rw [hwd]
      refine pm_blk hK zmm62 [] 1 43 [(2, 1), (0, w)] [(0, w)] μc4 [] rfl trivial ?_
      refine pm_if hK zmm62 .ne 13 56 rfl rfl (fun h3 => ?_) (fun h3 => ?_)
      · have h3 : w ≠ (0 : Int) := h3
        refine pm_blk hK zmm62 [] 5 64 [(2, 1), (0, w)] [(0, w - 10), (2, 195)] μc4 [pm_in (w - 10)] rfl ⟨pm_in_mk (by omega) (by omega), trivial⟩ ?_
        refine pm_call hK zmm62 (264, 0, 67, 1) zM67 (1, 22) [(2, 195), (0, w - 10)] [] rfl rfl rfl rfl ⟨by omega, by rw [zn67]; omega⟩ (ch_whomx hK (s := (w - 10)) hTc4 hG ⟨by omega, by omega⟩ (by rw [hwd2]; exact hM9) ⟨Nat.le_refl _, Nat.le_refl _⟩) (fun st5 μc5 hp5 => ?_)
        obtain ⟨rfl, rfl⟩ := hp5
        refine pm_iret rfl rfl ⟨_, rfl, hTc4, ?_, hff⟩
        rw [hwd2, hMM]
        first
        | (have w0 : w = 0 := (by omega)
           subst w0
           by_cases hz : ch_D 1000000000000000 (ch_w1 (fun c s : Nat => fa_costs (fr_law ls) N pol m (c : Int) (s : Int)) (fun c s : Nat => decide (fa_costs (fr_law ls) N pol m (c : Int) (s : Int) ≤ N (88 + (c : Int))))) m.toNat (ch_wt n N 8) < 1000000000000000
           · rw [if_pos hz, ch_an_0 hz]
           · rw [if_neg hz, ch_an_0n hz])
        | (rw [hwd, Int.toNat_natCast]
           by_cases hz : (ch_wt n N 8).testBit (w - 10).toNat = true ∧ ch_D 1000000000000000 (ch_w1 (fun c s : Nat => fa_costs (fr_law ls) N pol m (c : Int) (s : Int)) (fun c s : Nat => decide (fa_costs (fr_law ls) N pol m (c : Int) (s : Int) ≤ N (88 + (c : Int))))) m.toNat (ch_wt n N 8) < 1000000000000000
           · rw [if_pos ⟨⟨by omega, by omega⟩, hz⟩, ch_an_s ⟨by omega, by omega⟩ hz.1 hz.2]
           · rw [if_neg (fun q9 => hz q9.2), ch_an_n (by omega) (Or.inr (Classical.not_and_iff_not_or_not.mp hz))])
        | (exfalso; omega)
      · have h3 : w = (0 : Int) := h3
        exact absurd h3 h0
    · have h2 : (if 10 ≤ w ∧ w ≤ 17 then 1 else 0 : Int) = (0 : Int) := h2
      have h2 := zif0 h2
      refine pm_blk hK zmm62 [] 1 16 [(2, 1), (0, w)] [(0, (-1))] μ [] rfl trivial ?_
      exact pm_iret rfl rfl ⟨_, rfl, hT, (ch_an_n (by omega) (Or.inl (by omega))).symm, fun _ _ _ _ _ _ => rfl⟩
end ZHW
