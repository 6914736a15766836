/-! F: CHEAPLY, the reference: what is to be shut; walks printed by program (wip/p30/pmgen.py) and filled by hand -/
section ZHW
variable {φ : Option pm_Mem}
variable {D : va_G} {Wm : Nat} {ST : List (String × String × String × Nat)} {b0 : sx_B} {l : Launch} {Sg : Nat → Option Nat} {bud : sx_Bu} {μ : pm_Mem} {B0 : Nat → Prop} {J : (Nat → Option Nat) → Heap → Prop}
set_option maxRecDepth 100000 in
theorem cr_tb2 (hK : zKK ST) {X : Nat → List pm_V → List pm_V → pm_Mem → Prop} {μ0 : pm_Mem} {N pol : Int → Int} {n m : Int} (hN : μ0 206 = N) (hpol : μ0 209 = pol) (hq6 : μ0 205 6 = n) (hm : μ0 205 7 = m) (hgd : ∀ s : Int, 0 ≤ s → s < 12 → 0 ≤ N (4 + s)) {ls : List (Int × List zIw × List zIw)} (hL : fr_L μ0 0 ls) (hb224 : sx_bit Wm 224 = true) (hb225 : sx_bit Wm 225 = true) (hb226 : sx_bit Wm 226 = true) {f s : Int} (hs : 0 ≤ s ∧ s ≤ 7) (K : ∀ (μ : pm_Mem), zTJ φ μ → (∀ r, r ≠ 226 → r ≠ 224 → r ≠ 225 → μ r = μ0 r) → (∀ c t : Nat, (c : Int) < m → (t : Int) < s → (ch_wt n N 8).testBit t = true → zcost μ c t = (ch_w2 (fun c s : Nat => fa_costs (fr_law ls) N pol m (c : Int) (s : Int)) (fun c s : Nat => decide (fa_costs (fr_law ls) N pol m (c : Int) (s : Int) ≤ N (88 + (c : Int))))) c t) → (∀ c2 : Nat, (c2 : Int) < m → zcost μ c2 s.toNat = (ch_w2 (fun c s : Nat => fa_costs (fr_law ls) N pol m (c : Int) (s : Int)) (fun c s : Nat => decide (fa_costs (fr_law ls) N pol m (c : Int) (s : Int) ≤ N (88 + (c : Int))))) c2 s.toNat) → zW D Wm ST b0 l Sg zM167 bud X 103 [(2, 205), (0, f), (0, s), (9, 0)] [] μ) (hbd : 5 ≤ bud.1 ∧ 116 ≤ bud.2.1) : ∀ (nM : Nat) {c : Int} {μ : pm_Mem}, (m - c).toNat = nM → ∀ (hc : 0 ≤ c ∧ c ≤ m) (hT : zTJ φ μ) (hf : (∀ r, r ≠ 226 → r ≠ 224 → r ≠ 225 → μ r = μ0 r)) (hct : ∀ c t : Nat, (c : Int) < m → (t : Int) < s → (ch_wt n N 8).testBit t = true → zcost μ c t = (ch_w2 (fun c s : Nat => fa_costs (fr_law ls) N pol m (c : Int) (s : Int)) (fun c s : Nat => decide (fa_costs (fr_law ls) N pol m (c : Int) (s : Int) ≤ N (88 + (c : Int))))) c t) (hcs : ∀ c2 : Nat, (c2 : Int) < c → zcost μ c2 s.toNat = (ch_w2 (fun c s : Nat => fa_costs (fr_law ls) N pol m (c : Int) (s : Int)) (fun c s : Nat => decide (fa_costs (fr_law ls) N pol m (c : Int) (s : Int) ≤ N (88 + (c : Int))))) c2 s.toNat), zW D Wm ST b0 l Sg zM167 bud X 48 [(2, 205), (0, f), (0, s), (0, c)] [] μ := by
  intro nM
  induction nM using Nat.strongRecOn with
  | ind nM ih =>
    intro c μ hn hc hT hf hct hcs
    have g206 : μ 206 = N := (hf 206 (by decide) (by decide) (by decide)).trans hN
    have g209 : μ 209 = pol := (hf 209 (by decide) (by decide) (by decide)).trans hpol
    have g6 : μ 205 6 = n := by rw [hf 205 (by decide) (by decide) (by decide)]; exact hq6
    have g7 : μ 205 7 = m := by rw [hf 205 (by decide) (by decide) (by decide)]; exact hm
    have hLc := fr_L_fr (fun r a b => hf r (by omega) (by omega) (by omega)) hL
    have f6 := zT_get hT zs205_6 (i := 6) (by omega) (by omega)
    have f7 := zT_get hT zs205_7 (i := 7) (by omega) (by omega)
    have es : ((s.toNat : Nat) : Int) = s := by omega
    have ec : ((c.toNat : Nat) : Int) = c := by omega
    have hfk : ∀ r, r ≠ 224 → r ≠ 225 → μ r = μ r := fun _ _ _ => rfl
    have hcb := fa_costs_b (t := fr_law ls) (N := N) (pol := pol) (m := m) (c := c) (s := s)
    have f1 := zT_get hT zs205_7 (i := 7) (by omega) (by omega)
    refine pm_blk hK zmm167 [] 3 53 [(2, 205), (0, f), (0, s), (0, c)] [(0, μ 205 7), (0, c)] μ [] rfl trivial ?_
    refine pm_icmp hK zmm167 .ge 50 103 rfl rfl (fun h0 => ?_) (fun h0 => ?_)
    · have h0 : μ 205 7 ≤ c := h0
      refine pm_hide [3] ?_
      exact K _ hT hf hct (fun c2 h2 => hcs c2 (by omega))
    · have h0 : c < μ 205 7 := h0
      refine pm_blk hK zmm167 [] 10 69 [(2, 205), (0, f), (0, s), (0, c)] [(0, s), (0, c), (2, 205), (0, (8 * c) + s), (2, 226)] μ [pm_in (8 * c), pm_in ((8 * c) + s)] rfl ⟨pm_in_mk (by omega) (by omega), pm_in_mk (by omega) (by omega), trivial⟩ ?_
      have hLk := fr_L_fr (fun r a b => hfk r (by omega) (by omega)) hLc
      refine pm_call hK zmm167 (359, 0, 300, 2) zM300 (4, 94) [(2, 205), (0, c), (0, s)] [(0, (8 * c) + s), (2, 226)] rfl rfl rfl rfl ⟨by omega, by rw [zn300]; omega⟩ (fr_costsOf hK (ls := ls) (N := N) (pol := pol) (mm := m) (c := c) (s := s) ((hfk 206 (by decide) (by decide)).trans g206) ((hfk 209 (by decide) (by decide)).trans g209) (by rw [hfk 205 (by decide) (by decide)]; exact g7) hLk hT ⟨by omega, by omega⟩ ⟨by omega, by omega⟩ hb224 hb225 ⟨Nat.le_refl _, Nat.le_refl _⟩) (fun st1 μc1 hp1 => ?_)
      obtain ⟨rfl, hTc1, hfz1⟩ := hp1
      have hfk : ∀ r, r ≠ 224 → r ≠ 225 → μc1 r = μ r := fun r r1 r2 => (hfz1 r r1 r2).trans (hfk r r1 r2)
      have rp : μc1 206 (88 + c) = N (88 + c) := by rw [hfk 206 (by decide) (by decide), g206]
      have f2 := zT_get hTc1 zs206_88 (i := 88 + c) (by omega) (by omega)
      refine pm_blk hK zmm167 [] 6 81 [(2, 205), (0, f), (0, s), (0, c)] [(0, μc1 206 (88 + c)), (0, fa_costs (fr_law ls) N pol m (c) (s)), (0, (8 * c) + s), (2, 226)] μc1 [pm_in (88 + c), 0 ≤ 88 + c ∧ 88 + c < 160] rfl ⟨pm_in_mk (by omega) (by omega), ⟨by omega, by omega⟩, trivial⟩ ?_
      refine pm_icmp hK zmm167 .gt 12 93 rfl rfl (fun h1 => ?_) (fun h1 => ?_)
      · have h1 : μc1 206 (88 + c) < fa_costs (fr_law ls) N pol m (c) (s) := h1
        refine pm_blk hK zmm167 [] 2 97 [(2, 205), (0, f), (0, s), (0, c)] [] (pm_up μc1 226 ((8 * c) + s) 100000000) [sx_bit Wm 226 = true, 0 ≤ (8 * c) + s ∧ (8 * c) + s < 144] rfl ⟨hb226, ⟨by omega, by omega⟩, trivial⟩ ?_
        obtain ⟨μ1, eμ1⟩ : ∃ μ', μ' = pm_up μc1 226 ((8 * c) + s) 100000000 := ⟨_, rfl⟩
        rw [← eμ1]
        have hTμ1 : zTJ φ μ1 := by rw [eμ1]; exact zT_up hTc1 zs226_0 rfl (i := (8 * c) + s) (by omega) (by omega) (by omega) (by omega)
        have o1 : ∀ r, r ≠ 226 → r ≠ 224 → r ≠ 225 → μ1 r = μ r := fun r h1 h2 h3 => by rw [eμ1, pm_up_row h1]; exact hfk r h2 h3
        have o2 : ∀ i : Int, i ≠ 8 * c + s → μ1 226 i = μ 226 i := fun i hi => by rw [eμ1, pm_up_ne hi, hfk 226 (by decide) (by decide)]
        have o3 : μ1 226 (8 * c + s) = (ch_w2 (fun c s : Nat => fa_costs (fr_law ls) N pol m (c : Int) (s : Int)) (fun c s : Nat => decide (fa_costs (fr_law ls) N pol m (c : Int) (s : Int) ≤ N (88 + (c : Int))))) c.toNat s.toNat := by
          rw [eμ1, pm_up_eq]
          unfold ch_w2
          simp only [ec, es]
          first
          | rw [if_pos (decide_eq_true (by omega))]
          | rw [if_neg (fun q9 => by have := of_decide_eq_true q9; omega)]
          | (exfalso; omega)
        refine pm_blk hK zmm167 [] 2 48 [(2, 205), (0, f), (0, s), (0, c + 1)] [] μ1 [pm_in (c + 1)] rfl ⟨pm_in_mk (by omega) (by omega), trivial⟩ ?_
        refine ih _ (by omega) rfl ⟨by omega, by omega⟩ hTμ1 (fun r h1 h2 h3 => (o1 r h1 h2 h3).trans (hf r h1 h2 h3)) (fun c2 t h1 h2 h3 => ?_) (fun c2 h2 => ?_)
        · show μ1 226 (8 * (c2 : Int) + (t : Int)) = _
          rw [o2 _ (by omega)]
          exact hct c2 t h1 h2 h3
        · by_cases hcc : (c2 : Int) = c
          · show μ1 226 (8 * (c2 : Int) + ((s.toNat : Nat) : Int)) = _
            rw [hcc, es, o3, show c2 = c.toNat by omega]
          · show μ1 226 (8 * (c2 : Int) + ((s.toNat : Nat) : Int)) = _
            rw [o2 _ (by omega)]
            exact hcs c2 (by omega)
      · have h1 : fa_costs (fr_law ls) N pol m (c) (s) ≤ μc1 206 (88 + c) := h1
        refine pm_blk hK zmm167 [] 3 87 [(2, 205), (0, f), (0, s), (0, c)] [(0, s), (0, c), (2, 205), (0, (8 * c) + s), (2, 226)] μc1 [] rfl trivial ?_
        have hLk := fr_L_fr (fun r a b => hfk r (by omega) (by omega)) hLc
        refine pm_call hK zmm167 (359, 0, 300, 2) zM300 (4, 94) [(2, 205), (0, c), (0, s)] [(0, (8 * c) + s), (2, 226)] rfl rfl rfl rfl ⟨by omega, by rw [zn300]; omega⟩ (fr_costsOf hK (ls := ls) (N := N) (pol := pol) (mm := m) (c := c) (s := s) ((hfk 206 (by decide) (by decide)).trans g206) ((hfk 209 (by decide) (by decide)).trans g209) (by rw [hfk 205 (by decide) (by decide)]; exact g7) hLk hTc1 ⟨by omega, by omega⟩ ⟨by omega, by omega⟩ hb224 hb225 ⟨Nat.le_refl _, Nat.le_refl _⟩) (fun st2 μc2 hp2 => ?_)
        obtain ⟨rfl, hTc2, hfz2⟩ := hp2
        have hfk : ∀ r, r ≠ 224 → r ≠ 225 → μc2 r = μ r := fun r r1 r2 => (hfz2 r r1 r2).trans (hfk r r1 r2)
        refine pm_blk hK zmm167 [] 2 97 [(2, 205), (0, f), (0, s), (0, c)] [] (pm_up μc2 226 ((8 * c) + s) (fa_costs (fr_law ls) N pol m (c) (s))) [sx_bit Wm 226 = true, 0 ≤ (8 * c) + s ∧ (8 * c) + s < 144] rfl ⟨hb226, ⟨by omega, by omega⟩, trivial⟩ ?_
        obtain ⟨μ2, eμ2⟩ : ∃ μ', μ' = pm_up μc2 226 ((8 * c) + s) (fa_costs (fr_law ls) N pol m (c) (s)) := ⟨_, rfl⟩
        rw [← eμ2]
        have hTμ2 : zTJ φ μ2 := by rw [eμ2]; exact zT_up hTc2 zs226_0 rfl (i := (8 * c) + s) (by omega) (by omega) (by omega) (by omega)
        have o1 : ∀ r, r ≠ 226 → r ≠ 224 → r ≠ 225 → μ2 r = μ r := fun r h1 h2 h3 => by rw [eμ2, pm_up_row h1]; exact hfk r h2 h3
        have o2 : ∀ i : Int, i ≠ 8 * c + s → μ2 226 i = μ 226 i := fun i hi => by rw [eμ2, pm_up_ne hi, hfk 226 (by decide) (by decide)]
        have o3 : μ2 226 (8 * c + s) = (ch_w2 (fun c s : Nat => fa_costs (fr_law ls) N pol m (c : Int) (s : Int)) (fun c s : Nat => decide (fa_costs (fr_law ls) N pol m (c : Int) (s : Int) ≤ N (88 + (c : Int))))) c.toNat s.toNat := by
          rw [eμ2, pm_up_eq]
          unfold ch_w2
          simp only [ec, es]
          first
          | rw [if_pos (decide_eq_true (by omega))]
          | rw [if_neg (fun q9 => by have := of_decide_eq_true q9; omega)]
          | (exfalso; omega)
        refine pm_blk hK zmm167 [] 2 48 [(2, 205), (0, f), (0, s), (0, c + 1)] [] μ2 [pm_in (c + 1)] rfl ⟨pm_in_mk (by omega) (by omega), trivial⟩ ?_
        refine ih _ (by omega) rfl ⟨by omega, by omega⟩ hTμ2 (fun r h1 h2 h3 => (o1 r h1 h2 h3).trans (hf r h1 h2 h3)) (fun c2 t h1 h2 h3 => ?_) (fun c2 h2 => ?_)
        · show μ2 226 (8 * (c2 : Int) + (t : Int)) = _
          rw [o2 _ (by omega)]
          exact hct c2 t h1 h2 h3
        · by_cases hcc : (c2 : Int) = c
          · show μ2 226 (8 * (c2 : Int) + ((s.toNat : Nat) : Int)) = _
            rw [hcc, es, o3, show c2 = c.toNat by omega]
          · show μ2 226 (8 * (c2 : Int) + ((s.toNat : Nat) : Int)) = _
            rw [o2 _ (by omega)]
            exact hcs c2 (by omega)
set_option maxRecDepth 100000 in
theorem cr_tb1 (hK : zKK ST)  {μ0 : pm_Mem} {N pol : Int → Int} {n m : Int} (hN : μ0 206 = N) (hpol : μ0 209 = pol) (hq6 : μ0 205 6 = n) (hm : μ0 205 7 = m) (hgd : ∀ s : Int, 0 ≤ s → s < 12 → 0 ≤ N (4 + s)) {ls : List (Int × List zIw × List zIw)} (hL : fr_L μ0 0 ls) (hb224 : sx_bit Wm 224 = true) (hb225 : sx_bit Wm 225 = true) (hb226 : sx_bit Wm 226 = true) (hbd : 5 ≤ bud.1 ∧ 116 ≤ bud.2.1) : ∀ (nM : Nat) {f s : Int} {μ : pm_Mem}, (8 - s).toNat = nM → ∀ (hs : 0 ≤ s ∧ s ≤ 8) (hff : f = ((ch_wt n N s.toNat : Nat) : Int)) (hT : zTJ φ μ) (hf : (∀ r, r ≠ 226 → r ≠ 224 → r ≠ 225 → μ r = μ0 r)) (hct : ∀ c t : Nat, (c : Int) < m → (t : Int) < s → (ch_wt n N 8).testBit t = true → zcost μ c t = (ch_w2 (fun c s : Nat => fa_costs (fr_law ls) N pol m (c : Int) (s : Int)) (fun c s : Nat => decide (fa_costs (fr_law ls) N pol m (c : Int) (s : Int) ≤ N (88 + (c : Int))))) c t), zW D Wm ST b0 l Sg zM167 bud (pm_X zM167 (fun st' μ' => st' = [(0, ((ch_wt n N 8 : Nat) : Int))] ∧ zTJ φ μ' ∧ (∀ r, r ≠ 226 → r ≠ 224 → r ≠ 225 → μ' r = μ0 r) ∧ (∀ c t : Nat, (c : Int) < m → (ch_wt n N 8).testBit t = true → zcost μ' c t = (ch_w2 (fun c s : Nat => fa_costs (fr_law ls) N pol m (c : Int) (s : Int)) (fun c s : Nat => decide (fa_costs (fr_law ls) N pol m (c : Int) (s : Int) ≤ N (88 + (c : Int))))) c t))) 4 [(2, 205), (0, f), (0, s), (9, 0)] [] μ := by
  intro nM
  induction nM using Nat.strongRecOn with
  | ind nM ih =>
    intro f s μ hn hs hff hT hf hct
    have g206 : μ 206 = N := (hf 206 (by decide) (by decide) (by decide)).trans hN
    have g209 : μ 209 = pol := (hf 209 (by decide) (by decide) (by decide)).trans hpol
    have g6 : μ 205 6 = n := by rw [hf 205 (by decide) (by decide) (by decide)]; exact hq6
    have g7 : μ 205 7 = m := by rw [hf 205 (by decide) (by decide) (by decide)]; exact hm
    have hLc := fr_L_fr (fun r a b => hf r (by omega) (by omega) (by omega)) hL
    have f6 := zT_get hT zs205_6 (i := 6) (by omega) (by omega)
    have f7 := zT_get hT zs205_7 (i := 7) (by omega) (by omega)
    have es : ((s.toNat : Nat) : Int) = s := by omega
    have e1 : (s + 1).toNat = s.toNat + 1 := by omega
    have hlt := ch_wt_b (n := n) (N := N) (k := s.toNat) (by omega)
    have rg : s < 12 → 0 ≤ N (4 + s) ∧ μ 206 (4 + s) = N (4 + s) ∧ μ 206 (40 + s) = N (40 + s) := fun h => ⟨hgd s hs.1 h, by rw [g206], by rw [g206]⟩
    refine pm_blk hK zmm167 [] 2 7 [(2, 205), (0, f), (0, s), (9, 0)] [(0, 8), (0, s)] μ [] rfl trivial ?_
    refine pm_icmp hK zmm167 .ge 102 109 rfl rfl (fun h0 => ?_) (fun h0 => ?_)
    · have h0 : (8 : Int) ≤ s := h0
      refine pm_blk hK zmm167 [] 1 110 [(2, 205), (0, f), (0, s), (9, 0)] [(0, f)] μ [] rfl trivial ?_
      first
      | (have ek : s.toNat = 8 := (by omega)
         exact pm_iret rfl rfl ⟨by rw [hff, ek], hT, hf, fun c t h1 h3 => hct c t h1 (by have := ((ch_wt_t n N 8 t).mp h3).1; omega) h3⟩)
      | exact pm_iret rfl rfl ⟨by rw [hff, ch_wt_end (n := n) (N := N) (s := s.toNat) (by omega) 8 (by omega)], hT, hf, fun c t h1 h3 => hct c t h1 (by have := ((ch_wt_t n N 8 t).mp h3).2.1.1; omega) h3⟩
      | (exfalso; omega)
    · have h0 : s < (8 : Int) := h0
      have f1 := zT_get hT zs205_6 (i := 6) (by omega) (by omega)
      refine pm_blk hK zmm167 [] 3 15 [(2, 205), (0, f), (0, s), (9, 0)] [(0, μ 205 6), (0, s)] μ [] rfl trivial ?_
      refine pm_icmp hK zmm167 .ge 94 109 rfl rfl (fun h1 => ?_) (fun h1 => ?_)
      · have h1 : μ 205 6 ≤ s := h1
        refine pm_blk hK zmm167 [] 1 110 [(2, 205), (0, f), (0, s), (9, 0)] [(0, f)] μ [] rfl trivial ?_
        first
        | (have ek : s.toNat = 8 := (by omega)
           exact pm_iret rfl rfl ⟨by rw [hff, ek], hT, hf, fun c t h1 h3 => hct c t h1 (by have := ((ch_wt_t n N 8 t).mp h3).1; omega) h3⟩)
        | exact pm_iret rfl rfl ⟨by rw [hff, ch_wt_end (n := n) (N := N) (s := s.toNat) (by omega) 8 (by omega)], hT, hf, fun c t h1 h3 => hct c t h1 (by have := ((ch_wt_t n N 8 t).mp h3).2.1.1; omega) h3⟩
        | (exfalso; omega)
      · have h1 : s < μ 205 6 := h1
        refine pm_blk hK zmm167 [] 2 20 [(2, 205), (0, f), (0, s), (9, 0)] [(0, s), (2, 205)] μ [] rfl trivial ?_
        refine pm_call hK zmm167 (356, 0, 297, 1) zM297 (0, 0) [(2, 205), (0, s)] [] rfl rfl rfl rfl ⟨by omega, by rw [zn297]; omega⟩ (zh_isOpen hK (s := s) hT ⟨by omega, by omega⟩ ⟨Nat.le_refl _, Nat.le_refl _⟩) (fun st1 μc1 hp1 => ?_)
        obtain ⟨rfl, rfl⟩ := hp1
        refine pm_if hK zmm167 .eq 80 103 rfl rfl (fun h2 => ?_) (fun h2 => ?_)
        · have h2 : (if μ 206 (40 + s) = 0 then 1 else 0 : Int) = (0 : Int) := h2
          have h2 := zif0 h2
          refine pm_blk hK zmm167 [] 2 4 [(2, 205), (0, f), (0, s + 1), (9, 0)] [] μ [pm_in (s + 1)] rfl ⟨pm_in_mk (by omega) (by omega), trivial⟩ ?_
          have hno : ¬ ((((s.toNat : Nat) : Int) < n ∧ N (40 + ((s.toNat : Nat) : Int)) = 0) ∧ N (4 + ((s.toNat : Nat) : Int)) ≠ 0) := by rw [es]; intro q9; have r9 := rg (by omega); omega
          refine ih _ (by omega) rfl ⟨by omega, by omega⟩ (by rw [e1, ch_wt_n hno]; exact hff) hT hf (fun c t h1 h2 h3 => ?_)
          by_cases hts : (t : Int) = s
          · have hb9 := ((ch_wt_t n N 8 t).mp h3).2
            rw [show t = s.toNat by omega] at hb9
            exact absurd hb9 hno
          · exact hct c t h1 (by omega) h3
        · have h2 : (if μ 206 (40 + s) = 0 then 1 else 0 : Int) ≠ (0 : Int) := h2
          have h2 := zif1 h2
          have f2 := zT_get hT zs206_4 (i := 4 + s) (by omega) (by omega)
          refine pm_blk hK zmm167 [] 6 34 [(2, 205), (0, f), (0, s), (9, 0)] [(0, μ 206 (4 + s))] μ [pm_in (4 + s), 0 ≤ 4 + s ∧ 4 + s < 160] rfl ⟨pm_in_mk (by omega) (by omega), ⟨by omega, by omega⟩, trivial⟩ ?_
          refine pm_if hK zmm167 .ne 6 40 rfl rfl (fun h3 => ?_) (fun h3 => ?_)
          · have h3 : μ 206 (4 + s) ≠ (0 : Int) := h3
            have hp8 : 2 ^ s.toNat ≤ 256 := Nat.le_trans (Nat.pow_le_pow_right (by decide) (by omega)) (show (2 : Nat) ^ 8 ≤ 256 by decide)
            have hz := zshl1 s.toNat (by omega)
            rw [es] at hz
            have hz2 : pm_or f (pm_shl 1 s) = ((ch_wt n N s.toNat ||| 2 ^ s.toNat : Nat) : Int) := by
              obtain ⟨p9, hp9⟩ : ∃ p : Nat, p = 2 ^ s.toNat := ⟨_, rfl⟩
              rw [← hp9] at hz hp8 ⊢
              rw [hz, hff, zor (by omega) (by omega) (by omega) (by omega), Int.toNat_natCast, Int.toNat_natCast]
            have hyes : ((((s.toNat : Nat) : Int) < n ∧ N (40 + ((s.toNat : Nat) : Int)) = 0) ∧ N (4 + ((s.toNat : Nat) : Int)) ≠ 0) := by rw [es]; have r9 := rg (by omega); omega
            refine pm_blk hK zmm167 [] 8 48 [(2, 205), (0, pm_or f (pm_shl 1 s)), (0, s), (0, 0)] [] μ [] rfl trivial ?_
            refine cr_tb2 hK hN hpol hq6 hm hgd hL hb224 hb225 hb226 ⟨by omega, by omega⟩ (fun μ2 k1 k2 k3 k4 => ?_) hbd _ (c := 0) rfl ⟨by omega, by omega⟩ hT hf hct (fun c2 h2 => absurd h2 (by omega))
            refine pm_blk hK zmm167 [] 2 4 [(2, 205), (0, pm_or f (pm_shl 1 s)), (0, s + 1), (9, 0)] [] μ2 [pm_in (s + 1)] rfl ⟨pm_in_mk (by omega) (by omega), trivial⟩ ?_
            refine ih _ (by omega) rfl ⟨by omega, by omega⟩ (by rw [e1, ch_wt_y hyes]; exact hz2) k1 k2 (fun c t h1 h2 h3 => ?_)
            by_cases hts : (t : Int) = s
            · rw [show t = s.toNat by omega]; exact k4 c h1
            · exact k3 c t h1 (by omega) h3
          · have h3 : μ 206 (4 + s) = (0 : Int) := h3
            refine pm_blk hK zmm167 [] 3 4 [(2, 205), (0, f), (0, s + 1), (9, 0)] [] μ [pm_in (s + 1)] rfl ⟨pm_in_mk (by omega) (by omega), trivial⟩ ?_
            have hno : ¬ ((((s.toNat : Nat) : Int) < n ∧ N (40 + ((s.toNat : Nat) : Int)) = 0) ∧ N (4 + ((s.toNat : Nat) : Int)) ≠ 0) := by rw [es]; intro q9; have r9 := rg (by omega); omega
            refine ih _ (by omega) rfl ⟨by omega, by omega⟩ (by rw [e1, ch_wt_n hno]; exact hff) hT hf (fun c t h1 h2 h3 => ?_)
            by_cases hts : (t : Int) = s
            · have hb9 := ((ch_wt_t n N 8 t).mp h3).2
              rw [show t = s.toNat by omega] at hb9
              exact absurd hb9 hno
            · exact hct c t h1 (by omega) h3
set_option maxRecDepth 100000 in
theorem cr_tbs (hK : zKK ST) (hT : zTJ φ μ) {N pol : Int → Int} {n m : Int} (hN : μ 206 = N) (hpol : μ 209 = pol) (hq6 : μ 205 6 = n) (hm : μ 205 7 = m) (hgd : ∀ s : Int, 0 ≤ s → s < 12 → 0 ≤ N (4 + s)) {ls : List (Int × List zIw × List zIw)} (hL : fr_L μ 0 ls) (hb224 : sx_bit Wm 224 = true) (hb225 : sx_bit Wm 225 = true) (hb226 : sx_bit Wm 226 = true) (hbd : 5 ≤ bud.1 ∧ 116 ≤ bud.2.1) : zC D Wm ST b0 l Sg zM167 bud [(2, 205)] μ (fun st' μ' => st' = [(0, ((ch_wt n N 8 : Nat) : Int))] ∧ zTJ φ μ' ∧ (∀ r, r ≠ 226 → r ≠ 224 → r ≠ 225 → μ' r = μ r) ∧ (∀ c t : Nat, (c : Int) < m → (ch_wt n N 8).testBit t = true → zcost μ' c t = (ch_w2 (fun c s : Nat => fa_costs (fr_law ls) N pol m (c : Int) (s : Int)) (fun c s : Nat => decide (fa_costs (fr_law ls) N pol m (c : Int) (s : Int) ≤ N (88 + (c : Int))))) c t)) := by
  refine pm_blk hK zmm167 [] 4 4 [(2, 205), (0, 0), (0, 0), (9, 0)] [] μ [] rfl trivial ?_
  exact cr_tb1 hK hN hpol hq6 hm hgd hL hb224 hb225 hb226 hbd _ (s := 0) rfl ⟨by omega, by omega⟩ rfl hT (fun _ _ _ _ => rfl) (fun c t h1 h2 h3 => absurd h2 (by omega))
end ZHW
