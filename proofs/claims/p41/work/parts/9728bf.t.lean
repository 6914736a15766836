/-! F: the reference: an hour's rounds, its turns, its end; walks printed by program (wip/p30/pmgen.py) and filled by hand -/
section ZHW
variable {φ : Option pm_Mem}
variable {D : va_G} {Wm : Nat} {ST : List (String × String × String × Nat)} {b0 : sx_B} {l : Launch} {Sg : Nat → Option Nat} {bud : sx_Bu} {μ : pm_Mem} {B0 : Nat → Prop} {J : (Nat → Option Nat) → Heap → Prop}
set_option maxRecDepth 100000 in
theorem fr_rnd (hK : zKK ST) {X : Nat → List pm_V → List pm_V → pm_Mem → Prop} {μ0 : pm_Mem} {N B : Int → Int} (hb206 : sx_bit Wm 206 = true) (K : ∀ (μ : pm_Mem), zTJ φ μ → μ 206 = fa_rounds (μ0 221) N (μ0 205 33).toNat → μ 210 = B → (∀ r, r ≠ 206 → r ≠ 210 → r ≠ 224 → r ≠ 225 → μ r = μ0 r) → zW D Wm ST b0 l Sg zM155 bud X 90 [(2, 205), (9, 0), (9, 0), (9, 0), (9, 0)] [] μ) (hbd : 7 ≤ bud.1 ∧ 170 ≤ bud.2.1) : ∀ (n : Nat) {k z : Int} {μ : pm_Mem}, (16 - z).toNat = n → ∀ (hk : k = 3 * z) (hz : 0 ≤ z ∧ z ≤ μ0 205 33) (hT : zTJ φ μ) (hn : μ 206 = fa_rounds (μ0 221) N z.toNat) (hB : μ 210 = B) (hf0 : (∀ r, r ≠ 206 → r ≠ 210 → r ≠ 224 → r ≠ 225 → μ r = μ0 r)), zW D Wm ST b0 l Sg zM155 bud X 15 [(2, 205), (0, k), (9, 0), (9, 0), (9, 0)] [] μ := by
  intro n
  induction n using Nat.strongRecOn with
  | ind n ih =>
    intro k z μ hn hk hz hT hn hB hf0
    have fq := zT_get hT zs205_33 (i := 33) (by omega) (by omega)
    have g33 : μ 205 33 = μ0 205 33 := by rw [hf0 205 (by decide) (by decide) (by decide) (by decide)]
    have g221 := hf0 221 (by decide) (by decide) (by decide) (by decide)
    have ez : 3 * ((z.toNat : Nat) : Int) = k := by omega
    have e1 : (z + 1).toNat = z.toNat + 1 := by omega
    have f1 := zT_get hT zs205_33 (i := 33) (by omega) (by omega)
    refine pm_blk hK zmm155 [] 5 22 [(2, 205), (0, k), (9, 0), (9, 0), (9, 0)] [(0, 3 * (μ 205 33)), (0, k)] μ [pm_in (3 * (μ 205 33))] rfl ⟨pm_in_mk (by omega) (by omega), trivial⟩ ?_
    refine pm_icmp hK zmm155 .ge 68 90 rfl rfl (fun h0 => ?_) (fun h0 => ?_)
    · have h0 : 3 * (μ 205 33) ≤ k := h0
      refine pm_hide [1] ?_
      have ek : z.toNat = (μ0 205 33).toNat := by omega
      exact K _ hT (by rw [hn, ek]) hB hf0
    · have h0 : k < 3 * (μ 205 33) := h0
      have f2 := zT_getp hT zp221_2 (i := k + 2) (z := z) (by omega) (by omega) (by omega)
      have f3 := zT_getp hT zp221_1 (i := k + 1) (z := z) (by omega) (by omega) (by omega)
      have f4 := zT_get hT zs206_1 (i := 1) (by omega) (by omega)
      refine pm_blk hK zmm155 [] 19 50 [(2, 205), (0, k), (0, (μ 221 (k + 2)) - 1), (9, 0), (9, 0)] [(0, μ 206 1), (0, μ 221 (k + 1))] μ [pm_in (k + 2), 0 ≤ k + 2 ∧ k + 2 < 96, pm_in ((μ 221 (k + 2)) - 1), pm_in (k + 1), 0 ≤ k + 1 ∧ k + 1 < 96, 0 ≤ 1 ∧ 1 < 160] rfl ⟨pm_in_mk (by omega) (by omega), ⟨by omega, by omega⟩, pm_in_mk (by omega) (by omega), pm_in_mk (by omega) (by omega), ⟨by omega, by omega⟩, ⟨by omega, by omega⟩, trivial⟩ ?_
      refine pm_icmp hK zmm155 .ne 33 83 rfl rfl (fun h1 => ?_) (fun h1 => ?_)
      · have h1 : μ 221 (k + 1) ≠ μ 206 1 := h1
        refine pm_blk hK zmm155 [] 5 15 [(2, 205), (0, k + 3), (0, (μ 221 (k + 2)) - 1), (9, 0), (9, 0)] [] μ [pm_in (k + 3)] rfl ⟨pm_in_mk (by omega) (by omega), trivial⟩ ?_
        refine pm_hide [2] ?_
        first
        | exact ih _ (by omega) (k := k + 3) (z := z + 1) rfl (by omega) ⟨by omega, by omega⟩ hT n1 b1 h1
        | exact ih _ (by omega) (k := k + 3) (z := z + 1) rfl (by omega) ⟨by omega, by omega⟩ hT (by rw [e1, fa_rounds_n (by rw [ez, ← hn, ← g221]; omega)]; exact hn) hB hf0
        | (exfalso; omega)
      · have h1 : μ 221 (k + 1) = μ 206 1 := h1
        refine pm_blk hK zmm155 [] 2 55 [(2, 205), (0, k), (0, (μ 221 (k + 2)) - 1), (9, 0), (9, 0)] [(0, (-1)), (0, (μ 221 (k + 2)) - 1)] μ [] rfl trivial ?_
        refine pm_icmp hK zmm155 .eq 11 66 rfl rfl (fun h2 => ?_) (fun h2 => ?_)
        · have h2 : (μ 221 (k + 2)) - 1 = ((-1) : Int) := h2
          have f5 := zT_getp hT zp221_0 (i := k) (z := z) (by omega) (by omega) (by omega)
          refine pm_blk hK zmm155 [] 12 83 [(2, 205), (0, k), (0, (μ 221 (k + 2)) - 1), (9, 0), (9, 0)] [] (pm_up μ 206 (106 + (μ 221 k)) (((μ 221 (k + 2)) - 1) + 1)) [0 ≤ k ∧ k < 96, pm_in (106 + (μ 221 k)), pm_in (((μ 221 (k + 2)) - 1) + 1), sx_bit Wm 206 = true, 0 ≤ 106 + (μ 221 k) ∧ 106 + (μ 221 k) < 160] rfl ⟨⟨by omega, by omega⟩, pm_in_mk (by omega) (by omega), pm_in_mk (by omega) (by omega), hb206, ⟨by omega, by omega⟩, trivial⟩ ?_
          obtain ⟨μ1, eμ1⟩ : ∃ μ', μ' = pm_up μ 206 (106 + (μ 221 k)) (((μ 221 (k + 2)) - 1) + 1) := ⟨_, rfl⟩
          rw [← eμ1]
          have hTμ1 : zTJ φ μ1 := by rw [eμ1]; exact zT_now hT ⟨by omega, by omega⟩ ⟨by omega, by omega⟩
          have v2 : μ 221 (k + 2) - 1 + 1 = μ 221 (k + 2) := by omega
          have n1 : μ1 206 = fa_rounds (μ0 221) N (z + 1).toNat := by
            rw [eμ1, fa_pm, e1, fa_rounds_y (by rw [ez, ← hn, ← g221]; omega), ez, ← hn, ← g221, v2]
          have b1 : μ1 210 = B := by rw [eμ1, pm_up_row (by decide), hB]
          have h1 : (∀ r, r ≠ 206 → r ≠ 210 → r ≠ 224 → r ≠ 225 → μ1 r = μ0 r) := fun r a b c d => (by rw [eμ1, pm_up_row a] : μ1 r = μ r).trans (hf0 r a b c d)
          refine pm_blk hK zmm155 [] 5 15 [(2, 205), (0, k + 3), (0, (μ 221 (k + 2)) - 1), (9, 0), (9, 0)] [] μ1 [pm_in (k + 3)] rfl ⟨pm_in_mk (by omega) (by omega), trivial⟩ ?_
          refine pm_hide [2] ?_
          first
          | exact ih _ (by omega) (k := k + 3) (z := z + 1) rfl (by omega) ⟨by omega, by omega⟩ hTμ1 n1 b1 h1
          | exact ih _ (by omega) (k := k + 3) (z := z + 1) rfl (by omega) ⟨by omega, by omega⟩ hTμ1 (by rw [e1, fa_rounds_n (by rw [ez, ← hn, ← g221]; omega)]; exact hn) hB hf0
          | (exfalso; omega)
        · have h2 : (μ 221 (k + 2)) - 1 ≠ ((-1) : Int) := h2
          refine pm_blk hK zmm155 [] 2 60 [(2, 205), (0, k), (0, (μ 221 (k + 2)) - 1), (9, 0), (9, 0)] [(0, (μ 221 (k + 2)) - 1), (2, 205)] μ [] rfl trivial ?_
          refine pm_call hK zmm155 (356, 0, 297, 1) zM297 (0, 0) [(2, 205), (0, (μ 221 (k + 2)) - 1)] [] rfl rfl rfl rfl ⟨by omega, by rw [zn297]; omega⟩ (zh_isOpen hK (s := ((μ 221 (k + 2)) - 1)) hT ⟨by omega, by omega⟩ ⟨Nat.le_refl _, Nat.le_refl _⟩) (fun st1 μc1 hp1 => ?_)
          obtain ⟨rfl, rfl⟩ := hp1
          refine pm_if hK zmm155 .eq 20 83 rfl rfl (fun h3 => ?_) (fun h3 => ?_)
          · have h3 : (if μ 206 (40 + ((μ 221 (k + 2)) - 1)) = 0 then 1 else 0 : Int) = (0 : Int) := h3
            have h3 := zif0 h3
            refine pm_blk hK zmm155 [] 5 15 [(2, 205), (0, k + 3), (0, (μ 221 (k + 2)) - 1), (9, 0), (9, 0)] [] μ [pm_in (k + 3)] rfl ⟨pm_in_mk (by omega) (by omega), trivial⟩ ?_
            refine pm_hide [2] ?_
            first
            | exact ih _ (by omega) (k := k + 3) (z := z + 1) rfl (by omega) ⟨by omega, by omega⟩ hT n1 b1 h1
            | exact ih _ (by omega) (k := k + 3) (z := z + 1) rfl (by omega) ⟨by omega, by omega⟩ hT (by rw [e1, fa_rounds_n (by rw [ez, ← hn, ← g221]; omega)]; exact hn) hB hf0
            | (exfalso; omega)
          · have h3 : (if μ 206 (40 + ((μ 221 (k + 2)) - 1)) = 0 then 1 else 0 : Int) ≠ (0 : Int) := h3
            have h3 := zif1 h3
            have f6 := zT_getp hT zp221_0 (i := k) (z := z) (by omega) (by omega) (by omega)
            refine pm_blk hK zmm155 [] 12 83 [(2, 205), (0, k), (0, (μ 221 (k + 2)) - 1), (9, 0), (9, 0)] [] (pm_up μ 206 (106 + (μ 221 k)) (((μ 221 (k + 2)) - 1) + 1)) [0 ≤ k ∧ k < 96, pm_in (106 + (μ 221 k)), pm_in (((μ 221 (k + 2)) - 1) + 1), sx_bit Wm 206 = true, 0 ≤ 106 + (μ 221 k) ∧ 106 + (μ 221 k) < 160] rfl ⟨⟨by omega, by omega⟩, pm_in_mk (by omega) (by omega), pm_in_mk (by omega) (by omega), hb206, ⟨by omega, by omega⟩, trivial⟩ ?_
            obtain ⟨μ2, eμ2⟩ : ∃ μ', μ' = pm_up μ 206 (106 + (μ 221 k)) (((μ 221 (k + 2)) - 1) + 1) := ⟨_, rfl⟩
            rw [← eμ2]
            have hTμ2 : zTJ φ μ2 := by rw [eμ2]; exact zT_now hT ⟨by omega, by omega⟩ ⟨by omega, by omega⟩
            have v2 : μ 221 (k + 2) - 1 + 1 = μ 221 (k + 2) := by omega
            have n1 : μ2 206 = fa_rounds (μ0 221) N (z + 1).toNat := by
              rw [eμ2, fa_pm, e1, fa_rounds_y (by rw [ez, ← hn, ← g221]; omega), ez, ← hn, ← g221, v2]
            have b1 : μ2 210 = B := by rw [eμ2, pm_up_row (by decide), hB]
            have h1 : (∀ r, r ≠ 206 → r ≠ 210 → r ≠ 224 → r ≠ 225 → μ2 r = μ0 r) := fun r a b c d => (by rw [eμ2, pm_up_row a] : μ2 r = μ r).trans (hf0 r a b c d)
            refine pm_blk hK zmm155 [] 5 15 [(2, 205), (0, k + 3), (0, (μ 221 (k + 2)) - 1), (9, 0), (9, 0)] [] μ2 [pm_in (k + 3)] rfl ⟨pm_in_mk (by omega) (by omega), trivial⟩ ?_
            refine pm_hide [2] ?_
            first
            | exact ih _ (by omega) (k := k + 3) (z := z + 1) rfl (by omega) ⟨by omega, by omega⟩ hTμ2 n1 b1 h1
            | exact ih _ (by omega) (k := k + 3) (z := z + 1) rfl (by omega) ⟨by omega, by omega⟩ hTμ2 (by rw [e1, fa_rounds_n (by rw [ez, ← hn, ← g221]; omega)]; exact hn) hB hf0
            | (exfalso; omega)
set_option maxRecDepth 100000 in
theorem fr_tur (hK : zKK ST)  {μ0 : pm_Mem} {S : fa_St} {th : Bool} (hth : fa_th th μ0) {ls : List (Int × List zIw × List zIw)} (hL : fr_L μ0 0 ls) (hb206 : sx_bit Wm 206 = true) (hb210 : sx_bit Wm 210 = true) (hb224 : sx_bit Wm 224 = true) (hb225 : sx_bit Wm 225 = true) (hbd : 7 ≤ bud.1 ∧ 170 ≤ bud.2.1) : ∀ (n : Nat) {q c : Int} {μ : pm_Mem}, (18 - c).toNat = n → ∀ (hc : 0 ≤ c ∧ c ≤ μ0 205 7) (hqb : 0 ≤ q ∧ q ≤ c) (hT : zTJ φ μ) (hq : q = fa_dids th (fr_law ls) (μ0 209) (μ0 205 7) c.toNat S) (hn : (μ 206, μ 210) = fa_turns th (fr_law ls) (μ0 209) (μ0 205 7) c.toNat S) (hf0 : (∀ r, r ≠ 206 → r ≠ 210 → r ≠ 224 → r ≠ 225 → μ r = μ0 r)), zW D Wm ST b0 l Sg zM155 bud (pm_X zM155 (fun st' μ' => st' = [(0, fa_dids th (fr_law ls) (μ0 209) (μ0 205 7) (μ0 205 7).toNat S)] ∧ zTJ φ μ' ∧ (μ' 206, μ' 210) = fa_end th (fr_law ls) (μ0 209) (μ0 205 6) (μ0 205 7) (fa_turns th (fr_law ls) (μ0 209) (μ0 205 7) (μ0 205 7).toNat S) ∧ (∀ r, r ≠ 206 → r ≠ 210 → r ≠ 224 → r ≠ 225 → μ' r = μ0 r))) 94 [(2, 205), (0, q), (0, c), (9, 0), (9, 0)] [] μ := by
  intro n
  induction n using Nat.strongRecOn with
  | ind n ih =>
    intro q c μ hn hc hqb hT hq hn hf0
    have f7 := zT_get hT zs205_7 (i := 7) (by omega) (by omega)
    have m7 : μ 205 7 = μ0 205 7 := by rw [hf0 205 (by decide) (by decide) (by decide) (by decide)]
    have hF := hf0
    have f1 := zT_get hT zs205_7 (i := 7) (by omega) (by omega)
    refine pm_blk hK zmm155 [] 3 99 [(2, 205), (0, q), (0, c), (9, 0), (9, 0)] [(0, μ 205 7), (0, c)] μ [] rfl trivial ?_
    refine pm_icmp hK zmm155 .ge 84 183 rfl rfl (fun h0 => ?_) (fun h0 => ?_)
    · have h0 : μ 205 7 ≤ c := h0
      have f2 := zT_get hT zs206_1 (i := 1) (by omega) (by omega)
      refine pm_blk hK zmm155 [] 5 191 [(2, 205), (0, q), (0, c), (9, 0), (9, 0)] [(0, 11), (0, μ 206 1)] μ [0 ≤ 1 ∧ 1 < 160] rfl ⟨⟨by omega, by omega⟩, trivial⟩ ?_
      refine pm_icmp hK zmm155 .ne 10 201 rfl rfl (fun h1 => ?_) (fun h1 => ?_)
      · have h1 : μ 206 1 ≠ (11 : Int) := h1
        refine pm_blk hK zmm155 [] 10 215 [(2, 205), (0, q), (0, c), (9, 0), (9, 0)] [] (pm_up μ 206 1 ((μ 206 1) + 1)) [0 ≤ 1 ∧ 1 < 160, pm_in ((μ 206 1) + 1), sx_bit Wm 206 = true, 0 ≤ 1 ∧ 1 < 160] rfl ⟨⟨by omega, by omega⟩, pm_in_mk (by omega) (by omega), hb206, ⟨by omega, by omega⟩, trivial⟩ ?_
        obtain ⟨μ1, eμ1⟩ : ∃ μ', μ' = pm_up μ 206 1 ((μ 206 1) + 1) := ⟨_, rfl⟩
        rw [← eμ1]
        have hTμ1 : zTJ φ μ1 := by rw [eμ1]; exact zT_up hT zs206_1 rfl (i := 1) (by omega) (by omega) (by omega) (by omega)
        have n1 : μ1 206 = fa_up (μ 206) 1 (μ 206 1 + 1) := by rw [eμ1, fa_pm]
        have b1 : μ1 210 = μ 210 := by rw [eμ1, pm_up_row (by decide)]
        have h1 : (∀ r, r ≠ 206 → r ≠ 210 → r ≠ 224 → r ≠ 225 → μ1 r = μ0 r) := fun r a b c d => (by rw [eμ1, pm_up_row a] : μ1 r = μ r).trans (hf0 r a b c d)
        refine pm_blk hK zmm155 [] 1 216 [(2, 205), (0, q), (0, c), (9, 0), (9, 0)] [(0, q)] μ1 [] rfl trivial ?_
        have ek : c.toNat = (μ0 205 7).toNat := by omega
        have e9 : fa_turns th (fr_law ls) (μ0 209) (μ0 205 7) (μ0 205 7).toNat S = (μ 206, μ 210) := by rw [← ek]; exact hn.symm
        first
        | exact pm_iret rfl rfl ⟨by rw [hq, ek], hTμ1, by rw [e9]; exact hev.trans (fa_end_y (by omega)).symm, hF⟩
        | exact pm_iret rfl rfl ⟨by rw [hq, ek], hTμ1, by rw [e9, n1, b1]; exact (fa_end_n (by omega)).symm, h1⟩
        | (exfalso; omega)
      · have h1 : μ 206 1 = (11 : Int) := h1
        refine pm_blk hK zmm155 [] 1 195 [(2, 205), (0, q), (0, c), (9, 0), (9, 0)] [(2, 205)] μ [] rfl trivial ?_
        have g209 := hF 209 (by decide) (by decide) (by decide) (by decide)
        have g7 : μ 205 7 = μ0 205 7 := by rw [hF 205 (by decide) (by decide) (by decide) (by decide)]
        have hthc := fa_th_r hth (hF 205 (by decide) (by decide) (by decide) (by decide))
        have hLc := fr_L_fr (fun r a b => hF r (by omega) (by omega) (by omega) (by omega)) hL
        have g6 : μ 205 6 = μ0 205 6 := by rw [hF 205 (by decide) (by decide) (by decide) (by decide)]
        refine pm_call hK zmm155 (401, 0, 158, 0) zM158 (6, 141) [(2, 205)] [] rfl rfl rfl rfl ⟨by omega, by rw [zn158]; omega⟩ (fr_evening hK (th := th) (ls := ls) hthc hLc hT hb206 hb210 hb224 hb225 ⟨Nat.le_refl _, Nat.le_refl _⟩) (fun st1 μc1 hp1 => ?_)
        obtain ⟨rfl, hTc1, hn1, hf1⟩ := hp1
        have hev := hn1
        rw [g209, g6, g7] at hev
        have hF : (∀ r, r ≠ 206 → r ≠ 210 → r ≠ 224 → r ≠ 225 → μc1 r = μ0 r) := fun r a b c d => (hf1 r a b c d).trans (hF r a b c d)
        refine pm_blk hK zmm155 [] 2 216 [(2, 205), (0, q), (0, c), (9, 0), (9, 0)] [(0, q)] μc1 [] rfl trivial ?_
        have ek : c.toNat = (μ0 205 7).toNat := by omega
        have e9 : fa_turns th (fr_law ls) (μ0 209) (μ0 205 7) (μ0 205 7).toNat S = (μ 206, μ 210) := by rw [← ek]; exact hn.symm
        first
        | exact pm_iret rfl rfl ⟨by rw [hq, ek], hTc1, by rw [e9]; exact hev.trans (fa_end_y (by omega)).symm, hF⟩
        | exact pm_iret rfl rfl ⟨by rw [hq, ek], hTc1, by rw [e9, n1, b1]; exact (fa_end_n (by omega)).symm, h1⟩
        | (exfalso; omega)
    · have h0 : c < μ 205 7 := h0
      refine pm_blk hK zmm155 [] 2 104 [(2, 205), (0, q), (0, c), (9, 0), (9, 0)] [(0, c), (2, 205)] μ [] rfl trivial ?_
      refine pm_call hK zmm155 (154, 0, 298, 1) zM298 (0, 0) [(2, 205), (0, c)] [] rfl rfl rfl rfl ⟨by omega, by rw [zn298]; omega⟩ (fr_in hK hT ⟨by omega, by omega⟩ ⟨Nat.le_refl _, Nat.le_refl _⟩) (fun st2 μc2 hp2 => ?_)
      obtain ⟨rfl, rfl⟩ := hp2
      have f106 := zT_get hT zs206_106 (i := 106 + (c)) (by omega) (by omega)
      refine pm_blk hK zmm155 [] 3 110 [(2, 205), (0, q), (0, c), (0, μ 206 (106 + (c)) - 1), (9, 0)] [(0, (-1)), (0, μ 206 (106 + (c)) - 1)] μ [] rfl trivial ?_
      refine pm_icmp hK zmm155 .eq 67 177 rfl rfl (fun h2 => ?_) (fun h2 => ?_)
      · have h2 : μ 206 (106 + (c)) - 1 = ((-1) : Int) := h2
        refine pm_blk hK zmm155 [] 2 94 [(2, 205), (0, q), (0, c + 1), (0, μ 206 (106 + (c)) - 1), (9, 0)] [] μ [pm_in (c + 1)] rfl ⟨pm_in_mk (by omega) (by omega), trivial⟩ ?_
        refine pm_hide [3] ?_
        first
        | (have hu := fr_tu hq hc.1 hn (fa_turn_0 (fa_can_1 (by omega)))
           exact ih _ (by omega) rfl ⟨by omega, by omega⟩ ⟨by omega, by omega⟩ hT (by have := hu.1; omega) (Eq.trans (rfl) hu.2) hF)
        | (have hu := fr_tu hq hc.1 hn (fa_turn_0 (fa_can_2 (by omega)))
           exact ih _ (by omega) rfl ⟨by omega, by omega⟩ ⟨by omega, by omega⟩ hT (by have := hu.1; omega) (Eq.trans (rfl) hu.2) hF)
        | (have hu := fr_tu hq hc.1 hn (fa_turn_0 (fa_can_3 (by omega)))
           exact ih _ (by omega) rfl ⟨by omega, by omega⟩ ⟨by omega, by omega⟩ hT (by have := hu.1; omega) (Eq.trans ((by rw [e206, hB])) hu.2) hF)
        | (have hu := fr_tu hq hc.1 hn (fa_turn_y (fa_can_y (by omega) (by omega) (by omega)) (hsoe.symm.trans (fa_b1 (by assumption))))
           exact ih _ (by omega) rfl ⟨by omega, by omega⟩ ⟨by omega, by omega⟩ hT (by have := hu.1; omega) (Eq.trans (hbo) hu.2) hF)
        | (have hu := fr_tu hq hc.1 hn (fa_turn_n (fa_can_y (by omega) (by omega) (by omega)) (fun k => fa_b0 (by assumption) (hsoe.trans k)))
           exact ih _ (by omega) rfl ⟨by omega, by omega⟩ ⟨by omega, by omega⟩ hT (by have := hu.1; omega) (Eq.trans ((by rw [hso2, hB])) hu.2) hF)
        | (exfalso; omega)
      · have h2 : μ 206 (106 + (c)) - 1 ≠ ((-1) : Int) := h2
        have f3 := zT_get hT zs206_4 (i := 4 + (μ 206 (106 + (c)) - 1)) (by omega) (by omega)
        refine pm_blk hK zmm155 [] 6 121 [(2, 205), (0, q), (0, c), (0, μ 206 (106 + (c)) - 1), (9, 0)] [(0, μ 206 (4 + (μ 206 (106 + (c)) - 1)))] μ [pm_in (4 + (μ 206 (106 + (c)) - 1)), 0 ≤ 4 + (μ 206 (106 + (c)) - 1) ∧ 4 + (μ 206 (106 + (c)) - 1) < 160] rfl ⟨pm_in_mk (by omega) (by omega), ⟨by omega, by omega⟩, trivial⟩ ?_
        refine pm_if hK zmm155 .ne 6 127 rfl rfl (fun h3 => ?_) (fun h3 => ?_)
        · have h3 : μ 206 (4 + (μ 206 (106 + (c)) - 1)) ≠ (0 : Int) := h3
          refine pm_blk hK zmm155 [] 3 130 [(2, 205), (0, q), (0, c), (0, μ 206 (106 + (c)) - 1), (9, 0)] [(0, μ 206 (106 + (c)) - 1), (0, c), (2, 205)] μ [] rfl trivial ?_
          have g209 := hF 209 (by decide) (by decide) (by decide) (by decide)
          have g7 : μ 205 7 = μ0 205 7 := by rw [hF 205 (by decide) (by decide) (by decide) (by decide)]
          have hthc := fa_th_r hth (hF 205 (by decide) (by decide) (by decide) (by decide))
          have hLc := fr_L_fr (fun r a b => hF r (by omega) (by omega) (by omega) (by omega)) hL
          refine pm_call hK zmm155 (359, 0, 300, 2) zM300 (4, 94) [(2, 205), (0, c), (0, μ 206 (106 + (c)) - 1)] [] rfl rfl rfl rfl ⟨by omega, by rw [zn300]; omega⟩ (fr_costsOf hK (ls := ls) (c := c) (s := (μ 206 (106 + (c)) - 1)) rfl g209 g7 hLc hT ⟨by omega, by omega⟩ ⟨by omega, by omega⟩ hb224 hb225 ⟨Nat.le_refl _, Nat.le_refl _⟩) (fun st3 μc3 hp3 => ?_)
          obtain ⟨rfl, hTc3, hf3⟩ := hp3
          have e206 := hf3 206 (by decide) (by decide)
          have p1 : μc3 206 (88 + c) = μ 206 (88 + c) := by rw [e206]
          have hB := hf3 210 (by decide) (by decide)
          have hcb := fa_costs_b (t := fr_law ls) (N := μ 206) (pol := μ0 209) (m := μ0 205 7) (c := c) (s := μ 206 (106 + c) - 1)
          have hF : (∀ r, r ≠ 206 → r ≠ 210 → r ≠ 224 → r ≠ 225 → μc3 r = μ0 r) := fun r a b c d => (hf3 r c d).trans (hF r a b c d)
          have f4 := zT_get hTc3 zs206_88 (i := 88 + c) (by omega) (by omega)
          refine pm_blk hK zmm155 [] 8 146 [(2, 205), (0, q), (0, c), (0, μ 206 (106 + (c)) - 1), (0, fa_costs (fr_law ls) (μ 206) (μ0 209) (μ0 205 7) (c) ((μ 206 (106 + (c)) - 1)))] [(0, μc3 206 (88 + c)), (0, fa_costs (fr_law ls) (μ 206) (μ0 209) (μ0 205 7) (c) ((μ 206 (106 + (c)) - 1)))] μc3 [pm_in (88 + c), 0 ≤ 88 + c ∧ 88 + c < 160] rfl ⟨pm_in_mk (by omega) (by omega), ⟨by omega, by omega⟩, trivial⟩ ?_
          refine pm_icmp hK zmm155 .gt 31 177 rfl rfl (fun h4 => ?_) (fun h4 => ?_)
          · have h4 : μc3 206 (88 + c) < fa_costs (fr_law ls) (μ 206) (μ0 209) (μ0 205 7) (c) ((μ 206 (106 + (c)) - 1)) := h4
            refine pm_blk hK zmm155 [] 2 94 [(2, 205), (0, q), (0, c + 1), (0, μ 206 (106 + (c)) - 1), (0, fa_costs (fr_law ls) (μ 206) (μ0 209) (μ0 205 7) (c) ((μ 206 (106 + (c)) - 1)))] [] μc3 [pm_in (c + 1)] rfl ⟨pm_in_mk (by omega) (by omega), trivial⟩ ?_
            refine pm_hide [3, 4] ?_
            first
            | (have hu := fr_tu hq hc.1 hn (fa_turn_0 (fa_can_1 (by omega)))
               exact ih _ (by omega) rfl ⟨by omega, by omega⟩ ⟨by omega, by omega⟩ hTc3 (by have := hu.1; omega) (Eq.trans (rfl) hu.2) hF)
            | (have hu := fr_tu hq hc.1 hn (fa_turn_0 (fa_can_2 (by omega)))
               exact ih _ (by omega) rfl ⟨by omega, by omega⟩ ⟨by omega, by omega⟩ hTc3 (by have := hu.1; omega) (Eq.trans (rfl) hu.2) hF)
            | (have hu := fr_tu hq hc.1 hn (fa_turn_0 (fa_can_3 (by omega)))
               exact ih _ (by omega) rfl ⟨by omega, by omega⟩ ⟨by omega, by omega⟩ hTc3 (by have := hu.1; omega) (Eq.trans ((by rw [e206, hB])) hu.2) hF)
            | (have hu := fr_tu hq hc.1 hn (fa_turn_y (fa_can_y (by omega) (by omega) (by omega)) (hsoe.symm.trans (fa_b1 (by assumption))))
               exact ih _ (by omega) rfl ⟨by omega, by omega⟩ ⟨by omega, by omega⟩ hTc3 (by have := hu.1; omega) (Eq.trans (hbo) hu.2) hF)
            | (have hu := fr_tu hq hc.1 hn (fa_turn_n (fa_can_y (by omega) (by omega) (by omega)) (fun k => fa_b0 (by assumption) (hsoe.trans k)))
               exact ih _ (by omega) rfl ⟨by omega, by omega⟩ ⟨by omega, by omega⟩ hTc3 (by have := hu.1; omega) (Eq.trans ((by rw [hso2, hB])) hu.2) hF)
            | (exfalso; omega)
          · have h4 : fa_costs (fr_law ls) (μ 206) (μ0 209) (μ0 205 7) (c) ((μ 206 (106 + (c)) - 1)) ≤ μc3 206 (88 + c) := h4
            refine pm_blk hK zmm155 [] 4 153 [(2, 205), (0, q), (0, c), (0, μ 206 (106 + (c)) - 1), (0, fa_costs (fr_law ls) (μ 206) (μ0 209) (μ0 205 7) (c) ((μ 206 (106 + (c)) - 1)))] [(0, μ 206 (106 + (c)) - 1), (0, c), (2, 205), (2, 205)] μc3 [] rfl trivial ?_
            have g209 := hF 209 (by decide) (by decide) (by decide) (by decide)
            have g7 : μc3 205 7 = μ0 205 7 := by rw [hF 205 (by decide) (by decide) (by decide) (by decide)]
            have hthc := fa_th_r hth (hF 205 (by decide) (by decide) (by decide) (by decide))
            have hLc := fr_L_fr (fun r a b => hF r (by omega) (by omega) (by omega) (by omega)) hL
            refine pm_call hK zmm155 (398, 0, 312, 2) zM312 (4, 94) [(2, 205), (0, c), (0, μ 206 (106 + (c)) - 1)] [(2, 205)] rfl rfl rfl rfl ⟨by omega, by rw [zn312]; omega⟩ (fr_buysOf hK (ls := ls) (c := c) (s := (μ 206 (106 + (c)) - 1)) e206 g209 g7 hLc hTc3 ⟨by omega, by omega⟩ ⟨by omega, by omega⟩ hb224 hb225 ⟨Nat.le_refl _, Nat.le_refl _⟩) (fun st4 μc4 hp4 => ?_)
            obtain ⟨rfl, hTc4, hf4⟩ := hp4
            have e206 := (hf4 206 (by decide) (by decide)).trans e206
            have hB := (hf4 210 (by decide) (by decide)).trans hB
            have hbb := fa_buys_b (t := fr_law ls) (N := μ 206) (pol := μ0 209) (m := μ0 205 7) (c := c) (s := μ 206 (106 + c) - 1)
            have hsoe : fa_so th (fa_buys (fr_law ls) (μ 206) (μ0 209) (μ0 205 7) c (μ 206 (106 + c) - 1)) (μc4 206) = fa_so th (fa_buys (fr_law ls) (μ 206) (μ0 209) (μ0 205 7) c (μ 206 (106 + c) - 1)) (μ 206) := by rw [e206]
            have hF : (∀ r, r ≠ 206 → r ≠ 210 → r ≠ 224 → r ≠ 225 → μc4 r = μ0 r) := fun r a b c d => (hf4 r c d).trans (hF r a b c d)
            have g209 := hF 209 (by decide) (by decide) (by decide) (by decide)
            have g7 : μc4 205 7 = μ0 205 7 := by rw [hF 205 (by decide) (by decide) (by decide) (by decide)]
            have hthc := fa_th_r hth (hF 205 (by decide) (by decide) (by decide) (by decide))
            have hLc := fr_L_fr (fun r a b => hF r (by omega) (by omega) (by omega) (by omega)) hL
            refine pm_call hK zmm155 (386, 0, 313, 1) zM313 (1, 24) [(2, 205), (0, fa_buys (fr_law ls) (μ 206) (μ0 209) (μ0 205 7) (c) ((μ 206 (106 + (c)) - 1)))] [] rfl rfl rfl rfl ⟨by omega, by rw [zn313]; omega⟩ (fr_happens hK (th := th) (o := (fa_buys (fr_law ls) (μ 206) (μ0 209) (μ0 205 7) (c) ((μ 206 (106 + (c)) - 1)))) hthc hTc4 ⟨hbb.1, hbb.2⟩ hb206 ⟨Nat.le_refl _, Nat.le_refl _⟩) (fun st5 μc5 hp5 => ?_)
            obtain ⟨rfl, hTc5, hn5, hf5⟩ := hp5
            have hso2 : μc5 206 = fa_soN th (fa_buys (fr_law ls) (μ 206) (μ0 209) (μ0 205 7) c (μ 206 (106 + c) - 1)) (μ 206) := hn5.trans (by rw [e206])
            have hB := (hf5 210 (by decide)).trans hB
            have hF : (∀ r, r ≠ 206 → r ≠ 210 → r ≠ 224 → r ≠ 225 → μc5 r = μ0 r) := fun r a b c d => (hf5 r a).trans (hF r a b c d)
            refine pm_if hK zmm155 .ne 6 165 rfl rfl (fun h5 => ?_) (fun h5 => ?_)
            · have h5 : (if fa_so th ((fa_buys (fr_law ls) (μ 206) (μ0 209) (μ0 205 7) (c) ((μ 206 (106 + (c)) - 1)))) (μc4 206) = true then 1 else 0 : Int) ≠ (0 : Int) := h5
              have h5 := zif1 h5
              refine pm_blk hK zmm155 [] 4 170 [(2, 205), (0, q), (0, c), (0, μ 206 (106 + (c)) - 1), (0, fa_costs (fr_law ls) (μ 206) (μ0 209) (μ0 205 7) (c) ((μ 206 (106 + (c)) - 1)))] [(0, fa_costs (fr_law ls) (μ 206) (μ0 209) (μ0 205 7) (c) ((μ 206 (106 + (c)) - 1))), (0, μ 206 (106 + (c)) - 1), (0, c), (2, 205)] μc5 [] rfl trivial ?_
              have g209 := hF 209 (by decide) (by decide) (by decide) (by decide)
              have g7 : μc5 205 7 = μ0 205 7 := by rw [hF 205 (by decide) (by decide) (by decide) (by decide)]
              have hthc := fa_th_r hth (hF 205 (by decide) (by decide) (by decide) (by decide))
              have hLc := fr_L_fr (fun r a b => hF r (by omega) (by omega) (by omega) (by omega)) hL
              refine pm_call hK zmm155 (371, 0, 308, 3) zM308 (1, 24) [(2, 205), (0, c), (0, μ 206 (106 + (c)) - 1), (0, fa_costs (fr_law ls) (μ 206) (μ0 209) (μ0 205 7) (c) ((μ 206 (106 + (c)) - 1)))] [] rfl rfl rfl rfl ⟨by omega, by rw [zn308]; omega⟩ (fr_bought hK (th := th) (c := c) (s := (μ 206 (106 + (c)) - 1)) (v := (fa_costs (fr_law ls) (μ 206) (μ0 209) (μ0 205 7) (c) ((μ 206 (106 + (c)) - 1)))) hthc hTc5 ⟨by omega, by omega⟩ ⟨by omega, by omega⟩ ⟨by omega, by omega⟩ (by rw [hso2, fa_soN_ne (by omega)]; omega) (by rw [hso2, fa_soN_ne (by omega)]; omega) hb206 hb210 ⟨Nat.le_refl _, Nat.le_refl _⟩) (fun st6 μc6 hp6 => ?_)
              obtain ⟨rfl, hTc6, hn6, hf6⟩ := hp6
              have hbo : (μc6 206, μc6 210) = fa_bought th c (μ 206 (106 + c) - 1) (fa_costs (fr_law ls) (μ 206) (μ0 209) (μ0 205 7) c (μ 206 (106 + c) - 1)) (fa_soN th (fa_buys (fr_law ls) (μ 206) (μ0 209) (μ0 205 7) c (μ 206 (106 + c) - 1)) (μ 206), μ 210) := by rw [hn6, hso2, hB]
              have hF : (∀ r, r ≠ 206 → r ≠ 210 → r ≠ 224 → r ≠ 225 → μc6 r = μ0 r) := fun r a b c d => (hf6 r a b).trans (hF r a b c d)
              refine pm_blk hK zmm155 [] 6 94 [(2, 205), (0, q + 1), (0, c + 1), (0, μ 206 (106 + (c)) - 1), (0, fa_costs (fr_law ls) (μ 206) (μ0 209) (μ0 205 7) (c) ((μ 206 (106 + (c)) - 1)))] [] μc6 [pm_in (q + 1), pm_in (c + 1)] rfl ⟨pm_in_mk (by omega) (by omega), pm_in_mk (by omega) (by omega), trivial⟩ ?_
              refine pm_hide [3, 4] ?_
              first
              | (have hu := fr_tu hq hc.1 hn (fa_turn_0 (fa_can_1 (by omega)))
                 exact ih _ (by omega) rfl ⟨by omega, by omega⟩ ⟨by omega, by omega⟩ hTc6 (by have := hu.1; omega) (Eq.trans (rfl) hu.2) hF)
              | (have hu := fr_tu hq hc.1 hn (fa_turn_0 (fa_can_2 (by omega)))
                 exact ih _ (by omega) rfl ⟨by omega, by omega⟩ ⟨by omega, by omega⟩ hTc6 (by have := hu.1; omega) (Eq.trans (rfl) hu.2) hF)
              | (have hu := fr_tu hq hc.1 hn (fa_turn_0 (fa_can_3 (by omega)))
                 exact ih _ (by omega) rfl ⟨by omega, by omega⟩ ⟨by omega, by omega⟩ hTc6 (by have := hu.1; omega) (Eq.trans ((by rw [e206, hB])) hu.2) hF)
              | (have hu := fr_tu hq hc.1 hn (fa_turn_y (fa_can_y (by omega) (by omega) (by omega)) (hsoe.symm.trans (fa_b1 (by assumption))))
                 exact ih _ (by omega) rfl ⟨by omega, by omega⟩ ⟨by omega, by omega⟩ hTc6 (by have := hu.1; omega) (Eq.trans (hbo) hu.2) hF)
              | (have hu := fr_tu hq hc.1 hn (fa_turn_n (fa_can_y (by omega) (by omega) (by omega)) (fun k => fa_b0 (by assumption) (hsoe.trans k)))
                 exact ih _ (by omega) rfl ⟨by omega, by omega⟩ ⟨by omega, by omega⟩ hTc6 (by have := hu.1; omega) (Eq.trans ((by rw [hso2, hB])) hu.2) hF)
              | (exfalso; omega)
            · have h5 : (if fa_so th ((fa_buys (fr_law ls) (μ 206) (μ0 209) (μ0 205 7) (c) ((μ 206 (106 + (c)) - 1)))) (μc4 206) = true then 1 else 0 : Int) = (0 : Int) := h5
              have h5 := zif0 h5
              refine pm_blk hK zmm155 [] 3 94 [(2, 205), (0, q), (0, c + 1), (0, μ 206 (106 + (c)) - 1), (0, fa_costs (fr_law ls) (μ 206) (μ0 209) (μ0 205 7) (c) ((μ 206 (106 + (c)) - 1)))] [] μc5 [pm_in (c + 1)] rfl ⟨pm_in_mk (by omega) (by omega), trivial⟩ ?_
              refine pm_hide [3, 4] ?_
              first
              | (have hu := fr_tu hq hc.1 hn (fa_turn_0 (fa_can_1 (by omega)))
                 exact ih _ (by omega) rfl ⟨by omega, by omega⟩ ⟨by omega, by omega⟩ hTc5 (by have := hu.1; omega) (Eq.trans (rfl) hu.2) hF)
              | (have hu := fr_tu hq hc.1 hn (fa_turn_0 (fa_can_2 (by omega)))
                 exact ih _ (by omega) rfl ⟨by omega, by omega⟩ ⟨by omega, by omega⟩ hTc5 (by have := hu.1; omega) (Eq.trans (rfl) hu.2) hF)
              | (have hu := fr_tu hq hc.1 hn (fa_turn_0 (fa_can_3 (by omega)))
                 exact ih _ (by omega) rfl ⟨by omega, by omega⟩ ⟨by omega, by omega⟩ hTc5 (by have := hu.1; omega) (Eq.trans ((by rw [e206, hB])) hu.2) hF)
              | (have hu := fr_tu hq hc.1 hn (fa_turn_y (fa_can_y (by omega) (by omega) (by omega)) (hsoe.symm.trans (fa_b1 (by assumption))))
                 exact ih _ (by omega) rfl ⟨by omega, by omega⟩ ⟨by omega, by omega⟩ hTc5 (by have := hu.1; omega) (Eq.trans (hbo) hu.2) hF)
              | (have hu := fr_tu hq hc.1 hn (fa_turn_n (fa_can_y (by omega) (by omega) (by omega)) (fun k => fa_b0 (by assumption) (hsoe.trans k)))
                 exact ih _ (by omega) rfl ⟨by omega, by omega⟩ ⟨by omega, by omega⟩ hTc5 (by have := hu.1; omega) (Eq.trans ((by rw [hso2, hB])) hu.2) hF)
              | (exfalso; omega)
        · have h3 : μ 206 (4 + (μ 206 (106 + (c)) - 1)) = (0 : Int) := h3
          refine pm_blk hK zmm155 [] 3 94 [(2, 205), (0, q), (0, c + 1), (0, μ 206 (106 + (c)) - 1), (9, 0)] [] μ [pm_in (c + 1)] rfl ⟨pm_in_mk (by omega) (by omega), trivial⟩ ?_
          refine pm_hide [3] ?_
          first
          | (have hu := fr_tu hq hc.1 hn (fa_turn_0 (fa_can_1 (by omega)))
             exact ih _ (by omega) rfl ⟨by omega, by omega⟩ ⟨by omega, by omega⟩ hT (by have := hu.1; omega) (Eq.trans (rfl) hu.2) hF)
          | (have hu := fr_tu hq hc.1 hn (fa_turn_0 (fa_can_2 (by omega)))
             exact ih _ (by omega) rfl ⟨by omega, by omega⟩ ⟨by omega, by omega⟩ hT (by have := hu.1; omega) (Eq.trans (rfl) hu.2) hF)
          | (have hu := fr_tu hq hc.1 hn (fa_turn_0 (fa_can_3 (by omega)))
             exact ih _ (by omega) rfl ⟨by omega, by omega⟩ ⟨by omega, by omega⟩ hT (by have := hu.1; omega) (Eq.trans ((by rw [e206, hB])) hu.2) hF)
          | (have hu := fr_tu hq hc.1 hn (fa_turn_y (fa_can_y (by omega) (by omega) (by omega)) (hsoe.symm.trans (fa_b1 (by assumption))))
             exact ih _ (by omega) rfl ⟨by omega, by omega⟩ ⟨by omega, by omega⟩ hT (by have := hu.1; omega) (Eq.trans (hbo) hu.2) hF)
          | (have hu := fr_tu hq hc.1 hn (fa_turn_n (fa_can_y (by omega) (by omega) (by omega)) (fun k => fa_b0 (by assumption) (hsoe.trans k)))
             exact ih _ (by omega) rfl ⟨by omega, by omega⟩ ⟨by omega, by omega⟩ hT (by have := hu.1; omega) (Eq.trans ((by rw [hso2, hB])) hu.2) hF)
          | (exfalso; omega)
set_option maxRecDepth 100000 in
theorem fr_gb90 (hK : zKK ST) {μ0 μ1 : pm_Mem} {S : fa_St} {th : Bool} (hth : fa_th th μ0) {ls : List (Int × List zIw × List zIw)} (hL : fr_L μ0 0 ls) (hb206 : sx_bit Wm 206 = true) (hb210 : sx_bit Wm 210 = true) (hb224 : sx_bit Wm 224 = true) (hb225 : sx_bit Wm 225 = true) (hT1 : zTJ φ μ1) (hn1 : (μ1 206, μ1 210) = S) (hf1 : (∀ r, r ≠ 206 → r ≠ 210 → r ≠ 224 → r ≠ 225 → μ1 r = μ0 r)) (hbd : 7 ≤ bud.1 ∧ 170 ≤ bud.2.1) : zW D Wm ST b0 l Sg zM155 bud (pm_X zM155 (fun st' μ' => st' = [(0, fa_dids th (fr_law ls) (μ0 209) (μ0 205 7) (μ0 205 7).toNat S)] ∧ zTJ φ μ' ∧ (μ' 206, μ' 210) = fa_end th (fr_law ls) (μ0 209) (μ0 205 6) (μ0 205 7) (fa_turns th (fr_law ls) (μ0 209) (μ0 205 7) (μ0 205 7).toNat S) ∧ (∀ r, r ≠ 206 → r ≠ 210 → r ≠ 224 → r ≠ 225 → μ' r = μ0 r))) 90 [(2, 205), (9, 0), (9, 0), (9, 0), (9, 0)] [] μ1 := by
  refine pm_blk hK zmm155 [] 4 94 [(2, 205), (0, 0), (0, 0), (9, 0), (9, 0)] [] μ1 [] rfl trivial ?_
  have f7 := zT_get hT1 zs205_7 (i := 7) (by omega) (by omega)
  rw [hf1 205 (by decide) (by decide) (by decide) (by decide)] at f7
  exact fr_tur hK (μ0 := μ0) (S := S) (th := th) (ls := ls) hth hL hb206 hb210 hb224 hb225 hbd _ (q := 0) (c := 0) rfl ⟨by omega, by omega⟩ ⟨by omega, by omega⟩ hT1 rfl hn1 hf1
set_option maxRecDepth 100000 in
theorem fr_goesBy (hK : zKK ST) {th : Bool} (hth : fa_th th μ) {ls : List (Int × List zIw × List zIw)} (hL : fr_L μ 0 ls) (hT : zTJ φ μ) (hb206 : sx_bit Wm 206 = true) (hb210 : sx_bit Wm 210 = true) (hb224 : sx_bit Wm 224 = true) (hb225 : sx_bit Wm 225 = true) (hbd : 7 ≤ bud.1 ∧ 170 ≤ bud.2.1) : zC D Wm ST b0 l Sg zM155 bud [(2, 205)] μ (fun st' μ' => st' = [(0, fa_many th (fr_law ls) (μ 221) (μ 222) (μ 209) (μ 205 33) (μ 205 35) (μ 205 6) (μ 205 7) (μ 206, μ 210))] ∧ zTJ φ μ' ∧ (μ' 206, μ' 210) = fa_hour th (fr_law ls) (μ 221) (μ 222) (μ 209) (μ 205 33) (μ 205 35) (μ 205 6) (μ 205 7) (μ 206, μ 210) ∧ (∀ r, r ≠ 206 → r ≠ 210 → r ≠ 224 → r ≠ 225 → μ' r = μ r)) := by
  have f33 := zT_get hT zs205_33 (i := 33) (by omega) (by omega)
  have f1 := zT_get hT zs206_1 (i := 1) (by omega) (by omega)
  refine pm_blk hK zmm155 [] 4 6 [(2, 205), (9, 0), (9, 0), (9, 0), (9, 0)] [(0, μ 206 1)] μ [0 ≤ 1 ∧ 1 < 160] rfl ⟨⟨by omega, by omega⟩, trivial⟩ ?_
  refine pm_if hK zmm155 .ne 7 13 rfl rfl (fun h0 => ?_) (fun h0 => ?_)
  · have h0 : μ 206 1 ≠ (0 : Int) := h0
    refine pm_blk hK zmm155 [] 2 15 [(2, 205), (0, 0), (9, 0), (9, 0), (9, 0)] [] μ [] rfl trivial ?_
    have hM : (μ 206, μ 210) = fa_morn th (μ 222) (μ 205 35) (μ 205 6) (μ 206, μ 210) := by
      first
      | exact hdb.trans (fa_morn_y (by omega)).symm
      | exact (fa_morn_n (by omega)).symm
      | (exfalso; omega)
    have hf0 : (∀ r, r ≠ 206 → r ≠ 210 → r ≠ 224 → r ≠ 225 → μ r = μ r) := by
      first
      | exact hf9
      | exact fun _ _ _ _ _ => rfl
      | (exfalso; omega)
    exact fr_rnd hK (μ0 := μ) (N := μ 206) (B := μ 210) hb206 (fun μ1 hT1 hn1 hB1 hf1 => fr_gb90 hK (S := fa_to th (μ 221) (μ 222) (μ 205 33) (μ 205 35) (μ 205 6) (μ 206, μ 210)) hth hL hb206 hb210 hb224 hb225 hT1 (by rw [hn1, hB1]; exact congrArg (fun S1 : fa_St => ((fa_rounds (μ 221) S1.1 (μ 205 33).toNat, S1.2) : fa_St)) hM) hf1 hbd) hbd _ (k := 0) (z := 0) rfl (by omega) ⟨by omega, by omega⟩ hT rfl rfl hf0
  · have h0 : μ 206 1 = (0 : Int) := h0
    refine pm_blk hK zmm155 [] 1 10 [(2, 205), (9, 0), (9, 0), (9, 0), (9, 0)] [(2, 205)] μ [] rfl trivial ?_
    refine pm_call hK zmm155 (395, 0, 156, 0) zM156 (2, 47) [(2, 205)] [] rfl rfl rfl rfl ⟨by omega, by rw [zn156]; omega⟩ (fr_dayBegins hK (th := th) hth hT hb206 hb210 ⟨Nat.le_refl _, Nat.le_refl _⟩) (fun st1 μc1 hp1 => ?_)
    obtain ⟨rfl, hTc1, hn1, hf1⟩ := hp1
    have hdb := hn1
    have hf9 : (∀ r, r ≠ 206 → r ≠ 210 → r ≠ 224 → r ≠ 225 → μc1 r = μ r) := fun r a b c d => hf1 r a b
    refine pm_blk hK zmm155 [] 2 15 [(2, 205), (0, 0), (9, 0), (9, 0), (9, 0)] [] μc1 [] rfl trivial ?_
    have hM : (μc1 206, μc1 210) = fa_morn th (μ 222) (μ 205 35) (μ 205 6) (μ 206, μ 210) := by
      first
      | exact hdb.trans (fa_morn_y (by omega)).symm
      | exact (fa_morn_n (by omega)).symm
      | (exfalso; omega)
    have hf0 : (∀ r, r ≠ 206 → r ≠ 210 → r ≠ 224 → r ≠ 225 → μc1 r = μ r) := by
      first
      | exact hf9
      | exact fun _ _ _ _ _ => rfl
      | (exfalso; omega)
    exact fr_rnd hK (μ0 := μ) (N := μc1 206) (B := μc1 210) hb206 (fun μ1 hT1 hn1 hB1 hf1 => fr_gb90 hK (S := fa_to th (μ 221) (μ 222) (μ 205 33) (μ 205 35) (μ 205 6) (μ 206, μ 210)) hth hL hb206 hb210 hb224 hb225 hT1 (by rw [hn1, hB1]; exact congrArg (fun S1 : fa_St => ((fa_rounds (μ 221) S1.1 (μ 205 33).toNat, S1.2) : fa_St)) hM) hf1 hbd) hbd _ (k := 0) (z := 0) rfl (by omega) ⟨by omega, by omega⟩ hTc1 rfl rfl hf0
end ZHW
