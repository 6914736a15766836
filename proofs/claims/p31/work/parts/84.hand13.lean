/-! hands; walks printed by program (wip/p30/pmgen.py) and filled by hand -/
section ZHW
variable {D : va_G} {Wm : Nat} {ST : List (String × String × String × Nat)} {b0 : sx_B} {l : Launch} {Sg : Nat → Option Nat} {bud : sx_Bu} {μ : pm_Mem} {B0 : Nat → Prop} {J : (Nat → Option Nat) → Heap → Prop}
set_option maxRecDepth 100000 in
theorem zh_within (hK : zKK ST) {v a b : Int} (hbd : 0 ≤ bud.1 ∧ 0 ≤ bud.2.1) : zC D Wm ST b0 l Sg zM16 bud [(0, v), (0, a), (0, b)] μ (fun st' μ' => μ = μ' ∧ st' = [(0, if a ≤ v ∧ v ≤ b then 1 else 0)]) := by
  refine pm_blk hK zmm16 [] 2 2 [(0, v), (0, a), (0, b)] [(0, a), (0, v)] μ [] rfl trivial ?_
  refine pm_icmp hK zmm16 .lt 12 14 rfl rfl (fun h0 => ?_) (fun h0 => ?_)
  · have h0 : v < a := h0
    refine pm_blk hK zmm16 [] 1 15 [(0, v), (0, a), (0, b)] [(0, 0)] μ [] rfl trivial ?_
    exact pm_zret rfl rfl (by first | exact Or.inl rfl | exact Or.inr rfl | omega) ⟨rfl, by first | rw [if_pos ⟨by omega, by omega⟩] | rw [if_neg (by omega)]⟩
  · have h0 : a ≤ v := h0
    refine pm_blk hK zmm16 [] 2 7 [(0, v), (0, a), (0, b)] [(0, b), (0, v)] μ [] rfl trivial ?_
    refine pm_icmp hK zmm16 .gt 7 14 rfl rfl (fun h1 => ?_) (fun h1 => ?_)
    · have h1 : b < v := h1
      refine pm_blk hK zmm16 [] 1 15 [(0, v), (0, a), (0, b)] [(0, 0)] μ [] rfl trivial ?_
      exact pm_zret rfl rfl (by first | exact Or.inl rfl | exact Or.inr rfl | omega) ⟨rfl, by first | rw [if_pos ⟨by omega, by omega⟩] | rw [if_neg (by omega)]⟩
    · have h1 : v ≤ b := h1
      refine pm_blk hK zmm16 [] 2 15 [(0, v), (0, a), (0, b)] [(0, 1)] μ [] rfl trivial ?_
      exact pm_zret rfl rfl (by first | exact Or.inl rfl | exact Or.inr rfl | omega) ⟨rfl, by first | rw [if_pos ⟨by omega, by omega⟩] | rw [if_neg (by omega)]⟩
set_option maxRecDepth 100000 in
theorem zl_fill (hK : zKK ST)  {μ0 : pm_Mem} {v : Int} (hv : -2147483648 ≤ v ∧ v ≤ 2147483647) (hb203 : sx_bit Wm 203 = true) (hbd : 0 ≤ bud.1 ∧ 0 ≤ bud.2.1) : ∀ (n : Nat) {k : Int} {μ : pm_Mem}, (501 - k).toNat = n → ∀ (hk : 0 ≤ k ∧ k ≤ 501) (hz : ∀ j : Int, 0 ≤ j → j < k → μ 203 j = v) (hfr : ∀ r, r ≠ 203 → μ r = μ0 r) (hT : zTJ μ), zW D Wm ST b0 l Sg zM77 bud (pm_X zM77 (fun st' μ' => st' = [] ∧ (∀ j : Int, 0 ≤ j → j < 501 → μ' 203 j = v) ∧ (∀ r, r ≠ 203 → μ' r = μ0 r) ∧ zTJ μ')) 5 [(2, 203), (0, v), (0, k), (0, 501)] [] μ := by
  intro n
  induction n using Nat.strongRecOn with
  | ind n ih =>
    intro k μ hn hk hz hfr hT
    refine pm_blk hK zmm77 [] 2 7 [(2, 203), (0, v), (0, k), (0, 501)] [(0, 501), (0, k)] μ [] rfl trivial ?_
    refine pm_icmp hK zmm77 .ge 13 20 rfl rfl (fun h0 => ?_) (fun h0 => ?_)
    · have h0 : (501 : Int) ≤ k := h0
      have ek : k = 501 := by omega
      rw [ek] at hz
      exact pm_vret rfl rfl ⟨rfl, hz, hfr, hT⟩
    · have h0 : k < (501 : Int) := h0
      refine pm_blk hK zmm77 [] 4 14 [(2, 203), (0, v), (0, k), (0, 501)] [] (pm_up μ 203 k v) [sx_bit Wm 203 = true, 0 ≤ k ∧ k < 501] rfl ⟨hb203, ⟨by omega, by omega⟩, trivial⟩ ?_
      obtain ⟨μ1, eμ1⟩ : ∃ μ', μ' = pm_up μ 203 k v := ⟨_, rfl⟩
      rw [← eμ1]
      have hTμ1 : zTJ μ1 := by rw [eμ1]; exact zT_up hT zs203_0 rfl (i := k) (by omega) (by omega) (by omega) (by omega)
      refine pm_blk hK zmm77 [] 2 5 [(2, 203), (0, v), (0, k + 1), (0, 501)] [] μ1 [pm_in (k + 1)] rfl ⟨pm_in_mk (by omega) (by omega), trivial⟩ ?_
      refine ih _ (by omega) rfl ⟨by omega, by omega⟩ (fun j j0 j1 => ?_) (fun r hr => by rw [eμ1, pm_up_row hr]; exact hfr r hr) hTμ1
      rw [eμ1]
      by_cases hj : j = k
      · subst hj
        rw [pm_up_eq]
      · rw [pm_up_ne hj]
        exact hz j j0 (by omega)
set_option maxRecDepth 100000 in
theorem zh_fill (hK : zKK ST) {v : Int} (hv : -2147483648 ≤ v ∧ v ≤ 2147483647) (hT : zTJ μ) (hb203 : sx_bit Wm 203 = true) (hbd : 0 ≤ bud.1 ∧ 0 ≤ bud.2.1) : zC D Wm ST b0 l Sg zM77 bud [(2, 203), (0, v)] μ (fun st' μ' => st' = [] ∧ (∀ j : Int, 0 ≤ j → j < 501 → μ' 203 j = v) ∧ (∀ r, r ≠ 203 → μ' r = μ r) ∧ zTJ μ') := by
  refine pm_blk hK zmm77 [] 5 5 [(2, 203), (0, v), (0, 0), (0, 501)] [] μ [] rfl trivial ?_
  exact zl_fill hK hv hb203 hbd _ rfl ⟨by omega, by omega⟩ (fun j j0 j1 => absurd j1 (by omega)) (fun r _ => rfl) hT
set_option maxRecDepth 100000 in
theorem zl_fh2 (hK : zKK ST) {X : Nat → List pm_V → List pm_V → pm_Mem → Prop} {p next fm : Int} (hf : 0 ≤ fm ∧ fm ≤ 300) (hb203 : sx_bit Wm 203 = true) (hb204 : sx_bit Wm 204 = true) (K : ∀ (told : Int) (μ : pm_Mem), 1 ≤ told → zsum (zmk (μ 203)) 301 = told → (∀ j : Int, 0 ≤ j → j < 301 → -1 ≤ μ 203 j ∧ μ 203 j < told) → (∀ i : Int, 0 ≤ i → i < told → 0 ≤ μ 204 i ∧ μ 204 i ≤ 300 ∧ 0 ≤ μ 203 (μ 204 i)) → zTJ μ → zW D Wm ST b0 l Sg zM76 bud X 156 [(2, 202), (2, 29), (0, p), (0, 301), (2, 203), (2, 204), (0, told), (0, next), (9, 0), (9, 0), (9, 0), (9, 0)] [] μ) (hbd : 1 ≤ bud.1 ∧ 22 ≤ bud.2.1) : ∀ (n : Nat) {told i : Int} {μ : pm_Mem}, (12 - i).toNat = n → ∀ (hi : 0 ≤ i ∧ i ≤ 12) (hfm : 0 ≤ μ 203 fm) (ht1 : 1 ≤ told) (hS : zsum (zmk (μ 203)) 301 = told) (hH : ∀ j : Int, 0 ≤ j → j < 301 → -1 ≤ μ 203 j ∧ μ 203 j < told) (hQ : ∀ i : Int, 0 ≤ i → i < told → 0 ≤ μ 204 i ∧ μ 204 i ≤ 300 ∧ 0 ≤ μ 203 (μ 204 i)) (hT : zTJ μ), zW D Wm ST b0 l Sg zM76 bud X 63 [(2, 202), (2, 29), (0, p), (0, 301), (2, 203), (2, 204), (0, told), (0, next), (0, fm), (0, i), (9, 0), (9, 0)] [] μ := by
  intro n
  induction n using Nat.strongRecOn with
  | ind n ih =>
    intro told i μ hn hi hfm ht1 hS hH hQ hT
    have hml := zmk_le (f := μ 203) (n := 301)
    have hsh := zshr (v := i) (k := 1) (by decide) (by unfold pm_in; omega)
    have hsh : pm_shr i 1 = i / 2 := hsh
    have f29 := zT_get hT zs29_1 (i := 1) (by omega) (by omega)
    have hh0 := hH fm (by omega) (by omega)
    have f1 := zT_get hT zs29_1 (i := 1) (by omega) (by omega)
    refine pm_blk hK zmm76 [] 5 71 [(2, 202), (2, 29), (0, p), (0, 301), (2, 203), (2, 204), (0, told), (0, next), (0, fm), (0, i), (9, 0), (9, 0)] [(0, 2 * (μ 29 1)), (0, i)] μ [pm_in (2 * (μ 29 1))] rfl ⟨pm_in_mk (by omega) (by omega), trivial⟩ ?_
    refine pm_icmp hK zmm76 .ge 85 156 rfl rfl (fun h0 => ?_) (fun h0 => ?_)
    · have h0 : 2 * (μ 29 1) ≤ i := h0
      refine pm_hide [8, 9] ?_
      exact K _ _ ht1 hS hH hQ hT
    · have h0 : i < 2 * (μ 29 1) := h0
      refine pm_blk hK zmm76 [] 3 80 [(2, 202), (2, 29), (0, p), (0, 301), (2, 203), (2, 204), (0, told), (0, next), (0, fm), (0, i), (9, 0), (9, 0)] [(0, i), (2, 30)] μ [] rfl trivial ?_
      have f2 := zT_get hT zs30_0 (i := pm_shr i 1) (by omega) (by omega)
      refine pm_blk hK zmm76 [] 7 89 [(2, 202), (2, 29), (0, p), (0, 301), (2, 203), (2, 204), (0, told), (0, next), (0, fm), (0, i), (0, μ 30 (pm_shr i 1)), (9, 0)] [(0, pm_and i 1)] μ [0 ≤ pm_shr i 1 ∧ pm_shr i 1 < 6] rfl ⟨⟨by omega, by omega⟩, trivial⟩ ?_
      refine pm_if hK zmm76 .ne 11 100 rfl rfl (fun h1 => ?_) (fun h1 => ?_)
      · have h1 : pm_and i 1 ≠ (0 : Int) := h1
        refine pm_blk hK zmm76 [] 9 113 [(2, 202), (2, 29), (0, p), (0, 301), (2, 203), (2, 204), (0, told), (0, next), (0, fm), (0, i), (0, μ 30 (pm_shr i 1)), (0, fm - (μ 30 (pm_shr i 1)))] [(0, 301 - 1), (0, 0), (0, fm - (μ 30 (pm_shr i 1)))] μ [pm_in (fm - (μ 30 (pm_shr i 1))), pm_in (301 - 1)] rfl ⟨pm_in_mk (by omega) (by omega), pm_in_mk (by omega) (by omega), trivial⟩ ?_
        refine pm_call hK zmm76 (33, 1, 16, 3) zM16 (0, 0) [(0, fm - (μ 30 (pm_shr i 1))), (0, 0), (0, 301 - 1)] [] rfl rfl rfl rfl ⟨by omega, by rw [zn16]; omega⟩ (zh_within hK ⟨Nat.le_refl _, Nat.le_refl _⟩) (fun st1 μc1 hp1 => ?_)
        obtain ⟨rfl, rfl⟩ := hp1
        refine pm_if hK zmm76 .eq 34 150 rfl rfl (fun h2 => ?_) (fun h2 => ?_)
        · have h2 : (if 0 ≤ (fm - (μ 30 (pm_shr i 1))) ∧ (fm - (μ 30 (pm_shr i 1))) ≤ (301 - 1) then 1 else 0 : Int) = (0 : Int) := h2
          have h2 := zif0 h2
          refine pm_blk hK zmm76 [] 2 63 [(2, 202), (2, 29), (0, p), (0, 301), (2, 203), (2, 204), (0, told), (0, next), (0, fm), (0, i + 1), (0, μ 30 (pm_shr i 1)), (0, fm - (μ 30 (pm_shr i 1)))] [] μ [pm_in (i + 1)] rfl ⟨pm_in_mk (by omega) (by omega), trivial⟩ ?_
          refine pm_hide [10, 11] ?_
          exact ih _ (by omega) rfl ⟨by omega, by omega⟩ hfm ht1 hS hH hQ hT
        · have h2 : (if 0 ≤ (fm - (μ 30 (pm_shr i 1))) ∧ (fm - (μ 30 (pm_shr i 1))) ≤ (301 - 1) then 1 else 0 : Int) ≠ (0 : Int) := h2
          have h2 := zif1 h2
          have f3 := zT_get hT zs203_0 (i := fm - (μ 30 (pm_shr i 1))) (by omega) (by omega)
          refine pm_blk hK zmm76 [] 4 125 [(2, 202), (2, 29), (0, p), (0, 301), (2, 203), (2, 204), (0, told), (0, next), (0, fm), (0, i), (0, μ 30 (pm_shr i 1)), (0, fm - (μ 30 (pm_shr i 1)))] [(0, (-1)), (0, μ 203 (fm - (μ 30 (pm_shr i 1))))] μ [0 ≤ fm - (μ 30 (pm_shr i 1)) ∧ fm - (μ 30 (pm_shr i 1)) < 501] rfl ⟨⟨by omega, by omega⟩, trivial⟩ ?_
          refine pm_icmp hK zmm76 .ne 25 150 rfl rfl (fun h3 => ?_) (fun h3 => ?_)
          · have h3 : μ 203 (fm - (μ 30 (pm_shr i 1))) ≠ ((-1) : Int) := h3
            refine pm_blk hK zmm76 [] 2 63 [(2, 202), (2, 29), (0, p), (0, 301), (2, 203), (2, 204), (0, told), (0, next), (0, fm), (0, i + 1), (0, μ 30 (pm_shr i 1)), (0, fm - (μ 30 (pm_shr i 1)))] [] μ [pm_in (i + 1)] rfl ⟨pm_in_mk (by omega) (by omega), trivial⟩ ?_
            refine pm_hide [10, 11] ?_
            exact ih _ (by omega) rfl ⟨by omega, by omega⟩ hfm ht1 hS hH hQ hT
          · have h3 : μ 203 (fm - (μ 30 (pm_shr i 1))) = ((-1) : Int) := h3
            have f4 := zT_get hT zs203_0 (i := fm) (by omega) (by omega)
            refine pm_blk hK zmm76 [] 8 140 [(2, 202), (2, 29), (0, p), (0, 301), (2, 203), (2, 204), (0, told), (0, next), (0, fm), (0, i), (0, μ 30 (pm_shr i 1)), (0, fm - (μ 30 (pm_shr i 1)))] [] (pm_up μ 203 (fm - (μ 30 (pm_shr i 1))) ((μ 203 fm) + 1)) [0 ≤ fm ∧ fm < 501, pm_in ((μ 203 fm) + 1), sx_bit Wm 203 = true, 0 ≤ fm - (μ 30 (pm_shr i 1)) ∧ fm - (μ 30 (pm_shr i 1)) < 501] rfl ⟨⟨by omega, by omega⟩, pm_in_mk (by omega) (by omega), hb203, ⟨by omega, by omega⟩, trivial⟩ ?_
            obtain ⟨μ1, eμ1⟩ : ∃ μ', μ' = pm_up μ 203 (fm - (μ 30 (pm_shr i 1))) ((μ 203 fm) + 1) := ⟨_, rfl⟩
            rw [← eμ1]
            have hTμ1 : zTJ μ1 := by rw [eμ1]; exact zT_up hT zs203_0 rfl (i := fm - (μ 30 (pm_shr i 1))) (by omega) (by omega) (by omega) (by omega)
            refine pm_blk hK zmm76 [] 4 147 [(2, 202), (2, 29), (0, p), (0, 301), (2, 203), (2, 204), (0, told), (0, next), (0, fm), (0, i), (0, μ 30 (pm_shr i 1)), (0, fm - (μ 30 (pm_shr i 1)))] [] (pm_up μ1 204 told (fm - (μ 30 (pm_shr i 1)))) [sx_bit Wm 204 = true, 0 ≤ told ∧ told < 501] rfl ⟨hb204, ⟨by omega, by omega⟩, trivial⟩ ?_
            obtain ⟨μ2, eμ2⟩ : ∃ μ', μ' = pm_up μ1 204 told (fm - (μ 30 (pm_shr i 1))) := ⟨_, rfl⟩
            rw [← eμ2]
            have hTμ2 : zTJ μ2 := by rw [eμ2]; exact zT_up hTμ1 zs204_0 rfl (i := told) (by omega) (by omega) (by omega) (by omega)
            refine pm_blk hK zmm76 [] 3 63 [(2, 202), (2, 29), (0, p), (0, 301), (2, 203), (2, 204), (0, told + 1), (0, next), (0, fm), (0, i + 1), (0, μ 30 (pm_shr i 1)), (0, fm - (μ 30 (pm_shr i 1)))] [] μ2 [pm_in (told + 1), pm_in (i + 1)] rfl ⟨pm_in_mk (by omega) (by omega), pm_in_mk (by omega) (by omega), trivial⟩ ?_
            refine pm_hide [10, 11] ?_
            have hmu : zsum (zmk (μ2 203)) 301 = told + 1 := by rw [eμ2, eμ1, pm_up_row (by decide), zmk_up (by omega) (by omega) (by omega) h3]; omega
            refine ih _ (by omega) rfl ⟨by omega, by omega⟩ (by rw [eμ2, pm_up_off (by decide), eμ1]; by_cases hj : fm = (fm - (μ 30 (pm_shr i 1))); (exfalso; rw [← hj] at h3; omega); (rw [pm_up_ne hj]; exact hfm)) (by omega) hmu (fun j j0 j1 => ?_) (fun q q0 q1 => ?_) hTμ2
            · rw [eμ2, pm_up_off (by decide), eμ1]
              by_cases hj : j = (fm - (μ 30 (pm_shr i 1)))
              · rw [hj, pm_up_eq]; omega
              · rw [pm_up_ne hj]; have := hH j j0 j1; omega
            · have key : ∀ y : Int, 0 ≤ μ 203 y → 0 ≤ μ2 203 y := fun y hy => by
                rw [eμ2, pm_up_off (by decide), eμ1]
                by_cases hj : y = (fm - (μ 30 (pm_shr i 1)))
                · rw [hj, pm_up_eq]; omega
                · rw [pm_up_ne hj]; exact hy
              by_cases hq : q = told
              · have e9 : μ2 204 q = (fm - (μ 30 (pm_shr i 1))) := by rw [eμ2, hq, pm_up_eq]
                rw [e9]
                refine ⟨by omega, by omega, ?_⟩
                rw [eμ2, pm_up_off (by decide), eμ1, pm_up_eq]; omega
              · have e9 : μ2 204 q = μ 204 q := by rw [eμ2, pm_up_ne hq, eμ1, pm_up_off (by decide)]
                rw [e9]
                obtain ⟨v1, v2, v3⟩ := hQ q q0 (by omega)
                exact ⟨v1, v2, key _ v3⟩
      · have h1 : pm_and i 1 = (0 : Int) := h1
        refine pm_blk hK zmm76 [] 10 113 [(2, 202), (2, 29), (0, p), (0, 301), (2, 203), (2, 204), (0, told), (0, next), (0, fm), (0, i), (0, μ 30 (pm_shr i 1)), (0, fm + (μ 30 (pm_shr i 1)))] [(0, 301 - 1), (0, 0), (0, fm + (μ 30 (pm_shr i 1)))] μ [pm_in (fm + (μ 30 (pm_shr i 1))), pm_in (301 - 1)] rfl ⟨pm_in_mk (by omega) (by omega), pm_in_mk (by omega) (by omega), trivial⟩ ?_
        refine pm_call hK zmm76 (33, 1, 16, 3) zM16 (0, 0) [(0, fm + (μ 30 (pm_shr i 1))), (0, 0), (0, 301 - 1)] [] rfl rfl rfl rfl ⟨by omega, by rw [zn16]; omega⟩ (zh_within hK ⟨Nat.le_refl _, Nat.le_refl _⟩) (fun st2 μc2 hp2 => ?_)
        obtain ⟨rfl, rfl⟩ := hp2
        refine pm_if hK zmm76 .eq 34 150 rfl rfl (fun h4 => ?_) (fun h4 => ?_)
        · have h4 : (if 0 ≤ (fm + (μ 30 (pm_shr i 1))) ∧ (fm + (μ 30 (pm_shr i 1))) ≤ (301 - 1) then 1 else 0 : Int) = (0 : Int) := h4
          have h4 := zif0 h4
          refine pm_blk hK zmm76 [] 2 63 [(2, 202), (2, 29), (0, p), (0, 301), (2, 203), (2, 204), (0, told), (0, next), (0, fm), (0, i + 1), (0, μ 30 (pm_shr i 1)), (0, fm + (μ 30 (pm_shr i 1)))] [] μ [pm_in (i + 1)] rfl ⟨pm_in_mk (by omega) (by omega), trivial⟩ ?_
          refine pm_hide [10, 11] ?_
          exact ih _ (by omega) rfl ⟨by omega, by omega⟩ hfm ht1 hS hH hQ hT
        · have h4 : (if 0 ≤ (fm + (μ 30 (pm_shr i 1))) ∧ (fm + (μ 30 (pm_shr i 1))) ≤ (301 - 1) then 1 else 0 : Int) ≠ (0 : Int) := h4
          have h4 := zif1 h4
          have f5 := zT_get hT zs203_0 (i := fm + (μ 30 (pm_shr i 1))) (by omega) (by omega)
          refine pm_blk hK zmm76 [] 4 125 [(2, 202), (2, 29), (0, p), (0, 301), (2, 203), (2, 204), (0, told), (0, next), (0, fm), (0, i), (0, μ 30 (pm_shr i 1)), (0, fm + (μ 30 (pm_shr i 1)))] [(0, (-1)), (0, μ 203 (fm + (μ 30 (pm_shr i 1))))] μ [0 ≤ fm + (μ 30 (pm_shr i 1)) ∧ fm + (μ 30 (pm_shr i 1)) < 501] rfl ⟨⟨by omega, by omega⟩, trivial⟩ ?_
          refine pm_icmp hK zmm76 .ne 25 150 rfl rfl (fun h5 => ?_) (fun h5 => ?_)
          · have h5 : μ 203 (fm + (μ 30 (pm_shr i 1))) ≠ ((-1) : Int) := h5
            refine pm_blk hK zmm76 [] 2 63 [(2, 202), (2, 29), (0, p), (0, 301), (2, 203), (2, 204), (0, told), (0, next), (0, fm), (0, i + 1), (0, μ 30 (pm_shr i 1)), (0, fm + (μ 30 (pm_shr i 1)))] [] μ [pm_in (i + 1)] rfl ⟨pm_in_mk (by omega) (by omega), trivial⟩ ?_
            refine pm_hide [10, 11] ?_
            exact ih _ (by omega) rfl ⟨by omega, by omega⟩ hfm ht1 hS hH hQ hT
          · have h5 : μ 203 (fm + (μ 30 (pm_shr i 1))) = ((-1) : Int) := h5
            have f6 := zT_get hT zs203_0 (i := fm) (by omega) (by omega)
            refine pm_blk hK zmm76 [] 8 140 [(2, 202), (2, 29), (0, p), (0, 301), (2, 203), (2, 204), (0, told), (0, next), (0, fm), (0, i), (0, μ 30 (pm_shr i 1)), (0, fm + (μ 30 (pm_shr i 1)))] [] (pm_up μ 203 (fm + (μ 30 (pm_shr i 1))) ((μ 203 fm) + 1)) [0 ≤ fm ∧ fm < 501, pm_in ((μ 203 fm) + 1), sx_bit Wm 203 = true, 0 ≤ fm + (μ 30 (pm_shr i 1)) ∧ fm + (μ 30 (pm_shr i 1)) < 501] rfl ⟨⟨by omega, by omega⟩, pm_in_mk (by omega) (by omega), hb203, ⟨by omega, by omega⟩, trivial⟩ ?_
            obtain ⟨μ3, eμ3⟩ : ∃ μ', μ' = pm_up μ 203 (fm + (μ 30 (pm_shr i 1))) ((μ 203 fm) + 1) := ⟨_, rfl⟩
            rw [← eμ3]
            have hTμ3 : zTJ μ3 := by rw [eμ3]; exact zT_up hT zs203_0 rfl (i := fm + (μ 30 (pm_shr i 1))) (by omega) (by omega) (by omega) (by omega)
            refine pm_blk hK zmm76 [] 4 147 [(2, 202), (2, 29), (0, p), (0, 301), (2, 203), (2, 204), (0, told), (0, next), (0, fm), (0, i), (0, μ 30 (pm_shr i 1)), (0, fm + (μ 30 (pm_shr i 1)))] [] (pm_up μ3 204 told (fm + (μ 30 (pm_shr i 1)))) [sx_bit Wm 204 = true, 0 ≤ told ∧ told < 501] rfl ⟨hb204, ⟨by omega, by omega⟩, trivial⟩ ?_
            obtain ⟨μ4, eμ4⟩ : ∃ μ', μ' = pm_up μ3 204 told (fm + (μ 30 (pm_shr i 1))) := ⟨_, rfl⟩
            rw [← eμ4]
            have hTμ4 : zTJ μ4 := by rw [eμ4]; exact zT_up hTμ3 zs204_0 rfl (i := told) (by omega) (by omega) (by omega) (by omega)
            refine pm_blk hK zmm76 [] 3 63 [(2, 202), (2, 29), (0, p), (0, 301), (2, 203), (2, 204), (0, told + 1), (0, next), (0, fm), (0, i + 1), (0, μ 30 (pm_shr i 1)), (0, fm + (μ 30 (pm_shr i 1)))] [] μ4 [pm_in (told + 1), pm_in (i + 1)] rfl ⟨pm_in_mk (by omega) (by omega), pm_in_mk (by omega) (by omega), trivial⟩ ?_
            refine pm_hide [10, 11] ?_
            have hmu : zsum (zmk (μ4 203)) 301 = told + 1 := by rw [eμ4, eμ3, pm_up_row (by decide), zmk_up (by omega) (by omega) (by omega) h5]; omega
            refine ih _ (by omega) rfl ⟨by omega, by omega⟩ (by rw [eμ4, pm_up_off (by decide), eμ3]; by_cases hj : fm = (fm + (μ 30 (pm_shr i 1))); (exfalso; rw [← hj] at h5; omega); (rw [pm_up_ne hj]; exact hfm)) (by omega) hmu (fun j j0 j1 => ?_) (fun q q0 q1 => ?_) hTμ4
            · rw [eμ4, pm_up_off (by decide), eμ3]
              by_cases hj : j = (fm + (μ 30 (pm_shr i 1)))
              · rw [hj, pm_up_eq]; omega
              · rw [pm_up_ne hj]; have := hH j j0 j1; omega
            · have key : ∀ y : Int, 0 ≤ μ 203 y → 0 ≤ μ4 203 y := fun y hy => by
                rw [eμ4, pm_up_off (by decide), eμ3]
                by_cases hj : y = (fm + (μ 30 (pm_shr i 1)))
                · rw [hj, pm_up_eq]; omega
                · rw [pm_up_ne hj]; exact hy
              by_cases hq : q = told
              · have e9 : μ4 204 q = (fm + (μ 30 (pm_shr i 1))) := by rw [eμ4, hq, pm_up_eq]
                rw [e9]
                refine ⟨by omega, by omega, ?_⟩
                rw [eμ4, pm_up_off (by decide), eμ3, pm_up_eq]; omega
              · have e9 : μ4 204 q = μ 204 q := by rw [eμ4, pm_up_ne hq, eμ3, pm_up_off (by decide)]
                rw [e9]
                obtain ⟨v1, v2, v3⟩ := hQ q q0 (by omega)
                exact ⟨v1, v2, key _ v3⟩
set_option maxRecDepth 100000 in
theorem zl_fh1 (hK : zKK ST)  {p : Int} (hp : 0 ≤ p ∧ p ≤ 200) (hb203 : sx_bit Wm 203 = true) (hb204 : sx_bit Wm 204 = true) (hbd : 1 ≤ bud.1 ∧ 22 ≤ bud.2.1) : ∀ (n : Nat) {told next : Int} {μ : pm_Mem}, (301 - next).toNat = n → ∀ (hx : 0 ≤ next ∧ next ≤ 301) (ht1 : 1 ≤ told) (hS : zsum (zmk (μ 203)) 301 = told) (hH : ∀ j : Int, 0 ≤ j → j < 301 → -1 ≤ μ 203 j ∧ μ 203 j < told) (hQ : ∀ i : Int, 0 ≤ i → i < told → 0 ≤ μ 204 i ∧ μ 204 i ≤ 300 ∧ 0 ≤ μ 203 (μ 204 i)) (hT : zTJ μ), zW D Wm ST b0 l Sg zM76 bud (pm_X zM76 (fun st' μ' => ∃ x, st' = [(0, x)] ∧ pm_in x ∧ zTJ μ')) 40 [(2, 202), (2, 29), (0, p), (0, 301), (2, 203), (2, 204), (0, told), (0, next), (9, 0), (9, 0), (9, 0), (9, 0)] [] μ := by
  intro n
  induction n using Nat.strongRecOn with
  | ind n ih =>
    intro told next μ hn hx ht1 hS hH hQ hT
    have hml := zmk_le (f := μ 203) (n := 301)
    refine pm_blk hK zmm76 [] 2 44 [(2, 202), (2, 29), (0, p), (0, 301), (2, 203), (2, 204), (0, told), (0, next), (9, 0), (9, 0), (9, 0), (9, 0)] [(0, told), (0, next)] μ [] rfl trivial ?_
    refine pm_icmp hK zmm76 .ge 118 162 rfl rfl (fun h0 => ?_) (fun h0 => ?_)
    · have h0 : told ≤ next := h0
      refine pm_blk hK zmm76 [] 3 167 [(2, 202), (2, 29), (0, p), (0, 301), (2, 203), (2, 204), (0, told), (0, next), (9, 0), (9, 0), (9, 0), (9, 0)] [(0, 200), (0, 0), (0, p)] μ [] rfl trivial ?_
      refine pm_call hK zmm76 (33, 1, 16, 3) zM16 (0, 0) [(0, p), (0, 0), (0, 200)] [] rfl rfl rfl rfl ⟨by omega, by rw [zn16]; omega⟩ (zh_within hK ⟨Nat.le_refl _, Nat.le_refl _⟩) (fun st1 μc1 hp1 => ?_)
      obtain ⟨rfl, rfl⟩ := hp1
      refine pm_if hK zmm76 .eq 13 183 rfl rfl (fun h1 => ?_) (fun h1 => ?_)
      · have h1 : (if 0 ≤ p ∧ p ≤ 200 then 1 else 0 : Int) = (0 : Int) := h1
        have h1 := zif0 h1
        refine pm_blk hK zmm76 [] 1 184 [(2, 202), (2, 29), (0, p), (0, 301), (2, 203), (2, 204), (0, told), (0, next), (9, 0), (9, 0), (9, 0), (9, 0)] [(0, (-1))] μ [] rfl trivial ?_
        exact pm_iret rfl rfl ⟨_, rfl, ⟨by omega, by omega⟩, hT⟩
      · have h1 : (if 0 ≤ p ∧ p ≤ 200 then 1 else 0 : Int) ≠ (0 : Int) := h1
        have h1 := zif1 h1
        have f1 := zT_get hT zs203_0 (i := 50 + p) (by omega) (by omega)
        refine pm_blk hK zmm76 [] 6 184 [(2, 202), (2, 29), (0, p), (0, 301), (2, 203), (2, 204), (0, told), (0, next), (9, 0), (9, 0), (9, 0), (9, 0)] [(0, μ 203 (50 + p))] μ [pm_in (50 + p), 0 ≤ 50 + p ∧ 50 + p < 501] rfl ⟨pm_in_mk (by omega) (by omega), ⟨by omega, by omega⟩, trivial⟩ ?_
        exact pm_iret rfl rfl ⟨_, rfl, ⟨by omega, by omega⟩, hT⟩
    · have h0 : next < told := h0
      refine pm_blk hK zmm76 [] 2 50 [(2, 202), (2, 29), (0, p), (0, 301), (2, 203), (2, 204), (0, told), (0, next), (9, 0), (9, 0), (9, 0), (9, 0)] [(0, 301), (0, next)] μ [] rfl trivial ?_
      refine pm_icmp hK zmm76 .ge 112 162 rfl rfl (fun h2 => ?_) (fun h2 => ?_)
      · have h2 : (301 : Int) ≤ next := h2
        refine pm_blk hK zmm76 [] 3 167 [(2, 202), (2, 29), (0, p), (0, 301), (2, 203), (2, 204), (0, told), (0, next), (9, 0), (9, 0), (9, 0), (9, 0)] [(0, 200), (0, 0), (0, p)] μ [] rfl trivial ?_
        refine pm_call hK zmm76 (33, 1, 16, 3) zM16 (0, 0) [(0, p), (0, 0), (0, 200)] [] rfl rfl rfl rfl ⟨by omega, by rw [zn16]; omega⟩ (zh_within hK ⟨Nat.le_refl _, Nat.le_refl _⟩) (fun st2 μc2 hp2 => ?_)
        obtain ⟨rfl, rfl⟩ := hp2
        refine pm_if hK zmm76 .eq 13 183 rfl rfl (fun h3 => ?_) (fun h3 => ?_)
        · have h3 : (if 0 ≤ p ∧ p ≤ 200 then 1 else 0 : Int) = (0 : Int) := h3
          have h3 := zif0 h3
          refine pm_blk hK zmm76 [] 1 184 [(2, 202), (2, 29), (0, p), (0, 301), (2, 203), (2, 204), (0, told), (0, next), (9, 0), (9, 0), (9, 0), (9, 0)] [(0, (-1))] μ [] rfl trivial ?_
          exact pm_iret rfl rfl ⟨_, rfl, ⟨by omega, by omega⟩, hT⟩
        · have h3 : (if 0 ≤ p ∧ p ≤ 200 then 1 else 0 : Int) ≠ (0 : Int) := h3
          have h3 := zif1 h3
          have f2 := zT_get hT zs203_0 (i := 50 + p) (by omega) (by omega)
          refine pm_blk hK zmm76 [] 6 184 [(2, 202), (2, 29), (0, p), (0, 301), (2, 203), (2, 204), (0, told), (0, next), (9, 0), (9, 0), (9, 0), (9, 0)] [(0, μ 203 (50 + p))] μ [pm_in (50 + p), 0 ≤ 50 + p ∧ 50 + p < 501] rfl ⟨pm_in_mk (by omega) (by omega), ⟨by omega, by omega⟩, trivial⟩ ?_
          exact pm_iret rfl rfl ⟨_, rfl, ⟨by omega, by omega⟩, hT⟩
      · have h2 : next < (301 : Int) := h2
        obtain ⟨v1, v2, v3⟩ := hQ next (by omega) (by omega)
        have f3 := zT_get hT zs204_0 (i := next) (by omega) (by omega)
        refine pm_blk hK zmm76 [] 6 63 [(2, 202), (2, 29), (0, p), (0, 301), (2, 203), (2, 204), (0, told), (0, next), (0, μ 204 next), (0, 0), (9, 0), (9, 0)] [] μ [0 ≤ next ∧ next < 501] rfl ⟨⟨by omega, by omega⟩, trivial⟩ ?_
        refine zl_fh2 hK (fm := (μ 204 next)) ⟨v1, v2⟩ hb203 hb204 (fun told2 μ2 ht2 hS2 hH2 hQ2 hT2 => ?_) hbd _ rfl ⟨by omega, by omega⟩ v3 ht1 hS hH hQ hT
        refine pm_blk hK zmm76 [] 2 40 [(2, 202), (2, 29), (0, p), (0, 301), (2, 203), (2, 204), (0, told2), (0, next + 1), (9, 0), (9, 0), (9, 0), (9, 0)] [] μ2 [pm_in (next + 1)] rfl ⟨pm_in_mk (by omega) (by omega), trivial⟩ ?_
        exact ih _ (by omega) rfl ⟨by omega, by omega⟩ ht2 hS2 hH2 hQ2 hT2
set_option maxRecDepth 100000 in
theorem zh_fewestHands (hK : zKK ST) {p : Int} (hp : 0 ≤ p ∧ p ≤ 200) (hT : zTJ μ) (hb203 : sx_bit Wm 203 = true) (hb204 : sx_bit Wm 204 = true) (hbd : 1 ≤ bud.1 ∧ 23 ≤ bud.2.1) : zC D Wm ST b0 l Sg zM76 bud [(2, 202), (2, 29), (0, p)] μ (fun st' μ' => ∃ x, st' = [(0, x)] ∧ pm_in x ∧ zTJ μ') := by
  refine pm_blk hK zmm76 [] 10 19 [(2, 202), (2, 29), (0, p), (0, 301), (2, 203), (2, 204), (9, 0), (9, 0), (9, 0), (9, 0), (9, 0), (9, 0)] [(0, (-1)), (2, 203)] μ [] rfl trivial ?_
  refine pm_call hK zmm76 (18, 1, 77, 2) zM77 (0, 0) [(2, 203), (0, (-1))] [] rfl rfl rfl rfl ⟨by omega, by rw [zn77]; omega⟩ (zh_fill hK (v := ((-1))) ⟨by omega, by omega⟩ hT hb203 ⟨Nat.le_refl _, Nat.le_refl _⟩) (fun st1 μc1 hp1 => ?_)
  obtain ⟨rfl, hz1, hfr1, hTc1⟩ := hp1
  refine pm_blk hK zmm76 [] 4 28 [(2, 202), (2, 29), (0, p), (0, 301), (2, 203), (2, 204), (9, 0), (9, 0), (9, 0), (9, 0), (9, 0), (9, 0)] [] (pm_up μc1 203 50 0) [sx_bit Wm 203 = true, 0 ≤ 50 ∧ 50 < 501] rfl ⟨hb203, ⟨by omega, by omega⟩, trivial⟩ ?_
  obtain ⟨μ1, eμ1⟩ : ∃ μ', μ' = pm_up μc1 203 50 0 := ⟨_, rfl⟩
  rw [← eμ1]
  have hTμ1 : zTJ μ1 := by rw [eμ1]; exact zT_up hTc1 zs203_0 rfl (i := 50) (by omega) (by omega) (by omega) (by omega)
  refine pm_blk hK zmm76 [] 4 34 [(2, 202), (2, 29), (0, p), (0, 301), (2, 203), (2, 204), (9, 0), (9, 0), (9, 0), (9, 0), (9, 0), (9, 0)] [] (pm_up μ1 204 0 50) [sx_bit Wm 204 = true, 0 ≤ 0 ∧ 0 < 501] rfl ⟨hb204, ⟨by omega, by omega⟩, trivial⟩ ?_
  obtain ⟨μ2, eμ2⟩ : ∃ μ', μ' = pm_up μ1 204 0 50 := ⟨_, rfl⟩
  rw [← eμ2]
  have hTμ2 : zTJ μ2 := by rw [eμ2]; exact zT_up hTμ1 zs204_0 rfl (i := 0) (by omega) (by omega) (by omega) (by omega)
  refine pm_blk hK zmm76 [] 4 40 [(2, 202), (2, 29), (0, p), (0, 301), (2, 203), (2, 204), (0, 1), (0, 0), (9, 0), (9, 0), (9, 0), (9, 0)] [] μ2 [] rfl trivial ?_
  have hs0 := zmk_0 (f := μc1 203) (n := 301) (fun j j0 j1 => hz1 j j0 (by omega))
  have hs1 : zsum (zmk (μ1 203)) 301 = 1 := by rw [eμ1, zmk_up (by decide) (by decide) (by decide) (hz1 50 (by decide) (by decide)), hs0]; rfl
  refine zl_fh1 hK hp hb203 hb204 ⟨by omega, by omega⟩ _ rfl ⟨by omega, by omega⟩ (by omega) (by rw [eμ2, pm_up_row (by decide)]; exact hs1) (fun j j0 j1 => ?_) (fun i i0 i1 => ?_) hTμ2
  · rw [eμ2, pm_up_off (by decide), eμ1]
    by_cases hj : j = 50
    · rw [hj, pm_up_eq]; omega
    · rw [pm_up_ne hj, hz1 j j0 (by omega)]; omega
  · obtain rfl : i = 0 := by omega
    rw [eμ2, pm_up_eq, pm_up_off (by decide), eμ1, pm_up_eq]
    omega
end ZHW
