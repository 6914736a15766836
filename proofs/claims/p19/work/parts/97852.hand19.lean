/-! PAYS, both sides; walks printed by program (wip/p30/pmgen.py) and filled by hand -/
variable {φ : Option pm_Mem}
section ZHW
variable {D : va_G} {Wm : Nat} {ST : List (String × String × String × Nat)} {b0 : sx_B} {l : Launch} {Sg : Nat → Option Nat} {bud : sx_Bu} {μ : pm_Mem} {B0 : Nat → Prop} {J : (Nat → Option Nat) → Heap → Prop}
set_option maxRecDepth 100000 in
theorem zl_yh2 (hK : zKK ST) {X : Nat → List pm_V → List pm_V → pm_Mem → Prop} {f : Int → Int} {mm p next fm : Int} (hf : 0 ≤ fm ∧ fm ≤ 300) (hb203 : sx_bit Wm 203 = true) (hb204 : sx_bit Wm 204 = true) (K : ∀ (told i : Int) (μ : pm_Mem), 2 * mm ≤ i → zBi f mm (μ 203) (μ 204) told next i → 1 ≤ told → zsum (zmk (μ 203)) 301 = told → (∀ j : Int, 0 ≤ j → j < 301 → -1 ≤ μ 203 j ∧ μ 203 j < told) → (∀ i : Int, 0 ≤ i → i < told → 0 ≤ μ 204 i ∧ μ 204 i ≤ 300 ∧ 0 ≤ μ 203 (μ 204 i)) → μ 30 = f → μ 29 1 = mm → zTJ φ μ → zW D Wm ST b0 l Sg zM76 bud X 156 [(2, 202), (2, 29), (0, p), (0, 301), (2, 203), (2, 204), (0, told), (0, next), (9, 0), (9, 0), (9, 0), (9, 0)] [] μ) (hbd : 1 ≤ bud.1 ∧ 22 ≤ bud.2.1) : ∀ (n : Nat) {told i : Int} {μ : pm_Mem}, (12 - i).toNat = n → ∀ (hi : 0 ≤ i ∧ i ≤ 12) (hfm : 0 ≤ μ 203 fm) (hq : μ 204 next = fm) (hB : zBi f mm (μ 203) (μ 204) told next i) (ht1 : 1 ≤ told) (hS : zsum (zmk (μ 203)) 301 = told) (hH : ∀ j : Int, 0 ≤ j → j < 301 → -1 ≤ μ 203 j ∧ μ 203 j < told) (hQ : ∀ i : Int, 0 ≤ i → i < told → 0 ≤ μ 204 i ∧ μ 204 i ≤ 300 ∧ 0 ≤ μ 203 (μ 204 i)) (hff : μ 30 = f) (hmm : μ 29 1 = mm) (hT : zTJ φ μ), zW D Wm ST b0 l Sg zM76 bud X 63 [(2, 202), (2, 29), (0, p), (0, 301), (2, 203), (2, 204), (0, told), (0, next), (0, fm), (0, i), (9, 0), (9, 0)] [] μ := by
  intro n
  induction n using Nat.strongRecOn with
  | ind n ih =>
    intro told i μ hn hi hfm hq hB ht1 hS hH hQ hff hmm hT
    have hml := zmk_le (f := μ 203) (n := 301)
    have hsh := zshr (v := i) (k := 1) (by decide) (by unfold pm_in; omega)
    have hsh : pm_shr i 1 = i / 2 := hsh
    have f29 := zT_get hT zs29_1 (i := 1) (by omega) (by omega)
    have hh0 := hH fm (by omega) (by omega)
    have hlt := hB.lt
    have hnd := hB.o.nx
    have hand : pm_and i 1 = i % 2 := by have := zc_and i.toNat (by omega); rw [show ((i.toNat : Nat) : Int) = i by omega] at this; exact this
    have f1 := zT_get hT zs29_1 (i := 1) (by omega) (by omega)
    refine pm_blk hK zmm76 [] 5 71 [(2, 202), (2, 29), (0, p), (0, 301), (2, 203), (2, 204), (0, told), (0, next), (0, fm), (0, i), (9, 0), (9, 0)] [(0, 2 * (μ 29 1)), (0, i)] μ [pm_in (2 * (μ 29 1))] rfl ⟨pm_in_mk (by omega) (by omega), trivial⟩ ?_
    refine pm_icmp hK zmm76 .ge 85 156 rfl rfl (fun h0 => ?_) (fun h0 => ?_)
    · have h0 : 2 * (μ 29 1) ≤ i := h0
      refine pm_hide [8, 9] ?_
      exact K _ i _ (by omega) hB ht1 hS hH hQ hff hmm hT
    · have h0 : i < 2 * (μ 29 1) := h0
      have f2 := zT_get hT zs30_0 (i := pm_shr i 1) (by omega) (by omega)
      refine pm_blk hK zmm76 [] 10 89 [(2, 202), (2, 29), (0, p), (0, 301), (2, 203), (2, 204), (0, told), (0, next), (0, fm), (0, i), (0, μ 30 (pm_shr i 1)), (9, 0)] [(0, pm_and i 1)] μ [0 ≤ pm_shr i 1 ∧ pm_shr i 1 < 6] rfl ⟨⟨by omega, by omega⟩, trivial⟩ ?_
      refine pm_if hK zmm76 .ne 11 100 rfl rfl (fun h1 => ?_) (fun h1 => ?_)
      · have h1 : pm_and i 1 ≠ (0 : Int) := h1
        refine pm_blk hK zmm76 [] 9 113 [(2, 202), (2, 29), (0, p), (0, 301), (2, 203), (2, 204), (0, told), (0, next), (0, fm), (0, i), (0, μ 30 (pm_shr i 1)), (0, fm - (μ 30 (pm_shr i 1)))] [(0, 301 - 1), (0, 0), (0, fm - (μ 30 (pm_shr i 1)))] μ [pm_in (fm - (μ 30 (pm_shr i 1))), pm_in (301 - 1)] rfl ⟨pm_in_mk (by omega) (by omega), pm_in_mk (by omega) (by omega), trivial⟩ ?_
        refine pm_call hK zmm76 (33, 1, 16, 3) zM16 (0, 0) [(0, fm - (μ 30 (pm_shr i 1))), (0, 0), (0, 301 - 1)] [] rfl rfl rfl rfl ⟨by omega, by rw [zn16]; omega⟩ (zh_within hK ⟨Nat.le_refl _, Nat.le_refl _⟩) (fun st1 μc1 hp1 => ?_)
        obtain ⟨rfl, rfl⟩ := hp1
        refine pm_if hK zmm76 .eq 34 150 rfl rfl (fun h2 => ?_) (fun h2 => ?_)
        · have h2 : (if 0 ≤ (fm - (μ 30 (pm_shr i 1))) ∧ (fm - (μ 30 (pm_shr i 1))) ≤ (301 - 1) then 1 else 0 : Int) = (0 : Int) := h2
          have h2 := zif0 h2
          refine pm_blk hK zmm76 [] 2 63 [(2, 202), (2, 29), (0, p), (0, 301), (2, 203), (2, 204), (0, told), (0, next), (0, fm), (0, i + 1), (0, μ 30 (pm_shr i 1)), (0, fm - (μ 30 (pm_shr i 1)))] [] μ [pm_in (i + 1)] rfl ⟨pm_in_mk (by omega) (by omega), trivial⟩ ?_
          refine pm_hide [10, 11] ?_
          have ev : zcv f (μ 204 next) i = (fm - (μ 30 (pm_shr i 1))) := by rw [hq]; unfold zcv; rw [← hff, hsh]; first | rw [if_pos (by omega)] | rw [if_neg (by omega)]
          have hB2 := zBi_skip hB (fun a b => by rw [ev] at a b ⊢; have hv := hH (fm - (μ 30 (pm_shr i 1))) (by omega) (by omega); omega)
          exact ih _ (by omega) rfl ⟨by omega, by omega⟩ hfm hq hB2 ht1 hS hH hQ hff hmm hT
        · have h2 : (if 0 ≤ (fm - (μ 30 (pm_shr i 1))) ∧ (fm - (μ 30 (pm_shr i 1))) ≤ (301 - 1) then 1 else 0 : Int) ≠ (0 : Int) := h2
          have h2 := zif1 h2
          have f3 := zT_get hT zs203_0 (i := fm - (μ 30 (pm_shr i 1))) (by omega) (by omega)
          refine pm_blk hK zmm76 [] 4 125 [(2, 202), (2, 29), (0, p), (0, 301), (2, 203), (2, 204), (0, told), (0, next), (0, fm), (0, i), (0, μ 30 (pm_shr i 1)), (0, fm - (μ 30 (pm_shr i 1)))] [(0, (-1)), (0, μ 203 (fm - (μ 30 (pm_shr i 1))))] μ [0 ≤ fm - (μ 30 (pm_shr i 1)) ∧ fm - (μ 30 (pm_shr i 1)) < 501] rfl ⟨⟨by omega, by omega⟩, trivial⟩ ?_
          refine pm_icmp hK zmm76 .ne 25 150 rfl rfl (fun h3 => ?_) (fun h3 => ?_)
          · have h3 : μ 203 (fm - (μ 30 (pm_shr i 1))) ≠ ((-1) : Int) := h3
            refine pm_blk hK zmm76 [] 2 63 [(2, 202), (2, 29), (0, p), (0, 301), (2, 203), (2, 204), (0, told), (0, next), (0, fm), (0, i + 1), (0, μ 30 (pm_shr i 1)), (0, fm - (μ 30 (pm_shr i 1)))] [] μ [pm_in (i + 1)] rfl ⟨pm_in_mk (by omega) (by omega), trivial⟩ ?_
            refine pm_hide [10, 11] ?_
            have ev : zcv f (μ 204 next) i = (fm - (μ 30 (pm_shr i 1))) := by rw [hq]; unfold zcv; rw [← hff, hsh]; first | rw [if_pos (by omega)] | rw [if_neg (by omega)]
            have hB2 := zBi_skip hB (fun a b => by rw [ev] at a b ⊢; have hv := hH (fm - (μ 30 (pm_shr i 1))) (by omega) (by omega); omega)
            exact ih _ (by omega) rfl ⟨by omega, by omega⟩ hfm hq hB2 ht1 hS hH hQ hff hmm hT
          · have h3 : μ 203 (fm - (μ 30 (pm_shr i 1))) = ((-1) : Int) := h3
            have f4 := zT_get hT zs203_0 (i := fm) (by omega) (by omega)
            refine pm_blk hK zmm76 [] 8 140 [(2, 202), (2, 29), (0, p), (0, 301), (2, 203), (2, 204), (0, told), (0, next), (0, fm), (0, i), (0, μ 30 (pm_shr i 1)), (0, fm - (μ 30 (pm_shr i 1)))] [] (pm_up μ 203 (fm - (μ 30 (pm_shr i 1))) ((μ 203 fm) + 1)) [0 ≤ fm ∧ fm < 501, pm_in ((μ 203 fm) + 1), sx_bit Wm 203 = true, 0 ≤ fm - (μ 30 (pm_shr i 1)) ∧ fm - (μ 30 (pm_shr i 1)) < 501] rfl ⟨⟨by omega, by omega⟩, pm_in_mk (by omega) (by omega), hb203, ⟨by omega, by omega⟩, trivial⟩ ?_
            obtain ⟨μ1, eμ1⟩ : ∃ μ', μ' = pm_up μ 203 (fm - (μ 30 (pm_shr i 1))) ((μ 203 fm) + 1) := ⟨_, rfl⟩
            rw [← eμ1]
            have hTμ1 : zTJ φ μ1 := by rw [eμ1]; exact zT_up hT zs203_0 rfl (i := fm - (μ 30 (pm_shr i 1))) (by omega) (by omega) (by omega) (by omega)
            refine pm_blk hK zmm76 [] 4 147 [(2, 202), (2, 29), (0, p), (0, 301), (2, 203), (2, 204), (0, told), (0, next), (0, fm), (0, i), (0, μ 30 (pm_shr i 1)), (0, fm - (μ 30 (pm_shr i 1)))] [] (pm_up μ1 204 told (fm - (μ 30 (pm_shr i 1)))) [sx_bit Wm 204 = true, 0 ≤ told ∧ told < 501] rfl ⟨hb204, ⟨by omega, by omega⟩, trivial⟩ ?_
            obtain ⟨μ2, eμ2⟩ : ∃ μ', μ' = pm_up μ1 204 told (fm - (μ 30 (pm_shr i 1))) := ⟨_, rfl⟩
            rw [← eμ2]
            have hTμ2 : zTJ φ μ2 := by rw [eμ2]; exact zT_up hTμ1 zs204_0 rfl (i := told) (by omega) (by omega) (by omega) (by omega)
            refine pm_blk hK zmm76 [] 3 63 [(2, 202), (2, 29), (0, p), (0, 301), (2, 203), (2, 204), (0, told + 1), (0, next), (0, fm), (0, i + 1), (0, μ 30 (pm_shr i 1)), (0, fm - (μ 30 (pm_shr i 1)))] [] μ2 [pm_in (told + 1), pm_in (i + 1)] rfl ⟨pm_in_mk (by omega) (by omega), pm_in_mk (by omega) (by omega), trivial⟩ ?_
            refine pm_hide [10, 11] ?_
            have ev : zcv f (μ 204 next) i = (fm - (μ 30 (pm_shr i 1))) := by rw [hq]; unfold zcv; rw [← hff, hsh]; first | rw [if_pos (by omega)] | rw [if_neg (by omega)]
            have hB2 := zBi_add hB (by omega) (by omega) ev.symm (by omega) (by omega) h3 (H' := μ2 203) (Q' := μ2 204) (fun j => by rw [hq, eμ2, pm_up_off (by decide), eμ1, pm_up_if]) (fun a => by rw [eμ2, pm_up_if, eμ1, pm_up_off (by decide)])
            have hmu : zsum (zmk (μ2 203)) 301 = told + 1 := by rw [eμ2, eμ1, pm_up_row (by decide), zmk_up (by omega) (by omega) (by omega) h3]; omega
            refine ih _ (by omega) rfl ⟨by omega, by omega⟩ (by rw [eμ2, pm_up_off (by decide), eμ1]; by_cases hj : fm = (fm - (μ 30 (pm_shr i 1))); (exfalso; rw [← hj] at h3; omega); (rw [pm_up_ne hj]; exact hfm)) (by rw [eμ2, pm_up_ne (by omega), eμ1, pm_up_off (by decide)]; exact hq) hB2 (by omega) hmu (fun j j0 j1 => ?_) (fun q q0 q1 => ?_) (by rw [eμ2, pm_up_row (by decide), eμ1, pm_up_row (by decide)]; exact hff) (by rw [eμ2, pm_up_off (by decide), eμ1, pm_up_off (by decide)]; exact hmm) hTμ2
            · rw [eμ2, pm_up_off (by decide), eμ1]
              by_cases hj : j = (fm - (μ 30 (pm_shr i 1)))
              · rw [hj, pm_up_eq]; omega
              · rw [pm_up_ne hj]; have := hH j j0 j1; omega
            · have key : ∀ y : Int, 0 ≤ μ 203 y → 0 ≤ μ2 203 y := fun y hy => by
                rw [eμ2, pm_up_off (by decide), eμ1]
                by_cases hj : y = (fm - (μ 30 (pm_shr i 1)))
                · rw [hj, pm_up_eq]; omega
                · rw [pm_up_ne hj]; exact hy
              by_cases hq : q = told
              · have e9 : μ2 204 q = (fm - (μ 30 (pm_shr i 1))) := by rw [eμ2, hq, pm_up_eq]
                rw [e9]
                refine ⟨by omega, by omega, ?_⟩
                rw [eμ2, pm_up_off (by decide), eμ1, pm_up_eq]; omega
              · have e9 : μ2 204 q = μ 204 q := by rw [eμ2, pm_up_ne hq, eμ1, pm_up_off (by decide)]
                rw [e9]
                obtain ⟨v1, v2, v3⟩ := hQ q q0 (by omega)
                exact ⟨v1, v2, key _ v3⟩
      · have h1 : pm_and i 1 = (0 : Int) := h1
        refine pm_blk hK zmm76 [] 10 113 [(2, 202), (2, 29), (0, p), (0, 301), (2, 203), (2, 204), (0, told), (0, next), (0, fm), (0, i), (0, μ 30 (pm_shr i 1)), (0, fm + (μ 30 (pm_shr i 1)))] [(0, 301 - 1), (0, 0), (0, fm + (μ 30 (pm_shr i 1)))] μ [pm_in (fm + (μ 30 (pm_shr i 1))), pm_in (301 - 1)] rfl ⟨pm_in_mk (by omega) (by omega), pm_in_mk (by omega) (by omega), trivial⟩ ?_
        refine pm_call hK zmm76 (33, 1, 16, 3) zM16 (0, 0) [(0, fm + (μ 30 (pm_shr i 1))), (0, 0), (0, 301 - 1)] [] rfl rfl rfl rfl ⟨by omega, by rw [zn16]; omega⟩ (zh_within hK ⟨Nat.le_refl _, Nat.le_refl _⟩) (fun st2 μc2 hp2 => ?_)
        obtain ⟨rfl, rfl⟩ := hp2
        refine pm_if hK zmm76 .eq 34 150 rfl rfl (fun h4 => ?_) (fun h4 => ?_)
        · have h4 : (if 0 ≤ (fm + (μ 30 (pm_shr i 1))) ∧ (fm + (μ 30 (pm_shr i 1))) ≤ (301 - 1) then 1 else 0 : Int) = (0 : Int) := h4
          have h4 := zif0 h4
          refine pm_blk hK zmm76 [] 2 63 [(2, 202), (2, 29), (0, p), (0, 301), (2, 203), (2, 204), (0, told), (0, next), (0, fm), (0, i + 1), (0, μ 30 (pm_shr i 1)), (0, fm + (μ 30 (pm_shr i 1)))] [] μ [pm_in (i + 1)] rfl ⟨pm_in_mk (by omega) (by omega), trivial⟩ ?_
          refine pm_hide [10, 11] ?_
          have ev : zcv f (μ 204 next) i = (fm + (μ 30 (pm_shr i 1))) := by rw [hq]; unfold zcv; rw [← hff, hsh]; first | rw [if_pos (by omega)] | rw [if_neg (by omega)]
          have hB2 := zBi_skip hB (fun a b => by rw [ev] at a b ⊢; have hv := hH (fm + (μ 30 (pm_shr i 1))) (by omega) (by omega); omega)
          exact ih _ (by omega) rfl ⟨by omega, by omega⟩ hfm hq hB2 ht1 hS hH hQ hff hmm hT
        · have h4 : (if 0 ≤ (fm + (μ 30 (pm_shr i 1))) ∧ (fm + (μ 30 (pm_shr i 1))) ≤ (301 - 1) then 1 else 0 : Int) ≠ (0 : Int) := h4
          have h4 := zif1 h4
          have f5 := zT_get hT zs203_0 (i := fm + (μ 30 (pm_shr i 1))) (by omega) (by omega)
          refine pm_blk hK zmm76 [] 4 125 [(2, 202), (2, 29), (0, p), (0, 301), (2, 203), (2, 204), (0, told), (0, next), (0, fm), (0, i), (0, μ 30 (pm_shr i 1)), (0, fm + (μ 30 (pm_shr i 1)))] [(0, (-1)), (0, μ 203 (fm + (μ 30 (pm_shr i 1))))] μ [0 ≤ fm + (μ 30 (pm_shr i 1)) ∧ fm + (μ 30 (pm_shr i 1)) < 501] rfl ⟨⟨by omega, by omega⟩, trivial⟩ ?_
          refine pm_icmp hK zmm76 .ne 25 150 rfl rfl (fun h5 => ?_) (fun h5 => ?_)
          · have h5 : μ 203 (fm + (μ 30 (pm_shr i 1))) ≠ ((-1) : Int) := h5
            refine pm_blk hK zmm76 [] 2 63 [(2, 202), (2, 29), (0, p), (0, 301), (2, 203), (2, 204), (0, told), (0, next), (0, fm), (0, i + 1), (0, μ 30 (pm_shr i 1)), (0, fm + (μ 30 (pm_shr i 1)))] [] μ [pm_in (i + 1)] rfl ⟨pm_in_mk (by omega) (by omega), trivial⟩ ?_
            refine pm_hide [10, 11] ?_
            have ev : zcv f (μ 204 next) i = (fm + (μ 30 (pm_shr i 1))) := by rw [hq]; unfold zcv; rw [← hff, hsh]; first | rw [if_pos (by omega)] | rw [if_neg (by omega)]
            have hB2 := zBi_skip hB (fun a b => by rw [ev] at a b ⊢; have hv := hH (fm + (μ 30 (pm_shr i 1))) (by omega) (by omega); omega)
            exact ih _ (by omega) rfl ⟨by omega, by omega⟩ hfm hq hB2 ht1 hS hH hQ hff hmm hT
          · have h5 : μ 203 (fm + (μ 30 (pm_shr i 1))) = ((-1) : Int) := h5
            have f6 := zT_get hT zs203_0 (i := fm) (by omega) (by omega)
            refine pm_blk hK zmm76 [] 8 140 [(2, 202), (2, 29), (0, p), (0, 301), (2, 203), (2, 204), (0, told), (0, next), (0, fm), (0, i), (0, μ 30 (pm_shr i 1)), (0, fm + (μ 30 (pm_shr i 1)))] [] (pm_up μ 203 (fm + (μ 30 (pm_shr i 1))) ((μ 203 fm) + 1)) [0 ≤ fm ∧ fm < 501, pm_in ((μ 203 fm) + 1), sx_bit Wm 203 = true, 0 ≤ fm + (μ 30 (pm_shr i 1)) ∧ fm + (μ 30 (pm_shr i 1)) < 501] rfl ⟨⟨by omega, by omega⟩, pm_in_mk (by omega) (by omega), hb203, ⟨by omega, by omega⟩, trivial⟩ ?_
            obtain ⟨μ3, eμ3⟩ : ∃ μ', μ' = pm_up μ 203 (fm + (μ 30 (pm_shr i 1))) ((μ 203 fm) + 1) := ⟨_, rfl⟩
            rw [← eμ3]
            have hTμ3 : zTJ φ μ3 := by rw [eμ3]; exact zT_up hT zs203_0 rfl (i := fm + (μ 30 (pm_shr i 1))) (by omega) (by omega) (by omega) (by omega)
            refine pm_blk hK zmm76 [] 4 147 [(2, 202), (2, 29), (0, p), (0, 301), (2, 203), (2, 204), (0, told), (0, next), (0, fm), (0, i), (0, μ 30 (pm_shr i 1)), (0, fm + (μ 30 (pm_shr i 1)))] [] (pm_up μ3 204 told (fm + (μ 30 (pm_shr i 1)))) [sx_bit Wm 204 = true, 0 ≤ told ∧ told < 501] rfl ⟨hb204, ⟨by omega, by omega⟩, trivial⟩ ?_
            obtain ⟨μ4, eμ4⟩ : ∃ μ', μ' = pm_up μ3 204 told (fm + (μ 30 (pm_shr i 1))) := ⟨_, rfl⟩
            rw [← eμ4]
            have hTμ4 : zTJ φ μ4 := by rw [eμ4]; exact zT_up hTμ3 zs204_0 rfl (i := told) (by omega) (by omega) (by omega) (by omega)
            refine pm_blk hK zmm76 [] 3 63 [(2, 202), (2, 29), (0, p), (0, 301), (2, 203), (2, 204), (0, told + 1), (0, next), (0, fm), (0, i + 1), (0, μ 30 (pm_shr i 1)), (0, fm + (μ 30 (pm_shr i 1)))] [] μ4 [pm_in (told + 1), pm_in (i + 1)] rfl ⟨pm_in_mk (by omega) (by omega), pm_in_mk (by omega) (by omega), trivial⟩ ?_
            refine pm_hide [10, 11] ?_
            have ev : zcv f (μ 204 next) i = (fm + (μ 30 (pm_shr i 1))) := by rw [hq]; unfold zcv; rw [← hff, hsh]; first | rw [if_pos (by omega)] | rw [if_neg (by omega)]
            have hB2 := zBi_add hB (by omega) (by omega) ev.symm (by omega) (by omega) h5 (H' := μ4 203) (Q' := μ4 204) (fun j => by rw [hq, eμ4, pm_up_off (by decide), eμ3, pm_up_if]) (fun a => by rw [eμ4, pm_up_if, eμ3, pm_up_off (by decide)])
            have hmu : zsum (zmk (μ4 203)) 301 = told + 1 := by rw [eμ4, eμ3, pm_up_row (by decide), zmk_up (by omega) (by omega) (by omega) h5]; omega
            refine ih _ (by omega) rfl ⟨by omega, by omega⟩ (by rw [eμ4, pm_up_off (by decide), eμ3]; by_cases hj : fm = (fm + (μ 30 (pm_shr i 1))); (exfalso; rw [← hj] at h5; omega); (rw [pm_up_ne hj]; exact hfm)) (by rw [eμ4, pm_up_ne (by omega), eμ3, pm_up_off (by decide)]; exact hq) hB2 (by omega) hmu (fun j j0 j1 => ?_) (fun q q0 q1 => ?_) (by rw [eμ4, pm_up_row (by decide), eμ3, pm_up_row (by decide)]; exact hff) (by rw [eμ4, pm_up_off (by decide), eμ3, pm_up_off (by decide)]; exact hmm) hTμ4
            · rw [eμ4, pm_up_off (by decide), eμ3]
              by_cases hj : j = (fm + (μ 30 (pm_shr i 1)))
              · rw [hj, pm_up_eq]; omega
              · rw [pm_up_ne hj]; have := hH j j0 j1; omega
            · have key : ∀ y : Int, 0 ≤ μ 203 y → 0 ≤ μ4 203 y := fun y hy => by
                rw [eμ4, pm_up_off (by decide), eμ3]
                by_cases hj : y = (fm + (μ 30 (pm_shr i 1)))
                · rw [hj, pm_up_eq]; omega
                · rw [pm_up_ne hj]; exact hy
              by_cases hq : q = told
              · have e9 : μ4 204 q = (fm + (μ 30 (pm_shr i 1))) := by rw [eμ4, hq, pm_up_eq]
                rw [e9]
                refine ⟨by omega, by omega, ?_⟩
                rw [eμ4, pm_up_off (by decide), eμ3, pm_up_eq]; omega
              · have e9 : μ4 204 q = μ 204 q := by rw [eμ4, pm_up_ne hq, eμ3, pm_up_off (by decide)]
                rw [e9]
                obtain ⟨v1, v2, v3⟩ := hQ q q0 (by omega)
                exact ⟨v1, v2, key _ v3⟩
set_option maxRecDepth 100000 in
theorem zl_yh1 (hK : zKK ST)  {f : Int → Int} {mm p : Int} (hp : 0 ≤ p ∧ p ≤ 200) (hb203 : sx_bit Wm 203 = true) (hb204 : sx_bit Wm 204 = true) (hbd : 1 ≤ bud.1 ∧ 22 ≤ bud.2.1) : ∀ (n : Nat) {told next : Int} {μ : pm_Mem}, (301 - next).toNat = n → ∀ (hx : 0 ≤ next ∧ next ≤ 301) (hB : zBo f mm (μ 203) (μ 204) told next) (ht1 : 1 ≤ told) (hS : zsum (zmk (μ 203)) 301 = told) (hH : ∀ j : Int, 0 ≤ j → j < 301 → -1 ≤ μ 203 j ∧ μ 203 j < told) (hQ : ∀ i : Int, 0 ≤ i → i < told → 0 ≤ μ 204 i ∧ μ 204 i ≤ 300 ∧ 0 ≤ μ 203 (μ 204 i)) (hff : μ 30 = f) (hmm : μ 29 1 = mm) (hT : zTJ φ μ), zW D Wm ST b0 l Sg zM76 bud (pm_X zM76 (fun st' μ' => zTJ φ μ' ∧ ∃ x, st' = [(0, x)] ∧ zcAn f mm p x)) 40 [(2, 202), (2, 29), (0, p), (0, 301), (2, 203), (2, 204), (0, told), (0, next), (9, 0), (9, 0), (9, 0), (9, 0)] [] μ := by
  intro n
  induction n using Nat.strongRecOn with
  | ind n ih =>
    intro told next μ hn hx hB ht1 hS hH hQ hff hmm hT
    have hml := zmk_le (f := μ 203) (n := 301)
    have f29 := zT_get hT zs29_1 (i := 1) (by omega) (by omega)
    refine pm_blk hK zmm76 [] 2 44 [(2, 202), (2, 29), (0, p), (0, 301), (2, 203), (2, 204), (0, told), (0, next), (9, 0), (9, 0), (9, 0), (9, 0)] [(0, told), (0, next)] μ [] rfl trivial ?_
    refine pm_icmp hK zmm76 .ge 118 162 rfl rfl (fun h0 => ?_) (fun h0 => ?_)
    · have h0 : told ≤ next := h0
      refine pm_blk hK zmm76 [] 3 167 [(2, 202), (2, 29), (0, p), (0, 301), (2, 203), (2, 204), (0, told), (0, next), (9, 0), (9, 0), (9, 0), (9, 0)] [(0, 200), (0, 0), (0, p)] μ [] rfl trivial ?_
      refine pm_call hK zmm76 (33, 1, 16, 3) zM16 (0, 0) [(0, p), (0, 0), (0, 200)] [] rfl rfl rfl rfl ⟨by omega, by rw [zn16]; omega⟩ (zh_within hK ⟨Nat.le_refl _, Nat.le_refl _⟩) (fun st1 μc1 hp1 => ?_)
      obtain ⟨rfl, rfl⟩ := hp1
      refine pm_if hK zmm76 .eq 13 183 rfl rfl (fun h1 => ?_) (fun h1 => ?_)
      · have h1 : (if 0 ≤ p ∧ p ≤ 200 then 1 else 0 : Int) = (0 : Int) := h1
        have h1 := zif0 h1
        refine pm_blk hK zmm76 [] 1 184 [(2, 202), (2, 29), (0, p), (0, 301), (2, 203), (2, 204), (0, told), (0, next), (9, 0), (9, 0), (9, 0), (9, 0)] [(0, (-1))] μ [] rfl trivial ?_
        first
        | (exfalso; omega)
        | (have hv := hH (50 + p) (by omega) (by omega); exact pm_iret rfl rfl ⟨hT, _, rfl, zBo_fin (fun c c0 c1 => by rw [← hff]; have hc := zT_get hT zs30_0 (i := c) (by omega) (by omega); omega) hB (by omega) hp ⟨by omega, by omega⟩⟩)
      · have h1 : (if 0 ≤ p ∧ p ≤ 200 then 1 else 0 : Int) ≠ (0 : Int) := h1
        have h1 := zif1 h1
        have f1 := zT_get hT zs203_0 (i := 50 + p) (by omega) (by omega)
        refine pm_blk hK zmm76 [] 6 184 [(2, 202), (2, 29), (0, p), (0, 301), (2, 203), (2, 204), (0, told), (0, next), (9, 0), (9, 0), (9, 0), (9, 0)] [(0, μ 203 (50 + p))] μ [pm_in (50 + p), 0 ≤ 50 + p ∧ 50 + p < 501] rfl ⟨pm_in_mk (by omega) (by omega), ⟨by omega, by omega⟩, trivial⟩ ?_
        first
        | (exfalso; omega)
        | (have hv := hH (50 + p) (by omega) (by omega); exact pm_iret rfl rfl ⟨hT, _, rfl, zBo_fin (fun c c0 c1 => by rw [← hff]; have hc := zT_get hT zs30_0 (i := c) (by omega) (by omega); omega) hB (by omega) hp ⟨by omega, by omega⟩⟩)
    · have h0 : next < told := h0
      refine pm_blk hK zmm76 [] 2 50 [(2, 202), (2, 29), (0, p), (0, 301), (2, 203), (2, 204), (0, told), (0, next), (9, 0), (9, 0), (9, 0), (9, 0)] [(0, 301), (0, next)] μ [] rfl trivial ?_
      refine pm_icmp hK zmm76 .ge 112 162 rfl rfl (fun h2 => ?_) (fun h2 => ?_)
      · have h2 : (301 : Int) ≤ next := h2
        refine pm_blk hK zmm76 [] 3 167 [(2, 202), (2, 29), (0, p), (0, 301), (2, 203), (2, 204), (0, told), (0, next), (9, 0), (9, 0), (9, 0), (9, 0)] [(0, 200), (0, 0), (0, p)] μ [] rfl trivial ?_
        refine pm_call hK zmm76 (33, 1, 16, 3) zM16 (0, 0) [(0, p), (0, 0), (0, 200)] [] rfl rfl rfl rfl ⟨by omega, by rw [zn16]; omega⟩ (zh_within hK ⟨Nat.le_refl _, Nat.le_refl _⟩) (fun st2 μc2 hp2 => ?_)
        obtain ⟨rfl, rfl⟩ := hp2
        refine pm_if hK zmm76 .eq 13 183 rfl rfl (fun h3 => ?_) (fun h3 => ?_)
        · have h3 : (if 0 ≤ p ∧ p ≤ 200 then 1 else 0 : Int) = (0 : Int) := h3
          have h3 := zif0 h3
          refine pm_blk hK zmm76 [] 1 184 [(2, 202), (2, 29), (0, p), (0, 301), (2, 203), (2, 204), (0, told), (0, next), (9, 0), (9, 0), (9, 0), (9, 0)] [(0, (-1))] μ [] rfl trivial ?_
          first
          | (exfalso; omega)
          | (have hv := hH (50 + p) (by omega) (by omega); exact pm_iret rfl rfl ⟨hT, _, rfl, zBo_fin (fun c c0 c1 => by rw [← hff]; have hc := zT_get hT zs30_0 (i := c) (by omega) (by omega); omega) hB (by omega) hp ⟨by omega, by omega⟩⟩)
        · have h3 : (if 0 ≤ p ∧ p ≤ 200 then 1 else 0 : Int) ≠ (0 : Int) := h3
          have h3 := zif1 h3
          have f2 := zT_get hT zs203_0 (i := 50 + p) (by omega) (by omega)
          refine pm_blk hK zmm76 [] 6 184 [(2, 202), (2, 29), (0, p), (0, 301), (2, 203), (2, 204), (0, told), (0, next), (9, 0), (9, 0), (9, 0), (9, 0)] [(0, μ 203 (50 + p))] μ [pm_in (50 + p), 0 ≤ 50 + p ∧ 50 + p < 501] rfl ⟨pm_in_mk (by omega) (by omega), ⟨by omega, by omega⟩, trivial⟩ ?_
          first
          | (exfalso; omega)
          | (have hv := hH (50 + p) (by omega) (by omega); exact pm_iret rfl rfl ⟨hT, _, rfl, zBo_fin (fun c c0 c1 => by rw [← hff]; have hc := zT_get hT zs30_0 (i := c) (by omega) (by omega); omega) hB (by omega) hp ⟨by omega, by omega⟩⟩)
      · have h2 : next < (301 : Int) := h2
        obtain ⟨v1, v2, v3⟩ := hQ next (by omega) (by omega)
        have f3 := zT_get hT zs204_0 (i := next) (by omega) (by omega)
        refine pm_blk hK zmm76 [] 6 63 [(2, 202), (2, 29), (0, p), (0, 301), (2, 203), (2, 204), (0, told), (0, next), (0, μ 204 next), (0, 0), (9, 0), (9, 0)] [] μ [0 ≤ next ∧ next < 501] rfl ⟨⟨by omega, by omega⟩, trivial⟩ ?_
        refine zl_yh2 hK (f := f) (mm := mm) (fm := (μ 204 next)) ⟨v1, v2⟩ hb203 hb204 (fun told2 i2 μ2 hi2 hB2 ht2 hS2 hH2 hQ2 hff2 hmm2 hT2 => ?_) hbd _ rfl ⟨by omega, by omega⟩ v3 rfl (zBi_0 hB (by omega)) ht1 hS hH hQ hff hmm hT
        refine pm_blk hK zmm76 [] 2 40 [(2, 202), (2, 29), (0, p), (0, 301), (2, 203), (2, 204), (0, told2), (0, next + 1), (9, 0), (9, 0), (9, 0), (9, 0)] [] μ2 [pm_in (next + 1)] rfl ⟨pm_in_mk (by omega) (by omega), trivial⟩ ?_
        exact ih _ (by omega) rfl ⟨by omega, by omega⟩ (zBi_end hB2 hi2) ht2 hS2 hH2 hQ2 hff2 hmm2 hT2
set_option maxRecDepth 100000 in
theorem zh_yh (hK : zKK ST) {p : Int} (hp : 0 ≤ p ∧ p ≤ 200) (hT : zTJ φ μ) (hb203 : sx_bit Wm 203 = true) (hb204 : sx_bit Wm 204 = true) (hbd : 1 ≤ bud.1 ∧ 23 ≤ bud.2.1) : zC D Wm ST b0 l Sg zM76 bud [(2, 202), (2, 29), (0, p)] μ (fun st' μ' => zTJ φ μ' ∧ ∃ x, st' = [(0, x)] ∧ zcAn (μ 30) (μ 29 1) p x) := by
  refine pm_blk hK zmm76 [] 10 19 [(2, 202), (2, 29), (0, p), (0, 301), (2, 203), (2, 204), (9, 0), (9, 0), (9, 0), (9, 0), (9, 0), (9, 0)] [(0, (-1)), (2, 203)] μ [] rfl trivial ?_
  refine pm_call hK zmm76 (18, 1, 77, 2) zM77 (0, 0) [(2, 203), (0, (-1))] [] rfl rfl rfl rfl ⟨by omega, by rw [zn77]; omega⟩ (zh_fill hK (v := ((-1))) ⟨by omega, by omega⟩ hT hb203 ⟨Nat.le_refl _, Nat.le_refl _⟩) (fun st1 μc1 hp1 => ?_)
  obtain ⟨rfl, hz1, hfr1, hTc1⟩ := hp1
  refine pm_blk hK zmm76 [] 4 28 [(2, 202), (2, 29), (0, p), (0, 301), (2, 203), (2, 204), (9, 0), (9, 0), (9, 0), (9, 0), (9, 0), (9, 0)] [] (pm_up μc1 203 50 0) [sx_bit Wm 203 = true, 0 ≤ 50 ∧ 50 < 501] rfl ⟨hb203, ⟨by omega, by omega⟩, trivial⟩ ?_
  obtain ⟨μ1, eμ1⟩ : ∃ μ', μ' = pm_up μc1 203 50 0 := ⟨_, rfl⟩
  rw [← eμ1]
  have hTμ1 : zTJ φ μ1 := by rw [eμ1]; exact zT_up hTc1 zs203_0 rfl (i := 50) (by omega) (by omega) (by omega) (by omega)
  refine pm_blk hK zmm76 [] 4 34 [(2, 202), (2, 29), (0, p), (0, 301), (2, 203), (2, 204), (9, 0), (9, 0), (9, 0), (9, 0), (9, 0), (9, 0)] [] (pm_up μ1 204 0 50) [sx_bit Wm 204 = true, 0 ≤ 0 ∧ 0 < 501] rfl ⟨hb204, ⟨by omega, by omega⟩, trivial⟩ ?_
  obtain ⟨μ2, eμ2⟩ : ∃ μ', μ' = pm_up μ1 204 0 50 := ⟨_, rfl⟩
  rw [← eμ2]
  have hTμ2 : zTJ φ μ2 := by rw [eμ2]; exact zT_up hTμ1 zs204_0 rfl (i := 0) (by omega) (by omega) (by omega) (by omega)
  refine pm_blk hK zmm76 [] 4 40 [(2, 202), (2, 29), (0, p), (0, 301), (2, 203), (2, 204), (0, 1), (0, 0), (9, 0), (9, 0), (9, 0), (9, 0)] [] μ2 [] rfl trivial ?_
  have hs0 := zmk_0 (f := μc1 203) (n := 301) (fun j j0 j1 => hz1 j j0 (by omega))
  have hs1 : zsum (zmk (μ1 203)) 301 = 1 := by rw [eμ1, zmk_up (by decide) (by decide) (by decide) (hz1 50 (by decide) (by decide)), hs0]; rfl
  refine zl_yh1 hK (f := μ 30) (mm := μ 29 1) hp hb203 hb204 ⟨by omega, by omega⟩ _ rfl ⟨by omega, by omega⟩ (zBo_0 (fun j j0 j1 => ?_) ?_) (by omega) (by rw [eμ2, pm_up_row (by decide)]; exact hs1) (fun j j0 j1 => ?_) (fun i i0 i1 => ?_) ?_ ?_ hTμ2
  · rw [eμ2, pm_up_off (by decide), eμ1, pm_up_if, hz1 j j0 (by omega)]
  · rw [eμ2, pm_up_eq]
  · rw [eμ2, pm_up_off (by decide), eμ1]
    by_cases hj : j = 50
    · rw [hj, pm_up_eq]; omega
    · rw [pm_up_ne hj, hz1 j j0 (by omega)]; omega
  · obtain rfl : i = 0 := by omega
    rw [eμ2, pm_up_eq, pm_up_off (by decide), eμ1, pm_up_eq]
    omega
  · rw [eμ2, pm_up_row (by decide), eμ1, pm_up_row (by decide)]; exact hfr1 30 (by decide)
  · rw [eμ2, pm_up_off (by decide), eμ1, pm_up_off (by decide), hfr1 29 (by decide)]
set_option maxRecDepth 100000 in
theorem zl_yw2 (hK : zKK ST) {X : Nat → List pm_V → List pm_V → pm_Mem → Prop} {f : Int → Int} {mm p i co : Int} (hp : 0 ≤ p ∧ p ≤ 200) (hco : 1 ≤ co ∧ co ≤ 50) (hfc : f (i.toNat : Int) = co) (hb203 : sx_bit Wm 203 = true) (K : ∀ (μ : pm_Mem), zcwr f (μ 203) (i.toNat + 1) p → μ 30 = f → μ 29 1 = mm → zTJ φ μ → zW D Wm ST b0 l Sg zM78 bud X 76 [(2, 202), (2, 29), (0, p), (2, 203), (0, i), (9, 0), (9, 0)] [] μ) (hbd : 0 ≤ bud.1 ∧ 0 ≤ bud.2.1) : ∀ (n : Nat) {k : Int} {μ : pm_Mem}, (201 - k).toNat = n → ∀ (hk : co ≤ k ∧ k ≤ 201) (hw : zwm f (μ 203) i.toNat k p) (hff : μ 30 = f) (hmm : μ 29 1 = mm) (hT : zTJ φ μ), zW D Wm ST b0 l Sg zM78 bud X 43 [(2, 202), (2, 29), (0, p), (2, 203), (0, i), (0, co), (0, k)] [] μ := by
  intro n
  induction n using Nat.strongRecOn with
  | ind n ih =>
    intro k μ hn hk hw hff hmm hT
    refine pm_blk hK zmm78 [68] 2 46 [(2, 202), (2, 29), (0, p), (2, 203), (0, i), (0, co), (0, k)] [(0, p), (0, k)] μ [] rfl trivial ?_
    refine pm_icmp hK zmm78 .gt 30 76 rfl rfl (fun h0 => ?_) (fun h0 => ?_)
    · have h0 : p < k := h0
      refine pm_hide [5, 6] ?_
      exact K _ (zwm_e hw (by omega)) hff hmm hT
    · have h0 : k ≤ p := h0
      refine pm_blk hK zmm78 [68] 3 53 [(2, 202), (2, 29), (0, p), (2, 203), (0, i), (0, co), (0, k)] [(0, 501), (0, k)] μ [] rfl trivial ?_
      refine pm_icmp hK zmm78 .ge 23 76 rfl rfl (fun h1 => ?_) (fun h1 => ?_)
      · have h1 : (501 : Int) ≤ k := h1
        refine pm_hide [5, 6] ?_
        exact K _ (zwm_e hw (by omega)) hff hmm hT
      · have h1 : k < (501 : Int) := h1
        refine pm_blk hK zmm78 [68] 2 59 [(2, 202), (2, 29), (0, p), (2, 203), (0, i), (0, co), (0, k)] [(0, k), (2, 203)] μ [] rfl trivial ?_
        refine zp_dup2 hK zmm78 rfl ?_
        have f1 := zT_get hT zs203_0 (i := k) (by omega) (by omega)
        have f2 := zT_get hT zs203_0 (i := k - co) (by omega) (by omega)
        have w3 := zw32 ((μ 203 k) + (μ 203 (k - co)))
        refine pm_blk hK zmm78 [68] 8 70 [(2, 202), (2, 29), (0, p), (2, 203), (0, i), (0, co), (0, k)] [] (pm_up μ 203 k (pm_w32 ((μ 203 k) + (μ 203 (k - co))))) [0 ≤ k ∧ k < 501, pm_in (k - co), 0 ≤ k - co ∧ k - co < 501, sx_bit Wm 203 = true, 0 ≤ k ∧ k < 501] rfl ⟨⟨by omega, by omega⟩, pm_in_mk (by omega) (by omega), ⟨by omega, by omega⟩, hb203, ⟨by omega, by omega⟩, trivial⟩ ?_
        obtain ⟨μ1, eμ1⟩ : ∃ μ', μ' = pm_up μ 203 k (pm_w32 ((μ 203 k) + (μ 203 (k - co)))) := ⟨_, rfl⟩
        rw [← eμ1]
        have hTμ1 : zTJ φ μ1 := by rw [eμ1]; exact zT_up hT zs203_0 rfl (i := k) (by omega) (by omega) (by omega) (by omega)
        refine pm_blk hK zmm78 [68] 2 43 [(2, 202), (2, 29), (0, p), (2, 203), (0, i), (0, co), (0, k + 1)] [] μ1 [pm_in (k + 1)] rfl ⟨pm_in_mk (by omega) (by omega), trivial⟩ ?_
        have hw2 := zwm_s hw hco.1 hfc hk.1 (by omega) (R' := μ1 203) (fun j => by rw [eμ1, pm_up_if])
        exact ih _ (by omega) rfl ⟨by omega, by omega⟩ hw2 (by rw [eμ1, pm_up_row (by decide)]; exact hff) (by rw [eμ1, pm_up_off (by decide)]; exact hmm) hTμ1
set_option maxRecDepth 100000 in
theorem zl_yw1 (hK : zKK ST)  {f : Int → Int} {mm p : Int} (hp : 0 ≤ p ∧ p ≤ 200) (hf1 : ∀ c : Int, 0 ≤ c → c < mm → 1 ≤ f c) (hb203 : sx_bit Wm 203 = true) (hbd : 1 ≤ bud.1 ∧ 22 ≤ bud.2.1) : ∀ (n : Nat) {i : Int} {μ : pm_Mem}, (mm - i).toNat = n → ∀ (hi : 0 ≤ i ∧ i ≤ mm) (hw : zcwr f (μ 203) i.toNat p) (hff : μ 30 = f) (hmm : μ 29 1 = mm) (hT : zTJ φ μ), zW D Wm ST b0 l Sg zM78 bud (pm_X zM78 (fun st' μ' => zTJ φ μ' ∧ st' = [(0, zwy f mm.toNat p)])) 17 [(2, 202), (2, 29), (0, p), (2, 203), (0, i), (9, 0), (9, 0)] [] μ := by
  intro n
  induction n using Nat.strongRecOn with
  | ind n ih =>
    intro i μ hn hi hw hff hmm hT
    have f29 := zT_get hT zs29_1 (i := 1) (by omega) (by omega)
    have f1 := zT_get hT zs29_1 (i := 1) (by omega) (by omega)
    refine pm_blk hK zmm78 [] 3 23 [(2, 202), (2, 29), (0, p), (2, 203), (0, i), (9, 0), (9, 0)] [(0, μ 29 1), (0, i)] μ [] rfl trivial ?_
    refine pm_icmp hK zmm78 .ge 59 82 rfl rfl (fun h0 => ?_) (fun h0 => ?_)
    · have h0 : μ 29 1 ≤ i := h0
      refine pm_blk hK zmm78 [] 3 87 [(2, 202), (2, 29), (0, p), (2, 203), (0, i), (9, 0), (9, 0)] [(0, 200), (0, 0), (0, p)] μ [] rfl trivial ?_
      refine pm_call hK zmm78 (33, 1, 16, 3) zM16 (0, 0) [(0, p), (0, 0), (0, 200)] [] rfl rfl rfl rfl ⟨by omega, by rw [zn16]; omega⟩ (zh_within hK ⟨Nat.le_refl _, Nat.le_refl _⟩) (fun st1 μc1 hp1 => ?_)
      obtain ⟨rfl, rfl⟩ := hp1
      refine pm_if hK zmm78 .eq 9 99 rfl rfl (fun h1 => ?_) (fun h1 => ?_)
      · have h1 : (if 0 ≤ p ∧ p ≤ 200 then 1 else 0 : Int) = (0 : Int) := h1
        have h1 := zif0 h1
        refine pm_blk hK zmm78 [] 1 100 [(2, 202), (2, 29), (0, p), (2, 203), (0, i), (9, 0), (9, 0)] [(0, (-1))] μ [] rfl trivial ?_
        first
        | (exfalso; omega)
        | (have e := hw p (by omega) (Int.le_refl _); rw [show i = mm by omega] at e; exact pm_iret rfl rfl ⟨hT, by rw [e]⟩)
      · have h1 : (if 0 ≤ p ∧ p ≤ 200 then 1 else 0 : Int) ≠ (0 : Int) := h1
        have h1 := zif1 h1
        have f2 := zT_get hT zs203_0 (i := p) (by omega) (by omega)
        refine pm_blk hK zmm78 [] 4 100 [(2, 202), (2, 29), (0, p), (2, 203), (0, i), (9, 0), (9, 0)] [(0, μ 203 p)] μ [0 ≤ p ∧ p < 501] rfl ⟨⟨by omega, by omega⟩, trivial⟩ ?_
        first
        | (exfalso; omega)
        | (have e := hw p (by omega) (Int.le_refl _); rw [show i = mm by omega] at e; exact pm_iret rfl rfl ⟨hT, by rw [e]⟩)
    · have h0 : i < μ 29 1 := h0
      have f3 := zT_get hT zs30_0 (i := i) (by omega) (by omega)
      refine pm_blk hK zmm78 [] 5 34 [(2, 202), (2, 29), (0, p), (2, 203), (0, i), (9, 0), (9, 0)] [(0, μ 30 i), (0, 1)] μ [0 ≤ i ∧ i < 6] rfl ⟨⟨by omega, by omega⟩, trivial⟩ ?_
      refine pm_call hK zmm78 (37, 1, 34, 2) zM34 (0, 0) [(0, 1), (0, μ 30 i)] [] rfl rfl rfl rfl ⟨by omega, by rw [zn34]; omega⟩ (zh_max hK ⟨Nat.le_refl _, Nat.le_refl _⟩) (fun st2 μc2 hp2 => ?_)
      obtain ⟨rfl, rfl⟩ := hp2
      refine pm_blk hK zmm78 [] 3 43 [(2, 202), (2, 29), (0, p), (2, 203), (0, i), (0, max 1 (μ 30 i)), (0, max 1 (μ 30 i))] [] μ [] rfl trivial ?_
      have h1i := hf1 i (by omega) (by omega)
      have hfi : μ 30 i = f i := by rw [hff]
      have eco : max 1 (μ 30 i) = f i := by omega
      rw [eco]
      refine zl_yw2 hK (f := f) (mm := mm) hp ⟨by omega, by omega⟩ (by rw [show ((i.toNat : Nat) : Int) = i by omega]) hb203 (fun μ2 hw2 hff2 hmm2 hT2 => ?_) ⟨by omega, by omega⟩ _ rfl ⟨by omega, by omega⟩ (zwm_0 hw (by omega) (by rw [show ((i.toNat : Nat) : Int) = i by omega])) hff hmm hT
      refine pm_blk hK zmm78 [] 2 17 [(2, 202), (2, 29), (0, p), (2, 203), (0, i + 1), (9, 0), (9, 0)] [] μ2 [pm_in (i + 1)] rfl ⟨pm_in_mk (by omega) (by omega), trivial⟩ ?_
      exact ih _ (by omega) rfl ⟨by omega, by omega⟩ (by rw [show (i + 1).toNat = i.toNat + 1 by omega]; exact hw2) hff2 hmm2 hT2
set_option maxRecDepth 100000 in
theorem zh_yw (hK : zKK ST) {p : Int} (hp : 0 ≤ p ∧ p ≤ 200) (hf1 : ∀ c : Int, 0 ≤ c → c < μ 29 1 → 1 ≤ μ 30 c) (hT : zTJ φ μ) (hb203 : sx_bit Wm 203 = true) (hbd : 1 ≤ bud.1 ∧ 23 ≤ bud.2.1) : zC D Wm ST b0 l Sg zM78 bud [(2, 202), (2, 29), (0, p)] μ (fun st' μ' => zTJ φ μ' ∧ st' = [(0, zwy (μ 30) (μ 29 1).toNat p)]) := by
  have f29 := zT_get hT zs29_1 (i := 1) (by omega) (by omega)
  refine pm_blk hK zmm78 [] 5 7 [(2, 202), (2, 29), (0, p), (2, 203), (9, 0), (9, 0), (9, 0)] [(0, 0), (2, 203)] μ [] rfl trivial ?_
  refine pm_call hK zmm78 (18, 1, 77, 2) zM77 (0, 0) [(2, 203), (0, 0)] [] rfl rfl rfl rfl ⟨by omega, by rw [zn77]; omega⟩ (zh_fill hK (v := 0) ⟨by omega, by omega⟩ hT hb203 ⟨Nat.le_refl _, Nat.le_refl _⟩) (fun st1 μc1 hp1 => ?_)
  obtain ⟨rfl, hz1, hfr1, hTc1⟩ := hp1
  refine pm_blk hK zmm78 [] 4 14 [(2, 202), (2, 29), (0, p), (2, 203), (9, 0), (9, 0), (9, 0)] [] (pm_up μc1 203 0 1) [sx_bit Wm 203 = true, 0 ≤ 0 ∧ 0 < 501] rfl ⟨hb203, ⟨by omega, by omega⟩, trivial⟩ ?_
  obtain ⟨μ1, eμ1⟩ : ∃ μ', μ' = pm_up μc1 203 0 1 := ⟨_, rfl⟩
  rw [← eμ1]
  have hTμ1 : zTJ φ μ1 := by rw [eμ1]; exact zT_up hTc1 zs203_0 rfl (i := 0) (by omega) (by omega) (by omega) (by omega)
  refine pm_blk hK zmm78 [] 2 17 [(2, 202), (2, 29), (0, p), (2, 203), (0, 0), (9, 0), (9, 0)] [] μ1 [] rfl trivial ?_
  refine zl_yw1 hK (f := μ 30) (mm := μ 29 1) hp hf1 hb203 ⟨by omega, by omega⟩ _ rfl ⟨by omega, by omega⟩ (zcwr_0 (fun j j0 j1 => ?_)) ?_ ?_ hTμ1
  · rw [eμ1, pm_up_if, hz1 j j0 (by omega)]
  · rw [eμ1, pm_up_row (by decide)]; exact hfr1 30 (by decide)
  · rw [eμ1, pm_up_off (by decide), hfr1 29 (by decide)]
set_option maxRecDepth 100000 in
theorem zh_paysx (hK : zKK ST) {p w : Int} (hf1 : ∀ c : Int, 0 ≤ c → c < μ 29 1 → 1 ≤ μ 30 c) (hT : zTJ φ μ) (hb203 : sx_bit Wm 203 = true) (hb204 : sx_bit Wm 204 = true) (hbd : 2 ≤ bud.1 ∧ 60 ≤ bud.2.1) : zC D Wm ST b0 l Sg zM75 bud [(2, 1), (0, p), (0, w)] μ (fun st' μ' => zTJ φ μ' ∧ ∃ x, st' = [(0, x)] ∧ zpA (μ 30) (μ 29 1) p w x) := by
  refine pm_blk hK zmm75 [] 3 5 [(2, 1), (0, p), (0, w)] [(0, 200), (0, 0), (0, p)] μ [] rfl trivial ?_
  refine pm_call hK zmm75 (94, 1, 16, 3) zM16 (0, 0) [(0, p), (0, 0), (0, 200)] [] rfl rfl rfl rfl ⟨by omega, by rw [zn16]; omega⟩ (zh_within hK ⟨Nat.le_refl _, Nat.le_refl _⟩) (fun st1 μc1 hp1 => ?_)
  obtain ⟨rfl, rfl⟩ := hp1
  refine pm_if hK zmm75 .ne 5 13 rfl rfl (fun h0 => ?_) (fun h0 => ?_)
  · have h0 : (if 0 ≤ p ∧ p ≤ 200 then 1 else 0 : Int) ≠ (0 : Int) := h0
    have h0 := zif1 h0
    refine pm_blk hK zmm75 [] 1 14 [(2, 1), (0, p), (0, w)] [(0, w)] μ [] rfl trivial ?_
    refine pm_if hK zmm75 .ne 19 33 rfl rfl (fun h1 => ?_) (fun h1 => ?_)
    · have h1 : w ≠ (0 : Int) := h1
      refine pm_blk hK zmm75 [] 2 35 [(2, 1), (0, p), (0, w)] [(0, 1), (0, w)] μ [] rfl trivial ?_
      refine pm_icmp hK zmm75 .ne 21 56 rfl rfl (fun h2 => ?_) (fun h2 => ?_)
      · have h2 : w ≠ (1 : Int) := h2
        refine pm_blk hK zmm75 [] 1 57 [(2, 1), (0, p), (0, w)] [(0, (-1))] μ [] rfl trivial ?_
        first
        | exact pm_iret rfl rfl ⟨hT, _, rfl, Or.inr ⟨by omega, Or.inr (Or.inl ⟨by omega, rfl⟩)⟩⟩
        | exact pm_iret rfl rfl ⟨hT, _, rfl, Or.inr ⟨by omega, Or.inr (Or.inr ⟨by omega, by omega, rfl⟩)⟩⟩
      · have h2 : w = (1 : Int) := h2
        refine pm_blk hK zmm75 [] 6 50 [(2, 1), (0, p), (0, w)] [(0, p), (2, 29), (2, 202)] μ [] rfl trivial ?_
        refine pm_call hK zmm75 (304, 0, 78, 2) zM78 (1, 23) [(2, 202), (2, 29), (0, p)] [] rfl rfl rfl rfl ⟨by omega, by rw [zn78]; omega⟩ (zh_yw hK (p := p) ⟨by omega, by omega⟩ hf1 hT hb203 ⟨Nat.le_refl _, Nat.le_refl _⟩) (fun st2 μc2 hp2 => ?_)
        obtain ⟨hTc2, rfl⟩ := hp2
        refine pm_blk hK zmm75 [] 1 57 [(2, 1), (0, p), (0, w)] [(0, zwy (μ 30) (μ 29 1).toNat p)] μc2 [] rfl trivial ?_
        first
        | exact pm_iret rfl rfl ⟨hTc2, _, rfl, Or.inr ⟨by omega, Or.inr (Or.inl ⟨by omega, rfl⟩)⟩⟩
        | exact pm_iret rfl rfl ⟨hTc2, _, rfl, Or.inr ⟨by omega, Or.inr (Or.inr ⟨by omega, by omega, rfl⟩)⟩⟩
    · have h1 : w = (0 : Int) := h1
      refine pm_blk hK zmm75 [] 6 29 [(2, 1), (0, p), (0, w)] [(0, p), (2, 29), (2, 202)] μ [] rfl trivial ?_
      refine pm_call hK zmm75 (300, 0, 76, 2) zM76 (1, 23) [(2, 202), (2, 29), (0, p)] [] rfl rfl rfl rfl ⟨by omega, by rw [zn76]; omega⟩ (zh_yh hK (p := p) ⟨by omega, by omega⟩ hT hb203 hb204 ⟨Nat.le_refl _, Nat.le_refl _⟩) (fun st3 μc3 hp3 => ?_)
      obtain ⟨hTc3, x3, rfl, hx3⟩ := hp3
      have hxx := hx3
      exact pm_iret rfl rfl ⟨hTc3, _, rfl, Or.inr ⟨by omega, Or.inl ⟨by omega, hxx⟩⟩⟩
  · have h0 : (if 0 ≤ p ∧ p ≤ 200 then 1 else 0 : Int) = (0 : Int) := h0
    have h0 := zif0 h0
    refine pm_blk hK zmm75 [] 1 12 [(2, 1), (0, p), (0, w)] [(0, (-1))] μ [] rfl trivial ?_
    exact pm_iret rfl rfl ⟨hT, _, rfl, Or.inl ⟨by omega, rfl⟩⟩
set_option maxRecDepth 100000 in
theorem zl_yc1 (hK : zKK ST) {X : Nat → List pm_V → List pm_V → pm_Mem → Prop} {f : Int → Int} {mm p : Int} (hb231 : sx_bit Wm 231 = true) (K : ∀ (k : Int) (μ : pm_Mem), (∀ j : Int, 0 ≤ j → j < 321 → μ 231 j = if j = 60 then 0 else 100000000) → μ 230 = f → μ 205 45 = mm → zTJ φ μ → zW D Wm ST b0 l Sg zM173 bud X 34 [(2, 205), (0, p), (0, k), (9, 0), (9, 0), (9, 0)] [] μ) (hbd : 0 ≤ bud.1 ∧ 0 ≤ bud.2.1) : ∀ (n : Nat) {k : Int} {μ : pm_Mem}, (321 - k).toNat = n → ∀ (hk : 0 ≤ k ∧ k ≤ 321) (hz : ∀ j : Int, 0 ≤ j → j < k → μ 231 j = if j = 60 then 0 else 100000000) (hff : μ 230 = f) (hmm : μ 205 45 = mm) (hT : zTJ φ μ), zW D Wm ST b0 l Sg zM173 bud X 2 [(2, 205), (0, p), (0, k), (9, 0), (9, 0), (9, 0)] [] μ := by
  intro n
  induction n using Nat.strongRecOn with
  | ind n ih =>
    intro k μ hn hk hz hff hmm hT
    refine pm_blk hK zmm173 [] 2 6 [(2, 205), (0, p), (0, k), (9, 0), (9, 0), (9, 0)] [(0, 321), (0, k)] μ [] rfl trivial ?_
    refine pm_icmp hK zmm173 .ge 28 34 rfl rfl (fun h0 => ?_) (fun h0 => ?_)
    · have h0 : (321 : Int) ≤ k := h0
      have ek : k = 321 := by omega
      rw [ek] at hz
      exact K _ _ hz hff hmm hT
    · have h0 : k < (321 : Int) := h0
      refine pm_blk hK zmm173 [] 5 17 [(2, 205), (0, p), (0, k), (9, 0), (9, 0), (9, 0)] [(0, 60), (0, k), (0, k), (2, 231)] μ [] rfl trivial ?_
      refine pm_icmp hK zmm173 .ne 7 24 rfl rfl (fun h1 => ?_) (fun h1 => ?_)
      · have h1 : k ≠ (60 : Int) := h1
        refine pm_blk hK zmm173 [] 2 28 [(2, 205), (0, p), (0, k), (9, 0), (9, 0), (9, 0)] [] (pm_up μ 231 k 100000000) [sx_bit Wm 231 = true, 0 ≤ k ∧ k < 321] rfl ⟨hb231, ⟨by omega, by omega⟩, trivial⟩ ?_
        obtain ⟨μ1, eμ1⟩ : ∃ μ', μ' = pm_up μ 231 k 100000000 := ⟨_, rfl⟩
        rw [← eμ1]
        have hTμ1 : zTJ φ μ1 := by rw [eμ1]; exact zT_up hT zs231_0 rfl (i := k) (by omega) (by omega) (by omega) (by omega)
        refine pm_blk hK zmm173 [] 2 2 [(2, 205), (0, p), (0, k + 1), (9, 0), (9, 0), (9, 0)] [] μ1 [pm_in (k + 1)] rfl ⟨pm_in_mk (by omega) (by omega), trivial⟩ ?_
        refine ih _ (by omega) rfl ⟨by omega, by omega⟩ (fun j j0 j1 => ?_) (by rw [eμ1, pm_up_row (by decide)]; exact hff) (by rw [eμ1, pm_up_off (by decide)]; exact hmm) hTμ1
        rw [eμ1, pm_up_if]
        by_cases hj : j = k
        · rw [if_pos hj]; first | rw [if_pos (by omega)] | rw [if_neg (by omega)]
        · rw [if_neg hj]; exact hz j j0 (by omega)
      · have h1 : k = (60 : Int) := h1
        refine pm_blk hK zmm173 [] 3 28 [(2, 205), (0, p), (0, k), (9, 0), (9, 0), (9, 0)] [] (pm_up μ 231 k 0) [sx_bit Wm 231 = true, 0 ≤ k ∧ k < 321] rfl ⟨hb231, ⟨by omega, by omega⟩, trivial⟩ ?_
        obtain ⟨μ2, eμ2⟩ : ∃ μ', μ' = pm_up μ 231 k 0 := ⟨_, rfl⟩
        rw [← eμ2]
        have hTμ2 : zTJ φ μ2 := by rw [eμ2]; exact zT_up hT zs231_0 rfl (i := k) (by omega) (by omega) (by omega) (by omega)
        refine pm_blk hK zmm173 [] 2 2 [(2, 205), (0, p), (0, k + 1), (9, 0), (9, 0), (9, 0)] [] μ2 [pm_in (k + 1)] rfl ⟨pm_in_mk (by omega) (by omega), trivial⟩ ?_
        refine ih _ (by omega) rfl ⟨by omega, by omega⟩ (fun j j0 j1 => ?_) (by rw [eμ2, pm_up_row (by decide)]; exact hff) (by rw [eμ2, pm_up_off (by decide)]; exact hmm) hTμ2
        rw [eμ2, pm_up_if]
        by_cases hj : j = k
        · rw [if_pos hj]; first | rw [if_pos (by omega)] | rw [if_neg (by omega)]
        · rw [if_neg hj]; exact hz j j0 (by omega)
set_option maxRecDepth 100000 in
theorem zl_yc3 (hK : zKK ST) {X : Nat → List pm_V → List pm_V → pm_Mem → Prop} {f : Int → Int} {mm p k S0 : Int} (hk : 0 ≤ k ∧ k ≤ 320) (hb231 : sx_bit Wm 231 = true) (K : ∀ (more c : Int) (μ : pm_Mem), more = 0 ∨ more = 1 → zcoin μ 321 → zsum (μ 231) 321 ≤ S0 → (more = 1 → zsum (μ 231) 321 < S0) → zgA0 f mm (μ 231) → (more = 0 → zgA2 f mm (μ 231) (k + 1) 0) → μ 230 = f → μ 205 45 = mm → zTJ φ μ → zW D Wm ST b0 l Sg zM173 bud X 167 [(2, 205), (0, p), (0, more), (0, k), (9, 0), (9, 0)] [] μ) (hbd : 1 ≤ bud.1 ∧ 22 ≤ bud.2.1) : ∀ (n : Nat) {more c : Int} {μ : pm_Mem}, (6 - c).toNat = n → ∀ (hc : 0 ≤ c ∧ c ≤ 6) (hm : more = 0 ∨ more = 1) (hz : zcoin μ 321) (hS : zsum (μ 231) 321 ≤ S0) (hS1 : more = 1 → zsum (μ 231) 321 < S0) (hG : zgA0 f mm (μ 231)) (hN : more = 0 → zgA2 f mm (μ 231) k c) (hff : μ 230 = f) (hmm : μ 205 45 = mm) (hT : zTJ φ μ), zW D Wm ST b0 l Sg zM173 bud X 54 [(2, 205), (0, p), (0, more), (0, k), (0, c), (9, 0)] [] μ := by
  intro n
  induction n using Nat.strongRecOn with
  | ind n ih =>
    intro more c μ hn hc hm hz hS hS1 hG hN hff hmm hT
    have f1 := zT_get hT zs205_45 (i := 45) (by omega) (by omega)
    refine pm_blk hK zmm173 [] 3 60 [(2, 205), (0, p), (0, more), (0, k), (0, c), (9, 0)] [(0, μ 205 45), (0, c)] μ [] rfl trivial ?_
    refine pm_icmp hK zmm173 .ge 107 167 rfl rfl (fun h0 => ?_) (fun h0 => ?_)
    · have h0 : μ 205 45 ≤ c := h0
      refine pm_hide [4] ?_
      exact K _ c _ hm hz hS hS1 hG (fun hq0 => zgA2_k (hN hq0) (by omega)) hff hmm hT
    · have h0 : c < μ 205 45 := h0
      have hz0 := hz k (by omega) (by omega)
      have f2 := zT_get hT zs230_0 (i := c) (by omega) (by omega)
      refine pm_blk hK zmm173 [] 6 72 [(2, 205), (0, p), (0, more), (0, k), (0, c), (9, 0)] [(0, μ 230 c), (0, k), (2, 205)] μ [0 ≤ c ∧ c < 6] rfl ⟨⟨by omega, by omega⟩, trivial⟩ ?_
      refine pm_icmp hK zmm173 .lt 20 92 rfl rfl (fun h1 => ?_) (fun h1 => ?_)
      · have h1 : k < μ 230 c := h1
        refine pm_blk hK zmm173 [] 8 107 [(2, 205), (0, p), (0, more), (0, k), (0, c), (9, 0)] [(0, 321), (0, k + (μ 230 c)), (0, 100000000), (2, 205)] μ [0 ≤ c ∧ c < 6, pm_in (k + (μ 230 c))] rfl ⟨⟨by omega, by omega⟩, pm_in_mk (by omega) (by omega), trivial⟩ ?_
        refine pm_icmp hK zmm173 .ge 20 127 rfl rfl (fun h2 => ?_) (fun h2 => ?_)
        · have h2 : (321 : Int) ≤ k + (μ 230 c) := h2
          refine pm_blk hK zmm173 [] 1 130 [(2, 205), (0, p), (0, more), (0, k), (0, c), (9, 0)] [(0, 100000000), (0, 100000000), (2, 205)] μ [] rfl trivial ?_
          refine pm_call hK zmm173 (377, 0, 157, 2) zM157 (0, 0) [(2, 205), (0, 100000000), (0, 100000000)] [] rfl rfl rfl rfl ⟨by omega, by rw [zn157]; omega⟩ (zh_lesser hK ⟨by omega, by omega⟩) (fun st1 μc1 hp1 => ?_)
          obtain ⟨rfl, rfl⟩ := hp1
          have f3 := zT_get hT zs231_0 (i := k) (by omega) (by omega)
          refine pm_blk hK zmm173 [] 8 145 [(2, 205), (0, p), (0, more), (0, k), (0, c), (0, (min 100000000 100000000) + 1)] [(0, μ 231 k), (0, (min 100000000 100000000) + 1)] μ [pm_in ((min 100000000 100000000) + 1), 0 ≤ k ∧ k < 321] rfl ⟨pm_in_mk (by omega) (by omega), ⟨by omega, by omega⟩, trivial⟩ ?_
          refine pm_icmp hK zmm173 .lt 6 151 rfl rfl (fun h3 => ?_) (fun h3 => ?_)
          · have h3 : (min 100000000 100000000) + 1 < μ 231 k := h3
            refine pm_blk hK zmm173 [] 5 159 [(2, 205), (0, p), (0, more), (0, k), (0, c), (0, (min 100000000 100000000) + 1)] [] (pm_up μ 231 k ((min 100000000 100000000) + 1)) [sx_bit Wm 231 = true, 0 ≤ k ∧ k < 321] rfl ⟨hb231, ⟨by omega, by omega⟩, trivial⟩ ?_
            obtain ⟨μ1, eμ1⟩ : ∃ μ', μ' = pm_up μ 231 k ((min 100000000 100000000) + 1) := ⟨_, rfl⟩
            rw [← eμ1]
            have hTμ1 : zTJ φ μ1 := by rw [eμ1]; exact zT_up hT zs231_0 rfl (i := k) (by omega) (by omega) (by omega) (by omega)
            refine pm_blk hK zmm173 [] 4 54 [(2, 205), (0, p), (0, 1), (0, k), (0, c + 1), (0, (min 100000000 100000000) + 1)] [] μ1 [pm_in (c + 1)] rfl ⟨pm_in_mk (by omega) (by omega), trivial⟩ ?_
            refine pm_hide [5] ?_
            have hz3 : zcoin μ1 321 := by rw [eμ1]; exact zcoin_up hz (by omega) (by omega)
            have hs3 : zsum (μ1 231) 321 = zsum (μ 231) 321 - μ 231 k + ((min 100000000 100000000) + 1) := by rw [eμ1]; exact zsum_up (by omega) (by omega)
            have hG3 := zgA0_up hG (by omega) (by omega) hc.1 (by omega) (G' := μ1 231) (fun j => by rw [eμ1, pm_up_if]) h3 hz ⟨_, rfl, by rw [← hff]; omega⟩ (by rw [← hff]; omega)
            exact ih _ (by omega) rfl ⟨by omega, by omega⟩ (Or.inr rfl) hz3 (by omega) (fun _ => by omega) hG3 (fun hq0 => absurd hq0 (by decide)) (by rw [eμ1, pm_up_row (by decide)]; exact hff) (by rw [eμ1, pm_up_off (by decide)]; exact hmm) hTμ1
          · have h3 : μ 231 k ≤ (min 100000000 100000000) + 1 := h3
            refine pm_blk hK zmm173 [] 3 54 [(2, 205), (0, p), (0, more), (0, k), (0, c + 1), (0, (min 100000000 100000000) + 1)] [] μ [pm_in (c + 1)] rfl ⟨pm_in_mk (by omega) (by omega), trivial⟩ ?_
            refine pm_hide [5] ?_
            have hN3 : more = 0 → zgA2 f mm (μ 231) k (c + 1) := fun hq0 => zgA2_c (hN hq0) ⟨fun a => by rw [← hff] at a ⊢; omega, fun a => by rw [← hff] at a ⊢; omega⟩
            exact ih _ (by omega) rfl ⟨by omega, by omega⟩ hm hz hS hS1 hG hN3 hff hmm hT
        · have h2 : k + (μ 230 c) < (321 : Int) := h2
          have fc := zT_get hT zs230_0 (i := c) (by omega) (by omega)
          have hz2 := hz (k + μ 230 c) (by omega) (by omega)
          have f4 := zT_get hT zs231_0 (i := k + (μ 230 c)) (by omega) (by omega)
          refine pm_blk hK zmm173 [] 10 130 [(2, 205), (0, p), (0, more), (0, k), (0, c), (9, 0)] [(0, μ 231 (k + (μ 230 c))), (0, 100000000), (2, 205)] μ [0 ≤ c ∧ c < 6, pm_in (k + (μ 230 c)), 0 ≤ k + (μ 230 c) ∧ k + (μ 230 c) < 321] rfl ⟨⟨by omega, by omega⟩, pm_in_mk (by omega) (by omega), ⟨by omega, by omega⟩, trivial⟩ ?_
          refine pm_call hK zmm173 (377, 0, 157, 2) zM157 (0, 0) [(2, 205), (0, 100000000), (0, μ 231 (k + (μ 230 c)))] [] rfl rfl rfl rfl ⟨by omega, by rw [zn157]; omega⟩ (zh_lesser hK ⟨by omega, by omega⟩) (fun st2 μc2 hp2 => ?_)
          obtain ⟨rfl, rfl⟩ := hp2
          have f5 := zT_get hT zs231_0 (i := k) (by omega) (by omega)
          refine pm_blk hK zmm173 [] 8 145 [(2, 205), (0, p), (0, more), (0, k), (0, c), (0, (min 100000000 (μ 231 (k + (μ 230 c)))) + 1)] [(0, μ 231 k), (0, (min 100000000 (μ 231 (k + (μ 230 c)))) + 1)] μ [pm_in ((min 100000000 (μ 231 (k + (μ 230 c)))) + 1), 0 ≤ k ∧ k < 321] rfl ⟨pm_in_mk (by omega) (by omega), ⟨by omega, by omega⟩, trivial⟩ ?_
          refine pm_icmp hK zmm173 .lt 6 151 rfl rfl (fun h4 => ?_) (fun h4 => ?_)
          · have h4 : (min 100000000 (μ 231 (k + (μ 230 c)))) + 1 < μ 231 k := h4
            refine pm_blk hK zmm173 [] 5 159 [(2, 205), (0, p), (0, more), (0, k), (0, c), (0, (min 100000000 (μ 231 (k + (μ 230 c)))) + 1)] [] (pm_up μ 231 k ((min 100000000 (μ 231 (k + (μ 230 c)))) + 1)) [sx_bit Wm 231 = true, 0 ≤ k ∧ k < 321] rfl ⟨hb231, ⟨by omega, by omega⟩, trivial⟩ ?_
            obtain ⟨μ2, eμ2⟩ : ∃ μ', μ' = pm_up μ 231 k ((min 100000000 (μ 231 (k + (μ 230 c)))) + 1) := ⟨_, rfl⟩
            rw [← eμ2]
            have hTμ2 : zTJ φ μ2 := by rw [eμ2]; exact zT_up hT zs231_0 rfl (i := k) (by omega) (by omega) (by omega) (by omega)
            refine pm_blk hK zmm173 [] 4 54 [(2, 205), (0, p), (0, 1), (0, k), (0, c + 1), (0, (min 100000000 (μ 231 (k + (μ 230 c)))) + 1)] [] μ2 [pm_in (c + 1)] rfl ⟨pm_in_mk (by omega) (by omega), trivial⟩ ?_
            refine pm_hide [5] ?_
            have hz3 : zcoin μ2 321 := by rw [eμ2]; exact zcoin_up hz (by omega) (by omega)
            have hs3 : zsum (μ2 231) 321 = zsum (μ 231) 321 - μ 231 k + ((min 100000000 (μ 231 (k + (μ 230 c)))) + 1) := by rw [eμ2]; exact zsum_up (by omega) (by omega)
            have hG3 := zgA0_up hG (by omega) (by omega) hc.1 (by omega) (G' := μ2 231) (fun j => by rw [eμ2, pm_up_if]) h4 hz ⟨_, rfl, by rw [← hff]; omega⟩ (by rw [← hff]; omega)
            exact ih _ (by omega) rfl ⟨by omega, by omega⟩ (Or.inr rfl) hz3 (by omega) (fun _ => by omega) hG3 (fun hq0 => absurd hq0 (by decide)) (by rw [eμ2, pm_up_row (by decide)]; exact hff) (by rw [eμ2, pm_up_off (by decide)]; exact hmm) hTμ2
          · have h4 : μ 231 k ≤ (min 100000000 (μ 231 (k + (μ 230 c)))) + 1 := h4
            refine pm_blk hK zmm173 [] 3 54 [(2, 205), (0, p), (0, more), (0, k), (0, c + 1), (0, (min 100000000 (μ 231 (k + (μ 230 c)))) + 1)] [] μ [pm_in (c + 1)] rfl ⟨pm_in_mk (by omega) (by omega), trivial⟩ ?_
            refine pm_hide [5] ?_
            have hN3 : more = 0 → zgA2 f mm (μ 231) k (c + 1) := fun hq0 => zgA2_c (hN hq0) ⟨fun a => by rw [← hff] at a ⊢; omega, fun a => by rw [← hff] at a ⊢; omega⟩
            exact ih _ (by omega) rfl ⟨by omega, by omega⟩ hm hz hS hS1 hG hN3 hff hmm hT
      · have h1 : μ 230 c ≤ k := h1
        have fc := zT_get hT zs230_0 (i := c) (by omega) (by omega)
        have hz1 := hz (k - μ 230 c) (by omega) (by omega)
        have f6 := zT_get hT zs231_0 (i := k - (μ 230 c)) (by omega) (by omega)
        refine pm_blk hK zmm173 [] 17 107 [(2, 205), (0, p), (0, more), (0, k), (0, c), (9, 0)] [(0, 321), (0, k + (μ 230 c)), (0, μ 231 (k - (μ 230 c))), (2, 205)] μ [0 ≤ c ∧ c < 6, pm_in (k - (μ 230 c)), 0 ≤ k - (μ 230 c) ∧ k - (μ 230 c) < 321, 0 ≤ c ∧ c < 6, pm_in (k + (μ 230 c))] rfl ⟨⟨by omega, by omega⟩, pm_in_mk (by omega) (by omega), ⟨by omega, by omega⟩, ⟨by omega, by omega⟩, pm_in_mk (by omega) (by omega), trivial⟩ ?_
        refine pm_icmp hK zmm173 .ge 20 127 rfl rfl (fun h5 => ?_) (fun h5 => ?_)
        · have h5 : (321 : Int) ≤ k + (μ 230 c) := h5
          refine pm_blk hK zmm173 [] 1 130 [(2, 205), (0, p), (0, more), (0, k), (0, c), (9, 0)] [(0, 100000000), (0, μ 231 (k - (μ 230 c))), (2, 205)] μ [] rfl trivial ?_
          refine pm_call hK zmm173 (377, 0, 157, 2) zM157 (0, 0) [(2, 205), (0, μ 231 (k - (μ 230 c))), (0, 100000000)] [] rfl rfl rfl rfl ⟨by omega, by rw [zn157]; omega⟩ (zh_lesser hK ⟨by omega, by omega⟩) (fun st3 μc3 hp3 => ?_)
          obtain ⟨rfl, rfl⟩ := hp3
          have f7 := zT_get hT zs231_0 (i := k) (by omega) (by omega)
          refine pm_blk hK zmm173 [] 8 145 [(2, 205), (0, p), (0, more), (0, k), (0, c), (0, (min (μ 231 (k - (μ 230 c))) 100000000) + 1)] [(0, μ 231 k), (0, (min (μ 231 (k - (μ 230 c))) 100000000) + 1)] μ [pm_in ((min (μ 231 (k - (μ 230 c))) 100000000) + 1), 0 ≤ k ∧ k < 321] rfl ⟨pm_in_mk (by omega) (by omega), ⟨by omega, by omega⟩, trivial⟩ ?_
          refine pm_icmp hK zmm173 .lt 6 151 rfl rfl (fun h6 => ?_) (fun h6 => ?_)
          · have h6 : (min (μ 231 (k - (μ 230 c))) 100000000) + 1 < μ 231 k := h6
            refine pm_blk hK zmm173 [] 5 159 [(2, 205), (0, p), (0, more), (0, k), (0, c), (0, (min (μ 231 (k - (μ 230 c))) 100000000) + 1)] [] (pm_up μ 231 k ((min (μ 231 (k - (μ 230 c))) 100000000) + 1)) [sx_bit Wm 231 = true, 0 ≤ k ∧ k < 321] rfl ⟨hb231, ⟨by omega, by omega⟩, trivial⟩ ?_
            obtain ⟨μ3, eμ3⟩ : ∃ μ', μ' = pm_up μ 231 k ((min (μ 231 (k - (μ 230 c))) 100000000) + 1) := ⟨_, rfl⟩
            rw [← eμ3]
            have hTμ3 : zTJ φ μ3 := by rw [eμ3]; exact zT_up hT zs231_0 rfl (i := k) (by omega) (by omega) (by omega) (by omega)
            refine pm_blk hK zmm173 [] 4 54 [(2, 205), (0, p), (0, 1), (0, k), (0, c + 1), (0, (min (μ 231 (k - (μ 230 c))) 100000000) + 1)] [] μ3 [pm_in (c + 1)] rfl ⟨pm_in_mk (by omega) (by omega), trivial⟩ ?_
            refine pm_hide [5] ?_
            have hz3 : zcoin μ3 321 := by rw [eμ3]; exact zcoin_up hz (by omega) (by omega)
            have hs3 : zsum (μ3 231) 321 = zsum (μ 231) 321 - μ 231 k + ((min (μ 231 (k - (μ 230 c))) 100000000) + 1) := by rw [eμ3]; exact zsum_up (by omega) (by omega)
            have hG3 := zgA0_up hG (by omega) (by omega) hc.1 (by omega) (G' := μ3 231) (fun j => by rw [eμ3, pm_up_if]) h6 hz ⟨_, rfl, by rw [← hff]; omega⟩ (by rw [← hff]; omega)
            exact ih _ (by omega) rfl ⟨by omega, by omega⟩ (Or.inr rfl) hz3 (by omega) (fun _ => by omega) hG3 (fun hq0 => absurd hq0 (by decide)) (by rw [eμ3, pm_up_row (by decide)]; exact hff) (by rw [eμ3, pm_up_off (by decide)]; exact hmm) hTμ3
          · have h6 : μ 231 k ≤ (min (μ 231 (k - (μ 230 c))) 100000000) + 1 := h6
            refine pm_blk hK zmm173 [] 3 54 [(2, 205), (0, p), (0, more), (0, k), (0, c + 1), (0, (min (μ 231 (k - (μ 230 c))) 100000000) + 1)] [] μ [pm_in (c + 1)] rfl ⟨pm_in_mk (by omega) (by omega), trivial⟩ ?_
            refine pm_hide [5] ?_
            have hN3 : more = 0 → zgA2 f mm (μ 231) k (c + 1) := fun hq0 => zgA2_c (hN hq0) ⟨fun a => by rw [← hff] at a ⊢; omega, fun a => by rw [← hff] at a ⊢; omega⟩
            exact ih _ (by omega) rfl ⟨by omega, by omega⟩ hm hz hS hS1 hG hN3 hff hmm hT
        · have h5 : k + (μ 230 c) < (321 : Int) := h5
          have fc := zT_get hT zs230_0 (i := c) (by omega) (by omega)
          have hz2 := hz (k + μ 230 c) (by omega) (by omega)
          have f8 := zT_get hT zs231_0 (i := k + (μ 230 c)) (by omega) (by omega)
          refine pm_blk hK zmm173 [] 10 130 [(2, 205), (0, p), (0, more), (0, k), (0, c), (9, 0)] [(0, μ 231 (k + (μ 230 c))), (0, μ 231 (k - (μ 230 c))), (2, 205)] μ [0 ≤ c ∧ c < 6, pm_in (k + (μ 230 c)), 0 ≤ k + (μ 230 c) ∧ k + (μ 230 c) < 321] rfl ⟨⟨by omega, by omega⟩, pm_in_mk (by omega) (by omega), ⟨by omega, by omega⟩, trivial⟩ ?_
          refine pm_call hK zmm173 (377, 0, 157, 2) zM157 (0, 0) [(2, 205), (0, μ 231 (k - (μ 230 c))), (0, μ 231 (k + (μ 230 c)))] [] rfl rfl rfl rfl ⟨by omega, by rw [zn157]; omega⟩ (zh_lesser hK ⟨by omega, by omega⟩) (fun st4 μc4 hp4 => ?_)
          obtain ⟨rfl, rfl⟩ := hp4
          have f9 := zT_get hT zs231_0 (i := k) (by omega) (by omega)
          refine pm_blk hK zmm173 [] 8 145 [(2, 205), (0, p), (0, more), (0, k), (0, c), (0, (min (μ 231 (k - (μ 230 c))) (μ 231 (k + (μ 230 c)))) + 1)] [(0, μ 231 k), (0, (min (μ 231 (k - (μ 230 c))) (μ 231 (k + (μ 230 c)))) + 1)] μ [pm_in ((min (μ 231 (k - (μ 230 c))) (μ 231 (k + (μ 230 c)))) + 1), 0 ≤ k ∧ k < 321] rfl ⟨pm_in_mk (by omega) (by omega), ⟨by omega, by omega⟩, trivial⟩ ?_
          refine pm_icmp hK zmm173 .lt 6 151 rfl rfl (fun h7 => ?_) (fun h7 => ?_)
          · have h7 : (min (μ 231 (k - (μ 230 c))) (μ 231 (k + (μ 230 c)))) + 1 < μ 231 k := h7
            refine pm_blk hK zmm173 [] 5 159 [(2, 205), (0, p), (0, more), (0, k), (0, c), (0, (min (μ 231 (k - (μ 230 c))) (μ 231 (k + (μ 230 c)))) + 1)] [] (pm_up μ 231 k ((min (μ 231 (k - (μ 230 c))) (μ 231 (k + (μ 230 c)))) + 1)) [sx_bit Wm 231 = true, 0 ≤ k ∧ k < 321] rfl ⟨hb231, ⟨by omega, by omega⟩, trivial⟩ ?_
            obtain ⟨μ4, eμ4⟩ : ∃ μ', μ' = pm_up μ 231 k ((min (μ 231 (k - (μ 230 c))) (μ 231 (k + (μ 230 c)))) + 1) := ⟨_, rfl⟩
            rw [← eμ4]
            have hTμ4 : zTJ φ μ4 := by rw [eμ4]; exact zT_up hT zs231_0 rfl (i := k) (by omega) (by omega) (by omega) (by omega)
            refine pm_blk hK zmm173 [] 4 54 [(2, 205), (0, p), (0, 1), (0, k), (0, c + 1), (0, (min (μ 231 (k - (μ 230 c))) (μ 231 (k + (μ 230 c)))) + 1)] [] μ4 [pm_in (c + 1)] rfl ⟨pm_in_mk (by omega) (by omega), trivial⟩ ?_
            refine pm_hide [5] ?_
            have hz3 : zcoin μ4 321 := by rw [eμ4]; exact zcoin_up hz (by omega) (by omega)
            have hs3 : zsum (μ4 231) 321 = zsum (μ 231) 321 - μ 231 k + ((min (μ 231 (k - (μ 230 c))) (μ 231 (k + (μ 230 c)))) + 1) := by rw [eμ4]; exact zsum_up (by omega) (by omega)
            have hG3 := zgA0_up hG (by omega) (by omega) hc.1 (by omega) (G' := μ4 231) (fun j => by rw [eμ4, pm_up_if]) h7 hz ⟨_, rfl, by rw [← hff]; omega⟩ (by rw [← hff]; omega)
            exact ih _ (by omega) rfl ⟨by omega, by omega⟩ (Or.inr rfl) hz3 (by omega) (fun _ => by omega) hG3 (fun hq0 => absurd hq0 (by decide)) (by rw [eμ4, pm_up_row (by decide)]; exact hff) (by rw [eμ4, pm_up_off (by decide)]; exact hmm) hTμ4
          · have h7 : μ 231 k ≤ (min (μ 231 (k - (μ 230 c))) (μ 231 (k + (μ 230 c)))) + 1 := h7
            refine pm_blk hK zmm173 [] 3 54 [(2, 205), (0, p), (0, more), (0, k), (0, c + 1), (0, (min (μ 231 (k - (μ 230 c))) (μ 231 (k + (μ 230 c)))) + 1)] [] μ [pm_in (c + 1)] rfl ⟨pm_in_mk (by omega) (by omega), trivial⟩ ?_
            refine pm_hide [5] ?_
            have hN3 : more = 0 → zgA2 f mm (μ 231) k (c + 1) := fun hq0 => zgA2_c (hN hq0) ⟨fun a => by rw [← hff] at a ⊢; omega, fun a => by rw [← hff] at a ⊢; omega⟩
            exact ih _ (by omega) rfl ⟨by omega, by omega⟩ hm hz hS hS1 hG hN3 hff hmm hT
set_option maxRecDepth 100000 in
theorem zl_yc2 (hK : zKK ST) {X : Nat → List pm_V → List pm_V → pm_Mem → Prop} {f : Int → Int} {mm p S0 : Int} (hb231 : sx_bit Wm 231 = true) (K : ∀ (more k : Int) (μ : pm_Mem), more = 0 ∨ more = 1 → zcoin μ 321 → zsum (μ 231) 321 ≤ S0 → (more = 1 → zsum (μ 231) 321 < S0) → zgA0 f mm (μ 231) → (more = 0 → zgA2 f mm (μ 231) 321 0) → μ 230 = f → μ 205 45 = mm → zTJ φ μ → zW D Wm ST b0 l Sg zM173 bud X 173 [(2, 205), (0, p), (0, more), (0, k), (9, 0), (9, 0)] [] μ) (hbd : 1 ≤ bud.1 ∧ 22 ≤ bud.2.1) : ∀ (n : Nat) {more k : Int} {μ : pm_Mem}, (321 - k).toNat = n → ∀ (hk : 0 ≤ k ∧ k ≤ 321) (hm : more = 0 ∨ more = 1) (hz : zcoin μ 321) (hS : zsum (μ 231) 321 ≤ S0) (hS1 : more = 1 → zsum (μ 231) 321 < S0) (hG : zgA0 f mm (μ 231)) (hN : more = 0 → zgA2 f mm (μ 231) k 0) (hff : μ 230 = f) (hmm : μ 205 45 = mm) (hT : zTJ φ μ), zW D Wm ST b0 l Sg zM173 bud X 44 [(2, 205), (0, p), (0, more), (0, k), (9, 0), (9, 0)] [] μ := by
  intro n
  induction n using Nat.strongRecOn with
  | ind n ih =>
    intro more k μ hn hk hm hz hS hS1 hG hN hff hmm hT
    refine pm_blk hK zmm173 [] 2 48 [(2, 205), (0, p), (0, more), (0, k), (9, 0), (9, 0)] [(0, 321), (0, k)] μ [] rfl trivial ?_
    refine pm_icmp hK zmm173 .ge 125 173 rfl rfl (fun h0 => ?_) (fun h0 => ?_)
    · have h0 : (321 : Int) ≤ k := h0
      have ek : k = 321 := by omega
      rw [ek] at hN
      exact K _ _ _ hm hz hS hS1 hG hN hff hmm hT
    · have h0 : k < (321 : Int) := h0
      refine pm_blk hK zmm173 [] 2 54 [(2, 205), (0, p), (0, more), (0, k), (0, 0), (9, 0)] [] μ [] rfl trivial ?_
      refine zl_yc3 hK (f := f) (mm := mm) (S0 := S0) ⟨by omega, by omega⟩ hb231 (fun more c μ hm hz hS hS1 hG hN hff hmm hT => ?_) hbd _ rfl ⟨by omega, by omega⟩ hm hz hS hS1 hG hN hff hmm hT
      refine pm_blk hK zmm173 [] 2 44 [(2, 205), (0, p), (0, more), (0, k + 1), (9, 0), (9, 0)] [] μ [pm_in (k + 1)] rfl ⟨pm_in_mk (by omega) (by omega), trivial⟩ ?_
      exact ih _ (by omega) rfl ⟨by omega, by omega⟩ hm hz hS hS1 hG hN hff hmm hT
set_option maxRecDepth 100000 in
theorem zl_yc0 (hK : zKK ST)  {f : Int → Int} {mm p : Int} (hp : 0 ≤ p ∧ p ≤ 200) (hb231 : sx_bit Wm 231 = true) (hbd : 1 ≤ bud.1 ∧ 22 ≤ bud.2.1) : ∀ (n : Nat) {more : Int} {μ : pm_Mem}, (2 * zsum (μ 231) 321 + more).toNat = n → ∀ (hm : more = 0 ∨ more = 1) (hz : zcoin μ 321) (hG : zgA0 f mm (μ 231)) (hN : more = 0 → zgA2 f mm (μ 231) 321 0) (hff : μ 230 = f) (hmm : μ 205 45 = mm) (hT : zTJ φ μ), zW D Wm ST b0 l Sg zM173 bud (pm_X zM173 (fun st' μ' => zTJ φ μ' ∧ ∃ x, st' = [(0, x)] ∧ zcC f mm p x)) 36 [(2, 205), (0, p), (0, more), (9, 0), (9, 0), (9, 0)] [] μ := by
  intro n
  induction n using Nat.strongRecOn with
  | ind n ih =>
    intro more μ hn hm hz hG hN hff hmm hT
    have hnn := zsum_nn (f := μ 231) (n := 321) (fun j h0 h1 => (hz j h0 h1).1)
    have f45 := zT_get hT zs205_45 (i := 45) (by omega) (by omega)
    refine pm_blk hK zmm173 [] 1 37 [(2, 205), (0, p), (0, more), (9, 0), (9, 0), (9, 0)] [(0, more)] μ [] rfl trivial ?_
    refine pm_if hK zmm173 .eq 139 176 rfl rfl (fun h0 => ?_) (fun h0 => ?_)
    · have h0 : more = (0 : Int) := h0
      have f1 := zT_get hT zs231_0 (i := 60 + p) (by omega) (by omega)
      refine pm_blk hK zmm173 [] 7 188 [(2, 205), (0, p), (0, more), (9, 0), (9, 0), (9, 0)] [(0, 100000000), (0, μ 231 (60 + p))] μ [pm_in (60 + p), 0 ≤ 60 + p ∧ 60 + p < 321] rfl ⟨pm_in_mk (by omega) (by omega), ⟨by omega, by omega⟩, trivial⟩ ?_
      refine pm_icmp hK zmm173 .lt 7 195 rfl rfl (fun h1 => ?_) (fun h1 => ?_)
      · have h1 : μ 231 (60 + p) < (100000000 : Int) := h1
        refine pm_blk hK zmm173 [] 6 204 [(2, 205), (0, p), (0, more), (9, 0), (9, 0), (9, 0)] [(0, μ 231 (60 + p))] μ [pm_in (60 + p), 0 ≤ 60 + p ∧ 60 + p < 321] rfl ⟨pm_in_mk (by omega) (by omega), ⟨by omega, by omega⟩, trivial⟩ ?_
        have hx := zgA_fin (fun c c0 c1 => by rw [← hff]; have hc := zT_get hT zs230_0 (i := c) (by omega) (by omega); omega) hG (hN (by omega)) hp
        first
        | (rw [if_pos (by omega)] at hx; exact pm_iret rfl rfl ⟨hT, _, rfl, hx⟩)
        | (rw [if_neg (by omega)] at hx; exact pm_iret rfl rfl ⟨hT, _, rfl, hx⟩)
      · have h1 : (100000000 : Int) ≤ μ 231 (60 + p) := h1
        refine pm_blk hK zmm173 [] 2 204 [(2, 205), (0, p), (0, more), (9, 0), (9, 0), (9, 0)] [(0, (-1))] μ [] rfl trivial ?_
        have hx := zgA_fin (fun c c0 c1 => by rw [← hff]; have hc := zT_get hT zs230_0 (i := c) (by omega) (by omega); omega) hG (hN (by omega)) hp
        first
        | (rw [if_pos (by omega)] at hx; exact pm_iret rfl rfl ⟨hT, _, rfl, hx⟩)
        | (rw [if_neg (by omega)] at hx; exact pm_iret rfl rfl ⟨hT, _, rfl, hx⟩)
    · have h0 : more ≠ (0 : Int) := h0
      refine pm_blk hK zmm173 [] 4 44 [(2, 205), (0, p), (0, 0), (0, 0), (9, 0), (9, 0)] [] μ [] rfl trivial ?_
      refine zl_yc2 hK (f := f) (mm := mm) (S0 := zsum (μ 231) 321) hb231 (fun more2 k μ2 hm2 hz2 hS hS1 hG2 hN2 hff2 hmm2 hT2 => ?_) hbd _ rfl ⟨by omega, by omega⟩ (Or.inl rfl) hz (by omega) (fun h => absurd h (by omega)) hG (fun _ => zgA2_0) hff hmm hT
      refine pm_blk hK zmm173 [] 1 36 [(2, 205), (0, p), (0, more2), (0, k), (9, 0), (9, 0)] [] μ2 [] rfl trivial ?_
      refine pm_hide [3] ?_
      have hnn2 := zsum_nn (f := μ2 231) (n := 321) (fun j h0 h1 => (hz2 j h0 h1).1)
      exact ih _ (by omega) rfl hm2 hz2 hG2 hN2 hff2 hmm2 hT2
set_option maxRecDepth 100000 in
theorem zh_yc (hK : zKK ST) {p : Int} (hp : 0 ≤ p ∧ p ≤ 200) (hT : zTJ φ μ) (hb231 : sx_bit Wm 231 = true) (hbd : 1 ≤ bud.1 ∧ 22 ≤ bud.2.1) : zC D Wm ST b0 l Sg zM173 bud [(2, 205), (0, p)] μ (fun st' μ' => zTJ φ μ' ∧ ∃ x, st' = [(0, x)] ∧ zcC (μ 230) (μ 205 45) p x) := by
  refine pm_blk hK zmm173 [] 2 2 [(2, 205), (0, p), (0, 0), (9, 0), (9, 0), (9, 0)] [] μ [] rfl trivial ?_
  refine zl_yc1 hK (f := μ 230) (mm := μ 205 45) hb231 (fun k μ2 hz hff hmm hT2 => ?_) ⟨by omega, by omega⟩ _ rfl ⟨by omega, by omega⟩ (fun j h0 h1 => absurd h1 (by omega)) rfl rfl hT
  refine pm_blk hK zmm173 [] 2 36 [(2, 205), (0, p), (0, 1), (9, 0), (9, 0), (9, 0)] [] μ2 [] rfl trivial ?_
  have hz4 : zcoin μ2 321 := fun j j0 j1 => by rw [hz j j0 j1]; split <;> omega
  exact zl_yc0 hK (f := μ 230) (mm := μ 205 45) hp hb231 hbd _ rfl (Or.inr rfl) hz4 (zgA0_i hz) (fun h => absurd h (by decide)) hff hmm hT2
set_option maxRecDepth 100000 in
theorem zl_ya1 (hK : zKK ST) {X : Nat → List pm_V → List pm_V → pm_Mem → Prop} {f : Int → Int} {mm p w : Int} (hp : 0 ≤ p ∧ p ≤ 200) (hb231 : sx_bit Wm 231 = true) (K : ∀ (k : Int) (μ : pm_Mem), zcwr f (μ 231) 0 p → μ 230 = f → μ 205 45 = mm → zTJ φ μ → zW D Wm ST b0 l Sg zM172 bud X 67 [(2, 205), (0, p), (0, w), (0, k), (9, 0)] [] μ) (hbd : 0 ≤ bud.1 ∧ 0 ≤ bud.2.1) : ∀ (n : Nat) {k : Int} {μ : pm_Mem}, (201 - k).toNat = n → ∀ (hk : 0 ≤ k ∧ k ≤ 201) (hz : ∀ j : Int, 0 ≤ j → j < k → μ 231 j = if j = 0 then 1 else 0) (hff : μ 230 = f) (hmm : μ 205 45 = mm) (hT : zTJ φ μ), zW D Wm ST b0 l Sg zM172 bud X 41 [(2, 205), (0, p), (0, w), (0, k), (9, 0)] [] μ := by
  intro n
  induction n using Nat.strongRecOn with
  | ind n ih =>
    intro k μ hn hk hz hff hmm hT
    refine pm_blk hK zmm172 [] 2 43 [(2, 205), (0, p), (0, w), (0, k), (9, 0)] [(0, p), (0, k)] μ [] rfl trivial ?_
    refine pm_icmp hK zmm172 .gt 24 67 rfl rfl (fun h0 => ?_) (fun h0 => ?_)
    · have h0 : p < k := h0
      exact K _ _ (zcwr_0 (fun j j0 j1 => hz j j0 (by omega))) hff hmm hT
    · have h0 : k ≤ p := h0
      refine pm_blk hK zmm172 [] 4 52 [(2, 205), (0, p), (0, w), (0, k), (9, 0)] [(0, k), (0, k), (2, 231)] μ [] rfl trivial ?_
      refine pm_if hK zmm172 .ne 7 59 rfl rfl (fun h1 => ?_) (fun h1 => ?_)
      · have h1 : k ≠ (0 : Int) := h1
        refine pm_blk hK zmm172 [] 2 61 [(2, 205), (0, p), (0, w), (0, k), (9, 0)] [] (pm_up μ 231 k 0) [sx_bit Wm 231 = true, 0 ≤ k ∧ k < 321] rfl ⟨hb231, ⟨by omega, by omega⟩, trivial⟩ ?_
        obtain ⟨μ1, eμ1⟩ : ∃ μ', μ' = pm_up μ 231 k 0 := ⟨_, rfl⟩
        rw [← eμ1]
        have hTμ1 : zTJ φ μ1 := by rw [eμ1]; exact zT_up hT zs231_0 rfl (i := k) (by omega) (by omega) (by omega) (by omega)
        refine pm_blk hK zmm172 [] 2 41 [(2, 205), (0, p), (0, w), (0, k + 1), (9, 0)] [] μ1 [pm_in (k + 1)] rfl ⟨pm_in_mk (by omega) (by omega), trivial⟩ ?_
        refine ih _ (by omega) rfl ⟨by omega, by omega⟩ (fun j j0 j1 => ?_) (by rw [eμ1, pm_up_row (by decide)]; exact hff) (by rw [eμ1, pm_up_off (by decide)]; exact hmm) hTμ1
        rw [eμ1, pm_up_if]
        by_cases hj : j = k
        · rw [if_pos hj]; first | rw [if_pos (by omega)] | rw [if_neg (by omega)]
        · rw [if_neg hj]; exact hz j j0 (by omega)
      · have h1 : k = (0 : Int) := h1
        refine pm_blk hK zmm172 [] 3 61 [(2, 205), (0, p), (0, w), (0, k), (9, 0)] [] (pm_up μ 231 k 1) [sx_bit Wm 231 = true, 0 ≤ k ∧ k < 321] rfl ⟨hb231, ⟨by omega, by omega⟩, trivial⟩ ?_
        obtain ⟨μ2, eμ2⟩ : ∃ μ', μ' = pm_up μ 231 k 1 := ⟨_, rfl⟩
        rw [← eμ2]
        have hTμ2 : zTJ φ μ2 := by rw [eμ2]; exact zT_up hT zs231_0 rfl (i := k) (by omega) (by omega) (by omega) (by omega)
        refine pm_blk hK zmm172 [] 2 41 [(2, 205), (0, p), (0, w), (0, k + 1), (9, 0)] [] μ2 [pm_in (k + 1)] rfl ⟨pm_in_mk (by omega) (by omega), trivial⟩ ?_
        refine ih _ (by omega) rfl ⟨by omega, by omega⟩ (fun j j0 j1 => ?_) (by rw [eμ2, pm_up_row (by decide)]; exact hff) (by rw [eμ2, pm_up_off (by decide)]; exact hmm) hTμ2
        rw [eμ2, pm_up_if]
        by_cases hj : j = k
        · rw [if_pos hj]; first | rw [if_pos (by omega)] | rw [if_neg (by omega)]
        · rw [if_neg hj]; exact hz j j0 (by omega)
set_option maxRecDepth 100000 in
theorem zl_ya3 (hK : zKK ST) {X : Nat → List pm_V → List pm_V → pm_Mem → Prop} {f : Int → Int} {mm p w c : Int} (hp : 0 ≤ p ∧ p ≤ 200) (hc : 0 ≤ c ∧ c ≤ 5) (hf1 : 1 ≤ f c ∧ f c ≤ 50) (hb231 : sx_bit Wm 231 = true) (K : ∀ (μ : pm_Mem), zcwr f (μ 231) (c.toNat + 1) p → μ 230 = f → μ 205 45 = mm → zTJ φ μ → zW D Wm ST b0 l Sg zM172 bud X 126 [(2, 205), (0, p), (0, w), (0, c), (9, 0)] [] μ) (hbd : 0 ≤ bud.1 ∧ 0 ≤ bud.2.1) : ∀ (n : Nat) {k : Int} {μ : pm_Mem}, (201 - k).toNat = n → ∀ (hk : f c ≤ k ∧ k ≤ 201) (hw : zwm f (μ 231) c.toNat k p) (hff : μ 230 = f) (hmm : μ 205 45 = mm) (hT : zTJ φ μ), zW D Wm ST b0 l Sg zM172 bud X 85 [(2, 205), (0, p), (0, w), (0, c), (0, k)] [] μ := by
  intro n
  induction n using Nat.strongRecOn with
  | ind n ih =>
    intro k μ hn hk hw hff hmm hT
    have hfc : μ 230 c = f c := by rw [hff]
    refine pm_blk hK zmm172 [118] 2 88 [(2, 205), (0, p), (0, w), (0, c), (0, k)] [(0, p), (0, k)] μ [] rfl trivial ?_
    refine pm_icmp hK zmm172 .gt 38 126 rfl rfl (fun h0 => ?_) (fun h0 => ?_)
    · have h0 : p < k := h0
      refine pm_hide [4] ?_
      exact K _ (zwm_e hw (by omega)) hff hmm hT
    · have h0 : k ≤ p := h0
      have f1 := zT_get hT zs231_0 (i := k) (by omega) (by omega)
      have f2 := zT_get hT zs230_0 (i := c) (by omega) (by omega)
      have f3 := zT_get hT zs231_0 (i := k - (μ 230 c)) (by omega) (by omega)
      have w4 := zw32 ((μ 231 k) + (μ 231 (k - (μ 230 c))))
      refine pm_blk hK zmm172 [118] 18 120 [(2, 205), (0, p), (0, w), (0, c), (0, k)] [] (pm_up μ 231 k (pm_w32 ((μ 231 k) + (μ 231 (k - (μ 230 c)))))) [0 ≤ k ∧ k < 321, 0 ≤ c ∧ c < 6, pm_in (k - (μ 230 c)), 0 ≤ k - (μ 230 c) ∧ k - (μ 230 c) < 321, sx_bit Wm 231 = true, 0 ≤ k ∧ k < 321] rfl ⟨⟨by omega, by omega⟩, ⟨by omega, by omega⟩, pm_in_mk (by omega) (by omega), ⟨by omega, by omega⟩, hb231, ⟨by omega, by omega⟩, trivial⟩ ?_
      obtain ⟨μ1, eμ1⟩ : ∃ μ', μ' = pm_up μ 231 k (pm_w32 ((μ 231 k) + (μ 231 (k - (μ 230 c))))) := ⟨_, rfl⟩
      rw [← eμ1]
      have hTμ1 : zTJ φ μ1 := by rw [eμ1]; exact zT_up hT zs231_0 rfl (i := k) (by omega) (by omega) (by omega) (by omega)
      refine pm_blk hK zmm172 [118] 2 85 [(2, 205), (0, p), (0, w), (0, c), (0, k + 1)] [] μ1 [pm_in (k + 1)] rfl ⟨pm_in_mk (by omega) (by omega), trivial⟩ ?_
      have hw2 := zwm_s hw hf1.1 (by rw [show ((c.toNat : Nat) : Int) = c by omega]) hk.1 (by omega) (R' := μ1 231) (fun j => by rw [eμ1, pm_up_if, hfc])
      exact ih _ (by omega) rfl ⟨by omega, by omega⟩ hw2 (by rw [eμ1, pm_up_row (by decide)]; exact hff) (by rw [eμ1, pm_up_off (by decide)]; exact hmm) hTμ1
set_option maxRecDepth 100000 in
theorem zl_ya2 (hK : zKK ST)  {f : Int → Int} {mm p w : Int} (hp : 0 ≤ p ∧ p ≤ 200) (hf1 : ∀ c : Int, 0 ≤ c → c < mm → 1 ≤ f c) (hb231 : sx_bit Wm 231 = true) (hbd : 0 ≤ bud.1 ∧ 0 ≤ bud.2.1) : ∀ (n : Nat) {c : Int} {μ : pm_Mem}, (mm - c).toNat = n → ∀ (hc : 0 ≤ c ∧ c ≤ mm) (hw : zcwr f (μ 231) c.toNat p) (hff : μ 230 = f) (hmm : μ 205 45 = mm) (hT : zTJ φ μ), zW D Wm ST b0 l Sg zM172 bud (pm_X zM172 (fun st' μ' => zTJ φ μ' ∧ st' = [(0, zwy f mm.toNat p)])) 69 [(2, 205), (0, p), (0, w), (0, c), (9, 0)] [] μ := by
  intro n
  induction n using Nat.strongRecOn with
  | ind n ih =>
    intro c μ hn hc hw hff hmm hT
    have f45 := zT_get hT zs205_45 (i := 45) (by omega) (by omega)
    have f1 := zT_get hT zs205_45 (i := 45) (by omega) (by omega)
    refine pm_blk hK zmm172 [] 3 74 [(2, 205), (0, p), (0, w), (0, c), (9, 0)] [(0, μ 205 45), (0, c)] μ [] rfl trivial ?_
    refine pm_icmp hK zmm172 .ge 58 132 rfl rfl (fun h0 => ?_) (fun h0 => ?_)
    · have h0 : μ 205 45 ≤ c := h0
      have f2 := zT_get hT zs231_0 (i := p) (by omega) (by omega)
      refine pm_blk hK zmm172 [] 4 138 [(2, 205), (0, p), (0, w), (0, c), (9, 0)] [(0, μ 231 p)] μ [0 ≤ p ∧ p < 321] rfl ⟨⟨by omega, by omega⟩, trivial⟩ ?_
      have e := hw p (by omega) (Int.le_refl _)
      rw [show c = mm by omega] at e
      exact pm_iret rfl rfl ⟨hT, by rw [e]⟩
    · have h0 : c < μ 205 45 := h0
      have f3 := zT_get hT zs230_0 (i := c) (by omega) (by omega)
      refine pm_blk hK zmm172 [] 5 85 [(2, 205), (0, p), (0, w), (0, c), (0, μ 230 c)] [] μ [0 ≤ c ∧ c < 6] rfl ⟨⟨by omega, by omega⟩, trivial⟩ ?_
      have hfc : μ 230 c = f c := by rw [hff]
      have h1c := hf1 c (by omega) (by omega)
      rw [hfc]
      refine zl_ya3 hK (f := f) (mm := mm) hp ⟨by omega, by omega⟩ ⟨by omega, by omega⟩ hb231 (fun μ2 hw2 hff2 hmm2 hT2 => ?_) ⟨by omega, by omega⟩ _ rfl ⟨by omega, by omega⟩ (zwm_0 hw (by omega) (by rw [show ((c.toNat : Nat) : Int) = c by omega])) hff hmm hT
      refine pm_blk hK zmm172 [] 2 69 [(2, 205), (0, p), (0, w), (0, c + 1), (9, 0)] [] μ2 [pm_in (c + 1)] rfl ⟨pm_in_mk (by omega) (by omega), trivial⟩ ?_
      exact ih _ (by omega) rfl ⟨by omega, by omega⟩ (by rw [show (c + 1).toNat = c.toNat + 1 by omega]; exact hw2) hff2 hmm2 hT2
set_option maxRecDepth 100000 in
theorem zh_paysm (hK : zKK ST) {p w : Int} (hf1 : ∀ c : Int, 0 ≤ c → c < μ 205 45 → 1 ≤ μ 230 c) (hT : zTJ φ μ) (hb231 : sx_bit Wm 231 = true) (hb205 : sx_bit Wm 205 = true) (hbd : 2 ≤ bud.1 ∧ 47 ≤ bud.2.1) : zC D Wm ST b0 l Sg zM172 bud [(2, 205), (0, p), (0, w)] μ (fun st' μ' => zTJ φ μ' ∧ ∃ x, st' = [(0, x)] ∧ zpC (μ 230) (μ 205 45) p w x) := by
  have f45 := zT_get hT zs205_45 (i := 45) (by omega) (by omega)
  refine pm_blk hK zmm172 [] 3 5 [(2, 205), (0, p), (0, w), (9, 0), (9, 0)] [] (pm_up μ 205 0 0) [sx_bit Wm 205 = true] rfl ⟨hb205, trivial⟩ ?_
  obtain ⟨μ1, eμ1⟩ : ∃ μ', μ' = pm_up μ 205 0 0 := ⟨_, rfl⟩
  rw [← eμ1]
  have hTμ1 : zTJ φ μ1 := by rw [eμ1]; exact zT_up hT zs205_0 rfl (i := 0) (by omega) (by omega) (by omega) (by omega)
  have b1 : μ1 205 45 = μ 205 45 := by rw [eμ1, pm_up_ne (by decide)]
  have b2 : μ1 230 = μ 230 := by rw [eμ1, pm_up_row (by decide)]
  refine pm_blk hK zmm172 [] 4 11 [(2, 205), (0, p), (0, w), (9, 0), (9, 0)] [(0, 200), (0, 0), (0, p), (2, 205)] μ1 [] rfl trivial ?_
  refine pm_call hK zmm172 (158, 0, 129, 3) zM129 (0, 0) [(2, 205), (0, p), (0, 0), (0, 200)] [] rfl rfl rfl rfl ⟨by omega, by rw [zn129]; omega⟩ (zh_isIn hK ⟨by omega, by omega⟩) (fun st1 μc1 hp1 => ?_)
  obtain ⟨rfl, rfl⟩ := hp1
  refine pm_if hK zmm172 .eq 13 27 rfl rfl (fun h0 => ?_) (fun h0 => ?_)
  · have h0 : (if 0 ≤ p ∧ p ≤ 200 then 1 else 0 : Int) = (0 : Int) := h0
    have h0 := zif0 h0
    refine pm_blk hK zmm172 [] 1 28 [(2, 205), (0, p), (0, w), (9, 0), (9, 0)] [(0, (-1))] μ1 [] rfl trivial ?_
    exact pm_iret rfl rfl ⟨hTμ1, _, rfl, Or.inl ⟨by omega, rfl⟩⟩
  · have h0 : (if 0 ≤ p ∧ p ≤ 200 then 1 else 0 : Int) ≠ (0 : Int) := h0
    have h0 := zif1 h0
    refine pm_blk hK zmm172 [] 4 21 [(2, 205), (0, p), (0, w), (9, 0), (9, 0)] [(0, 1), (0, 0), (0, w), (2, 205)] μ1 [] rfl trivial ?_
    refine pm_call hK zmm172 (158, 0, 129, 3) zM129 (0, 0) [(2, 205), (0, w), (0, 0), (0, 1)] [] rfl rfl rfl rfl ⟨by omega, by rw [zn129]; omega⟩ (zh_isIn hK ⟨by omega, by omega⟩) (fun st2 μc2 hp2 => ?_)
    obtain ⟨rfl, rfl⟩ := hp2
    refine pm_if hK zmm172 .ne 5 29 rfl rfl (fun h1 => ?_) (fun h1 => ?_)
    · have h1 : (if 0 ≤ w ∧ w ≤ 1 then 1 else 0 : Int) ≠ (0 : Int) := h1
      have h1 := zif1 h1
      refine pm_blk hK zmm172 [] 1 30 [(2, 205), (0, p), (0, w), (9, 0), (9, 0)] [(0, w)] μ1 [] rfl trivial ?_
      refine pm_if hK zmm172 .ne 9 39 rfl rfl (fun h2 => ?_) (fun h2 => ?_)
      · have h2 : w ≠ (0 : Int) := h2
        refine pm_blk hK zmm172 [] 2 41 [(2, 205), (0, p), (0, w), (0, 0), (9, 0)] [] μ1 [] rfl trivial ?_
        refine zl_ya1 hK (f := μ 230) (mm := μ 205 45) ⟨by omega, by omega⟩ hb231 (fun k μ2 hw hff hmm hT2 => ?_) ⟨by omega, by omega⟩ _ rfl ⟨by omega, by omega⟩ (fun j h0 h1 => absurd h1 (by omega)) b2 b1 hTμ1
        refine pm_blk hK zmm172 [] 2 69 [(2, 205), (0, p), (0, w), (0, 0), (9, 0)] [] μ2 [] rfl trivial ?_
        refine pm_then (zl_ya2 hK (f := μ 230) (mm := μ 205 45) ⟨by omega, by omega⟩ hf1 hb231 ⟨by omega, by omega⟩ _ rfl ⟨by omega, by omega⟩ hw hff hmm hT2) (fun pc2 lv2 st2 μe hX => pm_exit ⟨hX.1, ?_⟩)
        obtain ⟨-, hTe, hst⟩ := hX
        exact ⟨hTe, _, hst, Or.inr ⟨by omega, Or.inr ⟨by omega, rfl⟩⟩⟩
      · have h2 : w = (0 : Int) := h2
        refine pm_blk hK zmm172 [] 2 35 [(2, 205), (0, p), (0, w), (9, 0), (9, 0)] [(0, p), (2, 205)] μ1 [] rfl trivial ?_
        refine pm_call hK zmm172 (436, 0, 173, 1) zM173 (1, 22) [(2, 205), (0, p)] [] rfl rfl rfl rfl ⟨by omega, by rw [zn173]; omega⟩ (zh_yc hK (p := p) ⟨by omega, by omega⟩ hTμ1 hb231 ⟨Nat.le_refl _, Nat.le_refl _⟩) (fun st3 μc3 hp3 => ?_)
        obtain ⟨hTc3, x3, rfl, hx3⟩ := hp3
        have hxx := hx3
        rw [b2, b1] at hxx
        exact pm_iret rfl rfl ⟨hTc3, _, rfl, Or.inr ⟨by omega, Or.inl ⟨by omega, hxx⟩⟩⟩
    · have h1 : (if 0 ≤ w ∧ w ≤ 1 then 1 else 0 : Int) = (0 : Int) := h1
      have h1 := zif0 h1
      refine pm_blk hK zmm172 [] 1 28 [(2, 205), (0, p), (0, w), (9, 0), (9, 0)] [(0, (-1))] μ1 [] rfl trivial ?_
      exact pm_iret rfl rfl ⟨hTμ1, _, rfl, Or.inl ⟨by omega, rfl⟩⟩
end ZHW
