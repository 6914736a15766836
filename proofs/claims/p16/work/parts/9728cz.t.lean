/-! F: CHEAPLY, the reference; walks printed by program (wip/p30/pmgen.py) and filled by hand -/
section ZHW
variable {φ : Option pm_Mem}
variable {D : va_G} {Wm : Nat} {ST : List (String × String × String × Nat)} {b0 : sx_B} {l : Launch} {Sg : Nat → Option Nat} {bud : sx_Bu} {μ : pm_Mem} {B0 : Nat → Prop} {J : (Nat → Option Nat) → Heap → Prop}
set_option maxRecDepth 100000 in
theorem cr_cheaply (hK : zKK ST) {w : Int} (hT : zTJ φ μ) {N pol : Int → Int} {n m : Int} (hN : μ 206 = N) (hpol : μ 209 = pol) (hq6 : μ 205 6 = n) (hm : μ 205 7 = m) {ls : List (Int × List zIw × List zIw)} (hL : fr_L μ 0 ls) (hb205 : sx_bit Wm 205 = true) (hb224 : sx_bit Wm 224 = true) (hb225 : sx_bit Wm 225 = true) (hb226 : sx_bit Wm 226 = true) (hb227 : sx_bit Wm 227 = true) (hbd : 6 ≤ bud.1 ∧ 139 ≤ bud.2.1) : zC D Wm ST b0 l Sg zM166 bud [(2, 205), (0, w)] μ (fun st' μ' => ∃ x, st' = [(0, x)] ∧ zTJ φ μ' ∧ x = ch_an (ch_D 1000000000000000 (ch_w1 (fun c s : Nat => fa_costs (fr_law ls) N pol m (c : Int) (s : Int)) (fun c s : Nat => decide (fa_costs (fr_law ls) N pol m (c : Int) (s : Int) ≤ N (88 + (c : Int))))) m.toNat (ch_wt n N 8)) (ch_wt n N 8) w ∧ (∀ k : Int, k ≠ 0 → μ' 205 k = μ 205 k) ∧ ∀ r, r ≠ 205 → r ≠ 224 → r ≠ 225 → r ≠ 226 → r ≠ 227 → μ' r = μ r) := by
  have hgd : ∀ s : Int, 0 ≤ s → s < 12 → 0 ≤ N (4 + s) := fun s s0 s1 => by rw [← hN]; exact (zT_get hT zs206_4 (i := 4 + s) (by omega) (by omega)).1
  have f7 := zT_get hT zs205_7 (i := 7) (by omega) (by omega)
  refine pm_blk hK zmm166 [] 3 5 [(2, 205), (0, w), (9, 0), (9, 0)] [] (pm_up μ 205 0 0) [sx_bit Wm 205 = true] rfl ⟨hb205, trivial⟩ ?_
  obtain ⟨μ1, eμ1⟩ : ∃ μ', μ' = pm_up μ 205 0 0 := ⟨_, rfl⟩
  rw [← eμ1]
  have hTμ1 : zTJ φ μ1 := by rw [eμ1]; exact zT_up hT zs205_0 rfl (i := 0) (by omega) (by omega) (by omega) (by omega)
  have b1 : ∀ k : Int, k ≠ 0 → μ1 205 k = μ 205 k := fun k h0 => by rw [eμ1, pm_up_ne h0]
  have b2 : ∀ r, r ≠ 205 → μ1 r = μ r := fun r hr => by rw [eμ1, pm_up_row hr]
  have hL1 := fr_L_fr (fun r a b => b2 r (by omega)) hL
  refine pm_blk hK zmm166 [] 1 6 [(2, 205), (0, w), (9, 0), (9, 0)] [(0, w)] μ1 [] rfl trivial ?_
  refine pm_if hK zmm166 .eq 17 23 rfl rfl (fun h0 => ?_) (fun h0 => ?_)
  · have h0 : w = (0 : Int) := h0
    refine pm_blk hK zmm166 [] 1 24 [(2, 205), (0, w), (9, 0), (9, 0)] [(2, 205)] μ1 [] rfl trivial ?_
    refine pm_call hK zmm166 (424, 0, 167, 0) zM167 (5, 116) [(2, 205)] [] rfl rfl rfl rfl ⟨by omega, by rw [zn167]; omega⟩ (cr_tbs hK (N := N) (pol := pol) (n := n) (m := m) (ls := ls) hTμ1 ((b2 206 (by decide)).trans hN) ((b2 209 (by decide)).trans hpol) ((b1 6 (by decide)).trans hq6) ((b1 7 (by decide)).trans hm) hgd hL1 hb224 hb225 hb226 ⟨Nat.le_refl _, Nat.le_refl _⟩) (fun st1 μc1 hp1 => ?_)
    obtain ⟨rfl, hTc1, hft, hct0⟩ := hp1
    have hw8 := ch_wt_8 n N
    have q7 : μc1 205 7 = m := by rw [hft 205 (by decide) (by decide) (by decide)]; exact (b1 7 (by decide)).trans hm
    have qf : ∀ r, r ≠ 205 → r ≠ 224 → r ≠ 225 → r ≠ 226 → μc1 r = μ r := fun r r1 r2 r3 r4 => (hft r r4 r2 r3).trans (b2 r r1)
    have qk : ∀ k : Int, k ≠ 0 → μc1 205 k = μ 205 k := fun k h0 => by rw [hft 205 (by decide) (by decide) (by decide)]; exact b1 k h0
    refine pm_blk hK zmm166 [] 4 31 [(2, 205), (0, w), (0, ((ch_wt n N 8 : Nat) : Int)), (9, 0)] [(0, 0), (0, ((ch_wt n N 8 : Nat) : Int)), (2, 205)] μc1 [] rfl trivial ?_
    obtain ⟨Z9, hZ9⟩ : ∃ Z, Z = zcost μc1 := ⟨_, rfl⟩
    have hct1 : ch_ct (fun c s : Nat => fa_costs (fr_law ls) N pol m (c : Int) (s : Int)) (fun c s : Nat => decide (fa_costs (fr_law ls) N pol m (c : Int) (s : Int) ≤ N (88 + (c : Int)))) m.toNat (ch_wt n N 8) Z9 := fun c t c1 t1 => by rw [hZ9]; exact hct0 c t (by omega) t1
    refine pm_call hK zmm166 (421, 0, 168, 2) zM168 (1, 22) [(2, 205), (0, ((ch_wt n N 8 : Nat) : Int)), (0, 0)] [] rfl rfl rfl rfl ⟨by omega, by rw [zn168]; omega⟩ (zh_cheapest hK (w := (((ch_wt n N 8 : Nat) : Int))) (t := 0) ⟨by omega, by omega⟩ ⟨by omega, by omega⟩ hTc1 hb227 ⟨Nat.le_refl _, Nat.le_refl _⟩) (fun st2 μc2 hp2 => ?_)
    obtain ⟨x2, rfl, hx2, hy2, hz2, hfc2, hTc2⟩ := hp2
    have hzz := hz2
    rw [q7, Int.toNat_natCast, ← hZ9] at hzz
    have hft2 := hfc2
    have hzc9 : zcost μc2 = Z9 := by rw [hZ9]; unfold zcost; rw [hft2 226 (by decide)]
    have hk9 : ∀ c s : Nat, 0 ≤ (fun c s : Nat => fa_costs (fr_law ls) N pol m (c : Int) (s : Int)) c s ∧ (fun c s : Nat => fa_costs (fr_law ls) N pol m (c : Int) (s : Int)) c s ≤ 999 := fun c s => fa_costs_b
    have hz0 : ∀ c, ztk 0 c = false := fun c => by unfold ztk; rw [show (0 : Int).toNat = 0 from rfl, Nat.zero_testBit]
    obtain ⟨hcc1, hcc2⟩ := ch_cost hk9 hct1 hw8 (m := m.toNat) (by omega) hz0 hzz
    refine pm_blk hK zmm166 [] 3 39 [(2, 205), (0, w), (0, ((ch_wt n N 8 : Nat) : Int)), (0, x2)] [(0, 100000000), (0, x2)] μc2 [] rfl trivial ?_
    refine pm_icmp hK zmm166 .ne 5 44 rfl rfl (fun h1 => ?_) (fun h1 => ?_)
    · have h1 : x2 ≠ (100000000 : Int) := h1
      refine pm_blk hK zmm166 [] 1 45 [(2, 205), (0, w), (0, ((ch_wt n N 8 : Nat) : Int)), (0, x2)] [(0, w)] μc2 [] rfl trivial ?_
      refine pm_if hK zmm166 .ne 7 52 rfl rfl (fun h2 => ?_) (fun h2 => ?_)
      · have h2 : w ≠ (0 : Int) := h2
        exact absurd h0 h2
      · have h2 : w = (0 : Int) := h2
        refine pm_blk hK zmm166 [] 2 78 [(2, 205), (0, w), (0, ((ch_wt n N 8 : Nat) : Int)), (0, x2)] [(0, x2)] μc2 [] rfl trivial ?_
        have hyes : ch_D 1000000000000000 (ch_w1 (fun c s : Nat => fa_costs (fr_law ls) N pol m (c : Int) (s : Int)) (fun c s : Nat => decide (fa_costs (fr_law ls) N pol m (c : Int) (s : Int) ≤ N (88 + (c : Int))))) m.toNat (ch_wt n N 8) < 1000000000000000 := hcc1.mpr (by omega)
        first
        | (have hw0 : w = 0 := (by omega)
           subst hw0
           obtain ⟨A9, hA9, hM9⟩ := ch_one (ok := (fun c s : Nat => decide (fa_costs (fr_law ls) N pol m (c : Int) (s : Int) ≤ N (88 + (c : Int))))) hk9 hw8 (m := m.toNat) (by omega) hyes
           have hx9 := hcc2 A9 hA9 hM9
           have hdg := ch_dg_b (A := A9) (S := (ch_wt n N 8)) (fun s hs => by have := hA9.1.1 s hs; omega)
           exact pm_iret rfl rfl ⟨_, rfl, hTc2, by rw [ch_an_0 hyes, hM9, hx9]; omega, fun k h0 => by rw [hft2 205 (by decide)]; exact qk k h0, fun r r1 r2 r3 r4 r5 => (hft2 r r5).trans (qf r r1 r2 r3 r4)⟩)
        | (have hdx := ch_dig (A := A9) (S := (ch_wt n N 8)) (fun s hs => by have := hA9.1.1 s hs; omega) (C := ch_sum (ch_k (fun c s : Nat => fa_costs (fr_law ls) N pol m (c : Int) (s : Int)) A9) (ch_wt n N 8) 8) (s := (w - 10).toNat) (by omega)
           exact pm_iret rfl rfl ⟨_, rfl, hTc2, by rw [ch_an_s ⟨by omega, by omega⟩ hsb9 hyes, hM9, hdx, ch_x_y hsb9], fun k h0 => by rw [hfw 205 (by decide), hft2 205 (by decide)]; exact qk k h0, fun r r1 r2 r3 r4 r5 => (hfw r r5).trans ((hft2 r r5).trans (qf r r1 r2 r3 r4))⟩)
        | (have hnb : ¬ (ch_wt n N 8).testBit (w - 10).toNat = true := (by have h9 := h2; rw [Int.toNat_natCast] at h9; exact h9)
           exact pm_iret rfl rfl ⟨_, rfl, hTc2, (ch_an_n (by omega) (Or.inr (Or.inl hnb))).symm, fun k h0 => by rw [hft2 205 (by decide)]; exact qk k h0, fun r r1 r2 r3 r4 r5 => (hft2 r r5).trans (qf r r1 r2 r3 r4)⟩)
        | (exfalso; omega)
    · have h1 : x2 = (100000000 : Int) := h1
      refine pm_blk hK zmm166 [] 1 43 [(2, 205), (0, w), (0, ((ch_wt n N 8 : Nat) : Int)), (0, x2)] [(0, (-1))] μc2 [] rfl trivial ?_
      have hno : ¬ ch_D 1000000000000000 (ch_w1 (fun c s : Nat => fa_costs (fr_law ls) N pol m (c : Int) (s : Int)) (fun c s : Nat => decide (fa_costs (fr_law ls) N pol m (c : Int) (s : Int) ≤ N (88 + (c : Int))))) m.toNat (ch_wt n N 8) < 1000000000000000 := fun q9 => by have := hcc1.mp q9; omega
      refine pm_iret rfl rfl ⟨_, rfl, hTc2, ?_, fun k h0 => by rw [hft2 205 (by decide)]; exact qk k h0, fun r r1 r2 r3 r4 r5 => (hft2 r r5).trans (qf r r1 r2 r3 r4)⟩
      by_cases hw0 : w = 0
      · subst hw0; exact (ch_an_0n hno).symm
      · exact (ch_an_n hw0 (Or.inr (Or.inr hno))).symm
  · have h0 : w ≠ (0 : Int) := h0
    refine pm_blk hK zmm166 [] 4 15 [(2, 205), (0, w), (9, 0), (9, 0)] [(0, 17), (0, 10), (0, w), (2, 205)] μ1 [] rfl trivial ?_
    refine pm_call hK zmm166 (158, 0, 129, 3) zM129 (0, 0) [(2, 205), (0, w), (0, 10), (0, 17)] [] rfl rfl rfl rfl ⟨by omega, by rw [zn129]; omega⟩ (zh_isIn hK ⟨by omega, by omega⟩) (fun st3 μc3 hp3 => ?_)
    obtain ⟨rfl, rfl⟩ := hp3
    refine pm_if hK zmm166 .ne 5 23 rfl rfl (fun h3 => ?_) (fun h3 => ?_)
    · have h3 : (if 10 ≤ w ∧ w ≤ 17 then 1 else 0 : Int) ≠ (0 : Int) := h3
      have h3 := zif1 h3
      refine pm_blk hK zmm166 [] 1 24 [(2, 205), (0, w), (9, 0), (9, 0)] [(2, 205)] μ1 [] rfl trivial ?_
      refine pm_call hK zmm166 (424, 0, 167, 0) zM167 (5, 116) [(2, 205)] [] rfl rfl rfl rfl ⟨by omega, by rw [zn167]; omega⟩ (cr_tbs hK (N := N) (pol := pol) (n := n) (m := m) (ls := ls) hTμ1 ((b2 206 (by decide)).trans hN) ((b2 209 (by decide)).trans hpol) ((b1 6 (by decide)).trans hq6) ((b1 7 (by decide)).trans hm) hgd hL1 hb224 hb225 hb226 ⟨Nat.le_refl _, Nat.le_refl _⟩) (fun st4 μc4 hp4 => ?_)
      obtain ⟨rfl, hTc4, hft, hct0⟩ := hp4
      have hw8 := ch_wt_8 n N
      have q7 : μc4 205 7 = m := by rw [hft 205 (by decide) (by decide) (by decide)]; exact (b1 7 (by decide)).trans hm
      have qf : ∀ r, r ≠ 205 → r ≠ 224 → r ≠ 225 → r ≠ 226 → μc4 r = μ r := fun r r1 r2 r3 r4 => (hft r r4 r2 r3).trans (b2 r r1)
      have qk : ∀ k : Int, k ≠ 0 → μc4 205 k = μ 205 k := fun k h0 => by rw [hft 205 (by decide) (by decide) (by decide)]; exact b1 k h0
      refine pm_blk hK zmm166 [] 4 31 [(2, 205), (0, w), (0, ((ch_wt n N 8 : Nat) : Int)), (9, 0)] [(0, 0), (0, ((ch_wt n N 8 : Nat) : Int)), (2, 205)] μc4 [] rfl trivial ?_
      obtain ⟨Z9, hZ9⟩ : ∃ Z, Z = zcost μc4 := ⟨_, rfl⟩
      have hct1 : ch_ct (fun c s : Nat => fa_costs (fr_law ls) N pol m (c : Int) (s : Int)) (fun c s : Nat => decide (fa_costs (fr_law ls) N pol m (c : Int) (s : Int) ≤ N (88 + (c : Int)))) m.toNat (ch_wt n N 8) Z9 := fun c t c1 t1 => by rw [hZ9]; exact hct0 c t (by omega) t1
      refine pm_call hK zmm166 (421, 0, 168, 2) zM168 (1, 22) [(2, 205), (0, ((ch_wt n N 8 : Nat) : Int)), (0, 0)] [] rfl rfl rfl rfl ⟨by omega, by rw [zn168]; omega⟩ (zh_cheapest hK (w := (((ch_wt n N 8 : Nat) : Int))) (t := 0) ⟨by omega, by omega⟩ ⟨by omega, by omega⟩ hTc4 hb227 ⟨Nat.le_refl _, Nat.le_refl _⟩) (fun st5 μc5 hp5 => ?_)
      obtain ⟨x5, rfl, hx5, hy5, hz5, hfc5, hTc5⟩ := hp5
      have hzz := hz5
      rw [q7, Int.toNat_natCast, ← hZ9] at hzz
      have hft2 := hfc5
      have hzc9 : zcost μc5 = Z9 := by rw [hZ9]; unfold zcost; rw [hft2 226 (by decide)]
      have hk9 : ∀ c s : Nat, 0 ≤ (fun c s : Nat => fa_costs (fr_law ls) N pol m (c : Int) (s : Int)) c s ∧ (fun c s : Nat => fa_costs (fr_law ls) N pol m (c : Int) (s : Int)) c s ≤ 999 := fun c s => fa_costs_b
      have hz0 : ∀ c, ztk 0 c = false := fun c => by unfold ztk; rw [show (0 : Int).toNat = 0 from rfl, Nat.zero_testBit]
      obtain ⟨hcc1, hcc2⟩ := ch_cost hk9 hct1 hw8 (m := m.toNat) (by omega) hz0 hzz
      refine pm_blk hK zmm166 [] 3 39 [(2, 205), (0, w), (0, ((ch_wt n N 8 : Nat) : Int)), (0, x5)] [(0, 100000000), (0, x5)] μc5 [] rfl trivial ?_
      refine pm_icmp hK zmm166 .ne 5 44 rfl rfl (fun h4 => ?_) (fun h4 => ?_)
      · have h4 : x5 ≠ (100000000 : Int) := h4
        refine pm_blk hK zmm166 [] 1 45 [(2, 205), (0, w), (0, ((ch_wt n N 8 : Nat) : Int)), (0, x5)] [(0, w)] μc5 [] rfl trivial ?_
        refine pm_if hK zmm166 .ne 7 52 rfl rfl (fun h5 => ?_) (fun h5 => ?_)
        · have h5 : w ≠ (0 : Int) := h5
          refine pm_blk hK zmm166 [] 5 58 [(2, 205), (0, w), (0, ((ch_wt n N 8 : Nat) : Int)), (0, x5)] [(0, w - 10), (0, ((ch_wt n N 8 : Nat) : Int)), (2, 205)] μc5 [pm_in (w - 10)] rfl ⟨pm_in_mk (by omega) (by omega), trivial⟩ ?_
          refine pm_call hK zmm166 (417, 0, 169, 2) zM169 (0, 0) [(2, 205), (0, ((ch_wt n N 8 : Nat) : Int)), (0, w - 10)] [] rfl rfl rfl rfl ⟨by omega, by rw [zn169]; omega⟩ (zh_has hK ⟨by omega, by omega⟩ ⟨by omega, by omega⟩ ⟨Nat.le_refl _, Nat.le_refl _⟩) (fun st6 μc6 hp6 => ?_)
          obtain ⟨rfl, rfl⟩ := hp6
          refine pm_if hK zmm166 .eq 16 77 rfl rfl (fun h6 => ?_) (fun h6 => ?_)
          · have h6 : (if (((ch_wt n N 8 : Nat) : Int)).toNat.testBit (w - 10).toNat = true then 1 else 0 : Int) = (0 : Int) := h6
            have h6 := zif0 h6
            refine pm_blk hK zmm166 [] 1 78 [(2, 205), (0, w), (0, ((ch_wt n N 8 : Nat) : Int)), (0, x5)] [(0, (-1))] μc5 [] rfl trivial ?_
            have hyes : ch_D 1000000000000000 (ch_w1 (fun c s : Nat => fa_costs (fr_law ls) N pol m (c : Int) (s : Int)) (fun c s : Nat => decide (fa_costs (fr_law ls) N pol m (c : Int) (s : Int) ≤ N (88 + (c : Int))))) m.toNat (ch_wt n N 8) < 1000000000000000 := hcc1.mpr (by omega)
            first
            | (have hw0 : w = 0 := (by omega)
               subst hw0
               obtain ⟨A9, hA9, hM9⟩ := ch_one (ok := (fun c s : Nat => decide (fa_costs (fr_law ls) N pol m (c : Int) (s : Int) ≤ N (88 + (c : Int))))) hk9 hw8 (m := m.toNat) (by omega) hyes
               have hx9 := hcc2 A9 hA9 hM9
               have hdg := ch_dg_b (A := A9) (S := (ch_wt n N 8)) (fun s hs => by have := hA9.1.1 s hs; omega)
               exact pm_iret rfl rfl ⟨_, rfl, hTc5, by rw [ch_an_0 hyes, hM9, hx9]; omega, fun k h0 => by rw [hft2 205 (by decide)]; exact qk k h0, fun r r1 r2 r3 r4 r5 => (hft2 r r5).trans (qf r r1 r2 r3 r4)⟩)
            | (have hdx := ch_dig (A := A9) (S := (ch_wt n N 8)) (fun s hs => by have := hA9.1.1 s hs; omega) (C := ch_sum (ch_k (fun c s : Nat => fa_costs (fr_law ls) N pol m (c : Int) (s : Int)) A9) (ch_wt n N 8) 8) (s := (w - 10).toNat) (by omega)
               exact pm_iret rfl rfl ⟨_, rfl, hTc5, by rw [ch_an_s ⟨by omega, by omega⟩ hsb9 hyes, hM9, hdx, ch_x_y hsb9], fun k h0 => by rw [hfw 205 (by decide), hft2 205 (by decide)]; exact qk k h0, fun r r1 r2 r3 r4 r5 => (hfw r r5).trans ((hft2 r r5).trans (qf r r1 r2 r3 r4))⟩)
            | (have hnb : ¬ (ch_wt n N 8).testBit (w - 10).toNat = true := (by have h9 := h6; rw [Int.toNat_natCast] at h9; exact h9)
               exact pm_iret rfl rfl ⟨_, rfl, hTc5, (ch_an_n (by omega) (Or.inr (Or.inl hnb))).symm, fun k h0 => by rw [hft2 205 (by decide)]; exact qk k h0, fun r r1 r2 r3 r4 r5 => (hft2 r r5).trans (qf r r1 r2 r3 r4)⟩)
            | (exfalso; omega)
          · have h6 : (if (((ch_wt n N 8 : Nat) : Int)).toNat.testBit (w - 10).toNat = true then 1 else 0 : Int) ≠ (0 : Int) := h6
            have h6 := zif1 h6
            have hWb := h6
            rw [Int.toNat_natCast] at hWb
            obtain ⟨A9, hA9, hM9⟩ := ch_one (ok := (fun c s : Nat => decide (fa_costs (fr_law ls) N pol m (c : Int) (s : Int) ≤ N (88 + (c : Int))))) hk9 hw8 (m := m.toNat) (by omega) (hcc1.mpr (by omega))
            have hx9 := hcc2 A9 hA9 hM9
            have hsb9 : (ch_wt n N 8).testBit (w - 10).toNat = true := hWb
            refine pm_blk hK zmm166 [] 6 71 [(2, 205), (0, w), (0, ((ch_wt n N 8 : Nat) : Int)), (0, x5)] [(0, x5), (0, ((ch_wt n N 8 : Nat) : Int)), (0, w - 10), (2, 205)] μc5 [pm_in (w - 10)] rfl ⟨pm_in_mk (by omega) (by omega), trivial⟩ ?_
            refine pm_call hK zmm166 (427, 0, 318, 3) zM318 (2, 47) [(2, 205), (0, w - 10), (0, ((ch_wt n N 8 : Nat) : Int)), (0, x5)] [] rfl rfl rfl rfl ⟨by omega, by rw [zn318]; omega⟩ (cr_whom hK (sh := (w - 10)) (w := (((ch_wt n N 8 : Nat) : Int))) (v := x5) (kk := (fun c s : Nat => fa_costs (fr_law ls) N pol m (c : Int) (s : Int))) (ok := (fun c s : Nat => decide (fa_costs (fr_law ls) N pol m (c : Int) (s : Int) ≤ N (88 + (c : Int))))) (W := (ch_wt n N 8)) (A := A9) hk9 (by rw [hft2 205 (by decide), q7, hzc9]; exact hct1) hw8 (by rw [hft2 205 (by decide), q7]; omega) (by rw [hft2 205 (by decide), q7]; exact hA9) (by rw [hft2 205 (by decide), q7]; exact hM9) ⟨by omega, by omega⟩ hsb9 hb227 rfl hx9 hTc5 ⟨Nat.le_refl _, Nat.le_refl _⟩) (fun st7 μc7 hp7 => ?_)
            obtain ⟨rfl, hTc7, hfw⟩ := hp7
            refine pm_blk hK zmm166 [] 1 78 [(2, 205), (0, w), (0, ((ch_wt n N 8 : Nat) : Int)), (0, x5)] [(0, ((A9 ((w - 10)).toNat : Nat) : Int))] μc7 [] rfl trivial ?_
            have hyes : ch_D 1000000000000000 (ch_w1 (fun c s : Nat => fa_costs (fr_law ls) N pol m (c : Int) (s : Int)) (fun c s : Nat => decide (fa_costs (fr_law ls) N pol m (c : Int) (s : Int) ≤ N (88 + (c : Int))))) m.toNat (ch_wt n N 8) < 1000000000000000 := hcc1.mpr (by omega)
            first
            | (have hw0 : w = 0 := (by omega)
               subst hw0
               obtain ⟨A9, hA9, hM9⟩ := ch_one (ok := (fun c s : Nat => decide (fa_costs (fr_law ls) N pol m (c : Int) (s : Int) ≤ N (88 + (c : Int))))) hk9 hw8 (m := m.toNat) (by omega) hyes
               have hx9 := hcc2 A9 hA9 hM9
               have hdg := ch_dg_b (A := A9) (S := (ch_wt n N 8)) (fun s hs => by have := hA9.1.1 s hs; omega)
               exact pm_iret rfl rfl ⟨_, rfl, hTc7, by rw [ch_an_0 hyes, hM9, hx9]; omega, fun k h0 => by rw [hft2 205 (by decide)]; exact qk k h0, fun r r1 r2 r3 r4 r5 => (hft2 r r5).trans (qf r r1 r2 r3 r4)⟩)
            | (have hdx := ch_dig (A := A9) (S := (ch_wt n N 8)) (fun s hs => by have := hA9.1.1 s hs; omega) (C := ch_sum (ch_k (fun c s : Nat => fa_costs (fr_law ls) N pol m (c : Int) (s : Int)) A9) (ch_wt n N 8) 8) (s := (w - 10).toNat) (by omega)
               exact pm_iret rfl rfl ⟨_, rfl, hTc7, by rw [ch_an_s ⟨by omega, by omega⟩ hsb9 hyes, hM9, hdx, ch_x_y hsb9], fun k h0 => by rw [hfw 205 (by decide), hft2 205 (by decide)]; exact qk k h0, fun r r1 r2 r3 r4 r5 => (hfw r r5).trans ((hft2 r r5).trans (qf r r1 r2 r3 r4))⟩)
            | (have hnb : ¬ (ch_wt n N 8).testBit (w - 10).toNat = true := (by have h9 := h6; rw [Int.toNat_natCast] at h9; exact h9)
               exact pm_iret rfl rfl ⟨_, rfl, hTc7, (ch_an_n (by omega) (Or.inr (Or.inl hnb))).symm, fun k h0 => by rw [hft2 205 (by decide)]; exact qk k h0, fun r r1 r2 r3 r4 r5 => (hft2 r r5).trans (qf r r1 r2 r3 r4)⟩)
            | (exfalso; omega)
        · have h5 : w = (0 : Int) := h5
          exact absurd h5 h0
      · have h4 : x5 = (100000000 : Int) := h4
        refine pm_blk hK zmm166 [] 1 43 [(2, 205), (0, w), (0, ((ch_wt n N 8 : Nat) : Int)), (0, x5)] [(0, (-1))] μc5 [] rfl trivial ?_
        have hno : ¬ ch_D 1000000000000000 (ch_w1 (fun c s : Nat => fa_costs (fr_law ls) N pol m (c : Int) (s : Int)) (fun c s : Nat => decide (fa_costs (fr_law ls) N pol m (c : Int) (s : Int) ≤ N (88 + (c : Int))))) m.toNat (ch_wt n N 8) < 1000000000000000 := fun q9 => by have := hcc1.mp q9; omega
        refine pm_iret rfl rfl ⟨_, rfl, hTc5, ?_, fun k h0 => by rw [hft2 205 (by decide)]; exact qk k h0, fun r r1 r2 r3 r4 r5 => (hft2 r r5).trans (qf r r1 r2 r3 r4)⟩
        by_cases hw0 : w = 0
        · subst hw0; exact (ch_an_0n hno).symm
        · exact (ch_an_n hw0 (Or.inr (Or.inr hno))).symm
    · have h3 : (if 10 ≤ w ∧ w ≤ 17 then 1 else 0 : Int) = (0 : Int) := h3
      have h3 := zif0 h3
      refine pm_blk hK zmm166 [] 1 22 [(2, 205), (0, w), (9, 0), (9, 0)] [(0, (-1))] μ1 [] rfl trivial ?_
      exact pm_iret rfl rfl ⟨_, rfl, hTμ1, (ch_an_n (by omega) (Or.inl (by omega))).symm, b1, fun r r1 _ _ _ _ => b2 r r1⟩
end ZHW
