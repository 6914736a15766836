/-! tramp: the class table; walks printed by program (wip/p30/pmgen.py) and filled by hand -/
section ZHW
variable {φ : Option pm_Mem}
variable {D : va_G} {Wm : Nat} {ST : List (String × String × String × Nat)} {b0 : sx_B} {l : Launch} {Sg : Nat → Option Nat} {bud : sx_Bu} {μ : pm_Mem} {B0 : Nat → Prop} {J : (Nat → Option Nat) → Heap → Prop}
set_option maxRecDepth 100000 in
theorem zk_t1 (hK : zKK ST) {X : Nat → List pm_V → List pm_V → pm_Mem → Prop} {μ0 : pm_Mem} {y a : Int} (hy : 0 ≤ y ∧ y ≤ 12) (ha : 0 ≤ a ∧ a < y) (hb200 : sx_bit Wm 200 = true) (KK : ∀ (M : Nat) (μ : pm_Mem), (M : Int) + 1 = y → (∀ r, r ≠ 200 → μ r = μ0 r) → (∀ i : Nat, i < M → μ 200 (i : Int) = zoth a i) → zTJ φ μ → zW D Wm ST b0 l Sg zM263 bud X 50 [(2, 198), (2, 26), (0, y), (0, a), (0, (M : Int)), (9, 0), (9, 0)] [] μ) (hbd : 0 ≤ bud.1 ∧ 0 ≤ bud.2.1) : ∀ (n : Nat) {N s : Int} {μ : pm_Mem}, (y - s).toNat = n → ∀ (j : Nat) (hN : N = (j : Int)) (hs : 0 ≤ s ∧ s ≤ y) (hj : N = if s ≤ a then s else s - 1) (hfr : ∀ r, r ≠ 200 → μ r = μ0 r) (ho : ∀ i : Nat, i < j → μ 200 (i : Int) = zoth a i) (hT : zTJ φ μ), zW D Wm ST b0 l Sg zM263 bud X 13 [(2, 198), (2, 26), (0, y), (0, a), (0, N), (0, s), (9, 0)] [] μ := by
  intro n
  induction n using Nat.strongRecOn with
  | ind n ih =>
    intro N s μ hn j hN hs hj hfr ho hT
    have hjs : (s ≤ a ∧ N = s) ∨ (a < s ∧ N = s - 1) := by
      split at hj <;> omega
    refine pm_blk hK zmm263 [] 2 16 [(2, 198), (2, 26), (0, y), (0, a), (0, N), (0, s), (9, 0)] [(0, y), (0, s)] μ [] rfl trivial ?_
    refine pm_icmp hK zmm263 .ge 34 50 rfl rfl (fun h0 => ?_) (fun h0 => ?_)
    · have h0 : y ≤ s := h0
      refine pm_hide [5] ?_
      obtain rfl : N = (j : Int) := hN
      exact KK j _ (by omega) hfr ho hT
    · have h0 : s < y := h0
      refine pm_blk hK zmm263 [] 2 22 [(2, 198), (2, 26), (0, y), (0, a), (0, N), (0, s), (9, 0)] [(0, a), (0, s)] μ [] rfl trivial ?_
      refine pm_icmp hK zmm263 .eq 22 44 rfl rfl (fun h1 => ?_) (fun h1 => ?_)
      · have h1 : s = a := h1
        refine pm_blk hK zmm263 [] 2 13 [(2, 198), (2, 26), (0, y), (0, a), (0, N), (0, s + 1), (9, 0)] [] μ [pm_in (s + 1)] rfl ⟨pm_in_mk (by omega) (by omega), trivial⟩ ?_
        first
        | exact ih _ (by omega) rfl j hN ⟨by omega, by omega⟩ (by split <;> omega) hfr ho hT
        | (refine ih _ (by omega) rfl (j + 1) (by omega) ⟨by omega, by omega⟩ (by split <;> omega) (fun r hr => by rw [eμ, pm_up_row hr]; exact hfr r hr) (fun i hi => ?_) hT
           rw [eμ, pm_up_at]
           by_cases he : i = j
           · rw [if_pos (by omega), he]; unfold zoth; split <;> omega
           · rw [if_neg (by omega)]; exact ho i (by omega))
        | (exfalso; omega)
      · have h1 : s ≠ a := h1
        refine pm_blk hK zmm263 [] 2 29 [(2, 198), (2, 26), (0, y), (0, a), (0, N), (0, s), (9, 0)] [(0, 11), (0, N)] μ [] rfl trivial ?_
        refine pm_icmp hK zmm263 .ge 15 44 rfl rfl (fun h2 => ?_) (fun h2 => ?_)
        · have h2 : (11 : Int) ≤ N := h2
          refine pm_blk hK zmm263 [] 2 13 [(2, 198), (2, 26), (0, y), (0, a), (0, N), (0, s + 1), (9, 0)] [] μ [pm_in (s + 1)] rfl ⟨pm_in_mk (by omega) (by omega), trivial⟩ ?_
          first
          | exact ih _ (by omega) rfl j hN ⟨by omega, by omega⟩ (by split <;> omega) hfr ho hT
          | (refine ih _ (by omega) rfl (j + 1) (by omega) ⟨by omega, by omega⟩ (by split <;> omega) (fun r hr => by rw [eμ, pm_up_row hr]; exact hfr r hr) (fun i hi => ?_) hT
             rw [eμ, pm_up_at]
             by_cases he : i = j
             · rw [if_pos (by omega), he]; unfold zoth; split <;> omega
             · rw [if_neg (by omega)]; exact ho i (by omega))
          | (exfalso; omega)
        · have h2 : N < (11 : Int) := h2
          refine pm_blk hK zmm263 [] 5 41 [(2, 198), (2, 26), (0, y), (0, a), (0, N), (0, s), (9, 0)] [] (pm_up μ 200 N s) [sx_bit Wm 200 = true, 0 ≤ N ∧ N < 11] rfl ⟨hb200, ⟨by omega, by omega⟩, trivial⟩ ?_
          obtain ⟨μ1, eμ1⟩ : ∃ μ', μ' = pm_up μ 200 N s := ⟨_, rfl⟩
          rw [← eμ1]
          have hTμ1 : zTJ φ μ1 := by rw [eμ1]; exact zT_up hT zs200_0 rfl (i := N) (by omega) (by omega) (by omega) (by omega)
          refine pm_blk hK zmm263 [] 3 13 [(2, 198), (2, 26), (0, y), (0, a), (0, N + 1), (0, s + 1), (9, 0)] [] μ1 [pm_in (N + 1), pm_in (s + 1)] rfl ⟨pm_in_mk (by omega) (by omega), pm_in_mk (by omega) (by omega), trivial⟩ ?_
          first
          | exact ih _ (by omega) rfl j hN ⟨by omega, by omega⟩ (by split <;> omega) hfr ho hT
          | (refine ih _ (by omega) rfl (j + 1) (by omega) ⟨by omega, by omega⟩ (by split <;> omega) (fun r hr => by rw [eμ1, pm_up_row hr]; exact hfr r hr) (fun i hi => ?_) hTμ1
             rw [eμ1, pm_up_at]
             by_cases he : i = j
             · rw [if_pos (by omega), he]; unfold zoth; split <;> omega
             · rw [if_neg (by omega)]; exact ho i (by omega))
          | (exfalso; omega)
set_option maxRecDepth 100000 in
theorem zk_t3 (hK : zKK ST) {X : Nat → List pm_V → List pm_V → pm_Mem → Prop} {μ0 : pm_Mem} {y a N c nn : Int} {S M : Nat} (hN : N = (M : Int)) (hM : M ≤ 11) (hc : c = (S : Int)) (hS : S < 2 ^ M) (hS0 : 0 < S) (ha : 0 ≤ a ∧ a < nn) (ha1 : a ≤ 11) (hoth0 : ∀ i : Nat, i < M → μ0 200 (i : Int) = zoth a i) (hok0 : zFok 1000000 nn (μ0 199)) (hMn : (M : Int) + 1 ≤ nn) (hb201 : sx_bit Wm 201 = true) (KK : ∀ (μ : pm_Mem), zCl2 1000000 (μ 199) (μ 201) a M S M → (∀ r, r ≠ 201 → μ r = μ0 r) → zTJ φ μ → zW D Wm ST b0 l Sg zM263 bud X 113 [(2, 198), (2, 26), (0, y), (0, a), (0, N), (0, c), (9, 0)] [] μ) (hbd : 3 ≤ bud.1 ∧ 73 ≤ bud.2.1) : ∀ (n : Nat) {e : Int} {μ : pm_Mem}, (N - e).toNat = n → ∀ (L : Nat) (hl : e = (L : Int)) (hL : L ≤ M) (hC2 : zCl2 1000000 (μ 199) (μ 201) a M S L) (hfr : ∀ r, r ≠ 201 → μ r = μ0 r) (hT : zTJ φ μ), zW D Wm ST b0 l Sg zM263 bud X 65 [(2, 198), (2, 26), (0, y), (0, a), (0, N), (0, c), (0, e)] [] μ := by
  intro n
  induction n using Nat.strongRecOn with
  | ind n ih =>
    intro e μ hn L hl hL hC2 hfr hT
    have hoth : ∀ i : Nat, i < M → μ 200 (i : Int) = zoth a i := by rw [hfr 200 (by decide)]; exact hoth0
    have hok : zFok 1000000 nn (μ 199) := by rw [hfr 199 (by decide)]; exact hok0
    have hC := hC2.1
    have hpM : 2 ^ M ≤ 2048 := Nat.pow_le_pow_right (by decide) hM
    have hp0M : 0 < 2 ^ M := Nat.two_pow_pos M
    have hz := zhas (s := c) (k := L) (by omega) (by omega) (by omega)
    rw [← hl, show c.toNat = S by omega] at hz
    refine pm_blk hK zmm263 [] 2 69 [(2, 198), (2, 26), (0, y), (0, a), (0, N), (0, c), (0, e)] [(0, N), (0, e)] μ [] rfl trivial ?_
    refine pm_icmp hK zmm263 .ge 44 113 rfl rfl (fun h0 => ?_) (fun h0 => ?_)
    · have h0 : N ≤ e := h0
      refine pm_hide [6] ?_
      obtain rfl : L = M := by omega
      exact KK _ hC2 hfr hT
    · have h0 : e < N := h0
      refine pm_blk hK zmm263 [] 6 80 [(2, 198), (2, 26), (0, y), (0, a), (0, N), (0, c), (0, e)] [(0, 1), (0, pm_and (pm_shr c e) 1)] μ [] rfl trivial ?_
      refine pm_icmp hK zmm263 .ne 27 107 rfl rfl (fun h1 => ?_) (fun h1 => ?_)
      · have h1 : pm_and (pm_shr c e) 1 ≠ (1 : Int) := h1
        refine pm_blk hK zmm263 [] 2 65 [(2, 198), (2, 26), (0, y), (0, a), (0, N), (0, c), (0, e + 1)] [] μ [pm_in (e + 1)] rfl ⟨pm_in_mk (by omega) (by omega), trivial⟩ ?_
        first
        | exact ih _ (by omega) rfl (L + 1) (by omega) (by omega) (zCl2_n (zbit_n hz h1) hC2) hfr hT
        | exact ih _ (by omega) rfl (L + 1) (by omega) (by omega) (by rw [show μ 199 = μ 199 by rw [eμ, pm_up_row (by decide)]]; exact zCl2_y hM (by omega) hvv (fun z => by rw [eμ, pm_up_at, hc, hl]) hC2) (fun r hr => by rw [eμ, pm_up_row hr]; exact hfr r hr) hT
        | (exfalso; omega)
      · have h1 : pm_and (pm_shr c e) 1 = (1 : Int) := h1
        have hbl := zbit_y hz h1
        refine pm_blk hK zmm263 [] 12 103 [(2, 198), (2, 26), (0, y), (0, a), (0, N), (0, c), (0, e)] [(0, a), (0, N), (0, e), (0, c), (2, 198), (0, (c * 11) + e), (2, 201)] μ [pm_in (c * 11), pm_in ((c * 11) + e)] rfl ⟨pm_in_mk (by omega) (by omega), pm_in_mk (by omega) (by omega), trivial⟩ ?_
        refine pm_call hK zmm263 (61, 0, 265, 4) zM265 (2, 46) [(2, 198), (0, c), (0, e), (0, N), (0, a)] [(0, (c * 11) + e), (2, 201)] rfl rfl rfl rfl ⟨by omega, by rw [zn265]; omega⟩ (zk_fewestTo hK (c := c) (e := e) (N := N) (a := a) (nn := nn) (S := S) (L := L) (M := M) hT hN hM hl (by omega) ha ha1 hoth hok hMn hbl hS hC (by omega) ⟨Nat.le_refl _, Nat.le_refl _⟩) (fun st1 μc1 hp1 => ?_)
        obtain ⟨rfl, v1, rfl, hv1⟩ := hp1
        have hvv := hv1
        have hvb := hv1.1
        have hvn : 0 ≤ v1 := by
          rcases hv1.2.1 with q | ⟨k, q⟩
          · omega
          · exact zTo_nn q
        refine pm_blk hK zmm263 [] 1 107 [(2, 198), (2, 26), (0, y), (0, a), (0, N), (0, c), (0, e)] [] (pm_up μ 201 ((c * 11) + e) v1) [sx_bit Wm 201 = true, 0 ≤ (c * 11) + e ∧ (c * 11) + e < 22528] rfl ⟨hb201, ⟨by omega, by omega⟩, trivial⟩ ?_
        obtain ⟨μ1, eμ1⟩ : ∃ μ', μ' = pm_up μ 201 ((c * 11) + e) v1 := ⟨_, rfl⟩
        rw [← eμ1]
        have hTμ1 : zTJ φ μ1 := by rw [eμ1]; exact zT_up hT zs201_0 rfl (i := (c * 11) + e) (by omega) (by omega) (by omega) (by omega)
        refine pm_blk hK zmm263 [] 2 65 [(2, 198), (2, 26), (0, y), (0, a), (0, N), (0, c), (0, e + 1)] [] μ1 [pm_in (e + 1)] rfl ⟨pm_in_mk (by omega) (by omega), trivial⟩ ?_
        first
        | exact ih _ (by omega) rfl (L + 1) (by omega) (by omega) (zCl2_n (zbit_n hz h1) hC2) hfr hT
        | exact ih _ (by omega) rfl (L + 1) (by omega) (by omega) (by rw [show μ1 199 = μ 199 by rw [eμ1, pm_up_row (by decide)]]; exact zCl2_y hM (by omega) hvv (fun z => by rw [eμ1, pm_up_at, hc, hl]) hC2) (fun r hr => by rw [eμ1, pm_up_row hr]; exact hfr r hr) hTμ1
        | (exfalso; omega)
set_option maxRecDepth 100000 in
theorem zk_t2 (hK : zKK ST) {X : Nat → List pm_V → List pm_V → pm_Mem → Prop} {μ0 : pm_Mem} {y a N nn : Int} {M : Nat} (hN : N = (M : Int)) (hM : M ≤ 11) (ha : 0 ≤ a ∧ a < nn) (ha1 : a ≤ 11) (hoth0 : ∀ i : Nat, i < M → μ0 200 (i : Int) = zoth a i) (hok0 : zFok 1000000 nn (μ0 199)) (hMn : (M : Int) + 1 ≤ nn) (hb201 : sx_bit Wm 201 = true) (KK : ∀ (μ : pm_Mem), zCb 1000000 (μ0 199) (μ 201) a M (2 ^ M) → (∀ r, r ≠ 201 → μ r = μ0 r) → zTJ φ μ → zW D Wm ST b0 l Sg zM263 bud X 119 [(2, 198), (2, 26), (0, y), (0, a), (0, N), (9, 0), (9, 0)] [] μ) (hbd : 3 ≤ bud.1 ∧ 73 ≤ bud.2.1) : ∀ (n : Nat) {c : Int} {μ : pm_Mem}, (2048 - c).toNat = n → ∀ (S : Nat) (hc : c = (S : Int)) (hS0 : 0 < S) (hS : S ≤ 2 ^ M) (hC : zCb 1000000 (μ 199) (μ 201) a M S) (hfr : ∀ r, r ≠ 201 → μ r = μ0 r) (hT : zTJ φ μ), zW D Wm ST b0 l Sg zM263 bud X 53 [(2, 198), (2, 26), (0, y), (0, a), (0, N), (0, c), (9, 0)] [] μ := by
  intro n
  induction n using Nat.strongRecOn with
  | ind n ih =>
    intro c μ hn S hc hS0 hS hC hfr hT
    have hpM : 2 ^ M ≤ 2048 := Nat.pow_le_pow_right (by decide) hM
    have hp0M : 0 < 2 ^ M := Nat.two_pow_pos M
    have hsl := zshl1 M (by omega)
    rw [← hN] at hsl
    refine pm_blk hK zmm263 [] 4 59 [(2, 198), (2, 26), (0, y), (0, a), (0, N), (0, c), (9, 0)] [(0, pm_shl 1 N), (0, c)] μ [] rfl trivial ?_
    refine pm_icmp hK zmm263 .ge 60 119 rfl rfl (fun h0 => ?_) (fun h0 => ?_)
    · have h0 : pm_shl 1 N ≤ c := h0
      refine pm_hide [5] ?_
      obtain rfl : S = 2 ^ M := by omega
      exact KK _ (by rw [hfr 199 (by decide)] at hC; exact hC) hfr hT
    · have h0 : c < pm_shl 1 N := h0
      refine pm_blk hK zmm263 [] 2 65 [(2, 198), (2, 26), (0, y), (0, a), (0, N), (0, c), (0, 0)] [] μ [] rfl trivial ?_
      refine zk_t3 hK (μ0 := μ0) hN hM hc (by omega) hS0 ha ha1 hoth0 hok0 hMn hb201 (fun μ hC3 hfr hT => ?_) ⟨by omega, by omega⟩ _ rfl 0 rfl (by omega) (zCl2_0 hC) hfr hT
      refine pm_blk hK zmm263 [] 2 53 [(2, 198), (2, 26), (0, y), (0, a), (0, N), (0, c + 1), (9, 0)] [] μ [pm_in (c + 1)] rfl ⟨pm_in_mk (by omega) (by omega), trivial⟩ ?_
      exact ih _ (by omega) rfl (S + 1) (by omega) (by omega) (by omega) (zCl2_end hC3) hfr hT
end ZHW
