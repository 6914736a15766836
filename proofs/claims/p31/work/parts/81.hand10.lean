/-! the least for a set of shops; walks printed by program (wip/p30/pmgen.py) and filled by hand -/
section ZHW
variable {D : va_G} {Wm : Nat} {ST : List (String × String × String × Nat)} {b0 : sx_B} {l : Launch} {Sg : Nat → Option Nat} {bud : sx_Bu} {μ : pm_Mem} {B0 : Nat → Prop} {J : (Nat → Option Nat) → Heap → Prop}
set_option maxRecDepth 100000 in
theorem zl_ch1 (hK : zKK ST) {X : Nat → List pm_V → List pm_V → pm_Mem → Prop} {μ0 : pm_Mem} {w t : Int} (hb227 : sx_bit Wm 227 = true) (K : ∀ (k : Int) (μ : pm_Mem), (∀ j : Int, 0 ≤ j → j < 256 → μ 227 j = if j = 0 then 0 else 100000000) → (∀ r, r ≠ 227 → μ r = μ0 r) → zTJ μ → zW D Wm ST b0 l Sg zM168 bud X 32 [(2, 205), (0, w), (0, t), (0, k), (9, 0), (9, 0)] [] μ) (hbd : 0 ≤ bud.1 ∧ 0 ≤ bud.2.1) : ∀ (n : Nat) {k : Int} {μ : pm_Mem}, (256 - k).toNat = n → ∀ (hk : 0 ≤ k ∧ k ≤ 256) (hz : ∀ j : Int, 0 ≤ j → j < k → μ 227 j = if j = 0 then 0 else 100000000) (hfr : ∀ r, r ≠ 227 → μ r = μ0 r) (hT : zTJ μ), zW D Wm ST b0 l Sg zM168 bud X 2 [(2, 205), (0, w), (0, t), (0, k), (9, 0), (9, 0)] [] μ := by
  intro n
  induction n using Nat.strongRecOn with
  | ind n ih =>
    intro k μ hn hk hz hfr hT
    refine pm_blk hK zmm168 [] 2 6 [(2, 205), (0, w), (0, t), (0, k), (9, 0), (9, 0)] [(0, 256), (0, k)] μ [] rfl trivial ?_
    refine pm_icmp hK zmm168 .ge 26 32 rfl rfl (fun h0 => ?_) (fun h0 => ?_)
    · have h0 : (256 : Int) ≤ k := h0
      have ek : k = 256 := by omega
      rw [ek] at hz
      exact K _ _ hz hfr hT
    · have h0 : k < (256 : Int) := h0
      refine pm_blk hK zmm168 [] 4 15 [(2, 205), (0, w), (0, t), (0, k), (9, 0), (9, 0)] [(0, k), (0, k), (2, 227)] μ [] rfl trivial ?_
      refine pm_if hK zmm168 .ne 7 22 rfl rfl (fun h1 => ?_) (fun h1 => ?_)
      · have h1 : k ≠ (0 : Int) := h1
        refine pm_blk hK zmm168 [] 2 26 [(2, 205), (0, w), (0, t), (0, k), (9, 0), (9, 0)] [] (pm_up μ 227 k 100000000) [sx_bit Wm 227 = true, 0 ≤ k ∧ k < 256] rfl ⟨hb227, ⟨by omega, by omega⟩, trivial⟩ ?_
        obtain ⟨μ1, eμ1⟩ : ∃ μ', μ' = pm_up μ 227 k 100000000 := ⟨_, rfl⟩
        rw [← eμ1]
        have hTμ1 : zTJ μ1 := by rw [eμ1]; exact zT_up hT zs227_0 rfl (i := k) (by omega) (by omega) (by omega) (by omega)
        refine pm_blk hK zmm168 [] 2 2 [(2, 205), (0, w), (0, t), (0, k + 1), (9, 0), (9, 0)] [] μ1 [pm_in (k + 1)] rfl ⟨pm_in_mk (by omega) (by omega), trivial⟩ ?_
        refine ih _ (by omega) rfl ⟨by omega, by omega⟩ (fun j j0 j1 => ?_) (fun r hr => by rw [eμ1, pm_up_row hr]; exact hfr r hr) hTμ1
        rw [eμ1]
        by_cases hj : j = k
        · subst hj
          rw [pm_up_eq]
          first | (rw [if_pos (by omega)]) | (rw [if_neg (by omega)])
        · rw [pm_up_ne hj]
          exact hz j j0 (by omega)
      · have h1 : k = (0 : Int) := h1
        refine pm_blk hK zmm168 [] 3 26 [(2, 205), (0, w), (0, t), (0, k), (9, 0), (9, 0)] [] (pm_up μ 227 k 0) [sx_bit Wm 227 = true, 0 ≤ k ∧ k < 256] rfl ⟨hb227, ⟨by omega, by omega⟩, trivial⟩ ?_
        obtain ⟨μ2, eμ2⟩ : ∃ μ', μ' = pm_up μ 227 k 0 := ⟨_, rfl⟩
        rw [← eμ2]
        have hTμ2 : zTJ μ2 := by rw [eμ2]; exact zT_up hT zs227_0 rfl (i := k) (by omega) (by omega) (by omega) (by omega)
        refine pm_blk hK zmm168 [] 2 2 [(2, 205), (0, w), (0, t), (0, k + 1), (9, 0), (9, 0)] [] μ2 [pm_in (k + 1)] rfl ⟨pm_in_mk (by omega) (by omega), trivial⟩ ?_
        refine ih _ (by omega) rfl ⟨by omega, by omega⟩ (fun j j0 j1 => ?_) (fun r hr => by rw [eμ2, pm_up_row hr]; exact hfr r hr) hTμ2
        rw [eμ2]
        by_cases hj : j = k
        · subst hj
          rw [pm_up_eq]
          first | (rw [if_pos (by omega)]) | (rw [if_neg (by omega)])
        · rw [pm_up_ne hj]
          exact hz j j0 (by omega)
set_option maxRecDepth 100000 in
theorem zl_ch4 (hK : zKK ST) {X : Nat → List pm_V → List pm_V → pm_Mem → Prop} {μ0 : pm_Mem} {w t c k : Int} (hw : 0 ≤ w ∧ w ≤ 255) (ht : 0 ≤ t ∧ t ≤ 262143) (hc : 0 ≤ c ∧ c ≤ 17) (hk : 1 ≤ k ∧ k ≤ 255) (hTn : ztk t c.toNat = false) (hb227 : sx_bit Wm 227 = true) (K : ∀ (s : Int) (μ : pm_Mem), (∀ j : Nat, j < 256 → k.toNat ≤ j → j &&& w.toNat = j → zGv (zcost μ0) (ztk t) (c.toNat + 1) j (μ 227 j)) → (∀ j : Nat, j < k.toNat → j &&& w.toNat = j → zGv (zcost μ0) (ztk t) c.toNat j (μ 227 j)) → (∀ r, r ≠ 227 → μ r = μ0 r) → zTJ μ → zW D Wm ST b0 l Sg zM168 bud X 142 [(2, 205), (0, w), (0, t), (0, c), (0, k), (0, s)] [] μ) (hbd : 1 ≤ bud.1 ∧ 22 ≤ bud.2.1) : ∀ (n : Nat) {s : Int} {μ : pm_Mem}, (8 - s).toNat = n → ∀ (hs : 0 ≤ s ∧ s ≤ 8) (hA : ∀ j : Nat, j < 256 → k.toNat < j → j &&& w.toNat = j → zGv (zcost μ0) (ztk t) (c.toNat + 1) j (μ 227 j)) (hB : ∀ j : Nat, j < k.toNat → j &&& w.toNat = j → zGv (zcost μ0) (ztk t) c.toNat j (μ 227 j)) (hC : k.toNat &&& w.toNat = k.toNat → zGp (zcost μ0) (ztk t) c.toNat s.toNat k.toNat (μ 227 k)) (hfr : ∀ r, r ≠ 227 → μ r = μ0 r) (hT : zTJ μ), zW D Wm ST b0 l Sg zM168 bud X 64 [(2, 205), (0, w), (0, t), (0, c), (0, k), (0, s)] [] μ := by
  intro n
  induction n using Nat.strongRecOn with
  | ind n ih =>
    intro s μ hn hs hA hB hC hfr hT
    have hkk : ((k.toNat : Nat) : Int) = k := by omega
    have hww : ((w.toNat : Nat) : Int) = w := by omega
    have hss : ((s.toNat : Nat) : Int) = s := by omega
    refine pm_blk hK zmm168 [] 2 68 [(2, 205), (0, w), (0, t), (0, c), (0, k), (0, s)] [(0, 8), (0, s)] μ [] rfl trivial ?_
    refine pm_icmp hK zmm168 .ge 74 142 rfl rfl (fun h0 => ?_) (fun h0 => ?_)
    · have h0 : (8 : Int) ≤ s := h0
      refine K s _ (fun j j0 j1 j2 => ?_) hB hfr hT
      by_cases hj : j = k.toNat
      · subst hj
        rw [hkk]
        have h8 := hC j2
        rw [show s.toNat = 8 by omega] at h8
        exact zGp_8 h8 hTn
      · exact hA j j0 (by omega) j2
    · have h0 : s < (8 : Int) := h0
      refine pm_blk hK zmm168 [] 3 76 [(2, 205), (0, w), (0, t), (0, c), (0, k), (0, s)] [(0, s), (0, k), (2, 205)] μ [] rfl trivial ?_
      refine pm_call hK zmm168 (417, 0, 169, 2) zM169 (0, 0) [(2, 205), (0, k), (0, s)] [] rfl rfl rfl rfl ⟨by omega, by rw [zn169]; omega⟩ (zh_has hK ⟨by omega, by omega⟩ ⟨by omega, by omega⟩ ⟨Nat.le_refl _, Nat.le_refl _⟩) (fun st1 μc1 hp1 => ?_)
      obtain ⟨rfl, rfl⟩ := hp1
      refine pm_if hK zmm168 .eq 57 136 rfl rfl (fun h1 => ?_) (fun h1 => ?_)
      · have h1 : (if k.toNat.testBit s.toNat = true then 1 else 0 : Int) = (0 : Int) := h1
        have h1 := zif0 h1
        refine pm_blk hK zmm168 [] 2 64 [(2, 205), (0, w), (0, t), (0, c), (0, k), (0, s + 1)] [] μ [pm_in (s + 1)] rfl ⟨pm_in_mk (by omega) (by omega), trivial⟩ ?_
        first
          | (refine ih _ (by omega) rfl ⟨by omega, by omega⟩ (fun j j0 j1 j2 => ?_) (fun j j0 j1 => ?_) (fun q => ?_) (fun r hr => by rw [eμ, pm_up_row hr]; exact hfr r hr) hT
             · rw [eμ, pm_up_ne (by omega)]; exact hA j j0 j1 j2
             · rw [eμ, pm_up_ne (by omega)]; exact hB j j0 j1
             · rw [eμ, pm_up_eq, show ((s + 1).toNat) = s.toNat + 1 by omega]
               have hy := hB (zcl k.toNat s.toNat) hlt (zcl_sub hsub)
               rw [← hx2] at hy
               rw [← hcs]
               exact zGp_step (hC hsub) hbit hy (by rw [hcs]; omega))
          | exact ih _ (by omega) rfl ⟨by omega, by omega⟩ hA hB (fun q => by rw [show (s + 1).toNat = s.toNat + 1 by omega]; first | exact zGp_skip (hC q) (Bool.eq_false_iff.mpr h1) | exact absurd (hx1.mpr q) h1) hfr hT
      · have h1 : (if k.toNat.testBit s.toNat = true then 1 else 0 : Int) ≠ (0 : Int) := h1
        have h1 := zif1 h1
        have hbit := h1
        have hx1 := zsub8 k.toNat (by omega) w.toNat (by omega)
        rw [hkk, hww] at hx1
        refine pm_blk hK zmm168 [] 5 88 [(2, 205), (0, w), (0, t), (0, c), (0, k), (0, s)] [(0, pm_and k (pm_xor w ((-1))))] μ [] rfl trivial ?_
        refine pm_if hK zmm168 .ne 48 136 rfl rfl (fun h2 => ?_) (fun h2 => ?_)
        · have h2 : pm_and k (pm_xor w ((-1))) ≠ (0 : Int) := h2
          refine pm_blk hK zmm168 [] 2 64 [(2, 205), (0, w), (0, t), (0, c), (0, k), (0, s + 1)] [] μ [pm_in (s + 1)] rfl ⟨pm_in_mk (by omega) (by omega), trivial⟩ ?_
          first
            | (refine ih _ (by omega) rfl ⟨by omega, by omega⟩ (fun j j0 j1 j2 => ?_) (fun j j0 j1 => ?_) (fun q => ?_) (fun r hr => by rw [eμ, pm_up_row hr]; exact hfr r hr) hT
               · rw [eμ, pm_up_ne (by omega)]; exact hA j j0 j1 j2
               · rw [eμ, pm_up_ne (by omega)]; exact hB j j0 j1
               · rw [eμ, pm_up_eq, show ((s + 1).toNat) = s.toNat + 1 by omega]
                 have hy := hB (zcl k.toNat s.toNat) hlt (zcl_sub hsub)
                 rw [← hx2] at hy
                 rw [← hcs]
                 exact zGp_step (hC hsub) hbit hy (by rw [hcs]; omega))
            | exact ih _ (by omega) rfl ⟨by omega, by omega⟩ hA hB (fun q => by rw [show (s + 1).toNat = s.toNat + 1 by omega]; first | exact zGp_skip (hC q) (Bool.eq_false_iff.mpr h2) | exact absurd (hx1.mpr q) h2) hfr hT
        · have h2 : pm_and k (pm_xor w ((-1))) = (0 : Int) := h2
          have hsub := hx1.mp h2
          have hx2 := zhas8 k.toNat (by omega) s.toNat (by omega)
          rw [hkk, hss] at hx2
          have hlt := zcl_lt (s := s.toNat) (by omega) hbit
          have hfc := zT_get hT zs227_0 (i := pm_and k (pm_xor (pm_shl 1 s) (-1))) (by rw [hx2]; omega) (by rw [hx2]; omega)
          have hcs : zcost μ0 c.toNat s.toNat = μ 226 (8 * c + s) := by unfold zcost; rw [hfr 226 (by decide), show 8 * ((c.toNat : Nat) : Int) + ((s.toNat : Nat) : Int) = 8 * c + s by omega]
          have f1 := zT_get hT zs227_0 (i := k) (by omega) (by omega)
          have f2 := zT_get hT zs227_0 (i := pm_and k (pm_xor (pm_shl 1 s) ((-1)))) (by omega) (by omega)
          have f3 := zT_get hT zs226_0 (i := (8 * c) + s) (by omega) (by omega)
          refine pm_blk hK zmm168 [] 27 132 [(2, 205), (0, w), (0, t), (0, c), (0, k), (0, s)] [(0, (μ 227 (pm_and k (pm_xor (pm_shl 1 s) ((-1))))) + (μ 226 ((8 * c) + s))), (0, μ 227 k), (2, 205), (0, k), (2, 227)] μ [0 ≤ k ∧ k < 256, 0 ≤ pm_and k (pm_xor (pm_shl 1 s) ((-1))) ∧ pm_and k (pm_xor (pm_shl 1 s) ((-1))) < 256, pm_in (8 * c), pm_in ((8 * c) + s), 0 ≤ (8 * c) + s ∧ (8 * c) + s < 144, pm_in ((μ 227 (pm_and k (pm_xor (pm_shl 1 s) ((-1))))) + (μ 226 ((8 * c) + s)))] rfl ⟨⟨by omega, by omega⟩, ⟨by omega, by omega⟩, pm_in_mk (by omega) (by omega), pm_in_mk (by omega) (by omega), ⟨by omega, by omega⟩, pm_in_mk (by omega) (by omega), trivial⟩ ?_
          refine pm_call hK zmm168 (377, 0, 157, 2) zM157 (0, 0) [(2, 205), (0, μ 227 k), (0, (μ 227 (pm_and k (pm_xor (pm_shl 1 s) ((-1))))) + (μ 226 ((8 * c) + s)))] [(0, k), (2, 227)] rfl rfl rfl rfl ⟨by omega, by rw [zn157]; omega⟩ (zh_lesser hK ⟨by omega, by omega⟩) (fun st2 μc2 hp2 => ?_)
          obtain ⟨rfl, rfl⟩ := hp2
          refine pm_blk hK zmm168 [] 1 136 [(2, 205), (0, w), (0, t), (0, c), (0, k), (0, s)] [] (pm_up μ 227 k (min (μ 227 k) ((μ 227 (pm_and k (pm_xor (pm_shl 1 s) ((-1))))) + (μ 226 ((8 * c) + s))))) [sx_bit Wm 227 = true, 0 ≤ k ∧ k < 256] rfl ⟨hb227, ⟨by omega, by omega⟩, trivial⟩ ?_
          obtain ⟨μ1, eμ1⟩ : ∃ μ', μ' = pm_up μ 227 k (min (μ 227 k) ((μ 227 (pm_and k (pm_xor (pm_shl 1 s) ((-1))))) + (μ 226 ((8 * c) + s)))) := ⟨_, rfl⟩
          rw [← eμ1]
          have hTμ1 : zTJ μ1 := by rw [eμ1]; exact zT_up hT zs227_0 rfl (i := k) (by omega) (by omega) (by omega) (by omega)
          refine pm_blk hK zmm168 [] 2 64 [(2, 205), (0, w), (0, t), (0, c), (0, k), (0, s + 1)] [] μ1 [pm_in (s + 1)] rfl ⟨pm_in_mk (by omega) (by omega), trivial⟩ ?_
          first
            | (refine ih _ (by omega) rfl ⟨by omega, by omega⟩ (fun j j0 j1 j2 => ?_) (fun j j0 j1 => ?_) (fun q => ?_) (fun r hr => by rw [eμ1, pm_up_row hr]; exact hfr r hr) hTμ1
               · rw [eμ1, pm_up_ne (by omega)]; exact hA j j0 j1 j2
               · rw [eμ1, pm_up_ne (by omega)]; exact hB j j0 j1
               · rw [eμ1, pm_up_eq, show ((s + 1).toNat) = s.toNat + 1 by omega]
                 have hy := hB (zcl k.toNat s.toNat) hlt (zcl_sub hsub)
                 rw [← hx2] at hy
                 rw [← hcs]
                 exact zGp_step (hC hsub) hbit hy (by rw [hcs]; omega))
            | exact ih _ (by omega) rfl ⟨by omega, by omega⟩ hA hB (fun q => by rw [show (s + 1).toNat = s.toNat + 1 by omega]; first | exact zGp_skip (hC q) (Bool.eq_false_iff.mpr h2) | exact absurd (hx1.mpr q) h2) hfr hTμ1
set_option maxRecDepth 100000 in
theorem zl_ch3 (hK : zKK ST) {X : Nat → List pm_V → List pm_V → pm_Mem → Prop} {μ0 : pm_Mem} {w t c : Int} (hw : 0 ≤ w ∧ w ≤ 255) (ht : 0 ≤ t ∧ t ≤ 262143) (hc : 0 ≤ c ∧ c ≤ 17) (hb227 : sx_bit Wm 227 = true) (K : ∀ (k : Int) (μ : pm_Mem), (∀ j : Nat, j < 256 → j &&& w.toNat = j → zGv (zcost μ0) (ztk t) (c.toNat + 1) j (μ 227 j)) → (∀ r, r ≠ 227 → μ r = μ0 r) → zTJ μ → zW D Wm ST b0 l Sg zM168 bud X 148 [(2, 205), (0, w), (0, t), (0, c), (0, k), (9, 0)] [] μ) (hbd : 1 ≤ bud.1 ∧ 22 ≤ bud.2.1) : ∀ (n : Nat) {k : Int} {μ : pm_Mem}, k.toNat = n → ∀ (hk : 0 ≤ k ∧ k ≤ 255) (hA : ∀ j : Nat, j < 256 → k.toNat < j → j &&& w.toNat = j → zGv (zcost μ0) (ztk t) (c.toNat + 1) j (μ 227 j)) (hB : ∀ j : Nat, j ≤ k.toNat → j &&& w.toNat = j → zGv (zcost μ0) (ztk t) c.toNat j (μ 227 j)) (hfr : ∀ r, r ≠ 227 → μ r = μ0 r) (hT : zTJ μ), zW D Wm ST b0 l Sg zM168 bud X 47 [(2, 205), (0, w), (0, t), (0, c), (0, k), (9, 0)] [] μ := by
  intro n
  induction n using Nat.strongRecOn with
  | ind n ih =>
    intro k μ hn hk hA hB hfr hT
    refine pm_blk hK zmm168 [] 1 49 [(2, 205), (0, w), (0, t), (0, c), (0, k), (9, 0)] [(0, k)] μ [] rfl trivial ?_
    refine pm_if hK zmm168 .le 99 148 rfl rfl (fun h0 => ?_) (fun h0 => ?_)
    · have h0 : k ≤ (0 : Int) := h0
      refine K k _ (fun j j0 j1 => ?_) hfr hT
      by_cases hj : k.toNat < j
      · exact hA j j0 hj j1
      · have hz := hB j (by omega) j1
        first
          | exact zGv_T hz h0
          | (obtain rfl : j = 0 := by omega
             exact zGv_0 hz)
    · have h0 : (0 : Int) < k := h0
      refine pm_blk hK zmm168 [] 3 55 [(2, 205), (0, w), (0, t), (0, c), (0, k), (9, 0)] [(0, c), (0, t), (2, 205)] μ [] rfl trivial ?_
      refine pm_call hK zmm168 (417, 0, 169, 2) zM169 (0, 0) [(2, 205), (0, t), (0, c)] [] rfl rfl rfl rfl ⟨by omega, by rw [zn169]; omega⟩ (zh_has hK ⟨by omega, by omega⟩ ⟨by omega, by omega⟩ ⟨Nat.le_refl _, Nat.le_refl _⟩) (fun st1 μc1 hp1 => ?_)
      obtain ⟨rfl, rfl⟩ := hp1
      refine pm_if hK zmm168 .ne 90 148 rfl rfl (fun h1 => ?_) (fun h1 => ?_)
      · have h1 : (if t.toNat.testBit c.toNat = true then 1 else 0 : Int) ≠ (0 : Int) := h1
        have h1 := zif1 h1
        refine K k _ (fun j j0 j1 => ?_) hfr hT
        by_cases hj : k.toNat < j
        · exact hA j j0 hj j1
        · have hz := hB j (by omega) j1
          first
            | exact zGv_T hz h1
            | (obtain rfl : j = 0 := by omega
               exact zGv_0 hz)
      · have h1 : (if t.toNat.testBit c.toNat = true then 1 else 0 : Int) = (0 : Int) := h1
        have h1 := zif0 h1
        refine pm_blk hK zmm168 [] 2 64 [(2, 205), (0, w), (0, t), (0, c), (0, k), (0, 0)] [] μ [] rfl trivial ?_
        have hTn : ztk t c.toNat = false := Bool.eq_false_iff.mpr h1
        refine zl_ch4 hK hw ht hc ⟨by omega, by omega⟩ hTn hb227 (fun s μ2 hA2 hB2 hfr2 hT2 => ?_) hbd _ rfl ⟨by omega, by omega⟩ hA (fun j j0 j1 => hB j (by omega) j1) (fun q => ?_) hfr hT
        · refine pm_blk hK zmm168 [] 2 47 [(2, 205), (0, w), (0, t), (0, c), (0, k + (-1)), (0, s)] [] μ2 [pm_in (k + (-1))] rfl ⟨pm_in_mk (by omega) (by omega), trivial⟩ ?_
          refine pm_hide [5] ?_
          exact ih _ (by omega) rfl ⟨by omega, by omega⟩ (fun j j0 j1 j2 => hA2 j j0 (by omega) j2) (fun j j0 j1 => hB2 j (by omega) j1) hfr2 hT2
        · have hz := hB k.toNat (Nat.le_refl _) q
          rw [show ((k.toNat : Nat) : Int) = k by omega] at hz
          exact zGp_0 hz
set_option maxRecDepth 100000 in
theorem zl_ch2 (hK : zKK ST)  {μ0 : pm_Mem} {w t : Int} (hw : 0 ≤ w ∧ w ≤ 255) (hww : w.toNat &&& w.toNat = w.toNat) (ht : 0 ≤ t ∧ t ≤ 262143) (hb227 : sx_bit Wm 227 = true) (hbd : 1 ≤ bud.1 ∧ 22 ≤ bud.2.1) : ∀ (n : Nat) {c : Int} {μ : pm_Mem}, (18 - c).toNat = n → ∀ (hc : 0 ≤ c ∧ c ≤ μ0 205 7) (hG : ∀ j : Nat, j < 256 → j &&& w.toNat = j → zGv (zcost μ0) (ztk t) c.toNat j (μ 227 j)) (hfr : ∀ r, r ≠ 227 → μ r = μ0 r) (hT : zTJ μ), zW D Wm ST b0 l Sg zM168 bud (pm_X zM168 (fun st' μ' => ∃ x, st' = [(0, x)] ∧ 0 ≤ x ∧ x ≤ 100000000 ∧ zGv (zcost μ0) (ztk t) (μ0 205 7).toNat w.toNat x ∧ (∀ r, r ≠ 227 → μ' r = μ0 r) ∧ zTJ μ')) 34 [(2, 205), (0, w), (0, t), (0, c), (9, 0), (9, 0)] [] μ := by
  intro n
  induction n using Nat.strongRecOn with
  | ind n ih =>
    intro c μ hn hc hG hfr hT
    have he7 : μ 205 7 = μ0 205 7 := by rw [hfr 205 (by decide)]
    have f1 := zT_get hT zs205_7 (i := 7) (by omega) (by omega)
    refine pm_blk hK zmm168 [] 3 39 [(2, 205), (0, w), (0, t), (0, c), (9, 0), (9, 0)] [(0, μ 205 7), (0, c)] μ [] rfl trivial ?_
    refine pm_icmp hK zmm168 .ge 115 154 rfl rfl (fun h0 => ?_) (fun h0 => ?_)
    · have h0 : μ 205 7 ≤ c := h0
      have f2 := zT_get hT zs227_0 (i := w) (by omega) (by omega)
      refine pm_blk hK zmm168 [] 6 164 [(2, 205), (0, w), (0, t), (0, c), (9, 0), (9, 0)] [(0, μ 227 w), (0, 100000000), (2, 205)] μ [0 ≤ w ∧ w < 256] rfl ⟨⟨by omega, by omega⟩, trivial⟩ ?_
      refine pm_call hK zmm168 (377, 0, 157, 2) zM157 (0, 0) [(2, 205), (0, 100000000), (0, μ 227 w)] [] rfl rfl rfl rfl ⟨by omega, by rw [zn157]; omega⟩ (zh_lesser hK ⟨by omega, by omega⟩) (fun st1 μc1 hp1 => ?_)
      obtain ⟨rfl, rfl⟩ := hp1
      have hz := hG w.toNat (by omega) hww
      rw [show ((w.toNat : Nat) : Int) = w by omega, show c.toNat = (μ0 205 7).toNat by omega] at hz
      have hmin : min 100000000 (μ 227 w) = μ 227 w := by omega
      rw [hmin]
      exact pm_iret rfl rfl ⟨_, rfl, by omega, by omega, hz, hfr, hT⟩
    · have h0 : c < μ 205 7 := h0
      refine pm_blk hK zmm168 [] 2 47 [(2, 205), (0, w), (0, t), (0, c), (0, 255), (9, 0)] [] μ [] rfl trivial ?_
      refine zl_ch3 hK hw ht ⟨by omega, by omega⟩ hb227 (fun k μ2 hG2 hfr2 hT2 => ?_) hbd _ rfl ⟨by omega, by omega⟩ (fun j j0 j1 => absurd j1 (by show ¬ 255 < j; omega)) (fun j j0 j1 => hG j (by have j0 : j ≤ 255 := j0; omega) j1) hfr hT
      refine pm_blk hK zmm168 [] 2 34 [(2, 205), (0, w), (0, t), (0, c + 1), (0, k), (9, 0)] [] μ2 [pm_in (c + 1)] rfl ⟨pm_in_mk (by omega) (by omega), trivial⟩ ?_
      refine pm_hide [4] ?_
      exact ih _ (by omega) rfl ⟨by omega, by omega⟩ (by rw [show (c + 1).toNat = c.toNat + 1 by omega]; exact hG2) hfr2 hT2
set_option maxRecDepth 100000 in
theorem zh_cheapest (hK : zKK ST) {w t : Int} (hw : 0 ≤ w ∧ w ≤ 255) (ht : 0 ≤ t ∧ t ≤ 262143) (hT : zTJ μ) (hb227 : sx_bit Wm 227 = true) (hbd : 1 ≤ bud.1 ∧ 22 ≤ bud.2.1) : zC D Wm ST b0 l Sg zM168 bud [(2, 205), (0, w), (0, t)] μ (fun st' μ' => ∃ x, st' = [(0, x)] ∧ 0 ≤ x ∧ x ≤ 100000000 ∧ zGv (zcost μ) (ztk t) (μ 205 7).toNat w.toNat x ∧ (∀ r, r ≠ 227 → μ' r = μ r) ∧ zTJ μ') := by
  refine pm_blk hK zmm168 [] 2 2 [(2, 205), (0, w), (0, t), (0, 0), (9, 0), (9, 0)] [] μ [] rfl trivial ?_
  refine zl_ch1 hK (μ0 := μ) hb227 (fun k μ2 hz hfr hT2 => ?_) ⟨by omega, by omega⟩ _ rfl ⟨by omega, by omega⟩ (fun j j0 j1 => absurd j1 (by omega)) (fun r _ => rfl) hT
  refine pm_blk hK zmm168 [] 2 34 [(2, 205), (0, w), (0, t), (0, 0), (9, 0), (9, 0)] [] μ2 [] rfl trivial ?_
  have f7 := zT_get hT zs205_7 (i := 7) (by omega) (by omega)
  refine zl_ch2 hK (μ0 := μ) hw (Nat.and_self _) ht hb227 hbd _ rfl ⟨by omega, by omega⟩ (fun j j0 j1 => ?_) hfr hT2
  rw [hz j (by omega) (by omega)]
  refine ⟨fun v hv => ?_, fun hx => ?_⟩
  · obtain ⟨q1, q2⟩ : j = 0 ∧ v = 0 := hv
    subst q1; subst q2
    rw [if_pos (by rfl)]; omega
  · show j = 0 ∧ _
    by_cases hj : j = 0
    · subst hj
      exact ⟨rfl, if_pos rfl⟩
    · rw [if_neg (by omega)] at hx; omega
end ZHW
