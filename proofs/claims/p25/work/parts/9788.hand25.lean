/-! lamps, both sides; walks printed by program (wip/p30/pmgen.py) and filled by hand -/
section ZHW
variable {D : va_G} {Wm : Nat} {ST : List (String × String × String × Nat)} {b0 : sx_B} {l : Launch} {Sg : Nat → Option Nat} {bud : sx_Bu} {μ : pm_Mem} {B0 : Nat → Prop} {J : (Nat → Option Nat) → Heap → Prop}
set_option maxRecDepth 100000 in
theorem zl_bn2 (hK : zKK ST) {X : Nat → List pm_V → List pm_V → pm_Mem → Prop} (hb203 : sx_bit Wm 203 = true) {u w j i : Int} (hu : 1 ≤ u ∧ u ≤ 500) (hi : 1 ≤ i ∧ i ≤ 500) (K : ∀ (μ : pm_Mem), zwM μ u i → zTJ μ → zW D Wm ST b0 l Sg zM90 bud X 61 [(2, 202), (0, u), (0, w), (0, j), (2, 203), (0, i), (9, 0)] [] μ) (hbd : 1 ≤ bud.1 ∧ 23 ≤ bud.2.1) : ∀ (n : Nat) {p : Int} {μ : pm_Mem}, (u + 1 - p).toNat = n → ∀ (hp : i ≤ p ∧ p ≤ u + i) (hpi : p % i = 0) (hI : zwL μ u i p) (hT : zTJ μ), zW D Wm ST b0 l Sg zM90 bud X 25 [(2, 202), (0, u), (0, w), (0, j), (2, 203), (0, i), (0, p)] [] μ := by
  intro n
  induction n using Nat.strongRecOn with
  | ind n ih =>
    intro p μ hn hp hpi hI hT
    refine pm_blk hK zmm90 [] 2 28 [(2, 202), (0, u), (0, w), (0, j), (2, 203), (0, i), (0, p)] [(0, u), (0, p)] μ [] rfl trivial ?_
    refine pm_icmp hK zmm90 .gt 33 61 rfl rfl (fun h0 => ?_) (fun h0 => ?_)
    · have h0 : u < p := h0
      refine pm_hide [6] ?_
      exact K _ (zwL_end hI (by omega)) hT
    · have h0 : p ≤ u := h0
      refine pm_blk hK zmm90 [] 3 36 [(2, 202), (0, u), (0, w), (0, j), (2, 203), (0, i), (0, p)] [(0, 501), (0, p)] μ [] rfl trivial ?_
      refine pm_icmp hK zmm90 .ge 25 61 rfl rfl (fun h1 => ?_) (fun h1 => ?_)
      · have h1 : (501 : Int) ≤ p := h1
        refine pm_hide [6] ?_
        exact K _ (zwL_end hI (by omega)) hT
      · have h1 : p < (501 : Int) := h1
        have f1 := zT_get hT zs203_0 (i := p) (by omega) (by omega)
        refine pm_blk hK zmm90 [] 6 49 [(2, 202), (0, u), (0, w), (0, j), (2, 203), (0, i), (0, p)] [(0, μ 203 p), (0, 1), (0, p), (2, 203)] μ [0 ≤ p ∧ p < 501] rfl ⟨⟨by omega, by omega⟩, trivial⟩ ?_
        have r1 := zwL_get hI (x := p) (by omega) (by omega) (by omega)
        have q1 := zpr_bd p (i - 1)
        refine pm_blk hK zmm90 [] 2 51 [(2, 202), (0, u), (0, w), (0, j), (2, 203), (0, i), (0, p)] [] (pm_up μ 203 p (1 - (μ 203 p))) [pm_in (1 - (μ 203 p)), sx_bit Wm 203 = true, 0 ≤ p ∧ p < 501] rfl ⟨pm_in_mk (by omega) (by omega), hb203, ⟨by omega, by omega⟩, trivial⟩ ?_
        obtain ⟨μ1, eμ1⟩ : ∃ μ', μ' = pm_up μ 203 p (1 - (μ 203 p)) := ⟨_, rfl⟩
        rw [← eμ1]
        have hTμ1 : zTJ μ1 := by rw [eμ1]; exact zT_up hT zs203_0 rfl (i := p) (by omega) (by omega) (by omega) (by omega)
        refine pm_blk hK zmm90 [] 5 25 [(2, 202), (0, u), (0, w), (0, j), (2, 203), (0, i), (0, p + i)] [] μ1 [pm_in (p + i)] rfl ⟨pm_in_mk (by omega) (by omega), trivial⟩ ?_
        refine ih _ (by omega) rfl ⟨by omega, by omega⟩ (zmodadd hpi) ?_ hTμ1
        rw [eμ1]
        exact zwL_up hI hi.1 hpi (by omega)
set_option maxRecDepth 100000 in
theorem zl_bn3 (hK : zKK ST)  {u w j T : Int} (hu : 1 ≤ u ∧ u ≤ 500) (hTT : zsm w u = T) (hbd : 1 ≤ bud.1 ∧ 23 ≤ bud.2.1) : ∀ (n : Nat) {z p : Int} {μ : pm_Mem}, (u + 1 - p).toNat = n → ∀ (hp : 1 ≤ p ∧ p ≤ u + 1) (hz : z = zsm w (p - 1)) (hM : zwM μ u w) (hT : zTJ μ), zW D Wm ST b0 l Sg zM90 bud (pm_X zM90 (fun st' μ' => zTJ μ' ∧ st' = [(0, T)])) 98 [(2, 202), (0, u), (0, w), (0, j), (2, 203), (0, z), (0, p)] [] μ := by
  intro n
  induction n using Nat.strongRecOn with
  | ind n ih =>
    intro z p μ hn hp hz hM hT
    have zb := zsm_bd (w := w) (p := p - 1) (by omega)
    refine pm_blk hK zmm90 [] 2 101 [(2, 202), (0, u), (0, w), (0, j), (2, 203), (0, z), (0, p)] [(0, u), (0, p)] μ [] rfl trivial ?_
    refine pm_icmp hK zmm90 .gt 27 128 rfl rfl (fun h0 => ?_) (fun h0 => ?_)
    · have h0 : u < p := h0
      refine pm_blk hK zmm90 [] 1 130 [(2, 202), (0, u), (0, w), (0, j), (2, 203), (0, z), (0, p)] [(0, z)] μ [] rfl trivial ?_
      have ep : p - 1 = u := by omega
      exact pm_iret rfl rfl ⟨hT, by rw [hz, ep, hTT]⟩
    · have h0 : p ≤ u := h0
      refine pm_blk hK zmm90 [] 3 109 [(2, 202), (0, u), (0, w), (0, j), (2, 203), (0, z), (0, p)] [(0, 501), (0, p)] μ [] rfl trivial ?_
      refine pm_icmp hK zmm90 .ge 19 128 rfl rfl (fun h1 => ?_) (fun h1 => ?_)
      · have h1 : (501 : Int) ≤ p := h1
        refine pm_blk hK zmm90 [] 1 130 [(2, 202), (0, u), (0, w), (0, j), (2, 203), (0, z), (0, p)] [(0, z)] μ [] rfl trivial ?_
        have ep : p - 1 = u := by omega
        exact pm_iret rfl rfl ⟨hT, by rw [hz, ep, hTT]⟩
      · have h1 : p < (501 : Int) := h1
        have f1 := zT_get hT zs203_0 (i := p) (by omega) (by omega)
        refine pm_blk hK zmm90 [] 4 119 [(2, 202), (0, u), (0, w), (0, j), (2, 203), (0, z), (0, p)] [(0, μ 203 p), (0, z)] μ [0 ≤ p ∧ p < 501] rfl ⟨⟨by omega, by omega⟩, trivial⟩ ?_
        have r1 := zwM_get hM (x := p) (by omega) (by omega)
        have q1 := zpr_bd p w
        refine pm_blk hK zmm90 [] 4 98 [(2, 202), (0, u), (0, w), (0, j), (2, 203), (0, z + (μ 203 p)), (0, p + 1)] [] μ [pm_in (z + (μ 203 p)), pm_in (p + 1)] rfl ⟨pm_in_mk (by omega) (by omega), pm_in_mk (by omega) (by omega), trivial⟩ ?_
        refine ih _ (by omega) rfl ⟨by omega, by omega⟩ ?_ hM hT
        rw [show p + 1 - 1 = p by omega, zsm_p hp.1]
        omega
set_option maxRecDepth 100000 in
theorem zl_bn1 (hK : zKK ST)  (hb203 : sx_bit Wm 203 = true) {u w j : Int} (hu : 1 ≤ u ∧ u ≤ 500) (hw : 0 ≤ w ∧ w ≤ 500) (hj : j ≠ -1 → 1 ≤ j ∧ j ≤ u) (hbd : 1 ≤ bud.1 ∧ 23 ≤ bud.2.1) : ∀ (n : Nat) {i : Int} {μ : pm_Mem}, (w + 1 - i).toNat = n → ∀ (hi : 1 ≤ i ∧ i ≤ w + 1) (hM : zwM μ u (i - 1)) (hT : zTJ μ), zW D Wm ST b0 l Sg zM90 bud (pm_X zM90 (fun st' μ' => zTJ μ' ∧ st' = [(0, zlb u w j)])) 15 [(2, 202), (0, u), (0, w), (0, j), (2, 203), (0, i), (9, 0)] [] μ := by
  intro n
  induction n using Nat.strongRecOn with
  | ind n ih =>
    intro i μ hn hi hM hT
    refine pm_blk hK zmm90 [] 2 18 [(2, 202), (0, u), (0, w), (0, j), (2, 203), (0, i), (9, 0)] [(0, w), (0, i)] μ [] rfl trivial ?_
    refine pm_icmp hK zmm90 .gt 49 67 rfl rfl (fun h0 => ?_) (fun h0 => ?_)
    · have h0 : w < i := h0
      have hM2 := zwM_eq (i' := w) hM (by omega)
      refine pm_blk hK zmm90 [] 2 69 [(2, 202), (0, u), (0, w), (0, j), (2, 203), (0, i), (9, 0)] [(0, (-1)), (0, j)] μ [] rfl trivial ?_
      refine pm_icmp hK zmm90 .eq 23 92 rfl rfl (fun h1 => ?_) (fun h1 => ?_)
      · have h1 : j = ((-1) : Int) := h1
        refine pm_blk hK zmm90 [] 4 98 [(2, 202), (0, u), (0, w), (0, j), (2, 203), (0, 0), (0, 1)] [] μ [] rfl trivial ?_
        exact zl_bn3 hK hu (zlb_a (by omega)).symm hbd _ (z := 0) (p := 1) rfl ⟨by omega, by omega⟩ rfl hM2 hT
      · have h1 : j ≠ ((-1) : Int) := h1
        refine pm_blk hK zmm90 [] 3 77 [(2, 202), (0, u), (0, w), (0, j), (2, 203), (0, i), (9, 0)] [(0, 500), (0, 1), (0, j)] μ [] rfl trivial ?_
        refine pm_call hK zmm90 (33, 1, 16, 3) zM16 (0, 0) [(0, j), (0, 1), (0, 500)] [] rfl rfl rfl rfl ⟨by omega, by rw [zn16]; omega⟩ (zh_within hK ⟨Nat.le_refl _, Nat.le_refl _⟩) (fun st1 μc1 hp1 => ?_)
        obtain ⟨rfl, rfl⟩ := hp1
        refine pm_if hK zmm90 .eq 10 90 rfl rfl (fun h2 => ?_) (fun h2 => ?_)
        · have h2 : (if 1 ≤ j ∧ j ≤ 500 then 1 else 0 : Int) = (0 : Int) := h2
          have h2 := zif0 h2
          refine pm_blk hK zmm90 [] 1 91 [(2, 202), (0, u), (0, w), (0, j), (2, 203), (0, i), (9, 0)] [(0, (-1))] μ [] rfl trivial ?_
          have hj2 := hj (by omega)
          first
          | (exfalso; omega)
          | exact pm_iret rfl rfl ⟨hT, by rw [show ((-1)) = zlb u w j by rw [zlb_j (by omega)]; exact zwM_get hM2 hj2.1 hj2.2]⟩
        · have h2 : (if 1 ≤ j ∧ j ≤ 500 then 1 else 0 : Int) ≠ (0 : Int) := h2
          have h2 := zif1 h2
          have f1 := zT_get hT zs203_0 (i := j) (by omega) (by omega)
          refine pm_blk hK zmm90 [] 4 91 [(2, 202), (0, u), (0, w), (0, j), (2, 203), (0, i), (9, 0)] [(0, μ 203 j)] μ [0 ≤ j ∧ j < 501] rfl ⟨⟨by omega, by omega⟩, trivial⟩ ?_
          have hj2 := hj (by omega)
          first
          | (exfalso; omega)
          | exact pm_iret rfl rfl ⟨hT, by rw [show (μ 203 j) = zlb u w j by rw [zlb_j (by omega)]; exact zwM_get hM2 hj2.1 hj2.2]⟩
    · have h0 : i ≤ w := h0
      refine pm_blk hK zmm90 [] 2 25 [(2, 202), (0, u), (0, w), (0, j), (2, 203), (0, i), (0, i)] [] μ [] rfl trivial ?_
      refine zl_bn2 hK hb203 (u := u) (w := w) (j := j) (i := i) hu ⟨by omega, by omega⟩ (fun μ hM hT => ?_) hbd _ (p := i) rfl ⟨by omega, by omega⟩ Int.emod_self (zwL_0 hi.1 hM) hT
      refine pm_blk hK zmm90 [] 2 15 [(2, 202), (0, u), (0, w), (0, j), (2, 203), (0, i + 1), (9, 0)] [] μ [pm_in (i + 1)] rfl ⟨pm_in_mk (by omega) (by omega), trivial⟩ ?_
      exact ih _ (by omega) rfl ⟨by omega, by omega⟩ (zwM_eq hM (by omega)) hT
set_option maxRecDepth 100000 in
theorem zh_burning (hK : zKK ST) {u w j : Int} (hu : 1 ≤ u ∧ u ≤ 500) (hw : 0 ≤ w ∧ w ≤ 500) (hj : j ≠ -1 → 1 ≤ j ∧ j ≤ u) (hj2 : pm_in j) (hT : zTJ μ) (hb203 : sx_bit Wm 203 = true) (hbd : 1 ≤ bud.1 ∧ 23 ≤ bud.2.1) : zC D Wm ST b0 l Sg zM90 bud [(2, 202), (0, u), (0, w), (0, j)] μ (fun st' μ' => zTJ μ' ∧ st' = [(0, zlb u w j)]) := by
  refine pm_blk hK zmm90 [] 5 9 [(2, 202), (0, u), (0, w), (0, j), (2, 203), (9, 0), (9, 0)] [(0, 0), (2, 203)] μ [] rfl trivial ?_
  refine pm_call hK zmm90 (18, 1, 77, 2) zM77 (0, 0) [(2, 203), (0, 0)] [] rfl rfl rfl rfl ⟨by omega, by rw [zn77]; omega⟩ (zh_fil0 hK hT hb203 ⟨Nat.le_refl _, Nat.le_refl _⟩) (fun st1 μc1 hp1 => ?_)
  obtain ⟨rfl, hTc1, hz1⟩ := hp1
  refine pm_blk hK zmm90 [] 2 15 [(2, 202), (0, u), (0, w), (0, j), (2, 203), (0, 1), (9, 0)] [] μc1 [] rfl trivial ?_
  exact zl_bn1 hK hb203 hu hw hj hbd _ (i := 1) rfl ⟨by omega, by omega⟩ (zwM_0 hu.2 hz1) hTc1
set_option maxRecDepth 100000 in
theorem zh_lampsx (hK : zKK ST) {u w j : Int} (hj : pm_in j) (hT : zTJ μ) (hb203 : sx_bit Wm 203 = true) (hbd : 2 ≤ bud.1 ∧ 49 ≤ bud.2.1) : zC D Wm ST b0 l Sg zM89 bud [(2, 1), (0, u), (0, w), (0, j)] μ (fun st' μ' => zTJ μ' ∧ st' = [(0, zlz u w j)]) := by
  refine pm_blk hK zmm89 [] 3 5 [(2, 1), (0, u), (0, w), (0, j)] [(0, 500), (0, 1), (0, u)] μ [] rfl trivial ?_
  refine pm_call hK zmm89 (94, 1, 16, 3) zM16 (0, 0) [(0, u), (0, 1), (0, 500)] [] rfl rfl rfl rfl ⟨by omega, by rw [zn16]; omega⟩ (zh_within hK ⟨Nat.le_refl _, Nat.le_refl _⟩) (fun st1 μc1 hp1 => ?_)
  obtain ⟨rfl, rfl⟩ := hp1
  refine pm_if hK zmm89 .eq 14 22 rfl rfl (fun h0 => ?_) (fun h0 => ?_)
  · have h0 : (if 1 ≤ u ∧ u ≤ 500 then 1 else 0 : Int) = (0 : Int) := h0
    have h0 := zif0 h0
    refine pm_blk hK zmm89 [] 1 23 [(2, 1), (0, u), (0, w), (0, j)] [(0, (-1))] μ [] rfl trivial ?_
    first
    | exact pm_iret rfl rfl ⟨hT, by rw [zlz_u (by omega)]⟩
    | exact pm_iret rfl rfl ⟨hT, by rw [zlz_w (by omega)]⟩
    | exact pm_iret rfl rfl ⟨hT, by rw [zlz_j (by omega) (by omega)]⟩
    | exact pm_iret rfl rfl ⟨hT, by rw [zlz_in ⟨by omega, by omega⟩ ⟨by omega, by omega⟩ (by omega)]⟩
  · have h0 : (if 1 ≤ u ∧ u ≤ 500 then 1 else 0 : Int) ≠ (0 : Int) := h0
    have h0 := zif1 h0
    refine pm_blk hK zmm89 [] 3 16 [(2, 1), (0, u), (0, w), (0, j)] [(0, 500), (0, 0), (0, w)] μ [] rfl trivial ?_
    refine pm_call hK zmm89 (94, 1, 16, 3) zM16 (0, 0) [(0, w), (0, 0), (0, 500)] [] rfl rfl rfl rfl ⟨by omega, by rw [zn16]; omega⟩ (zh_within hK ⟨Nat.le_refl _, Nat.le_refl _⟩) (fun st2 μc2 hp2 => ?_)
    obtain ⟨rfl, rfl⟩ := hp2
    refine pm_if hK zmm89 .ne 5 24 rfl rfl (fun h1 => ?_) (fun h1 => ?_)
    · have h1 : (if 0 ≤ w ∧ w ≤ 500 then 1 else 0 : Int) ≠ (0 : Int) := h1
      have h1 := zif1 h1
      refine pm_blk hK zmm89 [] 2 26 [(2, 1), (0, u), (0, w), (0, j)] [(0, (-1)), (0, j)] μ [] rfl trivial ?_
      refine pm_icmp hK zmm89 .eq 14 40 rfl rfl (fun h2 => ?_) (fun h2 => ?_)
      · have h2 : j = ((-1) : Int) := h2
        refine pm_blk hK zmm89 [] 5 47 [(2, 1), (0, u), (0, w), (0, j)] [(0, j), (0, w), (0, u), (2, 202)] μ [] rfl trivial ?_
        refine pm_call hK zmm89 (341, 0, 90, 3) zM90 (1, 23) [(2, 202), (0, u), (0, w), (0, j)] [] rfl rfl rfl rfl ⟨by omega, by rw [zn90]; omega⟩ (zh_burning hK (u := u) (w := w) (j := j) ⟨by omega, by omega⟩ ⟨by omega, by omega⟩ (fun _ => ⟨by omega, by omega⟩) hj hT hb203 ⟨Nat.le_refl _, Nat.le_refl _⟩) (fun st3 μc3 hp3 => ?_)
        obtain ⟨hTc3, rfl⟩ := hp3
        first
        | exact pm_iret rfl rfl ⟨hTc3, by rw [zlz_u (by omega)]⟩
        | exact pm_iret rfl rfl ⟨hTc3, by rw [zlz_w (by omega)]⟩
        | exact pm_iret rfl rfl ⟨hTc3, by rw [zlz_j (by omega) (by omega)]⟩
        | exact pm_iret rfl rfl ⟨hTc3, by rw [zlz_in ⟨by omega, by omega⟩ ⟨by omega, by omega⟩ (by omega)]⟩
      · have h2 : j ≠ ((-1) : Int) := h2
        refine pm_blk hK zmm89 [] 3 32 [(2, 1), (0, u), (0, w), (0, j)] [(0, u), (0, 1), (0, j)] μ [] rfl trivial ?_
        refine pm_call hK zmm89 (94, 1, 16, 3) zM16 (0, 0) [(0, j), (0, 1), (0, u)] [] rfl rfl rfl rfl ⟨by omega, by rw [zn16]; omega⟩ (zh_within hK ⟨Nat.le_refl _, Nat.le_refl _⟩) (fun st4 μc4 hp4 => ?_)
        obtain ⟨rfl, rfl⟩ := hp4
        refine pm_if hK zmm89 .ne 5 40 rfl rfl (fun h3 => ?_) (fun h3 => ?_)
        · have h3 : (if 1 ≤ j ∧ j ≤ u then 1 else 0 : Int) ≠ (0 : Int) := h3
          have h3 := zif1 h3
          refine pm_blk hK zmm89 [] 5 47 [(2, 1), (0, u), (0, w), (0, j)] [(0, j), (0, w), (0, u), (2, 202)] μ [] rfl trivial ?_
          refine pm_call hK zmm89 (341, 0, 90, 3) zM90 (1, 23) [(2, 202), (0, u), (0, w), (0, j)] [] rfl rfl rfl rfl ⟨by omega, by rw [zn90]; omega⟩ (zh_burning hK (u := u) (w := w) (j := j) ⟨by omega, by omega⟩ ⟨by omega, by omega⟩ (fun _ => ⟨by omega, by omega⟩) hj hT hb203 ⟨Nat.le_refl _, Nat.le_refl _⟩) (fun st5 μc5 hp5 => ?_)
          obtain ⟨hTc5, rfl⟩ := hp5
          first
          | exact pm_iret rfl rfl ⟨hTc5, by rw [zlz_u (by omega)]⟩
          | exact pm_iret rfl rfl ⟨hTc5, by rw [zlz_w (by omega)]⟩
          | exact pm_iret rfl rfl ⟨hTc5, by rw [zlz_j (by omega) (by omega)]⟩
          | exact pm_iret rfl rfl ⟨hTc5, by rw [zlz_in ⟨by omega, by omega⟩ ⟨by omega, by omega⟩ (by omega)]⟩
        · have h3 : (if 1 ≤ j ∧ j ≤ u then 1 else 0 : Int) = (0 : Int) := h3
          have h3 := zif0 h3
          refine pm_blk hK zmm89 [] 1 39 [(2, 1), (0, u), (0, w), (0, j)] [(0, (-1))] μ [] rfl trivial ?_
          first
          | exact pm_iret rfl rfl ⟨hT, by rw [zlz_u (by omega)]⟩
          | exact pm_iret rfl rfl ⟨hT, by rw [zlz_w (by omega)]⟩
          | exact pm_iret rfl rfl ⟨hT, by rw [zlz_j (by omega) (by omega)]⟩
          | exact pm_iret rfl rfl ⟨hT, by rw [zlz_in ⟨by omega, by omega⟩ ⟨by omega, by omega⟩ (by omega)]⟩
    · have h1 : (if 0 ≤ w ∧ w ≤ 500 then 1 else 0 : Int) = (0 : Int) := h1
      have h1 := zif0 h1
      refine pm_blk hK zmm89 [] 1 23 [(2, 1), (0, u), (0, w), (0, j)] [(0, (-1))] μ [] rfl trivial ?_
      first
      | exact pm_iret rfl rfl ⟨hT, by rw [zlz_u (by omega)]⟩
      | exact pm_iret rfl rfl ⟨hT, by rw [zlz_w (by omega)]⟩
      | exact pm_iret rfl rfl ⟨hT, by rw [zlz_j (by omega) (by omega)]⟩
      | exact pm_iret rfl rfl ⟨hT, by rw [zlz_in ⟨by omega, by omega⟩ ⟨by omega, by omega⟩ (by omega)]⟩
set_option maxRecDepth 100000 in
theorem zl_tu (hK : zKK ST)  {j w : Int} (hj : 1 ≤ j ∧ j ≤ 500) (hw : 0 ≤ w ∧ w ≤ 500) (hbd : 0 ≤ bud.1 ∧ 0 ≤ bud.2.1) : ∀ (n : Nat) {z i : Int} {μ : pm_Mem}, (w + 1 - i).toNat = n → ∀ (hi : 1 ≤ i ∧ i ≤ w + 1) (hz : 0 ≤ z ∧ z ≤ i - 1) (hp : z % 2 = zpr j (i - 1)) (hT : zTJ μ), zW D Wm ST b0 l Sg zM185 bud (pm_X zM185 (fun st' μ' => zTJ μ' ∧ ∃ z, st' = [(0, z)] ∧ (0 ≤ z ∧ z ≤ 500) ∧ z % 2 = zpr j w)) 5 [(2, 205), (0, j), (0, w), (0, z), (0, i)] [] μ := by
  intro n
  induction n using Nat.strongRecOn with
  | ind n ih =>
    intro z i μ hn hi hz hp hT
    refine pm_blk hK zmm185 [] 2 8 [(2, 205), (0, j), (0, w), (0, z), (0, i)] [(0, w), (0, i)] μ [] rfl trivial ?_
    refine pm_icmp hK zmm185 .gt 20 28 rfl rfl (fun h0 => ?_) (fun h0 => ?_)
    · have h0 : w < i := h0
      refine pm_blk hK zmm185 [] 1 29 [(2, 205), (0, j), (0, w), (0, z), (0, i)] [(0, z)] μ [] rfl trivial ?_
      have ei : i - 1 = w := by omega
      rw [ei] at hp
      exact pm_iret rfl rfl ⟨hT, _, rfl, ⟨by omega, by omega⟩, hp⟩
    · have h0 : i ≤ w := h0
      have jm : Int.tmod j i = j % i := Int.tmod_eq_emod_of_nonneg (by omega)
      refine pm_blk hK zmm185 [] 3 15 [(2, 205), (0, j), (0, w), (0, z), (0, i)] [(0, Int.tmod j i)] μ [i ≠ 0] rfl ⟨by omega, trivial⟩ ?_
      refine pm_if hK zmm185 .ne 7 22 rfl rfl (fun h1 => ?_) (fun h1 => ?_)
      · have h1 : Int.tmod j i ≠ (0 : Int) := h1
        refine pm_blk hK zmm185 [] 2 5 [(2, 205), (0, j), (0, w), (0, z), (0, i + 1)] [] μ [pm_in (i + 1)] rfl ⟨pm_in_mk (by omega) (by omega), trivial⟩ ?_
        first
        | (refine ih _ (by omega) rfl ⟨by omega, by omega⟩ ⟨by omega, by omega⟩ ?_ hT; have e1 := zpr_y (x := j) (i := i) hi.1 (by omega); rw [show i + 1 - 1 = i by omega, e1]; omega)
        | (refine ih _ (by omega) rfl ⟨by omega, by omega⟩ ⟨by omega, by omega⟩ ?_ hT; have e1 := zpr_n (x := j) (i := i) hi.1 (by omega); rw [show i + 1 - 1 = i by omega, e1]; exact hp)
      · have h1 : Int.tmod j i = (0 : Int) := h1
        refine pm_blk hK zmm185 [] 6 5 [(2, 205), (0, j), (0, w), (0, z + 1), (0, i + 1)] [] μ [pm_in (z + 1), pm_in (i + 1)] rfl ⟨pm_in_mk (by omega) (by omega), pm_in_mk (by omega) (by omega), trivial⟩ ?_
        first
        | (refine ih _ (by omega) rfl ⟨by omega, by omega⟩ ⟨by omega, by omega⟩ ?_ hT; have e1 := zpr_y (x := j) (i := i) hi.1 (by omega); rw [show i + 1 - 1 = i by omega, e1]; omega)
        | (refine ih _ (by omega) rfl ⟨by omega, by omega⟩ ⟨by omega, by omega⟩ ?_ hT; have e1 := zpr_n (x := j) (i := i) hi.1 (by omega); rw [show i + 1 - 1 = i by omega, e1]; exact hp)
set_option maxRecDepth 100000 in
theorem zh_turnsOf (hK : zKK ST) {j w : Int} (hj : 1 ≤ j ∧ j ≤ 500) (hw : 0 ≤ w ∧ w ≤ 500) (hT : zTJ μ) (hbd : 0 ≤ bud.1 ∧ 0 ≤ bud.2.1) : zC D Wm ST b0 l Sg zM185 bud [(2, 205), (0, j), (0, w)] μ (fun st' μ' => zTJ μ' ∧ ∃ z, st' = [(0, z)] ∧ (0 ≤ z ∧ z ≤ 500) ∧ z % 2 = zpr j w) := by
  refine pm_blk hK zmm185 [] 4 5 [(2, 205), (0, j), (0, w), (0, 0), (0, 1)] [] μ [] rfl trivial ?_
  exact zl_tu hK hj hw hbd _ (z := 0) (i := 1) rfl ⟨by omega, by omega⟩ ⟨by omega, by omega⟩ rfl hT
set_option maxRecDepth 100000 in
theorem zl_lm (hK : zKK ST)  {u w j T : Int} (hu : 1 ≤ u ∧ u ≤ 500) (hw : 0 ≤ w ∧ w ≤ 500) (hTT : zsm w u = T) (hbd : 1 ≤ bud.1 ∧ 24 ≤ bud.2.1) : ∀ (n : Nat) {z p : Int} {μ : pm_Mem}, (u + 1 - p).toNat = n → ∀ (hp : 1 ≤ p ∧ p ≤ u + 1) (hz : z = zsm w (p - 1)) (hT : zTJ μ), zW D Wm ST b0 l Sg zM184 bud (pm_X zM184 (fun st' μ' => zTJ μ' ∧ st' = [(0, T)])) 65 [(2, 205), (0, u), (0, w), (0, j), (0, z), (0, p)] [] μ := by
  intro n
  induction n using Nat.strongRecOn with
  | ind n ih =>
    intro z p μ hn hp hz hT
    have zb := zsm_bd (w := w) (p := p - 1) (by omega)
    refine pm_blk hK zmm184 [] 2 68 [(2, 205), (0, u), (0, w), (0, j), (0, z), (0, p)] [(0, u), (0, p)] μ [] rfl trivial ?_
    refine pm_icmp hK zmm184 .gt 23 91 rfl rfl (fun h0 => ?_) (fun h0 => ?_)
    · have h0 : u < p := h0
      refine pm_blk hK zmm184 [] 1 93 [(2, 205), (0, u), (0, w), (0, j), (0, z), (0, p)] [(0, z)] μ [] rfl trivial ?_
      have ep : p - 1 = u := by omega
      exact pm_iret rfl rfl ⟨hT, by rw [hz, ep, hTT]⟩
    · have h0 : p ≤ u := h0
      refine pm_blk hK zmm184 [] 4 77 [(2, 205), (0, u), (0, w), (0, j), (0, z), (0, p)] [(0, w), (0, p), (2, 205), (0, z)] μ [] rfl trivial ?_
      refine pm_call hK zmm184 (463, 0, 185, 2) zM185 (0, 0) [(2, 205), (0, p), (0, w)] [(0, z)] rfl rfl rfl rfl ⟨by omega, by rw [zn185]; omega⟩ (zh_turnsOf hK (j := p) (w := w) ⟨by omega, by omega⟩ ⟨by omega, by omega⟩ hT ⟨Nat.le_refl _, Nat.le_refl _⟩) (fun st1 μc1 hp1 => ?_)
      obtain ⟨hTc1, x1, rfl, hx1, hy1⟩ := hp1
      have hm1 : Int.tmod x1 2 = x1 % 2 := Int.tmod_eq_emod_of_nonneg hx1.1
      refine pm_blk hK zmm184 [] 6 65 [(2, 205), (0, u), (0, w), (0, j), (0, z + (Int.tmod x1 2)), (0, p + 1)] [] μc1 [2 ≠ 0, pm_in (z + (Int.tmod x1 2)), pm_in (p + 1)] rfl ⟨by omega, pm_in_mk (by omega) (by omega), pm_in_mk (by omega) (by omega), trivial⟩ ?_
      have q1 := zpr_bd p w
      refine ih _ (by omega) rfl ⟨by omega, by omega⟩ ?_ hTc1
      rw [show p + 1 - 1 = p by omega, zsm_p hp.1]
      omega
set_option maxRecDepth 100000 in
theorem zh_lampsm (hK : zKK ST) {u w j : Int} (hj : pm_in j) (hT : zTJ μ) (hb205 : sx_bit Wm 205 = true) (hbd : 1 ≤ bud.1 ∧ 24 ≤ bud.2.1) : zC D Wm ST b0 l Sg zM184 bud [(2, 205), (0, u), (0, w), (0, j)] μ (fun st' μ' => zTJ μ' ∧ st' = [(0, zlz u w j)]) := by
  refine pm_blk hK zmm184 [] 3 5 [(2, 205), (0, u), (0, w), (0, j), (9, 0), (9, 0)] [] (pm_up μ 205 0 0) [sx_bit Wm 205 = true] rfl ⟨hb205, trivial⟩ ?_
  obtain ⟨μ1, eμ1⟩ : ∃ μ', μ' = pm_up μ 205 0 0 := ⟨_, rfl⟩
  rw [← eμ1]
  have hTμ1 : zTJ μ1 := by rw [eμ1]; exact zT_up hT zs205_0 rfl (i := 0) (by omega) (by omega) (by omega) (by omega)
  refine pm_blk hK zmm184 [] 4 11 [(2, 205), (0, u), (0, w), (0, j), (9, 0), (9, 0)] [(0, 500), (0, 1), (0, u), (2, 205)] μ1 [] rfl trivial ?_
  refine pm_call hK zmm184 (158, 0, 129, 3) zM129 (0, 0) [(2, 205), (0, u), (0, 1), (0, 500)] [] rfl rfl rfl rfl ⟨by omega, by rw [zn129]; omega⟩ (zh_isIn hK ⟨by omega, by omega⟩) (fun st1 μc1 hp1 => ?_)
  obtain ⟨rfl, rfl⟩ := hp1
  refine pm_if hK zmm184 .eq 15 29 rfl rfl (fun h0 => ?_) (fun h0 => ?_)
  · have h0 : (if 1 ≤ u ∧ u ≤ 500 then 1 else 0 : Int) = (0 : Int) := h0
    have h0 := zif0 h0
    refine pm_blk hK zmm184 [] 1 30 [(2, 205), (0, u), (0, w), (0, j), (9, 0), (9, 0)] [(0, (-1))] μ1 [] rfl trivial ?_
    first
    | exact pm_iret rfl rfl ⟨hTμ1, by rw [zlz_u (by omega)]⟩
    | exact pm_iret rfl rfl ⟨hTμ1, by rw [zlz_w (by omega)]⟩
    | exact pm_iret rfl rfl ⟨hTμ1, by rw [zlz_j (by omega) (by omega)]⟩
    | exact pm_iret rfl rfl ⟨hTμ1, by rw [zlz_in ⟨by omega, by omega⟩ ⟨by omega, by omega⟩ (Or.inr ⟨by omega, by omega⟩), zlb_j (by omega), hm4, hy4]⟩
  · have h0 : (if 1 ≤ u ∧ u ≤ 500 then 1 else 0 : Int) ≠ (0 : Int) := h0
    have h0 := zif1 h0
    refine pm_blk hK zmm184 [] 4 23 [(2, 205), (0, u), (0, w), (0, j), (9, 0), (9, 0)] [(0, 500), (0, 0), (0, w), (2, 205)] μ1 [] rfl trivial ?_
    refine pm_call hK zmm184 (158, 0, 129, 3) zM129 (0, 0) [(2, 205), (0, w), (0, 0), (0, 500)] [] rfl rfl rfl rfl ⟨by omega, by rw [zn129]; omega⟩ (zh_isIn hK ⟨by omega, by omega⟩) (fun st2 μc2 hp2 => ?_)
    obtain ⟨rfl, rfl⟩ := hp2
    refine pm_if hK zmm184 .ne 5 31 rfl rfl (fun h1 => ?_) (fun h1 => ?_)
    · have h1 : (if 0 ≤ w ∧ w ≤ 500 then 1 else 0 : Int) ≠ (0 : Int) := h1
      have h1 := zif1 h1
      refine pm_blk hK zmm184 [] 2 33 [(2, 205), (0, u), (0, w), (0, j), (9, 0), (9, 0)] [(0, (-1)), (0, j)] μ1 [] rfl trivial ?_
      refine pm_icmp hK zmm184 .eq 26 59 rfl rfl (fun h2 => ?_) (fun h2 => ?_)
      · have h2 : j = ((-1) : Int) := h2
        refine pm_blk hK zmm184 [] 4 65 [(2, 205), (0, u), (0, w), (0, j), (0, 0), (0, 1)] [] μ1 [] rfl trivial ?_
        exact zl_lm hK ⟨by omega, by omega⟩ ⟨by omega, by omega⟩ (by rw [zlz_in ⟨by omega, by omega⟩ ⟨by omega, by omega⟩ (Or.inl (by omega)), zlb_a (by omega)]) hbd _ (z := 0) (p := 1) rfl ⟨by omega, by omega⟩ rfl hTμ1
      · have h2 : j ≠ ((-1) : Int) := h2
        refine pm_blk hK zmm184 [] 4 40 [(2, 205), (0, u), (0, w), (0, j), (9, 0), (9, 0)] [(0, u), (0, 1), (0, j), (2, 205)] μ1 [] rfl trivial ?_
        refine pm_call hK zmm184 (158, 0, 129, 3) zM129 (0, 0) [(2, 205), (0, j), (0, 1), (0, u)] [] rfl rfl rfl rfl ⟨by omega, by rw [zn129]; omega⟩ (zh_isIn hK ⟨by omega, by omega⟩) (fun st3 μc3 hp3 => ?_)
        obtain ⟨rfl, rfl⟩ := hp3
        refine pm_if hK zmm184 .eq 14 57 rfl rfl (fun h3 => ?_) (fun h3 => ?_)
        · have h3 : (if 1 ≤ j ∧ j ≤ u then 1 else 0 : Int) = (0 : Int) := h3
          have h3 := zif0 h3
          refine pm_blk hK zmm184 [] 1 58 [(2, 205), (0, u), (0, w), (0, j), (9, 0), (9, 0)] [(0, (-1))] μ1 [] rfl trivial ?_
          first
          | exact pm_iret rfl rfl ⟨hTμ1, by rw [zlz_u (by omega)]⟩
          | exact pm_iret rfl rfl ⟨hTμ1, by rw [zlz_w (by omega)]⟩
          | exact pm_iret rfl rfl ⟨hTμ1, by rw [zlz_j (by omega) (by omega)]⟩
          | exact pm_iret rfl rfl ⟨hTμ1, by rw [zlz_in ⟨by omega, by omega⟩ ⟨by omega, by omega⟩ (Or.inr ⟨by omega, by omega⟩), zlb_j (by omega), hm4, hy4]⟩
        · have h3 : (if 1 ≤ j ∧ j ≤ u then 1 else 0 : Int) ≠ (0 : Int) := h3
          have h3 := zif1 h3
          refine pm_blk hK zmm184 [] 3 49 [(2, 205), (0, u), (0, w), (0, j), (9, 0), (9, 0)] [(0, w), (0, j), (2, 205)] μ1 [] rfl trivial ?_
          refine pm_call hK zmm184 (463, 0, 185, 2) zM185 (0, 0) [(2, 205), (0, j), (0, w)] [] rfl rfl rfl rfl ⟨by omega, by rw [zn185]; omega⟩ (zh_turnsOf hK (j := j) (w := w) ⟨by omega, by omega⟩ ⟨by omega, by omega⟩ hTμ1 ⟨Nat.le_refl _, Nat.le_refl _⟩) (fun st4 μc4 hp4 => ?_)
          obtain ⟨hTc4, x4, rfl, hx4, hy4⟩ := hp4
          have hm4 : Int.tmod x4 2 = x4 % 2 := Int.tmod_eq_emod_of_nonneg hx4.1
          refine pm_blk hK zmm184 [] 3 58 [(2, 205), (0, u), (0, w), (0, j), (9, 0), (9, 0)] [(0, Int.tmod x4 2)] μc4 [2 ≠ 0] rfl ⟨by omega, trivial⟩ ?_
          first
          | exact pm_iret rfl rfl ⟨hTc4, by rw [zlz_u (by omega)]⟩
          | exact pm_iret rfl rfl ⟨hTc4, by rw [zlz_w (by omega)]⟩
          | exact pm_iret rfl rfl ⟨hTc4, by rw [zlz_j (by omega) (by omega)]⟩
          | exact pm_iret rfl rfl ⟨hTc4, by rw [zlz_in ⟨by omega, by omega⟩ ⟨by omega, by omega⟩ (Or.inr ⟨by omega, by omega⟩), zlb_j (by omega), hm4, hy4]⟩
    · have h1 : (if 0 ≤ w ∧ w ≤ 500 then 1 else 0 : Int) = (0 : Int) := h1
      have h1 := zif0 h1
      refine pm_blk hK zmm184 [] 1 30 [(2, 205), (0, u), (0, w), (0, j), (9, 0), (9, 0)] [(0, (-1))] μ1 [] rfl trivial ?_
      first
      | exact pm_iret rfl rfl ⟨hTμ1, by rw [zlz_u (by omega)]⟩
      | exact pm_iret rfl rfl ⟨hTμ1, by rw [zlz_w (by omega)]⟩
      | exact pm_iret rfl rfl ⟨hTμ1, by rw [zlz_j (by omega) (by omega)]⟩
      | exact pm_iret rfl rfl ⟨hTμ1, by rw [zlz_in ⟨by omega, by omega⟩ ⟨by omega, by omega⟩ (Or.inr ⟨by omega, by omega⟩), zlb_j (by omega), hm4, hy4]⟩
end ZHW
