/-! a year in letters: the class; walks printed by program (wip/p30/pmgen.py) and filled by hand -/
section ZHW
variable {D : va_G} {Wm : Nat} {ST : List (String × String × String × Nat)} {b0 : sx_B} {l : Launch} {Sg : Nat → Option Nat} {bud : sx_Bu} {μ : pm_Mem} {B0 : Nat → Prop} {J : (Nat → Option Nat) → Heap → Prop}
set_option maxRecDepth 100000 in
theorem zx_max (hK : zKK ST) {a b : Int} (h : a ≤ b) (hbd : 0 ≤ bud.1 ∧ 0 ≤ bud.2.1) : zC D Wm ST b0 l Sg zM34 bud [(0, a), (0, b)] μ (fun st' μ' => μ = μ' ∧ st' = [(0, b)]) := by
  refine pm_blk hK zmm34 [] 2 2 [(0, a), (0, b)] [(0, b), (0, a)] μ [] rfl trivial ?_
  refine pm_icmp hK zmm34 .lt 7 9 rfl rfl (fun h0 => ?_) (fun h0 => ?_)
  · have h0 : a < b := h0
    refine pm_blk hK zmm34 [] 1 10 [(0, a), (0, b)] [(0, b)] μ [] rfl trivial ?_
    have hr : b = b := by omega
    exact pm_iret rfl rfl ⟨rfl, by rw [hr]⟩
  · have h0 : b ≤ a := h0
    refine pm_blk hK zmm34 [] 2 10 [(0, a), (0, b)] [(0, a)] μ [] rfl trivial ?_
    have hr : a = b := by omega
    exact pm_iret rfl rfl ⟨rfl, by rw [hr]⟩
set_option maxRecDepth 100000 in
theorem zx_le (hK : zKK ST)  {y T : Int} (hG : ∀ q ∈ zGT, sx_gtok zCDs (zAS ST) zTB Sg q) (hbd : 0 ≤ bud.1 ∧ 0 ≤ bud.2.1) : ∀ (n : Nat) {s r i : Int} {μ : pm_Mem}, (4 - i).toNat = n → ∀ (hi : 0 ≤ i ∧ i ≤ 4) (hr : 0 ≤ r ∧ r ≤ 9999) (hb : 0 ≤ s ∧ s ≤ 4 * i) (hs : s + zxk (4 - i).toNat r = T) (hT : zTJ μ), zW D Wm ST b0 l Sg zM101 bud (pm_X zM101 (fun st' μ' => zTJ μ' ∧ st' = [(0, T)])) 10 [(0, y), (0, s), (0, r), (0, i)] [] μ := by
  intro n
  induction n using Nat.strongRecOn with
  | ind n ih =>
    intro s r i μ hn hi hr hb hs hT
    have rm : Int.tmod r 10 = r % 10 := Int.tmod_eq_emod_of_nonneg (by omega)
    have rd : Int.tdiv r 10 = r / 10 := Int.tdiv_eq_ediv_of_nonneg (by omega)
    refine pm_blk hK zmm101 [] 2 12 [(0, y), (0, s), (0, r), (0, i)] [(0, 4), (0, i)] μ [] rfl trivial ?_
    refine pm_icmp hK zmm101 .ge 25 37 rfl rfl (fun h0 => ?_) (fun h0 => ?_)
    · have h0 : (4 : Int) ≤ i := h0
      refine pm_blk hK zmm101 [] 1 38 [(0, y), (0, s), (0, r), (0, i)] [(0, s)] μ [] rfl trivial ?_
      rw [show (4 - i).toNat = 0 by omega, zxk_0] at hs
      have hs2 : s = T := by omega
      exact pm_iret rfl rfl ⟨hT, by rw [hs2]⟩
    · have h0 : i < (4 : Int) := h0
      refine pm_blk hK zmm101 [] 1 16 [(0, y), (0, s), (0, r), (0, i)] [(0, s)] μ [] rfl trivial ?_
      refine zp_gst hK zmm101 (hG (5, 71, ("ArcadePoles$Puzzles", "LETTERS", "[I"), 246) (List.mem_of_getElem? (i := 0) rfl)) rfl rfl rfl ?_
      refine pm_blk hK zmm101 [] 4 24 [(0, y), (0, s), (0, r), (0, i)] [(0, μ 246 (Int.tmod r 10)), (0, s)] μ [10 ≠ 0, 0 ≤ Int.tmod r 10 ∧ Int.tmod r 10 < 10] rfl ⟨by omega, ⟨by omega, by omega⟩, trivial⟩ ?_
      have e1 : (μ 246 (Int.tmod r 10)) = zxL (r % 10) := by rw [rm]; exact zxL_at hT (by omega) (by omega)
      have b1 := zxL_bd (d := r % 10) (by omega) (by omega)
      refine pm_blk hK zmm101 [] 8 10 [(0, y), (0, s + (μ 246 (Int.tmod r 10))), (0, Int.tdiv r 10), (0, i + 1)] [] μ [pm_in (s + (μ 246 (Int.tmod r 10))), 10 ≠ 0, pm_in (Int.tdiv r 10), pm_in (i + 1)] rfl ⟨pm_in_mk (by omega) (by omega), by omega, pm_in_mk (by omega) (by omega), pm_in_mk (by omega) (by omega), trivial⟩ ?_
      rw [show (4 - i).toNat = (4 - (i + 1)).toNat + 1 by omega, zxk_s] at hs
      refine ih _ (by omega) rfl ⟨by omega, by omega⟩ ⟨by omega, by omega⟩ ⟨by omega, by omega⟩ ?_ hT
      rw [e1, rd]
      omega
set_option maxRecDepth 100000 in
theorem zx_letters (hK : zKK ST) {y : Int} (hy : 0 ≤ y ∧ y ≤ 9999) (hT : zTJ μ) (hG : ∀ q ∈ zGT, sx_gtok zCDs (zAS ST) zTB Sg q) (hbd : 1 ≤ bud.1 ∧ 21 ≤ bud.2.1) : zC D Wm ST b0 l Sg zM101 bud [(0, y)] μ (fun st' μ' => zTJ μ' ∧ st' = [(0, zxk 4 y)]) := by
  refine pm_blk hK zmm101 [] 4 4 [(0, y), (0, 0), (9, 0), (9, 0)] [(0, y), (0, 0)] μ [] rfl trivial ?_
  refine pm_call hK zmm101 (37, 1, 34, 2) zM34 (0, 0) [(0, 0), (0, y)] [] rfl rfl rfl rfl ⟨by omega, by rw [zn34]; omega⟩ (zx_max hK (a := 0) (b := y) (by omega) ⟨Nat.le_refl _, Nat.le_refl _⟩) (fun st1 μc1 hp1 => ?_)
  obtain ⟨rfl, rfl⟩ := hp1
  refine pm_blk hK zmm101 [] 3 10 [(0, y), (0, 0), (0, y), (0, 0)] [] μ [] rfl trivial ?_
  exact zx_le hK hG ⟨by omega, by omega⟩ _ (s := 0) (r := y) (i := 0) rfl ⟨by omega, by omega⟩ hy ⟨by omega, by omega⟩ (by rw [Int.zero_add]; rfl) hT
set_option maxRecDepth 100000 in
theorem zx_yl (hK : zKK ST)  {y w T : Int} (hy : 1 ≤ y ∧ y ≤ 3999) (hTT : zxc w y = T) (hG : ∀ q ∈ zGT, sx_gtok zCDs (zAS ST) zTB Sg q) (hbd : 2 ≤ bud.1 ∧ 44 ≤ bud.2.1) : ∀ (n : Nat) {c i : Int} {μ : pm_Mem}, (y + 1 - i).toNat = n → ∀ (hi : 1 ≤ i ∧ i ≤ y + 1) (hc : c = zxc w (i - 1)) (hT : zTJ μ), zW D Wm ST b0 l Sg zM102 bud (pm_X zM102 (fun st' μ' => zTJ μ' ∧ st' = [(0, T)])) 4 [(0, y), (0, w), (0, c), (0, i)] [] μ := by
  intro n
  induction n using Nat.strongRecOn with
  | ind n ih =>
    intro c i μ hn hi hc hT
    have cb := zxc_bd (w := w) (y := i - 1) (by omega)
    have cp := zxc_p (w := w) hi.1
    refine pm_blk hK zmm102 [] 2 6 [(0, y), (0, w), (0, c), (0, i)] [(0, y), (0, i)] μ [] rfl trivial ?_
    refine pm_icmp hK zmm102 .gt 20 26 rfl rfl (fun h0 => ?_) (fun h0 => ?_)
    · have h0 : y < i := h0
      refine pm_blk hK zmm102 [] 1 27 [(0, y), (0, w), (0, c), (0, i)] [(0, c)] μ [] rfl trivial ?_
      have ei : i - 1 = y := by omega
      exact pm_iret rfl rfl ⟨hT, by rw [hc, ei, hTT]⟩
    · have h0 : i ≤ y := h0
      refine pm_blk hK zmm102 [] 1 10 [(0, y), (0, w), (0, c), (0, i)] [(0, i)] μ [] rfl trivial ?_
      refine pm_call hK zmm102 (83, 1, 101, 1) zM101 (1, 21) [(0, i)] [] rfl rfl rfl rfl ⟨by omega, by rw [zn101]; omega⟩ (zx_letters hK (y := i) ⟨by omega, by omega⟩ hT hG ⟨Nat.le_refl _, Nat.le_refl _⟩) (fun st1 μc1 hp1 => ?_)
      obtain ⟨hTc1, rfl⟩ := hp1
      refine pm_blk hK zmm102 [] 1 14 [(0, y), (0, w), (0, c), (0, i)] [(0, w), (0, zxk 4 i)] μc1 [] rfl trivial ?_
      refine pm_icmp hK zmm102 .ne 6 20 rfl rfl (fun h1 => ?_) (fun h1 => ?_)
      · have h1 : zxk 4 i ≠ w := h1
        refine pm_blk hK zmm102 [] 2 4 [(0, y), (0, w), (0, c), (0, i + 1)] [] μc1 [pm_in (i + 1)] rfl ⟨pm_in_mk (by omega) (by omega), trivial⟩ ?_
        first
        | (rw [if_pos (by assumption)] at cp; exact ih _ (by omega) rfl ⟨by omega, by omega⟩ (by rw [show i + 1 - 1 = i by omega, cp, hc]) hTc1)
        | (rw [if_neg (by assumption)] at cp; exact ih _ (by omega) rfl ⟨by omega, by omega⟩ (by rw [show i + 1 - 1 = i by omega, cp, hc, Int.add_zero]) hTc1)
      · have h1 : zxk 4 i = w := h1
        refine pm_blk hK zmm102 [] 3 4 [(0, y), (0, w), (0, c + 1), (0, i + 1)] [] μc1 [pm_in (c + 1), pm_in (i + 1)] rfl ⟨pm_in_mk (by omega) (by omega), pm_in_mk (by omega) (by omega), trivial⟩ ?_
        first
        | (rw [if_pos (by assumption)] at cp; exact ih _ (by omega) rfl ⟨by omega, by omega⟩ (by rw [show i + 1 - 1 = i by omega, cp, hc]) hTc1)
        | (rw [if_neg (by assumption)] at cp; exact ih _ (by omega) rfl ⟨by omega, by omega⟩ (by rw [show i + 1 - 1 = i by omega, cp, hc, Int.add_zero]) hTc1)
set_option maxRecDepth 100000 in
theorem zx_yearsOf (hK : zKK ST) {y w : Int} (hy : 1 ≤ y ∧ y ≤ 3999) (hT : zTJ μ) (hG : ∀ q ∈ zGT, sx_gtok zCDs (zAS ST) zTB Sg q) (hbd : 2 ≤ bud.1 ∧ 44 ≤ bud.2.1) : zC D Wm ST b0 l Sg zM102 bud [(0, y), (0, w)] μ (fun st' μ' => zTJ μ' ∧ st' = [(0, zxc w y)]) := by
  refine pm_blk hK zmm102 [] 4 4 [(0, y), (0, w), (0, 0), (0, 1)] [] μ [] rfl trivial ?_
  exact zx_yl hK hy rfl hG hbd _ (c := 0) (i := 1) rfl ⟨by omega, by omega⟩ rfl hT
end ZHW
