/-! served; walks printed by program (wip/p30/pmgen.py) and filled by hand -/
section ZHW
variable {D : va_G} {Wm : Nat} {ST : List (String × String × String × Nat)} {b0 : sx_B} {l : Launch} {Sg : Nat → Option Nat} {bud : sx_Bu} {μ : pm_Mem} {B0 : Nat → Prop} {J : (Nat → Option Nat) → Heap → Prop}
set_option maxRecDepth 100000 in
theorem zl_so2 (hK : zKK ST) {X : Nat → List pm_V → List pm_V → pm_Mem → Prop} {μ0 : pm_Mem} {i : Int} (hi : 0 ≤ i ∧ i ≤ 9) (hb203 : sx_bit Wm 203 = true) (K : ∀ (j : Int) (μ : pm_Mem), 0 ≤ j → j ≤ i → (∀ q : Int, 0 ≤ q → q ≤ i → q ≠ j → 0 ≤ μ 203 q ∧ μ 203 q < i) → (∀ r, r ≠ 203 → μ r = μ0 r) → zTJ μ → zW D Wm ST b0 l Sg zM86 bud X 68 [(2, 202), (2, 35), (2, 203), (0, i), (0, j), (9, 0)] [] μ) (hbd : 0 ≤ bud.1 ∧ 0 ≤ bud.2.1) : ∀ (n : Nat) {j : Int} {μ : pm_Mem}, j.toNat = n → ∀ (hj : 0 ≤ j ∧ j ≤ i) (hz : ∀ q : Int, 0 ≤ q → q ≤ i → q ≠ j → 0 ≤ μ 203 q ∧ μ 203 q < i) (hfr : ∀ r, r ≠ 203 → μ r = μ0 r) (hT : zTJ μ), zW D Wm ST b0 l Sg zM86 bud X 21 [(2, 202), (2, 35), (2, 203), (0, i), (0, j), (0, j)] [] μ := by
  intro n
  induction n using Nat.strongRecOn with
  | ind n ih =>
    intro j μ hn hj hz hfr hT
    refine pm_blk hK zmm86 [] 1 23 [(2, 202), (2, 35), (2, 203), (0, i), (0, j), (0, j)] [(0, j)] μ [] rfl trivial ?_
    refine pm_if hK zmm86 .le 45 68 rfl rfl (fun h0 => ?_) (fun h0 => ?_)
    · have h0 : j ≤ (0 : Int) := h0
      refine pm_hide [5] ?_
      exact K j _ (by omega) (by omega) hz hfr hT
    · have h0 : (0 : Int) < j := h0
      have hz1 := hz (j - 1) (by omega) (by omega) (by omega)
      have f1 := zT_get hT zs203_0 (i := j - 1) (by omega) (by omega)
      have f2 := zT_get hT zs36_0 (i := μ 203 (j - 1)) (by omega) (by omega)
      have f3 := zT_get hT zs36_0 (i := i) (by omega) (by omega)
      refine pm_blk hK zmm86 [] 12 43 [(2, 202), (2, 35), (2, 203), (0, i), (0, j), (0, j)] [(0, μ 36 i), (0, μ 36 (μ 203 (j - 1)))] μ [pm_in (j - 1), 0 ≤ j - 1 ∧ j - 1 < 501, 0 ≤ μ 203 (j - 1) ∧ μ 203 (j - 1) < 10, 0 ≤ i ∧ i < 10] rfl ⟨pm_in_mk (by omega) (by omega), ⟨by omega, by omega⟩, ⟨by omega, by omega⟩, ⟨by omega, by omega⟩, trivial⟩ ?_
      refine pm_icmp hK zmm86 .le 25 68 rfl rfl (fun h1 => ?_) (fun h1 => ?_)
      · have h1 : μ 36 (μ 203 (j - 1)) ≤ μ 36 i := h1
        refine pm_hide [5] ?_
        exact K j _ (by omega) (by omega) hz hfr hT
      · have h1 : μ 36 i < μ 36 (μ 203 (j - 1)) := h1
        refine pm_blk hK zmm86 [] 8 56 [(2, 202), (2, 35), (2, 203), (0, i), (0, j), (0, j)] [] (pm_up μ 203 j (μ 203 (j - 1))) [pm_in (j - 1), 0 ≤ j - 1 ∧ j - 1 < 501, sx_bit Wm 203 = true, 0 ≤ j ∧ j < 501] rfl ⟨pm_in_mk (by omega) (by omega), ⟨by omega, by omega⟩, hb203, ⟨by omega, by omega⟩, trivial⟩ ?_
        obtain ⟨μ1, eμ1⟩ : ∃ μ', μ' = pm_up μ 203 j (μ 203 (j - 1)) := ⟨_, rfl⟩
        rw [← eμ1]
        have hTμ1 : zTJ μ1 := by rw [eμ1]; exact zT_up hT zs203_0 rfl (i := j) (by omega) (by omega) (by omega) (by omega)
        refine pm_blk hK zmm86 [] 6 21 [(2, 202), (2, 35), (2, 203), (0, i), (0, j - 1), (0, j + (-1))] [] μ1 [pm_in (j - 1), pm_in (j + (-1))] rfl ⟨pm_in_mk (by omega) (by omega), pm_in_mk (by omega) (by omega), trivial⟩ ?_
        have e9 : j + (-1) = j - 1 := by omega
        rw [e9]
        refine ih _ (by omega) rfl ⟨by omega, by omega⟩ (fun q q0 q1 q2 => ?_) (fun r hr => by rw [eμ1, pm_up_row hr]; exact hfr r hr) hTμ1
        rw [eμ1]
        by_cases hq : q = j
        · rw [hq, pm_up_eq]; exact hz1
        · rw [pm_up_ne hq]; exact hz q q0 q1 hq
set_option maxRecDepth 100000 in
theorem zl_so1 (hK : zKK ST)  {μ0 : pm_Mem} (hb203 : sx_bit Wm 203 = true) (hbd : 0 ≤ bud.1 ∧ 0 ≤ bud.2.1) : ∀ (n : Nat) {i : Int} {μ : pm_Mem}, (μ0 35 1 - i).toNat = n → ∀ (hi : 0 ≤ i ∧ i ≤ μ0 35 1) (hz : ∀ q : Int, 0 ≤ q → q < i → 0 ≤ μ 203 q ∧ μ 203 q < i) (hfr : ∀ r, r ≠ 203 → μ r = μ0 r) (hT : zTJ μ), zW D Wm ST b0 l Sg zM86 bud (pm_X zM86 (fun st' μ' => st' = [] ∧ (∀ q : Int, 0 ≤ q → q < μ0 35 1 → 0 ≤ μ' 203 q ∧ μ' 203 q < μ0 35 1) ∧ (∀ r, r ≠ 203 → μ' r = μ0 r) ∧ zTJ μ')) 7 [(2, 202), (2, 35), (2, 203), (0, i), (9, 0), (9, 0)] [] μ := by
  intro n
  induction n using Nat.strongRecOn with
  | ind n ih =>
    intro i μ hn hi hz hfr hT
    have e35 : μ 35 1 = μ0 35 1 := by rw [hfr 35 (by decide)]
    have f35 := zT_get hT zs35_1 (i := 1) (by omega) (by omega)
    have f1 := zT_get hT zs35_1 (i := 1) (by omega) (by omega)
    refine pm_blk hK zmm86 [] 3 12 [(2, 202), (2, 35), (2, 203), (0, i), (9, 0), (9, 0)] [(0, μ 35 1), (0, i)] μ [] rfl trivial ?_
    refine pm_icmp hK zmm86 .ge 67 79 rfl rfl (fun h0 => ?_) (fun h0 => ?_)
    · have h0 : μ 35 1 ≤ i := h0
      have ei : i = μ0 35 1 := by omega
      rw [ei] at hz
      exact pm_vret rfl rfl ⟨rfl, hz, hfr, hT⟩
    · have h0 : i < μ 35 1 := h0
      refine pm_blk hK zmm86 [] 4 21 [(2, 202), (2, 35), (2, 203), (0, i), (0, i), (0, i)] [] μ [] rfl trivial ?_
      refine zl_so2 hK (μ0 := μ0) ⟨by omega, by omega⟩ hb203 (fun j μ2 j0 j1 hz2 hfr2 hT2 => ?_) hbd _ rfl ⟨by omega, by omega⟩ (fun q q0 q1 q2 => hz q q0 (by omega)) hfr hT
      refine pm_blk hK zmm86 [] 4 73 [(2, 202), (2, 35), (2, 203), (0, i), (0, j), (9, 0)] [] (pm_up μ2 203 j i) [sx_bit Wm 203 = true, 0 ≤ j ∧ j < 501] rfl ⟨hb203, ⟨by omega, by omega⟩, trivial⟩ ?_
      obtain ⟨μy1, eμy1⟩ : ∃ μ', μ' = pm_up μ2 203 j i := ⟨_, rfl⟩
      rw [← eμy1]
      have hTμy1 : zTJ μy1 := by rw [eμy1]; exact zT_up hT2 zs203_0 rfl (i := j) (by omega) (by omega) (by omega) (by omega)
      refine pm_blk hK zmm86 [] 2 7 [(2, 202), (2, 35), (2, 203), (0, i + 1), (0, j), (9, 0)] [] μy1 [pm_in (i + 1)] rfl ⟨pm_in_mk (by omega) (by omega), trivial⟩ ?_
      refine pm_hide [4] ?_
      refine ih _ (by omega) rfl ⟨by omega, by omega⟩ (fun q q0 q1 => ?_) (fun r hr => by rw [eμy1, pm_up_row hr]; exact hfr2 r hr) hTμy1
      rw [eμy1]
      by_cases hq : q = j
      · rw [hq, pm_up_eq]; omega
      · rw [pm_up_ne hq]; have := hz2 q q0 (by omega) hq; omega
set_option maxRecDepth 100000 in
theorem zh_sortByDue (hK : zKK ST) (hT : zTJ μ) (hb203 : sx_bit Wm 203 = true) (hbd : 0 ≤ bud.1 ∧ 0 ≤ bud.2.1) : zC D Wm ST b0 l Sg zM86 bud [(2, 202), (2, 35)] μ (fun st' μ' => st' = [] ∧ (∀ q : Int, 0 ≤ q → q < μ 35 1 → 0 ≤ μ' 203 q ∧ μ' 203 q < μ 35 1) ∧ (∀ r, r ≠ 203 → μ' r = μ r) ∧ zTJ μ') := by
  have f35 := zT_get hT zs35_1 (i := 1) (by omega) (by omega)
  refine pm_blk hK zmm86 [] 5 7 [(2, 202), (2, 35), (2, 203), (0, 0), (9, 0), (9, 0)] [] μ [] rfl trivial ?_
  exact zl_so1 hK (μ0 := μ) hb203 hbd _ rfl ⟨by omega, by omega⟩ (fun q q0 q1 => absurd q1 (by omega)) (fun r _ => rfl) hT
set_option maxRecDepth 100000 in
theorem zh_min (hK : zKK ST) {a b : Int} (hbd : 0 ≤ bud.1 ∧ 0 ≤ bud.2.1) : zC D Wm ST b0 l Sg zM30 bud [(0, a), (0, b)] μ (fun st' μ' => μ = μ' ∧ st' = [(0, min a b)]) := by
  refine pm_blk hK zmm30 [] 2 2 [(0, a), (0, b)] [(0, b), (0, a)] μ [] rfl trivial ?_
  refine pm_icmp hK zmm30 .gt 7 9 rfl rfl (fun h0 => ?_) (fun h0 => ?_)
  · have h0 : b < a := h0
    refine pm_blk hK zmm30 [] 1 10 [(0, a), (0, b)] [(0, b)] μ [] rfl trivial ?_
    exact pm_iret rfl rfl ⟨rfl, by rw [show min a b = b by omega]⟩
  · have h0 : a ≤ b := h0
    refine pm_blk hK zmm30 [] 2 10 [(0, a), (0, b)] [(0, a)] μ [] rfl trivial ?_
    exact pm_iret rfl rfl ⟨rfl, by rw [show min a b = a by omega]⟩
set_option maxRecDepth 100000 in
theorem zh_max (hK : zKK ST) {a b : Int} (hbd : 0 ≤ bud.1 ∧ 0 ≤ bud.2.1) : zC D Wm ST b0 l Sg zM34 bud [(0, a), (0, b)] μ (fun st' μ' => μ = μ' ∧ st' = [(0, max a b)]) := by
  refine pm_blk hK zmm34 [] 2 2 [(0, a), (0, b)] [(0, b), (0, a)] μ [] rfl trivial ?_
  refine pm_icmp hK zmm34 .lt 7 9 rfl rfl (fun h0 => ?_) (fun h0 => ?_)
  · have h0 : a < b := h0
    refine pm_blk hK zmm34 [] 1 10 [(0, a), (0, b)] [(0, b)] μ [] rfl trivial ?_
    exact pm_iret rfl rfl ⟨rfl, by rw [show max a b = b by omega]⟩
  · have h0 : b ≤ a := h0
    refine pm_blk hK zmm34 [] 2 10 [(0, a), (0, b)] [(0, a)] μ [] rfl trivial ?_
    exact pm_iret rfl rfl ⟨rfl, by rw [show max a b = a by omega]⟩
set_option maxRecDepth 100000 in
theorem zl_ms2 (hK : zKK ST) {X : Nat → List pm_V → List pm_V → pm_Mem → Prop} {μ0 : pm_Mem} {most i need due one : Int} (hne : pm_in need) (hb204 : sx_bit Wm 204 = true) (K : ∀ (μ : pm_Mem), (∀ r, r ≠ 204 → μ r = μ0 r) → zTJ μ → zW D Wm ST b0 l Sg zM87 bud X 146 [(2, 202), (2, 33), (2, 35), (2, 203), (2, 204), (0, most), (0, i), (0, need), (0, due), (0, one), (9, 0)] [] μ) (hbd : 1 ≤ bud.1 ∧ 21 ≤ bud.2.1) : ∀ (n : Nat) {many : Int} {μ : pm_Mem}, many.toNat = n → ∀ (hmy : 0 ≤ many ∧ many ≤ 10) (hfr : ∀ r, r ≠ 204 → μ r = μ0 r) (hT : zTJ μ), zW D Wm ST b0 l Sg zM87 bud X 97 [(2, 202), (2, 33), (2, 35), (2, 203), (2, 204), (0, most), (0, i), (0, need), (0, due), (0, one), (0, many)] [] μ := by
  intro n
  induction n using Nat.strongRecOn with
  | ind n ih =>
    intro many μ hn hmy hfr hT
    refine pm_blk hK zmm87 [111, 135] 1 99 [(2, 202), (2, 33), (2, 35), (2, 203), (2, 204), (0, most), (0, i), (0, need), (0, due), (0, one), (0, many)] [(0, many)] μ [] rfl trivial ?_
    refine pm_if hK zmm87 .le 47 146 rfl rfl (fun h0 => ?_) (fun h0 => ?_)
    · have h0 : many ≤ (0 : Int) := h0
      refine pm_hide [10] ?_
      exact K _ hfr hT
    · have h0 : (0 : Int) < many := h0
      have f1 := zT_get hT zs204_0 (i := many - 1) (by omega) (by omega)
      have w2 := zw32 ((μ 204 (many - 1)) + need)
      refine pm_blk hK zmm87 [111, 135] 8 114 [(2, 202), (2, 33), (2, 35), (2, 203), (2, 204), (0, most), (0, i), (0, need), (0, due), (0, one), (0, many)] [(0, due), (0, pm_w32 ((μ 204 (many - 1)) + need))] μ [pm_in (many - 1), 0 ≤ many - 1 ∧ many - 1 < 501] rfl ⟨pm_in_mk (by omega) (by omega), ⟨by omega, by omega⟩, trivial⟩ ?_
      refine pm_icmp hK zmm87 .gt 26 140 rfl rfl (fun h1 => ?_) (fun h1 => ?_)
      · have h1 : due < pm_w32 ((μ 204 (many - 1)) + need) := h1
        refine pm_blk hK zmm87 [111, 135] 2 97 [(2, 202), (2, 33), (2, 35), (2, 203), (2, 204), (0, most), (0, i), (0, need), (0, due), (0, one), (0, many + (-1))] [] μ [pm_in (many + (-1))] rfl ⟨pm_in_mk (by omega) (by omega), trivial⟩ ?_
        exact ih _ (by omega) rfl ⟨by omega, by omega⟩ hfr hT
      · have h1 : pm_w32 ((μ 204 (many - 1)) + need) ≤ due := h1
        have f3 := zT_get hT zs204_0 (i := many) (by omega) (by omega)
        have w4 := zw32 ((μ 204 (many - 1)) + need)
        refine pm_blk hK zmm87 [111, 135] 12 136 [(2, 202), (2, 33), (2, 35), (2, 203), (2, 204), (0, most), (0, i), (0, need), (0, due), (0, one), (0, many)] [(0, pm_w32 ((μ 204 (many - 1)) + need)), (0, μ 204 many), (0, many), (2, 204)] μ [0 ≤ many ∧ many < 501, pm_in (many - 1), 0 ≤ many - 1 ∧ many - 1 < 501] rfl ⟨⟨by omega, by omega⟩, pm_in_mk (by omega) (by omega), ⟨by omega, by omega⟩, trivial⟩ ?_
        refine pm_call hK zmm87 (43, 1, 30, 2) zM30 (0, 0) [(0, μ 204 many), (0, pm_w32 ((μ 204 (many - 1)) + need))] [(0, many), (2, 204)] rfl rfl rfl rfl ⟨by omega, by rw [zn30]; omega⟩ (zh_min hK ⟨Nat.le_refl _, Nat.le_refl _⟩) (fun st1 μc1 hp1 => ?_)
        obtain ⟨rfl, rfl⟩ := hp1
        refine pm_blk hK zmm87 [111, 135] 1 140 [(2, 202), (2, 33), (2, 35), (2, 203), (2, 204), (0, most), (0, i), (0, need), (0, due), (0, one), (0, many)] [] (pm_up μ 204 many (min (μ 204 many) (pm_w32 ((μ 204 (many - 1)) + need)))) [sx_bit Wm 204 = true, 0 ≤ many ∧ many < 501] rfl ⟨hb204, ⟨by omega, by omega⟩, trivial⟩ ?_
        obtain ⟨μ1, eμ1⟩ : ∃ μ', μ' = pm_up μ 204 many (min (μ 204 many) (pm_w32 ((μ 204 (many - 1)) + need))) := ⟨_, rfl⟩
        rw [← eμ1]
        have hTμ1 : zTJ μ1 := by rw [eμ1]; exact zT_up hT zs204_0 rfl (i := many) (by omega) (by omega) (by omega) (by omega)
        refine pm_blk hK zmm87 [111, 135] 2 97 [(2, 202), (2, 33), (2, 35), (2, 203), (2, 204), (0, most), (0, i), (0, need), (0, due), (0, one), (0, many + (-1))] [] μ1 [pm_in (many + (-1))] rfl ⟨pm_in_mk (by omega) (by omega), trivial⟩ ?_
        exact ih _ (by omega) rfl ⟨by omega, by omega⟩ (fun r hr => by rw [eμ1, pm_up_row hr]; exact hfr r hr) hTμ1
set_option maxRecDepth 100000 in
theorem zl_ms1 (hK : zKK ST)  {μ0 : pm_Mem} (ho : ∀ q : Int, 0 ≤ q → q < μ0 33 1 → 0 ≤ μ0 203 q ∧ μ0 203 q < 10) (hb204 : sx_bit Wm 204 = true) (hbd : 1 ≤ bud.1 ∧ 21 ≤ bud.2.1) : ∀ (n : Nat) {most i : Int} {μ : pm_Mem}, (10 - i).toNat = n → ∀ (hi : 0 ≤ i ∧ i ≤ 10) (hm : 0 ≤ most ∧ most ≤ i) (hfr : ∀ r, r ≠ 204 → μ r = μ0 r) (hT : zTJ μ), zW D Wm ST b0 l Sg zM87 bud (pm_X zM87 (fun st' μ' => ∃ x, st' = [(0, x)] ∧ 0 ≤ x ∧ x ≤ 10 ∧ zTJ μ')) 22 [(2, 202), (2, 33), (2, 35), (2, 203), (2, 204), (0, most), (0, i), (9, 0), (9, 0), (9, 0), (9, 0)] [] μ := by
  intro n
  induction n using Nat.strongRecOn with
  | ind n ih =>
    intro most i μ hn hi hm hfr hT
    have e33 : μ 33 1 = μ0 33 1 := by rw [hfr 33 (by decide)]
    have f33 := zT_get hT zs33_1 (i := 1) (by omega) (by omega)
    have e203 : ∀ q, μ 203 q = μ0 203 q := fun q => by rw [hfr 203 (by decide)]
    have f1 := zT_get hT zs33_1 (i := 1) (by omega) (by omega)
    refine pm_blk hK zmm87 [60, 91] 3 28 [(2, 202), (2, 33), (2, 35), (2, 203), (2, 204), (0, most), (0, i), (9, 0), (9, 0), (9, 0), (9, 0)] [(0, μ 33 1), (0, i)] μ [] rfl trivial ?_
    refine pm_icmp hK zmm87 .ge 140 168 rfl rfl (fun h0 => ?_) (fun h0 => ?_)
    · have h0 : μ 33 1 ≤ i := h0
      refine pm_blk hK zmm87 [60, 91] 1 170 [(2, 202), (2, 33), (2, 35), (2, 203), (2, 204), (0, most), (0, i), (9, 0), (9, 0), (9, 0), (9, 0)] [(0, most)] μ [] rfl trivial ?_
      exact pm_iret rfl rfl ⟨_, rfl, by omega, by omega, hT⟩
    · have h0 : i < μ 33 1 := h0
      have ho1 := ho i (by omega) (by omega)
      rw [← e203 i] at ho1
      have f2 := zT_get hT zs203_0 (i := i) (by omega) (by omega)
      have f3 := zT_get hT zs34_0 (i := μ 203 i) (by omega) (by omega)
      have f4 := zT_get hT zs36_0 (i := μ 203 i) (by omega) (by omega)
      refine pm_blk hK zmm87 [60, 91] 14 53 [(2, 202), (2, 33), (2, 35), (2, 203), (2, 204), (0, most), (0, i), (0, μ 34 (μ 203 i)), (0, μ 36 (μ 203 i)), (9, 0), (9, 0)] [] μ [0 ≤ i ∧ i < 501, 0 ≤ μ 203 i ∧ μ 203 i < 10, 0 ≤ i ∧ i < 501, 0 ≤ μ 203 i ∧ μ 203 i < 10] rfl ⟨⟨by omega, by omega⟩, ⟨by omega, by omega⟩, ⟨by omega, by omega⟩, ⟨by omega, by omega⟩, trivial⟩ ?_
      have hne : pm_in (μ 34 (μ 203 i)) := ⟨by omega, by omega⟩
      have f5 := zT_get hT zs204_0 (i := most) (by omega) (by omega)
      have w6 := zw32 ((μ 204 most) + (μ 34 (μ 203 i)))
      refine pm_blk hK zmm87 [60, 91] 6 63 [(2, 202), (2, 33), (2, 35), (2, 203), (2, 204), (0, most), (0, i), (0, μ 34 (μ 203 i)), (0, μ 36 (μ 203 i)), (9, 0), (9, 0)] [(0, μ 36 (μ 203 i)), (0, pm_w32 ((μ 204 most) + (μ 34 (μ 203 i))))] μ [0 ≤ most ∧ most < 501] rfl ⟨⟨by omega, by omega⟩, trivial⟩ ?_
      refine pm_icmp hK zmm87 .gt 7 70 rfl rfl (fun h1 => ?_) (fun h1 => ?_)
      · have h1 : μ 36 (μ 203 i) < pm_w32 ((μ 204 most) + (μ 34 (μ 203 i))) := h1
        refine pm_blk hK zmm87 [60, 91] 3 75 [(2, 202), (2, 33), (2, 35), (2, 203), (2, 204), (0, most), (0, i), (0, μ 34 (μ 203 i)), (0, μ 36 (μ 203 i)), (0, 0), (9, 0)] [(0, 0)] μ [] rfl trivial ?_
        refine pm_if hK zmm87 .eq 18 93 rfl rfl (fun h2 => ?_) (fun h2 => ?_)
        · have h2 : (0 : Int) = (0 : Int) := h2
          refine pm_blk hK zmm87 [60, 91] 2 97 [(2, 202), (2, 33), (2, 35), (2, 203), (2, 204), (0, most), (0, i), (0, μ 34 (μ 203 i)), (0, μ 36 (μ 203 i)), (0, 0), (0, most)] [] μ [] rfl trivial ?_
          refine zl_ms2 hK (μ0 := μ0) hne hb204 (fun μ2 hfr2 hT2 => ?_) hbd _ rfl ⟨by omega, by omega⟩ hfr hT
          refine pm_blk hK zmm87 [] 1 148 [(2, 202), (2, 33), (2, 35), (2, 203), (2, 204), (0, most), (0, i), (0, μ 34 (μ 203 i)), (0, μ 36 (μ 203 i)), (0, 0), (9, 0)] [(0, 0)] μ2 [] rfl trivial ?_
          refine pm_if hK zmm87 .eq 10 158 rfl rfl (fun hy00 => ?_) (fun hy00 => ?_)
          · have hy00 : (0 : Int) = (0 : Int) := hy00
            refine pm_blk hK zmm87 [] 4 22 [(2, 202), (2, 33), (2, 35), (2, 203), (2, 204), (0, most), (0, i + 1), (0, μ 34 (μ 203 i)), (0, μ 36 (μ 203 i)), (0, 0), (9, 0)] [] μ2 [pm_in (i + 1)] rfl ⟨pm_in_mk (by omega) (by omega), trivial⟩ ?_
            refine pm_hide [7, 8, 9] ?_
            exact ih _ (by omega) rfl ⟨by omega, by omega⟩ ⟨by omega, by omega⟩ hfr2 hT2
          · have hy00 : (0 : Int) ≠ (0 : Int) := hy00
            refine pm_blk hK zmm87 [] 7 22 [(2, 202), (2, 33), (2, 35), (2, 203), (2, 204), (0, most + 1), (0, i + 1), (0, μ 34 (μ 203 i)), (0, μ 36 (μ 203 i)), (0, 0), (9, 0)] [] μ2 [pm_in (most + 1), pm_in (i + 1)] rfl ⟨pm_in_mk (by omega) (by omega), pm_in_mk (by omega) (by omega), trivial⟩ ?_
            refine pm_hide [7, 8, 9] ?_
            exact ih _ (by omega) rfl ⟨by omega, by omega⟩ ⟨by omega, by omega⟩ hfr2 hT2
        · have h2 : (0 : Int) ≠ (0 : Int) := h2
          have w7 := zw32 ((μ 204 most) + (μ 34 (μ 203 i)))
          refine pm_blk hK zmm87 [60, 91] 10 93 [(2, 202), (2, 33), (2, 35), (2, 203), (2, 204), (0, most), (0, i), (0, μ 34 (μ 203 i)), (0, μ 36 (μ 203 i)), (0, 0), (9, 0)] [] (pm_up μ 204 (most + 1) (pm_w32 ((μ 204 most) + (μ 34 (μ 203 i))))) [pm_in (most + 1), 0 ≤ most ∧ most < 501, sx_bit Wm 204 = true, 0 ≤ most + 1 ∧ most + 1 < 501] rfl ⟨pm_in_mk (by omega) (by omega), ⟨by omega, by omega⟩, hb204, ⟨by omega, by omega⟩, trivial⟩ ?_
          obtain ⟨μ1, eμ1⟩ : ∃ μ', μ' = pm_up μ 204 (most + 1) (pm_w32 ((μ 204 most) + (μ 34 (μ 203 i)))) := ⟨_, rfl⟩
          rw [← eμ1]
          have hTμ1 : zTJ μ1 := by rw [eμ1]; exact zT_up hT zs204_0 rfl (i := most + 1) (by omega) (by omega) (by omega) (by omega)
          refine pm_blk hK zmm87 [60, 91] 2 97 [(2, 202), (2, 33), (2, 35), (2, 203), (2, 204), (0, most), (0, i), (0, μ 34 (μ 203 i)), (0, μ 36 (μ 203 i)), (0, 0), (0, most)] [] μ1 [] rfl trivial ?_
          refine zl_ms2 hK (μ0 := μ0) hne hb204 (fun μ2 hfr2 hT2 => ?_) hbd _ rfl ⟨by omega, by omega⟩ (fun r hr => by rw [eμ1, pm_up_row hr]; exact hfr r hr) hTμ1
          refine pm_blk hK zmm87 [] 1 148 [(2, 202), (2, 33), (2, 35), (2, 203), (2, 204), (0, most), (0, i), (0, μ 34 (μ 203 i)), (0, μ 36 (μ 203 i)), (0, 0), (9, 0)] [(0, 0)] μ2 [] rfl trivial ?_
          refine pm_if hK zmm87 .eq 10 158 rfl rfl (fun hy00 => ?_) (fun hy00 => ?_)
          · have hy00 : (0 : Int) = (0 : Int) := hy00
            refine pm_blk hK zmm87 [] 4 22 [(2, 202), (2, 33), (2, 35), (2, 203), (2, 204), (0, most), (0, i + 1), (0, μ 34 (μ 203 i)), (0, μ 36 (μ 203 i)), (0, 0), (9, 0)] [] μ2 [pm_in (i + 1)] rfl ⟨pm_in_mk (by omega) (by omega), trivial⟩ ?_
            refine pm_hide [7, 8, 9] ?_
            exact ih _ (by omega) rfl ⟨by omega, by omega⟩ ⟨by omega, by omega⟩ hfr2 hT2
          · have hy00 : (0 : Int) ≠ (0 : Int) := hy00
            refine pm_blk hK zmm87 [] 7 22 [(2, 202), (2, 33), (2, 35), (2, 203), (2, 204), (0, most + 1), (0, i + 1), (0, μ 34 (μ 203 i)), (0, μ 36 (μ 203 i)), (0, 0), (9, 0)] [] μ2 [pm_in (most + 1), pm_in (i + 1)] rfl ⟨pm_in_mk (by omega) (by omega), pm_in_mk (by omega) (by omega), trivial⟩ ?_
            refine pm_hide [7, 8, 9] ?_
            exact ih _ (by omega) rfl ⟨by omega, by omega⟩ ⟨by omega, by omega⟩ hfr2 hT2
      · have h1 : pm_w32 ((μ 204 most) + (μ 34 (μ 203 i))) ≤ μ 36 (μ 203 i) := h1
        refine pm_blk hK zmm87 [60, 91] 4 75 [(2, 202), (2, 33), (2, 35), (2, 203), (2, 204), (0, most), (0, i), (0, μ 34 (μ 203 i)), (0, μ 36 (μ 203 i)), (0, 1), (9, 0)] [(0, 1)] μ [] rfl trivial ?_
        refine pm_if hK zmm87 .eq 18 93 rfl rfl (fun h3 => ?_) (fun h3 => ?_)
        · have h3 : (1 : Int) = (0 : Int) := h3
          refine pm_blk hK zmm87 [60, 91] 2 97 [(2, 202), (2, 33), (2, 35), (2, 203), (2, 204), (0, most), (0, i), (0, μ 34 (μ 203 i)), (0, μ 36 (μ 203 i)), (0, 1), (0, most)] [] μ [] rfl trivial ?_
          refine zl_ms2 hK (μ0 := μ0) hne hb204 (fun μ2 hfr2 hT2 => ?_) hbd _ rfl ⟨by omega, by omega⟩ hfr hT
          refine pm_blk hK zmm87 [] 1 148 [(2, 202), (2, 33), (2, 35), (2, 203), (2, 204), (0, most), (0, i), (0, μ 34 (μ 203 i)), (0, μ 36 (μ 203 i)), (0, 1), (9, 0)] [(0, 1)] μ2 [] rfl trivial ?_
          refine pm_if hK zmm87 .eq 10 158 rfl rfl (fun hy10 => ?_) (fun hy10 => ?_)
          · have hy10 : (1 : Int) = (0 : Int) := hy10
            refine pm_blk hK zmm87 [] 4 22 [(2, 202), (2, 33), (2, 35), (2, 203), (2, 204), (0, most), (0, i + 1), (0, μ 34 (μ 203 i)), (0, μ 36 (μ 203 i)), (0, 1), (9, 0)] [] μ2 [pm_in (i + 1)] rfl ⟨pm_in_mk (by omega) (by omega), trivial⟩ ?_
            refine pm_hide [7, 8, 9] ?_
            exact ih _ (by omega) rfl ⟨by omega, by omega⟩ ⟨by omega, by omega⟩ hfr2 hT2
          · have hy10 : (1 : Int) ≠ (0 : Int) := hy10
            refine pm_blk hK zmm87 [] 7 22 [(2, 202), (2, 33), (2, 35), (2, 203), (2, 204), (0, most + 1), (0, i + 1), (0, μ 34 (μ 203 i)), (0, μ 36 (μ 203 i)), (0, 1), (9, 0)] [] μ2 [pm_in (most + 1), pm_in (i + 1)] rfl ⟨pm_in_mk (by omega) (by omega), pm_in_mk (by omega) (by omega), trivial⟩ ?_
            refine pm_hide [7, 8, 9] ?_
            exact ih _ (by omega) rfl ⟨by omega, by omega⟩ ⟨by omega, by omega⟩ hfr2 hT2
        · have h3 : (1 : Int) ≠ (0 : Int) := h3
          have w8 := zw32 ((μ 204 most) + (μ 34 (μ 203 i)))
          refine pm_blk hK zmm87 [60, 91] 10 93 [(2, 202), (2, 33), (2, 35), (2, 203), (2, 204), (0, most), (0, i), (0, μ 34 (μ 203 i)), (0, μ 36 (μ 203 i)), (0, 1), (9, 0)] [] (pm_up μ 204 (most + 1) (pm_w32 ((μ 204 most) + (μ 34 (μ 203 i))))) [pm_in (most + 1), 0 ≤ most ∧ most < 501, sx_bit Wm 204 = true, 0 ≤ most + 1 ∧ most + 1 < 501] rfl ⟨pm_in_mk (by omega) (by omega), ⟨by omega, by omega⟩, hb204, ⟨by omega, by omega⟩, trivial⟩ ?_
          obtain ⟨μ2, eμ2⟩ : ∃ μ', μ' = pm_up μ 204 (most + 1) (pm_w32 ((μ 204 most) + (μ 34 (μ 203 i)))) := ⟨_, rfl⟩
          rw [← eμ2]
          have hTμ2 : zTJ μ2 := by rw [eμ2]; exact zT_up hT zs204_0 rfl (i := most + 1) (by omega) (by omega) (by omega) (by omega)
          refine pm_blk hK zmm87 [60, 91] 2 97 [(2, 202), (2, 33), (2, 35), (2, 203), (2, 204), (0, most), (0, i), (0, μ 34 (μ 203 i)), (0, μ 36 (μ 203 i)), (0, 1), (0, most)] [] μ2 [] rfl trivial ?_
          refine zl_ms2 hK (μ0 := μ0) hne hb204 (fun μ2 hfr2 hT2 => ?_) hbd _ rfl ⟨by omega, by omega⟩ (fun r hr => by rw [eμ2, pm_up_row hr]; exact hfr r hr) hTμ2
          refine pm_blk hK zmm87 [] 1 148 [(2, 202), (2, 33), (2, 35), (2, 203), (2, 204), (0, most), (0, i), (0, μ 34 (μ 203 i)), (0, μ 36 (μ 203 i)), (0, 1), (9, 0)] [(0, 1)] μ2 [] rfl trivial ?_
          refine pm_if hK zmm87 .eq 10 158 rfl rfl (fun hy10 => ?_) (fun hy10 => ?_)
          · have hy10 : (1 : Int) = (0 : Int) := hy10
            refine pm_blk hK zmm87 [] 4 22 [(2, 202), (2, 33), (2, 35), (2, 203), (2, 204), (0, most), (0, i + 1), (0, μ 34 (μ 203 i)), (0, μ 36 (μ 203 i)), (0, 1), (9, 0)] [] μ2 [pm_in (i + 1)] rfl ⟨pm_in_mk (by omega) (by omega), trivial⟩ ?_
            refine pm_hide [7, 8, 9] ?_
            exact ih _ (by omega) rfl ⟨by omega, by omega⟩ ⟨by omega, by omega⟩ hfr2 hT2
          · have hy10 : (1 : Int) ≠ (0 : Int) := hy10
            refine pm_blk hK zmm87 [] 7 22 [(2, 202), (2, 33), (2, 35), (2, 203), (2, 204), (0, most + 1), (0, i + 1), (0, μ 34 (μ 203 i)), (0, μ 36 (μ 203 i)), (0, 1), (9, 0)] [] μ2 [pm_in (most + 1), pm_in (i + 1)] rfl ⟨pm_in_mk (by omega) (by omega), pm_in_mk (by omega) (by omega), trivial⟩ ?_
            refine pm_hide [7, 8, 9] ?_
            exact ih _ (by omega) rfl ⟨by omega, by omega⟩ ⟨by omega, by omega⟩ hfr2 hT2
set_option maxRecDepth 100000 in
theorem zh_mostServed (hK : zKK ST) (ho : ∀ q : Int, 0 ≤ q → q < μ 33 1 → 0 ≤ μ 203 q ∧ μ 203 q < 10) (hT : zTJ μ) (hb204 : sx_bit Wm 204 = true) (hbd : 1 ≤ bud.1 ∧ 21 ≤ bud.2.1) : zC D Wm ST b0 l Sg zM87 bud [(2, 202), (2, 33), (2, 35)] μ (fun st' μ' => ∃ x, st' = [(0, x)] ∧ 0 ≤ x ∧ x ≤ 10 ∧ zTJ μ') := by
  refine pm_blk hK zmm87 [] 12 19 [(2, 202), (2, 33), (2, 35), (2, 203), (2, 204), (0, 0), (9, 0), (9, 0), (9, 0), (9, 0), (9, 0)] [] (pm_up μ 204 0 0) [sx_bit Wm 204 = true, 0 ≤ 0 ∧ 0 < 501] rfl ⟨hb204, ⟨by omega, by omega⟩, trivial⟩ ?_
  obtain ⟨μ1, eμ1⟩ : ∃ μ', μ' = pm_up μ 204 0 0 := ⟨_, rfl⟩
  rw [← eμ1]
  have hTμ1 : zTJ μ1 := by rw [eμ1]; exact zT_up hT zs204_0 rfl (i := 0) (by omega) (by omega) (by omega) (by omega)
  refine pm_blk hK zmm87 [] 2 22 [(2, 202), (2, 33), (2, 35), (2, 203), (2, 204), (0, 0), (0, 0), (9, 0), (9, 0), (9, 0), (9, 0)] [] μ1 [] rfl trivial ?_
  exact zl_ms1 hK (μ0 := μ) ho hb204 hbd _ rfl ⟨by omega, by omega⟩ ⟨by omega, by omega⟩ (fun r hr => by rw [eμ1, pm_up_row hr]) hTμ1
set_option maxRecDepth 100000 in
theorem zl_late (hK : zKK ST)  {μ0 : pm_Mem} (ho : ∀ q : Int, 0 ≤ q → q < μ0 33 1 → 0 ≤ μ0 203 q ∧ μ0 203 q < 10) (hT : zTJ μ0) (hbd : 1 ≤ bud.1 ∧ 21 ≤ bud.2.1) : ∀ (n : Nat) {t v i : Int} {μ : pm_Mem}, (10 - i).toNat = n → ∀ (hμ : μ0 = μ) (hi : 0 ≤ i ∧ i ≤ 10) (ht : pm_in t) (hv : pm_in v), zW D Wm ST b0 l Sg zM88 bud (pm_X zM88 (fun st' μ' => ∃ x, st' = [(0, x)] ∧ pm_in x ∧ zTJ μ')) 14 [(2, 202), (2, 33), (2, 35), (2, 203), (0, t), (0, v), (0, i)] [] μ := by
  intro n
  induction n using Nat.strongRecOn with
  | ind n ih =>
    intro t v i μ hn hμ hi ht hv
    subst hμ
    have f33 := zT_get hT zs33_1 (i := 1) (by omega) (by omega)
    have ht : -2147483648 ≤ t ∧ t ≤ 2147483647 := ht
    have hv : -2147483648 ≤ v ∧ v ≤ 2147483647 := hv
    have f1 := zT_get hT zs33_1 (i := 1) (by omega) (by omega)
    refine pm_blk hK zmm88 [34, 51, 55] 3 20 [(2, 202), (2, 33), (2, 35), (2, 203), (0, t), (0, v), (0, i)] [(0, μ0 33 1), (0, i)] μ0 [] rfl trivial ?_
    refine pm_icmp hK zmm88 .ge 44 64 rfl rfl (fun h0 => ?_) (fun h0 => ?_)
    · have h0 : μ0 33 1 ≤ i := h0
      refine pm_blk hK zmm88 [34, 51, 55] 1 66 [(2, 202), (2, 33), (2, 35), (2, 203), (0, t), (0, v), (0, i)] [(0, v)] μ0 [] rfl trivial ?_
      exact pm_iret rfl rfl ⟨_, rfl, ⟨by omega, by omega⟩, hT⟩
    · have h0 : i < μ0 33 1 := h0
      have ho1 := ho i (by omega) (by omega)
      have f2 := zT_get hT zs203_0 (i := i) (by omega) (by omega)
      have f3 := zT_get hT zs34_0 (i := μ0 203 i) (by omega) (by omega)
      have w4 := zw32 (t + (μ0 34 (μ0 203 i)))
      have f5 := zT_get hT zs36_0 (i := μ0 203 i) (by omega) (by omega)
      have w6 := zw32 ((pm_w32 (t + (μ0 34 (μ0 203 i)))) - (μ0 36 (μ0 203 i)))
      refine pm_blk hK zmm88 [34, 51, 55] 19 52 [(2, 202), (2, 33), (2, 35), (2, 203), (0, pm_w32 (t + (μ0 34 (μ0 203 i)))), (0, v), (0, i)] [(0, pm_w32 ((pm_w32 (t + (μ0 34 (μ0 203 i)))) - (μ0 36 (μ0 203 i)))), (0, 0), (0, v)] μ0 [0 ≤ i ∧ i < 501, 0 ≤ μ0 203 i ∧ μ0 203 i < 10, 0 ≤ i ∧ i < 501, 0 ≤ μ0 203 i ∧ μ0 203 i < 10] rfl ⟨⟨by omega, by omega⟩, ⟨by omega, by omega⟩, ⟨by omega, by omega⟩, ⟨by omega, by omega⟩, trivial⟩ ?_
      refine pm_call hK zmm88 (37, 1, 34, 2) zM34 (0, 0) [(0, 0), (0, pm_w32 ((pm_w32 (t + (μ0 34 (μ0 203 i)))) - (μ0 36 (μ0 203 i))))] [(0, v)] rfl rfl rfl rfl ⟨by omega, by rw [zn34]; omega⟩ (zh_max hK ⟨Nat.le_refl _, Nat.le_refl _⟩) (fun st1 μc1 hp1 => ?_)
      obtain ⟨rfl, rfl⟩ := hp1
      have w7 := zw32 (v + (max 0 (pm_w32 ((pm_w32 (t + (μ0 34 (μ0 203 i)))) - (μ0 36 (μ0 203 i))))))
      refine pm_blk hK zmm88 [34, 51, 55] 4 14 [(2, 202), (2, 33), (2, 35), (2, 203), (0, pm_w32 (t + (μ0 34 (μ0 203 i)))), (0, pm_w32 (v + (max 0 (pm_w32 ((pm_w32 (t + (μ0 34 (μ0 203 i)))) - (μ0 36 (μ0 203 i))))))), (0, i + 1)] [] μ0 [pm_in (i + 1)] rfl ⟨pm_in_mk (by omega) (by omega), trivial⟩ ?_
      exact ih _ (by omega) rfl rfl ⟨by omega, by omega⟩ ⟨by omega, by omega⟩ ⟨by omega, by omega⟩
set_option maxRecDepth 100000 in
theorem zh_late (hK : zKK ST) (ho : ∀ q : Int, 0 ≤ q → q < μ 33 1 → 0 ≤ μ 203 q ∧ μ 203 q < 10) (hT : zTJ μ) (hbd : 1 ≤ bud.1 ∧ 21 ≤ bud.2.1) : zC D Wm ST b0 l Sg zM88 bud [(2, 202), (2, 33), (2, 35)] μ (fun st' μ' => ∃ x, st' = [(0, x)] ∧ pm_in x ∧ zTJ μ') := by
  refine pm_blk hK zmm88 [] 9 14 [(2, 202), (2, 33), (2, 35), (2, 203), (0, 0), (0, 0), (0, 0)] [] μ [] rfl trivial ?_
  exact zl_late hK ho hT hbd _ rfl rfl ⟨by omega, by omega⟩ ⟨by omega, by omega⟩ ⟨by omega, by omega⟩
set_option maxRecDepth 100000 in
theorem zh_served (hK : zKK ST) {q : Int} (he : μ 33 1 = μ 35 1) (hT : zTJ μ) (hb203 : sx_bit Wm 203 = true) (hb204 : sx_bit Wm 204 = true) (hbd : 2 ≤ bud.1 ∧ 51 ≤ bud.2.1) : zC D Wm ST b0 l Sg zM85 bud [(2, 1), (0, q)] μ (fun st' μ' => ∃ x, st' = [(0, x)] ∧ pm_in x ∧ (∀ r, r ≠ 203 → r ≠ 204 → True) ∧ zTJ μ') := by
  have f35 := zT_get hT zs35_1 (i := 1) (by omega) (by omega)
  refine pm_blk hK zmm85 [] 3 3 [(2, 1), (0, q)] [(0, 1), (0, 0), (0, q)] μ [] rfl trivial ?_
  refine pm_call hK zmm85 (94, 1, 16, 3) zM16 (0, 0) [(0, q), (0, 0), (0, 1)] [] rfl rfl rfl rfl ⟨by omega, by rw [zn16]; omega⟩ (zh_within hK ⟨Nat.le_refl _, Nat.le_refl _⟩) (fun st1 μc1 hp1 => ?_)
  obtain ⟨rfl, rfl⟩ := hp1
  refine pm_if hK zmm85 .ne 5 11 rfl rfl (fun h0 => ?_) (fun h0 => ?_)
  · have h0 : (if 0 ≤ q ∧ q ≤ 1 then 1 else 0 : Int) ≠ (0 : Int) := h0
    have h0 := zif1 h0
    refine pm_blk hK zmm85 [] 5 22 [(2, 1), (0, q)] [(2, 35), (2, 202)] μ [] rfl trivial ?_
    refine pm_call hK zmm85 (330, 0, 86, 1) zM86 (0, 0) [(2, 202), (2, 35)] [] rfl rfl rfl rfl ⟨by omega, by rw [zn86]; omega⟩ (zh_sortByDue hK hT hb203 ⟨Nat.le_refl _, Nat.le_refl _⟩) (fun st2 μc2 hp2 => ?_)
    obtain ⟨rfl, hq2, hfr2, hTc2⟩ := hp2
    have ho1 : ∀ q : Int, 0 ≤ q → q < μc2 33 1 → 0 ≤ μc2 203 q ∧ μc2 203 q < 10 := fun q q0 q1 => by
      rw [hfr2 33 (by decide)] at q1
      have := hq2 q q0 (by omega)
      omega
    refine pm_blk hK zmm85 [] 1 26 [(2, 1), (0, q)] [(0, q)] μc2 [] rfl trivial ?_
    refine pm_if hK zmm85 .ne 27 53 rfl rfl (fun h1 => ?_) (fun h1 => ?_)
    · have h1 : q ≠ (0 : Int) := h1
      refine pm_blk hK zmm85 [] 8 71 [(2, 1), (0, q)] [(2, 35), (2, 33), (2, 202)] μc2 [] rfl trivial ?_
      refine pm_call hK zmm85 (338, 0, 88, 2) zM88 (1, 21) [(2, 202), (2, 33), (2, 35)] [] rfl rfl rfl rfl ⟨by omega, by rw [zn88]; omega⟩ (zh_late hK ho1 hTc2 ⟨Nat.le_refl _, Nat.le_refl _⟩) (fun st3 μc3 hp3 => ?_)
      obtain ⟨x3, rfl, hx3, hTc3⟩ := hp3
      have hx3 : -2147483648 ≤ x3 ∧ x3 ≤ 2147483647 := hx3
      exact pm_iret rfl rfl ⟨_, rfl, ⟨by omega, by omega⟩, fun _ _ _ => trivial, hTc3⟩
    · have h1 : q = (0 : Int) := h1
      refine pm_blk hK zmm85 [] 8 47 [(2, 1), (0, q)] [(2, 35), (2, 33), (2, 202)] μc2 [] rfl trivial ?_
      refine pm_call hK zmm85 (334, 0, 87, 2) zM87 (1, 21) [(2, 202), (2, 33), (2, 35)] [] rfl rfl rfl rfl ⟨by omega, by rw [zn87]; omega⟩ (zh_mostServed hK ho1 hTc2 hb204 ⟨Nat.le_refl _, Nat.le_refl _⟩) (fun st4 μc4 hp4 => ?_)
      obtain ⟨x4, rfl, hx4, hy4, hTc4⟩ := hp4
      refine pm_blk hK zmm85 [] 1 74 [(2, 1), (0, q)] [(0, x4)] μc4 [] rfl trivial ?_
      exact pm_iret rfl rfl ⟨_, rfl, ⟨by omega, by omega⟩, fun _ _ _ => trivial, hTc4⟩
  · have h0 : (if 0 ≤ q ∧ q ≤ 1 then 1 else 0 : Int) = (0 : Int) := h0
    have h0 := zif0 h0
    refine pm_blk hK zmm85 [] 1 10 [(2, 1), (0, q)] [(0, (-1))] μ [] rfl trivial ?_
    exact pm_iret rfl rfl ⟨_, rfl, ⟨by omega, by omega⟩, fun _ _ _ => trivial, hT⟩
end ZHW
