/-! SERVED, both sides; walks printed by program (wip/p30/pmgen.py) and filled by hand -/
variable {φ : Option pm_Mem}
section ZHW
variable {D : va_G} {Wm : Nat} {ST : List (String × String × String × Nat)} {b0 : sx_B} {l : Launch} {Sg : Nat → Option Nat} {bud : sx_Bu} {μ : pm_Mem} {B0 : Nat → Prop} {J : (Nat → Option Nat) → Heap → Prop}
set_option maxRecDepth 100000 in
theorem zl_qs2 (hK : zKK ST) {X : Nat → List pm_V → List pm_V → pm_Mem → Prop} {μ0 : pm_Mem} {g : Int → Int} {i : Int} (hi : 0 ≤ i ∧ i ≤ 9) (hb203 : sx_bit Wm 203 = true) (K : ∀ (j : Int) (μ : pm_Mem), 0 ≤ j → j ≤ i → (j = 0 ∨ μ0 36 (g (j - 1)) ≤ μ0 36 i) → (∀ x : Int, 0 ≤ x → x < j → μ 203 x = g x) → (∀ x : Int, j ≤ x → x < i → μ 203 (x + 1) = g x) → (∀ x : Int, j ≤ x → x < i → μ0 36 i < μ0 36 (g x)) → (∀ r, r ≠ 203 → μ r = μ0 r) → zTJ φ μ → zW D Wm ST b0 l Sg zM86 bud X 68 [(2, 202), (2, 35), (2, 203), (0, i), (0, j), (9, 0)] [] μ) (hbd : 0 ≤ bud.1 ∧ 0 ≤ bud.2.1) : ∀ (n : Nat) {j : Int} {μ : pm_Mem}, j.toNat = n → ∀ (hj : 0 ≤ j ∧ j ≤ i) (hz : ∀ q : Int, 0 ≤ q → q ≤ i → q ≠ j → 0 ≤ μ 203 q ∧ μ 203 q < i) (ha : ∀ x : Int, 0 ≤ x → x < j → μ 203 x = g x) (hc : ∀ x : Int, j ≤ x → x < i → μ 203 (x + 1) = g x) (hu : ∀ x : Int, j ≤ x → x < i → μ0 36 i < μ0 36 (g x)) (hfr : ∀ r, r ≠ 203 → μ r = μ0 r) (hT : zTJ φ μ), zW D Wm ST b0 l Sg zM86 bud X 21 [(2, 202), (2, 35), (2, 203), (0, i), (0, j), (0, j)] [] μ := by
  intro n
  induction n using Nat.strongRecOn with
  | ind n ih =>
    intro j μ hn hj hz ha hc hu hfr hT
    refine pm_blk hK zmm86 [] 1 23 [(2, 202), (2, 35), (2, 203), (0, i), (0, j), (0, j)] [(0, j)] μ [] rfl trivial ?_
    refine pm_if hK zmm86 .le 45 68 rfl rfl (fun h0 => ?_) (fun h0 => ?_)
    · have h0 : j ≤ (0 : Int) := h0
      refine pm_hide [5] ?_
      first
      | exact K j _ (by omega) (by omega) (Or.inl (by omega)) ha hc hu hfr hT
      | exact K j _ (by omega) (by omega) (Or.inr (by rw [← eg, ← e36 i, ← e36 (μ 203 (j - 1))]; exact h0)) ha hc hu hfr hT
    · have h0 : (0 : Int) < j := h0
      have hz1 := hz (j - 1) (by omega) (by omega) (by omega)
      have e36 : ∀ q, μ 36 q = μ0 36 q := fun q => by rw [hfr 36 (by decide)]
      have eg : μ 203 (j - 1) = g (j - 1) := ha (j - 1) (by omega) (by omega)
      have f1 := zT_get hT zs203_0 (i := j - 1) (by omega) (by omega)
      have f2 := zT_get hT zs36_0 (i := μ 203 (j - 1)) (by omega) (by omega)
      have f3 := zT_get hT zs36_0 (i := i) (by omega) (by omega)
      refine pm_blk hK zmm86 [] 12 43 [(2, 202), (2, 35), (2, 203), (0, i), (0, j), (0, j)] [(0, μ 36 i), (0, μ 36 (μ 203 (j - 1)))] μ [pm_in (j - 1), 0 ≤ j - 1 ∧ j - 1 < 501, 0 ≤ μ 203 (j - 1) ∧ μ 203 (j - 1) < 10, 0 ≤ i ∧ i < 10] rfl ⟨pm_in_mk (by omega) (by omega), ⟨by omega, by omega⟩, ⟨by omega, by omega⟩, ⟨by omega, by omega⟩, trivial⟩ ?_
      refine pm_icmp hK zmm86 .le 25 68 rfl rfl (fun h1 => ?_) (fun h1 => ?_)
      · have h1 : μ 36 (μ 203 (j - 1)) ≤ μ 36 i := h1
        refine pm_hide [5] ?_
        first
        | exact K j _ (by omega) (by omega) (Or.inl (by omega)) ha hc hu hfr hT
        | exact K j _ (by omega) (by omega) (Or.inr (by rw [← eg, ← e36 i, ← e36 (μ 203 (j - 1))]; exact h1)) ha hc hu hfr hT
      · have h1 : μ 36 i < μ 36 (μ 203 (j - 1)) := h1
        refine pm_blk hK zmm86 [] 8 56 [(2, 202), (2, 35), (2, 203), (0, i), (0, j), (0, j)] [] (pm_up μ 203 j (μ 203 (j - 1))) [pm_in (j - 1), 0 ≤ j - 1 ∧ j - 1 < 501, sx_bit Wm 203 = true, 0 ≤ j ∧ j < 501] rfl ⟨pm_in_mk (by omega) (by omega), ⟨by omega, by omega⟩, hb203, ⟨by omega, by omega⟩, trivial⟩ ?_
        obtain ⟨μ1, eμ1⟩ : ∃ μ', μ' = pm_up μ 203 j (μ 203 (j - 1)) := ⟨_, rfl⟩
        rw [← eμ1]
        have hTμ1 : zTJ φ μ1 := by rw [eμ1]; exact zT_up hT zs203_0 rfl (i := j) (by omega) (by omega) (by omega) (by omega)
        refine pm_blk hK zmm86 [] 6 21 [(2, 202), (2, 35), (2, 203), (0, i), (0, j - 1), (0, j + (-1))] [] μ1 [pm_in (j - 1), pm_in (j + (-1))] rfl ⟨pm_in_mk (by omega) (by omega), pm_in_mk (by omega) (by omega), trivial⟩ ?_
        have e9 : j + (-1) = j - 1 := by omega
        rw [e9]
        refine ih _ (by omega) rfl ⟨by omega, by omega⟩ (fun q q0 q1 q2 => ?_) (fun x x0 x1 => by rw [eμ1, pm_up_ne (by omega)]; exact ha x x0 (by omega)) (fun x x0 x1 => ?_) (fun x x0 x1 => ?_) (fun r hr => by rw [eμ1, pm_up_row hr]; exact hfr r hr) hTμ1
        · rw [eμ1]
          by_cases hq : q = j
          · rw [hq, pm_up_eq]; exact hz1
          · rw [pm_up_ne hq]; exact hz q q0 q1 hq
        · by_cases hq : x = j - 1
          · rw [hq, show j - 1 + 1 = j by omega, eμ1, pm_up_eq]; exact eg
          · rw [eμ1, pm_up_ne (by omega)]; exact hc x (by omega) x1
        · by_cases hq : x = j - 1
          · rw [hq, ← eg, ← e36 i, ← e36 (μ 203 (j - 1))]; exact h1
          · exact hu x (by omega) x1
set_option maxRecDepth 100000 in
theorem zl_qs1 (hK : zKK ST)  {μ0 : pm_Mem} (hb203 : sx_bit Wm 203 = true) (hbd : 0 ≤ bud.1 ∧ 0 ≤ bud.2.1) : ∀ (n : Nat) {i : Int} {μ : pm_Mem}, (μ0 35 1 - i).toNat = n → ∀ (hi : 0 ≤ i ∧ i ≤ μ0 35 1) (hz : zoR (μ0 36) (μ 203) i) (hfr : ∀ r, r ≠ 203 → μ r = μ0 r) (hT : zTJ φ μ), zW D Wm ST b0 l Sg zM86 bud (pm_X zM86 (fun st' μ' => st' = [] ∧ zoR (μ0 36) (μ' 203) (μ0 35 1) ∧ (∀ r, r ≠ 203 → μ' r = μ0 r) ∧ zTJ φ μ')) 7 [(2, 202), (2, 35), (2, 203), (0, i), (9, 0), (9, 0)] [] μ := by
  intro n
  induction n using Nat.strongRecOn with
  | ind n ih =>
    intro i μ hn hi hz hfr hT
    have e35 : μ 35 1 = μ0 35 1 := by rw [hfr 35 (by decide)]
    have f35 := zT_get hT zs35_1 (i := 1) (by omega) (by omega)
    have f1 := zT_get hT zs35_1 (i := 1) (by omega) (by omega)
    refine pm_blk hK zmm86 [] 3 12 [(2, 202), (2, 35), (2, 203), (0, i), (9, 0), (9, 0)] [(0, μ 35 1), (0, i)] μ [] rfl trivial ?_
    refine pm_icmp hK zmm86 .ge 67 79 rfl rfl (fun h0 => ?_) (fun h0 => ?_)
    · have h0 : μ 35 1 ≤ i := h0
      have ei : i = μ0 35 1 := by omega
      rw [ei] at hz
      exact pm_vret rfl rfl ⟨rfl, hz, hfr, hT⟩
    · have h0 : i < μ 35 1 := h0
      refine pm_blk hK zmm86 [] 4 21 [(2, 202), (2, 35), (2, 203), (0, i), (0, i), (0, i)] [] μ [] rfl trivial ?_
      refine zl_qs2 hK (μ0 := μ0) (g := μ 203) ⟨by omega, by omega⟩ hb203 (fun j μ2 j0 j1 hl2 ha2 hc2 hu2 hfr2 hT2 => ?_) hbd _ rfl ⟨by omega, by omega⟩ (fun q q0 q1 q2 => hz.1 q q0 (by omega)) (fun x _ _ => rfl) (fun x x0 x1 => absurd x1 (by omega)) (fun x x0 x1 => absurd x1 (by omega)) hfr hT
      refine pm_blk hK zmm86 [] 4 73 [(2, 202), (2, 35), (2, 203), (0, i), (0, j), (9, 0)] [] (pm_up μ2 203 j i) [sx_bit Wm 203 = true, 0 ≤ j ∧ j < 501] rfl ⟨hb203, ⟨by omega, by omega⟩, trivial⟩ ?_
      obtain ⟨μy1, eμy1⟩ : ∃ μ', μ' = pm_up μ2 203 j i := ⟨_, rfl⟩
      rw [← eμy1]
      have hTμy1 : zTJ φ μy1 := by rw [eμy1]; exact zT_up hT2 zs203_0 rfl (i := j) (by omega) (by omega) (by omega) (by omega)
      refine pm_blk hK zmm86 [] 2 7 [(2, 202), (2, 35), (2, 203), (0, i + 1), (0, j), (9, 0)] [] μy1 [pm_in (i + 1)] rfl ⟨pm_in_mk (by omega) (by omega), trivial⟩ ?_
      refine pm_hide [4] ?_
      refine ih _ (by omega) rfl ⟨by omega, by omega⟩ ?_ (fun r hr => by rw [eμy1, pm_up_row hr]; exact hfr2 r hr) hTμy1
      exact zo_ins (j := j) ⟨by omega, by omega⟩ ⟨j0, j1⟩ hz hl2 hu2 (fun x x0 x1 => by rw [eμy1, pm_up_ne (by omega)]; exact ha2 x x0 x1) (by rw [eμy1, pm_up_eq]) (fun x x0 x1 => by rw [eμy1, pm_up_ne (by omega)]; exact hc2 x x0 x1)
set_option maxRecDepth 100000 in
theorem zh_qsort (hK : zKK ST) (hT : zTJ φ μ) (hb203 : sx_bit Wm 203 = true) (hbd : 0 ≤ bud.1 ∧ 0 ≤ bud.2.1) : zC D Wm ST b0 l Sg zM86 bud [(2, 202), (2, 35)] μ (fun st' μ' => st' = [] ∧ zoR (μ 36) (μ' 203) (μ 35 1) ∧ (∀ r, r ≠ 203 → μ' r = μ r) ∧ zTJ φ μ') := by
  have f35 := zT_get hT zs35_1 (i := 1) (by omega) (by omega)
  refine pm_blk hK zmm86 [] 5 7 [(2, 202), (2, 35), (2, 203), (0, 0), (9, 0), (9, 0)] [] μ [] rfl trivial ?_
  exact zl_qs1 hK (μ0 := μ) hb203 hbd _ rfl ⟨by omega, by omega⟩ zoR_0 (fun r _ => rfl) hT
set_option maxRecDepth 100000 in
theorem zl_qm2 (hK : zKK ST) {X : Nat → List pm_V → List pm_V → pm_Mem → Prop} {μ0 : pm_Mem} {L : Int → Int} {most i need due one : Int} (hne : 0 ≤ need ∧ need ≤ 20) (hmo : 0 ≤ most ∧ most ≤ 9) (hL : ∀ m : Int, 0 ≤ m → m ≤ most → 0 ≤ L m ∧ L m ≤ 200) (hb204 : sx_bit Wm 204 = true) (K : ∀ (μ : pm_Mem), μ 204 0 = L 0 → (∀ m : Int, 0 < m → m ≤ most → μ 204 m = if L (m - 1) + need ≤ due then min (L m) (L (m - 1) + need) else L m) → (L most + need ≤ due → μ 204 (most + 1) = L most + need) → (∀ r, r ≠ 204 → μ r = μ0 r) → zTJ φ μ → zW D Wm ST b0 l Sg zM87 bud X 146 [(2, 202), (2, 33), (2, 35), (2, 203), (2, 204), (0, most), (0, i), (0, need), (0, due), (0, one), (9, 0)] [] μ) (hbd : 1 ≤ bud.1 ∧ 21 ≤ bud.2.1) : ∀ (n : Nat) {many : Int} {μ : pm_Mem}, many.toNat = n → ∀ (hmy : 0 ≤ many ∧ many ≤ most) (hA : ∀ m : Int, 0 ≤ m → m ≤ many → μ 204 m = L m) (hB : ∀ m : Int, many < m → m ≤ most → μ 204 m = if L (m - 1) + need ≤ due then min (L m) (L (m - 1) + need) else L m) (hC : L most + need ≤ due → μ 204 (most + 1) = L most + need) (hfr : ∀ r, r ≠ 204 → μ r = μ0 r) (hT : zTJ φ μ), zW D Wm ST b0 l Sg zM87 bud X 97 [(2, 202), (2, 33), (2, 35), (2, 203), (2, 204), (0, most), (0, i), (0, need), (0, due), (0, one), (0, many)] [] μ := by
  intro n
  induction n using Nat.strongRecOn with
  | ind n ih =>
    intro many μ hn hmy hA hB hC hfr hT
    refine pm_blk hK zmm87 [] 1 99 [(2, 202), (2, 33), (2, 35), (2, 203), (2, 204), (0, most), (0, i), (0, need), (0, due), (0, one), (0, many)] [(0, many)] μ [] rfl trivial ?_
    refine pm_if hK zmm87 .le 47 146 rfl rfl (fun h0 => ?_) (fun h0 => ?_)
    · have h0 : many ≤ (0 : Int) := h0
      refine pm_hide [10] ?_
      have e0 : many = 0 := by omega
      subst e0
      exact K _ (hA 0 (by omega) (by omega)) hB hC hfr hT
    · have h0 : (0 : Int) < many := h0
      have a1 := hA (many - 1) (by omega) (by omega)
      have l1 := hL (many - 1) (by omega) (by omega)
      have a2 := hA many (by omega) (by omega)
      have l2 := hL many (by omega) (by omega)
      have f1 := zT_get hT zs204_0 (i := many - 1) (by omega) (by omega)
      refine pm_blk hK zmm87 [] 8 114 [(2, 202), (2, 33), (2, 35), (2, 203), (2, 204), (0, most), (0, i), (0, need), (0, due), (0, one), (0, many)] [(0, due), (0, (μ 204 (many - 1)) + need)] μ [pm_in (many - 1), 0 ≤ many - 1 ∧ many - 1 < 501, pm_in ((μ 204 (many - 1)) + need)] rfl ⟨pm_in_mk (by omega) (by omega), ⟨by omega, by omega⟩, pm_in_mk (by omega) (by omega), trivial⟩ ?_
      refine pm_icmp hK zmm87 .gt 26 140 rfl rfl (fun h1 => ?_) (fun h1 => ?_)
      · have h1 : due < (μ 204 (many - 1)) + need := h1
        refine pm_blk hK zmm87 [] 2 97 [(2, 202), (2, 33), (2, 35), (2, 203), (2, 204), (0, most), (0, i), (0, need), (0, due), (0, one), (0, many + (-1))] [] μ [pm_in (many + (-1))] rfl ⟨pm_in_mk (by omega) (by omega), trivial⟩ ?_
        refine ih _ (by omega) rfl ⟨by omega, by omega⟩ (fun m m0 m1 => hA m m0 (by omega)) (fun m m0 m1 => ?_) hC hfr hT
        by_cases hm : m = many
        · rw [hm, a2, if_neg (by omega)]
        · exact hB m (by omega) m1
      · have h1 : (μ 204 (many - 1)) + need ≤ due := h1
        have f2 := zT_get hT zs204_0 (i := many) (by omega) (by omega)
        refine pm_blk hK zmm87 [] 12 136 [(2, 202), (2, 33), (2, 35), (2, 203), (2, 204), (0, most), (0, i), (0, need), (0, due), (0, one), (0, many)] [(0, (μ 204 (many - 1)) + need), (0, μ 204 many), (0, many), (2, 204)] μ [0 ≤ many ∧ many < 501, pm_in (many - 1), 0 ≤ many - 1 ∧ many - 1 < 501, pm_in ((μ 204 (many - 1)) + need)] rfl ⟨⟨by omega, by omega⟩, pm_in_mk (by omega) (by omega), ⟨by omega, by omega⟩, pm_in_mk (by omega) (by omega), trivial⟩ ?_
        refine pm_call hK zmm87 (43, 1, 30, 2) zM30 (0, 0) [(0, μ 204 many), (0, (μ 204 (many - 1)) + need)] [(0, many), (2, 204)] rfl rfl rfl rfl ⟨by omega, by rw [zn30]; omega⟩ (zh_min hK ⟨Nat.le_refl _, Nat.le_refl _⟩) (fun st1 μc1 hp1 => ?_)
        obtain ⟨rfl, rfl⟩ := hp1
        refine pm_blk hK zmm87 [] 1 140 [(2, 202), (2, 33), (2, 35), (2, 203), (2, 204), (0, most), (0, i), (0, need), (0, due), (0, one), (0, many)] [] (pm_up μ 204 many (min (μ 204 many) ((μ 204 (many - 1)) + need))) [sx_bit Wm 204 = true, 0 ≤ many ∧ many < 501] rfl ⟨hb204, ⟨by omega, by omega⟩, trivial⟩ ?_
        obtain ⟨μ1, eμ1⟩ : ∃ μ', μ' = pm_up μ 204 many (min (μ 204 many) ((μ 204 (many - 1)) + need)) := ⟨_, rfl⟩
        rw [← eμ1]
        have hTμ1 : zTJ φ μ1 := by rw [eμ1]; exact zT_up hT zs204_0 rfl (i := many) (by omega) (by omega) (by omega) (by omega)
        refine pm_blk hK zmm87 [] 2 97 [(2, 202), (2, 33), (2, 35), (2, 203), (2, 204), (0, most), (0, i), (0, need), (0, due), (0, one), (0, many + (-1))] [] μ1 [pm_in (many + (-1))] rfl ⟨pm_in_mk (by omega) (by omega), trivial⟩ ?_
        refine ih _ (by omega) rfl ⟨by omega, by omega⟩ (fun m m0 m1 => by rw [eμ1, pm_up_ne (by omega)]; exact hA m m0 (by omega)) (fun m m0 m1 => ?_) (fun h => by rw [eμ1, pm_up_ne (by omega)]; exact hC h) (fun r hr => by rw [eμ1, pm_up_row hr]; exact hfr r hr) hTμ1
        by_cases hm : m = many
        · rw [hm, eμ1, pm_up_eq, a2, a1, if_pos (by omega)]
        · rw [eμ1, pm_up_ne hm]; exact hB m (by omega) m1
set_option maxRecDepth 100000 in
theorem zl_qm1 (hK : zKK ST)  {μ0 : pm_Mem} (ho : ∀ q : Int, 0 ≤ q → q < μ0 33 1 → 0 ≤ μ0 203 q ∧ μ0 203 q < 10) (hb204 : sx_bit Wm 204 = true) (hbd : 1 ≤ bud.1 ∧ 21 ≤ bud.2.1) : ∀ (n : Nat) {most i : Int} {μ : pm_Mem}, (10 - i).toNat = n → ∀ (hi : 0 ≤ i ∧ i ≤ μ0 33 1) (hm : 0 ≤ most ∧ most ≤ i) (hI : zqI (fun j => zoN (μ0 34) (zoO (μ0 203) j)) (fun j => zoN (μ0 36) (zoO (μ0 203) j)) i.toNat most.toNat (fun m : Nat => μ 204 (m : Int))) (hL : ∀ m : Int, 0 ≤ m → m ≤ most → 0 ≤ μ 204 m ∧ μ 204 m ≤ 20 * i) (hfr : ∀ r, r ≠ 204 → μ r = μ0 r) (hT : zTJ φ μ), zW D Wm ST b0 l Sg zM87 bud (pm_X zM87 (fun st' μ' => (∃ x ls, st' = [(0, x)] ∧ 0 ≤ x ∧ zqI (fun j => zoN (μ0 34) (zoO (μ0 203) j)) (fun j => zoN (μ0 36) (zoO (μ0 203) j)) (μ0 33 1).toNat x.toNat ls) ∧ zTJ φ μ')) 22 [(2, 202), (2, 33), (2, 35), (2, 203), (2, 204), (0, most), (0, i), (9, 0), (9, 0), (9, 0), (9, 0)] [] μ := by
  intro n
  induction n using Nat.strongRecOn with
  | ind n ih =>
    intro most i μ hn hi hm hI hL hfr hT
    have e33 : μ 33 1 = μ0 33 1 := by rw [hfr 33 (by decide)]
    have f33 := zT_get hT zs33_1 (i := 1) (by omega) (by omega)
    have e203 : ∀ q, μ 203 q = μ0 203 q := fun q => by rw [hfr 203 (by decide)]
    have f1 := zT_get hT zs33_1 (i := 1) (by omega) (by omega)
    refine pm_blk hK zmm87 [] 3 28 [(2, 202), (2, 33), (2, 35), (2, 203), (2, 204), (0, most), (0, i), (9, 0), (9, 0), (9, 0), (9, 0)] [(0, μ 33 1), (0, i)] μ [] rfl trivial ?_
    refine pm_icmp hK zmm87 .ge 140 168 rfl rfl (fun h0 => ?_) (fun h0 => ?_)
    · have h0 : μ 33 1 ≤ i := h0
      refine pm_blk hK zmm87 [] 1 170 [(2, 202), (2, 33), (2, 35), (2, 203), (2, 204), (0, most), (0, i), (9, 0), (9, 0), (9, 0), (9, 0)] [(0, most)] μ [] rfl trivial ?_
      have ei : i = μ0 33 1 := by omega
      rw [ei] at hI
      exact pm_iret rfl rfl ⟨⟨_, _, rfl, by omega, hI⟩, hT⟩
    · have h0 : i < μ 33 1 := h0
      have ho1 := ho i (by omega) (by omega)
      rw [← e203 i] at ho1
      have f2 := zT_get hT zs203_0 (i := i) (by omega) (by omega)
      have f3 := zT_get hT zs34_0 (i := μ 203 i) (by omega) (by omega)
      have f4 := zT_get hT zs36_0 (i := μ 203 i) (by omega) (by omega)
      refine pm_blk hK zmm87 [] 14 53 [(2, 202), (2, 33), (2, 35), (2, 203), (2, 204), (0, most), (0, i), (0, μ 34 (μ 203 i)), (0, μ 36 (μ 203 i)), (9, 0), (9, 0)] [] μ [0 ≤ i ∧ i < 501, 0 ≤ μ 203 i ∧ μ 203 i < 10, 0 ≤ i ∧ i < 501, 0 ≤ μ 203 i ∧ μ 203 i < 10] rfl ⟨⟨by omega, by omega⟩, ⟨by omega, by omega⟩, ⟨by omega, by omega⟩, ⟨by omega, by omega⟩, trivial⟩ ?_
      have lm := hL most (by omega) (by omega)
      have eo : zoO (μ0 203) i.toNat = (μ 203 i).toNat := by unfold zoO; rw [show ((i.toNat : Nat) : Int) = i by omega, ← e203 i]
      have hG : zoN (μ0 34) (zoO (μ0 203) i.toNat) = μ 34 (μ 203 i) := by rw [eo, zoN_at (by omega), show (((μ 203 i).toNat : Nat) : Int) = μ 203 i by omega, hfr 34 (by decide)]
      have hD : zoN (μ0 36) (zoO (μ0 203) i.toNat) = μ 36 (μ 203 i) := by rw [eo, zoN_at (by omega), show (((μ 203 i).toNat : Nat) : Int) = μ 203 i by omega, hfr 36 (by decide)]
      have f5 := zT_get hT zs204_0 (i := most) (by omega) (by omega)
      refine pm_blk hK zmm87 [] 6 63 [(2, 202), (2, 33), (2, 35), (2, 203), (2, 204), (0, most), (0, i), (0, μ 34 (μ 203 i)), (0, μ 36 (μ 203 i)), (9, 0), (9, 0)] [(0, μ 36 (μ 203 i)), (0, (μ 204 most) + (μ 34 (μ 203 i)))] μ [0 ≤ most ∧ most < 501, pm_in ((μ 204 most) + (μ 34 (μ 203 i)))] rfl ⟨⟨by omega, by omega⟩, pm_in_mk (by omega) (by omega), trivial⟩ ?_
      refine pm_icmp hK zmm87 .gt 7 70 rfl rfl (fun h1 => ?_) (fun h1 => ?_)
      · have h1 : μ 36 (μ 203 i) < (μ 204 most) + (μ 34 (μ 203 i)) := h1
        refine pm_blk hK zmm87 [] 3 75 [(2, 202), (2, 33), (2, 35), (2, 203), (2, 204), (0, most), (0, i), (0, μ 34 (μ 203 i)), (0, μ 36 (μ 203 i)), (0, 0), (9, 0)] [(0, 0)] μ [] rfl trivial ?_
        refine pm_if hK zmm87 .eq 18 93 rfl rfl (fun h2 => ?_) (fun h2 => ?_)
        · have h2 : (0 : Int) = (0 : Int) := h2
          refine pm_blk hK zmm87 [] 2 97 [(2, 202), (2, 33), (2, 35), (2, 203), (2, 204), (0, most), (0, i), (0, μ 34 (μ 203 i)), (0, μ 36 (μ 203 i)), (0, 0), (0, most)] [] μ [] rfl trivial ?_
          refine zl_qm2 hK (μ0 := μ0) (L := μ 204) ⟨by omega, by omega⟩ ⟨by omega, by omega⟩ (fun m m0 m1 => by have := hL m m0 m1; omega) hb204 (fun μ2 hA0 hB2 hC2 hfr2 hT2 => ?_) hbd _ rfl ⟨by omega, by omega⟩ (fun _ _ _ => rfl) (fun m m0 m1 => absurd m1 (by omega)) (fun h => absurd h (by omega)) hfr hT
          refine pm_blk hK zmm87 [] 1 148 [(2, 202), (2, 33), (2, 35), (2, 203), (2, 204), (0, most), (0, i), (0, μ 34 (μ 203 i)), (0, μ 36 (μ 203 i)), (0, 0), (9, 0)] [(0, 0)] μ2 [] rfl trivial ?_
          refine pm_if hK zmm87 .eq 10 158 rfl rfl (fun hy0 => ?_) (fun hy0 => ?_)
          · have hy0 : (0 : Int) = (0 : Int) := hy0
            refine pm_blk hK zmm87 [] 4 22 [(2, 202), (2, 33), (2, 35), (2, 203), (2, 204), (0, most), (0, i + 1), (0, μ 34 (μ 203 i)), (0, μ 36 (μ 203 i)), (0, 0), (9, 0)] [] μ2 [pm_in (i + 1)] rfl ⟨pm_in_mk (by omega) (by omega), trivial⟩ ?_
            refine pm_hide [7, 8, 9] ?_
            exact ih _ (by omega) rfl ⟨by omega, by omega⟩ ⟨by omega, by omega⟩ ((zqI_w (by omega) (by omega) hI hG hD hA0 hB2 hC2).2 (by omega)) (zqI_b (need := μ 34 (μ 203 i)) (due := μ 36 (μ 203 i)) ⟨by omega, by omega⟩ hL hA0 hB2) hfr2 hT2
          · have hy0 : (0 : Int) ≠ (0 : Int) := hy0
            exact absurd hy0 (by decide)
        · have h2 : (0 : Int) ≠ (0 : Int) := h2
          exact absurd h2 (by decide)
      · have h1 : (μ 204 most) + (μ 34 (μ 203 i)) ≤ μ 36 (μ 203 i) := h1
        refine pm_blk hK zmm87 [] 4 75 [(2, 202), (2, 33), (2, 35), (2, 203), (2, 204), (0, most), (0, i), (0, μ 34 (μ 203 i)), (0, μ 36 (μ 203 i)), (0, 1), (9, 0)] [(0, 1)] μ [] rfl trivial ?_
        refine pm_if hK zmm87 .eq 18 93 rfl rfl (fun h3 => ?_) (fun h3 => ?_)
        · have h3 : (1 : Int) = (0 : Int) := h3
          exact absurd h3 (by decide)
        · have h3 : (1 : Int) ≠ (0 : Int) := h3
          refine pm_blk hK zmm87 [] 10 93 [(2, 202), (2, 33), (2, 35), (2, 203), (2, 204), (0, most), (0, i), (0, μ 34 (μ 203 i)), (0, μ 36 (μ 203 i)), (0, 1), (9, 0)] [] (pm_up μ 204 (most + 1) ((μ 204 most) + (μ 34 (μ 203 i)))) [pm_in (most + 1), 0 ≤ most ∧ most < 501, pm_in ((μ 204 most) + (μ 34 (μ 203 i))), sx_bit Wm 204 = true, 0 ≤ most + 1 ∧ most + 1 < 501] rfl ⟨pm_in_mk (by omega) (by omega), ⟨by omega, by omega⟩, pm_in_mk (by omega) (by omega), hb204, ⟨by omega, by omega⟩, trivial⟩ ?_
          obtain ⟨μ1, eμ1⟩ : ∃ μ', μ' = pm_up μ 204 (most + 1) ((μ 204 most) + (μ 34 (μ 203 i))) := ⟨_, rfl⟩
          rw [← eμ1]
          have hTμ1 : zTJ φ μ1 := by rw [eμ1]; exact zT_up hT zs204_0 rfl (i := most + 1) (by omega) (by omega) (by omega) (by omega)
          refine pm_blk hK zmm87 [] 2 97 [(2, 202), (2, 33), (2, 35), (2, 203), (2, 204), (0, most), (0, i), (0, μ 34 (μ 203 i)), (0, μ 36 (μ 203 i)), (0, 1), (0, most)] [] μ1 [] rfl trivial ?_
          refine zl_qm2 hK (μ0 := μ0) (L := μ 204) ⟨by omega, by omega⟩ ⟨by omega, by omega⟩ (fun m m0 m1 => by have := hL m m0 m1; omega) hb204 (fun μ2 hA0 hB2 hC2 hfr2 hT2 => ?_) hbd _ rfl ⟨by omega, by omega⟩ (fun m m0 m1 => by rw [eμ1, pm_up_ne (by omega)]) (fun m m0 m1 => absurd m1 (by omega)) (fun _ => by rw [eμ1, pm_up_eq]) (fun r hr => by rw [eμ1, pm_up_row hr]; exact hfr r hr) hTμ1
          refine pm_blk hK zmm87 [] 1 148 [(2, 202), (2, 33), (2, 35), (2, 203), (2, 204), (0, most), (0, i), (0, μ 34 (μ 203 i)), (0, μ 36 (μ 203 i)), (0, 1), (9, 0)] [(0, 1)] μ2 [] rfl trivial ?_
          refine pm_if hK zmm87 .eq 10 158 rfl rfl (fun hy0 => ?_) (fun hy0 => ?_)
          · have hy0 : (1 : Int) = (0 : Int) := hy0
            exact absurd hy0 (by decide)
          · have hy0 : (1 : Int) ≠ (0 : Int) := hy0
            refine pm_blk hK zmm87 [] 7 22 [(2, 202), (2, 33), (2, 35), (2, 203), (2, 204), (0, most + 1), (0, i + 1), (0, μ 34 (μ 203 i)), (0, μ 36 (μ 203 i)), (0, 1), (9, 0)] [] μ2 [pm_in (most + 1), pm_in (i + 1)] rfl ⟨pm_in_mk (by omega) (by omega), pm_in_mk (by omega) (by omega), trivial⟩ ?_
            refine pm_hide [7, 8, 9] ?_
            refine ih _ (by omega) rfl ⟨by omega, by omega⟩ ⟨by omega, by omega⟩ ((zqI_w (by omega) (by omega) hI hG hD hA0 hB2 hC2).1 (by omega)) (fun m m0 m1 => ?_) hfr2 hT2
            by_cases hm2 : m = most + 1
            · rw [hm2, hC2 (by omega)]; omega
            · exact zqI_b (need := μ 34 (μ 203 i)) (due := μ 36 (μ 203 i)) ⟨by omega, by omega⟩ hL hA0 hB2 m m0 (by omega)
set_option maxRecDepth 100000 in
theorem zh_qmost (hK : zKK ST) (ho : ∀ q : Int, 0 ≤ q → q < μ 33 1 → 0 ≤ μ 203 q ∧ μ 203 q < 10) (hT : zTJ φ μ) (hb204 : sx_bit Wm 204 = true) (hbd : 1 ≤ bud.1 ∧ 21 ≤ bud.2.1) : zC D Wm ST b0 l Sg zM87 bud [(2, 202), (2, 33), (2, 35)] μ (fun st' μ' => (∃ x ls, st' = [(0, x)] ∧ 0 ≤ x ∧ zqI (fun j => zoN (μ 34) (zoO (μ 203) j)) (fun j => zoN (μ 36) (zoO (μ 203) j)) (μ 33 1).toNat x.toNat ls) ∧ zTJ φ μ') := by
  have f33 := zT_get hT zs33_1 (i := 1) (by omega) (by omega)
  refine pm_blk hK zmm87 [] 12 19 [(2, 202), (2, 33), (2, 35), (2, 203), (2, 204), (0, 0), (9, 0), (9, 0), (9, 0), (9, 0), (9, 0)] [] (pm_up μ 204 0 0) [sx_bit Wm 204 = true, 0 ≤ 0 ∧ 0 < 501] rfl ⟨hb204, ⟨by omega, by omega⟩, trivial⟩ ?_
  obtain ⟨μ1, eμ1⟩ : ∃ μ', μ' = pm_up μ 204 0 0 := ⟨_, rfl⟩
  rw [← eμ1]
  have hTμ1 : zTJ φ μ1 := by rw [eμ1]; exact zT_up hT zs204_0 rfl (i := 0) (by omega) (by omega) (by omega) (by omega)
  refine pm_blk hK zmm87 [] 2 22 [(2, 202), (2, 33), (2, 35), (2, 203), (2, 204), (0, 0), (0, 0), (9, 0), (9, 0), (9, 0), (9, 0)] [] μ1 [] rfl trivial ?_
  refine zl_qm1 hK (μ0 := μ) ho hb204 hbd _ rfl ⟨by omega, by omega⟩ ⟨by omega, by omega⟩ (zqI_0 (by show μ1 204 0 = 0; rw [eμ1, pm_up_eq])) (fun m m0 m1 => ?_) (fun r hr => by rw [eμ1, pm_up_row hr]) hTμ1
  obtain rfl : m = 0 := by omega
  rw [eμ1, pm_up_eq]
  omega
set_option maxRecDepth 100000 in
theorem zl_qla (hK : zKK ST)  (ho : ∀ q : Int, 0 ≤ q → q < μ 33 1 → 0 ≤ μ 203 q ∧ μ 203 q < 10) (hT : zTJ φ μ) (hbd : 1 ≤ bud.1 ∧ 21 ≤ bud.2.1) : ∀ (n : Nat) {t v i : Int}, (10 - i).toNat = n → ∀ (hi : 0 ≤ i ∧ i ≤ μ 33 1) (ht : t = zqT (fun j => zoN (μ 34) (zoO (μ 203) j)) (fun _ => true) i.toNat) (hv : v = zqL (fun j => zoN (μ 34) (zoO (μ 203) j)) (fun j => zoN (μ 36) (zoO (μ 203) j)) (fun _ => true) i.toNat) (ht2 : 0 ≤ t ∧ t ≤ 20 * i) (hv2 : 0 ≤ v ∧ v ≤ 200 * i), zW D Wm ST b0 l Sg zM88 bud (pm_X zM88 (fun st' μ' => μ = μ' ∧ ∃ x, st' = [(0, x)] ∧ x = zqL (fun j => zoN (μ 34) (zoO (μ 203) j)) (fun j => zoN (μ 36) (zoO (μ 203) j)) (fun _ => true) (μ 33 1).toNat)) 14 [(2, 202), (2, 33), (2, 35), (2, 203), (0, t), (0, v), (0, i)] [] μ := by
  intro n
  induction n using Nat.strongRecOn with
  | ind n ih =>
    intro t v i hn hi ht hv ht2 hv2
    have f33 := zT_get hT zs33_1 (i := 1) (by omega) (by omega)
    have f1 := zT_get hT zs33_1 (i := 1) (by omega) (by omega)
    refine pm_blk hK zmm88 [] 3 20 [(2, 202), (2, 33), (2, 35), (2, 203), (0, t), (0, v), (0, i)] [(0, μ 33 1), (0, i)] μ [] rfl trivial ?_
    refine pm_icmp hK zmm88 .ge 44 64 rfl rfl (fun h0 => ?_) (fun h0 => ?_)
    · have h0 : μ 33 1 ≤ i := h0
      refine pm_blk hK zmm88 [] 1 66 [(2, 202), (2, 33), (2, 35), (2, 203), (0, t), (0, v), (0, i)] [(0, v)] μ [] rfl trivial ?_
      have ei : i = μ 33 1 := by omega
      rw [ei] at hv
      exact pm_iret rfl rfl ⟨rfl, _, rfl, hv⟩
    · have h0 : i < μ 33 1 := h0
      have ho1 := ho i (by omega) (by omega)
      have eo : zoO (μ 203) i.toNat = (μ 203 i).toNat := by unfold zoO; rw [show ((i.toNat : Nat) : Int) = i by omega]
      have hG : zoN (μ 34) (zoO (μ 203) i.toNat) = μ 34 (μ 203 i) := by rw [eo, zoN_at (by omega), show (((μ 203 i).toNat : Nat) : Int) = μ 203 i by omega]
      have hD : zoN (μ 36) (zoO (μ 203) i.toNat) = μ 36 (μ 203 i) := by rw [eo, zoN_at (by omega), show (((μ 203 i).toNat : Nat) : Int) = μ 203 i by omega]
      have f2 := zT_get hT zs203_0 (i := i) (by omega) (by omega)
      have f3 := zT_get hT zs34_0 (i := μ 203 i) (by omega) (by omega)
      have f4 := zT_get hT zs36_0 (i := μ 203 i) (by omega) (by omega)
      refine pm_blk hK zmm88 [] 19 52 [(2, 202), (2, 33), (2, 35), (2, 203), (0, t + (μ 34 (μ 203 i))), (0, v), (0, i)] [(0, (t + (μ 34 (μ 203 i))) - (μ 36 (μ 203 i))), (0, 0), (0, v)] μ [0 ≤ i ∧ i < 501, 0 ≤ μ 203 i ∧ μ 203 i < 10, pm_in (t + (μ 34 (μ 203 i))), 0 ≤ i ∧ i < 501, 0 ≤ μ 203 i ∧ μ 203 i < 10, pm_in ((t + (μ 34 (μ 203 i))) - (μ 36 (μ 203 i)))] rfl ⟨⟨by omega, by omega⟩, ⟨by omega, by omega⟩, pm_in_mk (by omega) (by omega), ⟨by omega, by omega⟩, ⟨by omega, by omega⟩, pm_in_mk (by omega) (by omega), trivial⟩ ?_
      refine pm_call hK zmm88 (37, 1, 34, 2) zM34 (0, 0) [(0, 0), (0, (t + (μ 34 (μ 203 i))) - (μ 36 (μ 203 i)))] [(0, v)] rfl rfl rfl rfl ⟨by omega, by rw [zn34]; omega⟩ (zh_max hK ⟨Nat.le_refl _, Nat.le_refl _⟩) (fun st1 μc1 hp1 => ?_)
      obtain ⟨rfl, rfl⟩ := hp1
      refine pm_blk hK zmm88 [] 4 14 [(2, 202), (2, 33), (2, 35), (2, 203), (0, t + (μ 34 (μ 203 i))), (0, v + (max 0 ((t + (μ 34 (μ 203 i))) - (μ 36 (μ 203 i))))), (0, i + 1)] [] μ [pm_in (v + (max 0 ((t + (μ 34 (μ 203 i))) - (μ 36 (μ 203 i))))), pm_in (i + 1)] rfl ⟨pm_in_mk (by omega) (by omega), pm_in_mk (by omega) (by omega), trivial⟩ ?_
      exact ih _ (by omega) rfl ⟨by omega, by omega⟩ (zqT_w (by omega) hG rfl ht) (zqL_w (by omega) hG hD rfl ht hv) ⟨by omega, by omega⟩ ⟨by omega, by omega⟩
set_option maxRecDepth 100000 in
theorem zh_qlate (hK : zKK ST) (ho : ∀ q : Int, 0 ≤ q → q < μ 33 1 → 0 ≤ μ 203 q ∧ μ 203 q < 10) (hT : zTJ φ μ) (hbd : 1 ≤ bud.1 ∧ 21 ≤ bud.2.1) : zC D Wm ST b0 l Sg zM88 bud [(2, 202), (2, 33), (2, 35)] μ (fun st' μ' => μ = μ' ∧ ∃ x, st' = [(0, x)] ∧ x = zqL (fun j => zoN (μ 34) (zoO (μ 203) j)) (fun j => zoN (μ 36) (zoO (μ 203) j)) (fun _ => true) (μ 33 1).toNat) := by
  have f33 := zT_get hT zs33_1 (i := 1) (by omega) (by omega)
  refine pm_blk hK zmm88 [] 9 14 [(2, 202), (2, 33), (2, 35), (2, 203), (0, 0), (0, 0), (0, 0)] [] μ [] rfl trivial ?_
  exact zl_qla hK ho hT hbd _ rfl ⟨by omega, by omega⟩ rfl rfl ⟨by omega, by omega⟩ ⟨by omega, by omega⟩
set_option maxRecDepth 100000 in
theorem zh_servedx (hK : zKK ST) {w : Int} (he : μ 33 1 = μ 35 1) (hT : zTJ φ μ) (hb203 : sx_bit Wm 203 = true) (hb204 : sx_bit Wm 204 = true) (hbd : 2 ≤ bud.1 ∧ 51 ≤ bud.2.1) : zC D Wm ST b0 l Sg zM85 bud [(2, 1), (0, w)] μ (fun st' μ' => zTJ φ μ' ∧ ∃ x, st' = [(0, x)] ∧ zsX (zoN (μ 34)) (zoN (μ 36)) (μ 33 1).toNat w x) := by
  have f35 := zT_get hT zs35_1 (i := 1) (by omega) (by omega)
  refine pm_blk hK zmm85 [] 3 3 [(2, 1), (0, w)] [(0, 1), (0, 0), (0, w)] μ [] rfl trivial ?_
  refine pm_call hK zmm85 (94, 1, 16, 3) zM16 (0, 0) [(0, w), (0, 0), (0, 1)] [] rfl rfl rfl rfl ⟨by omega, by rw [zn16]; omega⟩ (zh_within hK ⟨Nat.le_refl _, Nat.le_refl _⟩) (fun st1 μc1 hp1 => ?_)
  obtain ⟨rfl, rfl⟩ := hp1
  refine pm_if hK zmm85 .ne 5 11 rfl rfl (fun h0 => ?_) (fun h0 => ?_)
  · have h0 : (if 0 ≤ w ∧ w ≤ 1 then 1 else 0 : Int) ≠ (0 : Int) := h0
    have h0 := zif1 h0
    refine pm_blk hK zmm85 [] 5 22 [(2, 1), (0, w)] [(2, 35), (2, 202)] μ [] rfl trivial ?_
    refine pm_call hK zmm85 (330, 0, 86, 1) zM86 (0, 0) [(2, 202), (2, 35)] [] rfl rfl rfl rfl ⟨by omega, by rw [zn86]; omega⟩ (zh_qsort hK hT hb203 ⟨Nat.le_refl _, Nat.le_refl _⟩) (fun st2 μc2 hp2 => ?_)
    obtain ⟨rfl, hq2, hfr2, hTc2⟩ := hp2
    have ho1 : ∀ q : Int, 0 ≤ q → q < μc2 33 1 → 0 ≤ μc2 203 q ∧ μc2 203 q < 10 := fun q q0 q1 => by
      rw [hfr2 33 (by decide)] at q1
      have := hq2.1 q q0 (by omega)
      omega
    have w33 : μc2 33 = μ 33 := hfr2 33 (by decide)
    have w34 : μc2 34 = μ 34 := hfr2 34 (by decide)
    have w36 : μc2 36 = μ 36 := hfr2 36 (by decide)
    have hzo : zqO (zoN (μ 36)) (μ 33 1).toNat (zoO (μc2 203)) := by rw [he]; exact hq2.2
    refine pm_blk hK zmm85 [] 1 26 [(2, 1), (0, w)] [(0, w)] μc2 [] rfl trivial ?_
    refine pm_if hK zmm85 .ne 27 53 rfl rfl (fun h1 => ?_) (fun h1 => ?_)
    · have h1 : w ≠ (0 : Int) := h1
      refine pm_blk hK zmm85 [] 8 71 [(2, 1), (0, w)] [(2, 35), (2, 33), (2, 202)] μc2 [] rfl trivial ?_
      refine pm_call hK zmm85 (338, 0, 88, 2) zM88 (1, 21) [(2, 202), (2, 33), (2, 35)] [] rfl rfl rfl rfl ⟨by omega, by rw [zn88]; omega⟩ (zh_qlate hK ho1 hTc2 ⟨Nat.le_refl _, Nat.le_refl _⟩) (fun st3 μc3 hp3 => ?_)
      obtain ⟨rfl, x3, rfl, hI3⟩ := hp3
      rw [w33, w34, w36] at hI3
      have hA : zsX (zoN (μ 34)) (zoN (μ 36)) (μ 33 1).toNat w x3 := ⟨fun h => absurd (show w = 1 by omega) h.2, fun _ => ⟨_, hzo, hI3⟩, fun h => absurd h (by omega)⟩
      exact pm_iret rfl rfl ⟨hTc2, _, rfl, hA⟩
    · have h1 : w = (0 : Int) := h1
      refine pm_blk hK zmm85 [] 8 47 [(2, 1), (0, w)] [(2, 35), (2, 33), (2, 202)] μc2 [] rfl trivial ?_
      refine pm_call hK zmm85 (334, 0, 87, 2) zM87 (1, 21) [(2, 202), (2, 33), (2, 35)] [] rfl rfl rfl rfl ⟨by omega, by rw [zn87]; omega⟩ (zh_qmost hK ho1 hTc2 hb204 ⟨Nat.le_refl _, Nat.le_refl _⟩) (fun st4 μc4 hp4 => ?_)
      obtain ⟨⟨x4, ls4, rfl, hx4, hI4⟩, hTc4⟩ := hp4
      rw [w33, w34, w36] at hI4
      have hA : zsX (zoN (μ 34)) (zoN (μ 36)) (μ 33 1).toNat w x4 := ⟨fun h => absurd (show w = 0 by omega) h.1, fun h => absurd h (by omega), fun _ => ⟨_, ls4, hzo, hx4, hI4⟩⟩
      refine pm_blk hK zmm85 [] 1 74 [(2, 1), (0, w)] [(0, x4)] μc4 [] rfl trivial ?_
      exact pm_iret rfl rfl ⟨hTc4, _, rfl, hA⟩
  · have h0 : (if 0 ≤ w ∧ w ≤ 1 then 1 else 0 : Int) = (0 : Int) := h0
    have h0 := zif0 h0
    refine pm_blk hK zmm85 [] 1 10 [(2, 1), (0, w)] [(0, (-1))] μ [] rfl trivial ?_
    exact pm_iret rfl rfl ⟨hT, _, rfl, fun _ => rfl, fun h => absurd h (by omega), fun h => absurd h (by omega)⟩
set_option maxRecDepth 100000 in
theorem zl_qf2 (hK : zKK ST) {X : Nat → List pm_V → List pm_V → pm_Mem → Prop} {d k : Int} {N : Nat} (hd : 0 ≤ d ∧ d ≤ 1023) (hN : N ≤ 10) (hT : zTJ φ μ) (K : ∀ (x : Int), -1 ≤ x ∧ x ≤ 9 → zfx (zoN (μ 235)) N d.toNat (-1) x → zW D Wm ST b0 l Sg zM182 bud X 67 [(2, 205), (0, d), (0, k), (0, x), (9, 0)] [] μ) (hbd : 1 ≤ bud.1 ∧ 22 ≤ bud.2.1) : ∀ (n : Nat) {x e : Int}, (e + 1).toNat = n → ∀ (he : -1 ≤ e ∧ e ≤ 9) (he2 : e < N) (hx : -1 ≤ x ∧ x ≤ 9) (hx2 : zfx (zoN (μ 235)) N d.toNat e x), zW D Wm ST b0 l Sg zM182 bud X 22 [(2, 205), (0, d), (0, k), (0, x), (0, e)] [] μ := by
  intro n
  induction n using Nat.strongRecOn with
  | ind n ih =>
    intro x e hn he he2 hx hx2
    refine pm_blk hK zmm182 [] 1 24 [(2, 205), (0, d), (0, k), (0, x), (0, e)] [(0, e)] μ [] rfl trivial ?_
    refine pm_if hK zmm182 .lt 43 67 rfl rfl (fun h0 => ?_) (fun h0 => ?_)
    · have h0 : e < (0 : Int) := h0
      refine pm_hide [4] ?_
      have e1 : e = -1 := by omega
      subst e1
      exact K x hx hx2
    · have h0 : (0 : Int) ≤ e := h0
      refine pm_blk hK zmm182 [] 3 31 [(2, 205), (0, d), (0, k), (0, x), (0, e)] [(0, e), (0, d), (2, 205)] μ [] rfl trivial ?_
      refine pm_call hK zmm182 (417, 0, 169, 2) zM169 (0, 0) [(2, 205), (0, d), (0, e)] [] rfl rfl rfl rfl ⟨by omega, by rw [zn169]; omega⟩ (zh_has hK ⟨by omega, by omega⟩ ⟨by omega, by omega⟩ ⟨Nat.le_refl _, Nat.le_refl _⟩) (fun st1 μc1 hp1 => ?_)
      obtain ⟨rfl, rfl⟩ := hp1
      refine pm_if hK zmm182 .ne 27 61 rfl rfl (fun h1 => ?_) (fun h1 => ?_)
      · have h1 : (if d.toNat.testBit e.toNat = true then 1 else 0 : Int) ≠ (0 : Int) := h1
        have h1 := zif1 h1
        refine pm_blk hK zmm182 [] 2 22 [(2, 205), (0, d), (0, k), (0, x), (0, e + (-1))] [] μ [pm_in (e + (-1))] rfl ⟨pm_in_mk (by omega) (by omega), trivial⟩ ?_
        have e9 : e + (-1) = e - 1 := by omega
        rw [e9]
        first
        | exact ih _ (by omega) rfl ⟨by omega, by omega⟩ (by omega) hx (zfx_done (by omega) hx2 (by assumption))
        | exact ih _ (by omega) rfl ⟨by omega, by omega⟩ (by omega) hx (zfx_old (by omega) (by omega) hx2 (by rw [ze, zx]; exact h1))
        | exact ih _ (by omega) rfl ⟨by omega, by omega⟩ (by omega) ⟨by omega, by omega⟩ (zfx_new ⟨by omega, by omega⟩ (by omega) hx2 (Bool.eq_false_iff.mpr (by assumption)) (Or.inl (by omega)))
        | exact ih _ (by omega) rfl ⟨by omega, by omega⟩ (by omega) ⟨by omega, by omega⟩ (zfx_new ⟨by omega, by omega⟩ (by omega) hx2 (Bool.eq_false_iff.mpr (by assumption)) (Or.inr (by rw [ze, zx]; exact h1)))
      · have h1 : (if d.toNat.testBit e.toNat = true then 1 else 0 : Int) = (0 : Int) := h1
        have h1 := zif0 h1
        refine pm_blk hK zmm182 [] 2 39 [(2, 205), (0, d), (0, k), (0, x), (0, e)] [(0, (-1)), (0, x)] μ [] rfl trivial ?_
        refine pm_icmp hK zmm182 .eq 19 58 rfl rfl (fun h2 => ?_) (fun h2 => ?_)
        · have h2 : x = ((-1) : Int) := h2
          refine pm_blk hK zmm182 [] 4 22 [(2, 205), (0, d), (0, k), (0, e), (0, e + (-1))] [] μ [pm_in (e + (-1))] rfl ⟨pm_in_mk (by omega) (by omega), trivial⟩ ?_
          have e9 : e + (-1) = e - 1 := by omega
          rw [e9]
          first
          | exact ih _ (by omega) rfl ⟨by omega, by omega⟩ (by omega) hx (zfx_done (by omega) hx2 (by assumption))
          | exact ih _ (by omega) rfl ⟨by omega, by omega⟩ (by omega) hx (zfx_old (by omega) (by omega) hx2 (by rw [ze, zx]; exact h2))
          | exact ih _ (by omega) rfl ⟨by omega, by omega⟩ (by omega) ⟨by omega, by omega⟩ (zfx_new ⟨by omega, by omega⟩ (by omega) hx2 (Bool.eq_false_iff.mpr (by assumption)) (Or.inl (by omega)))
          | exact ih _ (by omega) rfl ⟨by omega, by omega⟩ (by omega) ⟨by omega, by omega⟩ (zfx_new ⟨by omega, by omega⟩ (by omega) hx2 (Bool.eq_false_iff.mpr (by assumption)) (Or.inr (by rw [ze, zx]; exact h2)))
        · have h2 : x ≠ ((-1) : Int) := h2
          have ze : zoN (μ 235) e.toNat = μ 235 e := by rw [zoN_at (by omega), show ((e.toNat : Nat) : Int) = e by omega]
          have zx : zoN (μ 235) x.toNat = μ 235 x := by rw [zoN_at (by omega), show ((x.toNat : Nat) : Int) = x by omega]
          have f1 := zT_get hT zs235_0 (i := e) (by omega) (by omega)
          have f2 := zT_get hT zs235_0 (i := x) (by omega) (by omega)
          refine pm_blk hK zmm182 [] 8 55 [(2, 205), (0, d), (0, k), (0, x), (0, e)] [(0, μ 235 x), (0, μ 235 e)] μ [0 ≤ e ∧ e < 10, 0 ≤ x ∧ x < 10] rfl ⟨⟨by omega, by omega⟩, ⟨by omega, by omega⟩, trivial⟩ ?_
          refine pm_icmp hK zmm182 .gt 6 61 rfl rfl (fun h3 => ?_) (fun h3 => ?_)
          · have h3 : μ 235 x < μ 235 e := h3
            refine pm_blk hK zmm182 [] 2 22 [(2, 205), (0, d), (0, k), (0, x), (0, e + (-1))] [] μ [pm_in (e + (-1))] rfl ⟨pm_in_mk (by omega) (by omega), trivial⟩ ?_
            have e9 : e + (-1) = e - 1 := by omega
            rw [e9]
            first
            | exact ih _ (by omega) rfl ⟨by omega, by omega⟩ (by omega) hx (zfx_done (by omega) hx2 (by assumption))
            | exact ih _ (by omega) rfl ⟨by omega, by omega⟩ (by omega) hx (zfx_old (by omega) (by omega) hx2 (by rw [ze, zx]; exact h3))
            | exact ih _ (by omega) rfl ⟨by omega, by omega⟩ (by omega) ⟨by omega, by omega⟩ (zfx_new ⟨by omega, by omega⟩ (by omega) hx2 (Bool.eq_false_iff.mpr (by assumption)) (Or.inl (by omega)))
            | exact ih _ (by omega) rfl ⟨by omega, by omega⟩ (by omega) ⟨by omega, by omega⟩ (zfx_new ⟨by omega, by omega⟩ (by omega) hx2 (Bool.eq_false_iff.mpr (by assumption)) (Or.inr (by rw [ze, zx]; exact h3)))
          · have h3 : μ 235 e ≤ μ 235 x := h3
            refine pm_blk hK zmm182 [] 4 22 [(2, 205), (0, d), (0, k), (0, e), (0, e + (-1))] [] μ [pm_in (e + (-1))] rfl ⟨pm_in_mk (by omega) (by omega), trivial⟩ ?_
            have e9 : e + (-1) = e - 1 := by omega
            rw [e9]
            first
            | exact ih _ (by omega) rfl ⟨by omega, by omega⟩ (by omega) hx (zfx_done (by omega) hx2 (by assumption))
            | exact ih _ (by omega) rfl ⟨by omega, by omega⟩ (by omega) hx (zfx_old (by omega) (by omega) hx2 (by rw [ze, zx]; exact h3))
            | exact ih _ (by omega) rfl ⟨by omega, by omega⟩ (by omega) ⟨by omega, by omega⟩ (zfx_new ⟨by omega, by omega⟩ (by omega) hx2 (Bool.eq_false_iff.mpr (by assumption)) (Or.inl (by omega)))
            | exact ih _ (by omega) rfl ⟨by omega, by omega⟩ (by omega) ⟨by omega, by omega⟩ (zfx_new ⟨by omega, by omega⟩ (by omega) hx2 (Bool.eq_false_iff.mpr (by assumption)) (Or.inr (by rw [ze, zx]; exact h3)))
set_option maxRecDepth 100000 in
theorem zl_qf1 (hK : zKK ST)  {μ0 : pm_Mem} (hb236 : sx_bit Wm 236 = true) (hbd : 1 ≤ bud.1 ∧ 22 ≤ bud.2.1) : ∀ (n : Nat) {d k : Int} {μ : pm_Mem}, (10 - k).toNat = n → ∀ (hk : 0 ≤ k ∧ k ≤ μ0 205 52) (hd : 0 ≤ d) (hz : zfo (zoN (μ0 235)) (μ0 205 52).toNat k.toNat d.toNat (zoO (μ 236))) (hr : ∀ q : Int, 0 ≤ q → q < k → 0 ≤ μ 236 q ∧ μ 236 q < 10) (hfr : ∀ r, r ≠ 236 → μ r = μ0 r) (hT : zTJ φ μ), zW D Wm ST b0 l Sg zM182 bud (pm_X zM182 (fun st' μ' => st' = [] ∧ zqO (zoN (μ0 235)) (μ0 205 52).toNat (zoO (μ' 236)) ∧ (∀ q : Int, 0 ≤ q → q < μ0 205 52 → 0 ≤ μ' 236 q ∧ μ' 236 q < 10) ∧ (∀ r, r ≠ 236 → μ' r = μ0 r) ∧ zTJ φ μ')) 4 [(2, 205), (0, d), (0, k), (9, 0), (9, 0)] [] μ := by
  intro n
  induction n using Nat.strongRecOn with
  | ind n ih =>
    intro d k μ hn hk hd hz hr hfr hT
    have e52 : μ 205 52 = μ0 205 52 := by rw [hfr 205 (by decide)]
    have f52 := zT_get hT zs205_52 (i := 52) (by omega) (by omega)
    have e235 : μ 235 = μ0 235 := hfr 235 (by decide)
    have hd2 : d.toNat < 1024 := Nat.lt_of_lt_of_le hz.2.1 (Nat.le_trans (Nat.pow_le_pow_right (by omega) (show (μ0 205 52).toNat ≤ 10 by omega)) (by decide))
    have f1 := zT_get hT zs205_52 (i := 52) (by omega) (by omega)
    refine pm_blk hK zmm182 [] 3 9 [(2, 205), (0, d), (0, k), (9, 0), (9, 0)] [(0, μ 205 52), (0, k)] μ [] rfl trivial ?_
    refine pm_icmp hK zmm182 .ge 77 86 rfl rfl (fun h0 => ?_) (fun h0 => ?_)
    · have h0 : μ 205 52 ≤ k := h0
      have ei : k = μ0 205 52 := by omega
      rw [ei] at hz hr
      exact pm_vret rfl rfl ⟨rfl, zfo_end hz, hr, hfr, hT⟩
    · have h0 : k < μ 205 52 := h0
      refine pm_blk hK zmm182 [] 7 22 [(2, 205), (0, d), (0, k), (0, (-1)), (0, (μ 205 52) - 1)] [] μ [pm_in ((μ 205 52) - 1)] rfl ⟨pm_in_mk (by omega) (by omega), trivial⟩ ?_
      refine zl_qf2 hK (N := (μ0 205 52).toNat) ⟨by omega, by omega⟩ (by omega) hT (fun x hx hx2 => ?_) hbd _ rfl ⟨by omega, by omega⟩ (by omega) ⟨by omega, by omega⟩ (by have z := zfx_0 (d := zoN (μ 235)) (N := (μ0 205 52).toNat) (s := d.toNat); rw [show (((μ0 205 52).toNat : Nat) : Int) - 1 = μ 205 52 - 1 by omega] at z; exact z)
      rw [e235] at hx2
      have hxn : 0 ≤ x := by
        by_cases hq : x = -1
        · exact absurd (fun z hz1 => hx2.1 hq z (by omega) hz1) (zfo_ex hz (by omega))
        · omega
      obtain ⟨-, y1, y2, y3⟩ := hx2.2 hxn
      have hs : pm_shl 1 x = ((2 ^ x.toNat : Nat) : Int) := by
        have q := zshl1 x.toNat (by omega)
        rw [show ((x.toNat : Nat) : Int) = x by omega] at q
        exact q
      have hp : (2 : Nat) ^ x.toNat ≤ 1024 := Nat.le_trans (Nat.pow_le_pow_right (by omega) (show x.toNat ≤ 10 by omega)) (by decide)
      have hp1 : 1 ≤ (2 : Nat) ^ x.toNat := Nat.two_pow_pos _
      have ho : pm_or d (pm_shl 1 x) = ((d.toNat ||| 2 ^ x.toNat : Nat) : Int) := by rw [hs, zor (by omega) (by omega) (by omega) (by omega), Int.toNat_natCast]
      have hdn : (pm_or d (pm_shl 1 x)).toNat = d.toNat ||| 2 ^ x.toNat := by rw [ho, Int.toNat_natCast]
      refine pm_blk hK zmm182 [] 11 80 [(2, 205), (0, pm_or d (pm_shl 1 x)), (0, k), (0, x), (9, 0)] [] (pm_up μ 236 k x) [sx_bit Wm 236 = true, 0 ≤ k ∧ k < 10] rfl ⟨hb236, ⟨by omega, by omega⟩, trivial⟩ ?_
      obtain ⟨μy1, eμy1⟩ : ∃ μ', μ' = pm_up μ 236 k x := ⟨_, rfl⟩
      rw [← eμy1]
      have hTμy1 : zTJ φ μy1 := by rw [eμy1]; exact zT_up hT zs236_0 rfl (i := k) (by omega) (by omega) (by omega) (by omega)
      refine pm_blk hK zmm182 [] 2 4 [(2, 205), (0, pm_or d (pm_shl 1 x)), (0, k + 1), (0, x), (9, 0)] [] μy1 [pm_in (k + 1)] rfl ⟨pm_in_mk (by omega) (by omega), trivial⟩ ?_
      refine pm_hide [3] ?_
      refine ih _ (by omega) rfl ⟨by omega, by omega⟩ (by rw [ho]; omega) ?_ (fun q q0 q1 => ?_) (fun r hr => by rw [eμy1, pm_up_row hr]; exact hfr r hr) hTμy1
      · rw [hdn, show (k + 1).toNat = k.toNat + 1 by omega]
        exact zfo_s hz (by omega) y2 (fun z z0 z1 z2 => y3 z (by omega) z0 z1 z2) (fun y hy => by unfold zoO; rw [eμy1, pm_up_ne (by omega)]) (by unfold zoO; rw [eμy1, show ((k.toNat : Nat) : Int) = k by omega, pm_up_eq])
      · by_cases hq : q = k
        · rw [hq, eμy1, pm_up_eq]; omega
        · rw [eμy1, pm_up_ne hq]; exact hr q q0 (by omega)
set_option maxRecDepth 100000 in
theorem zh_qfind (hK : zKK ST) (hT : zTJ φ μ) (hb236 : sx_bit Wm 236 = true) (hbd : 1 ≤ bud.1 ∧ 22 ≤ bud.2.1) : zC D Wm ST b0 l Sg zM182 bud [(2, 205)] μ (fun st' μ' => st' = [] ∧ zqO (zoN (μ 235)) (μ 205 52).toNat (zoO (μ' 236)) ∧ (∀ q : Int, 0 ≤ q → q < μ 205 52 → 0 ≤ μ' 236 q ∧ μ' 236 q < 10) ∧ (∀ r, r ≠ 236 → μ' r = μ r) ∧ zTJ φ μ') := by
  have f52 := zT_get hT zs205_52 (i := 52) (by omega) (by omega)
  refine pm_blk hK zmm182 [] 4 4 [(2, 205), (0, 0), (0, 0), (9, 0), (9, 0)] [] μ [] rfl trivial ?_
  exact zl_qf1 hK (μ0 := μ) hb236 hbd _ rfl ⟨by omega, by omega⟩ (by omega) zfo_0 (fun q q0 q1 => absurd q1 (by omega)) (fun r _ => rfl) hT
set_option maxRecDepth 100000 in
theorem zl_qlo (hK : zKK ST)  {s : Int} (hs : 0 ≤ s ∧ s ≤ 2147483647) (ho : ∀ q : Int, 0 ≤ q → q < μ 205 52 → 0 ≤ μ 236 q ∧ μ 236 q < 10) (hT : zTJ φ μ) (hbd : 1 ≤ bud.1 ∧ 22 ≤ bud.2.1) : ∀ (n : Nat) {t v k : Int}, (10 - k).toNat = n → ∀ (hk : 0 ≤ k ∧ k ≤ μ 205 52) (ht : t = zqT (fun j => zoN (μ 234) (zoO (μ 236) j)) (fun j => s.toNat.testBit (zoO (μ 236) j)) k.toNat) (hv : v = zqL (fun j => zoN (μ 234) (zoO (μ 236) j)) (fun j => zoN (μ 235) (zoO (μ 236) j)) (fun j => s.toNat.testBit (zoO (μ 236) j)) k.toNat) (ht2 : 0 ≤ t ∧ t ≤ 20 * k) (hv2 : 0 ≤ v ∧ v ≤ 200 * k), zW D Wm ST b0 l Sg zM183 bud (pm_X zM183 (fun st' μ' => μ = μ' ∧ ∃ x, st' = [(0, x)] ∧ x = zqLt (zoN (μ 234)) (zoN (μ 235)) (zoO (μ 236)) (μ 205 52).toNat s.toNat)) 7 [(2, 205), (0, s), (0, t), (0, v), (0, k), (9, 0)] [] μ := by
  intro n
  induction n using Nat.strongRecOn with
  | ind n ih =>
    intro t v k hn hk ht hv ht2 hv2
    have f52 := zT_get hT zs205_52 (i := 52) (by omega) (by omega)
    have f1 := zT_get hT zs205_52 (i := 52) (by omega) (by omega)
    refine pm_blk hK zmm183 [] 3 13 [(2, 205), (0, s), (0, t), (0, v), (0, k), (9, 0)] [(0, μ 205 52), (0, k)] μ [] rfl trivial ?_
    refine pm_icmp hK zmm183 .ge 58 71 rfl rfl (fun h0 => ?_) (fun h0 => ?_)
    · have h0 : μ 205 52 ≤ k := h0
      refine pm_blk hK zmm183 [] 1 72 [(2, 205), (0, s), (0, t), (0, v), (0, k), (9, 0)] [(0, v)] μ [] rfl trivial ?_
      have ei : k = μ 205 52 := by omega
      rw [ei] at hv
      exact pm_iret rfl rfl ⟨rfl, _, rfl, hv⟩
    · have h0 : k < μ 205 52 := h0
      have f2 := zT_get hT zs236_0 (i := k) (by omega) (by omega)
      refine pm_blk hK zmm183 [] 5 25 [(2, 205), (0, s), (0, t), (0, v), (0, k), (0, μ 236 k)] [] μ [0 ≤ k ∧ k < 10] rfl ⟨⟨by omega, by omega⟩, trivial⟩ ?_
      have ho1 := ho k (by omega) (by omega)
      have eo : zoO (μ 236) k.toNat = (μ 236 k).toNat := by unfold zoO; rw [show ((k.toNat : Nat) : Int) = k by omega]
      have hG : zoN (μ 234) (zoO (μ 236) k.toNat) = μ 234 (μ 236 k) := by rw [eo, zoN_at (by omega), show (((μ 236 k).toNat : Nat) : Int) = μ 236 k by omega]
      have hD : zoN (μ 235) (zoO (μ 236) k.toNat) = μ 235 (μ 236 k) := by rw [eo, zoN_at (by omega), show (((μ 236 k).toNat : Nat) : Int) = μ 236 k by omega]
      refine pm_blk hK zmm183 [] 3 29 [(2, 205), (0, s), (0, t), (0, v), (0, k), (0, μ 236 k)] [(0, μ 236 k), (0, s), (2, 205)] μ [] rfl trivial ?_
      refine pm_call hK zmm183 (417, 0, 169, 2) zM169 (0, 0) [(2, 205), (0, s), (0, μ 236 k)] [] rfl rfl rfl rfl ⟨by omega, by rw [zn169]; omega⟩ (zh_has hK ⟨by omega, by omega⟩ ⟨by omega, by omega⟩ ⟨Nat.le_refl _, Nat.le_refl _⟩) (fun st1 μc1 hp1 => ?_)
      obtain ⟨rfl, rfl⟩ := hp1
      refine pm_if hK zmm183 .ne 6 38 rfl rfl (fun h1 => ?_) (fun h1 => ?_)
      · have h1 : (if s.toNat.testBit (μ 236 k).toNat = true then 1 else 0 : Int) ≠ (0 : Int) := h1
        have h1 := zif1 h1
        have f3 := zT_get hT zs234_0 (i := μ 236 k) (by omega) (by omega)
        have f4 := zT_get hT zs235_0 (i := μ 236 k) (by omega) (by omega)
        refine pm_blk hK zmm183 [] 16 60 [(2, 205), (0, s), (0, t + (μ 234 (μ 236 k))), (0, v), (0, k), (0, μ 236 k)] [(0, (t + (μ 234 (μ 236 k))) - (μ 235 (μ 236 k))), (0, 0), (2, 205), (0, v)] μ [0 ≤ μ 236 k ∧ μ 236 k < 10, pm_in (t + (μ 234 (μ 236 k))), 0 ≤ μ 236 k ∧ μ 236 k < 10, pm_in ((t + (μ 234 (μ 236 k))) - (μ 235 (μ 236 k)))] rfl ⟨⟨by omega, by omega⟩, pm_in_mk (by omega) (by omega), ⟨by omega, by omega⟩, pm_in_mk (by omega) (by omega), trivial⟩ ?_
        refine pm_call hK zmm183 (448, 0, 176, 2) zM176 (0, 0) [(2, 205), (0, 0), (0, (t + (μ 234 (μ 236 k))) - (μ 235 (μ 236 k)))] [(0, v)] rfl rfl rfl rfl ⟨by omega, by rw [zn176]; omega⟩ (zh_greater hK ⟨by omega, by omega⟩) (fun st2 μc2 hp2 => ?_)
        obtain ⟨rfl, rfl⟩ := hp2
        refine pm_blk hK zmm183 [] 4 7 [(2, 205), (0, s), (0, t + (μ 234 (μ 236 k))), (0, v + (max 0 ((t + (μ 234 (μ 236 k))) - (μ 235 (μ 236 k))))), (0, k + 1), (0, μ 236 k)] [] μ [pm_in (v + (max 0 ((t + (μ 234 (μ 236 k))) - (μ 235 (μ 236 k))))), pm_in (k + 1)] rfl ⟨pm_in_mk (by omega) (by omega), pm_in_mk (by omega) (by omega), trivial⟩ ?_
        refine pm_hide [5] ?_
        first
        | exact ih _ (by omega) rfl ⟨by omega, by omega⟩ (zqT_w (by omega) hG (by show s.toNat.testBit (zoO (μ 236) k.toNat) = true; rw [eo]; assumption) ht) (zqL_w (by omega) hG hD (by show s.toNat.testBit (zoO (μ 236) k.toNat) = true; rw [eo]; assumption) ht hv) ⟨by omega, by omega⟩ ⟨by omega, by omega⟩
        | exact ih _ (by omega) rfl ⟨by omega, by omega⟩ (zqT_o (by omega) (by show s.toNat.testBit (zoO (μ 236) k.toNat) = false; rw [eo]; exact Bool.eq_false_iff.mpr (by assumption)) ht) (zqL_o (by omega) (by show s.toNat.testBit (zoO (μ 236) k.toNat) = false; rw [eo]; exact Bool.eq_false_iff.mpr (by assumption)) hv) ⟨by omega, by omega⟩ ⟨by omega, by omega⟩
      · have h1 : (if s.toNat.testBit (μ 236 k).toNat = true then 1 else 0 : Int) = (0 : Int) := h1
        have h1 := zif0 h1
        refine pm_blk hK zmm183 [] 3 7 [(2, 205), (0, s), (0, t), (0, v), (0, k + 1), (0, μ 236 k)] [] μ [pm_in (k + 1)] rfl ⟨pm_in_mk (by omega) (by omega), trivial⟩ ?_
        refine pm_hide [5] ?_
        first
        | exact ih _ (by omega) rfl ⟨by omega, by omega⟩ (zqT_w (by omega) hG (by show s.toNat.testBit (zoO (μ 236) k.toNat) = true; rw [eo]; assumption) ht) (zqL_w (by omega) hG hD (by show s.toNat.testBit (zoO (μ 236) k.toNat) = true; rw [eo]; assumption) ht hv) ⟨by omega, by omega⟩ ⟨by omega, by omega⟩
        | exact ih _ (by omega) rfl ⟨by omega, by omega⟩ (zqT_o (by omega) (by show s.toNat.testBit (zoO (μ 236) k.toNat) = false; rw [eo]; exact Bool.eq_false_iff.mpr (by assumption)) ht) (zqL_o (by omega) (by show s.toNat.testBit (zoO (μ 236) k.toNat) = false; rw [eo]; exact Bool.eq_false_iff.mpr (by assumption)) hv) ⟨by omega, by omega⟩ ⟨by omega, by omega⟩
set_option maxRecDepth 100000 in
theorem zh_qlateOf (hK : zKK ST) {s : Int} (hs : 0 ≤ s ∧ s ≤ 2147483647) (ho : ∀ q : Int, 0 ≤ q → q < μ 205 52 → 0 ≤ μ 236 q ∧ μ 236 q < 10) (hT : zTJ φ μ) (hbd : 1 ≤ bud.1 ∧ 22 ≤ bud.2.1) : zC D Wm ST b0 l Sg zM183 bud [(2, 205), (0, s)] μ (fun st' μ' => μ = μ' ∧ ∃ x, st' = [(0, x)] ∧ x = zqLt (zoN (μ 234)) (zoN (μ 235)) (zoO (μ 236)) (μ 205 52).toNat s.toNat) := by
  have f52 := zT_get hT zs205_52 (i := 52) (by omega) (by omega)
  refine pm_blk hK zmm183 [] 6 7 [(2, 205), (0, s), (0, 0), (0, 0), (0, 0), (9, 0)] [] μ [] rfl trivial ?_
  exact zl_qlo hK hs ho hT hbd _ rfl ⟨by omega, by omega⟩ rfl rfl ⟨by omega, by omega⟩ ⟨by omega, by omega⟩
set_option maxRecDepth 100000 in
theorem zl_qon (hK : zKK ST)  {s T : Int} (hT : T ≤ 10) (hbd : 0 ≤ bud.1 ∧ 0 ≤ bud.2.1) : ∀ (n : Nat) {c v : Int}, v.toNat = n → ∀ (hv : 0 ≤ v ∧ v ≤ 1023) (hn : 0 ≤ c) (hz : c + ((zqOn 10 v.toNat : Nat) : Int) = T), zW D Wm ST b0 l Sg zM152 bud (pm_X zM152 (fun st' μ' => μ = μ' ∧ st' = [(0, T)])) 4 [(2, 205), (0, s), (0, c), (0, v)] [] μ := by
  intro n
  induction n using Nat.strongRecOn with
  | ind n ih =>
    intro c v hn hv hn hz
    refine pm_blk hK zmm152 [] 1 5 [(2, 205), (0, s), (0, c), (0, v)] [(0, v)] μ [] rfl trivial ?_
    refine pm_if hK zmm152 .eq 16 21 rfl rfl (fun h0 => ?_) (fun h0 => ?_)
    · have h0 : v = (0 : Int) := h0
      refine pm_blk hK zmm152 [] 1 22 [(2, 205), (0, s), (0, c), (0, v)] [(0, c)] μ [] rfl trivial ?_
      have e0 : v = 0 := by omega
      subst e0
      have ez : zqOn 10 (0 : Int).toNat = 0 := zqOn_0 10
      exact pm_iret rfl rfl ⟨rfl, by rw [show c = T by omega]⟩
    · have h0 : v ≠ (0 : Int) := h0
      have ea := zand (x := v) (y := v - 1) (by omega) (by omega) (by omega) (by omega)
      have es := zpc_s v.toNat (by omega) (by omega)
      rw [show (v - 1).toNat = v.toNat - 1 by omega] at ea
      have el : v.toNat &&& (v.toNat - 1) ≤ v.toNat - 1 := Nat.and_le_right
      refine pm_blk hK zmm152 [] 11 4 [(2, 205), (0, s), (0, c + 1), (0, pm_and v (v - 1))] [] μ [pm_in (c + 1), pm_in (v - 1)] rfl ⟨pm_in_mk (by omega) (by omega), pm_in_mk (by omega) (by omega), trivial⟩ ?_
      have ev : (pm_and v (v - 1)).toNat = v.toNat &&& (v.toNat - 1) := by rw [ea, Int.toNat_natCast]
      exact ih _ (by rw [ev]; omega) rfl ⟨by rw [ea]; omega, by rw [ea]; omega⟩ (by omega) (by rw [ev]; omega)
set_option maxRecDepth 100000 in
theorem zh_qones (hK : zKK ST) {s : Int} (hs : 0 ≤ s ∧ s ≤ 1023) (hbd : 0 ≤ bud.1 ∧ 0 ≤ bud.2.1) : zC D Wm ST b0 l Sg zM152 bud [(2, 205), (0, s)] μ (fun st' μ' => μ = μ' ∧ st' = [(0, ((zqOn 10 s.toNat : Nat) : Int))]) := by
  refine pm_blk hK zmm152 [] 4 4 [(2, 205), (0, s), (0, 0), (0, s)] [] μ [] rfl trivial ?_
  exact zl_qon hK (by have := zqOn_le (s := s.toNat) (n := 10); omega) hbd _ rfl hs (by omega) (by omega)
set_option maxRecDepth 100000 in
theorem zl_qsv (hK : zKK ST)  {w : Int} {N : Nat} (hN : ((N : Nat) : Int) = μ 205 52) (hN2 : N ≤ 10) (ho : ∀ q : Int, 0 ≤ q → q < μ 205 52 → 0 ≤ μ 236 q ∧ μ 236 q < 10) (hT : zTJ φ μ) (hbd : 2 ≤ bud.1 ∧ 51 ≤ bud.2.1) : ∀ (n : Nat) {m z : Int}, (1024 - z).toNat = n → ∀ (hz : 0 ≤ z ∧ z ≤ ((2 ^ N : Nat) : Int)) (hm : 0 ≤ m ∧ m ≤ 10) (hq : zqB2 (zqLt (zoN (μ 234)) (zoN (μ 235)) (zoO (μ 236)) N) N m z), zW D Wm ST b0 l Sg zM181 bud (pm_X zM181 (fun st' μ' => μ = μ' ∧ ∃ x, st' = [(0, x)] ∧ 0 ≤ x ∧ (∀ s : Nat, s < 2 ^ N → zqLt (zoN (μ 234)) (zoN (μ 235)) (zoO (μ 236)) N s = 0 → zqOn N s ≤ x.toNat) ∧ (x.toNat = 0 ∨ ∃ s : Nat, s < 2 ^ N ∧ zqLt (zoN (μ 234)) (zoN (μ 235)) (zoO (μ 236)) N s = 0 ∧ zqOn N s = x.toNat))) 43 [(2, 205), (0, w), (0, m), (0, z)] [] μ := by
  intro n
  induction n using Nat.strongRecOn with
  | ind n ih =>
    intro m z hn hz hm hq
    have hs : pm_shl 1 (μ 205 52) = ((2 ^ N : Nat) : Int) := by
      have q := zshl1 N (by omega)
      rw [hN] at q
      exact q
    have hp : (2 : Nat) ^ N ≤ 1024 := Nat.le_trans (Nat.pow_le_pow_right (by omega) (show N ≤ 10 by omega)) (by decide)
    have hp1 : 1 ≤ (2 : Nat) ^ N := Nat.two_pow_pos _
    have f1 := zT_get hT zs205_52 (i := 52) (by omega) (by omega)
    refine pm_blk hK zmm181 [] 5 50 [(2, 205), (0, w), (0, m), (0, z)] [(0, pm_shl 1 (μ 205 52)), (0, z)] μ [] rfl trivial ?_
    refine pm_icmp hK zmm181 .ge 32 82 rfl rfl (fun h0 => ?_) (fun h0 => ?_)
    · have h0 : pm_shl 1 (μ 205 52) ≤ z := h0
      refine pm_blk hK zmm181 [] 1 83 [(2, 205), (0, w), (0, m), (0, z)] [(0, m)] μ [] rfl trivial ?_
      have ez : z = ((2 ^ N : Nat) : Int) := by have hqq := h0; rw [hs] at hqq; omega
      obtain ⟨q1, q2⟩ := zqB2_e hq ez
      exact pm_iret rfl rfl ⟨rfl, _, rfl, hm.1, q1, q2⟩
    · have h0 : z < pm_shl 1 (μ 205 52) := h0
      have hzz : z < ((2 ^ N : Nat) : Int) := by rw [← hs]; exact h0
      have h10 : zqOn 10 z.toNat = zqOn N z.toNat := zqOn_10 hN2 (by omega)
      have hle := zqOn_le (s := z.toNat) (n := 10)
      refine pm_blk hK zmm181 [] 2 55 [(2, 205), (0, w), (0, m), (0, z)] [(0, z), (2, 205)] μ [] rfl trivial ?_
      refine pm_call hK zmm181 (334, 0, 152, 1) zM152 (0, 0) [(2, 205), (0, z)] [] rfl rfl rfl rfl ⟨by omega, by rw [zn152]; omega⟩ (zh_qones hK ⟨by omega, by omega⟩ ⟨Nat.le_refl _, Nat.le_refl _⟩) (fun st1 μc1 hp1 => ?_)
      obtain ⟨rfl, rfl⟩ := hp1
      refine pm_blk hK zmm181 [] 1 59 [(2, 205), (0, w), (0, m), (0, z)] [(0, m), (0, ((zqOn 10 z.toNat : Nat) : Int))] μ [] rfl trivial ?_
      refine pm_icmp hK zmm181 .le 17 76 rfl rfl (fun h1 => ?_) (fun h1 => ?_)
      · have h1 : ((zqOn 10 z.toNat : Nat) : Int) ≤ m := h1
        refine pm_blk hK zmm181 [] 2 43 [(2, 205), (0, w), (0, m), (0, z + 1)] [] μ [pm_in (z + 1)] rfl ⟨pm_in_mk (by omega) (by omega), trivial⟩ ?_
        have eN : ∀ x : Int, x = zqLt (zoN (μ 234)) (zoN (μ 235)) (zoO (μ 236)) (μ 205 52).toNat z.toNat → x = zqLt (zoN (μ 234)) (zoN (μ 235)) (zoO (μ 236)) N z.toNat := fun x h => by rw [h, ← hN, Int.toNat_natCast]
        first
        | exact ih _ (by omega) rfl ⟨by omega, by omega⟩ hm (zqB2_n hq hz.1 (Or.inr (by rw [← h10]; assumption)) hm.1)
        | exact ih _ (by omega) rfl ⟨by omega, by omega⟩ hm (zqB2_n hq hz.1 (Or.inl (by rw [← eN _ hx2]; assumption)) hm.1)
        | (rw [h10]; exact ih _ (by omega) rfl ⟨by omega, by omega⟩ ⟨by omega, by omega⟩ (zqB2_y hq hz.1 (by rw [← eN _ hx2]; assumption) (by rw [← h10]; assumption)))
      · have h1 : m < ((zqOn 10 z.toNat : Nat) : Int) := h1
        refine pm_blk hK zmm181 [] 2 64 [(2, 205), (0, w), (0, m), (0, z)] [(0, z), (2, 205)] μ [] rfl trivial ?_
        refine pm_call hK zmm181 (460, 0, 183, 1) zM183 (1, 22) [(2, 205), (0, z)] [] rfl rfl rfl rfl ⟨by omega, by rw [zn183]; omega⟩ (zh_qlateOf hK (s := z) ⟨by omega, by omega⟩ ho hT ⟨Nat.le_refl _, Nat.le_refl _⟩) (fun st2 μc2 hp2 => ?_)
        obtain ⟨rfl, x2, rfl, hx2⟩ := hp2
        refine pm_if hK zmm181 .ne 9 76 rfl rfl (fun h2 => ?_) (fun h2 => ?_)
        · have h2 : x2 ≠ (0 : Int) := h2
          refine pm_blk hK zmm181 [] 2 43 [(2, 205), (0, w), (0, m), (0, z + 1)] [] μ [pm_in (z + 1)] rfl ⟨pm_in_mk (by omega) (by omega), trivial⟩ ?_
          have eN : ∀ x : Int, x = zqLt (zoN (μ 234)) (zoN (μ 235)) (zoO (μ 236)) (μ 205 52).toNat z.toNat → x = zqLt (zoN (μ 234)) (zoN (μ 235)) (zoO (μ 236)) N z.toNat := fun x h => by rw [h, ← hN, Int.toNat_natCast]
          first
          | exact ih _ (by omega) rfl ⟨by omega, by omega⟩ hm (zqB2_n hq hz.1 (Or.inr (by rw [← h10]; assumption)) hm.1)
          | exact ih _ (by omega) rfl ⟨by omega, by omega⟩ hm (zqB2_n hq hz.1 (Or.inl (by rw [← eN _ hx2]; assumption)) hm.1)
          | (rw [h10]; exact ih _ (by omega) rfl ⟨by omega, by omega⟩ ⟨by omega, by omega⟩ (zqB2_y hq hz.1 (by rw [← eN _ hx2]; assumption) (by rw [← h10]; assumption)))
        · have h2 : x2 = (0 : Int) := h2
          refine pm_blk hK zmm181 [] 2 72 [(2, 205), (0, w), (0, m), (0, z)] [(0, z), (2, 205)] μ [] rfl trivial ?_
          refine pm_call hK zmm181 (334, 0, 152, 1) zM152 (0, 0) [(2, 205), (0, z)] [] rfl rfl rfl rfl ⟨by omega, by rw [zn152]; omega⟩ (zh_qones hK ⟨by omega, by omega⟩ ⟨Nat.le_refl _, Nat.le_refl _⟩) (fun st3 μc3 hp3 => ?_)
          obtain ⟨rfl, rfl⟩ := hp3
          refine pm_blk hK zmm181 [] 3 43 [(2, 205), (0, w), (0, ((zqOn 10 z.toNat : Nat) : Int)), (0, z + 1)] [] μ [pm_in (z + 1)] rfl ⟨pm_in_mk (by omega) (by omega), trivial⟩ ?_
          have eN : ∀ x : Int, x = zqLt (zoN (μ 234)) (zoN (μ 235)) (zoO (μ 236)) (μ 205 52).toNat z.toNat → x = zqLt (zoN (μ 234)) (zoN (μ 235)) (zoO (μ 236)) N z.toNat := fun x h => by rw [h, ← hN, Int.toNat_natCast]
          first
          | exact ih _ (by omega) rfl ⟨by omega, by omega⟩ hm (zqB2_n hq hz.1 (Or.inr (by rw [← h10]; assumption)) hm.1)
          | exact ih _ (by omega) rfl ⟨by omega, by omega⟩ hm (zqB2_n hq hz.1 (Or.inl (by rw [← eN _ hx2]; assumption)) hm.1)
          | (rw [h10]; exact ih _ (by omega) rfl ⟨by omega, by omega⟩ ⟨by omega, by omega⟩ (zqB2_y hq hz.1 (by rw [← eN _ hx2]; assumption) (by rw [← h10]; assumption)))
set_option maxRecDepth 100000 in
theorem zh_servedm (hK : zKK ST) {w : Int} (hT : zTJ φ μ) (hb205 : sx_bit Wm 205 = true) (hb236 : sx_bit Wm 236 = true) (hbd : 2 ≤ bud.1 ∧ 51 ≤ bud.2.1) : zC D Wm ST b0 l Sg zM181 bud [(2, 205), (0, w)] μ (fun st' μ' => zTJ φ μ' ∧ ∃ x, st' = [(0, x)] ∧ zsM (zoN (μ 234)) (zoN (μ 235)) (μ 205 52).toNat w x) := by
  have f0 := zT_get hT zs205_52 (i := 52) (by omega) (by omega)
  refine pm_blk hK zmm181 [] 3 5 [(2, 205), (0, w), (9, 0), (9, 0)] [] (pm_up μ 205 0 0) [sx_bit Wm 205 = true] rfl ⟨hb205, trivial⟩ ?_
  obtain ⟨μ1, eμ1⟩ : ∃ μ', μ' = pm_up μ 205 0 0 := ⟨_, rfl⟩
  rw [← eμ1]
  have hTμ1 : zTJ φ μ1 := by rw [eμ1]; exact zT_up hT zs205_0 rfl (i := 0) (by omega) (by omega) (by omega) (by omega)
  refine pm_blk hK zmm181 [] 4 9 [(2, 205), (0, w), (9, 0), (9, 0)] [(0, 1), (0, 0), (0, w), (2, 205)] μ1 [] rfl trivial ?_
  refine pm_call hK zmm181 (158, 0, 129, 3) zM129 (0, 0) [(2, 205), (0, w), (0, 0), (0, 1)] [] rfl rfl rfl rfl ⟨by omega, by rw [zn129]; omega⟩ (zh_isIn hK ⟨by omega, by omega⟩) (fun st1 μc1 hp1 => ?_)
  obtain ⟨rfl, rfl⟩ := hp1
  refine pm_if hK zmm181 .ne 5 17 rfl rfl (fun h0 => ?_) (fun h0 => ?_)
  · have h0 : (if 0 ≤ w ∧ w ≤ 1 then 1 else 0 : Int) ≠ (0 : Int) := h0
    have h0 := zif1 h0
    refine pm_blk hK zmm181 [] 1 18 [(2, 205), (0, w), (9, 0), (9, 0)] [(2, 205)] μ1 [] rfl trivial ?_
    refine pm_call hK zmm181 (457, 0, 182, 0) zM182 (1, 22) [(2, 205)] [] rfl rfl rfl rfl ⟨by omega, by rw [zn182]; omega⟩ (zh_qfind hK hTμ1 hb236 ⟨Nat.le_refl _, Nat.le_refl _⟩) (fun st2 μc2 hp2 => ?_)
    obtain ⟨rfl, hzo, ho, hfr2, hTc2⟩ := hp2
    have v205 : ∀ k : Int, k ≠ 0 → μc2 205 k = μ 205 k := fun k hk => by rw [hfr2 205 (by decide), eμ1, pm_up_ne hk]
    have v52 := v205 52 (by decide)
    have v234 : μc2 234 = μ 234 := by rw [hfr2 234 (by decide), eμ1, pm_up_row (by decide)]
    have v235 : μc2 235 = μ 235 := by rw [hfr2 235 (by decide), eμ1, pm_up_row (by decide)]
    have w235 : μ1 235 = μ 235 := by rw [eμ1, pm_up_row (by decide)]
    have w52 : μ1 205 52 = μ 205 52 := by rw [eμ1, pm_up_ne (by decide)]
    rw [w235, w52] at hzo
    rw [w52, ← v52] at ho
    have hN : (((μ 205 52).toNat : Nat) : Int) = μc2 205 52 := by omega
    have hs : pm_shl 1 (μc2 205 52) = ((2 ^ (μ 205 52).toNat : Nat) : Int) := by
      have q := zshl1 (μ 205 52).toNat (by omega)
      rw [hN] at q
      exact q
    have hp : (2 : Nat) ^ (μ 205 52).toNat ≤ 1024 := Nat.le_trans (Nat.pow_le_pow_right (by omega) (show (μ 205 52).toNat ≤ 10 by omega)) (by decide)
    have hp1 : 1 ≤ (2 : Nat) ^ (μ 205 52).toNat := Nat.two_pow_pos _
    refine pm_blk hK zmm181 [] 2 23 [(2, 205), (0, w), (9, 0), (9, 0)] [(0, 1), (0, w)] μc2 [] rfl trivial ?_
    refine pm_icmp hK zmm181 .ne 16 39 rfl rfl (fun h1 => ?_) (fun h1 => ?_)
    · have h1 : w ≠ (1 : Int) := h1
      refine pm_blk hK zmm181 [] 4 43 [(2, 205), (0, w), (0, 0), (0, 0)] [] μc2 [] rfl trivial ?_
      refine pm_then (zl_qsv hK (w := w) (N := (μ 205 52).toNat) hN (by omega) ho hTc2 ⟨by omega, by omega⟩ _ rfl ⟨by omega, by omega⟩ ⟨by omega, by omega⟩ zqB2_0) (fun pc2 lv2 st2 μe hX => pm_exit ⟨hX.1, ?_⟩)
      obtain ⟨-, rfl, x, rfl, x0, x1, x2⟩ := hX
      rw [v234, v235] at x1 x2
      exact ⟨hTc2, _, rfl, fun h => absurd (show w = 0 by omega) h.1, fun h => absurd h (by omega), fun _ => ⟨_, hzo, x0, x1, x2⟩⟩
    · have h1 : w = (1 : Int) := h1
      have f1 := zT_get hTc2 zs205_52 (i := 52) (by omega) (by omega)
      refine pm_blk hK zmm181 [] 7 35 [(2, 205), (0, w), (9, 0), (9, 0)] [(0, (pm_shl 1 (μc2 205 52)) - 1), (2, 205)] μc2 [pm_in ((pm_shl 1 (μc2 205 52)) - 1)] rfl ⟨pm_in_mk (by omega) (by omega), trivial⟩ ?_
      refine pm_call hK zmm181 (460, 0, 183, 1) zM183 (1, 22) [(2, 205), (0, (pm_shl 1 (μc2 205 52)) - 1)] [] rfl rfl rfl rfl ⟨by omega, by rw [zn183]; omega⟩ (zh_qlateOf hK (s := ((pm_shl 1 (μc2 205 52)) - 1)) ⟨by omega, by omega⟩ ho hTc2 ⟨Nat.le_refl _, Nat.le_refl _⟩) (fun st3 μc3 hp3 => ?_)
      obtain ⟨rfl, x3, rfl, hx3⟩ := hp3
      have hq : (pm_shl 1 (μc2 205 52) - 1).toNat = 2 ^ (μ 205 52).toNat - 1 := by rw [hs]; omega
      rw [hq, v234, v235, v52] at hx3
      exact pm_iret rfl rfl ⟨hTc2, _, rfl, fun h => absurd (show w = 1 by omega) h.2, fun _ => ⟨_, hzo, hx3⟩, fun h => absurd h (by omega)⟩
  · have h0 : (if 0 ≤ w ∧ w ≤ 1 then 1 else 0 : Int) = (0 : Int) := h0
    have h0 := zif0 h0
    refine pm_blk hK zmm181 [] 1 16 [(2, 205), (0, w), (9, 0), (9, 0)] [(0, (-1))] μ1 [] rfl trivial ?_
    exact pm_iret rfl rfl ⟨hTμ1, _, rfl, fun _ => rfl, fun h => absurd h (by omega), fun h => absurd h (by omega)⟩
end ZHW
