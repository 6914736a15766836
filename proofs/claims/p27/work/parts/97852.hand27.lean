/-! THREADS, both sides; walks printed by program (wip/p30/pmgen.py) and filled by hand -/
variable {φ : Option pm_Mem}
section ZHW
variable {D : va_G} {Wm : Nat} {ST : List (String × String × String × Nat)} {b0 : sx_B} {l : Launch} {Sg : Nat → Option Nat} {bud : sx_Bu} {μ : pm_Mem} {B0 : Nat → Prop} {J : (Nat → Option Nat) → Heap → Prop}
set_option maxRecDepth 100000 in
theorem zl_fi (hK : zKK ST)  {μ0 : pm_Mem} {g : Int → Int} {c v : Int} (hcc : 0 ≤ c ∧ c ≤ 7) (hv : -2147483648 ≤ v ∧ v ≤ 2147483647) (hb203 : sx_bit Wm 203 = true) (hbd : 0 ≤ bud.1 ∧ 0 ≤ bud.2.1) : ∀ (n : Nat) {i : Int} {μ : pm_Mem}, i.toNat = n → ∀ (hi : 0 ≤ i ∧ i ≤ c) (ha : ∀ x : Int, 0 ≤ x → x < i → μ 203 x = g x) (hc : ∀ x : Int, i ≤ x → x < c → μ 203 (x + 1) = g x) (hu : ∀ x : Int, i ≤ x → x < c → g x < v) (hfr : ∀ r, r ≠ 203 → μ r = μ0 r) (hT : zTJ φ μ), zW D Wm ST b0 l Sg zM270 bud (pm_X zM270 (fun st' μ' => st' = [] ∧ zTJ φ μ' ∧ (∀ r, r ≠ 203 → μ' r = μ0 r) ∧ zrl (μ' 203) (c.toNat + 1) = zhI v (zrl g c.toNat))) 5 [(2, 203), (0, c), (0, v), (0, i), (0, i)] [] μ := by
  intro n
  induction n using Nat.strongRecOn with
  | ind n ih =>
    intro i μ hn hi ha hc hu hfr hT
    refine pm_blk hK zmm270 [] 1 7 [(2, 203), (0, c), (0, v), (0, i), (0, i)] [(0, i)] μ [] rfl trivial ?_
    refine pm_if hK zmm270 .le 34 41 rfl rfl (fun h0 => ?_) (fun h0 => ?_)
    · have h0 : i ≤ (0 : Int) := h0
      refine pm_blk hK zmm270 [] 4 45 [(2, 203), (0, c), (0, v), (0, i), (0, i)] [] (pm_up μ 203 i v) [sx_bit Wm 203 = true, 0 ≤ i ∧ i < 501] rfl ⟨hb203, ⟨by omega, by omega⟩, trivial⟩ ?_
      obtain ⟨μ1, eμ1⟩ : ∃ μ', μ' = pm_up μ 203 i v := ⟨_, rfl⟩
      rw [← eμ1]
      have hTμ1 : zTJ φ μ1 := by rw [eμ1]; exact zT_up hT zs203_0 rfl (i := i) (by omega) (by omega) (by omega) (by omega)
      first
      | exact pm_vret rfl rfl ⟨rfl, hTμ1, fun r hr => by rw [eμ1, pm_up_row hr]; exact hfr r hr, zrl_ins c.toNat i.toNat (by omega) (fun x hx => by rw [eμ1, pm_up_ne (by omega)]; exact ha x (by omega) (by omega)) (by rw [eμ1, show ((i.toNat : Nat) : Int) = i by omega, pm_up_eq]) (fun x x0 x1 => by rw [eμ1, show ((x + 1 : Nat) : Int) = (x : Int) + 1 by omega, pm_up_ne (by omega)]; exact hc x (by omega) (by omega)) (fun x x0 x1 => hu x (by omega) (by omega)) (Or.inl (by omega))⟩
      | exact pm_vret rfl rfl ⟨rfl, hTμ1, fun r hr => by rw [eμ1, pm_up_row hr]; exact hfr r hr, zrl_ins c.toNat i.toNat (by omega) (fun x hx => by rw [eμ1, pm_up_ne (by omega)]; exact ha x (by omega) (by omega)) (by rw [eμ1, show ((i.toNat : Nat) : Int) = i by omega, pm_up_eq]) (fun x x0 x1 => by rw [eμ1, show ((x + 1 : Nat) : Int) = (x : Int) + 1 by omega, pm_up_ne (by omega)]; exact hc x (by omega) (by omega)) (fun x x0 x1 => hu x (by omega) (by omega)) (Or.inr (by rw [show ((i.toNat - 1 : Nat) : Int) = i - 1 by omega, ← eg]; exact h0))⟩
    · have h0 : (0 : Int) < i := h0
      have eg : μ 203 (i - 1) = g (i - 1) := ha (i - 1) (by omega) (by omega)
      have f1 := zT_get hT zs203_0 (i := i - 1) (by omega) (by omega)
      refine pm_blk hK zmm270 [] 6 17 [(2, 203), (0, c), (0, v), (0, i), (0, i)] [(0, v), (0, μ 203 (i - 1))] μ [pm_in (i - 1), 0 ≤ i - 1 ∧ i - 1 < 501] rfl ⟨pm_in_mk (by omega) (by omega), ⟨by omega, by omega⟩, trivial⟩ ?_
      refine pm_icmp hK zmm270 .ge 24 41 rfl rfl (fun h1 => ?_) (fun h1 => ?_)
      · have h1 : v ≤ μ 203 (i - 1) := h1
        refine pm_blk hK zmm270 [] 4 45 [(2, 203), (0, c), (0, v), (0, i), (0, i)] [] (pm_up μ 203 i v) [sx_bit Wm 203 = true, 0 ≤ i ∧ i < 501] rfl ⟨hb203, ⟨by omega, by omega⟩, trivial⟩ ?_
        obtain ⟨μ2, eμ2⟩ : ∃ μ', μ' = pm_up μ 203 i v := ⟨_, rfl⟩
        rw [← eμ2]
        have hTμ2 : zTJ φ μ2 := by rw [eμ2]; exact zT_up hT zs203_0 rfl (i := i) (by omega) (by omega) (by omega) (by omega)
        first
        | exact pm_vret rfl rfl ⟨rfl, hTμ2, fun r hr => by rw [eμ2, pm_up_row hr]; exact hfr r hr, zrl_ins c.toNat i.toNat (by omega) (fun x hx => by rw [eμ2, pm_up_ne (by omega)]; exact ha x (by omega) (by omega)) (by rw [eμ2, show ((i.toNat : Nat) : Int) = i by omega, pm_up_eq]) (fun x x0 x1 => by rw [eμ2, show ((x + 1 : Nat) : Int) = (x : Int) + 1 by omega, pm_up_ne (by omega)]; exact hc x (by omega) (by omega)) (fun x x0 x1 => hu x (by omega) (by omega)) (Or.inl (by omega))⟩
        | exact pm_vret rfl rfl ⟨rfl, hTμ2, fun r hr => by rw [eμ2, pm_up_row hr]; exact hfr r hr, zrl_ins c.toNat i.toNat (by omega) (fun x hx => by rw [eμ2, pm_up_ne (by omega)]; exact ha x (by omega) (by omega)) (by rw [eμ2, show ((i.toNat : Nat) : Int) = i by omega, pm_up_eq]) (fun x x0 x1 => by rw [eμ2, show ((x + 1 : Nat) : Int) = (x : Int) + 1 by omega, pm_up_ne (by omega)]; exact hc x (by omega) (by omega)) (fun x x0 x1 => hu x (by omega) (by omega)) (Or.inr (by rw [show ((i.toNat - 1 : Nat) : Int) = i - 1 by omega, ← eg]; exact h1))⟩
      · have h1 : μ 203 (i - 1) < v := h1
        refine pm_blk hK zmm270 [] 8 30 [(2, 203), (0, c), (0, v), (0, i), (0, i)] [] (pm_up μ 203 i (μ 203 (i - 1))) [pm_in (i - 1), 0 ≤ i - 1 ∧ i - 1 < 501, sx_bit Wm 203 = true, 0 ≤ i ∧ i < 501] rfl ⟨pm_in_mk (by omega) (by omega), ⟨by omega, by omega⟩, hb203, ⟨by omega, by omega⟩, trivial⟩ ?_
        obtain ⟨μ3, eμ3⟩ : ∃ μ', μ' = pm_up μ 203 i (μ 203 (i - 1)) := ⟨_, rfl⟩
        rw [← eμ3]
        have hTμ3 : zTJ φ μ3 := by rw [eμ3]; exact zT_up hT zs203_0 rfl (i := i) (by omega) (by omega) (by omega) (by omega)
        refine pm_blk hK zmm270 [] 6 5 [(2, 203), (0, c), (0, v), (0, i - 1), (0, i + (-1))] [] μ3 [pm_in (i - 1), pm_in (i + (-1))] rfl ⟨pm_in_mk (by omega) (by omega), pm_in_mk (by omega) (by omega), trivial⟩ ?_
        have e9 : i + (-1) = i - 1 := by omega
        rw [e9]
        refine ih _ (by omega) rfl ⟨by omega, by omega⟩ (fun x x0 x1 => by rw [eμ3, pm_up_ne (by omega)]; exact ha x x0 (by omega)) (fun x x0 x1 => ?_) (fun x x0 x1 => ?_) (fun r hr => by rw [eμ3, pm_up_row hr]; exact hfr r hr) hTμ3
        · by_cases hq : x = i - 1
          · rw [hq, show i - 1 + 1 = i by omega, eμ3, pm_up_eq]; exact eg
          · rw [eμ3, pm_up_ne (by omega)]; exact hc x (by omega) x1
        · by_cases hq : x = i - 1
          · rw [hq, ← eg]; exact h1
          · exact hu x (by omega) x1
set_option maxRecDepth 100000 in
theorem zh_insF (hK : zKK ST) {c v : Int} (hcc : 0 ≤ c ∧ c ≤ 7) (hv : -2147483648 ≤ v ∧ v ≤ 2147483647) (hT : zTJ φ μ) (hb203 : sx_bit Wm 203 = true) (hbd : 0 ≤ bud.1 ∧ 0 ≤ bud.2.1) : zC D Wm ST b0 l Sg zM270 bud [(2, 203), (0, c), (0, v)] μ (fun st' μ' => st' = [] ∧ zTJ φ μ' ∧ (∀ r, r ≠ 203 → μ' r = μ r) ∧ zrl (μ' 203) (c.toNat + 1) = zhI v (zrl (μ 203) c.toNat)) := by
  refine pm_blk hK zmm270 [] 4 5 [(2, 203), (0, c), (0, v), (0, c), (0, c)] [] μ [] rfl trivial ?_
  exact zl_fi hK (μ0 := μ) (g := μ 203) hcc hv hb203 hbd _ rfl ⟨by omega, by omega⟩ (fun _ _ _ => rfl) (fun x x0 x1 => absurd x1 (by omega)) (fun x x0 x1 => absurd x1 (by omega)) (fun _ _ => rfl) hT
set_option maxRecDepth 100000 in
theorem zl_jf1 (hK : zKK ST) {X : Nat → List pm_V → List pm_V → pm_Mem → Prop} {μ0 : pm_Mem} (hb203 : sx_bit Wm 203 = true) (K : ∀ μ : pm_Mem, zrl (μ 203) (μ0 37 1).toNat = ztl (zwN (μ0 38)) (μ0 37 1).toNat → (∀ r, r ≠ 203 → μ r = μ0 r) → zTJ φ μ → zW D Wm ST b0 l Sg zM93 bud X 40 [(2, 202), (2, 37), (2, 203), (0, μ0 37 1), (9, 0), (9, 0), (9, 0)] [] μ) (hbd : 1 ≤ bud.1 ∧ 24 ≤ bud.2.1) : ∀ (n : Nat) {c : Int} {μ : pm_Mem}, (8 - c).toNat = n → ∀ (hc : 0 ≤ c ∧ c ≤ μ0 37 1) (hz : zrl (μ 203) c.toNat = ztl (zwN (μ0 38)) c.toNat) (hfr : ∀ r, r ≠ 203 → μ r = μ0 r) (hT : zTJ φ μ), zW D Wm ST b0 l Sg zM93 bud X 10 [(2, 202), (2, 37), (2, 203), (0, c), (0, c), (9, 0), (9, 0)] [] μ := by
  intro n
  induction n using Nat.strongRecOn with
  | ind n ih =>
    intro c μ hn hc hz hfr hT
    have e37 : μ 37 1 = μ0 37 1 := by rw [hfr 37 (by decide)]
    have f37 := zT_get hT zs37_1 (i := 1) (by omega) (by omega)
    have f1 := zT_get hT zs37_1 (i := 1) (by omega) (by omega)
    refine pm_blk hK zmm93 [] 3 16 [(2, 202), (2, 37), (2, 203), (0, c), (0, c), (9, 0), (9, 0)] [(0, μ 37 1), (0, c)] μ [] rfl trivial ?_
    refine pm_icmp hK zmm93 .ge 24 40 rfl rfl (fun h0 => ?_) (fun h0 => ?_)
    · have h0 : μ 37 1 ≤ c := h0
      refine pm_hide [4] ?_
      have ec : c = μ0 37 1 := by omega
      rw [ec] at hz ⊢
      exact K _ hz hfr hT
    · have h0 : c < μ 37 1 := h0
      have f2 := zT_get hT zs38_0 (i := c) (by omega) (by omega)
      refine pm_blk hK zmm93 [] 6 28 [(2, 202), (2, 37), (2, 203), (0, c), (0, c), (9, 0), (9, 0)] [(0, μ 38 c), (0, c), (2, 203)] μ [0 ≤ c ∧ c < 8] rfl ⟨⟨by omega, by omega⟩, trivial⟩ ?_
      refine pm_call hK zmm93 (63, 1, 270, 3) zM270 (0, 0) [(2, 203), (0, c), (0, μ 38 c)] [] rfl rfl rfl rfl ⟨by omega, by rw [zn270]; omega⟩ (zh_insF hK (c := c) (v := (μ 38 c)) ⟨by omega, by omega⟩ ⟨by omega, by omega⟩ hT hb203 ⟨Nat.le_refl _, Nat.le_refl _⟩) (fun st1 μc1 hp1 => ?_)
      obtain ⟨rfl, hTc1, hfr1, hz1⟩ := hp1
      have hfq := hfr1
      have hzq := hz1
      refine pm_blk hK zmm93 [] 3 10 [(2, 202), (2, 37), (2, 203), (0, c + 1), (0, c + 1), (9, 0), (9, 0)] [] μc1 [pm_in (c + 1), pm_in (c + 1)] rfl ⟨pm_in_mk (by omega) (by omega), pm_in_mk (by omega) (by omega), trivial⟩ ?_
      refine ih _ (by omega) rfl ⟨by omega, by omega⟩ ?_ (fun r hr => by rw [hfq r hr]; exact hfr r hr) hTc1
      rw [show (c + 1).toNat = c.toNat + 1 by omega, hzq, hz]
      show zhI (μ 38 c) (ztl (zwN (μ0 38)) c.toNat) = zhI (zwN (μ0 38) c.toNat) (ztl (zwN (μ0 38)) c.toNat)
      rw [zwN_at (by omega), show ((c.toNat : Nat) : Int) = c by omega, hfr 38 (by decide)]
set_option maxRecDepth 100000 in
theorem zl_jf2 (hK : zKK ST)  {k T : Int} (hb203 : sx_bit Wm 203 = true) (hbd : 1 ≤ bud.1 ∧ 24 ≤ bud.2.1) : ∀ (n : Nat) {c ln : Int} {μ : pm_Mem}, ln.toNat = n → ∀ (hl : 0 ≤ ln ∧ ln ≤ 8) (hc : 0 ≤ c ∧ c ≤ 800 * (8 - ln)) (hz : c + zhH ln.toNat (zrl (μ 203) ln.toNat) = T) (hb : ∀ x ∈ zrl (μ 203) ln.toNat, 0 ≤ x) (hs : zhs (zrl (μ 203) ln.toNat) ≤ 800) (hT : zTJ φ μ), zW D Wm ST b0 l Sg zM93 bud (pm_X zM93 (fun st' μ' => zTJ φ μ' ∧ st' = [(0, T)])) 46 [(2, 202), (2, 37), (2, 203), (0, k), (0, c), (0, ln), (9, 0)] [] μ := by
  intro n
  induction n using Nat.strongRecOn with
  | ind n ih =>
    intro c ln μ hn hl hc hz hb hs hT
    refine pm_blk hK zmm93 [] 2 49 [(2, 202), (2, 37), (2, 203), (0, k), (0, c), (0, ln), (9, 0)] [(0, 1), (0, ln)] μ [] rfl trivial ?_
    refine pm_icmp hK zmm93 .le 41 90 rfl rfl (fun h0 => ?_) (fun h0 => ?_)
    · have h0 : ln ≤ (1 : Int) := h0
      refine pm_blk hK zmm93 [] 1 92 [(2, 202), (2, 37), (2, 203), (0, k), (0, c), (0, ln), (9, 0)] [(0, c)] μ [] rfl trivial ?_
      have hq : zhH ln.toNat (zrl (μ 203) ln.toNat) = 0 := by
        have hh : ln.toNat = 0 ∨ ln.toNat = 1 := by omega
        rcases hh with q | q <;> rw [q] <;> rfl
      exact pm_iret rfl rfl ⟨hT, by rw [show c = T by omega]⟩
    · have h0 : (1 : Int) < ln := h0
      have el : zrl (μ 203) ln.toNat = μ 203 (ln - 1) :: μ 203 (ln - 2) :: zrl (μ 203) (ln - 2).toNat := by
        rw [show ln.toNat = ((ln - 2).toNat + 1) + 1 by omega]
        show μ 203 (((ln - 2).toNat + 1 : Nat) : Int) :: μ 203 (((ln - 2).toNat : Nat) : Int) :: zrl (μ 203) (ln - 2).toNat = _
        rw [show (((ln - 2).toNat + 1 : Nat) : Int) = ln - 1 by omega, show (((ln - 2).toNat : Nat) : Int) = ln - 2 by omega]
      rw [el] at hz hb hs
      rw [show ln.toNat = (ln - 2).toNat + 1 + 1 by omega] at hz
      have hz : c + (μ 203 (ln - 1) + μ 203 (ln - 2) + zhH ((ln - 2).toNat + 1) (zhI (μ 203 (ln - 1) + μ 203 (ln - 2)) (zrl (μ 203) (ln - 2).toNat))) = T := hz
      have b1 := hb _ (List.mem_cons_self ..)
      have b2 := hb _ (List.mem_cons_of_mem _ (List.mem_cons_self ..))
      have b3 := zhs_nn (l := zrl (μ 203) (ln - 2).toNat) (fun x hx => hb x (List.mem_cons_of_mem _ (List.mem_cons_of_mem _ hx)))
      have hs : μ 203 (ln - 1) + (μ 203 (ln - 2) + zhs (zrl (μ 203) (ln - 2).toNat)) ≤ 800 := hs
      have hp := zhI_perm (μ 203 (ln - 1) + μ 203 (ln - 2)) (zrl (μ 203) (ln - 2).toNat)
      have f1 := zT_get hT zs203_0 (i := ln - 1) (by omega) (by omega)
      have f2 := zT_get hT zs203_0 (i := ln - 2) (by omega) (by omega)
      refine pm_blk hK zmm93 [] 21 81 [(2, 202), (2, 37), (2, 203), (0, k), (0, c + ((μ 203 (ln - 1)) + (μ 203 (ln - 2)))), (0, ln), (0, (μ 203 (ln - 1)) + (μ 203 (ln - 2)))] [(0, (μ 203 (ln - 1)) + (μ 203 (ln - 2))), (0, ln - 2), (2, 203)] μ [pm_in (ln - 1), 0 ≤ ln - 1 ∧ ln - 1 < 501, pm_in (ln - 2), 0 ≤ ln - 2 ∧ ln - 2 < 501, pm_in ((μ 203 (ln - 1)) + (μ 203 (ln - 2))), pm_in (c + ((μ 203 (ln - 1)) + (μ 203 (ln - 2)))), pm_in (ln - 2)] rfl ⟨pm_in_mk (by omega) (by omega), ⟨by omega, by omega⟩, pm_in_mk (by omega) (by omega), ⟨by omega, by omega⟩, pm_in_mk (by omega) (by omega), pm_in_mk (by omega) (by omega), pm_in_mk (by omega) (by omega), trivial⟩ ?_
      refine pm_call hK zmm93 (63, 1, 270, 3) zM270 (0, 0) [(2, 203), (0, ln - 2), (0, (μ 203 (ln - 1)) + (μ 203 (ln - 2)))] [] rfl rfl rfl rfl ⟨by omega, by rw [zn270]; omega⟩ (zh_insF hK (c := (ln - 2)) (v := ((μ 203 (ln - 1)) + (μ 203 (ln - 2)))) ⟨by omega, by omega⟩ ⟨by omega, by omega⟩ hT hb203 ⟨Nat.le_refl _, Nat.le_refl _⟩) (fun st1 μc1 hp1 => ?_)
      obtain ⟨rfl, hTc1, hfr1, hz1⟩ := hp1
      have hfq := hfr1
      have hzq := hz1
      refine pm_blk hK zmm93 [] 2 46 [(2, 202), (2, 37), (2, 203), (0, k), (0, c + ((μ 203 (ln - 1)) + (μ 203 (ln - 2)))), (0, ln + (-1)), (0, (μ 203 (ln - 1)) + (μ 203 (ln - 2)))] [] μc1 [pm_in (ln + (-1))] rfl ⟨pm_in_mk (by omega) (by omega), trivial⟩ ?_
      refine pm_hide [6] ?_
      have e9 : ln + (-1) = ln - 1 := by omega
      rw [e9]
      have e7 : (ln - 1).toNat = (ln - 2).toNat + 1 := by omega
      refine ih _ (by omega) rfl ⟨by omega, by omega⟩ ⟨by omega, by omega⟩ ?_ (fun x hx => ?_) ?_ hTc1
      · rw [e7, hzq]; omega
      · rw [e7, hzq] at hx
        rcases List.mem_cons.mp (hp.subset hx) with hx | hx
        · omega
        · exact hb x (List.mem_cons_of_mem _ (List.mem_cons_of_mem _ hx))
      · rw [e7, hzq, zhs_perm hp]
        show μ 203 (ln - 1) + μ 203 (ln - 2) + zhs (zrl (μ 203) (ln - 2).toNat) ≤ 800
        omega
set_option maxRecDepth 100000 in
theorem zh_jfree (hK : zKK ST) (hT : zTJ φ μ) (hb203 : sx_bit Wm 203 = true) (hbd : 1 ≤ bud.1 ∧ 24 ≤ bud.2.1) : zC D Wm ST b0 l Sg zM93 bud [(2, 202), (2, 37)] μ (fun st' μ' => zTJ φ μ' ∧ st' = [(0, zhH (μ 37 1).toNat (ztl (zwN (μ 38)) (μ 37 1).toNat))]) := by
  have f37 := zT_get hT zs37_1 (i := 1) (by omega) (by omega)
  have hw := zwN_b (f := μ 38) (fun i i0 i1 => zT_get hT zs38_0 (i := i) (by omega) (by omega))
  refine pm_blk hK zmm93 [] 7 10 [(2, 202), (2, 37), (2, 203), (0, 0), (0, 0), (9, 0), (9, 0)] [] μ [] rfl trivial ?_
  refine zl_jf1 hK (μ0 := μ) hb203 (fun μe hz hfr2 hTe => ?_) hbd _ rfl ⟨by omega, by omega⟩ rfl (fun _ _ => rfl) hT
  refine pm_blk hK zmm93 [] 4 46 [(2, 202), (2, 37), (2, 203), (0, μ 37 1), (0, 0), (0, μ 37 1), (9, 0)] [] μe [] rfl trivial ?_
  refine zl_jf2 hK hb203 hbd _ rfl ⟨by omega, by omega⟩ ⟨by omega, by omega⟩ (by rw [hz]; omega) (by rw [hz]; exact ztl_nn hw) ?_ hTe
  rw [hz, ztl_sum]
  have q := zss_b hw (f := 0) (μ 37 1).toNat (Nat.zero_le _)
  have q0 : zss (zwN (μ 38)) 0 = 0 := rfl
  omega
set_option maxRecDepth 100000 in
theorem zl_js3 (hK : zKK ST) {X : Nat → List pm_V → List pm_V → pm_Mem → Prop} {μ0 : pm_Mem} {k w f t : Int} (hk : 0 ≤ k ∧ k ≤ 8) (hk2 : k = μ0 37 1) (hw : ∀ e, 0 ≤ zwN (μ0 38) e ∧ zwN (μ0 38) e ≤ 99) (hf : 0 ≤ f ∧ f < t ∧ t < k) (hft : t - f = w - 1) (hE : zsE (zss (zwN (μ0 38))) k.toNat (w - 1).toNat f.toNat (zcM (μ 203) k)) (hfr : ∀ r, r ≠ 203 → μ r = μ0 r) (hT : zTJ φ μ) (K : ∀ (x y : Int), y = zss (zwN (μ0 38)) (t.toNat + 1) - zss (zwN (μ0 38)) f.toNat → zsm (zcM (μ 203) k) f.toNat t.toNat t.toNat x → zW D Wm ST b0 l Sg zM94 bud X 115 [(2, 202), (2, 37), (0, k), (2, 203), (0, w), (0, f), (0, t), (0, x), (0, y), (9, 0)] [] μ) (hbd : 1 ≤ bud.1 ∧ 21 ≤ bud.2.1) : ∀ (n : Nat) {x y m : Int}, (8 - m).toNat = n → ∀ (hm : f ≤ m ∧ m ≤ t) (hy : y = zwN (μ0 38) t.toNat + (zss (zwN (μ0 38)) m.toNat - zss (zwN (μ0 38)) f.toNat)) (hx : zsm (zcM (μ 203) k) f.toNat t.toNat m.toNat x), zW D Wm ST b0 l Sg zM94 bud X 62 [(2, 202), (2, 37), (0, k), (2, 203), (0, w), (0, f), (0, t), (0, x), (0, y), (0, m)] [] μ := by
  intro n
  induction n using Nat.strongRecOn with
  | ind n ih =>
    intro x y m hn hm hy hx
    have hA := zss_b hw (f := f.toNat) m.toNat (by omega)
    have hwt := hw t.toNat
    refine pm_blk hK zmm94 [] 2 66 [(2, 202), (2, 37), (0, k), (2, 203), (0, w), (0, f), (0, t), (0, x), (0, y), (0, m)] [(0, t), (0, m)] μ [] rfl trivial ?_
    refine pm_icmp hK zmm94 .ge 49 115 rfl rfl (fun h0 => ?_) (fun h0 => ?_)
    · have h0 : t ≤ m := h0
      refine pm_hide [9] ?_
      have em : m = t := by omega
      rw [em] at hy hx
      refine K x y ?_ hx
      show y = zss (zwN (μ0 38)) t.toNat + zwN (μ0 38) t.toNat - zss (zwN (μ0 38)) f.toNat
      omega
    · have h0 : m < t := h0
      have p1 := zpr (f := f) (k := k) (by omega) (by omega) (by omega)
      have p2 := zpr (f := m + 1) (k := k) (by omega) (by omega) (by omega)
      have v1 : μ 203 (f * k + m) = zcM (μ 203) k f.toNat m.toNat := by show _ = μ 203 (((f.toNat : Nat) : Int) * k + ((m.toNat : Nat) : Int)); rw [show ((f.toNat : Nat) : Int) = f by omega, show ((m.toNat : Nat) : Int) = m by omega]
      have v2 : μ 203 ((m + 1) * k + t) = zcM (μ 203) k (m.toNat + 1) t.toNat := by show _ = μ 203 (((m.toNat + 1 : Nat) : Int) * k + ((t.toNat : Nat) : Int)); rw [show ((m.toNat + 1 : Nat) : Int) = m + 1 by omega, show ((t.toNat : Nat) : Int) = t by omega]
      have g1 := (hE f.toNat m.toNat (by omega) (by omega) (Or.inl (by omega))).1
      have g2 := (hE (m.toNat + 1) t.toNat (by omega) (by omega) (Or.inl (by omega))).1
      have wm : zwN (μ0 38) m.toNat = μ 38 m := by rw [zwN_at (by omega), show ((m.toNat : Nat) : Int) = m by omega, hfr 38 (by decide)]
      have hxb := zsm_b hx
      have f1 := zT_get hT zs38_0 (i := m) (by omega) (by omega)
      have f2 := zT_get hT zs203_0 (i := (f * k) + m) (by omega) (by omega)
      have f3 := zT_get hT zs203_0 (i := ((m + 1) * k) + t) (by omega) (by omega)
      refine pm_blk hK zmm94 [] 25 104 [(2, 202), (2, 37), (0, k), (2, 203), (0, w), (0, f), (0, t), (0, x), (0, y + (μ 38 m)), (0, m)] [(0, (μ 203 ((f * k) + m)) + (μ 203 (((m + 1) * k) + t))), (0, x)] μ [0 ≤ m ∧ m < 8, pm_in (y + (μ 38 m)), pm_in (f * k), pm_in ((f * k) + m), 0 ≤ (f * k) + m ∧ (f * k) + m < 501, pm_in (m + 1), pm_in ((m + 1) * k), pm_in (((m + 1) * k) + t), 0 ≤ ((m + 1) * k) + t ∧ ((m + 1) * k) + t < 501, pm_in ((μ 203 ((f * k) + m)) + (μ 203 (((m + 1) * k) + t)))] rfl ⟨⟨by omega, by omega⟩, pm_in_mk (by omega) (by omega), pm_in_mk (by omega) (by omega), pm_in_mk (by omega) (by omega), ⟨by omega, by omega⟩, pm_in_mk (by omega) (by omega), pm_in_mk (by omega) (by omega), pm_in_mk (by omega) (by omega), ⟨by omega, by omega⟩, pm_in_mk (by omega) (by omega), trivial⟩ ?_
      refine pm_call hK zmm94 (43, 1, 30, 2) zM30 (0, 0) [(0, x), (0, (μ 203 ((f * k) + m)) + (μ 203 (((m + 1) * k) + t)))] [] rfl rfl rfl rfl ⟨by omega, by rw [zn30]; omega⟩ (zh_min hK ⟨Nat.le_refl _, Nat.le_refl _⟩) (fun st1 μc1 hp1 => ?_)
      obtain ⟨rfl, rfl⟩ := hp1
      refine pm_blk hK zmm94 [] 3 62 [(2, 202), (2, 37), (0, k), (2, 203), (0, w), (0, f), (0, t), (0, min x ((μ 203 ((f * k) + m)) + (μ 203 (((m + 1) * k) + t)))), (0, y + (μ 38 m)), (0, m + 1)] [] μ [pm_in (m + 1)] rfl ⟨pm_in_mk (by omega) (by omega), trivial⟩ ?_
      refine ih _ (by omega) rfl ⟨by omega, by omega⟩ ?_ ?_
      · rw [show (m + 1).toNat = m.toNat + 1 by omega]
        show _ = zwN (μ0 38) t.toNat + (zss (zwN (μ0 38)) m.toNat + zwN (μ0 38) m.toNat - zss (zwN (μ0 38)) f.toNat)
        omega
      · rw [show (m + 1).toNat = m.toNat + 1 by omega, v1, v2]
        exact zsm_s hx (by omega) (by omega)
set_option maxRecDepth 100000 in
theorem zl_js2 (hK : zKK ST) {X : Nat → List pm_V → List pm_V → pm_Mem → Prop} {μ0 : pm_Mem} {k w : Int} (hk : 0 ≤ k ∧ k ≤ 8) (hk2 : k = μ0 37 1) (hw : ∀ e, 0 ≤ zwN (μ0 38) e ∧ zwN (μ0 38) e ≤ 99) (hw2 : 2 ≤ w ∧ w ≤ k) (hb203 : sx_bit Wm 203 = true) (K : ∀ (f : Int) (μ : pm_Mem), zsE (zss (zwN (μ0 38))) k.toNat w.toNat 0 (zcM (μ 203) k) → (∀ r, r ≠ 203 → μ r = μ0 r) → zTJ φ μ → zW D Wm ST b0 l Sg zM94 bud X 135 [(2, 202), (2, 37), (0, k), (2, 203), (0, w), (9, 0), (9, 0), (9, 0), (9, 0), (9, 0)] [] μ) (hbd : 1 ≤ bud.1 ∧ 21 ≤ bud.2.1) : ∀ (n : Nat) {f : Int} {μ : pm_Mem}, (9 - f).toNat = n → ∀ (hf : 0 ≤ f ∧ f ≤ 8) (hE : zsE (zss (zwN (μ0 38))) k.toNat (w - 1).toNat f.toNat (zcM (μ 203) k)) (hfr : ∀ r, r ≠ 203 → μ r = μ0 r) (hT : zTJ φ μ), zW D Wm ST b0 l Sg zM94 bud X 27 [(2, 202), (2, 37), (0, k), (2, 203), (0, w), (0, f), (9, 0), (9, 0), (9, 0), (9, 0)] [] μ := by
  intro n
  induction n using Nat.strongRecOn with
  | ind n ih =>
    intro f μ hn hf hE hfr hT
    refine pm_blk hK zmm94 [] 4 33 [(2, 202), (2, 37), (0, k), (2, 203), (0, w), (0, f), (9, 0), (9, 0), (9, 0), (9, 0)] [(0, k), (0, f + w)] μ [pm_in (f + w)] rfl ⟨pm_in_mk (by omega) (by omega), trivial⟩ ?_
    refine pm_icmp hK zmm94 .gt 102 135 rfl rfl (fun h0 => ?_) (fun h0 => ?_)
    · have h0 : k < f + w := h0
      refine pm_hide [5] ?_
      have e1 : w.toNat = (w - 1).toNat + 1 := by omega
      refine K f _ (by rw [e1]; exact zsE_wide hE (by omega)) hfr hT
    · have h0 : f + w ≤ k := h0
      have f1 := zT_get hT zs38_0 (i := (f + w) - 1) (by omega) (by omega)
      refine pm_blk hK zmm94 [] 15 62 [(2, 202), (2, 37), (0, k), (2, 203), (0, w), (0, f), (0, (f + w) - 1), (0, 1000000), (0, μ 38 ((f + w) - 1)), (0, f)] [] μ [pm_in (f + w), pm_in ((f + w) - 1), 0 ≤ (f + w) - 1 ∧ (f + w) - 1 < 8] rfl ⟨pm_in_mk (by omega) (by omega), pm_in_mk (by omega) (by omega), ⟨by omega, by omega⟩, trivial⟩ ?_
      have e6 : f + w - 1 - f = w - 1 := by omega
      have et : zwN (μ0 38) (f + w - 1).toNat = μ 38 (f + w - 1) := by rw [zwN_at (by omega), show (((f + w - 1).toNat : Nat) : Int) = f + w - 1 by omega, hfr 38 (by decide)]
      refine zl_js3 hK (μ0 := μ0) (k := k) (w := w) (f := f) (t := f + w - 1) hk hk2 hw ⟨by omega, by omega, by omega⟩ e6 hE hfr hT (fun x y hy hx => ?_) hbd _ rfl ⟨by omega, by omega⟩ (by rw [et]; omega) (zsm_0 _ _ _)
      have p1 := zpr (f := f) (k := k) (by omega) (by omega) (by omega)
      have hxb := zsm_b hx
      have hA := zss_b hw (f := f.toNat) ((f + w - 1).toNat + 1) (by omega)
      refine pm_blk hK zmm94 [] 10 129 [(2, 202), (2, 37), (0, k), (2, 203), (0, w), (0, f), (0, f + w - 1), (0, x), (0, y), (9, 0)] [] (pm_up μ 203 ((f * k) + (f + w - 1)) (x + y)) [pm_in (f * k), pm_in ((f * k) + (f + w - 1)), pm_in (x + y), sx_bit Wm 203 = true, 0 ≤ (f * k) + (f + w - 1) ∧ (f * k) + (f + w - 1) < 501] rfl ⟨pm_in_mk (by omega) (by omega), pm_in_mk (by omega) (by omega), pm_in_mk (by omega) (by omega), hb203, ⟨by omega, by omega⟩, trivial⟩ ?_
      obtain ⟨μy1, eμy1⟩ : ∃ μ', μ' = pm_up μ 203 ((f * k) + (f + w - 1)) (x + y) := ⟨_, rfl⟩
      rw [← eμy1]
      have hTμy1 : zTJ φ μy1 := by rw [eμy1]; exact zT_up hT zs203_0 rfl (i := (f * k) + (f + w - 1)) (by omega) (by omega) (by omega) (by omega)
      refine pm_blk hK zmm94 [] 2 27 [(2, 202), (2, 37), (0, k), (2, 203), (0, w), (0, f + 1), (0, f + w - 1), (0, x), (0, y), (9, 0)] [] μy1 [pm_in (f + 1)] rfl ⟨pm_in_mk (by omega) (by omega), trivial⟩ ?_
      refine pm_hide [6, 7, 8] ?_
      refine ih _ (by omega) rfl ⟨by omega, by omega⟩ ?_ (fun r hr => by rw [eμy1, pm_up_row hr]; exact hfr r hr) hTμy1
      rw [show (f + 1).toNat = f.toNat + 1 by omega]
      obtain ⟨x1, x2⟩ := zsm_e hx (by omega)
      refine zsE_next (t := (f + w - 1).toNat) hw (by omega) (by omega) hE (by omega) (by omega) (fun f' t' h1 h2 h3 => ?_) ?_ x1 x2
      · show μy1 203 ((f' : Int) * k + (t' : Int)) = μ 203 ((f' : Int) * k + (t' : Int))
        rw [eμy1, pm_up_ne (fun q => ?_)]
        obtain ⟨q1, q2⟩ := zix ⟨by omega, by omega⟩ ⟨by omega, by omega⟩ q
        exact h3 ⟨by omega, by omega⟩
      · show μy1 203 (((f.toNat : Nat) : Int) * k + (((f + w - 1).toNat : Nat) : Int)) = _
        rw [show ((f.toNat : Nat) : Int) = f by omega, show (((f + w - 1).toNat : Nat) : Int) = f + w - 1 by omega, eμy1, pm_up_eq, hy]
set_option maxRecDepth 100000 in
theorem zl_js1 (hK : zKK ST) {X : Nat → List pm_V → List pm_V → pm_Mem → Prop} {μ0 : pm_Mem} {k : Int} (hk : 0 ≤ k ∧ k ≤ 8) (hk2 : k = μ0 37 1) (hw : ∀ e, 0 ≤ zwN (μ0 38) e ∧ zwN (μ0 38) e ≤ 99) (hb203 : sx_bit Wm 203 = true) (K : ∀ (μ : pm_Mem), (2 ≤ k → zsQ (zss (zwN (μ0 38))) k.toNat (zcM (μ 203) k)) → zTJ φ μ → zW D Wm ST b0 l Sg zM94 bud X 141 [(2, 202), (2, 37), (0, k), (2, 203), (9, 0), (9, 0), (9, 0), (9, 0), (9, 0), (9, 0)] [] μ) (hbd : 1 ≤ bud.1 ∧ 21 ≤ bud.2.1) : ∀ (n : Nat) {w : Int} {μ : pm_Mem}, (10 - w).toNat = n → ∀ (hw2 : 2 ≤ w ∧ w ≤ 10) (hE : zsE (zss (zwN (μ0 38))) k.toNat (w - 1).toNat 0 (zcM (μ 203) k)) (hfr : ∀ r, r ≠ 203 → μ r = μ0 r) (hT : zTJ φ μ), zW D Wm ST b0 l Sg zM94 bud X 18 [(2, 202), (2, 37), (0, k), (2, 203), (0, w), (9, 0), (9, 0), (9, 0), (9, 0), (9, 0)] [] μ := by
  intro n
  induction n using Nat.strongRecOn with
  | ind n ih =>
    intro w μ hn hw2 hE hfr hT
    refine pm_blk hK zmm94 [] 2 21 [(2, 202), (2, 37), (0, k), (2, 203), (0, w), (9, 0), (9, 0), (9, 0), (9, 0), (9, 0)] [(0, k), (0, w)] μ [] rfl trivial ?_
    refine pm_icmp hK zmm94 .gt 120 141 rfl rfl (fun h0 => ?_) (fun h0 => ?_)
    · have h0 : k < w := h0
      refine pm_hide [4] ?_
      exact K _ (fun _ => zsE_Q hE (by omega)) hT
    · have h0 : w ≤ k := h0
      refine pm_blk hK zmm94 [] 2 27 [(2, 202), (2, 37), (0, k), (2, 203), (0, w), (0, 0), (9, 0), (9, 0), (9, 0), (9, 0)] [] μ [] rfl trivial ?_
      refine zl_js2 hK (μ0 := μ0) hk hk2 hw ⟨by omega, by omega⟩ hb203 (fun f μ2 hE2 hfr2 hT2 => ?_) hbd _ rfl ⟨by omega, by omega⟩ hE hfr hT
      refine pm_blk hK zmm94 [] 2 18 [(2, 202), (2, 37), (0, k), (2, 203), (0, w + 1), (9, 0), (9, 0), (9, 0), (9, 0), (9, 0)] [] μ2 [pm_in (w + 1)] rfl ⟨pm_in_mk (by omega) (by omega), trivial⟩ ?_
      exact ih _ (by omega) rfl ⟨by omega, by omega⟩ (by rw [show (w + 1 - 1).toNat = w.toNat by omega]; exact hE2) hfr2 hT2
set_option maxRecDepth 100000 in
theorem zh_jside (hK : zKK ST) (hT : zTJ φ μ) (hb203 : sx_bit Wm 203 = true) (hbd : 1 ≤ bud.1 ∧ 60 ≤ bud.2.1) : zC D Wm ST b0 l Sg zM94 bud [(2, 202), (2, 37)] μ (fun st' μ' => zTJ φ μ' ∧ ∃ x, st' = [(0, x)] ∧ ((μ 37 1).toNat < 2 → x = 0) ∧ (2 ≤ (μ 37 1).toNat → ∃ c, zsQ (zss (zwN (μ 38))) (μ 37 1).toNat c ∧ x = c 0 ((μ 37 1).toNat - 1))) := by
  have f37 := zT_get hT zs37_1 (i := 1) (by omega) (by omega)
  have hw := zwN_b (f := μ 38) (fun i i0 i1 => zT_get hT zs38_0 (i := i) (by omega) (by omega))
  have f1 := zT_get hT zs37_1 (i := 1) (by omega) (by omega)
  refine pm_blk hK zmm94 [] 8 12 [(2, 202), (2, 37), (0, μ 37 1), (2, 203), (9, 0), (9, 0), (9, 0), (9, 0), (9, 0), (9, 0)] [(0, 0), (2, 203)] μ [] rfl trivial ?_
  refine pm_call hK zmm94 (18, 1, 77, 2) zM77 (0, 0) [(2, 203), (0, 0)] [] rfl rfl rfl rfl ⟨by omega, by rw [zn77]; omega⟩ (zh_fill hK (v := 0) ⟨by omega, by omega⟩ hT hb203 ⟨Nat.le_refl _, Nat.le_refl _⟩) (fun st1 μc1 hp1 => ?_)
  obtain ⟨rfl, hz1, hfr1, hTc1⟩ := hp1
  refine pm_blk hK zmm94 [] 2 18 [(2, 202), (2, 37), (0, μ 37 1), (2, 203), (0, 2), (9, 0), (9, 0), (9, 0), (9, 0), (9, 0)] [] μc1 [] rfl trivial ?_
  have hz0 : ∀ f : Nat, f < (μ 37 1).toNat → zcM (μc1 203) (μ 37 1) f f = 0 := fun f hf => by
    have p1 := zpr (f := (f : Int)) (k := μ 37 1) (by omega) (by omega) (by omega)
    show μc1 203 ((f : Int) * μ 37 1 + (f : Int)) = 0
    exact hz1 _ (by omega) (by omega)
  refine zl_js1 hK (μ0 := μ) (k := μ 37 1) ⟨by omega, by omega⟩ rfl hw hb203 (fun μe hQ hTe => ?_) ⟨by omega, by omega⟩ _ rfl ⟨by omega, by omega⟩ (zsE_0 hz0) (fun r hr => by rw [hfr1 r hr]) hTc1
  refine pm_blk hK zmm94 [] 2 143 [(2, 202), (2, 37), (0, μ 37 1), (2, 203), (9, 0), (9, 0), (9, 0), (9, 0), (9, 0), (9, 0)] [(0, 2), (0, μ 37 1)] μe [] rfl trivial ?_
  refine pm_icmp hK zmm94 .ge 7 150 rfl rfl (fun hy0 => ?_) (fun hy0 => ?_)
  · have hy0 : (2 : Int) ≤ μ 37 1 := hy0
    have f1 := zT_get hTe zs203_0 (i := (μ 37 1) - 1) (by omega) (by omega)
    refine pm_blk hK zmm94 [] 5 155 [(2, 202), (2, 37), (0, μ 37 1), (2, 203), (9, 0), (9, 0), (9, 0), (9, 0), (9, 0), (9, 0)] [(0, μe 203 ((μ 37 1) - 1))] μe [pm_in ((μ 37 1) - 1), 0 ≤ (μ 37 1) - 1 ∧ (μ 37 1) - 1 < 501] rfl ⟨pm_in_mk (by omega) (by omega), ⟨by omega, by omega⟩, trivial⟩ ?_
    first
    | exact pm_iret rfl rfl ⟨hTe, _, rfl, fun _ => rfl, fun h => absurd h (by omega)⟩
    | exact pm_iret rfl rfl ⟨hTe, _, rfl, fun h => absurd h (by omega), fun _ => ⟨_, hQ (by omega), by show _ = μe 203 (((0 : Nat) : Int) * μ 37 1 + (((μ 37 1).toNat - 1 : Nat) : Int)); rw [show ((0 : Nat) : Int) * μ 37 1 + (((μ 37 1).toNat - 1 : Nat) : Int) = μ 37 1 - 1 by rw [show ((0 : Nat) : Int) = 0 from rfl, Int.zero_mul]; omega]⟩⟩
  · have hy0 : μ 37 1 < (2 : Int) := hy0
    refine pm_blk hK zmm94 [] 2 155 [(2, 202), (2, 37), (0, μ 37 1), (2, 203), (9, 0), (9, 0), (9, 0), (9, 0), (9, 0), (9, 0)] [(0, 0)] μe [] rfl trivial ?_
    first
    | exact pm_iret rfl rfl ⟨hTe, _, rfl, fun _ => rfl, fun h => absurd h (by omega)⟩
    | exact pm_iret rfl rfl ⟨hTe, _, rfl, fun h => absurd h (by omega), fun _ => ⟨_, hQ (by omega), by show _ = μe 203 (((0 : Nat) : Int) * μ 37 1 + (((μ 37 1).toNat - 1 : Nat) : Int)); rw [show ((0 : Nat) : Int) * μ 37 1 + (((μ 37 1).toNat - 1 : Nat) : Int) = μ 37 1 - 1 by rw [show ((0 : Nat) : Int) = 0 from rfl, Int.zero_mul]; omega]⟩⟩
set_option maxRecDepth 100000 in
theorem zh_threadsx (hK : zKK ST) {q : Int} (hT : zTJ φ μ) (hb203 : sx_bit Wm 203 = true) (hbd : 2 ≤ bud.1 ∧ 90 ≤ bud.2.1) : zC D Wm ST b0 l Sg zM92 bud [(2, 1), (0, q)] μ (fun st' μ' => zTJ φ μ' ∧ ∃ x, st' = [(0, x)] ∧ ztX (zwN (μ 38)) (μ 37 1).toNat q x) := by
  refine pm_blk hK zmm92 [] 1 1 [(2, 1), (0, q)] [(0, q)] μ [] rfl trivial ?_
  refine pm_if hK zmm92 .ne 18 19 rfl rfl (fun h0 => ?_) (fun h0 => ?_)
  · have h0 : q ≠ (0 : Int) := h0
    refine pm_blk hK zmm92 [] 2 21 [(2, 1), (0, q)] [(0, 1), (0, q)] μ [] rfl trivial ?_
    refine pm_icmp hK zmm92 .ne 20 41 rfl rfl (fun h1 => ?_) (fun h1 => ?_)
    · have h1 : q ≠ (1 : Int) := h1
      refine pm_blk hK zmm92 [] 1 42 [(2, 1), (0, q)] [(0, (-1))] μ [] rfl trivial ?_
      first
      | exact pm_iret rfl rfl ⟨hT, _, rfl, fun h => absurd (show q = 1 by omega) h.2, fun h => absurd h (by omega), fun _ => ⟨hxa, hxb⟩⟩
      | exact pm_iret rfl rfl ⟨hT, _, rfl, fun _ => rfl, fun h => absurd h (by omega), fun h => absurd h (by omega)⟩
    · have h1 : q = (1 : Int) := h1
      refine pm_blk hK zmm92 [] 5 35 [(2, 1), (0, q)] [(2, 37), (2, 202)] μ [] rfl trivial ?_
      refine pm_call hK zmm92 (351, 0, 94, 1) zM94 (1, 60) [(2, 202), (2, 37)] [] rfl rfl rfl rfl ⟨by omega, by rw [zn94]; omega⟩ (zh_jside hK hT hb203 ⟨Nat.le_refl _, Nat.le_refl _⟩) (fun st1 μc1 hp1 => ?_)
      obtain ⟨hTc1, x1, rfl, hxa, hxb⟩ := hp1
      refine pm_blk hK zmm92 [] 1 42 [(2, 1), (0, q)] [(0, x1)] μc1 [] rfl trivial ?_
      first
      | exact pm_iret rfl rfl ⟨hTc1, _, rfl, fun h => absurd (show q = 1 by omega) h.2, fun h => absurd h (by omega), fun _ => ⟨hxa, hxb⟩⟩
      | exact pm_iret rfl rfl ⟨hTc1, _, rfl, fun _ => rfl, fun h => absurd h (by omega), fun h => absurd h (by omega)⟩
  · have h0 : q = (0 : Int) := h0
    refine pm_blk hK zmm92 [] 5 15 [(2, 1), (0, q)] [(2, 37), (2, 202)] μ [] rfl trivial ?_
    refine pm_call hK zmm92 (347, 0, 93, 1) zM93 (1, 24) [(2, 202), (2, 37)] [] rfl rfl rfl rfl ⟨by omega, by rw [zn93]; omega⟩ (zh_jfree hK hT hb203 ⟨Nat.le_refl _, Nat.le_refl _⟩) (fun st2 μc2 hp2 => ?_)
    obtain ⟨hTc2, rfl⟩ := hp2
    exact pm_iret rfl rfl ⟨hTc2, _, rfl, fun h => absurd (show q = 0 by omega) h.1, fun _ => rfl, fun h => absurd h (by omega)⟩
set_option maxRecDepth 100000 in
theorem zl_qab (hK : zKK ST)  {w : Int} {B : Bool} (hbd : 0 ≤ bud.1 ∧ 0 ≤ bud.2.1) : ∀ (n : Nat) {v : Int}, v.toNat = n → ∀ (hv : 1 ≤ v ∧ v ≤ 255) (hz : zbs v.toNat = B), zW D Wm ST b0 l Sg zM320 bud (pm_X zM320 (fun st' μ' => μ = μ' ∧ st' = [(0, if B = true then 1 else 0)])) 2 [(2, 205), (0, w), (0, v)] [] μ := by
  intro n
  induction n using Nat.strongRecOn with
  | ind n ih =>
    intro v hn hv hz
    refine pm_blk hK zmm320 [] 3 5 [(2, 205), (0, w), (0, v)] [(0, Int.tmod v 2)] μ [2 ≠ 0] rfl ⟨by omega, trivial⟩ ?_
    refine pm_if hK zmm320 .ne 10 15 rfl rfl (fun h0 => ?_) (fun h0 => ?_)
    · have h0 : Int.tmod v 2 ≠ (0 : Int) := h0
      have hm : v.tmod 2 = v % 2 := Int.tmod_eq_emod_of_nonneg (by omega)
      have ha := zand (x := v) (y := v + 1) (by omega) (by omega) (by omega) (by omega)
      rw [show (v + 1).toNat = v.toNat + 1 by omega] at ha
      have ho := zbs_o v.toNat (by omega) (by omega)
      rw [hz] at ho
      refine pm_blk hK zmm320 [] 5 20 [(2, 205), (0, w), (0, v)] [(0, pm_and v (v + 1))] μ [pm_in (v + 1)] rfl ⟨pm_in_mk (by omega) (by omega), trivial⟩ ?_
      refine pm_if hK zmm320 .ne 7 27 rfl rfl (fun h1 => ?_) (fun h1 => ?_)
      · have h1 : pm_and v (v + 1) ≠ (0 : Int) := h1
        refine pm_blk hK zmm320 [] 1 28 [(2, 205), (0, w), (0, v)] [(0, 0)] μ [] rfl trivial ?_
        first
        | (have hB : B = true := (by rw [← ho]; exact decide_eq_true (by omega)); exact pm_zret rfl rfl (by first | exact Or.inl rfl | exact Or.inr rfl | omega) ⟨rfl, by rw [if_pos hB]⟩)
        | (have hB : ¬ (B = true) := (by rw [← ho]; exact fun h => absurd (of_decide_eq_true h) (by omega)); exact pm_zret rfl rfl (by first | exact Or.inl rfl | exact Or.inr rfl | omega) ⟨rfl, by rw [if_neg hB]⟩)
      · have h1 : pm_and v (v + 1) = (0 : Int) := h1
        refine pm_blk hK zmm320 [] 2 28 [(2, 205), (0, w), (0, v)] [(0, 1)] μ [] rfl trivial ?_
        first
        | (have hB : B = true := (by rw [← ho]; exact decide_eq_true (by omega)); exact pm_zret rfl rfl (by first | exact Or.inl rfl | exact Or.inr rfl | omega) ⟨rfl, by rw [if_pos hB]⟩)
        | (have hB : ¬ (B = true) := (by rw [← ho]; exact fun h => absurd (of_decide_eq_true h) (by omega)); exact pm_zret rfl rfl (by first | exact Or.inl rfl | exact Or.inr rfl | omega) ⟨rfl, by rw [if_neg hB]⟩)
    · have h0 : Int.tmod v 2 = (0 : Int) := h0
      have hm : v.tmod 2 = v % 2 := Int.tmod_eq_emod_of_nonneg (by omega)
      have hs := zshr (v := v) (k := 1) (by decide) (by unfold pm_in; omega)
      have hs : pm_shr v 1 = v / 2 := hs
      refine pm_blk hK zmm320 [] 4 12 [(2, 205), (0, w), (0, pm_shr v 1)] [] μ [] rfl trivial ?_
      have hm : v.tmod 2 = v % 2 := Int.tmod_eq_emod_of_nonneg (by omega)
      refine pm_blk hK zmm320 [] 1 2 [(2, 205), (0, w), (0, pm_shr v 1)] [] μ [] rfl trivial ?_
      rw [hs]
      exact ih _ (by omega) rfl ⟨by omega, by omega⟩ (by rw [show (v / 2).toNat = v.toNat / 2 by omega, zbs_e v.toNat (by omega) (by omega) (by omega)]; exact hz)
set_option maxRecDepth 100000 in
theorem zh_qab (hK : zKK ST) {w : Int} (hw : 1 ≤ w ∧ w ≤ 255) (hbd : 0 ≤ bud.1 ∧ 0 ≤ bud.2.1) : zC D Wm ST b0 l Sg zM320 bud [(2, 205), (0, w)] μ (fun st' μ' => μ = μ' ∧ st' = [(0, if zbs w.toNat = true then 1 else 0)]) := by
  refine pm_blk hK zmm320 [] 2 2 [(2, 205), (0, w), (0, w)] [] μ [] rfl trivial ?_
  exact zl_qab hK hbd _ rfl hw rfl
set_option maxRecDepth 100000 in
theorem zl_qlg (hK : zKK ST)  {s : Int} (hs : 0 ≤ s ∧ s ≤ 2147483647) (hT : zTJ φ μ) (hbd : 1 ≤ bud.1 ∧ 22 ≤ bud.2.1) : ∀ (n : Nat) {c k : Int}, (8 - k).toNat = n → ∀ (hk : 0 ≤ k ∧ k ≤ μ 205 56) (hc : c = zhw (zwN (μ 237)) k.toNat s.toNat) (hcb : 0 ≤ c ∧ c ≤ 99 * k), zW D Wm ST b0 l Sg zM321 bud (pm_X zM321 (fun st' μ' => μ = μ' ∧ st' = [(0, zhw (zwN (μ 237)) (μ 205 56).toNat s.toNat)])) 4 [(2, 205), (0, s), (0, c), (0, k)] [] μ := by
  intro n
  induction n using Nat.strongRecOn with
  | ind n ih =>
    intro c k hn hk hc hcb
    have f56 := zT_get hT zs205_56 (i := 56) (by omega) (by omega)
    have f1 := zT_get hT zs205_56 (i := 56) (by omega) (by omega)
    refine pm_blk hK zmm321 [] 3 9 [(2, 205), (0, s), (0, c), (0, k)] [(0, μ 205 56), (0, k)] μ [] rfl trivial ?_
    refine pm_icmp hK zmm321 .ge 27 36 rfl rfl (fun h0 => ?_) (fun h0 => ?_)
    · have h0 : μ 205 56 ≤ k := h0
      refine pm_blk hK zmm321 [] 1 37 [(2, 205), (0, s), (0, c), (0, k)] [(0, c)] μ [] rfl trivial ?_
      have ek : k = μ 205 56 := by omega
      rw [ek] at hc
      exact pm_iret rfl rfl ⟨rfl, by rw [hc]⟩
    · have h0 : k < μ 205 56 := h0
      have hwk : zwN (μ 237) k.toNat = μ 237 k := by rw [zwN_at (by omega), show ((k.toNat : Nat) : Int) = k by omega]
      refine pm_blk hK zmm321 [] 3 15 [(2, 205), (0, s), (0, c), (0, k)] [(0, k), (0, s), (2, 205)] μ [] rfl trivial ?_
      refine pm_call hK zmm321 (417, 0, 169, 2) zM169 (0, 0) [(2, 205), (0, s), (0, k)] [] rfl rfl rfl rfl ⟨by omega, by rw [zn169]; omega⟩ (zh_has hK ⟨by omega, by omega⟩ ⟨by omega, by omega⟩ ⟨Nat.le_refl _, Nat.le_refl _⟩) (fun st1 μc1 hp1 => ?_)
      obtain ⟨rfl, rfl⟩ := hp1
      refine pm_if hK zmm321 .eq 12 30 rfl rfl (fun h1 => ?_) (fun h1 => ?_)
      · have h1 : (if s.toNat.testBit k.toNat = true then 1 else 0 : Int) = (0 : Int) := h1
        have h1 := zif0 h1
        refine pm_blk hK zmm321 [] 2 4 [(2, 205), (0, s), (0, c), (0, k + 1)] [] μ [pm_in (k + 1)] rfl ⟨pm_in_mk (by omega) (by omega), trivial⟩ ?_
        refine ih _ (by omega) rfl ⟨by omega, by omega⟩ ?_ ⟨by omega, by omega⟩
        rw [show (k + 1).toNat = k.toNat + 1 by omega]
        show _ = zhw (zwN (μ 237)) k.toNat s.toNat + (if s.toNat.testBit k.toNat = true then zwN (μ 237) k.toNat else 0)
        first
        | rw [if_pos (by assumption), hwk, ← hc]
        | rw [if_neg (by assumption), Int.add_zero, ← hc]
      · have h1 : (if s.toNat.testBit k.toNat = true then 1 else 0 : Int) ≠ (0 : Int) := h1
        have h1 := zif1 h1
        have f2 := zT_get hT zs237_0 (i := k) (by omega) (by omega)
        refine pm_blk hK zmm321 [] 9 4 [(2, 205), (0, s), (0, c + (μ 237 k)), (0, k + 1)] [] μ [0 ≤ k ∧ k < 8, pm_in (c + (μ 237 k)), pm_in (k + 1)] rfl ⟨⟨by omega, by omega⟩, pm_in_mk (by omega) (by omega), pm_in_mk (by omega) (by omega), trivial⟩ ?_
        refine ih _ (by omega) rfl ⟨by omega, by omega⟩ ?_ ⟨by omega, by omega⟩
        rw [show (k + 1).toNat = k.toNat + 1 by omega]
        show _ = zhw (zwN (μ 237)) k.toNat s.toNat + (if s.toNat.testBit k.toNat = true then zwN (μ 237) k.toNat else 0)
        first
        | rw [if_pos (by assumption), hwk, ← hc]
        | rw [if_neg (by assumption), Int.add_zero, ← hc]
set_option maxRecDepth 100000 in
theorem zh_qlg (hK : zKK ST) {s : Int} (hs : 0 ≤ s ∧ s ≤ 2147483647) (hT : zTJ φ μ) (hbd : 1 ≤ bud.1 ∧ 22 ≤ bud.2.1) : zC D Wm ST b0 l Sg zM321 bud [(2, 205), (0, s)] μ (fun st' μ' => μ = μ' ∧ st' = [(0, zhw (zwN (μ 237)) (μ 205 56).toNat s.toNat)]) := by
  have f56 := zT_get hT zs205_56 (i := 56) (by omega) (by omega)
  refine pm_blk hK zmm321 [] 4 4 [(2, 205), (0, s), (0, 0), (0, 0)] [] μ [] rfl trivial ?_
  exact zl_qlg hK hs hT hbd _ rfl ⟨by omega, by omega⟩ rfl ⟨by omega, by omega⟩
set_option maxRecDepth 100000 in
theorem zl_qon (hK : zKK ST)  {s T : Int} (hT : T ≤ 8) (hbd : 0 ≤ bud.1 ∧ 0 ≤ bud.2.1) : ∀ (n : Nat) {c v : Int}, v.toNat = n → ∀ (hv : 0 ≤ v ∧ v ≤ 255) (hn : 0 ≤ c) (hz : c + ((zqOn 8 v.toNat : Nat) : Int) = T), zW D Wm ST b0 l Sg zM152 bud (pm_X zM152 (fun st' μ' => μ = μ' ∧ st' = [(0, T)])) 4 [(2, 205), (0, s), (0, c), (0, v)] [] μ := by
  intro n
  induction n using Nat.strongRecOn with
  | ind n ih =>
    intro c v hn hv hn hz
    refine pm_blk hK zmm152 [] 1 5 [(2, 205), (0, s), (0, c), (0, v)] [(0, v)] μ [] rfl trivial ?_
    refine pm_if hK zmm152 .eq 16 21 rfl rfl (fun h0 => ?_) (fun h0 => ?_)
    · have h0 : v = (0 : Int) := h0
      refine pm_blk hK zmm152 [] 1 22 [(2, 205), (0, s), (0, c), (0, v)] [(0, c)] μ [] rfl trivial ?_
      have e0 : v = 0 := by omega
      subst e0
      have ez : zqOn 8 (0 : Int).toNat = 0 := zpc_0
      exact pm_iret rfl rfl ⟨rfl, by rw [show c = T by omega]⟩
    · have h0 : v ≠ (0 : Int) := h0
      have ea := zand (x := v) (y := v - 1) (by omega) (by omega) (by omega) (by omega)
      have es := zpc_s v.toNat (by omega) (by omega)
      rw [show (v - 1).toNat = v.toNat - 1 by omega] at ea
      have el : v.toNat &&& (v.toNat - 1) ≤ v.toNat - 1 := Nat.and_le_right
      refine pm_blk hK zmm152 [] 11 4 [(2, 205), (0, s), (0, c + 1), (0, pm_and v (v - 1))] [] μ [pm_in (c + 1), pm_in (v - 1)] rfl ⟨pm_in_mk (by omega) (by omega), pm_in_mk (by omega) (by omega), trivial⟩ ?_
      have ev : (pm_and v (v - 1)).toNat = v.toNat &&& (v.toNat - 1) := by rw [ea, Int.toNat_natCast]
      exact ih _ (by rw [ev]; omega) rfl ⟨by rw [ea]; omega, by rw [ea]; omega⟩ (by omega) (by rw [ev]; omega)
set_option maxRecDepth 100000 in
theorem zh_qones (hK : zKK ST) {s : Int} (hs : 0 ≤ s ∧ s ≤ 255) (hbd : 0 ≤ bud.1 ∧ 0 ≤ bud.2.1) : zC D Wm ST b0 l Sg zM152 bud [(2, 205), (0, s)] μ (fun st' μ' => μ = μ' ∧ st' = [(0, ((zqOn 8 s.toNat : Nat) : Int))]) := by
  refine pm_blk hK zmm152 [] 4 4 [(2, 205), (0, s), (0, 0), (0, s)] [] μ [] rfl trivial ?_
  exact zl_qon hK (by have := zpc_b s.toNat (by omega); omega) hbd _ rfl hs (by omega) (by omega)
set_option maxRecDepth 100000 in
theorem zl_qt2 (hK : zKK ST) {X : Nat → List pm_V → List pm_V → pm_Mem → Prop} {μ0 : pm_Mem} {q s : Int} {N : Nat} (hN : ((N : Nat) : Int) = μ0 205 56) (hN8 : N ≤ 8) (hw : ∀ e, 0 ≤ zwN (μ0 237) e ∧ zwN (μ0 237) e ≤ 99) (hq : 0 ≤ q ∧ q ≤ 1) (hs : 1 ≤ s ∧ s ≤ 255) (hb238 : sx_bit Wm 238 = true) (K : ∀ (μ : pm_Mem), (∀ z : Nat, z ≠ 0 → z ≤ s.toNat → zjs (zwN (μ0 237)) N q (fun e : Nat => μ 238 (e : Int)) z) → (∀ r, r ≠ 238 → μ r = μ0 r) → zTJ φ μ → zW D Wm ST b0 l Sg zM187 bud X 177 [(2, 205), (0, q), (0, s), (9, 0), (9, 0), (9, 0)] [] μ) (hbd : 2 ≤ bud.1 ∧ 51 ≤ bud.2.1) : ∀ (n : Nat) {o : Int} {μ : pm_Mem}, o.toNat = n → ∀ (ho : 0 ≤ o ∧ o < s) (hos : o.toNat &&& s.toNat = o.toNat) (hj : zjo (zwN (μ0 237)) N q (fun e : Nat => μ 238 (e : Int)) s.toNat o.toNat) (hd : ∀ z : Nat, z ≠ 0 → z < s.toNat → zjs (zwN (μ0 237)) N q (fun e : Nat => μ 238 (e : Int)) z) (hfr : ∀ r, r ≠ 238 → μ r = μ0 r) (hT : zTJ φ μ), zW D Wm ST b0 l Sg zM187 bud X 83 [(2, 205), (0, q), (0, s), (0, o), (9, 0), (9, 0)] [] μ := by
  intro n
  induction n using Nat.strongRecOn with
  | ind n ih =>
    intro o μ hn ho hos hj hd hfr hT
    refine pm_blk hK zmm187 [] 1 84 [(2, 205), (0, q), (0, s), (0, o), (9, 0), (9, 0)] [(0, o)] μ [] rfl trivial ?_
    refine pm_if hK zmm187 .le 93 177 rfl rfl (fun h0 => ?_) (fun h0 => ?_)
    · have h0 : o ≤ (0 : Int) := h0
      refine pm_hide [3] ?_
      have eo : o = 0 := by omega
      subst eo
      refine K _ (fun z z0 z1 => ?_) hfr hT
      by_cases hz : z = s.toNat
      · rw [hz]; exact zjo_end hj
      · exact hd z z0 (by omega)
    · have h0 : (0 : Int) < o := h0
      have hx := zandn2 (k := s.toNat) (s := o.toNat) (by omega) (by omega)
      rw [show ((s.toNat : Nat) : Int) = s by omega, show ((o.toNat : Nat) : Int) = o by omega] at hx
      have hle : s.toNat &&& (o.toNat ^^^ 4294967295) ≤ s.toNat := Nat.and_le_left
      have hxn : (pm_and s (pm_xor o (-1))).toNat = s.toNat &&& (o.toNat ^^^ 4294967295) := by rw [hx, Int.toNat_natCast]
      have hx0 : 0 ≤ pm_and s (pm_xor o (-1)) := by rw [hx]; omega
      have hx1 : pm_and s (pm_xor o (-1)) ≤ s := by rw [hx]; omega
      have e56 : μ 205 56 = μ0 205 56 := by rw [hfr 205 (by decide)]
      have e237 : μ 237 = μ0 237 := hfr 237 (by decide)
      have eW : (μ 205 56).toNat = N := by omega
      have hW := zhw_b hw (s := s.toNat) N
      have ju : μ 238 ((o.toNat : Nat) : Int) = μ 238 o := by rw [show ((o.toNat : Nat) : Int) = o by omega]
      have jt : μ 238 ((s.toNat : Nat) : Int) = μ 238 s := by rw [show ((s.toNat : Nat) : Int) = s by omega]
      have jy : μ 238 ((s.toNat &&& (o.toNat ^^^ 4294967295) : Nat) : Int) = μ 238 (pm_and s (pm_xor o (-1))) := by rw [hx]
      have b1 : 0 ≤ μ 238 ((o.toNat : Nat) : Int) ∧ μ 238 ((o.toNat : Nat) : Int) ≤ 100000000 := (hd o.toNat (by omega) (by omega)).1
      rw [ju] at b1
      have b3 : 0 ≤ μ 238 ((s.toNat : Nat) : Int) ∧ μ 238 ((s.toNat : Nat) : Int) ≤ 100000000 := hj.1
      rw [jt] at b3
      have hW2 : 0 ≤ zhw (zwN (μ 237)) (μ 205 56).toNat s.toNat ∧ zhw (zwN (μ 237)) (μ 205 56).toNat s.toNat ≤ 99 * (N : Int) := by rw [e237, eW]; exact hW
      obtain ⟨z1, z2⟩ := zoth (s := s.toNat) (by omega) hos
      have hlt : s.toNat &&& (o.toNat ^^^ 4294967295) < s.toNat := by
        by_cases hh : s.toNat &&& (o.toNat ^^^ 4294967295) = s.toNat
        · exfalso
          rw [hh, hos] at z1
          omega
        · omega
      have hne : s.toNat &&& (o.toNat ^^^ 4294967295) ≠ 0 := fun hh => by
        rw [hh, Nat.or_zero] at z2
        omega
      have b2 : 0 ≤ μ 238 ((s.toNat &&& (o.toNat ^^^ 4294967295) : Nat) : Int) ∧ μ 238 ((s.toNat &&& (o.toNat ^^^ 4294967295) : Nat) : Int) ≤ 100000000 := (hd _ hne hlt).1
      rw [jy] at b2
      refine pm_blk hK zmm187 [] 7 95 [(2, 205), (0, q), (0, s), (0, o), (0, pm_and s (pm_xor o ((-1)))), (9, 0)] [(0, q)] μ [] rfl trivial ?_
      refine pm_if hK zmm187 .eq 20 115 rfl rfl (fun h1 => ?_) (fun h1 => ?_)
      · have h1 : q = (0 : Int) := h1
        refine pm_blk hK zmm187 [] 4 124 [(2, 205), (0, q), (0, s), (0, o), (0, pm_and s (pm_xor o ((-1)))), (0, 1)] [(0, pm_and s (pm_xor o ((-1))))] μ [] rfl trivial ?_
        refine pm_if hK zmm187 .eq 44 168 rfl rfl (fun h2 => ?_) (fun h2 => ?_)
        · have h2 : pm_and s (pm_xor o ((-1))) = (0 : Int) := h2
          have hp := zand (x := o - 1) (y := s) (by omega) (by omega) (by omega) (by omega)
          rw [show (o - 1).toNat = o.toNat - 1 by omega] at hp
          have hpl : (o.toNat - 1) &&& s.toNat ≤ o.toNat - 1 := Nat.and_le_left
          have hpn : (pm_and (o - 1) s).toNat = (o.toNat - 1) &&& s.toNat := by rw [hp, Int.toNat_natCast]
          refine pm_blk hK zmm187 [] 7 83 [(2, 205), (0, q), (0, s), (0, pm_and (o - 1) s), (0, pm_and s (pm_xor o ((-1)))), (0, 1)] [] μ [pm_in (o - 1)] rfl ⟨pm_in_mk (by omega) (by omega), trivial⟩ ?_
          refine pm_hide [4, 5] ?_
          have hsub2 : (pm_and (o - 1) s).toNat &&& s.toNat = (pm_and (o - 1) s).toNat := by rw [hpn, Nat.and_assoc, Nat.and_self]
          refine ih _ (by rw [hpn]; omega) rfl ⟨by rw [hp]; omega, by rw [hp]; omega⟩ hsub2 ?_ hd hfr hT
          refine zjo_s (by omega) rfl hos (by omega) hj hpn (fun _ _ => rfl) ?_ (by omega)
          rw [if_neg]
          intro hcc
          obtain ⟨c1, c2, c3⟩ := hcc
          rw [← hxn] at c3
          first
          | (exfalso; omega)
          | (rcases c2 with c2 | c2; omega; contradiction)
          | (rcases c3 with c3 | c3; omega; contradiction)
        · have h2 : pm_and s (pm_xor o ((-1))) ≠ (0 : Int) := h2
          refine pm_blk hK zmm187 [] 1 129 [(2, 205), (0, q), (0, s), (0, o), (0, pm_and s (pm_xor o ((-1)))), (0, 1)] [(0, 1)] μ [] rfl trivial ?_
          refine pm_if hK zmm187 .eq 39 168 rfl rfl (fun h3 => ?_) (fun h3 => ?_)
          · have h3 : (1 : Int) = (0 : Int) := h3
            exact absurd h3 (by decide)
          · have h3 : (1 : Int) ≠ (0 : Int) := h3
            have f1 := zT_get hT zs238_0 (i := s) (by omega) (by omega)
            have f2 := zT_get hT zs238_0 (i := o) (by omega) (by omega)
            have f3 := zT_get hT zs238_0 (i := pm_and s (pm_xor o ((-1)))) (by omega) (by omega)
            refine pm_blk hK zmm187 [] 19 160 [(2, 205), (0, q), (0, s), (0, o), (0, pm_and s (pm_xor o ((-1)))), (0, 1)] [(0, s), (2, 205), (0, (μ 238 o) + (μ 238 (pm_and s (pm_xor o ((-1)))))), (0, μ 238 s), (2, 205), (0, s), (2, 238)] μ [0 ≤ s ∧ s < 256, 0 ≤ o ∧ o < 256, 0 ≤ pm_and s (pm_xor o ((-1))) ∧ pm_and s (pm_xor o ((-1))) < 256, pm_in ((μ 238 o) + (μ 238 (pm_and s (pm_xor o ((-1))))))] rfl ⟨⟨by omega, by omega⟩, ⟨by omega, by omega⟩, ⟨by omega, by omega⟩, pm_in_mk (by omega) (by omega), trivial⟩ ?_
            refine pm_call hK zmm187 (472, 0, 321, 1) zM321 (1, 22) [(2, 205), (0, s)] [(0, (μ 238 o) + (μ 238 (pm_and s (pm_xor o ((-1)))))), (0, μ 238 s), (2, 205), (0, s), (2, 238)] rfl rfl rfl rfl ⟨by omega, by rw [zn321]; omega⟩ (zh_qlg hK (s := s) ⟨by omega, by omega⟩ hT ⟨Nat.le_refl _, Nat.le_refl _⟩) (fun st1 μc1 hp1 => ?_)
            obtain ⟨rfl, rfl⟩ := hp1
            refine pm_blk hK zmm187 [] 1 164 [(2, 205), (0, q), (0, s), (0, o), (0, pm_and s (pm_xor o ((-1)))), (0, 1)] [(0, ((μ 238 o) + (μ 238 (pm_and s (pm_xor o ((-1)))))) + (zhw (zwN (μ 237)) (μ 205 56).toNat s.toNat)), (0, μ 238 s), (2, 205), (0, s), (2, 238)] μ [pm_in (((μ 238 o) + (μ 238 (pm_and s (pm_xor o ((-1)))))) + (zhw (zwN (μ 237)) (μ 205 56).toNat s.toNat))] rfl ⟨pm_in_mk (by omega) (by omega), trivial⟩ ?_
            refine pm_call hK zmm187 (377, 0, 157, 2) zM157 (0, 0) [(2, 205), (0, μ 238 s), (0, ((μ 238 o) + (μ 238 (pm_and s (pm_xor o ((-1)))))) + (zhw (zwN (μ 237)) (μ 205 56).toNat s.toNat))] [(0, s), (2, 238)] rfl rfl rfl rfl ⟨by omega, by rw [zn157]; omega⟩ (zh_lesser hK ⟨by omega, by omega⟩) (fun st2 μc2 hp2 => ?_)
            obtain ⟨rfl, rfl⟩ := hp2
            refine pm_blk hK zmm187 [] 1 168 [(2, 205), (0, q), (0, s), (0, o), (0, pm_and s (pm_xor o ((-1)))), (0, 1)] [] (pm_up μ 238 s (min (μ 238 s) (((μ 238 o) + (μ 238 (pm_and s (pm_xor o ((-1)))))) + (zhw (zwN (μ 237)) (μ 205 56).toNat s.toNat)))) [sx_bit Wm 238 = true, 0 ≤ s ∧ s < 256] rfl ⟨hb238, ⟨by omega, by omega⟩, trivial⟩ ?_
            obtain ⟨μ1, eμ1⟩ : ∃ μ', μ' = pm_up μ 238 s (min (μ 238 s) (((μ 238 o) + (μ 238 (pm_and s (pm_xor o ((-1)))))) + (zhw (zwN (μ 237)) (μ 205 56).toNat s.toNat))) := ⟨_, rfl⟩
            rw [← eμ1]
            have hTμ1 : zTJ φ μ1 := by rw [eμ1]; exact zT_up hT zs238_0 rfl (i := s) (by omega) (by omega) (by omega) (by omega)
            have hp := zand (x := o - 1) (y := s) (by omega) (by omega) (by omega) (by omega)
            rw [show (o - 1).toNat = o.toNat - 1 by omega] at hp
            have hpl : (o.toNat - 1) &&& s.toNat ≤ o.toNat - 1 := Nat.and_le_left
            have hpn : (pm_and (o - 1) s).toNat = (o.toNat - 1) &&& s.toNat := by rw [hp, Int.toNat_natCast]
            refine pm_blk hK zmm187 [] 7 83 [(2, 205), (0, q), (0, s), (0, pm_and (o - 1) s), (0, pm_and s (pm_xor o ((-1)))), (0, 1)] [] μ1 [pm_in (o - 1)] rfl ⟨pm_in_mk (by omega) (by omega), trivial⟩ ?_
            refine pm_hide [4, 5] ?_
            have hsub2 : (pm_and (o - 1) s).toNat &&& s.toNat = (pm_and (o - 1) s).toNat := by rw [hpn, Nat.and_assoc, Nat.and_self]
            refine ih _ (by rw [hpn]; omega) rfl ⟨by rw [hp]; omega, by rw [hp]; omega⟩ hsub2 ?_ (fun z z0 z1 => zjs_cg (fun i hi => by show μ1 238 (i : Int) = μ 238 (i : Int); rw [eμ1, pm_up_ne (by omega)]) (hd z z0 z1)) (fun r hr => by rw [eμ1, pm_up_row hr]; exact hfr r hr) hTμ1
            refine zjo_s (by omega) rfl hos (by omega) hj hpn (fun i hi => by show μ1 238 (i : Int) = μ 238 (i : Int); rw [eμ1, pm_up_ne (by omega)]) ?_ (by omega)
            have jt9 : μ1 238 ((s.toNat : Nat) : Int) = μ1 238 s := by rw [show ((s.toNat : Nat) : Int) = s by omega]
            show μ1 238 ((s.toNat : Nat) : Int) = _
            rw [jt9, eμ1, pm_up_eq, e237, eW, if_pos ⟨by omega, (by first | exact Or.inl (by assumption) | exact Or.inl (by omega) | exact Or.inr (by assumption)), (by rw [← hxn]; first | exact Or.inl (by assumption) | exact Or.inl (by omega) | exact Or.inr (by assumption))⟩]
            show _ = min (μ 238 ((s.toNat : Nat) : Int)) (μ 238 ((o.toNat : Nat) : Int) + μ 238 ((s.toNat &&& (o.toNat ^^^ 4294967295) : Nat) : Int) + _)
            rw [ju, jy, jt]
      · have h1 : q ≠ (0 : Int) := h1
        refine pm_blk hK zmm187 [] 2 100 [(2, 205), (0, q), (0, s), (0, o), (0, pm_and s (pm_xor o ((-1)))), (9, 0)] [(0, o), (2, 205)] μ [] rfl trivial ?_
        refine pm_call hK zmm187 (469, 0, 320, 1) zM320 (0, 0) [(2, 205), (0, o)] [] rfl rfl rfl rfl ⟨by omega, by rw [zn320]; omega⟩ (zh_qab hK ⟨by omega, by omega⟩ ⟨Nat.le_refl _, Nat.le_refl _⟩) (fun st3 μc3 hp3 => ?_)
        obtain ⟨rfl, rfl⟩ := hp3
        refine pm_if hK zmm187 .eq 16 119 rfl rfl (fun h4 => ?_) (fun h4 => ?_)
        · have h4 : (if zbs o.toNat = true then 1 else 0 : Int) = (0 : Int) := h4
          have h4 := zif0 h4
          refine pm_blk hK zmm187 [] 3 124 [(2, 205), (0, q), (0, s), (0, o), (0, pm_and s (pm_xor o ((-1)))), (0, 0)] [(0, pm_and s (pm_xor o ((-1))))] μ [] rfl trivial ?_
          refine pm_if hK zmm187 .eq 44 168 rfl rfl (fun h5 => ?_) (fun h5 => ?_)
          · have h5 : pm_and s (pm_xor o ((-1))) = (0 : Int) := h5
            have hp := zand (x := o - 1) (y := s) (by omega) (by omega) (by omega) (by omega)
            rw [show (o - 1).toNat = o.toNat - 1 by omega] at hp
            have hpl : (o.toNat - 1) &&& s.toNat ≤ o.toNat - 1 := Nat.and_le_left
            have hpn : (pm_and (o - 1) s).toNat = (o.toNat - 1) &&& s.toNat := by rw [hp, Int.toNat_natCast]
            refine pm_blk hK zmm187 [] 7 83 [(2, 205), (0, q), (0, s), (0, pm_and (o - 1) s), (0, pm_and s (pm_xor o ((-1)))), (0, 0)] [] μ [pm_in (o - 1)] rfl ⟨pm_in_mk (by omega) (by omega), trivial⟩ ?_
            refine pm_hide [4, 5] ?_
            have hsub2 : (pm_and (o - 1) s).toNat &&& s.toNat = (pm_and (o - 1) s).toNat := by rw [hpn, Nat.and_assoc, Nat.and_self]
            refine ih _ (by rw [hpn]; omega) rfl ⟨by rw [hp]; omega, by rw [hp]; omega⟩ hsub2 ?_ hd hfr hT
            refine zjo_s (by omega) rfl hos (by omega) hj hpn (fun _ _ => rfl) ?_ (by omega)
            rw [if_neg]
            intro hcc
            obtain ⟨c1, c2, c3⟩ := hcc
            rw [← hxn] at c3
            first
            | (exfalso; omega)
            | (rcases c2 with c2 | c2; omega; contradiction)
            | (rcases c3 with c3 | c3; omega; contradiction)
          · have h5 : pm_and s (pm_xor o ((-1))) ≠ (0 : Int) := h5
            refine pm_blk hK zmm187 [] 1 129 [(2, 205), (0, q), (0, s), (0, o), (0, pm_and s (pm_xor o ((-1)))), (0, 0)] [(0, 0)] μ [] rfl trivial ?_
            refine pm_if hK zmm187 .eq 39 168 rfl rfl (fun h6 => ?_) (fun h6 => ?_)
            · have h6 : (0 : Int) = (0 : Int) := h6
              have hp := zand (x := o - 1) (y := s) (by omega) (by omega) (by omega) (by omega)
              rw [show (o - 1).toNat = o.toNat - 1 by omega] at hp
              have hpl : (o.toNat - 1) &&& s.toNat ≤ o.toNat - 1 := Nat.and_le_left
              have hpn : (pm_and (o - 1) s).toNat = (o.toNat - 1) &&& s.toNat := by rw [hp, Int.toNat_natCast]
              refine pm_blk hK zmm187 [] 7 83 [(2, 205), (0, q), (0, s), (0, pm_and (o - 1) s), (0, pm_and s (pm_xor o ((-1)))), (0, 0)] [] μ [pm_in (o - 1)] rfl ⟨pm_in_mk (by omega) (by omega), trivial⟩ ?_
              refine pm_hide [4, 5] ?_
              have hsub2 : (pm_and (o - 1) s).toNat &&& s.toNat = (pm_and (o - 1) s).toNat := by rw [hpn, Nat.and_assoc, Nat.and_self]
              refine ih _ (by rw [hpn]; omega) rfl ⟨by rw [hp]; omega, by rw [hp]; omega⟩ hsub2 ?_ hd hfr hT
              refine zjo_s (by omega) rfl hos (by omega) hj hpn (fun _ _ => rfl) ?_ (by omega)
              rw [if_neg]
              intro hcc
              obtain ⟨c1, c2, c3⟩ := hcc
              rw [← hxn] at c3
              first
              | (exfalso; omega)
              | (rcases c2 with c2 | c2; omega; contradiction)
              | (rcases c3 with c3 | c3; omega; contradiction)
            · have h6 : (0 : Int) ≠ (0 : Int) := h6
              exact absurd h6 (by decide)
        · have h4 : (if zbs o.toNat = true then 1 else 0 : Int) ≠ (0 : Int) := h4
          have h4 := zif1 h4
          refine pm_blk hK zmm187 [] 2 109 [(2, 205), (0, q), (0, s), (0, o), (0, pm_and s (pm_xor o ((-1)))), (9, 0)] [(0, pm_and s (pm_xor o ((-1)))), (2, 205)] μ [] rfl trivial ?_
          refine pm_call hK zmm187 (469, 0, 320, 1) zM320 (0, 0) [(2, 205), (0, pm_and s (pm_xor o ((-1))))] [] rfl rfl rfl rfl ⟨by omega, by rw [zn320]; omega⟩ (zh_qab hK ⟨by omega, by omega⟩ ⟨Nat.le_refl _, Nat.le_refl _⟩) (fun st4 μc4 hp4 => ?_)
          obtain ⟨rfl, rfl⟩ := hp4
          refine pm_if hK zmm187 .eq 7 119 rfl rfl (fun h7 => ?_) (fun h7 => ?_)
          · have h7 : (if zbs (pm_and s (pm_xor o ((-1)))).toNat = true then 1 else 0 : Int) = (0 : Int) := h7
            have h7 := zif0 h7
            refine pm_blk hK zmm187 [] 3 124 [(2, 205), (0, q), (0, s), (0, o), (0, pm_and s (pm_xor o ((-1)))), (0, 0)] [(0, pm_and s (pm_xor o ((-1))))] μ [] rfl trivial ?_
            refine pm_if hK zmm187 .eq 44 168 rfl rfl (fun h8 => ?_) (fun h8 => ?_)
            · have h8 : pm_and s (pm_xor o ((-1))) = (0 : Int) := h8
              have hp := zand (x := o - 1) (y := s) (by omega) (by omega) (by omega) (by omega)
              rw [show (o - 1).toNat = o.toNat - 1 by omega] at hp
              have hpl : (o.toNat - 1) &&& s.toNat ≤ o.toNat - 1 := Nat.and_le_left
              have hpn : (pm_and (o - 1) s).toNat = (o.toNat - 1) &&& s.toNat := by rw [hp, Int.toNat_natCast]
              refine pm_blk hK zmm187 [] 7 83 [(2, 205), (0, q), (0, s), (0, pm_and (o - 1) s), (0, pm_and s (pm_xor o ((-1)))), (0, 0)] [] μ [pm_in (o - 1)] rfl ⟨pm_in_mk (by omega) (by omega), trivial⟩ ?_
              refine pm_hide [4, 5] ?_
              have hsub2 : (pm_and (o - 1) s).toNat &&& s.toNat = (pm_and (o - 1) s).toNat := by rw [hpn, Nat.and_assoc, Nat.and_self]
              refine ih _ (by rw [hpn]; omega) rfl ⟨by rw [hp]; omega, by rw [hp]; omega⟩ hsub2 ?_ hd hfr hT
              refine zjo_s (by omega) rfl hos (by omega) hj hpn (fun _ _ => rfl) ?_ (by omega)
              rw [if_neg]
              intro hcc
              obtain ⟨c1, c2, c3⟩ := hcc
              rw [← hxn] at c3
              first
              | (exfalso; omega)
              | (rcases c2 with c2 | c2; omega; contradiction)
              | (rcases c3 with c3 | c3; omega; contradiction)
            · have h8 : pm_and s (pm_xor o ((-1))) ≠ (0 : Int) := h8
              refine pm_blk hK zmm187 [] 1 129 [(2, 205), (0, q), (0, s), (0, o), (0, pm_and s (pm_xor o ((-1)))), (0, 0)] [(0, 0)] μ [] rfl trivial ?_
              refine pm_if hK zmm187 .eq 39 168 rfl rfl (fun h9 => ?_) (fun h9 => ?_)
              · have h9 : (0 : Int) = (0 : Int) := h9
                have hp := zand (x := o - 1) (y := s) (by omega) (by omega) (by omega) (by omega)
                rw [show (o - 1).toNat = o.toNat - 1 by omega] at hp
                have hpl : (o.toNat - 1) &&& s.toNat ≤ o.toNat - 1 := Nat.and_le_left
                have hpn : (pm_and (o - 1) s).toNat = (o.toNat - 1) &&& s.toNat := by rw [hp, Int.toNat_natCast]
                refine pm_blk hK zmm187 [] 7 83 [(2, 205), (0, q), (0, s), (0, pm_and (o - 1) s), (0, pm_and s (pm_xor o ((-1)))), (0, 0)] [] μ [pm_in (o - 1)] rfl ⟨pm_in_mk (by omega) (by omega), trivial⟩ ?_
                refine pm_hide [4, 5] ?_
                have hsub2 : (pm_and (o - 1) s).toNat &&& s.toNat = (pm_and (o - 1) s).toNat := by rw [hpn, Nat.and_assoc, Nat.and_self]
                refine ih _ (by rw [hpn]; omega) rfl ⟨by rw [hp]; omega, by rw [hp]; omega⟩ hsub2 ?_ hd hfr hT
                refine zjo_s (by omega) rfl hos (by omega) hj hpn (fun _ _ => rfl) ?_ (by omega)
                rw [if_neg]
                intro hcc
                obtain ⟨c1, c2, c3⟩ := hcc
                rw [← hxn] at c3
                first
                | (exfalso; omega)
                | (rcases c2 with c2 | c2; omega; contradiction)
                | (rcases c3 with c3 | c3; omega; contradiction)
              · have h9 : (0 : Int) ≠ (0 : Int) := h9
                exact absurd h9 (by decide)
          · have h7 : (if zbs (pm_and s (pm_xor o ((-1)))).toNat = true then 1 else 0 : Int) ≠ (0 : Int) := h7
            have h7 := zif1 h7
            refine pm_blk hK zmm187 [] 4 124 [(2, 205), (0, q), (0, s), (0, o), (0, pm_and s (pm_xor o ((-1)))), (0, 1)] [(0, pm_and s (pm_xor o ((-1))))] μ [] rfl trivial ?_
            refine pm_if hK zmm187 .eq 44 168 rfl rfl (fun h10 => ?_) (fun h10 => ?_)
            · have h10 : pm_and s (pm_xor o ((-1))) = (0 : Int) := h10
              have hp := zand (x := o - 1) (y := s) (by omega) (by omega) (by omega) (by omega)
              rw [show (o - 1).toNat = o.toNat - 1 by omega] at hp
              have hpl : (o.toNat - 1) &&& s.toNat ≤ o.toNat - 1 := Nat.and_le_left
              have hpn : (pm_and (o - 1) s).toNat = (o.toNat - 1) &&& s.toNat := by rw [hp, Int.toNat_natCast]
              refine pm_blk hK zmm187 [] 7 83 [(2, 205), (0, q), (0, s), (0, pm_and (o - 1) s), (0, pm_and s (pm_xor o ((-1)))), (0, 1)] [] μ [pm_in (o - 1)] rfl ⟨pm_in_mk (by omega) (by omega), trivial⟩ ?_
              refine pm_hide [4, 5] ?_
              have hsub2 : (pm_and (o - 1) s).toNat &&& s.toNat = (pm_and (o - 1) s).toNat := by rw [hpn, Nat.and_assoc, Nat.and_self]
              refine ih _ (by rw [hpn]; omega) rfl ⟨by rw [hp]; omega, by rw [hp]; omega⟩ hsub2 ?_ hd hfr hT
              refine zjo_s (by omega) rfl hos (by omega) hj hpn (fun _ _ => rfl) ?_ (by omega)
              rw [if_neg]
              intro hcc
              obtain ⟨c1, c2, c3⟩ := hcc
              rw [← hxn] at c3
              first
              | (exfalso; omega)
              | (rcases c2 with c2 | c2; omega; contradiction)
              | (rcases c3 with c3 | c3; omega; contradiction)
            · have h10 : pm_and s (pm_xor o ((-1))) ≠ (0 : Int) := h10
              refine pm_blk hK zmm187 [] 1 129 [(2, 205), (0, q), (0, s), (0, o), (0, pm_and s (pm_xor o ((-1)))), (0, 1)] [(0, 1)] μ [] rfl trivial ?_
              refine pm_if hK zmm187 .eq 39 168 rfl rfl (fun h11 => ?_) (fun h11 => ?_)
              · have h11 : (1 : Int) = (0 : Int) := h11
                exact absurd h11 (by decide)
              · have h11 : (1 : Int) ≠ (0 : Int) := h11
                have f4 := zT_get hT zs238_0 (i := s) (by omega) (by omega)
                have f5 := zT_get hT zs238_0 (i := o) (by omega) (by omega)
                have f6 := zT_get hT zs238_0 (i := pm_and s (pm_xor o ((-1)))) (by omega) (by omega)
                refine pm_blk hK zmm187 [] 19 160 [(2, 205), (0, q), (0, s), (0, o), (0, pm_and s (pm_xor o ((-1)))), (0, 1)] [(0, s), (2, 205), (0, (μ 238 o) + (μ 238 (pm_and s (pm_xor o ((-1)))))), (0, μ 238 s), (2, 205), (0, s), (2, 238)] μ [0 ≤ s ∧ s < 256, 0 ≤ o ∧ o < 256, 0 ≤ pm_and s (pm_xor o ((-1))) ∧ pm_and s (pm_xor o ((-1))) < 256, pm_in ((μ 238 o) + (μ 238 (pm_and s (pm_xor o ((-1))))))] rfl ⟨⟨by omega, by omega⟩, ⟨by omega, by omega⟩, ⟨by omega, by omega⟩, pm_in_mk (by omega) (by omega), trivial⟩ ?_
                refine pm_call hK zmm187 (472, 0, 321, 1) zM321 (1, 22) [(2, 205), (0, s)] [(0, (μ 238 o) + (μ 238 (pm_and s (pm_xor o ((-1)))))), (0, μ 238 s), (2, 205), (0, s), (2, 238)] rfl rfl rfl rfl ⟨by omega, by rw [zn321]; omega⟩ (zh_qlg hK (s := s) ⟨by omega, by omega⟩ hT ⟨Nat.le_refl _, Nat.le_refl _⟩) (fun st5 μc5 hp5 => ?_)
                obtain ⟨rfl, rfl⟩ := hp5
                refine pm_blk hK zmm187 [] 1 164 [(2, 205), (0, q), (0, s), (0, o), (0, pm_and s (pm_xor o ((-1)))), (0, 1)] [(0, ((μ 238 o) + (μ 238 (pm_and s (pm_xor o ((-1)))))) + (zhw (zwN (μ 237)) (μ 205 56).toNat s.toNat)), (0, μ 238 s), (2, 205), (0, s), (2, 238)] μ [pm_in (((μ 238 o) + (μ 238 (pm_and s (pm_xor o ((-1)))))) + (zhw (zwN (μ 237)) (μ 205 56).toNat s.toNat))] rfl ⟨pm_in_mk (by omega) (by omega), trivial⟩ ?_
                refine pm_call hK zmm187 (377, 0, 157, 2) zM157 (0, 0) [(2, 205), (0, μ 238 s), (0, ((μ 238 o) + (μ 238 (pm_and s (pm_xor o ((-1)))))) + (zhw (zwN (μ 237)) (μ 205 56).toNat s.toNat))] [(0, s), (2, 238)] rfl rfl rfl rfl ⟨by omega, by rw [zn157]; omega⟩ (zh_lesser hK ⟨by omega, by omega⟩) (fun st6 μc6 hp6 => ?_)
                obtain ⟨rfl, rfl⟩ := hp6
                refine pm_blk hK zmm187 [] 1 168 [(2, 205), (0, q), (0, s), (0, o), (0, pm_and s (pm_xor o ((-1)))), (0, 1)] [] (pm_up μ 238 s (min (μ 238 s) (((μ 238 o) + (μ 238 (pm_and s (pm_xor o ((-1)))))) + (zhw (zwN (μ 237)) (μ 205 56).toNat s.toNat)))) [sx_bit Wm 238 = true, 0 ≤ s ∧ s < 256] rfl ⟨hb238, ⟨by omega, by omega⟩, trivial⟩ ?_
                obtain ⟨μ2, eμ2⟩ : ∃ μ', μ' = pm_up μ 238 s (min (μ 238 s) (((μ 238 o) + (μ 238 (pm_and s (pm_xor o ((-1)))))) + (zhw (zwN (μ 237)) (μ 205 56).toNat s.toNat))) := ⟨_, rfl⟩
                rw [← eμ2]
                have hTμ2 : zTJ φ μ2 := by rw [eμ2]; exact zT_up hT zs238_0 rfl (i := s) (by omega) (by omega) (by omega) (by omega)
                have hp := zand (x := o - 1) (y := s) (by omega) (by omega) (by omega) (by omega)
                rw [show (o - 1).toNat = o.toNat - 1 by omega] at hp
                have hpl : (o.toNat - 1) &&& s.toNat ≤ o.toNat - 1 := Nat.and_le_left
                have hpn : (pm_and (o - 1) s).toNat = (o.toNat - 1) &&& s.toNat := by rw [hp, Int.toNat_natCast]
                refine pm_blk hK zmm187 [] 7 83 [(2, 205), (0, q), (0, s), (0, pm_and (o - 1) s), (0, pm_and s (pm_xor o ((-1)))), (0, 1)] [] μ2 [pm_in (o - 1)] rfl ⟨pm_in_mk (by omega) (by omega), trivial⟩ ?_
                refine pm_hide [4, 5] ?_
                have hsub2 : (pm_and (o - 1) s).toNat &&& s.toNat = (pm_and (o - 1) s).toNat := by rw [hpn, Nat.and_assoc, Nat.and_self]
                refine ih _ (by rw [hpn]; omega) rfl ⟨by rw [hp]; omega, by rw [hp]; omega⟩ hsub2 ?_ (fun z z0 z1 => zjs_cg (fun i hi => by show μ2 238 (i : Int) = μ 238 (i : Int); rw [eμ2, pm_up_ne (by omega)]) (hd z z0 z1)) (fun r hr => by rw [eμ2, pm_up_row hr]; exact hfr r hr) hTμ2
                refine zjo_s (by omega) rfl hos (by omega) hj hpn (fun i hi => by show μ2 238 (i : Int) = μ 238 (i : Int); rw [eμ2, pm_up_ne (by omega)]) ?_ (by omega)
                have jt9 : μ2 238 ((s.toNat : Nat) : Int) = μ2 238 s := by rw [show ((s.toNat : Nat) : Int) = s by omega]
                show μ2 238 ((s.toNat : Nat) : Int) = _
                rw [jt9, eμ2, pm_up_eq, e237, eW, if_pos ⟨by omega, (by first | exact Or.inl (by assumption) | exact Or.inl (by omega) | exact Or.inr (by assumption)), (by rw [← hxn]; first | exact Or.inl (by assumption) | exact Or.inl (by omega) | exact Or.inr (by assumption))⟩]
                show _ = min (μ 238 ((s.toNat : Nat) : Int)) (μ 238 ((o.toNat : Nat) : Int) + μ 238 ((s.toNat &&& (o.toNat ^^^ 4294967295) : Nat) : Int) + _)
                rw [ju, jy, jt]
set_option maxRecDepth 100000 in
theorem zl_qt1 (hK : zKK ST)  {μ0 : pm_Mem} {q : Int} {N : Nat} (hN : ((N : Nat) : Int) = μ0 205 56) (hN8 : N ≤ 8) (hw : ∀ e, 0 ≤ zwN (μ0 237) e ∧ zwN (μ0 237) e ≤ 99) (hq : 0 ≤ q ∧ q ≤ 1) (hb238 : sx_bit Wm 238 = true) (hbd : 2 ≤ bud.1 ∧ 51 ≤ bud.2.1) : ∀ (n : Nat) {s : Int} {μ : pm_Mem}, (256 - s).toNat = n → ∀ (hs : 1 ≤ s ∧ s ≤ ((2 ^ N : Nat) : Int)) (hd : ∀ z : Nat, z ≠ 0 → (z : Int) < s → zjs (zwN (μ0 237)) N q (fun e : Nat => μ 238 (e : Int)) z) (hfr : ∀ r, r ≠ 238 → μ r = μ0 r) (hT : zTJ φ μ), zW D Wm ST b0 l Sg zM187 bud (pm_X zM187 (fun st' μ' => zTJ φ μ' ∧ ∃ x, st' = [(0, x)] ∧ ∃ j : Nat → Int, (∀ z, z ≠ 0 → z < 2 ^ N → zjs (zwN (μ0 237)) N q j z) ∧ x = j (2 ^ N - 1))) 29 [(2, 205), (0, q), (0, s), (9, 0), (9, 0), (9, 0)] [] μ := by
  intro n
  induction n using Nat.strongRecOn with
  | ind n ih =>
    intro s μ hn hs hd hfr hT
    have e56 : μ 205 56 = μ0 205 56 := by rw [hfr 205 (by decide)]
    have hsh : pm_shl 1 (μ 205 56) = ((2 ^ N : Nat) : Int) := by
      have u := zshl1 N (by omega)
      rw [hN, ← e56] at u
      exact u
    have hp : (2 : Nat) ^ N ≤ 256 := Nat.pow_le_pow_right (by omega) hN8
    have hp1 : 1 ≤ (2 : Nat) ^ N := Nat.two_pow_pos _
    have f1 := zT_get hT zs205_56 (i := 56) (by omega) (by omega)
    refine pm_blk hK zmm187 [] 5 36 [(2, 205), (0, q), (0, s), (9, 0), (9, 0), (9, 0)] [(0, pm_shl 1 (μ 205 56)), (0, s)] μ [] rfl trivial ?_
    refine pm_icmp hK zmm187 .ge 147 183 rfl rfl (fun h0 => ?_) (fun h0 => ?_)
    · have h0 : pm_shl 1 (μ 205 56) ≤ s := h0
      have f2 := zT_get hT zs238_0 (i := (pm_shl 1 (μ 205 56)) - 1) (by omega) (by omega)
      refine pm_blk hK zmm187 [] 9 196 [(2, 205), (0, q), (0, s), (9, 0), (9, 0), (9, 0)] [(0, μ 238 ((pm_shl 1 (μ 205 56)) - 1))] μ [pm_in ((pm_shl 1 (μ 205 56)) - 1), 0 ≤ (pm_shl 1 (μ 205 56)) - 1 ∧ (pm_shl 1 (μ 205 56)) - 1 < 256] rfl ⟨pm_in_mk (by omega) (by omega), ⟨by omega, by omega⟩, trivial⟩ ?_
      have es : s = ((2 ^ N : Nat) : Int) := by have hqq := h0; rw [hsh] at hqq; omega
      rw [es] at hd
      exact pm_iret rfl rfl ⟨hT, _, rfl, (fun e : Nat => μ 238 (e : Int)), fun z z0 z1 => hd z z0 (Int.ofNat_lt.mpr z1), by show _ = μ 238 ((2 ^ N - 1 : Nat) : Int); rw [hsh, show ((2 ^ N - 1 : Nat) : Int) = ((2 ^ N : Nat) : Int) - 1 by omega]⟩
    · have h0 : s < pm_shl 1 (μ 205 56) := h0
      have hss : s < ((2 ^ N : Nat) : Int) := by rw [← hsh]; exact h0
      have hpi : zqOn 8 s.toNat = 1 ↔ zpE N s.toNat := zpc_i (n := N) (s := s.toNat) hN8 (by omega)
      have hpb := zpc_b s.toNat (by omega)
      refine pm_blk hK zmm187 [] 5 46 [(2, 205), (0, q), (0, s), (9, 0), (9, 0), (9, 0)] [(0, s), (2, 205), (0, s), (2, 238)] μ [] rfl trivial ?_
      refine pm_call hK zmm187 (334, 0, 152, 1) zM152 (0, 0) [(2, 205), (0, s)] [(0, s), (2, 238)] rfl rfl rfl rfl ⟨by omega, by rw [zn152]; omega⟩ (zh_qones hK ⟨by omega, by omega⟩ ⟨Nat.le_refl _, Nat.le_refl _⟩) (fun st1 μc1 hp1 => ?_)
      obtain ⟨rfl, rfl⟩ := hp1
      refine pm_blk hK zmm187 [] 1 50 [(2, 205), (0, q), (0, s), (9, 0), (9, 0), (9, 0)] [(0, 1), (0, ((zqOn 8 s.toNat : Nat) : Int)), (0, s), (2, 238)] μ [] rfl trivial ?_
      refine pm_icmp hK zmm187 .ne 7 57 rfl rfl (fun h1 => ?_) (fun h1 => ?_)
      · have h1 : ((zqOn 8 s.toNat : Nat) : Int) ≠ (1 : Int) := h1
        refine pm_blk hK zmm187 [] 2 61 [(2, 205), (0, q), (0, s), (9, 0), (9, 0), (9, 0)] [] (pm_up μ 238 s 100000000) [sx_bit Wm 238 = true, 0 ≤ s ∧ s < 256] rfl ⟨hb238, ⟨by omega, by omega⟩, trivial⟩ ?_
        obtain ⟨μ1, eμ1⟩ : ∃ μ', μ' = pm_up μ 238 s 100000000 := ⟨_, rfl⟩
        rw [← eμ1]
        have hTμ1 : zTJ φ μ1 := by rw [eμ1]; exact zT_up hT zs238_0 rfl (i := s) (by omega) (by omega) (by omega) (by omega)
        have hcur : (zpE N s.toNat → (fun e : Nat => μ1 238 (e : Int)) s.toNat = 0) ∧ (¬ zpE N s.toNat → (fun e : Nat => μ1 238 (e : Int)) s.toNat = 100000000) := by
          rw [← hpi]
          show (_ → μ1 238 ((s.toNat : Nat) : Int) = 0) ∧ (_ → μ1 238 ((s.toNat : Nat) : Int) = 100000000)
          rw [show ((s.toNat : Nat) : Int) = s by omega, eμ1, pm_up_eq]
          exact ⟨fun h => by omega, fun h => by omega⟩
        have hd2 : ∀ z : Nat, z ≠ 0 → z < s.toNat → zjs (zwN (μ0 237)) N q (fun e : Nat => μ1 238 (e : Int)) z := fun z z0 z1 => zjs_cg (fun i hi => by show μ1 238 (i : Int) = μ 238 (i : Int); rw [eμ1, pm_up_ne (by omega)]) (hd z z0 (by omega))
        have hfr2 : ∀ r, r ≠ 238 → μ1 r = μ0 r := fun r hr => by rw [eμ1, pm_up_row hr]; exact hfr r hr
        refine pm_blk hK zmm187 [] 2 63 [(2, 205), (0, q), (0, s), (9, 0), (9, 0), (9, 0)] [(0, 1), (0, q)] μ1 [] rfl trivial ?_
        refine pm_icmp hK zmm187 .ne 14 77 rfl rfl (fun h2 => ?_) (fun h2 => ?_)
        · have h2 : q ≠ (1 : Int) := h2
          have ha := zand (x := s) (y := s - 1) (by omega) (by omega) (by omega) (by omega)
          rw [show (s - 1).toNat = s.toNat - 1 by omega] at ha
          have hal : s.toNat &&& (s.toNat - 1) ≤ s.toNat - 1 := Nat.and_le_right
          have han : (pm_and s (s - 1)).toNat = (s.toNat - 1) &&& s.toNat := by rw [ha, Int.toNat_natCast, Nat.and_comm]
          have hz0 : zpE N s.toNat → (pm_and s (s - 1)).toNat = 0 := fun hh => by
            obtain ⟨e, e1, e2⟩ := hh
            rw [han, e2]
            exact zpc_3 e (by omega)
          refine pm_blk hK zmm187 [] 6 83 [(2, 205), (0, q), (0, s), (0, pm_and s (s - 1)), (9, 0), (9, 0)] [] μ1 [pm_in (s - 1)] rfl ⟨pm_in_mk (by omega) (by omega), trivial⟩ ?_
          refine zl_qt2 hK (μ0 := μ0) (N := N) hN hN8 hw hq ⟨by omega, by omega⟩ hb238 (fun μ2 hd3 hfr3 hT3 => ?_) ⟨by omega, by omega⟩ _ rfl ⟨by rw [ha]; omega, by rw [ha]; omega⟩ (by rw [han, Nat.and_assoc, Nat.and_self]) (zjo_0 (fun x => ⟨hcur.1 x, hz0 x⟩) hcur.2 han) hd2 hfr2 hTμ1
          refine pm_blk hK zmm187 [] 2 29 [(2, 205), (0, q), (0, s + 1), (9, 0), (9, 0), (9, 0)] [] μ2 [pm_in (s + 1)] rfl ⟨pm_in_mk (by omega) (by omega), trivial⟩ ?_
          exact ih _ (by omega) rfl ⟨by omega, by omega⟩ (fun z z0 z1 => hd3 z z0 (by omega)) hfr3 hT3
        · have h2 : q = (1 : Int) := h2
          refine pm_blk hK zmm187 [] 2 68 [(2, 205), (0, q), (0, s), (9, 0), (9, 0), (9, 0)] [(0, s), (2, 205)] μ1 [] rfl trivial ?_
          refine pm_call hK zmm187 (469, 0, 320, 1) zM320 (0, 0) [(2, 205), (0, s)] [] rfl rfl rfl rfl ⟨by omega, by rw [zn320]; omega⟩ (zh_qab hK ⟨by omega, by omega⟩ ⟨Nat.le_refl _, Nat.le_refl _⟩) (fun st2 μc2 hp2 => ?_)
          obtain ⟨rfl, rfl⟩ := hp2
          refine pm_if hK zmm187 .ne 6 77 rfl rfl (fun h3 => ?_) (fun h3 => ?_)
          · have h3 : (if zbs s.toNat = true then 1 else 0 : Int) ≠ (0 : Int) := h3
            have h3 := zif1 h3
            have ha := zand (x := s) (y := s - 1) (by omega) (by omega) (by omega) (by omega)
            rw [show (s - 1).toNat = s.toNat - 1 by omega] at ha
            have hal : s.toNat &&& (s.toNat - 1) ≤ s.toNat - 1 := Nat.and_le_right
            have han : (pm_and s (s - 1)).toNat = (s.toNat - 1) &&& s.toNat := by rw [ha, Int.toNat_natCast, Nat.and_comm]
            have hz0 : zpE N s.toNat → (pm_and s (s - 1)).toNat = 0 := fun hh => by
              obtain ⟨e, e1, e2⟩ := hh
              rw [han, e2]
              exact zpc_3 e (by omega)
            refine pm_blk hK zmm187 [] 6 83 [(2, 205), (0, q), (0, s), (0, pm_and s (s - 1)), (9, 0), (9, 0)] [] μ1 [pm_in (s - 1)] rfl ⟨pm_in_mk (by omega) (by omega), trivial⟩ ?_
            refine zl_qt2 hK (μ0 := μ0) (N := N) hN hN8 hw hq ⟨by omega, by omega⟩ hb238 (fun μ2 hd3 hfr3 hT3 => ?_) ⟨by omega, by omega⟩ _ rfl ⟨by rw [ha]; omega, by rw [ha]; omega⟩ (by rw [han, Nat.and_assoc, Nat.and_self]) (zjo_0 (fun x => ⟨hcur.1 x, hz0 x⟩) hcur.2 han) hd2 hfr2 hTμ1
            refine pm_blk hK zmm187 [] 2 29 [(2, 205), (0, q), (0, s + 1), (9, 0), (9, 0), (9, 0)] [] μ2 [pm_in (s + 1)] rfl ⟨pm_in_mk (by omega) (by omega), trivial⟩ ?_
            exact ih _ (by omega) rfl ⟨by omega, by omega⟩ (fun z z0 z1 => hd3 z z0 (by omega)) hfr3 hT3
          · have h3 : (if zbs s.toNat = true then 1 else 0 : Int) = (0 : Int) := h3
            have h3 := zif0 h3
            refine pm_blk hK zmm187 [] 3 29 [(2, 205), (0, q), (0, s + 1), (9, 0), (9, 0), (9, 0)] [] μ1 [pm_in (s + 1)] rfl ⟨pm_in_mk (by omega) (by omega), trivial⟩ ?_
            refine ih _ (by omega) rfl ⟨by omega, by omega⟩ (fun z z0 z1 => ?_) hfr2 hTμ1
            by_cases hz : z = s.toNat
            · rw [hz]
              refine zjs_no hcur.1 hcur.2 (fun h => ?_)
              rcases h with h | h
              · omega
              · exact absurd h (by assumption)
            · exact hd2 z z0 (by omega)
      · have h1 : ((zqOn 8 s.toNat : Nat) : Int) = (1 : Int) := h1
        refine pm_blk hK zmm187 [] 3 61 [(2, 205), (0, q), (0, s), (9, 0), (9, 0), (9, 0)] [] (pm_up μ 238 s 0) [sx_bit Wm 238 = true, 0 ≤ s ∧ s < 256] rfl ⟨hb238, ⟨by omega, by omega⟩, trivial⟩ ?_
        obtain ⟨μ2, eμ2⟩ : ∃ μ', μ' = pm_up μ 238 s 0 := ⟨_, rfl⟩
        rw [← eμ2]
        have hTμ2 : zTJ φ μ2 := by rw [eμ2]; exact zT_up hT zs238_0 rfl (i := s) (by omega) (by omega) (by omega) (by omega)
        have hcur : (zpE N s.toNat → (fun e : Nat => μ2 238 (e : Int)) s.toNat = 0) ∧ (¬ zpE N s.toNat → (fun e : Nat => μ2 238 (e : Int)) s.toNat = 100000000) := by
          rw [← hpi]
          show (_ → μ2 238 ((s.toNat : Nat) : Int) = 0) ∧ (_ → μ2 238 ((s.toNat : Nat) : Int) = 100000000)
          rw [show ((s.toNat : Nat) : Int) = s by omega, eμ2, pm_up_eq]
          exact ⟨fun h => by omega, fun h => by omega⟩
        have hd2 : ∀ z : Nat, z ≠ 0 → z < s.toNat → zjs (zwN (μ0 237)) N q (fun e : Nat => μ2 238 (e : Int)) z := fun z z0 z1 => zjs_cg (fun i hi => by show μ2 238 (i : Int) = μ 238 (i : Int); rw [eμ2, pm_up_ne (by omega)]) (hd z z0 (by omega))
        have hfr2 : ∀ r, r ≠ 238 → μ2 r = μ0 r := fun r hr => by rw [eμ2, pm_up_row hr]; exact hfr r hr
        refine pm_blk hK zmm187 [] 2 63 [(2, 205), (0, q), (0, s), (9, 0), (9, 0), (9, 0)] [(0, 1), (0, q)] μ2 [] rfl trivial ?_
        refine pm_icmp hK zmm187 .ne 14 77 rfl rfl (fun h4 => ?_) (fun h4 => ?_)
        · have h4 : q ≠ (1 : Int) := h4
          have ha := zand (x := s) (y := s - 1) (by omega) (by omega) (by omega) (by omega)
          rw [show (s - 1).toNat = s.toNat - 1 by omega] at ha
          have hal : s.toNat &&& (s.toNat - 1) ≤ s.toNat - 1 := Nat.and_le_right
          have han : (pm_and s (s - 1)).toNat = (s.toNat - 1) &&& s.toNat := by rw [ha, Int.toNat_natCast, Nat.and_comm]
          have hz0 : zpE N s.toNat → (pm_and s (s - 1)).toNat = 0 := fun hh => by
            obtain ⟨e, e1, e2⟩ := hh
            rw [han, e2]
            exact zpc_3 e (by omega)
          refine pm_blk hK zmm187 [] 6 83 [(2, 205), (0, q), (0, s), (0, pm_and s (s - 1)), (9, 0), (9, 0)] [] μ2 [pm_in (s - 1)] rfl ⟨pm_in_mk (by omega) (by omega), trivial⟩ ?_
          refine zl_qt2 hK (μ0 := μ0) (N := N) hN hN8 hw hq ⟨by omega, by omega⟩ hb238 (fun μ2 hd3 hfr3 hT3 => ?_) ⟨by omega, by omega⟩ _ rfl ⟨by rw [ha]; omega, by rw [ha]; omega⟩ (by rw [han, Nat.and_assoc, Nat.and_self]) (zjo_0 (fun x => ⟨hcur.1 x, hz0 x⟩) hcur.2 han) hd2 hfr2 hTμ2
          refine pm_blk hK zmm187 [] 2 29 [(2, 205), (0, q), (0, s + 1), (9, 0), (9, 0), (9, 0)] [] μ2 [pm_in (s + 1)] rfl ⟨pm_in_mk (by omega) (by omega), trivial⟩ ?_
          exact ih _ (by omega) rfl ⟨by omega, by omega⟩ (fun z z0 z1 => hd3 z z0 (by omega)) hfr3 hT3
        · have h4 : q = (1 : Int) := h4
          refine pm_blk hK zmm187 [] 2 68 [(2, 205), (0, q), (0, s), (9, 0), (9, 0), (9, 0)] [(0, s), (2, 205)] μ2 [] rfl trivial ?_
          refine pm_call hK zmm187 (469, 0, 320, 1) zM320 (0, 0) [(2, 205), (0, s)] [] rfl rfl rfl rfl ⟨by omega, by rw [zn320]; omega⟩ (zh_qab hK ⟨by omega, by omega⟩ ⟨Nat.le_refl _, Nat.le_refl _⟩) (fun st3 μc3 hp3 => ?_)
          obtain ⟨rfl, rfl⟩ := hp3
          refine pm_if hK zmm187 .ne 6 77 rfl rfl (fun h5 => ?_) (fun h5 => ?_)
          · have h5 : (if zbs s.toNat = true then 1 else 0 : Int) ≠ (0 : Int) := h5
            have h5 := zif1 h5
            have ha := zand (x := s) (y := s - 1) (by omega) (by omega) (by omega) (by omega)
            rw [show (s - 1).toNat = s.toNat - 1 by omega] at ha
            have hal : s.toNat &&& (s.toNat - 1) ≤ s.toNat - 1 := Nat.and_le_right
            have han : (pm_and s (s - 1)).toNat = (s.toNat - 1) &&& s.toNat := by rw [ha, Int.toNat_natCast, Nat.and_comm]
            have hz0 : zpE N s.toNat → (pm_and s (s - 1)).toNat = 0 := fun hh => by
              obtain ⟨e, e1, e2⟩ := hh
              rw [han, e2]
              exact zpc_3 e (by omega)
            refine pm_blk hK zmm187 [] 6 83 [(2, 205), (0, q), (0, s), (0, pm_and s (s - 1)), (9, 0), (9, 0)] [] μ2 [pm_in (s - 1)] rfl ⟨pm_in_mk (by omega) (by omega), trivial⟩ ?_
            refine zl_qt2 hK (μ0 := μ0) (N := N) hN hN8 hw hq ⟨by omega, by omega⟩ hb238 (fun μ2 hd3 hfr3 hT3 => ?_) ⟨by omega, by omega⟩ _ rfl ⟨by rw [ha]; omega, by rw [ha]; omega⟩ (by rw [han, Nat.and_assoc, Nat.and_self]) (zjo_0 (fun x => ⟨hcur.1 x, hz0 x⟩) hcur.2 han) hd2 hfr2 hTμ2
            refine pm_blk hK zmm187 [] 2 29 [(2, 205), (0, q), (0, s + 1), (9, 0), (9, 0), (9, 0)] [] μ2 [pm_in (s + 1)] rfl ⟨pm_in_mk (by omega) (by omega), trivial⟩ ?_
            exact ih _ (by omega) rfl ⟨by omega, by omega⟩ (fun z z0 z1 => hd3 z z0 (by omega)) hfr3 hT3
          · have h5 : (if zbs s.toNat = true then 1 else 0 : Int) = (0 : Int) := h5
            have h5 := zif0 h5
            refine pm_blk hK zmm187 [] 3 29 [(2, 205), (0, q), (0, s + 1), (9, 0), (9, 0), (9, 0)] [] μ2 [pm_in (s + 1)] rfl ⟨pm_in_mk (by omega) (by omega), trivial⟩ ?_
            refine ih _ (by omega) rfl ⟨by omega, by omega⟩ (fun z z0 z1 => ?_) hfr2 hTμ2
            by_cases hz : z = s.toNat
            · rw [hz]
              refine zjs_no hcur.1 hcur.2 (fun h => ?_)
              rcases h with h | h
              · omega
              · exact absurd h (by assumption)
            · exact hd2 z z0 (by omega)
set_option maxRecDepth 100000 in
theorem zh_threadsm (hK : zKK ST) {q : Int} (hT : zTJ φ μ) (hb205 : sx_bit Wm 205 = true) (hb238 : sx_bit Wm 238 = true) (hbd : 2 ≤ bud.1 ∧ 51 ≤ bud.2.1) : zC D Wm ST b0 l Sg zM187 bud [(2, 205), (0, q)] μ (fun st' μ' => zTJ φ μ' ∧ ∃ x, st' = [(0, x)] ∧ ztM (zwN (μ 237)) (μ 205 56).toNat q x) := by
  have f0 := zT_get hT zs205_56 (i := 56) (by omega) (by omega)
  have hw := zwN_b (f := μ 237) (fun i i0 i1 => zT_get hT zs237_0 (i := i) (by omega) (by omega))
  refine pm_blk hK zmm187 [] 3 5 [(2, 205), (0, q), (9, 0), (9, 0), (9, 0), (9, 0)] [] (pm_up μ 205 0 0) [sx_bit Wm 205 = true] rfl ⟨hb205, trivial⟩ ?_
  obtain ⟨μ1, eμ1⟩ : ∃ μ', μ' = pm_up μ 205 0 0 := ⟨_, rfl⟩
  rw [← eμ1]
  have hTμ1 : zTJ φ μ1 := by rw [eμ1]; exact zT_up hT zs205_0 rfl (i := 0) (by omega) (by omega) (by omega) (by omega)
  have b3 : μ1 205 56 = μ 205 56 := by rw [eμ1, pm_up_ne (by decide)]
  have b4 : μ1 237 = μ 237 := by rw [eμ1, pm_up_row (by decide)]
  rw [← b4] at hw
  refine pm_blk hK zmm187 [] 4 9 [(2, 205), (0, q), (9, 0), (9, 0), (9, 0), (9, 0)] [(0, 1), (0, 0), (0, q), (2, 205)] μ1 [] rfl trivial ?_
  refine pm_call hK zmm187 (158, 0, 129, 3) zM129 (0, 0) [(2, 205), (0, q), (0, 0), (0, 1)] [] rfl rfl rfl rfl ⟨by omega, by rw [zn129]; omega⟩ (zh_isIn hK ⟨by omega, by omega⟩) (fun st1 μc1 hp1 => ?_)
  obtain ⟨rfl, rfl⟩ := hp1
  refine pm_if hK zmm187 .ne 5 17 rfl rfl (fun h0 => ?_) (fun h0 => ?_)
  · have h0 : (if 0 ≤ q ∧ q ≤ 1 then 1 else 0 : Int) ≠ (0 : Int) := h0
    have h0 := zif1 h0
    have f1 := zT_get hTμ1 zs205_56 (i := 56) (by omega) (by omega)
    refine pm_blk hK zmm187 [] 3 22 [(2, 205), (0, q), (9, 0), (9, 0), (9, 0), (9, 0)] [(0, 2), (0, μ1 205 56)] μ1 [] rfl trivial ?_
    refine pm_icmp hK zmm187 .ge 5 27 rfl rfl (fun h1 => ?_) (fun h1 => ?_)
    · have h1 : (2 : Int) ≤ μ1 205 56 := h1
      refine pm_blk hK zmm187 [] 2 29 [(2, 205), (0, q), (0, 1), (9, 0), (9, 0), (9, 0)] [] μ1 [] rfl trivial ?_
      refine pm_then (zl_qt1 hK (μ0 := μ1) (q := q) (N := (μ 205 56).toNat) (by omega) (by omega) hw ⟨by omega, by omega⟩ hb238 ⟨by omega, by omega⟩ _ rfl ⟨by omega, by have := Nat.two_pow_pos (μ 205 56).toNat; omega⟩ (fun z z0 z1 => absurd z1 (by omega)) (fun _ _ => rfl) hTμ1) (fun pc2 lv2 st2 μe hX => pm_exit ⟨hX.1, ?_⟩)
      obtain ⟨-, hTe, x, rfl, j, j1, j2⟩ := hX
      rw [b4] at j1
      exact ⟨hTe, _, rfl, fun h => absurd h (by omega), fun _ => ⟨fun h => absurd h (by omega), fun _ => ⟨j, j1, j2⟩⟩⟩
    · have h1 : μ1 205 56 < (2 : Int) := h1
      refine pm_blk hK zmm187 [] 1 26 [(2, 205), (0, q), (9, 0), (9, 0), (9, 0), (9, 0)] [(0, 0)] μ1 [] rfl trivial ?_
      exact pm_iret rfl rfl ⟨hTμ1, _, rfl, fun h => absurd h (by omega), fun _ => ⟨fun _ => rfl, fun h => absurd h (by omega)⟩⟩
  · have h0 : (if 0 ≤ q ∧ q ≤ 1 then 1 else 0 : Int) = (0 : Int) := h0
    have h0 := zif0 h0
    refine pm_blk hK zmm187 [] 1 16 [(2, 205), (0, q), (9, 0), (9, 0), (9, 0), (9, 0)] [(0, (-1))] μ1 [] rfl trivial ?_
    exact pm_iret rfl rfl ⟨hTμ1, _, rfl, fun _ => rfl, fun h => absurd h (by omega)⟩
end ZHW
