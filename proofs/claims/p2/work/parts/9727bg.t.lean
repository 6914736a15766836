/-! texts 1 and 2 told anew: the reference; walks printed by program (wip/p30/pmgen.py) and filled by hand -/
section ZHW
variable {D : va_G} {Wm : Nat} {ST : List (String × String × String × Nat)} {b0 : sx_B} {l : Launch} {Sg : Nat → Option Nat} {bud : sx_Bu} {μ : pm_Mem} {B0 : Nat → Prop} {J : (Nat → Option Nat) → Heap → Prop}
set_option maxRecDepth 100000 in
theorem zx_to1l (hK : zKK ST)  {μ0 : pm_Mem} {nn : Int} (hnn : 0 ≤ nn ∧ nn ≤ 16) (hb205 : sx_bit Wm 205 = true) (hb221 : sx_bit Wm 221 = true) (hbd : 0 ≤ bud.1 ∧ 0 ≤ bud.2.1) : ∀ (n : Nat) {k : Int} {μ : pm_Mem}, (48 - k).toNat = n → ∀ (hk : 0 ≤ k ∧ k ≤ 48) (hs : ∀ r, r ≠ 221 → μ r = μ0 r) (hlo : ∀ y : Int, 0 ≤ y → y < k → μ 221 y = μ0 221 (48 + y)) (hhi : ∀ y : Int, k ≤ y → μ 221 y = μ0 221 y) (hT : zTJ none μ), zW D Wm ST b0 l Sg zM148 bud (pm_X zM148 (fun st' μ' => st' = [] ∧ zTJ none μ' ∧ (∀ r, r ≠ 205 → r ≠ 221 → μ' r = μ0 r) ∧ (∀ k : Int, k ≠ 33 → k ≠ 3 → μ' 205 k = μ0 205 k) ∧ (∀ y : Int, 0 ≤ y → y < 3 * nn → μ' 221 y = μ0 221 (48 + y)) ∧ μ' 205 33 = nn ∧ μ' 205 3 = 0)) 49 [(2, 205), (0, 1), (0, nn), (0, k)] [] μ := by
  intro n
  induction n using Nat.strongRecOn with
  | ind n ih =>
    intro k μ hn hk hs hlo hhi hT
    refine pm_blk hK zmm148 [] 4 53 [(2, 205), (0, 1), (0, nn), (0, k)] [(0, 3 * nn), (0, k)] μ [pm_in (3 * nn)] rfl ⟨pm_in_mk (by omega) (by omega), trivial⟩ ?_
    refine pm_icmp hK zmm148 .ge 24 77 rfl rfl (fun h0 => ?_) (fun h0 => ?_)
    · have h0 : 3 * nn ≤ k := h0
      refine pm_blk hK zmm148 [] 3 82 [(2, 205), (0, 1), (0, nn), (0, k)] [] (pm_up μ 205 33 nn) [sx_bit Wm 205 = true] rfl ⟨hb205, trivial⟩ ?_
      obtain ⟨μ1, eμ1⟩ : ∃ μ', μ' = pm_up μ 205 33 nn := ⟨_, rfl⟩
      rw [← eμ1]
      have hTμ1 : zTJ none μ1 := by rw [eμ1]; exact zT_upn hT zs205_33 rfl (i := 33) (by omega) (by omega) (by omega) (by omega)
      refine pm_blk hK zmm148 [] 4 125 [(2, 205), (0, 1), (0, nn), (0, k)] [] (pm_up μ1 205 3 0) [sx_bit Wm 205 = true] rfl ⟨hb205, trivial⟩ ?_
      obtain ⟨μ2, eμ2⟩ : ∃ μ', μ' = pm_up μ1 205 3 0 := ⟨_, rfl⟩
      rw [← eμ2]
      have hTμ2 : zTJ none μ2 := by rw [eμ2]; exact zT_upn hTμ1 zs205_3 rfl (i := 3) (by omega) (by omega) (by omega) (by omega)
      exact pm_vret rfl rfl ⟨rfl, hTμ2, fun r a b => by rw [eμ2, pm_up_row a, eμ1, pm_up_row a]; exact hs r b, fun k a b => by rw [eμ2, pm_up_ne b, eμ1, pm_up_ne a, hs 205 (by decide)], fun y y0 y1 => by rw [eμ2, pm_up_row (by decide), eμ1, pm_up_row (by decide)]; exact hlo y y0 (by omega), by rw [eμ2, pm_up_ne (by decide), eμ1, pm_up_eq], by rw [eμ2, pm_up_eq]⟩
    · have h0 : k < 3 * nn := h0
      refine pm_blk hK zmm148 [] 10 71 [(2, 205), (0, 1), (0, nn), (0, k)] [] (pm_up μ 221 k (μ 221 (48 + k))) [pm_in (48 + k), 0 ≤ 48 + k ∧ 48 + k < 96, sx_bit Wm 221 = true, 0 ≤ k ∧ k < 96] rfl ⟨pm_in_mk (by omega) (by omega), ⟨by omega, by omega⟩, hb221, ⟨by omega, by omega⟩, trivial⟩ ?_
      obtain ⟨μ3, eμ3⟩ : ∃ μ', μ' = pm_up μ 221 k (μ 221 (48 + k)) := ⟨_, rfl⟩
      rw [← eμ3]
      have hTμ3 : zTJ none μ3 := by rw [eμ3]; exact zT_rnd hT ⟨by omega, by omega⟩
      refine pm_blk hK zmm148 [] 2 49 [(2, 205), (0, 1), (0, nn), (0, k + 1)] [] μ3 [pm_in (k + 1)] rfl ⟨pm_in_mk (by omega) (by omega), trivial⟩ ?_
      refine ih _ (by omega) rfl ⟨by omega, by omega⟩ (fun r hr => by rw [eμ3, pm_up_row hr]; exact hs r hr) (fun y y0 y1 => ?_) (fun y hy => by rw [eμ3, pm_up_ne (by omega)]; exact hhi y (by omega)) hTμ3
      by_cases hyk : y = k
      · rw [hyk, eμ3, pm_up_eq]; exact hhi _ (by omega)
      · rw [eμ3, pm_up_ne hyk]; exact hlo y y0 (by omega)
set_option maxRecDepth 100000 in
theorem zx_to2e (hK : zKK ST)  {μ0 : pm_Mem} {nn : Int} (hnn : 0 ≤ nn ∧ nn ≤ 16) (hb205 : sx_bit Wm 205 = true) (hb222 : sx_bit Wm 222 = true) (hbd : 0 ≤ bud.1 ∧ 0 ≤ bud.2.1) : ∀ (n : Nat) {k : Int} {μ : pm_Mem}, (0 : Nat) = n → ∀ (hs : ∀ r, r ≠ 222 → μ r = μ0 r) (hlo : ∀ y : Int, 0 ≤ y → y < 4 * nn → μ 222 y = μ0 222 (64 + y)) (hT : zTJ none μ), zW D Wm ST b0 l Sg zM148 bud (pm_X zM148 (fun st' μ' => st' = [] ∧ zTJ none μ' ∧ (∀ r, r ≠ 205 → r ≠ 222 → μ' r = μ0 r) ∧ (∀ k : Int, k ≠ 35 → k ≠ 3 → μ' 205 k = μ0 205 k) ∧ (∀ y : Int, 0 ≤ y → y < 4 * nn → μ' 222 y = μ0 222 (64 + y)) ∧ μ' 205 35 = nn ∧ μ' 205 3 = 0)) 115 [(2, 205), (0, 2), (0, nn), (0, k)] [] μ := by
  intro n
  induction n using Nat.strongRecOn with
  | ind n ih =>
    intro k μ hn hs hlo hT
    refine pm_blk hK zmm148 [] 3 120 [(2, 205), (0, 2), (0, nn), (0, k)] [] (pm_up μ 205 35 nn) [sx_bit Wm 205 = true] rfl ⟨hb205, trivial⟩ ?_
    obtain ⟨μ1, eμ1⟩ : ∃ μ', μ' = pm_up μ 205 35 nn := ⟨_, rfl⟩
    rw [← eμ1]
    have hTμ1 : zTJ none μ1 := by rw [eμ1]; exact zT_upn hT zs205_35 rfl (i := 35) (by omega) (by omega) (by omega) (by omega)
    refine pm_blk hK zmm148 [] 3 125 [(2, 205), (0, 2), (0, nn), (0, k)] [] (pm_up μ1 205 3 0) [sx_bit Wm 205 = true] rfl ⟨hb205, trivial⟩ ?_
    obtain ⟨μ2, eμ2⟩ : ∃ μ', μ' = pm_up μ1 205 3 0 := ⟨_, rfl⟩
    rw [← eμ2]
    have hTμ2 : zTJ none μ2 := by rw [eμ2]; exact zT_upn hTμ1 zs205_3 rfl (i := 3) (by omega) (by omega) (by omega) (by omega)
    exact pm_vret rfl rfl ⟨rfl, hTμ2, fun r a b => by rw [eμ2, pm_up_row a, eμ1, pm_up_row a]; exact hs r b, fun k a b => by rw [eμ2, pm_up_ne b, eμ1, pm_up_ne a, hs 205 (by decide)], fun y y0 y1 => by rw [eμ2, pm_up_row (by decide), eμ1, pm_up_row (by decide)]; exact hlo y y0 y1, by rw [eμ2, pm_up_ne (by decide), eμ1, pm_up_eq], by rw [eμ2, pm_up_eq]⟩
set_option maxRecDepth 100000 in
theorem zx_to2l (hK : zKK ST)  {μ0 : pm_Mem} {nn : Int} (hT0 : zTJ none μ0) (hnn : 0 ≤ nn ∧ nn ≤ 16) (hb205 : sx_bit Wm 205 = true) (hb222 : sx_bit Wm 222 = true) (hD : zDr μ0 nn) (hbd : 0 ≤ bud.1 ∧ 0 ≤ bud.2.1) : ∀ (n : Nat) {k : Int} {μ : pm_Mem}, (4 * nn - k).toNat = n → ∀ (hk : 0 ≤ k ∧ k ≤ 4 * nn) (hc : zCp μ0 μ k), zW D Wm ST b0 l Sg zM148 bud (pm_X zM148 (fun st' μ' => st' = [] ∧ zTJ none μ' ∧ (∀ r, r ≠ 205 → r ≠ 222 → μ' r = μ0 r) ∧ (∀ k : Int, k ≠ 35 → k ≠ 3 → μ' 205 k = μ0 205 k) ∧ (∀ y : Int, 0 ≤ y → y < 4 * nn → μ' 222 y = μ0 222 (64 + y)) ∧ μ' 205 35 = nn ∧ μ' 205 3 = 0)) 87 [(2, 205), (0, 2), (0, nn), (0, k)] [] μ := by
  intro n
  induction n using Nat.strongRecOn with
  | ind n ih =>
    intro k μ hn hk hc
    refine pm_blk hK zmm148 [] 4 91 [(2, 205), (0, 2), (0, nn), (0, k)] [(0, 4 * nn), (0, k)] μ [pm_in (4 * nn)] rfl ⟨pm_in_mk (by omega) (by omega), trivial⟩ ?_
    refine pm_icmp hK zmm148 .ge 24 115 rfl rfl (fun h0 => ?_) (fun h0 => ?_)
    · have h0 : 4 * nn ≤ k := h0
      have ek : k = 4 * nn := by omega
      exact zx_to2e hK (μ0 := μ0) hnn hb205 hb222 hbd _ rfl hc.2.1 (fun y y0 y1 => hc.2.2.2 y y0 (by omega)) (zCp_end (ek ▸ hc) hnn hD hT0)
    · have h0 : k < 4 * nn := h0
      refine pm_blk hK zmm148 [] 10 109 [(2, 205), (0, 2), (0, nn), (0, k)] [] (pm_up μ 222 k (μ 222 (64 + k))) [pm_in (64 + k), 0 ≤ 64 + k ∧ 64 + k < 128, sx_bit Wm 222 = true, 0 ≤ k ∧ k < 128] rfl ⟨pm_in_mk (by omega) (by omega), ⟨by omega, by omega⟩, hb222, ⟨by omega, by omega⟩, trivial⟩ ?_
      obtain ⟨μ1, eμ1⟩ : ∃ μ', μ' = pm_up μ 222 k (μ 222 (64 + k)) := ⟨_, rfl⟩
      rw [← eμ1]
      refine pm_blk hK zmm148 [] 2 87 [(2, 205), (0, 2), (0, nn), (0, k + 1)] [] μ1 [pm_in (k + 1)] rfl ⟨pm_in_mk (by omega) (by omega), trivial⟩ ?_
      exact ih _ (by omega) rfl ⟨by omega, by omega⟩ (zCp_step hc ⟨by omega, by omega⟩ (by rw [eμ1]; exact zTy_cp hc.1 zcp222 ⟨by omega, by omega⟩) eμ1 rfl)
set_option maxRecDepth 100000 in
theorem zx_to1 (hK : zKK ST) {nn : Int} (hT : zTJ none μ) (hnn : 0 ≤ nn ∧ nn ≤ 16) (hb205 : sx_bit Wm 205 = true) (hb221 : sx_bit Wm 221 = true) (hbd : 0 ≤ bud.1 ∧ 0 ≤ bud.2.1) : zC D Wm ST b0 l Sg zM148 bud [(2, 205), (0, 1), (0, nn)] μ (fun st' μ' => st' = [] ∧ zTJ none μ' ∧ (∀ r, r ≠ 205 → r ≠ 221 → μ' r = μ r) ∧ (∀ k : Int, k ≠ 33 → k ≠ 3 → μ' 205 k = μ 205 k) ∧ (∀ y : Int, 0 ≤ y → y < 3 * nn → μ' 221 y = μ 221 (48 + y)) ∧ μ' 205 33 = nn ∧ μ' 205 3 = 0) := by
  refine pm_blk hK zmm148 [] 2 2 [(2, 205), (0, 1), (0, nn), (9, 0)] [(0, 3), (0, 1)] μ [] rfl trivial ?_
  refine pm_icmp hK zmm148 .ne 40 42 rfl rfl (fun h0 => ?_) (fun h0 => ?_)
  · have h0 : (1 : Int) ≠ (3 : Int) := h0
    refine pm_blk hK zmm148 [] 2 44 [(2, 205), (0, 1), (0, nn), (9, 0)] [(0, 1), (0, 1)] μ [] rfl trivial ?_
    refine pm_icmp hK zmm148 .ne 41 85 rfl rfl (fun h1 => ?_) (fun h1 => ?_)
    · have h1 : (1 : Int) ≠ (1 : Int) := h1
      exact absurd h1 (by decide)
    · have h1 : (1 : Int) = (1 : Int) := h1
      refine pm_blk hK zmm148 [] 2 49 [(2, 205), (0, 1), (0, nn), (0, 0)] [] μ [] rfl trivial ?_
      exact zx_to1l hK (μ0 := μ) hnn hb205 hb221 hbd _ rfl ⟨by omega, by omega⟩ (fun _ _ => rfl) (fun y y0 y1 => absurd y1 (by omega)) (fun _ _ => rfl) hT
  · have h0 : (1 : Int) = (3 : Int) := h0
    exact absurd h0 (by decide)
set_option maxRecDepth 100000 in
theorem zx_to2 (hK : zKK ST) {nn : Int} (hT : zTJ none μ) (hnn : 0 ≤ nn ∧ nn ≤ 16) (hD : zDr μ nn) (hb205 : sx_bit Wm 205 = true) (hb222 : sx_bit Wm 222 = true) (hbd : 0 ≤ bud.1 ∧ 0 ≤ bud.2.1) : zC D Wm ST b0 l Sg zM148 bud [(2, 205), (0, 2), (0, nn)] μ (fun st' μ' => st' = [] ∧ zTJ none μ' ∧ (∀ r, r ≠ 205 → r ≠ 222 → μ' r = μ r) ∧ (∀ k : Int, k ≠ 35 → k ≠ 3 → μ' 205 k = μ 205 k) ∧ (∀ y : Int, 0 ≤ y → y < 4 * nn → μ' 222 y = μ 222 (64 + y)) ∧ μ' 205 35 = nn ∧ μ' 205 3 = 0) := by
  refine pm_blk hK zmm148 [] 2 2 [(2, 205), (0, 2), (0, nn), (9, 0)] [(0, 3), (0, 2)] μ [] rfl trivial ?_
  refine pm_icmp hK zmm148 .ne 40 42 rfl rfl (fun h0 => ?_) (fun h0 => ?_)
  · have h0 : (2 : Int) ≠ (3 : Int) := h0
    refine pm_blk hK zmm148 [] 2 44 [(2, 205), (0, 2), (0, nn), (9, 0)] [(0, 1), (0, 2)] μ [] rfl trivial ?_
    refine pm_icmp hK zmm148 .ne 41 85 rfl rfl (fun h1 => ?_) (fun h1 => ?_)
    · have h1 : (2 : Int) ≠ (1 : Int) := h1
      refine pm_blk hK zmm148 [] 2 87 [(2, 205), (0, 2), (0, nn), (0, 0)] [] μ [] rfl trivial ?_
      exact zx_to2l hK (μ0 := μ) hT hnn hb205 hb222 hD hbd _ rfl ⟨by omega, by omega⟩ (zCp_0 hT.1)
    · have h1 : (2 : Int) = (1 : Int) := h1
      exact absurd h1 (by decide)
  · have h0 : (2 : Int) = (3 : Int) := h0
    exact absurd h0 (by decide)
set_option maxRecDepth 100000 in
theorem zx_rt1 (hK : zKK ST) {T : Int → Int} {L : Int} {K S V : Int → Int} {N : Int} {P : Nat → Int} {sh cu : Int} (hT : zTJ none μ) (hlex : zLex T L K S V N P) (htp : ∀ x, 0 ≤ x → x < L → T x = μ 211 x) (hL : μ 205 11 = L) (h12 : μ 205 12 = 0) (hsh : μ 205 6 = sh) (hcu : μ 205 7 = cu) (hb205 : sx_bit Wm 205 = true) (hb221 : sx_bit Wm 221 = true) (hbd : 7 ≤ bud.1 ∧ 157 ≤ bud.2.1) : zC D Wm ST b0 l Sg zM138 bud [(2, 205), (0, 1)] μ (fun st' μ' => ∃ x, st' = [(0, x)] ∧ zTJ none μ' ∧ zQg (zLi0 (zPa1 K V sh cu) K 318) (zcT K) K S V μ x μ') := by
  have fL := zT_get hT zs205_11 (i := 11) (by omega) (by omega)
  have hL0 : (0 : Int) ≤ μ 205 11 := fL.1
  refine pm_blk hK zmm138 [] 3 5 [(2, 205), (0, 1)] [] (pm_up μ 205 24 0) [sx_bit Wm 205 = true] rfl ⟨hb205, trivial⟩ ?_
  obtain ⟨μ1, eμ1⟩ : ∃ μ', μ' = pm_up μ 205 24 0 := ⟨_, rfl⟩
  rw [← eμ1]
  have hTμ1 : zTJ none μ1 := by rw [eμ1]; exact zT_upn hT zs205_24 rfl (i := 24) (by omega) (by omega) (by omega) (by omega)
  refine pm_blk hK zmm138 [] 1 6 [(2, 205), (0, 1)] [(2, 205)] μ1 [] rfl trivial ?_
  refine pm_call hK zmm138 (223, 0, 139, 0) zM139 (2, 44) [(2, 205)] [] rfl rfl rfl rfl ⟨by omega, by rw [zn139]; omega⟩ (zt_reads hK hTμ1 (by rw [eμ1, pm_up_ne (by decide), pm_up_ne (by decide), h12]; exact hL0) hb205 ⟨Nat.le_refl _, Nat.le_refl _⟩) (fun st1 μc1 hp1 => ?_)
  obtain ⟨rfl, hTc1, hr1⟩ := hp1
  have hfr := hr1.1
  have hx0 : zMx T L K S V N P μ1 := ⟨hlex, fun x x0 x1 => by rw [eμ1, pm_up_row (by decide)]; exact htp x x0 x1, by rw [eμ1, pm_up_ne (by decide)]; exact hL⟩
  have hm0 := zMs_0 hx0 (by rw [eμ1, pm_up_ne (by decide)]; exact h12) hr1
  have hx1 := zMx_f hx0 (zMf_fr hfr)
  have g1 : ∀ r, r ≠ 205 → μc1 r = μ r := fun r hr => by rw [hfr.1 r hr, eμ1, pm_up_row hr]
  have g2 : ∀ k : Int, k ≠ 12 → k ≠ 13 → k ≠ 14 → k ≠ 15 → k ≠ 24 → μc1 205 k = μ 205 k := fun k a b c d e => by rw [hfr.2 k a b c d, eμ1, pm_up_ne e]
  refine pm_blk hK zmm138 [] 2 11 [(2, 205), (0, 1)] [(0, 1), (0, 1)] μc1 [] rfl trivial ?_
  refine pm_icmp hK zmm138 .ne 8 19 rfl rfl (fun h0 => ?_) (fun h0 => ?_)
  · have h0 : (1 : Int) ≠ (1 : Int) := h0
    exact absurd h0 (by decide)
  · have h0 : (1 : Int) = (1 : Int) := h0
    refine pm_blk hK zmm138 [] 1 15 [(2, 205), (0, 1)] [(2, 205)] μc1 [] rfl trivial ?_
    refine pm_call hK zmm138 (292, 0, 141, 0) zM141 (6, 134) [(2, 205)] [] rfl rfl rfl rfl ⟨by omega, by rw [zn141]; omega⟩ (zm_rounds hK (sh := sh) (cu := cu) hx1 hm0 (by rw [g2 6 (by decide) (by decide) (by decide) (by decide) (by decide)]; exact hsh) (by rw [g2 7 (by decide) (by decide) (by decide) (by decide) (by decide)]; exact hcu) hTc1 hb205 hb221 ⟨Nat.le_refl _, Nat.le_refl _⟩) (fun st2 μc2 hp2 => ?_)
    obtain ⟨x2, rfl, hTc2, hQ2⟩ := hp2
    have hQ := hQ2
    exact pm_iret rfl rfl ⟨_, rfl, hTc2, zQg_of hQ g1 g2⟩
set_option maxRecDepth 100000 in
theorem zx_textR1 (hK : zKK ST) {T : Int → Int} {L : Int} {K S V : Int → Int} {N : Int} {P : Nat → Int} {sh cu : Int} (hT : zTJ none μ) (hlex : zLex T L K S V N P) (htp : ∀ x, 0 ≤ x → x < L → T x = μ 211 x) (hL : μ 205 11 = L) (hsh : μ 205 6 = sh) (hcu : μ 205 7 = cu) (hb205 : sx_bit Wm 205 = true) (hb221 : sx_bit Wm 221 = true) (hbd : 8 ≤ bud.1 ∧ 180 ≤ bud.2.1) : zC D Wm ST b0 l Sg zM137 bud [(2, 205), (0, 1)] μ (fun st' μ' => ∃ x, st' = [(0, x)] ∧ zTJ none μ' ∧ zQh (zLi0 (zPa1 K V sh cu) K 318) K S μ x μ' ∧ zQh1 (zLi0 (zPa1 K V sh cu) K 318) K S V μ x μ')  := sorry -- AUTOSORRY
set_option maxRecDepth 100000 in
theorem zx_rt2 (hK : zKK ST) {T : Int → Int} {L : Int} {K S V : Int → Int} {N : Int} {P : Nat → Int} {sh cu : Int} (hT : zTJ none μ) (hlex : zLex T L K S V N P) (htp : ∀ x, 0 ≤ x → x < L → T x = μ 211 x) (hL : μ 205 11 = L) (h12 : μ 205 12 = 0) (hsh : μ 205 6 = sh) (hcu : μ 205 7 = cu) (hb205 : sx_bit Wm 205 = true) (hb222 : sx_bit Wm 222 = true) (hbd : 7 ≤ bud.1 ∧ 157 ≤ bud.2.1) : zC D Wm ST b0 l Sg zM138 bud [(2, 205), (0, 2)] μ (fun st' μ' => ∃ x, st' = [(0, x)] ∧ zTJ none μ' ∧ zQg (zLi0 (zPa2 K V sh cu) K 322) (zcD K) K S V μ x μ') := by
  have fL := zT_get hT zs205_11 (i := 11) (by omega) (by omega)
  have hL0 : (0 : Int) ≤ μ 205 11 := fL.1
  refine pm_blk hK zmm138 [] 3 5 [(2, 205), (0, 2)] [] (pm_up μ 205 24 0) [sx_bit Wm 205 = true] rfl ⟨hb205, trivial⟩ ?_
  obtain ⟨μ1, eμ1⟩ : ∃ μ', μ' = pm_up μ 205 24 0 := ⟨_, rfl⟩
  rw [← eμ1]
  have hTμ1 : zTJ none μ1 := by rw [eμ1]; exact zT_upn hT zs205_24 rfl (i := 24) (by omega) (by omega) (by omega) (by omega)
  refine pm_blk hK zmm138 [] 1 6 [(2, 205), (0, 2)] [(2, 205)] μ1 [] rfl trivial ?_
  refine pm_call hK zmm138 (223, 0, 139, 0) zM139 (2, 44) [(2, 205)] [] rfl rfl rfl rfl ⟨by omega, by rw [zn139]; omega⟩ (zt_reads hK hTμ1 (by rw [eμ1, pm_up_ne (by decide), pm_up_ne (by decide), h12]; exact hL0) hb205 ⟨Nat.le_refl _, Nat.le_refl _⟩) (fun st1 μc1 hp1 => ?_)
  obtain ⟨rfl, hTc1, hr1⟩ := hp1
  have hfr := hr1.1
  have hx0 : zMx T L K S V N P μ1 := ⟨hlex, fun x x0 x1 => by rw [eμ1, pm_up_row (by decide)]; exact htp x x0 x1, by rw [eμ1, pm_up_ne (by decide)]; exact hL⟩
  have hm0 := zMs_0 hx0 (by rw [eμ1, pm_up_ne (by decide)]; exact h12) hr1
  have hx1 := zMx_f hx0 (zMf_fr hfr)
  have g1 : ∀ r, r ≠ 205 → μc1 r = μ r := fun r hr => by rw [hfr.1 r hr, eμ1, pm_up_row hr]
  have g2 : ∀ k : Int, k ≠ 12 → k ≠ 13 → k ≠ 14 → k ≠ 15 → k ≠ 24 → μc1 205 k = μ 205 k := fun k a b c d e => by rw [hfr.2 k a b c d, eμ1, pm_up_ne e]
  refine pm_blk hK zmm138 [] 2 11 [(2, 205), (0, 2)] [(0, 1), (0, 2)] μc1 [] rfl trivial ?_
  refine pm_icmp hK zmm138 .ne 8 19 rfl rfl (fun h0 => ?_) (fun h0 => ?_)
  · have h0 : (2 : Int) ≠ (1 : Int) := h0
    refine pm_blk hK zmm138 [] 2 21 [(2, 205), (0, 2)] [(0, 2), (0, 2)] μc1 [] rfl trivial ?_
    refine pm_icmp hK zmm138 .ne 8 29 rfl rfl (fun h1 => ?_) (fun h1 => ?_)
    · have h1 : (2 : Int) ≠ (2 : Int) := h1
      exact absurd h1 (by decide)
    · have h1 : (2 : Int) = (2 : Int) := h1
      refine pm_blk hK zmm138 [] 1 25 [(2, 205), (0, 2)] [(2, 205)] μc1 [] rfl trivial ?_
      refine pm_call hK zmm138 (295, 0, 143, 0) zM143 (6, 134) [(2, 205)] [] rfl rfl rfl rfl ⟨by omega, by rw [zn143]; omega⟩ (zm_deeds hK (sh := sh) (cu := cu) hx1 hm0 (by rw [g2 6 (by decide) (by decide) (by decide) (by decide) (by decide)]; exact hsh) (by rw [g2 7 (by decide) (by decide) (by decide) (by decide) (by decide)]; exact hcu) hTc1 hb205 hb222 ⟨Nat.le_refl _, Nat.le_refl _⟩) (fun st2 μc2 hp2 => ?_)
      obtain ⟨x2, rfl, hTc2, hQ2⟩ := hp2
      have hQ := hQ2
      exact pm_iret rfl rfl ⟨_, rfl, hTc2, zQg_of hQ g1 g2⟩
  · have h0 : (2 : Int) = (1 : Int) := h0
    exact absurd h0 (by decide)
set_option maxRecDepth 100000 in
theorem zx_textR2 (hK : zKK ST) {T : Int → Int} {L : Int} {K S V : Int → Int} {N : Int} {P : Nat → Int} {sh cu : Int} (hT : zTJ none μ) (hlex : zLex T L K S V N P) (htp : ∀ x, 0 ≤ x → x < L → T x = μ 211 x) (hL : μ 205 11 = L) (hsh : μ 205 6 = sh) (hcu : μ 205 7 = cu) (hb205 : sx_bit Wm 205 = true) (hb222 : sx_bit Wm 222 = true) (hbd : 8 ≤ bud.1 ∧ 180 ≤ bud.2.1) : zC D Wm ST b0 l Sg zM137 bud [(2, 205), (0, 2)] μ (fun st' μ' => ∃ x, st' = [(0, x)] ∧ zTJ none μ' ∧ zQh (zLi0 (zPa2 K V sh cu) K 322) K S μ x μ' ∧ zQh2 (zLi0 (zPa2 K V sh cu) K 322) K S V μ x μ')  := sorry -- AUTOSORRY
end ZHW
