/-! a text told anew: the reference; walks printed by program (wip/p30/pmgen.py) and filled by hand -/
section ZHW
variable {D : va_G} {Wm : Nat} {ST : List (String × String × String × Nat)} {b0 : sx_B} {l : Launch} {Sg : Nat → Option Nat} {bud : sx_Bu} {μ : pm_Mem} {B0 : Nat → Prop} {J : (Nat → Option Nat) → Heap → Prop}
set_option maxRecDepth 100000 in
theorem zx_rt3 (hK : zKK ST) {T : Int → Int} {L : Int} {K S V : Int → Int} {N : Int} {P : Nat → Int} {sh cu : Int} (hT : zTJ none μ) (hlex : zLex T L K S V N P) (htp : ∀ x, 0 ≤ x → x < L → T x = μ 211 x) (hL : μ 205 11 = L) (h12 : μ 205 12 = 0) (hsh : μ 205 6 = sh) (hcu : μ 205 7 = cu) (hb205 : sx_bit Wm 205 = true) (hb223 : sx_bit Wm 223 = true) (hbd : 7 ≤ bud.1 ∧ 157 ≤ bud.2.1) : zC D Wm ST b0 l Sg zM138 bud [(2, 205), (0, 3)] μ (fun st' μ' => ∃ x, st' = [(0, x)] ∧ zTJ none μ' ∧ zQx K S V sh cu μ x μ') := by
  have fL := zT_get hT zs205_11 (i := 11) (by omega) (by omega)
  have hL0 : (0 : Int) ≤ μ 205 11 := fL.1
  refine pm_blk hK zmm138 [] 3 5 [(2, 205), (0, 3)] [] (pm_up μ 205 24 0) [sx_bit Wm 205 = true] rfl ⟨hb205, trivial⟩ ?_
  obtain ⟨μ1, eμ1⟩ : ∃ μ', μ' = pm_up μ 205 24 0 := ⟨_, rfl⟩
  rw [← eμ1]
  have hTμ1 : zTJ none μ1 := by rw [eμ1]; exact zT_upn hT zs205_24 rfl (i := 24) (by omega) (by omega) (by omega) (by omega)
  refine pm_blk hK zmm138 [] 1 6 [(2, 205), (0, 3)] [(2, 205)] μ1 [] rfl trivial ?_
  refine pm_call hK zmm138 (223, 0, 139, 0) zM139 (2, 44) [(2, 205)] [] rfl rfl rfl rfl ⟨by omega, by rw [zn139]; omega⟩ (zt_reads hK hTμ1 (by rw [eμ1, pm_up_ne (by decide), pm_up_ne (by decide), h12]; exact hL0) hb205 ⟨Nat.le_refl _, Nat.le_refl _⟩) (fun st1 μc1 hp1 => ?_)
  obtain ⟨rfl, hTc1, hr1⟩ := hp1
  have hfr := hr1.1
  have hx0 : zMx T L K S V N P μ1 := ⟨hlex, fun x x0 x1 => by rw [eμ1, pm_up_row (by decide)]; exact htp x x0 x1, by rw [eμ1, pm_up_ne (by decide)]; exact hL⟩
  have hm0 := zMs_0 hx0 (by rw [eμ1, pm_up_ne (by decide)]; exact h12) hr1
  have hx1 := zMx_f hx0 (zMf_fr hfr)
  have g1 : ∀ r, r ≠ 205 → μc1 r = μ r := fun r hr => by rw [hfr.1 r hr, eμ1, pm_up_row hr]
  have g2 : ∀ k : Int, k ≠ 12 → k ≠ 13 → k ≠ 14 → k ≠ 15 → k ≠ 24 → μc1 205 k = μ 205 k := fun k a b c d e => by rw [hfr.2 k a b c d, eμ1, pm_up_ne e]
  refine pm_blk hK zmm138 [] 2 11 [(2, 205), (0, 3)] [(0, 1), (0, 3)] μc1 [] rfl trivial ?_
  refine pm_icmp hK zmm138 .ne 8 19 rfl rfl (fun h0 => ?_) (fun h0 => ?_)
  · have h0 : (3 : Int) ≠ (1 : Int) := h0
    refine pm_blk hK zmm138 [] 2 21 [(2, 205), (0, 3)] [(0, 2), (0, 3)] μc1 [] rfl trivial ?_
    refine pm_icmp hK zmm138 .ne 8 29 rfl rfl (fun h1 => ?_) (fun h1 => ?_)
    · have h1 : (3 : Int) ≠ (2 : Int) := h1
      refine pm_blk hK zmm138 [] 2 31 [(2, 205), (0, 3)] [(0, 3), (0, 3)] μc1 [] rfl trivial ?_
      refine pm_icmp hK zmm138 .ne 10 41 rfl rfl (fun h2 => ?_) (fun h2 => ?_)
      · have h2 : (3 : Int) ≠ (3 : Int) := h2
        exact absurd h2 (by decide)
      · have h2 : (3 : Int) = (3 : Int) := h2
        refine pm_blk hK zmm138 [] 1 35 [(2, 205), (0, 3)] [(2, 205)] μc1 [] rfl trivial ?_
        refine pm_call hK zmm138 (298, 0, 144, 0) zM144 (6, 134) [(2, 205)] [] rfl rfl rfl rfl ⟨by omega, by rw [zn144]; omega⟩ (zm_arcade hK (sh := sh) (cu := cu) hx1 hm0 (by rw [g2 6 (by decide) (by decide) (by decide) (by decide) (by decide)]; exact hsh) (by rw [g2 7 (by decide) (by decide) (by decide) (by decide) (by decide)]; exact hcu) hTc1 hb205 hb223 ⟨Nat.le_refl _, Nat.le_refl _⟩) (fun st2 μc2 hp2 => ?_)
        obtain ⟨x2, rfl, hTc2, hQ2⟩ := hp2
        have hQ := hQ2
        refine pm_blk hK zmm138 [] 1 45 [(2, 205), (0, 3)] [(0, x2)] μc2 [] rfl trivial ?_
        exact pm_iret rfl rfl ⟨_, rfl, hTc2, zQx_of hQ g1 g2⟩
    · have h1 : (3 : Int) = (2 : Int) := h1
      exact absurd h1 (by decide)
  · have h0 : (3 : Int) = (1 : Int) := h0
    exact absurd h0 (by decide)
set_option maxRecDepth 100000 in
theorem zx_to3l (hK : zKK ST)  {μ0 : pm_Mem} {nn : Int} (hnn : 0 ≤ nn ∧ nn ≤ 16) (hb205 : sx_bit Wm 205 = true) (hb223 : sx_bit Wm 223 = true) (hbd : 0 ≤ bud.1 ∧ 0 ≤ bud.2.1) : ∀ (n : Nat) {k : Int} {μ : pm_Mem}, (144 - k).toNat = n → ∀ (hk : 0 ≤ k ∧ k ≤ 144) (hs : ∀ r, r ≠ 223 → μ r = μ0 r) (hlo : ∀ y : Int, 0 ≤ y → y < k → μ 223 y = μ0 223 (144 + y)) (hhi : ∀ y, k ≤ y → μ 223 y = μ0 223 y) (hT : zTJ none μ), zW D Wm ST b0 l Sg zM148 bud (pm_X zM148 (fun st' μ' => st' = [] ∧ zTJ none μ' ∧ (∀ r, r ≠ 205 → r ≠ 223 → μ' r = μ0 r) ∧ (∀ y : Int, 0 ≤ y → y < 144 → μ' 223 y = μ0 223 (144 + y)) ∧ (∀ k : Int, k ≠ 37 → μ' 205 k = μ0 205 k) ∧ μ' 205 37 = nn)) 7 [(2, 205), (0, 3), (0, nn), (0, k)] [] μ := by
  intro n
  induction n using Nat.strongRecOn with
  | ind n ih =>
    intro k μ hn hk hs hlo hhi hT
    refine pm_blk hK zmm148 [] 2 11 [(2, 205), (0, 3), (0, nn), (0, k)] [(0, 144), (0, k)] μ [] rfl trivial ?_
    refine pm_icmp hK zmm148 .ge 25 36 rfl rfl (fun h0 => ?_) (fun h0 => ?_)
    · have h0 : (144 : Int) ≤ k := h0
      refine pm_blk hK zmm148 [] 3 41 [(2, 205), (0, 3), (0, nn), (0, k)] [] (pm_up μ 205 37 nn) [sx_bit Wm 205 = true] rfl ⟨hb205, trivial⟩ ?_
      obtain ⟨μ1, eμ1⟩ : ∃ μ', μ' = pm_up μ 205 37 nn := ⟨_, rfl⟩
      rw [← eμ1]
      have hTμ1 : zTJ none μ1 := by rw [eμ1]; exact zT_upn hT zs205_37 rfl (i := 37) (by omega) (by omega) (by omega) (by omega)
      exact pm_vret rfl rfl ⟨rfl, hTμ1, fun r a b => by rw [eμ1, pm_up_row a]; exact hs r b, fun y y0 y1 => by rw [eμ1, pm_up_row (by decide)]; exact hlo y y0 (by omega), fun k hk => by rw [eμ1, pm_up_ne hk, hs 205 (by decide)], by rw [eμ1, pm_up_eq]⟩
    · have h0 : k < (144 : Int) := h0
      have f1 := zT_get hT zs223_0 (i := 144 + k) (by omega) (by omega)
      refine pm_blk hK zmm148 [] 10 30 [(2, 205), (0, 3), (0, nn), (0, k)] [] (pm_up μ 223 k (μ 223 (144 + k))) [pm_in (144 + k), 0 ≤ 144 + k ∧ 144 + k < 288, sx_bit Wm 223 = true, 0 ≤ k ∧ k < 288] rfl ⟨pm_in_mk (by omega) (by omega), ⟨by omega, by omega⟩, hb223, ⟨by omega, by omega⟩, trivial⟩ ?_
      obtain ⟨μ2, eμ2⟩ : ∃ μ', μ' = pm_up μ 223 k (μ 223 (144 + k)) := ⟨_, rfl⟩
      rw [← eμ2]
      have hTμ2 : zTJ none μ2 := by rw [eμ2]; exact zT_upn hT zs223_0 rfl (i := k) (by omega) (by omega) (by omega) (by omega)
      refine pm_blk hK zmm148 [] 2 7 [(2, 205), (0, 3), (0, nn), (0, k + 1)] [] μ2 [pm_in (k + 1)] rfl ⟨pm_in_mk (by omega) (by omega), trivial⟩ ?_
      refine ih _ (by omega) rfl ⟨by omega, by omega⟩ (fun r hr => by rw [eμ2, pm_up_row hr]; exact hs r hr) (fun y y0 y1 => ?_) (fun y hy => by rw [eμ2, pm_up_ne (by omega)]; exact hhi y (by omega)) hTμ2
      by_cases hyk : y = k
      · rw [hyk, eμ2, pm_up_eq]; exact hhi _ (by omega)
      · rw [eμ2, pm_up_ne hyk]; exact hlo y y0 (by omega)
set_option maxRecDepth 100000 in
theorem zx_to3 (hK : zKK ST) {nn : Int} (hT : zTJ none μ) (hnn : 0 ≤ nn ∧ nn ≤ 16) (hb205 : sx_bit Wm 205 = true) (hb223 : sx_bit Wm 223 = true) (hbd : 0 ≤ bud.1 ∧ 0 ≤ bud.2.1) : zC D Wm ST b0 l Sg zM148 bud [(2, 205), (0, 3), (0, nn)] μ (fun st' μ' => st' = [] ∧ zTJ none μ' ∧ (∀ r, r ≠ 205 → r ≠ 223 → μ' r = μ r) ∧ (∀ y : Int, 0 ≤ y → y < 144 → μ' 223 y = μ 223 (144 + y)) ∧ (∀ k : Int, k ≠ 37 → μ' 205 k = μ 205 k) ∧ μ' 205 37 = nn) := by
  refine pm_blk hK zmm148 [] 2 2 [(2, 205), (0, 3), (0, nn), (9, 0)] [(0, 3), (0, 3)] μ [] rfl trivial ?_
  refine pm_icmp hK zmm148 .ne 40 42 rfl rfl (fun h0 => ?_) (fun h0 => ?_)
  · have h0 : (3 : Int) ≠ (3 : Int) := h0
    exact absurd h0 (by decide)
  · have h0 : (3 : Int) = (3 : Int) := h0
    refine pm_blk hK zmm148 [] 2 7 [(2, 205), (0, 3), (0, nn), (0, 0)] [] μ [] rfl trivial ?_
    exact zx_to3l hK (μ0 := μ) hnn hb205 hb223 hbd _ rfl ⟨by omega, by omega⟩ (fun _ _ => rfl) (fun y y0 y1 => absurd y1 (by omega)) (fun _ _ => rfl) hT
set_option maxRecDepth 100000 in
theorem zx_textR3 (hK : zKK ST) {T : Int → Int} {L : Int} {K S V : Int → Int} {N : Int} {P : Nat → Int} {sh cu : Int} (hT : zTJ none μ) (hlex : zLex T L K S V N P) (htp : ∀ x, 0 ≤ x → x < L → T x = μ 211 x) (hL : μ 205 11 = L) (hsh : μ 205 6 = sh) (hcu : μ 205 7 = cu) (hb205 : sx_bit Wm 205 = true) (hb223 : sx_bit Wm 223 = true) (hbd : 8 ≤ bud.1 ∧ 180 ≤ bud.2.1) : zC D Wm ST b0 l Sg zM137 bud [(2, 205), (0, 3)] μ (fun st' μ' => ∃ x, st' = [(0, x)] ∧ zTJ none μ' ∧ zQz K S V sh cu μ x μ') := by
  refine pm_blk hK zmm137 [] 3 5 [(2, 205), (0, 3), (9, 0)] [] (pm_up μ 205 0 0) [sx_bit Wm 205 = true] rfl ⟨hb205, trivial⟩ ?_
  obtain ⟨μ1, eμ1⟩ : ∃ μ', μ' = pm_up μ 205 0 0 := ⟨_, rfl⟩
  rw [← eμ1]
  have hTμ1 : zTJ none μ1 := by rw [eμ1]; exact zT_upn hT zs205_0 rfl (i := 0) (by omega) (by omega) (by omega) (by omega)
  refine pm_blk hK zmm137 [] 3 10 [(2, 205), (0, 3), (9, 0)] [] (pm_up μ1 205 31 0) [sx_bit Wm 205 = true] rfl ⟨hb205, trivial⟩ ?_
  obtain ⟨μ2, eμ2⟩ : ∃ μ', μ' = pm_up μ1 205 31 0 := ⟨_, rfl⟩
  rw [← eμ2]
  have hTμ2 : zTJ none μ2 := by rw [eμ2]; exact zT_upn hTμ1 zs205_31 rfl (i := 31) (by omega) (by omega) (by omega) (by omega)
  refine pm_blk hK zmm137 [] 3 15 [(2, 205), (0, 3), (9, 0)] [] (pm_up μ2 205 32 ((-1))) [sx_bit Wm 205 = true] rfl ⟨hb205, trivial⟩ ?_
  obtain ⟨μ3, eμ3⟩ : ∃ μ', μ' = pm_up μ2 205 32 ((-1)) := ⟨_, rfl⟩
  rw [← eμ3]
  have hTμ3 : zTJ none μ3 := by rw [eμ3]; exact zT_upn hTμ2 zs205_32 rfl (i := 32) (by omega) (by omega) (by omega) (by omega)
  refine pm_blk hK zmm137 [] 3 20 [(2, 205), (0, 3), (9, 0)] [] (pm_up μ3 205 12 0) [sx_bit Wm 205 = true] rfl ⟨hb205, trivial⟩ ?_
  obtain ⟨μ4, eμ4⟩ : ∃ μ', μ' = pm_up μ3 205 12 0 := ⟨_, rfl⟩
  rw [← eμ4]
  have hTμ4 : zTJ none μ4 := by rw [eμ4]; exact zT_upn hTμ3 zs205_12 rfl (i := 12) (by omega) (by omega) (by omega) (by omega)
  refine pm_blk hK zmm137 [] 3 25 [(2, 205), (0, 3), (9, 0)] [] (pm_up μ4 205 25 0) [sx_bit Wm 205 = true] rfl ⟨hb205, trivial⟩ ?_
  obtain ⟨μ5, eμ5⟩ : ∃ μ', μ' = pm_up μ4 205 25 0 := ⟨_, rfl⟩
  rw [← eμ5]
  have hTμ5 : zTJ none μ5 := by rw [eμ5]; exact zT_upn hTμ4 zs205_25 rfl (i := 25) (by omega) (by omega) (by omega) (by omega)
  refine pm_blk hK zmm137 [] 3 30 [(2, 205), (0, 3), (9, 0)] [] (pm_up μ5 205 26 0) [sx_bit Wm 205 = true] rfl ⟨hb205, trivial⟩ ?_
  obtain ⟨μ6, eμ6⟩ : ∃ μ', μ' = pm_up μ5 205 26 0 := ⟨_, rfl⟩
  rw [← eμ6]
  have hTμ6 : zTJ none μ6 := by rw [eμ6]; exact zT_upn hTμ5 zs205_26 rfl (i := 26) (by omega) (by omega) (by omega) (by omega)
  have g1 : ∀ r, r ≠ 205 → μ6 r = μ r := fun r hr => by rw [eμ6, pm_up_row hr, eμ5, pm_up_row hr, eμ4, pm_up_row hr, eμ3, pm_up_row hr, eμ2, pm_up_row hr, eμ1, pm_up_row hr]
  have g2 : ∀ k : Int, k ≠ 0 → k ≠ 12 → k ≠ 25 → k ≠ 26 → k ≠ 31 → k ≠ 32 → μ6 205 k = μ 205 k := fun k a b c d e f => by rw [eμ6, pm_up_ne d, eμ5, pm_up_ne c, eμ4, pm_up_ne b, eμ3, pm_up_ne f, eμ2, pm_up_ne e, eμ1, pm_up_ne a]
  have v12 : μ6 205 12 = 0 := by rw [eμ6, pm_up_ne (by decide), eμ5, pm_up_ne (by decide), eμ4, pm_up_eq]
  have v31 : μ6 205 31 = 0 := by rw [eμ6, pm_up_ne (by decide), eμ5, pm_up_ne (by decide), eμ4, pm_up_ne (by decide), eμ3, pm_up_ne (by decide), eμ2, pm_up_eq]
  have v32 : μ6 205 32 = -1 := by rw [eμ6, pm_up_ne (by decide), eμ5, pm_up_ne (by decide), eμ4, pm_up_ne (by decide), eμ3, pm_up_eq]
  have v25 : 0 ≤ μ6 205 25 := by rw [eμ6, pm_up_ne (by decide), eμ5, pm_up_eq]; exact Int.le_refl _
  refine pm_blk hK zmm137 [] 6 36 [(2, 205), (0, 3), (0, (-1))] [(0, 3), (0, 0), (0, 3), (2, 205)] μ6 [] rfl trivial ?_
  refine pm_call hK zmm137 (158, 0, 129, 3) zM129 (0, 0) [(2, 205), (0, 3), (0, 0), (0, 3)] [] rfl rfl rfl rfl ⟨by omega, by rw [zn129]; omega⟩ (zh_isIn hK ⟨by omega, by omega⟩) (fun st1 μc1 hp1 => ?_)
  obtain ⟨rfl, rfl⟩ := hp1
  refine pm_if hK zmm137 .eq 30 69 rfl rfl (fun h0 => ?_) (fun h0 => ?_)
  · have h0 : (if 0 ≤ 3 ∧ 3 ≤ 3 then 1 else 0 : Int) = (0 : Int) := h0
    have h0 := zif0 h0
    refine pm_blk hK zmm137 [] 3 74 [(2, 205), (0, 3), (0, (-1))] [] (pm_up μ6 205 11 0) [sx_bit Wm 205 = true] rfl ⟨hb205, trivial⟩ ?_
    obtain ⟨μ7, eμ7⟩ : ∃ μ', μ' = pm_up μ6 205 11 0 := ⟨_, rfl⟩
    rw [← eμ7]
    have hTμ7 : zTJ none μ7 := by rw [eμ7]; exact zT_upn hTμ6 zs205_11 rfl (i := 11) (by omega) (by omega) (by omega) (by omega)
    refine pm_blk hK zmm137 [] 2 76 [(2, 205), (0, 3), (0, (-1))] [(0, (-1)), (0, (-1))] μ7 [] rfl trivial ?_
    refine pm_icmp hK zmm137 .ne 5 81 rfl rfl (fun h1 => ?_) (fun h1 => ?_)
    · have h1 : ((-1) : Int) ≠ ((-1) : Int) := h1
      exact absurd h1 (by decide)
    · have h1 : ((-1) : Int) = ((-1) : Int) := h1
      refine pm_blk hK zmm137 [] 1 80 [(2, 205), (0, 3), (0, (-1))] [(0, (-1))] μ7 [] rfl trivial ?_
      first
      | (exfalso; omega)
      | (obtain ⟨c1, c2, c3⟩ : x2 = -1 ∧ f ≠ 0 ∧ zFm S f q μc2 := by
           rcases b2 with ⟨c1, -⟩ | c
           · omega
           · exact c
         have z1 : ∀ r, r ≠ 205 → μ7 r = μc2 r := fun r hr => by rw [eμ7, pm_up_row hr, eμ10, pm_up_row hr, eμ9, pm_up_row hr]
         have z2 : ∀ k : Int, k ≠ 11 → k ≠ 31 → k ≠ 32 → μ7 205 k = μc2 205 k := fun k a b c => by rw [eμ7, pm_up_ne a, eμ10, pm_up_ne c, eμ9, pm_up_ne b]
         exact pm_iret rfl rfl ⟨_, rfl, hTμ7, zMy_tr (zMy_eq (fun r a b => g1 r (by omega))) (zMy_tr (a6 v25).2 (zMy_eq (fun r a b => z1 r (by omega)))), by rw [eμ7, pm_up_eq], fun r c0 c1 c2 c3 c4 c5 c6 c7 c8 c9 c10 => by rw [z1 r c0, a1 r c0 c1 c2 c3 c4 c5 c6 c7 c8 c9 c10, g1 r c0], fun k d0 d11 d12 d13 d14 d15 d37 d24 d25 d26 d28 d29 d30 d31 d32 => by rw [z2 k d11 d31 d32, a2 k d12 d13 d14 d15 d24 d25 d26 d28 d29 d30, g2 k d0 d12 d25 d26 d31 d32], fun i hi => by rw [z1 221 (by decide), a4 i hi, g1 221 (by decide)], fun i hi => by rw [z1 222 (by decide), a5 i hi, g1 222 (by decide)], J, t, f, q, b1, Or.inr ⟨rfl, c2, fun i i0 i1 => by rw [z1 223 (by decide), a3 i i1, g1 223 (by decide)], by rw [eμ7, pm_up_ne (by decide), eμ10, pm_up_ne (by decide), eμ9, pm_up_eq]; exact c3.1, by rw [eμ7, pm_up_ne (by decide), eμ10, pm_up_eq, eμ9, pm_up_ne (by decide)]; exact c3.2, by rw [z2 37 (by decide) (by decide) (by decide), a2 37 (by decide) (by decide) (by decide) (by decide) (by decide) (by decide) (by decide) (by decide) (by decide) (by decide), g2 37 (by decide) (by decide) (by decide) (by decide) (by decide) (by decide)]⟩⟩)
      | (exfalso; omega)
  · have h0 : (if 0 ≤ 3 ∧ 3 ≤ 3 then 1 else 0 : Int) ≠ (0 : Int) := h0
    have h0 := zif1 h0
    refine pm_blk hK zmm137 [] 2 44 [(2, 205), (0, 3), (0, (-1))] [(0, 3), (2, 205)] μ6 [] rfl trivial ?_
    refine pm_call hK zmm137 (316, 0, 138, 1) zM138 (7, 157) [(2, 205), (0, 3)] [] rfl rfl rfl rfl ⟨by omega, by rw [zn138]; omega⟩ (zx_rt3 hK (T := T) (L := L) (K := K) (S := S) (V := V) (N := N) (P := P) (sh := sh) (cu := cu) hTμ6 hlex (fun x x0 x1 => by rw [g1 211 (by decide)]; exact htp x x0 x1) (by rw [g2 11 (by decide) (by decide) (by decide) (by decide) (by decide) (by decide)]; exact hL) v12 (by rw [g2 6 (by decide) (by decide) (by decide) (by decide) (by decide) (by decide)]; exact hsh) (by rw [g2 7 (by decide) (by decide) (by decide) (by decide) (by decide) (by decide)]; exact hcu) hb205 hb223 ⟨Nat.le_refl _, Nat.le_refl _⟩) (fun st2 μc2 hp2 => ?_)
    obtain ⟨x2, rfl, hTc2, hQ2⟩ := hp2
    obtain ⟨a6, a1, a2, a3, a4, a5, J, t, f, q, b1, b2⟩ := hQ2
    have hx16 : x2 = -1 ∨ (0 ≤ x2 ∧ x2 ≤ 16) := by
      rcases b2 with ⟨c1, c2, -⟩ | ⟨c1, -⟩ <;> omega
    refine pm_blk hK zmm137 [] 3 50 [(2, 205), (0, 3), (0, x2)] [(0, (-1)), (0, x2)] μc2 [] rfl trivial ?_
    refine pm_icmp hK zmm137 .ne 19 69 rfl rfl (fun h2 => ?_) (fun h2 => ?_)
    · have h2 : x2 ≠ ((-1) : Int) := h2
      refine pm_blk hK zmm137 [] 3 74 [(2, 205), (0, 3), (0, x2)] [] (pm_up μc2 205 11 0) [sx_bit Wm 205 = true] rfl ⟨hb205, trivial⟩ ?_
      obtain ⟨μ8, eμ8⟩ : ∃ μ', μ' = pm_up μc2 205 11 0 := ⟨_, rfl⟩
      rw [← eμ8]
      have hTμ8 : zTJ none μ8 := by rw [eμ8]; exact zT_upn hTc2 zs205_11 rfl (i := 11) (by omega) (by omega) (by omega) (by omega)
      refine pm_blk hK zmm137 [] 2 76 [(2, 205), (0, 3), (0, x2)] [(0, (-1)), (0, x2)] μ8 [] rfl trivial ?_
      refine pm_icmp hK zmm137 .ne 5 81 rfl rfl (fun h3 => ?_) (fun h3 => ?_)
      · have h3 : x2 ≠ ((-1) : Int) := h3
        refine pm_blk hK zmm137 [] 1 82 [(2, 205), (0, 3), (0, x2)] [(0, 3)] μ8 [] rfl trivial ?_
        refine pm_if hK zmm137 .ne 11 93 rfl rfl (fun h4 => ?_) (fun h4 => ?_)
        · have h4 : (3 : Int) ≠ (0 : Int) := h4
          refine pm_blk hK zmm137 [] 3 96 [(2, 205), (0, 3), (0, x2)] [(0, x2), (0, 3), (2, 205)] μ8 [] rfl trivial ?_
          refine pm_call hK zmm137 (322, 0, 148, 2) zM148 (0, 0) [(2, 205), (0, 3), (0, x2)] [] rfl rfl rfl rfl ⟨by omega, by rw [zn148]; omega⟩ (zx_to3 hK (nn := x2) hTμ8 ⟨by omega, by omega⟩ hb205 hb223 ⟨Nat.le_refl _, Nat.le_refl _⟩) (fun st3 μc3 hp3 => ?_)
          obtain ⟨rfl, hTc3, q1, q2, q3, q4⟩ := hp3
          refine pm_blk hK zmm137 [] 1 100 [(2, 205), (0, 3), (0, x2)] [(0, x2)] μc3 [] rfl trivial ?_
          obtain ⟨c1, c2, c3, c4⟩ : x2 = ((t : Nat) : Int) ∧ t ≤ 16 ∧ f = 0 ∧ zsK V J t (μc2 223) := by
            rcases b2 with c | ⟨c1, -⟩
            · exact c
            · omega
          have w1 : ∀ r, r ≠ 205 → μ8 r = μc2 r := fun r hr => by rw [eμ8, pm_up_row hr]
          have w2 : ∀ k : Int, k ≠ 11 → μ8 205 k = μc2 205 k := fun k hk => by rw [eμ8, pm_up_ne hk]
          exact pm_iret rfl rfl ⟨_, rfl, hTc3, zMy_tr (zMy_eq (fun r a b => g1 r (by omega))) (zMy_tr (a6 v25).2 (zMy_eq (fun r a b => (q1 r (by omega) (by omega)).trans (w1 r (by omega))))), by rw [q3 11 (by decide), eμ8, pm_up_eq], fun r c0 c1 c2 c3 c4 c5 c6 c7 c8 c9 c10 => by rw [q1 r c0 c10, w1 r c0, a1 r c0 c1 c2 c3 c4 c5 c6 c7 c8 c9 c10, g1 r c0], fun k d0 d11 d12 d13 d14 d15 d37 d24 d25 d26 d28 d29 d30 d31 d32 => by rw [q3 k d37, w2 k d11, a2 k d12 d13 d14 d15 d24 d25 d26 d28 d29 d30, g2 k d0 d12 d25 d26 d31 d32], fun i hi => by rw [q1 221 (by decide) (by decide), w1 221 (by decide), a4 i hi, g1 221 (by decide)], fun i hi => by rw [q1 222 (by decide) (by decide), w1 222 (by decide), a5 i hi, g1 222 (by decide)], J, t, f, q, b1, Or.inl ⟨c1, c2, c3, fun a b ha0 ha1 hb0 hb1 => by rw [q2 _ (by omega) (by omega), w1 223 (by decide), show (144 : Int) + (12 * a + b) = 144 + 12 * a + b by omega]; exact c4 a b ha0 ha1 hb0 hb1, by rw [q3 31 (by decide), w2 31 (by decide)]; exact (a2 31 (by decide) (by decide) (by decide) (by decide) (by decide) (by decide) (by decide) (by decide) (by decide) (by decide)).trans v31, by rw [q3 32 (by decide), w2 32 (by decide)]; exact (a2 32 (by decide) (by decide) (by decide) (by decide) (by decide) (by decide) (by decide) (by decide) (by decide) (by decide)).trans v32, by rw [q4]; exact c1⟩⟩
        · have h4 : (3 : Int) = (0 : Int) := h4
          exact absurd h4 (by decide)
      · have h3 : x2 = ((-1) : Int) := h3
        exact absurd h3 h2
    · have h2 : x2 = ((-1) : Int) := h2
      have f1 := zT_get hTc2 zs205_29 (i := 29) (by omega) (by omega)
      refine pm_blk hK zmm137 [] 4 61 [(2, 205), (0, 3), (0, x2)] [] (pm_up μc2 205 31 (μc2 205 29)) [sx_bit Wm 205 = true] rfl ⟨hb205, trivial⟩ ?_
      obtain ⟨μ9, eμ9⟩ : ∃ μ', μ' = pm_up μc2 205 31 (μc2 205 29) := ⟨_, rfl⟩
      rw [← eμ9]
      have hTμ9 : zTJ none μ9 := by rw [eμ9]; exact zT_upn hTc2 zs205_31 rfl (i := 31) (by omega) (by omega) (by omega) (by omega)
      have f2 := zT_get hTμ9 zs205_30 (i := 30) (by omega) (by omega)
      refine pm_blk hK zmm137 [] 4 69 [(2, 205), (0, 3), (0, x2)] [] (pm_up μ9 205 32 (μ9 205 30)) [sx_bit Wm 205 = true] rfl ⟨hb205, trivial⟩ ?_
      obtain ⟨μ10, eμ10⟩ : ∃ μ', μ' = pm_up μ9 205 32 (μ9 205 30) := ⟨_, rfl⟩
      rw [← eμ10]
      have hTμ10 : zTJ none μ10 := by rw [eμ10]; exact zT_upn hTμ9 zs205_32 rfl (i := 32) (by omega) (by omega) (by omega) (by omega)
      refine pm_blk hK zmm137 [] 3 74 [(2, 205), (0, 3), (0, x2)] [] (pm_up μ10 205 11 0) [sx_bit Wm 205 = true] rfl ⟨hb205, trivial⟩ ?_
      obtain ⟨μ11, eμ11⟩ : ∃ μ', μ' = pm_up μ10 205 11 0 := ⟨_, rfl⟩
      rw [← eμ11]
      have hTμ11 : zTJ none μ11 := by rw [eμ11]; exact zT_upn hTμ10 zs205_11 rfl (i := 11) (by omega) (by omega) (by omega) (by omega)
      refine pm_blk hK zmm137 [] 2 76 [(2, 205), (0, 3), (0, x2)] [(0, (-1)), (0, x2)] μ11 [] rfl trivial ?_
      refine pm_icmp hK zmm137 .ne 5 81 rfl rfl (fun h5 => ?_) (fun h5 => ?_)
      · have h5 : x2 ≠ ((-1) : Int) := h5
        exact absurd h2 h5
      · have h5 : x2 = ((-1) : Int) := h5
        refine pm_blk hK zmm137 [] 1 80 [(2, 205), (0, 3), (0, x2)] [(0, (-1))] μ11 [] rfl trivial ?_
        first
        | (exfalso; omega)
        | (obtain ⟨c1, c2, c3⟩ : x2 = -1 ∧ f ≠ 0 ∧ zFm S f q μc2 := by
             rcases b2 with ⟨c1, -⟩ | c
             · omega
             · exact c
           have z1 : ∀ r, r ≠ 205 → μ11 r = μc2 r := fun r hr => by rw [eμ11, pm_up_row hr, eμ10, pm_up_row hr, eμ9, pm_up_row hr]
           have z2 : ∀ k : Int, k ≠ 11 → k ≠ 31 → k ≠ 32 → μ11 205 k = μc2 205 k := fun k a b c => by rw [eμ11, pm_up_ne a, eμ10, pm_up_ne c, eμ9, pm_up_ne b]
           exact pm_iret rfl rfl ⟨_, rfl, hTμ11, zMy_tr (zMy_eq (fun r a b => g1 r (by omega))) (zMy_tr (a6 v25).2 (zMy_eq (fun r a b => z1 r (by omega)))), by rw [eμ11, pm_up_eq], fun r c0 c1 c2 c3 c4 c5 c6 c7 c8 c9 c10 => by rw [z1 r c0, a1 r c0 c1 c2 c3 c4 c5 c6 c7 c8 c9 c10, g1 r c0], fun k d0 d11 d12 d13 d14 d15 d37 d24 d25 d26 d28 d29 d30 d31 d32 => by rw [z2 k d11 d31 d32, a2 k d12 d13 d14 d15 d24 d25 d26 d28 d29 d30, g2 k d0 d12 d25 d26 d31 d32], fun i hi => by rw [z1 221 (by decide), a4 i hi, g1 221 (by decide)], fun i hi => by rw [z1 222 (by decide), a5 i hi, g1 222 (by decide)], J, t, f, q, b1, Or.inr ⟨rfl, c2, fun i i0 i1 => by rw [z1 223 (by decide), a3 i i1, g1 223 (by decide)], by rw [eμ11, pm_up_ne (by decide), eμ10, pm_up_ne (by decide), eμ9, pm_up_eq]; exact c3.1, by rw [eμ11, pm_up_ne (by decide), eμ10, pm_up_eq, eμ9, pm_up_ne (by decide)]; exact c3.2, by rw [z2 37 (by decide) (by decide) (by decide), a2 37 (by decide) (by decide) (by decide) (by decide) (by decide) (by decide) (by decide) (by decide) (by decide) (by decide), g2 37 (by decide) (by decide) (by decide) (by decide) (by decide) (by decide)]⟩⟩)
        | (exfalso; omega)
end ZHW
