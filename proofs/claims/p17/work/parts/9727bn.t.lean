/-! tramp: who is come to last; walks printed by program (wip/p30/pmgen.py) and filled by hand -/
section ZHW
variable {φ : Option pm_Mem}
variable {D : va_G} {Wm : Nat} {ST : List (String × String × String × Nat)} {b0 : sx_B} {l : Launch} {Sg : Nat → Option Nat} {bud : sx_Bu} {μ : pm_Mem} {B0 : Nat → Prop} {J : (Nat → Option Nat) → Heap → Prop}
set_option maxRecDepth 100000 in
theorem zk_u1 (hK : zKK ST)  {μ0 : pm_Mem} {N a c : Int} {M : Nat} (hN : N = (M : Int)) (hM : M ≤ 11) (ha : 0 ≤ a ∧ a < (M : Int) + 1) (hc : c = ((2 ^ M - 1 : Nat) : Int)) (hoth0 : ∀ i : Nat, i < M → μ0 200 (i : Int) = zoth a i) (hb198 : sx_bit Wm 198 = true)  (hbd : 0 ≤ bud.1 ∧ 0 ≤ bud.2.1) : ∀ (n : Nat) {i : Int} {μ : pm_Mem}, (N - i).toNat = n → ∀ (j : Nat) (hi : i = (j : Int)) (hj : j ≤ M) (hch : zCh1 1000000 a (fun s => μ0 201 (((2 ^ M - 1 : Nat) : Int) * 11 + (if s < a then s else s - 1))) j (μ 198 3) (μ 198 4)) (hfr : ∀ r, r ≠ 198 → μ r = μ0 r) (h98 : ∀ k : Int, k ≠ 3 → k ≠ 4 → μ 198 k = μ0 198 k) (hT : zTJ φ μ), zW D Wm ST b0 l Sg zM266 bud (pm_X zM266 (fun st' μ' => st' = [] ∧ zTJ φ μ' ∧ (∀ r, r ≠ 198 → μ' r = μ0 r) ∧ (∀ k : Int, k ≠ 3 → k ≠ 4 → μ' 198 k = μ0 198 k) ∧ ∃ fw, zCh1 1000000 a (fun s => μ0 201 (((2 ^ M - 1 : Nat) : Int) * 11 + (if s < a then s else s - 1))) M fw (μ' 198 4) ∧ μ' 198 3 = if 1000000 ≤ fw then -1 else fw)) 36 [(2, 198), (0, N), (0, a), (0, c), (0, i)] [] μ := by
  intro n
  induction n using Nat.strongRecOn with
  | ind n ih =>
    intro i μ hn j hi hj hch hfr h98 hT
    have hpM : 2 ^ M ≤ 2048 := Nat.pow_le_pow_right (by decide) hM
    have hp0M : 0 < 2 ^ M := Nat.two_pow_pos M
    have hp0 : 0 < 2 ^ M := Nat.two_pow_pos M
    have e201 : μ 201 = μ0 201 := hfr 201 (by decide)
    have hov : ∀ k : Nat, k < M → (if zoth a k < a then zoth a k else zoth a k - 1) = (k : Int) := fun k hk => by
      unfold zoth
      by_cases h9 : (k : Int) < a
      · rw [if_pos h9, if_pos h9]
      · rw [if_neg h9, if_neg (by omega)]
        omega
    refine pm_blk hK zmm266 [] 2 39 [(2, 198), (0, N), (0, a), (0, c), (0, i)] [(0, N), (0, i)] μ [] rfl trivial ?_
    refine pm_icmp hK zmm266 .ge 55 94 rfl rfl (fun h0 => ?_) (fun h0 => ?_)
    · have h0 : N ≤ i := h0
      have f1 := zT_get hT zs198_3 (i := 3) (by omega) (by omega)
      refine pm_blk hK zmm266 [] 4 101 [(2, 198), (0, N), (0, a), (0, c), (0, i)] [(0, 1000000), (0, μ 198 3), (2, 198)] μ [] rfl trivial ?_
      refine pm_icmp hK zmm266 .lt 7 108 rfl rfl (fun h1 => ?_) (fun h1 => ?_)
      · have h1 : μ 198 3 < (1000000 : Int) := h1
        refine pm_blk hK zmm266 [] 3 115 [(2, 198), (0, N), (0, a), (0, c), (0, i)] [] (pm_up μ 198 3 (μ 198 3)) [sx_bit Wm 198 = true] rfl ⟨hb198, trivial⟩ ?_
        obtain ⟨μ1, eμ1⟩ : ∃ μ', μ' = pm_up μ 198 3 (μ 198 3) := ⟨_, rfl⟩
        rw [← eμ1]
        have hTμ1 : zTJ φ μ1 := by rw [eμ1]; exact zT_up hT zs198_3 rfl (i := 3) (by omega) (by omega) (by omega) (by omega)
        obtain rfl : j = M := by omega
        refine pm_vret rfl rfl ⟨rfl, hTμ1, fun r hr => by rw [eμ1, pm_up_row hr]; exact hfr r hr, fun k k3 k4 => by rw [eμ1, pm_up_ne k3]; exact h98 k k3 k4, μ 198 3, by rw [eμ1, pm_up_ne (by decide)]; exact hch, ?_⟩
        rw [eμ1, pm_up_eq]
        first
        | rw [if_pos (by omega)]
        | rw [if_neg (by omega)]
        | (exfalso; omega)
      · have h1 : (1000000 : Int) ≤ μ 198 3 := h1
        refine pm_blk hK zmm266 [] 3 115 [(2, 198), (0, N), (0, a), (0, c), (0, i)] [] (pm_up μ 198 3 ((-1))) [sx_bit Wm 198 = true] rfl ⟨hb198, trivial⟩ ?_
        obtain ⟨μ2, eμ2⟩ : ∃ μ', μ' = pm_up μ 198 3 ((-1)) := ⟨_, rfl⟩
        rw [← eμ2]
        have hTμ2 : zTJ φ μ2 := by rw [eμ2]; exact zT_up hT zs198_3 rfl (i := 3) (by omega) (by omega) (by omega) (by omega)
        obtain rfl : j = M := by omega
        refine pm_vret rfl rfl ⟨rfl, hTμ2, fun r hr => by rw [eμ2, pm_up_row hr]; exact hfr r hr, fun k k3 k4 => by rw [eμ2, pm_up_ne k3]; exact h98 k k3 k4, μ 198 3, by rw [eμ2, pm_up_ne (by decide)]; exact hch, ?_⟩
        rw [eμ2, pm_up_eq]
        first
        | rw [if_pos (by omega)]
        | rw [if_neg (by omega)]
        | (exfalso; omega)
    · have h0 : i < N := h0
      have hvj : ((fun s => μ0 201 (((2 ^ M - 1 : Nat) : Int) * 11 + (if s < a then s else s - 1))) : Int → Int) (zoth a j) = μ 201 ((c * 11) + i) := by
        show μ0 201 (((2 ^ M - 1 : Nat) : Int) * 11 + (if zoth a j < a then zoth a j else zoth a j - 1)) = _
        rw [hov j (by omega), ← hc, ← hi, e201]
      have f2 := zT_get hT zs201_0 (i := (c * 11) + i) (by omega) (by omega)
      have f3 := zT_get hT zs198_3 (i := 3) (by omega) (by omega)
      refine pm_blk hK zmm266 [] 10 58 [(2, 198), (0, N), (0, a), (0, c), (0, i)] [(0, μ 198 3), (0, μ 201 ((c * 11) + i))] μ [pm_in (c * 11), pm_in ((c * 11) + i), 0 ≤ (c * 11) + i ∧ (c * 11) + i < 22528] rfl ⟨pm_in_mk (by omega) (by omega), pm_in_mk (by omega) (by omega), ⟨by omega, by omega⟩, trivial⟩ ?_
      refine pm_icmp hK zmm266 .ge 30 88 rfl rfl (fun h2 => ?_) (fun h2 => ?_)
      · have h2 : μ 198 3 ≤ μ 201 ((c * 11) + i) := h2
        refine pm_blk hK zmm266 [] 2 36 [(2, 198), (0, N), (0, a), (0, c), (0, i + 1)] [] μ [pm_in (i + 1)] rfl ⟨pm_in_mk (by omega) (by omega), trivial⟩ ?_
        first
        | exact ih _ (by omega) rfl (j + 1) (by omega) (by omega) (zCh1_n hch (Int.le_trans h2 (Int.le_of_eq hvj.symm))) hfr h98 hT
        | (refine ih _ (by omega) rfl (j + 1) (by omega) (by omega) ?_ (fun r hr => by rw [eμ, pm_up_row hr, e, pm_up_row hr]; exact hfr r hr) (fun k k3 k4 => by rw [eμ, pm_up_ne k4, e, pm_up_ne k3]; exact h98 k k3 k4) hT
           have hy := zCh1_y hch (Int.lt_of_le_of_lt (Int.le_of_eq hvj) h2)
           have a3 : μ 198 3 = μ 201 ((c * 11) + i) := by rw [eμ, pm_up_ne (by decide), e, pm_up_eq]
           have a4 : μ 198 4 = zoth a j := by rw [eμ, pm_up_eq, e, pm_up_row (by decide), hfr 200 (by decide), hi]; exact hoth0 j (by omega)
           rw [a3, a4, ← hvj]
           exact hy)
        | (exfalso; omega)
      · have h2 : μ 201 ((c * 11) + i) < μ 198 3 := h2
        refine pm_blk hK zmm266 [] 10 77 [(2, 198), (0, N), (0, a), (0, c), (0, i)] [] (pm_up μ 198 3 (μ 201 ((c * 11) + i))) [pm_in (c * 11), pm_in ((c * 11) + i), 0 ≤ (c * 11) + i ∧ (c * 11) + i < 22528, sx_bit Wm 198 = true] rfl ⟨pm_in_mk (by omega) (by omega), pm_in_mk (by omega) (by omega), ⟨by omega, by omega⟩, hb198, trivial⟩ ?_
        obtain ⟨μ3, eμ3⟩ : ∃ μ', μ' = pm_up μ 198 3 (μ 201 ((c * 11) + i)) := ⟨_, rfl⟩
        rw [← eμ3]
        have hTμ3 : zTJ φ μ3 := by rw [eμ3]; exact zT_up hT zs198_3 rfl (i := 3) (by omega) (by omega) (by omega) (by omega)
        have g4 : μ3 200 i = μ 200 i := by rw [eμ3, pm_up_off (by decide)]
        have f5 := zT_get hTμ3 zs200_0 (i := i) (by omega) (by omega)
        refine pm_blk hK zmm266 [] 6 88 [(2, 198), (0, N), (0, a), (0, c), (0, i)] [] (pm_up μ3 198 4 (μ3 200 i)) [0 ≤ i ∧ i < 11, sx_bit Wm 198 = true] rfl ⟨⟨by omega, by omega⟩, hb198, trivial⟩ ?_
        obtain ⟨μ4, eμ4⟩ : ∃ μ', μ' = pm_up μ3 198 4 (μ3 200 i) := ⟨_, rfl⟩
        rw [← eμ4]
        have hTμ4 : zTJ φ μ4 := by rw [eμ4]; exact zT_up hTμ3 zs198_4 rfl (i := 4) (by omega) (by omega) (by omega) (by omega)
        refine pm_blk hK zmm266 [] 2 36 [(2, 198), (0, N), (0, a), (0, c), (0, i + 1)] [] μ4 [pm_in (i + 1)] rfl ⟨pm_in_mk (by omega) (by omega), trivial⟩ ?_
        first
        | exact ih _ (by omega) rfl (j + 1) (by omega) (by omega) (zCh1_n hch (Int.le_trans h2 (Int.le_of_eq hvj.symm))) hfr h98 hT
        | (refine ih _ (by omega) rfl (j + 1) (by omega) (by omega) ?_ (fun r hr => by rw [eμ4, pm_up_row hr, eμ3, pm_up_row hr]; exact hfr r hr) (fun k k3 k4 => by rw [eμ4, pm_up_ne k4, eμ3, pm_up_ne k3]; exact h98 k k3 k4) hTμ4
           have hy := zCh1_y hch (Int.lt_of_le_of_lt (Int.le_of_eq hvj) h2)
           have a3 : μ4 198 3 = μ 201 ((c * 11) + i) := by rw [eμ4, pm_up_ne (by decide), eμ3, pm_up_eq]
           have a4 : μ4 198 4 = zoth a j := by rw [eμ4, pm_up_eq, eμ3, pm_up_row (by decide), hfr 200 (by decide), hi]; exact hoth0 j (by omega)
           rw [a3, a4, ← hvj]
           exact hy)
        | (exfalso; omega)
set_option maxRecDepth 100000 in
theorem zk_u0 (hK : zKK ST)  {μ0 : pm_Mem} {a c : Int} (hb198 : sx_bit Wm 198 = true)  (hbd : 0 ≤ bud.1 ∧ 0 ≤ bud.2.1) : ∀ (n : Nat) {μ : pm_Mem}, (0 : Nat) = n → ∀ (h3 : μ 198 3 = 0) (h4 : μ 198 4 = a) (hfr : ∀ r, r ≠ 198 → μ r = μ0 r) (h98 : ∀ k : Int, k ≠ 3 → k ≠ 4 → μ 198 k = μ0 198 k) (hT : zTJ φ μ), zW D Wm ST b0 l Sg zM266 bud (pm_X zM266 (fun st' μ' => st' = [] ∧ zTJ φ μ' ∧ ((∀ r, r ≠ 198 → μ' r = μ0 r) ∧ (∀ k : Int, k ≠ 3 → k ≠ 4 → μ' 198 k = μ0 198 k)) ∧ μ' 198 3 = 0 ∧ μ' 198 4 = a)) 36 [(2, 198), (0, 0), (0, a), (0, c), (0, 0)] [] μ := by
  intro n
  induction n using Nat.strongRecOn with
  | ind n ih =>
    intro  μ hn h3 h4 hfr h98 hT
    refine pm_blk hK zmm266 [] 2 39 [(2, 198), (0, 0), (0, a), (0, c), (0, 0)] [(0, 0), (0, 0)] μ [] rfl trivial ?_
    refine pm_icmp hK zmm266 .ge 55 94 rfl rfl (fun h0 => ?_) (fun h0 => ?_)
    · have h0 : (0 : Int) ≤ (0 : Int) := h0
      have f1 := zT_get hT zs198_3 (i := 3) (by omega) (by omega)
      refine pm_blk hK zmm266 [] 4 101 [(2, 198), (0, 0), (0, a), (0, c), (0, 0)] [(0, 1000000), (0, μ 198 3), (2, 198)] μ [] rfl trivial ?_
      refine pm_icmp hK zmm266 .lt 7 108 rfl rfl (fun h1 => ?_) (fun h1 => ?_)
      · have h1 : μ 198 3 < (1000000 : Int) := h1
        refine pm_blk hK zmm266 [] 3 115 [(2, 198), (0, 0), (0, a), (0, c), (0, 0)] [] (pm_up μ 198 3 (μ 198 3)) [sx_bit Wm 198 = true] rfl ⟨hb198, trivial⟩ ?_
        obtain ⟨μ1, eμ1⟩ : ∃ μ', μ' = pm_up μ 198 3 (μ 198 3) := ⟨_, rfl⟩
        rw [← eμ1]
        have hTμ1 : zTJ φ μ1 := by rw [eμ1]; exact zT_up hT zs198_3 rfl (i := 3) (by omega) (by omega) (by omega) (by omega)
        first
        | (exfalso; omega)
        | exact pm_vret rfl rfl ⟨rfl, hTμ1, ⟨fun r hr => by rw [eμ1, pm_up_row hr]; exact hfr r hr, fun k k3 k4 => by rw [eμ1, pm_up_ne k3]; exact h98 k k3 k4⟩, by rw [eμ1, pm_up_eq]; omega, by rw [eμ1, pm_up_ne (by decide)]; exact h4⟩
        | (exfalso; omega)
      · have h1 : (1000000 : Int) ≤ μ 198 3 := h1
        refine pm_blk hK zmm266 [] 3 115 [(2, 198), (0, 0), (0, a), (0, c), (0, 0)] [] (pm_up μ 198 3 ((-1))) [sx_bit Wm 198 = true] rfl ⟨hb198, trivial⟩ ?_
        obtain ⟨μ2, eμ2⟩ : ∃ μ', μ' = pm_up μ 198 3 ((-1)) := ⟨_, rfl⟩
        rw [← eμ2]
        have hTμ2 : zTJ φ μ2 := by rw [eμ2]; exact zT_up hT zs198_3 rfl (i := 3) (by omega) (by omega) (by omega) (by omega)
        first
        | (exfalso; omega)
        | exact pm_vret rfl rfl ⟨rfl, hTμ2, ⟨fun r hr => by rw [eμ2, pm_up_row hr]; exact hfr r hr, fun k k3 k4 => by rw [eμ2, pm_up_ne k3]; exact h98 k k3 k4⟩, by rw [eμ2, pm_up_eq]; omega, by rw [eμ2, pm_up_ne (by decide)]; exact h4⟩
        | (exfalso; omega)
    · have h0 : (0 : Int) < (0 : Int) := h0
      exfalso
      omega
set_option maxRecDepth 100000 in
theorem zk_choose (hK : zKK ST) {N a : Int} {M : Nat} (hT : zTJ φ μ) (hN : N = (M : Int)) (hM : M ≤ 11) (ha : 0 ≤ a ∧ a < (M : Int) + 1) (hoth0 : ∀ i : Nat, i < M → μ 200 (i : Int) = zoth a i) (hb198 : sx_bit Wm 198 = true)  (hbd : 0 ≤ bud.1 ∧ 0 ≤ bud.2.1) : zC D Wm ST b0 l Sg zM266 bud [(2, 198), (0, N), (0, a)] μ (fun st' μ' => st' = [] ∧ zTJ φ μ' ∧ ((∀ r, r ≠ 198 → μ' r = μ r) ∧ (∀ k : Int, k ≠ 3 → k ≠ 4 → μ' 198 k = μ 198 k)) ∧ ((M = 0 ∧ μ' 198 3 = 0 ∧ μ' 198 4 = a) ∨ (0 < M ∧ ∃ fw, zCh1 1000000 a (fun s => μ 201 (((2 ^ M - 1 : Nat) : Int) * 11 + (if s < a then s else s - 1))) M fw (μ' 198 4) ∧ μ' 198 3 = if 1000000 ≤ fw then -1 else fw))) := by
  have hpM : 2 ^ M ≤ 2048 := Nat.pow_le_pow_right (by decide) hM
  have hp0M : 0 < 2 ^ M := Nat.two_pow_pos M
  have hp0 : 0 < 2 ^ M := Nat.two_pow_pos M
  have hsl := zshl1 M (by omega)
  rw [← hN] at hsl
  refine pm_blk hK zmm266 [] 2 2 [(2, 198), (0, N), (0, a), (9, 0), (9, 0)] [(0, N), (2, 198)] μ [] rfl trivial ?_
  refine pm_if hK zmm266 .ne 7 9 rfl rfl (fun h0 => ?_) (fun h0 => ?_)
  · have h0 : N ≠ (0 : Int) := h0
    refine pm_blk hK zmm266 [] 2 14 [(2, 198), (0, N), (0, a), (9, 0), (9, 0)] [] (pm_up μ 198 3 1000000) [sx_bit Wm 198 = true] rfl ⟨hb198, trivial⟩ ?_
    obtain ⟨μ1, eμ1⟩ : ∃ μ', μ' = pm_up μ 198 3 1000000 := ⟨_, rfl⟩
    rw [← eμ1]
    have hTμ1 : zTJ φ μ1 := by rw [eμ1]; exact zT_up hT zs198_3 rfl (i := 3) (by omega) (by omega) (by omega) (by omega)
    refine pm_blk hK zmm266 [] 2 16 [(2, 198), (0, N), (0, a), (9, 0), (9, 0)] [(0, N), (2, 198)] μ1 [] rfl trivial ?_
    refine pm_if hK zmm266 .ne 7 23 rfl rfl (fun h1 => ?_) (fun h1 => ?_)
    · have h1 : N ≠ (0 : Int) := h1
      refine pm_blk hK zmm266 [] 2 27 [(2, 198), (0, N), (0, a), (9, 0), (9, 0)] [] (pm_up μ1 198 4 ((-1))) [sx_bit Wm 198 = true] rfl ⟨hb198, trivial⟩ ?_
      obtain ⟨μ2, eμ2⟩ : ∃ μ', μ' = pm_up μ1 198 4 ((-1)) := ⟨_, rfl⟩
      rw [← eμ2]
      have hTμ2 : zTJ φ μ2 := by rw [eμ2]; exact zT_up hTμ1 zs198_4 rfl (i := 4) (by omega) (by omega) (by omega) (by omega)
      refine pm_blk hK zmm266 [] 8 36 [(2, 198), (0, N), (0, a), (0, (pm_shl 1 N) - 1), (0, 0)] [] μ2 [pm_in ((pm_shl 1 N) - 1)] rfl ⟨pm_in_mk (by omega) (by omega), trivial⟩ ?_
      first
      | (exfalso; omega)
      | (have h0 : N = 0 := by omega
         have hM0 : M = 0 := by omega
         subst h0
         exact pm_then (zk_u0 hK (μ0 := μ) hb198 ⟨by omega, by omega⟩ _ rfl (by rw [eμ2, pm_up_ne (by decide), eμ1, pm_up_eq]) (by rw [eμ2, pm_up_eq]) (fun r hr => by rw [eμ2, pm_up_row hr, eμ1, pm_up_row hr]) (fun k k3 k4 => by rw [eμ2, pm_up_ne k4, eμ1, pm_up_ne k3]) hTμ2) (fun pc2 lv2 st2 μ2 hX => pm_exit ⟨hX.1, hX.2.1, hX.2.2.1, hX.2.2.2.1, Or.inl ⟨hM0, hX.2.2.2.2.1, hX.2.2.2.2.2⟩⟩))
      | exact pm_then (zk_u1 hK (μ0 := μ) hN hM ha (by rw [hsl]; omega) hoth0 hb198 ⟨by omega, by omega⟩ _ rfl 0 rfl (by omega) (Or.inl ⟨by rw [eμ2, pm_up_ne (by decide), eμ1, pm_up_eq], by rw [eμ2, pm_up_eq], fun j hj => absurd hj (by omega)⟩) (fun r hr => by rw [eμ2, pm_up_row hr, eμ1, pm_up_row hr]) (fun k k3 k4 => by rw [eμ2, pm_up_ne k4, eμ1, pm_up_ne k3]) hTμ2) (fun pc2 lv2 st2 μ2 hX => pm_exit ⟨hX.1, hX.2.1, hX.2.2.1, ⟨hX.2.2.2.1, hX.2.2.2.2.1⟩, Or.inr ⟨by omega, hX.2.2.2.2.2⟩⟩)
      | (exfalso; omega)
    · have h1 : N = (0 : Int) := h1
      refine pm_blk hK zmm266 [] 3 27 [(2, 198), (0, N), (0, a), (9, 0), (9, 0)] [] (pm_up μ1 198 4 a) [sx_bit Wm 198 = true] rfl ⟨hb198, trivial⟩ ?_
      obtain ⟨μ3, eμ3⟩ : ∃ μ', μ' = pm_up μ1 198 4 a := ⟨_, rfl⟩
      rw [← eμ3]
      have hTμ3 : zTJ φ μ3 := by rw [eμ3]; exact zT_up hTμ1 zs198_4 rfl (i := 4) (by omega) (by omega) (by omega) (by omega)
      refine pm_blk hK zmm266 [] 8 36 [(2, 198), (0, N), (0, a), (0, (pm_shl 1 N) - 1), (0, 0)] [] μ3 [pm_in ((pm_shl 1 N) - 1)] rfl ⟨pm_in_mk (by omega) (by omega), trivial⟩ ?_
      first
      | (exfalso; omega)
      | (have h0 : N = 0 := by omega
         have hM0 : M = 0 := by omega
         subst h0
         exact pm_then (zk_u0 hK (μ0 := μ) hb198 ⟨by omega, by omega⟩ _ rfl (by rw [eμ3, pm_up_ne (by decide), eμ1, pm_up_eq]) (by rw [eμ3, pm_up_eq]) (fun r hr => by rw [eμ3, pm_up_row hr, eμ1, pm_up_row hr]) (fun k k3 k4 => by rw [eμ3, pm_up_ne k4, eμ1, pm_up_ne k3]) hTμ3) (fun pc2 lv2 st2 μ2 hX => pm_exit ⟨hX.1, hX.2.1, hX.2.2.1, hX.2.2.2.1, Or.inl ⟨hM0, hX.2.2.2.2.1, hX.2.2.2.2.2⟩⟩))
      | exact pm_then (zk_u1 hK (μ0 := μ) hN hM ha (by rw [hsl]; omega) hoth0 hb198 ⟨by omega, by omega⟩ _ rfl 0 rfl (by omega) (Or.inl ⟨by rw [eμ3, pm_up_ne (by decide), eμ1, pm_up_eq], by rw [eμ3, pm_up_eq], fun j hj => absurd hj (by omega)⟩) (fun r hr => by rw [eμ3, pm_up_row hr, eμ1, pm_up_row hr]) (fun k k3 k4 => by rw [eμ3, pm_up_ne k4, eμ1, pm_up_ne k3]) hTμ3) (fun pc2 lv2 st2 μ2 hX => pm_exit ⟨hX.1, hX.2.1, hX.2.2.1, ⟨hX.2.2.2.1, hX.2.2.2.2.1⟩, Or.inr ⟨by omega, hX.2.2.2.2.2⟩⟩)
      | (exfalso; omega)
  · have h0 : N = (0 : Int) := h0
    refine pm_blk hK zmm266 [] 3 14 [(2, 198), (0, N), (0, a), (9, 0), (9, 0)] [] (pm_up μ 198 3 0) [sx_bit Wm 198 = true] rfl ⟨hb198, trivial⟩ ?_
    obtain ⟨μ4, eμ4⟩ : ∃ μ', μ' = pm_up μ 198 3 0 := ⟨_, rfl⟩
    rw [← eμ4]
    have hTμ4 : zTJ φ μ4 := by rw [eμ4]; exact zT_up hT zs198_3 rfl (i := 3) (by omega) (by omega) (by omega) (by omega)
    refine pm_blk hK zmm266 [] 2 16 [(2, 198), (0, N), (0, a), (9, 0), (9, 0)] [(0, N), (2, 198)] μ4 [] rfl trivial ?_
    refine pm_if hK zmm266 .ne 7 23 rfl rfl (fun h2 => ?_) (fun h2 => ?_)
    · have h2 : N ≠ (0 : Int) := h2
      refine pm_blk hK zmm266 [] 2 27 [(2, 198), (0, N), (0, a), (9, 0), (9, 0)] [] (pm_up μ4 198 4 ((-1))) [sx_bit Wm 198 = true] rfl ⟨hb198, trivial⟩ ?_
      obtain ⟨μ5, eμ5⟩ : ∃ μ', μ' = pm_up μ4 198 4 ((-1)) := ⟨_, rfl⟩
      rw [← eμ5]
      have hTμ5 : zTJ φ μ5 := by rw [eμ5]; exact zT_up hTμ4 zs198_4 rfl (i := 4) (by omega) (by omega) (by omega) (by omega)
      refine pm_blk hK zmm266 [] 8 36 [(2, 198), (0, N), (0, a), (0, (pm_shl 1 N) - 1), (0, 0)] [] μ5 [pm_in ((pm_shl 1 N) - 1)] rfl ⟨pm_in_mk (by omega) (by omega), trivial⟩ ?_
      first
      | (exfalso; omega)
      | (have h0 : N = 0 := by omega
         have hM0 : M = 0 := by omega
         subst h0
         exact pm_then (zk_u0 hK (μ0 := μ) hb198 ⟨by omega, by omega⟩ _ rfl (by rw [eμ5, pm_up_ne (by decide), eμ4, pm_up_eq]) (by rw [eμ5, pm_up_eq]) (fun r hr => by rw [eμ5, pm_up_row hr, eμ4, pm_up_row hr]) (fun k k3 k4 => by rw [eμ5, pm_up_ne k4, eμ4, pm_up_ne k3]) hTμ5) (fun pc2 lv2 st2 μ2 hX => pm_exit ⟨hX.1, hX.2.1, hX.2.2.1, hX.2.2.2.1, Or.inl ⟨hM0, hX.2.2.2.2.1, hX.2.2.2.2.2⟩⟩))
      | exact pm_then (zk_u1 hK (μ0 := μ) hN hM ha (by rw [hsl]; omega) hoth0 hb198 ⟨by omega, by omega⟩ _ rfl 0 rfl (by omega) (Or.inl ⟨by rw [eμ5, pm_up_ne (by decide), eμ4, pm_up_eq], by rw [eμ5, pm_up_eq], fun j hj => absurd hj (by omega)⟩) (fun r hr => by rw [eμ5, pm_up_row hr, eμ4, pm_up_row hr]) (fun k k3 k4 => by rw [eμ5, pm_up_ne k4, eμ4, pm_up_ne k3]) hTμ5) (fun pc2 lv2 st2 μ2 hX => pm_exit ⟨hX.1, hX.2.1, hX.2.2.1, ⟨hX.2.2.2.1, hX.2.2.2.2.1⟩, Or.inr ⟨by omega, hX.2.2.2.2.2⟩⟩)
      | (exfalso; omega)
    · have h2 : N = (0 : Int) := h2
      refine pm_blk hK zmm266 [] 3 27 [(2, 198), (0, N), (0, a), (9, 0), (9, 0)] [] (pm_up μ4 198 4 a) [sx_bit Wm 198 = true] rfl ⟨hb198, trivial⟩ ?_
      obtain ⟨μ6, eμ6⟩ : ∃ μ', μ' = pm_up μ4 198 4 a := ⟨_, rfl⟩
      rw [← eμ6]
      have hTμ6 : zTJ φ μ6 := by rw [eμ6]; exact zT_up hTμ4 zs198_4 rfl (i := 4) (by omega) (by omega) (by omega) (by omega)
      refine pm_blk hK zmm266 [] 8 36 [(2, 198), (0, N), (0, a), (0, (pm_shl 1 N) - 1), (0, 0)] [] μ6 [pm_in ((pm_shl 1 N) - 1)] rfl ⟨pm_in_mk (by omega) (by omega), trivial⟩ ?_
      first
      | (exfalso; omega)
      | (have h0 : N = 0 := by omega
         have hM0 : M = 0 := by omega
         subst h0
         exact pm_then (zk_u0 hK (μ0 := μ) hb198 ⟨by omega, by omega⟩ _ rfl (by rw [eμ6, pm_up_ne (by decide), eμ4, pm_up_eq]) (by rw [eμ6, pm_up_eq]) (fun r hr => by rw [eμ6, pm_up_row hr, eμ4, pm_up_row hr]) (fun k k3 k4 => by rw [eμ6, pm_up_ne k4, eμ4, pm_up_ne k3]) hTμ6) (fun pc2 lv2 st2 μ2 hX => pm_exit ⟨hX.1, hX.2.1, hX.2.2.1, hX.2.2.2.1, Or.inl ⟨hM0, hX.2.2.2.2.1, hX.2.2.2.2.2⟩⟩))
      | exact pm_then (zk_u1 hK (μ0 := μ) hN hM ha (by rw [hsl]; omega) hoth0 hb198 ⟨by omega, by omega⟩ _ rfl 0 rfl (by omega) (Or.inl ⟨by rw [eμ6, pm_up_ne (by decide), eμ4, pm_up_eq], by rw [eμ6, pm_up_eq], fun j hj => absurd hj (by omega)⟩) (fun r hr => by rw [eμ6, pm_up_row hr, eμ4, pm_up_row hr]) (fun k k3 k4 => by rw [eμ6, pm_up_ne k4, eμ4, pm_up_ne k3]) hTμ6) (fun pc2 lv2 st2 μ2 hX => pm_exit ⟨hX.1, hX.2.1, hX.2.2.1, ⟨hX.2.2.2.1, hX.2.2.2.2.1⟩, Or.inr ⟨by omega, hX.2.2.2.2.2⟩⟩)
      | (exfalso; omega)
end ZHW
