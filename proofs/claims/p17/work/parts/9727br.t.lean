/-! tramp: the reference, its loops; walks printed by program (wip/p30/pmgen.py) and filled by hand -/
section ZHW
variable {φ : Option pm_Mem}
variable {D : va_G} {Wm : Nat} {ST : List (String × String × String × Nat)} {b0 : sx_B} {l : Launch} {Sg : Nat → Option Nat} {bud : sx_Bu} {μ : pm_Mem} {B0 : Nat → Prop} {J : (Nat → Option Nat) → Heap → Prop}
set_option maxRecDepth 100000 in
theorem zk_has (hK : zKK ST) {s k : Int} (hs : 0 ≤ s ∧ s ≤ 2147483647) (hk : 0 ≤ k ∧ k ≤ 31) (hbd : 0 ≤ bud.1 ∧ 0 ≤ bud.2.1) : zC D Wm ST b0 l Sg zM169 bud [(2, 205), (0, s), (0, k)] μ (fun st' μ' => μ = μ' ∧ st' = [(0, if s.toNat.testBit k.toNat = true then 1 else 0)]) := by
  have hz := zhas (s := s) (k := k.toNat) hs.1 hs.2 (by omega)
  rw [show ((k.toNat : Nat) : Int) = k by omega] at hz
  refine pm_blk hK zmm169 [] 6 6 [(2, 205), (0, s), (0, k)] [(0, 1), (0, pm_and (pm_shr s k) 1)] μ [] rfl trivial ?_
  refine pm_icmp hK zmm169 .ne 7 13 rfl rfl (fun h0 => ?_) (fun h0 => ?_)
  · have h0 : pm_and (pm_shr s k) 1 ≠ (1 : Int) := h0
    refine pm_blk hK zmm169 [] 1 14 [(2, 205), (0, s), (0, k)] [(0, 0)] μ [] rfl trivial ?_
    first
    | exact pm_zret rfl rfl (by first | exact Or.inl rfl | exact Or.inr rfl | omega) ⟨rfl, by rw [if_neg (by rw [zbit_n hz h0]; decide)]⟩
    | exact pm_zret rfl rfl (by first | exact Or.inl rfl | exact Or.inr rfl | omega) ⟨rfl, by rw [if_pos (zbit_y hz h0)]⟩
    | (exfalso; omega)
  · have h0 : pm_and (pm_shr s k) 1 = (1 : Int) := h0
    refine pm_blk hK zmm169 [] 2 14 [(2, 205), (0, s), (0, k)] [(0, 1)] μ [] rfl trivial ?_
    first
    | exact pm_zret rfl rfl (by first | exact Or.inl rfl | exact Or.inr rfl | omega) ⟨rfl, by rw [if_neg (by rw [zbit_n hz h0]; decide)]⟩
    | exact pm_zret rfl rfl (by first | exact Or.inl rfl | exact Or.inr rfl | omega) ⟨rfl, by rw [if_pos (zbit_y hz h0)]⟩
    | (exfalso; omega)
set_option maxRecDepth 100000 in
theorem zk_r1 (hK : zKK ST) {X : Nat → List pm_V → List pm_V → pm_Mem → Prop} {μ0 : pm_Mem} {a w c : Int} {q : Nat} (hq12 : q ≤ 12) (hsh : μ0 205 6 = (q : Int)) (hc : c = ((2 ^ q - 1 : Nat) : Int)) (hb229 : sx_bit Wm 229 = true) (KK : ∀ (μ : pm_Mem), (∀ r, r ≠ 229 → μ r = μ0 r) → (∀ y : Int, (0 ≤ y ∧ y < 12 * ((2 ^ q : Nat) : Int)) → μ 229 y = 100000000) → zTJ φ μ → zW D Wm ST b0 l Sg zM170 bud X 69 [(2, 205), (0, a), (0, w), (0, c), (9, 0), (9, 0), (9, 0), (9, 0)] [] μ) (hbd : 0 ≤ bud.1 ∧ 0 ≤ bud.2.1) : ∀ (n : Nat) {k : Int} {μ : pm_Mem}, (12 * ((2 ^ q : Nat) : Int) - k).toNat = n → ∀ (hk : 0 ≤ k ∧ k ≤ 12 * ((2 ^ q : Nat) : Int)) (hfr : ∀ r, r ≠ 229 → μ r = μ0 r) (hf : ∀ y : Int, (0 ≤ y ∧ y < k) → μ 229 y = 100000000) (hT : zTJ φ μ), zW D Wm ST b0 l Sg zM170 bud X 41 [(2, 205), (0, a), (0, w), (0, c), (0, k), (9, 0), (9, 0), (9, 0)] [] μ := by
  intro n
  induction n using Nat.strongRecOn with
  | ind n ih =>
    intro k μ hn hk hfr hf hT
    have h6 : μ 205 6 = (q : Int) := by rw [hfr 205 (by decide)]; exact hsh
    have hpn : 2 ^ q ≤ 4096 := Nat.pow_le_pow_right (by decide) hq12
    have hp0n : 0 < 2 ^ q := Nat.two_pow_pos q
    have hp0 : 0 < 2 ^ q := Nat.two_pow_pos q
    have hs12 := zshl12 q (by omega)
    rw [← h6] at hs12
    have f1 := zT_get hT zs205_6 (i := 6) (by omega) (by omega)
    refine pm_blk hK zmm170 [] 5 50 [(2, 205), (0, a), (0, w), (0, c), (0, k), (9, 0), (9, 0), (9, 0)] [(0, pm_shl 12 (μ 205 6)), (0, k)] μ [] rfl trivial ?_
    refine pm_icmp hK zmm170 .ge 19 69 rfl rfl (fun h0 => ?_) (fun h0 => ?_)
    · have h0 : pm_shl 12 (μ 205 6) ≤ k := h0
      refine pm_hide [4] ?_
      exact KK _ hfr (fun y hy => hf y ⟨by omega, by omega⟩) hT
    · have h0 : k < pm_shl 12 (μ 205 6) := h0
      refine pm_blk hK zmm170 [] 5 63 [(2, 205), (0, a), (0, w), (0, c), (0, k), (9, 0), (9, 0), (9, 0)] [] (pm_up μ 229 k 100000000) [sx_bit Wm 229 = true, 0 ≤ k ∧ k < 49152] rfl ⟨hb229, ⟨by omega, by omega⟩, trivial⟩ ?_
      obtain ⟨μ1, eμ1⟩ : ∃ μ', μ' = pm_up μ 229 k 100000000 := ⟨_, rfl⟩
      rw [← eμ1]
      have hTμ1 : zTJ φ μ1 := by rw [eμ1]; exact zT_up hT zs229_0 rfl (i := k) (by omega) (by omega) (by omega) (by omega)
      refine pm_blk hK zmm170 [] 2 41 [(2, 205), (0, a), (0, w), (0, c), (0, k + 1), (9, 0), (9, 0), (9, 0)] [] μ1 [pm_in (k + 1)] rfl ⟨pm_in_mk (by omega) (by omega), trivial⟩ ?_
      refine ih _ (by omega) rfl ⟨by omega, by omega⟩ (fun r hr => by rw [eμ1, pm_up_row hr]; exact hfr r hr) (fun y hy => ?_) hTμ1
      rw [eμ1, pm_up_at]
      by_cases hyk : y = k
      · rw [if_pos hyk]
      · rw [if_neg hyk]
        exact hf y ⟨by omega, by omega⟩
set_option maxRecDepth 100000 in
theorem zk_r4 (hK : zKK ST) {X : Nat → List pm_V → List pm_V → pm_Mem → Prop} {μ0 : pm_Mem} {a w c : Int} {q : Nat} (hq12 : q ≤ 12) (hsh : μ0 205 6 = (q : Int)) (hc : c = ((2 ^ q - 1 : Nat) : Int)) (hb229 : sx_bit Wm 229 = true) {s u v : Int} {S U : Nat} (hok : zFok 100000000 (q : Int) (μ0 228)) (ha : 0 ≤ a ∧ a < (q : Int)) (hs : s = (S : Int)) (hS : S < 2 ^ q) (hu : u = (U : Int)) (hU : U < q) (KK : ∀ (μ : pm_Mem) (v b : Int), zRv 100000000 (μ0 228) a q S (U + 1) 0 (μ 229) → (∀ r, r ≠ 229 → μ r = μ0 r) → zTJ φ μ → zW D Wm ST b0 l Sg zM170 bud X 212 [(2, 205), (0, a), (0, w), (0, c), (0, s), (0, u), (9, 0), (9, 0)] [] μ) (hbd : 1 ≤ bud.1 ∧ 22 ≤ bud.2.1) : ∀ (n : Nat) {b : Int} {μ : pm_Mem}, (((q : Nat) : Int) - b).toNat = n → ∀ (B : Nat) (hb : b = (B : Int)) (hB : B ≤ q) (hv : μ 229 (12 * s + u) = v) (hR : zRv 100000000 (μ0 228) a q S U B (μ 229)) (hfr : ∀ r, r ≠ 229 → μ r = μ0 r) (hT : zTJ φ μ), zW D Wm ST b0 l Sg zM170 bud X 122 [(2, 205), (0, a), (0, w), (0, c), (0, s), (0, u), (0, v), (0, b)] [] μ := by
  intro n
  induction n using Nat.strongRecOn with
  | ind n ih =>
    intro b μ hn B hb hB hv hR hfr hT
    have h6 : μ 205 6 = (q : Int) := by rw [hfr 205 (by decide)]; exact hsh
    have hpn : 2 ^ q ≤ 4096 := Nat.pow_le_pow_right (by decide) hq12
    have hp0n : 0 < 2 ^ q := Nat.two_pow_pos q
    have hp0 : 0 < 2 ^ q := Nat.two_pow_pos q
    have f1 := zT_get hT zs205_6 (i := 6) (by omega) (by omega)
    refine pm_blk hK zmm170 [] 3 128 [(2, 205), (0, a), (0, w), (0, c), (0, s), (0, u), (0, v), (0, b)] [(0, μ 205 6), (0, b)] μ [] rfl trivial ?_
    refine pm_icmp hK zmm170 .ge 84 212 rfl rfl (fun h0 => ?_) (fun h0 => ?_)
    · have h0 : μ 205 6 ≤ b := h0
      refine pm_hide [6, 7] ?_
      first
      | exact KK _ 0 0 (zRv_u (Or.inl (by omega)) hR) hfr hT
      | exact KK _ 0 0 (zRv_u (Or.inr (by rw [show (12 : Int) * (S : Int) + (U : Int) = 12 * s + u by omega, hv]; omega)) hR) hfr hT
      | (exfalso; omega)
    · have h0 : b < μ 205 6 := h0
      refine pm_blk hK zmm170 [] 2 136 [(2, 205), (0, a), (0, w), (0, c), (0, s), (0, u), (0, v), (0, b)] [(0, 100000000), (0, v)] μ [] rfl trivial ?_
      refine pm_icmp hK zmm170 .ge 76 212 rfl rfl (fun h1 => ?_) (fun h1 => ?_)
      · have h1 : (100000000 : Int) ≤ v := h1
        refine pm_hide [6, 7] ?_
        first
        | exact KK _ 0 0 (zRv_u (Or.inl (by omega)) hR) hfr hT
        | exact KK _ 0 0 (zRv_u (Or.inr (by rw [show (12 : Int) * (S : Int) + (U : Int) = 12 * s + u by omega, hv]; omega)) hR) hfr hT
        | (exfalso; omega)
      · have h1 : v < (100000000 : Int) := h1
        have e228 : μ 228 = μ0 228 := hfr 228 (by decide)
        have hBq : B < q := by omega
        have hsl := zshl1 B (by omega)
        rw [← hb] at hsl
        have hpB : 2 ^ B < 4096 := Nat.pow_lt_pow_right (n := 12) (by decide) (by omega)
        have hp0B : 0 < 2 ^ B := Nat.two_pow_pos B
        have hoz : pm_or s (pm_shl 1 b) = ((S ||| 2 ^ B : Nat) : Int) := by rw [hsl, zor (by omega) (by omega) (by omega) (by omega), hs, Int.toNat_natCast, Int.toNat_natCast]
        have hol := zor_lt hS hBq
        refine pm_blk hK zmm170 [] 3 144 [(2, 205), (0, a), (0, w), (0, c), (0, s), (0, u), (0, v), (0, b)] [(0, b), (0, s), (2, 205)] μ [] rfl trivial ?_
        refine pm_call hK zmm170 (417, 0, 169, 2) zM169 (0, 0) [(2, 205), (0, s), (0, b)] [] rfl rfl rfl rfl ⟨by omega, by rw [zn169]; omega⟩ (zk_has hK (s := s) (k := b) ⟨by omega, by omega⟩ ⟨by omega, by omega⟩ ⟨Nat.le_refl _, Nat.le_refl _⟩) (fun st1 μc1 hp1 => ?_)
        obtain ⟨rfl, rfl⟩ := hp1
        refine pm_if hK zmm170 .ne 59 206 rfl rfl (fun h2 => ?_) (fun h2 => ?_)
        · have h2 : (if (s).toNat.testBit (b).toNat = true then 1 else 0 : Int) ≠ (0 : Int) := h2
          have h2 := zif1 h2
          refine pm_blk hK zmm170 [] 2 122 [(2, 205), (0, a), (0, w), (0, c), (0, s), (0, u), (0, v), (0, b + 1)] [] μ [pm_in (b + 1)] rfl ⟨pm_in_mk (by omega) (by omega), trivial⟩ ?_
          first
          | (have hbit : S.testBit B = true := by
               have h9 := h2
               rw [show s.toNat = S by omega, show b.toNat = B by omega] at h9
               exact h9
             exact ih _ (by omega) rfl (B + 1) (by omega) (by omega) hv (zRv_no hbit hR) hfr hT)
          | (refine ih _ (by omega) rfl (B + 1) (by omega) (by omega) (by rw [eμ, pm_up_ne (by omega)]; exact hv) (zRv_y (by decide) hok ha hS hU hBq hbit (by rw [show (12 : Int) * (S : Int) + (U : Int) = 12 * s + u by omega, hv]; omega) hR rfl (fun y => ?_) hq12) (fun r hr => by rw [eμ, pm_up_row hr]; exact hfr r hr) hT
             rw [eμ, pm_up_at]
             rw [← hoz, ← hb, show (12 : Int) * (S : Int) + (U : Int) = 12 * s + u by omega, hv, ← hu, ← e228, show u * 12 + b = 12 * u + b by omega])
          | (exfalso; omega)
        · have h2 : (if (s).toNat.testBit (b).toNat = true then 1 else 0 : Int) = (0 : Int) := h2
          have h2 := zif0 h2
          have hbit : S.testBit B = false := by
            have h9 := h2
            rw [show s.toNat = S by omega, show b.toNat = B by omega] at h9
            cases hq : S.testBit B
            · rfl
            · exact absurd hq h9
          have hvF := (hR.1 S U hS hU).1
          have hgt := zor_gt hbit
          rw [show (12 : Int) * (S : Int) + (U : Int) = 12 * s + u by omega, hv] at hvF
          have f2 := zT_get hT zs229_0 (i := (12 * (pm_or s (pm_shl 1 b))) + b) (by omega) (by omega)
          have f3 := zT_get hT zs228_0 (i := (12 * u) + b) (by omega) (by omega)
          refine pm_blk hK zmm170 [] 34 202 [(2, 205), (0, a), (0, w), (0, c), (0, s), (0, u), (0, v), (0, b)] [(0, v + (μ 228 ((12 * u) + b))), (0, μ 229 ((12 * (pm_or s (pm_shl 1 b))) + b)), (2, 205), (0, (12 * (pm_or s (pm_shl 1 b))) + b), (2, 229)] μ [pm_in (12 * (pm_or s (pm_shl 1 b))), pm_in ((12 * (pm_or s (pm_shl 1 b))) + b), pm_in (12 * (pm_or s (pm_shl 1 b))), pm_in ((12 * (pm_or s (pm_shl 1 b))) + b), 0 ≤ (12 * (pm_or s (pm_shl 1 b))) + b ∧ (12 * (pm_or s (pm_shl 1 b))) + b < 49152, pm_in (12 * u), pm_in ((12 * u) + b), 0 ≤ (12 * u) + b ∧ (12 * u) + b < 144, pm_in (v + (μ 228 ((12 * u) + b)))] rfl ⟨pm_in_mk (by omega) (by omega), pm_in_mk (by omega) (by omega), pm_in_mk (by omega) (by omega), pm_in_mk (by omega) (by omega), ⟨by omega, by omega⟩, pm_in_mk (by omega) (by omega), pm_in_mk (by omega) (by omega), ⟨by omega, by omega⟩, pm_in_mk (by omega) (by omega), trivial⟩ ?_
          refine pm_call hK zmm170 (377, 0, 157, 2) zM157 (0, 0) [(2, 205), (0, μ 229 ((12 * (pm_or s (pm_shl 1 b))) + b)), (0, v + (μ 228 ((12 * u) + b)))] [(0, (12 * (pm_or s (pm_shl 1 b))) + b), (2, 229)] rfl rfl rfl rfl ⟨by omega, by rw [zn157]; omega⟩ (zk_less hK ⟨Nat.le_refl _, Nat.le_refl _⟩) (fun st2 μc2 hp2 => ?_)
          obtain ⟨rfl, rfl⟩ := hp2
          refine pm_blk hK zmm170 [] 1 206 [(2, 205), (0, a), (0, w), (0, c), (0, s), (0, u), (0, v), (0, b)] [] (pm_up μ 229 ((12 * (pm_or s (pm_shl 1 b))) + b) (min (μ 229 ((12 * (pm_or s (pm_shl 1 b))) + b)) (v + (μ 228 ((12 * u) + b))))) [sx_bit Wm 229 = true, 0 ≤ (12 * (pm_or s (pm_shl 1 b))) + b ∧ (12 * (pm_or s (pm_shl 1 b))) + b < 49152] rfl ⟨hb229, ⟨by omega, by omega⟩, trivial⟩ ?_
          obtain ⟨μ1, eμ1⟩ : ∃ μ', μ' = pm_up μ 229 ((12 * (pm_or s (pm_shl 1 b))) + b) (min (μ 229 ((12 * (pm_or s (pm_shl 1 b))) + b)) (v + (μ 228 ((12 * u) + b)))) := ⟨_, rfl⟩
          rw [← eμ1]
          have hTμ1 : zTJ φ μ1 := by rw [eμ1]; exact zT_up hT zs229_0 rfl (i := (12 * (pm_or s (pm_shl 1 b))) + b) (by omega) (by omega) (by omega) (by omega)
          refine pm_blk hK zmm170 [] 2 122 [(2, 205), (0, a), (0, w), (0, c), (0, s), (0, u), (0, v), (0, b + 1)] [] μ1 [pm_in (b + 1)] rfl ⟨pm_in_mk (by omega) (by omega), trivial⟩ ?_
          first
          | (have hbit : S.testBit B = true := by
               have h9 := h2
               rw [show s.toNat = S by omega, show b.toNat = B by omega] at h9
               exact h9
             exact ih _ (by omega) rfl (B + 1) (by omega) (by omega) hv (zRv_no hbit hR) hfr hT)
          | (refine ih _ (by omega) rfl (B + 1) (by omega) (by omega) (by rw [eμ1, pm_up_ne (by omega)]; exact hv) (zRv_y (by decide) hok ha hS hU hBq hbit (by rw [show (12 : Int) * (S : Int) + (U : Int) = 12 * s + u by omega, hv]; omega) hR rfl (fun y => ?_) hq12) (fun r hr => by rw [eμ1, pm_up_row hr]; exact hfr r hr) hTμ1
             rw [eμ1, pm_up_at]
             rw [← hoz, ← hb, show (12 : Int) * (S : Int) + (U : Int) = 12 * s + u by omega, hv, ← hu, ← e228, show u * 12 + b = 12 * u + b by omega])
          | (exfalso; omega)
set_option maxRecDepth 100000 in
theorem zk_r3 (hK : zKK ST) {X : Nat → List pm_V → List pm_V → pm_Mem → Prop} {μ0 : pm_Mem} {a w c : Int} {q : Nat} (hq12 : q ≤ 12) (hsh : μ0 205 6 = (q : Int)) (hc : c = ((2 ^ q - 1 : Nat) : Int)) (hb229 : sx_bit Wm 229 = true) {s : Int} {S : Nat} (hok : zFok 100000000 (q : Int) (μ0 228)) (ha : 0 ≤ a ∧ a < (q : Int)) (hs : s = (S : Int)) (hS : S < 2 ^ q) (KK : ∀ (μ : pm_Mem), zRv 100000000 (μ0 228) a q (S + 1) 0 0 (μ 229) → (∀ r, r ≠ 229 → μ r = μ0 r) → zTJ φ μ → zW D Wm ST b0 l Sg zM170 bud X 218 [(2, 205), (0, a), (0, w), (0, c), (0, s), (9, 0), (9, 0), (9, 0)] [] μ) (hbd : 1 ≤ bud.1 ∧ 22 ≤ bud.2.1) : ∀ (n : Nat) {u : Int} {μ : pm_Mem}, (((q : Nat) : Int) - u).toNat = n → ∀ (U : Nat) (hu : u = (U : Int)) (hU : U ≤ q) (hR : zRv 100000000 (μ0 228) a q S U 0 (μ 229)) (hfr : ∀ r, r ≠ 229 → μ r = μ0 r) (hT : zTJ φ μ), zW D Wm ST b0 l Sg zM170 bud X 95 [(2, 205), (0, a), (0, w), (0, c), (0, s), (0, u), (9, 0), (9, 0)] [] μ := by
  intro n
  induction n using Nat.strongRecOn with
  | ind n ih =>
    intro u μ hn U hu hU hR hfr hT
    have h6 : μ 205 6 = (q : Int) := by rw [hfr 205 (by decide)]; exact hsh
    have hpn : 2 ^ q ≤ 4096 := Nat.pow_le_pow_right (by decide) hq12
    have hp0n : 0 < 2 ^ q := Nat.two_pow_pos q
    have hp0 : 0 < 2 ^ q := Nat.two_pow_pos q
    have f1 := zT_get hT zs205_6 (i := 6) (by omega) (by omega)
    refine pm_blk hK zmm170 [] 3 101 [(2, 205), (0, a), (0, w), (0, c), (0, s), (0, u), (9, 0), (9, 0)] [(0, μ 205 6), (0, u)] μ [] rfl trivial ?_
    refine pm_icmp hK zmm170 .ge 117 218 rfl rfl (fun h0 => ?_) (fun h0 => ?_)
    · have h0 : μ 205 6 ≤ u := h0
      refine pm_hide [5] ?_
      exact KK _ (zRv_S (by omega) hR) hfr hT
    · have h0 : u < μ 205 6 := h0
      have f2 := zT_get hT zs229_0 (i := (12 * s) + u) (by omega) (by omega)
      refine pm_blk hK zmm170 [] 11 122 [(2, 205), (0, a), (0, w), (0, c), (0, s), (0, u), (0, μ 229 ((12 * s) + u)), (0, 0)] [] μ [pm_in (12 * s), pm_in ((12 * s) + u), 0 ≤ (12 * s) + u ∧ (12 * s) + u < 49152] rfl ⟨pm_in_mk (by omega) (by omega), pm_in_mk (by omega) (by omega), ⟨by omega, by omega⟩, trivial⟩ ?_
      refine zk_r4 hK (μ0 := μ0) hq12 hsh hc hb229 hok ha hs hS hu (by omega) (fun μ v b hR hfr hT => ?_) hbd _ rfl 0 rfl (by omega) rfl hR hfr hT
      refine pm_blk hK zmm170 [] 2 95 [(2, 205), (0, a), (0, w), (0, c), (0, s), (0, u + 1), (9, 0), (9, 0)] [] μ [pm_in (u + 1)] rfl ⟨pm_in_mk (by omega) (by omega), trivial⟩ ?_
      exact ih _ (by omega) rfl (U + 1) (by omega) (by omega) hR hfr hT
set_option maxRecDepth 100000 in
theorem zk_r2 (hK : zKK ST) {X : Nat → List pm_V → List pm_V → pm_Mem → Prop} {μ0 : pm_Mem} {a w c : Int} {q : Nat} (hq12 : q ≤ 12) (hsh : μ0 205 6 = (q : Int)) (hc : c = ((2 ^ q - 1 : Nat) : Int)) (hb229 : sx_bit Wm 229 = true) (hok : zFok 100000000 (q : Int) (μ0 228)) (ha : 0 ≤ a ∧ a < (q : Int)) (KK : ∀ (μ : pm_Mem), zRv 100000000 (μ0 228) a q (2 ^ q) 0 0 (μ 229) → (∀ r, r ≠ 229 → μ r = μ0 r) → zTJ φ μ → zW D Wm ST b0 l Sg zM170 bud X 224 [(2, 205), (0, a), (0, w), (0, c), (9, 0), (9, 0), (9, 0), (9, 0)] [] μ) (hbd : 1 ≤ bud.1 ∧ 22 ≤ bud.2.1) : ∀ (n : Nat) {s : Int} {μ : pm_Mem}, (4096 - s).toNat = n → ∀ (S : Nat) (hs : s = (S : Int)) (hS : S ≤ 2 ^ q) (hR : zRv 100000000 (μ0 228) a q S 0 0 (μ 229)) (hfr : ∀ r, r ≠ 229 → μ r = μ0 r) (hT : zTJ φ μ), zW D Wm ST b0 l Sg zM170 bud X 86 [(2, 205), (0, a), (0, w), (0, c), (0, s), (9, 0), (9, 0), (9, 0)] [] μ := by
  intro n
  induction n using Nat.strongRecOn with
  | ind n ih =>
    intro s μ hn S hs hS hR hfr hT
    have h6 : μ 205 6 = (q : Int) := by rw [hfr 205 (by decide)]; exact hsh
    have hpn : 2 ^ q ≤ 4096 := Nat.pow_le_pow_right (by decide) hq12
    have hp0n : 0 < 2 ^ q := Nat.two_pow_pos q
    have hp0 : 0 < 2 ^ q := Nat.two_pow_pos q
    refine pm_blk hK zmm170 [] 2 89 [(2, 205), (0, a), (0, w), (0, c), (0, s), (9, 0), (9, 0), (9, 0)] [(0, c), (0, s)] μ [] rfl trivial ?_
    refine pm_icmp hK zmm170 .gt 135 224 rfl rfl (fun h0 => ?_) (fun h0 => ?_)
    · have h0 : c < s := h0
      refine pm_hide [4] ?_
      obtain rfl : S = 2 ^ q := by omega
      exact KK _ hR hfr hT
    · have h0 : s ≤ c := h0
      refine pm_blk hK zmm170 [] 2 95 [(2, 205), (0, a), (0, w), (0, c), (0, s), (0, 0), (9, 0), (9, 0)] [] μ [] rfl trivial ?_
      refine zk_r3 hK (μ0 := μ0) hq12 hsh hc hb229 hok ha hs (by omega) (fun μ hR hfr hT => ?_) hbd _ rfl 0 rfl (by omega) hR hfr hT
      refine pm_blk hK zmm170 [] 2 86 [(2, 205), (0, a), (0, w), (0, c), (0, s + 1), (9, 0), (9, 0), (9, 0)] [] μ [pm_in (s + 1)] rfl ⟨pm_in_mk (by omega) (by omega), trivial⟩ ?_
      exact ih _ (by omega) rfl (S + 1) (by omega) (by omega) hR hfr hT
set_option maxRecDepth 100000 in
theorem zk_r5 (hK : zKK ST)  {μ : pm_Mem} {a w c : Int} {q : Nat} (hT : zTJ φ μ) (hq12 : q ≤ 12) (h6 : μ 205 6 = (q : Int)) (hc : c = ((2 ^ q - 1 : Nat) : Int)) {Post : List pm_V → pm_Mem → Prop} (KP : ∀ b, zBr 100000000 (fun z => μ 229 (12 * c + z)) (q : Int) b → Post [(0, if b = -1 ∨ w = 1 then b else μ 229 (12 * c + b))] μ) (hbd : 0 ≤ bud.1 ∧ 0 ≤ bud.2.1) : ∀ (n : Nat) {b u : Int}, (((q : Nat) : Int) - u).toNat = n → ∀ (hu : 0 ≤ u ∧ u ≤ (q : Int)) (hB : zBr 100000000 (fun z => μ 229 (12 * c + z)) u b), zW D Wm ST b0 l Sg zM170 bud (pm_X zM170 Post) 230 [(2, 205), (0, a), (0, w), (0, c), (0, b), (0, u), (9, 0), (9, 0)] [] μ := by
  intro n
  induction n using Nat.strongRecOn with
  | ind n ih =>
    intro b u hn hu hB
    have hpn : 2 ^ q ≤ 4096 := Nat.pow_le_pow_right (by decide) hq12
    have hp0q : 0 < 2 ^ q := Nat.two_pow_pos q
    have hp0 : 0 < 2 ^ q := Nat.two_pow_pos q
    have hbr : b = -1 ∨ (0 ≤ b ∧ b < u) := by
      rcases hB with ⟨q1, -⟩ | ⟨q1, -⟩
      · exact Or.inl q1
      · exact Or.inr q1
    have f1 := zT_get hT zs205_6 (i := 6) (by omega) (by omega)
    refine pm_blk hK zmm170 [] 3 236 [(2, 205), (0, a), (0, w), (0, c), (0, b), (0, u), (9, 0), (9, 0)] [(0, μ 205 6), (0, u)] μ [] rfl trivial ?_
    refine pm_icmp hK zmm170 .ge 52 288 rfl rfl (fun h0 => ?_) (fun h0 => ?_)
    · have h0 : μ 205 6 ≤ u := h0
      refine pm_blk hK zmm170 [] 2 291 [(2, 205), (0, a), (0, w), (0, c), (0, b), (0, u), (9, 0), (9, 0)] [(0, (-1)), (0, b)] μ [] rfl trivial ?_
      refine pm_icmp hK zmm170 .eq 8 299 rfl rfl (fun h1 => ?_) (fun h1 => ?_)
      · have h1 : b = ((-1) : Int) := h1
        refine pm_blk hK zmm170 [] 2 316 [(2, 205), (0, a), (0, w), (0, c), (0, b), (0, u), (9, 0), (9, 0)] [(0, b)] μ [] rfl trivial ?_
        obtain rfl : u = (q : Int) := by omega
        have h9 := KP _ hB
        first
        | (rw [if_pos (by omega)] at h9; exact pm_iret rfl rfl h9)
        | (rw [if_neg (by omega)] at h9; exact pm_iret rfl rfl h9)
        | (exfalso; omega)
      · have h1 : b ≠ ((-1) : Int) := h1
        refine pm_blk hK zmm170 [] 2 296 [(2, 205), (0, a), (0, w), (0, c), (0, b), (0, u), (9, 0), (9, 0)] [(0, 1), (0, w)] μ [] rfl trivial ?_
        refine pm_icmp hK zmm170 .ne 8 304 rfl rfl (fun h2 => ?_) (fun h2 => ?_)
        · have h2 : w ≠ (1 : Int) := h2
          have f2 := zT_get hT zs229_0 (i := (12 * c) + b) (by omega) (by omega)
          refine pm_blk hK zmm170 [] 8 316 [(2, 205), (0, a), (0, w), (0, c), (0, b), (0, u), (9, 0), (9, 0)] [(0, μ 229 ((12 * c) + b))] μ [pm_in (12 * c), pm_in ((12 * c) + b), 0 ≤ (12 * c) + b ∧ (12 * c) + b < 49152] rfl ⟨pm_in_mk (by omega) (by omega), pm_in_mk (by omega) (by omega), ⟨by omega, by omega⟩, trivial⟩ ?_
          obtain rfl : u = (q : Int) := by omega
          have h9 := KP _ hB
          first
          | (rw [if_pos (by omega)] at h9; exact pm_iret rfl rfl h9)
          | (rw [if_neg (by omega)] at h9; exact pm_iret rfl rfl h9)
          | (exfalso; omega)
        · have h2 : w = (1 : Int) := h2
          refine pm_blk hK zmm170 [] 2 316 [(2, 205), (0, a), (0, w), (0, c), (0, b), (0, u), (9, 0), (9, 0)] [(0, b)] μ [] rfl trivial ?_
          obtain rfl : u = (q : Int) := by omega
          have h9 := KP _ hB
          first
          | (rw [if_pos (by omega)] at h9; exact pm_iret rfl rfl h9)
          | (rw [if_neg (by omega)] at h9; exact pm_iret rfl rfl h9)
          | (exfalso; omega)
    · have h0 : u < μ 205 6 := h0
      have f3 := zT_get hT zs229_0 (i := (12 * c) + u) (by omega) (by omega)
      refine pm_blk hK zmm170 [] 10 254 [(2, 205), (0, a), (0, w), (0, c), (0, b), (0, u), (9, 0), (9, 0)] [(0, (-1)), (0, b), (0, μ 229 ((12 * c) + u))] μ [pm_in (12 * c), pm_in ((12 * c) + u), 0 ≤ (12 * c) + u ∧ (12 * c) + u < 49152] rfl ⟨pm_in_mk (by omega) (by omega), pm_in_mk (by omega) (by omega), ⟨by omega, by omega⟩, trivial⟩ ?_
      refine pm_icmp hK zmm170 .ne 9 263 rfl rfl (fun h3 => ?_) (fun h3 => ?_)
      · have h3 : b ≠ ((-1) : Int) := h3
        have f4 := zT_get hT zs229_0 (i := (12 * c) + b) (by omega) (by omega)
        refine pm_blk hK zmm170 [] 8 275 [(2, 205), (0, a), (0, w), (0, c), (0, b), (0, u), (9, 0), (9, 0)] [(0, μ 229 ((12 * c) + b)), (0, μ 229 ((12 * c) + u))] μ [pm_in (12 * c), pm_in ((12 * c) + b), 0 ≤ (12 * c) + b ∧ (12 * c) + b < 49152] rfl ⟨pm_in_mk (by omega) (by omega), pm_in_mk (by omega) (by omega), ⟨by omega, by omega⟩, trivial⟩ ?_
        refine pm_icmp hK zmm170 .ge 7 282 rfl rfl (fun h4 => ?_) (fun h4 => ?_)
        · have h4 : μ 229 ((12 * c) + b) ≤ μ 229 ((12 * c) + u) := h4
          refine pm_blk hK zmm170 [] 2 230 [(2, 205), (0, a), (0, w), (0, c), (0, b), (0, u + 1), (9, 0), (9, 0)] [] μ [pm_in (u + 1)] rfl ⟨pm_in_mk (by omega) (by omega), trivial⟩ ?_
          first
          | exact ih _ (by omega) rfl ⟨by omega, by omega⟩ (zBr_n hB (Or.inl ⟨by omega, by show (100000000 : Int) ≤ μ 229 (12 * c + u); omega⟩))
          | exact ih _ (by omega) rfl ⟨by omega, by omega⟩ (zBr_n hB (Or.inr ⟨by omega, by show μ 229 (12 * c + b) ≤ μ 229 (12 * c + u); omega⟩))
          | exact ih _ (by omega) rfl ⟨by omega, by omega⟩ (zBr_y hu.1 hB (Or.inl ⟨by omega, by show μ 229 (12 * c + u) < 100000000; omega⟩))
          | exact ih _ (by omega) rfl ⟨by omega, by omega⟩ (zBr_y hu.1 hB (Or.inr ⟨by omega, by show μ 229 (12 * c + u) < μ 229 (12 * c + b); omega⟩))
          | (exfalso; omega)
        · have h4 : μ 229 ((12 * c) + u) < μ 229 ((12 * c) + b) := h4
          refine pm_blk hK zmm170 [] 4 230 [(2, 205), (0, a), (0, w), (0, c), (0, u), (0, u + 1), (9, 0), (9, 0)] [] μ [pm_in (u + 1)] rfl ⟨pm_in_mk (by omega) (by omega), trivial⟩ ?_
          first
          | exact ih _ (by omega) rfl ⟨by omega, by omega⟩ (zBr_n hB (Or.inl ⟨by omega, by show (100000000 : Int) ≤ μ 229 (12 * c + u); omega⟩))
          | exact ih _ (by omega) rfl ⟨by omega, by omega⟩ (zBr_n hB (Or.inr ⟨by omega, by show μ 229 (12 * c + b) ≤ μ 229 (12 * c + u); omega⟩))
          | exact ih _ (by omega) rfl ⟨by omega, by omega⟩ (zBr_y hu.1 hB (Or.inl ⟨by omega, by show μ 229 (12 * c + u) < 100000000; omega⟩))
          | exact ih _ (by omega) rfl ⟨by omega, by omega⟩ (zBr_y hu.1 hB (Or.inr ⟨by omega, by show μ 229 (12 * c + u) < μ 229 (12 * c + b); omega⟩))
          | (exfalso; omega)
      · have h3 : b = ((-1) : Int) := h3
        refine pm_blk hK zmm170 [] 2 275 [(2, 205), (0, a), (0, w), (0, c), (0, b), (0, u), (9, 0), (9, 0)] [(0, 100000000), (0, μ 229 ((12 * c) + u))] μ [] rfl trivial ?_
        refine pm_icmp hK zmm170 .ge 7 282 rfl rfl (fun h5 => ?_) (fun h5 => ?_)
        · have h5 : (100000000 : Int) ≤ μ 229 ((12 * c) + u) := h5
          refine pm_blk hK zmm170 [] 2 230 [(2, 205), (0, a), (0, w), (0, c), (0, b), (0, u + 1), (9, 0), (9, 0)] [] μ [pm_in (u + 1)] rfl ⟨pm_in_mk (by omega) (by omega), trivial⟩ ?_
          first
          | exact ih _ (by omega) rfl ⟨by omega, by omega⟩ (zBr_n hB (Or.inl ⟨by omega, by show (100000000 : Int) ≤ μ 229 (12 * c + u); omega⟩))
          | exact ih _ (by omega) rfl ⟨by omega, by omega⟩ (zBr_n hB (Or.inr ⟨by omega, by show μ 229 (12 * c + b) ≤ μ 229 (12 * c + u); omega⟩))
          | exact ih _ (by omega) rfl ⟨by omega, by omega⟩ (zBr_y hu.1 hB (Or.inl ⟨by omega, by show μ 229 (12 * c + u) < 100000000; omega⟩))
          | exact ih _ (by omega) rfl ⟨by omega, by omega⟩ (zBr_y hu.1 hB (Or.inr ⟨by omega, by show μ 229 (12 * c + u) < μ 229 (12 * c + b); omega⟩))
          | (exfalso; omega)
        · have h5 : μ 229 ((12 * c) + u) < (100000000 : Int) := h5
          refine pm_blk hK zmm170 [] 4 230 [(2, 205), (0, a), (0, w), (0, c), (0, u), (0, u + 1), (9, 0), (9, 0)] [] μ [pm_in (u + 1)] rfl ⟨pm_in_mk (by omega) (by omega), trivial⟩ ?_
          first
          | exact ih _ (by omega) rfl ⟨by omega, by omega⟩ (zBr_n hB (Or.inl ⟨by omega, by show (100000000 : Int) ≤ μ 229 (12 * c + u); omega⟩))
          | exact ih _ (by omega) rfl ⟨by omega, by omega⟩ (zBr_n hB (Or.inr ⟨by omega, by show μ 229 (12 * c + b) ≤ μ 229 (12 * c + u); omega⟩))
          | exact ih _ (by omega) rfl ⟨by omega, by omega⟩ (zBr_y hu.1 hB (Or.inl ⟨by omega, by show μ 229 (12 * c + u) < 100000000; omega⟩))
          | exact ih _ (by omega) rfl ⟨by omega, by omega⟩ (zBr_y hu.1 hB (Or.inr ⟨by omega, by show μ 229 (12 * c + u) < μ 229 (12 * c + b); omega⟩))
          | (exfalso; omega)
end ZHW
