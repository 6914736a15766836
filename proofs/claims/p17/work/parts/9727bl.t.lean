/-! tramp: one place of the class table; walks printed by program (wip/p30/pmgen.py) and filled by hand -/
section ZHW
variable {φ : Option pm_Mem}
variable {D : va_G} {Wm : Nat} {ST : List (String × String × String × Nat)} {b0 : sx_B} {l : Launch} {Sg : Nat → Option Nat} {bud : sx_Bu} {μ : pm_Mem} {B0 : Nat → Prop} {J : (Nat → Option Nat) → Heap → Prop}
set_option maxRecDepth 100000 in
theorem zk_ft (hK : zKK ST)  {μ : pm_Mem} {A : Int} {c e N a nn : Int} {S L M : Nat} (hT : zTJ φ μ) (hN : N = (M : Int)) (hM : M ≤ 11) (hl : e = (L : Int)) (hL : L < M) (ha : 0 ≤ a ∧ a < nn) (ha1 : a ≤ 11) (hoth : ∀ i : Nat, i < M → μ 200 (i : Int) = zoth a i) (hok : zFok 1000000 nn (μ 199)) (hMn : (M : Int) + 1 ≤ nn) (hbl : S.testBit L = true) (hS : S < 2 ^ M) (hC : zCb 1000000 (μ 199) (μ 201) a M S) (hA : A = ((S ^^^ 2 ^ L : Nat) : Int)) (hA1 : A ≤ 2047) {Post : List pm_V → pm_Mem → Prop} (KP : ∀ v, zFt 1000000 (μ 199) (μ 201) a M S L M v → Post [(0, v)] μ) (hbd : 2 ≤ bud.1 ∧ 46 ≤ bud.2.1) : ∀ (n : Nat) {v i : Int}, (N - i).toNat = n → ∀ (j : Nat) (hi : i = (j : Int)) (hj : j ≤ M) (hv : zFt 1000000 (μ 199) (μ 201) a M S L j v), zW D Wm ST b0 l Sg zM265 bud (pm_X zM265 Post) 32 [(2, 198), (0, c), (0, e), (0, N), (0, a), (0, A), (0, v), (0, i)] [] μ := by
  intro n
  induction n using Nat.strongRecOn with
  | ind n ih =>
    intro v i hn j hi hj hv
    have hz := zhas (s := A) (k := j) (by omega) (by omega) (by omega)
    rw [← hi, show A.toNat = S ^^^ 2 ^ L by omega] at hz
    have hvb := hv.1
    refine pm_blk hK zmm265 [] 2 35 [(2, 198), (0, c), (0, e), (0, N), (0, a), (0, A), (0, v), (0, i)] [(0, N), (0, i)] μ [] rfl trivial ?_
    refine pm_icmp hK zmm265 .ge 58 93 rfl rfl (fun h0 => ?_) (fun h0 => ?_)
    · have h0 : N ≤ i := h0
      refine pm_blk hK zmm265 [] 1 95 [(2, 198), (0, c), (0, e), (0, N), (0, a), (0, A), (0, v), (0, i)] [(0, v)] μ [] rfl trivial ?_
      obtain rfl : j = M := by omega
      exact pm_iret rfl rfl (KP _ hv)
    · have h0 : i < N := h0
      refine pm_blk hK zmm265 [] 6 46 [(2, 198), (0, c), (0, e), (0, N), (0, a), (0, A), (0, v), (0, i)] [(0, 1), (0, pm_and (pm_shr A i) 1)] μ [] rfl trivial ?_
      refine pm_icmp hK zmm265 .ne 41 87 rfl rfl (fun h1 => ?_) (fun h1 => ?_)
      · have h1 : pm_and (pm_shr A i) 1 ≠ (1 : Int) := h1
        refine pm_blk hK zmm265 [] 2 32 [(2, 198), (0, c), (0, e), (0, N), (0, a), (0, A), (0, v), (0, i + 1)] [] μ [pm_in (i + 1)] rfl ⟨pm_in_mk (by omega) (by omega), trivial⟩ ?_
        first
        | exact ih _ (by omega) rfl (j + 1) (by omega) (by omega) (zFt_no (zbit_n hz h1) hv)
        | (refine ih _ (by omega) rfl (j + 1) (by omega) (by omega) (zFt_y (n := nn) (by decide) hok ha.1 hMn hL (by omega) hbl (zbit_y hz h1) hC hv ?_)
           rw [← hA, ← hoth j (by omega), ← hoth L hL, ← hi, ← hl])
        | (exfalso; omega)
      · have h1 : pm_and (pm_shr A i) 1 = (1 : Int) := h1
        have f1 := zT_get hT zs201_0 (i := (A * 11) + i) (by omega) (by omega)
        have f2 := zT_get hT zs200_0 (i := i) (by omega) (by omega)
        have f3 := zT_get hT zs200_0 (i := e) (by omega) (by omega)
        refine pm_blk hK zmm265 [] 18 78 [(2, 198), (0, c), (0, e), (0, N), (0, a), (0, A), (0, v), (0, i)] [(0, μ 200 e), (0, μ 200 i), (2, 198), (0, μ 201 ((A * 11) + i)), (0, v)] μ [pm_in (A * 11), pm_in ((A * 11) + i), 0 ≤ (A * 11) + i ∧ (A * 11) + i < 22528, 0 ≤ i ∧ i < 11, 0 ≤ e ∧ e < 11] rfl ⟨pm_in_mk (by omega) (by omega), pm_in_mk (by omega) (by omega), ⟨by omega, by omega⟩, ⟨by omega, by omega⟩, ⟨by omega, by omega⟩, trivial⟩ ?_
        refine pm_call hK zmm265 (42, 0, 264, 2) zM264 (1, 22) [(2, 198), (0, μ 200 i), (0, μ 200 e)] [(0, μ 201 ((A * 11) + i)), (0, v)] rfl rfl rfl rfl ⟨by omega, by rw [zn264]; omega⟩ (zk_dist hK (a := (μ 200 i)) (b := (μ 200 e)) ⟨by omega, by omega⟩ ⟨by omega, by omega⟩ ⟨Nat.le_refl _, Nat.le_refl _⟩) (fun st1 μc1 hp1 => ?_)
        obtain ⟨rfl, rfl⟩ := hp1
        have fd1 := zT_get hT zs199_0 (i := (μ 200 i) * 12 + (μ 200 e)) (by omega) (by omega)
        refine pm_blk hK zmm265 [] 1 82 [(2, 198), (0, c), (0, e), (0, N), (0, a), (0, A), (0, v), (0, i)] [(0, (μ 201 ((A * 11) + i)) + (μ 199 ((μ 200 i) * 12 + (μ 200 e)))), (0, v)] μ [pm_in ((μ 201 ((A * 11) + i)) + (μ 199 ((μ 200 i) * 12 + (μ 200 e))))] rfl ⟨pm_in_mk (by omega) (by omega), trivial⟩ ?_
        refine pm_call hK zmm265 (45, 1, 30, 2) zM30 (0, 0) [(0, v), (0, (μ 201 ((A * 11) + i)) + (μ 199 ((μ 200 i) * 12 + (μ 200 e))))] [] rfl rfl rfl rfl ⟨by omega, by rw [zn30]; omega⟩ (zk_min hK ⟨Nat.le_refl _, Nat.le_refl _⟩) (fun st2 μc2 hp2 => ?_)
        obtain ⟨rfl, rfl⟩ := hp2
        refine pm_blk hK zmm265 [] 3 32 [(2, 198), (0, c), (0, e), (0, N), (0, a), (0, A), (0, min v ((μ 201 ((A * 11) + i)) + (μ 199 ((μ 200 i) * 12 + (μ 200 e))))), (0, i + 1)] [] μ [pm_in (i + 1)] rfl ⟨pm_in_mk (by omega) (by omega), trivial⟩ ?_
        first
        | exact ih _ (by omega) rfl (j + 1) (by omega) (by omega) (zFt_no (zbit_n hz h1) hv)
        | (refine ih _ (by omega) rfl (j + 1) (by omega) (by omega) (zFt_y (n := nn) (by decide) hok ha.1 hMn hL (by omega) hbl (zbit_y hz h1) hC hv ?_)
           rw [← hA, ← hoth j (by omega), ← hoth L hL, ← hi, ← hl])
        | (exfalso; omega)
set_option maxRecDepth 100000 in
theorem zk_fewestTo (hK : zKK ST) {c e N a : Int} {nn : Int} {S L M : Nat} (hT : zTJ φ μ) (hN : N = (M : Int)) (hM : M ≤ 11) (hl : e = (L : Int)) (hL : L < M) (ha : 0 ≤ a ∧ a < nn) (ha1 : a ≤ 11) (hoth : ∀ i : Nat, i < M → μ 200 (i : Int) = zoth a i) (hok : zFok 1000000 nn (μ 199)) (hMn : (M : Int) + 1 ≤ nn) (hbl : S.testBit L = true) (hS : S < 2 ^ M) (hC : zCb 1000000 (μ 199) (μ 201) a M S) (hc : c = (S : Int)) (hbd : 2 ≤ bud.1 ∧ 46 ≤ bud.2.1) : zC D Wm ST b0 l Sg zM265 bud [(2, 198), (0, c), (0, e), (0, N), (0, a)] μ (fun st' μ' => μ = μ' ∧ ∃ v, st' = [(0, v)] ∧ zTb 1000000 (zDd (μ 199)) a (zMc a M S) (zoth a L) v) := by
  refine pm_blk hK zmm265 [] 6 7 [(2, 198), (0, c), (0, e), (0, N), (0, a), (0, pm_xor c (pm_shl 1 e)), (9, 0), (9, 0)] [] μ [] rfl trivial ?_
  have hlt := zxor_lt hbl
  have hpM : 2 ^ M ≤ 2048 := Nat.pow_le_pow_right (by decide) hM
  have hp0M : 0 < 2 ^ M := Nat.two_pow_pos M
  have hpL : 2 ^ L < 2048 := Nat.pow_lt_pow_right (n := 11) (by decide) (by omega)
  have hp0L : 0 < 2 ^ L := Nat.two_pow_pos L
  have hsl := zshl1 L (by omega)
  rw [← hl] at hsl
  have hxo : pm_xor c (pm_shl 1 e) = ((S ^^^ 2 ^ L : Nat) : Int) := by rw [hsl, zxor2 (by omega) (by omega) (by omega) (by omega), hc, Int.toNat_natCast, Int.toNat_natCast]
  refine pm_blk hK zmm265 [] 1 9 [(2, 198), (0, c), (0, e), (0, N), (0, a), (0, pm_xor c (pm_shl 1 e)), (9, 0), (9, 0)] [(0, pm_xor c (pm_shl 1 e))] μ [] rfl trivial ?_
  refine pm_if hK zmm265 .ne 16 25 rfl rfl (fun h0 => ?_) (fun h0 => ?_)
  · have h0 : pm_xor c (pm_shl 1 e) ≠ (0 : Int) := h0
    refine pm_blk hK zmm265 [] 4 32 [(2, 198), (0, c), (0, e), (0, N), (0, a), (0, pm_xor c (pm_shl 1 e)), (0, 1000000), (0, 0)] [] μ [] rfl trivial ?_
    exact zk_ft hK hT hN hM hl hL ha ha1 hoth hok hMn hbl hS hC hxo (by omega) (fun v hv => ⟨rfl, _, rfl, zFt_end hok ha.1 hMn hL hbl hS (by omega) hC hv⟩) ⟨by omega, by omega⟩ _ rfl 0 rfl (by omega) (zFt_0 (by decide))
  · have h0 : pm_xor c (pm_shl 1 e) = (0 : Int) := h0
    have f1 := zT_get hT zs200_0 (i := e) (by omega) (by omega)
    refine pm_blk hK zmm265 [] 6 21 [(2, 198), (0, c), (0, e), (0, N), (0, a), (0, pm_xor c (pm_shl 1 e)), (9, 0), (9, 0)] [(0, μ 200 e), (0, a), (2, 198)] μ [0 ≤ e ∧ e < 11] rfl ⟨⟨by omega, by omega⟩, trivial⟩ ?_
    refine pm_call hK zmm265 (42, 0, 264, 2) zM264 (1, 22) [(2, 198), (0, a), (0, μ 200 e)] [] rfl rfl rfl rfl ⟨by omega, by rw [zn264]; omega⟩ (zk_dist hK (a := a) (b := (μ 200 e)) ⟨by omega, by omega⟩ ⟨by omega, by omega⟩ ⟨Nat.le_refl _, Nat.le_refl _⟩) (fun st1 μc1 hp1 => ?_)
    obtain ⟨rfl, rfl⟩ := hp1
    have fd1 := zT_get hT zs199_0 (i := a * 12 + (μ 200 e)) (by omega) (by omega)
    exact pm_iret rfl rfl ⟨rfl, _, rfl, zFt_one (n := nn) (by decide) hok ha hMn hL hbl (by omega) (by rw [← hoth L hL, ← hl])⟩
end ZHW
