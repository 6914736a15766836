/-! the words of the class; walks printed by program (wip/p30/pmgen.py) and filled by hand -/
section ZHW
variable {D : va_G} {Wm : Nat} {ST : List (String × String × String × Nat)} {b0 : sx_B} {l : Launch} {Sg : Nat → Option Nat} {bud : sx_Bu} {μ : pm_Mem} {B0 : Nat → Prop} {J : (Nat → Option Nat) → Heap → Prop}
set_option maxRecDepth 100000 in
theorem zl_iw (hK : zKK ST) {μ : pm_Mem} {w a b : Int} {aW aS : Nat} (hTX : zSTt ST aW aS) (ha : 0 ≤ a ∧ a ≤ 400) (hb : b ≤ 400) (hw : 0 ≤ w ∧ w + (b - a) ≤ 145) (hbd : 4 ≤ bud.1 ∧ 85 ≤ bud.2.1) : ∀ (n : Nat) {k : Int}, (b - k).toNat = n → ∀ (hk : a ≤ k), zW D Wm ST b0 l Sg zM239 bud (pm_X zM239 (fun st' μ' => μ = μ' ∧ ∃ x, st' = [(0, x)] ∧ 0 ≤ x ∧ x ≤ 1)) 3 [(2, 88), (0, w), (0, a), (0, b), (0, k)] [] μ := by
  intro n
  induction n using Nat.strongRecOn with
  | ind n ih =>
    intro k hn hk
    refine pm_blk hK zmm239 [] 2 6 [(2, 88), (0, w), (0, a), (0, b), (0, k)] [(0, b), (0, k)] μ [] rfl trivial ?_
    refine pm_icmp hK zmm239 .ge 32 38 rfl rfl (fun h0 => ?_) (fun h0 => ?_)
    · have h0 : b ≤ k := h0
      refine pm_blk hK zmm239 [] 1 39 [(2, 88), (0, w), (0, a), (0, b), (0, k)] [(0, 1)] μ [] rfl trivial ?_
      exact pm_zret rfl rfl (by first | exact Or.inl rfl | exact Or.inr rfl | omega) ⟨rfl, _, rfl, by omega, by omega⟩
    · have h0 : k < b := h0
      refine zp_ldc hK zmm239 rfl hTX.2.1 rfl rfl ?_
      refine pm_blk hK zmm239 [] 5 17 [(2, 88), (0, w), (0, a), (0, b), (0, k)] [(0, (w + k) - a), (4, (aW : Int))] μ [pm_in (w + k), pm_in ((w + k) - a)] rfl ⟨pm_in_mk (by omega) (by omega), pm_in_mk (by omega) (by omega), trivial⟩ ?_
      refine zp_chr hK zmm239 hTX.1 ⟨_, _, 125, hTX.2.1, rfl⟩ (by rw [zwt_len]; decide) (k := ((w + k) - a)) (v := zwn ((w + k) - a).toNat) (by omega) (by rw [zwt_len]; omega) (fun y hy => zwt_at hy (by omega) (by omega)) rfl zJlr_130 rfl (Nat.le_of_ble_eq_true rfl) ⟨by omega, by omega⟩ ?_
      refine pm_blk hK zmm239 [] 4 27 [(2, 88), (0, w), (0, a), (0, b), (0, k)] [(0, μ 89 k), (0, zwn ((w + k) - a).toNat)] μ [0 ≤ k ∧ k < 400] rfl ⟨⟨by omega, by omega⟩, trivial⟩ ?_
      refine pm_icmp hK zmm239 .eq 5 32 rfl rfl (fun h1 => ?_) (fun h1 => ?_)
      · have h1 : zwn ((w + k) - a).toNat = μ 89 k := h1
        refine pm_blk hK zmm239 [] 2 3 [(2, 88), (0, w), (0, a), (0, b), (0, k + 1)] [] μ [pm_in (k + 1)] rfl ⟨pm_in_mk (by omega) (by omega), trivial⟩ ?_
        exact ih _ (by omega) rfl (by omega)
      · have h1 : zwn ((w + k) - a).toNat ≠ μ 89 k := h1
        refine pm_blk hK zmm239 [] 1 31 [(2, 88), (0, w), (0, a), (0, b), (0, k)] [(0, 0)] μ [] rfl trivial ?_
        exact pm_zret rfl rfl (by first | exact Or.inl rfl | exact Or.inr rfl | omega) ⟨rfl, _, rfl, by omega, by omega⟩
set_option maxRecDepth 100000 in
theorem zh_isWordAt (hK : zKK ST) {w a b : Int} {aW aS : Nat} (hTX : zSTt ST aW aS) (ha : 0 ≤ a ∧ a ≤ 400) (hb : b ≤ 400) (hw : 0 ≤ w ∧ w + (b - a) ≤ 145) (hbd : 4 ≤ bud.1 ∧ 85 ≤ bud.2.1) : zC D Wm ST b0 l Sg zM239 bud [(2, 88), (0, w), (0, a), (0, b)] μ (fun st' μ' => μ = μ' ∧ ∃ x, st' = [(0, x)] ∧ 0 ≤ x ∧ x ≤ 1) := by
  refine pm_blk hK zmm239 [] 2 3 [(2, 88), (0, w), (0, a), (0, b), (0, a)] [] μ [] rfl trivial ?_
  exact zl_iw hK hTX ha hb hw hbd _ rfl (Int.le_refl _)
set_option maxRecDepth 100000 in
theorem zl_wk (hK : zKK ST) {μ : pm_Mem} {a b : Int} {aW aS : Nat} (hTX : zSTt ST aW aS) (ha : 0 ≤ a ∧ a ≤ 399) (hb : 1 ≤ b ∧ b ≤ 400) (hbd : 5 ≤ bud.1 ∧ 109 ≤ bud.2.1) : ∀ (n : Nat) {c g i : Int}, (145 - i).toNat = n → ∀ (hi : 0 ≤ i ∧ i ≤ 145) (hg : 0 ≤ g ∧ g ≤ i) (hc : c = zrw i.toNat), zW D Wm ST b0 l Sg zM238 bud (pm_X zM238 (fun st' μ' => μ = μ' ∧ ∃ x, st' = [(0, x)] ∧ 258 ≤ x ∧ x ≤ 327)) 8 [(2, 88), (0, a), (0, b), (0, c), (0, g), (0, i)] [] μ := by
  intro n
  induction n using Nat.strongRecOn with
  | ind n ih =>
    intro c g i hn hi hg hc
    have zb := zrw_bd i.toNat
    refine pm_blk hK zmm238 [] 1 10 [(2, 88), (0, a), (0, b), (0, c), (0, g), (0, i)] [(0, i)] μ [] rfl trivial ?_
    refine zp_ldc hK zmm238 rfl hTX.2.1 rfl rfl ?_
    refine zp_len hK zmm238 hTX.1 ⟨_, _, 125, hTX.2.1, rfl⟩ zwt_n rfl zJlr_128 rfl (Nat.le_of_ble_eq_true rfl) ⟨by omega, by omega⟩ ?_
    refine pm_icmp hK zmm238 .ge 58 73 rfl rfl (fun h0 => ?_) (fun h0 => ?_)
    · have h0 : (145 : Int) ≤ i := h0
      refine pm_blk hK zmm238 [] 1 76 [(2, 88), (0, a), (0, b), (0, c), (0, g), (0, i)] [(0, 258)] μ [] rfl trivial ?_
      exact pm_iret rfl rfl ⟨rfl, _, rfl, by omega, by omega⟩
    · have h0 : i < (145 : Int) := h0
      refine zp_ldc hK zmm238 rfl hTX.2.1 rfl rfl ?_
      refine pm_blk hK zmm238 [] 1 22 [(2, 88), (0, a), (0, b), (0, c), (0, g), (0, i)] [(0, i), (4, (aW : Int))] μ [] rfl trivial ?_
      refine zp_chr hK zmm238 hTX.1 ⟨_, _, 125, hTX.2.1, rfl⟩ (by rw [zwt_len]; decide) (k := i) (v := zwn i.toNat) (by omega) (by rw [zwt_len]; omega) (fun y hy => zwt_at hy (by omega) (by omega)) rfl zJlr_130 rfl (Nat.le_of_ble_eq_true rfl) ⟨by omega, by omega⟩ ?_
      refine pm_blk hK zmm238 [] 1 27 [(2, 88), (0, a), (0, b), (0, c), (0, g), (0, i)] [(0, 32), (0, zwn i.toNat)] μ [] rfl trivial ?_
      refine pm_icmp hK zmm238 .ne 40 67 rfl rfl (fun h1 => ?_) (fun h1 => ?_)
      · have h1 : zwn i.toNat ≠ (32 : Int) := h1
        refine pm_blk hK zmm238 [] 2 8 [(2, 88), (0, a), (0, b), (0, c), (0, g), (0, i + 1)] [] μ [pm_in (i + 1)] rfl ⟨pm_in_mk (by omega) (by omega), trivial⟩ ?_
        refine ih _ (by omega) rfl ⟨by omega, by omega⟩ ⟨by omega, by omega⟩ ?_
        rw [show (i + 1).toNat = i.toNat + 1 by omega, zrw_s]
        first
        | (rw [if_pos (by assumption)]; omega)
        | (rw [if_neg (by assumption)]; omega)
      · have h1 : zwn i.toNat = (32 : Int) := h1
        have zc := zrw_ck i.toNat (by omega) h1
        refine pm_blk hK zmm238 [] 6 38 [(2, 88), (0, a), (0, b), (0, c), (0, g), (0, i)] [(0, b - a), (0, i - g)] μ [pm_in (i - g), pm_in (b - a)] rfl ⟨pm_in_mk (by omega) (by omega), pm_in_mk (by omega) (by omega), trivial⟩ ?_
        refine pm_icmp hK zmm238 .ne 20 58 rfl rfl (fun h2 => ?_) (fun h2 => ?_)
        · have h2 : i - g ≠ b - a := h2
          refine pm_blk hK zmm238 [] 7 8 [(2, 88), (0, a), (0, b), (0, c + 1), (0, i + 1), (0, i + 1)] [] μ [pm_in (c + 1), pm_in (i + 1), pm_in (i + 1)] rfl ⟨pm_in_mk (by omega) (by omega), pm_in_mk (by omega) (by omega), pm_in_mk (by omega) (by omega), trivial⟩ ?_
          refine ih _ (by omega) rfl ⟨by omega, by omega⟩ ⟨by omega, by omega⟩ ?_
          rw [show (i + 1).toNat = i.toNat + 1 by omega, zrw_s]
          first
          | (rw [if_pos (by assumption)]; omega)
          | (rw [if_neg (by assumption)]; omega)
        · have h2 : i - g = b - a := h2
          refine pm_blk hK zmm238 [] 4 46 [(2, 88), (0, a), (0, b), (0, c), (0, g), (0, i)] [(0, b), (0, a), (0, g), (2, 88)] μ [] rfl trivial ?_
          refine pm_call hK zmm238 (134, 0, 239, 3) zM239 (4, 85) [(2, 88), (0, g), (0, a), (0, b)] [] rfl rfl rfl rfl ⟨by omega, by rw [zn239]; omega⟩ (zh_isWordAt hK hTX (w := g) (a := a) (b := b) ⟨by omega, by omega⟩ (by omega) ⟨by omega, by omega⟩ ⟨Nat.le_refl _, Nat.le_refl _⟩) (fun st1 μc1 hp1 => ?_)
          obtain ⟨rfl, x1, rfl, hx1a, hx1b⟩ := hp1
          refine pm_if hK zmm238 .eq 9 58 rfl rfl (fun h3 => ?_) (fun h3 => ?_)
          · have h3 : x1 = (0 : Int) := h3
            refine pm_blk hK zmm238 [] 7 8 [(2, 88), (0, a), (0, b), (0, c + 1), (0, i + 1), (0, i + 1)] [] μ [pm_in (c + 1), pm_in (i + 1), pm_in (i + 1)] rfl ⟨pm_in_mk (by omega) (by omega), pm_in_mk (by omega) (by omega), pm_in_mk (by omega) (by omega), trivial⟩ ?_
            refine ih _ (by omega) rfl ⟨by omega, by omega⟩ ⟨by omega, by omega⟩ ?_
            rw [show (i + 1).toNat = i.toNat + 1 by omega, zrw_s]
            first
            | (rw [if_pos (by assumption)]; omega)
            | (rw [if_neg (by assumption)]; omega)
          · have h3 : x1 ≠ (0 : Int) := h3
            refine pm_blk hK zmm238 [] 3 57 [(2, 88), (0, a), (0, b), (0, c), (0, g), (0, i)] [(0, 300 + c)] μ [pm_in (300 + c)] rfl ⟨pm_in_mk (by omega) (by omega), trivial⟩ ?_
            exact pm_iret rfl rfl ⟨rfl, _, rfl, by omega, by omega⟩
set_option maxRecDepth 100000 in
theorem zh_wordKind (hK : zKK ST) {a b : Int} {aW aS : Nat} (hTX : zSTt ST aW aS) (ha : 0 ≤ a ∧ a ≤ 399) (hb : 1 ≤ b ∧ b ≤ 400) (hbd : 5 ≤ bud.1 ∧ 109 ≤ bud.2.1) : zC D Wm ST b0 l Sg zM238 bud [(2, 88), (0, a), (0, b)] μ (fun st' μ' => μ = μ' ∧ ∃ x, st' = [(0, x)] ∧ 258 ≤ x ∧ x ≤ 327) := by
  refine pm_blk hK zmm238 [] 6 8 [(2, 88), (0, a), (0, b), (0, 0), (0, 0), (0, 0)] [] μ [] rfl trivial ?_
  exact zl_wk hK hTX ha hb hbd _ rfl ⟨by omega, by omega⟩ ⟨by omega, by omega⟩ rfl
end ZHW
