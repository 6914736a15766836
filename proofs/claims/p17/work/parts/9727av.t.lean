/-! knows: the reference; walks printed by program (wip/p30/pmgen.py) and filled by hand -/
section ZHW
variable {φ : Option pm_Mem}
variable {D : va_G} {Wm : Nat} {ST : List (String × String × String × Nat)} {b0 : sx_B} {l : Launch} {Sg : Nat → Option Nat} {bud : sx_Bu} {μ : pm_Mem} {B0 : Nat → Prop} {J : (Nat → Option Nat) → Heap → Prop}
set_option maxRecDepth 100000 in
theorem zk_k1 (hK : zKK ST)  {μ : pm_Mem} {y a k : Int} {Post : List pm_V → pm_Mem → Prop} (hT : zTJ φ μ) (hy6 : μ 205 6 = y) (hy : 0 ≤ y ∧ y ≤ 12) (KP : Post [(0, zcnt (μ 243) k y.toNat)] μ) (hbd : 0 ≤ bud.1 ∧ 0 ≤ bud.2.1) : ∀ (n : Nat) {f s : Int}, (y - s).toNat = n → ∀ (hs0 : 0 ≤ s ∧ s ≤ y) (hf : f = zcnt (μ 243) k s.toNat), zW D Wm ST b0 l Sg zM198 bud (pm_X zM198 Post) 46 [(2, 205), (0, a), (0, k), (0, f), (0, s)] [] μ := by
  intro n
  induction n using Nat.strongRecOn with
  | ind n ih =>
    intro f s hn hs0 hf
    have hz := zcnt_bd (f := μ 243) (k := k) s.toNat
    have f1 := zT_get hT zs205_6 (i := 6) (by omega) (by omega)
    refine pm_blk hK zmm198 [] 3 52 [(2, 205), (0, a), (0, k), (0, f), (0, s)] [(0, μ 205 6), (0, s)] μ [] rfl trivial ?_
    refine pm_icmp hK zmm198 .ge 24 76 rfl rfl (fun h0 => ?_) (fun h0 => ?_)
    · have h0 : μ 205 6 ≤ s := h0
      refine pm_blk hK zmm198 [] 1 77 [(2, 205), (0, a), (0, k), (0, f), (0, s)] [(0, f)] μ [] rfl trivial ?_
      obtain rfl : s = y := by omega
      subst hf
      exact pm_iret rfl rfl KP
    · have h0 : s < μ 205 6 := h0
      have f2 := zT_get hT zs243_0 (i := s) (by omega) (by omega)
      refine pm_blk hK zmm198 [] 5 63 [(2, 205), (0, a), (0, k), (0, f), (0, s)] [(0, k), (0, μ 243 s)] μ [0 ≤ s ∧ s < 12] rfl ⟨⟨by omega, by omega⟩, trivial⟩ ?_
      refine pm_icmp hK zmm198 .ne 7 70 rfl rfl (fun h1 => ?_) (fun h1 => ?_)
      · have h1 : μ 243 s ≠ k := h1
        have e1 : (s + 1).toNat = s.toNat + 1 := by omega
        have ei : ((s.toNat : Nat) : Int) = s := by omega
        refine pm_blk hK zmm198 [] 2 46 [(2, 205), (0, a), (0, k), (0, f), (0, s + 1)] [] μ [pm_in (s + 1)] rfl ⟨pm_in_mk (by omega) (by omega), trivial⟩ ?_
        refine ih _ (by omega) rfl ⟨by omega, by omega⟩ ?_
        rw [show (s + 1).toNat = s.toNat + 1 by omega, zcnt_s, show ((s.toNat : Nat) : Int) = s by omega]
        split <;> omega
      · have h1 : μ 243 s = k := h1
        refine pm_blk hK zmm198 [] 4 70 [(2, 205), (0, a), (0, k), (0, f + 1), (0, s)] [] μ [pm_in (f + 1)] rfl ⟨pm_in_mk (by omega) (by omega), trivial⟩ ?_
        have e1 : (s + 1).toNat = s.toNat + 1 := by omega
        have ei : ((s.toNat : Nat) : Int) = s := by omega
        refine pm_blk hK zmm198 [] 2 46 [(2, 205), (0, a), (0, k), (0, f + 1), (0, s + 1)] [] μ [pm_in (s + 1)] rfl ⟨pm_in_mk (by omega) (by omega), trivial⟩ ?_
        refine ih _ (by omega) rfl ⟨by omega, by omega⟩ ?_
        rw [show (s + 1).toNat = s.toNat + 1 by omega, zcnt_s, show ((s.toNat : Nat) : Int) = s by omega]
        split <;> omega
set_option maxRecDepth 100000 in
theorem zk_isShR (hK : zKK ST) {s : Int} (hbd : 0 ≤ bud.1 ∧ 0 ≤ bud.2.1) : zC D Wm ST b0 l Sg zM132 bud [(2, 205), (0, s)] μ (fun st' μ' => μ = μ' ∧ st' = [(0, if 0 ≤ s ∧ s < μ 205 6 then 1 else 0)]) := by
  refine pm_blk hK zmm132 [] 1 1 [(2, 205), (0, s)] [(0, s)] μ [] rfl trivial ?_
  refine pm_if hK zmm132 .lt 15 16 rfl rfl (fun h0 => ?_) (fun h0 => ?_)
  · have h0 : s < (0 : Int) := h0
    refine pm_blk hK zmm132 [] 1 17 [(2, 205), (0, s)] [(0, 0)] μ [] rfl trivial ?_
    exact pm_zret rfl rfl (by first | exact Or.inl rfl | exact Or.inr rfl | omega) ⟨rfl, by first | rw [if_pos (by omega)] | rw [if_neg (by omega)]⟩
  · have h0 : (0 : Int) ≤ s := h0
    refine pm_blk hK zmm132 [] 3 9 [(2, 205), (0, s)] [(0, μ 205 6), (0, s)] μ [] rfl trivial ?_
    refine pm_icmp hK zmm132 .ge 7 16 rfl rfl (fun h1 => ?_) (fun h1 => ?_)
    · have h1 : μ 205 6 ≤ s := h1
      refine pm_blk hK zmm132 [] 1 17 [(2, 205), (0, s)] [(0, 0)] μ [] rfl trivial ?_
      exact pm_zret rfl rfl (by first | exact Or.inl rfl | exact Or.inr rfl | omega) ⟨rfl, by first | rw [if_pos (by omega)] | rw [if_neg (by omega)]⟩
    · have h1 : s < μ 205 6 := h1
      refine pm_blk hK zmm132 [] 2 17 [(2, 205), (0, s)] [(0, 1)] μ [] rfl trivial ?_
      exact pm_zret rfl rfl (by first | exact Or.inl rfl | exact Or.inr rfl | omega) ⟨rfl, by first | rw [if_pos (by omega)] | rw [if_neg (by omega)]⟩
set_option maxRecDepth 100000 in
theorem zk_knowsR (hK : zKK ST) {a k : Int} {y : Int} {w : Int → Int → Int} (hT : zTJ φ μ) (hy : 0 ≤ y ∧ y ≤ 12) (hy0 : μ 205 6 = y) (hb243 : sx_bit Wm 243 = true) (hst : ∀ p q : Int, (0 ≤ p ∧ p < y) → (0 ≤ q ∧ q < y) → (w p q = 1 ∧ 0 < μ 223 (12 * p + q)) ∨ (w p q = 0 ∧ ¬ 0 < μ 223 (12 * p + q)))  (hb205 : sx_bit Wm 205 = true) (hbd : 3 ≤ bud.1 ∧ 69 ≤ bud.2.1) : zC D Wm ST b0 l Sg zM198 bud [(2, 205), (0, a), (0, k)] μ (fun st' μ' => zTJ φ μ' ∧ (∀ r, r ≠ 205 → r ≠ 243 → μ' r = μ r) ∧ (∀ k : Int, k ≠ 0 → μ' 205 k = μ 205 k) ∧ ∃ x, st' = [(0, x)] ∧ ((a = -1 ∧ ∃ f, x = (if 100000000 ≤ f then -1 else f) ∧ zmo (zDs 100000000 w y) y y 0 f) ∨ (a ≠ -1 ∧ ¬ ((0 ≤ a ∧ a < y) ∧ 0 ≤ k ∧ k ≤ 11) ∧ x = -1) ∨ (a ≠ -1 ∧ (0 ≤ a ∧ a < y) ∧ (0 ≤ k ∧ k ≤ 11) ∧ ∃ g, zBf w y a y.toNat g ∧ x = zcnt g k y.toNat))) := by
  refine pm_blk hK zmm198 [] 3 5 [(2, 205), (0, a), (0, k), (9, 0), (9, 0)] [] (pm_up μ 205 0 0) [sx_bit Wm 205 = true] rfl ⟨hb205, trivial⟩ ?_
  obtain ⟨μ1, eμ1⟩ : ∃ μ', μ' = pm_up μ 205 0 0 := ⟨_, rfl⟩
  rw [← eμ1]
  have hTμ1 : zTJ φ μ1 := by rw [eμ1]; exact zT_up hT zs205_0 rfl (i := 0) (by omega) (by omega) (by omega) (by omega)
  have hy1 : μ1 205 6 = y := by rw [eμ1, pm_up_ne (by decide)]; exact hy0
  have hst1 : ∀ p q : Int, (0 ≤ p ∧ p < y) → (0 ≤ q ∧ q < y) → (w p q = 1 ∧ 0 < μ1 223 (12 * p + q)) ∨ (w p q = 0 ∧ ¬ 0 < μ1 223 (12 * p + q)) := by rw [eμ1, pm_up_row (by decide)]; exact hst
  have hs1 : ∀ r, r ≠ 205 → μ1 r = μ r := fun r hr => by rw [eμ1, pm_up_row hr]
  have h05 : ∀ k : Int, k ≠ 0 → μ1 205 k = μ 205 k := fun k hk => by rw [eμ1, pm_up_ne hk]
  refine pm_blk hK zmm198 [] 2 7 [(2, 205), (0, a), (0, k), (9, 0), (9, 0)] [(0, (-1)), (0, a)] μ1 [] rfl trivial ?_
  refine pm_icmp hK zmm198 .ne 8 15 rfl rfl (fun h0 => ?_) (fun h0 => ?_)
  · have h0 : a ≠ ((-1) : Int) := h0
    refine pm_blk hK zmm198 [] 2 17 [(2, 205), (0, a), (0, k), (9, 0), (9, 0)] [(0, a), (2, 205)] μ1 [] rfl trivial ?_
    refine pm_call hK zmm198 (162, 0, 132, 1) zM132 (0, 0) [(2, 205), (0, a)] [] rfl rfl rfl rfl ⟨by omega, by rw [zn132]; omega⟩ (zk_isShR hK ⟨Nat.le_refl _, Nat.le_refl _⟩) (fun st1 μc1 hp1 => ?_)
    obtain ⟨rfl, rfl⟩ := hp1
    refine pm_if hK zmm198 .eq 14 34 rfl rfl (fun h1 => ?_) (fun h1 => ?_)
    · have h1 : (if 0 ≤ a ∧ a < μ1 205 6 then 1 else 0 : Int) = (0 : Int) := h1
      have h1 := zif0 h1
      refine pm_blk hK zmm198 [] 1 35 [(2, 205), (0, a), (0, k), (9, 0), (9, 0)] [(0, (-1))] μ1 [] rfl trivial ?_
      exact pm_iret rfl rfl ⟨hTμ1, (fun r r0 r1 => by first | exact hs1 r r0 | (rw [hsw r r1]; exact hs1 r r0)), (fun k k0 => by first | exact h05 k k0 | (rw [hsw 205 (by decide)]; exact h05 k k0)), _, rfl, Or.inr (Or.inl ⟨by omega, by omega, rfl⟩)⟩
    · have h1 : (if 0 ≤ a ∧ a < μ1 205 6 then 1 else 0 : Int) ≠ (0 : Int) := h1
      have h1 := zif1 h1
      refine pm_blk hK zmm198 [] 4 28 [(2, 205), (0, a), (0, k), (9, 0), (9, 0)] [(0, 11), (0, 0), (0, k), (2, 205)] μ1 [] rfl trivial ?_
      refine pm_call hK zmm198 (158, 0, 129, 3) zM129 (0, 0) [(2, 205), (0, k), (0, 0), (0, 11)] [] rfl rfl rfl rfl ⟨by omega, by rw [zn129]; omega⟩ (zh_isIn hK ⟨by omega, by omega⟩) (fun st2 μc2 hp2 => ?_)
      obtain ⟨rfl, rfl⟩ := hp2
      refine pm_if hK zmm198 .ne 5 36 rfl rfl (fun h2 => ?_) (fun h2 => ?_)
      · have h2 : (if 0 ≤ k ∧ k ≤ 11 then 1 else 0 : Int) ≠ (0 : Int) := h2
        have h2 := zif1 h2
        refine pm_blk hK zmm198 [] 2 38 [(2, 205), (0, a), (0, k), (9, 0), (9, 0)] [(0, a), (2, 205)] μ1 [] rfl trivial ?_
        refine pm_call hK zmm198 (504, 0, 322, 1) zM322 (1, 22) [(2, 205), (0, a)] [] rfl rfl rfl rfl ⟨by omega, by rw [zn322]; omega⟩ (zk_findsC hK hTμ1 hy hy1 hb243 hst1 ⟨Nat.le_refl _, Nat.le_refl _⟩) (fun st3 μc3 hp3 => ?_)
        obtain ⟨rfl, hTc3, hs3, hB3⟩ := hp3
        have hsw := hs3
        have hBw := hB3
        refine pm_blk hK zmm198 [] 4 46 [(2, 205), (0, a), (0, k), (0, 0), (0, 0)] [] μc3 [] rfl trivial ?_
        exact zk_k1 hK hTc3 (by rw [hsw 205 (by decide)]; exact hy1) hy ⟨hTc3, (fun r r0 r1 => by first | exact hs1 r r0 | (rw [hsw r r1]; exact hs1 r r0)), (fun k k0 => by first | exact h05 k k0 | (rw [hsw 205 (by decide)]; exact h05 k k0)), _, rfl, Or.inr (Or.inr ⟨by omega, by omega, by omega, _, hBw, rfl⟩)⟩ ⟨by omega, by omega⟩ _ rfl ⟨by omega, by omega⟩ rfl
      · have h2 : (if 0 ≤ k ∧ k ≤ 11 then 1 else 0 : Int) = (0 : Int) := h2
        have h2 := zif0 h2
        refine pm_blk hK zmm198 [] 1 35 [(2, 205), (0, a), (0, k), (9, 0), (9, 0)] [(0, (-1))] μ1 [] rfl trivial ?_
        exact pm_iret rfl rfl ⟨hTμ1, (fun r r0 r1 => by first | exact hs1 r r0 | (rw [hsw r r1]; exact hs1 r r0)), (fun k k0 => by first | exact h05 k k0 | (rw [hsw 205 (by decide)]; exact h05 k k0)), _, rfl, Or.inr (Or.inl ⟨by omega, by omega, rfl⟩)⟩
  · have h0 : a = ((-1) : Int) := h0
    refine pm_blk hK zmm198 [] 1 11 [(2, 205), (0, a), (0, k), (9, 0), (9, 0)] [(2, 205)] μ1 [] rfl trivial ?_
    refine pm_call hK zmm198 (507, 0, 199, 0) zM199 (2, 46) [(2, 205)] [] rfl rfl rfl rfl ⟨by omega, by rw [zn199]; omega⟩ (zk_wideR hK hTμ1 hy hy1 hb243 hst1 ⟨Nat.le_refl _, Nat.le_refl _⟩) (fun st4 μc4 hp4 => ?_)
    obtain ⟨f4, rfl, hTc4, hs4, hz4⟩ := hp4
    have hsw := hs4
    have hzw := hz4
    exact pm_iret rfl rfl ⟨hTc4, (fun r r0 r1 => by first | exact hs1 r r0 | (rw [hsw r r1]; exact hs1 r r0)), (fun k k0 => by first | exact h05 k k0 | (rw [hsw 205 (by decide)]; exact h05 k k0)), _, rfl, Or.inl ⟨by omega, _, rfl, hzw⟩⟩
end ZHW
