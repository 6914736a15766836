/-! tramp: the reference; walks printed by program (wip/p30/pmgen.py) and filled by hand -/
section ZHW
variable {φ : Option pm_Mem}
variable {D : va_G} {Wm : Nat} {ST : List (String × String × String × Nat)} {b0 : sx_B} {l : Launch} {Sg : Nat → Option Nat} {bud : sx_Bu} {μ : pm_Mem} {B0 : Nat → Prop} {J : (Nat → Option Nat) → Heap → Prop}
set_option maxRecDepth 100000 in
theorem zk_trampR (hK : zKK ST) {a w : Int} {q : Nat} {W : Int → Int → Int} (hT : zTJ φ μ) (hq12 : q ≤ 12) (hy0 : μ 205 6 = (q : Int)) (hWm : ∀ a b : Int, 0 ≤ a → a ≤ 11 → 0 ≤ b → b ≤ 11 → μ 223 (12 * a + b) = W a b) (hWb : ∀ a b, 0 ≤ W a b ∧ W a b ≤ 99) (hb228 : sx_bit Wm 228 = true) (hb229 : sx_bit Wm 229 = true)  (hb205 : sx_bit Wm 205 = true) (hbd : 3 ≤ bud.1 ∧ 69 ≤ bud.2.1) : zC D Wm ST b0 l Sg zM170 bud [(2, 205), (0, a), (0, w)] μ (fun st' μ' => zTJ φ μ' ∧ ((∀ r, r ≠ 205 → r ≠ 228 → r ≠ 229 → μ' r = μ r) ∧ (∀ k : Int, k ≠ 0 → μ' 205 k = μ 205 k)) ∧ ∃ x, st' = [(0, x)] ∧ ((¬ ((0 ≤ a ∧ a < (q : Int)) ∧ 0 ≤ w ∧ w ≤ 1) ∧ x = -1) ∨ ((0 ≤ a ∧ a < (q : Int)) ∧ (0 ≤ w ∧ w ≤ 1) ∧ ∃ f V b, zFwl 100000000 W 12 12 f ∧ (∀ s, (0 ≤ s ∧ s < (q : Int)) → s ≠ a → zTb 100000000 (zDd f) a (zMr2 a (2 ^ q - 1)) s (V s)) ∧ ((q = 1 ∧ b = a ∧ V b = 0) ∨ (1 < q ∧ zBs 100000000 (q : Int) a V b)) ∧ x = if b = -1 ∨ w = 1 then b else V b))) := by
  refine pm_blk hK zmm170 [] 3 5 [(2, 205), (0, a), (0, w), (9, 0), (9, 0), (9, 0), (9, 0), (9, 0)] [] (pm_up μ 205 0 0) [sx_bit Wm 205 = true] rfl ⟨hb205, trivial⟩ ?_
  obtain ⟨μ1, eμ1⟩ : ∃ μ', μ' = pm_up μ 205 0 0 := ⟨_, rfl⟩
  rw [← eμ1]
  have hTμ1 : zTJ φ μ1 := by rw [eμ1]; exact zT_up hT zs205_0 rfl (i := 0) (by omega) (by omega) (by omega) (by omega)
  have hy1 : μ1 205 6 = (q : Int) := by rw [eμ1, pm_up_ne (by decide)]; exact hy0
  have hWm : ∀ a b : Int, 0 ≤ a → a ≤ 11 → 0 ≤ b → b ≤ 11 → μ1 223 (12 * a + b) = W a b := by rw [eμ1, pm_up_row (by decide)]; exact hWm
  have hs1 : ∀ r, r ≠ 205 → μ1 r = μ r := fun r hr => by rw [eμ1, pm_up_row hr]
  have h05 : ∀ k : Int, k ≠ 0 → μ1 205 k = μ 205 k := fun k hk => by rw [eμ1, pm_up_ne hk]
  refine pm_blk hK zmm170 [] 2 7 [(2, 205), (0, a), (0, w), (9, 0), (9, 0), (9, 0), (9, 0), (9, 0)] [(0, a), (2, 205)] μ1 [] rfl trivial ?_
  refine pm_call hK zmm170 (162, 0, 132, 1) zM132 (0, 0) [(2, 205), (0, a)] [] rfl rfl rfl rfl ⟨by omega, by rw [zn132]; omega⟩ (zk_isShR hK ⟨Nat.le_refl _, Nat.le_refl _⟩) (fun st1 μc1 hp1 => ?_)
  obtain ⟨rfl, rfl⟩ := hp1
  refine pm_if hK zmm170 .eq 13 23 rfl rfl (fun h0 => ?_) (fun h0 => ?_)
  · have h0 : (if 0 ≤ a ∧ a < μ1 205 6 then 1 else 0 : Int) = (0 : Int) := h0
    have h0 := zif0 h0
    refine pm_blk hK zmm170 [] 1 24 [(2, 205), (0, a), (0, w), (9, 0), (9, 0), (9, 0), (9, 0), (9, 0)] [(0, (-1))] μ1 [] rfl trivial ?_
    exact pm_iret rfl rfl ⟨hTμ1, ⟨fun r x _ _ => hs1 r x, fun k x => h05 k x⟩, _, rfl, Or.inl ⟨by omega, rfl⟩⟩
  · have h0 : (if 0 ≤ a ∧ a < μ1 205 6 then 1 else 0 : Int) ≠ (0 : Int) := h0
    have h0 := zif1 h0
    refine pm_blk hK zmm170 [] 4 17 [(2, 205), (0, a), (0, w), (9, 0), (9, 0), (9, 0), (9, 0), (9, 0)] [(0, 1), (0, 0), (0, w), (2, 205)] μ1 [] rfl trivial ?_
    refine pm_call hK zmm170 (158, 0, 129, 3) zM129 (0, 0) [(2, 205), (0, w), (0, 0), (0, 1)] [] rfl rfl rfl rfl ⟨by omega, by rw [zn129]; omega⟩ (zh_isIn hK ⟨by omega, by omega⟩) (fun st2 μc2 hp2 => ?_)
    obtain ⟨rfl, rfl⟩ := hp2
    refine pm_if hK zmm170 .ne 5 25 rfl rfl (fun h1 => ?_) (fun h1 => ?_)
    · have h1 : (if 0 ≤ w ∧ w ≤ 1 then 1 else 0 : Int) ≠ (0 : Int) := h1
      have h1 := zif1 h1
      refine pm_blk hK zmm170 [] 1 26 [(2, 205), (0, a), (0, w), (9, 0), (9, 0), (9, 0), (9, 0), (9, 0)] [(2, 205)] μ1 [] rfl trivial ?_
      refine pm_call hK zmm170 (430, 0, 319, 0) zM319 (1, 22) [(2, 205)] [] rfl rfl rfl rfl ⟨by omega, by rw [zn319]; omega⟩ (zk_findsFar hK hTμ1 hWm hWb hb228 ⟨Nat.le_refl _, Nat.le_refl _⟩) (fun st3 μc3 hp3 => ?_)
      obtain ⟨rfl, hTc3, hs3, hF3⟩ := hp3
      have hsf := hs3
      have hFf := hF3
      have hpn : 2 ^ q ≤ 4096 := Nat.pow_le_pow_right (by decide) hq12
      have hp0q : 0 < 2 ^ q := Nat.two_pow_pos q
      have hp0 : 0 < 2 ^ q := Nat.two_pow_pos q
      have h6f : μc3 205 6 = (q : Int) := by rw [hsf 205 (by decide)]; exact hy1
      have hsl := zshl1 q (by omega)
      rw [← h6f] at hsl
      have hcq : (pm_shl 1 (μc3 205 6)) - 1 = ((2 ^ q - 1 : Nat) : Int) := by rw [hsl]; omega
      have f1 := zT_get hTc3 zs205_6 (i := 6) (by omega) (by omega)
      refine pm_blk hK zmm170 [] 9 41 [(2, 205), (0, a), (0, w), (0, (pm_shl 1 (μc3 205 6)) - 1), (0, 0), (9, 0), (9, 0), (9, 0)] [] μc3 [pm_in ((pm_shl 1 (μc3 205 6)) - 1)] rfl ⟨pm_in_mk (by omega) (by omega), trivial⟩ ?_
      refine zk_r1 hK (μ0 := μc3) hq12 h6f (by rw [hsl]; omega) hb229 (fun μ2 hfr hf0 hT2 => ?_) ⟨by omega, by omega⟩ _ rfl ⟨by omega, by omega⟩ (fun _ _ => rfl) (fun y hy => absurd hy (by omega)) hTc3
      have hsa := zshl1 a.toNat (by omega)
      rw [show ((a.toNat : Nat) : Int) = a by omega] at hsa
      have hp0a : 0 < 2 ^ a.toNat := Nat.two_pow_pos _
      have hpa : 2 ^ a.toNat < 2 ^ q := Nat.pow_lt_pow_right (by decide) (by omega)
      refine pm_blk hK zmm170 [] 11 83 [(2, 205), (0, a), (0, w), (0, (pm_shl 1 (μc3 205 6)) - 1), (9, 0), (9, 0), (9, 0), (9, 0)] [] (pm_up μ2 229 ((12 * (pm_shl 1 a)) + a) 0) [pm_in (12 * (pm_shl 1 a)), pm_in ((12 * (pm_shl 1 a)) + a), sx_bit Wm 229 = true, 0 ≤ (12 * (pm_shl 1 a)) + a ∧ (12 * (pm_shl 1 a)) + a < 49152] rfl ⟨pm_in_mk (by omega) (by omega), pm_in_mk (by omega) (by omega), hb229, ⟨by omega, by omega⟩, trivial⟩ ?_
      obtain ⟨μy1, eμy1⟩ : ∃ μ', μ' = pm_up μ2 229 ((12 * (pm_shl 1 a)) + a) 0 := ⟨_, rfl⟩
      rw [← eμy1]
      have hTμy1 : zTJ φ μy1 := by rw [eμy1]; exact zT_up hT2 zs229_0 rfl (i := (12 * (pm_shl 1 a)) + a) (by omega) (by omega) (by omega) (by omega)
      refine pm_blk hK zmm170 [] 2 86 [(2, 205), (0, a), (0, w), (0, (pm_shl 1 (μc3 205 6)) - 1), (0, 1), (9, 0), (9, 0), (9, 0)] [] μy1 [] rfl trivial ?_
      refine zk_r2 hK (μ0 := μc3) hq12 h6f hcq hb229 (zFok_12 hq12 (fun a b => (hWb a b).2) (by decide) hFf) ⟨by omega, by omega⟩ (fun μ3 hR hfr3 hT3 => ?_) ⟨by omega, by omega⟩ _ rfl 1 rfl hp0 (zRv_init (by decide) ⟨by omega, by omega⟩ (fun X s hX hs => ?_)) (fun r hr => by rw [eμy1, pm_up_row hr]; exact hfr r hr) hTμy1
      rotate_left
      · rw [eμy1, pm_up_at, hsa]
        by_cases hXs : X = 2 ^ a.toNat ∧ (s : Int) = a
        · rw [if_pos (by omega), if_pos hXs]
        · rw [if_neg (by omega), if_neg hXs]
          exact hf0 _ ⟨by omega, by omega⟩
      refine pm_blk hK zmm170 [] 4 230 [(2, 205), (0, a), (0, w), (0, (pm_shl 1 (μc3 205 6)) - 1), (0, (-1)), (0, 0), (9, 0), (9, 0)] [] μ3 [] rfl trivial ?_
      exact zk_r5 hK hT3 hq12 (by rw [hfr3 205 (by decide)]; exact h6f) hcq (fun b hB => ⟨hT3, ⟨fun r x y z => by rw [hfr3 r z, hsf r y]; exact hs1 r x, fun k x => by rw [hfr3 205 (by decide), hsf 205 (by decide)]; exact h05 k x⟩, _, rfl, Or.inr ⟨by omega, by omega, zTrR_fin hq12 (fun a b => (hWb a b).2) ⟨by omega, by omega⟩ hFf hcq hR hB⟩⟩) ⟨by omega, by omega⟩ _ rfl ⟨by omega, by omega⟩ zBr_0
    · have h1 : (if 0 ≤ w ∧ w ≤ 1 then 1 else 0 : Int) = (0 : Int) := h1
      have h1 := zif0 h1
      refine pm_blk hK zmm170 [] 1 24 [(2, 205), (0, a), (0, w), (9, 0), (9, 0), (9, 0), (9, 0), (9, 0)] [(0, (-1))] μ1 [] rfl trivial ?_
      exact pm_iret rfl rfl ⟨hTμ1, ⟨fun r x _ _ => hs1 r x, fun k x => h05 k x⟩, _, rfl, Or.inl ⟨by omega, rfl⟩⟩
end ZHW
