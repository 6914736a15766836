/-! how wide: the reference; walks printed by program (wip/p30/pmgen.py) and filled by hand -/
section ZHW
variable {φ : Option pm_Mem}
variable {D : va_G} {Wm : Nat} {ST : List (String × String × String × Nat)} {b0 : sx_B} {l : Launch} {Sg : Nat → Option Nat} {bud : sx_Bu} {μ : pm_Mem} {B0 : Nat → Prop} {J : (Nat → Option Nat) → Heap → Prop}
set_option maxRecDepth 100000 in
theorem zk_v1 (hK : zKK ST) {X : Nat → List pm_V → List pm_V → pm_Mem → Prop} {μ : pm_Mem} {y a : Int} {w : Int → Int → Int} (hF : zBf w y a y.toNat (μ 243)) (hy6 : μ 205 6 = y) (hy : 0 ≤ y ∧ y ≤ 12) (ha : 0 ≤ a ∧ a < y) (KK : ∀ (f : Int), zmo (zDs 100000000 w y) y a y f → zW D Wm ST b0 l Sg zM199 bud X 56 [(2, 205), (0, f), (0, a), (9, 0)] [] μ) (hbd : 1 ≤ bud.1 ∧ 22 ≤ bud.2.1) : ∀ (n : Nat) {f b : Int}, (y - b).toNat = n → ∀ (hb : 0 ≤ b ∧ b ≤ y) (hf : zmo (zDs 100000000 w y) y a b f), zW D Wm ST b0 l Sg zM199 bud X 30 [(2, 205), (0, f), (0, a), (0, b)] [] μ := by
  intro n
  induction n using Nat.strongRecOn with
  | ind n ih =>
    intro f b hn hb hf
    refine pm_blk hK zmm199 [] 3 35 [(2, 205), (0, f), (0, a), (0, b)] [(0, μ 205 6), (0, b)] μ [] rfl trivial ?_
    refine pm_icmp hK zmm199 .ge 21 56 rfl rfl (fun h0 => ?_) (fun h0 => ?_)
    · have h0 : μ 205 6 ≤ b := h0
      refine pm_hide [3] ?_
      obtain rfl : b = y := by omega
      exact KK _ hf
    · have h0 : b < μ 205 6 := h0
      refine pm_blk hK zmm199 [] 6 46 [(2, 205), (0, f), (0, a), (0, b)] [(0, μ 243 b), (0, f), (2, 205)] μ [0 ≤ b ∧ b < 12] rfl ⟨⟨by omega, by omega⟩, trivial⟩ ?_
      refine pm_call hK zmm199 (448, 0, 176, 2) zM176 (0, 0) [(2, 205), (0, f), (0, μ 243 b)] [] rfl rfl rfl rfl ⟨by omega, by rw [zn176]; omega⟩ (zk_grea hK ⟨Nat.le_refl _, Nat.le_refl _⟩) (fun st1 μc1 hp1 => ?_)
      obtain ⟨rfl, rfl⟩ := hp1
      refine pm_blk hK zmm199 [] 3 30 [(2, 205), (0, max f (μ 243 b)), (0, a), (0, b + 1)] [] μ [pm_in (b + 1)] rfl ⟨pm_in_mk (by omega) (by omega), trivial⟩ ?_
      exact ih _ (by omega) rfl ⟨by omega, by omega⟩ (zmo_step (zBf_ds (N := y.toNat) (by omega) ha hF ⟨by omega, by omega⟩) ha ⟨by omega, by omega⟩ hf)
set_option maxRecDepth 100000 in
theorem zk_v2 (hK : zKK ST)  {μ0 : pm_Mem} {y : Int} {w : Int → Int → Int} (hy : 0 ≤ y ∧ y ≤ 12) (hy0 : μ0 205 6 = y) (hb243 : sx_bit Wm 243 = true) (hst : ∀ p q : Int, (0 ≤ p ∧ p < y) → (0 ≤ q ∧ q < y) → (w p q = 1 ∧ 0 < μ0 223 (12 * p + q)) ∨ (w p q = 0 ∧ ¬ 0 < μ0 223 (12 * p + q))) {Post : List pm_V → pm_Mem → Prop} (KP : ∀ (f : Int) (μ : pm_Mem), zTJ φ μ → (∀ r, r ≠ 243 → μ r = μ0 r) → zmo (zDs 100000000 w y) y y 0 f → Post [(0, if 100000000 ≤ f then -1 else f)] μ) (hbd : 2 ≤ bud.1 ∧ 46 ≤ bud.2.1) : ∀ (n : Nat) {f a : Int} {μ : pm_Mem}, (y - a).toNat = n → ∀ (ha : 0 ≤ a ∧ a ≤ y) (hs : ∀ r, r ≠ 243 → μ r = μ0 r) (hf : zmo (zDs 100000000 w y) y a 0 f) (hT : zTJ φ μ), zW D Wm ST b0 l Sg zM199 bud (pm_X zM199 Post) 15 [(2, 205), (0, f), (0, a), (9, 0)] [] μ := by
  intro n
  induction n using Nat.strongRecOn with
  | ind n ih =>
    intro f a μ hn ha hs hf hT
    have hy6 : μ 205 6 = y := by rw [hs 205 (by decide)]; exact hy0
    have hst2 : ∀ p q : Int, (0 ≤ p ∧ p < y) → (0 ≤ q ∧ q < y) → (w p q = 1 ∧ 0 < μ 223 (12 * p + q)) ∨ (w p q = 0 ∧ ¬ 0 < μ 223 (12 * p + q)) := by rw [hs 223 (by decide)]; exact hst
    have f1 := zT_get hT zs205_6 (i := 6) (by omega) (by omega)
    refine pm_blk hK zmm199 [] 3 20 [(2, 205), (0, f), (0, a), (9, 0)] [(0, μ 205 6), (0, a)] μ [] rfl trivial ?_
    refine pm_icmp hK zmm199 .ge 42 62 rfl rfl (fun h0 => ?_) (fun h0 => ?_)
    · have h0 : μ 205 6 ≤ a := h0
      refine pm_blk hK zmm199 [] 2 66 [(2, 205), (0, f), (0, a), (9, 0)] [(0, 100000000), (0, f)] μ [] rfl trivial ?_
      refine pm_icmp hK zmm199 .lt 7 73 rfl rfl (fun h1 => ?_) (fun h1 => ?_)
      · have h1 : f < (100000000 : Int) := h1
        refine pm_blk hK zmm199 [] 1 74 [(2, 205), (0, f), (0, a), (9, 0)] [(0, f)] μ [] rfl trivial ?_
        obtain rfl : a = y := by omega
        have h9 := KP _ _ hT hs hf
        first
        | (rw [if_pos (by omega)] at h9; exact pm_iret rfl rfl h9)
        | (rw [if_neg (by omega)] at h9; exact pm_iret rfl rfl h9)
        | (exfalso; omega)
      · have h1 : (100000000 : Int) ≤ f := h1
        refine pm_blk hK zmm199 [] 2 74 [(2, 205), (0, f), (0, a), (9, 0)] [(0, (-1))] μ [] rfl trivial ?_
        obtain rfl : a = y := by omega
        have h9 := KP _ _ hT hs hf
        first
        | (rw [if_pos (by omega)] at h9; exact pm_iret rfl rfl h9)
        | (rw [if_neg (by omega)] at h9; exact pm_iret rfl rfl h9)
        | (exfalso; omega)
    · have h0 : a < μ 205 6 := h0
      refine pm_blk hK zmm199 [] 2 25 [(2, 205), (0, f), (0, a), (9, 0)] [(0, a), (2, 205)] μ [] rfl trivial ?_
      refine pm_call hK zmm199 (504, 0, 322, 1) zM322 (1, 22) [(2, 205), (0, a)] [] rfl rfl rfl rfl ⟨by omega, by rw [zn322]; omega⟩ (zk_findsC hK hT hy hy6 hb243 hst2 ⟨Nat.le_refl _, Nat.le_refl _⟩) (fun st1 μc1 hp1 => ?_)
      obtain ⟨rfl, hTc1, hs1, hB1⟩ := hp1
      have hsc := hs1
      have hBc := hB1
      refine pm_blk hK zmm199 [] 2 30 [(2, 205), (0, f), (0, a), (0, 0)] [] μc1 [] rfl trivial ?_
      refine zk_v1 hK hBc (by rw [hsc 205 (by decide)]; exact hy6) hy ⟨by omega, by omega⟩ (fun f hf => ?_) ⟨by omega, by omega⟩ _ rfl ⟨by omega, by omega⟩ hf
      refine pm_blk hK zmm199 [] 2 15 [(2, 205), (0, f), (0, a + 1), (9, 0)] [] μc1 [pm_in (a + 1)] rfl ⟨pm_in_mk (by omega) (by omega), trivial⟩ ?_
      exact ih _ (by omega) rfl ⟨by omega, by omega⟩ (fun r hr => by rw [hsc r hr]; exact hs r hr) (zmo_row hf) hTc1
set_option maxRecDepth 100000 in
theorem zk_wideR (hK : zKK ST) {y : Int} {w : Int → Int → Int} (hT : zTJ φ μ) (hy : 0 ≤ y ∧ y ≤ 12) (hy0 : μ 205 6 = y) (hb243 : sx_bit Wm 243 = true) (hst : ∀ p q : Int, (0 ≤ p ∧ p < y) → (0 ≤ q ∧ q < y) → (w p q = 1 ∧ 0 < μ 223 (12 * p + q)) ∨ (w p q = 0 ∧ ¬ 0 < μ 223 (12 * p + q)))  (hbd : 2 ≤ bud.1 ∧ 46 ≤ bud.2.1) : zC D Wm ST b0 l Sg zM199 bud [(2, 205)] μ (fun st' μ' => ∃ f, st' = [(0, if 100000000 ≤ f then -1 else f)] ∧ zTJ φ μ' ∧ (∀ r, r ≠ 243 → μ' r = μ r) ∧ zmo (zDs 100000000 w y) y y 0 f) := by
  have f1 := zT_get hT zs205_6 (i := 6) (by omega) (by omega)
  refine pm_blk hK zmm199 [] 2 4 [(2, 205), (9, 0), (9, 0), (9, 0)] [(0, μ 205 6)] μ [] rfl trivial ?_
  refine pm_if hK zmm199 .ne 7 11 rfl rfl (fun h0 => ?_) (fun h0 => ?_)
  · have h0 : μ 205 6 ≠ (0 : Int) := h0
    refine pm_blk hK zmm199 [] 4 15 [(2, 205), (0, 0), (0, 0), (9, 0)] [] μ [] rfl trivial ?_
    first
    | exact zk_v2 hK (μ0 := μ) hy hy0 hb243 hst (fun f μ2 h1 h2 h3 => ⟨f, rfl, h1, h2, h3⟩) ⟨by omega, by omega⟩ _ rfl ⟨by omega, by omega⟩ (fun _ _ => rfl) zmo_0 hT
    | exact zk_v2 hK (μ0 := μ) hy hy0 hb243 hst (fun f μ2 h1 h2 h3 => ⟨f, rfl, h1, h2, h3⟩) ⟨by omega, by omega⟩ _ rfl ⟨by omega, by omega⟩ (fun _ _ => rfl) (zmo_00 (by omega) (by decide)) hT
    | (exfalso; omega)
  · have h0 : μ 205 6 = (0 : Int) := h0
    refine pm_blk hK zmm199 [] 5 15 [(2, 205), (0, (-1)), (0, 0), (9, 0)] [] μ [] rfl trivial ?_
    first
    | exact zk_v2 hK (μ0 := μ) hy hy0 hb243 hst (fun f μ2 h1 h2 h3 => ⟨f, rfl, h1, h2, h3⟩) ⟨by omega, by omega⟩ _ rfl ⟨by omega, by omega⟩ (fun _ _ => rfl) zmo_0 hT
    | exact zk_v2 hK (μ0 := μ) hy hy0 hb243 hst (fun f μ2 h1 h2 h3 => ⟨f, rfl, h1, h2, h3⟩) ⟨by omega, by omega⟩ _ rfl ⟨by omega, by omega⟩ (fun _ _ => rfl) (zmo_00 (by omega) (by decide)) hT
    | (exfalso; omega)
end ZHW
