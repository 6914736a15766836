/-! tramp: the class, asked; walks printed by program (wip/p30/pmgen.py) and filled by hand -/
section ZHW
variable {φ : Option pm_Mem}
variable {D : va_G} {Wm : Nat} {ST : List (String × String × String × Nat)} {b0 : sx_B} {l : Launch} {Sg : Nat → Option Nat} {bud : sx_Bu} {μ : pm_Mem} {B0 : Nat → Prop} {J : (Nat → Option Nat) → Heap → Prop}
set_option maxRecDepth 100000 in
theorem zk_tramp (hK : zKK ST) {a w : Int} {m : Nat} (hT : zTJ φ μ) (hy : 0 ≤ μ 3 0 ∧ μ 3 0 ≤ 12) (hn0 : μ 26 2 = (m : Int)) (hm : m ≤ 16) (hlv0 : zLvs (μ 27) m) (hb199 : sx_bit Wm 199 = true) (hb198 : sx_bit Wm 198 = true) (hb200 : sx_bit Wm 200 = true) (hb201 : sx_bit Wm 201 = true)  (hbd : 5 ≤ bud.1 ∧ 125 ≤ bud.2.1) : zC D Wm ST b0 l Sg zM68 bud [(2, 1), (0, a), (0, w)] μ (fun st' μ' => zTJ φ μ' ∧ (∀ r, r ≠ 198 → r ≠ 199 → r ≠ 200 → r ≠ 201 → μ' r = μ r) ∧ ∃ x, st' = [(0, x)] ∧ ((¬ ((0 ≤ a ∧ a < μ 3 0) ∧ 0 ≤ w ∧ w ≤ 1) ∧ x = -1) ∨ ((0 ≤ a ∧ a < μ 3 0) ∧ (0 ≤ w ∧ w ≤ 1) ∧ ∃ u t, x = (if w = 0 then u else t) ∧ ∃ (f : Int → Int) (M : Nat), (M : Int) + 1 = (μ 3 0) ∧ zFwl 1000000 (zws (zlw (μ 27) m) 1) (μ 3 0) (μ 3 0) f ∧ ∃ V : Int → Int, (∀ s, (0 ≤ s ∧ s < (μ 3 0)) → s ≠ a → zTb 1000000 (zDd f) a (zMc a M (2 ^ M - 1)) s (V s)) ∧ ((M = 0 ∧ u = 0 ∧ t = a) ∨ (0 < M ∧ ∃ fw, zCh1 1000000 a V M fw (t) ∧ u = if 1000000 ≤ fw then -1 else fw))))) := by
  refine pm_blk hK zmm68 [] 4 8 [(2, 1), (0, a), (0, w)] [(0, a), (2, 3)] μ [] rfl trivial ?_
  refine pm_call hK zmm68 (105, 0, 22, 1) zM22 (0, 0) [(2, 3), (0, a)] [] rfl rfl rfl rfl ⟨by omega, by rw [zn22]; omega⟩ (zk_isSh hK ⟨Nat.le_refl _, Nat.le_refl _⟩) (fun st1 μc1 hp1 => ?_)
  obtain ⟨rfl, rfl⟩ := hp1
  refine pm_if hK zmm68 .eq 12 23 rfl rfl (fun h0 => ?_) (fun h0 => ?_)
  · have h0 : (if 0 ≤ a ∧ a < μ 3 0 then 1 else 0 : Int) = (0 : Int) := h0
    have h0 := zif0 h0
    refine pm_blk hK zmm68 [] 1 24 [(2, 1), (0, a), (0, w)] [(0, (-1))] μ [] rfl trivial ?_
    exact pm_iret rfl rfl ⟨hT, fun r _ _ _ _ => rfl, _, rfl, Or.inl ⟨by omega, rfl⟩⟩
  · have h0 : (if 0 ≤ a ∧ a < μ 3 0 then 1 else 0 : Int) ≠ (0 : Int) := h0
    have h0 := zif1 h0
    refine pm_blk hK zmm68 [] 3 17 [(2, 1), (0, a), (0, w)] [(0, 1), (0, 0), (0, w)] μ [] rfl trivial ?_
    refine pm_call hK zmm68 (94, 1, 16, 3) zM16 (0, 0) [(0, w), (0, 0), (0, 1)] [] rfl rfl rfl rfl ⟨by omega, by rw [zn16]; omega⟩ (zh_within hK ⟨Nat.le_refl _, Nat.le_refl _⟩) (fun st2 μc2 hp2 => ?_)
    obtain ⟨rfl, rfl⟩ := hp2
    refine pm_if hK zmm68 .ne 5 25 rfl rfl (fun h1 => ?_) (fun h1 => ?_)
    · have h1 : (if 0 ≤ w ∧ w ≤ 1 then 1 else 0 : Int) ≠ (0 : Int) := h1
      have h1 := zif1 h1
      have f1 := zT_get hT zs3_0 (i := 0) (by omega) (by omega)
      refine pm_blk hK zmm68 [] 10 47 [(2, 1), (0, a), (0, w)] [(0, a), (0, μ 3 0), (2, 26), (2, 198)] μ [] rfl trivial ?_
      refine pm_call hK zmm68 (270, 0, 263, 3) zM263 (4, 99) [(2, 198), (2, 26), (0, μ 3 0), (0, a)] [] rfl rfl rfl rfl ⟨by omega, by rw [zn263]; omega⟩ (zk_walk hK (m := m) hT hy hn0 hm hlv0 hb199 (by omega) hb198 hb200 hb201 ⟨Nat.le_refl _, Nat.le_refl _⟩) (fun st3 μc3 hp3 => ?_)
      obtain ⟨rfl, hTc3, hfw3, hW3⟩ := hp3
      have hfw := hfw3
      have hW := hW3
      refine pm_blk hK zmm68 [] 1 51 [(2, 1), (0, a), (0, w)] [(0, w)] μc3 [] rfl trivial ?_
      refine pm_if hK zmm68 .ne 13 64 rfl rfl (fun h2 => ?_) (fun h2 => ?_)
      · have h2 : w ≠ (0 : Int) := h2
        have f2 := zT_get hTc3 zs198_4 (i := 4) (by omega) (by omega)
        refine pm_blk hK zmm68 [] 3 71 [(2, 1), (0, a), (0, w)] [(0, μc3 198 4)] μc3 [] rfl trivial ?_
        first
        | exact pm_iret rfl rfl ⟨hTc3, hfw, _, rfl, Or.inr ⟨by omega, by omega, _, _, by rw [if_pos (by omega)], hW⟩⟩
        | exact pm_iret rfl rfl ⟨hTc3, hfw, _, rfl, Or.inr ⟨by omega, by omega, _, _, by rw [if_neg (by omega)], hW⟩⟩
        | (exfalso; omega)
      · have h2 : w = (0 : Int) := h2
        have f3 := zT_get hTc3 zs198_3 (i := 3) (by omega) (by omega)
        refine pm_blk hK zmm68 [] 4 71 [(2, 1), (0, a), (0, w)] [(0, μc3 198 3)] μc3 [] rfl trivial ?_
        first
        | exact pm_iret rfl rfl ⟨hTc3, hfw, _, rfl, Or.inr ⟨by omega, by omega, _, _, by rw [if_pos (by omega)], hW⟩⟩
        | exact pm_iret rfl rfl ⟨hTc3, hfw, _, rfl, Or.inr ⟨by omega, by omega, _, _, by rw [if_neg (by omega)], hW⟩⟩
        | (exfalso; omega)
    · have h1 : (if 0 ≤ w ∧ w ≤ 1 then 1 else 0 : Int) = (0 : Int) := h1
      have h1 := zif0 h1
      refine pm_blk hK zmm68 [] 1 24 [(2, 1), (0, a), (0, w)] [(0, (-1))] μ [] rfl trivial ?_
      exact pm_iret rfl rfl ⟨hT, fun r _ _ _ _ => rfl, _, rfl, Or.inl ⟨by omega, rfl⟩⟩
end ZHW
