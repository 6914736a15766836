/-! tramp: the class; walks printed by program (wip/p30/pmgen.py) and filled by hand -/
section ZHW
variable {φ : Option pm_Mem}
variable {D : va_G} {Wm : Nat} {ST : List (String × String × String × Nat)} {b0 : sx_B} {l : Launch} {Sg : Nat → Option Nat} {bud : sx_Bu} {μ : pm_Mem} {B0 : Nat → Prop} {J : (Nat → Option Nat) → Heap → Prop}
set_option maxRecDepth 100000 in
theorem zk_walk (hK : zKK ST) {y a : Int} {m : Nat} (hT : zTJ φ μ) (hy : 0 ≤ y ∧ y ≤ 12) (hn0 : μ 26 2 = (m : Int)) (hm : m ≤ 16) (hlv0 : zLvs (μ 27) m) (hb199 : sx_bit Wm 199 = true) (ha : 0 ≤ a ∧ a < y) (hb198 : sx_bit Wm 198 = true) (hb200 : sx_bit Wm 200 = true) (hb201 : sx_bit Wm 201 = true)  (hbd : 4 ≤ bud.1 ∧ 99 ≤ bud.2.1) : zC D Wm ST b0 l Sg zM263 bud [(2, 198), (2, 26), (0, y), (0, a)] μ (fun st' μ' => st' = [] ∧ zTJ φ μ' ∧ (∀ r, r ≠ 198 → r ≠ 199 → r ≠ 200 → r ≠ 201 → μ' r = μ r) ∧ ∃ (f : Int → Int) (M : Nat), (M : Int) + 1 = y ∧ zFwl 1000000 (zws (zlw (μ 27) m) 1) y y f ∧ ∃ V : Int → Int, (∀ s, (0 ≤ s ∧ s < y) → s ≠ a → zTb 1000000 (zDd f) a (zMc a M (2 ^ M - 1)) s (V s)) ∧ ((M = 0 ∧ μ' 198 3 = 0 ∧ μ' 198 4 = a) ∨ (0 < M ∧ ∃ fw, zCh1 1000000 a V M fw (μ' 198 4) ∧ μ' 198 3 = if 1000000 ≤ fw then -1 else fw))) := by
  refine pm_blk hK zmm263 [] 4 4 [(2, 198), (2, 26), (0, y), (0, a), (9, 0), (9, 0), (9, 0)] [(0, 1), (0, y), (2, 26), (2, 198)] μ [] rfl trivial ?_
  refine pm_call hK zmm263 (54, 0, 69, 3) zM69 (3, 72) [(2, 198), (2, 26), (0, y), (0, 1)] [] rfl rfl rfl rfl ⟨by omega, by rw [zn69]; omega⟩ (zk_measure hK hT ⟨by omega, by omega⟩ hn0 hm hlv0 hb199 ⟨Nat.le_refl _, Nat.le_refl _⟩) (fun st1 μc1 hp1 => ?_)
  obtain ⟨rfl, hTc1, hs1, hF1⟩ := hp1
  have hs := hs1
  have hF := hF1
  refine pm_blk hK zmm263 [] 4 13 [(2, 198), (2, 26), (0, y), (0, a), (0, 0), (0, 0), (9, 0)] [] μc1 [] rfl trivial ?_
  refine zk_t1 hK (μ0 := μc1) hy ha hb200 (fun M μ2 hM1 hfr2 hoth hT2 => ?_) ⟨by omega, by omega⟩ _ rfl 0 rfl ⟨by omega, by omega⟩ (by rw [if_pos ha.1]) (fun _ _ => rfl) (fun i hi => absurd hi (by omega)) hTc1
  refine pm_blk hK zmm263 [] 2 53 [(2, 198), (2, 26), (0, y), (0, a), (0, (M : Int)), (0, 1), (9, 0)] [] μ2 [] rfl trivial ?_
  have hM11 : M ≤ 11 := by omega
  have hok : zFok 1000000 y (μ2 199) := by
    rw [hfr2 199 (by decide)]
    obtain ⟨n, rfl⟩ : ∃ n : Nat, y = (n : Int) := ⟨y.toNat, by omega⟩
    exact zFok_of (fun a b => (zws_bd (fun a b => zlw_bd hlv0) 1 a b).2) (by omega) (by decide) hF
  refine zk_t2 hK (μ0 := μ2) rfl hM11 ha (by omega) hoth hok (by omega) hb201 (fun μ3 hC hfr3 hT3 => ?_) ⟨by omega, by omega⟩ _ rfl 1 rfl (by decide) (Nat.two_pow_pos M) (fun S l h1 h2 => absurd h2 (by omega)) (fun _ _ => rfl) hT2
  refine pm_blk hK zmm263 [] 3 123 [(2, 198), (2, 26), (0, y), (0, a), (0, (M : Int)), (9, 0), (9, 0)] [(0, a), (0, (M : Int)), (2, 198)] μ3 [] rfl trivial ?_
  refine pm_call hK zmm263 (65, 0, 266, 2) zM266 (0, 0) [(2, 198), (0, (M : Int)), (0, a)] [] rfl rfl rfl rfl ⟨by omega, by rw [zn266]; omega⟩ (zk_choose hK (N := ((M : Int))) (a := a) (M := M) hT3 rfl hM11 ⟨by omega, by omega⟩ (by rw [hfr3 200 (by decide)]; exact hoth) hb198 ⟨Nat.le_refl _, Nat.le_refl _⟩) (fun stz1 μcz1 hpz1 => ?_)
  obtain ⟨rfl, hTcz1, huz1, hrz1⟩ := hpz1
  have hu := huz1
  have hr := hrz1
  refine pm_vret rfl rfl ⟨rfl, hTcz1, fun r r0 r1 r2 r3 => by rw [hu.1 r r0, hfr3 r r3, hfr2 r r2, hs r r1], μ2 199, M, hM1, by rw [hfr2 199 (by decide)]; exact hF, (fun s => μ3 201 (((2 ^ M - 1 : Nat) : Int) * 11 + (if s < a then s else s - 1))), fun s hs2 hsa => ?_, hr⟩
  obtain ⟨i, i1, rfl⟩ := zoth_sur (N := M) ha.1 (by omega) hsa (by omega)
  have hp0 : 0 < 2 ^ M := Nat.two_pow_pos M
  have h9 := hC (2 ^ M - 1) i (by have := Nat.pow_le_pow_right (n := 2) (by decide) (show 1 ≤ M by omega); omega) (by omega) i1 (by rw [Nat.testBit_two_pow_sub_one]; exact decide_eq_true i1)
  have hov : (if zoth a i < a then zoth a i else zoth a i - 1) = (i : Int) := by
    unfold zoth
    by_cases h9 : (i : Int) < a
    · rw [if_pos h9, if_pos h9]
    · rw [if_neg h9, if_neg (by omega)]
      omega
  show zTb _ _ _ _ _ (μ3 201 (((2 ^ M - 1 : Nat) : Int) * 11 + (if zoth a i < a then zoth a i else zoth a i - 1)))
  rw [hov]
  exact h9
end ZHW
