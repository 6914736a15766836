/-! THE LAW: read by the class, wholly; walks printed by program (wip/p30/pmgen.py) and filled by hand -/
section ZHW
variable {D : va_G} {Wm : Nat} {ST : List (String × String × String × Nat)} {b0 : sx_B} {l : Launch} {Sg : Nat → Option Nat} {bud : sx_Bu} {μ : pm_Mem} {B0 : Nat → Prop} {J : (Nat → Option Nat) → Heap → Prop}
set_option maxRecDepth 100000 in
theorem zg_reads0 (hK : zKK ST) {aW aS : Nat} (hTX : zSTt ST aW aS) (hT : zTJ none μ) (hb88 : sx_bit Wm 88 = true) (hb90 : sx_bit Wm 90 = true) (hb91 : sx_bit Wm 91 = true) (hb92 : sx_bit Wm 92 = true) (hb93 : sx_bit Wm 93 = true) (hb94 : sx_bit Wm 94 = true) (hb95 : sx_bit Wm 95 = true) (hbd : 30 ≤ bud.1 ∧ 700 ≤ bud.2.1) : zC D Wm ST b0 l Sg zM49 bud [(2, 88), (0, 0), (2, 3)] μ (fun st' μ' => ∃ y, st' = [(0, y)] ∧ zTJ none μ' ∧ zRuf zLw zLd μ y μ') := by
  have f1 := zT_get hT zs3_0 (i := 0) (by omega) (by omega)
  refine pm_blk hK zmm49 [] 4 8 [(2, 88), (0, 0), (2, 3), (9, 0), (9, 0)] [] (pm_up μ 88 9 (μ 3 0)) [sx_bit Wm 88 = true] rfl ⟨hb88, trivial⟩ ?_
  obtain ⟨μ1, eμ1⟩ : ∃ μ', μ' = pm_up μ 88 9 (μ 3 0) := ⟨_, rfl⟩
  rw [← eμ1]
  have hTμ1 : zTJ none μ1 := by rw [eμ1]; exact zT_upn hT zs88_9 rfl (i := 9) (by omega) (by omega) (by omega) (by omega)
  have g2 : μ1 3 1 = μ 3 1 := by rw [eμ1, pm_up_off (by decide)]
  have f3 := zT_get hTμ1 zs3_1 (i := 1) (by omega) (by omega)
  refine pm_blk hK zmm49 [] 4 16 [(2, 88), (0, 0), (2, 3), (9, 0), (9, 0)] [] (pm_up μ1 88 10 (μ1 3 1)) [sx_bit Wm 88 = true] rfl ⟨hb88, trivial⟩ ?_
  obtain ⟨μ2, eμ2⟩ : ∃ μ', μ' = pm_up μ1 88 10 (μ1 3 1) := ⟨_, rfl⟩
  rw [← eμ2]
  have hTμ2 : zTJ none μ2 := by rw [eμ2]; exact zT_upn hTμ1 zs88_10 rfl (i := 10) (by omega) (by omega) (by omega) (by omega)
  refine pm_blk hK zmm49 [] 2 20 [(2, 88), (0, 0), (2, 3), (9, 0), (9, 0)] [(2, 93)] μ2 [] rfl trivial ?_
  refine pm_call hK zmm49 (61, 0, 50, 0) zM50 (0, 0) [(2, 93)] [] rfl rfl rfl rfl ⟨by omega, by rw [zn50]; omega⟩ (zg_clear hK hTμ2 hb93 ⟨Nat.le_refl _, Nat.le_refl _⟩) (fun st1 μc1 hp1 => ?_)
  obtain ⟨rfl, hTc1, eC⟩ := hp1
  refine pm_blk hK zmm49 [] 1 24 [(2, 88), (0, 0), (2, 3), (9, 0), (9, 0)] [(2, 88)] μc1 [] rfl trivial ?_
  refine pm_call hK zmm49 (64, 0, 51, 0) zM51 (7, 157) [(2, 88)] [] rfl rfl rfl rfl ⟨by omega, by rw [zn51]; omega⟩ (zt_scan hK hTX hTc1 hb88 hb90 hb91 hb92 ⟨Nat.le_refl _, Nat.le_refl _⟩) (fun st2 μc2 hp2 => ?_)
  obtain ⟨rfl, hTc2, hSC⟩ := hp2
  obtain ⟨s1, s2, N, P, s3, s4⟩ := hSC
  refine pm_blk hK zmm49 [] 1 28 [(2, 88), (0, 0), (2, 3), (9, 0), (9, 0)] [(2, 88)] μc2 [] rfl trivial ?_
  refine pm_call hK zmm49 (67, 0, 48, 0) zM48 (0, 0) [(2, 88)] [] rfl rfl rfl rfl ⟨by omega, by rw [zn48]; omega⟩ (zg_drop hK hTc2 hb88 ⟨Nat.le_refl _, Nat.le_refl _⟩) (fun st3 μc3 hp3 => ?_)
  obtain ⟨rfl, hTc3, eD⟩ := hp3
  refine pm_blk hK zmm49 [] 3 36 [(2, 88), (0, 0), (2, 3), (9, 0), (9, 0)] [] (pm_up μc3 88 8 0) [sx_bit Wm 88 = true] rfl ⟨hb88, trivial⟩ ?_
  obtain ⟨μ3, eμ3⟩ : ∃ μ', μ' = pm_up μc3 88 8 0 := ⟨_, rfl⟩
  rw [← eμ3]
  have hTμ3 : zTJ none μ3 := by rw [eμ3]; exact zT_upn hTc3 zs88_8 rfl (i := 8) (by omega) (by omega) (by omega) (by omega)
  refine pm_blk hK zmm49 [] 2 38 [(2, 88), (0, 0), (2, 3), (0, 1), (9, 0)] [] μ3 [] rfl trivial ?_
  have r1 : ∀ r, r ≠ 88 → r ≠ 93 → μc1 r = μ r := fun r a b => by rw [eC, pm_up_row b, pm_up_row b, eμ2, pm_up_row a, eμ1, pm_up_row a]
  have c9 : μc1 88 9 = μ 3 0 := by rw [eC, pm_up_off (by decide), pm_up_off (by decide), eμ2, pm_up_ne (by decide), eμ1, pm_up_eq]
  have c10 : μc1 88 10 = μ 3 1 := by rw [eC, pm_up_off (by decide), pm_up_off (by decide), eμ2, pm_up_eq, eμ1, pm_up_off (by decide)]
  have c1 : μc1 88 1 = μ 88 1 := by rw [eC, pm_up_off (by decide), pm_up_off (by decide), eμ2, pm_up_ne (by decide), eμ1, pm_up_ne (by decide)]
  have c932 : μc1 93 2 = 0 := by rw [eC, pm_up_ne (by decide), pm_up_eq]
  have c933 : μc1 93 3 = 0 := by rw [eC, pm_up_eq]
  have d : ∀ r, r ≠ 88 → μ3 r = μc2 r := fun r a => by rw [eμ3, pm_up_row a, eD, pm_up_row a, pm_up_row a, pm_up_row a]
  have d8 : ∀ k : Int, k ≠ 1 → k ≠ 2 → k ≠ 3 → k ≠ 8 → μ3 88 k = μc2 88 k := fun k a b c e => by rw [eμ3, pm_up_ne e, eD, pm_up_ne c, pm_up_ne b, pm_up_ne a]
  have e1 : μ3 88 1 = 0 := by rw [eμ3, pm_up_ne (by decide), eD, pm_up_ne (by decide), pm_up_ne (by decide), pm_up_eq]
  have e2 : μ3 88 2 = 0 := by rw [eμ3, pm_up_ne (by decide), eD, pm_up_ne (by decide), pm_up_eq]
  have e3 : μ3 88 3 = -1 := by rw [eμ3, pm_up_ne (by decide), eD, pm_up_eq]
  have e8 : μ3 88 8 = 0 := by rw [eμ3, pm_up_eq]
  have e93 : μ3 93 2 = 0 := by rw [d 93 (by decide), s1 93 (by decide) (by decide) (by decide) (by decide)]; exact c932
  have e933 : μ3 93 3 = 0 := by rw [d 93 (by decide), s1 93 (by decide) (by decide) (by decide) (by decide)]; exact c933
  have hN := s4.1
  have h400 := (zT_get hT zs88_1 (i := 1) (by omega) (by omega)).2
  rw [r1 89 (by decide) (by decide), c1] at s4
  refine pm_blk hK zmm49 [] 2 41 [(2, 88), (0, 0), (2, 3), (0, 1), (0, 0)] [] μ3 [] rfl trivial ?_
  refine zg_rs0 hK (μ0 := μ3) (K := μc2 90) (S := μc2 91) (V := μc2 92) (N := N) ⟨s4.2.2.2.1, fun i a b c => (zLex_V s4 a b c).1⟩ (fun y μ2 ho => ?_) hb88 hb93 hb95 hb94 ⟨by omega, by omega⟩ _ rfl (zRu_st ⟨⟨d 90 (by decide), d 91 (by decide), d 92 (by decide)⟩, by rw [d8 7 (by decide) (by decide) (by decide) (by decide)]; exact s3, e8, ⟨Int.le_refl _, by omega, by omega⟩, e2, e3⟩ e93 (fun J hJ => ⟨fun t ht => absurd ht (by omega), by omega, by omega⟩)) hTμ3
  refine zRuf_of ho e1 (fun r a b c e f g g5 => ?_) s4
  rw [d r a, s1 r a b c e]; exact r1 r a f
end ZHW
