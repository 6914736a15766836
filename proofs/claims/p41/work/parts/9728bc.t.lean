/-! F: the reference: a draw, whether it comes so, an errand, the day begins; walks printed by program (wip/p30/pmgen.py) and filled by hand -/
section ZHW
variable {φ : Option pm_Mem}
variable {D : va_G} {Wm : Nat} {ST : List (String × String × String × Nat)} {b0 : sx_B} {l : Launch} {Sg : Nat → Option Nat} {bud : sx_Bu} {μ : pm_Mem} {B0 : Nat → Prop} {J : (Nat → Option Nat) → Heap → Prop}
set_option maxRecDepth 100000 in
theorem fr_draw (hK : zKK ST) {m : Int} (hT : zTJ φ μ) (hm : 1 ≤ m ∧ m ≤ 1000) (hb206 : sx_bit Wm 206 = true) (hbd : 0 ≤ bud.1 ∧ 0 ≤ bud.2.1) : zC D Wm ST b0 l Sg zM314 bud [(2, 205), (0, m)] μ (fun st' μ' => st' = [(0, fa_dr (μ 206) m)] ∧ zTJ φ μ' ∧ μ' 206 = fa_draw (μ 206) ∧ (∀ r, r ≠ 206 → μ' r = μ r)) := by
  have f1 := zT_get hT zs206_2 (i := 2) (by omega) (by omega)
  have w2 := zw32 (1664525 * (μ 206 2))
  have w3 := zw32 ((pm_w32 (1664525 * (μ 206 2))) + 1013904223)
  refine pm_blk hK zmm314 [13, 16] 12 18 [(2, 205), (0, m)] [] (pm_up μ 206 2 (pm_w32 ((pm_w32 (1664525 * (μ 206 2))) + 1013904223))) [0 ≤ 2 ∧ 2 < 160, sx_bit Wm 206 = true, 0 ≤ 2 ∧ 2 < 160] rfl ⟨⟨by omega, by omega⟩, hb206, ⟨by omega, by omega⟩, trivial⟩ ?_
  obtain ⟨μ1, eμ1⟩ : ∃ μ', μ' = pm_up μ 206 2 (pm_w32 ((pm_w32 (1664525 * (μ 206 2))) + 1013904223)) := ⟨_, rfl⟩
  rw [← eμ1]
  have hTμ1 : zTJ φ μ1 := by rw [eμ1]; exact zT_up hT zs206_2 rfl (i := 2) (by omega) (by omega) (by omega) (by omega)
  have n1 : μ1 206 = fa_draw (μ 206) := by
    rw [eμ1, fa_pm]
    rfl
  have o1 : ∀ r, r ≠ 206 → μ1 r = μ r := fun r hr => by rw [eμ1, pm_up_row hr]
  have v1 : μ1 206 2 = fa_draw (μ 206) 2 := by rw [n1]
  have f4 := zT_get hTμ1 zs206_2 (i := 2) (by omega) (by omega)
  refine pm_blk hK zmm314 [13, 16] 8 29 [(2, 205), (0, m)] [(0, Int.tmod (pm_ushr (μ1 206 2) 8) m)] μ1 [0 ≤ 2 ∧ 2 < 160, m ≠ 0] rfl ⟨⟨by omega, by omega⟩, by omega, trivial⟩ ?_
  exact pm_iret rfl rfl ⟨by unfold fa_dr; rw [v1], hTμ1, n1, o1⟩
set_option maxRecDepth 100000 in
theorem fr_happens (hK : zKK ST) {o : Int} {th : Bool} (hth : fa_th th μ) (hT : zTJ φ μ) (ho : 0 ≤ o ∧ o ≤ 1000) (hb206 : sx_bit Wm 206 = true) (hbd : 1 ≤ bud.1 ∧ 24 ≤ bud.2.1) : zC D Wm ST b0 l Sg zM313 bud [(2, 205), (0, o)] μ (fun st' μ' => st' = [(0, if fa_so th o (μ 206) = true then 1 else 0)] ∧ zTJ φ μ' ∧ μ' 206 = fa_soN th o (μ 206) ∧ (∀ r, r ≠ 206 → μ' r = μ r)) := by
  have f1 := zT_get hT zs205_5 (i := 5) (by omega) (by omega)
  refine pm_blk hK zmm313 [] 2 4 [(2, 205), (0, o)] [(0, μ 205 5)] μ [] rfl trivial ?_
  refine pm_if hK zmm313 .eq 20 24 rfl rfl (fun h0 => ?_) (fun h0 => ?_)
  · have h0 : μ 205 5 = (0 : Int) := h0
    refine pm_blk hK zmm313 [] 1 25 [(2, 205), (0, o)] [(0, o)] μ [] rfl trivial ?_
    refine pm_if hK zmm313 .le 18 43 rfl rfl (fun h1 => ?_) (fun h1 => ?_)
    · have h1 : o ≤ (0 : Int) := h1
      refine pm_blk hK zmm313 [] 1 44 [(2, 205), (0, o)] [(0, 0)] μ [] rfl trivial ?_
      first
      | exact pm_zret rfl rfl (by first | exact Or.inl rfl | exact Or.inr rfl | omega) ⟨by rw [if_pos (fa_so_ty (hth.mpr (by omega)) (by omega))], hT, (fa_soN_t (Or.inl (hth.mpr (by omega)))).symm, fun _ _ => rfl⟩
      | exact pm_zret rfl rfl (by first | exact Or.inl rfl | exact Or.inr rfl | omega) ⟨by rw [if_neg (fa_so_tn (hth.mpr (by omega)) (by omega))], hT, (fa_soN_t (Or.inl (hth.mpr (by omega)))).symm, fun _ _ => rfl⟩
      | exact pm_zret rfl rfl (by first | exact Or.inl rfl | exact Or.inr rfl | omega) ⟨by rw [if_neg (fa_so_0 (fun h => absurd (hth.mp h) (by omega)) (by omega))], hT, (fa_soN_t (Or.inr (by omega))).symm, fun _ _ => rfl⟩
      | exact pm_zret rfl rfl (by first | exact Or.inl rfl | exact Or.inr rfl | omega) ⟨by rw [if_pos (fa_so_y (fun h => absurd (hth.mp h) (by omega)) (by omega) (by omega))], hT, hdd.trans (fa_soN_n (fun h => absurd (hth.mp h) (by omega)) (by omega)).symm, hfo⟩
      | exact pm_zret rfl rfl (by first | exact Or.inl rfl | exact Or.inr rfl | omega) ⟨by rw [if_neg (fa_so_n (fun h => absurd (hth.mp h) (by omega)) (by omega))], hT, hdd.trans (fa_soN_n (fun h => absurd (hth.mp h) (by omega)) (by omega)).symm, hfo⟩
      | (exfalso; omega)
    · have h1 : (0 : Int) < o := h1
      refine pm_blk hK zmm313 [] 2 32 [(2, 205), (0, o)] [(0, 1000), (2, 205)] μ [] rfl trivial ?_
      refine pm_call hK zmm313 (374, 0, 314, 1) zM314 (0, 0) [(2, 205), (0, 1000)] [] rfl rfl rfl rfl ⟨by omega, by rw [zn314]; omega⟩ (fr_draw hK (m := 1000) hT ⟨by omega, by omega⟩ hb206 ⟨Nat.le_refl _, Nat.le_refl _⟩) (fun st1 μc1 hp1 => ?_)
      obtain ⟨rfl, hTc1, hd1, hf1⟩ := hp1
      have hdd := hd1
      have hfo := hf1
      refine pm_blk hK zmm313 [] 1 36 [(2, 205), (0, o)] [(0, o), (0, fa_dr (μ 206) (1000))] μc1 [] rfl trivial ?_
      refine pm_icmp hK zmm313 .ge 7 43 rfl rfl (fun h2 => ?_) (fun h2 => ?_)
      · have h2 : o ≤ fa_dr (μ 206) (1000) := h2
        refine pm_blk hK zmm313 [] 1 44 [(2, 205), (0, o)] [(0, 0)] μc1 [] rfl trivial ?_
        first
        | exact pm_zret rfl rfl (by first | exact Or.inl rfl | exact Or.inr rfl | omega) ⟨by rw [if_pos (fa_so_ty (hth.mpr (by omega)) (by omega))], hTc1, (fa_soN_t (Or.inl (hth.mpr (by omega)))).symm, fun _ _ => rfl⟩
        | exact pm_zret rfl rfl (by first | exact Or.inl rfl | exact Or.inr rfl | omega) ⟨by rw [if_neg (fa_so_tn (hth.mpr (by omega)) (by omega))], hTc1, (fa_soN_t (Or.inl (hth.mpr (by omega)))).symm, fun _ _ => rfl⟩
        | exact pm_zret rfl rfl (by first | exact Or.inl rfl | exact Or.inr rfl | omega) ⟨by rw [if_neg (fa_so_0 (fun h => absurd (hth.mp h) (by omega)) (by omega))], hTc1, (fa_soN_t (Or.inr (by omega))).symm, fun _ _ => rfl⟩
        | exact pm_zret rfl rfl (by first | exact Or.inl rfl | exact Or.inr rfl | omega) ⟨by rw [if_pos (fa_so_y (fun h => absurd (hth.mp h) (by omega)) (by omega) (by omega))], hTc1, hdd.trans (fa_soN_n (fun h => absurd (hth.mp h) (by omega)) (by omega)).symm, hfo⟩
        | exact pm_zret rfl rfl (by first | exact Or.inl rfl | exact Or.inr rfl | omega) ⟨by rw [if_neg (fa_so_n (fun h => absurd (hth.mp h) (by omega)) (by omega))], hTc1, hdd.trans (fa_soN_n (fun h => absurd (hth.mp h) (by omega)) (by omega)).symm, hfo⟩
        | (exfalso; omega)
      · have h2 : fa_dr (μ 206) (1000) < o := h2
        refine pm_blk hK zmm313 [] 2 44 [(2, 205), (0, o)] [(0, 1)] μc1 [] rfl trivial ?_
        first
        | exact pm_zret rfl rfl (by first | exact Or.inl rfl | exact Or.inr rfl | omega) ⟨by rw [if_pos (fa_so_ty (hth.mpr (by omega)) (by omega))], hTc1, (fa_soN_t (Or.inl (hth.mpr (by omega)))).symm, fun _ _ => rfl⟩
        | exact pm_zret rfl rfl (by first | exact Or.inl rfl | exact Or.inr rfl | omega) ⟨by rw [if_neg (fa_so_tn (hth.mpr (by omega)) (by omega))], hTc1, (fa_soN_t (Or.inl (hth.mpr (by omega)))).symm, fun _ _ => rfl⟩
        | exact pm_zret rfl rfl (by first | exact Or.inl rfl | exact Or.inr rfl | omega) ⟨by rw [if_neg (fa_so_0 (fun h => absurd (hth.mp h) (by omega)) (by omega))], hTc1, (fa_soN_t (Or.inr (by omega))).symm, fun _ _ => rfl⟩
        | exact pm_zret rfl rfl (by first | exact Or.inl rfl | exact Or.inr rfl | omega) ⟨by rw [if_pos (fa_so_y (fun h => absurd (hth.mp h) (by omega)) (by omega) (by omega))], hTc1, hdd.trans (fa_soN_n (fun h => absurd (hth.mp h) (by omega)) (by omega)).symm, hfo⟩
        | exact pm_zret rfl rfl (by first | exact Or.inl rfl | exact Or.inr rfl | omega) ⟨by rw [if_neg (fa_so_n (fun h => absurd (hth.mp h) (by omega)) (by omega))], hTc1, hdd.trans (fa_soN_n (fun h => absurd (hth.mp h) (by omega)) (by omega)).symm, hfo⟩
        | (exfalso; omega)
  · have h0 : μ 205 5 ≠ (0 : Int) := h0
    refine pm_blk hK zmm313 [] 4 13 [(2, 205), (0, o)] [(0, 1000), (0, 2 * o)] μ [pm_in (2 * o)] rfl ⟨pm_in_mk (by omega) (by omega), trivial⟩ ?_
    refine pm_icmp hK zmm313 .lt 7 20 rfl rfl (fun h3 => ?_) (fun h3 => ?_)
    · have h3 : 2 * o < (1000 : Int) := h3
      refine pm_blk hK zmm313 [] 2 44 [(2, 205), (0, o)] [(0, 0)] μ [] rfl trivial ?_
      first
      | exact pm_zret rfl rfl (by first | exact Or.inl rfl | exact Or.inr rfl | omega) ⟨by rw [if_pos (fa_so_ty (hth.mpr (by omega)) (by omega))], hT, (fa_soN_t (Or.inl (hth.mpr (by omega)))).symm, fun _ _ => rfl⟩
      | exact pm_zret rfl rfl (by first | exact Or.inl rfl | exact Or.inr rfl | omega) ⟨by rw [if_neg (fa_so_tn (hth.mpr (by omega)) (by omega))], hT, (fa_soN_t (Or.inl (hth.mpr (by omega)))).symm, fun _ _ => rfl⟩
      | exact pm_zret rfl rfl (by first | exact Or.inl rfl | exact Or.inr rfl | omega) ⟨by rw [if_neg (fa_so_0 (fun h => absurd (hth.mp h) (by omega)) (by omega))], hT, (fa_soN_t (Or.inr (by omega))).symm, fun _ _ => rfl⟩
      | exact pm_zret rfl rfl (by first | exact Or.inl rfl | exact Or.inr rfl | omega) ⟨by rw [if_pos (fa_so_y (fun h => absurd (hth.mp h) (by omega)) (by omega) (by omega))], hT, hdd.trans (fa_soN_n (fun h => absurd (hth.mp h) (by omega)) (by omega)).symm, hfo⟩
      | exact pm_zret rfl rfl (by first | exact Or.inl rfl | exact Or.inr rfl | omega) ⟨by rw [if_neg (fa_so_n (fun h => absurd (hth.mp h) (by omega)) (by omega))], hT, hdd.trans (fa_soN_n (fun h => absurd (hth.mp h) (by omega)) (by omega)).symm, hfo⟩
      | (exfalso; omega)
    · have h3 : (1000 : Int) ≤ 2 * o := h3
      refine pm_blk hK zmm313 [] 2 44 [(2, 205), (0, o)] [(0, 1)] μ [] rfl trivial ?_
      first
      | exact pm_zret rfl rfl (by first | exact Or.inl rfl | exact Or.inr rfl | omega) ⟨by rw [if_pos (fa_so_ty (hth.mpr (by omega)) (by omega))], hT, (fa_soN_t (Or.inl (hth.mpr (by omega)))).symm, fun _ _ => rfl⟩
      | exact pm_zret rfl rfl (by first | exact Or.inl rfl | exact Or.inr rfl | omega) ⟨by rw [if_neg (fa_so_tn (hth.mpr (by omega)) (by omega))], hT, (fa_soN_t (Or.inl (hth.mpr (by omega)))).symm, fun _ _ => rfl⟩
      | exact pm_zret rfl rfl (by first | exact Or.inl rfl | exact Or.inr rfl | omega) ⟨by rw [if_neg (fa_so_0 (fun h => absurd (hth.mp h) (by omega)) (by omega))], hT, (fa_soN_t (Or.inr (by omega))).symm, fun _ _ => rfl⟩
      | exact pm_zret rfl rfl (by first | exact Or.inl rfl | exact Or.inr rfl | omega) ⟨by rw [if_pos (fa_so_y (fun h => absurd (hth.mp h) (by omega)) (by omega) (by omega))], hT, hdd.trans (fa_soN_n (fun h => absurd (hth.mp h) (by omega)) (by omega)).symm, hfo⟩
      | exact pm_zret rfl rfl (by first | exact Or.inl rfl | exact Or.inr rfl | omega) ⟨by rw [if_neg (fa_so_n (fun h => absurd (hth.mp h) (by omega)) (by omega))], hT, hdd.trans (fa_soN_n (fun h => absurd (hth.mp h) (by omega)) (by omega)).symm, hfo⟩
      | (exfalso; omega)
set_option maxRecDepth 100000 in
theorem fr_does (hK : zKK ST) {j : Int} {th : Bool} (hth : fa_th th μ) (hT : zTJ φ μ) (hj : 0 ≤ j ∧ j < 16) (hd : zDeed (μ 222 (4 * j + 1)) (μ 222 (4 * j + 2)) (μ 222 (4 * j + 3))) (hb206 : sx_bit Wm 206 = true) (hb210 : sx_bit Wm 210 = true) (hbd : 1 ≤ bud.1 ∧ 24 ≤ bud.2.1) : zC D Wm ST b0 l Sg zM311 bud [(2, 205), (0, 4 * j)] μ (fun st' μ' => st' = [] ∧ zTJ φ μ' ∧ (μ' 206, μ' 210) = fa_deed th (μ 222 (4 * j + 1)) (μ 222 (4 * j + 2)) (μ 222 (4 * j + 3)) (μ 206, μ 210) ∧ (∀ r, r ≠ 206 → r ≠ 210 → μ' r = μ r)) := by
  obtain ⟨d1, d2, d3, d4, d5, d6, d7⟩ := hd
  have hF : ∀ r, r ≠ 206 → μ r = μ r := fun _ _ => rfl
  have f1 := zT_getp hT zp222_2 (i := (4 * j) + 2) (z := j) (by omega) (by omega) (by omega)
  have f2 := zT_getp hT zp222_3 (i := (4 * j) + 3) (z := j) (by omega) (by omega) (by omega)
  have f3 := zT_getp hT zp222_1 (i := (4 * j) + 1) (z := j) (by omega) (by omega) (by omega)
  refine pm_blk hK zmm311 [] 20 26 [(2, 205), (0, 4 * j), (0, μ 222 ((4 * j) + 2)), (0, μ 222 ((4 * j) + 3))] [(0, μ 222 ((4 * j) + 1))] μ [pm_in ((4 * j) + 2), 0 ≤ (4 * j) + 2 ∧ (4 * j) + 2 < 128, pm_in ((4 * j) + 3), 0 ≤ (4 * j) + 3 ∧ (4 * j) + 3 < 128, pm_in ((4 * j) + 1), 0 ≤ (4 * j) + 1 ∧ (4 * j) + 1 < 128] rfl ⟨pm_in_mk (by omega) (by omega), ⟨by omega, by omega⟩, pm_in_mk (by omega) (by omega), ⟨by omega, by omega⟩, pm_in_mk (by omega) (by omega), ⟨by omega, by omega⟩, trivial⟩ ?_
  refine pm_if hK zmm311 .ne 12 38 rfl rfl (fun h0 => ?_) (fun h0 => ?_)
  · have h0 : μ 222 ((4 * j) + 1) ≠ (0 : Int) := h0
    refine pm_blk hK zmm311 [] 7 47 [(2, 205), (0, 4 * j), (0, μ 222 ((4 * j) + 2)), (0, μ 222 ((4 * j) + 3))] [(0, 1), (0, μ 222 ((4 * j) + 1))] μ [pm_in ((4 * j) + 1), 0 ≤ (4 * j) + 1 ∧ (4 * j) + 1 < 128] rfl ⟨pm_in_mk (by omega) (by omega), ⟨by omega, by omega⟩, trivial⟩ ?_
    refine pm_icmp hK zmm311 .ne 13 60 rfl rfl (fun h1 => ?_) (fun h1 => ?_)
    · have h1 : μ 222 ((4 * j) + 1) ≠ (1 : Int) := h1
      refine pm_blk hK zmm311 [] 7 69 [(2, 205), (0, 4 * j), (0, μ 222 ((4 * j) + 2)), (0, μ 222 ((4 * j) + 3))] [(0, 2), (0, μ 222 ((4 * j) + 1))] μ [pm_in ((4 * j) + 1), 0 ≤ (4 * j) + 1 ∧ (4 * j) + 1 < 128] rfl ⟨pm_in_mk (by omega) (by omega), ⟨by omega, by omega⟩, trivial⟩ ?_
      refine pm_icmp hK zmm311 .ne 30 99 rfl rfl (fun h2 => ?_) (fun h2 => ?_)
      · have h2 : μ 222 ((4 * j) + 1) ≠ (2 : Int) := h2
        refine pm_blk hK zmm311 [] 7 108 [(2, 205), (0, 4 * j), (0, μ 222 ((4 * j) + 2)), (0, μ 222 ((4 * j) + 3))] [(0, 3), (0, μ 222 ((4 * j) + 1))] μ [pm_in ((4 * j) + 1), 0 ≤ (4 * j) + 1 ∧ (4 * j) + 1 < 128] rfl ⟨pm_in_mk (by omega) (by omega), ⟨by omega, by omega⟩, trivial⟩ ?_
        refine pm_icmp hK zmm311 .ne 14 122 rfl rfl (fun h3 => ?_) (fun h3 => ?_)
        · have h3 : μ 222 ((4 * j) + 1) ≠ (3 : Int) := h3
          first
          | omega
          | exact pm_vret rfl rfl ⟨rfl, hT, by rw [n0, hF 210 (by decide)]; exact (fa_deed_0 (by omega)).symm, fun r a b => hF r a⟩
          | exact pm_vret rfl rfl ⟨rfl, hT, by rw [n1, hF 210 (by decide)]; exact (fa_deed_1 (by omega)).symm, fun r a b => hF r a⟩
          | exact pm_vret rfl rfl ⟨rfl, hT, by rw [n2, hF 210 (by decide)]; exact (fa_deed_2 (by omega)).symm, fun r a b => hF r a⟩
          | exact pm_vret rfl rfl ⟨rfl, hT, (fa_deed_z ⟨by omega, by omega, by omega⟩ (by omega)).symm, fun _ _ _ => rfl⟩
          | exact pm_vret rfl rfl ⟨rfl, hT, by rw [hnn, htt, hfo 210 (by decide)]; exact (fa_deed_n ⟨by omega, by omega, by omega⟩ (by omega)).symm, fun r a b => (hff r a b).trans (hF r a)⟩
          | (exfalso; omega)
        · have h3 : μ 222 ((4 * j) + 1) = (3 : Int) := h3
          have f4 := zT_get hT zs206_4 (i := 4 + (μ 222 ((4 * j) + 2))) (by omega) (by omega)
          refine pm_blk hK zmm311 [] 6 119 [(2, 205), (0, 4 * j), (0, μ 222 ((4 * j) + 2)), (0, μ 222 ((4 * j) + 3))] [(0, μ 206 (4 + (μ 222 ((4 * j) + 2))))] μ [pm_in (4 + (μ 222 ((4 * j) + 2))), 0 ≤ 4 + (μ 222 ((4 * j) + 2)) ∧ 4 + (μ 222 ((4 * j) + 2)) < 160] rfl ⟨pm_in_mk (by omega) (by omega), ⟨by omega, by omega⟩, trivial⟩ ?_
          refine pm_if hK zmm311 .ne 4 123 rfl rfl (fun h4 => ?_) (fun h4 => ?_)
          · have h4 : μ 206 (4 + (μ 222 ((4 * j) + 2))) ≠ (0 : Int) := h4
            refine pm_blk hK zmm311 [] 3 126 [(2, 205), (0, 4 * j), (0, μ 222 ((4 * j) + 2)), (0, μ 222 ((4 * j) + 3))] [(0, μ 222 ((4 * j) + 2)), (0, μ 222 ((4 * j) + 3)), (2, 205)] μ [] rfl trivial ?_
            refine pm_call hK zmm311 (349, 0, 309, 2) zM309 (0, 0) [(2, 205), (0, μ 222 ((4 * j) + 3)), (0, μ 222 ((4 * j) + 2))] [] rfl rfl rfl rfl ⟨by omega, by rw [zn309]; omega⟩ (fr_thing hK (c := (μ 222 ((4 * j) + 3))) (s := (μ 222 ((4 * j) + 2))) hT ⟨by omega, by omega⟩ ⟨by omega, by omega⟩ (by omega) hb206 ⟨Nat.le_refl _, Nat.le_refl _⟩) (fun st1 μc1 hp1 => ?_)
            obtain ⟨rfl, hTc1, ht1, hf1⟩ := hp1
            have htt := ht1
            have hfo := hf1
            have hF : ∀ r, r ≠ 206 → μc1 r = μ r := fun r hr => (hf1 r hr).trans (hF r hr)
            refine pm_blk hK zmm311 [] 4 133 [(2, 205), (0, 4 * j), (0, μ 222 ((4 * j) + 2)), (0, μ 222 ((4 * j) + 3))] [(0, μ 222 ((4 * j) + 2)), (0, μ 222 ((4 * j) + 3)), (0, 1), (2, 205)] μc1 [] rfl trivial ?_
            have hthc := fa_th_r hth (hF 205 (by decide))
            refine pm_call hK zmm311 (352, 0, 310, 3) zM310 (0, 0) [(2, 205), (0, 1), (0, μ 222 ((4 * j) + 3)), (0, μ 222 ((4 * j) + 2))] [] rfl rfl rfl rfl ⟨by omega, by rw [zn310]; omega⟩ (fr_note hK (th := th) (k := 1) (w := (μ 222 ((4 * j) + 3))) (v := (μ 222 ((4 * j) + 2))) hthc hTc1 ⟨by omega, by omega⟩ ⟨by omega, by omega⟩ ⟨by omega, by omega⟩ hb206 hb210 ⟨Nat.le_refl _, Nat.le_refl _⟩) (fun st2 μc2 hp2 => ?_)
            obtain ⟨rfl, hTc2, hn2, hf2⟩ := hp2
            have hnn := hn2
            have hff := hf2
            first
            | omega
            | exact pm_vret rfl rfl ⟨rfl, hTc2, by rw [n0, hF 210 (by decide)]; exact (fa_deed_0 (by omega)).symm, fun r a b => hF r a⟩
            | exact pm_vret rfl rfl ⟨rfl, hTc2, by rw [n1, hF 210 (by decide)]; exact (fa_deed_1 (by omega)).symm, fun r a b => hF r a⟩
            | exact pm_vret rfl rfl ⟨rfl, hTc2, by rw [n2, hF 210 (by decide)]; exact (fa_deed_2 (by omega)).symm, fun r a b => hF r a⟩
            | exact pm_vret rfl rfl ⟨rfl, hTc2, (fa_deed_z ⟨by omega, by omega, by omega⟩ (by omega)).symm, fun _ _ _ => rfl⟩
            | exact pm_vret rfl rfl ⟨rfl, hTc2, by rw [hnn, htt, hfo 210 (by decide)]; exact (fa_deed_n ⟨by omega, by omega, by omega⟩ (by omega)).symm, fun r a b => (hff r a b).trans (hF r a)⟩
            | (exfalso; omega)
          · have h4 : μ 206 (4 + (μ 222 ((4 * j) + 2))) = (0 : Int) := h4
            first
            | omega
            | exact pm_vret rfl rfl ⟨rfl, hT, by rw [n0, hF 210 (by decide)]; exact (fa_deed_0 (by omega)).symm, fun r a b => hF r a⟩
            | exact pm_vret rfl rfl ⟨rfl, hT, by rw [n1, hF 210 (by decide)]; exact (fa_deed_1 (by omega)).symm, fun r a b => hF r a⟩
            | exact pm_vret rfl rfl ⟨rfl, hT, by rw [n2, hF 210 (by decide)]; exact (fa_deed_2 (by omega)).symm, fun r a b => hF r a⟩
            | exact pm_vret rfl rfl ⟨rfl, hT, (fa_deed_z ⟨by omega, by omega, by omega⟩ (by omega)).symm, fun _ _ _ => rfl⟩
            | exact pm_vret rfl rfl ⟨rfl, hT, by rw [hnn, htt, hfo 210 (by decide)]; exact (fa_deed_n ⟨by omega, by omega, by omega⟩ (by omega)).symm, fun r a b => (hff r a b).trans (hF r a)⟩
            | (exfalso; omega)
      · have h2 : μ 222 ((4 * j) + 1) = (2 : Int) := h2
        have f5 := zT_get hT zs206_88 (i := 88 + (μ 222 ((4 * j) + 2))) (by omega) (by omega)
        refine pm_blk hK zmm311 [] 15 95 [(2, 205), (0, 4 * j), (0, μ 222 ((4 * j) + 2)), (0, μ 222 ((4 * j) + 3))] [(0, (μ 206 (88 + (μ 222 ((4 * j) + 2)))) + (μ 222 ((4 * j) + 3))), (0, 9999), (2, 205), (0, 88 + (μ 222 ((4 * j) + 2))), (2, 206)] μ [pm_in (88 + (μ 222 ((4 * j) + 2))), pm_in (88 + (μ 222 ((4 * j) + 2))), 0 ≤ 88 + (μ 222 ((4 * j) + 2)) ∧ 88 + (μ 222 ((4 * j) + 2)) < 160, pm_in ((μ 206 (88 + (μ 222 ((4 * j) + 2)))) + (μ 222 ((4 * j) + 3)))] rfl ⟨pm_in_mk (by omega) (by omega), pm_in_mk (by omega) (by omega), ⟨by omega, by omega⟩, pm_in_mk (by omega) (by omega), trivial⟩ ?_
        refine pm_call hK zmm311 (377, 0, 157, 2) zM157 (0, 0) [(2, 205), (0, 9999), (0, (μ 206 (88 + (μ 222 ((4 * j) + 2)))) + (μ 222 ((4 * j) + 3)))] [(0, 88 + (μ 222 ((4 * j) + 2))), (2, 206)] rfl rfl rfl rfl ⟨by omega, by rw [zn157]; omega⟩ (zh_lesser hK ⟨by omega, by omega⟩) (fun st3 μc3 hp3 => ?_)
        obtain ⟨rfl, rfl⟩ := hp3
        refine pm_blk hK zmm311 [] 1 99 [(2, 205), (0, 4 * j), (0, μ 222 ((4 * j) + 2)), (0, μ 222 ((4 * j) + 3))] [] (pm_up μ 206 (88 + (μ 222 ((4 * j) + 2))) (min 9999 ((μ 206 (88 + (μ 222 ((4 * j) + 2)))) + (μ 222 ((4 * j) + 3))))) [sx_bit Wm 206 = true, 0 ≤ 88 + (μ 222 ((4 * j) + 2)) ∧ 88 + (μ 222 ((4 * j) + 2)) < 160] rfl ⟨hb206, ⟨by omega, by omega⟩, trivial⟩ ?_
        obtain ⟨μ1, eμ1⟩ : ∃ μ', μ' = pm_up μ 206 (88 + (μ 222 ((4 * j) + 2))) (min 9999 ((μ 206 (88 + (μ 222 ((4 * j) + 2)))) + (μ 222 ((4 * j) + 3)))) := ⟨_, rfl⟩
        rw [← eμ1]
        have hTμ1 : zTJ φ μ1 := by rw [eμ1]; exact zT_up hT zs206_88 rfl (i := 88 + (μ 222 ((4 * j) + 2))) (by omega) (by omega) (by omega) (by omega)
        have hF : ∀ r, r ≠ 206 → μ1 r = μ r := fun r hr => ((by rw [eμ1, pm_up_row hr] : μ1 r = μ r)).trans (hF r hr)
        have q2 : μ1 222 (4 * j + 1) = μ 222 (4 * j + 1) := by rw [hF 222 (by decide)]
        have n2 : μ1 206 = fa_up (μ 206) (88 + μ 222 (4 * j + 2)) (min 9999 (μ 206 (88 + μ 222 (4 * j + 2)) + μ 222 (4 * j + 3))) := by rw [eμ1, fa_pm]
        have g6 : μ1 222 ((4 * j) + 1) = μ 222 ((4 * j) + 1) := by rw [eμ1, pm_up_off (by decide)]
        have f7 := zT_getp hTμ1 zp222_1 (i := (4 * j) + 1) (z := j) (by omega) (by omega) (by omega)
        refine pm_blk hK zmm311 [] 7 108 [(2, 205), (0, 4 * j), (0, μ 222 ((4 * j) + 2)), (0, μ 222 ((4 * j) + 3))] [(0, 3), (0, μ1 222 ((4 * j) + 1))] μ1 [pm_in ((4 * j) + 1), 0 ≤ (4 * j) + 1 ∧ (4 * j) + 1 < 128] rfl ⟨pm_in_mk (by omega) (by omega), ⟨by omega, by omega⟩, trivial⟩ ?_
        refine pm_icmp hK zmm311 .ne 14 122 rfl rfl (fun h5 => ?_) (fun h5 => ?_)
        · have h5 : μ1 222 ((4 * j) + 1) ≠ (3 : Int) := h5
          first
          | omega
          | exact pm_vret rfl rfl ⟨rfl, hTμ1, by rw [n0, hF 210 (by decide)]; exact (fa_deed_0 (by omega)).symm, fun r a b => hF r a⟩
          | exact pm_vret rfl rfl ⟨rfl, hTμ1, by rw [n1, hF 210 (by decide)]; exact (fa_deed_1 (by omega)).symm, fun r a b => hF r a⟩
          | exact pm_vret rfl rfl ⟨rfl, hTμ1, by rw [n2, hF 210 (by decide)]; exact (fa_deed_2 (by omega)).symm, fun r a b => hF r a⟩
          | exact pm_vret rfl rfl ⟨rfl, hTμ1, (fa_deed_z ⟨by omega, by omega, by omega⟩ (by omega)).symm, fun _ _ _ => rfl⟩
          | exact pm_vret rfl rfl ⟨rfl, hTμ1, by rw [hnn, htt, hfo 210 (by decide)]; exact (fa_deed_n ⟨by omega, by omega, by omega⟩ (by omega)).symm, fun r a b => (hff r a b).trans (hF r a)⟩
          | (exfalso; omega)
        · have h5 : μ1 222 ((4 * j) + 1) = (3 : Int) := h5
          have f8 := zT_get hTμ1 zs206_4 (i := 4 + (μ 222 ((4 * j) + 2))) (by omega) (by omega)
          refine pm_blk hK zmm311 [] 6 119 [(2, 205), (0, 4 * j), (0, μ 222 ((4 * j) + 2)), (0, μ 222 ((4 * j) + 3))] [(0, μ1 206 (4 + (μ 222 ((4 * j) + 2))))] μ1 [pm_in (4 + (μ 222 ((4 * j) + 2))), 0 ≤ 4 + (μ 222 ((4 * j) + 2)) ∧ 4 + (μ 222 ((4 * j) + 2)) < 160] rfl ⟨pm_in_mk (by omega) (by omega), ⟨by omega, by omega⟩, trivial⟩ ?_
          refine pm_if hK zmm311 .ne 4 123 rfl rfl (fun h6 => ?_) (fun h6 => ?_)
          · have h6 : μ1 206 (4 + (μ 222 ((4 * j) + 2))) ≠ (0 : Int) := h6
            refine pm_blk hK zmm311 [] 3 126 [(2, 205), (0, 4 * j), (0, μ 222 ((4 * j) + 2)), (0, μ 222 ((4 * j) + 3))] [(0, μ 222 ((4 * j) + 2)), (0, μ 222 ((4 * j) + 3)), (2, 205)] μ1 [] rfl trivial ?_
            refine pm_call hK zmm311 (349, 0, 309, 2) zM309 (0, 0) [(2, 205), (0, μ 222 ((4 * j) + 3)), (0, μ 222 ((4 * j) + 2))] [] rfl rfl rfl rfl ⟨by omega, by rw [zn309]; omega⟩ (fr_thing hK (c := (μ 222 ((4 * j) + 3))) (s := (μ 222 ((4 * j) + 2))) hTμ1 ⟨by omega, by omega⟩ ⟨by omega, by omega⟩ (by omega) hb206 ⟨Nat.le_refl _, Nat.le_refl _⟩) (fun st4 μc4 hp4 => ?_)
            obtain ⟨rfl, hTc4, ht4, hf4⟩ := hp4
            have htt := ht4
            have hfo := hf4
            have hF : ∀ r, r ≠ 206 → μc4 r = μ r := fun r hr => (hf4 r hr).trans (hF r hr)
            refine pm_blk hK zmm311 [] 4 133 [(2, 205), (0, 4 * j), (0, μ 222 ((4 * j) + 2)), (0, μ 222 ((4 * j) + 3))] [(0, μ 222 ((4 * j) + 2)), (0, μ 222 ((4 * j) + 3)), (0, 1), (2, 205)] μc4 [] rfl trivial ?_
            have hthc := fa_th_r hth (hF 205 (by decide))
            refine pm_call hK zmm311 (352, 0, 310, 3) zM310 (0, 0) [(2, 205), (0, 1), (0, μ 222 ((4 * j) + 3)), (0, μ 222 ((4 * j) + 2))] [] rfl rfl rfl rfl ⟨by omega, by rw [zn310]; omega⟩ (fr_note hK (th := th) (k := 1) (w := (μ 222 ((4 * j) + 3))) (v := (μ 222 ((4 * j) + 2))) hthc hTc4 ⟨by omega, by omega⟩ ⟨by omega, by omega⟩ ⟨by omega, by omega⟩ hb206 hb210 ⟨Nat.le_refl _, Nat.le_refl _⟩) (fun st5 μc5 hp5 => ?_)
            obtain ⟨rfl, hTc5, hn5, hf5⟩ := hp5
            have hnn := hn5
            have hff := hf5
            first
            | omega
            | exact pm_vret rfl rfl ⟨rfl, hTc5, by rw [n0, hF 210 (by decide)]; exact (fa_deed_0 (by omega)).symm, fun r a b => hF r a⟩
            | exact pm_vret rfl rfl ⟨rfl, hTc5, by rw [n1, hF 210 (by decide)]; exact (fa_deed_1 (by omega)).symm, fun r a b => hF r a⟩
            | exact pm_vret rfl rfl ⟨rfl, hTc5, by rw [n2, hF 210 (by decide)]; exact (fa_deed_2 (by omega)).symm, fun r a b => hF r a⟩
            | exact pm_vret rfl rfl ⟨rfl, hTc5, (fa_deed_z ⟨by omega, by omega, by omega⟩ (by omega)).symm, fun _ _ _ => rfl⟩
            | exact pm_vret rfl rfl ⟨rfl, hTc5, by rw [hnn, htt, hfo 210 (by decide)]; exact (fa_deed_n ⟨by omega, by omega, by omega⟩ (by omega)).symm, fun r a b => (hff r a b).trans (hF r a)⟩
            | (exfalso; omega)
          · have h6 : μ1 206 (4 + (μ 222 ((4 * j) + 2))) = (0 : Int) := h6
            first
            | omega
            | exact pm_vret rfl rfl ⟨rfl, hTμ1, by rw [n0, hF 210 (by decide)]; exact (fa_deed_0 (by omega)).symm, fun r a b => hF r a⟩
            | exact pm_vret rfl rfl ⟨rfl, hTμ1, by rw [n1, hF 210 (by decide)]; exact (fa_deed_1 (by omega)).symm, fun r a b => hF r a⟩
            | exact pm_vret rfl rfl ⟨rfl, hTμ1, by rw [n2, hF 210 (by decide)]; exact (fa_deed_2 (by omega)).symm, fun r a b => hF r a⟩
            | exact pm_vret rfl rfl ⟨rfl, hTμ1, (fa_deed_z ⟨by omega, by omega, by omega⟩ (by omega)).symm, fun _ _ _ => rfl⟩
            | exact pm_vret rfl rfl ⟨rfl, hTμ1, by rw [hnn, htt, hfo 210 (by decide)]; exact (fa_deed_n ⟨by omega, by omega, by omega⟩ (by omega)).symm, fun r a b => (hff r a b).trans (hF r a)⟩
            | (exfalso; omega)
    · have h1 : μ 222 ((4 * j) + 1) = (1 : Int) := h1
      refine pm_blk hK zmm311 [] 7 60 [(2, 205), (0, 4 * j), (0, μ 222 ((4 * j) + 2)), (0, μ 222 ((4 * j) + 3))] [] (pm_up μ 206 (16 + (μ 222 ((4 * j) + 2))) (μ 222 ((4 * j) + 3))) [pm_in (16 + (μ 222 ((4 * j) + 2))), sx_bit Wm 206 = true, 0 ≤ 16 + (μ 222 ((4 * j) + 2)) ∧ 16 + (μ 222 ((4 * j) + 2)) < 160] rfl ⟨pm_in_mk (by omega) (by omega), hb206, ⟨by omega, by omega⟩, trivial⟩ ?_
      obtain ⟨μ2, eμ2⟩ : ∃ μ', μ' = pm_up μ 206 (16 + (μ 222 ((4 * j) + 2))) (μ 222 ((4 * j) + 3)) := ⟨_, rfl⟩
      rw [← eμ2]
      have hTμ2 : zTJ φ μ2 := by rw [eμ2]; exact zT_up hT zs206_4 rfl (i := 16 + (μ 222 ((4 * j) + 2))) (by omega) (by omega) (by omega) (by omega)
      have hF : ∀ r, r ≠ 206 → μ2 r = μ r := fun r hr => ((by rw [eμ2, pm_up_row hr] : μ2 r = μ r)).trans (hF r hr)
      have q1 : μ2 222 (4 * j + 1) = μ 222 (4 * j + 1) := by rw [hF 222 (by decide)]
      have n1 : μ2 206 = fa_up (μ 206) (16 + μ 222 (4 * j + 2)) (μ 222 (4 * j + 3)) := by rw [eμ2, fa_pm]
      have g9 : μ2 222 ((4 * j) + 1) = μ 222 ((4 * j) + 1) := by rw [eμ2, pm_up_off (by decide)]
      have f10 := zT_getp hTμ2 zp222_1 (i := (4 * j) + 1) (z := j) (by omega) (by omega) (by omega)
      refine pm_blk hK zmm311 [] 7 69 [(2, 205), (0, 4 * j), (0, μ 222 ((4 * j) + 2)), (0, μ 222 ((4 * j) + 3))] [(0, 2), (0, μ2 222 ((4 * j) + 1))] μ2 [pm_in ((4 * j) + 1), 0 ≤ (4 * j) + 1 ∧ (4 * j) + 1 < 128] rfl ⟨pm_in_mk (by omega) (by omega), ⟨by omega, by omega⟩, trivial⟩ ?_
      refine pm_icmp hK zmm311 .ne 30 99 rfl rfl (fun h7 => ?_) (fun h7 => ?_)
      · have h7 : μ2 222 ((4 * j) + 1) ≠ (2 : Int) := h7
        refine pm_blk hK zmm311 [] 7 108 [(2, 205), (0, 4 * j), (0, μ 222 ((4 * j) + 2)), (0, μ 222 ((4 * j) + 3))] [(0, 3), (0, μ2 222 ((4 * j) + 1))] μ2 [pm_in ((4 * j) + 1), 0 ≤ (4 * j) + 1 ∧ (4 * j) + 1 < 128] rfl ⟨pm_in_mk (by omega) (by omega), ⟨by omega, by omega⟩, trivial⟩ ?_
        refine pm_icmp hK zmm311 .ne 14 122 rfl rfl (fun h8 => ?_) (fun h8 => ?_)
        · have h8 : μ2 222 ((4 * j) + 1) ≠ (3 : Int) := h8
          first
          | omega
          | exact pm_vret rfl rfl ⟨rfl, hTμ2, by rw [n0, hF 210 (by decide)]; exact (fa_deed_0 (by omega)).symm, fun r a b => hF r a⟩
          | exact pm_vret rfl rfl ⟨rfl, hTμ2, by rw [n1, hF 210 (by decide)]; exact (fa_deed_1 (by omega)).symm, fun r a b => hF r a⟩
          | exact pm_vret rfl rfl ⟨rfl, hTμ2, by rw [n2, hF 210 (by decide)]; exact (fa_deed_2 (by omega)).symm, fun r a b => hF r a⟩
          | exact pm_vret rfl rfl ⟨rfl, hTμ2, (fa_deed_z ⟨by omega, by omega, by omega⟩ (by omega)).symm, fun _ _ _ => rfl⟩
          | exact pm_vret rfl rfl ⟨rfl, hTμ2, by rw [hnn, htt, hfo 210 (by decide)]; exact (fa_deed_n ⟨by omega, by omega, by omega⟩ (by omega)).symm, fun r a b => (hff r a b).trans (hF r a)⟩
          | (exfalso; omega)
        · have h8 : μ2 222 ((4 * j) + 1) = (3 : Int) := h8
          have f11 := zT_get hTμ2 zs206_4 (i := 4 + (μ 222 ((4 * j) + 2))) (by omega) (by omega)
          refine pm_blk hK zmm311 [] 6 119 [(2, 205), (0, 4 * j), (0, μ 222 ((4 * j) + 2)), (0, μ 222 ((4 * j) + 3))] [(0, μ2 206 (4 + (μ 222 ((4 * j) + 2))))] μ2 [pm_in (4 + (μ 222 ((4 * j) + 2))), 0 ≤ 4 + (μ 222 ((4 * j) + 2)) ∧ 4 + (μ 222 ((4 * j) + 2)) < 160] rfl ⟨pm_in_mk (by omega) (by omega), ⟨by omega, by omega⟩, trivial⟩ ?_
          refine pm_if hK zmm311 .ne 4 123 rfl rfl (fun h9 => ?_) (fun h9 => ?_)
          · have h9 : μ2 206 (4 + (μ 222 ((4 * j) + 2))) ≠ (0 : Int) := h9
            refine pm_blk hK zmm311 [] 3 126 [(2, 205), (0, 4 * j), (0, μ 222 ((4 * j) + 2)), (0, μ 222 ((4 * j) + 3))] [(0, μ 222 ((4 * j) + 2)), (0, μ 222 ((4 * j) + 3)), (2, 205)] μ2 [] rfl trivial ?_
            refine pm_call hK zmm311 (349, 0, 309, 2) zM309 (0, 0) [(2, 205), (0, μ 222 ((4 * j) + 3)), (0, μ 222 ((4 * j) + 2))] [] rfl rfl rfl rfl ⟨by omega, by rw [zn309]; omega⟩ (fr_thing hK (c := (μ 222 ((4 * j) + 3))) (s := (μ 222 ((4 * j) + 2))) hTμ2 ⟨by omega, by omega⟩ ⟨by omega, by omega⟩ (by omega) hb206 ⟨Nat.le_refl _, Nat.le_refl _⟩) (fun st6 μc6 hp6 => ?_)
            obtain ⟨rfl, hTc6, ht6, hf6⟩ := hp6
            have htt := ht6
            have hfo := hf6
            have hF : ∀ r, r ≠ 206 → μc6 r = μ r := fun r hr => (hf6 r hr).trans (hF r hr)
            refine pm_blk hK zmm311 [] 4 133 [(2, 205), (0, 4 * j), (0, μ 222 ((4 * j) + 2)), (0, μ 222 ((4 * j) + 3))] [(0, μ 222 ((4 * j) + 2)), (0, μ 222 ((4 * j) + 3)), (0, 1), (2, 205)] μc6 [] rfl trivial ?_
            have hthc := fa_th_r hth (hF 205 (by decide))
            refine pm_call hK zmm311 (352, 0, 310, 3) zM310 (0, 0) [(2, 205), (0, 1), (0, μ 222 ((4 * j) + 3)), (0, μ 222 ((4 * j) + 2))] [] rfl rfl rfl rfl ⟨by omega, by rw [zn310]; omega⟩ (fr_note hK (th := th) (k := 1) (w := (μ 222 ((4 * j) + 3))) (v := (μ 222 ((4 * j) + 2))) hthc hTc6 ⟨by omega, by omega⟩ ⟨by omega, by omega⟩ ⟨by omega, by omega⟩ hb206 hb210 ⟨Nat.le_refl _, Nat.le_refl _⟩) (fun st7 μc7 hp7 => ?_)
            obtain ⟨rfl, hTc7, hn7, hf7⟩ := hp7
            have hnn := hn7
            have hff := hf7
            first
            | omega
            | exact pm_vret rfl rfl ⟨rfl, hTc7, by rw [n0, hF 210 (by decide)]; exact (fa_deed_0 (by omega)).symm, fun r a b => hF r a⟩
            | exact pm_vret rfl rfl ⟨rfl, hTc7, by rw [n1, hF 210 (by decide)]; exact (fa_deed_1 (by omega)).symm, fun r a b => hF r a⟩
            | exact pm_vret rfl rfl ⟨rfl, hTc7, by rw [n2, hF 210 (by decide)]; exact (fa_deed_2 (by omega)).symm, fun r a b => hF r a⟩
            | exact pm_vret rfl rfl ⟨rfl, hTc7, (fa_deed_z ⟨by omega, by omega, by omega⟩ (by omega)).symm, fun _ _ _ => rfl⟩
            | exact pm_vret rfl rfl ⟨rfl, hTc7, by rw [hnn, htt, hfo 210 (by decide)]; exact (fa_deed_n ⟨by omega, by omega, by omega⟩ (by omega)).symm, fun r a b => (hff r a b).trans (hF r a)⟩
            | (exfalso; omega)
          · have h9 : μ2 206 (4 + (μ 222 ((4 * j) + 2))) = (0 : Int) := h9
            first
            | omega
            | exact pm_vret rfl rfl ⟨rfl, hTμ2, by rw [n0, hF 210 (by decide)]; exact (fa_deed_0 (by omega)).symm, fun r a b => hF r a⟩
            | exact pm_vret rfl rfl ⟨rfl, hTμ2, by rw [n1, hF 210 (by decide)]; exact (fa_deed_1 (by omega)).symm, fun r a b => hF r a⟩
            | exact pm_vret rfl rfl ⟨rfl, hTμ2, by rw [n2, hF 210 (by decide)]; exact (fa_deed_2 (by omega)).symm, fun r a b => hF r a⟩
            | exact pm_vret rfl rfl ⟨rfl, hTμ2, (fa_deed_z ⟨by omega, by omega, by omega⟩ (by omega)).symm, fun _ _ _ => rfl⟩
            | exact pm_vret rfl rfl ⟨rfl, hTμ2, by rw [hnn, htt, hfo 210 (by decide)]; exact (fa_deed_n ⟨by omega, by omega, by omega⟩ (by omega)).symm, fun r a b => (hff r a b).trans (hF r a)⟩
            | (exfalso; omega)
      · have h7 : μ2 222 ((4 * j) + 1) = (2 : Int) := h7
        have f12 := zT_get hTμ2 zs206_88 (i := 88 + (μ 222 ((4 * j) + 2))) (by omega) (by omega)
        refine pm_blk hK zmm311 [] 15 95 [(2, 205), (0, 4 * j), (0, μ 222 ((4 * j) + 2)), (0, μ 222 ((4 * j) + 3))] [(0, (μ2 206 (88 + (μ 222 ((4 * j) + 2)))) + (μ 222 ((4 * j) + 3))), (0, 9999), (2, 205), (0, 88 + (μ 222 ((4 * j) + 2))), (2, 206)] μ2 [pm_in (88 + (μ 222 ((4 * j) + 2))), pm_in (88 + (μ 222 ((4 * j) + 2))), 0 ≤ 88 + (μ 222 ((4 * j) + 2)) ∧ 88 + (μ 222 ((4 * j) + 2)) < 160, pm_in ((μ2 206 (88 + (μ 222 ((4 * j) + 2)))) + (μ 222 ((4 * j) + 3)))] rfl ⟨pm_in_mk (by omega) (by omega), pm_in_mk (by omega) (by omega), ⟨by omega, by omega⟩, pm_in_mk (by omega) (by omega), trivial⟩ ?_
        refine pm_call hK zmm311 (377, 0, 157, 2) zM157 (0, 0) [(2, 205), (0, 9999), (0, (μ2 206 (88 + (μ 222 ((4 * j) + 2)))) + (μ 222 ((4 * j) + 3)))] [(0, 88 + (μ 222 ((4 * j) + 2))), (2, 206)] rfl rfl rfl rfl ⟨by omega, by rw [zn157]; omega⟩ (zh_lesser hK ⟨by omega, by omega⟩) (fun st8 μc8 hp8 => ?_)
        obtain ⟨rfl, rfl⟩ := hp8
        refine pm_blk hK zmm311 [] 1 99 [(2, 205), (0, 4 * j), (0, μ 222 ((4 * j) + 2)), (0, μ 222 ((4 * j) + 3))] [] (pm_up μ2 206 (88 + (μ 222 ((4 * j) + 2))) (min 9999 ((μ2 206 (88 + (μ 222 ((4 * j) + 2)))) + (μ 222 ((4 * j) + 3))))) [sx_bit Wm 206 = true, 0 ≤ 88 + (μ 222 ((4 * j) + 2)) ∧ 88 + (μ 222 ((4 * j) + 2)) < 160] rfl ⟨hb206, ⟨by omega, by omega⟩, trivial⟩ ?_
        obtain ⟨μ3, eμ3⟩ : ∃ μ', μ' = pm_up μ2 206 (88 + (μ 222 ((4 * j) + 2))) (min 9999 ((μ2 206 (88 + (μ 222 ((4 * j) + 2)))) + (μ 222 ((4 * j) + 3)))) := ⟨_, rfl⟩
        rw [← eμ3]
        have hTμ3 : zTJ φ μ3 := by rw [eμ3]; exact zT_up hTμ2 zs206_88 rfl (i := 88 + (μ 222 ((4 * j) + 2))) (by omega) (by omega) (by omega) (by omega)
        have hF : ∀ r, r ≠ 206 → μ3 r = μ r := fun r hr => ((by rw [eμ3, pm_up_row hr] : μ3 r = μ2 r)).trans (hF r hr)
        have q2 : μ3 222 (4 * j + 1) = μ 222 (4 * j + 1) := by rw [hF 222 (by decide)]
        have n2 : μ3 206 = fa_up (μ2 206) (88 + μ 222 (4 * j + 2)) (min 9999 (μ2 206 (88 + μ 222 (4 * j + 2)) + μ 222 (4 * j + 3))) := by rw [eμ3, fa_pm]
        have g13 : μ3 222 ((4 * j) + 1) = μ 222 ((4 * j) + 1) := by rw [eμ3, pm_up_off (by decide), eμ2, pm_up_off (by decide)]
        have f14 := zT_getp hTμ3 zp222_1 (i := (4 * j) + 1) (z := j) (by omega) (by omega) (by omega)
        refine pm_blk hK zmm311 [] 7 108 [(2, 205), (0, 4 * j), (0, μ 222 ((4 * j) + 2)), (0, μ 222 ((4 * j) + 3))] [(0, 3), (0, μ3 222 ((4 * j) + 1))] μ3 [pm_in ((4 * j) + 1), 0 ≤ (4 * j) + 1 ∧ (4 * j) + 1 < 128] rfl ⟨pm_in_mk (by omega) (by omega), ⟨by omega, by omega⟩, trivial⟩ ?_
        refine pm_icmp hK zmm311 .ne 14 122 rfl rfl (fun h10 => ?_) (fun h10 => ?_)
        · have h10 : μ3 222 ((4 * j) + 1) ≠ (3 : Int) := h10
          first
          | omega
          | exact pm_vret rfl rfl ⟨rfl, hTμ3, by rw [n0, hF 210 (by decide)]; exact (fa_deed_0 (by omega)).symm, fun r a b => hF r a⟩
          | exact pm_vret rfl rfl ⟨rfl, hTμ3, by rw [n1, hF 210 (by decide)]; exact (fa_deed_1 (by omega)).symm, fun r a b => hF r a⟩
          | exact pm_vret rfl rfl ⟨rfl, hTμ3, by rw [n2, hF 210 (by decide)]; exact (fa_deed_2 (by omega)).symm, fun r a b => hF r a⟩
          | exact pm_vret rfl rfl ⟨rfl, hTμ3, (fa_deed_z ⟨by omega, by omega, by omega⟩ (by omega)).symm, fun _ _ _ => rfl⟩
          | exact pm_vret rfl rfl ⟨rfl, hTμ3, by rw [hnn, htt, hfo 210 (by decide)]; exact (fa_deed_n ⟨by omega, by omega, by omega⟩ (by omega)).symm, fun r a b => (hff r a b).trans (hF r a)⟩
          | (exfalso; omega)
        · have h10 : μ3 222 ((4 * j) + 1) = (3 : Int) := h10
          have f15 := zT_get hTμ3 zs206_4 (i := 4 + (μ 222 ((4 * j) + 2))) (by omega) (by omega)
          refine pm_blk hK zmm311 [] 6 119 [(2, 205), (0, 4 * j), (0, μ 222 ((4 * j) + 2)), (0, μ 222 ((4 * j) + 3))] [(0, μ3 206 (4 + (μ 222 ((4 * j) + 2))))] μ3 [pm_in (4 + (μ 222 ((4 * j) + 2))), 0 ≤ 4 + (μ 222 ((4 * j) + 2)) ∧ 4 + (μ 222 ((4 * j) + 2)) < 160] rfl ⟨pm_in_mk (by omega) (by omega), ⟨by omega, by omega⟩, trivial⟩ ?_
          refine pm_if hK zmm311 .ne 4 123 rfl rfl (fun h11 => ?_) (fun h11 => ?_)
          · have h11 : μ3 206 (4 + (μ 222 ((4 * j) + 2))) ≠ (0 : Int) := h11
            refine pm_blk hK zmm311 [] 3 126 [(2, 205), (0, 4 * j), (0, μ 222 ((4 * j) + 2)), (0, μ 222 ((4 * j) + 3))] [(0, μ 222 ((4 * j) + 2)), (0, μ 222 ((4 * j) + 3)), (2, 205)] μ3 [] rfl trivial ?_
            refine pm_call hK zmm311 (349, 0, 309, 2) zM309 (0, 0) [(2, 205), (0, μ 222 ((4 * j) + 3)), (0, μ 222 ((4 * j) + 2))] [] rfl rfl rfl rfl ⟨by omega, by rw [zn309]; omega⟩ (fr_thing hK (c := (μ 222 ((4 * j) + 3))) (s := (μ 222 ((4 * j) + 2))) hTμ3 ⟨by omega, by omega⟩ ⟨by omega, by omega⟩ (by omega) hb206 ⟨Nat.le_refl _, Nat.le_refl _⟩) (fun st9 μc9 hp9 => ?_)
            obtain ⟨rfl, hTc9, ht9, hf9⟩ := hp9
            have htt := ht9
            have hfo := hf9
            have hF : ∀ r, r ≠ 206 → μc9 r = μ r := fun r hr => (hf9 r hr).trans (hF r hr)
            refine pm_blk hK zmm311 [] 4 133 [(2, 205), (0, 4 * j), (0, μ 222 ((4 * j) + 2)), (0, μ 222 ((4 * j) + 3))] [(0, μ 222 ((4 * j) + 2)), (0, μ 222 ((4 * j) + 3)), (0, 1), (2, 205)] μc9 [] rfl trivial ?_
            have hthc := fa_th_r hth (hF 205 (by decide))
            refine pm_call hK zmm311 (352, 0, 310, 3) zM310 (0, 0) [(2, 205), (0, 1), (0, μ 222 ((4 * j) + 3)), (0, μ 222 ((4 * j) + 2))] [] rfl rfl rfl rfl ⟨by omega, by rw [zn310]; omega⟩ (fr_note hK (th := th) (k := 1) (w := (μ 222 ((4 * j) + 3))) (v := (μ 222 ((4 * j) + 2))) hthc hTc9 ⟨by omega, by omega⟩ ⟨by omega, by omega⟩ ⟨by omega, by omega⟩ hb206 hb210 ⟨Nat.le_refl _, Nat.le_refl _⟩) (fun st10 μc10 hp10 => ?_)
            obtain ⟨rfl, hTc10, hn10, hf10⟩ := hp10
            have hnn := hn10
            have hff := hf10
            first
            | omega
            | exact pm_vret rfl rfl ⟨rfl, hTc10, by rw [n0, hF 210 (by decide)]; exact (fa_deed_0 (by omega)).symm, fun r a b => hF r a⟩
            | exact pm_vret rfl rfl ⟨rfl, hTc10, by rw [n1, hF 210 (by decide)]; exact (fa_deed_1 (by omega)).symm, fun r a b => hF r a⟩
            | exact pm_vret rfl rfl ⟨rfl, hTc10, by rw [n2, hF 210 (by decide)]; exact (fa_deed_2 (by omega)).symm, fun r a b => hF r a⟩
            | exact pm_vret rfl rfl ⟨rfl, hTc10, (fa_deed_z ⟨by omega, by omega, by omega⟩ (by omega)).symm, fun _ _ _ => rfl⟩
            | exact pm_vret rfl rfl ⟨rfl, hTc10, by rw [hnn, htt, hfo 210 (by decide)]; exact (fa_deed_n ⟨by omega, by omega, by omega⟩ (by omega)).symm, fun r a b => (hff r a b).trans (hF r a)⟩
            | (exfalso; omega)
          · have h11 : μ3 206 (4 + (μ 222 ((4 * j) + 2))) = (0 : Int) := h11
            first
            | omega
            | exact pm_vret rfl rfl ⟨rfl, hTμ3, by rw [n0, hF 210 (by decide)]; exact (fa_deed_0 (by omega)).symm, fun r a b => hF r a⟩
            | exact pm_vret rfl rfl ⟨rfl, hTμ3, by rw [n1, hF 210 (by decide)]; exact (fa_deed_1 (by omega)).symm, fun r a b => hF r a⟩
            | exact pm_vret rfl rfl ⟨rfl, hTμ3, by rw [n2, hF 210 (by decide)]; exact (fa_deed_2 (by omega)).symm, fun r a b => hF r a⟩
            | exact pm_vret rfl rfl ⟨rfl, hTμ3, (fa_deed_z ⟨by omega, by omega, by omega⟩ (by omega)).symm, fun _ _ _ => rfl⟩
            | exact pm_vret rfl rfl ⟨rfl, hTμ3, by rw [hnn, htt, hfo 210 (by decide)]; exact (fa_deed_n ⟨by omega, by omega, by omega⟩ (by omega)).symm, fun r a b => (hff r a b).trans (hF r a)⟩
            | (exfalso; omega)
  · have h0 : μ 222 ((4 * j) + 1) = (0 : Int) := h0
    refine pm_blk hK zmm311 [] 7 38 [(2, 205), (0, 4 * j), (0, μ 222 ((4 * j) + 2)), (0, μ 222 ((4 * j) + 3))] [] (pm_up μ 206 (4 + (μ 222 ((4 * j) + 2))) (μ 222 ((4 * j) + 3))) [pm_in (4 + (μ 222 ((4 * j) + 2))), sx_bit Wm 206 = true, 0 ≤ 4 + (μ 222 ((4 * j) + 2)) ∧ 4 + (μ 222 ((4 * j) + 2)) < 160] rfl ⟨pm_in_mk (by omega) (by omega), hb206, ⟨by omega, by omega⟩, trivial⟩ ?_
    obtain ⟨μ4, eμ4⟩ : ∃ μ', μ' = pm_up μ 206 (4 + (μ 222 ((4 * j) + 2))) (μ 222 ((4 * j) + 3)) := ⟨_, rfl⟩
    rw [← eμ4]
    have hTμ4 : zTJ φ μ4 := by rw [eμ4]; exact zT_up hT zs206_4 rfl (i := 4 + (μ 222 ((4 * j) + 2))) (by omega) (by omega) (by omega) (by omega)
    have hF : ∀ r, r ≠ 206 → μ4 r = μ r := fun r hr => ((by rw [eμ4, pm_up_row hr] : μ4 r = μ r)).trans (hF r hr)
    have q0 : μ4 222 (4 * j + 1) = μ 222 (4 * j + 1) := by rw [hF 222 (by decide)]
    have n0 : μ4 206 = fa_up (μ 206) (4 + μ 222 (4 * j + 2)) (μ 222 (4 * j + 3)) := by rw [eμ4, fa_pm]
    have g16 : μ4 222 ((4 * j) + 1) = μ 222 ((4 * j) + 1) := by rw [eμ4, pm_up_off (by decide)]
    have f17 := zT_getp hTμ4 zp222_1 (i := (4 * j) + 1) (z := j) (by omega) (by omega) (by omega)
    refine pm_blk hK zmm311 [] 7 47 [(2, 205), (0, 4 * j), (0, μ 222 ((4 * j) + 2)), (0, μ 222 ((4 * j) + 3))] [(0, 1), (0, μ4 222 ((4 * j) + 1))] μ4 [pm_in ((4 * j) + 1), 0 ≤ (4 * j) + 1 ∧ (4 * j) + 1 < 128] rfl ⟨pm_in_mk (by omega) (by omega), ⟨by omega, by omega⟩, trivial⟩ ?_
    refine pm_icmp hK zmm311 .ne 13 60 rfl rfl (fun h12 => ?_) (fun h12 => ?_)
    · have h12 : μ4 222 ((4 * j) + 1) ≠ (1 : Int) := h12
      refine pm_blk hK zmm311 [] 7 69 [(2, 205), (0, 4 * j), (0, μ 222 ((4 * j) + 2)), (0, μ 222 ((4 * j) + 3))] [(0, 2), (0, μ4 222 ((4 * j) + 1))] μ4 [pm_in ((4 * j) + 1), 0 ≤ (4 * j) + 1 ∧ (4 * j) + 1 < 128] rfl ⟨pm_in_mk (by omega) (by omega), ⟨by omega, by omega⟩, trivial⟩ ?_
      refine pm_icmp hK zmm311 .ne 30 99 rfl rfl (fun h13 => ?_) (fun h13 => ?_)
      · have h13 : μ4 222 ((4 * j) + 1) ≠ (2 : Int) := h13
        refine pm_blk hK zmm311 [] 7 108 [(2, 205), (0, 4 * j), (0, μ 222 ((4 * j) + 2)), (0, μ 222 ((4 * j) + 3))] [(0, 3), (0, μ4 222 ((4 * j) + 1))] μ4 [pm_in ((4 * j) + 1), 0 ≤ (4 * j) + 1 ∧ (4 * j) + 1 < 128] rfl ⟨pm_in_mk (by omega) (by omega), ⟨by omega, by omega⟩, trivial⟩ ?_
        refine pm_icmp hK zmm311 .ne 14 122 rfl rfl (fun h14 => ?_) (fun h14 => ?_)
        · have h14 : μ4 222 ((4 * j) + 1) ≠ (3 : Int) := h14
          first
          | omega
          | exact pm_vret rfl rfl ⟨rfl, hTμ4, by rw [n0, hF 210 (by decide)]; exact (fa_deed_0 (by omega)).symm, fun r a b => hF r a⟩
          | exact pm_vret rfl rfl ⟨rfl, hTμ4, by rw [n1, hF 210 (by decide)]; exact (fa_deed_1 (by omega)).symm, fun r a b => hF r a⟩
          | exact pm_vret rfl rfl ⟨rfl, hTμ4, by rw [n2, hF 210 (by decide)]; exact (fa_deed_2 (by omega)).symm, fun r a b => hF r a⟩
          | exact pm_vret rfl rfl ⟨rfl, hTμ4, (fa_deed_z ⟨by omega, by omega, by omega⟩ (by omega)).symm, fun _ _ _ => rfl⟩
          | exact pm_vret rfl rfl ⟨rfl, hTμ4, by rw [hnn, htt, hfo 210 (by decide)]; exact (fa_deed_n ⟨by omega, by omega, by omega⟩ (by omega)).symm, fun r a b => (hff r a b).trans (hF r a)⟩
          | (exfalso; omega)
        · have h14 : μ4 222 ((4 * j) + 1) = (3 : Int) := h14
          have f18 := zT_get hTμ4 zs206_4 (i := 4 + (μ 222 ((4 * j) + 2))) (by omega) (by omega)
          refine pm_blk hK zmm311 [] 6 119 [(2, 205), (0, 4 * j), (0, μ 222 ((4 * j) + 2)), (0, μ 222 ((4 * j) + 3))] [(0, μ4 206 (4 + (μ 222 ((4 * j) + 2))))] μ4 [pm_in (4 + (μ 222 ((4 * j) + 2))), 0 ≤ 4 + (μ 222 ((4 * j) + 2)) ∧ 4 + (μ 222 ((4 * j) + 2)) < 160] rfl ⟨pm_in_mk (by omega) (by omega), ⟨by omega, by omega⟩, trivial⟩ ?_
          refine pm_if hK zmm311 .ne 4 123 rfl rfl (fun h15 => ?_) (fun h15 => ?_)
          · have h15 : μ4 206 (4 + (μ 222 ((4 * j) + 2))) ≠ (0 : Int) := h15
            refine pm_blk hK zmm311 [] 3 126 [(2, 205), (0, 4 * j), (0, μ 222 ((4 * j) + 2)), (0, μ 222 ((4 * j) + 3))] [(0, μ 222 ((4 * j) + 2)), (0, μ 222 ((4 * j) + 3)), (2, 205)] μ4 [] rfl trivial ?_
            refine pm_call hK zmm311 (349, 0, 309, 2) zM309 (0, 0) [(2, 205), (0, μ 222 ((4 * j) + 3)), (0, μ 222 ((4 * j) + 2))] [] rfl rfl rfl rfl ⟨by omega, by rw [zn309]; omega⟩ (fr_thing hK (c := (μ 222 ((4 * j) + 3))) (s := (μ 222 ((4 * j) + 2))) hTμ4 ⟨by omega, by omega⟩ ⟨by omega, by omega⟩ (by omega) hb206 ⟨Nat.le_refl _, Nat.le_refl _⟩) (fun st11 μc11 hp11 => ?_)
            obtain ⟨rfl, hTc11, ht11, hf11⟩ := hp11
            have htt := ht11
            have hfo := hf11
            have hF : ∀ r, r ≠ 206 → μc11 r = μ r := fun r hr => (hf11 r hr).trans (hF r hr)
            refine pm_blk hK zmm311 [] 4 133 [(2, 205), (0, 4 * j), (0, μ 222 ((4 * j) + 2)), (0, μ 222 ((4 * j) + 3))] [(0, μ 222 ((4 * j) + 2)), (0, μ 222 ((4 * j) + 3)), (0, 1), (2, 205)] μc11 [] rfl trivial ?_
            have hthc := fa_th_r hth (hF 205 (by decide))
            refine pm_call hK zmm311 (352, 0, 310, 3) zM310 (0, 0) [(2, 205), (0, 1), (0, μ 222 ((4 * j) + 3)), (0, μ 222 ((4 * j) + 2))] [] rfl rfl rfl rfl ⟨by omega, by rw [zn310]; omega⟩ (fr_note hK (th := th) (k := 1) (w := (μ 222 ((4 * j) + 3))) (v := (μ 222 ((4 * j) + 2))) hthc hTc11 ⟨by omega, by omega⟩ ⟨by omega, by omega⟩ ⟨by omega, by omega⟩ hb206 hb210 ⟨Nat.le_refl _, Nat.le_refl _⟩) (fun st12 μc12 hp12 => ?_)
            obtain ⟨rfl, hTc12, hn12, hf12⟩ := hp12
            have hnn := hn12
            have hff := hf12
            first
            | omega
            | exact pm_vret rfl rfl ⟨rfl, hTc12, by rw [n0, hF 210 (by decide)]; exact (fa_deed_0 (by omega)).symm, fun r a b => hF r a⟩
            | exact pm_vret rfl rfl ⟨rfl, hTc12, by rw [n1, hF 210 (by decide)]; exact (fa_deed_1 (by omega)).symm, fun r a b => hF r a⟩
            | exact pm_vret rfl rfl ⟨rfl, hTc12, by rw [n2, hF 210 (by decide)]; exact (fa_deed_2 (by omega)).symm, fun r a b => hF r a⟩
            | exact pm_vret rfl rfl ⟨rfl, hTc12, (fa_deed_z ⟨by omega, by omega, by omega⟩ (by omega)).symm, fun _ _ _ => rfl⟩
            | exact pm_vret rfl rfl ⟨rfl, hTc12, by rw [hnn, htt, hfo 210 (by decide)]; exact (fa_deed_n ⟨by omega, by omega, by omega⟩ (by omega)).symm, fun r a b => (hff r a b).trans (hF r a)⟩
            | (exfalso; omega)
          · have h15 : μ4 206 (4 + (μ 222 ((4 * j) + 2))) = (0 : Int) := h15
            first
            | omega
            | exact pm_vret rfl rfl ⟨rfl, hTμ4, by rw [n0, hF 210 (by decide)]; exact (fa_deed_0 (by omega)).symm, fun r a b => hF r a⟩
            | exact pm_vret rfl rfl ⟨rfl, hTμ4, by rw [n1, hF 210 (by decide)]; exact (fa_deed_1 (by omega)).symm, fun r a b => hF r a⟩
            | exact pm_vret rfl rfl ⟨rfl, hTμ4, by rw [n2, hF 210 (by decide)]; exact (fa_deed_2 (by omega)).symm, fun r a b => hF r a⟩
            | exact pm_vret rfl rfl ⟨rfl, hTμ4, (fa_deed_z ⟨by omega, by omega, by omega⟩ (by omega)).symm, fun _ _ _ => rfl⟩
            | exact pm_vret rfl rfl ⟨rfl, hTμ4, by rw [hnn, htt, hfo 210 (by decide)]; exact (fa_deed_n ⟨by omega, by omega, by omega⟩ (by omega)).symm, fun r a b => (hff r a b).trans (hF r a)⟩
            | (exfalso; omega)
      · have h13 : μ4 222 ((4 * j) + 1) = (2 : Int) := h13
        have f19 := zT_get hTμ4 zs206_88 (i := 88 + (μ 222 ((4 * j) + 2))) (by omega) (by omega)
        refine pm_blk hK zmm311 [] 15 95 [(2, 205), (0, 4 * j), (0, μ 222 ((4 * j) + 2)), (0, μ 222 ((4 * j) + 3))] [(0, (μ4 206 (88 + (μ 222 ((4 * j) + 2)))) + (μ 222 ((4 * j) + 3))), (0, 9999), (2, 205), (0, 88 + (μ 222 ((4 * j) + 2))), (2, 206)] μ4 [pm_in (88 + (μ 222 ((4 * j) + 2))), pm_in (88 + (μ 222 ((4 * j) + 2))), 0 ≤ 88 + (μ 222 ((4 * j) + 2)) ∧ 88 + (μ 222 ((4 * j) + 2)) < 160, pm_in ((μ4 206 (88 + (μ 222 ((4 * j) + 2)))) + (μ 222 ((4 * j) + 3)))] rfl ⟨pm_in_mk (by omega) (by omega), pm_in_mk (by omega) (by omega), ⟨by omega, by omega⟩, pm_in_mk (by omega) (by omega), trivial⟩ ?_
        refine pm_call hK zmm311 (377, 0, 157, 2) zM157 (0, 0) [(2, 205), (0, 9999), (0, (μ4 206 (88 + (μ 222 ((4 * j) + 2)))) + (μ 222 ((4 * j) + 3)))] [(0, 88 + (μ 222 ((4 * j) + 2))), (2, 206)] rfl rfl rfl rfl ⟨by omega, by rw [zn157]; omega⟩ (zh_lesser hK ⟨by omega, by omega⟩) (fun st13 μc13 hp13 => ?_)
        obtain ⟨rfl, rfl⟩ := hp13
        refine pm_blk hK zmm311 [] 1 99 [(2, 205), (0, 4 * j), (0, μ 222 ((4 * j) + 2)), (0, μ 222 ((4 * j) + 3))] [] (pm_up μ4 206 (88 + (μ 222 ((4 * j) + 2))) (min 9999 ((μ4 206 (88 + (μ 222 ((4 * j) + 2)))) + (μ 222 ((4 * j) + 3))))) [sx_bit Wm 206 = true, 0 ≤ 88 + (μ 222 ((4 * j) + 2)) ∧ 88 + (μ 222 ((4 * j) + 2)) < 160] rfl ⟨hb206, ⟨by omega, by omega⟩, trivial⟩ ?_
        obtain ⟨μ5, eμ5⟩ : ∃ μ', μ' = pm_up μ4 206 (88 + (μ 222 ((4 * j) + 2))) (min 9999 ((μ4 206 (88 + (μ 222 ((4 * j) + 2)))) + (μ 222 ((4 * j) + 3)))) := ⟨_, rfl⟩
        rw [← eμ5]
        have hTμ5 : zTJ φ μ5 := by rw [eμ5]; exact zT_up hTμ4 zs206_88 rfl (i := 88 + (μ 222 ((4 * j) + 2))) (by omega) (by omega) (by omega) (by omega)
        have hF : ∀ r, r ≠ 206 → μ5 r = μ r := fun r hr => ((by rw [eμ5, pm_up_row hr] : μ5 r = μ4 r)).trans (hF r hr)
        have q2 : μ5 222 (4 * j + 1) = μ 222 (4 * j + 1) := by rw [hF 222 (by decide)]
        have n2 : μ5 206 = fa_up (μ4 206) (88 + μ 222 (4 * j + 2)) (min 9999 (μ4 206 (88 + μ 222 (4 * j + 2)) + μ 222 (4 * j + 3))) := by rw [eμ5, fa_pm]
        have g20 : μ5 222 ((4 * j) + 1) = μ 222 ((4 * j) + 1) := by rw [eμ5, pm_up_off (by decide), eμ4, pm_up_off (by decide)]
        have f21 := zT_getp hTμ5 zp222_1 (i := (4 * j) + 1) (z := j) (by omega) (by omega) (by omega)
        refine pm_blk hK zmm311 [] 7 108 [(2, 205), (0, 4 * j), (0, μ 222 ((4 * j) + 2)), (0, μ 222 ((4 * j) + 3))] [(0, 3), (0, μ5 222 ((4 * j) + 1))] μ5 [pm_in ((4 * j) + 1), 0 ≤ (4 * j) + 1 ∧ (4 * j) + 1 < 128] rfl ⟨pm_in_mk (by omega) (by omega), ⟨by omega, by omega⟩, trivial⟩ ?_
        refine pm_icmp hK zmm311 .ne 14 122 rfl rfl (fun h16 => ?_) (fun h16 => ?_)
        · have h16 : μ5 222 ((4 * j) + 1) ≠ (3 : Int) := h16
          first
          | omega
          | exact pm_vret rfl rfl ⟨rfl, hTμ5, by rw [n0, hF 210 (by decide)]; exact (fa_deed_0 (by omega)).symm, fun r a b => hF r a⟩
          | exact pm_vret rfl rfl ⟨rfl, hTμ5, by rw [n1, hF 210 (by decide)]; exact (fa_deed_1 (by omega)).symm, fun r a b => hF r a⟩
          | exact pm_vret rfl rfl ⟨rfl, hTμ5, by rw [n2, hF 210 (by decide)]; exact (fa_deed_2 (by omega)).symm, fun r a b => hF r a⟩
          | exact pm_vret rfl rfl ⟨rfl, hTμ5, (fa_deed_z ⟨by omega, by omega, by omega⟩ (by omega)).symm, fun _ _ _ => rfl⟩
          | exact pm_vret rfl rfl ⟨rfl, hTμ5, by rw [hnn, htt, hfo 210 (by decide)]; exact (fa_deed_n ⟨by omega, by omega, by omega⟩ (by omega)).symm, fun r a b => (hff r a b).trans (hF r a)⟩
          | (exfalso; omega)
        · have h16 : μ5 222 ((4 * j) + 1) = (3 : Int) := h16
          have f22 := zT_get hTμ5 zs206_4 (i := 4 + (μ 222 ((4 * j) + 2))) (by omega) (by omega)
          refine pm_blk hK zmm311 [] 6 119 [(2, 205), (0, 4 * j), (0, μ 222 ((4 * j) + 2)), (0, μ 222 ((4 * j) + 3))] [(0, μ5 206 (4 + (μ 222 ((4 * j) + 2))))] μ5 [pm_in (4 + (μ 222 ((4 * j) + 2))), 0 ≤ 4 + (μ 222 ((4 * j) + 2)) ∧ 4 + (μ 222 ((4 * j) + 2)) < 160] rfl ⟨pm_in_mk (by omega) (by omega), ⟨by omega, by omega⟩, trivial⟩ ?_
          refine pm_if hK zmm311 .ne 4 123 rfl rfl (fun h17 => ?_) (fun h17 => ?_)
          · have h17 : μ5 206 (4 + (μ 222 ((4 * j) + 2))) ≠ (0 : Int) := h17
            refine pm_blk hK zmm311 [] 3 126 [(2, 205), (0, 4 * j), (0, μ 222 ((4 * j) + 2)), (0, μ 222 ((4 * j) + 3))] [(0, μ 222 ((4 * j) + 2)), (0, μ 222 ((4 * j) + 3)), (2, 205)] μ5 [] rfl trivial ?_
            refine pm_call hK zmm311 (349, 0, 309, 2) zM309 (0, 0) [(2, 205), (0, μ 222 ((4 * j) + 3)), (0, μ 222 ((4 * j) + 2))] [] rfl rfl rfl rfl ⟨by omega, by rw [zn309]; omega⟩ (fr_thing hK (c := (μ 222 ((4 * j) + 3))) (s := (μ 222 ((4 * j) + 2))) hTμ5 ⟨by omega, by omega⟩ ⟨by omega, by omega⟩ (by omega) hb206 ⟨Nat.le_refl _, Nat.le_refl _⟩) (fun st14 μc14 hp14 => ?_)
            obtain ⟨rfl, hTc14, ht14, hf14⟩ := hp14
            have htt := ht14
            have hfo := hf14
            have hF : ∀ r, r ≠ 206 → μc14 r = μ r := fun r hr => (hf14 r hr).trans (hF r hr)
            refine pm_blk hK zmm311 [] 4 133 [(2, 205), (0, 4 * j), (0, μ 222 ((4 * j) + 2)), (0, μ 222 ((4 * j) + 3))] [(0, μ 222 ((4 * j) + 2)), (0, μ 222 ((4 * j) + 3)), (0, 1), (2, 205)] μc14 [] rfl trivial ?_
            have hthc := fa_th_r hth (hF 205 (by decide))
            refine pm_call hK zmm311 (352, 0, 310, 3) zM310 (0, 0) [(2, 205), (0, 1), (0, μ 222 ((4 * j) + 3)), (0, μ 222 ((4 * j) + 2))] [] rfl rfl rfl rfl ⟨by omega, by rw [zn310]; omega⟩ (fr_note hK (th := th) (k := 1) (w := (μ 222 ((4 * j) + 3))) (v := (μ 222 ((4 * j) + 2))) hthc hTc14 ⟨by omega, by omega⟩ ⟨by omega, by omega⟩ ⟨by omega, by omega⟩ hb206 hb210 ⟨Nat.le_refl _, Nat.le_refl _⟩) (fun st15 μc15 hp15 => ?_)
            obtain ⟨rfl, hTc15, hn15, hf15⟩ := hp15
            have hnn := hn15
            have hff := hf15
            first
            | omega
            | exact pm_vret rfl rfl ⟨rfl, hTc15, by rw [n0, hF 210 (by decide)]; exact (fa_deed_0 (by omega)).symm, fun r a b => hF r a⟩
            | exact pm_vret rfl rfl ⟨rfl, hTc15, by rw [n1, hF 210 (by decide)]; exact (fa_deed_1 (by omega)).symm, fun r a b => hF r a⟩
            | exact pm_vret rfl rfl ⟨rfl, hTc15, by rw [n2, hF 210 (by decide)]; exact (fa_deed_2 (by omega)).symm, fun r a b => hF r a⟩
            | exact pm_vret rfl rfl ⟨rfl, hTc15, (fa_deed_z ⟨by omega, by omega, by omega⟩ (by omega)).symm, fun _ _ _ => rfl⟩
            | exact pm_vret rfl rfl ⟨rfl, hTc15, by rw [hnn, htt, hfo 210 (by decide)]; exact (fa_deed_n ⟨by omega, by omega, by omega⟩ (by omega)).symm, fun r a b => (hff r a b).trans (hF r a)⟩
            | (exfalso; omega)
          · have h17 : μ5 206 (4 + (μ 222 ((4 * j) + 2))) = (0 : Int) := h17
            first
            | omega
            | exact pm_vret rfl rfl ⟨rfl, hTμ5, by rw [n0, hF 210 (by decide)]; exact (fa_deed_0 (by omega)).symm, fun r a b => hF r a⟩
            | exact pm_vret rfl rfl ⟨rfl, hTμ5, by rw [n1, hF 210 (by decide)]; exact (fa_deed_1 (by omega)).symm, fun r a b => hF r a⟩
            | exact pm_vret rfl rfl ⟨rfl, hTμ5, by rw [n2, hF 210 (by decide)]; exact (fa_deed_2 (by omega)).symm, fun r a b => hF r a⟩
            | exact pm_vret rfl rfl ⟨rfl, hTμ5, (fa_deed_z ⟨by omega, by omega, by omega⟩ (by omega)).symm, fun _ _ _ => rfl⟩
            | exact pm_vret rfl rfl ⟨rfl, hTμ5, by rw [hnn, htt, hfo 210 (by decide)]; exact (fa_deed_n ⟨by omega, by omega, by omega⟩ (by omega)).symm, fun r a b => (hff r a b).trans (hF r a)⟩
            | (exfalso; omega)
    · have h12 : μ4 222 ((4 * j) + 1) = (1 : Int) := h12
      refine pm_blk hK zmm311 [] 7 60 [(2, 205), (0, 4 * j), (0, μ 222 ((4 * j) + 2)), (0, μ 222 ((4 * j) + 3))] [] (pm_up μ4 206 (16 + (μ 222 ((4 * j) + 2))) (μ 222 ((4 * j) + 3))) [pm_in (16 + (μ 222 ((4 * j) + 2))), sx_bit Wm 206 = true, 0 ≤ 16 + (μ 222 ((4 * j) + 2)) ∧ 16 + (μ 222 ((4 * j) + 2)) < 160] rfl ⟨pm_in_mk (by omega) (by omega), hb206, ⟨by omega, by omega⟩, trivial⟩ ?_
      obtain ⟨μ6, eμ6⟩ : ∃ μ', μ' = pm_up μ4 206 (16 + (μ 222 ((4 * j) + 2))) (μ 222 ((4 * j) + 3)) := ⟨_, rfl⟩
      rw [← eμ6]
      have hTμ6 : zTJ φ μ6 := by rw [eμ6]; exact zT_up hTμ4 zs206_4 rfl (i := 16 + (μ 222 ((4 * j) + 2))) (by omega) (by omega) (by omega) (by omega)
      have hF : ∀ r, r ≠ 206 → μ6 r = μ r := fun r hr => ((by rw [eμ6, pm_up_row hr] : μ6 r = μ4 r)).trans (hF r hr)
      have q1 : μ6 222 (4 * j + 1) = μ 222 (4 * j + 1) := by rw [hF 222 (by decide)]
      have n1 : μ6 206 = fa_up (μ4 206) (16 + μ 222 (4 * j + 2)) (μ 222 (4 * j + 3)) := by rw [eμ6, fa_pm]
      have g23 : μ6 222 ((4 * j) + 1) = μ 222 ((4 * j) + 1) := by rw [eμ6, pm_up_off (by decide), eμ4, pm_up_off (by decide)]
      have f24 := zT_getp hTμ6 zp222_1 (i := (4 * j) + 1) (z := j) (by omega) (by omega) (by omega)
      refine pm_blk hK zmm311 [] 7 69 [(2, 205), (0, 4 * j), (0, μ 222 ((4 * j) + 2)), (0, μ 222 ((4 * j) + 3))] [(0, 2), (0, μ6 222 ((4 * j) + 1))] μ6 [pm_in ((4 * j) + 1), 0 ≤ (4 * j) + 1 ∧ (4 * j) + 1 < 128] rfl ⟨pm_in_mk (by omega) (by omega), ⟨by omega, by omega⟩, trivial⟩ ?_
      refine pm_icmp hK zmm311 .ne 30 99 rfl rfl (fun h18 => ?_) (fun h18 => ?_)
      · have h18 : μ6 222 ((4 * j) + 1) ≠ (2 : Int) := h18
        refine pm_blk hK zmm311 [] 7 108 [(2, 205), (0, 4 * j), (0, μ 222 ((4 * j) + 2)), (0, μ 222 ((4 * j) + 3))] [(0, 3), (0, μ6 222 ((4 * j) + 1))] μ6 [pm_in ((4 * j) + 1), 0 ≤ (4 * j) + 1 ∧ (4 * j) + 1 < 128] rfl ⟨pm_in_mk (by omega) (by omega), ⟨by omega, by omega⟩, trivial⟩ ?_
        refine pm_icmp hK zmm311 .ne 14 122 rfl rfl (fun h19 => ?_) (fun h19 => ?_)
        · have h19 : μ6 222 ((4 * j) + 1) ≠ (3 : Int) := h19
          first
          | omega
          | exact pm_vret rfl rfl ⟨rfl, hTμ6, by rw [n0, hF 210 (by decide)]; exact (fa_deed_0 (by omega)).symm, fun r a b => hF r a⟩
          | exact pm_vret rfl rfl ⟨rfl, hTμ6, by rw [n1, hF 210 (by decide)]; exact (fa_deed_1 (by omega)).symm, fun r a b => hF r a⟩
          | exact pm_vret rfl rfl ⟨rfl, hTμ6, by rw [n2, hF 210 (by decide)]; exact (fa_deed_2 (by omega)).symm, fun r a b => hF r a⟩
          | exact pm_vret rfl rfl ⟨rfl, hTμ6, (fa_deed_z ⟨by omega, by omega, by omega⟩ (by omega)).symm, fun _ _ _ => rfl⟩
          | exact pm_vret rfl rfl ⟨rfl, hTμ6, by rw [hnn, htt, hfo 210 (by decide)]; exact (fa_deed_n ⟨by omega, by omega, by omega⟩ (by omega)).symm, fun r a b => (hff r a b).trans (hF r a)⟩
          | (exfalso; omega)
        · have h19 : μ6 222 ((4 * j) + 1) = (3 : Int) := h19
          have f25 := zT_get hTμ6 zs206_4 (i := 4 + (μ 222 ((4 * j) + 2))) (by omega) (by omega)
          refine pm_blk hK zmm311 [] 6 119 [(2, 205), (0, 4 * j), (0, μ 222 ((4 * j) + 2)), (0, μ 222 ((4 * j) + 3))] [(0, μ6 206 (4 + (μ 222 ((4 * j) + 2))))] μ6 [pm_in (4 + (μ 222 ((4 * j) + 2))), 0 ≤ 4 + (μ 222 ((4 * j) + 2)) ∧ 4 + (μ 222 ((4 * j) + 2)) < 160] rfl ⟨pm_in_mk (by omega) (by omega), ⟨by omega, by omega⟩, trivial⟩ ?_
          refine pm_if hK zmm311 .ne 4 123 rfl rfl (fun h20 => ?_) (fun h20 => ?_)
          · have h20 : μ6 206 (4 + (μ 222 ((4 * j) + 2))) ≠ (0 : Int) := h20
            refine pm_blk hK zmm311 [] 3 126 [(2, 205), (0, 4 * j), (0, μ 222 ((4 * j) + 2)), (0, μ 222 ((4 * j) + 3))] [(0, μ 222 ((4 * j) + 2)), (0, μ 222 ((4 * j) + 3)), (2, 205)] μ6 [] rfl trivial ?_
            refine pm_call hK zmm311 (349, 0, 309, 2) zM309 (0, 0) [(2, 205), (0, μ 222 ((4 * j) + 3)), (0, μ 222 ((4 * j) + 2))] [] rfl rfl rfl rfl ⟨by omega, by rw [zn309]; omega⟩ (fr_thing hK (c := (μ 222 ((4 * j) + 3))) (s := (μ 222 ((4 * j) + 2))) hTμ6 ⟨by omega, by omega⟩ ⟨by omega, by omega⟩ (by omega) hb206 ⟨Nat.le_refl _, Nat.le_refl _⟩) (fun st16 μc16 hp16 => ?_)
            obtain ⟨rfl, hTc16, ht16, hf16⟩ := hp16
            have htt := ht16
            have hfo := hf16
            have hF : ∀ r, r ≠ 206 → μc16 r = μ r := fun r hr => (hf16 r hr).trans (hF r hr)
            refine pm_blk hK zmm311 [] 4 133 [(2, 205), (0, 4 * j), (0, μ 222 ((4 * j) + 2)), (0, μ 222 ((4 * j) + 3))] [(0, μ 222 ((4 * j) + 2)), (0, μ 222 ((4 * j) + 3)), (0, 1), (2, 205)] μc16 [] rfl trivial ?_
            have hthc := fa_th_r hth (hF 205 (by decide))
            refine pm_call hK zmm311 (352, 0, 310, 3) zM310 (0, 0) [(2, 205), (0, 1), (0, μ 222 ((4 * j) + 3)), (0, μ 222 ((4 * j) + 2))] [] rfl rfl rfl rfl ⟨by omega, by rw [zn310]; omega⟩ (fr_note hK (th := th) (k := 1) (w := (μ 222 ((4 * j) + 3))) (v := (μ 222 ((4 * j) + 2))) hthc hTc16 ⟨by omega, by omega⟩ ⟨by omega, by omega⟩ ⟨by omega, by omega⟩ hb206 hb210 ⟨Nat.le_refl _, Nat.le_refl _⟩) (fun st17 μc17 hp17 => ?_)
            obtain ⟨rfl, hTc17, hn17, hf17⟩ := hp17
            have hnn := hn17
            have hff := hf17
            first
            | omega
            | exact pm_vret rfl rfl ⟨rfl, hTc17, by rw [n0, hF 210 (by decide)]; exact (fa_deed_0 (by omega)).symm, fun r a b => hF r a⟩
            | exact pm_vret rfl rfl ⟨rfl, hTc17, by rw [n1, hF 210 (by decide)]; exact (fa_deed_1 (by omega)).symm, fun r a b => hF r a⟩
            | exact pm_vret rfl rfl ⟨rfl, hTc17, by rw [n2, hF 210 (by decide)]; exact (fa_deed_2 (by omega)).symm, fun r a b => hF r a⟩
            | exact pm_vret rfl rfl ⟨rfl, hTc17, (fa_deed_z ⟨by omega, by omega, by omega⟩ (by omega)).symm, fun _ _ _ => rfl⟩
            | exact pm_vret rfl rfl ⟨rfl, hTc17, by rw [hnn, htt, hfo 210 (by decide)]; exact (fa_deed_n ⟨by omega, by omega, by omega⟩ (by omega)).symm, fun r a b => (hff r a b).trans (hF r a)⟩
            | (exfalso; omega)
          · have h20 : μ6 206 (4 + (μ 222 ((4 * j) + 2))) = (0 : Int) := h20
            first
            | omega
            | exact pm_vret rfl rfl ⟨rfl, hTμ6, by rw [n0, hF 210 (by decide)]; exact (fa_deed_0 (by omega)).symm, fun r a b => hF r a⟩
            | exact pm_vret rfl rfl ⟨rfl, hTμ6, by rw [n1, hF 210 (by decide)]; exact (fa_deed_1 (by omega)).symm, fun r a b => hF r a⟩
            | exact pm_vret rfl rfl ⟨rfl, hTμ6, by rw [n2, hF 210 (by decide)]; exact (fa_deed_2 (by omega)).symm, fun r a b => hF r a⟩
            | exact pm_vret rfl rfl ⟨rfl, hTμ6, (fa_deed_z ⟨by omega, by omega, by omega⟩ (by omega)).symm, fun _ _ _ => rfl⟩
            | exact pm_vret rfl rfl ⟨rfl, hTμ6, by rw [hnn, htt, hfo 210 (by decide)]; exact (fa_deed_n ⟨by omega, by omega, by omega⟩ (by omega)).symm, fun r a b => (hff r a b).trans (hF r a)⟩
            | (exfalso; omega)
      · have h18 : μ6 222 ((4 * j) + 1) = (2 : Int) := h18
        have f26 := zT_get hTμ6 zs206_88 (i := 88 + (μ 222 ((4 * j) + 2))) (by omega) (by omega)
        refine pm_blk hK zmm311 [] 15 95 [(2, 205), (0, 4 * j), (0, μ 222 ((4 * j) + 2)), (0, μ 222 ((4 * j) + 3))] [(0, (μ6 206 (88 + (μ 222 ((4 * j) + 2)))) + (μ 222 ((4 * j) + 3))), (0, 9999), (2, 205), (0, 88 + (μ 222 ((4 * j) + 2))), (2, 206)] μ6 [pm_in (88 + (μ 222 ((4 * j) + 2))), pm_in (88 + (μ 222 ((4 * j) + 2))), 0 ≤ 88 + (μ 222 ((4 * j) + 2)) ∧ 88 + (μ 222 ((4 * j) + 2)) < 160, pm_in ((μ6 206 (88 + (μ 222 ((4 * j) + 2)))) + (μ 222 ((4 * j) + 3)))] rfl ⟨pm_in_mk (by omega) (by omega), pm_in_mk (by omega) (by omega), ⟨by omega, by omega⟩, pm_in_mk (by omega) (by omega), trivial⟩ ?_
        refine pm_call hK zmm311 (377, 0, 157, 2) zM157 (0, 0) [(2, 205), (0, 9999), (0, (μ6 206 (88 + (μ 222 ((4 * j) + 2)))) + (μ 222 ((4 * j) + 3)))] [(0, 88 + (μ 222 ((4 * j) + 2))), (2, 206)] rfl rfl rfl rfl ⟨by omega, by rw [zn157]; omega⟩ (zh_lesser hK ⟨by omega, by omega⟩) (fun st18 μc18 hp18 => ?_)
        obtain ⟨rfl, rfl⟩ := hp18
        refine pm_blk hK zmm311 [] 1 99 [(2, 205), (0, 4 * j), (0, μ 222 ((4 * j) + 2)), (0, μ 222 ((4 * j) + 3))] [] (pm_up μ6 206 (88 + (μ 222 ((4 * j) + 2))) (min 9999 ((μ6 206 (88 + (μ 222 ((4 * j) + 2)))) + (μ 222 ((4 * j) + 3))))) [sx_bit Wm 206 = true, 0 ≤ 88 + (μ 222 ((4 * j) + 2)) ∧ 88 + (μ 222 ((4 * j) + 2)) < 160] rfl ⟨hb206, ⟨by omega, by omega⟩, trivial⟩ ?_
        obtain ⟨μ7, eμ7⟩ : ∃ μ', μ' = pm_up μ6 206 (88 + (μ 222 ((4 * j) + 2))) (min 9999 ((μ6 206 (88 + (μ 222 ((4 * j) + 2)))) + (μ 222 ((4 * j) + 3)))) := ⟨_, rfl⟩
        rw [← eμ7]
        have hTμ7 : zTJ φ μ7 := by rw [eμ7]; exact zT_up hTμ6 zs206_88 rfl (i := 88 + (μ 222 ((4 * j) + 2))) (by omega) (by omega) (by omega) (by omega)
        have hF : ∀ r, r ≠ 206 → μ7 r = μ r := fun r hr => ((by rw [eμ7, pm_up_row hr] : μ7 r = μ6 r)).trans (hF r hr)
        have q2 : μ7 222 (4 * j + 1) = μ 222 (4 * j + 1) := by rw [hF 222 (by decide)]
        have n2 : μ7 206 = fa_up (μ6 206) (88 + μ 222 (4 * j + 2)) (min 9999 (μ6 206 (88 + μ 222 (4 * j + 2)) + μ 222 (4 * j + 3))) := by rw [eμ7, fa_pm]
        have g27 : μ7 222 ((4 * j) + 1) = μ 222 ((4 * j) + 1) := by rw [eμ7, pm_up_off (by decide), eμ6, pm_up_off (by decide), eμ4, pm_up_off (by decide)]
        have f28 := zT_getp hTμ7 zp222_1 (i := (4 * j) + 1) (z := j) (by omega) (by omega) (by omega)
        refine pm_blk hK zmm311 [] 7 108 [(2, 205), (0, 4 * j), (0, μ 222 ((4 * j) + 2)), (0, μ 222 ((4 * j) + 3))] [(0, 3), (0, μ7 222 ((4 * j) + 1))] μ7 [pm_in ((4 * j) + 1), 0 ≤ (4 * j) + 1 ∧ (4 * j) + 1 < 128] rfl ⟨pm_in_mk (by omega) (by omega), ⟨by omega, by omega⟩, trivial⟩ ?_
        refine pm_icmp hK zmm311 .ne 14 122 rfl rfl (fun h21 => ?_) (fun h21 => ?_)
        · have h21 : μ7 222 ((4 * j) + 1) ≠ (3 : Int) := h21
          first
          | omega
          | exact pm_vret rfl rfl ⟨rfl, hTμ7, by rw [n0, hF 210 (by decide)]; exact (fa_deed_0 (by omega)).symm, fun r a b => hF r a⟩
          | exact pm_vret rfl rfl ⟨rfl, hTμ7, by rw [n1, hF 210 (by decide)]; exact (fa_deed_1 (by omega)).symm, fun r a b => hF r a⟩
          | exact pm_vret rfl rfl ⟨rfl, hTμ7, by rw [n2, hF 210 (by decide)]; exact (fa_deed_2 (by omega)).symm, fun r a b => hF r a⟩
          | exact pm_vret rfl rfl ⟨rfl, hTμ7, (fa_deed_z ⟨by omega, by omega, by omega⟩ (by omega)).symm, fun _ _ _ => rfl⟩
          | exact pm_vret rfl rfl ⟨rfl, hTμ7, by rw [hnn, htt, hfo 210 (by decide)]; exact (fa_deed_n ⟨by omega, by omega, by omega⟩ (by omega)).symm, fun r a b => (hff r a b).trans (hF r a)⟩
          | (exfalso; omega)
        · have h21 : μ7 222 ((4 * j) + 1) = (3 : Int) := h21
          have f29 := zT_get hTμ7 zs206_4 (i := 4 + (μ 222 ((4 * j) + 2))) (by omega) (by omega)
          refine pm_blk hK zmm311 [] 6 119 [(2, 205), (0, 4 * j), (0, μ 222 ((4 * j) + 2)), (0, μ 222 ((4 * j) + 3))] [(0, μ7 206 (4 + (μ 222 ((4 * j) + 2))))] μ7 [pm_in (4 + (μ 222 ((4 * j) + 2))), 0 ≤ 4 + (μ 222 ((4 * j) + 2)) ∧ 4 + (μ 222 ((4 * j) + 2)) < 160] rfl ⟨pm_in_mk (by omega) (by omega), ⟨by omega, by omega⟩, trivial⟩ ?_
          refine pm_if hK zmm311 .ne 4 123 rfl rfl (fun h22 => ?_) (fun h22 => ?_)
          · have h22 : μ7 206 (4 + (μ 222 ((4 * j) + 2))) ≠ (0 : Int) := h22
            refine pm_blk hK zmm311 [] 3 126 [(2, 205), (0, 4 * j), (0, μ 222 ((4 * j) + 2)), (0, μ 222 ((4 * j) + 3))] [(0, μ 222 ((4 * j) + 2)), (0, μ 222 ((4 * j) + 3)), (2, 205)] μ7 [] rfl trivial ?_
            refine pm_call hK zmm311 (349, 0, 309, 2) zM309 (0, 0) [(2, 205), (0, μ 222 ((4 * j) + 3)), (0, μ 222 ((4 * j) + 2))] [] rfl rfl rfl rfl ⟨by omega, by rw [zn309]; omega⟩ (fr_thing hK (c := (μ 222 ((4 * j) + 3))) (s := (μ 222 ((4 * j) + 2))) hTμ7 ⟨by omega, by omega⟩ ⟨by omega, by omega⟩ (by omega) hb206 ⟨Nat.le_refl _, Nat.le_refl _⟩) (fun st19 μc19 hp19 => ?_)
            obtain ⟨rfl, hTc19, ht19, hf19⟩ := hp19
            have htt := ht19
            have hfo := hf19
            have hF : ∀ r, r ≠ 206 → μc19 r = μ r := fun r hr => (hf19 r hr).trans (hF r hr)
            refine pm_blk hK zmm311 [] 4 133 [(2, 205), (0, 4 * j), (0, μ 222 ((4 * j) + 2)), (0, μ 222 ((4 * j) + 3))] [(0, μ 222 ((4 * j) + 2)), (0, μ 222 ((4 * j) + 3)), (0, 1), (2, 205)] μc19 [] rfl trivial ?_
            have hthc := fa_th_r hth (hF 205 (by decide))
            refine pm_call hK zmm311 (352, 0, 310, 3) zM310 (0, 0) [(2, 205), (0, 1), (0, μ 222 ((4 * j) + 3)), (0, μ 222 ((4 * j) + 2))] [] rfl rfl rfl rfl ⟨by omega, by rw [zn310]; omega⟩ (fr_note hK (th := th) (k := 1) (w := (μ 222 ((4 * j) + 3))) (v := (μ 222 ((4 * j) + 2))) hthc hTc19 ⟨by omega, by omega⟩ ⟨by omega, by omega⟩ ⟨by omega, by omega⟩ hb206 hb210 ⟨Nat.le_refl _, Nat.le_refl _⟩) (fun st20 μc20 hp20 => ?_)
            obtain ⟨rfl, hTc20, hn20, hf20⟩ := hp20
            have hnn := hn20
            have hff := hf20
            first
            | omega
            | exact pm_vret rfl rfl ⟨rfl, hTc20, by rw [n0, hF 210 (by decide)]; exact (fa_deed_0 (by omega)).symm, fun r a b => hF r a⟩
            | exact pm_vret rfl rfl ⟨rfl, hTc20, by rw [n1, hF 210 (by decide)]; exact (fa_deed_1 (by omega)).symm, fun r a b => hF r a⟩
            | exact pm_vret rfl rfl ⟨rfl, hTc20, by rw [n2, hF 210 (by decide)]; exact (fa_deed_2 (by omega)).symm, fun r a b => hF r a⟩
            | exact pm_vret rfl rfl ⟨rfl, hTc20, (fa_deed_z ⟨by omega, by omega, by omega⟩ (by omega)).symm, fun _ _ _ => rfl⟩
            | exact pm_vret rfl rfl ⟨rfl, hTc20, by rw [hnn, htt, hfo 210 (by decide)]; exact (fa_deed_n ⟨by omega, by omega, by omega⟩ (by omega)).symm, fun r a b => (hff r a b).trans (hF r a)⟩
            | (exfalso; omega)
          · have h22 : μ7 206 (4 + (μ 222 ((4 * j) + 2))) = (0 : Int) := h22
            first
            | omega
            | exact pm_vret rfl rfl ⟨rfl, hTμ7, by rw [n0, hF 210 (by decide)]; exact (fa_deed_0 (by omega)).symm, fun r a b => hF r a⟩
            | exact pm_vret rfl rfl ⟨rfl, hTμ7, by rw [n1, hF 210 (by decide)]; exact (fa_deed_1 (by omega)).symm, fun r a b => hF r a⟩
            | exact pm_vret rfl rfl ⟨rfl, hTμ7, by rw [n2, hF 210 (by decide)]; exact (fa_deed_2 (by omega)).symm, fun r a b => hF r a⟩
            | exact pm_vret rfl rfl ⟨rfl, hTμ7, (fa_deed_z ⟨by omega, by omega, by omega⟩ (by omega)).symm, fun _ _ _ => rfl⟩
            | exact pm_vret rfl rfl ⟨rfl, hTμ7, by rw [hnn, htt, hfo 210 (by decide)]; exact (fa_deed_n ⟨by omega, by omega, by omega⟩ (by omega)).symm, fun r a b => (hff r a b).trans (hF r a)⟩
            | (exfalso; omega)
set_option maxRecDepth 100000 in
theorem fr_day1 (hK : zKK ST) {X : Nat → List pm_V → List pm_V → pm_Mem → Prop} {μ0 : pm_Mem} (hb206 : sx_bit Wm 206 = true) (K : ∀ (s : Int) (μ : pm_Mem), zTJ φ μ → μ 206 = fa_opens (μ0 206) (μ0 205 6).toNat → (∀ r, r ≠ 206 → μ r = μ0 r) → zW D Wm ST b0 l Sg zM156 bud X 46 [(2, 205), (0, s)] [] μ) (hbd : 2 ≤ bud.1 ∧ 47 ≤ bud.2.1) : ∀ (n : Nat) {s : Int} {μ : pm_Mem}, (12 - s).toNat = n → ∀ (hs : 0 ≤ s ∧ s ≤ μ0 205 6) (hT : zTJ φ μ) (hn : μ 206 = fa_opens (μ0 206) s.toNat) (hf : ∀ r, r ≠ 206 → μ r = μ0 r), zW D Wm ST b0 l Sg zM156 bud X 2 [(2, 205), (0, s)] [] μ := by
  intro n
  induction n using Nat.strongRecOn with
  | ind n ih =>
    intro s μ hn hs hT hn hf
    have f6 := zT_get hT zs205_6 (i := 6) (by omega) (by omega)
    have g6 : μ 205 6 = μ0 205 6 := by rw [hf 205 (by decide)]
    have f1 := zT_get hT zs205_6 (i := 6) (by omega) (by omega)
    refine pm_blk hK zmm156 [] 3 7 [(2, 205), (0, s)] [(0, μ 205 6), (0, s)] μ [] rfl trivial ?_
    refine pm_icmp hK zmm156 .ge 39 46 rfl rfl (fun h0 => ?_) (fun h0 => ?_)
    · have h0 : μ 205 6 ≤ s := h0
      have ek : s.toNat = (μ0 205 6).toNat := by omega
      exact K _ _ hT (by rw [hn, ek]) hf
    · have h0 : s < μ 205 6 := h0
      refine pm_blk hK zmm156 [] 7 20 [(2, 205), (0, s)] [] (pm_up μ 206 (40 + s) 0) [pm_in (40 + s), sx_bit Wm 206 = true, 0 ≤ 40 + s ∧ 40 + s < 160] rfl ⟨pm_in_mk (by omega) (by omega), hb206, ⟨by omega, by omega⟩, trivial⟩ ?_
      obtain ⟨μ1, eμ1⟩ : ∃ μ', μ' = pm_up μ 206 (40 + s) 0 := ⟨_, rfl⟩
      rw [← eμ1]
      have hTμ1 : zTJ φ μ1 := by rw [eμ1]; exact zT_up hT zs206_40 rfl (i := 40 + s) (by omega) (by omega) (by omega) (by omega)
      have n1 : μ1 206 = fa_up (fa_opens (μ0 206) s.toNat) (40 + s) 0 := by rw [eμ1, fa_pm, hn]
      have o1 : ∀ r, r ≠ 206 → μ1 r = μ0 r := fun r hr => by rw [eμ1, pm_up_row hr]; exact hf r hr
      refine pm_blk hK zmm156 [] 7 30 [(2, 205), (0, s)] [] (pm_up μ1 206 (52 + s) 0) [pm_in (52 + s), sx_bit Wm 206 = true, 0 ≤ 52 + s ∧ 52 + s < 160] rfl ⟨pm_in_mk (by omega) (by omega), hb206, ⟨by omega, by omega⟩, trivial⟩ ?_
      obtain ⟨μ2, eμ2⟩ : ∃ μ', μ' = pm_up μ1 206 (52 + s) 0 := ⟨_, rfl⟩
      rw [← eμ2]
      have hTμ2 : zTJ φ μ2 := by rw [eμ2]; exact zT_up hTμ1 zs206_52 rfl (i := 52 + s) (by omega) (by omega) (by omega) (by omega)
      have n2 : μ2 206 = fa_up (fa_up (fa_opens (μ0 206) s.toNat) (40 + s) 0) (52 + s) 0 := by rw [eμ2, fa_pm, n1]
      have o2 : ∀ r, r ≠ 206 → μ2 r = μ0 r := fun r hr => by rw [eμ2, pm_up_row hr]; exact o1 r hr
      refine pm_blk hK zmm156 [] 7 40 [(2, 205), (0, s)] [] (pm_up μ2 206 (64 + s) 0) [pm_in (64 + s), sx_bit Wm 206 = true, 0 ≤ 64 + s ∧ 64 + s < 160] rfl ⟨pm_in_mk (by omega) (by omega), hb206, ⟨by omega, by omega⟩, trivial⟩ ?_
      obtain ⟨μ3, eμ3⟩ : ∃ μ', μ' = pm_up μ2 206 (64 + s) 0 := ⟨_, rfl⟩
      rw [← eμ3]
      have hTμ3 : zTJ φ μ3 := by rw [eμ3]; exact zT_up hTμ2 zs206_52 rfl (i := 64 + s) (by omega) (by omega) (by omega) (by omega)
      have es : ((s.toNat : Nat) : Int) = s := by omega
      have n3 : μ3 206 = fa_opens (μ0 206) (s + 1).toNat := by
        rw [eμ3, fa_pm, n2, show (s + 1).toNat = s.toNat + 1 by omega, fa_opens_s, es]
      have o3 : ∀ r, r ≠ 206 → μ3 r = μ0 r := fun r hr => by rw [eμ3, pm_up_row hr]; exact o2 r hr
      refine pm_blk hK zmm156 [] 2 2 [(2, 205), (0, s + 1)] [] μ3 [pm_in (s + 1)] rfl ⟨pm_in_mk (by omega) (by omega), trivial⟩ ?_
      exact ih _ (by omega) rfl ⟨by omega, by omega⟩ hTμ3 n3 o3
set_option maxRecDepth 100000 in
theorem fr_day2 (hK : zKK ST)  {μ0 : pm_Mem} {N : Int → Int} {th : Bool} (hth : fa_th th μ0) (hb206 : sx_bit Wm 206 = true) (hb210 : sx_bit Wm 210 = true) (hbd : 2 ≤ bud.1 ∧ 47 ≤ bud.2.1) : ∀ (n : Nat) {j : Int} {μ : pm_Mem}, (16 - j).toNat = n → ∀ (hj : 0 ≤ j ∧ j ≤ μ0 205 35) (hT : zTJ φ μ) (hn : (μ 206, μ 210) = fa_deeds th (μ0 222) j.toNat (N, μ0 210)) (hf : ∀ r, r ≠ 206 → r ≠ 210 → μ r = μ0 r), zW D Wm ST b0 l Sg zM156 bud (pm_X zM156 (fun st' μ' => st' = [] ∧ zTJ φ μ' ∧ (μ' 206, μ' 210) = fa_deeds th (μ0 222) (μ0 205 35).toNat (N, μ0 210) ∧ ∀ r, r ≠ 206 → r ≠ 210 → μ' r = μ0 r)) 48 [(2, 205), (0, 4 * j)] [] μ := by
  intro n
  induction n using Nat.strongRecOn with
  | ind n ih =>
    intro j μ hn hj hT hn hf
    have fd := zT_get hT zs205_35 (i := 35) (by omega) (by omega)
    have gd : μ 205 35 = μ0 205 35 := by rw [hf 205 (by decide) (by decide)]
    have hth2 := fa_th_r hth (hf 205 (by decide) (by decide))
    have g222 : μ 222 = μ0 222 := hf 222 (by decide) (by decide)
    have ej : ((j.toNat : Nat) : Int) = j := by omega
    have hd0 : (fa_deeds th (μ0 222) j.toNat (N, μ0 210)).1 0 = μ 206 0 := by rw [← hn]
    have f1 := zT_get hT zs205_35 (i := 35) (by omega) (by omega)
    refine pm_blk hK zmm156 [] 5 55 [(2, 205), (0, 4 * j)] [(0, 4 * (μ 205 35)), (0, 4 * j)] μ [pm_in (4 * (μ 205 35))] rfl ⟨pm_in_mk (by omega) (by omega), trivial⟩ ?_
    refine pm_icmp hK zmm156 .ge 30 85 rfl rfl (fun h0 => ?_) (fun h0 => ?_)
    · have h0 : 4 * (μ 205 35) ≤ 4 * j := h0
      have ek : j.toNat = (μ0 205 35).toNat := by omega
      exact pm_vret rfl rfl ⟨rfl, hT, by rw [hn, ek], hf⟩
    · have h0 : 4 * j < 4 * (μ 205 35) := h0
      have f2 := zT_getp hT zp222_0 (i := 4 * j) (z := j) (by omega) (by omega) (by omega)
      have f3 := zT_get hT zs206_0 (i := 0) (by omega) (by omega)
      refine pm_blk hK zmm156 [] 8 70 [(2, 205), (0, 4 * j)] [(0, μ 206 0), (0, μ 222 (4 * j))] μ [0 ≤ 4 * j ∧ 4 * j < 128, 0 ≤ 0 ∧ 0 < 160] rfl ⟨⟨by omega, by omega⟩, ⟨by omega, by omega⟩, trivial⟩ ?_
      refine pm_icmp hK zmm156 .ne 8 78 rfl rfl (fun h1 => ?_) (fun h1 => ?_)
      · have h1 : μ 222 (4 * j) ≠ μ 206 0 := h1
        refine pm_blk hK zmm156 [] 5 48 [(2, 205), (0, (4 * j) + 4)] [] μ [pm_in ((4 * j) + 4)] rfl ⟨pm_in_mk (by omega) (by omega), trivial⟩ ?_
        have e : ((4 * j) + 4) = 4 * (j + 1) := by omega
        rw [e]
        first
        | exact ih _ (by omega) rfl ⟨by omega, by omega⟩ hT (by rw [show (j + 1).toNat = j.toNat + 1 by omega, fa_deeds_y (by rw [ej, hd0, ← g222]; omega), ← hn, ej, ← g222]; exact hnn) (fun r a b => (hff r a b).trans (hf r a b))
        | exact ih _ (by omega) rfl ⟨by omega, by omega⟩ hT (by rw [show (j + 1).toNat = j.toNat + 1 by omega, fa_deeds_n (by rw [ej, hd0, ← g222]; omega), ← hn]) hf
        | (exfalso; omega)
      · have h1 : μ 222 (4 * j) = μ 206 0 := h1
        refine pm_blk hK zmm156 [] 2 75 [(2, 205), (0, 4 * j)] [(0, 4 * j), (2, 205)] μ [] rfl trivial ?_
        refine pm_call hK zmm156 (380, 0, 311, 1) zM311 (1, 24) [(2, 205), (0, 4 * j)] [] rfl rfl rfl rfl ⟨by omega, by rw [zn311]; omega⟩ (fr_does hK (th := th) (j := j) hth2 hT ⟨by omega, by omega⟩ (hT.2.2.1 j (by omega) (by omega)) hb206 hb210 ⟨Nat.le_refl _, Nat.le_refl _⟩) (fun st1 μc1 hp1 => ?_)
        obtain ⟨rfl, hTc1, hn1, hf1⟩ := hp1
        have hnn := hn1
        have hff := hf1
        refine pm_blk hK zmm156 [] 5 48 [(2, 205), (0, (4 * j) + 4)] [] μc1 [pm_in ((4 * j) + 4)] rfl ⟨pm_in_mk (by omega) (by omega), trivial⟩ ?_
        have e : ((4 * j) + 4) = 4 * (j + 1) := by omega
        rw [e]
        first
        | exact ih _ (by omega) rfl ⟨by omega, by omega⟩ hTc1 (by rw [show (j + 1).toNat = j.toNat + 1 by omega, fa_deeds_y (by rw [ej, hd0, ← g222]; omega), ← hn, ej, ← g222]; exact hnn) (fun r a b => (hff r a b).trans (hf r a b))
        | exact ih _ (by omega) rfl ⟨by omega, by omega⟩ hTc1 (by rw [show (j + 1).toNat = j.toNat + 1 by omega, fa_deeds_n (by rw [ej, hd0, ← g222]; omega), ← hn]) hf
        | (exfalso; omega)
set_option maxRecDepth 100000 in
theorem fr_dayBegins (hK : zKK ST) {th : Bool} (hth : fa_th th μ) (hT : zTJ φ μ) (hb206 : sx_bit Wm 206 = true) (hb210 : sx_bit Wm 210 = true) (hbd : 2 ≤ bud.1 ∧ 47 ≤ bud.2.1) : zC D Wm ST b0 l Sg zM156 bud [(2, 205)] μ (fun st' μ' => st' = [] ∧ zTJ φ μ' ∧ (μ' 206, μ' 210) = fa_deeds th (μ 222) (μ 205 35).toNat (fa_opens (μ 206) (μ 205 6).toNat, μ 210) ∧ (∀ r, r ≠ 206 → r ≠ 210 → μ' r = μ r)) := by
  have f6 := zT_get hT zs205_6 (i := 6) (by omega) (by omega)
  have f35 := zT_get hT zs205_35 (i := 35) (by omega) (by omega)
  refine pm_blk hK zmm156 [] 2 2 [(2, 205), (0, 0)] [] μ [] rfl trivial ?_
  refine fr_day1 hK (μ0 := μ) hb206 (fun s μ1 hT1 hn1 hf1 => ?_) hbd _ rfl ⟨by omega, by omega⟩ hT rfl (fun _ _ => rfl)
  refine pm_blk hK zmm156 [] 2 48 [(2, 205), (0, 0)] [] μ1 [] rfl trivial ?_
  exact fr_day2 hK (μ0 := μ) (N := fa_opens (μ 206) (μ 205 6).toNat) (th := th) hth hb206 hb210 hbd _ (j := 0) rfl ⟨by omega, by omega⟩ hT1 (by rw [hn1, hf1 210 (by decide)]; rfl) (fun r a _ => hf1 r a)
end ZHW
