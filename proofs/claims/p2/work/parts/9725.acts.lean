/-! counts: acts; walks printed by program (wip/p30/pmgen.py) and filled by hand -/
section ZHW
variable {φ : Option pm_Mem}
variable {D : va_G} {Wm : Nat} {ST : List (String × String × String × Nat)} {b0 : sx_B} {l : Launch} {Sg : Nat → Option Nat} {bud : sx_Bu} {μ : pm_Mem} {B0 : Nat → Prop} {J : (Nat → Option Nat) → Heap → Prop}
set_option maxRecDepth 100000 in
theorem zh_pay3 (hK : zKK ST) {c : Int} (hw : sx_Wd zNR zRT2 B0 Sg) (hC88 : zCK φ D ST B0 l Sg zC88) (hs88 : sx_subm zC88.2.2.2.2.2 Wm = true) (hT : zTJ φ μ) (hbd : 7 ≤ bud.1 ∧ 172 ≤ bud.2.1) : zC D Wm ST (sx_bW zRT2 Wm B0 Sg, J) l Sg zM33 bud [(2, 180), (2, 3), (0, c)] μ (fun st' μ' => ∃ x, st' = [(0, x)] ∧ zTJ φ μ' ∧ zKC μ μ' ∧ zKF μ μ' ∧ (x = -1 ∨ ((0 ≤ c ∧ c ≤ 17) ∧ (0 ≤ x ∧ x ≤ μ 11 c) ∧ (0 ≤ μ 13 c ∧ μ 13 c ≤ 11) ∧ 1 ≤ μ 4 (μ 13 c)))) := by
  have hA : zKC μ μ := zKC_refl
  have hv : zKF μ μ := zKF_refl
  have f30 := zT_get hT zs3_0 (i := 0) (by omega) (by omega)
  have f31 := zT_get hT zs3_1 (i := 1) (by omega) (by omega)
  refine pm_blk hK zmm33 [] 2 2 [(2, 180), (2, 3), (0, c), (9, 0), (9, 0)] [(0, c), (2, 3)] μ [] rfl trivial ?_
  refine pm_call hK zmm33 (72, 0, 23, 1) zM23 (0, 0) [(2, 3), (0, c)] [] rfl rfl rfl rfl ⟨by omega, by rw [zn23]; omega⟩ (zh_isCu3 hK ⟨Nat.le_refl _, Nat.le_refl _⟩) (fun st1 μc1 hp1 => ?_)
  obtain ⟨rfl, rfl⟩ := hp1
  refine pm_if hK zmm33 .ne 5 10 rfl rfl (fun h0 => ?_) (fun h0 => ?_)
  · have h0 : (if 0 ≤ c ∧ c < μ 3 1 then 1 else 0 : Int) ≠ (0 : Int) := h0
    have h0 := zif1 h0
    have f1 := zT_get hT zs13_0 (i := c) (by omega) (by omega)
    refine pm_blk hK zmm33 [] 7 19 [(2, 180), (2, 3), (0, c), (0, μ 13 c), (9, 0)] [(0, μ 13 c), (2, 3)] μ [0 ≤ c ∧ c < 18] rfl ⟨⟨by omega, by omega⟩, trivial⟩ ?_
    refine pm_call hK zmm33 (112, 0, 26, 1) zM26 (1, 21) [(2, 3), (0, μ 13 c)] [] rfl rfl rfl rfl ⟨by omega, by rw [zn26]; omega⟩ (zh_isOp3 hK hT ⟨Nat.le_refl _, Nat.le_refl _⟩) (fun st2 μc2 hp2 => ?_)
    obtain ⟨rfl, rfl⟩ := hp2
    refine pm_if hK zmm33 .eq 13 35 rfl rfl (fun h1 => ?_) (fun h1 => ?_)
    · have h1 : (if (0 ≤ (μ 13 c) ∧ (μ 13 c) < μ 3 0) ∧ μ 7 (μ 13 c) = 1 then 1 else 0 : Int) = (0 : Int) := h1
      have h1 := zif0 h1
      refine pm_blk hK zmm33 [] 1 36 [(2, 180), (2, 3), (0, c), (0, μ 13 c), (9, 0)] [(0, (-1))] μ [] rfl trivial ?_
      first
      | exact pm_iret rfl rfl ⟨_, rfl, hT, hA, hv, Or.inl rfl⟩
      | (have e11 := hv (11, 18) (by decide) c (by omega) (by show c < ((18 : Nat) : Int); omega); have e11 : μ 11 c = μ 11 c := e11; exact pm_iret rfl rfl ⟨_, rfl, hT, hA, hv, Or.inr ⟨by omega, by omega, by omega, by omega⟩⟩)
    · have h1 : (if (0 ≤ (μ 13 c) ∧ (μ 13 c) < μ 3 0) ∧ μ 7 (μ 13 c) = 1 then 1 else 0 : Int) ≠ (0 : Int) := h1
      have h1 := zif1 h1
      have f2 := zT_get hT zs4_0 (i := μ 13 c) (by omega) (by omega)
      refine pm_blk hK zmm33 [] 5 32 [(2, 180), (2, 3), (0, c), (0, μ 13 c), (9, 0)] [(0, 1), (0, μ 4 (μ 13 c))] μ [0 ≤ μ 13 c ∧ μ 13 c < 12] rfl ⟨⟨by omega, by omega⟩, trivial⟩ ?_
      refine pm_icmp hK zmm33 .ge 5 37 rfl rfl (fun h2 => ?_) (fun h2 => ?_)
      · have h2 : (1 : Int) ≤ μ 4 (μ 13 c) := h2
        refine pm_blk hK zmm33 [] 9 54 [(2, 180), (2, 3), (0, c), (0, μ 13 c), (9, 0)] [(0, μ 13 c), (0, c), (0, 302), (2, 3), (2, 17), (2, 177)] μ [] rfl trivial ?_
        refine pm_ccall hK zmm33 hC88 hw zGm_lt zJ_loc (127, 0, 213, 5) zM213 [(2, 177), (2, 17), (2, 3), (0, 302), (0, c), (0, μ 13 c)] [] rfl rfl rfl rfl rfl ⟨by have e : zC88.2.2.2.1 = 6 := rfl; omega, by have e : zC88.2.2.2.2.1 = 132 := rfl; rw [zn213]; omega⟩ hs88 rfl (fun t ht => by cases ht; rfl) ⟨rfl, fun h => absurd h (by decide), fun _ => rfl, rfl, fun h => absurd h (by decide), fun _ => rfl, rfl, fun h => absurd h (by decide), fun _ => rfl, rfl, fun _ => ⟨by decide, by decide⟩, fun h => absurd h (by decide), rfl, fun _ => ⟨(show (0 : Int) ≤ _ by omega), (show _ ≤ (17 : Int) by omega)⟩, fun h => absurd h (by decide), rfl, fun _ => ⟨(show (-2147483648 : Int) ≤ _ by omega), (show _ ≤ (2147483647 : Int) by omega)⟩, fun h => absurd h (by decide), trivial⟩ (zTy_T hw hT.1) hT.2 (fun st3 μc3 hp3 hTt3 hJ3 hfr3 => ?_)
        obtain ⟨x3, rfl, hx3, hy3⟩ := hp3
        have hTc3 : zTJ φ μc3 := ⟨zTy_of hw hTt3, hJ3⟩
        have hx3 : 0 ≤ x3 := hx3
        have hy3 : x3 ≤ 1000 := hy3
        have hA := zKC_of hA (zRq_fr hfr3 (by decide +kernel))
        have hv := zKF_tr hv (zRl_fr hfr3 zRz_t (by decide +kernel))
        have f3 := zT_get hTc3 zs11_0 (i := c) (by omega) (by omega)
        refine pm_blk hK zmm33 [] 6 67 [(2, 180), (2, 3), (0, c), (0, μ 13 c), (0, x3)] [(0, μc3 11 c), (0, x3)] μc3 [0 ≤ c ∧ c < 18] rfl ⟨⟨by omega, by omega⟩, trivial⟩ ?_
        refine pm_icmp hK zmm33 .gt 8 75 rfl rfl (fun h3 => ?_) (fun h3 => ?_)
        · have h3 : μc3 11 c < x3 := h3
          refine pm_blk hK zmm33 [] 1 76 [(2, 180), (2, 3), (0, c), (0, μ 13 c), (0, x3)] [(0, (-1))] μc3 [] rfl trivial ?_
          first
          | exact pm_iret rfl rfl ⟨_, rfl, hTc3, hA, hv, Or.inl rfl⟩
          | (have e11 := hv (11, 18) (by decide) c (by omega) (by show c < ((18 : Nat) : Int); omega); have e11 : μc3 11 c = μ 11 c := e11; exact pm_iret rfl rfl ⟨_, rfl, hTc3, hA, hv, Or.inr ⟨by omega, by omega, by omega, by omega⟩⟩)
        · have h3 : x3 ≤ μc3 11 c := h3
          refine pm_blk hK zmm33 [] 2 76 [(2, 180), (2, 3), (0, c), (0, μ 13 c), (0, x3)] [(0, x3)] μc3 [] rfl trivial ?_
          first
          | exact pm_iret rfl rfl ⟨_, rfl, hTc3, hA, hv, Or.inl rfl⟩
          | (have e11 := hv (11, 18) (by decide) c (by omega) (by show c < ((18 : Nat) : Int); omega); have e11 : μc3 11 c = μ 11 c := e11; exact pm_iret rfl rfl ⟨_, rfl, hTc3, hA, hv, Or.inr ⟨by omega, by omega, by omega, by omega⟩⟩)
      · have h2 : μ 4 (μ 13 c) < (1 : Int) := h2
        refine pm_blk hK zmm33 [] 1 36 [(2, 180), (2, 3), (0, c), (0, μ 13 c), (9, 0)] [(0, (-1))] μ [] rfl trivial ?_
        first
        | exact pm_iret rfl rfl ⟨_, rfl, hT, hA, hv, Or.inl rfl⟩
        | (have e11 := hv (11, 18) (by decide) c (by omega) (by show c < ((18 : Nat) : Int); omega); have e11 : μ 11 c = μ 11 c := e11; exact pm_iret rfl rfl ⟨_, rfl, hT, hA, hv, Or.inr ⟨by omega, by omega, by omega, by omega⟩⟩)
  · have h0 : (if 0 ≤ c ∧ c < μ 3 1 then 1 else 0 : Int) = (0 : Int) := h0
    have h0 := zif0 h0
    refine pm_blk hK zmm33 [] 1 9 [(2, 180), (2, 3), (0, c), (9, 0), (9, 0)] [(0, (-1))] μ [] rfl trivial ?_
    first
    | exact pm_iret rfl rfl ⟨_, rfl, hT, hA, hv, Or.inl rfl⟩
    | (have e11 := hv (11, 18) (by decide) c (by omega) (by show c < ((18 : Nat) : Int); omega); have e11 : μ 11 c = μ 11 c := e11; exact pm_iret rfl rfl ⟨_, rfl, hT, hA, hv, Or.inr ⟨by omega, by omega, by omega, by omega⟩⟩)
set_option maxRecDepth 100000 in
theorem zh_goInk (hK : zKK ST) {c s : Int} (hw : sx_Wd zNR zRT2 B0 Sg) (hC4 : zCK φ D ST B0 l Sg zC4) (hs4 : sx_subm zC4.2.2.2.2.2 Wm = true) (hC5 : zCK φ D ST B0 l Sg zC5) (hs5 : sx_subm zC5.2.2.2.2.2 Wm = true) (hC6 : zCK φ D ST B0 l Sg zC6) (hs6 : sx_subm zC6.2.2.2.2.2 Wm = true) (hC7 : zCK φ D ST B0 l Sg zC7) (hs7 : sx_subm zC7.2.2.2.2.2 Wm = true) (hC8 : zCK φ D ST B0 l Sg zC8) (hs8 : sx_subm zC8.2.2.2.2.2 Wm = true) (hC9 : zCK φ D ST B0 l Sg zC9) (hs9 : sx_subm zC9.2.2.2.2.2 Wm = true) (hC10 : zCK φ D ST B0 l Sg zC10) (hs10 : sx_subm zC10.2.2.2.2.2 Wm = true) (hC11 : zCK φ D ST B0 l Sg zC11) (hs11 : sx_subm zC11.2.2.2.2.2 Wm = true) (hC12 : zCK φ D ST B0 l Sg zC12) (hs12 : sx_subm zC12.2.2.2.2.2 Wm = true) (hC13 : zCK φ D ST B0 l Sg zC13) (hs13 : sx_subm zC13.2.2.2.2.2 Wm = true) (hC14 : zCK φ D ST B0 l Sg zC14) (hs14 : sx_subm zC14.2.2.2.2.2 Wm = true) (hC15 : zCK φ D ST B0 l Sg zC15) (hs15 : sx_subm zC15.2.2.2.2.2 Wm = true) (hC17 : zCK φ D ST B0 l Sg zC17) (hs17 : sx_subm zC17.2.2.2.2.2 Wm = true) (hC18 : zCK φ D ST B0 l Sg zC18) (hs18 : sx_subm zC18.2.2.2.2.2 Wm = true) (hC19 : zCK φ D ST B0 l Sg zC19) (hs19 : sx_subm zC19.2.2.2.2.2 Wm = true) (hC20 : zCK φ D ST B0 l Sg zC20) (hs20 : sx_subm zC20.2.2.2.2.2 Wm = true) (hC21 : zCK φ D ST B0 l Sg zC21) (hs21 : sx_subm zC21.2.2.2.2.2 Wm = true) (hC22 : zCK φ D ST B0 l Sg zC22) (hs22 : sx_subm zC22.2.2.2.2.2 Wm = true) (hC23 : zCK φ D ST B0 l Sg zC23) (hs23 : sx_subm zC23.2.2.2.2.2 Wm = true) (hC24 : zCK φ D ST B0 l Sg zC24) (hs24 : sx_subm zC24.2.2.2.2.2 Wm = true) (hC25 : zCK φ D ST B0 l Sg zC25) (hs25 : sx_subm zC25.2.2.2.2.2 Wm = true) (hC26 : zCK φ D ST B0 l Sg zC26) (hs26 : sx_subm zC26.2.2.2.2.2 Wm = true) (hC27 : zCK φ D ST B0 l Sg zC27) (hs27 : sx_subm zC27.2.2.2.2.2 Wm = true) (hC28 : zCK φ D ST B0 l Sg zC28) (hs28 : sx_subm zC28.2.2.2.2.2 Wm = true) (hC30 : zCK φ D ST B0 l Sg zC30) (hs30 : sx_subm zC30.2.2.2.2.2 Wm = true) (hC31 : zCK φ D ST B0 l Sg zC31) (hs31 : sx_subm zC31.2.2.2.2.2 Wm = true) (hC32 : zCK φ D ST B0 l Sg zC32) (hs32 : sx_subm zC32.2.2.2.2.2 Wm = true) (hC33 : zCK φ D ST B0 l Sg zC33) (hs33 : sx_subm zC33.2.2.2.2.2 Wm = true) (hC34 : zCK φ D ST B0 l Sg zC34) (hs34 : sx_subm zC34.2.2.2.2.2 Wm = true) (hC35 : zCK φ D ST B0 l Sg zC35) (hs35 : sx_subm zC35.2.2.2.2.2 Wm = true) (hC36 : zCK φ D ST B0 l Sg zC36) (hs36 : sx_subm zC36.2.2.2.2.2 Wm = true) (hC37 : zCK φ D ST B0 l Sg zC37) (hs37 : sx_subm zC37.2.2.2.2.2 Wm = true) (hC38 : zCK φ D ST B0 l Sg zC38) (hs38 : sx_subm zC38.2.2.2.2.2 Wm = true) (hC39 : zCK φ D ST B0 l Sg zC39) (hs39 : sx_subm zC39.2.2.2.2.2 Wm = true) (hC40 : zCK φ D ST B0 l Sg zC40) (hs40 : sx_subm zC40.2.2.2.2.2 Wm = true) (hC41 : zCK φ D ST B0 l Sg zC41) (hs41 : sx_subm zC41.2.2.2.2.2 Wm = true) (hC43 : zCK φ D ST B0 l Sg zC43) (hs43 : sx_subm zC43.2.2.2.2.2 Wm = true) (hC44 : zCK φ D ST B0 l Sg zC44) (hs44 : sx_subm zC44.2.2.2.2.2 Wm = true) (hC45 : zCK φ D ST B0 l Sg zC45) (hs45 : sx_subm zC45.2.2.2.2.2 Wm = true) (hC46 : zCK φ D ST B0 l Sg zC46) (hs46 : sx_subm zC46.2.2.2.2.2 Wm = true) (hC47 : zCK φ D ST B0 l Sg zC47) (hs47 : sx_subm zC47.2.2.2.2.2 Wm = true) (hC48 : zCK φ D ST B0 l Sg zC48) (hs48 : sx_subm zC48.2.2.2.2.2 Wm = true) (hC49 : zCK φ D ST B0 l Sg zC49) (hs49 : sx_subm zC49.2.2.2.2.2 Wm = true) (hC50 : zCK φ D ST B0 l Sg zC50) (hs50 : sx_subm zC50.2.2.2.2.2 Wm = true) (hC51 : zCK φ D ST B0 l Sg zC51) (hs51 : sx_subm zC51.2.2.2.2.2 Wm = true) (hC52 : zCK φ D ST B0 l Sg zC52) (hs52 : sx_subm zC52.2.2.2.2.2 Wm = true) (hC53 : zCK φ D ST B0 l Sg zC53) (hs53 : sx_subm zC53.2.2.2.2.2 Wm = true) (hC54 : zCK φ D ST B0 l Sg zC54) (hs54 : sx_subm zC54.2.2.2.2.2 Wm = true) (hC56 : zCK φ D ST B0 l Sg zC56) (hs56 : sx_subm zC56.2.2.2.2.2 Wm = true) (hC57 : zCK φ D ST B0 l Sg zC57) (hs57 : sx_subm zC57.2.2.2.2.2 Wm = true) (hC58 : zCK φ D ST B0 l Sg zC58) (hs58 : sx_subm zC58.2.2.2.2.2 Wm = true) (hC59 : zCK φ D ST B0 l Sg zC59) (hs59 : sx_subm zC59.2.2.2.2.2 Wm = true) (hC60 : zCK φ D ST B0 l Sg zC60) (hs60 : sx_subm zC60.2.2.2.2.2 Wm = true) (hC61 : zCK φ D ST B0 l Sg zC61) (hs61 : sx_subm zC61.2.2.2.2.2 Wm = true) (hC62 : zCK φ D ST B0 l Sg zC62) (hs62 : sx_subm zC62.2.2.2.2.2 Wm = true) (hC63 : zCK φ D ST B0 l Sg zC63) (hs63 : sx_subm zC63.2.2.2.2.2 Wm = true) (hC64 : zCK φ D ST B0 l Sg zC64) (hs64 : sx_subm zC64.2.2.2.2.2 Wm = true) (hC65 : zCK φ D ST B0 l Sg zC65) (hs65 : sx_subm zC65.2.2.2.2.2 Wm = true) (hC66 : zCK φ D ST B0 l Sg zC66) (hs66 : sx_subm zC66.2.2.2.2.2 Wm = true) (hC67 : zCK φ D ST B0 l Sg zC67) (hs67 : sx_subm zC67.2.2.2.2.2 Wm = true) (hC69 : zCK φ D ST B0 l Sg zC69) (hs69 : sx_subm zC69.2.2.2.2.2 Wm = true) (hC70 : zCK φ D ST B0 l Sg zC70) (hs70 : sx_subm zC70.2.2.2.2.2 Wm = true) (hC71 : zCK φ D ST B0 l Sg zC71) (hs71 : sx_subm zC71.2.2.2.2.2 Wm = true) (hC72 : zCK φ D ST B0 l Sg zC72) (hs72 : sx_subm zC72.2.2.2.2.2 Wm = true) (hC73 : zCK φ D ST B0 l Sg zC73) (hs73 : sx_subm zC73.2.2.2.2.2 Wm = true) (hC74 : zCK φ D ST B0 l Sg zC74) (hs74 : sx_subm zC74.2.2.2.2.2 Wm = true) (hC75 : zCK φ D ST B0 l Sg zC75) (hs75 : sx_subm zC75.2.2.2.2.2 Wm = true) (hC76 : zCK φ D ST B0 l Sg zC76) (hs76 : sx_subm zC76.2.2.2.2.2 Wm = true) (hC77 : zCK φ D ST B0 l Sg zC77) (hs77 : sx_subm zC77.2.2.2.2.2 Wm = true) (hC78 : zCK φ D ST B0 l Sg zC78) (hs78 : sx_subm zC78.2.2.2.2.2 Wm = true) (hC79 : zCK φ D ST B0 l Sg zC79) (hs79 : sx_subm zC79.2.2.2.2.2 Wm = true) (hC80 : zCK φ D ST B0 l Sg zC80) (hs80 : sx_subm zC80.2.2.2.2.2 Wm = true) (hT : zTJ φ μ) (hb96 : sx_bit Wm 96 = true) (hb98 : sx_bit Wm 98 = true) (hb99 : sx_bit Wm 99 = true) (hb112 : sx_bit Wm 112 = true) (hb125 : sx_bit Wm 125 = true) (hb138 : sx_bit Wm 138 = true) (hb151 : sx_bit Wm 151 = true) (hb164 : sx_bit Wm 164 = true) (hb13 : sx_bit Wm 13 = true) (hbd : 4 ≤ bud.1 ∧ 152 ≤ bud.2.1) : zC D Wm ST (sx_bW zRT2 Wm B0 Sg, J) l Sg zM25 bud [(2, 1), (0, c), (0, s)] μ (fun st' μ' => ∃ x, st' = [(0, x)] ∧ (0 ≤ x ∧ x ≤ 1) ∧ zTJ φ μ' ∧ zKC μ μ') := by
  have hA : zKC μ μ := zKC_refl
  have hv : zKF μ μ := zKF_refl
  have f30 := zT_get hT zs3_0 (i := 0) (by omega) (by omega)
  have f31 := zT_get hT zs3_1 (i := 1) (by omega) (by omega)
  refine pm_blk hK zmm25 [] 6 10 [(2, 1), (0, c), (0, s), (2, 3)] [(0, c), (2, 3)] μ [] rfl trivial ?_
  refine pm_call hK zmm25 (113, 0, 23, 1) zM23 (0, 0) [(2, 3), (0, c)] [] rfl rfl rfl rfl ⟨by omega, by rw [zn23]; omega⟩ (zh_isCu3 hK ⟨Nat.le_refl _, Nat.le_refl _⟩) (fun st1 μc1 hp1 => ?_)
  obtain ⟨rfl, rfl⟩ := hp1
  refine pm_if hK zmm25 .eq 21 34 rfl rfl (fun h0 => ?_) (fun h0 => ?_)
  · have h0 : (if 0 ≤ c ∧ c < μ 3 1 then 1 else 0 : Int) = (0 : Int) := h0
    have h0 := zif0 h0
    refine pm_blk hK zmm25 [] 1 35 [(2, 1), (0, c), (0, s), (2, 3)] [(0, 0)] μ [] rfl trivial ?_
    exact pm_zret rfl rfl (by first | exact Or.inl rfl | exact Or.inr rfl | omega) ⟨_, rfl, ⟨by omega, by omega⟩, hT, hA⟩
  · have h0 : (if 0 ≤ c ∧ c < μ 3 1 then 1 else 0 : Int) ≠ (0 : Int) := h0
    have h0 := zif1 h0
    refine pm_blk hK zmm25 [] 2 18 [(2, 1), (0, c), (0, s), (2, 3)] [(0, s), (2, 3)] μ [] rfl trivial ?_
    refine pm_call hK zmm25 (135, 0, 26, 1) zM26 (1, 21) [(2, 3), (0, s)] [] rfl rfl rfl rfl ⟨by omega, by rw [zn26]; omega⟩ (zh_isOp3 hK hT ⟨Nat.le_refl _, Nat.le_refl _⟩) (fun st2 μc2 hp2 => ?_)
    obtain ⟨rfl, rfl⟩ := hp2
    refine pm_if hK zmm25 .eq 13 34 rfl rfl (fun h1 => ?_) (fun h1 => ?_)
    · have h1 : (if (0 ≤ s ∧ s < μ 3 0) ∧ μ 7 s = 1 then 1 else 0 : Int) = (0 : Int) := h1
      have h1 := zif0 h1
      refine pm_blk hK zmm25 [] 1 35 [(2, 1), (0, c), (0, s), (2, 3)] [(0, 0)] μ [] rfl trivial ?_
      exact pm_zret rfl rfl (by first | exact Or.inl rfl | exact Or.inr rfl | omega) ⟨_, rfl, ⟨by omega, by omega⟩, hT, hA⟩
    · have h1 : (if (0 ≤ s ∧ s < μ 3 0) ∧ μ 7 s = 1 then 1 else 0 : Int) ≠ (0 : Int) := h1
      have h1 := zif1 h1
      have f1 := zT_get hT zs13_0 (i := c) (by omega) (by omega)
      refine pm_blk hK zmm25 [] 5 31 [(2, 1), (0, c), (0, s), (2, 3)] [(0, s), (0, μ 13 c)] μ [0 ≤ c ∧ c < 18] rfl ⟨⟨by omega, by omega⟩, trivial⟩ ?_
      refine pm_icmp hK zmm25 .ne 5 36 rfl rfl (fun h2 => ?_) (fun h2 => ?_)
      · have h2 : μ 13 c ≠ s := h2
        refine pm_blk hK zmm25 [] 4 44 [(2, 1), (0, c), (0, s), (2, 3)] [(2, 2), (2, 96)] μ [] rfl trivial ?_
        refine pm_call hK zmm25 (141, 0, 27, 1) zM27 (3, 122) [(2, 96), (2, 2)] [] rfl rfl rfl rfl ⟨by omega, by rw [zn27]; omega⟩ (zh_keep hK hw hC4 hs4 hC5 hs5 hC6 hs6 hC7 hs7 hC8 hs8 hC9 hs9 hC10 hs10 hC11 hs11 hC12 hs12 hC13 hs13 hC14 hs14 hC15 hs15 hC17 hs17 hC18 hs18 hC19 hs19 hC20 hs20 hC21 hs21 hC22 hs22 hC23 hs23 hC24 hs24 hC25 hs25 hC26 hs26 hC27 hs27 hC28 hs28 hC30 hs30 hC31 hs31 hC32 hs32 hC33 hs33 hC34 hs34 hC35 hs35 hC36 hs36 hC37 hs37 hC38 hs38 hC39 hs39 hC40 hs40 hC41 hs41 hC43 hs43 hC44 hs44 hC45 hs45 hC46 hs46 hC47 hs47 hC48 hs48 hC49 hs49 hC50 hs50 hC51 hs51 hC52 hs52 hC53 hs53 hC54 hs54 hC56 hs56 hC57 hs57 hC58 hs58 hC59 hs59 hC60 hs60 hC61 hs61 hC62 hs62 hC63 hs63 hC64 hs64 hC65 hs65 hC66 hs66 hC67 hs67 hC69 hs69 hC70 hs70 hC71 hs71 hC72 hs72 hC73 hs73 hC74 hs74 hC75 hs75 hC76 hs76 hC77 hs77 hC78 hs78 hC79 hs79 hC80 hs80 hT hb96 hb98 hb99 hb112 hb125 hb138 hb151 hb164 ⟨Nat.le_refl _, Nat.le_refl _⟩) (fun st3 μc3 hp3 => ?_)
        obtain ⟨rfl, hTc3, hA3, hv3⟩ := hp3
        have hA := zKC_tr hA hA3
        have hv := zKF_tr hv hv3
        refine pm_blk hK zmm25 [] 5 54 [(2, 1), (0, c), (0, s), (2, 3)] [] (pm_up μc3 13 c s) [sx_bit Wm 13 = true, 0 ≤ c ∧ c < 18] rfl ⟨hb13, ⟨by omega, by omega⟩, trivial⟩ ?_
        obtain ⟨μ1, eμ1⟩ : ∃ μ', μ' = pm_up μc3 13 c s := ⟨_, rfl⟩
        rw [← eμ1]
        have hTμ1 : zTJ φ μ1 := by rw [eμ1]; exact zT_up hTc3 zs13_0 rfl (i := c) (by omega) (by omega) (by omega) (by omega)
        refine pm_blk hK zmm25 [] 1 55 [(2, 1), (0, c), (0, s), (2, 3)] [(0, 1)] μ1 [] rfl trivial ?_
        have hA : zKC μ μ1 := by rw [eμ1]; exact zKC_up hA (by decide)
        exact pm_zret rfl rfl (by first | exact Or.inl rfl | exact Or.inr rfl | omega) ⟨_, rfl, ⟨by omega, by omega⟩, hTμ1, hA⟩
      · have h2 : μ 13 c = s := h2
        refine pm_blk hK zmm25 [] 1 35 [(2, 1), (0, c), (0, s), (2, 3)] [(0, 0)] μ [] rfl trivial ?_
        exact pm_zret rfl rfl (by first | exact Or.inl rfl | exact Or.inr rfl | omega) ⟨_, rfl, ⟨by omega, by omega⟩, hT, hA⟩
set_option maxRecDepth 100000 in
theorem zh_goOutk (hK : zKK ST) {c : Int} (hw : sx_Wd zNR zRT2 B0 Sg) (hC4 : zCK φ D ST B0 l Sg zC4) (hs4 : sx_subm zC4.2.2.2.2.2 Wm = true) (hC5 : zCK φ D ST B0 l Sg zC5) (hs5 : sx_subm zC5.2.2.2.2.2 Wm = true) (hC6 : zCK φ D ST B0 l Sg zC6) (hs6 : sx_subm zC6.2.2.2.2.2 Wm = true) (hC7 : zCK φ D ST B0 l Sg zC7) (hs7 : sx_subm zC7.2.2.2.2.2 Wm = true) (hC8 : zCK φ D ST B0 l Sg zC8) (hs8 : sx_subm zC8.2.2.2.2.2 Wm = true) (hC9 : zCK φ D ST B0 l Sg zC9) (hs9 : sx_subm zC9.2.2.2.2.2 Wm = true) (hC10 : zCK φ D ST B0 l Sg zC10) (hs10 : sx_subm zC10.2.2.2.2.2 Wm = true) (hC11 : zCK φ D ST B0 l Sg zC11) (hs11 : sx_subm zC11.2.2.2.2.2 Wm = true) (hC12 : zCK φ D ST B0 l Sg zC12) (hs12 : sx_subm zC12.2.2.2.2.2 Wm = true) (hC13 : zCK φ D ST B0 l Sg zC13) (hs13 : sx_subm zC13.2.2.2.2.2 Wm = true) (hC14 : zCK φ D ST B0 l Sg zC14) (hs14 : sx_subm zC14.2.2.2.2.2 Wm = true) (hC15 : zCK φ D ST B0 l Sg zC15) (hs15 : sx_subm zC15.2.2.2.2.2 Wm = true) (hC17 : zCK φ D ST B0 l Sg zC17) (hs17 : sx_subm zC17.2.2.2.2.2 Wm = true) (hC18 : zCK φ D ST B0 l Sg zC18) (hs18 : sx_subm zC18.2.2.2.2.2 Wm = true) (hC19 : zCK φ D ST B0 l Sg zC19) (hs19 : sx_subm zC19.2.2.2.2.2 Wm = true) (hC20 : zCK φ D ST B0 l Sg zC20) (hs20 : sx_subm zC20.2.2.2.2.2 Wm = true) (hC21 : zCK φ D ST B0 l Sg zC21) (hs21 : sx_subm zC21.2.2.2.2.2 Wm = true) (hC22 : zCK φ D ST B0 l Sg zC22) (hs22 : sx_subm zC22.2.2.2.2.2 Wm = true) (hC23 : zCK φ D ST B0 l Sg zC23) (hs23 : sx_subm zC23.2.2.2.2.2 Wm = true) (hC24 : zCK φ D ST B0 l Sg zC24) (hs24 : sx_subm zC24.2.2.2.2.2 Wm = true) (hC25 : zCK φ D ST B0 l Sg zC25) (hs25 : sx_subm zC25.2.2.2.2.2 Wm = true) (hC26 : zCK φ D ST B0 l Sg zC26) (hs26 : sx_subm zC26.2.2.2.2.2 Wm = true) (hC27 : zCK φ D ST B0 l Sg zC27) (hs27 : sx_subm zC27.2.2.2.2.2 Wm = true) (hC28 : zCK φ D ST B0 l Sg zC28) (hs28 : sx_subm zC28.2.2.2.2.2 Wm = true) (hC30 : zCK φ D ST B0 l Sg zC30) (hs30 : sx_subm zC30.2.2.2.2.2 Wm = true) (hC31 : zCK φ D ST B0 l Sg zC31) (hs31 : sx_subm zC31.2.2.2.2.2 Wm = true) (hC32 : zCK φ D ST B0 l Sg zC32) (hs32 : sx_subm zC32.2.2.2.2.2 Wm = true) (hC33 : zCK φ D ST B0 l Sg zC33) (hs33 : sx_subm zC33.2.2.2.2.2 Wm = true) (hC34 : zCK φ D ST B0 l Sg zC34) (hs34 : sx_subm zC34.2.2.2.2.2 Wm = true) (hC35 : zCK φ D ST B0 l Sg zC35) (hs35 : sx_subm zC35.2.2.2.2.2 Wm = true) (hC36 : zCK φ D ST B0 l Sg zC36) (hs36 : sx_subm zC36.2.2.2.2.2 Wm = true) (hC37 : zCK φ D ST B0 l Sg zC37) (hs37 : sx_subm zC37.2.2.2.2.2 Wm = true) (hC38 : zCK φ D ST B0 l Sg zC38) (hs38 : sx_subm zC38.2.2.2.2.2 Wm = true) (hC39 : zCK φ D ST B0 l Sg zC39) (hs39 : sx_subm zC39.2.2.2.2.2 Wm = true) (hC40 : zCK φ D ST B0 l Sg zC40) (hs40 : sx_subm zC40.2.2.2.2.2 Wm = true) (hC41 : zCK φ D ST B0 l Sg zC41) (hs41 : sx_subm zC41.2.2.2.2.2 Wm = true) (hC43 : zCK φ D ST B0 l Sg zC43) (hs43 : sx_subm zC43.2.2.2.2.2 Wm = true) (hC44 : zCK φ D ST B0 l Sg zC44) (hs44 : sx_subm zC44.2.2.2.2.2 Wm = true) (hC45 : zCK φ D ST B0 l Sg zC45) (hs45 : sx_subm zC45.2.2.2.2.2 Wm = true) (hC46 : zCK φ D ST B0 l Sg zC46) (hs46 : sx_subm zC46.2.2.2.2.2 Wm = true) (hC47 : zCK φ D ST B0 l Sg zC47) (hs47 : sx_subm zC47.2.2.2.2.2 Wm = true) (hC48 : zCK φ D ST B0 l Sg zC48) (hs48 : sx_subm zC48.2.2.2.2.2 Wm = true) (hC49 : zCK φ D ST B0 l Sg zC49) (hs49 : sx_subm zC49.2.2.2.2.2 Wm = true) (hC50 : zCK φ D ST B0 l Sg zC50) (hs50 : sx_subm zC50.2.2.2.2.2 Wm = true) (hC51 : zCK φ D ST B0 l Sg zC51) (hs51 : sx_subm zC51.2.2.2.2.2 Wm = true) (hC52 : zCK φ D ST B0 l Sg zC52) (hs52 : sx_subm zC52.2.2.2.2.2 Wm = true) (hC53 : zCK φ D ST B0 l Sg zC53) (hs53 : sx_subm zC53.2.2.2.2.2 Wm = true) (hC54 : zCK φ D ST B0 l Sg zC54) (hs54 : sx_subm zC54.2.2.2.2.2 Wm = true) (hC56 : zCK φ D ST B0 l Sg zC56) (hs56 : sx_subm zC56.2.2.2.2.2 Wm = true) (hC57 : zCK φ D ST B0 l Sg zC57) (hs57 : sx_subm zC57.2.2.2.2.2 Wm = true) (hC58 : zCK φ D ST B0 l Sg zC58) (hs58 : sx_subm zC58.2.2.2.2.2 Wm = true) (hC59 : zCK φ D ST B0 l Sg zC59) (hs59 : sx_subm zC59.2.2.2.2.2 Wm = true) (hC60 : zCK φ D ST B0 l Sg zC60) (hs60 : sx_subm zC60.2.2.2.2.2 Wm = true) (hC61 : zCK φ D ST B0 l Sg zC61) (hs61 : sx_subm zC61.2.2.2.2.2 Wm = true) (hC62 : zCK φ D ST B0 l Sg zC62) (hs62 : sx_subm zC62.2.2.2.2.2 Wm = true) (hC63 : zCK φ D ST B0 l Sg zC63) (hs63 : sx_subm zC63.2.2.2.2.2 Wm = true) (hC64 : zCK φ D ST B0 l Sg zC64) (hs64 : sx_subm zC64.2.2.2.2.2 Wm = true) (hC65 : zCK φ D ST B0 l Sg zC65) (hs65 : sx_subm zC65.2.2.2.2.2 Wm = true) (hC66 : zCK φ D ST B0 l Sg zC66) (hs66 : sx_subm zC66.2.2.2.2.2 Wm = true) (hC67 : zCK φ D ST B0 l Sg zC67) (hs67 : sx_subm zC67.2.2.2.2.2 Wm = true) (hC69 : zCK φ D ST B0 l Sg zC69) (hs69 : sx_subm zC69.2.2.2.2.2 Wm = true) (hC70 : zCK φ D ST B0 l Sg zC70) (hs70 : sx_subm zC70.2.2.2.2.2 Wm = true) (hC71 : zCK φ D ST B0 l Sg zC71) (hs71 : sx_subm zC71.2.2.2.2.2 Wm = true) (hC72 : zCK φ D ST B0 l Sg zC72) (hs72 : sx_subm zC72.2.2.2.2.2 Wm = true) (hC73 : zCK φ D ST B0 l Sg zC73) (hs73 : sx_subm zC73.2.2.2.2.2 Wm = true) (hC74 : zCK φ D ST B0 l Sg zC74) (hs74 : sx_subm zC74.2.2.2.2.2 Wm = true) (hC75 : zCK φ D ST B0 l Sg zC75) (hs75 : sx_subm zC75.2.2.2.2.2 Wm = true) (hC76 : zCK φ D ST B0 l Sg zC76) (hs76 : sx_subm zC76.2.2.2.2.2 Wm = true) (hC77 : zCK φ D ST B0 l Sg zC77) (hs77 : sx_subm zC77.2.2.2.2.2 Wm = true) (hC78 : zCK φ D ST B0 l Sg zC78) (hs78 : sx_subm zC78.2.2.2.2.2 Wm = true) (hC79 : zCK φ D ST B0 l Sg zC79) (hs79 : sx_subm zC79.2.2.2.2.2 Wm = true) (hC80 : zCK φ D ST B0 l Sg zC80) (hs80 : sx_subm zC80.2.2.2.2.2 Wm = true) (hT : zTJ φ μ) (hb96 : sx_bit Wm 96 = true) (hb98 : sx_bit Wm 98 = true) (hb99 : sx_bit Wm 99 = true) (hb112 : sx_bit Wm 112 = true) (hb125 : sx_bit Wm 125 = true) (hb138 : sx_bit Wm 138 = true) (hb151 : sx_bit Wm 151 = true) (hb164 : sx_bit Wm 164 = true) (hb13 : sx_bit Wm 13 = true) (hbd : 4 ≤ bud.1 ∧ 152 ≤ bud.2.1) : zC D Wm ST (sx_bW zRT2 Wm B0 Sg, J) l Sg zM31 bud [(2, 1), (0, c)] μ (fun st' μ' => ∃ x, st' = [(0, x)] ∧ (0 ≤ x ∧ x ≤ 1) ∧ zTJ φ μ' ∧ zKC μ μ') := by
  have hA : zKC μ μ := zKC_refl
  have hv : zKF μ μ := zKF_refl
  have f30 := zT_get hT zs3_0 (i := 0) (by omega) (by omega)
  have f31 := zT_get hT zs3_1 (i := 1) (by omega) (by omega)
  refine pm_blk hK zmm31 [] 6 10 [(2, 1), (0, c), (2, 3)] [(0, c), (2, 3)] μ [] rfl trivial ?_
  refine pm_call hK zmm31 (113, 0, 23, 1) zM23 (0, 0) [(2, 3), (0, c)] [] rfl rfl rfl rfl ⟨by omega, by rw [zn23]; omega⟩ (zh_isCu3 hK ⟨Nat.le_refl _, Nat.le_refl _⟩) (fun st1 μc1 hp1 => ?_)
  obtain ⟨rfl, rfl⟩ := hp1
  refine pm_if hK zmm31 .eq 13 26 rfl rfl (fun h0 => ?_) (fun h0 => ?_)
  · have h0 : (if 0 ≤ c ∧ c < μ 3 1 then 1 else 0 : Int) = (0 : Int) := h0
    have h0 := zif0 h0
    refine pm_blk hK zmm31 [] 1 27 [(2, 1), (0, c), (2, 3)] [(0, 0)] μ [] rfl trivial ?_
    exact pm_zret rfl rfl (by first | exact Or.inl rfl | exact Or.inr rfl | omega) ⟨_, rfl, ⟨by omega, by omega⟩, hT, hA⟩
  · have h0 : (if 0 ≤ c ∧ c < μ 3 1 then 1 else 0 : Int) ≠ (0 : Int) := h0
    have h0 := zif1 h0
    have f1 := zT_get hT zs13_0 (i := c) (by omega) (by omega)
    refine pm_blk hK zmm31 [] 5 23 [(2, 1), (0, c), (2, 3)] [(0, (-1)), (0, μ 13 c)] μ [0 ≤ c ∧ c < 18] rfl ⟨⟨by omega, by omega⟩, trivial⟩ ?_
    refine pm_icmp hK zmm31 .ne 5 28 rfl rfl (fun h1 => ?_) (fun h1 => ?_)
    · have h1 : μ 13 c ≠ ((-1) : Int) := h1
      refine pm_blk hK zmm31 [] 4 36 [(2, 1), (0, c), (2, 3)] [(2, 2), (2, 96)] μ [] rfl trivial ?_
      refine pm_call hK zmm31 (141, 0, 27, 1) zM27 (3, 122) [(2, 96), (2, 2)] [] rfl rfl rfl rfl ⟨by omega, by rw [zn27]; omega⟩ (zh_keep hK hw hC4 hs4 hC5 hs5 hC6 hs6 hC7 hs7 hC8 hs8 hC9 hs9 hC10 hs10 hC11 hs11 hC12 hs12 hC13 hs13 hC14 hs14 hC15 hs15 hC17 hs17 hC18 hs18 hC19 hs19 hC20 hs20 hC21 hs21 hC22 hs22 hC23 hs23 hC24 hs24 hC25 hs25 hC26 hs26 hC27 hs27 hC28 hs28 hC30 hs30 hC31 hs31 hC32 hs32 hC33 hs33 hC34 hs34 hC35 hs35 hC36 hs36 hC37 hs37 hC38 hs38 hC39 hs39 hC40 hs40 hC41 hs41 hC43 hs43 hC44 hs44 hC45 hs45 hC46 hs46 hC47 hs47 hC48 hs48 hC49 hs49 hC50 hs50 hC51 hs51 hC52 hs52 hC53 hs53 hC54 hs54 hC56 hs56 hC57 hs57 hC58 hs58 hC59 hs59 hC60 hs60 hC61 hs61 hC62 hs62 hC63 hs63 hC64 hs64 hC65 hs65 hC66 hs66 hC67 hs67 hC69 hs69 hC70 hs70 hC71 hs71 hC72 hs72 hC73 hs73 hC74 hs74 hC75 hs75 hC76 hs76 hC77 hs77 hC78 hs78 hC79 hs79 hC80 hs80 hT hb96 hb98 hb99 hb112 hb125 hb138 hb151 hb164 ⟨Nat.le_refl _, Nat.le_refl _⟩) (fun st2 μc2 hp2 => ?_)
      obtain ⟨rfl, hTc2, hA2, hv2⟩ := hp2
      have hA := zKC_tr hA hA2
      have hv := zKF_tr hv hv2
      refine pm_blk hK zmm31 [] 5 46 [(2, 1), (0, c), (2, 3)] [] (pm_up μc2 13 c ((-1))) [sx_bit Wm 13 = true, 0 ≤ c ∧ c < 18] rfl ⟨hb13, ⟨by omega, by omega⟩, trivial⟩ ?_
      obtain ⟨μ1, eμ1⟩ : ∃ μ', μ' = pm_up μc2 13 c ((-1)) := ⟨_, rfl⟩
      rw [← eμ1]
      have hTμ1 : zTJ φ μ1 := by rw [eμ1]; exact zT_up hTc2 zs13_0 rfl (i := c) (by omega) (by omega) (by omega) (by omega)
      refine pm_blk hK zmm31 [] 1 47 [(2, 1), (0, c), (2, 3)] [(0, 1)] μ1 [] rfl trivial ?_
      have hA : zKC μ μ1 := by rw [eμ1]; exact zKC_up hA (by decide)
      exact pm_zret rfl rfl (by first | exact Or.inl rfl | exact Or.inr rfl | omega) ⟨_, rfl, ⟨by omega, by omega⟩, hTμ1, hA⟩
    · have h1 : μ 13 c = ((-1) : Int) := h1
      refine pm_blk hK zmm31 [] 1 27 [(2, 1), (0, c), (2, 3)] [(0, 0)] μ [] rfl trivial ?_
      exact pm_zret rfl rfl (by first | exact Or.inl rfl | exact Or.inr rfl | omega) ⟨_, rfl, ⟨by omega, by omega⟩, hT, hA⟩
set_option maxRecDepth 100000 in
theorem zh_stockk (hK : zKK ST) {s g : Int} (hw : sx_Wd zNR zRT2 B0 Sg) (hC4 : zCK φ D ST B0 l Sg zC4) (hs4 : sx_subm zC4.2.2.2.2.2 Wm = true) (hC5 : zCK φ D ST B0 l Sg zC5) (hs5 : sx_subm zC5.2.2.2.2.2 Wm = true) (hC6 : zCK φ D ST B0 l Sg zC6) (hs6 : sx_subm zC6.2.2.2.2.2 Wm = true) (hC7 : zCK φ D ST B0 l Sg zC7) (hs7 : sx_subm zC7.2.2.2.2.2 Wm = true) (hC8 : zCK φ D ST B0 l Sg zC8) (hs8 : sx_subm zC8.2.2.2.2.2 Wm = true) (hC9 : zCK φ D ST B0 l Sg zC9) (hs9 : sx_subm zC9.2.2.2.2.2 Wm = true) (hC10 : zCK φ D ST B0 l Sg zC10) (hs10 : sx_subm zC10.2.2.2.2.2 Wm = true) (hC11 : zCK φ D ST B0 l Sg zC11) (hs11 : sx_subm zC11.2.2.2.2.2 Wm = true) (hC12 : zCK φ D ST B0 l Sg zC12) (hs12 : sx_subm zC12.2.2.2.2.2 Wm = true) (hC13 : zCK φ D ST B0 l Sg zC13) (hs13 : sx_subm zC13.2.2.2.2.2 Wm = true) (hC14 : zCK φ D ST B0 l Sg zC14) (hs14 : sx_subm zC14.2.2.2.2.2 Wm = true) (hC15 : zCK φ D ST B0 l Sg zC15) (hs15 : sx_subm zC15.2.2.2.2.2 Wm = true) (hC17 : zCK φ D ST B0 l Sg zC17) (hs17 : sx_subm zC17.2.2.2.2.2 Wm = true) (hC18 : zCK φ D ST B0 l Sg zC18) (hs18 : sx_subm zC18.2.2.2.2.2 Wm = true) (hC19 : zCK φ D ST B0 l Sg zC19) (hs19 : sx_subm zC19.2.2.2.2.2 Wm = true) (hC20 : zCK φ D ST B0 l Sg zC20) (hs20 : sx_subm zC20.2.2.2.2.2 Wm = true) (hC21 : zCK φ D ST B0 l Sg zC21) (hs21 : sx_subm zC21.2.2.2.2.2 Wm = true) (hC22 : zCK φ D ST B0 l Sg zC22) (hs22 : sx_subm zC22.2.2.2.2.2 Wm = true) (hC23 : zCK φ D ST B0 l Sg zC23) (hs23 : sx_subm zC23.2.2.2.2.2 Wm = true) (hC24 : zCK φ D ST B0 l Sg zC24) (hs24 : sx_subm zC24.2.2.2.2.2 Wm = true) (hC25 : zCK φ D ST B0 l Sg zC25) (hs25 : sx_subm zC25.2.2.2.2.2 Wm = true) (hC26 : zCK φ D ST B0 l Sg zC26) (hs26 : sx_subm zC26.2.2.2.2.2 Wm = true) (hC27 : zCK φ D ST B0 l Sg zC27) (hs27 : sx_subm zC27.2.2.2.2.2 Wm = true) (hC28 : zCK φ D ST B0 l Sg zC28) (hs28 : sx_subm zC28.2.2.2.2.2 Wm = true) (hC30 : zCK φ D ST B0 l Sg zC30) (hs30 : sx_subm zC30.2.2.2.2.2 Wm = true) (hC31 : zCK φ D ST B0 l Sg zC31) (hs31 : sx_subm zC31.2.2.2.2.2 Wm = true) (hC32 : zCK φ D ST B0 l Sg zC32) (hs32 : sx_subm zC32.2.2.2.2.2 Wm = true) (hC33 : zCK φ D ST B0 l Sg zC33) (hs33 : sx_subm zC33.2.2.2.2.2 Wm = true) (hC34 : zCK φ D ST B0 l Sg zC34) (hs34 : sx_subm zC34.2.2.2.2.2 Wm = true) (hC35 : zCK φ D ST B0 l Sg zC35) (hs35 : sx_subm zC35.2.2.2.2.2 Wm = true) (hC36 : zCK φ D ST B0 l Sg zC36) (hs36 : sx_subm zC36.2.2.2.2.2 Wm = true) (hC37 : zCK φ D ST B0 l Sg zC37) (hs37 : sx_subm zC37.2.2.2.2.2 Wm = true) (hC38 : zCK φ D ST B0 l Sg zC38) (hs38 : sx_subm zC38.2.2.2.2.2 Wm = true) (hC39 : zCK φ D ST B0 l Sg zC39) (hs39 : sx_subm zC39.2.2.2.2.2 Wm = true) (hC40 : zCK φ D ST B0 l Sg zC40) (hs40 : sx_subm zC40.2.2.2.2.2 Wm = true) (hC41 : zCK φ D ST B0 l Sg zC41) (hs41 : sx_subm zC41.2.2.2.2.2 Wm = true) (hC43 : zCK φ D ST B0 l Sg zC43) (hs43 : sx_subm zC43.2.2.2.2.2 Wm = true) (hC44 : zCK φ D ST B0 l Sg zC44) (hs44 : sx_subm zC44.2.2.2.2.2 Wm = true) (hC45 : zCK φ D ST B0 l Sg zC45) (hs45 : sx_subm zC45.2.2.2.2.2 Wm = true) (hC46 : zCK φ D ST B0 l Sg zC46) (hs46 : sx_subm zC46.2.2.2.2.2 Wm = true) (hC47 : zCK φ D ST B0 l Sg zC47) (hs47 : sx_subm zC47.2.2.2.2.2 Wm = true) (hC48 : zCK φ D ST B0 l Sg zC48) (hs48 : sx_subm zC48.2.2.2.2.2 Wm = true) (hC49 : zCK φ D ST B0 l Sg zC49) (hs49 : sx_subm zC49.2.2.2.2.2 Wm = true) (hC50 : zCK φ D ST B0 l Sg zC50) (hs50 : sx_subm zC50.2.2.2.2.2 Wm = true) (hC51 : zCK φ D ST B0 l Sg zC51) (hs51 : sx_subm zC51.2.2.2.2.2 Wm = true) (hC52 : zCK φ D ST B0 l Sg zC52) (hs52 : sx_subm zC52.2.2.2.2.2 Wm = true) (hC53 : zCK φ D ST B0 l Sg zC53) (hs53 : sx_subm zC53.2.2.2.2.2 Wm = true) (hC54 : zCK φ D ST B0 l Sg zC54) (hs54 : sx_subm zC54.2.2.2.2.2 Wm = true) (hC56 : zCK φ D ST B0 l Sg zC56) (hs56 : sx_subm zC56.2.2.2.2.2 Wm = true) (hC57 : zCK φ D ST B0 l Sg zC57) (hs57 : sx_subm zC57.2.2.2.2.2 Wm = true) (hC58 : zCK φ D ST B0 l Sg zC58) (hs58 : sx_subm zC58.2.2.2.2.2 Wm = true) (hC59 : zCK φ D ST B0 l Sg zC59) (hs59 : sx_subm zC59.2.2.2.2.2 Wm = true) (hC60 : zCK φ D ST B0 l Sg zC60) (hs60 : sx_subm zC60.2.2.2.2.2 Wm = true) (hC61 : zCK φ D ST B0 l Sg zC61) (hs61 : sx_subm zC61.2.2.2.2.2 Wm = true) (hC62 : zCK φ D ST B0 l Sg zC62) (hs62 : sx_subm zC62.2.2.2.2.2 Wm = true) (hC63 : zCK φ D ST B0 l Sg zC63) (hs63 : sx_subm zC63.2.2.2.2.2 Wm = true) (hC64 : zCK φ D ST B0 l Sg zC64) (hs64 : sx_subm zC64.2.2.2.2.2 Wm = true) (hC65 : zCK φ D ST B0 l Sg zC65) (hs65 : sx_subm zC65.2.2.2.2.2 Wm = true) (hC66 : zCK φ D ST B0 l Sg zC66) (hs66 : sx_subm zC66.2.2.2.2.2 Wm = true) (hC67 : zCK φ D ST B0 l Sg zC67) (hs67 : sx_subm zC67.2.2.2.2.2 Wm = true) (hC69 : zCK φ D ST B0 l Sg zC69) (hs69 : sx_subm zC69.2.2.2.2.2 Wm = true) (hC70 : zCK φ D ST B0 l Sg zC70) (hs70 : sx_subm zC70.2.2.2.2.2 Wm = true) (hC71 : zCK φ D ST B0 l Sg zC71) (hs71 : sx_subm zC71.2.2.2.2.2 Wm = true) (hC72 : zCK φ D ST B0 l Sg zC72) (hs72 : sx_subm zC72.2.2.2.2.2 Wm = true) (hC73 : zCK φ D ST B0 l Sg zC73) (hs73 : sx_subm zC73.2.2.2.2.2 Wm = true) (hC74 : zCK φ D ST B0 l Sg zC74) (hs74 : sx_subm zC74.2.2.2.2.2 Wm = true) (hC75 : zCK φ D ST B0 l Sg zC75) (hs75 : sx_subm zC75.2.2.2.2.2 Wm = true) (hC76 : zCK φ D ST B0 l Sg zC76) (hs76 : sx_subm zC76.2.2.2.2.2 Wm = true) (hC77 : zCK φ D ST B0 l Sg zC77) (hs77 : sx_subm zC77.2.2.2.2.2 Wm = true) (hC78 : zCK φ D ST B0 l Sg zC78) (hs78 : sx_subm zC78.2.2.2.2.2 Wm = true) (hC79 : zCK φ D ST B0 l Sg zC79) (hs79 : sx_subm zC79.2.2.2.2.2 Wm = true) (hC80 : zCK φ D ST B0 l Sg zC80) (hs80 : sx_subm zC80.2.2.2.2.2 Wm = true) (hT : zTJ φ μ) (hb96 : sx_bit Wm 96 = true) (hb98 : sx_bit Wm 98 = true) (hb99 : sx_bit Wm 99 = true) (hb112 : sx_bit Wm 112 = true) (hb125 : sx_bit Wm 125 = true) (hb138 : sx_bit Wm 138 = true) (hb151 : sx_bit Wm 151 = true) (hb164 : sx_bit Wm 164 = true) (hb4 : sx_bit Wm 4 = true) (hbd : 4 ≤ bud.1 ∧ 152 ≤ bud.2.1) : zC D Wm ST (sx_bW zRT2 Wm B0 Sg, J) l Sg zM35 bud [(2, 1), (0, s), (0, g)] μ (fun st' μ' => ∃ x, st' = [(0, x)] ∧ (0 ≤ x ∧ x ≤ 1) ∧ zTJ φ μ' ∧ zKC μ μ') := by
  have hA : zKC μ μ := zKC_refl
  have hv : zKF μ μ := zKF_refl
  have f30 := zT_get hT zs3_0 (i := 0) (by omega) (by omega)
  have f31 := zT_get hT zs3_1 (i := 1) (by omega) (by omega)
  refine pm_blk hK zmm35 [] 6 10 [(2, 1), (0, s), (0, g), (2, 3)] [(0, s), (2, 3)] μ [] rfl trivial ?_
  refine pm_call hK zmm35 (105, 0, 22, 1) zM22 (0, 0) [(2, 3), (0, s)] [] rfl rfl rfl rfl ⟨by omega, by rw [zn22]; omega⟩ (zh_isSh3 hK ⟨Nat.le_refl _, Nat.le_refl _⟩) (fun st1 μc1 hp1 => ?_)
  obtain ⟨rfl, rfl⟩ := hp1
  refine pm_if hK zmm35 .eq 13 26 rfl rfl (fun h0 => ?_) (fun h0 => ?_)
  · have h0 : (if 0 ≤ s ∧ s < μ 3 0 then 1 else 0 : Int) = (0 : Int) := h0
    have h0 := zif0 h0
    refine pm_blk hK zmm35 [] 1 27 [(2, 1), (0, s), (0, g), (2, 3)] [(0, 0)] μ [] rfl trivial ?_
    exact pm_zret rfl rfl (by first | exact Or.inl rfl | exact Or.inr rfl | omega) ⟨_, rfl, ⟨by omega, by omega⟩, hT, hA⟩
  · have h0 : (if 0 ≤ s ∧ s < μ 3 0 then 1 else 0 : Int) ≠ (0 : Int) := h0
    have h0 := zif1 h0
    refine pm_blk hK zmm35 [] 3 20 [(2, 1), (0, s), (0, g), (2, 3)] [(0, 99), (0, 0), (0, g)] μ [] rfl trivial ?_
    refine pm_call hK zmm35 (94, 1, 16, 3) zM16 (0, 0) [(0, g), (0, 0), (0, 99)] [] rfl rfl rfl rfl ⟨by omega, by rw [zn16]; omega⟩ (zh_within hK ⟨Nat.le_refl _, Nat.le_refl _⟩) (fun st2 μc2 hp2 => ?_)
    obtain ⟨rfl, rfl⟩ := hp2
    refine pm_if hK zmm35 .ne 5 28 rfl rfl (fun h1 => ?_) (fun h1 => ?_)
    · have h1 : (if 0 ≤ g ∧ g ≤ 99 then 1 else 0 : Int) ≠ (0 : Int) := h1
      have h1 := zif1 h1
      refine pm_blk hK zmm35 [] 4 36 [(2, 1), (0, s), (0, g), (2, 3)] [(2, 2), (2, 96)] μ [] rfl trivial ?_
      refine pm_call hK zmm35 (141, 0, 27, 1) zM27 (3, 122) [(2, 96), (2, 2)] [] rfl rfl rfl rfl ⟨by omega, by rw [zn27]; omega⟩ (zh_keep hK hw hC4 hs4 hC5 hs5 hC6 hs6 hC7 hs7 hC8 hs8 hC9 hs9 hC10 hs10 hC11 hs11 hC12 hs12 hC13 hs13 hC14 hs14 hC15 hs15 hC17 hs17 hC18 hs18 hC19 hs19 hC20 hs20 hC21 hs21 hC22 hs22 hC23 hs23 hC24 hs24 hC25 hs25 hC26 hs26 hC27 hs27 hC28 hs28 hC30 hs30 hC31 hs31 hC32 hs32 hC33 hs33 hC34 hs34 hC35 hs35 hC36 hs36 hC37 hs37 hC38 hs38 hC39 hs39 hC40 hs40 hC41 hs41 hC43 hs43 hC44 hs44 hC45 hs45 hC46 hs46 hC47 hs47 hC48 hs48 hC49 hs49 hC50 hs50 hC51 hs51 hC52 hs52 hC53 hs53 hC54 hs54 hC56 hs56 hC57 hs57 hC58 hs58 hC59 hs59 hC60 hs60 hC61 hs61 hC62 hs62 hC63 hs63 hC64 hs64 hC65 hs65 hC66 hs66 hC67 hs67 hC69 hs69 hC70 hs70 hC71 hs71 hC72 hs72 hC73 hs73 hC74 hs74 hC75 hs75 hC76 hs76 hC77 hs77 hC78 hs78 hC79 hs79 hC80 hs80 hT hb96 hb98 hb99 hb112 hb125 hb138 hb151 hb164 ⟨Nat.le_refl _, Nat.le_refl _⟩) (fun st3 μc3 hp3 => ?_)
      obtain ⟨rfl, hTc3, hA3, hv3⟩ := hp3
      have hA := zKC_tr hA hA3
      have hv := zKF_tr hv hv3
      refine pm_blk hK zmm35 [] 5 46 [(2, 1), (0, s), (0, g), (2, 3)] [] (pm_up μc3 4 s g) [sx_bit Wm 4 = true, 0 ≤ s ∧ s < 12] rfl ⟨hb4, ⟨by omega, by omega⟩, trivial⟩ ?_
      obtain ⟨μ1, eμ1⟩ : ∃ μ', μ' = pm_up μc3 4 s g := ⟨_, rfl⟩
      rw [← eμ1]
      have hTμ1 : zTJ φ μ1 := by rw [eμ1]; exact zT_up hTc3 zs4_0 rfl (i := s) (by omega) (by omega) (by omega) (by omega)
      refine pm_blk hK zmm35 [] 1 47 [(2, 1), (0, s), (0, g), (2, 3)] [(0, 1)] μ1 [] rfl trivial ?_
      have hA : zKC μ μ1 := by rw [eμ1]; exact zKC_up hA (by decide)
      exact pm_zret rfl rfl (by first | exact Or.inl rfl | exact Or.inr rfl | omega) ⟨_, rfl, ⟨by omega, by omega⟩, hTμ1, hA⟩
    · have h1 : (if 0 ≤ g ∧ g ≤ 99 then 1 else 0 : Int) = (0 : Int) := h1
      have h1 := zif0 h1
      refine pm_blk hK zmm35 [] 1 27 [(2, 1), (0, s), (0, g), (2, 3)] [(0, 0)] μ [] rfl trivial ?_
      exact pm_zret rfl rfl (by first | exact Or.inl rfl | exact Or.inr rfl | omega) ⟨_, rfl, ⟨by omega, by omega⟩, hT, hA⟩
set_option maxRecDepth 100000 in
theorem zh_buyk (hK : zKK ST) {c : Int} (hw : sx_Wd zNR zRT2 B0 Sg) (hC4 : zCK φ D ST B0 l Sg zC4) (hs4 : sx_subm zC4.2.2.2.2.2 Wm = true) (hC5 : zCK φ D ST B0 l Sg zC5) (hs5 : sx_subm zC5.2.2.2.2.2 Wm = true) (hC6 : zCK φ D ST B0 l Sg zC6) (hs6 : sx_subm zC6.2.2.2.2.2 Wm = true) (hC7 : zCK φ D ST B0 l Sg zC7) (hs7 : sx_subm zC7.2.2.2.2.2 Wm = true) (hC8 : zCK φ D ST B0 l Sg zC8) (hs8 : sx_subm zC8.2.2.2.2.2 Wm = true) (hC9 : zCK φ D ST B0 l Sg zC9) (hs9 : sx_subm zC9.2.2.2.2.2 Wm = true) (hC10 : zCK φ D ST B0 l Sg zC10) (hs10 : sx_subm zC10.2.2.2.2.2 Wm = true) (hC11 : zCK φ D ST B0 l Sg zC11) (hs11 : sx_subm zC11.2.2.2.2.2 Wm = true) (hC12 : zCK φ D ST B0 l Sg zC12) (hs12 : sx_subm zC12.2.2.2.2.2 Wm = true) (hC13 : zCK φ D ST B0 l Sg zC13) (hs13 : sx_subm zC13.2.2.2.2.2 Wm = true) (hC14 : zCK φ D ST B0 l Sg zC14) (hs14 : sx_subm zC14.2.2.2.2.2 Wm = true) (hC15 : zCK φ D ST B0 l Sg zC15) (hs15 : sx_subm zC15.2.2.2.2.2 Wm = true) (hC17 : zCK φ D ST B0 l Sg zC17) (hs17 : sx_subm zC17.2.2.2.2.2 Wm = true) (hC18 : zCK φ D ST B0 l Sg zC18) (hs18 : sx_subm zC18.2.2.2.2.2 Wm = true) (hC19 : zCK φ D ST B0 l Sg zC19) (hs19 : sx_subm zC19.2.2.2.2.2 Wm = true) (hC20 : zCK φ D ST B0 l Sg zC20) (hs20 : sx_subm zC20.2.2.2.2.2 Wm = true) (hC21 : zCK φ D ST B0 l Sg zC21) (hs21 : sx_subm zC21.2.2.2.2.2 Wm = true) (hC22 : zCK φ D ST B0 l Sg zC22) (hs22 : sx_subm zC22.2.2.2.2.2 Wm = true) (hC23 : zCK φ D ST B0 l Sg zC23) (hs23 : sx_subm zC23.2.2.2.2.2 Wm = true) (hC24 : zCK φ D ST B0 l Sg zC24) (hs24 : sx_subm zC24.2.2.2.2.2 Wm = true) (hC25 : zCK φ D ST B0 l Sg zC25) (hs25 : sx_subm zC25.2.2.2.2.2 Wm = true) (hC26 : zCK φ D ST B0 l Sg zC26) (hs26 : sx_subm zC26.2.2.2.2.2 Wm = true) (hC27 : zCK φ D ST B0 l Sg zC27) (hs27 : sx_subm zC27.2.2.2.2.2 Wm = true) (hC28 : zCK φ D ST B0 l Sg zC28) (hs28 : sx_subm zC28.2.2.2.2.2 Wm = true) (hC30 : zCK φ D ST B0 l Sg zC30) (hs30 : sx_subm zC30.2.2.2.2.2 Wm = true) (hC31 : zCK φ D ST B0 l Sg zC31) (hs31 : sx_subm zC31.2.2.2.2.2 Wm = true) (hC32 : zCK φ D ST B0 l Sg zC32) (hs32 : sx_subm zC32.2.2.2.2.2 Wm = true) (hC33 : zCK φ D ST B0 l Sg zC33) (hs33 : sx_subm zC33.2.2.2.2.2 Wm = true) (hC34 : zCK φ D ST B0 l Sg zC34) (hs34 : sx_subm zC34.2.2.2.2.2 Wm = true) (hC35 : zCK φ D ST B0 l Sg zC35) (hs35 : sx_subm zC35.2.2.2.2.2 Wm = true) (hC36 : zCK φ D ST B0 l Sg zC36) (hs36 : sx_subm zC36.2.2.2.2.2 Wm = true) (hC37 : zCK φ D ST B0 l Sg zC37) (hs37 : sx_subm zC37.2.2.2.2.2 Wm = true) (hC38 : zCK φ D ST B0 l Sg zC38) (hs38 : sx_subm zC38.2.2.2.2.2 Wm = true) (hC39 : zCK φ D ST B0 l Sg zC39) (hs39 : sx_subm zC39.2.2.2.2.2 Wm = true) (hC40 : zCK φ D ST B0 l Sg zC40) (hs40 : sx_subm zC40.2.2.2.2.2 Wm = true) (hC41 : zCK φ D ST B0 l Sg zC41) (hs41 : sx_subm zC41.2.2.2.2.2 Wm = true) (hC43 : zCK φ D ST B0 l Sg zC43) (hs43 : sx_subm zC43.2.2.2.2.2 Wm = true) (hC44 : zCK φ D ST B0 l Sg zC44) (hs44 : sx_subm zC44.2.2.2.2.2 Wm = true) (hC45 : zCK φ D ST B0 l Sg zC45) (hs45 : sx_subm zC45.2.2.2.2.2 Wm = true) (hC46 : zCK φ D ST B0 l Sg zC46) (hs46 : sx_subm zC46.2.2.2.2.2 Wm = true) (hC47 : zCK φ D ST B0 l Sg zC47) (hs47 : sx_subm zC47.2.2.2.2.2 Wm = true) (hC48 : zCK φ D ST B0 l Sg zC48) (hs48 : sx_subm zC48.2.2.2.2.2 Wm = true) (hC49 : zCK φ D ST B0 l Sg zC49) (hs49 : sx_subm zC49.2.2.2.2.2 Wm = true) (hC50 : zCK φ D ST B0 l Sg zC50) (hs50 : sx_subm zC50.2.2.2.2.2 Wm = true) (hC51 : zCK φ D ST B0 l Sg zC51) (hs51 : sx_subm zC51.2.2.2.2.2 Wm = true) (hC52 : zCK φ D ST B0 l Sg zC52) (hs52 : sx_subm zC52.2.2.2.2.2 Wm = true) (hC53 : zCK φ D ST B0 l Sg zC53) (hs53 : sx_subm zC53.2.2.2.2.2 Wm = true) (hC54 : zCK φ D ST B0 l Sg zC54) (hs54 : sx_subm zC54.2.2.2.2.2 Wm = true) (hC56 : zCK φ D ST B0 l Sg zC56) (hs56 : sx_subm zC56.2.2.2.2.2 Wm = true) (hC57 : zCK φ D ST B0 l Sg zC57) (hs57 : sx_subm zC57.2.2.2.2.2 Wm = true) (hC58 : zCK φ D ST B0 l Sg zC58) (hs58 : sx_subm zC58.2.2.2.2.2 Wm = true) (hC59 : zCK φ D ST B0 l Sg zC59) (hs59 : sx_subm zC59.2.2.2.2.2 Wm = true) (hC60 : zCK φ D ST B0 l Sg zC60) (hs60 : sx_subm zC60.2.2.2.2.2 Wm = true) (hC61 : zCK φ D ST B0 l Sg zC61) (hs61 : sx_subm zC61.2.2.2.2.2 Wm = true) (hC62 : zCK φ D ST B0 l Sg zC62) (hs62 : sx_subm zC62.2.2.2.2.2 Wm = true) (hC63 : zCK φ D ST B0 l Sg zC63) (hs63 : sx_subm zC63.2.2.2.2.2 Wm = true) (hC64 : zCK φ D ST B0 l Sg zC64) (hs64 : sx_subm zC64.2.2.2.2.2 Wm = true) (hC65 : zCK φ D ST B0 l Sg zC65) (hs65 : sx_subm zC65.2.2.2.2.2 Wm = true) (hC66 : zCK φ D ST B0 l Sg zC66) (hs66 : sx_subm zC66.2.2.2.2.2 Wm = true) (hC67 : zCK φ D ST B0 l Sg zC67) (hs67 : sx_subm zC67.2.2.2.2.2 Wm = true) (hC69 : zCK φ D ST B0 l Sg zC69) (hs69 : sx_subm zC69.2.2.2.2.2 Wm = true) (hC70 : zCK φ D ST B0 l Sg zC70) (hs70 : sx_subm zC70.2.2.2.2.2 Wm = true) (hC71 : zCK φ D ST B0 l Sg zC71) (hs71 : sx_subm zC71.2.2.2.2.2 Wm = true) (hC72 : zCK φ D ST B0 l Sg zC72) (hs72 : sx_subm zC72.2.2.2.2.2 Wm = true) (hC73 : zCK φ D ST B0 l Sg zC73) (hs73 : sx_subm zC73.2.2.2.2.2 Wm = true) (hC74 : zCK φ D ST B0 l Sg zC74) (hs74 : sx_subm zC74.2.2.2.2.2 Wm = true) (hC75 : zCK φ D ST B0 l Sg zC75) (hs75 : sx_subm zC75.2.2.2.2.2 Wm = true) (hC76 : zCK φ D ST B0 l Sg zC76) (hs76 : sx_subm zC76.2.2.2.2.2 Wm = true) (hC77 : zCK φ D ST B0 l Sg zC77) (hs77 : sx_subm zC77.2.2.2.2.2 Wm = true) (hC78 : zCK φ D ST B0 l Sg zC78) (hs78 : sx_subm zC78.2.2.2.2.2 Wm = true) (hC79 : zCK φ D ST B0 l Sg zC79) (hs79 : sx_subm zC79.2.2.2.2.2 Wm = true) (hC80 : zCK φ D ST B0 l Sg zC80) (hs80 : sx_subm zC80.2.2.2.2.2 Wm = true) (hC88 : zCK φ D ST B0 l Sg zC88) (hs88 : sx_subm zC88.2.2.2.2.2 Wm = true) (hT : zTJ φ μ) (hb96 : sx_bit Wm 96 = true) (hb98 : sx_bit Wm 98 = true) (hb99 : sx_bit Wm 99 = true) (hb112 : sx_bit Wm 112 = true) (hb125 : sx_bit Wm 125 = true) (hb138 : sx_bit Wm 138 = true) (hb151 : sx_bit Wm 151 = true) (hb164 : sx_bit Wm 164 = true) (hb2 : sx_bit Wm 2 = true) (hb4 : sx_bit Wm 4 = true) (hb6 : sx_bit Wm 6 = true) (hb8 : sx_bit Wm 8 = true) (hb9 : sx_bit Wm 9 = true) (hb11 : sx_bit Wm 11 = true) (hb15 : sx_bit Wm 15 = true) (hb16 : sx_bit Wm 16 = true) (hbd : 8 ≤ bud.1 ∧ 202 ≤ bud.2.1) : zC D Wm ST (sx_bW zRT2 Wm B0 Sg, J) l Sg zM32 bud [(2, 1), (0, c)] μ (fun st' μ' => ∃ x, st' = [(0, x)] ∧ (0 ≤ x ∧ x ≤ 1) ∧ zTJ φ μ' ∧ zKC μ μ') := by
  have hA : zKC μ μ := zKC_refl
  have hv : zKF μ μ := zKF_refl
  have f30 := zT_get hT zs3_0 (i := 0) (by omega) (by omega)
  have f31 := zT_get hT zs3_1 (i := 1) (by omega) (by omega)
  refine pm_blk hK zmm32 [] 6 12 [(2, 1), (0, c), (9, 0)] [(0, c), (2, 3), (2, 180)] μ [] rfl trivial ?_
  refine pm_call hK zmm32 (145, 0, 33, 2) zM33 (7, 172) [(2, 180), (2, 3), (0, c)] [] rfl rfl rfl rfl ⟨by omega, by rw [zn33]; omega⟩ (zh_pay3 hK hw hC88 hs88 hT ⟨Nat.le_refl _, Nat.le_refl _⟩) (fun st1 μc1 hp1 => ?_)
  obtain ⟨x1, rfl, hTc1, hA1, hv1, hp1x⟩ := hp1
  have hA := zKC_tr hA hA1
  have hv := zKF_tr hv hv1
  have hpx := hp1x
  refine pm_blk hK zmm32 [] 3 18 [(2, 1), (0, c), (0, x1)] [(0, (-1)), (0, x1)] μc1 [] rfl trivial ?_
  refine pm_icmp hK zmm32 .ne 5 23 rfl rfl (fun h0 => ?_) (fun h0 => ?_)
  · have h0 : x1 ≠ ((-1) : Int) := h0
    refine pm_blk hK zmm32 [] 4 31 [(2, 1), (0, c), (0, x1)] [(2, 2), (2, 96)] μc1 [] rfl trivial ?_
    refine pm_call hK zmm32 (141, 0, 27, 1) zM27 (3, 122) [(2, 96), (2, 2)] [] rfl rfl rfl rfl ⟨by omega, by rw [zn27]; omega⟩ (zh_keep hK hw hC4 hs4 hC5 hs5 hC6 hs6 hC7 hs7 hC8 hs8 hC9 hs9 hC10 hs10 hC11 hs11 hC12 hs12 hC13 hs13 hC14 hs14 hC15 hs15 hC17 hs17 hC18 hs18 hC19 hs19 hC20 hs20 hC21 hs21 hC22 hs22 hC23 hs23 hC24 hs24 hC25 hs25 hC26 hs26 hC27 hs27 hC28 hs28 hC30 hs30 hC31 hs31 hC32 hs32 hC33 hs33 hC34 hs34 hC35 hs35 hC36 hs36 hC37 hs37 hC38 hs38 hC39 hs39 hC40 hs40 hC41 hs41 hC43 hs43 hC44 hs44 hC45 hs45 hC46 hs46 hC47 hs47 hC48 hs48 hC49 hs49 hC50 hs50 hC51 hs51 hC52 hs52 hC53 hs53 hC54 hs54 hC56 hs56 hC57 hs57 hC58 hs58 hC59 hs59 hC60 hs60 hC61 hs61 hC62 hs62 hC63 hs63 hC64 hs64 hC65 hs65 hC66 hs66 hC67 hs67 hC69 hs69 hC70 hs70 hC71 hs71 hC72 hs72 hC73 hs73 hC74 hs74 hC75 hs75 hC76 hs76 hC77 hs77 hC78 hs78 hC79 hs79 hC80 hs80 hTc1 hb96 hb98 hb99 hb112 hb125 hb138 hb151 hb164 ⟨Nat.le_refl _, Nat.le_refl _⟩) (fun st2 μc2 hp2 => ?_)
    obtain ⟨rfl, hTc2, hA2, hv2⟩ := hp2
    have hA := zKC_tr hA hA2
    have hv := zKF_tr hv hv2
    refine pm_blk hK zmm32 [] 2 38 [(2, 1), (0, c), (0, x1)] [(2, 180)] μc2 [] rfl trivial ?_
    have q11 : μc2 11 c = μ 11 c := hv (11, 18) (by decide) c (by omega) (by show c < ((18 : Nat) : Int); omega)
    have q13 : μc2 13 c = μ 13 c := hv (13, 18) (by decide) c (by omega) (by show c < ((18 : Nat) : Int); omega)
    have q4 : μc2 4 (μc2 13 c) = μ 4 (μ 13 c) := by rw [q13]; exact hv (4, 12) (by decide) (μ 13 c) (by omega) (by show μ 13 c < ((12 : Nat) : Int); omega)
    refine pm_blk hK zmm32 [] 5 47 [(2, 1), (0, c), (0, x1)] [(0, x1), (0, c), (2, 3), (2, 180)] μc2 [] rfl trivial ?_
    refine pm_call hK zmm32 (149, 0, 224, 3) zM224 (3, 75) [(2, 180), (2, 3), (0, c), (0, x1)] [] rfl rfl rfl rfl ⟨by omega, by rw [zn224]; omega⟩ (zh_sell3 hK (c := c) (v := x1) hTc2 ⟨by omega, by omega⟩ ⟨by omega, by omega⟩ (fun _ => by omega) hb2 hb4 hb6 hb8 hb9 hb11 hb15 hb16 ⟨Nat.le_refl _, Nat.le_refl _⟩) (fun st3 μc3 hp3 => ?_)
    obtain ⟨rfl, hTc3, hA3⟩ := hp3
    have hA := zKC_tr hA hA3
    refine pm_blk hK zmm32 [] 1 51 [(2, 1), (0, c), (0, x1)] [(0, 1)] μc3 [] rfl trivial ?_
    exact pm_zret rfl rfl (by first | exact Or.inl rfl | exact Or.inr rfl | omega) ⟨_, rfl, ⟨by omega, by omega⟩, hTc3, hA⟩
  · have h0 : x1 = ((-1) : Int) := h0
    refine pm_blk hK zmm32 [] 1 22 [(2, 1), (0, c), (0, x1)] [(0, 0)] μc1 [] rfl trivial ?_
    exact pm_zret rfl rfl (by first | exact Or.inl rfl | exact Or.inr rfl | omega) ⟨_, rfl, ⟨by omega, by omega⟩, hTc1, hA⟩
set_option maxRecDepth 100000 in
theorem zh_actk (hK : zKK ST) {w c v : Int} (hw : sx_Wd zNR zRT2 B0 Sg) (hC4 : zCK φ D ST B0 l Sg zC4) (hs4 : sx_subm zC4.2.2.2.2.2 Wm = true) (hC5 : zCK φ D ST B0 l Sg zC5) (hs5 : sx_subm zC5.2.2.2.2.2 Wm = true) (hC6 : zCK φ D ST B0 l Sg zC6) (hs6 : sx_subm zC6.2.2.2.2.2 Wm = true) (hC7 : zCK φ D ST B0 l Sg zC7) (hs7 : sx_subm zC7.2.2.2.2.2 Wm = true) (hC8 : zCK φ D ST B0 l Sg zC8) (hs8 : sx_subm zC8.2.2.2.2.2 Wm = true) (hC9 : zCK φ D ST B0 l Sg zC9) (hs9 : sx_subm zC9.2.2.2.2.2 Wm = true) (hC10 : zCK φ D ST B0 l Sg zC10) (hs10 : sx_subm zC10.2.2.2.2.2 Wm = true) (hC11 : zCK φ D ST B0 l Sg zC11) (hs11 : sx_subm zC11.2.2.2.2.2 Wm = true) (hC12 : zCK φ D ST B0 l Sg zC12) (hs12 : sx_subm zC12.2.2.2.2.2 Wm = true) (hC13 : zCK φ D ST B0 l Sg zC13) (hs13 : sx_subm zC13.2.2.2.2.2 Wm = true) (hC14 : zCK φ D ST B0 l Sg zC14) (hs14 : sx_subm zC14.2.2.2.2.2 Wm = true) (hC15 : zCK φ D ST B0 l Sg zC15) (hs15 : sx_subm zC15.2.2.2.2.2 Wm = true) (hC17 : zCK φ D ST B0 l Sg zC17) (hs17 : sx_subm zC17.2.2.2.2.2 Wm = true) (hC18 : zCK φ D ST B0 l Sg zC18) (hs18 : sx_subm zC18.2.2.2.2.2 Wm = true) (hC19 : zCK φ D ST B0 l Sg zC19) (hs19 : sx_subm zC19.2.2.2.2.2 Wm = true) (hC20 : zCK φ D ST B0 l Sg zC20) (hs20 : sx_subm zC20.2.2.2.2.2 Wm = true) (hC21 : zCK φ D ST B0 l Sg zC21) (hs21 : sx_subm zC21.2.2.2.2.2 Wm = true) (hC22 : zCK φ D ST B0 l Sg zC22) (hs22 : sx_subm zC22.2.2.2.2.2 Wm = true) (hC23 : zCK φ D ST B0 l Sg zC23) (hs23 : sx_subm zC23.2.2.2.2.2 Wm = true) (hC24 : zCK φ D ST B0 l Sg zC24) (hs24 : sx_subm zC24.2.2.2.2.2 Wm = true) (hC25 : zCK φ D ST B0 l Sg zC25) (hs25 : sx_subm zC25.2.2.2.2.2 Wm = true) (hC26 : zCK φ D ST B0 l Sg zC26) (hs26 : sx_subm zC26.2.2.2.2.2 Wm = true) (hC27 : zCK φ D ST B0 l Sg zC27) (hs27 : sx_subm zC27.2.2.2.2.2 Wm = true) (hC28 : zCK φ D ST B0 l Sg zC28) (hs28 : sx_subm zC28.2.2.2.2.2 Wm = true) (hC30 : zCK φ D ST B0 l Sg zC30) (hs30 : sx_subm zC30.2.2.2.2.2 Wm = true) (hC31 : zCK φ D ST B0 l Sg zC31) (hs31 : sx_subm zC31.2.2.2.2.2 Wm = true) (hC32 : zCK φ D ST B0 l Sg zC32) (hs32 : sx_subm zC32.2.2.2.2.2 Wm = true) (hC33 : zCK φ D ST B0 l Sg zC33) (hs33 : sx_subm zC33.2.2.2.2.2 Wm = true) (hC34 : zCK φ D ST B0 l Sg zC34) (hs34 : sx_subm zC34.2.2.2.2.2 Wm = true) (hC35 : zCK φ D ST B0 l Sg zC35) (hs35 : sx_subm zC35.2.2.2.2.2 Wm = true) (hC36 : zCK φ D ST B0 l Sg zC36) (hs36 : sx_subm zC36.2.2.2.2.2 Wm = true) (hC37 : zCK φ D ST B0 l Sg zC37) (hs37 : sx_subm zC37.2.2.2.2.2 Wm = true) (hC38 : zCK φ D ST B0 l Sg zC38) (hs38 : sx_subm zC38.2.2.2.2.2 Wm = true) (hC39 : zCK φ D ST B0 l Sg zC39) (hs39 : sx_subm zC39.2.2.2.2.2 Wm = true) (hC40 : zCK φ D ST B0 l Sg zC40) (hs40 : sx_subm zC40.2.2.2.2.2 Wm = true) (hC41 : zCK φ D ST B0 l Sg zC41) (hs41 : sx_subm zC41.2.2.2.2.2 Wm = true) (hC43 : zCK φ D ST B0 l Sg zC43) (hs43 : sx_subm zC43.2.2.2.2.2 Wm = true) (hC44 : zCK φ D ST B0 l Sg zC44) (hs44 : sx_subm zC44.2.2.2.2.2 Wm = true) (hC45 : zCK φ D ST B0 l Sg zC45) (hs45 : sx_subm zC45.2.2.2.2.2 Wm = true) (hC46 : zCK φ D ST B0 l Sg zC46) (hs46 : sx_subm zC46.2.2.2.2.2 Wm = true) (hC47 : zCK φ D ST B0 l Sg zC47) (hs47 : sx_subm zC47.2.2.2.2.2 Wm = true) (hC48 : zCK φ D ST B0 l Sg zC48) (hs48 : sx_subm zC48.2.2.2.2.2 Wm = true) (hC49 : zCK φ D ST B0 l Sg zC49) (hs49 : sx_subm zC49.2.2.2.2.2 Wm = true) (hC50 : zCK φ D ST B0 l Sg zC50) (hs50 : sx_subm zC50.2.2.2.2.2 Wm = true) (hC51 : zCK φ D ST B0 l Sg zC51) (hs51 : sx_subm zC51.2.2.2.2.2 Wm = true) (hC52 : zCK φ D ST B0 l Sg zC52) (hs52 : sx_subm zC52.2.2.2.2.2 Wm = true) (hC53 : zCK φ D ST B0 l Sg zC53) (hs53 : sx_subm zC53.2.2.2.2.2 Wm = true) (hC54 : zCK φ D ST B0 l Sg zC54) (hs54 : sx_subm zC54.2.2.2.2.2 Wm = true) (hC56 : zCK φ D ST B0 l Sg zC56) (hs56 : sx_subm zC56.2.2.2.2.2 Wm = true) (hC57 : zCK φ D ST B0 l Sg zC57) (hs57 : sx_subm zC57.2.2.2.2.2 Wm = true) (hC58 : zCK φ D ST B0 l Sg zC58) (hs58 : sx_subm zC58.2.2.2.2.2 Wm = true) (hC59 : zCK φ D ST B0 l Sg zC59) (hs59 : sx_subm zC59.2.2.2.2.2 Wm = true) (hC60 : zCK φ D ST B0 l Sg zC60) (hs60 : sx_subm zC60.2.2.2.2.2 Wm = true) (hC61 : zCK φ D ST B0 l Sg zC61) (hs61 : sx_subm zC61.2.2.2.2.2 Wm = true) (hC62 : zCK φ D ST B0 l Sg zC62) (hs62 : sx_subm zC62.2.2.2.2.2 Wm = true) (hC63 : zCK φ D ST B0 l Sg zC63) (hs63 : sx_subm zC63.2.2.2.2.2 Wm = true) (hC64 : zCK φ D ST B0 l Sg zC64) (hs64 : sx_subm zC64.2.2.2.2.2 Wm = true) (hC65 : zCK φ D ST B0 l Sg zC65) (hs65 : sx_subm zC65.2.2.2.2.2 Wm = true) (hC66 : zCK φ D ST B0 l Sg zC66) (hs66 : sx_subm zC66.2.2.2.2.2 Wm = true) (hC67 : zCK φ D ST B0 l Sg zC67) (hs67 : sx_subm zC67.2.2.2.2.2 Wm = true) (hC69 : zCK φ D ST B0 l Sg zC69) (hs69 : sx_subm zC69.2.2.2.2.2 Wm = true) (hC70 : zCK φ D ST B0 l Sg zC70) (hs70 : sx_subm zC70.2.2.2.2.2 Wm = true) (hC71 : zCK φ D ST B0 l Sg zC71) (hs71 : sx_subm zC71.2.2.2.2.2 Wm = true) (hC72 : zCK φ D ST B0 l Sg zC72) (hs72 : sx_subm zC72.2.2.2.2.2 Wm = true) (hC73 : zCK φ D ST B0 l Sg zC73) (hs73 : sx_subm zC73.2.2.2.2.2 Wm = true) (hC74 : zCK φ D ST B0 l Sg zC74) (hs74 : sx_subm zC74.2.2.2.2.2 Wm = true) (hC75 : zCK φ D ST B0 l Sg zC75) (hs75 : sx_subm zC75.2.2.2.2.2 Wm = true) (hC76 : zCK φ D ST B0 l Sg zC76) (hs76 : sx_subm zC76.2.2.2.2.2 Wm = true) (hC77 : zCK φ D ST B0 l Sg zC77) (hs77 : sx_subm zC77.2.2.2.2.2 Wm = true) (hC78 : zCK φ D ST B0 l Sg zC78) (hs78 : sx_subm zC78.2.2.2.2.2 Wm = true) (hC79 : zCK φ D ST B0 l Sg zC79) (hs79 : sx_subm zC79.2.2.2.2.2 Wm = true) (hC80 : zCK φ D ST B0 l Sg zC80) (hs80 : sx_subm zC80.2.2.2.2.2 Wm = true) (hC88 : zCK φ D ST B0 l Sg zC88) (hs88 : sx_subm zC88.2.2.2.2.2 Wm = true) (hT : zTJ φ μ) (hb2 : sx_bit Wm 2 = true) (hb4 : sx_bit Wm 4 = true) (hb6 : sx_bit Wm 6 = true) (hb8 : sx_bit Wm 8 = true) (hb9 : sx_bit Wm 9 = true) (hb11 : sx_bit Wm 11 = true) (hb13 : sx_bit Wm 13 = true) (hb15 : sx_bit Wm 15 = true) (hb16 : sx_bit Wm 16 = true) (hb96 : sx_bit Wm 96 = true) (hb98 : sx_bit Wm 98 = true) (hb99 : sx_bit Wm 99 = true) (hb112 : sx_bit Wm 112 = true) (hb125 : sx_bit Wm 125 = true) (hb138 : sx_bit Wm 138 = true) (hb151 : sx_bit Wm 151 = true) (hb164 : sx_bit Wm 164 = true) (hbd : 9 ≤ bud.1 ∧ 232 ≤ bud.2.1) : zC D Wm ST (sx_bW zRT2 Wm B0 Sg, J) l Sg zM24 bud [(2, 1), (0, w), (0, c), (0, v)] μ (fun st' μ' => ∃ x, st' = [(0, x)] ∧ (0 ≤ x ∧ x ≤ 1) ∧ zTJ φ μ' ∧ zKC μ μ') := by
  have hA : zKC μ μ := zKC_refl
  refine pm_blk hK zmm24 [] 1 1 [(2, 1), (0, w), (0, c), (0, v)] [(0, w)] μ [] rfl trivial ?_
  have ht0 : (w < 0 ∨ 3 < w) ∨ w = 0 ∨ w = 1 ∨ w = 2 ∨ w = 3 := by omega
  rcases ht0 with ht0 | ht0 | ht0 | ht0 | ht0
  · refine zp_tout hK zmm24 rfl ht0 (tgt := 58) (by decide) ?_
    refine pm_blk hK zmm24 [] 1 59 [(2, 1), (0, w), (0, c), (0, v)] [(0, 0)] μ [] rfl trivial ?_
    exact pm_zret rfl rfl (by first | exact Or.inl rfl | exact Or.inr rfl | omega) ⟨_, rfl, ⟨by omega, by omega⟩, hT, hA⟩
  · refine zp_tin hK zmm24 (off := 31) (tgt := 32) rfl (by omega) (by omega) (by rw [ht0]; rfl) (by decide) ?_
    refine pm_blk hK zmm24 [] 3 35 [(2, 1), (0, w), (0, c), (0, v)] [(0, v), (0, c), (2, 1)] μ [] rfl trivial ?_
    refine pm_call hK zmm24 (122, 0, 25, 2) zM25 (4, 152) [(2, 1), (0, c), (0, v)] [] rfl rfl rfl rfl ⟨by omega, by rw [zn25]; omega⟩ (zh_goInk hK  hw hC4 hs4 hC5 hs5 hC6 hs6 hC7 hs7 hC8 hs8 hC9 hs9 hC10 hs10 hC11 hs11 hC12 hs12 hC13 hs13 hC14 hs14 hC15 hs15 hC17 hs17 hC18 hs18 hC19 hs19 hC20 hs20 hC21 hs21 hC22 hs22 hC23 hs23 hC24 hs24 hC25 hs25 hC26 hs26 hC27 hs27 hC28 hs28 hC30 hs30 hC31 hs31 hC32 hs32 hC33 hs33 hC34 hs34 hC35 hs35 hC36 hs36 hC37 hs37 hC38 hs38 hC39 hs39 hC40 hs40 hC41 hs41 hC43 hs43 hC44 hs44 hC45 hs45 hC46 hs46 hC47 hs47 hC48 hs48 hC49 hs49 hC50 hs50 hC51 hs51 hC52 hs52 hC53 hs53 hC54 hs54 hC56 hs56 hC57 hs57 hC58 hs58 hC59 hs59 hC60 hs60 hC61 hs61 hC62 hs62 hC63 hs63 hC64 hs64 hC65 hs65 hC66 hs66 hC67 hs67 hC69 hs69 hC70 hs70 hC71 hs71 hC72 hs72 hC73 hs73 hC74 hs74 hC75 hs75 hC76 hs76 hC77 hs77 hC78 hs78 hC79 hs79 hC80 hs80 hT hb96 hb98 hb99 hb112 hb125 hb138 hb151 hb164 hb13 ⟨Nat.le_refl _, Nat.le_refl _⟩) (fun st1 μc1 hp1 => ?_)
    obtain ⟨x1, rfl, hx1, hTc1, hA1⟩ := hp1
    have hA := zKC_tr hA hA1
    exact pm_zret rfl rfl (by first | exact Or.inl rfl | exact Or.inr rfl | omega) ⟨_, rfl, ⟨by omega, by omega⟩, hTc1, hA⟩
  · refine zp_tin hK zmm24 (off := 38) (tgt := 39) rfl (by omega) (by omega) (by rw [ht0]; rfl) (by decide) ?_
    refine pm_blk hK zmm24 [] 2 41 [(2, 1), (0, w), (0, c), (0, v)] [(0, c), (2, 1)] μ [] rfl trivial ?_
    refine pm_call hK zmm24 (126, 0, 31, 1) zM31 (4, 152) [(2, 1), (0, c)] [] rfl rfl rfl rfl ⟨by omega, by rw [zn31]; omega⟩ (zh_goOutk hK  hw hC4 hs4 hC5 hs5 hC6 hs6 hC7 hs7 hC8 hs8 hC9 hs9 hC10 hs10 hC11 hs11 hC12 hs12 hC13 hs13 hC14 hs14 hC15 hs15 hC17 hs17 hC18 hs18 hC19 hs19 hC20 hs20 hC21 hs21 hC22 hs22 hC23 hs23 hC24 hs24 hC25 hs25 hC26 hs26 hC27 hs27 hC28 hs28 hC30 hs30 hC31 hs31 hC32 hs32 hC33 hs33 hC34 hs34 hC35 hs35 hC36 hs36 hC37 hs37 hC38 hs38 hC39 hs39 hC40 hs40 hC41 hs41 hC43 hs43 hC44 hs44 hC45 hs45 hC46 hs46 hC47 hs47 hC48 hs48 hC49 hs49 hC50 hs50 hC51 hs51 hC52 hs52 hC53 hs53 hC54 hs54 hC56 hs56 hC57 hs57 hC58 hs58 hC59 hs59 hC60 hs60 hC61 hs61 hC62 hs62 hC63 hs63 hC64 hs64 hC65 hs65 hC66 hs66 hC67 hs67 hC69 hs69 hC70 hs70 hC71 hs71 hC72 hs72 hC73 hs73 hC74 hs74 hC75 hs75 hC76 hs76 hC77 hs77 hC78 hs78 hC79 hs79 hC80 hs80 hT hb96 hb98 hb99 hb112 hb125 hb138 hb151 hb164 hb13 ⟨Nat.le_refl _, Nat.le_refl _⟩) (fun st2 μc2 hp2 => ?_)
    obtain ⟨x2, rfl, hx2, hTc2, hA2⟩ := hp2
    have hA := zKC_tr hA hA2
    exact pm_zret rfl rfl (by first | exact Or.inl rfl | exact Or.inr rfl | omega) ⟨_, rfl, ⟨by omega, by omega⟩, hTc2, hA⟩
  · refine zp_tin hK zmm24 (off := 44) (tgt := 45) rfl (by omega) (by omega) (by rw [ht0]; rfl) (by decide) ?_
    refine pm_blk hK zmm24 [] 2 47 [(2, 1), (0, w), (0, c), (0, v)] [(0, c), (2, 1)] μ [] rfl trivial ?_
    refine pm_call hK zmm24 (129, 0, 32, 1) zM32 (8, 202) [(2, 1), (0, c)] [] rfl rfl rfl rfl ⟨by omega, by rw [zn32]; omega⟩ (zh_buyk hK  hw hC4 hs4 hC5 hs5 hC6 hs6 hC7 hs7 hC8 hs8 hC9 hs9 hC10 hs10 hC11 hs11 hC12 hs12 hC13 hs13 hC14 hs14 hC15 hs15 hC17 hs17 hC18 hs18 hC19 hs19 hC20 hs20 hC21 hs21 hC22 hs22 hC23 hs23 hC24 hs24 hC25 hs25 hC26 hs26 hC27 hs27 hC28 hs28 hC30 hs30 hC31 hs31 hC32 hs32 hC33 hs33 hC34 hs34 hC35 hs35 hC36 hs36 hC37 hs37 hC38 hs38 hC39 hs39 hC40 hs40 hC41 hs41 hC43 hs43 hC44 hs44 hC45 hs45 hC46 hs46 hC47 hs47 hC48 hs48 hC49 hs49 hC50 hs50 hC51 hs51 hC52 hs52 hC53 hs53 hC54 hs54 hC56 hs56 hC57 hs57 hC58 hs58 hC59 hs59 hC60 hs60 hC61 hs61 hC62 hs62 hC63 hs63 hC64 hs64 hC65 hs65 hC66 hs66 hC67 hs67 hC69 hs69 hC70 hs70 hC71 hs71 hC72 hs72 hC73 hs73 hC74 hs74 hC75 hs75 hC76 hs76 hC77 hs77 hC78 hs78 hC79 hs79 hC80 hs80 hC88 hs88 hT hb96 hb98 hb99 hb112 hb125 hb138 hb151 hb164 hb2 hb4 hb6 hb8 hb9 hb11 hb15 hb16 ⟨Nat.le_refl _, Nat.le_refl _⟩) (fun st3 μc3 hp3 => ?_)
    obtain ⟨x3, rfl, hx3, hTc3, hA3⟩ := hp3
    have hA := zKC_tr hA hA3
    exact pm_zret rfl rfl (by first | exact Or.inl rfl | exact Or.inr rfl | omega) ⟨_, rfl, ⟨by omega, by omega⟩, hTc3, hA⟩
  · refine zp_tin hK zmm24 (off := 50) (tgt := 51) rfl (by omega) (by omega) (by rw [ht0]; rfl) (by decide) ?_
    refine pm_blk hK zmm24 [] 3 54 [(2, 1), (0, w), (0, c), (0, v)] [(0, v), (0, c), (2, 1)] μ [] rfl trivial ?_
    refine pm_call hK zmm24 (132, 0, 35, 2) zM35 (4, 152) [(2, 1), (0, c), (0, v)] [] rfl rfl rfl rfl ⟨by omega, by rw [zn35]; omega⟩ (zh_stockk hK  hw hC4 hs4 hC5 hs5 hC6 hs6 hC7 hs7 hC8 hs8 hC9 hs9 hC10 hs10 hC11 hs11 hC12 hs12 hC13 hs13 hC14 hs14 hC15 hs15 hC17 hs17 hC18 hs18 hC19 hs19 hC20 hs20 hC21 hs21 hC22 hs22 hC23 hs23 hC24 hs24 hC25 hs25 hC26 hs26 hC27 hs27 hC28 hs28 hC30 hs30 hC31 hs31 hC32 hs32 hC33 hs33 hC34 hs34 hC35 hs35 hC36 hs36 hC37 hs37 hC38 hs38 hC39 hs39 hC40 hs40 hC41 hs41 hC43 hs43 hC44 hs44 hC45 hs45 hC46 hs46 hC47 hs47 hC48 hs48 hC49 hs49 hC50 hs50 hC51 hs51 hC52 hs52 hC53 hs53 hC54 hs54 hC56 hs56 hC57 hs57 hC58 hs58 hC59 hs59 hC60 hs60 hC61 hs61 hC62 hs62 hC63 hs63 hC64 hs64 hC65 hs65 hC66 hs66 hC67 hs67 hC69 hs69 hC70 hs70 hC71 hs71 hC72 hs72 hC73 hs73 hC74 hs74 hC75 hs75 hC76 hs76 hC77 hs77 hC78 hs78 hC79 hs79 hC80 hs80 hT hb96 hb98 hb99 hb112 hb125 hb138 hb151 hb164 hb4 ⟨Nat.le_refl _, Nat.le_refl _⟩) (fun st4 μc4 hp4 => ?_)
    obtain ⟨x4, rfl, hx4, hTc4, hA4⟩ := hp4
    have hA := zKC_tr hA hA4
    exact pm_zret rfl rfl (by first | exact Or.inl rfl | exact Or.inr rfl | omega) ⟨_, rfl, ⟨by omega, by omega⟩, hTc4, hA⟩
set_option maxRecDepth 100000 in
theorem zl_hrk (hK : zKK ST)  {μ0 : pm_Mem} {nn : Int} (hnn : 1 ≤ nn ∧ nn ≤ 60) (hw : sx_Wd zNR zRT2 B0 Sg) (hC4 : zCK φ D ST B0 l Sg zC4) (hs4 : sx_subm zC4.2.2.2.2.2 Wm = true) (hC5 : zCK φ D ST B0 l Sg zC5) (hs5 : sx_subm zC5.2.2.2.2.2 Wm = true) (hC6 : zCK φ D ST B0 l Sg zC6) (hs6 : sx_subm zC6.2.2.2.2.2 Wm = true) (hC7 : zCK φ D ST B0 l Sg zC7) (hs7 : sx_subm zC7.2.2.2.2.2 Wm = true) (hC8 : zCK φ D ST B0 l Sg zC8) (hs8 : sx_subm zC8.2.2.2.2.2 Wm = true) (hC9 : zCK φ D ST B0 l Sg zC9) (hs9 : sx_subm zC9.2.2.2.2.2 Wm = true) (hC10 : zCK φ D ST B0 l Sg zC10) (hs10 : sx_subm zC10.2.2.2.2.2 Wm = true) (hC11 : zCK φ D ST B0 l Sg zC11) (hs11 : sx_subm zC11.2.2.2.2.2 Wm = true) (hC12 : zCK φ D ST B0 l Sg zC12) (hs12 : sx_subm zC12.2.2.2.2.2 Wm = true) (hC13 : zCK φ D ST B0 l Sg zC13) (hs13 : sx_subm zC13.2.2.2.2.2 Wm = true) (hC14 : zCK φ D ST B0 l Sg zC14) (hs14 : sx_subm zC14.2.2.2.2.2 Wm = true) (hC15 : zCK φ D ST B0 l Sg zC15) (hs15 : sx_subm zC15.2.2.2.2.2 Wm = true) (hC17 : zCK φ D ST B0 l Sg zC17) (hs17 : sx_subm zC17.2.2.2.2.2 Wm = true) (hC18 : zCK φ D ST B0 l Sg zC18) (hs18 : sx_subm zC18.2.2.2.2.2 Wm = true) (hC19 : zCK φ D ST B0 l Sg zC19) (hs19 : sx_subm zC19.2.2.2.2.2 Wm = true) (hC20 : zCK φ D ST B0 l Sg zC20) (hs20 : sx_subm zC20.2.2.2.2.2 Wm = true) (hC21 : zCK φ D ST B0 l Sg zC21) (hs21 : sx_subm zC21.2.2.2.2.2 Wm = true) (hC22 : zCK φ D ST B0 l Sg zC22) (hs22 : sx_subm zC22.2.2.2.2.2 Wm = true) (hC23 : zCK φ D ST B0 l Sg zC23) (hs23 : sx_subm zC23.2.2.2.2.2 Wm = true) (hC24 : zCK φ D ST B0 l Sg zC24) (hs24 : sx_subm zC24.2.2.2.2.2 Wm = true) (hC25 : zCK φ D ST B0 l Sg zC25) (hs25 : sx_subm zC25.2.2.2.2.2 Wm = true) (hC26 : zCK φ D ST B0 l Sg zC26) (hs26 : sx_subm zC26.2.2.2.2.2 Wm = true) (hC27 : zCK φ D ST B0 l Sg zC27) (hs27 : sx_subm zC27.2.2.2.2.2 Wm = true) (hC28 : zCK φ D ST B0 l Sg zC28) (hs28 : sx_subm zC28.2.2.2.2.2 Wm = true) (hC30 : zCK φ D ST B0 l Sg zC30) (hs30 : sx_subm zC30.2.2.2.2.2 Wm = true) (hC31 : zCK φ D ST B0 l Sg zC31) (hs31 : sx_subm zC31.2.2.2.2.2 Wm = true) (hC32 : zCK φ D ST B0 l Sg zC32) (hs32 : sx_subm zC32.2.2.2.2.2 Wm = true) (hC33 : zCK φ D ST B0 l Sg zC33) (hs33 : sx_subm zC33.2.2.2.2.2 Wm = true) (hC34 : zCK φ D ST B0 l Sg zC34) (hs34 : sx_subm zC34.2.2.2.2.2 Wm = true) (hC35 : zCK φ D ST B0 l Sg zC35) (hs35 : sx_subm zC35.2.2.2.2.2 Wm = true) (hC36 : zCK φ D ST B0 l Sg zC36) (hs36 : sx_subm zC36.2.2.2.2.2 Wm = true) (hC37 : zCK φ D ST B0 l Sg zC37) (hs37 : sx_subm zC37.2.2.2.2.2 Wm = true) (hC38 : zCK φ D ST B0 l Sg zC38) (hs38 : sx_subm zC38.2.2.2.2.2 Wm = true) (hC39 : zCK φ D ST B0 l Sg zC39) (hs39 : sx_subm zC39.2.2.2.2.2 Wm = true) (hC40 : zCK φ D ST B0 l Sg zC40) (hs40 : sx_subm zC40.2.2.2.2.2 Wm = true) (hC41 : zCK φ D ST B0 l Sg zC41) (hs41 : sx_subm zC41.2.2.2.2.2 Wm = true) (hC43 : zCK φ D ST B0 l Sg zC43) (hs43 : sx_subm zC43.2.2.2.2.2 Wm = true) (hC44 : zCK φ D ST B0 l Sg zC44) (hs44 : sx_subm zC44.2.2.2.2.2 Wm = true) (hC45 : zCK φ D ST B0 l Sg zC45) (hs45 : sx_subm zC45.2.2.2.2.2 Wm = true) (hC46 : zCK φ D ST B0 l Sg zC46) (hs46 : sx_subm zC46.2.2.2.2.2 Wm = true) (hC47 : zCK φ D ST B0 l Sg zC47) (hs47 : sx_subm zC47.2.2.2.2.2 Wm = true) (hC48 : zCK φ D ST B0 l Sg zC48) (hs48 : sx_subm zC48.2.2.2.2.2 Wm = true) (hC49 : zCK φ D ST B0 l Sg zC49) (hs49 : sx_subm zC49.2.2.2.2.2 Wm = true) (hC50 : zCK φ D ST B0 l Sg zC50) (hs50 : sx_subm zC50.2.2.2.2.2 Wm = true) (hC51 : zCK φ D ST B0 l Sg zC51) (hs51 : sx_subm zC51.2.2.2.2.2 Wm = true) (hC52 : zCK φ D ST B0 l Sg zC52) (hs52 : sx_subm zC52.2.2.2.2.2 Wm = true) (hC53 : zCK φ D ST B0 l Sg zC53) (hs53 : sx_subm zC53.2.2.2.2.2 Wm = true) (hC54 : zCK φ D ST B0 l Sg zC54) (hs54 : sx_subm zC54.2.2.2.2.2 Wm = true) (hC56 : zCK φ D ST B0 l Sg zC56) (hs56 : sx_subm zC56.2.2.2.2.2 Wm = true) (hC57 : zCK φ D ST B0 l Sg zC57) (hs57 : sx_subm zC57.2.2.2.2.2 Wm = true) (hC58 : zCK φ D ST B0 l Sg zC58) (hs58 : sx_subm zC58.2.2.2.2.2 Wm = true) (hC59 : zCK φ D ST B0 l Sg zC59) (hs59 : sx_subm zC59.2.2.2.2.2 Wm = true) (hC60 : zCK φ D ST B0 l Sg zC60) (hs60 : sx_subm zC60.2.2.2.2.2 Wm = true) (hC61 : zCK φ D ST B0 l Sg zC61) (hs61 : sx_subm zC61.2.2.2.2.2 Wm = true) (hC62 : zCK φ D ST B0 l Sg zC62) (hs62 : sx_subm zC62.2.2.2.2.2 Wm = true) (hC63 : zCK φ D ST B0 l Sg zC63) (hs63 : sx_subm zC63.2.2.2.2.2 Wm = true) (hC64 : zCK φ D ST B0 l Sg zC64) (hs64 : sx_subm zC64.2.2.2.2.2 Wm = true) (hC65 : zCK φ D ST B0 l Sg zC65) (hs65 : sx_subm zC65.2.2.2.2.2 Wm = true) (hC66 : zCK φ D ST B0 l Sg zC66) (hs66 : sx_subm zC66.2.2.2.2.2 Wm = true) (hC67 : zCK φ D ST B0 l Sg zC67) (hs67 : sx_subm zC67.2.2.2.2.2 Wm = true) (hC69 : zCK φ D ST B0 l Sg zC69) (hs69 : sx_subm zC69.2.2.2.2.2 Wm = true) (hC70 : zCK φ D ST B0 l Sg zC70) (hs70 : sx_subm zC70.2.2.2.2.2 Wm = true) (hC71 : zCK φ D ST B0 l Sg zC71) (hs71 : sx_subm zC71.2.2.2.2.2 Wm = true) (hC72 : zCK φ D ST B0 l Sg zC72) (hs72 : sx_subm zC72.2.2.2.2.2 Wm = true) (hC73 : zCK φ D ST B0 l Sg zC73) (hs73 : sx_subm zC73.2.2.2.2.2 Wm = true) (hC74 : zCK φ D ST B0 l Sg zC74) (hs74 : sx_subm zC74.2.2.2.2.2 Wm = true) (hC75 : zCK φ D ST B0 l Sg zC75) (hs75 : sx_subm zC75.2.2.2.2.2 Wm = true) (hC76 : zCK φ D ST B0 l Sg zC76) (hs76 : sx_subm zC76.2.2.2.2.2 Wm = true) (hC77 : zCK φ D ST B0 l Sg zC77) (hs77 : sx_subm zC77.2.2.2.2.2 Wm = true) (hC78 : zCK φ D ST B0 l Sg zC78) (hs78 : sx_subm zC78.2.2.2.2.2 Wm = true) (hC79 : zCK φ D ST B0 l Sg zC79) (hs79 : sx_subm zC79.2.2.2.2.2 Wm = true) (hC80 : zCK φ D ST B0 l Sg zC80) (hs80 : sx_subm zC80.2.2.2.2.2 Wm = true) (hC260 : zCK φ D ST B0 l Sg zC260) (hs260 : sx_subm zC260.2.2.2.2.2 Wm = true) (hb96 : sx_bit Wm 96 = true) (hb98 : sx_bit Wm 98 = true) (hb99 : sx_bit Wm 99 = true) (hb112 : sx_bit Wm 112 = true) (hb125 : sx_bit Wm 125 = true) (hb138 : sx_bit Wm 138 = true) (hb151 : sx_bit Wm 151 = true) (hb164 : sx_bit Wm 164 = true) (hF : ∀ ν : pm_Mem, zTJ φ ν → ν 3 0 = μ0 3 0 ∧ ν 3 1 = μ0 3 1) (hbd : 13 ≤ bud.1 ∧ 304 ≤ bud.2.1) : ∀ (n : Nat) {t i : Int} {μ : pm_Mem}, (nn - i).toNat = n → ∀ (hi : 0 ≤ i ∧ i ≤ nn) (hA : zKC μ0 μ) (hT : zTJ φ μ), zW D Wm ST (sx_bW zRT2 Wm B0 Sg, J) l Sg zM36 bud (pm_X zM36 (fun st' μ' => (∃ x, st' = [(0, x)]) ∧ zTJ φ μ' ∧ zKC μ0 μ')) 45 [(2, 1), (0, nn), (2, 3), (0, t), (0, i)] [] μ := by
  intro n
  induction n using Nat.strongRecOn with
  | ind n ih =>
    intro t i μ hn hi hA hT
    refine pm_blk hK zmm36 [71] 2 48 [(2, 1), (0, nn), (2, 3), (0, t), (0, i)] [(0, nn), (0, i)] μ [] rfl trivial ?_
    refine pm_icmp hK zmm36 .ge 31 79 rfl rfl (fun h0 => ?_) (fun h0 => ?_)
    · have h0 : nn ≤ i := h0
      refine pm_blk hK zmm36 [71] 1 80 [(2, 1), (0, nn), (2, 3), (0, t), (0, i)] [(0, t)] μ [] rfl trivial ?_
      exact pm_iret rfl rfl ⟨⟨_, rfl⟩, hT, hA⟩
    · have h0 : i < nn := h0
      refine pm_blk hK zmm36 [71] 4 59 [(2, 1), (0, nn), (2, 3), (0, t), (0, i)] [(2, 2), (2, 96)] μ [] rfl trivial ?_
      refine pm_call hK zmm36 (141, 0, 27, 1) zM27 (3, 122) [(2, 96), (2, 2)] [] rfl rfl rfl rfl ⟨by omega, by rw [zn27]; omega⟩ (zh_keep hK hw hC4 hs4 hC5 hs5 hC6 hs6 hC7 hs7 hC8 hs8 hC9 hs9 hC10 hs10 hC11 hs11 hC12 hs12 hC13 hs13 hC14 hs14 hC15 hs15 hC17 hs17 hC18 hs18 hC19 hs19 hC20 hs20 hC21 hs21 hC22 hs22 hC23 hs23 hC24 hs24 hC25 hs25 hC26 hs26 hC27 hs27 hC28 hs28 hC30 hs30 hC31 hs31 hC32 hs32 hC33 hs33 hC34 hs34 hC35 hs35 hC36 hs36 hC37 hs37 hC38 hs38 hC39 hs39 hC40 hs40 hC41 hs41 hC43 hs43 hC44 hs44 hC45 hs45 hC46 hs46 hC47 hs47 hC48 hs48 hC49 hs49 hC50 hs50 hC51 hs51 hC52 hs52 hC53 hs53 hC54 hs54 hC56 hs56 hC57 hs57 hC58 hs58 hC59 hs59 hC60 hs60 hC61 hs61 hC62 hs62 hC63 hs63 hC64 hs64 hC65 hs65 hC66 hs66 hC67 hs67 hC69 hs69 hC70 hs70 hC71 hs71 hC72 hs72 hC73 hs73 hC74 hs74 hC75 hs75 hC76 hs76 hC77 hs77 hC78 hs78 hC79 hs79 hC80 hs80 hT hb96 hb98 hb99 hb112 hb125 hb138 hb151 hb164 ⟨Nat.le_refl _, Nat.le_refl _⟩) (fun st1 μc1 hp1 => ?_)
      obtain ⟨rfl, hTc1, hA1, hv1⟩ := hp1
      have hA := zKC_tr hA hA1
      refine pm_blk hK zmm36 [71] 4 68 [(2, 1), (0, nn), (2, 3), (0, t), (0, i)] [(2, 3), (2, 180), (0, t)] μc1 [] rfl trivial ?_
      refine pm_ccall hK zmm36 hC260 hw zGm_lt zJ_loc (162, 0, 37, 1) zM37 [(2, 180), (2, 3)] [(0, t)] rfl rfl rfl rfl rfl ⟨by have e : zC260.2.2.2.1 = 12 := rfl; omega, by have e : zC260.2.2.2.2.1 = 278 := rfl; rw [zn37]; omega⟩ hs260 rfl (fun t ht => by cases ht; rfl) ⟨rfl, fun h => absurd h (by decide), fun _ => rfl, rfl, fun h => absurd h (by decide), fun _ => rfl, trivial⟩ (zTy_T hw hTc1.1) hTc1.2 (fun st2 μc2 hp2 hTt2 hJ2 hfr2 => ?_)
      obtain ⟨x2, rfl, hx2, hy2⟩ := hp2
      have hTc2 : zTJ φ μc2 := ⟨zTy_of hw hTt2, hJ2⟩
      have hA := zKC_p hA (zRi_fr (l := zRp) hfr2 (by decide +kernel)) ((hF _ hTc2).1.trans (hF _ hTc1).1.symm) ((hF _ hTc2).2.trans (hF _ hTc1).2.symm)
      have w1 := zw32 (t + x2)
      refine pm_blk hK zmm36 [71] 4 45 [(2, 1), (0, nn), (2, 3), (0, pm_w32 (t + x2)), (0, i + 1)] [] μc2 [pm_in (i + 1)] rfl ⟨pm_in_mk (by omega) (by omega), trivial⟩ ?_
      exact ih _ (by omega) rfl ⟨by omega, by omega⟩ hA hTc2
set_option maxRecDepth 100000 in
theorem zh_hoursk (hK : zKK ST) {nn : Int} (hw : sx_Wd zNR zRT2 B0 Sg) (hC4 : zCK φ D ST B0 l Sg zC4) (hs4 : sx_subm zC4.2.2.2.2.2 Wm = true) (hC5 : zCK φ D ST B0 l Sg zC5) (hs5 : sx_subm zC5.2.2.2.2.2 Wm = true) (hC6 : zCK φ D ST B0 l Sg zC6) (hs6 : sx_subm zC6.2.2.2.2.2 Wm = true) (hC7 : zCK φ D ST B0 l Sg zC7) (hs7 : sx_subm zC7.2.2.2.2.2 Wm = true) (hC8 : zCK φ D ST B0 l Sg zC8) (hs8 : sx_subm zC8.2.2.2.2.2 Wm = true) (hC9 : zCK φ D ST B0 l Sg zC9) (hs9 : sx_subm zC9.2.2.2.2.2 Wm = true) (hC10 : zCK φ D ST B0 l Sg zC10) (hs10 : sx_subm zC10.2.2.2.2.2 Wm = true) (hC11 : zCK φ D ST B0 l Sg zC11) (hs11 : sx_subm zC11.2.2.2.2.2 Wm = true) (hC12 : zCK φ D ST B0 l Sg zC12) (hs12 : sx_subm zC12.2.2.2.2.2 Wm = true) (hC13 : zCK φ D ST B0 l Sg zC13) (hs13 : sx_subm zC13.2.2.2.2.2 Wm = true) (hC14 : zCK φ D ST B0 l Sg zC14) (hs14 : sx_subm zC14.2.2.2.2.2 Wm = true) (hC15 : zCK φ D ST B0 l Sg zC15) (hs15 : sx_subm zC15.2.2.2.2.2 Wm = true) (hC17 : zCK φ D ST B0 l Sg zC17) (hs17 : sx_subm zC17.2.2.2.2.2 Wm = true) (hC18 : zCK φ D ST B0 l Sg zC18) (hs18 : sx_subm zC18.2.2.2.2.2 Wm = true) (hC19 : zCK φ D ST B0 l Sg zC19) (hs19 : sx_subm zC19.2.2.2.2.2 Wm = true) (hC20 : zCK φ D ST B0 l Sg zC20) (hs20 : sx_subm zC20.2.2.2.2.2 Wm = true) (hC21 : zCK φ D ST B0 l Sg zC21) (hs21 : sx_subm zC21.2.2.2.2.2 Wm = true) (hC22 : zCK φ D ST B0 l Sg zC22) (hs22 : sx_subm zC22.2.2.2.2.2 Wm = true) (hC23 : zCK φ D ST B0 l Sg zC23) (hs23 : sx_subm zC23.2.2.2.2.2 Wm = true) (hC24 : zCK φ D ST B0 l Sg zC24) (hs24 : sx_subm zC24.2.2.2.2.2 Wm = true) (hC25 : zCK φ D ST B0 l Sg zC25) (hs25 : sx_subm zC25.2.2.2.2.2 Wm = true) (hC26 : zCK φ D ST B0 l Sg zC26) (hs26 : sx_subm zC26.2.2.2.2.2 Wm = true) (hC27 : zCK φ D ST B0 l Sg zC27) (hs27 : sx_subm zC27.2.2.2.2.2 Wm = true) (hC28 : zCK φ D ST B0 l Sg zC28) (hs28 : sx_subm zC28.2.2.2.2.2 Wm = true) (hC30 : zCK φ D ST B0 l Sg zC30) (hs30 : sx_subm zC30.2.2.2.2.2 Wm = true) (hC31 : zCK φ D ST B0 l Sg zC31) (hs31 : sx_subm zC31.2.2.2.2.2 Wm = true) (hC32 : zCK φ D ST B0 l Sg zC32) (hs32 : sx_subm zC32.2.2.2.2.2 Wm = true) (hC33 : zCK φ D ST B0 l Sg zC33) (hs33 : sx_subm zC33.2.2.2.2.2 Wm = true) (hC34 : zCK φ D ST B0 l Sg zC34) (hs34 : sx_subm zC34.2.2.2.2.2 Wm = true) (hC35 : zCK φ D ST B0 l Sg zC35) (hs35 : sx_subm zC35.2.2.2.2.2 Wm = true) (hC36 : zCK φ D ST B0 l Sg zC36) (hs36 : sx_subm zC36.2.2.2.2.2 Wm = true) (hC37 : zCK φ D ST B0 l Sg zC37) (hs37 : sx_subm zC37.2.2.2.2.2 Wm = true) (hC38 : zCK φ D ST B0 l Sg zC38) (hs38 : sx_subm zC38.2.2.2.2.2 Wm = true) (hC39 : zCK φ D ST B0 l Sg zC39) (hs39 : sx_subm zC39.2.2.2.2.2 Wm = true) (hC40 : zCK φ D ST B0 l Sg zC40) (hs40 : sx_subm zC40.2.2.2.2.2 Wm = true) (hC41 : zCK φ D ST B0 l Sg zC41) (hs41 : sx_subm zC41.2.2.2.2.2 Wm = true) (hC43 : zCK φ D ST B0 l Sg zC43) (hs43 : sx_subm zC43.2.2.2.2.2 Wm = true) (hC44 : zCK φ D ST B0 l Sg zC44) (hs44 : sx_subm zC44.2.2.2.2.2 Wm = true) (hC45 : zCK φ D ST B0 l Sg zC45) (hs45 : sx_subm zC45.2.2.2.2.2 Wm = true) (hC46 : zCK φ D ST B0 l Sg zC46) (hs46 : sx_subm zC46.2.2.2.2.2 Wm = true) (hC47 : zCK φ D ST B0 l Sg zC47) (hs47 : sx_subm zC47.2.2.2.2.2 Wm = true) (hC48 : zCK φ D ST B0 l Sg zC48) (hs48 : sx_subm zC48.2.2.2.2.2 Wm = true) (hC49 : zCK φ D ST B0 l Sg zC49) (hs49 : sx_subm zC49.2.2.2.2.2 Wm = true) (hC50 : zCK φ D ST B0 l Sg zC50) (hs50 : sx_subm zC50.2.2.2.2.2 Wm = true) (hC51 : zCK φ D ST B0 l Sg zC51) (hs51 : sx_subm zC51.2.2.2.2.2 Wm = true) (hC52 : zCK φ D ST B0 l Sg zC52) (hs52 : sx_subm zC52.2.2.2.2.2 Wm = true) (hC53 : zCK φ D ST B0 l Sg zC53) (hs53 : sx_subm zC53.2.2.2.2.2 Wm = true) (hC54 : zCK φ D ST B0 l Sg zC54) (hs54 : sx_subm zC54.2.2.2.2.2 Wm = true) (hC56 : zCK φ D ST B0 l Sg zC56) (hs56 : sx_subm zC56.2.2.2.2.2 Wm = true) (hC57 : zCK φ D ST B0 l Sg zC57) (hs57 : sx_subm zC57.2.2.2.2.2 Wm = true) (hC58 : zCK φ D ST B0 l Sg zC58) (hs58 : sx_subm zC58.2.2.2.2.2 Wm = true) (hC59 : zCK φ D ST B0 l Sg zC59) (hs59 : sx_subm zC59.2.2.2.2.2 Wm = true) (hC60 : zCK φ D ST B0 l Sg zC60) (hs60 : sx_subm zC60.2.2.2.2.2 Wm = true) (hC61 : zCK φ D ST B0 l Sg zC61) (hs61 : sx_subm zC61.2.2.2.2.2 Wm = true) (hC62 : zCK φ D ST B0 l Sg zC62) (hs62 : sx_subm zC62.2.2.2.2.2 Wm = true) (hC63 : zCK φ D ST B0 l Sg zC63) (hs63 : sx_subm zC63.2.2.2.2.2 Wm = true) (hC64 : zCK φ D ST B0 l Sg zC64) (hs64 : sx_subm zC64.2.2.2.2.2 Wm = true) (hC65 : zCK φ D ST B0 l Sg zC65) (hs65 : sx_subm zC65.2.2.2.2.2 Wm = true) (hC66 : zCK φ D ST B0 l Sg zC66) (hs66 : sx_subm zC66.2.2.2.2.2 Wm = true) (hC67 : zCK φ D ST B0 l Sg zC67) (hs67 : sx_subm zC67.2.2.2.2.2 Wm = true) (hC69 : zCK φ D ST B0 l Sg zC69) (hs69 : sx_subm zC69.2.2.2.2.2 Wm = true) (hC70 : zCK φ D ST B0 l Sg zC70) (hs70 : sx_subm zC70.2.2.2.2.2 Wm = true) (hC71 : zCK φ D ST B0 l Sg zC71) (hs71 : sx_subm zC71.2.2.2.2.2 Wm = true) (hC72 : zCK φ D ST B0 l Sg zC72) (hs72 : sx_subm zC72.2.2.2.2.2 Wm = true) (hC73 : zCK φ D ST B0 l Sg zC73) (hs73 : sx_subm zC73.2.2.2.2.2 Wm = true) (hC74 : zCK φ D ST B0 l Sg zC74) (hs74 : sx_subm zC74.2.2.2.2.2 Wm = true) (hC75 : zCK φ D ST B0 l Sg zC75) (hs75 : sx_subm zC75.2.2.2.2.2 Wm = true) (hC76 : zCK φ D ST B0 l Sg zC76) (hs76 : sx_subm zC76.2.2.2.2.2 Wm = true) (hC77 : zCK φ D ST B0 l Sg zC77) (hs77 : sx_subm zC77.2.2.2.2.2 Wm = true) (hC78 : zCK φ D ST B0 l Sg zC78) (hs78 : sx_subm zC78.2.2.2.2.2 Wm = true) (hC79 : zCK φ D ST B0 l Sg zC79) (hs79 : sx_subm zC79.2.2.2.2.2 Wm = true) (hC80 : zCK φ D ST B0 l Sg zC80) (hs80 : sx_subm zC80.2.2.2.2.2 Wm = true) (hC260 : zCK φ D ST B0 l Sg zC260) (hs260 : sx_subm zC260.2.2.2.2.2 Wm = true) (hT : zTJ φ μ) (hb96 : sx_bit Wm 96 = true) (hb98 : sx_bit Wm 98 = true) (hb99 : sx_bit Wm 99 = true) (hb112 : sx_bit Wm 112 = true) (hb125 : sx_bit Wm 125 = true) (hb138 : sx_bit Wm 138 = true) (hb151 : sx_bit Wm 151 = true) (hb164 : sx_bit Wm 164 = true) (hF : ∀ ν : pm_Mem, zTJ φ ν → ν 3 0 = μ 3 0 ∧ ν 3 1 = μ 3 1) (hbd : 13 ≤ bud.1 ∧ 304 ≤ bud.2.1) : zC D Wm ST (sx_bW zRT2 Wm B0 Sg, J) l Sg zM36 bud [(2, 1), (0, nn)] μ (fun st' μ' => (∃ x, st' = [(0, x)]) ∧ zTJ φ μ' ∧ zKC μ μ') := by
  have f32 := zT_get hT zs3_2 (i := 2) (by omega) (by omega)
  refine pm_blk hK zmm36 [31] 7 12 [(2, 1), (0, nn), (2, 3), (9, 0), (9, 0)] [(0, 60), (0, 1), (0, nn)] μ [] rfl trivial ?_
  refine pm_call hK zmm36 (94, 1, 16, 3) zM16 (0, 0) [(0, nn), (0, 1), (0, 60)] [] rfl rfl rfl rfl ⟨by omega, by rw [zn16]; omega⟩ (zh_within hK ⟨Nat.le_refl _, Nat.le_refl _⟩) (fun st1 μc1 hp1 => ?_)
  obtain ⟨rfl, rfl⟩ := hp1
  refine pm_if hK zmm36 .eq 23 38 rfl rfl (fun h0 => ?_) (fun h0 => ?_)
  · have h0 : (if 1 ≤ nn ∧ nn ≤ 60 then 1 else 0 : Int) = (0 : Int) := h0
    have h0 := zif0 h0
    refine pm_blk hK zmm36 [31] 1 39 [(2, 1), (0, nn), (2, 3), (9, 0), (9, 0)] [(0, (-1))] μ [] rfl trivial ?_
    exact pm_iret rfl rfl ⟨⟨_, rfl⟩, hT, zKC_refl⟩
  · have h0 : (if 1 ≤ nn ∧ nn ≤ 60 then 1 else 0 : Int) ≠ (0 : Int) := h0
    have h0 := zif1 h0
    have f1 := zT_get hT zs3_3 (i := 3) (by omega) (by omega)
    have f2 := zT_get hT zs3_2 (i := 2) (by omega) (by omega)
    refine pm_blk hK zmm36 [31] 7 30 [(2, 1), (0, nn), (2, 3), (9, 0), (9, 0)] [(0, 12), (0, (μ 3 2) + nn), (0, μ 3 3)] μ [pm_in ((μ 3 2) + nn)] rfl ⟨pm_in_mk (by omega) (by omega), trivial⟩ ?_
    have hd : Int.tdiv ((μ 3 2) + nn) 12 = ((μ 3 2) + nn) / 12 := Int.tdiv_eq_ediv_of_nonneg (by omega)
    have w3 := zw32 ((μ 3 3) + (Int.tdiv ((μ 3 2) + nn) 12))
    refine pm_blk hK zmm36 [31] 3 35 [(2, 1), (0, nn), (2, 3), (9, 0), (9, 0)] [(0, 9990), (0, pm_w32 ((μ 3 3) + (Int.tdiv ((μ 3 2) + nn) 12)))] μ [12 ≠ 0, pm_in (Int.tdiv ((μ 3 2) + nn) 12)] rfl ⟨by omega, pm_in_mk (by omega) (by omega), trivial⟩ ?_
    refine pm_icmp hK zmm36 .le 5 40 rfl rfl (fun h1 => ?_) (fun h1 => ?_)
    · have h1 : pm_w32 ((μ 3 3) + (Int.tdiv ((μ 3 2) + nn) 12)) ≤ (9990 : Int) := h1
      refine pm_blk hK zmm36 [31] 4 45 [(2, 1), (0, nn), (2, 3), (0, 0), (0, 0)] [] μ [] rfl trivial ?_
      exact zl_hrk hK (μ0 := μ) ⟨by omega, by omega⟩ hw hC4 hs4 hC5 hs5 hC6 hs6 hC7 hs7 hC8 hs8 hC9 hs9 hC10 hs10 hC11 hs11 hC12 hs12 hC13 hs13 hC14 hs14 hC15 hs15 hC17 hs17 hC18 hs18 hC19 hs19 hC20 hs20 hC21 hs21 hC22 hs22 hC23 hs23 hC24 hs24 hC25 hs25 hC26 hs26 hC27 hs27 hC28 hs28 hC30 hs30 hC31 hs31 hC32 hs32 hC33 hs33 hC34 hs34 hC35 hs35 hC36 hs36 hC37 hs37 hC38 hs38 hC39 hs39 hC40 hs40 hC41 hs41 hC43 hs43 hC44 hs44 hC45 hs45 hC46 hs46 hC47 hs47 hC48 hs48 hC49 hs49 hC50 hs50 hC51 hs51 hC52 hs52 hC53 hs53 hC54 hs54 hC56 hs56 hC57 hs57 hC58 hs58 hC59 hs59 hC60 hs60 hC61 hs61 hC62 hs62 hC63 hs63 hC64 hs64 hC65 hs65 hC66 hs66 hC67 hs67 hC69 hs69 hC70 hs70 hC71 hs71 hC72 hs72 hC73 hs73 hC74 hs74 hC75 hs75 hC76 hs76 hC77 hs77 hC78 hs78 hC79 hs79 hC80 hs80 hC260 hs260 hb96 hb98 hb99 hb112 hb125 hb138 hb151 hb164 hF hbd _ rfl ⟨by omega, by omega⟩ zKC_refl hT
    · have h1 : (9990 : Int) < pm_w32 ((μ 3 3) + (Int.tdiv ((μ 3 2) + nn) 12)) := h1
      refine pm_blk hK zmm36 [31] 1 39 [(2, 1), (0, nn), (2, 3), (9, 0), (9, 0)] [(0, (-1))] μ [] rfl trivial ?_
      exact pm_iret rfl rfl ⟨⟨_, rfl⟩, hT, zKC_refl⟩
set_option maxRecDepth 100000 in
theorem zh_statek (hK : zKK ST) {v : Int} (hv : pm_in v) (hT : zTJ φ μ) (hb3 : sx_bit Wm 3 = true) (hb96 : sx_bit Wm 96 = true) (hbd : 1 ≤ bud.1 ∧ 21 ≤ bud.2.1) : zC D Wm ST b0 l Sg zM13 bud [(2, 1), (0, v)] μ (fun st' μ' => (∃ x, st' = [(0, x)]) ∧ zTJ φ μ' ∧ zKC μ μ') := by
  unfold pm_in at hv
  have f1 := zT_get hT zs3_4 (i := 4) (by omega) (by omega)
  refine pm_blk hK zmm13 [] 10 22 [(2, 1), (0, v), (0, μ 3 4)] [] (pm_up μ 3 4 v) [sx_bit Wm 3 = true] rfl ⟨hb3, trivial⟩ ?_
  obtain ⟨μ1, eμ1⟩ : ∃ μ', μ' = pm_up μ 3 4 v := ⟨_, rfl⟩
  rw [← eμ1]
  have hTμ1 : zTJ φ μ1 := by rw [eμ1]; exact zT_up hT zs3_4 rfl (i := 4) (by omega) (by omega) (by omega) (by omega)
  have hq : ∀ q ∈ zRo, μ1 q.1 (q.2 : Int) = μ q.1 (q.2 : Int) := fun q hq => by rw [eμ1]; exact pm_upq (k := 4) (i := 4) rfl ((show ∀ q ∈ zRo, q ≠ (3, 4) by decide) q hq)
  refine pm_blk hK zmm13 [] 2 26 [(2, 1), (0, v), (0, μ 3 4)] [(2, 96)] μ1 [] rfl trivial ?_
  refine pm_call hK zmm13 (91, 0, 14, 0) zM14 (0, 0) [(2, 96)] [] rfl rfl rfl rfl ⟨by omega, by rw [zn14]; omega⟩ (zh_forgetk hK hTμ1 hb96 ⟨Nat.le_refl _, Nat.le_refl _⟩) (fun st1 μc1 hp1 => ?_)
  obtain ⟨rfl, hTc1, ef1⟩ := hp1
  have ef := ef1
  refine pm_blk hK zmm13 [] 1 30 [(2, 1), (0, v), (0, μ 3 4)] [(0, μ 3 4)] μc1 [] rfl trivial ?_
  exact pm_iret rfl rfl ⟨⟨_, rfl⟩, hTc1, zKC_forget hq ef⟩
set_option maxRecDepth 100000 in
theorem zh_setk (hK : zKK ST) {w s v : Int} (hT : zTJ φ μ) (hb5 : sx_bit Wm 5 = true) (hb11 : sx_bit Wm 11 = true) (hb12 : sx_bit Wm 12 = true) (hb96 : sx_bit Wm 96 = true) (hbd : 1 ≤ bud.1 ∧ 24 ≤ bud.2.1) : zC D Wm ST b0 l Sg zM21 bud [(2, 1), (0, w), (0, s), (0, v)] μ (fun st' μ' => st' = [(0, zStC w s v (μ 3 0) (μ 3 1))] ∧ zTJ φ μ' ∧ zKC μ μ') := by
  have f30 := zT_get hT zs3_0 (i := 0) (by omega) (by omega)
  have f31 := zT_get hT zs3_1 (i := 1) (by omega) (by omega)
  refine pm_blk hK zmm21 [] 5 10 [(2, 1), (0, w), (0, s), (0, v), (2, 3)] [(0, w)] μ [] rfl trivial ?_
  refine pm_if hK zmm21 .ne 33 43 rfl rfl (fun h0 => ?_) (fun h0 => ?_)
  · have h0 : w ≠ (0 : Int) := h0
    refine pm_blk hK zmm21 [] 2 45 [(2, 1), (0, w), (0, s), (0, v), (2, 3)] [(0, 1), (0, w)] μ [] rfl trivial ?_
    refine pm_icmp hK zmm21 .ne 34 79 rfl rfl (fun h1 => ?_) (fun h1 => ?_)
    · have h1 : w ≠ (1 : Int) := h1
      refine pm_blk hK zmm21 [] 2 81 [(2, 1), (0, w), (0, s), (0, v), (2, 3)] [(0, 2), (0, w)] μ [] rfl trivial ?_
      refine pm_icmp hK zmm21 .ne 33 114 rfl rfl (fun h2 => ?_) (fun h2 => ?_)
      · have h2 : w ≠ (2 : Int) := h2
        refine pm_blk hK zmm21 [] 1 115 [(2, 1), (0, w), (0, s), (0, v), (2, 3)] [(0, 0)] μ [] rfl trivial ?_
        exact pm_zret rfl rfl (by first | exact Or.inl rfl | exact Or.inr rfl | omega) ⟨by rw [zStC_n (by omega)], hT, zKC_refl⟩
      · have h2 : w = (2 : Int) := h2
        refine pm_blk hK zmm21 [] 2 87 [(2, 1), (0, w), (0, s), (0, v), (2, 3)] [(0, s), (2, 3)] μ [] rfl trivial ?_
        refine pm_call hK zmm21 (113, 0, 23, 1) zM23 (0, 0) [(2, 3), (0, s)] [] rfl rfl rfl rfl ⟨by omega, by rw [zn23]; omega⟩ (zh_isCu3 hK ⟨Nat.le_refl _, Nat.le_refl _⟩) (fun st1 μc1 hp1 => ?_)
        obtain ⟨rfl, rfl⟩ := hp1
        refine pm_if hK zmm21 .eq 24 114 rfl rfl (fun h3 => ?_) (fun h3 => ?_)
        · have h3 : (if 0 ≤ s ∧ s < μ 3 1 then 1 else 0 : Int) = (0 : Int) := h3
          have h3 := zif0 h3
          refine pm_blk hK zmm21 [] 1 115 [(2, 1), (0, w), (0, s), (0, v), (2, 3)] [(0, 0)] μ [] rfl trivial ?_
          exact pm_zret rfl rfl (by first | exact Or.inl rfl | exact Or.inr rfl | omega) ⟨by rw [zStC_n (by omega)], hT, zKC_refl⟩
        · have h3 : (if 0 ≤ s ∧ s < μ 3 1 then 1 else 0 : Int) ≠ (0 : Int) := h3
          have h3 := zif1 h3
          refine pm_blk hK zmm21 [] 3 97 [(2, 1), (0, w), (0, s), (0, v), (2, 3)] [(0, 9), (0, 0), (0, v)] μ [] rfl trivial ?_
          refine pm_call hK zmm21 (94, 1, 16, 3) zM16 (0, 0) [(0, v), (0, 0), (0, 9)] [] rfl rfl rfl rfl ⟨by omega, by rw [zn16]; omega⟩ (zh_within hK ⟨Nat.le_refl _, Nat.le_refl _⟩) (fun st2 μc2 hp2 => ?_)
          obtain ⟨rfl, rfl⟩ := hp2
          refine pm_if hK zmm21 .eq 14 114 rfl rfl (fun h4 => ?_) (fun h4 => ?_)
          · have h4 : (if 0 ≤ v ∧ v ≤ 9 then 1 else 0 : Int) = (0 : Int) := h4
            have h4 := zif0 h4
            refine pm_blk hK zmm21 [] 1 115 [(2, 1), (0, w), (0, s), (0, v), (2, 3)] [(0, 0)] μ [] rfl trivial ?_
            exact pm_zret rfl rfl (by first | exact Or.inl rfl | exact Or.inr rfl | omega) ⟨by rw [zStC_n (by omega)], hT, zKC_refl⟩
          · have h4 : (if 0 ≤ v ∧ v ≤ 9 then 1 else 0 : Int) ≠ (0 : Int) := h4
            have h4 := zif1 h4
            refine pm_blk hK zmm21 [] 5 111 [(2, 1), (0, w), (0, s), (0, v), (2, 3)] [] (pm_up μ 12 s v) [sx_bit Wm 12 = true, 0 ≤ s ∧ s < 18] rfl ⟨hb12, ⟨by omega, by omega⟩, trivial⟩ ?_
            obtain ⟨μ1, eμ1⟩ : ∃ μ', μ' = pm_up μ 12 s v := ⟨_, rfl⟩
            rw [← eμ1]
            have hTμ1 : zTJ φ μ1 := by rw [eμ1]; exact zT_up hT zs12_0 rfl (i := s) (by omega) (by omega) (by omega) (by omega)
            refine pm_blk hK zmm21 [] 1 116 [(2, 1), (0, w), (0, s), (0, v), (2, 3)] [] μ1 [] rfl trivial ?_
            have hq : ∀ q ∈ zRo, μ1 q.1 (q.2 : Int) = μ q.1 (q.2 : Int) := fun q hq => by rw [eμ1, pm_up_off (by have d := (show ∀ q ∈ zRo, q.1 ≠ 5 ∧ q.1 ≠ 11 ∧ q.1 ≠ 12 by decide) q hq; first | exact d.1 | exact d.2.1 | exact d.2.2)]
            refine pm_blk hK zmm21 [] 2 120 [(2, 1), (0, w), (0, s), (0, v), (2, 3)] [(2, 96)] μ1 [] rfl trivial ?_
            refine pm_call hK zmm21 (91, 0, 14, 0) zM14 (0, 0) [(2, 96)] [] rfl rfl rfl rfl ⟨by omega, by rw [zn14]; omega⟩ (zh_forgetk hK hTμ1 hb96 ⟨Nat.le_refl _, Nat.le_refl _⟩) (fun st3 μc3 hp3 => ?_)
            obtain ⟨rfl, hTc3, ef3⟩ := hp3
            have ef := ef3
            refine pm_blk hK zmm21 [] 1 124 [(2, 1), (0, w), (0, s), (0, v), (2, 3)] [(0, 1)] μc3 [] rfl trivial ?_
            exact pm_zret rfl rfl (by first | exact Or.inl rfl | exact Or.inr rfl | omega) ⟨by rw [zStC_y (by omega)], hTc3, zKC_forget hq ef⟩
    · have h1 : w = (1 : Int) := h1
      refine pm_blk hK zmm21 [] 2 51 [(2, 1), (0, w), (0, s), (0, v), (2, 3)] [(0, s), (2, 3)] μ [] rfl trivial ?_
      refine pm_call hK zmm21 (113, 0, 23, 1) zM23 (0, 0) [(2, 3), (0, s)] [] rfl rfl rfl rfl ⟨by omega, by rw [zn23]; omega⟩ (zh_isCu3 hK ⟨Nat.le_refl _, Nat.le_refl _⟩) (fun st4 μc4 hp4 => ?_)
      obtain ⟨rfl, rfl⟩ := hp4
      refine pm_if hK zmm21 .eq 25 79 rfl rfl (fun h5 => ?_) (fun h5 => ?_)
      · have h5 : (if 0 ≤ s ∧ s < μ 3 1 then 1 else 0 : Int) = (0 : Int) := h5
        have h5 := zif0 h5
        refine pm_blk hK zmm21 [] 2 81 [(2, 1), (0, w), (0, s), (0, v), (2, 3)] [(0, 2), (0, w)] μ [] rfl trivial ?_
        refine pm_icmp hK zmm21 .ne 33 114 rfl rfl (fun h6 => ?_) (fun h6 => ?_)
        · have h6 : w ≠ (2 : Int) := h6
          refine pm_blk hK zmm21 [] 1 115 [(2, 1), (0, w), (0, s), (0, v), (2, 3)] [(0, 0)] μ [] rfl trivial ?_
          exact pm_zret rfl rfl (by first | exact Or.inl rfl | exact Or.inr rfl | omega) ⟨by rw [zStC_n (by omega)], hT, zKC_refl⟩
        · have h6 : w = (2 : Int) := h6
          refine pm_blk hK zmm21 [] 2 87 [(2, 1), (0, w), (0, s), (0, v), (2, 3)] [(0, s), (2, 3)] μ [] rfl trivial ?_
          refine pm_call hK zmm21 (113, 0, 23, 1) zM23 (0, 0) [(2, 3), (0, s)] [] rfl rfl rfl rfl ⟨by omega, by rw [zn23]; omega⟩ (zh_isCu3 hK ⟨Nat.le_refl _, Nat.le_refl _⟩) (fun st5 μc5 hp5 => ?_)
          obtain ⟨rfl, rfl⟩ := hp5
          refine pm_if hK zmm21 .eq 24 114 rfl rfl (fun h7 => ?_) (fun h7 => ?_)
          · have h7 : (if 0 ≤ s ∧ s < μ 3 1 then 1 else 0 : Int) = (0 : Int) := h7
            have h7 := zif0 h7
            refine pm_blk hK zmm21 [] 1 115 [(2, 1), (0, w), (0, s), (0, v), (2, 3)] [(0, 0)] μ [] rfl trivial ?_
            exact pm_zret rfl rfl (by first | exact Or.inl rfl | exact Or.inr rfl | omega) ⟨by rw [zStC_n (by omega)], hT, zKC_refl⟩
          · have h7 : (if 0 ≤ s ∧ s < μ 3 1 then 1 else 0 : Int) ≠ (0 : Int) := h7
            have h7 := zif1 h7
            exact absurd h7 h5
      · have h5 : (if 0 ≤ s ∧ s < μ 3 1 then 1 else 0 : Int) ≠ (0 : Int) := h5
        have h5 := zif1 h5
        refine pm_blk hK zmm21 [] 3 62 [(2, 1), (0, w), (0, s), (0, v), (2, 3)] [(0, 9999), (0, 0), (0, v)] μ [] rfl trivial ?_
        refine pm_call hK zmm21 (94, 1, 16, 3) zM16 (0, 0) [(0, v), (0, 0), (0, 9999)] [] rfl rfl rfl rfl ⟨by omega, by rw [zn16]; omega⟩ (zh_within hK ⟨Nat.le_refl _, Nat.le_refl _⟩) (fun st6 μc6 hp6 => ?_)
        obtain ⟨rfl, rfl⟩ := hp6
        refine pm_if hK zmm21 .eq 14 79 rfl rfl (fun h8 => ?_) (fun h8 => ?_)
        · have h8 : (if 0 ≤ v ∧ v ≤ 9999 then 1 else 0 : Int) = (0 : Int) := h8
          have h8 := zif0 h8
          refine pm_blk hK zmm21 [] 2 81 [(2, 1), (0, w), (0, s), (0, v), (2, 3)] [(0, 2), (0, w)] μ [] rfl trivial ?_
          refine pm_icmp hK zmm21 .ne 33 114 rfl rfl (fun h9 => ?_) (fun h9 => ?_)
          · have h9 : w ≠ (2 : Int) := h9
            refine pm_blk hK zmm21 [] 1 115 [(2, 1), (0, w), (0, s), (0, v), (2, 3)] [(0, 0)] μ [] rfl trivial ?_
            exact pm_zret rfl rfl (by first | exact Or.inl rfl | exact Or.inr rfl | omega) ⟨by rw [zStC_n (by omega)], hT, zKC_refl⟩
          · have h9 : w = (2 : Int) := h9
            refine pm_blk hK zmm21 [] 2 87 [(2, 1), (0, w), (0, s), (0, v), (2, 3)] [(0, s), (2, 3)] μ [] rfl trivial ?_
            refine pm_call hK zmm21 (113, 0, 23, 1) zM23 (0, 0) [(2, 3), (0, s)] [] rfl rfl rfl rfl ⟨by omega, by rw [zn23]; omega⟩ (zh_isCu3 hK ⟨Nat.le_refl _, Nat.le_refl _⟩) (fun st7 μc7 hp7 => ?_)
            obtain ⟨rfl, rfl⟩ := hp7
            refine pm_if hK zmm21 .eq 24 114 rfl rfl (fun h10 => ?_) (fun h10 => ?_)
            · have h10 : (if 0 ≤ s ∧ s < μ 3 1 then 1 else 0 : Int) = (0 : Int) := h10
              have h10 := zif0 h10
              exact absurd h5 h10
            · have h10 : (if 0 ≤ s ∧ s < μ 3 1 then 1 else 0 : Int) ≠ (0 : Int) := h10
              have h10 := zif1 h10
              refine pm_blk hK zmm21 [] 3 97 [(2, 1), (0, w), (0, s), (0, v), (2, 3)] [(0, 9), (0, 0), (0, v)] μ [] rfl trivial ?_
              refine pm_call hK zmm21 (94, 1, 16, 3) zM16 (0, 0) [(0, v), (0, 0), (0, 9)] [] rfl rfl rfl rfl ⟨by omega, by rw [zn16]; omega⟩ (zh_within hK ⟨Nat.le_refl _, Nat.le_refl _⟩) (fun st8 μc8 hp8 => ?_)
              obtain ⟨rfl, rfl⟩ := hp8
              refine pm_if hK zmm21 .eq 14 114 rfl rfl (fun h11 => ?_) (fun h11 => ?_)
              · have h11 : (if 0 ≤ v ∧ v ≤ 9 then 1 else 0 : Int) = (0 : Int) := h11
                have h11 := zif0 h11
                refine pm_blk hK zmm21 [] 1 115 [(2, 1), (0, w), (0, s), (0, v), (2, 3)] [(0, 0)] μ [] rfl trivial ?_
                exact pm_zret rfl rfl (by first | exact Or.inl rfl | exact Or.inr rfl | omega) ⟨by rw [zStC_n (by omega)], hT, zKC_refl⟩
              · have h11 : (if 0 ≤ v ∧ v ≤ 9 then 1 else 0 : Int) ≠ (0 : Int) := h11
                have h11 := zif1 h11
                refine pm_blk hK zmm21 [] 5 111 [(2, 1), (0, w), (0, s), (0, v), (2, 3)] [] (pm_up μ 12 s v) [sx_bit Wm 12 = true, 0 ≤ s ∧ s < 18] rfl ⟨hb12, ⟨by omega, by omega⟩, trivial⟩ ?_
                obtain ⟨μ2, eμ2⟩ : ∃ μ', μ' = pm_up μ 12 s v := ⟨_, rfl⟩
                rw [← eμ2]
                have hTμ2 : zTJ φ μ2 := by rw [eμ2]; exact zT_up hT zs12_0 rfl (i := s) (by omega) (by omega) (by omega) (by omega)
                refine pm_blk hK zmm21 [] 1 116 [(2, 1), (0, w), (0, s), (0, v), (2, 3)] [] μ2 [] rfl trivial ?_
                have hq : ∀ q ∈ zRo, μ2 q.1 (q.2 : Int) = μ q.1 (q.2 : Int) := fun q hq => by rw [eμ2, pm_up_off (by have d := (show ∀ q ∈ zRo, q.1 ≠ 5 ∧ q.1 ≠ 11 ∧ q.1 ≠ 12 by decide) q hq; first | exact d.1 | exact d.2.1 | exact d.2.2)]
                refine pm_blk hK zmm21 [] 2 120 [(2, 1), (0, w), (0, s), (0, v), (2, 3)] [(2, 96)] μ2 [] rfl trivial ?_
                refine pm_call hK zmm21 (91, 0, 14, 0) zM14 (0, 0) [(2, 96)] [] rfl rfl rfl rfl ⟨by omega, by rw [zn14]; omega⟩ (zh_forgetk hK hTμ2 hb96 ⟨Nat.le_refl _, Nat.le_refl _⟩) (fun st9 μc9 hp9 => ?_)
                obtain ⟨rfl, hTc9, ef9⟩ := hp9
                have ef := ef9
                refine pm_blk hK zmm21 [] 1 124 [(2, 1), (0, w), (0, s), (0, v), (2, 3)] [(0, 1)] μc9 [] rfl trivial ?_
                exact pm_zret rfl rfl (by first | exact Or.inl rfl | exact Or.inr rfl | omega) ⟨by rw [zStC_y (by omega)], hTc9, zKC_forget hq ef⟩
        · have h8 : (if 0 ≤ v ∧ v ≤ 9999 then 1 else 0 : Int) ≠ (0 : Int) := h8
          have h8 := zif1 h8
          refine pm_blk hK zmm21 [] 5 76 [(2, 1), (0, w), (0, s), (0, v), (2, 3)] [] (pm_up μ 11 s v) [sx_bit Wm 11 = true, 0 ≤ s ∧ s < 18] rfl ⟨hb11, ⟨by omega, by omega⟩, trivial⟩ ?_
          obtain ⟨μ3, eμ3⟩ : ∃ μ', μ' = pm_up μ 11 s v := ⟨_, rfl⟩
          rw [← eμ3]
          have hTμ3 : zTJ φ μ3 := by rw [eμ3]; exact zT_up hT zs11_0 rfl (i := s) (by omega) (by omega) (by omega) (by omega)
          refine pm_blk hK zmm21 [] 1 116 [(2, 1), (0, w), (0, s), (0, v), (2, 3)] [] μ3 [] rfl trivial ?_
          have hq : ∀ q ∈ zRo, μ3 q.1 (q.2 : Int) = μ q.1 (q.2 : Int) := fun q hq => by rw [eμ3, pm_up_off (by have d := (show ∀ q ∈ zRo, q.1 ≠ 5 ∧ q.1 ≠ 11 ∧ q.1 ≠ 12 by decide) q hq; first | exact d.1 | exact d.2.1 | exact d.2.2)]
          refine pm_blk hK zmm21 [] 2 120 [(2, 1), (0, w), (0, s), (0, v), (2, 3)] [(2, 96)] μ3 [] rfl trivial ?_
          refine pm_call hK zmm21 (91, 0, 14, 0) zM14 (0, 0) [(2, 96)] [] rfl rfl rfl rfl ⟨by omega, by rw [zn14]; omega⟩ (zh_forgetk hK hTμ3 hb96 ⟨Nat.le_refl _, Nat.le_refl _⟩) (fun st10 μc10 hp10 => ?_)
          obtain ⟨rfl, hTc10, ef10⟩ := hp10
          have ef := ef10
          refine pm_blk hK zmm21 [] 1 124 [(2, 1), (0, w), (0, s), (0, v), (2, 3)] [(0, 1)] μc10 [] rfl trivial ?_
          exact pm_zret rfl rfl (by first | exact Or.inl rfl | exact Or.inr rfl | omega) ⟨by rw [zStC_y (by omega)], hTc10, zKC_forget hq ef⟩
  · have h0 : w = (0 : Int) := h0
    refine pm_blk hK zmm21 [] 2 16 [(2, 1), (0, w), (0, s), (0, v), (2, 3)] [(0, s), (2, 3)] μ [] rfl trivial ?_
    refine pm_call hK zmm21 (105, 0, 22, 1) zM22 (0, 0) [(2, 3), (0, s)] [] rfl rfl rfl rfl ⟨by omega, by rw [zn22]; omega⟩ (zh_isSh3 hK ⟨Nat.le_refl _, Nat.le_refl _⟩) (fun st11 μc11 hp11 => ?_)
    obtain ⟨rfl, rfl⟩ := hp11
    refine pm_if hK zmm21 .eq 24 43 rfl rfl (fun h12 => ?_) (fun h12 => ?_)
    · have h12 : (if 0 ≤ s ∧ s < μ 3 0 then 1 else 0 : Int) = (0 : Int) := h12
      have h12 := zif0 h12
      refine pm_blk hK zmm21 [] 2 45 [(2, 1), (0, w), (0, s), (0, v), (2, 3)] [(0, 1), (0, w)] μ [] rfl trivial ?_
      refine pm_icmp hK zmm21 .ne 34 79 rfl rfl (fun h13 => ?_) (fun h13 => ?_)
      · have h13 : w ≠ (1 : Int) := h13
        refine pm_blk hK zmm21 [] 2 81 [(2, 1), (0, w), (0, s), (0, v), (2, 3)] [(0, 2), (0, w)] μ [] rfl trivial ?_
        refine pm_icmp hK zmm21 .ne 33 114 rfl rfl (fun h14 => ?_) (fun h14 => ?_)
        · have h14 : w ≠ (2 : Int) := h14
          refine pm_blk hK zmm21 [] 1 115 [(2, 1), (0, w), (0, s), (0, v), (2, 3)] [(0, 0)] μ [] rfl trivial ?_
          exact pm_zret rfl rfl (by first | exact Or.inl rfl | exact Or.inr rfl | omega) ⟨by rw [zStC_n (by omega)], hT, zKC_refl⟩
        · have h14 : w = (2 : Int) := h14
          refine pm_blk hK zmm21 [] 2 87 [(2, 1), (0, w), (0, s), (0, v), (2, 3)] [(0, s), (2, 3)] μ [] rfl trivial ?_
          refine pm_call hK zmm21 (113, 0, 23, 1) zM23 (0, 0) [(2, 3), (0, s)] [] rfl rfl rfl rfl ⟨by omega, by rw [zn23]; omega⟩ (zh_isCu3 hK ⟨Nat.le_refl _, Nat.le_refl _⟩) (fun st12 μc12 hp12 => ?_)
          obtain ⟨rfl, rfl⟩ := hp12
          refine pm_if hK zmm21 .eq 24 114 rfl rfl (fun h15 => ?_) (fun h15 => ?_)
          · have h15 : (if 0 ≤ s ∧ s < μ 3 1 then 1 else 0 : Int) = (0 : Int) := h15
            have h15 := zif0 h15
            refine pm_blk hK zmm21 [] 1 115 [(2, 1), (0, w), (0, s), (0, v), (2, 3)] [(0, 0)] μ [] rfl trivial ?_
            exact pm_zret rfl rfl (by first | exact Or.inl rfl | exact Or.inr rfl | omega) ⟨by rw [zStC_n (by omega)], hT, zKC_refl⟩
          · have h15 : (if 0 ≤ s ∧ s < μ 3 1 then 1 else 0 : Int) ≠ (0 : Int) := h15
            have h15 := zif1 h15
            refine pm_blk hK zmm21 [] 3 97 [(2, 1), (0, w), (0, s), (0, v), (2, 3)] [(0, 9), (0, 0), (0, v)] μ [] rfl trivial ?_
            refine pm_call hK zmm21 (94, 1, 16, 3) zM16 (0, 0) [(0, v), (0, 0), (0, 9)] [] rfl rfl rfl rfl ⟨by omega, by rw [zn16]; omega⟩ (zh_within hK ⟨Nat.le_refl _, Nat.le_refl _⟩) (fun st13 μc13 hp13 => ?_)
            obtain ⟨rfl, rfl⟩ := hp13
            refine pm_if hK zmm21 .eq 14 114 rfl rfl (fun h16 => ?_) (fun h16 => ?_)
            · have h16 : (if 0 ≤ v ∧ v ≤ 9 then 1 else 0 : Int) = (0 : Int) := h16
              have h16 := zif0 h16
              refine pm_blk hK zmm21 [] 1 115 [(2, 1), (0, w), (0, s), (0, v), (2, 3)] [(0, 0)] μ [] rfl trivial ?_
              exact pm_zret rfl rfl (by first | exact Or.inl rfl | exact Or.inr rfl | omega) ⟨by rw [zStC_n (by omega)], hT, zKC_refl⟩
            · have h16 : (if 0 ≤ v ∧ v ≤ 9 then 1 else 0 : Int) ≠ (0 : Int) := h16
              have h16 := zif1 h16
              refine pm_blk hK zmm21 [] 5 111 [(2, 1), (0, w), (0, s), (0, v), (2, 3)] [] (pm_up μ 12 s v) [sx_bit Wm 12 = true, 0 ≤ s ∧ s < 18] rfl ⟨hb12, ⟨by omega, by omega⟩, trivial⟩ ?_
              obtain ⟨μ4, eμ4⟩ : ∃ μ', μ' = pm_up μ 12 s v := ⟨_, rfl⟩
              rw [← eμ4]
              have hTμ4 : zTJ φ μ4 := by rw [eμ4]; exact zT_up hT zs12_0 rfl (i := s) (by omega) (by omega) (by omega) (by omega)
              refine pm_blk hK zmm21 [] 1 116 [(2, 1), (0, w), (0, s), (0, v), (2, 3)] [] μ4 [] rfl trivial ?_
              have hq : ∀ q ∈ zRo, μ4 q.1 (q.2 : Int) = μ q.1 (q.2 : Int) := fun q hq => by rw [eμ4, pm_up_off (by have d := (show ∀ q ∈ zRo, q.1 ≠ 5 ∧ q.1 ≠ 11 ∧ q.1 ≠ 12 by decide) q hq; first | exact d.1 | exact d.2.1 | exact d.2.2)]
              refine pm_blk hK zmm21 [] 2 120 [(2, 1), (0, w), (0, s), (0, v), (2, 3)] [(2, 96)] μ4 [] rfl trivial ?_
              refine pm_call hK zmm21 (91, 0, 14, 0) zM14 (0, 0) [(2, 96)] [] rfl rfl rfl rfl ⟨by omega, by rw [zn14]; omega⟩ (zh_forgetk hK hTμ4 hb96 ⟨Nat.le_refl _, Nat.le_refl _⟩) (fun st14 μc14 hp14 => ?_)
              obtain ⟨rfl, hTc14, ef14⟩ := hp14
              have ef := ef14
              refine pm_blk hK zmm21 [] 1 124 [(2, 1), (0, w), (0, s), (0, v), (2, 3)] [(0, 1)] μc14 [] rfl trivial ?_
              exact pm_zret rfl rfl (by first | exact Or.inl rfl | exact Or.inr rfl | omega) ⟨by rw [zStC_y (by omega)], hTc14, zKC_forget hq ef⟩
      · have h13 : w = (1 : Int) := h13
        refine pm_blk hK zmm21 [] 2 51 [(2, 1), (0, w), (0, s), (0, v), (2, 3)] [(0, s), (2, 3)] μ [] rfl trivial ?_
        refine pm_call hK zmm21 (113, 0, 23, 1) zM23 (0, 0) [(2, 3), (0, s)] [] rfl rfl rfl rfl ⟨by omega, by rw [zn23]; omega⟩ (zh_isCu3 hK ⟨Nat.le_refl _, Nat.le_refl _⟩) (fun st15 μc15 hp15 => ?_)
        obtain ⟨rfl, rfl⟩ := hp15
        refine pm_if hK zmm21 .eq 25 79 rfl rfl (fun h17 => ?_) (fun h17 => ?_)
        · have h17 : (if 0 ≤ s ∧ s < μ 3 1 then 1 else 0 : Int) = (0 : Int) := h17
          have h17 := zif0 h17
          refine pm_blk hK zmm21 [] 2 81 [(2, 1), (0, w), (0, s), (0, v), (2, 3)] [(0, 2), (0, w)] μ [] rfl trivial ?_
          refine pm_icmp hK zmm21 .ne 33 114 rfl rfl (fun h18 => ?_) (fun h18 => ?_)
          · have h18 : w ≠ (2 : Int) := h18
            refine pm_blk hK zmm21 [] 1 115 [(2, 1), (0, w), (0, s), (0, v), (2, 3)] [(0, 0)] μ [] rfl trivial ?_
            exact pm_zret rfl rfl (by first | exact Or.inl rfl | exact Or.inr rfl | omega) ⟨by rw [zStC_n (by omega)], hT, zKC_refl⟩
          · have h18 : w = (2 : Int) := h18
            refine pm_blk hK zmm21 [] 2 87 [(2, 1), (0, w), (0, s), (0, v), (2, 3)] [(0, s), (2, 3)] μ [] rfl trivial ?_
            refine pm_call hK zmm21 (113, 0, 23, 1) zM23 (0, 0) [(2, 3), (0, s)] [] rfl rfl rfl rfl ⟨by omega, by rw [zn23]; omega⟩ (zh_isCu3 hK ⟨Nat.le_refl _, Nat.le_refl _⟩) (fun st16 μc16 hp16 => ?_)
            obtain ⟨rfl, rfl⟩ := hp16
            refine pm_if hK zmm21 .eq 24 114 rfl rfl (fun h19 => ?_) (fun h19 => ?_)
            · have h19 : (if 0 ≤ s ∧ s < μ 3 1 then 1 else 0 : Int) = (0 : Int) := h19
              have h19 := zif0 h19
              refine pm_blk hK zmm21 [] 1 115 [(2, 1), (0, w), (0, s), (0, v), (2, 3)] [(0, 0)] μ [] rfl trivial ?_
              exact pm_zret rfl rfl (by first | exact Or.inl rfl | exact Or.inr rfl | omega) ⟨by rw [zStC_n (by omega)], hT, zKC_refl⟩
            · have h19 : (if 0 ≤ s ∧ s < μ 3 1 then 1 else 0 : Int) ≠ (0 : Int) := h19
              have h19 := zif1 h19
              exact absurd h19 h17
        · have h17 : (if 0 ≤ s ∧ s < μ 3 1 then 1 else 0 : Int) ≠ (0 : Int) := h17
          have h17 := zif1 h17
          refine pm_blk hK zmm21 [] 3 62 [(2, 1), (0, w), (0, s), (0, v), (2, 3)] [(0, 9999), (0, 0), (0, v)] μ [] rfl trivial ?_
          refine pm_call hK zmm21 (94, 1, 16, 3) zM16 (0, 0) [(0, v), (0, 0), (0, 9999)] [] rfl rfl rfl rfl ⟨by omega, by rw [zn16]; omega⟩ (zh_within hK ⟨Nat.le_refl _, Nat.le_refl _⟩) (fun st17 μc17 hp17 => ?_)
          obtain ⟨rfl, rfl⟩ := hp17
          refine pm_if hK zmm21 .eq 14 79 rfl rfl (fun h20 => ?_) (fun h20 => ?_)
          · have h20 : (if 0 ≤ v ∧ v ≤ 9999 then 1 else 0 : Int) = (0 : Int) := h20
            have h20 := zif0 h20
            refine pm_blk hK zmm21 [] 2 81 [(2, 1), (0, w), (0, s), (0, v), (2, 3)] [(0, 2), (0, w)] μ [] rfl trivial ?_
            refine pm_icmp hK zmm21 .ne 33 114 rfl rfl (fun h21 => ?_) (fun h21 => ?_)
            · have h21 : w ≠ (2 : Int) := h21
              refine pm_blk hK zmm21 [] 1 115 [(2, 1), (0, w), (0, s), (0, v), (2, 3)] [(0, 0)] μ [] rfl trivial ?_
              exact pm_zret rfl rfl (by first | exact Or.inl rfl | exact Or.inr rfl | omega) ⟨by rw [zStC_n (by omega)], hT, zKC_refl⟩
            · have h21 : w = (2 : Int) := h21
              refine pm_blk hK zmm21 [] 2 87 [(2, 1), (0, w), (0, s), (0, v), (2, 3)] [(0, s), (2, 3)] μ [] rfl trivial ?_
              refine pm_call hK zmm21 (113, 0, 23, 1) zM23 (0, 0) [(2, 3), (0, s)] [] rfl rfl rfl rfl ⟨by omega, by rw [zn23]; omega⟩ (zh_isCu3 hK ⟨Nat.le_refl _, Nat.le_refl _⟩) (fun st18 μc18 hp18 => ?_)
              obtain ⟨rfl, rfl⟩ := hp18
              refine pm_if hK zmm21 .eq 24 114 rfl rfl (fun h22 => ?_) (fun h22 => ?_)
              · have h22 : (if 0 ≤ s ∧ s < μ 3 1 then 1 else 0 : Int) = (0 : Int) := h22
                have h22 := zif0 h22
                exact absurd h17 h22
              · have h22 : (if 0 ≤ s ∧ s < μ 3 1 then 1 else 0 : Int) ≠ (0 : Int) := h22
                have h22 := zif1 h22
                refine pm_blk hK zmm21 [] 3 97 [(2, 1), (0, w), (0, s), (0, v), (2, 3)] [(0, 9), (0, 0), (0, v)] μ [] rfl trivial ?_
                refine pm_call hK zmm21 (94, 1, 16, 3) zM16 (0, 0) [(0, v), (0, 0), (0, 9)] [] rfl rfl rfl rfl ⟨by omega, by rw [zn16]; omega⟩ (zh_within hK ⟨Nat.le_refl _, Nat.le_refl _⟩) (fun st19 μc19 hp19 => ?_)
                obtain ⟨rfl, rfl⟩ := hp19
                refine pm_if hK zmm21 .eq 14 114 rfl rfl (fun h23 => ?_) (fun h23 => ?_)
                · have h23 : (if 0 ≤ v ∧ v ≤ 9 then 1 else 0 : Int) = (0 : Int) := h23
                  have h23 := zif0 h23
                  refine pm_blk hK zmm21 [] 1 115 [(2, 1), (0, w), (0, s), (0, v), (2, 3)] [(0, 0)] μ [] rfl trivial ?_
                  exact pm_zret rfl rfl (by first | exact Or.inl rfl | exact Or.inr rfl | omega) ⟨by rw [zStC_n (by omega)], hT, zKC_refl⟩
                · have h23 : (if 0 ≤ v ∧ v ≤ 9 then 1 else 0 : Int) ≠ (0 : Int) := h23
                  have h23 := zif1 h23
                  refine pm_blk hK zmm21 [] 5 111 [(2, 1), (0, w), (0, s), (0, v), (2, 3)] [] (pm_up μ 12 s v) [sx_bit Wm 12 = true, 0 ≤ s ∧ s < 18] rfl ⟨hb12, ⟨by omega, by omega⟩, trivial⟩ ?_
                  obtain ⟨μ5, eμ5⟩ : ∃ μ', μ' = pm_up μ 12 s v := ⟨_, rfl⟩
                  rw [← eμ5]
                  have hTμ5 : zTJ φ μ5 := by rw [eμ5]; exact zT_up hT zs12_0 rfl (i := s) (by omega) (by omega) (by omega) (by omega)
                  refine pm_blk hK zmm21 [] 1 116 [(2, 1), (0, w), (0, s), (0, v), (2, 3)] [] μ5 [] rfl trivial ?_
                  have hq : ∀ q ∈ zRo, μ5 q.1 (q.2 : Int) = μ q.1 (q.2 : Int) := fun q hq => by rw [eμ5, pm_up_off (by have d := (show ∀ q ∈ zRo, q.1 ≠ 5 ∧ q.1 ≠ 11 ∧ q.1 ≠ 12 by decide) q hq; first | exact d.1 | exact d.2.1 | exact d.2.2)]
                  refine pm_blk hK zmm21 [] 2 120 [(2, 1), (0, w), (0, s), (0, v), (2, 3)] [(2, 96)] μ5 [] rfl trivial ?_
                  refine pm_call hK zmm21 (91, 0, 14, 0) zM14 (0, 0) [(2, 96)] [] rfl rfl rfl rfl ⟨by omega, by rw [zn14]; omega⟩ (zh_forgetk hK hTμ5 hb96 ⟨Nat.le_refl _, Nat.le_refl _⟩) (fun st20 μc20 hp20 => ?_)
                  obtain ⟨rfl, hTc20, ef20⟩ := hp20
                  have ef := ef20
                  refine pm_blk hK zmm21 [] 1 124 [(2, 1), (0, w), (0, s), (0, v), (2, 3)] [(0, 1)] μc20 [] rfl trivial ?_
                  exact pm_zret rfl rfl (by first | exact Or.inl rfl | exact Or.inr rfl | omega) ⟨by rw [zStC_y (by omega)], hTc20, zKC_forget hq ef⟩
          · have h20 : (if 0 ≤ v ∧ v ≤ 9999 then 1 else 0 : Int) ≠ (0 : Int) := h20
            have h20 := zif1 h20
            refine pm_blk hK zmm21 [] 5 76 [(2, 1), (0, w), (0, s), (0, v), (2, 3)] [] (pm_up μ 11 s v) [sx_bit Wm 11 = true, 0 ≤ s ∧ s < 18] rfl ⟨hb11, ⟨by omega, by omega⟩, trivial⟩ ?_
            obtain ⟨μ6, eμ6⟩ : ∃ μ', μ' = pm_up μ 11 s v := ⟨_, rfl⟩
            rw [← eμ6]
            have hTμ6 : zTJ φ μ6 := by rw [eμ6]; exact zT_up hT zs11_0 rfl (i := s) (by omega) (by omega) (by omega) (by omega)
            refine pm_blk hK zmm21 [] 1 116 [(2, 1), (0, w), (0, s), (0, v), (2, 3)] [] μ6 [] rfl trivial ?_
            have hq : ∀ q ∈ zRo, μ6 q.1 (q.2 : Int) = μ q.1 (q.2 : Int) := fun q hq => by rw [eμ6, pm_up_off (by have d := (show ∀ q ∈ zRo, q.1 ≠ 5 ∧ q.1 ≠ 11 ∧ q.1 ≠ 12 by decide) q hq; first | exact d.1 | exact d.2.1 | exact d.2.2)]
            refine pm_blk hK zmm21 [] 2 120 [(2, 1), (0, w), (0, s), (0, v), (2, 3)] [(2, 96)] μ6 [] rfl trivial ?_
            refine pm_call hK zmm21 (91, 0, 14, 0) zM14 (0, 0) [(2, 96)] [] rfl rfl rfl rfl ⟨by omega, by rw [zn14]; omega⟩ (zh_forgetk hK hTμ6 hb96 ⟨Nat.le_refl _, Nat.le_refl _⟩) (fun st21 μc21 hp21 => ?_)
            obtain ⟨rfl, hTc21, ef21⟩ := hp21
            have ef := ef21
            refine pm_blk hK zmm21 [] 1 124 [(2, 1), (0, w), (0, s), (0, v), (2, 3)] [(0, 1)] μc21 [] rfl trivial ?_
            exact pm_zret rfl rfl (by first | exact Or.inl rfl | exact Or.inr rfl | omega) ⟨by rw [zStC_y (by omega)], hTc21, zKC_forget hq ef⟩
    · have h12 : (if 0 ≤ s ∧ s < μ 3 0 then 1 else 0 : Int) ≠ (0 : Int) := h12
      have h12 := zif1 h12
      refine pm_blk hK zmm21 [] 3 26 [(2, 1), (0, w), (0, s), (0, v), (2, 3)] [(0, 99), (0, 1), (0, v)] μ [] rfl trivial ?_
      refine pm_call hK zmm21 (94, 1, 16, 3) zM16 (0, 0) [(0, v), (0, 1), (0, 99)] [] rfl rfl rfl rfl ⟨by omega, by rw [zn16]; omega⟩ (zh_within hK ⟨Nat.le_refl _, Nat.le_refl _⟩) (fun st22 μc22 hp22 => ?_)
      obtain ⟨rfl, rfl⟩ := hp22
      refine pm_if hK zmm21 .eq 14 43 rfl rfl (fun h24 => ?_) (fun h24 => ?_)
      · have h24 : (if 1 ≤ v ∧ v ≤ 99 then 1 else 0 : Int) = (0 : Int) := h24
        have h24 := zif0 h24
        refine pm_blk hK zmm21 [] 2 45 [(2, 1), (0, w), (0, s), (0, v), (2, 3)] [(0, 1), (0, w)] μ [] rfl trivial ?_
        refine pm_icmp hK zmm21 .ne 34 79 rfl rfl (fun h25 => ?_) (fun h25 => ?_)
        · have h25 : w ≠ (1 : Int) := h25
          refine pm_blk hK zmm21 [] 2 81 [(2, 1), (0, w), (0, s), (0, v), (2, 3)] [(0, 2), (0, w)] μ [] rfl trivial ?_
          refine pm_icmp hK zmm21 .ne 33 114 rfl rfl (fun h26 => ?_) (fun h26 => ?_)
          · have h26 : w ≠ (2 : Int) := h26
            refine pm_blk hK zmm21 [] 1 115 [(2, 1), (0, w), (0, s), (0, v), (2, 3)] [(0, 0)] μ [] rfl trivial ?_
            exact pm_zret rfl rfl (by first | exact Or.inl rfl | exact Or.inr rfl | omega) ⟨by rw [zStC_n (by omega)], hT, zKC_refl⟩
          · have h26 : w = (2 : Int) := h26
            refine pm_blk hK zmm21 [] 2 87 [(2, 1), (0, w), (0, s), (0, v), (2, 3)] [(0, s), (2, 3)] μ [] rfl trivial ?_
            refine pm_call hK zmm21 (113, 0, 23, 1) zM23 (0, 0) [(2, 3), (0, s)] [] rfl rfl rfl rfl ⟨by omega, by rw [zn23]; omega⟩ (zh_isCu3 hK ⟨Nat.le_refl _, Nat.le_refl _⟩) (fun st23 μc23 hp23 => ?_)
            obtain ⟨rfl, rfl⟩ := hp23
            refine pm_if hK zmm21 .eq 24 114 rfl rfl (fun h27 => ?_) (fun h27 => ?_)
            · have h27 : (if 0 ≤ s ∧ s < μ 3 1 then 1 else 0 : Int) = (0 : Int) := h27
              have h27 := zif0 h27
              refine pm_blk hK zmm21 [] 1 115 [(2, 1), (0, w), (0, s), (0, v), (2, 3)] [(0, 0)] μ [] rfl trivial ?_
              exact pm_zret rfl rfl (by first | exact Or.inl rfl | exact Or.inr rfl | omega) ⟨by rw [zStC_n (by omega)], hT, zKC_refl⟩
            · have h27 : (if 0 ≤ s ∧ s < μ 3 1 then 1 else 0 : Int) ≠ (0 : Int) := h27
              have h27 := zif1 h27
              refine pm_blk hK zmm21 [] 3 97 [(2, 1), (0, w), (0, s), (0, v), (2, 3)] [(0, 9), (0, 0), (0, v)] μ [] rfl trivial ?_
              refine pm_call hK zmm21 (94, 1, 16, 3) zM16 (0, 0) [(0, v), (0, 0), (0, 9)] [] rfl rfl rfl rfl ⟨by omega, by rw [zn16]; omega⟩ (zh_within hK ⟨Nat.le_refl _, Nat.le_refl _⟩) (fun st24 μc24 hp24 => ?_)
              obtain ⟨rfl, rfl⟩ := hp24
              refine pm_if hK zmm21 .eq 14 114 rfl rfl (fun h28 => ?_) (fun h28 => ?_)
              · have h28 : (if 0 ≤ v ∧ v ≤ 9 then 1 else 0 : Int) = (0 : Int) := h28
                have h28 := zif0 h28
                refine pm_blk hK zmm21 [] 1 115 [(2, 1), (0, w), (0, s), (0, v), (2, 3)] [(0, 0)] μ [] rfl trivial ?_
                exact pm_zret rfl rfl (by first | exact Or.inl rfl | exact Or.inr rfl | omega) ⟨by rw [zStC_n (by omega)], hT, zKC_refl⟩
              · have h28 : (if 0 ≤ v ∧ v ≤ 9 then 1 else 0 : Int) ≠ (0 : Int) := h28
                have h28 := zif1 h28
                refine pm_blk hK zmm21 [] 5 111 [(2, 1), (0, w), (0, s), (0, v), (2, 3)] [] (pm_up μ 12 s v) [sx_bit Wm 12 = true, 0 ≤ s ∧ s < 18] rfl ⟨hb12, ⟨by omega, by omega⟩, trivial⟩ ?_
                obtain ⟨μ7, eμ7⟩ : ∃ μ', μ' = pm_up μ 12 s v := ⟨_, rfl⟩
                rw [← eμ7]
                have hTμ7 : zTJ φ μ7 := by rw [eμ7]; exact zT_up hT zs12_0 rfl (i := s) (by omega) (by omega) (by omega) (by omega)
                refine pm_blk hK zmm21 [] 1 116 [(2, 1), (0, w), (0, s), (0, v), (2, 3)] [] μ7 [] rfl trivial ?_
                have hq : ∀ q ∈ zRo, μ7 q.1 (q.2 : Int) = μ q.1 (q.2 : Int) := fun q hq => by rw [eμ7, pm_up_off (by have d := (show ∀ q ∈ zRo, q.1 ≠ 5 ∧ q.1 ≠ 11 ∧ q.1 ≠ 12 by decide) q hq; first | exact d.1 | exact d.2.1 | exact d.2.2)]
                refine pm_blk hK zmm21 [] 2 120 [(2, 1), (0, w), (0, s), (0, v), (2, 3)] [(2, 96)] μ7 [] rfl trivial ?_
                refine pm_call hK zmm21 (91, 0, 14, 0) zM14 (0, 0) [(2, 96)] [] rfl rfl rfl rfl ⟨by omega, by rw [zn14]; omega⟩ (zh_forgetk hK hTμ7 hb96 ⟨Nat.le_refl _, Nat.le_refl _⟩) (fun st25 μc25 hp25 => ?_)
                obtain ⟨rfl, hTc25, ef25⟩ := hp25
                have ef := ef25
                refine pm_blk hK zmm21 [] 1 124 [(2, 1), (0, w), (0, s), (0, v), (2, 3)] [(0, 1)] μc25 [] rfl trivial ?_
                exact pm_zret rfl rfl (by first | exact Or.inl rfl | exact Or.inr rfl | omega) ⟨by rw [zStC_y (by omega)], hTc25, zKC_forget hq ef⟩
        · have h25 : w = (1 : Int) := h25
          refine pm_blk hK zmm21 [] 2 51 [(2, 1), (0, w), (0, s), (0, v), (2, 3)] [(0, s), (2, 3)] μ [] rfl trivial ?_
          refine pm_call hK zmm21 (113, 0, 23, 1) zM23 (0, 0) [(2, 3), (0, s)] [] rfl rfl rfl rfl ⟨by omega, by rw [zn23]; omega⟩ (zh_isCu3 hK ⟨Nat.le_refl _, Nat.le_refl _⟩) (fun st26 μc26 hp26 => ?_)
          obtain ⟨rfl, rfl⟩ := hp26
          refine pm_if hK zmm21 .eq 25 79 rfl rfl (fun h29 => ?_) (fun h29 => ?_)
          · have h29 : (if 0 ≤ s ∧ s < μ 3 1 then 1 else 0 : Int) = (0 : Int) := h29
            have h29 := zif0 h29
            refine pm_blk hK zmm21 [] 2 81 [(2, 1), (0, w), (0, s), (0, v), (2, 3)] [(0, 2), (0, w)] μ [] rfl trivial ?_
            refine pm_icmp hK zmm21 .ne 33 114 rfl rfl (fun h30 => ?_) (fun h30 => ?_)
            · have h30 : w ≠ (2 : Int) := h30
              refine pm_blk hK zmm21 [] 1 115 [(2, 1), (0, w), (0, s), (0, v), (2, 3)] [(0, 0)] μ [] rfl trivial ?_
              exact pm_zret rfl rfl (by first | exact Or.inl rfl | exact Or.inr rfl | omega) ⟨by rw [zStC_n (by omega)], hT, zKC_refl⟩
            · have h30 : w = (2 : Int) := h30
              refine pm_blk hK zmm21 [] 2 87 [(2, 1), (0, w), (0, s), (0, v), (2, 3)] [(0, s), (2, 3)] μ [] rfl trivial ?_
              refine pm_call hK zmm21 (113, 0, 23, 1) zM23 (0, 0) [(2, 3), (0, s)] [] rfl rfl rfl rfl ⟨by omega, by rw [zn23]; omega⟩ (zh_isCu3 hK ⟨Nat.le_refl _, Nat.le_refl _⟩) (fun st27 μc27 hp27 => ?_)
              obtain ⟨rfl, rfl⟩ := hp27
              refine pm_if hK zmm21 .eq 24 114 rfl rfl (fun h31 => ?_) (fun h31 => ?_)
              · have h31 : (if 0 ≤ s ∧ s < μ 3 1 then 1 else 0 : Int) = (0 : Int) := h31
                have h31 := zif0 h31
                refine pm_blk hK zmm21 [] 1 115 [(2, 1), (0, w), (0, s), (0, v), (2, 3)] [(0, 0)] μ [] rfl trivial ?_
                exact pm_zret rfl rfl (by first | exact Or.inl rfl | exact Or.inr rfl | omega) ⟨by rw [zStC_n (by omega)], hT, zKC_refl⟩
              · have h31 : (if 0 ≤ s ∧ s < μ 3 1 then 1 else 0 : Int) ≠ (0 : Int) := h31
                have h31 := zif1 h31
                exact absurd h31 h29
          · have h29 : (if 0 ≤ s ∧ s < μ 3 1 then 1 else 0 : Int) ≠ (0 : Int) := h29
            have h29 := zif1 h29
            refine pm_blk hK zmm21 [] 3 62 [(2, 1), (0, w), (0, s), (0, v), (2, 3)] [(0, 9999), (0, 0), (0, v)] μ [] rfl trivial ?_
            refine pm_call hK zmm21 (94, 1, 16, 3) zM16 (0, 0) [(0, v), (0, 0), (0, 9999)] [] rfl rfl rfl rfl ⟨by omega, by rw [zn16]; omega⟩ (zh_within hK ⟨Nat.le_refl _, Nat.le_refl _⟩) (fun st28 μc28 hp28 => ?_)
            obtain ⟨rfl, rfl⟩ := hp28
            refine pm_if hK zmm21 .eq 14 79 rfl rfl (fun h32 => ?_) (fun h32 => ?_)
            · have h32 : (if 0 ≤ v ∧ v ≤ 9999 then 1 else 0 : Int) = (0 : Int) := h32
              have h32 := zif0 h32
              refine pm_blk hK zmm21 [] 2 81 [(2, 1), (0, w), (0, s), (0, v), (2, 3)] [(0, 2), (0, w)] μ [] rfl trivial ?_
              refine pm_icmp hK zmm21 .ne 33 114 rfl rfl (fun h33 => ?_) (fun h33 => ?_)
              · have h33 : w ≠ (2 : Int) := h33
                refine pm_blk hK zmm21 [] 1 115 [(2, 1), (0, w), (0, s), (0, v), (2, 3)] [(0, 0)] μ [] rfl trivial ?_
                exact pm_zret rfl rfl (by first | exact Or.inl rfl | exact Or.inr rfl | omega) ⟨by rw [zStC_n (by omega)], hT, zKC_refl⟩
              · have h33 : w = (2 : Int) := h33
                refine pm_blk hK zmm21 [] 2 87 [(2, 1), (0, w), (0, s), (0, v), (2, 3)] [(0, s), (2, 3)] μ [] rfl trivial ?_
                refine pm_call hK zmm21 (113, 0, 23, 1) zM23 (0, 0) [(2, 3), (0, s)] [] rfl rfl rfl rfl ⟨by omega, by rw [zn23]; omega⟩ (zh_isCu3 hK ⟨Nat.le_refl _, Nat.le_refl _⟩) (fun st29 μc29 hp29 => ?_)
                obtain ⟨rfl, rfl⟩ := hp29
                refine pm_if hK zmm21 .eq 24 114 rfl rfl (fun h34 => ?_) (fun h34 => ?_)
                · have h34 : (if 0 ≤ s ∧ s < μ 3 1 then 1 else 0 : Int) = (0 : Int) := h34
                  have h34 := zif0 h34
                  exact absurd h29 h34
                · have h34 : (if 0 ≤ s ∧ s < μ 3 1 then 1 else 0 : Int) ≠ (0 : Int) := h34
                  have h34 := zif1 h34
                  refine pm_blk hK zmm21 [] 3 97 [(2, 1), (0, w), (0, s), (0, v), (2, 3)] [(0, 9), (0, 0), (0, v)] μ [] rfl trivial ?_
                  refine pm_call hK zmm21 (94, 1, 16, 3) zM16 (0, 0) [(0, v), (0, 0), (0, 9)] [] rfl rfl rfl rfl ⟨by omega, by rw [zn16]; omega⟩ (zh_within hK ⟨Nat.le_refl _, Nat.le_refl _⟩) (fun st30 μc30 hp30 => ?_)
                  obtain ⟨rfl, rfl⟩ := hp30
                  refine pm_if hK zmm21 .eq 14 114 rfl rfl (fun h35 => ?_) (fun h35 => ?_)
                  · have h35 : (if 0 ≤ v ∧ v ≤ 9 then 1 else 0 : Int) = (0 : Int) := h35
                    have h35 := zif0 h35
                    refine pm_blk hK zmm21 [] 1 115 [(2, 1), (0, w), (0, s), (0, v), (2, 3)] [(0, 0)] μ [] rfl trivial ?_
                    exact pm_zret rfl rfl (by first | exact Or.inl rfl | exact Or.inr rfl | omega) ⟨by rw [zStC_n (by omega)], hT, zKC_refl⟩
                  · have h35 : (if 0 ≤ v ∧ v ≤ 9 then 1 else 0 : Int) ≠ (0 : Int) := h35
                    have h35 := zif1 h35
                    refine pm_blk hK zmm21 [] 5 111 [(2, 1), (0, w), (0, s), (0, v), (2, 3)] [] (pm_up μ 12 s v) [sx_bit Wm 12 = true, 0 ≤ s ∧ s < 18] rfl ⟨hb12, ⟨by omega, by omega⟩, trivial⟩ ?_
                    obtain ⟨μ8, eμ8⟩ : ∃ μ', μ' = pm_up μ 12 s v := ⟨_, rfl⟩
                    rw [← eμ8]
                    have hTμ8 : zTJ φ μ8 := by rw [eμ8]; exact zT_up hT zs12_0 rfl (i := s) (by omega) (by omega) (by omega) (by omega)
                    refine pm_blk hK zmm21 [] 1 116 [(2, 1), (0, w), (0, s), (0, v), (2, 3)] [] μ8 [] rfl trivial ?_
                    have hq : ∀ q ∈ zRo, μ8 q.1 (q.2 : Int) = μ q.1 (q.2 : Int) := fun q hq => by rw [eμ8, pm_up_off (by have d := (show ∀ q ∈ zRo, q.1 ≠ 5 ∧ q.1 ≠ 11 ∧ q.1 ≠ 12 by decide) q hq; first | exact d.1 | exact d.2.1 | exact d.2.2)]
                    refine pm_blk hK zmm21 [] 2 120 [(2, 1), (0, w), (0, s), (0, v), (2, 3)] [(2, 96)] μ8 [] rfl trivial ?_
                    refine pm_call hK zmm21 (91, 0, 14, 0) zM14 (0, 0) [(2, 96)] [] rfl rfl rfl rfl ⟨by omega, by rw [zn14]; omega⟩ (zh_forgetk hK hTμ8 hb96 ⟨Nat.le_refl _, Nat.le_refl _⟩) (fun st31 μc31 hp31 => ?_)
                    obtain ⟨rfl, hTc31, ef31⟩ := hp31
                    have ef := ef31
                    refine pm_blk hK zmm21 [] 1 124 [(2, 1), (0, w), (0, s), (0, v), (2, 3)] [(0, 1)] μc31 [] rfl trivial ?_
                    exact pm_zret rfl rfl (by first | exact Or.inl rfl | exact Or.inr rfl | omega) ⟨by rw [zStC_y (by omega)], hTc31, zKC_forget hq ef⟩
            · have h32 : (if 0 ≤ v ∧ v ≤ 9999 then 1 else 0 : Int) ≠ (0 : Int) := h32
              have h32 := zif1 h32
              refine pm_blk hK zmm21 [] 5 76 [(2, 1), (0, w), (0, s), (0, v), (2, 3)] [] (pm_up μ 11 s v) [sx_bit Wm 11 = true, 0 ≤ s ∧ s < 18] rfl ⟨hb11, ⟨by omega, by omega⟩, trivial⟩ ?_
              obtain ⟨μ9, eμ9⟩ : ∃ μ', μ' = pm_up μ 11 s v := ⟨_, rfl⟩
              rw [← eμ9]
              have hTμ9 : zTJ φ μ9 := by rw [eμ9]; exact zT_up hT zs11_0 rfl (i := s) (by omega) (by omega) (by omega) (by omega)
              refine pm_blk hK zmm21 [] 1 116 [(2, 1), (0, w), (0, s), (0, v), (2, 3)] [] μ9 [] rfl trivial ?_
              have hq : ∀ q ∈ zRo, μ9 q.1 (q.2 : Int) = μ q.1 (q.2 : Int) := fun q hq => by rw [eμ9, pm_up_off (by have d := (show ∀ q ∈ zRo, q.1 ≠ 5 ∧ q.1 ≠ 11 ∧ q.1 ≠ 12 by decide) q hq; first | exact d.1 | exact d.2.1 | exact d.2.2)]
              refine pm_blk hK zmm21 [] 2 120 [(2, 1), (0, w), (0, s), (0, v), (2, 3)] [(2, 96)] μ9 [] rfl trivial ?_
              refine pm_call hK zmm21 (91, 0, 14, 0) zM14 (0, 0) [(2, 96)] [] rfl rfl rfl rfl ⟨by omega, by rw [zn14]; omega⟩ (zh_forgetk hK hTμ9 hb96 ⟨Nat.le_refl _, Nat.le_refl _⟩) (fun st32 μc32 hp32 => ?_)
              obtain ⟨rfl, hTc32, ef32⟩ := hp32
              have ef := ef32
              refine pm_blk hK zmm21 [] 1 124 [(2, 1), (0, w), (0, s), (0, v), (2, 3)] [(0, 1)] μc32 [] rfl trivial ?_
              exact pm_zret rfl rfl (by first | exact Or.inl rfl | exact Or.inr rfl | omega) ⟨by rw [zStC_y (by omega)], hTc32, zKC_forget hq ef⟩
      · have h24 : (if 1 ≤ v ∧ v ≤ 99 then 1 else 0 : Int) ≠ (0 : Int) := h24
        have h24 := zif1 h24
        refine pm_blk hK zmm21 [] 5 40 [(2, 1), (0, w), (0, s), (0, v), (2, 3)] [] (pm_up μ 5 s v) [sx_bit Wm 5 = true, 0 ≤ s ∧ s < 12] rfl ⟨hb5, ⟨by omega, by omega⟩, trivial⟩ ?_
        obtain ⟨μ10, eμ10⟩ : ∃ μ', μ' = pm_up μ 5 s v := ⟨_, rfl⟩
        rw [← eμ10]
        have hTμ10 : zTJ φ μ10 := by rw [eμ10]; exact zT_up hT zs5_0 rfl (i := s) (by omega) (by omega) (by omega) (by omega)
        refine pm_blk hK zmm21 [] 1 116 [(2, 1), (0, w), (0, s), (0, v), (2, 3)] [] μ10 [] rfl trivial ?_
        have hq : ∀ q ∈ zRo, μ10 q.1 (q.2 : Int) = μ q.1 (q.2 : Int) := fun q hq => by rw [eμ10, pm_up_off (by have d := (show ∀ q ∈ zRo, q.1 ≠ 5 ∧ q.1 ≠ 11 ∧ q.1 ≠ 12 by decide) q hq; first | exact d.1 | exact d.2.1 | exact d.2.2)]
        refine pm_blk hK zmm21 [] 2 120 [(2, 1), (0, w), (0, s), (0, v), (2, 3)] [(2, 96)] μ10 [] rfl trivial ?_
        refine pm_call hK zmm21 (91, 0, 14, 0) zM14 (0, 0) [(2, 96)] [] rfl rfl rfl rfl ⟨by omega, by rw [zn14]; omega⟩ (zh_forgetk hK hTμ10 hb96 ⟨Nat.le_refl _, Nat.le_refl _⟩) (fun st33 μc33 hp33 => ?_)
        obtain ⟨rfl, hTc33, ef33⟩ := hp33
        have ef := ef33
        refine pm_blk hK zmm21 [] 1 124 [(2, 1), (0, w), (0, s), (0, v), (2, 3)] [(0, 1)] μc33 [] rfl trivial ?_
        exact pm_zret rfl rfl (by first | exact Or.inl rfl | exact Or.inr rfl | omega) ⟨by rw [zStC_y (by omega)], hTc33, zKC_forget hq ef⟩
set_option maxRecDepth 100000 in
theorem zh_opk (hK : zKK ST) {s : Int} (hT : zTJ φ μ) (hs : 0 ≤ s ∧ s ≤ 11) (hb7 : sx_bit Wm 7 = true) (hb8 : sx_bit Wm 8 = true) (hb9 : sx_bit Wm 9 = true) (hbd : 0 ≤ bud.1 ∧ 0 ≤ bud.2.1) : zC D Wm ST b0 l Sg zM18 bud [(2, 3), (0, s)] μ (fun st' μ' => st' = [] ∧ zTJ φ μ' ∧ zKC μ μ') := by
  have hA : zKC μ μ := zKC_refl
  refine pm_blk hK zmm18 [] 5 7 [(2, 3), (0, s)] [] (pm_up μ 7 s 1) [sx_bit Wm 7 = true, 0 ≤ s ∧ s < 12] rfl ⟨hb7, ⟨by omega, by omega⟩, trivial⟩ ?_
  obtain ⟨μ1, eμ1⟩ : ∃ μ', μ' = pm_up μ 7 s 1 := ⟨_, rfl⟩
  rw [← eμ1]
  have hTμ1 : zTJ φ μ1 := by rw [eμ1]; exact zT_up hT zs7_0 rfl (i := s) (by omega) (by omega) (by omega) (by omega)
  have hA : zKC μ μ1 := by rw [eμ1]; exact zKC_up hA (by decide)
  refine pm_blk hK zmm18 [] 5 14 [(2, 3), (0, s)] [] (pm_up μ1 8 s ((-1))) [sx_bit Wm 8 = true, 0 ≤ s ∧ s < 12] rfl ⟨hb8, ⟨by omega, by omega⟩, trivial⟩ ?_
  obtain ⟨μ2, eμ2⟩ : ∃ μ', μ' = pm_up μ1 8 s ((-1)) := ⟨_, rfl⟩
  rw [← eμ2]
  have hTμ2 : zTJ φ μ2 := by rw [eμ2]; exact zT_up hTμ1 zs8_0 rfl (i := s) (by omega) (by omega) (by omega) (by omega)
  have hA : zKC μ μ2 := by rw [eμ2]; exact zKC_up hA (by decide)
  refine pm_blk hK zmm18 [] 5 21 [(2, 3), (0, s)] [] (pm_up μ2 9 s ((-1))) [sx_bit Wm 9 = true, 0 ≤ s ∧ s < 12] rfl ⟨hb9, ⟨by omega, by omega⟩, trivial⟩ ?_
  obtain ⟨μ3, eμ3⟩ : ∃ μ', μ' = pm_up μ2 9 s ((-1)) := ⟨_, rfl⟩
  rw [← eμ3]
  have hTμ3 : zTJ φ μ3 := by rw [eμ3]; exact zT_up hTμ2 zs9_0 rfl (i := s) (by omega) (by omega) (by omega) (by omega)
  have hA : zKC μ μ3 := by rw [eμ3]; exact zKC_up hA (by decide)
  exact pm_vret rfl rfl ⟨rfl, hTμ3, hA⟩
end ZHW
