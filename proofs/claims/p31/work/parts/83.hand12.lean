/-! cheaply; walks printed by program (wip/p30/pmgen.py) and filled by hand -/
section ZHW
variable {D : va_G} {Wm : Nat} {ST : List (String × String × String × Nat)} {b0 : sx_B} {l : Launch} {Sg : Nat → Option Nat} {bud : sx_Bu} {μ : pm_Mem} {B0 : Nat → Prop} {J : (Nat → Option Nat) → Heap → Prop}
set_option maxRecDepth 100000 in
theorem zh_cheaply (hK : zKK ST) {q : Int} (hw : sx_Wd zNR zRT2 B0 Sg) (hC459 : zCK D ST B0 l Sg zC459) (hs459 : sx_subm zC459.2.2.2.2.2 Wm = true) (hq : pm_in q) (hT : zTJ μ) (hb205 : sx_bit Wm 205 = true) (hb227 : sx_bit Wm 227 = true) (hbd : 7 ≤ bud.1 ∧ 160 ≤ bud.2.1) : zC D Wm ST (sx_bW zRT2 Wm B0 Sg, J) l Sg zM166 bud [(2, 205), (0, q)] μ (fun st' μ' => ∃ x, st' = [(0, x)] ∧ -1 ≤ x ∧ x ≤ 100000000 ∧ zTJ μ') := by
  refine pm_blk hK zmm166 [] 3 5 [(2, 205), (0, q), (9, 0), (9, 0)] [] (pm_up μ 205 0 0) [sx_bit Wm 205 = true] rfl ⟨hb205, trivial⟩ ?_
  obtain ⟨μ1, eμ1⟩ : ∃ μ', μ' = pm_up μ 205 0 0 := ⟨_, rfl⟩
  rw [← eμ1]
  have hTμ1 : zTJ μ1 := by rw [eμ1]; exact zT_up hT zs205_0 rfl (i := 0) (by omega) (by omega) (by omega) (by omega)
  refine pm_blk hK zmm166 [] 1 6 [(2, 205), (0, q), (9, 0), (9, 0)] [(0, q)] μ1 [] rfl trivial ?_
  have hq : -2147483648 ≤ q ∧ q ≤ 2147483647 := hq
  refine pm_if hK zmm166 .eq 17 23 rfl rfl (fun h0 => ?_) (fun h0 => ?_)
  · have h0 : q = (0 : Int) := h0
    refine pm_blk hK zmm166 [] 1 24 [(2, 205), (0, q), (9, 0), (9, 0)] [(2, 205)] μ1 [] rfl trivial ?_
    refine pm_ccall hK zmm166 hC459 hw zGm_lt zJ_loc (424, 0, 167, 0) zM167 [(2, 205)] [] rfl rfl rfl rfl rfl ⟨by have e : zC459.2.2.2.1 = 6 := rfl; omega, by have e : zC459.2.2.2.2.1 = 137 := rfl; rw [zn167]; omega⟩ hs459 rfl (fun t ht => by cases ht; rfl) ⟨rfl, fun h => absurd h (by decide), fun _ => rfl, trivial⟩ (zTy_T hw hTμ1.1) hTμ1.2 (fun st1 μc1 hp1 hTt1 hJ1 hfr1 => ?_)
    obtain ⟨x1, rfl, hx1, hy1⟩ := hp1
    have hTc1 : zTJ μc1 := ⟨zTy_of hw hTt1, hJ1⟩
    have hx1 : 0 ≤ x1 := hx1
    have hy1 : x1 ≤ 255 := hy1
    refine pm_blk hK zmm166 [] 4 31 [(2, 205), (0, q), (0, x1), (9, 0)] [(0, 0), (0, x1), (2, 205)] μc1 [] rfl trivial ?_
    refine pm_call hK zmm166 (421, 0, 168, 2) zM168 (1, 22) [(2, 205), (0, x1), (0, 0)] [] rfl rfl rfl rfl ⟨by omega, by rw [zn168]; omega⟩ (zh_cheapest hK (w := x1) (t := 0) ⟨by omega, by omega⟩ ⟨by omega, by omega⟩ hTc1 hb227 ⟨Nat.le_refl _, Nat.le_refl _⟩) (fun st2 μc2 hp2 => ?_)
    obtain ⟨x2, rfl, hx2, hy2, hz2, hfc2, hTc2⟩ := hp2
    refine pm_blk hK zmm166 [] 3 39 [(2, 205), (0, q), (0, x1), (0, x2)] [(0, 100000000), (0, x2)] μc2 [] rfl trivial ?_
    refine pm_icmp hK zmm166 .ne 5 44 rfl rfl (fun h1 => ?_) (fun h1 => ?_)
    · have h1 : x2 ≠ (100000000 : Int) := h1
      refine pm_blk hK zmm166 [] 1 45 [(2, 205), (0, q), (0, x1), (0, x2)] [(0, q)] μc2 [] rfl trivial ?_
      refine pm_if hK zmm166 .ne 7 52 rfl rfl (fun h2 => ?_) (fun h2 => ?_)
      · have h2 : q ≠ (0 : Int) := h2
        refine pm_blk hK zmm166 [] 5 58 [(2, 205), (0, q), (0, x1), (0, x2)] [(0, q - 10), (0, x1), (2, 205)] μc2 [pm_in (q - 10)] rfl ⟨pm_in_mk (by omega) (by omega), trivial⟩ ?_
        refine pm_call hK zmm166 (417, 0, 169, 2) zM169 (0, 0) [(2, 205), (0, x1), (0, q - 10)] [] rfl rfl rfl rfl ⟨by omega, by rw [zn169]; omega⟩ (zh_has hK ⟨by omega, by omega⟩ ⟨by omega, by omega⟩ ⟨Nat.le_refl _, Nat.le_refl _⟩) (fun st3 μc3 hp3 => ?_)
        obtain ⟨rfl, rfl⟩ := hp3
        refine pm_if hK zmm166 .eq 16 77 rfl rfl (fun h3 => ?_) (fun h3 => ?_)
        · have h3 : (if x1.toNat.testBit (q - 10).toNat = true then 1 else 0 : Int) = (0 : Int) := h3
          have h3 := zif0 h3
          refine pm_blk hK zmm166 [] 1 78 [(2, 205), (0, q), (0, x1), (0, x2)] [(0, (-1))] μc2 [] rfl trivial ?_
          exact pm_iret rfl rfl ⟨_, rfl, by omega, by omega, hTc2⟩
        · have h3 : (if x1.toNat.testBit (q - 10).toNat = true then 1 else 0 : Int) ≠ (0 : Int) := h3
          have h3 := zif1 h3
          have hg2 : zGv (zcost μc2) (ztk 0) (μc2 205 7).toNat x1.toNat x2 := by
            have e1 : zcost μc2 = zcost μc1 := by unfold zcost; rw [hfc2 226 (by decide)]
            rw [e1, hfc2 205 (by decide)]
            exact hz2
          refine pm_blk hK zmm166 [] 6 71 [(2, 205), (0, q), (0, x1), (0, x2)] [(0, x2), (0, x1), (0, q - 10), (2, 205)] μc2 [pm_in (q - 10)] rfl ⟨pm_in_mk (by omega) (by omega), trivial⟩ ?_
          refine pm_call hK zmm166 (427, 0, 318, 3) zM318 (2, 47) [(2, 205), (0, q - 10), (0, x1), (0, x2)] [] rfl rfl rfl rfl ⟨by omega, by rw [zn318]; omega⟩ (zh_whomGets hK (sh := (q - 10)) (w := x1) (v := x2) ⟨by omega, by omega⟩ ⟨by omega, by omega⟩ hg2 hTc2 hb227 ⟨Nat.le_refl _, Nat.le_refl _⟩) (fun st4 μc4 hp4 => ?_)
          obtain ⟨x4, rfl, hx4, hy4, hTc4⟩ := hp4
          refine pm_blk hK zmm166 [] 1 78 [(2, 205), (0, q), (0, x1), (0, x2)] [(0, x4)] μc4 [] rfl trivial ?_
          exact pm_iret rfl rfl ⟨_, rfl, by omega, by omega, hTc4⟩
      · have h2 : q = (0 : Int) := h2
        refine pm_blk hK zmm166 [] 2 78 [(2, 205), (0, q), (0, x1), (0, x2)] [(0, x2)] μc2 [] rfl trivial ?_
        exact pm_iret rfl rfl ⟨_, rfl, by omega, by omega, hTc2⟩
    · have h1 : x2 = (100000000 : Int) := h1
      refine pm_blk hK zmm166 [] 1 43 [(2, 205), (0, q), (0, x1), (0, x2)] [(0, (-1))] μc2 [] rfl trivial ?_
      exact pm_iret rfl rfl ⟨_, rfl, by omega, by omega, hTc2⟩
  · have h0 : q ≠ (0 : Int) := h0
    refine pm_blk hK zmm166 [] 4 15 [(2, 205), (0, q), (9, 0), (9, 0)] [(0, 17), (0, 10), (0, q), (2, 205)] μ1 [] rfl trivial ?_
    refine pm_call hK zmm166 (158, 0, 129, 3) zM129 (0, 0) [(2, 205), (0, q), (0, 10), (0, 17)] [] rfl rfl rfl rfl ⟨by omega, by rw [zn129]; omega⟩ (zh_isIn hK ⟨by omega, by omega⟩) (fun st5 μc5 hp5 => ?_)
    obtain ⟨rfl, rfl⟩ := hp5
    refine pm_if hK zmm166 .ne 5 23 rfl rfl (fun h4 => ?_) (fun h4 => ?_)
    · have h4 : (if 10 ≤ q ∧ q ≤ 17 then 1 else 0 : Int) ≠ (0 : Int) := h4
      have h4 := zif1 h4
      refine pm_blk hK zmm166 [] 1 24 [(2, 205), (0, q), (9, 0), (9, 0)] [(2, 205)] μ1 [] rfl trivial ?_
      refine pm_ccall hK zmm166 hC459 hw zGm_lt zJ_loc (424, 0, 167, 0) zM167 [(2, 205)] [] rfl rfl rfl rfl rfl ⟨by have e : zC459.2.2.2.1 = 6 := rfl; omega, by have e : zC459.2.2.2.2.1 = 137 := rfl; rw [zn167]; omega⟩ hs459 rfl (fun t ht => by cases ht; rfl) ⟨rfl, fun h => absurd h (by decide), fun _ => rfl, trivial⟩ (zTy_T hw hTμ1.1) hTμ1.2 (fun st6 μc6 hp6 hTt6 hJ6 hfr6 => ?_)
      obtain ⟨x6, rfl, hx6, hy6⟩ := hp6
      have hTc6 : zTJ μc6 := ⟨zTy_of hw hTt6, hJ6⟩
      have hx6 : 0 ≤ x6 := hx6
      have hy6 : x6 ≤ 255 := hy6
      refine pm_blk hK zmm166 [] 4 31 [(2, 205), (0, q), (0, x6), (9, 0)] [(0, 0), (0, x6), (2, 205)] μc6 [] rfl trivial ?_
      refine pm_call hK zmm166 (421, 0, 168, 2) zM168 (1, 22) [(2, 205), (0, x6), (0, 0)] [] rfl rfl rfl rfl ⟨by omega, by rw [zn168]; omega⟩ (zh_cheapest hK (w := x6) (t := 0) ⟨by omega, by omega⟩ ⟨by omega, by omega⟩ hTc6 hb227 ⟨Nat.le_refl _, Nat.le_refl _⟩) (fun st7 μc7 hp7 => ?_)
      obtain ⟨x7, rfl, hx7, hy7, hz7, hfc7, hTc7⟩ := hp7
      refine pm_blk hK zmm166 [] 3 39 [(2, 205), (0, q), (0, x6), (0, x7)] [(0, 100000000), (0, x7)] μc7 [] rfl trivial ?_
      refine pm_icmp hK zmm166 .ne 5 44 rfl rfl (fun h5 => ?_) (fun h5 => ?_)
      · have h5 : x7 ≠ (100000000 : Int) := h5
        refine pm_blk hK zmm166 [] 1 45 [(2, 205), (0, q), (0, x6), (0, x7)] [(0, q)] μc7 [] rfl trivial ?_
        refine pm_if hK zmm166 .ne 7 52 rfl rfl (fun h6 => ?_) (fun h6 => ?_)
        · have h6 : q ≠ (0 : Int) := h6
          refine pm_blk hK zmm166 [] 5 58 [(2, 205), (0, q), (0, x6), (0, x7)] [(0, q - 10), (0, x6), (2, 205)] μc7 [pm_in (q - 10)] rfl ⟨pm_in_mk (by omega) (by omega), trivial⟩ ?_
          refine pm_call hK zmm166 (417, 0, 169, 2) zM169 (0, 0) [(2, 205), (0, x6), (0, q - 10)] [] rfl rfl rfl rfl ⟨by omega, by rw [zn169]; omega⟩ (zh_has hK ⟨by omega, by omega⟩ ⟨by omega, by omega⟩ ⟨Nat.le_refl _, Nat.le_refl _⟩) (fun st8 μc8 hp8 => ?_)
          obtain ⟨rfl, rfl⟩ := hp8
          refine pm_if hK zmm166 .eq 16 77 rfl rfl (fun h7 => ?_) (fun h7 => ?_)
          · have h7 : (if x6.toNat.testBit (q - 10).toNat = true then 1 else 0 : Int) = (0 : Int) := h7
            have h7 := zif0 h7
            refine pm_blk hK zmm166 [] 1 78 [(2, 205), (0, q), (0, x6), (0, x7)] [(0, (-1))] μc7 [] rfl trivial ?_
            exact pm_iret rfl rfl ⟨_, rfl, by omega, by omega, hTc7⟩
          · have h7 : (if x6.toNat.testBit (q - 10).toNat = true then 1 else 0 : Int) ≠ (0 : Int) := h7
            have h7 := zif1 h7
            have hg2 : zGv (zcost μc7) (ztk 0) (μc7 205 7).toNat x6.toNat x7 := by
              have e1 : zcost μc7 = zcost μc6 := by unfold zcost; rw [hfc7 226 (by decide)]
              rw [e1, hfc7 205 (by decide)]
              exact hz7
            refine pm_blk hK zmm166 [] 6 71 [(2, 205), (0, q), (0, x6), (0, x7)] [(0, x7), (0, x6), (0, q - 10), (2, 205)] μc7 [pm_in (q - 10)] rfl ⟨pm_in_mk (by omega) (by omega), trivial⟩ ?_
            refine pm_call hK zmm166 (427, 0, 318, 3) zM318 (2, 47) [(2, 205), (0, q - 10), (0, x6), (0, x7)] [] rfl rfl rfl rfl ⟨by omega, by rw [zn318]; omega⟩ (zh_whomGets hK (sh := (q - 10)) (w := x6) (v := x7) ⟨by omega, by omega⟩ ⟨by omega, by omega⟩ hg2 hTc7 hb227 ⟨Nat.le_refl _, Nat.le_refl _⟩) (fun st9 μc9 hp9 => ?_)
            obtain ⟨x9, rfl, hx9, hy9, hTc9⟩ := hp9
            refine pm_blk hK zmm166 [] 1 78 [(2, 205), (0, q), (0, x6), (0, x7)] [(0, x9)] μc9 [] rfl trivial ?_
            exact pm_iret rfl rfl ⟨_, rfl, by omega, by omega, hTc9⟩
        · have h6 : q = (0 : Int) := h6
          refine pm_blk hK zmm166 [] 2 78 [(2, 205), (0, q), (0, x6), (0, x7)] [(0, x7)] μc7 [] rfl trivial ?_
          exact pm_iret rfl rfl ⟨_, rfl, by omega, by omega, hTc7⟩
      · have h5 : x7 = (100000000 : Int) := h5
        refine pm_blk hK zmm166 [] 1 43 [(2, 205), (0, q), (0, x6), (0, x7)] [(0, (-1))] μc7 [] rfl trivial ?_
        exact pm_iret rfl rfl ⟨_, rfl, by omega, by omega, hTc7⟩
    · have h4 : (if 10 ≤ q ∧ q ≤ 17 then 1 else 0 : Int) = (0 : Int) := h4
      have h4 := zif0 h4
      refine pm_blk hK zmm166 [] 1 22 [(2, 205), (0, q), (9, 0), (9, 0)] [(0, (-1))] μ1 [] rfl trivial ?_
      exact pm_iret rfl rfl ⟨_, rfl, by omega, by omega, hTμ1⟩
end ZHW
