/-! the tape: what keeps how long it is; walks printed by program (wip/p30/pmgen.py) and filled by hand -/
section ZHW
variable {φ : Option pm_Mem}
variable {D : va_G} {Wm : Nat} {ST : List (String × String × String × Nat)} {b0 : sx_B} {l : Launch} {Sg : Nat → Option Nat} {bud : sx_Bu} {μ : pm_Mem} {B0 : Nat → Prop} {J : (Nat → Option Nat) → Heap → Prop}
set_option maxRecDepth 100000 in
theorem zh_kind (hK : zKK ST) (hT : zTJ φ μ) (hbd : 0 ≤ bud.1 ∧ 0 ≤ bud.2.1) : zC D Wm ST b0 l Sg zM53 bud [(2, 88)] μ (fun st' μ' => μ = μ' ∧ ∃ x, st' = [(0, x)] ∧ 0 ≤ x ∧ x ≤ 327) := by
  have f1 := zT_get hT zs88_8 (i := 8) (by omega) (by omega)
  refine pm_blk hK zmm53 [] 2 4 [(2, 88)] [(0, μ 88 8)] μ [] rfl trivial ?_
  refine pm_if hK zmm53 .lt 26 30 rfl rfl (fun h0 => ?_) (fun h0 => ?_)
  · have h0 : μ 88 8 < (0 : Int) := h0
    refine pm_blk hK zmm53 [] 1 33 [(2, 88)] [(0, 257)] μ [] rfl trivial ?_
    exact pm_iret rfl rfl ⟨rfl, _, rfl, by omega, by omega⟩
  · have h0 : (0 : Int) ≤ μ 88 8 := h0
    have f2 := zT_get hT zs88_7 (i := 7) (by omega) (by omega)
    refine pm_blk hK zmm53 [] 4 15 [(2, 88)] [(0, μ 88 7), (0, μ 88 8)] μ [] rfl trivial ?_
    refine pm_icmp hK zmm53 .ge 15 30 rfl rfl (fun h1 => ?_) (fun h1 => ?_)
    · have h1 : μ 88 7 ≤ μ 88 8 := h1
      refine pm_blk hK zmm53 [] 1 33 [(2, 88)] [(0, 257)] μ [] rfl trivial ?_
      exact pm_iret rfl rfl ⟨rfl, _, rfl, by omega, by omega⟩
    · have h1 : μ 88 8 < μ 88 7 := h1
      have f3 := zT_get hT zs90_0 (i := μ 88 8) (by omega) (by omega)
      refine pm_blk hK zmm53 [] 6 33 [(2, 88)] [(0, μ 90 (μ 88 8))] μ [0 ≤ μ 88 8 ∧ μ 88 8 < 401] rfl ⟨⟨by omega, by omega⟩, trivial⟩ ?_
      exact pm_iret rfl rfl ⟨rfl, _, rfl, by omega, by omega⟩
set_option maxRecDepth 100000 in
theorem zh_clear (hK : zKK ST) (hT : zTJ φ μ) (hb93 : sx_bit Wm 93 = true) (hbd : 0 ≤ bud.1 ∧ 0 ≤ bud.2.1) : zC D Wm ST b0 l Sg zM50 bud [(2, 93)] μ (fun st' μ' => st' = [] ∧ zTJ φ μ') := by
  refine pm_blk hK zmm50 [] 3 5 [(2, 93)] [] (pm_up μ 93 2 0) [sx_bit Wm 93 = true] rfl ⟨hb93, trivial⟩ ?_
  obtain ⟨μ1, eμ1⟩ : ∃ μ', μ' = pm_up μ 93 2 0 := ⟨_, rfl⟩
  rw [← eμ1]
  have hTμ1 : zTJ φ μ1 := by rw [eμ1]; exact zT_up hT zs93_2 rfl (i := 2) (by omega) (by omega) (by omega) (by omega)
  refine pm_blk hK zmm50 [] 3 10 [(2, 93)] [] (pm_up μ1 93 3 0) [sx_bit Wm 93 = true] rfl ⟨hb93, trivial⟩ ?_
  obtain ⟨μ2, eμ2⟩ : ∃ μ', μ' = pm_up μ1 93 3 0 := ⟨_, rfl⟩
  rw [← eμ2]
  have hTμ2 : zTJ φ μ2 := by rw [eμ2]; exact zT_up hTμ1 zs93_3 rfl (i := 3) (by omega) (by omega) (by omega) (by omega)
  exact pm_vret rfl rfl ⟨rfl, hTμ2⟩
set_option maxRecDepth 100000 in
theorem zl_rdl (hK : zKK ST) {X : Nat → List pm_V → List pm_V → pm_Mem → Prop} {k : Int} (hk : 0 ≤ k ∧ k ≤ 3) (hw : sx_Wd zNR zRT2 B0 Sg) (hC277 : zCK φ D ST B0 l Sg zC277) (hs277 : sx_subm zC277.2.2.2.2.2 Wm = true) (hC284 : zCK φ D ST B0 l Sg zC284) (hs284 : sx_subm zC284.2.2.2.2.2 Wm = true) (hC309 : zCK φ D ST B0 l Sg zC309) (hs309 : sx_subm zC309.2.2.2.2.2 Wm = true) (hC314 : zCK φ D ST B0 l Sg zC314) (hs314 : sx_subm zC314.2.2.2.2.2 Wm = true) (hb93 : sx_bit Wm 93 = true) (K : ∀ (f : Int) (μ : pm_Mem), 0 ≤ f ∧ f ≤ 1 → zTJ φ μ → zW D Wm ST (sx_bW zRT2 Wm B0 Sg, J) l Sg zM49 bud X 134 [(2, 88), (0, k), (2, 3), (0, f), (9, 0)] [] μ) (hbd : 70 ≤ bud.1 ∧ 1560 ≤ bud.2.1) : ∀ (n : Nat) {f i : Int} {μ : pm_Mem}, (17 - i).toNat = n → ∀ (hf : 0 ≤ f ∧ f ≤ 1) (hi : 0 ≤ i ∧ i ≤ 17) (hT : zTJ φ μ), zW D Wm ST (sx_bW zRT2 Wm B0 Sg, J) l Sg zM49 bud X 41 [(2, 88), (0, k), (2, 3), (0, f), (0, i)] [] μ := by
  intro n
  induction n using Nat.strongRecOn with
  | ind n ih =>
    intro f i μ hn hf hi hT
    refine pm_blk hK zmm49 [124] 2 45 [(2, 88), (0, k), (2, 3), (0, f), (0, i)] [(0, 16), (0, i)] μ [] rfl trivial ?_
    refine pm_icmp hK zmm49 .gt 89 134 rfl rfl (fun h0 => ?_) (fun h0 => ?_)
    · have h0 : (16 : Int) < i := h0
      refine pm_hide [4] ?_
      exact K _ _ ⟨by omega, by omega⟩ hT
    · have h0 : i ≤ (16 : Int) := h0
      refine pm_blk hK zmm49 [124] 1 49 [(2, 88), (0, k), (2, 3), (0, f), (0, i)] [(0, f)] μ [] rfl trivial ?_
      refine pm_if hK zmm49 .eq 85 134 rfl rfl (fun h1 => ?_) (fun h1 => ?_)
      · have h1 : f = (0 : Int) := h1
        refine pm_hide [4] ?_
        exact K _ _ ⟨by omega, by omega⟩ hT
      · have h1 : f ≠ (0 : Int) := h1
        refine pm_blk hK zmm49 [124] 1 53 [(2, 88), (0, k), (2, 3), (0, f), (0, i)] [(2, 88)] μ [] rfl trivial ?_
        refine pm_call hK zmm49 (70, 0, 53, 0) zM53 (0, 0) [(2, 88)] [] rfl rfl rfl rfl ⟨by omega, by rw [zn53]; omega⟩ (zh_kind hK hT ⟨Nat.le_refl _, Nat.le_refl _⟩) (fun st1 μc1 hp1 => ?_)
        obtain ⟨rfl, x1, rfl, hx1, hy1⟩ := hp1
        refine pm_blk hK zmm49 [124] 1 59 [(2, 88), (0, k), (2, 3), (0, f), (0, i)] [(0, 257), (0, x1)] μ [] rfl trivial ?_
        refine pm_icmp hK zmm49 .eq 75 134 rfl rfl (fun h2 => ?_) (fun h2 => ?_)
        · have h2 : x1 = (257 : Int) := h2
          refine pm_hide [4] ?_
          exact K _ _ ⟨by omega, by omega⟩ hT
        · have h2 : x1 ≠ (257 : Int) := h2
          refine pm_blk hK zmm49 [124] 2 64 [(2, 88), (0, k), (2, 3), (0, f), (0, i)] [(0, k), (2, 88)] μ [] rfl trivial ?_
          refine pm_ccall hK zmm49 hC277 hw zGm_lt zJ_loc (74, 0, 241, 1) zM241 [(2, 88), (0, k)] [] rfl rfl rfl rfl rfl ⟨by have e : zC277.2.2.2.1 = 2 := rfl; omega, by have e : zC277.2.2.2.2.1 = 45 := rfl; rw [zn241]; omega⟩ hs277 rfl (fun t ht => by cases ht; rfl) ⟨rfl, fun h => absurd h (by decide), fun _ => rfl, rfl, fun _ => ⟨by show (0 : Int) ≤ _; omega, by show _ ≤ (3 : Int); omega⟩, fun h => absurd h (by decide), trivial⟩ (zTy_T hw hT.1) hT.2 (fun st2 μc2 hp2 hTt2 hJ2 hfr2 => ?_)
          obtain ⟨x2, rfl, hx2, hy2⟩ := hp2
          have hTc2 : zTJ φ μc2 := ⟨zTy_of hw hTt2, hJ2⟩
          have hx2 : 0 ≤ x2 := hx2
          have hy2 : x2 ≤ 1 := hy2
          refine pm_if hK zmm49 .eq 38 105 rfl rfl (fun h3 => ?_) (fun h3 => ?_)
          · have h3 : x2 = (0 : Int) := h3
            have f1 := zT_get hTc2 zs93_2 (i := 2) (by omega) (by omega)
            refine pm_blk hK zmm49 [124] 7 116 [(2, 88), (0, k), (2, 3), (0, 0), (0, i)] [(0, 0), (0, μc2 93 2), (2, 93)] μc2 [] rfl trivial ?_
            refine pm_if hK zmm49 .eq 7 123 rfl rfl (fun h4 => ?_) (fun h4 => ?_)
            · have h4 : (0 : Int) = (0 : Int) := h4
              have w2 := zw32 ((μc2 93 2) + 0)
              refine pm_blk hK zmm49 [124] 3 128 [(2, 88), (0, k), (2, 3), (0, 0), (0, i)] [] (pm_up μc2 93 2 (pm_w32 ((μc2 93 2) + 0))) [sx_bit Wm 93 = true] rfl ⟨hb93, trivial⟩ ?_
              obtain ⟨μ1, eμ1⟩ : ∃ μ', μ' = pm_up μc2 93 2 (pm_w32 ((μc2 93 2) + 0)) := ⟨_, rfl⟩
              rw [← eμ1]
              have hTμ1 : zTJ φ μ1 := by rw [eμ1]; exact zT_up hTc2 zs93_2 rfl (i := 2) (by omega) (by omega) (by omega) (by omega)
              refine pm_blk hK zmm49 [124] 2 41 [(2, 88), (0, k), (2, 3), (0, 0), (0, i + 1)] [] μ1 [pm_in (i + 1)] rfl ⟨pm_in_mk (by omega) (by omega), trivial⟩ ?_
              exact ih _ (by omega) rfl ⟨by omega, by omega⟩ ⟨by omega, by omega⟩ hTμ1
            · have h4 : (0 : Int) ≠ (0 : Int) := h4
              exact absurd h4 (by decide)
          · have h3 : x2 ≠ (0 : Int) := h3
            refine pm_blk hK zmm49 [124] 1 71 [(2, 88), (0, k), (2, 3), (0, f), (0, i)] [(0, k)] μc2 [] rfl trivial ?_
            refine pm_if hK zmm49 .ne 13 84 rfl rfl (fun h5 => ?_) (fun h5 => ?_)
            · have h5 : k ≠ (0 : Int) := h5
              refine pm_blk hK zmm49 [124] 2 86 [(2, 88), (0, k), (2, 3), (0, f), (0, i)] [(0, k), (2, 88)] μc2 [] rfl trivial ?_
              refine pm_ccall hK zmm49 hC314 hw zGm_lt zJ_loc (82, 0, 255, 1) zM255 [(2, 88), (0, k)] [] rfl rfl rfl rfl rfl ⟨by have e : zC314.2.2.2.1 = 6 := rfl; omega, by have e : zC314.2.2.2.2.1 = 134 := rfl; rw [zn255]; omega⟩ hs314 rfl (fun t ht => by cases ht; rfl) ⟨rfl, fun h => absurd h (by decide), fun _ => rfl, rfl, fun _ => ⟨by show (1 : Int) ≤ _; omega, by show _ ≤ (3 : Int); omega⟩, fun h => absurd h (by decide), trivial⟩ (zTy_T hw hTc2.1) hTc2.2 (fun st3 μc3 hp3 hTt3 hJ3 hfr3 => ?_)
              obtain ⟨x3, rfl, hx3, hy3⟩ := hp3
              have hTc3 : zTJ φ μc3 := ⟨zTy_of hw hTt3, hJ3⟩
              have hx3 : 0 ≤ x3 := hx3
              have hy3 : x3 ≤ 1 := hy3
              refine pm_if hK zmm49 .eq 16 105 rfl rfl (fun h6 => ?_) (fun h6 => ?_)
              · have h6 : x3 = (0 : Int) := h6
                have f3 := zT_get hTc3 zs93_2 (i := 2) (by omega) (by omega)
                refine pm_blk hK zmm49 [124] 7 116 [(2, 88), (0, k), (2, 3), (0, 0), (0, i)] [(0, 0), (0, μc3 93 2), (2, 93)] μc3 [] rfl trivial ?_
                refine pm_if hK zmm49 .eq 7 123 rfl rfl (fun h7 => ?_) (fun h7 => ?_)
                · have h7 : (0 : Int) = (0 : Int) := h7
                  have w4 := zw32 ((μc3 93 2) + 0)
                  refine pm_blk hK zmm49 [124] 3 128 [(2, 88), (0, k), (2, 3), (0, 0), (0, i)] [] (pm_up μc3 93 2 (pm_w32 ((μc3 93 2) + 0))) [sx_bit Wm 93 = true] rfl ⟨hb93, trivial⟩ ?_
                  obtain ⟨μ2, eμ2⟩ : ∃ μ', μ' = pm_up μc3 93 2 (pm_w32 ((μc3 93 2) + 0)) := ⟨_, rfl⟩
                  rw [← eμ2]
                  have hTμ2 : zTJ φ μ2 := by rw [eμ2]; exact zT_up hTc3 zs93_2 rfl (i := 2) (by omega) (by omega) (by omega) (by omega)
                  refine pm_blk hK zmm49 [124] 2 41 [(2, 88), (0, k), (2, 3), (0, 0), (0, i + 1)] [] μ2 [pm_in (i + 1)] rfl ⟨pm_in_mk (by omega) (by omega), trivial⟩ ?_
                  exact ih _ (by omega) rfl ⟨by omega, by omega⟩ ⟨by omega, by omega⟩ hTμ2
                · have h7 : (0 : Int) ≠ (0 : Int) := h7
                  exact absurd h7 (by decide)
              · have h6 : x3 ≠ (0 : Int) := h6
                refine pm_blk hK zmm49 [124] 2 95 [(2, 88), (0, k), (2, 3), (0, f), (0, i)] [(0, 59), (2, 88)] μc3 [] rfl trivial ?_
                refine pm_ccall hK zmm49 hC284 hw zGm_lt zJ_loc (85, 0, 254, 1) zM254 [(2, 88), (0, 59)] [] rfl rfl rfl rfl rfl ⟨by have e : zC284.2.2.2.1 = 1 := rfl; omega, by have e : zC284.2.2.2.2.1 = 21 := rfl; rw [zn254]; omega⟩ hs284 rfl (fun t ht => by cases ht; rfl) ⟨rfl, fun h => absurd h (by decide), fun _ => rfl, rfl, fun _ => ⟨by show (41 : Int) ≤ _; omega, by show _ ≤ (327 : Int); omega⟩, fun h => absurd h (by decide), trivial⟩ (zTy_T hw hTc3.1) hTc3.2 (fun st4 μc4 hp4 hTt4 hJ4 hfr4 => ?_)
                obtain ⟨x4, rfl, hx4, hy4⟩ := hp4
                have hTc4 : zTJ φ μc4 := ⟨zTy_of hw hTt4, hJ4⟩
                have hx4 : 0 ≤ x4 := hx4
                have hy4 : x4 ≤ 1 := hy4
                refine pm_if hK zmm49 .eq 7 105 rfl rfl (fun h8 => ?_) (fun h8 => ?_)
                · have h8 : x4 = (0 : Int) := h8
                  have f5 := zT_get hTc4 zs93_2 (i := 2) (by omega) (by omega)
                  refine pm_blk hK zmm49 [124] 7 116 [(2, 88), (0, k), (2, 3), (0, 0), (0, i)] [(0, 0), (0, μc4 93 2), (2, 93)] μc4 [] rfl trivial ?_
                  refine pm_if hK zmm49 .eq 7 123 rfl rfl (fun h9 => ?_) (fun h9 => ?_)
                  · have h9 : (0 : Int) = (0 : Int) := h9
                    have w6 := zw32 ((μc4 93 2) + 0)
                    refine pm_blk hK zmm49 [124] 3 128 [(2, 88), (0, k), (2, 3), (0, 0), (0, i)] [] (pm_up μc4 93 2 (pm_w32 ((μc4 93 2) + 0))) [sx_bit Wm 93 = true] rfl ⟨hb93, trivial⟩ ?_
                    obtain ⟨μ3, eμ3⟩ : ∃ μ', μ' = pm_up μc4 93 2 (pm_w32 ((μc4 93 2) + 0)) := ⟨_, rfl⟩
                    rw [← eμ3]
                    have hTμ3 : zTJ φ μ3 := by rw [eμ3]; exact zT_up hTc4 zs93_2 rfl (i := 2) (by omega) (by omega) (by omega) (by omega)
                    refine pm_blk hK zmm49 [124] 2 41 [(2, 88), (0, k), (2, 3), (0, 0), (0, i + 1)] [] μ3 [pm_in (i + 1)] rfl ⟨pm_in_mk (by omega) (by omega), trivial⟩ ?_
                    exact ih _ (by omega) rfl ⟨by omega, by omega⟩ ⟨by omega, by omega⟩ hTμ3
                  · have h9 : (0 : Int) ≠ (0 : Int) := h9
                    exact absurd h9 (by decide)
                · have h8 : x4 ≠ (0 : Int) := h8
                  have f7 := zT_get hTc4 zs93_2 (i := 2) (by omega) (by omega)
                  refine pm_blk hK zmm49 [124] 8 116 [(2, 88), (0, k), (2, 3), (0, 1), (0, i)] [(0, 1), (0, μc4 93 2), (2, 93)] μc4 [] rfl trivial ?_
                  refine pm_if hK zmm49 .eq 7 123 rfl rfl (fun h10 => ?_) (fun h10 => ?_)
                  · have h10 : (1 : Int) = (0 : Int) := h10
                    exact absurd h10 (by decide)
                  · have h10 : (1 : Int) ≠ (0 : Int) := h10
                    have w8 := zw32 ((μc4 93 2) + 1)
                    refine pm_blk hK zmm49 [124] 4 128 [(2, 88), (0, k), (2, 3), (0, 1), (0, i)] [] (pm_up μc4 93 2 (pm_w32 ((μc4 93 2) + 1))) [sx_bit Wm 93 = true] rfl ⟨hb93, trivial⟩ ?_
                    obtain ⟨μ4, eμ4⟩ : ∃ μ', μ' = pm_up μc4 93 2 (pm_w32 ((μc4 93 2) + 1)) := ⟨_, rfl⟩
                    rw [← eμ4]
                    have hTμ4 : zTJ φ μ4 := by rw [eμ4]; exact zT_up hTc4 zs93_2 rfl (i := 2) (by omega) (by omega) (by omega) (by omega)
                    refine pm_blk hK zmm49 [124] 2 41 [(2, 88), (0, k), (2, 3), (0, 1), (0, i + 1)] [] μ4 [pm_in (i + 1)] rfl ⟨pm_in_mk (by omega) (by omega), trivial⟩ ?_
                    exact ih _ (by omega) rfl ⟨by omega, by omega⟩ ⟨by omega, by omega⟩ hTμ4
            · have h5 : k = (0 : Int) := h5
              refine pm_blk hK zmm49 [124] 1 75 [(2, 88), (0, k), (2, 3), (0, f), (0, i)] [(2, 88)] μc2 [] rfl trivial ?_
              refine pm_ccall hK zmm49 hC309 hw zGm_lt zJ_loc (78, 0, 244, 0) zM244 [(2, 88)] [] rfl rfl rfl rfl rfl ⟨by have e : zC309.2.2.2.1 = 68 := rfl; omega, by have e : zC309.2.2.2.2.1 = 1505 := rfl; rw [zn244]; omega⟩ hs309 rfl (fun t ht => by cases ht; rfl) ⟨rfl, fun h => absurd h (by decide), fun _ => rfl, trivial⟩ (zTy_T hw hTc2.1) hTc2.2 (fun st5 μc5 hp5 hTt5 hJ5 hfr5 => ?_)
              obtain ⟨x5, rfl, hx5, hy5⟩ := hp5
              have hTc5 : zTJ φ μc5 := ⟨zTy_of hw hTt5, hJ5⟩
              have hx5 : 0 ≤ x5 := hx5
              have hy5 : x5 ≤ 1 := hy5
              refine pm_if hK zmm49 .eq 27 105 rfl rfl (fun h11 => ?_) (fun h11 => ?_)
              · have h11 : x5 = (0 : Int) := h11
                have f9 := zT_get hTc5 zs93_2 (i := 2) (by omega) (by omega)
                refine pm_blk hK zmm49 [124] 7 116 [(2, 88), (0, k), (2, 3), (0, 0), (0, i)] [(0, 0), (0, μc5 93 2), (2, 93)] μc5 [] rfl trivial ?_
                refine pm_if hK zmm49 .eq 7 123 rfl rfl (fun h12 => ?_) (fun h12 => ?_)
                · have h12 : (0 : Int) = (0 : Int) := h12
                  have w10 := zw32 ((μc5 93 2) + 0)
                  refine pm_blk hK zmm49 [124] 3 128 [(2, 88), (0, k), (2, 3), (0, 0), (0, i)] [] (pm_up μc5 93 2 (pm_w32 ((μc5 93 2) + 0))) [sx_bit Wm 93 = true] rfl ⟨hb93, trivial⟩ ?_
                  obtain ⟨μ5, eμ5⟩ : ∃ μ', μ' = pm_up μc5 93 2 (pm_w32 ((μc5 93 2) + 0)) := ⟨_, rfl⟩
                  rw [← eμ5]
                  have hTμ5 : zTJ φ μ5 := by rw [eμ5]; exact zT_up hTc5 zs93_2 rfl (i := 2) (by omega) (by omega) (by omega) (by omega)
                  refine pm_blk hK zmm49 [124] 2 41 [(2, 88), (0, k), (2, 3), (0, 0), (0, i + 1)] [] μ5 [pm_in (i + 1)] rfl ⟨pm_in_mk (by omega) (by omega), trivial⟩ ?_
                  exact ih _ (by omega) rfl ⟨by omega, by omega⟩ ⟨by omega, by omega⟩ hTμ5
                · have h12 : (0 : Int) ≠ (0 : Int) := h12
                  exact absurd h12 (by decide)
              · have h11 : x5 ≠ (0 : Int) := h11
                refine pm_blk hK zmm49 [124] 3 95 [(2, 88), (0, k), (2, 3), (0, f), (0, i)] [(0, 59), (2, 88)] μc5 [] rfl trivial ?_
                refine pm_ccall hK zmm49 hC284 hw zGm_lt zJ_loc (85, 0, 254, 1) zM254 [(2, 88), (0, 59)] [] rfl rfl rfl rfl rfl ⟨by have e : zC284.2.2.2.1 = 1 := rfl; omega, by have e : zC284.2.2.2.2.1 = 21 := rfl; rw [zn254]; omega⟩ hs284 rfl (fun t ht => by cases ht; rfl) ⟨rfl, fun h => absurd h (by decide), fun _ => rfl, rfl, fun _ => ⟨by show (41 : Int) ≤ _; omega, by show _ ≤ (327 : Int); omega⟩, fun h => absurd h (by decide), trivial⟩ (zTy_T hw hTc5.1) hTc5.2 (fun st6 μc6 hp6 hTt6 hJ6 hfr6 => ?_)
                obtain ⟨x6, rfl, hx6, hy6⟩ := hp6
                have hTc6 : zTJ φ μc6 := ⟨zTy_of hw hTt6, hJ6⟩
                have hx6 : 0 ≤ x6 := hx6
                have hy6 : x6 ≤ 1 := hy6
                refine pm_if hK zmm49 .eq 7 105 rfl rfl (fun h13 => ?_) (fun h13 => ?_)
                · have h13 : x6 = (0 : Int) := h13
                  have f11 := zT_get hTc6 zs93_2 (i := 2) (by omega) (by omega)
                  refine pm_blk hK zmm49 [124] 7 116 [(2, 88), (0, k), (2, 3), (0, 0), (0, i)] [(0, 0), (0, μc6 93 2), (2, 93)] μc6 [] rfl trivial ?_
                  refine pm_if hK zmm49 .eq 7 123 rfl rfl (fun h14 => ?_) (fun h14 => ?_)
                  · have h14 : (0 : Int) = (0 : Int) := h14
                    have w12 := zw32 ((μc6 93 2) + 0)
                    refine pm_blk hK zmm49 [124] 3 128 [(2, 88), (0, k), (2, 3), (0, 0), (0, i)] [] (pm_up μc6 93 2 (pm_w32 ((μc6 93 2) + 0))) [sx_bit Wm 93 = true] rfl ⟨hb93, trivial⟩ ?_
                    obtain ⟨μ6, eμ6⟩ : ∃ μ', μ' = pm_up μc6 93 2 (pm_w32 ((μc6 93 2) + 0)) := ⟨_, rfl⟩
                    rw [← eμ6]
                    have hTμ6 : zTJ φ μ6 := by rw [eμ6]; exact zT_up hTc6 zs93_2 rfl (i := 2) (by omega) (by omega) (by omega) (by omega)
                    refine pm_blk hK zmm49 [124] 2 41 [(2, 88), (0, k), (2, 3), (0, 0), (0, i + 1)] [] μ6 [pm_in (i + 1)] rfl ⟨pm_in_mk (by omega) (by omega), trivial⟩ ?_
                    exact ih _ (by omega) rfl ⟨by omega, by omega⟩ ⟨by omega, by omega⟩ hTμ6
                  · have h14 : (0 : Int) ≠ (0 : Int) := h14
                    exact absurd h14 (by decide)
                · have h13 : x6 ≠ (0 : Int) := h13
                  have f13 := zT_get hTc6 zs93_2 (i := 2) (by omega) (by omega)
                  refine pm_blk hK zmm49 [124] 8 116 [(2, 88), (0, k), (2, 3), (0, 1), (0, i)] [(0, 1), (0, μc6 93 2), (2, 93)] μc6 [] rfl trivial ?_
                  refine pm_if hK zmm49 .eq 7 123 rfl rfl (fun h15 => ?_) (fun h15 => ?_)
                  · have h15 : (1 : Int) = (0 : Int) := h15
                    exact absurd h15 (by decide)
                  · have h15 : (1 : Int) ≠ (0 : Int) := h15
                    have w14 := zw32 ((μc6 93 2) + 1)
                    refine pm_blk hK zmm49 [124] 4 128 [(2, 88), (0, k), (2, 3), (0, 1), (0, i)] [] (pm_up μc6 93 2 (pm_w32 ((μc6 93 2) + 1))) [sx_bit Wm 93 = true] rfl ⟨hb93, trivial⟩ ?_
                    obtain ⟨μ7, eμ7⟩ : ∃ μ', μ' = pm_up μc6 93 2 (pm_w32 ((μc6 93 2) + 1)) := ⟨_, rfl⟩
                    rw [← eμ7]
                    have hTμ7 : zTJ φ μ7 := by rw [eμ7]; exact zT_up hTc6 zs93_2 rfl (i := 2) (by omega) (by omega) (by omega) (by omega)
                    refine pm_blk hK zmm49 [124] 2 41 [(2, 88), (0, k), (2, 3), (0, 1), (0, i + 1)] [] μ7 [pm_in (i + 1)] rfl ⟨pm_in_mk (by omega) (by omega), trivial⟩ ?_
                    exact ih _ (by omega) rfl ⟨by omega, by omega⟩ ⟨by omega, by omega⟩ hTμ7
set_option maxRecDepth 100000 in
theorem zh_txb0 (hK : zKK ST) {x : Int} (hw : sx_Wd zNR zRT2 B0 Sg) (hC321 : zCK φ D ST B0 l Sg zC321) (hs321 : sx_subm zC321.2.2.2.2.2 Wm = true) (hT : zTJ φ μ) (hb96 : sx_bit Wm 96 = true) (hbd : 4 ≤ bud.1 ∧ 140 ≤ bud.2.1) : zW D Wm ST (sx_bW zRT2 Wm B0 Sg, J) l Sg zM46 bud (pm_X zM46 (fun st' μ' => (∃ x, st' = [(0, x)]) ∧ zTJ φ μ')) 37 [(2, 1), (0, 0), (2, 17)] [(0, x)] μ := by
  refine pm_if hK zmm46 .ne 5 42 rfl rfl (fun h0 => ?_) (fun h0 => ?_)
  · have h0 : x ≠ (0 : Int) := h0
    refine pm_blk hK zmm46 [] 4 50 [(2, 1), (0, 0), (2, 17)] [(2, 93), (2, 17)] μ [] rfl trivial ?_
    refine pm_ccall hK zmm46 hC321 hw zGm_lt zJ_loc (191, 0, 54, 1) zM54 [(2, 17), (2, 93)] [] rfl rfl rfl rfl rfl ⟨by have e : zC321.2.2.2.1 = 2 := rfl; omega, by have e : zC321.2.2.2.2.1 = 101 := rfl; rw [zn54]; omega⟩ hs321 rfl (fun t ht => by cases ht) ⟨rfl, fun h => absurd h (by decide), fun _ => rfl, rfl, fun h => absurd h (by decide), fun _ => rfl, trivial⟩ (zTy_T hw hT.1) hT.2 (fun st1 μc1 hp1 hTt1 hJ1 hfr1 => ?_)
    obtain rfl := hp1
    have hTc1 : zTJ φ μc1 := ⟨zTy_of hw hTt1, hJ1⟩
    refine pm_blk hK zmm46 [] 2 55 [(2, 1), (0, 0), (2, 17)] [(0, 1), (0, 0)] μc1 [] rfl trivial ?_
    refine pm_icmp hK zmm46 .eq 8 63 rfl rfl (fun h1 => ?_) (fun h1 => ?_)
    · have h1 : (0 : Int) = (1 : Int) := h1
      exact absurd h1 (by decide)
    · have h1 : (0 : Int) ≠ (1 : Int) := h1
      refine pm_blk hK zmm46 [] 2 60 [(2, 1), (0, 0), (2, 17)] [(0, 2), (0, 0)] μc1 [] rfl trivial ?_
      refine pm_icmp hK zmm46 .ne 10 70 rfl rfl (fun h2 => ?_) (fun h2 => ?_)
      · have h2 : (0 : Int) ≠ (2 : Int) := h2
        have f1 := zT_get hTc1 zs17_2 (i := 2) (by omega) (by omega)
        refine pm_blk hK zmm46 [] 2 74 [(2, 1), (0, 0), (2, 17)] [(0, μc1 17 2)] μc1 [] rfl trivial ?_
        exact pm_iret rfl rfl ⟨⟨_, rfl⟩, hTc1⟩
      · have h2 : (0 : Int) = (2 : Int) := h2
        exact absurd h2 (by decide)
  · have h0 : x = (0 : Int) := h0
    refine pm_blk hK zmm46 [] 1 41 [(2, 1), (0, 0), (2, 17)] [(0, (-1))] μ [] rfl trivial ?_
    exact pm_iret rfl rfl ⟨⟨_, rfl⟩, hT⟩
set_option maxRecDepth 100000 in
theorem zh_txb1 (hK : zKK ST) {x : Int} (hw : sx_Wd zNR zRT2 B0 Sg) (hC322 : zCK φ D ST B0 l Sg zC322) (hs322 : sx_subm zC322.2.2.2.2.2 Wm = true) (hT : zTJ φ μ) (hb96 : sx_bit Wm 96 = true) (hbd : 4 ≤ bud.1 ∧ 140 ≤ bud.2.1) : zW D Wm ST (sx_bW zRT2 Wm B0 Sg, J) l Sg zM46 bud (pm_X zM46 (fun st' μ' => (∃ x, st' = [(0, x)]) ∧ zTJ φ μ')) 37 [(2, 1), (0, 1), (2, 20)] [(0, x)] μ := by
  refine pm_if hK zmm46 .ne 5 42 rfl rfl (fun h0 => ?_) (fun h0 => ?_)
  · have h0 : x ≠ (0 : Int) := h0
    refine pm_blk hK zmm46 [] 4 50 [(2, 1), (0, 1), (2, 20)] [(2, 93), (2, 20)] μ [] rfl trivial ?_
    refine pm_ccall hK zmm46 hC322 hw zGm_lt zJ_loc (191, 0, 54, 1) zM54 [(2, 20), (2, 93)] [] rfl rfl rfl rfl rfl ⟨by have e : zC322.2.2.2.1 = 2 := rfl; omega, by have e : zC322.2.2.2.2.1 = 101 := rfl; rw [zn54]; omega⟩ hs322 rfl (fun t ht => by cases ht) ⟨rfl, fun h => absurd h (by decide), fun _ => rfl, rfl, fun h => absurd h (by decide), fun _ => rfl, trivial⟩ (zTy_T hw hT.1) hT.2 (fun st1 μc1 hp1 hTt1 hJ1 hfr1 => ?_)
    obtain rfl := hp1
    have hTc1 : zTJ φ μc1 := ⟨zTy_of hw hTt1, hJ1⟩
    refine pm_blk hK zmm46 [] 2 55 [(2, 1), (0, 1), (2, 20)] [(0, 1), (0, 1)] μc1 [] rfl trivial ?_
    refine pm_icmp hK zmm46 .eq 8 63 rfl rfl (fun h1 => ?_) (fun h1 => ?_)
    · have h1 : (1 : Int) = (1 : Int) := h1
      refine pm_blk hK zmm46 [] 2 67 [(2, 1), (0, 1), (2, 20)] [(2, 96)] μc1 [] rfl trivial ?_
      refine pm_call hK zmm46 (91, 0, 14, 0) zM14 (0, 0) [(2, 96)] [] rfl rfl rfl rfl ⟨by omega, by rw [zn14]; omega⟩ (zh_forget hK hTc1 hb96 ⟨Nat.le_refl _, Nat.le_refl _⟩) (fun st2 μc2 hp2 => ?_)
      obtain ⟨rfl, hTc2, hFg2⟩ := hp2
      have hFg := hFg2
      have f1 := zT_get hTc2 zs20_2 (i := 2) (by omega) (by omega)
      refine pm_blk hK zmm46 [] 2 74 [(2, 1), (0, 1), (2, 20)] [(0, μc2 20 2)] μc2 [] rfl trivial ?_
      exact pm_iret rfl rfl ⟨⟨_, rfl⟩, hTc2⟩
    · have h1 : (1 : Int) ≠ (1 : Int) := h1
      exact absurd h1 (by decide)
  · have h0 : x = (0 : Int) := h0
    refine pm_blk hK zmm46 [] 1 41 [(2, 1), (0, 1), (2, 20)] [(0, (-1))] μ [] rfl trivial ?_
    exact pm_iret rfl rfl ⟨⟨_, rfl⟩, hT⟩
set_option maxRecDepth 100000 in
theorem zh_txb2 (hK : zKK ST) {x : Int} (hw : sx_Wd zNR zRT2 B0 Sg) (hC323 : zCK φ D ST B0 l Sg zC323) (hs323 : sx_subm zC323.2.2.2.2.2 Wm = true) (hT : zTJ φ μ) (hb96 : sx_bit Wm 96 = true) (hbd : 4 ≤ bud.1 ∧ 140 ≤ bud.2.1) : zW D Wm ST (sx_bW zRT2 Wm B0 Sg, J) l Sg zM46 bud (pm_X zM46 (fun st' μ' => (∃ x, st' = [(0, x)]) ∧ zTJ φ μ')) 37 [(2, 1), (0, 2), (2, 23)] [(0, x)] μ := by
  refine pm_if hK zmm46 .ne 5 42 rfl rfl (fun h0 => ?_) (fun h0 => ?_)
  · have h0 : x ≠ (0 : Int) := h0
    refine pm_blk hK zmm46 [] 4 50 [(2, 1), (0, 2), (2, 23)] [(2, 93), (2, 23)] μ [] rfl trivial ?_
    refine pm_ccall hK zmm46 hC323 hw zGm_lt zJ_loc (191, 0, 54, 1) zM54 [(2, 23), (2, 93)] [] rfl rfl rfl rfl rfl ⟨by have e : zC323.2.2.2.1 = 2 := rfl; omega, by have e : zC323.2.2.2.2.1 = 101 := rfl; rw [zn54]; omega⟩ hs323 rfl (fun t ht => by cases ht) ⟨rfl, fun h => absurd h (by decide), fun _ => rfl, rfl, fun h => absurd h (by decide), fun _ => rfl, trivial⟩ (zTy_T hw hT.1) hT.2 (fun st1 μc1 hp1 hTt1 hJ1 hfr1 => ?_)
    obtain rfl := hp1
    have hTc1 : zTJ φ μc1 := ⟨zTy_of hw hTt1, hJ1⟩
    refine pm_blk hK zmm46 [] 2 55 [(2, 1), (0, 2), (2, 23)] [(0, 1), (0, 2)] μc1 [] rfl trivial ?_
    refine pm_icmp hK zmm46 .eq 8 63 rfl rfl (fun h1 => ?_) (fun h1 => ?_)
    · have h1 : (2 : Int) = (1 : Int) := h1
      exact absurd h1 (by decide)
    · have h1 : (2 : Int) ≠ (1 : Int) := h1
      refine pm_blk hK zmm46 [] 2 60 [(2, 1), (0, 2), (2, 23)] [(0, 2), (0, 2)] μc1 [] rfl trivial ?_
      refine pm_icmp hK zmm46 .ne 10 70 rfl rfl (fun h2 => ?_) (fun h2 => ?_)
      · have h2 : (2 : Int) ≠ (2 : Int) := h2
        exact absurd h2 (by decide)
      · have h2 : (2 : Int) = (2 : Int) := h2
        refine pm_blk hK zmm46 [] 2 67 [(2, 1), (0, 2), (2, 23)] [(2, 96)] μc1 [] rfl trivial ?_
        refine pm_call hK zmm46 (91, 0, 14, 0) zM14 (0, 0) [(2, 96)] [] rfl rfl rfl rfl ⟨by omega, by rw [zn14]; omega⟩ (zh_forget hK hTc1 hb96 ⟨Nat.le_refl _, Nat.le_refl _⟩) (fun st2 μc2 hp2 => ?_)
        obtain ⟨rfl, hTc2, hFg2⟩ := hp2
        have hFg := hFg2
        have f1 := zT_get hTc2 zs23_2 (i := 2) (by omega) (by omega)
        refine pm_blk hK zmm46 [] 2 74 [(2, 1), (0, 2), (2, 23)] [(0, μc2 23 2)] μc2 [] rfl trivial ?_
        exact pm_iret rfl rfl ⟨⟨_, rfl⟩, hTc2⟩
  · have h0 : x = (0 : Int) := h0
    refine pm_blk hK zmm46 [] 1 41 [(2, 1), (0, 2), (2, 23)] [(0, (-1))] μ [] rfl trivial ?_
    exact pm_iret rfl rfl ⟨⟨_, rfl⟩, hT⟩
set_option maxRecDepth 100000 in
theorem zh_txb3 (hK : zKK ST) {x : Int} (hw : sx_Wd zNR zRT2 B0 Sg) (hC324 : zCK φ D ST B0 l Sg zC324) (hs324 : sx_subm zC324.2.2.2.2.2 Wm = true) (hT : zTJ φ μ) (hb96 : sx_bit Wm 96 = true) (hbd : 4 ≤ bud.1 ∧ 140 ≤ bud.2.1) : zW D Wm ST (sx_bW zRT2 Wm B0 Sg, J) l Sg zM46 bud (pm_X zM46 (fun st' μ' => (∃ x, st' = [(0, x)]) ∧ zTJ φ μ')) 37 [(2, 1), (0, 3), (2, 26)] [(0, x)] μ := by
  refine pm_if hK zmm46 .ne 5 42 rfl rfl (fun h0 => ?_) (fun h0 => ?_)
  · have h0 : x ≠ (0 : Int) := h0
    refine pm_blk hK zmm46 [] 4 50 [(2, 1), (0, 3), (2, 26)] [(2, 93), (2, 26)] μ [] rfl trivial ?_
    refine pm_ccall hK zmm46 hC324 hw zGm_lt zJ_loc (191, 0, 54, 1) zM54 [(2, 26), (2, 93)] [] rfl rfl rfl rfl rfl ⟨by have e : zC324.2.2.2.1 = 2 := rfl; omega, by have e : zC324.2.2.2.2.1 = 101 := rfl; rw [zn54]; omega⟩ hs324 rfl (fun t ht => by cases ht) ⟨rfl, fun h => absurd h (by decide), fun _ => rfl, rfl, fun h => absurd h (by decide), fun _ => rfl, trivial⟩ (zTy_T hw hT.1) hT.2 (fun st1 μc1 hp1 hTt1 hJ1 hfr1 => ?_)
    obtain rfl := hp1
    have hTc1 : zTJ φ μc1 := ⟨zTy_of hw hTt1, hJ1⟩
    refine pm_blk hK zmm46 [] 2 55 [(2, 1), (0, 3), (2, 26)] [(0, 1), (0, 3)] μc1 [] rfl trivial ?_
    refine pm_icmp hK zmm46 .eq 8 63 rfl rfl (fun h1 => ?_) (fun h1 => ?_)
    · have h1 : (3 : Int) = (1 : Int) := h1
      exact absurd h1 (by decide)
    · have h1 : (3 : Int) ≠ (1 : Int) := h1
      refine pm_blk hK zmm46 [] 2 60 [(2, 1), (0, 3), (2, 26)] [(0, 2), (0, 3)] μc1 [] rfl trivial ?_
      refine pm_icmp hK zmm46 .ne 10 70 rfl rfl (fun h2 => ?_) (fun h2 => ?_)
      · have h2 : (3 : Int) ≠ (2 : Int) := h2
        have f1 := zT_get hTc1 zs26_2 (i := 2) (by omega) (by omega)
        refine pm_blk hK zmm46 [] 2 74 [(2, 1), (0, 3), (2, 26)] [(0, μc1 26 2)] μc1 [] rfl trivial ?_
        exact pm_iret rfl rfl ⟨⟨_, rfl⟩, hTc1⟩
      · have h2 : (3 : Int) = (2 : Int) := h2
        exact absurd h2 (by decide)
  · have h0 : x = (0 : Int) := h0
    refine pm_blk hK zmm46 [] 1 41 [(2, 1), (0, 3), (2, 26)] [(0, (-1))] μ [] rfl trivial ?_
    exact pm_iret rfl rfl ⟨⟨_, rfl⟩, hT⟩
set_option maxRecDepth 100000 in
theorem zh_tof0 (hK : zKK ST) : zC D Wm ST b0 l Sg zM47 bud [(2, 2), (0, 0)] μ (fun st' μ' => μ = μ' ∧ st' = [(2, 17)]) := by
  refine pm_blk hK zmm47 [] 1 1 [(2, 2), (0, 0)] [(0, 0)] μ [] rfl trivial ?_
  refine zp_tin hK zmm47 (off := 31) (tgt := 32) rfl (by decide) (by decide) rfl (by decide) ?_
  refine pm_blk hK zmm47 [] 2 36 [(2, 2), (0, 0)] [(2, 17)] μ [] rfl trivial ?_
  exact pm_aret rfl ⟨_, rfl⟩ ⟨rfl, rfl⟩
set_option maxRecDepth 100000 in
theorem zh_tof1 (hK : zKK ST) : zC D Wm ST b0 l Sg zM47 bud [(2, 2), (0, 1)] μ (fun st' μ' => μ = μ' ∧ st' = [(2, 20)]) := by
  refine pm_blk hK zmm47 [] 1 1 [(2, 2), (0, 1)] [(0, 1)] μ [] rfl trivial ?_
  refine zp_tin hK zmm47 (off := 36) (tgt := 37) rfl (by decide) (by decide) rfl (by decide) ?_
  refine pm_blk hK zmm47 [] 2 41 [(2, 2), (0, 1)] [(2, 20)] μ [] rfl trivial ?_
  exact pm_aret rfl ⟨_, rfl⟩ ⟨rfl, rfl⟩
set_option maxRecDepth 100000 in
theorem zh_tof2 (hK : zKK ST) : zC D Wm ST b0 l Sg zM47 bud [(2, 2), (0, 2)] μ (fun st' μ' => μ = μ' ∧ st' = [(2, 23)]) := by
  refine pm_blk hK zmm47 [] 1 1 [(2, 2), (0, 2)] [(0, 2)] μ [] rfl trivial ?_
  refine zp_tin hK zmm47 (off := 41) (tgt := 42) rfl (by decide) (by decide) rfl (by decide) ?_
  refine pm_blk hK zmm47 [] 2 46 [(2, 2), (0, 2)] [(2, 23)] μ [] rfl trivial ?_
  exact pm_aret rfl ⟨_, rfl⟩ ⟨rfl, rfl⟩
set_option maxRecDepth 100000 in
theorem zh_tof3 (hK : zKK ST) : zC D Wm ST b0 l Sg zM47 bud [(2, 2), (0, 3)] μ (fun st' μ' => μ = μ' ∧ st' = [(2, 26)]) := by
  refine pm_blk hK zmm47 [] 1 1 [(2, 2), (0, 3)] [(0, 3)] μ [] rfl trivial ?_
  refine zp_tin hK zmm47 (off := 46) (tgt := 47) rfl (by decide) (by decide) rfl (by decide) ?_
  refine pm_blk hK zmm47 [] 2 51 [(2, 2), (0, 3)] [(2, 26)] μ [] rfl trivial ?_
  exact pm_aret rfl ⟨_, rfl⟩ ⟨rfl, rfl⟩
set_option maxRecDepth 100000 in
theorem zh_tofn (hK : zKK ST) {k : Int} (hk : k < 0 ∨ 3 < k) : zC D Wm ST b0 l Sg zM47 bud [(2, 2), (0, k)] μ (fun st' μ' => μ = μ' ∧ st' = [(3, 0)]) := by
  refine pm_blk hK zmm47 [] 1 1 [(2, 2), (0, k)] [(0, k)] μ [] rfl trivial ?_
  refine zp_tout hK zmm47 (tgt := 52) rfl hk (by decide) ?_
  refine zp_null hK zmm47 rfl ?_
  exact pm_aretn rfl ⟨_, rfl⟩ ⟨rfl, rfl⟩
end ZHW
