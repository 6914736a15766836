/-! the law; walks printed by program (wip/p30/pmgen.py) and filled by hand -/
section ZHW
variable {D : va_G} {Wm : Nat} {ST : List (String × String × String × Nat)} {b0 : sx_B} {l : Launch} {Sg : Nat → Option Nat} {bud : sx_Bu} {μ : pm_Mem} {B0 : Nat → Prop} {J : (Nat → Option Nat) → Heap → Prop}
set_option maxRecDepth 100000 in
theorem zh_twoOf (hK : zKK ST) {o x y : Int} (hx : pm_in x) (hy : pm_in y) (h5 : o = 5 → 1 ≤ y) (hbd : 0 ≤ bud.1 ∧ 0 ≤ bud.2.1) : zC D Wm ST b0 l Sg zM306 bud [(2, 205), (0, o), (0, x), (0, y)] μ (fun st' μ' => μ = μ' ∧ ∃ z, st' = [(0, z)] ∧ pm_in z) := by
  refine pm_blk hK zmm306 [7, 16, 25, 95, 101] 2 2 [(2, 205), (0, o), (0, x), (0, y)] [(0, 2), (0, o)] μ [] rfl trivial ?_
  refine pm_icmp hK zmm306 .ne 7 9 rfl rfl (fun h0 => ?_) (fun h0 => ?_)
  · have h0 : o ≠ (2 : Int) := h0
    refine pm_blk hK zmm306 [7, 16, 25, 95, 101] 2 11 [(2, 205), (0, o), (0, x), (0, y)] [(0, 3), (0, o)] μ [] rfl trivial ?_
    refine pm_icmp hK zmm306 .ne 7 18 rfl rfl (fun h1 => ?_) (fun h1 => ?_)
    · have h1 : o ≠ (3 : Int) := h1
      refine pm_blk hK zmm306 [7, 16, 25, 95, 101] 2 20 [(2, 205), (0, o), (0, x), (0, y)] [(0, 4), (0, o)] μ [] rfl trivial ?_
      refine pm_icmp hK zmm306 .ne 7 27 rfl rfl (fun h2 => ?_) (fun h2 => ?_)
      · have h2 : o ≠ (4 : Int) := h2
        refine pm_blk hK zmm306 [7, 16, 25, 95, 101] 2 29 [(2, 205), (0, o), (0, x), (0, y)] [(0, 5), (0, o)] μ [] rfl trivial ?_
        refine pm_icmp hK zmm306 .ne 7 36 rfl rfl (fun h3 => ?_) (fun h3 => ?_)
        · have h3 : o ≠ (5 : Int) := h3
          refine pm_blk hK zmm306 [7, 16, 25, 95, 101] 2 39 [(2, 205), (0, o), (0, x), (0, y)] [(0, 6), (0, o)] μ [] rfl trivial ?_
          refine pm_icmp hK zmm306 .ne 14 53 rfl rfl (fun h4 => ?_) (fun h4 => ?_)
          · have h4 : o ≠ (6 : Int) := h4
            refine pm_blk hK zmm306 [7, 16, 25, 95, 101] 2 56 [(2, 205), (0, o), (0, x), (0, y)] [(0, 7), (0, o)] μ [] rfl trivial ?_
            refine pm_icmp hK zmm306 .ne 14 70 rfl rfl (fun h5 => ?_) (fun h5 => ?_)
            · have h5 : o ≠ (7 : Int) := h5
              refine pm_blk hK zmm306 [7, 16, 25, 95, 101] 2 73 [(2, 205), (0, o), (0, x), (0, y)] [(0, 8), (0, o)] μ [] rfl trivial ?_
              refine pm_icmp hK zmm306 .ne 14 87 rfl rfl (fun h6 => ?_) (fun h6 => ?_)
              · have h6 : o ≠ (8 : Int) := h6
                refine pm_blk hK zmm306 [7, 16, 25, 95, 101] 2 90 [(2, 205), (0, o), (0, x), (0, y)] [(0, 10), (0, o)] μ [] rfl trivial ?_
                refine pm_icmp hK zmm306 .ne 9 99 rfl rfl (fun h7 => ?_) (fun h7 => ?_)
                · have h7 : o ≠ (10 : Int) := h7
                  have w1 := zw32 (x + y)
                  refine pm_blk hK zmm306 [7, 16, 25, 95, 101] 3 102 [(2, 205), (0, o), (0, x), (0, y)] [(0, pm_w32 (x + y))] μ [] rfl trivial ?_
                  refine pm_if hK zmm306 .le 7 109 rfl rfl (fun h8 => ?_) (fun h8 => ?_)
                  · have h8 : pm_w32 (x + y) ≤ (0 : Int) := h8
                    refine pm_blk hK zmm306 [7, 16, 25, 95, 101] 1 110 [(2, 205), (0, o), (0, x), (0, y)] [(0, 0)] μ [] rfl trivial ?_
                    exact pm_iret rfl rfl ⟨rfl, _, rfl, by first | exact zw32 _ | exact hq | exact ⟨by omega, by omega⟩⟩
                  · have h8 : (0 : Int) < pm_w32 (x + y) := h8
                    refine pm_blk hK zmm306 [7, 16, 25, 95, 101] 2 110 [(2, 205), (0, o), (0, x), (0, y)] [(0, 1)] μ [] rfl trivial ?_
                    exact pm_iret rfl rfl ⟨rfl, _, rfl, by first | exact zw32 _ | exact hq | exact ⟨by omega, by omega⟩⟩
                · have h7 : o = (10 : Int) := h7
                  have w2 := zw32 (x * y)
                  refine pm_blk hK zmm306 [7, 16, 25, 95, 101] 4 110 [(2, 205), (0, o), (0, x), (0, y)] [(0, pm_w32 (x * y))] μ [] rfl trivial ?_
                  exact pm_iret rfl rfl ⟨rfl, _, rfl, by first | exact zw32 _ | exact hq | exact ⟨by omega, by omega⟩⟩
              · have h6 : o = (8 : Int) := h6
                refine pm_blk hK zmm306 [7, 16, 25, 95, 101] 2 78 [(2, 205), (0, o), (0, x), (0, y)] [(0, y), (0, x)] μ [] rfl trivial ?_
                refine pm_icmp hK zmm306 .le 7 85 rfl rfl (fun h9 => ?_) (fun h9 => ?_)
                · have h9 : x ≤ y := h9
                  refine pm_blk hK zmm306 [7, 16, 25, 95, 101] 1 86 [(2, 205), (0, o), (0, x), (0, y)] [(0, 0)] μ [] rfl trivial ?_
                  exact pm_iret rfl rfl ⟨rfl, _, rfl, by first | exact zw32 _ | exact hq | exact ⟨by omega, by omega⟩⟩
                · have h9 : y < x := h9
                  refine pm_blk hK zmm306 [7, 16, 25, 95, 101] 2 86 [(2, 205), (0, o), (0, x), (0, y)] [(0, 1)] μ [] rfl trivial ?_
                  exact pm_iret rfl rfl ⟨rfl, _, rfl, by first | exact zw32 _ | exact hq | exact ⟨by omega, by omega⟩⟩
            · have h5 : o = (7 : Int) := h5
              refine pm_blk hK zmm306 [7, 16, 25, 95, 101] 2 61 [(2, 205), (0, o), (0, x), (0, y)] [(0, y), (0, x)] μ [] rfl trivial ?_
              refine pm_icmp hK zmm306 .ne 7 68 rfl rfl (fun h10 => ?_) (fun h10 => ?_)
              · have h10 : x ≠ y := h10
                refine pm_blk hK zmm306 [7, 16, 25, 95, 101] 1 69 [(2, 205), (0, o), (0, x), (0, y)] [(0, 0)] μ [] rfl trivial ?_
                exact pm_iret rfl rfl ⟨rfl, _, rfl, by first | exact zw32 _ | exact hq | exact ⟨by omega, by omega⟩⟩
              · have h10 : x = y := h10
                refine pm_blk hK zmm306 [7, 16, 25, 95, 101] 2 69 [(2, 205), (0, o), (0, x), (0, y)] [(0, 1)] μ [] rfl trivial ?_
                exact pm_iret rfl rfl ⟨rfl, _, rfl, by first | exact zw32 _ | exact hq | exact ⟨by omega, by omega⟩⟩
          · have h4 : o = (6 : Int) := h4
            refine pm_blk hK zmm306 [7, 16, 25, 95, 101] 2 44 [(2, 205), (0, o), (0, x), (0, y)] [(0, y), (0, x)] μ [] rfl trivial ?_
            refine pm_icmp hK zmm306 .ge 7 51 rfl rfl (fun h11 => ?_) (fun h11 => ?_)
            · have h11 : y ≤ x := h11
              refine pm_blk hK zmm306 [7, 16, 25, 95, 101] 1 52 [(2, 205), (0, o), (0, x), (0, y)] [(0, 0)] μ [] rfl trivial ?_
              exact pm_iret rfl rfl ⟨rfl, _, rfl, by first | exact zw32 _ | exact hq | exact ⟨by omega, by omega⟩⟩
            · have h11 : x < y := h11
              refine pm_blk hK zmm306 [7, 16, 25, 95, 101] 2 52 [(2, 205), (0, o), (0, x), (0, y)] [(0, 1)] μ [] rfl trivial ?_
              exact pm_iret rfl rfl ⟨rfl, _, rfl, by first | exact zw32 _ | exact hq | exact ⟨by omega, by omega⟩⟩
        · have h3 : o = (5 : Int) := h3
          refine pm_blk hK zmm306 [7, 16, 25, 95, 101] 2 34 [(2, 205), (0, o), (0, x), (0, y)] [(0, y), (0, x)] μ [] rfl trivial ?_
          have hq := ztdiv (x := x) (y := y) (by omega) hx
          have hq2 : -2147483648 ≤ x.tdiv y ∧ x.tdiv y ≤ 2147483647 := hq
          refine pm_blk hK zmm306 [7, 16, 25, 95, 101] 1 35 [(2, 205), (0, o), (0, x), (0, y)] [(0, Int.tdiv x y)] μ [y ≠ 0, pm_in (Int.tdiv x y)] rfl ⟨by omega, pm_in_mk (by omega) (by omega), trivial⟩ ?_
          exact pm_iret rfl rfl ⟨rfl, _, rfl, by first | exact zw32 _ | exact hq | exact ⟨by omega, by omega⟩⟩
      · have h2 : o = (4 : Int) := h2
        have w3 := zw32 (x * y)
        refine pm_blk hK zmm306 [7, 16, 25, 95, 101] 3 26 [(2, 205), (0, o), (0, x), (0, y)] [(0, pm_w32 (x * y))] μ [] rfl trivial ?_
        exact pm_iret rfl rfl ⟨rfl, _, rfl, by first | exact zw32 _ | exact hq | exact ⟨by omega, by omega⟩⟩
    · have h1 : o = (3 : Int) := h1
      have w4 := zw32 (x - y)
      refine pm_blk hK zmm306 [7, 16, 25, 95, 101] 3 17 [(2, 205), (0, o), (0, x), (0, y)] [(0, pm_w32 (x - y))] μ [] rfl trivial ?_
      exact pm_iret rfl rfl ⟨rfl, _, rfl, by first | exact zw32 _ | exact hq | exact ⟨by omega, by omega⟩⟩
  · have h0 : o = (2 : Int) := h0
    have w5 := zw32 (x + y)
    refine pm_blk hK zmm306 [7, 16, 25, 95, 101] 3 8 [(2, 205), (0, o), (0, x), (0, y)] [(0, pm_w32 (x + y))] μ [] rfl trivial ?_
    exact pm_iret rfl rfl ⟨rfl, _, rfl, by first | exact zw32 _ | exact hq | exact ⟨by omega, by omega⟩⟩
set_option maxRecDepth 100000 in
theorem zl_runs (hK : zKK ST)  {μ0 : pm_Mem} {a b : Int} (ha : 0 ≤ a) (hb : b ≤ 400) (hb225 : sx_bit Wm 225 = true) (hbd : 1 ≤ bud.1 ∧ 23 ≤ bud.2.1) : ∀ (n : Nat) {top k : Int} {μ : pm_Mem}, (b - k).toNat = n → ∀ (hak : a ≤ k) (hkb : k ≤ b) (ht0 : 0 ≤ top) (htk : top ≤ k - a) (hs : zSafe (μ0 218) (μ0 219) n k top) (hl : a < k → μ0 218 (k - 1) = 0 → μ 225 (top - 1) = μ0 219 (k - 1)) (hfr : ∀ r, r ≠ 225 → μ r = μ0 r) (hT : zTJ μ), zW D Wm ST b0 l Sg zM305 bud (pm_X zM305 (fun st' μ' => ∃ x, st' = [(0, x)] ∧ pm_in x ∧ zTJ μ' ∧ ∀ r, r ≠ 225 → μ' r = μ0 r)) 12 [(2, 205), (0, 0), (0, a), (0, b), (0, top), (0, k)] [] μ := by
  intro n
  induction n using Nat.strongRecOn with
  | ind n ih =>
    intro top k μ hn hak hkb ht0 htk hs hl hfr hT
    have eop : μ 218 k = μ0 218 k := by rw [hfr 218 (by decide)]
    have earg : μ 219 k = μ0 219 k := by rw [hfr 219 (by decide)]
    refine pm_blk hK zmm305 [123] 6 21 [(2, 205), (0, 0), (0, a), (0, b), (0, top), (0, k)] [(0, (400 * 0) + b), (0, k)] μ [pm_in (400 * 0), pm_in ((400 * 0) + b)] rfl ⟨pm_in_mk (by omega) (by omega), pm_in_mk (by omega) (by omega), trivial⟩ ?_
    refine pm_icmp hK zmm305 .ge 155 176 rfl rfl (fun h0 => ?_) (fun h0 => ?_)
    · have h0 : (400 * 0) + b ≤ k := h0
      refine pm_blk hK zmm305 [123] 1 177 [(2, 205), (0, 0), (0, a), (0, b), (0, top), (0, k)] [(2, 205)] μ [] rfl trivial ?_
      have fz := zT_get hT zs225_0 (i := 0) (by omega) (by omega)
      have f1 := zT_get hT zs225_0 (i := 0) (by omega) (by omega)
      refine pm_blk hK zmm305 [123] 3 182 [(2, 205), (0, 0), (0, a), (0, b), (0, top), (0, k)] [(0, μ 225 0)] μ [0 ≤ 0 ∧ 0 < 420] rfl ⟨⟨by omega, by omega⟩, trivial⟩ ?_
      exact pm_iret rfl rfl ⟨_, rfl, ⟨by omega, by omega⟩, hT, hfr⟩
    · have h0 : k < (400 * 0) + b := h0
      obtain ⟨n', hn'⟩ : ∃ n', n = n' + 1 := ⟨n - 1, by omega⟩
      subst hn'
      have f2 := zT_get hT zs218_0 (i := k) (by omega) (by omega)
      refine pm_blk hK zmm305 [123] 4 31 [(2, 205), (0, 0), (0, a), (0, b), (0, top), (0, k)] [(0, μ 218 k)] μ [0 ≤ k ∧ k < 1200] rfl ⟨⟨by omega, by omega⟩, trivial⟩ ?_
      refine pm_if hK zmm305 .eq 14 45 rfl rfl (fun h1 => ?_) (fun h1 => ?_)
      · have h1 : μ 218 k = (0 : Int) := h1
        have hs2 := zSafe_push hs (by omega)
        refine pm_blk hK zmm305 [123] 7 58 [(2, 205), (0, 0), (0, a), (0, b), (0, top), (0, k)] [(0, μ 218 k), (0, top), (2, 225)] μ [0 ≤ k ∧ k < 1200] rfl ⟨⟨by omega, by omega⟩, trivial⟩ ?_
        refine pm_if hK zmm305 .ne 13 71 rfl rfl (fun h2 => ?_) (fun h2 => ?_)
        · have h2 : μ 218 k ≠ (0 : Int) := h2
          have f3 := zT_get hT zs219_0 (i := k) (by omega) (by omega)
          refine pm_blk hK zmm305 [123] 6 82 [(2, 205), (0, 0), (0, a), (0, b), (0, top), (0, k)] [(0, μ 219 k), (2, 224), (0, top), (2, 225)] μ [0 ≤ k ∧ k < 1200] rfl ⟨⟨by omega, by omega⟩, trivial⟩ ?_
          have fa := zT_rng hT zr224 (i := (μ 219 k)) (by omega) (by omega)
          refine pm_blk hK zmm305 [123] 2 84 [(2, 205), (0, 0), (0, a), (0, b), (0, top), (0, k)] [] (pm_up μ 225 top (μ 224 (μ 219 k))) [0 ≤ μ 219 k ∧ μ 219 k < 11, sx_bit Wm 225 = true, 0 ≤ top ∧ top < 420] rfl ⟨⟨by omega, by omega⟩, hb225, ⟨by omega, by omega⟩, trivial⟩ ?_
          obtain ⟨μ1, eμ1⟩ : ∃ μ', μ' = pm_up μ 225 top (μ 224 (μ 219 k)) := ⟨_, rfl⟩
          rw [← eμ1]
          have hTμ1 : zTJ μ1 := by rw [eμ1]; exact zT_up hT zs225_0 rfl (i := top) (by omega) (by omega) (by omega) (by omega)
          refine pm_blk hK zmm305 [123] 7 12 [(2, 205), (0, 0), (0, a), (0, b), (0, top + 1), (0, k + 1)] [] μ1 [pm_in (top + 1), pm_in (k + 1)] rfl ⟨pm_in_mk (by omega) (by omega), pm_in_mk (by omega) (by omega), trivial⟩ ?_
          refine ih ((b - (k + 1)).toNat) (by omega) (top := (top + 1)) (k := (k + 1)) rfl (by omega) (by omega) (by omega) (by omega) ?_ ?_ ?_ hTμ1
          · have e1 : (b - (k + 1)).toNat = n' := by omega
            rw [e1]
            first | exact hs2.2 | exact hs2.2.2
          · intro _ h0
            have e1 : k + 1 - 1 = k := by omega
            rw [e1] at h0 ⊢
            first | (exfalso; omega) | (rw [eμ1, show top + 1 - 1 = top by omega, pm_up_eq]; exact earg)
          · intro r hr
            rw [eμ1, pm_up_row hr]
            exact hfr r hr
        · have h2 : μ 218 k = (0 : Int) := h2
          have f4 := zT_get hT zs219_0 (i := k) (by omega) (by omega)
          refine pm_blk hK zmm305 [123] 6 84 [(2, 205), (0, 0), (0, a), (0, b), (0, top), (0, k)] [] (pm_up μ 225 top (μ 219 k)) [0 ≤ k ∧ k < 1200, sx_bit Wm 225 = true, 0 ≤ top ∧ top < 420] rfl ⟨⟨by omega, by omega⟩, hb225, ⟨by omega, by omega⟩, trivial⟩ ?_
          obtain ⟨μ2, eμ2⟩ : ∃ μ', μ' = pm_up μ 225 top (μ 219 k) := ⟨_, rfl⟩
          rw [← eμ2]
          have hTμ2 : zTJ μ2 := by rw [eμ2]; exact zT_up hT zs225_0 rfl (i := top) (by omega) (by omega) (by omega) (by omega)
          refine pm_blk hK zmm305 [123] 7 12 [(2, 205), (0, 0), (0, a), (0, b), (0, top + 1), (0, k + 1)] [] μ2 [pm_in (top + 1), pm_in (k + 1)] rfl ⟨pm_in_mk (by omega) (by omega), pm_in_mk (by omega) (by omega), trivial⟩ ?_
          refine ih ((b - (k + 1)).toNat) (by omega) (top := (top + 1)) (k := (k + 1)) rfl (by omega) (by omega) (by omega) (by omega) ?_ ?_ ?_ hTμ2
          · have e1 : (b - (k + 1)).toNat = n' := by omega
            rw [e1]
            first | exact hs2.2 | exact hs2.2.2
          · intro _ h0
            have e1 : k + 1 - 1 = k := by omega
            rw [e1] at h0 ⊢
            first | (exfalso; omega) | (rw [eμ2, show top + 1 - 1 = top by omega, pm_up_eq]; exact earg)
          · intro r hr
            rw [eμ2, pm_up_row hr]
            exact hfr r hr
      · have h1 : μ 218 k ≠ (0 : Int) := h1
        refine pm_blk hK zmm305 [123] 5 42 [(2, 205), (0, 0), (0, a), (0, b), (0, top), (0, k)] [(0, 1), (0, μ 218 k)] μ [0 ≤ k ∧ k < 1200] rfl ⟨⟨by omega, by omega⟩, trivial⟩ ?_
        refine pm_icmp hK zmm305 .ne 51 93 rfl rfl (fun h3 => ?_) (fun h3 => ?_)
        · have h3 : μ 218 k ≠ (1 : Int) := h3
          refine pm_blk hK zmm305 [123] 5 102 [(2, 205), (0, 0), (0, a), (0, b), (0, top), (0, k)] [(0, 9), (0, μ 218 k)] μ [0 ≤ k ∧ k < 1200] rfl ⟨⟨by omega, by omega⟩, trivial⟩ ?_
          refine pm_icmp hK zmm305 .ne 26 128 rfl rfl (fun h4 => ?_) (fun h4 => ?_)
          · have h4 : μ 218 k ≠ (9 : Int) := h4
            have hs2 := zSafe_two hs (by omega) (by omega) (by omega)
            have f5 := zT_get hT zs225_0 (i := (top - 1) - 1) (by omega) (by omega)
            have f6 := zT_get hT zs225_0 (i := top - 1) (by omega) (by omega)
            refine pm_blk hK zmm305 [123] 24 166 [(2, 205), (0, 0), (0, a), (0, b), (0, top - 1), (0, k)] [(0, μ 225 (top - 1)), (0, μ 225 ((top - 1) - 1)), (0, μ 218 k), (2, 205), (0, (top - 1) - 1), (2, 225)] μ [pm_in (top - 1), pm_in ((top - 1) - 1), 0 ≤ k ∧ k < 1200, pm_in ((top - 1) - 1), 0 ≤ (top - 1) - 1 ∧ (top - 1) - 1 < 420, 0 ≤ top - 1 ∧ top - 1 < 420] rfl ⟨pm_in_mk (by omega) (by omega), pm_in_mk (by omega) (by omega), ⟨by omega, by omega⟩, pm_in_mk (by omega) (by omega), ⟨by omega, by omega⟩, ⟨by omega, by omega⟩, trivial⟩ ?_
            refine pm_call hK zmm305 (325, 0, 306, 3) zM306 (0, 0) [(2, 205), (0, μ 218 k), (0, μ 225 ((top - 1) - 1)), (0, μ 225 (top - 1))] [(0, (top - 1) - 1), (2, 225)] rfl rfl rfl rfl ⟨by omega, by rw [zn306]; omega⟩ (zh_twoOf hK (o := (μ 218 k)) (x := (μ 225 ((top - 1) - 1))) (y := (μ 225 (top - 1))) ⟨by omega, by omega⟩ ⟨by omega, by omega⟩ (by omega) ⟨Nat.le_refl _, Nat.le_refl _⟩) (fun st1 μc1 hp1 => ?_)
            obtain ⟨rfl, x1, rfl, hx1⟩ := hp1
            have hx1 : -2147483648 ≤ x1 ∧ x1 ≤ 2147483647 := hx1
            refine pm_blk hK zmm305 [123] 1 170 [(2, 205), (0, 0), (0, a), (0, b), (0, top - 1), (0, k)] [] (pm_up μ 225 ((top - 1) - 1) x1) [sx_bit Wm 225 = true, 0 ≤ (top - 1) - 1 ∧ (top - 1) - 1 < 420] rfl ⟨hb225, ⟨by omega, by omega⟩, trivial⟩ ?_
            obtain ⟨μ3, eμ3⟩ : ∃ μ', μ' = pm_up μ 225 ((top - 1) - 1) x1 := ⟨_, rfl⟩
            rw [← eμ3]
            have hTμ3 : zTJ μ3 := by rw [eμ3]; exact zT_up hT zs225_0 rfl (i := (top - 1) - 1) (by omega) (by omega) (by omega) (by omega)
            refine pm_blk hK zmm305 [123] 2 12 [(2, 205), (0, 0), (0, a), (0, b), (0, top - 1), (0, k + 1)] [] μ3 [pm_in (k + 1)] rfl ⟨pm_in_mk (by omega) (by omega), trivial⟩ ?_
            refine ih ((b - (k + 1)).toNat) (by omega) (top := (top - 1)) (k := (k + 1)) rfl (by omega) (by omega) (by omega) (by omega) ?_ ?_ ?_ hTμ3
            · have e1 : (b - (k + 1)).toNat = n' := by omega
              rw [e1]
              first | exact hs2.2 | exact hs2.2.2
            · intro _ h0
              have e1 : k + 1 - 1 = k := by omega
              rw [e1] at h0 ⊢
              first | (exfalso; omega) | (rw [eμ3, show top + 1 - 1 = top by omega, pm_up_eq]; exact earg)
            · intro r hr
              rw [eμ3, pm_up_row hr]
              exact hfr r hr
          · have h4 : μ 218 k = (9 : Int) := h4
            have hs2 := zSafe_not hs (by omega)
            have f7 := zT_get hT zs225_0 (i := top - 1) (by omega) (by omega)
            have w8 := zw32 (1 - (μ 225 (top - 1)))
            refine pm_blk hK zmm305 [123] 14 125 [(2, 205), (0, 0), (0, a), (0, b), (0, top), (0, k)] [] (pm_up μ 225 (top - 1) (pm_w32 (1 - (μ 225 (top - 1))))) [pm_in (top - 1), pm_in (top - 1), 0 ≤ top - 1 ∧ top - 1 < 420, sx_bit Wm 225 = true, 0 ≤ top - 1 ∧ top - 1 < 420] rfl ⟨pm_in_mk (by omega) (by omega), pm_in_mk (by omega) (by omega), ⟨by omega, by omega⟩, hb225, ⟨by omega, by omega⟩, trivial⟩ ?_
            obtain ⟨μ4, eμ4⟩ : ∃ μ', μ' = pm_up μ 225 (top - 1) (pm_w32 (1 - (μ 225 (top - 1)))) := ⟨_, rfl⟩
            rw [← eμ4]
            have hTμ4 : zTJ μ4 := by rw [eμ4]; exact zT_up hT zs225_0 rfl (i := top - 1) (by omega) (by omega) (by omega) (by omega)
            refine pm_blk hK zmm305 [123] 3 12 [(2, 205), (0, 0), (0, a), (0, b), (0, top), (0, k + 1)] [] μ4 [pm_in (k + 1)] rfl ⟨pm_in_mk (by omega) (by omega), trivial⟩ ?_
            refine ih ((b - (k + 1)).toNat) (by omega) (top := top) (k := (k + 1)) rfl (by omega) (by omega) (by omega) (by omega) ?_ ?_ ?_ hTμ4
            · have e1 : (b - (k + 1)).toNat = n' := by omega
              rw [e1]
              first | exact hs2.2 | exact hs2.2.2
            · intro _ h0
              have e1 : k + 1 - 1 = k := by omega
              rw [e1] at h0 ⊢
              first | (exfalso; omega) | (rw [eμ4, show top + 1 - 1 = top by omega, pm_up_eq]; exact earg)
            · intro r hr
              rw [eμ4, pm_up_row hr]
              exact hfr r hr
        · have h3 : μ 218 k = (1 : Int) := h3
          have hs2 := zSafe_push hs (by omega)
          refine pm_blk hK zmm305 [123] 7 58 [(2, 205), (0, 0), (0, a), (0, b), (0, top), (0, k)] [(0, μ 218 k), (0, top), (2, 225)] μ [0 ≤ k ∧ k < 1200] rfl ⟨⟨by omega, by omega⟩, trivial⟩ ?_
          refine pm_if hK zmm305 .ne 13 71 rfl rfl (fun h5 => ?_) (fun h5 => ?_)
          · have h5 : μ 218 k ≠ (0 : Int) := h5
            have f9 := zT_get hT zs219_0 (i := k) (by omega) (by omega)
            refine pm_blk hK zmm305 [123] 6 82 [(2, 205), (0, 0), (0, a), (0, b), (0, top), (0, k)] [(0, μ 219 k), (2, 224), (0, top), (2, 225)] μ [0 ≤ k ∧ k < 1200] rfl ⟨⟨by omega, by omega⟩, trivial⟩ ?_
            have fa := zT_rng hT zr224 (i := (μ 219 k)) (by omega) (by omega)
            refine pm_blk hK zmm305 [123] 2 84 [(2, 205), (0, 0), (0, a), (0, b), (0, top), (0, k)] [] (pm_up μ 225 top (μ 224 (μ 219 k))) [0 ≤ μ 219 k ∧ μ 219 k < 11, sx_bit Wm 225 = true, 0 ≤ top ∧ top < 420] rfl ⟨⟨by omega, by omega⟩, hb225, ⟨by omega, by omega⟩, trivial⟩ ?_
            obtain ⟨μ5, eμ5⟩ : ∃ μ', μ' = pm_up μ 225 top (μ 224 (μ 219 k)) := ⟨_, rfl⟩
            rw [← eμ5]
            have hTμ5 : zTJ μ5 := by rw [eμ5]; exact zT_up hT zs225_0 rfl (i := top) (by omega) (by omega) (by omega) (by omega)
            refine pm_blk hK zmm305 [123] 7 12 [(2, 205), (0, 0), (0, a), (0, b), (0, top + 1), (0, k + 1)] [] μ5 [pm_in (top + 1), pm_in (k + 1)] rfl ⟨pm_in_mk (by omega) (by omega), pm_in_mk (by omega) (by omega), trivial⟩ ?_
            refine ih ((b - (k + 1)).toNat) (by omega) (top := (top + 1)) (k := (k + 1)) rfl (by omega) (by omega) (by omega) (by omega) ?_ ?_ ?_ hTμ5
            · have e1 : (b - (k + 1)).toNat = n' := by omega
              rw [e1]
              first | exact hs2.2 | exact hs2.2.2
            · intro _ h0
              have e1 : k + 1 - 1 = k := by omega
              rw [e1] at h0 ⊢
              first | (exfalso; omega) | (rw [eμ5, show top + 1 - 1 = top by omega, pm_up_eq]; exact earg)
            · intro r hr
              rw [eμ5, pm_up_row hr]
              exact hfr r hr
          · have h5 : μ 218 k = (0 : Int) := h5
            have f10 := zT_get hT zs219_0 (i := k) (by omega) (by omega)
            refine pm_blk hK zmm305 [123] 6 84 [(2, 205), (0, 0), (0, a), (0, b), (0, top), (0, k)] [] (pm_up μ 225 top (μ 219 k)) [0 ≤ k ∧ k < 1200, sx_bit Wm 225 = true, 0 ≤ top ∧ top < 420] rfl ⟨⟨by omega, by omega⟩, hb225, ⟨by omega, by omega⟩, trivial⟩ ?_
            obtain ⟨μ6, eμ6⟩ : ∃ μ', μ' = pm_up μ 225 top (μ 219 k) := ⟨_, rfl⟩
            rw [← eμ6]
            have hTμ6 : zTJ μ6 := by rw [eμ6]; exact zT_up hT zs225_0 rfl (i := top) (by omega) (by omega) (by omega) (by omega)
            refine pm_blk hK zmm305 [123] 7 12 [(2, 205), (0, 0), (0, a), (0, b), (0, top + 1), (0, k + 1)] [] μ6 [pm_in (top + 1), pm_in (k + 1)] rfl ⟨pm_in_mk (by omega) (by omega), pm_in_mk (by omega) (by omega), trivial⟩ ?_
            refine ih ((b - (k + 1)).toNat) (by omega) (top := (top + 1)) (k := (k + 1)) rfl (by omega) (by omega) (by omega) (by omega) ?_ ?_ ?_ hTμ6
            · have e1 : (b - (k + 1)).toNat = n' := by omega
              rw [e1]
              first | exact hs2.2 | exact hs2.2.2
            · intro _ h0
              have e1 : k + 1 - 1 = k := by omega
              rw [e1] at h0 ⊢
              first | (exfalso; omega) | (rw [eμ6, show top + 1 - 1 = top by omega, pm_up_eq]; exact earg)
            · intro r hr
              rw [eμ6, pm_up_row hr]
              exact hfr r hr
set_option maxRecDepth 100000 in
theorem zh_runs (hK : zKK ST) {a b : Int} (ha : 0 ≤ a) (hab : a ≤ b) (hb : b ≤ 400) (hs : zSeg (μ 218) (μ 219) a b) (hT : zTJ μ) (hb225 : sx_bit Wm 225 = true) (hbd : 1 ≤ bud.1 ∧ 23 ≤ bud.2.1) : zC D Wm ST b0 l Sg zM305 bud [(2, 205), (0, 0), (0, a), (0, b)] μ (fun st' μ' => ∃ x, st' = [(0, x)] ∧ pm_in x ∧ zTJ μ' ∧ ∀ r, r ≠ 225 → μ' r = μ r) := by
  refine pm_blk hK zmm305 [] 8 12 [(2, 205), (0, 0), (0, a), (0, b), (0, 0), (0, (400 * 0) + a)] [] μ [pm_in (400 * 0), pm_in ((400 * 0) + a)] rfl ⟨pm_in_mk (by omega) (by omega), pm_in_mk (by omega) (by omega), trivial⟩ ?_
  have e1 : ((400 * 0) + a) = a := by omega
  rw [e1]
  exact zl_runs hK (μ0 := μ) ha hb hb225 hbd _ (top := 0) (k := a) rfl (by omega) hab (by omega) (by omega) hs (fun h _ => absurd h (by omega)) (fun r _ => rfl) hT
set_option maxRecDepth 100000 in
theorem zl_lineOf (hK : zKK ST)  {w : Int} (hb225 : sx_bit Wm 225 = true) (hbd : 2 ≤ bud.1 ∧ 48 ≤ bud.2.1) : ∀ (n : Nat) {k : Int} {μ : pm_Mem}, (16 - k).toNat = n → ∀ (hk : 0 ≤ k) (hk2 : k ≤ 16) (hT : zTJ μ), zW D Wm ST b0 l Sg zM304 bud (pm_X zM304 (fun st' μ' => ∃ x, st' = [(0, x)] ∧ -1 ≤ x ∧ x < μ' 213 0 ∧ zTJ μ')) 2 [(2, 205), (0, w), (0, k)] [] μ := by
  intro n
  induction n using Nat.strongRecOn with
  | ind n ih =>
    intro k μ hn hk hk2 hT
    have f0 := zT_get hT zs213_0 (i := 0) (by omega) (by omega)
    have f1 := zT_get hT zs213_0 (i := 0) (by omega) (by omega)
    refine pm_blk hK zmm304 [] 5 9 [(2, 205), (0, w), (0, k)] [(0, μ 213 0), (0, k)] μ [0 ≤ 0 ∧ 0 < 2] rfl ⟨⟨by omega, by omega⟩, trivial⟩ ?_
    refine pm_icmp hK zmm304 .ge 56 65 rfl rfl (fun h0 => ?_) (fun h0 => ?_)
    · have h0 : μ 213 0 ≤ k := h0
      refine pm_blk hK zmm304 [] 1 66 [(2, 205), (0, w), (0, k)] [(0, (-1))] μ [] rfl trivial ?_
      exact pm_iret rfl rfl ⟨_, rfl, by omega, by omega, hT⟩
    · have h0 : k < μ 213 0 := h0
      have f2 := zT_get hT zs214_0 (i := k) (by omega) (by omega)
      refine pm_blk hK zmm304 [] 5 19 [(2, 205), (0, w), (0, k)] [(0, w), (0, μ 214 k)] μ [0 ≤ k ∧ k < 48] rfl ⟨⟨by omega, by omega⟩, trivial⟩ ?_
      refine pm_icmp hK zmm304 .ne 40 59 rfl rfl (fun h1 => ?_) (fun h1 => ?_)
      · have h1 : μ 214 k ≠ w := h1
        refine pm_blk hK zmm304 [] 2 2 [(2, 205), (0, w), (0, k + 1)] [] μ [pm_in (k + 1)] rfl ⟨pm_in_mk (by omega) (by omega), trivial⟩ ?_
        exact ih _ (by omega) rfl (by omega) (by omega) hT
      · have h1 : μ 214 k = w := h1
        have f3 := zT_get hT zs216_0 (i := k) (by omega) (by omega)
        have f4 := zT_get hT zs217_0 (i := k) (by omega) (by omega)
        refine pm_blk hK zmm304 [] 8 34 [(2, 205), (0, w), (0, k)] [(0, μ 217 k), (0, μ 216 k)] μ [0 ≤ k ∧ k < 48, 0 ≤ k ∧ k < 48] rfl ⟨⟨by omega, by omega⟩, ⟨by omega, by omega⟩, trivial⟩ ?_
        refine pm_icmp hK zmm304 .eq 23 57 rfl rfl (fun h2 => ?_) (fun h2 => ?_)
        · have h2 : μ 216 k = μ 217 k := h2
          refine pm_blk hK zmm304 [] 1 58 [(2, 205), (0, w), (0, k)] [(0, k)] μ [] rfl trivial ?_
          exact pm_iret rfl rfl ⟨_, rfl, by omega, by omega, hT⟩
        · have h2 : μ 216 k ≠ μ 217 k := h2
          obtain ⟨q1, q2, q3, q4, q5, q6⟩ := hT.2.1.2.2 k (by omega) (by omega)
          have hseg := q6
          refine pm_blk hK zmm304 [] 10 51 [(2, 205), (0, w), (0, k)] [(0, μ 217 k), (0, μ 216 k), (0, 0), (2, 205)] μ [0 ≤ k ∧ k < 48, 0 ≤ k ∧ k < 48] rfl ⟨⟨by omega, by omega⟩, ⟨by omega, by omega⟩, trivial⟩ ?_
          refine pm_call hK zmm304 (328, 0, 305, 3) zM305 (1, 23) [(2, 205), (0, 0), (0, μ 216 k), (0, μ 217 k)] [] rfl rfl rfl rfl ⟨by omega, by rw [zn305]; omega⟩ (zh_runs hK (a := (μ 216 k)) (b := (μ 217 k)) (by omega) (by omega) (by omega) hseg hT hb225 ⟨Nat.le_refl _, Nat.le_refl _⟩) (fun st1 μc1 hp1 => ?_)
          obtain ⟨x1, rfl, hx1, hTc1, hfr1⟩ := hp1
          have hm1 : μc1 213 0 = μ 213 0 := by rw [hfr1 213 (by decide)]
          refine pm_if hK zmm304 .eq 5 59 rfl rfl (fun h3 => ?_) (fun h3 => ?_)
          · have h3 : x1 = (0 : Int) := h3
            refine pm_blk hK zmm304 [] 2 2 [(2, 205), (0, w), (0, k + 1)] [] μc1 [pm_in (k + 1)] rfl ⟨pm_in_mk (by omega) (by omega), trivial⟩ ?_
            exact ih _ (by omega) rfl (by omega) (by omega) hTc1
          · have h3 : x1 ≠ (0 : Int) := h3
            refine pm_blk hK zmm304 [] 1 58 [(2, 205), (0, w), (0, k)] [(0, k)] μc1 [] rfl trivial ?_
            exact pm_iret rfl rfl ⟨_, rfl, by omega, by omega, hTc1⟩
set_option maxRecDepth 100000 in
theorem zh_lineOf (hK : zKK ST) {w : Int} (hT : zTJ μ) (hb225 : sx_bit Wm 225 = true) (hbd : 2 ≤ bud.1 ∧ 48 ≤ bud.2.1) : zC D Wm ST b0 l Sg zM304 bud [(2, 205), (0, w)] μ (fun st' μ' => ∃ x, st' = [(0, x)] ∧ -1 ≤ x ∧ x < μ' 213 0 ∧ zTJ μ') := by
  refine pm_blk hK zmm304 [] 2 2 [(2, 205), (0, w), (0, 0)] [] μ [] rfl trivial ?_
  exact zl_lineOf hK hb225 hbd _ (k := 0) rfl (by omega) (by omega) hT
set_option maxRecDepth 100000 in
theorem zh_lawTells (hK : zKK ST) {w o t : Int} (ho : pm_in o) (ht : 0 ≤ t) (hT : zTJ μ) (hb225 : sx_bit Wm 225 = true) (hbd : 3 ≤ bud.1 ∧ 70 ≤ bud.2.1) : zC D Wm ST b0 l Sg zM303 bud [(2, 205), (0, w), (0, o), (0, t)] μ (fun st' μ' => ∃ x, st' = [(0, x)] ∧ 0 ≤ x ∧ x ≤ t ∧ zTJ μ') := by
  refine pm_blk hK zmm303 [] 2 2 [(2, 205), (0, w), (0, o), (0, t), (9, 0)] [(0, w), (2, 205)] μ [] rfl trivial ?_
  refine pm_call hK zmm303 (337, 0, 304, 1) zM304 (2, 48) [(2, 205), (0, w)] [] rfl rfl rfl rfl ⟨by omega, by rw [zn304]; omega⟩ (zh_lineOf hK hT hb225 ⟨Nat.le_refl _, Nat.le_refl _⟩) (fun st1 μc1 hp1 => ?_)
  obtain ⟨x1, rfl, hx1, hy1, hTc1⟩ := hp1
  have f0 := zT_get hTc1 zs213_0 (i := 0) (by omega) (by omega)
  refine pm_blk hK zmm303 [] 4 11 [(2, 205), (0, w), (0, o), (0, t), (0, x1)] [(0, (-1)), (0, x1), (2, 205)] μc1 [] rfl trivial ?_
  refine pm_icmp hK zmm303 .ne 7 18 rfl rfl (fun h0 => ?_) (fun h0 => ?_)
  · have h0 : x1 ≠ ((-1) : Int) := h0
    obtain ⟨q1, q2, q3, q4, q5, q6⟩ := hTc1.2.1.2.2 x1 (by omega) (by omega)
    have hseg := q5
    have f1 := zT_get hTc1 zs215_0 (i := x1) (by omega) (by omega)
    have f2 := zT_get hTc1 zs216_0 (i := x1) (by omega) (by omega)
    refine pm_blk hK zmm303 [] 10 34 [(2, 205), (0, w), (0, o), (0, t), (0, x1)] [(0, μc1 216 x1), (0, μc1 215 x1), (0, 0), (2, 205), (2, 205)] μc1 [0 ≤ x1 ∧ x1 < 48, 0 ≤ x1 ∧ x1 < 48] rfl ⟨⟨by omega, by omega⟩, ⟨by omega, by omega⟩, trivial⟩ ?_
    refine pm_call hK zmm303 (328, 0, 305, 3) zM305 (1, 23) [(2, 205), (0, 0), (0, μc1 215 x1), (0, μc1 216 x1)] [(2, 205)] rfl rfl rfl rfl ⟨by omega, by rw [zn305]; omega⟩ (zh_runs hK (a := (μc1 215 x1)) (b := (μc1 216 x1)) (by omega) (by omega) (by omega) hseg hTc1 hb225 ⟨Nat.le_refl _, Nat.le_refl _⟩) (fun st2 μc2 hp2 => ?_)
    obtain ⟨x2, rfl, hx2, hTc2, hfr2⟩ := hp2
    refine pm_blk hK zmm303 [] 2 39 [(2, 205), (0, w), (0, o), (0, t), (0, x1)] [(0, t), (0, 0), (0, x2), (2, 205)] μc2 [] rfl trivial ?_
    refine pm_call hK zmm303 (340, 0, 307, 3) zM307 (0, 0) [(2, 205), (0, x2), (0, 0), (0, t)] [] rfl rfl rfl rfl ⟨by omega, by rw [zn307]; omega⟩ (zh_held hK ⟨Nat.le_refl _, Nat.le_refl _⟩) (fun st3 μc3 hp3 => ?_)
    obtain ⟨rfl, rfl⟩ := hp3
    refine pm_iret rfl rfl ⟨_, rfl, ?_, ?_, hTc2⟩
    · split
      · omega
      · split <;> omega
    · split
      · omega
      · split <;> omega
  · have h0 : x1 = ((-1) : Int) := h0
    refine pm_blk hK zmm303 [] 4 39 [(2, 205), (0, w), (0, o), (0, t), (0, x1)] [(0, t), (0, 0), (0, o), (2, 205)] μc1 [] rfl trivial ?_
    refine pm_call hK zmm303 (340, 0, 307, 3) zM307 (0, 0) [(2, 205), (0, o), (0, 0), (0, t)] [] rfl rfl rfl rfl ⟨by omega, by rw [zn307]; omega⟩ (zh_held hK ⟨Nat.le_refl _, Nat.le_refl _⟩) (fun st4 μc4 hp4 => ?_)
    obtain ⟨rfl, rfl⟩ := hp4
    refine pm_iret rfl rfl ⟨_, rfl, ?_, ?_, hTc1⟩
    · split
      · omega
      · split <;> omega
    · split
      · omega
      · split <;> omega
end ZHW
