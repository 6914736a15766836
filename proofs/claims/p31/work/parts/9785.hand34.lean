/-! waltz, both sides; walks printed by program (wip/p30/pmgen.py) and filled by hand -/
section ZHW
variable {D : va_G} {Wm : Nat} {ST : List (String × String × String × Nat)} {b0 : sx_B} {l : Launch} {Sg : Nat → Option Nat} {bud : sx_Bu} {μ : pm_Mem} {B0 : Nat → Prop} {J : (Nat → Option Nat) → Heap → Prop}
set_option maxRecDepth 100000 in
theorem zh_fmodp (hK : zKK ST) {x : Int} (hx : 0 ≤ x ∧ x ≤ 900000) (hbd : 0 ≤ bud.1 ∧ 0 ≤ bud.2.1) : zC D Wm ST b0 l Sg zM99 bud [(0, x), (0, 1000000007)] μ (fun st' μ' => μ = μ' ∧ st' = [(0, x)]) := by
  have q1 := zpxor (x := x) (y := 1000000007) ⟨by omega, by omega⟩ ⟨by omega, by omega⟩
  have q3 : Int.tmod x 1000000007 = x := Int.tmod_eq_of_lt (by omega) (by omega)
  refine pm_blk hK zmm99 [] 7 7 [(0, x), (0, 1000000007), (0, Int.tmod x 1000000007)] [(0, pm_xor x 1000000007)] μ [1000000007 ≠ 0] rfl ⟨by omega, trivial⟩ ?_
  refine pm_if hK zmm99 .ge 11 18 rfl rfl (fun h0 => ?_) (fun h0 => ?_)
  · have h0 : (0 : Int) ≤ pm_xor x 1000000007 := h0
    refine pm_blk hK zmm99 [] 1 19 [(0, x), (0, 1000000007), (0, Int.tmod x 1000000007)] [(0, Int.tmod x 1000000007)] μ [] rfl trivial ?_
    first
    | (exfalso; omega)
    | exact pm_iret rfl rfl ⟨rfl, by rw [q3]⟩
  · have h0 : pm_xor x 1000000007 < (0 : Int) := h0
    refine pm_blk hK zmm99 [] 1 11 [(0, x), (0, 1000000007), (0, Int.tmod x 1000000007)] [(0, Int.tmod x 1000000007)] μ [] rfl trivial ?_
    refine pm_if hK zmm99 .eq 7 18 rfl rfl (fun h1 => ?_) (fun h1 => ?_)
    · have h1 : Int.tmod x 1000000007 = (0 : Int) := h1
      refine pm_blk hK zmm99 [] 1 19 [(0, x), (0, 1000000007), (0, Int.tmod x 1000000007)] [(0, Int.tmod x 1000000007)] μ [] rfl trivial ?_
      first
      | (exfalso; omega)
      | exact pm_iret rfl rfl ⟨rfl, by rw [q3]⟩
    · have h1 : Int.tmod x 1000000007 ≠ (0 : Int) := h1
      refine pm_blk hK zmm99 [] 3 17 [(0, x), (0, 1000000007), (0, Int.tmod x 1000000007)] [(0, (Int.tmod x 1000000007) + 1000000007)] μ [pm_in ((Int.tmod x 1000000007) + 1000000007)] rfl ⟨pm_in_mk (by omega) (by omega), trivial⟩ ?_
      first
      | (exfalso; omega)
      | exact pm_iret rfl rfl ⟨rfl, by rw [q3]⟩
set_option maxRecDepth 100000 in
theorem zl_fil0 (hK : zKK ST)  (hb203 : sx_bit Wm 203 = true) (hbd : 0 ≤ bud.1 ∧ 0 ≤ bud.2.1) : ∀ (n : Nat) {i : Int} {μ : pm_Mem}, (501 - i).toNat = n → ∀ (hi : 0 ≤ i ∧ i ≤ 501) (hz : zwK μ i) (hT : zTJ μ), zW D Wm ST b0 l Sg zM77 bud (pm_X zM77 (fun st' μ' => st' = [] ∧ zTJ μ' ∧ zwK μ' 501)) 5 [(2, 203), (0, 0), (0, i), (0, 501)] [] μ := by
  intro n
  induction n using Nat.strongRecOn with
  | ind n ih =>
    intro i μ hn hi hz hT
    refine pm_blk hK zmm77 [] 2 7 [(2, 203), (0, 0), (0, i), (0, 501)] [(0, 501), (0, i)] μ [] rfl trivial ?_
    refine pm_icmp hK zmm77 .ge 13 20 rfl rfl (fun h0 => ?_) (fun h0 => ?_)
    · have h0 : (501 : Int) ≤ i := h0
      have ei : i = 501 := by omega
      exact pm_vret rfl rfl ⟨rfl, hT, by rw [← ei]; exact hz⟩
    · have h0 : i < (501 : Int) := h0
      refine pm_blk hK zmm77 [] 4 14 [(2, 203), (0, 0), (0, i), (0, 501)] [] (pm_up μ 203 i 0) [sx_bit Wm 203 = true, 0 ≤ i ∧ i < 501] rfl ⟨hb203, ⟨by omega, by omega⟩, trivial⟩ ?_
      obtain ⟨μ1, eμ1⟩ : ∃ μ', μ' = pm_up μ 203 i 0 := ⟨_, rfl⟩
      rw [← eμ1]
      have hTμ1 : zTJ μ1 := by rw [eμ1]; exact zT_up hT zs203_0 rfl (i := i) (by omega) (by omega) (by omega) (by omega)
      refine pm_blk hK zmm77 [] 2 5 [(2, 203), (0, 0), (0, i + 1), (0, 501)] [] μ1 [pm_in (i + 1)] rfl ⟨pm_in_mk (by omega) (by omega), trivial⟩ ?_
      refine ih _ (by omega) rfl ⟨by omega, by omega⟩ ?_ hTμ1
      rw [eμ1]
      exact zwK_s hz
set_option maxRecDepth 100000 in
theorem zh_fil0 (hK : zKK ST) (hT : zTJ μ) (hb203 : sx_bit Wm 203 = true) (hbd : 0 ≤ bud.1 ∧ 0 ≤ bud.2.1) : zC D Wm ST b0 l Sg zM77 bud [(2, 203), (0, 0)] μ (fun st' μ' => st' = [] ∧ zTJ μ' ∧ zwK μ' 501) := by
  refine pm_blk hK zmm77 [] 5 5 [(2, 203), (0, 0), (0, 0), (0, 501)] [] μ [] rfl trivial ?_
  exact zl_fil0 hK hb203 hbd _ (i := 0) rfl ⟨by omega, by omega⟩ zwK_0 hT
set_option maxRecDepth 100000 in
theorem zl_dn2 (hK : zKK ST) {X : Nat → List pm_V → List pm_V → pm_Mem → Prop} (hb203 : sx_bit Wm 203 = true) {u a : Int} (ha : 1 ≤ a ∧ a ≤ 30) (K : ∀ (s t : Int) (μ : pm_Mem), 1 ≤ s ∧ s ≤ 4 → s = 4 ∨ s = a + 1 → t = zwt a s → zwI μ a s → zTJ μ → zW D Wm ST b0 l Sg zM109 bud X 98 [(2, 202), (0, u), (2, 203), (0, a), (0, t), (0, s), (9, 0), (9, 0)] [] μ) (hbd : 1 ≤ bud.1 ∧ 23 ≤ bud.2.1) : ∀ (n : Nat) {t s : Int} {μ : pm_Mem}, (4 - s).toNat = n → ∀ (hs : 1 ≤ s ∧ s ≤ 4) (hsa : s ≤ a + 1) (ht : t = zwt a s) (hI : zwI μ a s) (hT : zTJ μ), zW D Wm ST b0 l Sg zM109 bud X 33 [(2, 202), (0, u), (2, 203), (0, a), (0, t), (0, s), (9, 0), (9, 0)] [] μ := by
  intro n
  induction n using Nat.strongRecOn with
  | ind n ih =>
    intro t s μ hn hs hsa ht hI hT
    have tb := zwt_bd ha hs
    refine pm_blk hK zmm109 [] 2 36 [(2, 202), (0, u), (2, 203), (0, a), (0, t), (0, s), (9, 0), (9, 0)] [(0, 3), (0, s)] μ [] rfl trivial ?_
    refine pm_icmp hK zmm109 .gt 62 98 rfl rfl (fun h0 => ?_) (fun h0 => ?_)
    · have h0 : (3 : Int) < s := h0
      exact K _ _ _ hs (by omega) ht hI hT
    · have h0 : s ≤ (3 : Int) := h0
      refine pm_blk hK zmm109 [] 2 42 [(2, 202), (0, u), (2, 203), (0, a), (0, t), (0, s), (9, 0), (9, 0)] [(0, a), (0, s)] μ [] rfl trivial ?_
      refine pm_icmp hK zmm109 .gt 56 98 rfl rfl (fun h1 => ?_) (fun h1 => ?_)
      · have h1 : a < s := h1
        exact K _ _ _ hs (by omega) ht hI hT
      · have h1 : s ≤ a := h1
        have f1 := zT_get hT zs203_0 (i := (a - s) * 4) (by omega) (by omega)
        have f2 := zT_get hT zs203_0 (i := ((a - s) * 4) + s) (by omega) (by omega)
        refine pm_blk hK zmm109 [] 14 64 [(2, 202), (0, u), (2, 203), (0, a), (0, t), (0, s), (0, (a - s) * 4), (9, 0)] [(0, μ 203 (((a - s) * 4) + s)), (0, μ 203 ((a - s) * 4))] μ [pm_in (a - s), pm_in ((a - s) * 4), 0 ≤ (a - s) * 4 ∧ (a - s) * 4 < 501, pm_in (((a - s) * 4) + s), 0 ≤ ((a - s) * 4) + s ∧ ((a - s) * 4) + s < 501] rfl ⟨pm_in_mk (by omega) (by omega), pm_in_mk (by omega) (by omega), ⟨by omega, by omega⟩, pm_in_mk (by omega) (by omega), ⟨by omega, by omega⟩, trivial⟩ ?_
        have r1 := zwI_get hI (j := (a - s) * 4) (by omega) (by omega)
        have r2 := zwI_get hI (j := (a - s) * 4 + s) (by omega) (by omega)
        have q0 := zwf ha ⟨hs.1, by omega⟩ (by omega)
        have q1 := zwa_bd (j := (a - s) * 4) (by omega) (by omega)
        have q2 := zwa_bd (j := (a - s) * 4 + s) (by omega) (by omega)
        have q4 := zwa_bd (j := 4 * a + s) (by omega) (by omega)
        refine pm_blk hK zmm109 [] 2 67 [(2, 202), (0, u), (2, 203), (0, a), (0, t), (0, s), (0, (a - s) * 4), (9, 0)] [(0, 1000000007), (0, (μ 203 ((a - s) * 4)) - (μ 203 (((a - s) * 4) + s)))] μ [pm_in ((μ 203 ((a - s) * 4)) - (μ 203 (((a - s) * 4) + s)))] rfl ⟨pm_in_mk (by omega) (by omega), trivial⟩ ?_
        refine pm_call hK zmm109 (68, 1, 99, 2) zM99 (0, 0) [(0, (μ 203 ((a - s) * 4)) - (μ 203 (((a - s) * 4) + s))), (0, 1000000007)] [] rfl rfl rfl rfl ⟨by omega, by rw [zn99]; omega⟩ (zh_fmodp hK (x := ((μ 203 ((a - s) * 4)) - (μ 203 (((a - s) * 4) + s)))) ⟨by omega, by omega⟩ ⟨Nat.le_refl _, Nat.le_refl _⟩) (fun st1 μc1 hp1 => ?_)
        obtain ⟨rfl, rfl⟩ := hp1
        refine pm_blk hK zmm109 [] 9 82 [(2, 202), (0, u), (2, 203), (0, a), (0, t), (0, s), (0, (a - s) * 4), (0, ((μ 203 ((a - s) * 4)) - (μ 203 (((a - s) * 4) + s))))] [] (pm_up μ 203 ((a * 4) + s) (((μ 203 ((a - s) * 4)) - (μ 203 (((a - s) * 4) + s))))) [pm_in (a * 4), pm_in ((a * 4) + s), sx_bit Wm 203 = true, 0 ≤ (a * 4) + s ∧ (a * 4) + s < 501] rfl ⟨pm_in_mk (by omega) (by omega), pm_in_mk (by omega) (by omega), hb203, ⟨by omega, by omega⟩, trivial⟩ ?_
        obtain ⟨μ1, eμ1⟩ : ∃ μ', μ' = pm_up μ 203 ((a * 4) + s) (((μ 203 ((a - s) * 4)) - (μ 203 (((a - s) * 4) + s)))) := ⟨_, rfl⟩
        rw [← eμ1]
        have hTμ1 : zTJ μ1 := by rw [eμ1]; exact zT_up hT zs203_0 rfl (i := (a * 4) + s) (by omega) (by omega) (by omega) (by omega)
        refine pm_blk hK zmm109 [] 8 33 [(2, 202), (0, u), (2, 203), (0, a), (0, Int.tmod (t + (((μ 203 ((a - s) * 4)) - (μ 203 (((a - s) * 4) + s))))) 1000000007), (0, s + 1), (0, (a - s) * 4), (0, ((μ 203 ((a - s) * 4)) - (μ 203 (((a - s) * 4) + s))))] [] μ1 [pm_in (t + (((μ 203 ((a - s) * 4)) - (μ 203 (((a - s) * 4) + s))))), 1000000007 ≠ 0, pm_in (s + 1)] rfl ⟨pm_in_mk (by omega) (by omega), by omega, pm_in_mk (by omega) (by omega), trivial⟩ ?_
        refine pm_hide [6, 7] ?_
        have tm : (Int.tmod (t + (((μ 203 ((a - s) * 4)) - (μ 203 (((a - s) * 4) + s))))) 1000000007) = t + zwa (4 * a + s) := by rw [Int.tmod_eq_of_lt (by omega) (by omega)]; omega
        refine ih _ (by omega) rfl ⟨by omega, by omega⟩ (by omega) (by rw [tm, ht, zwt_s (by omega) hs.1]) ?_ hTμ1
        rw [eμ1]
        exact zwI_up hI hs.1 (by omega)
set_option maxRecDepth 100000 in
theorem zl_dn1 (hK : zKK ST)  (hb203 : sx_bit Wm 203 = true) {u : Int} (hu : 0 ≤ u ∧ u ≤ 30) (hbd : 1 ≤ bud.1 ∧ 23 ≤ bud.2.1) : ∀ (n : Nat) {a : Int} {μ : pm_Mem}, (31 - a).toNat = n → ∀ (ha : 1 ≤ a ∧ a ≤ 31) (han : a ≤ u + 1) (hI : zwI μ a 1) (hT : zTJ μ), zW D Wm ST b0 l Sg zM109 bud (pm_X zM109 (fun st' μ' => zTJ μ' ∧ st' = [(0, zwz u)])) 16 [(2, 202), (0, u), (2, 203), (0, a), (9, 0), (9, 0), (9, 0), (9, 0)] [] μ := by
  intro n
  induction n using Nat.strongRecOn with
  | ind n ih =>
    intro a μ hn ha han hI hT
    refine pm_blk hK zmm109 [] 2 18 [(2, 202), (0, u), (2, 203), (0, a), (9, 0), (9, 0), (9, 0), (9, 0)] [(0, u), (0, a)] μ [] rfl trivial ?_
    refine pm_icmp hK zmm109 .gt 93 111 rfl rfl (fun h0 => ?_) (fun h0 => ?_)
    · have h0 : u < a := h0
      refine pm_blk hK zmm109 [] 3 115 [(2, 202), (0, u), (2, 203), (0, a), (9, 0), (9, 0), (9, 0), (9, 0)] [(0, 30), (0, 0), (0, u)] μ [] rfl trivial ?_
      refine pm_call hK zmm109 (33, 1, 16, 3) zM16 (0, 0) [(0, u), (0, 0), (0, 30)] [] rfl rfl rfl rfl ⟨by omega, by rw [zn16]; omega⟩ (zh_within hK ⟨Nat.le_refl _, Nat.le_refl _⟩) (fun st1 μc1 hp1 => ?_)
      obtain ⟨rfl, rfl⟩ := hp1
      refine pm_if hK zmm109 .eq 11 129 rfl rfl (fun h1 => ?_) (fun h1 => ?_)
      · have h1 : (if 0 ≤ u ∧ u ≤ 30 then 1 else 0 : Int) = (0 : Int) := h1
        have h1 := zif0 h1
        refine pm_blk hK zmm109 [] 1 130 [(2, 202), (0, u), (2, 203), (0, a), (9, 0), (9, 0), (9, 0), (9, 0)] [(0, (-1))] μ [] rfl trivial ?_
        first
        | (exfalso; omega)
        | exact pm_iret rfl rfl ⟨hT, by rw [show ((-1)) = zwz u by rw [zwz_in hu, show u * 4 = 4 * u by omega]; exact zwI_get hI (by omega) (by omega)]⟩
      · have h1 : (if 0 ≤ u ∧ u ≤ 30 then 1 else 0 : Int) ≠ (0 : Int) := h1
        have h1 := zif1 h1
        have f1 := zT_get hT zs203_0 (i := u * 4) (by omega) (by omega)
        refine pm_blk hK zmm109 [] 6 130 [(2, 202), (0, u), (2, 203), (0, a), (9, 0), (9, 0), (9, 0), (9, 0)] [(0, μ 203 (u * 4))] μ [pm_in (u * 4), 0 ≤ u * 4 ∧ u * 4 < 501] rfl ⟨pm_in_mk (by omega) (by omega), ⟨by omega, by omega⟩, trivial⟩ ?_
        first
        | (exfalso; omega)
        | exact pm_iret rfl rfl ⟨hT, by rw [show (μ 203 (u * 4)) = zwz u by rw [zwz_in hu, show u * 4 = 4 * u by omega]; exact zwI_get hI (by omega) (by omega)]⟩
    · have h0 : a ≤ u := h0
      refine pm_blk hK zmm109 [] 2 24 [(2, 202), (0, u), (2, 203), (0, a), (9, 0), (9, 0), (9, 0), (9, 0)] [(0, 30), (0, a)] μ [] rfl trivial ?_
      refine pm_icmp hK zmm109 .gt 87 111 rfl rfl (fun h2 => ?_) (fun h2 => ?_)
      · have h2 : (30 : Int) < a := h2
        refine pm_blk hK zmm109 [] 3 115 [(2, 202), (0, u), (2, 203), (0, a), (9, 0), (9, 0), (9, 0), (9, 0)] [(0, 30), (0, 0), (0, u)] μ [] rfl trivial ?_
        refine pm_call hK zmm109 (33, 1, 16, 3) zM16 (0, 0) [(0, u), (0, 0), (0, 30)] [] rfl rfl rfl rfl ⟨by omega, by rw [zn16]; omega⟩ (zh_within hK ⟨Nat.le_refl _, Nat.le_refl _⟩) (fun st2 μc2 hp2 => ?_)
        obtain ⟨rfl, rfl⟩ := hp2
        refine pm_if hK zmm109 .eq 11 129 rfl rfl (fun h3 => ?_) (fun h3 => ?_)
        · have h3 : (if 0 ≤ u ∧ u ≤ 30 then 1 else 0 : Int) = (0 : Int) := h3
          have h3 := zif0 h3
          refine pm_blk hK zmm109 [] 1 130 [(2, 202), (0, u), (2, 203), (0, a), (9, 0), (9, 0), (9, 0), (9, 0)] [(0, (-1))] μ [] rfl trivial ?_
          first
          | (exfalso; omega)
          | exact pm_iret rfl rfl ⟨hT, by rw [show ((-1)) = zwz u by rw [zwz_in hu, show u * 4 = 4 * u by omega]; exact zwI_get hI (by omega) (by omega)]⟩
        · have h3 : (if 0 ≤ u ∧ u ≤ 30 then 1 else 0 : Int) ≠ (0 : Int) := h3
          have h3 := zif1 h3
          have f2 := zT_get hT zs203_0 (i := u * 4) (by omega) (by omega)
          refine pm_blk hK zmm109 [] 6 130 [(2, 202), (0, u), (2, 203), (0, a), (9, 0), (9, 0), (9, 0), (9, 0)] [(0, μ 203 (u * 4))] μ [pm_in (u * 4), 0 ≤ u * 4 ∧ u * 4 < 501] rfl ⟨pm_in_mk (by omega) (by omega), ⟨by omega, by omega⟩, trivial⟩ ?_
          first
          | (exfalso; omega)
          | exact pm_iret rfl rfl ⟨hT, by rw [show (μ 203 (u * 4)) = zwz u by rw [zwz_in hu, show u * 4 = 4 * u by omega]; exact zwI_get hI (by omega) (by omega)]⟩
      · have h2 : a ≤ (30 : Int) := h2
        refine pm_blk hK zmm109 [] 4 33 [(2, 202), (0, u), (2, 203), (0, a), (0, 0), (0, 1), (9, 0), (9, 0)] [] μ [] rfl trivial ?_
        refine zl_dn2 hK hb203 (u := u) (a := a) ⟨by omega, by omega⟩ (fun s t μ hs he ht hI hT => ?_) hbd _ (t := 0) (s := 1) rfl ⟨by omega, by omega⟩ (by omega) (zwt_1 a).symm hI hT
        have tb := zwt_bd (a := a) (s := s) ⟨by omega, by omega⟩ hs
        refine pm_blk hK zmm109 [] 6 105 [(2, 202), (0, u), (2, 203), (0, a), (0, t), (0, s), (9, 0), (9, 0)] [] (pm_up μ 203 (a * 4) t) [pm_in (a * 4), sx_bit Wm 203 = true, 0 ≤ a * 4 ∧ a * 4 < 501] rfl ⟨pm_in_mk (by omega) (by omega), hb203, ⟨by omega, by omega⟩, trivial⟩ ?_
        obtain ⟨μy1, eμy1⟩ : ∃ μ', μ' = pm_up μ 203 (a * 4) t := ⟨_, rfl⟩
        rw [← eμy1]
        have hTμy1 : zTJ μy1 := by rw [eμy1]; exact zT_up hT zs203_0 rfl (i := a * 4) (by omega) (by omega) (by omega) (by omega)
        refine pm_blk hK zmm109 [] 2 16 [(2, 202), (0, u), (2, 203), (0, a + 1), (0, t), (0, s), (9, 0), (9, 0)] [] μy1 [pm_in (a + 1)] rfl ⟨pm_in_mk (by omega) (by omega), trivial⟩ ?_
        refine pm_hide [4, 5] ?_
        refine ih _ (by omega) rfl ⟨by omega, by omega⟩ (by omega) ?_ hTμy1
        rw [eμy1]
        exact zwI_end hI ⟨by omega, by omega⟩ hs he ht
set_option maxRecDepth 100000 in
theorem zh_dances (hK : zKK ST) {u : Int} (hu : 0 ≤ u ∧ u ≤ 30) (hT : zTJ μ) (hb203 : sx_bit Wm 203 = true) (hbd : 1 ≤ bud.1 ∧ 23 ≤ bud.2.1) : zC D Wm ST b0 l Sg zM109 bud [(2, 202), (0, u)] μ (fun st' μ' => zTJ μ' ∧ st' = [(0, zwz u)]) := by
  refine pm_blk hK zmm109 [] 5 7 [(2, 202), (0, u), (2, 203), (9, 0), (9, 0), (9, 0), (9, 0), (9, 0)] [(0, 0), (2, 203)] μ [] rfl trivial ?_
  refine pm_call hK zmm109 (18, 1, 77, 2) zM77 (0, 0) [(2, 203), (0, 0)] [] rfl rfl rfl rfl ⟨by omega, by rw [zn77]; omega⟩ (zh_fil0 hK hT hb203 ⟨Nat.le_refl _, Nat.le_refl _⟩) (fun st1 μc1 hp1 => ?_)
  obtain ⟨rfl, hTc1, hz1⟩ := hp1
  refine pm_blk hK zmm109 [] 4 14 [(2, 202), (0, u), (2, 203), (9, 0), (9, 0), (9, 0), (9, 0), (9, 0)] [] (pm_up μc1 203 0 1) [sx_bit Wm 203 = true, 0 ≤ 0 ∧ 0 < 501] rfl ⟨hb203, ⟨by omega, by omega⟩, trivial⟩ ?_
  obtain ⟨μ1, eμ1⟩ : ∃ μ', μ' = pm_up μc1 203 0 1 := ⟨_, rfl⟩
  rw [← eμ1]
  have hTμ1 : zTJ μ1 := by rw [eμ1]; exact zT_up hTc1 zs203_0 rfl (i := 0) (by omega) (by omega) (by omega) (by omega)
  refine pm_blk hK zmm109 [] 2 16 [(2, 202), (0, u), (2, 203), (0, 1), (9, 0), (9, 0), (9, 0), (9, 0)] [] μ1 [] rfl trivial ?_
  refine zl_dn1 hK hb203 hu hbd _ (a := 1) rfl ⟨by omega, by omega⟩ (by omega) ?_ hTμ1
  rw [eμ1]
  exact zwI_0 hz1
set_option maxRecDepth 100000 in
theorem zh_waltzx (hK : zKK ST) {u : Int} (hT : zTJ μ) (hb203 : sx_bit Wm 203 = true) (hbd : 2 ≤ bud.1 ∧ 50 ≤ bud.2.1) : zC D Wm ST b0 l Sg zM108 bud [(2, 1), (0, u)] μ (fun st' μ' => zTJ μ' ∧ st' = [(0, zwz u)]) := by
  refine pm_blk hK zmm108 [] 3 4 [(2, 1), (0, u)] [(0, 30), (0, 0), (0, u)] μ [] rfl trivial ?_
  refine pm_call hK zmm108 (94, 1, 16, 3) zM16 (0, 0) [(0, u), (0, 0), (0, 30)] [] rfl rfl rfl rfl ⟨by omega, by rw [zn16]; omega⟩ (zh_within hK ⟨Nat.le_refl _, Nat.le_refl _⟩) (fun st1 μc1 hp1 => ?_)
  obtain ⟨rfl, rfl⟩ := hp1
  refine pm_if hK zmm108 .eq 14 21 rfl rfl (fun h0 => ?_) (fun h0 => ?_)
  · have h0 : (if 0 ≤ u ∧ u ≤ 30 then 1 else 0 : Int) = (0 : Int) := h0
    have h0 := zif0 h0
    refine pm_blk hK zmm108 [] 1 22 [(2, 1), (0, u)] [(0, (-1))] μ [] rfl trivial ?_
    first
    | exact pm_iret rfl rfl ⟨hT, rfl⟩
    | exact pm_iret rfl rfl ⟨hT, by rw [zwz_out (by omega)]⟩
  · have h0 : (if 0 ≤ u ∧ u ≤ 30 then 1 else 0 : Int) ≠ (0 : Int) := h0
    have h0 := zif1 h0
    refine pm_blk hK zmm108 [] 3 15 [(2, 1), (0, u)] [(0, u), (2, 202)] μ [] rfl trivial ?_
    refine pm_call hK zmm108 (383, 0, 109, 1) zM109 (1, 23) [(2, 202), (0, u)] [] rfl rfl rfl rfl ⟨by omega, by rw [zn109]; omega⟩ (zh_dances hK (u := u) ⟨by omega, by omega⟩ hT hb203 ⟨Nat.le_refl _, Nat.le_refl _⟩) (fun st2 μc2 hp2 => ?_)
    obtain ⟨hTc2, rfl⟩ := hp2
    refine pm_blk hK zmm108 [] 1 22 [(2, 1), (0, u)] [(0, zwz u)] μc2 [] rfl trivial ?_
    first
    | exact pm_iret rfl rfl ⟨hTc2, rfl⟩
    | exact pm_iret rfl rfl ⟨hTc2, by rw [zwz_out (by omega)]⟩
set_option maxRecDepth 100000 in
theorem zh_added (hK : zKK ST) {a b : Int} (ha : 0 ≤ a ∧ a ≤ 900000) (hb : 0 ≤ b ∧ b ≤ 900000) (hbd : 0 ≤ bud.1 ∧ 0 ≤ bud.2.1) : zC D Wm ST b0 l Sg zM197 bud [(2, 205), (0, a), (0, b)] μ (fun st' μ' => μ = μ' ∧ st' = [(0, a + b)]) := by
  refine pm_blk hK zmm197 [] 4 5 [(2, 205), (0, a), (0, b)] [(0, 1000000007 - b), (0, a)] μ [pm_in (1000000007 - b)] rfl ⟨pm_in_mk (by omega) (by omega), trivial⟩ ?_
  refine pm_icmp hK zmm197 .lt 12 17 rfl rfl (fun h0 => ?_) (fun h0 => ?_)
  · have h0 : a < 1000000007 - b := h0
    refine pm_blk hK zmm197 [] 3 20 [(2, 205), (0, a), (0, b)] [(0, a + b)] μ [pm_in (a + b)] rfl ⟨pm_in_mk (by omega) (by omega), trivial⟩ ?_
    first
    | (exfalso; omega)
    | exact pm_iret rfl rfl ⟨rfl, rfl⟩
  · have h0 : 1000000007 - b ≤ a := h0
    refine pm_blk hK zmm197 [] 6 20 [(2, 205), (0, a), (0, b)] [(0, a - (1000000007 - b))] μ [pm_in (1000000007 - b), pm_in (a - (1000000007 - b))] rfl ⟨pm_in_mk (by omega) (by omega), pm_in_mk (by omega) (by omega), trivial⟩ ?_
    first
    | (exfalso; omega)
    | exact pm_iret rfl rfl ⟨rfl, rfl⟩
set_option maxRecDepth 100000 in
theorem zl_wm3 (hK : zKK ST) {X : Nat → List pm_V → List pm_V → pm_Mem → Prop} (hb242 : sx_bit Wm 242 = true) {u v k : Int} (hv : 0 ≤ v ∧ v ≤ 30) (hk : 1 ≤ k ∧ k ≤ 3) (K : ∀ (μ : pm_Mem), μ 242 (4 * v + k) = zwb (4 * v + k) → zwJ μ (4 * v + k) → zTJ μ → zW D Wm ST b0 l Sg zM196 bud X 123 [(2, 205), (0, u), (0, v), (0, k), (9, 0)] [] μ) (hbd : 1 ≤ bud.1 ∧ 22 ≤ bud.2.1) : ∀ (n : Nat) {q : Int} {μ : pm_Mem}, (4 - q).toNat = n → ∀ (hq : 0 ≤ q ∧ q ≤ 4) (hp : μ 242 (4 * v + k) = zwp v k q) (hJ : zwJ μ (4 * v + k)) (hT : zTJ μ), zW D Wm ST b0 l Sg zM196 bud X 63 [(2, 205), (0, u), (0, v), (0, k), (0, q)] [] μ := by
  intro n
  induction n using Nat.strongRecOn with
  | ind n ih =>
    intro q μ hn hq hp hJ hT
    have pb := zwp_bd hv ⟨by omega, hk.2⟩ hq
    refine pm_blk hK zmm196 [] 2 66 [(2, 205), (0, u), (0, v), (0, k), (0, q)] [(0, 4), (0, q)] μ [] rfl trivial ?_
    refine pm_icmp hK zmm196 .ge 57 123 rfl rfl (fun h0 => ?_) (fun h0 => ?_)
    · have h0 : (4 : Int) ≤ q := h0
      refine pm_hide [4] ?_
      first
      | exact K _ (by rw [hp, show q = 4 by omega, zwp_4 hv hk]) hJ hT
      | exact K _ (by rw [hp, ← zwp_4 hv hk, zwp_lt q hv.1 (by omega), zwp_lt 4 hv.1 (by omega)]) hJ hT
    · have h0 : q < (4 : Int) := h0
      refine pm_blk hK zmm196 [] 2 71 [(2, 205), (0, u), (0, v), (0, k), (0, q)] [(0, v), (0, k)] μ [] rfl trivial ?_
      refine pm_icmp hK zmm196 .gt 52 123 rfl rfl (fun h1 => ?_) (fun h1 => ?_)
      · have h1 : v < k := h1
        refine pm_hide [4] ?_
        first
        | exact K _ (by rw [hp, show q = 4 by omega, zwp_4 hv hk]) hJ hT
        | exact K _ (by rw [hp, ← zwp_4 hv hk, zwp_lt q hv.1 (by omega), zwp_lt 4 hv.1 (by omega)]) hJ hT
      · have h1 : k ≤ v := h1
        refine pm_blk hK zmm196 [] 2 77 [(2, 205), (0, u), (0, v), (0, k), (0, q)] [(0, k), (0, q)] μ [] rfl trivial ?_
        refine pm_icmp hK zmm196 .eq 40 117 rfl rfl (fun h2 => ?_) (fun h2 => ?_)
        · have h2 : q = k := h2
          refine pm_blk hK zmm196 [] 2 63 [(2, 205), (0, u), (0, v), (0, k), (0, q + 1)] [] μ [pm_in (q + 1)] rfl ⟨pm_in_mk (by omega) (by omega), trivial⟩ ?_
          first
          | refine ih _ (by omega) rfl ⟨by omega, by omega⟩ (by rw [zwp_n hv.1 (by omega) hq.1 (by omega)]; exact hp) hJ hT
          | refine ih _ (by omega) rfl ⟨by omega, by omega⟩ (by rw [eμ, pm_up_eq, zwp_s hv.1 (by omega) hq.1 (by omega) (by omega)]; omega) (by rw [eμ]; exact zwJ_up hJ (by omega)) hT
        · have h2 : q ≠ k := h2
          have f1 := zT_get hT zs242_0 (i := (4 * v) + k) (by omega) (by omega)
          have f2 := zT_get hT zs242_0 (i := (4 * (v - k)) + q) (by omega) (by omega)
          refine pm_blk hK zmm196 [] 26 113 [(2, 205), (0, u), (0, v), (0, k), (0, q)] [(0, μ 242 ((4 * (v - k)) + q)), (0, μ 242 ((4 * v) + k)), (2, 205), (0, (4 * v) + k), (2, 242)] μ [pm_in (4 * v), pm_in ((4 * v) + k), pm_in (4 * v), pm_in ((4 * v) + k), 0 ≤ (4 * v) + k ∧ (4 * v) + k < 124, pm_in (v - k), pm_in (4 * (v - k)), pm_in ((4 * (v - k)) + q), 0 ≤ (4 * (v - k)) + q ∧ (4 * (v - k)) + q < 124] rfl ⟨pm_in_mk (by omega) (by omega), pm_in_mk (by omega) (by omega), pm_in_mk (by omega) (by omega), pm_in_mk (by omega) (by omega), ⟨by omega, by omega⟩, pm_in_mk (by omega) (by omega), pm_in_mk (by omega) (by omega), pm_in_mk (by omega) (by omega), ⟨by omega, by omega⟩, trivial⟩ ?_
          have r1 := zwJ_get hJ (j := 4 * (v - k) + q) (by omega) (by omega)
          have q1 := zwb_bd (j := 4 * (v - k) + q) (by omega) (by omega)
          refine pm_call hK zmm196 (501, 0, 197, 2) zM197 (0, 0) [(2, 205), (0, μ 242 ((4 * v) + k)), (0, μ 242 ((4 * (v - k)) + q))] [(0, (4 * v) + k), (2, 242)] rfl rfl rfl rfl ⟨by omega, by rw [zn197]; omega⟩ (zh_added hK (a := (μ 242 ((4 * v) + k))) (b := (μ 242 ((4 * (v - k)) + q))) ⟨by omega, by omega⟩ ⟨by omega, by omega⟩ ⟨Nat.le_refl _, Nat.le_refl _⟩) (fun st1 μc1 hp1 => ?_)
          obtain ⟨rfl, rfl⟩ := hp1
          refine pm_blk hK zmm196 [] 1 117 [(2, 205), (0, u), (0, v), (0, k), (0, q)] [] (pm_up μ 242 ((4 * v) + k) ((μ 242 ((4 * v) + k)) + (μ 242 ((4 * (v - k)) + q)))) [sx_bit Wm 242 = true, 0 ≤ (4 * v) + k ∧ (4 * v) + k < 124] rfl ⟨hb242, ⟨by omega, by omega⟩, trivial⟩ ?_
          obtain ⟨μ1, eμ1⟩ : ∃ μ', μ' = pm_up μ 242 ((4 * v) + k) ((μ 242 ((4 * v) + k)) + (μ 242 ((4 * (v - k)) + q))) := ⟨_, rfl⟩
          rw [← eμ1]
          have hTμ1 : zTJ μ1 := by rw [eμ1]; exact zT_up hT zs242_0 rfl (i := (4 * v) + k) (by omega) (by omega) (by omega) (by omega)
          refine pm_blk hK zmm196 [] 2 63 [(2, 205), (0, u), (0, v), (0, k), (0, q + 1)] [] μ1 [pm_in (q + 1)] rfl ⟨pm_in_mk (by omega) (by omega), trivial⟩ ?_
          first
          | refine ih _ (by omega) rfl ⟨by omega, by omega⟩ (by rw [zwp_n hv.1 (by omega) hq.1 (by omega)]; exact hp) hJ hTμ1
          | refine ih _ (by omega) rfl ⟨by omega, by omega⟩ (by rw [eμ1, pm_up_eq, zwp_s hv.1 (by omega) hq.1 (by omega) (by omega)]; omega) (by rw [eμ1]; exact zwJ_up hJ (by omega)) hTμ1
set_option maxRecDepth 100000 in
theorem zl_wm2 (hK : zKK ST) {X : Nat → List pm_V → List pm_V → pm_Mem → Prop} (hb242 : sx_bit Wm 242 = true) {u v : Int} (hv : 0 ≤ v ∧ v ≤ 30) (K : ∀ (μ : pm_Mem), zwJ μ (4 * v + 4) → zTJ μ → zW D Wm ST b0 l Sg zM196 bud X 129 [(2, 205), (0, u), (0, v), (9, 0), (9, 0)] [] μ) (hbd : 1 ≤ bud.1 ∧ 22 ≤ bud.2.1) : ∀ (n : Nat) {k : Int} {μ : pm_Mem}, (4 - k).toNat = n → ∀ (hk : 1 ≤ k ∧ k ≤ 4) (hJ : zwJ μ (4 * v + k)) (hT : zTJ μ), zW D Wm ST b0 l Sg zM196 bud X 44 [(2, 205), (0, u), (0, v), (0, k), (9, 0)] [] μ := by
  intro n
  induction n using Nat.strongRecOn with
  | ind n ih =>
    intro k μ hn hk hJ hT
    refine pm_blk hK zmm196 [] 2 46 [(2, 205), (0, u), (0, v), (0, k), (9, 0)] [(0, 4), (0, k)] μ [] rfl trivial ?_
    refine pm_icmp hK zmm196 .ge 83 129 rfl rfl (fun h0 => ?_) (fun h0 => ?_)
    · have h0 : (4 : Int) ≤ k := h0
      refine pm_hide [3] ?_
      exact K _ (zwJ_eq hJ (by omega)) hT
    · have h0 : k < (4 : Int) := h0
      refine pm_blk hK zmm196 [] 9 60 [(2, 205), (0, u), (0, v), (0, k), (9, 0)] [] (pm_up μ 242 ((4 * v) + k) 0) [pm_in (4 * v), pm_in ((4 * v) + k), sx_bit Wm 242 = true, 0 ≤ (4 * v) + k ∧ (4 * v) + k < 124] rfl ⟨pm_in_mk (by omega) (by omega), pm_in_mk (by omega) (by omega), hb242, ⟨by omega, by omega⟩, trivial⟩ ?_
      obtain ⟨μ1, eμ1⟩ : ∃ μ', μ' = pm_up μ 242 ((4 * v) + k) 0 := ⟨_, rfl⟩
      rw [← eμ1]
      have hTμ1 : zTJ μ1 := by rw [eμ1]; exact zT_up hT zs242_0 rfl (i := (4 * v) + k) (by omega) (by omega) (by omega) (by omega)
      refine pm_blk hK zmm196 [] 2 63 [(2, 205), (0, u), (0, v), (0, k), (0, 0)] [] μ1 [] rfl trivial ?_
      refine zl_wm3 hK hb242 (u := u) (v := v) (k := k) hv ⟨by omega, by omega⟩ (fun μ hx hJ hT => ?_) hbd _ (q := 0) rfl ⟨by omega, by omega⟩ (by rw [eμ1, pm_up_eq]; rfl) (by rw [eμ1]; exact zwJ_up hJ (by omega)) hTμ1
      refine pm_blk hK zmm196 [] 2 44 [(2, 205), (0, u), (0, v), (0, k + 1), (9, 0)] [] μ [pm_in (k + 1)] rfl ⟨pm_in_mk (by omega) (by omega), trivial⟩ ?_
      exact ih _ (by omega) rfl ⟨by omega, by omega⟩ (zwJ_eq (zwJ_s hJ hx) (by omega)) hT
set_option maxRecDepth 100000 in
theorem zl_wm4 (hK : zKK ST)  {u : Int} (hu : 0 ≤ u ∧ u ≤ 30) (hbd : 1 ≤ bud.1 ∧ 22 ≤ bud.2.1) : ∀ (n : Nat) {z k : Int} {μ : pm_Mem}, (4 - k).toNat = n → ∀ (hk : 0 ≤ k ∧ k ≤ 4) (hz : z = zwS u k) (hJ : zwJ μ (4 * u + 4)) (hT : zTJ μ), zW D Wm ST b0 l Sg zM196 bud (pm_X zM196 (fun st' μ' => zTJ μ' ∧ st' = [(0, zwz u)])) 139 [(2, 205), (0, u), (0, z), (0, k), (9, 0)] [] μ := by
  intro n
  induction n using Nat.strongRecOn with
  | ind n ih =>
    intro z k μ hn hk hz hJ hT
    have sb := zwS_bd hu hk
    refine pm_blk hK zmm196 [] 2 141 [(2, 205), (0, u), (0, z), (0, k), (9, 0)] [(0, 4), (0, k)] μ [] rfl trivial ?_
    refine pm_icmp hK zmm196 .ge 25 166 rfl rfl (fun h0 => ?_) (fun h0 => ?_)
    · have h0 : (4 : Int) ≤ k := h0
      refine pm_blk hK zmm196 [] 1 167 [(2, 205), (0, u), (0, z), (0, k), (9, 0)] [(0, z)] μ [] rfl trivial ?_
      have ek : k = 4 := by omega
      exact pm_iret rfl rfl ⟨hT, by rw [hz, ek, zwS_4 hu]⟩
    · have h0 : k < (4 : Int) := h0
      have f1 := zT_get hT zs242_0 (i := (4 * u) + k) (by omega) (by omega)
      refine pm_blk hK zmm196 [] 10 156 [(2, 205), (0, u), (0, z), (0, k), (9, 0)] [(0, μ 242 ((4 * u) + k)), (0, z), (2, 205)] μ [pm_in (4 * u), pm_in ((4 * u) + k), 0 ≤ (4 * u) + k ∧ (4 * u) + k < 124] rfl ⟨pm_in_mk (by omega) (by omega), pm_in_mk (by omega) (by omega), ⟨by omega, by omega⟩, trivial⟩ ?_
      have r1 := zwJ_get hJ (j := 4 * u + k) (by omega) (by omega)
      have q1 := zwb_bd (j := 4 * u + k) (by omega) (by omega)
      refine pm_call hK zmm196 (501, 0, 197, 2) zM197 (0, 0) [(2, 205), (0, z), (0, μ 242 ((4 * u) + k))] [] rfl rfl rfl rfl ⟨by omega, by rw [zn197]; omega⟩ (zh_added hK (a := z) (b := (μ 242 ((4 * u) + k))) ⟨by omega, by omega⟩ ⟨by omega, by omega⟩ ⟨Nat.le_refl _, Nat.le_refl _⟩) (fun st1 μc1 hp1 => ?_)
      obtain ⟨rfl, rfl⟩ := hp1
      refine pm_blk hK zmm196 [] 3 139 [(2, 205), (0, u), (0, z + (μ 242 ((4 * u) + k))), (0, k + 1), (9, 0)] [] μ [pm_in (k + 1)] rfl ⟨pm_in_mk (by omega) (by omega), trivial⟩ ?_
      exact ih _ (by omega) rfl ⟨by omega, by omega⟩ (by rw [hz, zwS_s hu.1 hk.1]; omega) hJ hT
set_option maxRecDepth 100000 in
theorem zl_wm1 (hK : zKK ST)  (hb242 : sx_bit Wm 242 = true) {u : Int} (hu : 0 ≤ u ∧ u ≤ 30) (hbd : 1 ≤ bud.1 ∧ 22 ≤ bud.2.1) : ∀ (n : Nat) {v : Int} {μ : pm_Mem}, (u + 1 - v).toNat = n → ∀ (hv : 0 ≤ v ∧ v ≤ u + 1) (hJ : zwJ μ (4 * v)) (hT : zTJ μ), zW D Wm ST b0 l Sg zM196 bud (pm_X zM196 (fun st' μ' => zTJ μ' ∧ st' = [(0, zwz u)])) 20 [(2, 205), (0, u), (0, v), (9, 0), (9, 0)] [] μ := by
  intro n
  induction n using Nat.strongRecOn with
  | ind n ih =>
    intro v μ hn hv hJ hT
    refine pm_blk hK zmm196 [] 2 22 [(2, 205), (0, u), (0, v), (9, 0), (9, 0)] [(0, u), (0, v)] μ [] rfl trivial ?_
    refine pm_icmp hK zmm196 .gt 113 135 rfl rfl (fun h0 => ?_) (fun h0 => ?_)
    · have h0 : u < v := h0
      refine pm_blk hK zmm196 [] 4 139 [(2, 205), (0, u), (0, 0), (0, 0), (9, 0)] [] μ [] rfl trivial ?_
      exact zl_wm4 hK hu hbd _ (z := 0) (k := 0) rfl ⟨by omega, by omega⟩ rfl (zwJ_eq hJ (by omega)) hT
    · have h0 : v ≤ u := h0
      refine pm_blk hK zmm196 [] 6 33 [(2, 205), (0, u), (0, v), (9, 0), (9, 0)] [(0, v), (0, 4 * v), (2, 242)] μ [pm_in (4 * v)] rfl ⟨pm_in_mk (by omega) (by omega), trivial⟩ ?_
      refine pm_if hK zmm196 .ne 7 40 rfl rfl (fun h1 => ?_) (fun h1 => ?_)
      · have h1 : v ≠ (0 : Int) := h1
        refine pm_blk hK zmm196 [] 2 42 [(2, 205), (0, u), (0, v), (9, 0), (9, 0)] [] (pm_up μ 242 (4 * v) 0) [sx_bit Wm 242 = true, 0 ≤ 4 * v ∧ 4 * v < 124] rfl ⟨hb242, ⟨by omega, by omega⟩, trivial⟩ ?_
        obtain ⟨μ1, eμ1⟩ : ∃ μ', μ' = pm_up μ 242 (4 * v) 0 := ⟨_, rfl⟩
        rw [← eμ1]
        have hTμ1 : zTJ μ1 := by rw [eμ1]; exact zT_up hT zs242_0 rfl (i := 4 * v) (by omega) (by omega) (by omega) (by omega)
        refine pm_blk hK zmm196 [] 2 44 [(2, 205), (0, u), (0, v), (0, 1), (9, 0)] [] μ1 [] rfl trivial ?_
        refine zl_wm2 hK hb242 (u := u) (v := v) ⟨by omega, by omega⟩ (fun μ hJ hT => ?_) hbd _ (k := 1) rfl ⟨by omega, by omega⟩ (by rw [eμ1]; exact zwJ_s (zwJ_up hJ (by omega)) (by rw [pm_up_eq, zwb_4 ⟨by omega, by omega⟩]; first | rw [if_pos (by omega)] | rw [if_neg (by omega)])) hTμ1
        refine pm_blk hK zmm196 [] 2 20 [(2, 205), (0, u), (0, v + 1), (9, 0), (9, 0)] [] μ [pm_in (v + 1)] rfl ⟨pm_in_mk (by omega) (by omega), trivial⟩ ?_
        exact ih _ (by omega) rfl ⟨by omega, by omega⟩ (zwJ_eq hJ (by omega)) hT
      · have h1 : v = (0 : Int) := h1
        refine pm_blk hK zmm196 [] 3 42 [(2, 205), (0, u), (0, v), (9, 0), (9, 0)] [] (pm_up μ 242 (4 * v) 1) [sx_bit Wm 242 = true, 0 ≤ 4 * v ∧ 4 * v < 124] rfl ⟨hb242, ⟨by omega, by omega⟩, trivial⟩ ?_
        obtain ⟨μ2, eμ2⟩ : ∃ μ', μ' = pm_up μ 242 (4 * v) 1 := ⟨_, rfl⟩
        rw [← eμ2]
        have hTμ2 : zTJ μ2 := by rw [eμ2]; exact zT_up hT zs242_0 rfl (i := 4 * v) (by omega) (by omega) (by omega) (by omega)
        refine pm_blk hK zmm196 [] 2 44 [(2, 205), (0, u), (0, v), (0, 1), (9, 0)] [] μ2 [] rfl trivial ?_
        refine zl_wm2 hK hb242 (u := u) (v := v) ⟨by omega, by omega⟩ (fun μ hJ hT => ?_) hbd _ (k := 1) rfl ⟨by omega, by omega⟩ (by rw [eμ2]; exact zwJ_s (zwJ_up hJ (by omega)) (by rw [pm_up_eq, zwb_4 ⟨by omega, by omega⟩]; first | rw [if_pos (by omega)] | rw [if_neg (by omega)])) hTμ2
        refine pm_blk hK zmm196 [] 2 20 [(2, 205), (0, u), (0, v + 1), (9, 0), (9, 0)] [] μ [pm_in (v + 1)] rfl ⟨pm_in_mk (by omega) (by omega), trivial⟩ ?_
        exact ih _ (by omega) rfl ⟨by omega, by omega⟩ (zwJ_eq hJ (by omega)) hT
set_option maxRecDepth 100000 in
theorem zh_waltzm (hK : zKK ST) {u : Int} (hT : zTJ μ) (hb205 : sx_bit Wm 205 = true) (hb242 : sx_bit Wm 242 = true) (hbd : 1 ≤ bud.1 ∧ 23 ≤ bud.2.1) : zC D Wm ST b0 l Sg zM196 bud [(2, 205), (0, u)] μ (fun st' μ' => zTJ μ' ∧ st' = [(0, zwz u)]) := by
  refine pm_blk hK zmm196 [] 3 5 [(2, 205), (0, u), (9, 0), (9, 0), (9, 0)] [] (pm_up μ 205 0 0) [sx_bit Wm 205 = true] rfl ⟨hb205, trivial⟩ ?_
  obtain ⟨μ1, eμ1⟩ : ∃ μ', μ' = pm_up μ 205 0 0 := ⟨_, rfl⟩
  rw [← eμ1]
  have hTμ1 : zTJ μ1 := by rw [eμ1]; exact zT_up hT zs205_0 rfl (i := 0) (by omega) (by omega) (by omega) (by omega)
  refine pm_blk hK zmm196 [] 4 10 [(2, 205), (0, u), (9, 0), (9, 0), (9, 0)] [(0, 30), (0, 0), (0, u), (2, 205)] μ1 [] rfl trivial ?_
  refine pm_call hK zmm196 (158, 0, 129, 3) zM129 (0, 0) [(2, 205), (0, u), (0, 0), (0, 30)] [] rfl rfl rfl rfl ⟨by omega, by rw [zn129]; omega⟩ (zh_isIn hK ⟨by omega, by omega⟩) (fun st1 μc1 hp1 => ?_)
  obtain ⟨rfl, rfl⟩ := hp1
  refine pm_if hK zmm196 .ne 5 18 rfl rfl (fun h0 => ?_) (fun h0 => ?_)
  · have h0 : (if 0 ≤ u ∧ u ≤ 30 then 1 else 0 : Int) ≠ (0 : Int) := h0
    have h0 := zif1 h0
    refine pm_blk hK zmm196 [] 2 20 [(2, 205), (0, u), (0, 0), (9, 0), (9, 0)] [] μ1 [] rfl trivial ?_
    exact zl_wm1 hK hb242 ⟨by omega, by omega⟩ ⟨hbd.1, by omega⟩ _ (v := 0) rfl ⟨by omega, by omega⟩ zwJ_0 hTμ1
  · have h0 : (if 0 ≤ u ∧ u ≤ 30 then 1 else 0 : Int) = (0 : Int) := h0
    have h0 := zif0 h0
    refine pm_blk hK zmm196 [] 1 17 [(2, 205), (0, u), (9, 0), (9, 0), (9, 0)] [(0, (-1))] μ1 [] rfl trivial ?_
    exact pm_iret rfl rfl ⟨hTμ1, by rw [zwz_out (by omega)]⟩
end ZHW
