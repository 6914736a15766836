/-! ring, both sides; walks printed by program (wip/p30/pmgen.py) and filled by hand -/
section ZHW
variable {D : va_G} {Wm : Nat} {ST : List (String × String × String × Nat)} {b0 : sx_B} {l : Launch} {Sg : Nat → Option Nat} {bud : sx_Bu} {μ : pm_Mem} {B0 : Nat → Prop} {J : (Nat → Option Nat) → Heap → Prop}
set_option maxRecDepth 100000 in
theorem zh_minr (hK : zKK ST) {a b : Int} (h : a ≤ b) (hbd : 0 ≤ bud.1 ∧ 0 ≤ bud.2.1) : zC D Wm ST b0 l Sg zM30 bud [(0, a), (0, b)] μ (fun st' μ' => μ = μ' ∧ st' = [(0, a)]) := by
  refine pm_blk hK zmm30 [] 2 2 [(0, a), (0, b)] [(0, b), (0, a)] μ [] rfl trivial ?_
  refine pm_icmp hK zmm30 .gt 7 9 rfl rfl (fun h0 => ?_) (fun h0 => ?_)
  · have h0 : b < a := h0
    refine pm_blk hK zmm30 [] 1 10 [(0, a), (0, b)] [(0, b)] μ [] rfl trivial ?_
    first
    | (exfalso; omega)
    | exact pm_iret rfl rfl ⟨rfl, rfl⟩
  · have h0 : a ≤ b := h0
    refine pm_blk hK zmm30 [] 2 10 [(0, a), (0, b)] [(0, a)] μ [] rfl trivial ?_
    first
    | (exfalso; omega)
    | exact pm_iret rfl rfl ⟨rfl, rfl⟩
set_option maxRecDepth 100000 in
theorem zl_rA (hK : zKK ST) {X : Nat → List pm_V → List pm_V → pm_Mem → Prop} (hb203 : sx_bit Wm 203 = true) {u k v : Int} (hu : 1 ≤ u ∧ u ≤ 100) (K : ∀ (μ : pm_Mem), zwN μ 203 u → zTJ μ → zW D Wm ST b0 l Sg zM83 bud X 36 [(2, 202), (0, u), (0, k), (0, v), (2, 203), (9, 0), (9, 0)] [] μ) (hbd : 1 ≤ bud.1 ∧ 40 ≤ bud.2.1) : ∀ (n : Nat) {j : Int} {μ : pm_Mem}, (u - j).toNat = n → ∀ (hj : 0 ≤ j ∧ j ≤ u) (hN : zwN μ 203 j) (hT : zTJ μ), zW D Wm ST b0 l Sg zM83 bud X 9 [(2, 202), (0, u), (0, k), (0, v), (2, 203), (0, j), (9, 0)] [] μ := by
  intro n
  induction n using Nat.strongRecOn with
  | ind n ih =>
    intro j μ hn hj hN hT
    refine pm_blk hK zmm83 [] 2 12 [(2, 202), (0, u), (0, k), (0, v), (2, 203), (0, j), (9, 0)] [(0, u), (0, j)] μ [] rfl trivial ?_
    refine pm_icmp hK zmm83 .ge 24 36 rfl rfl (fun h0 => ?_) (fun h0 => ?_)
    · have h0 : u ≤ j := h0
      refine pm_hide [5] ?_
      exact K _ (zwN_le hN (by omega)) hT
    · have h0 : j < u := h0
      refine pm_blk hK zmm83 [] 3 20 [(2, 202), (0, u), (0, k), (0, v), (2, 203), (0, j), (9, 0)] [(0, 501), (0, j)] μ [] rfl trivial ?_
      refine pm_icmp hK zmm83 .ge 16 36 rfl rfl (fun h1 => ?_) (fun h1 => ?_)
      · have h1 : (501 : Int) ≤ j := h1
        refine pm_hide [5] ?_
        exact K _ (zwN_le hN (by omega)) hT
      · have h1 : j < (501 : Int) := h1
        refine pm_blk hK zmm83 [] 4 30 [(2, 202), (0, u), (0, k), (0, v), (2, 203), (0, j), (9, 0)] [] (pm_up μ 203 j j) [sx_bit Wm 203 = true, 0 ≤ j ∧ j < 501] rfl ⟨hb203, ⟨by omega, by omega⟩, trivial⟩ ?_
        obtain ⟨μ1, eμ1⟩ : ∃ μ', μ' = pm_up μ 203 j j := ⟨_, rfl⟩
        rw [← eμ1]
        have hTμ1 : zTJ μ1 := by rw [eμ1]; exact zT_up hT zs203_0 rfl (i := j) (by omega) (by omega) (by omega) (by omega)
        refine pm_blk hK zmm83 [] 2 9 [(2, 202), (0, u), (0, k), (0, v), (2, 203), (0, j + 1), (9, 0)] [] μ1 [pm_in (j + 1)] rfl ⟨pm_in_mk (by omega) (by omega), trivial⟩ ?_
        refine ih _ (by omega) rfl ⟨by omega, by omega⟩ ?_ hTμ1
        rw [eμ1]
        exact zwN_s hN
set_option maxRecDepth 100000 in
theorem zl_rB (hK : zKK ST)  (hb203 : sx_bit Wm 203 = true) {u k v T : Int} (hu : 1 ≤ u ∧ u ≤ 100) (hk : 1 ≤ k ∧ k ≤ 100) (hv : 0 ≤ v ∧ v ≤ u - 1) (hbd : 1 ≤ bud.1 ∧ 40 ≤ bud.2.1) : ∀ (n : Nat) {a w : Int} {μ : pm_Mem}, w.toNat = n → ∀ (ha : 0 ≤ a ∧ a ≤ 100) (hw : 0 ≤ w ∧ w ≤ u) (hq : u - w ≤ v) (hz : zrg k (v - (u - w)).toNat (μ 203) a w = T) (hT : zTJ μ), zW D Wm ST b0 l Sg zM83 bud (pm_X zM83 (fun st' μ' => zTJ μ' ∧ st' = [(0, T)])) 48 [(2, 202), (0, u), (0, k), (0, v), (2, 203), (0, a), (0, w)] [] μ := by
  intro n
  induction n using Nat.strongRecOn with
  | ind n ih =>
    intro a w μ hn ha hw hq hz hT
    refine pm_blk hK zmm83 [] 1 50 [(2, 202), (0, u), (0, k), (0, v), (2, 203), (0, a), (0, w)] [(0, w)] μ [] rfl trivial ?_
    refine pm_if hK zmm83 .le 54 104 rfl rfl (fun h0 => ?_) (fun h0 => ?_)
    · have h0 : w ≤ (0 : Int) := h0
      refine pm_blk hK zmm83 [] 1 105 [(2, 202), (0, u), (0, k), (0, v), (2, 203), (0, a), (0, w)] [(0, (-1))] μ [] rfl trivial ?_
      first
      | (exfalso; omega)
      | exact pm_iret rfl rfl ⟨hT, by rw [am, ← hz, show (v - (u - w)).toNat = 0 by omega, zrg_0]⟩
    · have h0 : (0 : Int) < w := h0
      refine pm_blk hK zmm83 [] 7 62 [(2, 202), (0, u), (0, k), (0, v), (2, 203), (0, a), (0, w)] [(0, Int.tmod ((a + k) - 1) w)] μ [pm_in (a + k), pm_in ((a + k) - 1), w ≠ 0] rfl ⟨pm_in_mk (by omega) (by omega), pm_in_mk (by omega) (by omega), by omega, trivial⟩ ?_
      have am : (Int.tmod ((a + k) - 1) w) = (a + k - 1) % w := Int.tmod_eq_emod_of_nonneg (by omega)
      have a0 := Int.emod_nonneg (a + k - 1) (show w ≠ 0 by omega)
      have a1 := Int.emod_lt_of_pos (a + k - 1) (show 0 < w by omega)
      refine pm_blk hK zmm83 [] 5 69 [(2, 202), (0, u), (0, k), (0, v), (2, 203), (0, Int.tmod ((a + k) - 1) w), (0, w)] [(0, v), (0, u - w)] μ [pm_in (u - w)] rfl ⟨pm_in_mk (by omega) (by omega), trivial⟩ ?_
      refine pm_icmp hK zmm83 .ne 9 78 rfl rfl (fun h1 => ?_) (fun h1 => ?_)
      · have h1 : u - w ≠ v := h1
        refine pm_blk hK zmm83 [] 11 95 [(2, 202), (0, u), (0, k), (0, v), (2, 203), (0, Int.tmod ((a + k) - 1) w), (0, w)] [(0, (w - 1) - (Int.tmod ((a + k) - 1) w)), (0, Int.tmod ((a + k) - 1) w), (2, 203), (0, (Int.tmod ((a + k) - 1) w) + 1), (2, 203)] μ [pm_in ((Int.tmod ((a + k) - 1) w) + 1), pm_in (w - 1), pm_in ((w - 1) - (Int.tmod ((a + k) - 1) w))] rfl ⟨pm_in_mk (by omega) (by omega), pm_in_mk (by omega) (by omega), pm_in_mk (by omega) (by omega), trivial⟩ ?_
        refine zp_acp hK zmm83 (sp := ((Int.tmod ((a + k) - 1) w) + 1)) (dp := (Int.tmod ((a + k) - 1) w)) (n := ((w - 1) - (Int.tmod ((a + k) - 1) w))) (g := zG203) rfl rfl rfl rfl rfl hb203 (by omega) (by omega) (by omega) (by show _ ≤ ((501 : Nat) : Int); omega) (by show _ ≤ ((501 : Nat) : Int); omega) (List.mem_of_getElem? (i := 0) rfl) rfl (Nat.le_of_ble_eq_true rfl) ⟨by omega, by omega⟩ ?_
        obtain ⟨μ1, eμ1⟩ : ∃ μ', μ' = pm_cp μ 203 ((Int.tmod ((a + k) - 1) w) + 1) (Int.tmod ((a + k) - 1) w) ((w - 1) - (Int.tmod ((a + k) - 1) w)) := ⟨_, rfl⟩
        rw [← eμ1]
        have hTμ1 : zTJ μ1 := by rw [eμ1]; exact zT_cp hT zs203_0 rfl (by omega) (by omega) (by omega) (by omega)
        refine pm_blk hK zmm83 [] 2 48 [(2, 202), (0, u), (0, k), (0, v), (2, 203), (0, Int.tmod ((a + k) - 1) w), (0, w + (-1))] [] μ1 [pm_in (w + (-1))] rfl ⟨pm_in_mk (by omega) (by omega), trivial⟩ ?_
        have hs : (v - (u - w)).toNat = (v - (u - (w + -1))).toNat + 1 := by omega
        rw [hs] at hz
        refine ih _ (by omega) rfl ⟨by omega, by omega⟩ ⟨by omega, by omega⟩ (by omega) ?_ hTμ1
        rw [eμ1]
        exact zrg_step am hz
      · have h1 : u - w = v := h1
        have f1 := zT_get hT zs203_0 (i := Int.tmod ((a + k) - 1) w) (by omega) (by omega)
        refine pm_blk hK zmm83 [] 3 77 [(2, 202), (0, u), (0, k), (0, v), (2, 203), (0, Int.tmod ((a + k) - 1) w), (0, w)] [(0, μ 203 (Int.tmod ((a + k) - 1) w))] μ [0 ≤ Int.tmod ((a + k) - 1) w ∧ Int.tmod ((a + k) - 1) w < 501] rfl ⟨⟨by omega, by omega⟩, trivial⟩ ?_
        first
        | (exfalso; omega)
        | exact pm_iret rfl rfl ⟨hT, by rw [am, ← hz, show (v - (u - w)).toNat = 0 by omega, zrg_0]⟩
set_option maxRecDepth 100000 in
theorem zh_whoLeaves (hK : zKK ST) {u k v : Int} (hu : 1 ≤ u ∧ u ≤ 100) (hk : 1 ≤ k ∧ k ≤ 100) (hv : 0 ≤ v ∧ v ≤ u - 1) (hT : zTJ μ) (hb203 : sx_bit Wm 203 = true) (hbd : 1 ≤ bud.1 ∧ 40 ≤ bud.2.1) : zC D Wm ST b0 l Sg zM83 bud [(2, 202), (0, u), (0, k), (0, v)] μ (fun st' μ' => zTJ μ' ∧ st' = [(0, zrq u k v)]) := by
  refine pm_blk hK zmm83 [] 5 9 [(2, 202), (0, u), (0, k), (0, v), (2, 203), (0, 0), (9, 0)] [] μ [] rfl trivial ?_
  refine zl_rA hK hb203 hu (fun μ hN hT => ?_) hbd _ (j := 0) rfl ⟨by omega, by omega⟩ zwN_0 hT
  refine pm_blk hK zmm83 [] 5 43 [(2, 202), (0, u), (0, k), (0, v), (2, 203), (0, 0), (9, 0)] [(0, 501), (0, u)] μ [] rfl trivial ?_
  refine pm_call hK zmm83 (43, 1, 30, 2) zM30 (0, 0) [(0, u), (0, 501)] [] rfl rfl rfl rfl ⟨by omega, by rw [zn30]; omega⟩ (zh_minr hK (a := u) (b := 501) (by omega) ⟨Nat.le_refl _, Nat.le_refl _⟩) (fun sty1 μcy1 hpy1 => ?_)
  obtain ⟨rfl, rfl⟩ := hpy1
  refine pm_blk hK zmm83 [] 1 48 [(2, 202), (0, u), (0, k), (0, v), (2, 203), (0, 0), (0, u)] [] μ [] rfl trivial ?_
  exact zl_rB hK hb203 hu hk hv hbd _ (a := 0) (w := u) rfl ⟨by omega, by omega⟩ ⟨by omega, by omega⟩ (by omega) (zwN_rg hN hv) hT
set_option maxRecDepth 100000 in
theorem zh_ringx (hK : zKK ST) {u k v : Int} (hT : zTJ μ) (hb203 : sx_bit Wm 203 = true) (hbd : 2 ≤ bud.1 ∧ 66 ≤ bud.2.1) : zC D Wm ST b0 l Sg zM82 bud [(2, 1), (0, u), (0, k), (0, v)] μ (fun st' μ' => zTJ μ' ∧ st' = [(0, zrz u k v)]) := by
  refine pm_blk hK zmm82 [] 3 4 [(2, 1), (0, u), (0, k), (0, v)] [(0, 100), (0, 1), (0, u)] μ [] rfl trivial ?_
  refine pm_call hK zmm82 (94, 1, 16, 3) zM16 (0, 0) [(0, u), (0, 1), (0, 100)] [] rfl rfl rfl rfl ⟨by omega, by rw [zn16]; omega⟩ (zh_within hK ⟨Nat.le_refl _, Nat.le_refl _⟩) (fun st1 μc1 hp1 => ?_)
  obtain ⟨rfl, rfl⟩ := hp1
  refine pm_if hK zmm82 .eq 24 31 rfl rfl (fun h0 => ?_) (fun h0 => ?_)
  · have h0 : (if 1 ≤ u ∧ u ≤ 100 then 1 else 0 : Int) = (0 : Int) := h0
    have h0 := zif0 h0
    refine pm_blk hK zmm82 [] 1 32 [(2, 1), (0, u), (0, k), (0, v)] [(0, (-1))] μ [] rfl trivial ?_
    first
    | exact pm_iret rfl rfl ⟨hT, by rw [zrz_u (by omega)]⟩
    | exact pm_iret rfl rfl ⟨hT, by rw [zrz_k (by omega)]⟩
    | exact pm_iret rfl rfl ⟨hT, by rw [zrz_v (by omega)]⟩
    | exact pm_iret rfl rfl ⟨hT, by rw [zrz_in ⟨by omega, by omega⟩ ⟨by omega, by omega⟩ ⟨by omega, by omega⟩]⟩
  · have h0 : (if 1 ≤ u ∧ u ≤ 100 then 1 else 0 : Int) ≠ (0 : Int) := h0
    have h0 := zif1 h0
    refine pm_blk hK zmm82 [] 3 14 [(2, 1), (0, u), (0, k), (0, v)] [(0, 100), (0, 1), (0, k)] μ [] rfl trivial ?_
    refine pm_call hK zmm82 (94, 1, 16, 3) zM16 (0, 0) [(0, k), (0, 1), (0, 100)] [] rfl rfl rfl rfl ⟨by omega, by rw [zn16]; omega⟩ (zh_within hK ⟨Nat.le_refl _, Nat.le_refl _⟩) (fun st2 μc2 hp2 => ?_)
    obtain ⟨rfl, rfl⟩ := hp2
    refine pm_if hK zmm82 .eq 14 31 rfl rfl (fun h1 => ?_) (fun h1 => ?_)
    · have h1 : (if 1 ≤ k ∧ k ≤ 100 then 1 else 0 : Int) = (0 : Int) := h1
      have h1 := zif0 h1
      refine pm_blk hK zmm82 [] 1 32 [(2, 1), (0, u), (0, k), (0, v)] [(0, (-1))] μ [] rfl trivial ?_
      first
      | exact pm_iret rfl rfl ⟨hT, by rw [zrz_u (by omega)]⟩
      | exact pm_iret rfl rfl ⟨hT, by rw [zrz_k (by omega)]⟩
      | exact pm_iret rfl rfl ⟨hT, by rw [zrz_v (by omega)]⟩
      | exact pm_iret rfl rfl ⟨hT, by rw [zrz_in ⟨by omega, by omega⟩ ⟨by omega, by omega⟩ ⟨by omega, by omega⟩]⟩
    · have h1 : (if 1 ≤ k ∧ k ≤ 100 then 1 else 0 : Int) ≠ (0 : Int) := h1
      have h1 := zif1 h1
      refine pm_blk hK zmm82 [] 5 25 [(2, 1), (0, u), (0, k), (0, v)] [(0, u - 1), (0, 0), (0, v)] μ [pm_in (u - 1)] rfl ⟨pm_in_mk (by omega) (by omega), trivial⟩ ?_
      refine pm_call hK zmm82 (94, 1, 16, 3) zM16 (0, 0) [(0, v), (0, 0), (0, u - 1)] [] rfl rfl rfl rfl ⟨by omega, by rw [zn16]; omega⟩ (zh_within hK ⟨Nat.le_refl _, Nat.le_refl _⟩) (fun st3 μc3 hp3 => ?_)
      obtain ⟨rfl, rfl⟩ := hp3
      refine pm_if hK zmm82 .ne 5 33 rfl rfl (fun h2 => ?_) (fun h2 => ?_)
      · have h2 : (if 0 ≤ v ∧ v ≤ (u - 1) then 1 else 0 : Int) ≠ (0 : Int) := h2
        have h2 := zif1 h2
        refine pm_blk hK zmm82 [] 5 40 [(2, 1), (0, u), (0, k), (0, v)] [(0, v), (0, k), (0, u), (2, 202)] μ [] rfl trivial ?_
        refine pm_call hK zmm82 (320, 0, 83, 3) zM83 (1, 40) [(2, 202), (0, u), (0, k), (0, v)] [] rfl rfl rfl rfl ⟨by omega, by rw [zn83]; omega⟩ (zh_whoLeaves hK (u := u) (k := k) (v := v) ⟨by omega, by omega⟩ ⟨by omega, by omega⟩ ⟨by omega, by omega⟩ hT hb203 ⟨Nat.le_refl _, Nat.le_refl _⟩) (fun st4 μc4 hp4 => ?_)
        obtain ⟨hTc4, rfl⟩ := hp4
        first
        | exact pm_iret rfl rfl ⟨hTc4, by rw [zrz_u (by omega)]⟩
        | exact pm_iret rfl rfl ⟨hTc4, by rw [zrz_k (by omega)]⟩
        | exact pm_iret rfl rfl ⟨hTc4, by rw [zrz_v (by omega)]⟩
        | exact pm_iret rfl rfl ⟨hTc4, by rw [zrz_in ⟨by omega, by omega⟩ ⟨by omega, by omega⟩ ⟨by omega, by omega⟩]⟩
      · have h2 : (if 0 ≤ v ∧ v ≤ (u - 1) then 1 else 0 : Int) = (0 : Int) := h2
        have h2 := zif0 h2
        refine pm_blk hK zmm82 [] 1 32 [(2, 1), (0, u), (0, k), (0, v)] [(0, (-1))] μ [] rfl trivial ?_
        first
        | exact pm_iret rfl rfl ⟨hT, by rw [zrz_u (by omega)]⟩
        | exact pm_iret rfl rfl ⟨hT, by rw [zrz_k (by omega)]⟩
        | exact pm_iret rfl rfl ⟨hT, by rw [zrz_v (by omega)]⟩
        | exact pm_iret rfl rfl ⟨hT, by rw [zrz_in ⟨by omega, by omega⟩ ⟨by omega, by omega⟩ ⟨by omega, by omega⟩]⟩
set_option maxRecDepth 100000 in
theorem zl_rmA (hK : zKK ST) {X : Nat → List pm_V → List pm_V → pm_Mem → Prop} (hb233 : sx_bit Wm 233 = true) {u k v : Int} (hu : 1 ≤ u ∧ u ≤ 100) (K : ∀ (μ : pm_Mem), zwN μ 233 u → zTJ μ → zW D Wm ST b0 l Sg zM179 bud X 65 [(2, 205), (0, u), (0, k), (0, v), (9, 0), (9, 0), (9, 0)] [] μ) (hbd : 1 ≤ bud.1 ∧ 23 ≤ bud.2.1) : ∀ (n : Nat) {j : Int} {μ : pm_Mem}, (u - j).toNat = n → ∀ (hj : 0 ≤ j ∧ j ≤ u) (hN : zwN μ 233 j) (hT : zTJ μ), zW D Wm ST b0 l Sg zM179 bud X 44 [(2, 205), (0, u), (0, k), (0, v), (0, j), (9, 0), (9, 0)] [] μ := by
  intro n
  induction n using Nat.strongRecOn with
  | ind n ih =>
    intro j μ hn hj hN hT
    refine pm_blk hK zmm179 [] 2 47 [(2, 205), (0, u), (0, k), (0, v), (0, j), (9, 0), (9, 0)] [(0, u), (0, j)] μ [] rfl trivial ?_
    refine pm_icmp hK zmm179 .ge 18 65 rfl rfl (fun h0 => ?_) (fun h0 => ?_)
    · have h0 : u ≤ j := h0
      refine pm_hide [4] ?_
      exact K _ (zwN_le hN (by omega)) hT
    · have h0 : j < u := h0
      refine pm_blk hK zmm179 [] 5 59 [(2, 205), (0, u), (0, k), (0, v), (0, j), (9, 0), (9, 0)] [] (pm_up μ 233 j j) [sx_bit Wm 233 = true, 0 ≤ j ∧ j < 100] rfl ⟨hb233, ⟨by omega, by omega⟩, trivial⟩ ?_
      obtain ⟨μ1, eμ1⟩ : ∃ μ', μ' = pm_up μ 233 j j := ⟨_, rfl⟩
      rw [← eμ1]
      have hTμ1 : zTJ μ1 := by rw [eμ1]; exact zT_up hT zs233_0 rfl (i := j) (by omega) (by omega) (by omega) (by omega)
      refine pm_blk hK zmm179 [] 2 44 [(2, 205), (0, u), (0, k), (0, v), (0, j + 1), (9, 0), (9, 0)] [] μ1 [pm_in (j + 1)] rfl ⟨pm_in_mk (by omega) (by omega), trivial⟩ ?_
      refine ih _ (by omega) rfl ⟨by omega, by omega⟩ ?_ hTμ1
      rw [eμ1]
      exact zwN_s hN
set_option maxRecDepth 100000 in
theorem zl_rmC (hK : zKK ST) {X : Nat → List pm_V → List pm_V → pm_Mem → Prop} (hb233 : sx_bit Wm 233 = true) {f : Int → Int} {u k v a g : Int} (hu : 1 ≤ u ∧ u ≤ 100) (hg : 0 ≤ g ∧ g ≤ u - 1) (ha : 0 ≤ a ∧ a ≤ 100) (K : ∀ (μ : pm_Mem), zwQ μ f a (u - g - 1) (u - g) → zTJ μ → zW D Wm ST b0 l Sg zM179 bud X 127 [(2, 205), (0, u), (0, k), (0, v), (0, a), (0, g), (9, 0)] [] μ) (hbd : 1 ≤ bud.1 ∧ 23 ≤ bud.2.1) : ∀ (n : Nat) {p : Int} {μ : pm_Mem}, (u - g - 1 - p).toNat = n → ∀ (hp : a ≤ p ∧ p ≤ u - g - 1) (hQ : zwQ μ f a p (u - g)) (hT : zTJ μ), zW D Wm ST b0 l Sg zM179 bud X 94 [(2, 205), (0, u), (0, k), (0, v), (0, a), (0, g), (0, p)] [] μ := by
  intro n
  induction n using Nat.strongRecOn with
  | ind n ih =>
    intro p μ hn hp hQ hT
    refine pm_blk hK zmm179 [] 6 102 [(2, 205), (0, u), (0, k), (0, v), (0, a), (0, g), (0, p)] [(0, (u - g) - 1), (0, p)] μ [pm_in (u - g), pm_in ((u - g) - 1)] rfl ⟨pm_in_mk (by omega) (by omega), pm_in_mk (by omega) (by omega), trivial⟩ ?_
    refine pm_icmp hK zmm179 .ge 25 127 rfl rfl (fun h0 => ?_) (fun h0 => ?_)
    · have h0 : (u - g) - 1 ≤ p := h0
      refine pm_hide [6] ?_
      exact K _ (zwQ_eq hQ (by omega)) hT
    · have h0 : p < (u - g) - 1 := h0
      have f1 := zT_get hT zs233_0 (i := p + 1) (by omega) (by omega)
      refine pm_blk hK zmm179 [] 10 121 [(2, 205), (0, u), (0, k), (0, v), (0, a), (0, g), (0, p)] [] (pm_up μ 233 p (μ 233 (p + 1))) [pm_in (p + 1), 0 ≤ p + 1 ∧ p + 1 < 100, sx_bit Wm 233 = true, 0 ≤ p ∧ p < 100] rfl ⟨pm_in_mk (by omega) (by omega), ⟨by omega, by omega⟩, hb233, ⟨by omega, by omega⟩, trivial⟩ ?_
      obtain ⟨μ1, eμ1⟩ : ∃ μ', μ' = pm_up μ 233 p (μ 233 (p + 1)) := ⟨_, rfl⟩
      rw [← eμ1]
      have hTμ1 : zTJ μ1 := by rw [eμ1]; exact zT_up hT zs233_0 rfl (i := p) (by omega) (by omega) (by omega) (by omega)
      refine pm_blk hK zmm179 [] 2 94 [(2, 205), (0, u), (0, k), (0, v), (0, a), (0, g), (0, p + 1)] [] μ1 [pm_in (p + 1)] rfl ⟨pm_in_mk (by omega) (by omega), trivial⟩ ?_
      refine ih _ (by omega) rfl ⟨by omega, by omega⟩ ?_ hTμ1
      rw [eμ1]
      exact zwQ_up hQ ⟨by omega, by omega⟩ (by omega)
set_option maxRecDepth 100000 in
theorem zl_rmD (hK : zKK ST)  (hb233 : sx_bit Wm 233 = true) {u k v T : Int} (hu : 1 ≤ u ∧ u ≤ 100) (hk : 1 ≤ k ∧ k ≤ 100) (hv : 0 ≤ v ∧ v ≤ u - 1) (hbd : 1 ≤ bud.1 ∧ 23 ≤ bud.2.1) : ∀ (n : Nat) {a g : Int} {μ : pm_Mem}, (v - g).toNat = n → ∀ (ha : 0 ≤ a ∧ a ≤ 100) (hg : 0 ≤ g ∧ g ≤ v) (hz : zrg k (v - g).toNat (μ 233) a (u - g) = T) (hT : zTJ μ), zW D Wm ST b0 l Sg zM179 bud (pm_X zM179 (fun st' μ' => zTJ μ' ∧ st' = [(0, T)])) 71 [(2, 205), (0, u), (0, k), (0, v), (0, a), (0, g), (9, 0)] [] μ := by
  intro n
  induction n using Nat.strongRecOn with
  | ind n ih =>
    intro a g μ hn ha hg hz hT
    refine pm_blk hK zmm179 [] 2 74 [(2, 205), (0, u), (0, k), (0, v), (0, a), (0, g), (9, 0)] [(0, v), (0, g)] μ [] rfl trivial ?_
    refine pm_icmp hK zmm179 .ge 59 133 rfl rfl (fun h0 => ?_) (fun h0 => ?_)
    · have h0 : v ≤ g := h0
      refine pm_blk hK zmm179 [] 11 147 [(2, 205), (0, u), (0, k), (0, v), (0, a), (0, g), (9, 0)] [(0, Int.tmod ((a + k) - 1) (u - v)), (2, 233)] μ [pm_in (a + k), pm_in ((a + k) - 1), pm_in (u - v), (u - v) ≠ 0] rfl ⟨pm_in_mk (by omega) (by omega), pm_in_mk (by omega) (by omega), pm_in_mk (by omega) (by omega), by omega, trivial⟩ ?_
      have am : (Int.tmod ((a + k) - 1) (u - v)) = (a + k - 1) % (u - v) := Int.tmod_eq_emod_of_nonneg (by omega)
      have a0 := Int.emod_nonneg (a + k - 1) (show (u - v) ≠ 0 by omega)
      have a1 := Int.emod_lt_of_pos (a + k - 1) (show 0 < (u - v) by omega)
      have f1 := zT_get hT zs233_0 (i := Int.tmod ((a + k) - 1) (u - v)) (by omega) (by omega)
      refine pm_blk hK zmm179 [] 1 148 [(2, 205), (0, u), (0, k), (0, v), (0, a), (0, g), (9, 0)] [(0, μ 233 (Int.tmod ((a + k) - 1) (u - v)))] μ [0 ≤ Int.tmod ((a + k) - 1) (u - v) ∧ Int.tmod ((a + k) - 1) (u - v) < 100] rfl ⟨⟨by omega, by omega⟩, trivial⟩ ?_
      have eg : g = v := by omega
      rw [eg] at hz
      exact pm_iret rfl rfl ⟨hT, by rw [am, ← hz, show (v - v).toNat = 0 by omega, zrg_0]⟩
    · have h0 : g < v := h0
      refine pm_blk hK zmm179 [] 9 88 [(2, 205), (0, u), (0, k), (0, v), (0, a), (0, g), (9, 0)] [(0, Int.tmod ((a + k) - 1) (u - g))] μ [pm_in (a + k), pm_in ((a + k) - 1), pm_in (u - g), (u - g) ≠ 0] rfl ⟨pm_in_mk (by omega) (by omega), pm_in_mk (by omega) (by omega), pm_in_mk (by omega) (by omega), by omega, trivial⟩ ?_
      have am : (Int.tmod ((a + k) - 1) (u - g)) = (a + k - 1) % (u - g) := Int.tmod_eq_emod_of_nonneg (by omega)
      have a0 := Int.emod_nonneg (a + k - 1) (show (u - g) ≠ 0 by omega)
      have a1 := Int.emod_lt_of_pos (a + k - 1) (show 0 < (u - g) by omega)
      refine pm_blk hK zmm179 [] 3 94 [(2, 205), (0, u), (0, k), (0, v), (0, Int.tmod ((a + k) - 1) (u - g)), (0, g), (0, Int.tmod ((a + k) - 1) (u - g))] [] μ [] rfl trivial ?_
      refine zl_rmC hK hb233 (f := μ 233) (u := u) (k := k) (v := v) (a := (Int.tmod ((a + k) - 1) (u - g))) (g := g) hu ⟨by omega, by omega⟩ ⟨by omega, by omega⟩ (fun μ hQ hT => ?_) hbd _ (p := (Int.tmod ((a + k) - 1) (u - g))) rfl ⟨by omega, by omega⟩ zwQ_0 hT
      refine pm_blk hK zmm179 [] 2 71 [(2, 205), (0, u), (0, k), (0, v), (0, Int.tmod ((a + k) - 1) (u - g)), (0, g + 1), (9, 0)] [] μ [pm_in (g + 1)] rfl ⟨pm_in_mk (by omega) (by omega), trivial⟩ ?_
      have hs : (v - g).toNat = (v - (g + 1)).toNat + 1 := by omega
      rw [hs] at hz
      refine ih _ (by omega) rfl ⟨by omega, by omega⟩ ⟨by omega, by omega⟩ ?_ hT
      rw [show u - (g + 1) = u - g - 1 by omega]
      exact zwQ_end hQ rfl (by omega) am hz
set_option maxRecDepth 100000 in
theorem zh_ringm (hK : zKK ST) {u k v : Int} (hT : zTJ μ) (hb205 : sx_bit Wm 205 = true) (hb233 : sx_bit Wm 233 = true) (hbd : 1 ≤ bud.1 ∧ 23 ≤ bud.2.1) : zC D Wm ST b0 l Sg zM179 bud [(2, 205), (0, u), (0, k), (0, v)] μ (fun st' μ' => zTJ μ' ∧ st' = [(0, zrz u k v)]) := by
  refine pm_blk hK zmm179 [] 3 5 [(2, 205), (0, u), (0, k), (0, v), (9, 0), (9, 0), (9, 0)] [] (pm_up μ 205 0 0) [sx_bit Wm 205 = true] rfl ⟨hb205, trivial⟩ ?_
  obtain ⟨μ1, eμ1⟩ : ∃ μ', μ' = pm_up μ 205 0 0 := ⟨_, rfl⟩
  rw [← eμ1]
  have hTμ1 : zTJ μ1 := by rw [eμ1]; exact zT_up hT zs205_0 rfl (i := 0) (by omega) (by omega) (by omega) (by omega)
  refine pm_blk hK zmm179 [] 4 10 [(2, 205), (0, u), (0, k), (0, v), (9, 0), (9, 0), (9, 0)] [(0, 100), (0, 1), (0, u), (2, 205)] μ1 [] rfl trivial ?_
  refine pm_call hK zmm179 (158, 0, 129, 3) zM129 (0, 0) [(2, 205), (0, u), (0, 1), (0, 100)] [] rfl rfl rfl rfl ⟨by omega, by rw [zn129]; omega⟩ (zh_isIn hK ⟨by omega, by omega⟩) (fun st1 μc1 hp1 => ?_)
  obtain ⟨rfl, rfl⟩ := hp1
  refine pm_if hK zmm179 .eq 26 39 rfl rfl (fun h0 => ?_) (fun h0 => ?_)
  · have h0 : (if 1 ≤ u ∧ u ≤ 100 then 1 else 0 : Int) = (0 : Int) := h0
    have h0 := zif0 h0
    refine pm_blk hK zmm179 [] 1 40 [(2, 205), (0, u), (0, k), (0, v), (9, 0), (9, 0), (9, 0)] [(0, (-1))] μ1 [] rfl trivial ?_
    first
    | exact pm_iret rfl rfl ⟨hTμ1, by rw [zrz_u (by omega)]⟩
    | exact pm_iret rfl rfl ⟨hTμ1, by rw [zrz_k (by omega)]⟩
    | exact pm_iret rfl rfl ⟨hTμ1, by rw [zrz_v (by omega)]⟩
  · have h0 : (if 1 ≤ u ∧ u ≤ 100 then 1 else 0 : Int) ≠ (0 : Int) := h0
    have h0 := zif1 h0
    refine pm_blk hK zmm179 [] 4 21 [(2, 205), (0, u), (0, k), (0, v), (9, 0), (9, 0), (9, 0)] [(0, 100), (0, 1), (0, k), (2, 205)] μ1 [] rfl trivial ?_
    refine pm_call hK zmm179 (158, 0, 129, 3) zM129 (0, 0) [(2, 205), (0, k), (0, 1), (0, 100)] [] rfl rfl rfl rfl ⟨by omega, by rw [zn129]; omega⟩ (zh_isIn hK ⟨by omega, by omega⟩) (fun st2 μc2 hp2 => ?_)
    obtain ⟨rfl, rfl⟩ := hp2
    refine pm_if hK zmm179 .eq 15 39 rfl rfl (fun h1 => ?_) (fun h1 => ?_)
    · have h1 : (if 1 ≤ k ∧ k ≤ 100 then 1 else 0 : Int) = (0 : Int) := h1
      have h1 := zif0 h1
      refine pm_blk hK zmm179 [] 1 40 [(2, 205), (0, u), (0, k), (0, v), (9, 0), (9, 0), (9, 0)] [(0, (-1))] μ1 [] rfl trivial ?_
      first
      | exact pm_iret rfl rfl ⟨hTμ1, by rw [zrz_u (by omega)]⟩
      | exact pm_iret rfl rfl ⟨hTμ1, by rw [zrz_k (by omega)]⟩
      | exact pm_iret rfl rfl ⟨hTμ1, by rw [zrz_v (by omega)]⟩
    · have h1 : (if 1 ≤ k ∧ k ≤ 100 then 1 else 0 : Int) ≠ (0 : Int) := h1
      have h1 := zif1 h1
      refine pm_blk hK zmm179 [] 6 33 [(2, 205), (0, u), (0, k), (0, v), (9, 0), (9, 0), (9, 0)] [(0, u - 1), (0, 0), (0, v), (2, 205)] μ1 [pm_in (u - 1)] rfl ⟨pm_in_mk (by omega) (by omega), trivial⟩ ?_
      refine pm_call hK zmm179 (158, 0, 129, 3) zM129 (0, 0) [(2, 205), (0, v), (0, 0), (0, u - 1)] [] rfl rfl rfl rfl ⟨by omega, by rw [zn129]; omega⟩ (zh_isIn hK ⟨by omega, by omega⟩) (fun st3 μc3 hp3 => ?_)
      obtain ⟨rfl, rfl⟩ := hp3
      refine pm_if hK zmm179 .ne 5 41 rfl rfl (fun h2 => ?_) (fun h2 => ?_)
      · have h2 : (if 0 ≤ v ∧ v ≤ (u - 1) then 1 else 0 : Int) ≠ (0 : Int) := h2
        have h2 := zif1 h2
        refine pm_blk hK zmm179 [] 2 44 [(2, 205), (0, u), (0, k), (0, v), (0, 0), (9, 0), (9, 0)] [] μ1 [] rfl trivial ?_
        refine zl_rmA hK hb233 ⟨by omega, by omega⟩ (fun μ hN hT => ?_) hbd _ (j := 0) rfl ⟨by omega, by omega⟩ zwN_0 hTμ1
        refine pm_blk hK zmm179 [] 4 71 [(2, 205), (0, u), (0, k), (0, v), (0, 0), (0, 0), (9, 0)] [] μ [] rfl trivial ?_
        exact zl_rmD hK hb233 ⟨by omega, by omega⟩ ⟨by omega, by omega⟩ ⟨by omega, by omega⟩ hbd _ (a := 0) (g := 0) rfl ⟨by omega, by omega⟩ ⟨by omega, by omega⟩ (by rw [zrz_in ⟨by omega, by omega⟩ ⟨by omega, by omega⟩ ⟨by omega, by omega⟩]; exact zwN_rg2 hN ⟨by omega, by omega⟩) hT
      · have h2 : (if 0 ≤ v ∧ v ≤ (u - 1) then 1 else 0 : Int) = (0 : Int) := h2
        have h2 := zif0 h2
        refine pm_blk hK zmm179 [] 1 40 [(2, 205), (0, u), (0, k), (0, v), (9, 0), (9, 0), (9, 0)] [(0, (-1))] μ1 [] rfl trivial ?_
        first
        | exact pm_iret rfl rfl ⟨hTμ1, by rw [zrz_u (by omega)]⟩
        | exact pm_iret rfl rfl ⟨hTμ1, by rw [zrz_k (by omega)]⟩
        | exact pm_iret rfl rfl ⟨hTμ1, by rw [zrz_v (by omega)]⟩
end ZHW
