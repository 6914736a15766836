/-! written, both sides; walks printed by program (wip/p30/pmgen.py) and filled by hand -/
section ZHW
variable {D : va_G} {Wm : Nat} {ST : List (String × String × String × Nat)} {b0 : sx_B} {l : Launch} {Sg : Nat → Option Nat} {bud : sx_Bu} {μ : pm_Mem} {B0 : Nat → Prop} {J : (Nat → Option Nat) → Heap → Prop}
set_option maxRecDepth 100000 in
theorem zh_fmod (hK : zKK ST) {x : Int} (hx : -90 ≤ x ∧ x ≤ 0) (hbd : 0 ≤ bud.1 ∧ 0 ≤ bud.2.1) : zC D Wm ST b0 l Sg zM99 bud [(0, x), (0, 10)] μ (fun st' μ' => μ = μ' ∧ st' = [(0, x % 10)]) := by
  have q1 := zfx0 (-x).toNat (by omega)
  rw [show -(((-x).toNat : Nat) : Int) = x by omega] at q1
  have q3 : Int.tmod x 10 = -((-x) % 10) := by
    have := Int.neg_tmod (-x) 10
    rw [Int.neg_neg] at this
    rw [this, Int.tmod_eq_emod_of_nonneg (by omega)]
  refine pm_blk hK zmm99 [] 7 7 [(0, x), (0, 10), (0, Int.tmod x 10)] [(0, pm_xor x 10)] μ [10 ≠ 0] rfl ⟨by omega, trivial⟩ ?_
  refine pm_if hK zmm99 .ge 11 18 rfl rfl (fun h0 => ?_) (fun h0 => ?_)
  · have h0 : (0 : Int) ≤ pm_xor x 10 := h0
    refine pm_blk hK zmm99 [] 1 19 [(0, x), (0, 10), (0, Int.tmod x 10)] [(0, Int.tmod x 10)] μ [] rfl trivial ?_
    first
    | (rw [if_neg (by omega)] at q1; exact pm_iret rfl rfl ⟨rfl, by rw [show x % 10 = (Int.tmod x 10) by omega]⟩)
    | exact pm_iret rfl rfl ⟨rfl, by rw [show x % 10 = (Int.tmod x 10) by omega]⟩
  · have h0 : pm_xor x 10 < (0 : Int) := h0
    refine pm_blk hK zmm99 [] 1 11 [(0, x), (0, 10), (0, Int.tmod x 10)] [(0, Int.tmod x 10)] μ [] rfl trivial ?_
    refine pm_if hK zmm99 .eq 7 18 rfl rfl (fun h1 => ?_) (fun h1 => ?_)
    · have h1 : Int.tmod x 10 = (0 : Int) := h1
      refine pm_blk hK zmm99 [] 1 19 [(0, x), (0, 10), (0, Int.tmod x 10)] [(0, Int.tmod x 10)] μ [] rfl trivial ?_
      first
      | (rw [if_neg (by omega)] at q1; exact pm_iret rfl rfl ⟨rfl, by rw [show x % 10 = (Int.tmod x 10) by omega]⟩)
      | exact pm_iret rfl rfl ⟨rfl, by rw [show x % 10 = (Int.tmod x 10) by omega]⟩
    · have h1 : Int.tmod x 10 ≠ (0 : Int) := h1
      refine pm_blk hK zmm99 [] 3 17 [(0, x), (0, 10), (0, Int.tmod x 10)] [(0, (Int.tmod x 10) + 10)] μ [pm_in ((Int.tmod x 10) + 10)] rfl ⟨pm_in_mk (by omega) (by omega), trivial⟩ ?_
      first
      | (rw [if_neg (by omega)] at q1; exact pm_iret rfl rfl ⟨rfl, by rw [show x % 10 = ((Int.tmod x 10) + 10) by omega]⟩)
      | exact pm_iret rfl rfl ⟨rfl, by rw [show x % 10 = ((Int.tmod x 10) + 10) by omega]⟩
set_option maxRecDepth 100000 in
theorem zl_rk (hK : zKK ST) {μ : pm_Mem} {x T : Int} (hbd : 1 ≤ bud.1 ∧ 22 ≤ bud.2.1) : ∀ (n : Nat) {s r i : Int}, (10 - i).toNat = n → ∀ (hi : 0 ≤ i ∧ i ≤ 10) (hr : 0 ≤ r ∧ r ≤ 999999999) (ha : 0 ≤ s ∧ s ≤ 9 * i) (hs : s + zws (10 - i).toNat (decide (i % 2 = 0)) r = T), zW D Wm ST b0 l Sg zM98 bud (pm_X zM98 (fun st' μ' => μ = μ' ∧ st' = [(0, -T % 10)])) 6 [(0, x), (0, s), (0, r), (0, i), (9, 0), (9, 0)] [] μ := by
  intro n
  induction n using Nat.strongRecOn with
  | ind n ih =>
    intro s r i hn hi hr ha hs
    obtain ⟨z1, z2, z3, z4, z5, -⟩ := zwdec hr.1
    have hp := zand1 hi.1 (by omega)
    refine pm_blk hK zmm98 [] 2 9 [(0, x), (0, s), (0, r), (0, i), (9, 0), (9, 0)] [(0, 10), (0, i)] μ [] rfl trivial ?_
    refine pm_icmp hK zmm98 .ge 57 66 rfl rfl (fun h0 => ?_) (fun h0 => ?_)
    · have h0 : (10 : Int) ≤ i := h0
      have ei : i = 10 := by omega
      rw [ei] at hs
      have e0 : ∀ tw : Bool, zws (10 - 10 : Int).toNat tw r = 0 := fun _ => rfl
      have hs2 : s = T := by rw [e0] at hs; omega
      refine pm_blk hK zmm98 [] 3 70 [(0, x), (0, s), (0, r), (0, i), (9, 0), (9, 0)] [(0, 10), (0, -s)] μ [pm_in (-s)] rfl ⟨pm_in_mk (by omega) (by omega), trivial⟩ ?_
      refine pm_call hK zmm98 (68, 1, 99, 2) zM99 (0, 0) [(0, -s), (0, 10)] [] rfl rfl rfl rfl ⟨by omega, by rw [zn99]; omega⟩ (zh_fmod hK (x := (-s)) ⟨by omega, by omega⟩ ⟨Nat.le_refl _, Nat.le_refl _⟩) (fun st1 μc1 hp1 => ?_)
      obtain ⟨rfl, rfl⟩ := hp1
      exact pm_iret rfl rfl ⟨rfl, by rw [← hs2]⟩
    · have h0 : i < (10 : Int) := h0
      have hstep := zws_i (n := r) hi.1 (by omega)
      have hc := zwdg_c (decide (i % 2 = 0)) (r.tmod 10)
      simp only [decide_eq_true_eq, decide_eq_false_iff_not] at hc
      refine pm_blk hK zmm98 [] 7 21 [(0, x), (0, s), (0, r), (0, i), (0, Int.tmod r 10), (9, 0)] [(0, pm_and i 1)] μ [10 ≠ 0] rfl ⟨by omega, trivial⟩ ?_
      refine pm_if hK zmm98 .ne 10 31 rfl rfl (fun h1 => ?_) (fun h1 => ?_)
      · have h1 : pm_and i 1 ≠ (0 : Int) := h1
        refine pm_blk hK zmm98 [] 5 40 [(0, x), (0, s), (0, r), (0, i), (0, Int.tmod r 10), (0, Int.tmod r 10)] [(0, 9), (0, Int.tmod r 10), (0, s)] μ [] rfl trivial ?_
        refine pm_icmp hK zmm98 .le 11 51 rfl rfl (fun h2 => ?_) (fun h2 => ?_)
        · have h2 : Int.tmod r 10 ≤ (9 : Int) := h2
          refine pm_blk hK zmm98 [] 9 6 [(0, x), (0, s + (Int.tmod r 10)), (0, Int.tdiv r 10), (0, i + 1), (0, Int.tmod r 10), (0, Int.tmod r 10)] [] μ [pm_in (s + (Int.tmod r 10)), 10 ≠ 0, pm_in (Int.tdiv r 10), pm_in (i + 1)] rfl ⟨pm_in_mk (by omega) (by omega), by omega, pm_in_mk (by omega) (by omega), pm_in_mk (by omega) (by omega), trivial⟩ ?_
          refine pm_hide [4, 5] ?_
          refine ih _ (by omega) rfl ⟨by omega, by omega⟩ ⟨by omega, by omega⟩ ⟨by omega, by omega⟩ ?_
          rw [hstep] at hs
          omega
        · have h2 : (9 : Int) < Int.tmod r 10 := h2
          refine pm_blk hK zmm98 [] 12 6 [(0, x), (0, s + ((Int.tmod r 10) - 9)), (0, Int.tdiv r 10), (0, i + 1), (0, Int.tmod r 10), (0, Int.tmod r 10)] [] μ [pm_in ((Int.tmod r 10) - 9), pm_in (s + ((Int.tmod r 10) - 9)), 10 ≠ 0, pm_in (Int.tdiv r 10), pm_in (i + 1)] rfl ⟨pm_in_mk (by omega) (by omega), pm_in_mk (by omega) (by omega), by omega, pm_in_mk (by omega) (by omega), pm_in_mk (by omega) (by omega), trivial⟩ ?_
          refine pm_hide [4, 5] ?_
          refine ih _ (by omega) rfl ⟨by omega, by omega⟩ ⟨by omega, by omega⟩ ⟨by omega, by omega⟩ ?_
          rw [hstep] at hs
          omega
      · have h1 : pm_and i 1 = (0 : Int) := h1
        refine pm_blk hK zmm98 [] 8 40 [(0, x), (0, s), (0, r), (0, i), (0, Int.tmod r 10), (0, 2 * (Int.tmod r 10))] [(0, 9), (0, 2 * (Int.tmod r 10)), (0, s)] μ [pm_in (2 * (Int.tmod r 10))] rfl ⟨pm_in_mk (by omega) (by omega), trivial⟩ ?_
        refine pm_icmp hK zmm98 .le 11 51 rfl rfl (fun h3 => ?_) (fun h3 => ?_)
        · have h3 : 2 * (Int.tmod r 10) ≤ (9 : Int) := h3
          refine pm_blk hK zmm98 [] 9 6 [(0, x), (0, s + (2 * (Int.tmod r 10))), (0, Int.tdiv r 10), (0, i + 1), (0, Int.tmod r 10), (0, 2 * (Int.tmod r 10))] [] μ [pm_in (s + (2 * (Int.tmod r 10))), 10 ≠ 0, pm_in (Int.tdiv r 10), pm_in (i + 1)] rfl ⟨pm_in_mk (by omega) (by omega), by omega, pm_in_mk (by omega) (by omega), pm_in_mk (by omega) (by omega), trivial⟩ ?_
          refine pm_hide [4, 5] ?_
          refine ih _ (by omega) rfl ⟨by omega, by omega⟩ ⟨by omega, by omega⟩ ⟨by omega, by omega⟩ ?_
          rw [hstep] at hs
          omega
        · have h3 : (9 : Int) < 2 * (Int.tmod r 10) := h3
          refine pm_blk hK zmm98 [] 12 6 [(0, x), (0, s + ((2 * (Int.tmod r 10)) - 9)), (0, Int.tdiv r 10), (0, i + 1), (0, Int.tmod r 10), (0, 2 * (Int.tmod r 10))] [] μ [pm_in ((2 * (Int.tmod r 10)) - 9), pm_in (s + ((2 * (Int.tmod r 10)) - 9)), 10 ≠ 0, pm_in (Int.tdiv r 10), pm_in (i + 1)] rfl ⟨pm_in_mk (by omega) (by omega), pm_in_mk (by omega) (by omega), by omega, pm_in_mk (by omega) (by omega), pm_in_mk (by omega) (by omega), trivial⟩ ?_
          refine pm_hide [4, 5] ?_
          refine ih _ (by omega) rfl ⟨by omega, by omega⟩ ⟨by omega, by omega⟩ ⟨by omega, by omega⟩ ?_
          rw [hstep] at hs
          omega
set_option maxRecDepth 100000 in
theorem zh_rightCheck (hK : zKK ST) {x : Int} (hx : 0 ≤ x ∧ x ≤ 999999999) (hbd : 1 ≤ bud.1 ∧ 22 ≤ bud.2.1) : zC D Wm ST b0 l Sg zM98 bud [(0, x)] μ (fun st' μ' => μ = μ' ∧ st' = [(0, zwu x)]) := by
  refine pm_blk hK zmm98 [] 6 6 [(0, x), (0, 0), (0, x), (0, 0), (9, 0), (9, 0)] [] μ [] rfl trivial ?_
  have h0 := zl_rk hK (D := D) (Wm := Wm) (b0 := b0) (l := l) (Sg := Sg) (bud := bud) (μ := μ) (x := x) (T := zws 10 true x) hbd _ (s := 0) (r := x) (i := 0) rfl ⟨by omega, by omega⟩ hx ⟨by omega, by omega⟩ (by rw [Int.zero_add]; rfl)
  rw [show -zws 10 true x % 10 = zwu x by unfold zwu; omega] at h0
  exact h0
set_option maxRecDepth 100000 in
theorem zh_writtenx (hK : zKK ST) {x d w : Int} (hbd : 2 ≤ bud.1 ∧ 47 ≤ bud.2.1) : zC D Wm ST b0 l Sg zM97 bud [(2, 1), (0, x), (0, d), (0, w)] μ (fun st' μ' => μ = μ' ∧ st' = [(0, zwr x d w)]) := by
  refine pm_blk hK zmm97 [] 3 5 [(2, 1), (0, x), (0, d), (0, w), (9, 0)] [(0, 999999999), (0, 0), (0, x)] μ [] rfl trivial ?_
  refine pm_call hK zmm97 (94, 1, 16, 3) zM16 (0, 0) [(0, x), (0, 0), (0, 999999999)] [] rfl rfl rfl rfl ⟨by omega, by rw [zn16]; omega⟩ (zh_within hK ⟨Nat.le_refl _, Nat.le_refl _⟩) (fun st1 μc1 hp1 => ?_)
  obtain ⟨rfl, rfl⟩ := hp1
  refine pm_if hK zmm97 .eq 13 21 rfl rfl (fun h0 => ?_) (fun h0 => ?_)
  · have h0 : (if 0 ≤ x ∧ x ≤ 999999999 then 1 else 0 : Int) = (0 : Int) := h0
    have h0 := zif0 h0
    refine pm_blk hK zmm97 [] 1 22 [(2, 1), (0, x), (0, d), (0, w), (9, 0)] [(0, (-1))] μ [] rfl trivial ?_
    have zb := zwu_bd x
    first
    | exact pm_iret rfl rfl ⟨rfl, by rw [zwr_out (by omega)]⟩
    | exact pm_iret rfl rfl ⟨rfl, by rw [zwr_eq ⟨by omega, by omega⟩ (by omega) (by omega)]⟩
    | exact pm_iret rfl rfl ⟨rfl, by rw [zwr_ne ⟨by omega, by omega⟩ (by omega) (by omega)]⟩
    | exact pm_iret rfl rfl ⟨rfl, by rw [zwr_du ⟨by omega, by omega⟩ (by omega), zn]⟩
    | exact pm_iret rfl rfl ⟨rfl, by rw [zwr_du ⟨by omega, by omega⟩ (by omega)]⟩
  · have h0 : (if 0 ≤ x ∧ x ≤ 999999999 then 1 else 0 : Int) ≠ (0 : Int) := h0
    have h0 := zif1 h0
    refine pm_blk hK zmm97 [] 3 15 [(2, 1), (0, x), (0, d), (0, w), (9, 0)] [(0, 9), (0, 0), (0, d)] μ [] rfl trivial ?_
    refine pm_call hK zmm97 (94, 1, 16, 3) zM16 (0, 0) [(0, d), (0, 0), (0, 9)] [] rfl rfl rfl rfl ⟨by omega, by rw [zn16]; omega⟩ (zh_within hK ⟨Nat.le_refl _, Nat.le_refl _⟩) (fun st2 μc2 hp2 => ?_)
    obtain ⟨rfl, rfl⟩ := hp2
    refine pm_if hK zmm97 .ne 5 23 rfl rfl (fun h1 => ?_) (fun h1 => ?_)
    · have h1 : (if 0 ≤ d ∧ d ≤ 9 then 1 else 0 : Int) ≠ (0 : Int) := h1
      have h1 := zif1 h1
      refine pm_blk hK zmm97 [] 1 24 [(2, 1), (0, x), (0, d), (0, w), (9, 0)] [(0, x)] μ [] rfl trivial ?_
      refine pm_call hK zmm97 (362, 1, 98, 1) zM98 (1, 22) [(0, x)] [] rfl rfl rfl rfl ⟨by omega, by rw [zn98]; omega⟩ (zh_rightCheck hK (x := x) ⟨by omega, by omega⟩ ⟨Nat.le_refl _, Nat.le_refl _⟩) (fun st3 μc3 hp3 => ?_)
      obtain ⟨rfl, rfl⟩ := hp3
      refine pm_blk hK zmm97 [] 2 30 [(2, 1), (0, x), (0, d), (0, w), (0, zwu x)] [(0, w)] μ [] rfl trivial ?_
      refine pm_if hK zmm97 .ne 15 45 rfl rfl (fun h2 => ?_) (fun h2 => ?_)
      · have h2 : w ≠ (0 : Int) := h2
        refine pm_blk hK zmm97 [] 2 47 [(2, 1), (0, x), (0, d), (0, w), (0, zwu x)] [(0, 1), (0, w)] μ [] rfl trivial ?_
        refine pm_icmp hK zmm97 .ne 8 55 rfl rfl (fun h3 => ?_) (fun h3 => ?_)
        · have h3 : w ≠ (1 : Int) := h3
          refine pm_blk hK zmm97 [] 1 56 [(2, 1), (0, x), (0, d), (0, w), (0, zwu x)] [(0, (-1))] μ [] rfl trivial ?_
          have zb := zwu_bd x
          first
          | exact pm_iret rfl rfl ⟨rfl, by rw [zwr_out (by omega)]⟩
          | exact pm_iret rfl rfl ⟨rfl, by rw [zwr_eq ⟨by omega, by omega⟩ (by omega) (by omega)]⟩
          | exact pm_iret rfl rfl ⟨rfl, by rw [zwr_ne ⟨by omega, by omega⟩ (by omega) (by omega)]⟩
          | exact pm_iret rfl rfl ⟨rfl, by rw [zwr_du ⟨by omega, by omega⟩ (by omega), zn]⟩
          | exact pm_iret rfl rfl ⟨rfl, by rw [zwr_du ⟨by omega, by omega⟩ (by omega)]⟩
        · have h3 : w = (1 : Int) := h3
          refine pm_blk hK zmm97 [] 2 56 [(2, 1), (0, x), (0, d), (0, w), (0, zwu x)] [(0, zwu x)] μ [] rfl trivial ?_
          have zb := zwu_bd x
          first
          | exact pm_iret rfl rfl ⟨rfl, by rw [zwr_out (by omega)]⟩
          | exact pm_iret rfl rfl ⟨rfl, by rw [zwr_eq ⟨by omega, by omega⟩ (by omega) (by omega)]⟩
          | exact pm_iret rfl rfl ⟨rfl, by rw [zwr_ne ⟨by omega, by omega⟩ (by omega) (by omega)]⟩
          | exact pm_iret rfl rfl ⟨rfl, by rw [zwr_du ⟨by omega, by omega⟩ (by omega), zn]⟩
          | exact pm_iret rfl rfl ⟨rfl, by rw [zwr_du ⟨by omega, by omega⟩ (by omega)]⟩
      · have h2 : w = (0 : Int) := h2
        refine pm_blk hK zmm97 [] 2 36 [(2, 1), (0, x), (0, d), (0, w), (0, zwu x)] [(0, d), (0, zwu x)] μ [] rfl trivial ?_
        refine pm_icmp hK zmm97 .ne 7 43 rfl rfl (fun h4 => ?_) (fun h4 => ?_)
        · have h4 : zwu x ≠ d := h4
          refine pm_blk hK zmm97 [] 1 44 [(2, 1), (0, x), (0, d), (0, w), (0, zwu x)] [(0, 0)] μ [] rfl trivial ?_
          have zb := zwu_bd x
          first
          | exact pm_iret rfl rfl ⟨rfl, by rw [zwr_out (by omega)]⟩
          | exact pm_iret rfl rfl ⟨rfl, by rw [zwr_eq ⟨by omega, by omega⟩ (by omega) (by omega)]⟩
          | exact pm_iret rfl rfl ⟨rfl, by rw [zwr_ne ⟨by omega, by omega⟩ (by omega) (by omega)]⟩
          | exact pm_iret rfl rfl ⟨rfl, by rw [zwr_du ⟨by omega, by omega⟩ (by omega), zn]⟩
          | exact pm_iret rfl rfl ⟨rfl, by rw [zwr_du ⟨by omega, by omega⟩ (by omega)]⟩
        · have h4 : zwu x = d := h4
          refine pm_blk hK zmm97 [] 2 44 [(2, 1), (0, x), (0, d), (0, w), (0, zwu x)] [(0, 1)] μ [] rfl trivial ?_
          have zb := zwu_bd x
          first
          | exact pm_iret rfl rfl ⟨rfl, by rw [zwr_out (by omega)]⟩
          | exact pm_iret rfl rfl ⟨rfl, by rw [zwr_eq ⟨by omega, by omega⟩ (by omega) (by omega)]⟩
          | exact pm_iret rfl rfl ⟨rfl, by rw [zwr_ne ⟨by omega, by omega⟩ (by omega) (by omega)]⟩
          | exact pm_iret rfl rfl ⟨rfl, by rw [zwr_du ⟨by omega, by omega⟩ (by omega), zn]⟩
          | exact pm_iret rfl rfl ⟨rfl, by rw [zwr_du ⟨by omega, by omega⟩ (by omega)]⟩
    · have h1 : (if 0 ≤ d ∧ d ≤ 9 then 1 else 0 : Int) = (0 : Int) := h1
      have h1 := zif0 h1
      refine pm_blk hK zmm97 [] 1 22 [(2, 1), (0, x), (0, d), (0, w), (9, 0)] [(0, (-1))] μ [] rfl trivial ?_
      have zb := zwu_bd x
      first
      | exact pm_iret rfl rfl ⟨rfl, by rw [zwr_out (by omega)]⟩
      | exact pm_iret rfl rfl ⟨rfl, by rw [zwr_eq ⟨by omega, by omega⟩ (by omega) (by omega)]⟩
      | exact pm_iret rfl rfl ⟨rfl, by rw [zwr_ne ⟨by omega, by omega⟩ (by omega) (by omega)]⟩
      | exact pm_iret rfl rfl ⟨rfl, by rw [zwr_du ⟨by omega, by omega⟩ (by omega), zn]⟩
      | exact pm_iret rfl rfl ⟨rfl, by rw [zwr_du ⟨by omega, by omega⟩ (by omega)]⟩
set_option maxRecDepth 100000 in
theorem zl_cs (hK : zKK ST) {μ : pm_Mem} {x T : Int} (hbd : 0 ≤ bud.1 ∧ 0 ≤ bud.2.1) : ∀ (n : Nat) {s t r : Int}, r.toNat = n → ∀ (k : Nat) (tw : Bool) (ht : t = if tw = true then 1 else 0) (hr : 0 ≤ r ∧ r < 10 ^ k) (hr2 : r ≤ 999999999) (ha : 0 ≤ s ∧ s + 9 * (k : Int) ≤ 90) (hs : s + zws k tw r = T), zW D Wm ST b0 l Sg zM191 bud (pm_X zM191 (fun st' μ' => μ = μ' ∧ st' = [(0, T)])) 7 [(2, 205), (0, x), (0, s), (0, t), (0, r), (9, 0)] [] μ := by
  intro n
  induction n using Nat.strongRecOn with
  | ind n ih =>
    intro s t r hn k tw ht hr hr2 ha hs
    obtain ⟨z1, z2, z3, z4, z5, z6⟩ := zwdec hr.1
    have ht2 : (tw = true ∧ t = 1) ∨ (tw = false ∧ t = 0) := by cases tw; (exact Or.inr ⟨rfl, ht⟩); (exact Or.inl ⟨rfl, ht⟩)
    refine pm_blk hK zmm191 [] 1 9 [(2, 205), (0, x), (0, s), (0, t), (0, r), (9, 0)] [(0, r)] μ [] rfl trivial ?_
    refine pm_if hK zmm191 .le 60 69 rfl rfl (fun h0 => ?_) (fun h0 => ?_)
    · have h0 : r ≤ (0 : Int) := h0
      have er : r = 0 := by omega
      rw [er, zws_0] at hs
      have hs2 : s = T := by omega
      refine pm_blk hK zmm191 [] 1 70 [(2, 205), (0, x), (0, s), (0, t), (0, r), (9, 0)] [(0, s)] μ [] rfl trivial ?_
      exact pm_iret rfl rfl ⟨rfl, by rw [← hs2]⟩
    · have h0 : (0 : Int) < r := h0
      obtain ⟨k2, rfl, hk2⟩ := zwpow (by omega) hr.2
      have hc := zwdg_c tw (r.tmod 10)
      have z7 := z6 (by omega)
      rw [zws_s] at hs
      refine pm_blk hK zmm191 [] 4 18 [(2, 205), (0, x), (0, s), (0, t), (0, r), (9, 0)] [(0, t), (0, Int.tmod r 10)] μ [10 ≠ 0] rfl ⟨by omega, trivial⟩ ?_
      refine pm_if hK zmm191 .eq 7 25 rfl rfl (fun h1 => ?_) (fun h1 => ?_)
      · have h1 : t = (0 : Int) := h1
        refine pm_blk hK zmm191 [] 6 34 [(2, 205), (0, x), (0, s), (0, t), (0, r), (0, (Int.tmod r 10) * 1)] [(0, 9), (0, (Int.tmod r 10) * 1), (0, s)] μ [pm_in ((Int.tmod r 10) * 1)] rfl ⟨pm_in_mk (by omega) (by omega), trivial⟩ ?_
        refine pm_icmp hK zmm191 .le 11 45 rfl rfl (fun h2 => ?_) (fun h2 => ?_)
        · have h2 : (Int.tmod r 10) * 1 ≤ (9 : Int) := h2
          refine pm_blk hK zmm191 [] 4 50 [(2, 205), (0, x), (0, s + ((Int.tmod r 10) * 1)), (0, t), (0, r), (0, (Int.tmod r 10) * 1)] [(0, t)] μ [pm_in (s + ((Int.tmod r 10) * 1))] rfl ⟨pm_in_mk (by omega) (by omega), trivial⟩ ?_
          refine pm_if hK zmm191 .ne 7 57 rfl rfl (fun h3 => ?_) (fun h3 => ?_)
          · have h3 : t ≠ (0 : Int) := h3
            refine pm_blk hK zmm191 [] 7 7 [(2, 205), (0, x), (0, s + ((Int.tmod r 10) * 1)), (0, 0), (0, Int.tdiv r 10), (0, (Int.tmod r 10) * 1)] [] μ [10 ≠ 0, pm_in (Int.tdiv r 10)] rfl ⟨by omega, pm_in_mk (by omega) (by omega), trivial⟩ ?_
            refine pm_hide [5] ?_
            refine ih _ (by omega) rfl k2 (!tw) ?_ ⟨by omega, hk2⟩ (by omega) ⟨by omega, by omega⟩ ?_
            · rcases ht2 with ⟨q, q2⟩ | ⟨q, q2⟩
              · rw [q]; first | rfl | (exfalso; omega)
              · rw [q]; first | rfl | (exfalso; omega)
            · rcases ht2 with ⟨q, q2⟩ | ⟨q, q2⟩
              · simp only [q, true_and, Bool.true_eq_false, false_and, or_false] at hc hs ⊢; omega
              · simp only [q, true_and, Bool.false_eq_true, false_and, false_or] at hc hs ⊢; omega
          · have h3 : t = (0 : Int) := h3
            refine pm_blk hK zmm191 [] 8 7 [(2, 205), (0, x), (0, s + ((Int.tmod r 10) * 1)), (0, 1), (0, Int.tdiv r 10), (0, (Int.tmod r 10) * 1)] [] μ [10 ≠ 0, pm_in (Int.tdiv r 10)] rfl ⟨by omega, pm_in_mk (by omega) (by omega), trivial⟩ ?_
            refine pm_hide [5] ?_
            refine ih _ (by omega) rfl k2 (!tw) ?_ ⟨by omega, hk2⟩ (by omega) ⟨by omega, by omega⟩ ?_
            · rcases ht2 with ⟨q, q2⟩ | ⟨q, q2⟩
              · rw [q]; first | rfl | (exfalso; omega)
              · rw [q]; first | rfl | (exfalso; omega)
            · rcases ht2 with ⟨q, q2⟩ | ⟨q, q2⟩
              · simp only [q, true_and, Bool.true_eq_false, false_and, or_false] at hc hs ⊢; omega
              · simp only [q, true_and, Bool.false_eq_true, false_and, false_or] at hc hs ⊢; omega
        · have h2 : (9 : Int) < (Int.tmod r 10) * 1 := h2
          refine pm_blk hK zmm191 [] 7 50 [(2, 205), (0, x), (0, s + (((Int.tmod r 10) * 1) - 9)), (0, t), (0, r), (0, (Int.tmod r 10) * 1)] [(0, t)] μ [pm_in (((Int.tmod r 10) * 1) - 9), pm_in (s + (((Int.tmod r 10) * 1) - 9))] rfl ⟨pm_in_mk (by omega) (by omega), pm_in_mk (by omega) (by omega), trivial⟩ ?_
          refine pm_if hK zmm191 .ne 7 57 rfl rfl (fun h4 => ?_) (fun h4 => ?_)
          · have h4 : t ≠ (0 : Int) := h4
            refine pm_blk hK zmm191 [] 7 7 [(2, 205), (0, x), (0, s + (((Int.tmod r 10) * 1) - 9)), (0, 0), (0, Int.tdiv r 10), (0, (Int.tmod r 10) * 1)] [] μ [10 ≠ 0, pm_in (Int.tdiv r 10)] rfl ⟨by omega, pm_in_mk (by omega) (by omega), trivial⟩ ?_
            refine pm_hide [5] ?_
            refine ih _ (by omega) rfl k2 (!tw) ?_ ⟨by omega, hk2⟩ (by omega) ⟨by omega, by omega⟩ ?_
            · rcases ht2 with ⟨q, q2⟩ | ⟨q, q2⟩
              · rw [q]; first | rfl | (exfalso; omega)
              · rw [q]; first | rfl | (exfalso; omega)
            · rcases ht2 with ⟨q, q2⟩ | ⟨q, q2⟩
              · simp only [q, true_and, Bool.true_eq_false, false_and, or_false] at hc hs ⊢; omega
              · simp only [q, true_and, Bool.false_eq_true, false_and, false_or] at hc hs ⊢; omega
          · have h4 : t = (0 : Int) := h4
            refine pm_blk hK zmm191 [] 8 7 [(2, 205), (0, x), (0, s + (((Int.tmod r 10) * 1) - 9)), (0, 1), (0, Int.tdiv r 10), (0, (Int.tmod r 10) * 1)] [] μ [10 ≠ 0, pm_in (Int.tdiv r 10)] rfl ⟨by omega, pm_in_mk (by omega) (by omega), trivial⟩ ?_
            refine pm_hide [5] ?_
            refine ih _ (by omega) rfl k2 (!tw) ?_ ⟨by omega, hk2⟩ (by omega) ⟨by omega, by omega⟩ ?_
            · rcases ht2 with ⟨q, q2⟩ | ⟨q, q2⟩
              · rw [q]; first | rfl | (exfalso; omega)
              · rw [q]; first | rfl | (exfalso; omega)
            · rcases ht2 with ⟨q, q2⟩ | ⟨q, q2⟩
              · simp only [q, true_and, Bool.true_eq_false, false_and, or_false] at hc hs ⊢; omega
              · simp only [q, true_and, Bool.false_eq_true, false_and, false_or] at hc hs ⊢; omega
      · have h1 : t ≠ (0 : Int) := h1
        refine pm_blk hK zmm191 [] 7 34 [(2, 205), (0, x), (0, s), (0, t), (0, r), (0, (Int.tmod r 10) * 2)] [(0, 9), (0, (Int.tmod r 10) * 2), (0, s)] μ [pm_in ((Int.tmod r 10) * 2)] rfl ⟨pm_in_mk (by omega) (by omega), trivial⟩ ?_
        refine pm_icmp hK zmm191 .le 11 45 rfl rfl (fun h5 => ?_) (fun h5 => ?_)
        · have h5 : (Int.tmod r 10) * 2 ≤ (9 : Int) := h5
          refine pm_blk hK zmm191 [] 4 50 [(2, 205), (0, x), (0, s + ((Int.tmod r 10) * 2)), (0, t), (0, r), (0, (Int.tmod r 10) * 2)] [(0, t)] μ [pm_in (s + ((Int.tmod r 10) * 2))] rfl ⟨pm_in_mk (by omega) (by omega), trivial⟩ ?_
          refine pm_if hK zmm191 .ne 7 57 rfl rfl (fun h6 => ?_) (fun h6 => ?_)
          · have h6 : t ≠ (0 : Int) := h6
            refine pm_blk hK zmm191 [] 7 7 [(2, 205), (0, x), (0, s + ((Int.tmod r 10) * 2)), (0, 0), (0, Int.tdiv r 10), (0, (Int.tmod r 10) * 2)] [] μ [10 ≠ 0, pm_in (Int.tdiv r 10)] rfl ⟨by omega, pm_in_mk (by omega) (by omega), trivial⟩ ?_
            refine pm_hide [5] ?_
            refine ih _ (by omega) rfl k2 (!tw) ?_ ⟨by omega, hk2⟩ (by omega) ⟨by omega, by omega⟩ ?_
            · rcases ht2 with ⟨q, q2⟩ | ⟨q, q2⟩
              · rw [q]; first | rfl | (exfalso; omega)
              · rw [q]; first | rfl | (exfalso; omega)
            · rcases ht2 with ⟨q, q2⟩ | ⟨q, q2⟩
              · simp only [q, true_and, Bool.true_eq_false, false_and, or_false] at hc hs ⊢; omega
              · simp only [q, true_and, Bool.false_eq_true, false_and, false_or] at hc hs ⊢; omega
          · have h6 : t = (0 : Int) := h6
            refine pm_blk hK zmm191 [] 8 7 [(2, 205), (0, x), (0, s + ((Int.tmod r 10) * 2)), (0, 1), (0, Int.tdiv r 10), (0, (Int.tmod r 10) * 2)] [] μ [10 ≠ 0, pm_in (Int.tdiv r 10)] rfl ⟨by omega, pm_in_mk (by omega) (by omega), trivial⟩ ?_
            refine pm_hide [5] ?_
            refine ih _ (by omega) rfl k2 (!tw) ?_ ⟨by omega, hk2⟩ (by omega) ⟨by omega, by omega⟩ ?_
            · rcases ht2 with ⟨q, q2⟩ | ⟨q, q2⟩
              · rw [q]; first | rfl | (exfalso; omega)
              · rw [q]; first | rfl | (exfalso; omega)
            · rcases ht2 with ⟨q, q2⟩ | ⟨q, q2⟩
              · simp only [q, true_and, Bool.true_eq_false, false_and, or_false] at hc hs ⊢; omega
              · simp only [q, true_and, Bool.false_eq_true, false_and, false_or] at hc hs ⊢; omega
        · have h5 : (9 : Int) < (Int.tmod r 10) * 2 := h5
          refine pm_blk hK zmm191 [] 7 50 [(2, 205), (0, x), (0, s + (((Int.tmod r 10) * 2) - 9)), (0, t), (0, r), (0, (Int.tmod r 10) * 2)] [(0, t)] μ [pm_in (((Int.tmod r 10) * 2) - 9), pm_in (s + (((Int.tmod r 10) * 2) - 9))] rfl ⟨pm_in_mk (by omega) (by omega), pm_in_mk (by omega) (by omega), trivial⟩ ?_
          refine pm_if hK zmm191 .ne 7 57 rfl rfl (fun h7 => ?_) (fun h7 => ?_)
          · have h7 : t ≠ (0 : Int) := h7
            refine pm_blk hK zmm191 [] 7 7 [(2, 205), (0, x), (0, s + (((Int.tmod r 10) * 2) - 9)), (0, 0), (0, Int.tdiv r 10), (0, (Int.tmod r 10) * 2)] [] μ [10 ≠ 0, pm_in (Int.tdiv r 10)] rfl ⟨by omega, pm_in_mk (by omega) (by omega), trivial⟩ ?_
            refine pm_hide [5] ?_
            refine ih _ (by omega) rfl k2 (!tw) ?_ ⟨by omega, hk2⟩ (by omega) ⟨by omega, by omega⟩ ?_
            · rcases ht2 with ⟨q, q2⟩ | ⟨q, q2⟩
              · rw [q]; first | rfl | (exfalso; omega)
              · rw [q]; first | rfl | (exfalso; omega)
            · rcases ht2 with ⟨q, q2⟩ | ⟨q, q2⟩
              · simp only [q, true_and, Bool.true_eq_false, false_and, or_false] at hc hs ⊢; omega
              · simp only [q, true_and, Bool.false_eq_true, false_and, false_or] at hc hs ⊢; omega
          · have h7 : t = (0 : Int) := h7
            refine pm_blk hK zmm191 [] 8 7 [(2, 205), (0, x), (0, s + (((Int.tmod r 10) * 2) - 9)), (0, 1), (0, Int.tdiv r 10), (0, (Int.tmod r 10) * 2)] [] μ [10 ≠ 0, pm_in (Int.tdiv r 10)] rfl ⟨by omega, pm_in_mk (by omega) (by omega), trivial⟩ ?_
            refine pm_hide [5] ?_
            refine ih _ (by omega) rfl k2 (!tw) ?_ ⟨by omega, hk2⟩ (by omega) ⟨by omega, by omega⟩ ?_
            · rcases ht2 with ⟨q, q2⟩ | ⟨q, q2⟩
              · rw [q]; first | rfl | (exfalso; omega)
              · rw [q]; first | rfl | (exfalso; omega)
            · rcases ht2 with ⟨q, q2⟩ | ⟨q, q2⟩
              · simp only [q, true_and, Bool.true_eq_false, false_and, or_false] at hc hs ⊢; omega
              · simp only [q, true_and, Bool.false_eq_true, false_and, false_or] at hc hs ⊢; omega
set_option maxRecDepth 100000 in
theorem zh_checkedSum (hK : zKK ST) {x : Int} (hx : 0 ≤ x ∧ x ≤ 999999999) (hbd : 0 ≤ bud.1 ∧ 0 ≤ bud.2.1) : zC D Wm ST b0 l Sg zM191 bud [(2, 205), (0, x)] μ (fun st' μ' => μ = μ' ∧ st' = [(0, zws 10 true x)]) := by
  refine pm_blk hK zmm191 [] 6 7 [(2, 205), (0, x), (0, 0), (0, 1), (0, x), (9, 0)] [] μ [] rfl trivial ?_
  exact zl_cs hK (x := x) (T := zws 10 true x) hbd _ (s := 0) (t := 1) (r := x) rfl 10 true rfl ⟨by omega, by omega⟩ (by omega) ⟨by omega, by omega⟩ (by rw [Int.zero_add])
set_option maxRecDepth 100000 in
theorem zh_writtenm (hK : zKK ST) {x d w : Int} (hT : zTJ μ) (hb205 : sx_bit Wm 205 = true) (hbd : 1 ≤ bud.1 ∧ 25 ≤ bud.2.1) : zC D Wm ST b0 l Sg zM190 bud [(2, 205), (0, x), (0, d), (0, w)] μ (fun st' μ' => zTJ μ' ∧ st' = [(0, zwr x d w)]) := by
  refine pm_blk hK zmm190 [] 3 5 [(2, 205), (0, x), (0, d), (0, w), (9, 0)] [] (pm_up μ 205 0 0) [sx_bit Wm 205 = true] rfl ⟨hb205, trivial⟩ ?_
  obtain ⟨μ1, eμ1⟩ : ∃ μ', μ' = pm_up μ 205 0 0 := ⟨_, rfl⟩
  rw [← eμ1]
  have hTμ1 : zTJ μ1 := by rw [eμ1]; exact zT_up hT zs205_0 rfl (i := 0) (by omega) (by omega) (by omega) (by omega)
  refine pm_blk hK zmm190 [] 4 11 [(2, 205), (0, x), (0, d), (0, w), (9, 0)] [(0, 999999999), (0, 0), (0, x), (2, 205)] μ1 [] rfl trivial ?_
  refine pm_call hK zmm190 (158, 0, 129, 3) zM129 (0, 0) [(2, 205), (0, x), (0, 0), (0, 999999999)] [] rfl rfl rfl rfl ⟨by omega, by rw [zn129]; omega⟩ (zh_isIn hK ⟨by omega, by omega⟩) (fun st1 μc1 hp1 => ?_)
  obtain ⟨rfl, rfl⟩ := hp1
  refine pm_if hK zmm190 .eq 24 38 rfl rfl (fun h0 => ?_) (fun h0 => ?_)
  · have h0 : (if 0 ≤ x ∧ x ≤ 999999999 then 1 else 0 : Int) = (0 : Int) := h0
    have h0 := zif0 h0
    refine pm_blk hK zmm190 [] 1 39 [(2, 205), (0, x), (0, d), (0, w), (9, 0)] [(0, (-1))] μ1 [] rfl trivial ?_
    have zb := zwu_bd x
    first
    | exact pm_iret rfl rfl ⟨hTμ1, by rw [zwr_out (by omega)]⟩
    | exact pm_iret rfl rfl ⟨hTμ1, by rw [zwr_eq ⟨by omega, by omega⟩ (by omega) (by omega)]⟩
    | exact pm_iret rfl rfl ⟨hTμ1, by rw [zwr_ne ⟨by omega, by omega⟩ (by omega) (by omega)]⟩
    | exact pm_iret rfl rfl ⟨hTμ1, by rw [zwr_du ⟨by omega, by omega⟩ (by omega), zn]⟩
    | exact pm_iret rfl rfl ⟨hTμ1, by rw [zwr_du ⟨by omega, by omega⟩ (by omega)]⟩
  · have h0 : (if 0 ≤ x ∧ x ≤ 999999999 then 1 else 0 : Int) ≠ (0 : Int) := h0
    have h0 := zif1 h0
    refine pm_blk hK zmm190 [] 4 22 [(2, 205), (0, x), (0, d), (0, w), (9, 0)] [(0, 9), (0, 0), (0, d), (2, 205)] μ1 [] rfl trivial ?_
    refine pm_call hK zmm190 (158, 0, 129, 3) zM129 (0, 0) [(2, 205), (0, d), (0, 0), (0, 9)] [] rfl rfl rfl rfl ⟨by omega, by rw [zn129]; omega⟩ (zh_isIn hK ⟨by omega, by omega⟩) (fun st2 μc2 hp2 => ?_)
    obtain ⟨rfl, rfl⟩ := hp2
    refine pm_if hK zmm190 .eq 13 38 rfl rfl (fun h1 => ?_) (fun h1 => ?_)
    · have h1 : (if 0 ≤ d ∧ d ≤ 9 then 1 else 0 : Int) = (0 : Int) := h1
      have h1 := zif0 h1
      refine pm_blk hK zmm190 [] 1 39 [(2, 205), (0, x), (0, d), (0, w), (9, 0)] [(0, (-1))] μ1 [] rfl trivial ?_
      have zb := zwu_bd x
      first
      | exact pm_iret rfl rfl ⟨hTμ1, by rw [zwr_out (by omega)]⟩
      | exact pm_iret rfl rfl ⟨hTμ1, by rw [zwr_eq ⟨by omega, by omega⟩ (by omega) (by omega)]⟩
      | exact pm_iret rfl rfl ⟨hTμ1, by rw [zwr_ne ⟨by omega, by omega⟩ (by omega) (by omega)]⟩
      | exact pm_iret rfl rfl ⟨hTμ1, by rw [zwr_du ⟨by omega, by omega⟩ (by omega), zn]⟩
      | exact pm_iret rfl rfl ⟨hTμ1, by rw [zwr_du ⟨by omega, by omega⟩ (by omega)]⟩
    · have h1 : (if 0 ≤ d ∧ d ≤ 9 then 1 else 0 : Int) ≠ (0 : Int) := h1
      have h1 := zif1 h1
      refine pm_blk hK zmm190 [] 4 32 [(2, 205), (0, x), (0, d), (0, w), (9, 0)] [(0, 1), (0, 0), (0, w), (2, 205)] μ1 [] rfl trivial ?_
      refine pm_call hK zmm190 (158, 0, 129, 3) zM129 (0, 0) [(2, 205), (0, w), (0, 0), (0, 1)] [] rfl rfl rfl rfl ⟨by omega, by rw [zn129]; omega⟩ (zh_isIn hK ⟨by omega, by omega⟩) (fun st3 μc3 hp3 => ?_)
      obtain ⟨rfl, rfl⟩ := hp3
      refine pm_if hK zmm190 .ne 5 40 rfl rfl (fun h2 => ?_) (fun h2 => ?_)
      · have h2 : (if 0 ≤ w ∧ w ≤ 1 then 1 else 0 : Int) ≠ (0 : Int) := h2
        have h2 := zif1 h2
        refine pm_blk hK zmm190 [] 3 44 [(2, 205), (0, x), (0, d), (0, w), (9, 0)] [(0, x), (2, 205), (0, 10)] μ1 [] rfl trivial ?_
        refine pm_call hK zmm190 (480, 0, 191, 1) zM191 (0, 0) [(2, 205), (0, x)] [(0, 10)] rfl rfl rfl rfl ⟨by omega, by rw [zn191]; omega⟩ (zh_checkedSum hK (x := x) ⟨by omega, by omega⟩ ⟨Nat.le_refl _, Nat.le_refl _⟩) (fun st4 μc4 hp4 => ?_)
        obtain ⟨rfl, rfl⟩ := hp4
        have zt := zws_bd 10 true x (by omega)
        have zm : Int.tmod (zws 10 true x) 10 = zws 10 true x % 10 := Int.tmod_eq_emod_of_nonneg zt.1
        refine pm_blk hK zmm190 [] 5 54 [(2, 205), (0, x), (0, d), (0, w), (9, 0)] [(0, Int.tmod (10 - (Int.tmod (zws 10 true x) 10)) 10)] μ1 [10 ≠ 0, pm_in (10 - (Int.tmod (zws 10 true x) 10)), 10 ≠ 0] rfl ⟨by omega, pm_in_mk (by omega) (by omega), by omega, trivial⟩ ?_
        have zn : (Int.tmod (10 - (Int.tmod (zws 10 true x) 10)) 10) = zwu x := by
          rw [zm, Int.tmod_eq_emod_of_nonneg (by omega)]
          rfl
        refine pm_blk hK zmm190 [] 3 58 [(2, 205), (0, x), (0, d), (0, w), (0, Int.tmod (10 - (Int.tmod (zws 10 true x) 10)) 10)] [(0, 1), (0, w)] μ1 [] rfl trivial ?_
        refine pm_icmp hK zmm190 .ne 8 66 rfl rfl (fun h3 => ?_) (fun h3 => ?_)
        · have h3 : w ≠ (1 : Int) := h3
          refine pm_blk hK zmm190 [] 2 69 [(2, 205), (0, x), (0, d), (0, w), (0, Int.tmod (10 - (Int.tmod (zws 10 true x) 10)) 10)] [(0, Int.tmod (10 - (Int.tmod (zws 10 true x) 10)) 10), (0, d)] μ1 [] rfl trivial ?_
          refine pm_icmp hK zmm190 .ne 7 76 rfl rfl (fun h4 => ?_) (fun h4 => ?_)
          · have h4 : d ≠ Int.tmod (10 - (Int.tmod (zws 10 true x) 10)) 10 := h4
            refine pm_blk hK zmm190 [] 1 77 [(2, 205), (0, x), (0, d), (0, w), (0, Int.tmod (10 - (Int.tmod (zws 10 true x) 10)) 10)] [(0, 0)] μ1 [] rfl trivial ?_
            have zb := zwu_bd x
            first
            | exact pm_iret rfl rfl ⟨hTμ1, by rw [zwr_out (by omega)]⟩
            | exact pm_iret rfl rfl ⟨hTμ1, by rw [zwr_eq ⟨by omega, by omega⟩ (by omega) (by omega)]⟩
            | exact pm_iret rfl rfl ⟨hTμ1, by rw [zwr_ne ⟨by omega, by omega⟩ (by omega) (by omega)]⟩
            | exact pm_iret rfl rfl ⟨hTμ1, by rw [zwr_du ⟨by omega, by omega⟩ (by omega), zn]⟩
            | exact pm_iret rfl rfl ⟨hTμ1, by rw [zwr_du ⟨by omega, by omega⟩ (by omega)]⟩
          · have h4 : d = Int.tmod (10 - (Int.tmod (zws 10 true x) 10)) 10 := h4
            refine pm_blk hK zmm190 [] 2 77 [(2, 205), (0, x), (0, d), (0, w), (0, Int.tmod (10 - (Int.tmod (zws 10 true x) 10)) 10)] [(0, 1)] μ1 [] rfl trivial ?_
            have zb := zwu_bd x
            first
            | exact pm_iret rfl rfl ⟨hTμ1, by rw [zwr_out (by omega)]⟩
            | exact pm_iret rfl rfl ⟨hTμ1, by rw [zwr_eq ⟨by omega, by omega⟩ (by omega) (by omega)]⟩
            | exact pm_iret rfl rfl ⟨hTμ1, by rw [zwr_ne ⟨by omega, by omega⟩ (by omega) (by omega)]⟩
            | exact pm_iret rfl rfl ⟨hTμ1, by rw [zwr_du ⟨by omega, by omega⟩ (by omega), zn]⟩
            | exact pm_iret rfl rfl ⟨hTμ1, by rw [zwr_du ⟨by omega, by omega⟩ (by omega)]⟩
        · have h3 : w = (1 : Int) := h3
          refine pm_blk hK zmm190 [] 2 77 [(2, 205), (0, x), (0, d), (0, w), (0, Int.tmod (10 - (Int.tmod (zws 10 true x) 10)) 10)] [(0, Int.tmod (10 - (Int.tmod (zws 10 true x) 10)) 10)] μ1 [] rfl trivial ?_
          have zb := zwu_bd x
          first
          | exact pm_iret rfl rfl ⟨hTμ1, by rw [zwr_out (by omega)]⟩
          | exact pm_iret rfl rfl ⟨hTμ1, by rw [zwr_eq ⟨by omega, by omega⟩ (by omega) (by omega)]⟩
          | exact pm_iret rfl rfl ⟨hTμ1, by rw [zwr_ne ⟨by omega, by omega⟩ (by omega) (by omega)]⟩
          | exact pm_iret rfl rfl ⟨hTμ1, by rw [zwr_du ⟨by omega, by omega⟩ (by omega), zn]⟩
          | exact pm_iret rfl rfl ⟨hTμ1, by rw [zwr_du ⟨by omega, by omega⟩ (by omega)]⟩
      · have h2 : (if 0 ≤ w ∧ w ≤ 1 then 1 else 0 : Int) = (0 : Int) := h2
        have h2 := zif0 h2
        refine pm_blk hK zmm190 [] 1 39 [(2, 205), (0, x), (0, d), (0, w), (9, 0)] [(0, (-1))] μ1 [] rfl trivial ?_
        have zb := zwu_bd x
        first
        | exact pm_iret rfl rfl ⟨hTμ1, by rw [zwr_out (by omega)]⟩
        | exact pm_iret rfl rfl ⟨hTμ1, by rw [zwr_eq ⟨by omega, by omega⟩ (by omega) (by omega)]⟩
        | exact pm_iret rfl rfl ⟨hTμ1, by rw [zwr_ne ⟨by omega, by omega⟩ (by omega) (by omega)]⟩
        | exact pm_iret rfl rfl ⟨hTμ1, by rw [zwr_du ⟨by omega, by omega⟩ (by omega), zn]⟩
        | exact pm_iret rfl rfl ⟨hTμ1, by rw [zwr_du ⟨by omega, by omega⟩ (by omega)]⟩
end ZHW
