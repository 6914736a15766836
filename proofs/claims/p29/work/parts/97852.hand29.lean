/-! EARNED, both sides; walks printed by program (wip/p30/pmgen.py) and filled by hand -/
variable {φ : Option pm_Mem}
section ZHW
variable {D : va_G} {Wm : Nat} {ST : List (String × String × String × Nat)} {b0 : sx_B} {l : Launch} {Sg : Nat → Option Nat} {bud : sx_Bu} {μ : pm_Mem} {B0 : Nat → Prop} {J : (Nat → Option Nat) → Heap → Prop}
set_option maxRecDepth 100000 in
theorem zl_bi (hK : zKK ST) {X : Nat → List pm_V → List pm_V → pm_Mem → Prop} {w a : Int} {T : Int × Int} (hT : zTJ φ μ) (ha : 0 ≤ a ∧ a ≤ 11) (hc1 : 1 ≤ μ 39 1) (K : ∀ (m x : Int), T = (m, x) → (0 ≤ x ∧ x ≤ 11) → (-2000 ≤ m ∧ m ≤ 2000) → zW D Wm ST b0 l Sg zM271 bud X 67 [(2, 39), (0, w), (0, m), (0, x), (0, a), (9, 0), (9, 0)] [] μ) (hbd : 0 ≤ bud.1 ∧ 0 ≤ bud.2.1) : ∀ (n : Nat) {m x s b : Int}, (μ 39 1 - b).toNat = n → ∀ (hb : a ≤ b ∧ b ≤ μ 39 1) (hs : -99 * (b - a) ≤ s ∧ s ≤ 99 * (b - a)) (hx : -1 ≤ x ∧ x ≤ 11) (hx2 : x = -1 → a = 0 ∧ b = a) (hm : -2000 ≤ m ∧ m ≤ 2000) (hz : zeI (μ 40) a (μ 39 1 - b).toNat b s (zeM x m) (zeX x) = T), zW D Wm ST b0 l Sg zM271 bud X 23 [(2, 39), (0, w), (0, m), (0, x), (0, a), (0, s), (0, b)] [] μ := by
  intro n
  induction n using Nat.strongRecOn with
  | ind n ih =>
    intro m x s b hn hb hs hx hx2 hm hz
    have ya : a ≠ -1 := by omega
    have f1 := zT_get hT zs39_1 (i := 1) (by omega) (by omega)
    refine pm_blk hK zmm271 [] 3 29 [(2, 39), (0, w), (0, m), (0, x), (0, a), (0, s), (0, b)] [(0, μ 39 1), (0, b)] μ [] rfl trivial ?_
    refine pm_icmp hK zmm271 .ge 38 67 rfl rfl (fun h0 => ?_) (fun h0 => ?_)
    · have h0 : μ 39 1 ≤ b := h0
      refine pm_hide [5, 6] ?_
      have yx : x ≠ -1 := fun h => by have := hx2 h; omega
      refine K _ _ ?_ ⟨by omega, by omega⟩ hm
      rw [← hz, zeM_y yx, zeX_y yx]
      exact zeI_end (by omega)
    · have h0 : b < μ 39 1 := h0
      have f2 := zT_get hT zs40_0 (i := b) (by omega) (by omega)
      refine pm_blk hK zmm271 [] 9 46 [(2, 39), (0, w), (0, m), (0, x), (0, a), (0, s + (μ 40 b)), (0, b)] [(0, (-1)), (0, x)] μ [0 ≤ b ∧ b < 12, pm_in (s + (μ 40 b))] rfl ⟨⟨by omega, by omega⟩, pm_in_mk (by omega) (by omega), trivial⟩ ?_
      refine pm_icmp hK zmm271 .eq 9 55 rfl rfl (fun h1 => ?_) (fun h1 => ?_)
      · have h1 : x = ((-1) : Int) := h1
        refine pm_blk hK zmm271 [] 6 23 [(2, 39), (0, w), (0, s + (μ 40 b)), (0, a), (0, a), (0, s + (μ 40 b)), (0, b + 1)] [] μ [pm_in (b + 1)] rfl ⟨pm_in_mk (by omega) (by omega), trivial⟩ ?_
        first
        | (have e1 := zeI_y (by omega) (by rw [h1, zeM_0]; omega) hz; refine ih _ (by omega) rfl ⟨by omega, by omega⟩ ⟨by omega, by omega⟩ ⟨by omega, by omega⟩ (fun h => absurd h ya) ⟨by omega, by omega⟩ ?_; rw [zeM_y ya, zeX_y ya]; exact e1)
        | (have e1 := zeI_y (by omega) (by rw [zeM_y h1]; omega) hz; refine ih _ (by omega) rfl ⟨by omega, by omega⟩ ⟨by omega, by omega⟩ ⟨by omega, by omega⟩ (fun h => absurd h ya) ⟨by omega, by omega⟩ ?_; rw [zeM_y ya, zeX_y ya]; exact e1)
        | (have e1 := zeI_n (by omega) (by rw [zeM_y h1]; omega) hz; exact ih _ (by omega) rfl ⟨by omega, by omega⟩ ⟨by omega, by omega⟩ hx (fun h => absurd h h1) hm e1)
      · have h1 : x ≠ ((-1) : Int) := h1
        refine pm_blk hK zmm271 [] 2 52 [(2, 39), (0, w), (0, m), (0, x), (0, a), (0, s + (μ 40 b)), (0, b)] [(0, m), (0, s + (μ 40 b))] μ [] rfl trivial ?_
        refine pm_icmp hK zmm271 .le 9 61 rfl rfl (fun h2 => ?_) (fun h2 => ?_)
        · have h2 : s + (μ 40 b) ≤ m := h2
          refine pm_blk hK zmm271 [] 2 23 [(2, 39), (0, w), (0, m), (0, x), (0, a), (0, s + (μ 40 b)), (0, b + 1)] [] μ [pm_in (b + 1)] rfl ⟨pm_in_mk (by omega) (by omega), trivial⟩ ?_
          first
          | (have e1 := zeI_y (by omega) (by rw [h1, zeM_0]; omega) hz; refine ih _ (by omega) rfl ⟨by omega, by omega⟩ ⟨by omega, by omega⟩ ⟨by omega, by omega⟩ (fun h => absurd h ya) ⟨by omega, by omega⟩ ?_; rw [zeM_y ya, zeX_y ya]; exact e1)
          | (have e1 := zeI_y (by omega) (by rw [zeM_y h1]; omega) hz; refine ih _ (by omega) rfl ⟨by omega, by omega⟩ ⟨by omega, by omega⟩ ⟨by omega, by omega⟩ (fun h => absurd h ya) ⟨by omega, by omega⟩ ?_; rw [zeM_y ya, zeX_y ya]; exact e1)
          | (have e1 := zeI_n (by omega) (by rw [zeM_y h1]; omega) hz; exact ih _ (by omega) rfl ⟨by omega, by omega⟩ ⟨by omega, by omega⟩ hx (fun h => absurd h h1) hm e1)
        · have h2 : m < s + (μ 40 b) := h2
          refine pm_blk hK zmm271 [] 6 23 [(2, 39), (0, w), (0, s + (μ 40 b)), (0, a), (0, a), (0, s + (μ 40 b)), (0, b + 1)] [] μ [pm_in (b + 1)] rfl ⟨pm_in_mk (by omega) (by omega), trivial⟩ ?_
          first
          | (have e1 := zeI_y (by omega) (by rw [h1, zeM_0]; omega) hz; refine ih _ (by omega) rfl ⟨by omega, by omega⟩ ⟨by omega, by omega⟩ ⟨by omega, by omega⟩ (fun h => absurd h ya) ⟨by omega, by omega⟩ ?_; rw [zeM_y ya, zeX_y ya]; exact e1)
          | (have e1 := zeI_y (by omega) (by rw [zeM_y h1]; omega) hz; refine ih _ (by omega) rfl ⟨by omega, by omega⟩ ⟨by omega, by omega⟩ ⟨by omega, by omega⟩ (fun h => absurd h ya) ⟨by omega, by omega⟩ ?_; rw [zeM_y ya, zeX_y ya]; exact e1)
          | (have e1 := zeI_n (by omega) (by rw [zeM_y h1]; omega) hz; exact ih _ (by omega) rfl ⟨by omega, by omega⟩ ⟨by omega, by omega⟩ hx (fun h => absurd h h1) hm e1)
set_option maxRecDepth 100000 in
theorem zl_bo (hK : zKK ST)  {w : Int} {T : Int × Int} (hT : zTJ φ μ) (hc1 : 1 ≤ μ 39 1) (hw : 0 ≤ w ∧ w ≤ 1) (hbd : 0 ≤ bud.1 ∧ 0 ≤ bud.2.1) : ∀ (n : Nat) {m x a : Int}, (μ 39 1 - a).toNat = n → ∀ (ha : 0 ≤ a ∧ a ≤ μ 39 1) (hx : -1 ≤ x ∧ x ≤ 11) (hx2 : x = -1 → a = 0) (hm : -2000 ≤ m ∧ m ≤ 2000) (hz : zeO (μ 40) (μ 39 1) (μ 39 1 - a).toNat a (zeM x m) (zeX x) = T), zW D Wm ST b0 l Sg zM271 bud (pm_X zM271 (fun st' μ' => μ = μ' ∧ st' = [(0, if w = 1 then T.2 else T.1)])) 7 [(2, 39), (0, w), (0, m), (0, x), (0, a), (9, 0), (9, 0)] [] μ := by
  intro n
  induction n using Nat.strongRecOn with
  | ind n ih =>
    intro m x a hn ha hx hx2 hm hz
    have f1 := zT_get hT zs39_1 (i := 1) (by omega) (by omega)
    refine pm_blk hK zmm271 [] 3 13 [(2, 39), (0, w), (0, m), (0, x), (0, a), (9, 0), (9, 0)] [(0, μ 39 1), (0, a)] μ [] rfl trivial ?_
    refine pm_icmp hK zmm271 .ge 60 73 rfl rfl (fun h0 => ?_) (fun h0 => ?_)
    · have h0 : μ 39 1 ≤ a := h0
      refine pm_blk hK zmm271 [] 1 74 [(2, 39), (0, w), (0, m), (0, x), (0, a), (9, 0), (9, 0)] [(0, w)] μ [] rfl trivial ?_
      refine pm_if hK zmm271 .eq 7 81 rfl rfl (fun h1 => ?_) (fun h1 => ?_)
      · have h1 : w = (0 : Int) := h1
        refine pm_blk hK zmm271 [] 1 82 [(2, 39), (0, w), (0, m), (0, x), (0, a), (9, 0), (9, 0)] [(0, m)] μ [] rfl trivial ?_
        have yx : x ≠ -1 := fun h => by have := hx2 h; omega
        have eT : T = (m, x) := by
          rw [← hz, zeM_y yx, zeX_y yx]
          exact zeO_end (by omega)
        first
        | (have hw1 : w = 0 := (by omega); exact pm_iret rfl rfl ⟨rfl, by rw [eT, if_neg (by omega)]⟩)
        | (have hw1 : w = 1 := (by omega); exact pm_iret rfl rfl ⟨rfl, by rw [eT, if_pos hw1]⟩)
      · have h1 : w ≠ (0 : Int) := h1
        refine pm_blk hK zmm271 [] 2 82 [(2, 39), (0, w), (0, m), (0, x), (0, a), (9, 0), (9, 0)] [(0, x)] μ [] rfl trivial ?_
        have yx : x ≠ -1 := fun h => by have := hx2 h; omega
        have eT : T = (m, x) := by
          rw [← hz, zeM_y yx, zeX_y yx]
          exact zeO_end (by omega)
        first
        | (have hw1 : w = 0 := (by omega); exact pm_iret rfl rfl ⟨rfl, by rw [eT, if_neg (by omega)]⟩)
        | (have hw1 : w = 1 := (by omega); exact pm_iret rfl rfl ⟨rfl, by rw [eT, if_pos hw1]⟩)
    · have h0 : a < μ 39 1 := h0
      refine pm_blk hK zmm271 [] 4 23 [(2, 39), (0, w), (0, m), (0, x), (0, a), (0, 0), (0, a)] [] μ [] rfl trivial ?_
      refine zl_bi hK hT ⟨by omega, by omega⟩ hc1 (T := zeI (μ 40) a (μ 39 1 - a).toNat a 0 (zeM x m) (zeX x)) (fun m2 x2 hT2 hx3 hm2 => ?_) hbd _ rfl ⟨Int.le_refl _, by omega⟩ ⟨by omega, by omega⟩ hx (fun h => ⟨hx2 h, rfl⟩) hm rfl
      have y2 : x2 ≠ -1 := by omega
      refine pm_blk hK zmm271 [] 2 7 [(2, 39), (0, w), (0, m2), (0, x2), (0, a + 1), (9, 0), (9, 0)] [] μ [pm_in (a + 1)] rfl ⟨pm_in_mk (by omega) (by omega), trivial⟩ ?_
      exact ih _ (by omega) rfl ⟨by omega, by omega⟩ ⟨by omega, by omega⟩ (fun h => absurd h y2) hm2 (by rw [zeM_y y2, zeX_y y2]; exact zeO_s (by omega) hz hT2)
set_option maxRecDepth 100000 in
theorem zh_bestDays (hK : zKK ST) {w : Int} (hT : zTJ φ μ) (hc1 : 1 ≤ μ 39 1) (hw : 0 ≤ w ∧ w ≤ 1) (hbd : 0 ≤ bud.1 ∧ 0 ≤ bud.2.1) : zC D Wm ST b0 l Sg zM271 bud [(2, 39), (0, w)] μ (fun st' μ' => μ = μ' ∧ st' = [(0, if w = 1 then (zeA (μ 39 1) (μ 40)).2 else (zeA (μ 39 1) (μ 40)).1)]) := by
  have f0 := zT_get hT zs39_1 (i := 1) (by omega) (by omega)
  refine pm_blk hK zmm271 [] 6 7 [(2, 39), (0, w), (0, 0), (0, (-1)), (0, 0), (9, 0), (9, 0)] [] μ [] rfl trivial ?_
  exact zl_bo hK hT hc1 hw hbd _ rfl ⟨Int.le_refl _, by omega⟩ ⟨by omega, by omega⟩ (fun _ => rfl) ⟨by omega, by omega⟩ (by rw [zeM_0, zeX_0, Int.sub_zero]; rfl)
set_option maxRecDepth 100000 in
theorem zh_earnedx (hK : zKK ST) {w : Int} (hT : zTJ φ μ) (hbd : 1 ≤ bud.1 ∧ 30 ≤ bud.2.1) : zC D Wm ST b0 l Sg zM96 bud [(2, 1), (0, w)] μ (fun st' μ' => zTJ φ μ' ∧ st' = [(0, zeZ (μ 39 1) (μ 40) w)]) := by
  have f1 := zT_get hT zs39_1 (i := 1) (by omega) (by omega)
  refine pm_blk hK zmm96 [] 4 10 [(2, 1), (0, w)] [(0, μ 39 1)] μ [] rfl trivial ?_
  refine pm_if hK zmm96 .eq 12 22 rfl rfl (fun h0 => ?_) (fun h0 => ?_)
  · have h0 : μ 39 1 = (0 : Int) := h0
    refine pm_blk hK zmm96 [] 1 25 [(2, 1), (0, w)] [(0, (-10000))] μ [] rfl trivial ?_
    first
    | (have zo : zeZ (μ 39 1) (μ 40) w = -10000 := zeZ_o (by omega); exact pm_iret rfl rfl ⟨hT, by rw [zo]⟩)
    | (have w1 : w = 1 := (by omega); have z1 := zeZ_1 (n := μ 39 1) (f := μ 40) (by omega); exact pm_iret rfl rfl ⟨hT, by rw [w1, z1, if_pos rfl]⟩)
    | (have w0 : w = 0 := (by omega); have z0 := zeZ_0 (n := μ 39 1) (f := μ 40) (by omega); exact pm_iret rfl rfl ⟨hT, by rw [w0, z0, if_neg (by decide)]⟩)
  · have h0 : μ 39 1 ≠ (0 : Int) := h0
    refine pm_blk hK zmm96 [] 3 16 [(2, 1), (0, w)] [(0, 1), (0, 0), (0, w)] μ [] rfl trivial ?_
    refine pm_call hK zmm96 (94, 1, 16, 3) zM16 (0, 0) [(0, w), (0, 0), (0, 1)] [] rfl rfl rfl rfl ⟨by omega, by rw [zn16]; omega⟩ (zh_within hK ⟨Nat.le_refl _, Nat.le_refl _⟩) (fun st1 μc1 hp1 => ?_)
    obtain ⟨rfl, rfl⟩ := hp1
    refine pm_if hK zmm96 .ne 7 26 rfl rfl (fun h1 => ?_) (fun h1 => ?_)
    · have h1 : (if 0 ≤ w ∧ w ≤ 1 then 1 else 0 : Int) ≠ (0 : Int) := h1
      have h1 := zif1 h1
      refine pm_blk hK zmm96 [] 5 35 [(2, 1), (0, w)] [(0, 1), (0, w), (2, 39)] μ [] rfl trivial ?_
      refine pm_icmp hK zmm96 .ne 7 42 rfl rfl (fun h2 => ?_) (fun h2 => ?_)
      · have h2 : w ≠ (1 : Int) := h2
        refine pm_blk hK zmm96 [] 1 43 [(2, 1), (0, w)] [(0, 0), (2, 39)] μ [] rfl trivial ?_
        refine pm_call hK zmm96 (357, 1, 271, 2) zM271 (0, 0) [(2, 39), (0, 0)] [] rfl rfl rfl rfl ⟨by omega, by rw [zn271]; omega⟩ (zh_bestDays hK (w := 0) hT (by omega) ⟨by omega, by omega⟩ ⟨Nat.le_refl _, Nat.le_refl _⟩) (fun st2 μc2 hp2 => ?_)
        obtain ⟨rfl, rfl⟩ := hp2
        first
        | (have zo : zeZ (μ 39 1) (μ 40) w = -10000 := zeZ_o (by omega); exact pm_iret rfl rfl ⟨hT, by rw [zo]⟩)
        | (have w1 : w = 1 := (by omega); have z1 := zeZ_1 (n := μ 39 1) (f := μ 40) (by omega); exact pm_iret rfl rfl ⟨hT, by rw [w1, z1, if_pos rfl]⟩)
        | (have w0 : w = 0 := (by omega); have z0 := zeZ_0 (n := μ 39 1) (f := μ 40) (by omega); exact pm_iret rfl rfl ⟨hT, by rw [w0, z0, if_neg (by decide)]⟩)
      · have h2 : w = (1 : Int) := h2
        refine pm_blk hK zmm96 [] 2 43 [(2, 1), (0, w)] [(0, 1), (2, 39)] μ [] rfl trivial ?_
        refine pm_call hK zmm96 (357, 1, 271, 2) zM271 (0, 0) [(2, 39), (0, 1)] [] rfl rfl rfl rfl ⟨by omega, by rw [zn271]; omega⟩ (zh_bestDays hK (w := 1) hT (by omega) ⟨by omega, by omega⟩ ⟨Nat.le_refl _, Nat.le_refl _⟩) (fun st3 μc3 hp3 => ?_)
        obtain ⟨rfl, rfl⟩ := hp3
        first
        | (have zo : zeZ (μ 39 1) (μ 40) w = -10000 := zeZ_o (by omega); exact pm_iret rfl rfl ⟨hT, by rw [zo]⟩)
        | (have w1 : w = 1 := (by omega); have z1 := zeZ_1 (n := μ 39 1) (f := μ 40) (by omega); exact pm_iret rfl rfl ⟨hT, by rw [w1, z1, if_pos rfl]⟩)
        | (have w0 : w = 0 := (by omega); have z0 := zeZ_0 (n := μ 39 1) (f := μ 40) (by omega); exact pm_iret rfl rfl ⟨hT, by rw [w0, z0, if_neg (by decide)]⟩)
    · have h1 : (if 0 ≤ w ∧ w ≤ 1 then 1 else 0 : Int) = (0 : Int) := h1
      have h1 := zif0 h1
      refine pm_blk hK zmm96 [] 1 25 [(2, 1), (0, w)] [(0, (-10000))] μ [] rfl trivial ?_
      first
      | (have zo : zeZ (μ 39 1) (μ 40) w = -10000 := zeZ_o (by omega); exact pm_iret rfl rfl ⟨hT, by rw [zo]⟩)
      | (have w1 : w = 1 := (by omega); have z1 := zeZ_1 (n := μ 39 1) (f := μ 40) (by omega); exact pm_iret rfl rfl ⟨hT, by rw [w1, z1, if_pos rfl]⟩)
      | (have w0 : w = 0 := (by omega); have z0 := zeZ_0 (n := μ 39 1) (f := μ 40) (by omega); exact pm_iret rfl rfl ⟨hT, by rw [w0, z0, if_neg (by decide)]⟩)
set_option maxRecDepth 100000 in
theorem zl_ei (hK : zKK ST) {X : Nat → List pm_V → List pm_V → pm_Mem → Prop} {w a : Int} {T : Int × Int} (hT : zTJ φ μ) (ha : 0 ≤ a ∧ a ≤ 11) (K : ∀ (m x : Int), T = (m, x) → (0 ≤ x ∧ x ≤ 11) → (-100000000 ≤ m ∧ m ≤ 2000) → zW D Wm ST b0 l Sg zM189 bud X 93 [(2, 205), (0, w), (0, m), (0, x), (0, a), (9, 0), (9, 0)] [] μ) (hbd : 0 ≤ bud.1 ∧ 0 ≤ bud.2.1) : ∀ (n : Nat) {m x s b : Int}, (μ 205 59 - b).toNat = n → ∀ (hb : a ≤ b ∧ b ≤ μ 205 59) (hs : -99 * (b - a) ≤ s ∧ s ≤ 99 * (b - a)) (hx : 0 ≤ x ∧ x ≤ 11) (hm : -100000000 ≤ m ∧ m ≤ 2000) (hz : zeI (μ 239) a (μ 205 59 - b).toNat b s m x = T), zW D Wm ST b0 l Sg zM189 bud X 51 [(2, 205), (0, w), (0, m), (0, x), (0, a), (0, s), (0, b)] [] μ := by
  intro n
  induction n using Nat.strongRecOn with
  | ind n ih =>
    intro m x s b hn hb hs hx hm hz
    have f1 := zT_get hT zs205_59 (i := 59) (by omega) (by omega)
    refine pm_blk hK zmm189 [] 3 57 [(2, 205), (0, w), (0, m), (0, x), (0, a), (0, s), (0, b)] [(0, μ 205 59), (0, b)] μ [] rfl trivial ?_
    refine pm_icmp hK zmm189 .ge 36 93 rfl rfl (fun h0 => ?_) (fun h0 => ?_)
    · have h0 : μ 205 59 ≤ b := h0
      refine pm_hide [5, 6] ?_
      refine K _ _ ?_ hx hm
      rw [← hz]
      exact zeI_end (by omega)
    · have h0 : b < μ 205 59 := h0
      have f2 := zT_get hT zs239_0 (i := b) (by omega) (by omega)
      refine pm_blk hK zmm189 [] 9 75 [(2, 205), (0, w), (0, m), (0, x), (0, a), (0, s + (μ 239 b)), (0, b)] [(0, m), (0, s + (μ 239 b))] μ [0 ≤ b ∧ b < 12, pm_in (s + (μ 239 b))] rfl ⟨⟨by omega, by omega⟩, pm_in_mk (by omega) (by omega), trivial⟩ ?_
      refine pm_icmp hK zmm189 .gt 6 81 rfl rfl (fun h1 => ?_) (fun h1 => ?_)
      · have h1 : m < s + (μ 239 b) := h1
        refine pm_blk hK zmm189 [] 6 51 [(2, 205), (0, w), (0, s + (μ 239 b)), (0, a), (0, a), (0, s + (μ 239 b)), (0, b + 1)] [] μ [pm_in (b + 1)] rfl ⟨pm_in_mk (by omega) (by omega), trivial⟩ ?_
        first
        | (have e1 := zeI_y (by omega) (by omega) hz; exact ih _ (by omega) rfl ⟨by omega, by omega⟩ ⟨by omega, by omega⟩ ⟨by omega, by omega⟩ ⟨by omega, by omega⟩ e1)
        | (have e1 := zeI_n (by omega) (by omega) hz; exact ih _ (by omega) rfl ⟨by omega, by omega⟩ ⟨by omega, by omega⟩ hx hm e1)
      · have h1 : s + (μ 239 b) ≤ m := h1
        refine pm_blk hK zmm189 [] 3 51 [(2, 205), (0, w), (0, m), (0, x), (0, a), (0, s + (μ 239 b)), (0, b + 1)] [] μ [pm_in (b + 1)] rfl ⟨pm_in_mk (by omega) (by omega), trivial⟩ ?_
        first
        | (have e1 := zeI_y (by omega) (by omega) hz; exact ih _ (by omega) rfl ⟨by omega, by omega⟩ ⟨by omega, by omega⟩ ⟨by omega, by omega⟩ ⟨by omega, by omega⟩ e1)
        | (have e1 := zeI_n (by omega) (by omega) hz; exact ih _ (by omega) rfl ⟨by omega, by omega⟩ ⟨by omega, by omega⟩ hx hm e1)
set_option maxRecDepth 100000 in
theorem zl_eo (hK : zKK ST)  {w V : Int} {T : Int × Int} (hT : zTJ φ μ) (hw : 0 ≤ w ∧ w ≤ 1) (hV : (if w = 1 then T.2 else T.1) = V) (hbd : 0 ≤ bud.1 ∧ 0 ≤ bud.2.1) : ∀ (n : Nat) {m x a : Int}, (μ 205 59 - a).toNat = n → ∀ (ha : 0 ≤ a ∧ a ≤ μ 205 59) (hx : 0 ≤ x ∧ x ≤ 11) (hm : -100000000 ≤ m ∧ m ≤ 2000) (hz : zeO (μ 239) (μ 205 59) (μ 205 59 - a).toNat a m x = T), zW D Wm ST b0 l Sg zM189 bud (pm_X zM189 (fun st' μ' => zTJ φ μ' ∧ st' = [(0, V)])) 35 [(2, 205), (0, w), (0, m), (0, x), (0, a), (9, 0), (9, 0)] [] μ := by
  intro n
  induction n using Nat.strongRecOn with
  | ind n ih =>
    intro m x a hn ha hx hm hz
    have f1 := zT_get hT zs205_59 (i := 59) (by omega) (by omega)
    refine pm_blk hK zmm189 [] 3 41 [(2, 205), (0, w), (0, m), (0, x), (0, a), (9, 0), (9, 0)] [(0, μ 205 59), (0, a)] μ [] rfl trivial ?_
    refine pm_icmp hK zmm189 .ge 58 99 rfl rfl (fun h0 => ?_) (fun h0 => ?_)
    · have h0 : μ 205 59 ≤ a := h0
      refine pm_blk hK zmm189 [] 1 100 [(2, 205), (0, w), (0, m), (0, x), (0, a), (9, 0), (9, 0)] [(0, w)] μ [] rfl trivial ?_
      refine pm_if hK zmm189 .ne 7 107 rfl rfl (fun h1 => ?_) (fun h1 => ?_)
      · have h1 : w ≠ (0 : Int) := h1
        refine pm_blk hK zmm189 [] 1 108 [(2, 205), (0, w), (0, m), (0, x), (0, a), (9, 0), (9, 0)] [(0, x)] μ [] rfl trivial ?_
        have eT : T = (m, x) := by
          rw [← hz]
          exact zeO_end (by omega)
        first
        | (have hw1 : w = 0 := (by omega); exact pm_iret rfl rfl ⟨hT, by rw [← hV, eT, if_neg (by omega)]⟩)
        | (have hw1 : w = 1 := (by omega); exact pm_iret rfl rfl ⟨hT, by rw [← hV, eT, if_pos hw1]⟩)
      · have h1 : w = (0 : Int) := h1
        refine pm_blk hK zmm189 [] 2 108 [(2, 205), (0, w), (0, m), (0, x), (0, a), (9, 0), (9, 0)] [(0, m)] μ [] rfl trivial ?_
        have eT : T = (m, x) := by
          rw [← hz]
          exact zeO_end (by omega)
        first
        | (have hw1 : w = 0 := (by omega); exact pm_iret rfl rfl ⟨hT, by rw [← hV, eT, if_neg (by omega)]⟩)
        | (have hw1 : w = 1 := (by omega); exact pm_iret rfl rfl ⟨hT, by rw [← hV, eT, if_pos hw1]⟩)
    · have h0 : a < μ 205 59 := h0
      refine pm_blk hK zmm189 [] 4 51 [(2, 205), (0, w), (0, m), (0, x), (0, a), (0, 0), (0, a)] [] μ [] rfl trivial ?_
      refine zl_ei hK hT ⟨by omega, by omega⟩ (T := zeI (μ 239) a (μ 205 59 - a).toNat a 0 m x) (fun m2 x2 hT2 hx3 hm2 => ?_) hbd _ rfl ⟨Int.le_refl _, by omega⟩ ⟨by omega, by omega⟩ hx hm rfl
      refine pm_blk hK zmm189 [] 2 35 [(2, 205), (0, w), (0, m2), (0, x2), (0, a + 1), (9, 0), (9, 0)] [] μ [pm_in (a + 1)] rfl ⟨pm_in_mk (by omega) (by omega), trivial⟩ ?_
      exact ih _ (by omega) rfl ⟨by omega, by omega⟩ ⟨by omega, by omega⟩ hm2 (zeO_s (by omega) hz hT2)
set_option maxRecDepth 100000 in
theorem zh_earnedm (hK : zKK ST) {w : Int} (hT : zTJ φ μ) (hb205 : sx_bit Wm 205 = true) (hbd : 1 ≤ bud.1 ∧ 30 ≤ bud.2.1) : zC D Wm ST b0 l Sg zM189 bud [(2, 205), (0, w)] μ (fun st' μ' => zTJ φ μ' ∧ st' = [(0, zeZ (μ 205 59) (μ 239) w)]) := by
  have f0 := zT_get hT zs205_59 (i := 59) (by omega) (by omega)
  refine pm_blk hK zmm189 [] 3 5 [(2, 205), (0, w), (9, 0), (9, 0), (9, 0), (9, 0), (9, 0)] [] (pm_up μ 205 0 0) [sx_bit Wm 205 = true] rfl ⟨hb205, trivial⟩ ?_
  obtain ⟨μ1, eμ1⟩ : ∃ μ', μ' = pm_up μ 205 0 0 := ⟨_, rfl⟩
  rw [← eμ1]
  have hTμ1 : zTJ φ μ1 := by rw [eμ1]; exact zT_up hT zs205_0 rfl (i := 0) (by omega) (by omega) (by omega) (by omega)
  have b3 : μ1 205 59 = μ 205 59 := by rw [eμ1, pm_up_ne (by decide)]
  have b4 : μ1 239 = μ 239 := by rw [eμ1, pm_up_row (by decide)]
  refine pm_blk hK zmm189 [] 4 9 [(2, 205), (0, w), (9, 0), (9, 0), (9, 0), (9, 0), (9, 0)] [(0, 1), (0, 0), (0, w), (2, 205)] μ1 [] rfl trivial ?_
  refine pm_call hK zmm189 (158, 0, 129, 3) zM129 (0, 0) [(2, 205), (0, w), (0, 0), (0, 1)] [] rfl rfl rfl rfl ⟨by omega, by rw [zn129]; omega⟩ (zh_isIn hK ⟨by omega, by omega⟩) (fun st1 μc1 hp1 => ?_)
  obtain ⟨rfl, rfl⟩ := hp1
  refine pm_if hK zmm189 .eq 10 22 rfl rfl (fun h0 => ?_) (fun h0 => ?_)
  · have h0 : (if 0 ≤ w ∧ w ≤ 1 then 1 else 0 : Int) = (0 : Int) := h0
    have h0 := zif0 h0
    refine pm_blk hK zmm189 [] 1 25 [(2, 205), (0, w), (9, 0), (9, 0), (9, 0), (9, 0), (9, 0)] [(0, (-10000))] μ1 [] rfl trivial ?_
    have zo : zeZ (μ 205 59) (μ 239) w = -10000 := zeZ_o (by omega)
    exact pm_iret rfl rfl ⟨hTμ1, by rw [zo]⟩
  · have h0 : (if 0 ≤ w ∧ w ≤ 1 then 1 else 0 : Int) ≠ (0 : Int) := h0
    have h0 := zif1 h0
    have f1 := zT_get hTμ1 zs205_59 (i := 59) (by omega) (by omega)
    refine pm_blk hK zmm189 [] 2 19 [(2, 205), (0, w), (9, 0), (9, 0), (9, 0), (9, 0), (9, 0)] [(0, μ1 205 59)] μ1 [] rfl trivial ?_
    refine pm_if hK zmm189 .ne 7 26 rfl rfl (fun h1 => ?_) (fun h1 => ?_)
    · have h1 : μ1 205 59 ≠ (0 : Int) := h1
      refine pm_blk hK zmm189 [] 6 35 [(2, 205), (0, w), (0, (-100000000)), (0, 0), (0, 0), (9, 0), (9, 0)] [] μ1 [] rfl trivial ?_
      have hV : (if w = 1 then (zeA (μ 205 59) (μ 239)).2 else (zeA (μ 205 59) (μ 239)).1) = zeZ (μ 205 59) (μ 239) w := by
        unfold zeZ
        rw [if_neg (show ¬ (μ 205 59 = 0 ∨ w < 0 ∨ 1 < w) by omega)]
      exact zl_eo hK hTμ1 ⟨by omega, by omega⟩ hV ⟨by omega, by omega⟩ _ rfl ⟨Int.le_refl _, by omega⟩ ⟨by omega, by omega⟩ ⟨by omega, by omega⟩ (by rw [b3, b4, Int.sub_zero]; rfl)
    · have h1 : μ1 205 59 = (0 : Int) := h1
      refine pm_blk hK zmm189 [] 1 25 [(2, 205), (0, w), (9, 0), (9, 0), (9, 0), (9, 0), (9, 0)] [(0, (-10000))] μ1 [] rfl trivial ?_
      have zo : zeZ (μ 205 59) (μ 239) w = -10000 := zeZ_o (by omega)
      exact pm_iret rfl rfl ⟨hTμ1, by rw [zo]⟩
end ZHW
