/-! how far in couples: the reference; walks printed by program (wip/p30/pmgen.py) and filled by hand -/
section ZHW
variable {φ : Option pm_Mem}
variable {D : va_G} {Wm : Nat} {ST : List (String × String × String × Nat)} {b0 : sx_B} {l : Launch} {Sg : Nat → Option Nat} {bud : sx_Bu} {μ : pm_Mem} {B0 : Nat → Prop} {J : (Nat → Option Nat) → Heap → Prop}
set_option maxRecDepth 100000 in
theorem zk_less (hK : zKK ST) {a b : Int} (hbd : 0 ≤ bud.1 ∧ 0 ≤ bud.2.1) : zC D Wm ST b0 l Sg zM157 bud [(2, 205), (0, a), (0, b)] μ (fun st' μ' => μ = μ' ∧ st' = [(0, min a b)]) := by
  refine pm_blk hK zmm157 [] 2 2 [(2, 205), (0, a), (0, b)] [(0, b), (0, a)] μ [] rfl trivial ?_
  refine pm_icmp hK zmm157 .ge 7 9 rfl rfl (fun h0 => ?_) (fun h0 => ?_)
  · have h0 : b ≤ a := h0
    refine pm_blk hK zmm157 [] 1 10 [(2, 205), (0, a), (0, b)] [(0, b)] μ [] rfl trivial ?_
    exact pm_iret rfl rfl ⟨rfl, by first | rw [show min a b = a by omega] | rw [show min a b = b by omega]⟩
  · have h0 : a < b := h0
    refine pm_blk hK zmm157 [] 2 10 [(2, 205), (0, a), (0, b)] [(0, a)] μ [] rfl trivial ?_
    exact pm_iret rfl rfl ⟨rfl, by first | rw [show min a b = a by omega] | rw [show min a b = b by omega]⟩
set_option maxRecDepth 100000 in
theorem zk_grea (hK : zKK ST) {a b : Int} (hbd : 0 ≤ bud.1 ∧ 0 ≤ bud.2.1) : zC D Wm ST b0 l Sg zM176 bud [(2, 205), (0, a), (0, b)] μ (fun st' μ' => μ = μ' ∧ st' = [(0, max a b)]) := by
  refine pm_blk hK zmm176 [] 2 2 [(2, 205), (0, a), (0, b)] [(0, b), (0, a)] μ [] rfl trivial ?_
  refine pm_icmp hK zmm176 .le 7 9 rfl rfl (fun h0 => ?_) (fun h0 => ?_)
  · have h0 : a ≤ b := h0
    refine pm_blk hK zmm176 [] 1 10 [(2, 205), (0, a), (0, b)] [(0, b)] μ [] rfl trivial ?_
    exact pm_iret rfl rfl ⟨rfl, by first | rw [show max a b = a by omega] | rw [show max a b = b by omega]⟩
  · have h0 : b < a := h0
    refine pm_blk hK zmm176 [] 2 10 [(2, 205), (0, a), (0, b)] [(0, a)] μ [] rfl trivial ?_
    exact pm_iret rfl rfl ⟨rfl, by first | rw [show max a b = a by omega] | rw [show max a b = b by omega]⟩
set_option maxRecDepth 100000 in
theorem zk_c1 (hK : zKK ST) {X : Nat → List pm_V → List pm_V → pm_Mem → Prop} {μ0 : pm_Mem} {y a : Int} (hy : 0 ≤ y ∧ y ≤ 12) (hy0 : μ0 205 6 = y) (hb243 : sx_bit Wm 243 = true) (KK : ∀ (μ : pm_Mem), (∀ r, r ≠ 243 → μ r = μ0 r) → (∀ z : Int, (0 ≤ z ∧ z < y) → μ 243 z = if z = a then 0 else 100000000) → zTJ φ μ → zW D Wm ST b0 l Sg zM322 bud X 34 [(2, 205), (0, a), (9, 0), (9, 0), (9, 0)] [] μ) (hbd : 0 ≤ bud.1 ∧ 0 ≤ bud.2.1) : ∀ (n : Nat) {s : Int} {μ : pm_Mem}, (y - s).toNat = n → ∀ (hs0 : 0 ≤ s ∧ s ≤ y) (hs : ∀ r, r ≠ 243 → μ r = μ0 r) (hf : ∀ z : Int, (0 ≤ z ∧ z < s) → μ 243 z = if z = a then 0 else 100000000) (hT : zTJ φ μ), zW D Wm ST b0 l Sg zM322 bud X 2 [(2, 205), (0, a), (0, s), (9, 0), (9, 0)] [] μ := by
  intro n
  induction n using Nat.strongRecOn with
  | ind n ih =>
    intro s μ hn hs0 hs hf hT
    have hy6 : μ 205 6 = y := by rw [hs 205 (by decide)]; exact hy0
    have f1 := zT_get hT zs205_6 (i := 6) (by omega) (by omega)
    refine pm_blk hK zmm322 [] 3 7 [(2, 205), (0, a), (0, s), (9, 0), (9, 0)] [(0, μ 205 6), (0, s)] μ [] rfl trivial ?_
    refine pm_icmp hK zmm322 .ge 27 34 rfl rfl (fun h0 => ?_) (fun h0 => ?_)
    · have h0 : μ 205 6 ≤ s := h0
      refine pm_hide [2] ?_
      obtain rfl : s = y := by omega
      exact KK _ hs hf hT
    · have h0 : s < μ 205 6 := h0
      refine pm_blk hK zmm322 [] 5 17 [(2, 205), (0, a), (0, s), (9, 0), (9, 0)] [(0, a), (0, s), (0, s), (2, 243)] μ [] rfl trivial ?_
      refine pm_icmp hK zmm322 .ne 7 24 rfl rfl (fun h1 => ?_) (fun h1 => ?_)
      · have h1 : s ≠ a := h1
        refine pm_blk hK zmm322 [] 2 28 [(2, 205), (0, a), (0, s), (9, 0), (9, 0)] [] (pm_up μ 243 s 100000000) [sx_bit Wm 243 = true, 0 ≤ s ∧ s < 12] rfl ⟨hb243, ⟨by omega, by omega⟩, trivial⟩ ?_
        obtain ⟨μ1, eμ1⟩ : ∃ μ', μ' = pm_up μ 243 s 100000000 := ⟨_, rfl⟩
        rw [← eμ1]
        have hTμ1 : zTJ φ μ1 := by rw [eμ1]; exact zT_up hT zs243_0 rfl (i := s) (by omega) (by omega) (by omega) (by omega)
        refine pm_blk hK zmm322 [] 2 2 [(2, 205), (0, a), (0, s + 1), (9, 0), (9, 0)] [] μ1 [pm_in (s + 1)] rfl ⟨pm_in_mk (by omega) (by omega), trivial⟩ ?_
        refine ih _ (by omega) rfl ⟨by omega, by omega⟩ (fun r hr => by rw [eμ1, pm_up_row hr]; exact hs r hr) (fun z hz => ?_) hTμ1
        rw [eμ1, pm_up_at]
        by_cases hzs : z = s
        · rw [if_pos hzs]
          first | rw [if_pos (by omega)] | rw [if_neg (by omega)]
        · rw [if_neg hzs]
          exact hf z ⟨by omega, by omega⟩
      · have h1 : s = a := h1
        refine pm_blk hK zmm322 [] 3 28 [(2, 205), (0, a), (0, s), (9, 0), (9, 0)] [] (pm_up μ 243 s 0) [sx_bit Wm 243 = true, 0 ≤ s ∧ s < 12] rfl ⟨hb243, ⟨by omega, by omega⟩, trivial⟩ ?_
        obtain ⟨μ2, eμ2⟩ : ∃ μ', μ' = pm_up μ 243 s 0 := ⟨_, rfl⟩
        rw [← eμ2]
        have hTμ2 : zTJ φ μ2 := by rw [eμ2]; exact zT_up hT zs243_0 rfl (i := s) (by omega) (by omega) (by omega) (by omega)
        refine pm_blk hK zmm322 [] 2 2 [(2, 205), (0, a), (0, s + 1), (9, 0), (9, 0)] [] μ2 [pm_in (s + 1)] rfl ⟨pm_in_mk (by omega) (by omega), trivial⟩ ?_
        refine ih _ (by omega) rfl ⟨by omega, by omega⟩ (fun r hr => by rw [eμ2, pm_up_row hr]; exact hs r hr) (fun z hz => ?_) hTμ2
        rw [eμ2, pm_up_at]
        by_cases hzs : z = s
        · rw [if_pos hzs]
          first | rw [if_pos (by omega)] | rw [if_neg (by omega)]
        · rw [if_neg hzs]
          exact hf z ⟨by omega, by omega⟩
set_option maxRecDepth 100000 in
theorem zk_c2 (hK : zKK ST) {X : Nat → List pm_V → List pm_V → pm_Mem → Prop} {μ0 : pm_Mem} {y a : Int} {w : Int → Int → Int} (hy : 0 ≤ y ∧ y ≤ 12) (hy0 : μ0 205 6 = y) (hb243 : sx_bit Wm 243 = true) (hst : ∀ p q : Int, (0 ≤ p ∧ p < y) → (0 ≤ q ∧ q < y) → (w p q = 1 ∧ 0 < μ0 223 (12 * p + q)) ∨ (w p q = 0 ∧ ¬ 0 < μ0 223 (12 * p + q))) {r : Nat} {u p : Int} {o : Int → Int} (hp : 0 ≤ p ∧ p < y) (KK : ∀ (μ : pm_Mem), (∀ r, r ≠ 243 → μ r = μ0 r) → zBv w y a r o p y (μ 243) → zTJ φ μ → zW D Wm ST b0 l Sg zM322 bud X 113 [(2, 205), (0, a), (0, u), (0, p), (9, 0)] [] μ) (hbd : 1 ≤ bud.1 ∧ 22 ≤ bud.2.1) : ∀ (n : Nat) {q : Int} {μ : pm_Mem}, (y - q).toNat = n → ∀ (hq : 0 ≤ q ∧ q ≤ y) (hs : ∀ r, r ≠ 243 → μ r = μ0 r) (hf : zBv w y a r o p q (μ 243)) (hT : zTJ φ μ), zW D Wm ST b0 l Sg zM322 bud X 57 [(2, 205), (0, a), (0, u), (0, p), (0, q)] [] μ := by
  intro n
  induction n using Nat.strongRecOn with
  | ind n ih =>
    intro q μ hn hq hs hf hT
    have hy6 : μ 205 6 = y := by rw [hs 205 (by decide)]; exact hy0
    have e223 : μ 223 = μ0 223 := hs 223 (by decide)
    have f1 := zT_get hT zs205_6 (i := 6) (by omega) (by omega)
    refine pm_blk hK zmm322 [] 3 63 [(2, 205), (0, a), (0, u), (0, p), (0, q)] [(0, μ 205 6), (0, q)] μ [] rfl trivial ?_
    refine pm_icmp hK zmm322 .ge 50 113 rfl rfl (fun h0 => ?_) (fun h0 => ?_)
    · have h0 : μ 205 6 ≤ q := h0
      refine pm_hide [4] ?_
      obtain rfl : q = y := by omega
      exact KK _ hs hf hT
    · have h0 : q < μ 205 6 := h0
      have hpq := hst p q hp ⟨by omega, by omega⟩
      rw [← e223] at hpq
      have b1 := (hf.2 q ⟨by omega, by omega⟩).1
      have b2 := (hf.2 p hp).1
      have b3 := (hf.1 q ⟨by omega, by omega⟩).1
      have b4 := (hf.1 p hp).1
      have f2 := zT_get hT zs223_0 (i := (12 * p) + q) (by omega) (by omega)
      refine pm_blk hK zmm322 [] 8 78 [(2, 205), (0, a), (0, u), (0, p), (0, q)] [(0, μ 223 ((12 * p) + q))] μ [pm_in (12 * p), pm_in ((12 * p) + q), 0 ≤ (12 * p) + q ∧ (12 * p) + q < 288] rfl ⟨pm_in_mk (by omega) (by omega), pm_in_mk (by omega) (by omega), ⟨by omega, by omega⟩, trivial⟩ ?_
      refine pm_if hK zmm322 .le 29 107 rfl rfl (fun h1 => ?_) (fun h1 => ?_)
      · have h1 : μ 223 ((12 * p) + q) ≤ (0 : Int) := h1
        refine pm_blk hK zmm322 [] 2 57 [(2, 205), (0, a), (0, u), (0, p), (0, q + 1)] [] μ [pm_in (q + 1)] rfl ⟨pm_in_mk (by omega) (by omega), trivial⟩ ?_
        first
        | exact ih _ (by omega) rfl ⟨by omega, by omega⟩ hs (zBv_no (by omega) hf) hT
        | exact ih _ (by omega) rfl ⟨by omega, by omega⟩ (fun r hr => by rw [eμ, pm_up_row hr]; exact hs r hr) (zBv_step hp ⟨by omega, by omega⟩ (by omega) hf (by rw [show w p q = 1 by omega]) (fun z => by rw [eμ, pm_up_at])) hT
        | (exfalso; omega)
      · have h1 : (0 : Int) < μ 223 ((12 * p) + q) := h1
        have f3 := zT_get hT zs243_0 (i := q) (by omega) (by omega)
        have f4 := zT_get hT zs243_0 (i := p) (by omega) (by omega)
        refine pm_blk hK zmm322 [] 14 103 [(2, 205), (0, a), (0, u), (0, p), (0, q)] [(0, (μ 243 p) + 1), (0, μ 243 q), (2, 205), (0, q), (2, 243)] μ [0 ≤ q ∧ q < 12, 0 ≤ p ∧ p < 12, pm_in ((μ 243 p) + 1)] rfl ⟨⟨by omega, by omega⟩, ⟨by omega, by omega⟩, pm_in_mk (by omega) (by omega), trivial⟩ ?_
        refine pm_call hK zmm322 (377, 0, 157, 2) zM157 (0, 0) [(2, 205), (0, μ 243 q), (0, (μ 243 p) + 1)] [(0, q), (2, 243)] rfl rfl rfl rfl ⟨by omega, by rw [zn157]; omega⟩ (zk_less hK ⟨Nat.le_refl _, Nat.le_refl _⟩) (fun st1 μc1 hp1 => ?_)
        obtain ⟨rfl, rfl⟩ := hp1
        refine pm_blk hK zmm322 [] 1 107 [(2, 205), (0, a), (0, u), (0, p), (0, q)] [] (pm_up μ 243 q (min (μ 243 q) ((μ 243 p) + 1))) [sx_bit Wm 243 = true, 0 ≤ q ∧ q < 12] rfl ⟨hb243, ⟨by omega, by omega⟩, trivial⟩ ?_
        obtain ⟨μ1, eμ1⟩ : ∃ μ', μ' = pm_up μ 243 q (min (μ 243 q) ((μ 243 p) + 1)) := ⟨_, rfl⟩
        rw [← eμ1]
        have hTμ1 : zTJ φ μ1 := by rw [eμ1]; exact zT_up hT zs243_0 rfl (i := q) (by omega) (by omega) (by omega) (by omega)
        refine pm_blk hK zmm322 [] 2 57 [(2, 205), (0, a), (0, u), (0, p), (0, q + 1)] [] μ1 [pm_in (q + 1)] rfl ⟨pm_in_mk (by omega) (by omega), trivial⟩ ?_
        first
        | exact ih _ (by omega) rfl ⟨by omega, by omega⟩ hs (zBv_no (by omega) hf) hT
        | exact ih _ (by omega) rfl ⟨by omega, by omega⟩ (fun r hr => by rw [eμ1, pm_up_row hr]; exact hs r hr) (zBv_step hp ⟨by omega, by omega⟩ (by omega) hf (by rw [show w p q = 1 by omega]) (fun z => by rw [eμ1, pm_up_at])) hTμ1
        | (exfalso; omega)
set_option maxRecDepth 100000 in
theorem zk_c3 (hK : zKK ST) {X : Nat → List pm_V → List pm_V → pm_Mem → Prop} {μ0 : pm_Mem} {y a : Int} {w : Int → Int → Int} (hy : 0 ≤ y ∧ y ≤ 12) (hy0 : μ0 205 6 = y) (hb243 : sx_bit Wm 243 = true) (hst : ∀ p q : Int, (0 ≤ p ∧ p < y) → (0 ≤ q ∧ q < y) → (w p q = 1 ∧ 0 < μ0 223 (12 * p + q)) ∨ (w p q = 0 ∧ ¬ 0 < μ0 223 (12 * p + q))) {r : Nat} {u : Int} {o : Int → Int} (KK : ∀ (μ : pm_Mem), (∀ r, r ≠ 243 → μ r = μ0 r) → zBv w y a r o y 0 (μ 243) → zTJ φ μ → zW D Wm ST b0 l Sg zM322 bud X 119 [(2, 205), (0, a), (0, u), (9, 0), (9, 0)] [] μ) (hbd : 1 ≤ bud.1 ∧ 22 ≤ bud.2.1) : ∀ (n : Nat) {p : Int} {μ : pm_Mem}, (y - p).toNat = n → ∀ (hp : 0 ≤ p ∧ p ≤ y) (hs : ∀ r, r ≠ 243 → μ r = μ0 r) (hf : zBv w y a r o p 0 (μ 243)) (hT : zTJ φ μ), zW D Wm ST b0 l Sg zM322 bud X 46 [(2, 205), (0, a), (0, u), (0, p), (9, 0)] [] μ := by
  intro n
  induction n using Nat.strongRecOn with
  | ind n ih =>
    intro p μ hn hp hs hf hT
    have hy6 : μ 205 6 = y := by rw [hs 205 (by decide)]; exact hy0
    have f1 := zT_get hT zs205_6 (i := 6) (by omega) (by omega)
    refine pm_blk hK zmm322 [] 3 51 [(2, 205), (0, a), (0, u), (0, p), (9, 0)] [(0, μ 205 6), (0, p)] μ [] rfl trivial ?_
    refine pm_icmp hK zmm322 .ge 68 119 rfl rfl (fun h0 => ?_) (fun h0 => ?_)
    · have h0 : μ 205 6 ≤ p := h0
      refine pm_hide [3] ?_
      obtain rfl : p = y := by omega
      exact KK _ hs hf hT
    · have h0 : p < μ 205 6 := h0
      refine pm_blk hK zmm322 [] 2 57 [(2, 205), (0, a), (0, u), (0, p), (0, 0)] [] μ [] rfl trivial ?_
      refine zk_c2 hK (μ0 := μ0) hy hy0 hb243 hst (o := o) (p := p) (r := r) ⟨by omega, by omega⟩ (fun μ hs hf hT => ?_) hbd _ rfl ⟨by omega, by omega⟩ hs hf hT
      refine pm_blk hK zmm322 [] 2 46 [(2, 205), (0, a), (0, u), (0, p + 1), (9, 0)] [] μ [pm_in (p + 1)] rfl ⟨pm_in_mk (by omega) (by omega), trivial⟩ ?_
      exact ih _ (by omega) rfl ⟨by omega, by omega⟩ hs (zBv_row hf) hT
set_option maxRecDepth 100000 in
theorem zk_c4 (hK : zKK ST)  {μ0 : pm_Mem} {y a : Int} {w : Int → Int → Int} (hy : 0 ≤ y ∧ y ≤ 12) (hy0 : μ0 205 6 = y) (hb243 : sx_bit Wm 243 = true) (hst : ∀ p q : Int, (0 ≤ p ∧ p < y) → (0 ≤ q ∧ q < y) → (w p q = 1 ∧ 0 < μ0 223 (12 * p + q)) ∨ (w p q = 0 ∧ ¬ 0 < μ0 223 (12 * p + q)))  (hbd : 1 ≤ bud.1 ∧ 22 ≤ bud.2.1) : ∀ (n : Nat) {u : Int} {μ : pm_Mem}, (y - u).toNat = n → ∀ (hu : 0 ≤ u ∧ u ≤ y) (hs : ∀ r, r ≠ 243 → μ r = μ0 r) (hf : zBf w y a u.toNat (μ 243)) (hT : zTJ φ μ), zW D Wm ST b0 l Sg zM322 bud (pm_X zM322 (fun st' μ' => st' = [] ∧ zTJ φ μ' ∧ (∀ r, r ≠ 243 → μ' r = μ0 r) ∧ zBf w y a y.toNat (μ' 243))) 36 [(2, 205), (0, a), (0, u), (9, 0), (9, 0)] [] μ := by
  intro n
  induction n using Nat.strongRecOn with
  | ind n ih =>
    intro u μ hn hu hs hf hT
    have hy6 : μ 205 6 = y := by rw [hs 205 (by decide)]; exact hy0
    have f1 := zT_get hT zs205_6 (i := 6) (by omega) (by omega)
    refine pm_blk hK zmm322 [] 3 41 [(2, 205), (0, a), (0, u), (9, 0), (9, 0)] [(0, μ 205 6), (0, u)] μ [] rfl trivial ?_
    refine pm_icmp hK zmm322 .ge 84 125 rfl rfl (fun h0 => ?_) (fun h0 => ?_)
    · have h0 : μ 205 6 ≤ u := h0
      obtain rfl : u = y := by omega
      exact pm_vret rfl rfl ⟨rfl, hT, hs, hf⟩
    · have h0 : u < μ 205 6 := h0
      refine pm_blk hK zmm322 [] 2 46 [(2, 205), (0, a), (0, u), (0, 0), (9, 0)] [] μ [] rfl trivial ?_
      refine zk_c3 hK (μ0 := μ0) hy hy0 hb243 hst (o := μ 243) (r := u.toNat) (fun μ hs hf hT => ?_) hbd _ rfl ⟨by omega, by omega⟩ hs (zBv_0 hf) hT
      refine pm_blk hK zmm322 [] 2 36 [(2, 205), (0, a), (0, u + 1), (9, 0), (9, 0)] [] μ [pm_in (u + 1)] rfl ⟨pm_in_mk (by omega) (by omega), trivial⟩ ?_
      exact ih _ (by omega) rfl ⟨by omega, by omega⟩ hs (by rw [show (u + 1).toNat = u.toNat + 1 by omega]; exact zBv_end hf) hT
set_option maxRecDepth 100000 in
theorem zk_findsC (hK : zKK ST) {a : Int} {y : Int} {w : Int → Int → Int} (hT : zTJ φ μ) (hy : 0 ≤ y ∧ y ≤ 12) (hy0 : μ 205 6 = y) (hb243 : sx_bit Wm 243 = true) (hst : ∀ p q : Int, (0 ≤ p ∧ p < y) → (0 ≤ q ∧ q < y) → (w p q = 1 ∧ 0 < μ 223 (12 * p + q)) ∨ (w p q = 0 ∧ ¬ 0 < μ 223 (12 * p + q)))  (hbd : 1 ≤ bud.1 ∧ 22 ≤ bud.2.1) : zC D Wm ST b0 l Sg zM322 bud [(2, 205), (0, a)] μ (fun st' μ' => st' = [] ∧ zTJ φ μ' ∧ (∀ r, r ≠ 243 → μ' r = μ r) ∧ zBf w y a y.toNat (μ' 243)) := by
  refine pm_blk hK zmm322 [] 2 2 [(2, 205), (0, a), (0, 0), (9, 0), (9, 0)] [] μ [] rfl trivial ?_
  refine zk_c1 hK (μ0 := μ) hy hy0 hb243 (fun μ2 hs hf hT => ?_) ⟨by omega, by omega⟩ _ rfl ⟨by omega, by omega⟩ (fun _ _ => rfl) (fun z hz => absurd hz (by omega)) hT
  refine pm_blk hK zmm322 [] 2 36 [(2, 205), (0, a), (0, 0), (9, 0), (9, 0)] [] μ2 [] rfl trivial ?_
  exact zk_c4 hK (μ0 := μ) hy hy0 hb243 hst hbd _ rfl ⟨by omega, by omega⟩ hs (zBf_0 hf) hT
end ZHW
