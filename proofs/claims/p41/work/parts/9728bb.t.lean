/-! F: the reference: which line of THE LAW tells, what it tells; walks printed by program (wip/p30/pmgen.py) and filled by hand -/
section ZHW
variable {φ : Option pm_Mem}
variable {D : va_G} {Wm : Nat} {ST : List (String × String × String × Nat)} {b0 : sx_B} {l : Launch} {Sg : Nat → Option Nat} {bud : sx_Bu} {μ : pm_Mem} {B0 : Nat → Prop} {J : (Nat → Option Nat) → Heap → Prop}
set_option maxRecDepth 100000 in
theorem fr_lnl (hK : zKK ST)  {μ0 : pm_Mem} {w : Int} {ls : List (Int × List zIw × List zIw)} (hb225 : sx_bit Wm 225 = true) (hbd : 2 ≤ bud.1 ∧ 48 ≤ bud.2.1) : ∀ (n : Nat) {k : Int} {μ : pm_Mem}, (16 - k).toNat = n → ∀ (hk : 0 ≤ k) (hk2 : k ≤ 16) (hrest : fr_rest μ w k ls) (hf0 : ∀ r, r ≠ 225 → μ r = μ0 r) (hT : zTJ φ μ), zW D Wm ST b0 l Sg zM304 bud (pm_X zM304 (fun st' μ' => ∃ x, st' = [(0, x)] ∧ zTJ φ μ' ∧ (∀ r, r ≠ 225 → μ' r = μ0 r) ∧ ((x = -1 ∧ ∀ o : Int, fv_tell (μ' 224) w ls o = o) ∨ (0 ≤ x ∧ x < μ' 213 0 ∧ fr_hit μ' w x ls)))) 2 [(2, 205), (0, w), (0, k)] [] μ := by
  intro n
  induction n using Nat.strongRecOn with
  | ind n ih =>
    intro k μ hn hk hk2 hrest hf0 hT
    have f0 := zT_get hT zs213_0 (i := 0) (by omega) (by omega)
    have f1 := zT_get hT zs213_0 (i := 0) (by omega) (by omega)
    refine pm_blk hK zmm304 [] 5 9 [(2, 205), (0, w), (0, k)] [(0, μ 213 0), (0, k)] μ [0 ≤ 0 ∧ 0 < 2] rfl ⟨⟨by omega, by omega⟩, trivial⟩ ?_
    refine pm_icmp hK zmm304 .ge 56 65 rfl rfl (fun h0 => ?_) (fun h0 => ?_)
    · have h0 : μ 213 0 ≤ k := h0
      refine pm_blk hK zmm304 [] 1 66 [(2, 205), (0, w), (0, k)] [(0, (-1))] μ [] rfl trivial ?_
      exact pm_iret rfl rfl ⟨_, rfl, hT, hf0, Or.inl ⟨rfl, fr_rest_e hrest (by omega)⟩⟩
    · have h0 : k < μ 213 0 := h0
      have f2 := zT_get hT zs214_0 (i := k) (by omega) (by omega)
      refine pm_blk hK zmm304 [] 5 19 [(2, 205), (0, w), (0, k)] [(0, w), (0, μ 214 k)] μ [0 ≤ k ∧ k < 48] rfl ⟨⟨by omega, by omega⟩, trivial⟩ ?_
      refine pm_icmp hK zmm304 .ne 40 59 rfl rfl (fun h1 => ?_) (fun h1 => ?_)
      · have h1 : μ 214 k ≠ w := h1
        refine pm_blk hK zmm304 [] 2 2 [(2, 205), (0, w), (0, k + 1)] [] μ [pm_in (k + 1)] rfl ⟨pm_in_mk (by omega) (by omega), trivial⟩ ?_
        first
        | exact ih _ (by omega) rfl (by omega) (by omega) (fr_rest_fr (hq2 (by omega)) hff) (fun r a => (hff r a).trans (hf0 r a)) hT
        | exact ih _ (by omega) rfl (by omega) (by omega) (fr_rest_w hrest (by omega) (by omega)) hf0 hT
        | (exfalso; omega)
      · have h1 : μ 214 k = w := h1
        have f3 := zT_get hT zs216_0 (i := k) (by omega) (by omega)
        have f4 := zT_get hT zs217_0 (i := k) (by omega) (by omega)
        refine pm_blk hK zmm304 [] 8 34 [(2, 205), (0, w), (0, k)] [(0, μ 217 k), (0, μ 216 k)] μ [0 ≤ k ∧ k < 48, 0 ≤ k ∧ k < 48] rfl ⟨⟨by omega, by omega⟩, ⟨by omega, by omega⟩, trivial⟩ ?_
        refine pm_icmp hK zmm304 .eq 23 57 rfl rfl (fun h2 => ?_) (fun h2 => ?_)
        · have h2 : μ 216 k = μ 217 k := h2
          refine pm_blk hK zmm304 [] 1 58 [(2, 205), (0, w), (0, k)] [(0, k)] μ [] rfl trivial ?_
          first
          | exact pm_iret rfl rfl ⟨_, rfl, hT, fun r a => (hff r a).trans (hf0 r a), Or.inr ⟨by omega, by omega, fr_hit_fr (hq3 (by omega)) hff⟩⟩
          | exact pm_iret rfl rfl ⟨_, rfl, hT, hf0, Or.inr ⟨by omega, by omega, fr_rest_f hrest (by omega) (by omega) (by omega)⟩⟩
          | (exfalso; omega)
        · have h2 : μ 216 k ≠ μ 217 k := h2
          obtain ⟨q1, q2, q3, q4, q5, q6⟩ := hT.2.1.2.2 k (by omega) (by omega)
          have hseg := q6
          obtain ⟨vq, hq1, hq2, hq3⟩ := fr_rest_q hrest (by omega) (by omega) (by omega)
          refine pm_blk hK zmm304 [] 10 51 [(2, 205), (0, w), (0, k)] [(0, μ 217 k), (0, μ 216 k), (0, 0), (2, 205)] μ [0 ≤ k ∧ k < 48, 0 ≤ k ∧ k < 48] rfl ⟨⟨by omega, by omega⟩, ⟨by omega, by omega⟩, trivial⟩ ?_
          refine pm_call hK zmm304 (328, 0, 305, 3) zM305 (1, 23) [(2, 205), (0, 0), (0, μ 216 k), (0, μ 217 k)] [] rfl rfl rfl rfl ⟨by omega, by rw [zn305]; omega⟩ (fr_rung hK (a := (μ 216 k)) (b := (μ 217 k)) (v := vq) (by omega) (by omega) (by omega) hseg hq1 hT hb225 ⟨Nat.le_refl _, Nat.le_refl _⟩) (fun st1 μc1 hp1 => ?_)
          obtain ⟨rfl, hTc1, hfr1⟩ := hp1
          have hff := hfr1
          have hm1 : μc1 213 0 = μ 213 0 := by rw [hfr1 213 (by decide)]
          refine pm_if hK zmm304 .eq 5 59 rfl rfl (fun h3 => ?_) (fun h3 => ?_)
          · have h3 : vq = (0 : Int) := h3
            refine pm_blk hK zmm304 [] 2 2 [(2, 205), (0, w), (0, k + 1)] [] μc1 [pm_in (k + 1)] rfl ⟨pm_in_mk (by omega) (by omega), trivial⟩ ?_
            first
            | exact ih _ (by omega) rfl (by omega) (by omega) (fr_rest_fr (hq2 (by omega)) hff) (fun r a => (hff r a).trans (hf0 r a)) hTc1
            | exact ih _ (by omega) rfl (by omega) (by omega) (fr_rest_w hrest (by omega) (by omega)) hf0 hTc1
            | (exfalso; omega)
          · have h3 : vq ≠ (0 : Int) := h3
            refine pm_blk hK zmm304 [] 1 58 [(2, 205), (0, w), (0, k)] [(0, k)] μc1 [] rfl trivial ?_
            first
            | exact pm_iret rfl rfl ⟨_, rfl, hTc1, fun r a => (hff r a).trans (hf0 r a), Or.inr ⟨by omega, by omega, fr_hit_fr (hq3 (by omega)) hff⟩⟩
            | exact pm_iret rfl rfl ⟨_, rfl, hTc1, hf0, Or.inr ⟨by omega, by omega, fr_rest_f hrest (by omega) (by omega) (by omega)⟩⟩
            | (exfalso; omega)
set_option maxRecDepth 100000 in
theorem fr_lineOf (hK : zKK ST) {w : Int} {ls : List (Int × List zIw × List zIw)} (hL : fr_L μ 0 ls) (hT : zTJ φ μ) (hb225 : sx_bit Wm 225 = true) (hbd : 2 ≤ bud.1 ∧ 48 ≤ bud.2.1) : zC D Wm ST b0 l Sg zM304 bud [(2, 205), (0, w)] μ (fun st' μ' => ∃ x, st' = [(0, x)] ∧ zTJ φ μ' ∧ (∀ r, r ≠ 225 → μ' r = μ r) ∧ ((x = -1 ∧ ∀ o : Int, fv_tell (μ' 224) w ls o = o) ∨ (0 ≤ x ∧ x < μ' 213 0 ∧ fr_hit μ' w x ls))) := by
  refine pm_blk hK zmm304 [] 2 2 [(2, 205), (0, w), (0, 0)] [] μ [] rfl trivial ?_
  exact fr_lnl hK (μ0 := μ) hb225 hbd _ (k := 0) rfl (by omega) (by omega) (fr_rest_0 hL) (fun _ _ => rfl) hT
set_option maxRecDepth 100000 in
theorem fr_lawTells (hK : zKK ST) {w o t : Int} {ls : List (Int × List zIw × List zIw)} (hL : fr_L μ 0 ls) (hT : zTJ φ μ) (hb225 : sx_bit Wm 225 = true) (hbd : 3 ≤ bud.1 ∧ 70 ≤ bud.2.1) : zC D Wm ST b0 l Sg zM303 bud [(2, 205), (0, w), (0, o), (0, t)] μ (fun st' μ' => st' = [(0, fa_held (fv_tell (μ 224) w ls o) 0 t)] ∧ zTJ φ μ' ∧ (∀ r, r ≠ 225 → μ' r = μ r)) := by
  refine pm_blk hK zmm303 [] 2 2 [(2, 205), (0, w), (0, o), (0, t), (9, 0)] [(0, w), (2, 205)] μ [] rfl trivial ?_
  refine pm_call hK zmm303 (337, 0, 304, 1) zM304 (2, 48) [(2, 205), (0, w)] [] rfl rfl rfl rfl ⟨by omega, by rw [zn304]; omega⟩ (fr_lineOf hK (w := w) hL hT hb225 ⟨Nat.le_refl _, Nat.le_refl _⟩) (fun st1 μc1 hp1 => ?_)
  obtain ⟨x1, rfl, hTc1, hf1, hx1⟩ := hp1
  have f0 := zT_get hTc1 zs213_0 (i := 0) (by omega) (by omega)
  have hfl := hf1
  have hxx := hx1
  have h224 := hf1 224 (by decide)
  refine pm_blk hK zmm303 [] 4 11 [(2, 205), (0, w), (0, o), (0, t), (0, x1)] [(0, (-1)), (0, x1), (2, 205)] μc1 [] rfl trivial ?_
  refine pm_icmp hK zmm303 .ne 7 18 rfl rfl (fun h0 => ?_) (fun h0 => ?_)
  · have h0 : x1 ≠ ((-1) : Int) := h0
    obtain ⟨y0, y1, vq, hv1, hq1⟩ := hxx.resolve_left (fun c => absurd c.1 (by omega))
    rw [h224] at hv1
    obtain ⟨q1, q2, q3, q4, q5, q6⟩ := hTc1.2.1.2.2 x1 (by omega) (by omega)
    have hseg := q5
    have f1 := zT_get hTc1 zs215_0 (i := x1) (by omega) (by omega)
    have f2 := zT_get hTc1 zs216_0 (i := x1) (by omega) (by omega)
    refine pm_blk hK zmm303 [] 10 34 [(2, 205), (0, w), (0, o), (0, t), (0, x1)] [(0, μc1 216 x1), (0, μc1 215 x1), (0, 0), (2, 205), (2, 205)] μc1 [0 ≤ x1 ∧ x1 < 48, 0 ≤ x1 ∧ x1 < 48] rfl ⟨⟨by omega, by omega⟩, ⟨by omega, by omega⟩, trivial⟩ ?_
    refine pm_call hK zmm303 (328, 0, 305, 3) zM305 (1, 23) [(2, 205), (0, 0), (0, μc1 215 x1), (0, μc1 216 x1)] [(2, 205)] rfl rfl rfl rfl ⟨by omega, by rw [zn305]; omega⟩ (fr_rung hK (a := (μc1 215 x1)) (b := (μc1 216 x1)) (v := vq) (by omega) (by omega) (by omega) hseg hq1 hTc1 hb225 ⟨Nat.le_refl _, Nat.le_refl _⟩) (fun st2 μc2 hp2 => ?_)
    obtain ⟨rfl, hTc2, hfr2⟩ := hp2
    have hff := hfr2
    refine pm_blk hK zmm303 [] 2 39 [(2, 205), (0, w), (0, o), (0, t), (0, x1)] [(0, t), (0, 0), (0, vq), (2, 205)] μc2 [] rfl trivial ?_
    refine pm_call hK zmm303 (340, 0, 307, 3) zM307 (0, 0) [(2, 205), (0, vq), (0, 0), (0, t)] [] rfl rfl rfl rfl ⟨by omega, by rw [zn307]; omega⟩ (zh_held hK ⟨Nat.le_refl _, Nat.le_refl _⟩) (fun st3 μc3 hp3 => ?_)
    obtain ⟨rfl, rfl⟩ := hp3
    first
    | exact pm_iret rfl rfl ⟨by rw [hv1 o]; rfl, hTc2, fun r a => (hff r a).trans (hfl r a)⟩
    | exact pm_iret rfl rfl ⟨by rw [hA]; rfl, hTc2, hfl⟩
    | (exfalso; omega)
  · have h0 : x1 = ((-1) : Int) := h0
    have hA := (hxx.resolve_right (fun c => absurd c.1 (by omega))).2 o
    rw [h224] at hA
    refine pm_blk hK zmm303 [] 4 39 [(2, 205), (0, w), (0, o), (0, t), (0, x1)] [(0, t), (0, 0), (0, o), (2, 205)] μc1 [] rfl trivial ?_
    refine pm_call hK zmm303 (340, 0, 307, 3) zM307 (0, 0) [(2, 205), (0, o), (0, 0), (0, t)] [] rfl rfl rfl rfl ⟨by omega, by rw [zn307]; omega⟩ (zh_held hK ⟨Nat.le_refl _, Nat.le_refl _⟩) (fun st4 μc4 hp4 => ?_)
    obtain ⟨rfl, rfl⟩ := hp4
    first
    | exact pm_iret rfl rfl ⟨by rw [hv1 o]; rfl, hTc1, fun r a => (hff r a).trans (hfl r a)⟩
    | exact pm_iret rfl rfl ⟨by rw [hA]; rfl, hTc1, hfl⟩
    | (exfalso; omega)
set_option maxRecDepth 100000 in
theorem fr_buysOf (hK : zKK ST) {c s : Int} {ls : List (Int × List zIw × List zIw)} {N pol : Int → Int} {mm : Int} (hN : μ 206 = N) (hpol : μ 209 = pol) (hmm : μ 205 7 = mm) (hL : fr_L μ 0 ls) (hT : zTJ φ μ) (hc : 0 ≤ c ∧ c ≤ 17) (hs : 0 ≤ s ∧ s ≤ 11) (hb224 : sx_bit Wm 224 = true) (hb225 : sx_bit Wm 225 = true) (hbd : 4 ≤ bud.1 ∧ 94 ≤ bud.2.1) : zC D Wm ST b0 l Sg zM312 bud [(2, 205), (0, c), (0, s)] μ (fun st' μ' => st' = [(0, fa_buys (fr_law ls) N pol mm c s)] ∧ zTJ φ μ' ∧ (∀ r, r ≠ 224 → r ≠ 225 → μ' r = μ r)) := by
  subst hN
  subst hpol
  subst hmm
  refine pm_blk hK zmm312 [] 3 3 [(2, 205), (0, c), (0, s)] [(0, s), (0, c), (2, 205)] μ [] rfl trivial ?_
  refine pm_call hK zmm312 (343, 0, 301, 2) zM301 (2, 46) [(2, 205), (0, c), (0, s)] [] rfl rfl rfl rfl ⟨by omega, by rw [zn301]; omega⟩ (fr_asks hK (c := c) (s := s) hT ⟨by omega, by omega⟩ ⟨by omega, by omega⟩ hb224 ⟨Nat.le_refl _, Nat.le_refl _⟩) (fun st1 μc1 hp1 => ?_)
  obtain ⟨rfl, hTc1, hw1, hf1⟩ := hp1
  have hww := hw1
  have hfa := hf1
  have hL2 := fr_L_fr (fun r a b => hf1 r (by omega)) hL
  have w8 : μc1 224 8 = μ 206 1 := (hw1 8 (by omega) (by omega)).trans rfl
  have w3 : μc1 224 3 = μ 206 (16 + s) := (hw1 3 (by omega) (by omega)).trans rfl
  have w1 : μc1 224 1 = μ 209 c := (hw1 1 (by omega) (by omega)).trans rfl
  have fh := zT_get hT zs206_1 (i := 1) (by omega) (by omega)
  have f1 := zT_get hTc1 zs224_8 (i := 8) (by omega) (by omega)
  refine pm_blk hK zmm312 [] 11 25 [(2, 205), (0, c), (0, s)] [(0, 1000), (0, 600 - (40 * (μc1 224 8))), (0, 0), (2, 205)] μc1 [0 ≤ 8 ∧ 8 < 11, pm_in (40 * (μc1 224 8)), pm_in (600 - (40 * (μc1 224 8)))] rfl ⟨⟨by omega, by omega⟩, pm_in_mk (by omega) (by omega), pm_in_mk (by omega) (by omega), trivial⟩ ?_
  refine pm_call hK zmm312 (346, 0, 303, 3) zM303 (3, 70) [(2, 205), (0, 0), (0, 600 - (40 * (μc1 224 8))), (0, 1000)] [] rfl rfl rfl rfl ⟨by omega, by rw [zn303]; omega⟩ (fr_lawTells hK (ls := ls) (w := 0) (o := (600 - (40 * (μc1 224 8)))) (t := 1000) hL2 hTc1 hb225 ⟨Nat.le_refl _, Nat.le_refl _⟩) (fun st2 μc2 hp2 => ?_)
  obtain ⟨rfl, hTc2, hg2⟩ := hp2
  have hgg := hg2
  have hq := fr_law_cg (w := 0) (o := 600 - 40 * μ 206 1) hL2 hww
  exact pm_iret rfl rfl ⟨by rw [w8, hq]; rfl, hTc2, fun r a b => (hgg r b).trans (hfa r a)⟩
set_option maxRecDepth 100000 in
theorem fr_yieldsOf (hK : zKK ST) {c s : Int} {ls : List (Int × List zIw × List zIw)} {N pol : Int → Int} {mm : Int} (hN : μ 206 = N) (hpol : μ 209 = pol) (hmm : μ 205 7 = mm) (hL : fr_L μ 0 ls) (hT : zTJ φ μ) (hc : 0 ≤ c ∧ c ≤ 17) (hs : 0 ≤ s ∧ s ≤ 11) (hb224 : sx_bit Wm 224 = true) (hb225 : sx_bit Wm 225 = true) (hbd : 4 ≤ bud.1 ∧ 94 ≤ bud.2.1) : zC D Wm ST b0 l Sg zM316 bud [(2, 205), (0, c), (0, s)] μ (fun st' μ' => st' = [(0, fa_yields (fr_law ls) N pol mm c s)] ∧ zTJ φ μ' ∧ (∀ r, r ≠ 224 → r ≠ 225 → μ' r = μ r)) := by
  subst hN
  subst hpol
  subst hmm
  refine pm_blk hK zmm316 [] 3 3 [(2, 205), (0, c), (0, s)] [(0, s), (0, c), (2, 205)] μ [] rfl trivial ?_
  refine pm_call hK zmm316 (343, 0, 301, 2) zM301 (2, 46) [(2, 205), (0, c), (0, s)] [] rfl rfl rfl rfl ⟨by omega, by rw [zn301]; omega⟩ (fr_asks hK (c := c) (s := s) hT ⟨by omega, by omega⟩ ⟨by omega, by omega⟩ hb224 ⟨Nat.le_refl _, Nat.le_refl _⟩) (fun st1 μc1 hp1 => ?_)
  obtain ⟨rfl, hTc1, hw1, hf1⟩ := hp1
  have hww := hw1
  have hfa := hf1
  have hL2 := fr_L_fr (fun r a b => hf1 r (by omega)) hL
  have w8 : μc1 224 8 = μ 206 1 := (hw1 8 (by omega) (by omega)).trans rfl
  have w3 : μc1 224 3 = μ 206 (16 + s) := (hw1 3 (by omega) (by omega)).trans rfl
  have w1 : μc1 224 1 = μ 209 c := (hw1 1 (by omega) (by omega)).trans rfl
  have fh := zT_get hT zs206_1 (i := 1) (by omega) (by omega)
  have f1 := zT_get hTc1 zs224_1 (i := 1) (by omega) (by omega)
  refine pm_blk hK zmm316 [] 9 20 [(2, 205), (0, c), (0, s)] [(0, 1000), (0, 100 * (μc1 224 1)), (0, 1), (2, 205)] μc1 [0 ≤ 1 ∧ 1 < 11, pm_in (100 * (μc1 224 1))] rfl ⟨⟨by omega, by omega⟩, pm_in_mk (by omega) (by omega), trivial⟩ ?_
  refine pm_call hK zmm316 (346, 0, 303, 3) zM303 (3, 70) [(2, 205), (0, 1), (0, 100 * (μc1 224 1)), (0, 1000)] [] rfl rfl rfl rfl ⟨by omega, by rw [zn303]; omega⟩ (fr_lawTells hK (ls := ls) (w := 1) (o := (100 * (μc1 224 1))) (t := 1000) hL2 hTc1 hb225 ⟨Nat.le_refl _, Nat.le_refl _⟩) (fun st2 μc2 hp2 => ?_)
  obtain ⟨rfl, hTc2, hg2⟩ := hp2
  have hgg := hg2
  have hq := fr_law_cg (w := 1) (o := 100 * μ 209 c) hL2 hww
  exact pm_iret rfl rfl ⟨by rw [w1, hq]; rfl, hTc2, fun r a b => (hgg r b).trans (hfa r a)⟩
set_option maxRecDepth 100000 in
theorem fr_costsOf (hK : zKK ST) {c s : Int} {ls : List (Int × List zIw × List zIw)} {N pol : Int → Int} {mm : Int} (hN : μ 206 = N) (hpol : μ 209 = pol) (hmm : μ 205 7 = mm) (hL : fr_L μ 0 ls) (hT : zTJ φ μ) (hc : 0 ≤ c ∧ c ≤ 17) (hs : 0 ≤ s ∧ s ≤ 11) (hb224 : sx_bit Wm 224 = true) (hb225 : sx_bit Wm 225 = true) (hbd : 4 ≤ bud.1 ∧ 94 ≤ bud.2.1) : zC D Wm ST b0 l Sg zM300 bud [(2, 205), (0, c), (0, s)] μ (fun st' μ' => st' = [(0, fa_costs (fr_law ls) N pol mm c s)] ∧ zTJ φ μ' ∧ (∀ r, r ≠ 224 → r ≠ 225 → μ' r = μ r)) := by
  subst hN
  subst hpol
  subst hmm
  refine pm_blk hK zmm300 [] 3 3 [(2, 205), (0, c), (0, s)] [(0, s), (0, c), (2, 205)] μ [] rfl trivial ?_
  refine pm_call hK zmm300 (343, 0, 301, 2) zM301 (2, 46) [(2, 205), (0, c), (0, s)] [] rfl rfl rfl rfl ⟨by omega, by rw [zn301]; omega⟩ (fr_asks hK (c := c) (s := s) hT ⟨by omega, by omega⟩ ⟨by omega, by omega⟩ hb224 ⟨Nat.le_refl _, Nat.le_refl _⟩) (fun st1 μc1 hp1 => ?_)
  obtain ⟨rfl, hTc1, hw1, hf1⟩ := hp1
  have hww := hw1
  have hfa := hf1
  have hL2 := fr_L_fr (fun r a b => hf1 r (by omega)) hL
  have w8 : μc1 224 8 = μ 206 1 := (hw1 8 (by omega) (by omega)).trans rfl
  have w3 : μc1 224 3 = μ 206 (16 + s) := (hw1 3 (by omega) (by omega)).trans rfl
  have w1 : μc1 224 1 = μ 209 c := (hw1 1 (by omega) (by omega)).trans rfl
  have fh := zT_get hT zs206_1 (i := 1) (by omega) (by omega)
  have f1 := zT_get hTc1 zs224_2 (i := 3) (by omega) (by omega)
  refine pm_blk hK zmm300 [] 7 17 [(2, 205), (0, c), (0, s)] [(0, 999), (0, μc1 224 3), (0, 2), (2, 205)] μc1 [0 ≤ 3 ∧ 3 < 11] rfl ⟨⟨by omega, by omega⟩, trivial⟩ ?_
  refine pm_call hK zmm300 (346, 0, 303, 3) zM303 (3, 70) [(2, 205), (0, 2), (0, μc1 224 3), (0, 999)] [] rfl rfl rfl rfl ⟨by omega, by rw [zn303]; omega⟩ (fr_lawTells hK (ls := ls) (w := 2) (o := (μc1 224 3)) (t := 999) hL2 hTc1 hb225 ⟨Nat.le_refl _, Nat.le_refl _⟩) (fun st2 μc2 hp2 => ?_)
  obtain ⟨rfl, hTc2, hg2⟩ := hp2
  have hgg := hg2
  have hq := fr_law_cg (w := 2) (o := μ 206 (16 + s)) hL2 hww
  exact pm_iret rfl rfl ⟨by rw [w3, hq]; rfl, hTc2, fun r a b => (hgg r b).trans (hfa r a)⟩
end ZHW
