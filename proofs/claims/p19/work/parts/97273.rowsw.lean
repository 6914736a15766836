/-! both sides' rows are alike wholly: what holds between the law's calls -/
def zVr : List (Nat × Nat × Nat × Nat × Nat × Nat) := [(32, 75, 232, 451, 1, 4), (38, 81, 237, 485, 2, 8), (40, 83, 239, 501, 1, 12), (30, 73, 230, 445, 1, 6), (44, 87, 244, 486, 2, 8)]
def zV (μ : pm_Mem) : Prop := (∀ q ∈ zVr, ∀ i : Int, 0 ≤ i → i < q.2.2.2.2.2 → μ q.1 i = μ q.2.2.1 i) ∧ (μ 1 2 ≠ 0 → ∀ q ∈ zVr, ∀ i : Int, 0 ≤ i → i < q.2.2.2.2.2 → μ q.2.1 i = μ 245 (q.2.2.2.1 + q.2.2.2.2.1 * i))
/-- what coins were told is at least 1 -/
def zPs (c : Int) (f : Int → Int) : Prop := ∀ i : Int, 0 ≤ i → i < 6 → i < c → 1 ≤ f i
def zPos (μ : pm_Mem) : Prop := zPs (μ 29 1) (μ 30) ∧ (μ 1 2 ≠ 0 → zPs (μ 72 1) (μ 73))
theorem zPs_of {c c' : Int} {f f' : Int → Int} (h : zPs c f) (e : c' = c) (g : ∀ i : Int, 0 ≤ i → i < (6 : Nat) → f' i = f i) : zPs c' f' := fun i i0 i1 i2 => by
  rw [g i i0 (by omega)]
  exact h i i0 i1 (by omega)
theorem zPs_t {v c : Int} {f : Int → Int} (h : zPs c f) : zPs (zTc (-1) 1 50 6 v c) (fun i => zTv (-1) 1 50 6 v c f i) := fun i i0 i1 i2 => by
  show 1 ≤ zTv (-1) 1 50 6 v c f i
  by_cases hv : v = -1
  · obtain ⟨-, e2, -⟩ := zTl_e (emp := -1) (lo := 1) (hi := 50) (room := 6) (v := v) (c := c) hv
    omega
  · by_cases hl : (1 ≤ v ∧ v ≤ 50) ∧ c < 6
    · obtain ⟨-, e2, e3⟩ := zTl_a (emp := -1) (lo := 1) (hi := 50) (room := 6) (v := v) (c := c) hv hl.1 hl.2
      rw [e3]
      split
      · exact hl.1.1
      · exact h i i0 i1 (by omega)
    · obtain ⟨-, e2, e3⟩ := zTl_n (emp := -1) (lo := 1) (hi := 50) (room := 6) (v := v) (c := c) hv (fun q => hl ⟨⟨q.1, q.2.1⟩, q.2.2⟩)
      rw [e3]
      exact h i i0 i1 (by omega)
theorem zPos_eq {μ μ' : pm_Mem} (h : zPos μ) (a : μ' 29 = μ 29) (b : μ' 30 = μ 30) (c : μ' 72 = μ 72) (d : μ' 73 = μ 73) (e : μ' 1 = μ 1) : zPos μ' := by
  unfold zPos
  rw [a, b, c, d, e]
  exact h
def zRV (μ : pm_Mem) : Prop := zR μ ∧ zV μ ∧ zPos μ
theorem zVr_in : ∀ q ∈ zVr, (q.1, q.2.2.2.2.2) ∈ zRa ∧ (q.2.1, q.2.2.2.2.2) ∈ zRa ∧ (q.2.2.1, q.2.2.2.2.2) ∈ zRb ∧ q.2.2.2.1 + q.2.2.2.2.1 * (q.2.2.2.2.2 - 1) < 2600 ∧ q.2.2.2.2.1 * (q.2.2.2.2.2 - 1) ≤ 600 ∧ q.2.2.2.2.1 ≤ 3 := by decide
theorem zVr_ix {q : Nat × Nat × Nat × Nat × Nat × Nat} (hq : q ∈ zVr) {i : Int} (i0 : 0 ≤ i) (i1 : i < q.2.2.2.2.2) : 0 ≤ (q.2.2.2.1 : Int) + q.2.2.2.2.1 * i ∧ (q.2.2.2.1 : Int) + q.2.2.2.2.1 * i < 2600 := by
  have h := (show ∀ q ∈ zVr, q.2.2.2.1 ≤ 501 ∧ q.2.2.2.2.1 ≤ 3 ∧ q.2.2.2.2.2 ≤ 12 by decide) q hq
  have e1 : (q.2.2.2.2.1 : Int) * i ≤ 3 * i := Int.mul_le_mul_of_nonneg_right (by omega) i0
  have e2 : 0 ≤ (q.2.2.2.2.1 : Int) * i := Int.mul_nonneg (by omega) i0
  omega
theorem zV_of {μ μ' : pm_Mem} (a1 : μ' 1 2 = μ 1 2) (ha : ∀ q ∈ zRa, ∀ i : Int, 0 ≤ i → i < q.2 → μ' q.1 i = μ q.1 i) (hb : ∀ q ∈ zRb, ∀ i : Int, 0 ≤ i → i < q.2 → μ' q.1 i = μ q.1 i) (hc : ∀ i : Int, 0 ≤ i → i < (2600 : Nat) → μ' 245 i = μ 245 i) (h : zV μ) : zV μ' := by
  refine ⟨fun q hq i i0 i1 => ?_, fun h1 q hq i i0 i1 => ?_⟩
  · obtain ⟨m1, m2, m3, -⟩ := zVr_in q hq
    have e1 := ha _ m1 i i0 i1
    have e2 := hb _ m3 i i0 i1
    exact e1.trans ((h.1 q hq i i0 i1).trans e2.symm)
  · obtain ⟨m1, m2, m3, -⟩ := zVr_in q hq
    have e1 := ha _ m2 i i0 i1
    obtain ⟨x0, x1⟩ := zVr_ix hq i0 i1
    rw [a1] at h1
    exact e1.trans ((h.2 h1 q hq i i0 i1).trans (hc _ x0 (by omega)).symm)
noncomputable def zRVok (W : Nat) : Bool := zRok W && zRak W zRa && zRak W zRb && sx_nb (sx_bit W 245)
theorem zRV_fr {W : Nat} {μ μ' : pm_Mem} (h : ∀ (r : Nat) (g : sx_Rg) (k : Nat) (t : sx_Ty), sx_bit W r = false → r < zNR → zRT2 r = some g → g.1 ≤ 2 → k < sx_wd g → sx_ft g k = some t → t.1 ≤ 1 → μ' r (k : Int) = μ r (k : Int)) (hc : zRVok W = true) (hz : ∀ q ∈ sx_Fz, μ' q.1 (q.2 : Int) = μ q.1 (q.2 : Int)) (hR : zRV μ) : zRV μ' := by
  unfold zRVok at hc
  simp only [Bool.and_eq_true, sx_nb_eq, Bool.not_eq_true'] at hc
  obtain ⟨⟨⟨c1, c2⟩, c3⟩, c4⟩ := hc
  have c1' := c1
  unfold zRok at c1'
  simp only [Bool.and_eq_true] at c1'
  exact ⟨zR_fr h c1 hz hR.1, zV_of (zRq_fr h c1'.1 (1, 2) (by decide)) (zRl_fr h zRa_t c2) (zRl_fr h zRb_t c3) (zrA_fr h c4 zRc_t) hR.2.1,
    zPs_of hR.2.2.1 (zRq_fr h c1'.1 (29, 1) (by decide)) (zRl_fr h zRa_t c2 (30, 6) (by decide)), fun h1 => zPs_of (hR.2.2.2 (by have e : μ' 1 2 = μ 1 2 := zRq_fr h c1'.1 (1, 2) (by decide); rw [← e]; exact h1)) (zRq_fr h c1'.1 (72, 1) (by decide)) (zRl_fr h zRa_t c2 (73, 6) (by decide))⟩
theorem zTv_congr {emp lo hi room v c i : Int} {f g : Int → Int} (h : f i = g i) : zTv emp lo hi room v c f i = zTv emp lo hi room v c g i := by
  unfold zTv
  rw [h]
/-- between both sides' thread -/
def zHV_thread (v : Int) (μ1 : pm_Mem) : Prop := ∃ μ, zRV μ ∧ (∀ q, q ≠ 37 → q ≠ 38 → μ1 q = μ q) ∧ μ1 37 1 = zTc (-1) 1 99 8 v (μ 37 1) ∧ ∀ i, μ1 38 i = zTv (-1) 1 99 8 v (μ 37 1) (μ 38) i
theorem zRV_thread {v : Int} {μ1 μ2 : pm_Mem} (h : zHV_thread v μ1) (r1 : ∀ q, q ≠ 205 → q ≠ 237 → μ2 q = μ1 q) (r2 : ∀ k, k ≠ 0 → k ≠ 56 → μ2 205 k = μ1 205 k) (r3 : μ2 205 56 = zTc (-1) 1 99 8 v (μ1 205 56)) (r4 : ∀ i, μ2 237 i = zTv (-1) 1 99 8 v (μ1 205 56) (μ1 237) i) : zRV μ2 := by
  obtain ⟨μ, hR, p1, p2, p3⟩ := h
  have kp : ∀ q ∈ [29, 30, 72, 73, 1], μ2 q = μ q := fun q hq => by
    have d := (show ∀ q ∈ [29, 30, 72, 73, 1], q ≠ 205 ∧ q ≠ 237 ∧ q ≠ 37 ∧ q ≠ 38 by decide) q hq
    rw [r1 q d.1 d.2.1, p1 q d.2.2.1 d.2.2.2]
  refine ⟨zR_thread ⟨μ, hR.1, p1, p2⟩ r1 r2 r3, ⟨fun q hq i i0 i1 => ?_, fun h1 q hq i i0 i1 => ?_⟩, zPos_eq hR.2.2 (kp 29 (by decide)) (kp 30 (by decide)) (kp 72 (by decide)) (kp 73 (by decide)) (kp 1 (by decide))⟩
  · have hd := (show ∀ q ∈ zVr, (q.1 = 38 ∧ q.2.2.1 = 237) ∨ ((q.1 ≠ 205 ∧ q.1 ≠ 237 ∧ q.1 ≠ 37 ∧ q.1 ≠ 38) ∧ q.2.2.1 ≠ 205 ∧ q.2.2.1 ≠ 237 ∧ q.2.2.1 ≠ 37 ∧ q.2.2.1 ≠ 38) by decide) q hq
    have e := hR.2.1.1 q hq i i0 i1
    rcases hd with ⟨d1, d2⟩ | ⟨⟨d1, d2, d3, d4⟩, d5, d6, d7, d8⟩
    · rw [d1, d2] at e ⊢
      rw [r1 38 (by decide) (by decide), p3, r4, p1 205 (by decide) (by decide), p1 237 (by decide) (by decide), ← hR.1.1.2.1]
      exact zTv_congr e
    · rw [r1 q.1 d1 d2, p1 q.1 d3 d4, r1 q.2.2.1 d5 d6, p1 q.2.2.1 d7 d8]
      exact e
  · have d := (show ∀ q ∈ zVr, q.2.1 ≠ 205 ∧ q.2.1 ≠ 237 ∧ q.2.1 ≠ 37 ∧ q.2.1 ≠ 38 by decide) q hq
    rw [r1 1 (by decide) (by decide), p1 1 (by decide) (by decide)] at h1
    rw [r1 q.2.1 d.1 d.2.1, p1 q.2.1 d.2.2.1 d.2.2.2, r1 245 (by decide) (by decide), p1 245 (by decide) (by decide)]
    exact hR.2.1.2 h1 q hq i i0 i1
/-- between both sides' earn -/
def zHV_earn (v : Int) (μ1 : pm_Mem) : Prop := ∃ μ, zRV μ ∧ (∀ q, q ≠ 39 → q ≠ 40 → μ1 q = μ q) ∧ μ1 39 1 = zTc (-1000) (-99) 99 12 v (μ 39 1) ∧ ∀ i, μ1 40 i = zTv (-1000) (-99) 99 12 v (μ 39 1) (μ 40) i
theorem zRV_earn {v : Int} {μ1 μ2 : pm_Mem} (h : zHV_earn v μ1) (r1 : ∀ q, q ≠ 205 → q ≠ 239 → μ2 q = μ1 q) (r2 : ∀ k, k ≠ 0 → k ≠ 59 → μ2 205 k = μ1 205 k) (r3 : μ2 205 59 = zTc (-1000) (-99) 99 12 v (μ1 205 59)) (r4 : ∀ i, μ2 239 i = zTv (-1000) (-99) 99 12 v (μ1 205 59) (μ1 239) i) : zRV μ2 := by
  obtain ⟨μ, hR, p1, p2, p3⟩ := h
  have kp : ∀ q ∈ [29, 30, 72, 73, 1], μ2 q = μ q := fun q hq => by
    have d := (show ∀ q ∈ [29, 30, 72, 73, 1], q ≠ 205 ∧ q ≠ 239 ∧ q ≠ 39 ∧ q ≠ 40 by decide) q hq
    rw [r1 q d.1 d.2.1, p1 q d.2.2.1 d.2.2.2]
  refine ⟨zR_earn ⟨μ, hR.1, p1, p2⟩ r1 r2 r3, ⟨fun q hq i i0 i1 => ?_, fun h1 q hq i i0 i1 => ?_⟩, zPos_eq hR.2.2 (kp 29 (by decide)) (kp 30 (by decide)) (kp 72 (by decide)) (kp 73 (by decide)) (kp 1 (by decide))⟩
  · have hd := (show ∀ q ∈ zVr, (q.1 = 40 ∧ q.2.2.1 = 239) ∨ ((q.1 ≠ 205 ∧ q.1 ≠ 239 ∧ q.1 ≠ 39 ∧ q.1 ≠ 40) ∧ q.2.2.1 ≠ 205 ∧ q.2.2.1 ≠ 239 ∧ q.2.2.1 ≠ 39 ∧ q.2.2.1 ≠ 40) by decide) q hq
    have e := hR.2.1.1 q hq i i0 i1
    rcases hd with ⟨d1, d2⟩ | ⟨⟨d1, d2, d3, d4⟩, d5, d6, d7, d8⟩
    · rw [d1, d2] at e ⊢
      rw [r1 40 (by decide) (by decide), p3, r4, p1 205 (by decide) (by decide), p1 239 (by decide) (by decide), ← hR.1.1.2.2.1]
      exact zTv_congr e
    · rw [r1 q.1 d1 d2, p1 q.1 d3 d4, r1 q.2.2.1 d5 d6, p1 q.2.2.1 d7 d8]
      exact e
  · have d := (show ∀ q ∈ zVr, q.2.1 ≠ 205 ∧ q.2.1 ≠ 239 ∧ q.2.1 ≠ 39 ∧ q.2.1 ≠ 40 by decide) q hq
    rw [r1 1 (by decide) (by decide), p1 1 (by decide) (by decide)] at h1
    rw [r1 q.2.1 d.1 d.2.1, p1 q.2.1 d.2.2.1 d.2.2.2, r1 245 (by decide) (by decide), p1 245 (by decide) (by decide)]
    exact hR.2.1.2 h1 q hq i i0 i1
/-- between both sides' coin -/
def zHV_coin0 (v : Int) (μ1 : pm_Mem) : Prop := ∃ μ, zRV μ ∧ (∀ q, q ≠ 29 → q ≠ 30 → μ1 q = μ q) ∧ μ1 29 1 = zTc (-1) 1 50 6 v (μ 29 1) ∧ ∀ i, μ1 30 i = zTv (-1) 1 50 6 v (μ 29 1) (μ 30) i
theorem zRV_coin0 {v : Int} {μ1 μ2 : pm_Mem} (h : zHV_coin0 v μ1) (r1 : ∀ q, q ≠ 205 → q ≠ 230 → μ2 q = μ1 q) (r2 : ∀ k, k ≠ 0 → k ≠ 45 → μ2 205 k = μ1 205 k) (r3 : μ2 205 45 = zTc (-1) 1 50 6 v (μ1 205 45)) (r4 : ∀ i, μ2 230 i = zTv (-1) 1 50 6 v (μ1 205 45) (μ1 230) i) : zRV μ2 := by
  obtain ⟨μ, hR, p1, p2, p3⟩ := h
  have kp : ∀ q ∈ [72, 73, 1], μ2 q = μ q := fun q hq => by
    have d := (show ∀ q ∈ [72, 73, 1], q ≠ 205 ∧ q ≠ 230 ∧ q ≠ 29 ∧ q ≠ 30 by decide) q hq
    rw [r1 q d.1 d.2.1, p1 q d.2.2.1 d.2.2.2]
  have k1 : μ2 29 1 = zTc (-1) 1 50 6 v (μ 29 1) := by rw [r1 29 (by decide) (by decide), p2]
  have k2 : ∀ i : Int, 0 ≤ i → i < (6 : Nat) → μ2 30 i = zTv (-1) 1 50 6 v (μ 29 1) (μ 30) i := fun i _ _ => by rw [r1 30 (by decide) (by decide), p3]
  have kP : zPos μ2 := ⟨zPs_of (zPs_t hR.2.2.1) k1 k2, by
    rw [kp 1 (by decide), kp 72 (by decide), kp 73 (by decide)]
    exact hR.2.2.2⟩
  refine ⟨zR_coin ⟨μ, hR.1, p1, p2⟩ r1 r2 r3, ⟨fun q hq i i0 i1 => ?_, fun h1 q hq i i0 i1 => ?_⟩, kP⟩
  · have hd := (show ∀ q ∈ zVr, (q.1 = 30 ∧ q.2.2.1 = 230) ∨ ((q.1 ≠ 205 ∧ q.1 ≠ 230 ∧ q.1 ≠ 29 ∧ q.1 ≠ 30) ∧ q.2.2.1 ≠ 205 ∧ q.2.2.1 ≠ 230 ∧ q.2.2.1 ≠ 29 ∧ q.2.2.1 ≠ 30) by decide) q hq
    have e := hR.2.1.1 q hq i i0 i1
    rcases hd with ⟨d1, d2⟩ | ⟨⟨d1, d2, d3, d4⟩, d5, d6, d7, d8⟩
    · rw [d1, d2] at e ⊢
      rw [r1 30 (by decide) (by decide), p3, r4, p1 205 (by decide) (by decide), p1 230 (by decide) (by decide), ← hR.1.1.2.2.2.1]
      exact zTv_congr e
    · rw [r1 q.1 d1 d2, p1 q.1 d3 d4, r1 q.2.2.1 d5 d6, p1 q.2.2.1 d7 d8]
      exact e
  · have d := (show ∀ q ∈ zVr, q.2.1 ≠ 205 ∧ q.2.1 ≠ 230 ∧ q.2.1 ≠ 29 ∧ q.2.1 ≠ 30 by decide) q hq
    rw [r1 1 (by decide) (by decide), p1 1 (by decide) (by decide)] at h1
    rw [r1 q.2.1 d.1 d.2.1, p1 q.2.1 d.2.2.1 d.2.2.2, r1 245 (by decide) (by decide), p1 245 (by decide) (by decide)]
    exact hR.2.1.2 h1 q hq i i0 i1
/-- between both sides' coin -/
def zHV_coin (v : Int) (μ1 : pm_Mem) : Prop := ∃ μ, zRV μ ∧ (0 ≤ μ 29 1 ∧ μ 29 1 ≤ 6) ∧ (∀ q, q ≠ 29 → q ≠ 30 → μ1 q = μ q) ∧ μ1 29 1 = zTc (-1) 1 50 6 (zcV v (μ 29 1) (μ 30)) (μ 29 1) ∧ ∀ i, μ1 30 i = zTv (-1) 1 50 6 (zcV v (μ 29 1) (μ 30)) (μ 29 1) (μ 30) i
theorem zRV_coin {v : Int} {μ1 μ2 : pm_Mem} (h : zHV_coin v μ1) (r1 : ∀ q, q ≠ 205 → q ≠ 230 → μ2 q = μ1 q) (r2 : ∀ k, k ≠ 0 → k ≠ 45 → μ2 205 k = μ1 205 k) (r3 : μ2 205 45 = zTc (-1) 1 50 6 (zcV v (μ1 205 45) (μ1 230)) (μ1 205 45)) (r4 : ∀ i, μ2 230 i = zTv (-1) 1 50 6 (zcV v (μ1 205 45) (μ1 230)) (μ1 205 45) (μ1 230) i) : zRV μ2 := by
  obtain ⟨μ, hR, hb, p1, p2, p3⟩ := h
  have ew : zcV v (μ1 205 45) (μ1 230) = zcV v (μ 29 1) (μ 30) := by
    rw [p1 205 (by decide) (by decide), p1 230 (by decide) (by decide), ← hR.1.1.2.2.2.1]
    exact zcV_cg (fun j j0 j1 => (hR.2.1.1 (30, 73, 230, 445, 1, 6) (by decide) j j0 (by show j < ((6 : Nat) : Int); omega)).symm)
  rw [ew] at r3 r4
  exact zRV_coin0 ⟨μ, hR, p1, p2, p3⟩ r1 r2 r3 r4
/-- between both sides' shutter -/
def zHV_shutter (v : Int) (μ1 : pm_Mem) : Prop := ∃ μ, zRV μ ∧ (∀ q, q ≠ 43 → q ≠ 44 → μ1 q = μ q) ∧ μ1 43 1 = zTc (-1) 0 99 8 v (μ 43 1) ∧ ∀ i, μ1 44 i = zTv (-1) 0 99 8 v (μ 43 1) (μ 44) i
theorem zRV_shutter {v : Int} {μ1 μ2 : pm_Mem} (h : zHV_shutter v μ1) (r1 : ∀ q, q ≠ 205 → q ≠ 244 → μ2 q = μ1 q) (r2 : ∀ k, k ≠ 0 → k ≠ 67 → μ2 205 k = μ1 205 k) (r3 : μ2 205 67 = zTc (-1) 0 99 8 v (μ1 205 67)) (r4 : ∀ i, μ2 244 i = zTv (-1) 0 99 8 v (μ1 205 67) (μ1 244) i) : zRV μ2 := by
  obtain ⟨μ, hR, p1, p2, p3⟩ := h
  have kp : ∀ q ∈ [29, 30, 72, 73, 1], μ2 q = μ q := fun q hq => by
    have d := (show ∀ q ∈ [29, 30, 72, 73, 1], q ≠ 205 ∧ q ≠ 244 ∧ q ≠ 43 ∧ q ≠ 44 by decide) q hq
    rw [r1 q d.1 d.2.1, p1 q d.2.2.1 d.2.2.2]
  refine ⟨zR_shutter ⟨μ, hR.1, p1, p2⟩ r1 r2 r3, ⟨fun q hq i i0 i1 => ?_, fun h1 q hq i i0 i1 => ?_⟩, zPos_eq hR.2.2 (kp 29 (by decide)) (kp 30 (by decide)) (kp 72 (by decide)) (kp 73 (by decide)) (kp 1 (by decide))⟩
  · have hd := (show ∀ q ∈ zVr, (q.1 = 44 ∧ q.2.2.1 = 244) ∨ ((q.1 ≠ 205 ∧ q.1 ≠ 244 ∧ q.1 ≠ 43 ∧ q.1 ≠ 44) ∧ q.2.2.1 ≠ 205 ∧ q.2.2.1 ≠ 244 ∧ q.2.2.1 ≠ 43 ∧ q.2.2.1 ≠ 44) by decide) q hq
    have e := hR.2.1.1 q hq i i0 i1
    rcases hd with ⟨d1, d2⟩ | ⟨⟨d1, d2, d3, d4⟩, d5, d6, d7, d8⟩
    · rw [d1, d2] at e ⊢
      rw [r1 44 (by decide) (by decide), p3, r4, p1 205 (by decide) (by decide), p1 244 (by decide) (by decide), ← hR.1.1.2.2.2.2]
      exact zTv_congr e
    · rw [r1 q.1 d1 d2, p1 q.1 d3 d4, r1 q.2.2.1 d5 d6, p1 q.2.2.1 d7 d8]
      exact e
  · have d := (show ∀ q ∈ zVr, q.2.1 ≠ 205 ∧ q.2.1 ≠ 244 ∧ q.2.1 ≠ 43 ∧ q.2.1 ≠ 44 by decide) q hq
    rw [r1 1 (by decide) (by decide), p1 1 (by decide) (by decide)] at h1
    rw [r1 q.2.1 d.1 d.2.1, p1 q.2.1 d.2.2.1 d.2.2.2, r1 245 (by decide) (by decide), p1 245 (by decide) (by decide)]
    exact hR.2.1.2 h1 q hq i i0 i1
/-- between both sides' errands -/
def zHV_errand (v w : Int) (μ1 : pm_Mem) : Prop := ∃ μ, zRV μ ∧ (∀ q, q ≠ 33 → q ≠ 34 → q ≠ 35 → q ≠ 36 → μ1 q = μ q) ∧ μ1 33 1 = zEc v w (μ 33 1) ∧ μ1 35 1 = zEc v w (μ 33 1)
theorem zRV_errand {v w : Int} {μ1 μ2 : pm_Mem} (h : zHV_errand v w μ1) (r1 : ∀ q, q ≠ 205 → q ≠ 234 → q ≠ 235 → μ2 q = μ1 q) (r2 : ∀ k, k ≠ 0 → k ≠ 52 → μ2 205 k = μ1 205 k) (r3 : μ2 205 52 = zEc v w (μ1 205 52)) : zRV μ2 := by
  obtain ⟨μ, hR, p1, p2, p3⟩ := h
  have key : ∀ q, q ≠ 205 → q ≠ 234 → q ≠ 235 → q ≠ 33 → q ≠ 34 → q ≠ 35 → q ≠ 36 → μ2 q = μ q := fun q a b c d e f g => by rw [r1 q a b c, p1 q d e f g]
  have hd := (show ∀ q ∈ zVr, (q.1 ≠ 205 ∧ q.1 ≠ 234 ∧ q.1 ≠ 235 ∧ q.1 ≠ 33 ∧ q.1 ≠ 34 ∧ q.1 ≠ 35 ∧ q.1 ≠ 36) ∧ (q.2.1 ≠ 205 ∧ q.2.1 ≠ 234 ∧ q.2.1 ≠ 235 ∧ q.2.1 ≠ 33 ∧ q.2.1 ≠ 34 ∧ q.2.1 ≠ 35 ∧ q.2.1 ≠ 36) ∧ q.2.2.1 ≠ 205 ∧ q.2.2.1 ≠ 234 ∧ q.2.2.1 ≠ 235 ∧ q.2.2.1 ≠ 33 ∧ q.2.2.1 ≠ 34 ∧ q.2.2.1 ≠ 35 ∧ q.2.2.1 ≠ 36 by decide)
  have kp : ∀ q ∈ [29, 30, 72, 73, 1], μ2 q = μ q := fun q hq => by
    have d := (show ∀ q ∈ [29, 30, 72, 73, 1], q ≠ 205 ∧ q ≠ 234 ∧ q ≠ 235 ∧ q ≠ 33 ∧ q ≠ 34 ∧ q ≠ 35 ∧ q ≠ 36 by decide) q hq
    exact key q d.1 d.2.1 d.2.2.1 d.2.2.2.1 d.2.2.2.2.1 d.2.2.2.2.2.1 d.2.2.2.2.2.2
  refine ⟨zR_errand ⟨μ, hR.1, p1, p2, p3⟩ r1 r2 r3, ⟨fun q hq i i0 i1 => ?_, fun h1 q hq i i0 i1 => ?_⟩, zPos_eq hR.2.2 (kp 29 (by decide)) (kp 30 (by decide)) (kp 72 (by decide)) (kp 73 (by decide)) (kp 1 (by decide))⟩
  · obtain ⟨⟨a1, a2, a3, a4, a5, a6, a7⟩, -, c1, c2, c3, c4, c5, c6, c7⟩ := hd q hq
    rw [key q.1 a1 a2 a3 a4 a5 a6 a7, key q.2.2.1 c1 c2 c3 c4 c5 c6 c7]
    exact hR.2.1.1 q hq i i0 i1
  · obtain ⟨-, ⟨a1, a2, a3, a4, a5, a6, a7⟩, -⟩ := hd q hq
    rw [key 1 (by decide) (by decide) (by decide) (by decide) (by decide) (by decide) (by decide)] at h1
    rw [key q.2.1 a1 a2 a3 a4 a5 a6 a7, key 245 (by decide) (by decide) (by decide) (by decide) (by decide) (by decide) (by decide)]
    exact hR.2.1.2 h1 q hq i i0 i1
/-- between both sides' AFTER YOU told -/
def zHV_told (a b c d : Int) (μ1 : pm_Mem) : Prop := ∃ μ, zRV μ ∧ (∀ q, q ≠ 31 → q ≠ 32 → μ1 q = μ q) ∧ zTD a b c d (μ 32) (μ1 32)
theorem zTD_eq {a b c d : Int} {f g f' g' : Int → Int} (h : zTD a b c d f f') (h' : zTD a b c d g g') {i : Int} (i0 : 0 ≤ i) (i1 : i < 4) (e : f i = g i) : f' i = g' i := by
  by_cases hz : zwt20 a b c d = 1
  · obtain ⟨x0, x1, x2, x3⟩ := h.1 hz
    obtain ⟨y0, y1, y2, y3⟩ := h'.1 hz
    have hh : i = 0 ∨ i = 1 ∨ i = 2 ∨ i = 3 := by omega
    rcases hh with rfl | rfl | rfl | rfl
    · rw [x0, y0]
    · rw [x1, y1]
    · rw [x2, y2]
    · rw [x3, y3]
  · rw [h.2 hz, h'.2 hz]
    exact e
theorem zRV_told {a b c d : Int} {μ1 μ2 : pm_Mem} (h : zHV_told a b c d μ1) (r1 : ∀ q, q ≠ 205 → q ≠ 232 → μ2 q = μ1 q) (r2 : ∀ k, k ≠ 0 → μ2 205 k = μ1 205 k) (r4 : zTD a b c d (μ1 232) (μ2 232)) : zRV μ2 := by
  obtain ⟨μ, hR, p1, p3⟩ := h
  have key : ∀ q, q ≠ 205 → q ≠ 232 → q ≠ 31 → q ≠ 32 → μ2 q = μ q := fun q a b c d => by rw [r1 q a b, p1 q c d]
  have k2 : ∀ k, k ≠ 0 → μ2 205 k = μ 205 k := fun k a => by rw [r2 k a, p1 205 (by decide) (by decide)]
  refine ⟨zR_of (fun q hq => ?_) (fun q hq => ?_) (fun q hq => ?_) hR.1, ⟨fun q hq i i0 i1 => ?_, fun h1 q hq i i0 i1 => ?_⟩, zPos_eq hR.2.2 (key 29 (by decide) (by decide) (by decide) (by decide)) (key 30 (by decide) (by decide) (by decide) (by decide)) (key 72 (by decide) (by decide) (by decide) (by decide)) (key 73 (by decide) (by decide) (by decide) (by decide)) (key 1 (by decide) (by decide) (by decide) (by decide))⟩
  · have d := (show ∀ q ∈ zRq, q.1 ≠ 205 ∧ q.1 ≠ 232 ∧ q.1 ≠ 31 ∧ q.1 ≠ 32 by decide) q hq
    rw [key q.1 d.1 d.2.1 d.2.2.1 d.2.2.2]
  · have d := (show ∀ q ∈ zRi, q.1 ≠ 205 ∧ q.1 ≠ 232 ∧ q.1 ≠ 31 ∧ q.1 ≠ 32 by decide) q hq
    rw [key q.1 d.1 d.2.1 d.2.2.1 d.2.2.2]
  · have d := (show ∀ q ∈ sx_Fz, q.1 = 205 ∧ q.2 ≠ 0 by decide) q hq
    rw [d.1]
    exact k2 _ (by omega)
  · have hd := (show ∀ q ∈ zVr, (q.1 = 32 ∧ q.2.2.1 = 232 ∧ q.2.2.2.2.2 = 4) ∨ ((q.1 ≠ 205 ∧ q.1 ≠ 232 ∧ q.1 ≠ 31 ∧ q.1 ≠ 32) ∧ q.2.2.1 ≠ 205 ∧ q.2.2.1 ≠ 232 ∧ q.2.2.1 ≠ 31 ∧ q.2.2.1 ≠ 32) by decide) q hq
    have e := hR.2.1.1 q hq i i0 i1
    rcases hd with ⟨d1, d2, d3⟩ | ⟨⟨d1, d2, d3, d4⟩, d5, d6, d7, d8⟩
    · rw [d1, d2] at e ⊢
      rw [r1 32 (by decide) (by decide)]
      rw [p1 232 (by decide) (by decide)] at r4
      exact zTD_eq p3 r4 i0 (by omega) e
    · rw [key q.1 d1 d2 d3 d4, key q.2.2.1 d5 d6 d7 d8]
      exact e
  · have d := (show ∀ q ∈ zVr, q.2.1 ≠ 205 ∧ q.2.1 ≠ 232 ∧ q.2.1 ≠ 31 ∧ q.2.1 ≠ 32 by decide) q hq
    rw [key 1 (by decide) (by decide) (by decide) (by decide)] at h1
    rw [key q.2.1 d.1 d.2.1 d.2.2.1 d.2.2.2, key 245 (by decide) (by decide) (by decide) (by decide)]
    exact hR.2.1.2 h1 q hq i i0 i1
/-- between both sides' images -/
def zHVi (b x : Int) (μ1 : pm_Mem) : Prop := ∃ μ, zRV μ ∧ (0 ≤ μ 1 2 ∧ μ 1 2 ≤ 1) ∧ zIMX b μ x μ1 ∧ zIMY b μ μ1 ∧ (∀ q ∈ zRb, ∀ i : Int, 0 ≤ i → i < q.2 → μ1 q.1 i = μ q.1 i) ∧ (∀ i : Int, 0 ≤ i → i < (2600 : Nat) → μ1 245 i = μ 245 i) ∧ (∀ q ∈ sx_Fz, μ1 q.1 (q.2 : Int) = μ q.1 (q.2 : Int))
def zHV_image (b : Int) (μ1 : pm_Mem) : Prop := ∃ x, zHVi b x μ1
theorem zHVi_H {b x : Int} {μ1 : pm_Mem} (h : zHVi b x μ1) : zHi b x μ1 := by
  obtain ⟨μ, h1, h2, h3, -, -, h6, h7⟩ := h
  refine ⟨μ, h1.1, h2, h3, fun q hq => ?_, h7⟩
  have d := (show ∀ q ∈ zRi, q.1 = 245 ∧ q.2 < 2600 by decide) q hq
  rw [d.1]
  exact h6 _ (by omega) (by omega)
set_option maxRecDepth 100000 in
theorem zVp : ∀ q ∈ zVr, ∀ i, i < q.2.2.2.2.2 → zIpl (q.2.2.2.1 + q.2.2.2.2.1 * i) = (q.2.2.1, i) := by decide +kernel
theorem zVp_at {q : Nat × Nat × Nat × Nat × Nat × Nat} (hq : q ∈ zVr) {i : Int} (i0 : 0 ≤ i) (i1 : i < q.2.2.2.2.2) : ∃ p : Nat, p < 2128 ∧ ((p : Nat) : Int) = (q.2.2.2.1 : Int) + q.2.2.2.2.1 * i ∧ zIpl p = (q.2.2.1, i.toNat) ∧ q.2.2.1 ≠ 205 := by
  have h := (show ∀ q ∈ zVr, q.2.2.2.1 ≤ 501 ∧ q.2.2.2.2.1 ≤ 3 ∧ q.2.2.2.2.2 ≤ 12 ∧ q.2.2.1 ≠ 205 by decide) q hq
  have e0 : q.2.2.2.2.1 * i.toNat ≤ 3 * i.toNat := Nat.mul_le_mul_right _ h.2.1
  have e1 : (((q.2.2.2.2.1 * i.toNat : Nat)) : Int) = (q.2.2.2.2.1 : Int) * i := by
    rw [Int.natCast_mul, show ((i.toNat : Nat) : Int) = i by omega]
  exact ⟨q.2.2.2.1 + q.2.2.2.2.1 * i.toNat, by omega, by omega, zVp q hq i.toNat (by omega), h.2.2.2⟩
theorem zPos_image {b : Int} {μ1 μ2 : pm_Mem} (h : zHV_image b μ1) (hf : ∀ q ∈ zRq, μ2 q.1 (q.2 : Int) = μ1 q.1 (q.2 : Int)) (hy : ∀ q ∈ zRa, ∀ i : Int, 0 ≤ i → i < q.2 → μ2 q.1 i = μ1 q.1 i) : zPos μ2 := by
  obtain ⟨x, μ, hR, ht, ⟨i1, i2, i3⟩, ⟨y1, y2, y3⟩, -⟩ := h
  obtain ⟨hp1, hp2⟩ := hR.2.2
  have f1 : μ2 1 2 = μ1 1 2 := hf (1, 2) (by decide)
  have f29 : μ2 29 1 = μ1 29 1 := hf (29, 1) (by decide)
  have f72 : μ2 72 1 = μ1 72 1 := hf (72, 1) (by decide)
  have f30 := hy (30, 6) (by decide)
  have f73 := hy (73, 6) (by decide)
  by_cases hb0 : b = 0
  · by_cases h1 : μ 1 2 = 0
    · obtain ⟨-, a⟩ := i2 hb0 h1
      have y := y2 hb0 h1
      have a1 : μ1 1 2 = μ 1 2 := a (1, 2) (by decide)
      have a29 : μ1 29 1 = μ 29 1 := a (29, 1) (by decide)
      exact ⟨zPs_of hp1 (f29.trans a29) (fun i q0 q1 => (f30 i q0 q1).trans (y (30, 6) (by decide) i q0 q1)), fun h2 => absurd (f1.trans (a1.trans h1)) h2⟩
    · obtain ⟨-, a⟩ := i3 hb0 h1
      have y := y3 hb0 h1
      have a29 : μ1 29 1 = μ 72 1 := a (29, 1) (by decide)
      have a72 : μ1 72 1 = μ 72 1 := a (72, 1) (by decide)
      exact ⟨zPs_of (hp2 h1) (f29.trans a29) (fun i q0 q1 => (f30 i q0 q1).trans (y (30, 6) (by decide) i q0 q1)), fun _ => zPs_of (hp2 h1) (f72.trans a72) (fun i q0 q1 => (f73 i q0 q1).trans (y (73, 6) (by decide) i q0 q1))⟩
  · obtain ⟨-, -, a⟩ := i1 hb0
    have y := y1 hb0
    have a29 : μ1 29 1 = μ 29 1 := a (29, 1) (by decide) (by decide)
    have a72 : μ1 72 1 = μ 29 1 := a (72, 1) (by decide) (by decide)
    exact ⟨zPs_of hp1 (f29.trans a29) (fun i q0 q1 => (f30 i q0 q1).trans (y (30, 6) (by decide) i q0 q1)), fun _ => zPs_of hp1 (f72.trans a72) (fun i q0 q1 => (f73 i q0 q1).trans (y (73, 6) (by decide) i q0 q1))⟩
theorem zRV_image {b x2 : Int} {μ1 μ2 : pm_Mem} (h : zHV_image b μ1) (hg : zIMG b μ1 x2 μ2) (hf : ∀ q ∈ zRq, μ2 q.1 (q.2 : Int) = μ1 q.1 (q.2 : Int)) (hy : ∀ q ∈ zRa, ∀ i : Int, 0 ≤ i → i < q.2 → μ2 q.1 i = μ1 q.1 i) : zRV μ2 := by
  obtain ⟨x, hh⟩ := h
  refine ⟨zR_image ⟨x, zHVi_H hh⟩ hg hf, ?_, zPos_image ⟨x, hh⟩ hf hy⟩
  obtain ⟨μ, hR, ht, ⟨i1, i2, i3⟩, ⟨y1, y2, y3⟩, hb, hc, hz⟩ := hh
  obtain ⟨j1, j2, j3⟩ := hg
  have f1 : μ2 1 2 = μ1 1 2 := hf (1, 2) (by decide)
  have c70 : μ1 205 70 = μ 205 70 := hz (205, 70) (by decide)
  have g7 := hR.1.2.2.1
  by_cases hb0 : b = 0
  · by_cases h1 : μ 1 2 = 0
    · obtain ⟨-, a⟩ := i2 hb0 h1
      have a1 : μ1 1 2 = μ 1 2 := a (1, 2) (by decide)
      obtain ⟨-, e⟩ := j2 hb0 (by omega)
      refine zV_of (f1.trans a1) (fun q hq i q0 q1 => (hy q hq i q0 q1).trans (y2 hb0 h1 q hq i q0 q1)) (fun q hq i q0 q1 => ?_) (fun i q0 q1 => ?_) hR.2.1
      · have d := (show ∀ q ∈ zRb, q.1 ≠ 205 by decide) q hq
        rw [e, pm_up_row d]
        exact hb q hq i q0 q1
      · rw [e, pm_up_row (by decide)]
        exact hc i q0 q1
    · obtain ⟨-, a⟩ := i3 hb0 h1
      obtain ⟨-, -, d245, dp⟩ := j3 hb0 (by omega)
      have key : ∀ q ∈ zVr, ∀ i : Int, 0 ≤ i → i < q.2.2.2.2.2 → μ q.2.1 i = μ2 245 (q.2.2.2.1 + q.2.2.2.2.1 * i) := fun q hq i q0 q1 => by
        obtain ⟨x0, x1⟩ := zVr_ix hq q0 q1
        rw [d245, hc _ x0 (by omega)]
        exact hR.2.1.2 h1 q hq i q0 q1
      refine ⟨fun q hq i q0 q1 => ?_, fun _ q hq i q0 q1 => ?_⟩
      · obtain ⟨m1, m2, m3, -⟩ := zVr_in q hq
        have e1 := (hy _ m1 i q0 q1).trans (y3 hb0 h1 _ m1 i q0 q1)
        have e2 := (show ∀ q ∈ zVr, zSv2 q.1 = q.2.1 by decide) q hq
        obtain ⟨p, p1, p2, p3, p4⟩ := zVp_at hq q0 q1
        have e3 := dp p p1 (fun h => by rw [p3] at h; exact absurd h p4)
        rw [p3] at e3
        have e3 : μ2 q.2.2.1 ((i.toNat : Nat) : Int) = μ1 245 (p : Int) := e3
        rw [show ((i.toNat : Nat) : Int) = i by omega, p2, ← d245, ← key q hq i q0 q1] at e3
        have e1 : μ2 q.1 i = μ (zSv2 q.1) i := e1
        rw [e1, e2, e3]
      · obtain ⟨m1, m2, m3, -⟩ := zVr_in q hq
        have e1 := (hy _ m2 i q0 q1).trans (y3 hb0 h1 _ m2 i q0 q1)
        have e2 := (show ∀ q ∈ zVr, zSv2 q.2.1 = q.2.1 by decide) q hq
        have e1 : μ2 q.2.1 i = μ (zSv2 q.2.1) i := e1
        rw [e1, e2]
        exact key q hq i q0 q1
  · obtain ⟨-, a12, a⟩ := i1 hb0
    obtain ⟨-, d70, dr, dk, dp⟩ := j1 hb0
    have now : ∀ q ∈ zVr, ∀ i : Int, 0 ≤ i → i < q.2.2.2.2.2 → μ q.1 i = μ2 q.2.2.1 i := fun q hq i q0 q1 => by
      obtain ⟨m1, m2, m3, -⟩ := zVr_in q hq
      have d := (show ∀ q ∈ zVr, q.2.2.1 ≠ 245 ∧ q.2.2.1 ≠ 205 by decide) q hq
      rw [dr q.2.2.1 d.1 d.2]
      exact (hR.2.1.1 q hq i q0 q1).trans (hb _ m3 i q0 q1).symm
    refine ⟨fun q hq i q0 q1 => ?_, fun _ q hq i q0 q1 => ?_⟩
    · obtain ⟨m1, m2, m3, -⟩ := zVr_in q hq
      have e1 := (hy _ m1 i q0 q1).trans (y1 hb0 _ m1 i q0 q1)
      have e2 := (show ∀ q ∈ zVr, zSv45 q.1 = q.1 by decide) q hq
      have e1 : μ2 q.1 i = μ (zSv45 q.1) i := e1
      rw [e1, e2]
      exact now q hq i q0 q1
    · obtain ⟨m1, m2, m3, -⟩ := zVr_in q hq
      have e1 := (hy _ m2 i q0 q1).trans (y1 hb0 _ m2 i q0 q1)
      have e2 := (show ∀ q ∈ zVr, zSv45 q.2.1 = q.1 by decide) q hq
      have e1 : μ2 q.2.1 i = μ (zSv45 q.2.1) i := e1
      obtain ⟨p, p1, p2, p3, p4⟩ := zVp_at hq q0 q1
      have e3 := dp p p1
      rw [p3] at e3
      have e3 : μ2 245 (p : Int) = μ2 q.2.2.1 ((i.toNat : Nat) : Int) := e3
      rw [p2, show ((i.toNat : Nat) : Int) = i by omega] at e3
      rw [e1, e2, e3]
      exact now q hq i q0 q1
