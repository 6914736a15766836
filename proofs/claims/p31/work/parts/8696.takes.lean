/-! the law that was read becomes the law: lines first, then codes -/
def zTk (μ0 μ : pm_Mem) (l k : Int) : Prop := zTy μ ∧ (∀ r, r ≠ 214 → r ≠ 215 → r ≠ 216 → r ≠ 217 → r ≠ 218 → r ≠ 219 → μ r = μ0 r) ∧ (∀ j : Int, 16 ≤ j → μ 215 j = μ0 215 j ∧ μ 216 j = μ0 216 j ∧ μ 217 j = μ0 217 j) ∧ (∀ j : Int, 0 ≤ j → j < l → μ 215 j = μ0 215 (32 + j) ∧ μ 216 j = μ0 216 (32 + j) ∧ μ 217 j = μ0 217 (32 + j)) ∧ (∀ j : Int, 400 ≤ j → μ 218 j = μ0 218 j ∧ μ 219 j = μ0 219 j) ∧ (∀ j : Int, 0 ≤ j → j < k → μ 218 j = μ0 218 (800 + j) ∧ μ 219 j = μ0 219 (800 + j))
theorem zTk_0 {μ : pm_Mem} (hT : zTy μ) : zTk μ μ 0 0 := ⟨hT, fun _ _ _ _ _ _ _ => rfl, fun _ _ => ⟨rfl, rfl, rfl⟩, fun j h1 h2 => absurd h2 (by omega), fun _ _ => ⟨rfl, rfl⟩, fun j h1 h2 => absurd h2 (by omega)⟩
theorem zTk_24 {μ0 μ : pm_Mem} {l k : Int} (h : zTk μ0 μ l k) : μ 205 24 = 0 := by
  have := zTy_get h.1 zs205_24 (i := 24) (by decide) (by decide)
  omega
theorem zTk_line {μ0 μ μ1 μ2 μ3 μ4 : pm_Mem} {l i1 i2 i3 i4 x1 x2 x3 x4 : Int} (h : zTk μ0 μ l 0) (h0 : 0 ≤ l ∧ l < 16) (e1 : μ1 = pm_up μ 214 i1 x1) (hi1 : i1 = l) (hx1 : x1 = μ 214 (32 + l)) (e2 : μ2 = pm_up μ1 215 i2 x2) (hi2 : i2 = l) (hx2 : x2 = μ1 215 (32 + l)) (e3 : μ3 = pm_up μ2 216 i3 x3) (hi3 : i3 = l) (hx3 : x3 = μ2 216 (32 + l)) (e4 : μ4 = pm_up μ3 217 i4 x4) (hi4 : i4 = l) (hx4 : x4 = μ3 217 (32 + l)) : zTk μ0 μ4 (l + 1) 0 := by
  obtain ⟨a1, a2, a3, a4, a5, a6⟩ := h
  have t1 := zTy_get a1 zs214_0 (i := 32 + l) (by omega) (by omega)
  have t2 := zTy_get a1 zs215_0 (i := 32 + l) (by omega) (by omega)
  have t3 := zTy_get a1 zs216_0 (i := 32 + l) (by omega) (by omega)
  have t4 := zTy_get a1 zs217_0 (i := 32 + l) (by omega) (by omega)
  have y2 : x2 = μ 215 (32 + l) := by rw [hx2, e1, pm_up_off (by decide)]
  have y3 : x3 = μ 216 (32 + l) := by rw [hx3, e2, pm_up_off (by decide), e1, pm_up_off (by decide)]
  have y4 : x4 = μ 217 (32 + l) := by rw [hx4, e3, pm_up_off (by decide), e2, pm_up_off (by decide), e1, pm_up_off (by decide)]
  have z1 : zTy μ1 := by rw [e1]; exact zTy_upT a1 zs214_0 (by omega) (by omega) (by omega) (by omega)
  have z2 : zTy μ2 := by rw [e2]; exact zTy_upT z1 zs215_0 (by omega) (by omega) (by omega) (by omega)
  have z3 : zTy μ3 := by rw [e3]; exact zTy_upT z2 zs216_0 (by omega) (by omega) (by omega) (by omega)
  have z4 : zTy μ4 := by rw [e4]; exact zTy_upT z3 zs217_0 (by omega) (by omega) (by omega) (by omega)
  have r215 : μ4 215 = pm_up μ 215 l (μ 215 (32 + l)) 215 := by
    rw [e4, pm_up_row (by decide), e3, pm_up_row (by decide), e2, hi2, y2]
    funext j
    by_cases hj : j = l
    · rw [hj, pm_up_eq, pm_up_eq]
    · rw [pm_up_ne hj, pm_up_ne hj, e1, pm_up_off (by decide)]
  have r216 : μ4 216 = pm_up μ 216 l (μ 216 (32 + l)) 216 := by
    rw [e4, pm_up_row (by decide), e3, hi3, y3]
    funext j
    by_cases hj : j = l
    · rw [hj, pm_up_eq, pm_up_eq]
    · rw [pm_up_ne hj, pm_up_ne hj, e2, pm_up_off (by decide), e1, pm_up_off (by decide)]
  have r217 : μ4 217 = pm_up μ 217 l (μ 217 (32 + l)) 217 := by
    rw [e4, hi4, y4]
    funext j
    by_cases hj : j = l
    · rw [hj, pm_up_eq, pm_up_eq]
    · rw [pm_up_ne hj, pm_up_ne hj, e3, pm_up_off (by decide), e2, pm_up_off (by decide), e1, pm_up_off (by decide)]
  have ro : ∀ r, r ≠ 214 → r ≠ 215 → r ≠ 216 → r ≠ 217 → μ4 r = μ r := fun r q1 q2 q3 q4 => by rw [e4, pm_up_row q4, e3, pm_up_row q3, e2, pm_up_row q2, e1, pm_up_row q1]
  obtain ⟨b1, b2, b3⟩ := a3 (32 + l) (by omega)
  refine ⟨z4, fun r q1 q2 q3 q4 q5 q6 => by rw [ro r q1 q2 q3 q4, a2 r q1 q2 q3 q4 q5 q6], fun j hj => ?_, fun j j0 j1 => ?_, fun j hj => by rw [ro 218 (by decide) (by decide) (by decide) (by decide), ro 219 (by decide) (by decide) (by decide) (by decide)]; exact a5 j hj, fun j q1 q2 => absurd q2 (by omega)⟩
  · rw [r215, r216, r217, pm_up_ne (by omega), pm_up_ne (by omega), pm_up_ne (by omega)]
    exact a3 j hj
  · rw [r215, r216, r217]
    by_cases hj : j = l
    · subst hj
      rw [pm_up_eq, pm_up_eq, pm_up_eq]
      exact ⟨b1, b2, b3⟩
    · rw [pm_up_ne hj, pm_up_ne hj, pm_up_ne hj]
      exact a4 j j0 (by omega)
theorem zTk_code {μ0 μ μ1 μ2 : pm_Mem} {l k i1 i2 x1 x2 : Int} (h : zTk μ0 μ l k) (h0 : 0 ≤ k ∧ k < 400) (e1 : μ1 = pm_up μ 218 i1 x1) (hi1 : i1 = k) (hx1 : x1 = μ 218 (800 + k)) (e2 : μ2 = pm_up μ1 219 i2 x2) (hi2 : i2 = k) (hx2 : x2 = μ1 219 (800 + k)) : zTk μ0 μ2 l (k + 1) := by
  obtain ⟨a1, a2, a3, a4, a5, a6⟩ := h
  have t1 := zTy_get a1 zs218_0 (i := 800 + k) (by omega) (by omega)
  have t2 := zTy_get a1 zs219_0 (i := 800 + k) (by omega) (by omega)
  have y2 : x2 = μ 219 (800 + k) := by rw [hx2, e1, pm_up_off (by decide)]
  have z1 : zTy μ1 := by rw [e1]; exact zTy_upT a1 zs218_0 (by omega) (by omega) (by omega) (by omega)
  have z2 : zTy μ2 := by rw [e2]; exact zTy_upT z1 zs219_0 (by omega) (by omega) (by omega) (by omega)
  have r218 : μ2 218 = pm_up μ 218 k (μ 218 (800 + k)) 218 := by rw [e2, pm_up_row (by decide), e1, hi1, hx1]
  have r219 : μ2 219 = pm_up μ 219 k (μ 219 (800 + k)) 219 := by
    rw [e2, hi2, y2]
    funext j
    by_cases hj : j = k
    · rw [hj, pm_up_eq, pm_up_eq]
    · rw [pm_up_ne hj, pm_up_ne hj, e1, pm_up_off (by decide)]
  have ro : ∀ r, r ≠ 218 → r ≠ 219 → μ2 r = μ r := fun r q1 q2 => by rw [e2, pm_up_row q2, e1, pm_up_row q1]
  obtain ⟨b1, b2⟩ := a5 (800 + k) (by omega)
  refine ⟨z2, fun r q1 q2 q3 q4 q5 q6 => by rw [ro r q5 q6, a2 r q1 q2 q3 q4 q5 q6], fun j hj => ?_, fun j j0 j1 => ?_, fun j hj => ?_, fun j j0 j1 => ?_⟩
  · rw [ro 215 (by decide) (by decide), ro 216 (by decide) (by decide), ro 217 (by decide) (by decide)]; exact a3 j hj
  · rw [ro 215 (by decide) (by decide), ro 216 (by decide) (by decide), ro 217 (by decide) (by decide)]; exact a4 j j0 j1
  · rw [r218, r219, pm_up_ne (by omega), pm_up_ne (by omega)]; exact a5 j hj
  · rw [r218, r219]
    by_cases hj : j = k
    · subst hj
      rw [pm_up_eq, pm_up_eq]
      exact ⟨b1, b2⟩
    · rw [pm_up_ne hj, pm_up_ne hj]
      exact a6 j j0 (by omega)
theorem zSeg_taken {op arg op' arg' : Int → Int} {a b c : Int} (h0 : 0 ≤ a) (hab : a ≤ b) (hb : b ≤ c) (ho : ∀ j, 0 ≤ j → j < c → op' j = op (800 + j) ∧ arg' j = arg (800 + j)) (h : zSafe op arg (b - a).toNat (800 + a) 0) : zSeg op' arg' a b :=
  zSeg_congr (op := fun i => op (800 + i)) (arg := fun i => arg (800 + i)) hab (fun i i0 i1 => (ho i (by omega) (by omega)).1.symm) (fun i i0 i1 => (ho i (by omega) (by omega)).2.symm) (zSafe_shift h)
theorem zTk_end {μ0 μ μ1 : pm_Mem} {n i : Int} (h : zTk μ0 μ n (μ0 205 25)) (hn : 0 ≤ n ∧ n ≤ 16) (hL : zLn μ0 n) (hT0 : zTJ μ0) (hi : i = 0) (e : μ1 = pm_up μ 213 i n) : zTJ μ1 := by
  subst hi
  obtain ⟨a1, a2, a3, a4, a5, a6⟩ := h
  have f25 := zT_get hT0 zs205_25 (i := 25) (by omega) (by omega)
  have z1 : zTy μ1 := by rw [e]; exact zTy_upT a1 zs213_0 (by omega) (by omega) (by omega) (by omega)
  have ro : ∀ r, r ≠ 213 → μ1 r = μ r := fun r hr => by rw [e, pm_up_row hr]
  refine ⟨z1, ⟨?_, ?_, fun l l0 l1 => ?_⟩, ?_, ?_⟩
  · rw [e, pm_up_eq]; exact hn.1
  · rw [e, pm_up_eq]; exact hn.2
  · have l1 : l < n := by
      rw [e, pm_up_eq] at l1
      exact l1
    obtain ⟨q1, q2, q3, q4, q5, q6⟩ := hL l l0 l1
    obtain ⟨p1, p2, p3⟩ := a4 l l0 l1
    rw [ro 215 (by decide), ro 216 (by decide), ro 217 (by decide), ro 218 (by decide), ro 219 (by decide), p1, p2, p3]
    exact ⟨q1, q2, q3, by omega, zSeg_taken q1 q2 (by omega) a6 q5, zSeg_taken (by omega) q3 (by omega) a6 q6⟩
  · rw [ro 222 (by decide), a2 222 (by decide) (by decide) (by decide) (by decide) (by decide) (by decide)]; exact hT0.2.2.1
  · rw [ro 245 (by decide), a2 245 (by decide) (by decide) (by decide) (by decide) (by decide) (by decide)]; exact hT0.2.2.2
