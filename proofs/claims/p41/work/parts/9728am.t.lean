/-! F: what is kept, copies of an arcade, shops and customers that come (behind f12) -/
def fa_kQ (Q : Int → Int) (u : Int) (N : Int → Int) : Int → Int := fun i => if u = 6 then (if 800 ≤ i ∧ i < 960 then N (i - 800) else if 0 ≤ i ∧ i < 800 then Q (i + 160) else Q i) else if 160 * u ≤ i ∧ i < 160 * u + 160 then N (i - 160 * u) else Q i
def fa_ku (u : Int) : Int := if u = 6 then 6 else u + 1
def fa_row (Q : Int → Int) (j : Int) : Int → Int := fun i => Q (160 * j + i)
section FK1
variable {Q N : Int → Int} {u i j : Int}
theorem fa_ku_6 (h : u = 6) : fa_ku u = 6 := if_pos h
theorem fa_ku_n (h : u ≠ 6) : fa_ku u = u + 1 := if_neg h
theorem fa_ku_m (h : 0 ≤ u ∧ u ≤ 6) : fa_ku u = min 6 (u + 1) := by
  unfold fa_ku
  split <;> omega
theorem fa_kQ_new (hu : 0 ≤ u ∧ u ≤ 6) (h0 : 0 ≤ i) (h1 : i < 160) : fa_row (fa_kQ Q u N) (fa_ku u - 1) i = N i := by
  unfold fa_row fa_kQ
  by_cases h : u = 6
  · rw [if_pos h, fa_ku_6 h, if_pos ⟨by omega, by omega⟩, show 160 * (6 - 1) + i - 800 = i by omega]
  · rw [if_neg h, fa_ku_n h, if_pos ⟨by omega, by omega⟩, show 160 * (u + 1 - 1) + i - 160 * u = i by omega]
theorem fa_kQ_old (hu : 0 ≤ u ∧ u ≤ 6) (hj : 1 ≤ j) (hj2 : j < fa_ku u) (h0 : 0 ≤ i) (h1 : i < 160) : fa_row (fa_kQ Q u N) (fa_ku u - 1 - j) i = fa_row Q (u - 1 - (j - 1)) i := by
  unfold fa_row fa_kQ
  by_cases h : u = 6
  · rw [fa_ku_6 h] at hj2 ⊢
    rw [if_pos h, if_neg (by omega), if_pos ⟨by omega, by omega⟩]
    congr 1
    omega
  · rw [fa_ku_n h] at hj2 ⊢
    rw [if_neg h, if_neg (by omega)]
    congr 1
    omega
end FK1
/-- what is kept in the class, by the reference's rows -/
def fa_Kp (n m : Int) (pol Q : Int → Int) (u : Int) (μ : pm_Mem) : Prop := μ 96 3 = u ∧ (0 ≤ u ∧ u ≤ 6) ∧ (0 ≤ μ 96 2 ∧ μ 96 2 ≤ 5) ∧ ∀ j : Int, 0 ≤ j → j < u → ∀ k : Nat, k < 6 → (k : Int) = (μ 96 2 + 5 - j) % 6 → fa_A (99 + 13 * k) n m (fa_row Q (u - 1 - j)) pol μ ∧ μ 98 (k : Int) = fa_row Q (u - 1 - j) 3 ∧ fa_I n m (fa_row Q (u - 1 - j)) ∧ fa_O m (fa_row Q (u - 1 - j))
section FK2
variable {n m : Int} {pol pol' Q N : Int → Int} {u : Int} {μ μ' : pm_Mem}
theorem fa_Kp_fr (h : fa_Kp n m pol Q u μ) (e96 : μ' 96 = μ 96) (e98 : μ' 98 = μ 98) (e : ∀ r, 99 ≤ r → r ≤ 176 → μ' r = μ r) : fa_Kp n m pol Q u μ' := by
  obtain ⟨h1, h2, h3, h4⟩ := h
  refine ⟨by rw [e96]; exact h1, h2, by rw [e96]; exact h3, fun j j0 j1 k k6 ke => ?_⟩
  rw [e96] at ke
  obtain ⟨a, b, c, d⟩ := h4 j j0 j1 k k6 ke
  exact ⟨fa_A_fr a (fun r r1 r2 => e r (by omega) (by omega)), by rw [e98]; exact b, c, d⟩
theorem fa_Kp_frL {L : List Nat} (h : fa_Kp n m pol Q u μ) (hf : fa_fr L μ μ') (hl : L.all (fun r => Nat.blt r 96 || Nat.blt 176 r) = true) : fa_Kp n m pol Q u μ' := by
  have key : ∀ r, 96 ≤ r → r ≤ 176 → μ' r = μ r := fun r h1 h2 => hf r (by
    cases hc : L.contains r with
    | false => rfl
    | true =>
      have := List.all_eq_true.mp hl r (by simpa using hc)
      simp only [Bool.or_eq_true, Nat.blt_eq] at this
      omega)
  exact fa_Kp_fr h (key 96 (by omega) (by omega)) (key 98 (by omega) (by omega)) (fun r h1 h2 => key r (by omega) h2)
theorem fa_Kp_0 (h3 : μ 96 3 = 0) (h2 : 0 ≤ μ 96 2 ∧ μ 96 2 ≤ 5) : fa_Kp n m pol Q 0 μ := ⟨h3, ⟨by decide, by decide⟩, h2, fun j j0 j1 => absurd j1 (by omega)⟩
theorem fa_Kp_keep {k0 : Nat} (hnm : n ≤ 12 ∧ m ≤ 18) (h : fa_Kp n m pol Q u μ) (hn : k0 < 6) (en : μ 96 2 = (k0 : Int)) (hA : fa_A (99 + 13 * k0) n m N pol μ') (h98 : μ' 98 (k0 : Int) = N 3) (hI : fa_I n m N) (hO : fa_O m N) (c2 : μ' 96 2 = if μ 96 2 = 5 then 0 else μ 96 2 + 1) (c3 : μ' 96 3 = min 6 (μ 96 3 + 1)) (o1 : ∀ k : Nat, k < 6 → k ≠ k0 → ∀ r, 99 + 13 * k ≤ r → r ≤ 99 + 13 * k + 12 → μ' r = μ r) (o2 : ∀ k : Nat, k < 6 → k ≠ k0 → μ' 98 (k : Int) = μ 98 (k : Int)) : fa_Kp n m pol (fa_kQ Q u N) (fa_ku u) μ' := by
  obtain ⟨h1, h2, h3, h4⟩ := h
  have c2' : μ' 96 2 = ((k0 : Int) + 1) % 6 := by
    rw [c2, en]
    split <;> omega
  have hu := fa_ku_m h2
  refine ⟨by rw [c3, h1, hu], by omega, by omega, fun j j0 j1 k k6 ke => ?_⟩
  by_cases hj : j = 0
  · subst hj
    obtain rfl : k = k0 := by omega
    have er : ∀ i : Int, 0 ≤ i → i < 160 → fa_row (fa_kQ Q u N) (fa_ku u - 1 - 0) i = N i := fun i i0 i1 => by
      rw [Int.sub_zero]
      exact fa_kQ_new h2 i0 i1
    exact ⟨fa_A_n hA (er 0 (by decide) (by decide)) (er 1 (by decide) (by decide)) (er 2 (by decide) (by decide)) (fun i i0 i1 => er i (by omega) i1) hnm, by rw [er 3 (by decide) (by decide)]; exact h98, fa_I_cg hnm er hI, fa_O_cg hnm hI er hO⟩
  · have hkn : k ≠ k0 := by omega
    obtain ⟨a, b, c, d⟩ := h4 (j - 1) (by omega) (by omega) k k6 (by omega)
    have er : ∀ i : Int, 0 ≤ i → i < 160 → fa_row (fa_kQ Q u N) (fa_ku u - 1 - j) i = fa_row Q (u - 1 - (j - 1)) i := fun i i0 i1 => fa_kQ_old h2 (by omega) j1 i0 i1
    exact ⟨fa_A_n (fa_A_fr a (fun r r1 r2 => o1 k k6 hkn r r1 r2)) (er 0 (by decide) (by decide)) (er 1 (by decide) (by decide)) (er 2 (by decide) (by decide)) (fun i i0 i1 => er i (by omega) i1) hnm, by rw [er 3 (by decide) (by decide), o2 k k6 hkn]; exact b, fa_I_cg hnm er c, fa_O_cg hnm c er d⟩
theorem fa_Kp_back {k0 : Nat} (h : fa_Kp n m pol Q u μ) (hn : k0 < 6) (en : (k0 : Int) = if μ 96 2 = 0 then 5 else μ 96 2 - 1) (hu : 1 ≤ u) : (fa_A (99 + 13 * k0) n m (fa_row Q (u - 1)) pol μ ∧ μ 98 (k0 : Int) = fa_row Q (u - 1) 3 ∧ fa_I n m (fa_row Q (u - 1)) ∧ fa_O m (fa_row Q (u - 1))) ∧ ∀ μ' : pm_Mem, μ' 96 2 = (k0 : Int) → μ' 96 3 = μ 96 3 - 1 → μ' 98 = μ 98 → (∀ r, 99 ≤ r → r ≤ 176 → μ' r = μ r) → fa_Kp n m pol Q (u - 1) μ' := by
  obtain ⟨h1, h2, h3, h4⟩ := h
  have en' : (k0 : Int) = (μ 96 2 + 5) % 6 := by
    rw [en]
    split <;> omega
  refine ⟨?_, fun μ' c2 c3 c98 cr => ⟨by rw [c3, h1], by omega, by omega, fun j j0 j1 k k6 ke => ?_⟩⟩
  · have := h4 0 (by omega) (by omega) k0 hn (by omega)
    rw [Int.sub_zero] at this
    exact this
  · obtain ⟨a, b, c, d⟩ := h4 (j + 1) (by omega) (by omega) k k6 (by omega)
    rw [show u - 1 - (j + 1) = u - 1 - 1 - j by omega] at a b c d
    exact ⟨fa_A_fr a (fun r r1 r2 => cr r (by omega) (by omega)), by rw [c98]; exact b, c, d⟩
end FK2
/-! an arcade copied -/
def fa_cf (d s : Nat) (j : Int) (μ0 μ : pm_Mem) : Prop := (∀ k : Int, 0 ≤ k → k < j → μ d k = μ0 s k) ∧ ∀ r, r ≠ d → μ r = μ0 r
theorem fa_cf_0 {d s : Nat} {μ : pm_Mem} : fa_cf d s 0 μ μ := ⟨fun k k0 k1 => absurd k1 (by omega), fun _ _ => rfl⟩
theorem fa_cf_s {d s : Nat} {j x : Int} {μ0 μ μ' : pm_Mem} (h : fa_cf d s j μ0 μ) (e : μ' = pm_up μ d j x) (hx : x = μ s j) (hd : s ≠ d) : fa_cf d s (j + 1) μ0 μ' := by
  obtain ⟨h1, h2⟩ := h
  refine ⟨fun k k0 k1 => ?_, fun r hr => by rw [e, pm_up_row hr, h2 r hr]⟩
  by_cases hk : k = j
  · rw [hk, e, pm_up_eq, hx, h2 s hd]
  · rw [e, pm_up_ne hk]
    exact h1 k k0 (by omega)
def fa_wd (q : Nat) : Int := if q ≤ 7 then 12 else 18
def fa_cp (d s : Nat) (j : Nat) (μ0 μ : pm_Mem) : Prop := (∀ k : Int, 0 ≤ k → k < 5 → μ d k = μ0 s k) ∧ (∀ q : Nat, 1 ≤ q → q ≤ j → ∀ i : Int, 0 ≤ i → i < fa_wd q → μ (d + q) i = μ0 (s + q) i) ∧ ∀ r, r < d ∨ d + 12 < r → μ r = μ0 r
theorem fa_cp_0 {d s : Nat} {μ0 μ : pm_Mem} (h : fa_cf d s 5 μ0 μ) : fa_cp d s 0 μ0 μ := ⟨h.1, fun q q0 q1 => absurd q1 (by omega), fun r hr => h.2 r (by omega)⟩
theorem fa_cp_s {d s j rd rs : Nat} {w : Int} {μ0 μ μ' : pm_Mem} (h : fa_cp d s j μ0 μ) (e : μ' = pm_cpy μ rd rs w) (h1 : rd = d + (j + 1)) (h2 : rs = s + (j + 1)) (hw : fa_wd (j + 1) ≤ w) (hj : j + 1 ≤ 12) (hds : s + 12 < d ∨ d + 12 < s) : fa_cp d s (j + 1) μ0 μ' := by
  obtain ⟨a, b, c⟩ := h
  subst h1
  subst h2
  refine ⟨fun k k0 k1 => by rw [e, pm_cpy_row (by omega)]; exact a k k0 k1, fun q q0 q1 i i0 i1 => ?_, fun r hr => by rw [e, pm_cpy_row (by omega)]; exact c r hr⟩
  by_cases hq : q = j + 1
  · subst hq
    rw [e, pm_cpy_at i0 (by omega), c _ (by omega)]
  · rw [e, pm_cpy_row (by omega)]
    exact b q q0 (by omega) i i0 i1
theorem fa_cp_A {d s : Nat} {n m : Int} {N pol : Int → Int} {μ0 μ : pm_Mem} (hq : n ≤ 12 ∧ m ≤ 18) (h : fa_cp d s 12 μ0 μ) (hA : fa_A s n m N pol μ0) : fa_A d n m N pol μ := by
  obtain ⟨a, b, -⟩ := h
  obtain ⟨⟨a0, a1, a2, a3, a4⟩, hT, hp⟩ := hA
  refine ⟨⟨?_, ?_, ?_, ?_, ?_⟩, fun q hq' i i0 i1 => ?_, fun c c0 c1 => ?_⟩
  · rw [a 0 (by decide) (by decide)]; exact a0
  · rw [a 1 (by decide) (by decide)]; exact a1
  · rw [a 2 (by decide) (by decide)]; exact a2
  · rw [a 3 (by decide) (by decide)]; exact a3
  · rw [a 4 (by decide) (by decide)]; exact a4
  · have hb := fa_T_b q hq'
    have hl := fa_len_b (k := q.2.2.1) hq
    have hw := (show ∀ q ∈ fa_T, (if q.2.2.1 = 0 then (12 : Int) else 18) = fa_wd q.1 by decide) q hq'
    rw [b q.1 (by omega) (by omega) i i0 (by rw [← hw]; have : fa_len q.2.2.1 n m ≤ if q.2.2.1 = 0 then 12 else 18 := hl; omega)]
    exact hT q hq' i i0 i1
  · rw [b 9 (by decide) (by decide) c c0 (by show c < (18 : Int); omega)]
    exact hp c c0 c1
/-! a shop, a customer more -/
def fa_addS (N : Int → Int) (n g p : Int) : Int → Int := fa_up (fa_up (fa_up (fa_up (fa_up (fa_up (fa_up (fa_up (fa_up N (4 + n) 0) (16 + n) 0) (28 + n) 0) (40 + n) 0) (52 + n) 0) (64 + n) 0) (76 + n) 0) (4 + n) g) (16 + n) p
def fa_addC (N : Int → Int) (m v : Int) : Int → Int := fa_up (fa_up (fa_up (fa_up (fa_up N (88 + m) 0) (106 + m) 0) (124 + m) 0) (142 + m) 0) (88 + m) v
section FK3
variable {a : Nat} {n m g p v : Int} {N pol : Int → Int} {μ μ' : pm_Mem}
theorem fa_addS_at (hn : 0 ≤ n ∧ n < 12) : fa_addS N n g p (4 + n) = g ∧ fa_addS N n g p (16 + n) = p ∧ fa_addS N n g p (28 + n) = 0 ∧ fa_addS N n g p (40 + n) = 0 ∧ fa_addS N n g p (52 + n) = 0 ∧ fa_addS N n g p (64 + n) = 0 ∧ fa_addS N n g p (76 + n) = 0 := by
  unfold fa_addS
  refine ⟨?_, ?_, ?_, ?_, ?_, ?_, ?_⟩
  · rw [fa_up_ne (by omega), fa_up_eq]
  · rw [fa_up_eq]
  · rw [fa_up_ne (by omega), fa_up_ne (by omega), fa_up_ne (by omega), fa_up_ne (by omega), fa_up_ne (by omega), fa_up_ne (by omega), fa_up_eq]
  · rw [fa_up_ne (by omega), fa_up_ne (by omega), fa_up_ne (by omega), fa_up_ne (by omega), fa_up_ne (by omega), fa_up_eq]
  · rw [fa_up_ne (by omega), fa_up_ne (by omega), fa_up_ne (by omega), fa_up_ne (by omega), fa_up_eq]
  · rw [fa_up_ne (by omega), fa_up_ne (by omega), fa_up_ne (by omega), fa_up_eq]
  · rw [fa_up_ne (by omega), fa_up_ne (by omega), fa_up_eq]
theorem fa_addS_ne {i : Int} (h : i ≠ 4 + n ∧ i ≠ 16 + n ∧ i ≠ 28 + n ∧ i ≠ 40 + n ∧ i ≠ 52 + n ∧ i ≠ 64 + n ∧ i ≠ 76 + n) : fa_addS N n g p i = N i := by
  unfold fa_addS
  rw [fa_up_ne (by omega), fa_up_ne (by omega), fa_up_ne (by omega), fa_up_ne (by omega), fa_up_ne (by omega), fa_up_ne (by omega), fa_up_ne (by omega), fa_up_ne (by omega), fa_up_ne (by omega)]
theorem fa_addC_at (hm : 0 ≤ m ∧ m < 18) : fa_addC N m v (88 + m) = v ∧ fa_addC N m v (106 + m) = 0 ∧ fa_addC N m v (124 + m) = 0 ∧ fa_addC N m v (142 + m) = 0 := by
  unfold fa_addC
  refine ⟨?_, ?_, ?_, ?_⟩
  · rw [fa_up_eq]
  · rw [fa_up_ne (by omega), fa_up_ne (by omega), fa_up_ne (by omega), fa_up_eq]
  · rw [fa_up_ne (by omega), fa_up_ne (by omega), fa_up_eq]
  · rw [fa_up_ne (by omega), fa_up_eq]
theorem fa_addC_ne {i : Int} (h : i ≠ 88 + m ∧ i ≠ 106 + m ∧ i ≠ 124 + m ∧ i ≠ 142 + m) : fa_addC N m v i = N i := by
  unfold fa_addC
  rw [fa_up_ne (by omega), fa_up_ne (by omega), fa_up_ne (by omega), fa_up_ne (by omega), fa_up_ne (by omega)]
/-- the class's arcade with one shop more: what stands at the new one, the rest as it was -/
theorem fa_A_addS (h : fa_A a n m N pol μ) (hn : 0 ≤ n ∧ n < 12) (hm : m ≤ 18) (e0 : μ' a 0 = n + 1) (ef : ∀ k : Int, k ≠ 0 → μ' a k = μ a k) (eo : ∀ r, a < r → r ≤ a + 12 → ∀ i : Int, 0 ≤ i → i ≠ n → i < 12 → r ≤ a + 7 → μ' r i = μ r i) (ec : ∀ r, a + 8 ≤ r → r ≤ a + 12 → μ' r = μ r) (g1 : μ' (a + 1) n = g) (g2 : μ' (a + 2) n = p) (g3 : μ' (a + 3) n = 0) (g4 : μ' (a + 4) n = 1) (g5 : μ' (a + 5) n = -1) (g6 : μ' (a + 6) n = -1) (g7 : μ' (a + 7) n = 0) : fa_A a (n + 1) m (fa_addS N n g p) pol μ' := by
  obtain ⟨⟨a0, a1, a2, a3, a4⟩, hT, hp⟩ := h
  obtain ⟨k1, k2, k3, k4, k5, k6, k7⟩ := fa_addS_at (N := N) (g := g) (p := p) hn
  have n0 : fa_addS N n g p 0 = N 0 := fa_addS_ne (by omega)
  have n1 : fa_addS N n g p 1 = N 1 := fa_addS_ne (by omega)
  have n2 : fa_addS N n g p 2 = N 2 := fa_addS_ne (by omega)
  refine ⟨⟨e0, by rw [ef 1 (by decide)]; exact a1, by rw [ef 2 (by decide), n1]; exact a2, by rw [ef 3 (by decide), n0]; exact a3, by rw [ef 4 (by decide), n2]; exact a4⟩, fun q hq s s0 s1 => ?_, fun c c0 c1 => by rw [ec _ (by omega) (by omega)]; exact hp c c0 c1⟩
  have hh : q = (1, 4, 0, 0) ∨ q = (2, 16, 0, 0) ∨ q = (3, 28, 0, 0) ∨ q = (4, 40, 0, 2) ∨ q = (5, 52, 0, 1) ∨ q = (6, 64, 0, 1) ∨ q = (7, 76, 0, 0) ∨ q.2.2.1 = 1 := (show ∀ q ∈ fa_T, q = (1, 4, 0, 0) ∨ q = (2, 16, 0, 0) ∨ q = (3, 28, 0, 0) ∨ q = (4, 40, 0, 2) ∨ q = (5, 52, 0, 1) ∨ q = (6, 64, 0, 1) ∨ q = (7, 76, 0, 0) ∨ q.2.2.1 = 1 by decide) q hq
  have hb := fa_T_b q hq
  by_cases hs : q.2.2.1 = 1
  · have hlen : fa_len q.2.2.1 (n + 1) m = m := by rw [hs]; rfl
    have hlen2 : fa_len q.2.2.1 n m = m := by rw [hs]; rfl
    have hr := (show ∀ q ∈ fa_T, q.2.2.1 = 1 → 8 ≤ q.1 ∧ 88 ≤ q.2.1 by decide) q hq hs
    rw [ec _ (by omega) (by omega), fa_addS_ne (by omega)]
    exact hT q hq s s0 (by omega)
  · have hs0 : q.2.2.1 = 0 := by omega
    have hlen : fa_len q.2.2.1 (n + 1) m = n + 1 := by rw [hs0]; rfl
    have hlen2 : fa_len q.2.2.1 n m = n := by rw [hs0]; rfl
    have hr := (show ∀ q ∈ fa_T, q.2.2.1 = 0 → q.1 ≤ 7 ∧ q.2.1 ≤ 76 ∧ ∀ p ∈ ([4, 16, 28, 40, 52, 64, 76] : List Int), p = q.2.1 ∨ p + 12 ≤ q.2.1 ∨ q.2.1 + 12 ≤ p by decide) q hq hs0
    by_cases hsn : s = n
    · subst hsn
      rcases hh with rfl | rfl | rfl | rfl | rfl | rfl | rfl | h1
      · show μ' (a + 1) s = fa_dec 0 (fa_addS N s g p (4 + s))
        rw [g1, k1]; rfl
      · show μ' (a + 2) s = fa_dec 0 (fa_addS N s g p (16 + s))
        rw [g2, k2]; rfl
      · show μ' (a + 3) s = fa_dec 0 (fa_addS N s g p (28 + s))
        rw [g3, k3]; rfl
      · show μ' (a + 4) s = fa_dec 2 (fa_addS N s g p (40 + s))
        rw [g4, k4]; rfl
      · show μ' (a + 5) s = fa_dec 1 (fa_addS N s g p (52 + s))
        rw [g5, k5]; rfl
      · show μ' (a + 6) s = fa_dec 1 (fa_addS N s g p (64 + s))
        rw [g6, k6]; rfl
      · show μ' (a + 7) s = fa_dec 0 (fa_addS N s g p (76 + s))
        rw [g7, k7]; rfl
      · exact absurd h1 hs
    · have p4 := hr.2.2 4 (by decide)
      have p16 := hr.2.2 16 (by decide)
      have p28 := hr.2.2 28 (by decide)
      have p40 := hr.2.2 40 (by decide)
      have p52 := hr.2.2 52 (by decide)
      have p64 := hr.2.2 64 (by decide)
      have p76 := hr.2.2 76 (by decide)
      rw [eo _ (by omega) (by omega) s s0 hsn (by omega) (by omega), fa_addS_ne ⟨by omega, by omega, by omega, by omega, by omega, by omega, by omega⟩]
      exact hT q hq s s0 (by omega)
theorem fa_A_addC {w : Int} (h : fa_A a n m N pol μ) (hm : 0 ≤ m ∧ m < 18) (hn : n ≤ 12) (e1 : μ' a 1 = m + 1) (ef : ∀ k : Int, k ≠ 1 → μ' a k = μ a k) (eo : ∀ r, a + 8 ≤ r → r ≤ a + 12 → ∀ i : Int, 0 ≤ i → i ≠ m → i < 18 → μ' r i = μ r i) (es : ∀ r, a < r → r ≤ a + 7 → μ' r = μ r) (g8 : μ' (a + 8) m = v) (g9 : μ' (a + 9) m = w) (g10 : μ' (a + 10) m = -1) (g11 : μ' (a + 11) m = 0) (g12 : μ' (a + 12) m = 0) : fa_A a n (m + 1) (fa_addC N m v) (fa_up pol m w) μ' := by
  obtain ⟨⟨a0, a1, a2, a3, a4⟩, hT, hp⟩ := h
  obtain ⟨k1, k2, k3, k4⟩ := fa_addC_at (N := N) (v := v) hm
  have n0 : fa_addC N m v 0 = N 0 := fa_addC_ne (by omega)
  have n1 : fa_addC N m v 1 = N 1 := fa_addC_ne (by omega)
  have n2 : fa_addC N m v 2 = N 2 := fa_addC_ne (by omega)
  refine ⟨⟨by rw [ef 0 (by decide)]; exact a0, e1, by rw [ef 2 (by decide), n1]; exact a2, by rw [ef 3 (by decide), n0]; exact a3, by rw [ef 4 (by decide), n2]; exact a4⟩, fun q hq s s0 s1 => ?_, fun c c0 c1 => ?_⟩
  · have hh : q = (8, 88, 1, 0) ∨ q = (10, 106, 1, 1) ∨ q = (11, 124, 1, 0) ∨ q = (12, 142, 1, 0) ∨ q.2.2.1 = 0 := (show ∀ q ∈ fa_T, q = (8, 88, 1, 0) ∨ q = (10, 106, 1, 1) ∨ q = (11, 124, 1, 0) ∨ q = (12, 142, 1, 0) ∨ q.2.2.1 = 0 by decide) q hq
    have hb := fa_T_b q hq
    by_cases hs : q.2.2.1 = 0
    · have hlen : fa_len q.2.2.1 n (m + 1) = n := by rw [hs]; rfl
      have hlen2 : fa_len q.2.2.1 n m = n := by rw [hs]; rfl
      have hr := (show ∀ q ∈ fa_T, q.2.2.1 = 0 → q.1 ≤ 7 ∧ q.2.1 ≤ 76 by decide) q hq hs
      rw [es _ (by omega) (by omega), fa_addC_ne (by omega)]
      exact hT q hq s s0 (by omega)
    · have hs0 : q.2.2.1 = 1 := by omega
      have hlen : fa_len q.2.2.1 n (m + 1) = m + 1 := by rw [hs0]; rfl
      have hlen2 : fa_len q.2.2.1 n m = m := by rw [hs0]; rfl
      have hr := (show ∀ q ∈ fa_T, q.2.2.1 = 1 → 8 ≤ q.1 ∧ ∀ p ∈ ([88, 106, 124, 142] : List Int), p = q.2.1 ∨ p + 18 ≤ q.2.1 ∨ q.2.1 + 18 ≤ p by decide) q hq hs0
      by_cases hsm : s = m
      · subst hsm
        rcases hh with rfl | rfl | rfl | rfl | h1
        · show μ' (a + 8) s = fa_dec 0 (fa_addC N s v (88 + s))
          rw [g8, k1]; rfl
        · show μ' (a + 10) s = fa_dec 1 (fa_addC N s v (106 + s))
          rw [g10, k2]; rfl
        · show μ' (a + 11) s = fa_dec 0 (fa_addC N s v (124 + s))
          rw [g11, k3]; rfl
        · show μ' (a + 12) s = fa_dec 0 (fa_addC N s v (142 + s))
          rw [g12, k4]; rfl
        · exact absurd h1 hs
      · have p88 := hr.2 88 (by decide)
        have p106 := hr.2 106 (by decide)
        have p124 := hr.2 124 (by decide)
        have p142 := hr.2 142 (by decide)
        rw [eo _ (by omega) (by omega) s s0 hsm (by omega), fa_addC_ne ⟨by omega, by omega, by omega, by omega⟩]
        exact hT q hq s s0 (by omega)
  · by_cases hc : c = m
    · rw [hc, fa_up_eq]
      exact g9
    · rw [fa_up_ne hc, eo _ (by omega) (by omega) c c0 hc (by omega)]
      exact hp c c0 (by omega)
theorem fa_I_addS (h : fa_I n m N) (hn : 0 ≤ n ∧ n < 12) (hm : 0 ≤ m ∧ m ≤ 18) (hg : 0 ≤ g ∧ g ≤ 99) (hp : 0 ≤ p ∧ p ≤ 99) : fa_I (n + 1) m (fa_addS N n g p) ∧ (fa_O m N → fa_O m (fa_addS N n g p)) := by
  obtain ⟨k1, k2, k3, k4, k5, k6, k7⟩ := fa_addS_at (N := N) (g := g) (p := p) hn
  obtain ⟨h1, h2, h3⟩ := h
  refine ⟨⟨by rw [fa_addS_ne (by omega)]; exact h1, fun s s0 s1 => ?_, fun c c0 c1 => ?_⟩, fun o c c0 c1 hc => ?_⟩
  · by_cases hs : s = n
    · subst hs
      rw [k1, k2, k4, k5, k6]
      omega
    · rw [fa_addS_ne (i := 4 + s) (by omega), fa_addS_ne (i := 16 + s) (by omega), fa_addS_ne (i := 40 + s) (by omega), fa_addS_ne (i := 52 + s) (by omega), fa_addS_ne (i := 64 + s) (by omega)]
      exact h2 s s0 (by omega)
  · rw [fa_addS_ne (i := 88 + c) (by omega), fa_addS_ne (i := 106 + c) (by omega)]
    have := h3 c c0 c1
    omega
  · have hb := (h3 c c0 c1).2
    rw [fa_addS_ne (i := 106 + c) (by omega)] at hc ⊢
    rw [fa_addS_ne (by omega)]
    exact o c c0 c1 hc
theorem fa_I_addC (h : fa_I n m N) (hm : 0 ≤ m ∧ m < 18) (hn : 0 ≤ n ∧ n ≤ 12) (hv : 0 ≤ v ∧ v ≤ 9999) : fa_I n (m + 1) (fa_addC N m v) ∧ (fa_O m N → fa_O (m + 1) (fa_addC N m v)) := by
  obtain ⟨k1, k2, k3, k4⟩ := fa_addC_at (N := N) (v := v) hm
  obtain ⟨h1, h2, h3⟩ := h
  refine ⟨⟨by rw [fa_addC_ne (by omega)]; exact h1, fun s s0 s1 => ?_, fun c c0 c1 => ?_⟩, fun o c c0 c1 hc => ?_⟩
  · rw [fa_addC_ne (i := 4 + s) (by omega), fa_addC_ne (i := 16 + s) (by omega), fa_addC_ne (i := 40 + s) (by omega), fa_addC_ne (i := 52 + s) (by omega), fa_addC_ne (i := 64 + s) (by omega)]
    have := h2 s s0 s1
    omega
  · by_cases hs : c = m
    · subst hs
      rw [k1, k2]
      omega
    · rw [fa_addC_ne (i := 88 + c) (by omega), fa_addC_ne (i := 106 + c) (by omega)]
      exact h3 c c0 (by omega)
  · by_cases hs : c = m
    · subst hs
      rw [k2] at hc
      exact absurd rfl hc
    · have hb := (h3 c c0 (by omega)).2
      rw [fa_addC_ne (i := 106 + c) (by omega)] at hc ⊢
      rw [fa_addC_ne (by omega)]
      exact o c c0 (by omega) hc
end FK3
def fc_LK : List Nat := [96, 98] ++ (List.range 78).map (fun k => 99 + k)
def fc_LB : List Nat := [2, 3, 4, 5, 6, 7, 8, 9, 10, 11, 12, 13, 14, 15, 96]
theorem fa_fr_cp {L : List Nat} {d s : Nat} {μ μ' : pm_Mem} (h : fa_cp d s 12 μ μ') (hl : (List.range 13).all (fun k => L.contains (d + k)) = true) : fa_fr L μ μ' := fun q hq => h.2.2 q (by
  by_cases hd : d ≤ q ∧ q ≤ d + 12
  · have := List.all_eq_true.mp hl (q - d) (List.mem_range.mpr (by omega))
    have this : L.contains (d + (q - d)) = true := this
    rw [show d + (q - d) = q by omega, hq] at this
    cases this
  · omega)
/-- nothing is kept -/
def fa_K0 (μ : pm_Mem) : Prop := μ 96 3 = 0 ∧ 0 ≤ μ 96 2 ∧ μ 96 2 ≤ 5
theorem fa_K0_p {n m : Int} {pol Q : Int → Int} {μ : pm_Mem} (h : fa_K0 μ) : fa_Kp n m pol Q 0 μ := fa_Kp_0 h.1 h.2
/-- what one does by hand: whether it can be, what it does -/
def fa_mayP (t : fa_Lw) (pol : Int → Int) (n m : Int) (N : Int → Int) (w c v : Int) : Prop := (w = 0 ∧ (0 ≤ c ∧ c < m) ∧ (0 ≤ v ∧ v < n) ∧ N (40 + v) = 0 ∧ N (106 + c) ≠ v + 1) ∨ (w = 1 ∧ (0 ≤ c ∧ c < m) ∧ N (106 + c) ≠ 0) ∨ (w = 2 ∧ fa_pay t pol m c N ≠ -1) ∨ (w = 3 ∧ (0 ≤ c ∧ c < n) ∧ 0 ≤ v ∧ v ≤ 99)
def fa_acts (t : fa_Lw) (pol : Int → Int) (m : Int) (w c v : Int) (S : fa_St) : fa_St := if w = 0 then (fa_up S.1 (106 + c) (v + 1), S.2) else if w = 1 then (fa_up S.1 (106 + c) 0, S.2) else if w = 2 then fa_bought false c (S.1 (106 + c) - 1) (fa_costs t S.1 pol m c (S.1 (106 + c) - 1)) S else (fa_up S.1 (4 + c) v, S.2)
section FAC
variable {t : fa_Lw} {pol N B : Int → Int} {n m w c v : Int}
theorem fa_acts_0 : fa_acts t pol m 0 c v (N, B) = (fa_up N (106 + c) (v + 1), B) := if_pos rfl
theorem fa_acts_1 : fa_acts t pol m 1 c v (N, B) = (fa_up N (106 + c) 0, B) := (if_neg (by decide)).trans (if_pos rfl)
theorem fa_acts_2 : fa_acts t pol m 2 c v (N, B) = fa_bought false c (N (106 + c) - 1) (fa_costs t N pol m c (N (106 + c) - 1)) (N, B) := (if_neg (by decide)).trans ((if_neg (by decide)).trans (if_pos rfl))
theorem fa_acts_3 : fa_acts t pol m 3 c v (N, B) = (fa_up N (4 + c) v, B) := (if_neg (by decide)).trans ((if_neg (by decide)).trans (if_neg (by decide)))
theorem fa_K_acts (hq : n ≤ 12 ∧ m ≤ 18) (hn : 0 ≤ n) (h : fa_mayP t pol n m N w c v) : fa_K n m N (fa_acts t pol m w c v (N, B)).1 := by
  rcases h with ⟨rfl, h1, h2, h3, h4⟩ | ⟨rfl, h1, h2⟩ | ⟨rfl, h1⟩ | ⟨rfl, h1, h2⟩
  · rw [fa_acts_0]
    exact fa_K_in hq h1 ⟨by omega, by omega⟩ (Or.inr (by rw [show v + 1 - 1 = v by omega]; exact h3))
  · rw [fa_acts_1]
    exact fa_K_in hq h1 ⟨by omega, by omega⟩ (Or.inl rfl)
  · rw [fa_acts_2]
    obtain ⟨⟨k1, k2, k3, k4, k5⟩, -⟩ := fa_pay_e h1
    intro hI
    have hb := (fa_I_c hI k1.1 k1.2).2
    have hg := (fa_I_s hI (s := N (106 + c) - 1) (by omega) (by omega)).1
    exact fa_K_bought hq k1 ⟨by omega, by omega⟩ (by omega) ⟨fa_costs_0.1, k5⟩ hI
  · rw [fa_acts_3]
    exact fa_K_u hq (by omega) (fun _ => fa_Iv_4 ⟨by omega, by omega⟩ h2)
end FAC
/-- hours on end: the row and the book, what is kept, how many -/
abbrev fa_Z : Type := fa_St × (Int → Int) × Int
def fa_its (t : fa_Lw) (R D pol : Int → Int) (rn dn n m : Int) : Nat → fa_Z → fa_Z
  | 0, z => z
  | k + 1, z => (fun y : fa_Z => (fa_hour false t R D pol rn dn n m y.1, fa_kQ y.2.1 y.2.2 y.1.1, fa_ku y.2.2)) (fa_its t R D pol rn dn n m k z)
def fa_sum (t : fa_Lw) (R D pol : Int → Int) (rn dn n m : Int) : Nat → fa_Z → Int
  | 0, _ => 0
  | k + 1, z => fa_sum t R D pol rn dn n m k z + fa_many false t R D pol rn dn n m (fa_its t R D pol rn dn n m k z).1
/-- hours in thought -/
def fa_tho (t : fa_Lw) (R D pol : Int → Int) (rn dn n m : Int) : Nat → fa_St → fa_St
  | 0, S => S
  | k + 1, S => fa_hour true t R D pol rn dn n m (fa_tho t R D pol rn dn n m k S)
theorem fa_its_s {t : fa_Lw} {R D pol : Int → Int} {rn dn n m : Int} {k : Nat} {z : fa_Z} : fa_its t R D pol rn dn n m (k + 1) z = (fa_hour false t R D pol rn dn n m (fa_its t R D pol rn dn n m k z).1, fa_kQ (fa_its t R D pol rn dn n m k z).2.1 (fa_its t R D pol rn dn n m k z).2.2 (fa_its t R D pol rn dn n m k z).1.1, fa_ku (fa_its t R D pol rn dn n m k z).2.2) := rfl
theorem fa_sum_s {t : fa_Lw} {R D pol : Int → Int} {rn dn n m : Int} {k : Nat} {z : fa_Z} : fa_sum t R D pol rn dn n m (k + 1) z = fa_sum t R D pol rn dn n m k z + fa_many false t R D pol rn dn n m (fa_its t R D pol rn dn n m k z).1 := rfl
theorem fa_tho_s {t : fa_Lw} {R D pol : Int → Int} {rn dn n m : Int} {k : Nat} {S : fa_St} : fa_tho t R D pol rn dn n m (k + 1) S = fa_hour true t R D pol rn dn n m (fa_tho t R D pol rn dn n m k S) := rfl
def fa_dom (rn dn n m : Int) (R D : Int → Int) : Prop := (0 ≤ n ∧ n ≤ 12) ∧ (0 ≤ m ∧ m ≤ 18) ∧ (0 ≤ rn ∧ rn ≤ 16) ∧ (0 ≤ dn ∧ dn ≤ 16) ∧ fa_rks n m rn R ∧ fa_dks n m dn D
theorem fa_X_dom {ls : List (Int × List zIw × List zIw)} {n m rn dn : Int} {R D : Int → Int} {μ : pm_Mem} (h : fa_X ls n m rn dn R D μ) (hn : 0 ≤ n ∧ n ≤ 12) (hm : 0 ≤ m ∧ m ≤ 18) : fa_dom rn dn n m R D := ⟨hn, hm, h.2.1.2.1, h.2.2.2.1, h.2.1.2.2.2, h.2.2.2.2.2⟩
theorem fa_I_its {t : fa_Lw} {R D pol : Int → Int} {rn dn n m : Int} (hd : fa_dom rn dn n m R D) : ∀ (k : Nat) {z : fa_Z}, fa_I n m z.1.1 → fa_O m z.1.1 → fa_I n m (fa_its t R D pol rn dn n m k z).1.1 ∧ fa_O m (fa_its t R D pol rn dn n m k z).1.1
  | 0, _, h, o => ⟨h, o⟩
  | k + 1, z, h, o => by
    obtain ⟨a, b⟩ := fa_I_its (t := t) (pol := pol) hd k h o
    rw [fa_its_s]
    exact fa_I_hour ⟨hd.1.2, hd.2.1.2⟩ hd.1.1 hd.2.1.1 hd.2.2.1.1 hd.2.2.2.1.1 hd.2.2.2.2.1 hd.2.2.2.2.2 a b
theorem fa_I_tho {t : fa_Lw} {R D pol : Int → Int} {rn dn n m : Int} (hd : fa_dom rn dn n m R D) : ∀ (k : Nat) {S : fa_St}, fa_I n m S.1 → fa_O m S.1 → fa_I n m (fa_tho t R D pol rn dn n m k S).1 ∧ fa_O m (fa_tho t R D pol rn dn n m k S).1
  | 0, _, h, o => ⟨h, o⟩
  | k + 1, S, h, o => by
    obtain ⟨a, b⟩ := fa_I_tho (t := t) (pol := pol) hd k h o
    rw [fa_tho_s]
    exact fa_I_hour ⟨hd.1.2, hd.2.1.2⟩ hd.1.1 hd.2.1.1 hd.2.2.1.1 hd.2.2.2.1.1 hd.2.2.2.2.1 hd.2.2.2.2.2 a b
