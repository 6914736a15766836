/-! F: HOURS, UNDO, GOES, the image: the class's turn, then the reference's -/
section
variable {μ μ1 μ2 : pm_Mem}
theorem fz_dom (hW : fz_W μ) {ls : List (Int × List zIw × List zIw)} (hX : fa_X ls (μ 205 6) (μ 205 7) (μ 205 33) (μ 205 35) (μ 221) (μ 222) μ) : fa_dom (μ 205 33) (μ 205 35) (μ 205 6) (μ 205 7) (μ 221) (μ 222) := fa_X_dom hX hW.2.2.2.1.1 hW.2.2.2.1.2
/-- HOURS -/
theorem zRF_hours {k x y : Int} {ls : List (Int × List zIw × List zIw)} (hR : zRF μ) (hX : fa_X ls (μ 205 6) (μ 205 7) (μ 205 33) (μ 205 35) (μ 221) (μ 222) μ)
    (h : (((1 ≤ k ∧ k ≤ 60) ∧ pm_w32 (μ 206 0 + Int.tdiv (μ 206 1 + k) 12) ≤ 9990) ∧ x = fa_sum (fr_law ls) (μ 221) (μ 222) (μ 209) (μ 205 33) (μ 205 35) (μ 205 6) (μ 205 7) k.toNat ((μ 206, μ 210), μ 207, μ 205 3) ∧ fa_C false 3 (μ 205 6) (μ 205 7) (fa_its (fr_law ls) (μ 221) (μ 222) (μ 209) (μ 205 33) (μ 205 35) (μ 205 6) (μ 205 7) k.toNat ((μ 206, μ 210), μ 207, μ 205 3)).1 (μ 209) μ1 ∧ fa_Kp (μ 205 6) (μ 205 7) (μ 209) (fa_its (fr_law ls) (μ 221) (μ 222) (μ 209) (μ 205 33) (μ 205 35) (μ 205 6) (μ 205 7) k.toNat ((μ 206, μ 210), μ 207, μ 205 3)).2.1 (fa_its (fr_law ls) (μ 221) (μ 222) (μ 209) (μ 205 33) (μ 205 35) (μ 205 6) (μ 205 7) k.toNat ((μ 206, μ 210), μ 207, μ 205 3)).2.2 μ1 ∧ fa_fr fm_LA μ μ1) ∨ (¬ ((1 ≤ k ∧ k ≤ 60) ∧ pm_w32 (μ 206 0 + Int.tdiv (μ 206 1 + k) 12) ≤ 9990) ∧ x = -1 ∧ μ1 = μ))
    (hr : (((1 ≤ k ∧ k ≤ 60) ∧ pm_w32 (μ1 206 0 + Int.tdiv (μ1 206 1 + k) 12) ≤ 9990) ∧ y = fa_sum (fr_law ls) (μ1 221) (μ1 222) (μ1 209) (μ1 205 33) (μ1 205 35) (μ1 205 6) (μ1 205 7) k.toNat ((μ1 206, μ1 210), μ1 207, μ1 205 3) ∧ ((μ2 206, μ2 210), μ2 207, μ2 205 3) = fa_its (fr_law ls) (μ1 221) (μ1 222) (μ1 209) (μ1 205 33) (μ1 205 35) (μ1 205 6) (μ1 205 7) k.toNat ((μ1 206, μ1 210), μ1 207, μ1 205 3) ∧ (∀ j : Int, j ≠ 0 → j ≠ 3 → μ2 205 j = μ1 205 j) ∧ (∀ r, r ≠ 205 → r ≠ 206 → r ≠ 207 → r ≠ 210 → r ≠ 224 → r ≠ 225 → μ2 r = μ1 r)) ∨ (¬ ((1 ≤ k ∧ k ≤ 60) ∧ pm_w32 (μ1 206 0 + Int.tdiv (μ1 206 1 + k) 12) ≤ 9990) ∧ y = -1 ∧ (∀ j : Int, j ≠ 0 → μ2 205 j = μ1 205 j) ∧ ∀ r, r ≠ 205 → μ2 r = μ1 r)) : zRF μ2 ∧ x = y := by
  have hW := hR.2.2.1
  have hq := hW.2.2.2.1
  rcases h with ⟨o1, o2, hC, hK, hF⟩ | ⟨o1, o2, o3⟩
  · have a := fm_out hF (by decide)
    have u := fm_up205 a
    rw [u 205 (by decide), u 206 (by decide), u 207 (by decide), u 209 (by decide), u 210 (by decide), u 221 (by decide), u 222 (by decide)] at hr
    rcases hr with ⟨-, p2, nS, b, c⟩ | ⟨p1, -⟩
    · have e6 : μ2 205 6 = μ 205 6 := b 6 (by decide) (by decide)
      have e7 : μ2 205 7 = μ 205 7 := b 7 (by decide) (by decide)
      have e9 : μ2 209 = μ 209 := by rw [c 209 (by decide) (by decide) (by decide) (by decide) (by decide) (by decide), u 209 (by decide)]
      have hIO := fa_I_its (t := fr_law ls) (pol := μ 209) (fz_dom hW hX) k.toNat (z := ((μ 206, μ 210), μ 207, μ 205 3)) hW.2.1 hW.2.2.1
      rw [← nS] at hC hK hIO
      refine ⟨zRF_case hR a (fun r r5 r6 r7 _ _ r10 r24 r25 => c r r5 r6 r7 r10 r24 r25) (fun j j0 j3 _ _ => by rw [b j j0 j3, u 205 (by decide)]) ⟨by omega, by omega⟩ ⟨by omega, by omega⟩ ?_ ?_ ?_ ?_, by rw [o2, p2]⟩
      · rw [e6, e7, e9]; exact hC
      · rw [e6, e7]; exact hIO.1
      · rw [e7]; exact hIO.2
      · rw [e6, e7, e9]; exact hK
    · exact absurd o1 p1
  · subst o3
    rcases hr with ⟨p1, -⟩ | ⟨-, p2, b, c⟩
    · exact absurd p1 o1
    · exact ⟨zRF_told hR b (fun r r5 _ _ _ _ => c r r5), by omega⟩
/-- UNDO -/
theorem zRF_undo {x y : Int} (hR : zRF μ)
    (h : (μ 205 3 = 0 ∧ x = 0 ∧ μ1 = μ) ∨ (μ 205 3 ≠ 0 ∧ x = 1 ∧ fa_A 3 (μ 205 6) (μ 205 7) (fa_row (μ 207) (μ 205 3 - 1)) (μ 209) μ1 ∧ μ1 2 2 = fa_row (μ 207) (μ 205 3 - 1) 3 ∧ fa_Kp (μ 205 6) (μ 205 7) (μ 209) (μ 207) (μ 205 3 - 1) μ1 ∧ fa_I (μ 205 6) (μ 205 7) (fa_row (μ 207) (μ 205 3 - 1)) ∧ fa_O (μ 205 7) (fa_row (μ 207) (μ 205 3 - 1)) ∧ fa_fr fc_LB μ μ1))
    (hr : (μ1 205 3 = 0 ∧ y = 0 ∧ (∀ k : Int, k ≠ 0 → μ2 205 k = μ1 205 k) ∧ ∀ r, r ≠ 205 → μ2 r = μ1 r) ∨ (μ1 205 3 ≠ 0 ∧ y = 1 ∧ (∀ i : Int, 0 ≤ i → i < 160 → μ2 206 i = fa_row (μ1 207) (μ1 205 3 - 1) i) ∧ μ2 205 3 = μ1 205 3 - 1 ∧ (∀ k : Int, k ≠ 0 → k ≠ 3 → μ2 205 k = μ1 205 k) ∧ ∀ r, r ≠ 205 → r ≠ 206 → μ2 r = μ1 r)) : zRF μ2 ∧ x = y := by
  have hW := hR.2.2.1
  have hq := hW.2.2.2.1
  rcases h with ⟨o1, o2, o3⟩ | ⟨o1, o2, hA, hb, hK, hI, hO, hF⟩
  · subst o3
    rcases hr with ⟨-, p2, b, c⟩ | ⟨p1, -⟩
    · exact ⟨zRF_told hR b (fun r r5 _ _ _ _ => c r r5), by omega⟩
    · exact absurd o1 p1
  · have a := fm_out hF (by decide)
    have u := fm_up205 a
    rw [u 205 (by decide), u 207 (by decide)] at hr
    rcases hr with ⟨p1, -⟩ | ⟨-, p2, n6, c3, b, c⟩
    · exact absurd p1 o1
    · have e6 : μ2 205 6 = μ 205 6 := b 6 (by decide) (by decide)
      have e7 : μ2 205 7 = μ 205 7 := b 7 (by decide) (by decide)
      have e9 : μ2 209 = μ 209 := by rw [c 209 (by decide) (by decide), u 209 (by decide)]
      have e10 : μ2 210 = μ 210 := by rw [c 210 (by decide) (by decide), u 210 (by decide)]
      have e27 : μ2 207 = μ 207 := by rw [c 207 (by decide) (by decide), u 207 (by decide)]
      have hnm : μ 205 6 ≤ 12 ∧ μ 205 7 ≤ 18 := ⟨hq.1.2, hq.2.2⟩
      refine ⟨zRF_case hR a (fun r r5 r6 _ _ _ _ _ _ => c r r5 r6) (fun j j0 j3 _ _ => by rw [b j j0 j3, u 205 (by decide)]) ⟨by omega, by omega⟩ ⟨by omega, by omega⟩ ?_ ?_ ?_ ?_, by omega⟩
      · rw [e6, e7, e9, e10]
        refine ⟨fa_A_n hA (n6 0 (by decide) (by decide)) (n6 1 (by decide) (by decide)) (n6 2 (by decide) (by decide)) (fun i i0 i1 => n6 i (by omega) i1) hnm, fun _ => ⟨?_, fun i i0 i1 => ?_⟩⟩
        · show μ1 2 2 = μ2 206 3
          rw [n6 3 (by decide) (by decide)]
          exact hb
        · show μ1 16 i = μ 210 i
          rw [hF 16 (by decide)]
          exact (hW.1.2 rfl).2 i i0 i1
      · rw [e6, e7]; exact fa_I_cg hnm n6 hI
      · rw [e7]; exact fa_O_cg hnm hI n6 hO
      · rw [e6, e7, e9, e27, c3]; exact hK
/-- GOES: the reference's turn -/
theorem zRF_goes (hR : zRF μ1) (n6 : ∀ i : Int, 0 ≤ i → i < 160 → μ2 206 i = μ1 206 i) (b : ∀ k : Int, k ≠ 0 → μ2 205 k = μ1 205 k) (c : ∀ r, r ≠ 205 → r ≠ 206 → r ≠ 208 → r ≠ 224 → r ≠ 225 → μ2 r = μ1 r) : zRF μ2 := by
  have hR0 := hR
  obtain ⟨h1, h2, hW, hK, h3, h5⟩ := hR
  have hf : zRFr μ1 μ2 := ⟨fun r _ _ _ _ _ r6 r7 _ r9 _ _ r12 r13 => c r r6 r7 r9 r12 r13, fun k k0 _ _ _ => b k k0⟩
  have hG : fz_G μ1 μ2 := fun q hq i i0 i1 => by
    have hb := (show ∀ q ∈ fz_P, q.1 ≠ 224 ∧ q.1 ≠ 225 ∧ q.1 ≠ 208 ∧ (q.1 = 205 → 6 ≤ q.2.1) ∧ (q.1 = 206 → q.2.2 ≤ 160) by decide) q hq
    by_cases h9 : q.1 = 205
    · have := hb.2.2.2.1 h9
      rw [h9]
      exact b i (by omega)
    · by_cases h8 : q.1 = 206
      · have := hb.2.2.2.2 h8
        rw [h8]
        exact n6 i (by omega) (by omega)
      · rw [c q.1 h9 h8 hb.2.2.1 hb.1 hb.2.1]
  refine zRF_of hR0 hf (by rw [b 6 (by decide)]; exact Int.le_refl _) (fz_W_cg hG hW) ?_
  unfold fz_K
  rw [b 6 (by decide), b 7 (by decide), b 3 (by decide), c 209 (by decide) (by decide) (by decide) (by decide) (by decide), c 207 (by decide) (by decide) (by decide) (by decide) (by decide)]
  exact fa_Kp_fr hK (c 96 (by decide) (by decide) (by decide) (by decide) (by decide)) (c 98 (by decide) (by decide) (by decide) (by decide) (by decide)) (fun r _ _ => c r (by omega) (by omega) (by omega) (by omega) (by omega))
end
/-! the class's world copied -/
def fz_Q : List (Nat × Nat × Nat) := [(2, 2, 3), (3, 0, 5), (4, 0, 12), (5, 0, 12), (6, 0, 12), (7, 0, 12), (8, 0, 12), (9, 0, 12), (10, 0, 12), (11, 0, 18), (12, 0, 18), (13, 0, 18), (14, 0, 18), (15, 0, 18), (16, 0, 750), (17, 2, 3), (18, 0, 64), (19, 0, 400), (20, 2, 3), (21, 0, 64), (23, 2, 3), (24, 0, 64), (26, 2, 3), (27, 0, 64), (33, 1, 2), (35, 1, 2)]
/-- so much of the world at s stands at d -/
def fz_cc (d s : Nat) (L : List (Nat × Nat × Nat)) (μ0 μ : pm_Mem) : Prop := (∀ q ∈ L, ∀ i : Int, (q.2.1 : Int) ≤ i → i < (q.2.2 : Int) → μ (q.1 + d) i = μ0 (q.1 + s) i) ∧ ∀ r, r < d + 2 ∨ d + 44 < r → μ r = μ0 r
theorem fz_cc_0 {d s : Nat} {μ : pm_Mem} : fz_cc d s [] μ μ := ⟨fun q hq => absurd hq (List.not_mem_nil), fun _ _ => rfl⟩
theorem fz_cc_s {d s : Nat} {L L' : List (Nat × Nat × Nat)} {μ0 μ μ' : pm_Mem} {lo hi : Nat} (h : fz_cc d s L μ0 μ) (hf : ∀ r, r < lo + d ∨ hi + d < r → μ' r = μ r) (hb : 2 ≤ lo ∧ hi ≤ 44) (hL : L.all (fun q => Nat.blt q.1 lo || Nat.blt hi q.1) = true) (hL2 : L'.all (fun q => Nat.ble 2 q.1 && Nat.ble q.1 44) = true) (hds : s + 44 < d + 2 ∨ d + 44 < s + 2) (hn : ∀ q ∈ L', ∀ i : Int, (q.2.1 : Int) ≤ i → i < (q.2.2 : Int) → μ' (q.1 + d) i = μ (q.1 + s) i) : fz_cc d s (L ++ L') μ0 μ' := by
  obtain ⟨a, b⟩ := h
  refine ⟨fun q hq i i0 i1 => ?_, fun r hr => (hf r (by omega)).trans (b r hr)⟩
  rcases List.mem_append.mp hq with h1 | h1
  · have := List.all_eq_true.mp hL q h1
    simp only [Bool.or_eq_true, Nat.blt_eq] at this
    rw [hf (q.1 + d) (by omega)]
    exact a q h1 i i0 i1
  · have := List.all_eq_true.mp hL2 q h1
    simp only [Bool.and_eq_true, Nat.ble_eq] at this
    rw [hn q h1 i i0 i1, b (q.1 + s) (by omega)]
def fz_LA : List (Nat × Nat × Nat) := [(3, 0, 5), (4, 0, 12), (5, 0, 12), (6, 0, 12), (7, 0, 12), (8, 0, 12), (9, 0, 12), (10, 0, 12), (11, 0, 18), (12, 0, 18), (13, 0, 18), (14, 0, 18), (15, 0, 18)]
theorem fz_cp_A {d s : Nat} {μ μ' : pm_Mem} (h : fa_cp (3 + d) (3 + s) 12 μ μ') : ∀ q ∈ fz_LA, ∀ i : Int, (q.2.1 : Int) ≤ i → i < (q.2.2 : Int) → μ' (q.1 + d) i = μ (q.1 + s) i := fun q hq i i0 i1 => by
  rcases (show ∀ q ∈ fz_LA, q = (3, 0, 5) ∨ (4 ≤ q.1 ∧ q.1 ≤ 15 ∧ ((q.2.2 : Nat) : Int) = fa_wd (q.1 - 3)) by decide) q hq with h1 | ⟨h1, h2, h3⟩
  · subst h1
    exact h.1 i i0 i1
  · have h9 := h.2.1 (q.1 - 3) (by omega) (by omega) i (by omega) (by omega)
    rw [show 3 + d + (q.1 - 3) = q.1 + d by omega, show 3 + s + (q.1 - 3) = q.1 + s by omega] at h9
    exact h9
section
variable {d s : Nat} {L : List (Nat × Nat × Nat)} {μ0 μ μ' : pm_Mem}
theorem fz_cc_a (h : fa_cp (3 + d) (3 + s) 12 μ μ') (hds : s + 44 < d + 2 ∨ d + 44 < s + 2) : fz_cc d s fz_LA μ μ' := by
  have h9 := fz_cc_s (d := d) (s := s) (L := []) (L' := fz_LA) (lo := 3) (hi := 15) (μ0 := μ) (μ := μ) (μ' := μ') fz_cc_0 (fun r hr => h.2.2 r (by omega)) ⟨by decide, by decide⟩ rfl (by decide) hds (fz_cp_A h)
  exact h9
theorem fz_cc_b (h : fz_cc d s L μ0 μ) (e : μ' = pm_cpy μ (16 + d) (16 + s) 750) (hL : L.all (fun q => Nat.blt q.1 16 || Nat.blt 16 q.1) = true) (hds : s + 44 < d + 2 ∨ d + 44 < s + 2) : fz_cc d s (L ++ [(16, 0, 750)]) μ0 μ' := fz_cc_s (lo := 16) (hi := 16) h (fun r hr => by rw [e, pm_cpy_row (by omega)]) ⟨by decide, by decide⟩ hL (by decide) hds (fun q hq i i0 i1 => by
  have hq9 : q = (16, 0, 750) := by simpa using hq
  subst hq9
  show μ' (16 + d) i = μ (16 + s) i
  have a0 : (0 : Int) ≤ i := i0
  have a1 : i < (750 : Int) := i1
  rw [e, pm_cpy_at a0 a1])
theorem fz_cc_f (h : fz_cc d s L μ0 μ) (e : μ' = pm_up μ (2 + d) 2 (μ (2 + s) 2)) (hL : L.all (fun q => Nat.blt q.1 2 || Nat.blt 2 q.1) = true) (hds : s + 44 < d + 2 ∨ d + 44 < s + 2) : fz_cc d s (L ++ [(2, 2, 3)]) μ0 μ' := fz_cc_s (lo := 2) (hi := 2) h (fun r hr => by rw [e, pm_up_row (by omega)]) ⟨by decide, by decide⟩ hL (by decide) hds (fun q hq i i0 i1 => by
  have hq9 : q = (2, 2, 3) := by simpa using hq
  subst hq9
  have hi : i = 2 := by
    have a : ((2 : Nat) : Int) ≤ i := i0
    have b : i < ((3 : Nat) : Int) := i1
    omega
  subst hi
  show μ' (2 + d) 2 = μ (2 + s) 2
  rw [e, pm_up_eq])
theorem fz_cc_t {r : Nat} (h : fz_cc d s L μ0 μ) (q1 : ∀ q, q ≠ r + d → q ≠ r + 1 + d → q ≠ r + 2 + d → μ' q = μ q) (q2 : ∀ i : Int, 0 ≤ i → i < 64 → μ' (r + 1 + d) i = μ (r + 1 + s) i) (q3 : ∀ i : Int, 0 ≤ i → i < 400 → μ' (r + 2 + d) i = μ (r + 2 + s) i) (q4 : μ' (r + d) 2 = μ (r + s) 2) (hr : 2 ≤ r ∧ r + 2 ≤ 44) (hL : L.all (fun q => Nat.blt q.1 r || Nat.blt (r + 2) q.1) = true) (hds : s + 44 < d + 2 ∨ d + 44 < s + 2) : fz_cc d s (L ++ [(r, 2, 3), (r + 1, 0, 64), (r + 2, 0, 400)]) μ0 μ' := fz_cc_s (lo := r) (hi := r + 2) h (fun q hq => q1 q (by omega) (by omega) (by omega)) ⟨hr.1, hr.2⟩ hL (by
  simp only [List.all_cons, List.all_nil, Bool.and_eq_true, Nat.ble_eq, and_true]
  omega) hds (fun q hq i i0 i1 => by
  have hq9 : q = (r, 2, 3) ∨ q = (r + 1, 0, 64) ∨ q = (r + 2, 0, 400) := by simpa using hq
  rcases hq9 with hq9 | hq9 | hq9
  · subst hq9
    have hi : i = 2 := by
      have a : ((2 : Nat) : Int) ≤ i := i0
      have b : i < ((3 : Nat) : Int) := i1
      omega
    subst hi
    exact q4
  · subst hq9
    exact q2 i i0 i1
  · subst hq9
    exact q3 i i0 i1)
theorem fz_cc_r {r : Nat} (h : fz_cc d s L μ0 μ) (q1 : ∀ q, q ≠ r + d → q ≠ r + 1 + d → μ' q = μ q) (q4 : μ' (r + d) 1 = μ (r + s) 1) (hr : 2 ≤ r ∧ r + 1 ≤ 44) (hL : L.all (fun q => Nat.blt q.1 r || Nat.blt (r + 1) q.1) = true) (hds : s + 44 < d + 2 ∨ d + 44 < s + 2) : fz_cc d s (L ++ [(r, 1, 2)]) μ0 μ' := fz_cc_s (lo := r) (hi := r + 1) h (fun q hq => q1 q (by omega) (by omega)) ⟨hr.1, hr.2⟩ hL (by
  simp only [List.all_cons, List.all_nil, Bool.and_eq_true, Nat.ble_eq, and_true]
  omega) hds (fun q hq i i0 i1 => by
  have hq9 : q = (r, 1, 2) := by simpa using hq
  subst hq9
  have hi : i = 1 := by
    have a : ((1 : Nat) : Int) ≤ i := i0
    have b : i < ((2 : Nat) : Int) := i1
    omega
  subst hi
  exact q4)
theorem fz_cc_w {L2 : List (Nat × Nat × Nat)} (h : fz_cc d s L μ0 μ) (hs : ∀ q ∈ L2, q ∈ L) : fz_cc d s L2 μ0 μ := ⟨fun q hq => h.1 q (hs q hq), h.2⟩
end
/-- what the class's image does -/
def fi_C (b : Int) (μ : pm_Mem) (x : Int) (μ' : pm_Mem) : Prop :=
  (b ≠ 0 → x = 1 ∧ μ' 1 2 = 1 ∧ (∀ q ∈ fz_Q, ∀ i : Int, (q.2.1 : Int) ≤ i → i < (q.2.2 : Int) → μ' (q.1 + 43) i = μ (q.1 + 0) i) ∧ (∀ r, r ≠ 1 → r < 45 ∨ 87 < r → μ' r = μ r)) ∧
  (b = 0 → μ 1 2 = 0 → x = 0 ∧ μ' = μ) ∧
  (b = 0 → μ 1 2 ≠ 0 → x = 1 ∧ (∀ q ∈ fz_Q, ∀ i : Int, (q.2.1 : Int) ≤ i → i < (q.2.2 : Int) → μ' (q.1 + 0) i = μ (q.1 + 43) i) ∧ fa_K0 μ' ∧ ∀ r, r ≠ 96 → r < 2 ∨ 44 < r → μ' r = μ r)
theorem fi_C_t {b : Int} {μ μ1 μ' : pm_Mem} (hb : b ≠ 0) (h : fz_cc 43 0 fz_Q μ μ1) (e : μ' = pm_up μ1 1 2 1) : fi_C b μ 1 μ' := by
  refine ⟨fun _ => ⟨rfl, by rw [e, pm_up_eq], fun q hq i i0 i1 => ?_, fun r r1 r2 => ?_⟩, fun h9 => absurd h9 hb, fun h9 => absurd h9 hb⟩
  · rw [e, pm_up_off (by omega)]
    exact h.1 q hq i i0 i1
  · rw [e, pm_up_row r1]
    exact h.2 r (by omega)
theorem fi_C_n {b : Int} {μ : pm_Mem} (hb : b = 0) (h : μ 1 2 = 0) : fi_C b μ 0 μ := ⟨fun h9 => absurd hb h9, fun _ _ => ⟨rfl, rfl⟩, fun _ h9 => absurd h h9⟩
theorem fi_C_b {b : Int} {μ μ1 μ' : pm_Mem} (hb : b = 0) (h0 : μ 1 2 ≠ 0) (h : fz_cc 0 43 fz_Q μ μ1) (hk : fa_K0 μ') (e : ∀ r, r ≠ 96 → μ' r = μ1 r) : fi_C b μ 1 μ' := by
  refine ⟨fun h9 => absurd hb h9, fun _ h9 => absurd h9 h0, fun _ _ => ⟨rfl, fun q hq i i0 i1 => ?_, hk, fun r r1 r2 => ?_⟩⟩
  · have := (show ∀ q ∈ fz_Q, q.1 ≤ 44 by decide) q hq
    rw [e (q.1 + 0) (by omega)]
    exact h.1 q hq i i0 i1
  · rw [e r r1]
    exact h.2 r (by omega)
