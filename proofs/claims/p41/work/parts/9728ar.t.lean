/-! F: both worlds alike, now and in the image -/
theorem fa_A_tr {d s : Nat} {n m : Int} {N N' pol pol' : Int → Int} {μ0 μ : pm_Mem} (hq : n ≤ 12 ∧ m ≤ 18) (a : ∀ k : Int, 0 ≤ k → k < 5 → μ d k = μ0 s k) (b : ∀ q : Nat, 1 ≤ q → q ≤ 12 → ∀ i : Int, 0 ≤ i → i < fa_wd q → μ (d + q) i = μ0 (s + q) i) (eN : ∀ i : Int, 0 ≤ i → i < 160 → N' i = N i) (ep : ∀ i : Int, 0 ≤ i → i < 18 → pol' i = pol i) (hA : fa_A s n m N pol μ0) : fa_A d n m N' pol' μ := by
  have h1 : fa_A d n m N pol' μ := by
    obtain ⟨⟨a0, a1, a2, a3, a4⟩, hT, hp⟩ := hA
    refine ⟨⟨?_, ?_, ?_, ?_, ?_⟩, fun q hq' i i0 i1 => ?_, fun c c0 c1 => ?_⟩
    · rw [a 0 (by decide) (by decide)]; exact a0
    · rw [a 1 (by decide) (by decide)]; exact a1
    · rw [a 2 (by decide) (by decide)]; exact a2
    · rw [a 3 (by decide) (by decide)]; exact a3
    · rw [a 4 (by decide) (by decide)]; exact a4
    · have hb := fa_T_b q hq'
      have hl := fa_len_b (k := q.2.2.1) hq
      have hw := (show ∀ q ∈ fa_T, (if q.2.2.1 = 0 then (12 : Int) else 18) = fa_wd q.1 by decide) q hq'
      rw [b q.1 (by omega) (by omega) i i0 (by rw [← hw]; have : fa_len q.2.2.1 n m ≤ if q.2.2.1 = 0 then 12 else 18 := hl; omega)]
      exact hT q hq' i i0 i1
    · rw [b 9 (by decide) (by decide) c c0 (by show c < (18 : Int); omega), ep c c0 (by omega)]
      exact hp c c0 c1
  exact fa_A_n h1 (eN 0 (by decide) (by decide)) (eN 1 (by decide) (by decide)) (eN 2 (by decide) (by decide)) (fun i i0 i1 => eN i (by omega) i1) hq
/-- what the two worlds hold, and where -/
def fz_P : List (Nat × Nat × Nat) := [(2, 2, 3), (3, 0, 5), (4, 0, 12), (5, 0, 12), (6, 0, 12), (7, 0, 12), (8, 0, 12), (9, 0, 12), (10, 0, 12), (11, 0, 18), (12, 0, 18), (13, 0, 18), (14, 0, 18), (15, 0, 18), (16, 0, 750), (17, 2, 3), (18, 0, 64), (19, 0, 400), (20, 2, 3), (21, 0, 64), (23, 2, 3), (24, 0, 64), (26, 2, 3), (205, 6, 8), (205, 33, 34), (205, 35, 36), (205, 37, 38), (206, 0, 160), (209, 0, 18), (210, 0, 750), (213, 0, 1), (214, 0, 16), (215, 0, 16), (216, 0, 16), (217, 0, 16), (218, 0, 400), (219, 0, 400), (221, 0, 48), (222, 0, 64)]
def fz_G (μ μ' : pm_Mem) : Prop := ∀ q ∈ fz_P, ∀ i : Int, (q.2.1 : Int) ≤ i → i < (q.2.2 : Int) → μ' q.1 i = μ q.1 i
theorem fz_at {μ μ' : pm_Mem} (h : fz_G μ μ') (r lo hi : Nat) (hm : (r, lo, hi) ∈ fz_P) {i : Int} (h0 : (lo : Int) ≤ i) (h1 : i < (hi : Int)) : μ' r i = μ r i := h (r, lo, hi) hm i h0 h1
theorem fz_G_fr {μ μ' : pm_Mem} (h : ∀ r, (2 ≤ r ∧ r ≤ 26) ∨ (205 ≤ r ∧ r ≤ 222) → μ' r = μ r) : fz_G μ μ' := fun q hq i _ _ => by
  rw [h q.1 ((show ∀ q ∈ fz_P, (2 ≤ q.1 ∧ q.1 ≤ 26) ∨ (205 ≤ q.1 ∧ q.1 ≤ 222) by decide) q hq)]
/-- where the lines of THE LAW lie -/
def fz_lb (μ : pm_Mem) : Prop := (μ 213 0 ≤ 16 ∧ ∀ k : Int, 0 ≤ k → k < 16 → 0 ≤ μ 215 k ∧ 0 ≤ μ 216 k ∧ μ 216 k ≤ 400 ∧ μ 217 k ≤ 400) ∧ μ 26 2 = μ 205 37
theorem fz_lb_cg {μ μ' : pm_Mem} (h : fz_lb μ) (e : fz_G μ μ') : fz_lb μ' := by
  refine ⟨⟨by rw [fz_at e 213 0 1 (by decide) (by omega) (by omega)]; exact h.1.1, fun k k0 k1 => ?_⟩, by rw [fz_at e 26 2 3 (by decide) (by omega) (by omega), fz_at e 205 37 38 (by decide) (by omega) (by omega)]; exact h.2⟩
  rw [fz_at e 215 0 16 (by decide) (by omega) (by omega), fz_at e 216 0 16 (by decide) (by omega) (by omega), fz_at e 217 0 16 (by decide) (by omega) (by omega)]
  exact h.1.2 k k0 k1
theorem fr_L_cg {μ μ' : pm_Mem} (hb : fz_lb μ) (e : fz_G μ μ') : ∀ {R : List (Int × List zIw × List zIw)} {k : Int}, 0 ≤ k → fr_L μ k R → fr_L μ' k R
  | [], k, _, h => by
    have h1 : k = μ 213 0 := h
    have h2 : k = μ' 213 0 := by
      rw [fz_at e 213 0 1 (by decide) (by omega) (by omega)]
      exact h1
    exact h2
  | x :: R, k, k0, h => by
    rw [fr_L_c] at h
    obtain ⟨h1, h2, ⟨h3, h4⟩, ⟨h5, h6⟩, h7, h8⟩ := h
    have hk : k < 16 := by have := hb.1.1; omega
    obtain ⟨b1, b2, b3, b4⟩ := hb.1.2 k k0 hk
    rw [fr_L_c, fz_at e 213 0 1 (by decide) (by omega) (by omega), fz_at e 214 0 16 (by decide) (by omega) (by omega), fz_at e 215 0 16 (by decide) (by omega) (by omega), fz_at e 216 0 16 (by decide) (by omega) (by omega), fz_at e 217 0 16 (by decide) (by omega) (by omega)]
    refine ⟨h1, h2, ⟨zSr_cg h3 (fun i i0 i1 => ?_), h4⟩, ⟨zSr_cg h5 (fun i i0 i1 => ?_), h6⟩, h7, fr_L_cg hb e (by omega) h8⟩
    · exact ⟨fz_at e 218 0 400 (by decide) (by omega) (by omega), fz_at e 219 0 400 (by decide) (by omega) (by omega)⟩
    · exact ⟨fz_at e 218 0 400 (by decide) (by omega) (by omega), fz_at e 219 0 400 (by decide) (by omega) (by omega)⟩
theorem fa_cR_cg {n m rn rn' ln ln' : Int} {C C' R R' : Int → Int} (h : fa_cR n m rn ln C R) (h1 : rn' = rn) (h2 : ln' = ln) (hC : ∀ i : Int, 0 ≤ i → i < 64 → C' i = C i) (hR : ∀ i : Int, 0 ≤ i → i < 48 → R' i = R i) : fa_cR n m rn' ln' C' R' := by
  subst h1
  subst h2
  obtain ⟨a, b, c, d⟩ := h
  refine ⟨a, b, fun k k0 k1 => ?_, fun k k0 k1 => ?_⟩
  · rw [hC _ (by omega) (by omega), hC _ (by omega) (by omega), hC _ (by omega) (by omega), hR _ (by omega) (by omega), hR _ (by omega) (by omega), hR _ (by omega) (by omega)]
    exact c k k0 k1
  · rw [hR _ (by omega) (by omega), hR _ (by omega) (by omega), hR _ (by omega) (by omega)]
    exact d k k0 k1
theorem fa_cD_cg {n m dn dn' ln ln' : Int} {C C' D D' : Int → Int} (h : fa_cD n m dn ln C D) (h1 : dn' = dn) (h2 : ln' = ln) (hC : ∀ i : Int, 0 ≤ i → i < 64 → C' i = C i) (hD : ∀ i : Int, 0 ≤ i → i < 64 → D' i = D i) : fa_cD n m dn' ln' C' D' := by
  subst h1
  subst h2
  obtain ⟨a, b, c, d⟩ := h
  refine ⟨a, b, fun k k0 k1 => ?_, fun k k0 k1 => ?_⟩
  · rw [hC _ (by omega) (by omega), hC _ (by omega) (by omega), hC _ (by omega) (by omega), hC _ (by omega) (by omega), hD _ (by omega) (by omega), hD _ (by omega) (by omega), hD _ (by omega) (by omega), hD _ (by omega) (by omega)]
    exact c k k0 k1
  · rw [hD _ (by omega) (by omega), hD _ (by omega) (by omega), hD _ (by omega) (by omega)]
    exact d k k0 k1
/-- the lines of THE LAW, THE ROUNDS, THE CALENDAR alike -/
def fz_T (μ : pm_Mem) : Prop := ∃ ls, fr_L μ 0 ls ∧ fa_X ls (μ 205 6) (μ 205 7) (μ 205 33) (μ 205 35) (μ 221) (μ 222) μ
/-- both worlds alike -/
def fz_W (μ : pm_Mem) : Prop := fa_C false 3 (μ 205 6) (μ 205 7) (μ 206, μ 210) (μ 209) μ ∧ fa_I (μ 205 6) (μ 205 7) (μ 206) ∧ fa_O (μ 205 7) (μ 206) ∧ ((0 ≤ μ 205 6 ∧ μ 205 6 ≤ 12) ∧ 0 ≤ μ 205 7 ∧ μ 205 7 ≤ 18) ∧ fz_lb μ ∧ fz_T μ
theorem fz_T_cg {μ μ' : pm_Mem} (hb : fz_lb μ) (e : fz_G μ μ') (h : fz_T μ) : fz_T μ' := by
  obtain ⟨ls, hL, ⟨h1, h2⟩, h3, h4⟩ := h
  refine ⟨ls, fr_L_cg hb e (by decide) hL, ⟨?_, ?_⟩, ?_, ?_⟩
  · exact fc_L_cg (fz_at e 17 2 3 (by decide) (by omega) (by omega)) (fun i i0 i1 => fz_at e 18 0 64 (by decide) (by omega) (by omega)) (fun i i0 i1 => fz_at e 19 0 400 (by decide) (by omega) (by omega)) (by decide) h1
  · rw [fz_at e 17 2 3 (by decide) (by omega) (by omega)]
    exact h2
  · rw [fz_at e 205 6 8 (by decide) (i := 6) (by omega) (by omega), fz_at e 205 6 8 (by decide) (i := 7) (by omega) (by omega)]
    exact fa_cR_cg h3 (fz_at e 205 33 34 (by decide) (by omega) (by omega)) (fz_at e 20 2 3 (by decide) (by omega) (by omega)) (fun i i0 i1 => fz_at e 21 0 64 (by decide) (by omega) (by omega)) (fun i i0 i1 => fz_at e 221 0 48 (by decide) (by omega) (by omega))
  · rw [fz_at e 205 6 8 (by decide) (i := 6) (by omega) (by omega), fz_at e 205 6 8 (by decide) (i := 7) (by omega) (by omega)]
    exact fa_cD_cg h4 (fz_at e 205 35 36 (by decide) (by omega) (by omega)) (fz_at e 23 2 3 (by decide) (by omega) (by omega)) (fun i i0 i1 => fz_at e 24 0 64 (by decide) (by omega) (by omega)) (fun i i0 i1 => fz_at e 222 0 64 (by decide) (by omega) (by omega))
theorem fz_wd_at {μ μ' : pm_Mem} (e : fz_G μ μ') : ∀ q : Nat, 1 ≤ q → q ≤ 12 → ∀ i : Int, 0 ≤ i → i < fa_wd q → μ' (3 + q) i = μ (3 + q) i := fun q q1 q2 i i0 i1 => by
  have hq : q = 1 ∨ q = 2 ∨ q = 3 ∨ q = 4 ∨ q = 5 ∨ q = 6 ∨ q = 7 ∨ q = 8 ∨ q = 9 ∨ q = 10 ∨ q = 11 ∨ q = 12 := by omega
  rcases hq with rfl | rfl | rfl | rfl | rfl | rfl | rfl | rfl | rfl | rfl | rfl | rfl
  · exact fz_at e 4 0 12 (by decide) (by omega) i1
  · exact fz_at e 5 0 12 (by decide) (by omega) i1
  · exact fz_at e 6 0 12 (by decide) (by omega) i1
  · exact fz_at e 7 0 12 (by decide) (by omega) i1
  · exact fz_at e 8 0 12 (by decide) (by omega) i1
  · exact fz_at e 9 0 12 (by decide) (by omega) i1
  · exact fz_at e 10 0 12 (by decide) (by omega) i1
  · exact fz_at e 11 0 18 (by decide) (by omega) i1
  · exact fz_at e 12 0 18 (by decide) (by omega) i1
  · exact fz_at e 13 0 18 (by decide) (by omega) i1
  · exact fz_at e 14 0 18 (by decide) (by omega) i1
  · exact fz_at e 15 0 18 (by decide) (by omega) i1
theorem fz_W_cg {μ μ' : pm_Mem} (e : fz_G μ μ') (h : fz_W μ) : fz_W μ' := by
  obtain ⟨⟨hA, hB⟩, hI, hO, hq, hb, hT⟩ := h
  have e6 : μ' 205 6 = μ 205 6 := fz_at e 205 6 8 (by decide) (by omega) (by omega)
  have e7 : μ' 205 7 = μ 205 7 := fz_at e 205 6 8 (by decide) (by omega) (by omega)
  have eN : ∀ i : Int, 0 ≤ i → i < 160 → μ' 206 i = μ 206 i := fun i i0 i1 => fz_at e 206 0 160 (by decide) (by omega) (by omega)
  have hnm : μ 205 6 ≤ 12 ∧ μ 205 7 ≤ 18 := ⟨hq.1.2, hq.2.2⟩
  refine ⟨⟨?_, fun e9 => ⟨?_, fun i i0 i1 => ?_⟩⟩, ?_, ?_, ?_, fz_lb_cg hb e, fz_T_cg hb e hT⟩
  · rw [e6, e7]
    exact fa_A_tr hnm (fun k k0 k1 => fz_at e 3 0 5 (by decide) (by omega) (by omega)) (fz_wd_at e) eN (fun i i0 i1 => fz_at e 209 0 18 (by decide) (by omega) (by omega)) hA
  · show μ' 2 2 = μ' 206 3
    rw [fz_at e 2 2 3 (by decide) (by omega) (by omega), eN 3 (by decide) (by decide)]
    exact (hB rfl).1
  · show μ' 16 i = μ' 210 i
    rw [fz_at e 16 0 750 (by decide) (by omega) (by omega), fz_at e 210 0 750 (by decide) (by omega) (by omega)]
    exact (hB rfl).2 i i0 i1
  · rw [e6, e7]
    exact fa_I_cg hnm eN hI
  · rw [e7]
    exact fa_O_cg hnm hI eN hO
  · rw [e6, e7]
    exact hq
/-- the image as if it stood where the world stands -/
def fz_im (μ : pm_Mem) : pm_Mem := fun r i => if Nat.ble r 44 = true then μ (r + 43) i else μ 245 ((zPp r i.toNat : Nat) : Int)
theorem fz_im_c {μ : pm_Mem} {r : Nat} {i : Int} (h : Nat.ble r 44 = true) : fz_im μ r i = μ (r + 43) i := if_pos h
theorem fz_im_r {μ : pm_Mem} {r : Nat} {i : Int} (h : Nat.ble r 44 = false) : fz_im μ r i = μ 245 ((zPp r i.toNat : Nat) : Int) := if_neg (by rw [h]; decide)
/-- the places of the reference's that the image holds -/
theorem fz_pl : ∀ q ∈ fz_P, Nat.ble q.1 44 = false → ∀ k : Nat, k < 750 → q.2.1 ≤ k → k < q.2.2 → zPp q.1 k < 2128 ∧ zIpl (zPp q.1 k) = (q.1, k) := by decide +kernel
/-- the image is taken: class, then reference -/
theorem fz_take {μ μ2 : pm_Mem} (hc : ∀ q ∈ fz_P, Nat.ble q.1 44 = true → ∀ i : Int, (q.2.1 : Int) ≤ i → i < (q.2.2 : Int) → μ2 (q.1 + 43) i = μ q.1 i) (hr : ∀ p : Nat, p < 2128 → μ2 245 (p : Int) = μ2 (zIpl p).1 ((zIpl p).2 : Int)) (hk : ∀ q ∈ fz_P, Nat.ble q.1 44 = false → ∀ i : Int, (q.2.1 : Int) ≤ i → i < (q.2.2 : Int) → μ2 q.1 i = μ q.1 i) : fz_G μ (fz_im μ2) := fun q hq i i0 i1 => by
  cases h : Nat.ble q.1 44 with
  | true => rw [fz_im_c h]; exact hc q hq h i i0 i1
  | false =>
    have hw := (show ∀ q ∈ fz_P, q.2.2 ≤ 750 by decide) q hq
    obtain ⟨p1, p2⟩ := fz_pl q hq h i.toNat (by omega) (by omega) (by omega)
    rw [fz_im_r h, hr _ p1, p2]
    show μ2 q.1 ((i.toNat : Nat) : Int) = μ q.1 i
    rw [show ((i.toNat : Nat) : Int) = i by omega]
    exact hk q hq h i i0 i1
/-- it is taken back: class, then reference -/
theorem fz_back {μ μ2 : pm_Mem} (hc : ∀ q ∈ fz_P, Nat.ble q.1 44 = true → ∀ i : Int, (q.2.1 : Int) ≤ i → i < (q.2.2 : Int) → μ2 q.1 i = μ (q.1 + 43) i) (hr : ∀ p : Nat, p < 2128 → ((zIpl p).1 = 205 → (zIpl p).2 ≠ 3) → μ2 (zIpl p).1 ((zIpl p).2 : Int) = μ 245 (p : Int)) : fz_G (fz_im μ) μ2 := fun q hq i i0 i1 => by
  cases h : Nat.ble q.1 44 with
  | true => rw [fz_im_c h]; exact hc q hq h i i0 i1
  | false =>
    have hw := (show ∀ q ∈ fz_P, q.2.2 ≤ 750 by decide) q hq
    obtain ⟨p1, p2⟩ := fz_pl q hq h i.toNat (by omega) (by omega) (by omega)
    have h3 := (show ∀ q ∈ fz_P, q.1 = 205 → 6 ≤ q.2.1 by decide) q hq
    have hr9 := hr _ p1 (by rw [p2]; intro e9; have := h3 e9; show i.toNat ≠ 3; omega)
    rw [p2] at hr9
    rw [fz_im_r h, ← hr9]
    show μ2 q.1 i = μ2 q.1 ((i.toNat : Nat) : Int)
    rw [show ((i.toNat : Nat) : Int) = i by omega]
