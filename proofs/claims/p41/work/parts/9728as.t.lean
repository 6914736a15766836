/-! F: between the law's calls -/
def zRFz (μ : pm_Mem) : Prop := μ 33 1 = μ 35 1 ∧ μ 76 1 = μ 78 1 ∧ μ 1 2 = μ 205 70
def fz_K (μ : pm_Mem) : Prop := fa_Kp (μ 205 6) (μ 205 7) (μ 209) (μ 207) (μ 205 3) μ
def fz_I (μ : pm_Mem) : Prop := μ 1 2 ≠ 0 → fz_W (fz_im μ)
def zRF (μ : pm_Mem) : Prop := zRFz μ ∧ zRex μ ∧ fz_W μ ∧ fz_K μ ∧ fz_I μ ∧ μ 205 5 = 0
theorem zKw_Kp {n m : Int} {pol pol' N Q : Int → Int} {u : Int} {μ : pm_Mem} (h : fa_Kp n m pol Q u μ) (hA : fa_A 3 n m N pol' μ) : zKw μ := fun j j0 j1 k k6 hk => by
  obtain ⟨h1, h2, h3, h4⟩ := h
  have h5 := (h4 j j0 (by omega) k k6 hk).1.1
  exact ⟨by rw [h5.1, hA.1.1], by rw [h5.2.1, hA.1.2.1]⟩
theorem zR_F {μ : pm_Mem} (h : zRF μ) : zR μ := by
  obtain ⟨⟨a, b, c⟩, -, hW, hK, hI, -⟩ := h
  refine ⟨⟨hW.1.1.1.1, hW.1.1.1.2.1⟩, a, b, c, fun h12 => ?_, zKw_Kp hK hW.1.1⟩
  have h9 := (hI h12).1.1
  have e1 : fz_im μ 3 0 = fz_im μ 205 6 := h9.1.1
  have e2 : fz_im μ 3 1 = fz_im μ 205 7 := h9.1.2.1
  rw [fz_im_c rfl, fz_im_r rfl] at e1 e2
  exact ⟨e1, e2⟩
theorem zRT_F {μ : pm_Mem} (h : zRF μ) : zRT μ := ⟨zR_F h, h.2.1⟩
theorem fz_im_G {μ μ2 : pm_Mem} (hr : ∀ r, (45 ≤ r ∧ r ≤ 69) ∨ r = 245 → μ2 r = μ r) : fz_G (fz_im μ) (fz_im μ2) := fun q hq i _ _ => by
  have hb := (show ∀ q ∈ fz_P, Nat.ble q.1 44 = true → 2 ≤ q.1 ∧ q.1 ≤ 26 by decide) q hq
  cases h : Nat.ble q.1 44 with
  | true =>
    have := hb h
    rw [fz_im_c h, fz_im_c h, hr (q.1 + 43) (Or.inl (by omega))]
  | false => rw [fz_im_r h, fz_im_r h, hr 245 (Or.inr rfl)]
theorem fa_dk_mo {n m n' m' o a b : Int} (h : fa_dk n m o a b) (hn : n ≤ n') (hm : m ≤ m') : fa_dk n' m' o a b := by
  unfold fa_dk at h ⊢
  omega
theorem fa_X_mo {ls : List (Int × List zIw × List zIw)} {n m n' m' rn dn : Int} {R D : Int → Int} {μ : pm_Mem} (h : fa_X ls n m rn dn R D μ) (hn : n ≤ n') (hm : m ≤ m') : fa_X ls n' m' rn dn R D μ := by
  obtain ⟨h1, ⟨a, b, c, d⟩, ⟨a', b', c', d'⟩⟩ := h
  exact ⟨h1, ⟨a, b, c, fun k k0 k1 => by have := d k k0 k1; omega⟩, ⟨a', b', c', fun k k0 k1 => fa_dk_mo (d' k k0 k1) hn hm⟩⟩
/-- what the class and the reference may have changed, where the world is told or acts -/
def zRFr (μ μ2 : pm_Mem) : Prop := (∀ r, ¬ (2 ≤ r ∧ r ≤ 16) → r ≠ 96 → ¬ (98 ≤ r ∧ r ≤ 176) → r ≠ 178 → r ≠ 179 → r ≠ 205 → r ≠ 206 → r ≠ 207 → r ≠ 208 → r ≠ 209 → r ≠ 210 → r ≠ 224 → r ≠ 225 → μ2 r = μ r) ∧ (∀ k : Int, k ≠ 0 → k ≠ 3 → k ≠ 6 → k ≠ 7 → μ2 205 k = μ 205 k)
theorem zRex_r {μ μ2 : pm_Mem} (hf : zRFr μ μ2) (h3 : μ 3 0 ≤ μ2 3 0) (h : zRex μ) : zRex μ2 := by
  have d0 : ∀ q ∈ zXo, ¬ (2 ≤ q.1 ∧ q.1 ≤ 16) ∧ q.1 ≠ 96 ∧ ¬ (98 ≤ q.1 ∧ q.1 ≤ 176) ∧ q.1 ≠ 178 ∧ q.1 ≠ 179 ∧ q.1 < 205 := by decide
  have d1 : ∀ q ∈ zXr, ¬ (2 ≤ q.1 ∧ q.1 ≤ 16) ∧ q.1 ≠ 96 ∧ ¬ (98 ≤ q.1 ∧ q.1 ≤ 176) ∧ q.1 ≠ 178 ∧ q.1 ≠ 179 ∧ (q.1 < 205 ∨ q.1 = 211 ∨ q.1 = 223 ∨ q.1 = 245) := by decide
  have d2 : ∀ q ∈ zX2, q.1 = 205 ∧ ((q.2 : Nat) : Int) ≠ 0 ∧ ((q.2 : Nat) : Int) ≠ 3 ∧ ((q.2 : Nat) : Int) ≠ 6 ∧ ((q.2 : Nat) : Int) ≠ 7 := by decide
  refine zRex_of h3 (by rw [hf.1 46 (by omega) (by decide) (by omega) (by decide) (by decide) (by decide) (by decide) (by decide) (by decide) (by decide) (by decide) (by decide) (by decide)]) (by rw [hf.1 1 (by omega) (by decide) (by omega) (by decide) (by decide) (by decide) (by decide) (by decide) (by decide) (by decide) (by decide) (by decide) (by decide)]) ⟨fun q hq => ?_, fun q hq i _ _ => ?_, fun q hq => ?_⟩ h
  · obtain ⟨a, b, c, d, e, f⟩ := d0 q hq
    rw [hf.1 q.1 a b c d e (by omega) (by omega) (by omega) (by omega) (by omega) (by omega) (by omega) (by omega)]
  · obtain ⟨a, b, c, d, e, f⟩ := d1 q hq
    rw [hf.1 q.1 a b c d e (by omega) (by omega) (by omega) (by omega) (by omega) (by omega) (by omega) (by omega)]
  · obtain ⟨e1, e2, e3, e4, e5⟩ := d2 q hq
    rw [e1]
    exact hf.2 _ e2 e3 e4 e5
theorem zRF_of {μ μ2 : pm_Mem} (h : zRF μ) (hf : zRFr μ μ2) (h3 : μ 205 6 ≤ μ2 205 6) (hW : fz_W μ2) (hK : fz_K μ2) : zRF μ2 := by
  obtain ⟨⟨a, b, c⟩, hE, hW0, -, hI, h5⟩ := h
  have e : ∀ r, (17 ≤ r ∧ r ≤ 95) ∨ r = 1 ∨ r = 245 → μ2 r = μ r := fun r hr => hf.1 r (by omega) (by omega) (by omega) (by omega) (by omega) (by omega) (by omega) (by omega) (by omega) (by omega) (by omega) (by omega) (by omega)
  refine ⟨⟨?_, ?_, ?_⟩, zRex_r hf ?_ hE, hW, hK, fun h12 => ?_, ?_⟩
  · rw [e 33 (by omega), e 35 (by omega)]; exact a
  · rw [e 76 (by omega), e 78 (by omega)]; exact b
  · rw [e 1 (by omega), hf.2 70 (by decide) (by decide) (by decide) (by decide)]; exact c
  · rw [hW0.1.1.1.1, hW.1.1.1.1]; exact h3
  · rw [e 1 (by omega)] at h12
    exact fz_W_cg (fz_im_G (fun r hr => e r (by omega))) (hI h12)
  · rw [hf.2 5 (by decide) (by decide) (by decide) (by decide)]; exact h5
/-- the world behind a change -/
theorem fz_W_mk {μ μ2 : pm_Mem} (h : fz_W μ) (hf : zRFr μ μ2) (hn : μ 205 6 ≤ μ2 205 6 ∧ μ2 205 6 ≤ 12) (hm : μ 205 7 ≤ μ2 205 7 ∧ μ2 205 7 ≤ 18) (hC : fa_C false 3 (μ2 205 6) (μ2 205 7) (μ2 206, μ2 210) (μ2 209) μ2) (hI : fa_I (μ2 205 6) (μ2 205 7) (μ2 206)) (hO : fa_O (μ2 205 7) (μ2 206)) : fz_W μ2 := by
  obtain ⟨-, -, -, hq, hb, ls, hL, hX⟩ := h
  have e : ∀ r, (17 ≤ r ∧ r ≤ 26) ∨ (213 ≤ r ∧ r ≤ 222) → μ2 r = μ r := fun r hr => hf.1 r (by omega) (by omega) (by omega) (by omega) (by omega) (by omega) (by omega) (by omega) (by omega) (by omega) (by omega) (by omega) (by omega)
  refine ⟨hC, hI, hO, ⟨⟨by omega, hn.2⟩, ⟨by omega, hm.2⟩⟩, ?_, ls, fr_L_fr (fun r a b => e r (by omega)) hL, ?_⟩
  · unfold fz_lb
    rw [e 213 (by omega), e 215 (by omega), e 216 (by omega), e 217 (by omega), e 26 (by omega), hf.2 37 (by decide) (by decide) (by decide) (by decide)]
    exact hb
  · rw [hf.2 33 (by decide) (by decide) (by decide) (by decide), hf.2 35 (by decide) (by decide) (by decide) (by decide), e 221 (by omega), e 222 (by omega)]
    exact fa_X_mo (fa_X_fr hX (fun r a b => e r (by omega))) hn.1 hm.1
/-- class rows stay as the reference's turn leaves them -/
theorem fa_C_fr2 {n m : Int} {S : fa_St} {pol : Int → Int} {μ1 μ2 : pm_Mem} (h : fa_C false 3 n m S pol μ1) (e : ∀ r, r ≤ 176 → μ2 r = μ1 r) : fa_C false 3 n m S pol μ2 := ⟨fa_A_fr h.1 (fun r a b => e r (by omega)), fun e9 => fa_B_fr (h.2 e9) (e 2 (by omega)) (e 16 (by omega))⟩
theorem fa_Kp_fr2 {n m u : Int} {Q pol : Int → Int} {μ1 μ2 : pm_Mem} (h : fa_Kp n m pol Q u μ1) (e : ∀ r, r ≤ 176 → μ2 r = μ1 r) : fa_Kp n m pol Q u μ2 := fa_Kp_fr h (e 96 (by omega)) (e 98 (by omega)) (fun r a b => e r (by omega))
section
variable {μ μ1 μ2 : pm_Mem}
theorem fm_out {L : List Nat} (h : fa_fr L μ μ1) (hl : L.all (fun r => decide ((2 ≤ r ∧ r ≤ 16) ∨ r = 96 ∨ (98 ≤ r ∧ r ≤ 176) ∨ r = 178 ∨ r = 179)) = true) : ∀ r, ¬ (2 ≤ r ∧ r ≤ 16) → r ≠ 96 → ¬ (98 ≤ r ∧ r ≤ 176) → r ≠ 178 → r ≠ 179 → μ1 r = μ r := fun r a b c d e => h r (by
  cases hc : L.contains r with
  | false => rfl
  | true =>
    have := of_decide_eq_true (List.all_eq_true.mp hl r (by simpa using hc))
    omega)
/-- class, then reference: what is told, done, gone back -/
theorem zRF_case (hR : zRF μ) (a : ∀ r, ¬ (2 ≤ r ∧ r ≤ 16) → r ≠ 96 → ¬ (98 ≤ r ∧ r ≤ 176) → r ≠ 178 → r ≠ 179 → μ1 r = μ r) (c : ∀ r, r ≠ 205 → r ≠ 206 → r ≠ 207 → r ≠ 208 → r ≠ 209 → r ≠ 210 → r ≠ 224 → r ≠ 225 → μ2 r = μ1 r) (b : ∀ k : Int, k ≠ 0 → k ≠ 3 → k ≠ 6 → k ≠ 7 → μ2 205 k = μ1 205 k) (hn : μ 205 6 ≤ μ2 205 6 ∧ μ2 205 6 ≤ 12) (hm : μ 205 7 ≤ μ2 205 7 ∧ μ2 205 7 ≤ 18) (hC : fa_C false 3 (μ2 205 6) (μ2 205 7) (μ2 206, μ2 210) (μ2 209) μ1) (hI : fa_I (μ2 205 6) (μ2 205 7) (μ2 206)) (hO : fa_O (μ2 205 7) (μ2 206)) (hK : fa_Kp (μ2 205 6) (μ2 205 7) (μ2 209) (μ2 207) (μ2 205 3) μ1) : zRF μ2 := by
  have hf : zRFr μ μ2 := ⟨fun r r1 r2 r3 r4 r5 r6 r7 r8 r9 r10 r11 r12 r13 => (c r r6 r7 r8 r9 r10 r11 r12 r13).trans (a r r1 r2 r3 r4 r5), fun k k0 k3 k6 k7 => by rw [b k k0 k3 k6 k7, a 205 (by omega) (by decide) (by omega) (by decide) (by decide)]⟩
  have e : ∀ r, r ≤ 176 → μ2 r = μ1 r := fun r hr => c r (by omega) (by omega) (by omega) (by omega) (by omega) (by omega) (by omega) (by omega)
  exact zRF_of hR hf hn.1 (fz_W_mk hR.2.2.1 hf hn hm (fa_C_fr2 hC e) hI hO) (fa_Kp_fr2 hK e)
/-- nothing but what was told last -/
theorem zRF_told (hR : zRF μ) (b : ∀ k : Int, k ≠ 0 → μ2 205 k = μ 205 k) (c : ∀ r, r ≠ 205 → r ≠ 224 → r ≠ 225 → r ≠ 178 → r ≠ 179 → μ2 r = μ r) : zRF μ2 := by
  obtain ⟨h1, h2, hW, hK, h3, h5⟩ := hR
  have hf : zRFr μ μ2 := ⟨fun r _ _ _ r4 r5 r6 _ _ _ _ _ r12 r13 => c r r6 r12 r13 r4 r5, fun k k0 _ _ _ => b k k0⟩
  have hG : fz_G μ μ2 := fun q hq i i0 i1 => by
    have hb := (show ∀ q ∈ fz_P, q.1 ≠ 224 ∧ q.1 ≠ 225 ∧ q.1 ≠ 178 ∧ q.1 ≠ 179 ∧ (q.1 = 205 → 6 ≤ q.2.1) by decide) q hq
    by_cases h9 : q.1 = 205
    · have := hb.2.2.2.2 h9
      rw [h9]
      exact b i (by omega)
    · rw [c q.1 h9 hb.1 hb.2.1 hb.2.2.1 hb.2.2.2.1]
  refine zRF_of ⟨h1, h2, hW, hK, h3, h5⟩ hf (by rw [b 6 (by decide)]; exact Int.le_refl _) (fz_W_cg hG hW) ?_
  unfold fz_K
  rw [b 6 (by decide), b 7 (by decide), b 3 (by decide), c 209 (by decide) (by decide) (by decide) (by decide) (by decide), c 207 (by decide) (by decide) (by decide) (by decide) (by decide)]
  exact fa_Kp_fr hK (c 96 (by decide) (by decide) (by decide) (by decide) (by decide)) (c 98 (by decide) (by decide) (by decide) (by decide) (by decide)) (fun r _ _ => c r (by omega) (by omega) (by omega) (by omega) (by omega))
/-- STATE -/
def zHF_state (v : Int) (μ1 : pm_Mem) : Prop := ∃ μ, zRF μ ∧ fa_C false 3 (μ 205 6) (μ 205 7) (fa_up (μ 206) 2 v, μ 210) (μ 209) μ1 ∧ fa_K0 μ1 ∧ fa_fr [3, 96] μ μ1
theorem zRF_state {v : Int} (h : zHF_state v μ1) (n6 : μ2 206 = fa_up (μ1 206) 2 v) (n3 : μ2 205 3 = 0) (b : ∀ k : Int, k ≠ 0 → k ≠ 3 → μ2 205 k = μ1 205 k) (c : ∀ r, r ≠ 205 → r ≠ 206 → μ2 r = μ1 r) : zRF μ2 := by
  obtain ⟨μ, hR, hC, hK, hF⟩ := h
  have hW := hR.2.2.1
  have hq := hW.2.2.2.1
  have a := fm_out hF (by decide)
  have f205 := a 205 (by omega) (by decide) (by omega) (by decide) (by decide)
  have e6 : μ2 205 6 = μ 205 6 := by rw [b 6 (by decide) (by decide), f205]
  have e7 : μ2 205 7 = μ 205 7 := by rw [b 7 (by decide) (by decide), f205]
  have eN : μ2 206 = fa_up (μ 206) 2 v := by rw [n6, a 206 (by omega) (by decide) (by omega) (by decide) (by decide)]
  have e10 : μ2 210 = μ 210 := by rw [c 210 (by decide) (by decide), a 210 (by omega) (by decide) (by omega) (by decide) (by decide)]
  have e9 : μ2 209 = μ 209 := by rw [c 209 (by decide) (by decide), a 209 (by omega) (by decide) (by omega) (by decide) (by decide)]
  have hKI := fa_K_u (n := μ 205 6) (m := μ 205 7) (N := μ 206) (j := 2) (v := v) ⟨hq.1.2, hq.2.2⟩ (by omega) (fun _ => fa_Iv_n (by omega))
  refine zRF_case hR a (fun r r5 r6 _ _ _ _ _ _ => c r r5 r6) (fun k k0 k3 _ _ => b k k0 k3) ⟨by omega, by omega⟩ ⟨by omega, by omega⟩ ?_ ?_ ?_ ?_
  · rw [e6, e7, eN, e10, e9]; exact hC
  · rw [e6, e7, eN]; exact (hKI hW.2.1).1
  · rw [e7, eN]; exact (hKI hW.2.1).2 hW.2.2.1
  · rw [n3]; exact fa_K0_p hK
/-- SHOP -/
def zHF_shop (g p x : Int) (μ1 : pm_Mem) : Prop := ∃ μ, zRF μ ∧ ((((0 ≤ g ∧ g ≤ 99) ∧ 1 ≤ p ∧ p ≤ 99) ∧ μ 205 6 ≠ 12 ∧ x = μ 205 6 ∧ fa_C false 3 (μ 205 6 + 1) (μ 205 7) (fa_addS (μ 206) (μ 205 6) g p, μ 210) (μ 209) μ1 ∧ fa_K0 μ1 ∧ fa_fr [3, 4, 5, 6, 7, 8, 9, 10, 96] μ μ1) ∨ (¬ (((0 ≤ g ∧ g ≤ 99) ∧ 1 ≤ p ∧ p ≤ 99) ∧ μ 205 6 ≠ 12) ∧ x = -1 ∧ μ1 = μ))
theorem zRF_shop {g p x y : Int} (h : zHF_shop g p x μ1) (hr : (((0 ≤ g ∧ g ≤ 99) ∧ (1 ≤ p ∧ p ≤ 99)) ∧ μ1 205 6 ≠ 12 ∧ y = μ1 205 6 ∧ (μ2 206 = fa_addS (μ1 206) (μ1 205 6) g p ∧ μ2 209 = μ1 209) ∧ μ2 205 6 = μ1 205 6 + 1 ∧ μ2 205 3 = 0 ∧ (∀ k : Int, k ≠ 0 → k ≠ 3 → k ≠ 6 → μ2 205 k = μ1 205 k) ∧ ∀ r, r ≠ 205 → r ≠ 206 → r ≠ 209 → μ2 r = μ1 r) ∨ (¬ (((0 ≤ g ∧ g ≤ 99) ∧ (1 ≤ p ∧ p ≤ 99)) ∧ μ1 205 6 ≠ 12) ∧ y = -1 ∧ (∀ k : Int, k ≠ 0 → μ2 205 k = μ1 205 k) ∧ ∀ r, r ≠ 205 → μ2 r = μ1 r)) : zRF μ2 ∧ x = y := by
  obtain ⟨μ, hR, h⟩ := h
  have hW := hR.2.2.1
  have hq := hW.2.2.2.1
  rcases h with ⟨o1, o2, o3, hC, hK, hF⟩ | ⟨o1, o2, o3⟩
  · have a := fm_out hF (by decide)
    have f205 := a 205 (by omega) (by decide) (by omega) (by decide) (by decide)
    rw [f205] at hr
    rcases hr with ⟨-, -, p2, ⟨n6, n9⟩, c6, c3, b, c⟩ | ⟨p1, -⟩
    · have e7 : μ2 205 7 = μ 205 7 := by rw [b 7 (by decide) (by decide) (by decide)]
      have eN : μ2 206 = fa_addS (μ 206) (μ 205 6) g p := by rw [n6, a 206 (by omega) (by decide) (by omega) (by decide) (by decide)]
      have e10 : μ2 210 = μ 210 := by rw [c 210 (by decide) (by decide) (by decide), a 210 (by omega) (by decide) (by omega) (by decide) (by decide)]
      have e9 : μ2 209 = μ 209 := by rw [n9, a 209 (by omega) (by decide) (by omega) (by decide) (by decide)]
      have hKI := fa_I_addS (g := g) (p := p) hW.2.1 ⟨hq.1.1, by omega⟩ hq.2 o1.1 ⟨by omega, o1.2.2⟩
      refine ⟨zRF_case hR a (fun r r5 r6 _ _ r9 _ _ _ => c r r5 r6 r9) (fun k k0 k3 k6 _ => by rw [b k k0 k3 k6, f205]) ⟨by omega, by omega⟩ ⟨by omega, by omega⟩ ?_ ?_ ?_ ?_, by omega⟩
      · rw [c6, e7, eN, e10, e9]; exact hC
      · rw [c6, e7, eN]; exact hKI.1
      · rw [e7, eN]; exact hKI.2 hW.2.2.1
      · rw [c3]; exact fa_K0_p hK
    · exact absurd ⟨o1, o2⟩ p1
  · subst o3
    rcases hr with ⟨p1, p2, -⟩ | ⟨-, p2, b, c⟩
    · exact absurd ⟨p1, p2⟩ o1
    · exact ⟨zRF_told hR b (fun r r5 _ _ _ _ => c r r5), by omega⟩
/-- CUSTOMER -/
def zHF_customer (v w x : Int) (μ1 : pm_Mem) : Prop := ∃ μ, zRF μ ∧ ((((0 ≤ v ∧ v ≤ 9999) ∧ 0 ≤ w ∧ w ≤ 9) ∧ μ 205 7 ≠ 18 ∧ x = μ 205 7 ∧ fa_C false 3 (μ 205 6) (μ 205 7 + 1) (fa_addC (μ 206) (μ 205 7) v, μ 210) (fa_up (μ 209) (μ 205 7) w) μ1 ∧ fa_K0 μ1 ∧ fa_fr [3, 11, 12, 13, 14, 15, 96] μ μ1) ∨ (¬ (((0 ≤ v ∧ v ≤ 9999) ∧ 0 ≤ w ∧ w ≤ 9) ∧ μ 205 7 ≠ 18) ∧ x = -1 ∧ μ1 = μ))
theorem zRF_customer {v w x y : Int} (h : zHF_customer v w x μ1) (hr : (((0 ≤ v ∧ v ≤ 9999) ∧ (0 ≤ w ∧ w ≤ 9)) ∧ μ1 205 7 ≠ 18 ∧ y = μ1 205 7 ∧ (μ2 206 = fa_addC (μ1 206) (μ1 205 7) v ∧ μ2 209 = fa_up (μ1 209) (μ1 205 7) w) ∧ μ2 205 7 = μ1 205 7 + 1 ∧ μ2 205 3 = 0 ∧ (∀ k : Int, k ≠ 0 → k ≠ 3 → k ≠ 7 → μ2 205 k = μ1 205 k) ∧ ∀ r, r ≠ 205 → r ≠ 206 → r ≠ 209 → μ2 r = μ1 r) ∨ (¬ (((0 ≤ v ∧ v ≤ 9999) ∧ (0 ≤ w ∧ w ≤ 9)) ∧ μ1 205 7 ≠ 18) ∧ y = -1 ∧ (∀ k : Int, k ≠ 0 → μ2 205 k = μ1 205 k) ∧ ∀ r, r ≠ 205 → μ2 r = μ1 r)) : zRF μ2 ∧ x = y := by
  obtain ⟨μ, hR, h⟩ := h
  have hW := hR.2.2.1
  have hq := hW.2.2.2.1
  rcases h with ⟨o1, o2, o3, hC, hK, hF⟩ | ⟨o1, o2, o3⟩
  · have a := fm_out hF (by decide)
    have f205 := a 205 (by omega) (by decide) (by omega) (by decide) (by decide)
    rw [f205] at hr
    rcases hr with ⟨-, -, p2, ⟨n6, n9⟩, c7, c3, b, c⟩ | ⟨p1, -⟩
    · have e6 : μ2 205 6 = μ 205 6 := by rw [b 6 (by decide) (by decide) (by decide)]
      have eN : μ2 206 = fa_addC (μ 206) (μ 205 7) v := by rw [n6, a 206 (by omega) (by decide) (by omega) (by decide) (by decide)]
      have e10 : μ2 210 = μ 210 := by rw [c 210 (by decide) (by decide) (by decide), a 210 (by omega) (by decide) (by omega) (by decide) (by decide)]
      have e9 : μ2 209 = fa_up (μ 209) (μ 205 7) w := by rw [n9, a 209 (by omega) (by decide) (by omega) (by decide) (by decide)]
      have hKI := fa_I_addC (v := v) hW.2.1 ⟨hq.2.1, by omega⟩ hq.1 o1.1
      refine ⟨zRF_case hR a (fun r r5 r6 _ _ r9 _ _ _ => c r r5 r6 r9) (fun k k0 k3 _ k7 => by rw [b k k0 k3 k7, f205]) ⟨by omega, by omega⟩ ⟨by omega, by omega⟩ ?_ ?_ ?_ ?_, by omega⟩
      · rw [e6, c7, eN, e10, e9]; exact hC
      · rw [e6, c7, eN]; exact hKI.1
      · rw [c7, eN]; exact hKI.2 hW.2.2.1
      · rw [c3]; exact fa_K0_p hK
    · exact absurd ⟨o1, o2⟩ p1
  · subst o3
    rcases hr with ⟨p1, p2, -⟩ | ⟨-, p2, b, c⟩
    · exact absurd ⟨p1, p2⟩ o1
    · exact ⟨zRF_told hR b (fun r r5 _ _ _ _ => c r r5), by omega⟩
/-- SET -/
def zHF_set (w c v x : Int) (μ1 : pm_Mem) : Prop := ∃ μ, zRF μ ∧ ((fa_setP (μ 205 6) (μ 205 7) w c v ∧ x = 1 ∧ fa_C false 3 (μ 205 6) (μ 205 7) (fa_setN (μ 206) w c v, μ 210) (fa_setL (μ 209) w c v) μ1 ∧ fa_K0 μ1 ∧ fa_fr [5, 11, 12, 96] μ μ1) ∨ (¬ fa_setP (μ 205 6) (μ 205 7) w c v ∧ x = 0 ∧ μ1 = μ))
theorem zRF_set {w s v x y : Int} (h : zHF_set w s v x μ1) (hr : (fa_setP (μ1 205 6) (μ1 205 7) w s v ∧ y = 1 ∧ μ2 206 = fa_setN (μ1 206) w s v ∧ μ2 209 = fa_setL (μ1 209) w s v ∧ μ2 205 3 = 0 ∧ (∀ k : Int, k ≠ 0 → k ≠ 3 → μ2 205 k = μ1 205 k) ∧ ∀ r, r ≠ 205 → r ≠ 206 → r ≠ 209 → μ2 r = μ1 r) ∨ (¬ fa_setP (μ1 205 6) (μ1 205 7) w s v ∧ y = 0 ∧ (∀ k : Int, k ≠ 0 → μ2 205 k = μ1 205 k) ∧ ∀ r, r ≠ 205 → μ2 r = μ1 r)) : zRF μ2 ∧ x = y := by
  obtain ⟨μ, hR, h⟩ := h
  have hW := hR.2.2.1
  have hq := hW.2.2.2.1
  rcases h with ⟨o1, o3, hC, hK, hF⟩ | ⟨o1, o2, o3⟩
  · have a := fm_out hF (by decide)
    have f205 := a 205 (by omega) (by decide) (by omega) (by decide) (by decide)
    rw [f205] at hr
    rcases hr with ⟨-, p2, n6, n9, c3, b, c⟩ | ⟨p1, -⟩
    · have e6 : μ2 205 6 = μ 205 6 := by rw [b 6 (by decide) (by decide)]
      have e7 : μ2 205 7 = μ 205 7 := by rw [b 7 (by decide) (by decide)]
      have eN : μ2 206 = fa_setN (μ 206) w s v := by rw [n6, a 206 (by omega) (by decide) (by omega) (by decide) (by decide)]
      have e10 : μ2 210 = μ 210 := by rw [c 210 (by decide) (by decide) (by decide), a 210 (by omega) (by decide) (by omega) (by decide) (by decide)]
      have e9 : μ2 209 = fa_setL (μ 209) w s v := by rw [n9, a 209 (by omega) (by decide) (by omega) (by decide) (by decide)]
      have hKI := fa_K_set (N := μ 206) ⟨hq.1.2, hq.2.2⟩ o1 hW.2.1
      refine ⟨zRF_case hR a (fun r r5 r6 _ _ r9 _ _ _ => c r r5 r6 r9) (fun k k0 k3 _ _ => by rw [b k k0 k3, f205]) ⟨by omega, by omega⟩ ⟨by omega, by omega⟩ ?_ ?_ ?_ ?_, by omega⟩
      · rw [e6, e7, eN, e10, e9]; exact hC
      · rw [e6, e7, eN]; exact hKI.1
      · rw [e7, eN]; exact hKI.2 hW.2.2.1
      · rw [c3]; exact fa_K0_p hK
    · exact absurd o1 p1
  · subst o3
    rcases hr with ⟨p1, -⟩ | ⟨-, p2, b, c⟩
    · exact absurd p1 o1
    · exact ⟨zRF_told hR b (fun r r5 _ _ _ _ => c r r5), by omega⟩
/-- ACT -/
def zHF_act (w c v x : Int) (μ1 : pm_Mem) : Prop := ∃ μ ls, zRF μ ∧ fr_L μ 0 ls ∧ ((fa_mayP (fr_law ls) (μ 209) (μ 205 6) (μ 205 7) (μ 206) w c v ∧ x = 1 ∧ fa_C false 3 (μ 205 6) (μ 205 7) (fa_acts (fr_law ls) (μ 209) (μ 205 7) w c v (μ 206, μ 210)) (μ 209) μ1 ∧ fa_Kp (μ 205 6) (μ 205 7) (μ 209) (fa_kQ (μ 207) (μ 205 3) (μ 206)) (fa_ku (μ 205 3)) μ1 ∧ fa_fr fm_LA μ μ1) ∨ (¬ fa_mayP (fr_law ls) (μ 209) (μ 205 6) (μ 205 7) (μ 206) w c v ∧ x = 0 ∧ fa_fr [178, 179] μ μ1))
theorem fm_up205 (a : ∀ r, ¬ (2 ≤ r ∧ r ≤ 16) → r ≠ 96 → ¬ (98 ≤ r ∧ r ≤ 176) → r ≠ 178 → r ≠ 179 → μ1 r = μ r) : ∀ r, 205 ≤ r → μ1 r = μ r := fun r hr => a r (by omega) (by omega) (by omega) (by omega) (by omega)
theorem zRF_act {w c v x y : Int} {ls : List (Int × List zIw × List zIw)} (hR : zRF μ) (h : (fa_mayP (fr_law ls) (μ 209) (μ 205 6) (μ 205 7) (μ 206) w c v ∧ x = 1 ∧ fa_C false 3 (μ 205 6) (μ 205 7) (fa_acts (fr_law ls) (μ 209) (μ 205 7) w c v (μ 206, μ 210)) (μ 209) μ1 ∧ fa_Kp (μ 205 6) (μ 205 7) (μ 209) (fa_kQ (μ 207) (μ 205 3) (μ 206)) (fa_ku (μ 205 3)) μ1 ∧ fa_fr fm_LA μ μ1) ∨ (¬ fa_mayP (fr_law ls) (μ 209) (μ 205 6) (μ 205 7) (μ 206) w c v ∧ x = 0 ∧ fa_fr [178, 179] μ μ1))
    (hr : (fa_mayP (fr_law ls) (μ1 209) (μ1 205 6) (μ1 205 7) (μ1 206) w c v ∧ y = 1 ∧ (μ2 206, μ2 210) = fa_acts (fr_law ls) (μ1 209) (μ1 205 7) w c v (μ1 206, μ1 210) ∧ μ2 207 = fa_kQ (μ1 207) (μ1 205 3) (μ1 206) ∧ μ2 205 3 = fa_ku (μ1 205 3) ∧ (∀ k : Int, k ≠ 0 → k ≠ 3 → μ2 205 k = μ1 205 k) ∧ (∀ r, r ≠ 205 → r ≠ 206 → r ≠ 207 → r ≠ 210 → r ≠ 224 → r ≠ 225 → μ2 r = μ1 r)) ∨ (¬ fa_mayP (fr_law ls) (μ1 209) (μ1 205 6) (μ1 205 7) (μ1 206) w c v ∧ y = 0 ∧ (∀ k : Int, k ≠ 0 → μ2 205 k = μ1 205 k) ∧ ∀ r, r ≠ 205 → r ≠ 224 → r ≠ 225 → μ2 r = μ1 r)) : zRF μ2 ∧ x = y := by
  have hW := hR.2.2.1
  have hq := hW.2.2.2.1
  rcases h with ⟨o1, o3, hC, hK, hF⟩ | ⟨o1, o3, hF⟩
  · have a := fm_out hF (by decide)
    have u := fm_up205 a
    rw [u 205 (by decide), u 206 (by decide), u 207 (by decide), u 209 (by decide), u 210 (by decide)] at hr
    rcases hr with ⟨-, p2, nS, n7, c3, b, cr⟩ | ⟨p1, -⟩
    · have e6 : μ2 205 6 = μ 205 6 := b 6 (by decide) (by decide)
      have e7 : μ2 205 7 = μ 205 7 := b 7 (by decide) (by decide)
      have e9 : μ2 209 = μ 209 := by rw [cr 209 (by decide) (by decide) (by decide) (by decide) (by decide) (by decide), u 209 (by decide)]
      have eN : μ2 206 = (fa_acts (fr_law ls) (μ 209) (μ 205 7) w c v (μ 206, μ 210)).1 := congrArg Prod.fst nS
      have hKI := fa_K_acts (N := μ 206) (B := μ 210) ⟨hq.1.2, hq.2.2⟩ hq.1.1 o1 hW.2.1
      refine ⟨zRF_case hR a (fun r r5 r6 r7 _ _ r10 r24 r25 => cr r r5 r6 r7 r10 r24 r25) (fun k k0 k3 _ _ => by rw [b k k0 k3, u 205 (by decide)]) ⟨by omega, by omega⟩ ⟨by omega, by omega⟩ ?_ ?_ ?_ ?_, by omega⟩
      · rw [e6, e7, nS, e9]; exact hC
      · rw [e6, e7, eN]; exact hKI.1
      · rw [e7, eN]; exact hKI.2 hW.2.2.1
      · rw [e6, e7, e9, n7, c3]; exact hK
    · exact absurd o1 p1
  · have a := fm_out hF (by decide)
    have u := fm_up205 a
    have f : ∀ r, r ≠ 178 → r ≠ 179 → μ1 r = μ r := fun r r8 r9 => hF r (by show ([178, 179].contains r) = false; simp [r8, r9])
    rw [u 205 (by decide), u 206 (by decide), u 209 (by decide)] at hr
    rcases hr with ⟨p1, -⟩ | ⟨-, p2, b, c⟩
    · exact absurd p1 o1
    · exact ⟨zRF_told hR b (fun r r5 r24 r25 r8 r9 => (c r r5 r24 r25).trans (f r r8 r9)), by omega⟩
end
