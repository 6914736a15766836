/-! F: the image, both sides -/
theorem zTq_cg {μ μ' : pm_Mem} (h : zTq μ) (e88 : μ' 88 1 = μ 88 1) (e205 : μ' 205 11 = μ 205 11) (e1 : ∀ x : Int, 0 ≤ x → x < 400 → μ' 89 x = μ 89 x) (e2 : ∀ x : Int, 0 ≤ x → x < 400 → μ' 211 x = μ 211 x) : zTq μ' := by
  obtain ⟨hl, h1, h2⟩ := h
  refine ⟨by rw [e88]; exact hl, by rw [e88, e205]; exact h1, fun x x0 x1 => ?_⟩
  rw [e88] at x1
  rw [e1 x x0 (by omega), e2 x x0 (by omega)]
  exact h2 x x0 x1
set_option maxRecDepth 100000 in
theorem fz_223 : ∀ i, i < 144 → zIpl (301 + i) = (223, i) := by decide +kernel
/-- the class's fields and rows that the reference's image leaves alone -/
def zFcf : List (Nat × Nat) := [(33, 1), (35, 1), (76, 1), (78, 1), (88, 1), (88, 2), (88, 3), (26, 2), (69, 2)]
def zFcr : List (Nat × Nat) := zFrq.filter (fun q => Nat.blt q.1 205) ++ [(207, 960), (89, 400), (211, 400), (27, 64), (70, 64)]
set_option maxRecDepth 100000 in
theorem zFcr_t : ∀ q ∈ zFcr, zrA q.1 q.2 = true := by decide +kernel
theorem fz_P_c : ∀ q ∈ fz_P, Nat.ble q.1 44 = true → (q.2.1 = 0 ∧ (q.1, q.2.2) ∈ zFcr) ∨ (∀ k : Nat, k < 750 → q.2.1 ≤ k → k < q.2.2 → (q.1, k) ∈ zFoq) := by decide +kernel
theorem fz_P_c43 : ∀ q ∈ fz_P, Nat.ble q.1 44 = true → (q.2.1 = 0 ∧ (q.1 + 43, q.2.2) ∈ zFcr) ∨ (∀ k : Nat, k < 750 → q.2.1 ≤ k → k < q.2.2 → (q.1 + 43, k) ∈ zFoq) := by decide +kernel
theorem fz_P_Q : ∀ q ∈ fz_P, Nat.ble q.1 44 = true → q ∈ fz_Q := by decide
section
variable {μ μ1 μ2 : pm_Mem}
theorem zFc_at (a : ∀ q ∈ zFoq, μ2 q.1 (q.2 : Int) = μ1 q.1 (q.2 : Int)) (c : ∀ q ∈ zFcr, ∀ i : Int, 0 ≤ i → i < q.2 → μ2 q.1 i = μ1 q.1 i) {r lo hi : Nat} (hh : (lo = 0 ∧ (r, hi) ∈ zFcr) ∨ (∀ k : Nat, k < 750 → lo ≤ k → k < hi → (r, k) ∈ zFoq)) (hw : hi ≤ 750) {i : Int} (i0 : (lo : Int) ≤ i) (i1 : i < (hi : Int)) : μ2 r i = μ1 r i := by
  rcases hh with ⟨h1, h2⟩ | h2
  · exact c (r, hi) h2 i (by omega) i1
  · have h9 := a (r, i.toNat) (h2 i.toNat (by omega) (by omega) (by omega))
    have h9 : μ2 r ((i.toNat : Nat) : Int) = μ1 r ((i.toNat : Nat) : Int) := h9
    rw [show ((i.toNat : Nat) : Int) = i by omega] at h9
    exact h9
def zHF_image (b x : Int) (μ1 : pm_Mem) : Prop := ∃ μ, zRF μ ∧ (0 ≤ μ 1 2 ∧ μ 1 2 ≤ 1) ∧ fi_C b μ x μ1
theorem zRF_image {b x y : Int} (h : zHF_image b x μ1) (hg : zIMG b μ1 y μ2) (h4 : zIM4 b μ1 μ2) (a : ∀ q ∈ zFoq, μ2 q.1 (q.2 : Int) = μ1 q.1 (q.2 : Int)) (f : ∀ q ∈ zFcf, μ2 q.1 (q.2 : Int) = μ1 q.1 (q.2 : Int)) (c : ∀ q ∈ zFcr, ∀ i : Int, 0 ≤ i → i < q.2 → μ2 q.1 i = μ1 q.1 i) : zRF μ2 ∧ x = y := by
  obtain ⟨μ, hR, h12, hC1, hC2, hC3⟩ := h
  have hR0 := hR
  obtain ⟨⟨z1, z2, z3⟩, ⟨hTq, hFa, hLa, hLi⟩, hW, hK, hI, h5⟩ := hR
  obtain ⟨⟨t11, t31, t32⟩, t5, t3⟩ := h4
  by_cases hb : b = 0
  · by_cases h0 : μ 1 2 = 0
    · -- there is no image
      obtain ⟨hx, e⟩ := hC2 hb h0
      subst e
      obtain ⟨hy, e2⟩ := hg.2.1 hb (by rw [← z3]; exact h0)
      exact ⟨zRF_told hR0 (fun k hk => by rw [e2, pm_up_ne hk]) (fun r hr _ _ _ _ => by rw [e2, pm_up_row hr]), by rw [hx, hy]⟩
    · -- told back
      obtain ⟨hx, hq, ⟨k3, k2⟩, hr⟩ := hC3 hb h0
      have u : ∀ r, 97 ≤ r → μ1 r = μ r := fun r h => hr r (by omega) (by omega)
      have v : ∀ r, 45 ≤ r → r < 96 → μ1 r = μ r := fun r h h' => hr r (by omega) (by omega)
      have h70 : μ1 205 70 ≠ 0 := by rw [u 205 (by decide), ← z3]; exact h0
      obtain ⟨hy, g70, g245, gp⟩ := hg.2.2 hb h70
      have q33 : μ1 33 1 = μ 76 1 := hq (33, 1, 2) (by decide) 1 (by decide) (by decide)
      have q35 : μ1 35 1 = μ 78 1 := hq (35, 1, 2) (by decide) 1 (by decide) (by decide)
      have q26 : μ1 26 2 = μ 69 2 := hq (26, 2, 3) (by decide) 2 (by decide) (by decide)
      have q3 : μ1 3 0 = μ 46 0 := hq (3, 0, 5) (by decide) 0 (by decide) (by decide)
      have fd : ∀ (r k : Nat), (r, k) ∈ zFcf → μ2 r (k : Int) = μ1 r (k : Int) := fun r k hm => f (r, k) hm
      have ad : ∀ (r k : Nat), (r, k) ∈ zFoq → μ2 r (k : Int) = μ1 r (k : Int) := fun r k hm => a (r, k) hm
      have e12 : μ2 1 2 = μ 1 2 := (ad 1 2 (by decide)).trans (congrFun (hr 1 (by decide) (by decide)) _)
      have i223 : ∀ i : Int, 0 ≤ i → i < 144 → μ2 223 i = μ 245 (301 + i) := fun i i0 i1 => by
        have h9 := fz_223 i.toNat (by omega)
        have h8 := gp (301 + i.toNat) (by omega) (by rw [h9]; exact fun e9 => absurd (show (223 : Nat) = 205 from e9) (by decide))
        rw [h9, u 245 (by decide)] at h8
        have h8 : μ2 223 ((i.toNat : Nat) : Int) = μ 245 (((301 + i.toNat : Nat)) : Int) := h8
        rw [show ((i.toNat : Nat) : Int) = i by omega, show (((301 + i.toNat : Nat)) : Int) = 301 + i by omega] at h8
        exact h8
      have e245 : μ2 245 = μ 245 := g245.trans (u 245 (by decide))
      have hLi2 : zLi μ2 := fun h9 => zLg_cg (hLi h0) ((fd 69 2 (by decide)).trans (congrFun (v 69 (by decide) (by decide)) _)) (fun i i0 i1 => (c (70, 64) (by decide +kernel) i i0 i1).trans (congrFun (v 70 (by decide) (by decide)) _)) (fun i i0 i1 => by rw [e245]) (Int.le_of_eq ((ad 46 0 (by decide)).trans (congrFun (v 46 (by decide) (by decide)) _)).symm)
      have hLa2 : zLa μ2 := zLg_cg (hLi h0) ((fd 26 2 (by decide)).trans q26) (fun i i0 i1 => (c (27, 64) (by decide +kernel) i i0 i1).trans (hq (27, 0, 64) (by decide) i i0 i1)) (fun i i0 i1 => i223 i i0 i1) (Int.le_of_eq ((ad 3 0 (by decide)).trans q3).symm)
      refine ⟨⟨⟨?_, ?_, ?_⟩, ⟨?_, ?_, hLa2, hLi2⟩, fz_W_cg (fz_back (μ := μ) (μ2 := μ2) (fun q hq9 hc9 i i0 i1 => ?_) (fun p hp hn => ?_)) (hI h0), ?_, fun _ => fz_W_cg (fun q hq9 i i0 i1 => ?_) (hI h0), ?_⟩, by rw [hx, hy]⟩
      · rw [show μ2 33 1 = μ1 33 1 from fd 33 1 (by decide), show μ2 35 1 = μ1 35 1 from fd 35 1 (by decide), q33, q35]; exact z2
      · rw [show μ2 76 1 = μ1 76 1 from fd 76 1 (by decide), show μ2 78 1 = μ1 78 1 from fd 78 1 (by decide), v 76 (by decide) (by decide), v 78 (by decide) (by decide)]; exact z2
      · rw [e12, g70]; omega
      · exact zTq_cg hTq ((fd 88 1 (by decide)).trans (congrFun (v 88 (by decide) (by decide)) _)) (t11.trans (by rw [u 205 (by decide)])) (fun i i0 i1 => (c (89, 400) (by decide +kernel) i i0 i1).trans (congrFun (v 89 (by decide) (by decide)) _)) (fun i i0 i1 => (c (211, 400) (by decide +kernel) i i0 i1).trans (by rw [u 211 (by decide)]))
      · exact zFaq_of ((fd 88 2 (by decide)).trans (congrFun (v 88 (by decide) (by decide)) _)) ((fd 88 3 (by decide)).trans (congrFun (v 88 (by decide) (by decide)) _)) (t31.trans (by rw [u 205 (by decide)])) (t32.trans (by rw [u 205 (by decide)])) hFa
      · rw [zFc_at a c (fz_P_c q hq9 hc9) (fz_P_wd q hq9) i0 i1]
        exact hq q (fz_P_Q q hq9 hc9) i i0 i1
      · rw [gp p hp hn, u 245 (by decide)]
      · unfold fz_K
        rw [t3 hb h70]
        exact fa_Kp_0 ((ad 96 3 (by decide)).trans k3) (by rw [show μ2 96 2 = μ1 96 2 from ad 96 2 (by decide)]; exact k2)
      · cases hc9 : Nat.ble q.1 44 with
        | true =>
          have hb9 := (show ∀ q ∈ fz_P, Nat.ble q.1 44 = true → 2 ≤ q.1 ∧ q.1 ≤ 26 by decide) q hq9 hc9
          rw [fz_im_c hc9, fz_im_c hc9, zFc_at a c (fz_P_c43 q hq9 hc9) (fz_P_wd q hq9) i0 i1, v (q.1 + 43) (by omega) (by omega)]
        | false => rw [fz_im_r hc9, fz_im_r hc9, e245]
      · rw [t5, u 205 (by decide)]; exact h5
  · -- taken
    obtain ⟨hx, h1, hq, hr⟩ := hC1 hb
    obtain ⟨hy, g70, gr, gk, gp⟩ := hg.1 hb
    have u : ∀ r, r ≠ 1 → r < 45 ∨ 87 < r → r ≠ 245 → r ≠ 205 → μ2 r = μ r := fun r r1 r2 r3 r4 => (gr r r3 r4).trans (hr r r1 r2)
    have k : ∀ j : Int, 0 < j → j < 69 → μ2 205 j = μ 205 j := fun j j0 j1 => (gk j j0 j1).trans (by rw [hr 205 (by decide) (by decide)])
    have w : ∀ q ∈ fz_Q, ∀ i : Int, (q.2.1 : Int) ≤ i → i < (q.2.2 : Int) → μ2 (q.1 + 43) i = μ q.1 i := fun q hq9 i i0 i1 => by
      have := (show ∀ q ∈ fz_Q, q.1 ≤ 44 by decide) q hq9
      rw [gr (q.1 + 43) (by omega) (by omega)]
      exact hq q hq9 i i0 i1
    have e76 : μ2 76 1 = μ 33 1 := w (33, 1, 2) (by decide) 1 (by decide) (by decide)
    have e78 : μ2 78 1 = μ 35 1 := w (35, 1, 2) (by decide) 1 (by decide) (by decide)
    have e69 : μ2 69 2 = μ 26 2 := w (26, 2, 3) (by decide) 2 (by decide) (by decide)
    have e46 : μ2 46 0 = μ 3 0 := w (3, 0, 5) (by decide) 0 (by decide) (by decide)
    have e12 : μ2 1 2 = 1 := by rw [gr 1 (by decide) (by decide)]; exact h1
    have i223 : ∀ i : Int, 0 ≤ i → i < 144 → μ2 245 (301 + i) = μ 223 i := fun i i0 i1 => by
      have h9 := fz_223 i.toNat (by omega)
      have h8 := gp (301 + i.toNat) (by omega)
      rw [h9, u 223 (by decide) (by decide) (by decide) (by decide)] at h8
      have h8 : μ2 245 (((301 + i.toNat : Nat)) : Int) = μ 223 ((i.toNat : Nat) : Int) := h8
      rw [show ((i.toNat : Nat) : Int) = i by omega, show (((301 + i.toNat : Nat)) : Int) = 301 + i by omega] at h8
      exact h8
    have hG : fz_G μ μ2 := fun q hq9 i i0 i1 => by
      have hb9 := (show ∀ q ∈ fz_P, ((2 ≤ q.1 ∧ q.1 ≤ 26) ∨ (205 ≤ q.1 ∧ q.1 ≤ 222)) ∧ (q.1 = 205 → 6 ≤ q.2.1 ∧ q.2.2 ≤ 68) by decide) q hq9
      by_cases h9 : q.1 = 205
      · have := hb9.2 h9
        rw [h9]
        exact k i (by omega) (by omega)
      · rw [u q.1 (by omega) (by omega) (by omega) h9]
    have hLa2 : zLa μ2 := zLg_cg hLa (by rw [u 26 (by decide) (by decide) (by decide) (by decide)]) (fun i i0 i1 => by rw [u 27 (by decide) (by decide) (by decide) (by decide)]) (fun i i0 i1 => by rw [u 223 (by decide) (by decide) (by decide) (by decide)]) (by rw [u 3 (by decide) (by decide) (by decide) (by decide)]; exact Int.le_refl _)
    have hLi2 : zLi μ2 := fun _ => zLg_cg hLa e69 (fun i i0 i1 => w (27, 0, 64) (by decide) i i0 i1) (fun i i0 i1 => i223 i i0 i1) (Int.le_of_eq e46.symm)
    refine ⟨⟨⟨?_, ?_, ?_⟩, ⟨?_, ?_, hLa2, hLi2⟩, fz_W_cg hG hW, ?_, fun _ => fz_W_cg (fz_take (μ := μ) (μ2 := μ2) (fun q hq9 hc9 i i0 i1 => w q (fz_P_Q q hq9 hc9) i i0 i1) gp (fun q hq9 _ i i0 i1 => hG q hq9 i i0 i1)) hW, ?_⟩, by rw [hx, hy]⟩
    · rw [u 33 (by decide) (by decide) (by decide) (by decide), u 35 (by decide) (by decide) (by decide) (by decide)]; exact z1
    · rw [e76, e78]; exact z1
    · rw [e12, g70]
    · exact zTq_cg hTq (by rw [u 88 (by decide) (by decide) (by decide) (by decide)]) (k 11 (by decide) (by decide)) (fun i i0 i1 => by rw [u 89 (by decide) (by decide) (by decide) (by decide)]) (fun i i0 i1 => by rw [u 211 (by decide) (by decide) (by decide) (by decide)])
    · exact zFaq_of (by rw [u 88 (by decide) (by decide) (by decide) (by decide)]) (by rw [u 88 (by decide) (by decide) (by decide) (by decide)]) (k 31 (by decide) (by decide)) (k 32 (by decide) (by decide)) hFa
    · unfold fz_K
      rw [k 6 (by decide) (by decide), k 7 (by decide) (by decide), k 3 (by decide) (by decide), u 209 (by decide) (by decide) (by decide) (by decide), u 207 (by decide) (by decide) (by decide) (by decide)]
      exact fa_Kp_fr hK (u 96 (by decide) (by decide) (by decide) (by decide)) (u 98 (by decide) (by decide) (by decide) (by decide)) (fun r h9 h8 => u r (by omega) (by omega) (by omega) (by omega))
    · rw [k 5 (by decide) (by decide)]; exact h5
end
theorem fa_crowd_b (N : Int → Int) (s : Int) : ∀ k : Nat, 0 ≤ fa_crowd N s k ∧ fa_crowd N s k ≤ (k : Int)
  | 0 => ⟨Int.le_refl _, Int.le_refl _⟩
  | k + 1 => by
    have h := fa_crowd_b N s k
    show 0 ≤ fa_crowd N s k + (if N (106 + (k : Int)) = s + 1 then 1 else 0) ∧ fa_crowd N s k + (if N (106 + (k : Int)) = s + 1 then 1 else 0) ≤ ((k + 1 : Nat) : Int)
    split <;> omega
