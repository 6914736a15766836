/-! F: what a contract leaves, leaves both worlds alike; the image told back -/
theorem fa_Kp_rg {n m u : Int} {pol pol' Q Q' : Int → Int} {μ μ' : pm_Mem} (hq : n ≤ 12 ∧ m ≤ 18) (h : fa_Kp n m pol Q u μ) (e2 : μ' 96 2 = μ 96 2) (e3 : μ' 96 3 = μ 96 3) (e98 : ∀ i : Int, 0 ≤ i → i < 6 → μ' 98 i = μ 98 i) (ea : ∀ k : Nat, k < 6 → ∀ j : Int, 0 ≤ j → j < 5 → μ' (99 + 13 * k) j = μ (99 + 13 * k) j) (er : ∀ k : Nat, k < 6 → ∀ q : Nat, 1 ≤ q → q ≤ 12 → ∀ i : Int, 0 ≤ i → i < fa_wd q → μ' (99 + 13 * k + q) i = μ (99 + 13 * k + q) i) (eQ : ∀ i : Int, 0 ≤ i → i < 960 → Q' i = Q i) (ep : ∀ i : Int, 0 ≤ i → i < 18 → pol' i = pol i) : fa_Kp n m pol' Q' u μ' := by
  obtain ⟨h1, h2, h3, h4⟩ := h
  refine ⟨by rw [e3]; exact h1, h2, by rw [e2]; exact h3, fun j j0 j1 k k6 hk => ?_⟩
  rw [e2] at hk
  obtain ⟨hA, hb, hI, hO⟩ := h4 j j0 j1 k k6 hk
  have eN : ∀ i : Int, 0 ≤ i → i < 160 → fa_row Q' (u - 1 - j) i = fa_row Q (u - 1 - j) i := fun i i0 i1 => by
    unfold fa_row
    exact eQ _ (by omega) (by omega)
  refine ⟨fa_A_tr hq (ea k k6) (er k k6) eN ep hA, ?_, fa_I_cg hq eN hI, fa_O_cg hq hI eN hO⟩
  rw [e98 _ (by omega) (by omega), eN 3 (by decide) (by decide)]
  exact hb
/-- single fields -/
def zFoq : List (Nat × Nat) := [(2, 2), (3, 0), (3, 1), (3, 2), (3, 3), (3, 4), (17, 2), (20, 2), (23, 2), (26, 2), (69, 2), (45, 2), (46, 0), (46, 1), (46, 2), (46, 3), (46, 4), (60, 2), (63, 2), (66, 2), (96, 2), (96, 3), (99, 0), (99, 1), (99, 2), (99, 3), (99, 4), (112, 0), (112, 1), (112, 2), (112, 3), (112, 4), (125, 0), (125, 1), (125, 2), (125, 3), (125, 4), (138, 0), (138, 1), (138, 2), (138, 3), (138, 4), (151, 0), (151, 1), (151, 2), (151, 3), (151, 4), (164, 0), (164, 1), (164, 2), (164, 3), (164, 4), (1, 2)]
/-- rows -/
def zFwq (b : Nat) : List (Nat × Nat) := (List.range 12).map (fun q => (b + 1 + q, if q ≤ 6 then 12 else 18))
def zFrq : List (Nat × Nat) := zFwq 3 ++ zFwq 46 ++ zFwq 99 ++ zFwq 112 ++ zFwq 125 ++ zFwq 138 ++ zFwq 151 ++ zFwq 164 ++ [(16, 750), (18, 64), (19, 400), (21, 64), (24, 64), (59, 750), (61, 64), (62, 400), (64, 64), (67, 64), (98, 6), (206, 160), (207, 960), (209, 18), (210, 750), (213, 1), (214, 16), (215, 16), (216, 16), (217, 16), (218, 400), (219, 400), (221, 48), (222, 64), (245, 2128)]
def zF5 : List (Nat × Nat) := [(205, 3), (205, 5), (205, 6), (205, 7), (205, 33), (205, 35), (205, 37)]
set_option maxRecDepth 100000 in
theorem zFrq_t : ∀ q ∈ zFrq, zrA q.1 q.2 = true := by decide +kernel
/-- what stays of all that the worlds hold -/
def zFf (μ μ' : pm_Mem) : Prop := (∀ q ∈ zFoq, μ' q.1 (q.2 : Int) = μ q.1 (q.2 : Int)) ∧ (∀ q ∈ zFrq, ∀ i : Int, 0 ≤ i → i < q.2 → μ' q.1 i = μ q.1 i) ∧ ∀ q ∈ zF5, μ' q.1 (q.2 : Int) = μ q.1 (q.2 : Int)
noncomputable def fz_Pb (q : Nat × Nat × Nat) : Bool := (Nat.beq q.1 205 && (List.range 750).all (fun k => Nat.blt k q.2.1 || Nat.ble q.2.2 k || decide ((205, k) ∈ zF5))) || (Nat.beq q.2.1 0 && decide ((q.1, q.2.2) ∈ zFrq)) || (List.range 750).all (fun k => Nat.blt k q.2.1 || Nat.ble q.2.2 k || decide ((q.1, k) ∈ zFoq))
theorem fz_P_b : ∀ q ∈ fz_P, fz_Pb q = true := by decide +kernel
theorem fz_P_in : ∀ q ∈ fz_P, (q.1 = 205 ∧ ∀ k : Nat, k < 750 → q.2.1 ≤ k → k < q.2.2 → (205, k) ∈ zF5) ∨ (q.2.1 = 0 ∧ (q.1, q.2.2) ∈ zFrq) ∨ (∀ k : Nat, k < 750 → q.2.1 ≤ k → k < q.2.2 → (q.1, k) ∈ zFoq) := fun q hq => by
  have h := fz_P_b q hq
  unfold fz_Pb at h
  simp only [Bool.or_eq_true, Bool.and_eq_true, List.all_eq_true, List.mem_range, Nat.blt_eq, Nat.ble_eq, decide_eq_true_eq, Nat.beq_eq_true_eq] at h
  rcases h with (⟨h1, h2⟩ | ⟨h1, h2⟩) | h2
  · refine Or.inl ⟨Nat.eq_of_beq_eq_true h1, fun k a b c => ?_⟩
    rcases h2 k a with (h3 | h3) | h3
    · omega
    · omega
    · exact h3
  · exact Or.inr (Or.inl ⟨Nat.eq_of_beq_eq_true h1, h2⟩)
  · refine Or.inr (Or.inr fun k a b c => ?_)
    rcases h2 k a with (h3 | h3) | h3
    · omega
    · omega
    · exact h3
theorem fz_P_i43 : ∀ q ∈ fz_P, Nat.ble q.1 44 = true → (q.2.1 = 0 ∧ (q.1 + 43, q.2.2) ∈ zFrq) ∨ (∀ k : Nat, k < 750 → q.2.1 ≤ k → k < q.2.2 → (q.1 + 43, k) ∈ zFoq) := by decide +kernel
theorem fz_P_wd : ∀ q ∈ fz_P, q.2.2 ≤ 750 := by decide
section
variable {μ μ' : pm_Mem}
theorem zFf_G (h : zFf μ μ') : fz_G μ μ' := fun q hq i i0 i1 => by
  have hw := fz_P_wd q hq
  have ei : ((i.toNat : Nat) : Int) = i := by omega
  rcases fz_P_in q hq with ⟨h1, h2⟩ | ⟨h1, h2⟩ | h2
  · have h9 := h.2.2 (205, i.toNat) (h2 i.toNat (by omega) (by omega) (by omega))
    have h9 : μ' 205 ((i.toNat : Nat) : Int) = μ 205 ((i.toNat : Nat) : Int) := h9
    rw [ei] at h9
    rw [h1]
    exact h9
  · exact h.2.1 (q.1, q.2.2) h2 i (by omega) i1
  · have h9 := h.1 (q.1, i.toNat) (h2 i.toNat (by omega) (by omega) (by omega))
    have h9 : μ' q.1 ((i.toNat : Nat) : Int) = μ q.1 ((i.toNat : Nat) : Int) := h9
    rw [ei] at h9
    exact h9
theorem zFf_im (h : zFf μ μ') : fz_G (fz_im μ) (fz_im μ') := fun q hq i i0 i1 => by
  have hw := fz_P_wd q hq
  have ei : ((i.toNat : Nat) : Int) = i := by omega
  cases hc : Nat.ble q.1 44 with
  | true =>
    rw [fz_im_c hc, fz_im_c hc]
    rcases fz_P_i43 q hq hc with ⟨h1, h2⟩ | h2
    · exact h.2.1 (q.1 + 43, q.2.2) h2 i (by omega) i1
    · have h9 := h.1 (q.1 + 43, i.toNat) (h2 i.toNat (by omega) (by omega) (by omega))
      have h9 : μ' (q.1 + 43) ((i.toNat : Nat) : Int) = μ (q.1 + 43) ((i.toNat : Nat) : Int) := h9
      rw [ei] at h9
      exact h9
  | false =>
    have hp := (fz_pl q hq hc i.toNat (by omega) (by omega) (by omega)).1
    rw [fz_im_r hc, fz_im_r hc]
    exact h.2.1 (245, 2128) (by decide +kernel) _ (by omega) (by show ((zPp q.1 i.toNat : Nat) : Int) < ((2128 : Nat) : Int); omega)
theorem zFf_A (h : zFf μ μ') : ∀ k : Nat, k < 6 → ∀ j : Int, 0 ≤ j → j < 5 → μ' (99 + 13 * k) j = μ (99 + 13 * k) j := fun k hk j j0 j1 => by
  have hm := (show ∀ k : Nat, k < 6 → ∀ j : Nat, j < 5 → (99 + 13 * k, j) ∈ zFoq by decide) k hk j.toNat (by omega)
  have h9 := h.1 _ hm
  have h9 : μ' (99 + 13 * k) ((j.toNat : Nat) : Int) = μ (99 + 13 * k) ((j.toNat : Nat) : Int) := h9
  rw [show ((j.toNat : Nat) : Int) = j by omega] at h9
  exact h9
theorem zFf_R (h : zFf μ μ') : ∀ k : Nat, k < 6 → ∀ q : Nat, 1 ≤ q → q ≤ 12 → ∀ i : Int, 0 ≤ i → i < fa_wd q → μ' (99 + 13 * k + q) i = μ (99 + 13 * k + q) i := fun k hk q q1 q2 i i0 i1 => by
  have hm : (99 + 13 * k + q, if q ≤ 7 then 12 else 18) ∈ zFrq := by
    have h9 := List.all_eq_true.mp (List.all_eq_true.mp (show (List.range 6).all (fun k => (List.range 13).all (fun q => Nat.beq q 0 || decide ((99 + 13 * k + q, if q ≤ 7 then 12 else 18) ∈ zFrq))) = true by decide +kernel) k (List.mem_range.mpr hk)) q (List.mem_range.mpr (by omega))
    rcases Bool.or_eq_true_iff.mp h9 with h8 | h8
    · have := Nat.eq_of_beq_eq_true h8
      omega
    · exact of_decide_eq_true h8
  refine h.2.1 _ hm i i0 ?_
  unfold fa_wd at i1
  show i < (((if q ≤ 7 then 12 else 18) : Nat) : Int)
  by_cases h7 : q ≤ 7
  · rw [if_pos h7] at i1 ⊢; exact i1
  · rw [if_neg h7] at i1 ⊢; exact i1
theorem zRF_ff (hR : zRF μ) (h : zFf μ μ') (hz : zRFz μ') (hE : zRex μ') : zRF μ' := by
  obtain ⟨-, -, hW, hK, hI, h5⟩ := hR
  have hnm : μ 205 6 ≤ 12 ∧ μ 205 7 ≤ 18 := ⟨hW.2.2.2.1.1.2, hW.2.2.2.1.2.2⟩
  have f5 : ∀ k : Nat, (205, k) ∈ zF5 → μ' 205 (k : Int) = μ 205 (k : Int) := fun k hk => h.2.2 (205, k) hk
  have e6 : μ' 205 6 = μ 205 6 := f5 6 (by decide)
  have e7 : μ' 205 7 = μ 205 7 := f5 7 (by decide)
  have e3 : μ' 205 3 = μ 205 3 := f5 3 (by decide)
  refine ⟨hz, hE, fz_W_cg (zFf_G h) hW, ?_, fun h12 => ?_, by rw [show μ' 205 5 = μ 205 5 from f5 5 (by decide)]; exact h5⟩
  · unfold fz_K
    rw [e6, e7, e3]
    exact fa_Kp_rg hnm hK (h.1 (96, 2) (by decide)) (h.1 (96, 3) (by decide)) (fun i i0 i1 => h.2.1 (98, 6) (by decide +kernel) i i0 i1) (zFf_A h) (zFf_R h) (fun i i0 i1 => h.2.1 (207, 960) (by decide +kernel) i i0 i1) (fun i i0 i1 => h.2.1 (209, 18) (by decide +kernel) i i0 i1)
  · have e12 : μ' 1 2 = μ 1 2 := h.1 (1, 2) (by decide)
    rw [e12] at h12
    exact fz_W_cg (zFf_im h) (hI h12)
end
noncomputable def zRFok (W : Nat) : Bool := zRTok W && (zFoq.all (fun q => zfrc W q.1 q.2) && zRak W zFrq)
theorem zRF_fr {W : Nat} {μ μ' : pm_Mem} (h : ∀ (r : Nat) (g : sx_Rg) (k : Nat) (t : sx_Ty), sx_bit W r = false → r < zNR → zRT2 r = some g → g.1 ≤ 2 → k < sx_wd g → sx_ft g k = some t → t.1 ≤ 1 → μ' r (k : Int) = μ r (k : Int)) (hc : zRFok W = true) (hz : ∀ q ∈ sx_Fz, μ' q.1 (q.2 : Int) = μ q.1 (q.2 : Int)) (h5 : ∀ q ∈ zF5, q ∈ sx_Fz) (hR : zRF μ) : zRF μ' := by
  obtain ⟨c1, c2⟩ := Bool.and_eq_true_iff.mp hc
  obtain ⟨c2, c3⟩ := Bool.and_eq_true_iff.mp c2
  have hT := zRT_fr h c1 hz (zRT_F hR)
  exact zRF_ff hR ⟨zRi_fr h c2, zRl_fr h zFrq_t c3, fun q hq => hz q (h5 q hq)⟩ ⟨hT.1.2.1, hT.1.2.2.1, hT.1.2.2.2.1⟩ hT.2
