/-! between the law's calls: counts, the tape, what is wrong in a text, the lanes and their image -/
theorem zlw_cg {C C' : Int → Int} {m : Nat} (h : ∀ i : Int, 0 ≤ i → i < 4 * (m : Int) → C' i = C i) (a b : Int) : zlw C' m a b = zlw C m a b := zst_cg (fun s hs => ⟨h _ (by omega) (by omega), h _ (by omega) (by omega), h _ (by omega) (by omega)⟩) a b
theorem zLn2_cg {C C' F F' : Int → Int} {m : Nat} (h : zLn2 C m F) (hC : ∀ i : Int, 0 ≤ i → i < 64 → C' i = C i) (hF : ∀ i : Int, 0 ≤ i → i < 144 → F' i = F i) : zLn2 C' m F' := by
  obtain ⟨h1, h2, h3⟩ := h
  refine ⟨h1, fun t ht => ?_, fun a b a0 a1 b0 b1 => ?_⟩
  · have e : C' ((t : Int) * 4 + 2) = C ((t : Int) * 4 + 2) := hC _ (by omega) (by omega)
    rw [e]
    exact h2 t ht
  · have e : F' (12 * a + b) = F (12 * a + b) := hF _ (by omega) (by omega)
    rw [e, zlw_cg (fun i i0 i1 => hC i i0 (by omega)) a b]
    exact h3 a b a0 a1 b0 b1
theorem zLsh_cg {C C' : Int → Int} {m : Nat} {s s' : Int} (h : zLsh C m s) (hm : m ≤ 16) (hC : ∀ i : Int, 0 ≤ i → i < 64 → C' i = C i) (hs : s ≤ s') : zLsh C' m s' := fun t ht => by
  have e0 : C' ((t : Int) * 4 + 0) = C ((t : Int) * 4 + 0) := hC _ (by omega) (by omega)
  have e1 : C' ((t : Int) * 4 + 1) = C ((t : Int) * 4 + 1) := hC _ (by omega) (by omega)
  rw [e0, e1]
  have := h t ht
  omega
/-- lanes told by a row and how many, alike the reference's steps -/
def zLg (n : Int) (C F : Int → Int) (sh : Int) : Prop := ∃ m : Nat, n = (m : Int) ∧ zLn2 C m F ∧ zLsh C m sh
theorem zLg_cg {n n' sh sh' : Int} {C C' F F' : Int → Int} (h : zLg n C F sh) (hn : n' = n) (hC : ∀ i : Int, 0 ≤ i → i < 64 → C' i = C i) (hF : ∀ i : Int, 0 ≤ i → i < 144 → F' i = F i) (hs : sh ≤ sh') : zLg n' C' F' sh' := by
  obtain ⟨m, h1, h2, h3⟩ := h
  exact ⟨m, by rw [hn, h1], zLn2_cg h2 hC hF, zLsh_cg h3 h2.1 hC hs⟩
/-- the image's lanes -/
def zLi (μ : pm_Mem) : Prop := μ 1 2 ≠ 0 → zLg (μ 69 2) (μ 70) (fun i => μ 245 (301 + i)) (μ 46 0)
def zFaq (μ : pm_Mem) : Prop := True
theorem zFaq_of {μ μ' : pm_Mem} (a : μ' 88 2 = μ 88 2) (b : μ' 88 3 = μ 88 3) (c : μ' 205 31 = μ 205 31) (d : μ' 205 32 = μ 205 32) (h : zFaq μ) : zFaq μ' := h
theorem zFaq_is {μ : pm_Mem} (a : μ 205 31 = μ 88 2) (b : μ 205 32 = μ 88 3) : zFaq μ := trivial
/-- what isn't a count -/
def zTq (μ : pm_Mem) : Prop := μ 88 1 ≤ 400 ∧ zTp μ μ
def zRex (μ : pm_Mem) : Prop := zTq μ ∧ zFaq μ ∧ zLa μ ∧ zLi μ
def zRT (μ : pm_Mem) : Prop := zR μ ∧ zRex μ
def zXo : List (Nat × Nat) := [(88, 1), (88, 2), (88, 3), (26, 2), (69, 2)]
def zXr : List (Nat × Nat) := [(89, 400), (211, 400), (27, 64), (70, 64), (223, 144), (245, 445)]
def zX2 : List (Nat × Nat) := [(205, 11), (205, 31), (205, 32)]
set_option maxRecDepth 100000 in
theorem zXr_t : ∀ q ∈ zXr, zrA q.1 q.2 = true := by decide +kernel
def zXf (μ μ' : pm_Mem) : Prop := (∀ q ∈ zXo, μ' q.1 (q.2 : Int) = μ q.1 (q.2 : Int)) ∧ (∀ q ∈ zXr, ∀ i : Int, 0 ≤ i → i < q.2 → μ' q.1 i = μ q.1 i) ∧ ∀ q ∈ zX2, μ' q.1 (q.2 : Int) = μ q.1 (q.2 : Int)
noncomputable def zXok (W : Nat) : Bool := zXo.all (fun q => zfrc W q.1 q.2) && zRak W zXr
theorem zXf_fr {W : Nat} {μ μ' : pm_Mem} (h : ∀ (r : Nat) (g : sx_Rg) (k : Nat) (t : sx_Ty), sx_bit W r = false → r < zNR → zRT2 r = some g → g.1 ≤ 2 → k < sx_wd g → sx_ft g k = some t → t.1 ≤ 1 → μ' r (k : Int) = μ r (k : Int)) (hc : zXok W = true) (h2 : ∀ q ∈ zX2, μ' q.1 (q.2 : Int) = μ q.1 (q.2 : Int)) : zXf μ μ' := by
  obtain ⟨c1, c2⟩ := Bool.and_eq_true_iff.mp hc
  exact ⟨zRi_fr h c1, zRl_fr h zXr_t c2, h2⟩
theorem zRex_of {μ μ' : pm_Mem} (a30 : μ 3 0 ≤ μ' 3 0) (a460 : μ' 46 0 = μ 46 0) (a12 : μ' 1 2 = μ 1 2) (hX : zXf μ μ') (h : zRex μ) : zRex μ' := by
  obtain ⟨x1, x2, x3⟩ := hX
  obtain ⟨⟨hl, h1, h2⟩, h3, h4, h5⟩ := h
  have e88 : μ' 88 1 = μ 88 1 := x1 (88, 1) (by decide)
  have e205 : μ' 205 11 = μ 205 11 := x3 (205, 11) (by decide)
  have e26 : μ' 26 2 = μ 26 2 := x1 (26, 2) (by decide)
  have e69 : μ' 69 2 = μ 69 2 := x1 (69, 2) (by decide)
  have hL : zTq μ' := ⟨by rw [e88]; exact hl, by rw [e88, e205]; exact h1, fun x x0 x1 => by
    rw [e88] at x1
    have r1 : μ' 89 x = μ 89 x := x2 (89, 400) (by decide) x x0 (by show x < ((400 : Nat) : Int); omega)
    have r2 : μ' 211 x = μ 211 x := x2 (211, 400) (by decide) x x0 (by show x < ((400 : Nat) : Int); omega)
    rw [r1, r2]
    exact h2 x x0 x1⟩
  refine ⟨hL, zFaq_of (x1 (88, 2) (by decide)) (x1 (88, 3) (by decide)) (x3 (205, 31) (by decide)) (x3 (205, 32) (by decide)) h3, ?_, fun h12 => ?_⟩
  · exact zLg_cg h4 e26 (fun i i0 i1 => x2 (27, 64) (by decide) i i0 (by show i < ((64 : Nat) : Int); omega)) (fun i i0 i1 => x2 (223, 144) (by decide) i i0 (by show i < ((144 : Nat) : Int); omega)) a30
  · rw [a12] at h12
    exact zLg_cg (h5 h12) e69 (fun i i0 i1 => x2 (70, 64) (by decide) i i0 (by show i < ((64 : Nat) : Int); omega)) (fun i i0 i1 => x2 (245, 445) (by decide) (301 + i) (by omega) (by show 301 + i < ((445 : Nat) : Int); omega)) (by rw [a460]; exact Int.le_refl _)
noncomputable def zRTok (W : Nat) : Bool := zRok W && zXok W
theorem zRT_fr {W : Nat} {μ μ' : pm_Mem} (h : ∀ (r : Nat) (g : sx_Rg) (k : Nat) (t : sx_Ty), sx_bit W r = false → r < zNR → zRT2 r = some g → g.1 ≤ 2 → k < sx_wd g → sx_ft g k = some t → t.1 ≤ 1 → μ' r (k : Int) = μ r (k : Int)) (hc : zRTok W = true) (hz : ∀ q ∈ sx_Fz, μ' q.1 (q.2 : Int) = μ q.1 (q.2 : Int)) (hR : zRT μ) : zRT μ' := by
  obtain ⟨c1, c2⟩ := Bool.and_eq_true_iff.mp hc
  have hp := zRi_fr h (Bool.and_eq_true_iff.mp c1).1
  exact ⟨zR_fr h c1 hz hR.1, zRex_of (Int.le_of_eq (hz (3, 0) (by decide)).symm) (hp (46, 0) (by decide)) (hp (1, 2) (by decide)) (zXf_fr h c2 (fun q hq => hz q ((show ∀ q ∈ zX2, q ∈ sx_Fz by decide) q hq))) hR.2⟩
/-- a method of the class: by what it keeps -/
noncomputable def zRTk (W : Nat) : Bool := zRi.all (fun q => zfrc W q.1 q.2) && [(205, 6), (205, 7), (205, 70)].all (fun q => zfrc W q.1 q.2) && zX2.all (fun q => zfrc W q.1 q.2) && zXok W
/-- its errand -/
theorem zRT_e {μ μ' : pm_Mem} (a : ∀ q, q ≠ 33 → q ≠ 34 → q ≠ 35 → q ≠ 36 → μ' q = μ q) (b : μ' 33 1 = μ' 35 1) (h : zRT μ) : zRT μ' := by
  have d0 : ∀ q ∈ zXo, q.1 ≠ 33 ∧ q.1 ≠ 34 ∧ q.1 ≠ 35 ∧ q.1 ≠ 36 := by decide
  have d1 : ∀ q ∈ zXr, q.1 ≠ 33 ∧ q.1 ≠ 34 ∧ q.1 ≠ 35 ∧ q.1 ≠ 36 := by decide
  have d2 : ∀ q ∈ zX2, q.1 ≠ 33 ∧ q.1 ≠ 34 ∧ q.1 ≠ 35 ∧ q.1 ≠ 36 := by decide
  refine ⟨zR_e a b h.1, zRex_of ?_ ?_ ?_ ⟨fun q hq => ?_, fun q hq i _ _ => ?_, fun q hq => ?_⟩ h.2⟩
  · rw [a 3 (by decide) (by decide) (by decide) (by decide)]
    exact Int.le_refl _
  · rw [a 46 (by decide) (by decide) (by decide) (by decide)]
  · rw [a 1 (by decide) (by decide) (by decide) (by decide)]
  · rw [a q.1 (d0 q hq).1 (d0 q hq).2.1 (d0 q hq).2.2.1 (d0 q hq).2.2.2]
  · rw [a q.1 (d1 q hq).1 (d1 q hq).2.1 (d1 q hq).2.2.1 (d1 q hq).2.2.2]
  · rw [a q.1 (d2 q hq).1 (d2 q hq).2.1 (d2 q hq).2.2.1 (d2 q hq).2.2.2]
/-- where it all begins -/
theorem zRT_0 {μ : pm_Mem} (h : zR μ) (e1 : μ 88 1 = 0) (e2 : μ 205 11 = 0) (e26 : μ 26 2 = 0) (e12 : μ 1 2 = 0) (e223 : ∀ z : Int, 0 ≤ z → z < 144 → μ 223 z = 0) (hf : zFaq μ) : zRT μ := by
  refine ⟨h, ⟨by omega, by omega, fun x x0 x1 => absurd x1 (by omega)⟩, hf, ⟨0, e26, ⟨by decide, fun t ht => absurd ht (by omega), fun a b a0 a1 b0 b1 => ?_⟩, fun t ht => absurd ht (by omega)⟩, fun h12 => absurd e12 h12⟩
  rw [e223 _ (by omega) (by omega)]
  rfl
def zHs_shop (a b : Int) (μ : pm_Mem) : Prop := zHn_shop a b μ ∧ zRex μ
def zHs_customer (a b : Int) (μ : pm_Mem) : Prop := zHn_customer a b μ ∧ zRex μ
/-- the tape alone changes -/
theorem zRT_tp {μ μ2 : pm_Mem} (a : ∀ r, r ≠ 88 → r ≠ 89 → r ≠ 205 → r ≠ 211 → μ2 r = μ r) (b : ∀ k : Int, k ≠ 1 → μ2 88 k = μ 88 k) (c : ∀ k : Int, k ≠ 0 → k ≠ 11 → μ2 205 k = μ 205 k) (ht : zTq μ2) (h : zRT μ) : zRT μ2 := by
  obtain ⟨hR, -, h3, h4, h5⟩ := h
  have d0 : ∀ q ∈ zRq, q.1 ≠ 88 ∧ q.1 ≠ 89 ∧ q.1 ≠ 205 ∧ q.1 ≠ 211 := by decide
  have d1 : ∀ q ∈ zRi, q.1 ≠ 88 ∧ q.1 ≠ 89 ∧ q.1 ≠ 205 ∧ q.1 ≠ 211 := by decide
  have e0 : ∀ q ∈ zRq, μ2 q.1 (q.2 : Int) = μ q.1 (q.2 : Int) := fun q hq => by rw [a q.1 (d0 q hq).1 (d0 q hq).2.1 (d0 q hq).2.2.1 (d0 q hq).2.2.2]
  have d2 : ∀ q ∈ [(205, 6), (205, 7), (205, 70)], q.1 = 205 ∧ ((q.2 : Nat) : Int) ≠ 0 ∧ ((q.2 : Nat) : Int) ≠ 11 := by decide
  have a26 := a 26 (by decide) (by decide) (by decide) (by decide)
  have a27 := a 27 (by decide) (by decide) (by decide) (by decide)
  have a223 := a 223 (by decide) (by decide) (by decide) (by decide)
  have a3 := a 3 (by decide) (by decide) (by decide) (by decide)
  refine ⟨zR_of ⟨fun q hq => e0 q (zRo_of hq), fun hk => zKw_of (fun q hq => e0 q (zRk_of hq)) (by rw [a3]) (by rw [a3]) hk⟩ (fun q hq => by rw [a q.1 (d1 q hq).1 (d1 q hq).2.1 (d1 q hq).2.2.1 (d1 q hq).2.2.2]) (fun q hq => by rw [(d2 q hq).1]; exact c _ (d2 q hq).2.1 (d2 q hq).2.2) hR, ht, zFaq_of (b 2 (by decide)) (b 3 (by decide)) (c 31 (by decide) (by decide)) (c 32 (by decide) (by decide)) h3, ?_, fun h12 => ?_⟩
  · exact zLg_cg h4 (by rw [a26]) (fun i _ _ => by rw [a27]) (fun i _ _ => by rw [a223]) (by rw [a3]; exact Int.le_refl _)
  · rw [a 1 (by decide) (by decide) (by decide) (by decide)] at h12
    exact zLg_cg (h5 h12) (by rw [a 69 (by decide) (by decide) (by decide) (by decide)]) (fun i _ _ => by rw [a 70 (by decide) (by decide) (by decide) (by decide)]) (fun i _ _ => by rw [a 245 (by decide) (by decide) (by decide) (by decide)]) (by rw [a 46 (by decide) (by decide) (by decide) (by decide)]; exact Int.le_refl _)
def zHfeed (u v w y z : Int) (μ1 : pm_Mem) : Prop := ∃ μ, zRT μ ∧ (∀ r, r ≠ 88 → r ≠ 89 → μ1 r = μ r) ∧ (∀ k : Int, k ≠ 1 → μ1 88 k = μ 88 k) ∧ ((μ 88 1 ≤ 380 ∧ μ1 88 1 = μ 88 1 + 20 ∧ μ1 89 = zfd (μ 89) (μ 88 1) u v w y z) ∨ (380 < μ 88 1 ∧ μ1 88 1 = μ 88 1 ∧ μ1 89 = μ 89))
theorem zRT_feed {u v w y z n : Int} {μ1 μ2 : pm_Mem} (h : zHfeed u v w y z μ1) (hn : μ1 205 11 = n) (a : ∀ r, r ≠ 205 → r ≠ 211 → μ2 r = μ1 r) (c : ∀ k : Int, k ≠ 0 → k ≠ 11 → μ2 205 k = μ1 205 k) (d : (n ≤ 380 ∧ μ2 205 11 = n + 20 ∧ μ2 211 = zfd (μ1 211) n u v w y z) ∨ (380 < n ∧ μ2 205 11 = n ∧ μ2 211 = μ1 211)) : zRT μ2 := by
  obtain ⟨μ, hR, e1, e2, e3⟩ := h
  obtain ⟨hl, t1, t2⟩ := hR.2.1
  have f205 := e1 205 (by decide) (by decide)
  have f211 := e1 211 (by decide) (by decide)
  have g88 := a 88 (by decide) (by decide)
  have g89 := a 89 (by decide) (by decide)
  have hn' : n = μ 88 1 := by rw [← hn, f205, t1]
  refine zRT_tp (fun r r1 r2 r3 r4 => (a r r3 r4).trans (e1 r r1 r2)) (fun k hk => by rw [g88]; exact e2 k hk) (fun k k0 k1 => (c k k0 k1).trans (by rw [f205])) ?_ hR
  rcases e3 with ⟨p1, p2, p3⟩ | ⟨p1, p2, p3⟩
  · rcases d with ⟨q1, q2, q3⟩ | ⟨q1, -, -⟩
    · refine ⟨by rw [g88, p2]; omega, by rw [g88, p2, q2, hn'], fun x x0 x1 => ?_⟩
      rw [g88, p2] at x1
      rw [g89, p3, q3, f211, hn']
      exact zfd_cg t2 x x0 x1
    · omega
  · rcases d with ⟨q1, -, -⟩ | ⟨q1, q2, q3⟩
    · omega
    · refine ⟨by rw [g88, p2]; exact hl, by rw [g88, p2, q2, hn'], fun x x0 x1 => ?_⟩
      rw [g88, p2] at x1
      rw [g89, p3, q3, f211]
      exact t2 x x0 x1
def zHend (u : Int) (μ1 : pm_Mem) : Prop := ∃ μ, zRT μ ∧ (∀ r, r ≠ 88 → μ1 r = μ r) ∧ (∀ k : Int, k ≠ 1 → μ1 88 k = μ 88 k) ∧ (((0 ≤ u ∧ u ≤ μ 88 1) ∧ μ1 88 1 = u) ∨ (¬ (0 ≤ u ∧ u ≤ μ 88 1) ∧ μ1 88 1 = μ 88 1))
theorem zRT_end {u n : Int} {μ1 μ2 : pm_Mem} (h : zHend u μ1) (hn : μ1 205 11 = n) (a : ∀ r, r ≠ 205 → μ2 r = μ1 r) (c : ∀ k : Int, k ≠ 0 → k ≠ 11 → μ2 205 k = μ1 205 k) (d : ((0 ≤ u ∧ u ≤ n) ∧ μ2 205 11 = u) ∨ (¬ (0 ≤ u ∧ u ≤ n) ∧ μ2 205 11 = n)) : zRT μ2 := by
  obtain ⟨μ, hR, e1, e2, e3⟩ := h
  obtain ⟨hl, t1, t2⟩ := hR.2.1
  have f205 := e1 205 (by decide)
  have g88 := a 88 (by decide)
  have hn' : n = μ 88 1 := by rw [← hn, f205, t1]
  refine zRT_tp (fun r r1 _ r3 _ => (a r r3).trans (e1 r r1)) (fun k hk => by rw [g88]; exact e2 k hk) (fun k k0 k1 => (c k k0 k1).trans (by rw [f205])) ?_ hR
  have g89 : μ2 89 = μ 89 := (a 89 (by decide)).trans (e1 89 (by decide))
  have g211 : μ2 211 = μ 211 := (a 211 (by decide)).trans (e1 211 (by decide))
  have hl2 : μ2 88 1 = μ2 205 11 ∧ μ2 88 1 ≤ μ 88 1 := by
    rw [g88]
    rcases e3 with ⟨p1, p2⟩ | ⟨p1, p2⟩
    · rcases d with ⟨q1, q2⟩ | ⟨q1, q2⟩
      · exact ⟨by rw [p2, q2], by omega⟩
      · exact absurd (by rw [hn']; exact p1) q1
    · rcases d with ⟨q1, q2⟩ | ⟨q1, q2⟩
      · exact absurd (by rw [hn'] at q1; exact q1) p1
      · exact ⟨by rw [p2, q2, hn'], by omega⟩
  exact ⟨by omega, hl2.1, fun x x0 x1 => by rw [g89, g211]; exact t2 x x0 (by omega)⟩
/-- a text -/
theorem zRT_text {k x : Int} {μ μ1 μ2 : pm_Mem} (hR : zRT μ) (hc : zTxc k μ x μ1) (he : zTxe μ μ1 μ2) : zRT μ2 := by
  obtain ⟨c1, c2, c3, c4, -, -⟩ := hc
  obtain ⟨r1, r2, r3, ⟨r4, r5⟩, r6⟩ := he
  obtain ⟨h1, h2, h3, h4, h5⟩ := hR
  have e : ∀ q, (q < 17 ∨ 28 < q) → (q < 88 ∨ q = 89 ∨ 96 < q) → q ≠ 205 → (q < 213 ∨ 223 < q) → μ2 q = μ q := fun q a b c d => (r2 q c d).trans (c2 q a b)
  have e3 := e 3 (by omega) (by omega) (by omega) (by omega)
  have d0 : ∀ q ∈ zRo, (q.1 < 17 ∨ 28 < q.1) ∧ (q.1 < 88 ∨ q.1 = 89 ∨ 96 < q.1) ∧ q.1 ≠ 205 ∧ (q.1 < 213 ∨ 223 < q.1) := by decide
  have d1 : ∀ q ∈ zRk, q = (96, 3) ∨ q = (96, 2) ∨ ((q.1 < 17 ∨ 28 < q.1) ∧ (q.1 < 88 ∨ q.1 = 89 ∨ 96 < q.1) ∧ q.1 ≠ 205 ∧ (q.1 < 213 ∨ 223 < q.1)) := by decide
  have d2 : ∀ q ∈ zRi, (q.1 < 17 ∨ 28 < q.1) ∧ (q.1 < 88 ∨ q.1 = 89 ∨ 96 < q.1) ∧ q.1 ≠ 205 ∧ (q.1 < 213 ∨ 223 < q.1) := by decide
  have d3 : ∀ q ∈ [(205, 6), (205, 7), (205, 70)], q.1 = 205 ∧ (((q.2 : Nat) : Int) = 6 ∨ ((q.2 : Nat) : Int) = 7 ∨ ((q.2 : Nat) : Int) = 70) := by decide
  have f205 : μ1 205 = μ 205 := c2 205 (by omega) (by omega)
  have f223 : μ1 223 = μ 223 := c2 223 (by omega) (by omega)
  have f3 : μ1 3 = μ 3 := c2 3 (by omega) (by omega)
  have g96 : μ2 96 = μ1 96 := r2 96 (by omega) (by omega)
  have g88 : μ2 88 = μ1 88 := r2 88 (by omega) (by omega)
  refine ⟨zR_of ⟨fun q hq => ?_, fun hk => ?_⟩ (fun q hq => ?_) (fun q hq => ?_) h1, ⟨by rw [g88, c1]; decide, by rw [g88, c1, r1], fun x x0 x1 => ?_⟩, zFaq_is (by rw [g88]; exact r4) (by rw [g88]; exact r5), r6 h4 (by rw [f3]) (fun i _ _ => by rw [f223]), fun h12 => ?_⟩
  · obtain ⟨a, b, c, d⟩ := d0 q hq
    rw [e q.1 a b c d]
  · rcases c4 with c4 | c4
    · exact zKw_0 (by rw [g96]; exact c4)
    · refine zKw_of (fun q hq => ?_) (by rw [e3]) (by rw [e3]) hk
      rcases d1 q hq with rfl | rfl | ⟨a, b, c, d⟩
      · show μ2 96 3 = μ 96 3
        rw [g96]
        exact c4
      · show μ2 96 2 = μ 96 2
        rw [g96]
        exact c3 2 (by decide)
      · rw [e q.1 a b c d]
  · obtain ⟨a, b, c, d⟩ := d2 q hq
    rw [e q.1 a b c d]
  · obtain ⟨a, b⟩ := d3 q hq
    rw [a, r3 _ b, f205]
  · rw [g88, c1] at x1
    omega
  · rw [e 1 (by omega) (by omega) (by omega) (by omega)] at h12
    exact zLg_cg (h5 h12) (by rw [e 69 (by omega) (by omega) (by omega) (by omega)]) (fun i _ _ => by rw [e 70 (by omega) (by omega) (by omega) (by omega)]) (fun i _ _ => by rw [e 245 (by omega) (by omega) (by omega) (by omega)]) (by rw [e 46 (by omega) (by omega) (by omega) (by omega)]; exact Int.le_refl _)
def zHtx (k : Int) (μ1 : pm_Mem) : Prop := ∃ μ x, zRT μ ∧ zTxc k μ x μ1
/-- the image -/
def zHiT (b : Int) (μ1 : pm_Mem) : Prop := ∃ x μ, zRT μ ∧ (0 ≤ μ 1 2 ∧ μ 1 2 ≤ 1) ∧ zIMC b μ x μ1 ∧ zIML b μ μ1 ∧ (∀ q ∈ zRi, μ1 q.1 (q.2 : Int) = μ q.1 (q.2 : Int)) ∧ (∀ q ∈ [(205, 6), (205, 7), (205, 70)], μ1 q.1 ((q.2 : Nat) : Int) = μ q.1 (q.2 : Int)) ∧ (∀ q ∈ zX2, μ1 q.1 (q.2 : Int) = μ q.1 (q.2 : Int)) ∧ (∀ q ∈ [(88, 1), (88, 2), (88, 3)], μ1 q.1 ((q.2 : Nat) : Int) = μ q.1 (q.2 : Int)) ∧ ∀ q ∈ zXr, q.1 ≠ 27 → q.1 ≠ 70 → ∀ i : Int, 0 ≤ i → i < q.2 → μ1 q.1 i = μ q.1 i
def zXb : List (Nat × Nat) := [(89, 400), (211, 400), (223, 144), (245, 445)]
def zXc : List (Nat × Nat) := [(89, 400), (211, 400), (27, 64), (70, 64)]
