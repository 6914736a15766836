/-! the lanes and their image in the class: what stays -/
def zLf (μ μ' : pm_Mem) : Prop := (μ' 26 2 = μ 26 2 ∧ μ' 69 2 = μ 69 2) ∧ ∀ i : Int, 0 ≤ i → i < 64 → μ' 27 i = μ 27 i ∧ μ' 70 i = μ 70 i
theorem zLf_refl {μ : pm_Mem} : zLf μ μ := ⟨⟨rfl, rfl⟩, fun _ _ _ => ⟨rfl, rfl⟩⟩
theorem zLf_tr {μ0 μ μ' : pm_Mem} (h : zLf μ0 μ) (h' : zLf μ μ') : zLf μ0 μ' := ⟨⟨h'.1.1.trans h.1.1, h'.1.2.trans h.1.2⟩, fun i i0 i1 => ⟨(h'.2 i i0 i1).1.trans (h.2 i i0 i1).1, (h'.2 i i0 i1).2.trans (h.2 i i0 i1).2⟩⟩
theorem zLf_up {μ0 μ μ' : pm_Mem} {r : Nat} {i x : Int} (h : zLf μ0 μ) (e : μ' = pm_up μ r i x) (hr : r ≠ 26 ∧ r ≠ 27 ∧ r ≠ 69 ∧ r ≠ 70) : zLf μ0 μ' := by
  have e1 : ∀ q, q ≠ r → μ' q = μ q := fun q hq => by rw [e, pm_up_row hq]
  refine zLf_tr h ⟨⟨by rw [e1 26 (by omega)], by rw [e1 69 (by omega)]⟩, fun i _ _ => ⟨by rw [e1 27 (by omega)], by rw [e1 70 (by omega)]⟩⟩
def zLo : List (Nat × Nat) := [(26, 2), (69, 2)]
def zLr2 : List (Nat × Nat) := [(27, 64), (70, 64)]
set_option maxRecDepth 100000 in
theorem zLr2_t : ∀ q ∈ zLr2, zrA q.1 q.2 = true := by decide +kernel
noncomputable def zLok (W : Nat) : Bool := zLo.all (fun q => zfrc W q.1 q.2) && zRak W zLr2
theorem zLf_fr {W : Nat} {μ μ' : pm_Mem} (h : ∀ (r : Nat) (g : sx_Rg) (k : Nat) (t : sx_Ty), sx_bit W r = false → r < zNR → zRT2 r = some g → g.1 ≤ 2 → k < sx_wd g → sx_ft g k = some t → t.1 ≤ 1 → μ' r (k : Int) = μ r (k : Int)) (hc : zLok W = true) : zLf μ μ' := by
  obtain ⟨h1, h2⟩ := Bool.and_eq_true_iff.mp hc
  have a := zRi_fr h h1
  have b := zRl_fr h zLr2_t h2
  exact ⟨⟨a (26, 2) (by decide), a (69, 2) (by decide)⟩, fun i i0 i1 => ⟨b (27, 64) (by decide) i i0 (by show i < ((64 : Nat) : Int); omega), b (70, 64) (by decide) i i0 (by show i < ((64 : Nat) : Int); omega)⟩⟩
/-- whence the lanes and their image come -/
def zLs_TT (a b : Nat) (μ0 μ : pm_Mem) : Prop := (μ 26 2 = μ0 a 2 ∧ ∀ i : Int, 0 ≤ i → i < 64 → μ 27 i = μ0 (a + 1) i) ∧ (μ 69 2 = μ0 b 2 ∧ ∀ i : Int, 0 ≤ i → i < 64 → μ 70 i = μ0 (b + 1) i)
theorem zLs_0 {μ : pm_Mem} : zLs_TT 26 69 μ μ := ⟨⟨rfl, fun _ _ _ => rfl⟩, ⟨rfl, fun _ _ _ => rfl⟩⟩
theorem zLs_f {a b : Nat} {μ0 μ μ' : pm_Mem} (h : zLs_TT a b μ0 μ) (f : zLf μ μ') : zLs_TT a b μ0 μ' := ⟨⟨f.1.1.trans h.1.1, fun i i0 i1 => (f.2 i i0 i1).1.trans (h.1.2 i i0 i1)⟩, ⟨f.1.2.trans h.2.1, fun i i0 i1 => (f.2 i i0 i1).2.trans (h.2.2 i i0 i1)⟩⟩
theorem zLs_b {a b : Nat} {μ0 μ μ' : pm_Mem} (h : zLs_TT a b μ0 μ) (q1 : ∀ q, q ≠ 26 → q ≠ 27 → q ≠ 28 → μ' q = μ q) (q2 : ∀ i : Int, 0 ≤ i → i < 64 → μ' 27 i = μ 70 i) (q4 : μ' 26 2 = μ 69 2) : zLs_TT b b μ0 μ' := by
  have e69 : μ' 69 = μ 69 := q1 69 (by decide) (by decide) (by decide)
  have e70 : μ' 70 = μ 70 := q1 70 (by decide) (by decide) (by decide)
  exact ⟨⟨q4.trans h.2.1, fun i i0 i1 => (q2 i i0 i1).trans (h.2.2 i i0 i1)⟩, ⟨by rw [e69]; exact h.2.1, fun i i0 i1 => by rw [e70]; exact h.2.2 i i0 i1⟩⟩
theorem zLs_t {a b : Nat} {μ0 μ μ' : pm_Mem} (h : zLs_TT a b μ0 μ) (q1 : ∀ q, q ≠ 69 → q ≠ 70 → q ≠ 71 → μ' q = μ q) (q2 : ∀ i : Int, 0 ≤ i → i < 64 → μ' 70 i = μ 27 i) (q4 : μ' 69 2 = μ 26 2) : zLs_TT a a μ0 μ' := by
  have e26 : μ' 26 = μ 26 := q1 26 (by decide) (by decide) (by decide)
  have e27 : μ' 27 = μ 27 := q1 27 (by decide) (by decide) (by decide)
  exact ⟨⟨by rw [e26]; exact h.1.1, fun i i0 i1 => by rw [e27]; exact h.1.2 i i0 i1⟩, ⟨q4.trans h.1.1, fun i i0 i1 => (q2 i i0 i1).trans (h.1.2 i i0 i1)⟩⟩
/-- the image: whence -/
def zIML (b : Int) (μ μ' : pm_Mem) : Prop := (b ≠ 0 → zLs_TT 26 26 μ μ') ∧ (b = 0 → μ 1 2 = 0 → zLs_TT 26 69 μ μ') ∧ (b = 0 → μ 1 2 ≠ 0 → zLs_TT 69 69 μ μ')
theorem zIML_t {b : Int} {μ μc μ' : pm_Mem} (h : b ≠ 0) (hs : zLs_TT 26 26 μ μc) (e : μ' = pm_up μc 1 2 1) : zIML b μ μ' := ⟨fun _ => zLs_f hs (zLf_up zLf_refl e (by decide)), fun h0 => absurd h0 h, fun h0 => absurd h0 h⟩
theorem zIML_n {b : Int} {μ : pm_Mem} (h : b = 0) (h1 : μ 1 2 = 0) : zIML b μ μ := ⟨fun h0 => absurd h h0, fun _ _ => zLs_0, fun _ h0 => absurd h1 h0⟩
theorem zIML_b {b : Int} {μ μc μ' : pm_Mem} (h : b = 0) (h1 : μ 1 2 ≠ 0) (hs : zLs_TT 69 69 μ μc) (e : μ' = pm_up μc 96 3 0) : zIML b μ μ' := ⟨fun h0 => absurd h h0, fun _ h0 => absurd h0 h1, fun _ _ => zLs_f hs (zLf_up zLf_refl e (by decide))⟩
