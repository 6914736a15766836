/-! counts: how many shops and customers there are, on both sides (p3 SHOP, p4 CUSTOMER, p5 SET) -/
/-- the class's places that don't stand in what is kept -/
def zRo : List (Nat × Nat) := [(3, 0), (3, 1), (46, 0), (46, 1), (1, 2), (33, 1), (35, 1), (76, 1), (78, 1)]
/-- what is kept: the next place and how many, the six arcades -/
def zRk : List (Nat × Nat) := [(96, 2), (96, 3), (99, 0), (99, 1), (112, 0), (112, 1), (125, 0), (125, 1), (138, 0), (138, 1), (151, 0), (151, 1), (164, 0), (164, 1)]
def zRq : List (Nat × Nat) := zRo ++ zRk
def zWc (σ : Nat × Nat → Nat × Nat) (μ0 μ : pm_Mem) : Prop := ∀ q ∈ zRq, μ q.1 (q.2 : Int) = μ0 (σ q).1 ((σ q).2 : Int)
def zSq2 (q : Nat × Nat) : Nat × Nat := if 33 ≤ q.1 ∧ q.1 ≤ 43 then (q.1 + 43, q.2) else q
def zSq45 (q : Nat × Nat) : Nat × Nat := if 76 ≤ q.1 then (q.1 - 43, q.2) else q
noncomputable def zRqk (W : Nat) : Bool := zRq.all (fun q => zfrc W q.1 q.2)
/-- each arcade that can be gone back to has as many shops and customers as there are now -/
def zKw (μ : pm_Mem) : Prop := ∀ j : Int, 0 ≤ j → j < μ 96 3 → ∀ k : Nat, k < 6 → (k : Int) = (μ 96 2 + 5 - j) % 6 → μ (99 + 13 * k) 0 = μ 3 0 ∧ μ (99 + 13 * k) 1 = μ 3 1
theorem zKw_0 {μ : pm_Mem} (h : μ 96 3 = 0) : zKw μ := fun j j0 j1 => absurd j1 (by omega)
theorem zsl_in (k : Nat) (hk : k < 6) : (99 + 13 * k, 0) ∈ zRk ∧ (99 + 13 * k, 1) ∈ zRk := (show ∀ k, k < 6 → (99 + 13 * k, 0) ∈ zRk ∧ (99 + 13 * k, 1) ∈ zRk by decide) k hk
theorem zKw_of {μ μ' : pm_Mem} (a : ∀ q ∈ zRk, μ' q.1 (q.2 : Int) = μ q.1 (q.2 : Int)) (b0 : μ' 3 0 = μ 3 0) (b1 : μ' 3 1 = μ 3 1) (h : zKw μ) : zKw μ' := fun j j0 j1 k k6 ke => by
  have a2 : μ' 96 2 = μ 96 2 := a (96, 2) (by decide)
  have a3 : μ' 96 3 = μ 96 3 := a (96, 3) (by decide)
  obtain ⟨m0, m1⟩ := zsl_in k k6
  have s0 : μ' (99 + 13 * k) 0 = μ (99 + 13 * k) 0 := a _ m0
  have s1 : μ' (99 + 13 * k) 1 = μ (99 + 13 * k) 1 := a _ m1
  rw [a3] at j1
  rw [a2] at ke
  rw [s0, s1, b0, b1]
  exact h j j0 j1 k k6 ke
/-- the class's part: what stays, and what is kept agrees -/
def zKC (μ μ' : pm_Mem) : Prop := (∀ q ∈ zRo, μ' q.1 (q.2 : Int) = μ q.1 (q.2 : Int)) ∧ (zKw μ → zKw μ')
theorem zKC_refl {μ : pm_Mem} : zKC μ μ := ⟨fun _ _ => rfl, fun h => h⟩
theorem zKC_of {μ0 μ μ' : pm_Mem} (h : zKC μ0 μ) (a : ∀ q ∈ zRq, μ' q.1 (q.2 : Int) = μ q.1 (q.2 : Int)) : zKC μ0 μ' := ⟨fun q hq => (a q (List.mem_append_left _ hq)).trans (h.1 q hq), fun hk => zKw_of (fun q hq => a q (List.mem_append_right _ hq)) (a (3, 0) (by decide)) (a (3, 1) (by decide)) (h.2 hk)⟩
theorem zRi_fr {W : Nat} {μ μ' : pm_Mem} {l : List (Nat × Nat)} (h : ∀ (r : Nat) (g : sx_Rg) (k : Nat) (t : sx_Ty), sx_bit W r = false → r < zNR → zRT2 r = some g → g.1 ≤ 2 → k < sx_wd g → sx_ft g k = some t → t.1 ≤ 1 → μ' r (k : Int) = μ r (k : Int)) (hc : l.all (fun q => zfrc W q.1 q.2) = true) : ∀ q ∈ l, μ' q.1 (q.2 : Int) = μ q.1 (q.2 : Int) := fun q hq => zfr1 h (List.all_eq_true.mp hc q hq)
def zRp : List (Nat × Nat) := [(46, 0), (46, 1), (1, 2), (33, 1), (35, 1), (76, 1), (78, 1)] ++ zRk
theorem zRq_p : ∀ q ∈ zRq, q = (3, 0) ∨ q = (3, 1) ∨ q ∈ zRp := by decide
theorem zKC_p {μ0 μ μ' : pm_Mem} (h : zKC μ0 μ) (a : ∀ q ∈ zRp, μ' q.1 (q.2 : Int) = μ q.1 (q.2 : Int)) (b0 : μ' 3 0 = μ 3 0) (b1 : μ' 3 1 = μ 3 1) : zKC μ0 μ' := zKC_of h (fun q hq => by
  rcases zRq_p q hq with rfl | rfl | hp
  · exact b0
  · exact b1
  · exact a q hp)
/-- an arcade taken over from another -/
def zsw (d s : Nat) (q : Nat × Nat) : Nat × Nat := if q.1 = d ∧ q.2 < 2 then (s, q.2) else q
theorem zRk_of {q : Nat × Nat} (h : q ∈ zRk) : q ∈ zRq := List.mem_append_right _ h
theorem zRo_of {q : Nat × Nat} (h : q ∈ zRo) : q ∈ zRq := List.mem_append_left _ h
/-! what an arcade sells, what its customers have and where they are: arrays that keeping leaves alone -/
def zRz : List (Nat × Nat) := [(4, 12), (11, 18), (13, 18)]
noncomputable def zrA (r n : Nat) : Bool := match zRT2 r with
  | some g => Nat.blt r zNR && Nat.ble g.1 2 && Nat.ble n (sx_wd g) && (List.range n).all (fun k => match sx_ft g k with
    | some t => Nat.ble t.1 1
    | none => false)
  | none => false
theorem zrA_fr {W : Nat} {μ μ' : pm_Mem} (h : ∀ (r : Nat) (g : sx_Rg) (k : Nat) (t : sx_Ty), sx_bit W r = false → r < zNR → zRT2 r = some g → g.1 ≤ 2 → k < sx_wd g → sx_ft g k = some t → t.1 ≤ 1 → μ' r (k : Int) = μ r (k : Int)) {r n : Nat} (hb : sx_bit W r = false) (hz : zrA r n = true) : ∀ i : Int, 0 ≤ i → i < n → μ' r i = μ r i := fun i i0 i1 => by
  unfold zrA at hz
  split at hz
  · rename_i g hg
    simp only [Bool.and_eq_true] at hz
    obtain ⟨⟨⟨a1, a2⟩, a3⟩, a4⟩ := hz
    have a1 := Nat.blt_eq.mp a1
    have a2 := Nat.le_of_ble_eq_true a2
    have a3 := Nat.le_of_ble_eq_true a3
    have a4 := List.all_eq_true.mp a4 i.toNat (List.mem_range.mpr (by omega))
    split at a4
    · rename_i t ht
      have := h r g i.toNat t hb a1 hg a2 (by omega) ht (Nat.le_of_ble_eq_true a4)
      rw [show ((i.toNat : Nat) : Int) = i by omega] at this
      exact this
    · cases a4
  · cases hz
noncomputable def zRak (W : Nat) (l : List (Nat × Nat)) : Bool := l.all (fun q => sx_nb (sx_bit W q.1))
theorem zRl_fr {W : Nat} {μ μ' : pm_Mem} {l : List (Nat × Nat)} (h : ∀ (r : Nat) (g : sx_Rg) (k : Nat) (t : sx_Ty), sx_bit W r = false → r < zNR → zRT2 r = some g → g.1 ≤ 2 → k < sx_wd g → sx_ft g k = some t → t.1 ≤ 1 → μ' r (k : Int) = μ r (k : Int)) (ht : ∀ q ∈ l, zrA q.1 q.2 = true) (hc : zRak W l = true) : ∀ q ∈ l, ∀ i : Int, 0 ≤ i → i < q.2 → μ' q.1 i = μ q.1 i := fun q hq => by
  have h1 := List.all_eq_true.mp hc q hq
  rw [sx_nb_eq, Bool.not_eq_true'] at h1
  exact zrA_fr h h1 (ht q hq)
def zKF (μ μ' : pm_Mem) : Prop := ∀ q ∈ zRz, ∀ i : Int, 0 ≤ i → i < q.2 → μ' q.1 i = μ q.1 i
/-- both sides' counts are alike: what holds between the law's calls -/
def zR (μ : pm_Mem) : Prop := (μ 3 0 = μ 205 6 ∧ μ 3 1 = μ 205 7) ∧ μ 33 1 = μ 35 1 ∧ μ 76 1 = μ 78 1 ∧ μ 1 2 = μ 205 70 ∧ (μ 1 2 ≠ 0 → μ 46 0 = μ 245 160 ∧ μ 46 1 = μ 245 161) ∧ zKw μ
def zRi : List (Nat × Nat) := [(245, 160), (245, 161)]
theorem zR_of {μ μ' : pm_Mem} (a : zKC μ μ') (b : ∀ q ∈ zRi, μ' q.1 (q.2 : Int) = μ q.1 (q.2 : Int)) (c : ∀ q ∈ [(205, 6), (205, 7), (205, 70)], μ' q.1 ((q.2 : Nat) : Int) = μ q.1 (q.2 : Int)) (h : zR μ) : zR μ' := by
  have a30 : μ' 3 0 = μ 3 0 := a.1 (3, 0) (by decide)
  have a31 : μ' 3 1 = μ 3 1 := a.1 (3, 1) (by decide)
  have a460 : μ' 46 0 = μ 46 0 := a.1 (46, 0) (by decide)
  have a461 : μ' 46 1 = μ 46 1 := a.1 (46, 1) (by decide)
  have a12 : μ' 1 2 = μ 1 2 := a.1 (1, 2) (by decide)
  have a33 : μ' 33 1 = μ 33 1 := a.1 (33, 1) (by decide)
  have a35 : μ' 35 1 = μ 35 1 := a.1 (35, 1) (by decide)
  have a76 : μ' 76 1 = μ 76 1 := a.1 (76, 1) (by decide)
  have a78 : μ' 78 1 = μ 78 1 := a.1 (78, 1) (by decide)
  have b0 : μ' 245 160 = μ 245 160 := b (245, 160) (by decide)
  have b1 : μ' 245 161 = μ 245 161 := b (245, 161) (by decide)
  have c6 : μ' 205 6 = μ 205 6 := c (205, 6) (by decide)
  have c7 : μ' 205 7 = μ 205 7 := c (205, 7) (by decide)
  have c70 : μ' 205 70 = μ 205 70 := c (205, 70) (by decide)
  obtain ⟨g1, g2, g3, g4, g5, g6⟩ := h
  refine ⟨?_, ?_, ?_, ?_, ?_, a.2 g6⟩
  · rw [a30, a31, c6, c7]; exact g1
  · rw [a33, a35]; exact g2
  · rw [a76, a78]; exact g3
  · rw [a12, c70]; exact g4
  · rw [a12, a460, a461, b0, b1]; exact g5
/-- a shop told: the answer, and how many there are then -/
def zSx (a b c : Int) : Int := if (0 ≤ a ∧ a ≤ 99) ∧ (1 ≤ b ∧ b ≤ 99) ∧ c < 12 then c else -1
def zSc (a b c : Int) : Int := if (0 ≤ a ∧ a ≤ 99) ∧ (1 ≤ b ∧ b ≤ 99) ∧ c < 12 then c + 1 else c
/-- a customer told -/
def zCx (a b c : Int) : Int := if (0 ≤ a ∧ a ≤ 9999) ∧ (0 ≤ b ∧ b ≤ 9) ∧ c < 18 then c else -1
def zCc (a b c : Int) : Int := if (0 ≤ a ∧ a ≤ 9999) ∧ (0 ≤ b ∧ b ≤ 9) ∧ c < 18 then c + 1 else c
/-- SET: does it hold -/
def zStC (w s v a b : Int) : Int := if (w = 0 ∧ (0 ≤ s ∧ s < a) ∧ (1 ≤ v ∧ v ≤ 99)) ∨ (w = 1 ∧ (0 ≤ s ∧ s < b) ∧ (0 ≤ v ∧ v ≤ 9999)) ∨ (w = 2 ∧ (0 ≤ s ∧ s < b) ∧ (0 ≤ v ∧ v ≤ 9)) then 1 else 0
noncomputable def zRok (W : Nat) : Bool := zRp.all (fun q => zfrc W q.1 q.2) && zRi.all (fun q => zfrc W q.1 q.2)
theorem zR_fr {W : Nat} {μ μ' : pm_Mem} (h : ∀ (r : Nat) (g : sx_Rg) (k : Nat) (t : sx_Ty), sx_bit W r = false → r < zNR → zRT2 r = some g → g.1 ≤ 2 → k < sx_wd g → sx_ft g k = some t → t.1 ≤ 1 → μ' r (k : Int) = μ r (k : Int)) (hc : zRok W = true) (hz : ∀ q ∈ sx_Fz, μ' q.1 (q.2 : Int) = μ q.1 (q.2 : Int)) (hR : zR μ) : zR μ' :=
  zR_of (zKC_p zKC_refl (zRi_fr h (Bool.and_eq_true_iff.mp hc).1) (hz (3, 0) (by decide)) (hz (3, 1) (by decide))) (zRi_fr h (Bool.and_eq_true_iff.mp hc).2) (fun q hq => hz q ((show ∀ q ∈ [(205, 6), (205, 7), (205, 70)], q ∈ sx_Fz by decide) q hq)) hR
/-- the class's errand -/
theorem zR_e {μ μ' : pm_Mem} (a : ∀ q, q ≠ 33 → q ≠ 34 → q ≠ 35 → q ≠ 36 → μ' q = μ q) (b : μ' 33 1 = μ' 35 1) (h : zR μ) : zR μ' := by
  obtain ⟨⟨g0, g1⟩, -, g3, g4, g5, g6⟩ := h
  have e : ∀ r, r ≠ 33 → r ≠ 34 → r ≠ 35 → r ≠ 36 → ∀ i, μ' r i = μ r i := fun r h1 h2 h3 h4 i => congrFun (a r h1 h2 h3 h4) i
  have e3 := e 3 (by decide) (by decide) (by decide) (by decide)
  have e205 := e 205 (by decide) (by decide) (by decide) (by decide)
  have e1 := e 1 (by decide) (by decide) (by decide) (by decide)
  refine ⟨⟨by rw [e3, e205]; exact g0, by rw [e3, e205]; exact g1⟩, b, by rw [e 76 (by decide) (by decide) (by decide) (by decide), e 78 (by decide) (by decide) (by decide) (by decide)]; exact g3, by rw [e1, e205]; exact g4, ?_, zKw_of (fun q hq => ?_) (e3 0) (e3 1) g6⟩
  · rw [e1, e 46 (by decide) (by decide) (by decide) (by decide), e 46 (by decide) (by decide) (by decide) (by decide), e 245 (by decide) (by decide) (by decide) (by decide), e 245 (by decide) (by decide) (by decide) (by decide)]
    exact g5
  · have d := (show ∀ q ∈ zRk, q.1 ≠ 33 ∧ q.1 ≠ 34 ∧ q.1 ≠ 35 ∧ q.1 ≠ 36 by decide) q hq
    exact e q.1 d.1 d.2.1 d.2.2.1 d.2.2.2 _
/-- between both sides' calls of shop -/
def zHn_shop (a b : Int) (μ1 : pm_Mem) : Prop := ∃ μ, zR μ ∧ (∀ q ∈ zRo, q ≠ (3, 0) → μ1 q.1 (q.2 : Int) = μ q.1 (q.2 : Int)) ∧ μ1 3 0 = zSc a b (μ 3 0) ∧ (zKw μ → zKw μ1) ∧ (∀ q ∈ zRi, μ1 q.1 (q.2 : Int) = μ q.1 (q.2 : Int)) ∧ (∀ q ∈ [(205, 6), (205, 7), (205, 70)], μ1 q.1 ((q.2 : Nat) : Int) = μ q.1 (q.2 : Int))
/-- between both sides' calls of customer -/
def zHn_customer (a b : Int) (μ1 : pm_Mem) : Prop := ∃ μ, zR μ ∧ (∀ q ∈ zRo, q ≠ (3, 1) → μ1 q.1 (q.2 : Int) = μ q.1 (q.2 : Int)) ∧ μ1 3 1 = zCc a b (μ 3 1) ∧ (zKw μ → zKw μ1) ∧ (∀ q ∈ zRi, μ1 q.1 (q.2 : Int) = μ q.1 (q.2 : Int)) ∧ (∀ q ∈ [(205, 6), (205, 7), (205, 70)], μ1 q.1 ((q.2 : Nat) : Int) = μ q.1 (q.2 : Int))
/-! the image -/
def zsqA (q : Nat × Nat) : Nat × Nat := if q.1 = 3 ∧ q.2 < 2 then (46, q.2) else if q.1 = 33 then (76, q.2) else if q.1 = 35 then (78, q.2) else q
def zsqB (q : Nat × Nat) : Nat × Nat := if q.1 = 46 ∧ q.2 < 2 then (3, q.2) else if q.1 = 76 then (33, q.2) else if q.1 = 78 then (35, q.2) else q
/-- what the class's image does -/
def zIMC (b : Int) (μ : pm_Mem) (x : Int) (μ' : pm_Mem) : Prop :=
  (b ≠ 0 → x = 1 ∧ μ' 1 2 = 1 ∧ ∀ q ∈ zRq, q ≠ (1, 2) → μ' q.1 (q.2 : Int) = μ (zsqB q).1 ((zsqB q).2 : Int)) ∧ (b = 0 → μ 1 2 = 0 → x = 0 ∧ μ' = μ) ∧ (b = 0 → μ 1 2 ≠ 0 → x = 1 ∧ μ' 96 3 = 0 ∧ ∀ q ∈ zRo, μ' q.1 (q.2 : Int) = μ (zsqA q).1 ((zsqA q).2 : Int))
/-- both sides' images -/
def zHc (b x : Int) (μ1 : pm_Mem) : Prop := ∃ μ, zR μ ∧ (0 ≤ μ 1 2 ∧ μ 1 2 ≤ 1) ∧ zIMC b μ x μ1 ∧ (∀ q ∈ zRi, μ1 q.1 (q.2 : Int) = μ q.1 (q.2 : Int)) ∧ (∀ q ∈ [(205, 6), (205, 7), (205, 70)], μ1 q.1 ((q.2 : Nat) : Int) = μ q.1 (q.2 : Int))
def zHi_ (b : Int) (μ1 : pm_Mem) : Prop := ∃ x, zHc b x μ1
