/-! counts: how many shops and customers there are, on both sides (p3 SHOP, p4 CUSTOMER, p5 SET) -/
/-- the class's places that don't stand in what is kept -/
def zRo : List (Nat × Nat) := [(3, 0), (3, 1), (46, 0), (46, 1), (1, 2), (33, 1), (35, 1), (76, 1), (78, 1)]
/-- what is kept: the next place and how many, the six arcades -/
def zRk : List (Nat × Nat) := [(96, 2), (96, 3), (99, 0), (99, 1), (112, 0), (112, 1), (125, 0), (125, 1), (138, 0), (138, 1), (151, 0), (151, 1), (164, 0), (164, 1)]
def zRq : List (Nat × Nat) := zRo ++ zRk
def zWc (σ : Nat × Nat → Nat × Nat) (μ0 μ : pm_Mem) : Prop := ∀ q ∈ zRq, μ q.1 (q.2 : Int) = μ0 (σ q).1 ((σ q).2 : Int)
def zSq2 (q : Nat × Nat) : Nat × Nat := if 33 ≤ q.1 ∧ q.1 ≤ 43 then (q.1 + 43, q.2) else q
def zSq45 (q : Nat × Nat) : Nat × Nat := if 76 ≤ q.1 then (q.1 - 43, q.2) else q
theorem zWc_rcp {σ : Nat × Nat → Nat × Nat} {μ0 μ μ' : pm_Mem} {d s : Nat × Nat} (h : zWc σ μ0 μ) (hs : s ∈ zRq) (h1 : ∀ q ∈ zRq, q ≠ d → μ' q.1 (q.2 : Int) = μ q.1 (q.2 : Int)) (h2 : μ' d.1 (d.2 : Int) = μ s.1 (s.2 : Int)) : zWc (fun q => if q = d then σ s else σ q) μ0 μ' := fun q hq => by
  show μ' q.1 (q.2 : Int) = μ0 (if q = d then σ s else σ q).1 (((if q = d then σ s else σ q).2 : Nat) : Int)
  by_cases hqd : q = d
  · rw [if_pos hqd, hqd, h2, h s hs]
  · rw [if_neg hqd, h1 q hq hqd, h q hq]
theorem zWc_fr {σ : Nat × Nat → Nat × Nat} {μ0 μ μ' : pm_Mem} (h : zWc σ μ0 μ) (hf : ∀ q ∈ zRq, μ' q.1 (q.2 : Int) = μ q.1 (q.2 : Int)) : zWc σ μ0 μ' := fun q hq => by rw [hf q hq, h q hq]
theorem zWc_eq {σ τ : Nat × Nat → Nat × Nat} {μ0 μ : pm_Mem} (h : zWc σ μ0 μ) (he : ∀ q ∈ zRq, σ q = τ q) : zWc τ μ0 μ := fun q hq => by rw [h q hq, he q hq]
theorem pm_upq {μ : pm_Mem} {r k : Nat} {i x : Int} {q : Nat × Nat} (hi : i = (k : Int)) (h : q ≠ (r, k)) : pm_up μ r i x q.1 (q.2 : Int) = μ q.1 (q.2 : Int) := by
  subst hi
  refine if_neg (fun hc => h ?_)
  have h1 := hc.1
  have h2 : q.2 = k := by have := hc.2; omega
  rw [← h1, ← h2]
noncomputable def zRqk (W : Nat) : Bool := zRq.all (fun q => zfrc W q.1 q.2)
theorem zRq_fr {W : Nat} {μ μ' : pm_Mem} (h : ∀ (r : Nat) (g : sx_Rg) (k : Nat) (t : sx_Ty), sx_bit W r = false → r < zNR → zRT2 r = some g → g.1 ≤ 2 → k < sx_wd g → sx_ft g k = some t → t.1 ≤ 1 → μ' r (k : Int) = μ r (k : Int)) (hc : zRqk W = true) : ∀ q ∈ zRq, μ' q.1 (q.2 : Int) = μ q.1 (q.2 : Int) := fun q hq => zfr1 h (List.all_eq_true.mp hc q hq)
/-- each arcade that can be gone back to has as many shops and customers as there are now -/
def zKw (μ : pm_Mem) : Prop := ∀ j : Int, 0 ≤ j → j < μ 96 3 → ∀ k : Nat, k < 6 → (k : Int) = (μ 96 2 + 5 - j) % 6 → μ (99 + 13 * k) 0 = μ 3 0 ∧ μ (99 + 13 * k) 1 = μ 3 1
theorem zKw_0 {μ : pm_Mem} (h : μ 96 3 = 0) : zKw μ := fun j j0 j1 => absurd j1 (by omega)
theorem zsl_in (k : Nat) (hk : k < 6) : (99 + 13 * k, 0) ∈ zRk ∧ (99 + 13 * k, 1) ∈ zRk := (show ∀ k, k < 6 → (99 + 13 * k, 0) ∈ zRk ∧ (99 + 13 * k, 1) ∈ zRk by decide) k hk
theorem zKw_of {μ μ' : pm_Mem} (a : ∀ q ∈ zRk, μ' q.1 (q.2 : Int) = μ q.1 (q.2 : Int)) (b0 : μ' 3 0 = μ 3 0) (b1 : μ' 3 1 = μ 3 1) (h : zKw μ) : zKw μ' := fun j j0 j1 k k6 ke => by
  have a2 : μ' 96 2 = μ 96 2 := a (96, 2) (by decide)
  have a3 : μ' 96 3 = μ 96 3 := a (96, 3) (by decide)
  obtain ⟨m0, m1⟩ := zsl_in k k6
  have s0 : μ' (99 + 13 * k) 0 = μ (99 + 13 * k) 0 := a _ m0
  have s1 : μ' (99 + 13 * k) 1 = μ (99 + 13 * k) 1 := a _ m1
  rw [a3] at j1
  rw [a2] at ke
  rw [s0, s1, b0, b1]
  exact h j j0 j1 k k6 ke
/-- what one more is kept does -/
theorem zKw_keep {μ μ' : pm_Mem} {n : Nat} (hn : n < 6) (en : μ 96 2 = (n : Int)) (hc : 0 ≤ μ 96 3 ∧ μ 96 3 ≤ 6) (b0 : μ' 3 0 = μ 3 0) (b1 : μ' 3 1 = μ 3 1) (c2 : μ' 96 2 = if μ 96 2 = 5 then 0 else μ 96 2 + 1) (c3 : μ' 96 3 = min 6 (μ 96 3 + 1)) (s : ∀ k : Nat, k < 6 → k ≠ n → μ' (99 + 13 * k) 0 = μ (99 + 13 * k) 0 ∧ μ' (99 + 13 * k) 1 = μ (99 + 13 * k) 1) (s0 : μ' (99 + 13 * n) 0 = μ 3 0) (s1 : μ' (99 + 13 * n) 1 = μ 3 1) (h : zKw μ) : zKw μ' := fun j j0 j1 k k6 ke => by
  have c2' : μ' 96 2 = ((n : Int) + 1) % 6 := by
    rw [c2, en]
    split <;> omega
  rw [b0, b1]
  by_cases hj : j = 0
  · obtain rfl : k = n := by omega
    exact ⟨s0, s1⟩
  · have hkn : k ≠ n := by omega
    obtain ⟨e0, e1⟩ := s k k6 hkn
    rw [e0, e1]
    exact h (j - 1) (by omega) (by omega) k k6 (by omega)
/-- what going back does -/
theorem zKw_back {μ μ' : pm_Mem} {n : Nat} (hn : n < 6) (en : (n : Int) = if μ 96 2 = 0 then 5 else μ 96 2 - 1) (h2 : 0 ≤ μ 96 2 ∧ μ 96 2 ≤ 5) (hc : 1 ≤ μ 96 3) (b0 : μ' 3 0 = μ (99 + 13 * n) 0) (b1 : μ' 3 1 = μ (99 + 13 * n) 1) (c2 : μ' 96 2 = (n : Int)) (c3 : μ' 96 3 = μ 96 3 - 1) (s : ∀ k : Nat, k < 6 → μ' (99 + 13 * k) 0 = μ (99 + 13 * k) 0 ∧ μ' (99 + 13 * k) 1 = μ (99 + 13 * k) 1) (h : zKw μ) : (μ' 3 0 = μ 3 0 ∧ μ' 3 1 = μ 3 1) ∧ zKw μ' := by
  have en' : (n : Int) = (μ 96 2 + 5) % 6 := by
    rw [en]
    split <;> omega
  obtain ⟨e0, e1⟩ := h 0 (by omega) (by omega) n hn (by omega)
  refine ⟨⟨by rw [b0, e0], by rw [b1, e1]⟩, fun j j0 j1 k k6 ke => ?_⟩
  obtain ⟨t0, t1⟩ := s k k6
  rw [t0, t1, b0, b1, e0, e1]
  exact h (j + 1) (by omega) (by omega) k k6 (by omega)
/-- the class's part: what stays, and what is kept agrees -/
def zKC (μ μ' : pm_Mem) : Prop := (∀ q ∈ zRo, μ' q.1 (q.2 : Int) = μ q.1 (q.2 : Int)) ∧ (zKw μ → zKw μ')
theorem zKC_refl {μ : pm_Mem} : zKC μ μ := ⟨fun _ _ => rfl, fun h => h⟩
theorem zKC_of {μ0 μ μ' : pm_Mem} (h : zKC μ0 μ) (a : ∀ q ∈ zRq, μ' q.1 (q.2 : Int) = μ q.1 (q.2 : Int)) : zKC μ0 μ' := ⟨fun q hq => (a q (List.mem_append_left _ hq)).trans (h.1 q hq), fun hk => zKw_of (fun q hq => a q (List.mem_append_right _ hq)) (a (3, 0) (by decide)) (a (3, 1) (by decide)) (h.2 hk)⟩
theorem zKC_tr {μ0 μ μ' : pm_Mem} (h : zKC μ0 μ) (h' : zKC μ μ') : zKC μ0 μ' := ⟨fun q hq => (h'.1 q hq).trans (h.1 q hq), fun hk => h'.2 (h.2 hk)⟩
theorem zKC_up {μ0 μ : pm_Mem} {r : Nat} {i x : Int} (h : zKC μ0 μ) (hr : ∀ q ∈ zRq, q.1 ≠ r) : zKC μ0 (pm_up μ r i x) := zKC_of h (fun q hq => pm_up_off (hr q hq))
theorem zKC_upk {μ0 μ : pm_Mem} {r k : Nat} {i x : Int} (h : zKC μ0 μ) (hi : i = (k : Int)) (hr : ∀ q ∈ zRq, q ≠ (r, k)) : zKC μ0 (pm_up μ r i x) := zKC_of h (fun q hq => pm_upq hi (hr q hq))
theorem zRi_fr {W : Nat} {μ μ' : pm_Mem} {l : List (Nat × Nat)} (h : ∀ (r : Nat) (g : sx_Rg) (k : Nat) (t : sx_Ty), sx_bit W r = false → r < zNR → zRT2 r = some g → g.1 ≤ 2 → k < sx_wd g → sx_ft g k = some t → t.1 ≤ 1 → μ' r (k : Int) = μ r (k : Int)) (hc : l.all (fun q => zfrc W q.1 q.2) = true) : ∀ q ∈ l, μ' q.1 (q.2 : Int) = μ q.1 (q.2 : Int) := fun q hq => zfr1 h (List.all_eq_true.mp hc q hq)
def zRp : List (Nat × Nat) := [(46, 0), (46, 1), (1, 2), (33, 1), (35, 1), (76, 1), (78, 1)] ++ zRk
theorem zRq_p : ∀ q ∈ zRq, q = (3, 0) ∨ q = (3, 1) ∨ q ∈ zRp := by decide
theorem zKC_p {μ0 μ μ' : pm_Mem} (h : zKC μ0 μ) (a : ∀ q ∈ zRp, μ' q.1 (q.2 : Int) = μ q.1 (q.2 : Int)) (b0 : μ' 3 0 = μ 3 0) (b1 : μ' 3 1 = μ 3 1) : zKC μ0 μ' := zKC_of h (fun q hq => by
  rcases zRq_p q hq with rfl | rfl | hp
  · exact b0
  · exact b1
  · exact a q hp)
/-- nothing is kept any more -/
theorem zKC_forget {μ0 μ μ' : pm_Mem} (h : ∀ q ∈ zRo, μ q.1 (q.2 : Int) = μ0 q.1 (q.2 : Int)) (e : μ' = pm_up μ 96 3 0) : zKC μ0 μ' := ⟨fun q hq => by rw [e]; exact (pm_upq (k := 3) (i := 3) rfl ((show ∀ q ∈ zRo, q ≠ (96, 3) by decide) q hq)).trans (h q hq), fun _ => zKw_0 (by rw [e, pm_up_eq])⟩
/-- an arcade taken over from another -/
def zsw (d s : Nat) (q : Nat × Nat) : Nat × Nat := if q.1 = d ∧ q.2 < 2 then (s, q.2) else q
theorem zsw_ne {d s : Nat} {q : Nat × Nat} (h : q.1 ≠ d) : zsw d s q = q := if_neg (fun e => h e.1)
theorem zsw_eq {d s k : Nat} (h : k < 2) : zsw d s (d, k) = (s, k) := if_pos ⟨rfl, h⟩
theorem zWc_ne {d s : Nat} {μ μ' : pm_Mem} (h : zWc (zsw d s) μ μ') {q : Nat × Nat} (hq : q ∈ zRq) (hne : q.1 ≠ d) : μ' q.1 (q.2 : Int) = μ q.1 (q.2 : Int) := by
  have e := h q hq
  rw [zsw_ne hne] at e
  exact e
theorem zWc_at {d s k : Nat} {μ μ' : pm_Mem} (h : zWc (zsw d s) μ μ') (hq : (d, k) ∈ zRq) (hk : k < 2) : μ' d (k : Int) = μ s (k : Int) := by
  have e := h (d, k) hq
  rw [zsw_eq hk] at e
  exact e
theorem zRk_of {q : Nat × Nat} (h : q ∈ zRk) : q ∈ zRq := List.mem_append_right _ h
theorem zRo_of {q : Nat × Nat} (h : q ∈ zRo) : q ∈ zRq := List.mem_append_left _ h
theorem zKC_keep {μ μ1 μ' : pm_Mem} {n : Nat} (hn : n < 6) (en : μ 96 2 = (n : Int)) (hc : 0 ≤ μ 96 3 ∧ μ 96 3 ≤ 6) (hz : zWc (zsw (99 + 13 * n) 3) μ μ1) (hf : ∀ q ∈ zRq, q ≠ (96, 2) → q ≠ (96, 3) → μ' q.1 (q.2 : Int) = μ1 q.1 (q.2 : Int)) (c2 : μ' 96 2 = if μ 96 2 = 5 then 0 else μ 96 2 + 1) (c3 : μ' 96 3 = min 6 (μ 96 3 + 1)) : zKC μ μ' := by
  have ho : ∀ q ∈ zRo, μ' q.1 (q.2 : Int) = μ q.1 (q.2 : Int) := fun q hq => by
    have d := (show ∀ q ∈ zRo, q ≠ (96, 2) ∧ q ≠ (96, 3) ∧ q.1 < 99 by decide) q hq
    rw [hf q (zRo_of hq) d.1 d.2.1]
    exact zWc_ne hz (zRo_of hq) (by omega)
  refine ⟨ho, fun h => zKw_keep hn en hc (ho (3, 0) (by decide)) (ho (3, 1) (by decide)) c2 c3 (fun k k6 hkn => ?_) ?_ ?_ h⟩
  · obtain ⟨m0, m1⟩ := zsl_in k k6
    have n0 : ∀ j : Nat, ((99 + 13 * k, j) : Nat × Nat) ≠ (96, 2) ∧ ((99 + 13 * k, j) : Nat × Nat) ≠ (96, 3) := fun j => ⟨fun e => by have := congrArg Prod.fst e; simp only at this; omega, fun e => by have := congrArg Prod.fst e; simp only at this; omega⟩
    have e0 := (hf _ (zRk_of m0) (n0 0).1 (n0 0).2).trans (zWc_ne hz (zRk_of m0) (by show 99 + 13 * k ≠ 99 + 13 * n; omega))
    have e1 := (hf _ (zRk_of m1) (n0 1).1 (n0 1).2).trans (zWc_ne hz (zRk_of m1) (by show 99 + 13 * k ≠ 99 + 13 * n; omega))
    exact ⟨e0, e1⟩
  · obtain ⟨m0, -⟩ := zsl_in n hn
    exact (hf _ (zRk_of m0) (fun e => by have := congrArg Prod.fst e; simp only at this; omega) (fun e => by have := congrArg Prod.fst e; simp only at this; omega)).trans (zWc_at (k := 0) hz (zRk_of m0) (by decide))
  · obtain ⟨-, m1⟩ := zsl_in n hn
    exact (hf _ (zRk_of m1) (fun e => by have := congrArg Prod.fst e; simp only at this; omega) (fun e => by have := congrArg Prod.fst e; simp only at this; omega)).trans (zWc_at (k := 1) hz (zRk_of m1) (by decide))
theorem zKC_back {μ μ1 μ2 μ' : pm_Mem} {n : Nat} (hn : n < 6) (en : (n : Int) = if μ 96 2 = 0 then 5 else μ 96 2 - 1) (h2 : 0 ≤ μ 96 2 ∧ μ 96 2 ≤ 5) (hc : 1 ≤ μ 96 3) (h1 : ∀ q ∈ zRq, q ≠ (96, 2) → q ≠ (96, 3) → μ1 q.1 (q.2 : Int) = μ q.1 (q.2 : Int)) (c2 : μ1 96 2 = (n : Int)) (c3 : μ1 96 3 = μ 96 3 - 1) (hz : zWc (zsw 3 (99 + 13 * n)) μ1 μ2) (hf : ∀ q ∈ zRq, μ' q.1 (q.2 : Int) = μ2 q.1 (q.2 : Int)) (hk : zKw μ) : zKC μ μ' := by
  have keep : ∀ q ∈ zRq, q.1 ≠ 3 → q ≠ (96, 2) → q ≠ (96, 3) → μ' q.1 (q.2 : Int) = μ q.1 (q.2 : Int) := fun q hq a b c => (hf q hq).trans ((zWc_ne hz hq a).trans (h1 q hq b c))
  have slot : ∀ k : Nat, k < 6 → (μ' (99 + 13 * k) 0 = μ (99 + 13 * k) 0 ∧ μ' (99 + 13 * k) 1 = μ (99 + 13 * k) 1) ∧ (μ1 (99 + 13 * k) 0 = μ (99 + 13 * k) 0 ∧ μ1 (99 + 13 * k) 1 = μ (99 + 13 * k) 1) := fun k k6 => by
    obtain ⟨m0, m1⟩ := zsl_in k k6
    have n0 : ∀ j : Nat, ((99 + 13 * k, j) : Nat × Nat) ≠ (96, 2) ∧ ((99 + 13 * k, j) : Nat × Nat) ≠ (96, 3) := fun j => ⟨fun e => by have := congrArg Prod.fst e; simp only at this; omega, fun e => by have := congrArg Prod.fst e; simp only at this; omega⟩
    exact ⟨⟨keep _ (zRk_of m0) (by show 99 + 13 * k ≠ 3; omega) (n0 0).1 (n0 0).2, keep _ (zRk_of m1) (by show 99 + 13 * k ≠ 3; omega) (n0 1).1 (n0 1).2⟩, ⟨h1 _ (zRk_of m0) (n0 0).1 (n0 0).2, h1 _ (zRk_of m1) (n0 1).1 (n0 1).2⟩⟩
  have b0 : μ' 3 0 = μ (99 + 13 * n) 0 := ((hf (3, 0) (by decide)).trans (zWc_at (k := 0) hz (by decide) (by decide))).trans (slot n hn).2.1
  have b1 : μ' 3 1 = μ (99 + 13 * n) 1 := ((hf (3, 1) (by decide)).trans (zWc_at (k := 1) hz (by decide) (by decide))).trans (slot n hn).2.2
  have d2 : μ' 96 2 = (n : Int) := ((hf (96, 2) (by decide)).trans (zWc_ne hz (q := (96, 2)) (by decide) (by decide))).trans c2
  have d3 : μ' 96 3 = μ 96 3 - 1 := ((hf (96, 3) (by decide)).trans (zWc_ne hz (q := (96, 3)) (by decide) (by decide))).trans c3
  obtain ⟨⟨e0, e1⟩, w⟩ := zKw_back hn en h2 hc b0 b1 d2 d3 (fun k k6 => (slot k k6).1) hk
  refine ⟨fun q hq => ?_, fun _ => w⟩
  have d := (show ∀ q ∈ zRo, q ≠ (96, 2) ∧ q ≠ (96, 3) ∧ (q.1 = 3 → q = (3, 0) ∨ q = (3, 1)) by decide) q hq
  by_cases h3 : q.1 = 3
  · rcases d.2.2 h3 with rfl | rfl
    · exact e0
    · exact e1
  · exact keep q (zRo_of hq) h3 d.1 d.2.1
/-! what an arcade sells, what its customers have and where they are: arrays that keeping leaves alone -/
def zRz : List (Nat × Nat) := [(4, 12), (11, 18), (13, 18)]
noncomputable def zrA (r n : Nat) : Bool := match zRT2 r with
  | some g => Nat.blt r zNR && Nat.ble g.1 2 && Nat.ble n (sx_wd g) && (List.range n).all (fun k => match sx_ft g k with
    | some t => Nat.ble t.1 1
    | none => false)
  | none => false
theorem zrA_fr {W : Nat} {μ μ' : pm_Mem} (h : ∀ (r : Nat) (g : sx_Rg) (k : Nat) (t : sx_Ty), sx_bit W r = false → r < zNR → zRT2 r = some g → g.1 ≤ 2 → k < sx_wd g → sx_ft g k = some t → t.1 ≤ 1 → μ' r (k : Int) = μ r (k : Int)) {r n : Nat} (hb : sx_bit W r = false) (hz : zrA r n = true) : ∀ i : Int, 0 ≤ i → i < n → μ' r i = μ r i := fun i i0 i1 => by
  unfold zrA at hz
  split at hz
  · rename_i g hg
    simp only [Bool.and_eq_true] at hz
    obtain ⟨⟨⟨a1, a2⟩, a3⟩, a4⟩ := hz
    have a1 := Nat.blt_eq.mp a1
    have a2 := Nat.le_of_ble_eq_true a2
    have a3 := Nat.le_of_ble_eq_true a3
    have a4 := List.all_eq_true.mp a4 i.toNat (List.mem_range.mpr (by omega))
    split at a4
    · rename_i t ht
      have := h r g i.toNat t hb a1 hg a2 (by omega) ht (Nat.le_of_ble_eq_true a4)
      rw [show ((i.toNat : Nat) : Int) = i by omega] at this
      exact this
    · cases a4
  · cases hz
noncomputable def zRak (W : Nat) (l : List (Nat × Nat)) : Bool := l.all (fun q => sx_nb (sx_bit W q.1))
theorem zRl_fr {W : Nat} {μ μ' : pm_Mem} {l : List (Nat × Nat)} (h : ∀ (r : Nat) (g : sx_Rg) (k : Nat) (t : sx_Ty), sx_bit W r = false → r < zNR → zRT2 r = some g → g.1 ≤ 2 → k < sx_wd g → sx_ft g k = some t → t.1 ≤ 1 → μ' r (k : Int) = μ r (k : Int)) (ht : ∀ q ∈ l, zrA q.1 q.2 = true) (hc : zRak W l = true) : ∀ q ∈ l, ∀ i : Int, 0 ≤ i → i < q.2 → μ' q.1 i = μ q.1 i := fun q hq => by
  have h1 := List.all_eq_true.mp hc q hq
  rw [sx_nb_eq, Bool.not_eq_true'] at h1
  exact zrA_fr h h1 (ht q hq)
set_option maxRecDepth 100000 in
theorem zRz_t : ∀ q ∈ zRz, zrA q.1 q.2 = true := by decide +kernel
def zKF (μ μ' : pm_Mem) : Prop := ∀ q ∈ zRz, ∀ i : Int, 0 ≤ i → i < q.2 → μ' q.1 i = μ q.1 i
theorem zKF_refl {μ : pm_Mem} : zKF μ μ := fun _ _ _ _ _ => rfl
theorem zKF_tr {μ0 μ μ' : pm_Mem} (h : zKF μ0 μ) (h' : zKF μ μ') : zKF μ0 μ' := fun q hq i i0 i1 => (h' q hq i i0 i1).trans (h q hq i i0 i1)
theorem zKF_up {μ0 μ μ' : pm_Mem} {r : Nat} {i x : Int} (h : zKF μ0 μ) (e : μ' = pm_up μ r i x) (hr : ∀ q ∈ zRz, q.1 ≠ r) : zKF μ0 μ' := fun q hq j j0 j1 => by rw [e, pm_up_off (hr q hq)]; exact h q hq j j0 j1
/-- both sides' counts are alike: what holds between the law's calls -/
def zR (μ : pm_Mem) : Prop := (μ 3 0 = μ 205 6 ∧ μ 3 1 = μ 205 7) ∧ μ 33 1 = μ 35 1 ∧ μ 76 1 = μ 78 1 ∧ μ 1 2 = μ 205 70 ∧ (μ 1 2 ≠ 0 → μ 46 0 = μ 245 160 ∧ μ 46 1 = μ 245 161) ∧ zKw μ
def zRi : List (Nat × Nat) := [(245, 160), (245, 161)]
theorem zR_of {μ μ' : pm_Mem} (a : zKC μ μ') (b : ∀ q ∈ zRi, μ' q.1 (q.2 : Int) = μ q.1 (q.2 : Int)) (c : ∀ q ∈ [(205, 6), (205, 7), (205, 70)], μ' q.1 ((q.2 : Nat) : Int) = μ q.1 (q.2 : Int)) (h : zR μ) : zR μ' := by
  have a30 : μ' 3 0 = μ 3 0 := a.1 (3, 0) (by decide)
  have a31 : μ' 3 1 = μ 3 1 := a.1 (3, 1) (by decide)
  have a460 : μ' 46 0 = μ 46 0 := a.1 (46, 0) (by decide)
  have a461 : μ' 46 1 = μ 46 1 := a.1 (46, 1) (by decide)
  have a12 : μ' 1 2 = μ 1 2 := a.1 (1, 2) (by decide)
  have a33 : μ' 33 1 = μ 33 1 := a.1 (33, 1) (by decide)
  have a35 : μ' 35 1 = μ 35 1 := a.1 (35, 1) (by decide)
  have a76 : μ' 76 1 = μ 76 1 := a.1 (76, 1) (by decide)
  have a78 : μ' 78 1 = μ 78 1 := a.1 (78, 1) (by decide)
  have b0 : μ' 245 160 = μ 245 160 := b (245, 160) (by decide)
  have b1 : μ' 245 161 = μ 245 161 := b (245, 161) (by decide)
  have c6 : μ' 205 6 = μ 205 6 := c (205, 6) (by decide)
  have c7 : μ' 205 7 = μ 205 7 := c (205, 7) (by decide)
  have c70 : μ' 205 70 = μ 205 70 := c (205, 70) (by decide)
  obtain ⟨g1, g2, g3, g4, g5, g6⟩ := h
  refine ⟨?_, ?_, ?_, ?_, ?_, a.2 g6⟩
  · rw [a30, a31, c6, c7]; exact g1
  · rw [a33, a35]; exact g2
  · rw [a76, a78]; exact g3
  · rw [a12, c70]; exact g4
  · rw [a12, a460, a461, b0, b1]; exact g5
/-- a shop told: the answer, and how many there are then -/
def zSx (a b c : Int) : Int := if (0 ≤ a ∧ a ≤ 99) ∧ (1 ≤ b ∧ b ≤ 99) ∧ c < 12 then c else -1
def zSc (a b c : Int) : Int := if (0 ≤ a ∧ a ≤ 99) ∧ (1 ≤ b ∧ b ≤ 99) ∧ c < 12 then c + 1 else c
/-- a customer told -/
def zCx (a b c : Int) : Int := if (0 ≤ a ∧ a ≤ 9999) ∧ (0 ≤ b ∧ b ≤ 9) ∧ c < 18 then c else -1
def zCc (a b c : Int) : Int := if (0 ≤ a ∧ a ≤ 9999) ∧ (0 ≤ b ∧ b ≤ 9) ∧ c < 18 then c + 1 else c
/-- SET: does it hold -/
def zStC (w s v a b : Int) : Int := if (w = 0 ∧ (0 ≤ s ∧ s < a) ∧ (1 ≤ v ∧ v ≤ 99)) ∨ (w = 1 ∧ (0 ≤ s ∧ s < b) ∧ (0 ≤ v ∧ v ≤ 9999)) ∨ (w = 2 ∧ (0 ≤ s ∧ s < b) ∧ (0 ≤ v ∧ v ≤ 9)) then 1 else 0
theorem zStC_y {w s v a b : Int} (h : (w = 0 ∧ (0 ≤ s ∧ s < a) ∧ (1 ≤ v ∧ v ≤ 99)) ∨ (w = 1 ∧ (0 ≤ s ∧ s < b) ∧ (0 ≤ v ∧ v ≤ 9999)) ∨ (w = 2 ∧ (0 ≤ s ∧ s < b) ∧ (0 ≤ v ∧ v ≤ 9))) : zStC w s v a b = 1 := if_pos h
theorem zStC_n {w s v a b : Int} (h : ¬ ((w = 0 ∧ (0 ≤ s ∧ s < a) ∧ (1 ≤ v ∧ v ≤ 99)) ∨ (w = 1 ∧ (0 ≤ s ∧ s < b) ∧ (0 ≤ v ∧ v ≤ 9999)) ∨ (w = 2 ∧ (0 ≤ s ∧ s < b) ∧ (0 ≤ v ∧ v ≤ 9)))) : zStC w s v a b = 0 := if_neg h
theorem zS_y {a b c : Int} (h : (0 ≤ a ∧ a ≤ 99) ∧ (1 ≤ b ∧ b ≤ 99) ∧ c < 12) : zSx a b c = c ∧ zSc a b c = c + 1 := ⟨if_pos h, if_pos h⟩
theorem zS_n {a b c : Int} (h : ¬ ((0 ≤ a ∧ a ≤ 99) ∧ (1 ≤ b ∧ b ≤ 99) ∧ c < 12)) : zSx a b c = -1 ∧ zSc a b c = c := ⟨if_neg h, if_neg h⟩
theorem zCu_y {a b c : Int} (h : (0 ≤ a ∧ a ≤ 9999) ∧ (0 ≤ b ∧ b ≤ 9) ∧ c < 18) : zCx a b c = c ∧ zCc a b c = c + 1 := ⟨if_pos h, if_pos h⟩
theorem zCu_n {a b c : Int} (h : ¬ ((0 ≤ a ∧ a ≤ 9999) ∧ (0 ≤ b ∧ b ≤ 9) ∧ c < 18)) : zCx a b c = -1 ∧ zCc a b c = c := ⟨if_neg h, if_neg h⟩
noncomputable def zRok (W : Nat) : Bool := zRp.all (fun q => zfrc W q.1 q.2) && zRi.all (fun q => zfrc W q.1 q.2)
theorem zR_fr {W : Nat} {μ μ' : pm_Mem} (h : ∀ (r : Nat) (g : sx_Rg) (k : Nat) (t : sx_Ty), sx_bit W r = false → r < zNR → zRT2 r = some g → g.1 ≤ 2 → k < sx_wd g → sx_ft g k = some t → t.1 ≤ 1 → μ' r (k : Int) = μ r (k : Int)) (hc : zRok W = true) (hz : ∀ q ∈ sx_Fz, μ' q.1 (q.2 : Int) = μ q.1 (q.2 : Int)) (hR : zR μ) : zR μ' :=
  zR_of (zKC_p zKC_refl (zRi_fr h (Bool.and_eq_true_iff.mp hc).1) (hz (3, 0) (by decide)) (hz (3, 1) (by decide))) (zRi_fr h (Bool.and_eq_true_iff.mp hc).2) (fun q hq => hz q ((show ∀ q ∈ [(205, 6), (205, 7), (205, 70)], q ∈ sx_Fz by decide) q hq)) hR
theorem zR_c {μ μ' : pm_Mem} (c : ∀ k : Int, k ≠ 0 → k ≠ 3 → μ' 205 k = μ 205 k) : ∀ q ∈ [(205, 6), (205, 7), (205, 70)], μ' q.1 ((q.2 : Nat) : Int) = μ q.1 (q.2 : Int) := fun q hq => by
  have d := (show ∀ q ∈ [(205, 6), (205, 7), (205, 70)], q.1 = 205 ∧ ((q.2 : Nat) : Int) ≠ 0 ∧ ((q.2 : Nat) : Int) ≠ 3 by decide) q hq
  rw [d.1]
  exact c _ d.2.1 d.2.2
/-- the class's errand -/
theorem zR_e {μ μ' : pm_Mem} (a : ∀ q, q ≠ 33 → q ≠ 34 → q ≠ 35 → q ≠ 36 → μ' q = μ q) (b : μ' 33 1 = μ' 35 1) (h : zR μ) : zR μ' := by
  obtain ⟨⟨g0, g1⟩, -, g3, g4, g5, g6⟩ := h
  have e : ∀ r, r ≠ 33 → r ≠ 34 → r ≠ 35 → r ≠ 36 → ∀ i, μ' r i = μ r i := fun r h1 h2 h3 h4 i => congrFun (a r h1 h2 h3 h4) i
  have e3 := e 3 (by decide) (by decide) (by decide) (by decide)
  have e205 := e 205 (by decide) (by decide) (by decide) (by decide)
  have e1 := e 1 (by decide) (by decide) (by decide) (by decide)
  refine ⟨⟨by rw [e3, e205]; exact g0, by rw [e3, e205]; exact g1⟩, b, by rw [e 76 (by decide) (by decide) (by decide) (by decide), e 78 (by decide) (by decide) (by decide) (by decide)]; exact g3, by rw [e1, e205]; exact g4, ?_, zKw_of (fun q hq => ?_) (e3 0) (e3 1) g6⟩
  · rw [e1, e 46 (by decide) (by decide) (by decide) (by decide), e 46 (by decide) (by decide) (by decide) (by decide), e 245 (by decide) (by decide) (by decide) (by decide), e 245 (by decide) (by decide) (by decide) (by decide)]
    exact g5
  · have d := (show ∀ q ∈ zRk, q.1 ≠ 33 ∧ q.1 ≠ 34 ∧ q.1 ≠ 35 ∧ q.1 ≠ 36 by decide) q hq
    exact e q.1 d.1 d.2.1 d.2.2.1 d.2.2.2 _
/-- between both sides' calls of shop -/
def zHn_shop (a b : Int) (μ1 : pm_Mem) : Prop := ∃ μ, zR μ ∧ (∀ q ∈ zRo, q ≠ (3, 0) → μ1 q.1 (q.2 : Int) = μ q.1 (q.2 : Int)) ∧ μ1 3 0 = zSc a b (μ 3 0) ∧ (zKw μ → zKw μ1) ∧ (∀ q ∈ zRi, μ1 q.1 (q.2 : Int) = μ q.1 (q.2 : Int)) ∧ (∀ q ∈ [(205, 6), (205, 7), (205, 70)], μ1 q.1 ((q.2 : Nat) : Int) = μ q.1 (q.2 : Int))
theorem zR_shop {a b : Int} {μ1 μ2 : pm_Mem} (h : zHn_shop a b μ1) (u : ∀ q, q ≠ 205 → q ≠ 206 → q ≠ 209 → μ2 q = μ1 q) (v : ∀ j : Int, j ≠ 0 → j ≠ 3 → j ≠ 6 → μ2 205 j = μ1 205 j) (w : μ2 205 6 = zSc a b (μ1 205 6)) : zR μ2 := by
  obtain ⟨μ, ⟨⟨g0, g1⟩, g2, g3, g4, g5, g6⟩, p, s, kw, i, f⟩ := h
  have e : ∀ r, r ≠ 205 → r ≠ 206 → r ≠ 209 → ∀ x, μ2 r x = μ1 r x := fun r h1 h2 h3 x => congrFun (u r h1 h2 h3) x
  have e3 := e 3 (by decide) (by decide) (by decide)
  have e1 := e 1 (by decide) (by decide) (by decide)
  have e46 := e 46 (by decide) (by decide) (by decide)
  have e245 := e 245 (by decide) (by decide) (by decide)
  have p3 : μ1 3 1 = μ 3 1 := p (3, 1) (by decide) (by decide)
  have p1 : μ1 1 2 = μ 1 2 := p (1, 2) (by decide) (by decide)
  have p460 : μ1 46 0 = μ 46 0 := p (46, 0) (by decide) (by decide)
  have p461 : μ1 46 1 = μ 46 1 := p (46, 1) (by decide) (by decide)
  have p33 : μ1 33 1 = μ 33 1 := p (33, 1) (by decide) (by decide)
  have p35 : μ1 35 1 = μ 35 1 := p (35, 1) (by decide) (by decide)
  have p76 : μ1 76 1 = μ 76 1 := p (76, 1) (by decide) (by decide)
  have p78 : μ1 78 1 = μ 78 1 := p (78, 1) (by decide) (by decide)
  have f6 : μ1 205 6 = μ 205 6 := f (205, 6) (by decide)
  have f7 : μ1 205 7 = μ 205 7 := f (205, 7) (by decide)
  have f70 : μ1 205 70 = μ 205 70 := f (205, 70) (by decide)
  have i0 : μ1 245 160 = μ 245 160 := i (245, 160) (by decide)
  have i1 : μ1 245 161 = μ 245 161 := i (245, 161) (by decide)
  have n7 : μ2 205 7 = μ1 205 7 := v 7 (by decide) (by decide) (by decide)
  have n70 : μ2 205 70 = μ1 205 70 := v 70 (by decide) (by decide) (by decide)
  refine ⟨⟨?_, ?_⟩, ?_, ?_, ?_, ?_, zKw_of (fun q hq => ?_) (e3 0) (e3 1) (kw g6)⟩
  · rw [e3, s, w, f6, g0]
  · rw [e3, p3, n7, f7, g1]
  · rw [e 33 (by decide) (by decide) (by decide), e 35 (by decide) (by decide) (by decide), p33, p35]; exact g2
  · rw [e 76 (by decide) (by decide) (by decide), e 78 (by decide) (by decide) (by decide), p76, p78]; exact g3
  · rw [e1, p1, n70, f70]; exact g4
  · rw [e1, p1, e46, e46, e245, e245, p460, p461, i0, i1]; exact g5
  · have d := (show ∀ q ∈ zRk, q.1 ≠ 205 ∧ q.1 ≠ 206 ∧ q.1 ≠ 209 by decide) q hq
    exact e q.1 d.1 d.2.1 d.2.2 _
/-- between both sides' calls of customer -/
def zHn_customer (a b : Int) (μ1 : pm_Mem) : Prop := ∃ μ, zR μ ∧ (∀ q ∈ zRo, q ≠ (3, 1) → μ1 q.1 (q.2 : Int) = μ q.1 (q.2 : Int)) ∧ μ1 3 1 = zCc a b (μ 3 1) ∧ (zKw μ → zKw μ1) ∧ (∀ q ∈ zRi, μ1 q.1 (q.2 : Int) = μ q.1 (q.2 : Int)) ∧ (∀ q ∈ [(205, 6), (205, 7), (205, 70)], μ1 q.1 ((q.2 : Nat) : Int) = μ q.1 (q.2 : Int))
theorem zR_customer {a b : Int} {μ1 μ2 : pm_Mem} (h : zHn_customer a b μ1) (u : ∀ q, q ≠ 205 → q ≠ 206 → q ≠ 209 → μ2 q = μ1 q) (v : ∀ j : Int, j ≠ 0 → j ≠ 3 → j ≠ 7 → μ2 205 j = μ1 205 j) (w : μ2 205 7 = zCc a b (μ1 205 7)) : zR μ2 := by
  obtain ⟨μ, ⟨⟨g0, g1⟩, g2, g3, g4, g5, g6⟩, p, s, kw, i, f⟩ := h
  have e : ∀ r, r ≠ 205 → r ≠ 206 → r ≠ 209 → ∀ x, μ2 r x = μ1 r x := fun r h1 h2 h3 x => congrFun (u r h1 h2 h3) x
  have e3 := e 3 (by decide) (by decide) (by decide)
  have e1 := e 1 (by decide) (by decide) (by decide)
  have e46 := e 46 (by decide) (by decide) (by decide)
  have e245 := e 245 (by decide) (by decide) (by decide)
  have p3 : μ1 3 0 = μ 3 0 := p (3, 0) (by decide) (by decide)
  have p1 : μ1 1 2 = μ 1 2 := p (1, 2) (by decide) (by decide)
  have p460 : μ1 46 0 = μ 46 0 := p (46, 0) (by decide) (by decide)
  have p461 : μ1 46 1 = μ 46 1 := p (46, 1) (by decide) (by decide)
  have p33 : μ1 33 1 = μ 33 1 := p (33, 1) (by decide) (by decide)
  have p35 : μ1 35 1 = μ 35 1 := p (35, 1) (by decide) (by decide)
  have p76 : μ1 76 1 = μ 76 1 := p (76, 1) (by decide) (by decide)
  have p78 : μ1 78 1 = μ 78 1 := p (78, 1) (by decide) (by decide)
  have f6 : μ1 205 6 = μ 205 6 := f (205, 6) (by decide)
  have f7 : μ1 205 7 = μ 205 7 := f (205, 7) (by decide)
  have f70 : μ1 205 70 = μ 205 70 := f (205, 70) (by decide)
  have i0 : μ1 245 160 = μ 245 160 := i (245, 160) (by decide)
  have i1 : μ1 245 161 = μ 245 161 := i (245, 161) (by decide)
  have n6 : μ2 205 6 = μ1 205 6 := v 6 (by decide) (by decide) (by decide)
  have n70 : μ2 205 70 = μ1 205 70 := v 70 (by decide) (by decide) (by decide)
  refine ⟨⟨?_, ?_⟩, ?_, ?_, ?_, ?_, zKw_of (fun q hq => ?_) (e3 0) (e3 1) (kw g6)⟩
  · rw [e3, p3, n6, f6, g0]
  · rw [e3, s, w, f7, g1]
  · rw [e 33 (by decide) (by decide) (by decide), e 35 (by decide) (by decide) (by decide), p33, p35]; exact g2
  · rw [e 76 (by decide) (by decide) (by decide), e 78 (by decide) (by decide) (by decide), p76, p78]; exact g3
  · rw [e1, p1, n70, f70]; exact g4
  · rw [e1, p1, e46, e46, e245, e245, p460, p461, i0, i1]; exact g5
  · have d := (show ∀ q ∈ zRk, q.1 ≠ 205 ∧ q.1 ≠ 206 ∧ q.1 ≠ 209 by decide) q hq
    exact e q.1 d.1 d.2.1 d.2.2 _
/-! the image -/
def zsqA (q : Nat × Nat) : Nat × Nat := if q.1 = 3 ∧ q.2 < 2 then (46, q.2) else if q.1 = 33 then (76, q.2) else if q.1 = 35 then (78, q.2) else q
def zsqB (q : Nat × Nat) : Nat × Nat := if q.1 = 46 ∧ q.2 < 2 then (3, q.2) else if q.1 = 76 then (33, q.2) else if q.1 = 78 then (35, q.2) else q
/-- what the class's image does -/
def zIMC (b : Int) (μ : pm_Mem) (x : Int) (μ' : pm_Mem) : Prop :=
  (b ≠ 0 → x = 1 ∧ μ' 1 2 = 1 ∧ ∀ q ∈ zRq, q ≠ (1, 2) → μ' q.1 (q.2 : Int) = μ (zsqB q).1 ((zsqB q).2 : Int)) ∧ (b = 0 → μ 1 2 = 0 → x = 0 ∧ μ' = μ) ∧ (b = 0 → μ 1 2 ≠ 0 → x = 1 ∧ μ' 96 3 = 0 ∧ ∀ q ∈ zRo, μ' q.1 (q.2 : Int) = μ (zsqA q).1 ((zsqA q).2 : Int))
theorem zIMC_t {b : Int} {μ μc μ' : pm_Mem} (h : b ≠ 0) (hz : zWc zsqB μ μc) (e : μ' = pm_up μc 1 2 1) : zIMC b μ 1 μ' :=
  ⟨fun _ => ⟨rfl, by rw [e, pm_up_eq], fun q hq hne => by rw [e]; exact (pm_upq (k := 2) (i := 2) rfl hne).trans (hz q hq)⟩, fun h0 => absurd h0 h, fun h0 => absurd h0 h⟩
theorem zIMC_n {b : Int} {μ : pm_Mem} (h : b = 0) (h1 : μ 1 2 = 0) : zIMC b μ 0 μ := ⟨fun h0 => absurd h h0, fun _ _ => ⟨rfl, rfl⟩, fun _ h0 => absurd h1 h0⟩
theorem zIMC_b {b : Int} {μ μc μ' : pm_Mem} (h : b = 0) (h1 : μ 1 2 ≠ 0) (hz : zWc zsqA μ μc) (e : μ' = pm_up μc 96 3 0) : zIMC b μ 1 μ' :=
  ⟨fun h0 => absurd h h0, fun _ h0 => absurd h0 h1, fun _ _ => ⟨rfl, by rw [e, pm_up_eq], fun q hq => by rw [e]; exact (pm_upq (k := 3) (i := 3) rfl ((show ∀ q ∈ zRo, q ≠ (96, 3) by decide) q hq)).trans (hz q (zRo_of hq))⟩⟩
/-- both sides' images -/
def zHc (b x : Int) (μ1 : pm_Mem) : Prop := ∃ μ, zR μ ∧ (0 ≤ μ 1 2 ∧ μ 1 2 ≤ 1) ∧ zIMC b μ x μ1 ∧ (∀ q ∈ zRi, μ1 q.1 (q.2 : Int) = μ q.1 (q.2 : Int)) ∧ (∀ q ∈ [(205, 6), (205, 7), (205, 70)], μ1 q.1 ((q.2 : Nat) : Int) = μ q.1 (q.2 : Int))
def zHi_ (b : Int) (μ1 : pm_Mem) : Prop := ∃ x, zHc b x μ1
theorem zR_image {b x x2 : Int} {μ1 μ2 : pm_Mem} (h : zHc b x μ1) (hg : zIMG b μ1 x2 μ2) (hf : ∀ q ∈ zRq, μ2 q.1 (q.2 : Int) = μ1 q.1 (q.2 : Int)) : zR μ2 := by
  obtain ⟨μ, hR, ht, ⟨i1, i2, i3⟩, b0, c0⟩ := h
  obtain ⟨j1, j2, j3⟩ := hg
  have f30 : μ2 3 0 = μ1 3 0 := hf (3, 0) (by decide)
  have f31 : μ2 3 1 = μ1 3 1 := hf (3, 1) (by decide)
  have f460 : μ2 46 0 = μ1 46 0 := hf (46, 0) (by decide)
  have f461 : μ2 46 1 = μ1 46 1 := hf (46, 1) (by decide)
  have f12 : μ2 1 2 = μ1 1 2 := hf (1, 2) (by decide)
  have f33 : μ2 33 1 = μ1 33 1 := hf (33, 1) (by decide)
  have f35 : μ2 35 1 = μ1 35 1 := hf (35, 1) (by decide)
  have f76 : μ2 76 1 = μ1 76 1 := hf (76, 1) (by decide)
  have f78 : μ2 78 1 = μ1 78 1 := hf (78, 1) (by decide)
  have c6 : μ1 205 6 = μ 205 6 := c0 (205, 6) (by decide)
  have c7 : μ1 205 7 = μ 205 7 := c0 (205, 7) (by decide)
  have c70 : μ1 205 70 = μ 205 70 := c0 (205, 70) (by decide)
  have d0 : μ1 245 160 = μ 245 160 := b0 (245, 160) (by decide)
  have d1 : μ1 245 161 = μ 245 161 := b0 (245, 161) (by decide)
  by_cases hb : b = 0
  · by_cases h1 : μ 1 2 = 0
    · obtain ⟨-, e1⟩ := i2 hb h1
      have h70 : μ1 205 70 = 0 := by rw [c70, ← hR.2.2.2.1]; exact h1
      obtain ⟨-, e2⟩ := j2 hb h70
      rw [← e1] at hR
      exact zR_of ⟨fun q hq => hf q (zRo_of hq), fun hk => zKw_of (fun q hq => hf q (zRk_of hq)) f30 f31 hk⟩ (fun q hq => by rw [e2, pm_up_off ((show ∀ q ∈ zRi, q.1 ≠ 205 by decide) q hq)]) (fun q hq => by
        rw [e2]
        exact pm_upq (k := 0) (i := 0) rfl ((show ∀ q ∈ [(205, 6), (205, 7), (205, 70)], q ≠ ((205, 0) : Nat × Nat) by decide) q hq)) hR
    · obtain ⟨-, k3, a⟩ := i3 hb h1
      have h70 : μ1 205 70 ≠ 0 := by rw [c70, ← hR.2.2.2.1]; exact h1
      obtain ⟨-, g70, g245, gp⟩ := j3 hb h70
      have a30 : μ1 3 0 = μ 46 0 := a (3, 0) (by decide)
      have a31 : μ1 3 1 = μ 46 1 := a (3, 1) (by decide)
      have a460 : μ1 46 0 = μ 46 0 := a (46, 0) (by decide)
      have a461 : μ1 46 1 = μ 46 1 := a (46, 1) (by decide)
      have a12 : μ1 1 2 = μ 1 2 := a (1, 2) (by decide)
      have a33 : μ1 33 1 = μ 76 1 := a (33, 1) (by decide)
      have a35 : μ1 35 1 = μ 78 1 := a (35, 1) (by decide)
      have a76 : μ1 76 1 = μ 76 1 := a (76, 1) (by decide)
      have a78 : μ1 78 1 = μ 78 1 := a (78, 1) (by decide)
      have p6 : μ2 205 6 = μ1 245 160 := gp 160 (by decide) (fun _ => by decide)
      have p7 : μ2 205 7 = μ1 245 161 := gp 161 (by decide) (fun _ => by decide)
      obtain ⟨q1, q2⟩ := hR.2.2.2.2.1 h1
      have k3' : μ2 96 3 = 0 := (hf (96, 3) (by decide)).trans k3
      refine ⟨⟨?_, ?_⟩, ?_, ?_, ?_, fun _ => ⟨?_, ?_⟩, zKw_0 k3'⟩
      · rw [f30, a30, p6, d0, q1]
      · rw [f31, a31, p7, d1, q2]
      · rw [f33, a33, f35, a35]; exact hR.2.2.1
      · rw [f76, a76, f78, a78]; exact hR.2.2.1
      · rw [f12, a12, g70]; omega
      · rw [f460, a460, g245, d0, q1]
      · rw [f461, a461, g245, d1, q2]
  · obtain ⟨-, k12, a⟩ := i1 hb
    obtain ⟨-, g70, -, gk, gp⟩ := j1 hb
    have a30 : μ1 3 0 = μ 3 0 := a (3, 0) (by decide) (by decide)
    have a31 : μ1 3 1 = μ 3 1 := a (3, 1) (by decide) (by decide)
    have a460 : μ1 46 0 = μ 3 0 := a (46, 0) (by decide) (by decide)
    have a461 : μ1 46 1 = μ 3 1 := a (46, 1) (by decide) (by decide)
    have a33 : μ1 33 1 = μ 33 1 := a (33, 1) (by decide) (by decide)
    have a35 : μ1 35 1 = μ 35 1 := a (35, 1) (by decide) (by decide)
    have a76 : μ1 76 1 = μ 33 1 := a (76, 1) (by decide) (by decide)
    have a78 : μ1 78 1 = μ 35 1 := a (78, 1) (by decide) (by decide)
    have ak : ∀ q ∈ zRk, μ1 q.1 (q.2 : Int) = μ q.1 (q.2 : Int) := fun q hq => by
      have e := a q (zRk_of hq) ((show ∀ q ∈ zRk, q ≠ (1, 2) by decide) q hq)
      rw [(show ∀ q ∈ zRk, zsqB q = q by decide) q hq] at e
      exact e
    have m6 : μ2 205 6 = μ1 205 6 := gk 6 (by decide) (by decide)
    have m7 : μ2 205 7 = μ1 205 7 := gk 7 (by decide) (by decide)
    have p6 : μ2 245 160 = μ2 205 6 := gp 160 (by decide)
    have p7 : μ2 245 161 = μ2 205 7 := gp 161 (by decide)
    refine ⟨⟨?_, ?_⟩, ?_, ?_, ?_, fun _ => ⟨?_, ?_⟩, zKw_of (fun q hq => (hf q (zRk_of hq)).trans (ak q hq)) (f30.trans a30) (f31.trans a31) hR.2.2.2.2.2⟩
    · rw [f30, a30, m6, c6]; exact hR.1.1
    · rw [f31, a31, m7, c7]; exact hR.1.2
    · rw [f33, a33, f35, a35]; exact hR.2.1
    · rw [f76, a76, f78, a78]; exact hR.2.1
    · rw [f12, k12, g70]
    · rw [f460, a460, p6, m6, c6]; exact hR.1.1
    · rw [f461, a461, p7, m7, c7]; exact hR.1.2
