/-! codes as they are put together: from h values waiting to h' ones; what waits -/
def zRn (op arg : Int → Int) : Nat → Int → Int → Int → Prop
  | 0, _, h, h' => h = h'
  | n + 1, k, h, h' => ((op k = 0 ∨ op k = 1) ∧ (op k = 1 → 0 ≤ arg k ∧ arg k ≤ 10) ∧ zRn op arg n (k + 1) (h + 1) h') ∨ (op k = 9 ∧ 1 ≤ h ∧ zRn op arg n (k + 1) h h') ∨ (op k ≠ 0 ∧ op k ≠ 1 ∧ op k ≠ 9 ∧ 2 ≤ h ∧ (op k = 5 → op (k - 1) = 0 ∧ 1 ≤ arg (k - 1)) ∧ zRn op arg n (k + 1) (h - 1) h')
theorem zRn_app {op arg : Int → Int} {m : Nat} {h1 h2 : Int} : ∀ {n : Nat} {k h : Int}, zRn op arg n k h h1 → zRn op arg m (k + n) h1 h2 → zRn op arg (n + m) k h h2
  | 0, k, h, a, b => by
    have a : h = h1 := a
    subst a
    rw [Nat.zero_add]
    have : k + ((0 : Nat) : Int) = k := by omega
    rw [this] at b
    exact b
  | n + 1, k, h, a, b => by
    rw [show n + 1 + m = (n + m) + 1 by omega]
    have e : k + ((n + 1 : Nat) : Int) = k + 1 + (n : Int) := by omega
    rw [e] at b
    rcases a with ⟨a1, a2, a3⟩ | ⟨a1, a2, a3⟩ | ⟨a1, a2, a3, a4, a5, a6⟩
    · exact Or.inl ⟨a1, a2, zRn_app a3 b⟩
    · exact Or.inr (Or.inl ⟨a1, a2, zRn_app a3 b⟩)
    · exact Or.inr (Or.inr ⟨a1, a2, a3, a4, a5, zRn_app a6 b⟩)
theorem zRn_congr {op arg op' arg' : Int → Int} {b : Int} (ho : ∀ i, i < b → op' i = op i) (ha : ∀ i, i < b → arg' i = arg i) {h1 : Int} : ∀ {n : Nat} {k h : Int}, k + n ≤ b → zRn op arg n k h h1 → zRn op' arg' n k h h1
  | 0, _, _, _, hs => hs
  | n + 1, k, h, hb, hs => by
    have e1 := ho k (by omega)
    have e2 := ha k (by omega)
    have e3 := ho (k - 1) (by omega)
    have e4 := ha (k - 1) (by omega)
    rcases hs with ⟨a1, a2, a3⟩ | ⟨a1, a2, a3⟩ | ⟨a1, a2, a3, a4, a5, a6⟩
    · exact Or.inl ⟨by rw [e1]; exact a1, by rw [e1, e2]; exact a2, zRn_congr ho ha (by omega) a3⟩
    · exact Or.inr (Or.inl ⟨by rw [e1]; exact a1, a2, zRn_congr ho ha (by omega) a3⟩)
    · exact Or.inr (Or.inr ⟨by rw [e1]; exact a1, by rw [e1]; exact a2, by rw [e1]; exact a3, a4, by rw [e1, e3, e4]; exact a5, zRn_congr ho ha (by omega) a6⟩)
theorem zRn_safe {op arg : Int → Int} {h1 : Int} : ∀ {n : Nat} {k h : Int}, zRn op arg n k h h1 → zSafe op arg n k h
  | 0, _, _, _ => trivial
  | n + 1, k, h, hs => by
    rcases hs with ⟨a1, a2, a3⟩ | ⟨a1, a2, a3⟩ | ⟨a1, a2, a3, a4, a5, a6⟩
    · exact Or.inl ⟨a1, a2, zRn_safe a3⟩
    · exact Or.inr (Or.inl ⟨a1, a2, zRn_safe a3⟩)
    · exact Or.inr (Or.inr ⟨a1, a2, a3, a4, a5, zRn_safe a6⟩)
theorem zSafe_shift {op arg : Int → Int} : ∀ {n : Nat} {k h : Int}, zSafe op arg n (800 + k) h → zSafe (fun i => op (800 + i)) (fun i => arg (800 + i)) n k h
  | 0, _, _, _ => trivial
  | n + 1, k, h, hs => by
    have e1 : 800 + k + 1 = 800 + (k + 1) := by omega
    have e2 : 800 + k - 1 = 800 + (k - 1) := by omega
    rcases hs with ⟨a1, a2, a3⟩ | ⟨a1, a2, a3⟩ | ⟨a1, a2, a3, a4, a5, a6⟩
    · rw [e1] at a3
      exact Or.inl ⟨a1, a2, zSafe_shift a3⟩
    · rw [e1] at a3
      exact Or.inr (Or.inl ⟨a1, a2, zSafe_shift a3⟩)
    · rw [e1] at a6
      rw [e2] at a5
      exact Or.inr (Or.inr ⟨a1, a2, a3, a4, a5, zSafe_shift a6⟩)
/-- codes were put behind those that stood, from a values to b -/
def zEm (μ μ' : pm_Mem) (a b : Int) : Prop := ∃ m : Nat, μ' 205 25 = μ 205 25 + m ∧ (∀ h, 0 ≤ h → zRn (μ' 218) (μ' 219) m (800 + μ 205 25) (h + a) (h + b)) ∧ (∀ i, i < 800 + μ 205 25 → μ' 218 i = μ 218 i) ∧ (∀ i, i < 800 + μ 205 25 → μ' 219 i = μ 219 i)
theorem zEm_le {μ μ' : pm_Mem} {a b : Int} (h : zEm μ μ' a b) : μ 205 25 ≤ μ' 205 25 := by
  obtain ⟨m, h1, -⟩ := h
  omega
theorem zEm_lift {μ μ' : pm_Mem} {a b d a' b' : Int} (h : zEm μ μ' a b) (hd : 0 ≤ d) (ha : a' = a + d) (hb : b' = b + d) : zEm μ μ' a' b' := by
  obtain ⟨m, h1, h2, h3⟩ := h
  refine ⟨m, h1, fun h h0 => ?_, h3⟩
  have := h2 (h + d) (by omega)
  rw [show h + d + a = h + a' by omega, show h + d + b = h + b' by omega] at this
  exact this
theorem zEm_trans {μ μ1 μ2 : pm_Mem} {a b c : Int} (h : zEm μ μ1 a b) (h' : zEm μ1 μ2 b c) : zEm μ μ2 a c := by
  obtain ⟨m, h1, h2, h3, h4⟩ := h
  obtain ⟨n, g1, g2, g3, g4⟩ := h'
  refine ⟨m + n, by omega, fun h h0 => zRn_app (zRn_congr g3 g4 (by omega) (h2 h h0)) ?_, fun i hi => by rw [g3 i (by omega), h3 i hi], fun i hi => by rw [g4 i (by omega), h4 i hi]⟩
  have := g2 h h0
  rw [show 800 + μ1 205 25 = 800 + μ 205 25 + (m : Int) by omega] at this
  exact this
theorem zEm_same {μ μ' : pm_Mem} {a : Int} (h : μ' 205 25 = μ 205 25) (h1 : μ' 218 = μ 218) (h2 : μ' 219 = μ 219) : zEm μ μ' a a := ⟨0, by omega, fun _ _ => rfl, fun i _ => by rw [h1], fun i _ => by rw [h2]⟩
theorem zEm_fr {μ μ' : pm_Mem} {a : Int} (h : zFr μ μ') : zEm μ μ' a a := zEm_same (h.2 25 (by decide) (by decide) (by decide) (by decide)) (h.1 218 (by decide)) (h.1 219 (by decide))
/-- one code was put behind -/
def zE1 (μ μ' : pm_Mem) (o v : Int) : Prop := μ' 205 25 = μ 205 25 + 1 ∧ μ' 218 (800 + μ 205 25) = o ∧ μ' 219 (800 + μ 205 25) = v ∧ (∀ i, i ≠ 800 + μ 205 25 → μ' 218 i = μ 218 i) ∧ (∀ i, i ≠ 800 + μ 205 25 → μ' 219 i = μ 219 i) ∧ (∀ r, r ≠ 205 → r ≠ 218 → r ≠ 219 → μ' r = μ r) ∧ (∀ k, k ≠ 25 → μ' 205 k = μ 205 k)
theorem zE1_push {μ μ' : pm_Mem} {o v : Int} (h : zE1 μ μ' o v) (ho : o = 0 ∨ o = 1) (hv : o = 1 → 0 ≤ v ∧ v ≤ 10) : zEm μ μ' 0 1 := by
  obtain ⟨h1, h2, h3, h4, h5, -⟩ := h
  refine ⟨1, by omega, fun h h0 => Or.inl ⟨by rw [h2]; exact ho, by rw [h2, h3]; exact hv, by show h + 0 + 1 = h + 1; omega⟩, fun i hi => h4 i (by omega), fun i hi => h5 i (by omega)⟩
theorem zE1_not {μ μ' : pm_Mem} {v : Int} (h : zE1 μ μ' 9 v) : zEm μ μ' 1 1 := by
  obtain ⟨h1, h2, h3, h4, h5, -⟩ := h
  exact ⟨1, by omega, fun h h0 => Or.inr (Or.inl ⟨h2, by omega, rfl⟩), fun i hi => h4 i (by omega), fun i hi => h5 i (by omega)⟩
theorem zE1_two {μ μ' : pm_Mem} {o v : Int} (h : zE1 μ μ' o v) (h0 : o ≠ 0) (h1 : o ≠ 1) (h9 : o ≠ 9) (hd : o = 5 → μ 218 (800 + μ 205 25 - 1) = 0 ∧ 1 ≤ μ 219 (800 + μ 205 25 - 1)) : zEm μ μ' 2 1 := by
  obtain ⟨q1, q2, q3, q4, q5, -⟩ := h
  refine ⟨1, by omega, fun h hh => Or.inr (Or.inr ⟨by rw [q2]; exact h0, by rw [q2]; exact h1, by rw [q2]; exact h9, by omega, ?_, by show h + 2 - 1 = h + 1; omega⟩), fun i hi => q4 i (by omega), fun i hi => q5 i (by omega)⟩
  rw [q2, q4 _ (by omega), q5 _ (by omega)]
  exact hd
/-- what an expression leaves as it was -/
def zFs (μ μ' : pm_Mem) : Prop := (∀ r, r ≠ 205 → r ≠ 218 → r ≠ 219 → μ' r = μ r) ∧ (∀ k, k ≠ 12 → k ≠ 13 → k ≠ 14 → k ≠ 15 → k ≠ 25 → μ' 205 k = μ 205 k)
theorem zFs_refl (μ : pm_Mem) : zFs μ μ := ⟨fun _ _ _ _ => rfl, fun _ _ _ _ _ _ => rfl⟩
theorem zFs_trans {μ μ1 μ2 : pm_Mem} (h : zFs μ μ1) (h' : zFs μ1 μ2) : zFs μ μ2 := ⟨fun r a b c => by rw [h'.1 r a b c, h.1 r a b c], fun k a b c d e => by rw [h'.2 k a b c d e, h.2 k a b c d e]⟩
theorem zFr_s {μ μ' : pm_Mem} (h : zFr μ μ') : zFs μ μ' := ⟨fun r a _ _ => h.1 r a, fun k a b c d _ => h.2 k a b c d⟩
theorem zE1_s {μ μ' : pm_Mem} {o v : Int} (h : zE1 μ μ' o v) : zFs μ μ' := ⟨h.2.2.2.2.2.1, fun k _ _ _ _ e => h.2.2.2.2.2.2 k e⟩
/-- an expression was read well; w is what is owed besides -/
def zOK (μ μ' : pm_Mem) (w : Int) : Prop := zRd μ' ∧ μ 205 13 ≤ μ' 205 13 ∧ μ' 205 25 + w ≤ μ' 205 13 ∧ zEm μ μ' 0 1 ∧ zFs μ μ'
theorem zJ_codes {μ μ' : pm_Mem} (h : ∀ r, r ≠ 205 → r ≠ 218 → r ≠ 219 → μ' r = μ r) (h1 : ∀ i, i < 400 → μ' 218 i = μ 218 i) (h2 : ∀ i, i < 400 → μ' 219 i = μ 219 i) (hJ : zJ μ) : zJ μ' := by
  obtain ⟨a, b, c⟩ := hJ
  refine ⟨zLaw_congr ?_ ?_ ?_ ?_ (fun i _ i1 => (h1 i i1).symm) (fun i _ i1 => (h2 i i1).symm) a, ?_, ?_⟩
  · rw [h 213 (by decide) (by decide) (by decide)]
  · intro l _ _; rw [h 215 (by decide) (by decide) (by decide)]
  · intro l _ _; rw [h 216 (by decide) (by decide) (by decide)]
  · intro l _ _; rw [h 217 (by decide) (by decide) (by decide)]
  · rw [h 222 (by decide) (by decide) (by decide)]; exact b
  · rw [h 245 (by decide) (by decide) (by decide)]; exact c
theorem zT_op {μ : pm_Mem} (hT : zTJ μ) {i x : Int} (h0 : 400 ≤ i ∧ i < 1200) (hx : 0 ≤ x ∧ x ≤ 12) : zTJ (pm_up μ 218 i x) :=
  ⟨zTy_upT hT.1 zs218_0 (by omega) (by omega) hx.1 hx.2, zJ_codes (fun r _ h _ => pm_up_row h) (fun j hj => pm_up_ne (by omega)) (fun j _ => pm_up_off (by decide)) hT.2⟩
theorem zT_arg {μ : pm_Mem} (hT : zTJ μ) {i x : Int} (h0 : 400 ≤ i ∧ i < 1200) (hx : -1 ≤ x ∧ x ≤ 99999) : zTJ (pm_up μ 219 i x) :=
  ⟨zTy_upT hT.1 zs219_0 (by omega) (by omega) hx.1 hx.2, zJ_codes (fun r _ _ h => pm_up_row h) (fun j _ => pm_up_off (by decide)) (fun j hj => pm_up_ne (by omega)) hT.2⟩
