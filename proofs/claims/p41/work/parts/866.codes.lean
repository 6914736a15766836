/-! codes as they are put together: from h values waiting to h' ones; what waits -/
variable {φ : Option pm_Mem}
def zRn (op arg : Int → Int) : Nat → Int → Int → Int → Prop
  | 0, _, h, h' => h = h'
  | n + 1, k, h, h' => ((op k = 0 ∨ op k = 1) ∧ (op k = 1 → 0 ≤ arg k ∧ arg k ≤ 10) ∧ zRn op arg n (k + 1) (h + 1) h') ∨ (op k = 9 ∧ 1 ≤ h ∧ zRn op arg n (k + 1) h h') ∨ (op k ≠ 0 ∧ op k ≠ 1 ∧ op k ≠ 9 ∧ 2 ≤ h ∧ (op k = 5 → op (k - 1) = 0 ∧ 1 ≤ arg (k - 1)) ∧ zRn op arg n (k + 1) (h - 1) h')
theorem zRn_safe {op arg : Int → Int} {h1 : Int} : ∀ {n : Nat} {k h : Int}, zRn op arg n k h h1 → zSafe op arg n k h
  | 0, _, _, _ => trivial
  | n + 1, k, h, hs => by
    rcases hs with ⟨a1, a2, a3⟩ | ⟨a1, a2, a3⟩ | ⟨a1, a2, a3, a4, a5, a6⟩
    · exact Or.inl ⟨a1, a2, zRn_safe a3⟩
    · exact Or.inr (Or.inl ⟨a1, a2, zRn_safe a3⟩)
    · exact Or.inr (Or.inr ⟨a1, a2, a3, a4, a5, zRn_safe a6⟩)
theorem zSafe_shift {op arg : Int → Int} : ∀ {n : Nat} {k h : Int}, zSafe op arg n (800 + k) h → zSafe (fun i => op (800 + i)) (fun i => arg (800 + i)) n k h
  | 0, _, _, _ => trivial
  | n + 1, k, h, hs => by
    have e1 : 800 + k + 1 = 800 + (k + 1) := by omega
    have e2 : 800 + k - 1 = 800 + (k - 1) := by omega
    rcases hs with ⟨a1, a2, a3⟩ | ⟨a1, a2, a3⟩ | ⟨a1, a2, a3, a4, a5, a6⟩
    · rw [e1] at a3
      exact Or.inl ⟨a1, a2, zSafe_shift a3⟩
    · rw [e1] at a3
      exact Or.inr (Or.inl ⟨a1, a2, zSafe_shift a3⟩)
    · rw [e1] at a6
      rw [e2] at a5
      exact Or.inr (Or.inr ⟨a1, a2, a3, a4, a5, zSafe_shift a6⟩)
/-- codes were put behind those that stood, from a values to b -/
def zEm (μ μ' : pm_Mem) (a b : Int) : Prop := ∃ m : Nat, μ' 205 25 = μ 205 25 + m ∧ (∀ h, 0 ≤ h → zRn (μ' 218) (μ' 219) m (800 + μ 205 25) (h + a) (h + b)) ∧ (∀ i, i < 800 + μ 205 25 → μ' 218 i = μ 218 i) ∧ (∀ i, i < 800 + μ 205 25 → μ' 219 i = μ 219 i)
/-- one code was put behind -/
def zE1 (μ μ' : pm_Mem) (o v : Int) : Prop := μ' 205 25 = μ 205 25 + 1 ∧ μ' 218 (800 + μ 205 25) = o ∧ μ' 219 (800 + μ 205 25) = v ∧ (∀ i, i ≠ 800 + μ 205 25 → μ' 218 i = μ 218 i) ∧ (∀ i, i ≠ 800 + μ 205 25 → μ' 219 i = μ 219 i) ∧ (∀ r, r ≠ 205 → r ≠ 218 → r ≠ 219 → μ' r = μ r) ∧ (∀ k, k ≠ 25 → μ' 205 k = μ 205 k)
/-- what an expression leaves as it was -/
def zFs (μ μ' : pm_Mem) : Prop := (∀ r, r ≠ 205 → r ≠ 218 → r ≠ 219 → μ' r = μ r) ∧ (∀ k, k ≠ 12 → k ≠ 13 → k ≠ 14 → k ≠ 15 → k ≠ 25 → μ' 205 k = μ 205 k)
/-- an expression was read well; w is what is owed besides -/
def zOK (μ μ' : pm_Mem) (w : Int) : Prop := zRd μ' ∧ μ 205 13 ≤ μ' 205 13 ∧ μ' 205 25 + w ≤ μ' 205 13 ∧ zEm μ μ' 0 1 ∧ zFs μ μ'
theorem zJ_codes {μ μ' : pm_Mem} (h : ∀ r, r ≠ 205 → r ≠ 218 → r ≠ 219 → μ' r = μ r) (h1 : ∀ i, i < 400 → μ' 218 i = μ 218 i) (h2 : ∀ i, i < 400 → μ' 219 i = μ 219 i) (hF : ∀ q ∈ sx_Fz, μ' q.1 (q.2 : Int) = μ q.1 (q.2 : Int)) (hJ : (zJ φ) μ) : (zJ φ) μ' := by
  obtain ⟨a, b, c, d⟩ := hJ
  refine ⟨zLaw_congr ?_ ?_ ?_ ?_ (fun i _ i1 => (h1 i i1).symm) (fun i _ i1 => (h2 i i1).symm) a, ?_, ?_, zF_of d hF⟩
  · rw [h 213 (by decide) (by decide) (by decide)]
  · intro l _ _; rw [h 215 (by decide) (by decide) (by decide)]
  · intro l _ _; rw [h 216 (by decide) (by decide) (by decide)]
  · intro l _ _; rw [h 217 (by decide) (by decide) (by decide)]
  · rw [h 222 (by decide) (by decide) (by decide)]; exact b
  · rw [h 245 (by decide) (by decide) (by decide)]; exact c
theorem zT_op {μ : pm_Mem} (hT : zTJ φ μ) {i x : Int} (h0 : 400 ≤ i ∧ i < 1200) (hx : 0 ≤ x ∧ x ≤ 12) : zTJ φ (pm_up μ 218 i x) :=
  ⟨zTy_upT hT.1 zs218_0 (by omega) (by omega) hx.1 hx.2, zJ_codes (fun r _ h _ => pm_up_row h) (fun j hj => pm_up_ne (by omega)) (fun j _ => pm_up_off (by decide)) (fun q hq => pm_up_off (zFz_ne (by decide) hq)) hT.2⟩
theorem zT_arg {μ : pm_Mem} (hT : zTJ φ μ) {i x : Int} (h0 : 400 ≤ i ∧ i < 1200) (hx : -1 ≤ x ∧ x ≤ 99999) : zTJ φ (pm_up μ 219 i x) :=
  ⟨zTy_upT hT.1 zs219_0 (by omega) (by omega) hx.1 hx.2, zJ_codes (fun r _ _ h => pm_up_row h) (fun j _ => pm_up_off (by decide)) (fun j hj => pm_up_ne (by omega)) (fun q hq => pm_up_off (zFz_ne (by decide) hq)) hT.2⟩
