/-! the tape and the words of the reference -/
noncomputable def zraw (μ : pm_Mem) (i : Int) : Int := if i < μ 205 11 then μ 211 i else -1
noncomputable def zwd (k : Nat) : Int := match sx_ft zG212 k with
  | some t => t.2.1
  | none => 0
set_option maxRecDepth 100000 in
theorem zg212 : zRT2 212 = some zG212 := rfl
set_option maxRecDepth 100000 in
theorem zwd_ck : ∀ k, k < 146 → zck1 zG212 (zwd k) (zwd k) k = true := by decide +kernel
theorem zwd_eq {μ : pm_Mem} (hT : zTJ μ) {i : Int} (h0 : 0 ≤ i) (h1 : i < 146) : μ 212 i = zwd i.toNat := by
  obtain ⟨k1, k2⟩ := zck1_ok (zwd_ck i.toNat (by omega))
  have := zTy_at hT.1 zg212 (by decide) k1 k2 (i := i) (by omega)
  omega
/-- how many blanks stand before a place -/
noncomputable def zrank : Nat → Nat
  | 0 => 0
  | k + 1 => (match zwd k with
    | 32 => zrank k + 1
    | _ => zrank k)
theorem zrank_b {k : Nat} (h : zwd k = 32) : zrank (k + 1) = zrank k + 1 := by
  show (match zwd k with
    | 32 => zrank k + 1
    | _ => zrank k) = _
  rw [h]
  rfl
theorem zrank_n {k : Nat} (h : zwd k ≠ 32) : zrank (k + 1) = zrank k := by
  show (match zwd k with
    | 32 => zrank k + 1
    | _ => zrank k) = _
  split
  · contradiction
  · rfl
set_option maxRecDepth 100000 in
theorem zwd_145 : zwd 145 = 32 := by decide +kernel
set_option maxRecDepth 100000 in
theorem zwd_0 : zwd 0 = 32 := by decide +kernel
theorem zrank_mono : ∀ {a b : Nat}, a ≤ b → zrank a ≤ zrank b
  | a, 0, h => by
    have : a = 0 := by omega
    subst this
    exact Nat.le_refl _
  | a, b + 1, h => by
    by_cases e : a = b + 1
    · rw [e]; exact Nat.le_refl _
    · have := zrank_mono (a := a) (b := b) (by omega)
      by_cases w : zwd b = 32
      · rw [zrank_b w]; omega
      · rw [zrank_n w]; exact this
set_option maxRecDepth 100000 in
theorem zrank_145 : zrank 145 = 28 := by decide +kernel
theorem zrank_le {k : Nat} (h : k < 145) (hw : zwd k = 32) : zrank k ≤ 27 := by
  have := zrank_mono (a := k + 1) (b := 145) (by omega)
  rw [zrank_b hw, zrank_145] at this
  omega
/-- only the reading's fields have changed -/
def zFr (μ0 μ : pm_Mem) : Prop := (∀ r, r ≠ 205 → μ r = μ0 r) ∧ (∀ k : Int, k ≠ 12 → k ≠ 13 → k ≠ 14 → k ≠ 15 → μ 205 k = μ0 205 k)
theorem zFr_refl (μ : pm_Mem) : zFr μ μ := ⟨fun _ _ => rfl, fun _ _ _ _ _ => rfl⟩
theorem zFr_up {μ0 μ : pm_Mem} (h : zFr μ0 μ) {k x : Int} (hk : 12 ≤ k ∧ k ≤ 15) : zFr μ0 (pm_up μ 205 k x) := ⟨fun r hr => by rw [pm_up_row hr]; exact h.1 r hr, fun j h1 h2 h3 h4 => by rw [pm_up_ne (by omega)]; exact h.2 j h1 h2 h3 h4⟩
/-- what has been read: from where, to where, what -/
def zRd (μ : pm_Mem) : Prop := 0 ≤ μ 205 13 ∧ μ 205 13 ≤ μ 205 12 ∧ μ 205 12 ≤ 400 ∧ 0 ≤ μ 205 14 ∧ μ 205 14 ≤ 4 ∧ (μ 205 14 ≠ 0 → μ 205 13 < μ 205 12) ∧ (μ 205 14 = 2 → 0 ≤ μ 205 15) ∧ (μ 205 14 = 3 → 0 ≤ μ 205 15)
def zRdP (μ0 μ : pm_Mem) : Prop := zTJ μ ∧ zFr μ0 μ ∧ μ0 205 12 ≤ μ 205 13 ∧ zRd μ
theorem zRdP_mk {μ0 μ : pm_Mem} (hT : zTJ μ) (hf : zFr μ0 μ) {a b c d : Int} (ha : μ 205 12 = a) (hb : μ 205 13 = b) (hc : μ 205 14 = c) (hd : μ 205 15 = d) (h1 : 0 ≤ b ∧ μ0 205 12 ≤ b ∧ b ≤ a ∧ a ≤ 400) (h2 : 0 ≤ c ∧ c ≤ 4) (h3 : c ≠ 0 → b < a) (h4 : c = 2 → 0 ≤ d) (h5 : c = 3 → 0 ≤ d) : zRdP μ0 μ := by
  subst ha; subst hb; subst hc; subst hd
  exact ⟨hT, hf, by omega, by omega, by omega, by omega, by omega, by omega, h3, h4, h5⟩
