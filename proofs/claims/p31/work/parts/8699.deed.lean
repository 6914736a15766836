/-! the calendar: a place behind the deeds is written; rows that were read -/
theorem zJ_deed {μ μ' : pm_Mem} (h : ∀ r, r ≠ 205 → r ≠ 222 → μ' r = μ r) (h1 : ∀ i, i < 64 → μ' 222 i = μ 222 i) (hJ : zJ μ) : zJ μ' := by
  obtain ⟨a, b, c⟩ := hJ
  refine ⟨?_, zDeeds_congr (fun i _ i1 => (h1 i i1).symm) b, ?_⟩
  · rw [h 213 (by decide) (by decide), h 215 (by decide) (by decide), h 216 (by decide) (by decide), h 217 (by decide) (by decide), h 218 (by decide) (by decide), h 219 (by decide) (by decide)]
    exact a
  · rw [h 245 (by decide) (by decide)]
    exact c
theorem zTy_upp {μ : pm_Mem} (hT : zTy μ) {r P c n : Nat} {lo hi : Int} (h : zckp r P c n lo hi = true) {i z x : Int} (hi0 : i = P * z + c) (h1 : 0 ≤ z) (h2 : z < n) (h3 : lo ≤ x) (h4 : x ≤ hi) : zTy (pm_up μ r i x) := by
  obtain ⟨g, g1, g2, g3⟩ := zckp_ok h
  obtain ⟨k1, k2⟩ := g3 z.toNat (by omega)
  refine zTy_up hT g1 k2 ?_ h3 h4
  rw [hi0]
  simp only [Int.natCast_add, Int.natCast_mul]
  rw [Int.toNat_of_nonneg h1]
theorem zT_deed {μ : pm_Mem} (hT : zTJ μ) {c : Nat} {lo hi : Int} (h : zckp 222 4 c 32 lo hi = true) {i z x : Int} (hi0 : i = (4 : Nat) * z + c) (h1 : 16 ≤ z) (h2 : z < 32) (h3 : lo ≤ x) (h4 : x ≤ hi) : zTJ (pm_up μ 222 i x) :=
  ⟨zTy_upp hT.1 h hi0 (by omega) (by omega) h3 h4, zJ_deed (fun r _ hr => pm_up_row hr) (fun j hj => pm_up_ne (by omega)) hT.2⟩
/-- the rows read so far -/
def zDr (μ : pm_Mem) (n : Int) : Prop := ∀ j : Int, 0 ≤ j → j < n → zDeed (μ 222 (64 + 4 * j + 1)) (μ 222 (64 + 4 * j + 2)) (μ 222 (64 + 4 * j + 3))
theorem zDr_step {μ μ' : pm_Mem} {n : Int} (h : zDr μ n) (h1 : ∀ i, i < 64 + 4 * n → μ' 222 i = μ 222 i) (h2 : zDeed (μ' 222 (64 + 4 * n + 1)) (μ' 222 (64 + 4 * n + 2)) (μ' 222 (64 + 4 * n + 3))) : zDr μ' (n + 1) := fun j j0 j1 => by
  by_cases hj : j = n
  · subst hj; exact h2
  · rw [h1 _ (by omega), h1 _ (by omega), h1 _ (by omega)]
    exact h j j0 (by omega)
theorem zDr_same {μ μ' : pm_Mem} {n : Int} (h : zDr μ n) (h1 : μ' 222 = μ 222) : zDr μ' n := fun j j0 j1 => by
  rw [h1]; exact h j j0 j1
/-- the rows become the calendar: so many places are copied -/
def zCp (μ0 μ : pm_Mem) (k : Int) : Prop := zTy μ ∧ (∀ r, r ≠ 222 → μ r = μ0 r) ∧ (∀ j : Int, k ≤ j → μ 222 j = μ0 222 j) ∧ (∀ j : Int, 0 ≤ j → j < k → μ 222 j = μ0 222 (64 + j))
theorem zCp_0 {μ : pm_Mem} (hT : zTy μ) : zCp μ μ 0 := ⟨hT, fun _ _ => rfl, fun _ _ => rfl, fun j h1 h2 => absurd h2 (by omega)⟩
theorem zCp_step {μ0 μ μ1 : pm_Mem} {k x : Int} (h : zCp μ0 μ k) (h0 : 0 ≤ k ∧ k < 64) (hT : zTy μ1) (e : μ1 = pm_up μ 222 k x) (hx : x = μ 222 (64 + k)) : zCp μ0 μ1 (k + 1) := by
  obtain ⟨a1, a2, a3, a4⟩ := h
  refine ⟨hT, fun r hr => by rw [e, pm_up_row hr]; exact a2 r hr, fun j hj => by rw [e, pm_up_ne (by omega)]; exact a3 j (by omega), fun j j0 j1 => ?_⟩
  by_cases hj : j = k
  · rw [hj, e, pm_up_eq, hx]; exact a3 _ (by omega)
  · rw [e, pm_up_ne hj]; exact a4 j j0 (by omega)
theorem zCp_end {μ0 μ : pm_Mem} {n : Int} (h : zCp μ0 μ (4 * n)) (hn : 0 ≤ n ∧ n ≤ 16) (hD : zDr μ0 n) (hT0 : zTJ μ0) : zTJ μ := by
  obtain ⟨a1, a2, a3, a4⟩ := h
  obtain ⟨b1, b2, b3⟩ := hT0.2
  refine ⟨a1, ?_, fun j j0 j1 => ?_, ?_⟩
  · rw [a2 213 (by decide), a2 215 (by decide), a2 216 (by decide), a2 217 (by decide), a2 218 (by decide), a2 219 (by decide)]
    exact b1
  · by_cases hj : j < n
    · rw [a4 _ (by omega) (by omega), a4 _ (by omega) (by omega), a4 _ (by omega) (by omega)]
      have := hD j j0 hj
      rw [show 64 + 4 * j + 1 = 64 + (4 * j + 1) by omega, show 64 + 4 * j + 2 = 64 + (4 * j + 2) by omega, show 64 + 4 * j + 3 = 64 + (4 * j + 3) by omega] at this
      exact this
    · rw [a3 _ (by omega), a3 _ (by omega), a3 _ (by omega)]
      exact b2 j j0 j1
  · rw [a2 245 (by decide)]; exact b3
/-- a place is copied: of its own type -/
theorem zTy_cp {μ : pm_Mem} (hT : zTy μ) (hs : ∀ k : Nat, k < 64 → (match zRT2 222 with
  | some g => zck1 g ((sx_ft g (64 + k)).getD (0, 0, 0)).2.1 ((sx_ft g (64 + k)).getD (0, 0, 0)).2.2 k && zck1 g ((sx_ft g (64 + k)).getD (0, 0, 0)).2.1 ((sx_ft g (64 + k)).getD (0, 0, 0)).2.2 (64 + k)
  | none => false) = true) {k : Int} (h0 : 0 ≤ k ∧ k < 64) : zTy (pm_up μ 222 k (μ 222 (64 + k))) := by
  have h := hs k.toNat (by omega)
  split at h
  · rename_i g hg
    simp only [Bool.and_eq_true] at h
    obtain ⟨p1, p2⟩ := zck1_ok h.1
    obtain ⟨q1, q2⟩ := zck1_ok h.2
    have t := zTy_at hT hg (by decide) q1 q2 (i := 64 + k) (by omega)
    exact zTy_up hT hg p2 (by omega) t.1 t.2
  · cases h
set_option maxRecDepth 100000 in
theorem zcp222 : ∀ k : Nat, k < 64 → (match zRT2 222 with
  | some g => zck1 g ((sx_ft g (64 + k)).getD (0, 0, 0)).2.1 ((sx_ft g (64 + k)).getD (0, 0, 0)).2.2 k && zck1 g ((sx_ft g (64 + k)).getD (0, 0, 0)).2.1 ((sx_ft g (64 + k)).getD (0, 0, 0)).2.2 (64 + k)
  | none => false) = true := by decide +kernel
theorem zLn_same {μ μ' : pm_Mem} {n : Int} (h : ∀ r, r ≠ 205 → μ' r = μ r) (h25 : μ' 205 25 = μ 205 25) (hL : zLn μ n) : zLn μ' n := by
  unfold zLn at hL ⊢
  rw [h 215 (by decide), h 216 (by decide), h 217 (by decide), h 218 (by decide), h 219 (by decide), h25]
  exact hL
theorem zTy_cpr {μ : pm_Mem} (hT : zTy μ) (hs : ∀ k : Nat, k < 48 → (match zRT2 221 with
  | some g => zck1 g ((sx_ft g (48 + k)).getD (0, 0, 0)).2.1 ((sx_ft g (48 + k)).getD (0, 0, 0)).2.2 k && zck1 g ((sx_ft g (48 + k)).getD (0, 0, 0)).2.1 ((sx_ft g (48 + k)).getD (0, 0, 0)).2.2 (48 + k)
  | none => false) = true) {k : Int} (h0 : 0 ≤ k ∧ k < 48) : zTy (pm_up μ 221 k (μ 221 (48 + k))) := by
  have h := hs k.toNat (by omega)
  split at h
  · rename_i g hg
    simp only [Bool.and_eq_true] at h
    obtain ⟨p1, p2⟩ := zck1_ok h.1
    obtain ⟨q1, q2⟩ := zck1_ok h.2
    have t := zTy_at hT hg (by decide) q1 q2 (i := 48 + k) (by omega)
    exact zTy_up hT hg p2 (by omega) t.1 t.2
  · cases h
set_option maxRecDepth 100000 in
theorem zcp221 : ∀ k : Nat, k < 48 → (match zRT2 221 with
  | some g => zck1 g ((sx_ft g (48 + k)).getD (0, 0, 0)).2.1 ((sx_ft g (48 + k)).getD (0, 0, 0)).2.2 k && zck1 g ((sx_ft g (48 + k)).getD (0, 0, 0)).2.1 ((sx_ft g (48 + k)).getD (0, 0, 0)).2.2 (48 + k)
  | none => false) = true := by decide +kernel
theorem zT_rnd {μ : pm_Mem} (hT : zTJ μ) {k : Int} (h0 : 0 ≤ k ∧ k < 48) : zTJ (pm_up μ 221 k (μ 221 (48 + k))) := ⟨zTy_cpr hT.1 zcp221 h0, zJ_up (by decide) hT.2⟩
