/-! ARCADE told and KNOWS, both sides -/
/-- lines as the class keeps them, ways as the reference does -/
def zLn2 (C : Int → Int) (m : Nat) (F : Int → Int) : Prop := m ≤ 16 ∧ zLvs C m ∧ ∀ a b : Int, 0 ≤ a → a ≤ 11 → 0 ≤ b → b ≤ 11 → F (12 * a + b) = zlw C m a b
theorem zPa3_st {K V : Int → Int} {sh cu j q : Int} (h : zPa3 K V sh cu j 0 q) : 1 ≤ V (j + 4) ∧ V (j + 4) ≤ 99 := by
  unfold zPa3 at h
  omega
theorem zPa3_pl {K V : Int → Int} {sh cu j q : Int} (h : zPa3 K V sh cu j 0 q) : (0 ≤ V j ∧ V j < sh) ∧ (0 ≤ V (j + 3) ∧ V (j + 3) < sh) := by
  unfold zPa3 at h
  omega
theorem zLi3_st {K V : Int → Int} {sh cu ln j q : Int} (h : zLi0 (zPa3 K V sh cu) K 326 ln j 0 q) : 1 ≤ V (j + 5) ∧ V (j + 5) ≤ 99 := by
  rcases h with h | h | ⟨-, -, g, p, h1, h2⟩
  · omega
  · omega
  · have hg : g = 0 := by omega
    subst hg
    have := zPa3_st h1
    rw [show j + 1 + 4 = j + 5 by omega] at this
    exact this
theorem zLi3_pl {K V : Int → Int} {sh cu ln j q : Int} (h : zLi0 (zPa3 K V sh cu) K 326 ln j 0 q) : (0 ≤ V (j + 1) ∧ V (j + 1) < sh) ∧ (0 ≤ V (j + 4) ∧ V (j + 4) < sh) := by
  rcases h with h | h | ⟨-, -, g, p, h1, h2⟩
  · omega
  · omega
  · have hg : g = 0 := by omega
    subst hg
    have := zPa3_pl h1
    rw [show j + 1 + 3 = j + 4 by omega] at this
    exact this
/-- the lanes' places lie below sh -/
def zLsh (C : Int → Int) (m : Nat) (sh : Int) : Prop := ∀ t : Nat, t < m → (0 ≤ C ((t : Int) * 4 + 0) ∧ C ((t : Int) * 4 + 0) < sh) ∧ (0 ≤ C ((t : Int) * 4 + 1) ∧ C ((t : Int) * 4 + 1) < sh)
theorem zLn_both {K V : Int → Int} {sh cu f' q' : Int} {J J' : Nat → Int} {t t' : Nat} {C F : Int → Int} (h : zTxo (zLi0 (zPa3 K V sh cu) K 326) K J t 0 0) (hce : zCe3 K V J C t) (ht : t ≤ 16) (h' : zTxo (zLi0 (zPa3 K V sh cu) K 326) K J' t' f' q') (hF : f' = 0 → ∀ a b : Int, 0 ≤ a → a ≤ 11 → 0 ≤ b → b ≤ 11 → F (12 * a + b) = zsJ V J' t' a b) : t = t' ∧ f' = 0 ∧ zLn2 C t F ∧ zLsh C t sh := by
  obtain ⟨e1, e2, -, e4⟩ := zTxo_det (L := zLi0 (zPa3 K V sh cu) K 326) (K := K) (fun ln j f q f' q' => zLi0_det (fun j f q f' q' => zPa3_det)) (fun ln j q hq => by have := (zLi0_kw hq).1; omega) h h'
  refine ⟨e1, e2.symm, ⟨ht, fun s hs => ?_, fun a b a0 a1 b0 b1 => ?_⟩, fun s hs => by rw [(hce s hs).1, (hce s hs).2.1]; exact zLi3_pl (h.1.2 s hs)⟩
  · rw [(hce s hs).2.2]
    exact zLi3_st (h.1.2 s hs)
  · rw [hF e2.symm a b a0 a1 b0 b1, ← e1]
    unfold zsJ zlw
    exact (zst_cg (fun s hs => by
      obtain ⟨c0, c1, c2⟩ := hce s hs
      rw [e4 s (by omega)] at c0 c1 c2
      exact ⟨c0, c1, c2⟩) a b).symm
/-- the lanes alike -/
def zLa (μ : pm_Mem) : Prop := ∃ m : Nat, μ 26 2 = (m : Int) ∧ zLn2 (μ 27) m (μ 223) ∧ zLsh (μ 27) m (μ 3 0)
theorem zLa_cg {μ μ' : pm_Mem} (h : zLa μ) (h26 : μ' 26 2 = μ 26 2) (h27 : μ' 27 = μ 27) (h223 : ∀ i : Int, 0 ≤ i → i < 144 → μ' 223 i = μ 223 i) (hsh : μ 3 0 ≤ μ' 3 0) : zLa μ' := by
  obtain ⟨m, h1, ⟨h2, h3, h4⟩, h5⟩ := h
  refine ⟨m, by rw [h26, h1], ⟨h2, by rw [h27]; exact h3, fun a b a0 a1 b0 b1 => ?_⟩, fun t ht => by rw [h27]; have := h5 t ht; omega⟩
  rw [h223 _ (by omega) (by omega), h27]
  exact h4 a b a0 a1 b0 b1
/-! KNOWS -/
def zKnC (W : Int → Int → Int) (y a k x : Int) : Prop := (a = -1 ∧ ∃ f, x = (if 1000000 ≤ f then -1 else f) ∧ zmo (zDs 1000000 (zws W 0) y) y y 0 f) ∨ (a ≠ -1 ∧ ¬ ((0 ≤ a ∧ a < y) ∧ 0 ≤ k ∧ k ≤ 11) ∧ x = -1) ∨ (a ≠ -1 ∧ (0 ≤ a ∧ a < y) ∧ (0 ≤ k ∧ k ≤ 11) ∧ ∃ f, zFwl 1000000 (zws W 0) y y f ∧ x = zcnt (fun z => f (a * 12 + z)) k y.toNat)
def zKnR (w : Int → Int → Int) (y a k x : Int) : Prop := (a = -1 ∧ ∃ f, x = (if 100000000 ≤ f then -1 else f) ∧ zmo (zDs 100000000 w y) y y 0 f) ∨ (a ≠ -1 ∧ ¬ ((0 ≤ a ∧ a < y) ∧ 0 ≤ k ∧ k ≤ 11) ∧ x = -1) ∨ (a ≠ -1 ∧ (0 ≤ a ∧ a < y) ∧ (0 ≤ k ∧ k ≤ 11) ∧ ∃ g, zBf w y a y.toNat g ∧ x = zcnt g k y.toNat)
