/-! ARCADE told and KNOWS, both sides -/
theorem zDs_ex {w : Int → Int → Int} {n : Nat} {a b F : Int} (hw : ∀ a b, w a b ≤ 99) (hn : n ≤ 12) (hF : 2000 ≤ F) (ha : 0 ≤ a ∧ a < (n : Int)) (hb : 0 ≤ b ∧ b < (n : Int)) : ∃ v, zDs F w n a b v := by
  by_cases hr : ∃ k c, zWk w n k a b c
  · obtain ⟨k, c, hk⟩ := hr
    obtain ⟨j, d, j1, j2, -⟩ := zWk_short k ha hb hk
    have key : ∀ (m : Nat) (d : Int), d.toNat = m → d ≤ F → (∃ j, zWk w n j a b d) → ∃ v, zDs F w n a b v := by
      intro m
      induction m using Nat.strongRecOn with
      | ind m ih =>
        intro d hd hF hx
        by_cases hmin : ∀ k c, zWk w n k a b c → d ≤ c
        · exact ⟨d, hF, Or.inr hx, hmin⟩
        · obtain ⟨k, c, hc, hlt⟩ : ∃ k c, zWk w n k a b c ∧ c < d := Classical.byContradiction (fun hno => hmin (fun k c hc => Int.not_lt.mp (fun hl => hno ⟨k, c, hc, hl⟩)))
          exact ih c.toNat (by have := zWk_nn hc; omega) c rfl (by omega) ⟨k, hc⟩
    have hd := zWk_le hw j2
    exact key _ d rfl (by omega) ⟨j, j2⟩
  · exact ⟨F, Int.le_refl _, Or.inl rfl, fun k c hk => absurd ⟨k, c, hk⟩ hr⟩
theorem zcnt_iff {f f' : Int → Int} {k : Int} : ∀ {m : Nat}, (∀ i : Int, 0 ≤ i → i < (m : Int) → (f i = k ↔ f' i = k)) → zcnt f k m = zcnt f' k m
  | 0, _ => rfl
  | m + 1, h => by
    rw [zcnt_s, zcnt_s, zcnt_iff (m := m) (fun i i0 i1 => h i i0 (by omega))]
    have e := h m (by omega) (by omega)
    by_cases hf : f m = k
    · rw [if_pos hf, if_pos (e.mp hf)]
    · rw [if_neg hf, if_neg (fun h2 => hf (e.mpr h2))]
/-- lines as the class keeps them, ways as the reference does -/
def zLn2 (C : Int → Int) (m : Nat) (F : Int → Int) : Prop := m ≤ 16 ∧ zLvs C m ∧ ∀ a b : Int, 0 ≤ a → a ≤ 11 → 0 ≤ b → b ≤ 11 → F (12 * a + b) = zlw C m a b
theorem zPa3_st {K V : Int → Int} {sh cu j q : Int} (h : zPa3 K V sh cu j 0 q) : 1 ≤ V (j + 4) ∧ V (j + 4) ≤ 99 := by
  unfold zPa3 at h
  omega
theorem zPa3_pl {K V : Int → Int} {sh cu j q : Int} (h : zPa3 K V sh cu j 0 q) : (0 ≤ V j ∧ V j < sh) ∧ (0 ≤ V (j + 3) ∧ V (j + 3) < sh) := by
  unfold zPa3 at h
  omega
theorem zLi3_st {K V : Int → Int} {sh cu ln j q : Int} (h : zLi0 (zPa3 K V sh cu) K 326 ln j 0 q) : 1 ≤ V (j + 5) ∧ V (j + 5) ≤ 99 := by
  rcases h with h | h | ⟨-, -, g, p, h1, h2⟩
  · omega
  · omega
  · have hg : g = 0 := by omega
    subst hg
    have := zPa3_st h1
    rw [show j + 1 + 4 = j + 5 by omega] at this
    exact this
theorem zLi3_pl {K V : Int → Int} {sh cu ln j q : Int} (h : zLi0 (zPa3 K V sh cu) K 326 ln j 0 q) : (0 ≤ V (j + 1) ∧ V (j + 1) < sh) ∧ (0 ≤ V (j + 4) ∧ V (j + 4) < sh) := by
  rcases h with h | h | ⟨-, -, g, p, h1, h2⟩
  · omega
  · omega
  · have hg : g = 0 := by omega
    subst hg
    have := zPa3_pl h1
    rw [show j + 1 + 3 = j + 4 by omega] at this
    exact this
/-- the lanes' places lie below sh -/
def zLsh (C : Int → Int) (m : Nat) (sh : Int) : Prop := ∀ t : Nat, t < m → (0 ≤ C ((t : Int) * 4 + 0) ∧ C ((t : Int) * 4 + 0) < sh) ∧ (0 ≤ C ((t : Int) * 4 + 1) ∧ C ((t : Int) * 4 + 1) < sh)
theorem zLsh_w {C : Int → Int} {sh a b : Int} : ∀ {m : Nat}, zLsh C m sh → zlw C m a b ≠ 0 → (0 ≤ a ∧ a < sh) ∧ (0 ≤ b ∧ b < sh)
  | 0, _, h => absurd rfl h
  | m + 1, h, h2 => by
    have h0 := h m (Nat.lt_succ_self m)
    by_cases hab : (C ((m : Int) * 4 + 0) = a ∧ C ((m : Int) * 4 + 1) = b) ∨ (C ((m : Int) * 4 + 0) = b ∧ C ((m : Int) * 4 + 1) = a)
    · omega
    · refine zLsh_w (m := m) (fun t ht => h t (Nat.lt_succ_of_lt ht)) (fun h3 => h2 ?_)
      unfold zlw at h3 ⊢
      rw [zst_s, if_neg hab]
      exact h3
/-- ways between places where no line leads out -/
theorem zWk_shrink {w : Int → Int → Int} {n y : Int} (h : ∀ a b, 0 < w a b → (0 ≤ a ∧ a < y) ∧ (0 ≤ b ∧ b < y)) : ∀ {k : Nat} {a b c : Int}, zWk w n k a b c → zWk w y k a b c
  | 0, _, _, _, hk => hk
  | _ + 1, _, b, _, ⟨x, d, _, h1, h2, h3⟩ => ⟨x, d, (h x b h2).1, zWk_shrink h h1, h2, h3⟩
theorem zWk_grow {w : Int → Int → Int} {n y : Int} (hn : y ≤ n) : ∀ {k : Nat} {a b c : Int}, zWk w y k a b c → zWk w n k a b c
  | 0, _, _, _, hk => hk
  | _ + 1, _, _, _, ⟨x, d, h0, h1, h2, h3⟩ => ⟨x, d, ⟨h0.1, by omega⟩, zWk_grow hn h1, h2, h3⟩
theorem zDs_shrink {F : Int} {w : Int → Int → Int} {n y a b v : Int} (hn : y ≤ n) (h : ∀ a b, 0 < w a b → (0 ≤ a ∧ a < y) ∧ (0 ≤ b ∧ b < y)) (hd : zDs F w n a b v) : zDs F w y a b v := by
  refine ⟨hd.1, ?_, fun k c hk => hd.2.2 k c (zWk_grow hn hk)⟩
  rcases hd.2.1 with q | ⟨k, q⟩
  · exact Or.inl q
  · exact Or.inr ⟨k, zWk_shrink h q⟩
theorem zLn_both {K V : Int → Int} {sh cu f' q' : Int} {J J' : Nat → Int} {t t' : Nat} {C F : Int → Int} (h : zTxo (zLi0 (zPa3 K V sh cu) K 326) K J t 0 0) (hce : zCe3 K V J C t) (ht : t ≤ 16) (h' : zTxo (zLi0 (zPa3 K V sh cu) K 326) K J' t' f' q') (hF : f' = 0 → ∀ a b : Int, 0 ≤ a → a ≤ 11 → 0 ≤ b → b ≤ 11 → F (12 * a + b) = zsJ V J' t' a b) : t = t' ∧ f' = 0 ∧ zLn2 C t F ∧ zLsh C t sh := by
  obtain ⟨e1, e2, -, e4⟩ := zTxo_det (L := zLi0 (zPa3 K V sh cu) K 326) (K := K) (fun ln j f q f' q' => zLi0_det (fun j f q f' q' => zPa3_det)) (fun ln j q hq => by have := (zLi0_kw hq).1; omega) h h'
  refine ⟨e1, e2.symm, ⟨ht, fun s hs => ?_, fun a b a0 a1 b0 b1 => ?_⟩, fun s hs => by rw [(hce s hs).1, (hce s hs).2.1]; exact zLi3_pl (h.1.2 s hs)⟩
  · rw [(hce s hs).2.2]
    exact zLi3_st (h.1.2 s hs)
  · rw [hF e2.symm a b a0 a1 b0 b1, ← e1]
    unfold zsJ zlw
    exact (zst_cg (fun s hs => by
      obtain ⟨c0, c1, c2⟩ := hce s hs
      rw [e4 s (by omega)] at c0 c1 c2
      exact ⟨c0, c1, c2⟩) a b).symm
theorem zLn_none {K V : Int → Int} {sh cu f q f' q' : Int} {J J' : Nat → Int} {t t' : Nat} (h : zTxo (zLi0 (zPa3 K V sh cu) K 326) K J t f q) (h' : zTxo (zLi0 (zPa3 K V sh cu) K 326) K J' t' f' q') : f = f' ∧ (f ≠ 0 → q = q') := by
  obtain ⟨-, e2, e3, -⟩ := zTxo_det (L := zLi0 (zPa3 K V sh cu) K 326) (K := K) (fun ln j f q f' q' => zLi0_det (fun j f q f' q' => zPa3_det)) (fun ln j q hq => by have := (zLi0_kw hq).1; omega) h h'
  exact ⟨e2, e3⟩
/-- the lanes alike -/
def zLa (μ : pm_Mem) : Prop := ∃ m : Nat, μ 26 2 = (m : Int) ∧ zLn2 (μ 27) m (μ 223) ∧ zLsh (μ 27) m (μ 3 0)
theorem zLa_cg {μ μ' : pm_Mem} (h : zLa μ) (h26 : μ' 26 2 = μ 26 2) (h27 : μ' 27 = μ 27) (h223 : ∀ i : Int, 0 ≤ i → i < 144 → μ' 223 i = μ 223 i) (hsh : μ 3 0 ≤ μ' 3 0) : zLa μ' := by
  obtain ⟨m, h1, ⟨h2, h3, h4⟩, h5⟩ := h
  refine ⟨m, by rw [h26, h1], ⟨h2, by rw [h27]; exact h3, fun a b a0 a1 b0 b1 => ?_⟩, fun t ht => by rw [h27]; have := h5 t ht; omega⟩
  rw [h223 _ (by omega) (by omega), h27]
  exact h4 a b a0 a1 b0 b1
/-! KNOWS -/
def zKnC (W : Int → Int → Int) (y a k x : Int) : Prop := (a = -1 ∧ ∃ f, x = (if 1000000 ≤ f then -1 else f) ∧ zmo (zDs 1000000 (zws W 0) y) y y 0 f) ∨ (a ≠ -1 ∧ ¬ ((0 ≤ a ∧ a < y) ∧ 0 ≤ k ∧ k ≤ 11) ∧ x = -1) ∨ (a ≠ -1 ∧ (0 ≤ a ∧ a < y) ∧ (0 ≤ k ∧ k ≤ 11) ∧ ∃ f, zFwl 1000000 (zws W 0) y y f ∧ x = zcnt (fun z => f (a * 12 + z)) k y.toNat)
def zKnR (w : Int → Int → Int) (y a k x : Int) : Prop := (a = -1 ∧ ∃ f, x = (if 100000000 ≤ f then -1 else f) ∧ zmo (zDs 100000000 w y) y y 0 f) ∨ (a ≠ -1 ∧ ¬ ((0 ≤ a ∧ a < y) ∧ 0 ≤ k ∧ k ≤ 11) ∧ x = -1) ∨ (a ≠ -1 ∧ (0 ≤ a ∧ a < y) ∧ (0 ≤ k ∧ k ≤ 11) ∧ ∃ g, zBf w y a y.toNat g ∧ x = zcnt g k y.toNat)
theorem zKn_eq {W : Int → Int → Int} {y a k x x' : Int} (hW : ∀ a b, 0 ≤ W a b ∧ W a b ≤ 99) (hy : 0 ≤ y ∧ y ≤ 12) (h : zKnC W y a k x) (h' : zKnR (zws W 0) y a k x') : x = x' := by
  have hw : ∀ a b, zws W 0 a b ≤ 99 := fun a b => (zws_bd hW 0 a b).2
  obtain ⟨n, rfl⟩ : ∃ n : Nat, y = (n : Int) := ⟨y.toNat, by omega⟩
  rcases h with ⟨h1, f, h2, h3⟩ | ⟨h1, h2, h3⟩ | ⟨h1, h2, h3, f, h4, h5⟩
  · rcases h' with ⟨-, g, g2, g3⟩ | ⟨g1, -⟩ | ⟨g1, -⟩
    · rw [h2, g2]
      exact zmo_det hw (by omega) (by decide) (by decide) (fun a b ha hb => zDs_ex hw (by omega) (by decide) ha hb) (fun a b ha hb => zDs_ex hw (by omega) (by decide) ha hb) h3 g3
    · exact absurd h1 g1
    · exact absurd h1 g1
  · rcases h' with ⟨g1, -⟩ | ⟨-, -, g3⟩ | ⟨-, g2, g3, -⟩
    · exact absurd g1 h1
    · rw [h3, g3]
    · exact absurd ⟨g2, g3⟩ h2
  · rcases h' with ⟨g1, -⟩ | ⟨-, g2, -⟩ | ⟨-, -, -, g, g4, g5⟩
    · exact absurd g1 h1
    · exact absurd ⟨h2, h3⟩ g2
    · rw [h5, g5]
      refine zcnt_iff (fun i i0 i1 => ?_)
      have i1' : i < (n : Int) := by omega
      have d1 := zFw_ds h4 h2 ⟨i0, i1'⟩
      have d2 := zBf_ds (N := n) rfl h2 (by rw [show ((n : Int)).toNat = n by omega] at g4; exact g4) ⟨i0, i1'⟩
      rcases zDs_det hw (by omega) (by decide) (by decide) h2 ⟨i0, i1'⟩ d1 d2 with ⟨q1, q2⟩ | ⟨q1, q2⟩
      · constructor
        · intro hh
          have hh : f (a * 12 + i) = k := hh
          omega
        · intro hh
          omega
      · constructor
        · intro hh
          have hh : f (a * 12 + i) = k := hh
          omega
        · intro hh
          show f (a * 12 + i) = k
          omega
theorem zKn_hst {C F : Int → Int} {m : Nat} {y : Int} (h : zLn2 C m F) (hy : y ≤ 12) : ∀ p q : Int, (0 ≤ p ∧ p < y) → (0 ≤ q ∧ q < y) → (zws (zlw C m) 0 p q = 1 ∧ 0 < F (12 * p + q)) ∨ (zws (zlw C m) 0 p q = 0 ∧ ¬ 0 < F (12 * p + q)) := fun p q hp hq => by
  rw [h.2.2 p q (by omega) (by omega) (by omega) (by omega)]
  unfold zws zw1
  rw [if_pos rfl]
  by_cases hc : 0 < zlw C m p q
  · exact Or.inl ⟨if_pos hc, hc⟩
  · exact Or.inr ⟨if_neg hc, hc⟩
