/-! THE LAW's steps by kinds: what stands (a number, a condition), never more than d -/
abbrev zI2 (o : Int) : Prop := o = 2 ∨ o = 3 ∨ o = 4
abbrev zI6 (o : Int) : Prop := o = 6 ∨ o = 7 ∨ o = 8
abbrev zI10 (o : Int) : Prop := o = 10 ∨ o = 11
def zLt (d : Nat) : List zIw → List Bool → List Bool → Prop
  | [], ts, ts' => ts' = ts
  | x :: L, ts, ts' => (x.1 = 0 ∧ ts.length < d ∧ zLt d L (false :: ts) ts') ∨ (x.1 = 1 ∧ (0 ≤ x.2 ∧ x.2 ≤ 10) ∧ ts.length < d ∧ zLt d L (false :: ts) ts') ∨ (x.1 = 5 ∧ 1 ≤ x.2 ∧ ts.length < d ∧ ∃ r, ts = false :: r ∧ zLt d L (false :: r) ts') ∨ (x.1 = 9 ∧ ∃ r, ts = true :: r ∧ zLt d L (true :: r) ts') ∨ (zI2 x.1 ∧ ∃ r, ts = false :: false :: r ∧ zLt d L (false :: r) ts') ∨ (zI6 x.1 ∧ ∃ r, ts = false :: false :: r ∧ zLt d L (true :: r) ts') ∨ (zI10 x.1 ∧ ∃ r, ts = true :: true :: r ∧ zLt d L (true :: r) ts')
theorem zLt_n (d : Nat) (ts ts' : List Bool) : zLt d [] ts ts' = (ts' = ts) := rfl
theorem zLt_c (d : Nat) (x : zIw) (L : List zIw) (ts ts' : List Bool) : zLt d (x :: L) ts ts' = ((x.1 = 0 ∧ ts.length < d ∧ zLt d L (false :: ts) ts') ∨ (x.1 = 1 ∧ (0 ≤ x.2 ∧ x.2 ≤ 10) ∧ ts.length < d ∧ zLt d L (false :: ts) ts') ∨ (x.1 = 5 ∧ 1 ≤ x.2 ∧ ts.length < d ∧ ∃ r, ts = false :: r ∧ zLt d L (false :: r) ts') ∨ (x.1 = 9 ∧ ∃ r, ts = true :: r ∧ zLt d L (true :: r) ts') ∨ (zI2 x.1 ∧ ∃ r, ts = false :: false :: r ∧ zLt d L (false :: r) ts') ∨ (zI6 x.1 ∧ ∃ r, ts = false :: false :: r ∧ zLt d L (true :: r) ts') ∨ (zI10 x.1 ∧ ∃ r, ts = true :: true :: r ∧ zLt d L (true :: r) ts')) := rfl
theorem zLt_app {d : Nat} : ∀ {L M : List zIw} {ts t1 t2 : List Bool}, zLt d L ts t1 → zLt d M t1 t2 → zLt d (L ++ M) ts t2
  | [], M, ts, t1, t2, h, h' => by
    rw [zLt_n] at h
    rw [← h]
    exact h'
  | x :: L, M, ts, t1, t2, h, h' => by
    rw [List.cons_append, zLt_c]
    rw [zLt_c] at h
    rcases h with ⟨a, b, h⟩ | ⟨a, b, c, h⟩ | ⟨a, b, c, r, e, h⟩ | ⟨a, r, e, h⟩ | ⟨a, r, e, h⟩ | ⟨a, r, e, h⟩ | ⟨a, r, e, h⟩
    · exact Or.inl ⟨a, b, zLt_app h h'⟩
    · exact Or.inr (Or.inl ⟨a, b, c, zLt_app h h'⟩)
    · exact Or.inr (Or.inr (Or.inl ⟨a, b, c, r, e, zLt_app h h'⟩))
    · exact Or.inr (Or.inr (Or.inr (Or.inl ⟨a, r, e, zLt_app h h'⟩)))
    · exact Or.inr (Or.inr (Or.inr (Or.inr (Or.inl ⟨a, r, e, zLt_app h h'⟩))))
    · exact Or.inr (Or.inr (Or.inr (Or.inr (Or.inr (Or.inl ⟨a, r, e, zLt_app h h'⟩)))))
    · exact Or.inr (Or.inr (Or.inr (Or.inr (Or.inr (Or.inr ⟨a, r, e, zLt_app h h'⟩)))))
section ZLT
variable {d : Nat} {o : Int} {r ts ts' : List Bool} {L : List zIw}
theorem zLt_2 (h : zI2 o) : zLt d [(o, 0)] (false :: false :: r) (false :: r) := Or.inr (Or.inr (Or.inr (Or.inr (Or.inl ⟨h, r, rfl, rfl⟩))))
theorem zLt_6 (h : zI6 o) : zLt d [(o, 0)] (false :: false :: r) (true :: r) := Or.inr (Or.inr (Or.inr (Or.inr (Or.inr (Or.inl ⟨h, r, rfl, rfl⟩)))))
theorem zLt_10 (h : zI10 o) : zLt d [(o, 0)] (true :: true :: r) (true :: r) := Or.inr (Or.inr (Or.inr (Or.inr (Or.inr (Or.inr ⟨h, r, rfl, rfl⟩)))))
theorem zLt_9 : zLt d [(9, 0)] (true :: r) (true :: r) := Or.inr (Or.inr (Or.inr (Or.inl ⟨rfl, r, rfl, rfl⟩)))
theorem zLt_5 {v : Int} (hv : 1 ≤ v) (hd : r.length + 1 < d) : zLt d [(5, v)] (false :: r) (false :: r) := Or.inr (Or.inr (Or.inl ⟨rfl, hv, by simpa using hd, r, rfl, rfl⟩))
theorem zLt_u {K V : Int → Int} {j : Int} (h : zUn (K j)) (hd : ts.length < d) : zLt d [zUc K V j] ts (false :: ts) := by
  unfold zUc
  by_cases hk : K j = 256
  · rw [if_pos hk]
    exact Or.inl ⟨rfl, hd, rfl⟩
  · rw [if_neg hk]
    exact Or.inr (Or.inl ⟨rfl, ⟨by show (0 : Int) ≤ K j - 303; omega, by show K j - 303 ≤ (10 : Int); omega⟩, hd, rfl⟩)
end ZLT
def zWt (w : Int) (ts : List Bool) : List Bool := if w = -1 then false :: ts else false :: false :: ts
theorem zWl_t {d : Nat} {w : Int} {ts : List Bool} (hw : w = -1 ∨ w = 2 ∨ w = 3) : zLt d (zWl w) (zWt w ts) (false :: ts) := by
  rcases hw with rfl | rfl | rfl
  · exact rfl
  · exact zLt_2 (Or.inl rfl)
  · exact zLt_2 (Or.inr (Or.inl rfl))
theorem zWt_c (w : Int) (ts : List Bool) : ∃ r, zWt w ts = false :: r ∧ r.length ≤ ts.length + 1 := by
  unfold zWt
  split
  · exact ⟨ts, rfl, by omega⟩
  · exact ⟨false :: ts, rfl, by simp⟩
theorem zExl_t {K V : Int → Int} {d : Nat} : ∀ {m : Nat} {w j q : Int} {L : List zIw} {ts : List Bool}, w = -1 ∨ w = 2 ∨ w = 3 → ts.length + 3 ≤ d → zExl K V m w j 0 q L → zLt d L (zWt w ts) (false :: ts)
  | 0, _, _, _, _, _, _, _, h => h.elim
  | m + 1, w, j, q, L, ts, hw, hd, h => by
    rw [zExl_s] at h
    rcases h with ⟨-, -, -, -, -, -, e⟩ | h | ⟨h1, h2, M, h, e⟩ | ⟨h1, h2, M, h, e⟩ | h | h | ⟨h1, h2, h3, M, h, e⟩
    · rw [e]; exact zWl_t hw
    · omega
    · obtain ⟨r, er, hr⟩ := zWt_c w ts
      have ih := zExl_t hw hd h
      rw [er] at ih ⊢
      rw [e]
      exact zLt_app (L := [zUc K V (j + 1)]) (zLt_u h2 (by simp; omega)) (zLt_app (L := [(4, 0)]) (zLt_2 (Or.inr (Or.inr rfl))) ih)
    · have ih := zExl_t (w := if K j = 43 then 2 else 3) (ts := ts) (by split; exact Or.inr (Or.inl rfl); exact Or.inr (Or.inr rfl)) hd h
      have ew : zWt (if K j = 43 then 2 else 3) ts = false :: false :: ts := by
        unfold zWt
        rw [if_neg (by split <;> decide)]
      rw [ew] at ih
      rw [e]
      exact zLt_app (zWl_t hw) (zLt_app (L := [zUc K V (j + 1)]) (zLt_u h2 (by simp; omega)) ih)
    · omega
    · omega
    · obtain ⟨r, er, hr⟩ := zWt_c w ts
      have ih := zExl_t hw hd h
      rw [er] at ih ⊢
      rw [e]
      exact zLt_app (L := [(5, V (j + 1))]) (zLt_5 h3 (by omega)) ih
theorem zExp_t {K V : Int → Int} {d : Nat} {j q : Int} {L : List zIw} {ts : List Bool} (hd : ts.length + 3 ≤ d) (h : zExp K V j 0 q L) : zLt d L ts (false :: ts) := by
  rcases h with h | ⟨h1, m, M, h, e⟩
  · omega
  · rw [e]
    exact zLt_app (L := [zUc K V j]) (zLt_u h1 (by omega)) (zExl_t (w := -1) (Or.inl rfl) hd h)
theorem zCm_t {K V : Int → Int} {d : Nat} {j q : Int} {L : List zIw} {ts : List Bool} (hd : ts.length + 4 ≤ d) (h : zCm K V j 0 q L) : zLt d L ts (true :: ts) := by
  obtain ⟨g, p, L1, h1, h2⟩ := h
  rcases h2 with h2 | h2 | ⟨g0, hk, L2, h2, e⟩
  · omega
  · omega
  · subst g0
    rw [e]
    have h6 : zI6 (zCo (K p)) := by
      unfold zCo
      split
      · exact Or.inl rfl
      · split
        · exact Or.inr (Or.inl rfl)
        · exact Or.inr (Or.inr rfl)
    exact zLt_app (zLt_app (zExp_t (by omega) h1) (zExp_t (by simp; omega) h2)) (zLt_6 h6)
def zWu (w : Int) (ts : List Bool) : List Bool := if w = -1 then true :: ts else true :: true :: ts
theorem zWu_c (w : Int) (ts : List Bool) : ∃ r, zWu w ts = true :: r ∧ r.length ≤ ts.length + 1 := by
  unfold zWu
  split
  · exact ⟨ts, rfl, by omega⟩
  · exact ⟨true :: ts, rfl, by simp⟩
theorem zWl_u {d : Nat} {w : Int} {ts : List Bool} (hw : w = -1 ∨ w = 11) : zLt d (zWl w) (zWu w ts) (true :: ts) := by
  rcases hw with rfl | rfl
  · exact rfl
  · exact zLt_10 (Or.inr rfl)
/-- how many may wait, so many open: a condition (0), conditions (1), behind one (2) -/
def zDn (k : Nat) (o : Int) : Int := if k = 0 then 4 + 2 * (8 - o) else 6 + 2 * (8 - o)
theorem zB_t {K V : Int → Int} {d : Nat} : ∀ {m k : Nat} {o w j q : Int} {L : List zIw} {ts : List Bool}, k ≤ 2 → o ≤ 8 → w = -1 ∨ w = 11 → (ts.length : Int) + zDn k o ≤ d → zB K V m k o w j 0 q L → zLt d L (if k = 2 then zWu w ts else ts) (true :: ts)
  | 0, _, _, _, _, _, _, _, _, _, _, _, h => h.elim
  | m + 1, 0, o, w, j, q, L, ts, _, ho, hw, hd, h => by
    have hd : (ts.length : Int) + (4 + 2 * (8 - o)) ≤ d := hd
    rw [zB_0] at h
    rw [if_neg (by decide)]
    rcases h with ⟨a, b, h⟩ | h | ⟨a, b, M, h, e⟩ | ⟨a, b, g, p, M, h, c⟩
    · exact zCm_t (by omega) h
    · omega
    · have ih := zB_t (d := d) (w := -1) (ts := ts) (k := 0) (by decide) (by omega) (Or.inl rfl) (by show _ + (4 + 2 * (8 - (o + 1))) ≤ _; omega) h
      rw [if_neg (by decide)] at ih
      rw [e]
      exact zLt_app ih zLt_9
    · rcases c with c | c | ⟨c1, c2, c3, c4, c5⟩
      · omega
      · omega
      · subst c1
        have ih := zB_t (d := d) (w := -1) (ts := ts) (k := 1) (by decide) (by omega) (Or.inl rfl) (by show _ + (6 + 2 * (8 - (o + 1))) ≤ _; omega) h
        rw [if_neg (by decide)] at ih
        rw [c5]
        exact ih
  | m + 1, 1, o, w, j, q, L, ts, _, ho, hw, hd, h => by
    have hd : (ts.length : Int) + (6 + 2 * (8 - o)) ≤ d := hd
    rw [zB_1] at h
    rw [if_neg (by decide)]
    obtain ⟨g, p, L1, h, c⟩ := h
    rcases c with c | ⟨c1, L2, c2, e⟩
    · omega
    · subst c1
      have i1 := zB_t (d := d) (w := -1) (ts := ts) (k := 0) (by decide) ho (Or.inl rfl) (by show _ + (4 + 2 * (8 - o)) ≤ _; omega) h
      have i2 := zB_t (d := d) (w := -1) (ts := ts) (k := 2) (by decide) ho (Or.inl rfl) (by show _ + (6 + 2 * (8 - o)) ≤ _; omega) c2
      rw [if_neg (by decide)] at i1
      rw [if_pos rfl] at i2
      rw [e]
      exact zLt_app i1 i2
  | m + 1, 2, o, w, j, q, L, ts, _, ho, hw, hd, h => by
    have hd : (ts.length : Int) + (6 + 2 * (8 - o)) ≤ d := hd
    rw [zB_2] at h
    rw [if_pos rfl]
    rcases h with ⟨-, -, -, -, e⟩ | ⟨a, g, p, L1, h, c⟩
    · rw [e]; exact zWl_u hw
    · rcases c with c | ⟨c1, c2, L2, c3, e⟩ | ⟨c1, c2, L2, c3, e⟩
      · omega
      · subst c1
        have i1 := zB_t (d := d) (w := -1) (ts := true :: ts) (k := 0) (by decide) ho (Or.inl rfl) (by show ((true :: ts).length : Int) + (4 + 2 * (8 - o)) ≤ _; rw [List.length_cons]; omega) h
        have i2 := zB_t (d := d) (w := 11) (ts := ts) (k := 2) (by decide) ho (Or.inr rfl) (by show _ + (6 + 2 * (8 - o)) ≤ _; omega) c3
        rw [if_neg (by decide)] at i1
        rw [if_pos rfl] at i2
        rw [e]
        exact zLt_app (zWl_u hw) (zLt_app i1 i2)
      · subst c1
        obtain ⟨r, er, hr⟩ := zWu_c w ts
        have i1 := zB_t (d := d) (w := -1) (ts := true :: r) (k := 0) (by decide) ho (Or.inl rfl) (by show ((true :: r).length : Int) + (4 + 2 * (8 - o)) ≤ _; rw [List.length_cons]; omega) h
        have i2 := zB_t (d := d) (w := w) (ts := ts) (k := 2) (by decide) ho hw (by show _ + (6 + 2 * (8 - o)) ≤ _; omega) c3
        rw [if_neg (by decide)] at i1
        rw [if_pos rfl, er] at i2
        rw [e, er]
        exact zLt_app i1 (zLt_app (L := [(10, 0)]) (zLt_10 (Or.inl rfl)) i2)
  | _ + 1, k + 3, _, _, _, _, _, _, hk, _, _, _, _ => absurd hk (by omega)
theorem zPa0_t {K V : Int → Int} {j q : Int} {E B : List zIw} (h : zPa0 K V j 0 q E B) : zLt 24 E [] [false] ∧ (B = [] ∨ (B ≠ [] ∧ zLt 24 B [] [true])) := by
  obtain ⟨g, p, h1, h2⟩ := h
  rcases h2 with h2 | ⟨a1, a2, a3, a4, a5⟩ | ⟨a, b, m, h2⟩
  · omega
  · subst a1
    exact ⟨zExp_t (by decide) h1, Or.inl a5⟩
  · subst a
    have := zB_t (d := 24) (w := -1) (ts := []) (k := 1) (by decide) (by decide) (Or.inl rfl) (by decide) h2
    rw [if_neg (by decide)] at this
    refine ⟨zExp_t (by decide) h1, Or.inr ⟨fun e => ?_, this⟩⟩
    rw [e, zLt_n] at this
    cases this
/-- as the reference's rows of safety have it -/
theorem zLt_R {A B : Int → Int} {d : Nat} : ∀ {L : List zIw} {ts ts' : List Bool} {k : Int}, zLt d L ts ts' → zSr A B k (zXp L) → zRn A B (zXp L).length k (ts.length : Int) (ts'.length : Int)
  | [], ts, ts', k, h, _ => by
    rw [zLt_n] at h
    rw [h]
    exact rfl
  | x :: L, ts, ts', k, h, hs => by
    by_cases h5 : x.1 = 5
    · have ex : x = (5, x.2) := by rw [← h5]
      rw [ex, zXp_5] at hs ⊢
      have s1 := hs 0 (0, x.2) rfl
      have s2 := hs 1 (5, 0) rfl
      rw [show k + ((0 : Nat) : Int) = k by omega] at s1
      rw [show k + ((1 : Nat) : Int) = k + 1 by omega] at s2
      have s3 : zSr A B (k + 1 + 1) (zXp L) := by
        have := zSr_r (L := [(0, x.2), (5, 0)]) (M := zXp L) hs
        rw [show k + (([((0 : Int), x.2), ((5 : Int), (0 : Int))] : List zIw).length : Int) = k + 1 + 1 by simp; omega] at this
        exact this
      rw [zLt_c] at h
      rcases h with ⟨a, -⟩ | ⟨a, -⟩ | ⟨-, hv, -, r, e, h⟩ | ⟨a, -⟩ | ⟨a, -⟩ | ⟨a, -⟩ | ⟨a, -⟩
      · omega
      · omega
      · have ih := zLt_R h s3
        subst e
        simp only [List.length_cons] at ih ⊢
        refine Or.inl ⟨Or.inl s1.1, fun h1 => by have h9 : (0 : Int) = 1 := s1.1.symm.trans h1; omega, Or.inr (Or.inr ⟨by rw [s2.1]; decide, by rw [s2.1]; decide, by rw [s2.1]; decide, by omega, fun _ => ?_, ?_⟩)⟩
        · rw [show k + 1 - 1 = k by omega]
          exact ⟨s1.1, by rw [s1.2]; exact hv⟩
        · rw [show (((r.length + 1 : Nat) : Int) + 1 - 1) = ((r.length + 1 : Nat) : Int) by omega]
          exact ih
      · omega
      · omega
      · omega
      · omega
    · rw [zXp_n _ h5] at hs ⊢
      have s1 := hs 0 x rfl
      rw [show k + ((0 : Nat) : Int) = k by omega] at s1
      have s3 : zSr A B (k + 1) (zXp L) := zSr_r (L := [x]) (M := zXp L) hs
      rw [List.length_cons]
      rw [zLt_c] at h
      rcases h with ⟨a, -, h⟩ | ⟨a, b, -, h⟩ | ⟨a, -⟩ | ⟨a, r, e, h⟩ | ⟨a, r, e, h⟩ | ⟨a, r, e, h⟩ | ⟨a, r, e, h⟩
      · have ih := zLt_R h s3
        rw [List.length_cons] at ih
        exact Or.inl ⟨Or.inl (s1.1.trans a), fun h1 => absurd ((s1.1.trans a).symm.trans h1) (by decide), by rw [show (ts.length : Int) + 1 = ((ts.length + 1 : Nat) : Int) by omega]; exact ih⟩
      · have ih := zLt_R h s3
        rw [List.length_cons] at ih
        exact Or.inl ⟨Or.inr (s1.1.trans a), fun _ => by rw [s1.2]; exact b, by rw [show (ts.length : Int) + 1 = ((ts.length + 1 : Nat) : Int) by omega]; exact ih⟩
      · exact absurd a h5
      · have ih := zLt_R h s3
        subst e
        exact Or.inr (Or.inl ⟨s1.1.trans a, by rw [List.length_cons]; omega, ih⟩)
      · have ih := zLt_R h s3
        subst e
        rw [List.length_cons] at ih
        exact Or.inr (Or.inr ⟨by rw [s1.1]; omega, by rw [s1.1]; omega, by rw [s1.1]; omega, by rw [List.length_cons, List.length_cons]; omega, fun h9 => by rw [s1.1] at h9; omega, by rw [List.length_cons, List.length_cons, show ((r.length + 1 + 1 : Nat) : Int) - 1 = ((r.length + 1 : Nat) : Int) by omega]; exact ih⟩)
      · have ih := zLt_R h s3
        subst e
        rw [List.length_cons] at ih
        exact Or.inr (Or.inr ⟨by rw [s1.1]; omega, by rw [s1.1]; omega, by rw [s1.1]; omega, by rw [List.length_cons, List.length_cons]; omega, fun h9 => by rw [s1.1] at h9; omega, by rw [List.length_cons, List.length_cons, show ((r.length + 1 + 1 : Nat) : Int) - 1 = ((r.length + 1 : Nat) : Int) by omega]; exact ih⟩)
      · have ih := zLt_R h s3
        subst e
        rw [List.length_cons] at ih
        exact Or.inr (Or.inr ⟨by rw [s1.1]; omega, by rw [s1.1]; omega, by rw [s1.1]; omega, by rw [List.length_cons, List.length_cons]; omega, fun h9 => by rw [s1.1] at h9; omega, by rw [List.length_cons, List.length_cons, show ((r.length + 1 + 1 : Nat) : Int) - 1 = ((r.length + 1 : Nat) : Int) by omega]; exact ih⟩)
/-! the reference's lines -/
def zLr (K V : Int → Int) (J : Nat → Int) (b c cl : Int) (μ : pm_Mem) (i : Nat) : Prop := ∀ t : Nat, t < i → ∃ (E B : List zIw) (q : Int), zPa0 K V (J t + 1) 0 q E B ∧ μ 214 (b + (t : Int)) = K (J t) - 300 ∧ 0 ≤ μ 215 (b + (t : Int)) ∧ μ 216 (b + (t : Int)) = μ 215 (b + (t : Int)) + ((zXp E).length : Int) ∧ μ 217 (b + (t : Int)) = μ 215 (b + (t : Int)) + ((zXp E).length : Int) + ((zXp B).length : Int) ∧ μ 217 (b + (t : Int)) ≤ cl ∧ zSr (μ 218) (μ 219) (c + μ 215 (b + (t : Int))) (zXp E ++ zXp B)
def zcL (K : Int → Int) (V : Int → Int) (J : Nat → Int) (i : Nat) (μ : pm_Mem) : Prop := zLr K V J 32 800 (μ 205 25) μ i ∧ (0 ≤ μ 205 25 ∧ μ 205 25 ≤ J i) ∧ μ 205 26 = 0
theorem zcL_add {K V : Int → Int} {J : Nat → Int} {i : Nat} {μ μ' : pm_Mem} {E B : List zIw} {q p : Int} (h : zcL K V J i μ) (hP : zPa0 K V (J i + 1) 0 q E B) (e14 : μ' 214 = zpu (μ 214) (32 + (i : Int)) (K (J i) - 300)) (e15 : μ' 215 = zpu (μ 215) (32 + (i : Int)) (μ 205 25)) (e16 : μ' 216 = zpu (μ 216) (32 + (i : Int)) (μ 205 25 + ((zXp E).length : Int))) (e17 : μ' 217 = zpu (μ 217) (32 + (i : Int)) (μ 205 25 + ((zXp E).length : Int) + ((zXp B).length : Int))) (hr : zRe μ μ' (zXp E ++ zXp B)) (h26 : μ' 205 26 = 0) (hp : μ' 205 25 ≤ p) : zcL K V (zJu J (i + 1) p) (i + 1) μ' := by
  obtain ⟨a, ⟨b0, b1⟩, -⟩ := h
  obtain ⟨r1, r2, r3⟩ := hr
  rw [List.length_append] at r2
  refine ⟨fun t ht => ?_, ⟨by omega, by rw [zJu_eq]; exact hp⟩, h26⟩
  rw [zJu_ne (by omega)]
  by_cases hti : t < i
  · obtain ⟨E', B', q', c0, c1, c2, c3, c4, c5, c6⟩ := a t hti
    have d14 : μ' 214 (32 + (t : Int)) = μ 214 (32 + (t : Int)) := by rw [e14, zpu_ne (by omega)]
    have d15 : μ' 215 (32 + (t : Int)) = μ 215 (32 + (t : Int)) := by rw [e15, zpu_ne (by omega)]
    have d16 : μ' 216 (32 + (t : Int)) = μ 216 (32 + (t : Int)) := by rw [e16, zpu_ne (by omega)]
    have d17 : μ' 217 (32 + (t : Int)) = μ 217 (32 + (t : Int)) := by rw [e17, zpu_ne (by omega)]
    refine ⟨E', B', q', c0, by rw [d14]; exact c1, by rw [d15]; exact c2, by rw [d16, d15]; exact c3, by rw [d17, d15]; exact c4, by rw [d17]; omega, ?_⟩
    rw [d15]
    exact zSr_cg c6 (fun z _ z1 => r3 z (by rw [List.length_append] at z1; omega))
  · obtain rfl : t = i := by omega
    have d14 : μ' 214 (32 + (t : Int)) = K (J t) - 300 := by rw [e14, zpu_eq]
    have d15 : μ' 215 (32 + (t : Int)) = μ 205 25 := by rw [e15, zpu_eq]
    have d16 : μ' 216 (32 + (t : Int)) = μ 205 25 + ((zXp E).length : Int) := by rw [e16, zpu_eq]
    have d17 : μ' 217 (32 + (t : Int)) = μ 205 25 + ((zXp E).length : Int) + ((zXp B).length : Int) := by rw [e17, zpu_eq]
    exact ⟨E, B, q, hP, d14, by omega, by omega, by omega, by omega, by rw [d15]; exact r1⟩
theorem zcL_Ln {K V : Int → Int} {J : Nat → Int} {i : Nat} {μ : pm_Mem} (h : zcL K V J i μ) : zLn μ (i : Int) := fun l l0 l1 => by
  obtain ⟨E, B, q, c0, -, c2, c3, c4, c5, c6⟩ := h.1 l.toNat (by omega)
  rw [show ((l.toNat : Nat) : Int) = l by omega] at c2 c3 c4 c5 c6
  obtain ⟨t1, t2⟩ := zPa0_t c0
  refine ⟨c2, by omega, by omega, c5, ?_, ?_⟩
  · have := zRn_safe (zLt_R t1 (zSr_l c6))
    rw [show (μ 216 (32 + l) - μ 215 (32 + l)).toNat = (zXp E).length by omega]
    exact this
  · rw [show (μ 217 (32 + l) - μ 216 (32 + l)).toNat = (zXp B).length by omega, show 800 + μ 216 (32 + l) = 800 + μ 215 (32 + l) + ((zXp E).length : Int) by omega]
    rcases t2 with t2 | ⟨-, t2⟩
    · rw [t2]
      exact trivial
    · exact zRn_safe (zLt_R t2 (zSr_r c6))
theorem zMf_li {μ μ' : pm_Mem} {r : Nat} {i x : Int} (e : μ' = pm_up μ r i x) (hr : r = 214 ∨ r = 215 ∨ r = 216 ∨ r = 217) (hi : 32 ≤ i) : zMf μ μ' := by
  have er : ∀ r', r' ≠ r → μ' r' = μ r' := fun r' h => by rw [e, pm_up_row h]
  refine ⟨fun r' a b c d f g j _ _ _ _ => er r' (by omega), fun k _ _ _ _ _ _ _ _ _ => by rw [er 205 (by omega)], fun i _ => by rw [er 223 (by omega)], fun i _ => by rw [er 221 (by omega)], fun i _ => by rw [er 222 (by omega)], fun h0 => ⟨by rw [er 205 (by omega)]; exact h0, fun j hj => ?_, fun j _ => ⟨by rw [er 218 (by omega)], by rw [er 219 (by omega)]⟩⟩⟩
  have k : ∀ q, μ' q j = μ q j := fun q => by
    by_cases hq : q = r
    · rw [hq, e, pm_up_ne (by omega)]
    · rw [er q hq]
  exact ⟨k 214, k 215, k 216, k 217⟩
theorem zLn_fr {μ μ' : pm_Mem} {n : Int} (h : zLn μ n) (e5 : μ' 215 = μ 215) (e6 : μ' 216 = μ 216) (e7 : μ' 217 = μ 217) (e8 : μ' 218 = μ 218) (e9 : μ' 219 = μ 219) (e25 : μ' 205 25 = μ 205 25) : zLn μ' n := fun l l0 l1 => by
  rw [e5, e6, e7, e8, e9, e25]
  exact h l l0 l1
/-- the lines' words, taken over -/
def zT4_TT (μ0 μ : pm_Mem) (l : Int) : Prop := (∀ j : Int, 0 ≤ j → j < l → μ 214 j = μ0 214 (32 + j)) ∧ ∀ j : Int, 16 ≤ j → μ 214 j = μ0 214 j
theorem zT4_0 (μ : pm_Mem) : zT4_TT μ μ 0 := ⟨fun j h1 h2 => absurd h2 (by omega), fun _ _ => rfl⟩
theorem zT4_off {μ0 μ μ' : pm_Mem} {l i x : Int} {r : Nat} (h : zT4_TT μ0 μ l) (e : μ' = pm_up μ r i x) (hr : r ≠ 214) : zT4_TT μ0 μ' l := by
  have e4 : μ' 214 = μ 214 := by rw [e, pm_up_row (fun q => hr q.symm)]
  exact ⟨fun j a b => by rw [e4]; exact h.1 j a b, fun j a => by rw [e4]; exact h.2 j a⟩
theorem zT4_line {μ0 μ μ1 μ2 μ3 μ4 : pm_Mem} {l i1 i2 i3 i4 x1 x2 x3 x4 : Int} (h : zT4_TT μ0 μ l) (h0 : 0 ≤ l ∧ l < 16) (e1 : μ1 = pm_up μ 214 i1 x1) (hi1 : i1 = l) (hx1 : x1 = μ 214 (32 + l)) (e2 : μ2 = pm_up μ1 215 i2 x2) (e3 : μ3 = pm_up μ2 216 i3 x3) (e4 : μ4 = pm_up μ3 217 i4 x4) : zT4_TT μ0 μ4 (l + 1) := by
  refine zT4_off (zT4_off (zT4_off (μ := μ1) ?_ e2 (by decide)) e3 (by decide)) e4 (by decide)
  refine ⟨fun j j0 j1 => ?_, fun j hj => by rw [e1, pm_up_ne (by omega)]; exact h.2 j hj⟩
  by_cases hj : j = l
  · rw [hj, e1, hi1, pm_up_eq, hx1]
    exact h.2 (32 + l) (by omega)
  · rw [e1, pm_up_ne (by omega)]
    exact h.1 j j0 (by omega)
/-- THE LAW as it stands behind that -/
theorem zLr_take {K V : Int → Int} {J : Nat → Int} {t : Nat} {x : Int} {μc μ8 μT μ' : pm_Mem} (h : zcL K V J t μc) (h4 : ∀ y : Int, 0 ≤ y → y < (t : Int) → μ' 214 y = μ8 214 (32 + y)) (hk : zTk μ8 μT x (μ8 205 25)) (eT : μ' = pm_up μT 213 0 x) (e4 : μ8 214 = μc 214) (e5 : μ8 215 = μc 215) (e6 : μ8 216 = μc 216) (e7 : μ8 217 = μc 217) (e8 : μ8 218 = μc 218) (e9 : μ8 219 = μc 219) (e25 : μ8 205 25 = μc 205 25) (hx : x = (t : Int)) (h8 : μ8 205 25 ≤ 400) : zLr K V J 0 0 400 μ' t := fun s hs => by
  obtain ⟨E, B, q, c0, c1, c2, c3, c4, c5, c6⟩ := h.1 s hs
  have ew : ∀ r, r ≠ 213 → μ' r = μT r := fun r hr => by rw [eT, pm_up_row hr]
  obtain ⟨-, -, -, d1, -, d2⟩ := hk
  obtain ⟨f5, f6, f7⟩ := d1 (s : Int) (by omega) (by omega)
  have f4 := h4 (s : Int) (by omega) (by omega)
  rw [e4] at f4
  rw [e5] at f5
  rw [e6] at f6
  rw [e7] at f7
  have g5 : μ' 215 (0 + (s : Int)) = μc 215 (32 + (s : Int)) := by rw [ew 215 (by decide), Int.zero_add]; exact f5
  have g6 : μ' 216 (0 + (s : Int)) = μc 216 (32 + (s : Int)) := by rw [ew 216 (by decide), Int.zero_add]; exact f6
  have g7 : μ' 217 (0 + (s : Int)) = μc 217 (32 + (s : Int)) := by rw [ew 217 (by decide), Int.zero_add]; exact f7
  refine ⟨E, B, q, c0, by rw [Int.zero_add, f4]; exact c1, by omega, by omega, by omega, ?_, ?_⟩
  · omega
  · rw [g5]
    refine fun i y hy => ?_
    have := c6 i y hy
    have hi := (List.getElem?_eq_some_iff.mp hy).1
    rw [List.length_append] at hi
    obtain ⟨k1, k2⟩ := d2 (μc 215 (32 + (s : Int)) + (i : Int)) (by omega) (by omega)
    rw [ew 218 (by decide), ew 219 (by decide), show 0 + μc 215 (32 + (s : Int)) + (i : Int) = μc 215 (32 + (s : Int)) + (i : Int) by omega, k1, k2, e8, e9]
    rw [show 800 + μc 215 (32 + (s : Int)) + (i : Int) = 800 + (μc 215 (32 + (s : Int)) + (i : Int)) by omega] at this
    exact this
/-- THE LAW told in the reference -/
def zQl (K S V : Int → Int) (μ0 : pm_Mem) (x : Int) (μ : pm_Mem) : Prop := ((∀ i, i < 48 → μ 221 i = μ0 221 i) ∧ (∀ i, i < 64 → μ 222 i = μ0 222 i)) ∧ μ 205 11 = 0 ∧ (∀ r, r ≠ 205 → r ≠ 213 → r ≠ 218 → r ≠ 219 → r ≠ 214 → r ≠ 215 → r ≠ 216 → r ≠ 217 → r ≠ 220 → r ≠ 221 → r ≠ 222 → r ≠ 223 → μ r = μ0 r) ∧ (∀ k : Int, k ≠ 0 → k ≠ 11 → k ≠ 12 → k ≠ 13 → k ≠ 14 → k ≠ 15 → k ≠ 24 → k ≠ 25 → k ≠ 26 → k ≠ 28 → k ≠ 29 → k ≠ 30 → k ≠ 31 → k ≠ 32 → μ 205 k = μ0 205 k) ∧ (∀ i, i < 144 → μ 223 i = μ0 223 i) ∧ ∃ J t f q, zTxo (zLw K V) K J t f q ∧ ((x = ((t : Nat) : Int) ∧ t ≤ 16 ∧ f = 0 ∧ μ 205 31 = 0 ∧ μ 205 32 = -1 ∧ μ 213 0 = ((t : Nat) : Int) ∧ zLr K V J 0 0 400 μ t) ∨ (x = -1 ∧ f ≠ 0 ∧ μ 205 31 = f ∧ μ 205 32 = S q ∧ μ 213 0 = μ0 213 0 ∧ zMy μ0 μ))
