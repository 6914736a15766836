/-! THE LAW, told by its tokens -/
/-- a unit -/
abbrev zUn (k : Int) : Prop := k = 256 ∨ (303 ≤ k ∧ k ≤ 313)
/-- behind a unit of an expression -/
def zEl (K V : Int → Int) : Nat → Int → Int → Int → Prop
  | 0, _, _, _ => False
  | m + 1, j, f, q => (K j ≠ 43 ∧ K j ≠ 45 ∧ K j ≠ 42 ∧ K j ≠ 47 ∧ f = 0 ∧ q = j) ∨ ((K j = 43 ∨ K j = 45 ∨ K j = 42) ∧ ¬ zUn (K (j + 1)) ∧ f = 1 ∧ q = j + 1) ∨ ((K j = 43 ∨ K j = 45 ∨ K j = 42) ∧ zUn (K (j + 1)) ∧ zEl K V m (j + 2) f q) ∨ (K j = 47 ∧ K (j + 1) ≠ 256 ∧ f = 1 ∧ q = j + 1) ∨ (K j = 47 ∧ K (j + 1) = 256 ∧ V (j + 1) = 0 ∧ f = 2 ∧ q = j + 1) ∨ (K j = 47 ∧ K (j + 1) = 256 ∧ V (j + 1) ≠ 0 ∧ zEl K V m (j + 2) f q)
/-- behind a unit of a product -/
def zPl_TT (K V : Int → Int) : Nat → Int → Int → Int → Prop
  | 0, _, _, _ => False
  | m + 1, j, f, q => (K j ≠ 42 ∧ K j ≠ 47 ∧ f = 0 ∧ q = j) ∨ (K j = 42 ∧ ¬ zUn (K (j + 1)) ∧ f = 1 ∧ q = j + 1) ∨ (K j = 42 ∧ zUn (K (j + 1)) ∧ zPl_TT K V m (j + 2) f q) ∨ (K j = 47 ∧ K (j + 1) ≠ 256 ∧ f = 1 ∧ q = j + 1) ∨ (K j = 47 ∧ K (j + 1) = 256 ∧ V (j + 1) = 0 ∧ f = 2 ∧ q = j + 1) ∨ (K j = 47 ∧ K (j + 1) = 256 ∧ V (j + 1) ≠ 0 ∧ zPl_TT K V m (j + 2) f q)
theorem zEl_s (K V : Int → Int) (m : Nat) (j f q : Int) : zEl K V (m + 1) j f q = ((K j ≠ 43 ∧ K j ≠ 45 ∧ K j ≠ 42 ∧ K j ≠ 47 ∧ f = 0 ∧ q = j) ∨ ((K j = 43 ∨ K j = 45 ∨ K j = 42) ∧ ¬ zUn (K (j + 1)) ∧ f = 1 ∧ q = j + 1) ∨ ((K j = 43 ∨ K j = 45 ∨ K j = 42) ∧ zUn (K (j + 1)) ∧ zEl K V m (j + 2) f q) ∨ (K j = 47 ∧ K (j + 1) ≠ 256 ∧ f = 1 ∧ q = j + 1) ∨ (K j = 47 ∧ K (j + 1) = 256 ∧ V (j + 1) = 0 ∧ f = 2 ∧ q = j + 1) ∨ (K j = 47 ∧ K (j + 1) = 256 ∧ V (j + 1) ≠ 0 ∧ zEl K V m (j + 2) f q)) := rfl
theorem zPl_s (K V : Int → Int) (m : Nat) (j f q : Int) : zPl_TT K V (m + 1) j f q = ((K j ≠ 42 ∧ K j ≠ 47 ∧ f = 0 ∧ q = j) ∨ (K j = 42 ∧ ¬ zUn (K (j + 1)) ∧ f = 1 ∧ q = j + 1) ∨ (K j = 42 ∧ zUn (K (j + 1)) ∧ zPl_TT K V m (j + 2) f q) ∨ (K j = 47 ∧ K (j + 1) ≠ 256 ∧ f = 1 ∧ q = j + 1) ∨ (K j = 47 ∧ K (j + 1) = 256 ∧ V (j + 1) = 0 ∧ f = 2 ∧ q = j + 1) ∨ (K j = 47 ∧ K (j + 1) = 256 ∧ V (j + 1) ≠ 0 ∧ zPl_TT K V m (j + 2) f q)) := rfl
theorem zEl_det {K V : Int → Int} : ∀ {m m' : Nat} {j f q f' q' : Int}, zEl K V m j f q → zEl K V m' j f' q' → f = f' ∧ q = q'
  | 0, _, _, _, _, _, _, h, _ => h.elim
  | _ + 1, 0, _, _, _, _, _, _, h => h.elim
  | m + 1, m' + 1, j, f, q, f', q', h, h' => by
    rw [zEl_s] at h h'
    rcases h with h | h | ⟨h1, h2, h⟩ | h | h | ⟨h1, h2, h3, h⟩ <;> rcases h' with h' | h' | ⟨h1', h2', h'⟩ | h' | h' | ⟨h1', h2', h3', h'⟩ <;> first | omega | exact zEl_det h h'
theorem zEl_P {K V : Int → Int} : ∀ {m m' : Nat} {j p f q : Int}, zPl_TT K V m j 0 p → zEl K V m' p f q → ∃ k, zEl K V k j f q
  | 0, _, _, _, _, _, h, _ => h.elim
  | m + 1, m', j, p, f, q, h, h' => by
    rw [zPl_s] at h
    rcases h with ⟨-, -, -, h⟩ | h | ⟨h1, h2, h⟩ | h | h | ⟨h1, h2, h3, h⟩
    · rw [← h]
      exact ⟨m', h'⟩
    · omega
    · obtain ⟨k, hk⟩ := zEl_P h h'
      exact ⟨k + 1, Or.inr (Or.inr (Or.inl ⟨Or.inr (Or.inr h1), h2, hk⟩))⟩
    · omega
    · omega
    · obtain ⟨k, hk⟩ := zEl_P h h'
      exact ⟨k + 1, Or.inr (Or.inr (Or.inr (Or.inr (Or.inr ⟨h1, h2, h3, hk⟩))))⟩
theorem zEl_F {K V : Int → Int} : ∀ {m : Nat} {j f q : Int}, zPl_TT K V m j f q → f ≠ 0 → ∃ k, zEl K V k j f q
  | 0, _, _, _, h, _ => h.elim
  | m + 1, j, f, q, h, hf => by
    rw [zPl_s] at h
    rcases h with h | ⟨h1, h2, h3, h4⟩ | ⟨h1, h2, h⟩ | ⟨h1, h2, h3, h4⟩ | ⟨h1, h2, h3, h4, h5⟩ | ⟨h1, h2, h3, h⟩
    · omega
    · exact ⟨1, Or.inr (Or.inl ⟨Or.inr (Or.inr h1), h2, h3, h4⟩)⟩
    · obtain ⟨k, hk⟩ := zEl_F h hf
      exact ⟨k + 1, Or.inr (Or.inr (Or.inl ⟨Or.inr (Or.inr h1), h2, hk⟩))⟩
    · exact ⟨1, Or.inr (Or.inr (Or.inr (Or.inl ⟨h1, h2, h3, h4⟩)))⟩
    · exact ⟨1, Or.inr (Or.inr (Or.inr (Or.inr (Or.inl ⟨h1, h2, h3, h4, h5⟩))))⟩
    · obtain ⟨k, hk⟩ := zEl_F h hf
      exact ⟨k + 1, Or.inr (Or.inr (Or.inr (Or.inr (Or.inr ⟨h1, h2, h3, hk⟩))))⟩
/-- what stands behind a product that is told is no sign of one -/
theorem zPl_z {K V : Int → Int} : ∀ {m : Nat} {j p : Int}, zPl_TT K V m j 0 p → K p ≠ 42 ∧ K p ≠ 47
  | 0, _, _, h => h.elim
  | m + 1, j, p, h => by
    rw [zPl_s] at h
    rcases h with ⟨h1, h2, -, h⟩ | h | ⟨h1, h2, h⟩ | h | h | ⟨h1, h2, h3, h⟩
    · rw [h]; exact ⟨h1, h2⟩
    · omega
    · exact zPl_z h
    · omega
    · omega
    · exact zPl_z h
/-- an expression, a product -/
def zEx_TT (K V : Int → Int) (j f q : Int) : Prop := (¬ zUn (K j) ∧ f = 1 ∧ q = j) ∨ (zUn (K j) ∧ ∃ m, zEl K V m (j + 1) f q)
def zPx (K V : Int → Int) (j f q : Int) : Prop := (¬ zUn (K j) ∧ f = 1 ∧ q = j) ∨ (zUn (K j) ∧ ∃ m, zPl_TT K V m (j + 1) f q)
theorem zEx_det {K V : Int → Int} {j f q f' q' : Int} (h : zEx_TT K V j f q) (h' : zEx_TT K V j f' q') : f = f' ∧ q = q' := by
  rcases h with h | ⟨h1, m, h⟩ <;> rcases h' with h' | ⟨h1', m', h'⟩
  · omega
  · exact absurd h1' h.1
  · exact absurd h1 h'.1
  · exact zEl_det h h'
/-- two expressions compared -/
def zCm (K V : Int → Int) (j f q : Int) : Prop := ∃ g p, zEx_TT K V j g p ∧ ((g ≠ 0 ∧ f = g ∧ q = p) ∨ (g = 0 ∧ K p ≠ 60 ∧ K p ≠ 61 ∧ K p ≠ 62 ∧ f = 1 ∧ q = p) ∨ (g = 0 ∧ (K p = 60 ∨ K p = 61 ∨ K p = 62) ∧ zEx_TT K V (p + 1) f q))
theorem zCm_det {K V : Int → Int} {j f q f' q' : Int} (h : zCm K V j f q) (h' : zCm K V j f' q') : f = f' ∧ q = q' := by
  obtain ⟨g, p, h1, h2⟩ := h
  obtain ⟨g', p', h1', h2'⟩ := h'
  obtain ⟨rfl, rfl⟩ := zEx_det h1 h1'
  rcases h2 with h2 | h2 | ⟨a, b, h2⟩ <;> rcases h2' with h2' | h2' | ⟨a', b', h2'⟩ <;> first | omega | exact zEx_det h2 h2'
/-- a condition (0), conditions (1), what comes behind one (2), so many open ahead -/
def zB (K V : Int → Int) : Nat → Nat → Int → Int → Int → Int → Prop
  | 0, _, _, _, _, _ => False
  | m + 1, 0, o, j, f, q => (K j ≠ 317 ∧ K j ≠ 40 ∧ zCm K V j f q) ∨ ((K j = 317 ∨ K j = 40) ∧ 8 ≤ o ∧ f = 3 ∧ q = j) ∨ (K j = 317 ∧ o < 8 ∧ zB K V m 0 (o + 1) (j + 1) f q) ∨ (K j = 40 ∧ o < 8 ∧ ∃ g p, zB K V m 1 (o + 1) (j + 1) g p ∧ ((g ≠ 0 ∧ f = g ∧ q = p) ∨ (g = 0 ∧ K p ≠ 41 ∧ f = 1 ∧ q = p) ∨ (g = 0 ∧ K p = 41 ∧ f = 0 ∧ q = p + 1)))
  | m + 1, 1, o, j, f, q => ∃ g p, zB K V m 0 o j g p ∧ ((g ≠ 0 ∧ f = g ∧ q = p) ∨ (g = 0 ∧ zB K V m 2 o p f q))
  | m + 1, _ + 2, o, j, f, q => (K j ≠ 315 ∧ K j ≠ 316 ∧ f = 0 ∧ q = j) ∨ ((K j = 315 ∨ K j = 316) ∧ zB K V m 1 o (j + 1) f q)
theorem zB_0 (K V : Int → Int) (m : Nat) (o j f q : Int) : zB K V (m + 1) 0 o j f q = ((K j ≠ 317 ∧ K j ≠ 40 ∧ zCm K V j f q) ∨ ((K j = 317 ∨ K j = 40) ∧ 8 ≤ o ∧ f = 3 ∧ q = j) ∨ (K j = 317 ∧ o < 8 ∧ zB K V m 0 (o + 1) (j + 1) f q) ∨ (K j = 40 ∧ o < 8 ∧ ∃ g p, zB K V m 1 (o + 1) (j + 1) g p ∧ ((g ≠ 0 ∧ f = g ∧ q = p) ∨ (g = 0 ∧ K p ≠ 41 ∧ f = 1 ∧ q = p) ∨ (g = 0 ∧ K p = 41 ∧ f = 0 ∧ q = p + 1)))) := rfl
theorem zB_1 (K V : Int → Int) (m : Nat) (o j f q : Int) : zB K V (m + 1) 1 o j f q = (∃ g p, zB K V m 0 o j g p ∧ ((g ≠ 0 ∧ f = g ∧ q = p) ∨ (g = 0 ∧ zB K V m 2 o p f q))) := rfl
theorem zB_2 (K V : Int → Int) (m : Nat) (o j f q : Int) : zB K V (m + 1) 2 o j f q = ((K j ≠ 315 ∧ K j ≠ 316 ∧ f = 0 ∧ q = j) ∨ ((K j = 315 ∨ K j = 316) ∧ zB K V m 1 o (j + 1) f q)) := rfl
theorem zB_mono {K V : Int → Int} : ∀ {m m' k : Nat} {o j f q : Int}, k ≤ 2 → zB K V m k o j f q → m ≤ m' → zB K V m' k o j f q
  | 0, _, _, _, _, _, _, _, h, _ => h.elim
  | _ + 1, 0, _, _, _, _, _, _, _, hm => absurd hm (by omega)
  | m + 1, m' + 1, 0, o, j, f, q, _, h, hm => by
    rw [zB_0] at h ⊢
    rcases h with h | h | ⟨a, b, h⟩ | ⟨a, b, g, p, h, c⟩
    · exact Or.inl h
    · exact Or.inr (Or.inl h)
    · exact Or.inr (Or.inr (Or.inl ⟨a, b, zB_mono (by decide) h (by omega)⟩))
    · exact Or.inr (Or.inr (Or.inr ⟨a, b, g, p, zB_mono (by decide) h (by omega), c⟩))
  | m + 1, m' + 1, 1, o, j, f, q, _, h, hm => by
    rw [zB_1] at h ⊢
    obtain ⟨g, p, h, c⟩ := h
    refine ⟨g, p, zB_mono (by decide) h (by omega), ?_⟩
    rcases c with c | ⟨c, d⟩
    · exact Or.inl c
    · exact Or.inr ⟨c, zB_mono (by decide) d (by omega)⟩
  | m + 1, m' + 1, 2, o, j, f, q, _, h, hm => by
    rw [zB_2] at h ⊢
    rcases h with h | ⟨a, h⟩
    · exact Or.inl h
    · exact Or.inr ⟨a, zB_mono (by decide) h (by omega)⟩
  | _ + 1, _ + 1, k + 3, _, _, _, _, hk, _, _ => absurd hk (by omega)
theorem zB_det1 {K V : Int → Int} : ∀ {m k : Nat} {o j f q f' q' : Int}, k ≤ 2 → zB K V m k o j f q → zB K V m k o j f' q' → f = f' ∧ q = q'
  | 0, _, _, _, _, _, _, _, _, h, _ => h.elim
  | m + 1, 0, o, j, f, q, f', q', _, h, h' => by
    rw [zB_0] at h h'
    rcases h with ⟨a, b, h⟩ | h | ⟨a, b, h⟩ | ⟨a, b, g, p, h, c⟩ <;> rcases h' with ⟨a', b', h'⟩ | h' | ⟨a', b', h'⟩ | ⟨a', b', g', p', h', c'⟩ <;> first | omega | exact zCm_det h h' | exact zB_det1 (by decide) h h' | skip
    obtain ⟨rfl, rfl⟩ := zB_det1 (by decide) h h'
    omega
  | m + 1, 1, o, j, f, q, f', q', _, h, h' => by
    rw [zB_1] at h h'
    obtain ⟨g, p, h, c⟩ := h
    obtain ⟨g', p', h', c'⟩ := h'
    obtain ⟨rfl, rfl⟩ := zB_det1 (by decide) h h'
    rcases c with c | ⟨c, d⟩ <;> rcases c' with c' | ⟨c', d'⟩ <;> first | omega | exact zB_det1 (by decide) d d'
  | m + 1, 2, o, j, f, q, f', q', _, h, h' => by
    rw [zB_2] at h h'
    rcases h with h | ⟨a, h⟩ <;> rcases h' with h' | ⟨a', h'⟩ <;> first | omega | exact zB_det1 (by decide) h h'
  | _ + 1, k + 3, _, _, _, _, _, _, hk, _, _ => absurd hk (by omega)
def zBx (K V : Int → Int) (k : Nat) (o j f q : Int) : Prop := ∃ m, zB K V m k o j f q
theorem zBx_det {K V : Int → Int} {k : Nat} {o j f q f' q' : Int} (hk : k ≤ 2) (h : zBx K V k o j f q) (h' : zBx K V k o j f' q') : f = f' ∧ q = q' := by
  obtain ⟨m, h⟩ := h
  obtain ⟨m', h'⟩ := h'
  exact zB_det1 hk (zB_mono hk h (Nat.le_max_left m m')) (zB_mono hk h' (Nat.le_max_right m m'))
section ZBX
variable {K V : Int → Int} {o j f q g p : Int}
theorem zBx_c (h1 : K j ≠ 317) (h2 : K j ≠ 40) (h : zCm K V j f q) : zBx K V 0 o j f q := ⟨1, Or.inl ⟨h1, h2, h⟩⟩
theorem zBx_3 (h1 : K j = 317 ∨ K j = 40) (h2 : 8 ≤ o) : zBx K V 0 o j 3 j := ⟨1, Or.inr (Or.inl ⟨h1, h2, rfl, rfl⟩)⟩
theorem zBx_n (h1 : K j = 317) (h2 : o < 8) (h : zBx K V 0 (o + 1) (j + 1) f q) : zBx K V 0 o j f q := by
  obtain ⟨m, h⟩ := h
  exact ⟨m + 1, Or.inr (Or.inr (Or.inl ⟨h1, h2, h⟩))⟩
theorem zBx_b (h1 : K j = 40) (h2 : o < 8) (h : zBx K V 1 (o + 1) (j + 1) g p) (hc : (g ≠ 0 ∧ f = g ∧ q = p) ∨ (g = 0 ∧ K p ≠ 41 ∧ f = 1 ∧ q = p) ∨ (g = 0 ∧ K p = 41 ∧ f = 0 ∧ q = p + 1)) : zBx K V 0 o j f q := by
  obtain ⟨m, h⟩ := h
  exact ⟨m + 1, Or.inr (Or.inr (Or.inr ⟨h1, h2, g, p, h, hc⟩))⟩
theorem zBx_1f (h : zBx K V 0 o j f q) (hf : f ≠ 0) : zBx K V 1 o j f q := by
  obtain ⟨m, h⟩ := h
  exact ⟨m + 1, f, q, h, Or.inl ⟨hf, rfl, rfl⟩⟩
theorem zBx_1 (h : zBx K V 0 o j 0 p) (h' : zBx K V 2 o p f q) : zBx K V 1 o j f q := by
  obtain ⟨m, h⟩ := h
  obtain ⟨m', h'⟩ := h'
  exact ⟨max m m' + 1, 0, p, zB_mono (by decide) h (Nat.le_max_left m m'), Or.inr ⟨rfl, zB_mono (by decide) h' (Nat.le_max_right m m')⟩⟩
theorem zBx_2e (h1 : K j ≠ 315) (h2 : K j ≠ 316) : zBx K V 2 o j 0 j := ⟨1, Or.inl ⟨h1, h2, rfl, rfl⟩⟩
theorem zBx_2 (h1 : K j = 315 ∨ K j = 316) (h : zBx K V 1 o (j + 1) f q) : zBx K V 2 o j f q := by
  obtain ⟨m, h⟩ := h
  exact ⟨m + 1, Or.inr ⟨h1, h⟩⟩
end ZBX
theorem zEl_gt {K V : Int → Int} : ∀ {m : Nat} {j q : Int}, zEl K V m j 0 q → j ≤ q
  | 0, _, _, h => h.elim
  | m + 1, j, q, h => by
    rw [zEl_s] at h
    rcases h with h | h | ⟨h1, h2, h⟩ | h | h | ⟨h1, h2, h3, h⟩
    · omega
    · omega
    · have := zEl_gt h; omega
    · omega
    · omega
    · have := zEl_gt h; omega
theorem zEx_gt {K V : Int → Int} {j q : Int} (h : zEx_TT K V j 0 q) : j < q := by
  rcases h with h | ⟨-, m, h⟩
  · omega
  · have := zEl_gt h; omega
theorem zB_gt {K V : Int → Int} : ∀ {m k : Nat} {o j q : Int}, k ≤ 2 → zB K V m k o j 0 q → j ≤ q ∧ (k ≤ 1 → j < q)
  | 0, _, _, _, _, _, h => h.elim
  | m + 1, 0, o, j, q, _, h => by
    rw [zB_0] at h
    rcases h with ⟨a, b, g, p, h1, h2⟩ | h | ⟨a, b, h⟩ | ⟨a, b, g, p, h, c⟩
    · rcases h2 with h2 | h2 | ⟨g0, -, h2⟩
      · omega
      · omega
      · subst g0
        have := zEx_gt h1
        have := zEx_gt h2
        omega
    · omega
    · have := zB_gt (by decide) h
      omega
    · rcases c with c | c | c
      · omega
      · omega
      · obtain ⟨g0, -, -, c⟩ := c
        subst g0
        have := zB_gt (by decide) h
        omega
  | m + 1, 1, o, j, q, _, h => by
    rw [zB_1] at h
    obtain ⟨g, p, h, c⟩ := h
    rcases c with c | ⟨g0, d⟩
    · omega
    · subst g0
      have := zB_gt (by decide) h
      have := zB_gt (by decide) d
      omega
  | m + 1, 2, o, j, q, _, h => by
    rw [zB_2] at h
    rcases h with h | ⟨a, h⟩
    · omega
    · have := zB_gt (by decide) h
      omega
  | _ + 1, k + 3, _, _, _, hk, _ => absurd hk (by omega)
theorem zBx_gt {K V : Int → Int} {o j q : Int} (h : zBx K V 0 o j 0 q) : j < q := by
  obtain ⟨m, h⟩ := h
  exact (zB_gt (by decide) h).2 (by decide)
/-- a line of THE LAW behind its word -/
def zPa0 (K V : Int → Int) (j f q : Int) : Prop := ∃ g p, zEx_TT K V j g p ∧ ((g ≠ 0 ∧ f = g ∧ q = p) ∨ (g = 0 ∧ K p ≠ 314 ∧ f = 0 ∧ q = p) ∨ (g = 0 ∧ K p = 314 ∧ zBx K V 1 0 (p + 1) f q))
theorem zPa0_det {K V : Int → Int} {j f q f' q' : Int} (h : zPa0 K V j f q) (h' : zPa0 K V j f' q') : f = f' ∧ q = q' := by
  obtain ⟨g, p, h1, h2⟩ := h
  obtain ⟨g', p', h1', h2'⟩ := h'
  obtain ⟨rfl, rfl⟩ := zEx_det h1 h1'
  rcases h2 with h2 | h2 | ⟨a, b, h2⟩ <;> rcases h2' with h2' | h2' | ⟨a', b', h2'⟩ <;> first | omega | exact zBx_det (by decide) h2 h2'
/-- a line of THE LAW -/
def zLw (K V : Int → Int) (ln j f q : Int) : Prop := (f = 1 ∧ q = j ∧ ¬ (300 ≤ K j ∧ K j ≤ 302)) ∨ (f = 3 ∧ q = j ∧ (300 ≤ K j ∧ K j ≤ 302) ∧ ln = 16) ∨ ((300 ≤ K j ∧ K j ≤ 302) ∧ ln ≤ 15 ∧ ∃ g p, zPa0 K V (j + 1) g p ∧ ((g ≠ 0 ∧ f = g ∧ q = p) ∨ (g = 0 ∧ f = 1 ∧ q = p ∧ K p ≠ 59) ∨ (g = 0 ∧ f = 0 ∧ q = p + 1 ∧ K p = 59)))
theorem zLw_det {K V : Int → Int} {ln j f q f' q' : Int} (h : zLw K V ln j f q) (h' : zLw K V ln j f' q') : f = f' ∧ q = q' := by
  rcases h with h | h | ⟨a, b, g, p, h1, h2⟩
  · rcases h' with h' | h' | ⟨a', b', g', p', h1', h2'⟩ <;> omega
  · rcases h' with h' | h' | ⟨a', b', g', p', h1', h2'⟩ <;> omega
  · rcases h' with h' | h' | ⟨a', b', g', p', h1', h2'⟩
    · omega
    · omega
    · obtain ⟨rfl, rfl⟩ := zPa0_det h1 h1'
      omega
