/-! the lines of a text, told by its tokens: what is wrong (0: nothing) and at which token, else which comes next -/
def zXi (p : Int → Prop) : Prop := ∃ f, p f
theorem zXi_i {p : Int → Prop} (f : Int) (h : p f) : zXi p := ⟨f, h⟩
def zXi2 (p : Int → Int → Prop) : Prop := ∃ f q, p f q
theorem zXi2_i {p : Int → Int → Prop} (f q : Int) (h : p f q) : zXi2 p := ⟨f, q, h⟩
/-- ROUNDS, behind its keyword -/
def zPa1 (K V : Int → Int) (sh cu j f q : Int) : Prop :=
  (f = 1 ∧ q = j ∧ K j ≠ 256) ∨ (f = 2 ∧ q = j ∧ K j = 256 ∧ ¬ (0 ≤ V j ∧ V j ≤ cu - 1)) ∨ ((K j = 256 ∧ 0 ≤ V j ∧ V j ≤ cu - 1) ∧
  ((f = 1 ∧ q = j + 1 ∧ K (j + 1) ≠ 319) ∨ (K (j + 1) = 319 ∧
  ((f = 1 ∧ q = j + 2 ∧ K (j + 2) ≠ 256) ∨ (f = 2 ∧ q = j + 2 ∧ K (j + 2) = 256 ∧ ¬ (0 ≤ V (j + 2) ∧ V (j + 2) ≤ 11)) ∨ ((K (j + 2) = 256 ∧ 0 ≤ V (j + 2) ∧ V (j + 2) ≤ 11) ∧
  ((f = 0 ∧ q = j + 4 ∧ K (j + 3) = 321) ∨ (f = 1 ∧ q = j + 3 ∧ K (j + 3) ≠ 321 ∧ K (j + 3) ≠ 320) ∨ (K (j + 3) = 320 ∧
  ((f = 1 ∧ q = j + 4 ∧ K (j + 4) ≠ 256) ∨ (f = 2 ∧ q = j + 4 ∧ K (j + 4) = 256 ∧ ¬ (0 ≤ V (j + 4) ∧ V (j + 4) ≤ sh - 1)) ∨ (f = 0 ∧ q = j + 5 ∧ K (j + 4) = 256 ∧ 0 ≤ V (j + 4) ∧ V (j + 4) ≤ sh - 1)))))))))
/-- where to, of ROUNDS -/
def zPw (K V : Int → Int) (sh j f q : Int) : Prop := (f = 0 ∧ q = j + 1 ∧ K j = 321) ∨ (f = 1 ∧ q = j ∧ K j ≠ 321 ∧ K j ≠ 320) ∨ (K j = 320 ∧ ((f = 1 ∧ q = j + 1 ∧ K (j + 1) ≠ 256) ∨ (f = 2 ∧ q = j + 1 ∧ K (j + 1) = 256 ∧ ¬ (0 ≤ V (j + 1) ∧ V (j + 1) ≤ sh - 1)) ∨ (f = 0 ∧ q = j + 2 ∧ K (j + 1) = 256 ∧ 0 ≤ V (j + 1) ∧ V (j + 1) ≤ sh - 1)))
/-- what on a day, of CALENDAR -/
def zPd (K V : Int → Int) (sh cu j f q : Int) : Prop :=
  (f = 1 ∧ q = j ∧ K j ≠ 323 ∧ K j ≠ 306 ∧ K j ≠ 324 ∧ K j ≠ 325) ∨ ((K j = 323 ∨ K j = 306 ∨ K j = 324 ∨ K j = 325) ∧
  ((f = 1 ∧ q = j + 1 ∧ K (j + 1) ≠ 256) ∨ (f = 2 ∧ q = j + 1 ∧ K (j + 1) = 256 ∧ ((K j = 324 ∧ ¬ (0 ≤ V (j + 1) ∧ V (j + 1) ≤ cu - 1)) ∨ (K j ≠ 324 ∧ ¬ (0 ≤ V (j + 1) ∧ V (j + 1) ≤ sh - 1)))) ∨
  ((K (j + 1) = 256 ∧ 0 ≤ V (j + 1) ∧ (K j = 324 → V (j + 1) ≤ cu - 1) ∧ (K j ≠ 324 → V (j + 1) ≤ sh - 1)) ∧
  ((f = 1 ∧ q = j + 2 ∧ K (j + 2) ≠ 256) ∨ (f = 2 ∧ q = j + 2 ∧ K (j + 2) = 256 ∧ ((K j = 323 ∧ ¬ (0 ≤ V (j + 2) ∧ V (j + 2) ≤ 99)) ∨ (K j = 306 ∧ ¬ (1 ≤ V (j + 2) ∧ V (j + 2) ≤ 99)) ∨ (K j = 324 ∧ ¬ (1 ≤ V (j + 2) ∧ V (j + 2) ≤ 999)) ∨ (K j = 325 ∧ ¬ (0 ≤ V (j + 2) ∧ V (j + 2) ≤ cu - 1)))) ∨
  (f = 0 ∧ q = j + 3 ∧ K (j + 2) = 256 ∧ ((K j = 323 ∧ 0 ≤ V (j + 2) ∧ V (j + 2) ≤ 99) ∨ (K j = 306 ∧ 1 ≤ V (j + 2) ∧ V (j + 2) ≤ 99) ∨ (K j = 324 ∧ 1 ≤ V (j + 2) ∧ V (j + 2) ≤ 999) ∨ (K j = 325 ∧ 0 ≤ V (j + 2) ∧ V (j + 2) ≤ cu - 1)))))))
/-- CALENDAR -/
def zPa2 (K V : Int → Int) (sh cu j f q : Int) : Prop :=
  (f = 1 ∧ q = j ∧ K j ≠ 256) ∨ (f = 2 ∧ q = j ∧ K j = 256 ∧ ¬ (0 ≤ V j ∧ V j ≤ 999)) ∨ ((K j = 256 ∧ 0 ≤ V j ∧ V j ≤ 999) ∧
  ((f = 1 ∧ q = j + 1 ∧ K (j + 1) ≠ 323 ∧ K (j + 1) ≠ 306 ∧ K (j + 1) ≠ 324 ∧ K (j + 1) ≠ 325) ∨ ((K (j + 1) = 323 ∨ K (j + 1) = 306 ∨ K (j + 1) = 324 ∨ K (j + 1) = 325) ∧
  ((f = 1 ∧ q = j + 2 ∧ K (j + 2) ≠ 256) ∨ (f = 2 ∧ q = j + 2 ∧ K (j + 2) = 256 ∧ ((K (j + 1) = 324 ∧ ¬ (0 ≤ V (j + 2) ∧ V (j + 2) ≤ cu - 1)) ∨ (K (j + 1) ≠ 324 ∧ ¬ (0 ≤ V (j + 2) ∧ V (j + 2) ≤ sh - 1)))) ∨
  ((K (j + 2) = 256 ∧ 0 ≤ V (j + 2) ∧ (K (j + 1) = 324 → V (j + 2) ≤ cu - 1) ∧ (K (j + 1) ≠ 324 → V (j + 2) ≤ sh - 1)) ∧
  ((f = 1 ∧ q = j + 3 ∧ K (j + 3) ≠ 256) ∨ (f = 2 ∧ q = j + 3 ∧ K (j + 3) = 256 ∧ ((K (j + 1) = 323 ∧ ¬ (0 ≤ V (j + 3) ∧ V (j + 3) ≤ 99)) ∨ (K (j + 1) = 306 ∧ ¬ (1 ≤ V (j + 3) ∧ V (j + 3) ≤ 99)) ∨ (K (j + 1) = 324 ∧ ¬ (1 ≤ V (j + 3) ∧ V (j + 3) ≤ 999)) ∨ (K (j + 1) = 325 ∧ ¬ (0 ≤ V (j + 3) ∧ V (j + 3) ≤ cu - 1)))) ∨
  (f = 0 ∧ q = j + 4 ∧ K (j + 3) = 256 ∧ ((K (j + 1) = 323 ∧ 0 ≤ V (j + 3) ∧ V (j + 3) ≤ 99) ∨ (K (j + 1) = 306 ∧ 1 ≤ V (j + 3) ∧ V (j + 3) ≤ 99) ∨ (K (j + 1) = 324 ∧ 1 ≤ V (j + 3) ∧ V (j + 3) ≤ 999) ∨ (K (j + 1) = 325 ∧ 0 ≤ V (j + 3) ∧ V (j + 3) ≤ cu - 1)))))))))
/-- ARCADE -/
def zPa3 (K V : Int → Int) (sh cu j f q : Int) : Prop :=
  (f = 1 ∧ q = j ∧ K j ≠ 256) ∨ (f = 2 ∧ q = j ∧ K j = 256 ∧ ¬ (0 ≤ V j ∧ V j ≤ sh - 1)) ∨ ((K j = 256 ∧ 0 ≤ V j ∧ V j ≤ sh - 1) ∧
  ((f = 1 ∧ q = j + 1 ∧ K (j + 1) ≠ 327) ∨ (K (j + 1) = 327 ∧
  ((f = 1 ∧ q = j + 2 ∧ K (j + 2) ≠ 326) ∨ (K (j + 2) = 326 ∧
  ((f = 2 ∧ q = j + 3 ∧ K (j + 3) = 256 ∧ V (j + 3) = V j) ∨ (f = 1 ∧ q = j + 3 ∧ K (j + 3) ≠ 256) ∨ (f = 2 ∧ q = j + 3 ∧ K (j + 3) = 256 ∧ ¬ (0 ≤ V (j + 3) ∧ V (j + 3) ≤ sh - 1)) ∨ ((K (j + 3) = 256 ∧ V (j + 3) ≠ V j ∧ 0 ≤ V (j + 3) ∧ V (j + 3) ≤ sh - 1) ∧
  ((f = 1 ∧ q = j + 4 ∧ K (j + 4) ≠ 256) ∨ (f = 2 ∧ q = j + 4 ∧ K (j + 4) = 256 ∧ ¬ (1 ≤ V (j + 4) ∧ V (j + 4) ≤ 99)) ∨ (f = 0 ∧ q = j + 5 ∧ K (j + 4) = 256 ∧ 1 ≤ V (j + 4) ∧ V (j + 4) ≤ 99)))))))))
section ZPC
variable {K V : Int → Int} {sh cu j f q hi lo hi2 : Int}
theorem zPw_1 (h1 : K j ≠ 321) (h : f = 1 ∧ K j ≠ 320) : zPw K V sh j f j := Or.inr (Or.inl ⟨h.1, rfl, h1, h.2⟩)
theorem zPw_2 (b0 : K j = 320) (h : (f = 1 ∧ K (j + 1) ≠ 256) ∨ (f = 2 ∧ K (j + 1) = 256 ∧ ¬ (0 ≤ V (j + 1) ∧ V (j + 1) ≤ hi))) (e : hi = sh - 1) : zPw K V sh j f (j + 1) := by
  subst e
  rcases h with ⟨a, b⟩ | ⟨a, b, c⟩
  · exact Or.inr (Or.inr ⟨b0, Or.inl ⟨a, rfl, b⟩⟩)
  · exact Or.inr (Or.inr ⟨b0, Or.inr (Or.inl ⟨a, rfl, b, c⟩)⟩)
theorem zPw_3 (b0 : K j = 320) (b1 : K (j + 1) = 256 ∧ 0 ≤ V (j + 1) ∧ V (j + 1) ≤ hi) (e : hi = sh - 1) : zPw K V sh j 0 (j + 2) := by
  subst e
  exact Or.inr (Or.inr ⟨b0, Or.inr (Or.inr ⟨rfl, rfl, b1⟩)⟩)
theorem zPd_1 (hk : K j = 323 ∨ K j = 306 ∨ K j = 324 ∨ K j = 325) (h : (f = 1 ∧ K (j + 1) ≠ 256) ∨ (f = 2 ∧ K (j + 1) = 256 ∧ ¬ (0 ≤ V (j + 1) ∧ V (j + 1) ≤ hi))) (e : (K j = 324 ∧ hi = cu - 1) ∨ (K j ≠ 324 ∧ hi = sh - 1)) : zPd K V sh cu j f (j + 1) := by
  rcases h with ⟨a, b⟩ | ⟨a, b, c⟩
  · exact Or.inr ⟨hk, Or.inl ⟨a, rfl, b⟩⟩
  · refine Or.inr ⟨hk, Or.inr (Or.inl ⟨a, rfl, b, ?_⟩)⟩
    rcases e with ⟨e1, e2⟩ | ⟨e1, e2⟩
    · exact Or.inl ⟨e1, by rw [← e2]; exact c⟩
    · exact Or.inr ⟨e1, by rw [← e2]; exact c⟩
theorem zPd_b (b1 : K (j + 1) = 256 ∧ 0 ≤ V (j + 1) ∧ V (j + 1) ≤ hi) (e : (K j = 324 ∧ hi = cu - 1) ∨ (K j ≠ 324 ∧ hi = sh - 1)) : K (j + 1) = 256 ∧ 0 ≤ V (j + 1) ∧ (K j = 324 → V (j + 1) ≤ cu - 1) ∧ (K j ≠ 324 → V (j + 1) ≤ sh - 1) := by
  obtain ⟨a, b, c⟩ := b1
  rcases e with ⟨e1, e2⟩ | ⟨e1, e2⟩
  · exact ⟨a, b, fun _ => by rw [← e2]; exact c, fun h => absurd e1 h⟩
  · exact ⟨a, b, fun h => absurd h e1, fun _ => by rw [← e2]; exact c⟩
theorem zPd_2 (hk : K j = 323 ∨ K j = 306 ∨ K j = 324 ∨ K j = 325) (b1 : K (j + 1) = 256 ∧ 0 ≤ V (j + 1) ∧ V (j + 1) ≤ hi) (e : (K j = 324 ∧ hi = cu - 1) ∨ (K j ≠ 324 ∧ hi = sh - 1)) (h : (f = 1 ∧ K (j + 2) ≠ 256) ∨ (f = 2 ∧ K (j + 2) = 256 ∧ ¬ (lo ≤ V (j + 2) ∧ V (j + 2) ≤ hi2))) (e2 : (K j = 323 ∧ lo = 0 ∧ hi2 = 99) ∨ (K j = 306 ∧ lo = 1 ∧ hi2 = 99) ∨ (K j = 324 ∧ lo = 1 ∧ hi2 = 999) ∨ (K j = 325 ∧ lo = 0 ∧ hi2 = cu - 1)) : zPd K V sh cu j f (j + 2) := by
  rcases h with ⟨a, b⟩ | ⟨a, b, c⟩
  · exact Or.inr ⟨hk, Or.inr (Or.inr ⟨zPd_b b1 e, Or.inl ⟨a, rfl, b⟩⟩)⟩
  · refine Or.inr ⟨hk, Or.inr (Or.inr ⟨zPd_b b1 e, Or.inr (Or.inl ⟨a, rfl, b, ?_⟩)⟩)⟩
    rcases e2 with ⟨d, rfl, rfl⟩ | ⟨d, rfl, rfl⟩ | ⟨d, rfl, rfl⟩ | ⟨d, rfl, rfl⟩
    · exact Or.inl ⟨d, c⟩
    · exact Or.inr (Or.inl ⟨d, c⟩)
    · exact Or.inr (Or.inr (Or.inl ⟨d, c⟩))
    · exact Or.inr (Or.inr (Or.inr ⟨d, c⟩))
theorem zPd_3 (hk : K j = 323 ∨ K j = 306 ∨ K j = 324 ∨ K j = 325) (b1 : K (j + 1) = 256 ∧ 0 ≤ V (j + 1) ∧ V (j + 1) ≤ hi) (e : (K j = 324 ∧ hi = cu - 1) ∨ (K j ≠ 324 ∧ hi = sh - 1)) (b2 : K (j + 2) = 256 ∧ lo ≤ V (j + 2) ∧ V (j + 2) ≤ hi2) (e2 : (K j = 323 ∧ lo = 0 ∧ hi2 = 99) ∨ (K j = 306 ∧ lo = 1 ∧ hi2 = 99) ∨ (K j = 324 ∧ lo = 1 ∧ hi2 = 999) ∨ (K j = 325 ∧ lo = 0 ∧ hi2 = cu - 1)) : zPd K V sh cu j 0 (j + 3) := by
  refine Or.inr ⟨hk, Or.inr (Or.inr ⟨zPd_b b1 e, Or.inr (Or.inr ⟨rfl, rfl, b2.1, ?_⟩)⟩)⟩
  have c := b2.2
  rcases e2 with ⟨d, rfl, rfl⟩ | ⟨d, rfl, rfl⟩ | ⟨d, rfl, rfl⟩ | ⟨d, rfl, rfl⟩
  · exact Or.inl ⟨d, c⟩
  · exact Or.inr (Or.inl ⟨d, c⟩)
  · exact Or.inr (Or.inr (Or.inl ⟨d, c⟩))
  · exact Or.inr (Or.inr (Or.inr ⟨d, c⟩))
theorem zPa1_0 (h : (f = 1 ∧ K j ≠ 256) ∨ (f = 2 ∧ K j = 256 ∧ ¬ (0 ≤ V j ∧ V j ≤ hi))) (e : hi = cu - 1) : zPa1 K V sh cu j f j := by
  subst e
  rcases h with ⟨a, b⟩ | ⟨a, b, c⟩
  · exact Or.inl ⟨a, rfl, b⟩
  · exact Or.inr (Or.inl ⟨a, rfl, b, c⟩)
theorem zPa1_1 (b0 : K j = 256 ∧ 0 ≤ V j ∧ V j ≤ hi) (e : hi = cu - 1) (h : f = 1 ∧ K (j + 1) ≠ 319) : zPa1 K V sh cu j f (j + 1) := by
  subst e
  exact Or.inr (Or.inr ⟨b0, Or.inl ⟨h.1, rfl, h.2⟩⟩)
theorem zPa1_2 (b0 : K j = 256 ∧ 0 ≤ V j ∧ V j ≤ hi) (e : hi = cu - 1) (b1 : K (j + 1) = 319) (h : (f = 1 ∧ K (j + 2) ≠ 256) ∨ (f = 2 ∧ K (j + 2) = 256 ∧ ¬ (0 ≤ V (j + 2) ∧ V (j + 2) ≤ 11))) : zPa1 K V sh cu j f (j + 2) := by
  subst e
  rcases h with ⟨a, b⟩ | ⟨a, b, c⟩
  · exact Or.inr (Or.inr ⟨b0, Or.inr ⟨b1, Or.inl ⟨a, rfl, b⟩⟩⟩)
  · exact Or.inr (Or.inr ⟨b0, Or.inr ⟨b1, Or.inr (Or.inl ⟨a, rfl, b, c⟩)⟩⟩)
theorem zPa1_w (b0 : K j = 256 ∧ 0 ≤ V j ∧ V j ≤ hi) (e : hi = cu - 1) (b1 : K (j + 1) = 319) (b2 : K (j + 2) = 256 ∧ 0 ≤ V (j + 2) ∧ V (j + 2) ≤ 11) (h : zPw K V sh (j + 3) f q) : zPa1 K V sh cu j f q := by
  subst e
  unfold zPw at h
  rw [show j + 3 + 1 = j + 4 by omega, show j + 3 + 2 = j + 5 by omega] at h
  exact Or.inr (Or.inr ⟨b0, Or.inr ⟨b1, Or.inr (Or.inr ⟨b2, h⟩)⟩⟩)
theorem zPa2_0 (h : (f = 1 ∧ K j ≠ 256) ∨ (f = 2 ∧ K j = 256 ∧ ¬ (0 ≤ V j ∧ V j ≤ 999))) : zPa2 K V sh cu j f j := by
  rcases h with ⟨a, b⟩ | ⟨a, b, c⟩
  · exact Or.inl ⟨a, rfl, b⟩
  · exact Or.inr (Or.inl ⟨a, rfl, b, c⟩)
theorem zPa2_w (b0 : K j = 256 ∧ 0 ≤ V j ∧ V j ≤ 999) (h : zPd K V sh cu (j + 1) f q) : zPa2 K V sh cu j f q := by
  unfold zPd at h
  rw [show j + 1 + 1 = j + 2 by omega, show j + 1 + 2 = j + 3 by omega, show j + 1 + 3 = j + 4 by omega] at h
  exact Or.inr (Or.inr ⟨b0, h⟩)
theorem zPa3_0 (h : (f = 1 ∧ K j ≠ 256) ∨ (f = 2 ∧ K j = 256 ∧ ¬ (0 ≤ V j ∧ V j ≤ hi))) (e : hi = sh - 1) : zPa3 K V sh cu j f j := by
  subst e
  rcases h with ⟨a, b⟩ | ⟨a, b, c⟩
  · exact Or.inl ⟨a, rfl, b⟩
  · exact Or.inr (Or.inl ⟨a, rfl, b, c⟩)
theorem zPa3_1 (b0 : K j = 256 ∧ 0 ≤ V j ∧ V j ≤ hi) (e : hi = sh - 1) (h : f = 1 ∧ K (j + 1) ≠ 327) : zPa3 K V sh cu j f (j + 1) := by
  subst e
  exact Or.inr (Or.inr ⟨b0, Or.inl ⟨h.1, rfl, h.2⟩⟩)
theorem zPa3_2 (b0 : K j = 256 ∧ 0 ≤ V j ∧ V j ≤ hi) (e : hi = sh - 1) (b1 : K (j + 1) = 327) (h : f = 1 ∧ K (j + 2) ≠ 326) : zPa3 K V sh cu j f (j + 2) := by
  subst e
  exact Or.inr (Or.inr ⟨b0, Or.inr ⟨b1, Or.inl ⟨h.1, rfl, h.2⟩⟩⟩)
theorem zPa3_3 (b0 : K j = 256 ∧ 0 ≤ V j ∧ V j ≤ hi) (e : hi = sh - 1) (b1 : K (j + 1) = 327) (b2 : K (j + 2) = 326) (h : (f = 2 ∧ K (j + 3) = 256 ∧ V (j + 3) = V j) ∨ (f = 1 ∧ K (j + 3) ≠ 256) ∨ (f = 2 ∧ K (j + 3) = 256 ∧ ¬ (0 ≤ V (j + 3) ∧ V (j + 3) ≤ sh - 1))) : zPa3 K V sh cu j f (j + 3) := by
  subst e
  refine Or.inr (Or.inr ⟨b0, Or.inr ⟨b1, Or.inr ⟨b2, ?_⟩⟩⟩)
  rcases h with ⟨a, b⟩ | ⟨a, b⟩ | ⟨a, b⟩
  · exact Or.inl ⟨a, rfl, b⟩
  · exact Or.inr (Or.inl ⟨a, rfl, b⟩)
  · exact Or.inr (Or.inr (Or.inl ⟨a, rfl, b⟩))
theorem zPa3_4 (b0 : K j = 256 ∧ 0 ≤ V j ∧ V j ≤ hi) (e : hi = sh - 1) (b1 : K (j + 1) = 327) (b2 : K (j + 2) = 326) (b3 : K (j + 3) = 256 ∧ V (j + 3) ≠ V j ∧ 0 ≤ V (j + 3) ∧ V (j + 3) ≤ sh - 1) (h : (f = 1 ∧ K (j + 4) ≠ 256) ∨ (f = 2 ∧ K (j + 4) = 256 ∧ ¬ (1 ≤ V (j + 4) ∧ V (j + 4) ≤ 99))) : zPa3 K V sh cu j f (j + 4) := by
  subst e
  refine Or.inr (Or.inr ⟨b0, Or.inr ⟨b1, Or.inr ⟨b2, Or.inr (Or.inr (Or.inr ⟨b3, ?_⟩))⟩⟩⟩)
  rcases h with ⟨a, b⟩ | ⟨a, b⟩
  · exact Or.inl ⟨a, rfl, b⟩
  · exact Or.inr (Or.inl ⟨a, rfl, b⟩)
theorem zPa3_5 (b0 : K j = 256 ∧ 0 ≤ V j ∧ V j ≤ hi) (e : hi = sh - 1) (b1 : K (j + 1) = 327) (b2 : K (j + 2) = 326) (b3 : K (j + 3) = 256 ∧ V (j + 3) ≠ V j ∧ 0 ≤ V (j + 3) ∧ V (j + 3) ≤ sh - 1) (b4 : K (j + 4) = 256 ∧ 1 ≤ V (j + 4) ∧ V (j + 4) ≤ 99) : zPa3 K V sh cu j 0 (j + 5) := by
  subst e
  exact Or.inr (Or.inr ⟨b0, Or.inr ⟨b1, Or.inr ⟨b2, Or.inr (Or.inr (Or.inr ⟨b3, Or.inr (Or.inr ⟨rfl, rfl, b4⟩)⟩))⟩⟩⟩)
theorem zf12 {p r : Prop} (h : (f = 1 ∧ p) ∨ (f = 2 ∧ r)) : f ≠ 0 := by
  rcases h with ⟨a, -⟩ | ⟨a, -⟩ <;> omega
theorem zf1 {p : Prop} (h : f = 1 ∧ p) : f ≠ 0 := by
  have := h.1
  omega
theorem zf212 {p r t : Prop} (h : (f = 2 ∧ p) ∨ (f = 1 ∧ r) ∨ (f = 2 ∧ t)) : f ≠ 0 := by
  rcases h with ⟨a, -⟩ | ⟨a, -⟩ | ⟨a, -⟩ <;> omega
end ZPC
theorem zPa1_det {K V : Int → Int} {sh cu j f q f' q' : Int} (h : zPa1 K V sh cu j f q) (h' : zPa1 K V sh cu j f' q') : f = f' ∧ q = q' := by
  unfold zPa1 at h h'
  omega
theorem zPa2_det {K V : Int → Int} {sh cu j f q f' q' : Int} (h : zPa2 K V sh cu j f q) (h' : zPa2 K V sh cu j f' q') : f = f' ∧ q = q' := by
  unfold zPa2 at h h'
  omega
theorem zPa3_det {K V : Int → Int} {sh cu j f q f' q' : Int} (h : zPa3 K V sh cu j f q) (h' : zPa3 K V sh cu j f' q') : f = f' ∧ q = q' := by
  unfold zPa3 at h h'
  omega
/-- a function changed at a place -/
def zpu (f : Int → Int) (a x : Int) : Int → Int := fun i => if i = a then x else f i
theorem zpu_eq {f : Int → Int} {a x : Int} : zpu f a x a = x := if_pos rfl
theorem zpu_ne {f : Int → Int} {a x i : Int} (h : i ≠ a) : zpu f a x i = f i := if_neg h
theorem pm_up_zpu {μ : pm_Mem} {r : Nat} {a x : Int} : pm_up μ r a x r = zpu (μ r) a x := by
  funext i
  by_cases h : i = a
  · subst h; rw [pm_up_eq, zpu_eq]
  · rw [pm_up_ne h, zpu_ne h]
/-- the class stands at token j, nothing wrong so far -/
def zCq (K S V : Int → Int) (n j : Int) (μ : pm_Mem) : Prop := (μ 90 = K ∧ μ 91 = S ∧ μ 92 = V) ∧ μ 88 7 = n + 1 ∧ μ 88 8 = j ∧ (0 ≤ j ∧ j ≤ n ∧ n ≤ 400) ∧ μ 88 2 = 0 ∧ μ 88 3 = -1
theorem zCl_8 {K S V : Int → Int} {n j j' x : Int} {μ μ' : pm_Mem} (h : zCq K S V n j μ) (e : μ' = pm_up μ 88 8 x) (ex : x = j') (f : 0 ≤ j' ∧ j' ≤ n) : zCq K S V n j' μ' := by
  obtain ⟨⟨a1, a2, a3⟩, b, c, d, g1, g2⟩ := h
  rw [e]
  exact ⟨⟨by rw [pm_up_row (by decide)]; exact a1, by rw [pm_up_row (by decide)]; exact a2, by rw [pm_up_row (by decide)]; exact a3⟩, by rw [pm_up_ne (by decide)]; exact b, by rw [pm_up_eq]; exact ex, ⟨f.1, f.2, d.2.2⟩, by rw [pm_up_ne (by decide)]; exact g1, by rw [pm_up_ne (by decide)]; exact g2⟩
theorem zCl_o {K S V : Int → Int} {n j a x : Int} {r : Nat} {μ : pm_Mem} (h : zCq K S V n j μ) (hr : r = 93 ∨ r = 94 ∨ r = 95) : zCq K S V n j (pm_up μ r a x) := by
  obtain ⟨⟨a1, a2, a3⟩, b, c, d, g1, g2⟩ := h
  exact ⟨⟨by rw [pm_up_row (by omega)]; exact a1, by rw [pm_up_row (by omega)]; exact a2, by rw [pm_up_row (by omega)]; exact a3⟩, by rw [pm_up_off (by omega)]; exact b, by rw [pm_up_off (by omega)]; exact c, d, by rw [pm_up_off (by omega)]; exact g1, by rw [pm_up_off (by omega)]; exact g2⟩
/-- what a line's reading leaves alone -/
def zCf (μ μ' : pm_Mem) : Prop := (∀ r, r ≠ 88 → r ≠ 94 → μ' r = μ r) ∧ (∀ k : Int, k ≠ 2 → k ≠ 3 → k ≠ 8 → μ' 88 k = μ 88 k)
theorem zCf_refl {μ : pm_Mem} : zCf μ μ := ⟨fun _ _ _ => rfl, fun _ _ _ _ => rfl⟩
theorem zCf_tr {μ μ1 μ2 : pm_Mem} (h : zCf μ μ1) (h' : zCf μ1 μ2) : zCf μ μ2 := ⟨fun r a b => (h'.1 r a b).trans (h.1 r a b), fun k a b c => (h'.2 k a b c).trans (h.2 k a b c)⟩
theorem zCf_88 {μ0 μ : pm_Mem} {k x : Int} (h : zCf μ0 μ) (hk : k = 2 ∨ k = 3 ∨ k = 8) : zCf μ0 (pm_up μ 88 k x) := ⟨fun r a b => by rw [pm_up_row a]; exact h.1 r a b, fun i a b c => by rw [pm_up_ne (by omega)]; exact h.2 i a b c⟩
theorem zCf_94 {μ0 μ : pm_Mem} {k x : Int} (h : zCf μ0 μ) : zCf μ0 (pm_up μ 94 k x) := ⟨fun r a b => by rw [pm_up_row b]; exact h.1 r a b, fun i a b c => by rw [pm_up_off (by decide)]; exact h.2 i a b c⟩
/-- the fault that the class tells -/
def zFl (S : Int → Int) (f q : Int) (μ : pm_Mem) : Prop := μ 88 2 = f ∧ μ 88 3 = S q
/-! a text: its lines one after another -/
/-- a line from its keyword on, so many ahead of it -/
def zLi0 (P : Int → Int → Int → Prop) (K : Int → Int) (kw ln j f q : Int) : Prop := (f = 1 ∧ q = j ∧ K j ≠ kw) ∨ (f = 3 ∧ q = j ∧ K j = kw ∧ ln = 16) ∨ (K j = kw ∧ ln ≤ 15 ∧ ∃ g p, P (j + 1) g p ∧ ((g ≠ 0 ∧ f = g ∧ q = p) ∨ (g = 0 ∧ f = 1 ∧ q = p ∧ K p ≠ 59) ∨ (g = 0 ∧ f = 0 ∧ q = p + 1 ∧ K p = 59)))
theorem zLi0_det {P : Int → Int → Int → Prop} {K : Int → Int} {kw ln j f q f' q' : Int} (hP : ∀ j f q f' q', P j f q → P j f' q' → f = f' ∧ q = q') (h : zLi0 P K kw ln j f q) (h' : zLi0 P K kw ln j f' q') : f = f' ∧ q = q' := by
  rcases h with h | h | ⟨a, b, g, p, h1, h2⟩
  · rcases h' with h' | h' | ⟨a', b', g', p', h1', h2'⟩ <;> omega
  · rcases h' with h' | h' | ⟨a', b', g', p', h1', h2'⟩ <;> omega
  · rcases h' with h' | h' | ⟨a', b', g', p', h1', h2'⟩
    · omega
    · omega
    · obtain ⟨rfl, rfl⟩ := hP _ _ _ _ _ h1 h1'
      omega
theorem zLi0_kw {P : Int → Int → Int → Prop} {K : Int → Int} {kw ln j q : Int} (h : zLi0 P K kw ln j 0 q) : K j = kw ∧ ln ≤ 15 := by
  rcases h with h | h | ⟨a, b, -⟩
  · omega
  · omega
  · exact ⟨a, b⟩
/-- so many lines in a row; J tells where each begins -/
def zCh (L : Int → Int → Int → Int → Prop) (J : Nat → Int) (i : Nat) : Prop := J 0 = 0 ∧ ∀ t : Nat, t < i → L (t : Int) (J t) 0 (J (t + 1))
def zJu (J : Nat → Int) (a : Nat) (p : Int) : Nat → Int := fun t => if t = a then p else J t
theorem zJu_eq {J : Nat → Int} {a : Nat} {p : Int} : zJu J a p a = p := if_pos rfl
theorem zJu_ne {J : Nat → Int} {a t : Nat} {p : Int} (h : t ≠ a) : zJu J a p t = J t := if_neg h
theorem zCh_add {L : Int → Int → Int → Int → Prop} {J : Nat → Int} {i : Nat} {p : Int} (h : zCh L J i) (hl : L (i : Int) (J i) 0 p) : zCh L (zJu J (i + 1) p) (i + 1) := by
  refine ⟨by rw [zJu_ne (by omega)]; exact h.1, fun t ht => ?_⟩
  rw [zJu_ne (show t ≠ i + 1 by omega)]
  by_cases hti : t = i
  · subst hti
    rw [zJu_eq]
    exact hl
  · rw [zJu_ne (show t + 1 ≠ i + 1 by omega)]
    exact h.2 t (by omega)
/-- what comes of a text: its fault and where, or none, behind so many lines -/
def zTxo (L : Int → Int → Int → Int → Prop) (K : Int → Int) (J : Nat → Int) (i : Nat) (f q : Int) : Prop := zCh L J i ∧ ((f = 0 ∧ K (J i) = 257) ∨ (f ≠ 0 ∧ K (J i) ≠ 257 ∧ L (i : Int) (J i) f q))
theorem zTxo_lt {L : Int → Int → Int → Int → Prop} {K : Int → Int} {J J' : Nat → Int} {i i' : Nat} {f q f' q' : Int} (hL : ∀ ln j f q f' q', L ln j f q → L ln j f' q' → f = f' ∧ q = q') (hk : ∀ ln j q, L ln j 0 q → K j ≠ 257) (h : zTxo L K J i f q) (h' : zTxo L K J' i' f' q') (e : J i = J' i) (hlt : i < i') : False := by
  have hl := h'.1.2 i hlt
  rw [← e] at hl
  rcases h.2 with ⟨-, h2⟩ | ⟨h1, -, h3⟩
  · exact hk _ _ _ hl h2
  · exact h1 (hL _ _ _ _ _ _ h3 hl).1
theorem zTxo_det {L : Int → Int → Int → Int → Prop} {K : Int → Int} {J J' : Nat → Int} {i i' : Nat} {f q f' q' : Int} (hL : ∀ ln j f q f' q', L ln j f q → L ln j f' q' → f = f' ∧ q = q') (hk : ∀ ln j q, L ln j 0 q → K j ≠ 257) (h : zTxo L K J i f q) (h' : zTxo L K J' i' f' q') : i = i' ∧ f = f' ∧ (f ≠ 0 → q = q') ∧ ∀ t, t ≤ i → J t = J' t := by
  have e : ∀ t : Nat, t ≤ i → t ≤ i' → J t = J' t := fun t => by
    induction t with
    | zero => exact fun _ _ => h.1.1.trans h'.1.1.symm
    | succ t ih =>
      intro h1 h2
      have e := ih (by omega) (by omega)
      have a := h.1.2 t (by omega)
      have b := h'.1.2 t (by omega)
      rw [← e] at b
      exact (hL _ _ _ _ _ _ a b).2
  have ei : i = i' := by
    rcases Nat.lt_trichotomy i i' with g | g | g
    · exact absurd (zTxo_lt hL hk h h' (e i (Nat.le_refl _) (by omega)) g) id
    · exact g
    · exact absurd (zTxo_lt hL hk h' h (e i' (by omega) (Nat.le_refl _)).symm g) id
  subst ei
  have ee := e i (Nat.le_refl _) (Nat.le_refl _)
  refine ⟨rfl, ?_, ?_, fun t ht => e t ht ht⟩
  · rcases h.2 with ⟨a, b⟩ | ⟨a, b, c⟩
    · rcases h'.2 with ⟨a', b'⟩ | ⟨a', b', c'⟩
      · omega
      · rw [← ee] at b'
        exact absurd b b'
    · rcases h'.2 with ⟨a', b'⟩ | ⟨a', b', c'⟩
      · rw [← ee] at b'
        exact absurd b' b
      · rw [← ee] at c'
        exact (hL _ _ _ _ _ _ c c').1
  · intro hf
    rcases h.2 with ⟨a, b⟩ | ⟨a, b, c⟩
    · exact absurd a hf
    · rcases h'.2 with ⟨a', b'⟩ | ⟨a', b', c'⟩
      · rw [← ee] at b'
        exact absurd b' b
      · rw [← ee] at c'
        exact (hL _ _ _ _ _ _ c c').2
/-- a line of THE LAW's reading leaves alone -/
def zCfx (μ μ' : pm_Mem) : Prop := (∀ r, r ≠ 88 → r ≠ 93 → r ≠ 94 → r ≠ 95 → μ' r = μ r) ∧ (∀ k : Int, k ≠ 2 → k ≠ 3 → k ≠ 8 → μ' 88 k = μ 88 k) ∧ (∀ k : Int, k ≠ 3 → μ' 93 k = μ 93 k)
theorem zCfx_refl {μ : pm_Mem} : zCfx μ μ := ⟨fun _ _ _ _ _ => rfl, fun _ _ _ _ => rfl, fun _ _ => rfl⟩
theorem zCfx_tr {μ μ1 μ2 : pm_Mem} (h : zCfx μ μ1) (h' : zCfx μ1 μ2) : zCfx μ μ2 := ⟨fun r a b c d => (h'.1 r a b c d).trans (h.1 r a b c d), fun k a b c => (h'.2.1 k a b c).trans (h.2.1 k a b c), fun k a => (h'.2.2 k a).trans (h.2.2 k a)⟩
theorem zCfx_f {μ μ' : pm_Mem} (h : zCf μ μ') : zCfx μ μ' := ⟨fun r a _ c _ => h.1 r a c, h.2, fun k _ => by rw [h.1 93 (by decide) (by decide)]⟩
theorem zCfx_e {μ μ' : pm_Mem} (h : ∀ r, r ≠ 93 → r ≠ 95 → μ' r = μ r) (h2 : ∀ k : Int, k ≠ 3 → μ' 93 k = μ 93 k) : zCfx μ μ' := ⟨fun r _ b _ d => h r b d, fun k _ _ _ => by rw [h 88 (by decide) (by decide)], h2⟩
theorem zCl_e {K S V : Int → Int} {n j : Int} {μ μ' : pm_Mem} (hc : zCq K S V n j μ) (h : ∀ r, r ≠ 93 → r ≠ 95 → μ' r = μ r) : zCq K S V n j μ' := by
  unfold zCq at hc ⊢
  rw [h 88 (by decide) (by decide), h 90 (by decide) (by decide), h 91 (by decide) (by decide), h 92 (by decide) (by decide)]
  exact hc
/-- a text's reading leaves alone -/
def zCg (μ μ' : pm_Mem) : Prop := (∀ r, r ≠ 88 → r ≠ 93 → r ≠ 94 → r ≠ 95 → μ' r = μ r) ∧ (∀ k : Int, k ≠ 2 → k ≠ 3 → k ≠ 8 → μ' 88 k = μ 88 k) ∧ (∀ k : Int, k ≠ 2 → k ≠ 3 → μ' 93 k = μ 93 k)
theorem zCg_x {μ0 μ μ' : pm_Mem} (h : zCg μ0 μ) (h' : zCfx μ μ') : zCg μ0 μ' := ⟨fun r a b c d => (h'.1 r a b c d).trans (h.1 r a b c d), fun k a b c => (h'.2.1 k a b c).trans (h.2.1 k a b c), fun k a b => (h'.2.2 k b).trans (h.2.2 k a b)⟩
theorem zCg_f {μ0 μ μ' : pm_Mem} (h : zCg μ0 μ) (h' : zCf μ μ') : zCg μ0 μ' := zCg_x h (zCfx_f h')
theorem zCg_93 {μ0 μ : pm_Mem} {x : Int} (h : zCg μ0 μ) : zCg μ0 (pm_up μ 93 2 x) := ⟨fun r a b c d => by rw [pm_up_row b]; exact h.1 r a b c d, fun k a b c => by rw [pm_up_off (by decide)]; exact h.2.1 k a b c, fun k a b => by rw [pm_up_ne a]; exact h.2.2 k a b⟩
/-- what the class holds of ARCADE's lines -/
def zCe3 (K V : Int → Int) (J : Nat → Int) (C : Int → Int) (i : Nat) : Prop := ∀ t : Nat, t < i → C ((t : Int) * 4 + 0) = V (J t + 1) ∧ C ((t : Int) * 4 + 1) = V (J t + 4) ∧ C ((t : Int) * 4 + 2) = V (J t + 5)
theorem zCe3_add {K V : Int → Int} {J : Nat → Int} {C C' : Int → Int} {i : Nat} {p j kw : Int} (h : zCe3 K V J C i) (hj : j = J i) (e : C' = zpu (zpu (zpu (zpu C ((i : Int) * 4 + 0) kw) ((i : Int) * 4 + 0) (V (j + 1))) ((i : Int) * 4 + 1) (V (j + 1 + 3))) ((i : Int) * 4 + 2) (V (j + 1 + 4))) : zCe3 K V (zJu J (i + 1) p) C' (i + 1) := fun t ht => by
  rw [zJu_ne (show t ≠ i + 1 by omega), e]
  by_cases hti : t = i
  · subst hti
    refine ⟨?_, ?_, ?_⟩
    · rw [zpu_ne (by omega), zpu_ne (by omega), zpu_eq, hj]
    · rw [zpu_ne (by omega), zpu_eq, hj, show J t + 1 + 3 = J t + 4 by omega]
    · rw [zpu_eq, hj, show J t + 1 + 4 = J t + 5 by omega]
  · obtain ⟨h1, h2, h3⟩ := h t (by omega)
    refine ⟨?_, ?_, ?_⟩
    · rw [zpu_ne (by omega), zpu_ne (by omega), zpu_ne (by omega), zpu_ne (by omega)]; exact h1
    · rw [zpu_ne (by omega), zpu_ne (by omega), zpu_ne (by omega), zpu_ne (by omega)]; exact h2
    · rw [zpu_ne (by omega), zpu_ne (by omega), zpu_ne (by omega), zpu_ne (by omega)]; exact h3
/-- what the class holds of ROUNDS, CALENDAR -/
def zCe1 (K V : Int → Int) (J : Nat → Int) (C : Int → Int) (i : Nat) : Prop := ∀ t : Nat, t < i → C ((t : Int) * 4 + 0) = V (J t + 1) ∧ C ((t : Int) * 4 + 1) = V (J t + 3) ∧ C ((t : Int) * 4 + 2) = if K (J t + 4) = 321 then -1 else V (J t + 5)
def zCe2 (K V : Int → Int) (J : Nat → Int) (C : Int → Int) (i : Nat) : Prop := ∀ t : Nat, t < i → C ((t : Int) * 4 + 0) = V (J t + 1) ∧ C ((t : Int) * 4 + 1) = K (J t + 2) ∧ C ((t : Int) * 4 + 2) = V (J t + 3) ∧ C ((t : Int) * 4 + 3) = V (J t + 4)
theorem zCe1_add {K V : Int → Int} {J : Nat → Int} {C C' : Int → Int} {i : Nat} {p j kw : Int} (h : zCe1 K V J C i) (hj : j = J i) (e : C' = zpu (zpu (zpu (zpu C ((i : Int) * 4 + 0) kw) ((i : Int) * 4 + 0) (V (j + 1))) ((i : Int) * 4 + 1) (V (j + 1 + 2))) ((i : Int) * 4 + 2) (if K (j + 1 + 3) = 321 then -1 else V (j + 1 + 4))) : zCe1 K V (zJu J (i + 1) p) C' (i + 1) := fun t ht => by
  rw [zJu_ne (show t ≠ i + 1 by omega), e]
  by_cases hti : t = i
  · subst hti
    refine ⟨?_, ?_, ?_⟩
    · rw [zpu_ne (by omega), zpu_ne (by omega), zpu_eq, hj]
    · rw [zpu_ne (by omega), zpu_eq, hj, show J t + 1 + 2 = J t + 3 by omega]
    · rw [zpu_eq, hj, show J t + 1 + 3 = J t + 4 by omega, show J t + 1 + 4 = J t + 5 by omega]
  · obtain ⟨h1, h2, h3⟩ := h t (by omega)
    refine ⟨?_, ?_, ?_⟩
    · rw [zpu_ne (by omega), zpu_ne (by omega), zpu_ne (by omega), zpu_ne (by omega)]; exact h1
    · rw [zpu_ne (by omega), zpu_ne (by omega), zpu_ne (by omega), zpu_ne (by omega)]; exact h2
    · rw [zpu_ne (by omega), zpu_ne (by omega), zpu_ne (by omega), zpu_ne (by omega)]; exact h3
theorem zCe2_add {K V : Int → Int} {J : Nat → Int} {C C' : Int → Int} {i : Nat} {p j kw : Int} (h : zCe2 K V J C i) (hj : j = J i) (e : C' = zpu (zpu (zpu (zpu (zpu C ((i : Int) * 4 + 0) kw) ((i : Int) * 4 + 0) (V (j + 1))) ((i : Int) * 4 + 1) (K (j + 1 + 1))) ((i : Int) * 4 + 2) (V (j + 1 + 2))) ((i : Int) * 4 + 3) (V (j + 1 + 3))) : zCe2 K V (zJu J (i + 1) p) C' (i + 1) := fun t ht => by
  rw [zJu_ne (show t ≠ i + 1 by omega), e]
  by_cases hti : t = i
  · subst hti
    refine ⟨?_, ?_, ?_, ?_⟩
    · rw [zpu_ne (by omega), zpu_ne (by omega), zpu_ne (by omega), zpu_eq, hj]
    · rw [zpu_ne (by omega), zpu_ne (by omega), zpu_eq, hj, show J t + 1 + 1 = J t + 2 by omega]
    · rw [zpu_ne (by omega), zpu_eq, hj, show J t + 1 + 2 = J t + 3 by omega]
    · rw [zpu_eq, hj, show J t + 1 + 3 = J t + 4 by omega]
  · obtain ⟨h1, h2, h3, h4⟩ := h t (by omega)
    refine ⟨?_, ?_, ?_, ?_⟩
    · rw [zpu_ne (by omega), zpu_ne (by omega), zpu_ne (by omega), zpu_ne (by omega), zpu_ne (by omega)]; exact h1
    · rw [zpu_ne (by omega), zpu_ne (by omega), zpu_ne (by omega), zpu_ne (by omega), zpu_ne (by omega)]; exact h2
    · rw [zpu_ne (by omega), zpu_ne (by omega), zpu_ne (by omega), zpu_ne (by omega), zpu_ne (by omega)]; exact h3
    · rw [zpu_ne (by omega), zpu_ne (by omega), zpu_ne (by omega), zpu_ne (by omega), zpu_ne (by omega)]; exact h4
/-- the class reads a text: fine or not, at line i -/
def zRs (L : Int → Int → Int → Int → Prop) (ce : (Nat → Int) → (Int → Int) → Nat → Prop) (K S V : Int → Int) (n : Int) (μ0 : pm_Mem) (x i : Int) (μ : pm_Mem) : Prop := (0 ≤ i ∧ i ≤ 17) ∧ zCg μ0 μ ∧ ((x = 1 ∧ i ≤ 16 ∧ μ 93 2 = i ∧ ∃ J, zCh L J i.toNat ∧ zCq K S V n (J i.toNat) μ ∧ ce J (μ 94) i.toNat) ∨ (x = 0 ∧ ∃ J t f q, zTxo L K J t f q ∧ f ≠ 0 ∧ zFl S f q μ))
/-- the class has read a text -/
def zRdo (L : Int → Int → Int → Int → Prop) (ce : (Nat → Int) → (Int → Int) → Nat → Prop) (K S : Int → Int) (μ0 : pm_Mem) (y : Int) (μ : pm_Mem) : Prop := zCg μ0 μ ∧ ((y = 1 ∧ ∃ J t, t ≤ 16 ∧ μ 93 2 = ((t : Nat) : Int) ∧ zTxo L K J t 0 0 ∧ ce J (μ 94) t ∧ μ 88 2 = 0 ∧ μ 88 3 = -1) ∨ (y = 0 ∧ ∃ J t f q, zTxo L K J t f q ∧ f ≠ 0 ∧ zFl S f q μ))
section ZRS
variable {L : Int → Int → Int → Int → Prop} {ce : (Nat → Int) → (Int → Int) → Nat → Prop} {K S V : Int → Int} {n : Int} {μ0 μ μ' : pm_Mem} {x i : Int}
theorem zRs_01 (h : zRs L ce K S V n μ0 x i μ) : x = 0 ∨ x = 1 := by
  rcases h.2.2 with h | h
  · exact Or.inr h.1
  · exact Or.inl h.1
theorem zRs_1 (h : zRs L ce K S V n μ0 x i μ) (hx : x ≠ 0) : i ≤ 16 ∧ μ 93 2 = i ∧ ∃ J, zCh L J i.toNat ∧ zCq K S V n (J i.toNat) μ ∧ ce J (μ 94) i.toNat := by
  rcases h.2.2 with h | h
  · exact h.2
  · exact absurd h.1 hx
theorem zRs_0 (h : zRs L ce K S V n μ0 x i μ) (hx : x = 0) : zRdo L ce K S μ0 x μ := by
  rcases h.2.2 with g | g
  · omega
  · exact ⟨h.2.1, Or.inr g⟩
theorem zRs_17 (h : zRs L ce K S V n μ0 x i μ) (hx : 16 < i) : zRdo L ce K S μ0 x μ := by
  rcases h.2.2 with g | g
  · omega
  · exact ⟨h.2.1, Or.inr g⟩
theorem zRs_e (h : zRs L ce K S V n μ0 x i μ) (hx : x ≠ 0) {J : Nat → Int} (hch : zCh L J i.toNat) (hce : ce J (μ 94) i.toNat) (hK : K (J i.toNat) = 257) (hc : zCq K S V n (J i.toNat) μ) : zRdo L ce K S μ0 x μ := by
  obtain ⟨a, b, -⟩ := zRs_1 h hx
  have := h.1
  exact ⟨h.2.1, Or.inl ⟨by have := zRs_01 h; omega, J, i.toNat, by omega, by omega, ⟨hch, Or.inl ⟨rfl, hK⟩⟩, hce, hc.2.2.2.2.1, hc.2.2.2.2.2⟩⟩
theorem zRs_ok {p : Int} {J : Nat → Int} (hi : 0 ≤ i ∧ i ≤ 15) (hg : zCg μ0 μ') (hln : μ' 93 2 = i + 1) (hch : zCh L J i.toNat) (hL : L i (J i.toNat) 0 p) (hc : zCq K S V n p μ') (hce : ce (zJu J (i.toNat + 1) p) (μ' 94) (i.toNat + 1)) : zRs L ce K S V n μ0 1 (i + 1) μ' := by
  have e : (i + 1).toNat = i.toNat + 1 := by omega
  refine ⟨⟨by omega, by omega⟩, hg, Or.inl ⟨rfl, by omega, hln, zJu J (i.toNat + 1) p, ?_, ?_, ?_⟩⟩
  · rw [e]
    exact zCh_add hch (by rw [show ((i.toNat : Nat) : Int) = i by omega]; exact hL)
  · rw [e, zJu_eq]
    exact hc
  · rw [e]
    exact hce
theorem zRs_no {f q : Int} {J : Nat → Int} (hi : 0 ≤ i ∧ i ≤ 16) (hg : zCg μ0 μ') (hch : zCh L J i.toNat) (hK : K (J i.toNat) ≠ 257) (hL : L i (J i.toNat) f q) (hf : f ≠ 0) (hl : zFl S f q μ') : zRs L ce K S V n μ0 0 (i + 1) μ' :=
  ⟨⟨by omega, by omega⟩, hg, Or.inr ⟨rfl, J, i.toNat, f, q, ⟨hch, Or.inr ⟨hf, hK, by rw [show ((i.toNat : Nat) : Int) = i by omega]; exact hL⟩⟩, hf, hl⟩⟩
end ZRS
theorem zFl_93 {S : Int → Int} {f q x : Int} {μ : pm_Mem} (h : zFl S f q μ) : zFl S f q (pm_up μ 93 2 x) := ⟨by rw [pm_up_off (by decide)]; exact h.1, by rw [pm_up_off (by decide)]; exact h.2⟩
theorem zRs_st {L : Int → Int → Int → Int → Prop} {ce : (Nat → Int) → (Int → Int) → Nat → Prop} {K S V : Int → Int} {n : Int} {μ : pm_Mem} (h : zCq K S V n 0 μ) (h2 : μ 93 2 = 0) (hce : ∀ J, ce J (μ 94) 0) : zRs L ce K S V n μ 1 0 μ :=
  ⟨⟨by omega, by omega⟩, ⟨fun _ _ _ _ _ => rfl, fun _ _ _ _ => rfl, fun _ _ _ => rfl⟩, Or.inl ⟨rfl, by omega, h2, fun _ => 0, ⟨rfl, fun t ht => absurd ht (by omega)⟩, h, hce _⟩⟩
/-- the class has read its tape as a text -/
def zRf (L : (Int → Int) → (Int → Int) → Int → Int → Int → Int → Prop) (ce : (Int → Int) → (Int → Int) → (Nat → Int) → (Int → Int) → Nat → Prop) (μ : pm_Mem) (y : Int) (μ' : pm_Mem) : Prop := μ' 88 1 = 0 ∧ (∀ r, r ≠ 88 → r ≠ 90 → r ≠ 91 → r ≠ 92 → r ≠ 93 → r ≠ 94 → r ≠ 95 → μ' r = μ r) ∧ ∃ K S V N P J t, zLex (μ 89) (μ 88 1) K S V N P ∧ ((y = 1 ∧ t ≤ 16 ∧ μ' 93 2 = ((t : Nat) : Int) ∧ zTxo (L K V) K J t 0 0 ∧ ce K V J (μ' 94) t ∧ μ' 88 2 = 0 ∧ μ' 88 3 = -1) ∨ (y = 0 ∧ ∃ f q, zTxo (L K V) K J t f q ∧ f ≠ 0 ∧ zFl S f q μ'))
theorem zRf_of {L : (Int → Int) → (Int → Int) → Int → Int → Int → Int → Prop} {ce : (Int → Int) → (Int → Int) → (Nat → Int) → (Int → Int) → Nat → Prop} {K S V : Int → Int} {N y : Int} {P : Nat → Int} {μ μ0 μ' : pm_Mem} (h : zRdo (L K V) (ce K V) K S μ0 y μ') (e1 : μ0 88 1 = 0) (fr : ∀ r, r ≠ 88 → r ≠ 90 → r ≠ 91 → r ≠ 92 → r ≠ 93 → r ≠ 94 → r ≠ 95 → μ0 r = μ r) (hx : zLex (μ 89) (μ 88 1) K S V N P) : zRf L ce μ y μ' := by
  refine ⟨(h.1.2.1 1 (by decide) (by decide) (by decide)).trans e1, fun r a b c d e f g => (h.1.1 r a e f g).trans (fr r a b c d e f g), ?_⟩
  rcases h.2 with ⟨h1, J, t, h2, h3, h4, h5, h6⟩ | ⟨h1, J, t, f, q, h2, h3, h4⟩
  · exact ⟨K, S, V, N, P, J, t, hx, Or.inl ⟨h1, h2, h3, h4, h5, h6⟩⟩
  · exact ⟨K, S, V, N, P, J, t, hx, Or.inr ⟨h1, f, q, h2, h3, h4⟩⟩
theorem zGok {x g : Int} {P Q : Prop} (h : (x = 1 ∧ g = 0 ∧ P) ∨ (x = 0 ∧ Q)) (hx : x ≠ 0) : g = 0 ∧ P := by
  rcases h with ⟨-, a⟩ | ⟨a, -⟩
  · exact a
  · exact absurd a hx
theorem zGno {x g : Int} {P Q : Prop} (h : (x = 1 ∧ g = 0 ∧ P) ∨ (x = 0 ∧ g ≠ 0 ∧ Q)) (hx : x = 0) : g ≠ 0 ∧ Q := by
  rcases h with ⟨a, -⟩ | ⟨-, a⟩
  · omega
  · exact a
