/-! the reference reads a text's lines -/
section ZPR
variable {K V : Int → Int} {sh cu j f q hi hi2 lo : Int}
theorem zR3_0 (h : ((f = 1 ∧ q = j ∧ K j ≠ 326) ∨ (f = 1 ∧ q = j + 1 ∧ K j = 326 ∧ K (j + 1) ≠ 256) ∨ (f = 2 ∧ q = j + 1 ∧ K j = 326 ∧ K (j + 1) = 256 ∧ ¬ (0 ≤ V (j + 1) ∧ V (j + 1) ≤ hi)))) (hk : K j = 326) (e : hi = sh - 1) : zPa3 K V sh cu (j + 1) f q ∧ f ≠ 0 := by
  rcases h with ⟨-, -, a⟩ | ⟨a, b, -, c⟩ | ⟨a, b, -, c, d⟩
  · exact absurd hk a
  · subst b
    exact ⟨zPa3_0 (Or.inl ⟨a, c⟩) e, by omega⟩
  · subst b
    exact ⟨zPa3_0 (Or.inr ⟨a, c, d⟩) e, by omega⟩
theorem zR3_1 (b0 : (K (j + 1) = 256 ∧ 0 ≤ V (j + 1) ∧ V (j + 1) ≤ hi)) (e : hi = sh - 1) (h : K (j + 2) ≠ 327) : zPa3 K V sh cu (j + 1) 1 (j + 2) := by
  rw [show j + 2 = j + 1 + 1 by omega] at h ⊢
  exact zPa3_1 b0 e ⟨rfl, h⟩
theorem zR3_2 (b0 : (K (j + 1) = 256 ∧ 0 ≤ V (j + 1) ∧ V (j + 1) ≤ hi)) (e : hi = sh - 1) (b1 : K (j + 2) = 327) (h : K (j + 3) ≠ 326) : zPa3 K V sh cu (j + 1) 1 (j + 3) := by
  rw [show j + 2 = j + 1 + 1 by omega] at b1
  rw [show j + 3 = j + 1 + 2 by omega] at h ⊢
  exact zPa3_2 b0 e b1 ⟨rfl, h⟩
theorem zR3_3 (b0 : (K (j + 1) = 256 ∧ 0 ≤ V (j + 1) ∧ V (j + 1) ≤ hi)) (e : hi = sh - 1) (b1 : K (j + 2) = 327) (b2 : K (j + 3) = 326) (h : K (j + 4) = 256 ∧ V (j + 4) = V (j + 1)) : zPa3 K V sh cu (j + 1) 2 (j + 4) := by
  rw [show j + 2 = j + 1 + 1 by omega] at b1
  rw [show j + 3 = j + 1 + 2 by omega] at b2
  rw [show j + 4 = j + 1 + 3 by omega] at h ⊢
  exact zPa3_3 b0 e b1 b2 (Or.inl ⟨rfl, h.1, h.2⟩)
theorem zR3_4 (b0 : (K (j + 1) = 256 ∧ 0 ≤ V (j + 1) ∧ V (j + 1) ≤ hi)) (e : hi = sh - 1) (b1 : K (j + 2) = 327) (b2 : K (j + 3) = 326) (h : ((f = 1 ∧ K (j + 4) ≠ 256) ∨ (f = 2 ∧ K (j + 4) = 256 ∧ ¬ (0 ≤ V (j + 4) ∧ V (j + 4) ≤ hi2)))) (e2 : hi2 = sh - 1) : zPa3 K V sh cu (j + 1) f (j + 4) ∧ f ≠ 0 := by
  subst e2
  rw [show j + 2 = j + 1 + 1 by omega] at b1
  rw [show j + 3 = j + 1 + 2 by omega] at b2
  rw [show j + 4 = j + 1 + 3 by omega] at h ⊢
  rcases h with ⟨a, c⟩ | ⟨a, c⟩
  · exact ⟨zPa3_3 b0 e b1 b2 (Or.inr (Or.inl ⟨a, c⟩)), by omega⟩
  · exact ⟨zPa3_3 b0 e b1 b2 (Or.inr (Or.inr ⟨a, c⟩)), by omega⟩
theorem zR3_5 (b0 : (K (j + 1) = 256 ∧ 0 ≤ V (j + 1) ∧ V (j + 1) ≤ hi)) (e : hi = sh - 1) (b1 : K (j + 2) = 327) (b2 : K (j + 3) = 326) (hn : ¬ (K (j + 4) = 256 ∧ V (j + 4) = V (j + 1))) (b3 : (K (j + 4) = 256 ∧ 0 ≤ V (j + 4) ∧ V (j + 4) ≤ hi2)) (e2 : hi2 = sh - 1) (h : ((f = 1 ∧ K (j + 5) ≠ 256) ∨ (f = 2 ∧ K (j + 5) = 256 ∧ ¬ (1 ≤ V (j + 5) ∧ V (j + 5) ≤ 99)))) : zPa3 K V sh cu (j + 1) f (j + 5) ∧ f ≠ 0 := by
  subst e2
  have b4 : K (j + 4) = 256 ∧ V (j + 4) ≠ V (j + 1) ∧ 0 ≤ V (j + 4) ∧ V (j + 4) ≤ sh - 1 := ⟨b3.1, fun h9 => hn ⟨b3.1, h9⟩, b3.2⟩
  rw [show j + 2 = j + 1 + 1 by omega] at b1
  rw [show j + 3 = j + 1 + 2 by omega] at b2
  rw [show j + 4 = j + 1 + 3 by omega] at b4
  rw [show j + 5 = j + 1 + 4 by omega] at h ⊢
  exact ⟨zPa3_4 b0 e b1 b2 b4 h, zf12 h⟩
theorem zR3_6 (b0 : (K (j + 1) = 256 ∧ 0 ≤ V (j + 1) ∧ V (j + 1) ≤ hi)) (e : hi = sh - 1) (b1 : K (j + 2) = 327) (b2 : K (j + 3) = 326) (hn : ¬ (K (j + 4) = 256 ∧ V (j + 4) = V (j + 1))) (b3 : (K (j + 4) = 256 ∧ 0 ≤ V (j + 4) ∧ V (j + 4) ≤ hi2)) (e2 : hi2 = sh - 1) (h : (K (j + 5) = 256 ∧ 1 ≤ V (j + 5) ∧ V (j + 5) ≤ 99)) : zPa3 K V sh cu (j + 1) 0 (j + 6) := by
  subst e2
  have b4 : K (j + 4) = 256 ∧ V (j + 4) ≠ V (j + 1) ∧ 0 ≤ V (j + 4) ∧ V (j + 4) ≤ sh - 1 := ⟨b3.1, fun h9 => hn ⟨b3.1, h9⟩, b3.2⟩
  rw [show j + 2 = j + 1 + 1 by omega] at b1
  rw [show j + 3 = j + 1 + 2 by omega] at b2
  rw [show j + 4 = j + 1 + 3 by omega] at b4
  rw [show j + 5 = j + 1 + 4 by omega] at h
  rw [show j + 6 = j + 1 + 5 by omega]
  exact zPa3_5 b0 e b1 b2 b4 h
theorem zR1_0 (h : ((f = 1 ∧ q = j ∧ K j ≠ 318) ∨ (f = 1 ∧ q = j + 1 ∧ K j = 318 ∧ K (j + 1) ≠ 256) ∨ (f = 2 ∧ q = j + 1 ∧ K j = 318 ∧ K (j + 1) = 256 ∧ ¬ (0 ≤ V (j + 1) ∧ V (j + 1) ≤ hi)))) (hk : K j = 318) (e : hi = cu - 1) : zPa1 K V sh cu (j + 1) f q ∧ f ≠ 0 := by
  rcases h with ⟨-, -, a⟩ | ⟨a, b, -, c⟩ | ⟨a, b, -, c, d⟩
  · exact absurd hk a
  · subst b
    exact ⟨zPa1_0 (Or.inl ⟨a, c⟩) e, by omega⟩
  · subst b
    exact ⟨zPa1_0 (Or.inr ⟨a, c, d⟩) e, by omega⟩
theorem zR1_1 (b0 : (K (j + 1) = 256 ∧ 0 ≤ V (j + 1) ∧ V (j + 1) ≤ hi)) (e : hi = cu - 1) (h : ((f = 1 ∧ q = j + 2 ∧ K (j + 2) ≠ 319) ∨ (f = 1 ∧ q = j + 2 + 1 ∧ K (j + 2) = 319 ∧ K (j + 2 + 1) ≠ 256) ∨ (f = 2 ∧ q = j + 2 + 1 ∧ K (j + 2) = 319 ∧ K (j + 2 + 1) = 256 ∧ ¬ (0 ≤ V (j + 2 + 1) ∧ V (j + 2 + 1) ≤ 11)))) : zPa1 K V sh cu (j + 1) f q ∧ f ≠ 0 := by
  rw [show j + 2 = j + 1 + 1 by omega, show j + 1 + 1 + 1 = j + 1 + 2 by omega] at h
  rcases h with ⟨a, b, c⟩ | ⟨a, b, c, d⟩ | ⟨a, b, c, d⟩
  · subst b
    exact ⟨zPa1_1 b0 e ⟨a, c⟩, by omega⟩
  · subst b
    exact ⟨zPa1_2 b0 e c (Or.inl ⟨a, d⟩), by omega⟩
  · subst b
    exact ⟨zPa1_2 b0 e c (Or.inr ⟨a, d⟩), by omega⟩
theorem zR1_2 (b0 : (K (j + 1) = 256 ∧ 0 ≤ V (j + 1) ∧ V (j + 1) ≤ hi)) (e : hi = cu - 1) (b1 : K (j + 2) = 319) (b2 : (K (j + 2 + 1) = 256 ∧ 0 ≤ V (j + 2 + 1) ∧ V (j + 2 + 1) ≤ 11)) (hno : K (j + 4) ≠ 321) (h : ((f = 1 ∧ q = j + 4 ∧ K (j + 4) ≠ 320) ∨ (f = 1 ∧ q = j + 4 + 1 ∧ K (j + 4) = 320 ∧ K (j + 4 + 1) ≠ 256) ∨ (f = 2 ∧ q = j + 4 + 1 ∧ K (j + 4) = 320 ∧ K (j + 4 + 1) = 256 ∧ ¬ (0 ≤ V (j + 4 + 1) ∧ V (j + 4 + 1) ≤ hi2)))) (e2 : hi2 = sh - 1) : zPa1 K V sh cu (j + 1) f q ∧ f ≠ 0 := by
  rw [show j + 2 = j + 1 + 1 by omega] at b1
  rw [show j + 2 + 1 = j + 1 + 2 by omega] at b2
  rw [show j + 4 = j + 1 + 3 by omega] at h hno
  rcases h with ⟨a, b, c⟩ | ⟨a, b, c, d⟩ | ⟨a, b, c, d⟩
  · subst b
    exact ⟨zPa1_w b0 e b1 b2 (zPw_1 hno ⟨a, c⟩), by omega⟩
  · subst b
    exact ⟨zPa1_w b0 e b1 b2 (zPw_2 c (Or.inl ⟨a, d⟩) e2), by omega⟩
  · subst b
    exact ⟨zPa1_w b0 e b1 b2 (zPw_2 c (Or.inr ⟨a, d⟩) e2), by omega⟩
theorem zR1_3 (b0 : (K (j + 1) = 256 ∧ 0 ≤ V (j + 1) ∧ V (j + 1) ≤ hi)) (e : hi = cu - 1) (b1 : K (j + 2) = 319) (b2 : (K (j + 2 + 1) = 256 ∧ 0 ≤ V (j + 2 + 1) ∧ V (j + 2 + 1) ≤ 11)) (h : K (j + 4) = 321) : zPa1 K V sh cu (j + 1) 0 (j + 5) := by
  rw [show j + 2 = j + 1 + 1 by omega] at b1
  rw [show j + 2 + 1 = j + 1 + 2 by omega] at b2
  rw [show j + 4 = j + 1 + 3 by omega] at h
  rw [show j + 5 = j + 1 + 3 + 1 by omega]
  exact zPa1_w b0 e b1 b2 (Or.inl ⟨rfl, rfl, h⟩)
theorem zR1_4 (b0 : (K (j + 1) = 256 ∧ 0 ≤ V (j + 1) ∧ V (j + 1) ≤ hi)) (e : hi = cu - 1) (b1 : K (j + 2) = 319) (b2 : (K (j + 2 + 1) = 256 ∧ 0 ≤ V (j + 2 + 1) ∧ V (j + 2 + 1) ≤ 11)) (b3 : K (j + 4) = 320) (b4 : (K (j + 4 + 1) = 256 ∧ 0 ≤ V (j + 4 + 1) ∧ V (j + 4 + 1) ≤ hi2)) (e2 : hi2 = sh - 1) : zPa1 K V sh cu (j + 1) 0 (j + 6) := by
  rw [show j + 2 = j + 1 + 1 by omega] at b1
  rw [show j + 2 + 1 = j + 1 + 2 by omega] at b2
  rw [show j + 4 = j + 1 + 3 by omega] at b3 b4
  rw [show j + 6 = j + 1 + 3 + 2 by omega]
  exact zPa1_w b0 e b1 b2 (zPw_3 b3 b4 e2)
theorem zR2_0 (h : ((f = 1 ∧ q = j ∧ K j ≠ 322) ∨ (f = 1 ∧ q = j + 1 ∧ K j = 322 ∧ K (j + 1) ≠ 256) ∨ (f = 2 ∧ q = j + 1 ∧ K j = 322 ∧ K (j + 1) = 256 ∧ ¬ (0 ≤ V (j + 1) ∧ V (j + 1) ≤ 999)))) (hk : K j = 322) : zPa2 K V sh cu (j + 1) f q ∧ f ≠ 0 := by
  rcases h with ⟨-, -, a⟩ | ⟨a, b, -, c⟩ | ⟨a, b, -, c, d⟩
  · exact absurd hk a
  · subst b
    exact ⟨zPa2_0 (Or.inl ⟨a, c⟩), by omega⟩
  · subst b
    exact ⟨zPa2_0 (Or.inr ⟨a, c, d⟩), by omega⟩
theorem zR2_1 (b0 : (K (j + 1) = 256 ∧ 0 ≤ V (j + 1) ∧ V (j + 1) ≤ 999)) (h : K (j + 2) ≠ 323 ∧ K (j + 2) ≠ 306 ∧ K (j + 2) ≠ 324 ∧ K (j + 2) ≠ 325) : zPa2 K V sh cu (j + 1) 1 (j + 2) := by
  rw [show j + 2 = j + 1 + 1 by omega] at h ⊢
  exact zPa2_w b0 (Or.inl ⟨rfl, rfl, h⟩)
theorem zR2_2 (b0 : (K (j + 1) = 256 ∧ 0 ≤ V (j + 1) ∧ V (j + 1) ≤ 999)) (hk : K (j + 2) = 323 ∨ K (j + 2) = 306 ∨ K (j + 2) = 324 ∨ K (j + 2) = 325) (e : (K (j + 2) = 324 ∧ hi = cu - 1) ∨ (K (j + 2) ≠ 324 ∧ hi = sh - 1)) (h : ((f = 1 ∧ K (j + 3) ≠ 256) ∨ (f = 2 ∧ K (j + 3) = 256 ∧ ¬ (0 ≤ V (j + 3) ∧ V (j + 3) ≤ hi)))) : zPa2 K V sh cu (j + 1) f (j + 3) ∧ f ≠ 0 := by
  rw [show j + 2 = j + 1 + 1 by omega] at hk e
  rw [show j + 3 = j + 1 + 1 + 1 by omega] at h ⊢
  exact ⟨zPa2_w b0 (zPd_1 hk h e), zf12 h⟩
theorem zR2_3 (b0 : (K (j + 1) = 256 ∧ 0 ≤ V (j + 1) ∧ V (j + 1) ≤ 999)) (hk : K (j + 2) = 323 ∨ K (j + 2) = 306 ∨ K (j + 2) = 324 ∨ K (j + 2) = 325) (e : (K (j + 2) = 324 ∧ hi = cu - 1) ∨ (K (j + 2) ≠ 324 ∧ hi = sh - 1)) (b1 : (K (j + 3) = 256 ∧ 0 ≤ V (j + 3) ∧ V (j + 3) ≤ hi)) (e2 : (K (j + 2) = 323 ∧ lo = 0 ∧ hi2 = 99) ∨ (K (j + 2) = 306 ∧ lo = 1 ∧ hi2 = 99) ∨ (K (j + 2) = 324 ∧ lo = 1 ∧ hi2 = 999) ∨ (K (j + 2) = 325 ∧ lo = 0 ∧ hi2 = cu - 1)) (h : ((f = 1 ∧ K (j + 4) ≠ 256) ∨ (f = 2 ∧ K (j + 4) = 256 ∧ ¬ (lo ≤ V (j + 4) ∧ V (j + 4) ≤ hi2)))) : zPa2 K V sh cu (j + 1) f (j + 4) ∧ f ≠ 0 := by
  rw [show j + 2 = j + 1 + 1 by omega] at hk e e2
  rw [show j + 3 = j + 1 + 1 + 1 by omega] at b1
  rw [show j + 4 = j + 1 + 1 + 2 by omega] at h ⊢
  exact ⟨zPa2_w b0 (zPd_2 hk b1 e h e2), zf12 h⟩
theorem zR2_4 (b0 : (K (j + 1) = 256 ∧ 0 ≤ V (j + 1) ∧ V (j + 1) ≤ 999)) (hk : K (j + 2) = 323 ∨ K (j + 2) = 306 ∨ K (j + 2) = 324 ∨ K (j + 2) = 325) (e : (K (j + 2) = 324 ∧ hi = cu - 1) ∨ (K (j + 2) ≠ 324 ∧ hi = sh - 1)) (b1 : (K (j + 3) = 256 ∧ 0 ≤ V (j + 3) ∧ V (j + 3) ≤ hi)) (e2 : (K (j + 2) = 323 ∧ lo = 0 ∧ hi2 = 99) ∨ (K (j + 2) = 306 ∧ lo = 1 ∧ hi2 = 99) ∨ (K (j + 2) = 324 ∧ lo = 1 ∧ hi2 = 999) ∨ (K (j + 2) = 325 ∧ lo = 0 ∧ hi2 = cu - 1)) (h : (K (j + 4) = 256 ∧ lo ≤ V (j + 4) ∧ V (j + 4) ≤ hi2)) : zPa2 K V sh cu (j + 1) 0 (j + 5) := by
  rw [show j + 2 = j + 1 + 1 by omega] at hk e e2
  rw [show j + 3 = j + 1 + 1 + 1 by omega] at b1
  rw [show j + 4 = j + 1 + 1 + 2 by omega] at h
  rw [show j + 5 = j + 1 + 1 + 3 by omega]
  exact zPa2_w b0 (zPd_3 hk b1 e h e2)
end ZPR
/-- the reference stands at token j -/
def zMs (K S V : Int → Int) (n : Int) (P : Nat → Int) (j : Int) (μ : pm_Mem) : Prop := (0 ≤ j ∧ j ≤ n) ∧ μ 205 13 = S j ∧ zTV (K j) (V j) (μ 205 14) (μ 205 15) ∧ (j < n → μ 205 12 = P (j + 1).toNat)
/-- what is known of the text: its tokens, as they stand on the tape -/
def zMx (T : Int → Int) (L : Int) (K S V : Int → Int) (n : Int) (P : Nat → Int) (μ : pm_Mem) : Prop := zLex T L K S V n P ∧ (∀ x, 0 ≤ x → x < L → T x = μ 211 x) ∧ μ 205 11 = L
/-- THE LAW as it stands, beside what is read -/
def zMy (μ μ' : pm_Mem) : Prop := (∀ i : Int, i < 32 → μ' 214 i = μ 214 i ∧ μ' 215 i = μ 215 i ∧ μ' 216 i = μ 216 i ∧ μ' 217 i = μ 217 i) ∧ ∀ i : Int, i < 800 → μ' 218 i = μ 218 i ∧ μ' 219 i = μ 219 i
def zMz (μ μ' : pm_Mem) : Prop := 0 ≤ μ 205 25 → 0 ≤ μ' 205 25 ∧ zMy μ μ'
theorem zMy_0 {μ : pm_Mem} : zMy μ μ := ⟨fun _ _ => ⟨rfl, rfl, rfl, rfl⟩, fun _ _ => ⟨rfl, rfl⟩⟩
theorem zMy_tr {μ μ1 μ2 : pm_Mem} (h : zMy μ μ1) (h' : zMy μ1 μ2) : zMy μ μ2 := ⟨fun i hi => by
  obtain ⟨a, b, c, d⟩ := h.1 i hi
  obtain ⟨a', b', c', d'⟩ := h'.1 i hi
  exact ⟨a'.trans a, b'.trans b, c'.trans c, d'.trans d⟩, fun i hi => ⟨(h'.2 i hi).1.trans (h.2 i hi).1, (h'.2 i hi).2.trans (h.2 i hi).2⟩⟩
theorem zMy_eq {μ μ' : pm_Mem} (h : ∀ r, 214 ≤ r → r ≤ 219 → μ' r = μ r) : zMy μ μ' := ⟨fun i _ => ⟨by rw [h 214 (by decide) (by decide)], by rw [h 215 (by decide) (by decide)], by rw [h 216 (by decide) (by decide)], by rw [h 217 (by decide) (by decide)]⟩, fun i _ => ⟨by rw [h 218 (by decide) (by decide)], by rw [h 219 (by decide) (by decide)]⟩⟩
theorem zMz_0 {μ : pm_Mem} : zMz μ μ := fun h => ⟨h, zMy_0⟩
theorem zMz_tr {μ μ1 μ2 : pm_Mem} (h : zMz μ μ1) (h' : zMz μ1 μ2) : zMz μ μ2 := fun h0 => by
  obtain ⟨a, b⟩ := h h0
  obtain ⟨c, d⟩ := h' a
  exact ⟨c, zMy_tr b d⟩
theorem zMz_eq {μ μ' : pm_Mem} (e : μ' 205 25 = μ 205 25) (h : ∀ r, 214 ≤ r → r ≤ 219 → μ' r = μ r) : zMz μ μ' := fun h0 => ⟨by rw [e]; exact h0, zMy_eq h⟩
/-- what a line's reading leaves alone -/
def zMf (μ μ' : pm_Mem) : Prop := (∀ r, r ≠ 205 → r ≠ 218 → r ≠ 219 → r ≠ 214 → r ≠ 215 → r ≠ 216 → r ≠ 217 → r ≠ 220 → r ≠ 221 → r ≠ 222 → r ≠ 223 → μ' r = μ r) ∧ (∀ k : Int, k ≠ 12 → k ≠ 13 → k ≠ 14 → k ≠ 15 → k ≠ 25 → k ≠ 26 → k ≠ 28 → k ≠ 29 → k ≠ 30 → μ' 205 k = μ 205 k) ∧ (∀ i, i < 144 → μ' 223 i = μ 223 i) ∧ (∀ i, i < 48 → μ' 221 i = μ 221 i) ∧ (∀ i, i < 64 → μ' 222 i = μ 222 i) ∧ zMz μ μ'
theorem zMf_refl {μ : pm_Mem} : zMf μ μ := ⟨fun _ _ _ _ _ _ _ _ _ _ _ _ => rfl, fun _ _ _ _ _ _ _ _ _ _ => rfl, fun _ _ => rfl, fun _ _ => rfl, fun _ _ => rfl, zMz_0⟩
theorem zMf_tr {μ μ1 μ2 : pm_Mem} (h : zMf μ μ1) (h' : zMf μ1 μ2) : zMf μ μ2 := ⟨fun r a b c d e f g i j k l => (h'.1 r a b c d e f g i j k l).trans (h.1 r a b c d e f g i j k l), fun x a b c d e f g i j => (h'.2.1 x a b c d e f g i j).trans (h.2.1 x a b c d e f g i j), fun x a => (h'.2.2.1 x a).trans (h.2.2.1 x a), fun x a => (h'.2.2.2.1 x a).trans (h.2.2.2.1 x a), fun x a => (h'.2.2.2.2.1 x a).trans (h.2.2.2.2.1 x a), zMz_tr h.2.2.2.2.2 h'.2.2.2.2.2⟩
theorem zMf_fr {μ0 μ : pm_Mem} (h : zFr μ0 μ) : zMf μ0 μ := ⟨fun r a _ _ _ _ _ _ _ _ _ _ => h.1 r a, fun k a b c d _ _ _ _ _ => h.2 k a b c d, fun i _ => by rw [h.1 223 (by decide)], fun i _ => by rw [h.1 221 (by decide)], fun i _ => by rw [h.1 222 (by decide)], zMz_eq (h.2 25 (by decide) (by decide) (by decide) (by decide)) (fun r a b => h.1 r (by omega))⟩
theorem zMx_f {T : Int → Int} {L : Int} {K S V : Int → Int} {n : Int} {P : Nat → Int} {μ μ' : pm_Mem} (h : zMx T L K S V n P μ) (hf : zMf μ μ') : zMx T L K S V n P μ' := ⟨h.1, fun x x0 x1 => by rw [hf.1 211 (by decide) (by decide) (by decide) (by decide) (by decide) (by decide) (by decide) (by decide) (by decide) (by decide) (by decide)]; exact h.2.1 x x0 x1, (hf.2.1 11 (by decide) (by decide) (by decide) (by decide) (by decide) (by decide) (by decide) (by decide) (by decide)).trans h.2.2⟩
/-- what the reading of single tokens leaves alone -/
def zMr (μ μ' : pm_Mem) : Prop := (∀ r, r ≠ 205 → μ' r = μ r) ∧ (∀ k : Int, k ≠ 12 → k ≠ 13 → k ≠ 14 → k ≠ 15 → k ≠ 29 → k ≠ 30 → μ' 205 k = μ 205 k)
theorem zMr_refl {μ : pm_Mem} : zMr μ μ := ⟨fun _ _ => rfl, fun _ _ _ _ _ _ _ => rfl⟩
theorem zMr_tr {μ μ1 μ2 : pm_Mem} (h : zMr μ μ1) (h' : zMr μ1 μ2) : zMr μ μ2 := ⟨fun r a => (h'.1 r a).trans (h.1 r a), fun k a b c d e f => (h'.2 k a b c d e f).trans (h.2 k a b c d e f)⟩
theorem zMr_up {μ0 μ : pm_Mem} {k x : Int} (h : zMr μ0 μ) (hk : k = 29 ∨ k = 30) : zMr μ0 (pm_up μ 205 k x) := ⟨fun r a => by rw [pm_up_row a]; exact h.1 r a, fun y a b c d e f => by rw [pm_up_ne (by omega)]; exact h.2 y a b c d e f⟩
theorem zMr_fr {μ0 μ : pm_Mem} (h : zFr μ0 μ) : zMr μ0 μ := ⟨h.1, fun k a b c d _ _ => h.2 k a b c d⟩
theorem zMf_r {μ0 μ : pm_Mem} (h : zMr μ0 μ) : zMf μ0 μ := ⟨fun r a _ _ _ _ _ _ _ _ _ _ => h.1 r a, fun k a b c d _ _ _ e f => h.2 k a b c d e f, fun i _ => by rw [h.1 223 (by decide)], fun i _ => by rw [h.1 221 (by decide)], fun i _ => by rw [h.1 222 (by decide)], zMz_eq (h.2 25 (by decide) (by decide) (by decide) (by decide) (by decide) (by decide)) (fun r a b => h.1 r (by omega))⟩
theorem zMf_s {μ μ' : pm_Mem} (h : ∀ r, r ≠ 223 → μ' r = μ r) (h2 : ∀ i, i < 144 → μ' 223 i = μ 223 i) : zMf μ μ' := ⟨fun r _ _ _ _ _ _ _ _ _ _ l => h r l, fun k _ _ _ _ _ _ _ _ _ => by rw [h 205 (by decide)], h2, fun i _ => by rw [h 221 (by decide)], fun i _ => by rw [h 222 (by decide)], zMz_eq (by rw [h 205 (by decide)]) (fun r a b => h r (by omega))⟩
/-- the fault that the reference tells -/
def zFm (S : Int → Int) (f q : Int) (μ : pm_Mem) : Prop := μ 205 29 = f ∧ μ 205 30 = S q
theorem zMs_k {T : Int → Int} {L : Int} {K S V : Int → Int} {n j : Int} {P : Nat → Int} {μ : pm_Mem} (hx : zMx T L K S V n P μ) (h : zMs K S V n P j μ) : (zKin (K j) ∧ j < n) ∨ (K j = 257 ∧ j = n) := by
  by_cases hj : j < n
  · exact Or.inl ⟨zLex_K hx.1 h.1.1 hj, hj⟩
  · have := h.1
    have e : j = n := by omega
    exact Or.inr ⟨by rw [e]; exact hx.1.2.2.2.1, e⟩
/-- the next token read -/
theorem zMs_rd {T : Int → Int} {L : Int} {K S V : Int → Int} {n j : Int} {P : Nat → Int} {μ μ' : pm_Mem} (hx : zMx T L K S V n P μ) (h : zMs K S V n P j μ) (hj : j < n) (hr : zRx μ μ') : zMs K S V n P (j + 1) μ' := by
  obtain ⟨⟨a, -⟩, -, -, d⟩ := h
  have e := zAt_rd hx.1 hx.2.1 hx.2.2 (j := (j + 1).toNat) (by omega) (d hj) hr
  obtain ⟨e1, e2, e3, e4⟩ := e
  rw [show (((j + 1).toNat : Nat) : Int) = j + 1 by omega] at e2 e3
  exact ⟨⟨by omega, by omega⟩, e2, e3, fun hlt => by rw [e4 (by omega), show (j + 1).toNat + 1 = (j + 1 + 1).toNat by omega]⟩
theorem zMs_0 {T : Int → Int} {L : Int} {K S V : Int → Int} {n : Int} {P : Nat → Int} {μ μ' : pm_Mem} (hx : zMx T L K S V n P μ) (h0 : μ 205 12 = 0) (hr : zRx μ μ') : zMs K S V n P 0 μ' := by
  have e := zAt_rd hx.1 hx.2.1 hx.2.2 (j := 0) (by have := hx.1.1; omega) (by rw [h0]; exact hx.1.2.1.1.symm) hr
  obtain ⟨e1, e2, e3, e4⟩ := e
  exact ⟨⟨Int.le_refl _, e1⟩, e2, e3, fun hlt => e4 hlt⟩
theorem zMs_sp {T : Int → Int} {L : Int} {K S V : Int → Int} {n j : Int} {P : Nat → Int} {μ : pm_Mem} (hx : zMx T L K S V n P μ) (h : zMs K S V n P j μ) (hj : j < n) : μ 205 12 ≤ μ 205 11 := by
  have hP := zTks_P hx.1.2.1 (j + 1).toNat (by have := h.1; omega)
  rw [h.2.2.2 hj, hx.2.2]
  exact hP.2 (by have := h.1; omega)
theorem zMs_of {K S V : Int → Int} {n j : Int} {P : Nat → Int} {μ μ' : pm_Mem} (h : zMs K S V n P j μ) (e : ∀ k : Int, k = 12 ∨ k = 13 ∨ k = 14 ∨ k = 15 → μ' 205 k = μ 205 k) : zMs K S V n P j μ' := by
  obtain ⟨a, b, c, d⟩ := h
  refine ⟨a, by rw [e 13 (by decide)]; exact b, by rw [e 14 (by decide), e 15 (by decide)]; exact c, fun hj => by rw [e 12 (by decide)]; exact d hj⟩
/-- steps between two shops: the fewest of several lines -/
def zsu (f : Int → Int) (i x : Int) : Int → Int := if f i = 0 ∨ x < f i then zpu f i x else f
def zst (A B N : Nat → Int) : Nat → Int → Int → Int
  | 0, _, _ => 0
  | t + 1, a, b => if (A t = a ∧ B t = b) ∨ (A t = b ∧ B t = a) then (if zst A B N t a b = 0 ∨ N t < zst A B N t a b then N t else zst A B N t a b) else zst A B N t a b
theorem zst_s (A B N : Nat → Int) (t : Nat) (a b : Int) : zst A B N (t + 1) a b = if (A t = a ∧ B t = b) ∨ (A t = b ∧ B t = a) then (if zst A B N t a b = 0 ∨ N t < zst A B N t a b then N t else zst A B N t a b) else zst A B N t a b := rfl
theorem zsu_at {f : Int → Int} {i x : Int} : zsu f i x i = if f i = 0 ∨ x < f i then x else f i := by
  unfold zsu
  split
  · exact zpu_eq
  · rfl
theorem zsu_ne {f : Int → Int} {i x k : Int} (h : k ≠ i) : zsu f i x k = f k := by
  unfold zsu
  split
  · exact zpu_ne h
  · rfl
theorem zst_add {A B N : Nat → Int} {f f' : Int → Int} {t : Nat} {x y n : Int} (hx : 0 ≤ x ∧ x ≤ 11) (hy : 0 ≤ y ∧ y ≤ 11) (hxy : x ≠ y) (h : ∀ a b : Int, 0 ≤ a → a ≤ 11 → 0 ≤ b → b ≤ 11 → f (144 + 12 * a + b) = zst A B N t a b) (e : f' = zsu (zsu f (144 + 12 * x + y) n) (144 + 12 * y + x) n) (eA : A t = x) (eB : B t = y) (eN : N t = n) : ∀ a b : Int, 0 ≤ a → a ≤ 11 → 0 ≤ b → b ≤ 11 → f' (144 + 12 * a + b) = zst A B N (t + 1) a b := fun a b a0 a1 b0 b1 => by
  rw [zst_s, e, eA, eB, eN]
  by_cases h1 : x = a ∧ y = b
  · obtain ⟨rfl, rfl⟩ := h1
    rw [if_pos (Or.inl ⟨rfl, rfl⟩), zsu_ne (by omega), zsu_at, h x y a0 a1 b0 b1]
  · by_cases h2 : x = b ∧ y = a
    · obtain ⟨rfl, rfl⟩ := h2
      rw [if_pos (Or.inr ⟨rfl, rfl⟩), zsu_at, zsu_ne (by omega), h y x a0 a1 b0 b1]
    · rw [if_neg (fun q => by rcases q with q | q; exact h1 q; exact h2 q), zsu_ne (by omega), zsu_ne (by omega)]
      exact h a b a0 a1 b0 b1
theorem zst_cg {A B N A' B' N' : Nat → Int} : ∀ {t : Nat}, (∀ s, s < t → A s = A' s ∧ B s = B' s ∧ N s = N' s) → ∀ a b, zst A B N t a b = zst A' B' N' t a b
  | 0, _, _, _ => rfl
  | t + 1, h, a, b => by
    obtain ⟨e1, e2, e3⟩ := h t (Nat.lt_succ_self t)
    rw [zst_s, zst_s, e1, e2, e3, zst_cg (t := t) (fun s hs => h s (Nat.lt_succ_of_lt hs)) a b]
/-- steps by ARCADE's lines, told by their tokens -/
def zsJ (V : Int → Int) (J : Nat → Int) (t : Nat) (a b : Int) : Int := zst (fun s => V (J s + 1)) (fun s => V (J s + 4)) (fun s => V (J s + 5)) t a b
def zsK (V : Int → Int) (J : Nat → Int) (t : Nat) (f : Int → Int) : Prop := ∀ a b : Int, 0 ≤ a → a ≤ 11 → 0 ≤ b → b ≤ 11 → f (144 + 12 * a + b) = zsJ V J t a b
theorem zsK_add {V : Int → Int} {J : Nat → Int} {t : Nat} {f f' : Int → Int} {p : Int} (h : zsK V J t f) (h1 : 0 ≤ V (J t + 1) ∧ V (J t + 1) ≤ 11) (h2 : 0 ≤ V (J t + 4) ∧ V (J t + 4) ≤ 11) (h3 : V (J t + 1) ≠ V (J t + 4)) (e : f' = zsu (zsu f (144 + 12 * V (J t + 1) + V (J t + 4)) (V (J t + 5))) (144 + 12 * V (J t + 4) + V (J t + 1)) (V (J t + 5))) : zsK V (zJu J (t + 1) p) (t + 1) f' := fun a b a0 a1 b0 b1 => by
  have k := zst_add (A := fun s => V (J s + 1)) (B := fun s => V (J s + 4)) (N := fun s => V (J s + 5)) h1 h2 h3 h e rfl rfl rfl a b a0 a1 b0 b1
  rw [k]
  exact zst_cg (fun s hs => by
    have ej : zJu J (t + 1) p s = J s := zJu_ne (by omega)
    show V (J s + 1) = V (zJu J (t + 1) p s + 1) ∧ V (J s + 4) = V (zJu J (t + 1) p s + 4) ∧ V (J s + 5) = V (zJu J (t + 1) p s + 5)
    rw [ej]
    exact ⟨rfl, rfl, rfl⟩) a b
/-- the reference reads ARCADE: at line i -/
def zQs (W : Int → Int → Int → Int → Prop) (ce : (Int → Int) → (Nat → Int) → Nat → pm_Mem → Prop) (T : Int → Int) (L : Int) (K S V : Int → Int) (n : Int) (P : Nat → Int) (μ0 : pm_Mem) (i : Int) (μ : pm_Mem) : Prop := zMf μ0 μ ∧ zMx T L K S V n P μ ∧ ∃ J, zCh W J i.toNat ∧ zMs K S V n P (J i.toNat) μ ∧ ce V J i.toNat μ
/-- the reference has read a text -/
def zQo (W : Int → Int → Int → Int → Prop) (ce : (Int → Int) → (Nat → Int) → Nat → pm_Mem → Prop) (K S V : Int → Int) (μ0 : pm_Mem) (x : Int) (μ : pm_Mem) : Prop := zMf μ0 μ ∧ ∃ J t f q, zTxo W K J t f q ∧ ((x = ((t : Nat) : Int) ∧ t ≤ 16 ∧ f = 0 ∧ ce V J t μ) ∨ (x = -1 ∧ f ≠ 0 ∧ zFm S f q μ))
def zcA (V : Int → Int) (J : Nat → Int) (t : Nat) (μ : pm_Mem) : Prop := zsK V J t (μ 223)
section ZQS
variable {W : Int → Int → Int → Int → Prop} {ce : (Int → Int) → (Nat → Int) → Nat → pm_Mem → Prop} {T : Int → Int} {L : Int} {K S V : Int → Int} {n : Int} {P : Nat → Int} {μ0 μ μ' : pm_Mem} {i : Int} {J : Nat → Int}
theorem zQo_e (hi : 0 ≤ i ∧ i ≤ 16) (hF : zMf μ0 μ) (hch : zCh W J i.toNat) (hK : K (J i.toNat) = 257) (hce : ce V J i.toNat μ) : zQo W ce K S V μ0 i μ := ⟨hF, J, i.toNat, 0, 0, ⟨hch, Or.inl ⟨rfl, hK⟩⟩, Or.inl ⟨by omega, by omega, rfl, hce⟩⟩
theorem zQo_f {f q : Int} (hi : 0 ≤ i) (hF : zMf μ0 μ') (hch : zCh W J i.toNat) (hK : K (J i.toNat) ≠ 257) (hf : f ≠ 0) (hL : W i (J i.toNat) f q) (hm : zFm S f q μ') : zQo W ce K S V μ0 (-1) μ' := ⟨hF, J, i.toNat, f, q, ⟨hch, Or.inr ⟨hf, hK, by rw [show ((i.toNat : Nat) : Int) = i by omega]; exact hL⟩⟩, Or.inr ⟨rfl, hf, hm⟩⟩
theorem zQs_ok {q : Int} (hi : 0 ≤ i) (hF : zMf μ0 μ') (hx : zMx T L K S V n P μ') (hch : zCh W J i.toNat) (hL : W i (J i.toNat) 0 q) (hm : zMs K S V n P q μ') (hce : ce V (zJu J (i.toNat + 1) q) (i.toNat + 1) μ') : zQs W ce T L K S V n P μ0 (i + 1) μ' := by
  have e : (i + 1).toNat = i.toNat + 1 := by omega
  refine ⟨hF, hx, zJu J (i.toNat + 1) q, ?_, ?_, ?_⟩
  · rw [e]
    exact zCh_add hch (by rw [show ((i.toNat : Nat) : Int) = i by omega]; exact hL)
  · rw [e, zJu_eq]
    exact hm
  · rw [e]
    exact hce
end ZQS
/-! ROUNDS and CALENDAR of the reference: rows written beside the kept ones -/
theorem zMf_221 {μ0 μ : pm_Mem} {k x : Int} (h : zMf μ0 μ) (hk : 48 ≤ k) : zMf μ0 (pm_up μ 221 k x) := ⟨fun r a b c d e f g i j k2 l => by rw [pm_up_row j]; exact h.1 r a b c d e f g i j k2 l, fun y a b c d e f g i j => by rw [pm_up_off (by decide)]; exact h.2.1 y a b c d e f g i j, fun i hi => by rw [pm_up_off (by decide)]; exact h.2.2.1 i hi, fun i hi => by rw [pm_up_ne (by omega)]; exact h.2.2.2.1 i hi, fun i hi => by rw [pm_up_off (by decide)]; exact h.2.2.2.2.1 i hi, zMz_tr h.2.2.2.2.2 (zMz_eq (by rw [pm_up_off (by decide)]) (fun r a b => pm_up_row (by omega)))⟩
theorem zMf_222 {μ0 μ : pm_Mem} {k x : Int} (h : zMf μ0 μ) (hk : 64 ≤ k) : zMf μ0 (pm_up μ 222 k x) := ⟨fun r a b c d e f g i j k2 l => by rw [pm_up_row k2]; exact h.1 r a b c d e f g i j k2 l, fun y a b c d e f g i j => by rw [pm_up_off (by decide)]; exact h.2.1 y a b c d e f g i j, fun i hi => by rw [pm_up_off (by decide)]; exact h.2.2.1 i hi, fun i hi => by rw [pm_up_off (by decide)]; exact h.2.2.2.1 i hi, fun i hi => by rw [pm_up_ne (by omega)]; exact h.2.2.2.2.1 i hi, zMz_tr h.2.2.2.2.2 (zMz_eq (by rw [pm_up_off (by decide)]) (fun r a b => pm_up_row (by omega)))⟩
theorem zMx_up {T : Int → Int} {L : Int} {K S V : Int → Int} {n : Int} {P : Nat → Int} {r : Nat} {k x : Int} {μ : pm_Mem} (h : zMx T L K S V n P μ) (h1 : r ≠ 205) (h2 : r ≠ 211) : zMx T L K S V n P (pm_up μ r k x) := ⟨h.1, fun y y0 y1 => by rw [pm_up_row (Ne.symm h2)]; exact h.2.1 y y0 y1, by rw [pm_up_row (Ne.symm h1)]; exact h.2.2⟩
theorem zMs_up {K S V : Int → Int} {n j : Int} {P : Nat → Int} {r : Nat} {k x : Int} {μ : pm_Mem} (h : zMs K S V n P j μ) (h1 : r ≠ 205) : zMs K S V n P j (pm_up μ r k x) := zMs_of h (fun _ _ => by rw [pm_up_row (Ne.symm h1)])
theorem zFm_up {S : Int → Int} {f q : Int} {r : Nat} {k x : Int} {μ : pm_Mem} (h : zFm S f q μ) (h1 : r ≠ 205) : zFm S f q (pm_up μ r k x) := ⟨by rw [pm_up_row (Ne.symm h1)]; exact h.1, by rw [pm_up_row (Ne.symm h1)]; exact h.2⟩
/-- ROUNDS, as they are read -/
def zcT (K V : Int → Int) (J : Nat → Int) (t : Nat) (μ : pm_Mem) : Prop := ∀ s : Nat, s < t → μ 221 (48 + 3 * (s : Int)) = V (J s + 1) ∧ μ 221 (48 + 3 * (s : Int) + 1) = V (J s + 3) ∧ μ 221 (48 + 3 * (s : Int) + 2) = if K (J s + 4) = 321 then 0 else V (J s + 5) + 1
theorem zcT_add {K V : Int → Int} {J : Nat → Int} {t : Nat} {q : Int} {μ μ' : pm_Mem} {i : Int} (hi : (t : Int) = i) (h : zcT K V J t μ) (hA : ∀ y, y < 48 + 3 * i → μ' 221 y = μ 221 y) (hD : μ' 221 (48 + 3 * i) = V (J t + 1) ∧ μ' 221 (48 + 3 * i + 1) = V (J t + 3) ∧ μ' 221 (48 + 3 * i + 2) = if K (J t + 4) = 321 then 0 else V (J t + 5) + 1) : zcT K V (zJu J (t + 1) q) (t + 1) μ' := by
  subst hi
  intro s hs
  rw [zJu_ne (by omega)]
  by_cases h1 : s < t
  · obtain ⟨a, b, c⟩ := h s h1
    rw [hA _ (by omega), hA _ (by omega), hA _ (by omega)]
    exact ⟨a, b, c⟩
  · obtain rfl : s = t := by omega
    exact hD
/-- CALENDAR, as it is read -/
def zkd (o c : Int) : Prop := (o = 0 ∧ c = 323) ∨ (o = 1 ∧ c = 306) ∨ (o = 2 ∧ c = 324) ∨ (o = 3 ∧ c = 325)
def zcD (K V : Int → Int) (J : Nat → Int) (t : Nat) (μ : pm_Mem) : Prop := zDr μ (t : Int) ∧ ∀ s : Nat, s < t → μ 222 (64 + 4 * (s : Int)) = V (J s + 1) ∧ zkd (μ 222 (64 + 4 * (s : Int) + 1)) (K (J s + 2)) ∧ μ 222 (64 + 4 * (s : Int) + 2) = V (J s + 3) ∧ μ 222 (64 + 4 * (s : Int) + 3) = V (J s + 4)
theorem zcD_add {K V : Int → Int} {J : Nat → Int} {t : Nat} {q : Int} {μ μ' : pm_Mem} {i : Int} (hi : (t : Int) = i) (h : zcD K V J t μ) (hA : ∀ y, y < 64 + 4 * i → μ' 222 y = μ 222 y) (hD : zDeed (μ' 222 (64 + 4 * i + 1)) (μ' 222 (64 + 4 * i + 2)) (μ' 222 (64 + 4 * i + 3)) ∧ μ' 222 (64 + 4 * i) = V (J t + 1) ∧ zkd (μ' 222 (64 + 4 * i + 1)) (K (J t + 2)) ∧ μ' 222 (64 + 4 * i + 2) = V (J t + 3) ∧ μ' 222 (64 + 4 * i + 3) = V (J t + 4)) : zcD K V (zJu J (t + 1) q) (t + 1) μ' := by
  subst hi
  obtain ⟨h, hv⟩ := h
  refine ⟨?_, fun s hs => ?_⟩
  · have := zDr_step h hA hD.1
    rw [show ((t + 1 : Nat) : Int) = (t : Int) + 1 by omega]
    exact this
  · rw [zJu_ne (by omega)]
    by_cases h1 : s < t
    · obtain ⟨a, b, c, d⟩ := hv s h1
      rw [hA _ (by omega), hA _ (by omega), hA _ (by omega), hA _ (by omega)]
      exact ⟨a, b, c, d⟩
    · obtain rfl : s = t := by omega
      exact hD.2
