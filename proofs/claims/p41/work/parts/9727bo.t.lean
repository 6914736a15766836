/-! THE LAW as the reference reads it: a part by a number takes two steps; what waits -/
def zXq (x : zIw) : List zIw := if x.1 = 5 then [(0, x.2), (5, 0)] else [x]
def zXp : List zIw → List zIw
  | [] => []
  | x :: L => zXq x ++ zXp L
theorem zXp_c (x : zIw) (L : List zIw) : zXp (x :: L) = zXq x ++ zXp L := rfl
theorem zXp_a (L M : List zIw) : zXp (L ++ M) = zXp L ++ zXp M := by
  induction L with
  | nil => rfl
  | cons x L ih => rw [List.cons_append, zXp_c, zXp_c, ih, List.append_assoc]
theorem zXq_n {x : zIw} (h : x.1 ≠ 5) : zXq x = [x] := if_neg h
theorem zXq_5 (v : Int) : zXq (5, v) = [(0, v), (5, 0)] := if_pos rfl
theorem zXp_1 {x : zIw} (h : x.1 ≠ 5) : zXp [x] = [x] := by rw [zXp_c, zXq_n h]; rfl
theorem zXp_5 (v : Int) (L : List zIw) : zXp ((5, v) :: L) = (0, v) :: (5, 0) :: zXp L := by rw [zXp_c, zXq_5]; rfl
theorem zXp_n {x : zIw} (L : List zIw) (h : x.1 ≠ 5) : zXp (x :: L) = x :: zXp L := by rw [zXp_c, zXq_n h]; rfl
theorem zUc_n (K V : Int → Int) (j : Int) : (zUc K V j).1 ≠ 5 := by
  unfold zUc
  split
  · show (0 : Int) ≠ 5; decide
  · show (1 : Int) ≠ 5; decide
/-- steps laid down there -/
def zSr (A B : Int → Int) (a : Int) (L : List zIw) : Prop := ∀ (i : Nat) (x : zIw), L[i]? = some x → A (a + i) = x.1 ∧ B (a + i) = x.2
theorem zSr_nil {A B : Int → Int} {a : Int} : zSr A B a [] := fun i x h => by simp at h
theorem zSr_app {A B : Int → Int} {a : Int} {L M : List zIw} (h : zSr A B a L) (h' : zSr A B (a + (L.length : Int)) M) : zSr A B a (L ++ M) := fun i x hx => by
  by_cases hi : i < L.length
  · rw [List.getElem?_append_left hi] at hx
    exact h i x hx
  · rw [List.getElem?_append_right (by omega)] at hx
    have := h' (i - L.length) x hx
    rw [show a + (L.length : Int) + ((i - L.length : Nat) : Int) = a + i by omega] at this
    exact this
theorem zSr_l {A B : Int → Int} {a : Int} {L M : List zIw} (h : zSr A B a (L ++ M)) : zSr A B a L := fun i x hx => h i x (by
  have hi : i < L.length := (List.getElem?_eq_some_iff.mp hx).1
  rw [List.getElem?_append_left hi]; exact hx)
theorem zSr_r {A B : Int → Int} {a : Int} {L M : List zIw} (h : zSr A B a (L ++ M)) : zSr A B (a + (L.length : Int)) M := fun i x hx => by
  have := h (L.length + i) x (by rw [List.getElem?_append_right (by omega), show L.length + i - L.length = i by omega]; exact hx)
  rw [show a + ((L.length + i : Nat) : Int) = a + (L.length : Int) + i by omega] at this
  exact this
theorem zSr_cg {A B A' B' : Int → Int} {a : Int} {L : List zIw} (h : zSr A B a L) (e : ∀ i : Int, a ≤ i → i < a + (L.length : Int) → A' i = A i ∧ B' i = B i) : zSr A' B' a L := fun i x hx => by
  have hi : i < L.length := (List.getElem?_eq_some_iff.mp hx).1
  obtain ⟨e1, e2⟩ := e (a + i) (by omega) (by omega)
  rw [e1, e2]
  exact h i x hx
theorem zSr_one {A B : Int → Int} {a : Int} {x : zIw} (h1 : A a = x.1) (h2 : B a = x.2) : zSr A B a [x] := fun i y hy => by
  cases i with
  | zero =>
    have hy : x = y := by simpa using hy
    subst hy
    rw [show a + ((0 : Nat) : Int) = a by omega]
    exact ⟨h1, h2⟩
  | succ i => simp at hy
/-- the reference has laid down L behind what was there -/
def zRe (μ0 μ : pm_Mem) (L : List zIw) : Prop := zSr (μ 218) (μ 219) (800 + μ0 205 25) L ∧ μ 205 25 = μ0 205 25 + (L.length : Int) ∧ ∀ i : Int, i < 800 + μ0 205 25 → μ 218 i = μ0 218 i ∧ μ 219 i = μ0 219 i
theorem zRe_0 {μ : pm_Mem} : zRe μ μ [] := ⟨zSr_nil, by simp, fun _ _ => ⟨rfl, rfl⟩⟩
theorem zRe_tr {μ0 μ μ' : pm_Mem} {L M : List zIw} (h : zRe μ0 μ L) (h' : zRe μ μ' M) : zRe μ0 μ' (L ++ M) := by
  obtain ⟨a, b, c⟩ := h
  obtain ⟨a', b', c'⟩ := h'
  refine ⟨zSr_app (zSr_cg a (fun i _ i1 => c' i (by omega))) ?_, by rw [b', b, List.length_append]; omega, fun i hi => ?_⟩
  · rw [show 800 + μ0 205 25 + (L.length : Int) = 800 + μ 205 25 by omega]; exact a'
  · obtain ⟨p1, p2⟩ := c i hi
    obtain ⟨q1, q2⟩ := c' i (by omega)
    exact ⟨q1.trans p1, q2.trans p2⟩
theorem zRe_fr {μ0 μ μ' : pm_Mem} {L : List zIw} (h : zRe μ0 μ L) (e1 : μ' 218 = μ 218) (e2 : μ' 219 = μ 219) (e3 : μ' 205 25 = μ 205 25) : zRe μ0 μ' L := ⟨by rw [e1, e2]; exact h.1, by rw [e3]; exact h.2.1, fun i hi => by rw [e1, e2]; exact h.2.2 i hi⟩
theorem zRe_to {μ0 μ1 μ' : pm_Mem} {L : List zIw} (h : zRe μ1 μ' L) (e1 : μ1 218 = μ0 218) (e2 : μ1 219 = μ0 219) (e3 : μ1 205 25 = μ0 205 25) : zRe μ0 μ' L := ⟨by rw [← e3]; exact h.1, by rw [← e3]; exact h.2.1, fun i hi => by rw [← e1, ← e2]; exact h.2.2 i (by omega)⟩
theorem zRe_e {μ μ' : pm_Mem} {o v : Int} (h : zE1 μ μ' o v) : zRe μ μ' [(o, v)] ∧ μ' 205 25 = μ 205 25 + 1 := by
  obtain ⟨h1, h2, h3, h4, h5, -, -⟩ := h
  exact ⟨⟨zSr_one h2 h3, h1, fun i hi => ⟨h4 i (by omega), h5 i (by omega)⟩⟩, h1⟩
theorem zRe_x {μ μ' : pm_Mem} {o o' v v' : Int} (h : zRe μ μ' [(o, v)]) (e : o = o') (f : v = v') : zRe μ μ' [(o', v')] := by rw [← e, ← f]; exact h
theorem zRe_uc {μ μ' : pm_Mem} {K V : Int → Int} {j o v : Int} (h : zRe μ μ' [(o, v)]) (e : (K j = 256 ∧ o = 0 ∧ v = V j) ∨ (K j ≠ 256 ∧ o = 1 ∧ v = K j - 303)) : zRe μ μ' [zUc K V j] := by
  unfold zUc
  rcases e with ⟨a, b, c⟩ | ⟨a, b, c⟩
  · rw [if_pos a, ← b, ← c]; exact h
  · rw [if_neg a, ← b, ← c]; exact h
/-- what the reading of a sum leaves alone -/
def zMq (μ μ' : pm_Mem) : Prop := (∀ r, r ≠ 205 → r ≠ 218 → r ≠ 219 → μ' r = μ r) ∧ (∀ k : Int, k ≠ 12 → k ≠ 13 → k ≠ 14 → k ≠ 15 → k ≠ 25 → k ≠ 29 → k ≠ 30 → μ' 205 k = μ 205 k) ∧ zMz μ μ'
theorem zMq_0 {μ : pm_Mem} : zMq μ μ := ⟨fun _ _ _ _ => rfl, fun _ _ _ _ _ _ _ _ => rfl, zMz_0⟩
theorem zMq_tr {μ μ1 μ2 : pm_Mem} (h : zMq μ μ1) (h' : zMq μ1 μ2) : zMq μ μ2 := ⟨fun r a b c => (h'.1 r a b c).trans (h.1 r a b c), fun k a b c d e f g => (h'.2.1 k a b c d e f g).trans (h.2.1 k a b c d e f g), zMz_tr h.2.2 h'.2.2⟩
theorem zMq_r {μ μ' : pm_Mem} (h : zMr μ μ') : zMq μ μ' := ⟨fun r a _ _ => h.1 r a, fun k a b c d _ f g => h.2 k a b c d f g, zMz_eq (h.2 25 (by decide) (by decide) (by decide) (by decide) (by decide) (by decide)) (fun r a b => h.1 r (by omega))⟩
theorem zMq_e {μ μ' : pm_Mem} {o v : Int} (h : zE1 μ μ' o v) : zMq μ μ' := ⟨h.2.2.2.2.2.1, fun k _ _ _ _ e _ _ => h.2.2.2.2.2.2 k e, fun h0 => ⟨by rw [h.1]; omega, fun i _ => ⟨by rw [h.2.2.2.2.2.1 214 (by decide) (by decide) (by decide)], by rw [h.2.2.2.2.2.1 215 (by decide) (by decide) (by decide)], by rw [h.2.2.2.2.2.1 216 (by decide) (by decide) (by decide)], by rw [h.2.2.2.2.2.1 217 (by decide) (by decide) (by decide)]⟩, fun i hi => ⟨h.2.2.2.1 i (by omega), h.2.2.2.2.1 i (by omega)⟩⟩⟩
theorem zMf_q {μ μ' : pm_Mem} (h : zMq μ μ') : zMf μ μ' := ⟨fun r a b c _ _ _ _ _ _ _ _ => h.1 r a b c, fun k a b c d e _ _ f g => h.2.1 k a b c d e f g, fun i _ => by rw [h.1 223 (by decide) (by decide) (by decide)], fun i _ => by rw [h.1 221 (by decide) (by decide) (by decide)], fun i _ => by rw [h.1 222 (by decide) (by decide) (by decide)], h.2.2⟩
theorem zMs_q {K S V : Int → Int} {n j : Int} {P : Nat → Int} {μ μ' : pm_Mem} {o v : Int} (h : zMs K S V n P j μ) (he : zE1 μ μ' o v) : zMs K S V n P j μ' := zMs_of h (fun k hk => he.2.2.2.2.2.2 k (by omega))
/-! what waits, from its top on -/
def zPl_TT (R : Int → Int) : Nat → List Int
  | 0 => []
  | n + 1 => R (n : Int) :: zPl_TT R n
theorem zPl_s (R : Int → Int) (n : Nat) : zPl_TT R (n + 1) = R (n : Int) :: zPl_TT R n := rfl
theorem zPl_cg {R R' : Int → Int} : ∀ {n : Nat}, (∀ i : Int, 0 ≤ i → i < (n : Int) → R' i = R i) → zPl_TT R' n = zPl_TT R n
  | 0, _ => rfl
  | n + 1, h => by rw [zPl_s, zPl_s, h n (by omega) (by omega), zPl_cg (fun i i0 i1 => h i i0 (by omega))]
/-- how it may stand: of a level the or (1), an and above (2), nots and what is open (3) -/
def zSk : List Int → Nat → Prop
  | [], _ => True
  | x :: P, r => (x = 12 ∧ zSk P 3) ∨ (x = 11 ∧ 1 ≤ r ∧ zSk P 0) ∨ (x = 10 ∧ 2 ≤ r ∧ zSk P 1) ∨ (x = 9 ∧ 3 ≤ r ∧ zSk P 3)
theorem zSk_c (x : Int) (P : List Int) (r : Nat) : zSk (x :: P) r = ((x = 12 ∧ zSk P 3) ∨ (x = 11 ∧ 1 ≤ r ∧ zSk P 0) ∨ (x = 10 ∧ 2 ≤ r ∧ zSk P 1) ∨ (x = 9 ∧ 3 ≤ r ∧ zSk P 3)) := rfl
/-- how many are open, how many of these are brackets -/
def zOn : List Int → Int
  | [] => 0
  | x :: P => zOn P + if x = 9 ∨ x = 12 then 1 else 0
def zBn : List Int → Int
  | [] => 0
  | x :: P => zBn P + if x = 12 then 1 else 0
theorem zOn_c (x : Int) (P : List Int) : zOn (x :: P) = zOn P + if x = 9 ∨ x = 12 then 1 else 0 := rfl
theorem zBn_c (x : Int) (P : List Int) : zBn (x :: P) = zBn P + if x = 12 then 1 else 0 := rfl
theorem zOB (P : List Int) : 0 ≤ zBn P ∧ zBn P ≤ zOn P := by
  induction P with
  | nil => exact ⟨Int.le_refl _, Int.le_refl _⟩
  | cons x P ih =>
    rw [zOn_c, zBn_c]
    by_cases h : x = 12
    · rw [if_pos (Or.inr h), if_pos h]; omega
    · rw [if_neg h]
      split <;> omega
theorem zSk_len : ∀ {P : List Int} {r : Nat}, zSk P r → r ≤ 3 → (P.length : Int) ≤ 3 * zOn P + (if r = 0 then 0 else if r = 1 then 1 else 2)
  | [], r, _, _ => by
    show (0 : Int) ≤ 3 * 0 + _
    split
    · omega
    · split <;> omega
  | x :: P, r, h, hr => by
    rw [zSk_c] at h
    rw [zOn_c, List.length_cons]
    rcases h with ⟨h1, h3⟩ | ⟨h1, h2, h3⟩ | ⟨h1, h2, h3⟩ | ⟨h1, h2, h3⟩
    · have := zSk_len h3 (by decide)
      rw [if_neg (by decide), if_neg (by decide)] at this
      rw [if_pos (Or.inr h1)]
      have : (0 : Int) ≤ (if r = 0 then 0 else if r = 1 then 1 else 2) := by split; omega; split <;> omega
      omega
    · have := zSk_len h3 (by decide)
      rw [if_pos rfl] at this
      rw [if_neg (by omega)]
      have : (1 : Int) ≤ (if r = 0 then 0 else if r = 1 then 1 else 2) := by rw [if_neg (by omega)]; split <;> omega
      omega
    · have := zSk_len h3 (by decide)
      rw [if_neg (by decide), if_pos rfl] at this
      rw [if_neg (by omega)]
      have : (2 : Int) ≤ (if r = 0 then 0 else if r = 1 then 1 else 2) := by rw [if_neg (by omega), if_neg (by omega)]; omega
      omega
    · have := zSk_len h3 (by decide)
      rw [if_neg (by decide), if_neg (by decide)] at this
      rw [if_pos (Or.inl h1)]
      have : (2 : Int) ≤ (if r = 0 then 0 else if r = 1 then 1 else 2) := by rw [if_neg (by omega), if_neg (by omega)]; omega
      omega
theorem zSk_26 {P : List Int} {r : Nat} (h : zSk P r) (hr : r ≤ 3) (ho : zOn P ≤ 8) : P.length ≤ 26 := by
  have := zSk_len h hr
  have : (if r = 0 then (0 : Int) else if r = 1 then 1 else 2) ≤ 2 := by split; omega; split <;> omega
  omega
/-- k times the same -/
def zTm (x : Int) : Nat → List Int → List Int
  | 0, P => P
  | k + 1, P => x :: zTm x k P
def zTz (o : Int) : Nat → List zIw
  | 0 => []
  | k + 1 => (o, 0) :: zTz o k
theorem zTm_s (x : Int) (k : Nat) (P : List Int) : zTm x (k + 1) P = x :: zTm x k P := rfl
theorem zTz_s (o : Int) (k : Nat) : zTz o (k + 1) = (o, 0) :: zTz o k := rfl
theorem zTm_r (x : Int) : ∀ (k : Nat) (P : List Int), zTm x k (x :: P) = zTm x (k + 1) P
  | 0, _ => rfl
  | k + 1, P => by rw [zTm_s, zTm_r x k P, zTm_s x (k + 1)]
theorem zTz_r (o : Int) : ∀ k : Nat, zTz o k ++ [(o, 0)] = zTz o (k + 1)
  | 0 => rfl
  | k + 1 => by rw [zTz_s, List.cons_append, zTz_r o k, zTz_s o (k + 1)]
theorem zTz_len (o : Int) : ∀ k : Nat, (zTz o k).length = k
  | 0 => rfl
  | k + 1 => by rw [zTz_s, List.length_cons, zTz_len o k]
/-! what the reading of conditions comes to from a place on: a condition is due (1) or not (0) -/
def zRn1 (K V : Int → Int) : Nat → Nat → List Int → Int → Int → Int → Int → List zIw → Prop
  | 0, _, _, _, _, _, _, _ => False
  | m + 1, 0, P, o, p, f, q, L => match P with
    | [] => (K p = 316 ∧ zRn1 K V m 1 [10] o (p + 1) f q L) ∨ (K p = 315 ∧ zRn1 K V m 1 [11] o (p + 1) f q L) ∨ (K p ≠ 315 ∧ K p ≠ 316 ∧ f = 0 ∧ q = p ∧ L = [])
    | x :: P' => (x = 9 ∧ ∃ L', zRn1 K V m 0 P' (o - 1) p f q L' ∧ L = (9, 0) :: L') ∨ (x = 10 ∧ ∃ L', zRn1 K V m 0 P' o p f q L' ∧ L = (10, 0) :: L') ∨ (x = 11 ∧ ((K p = 316 ∧ zRn1 K V m 1 (10 :: 11 :: P') o (p + 1) f q L) ∨ (K p = 315 ∧ ∃ L', zRn1 K V m 1 (11 :: P') o (p + 1) f q L' ∧ L = (11, 0) :: L') ∨ (K p ≠ 315 ∧ K p ≠ 316 ∧ ∃ L', zRn1 K V m 0 P' o p f q L' ∧ L = (11, 0) :: L'))) ∨ (x = 12 ∧ ((K p = 316 ∧ zRn1 K V m 1 (10 :: 12 :: P') o (p + 1) f q L) ∨ (K p = 315 ∧ zRn1 K V m 1 (11 :: 12 :: P') o (p + 1) f q L) ∨ (K p ≠ 315 ∧ K p ≠ 316 ∧ ((K p ≠ 41 ∧ f = 1 ∧ q = p) ∨ (K p = 41 ∧ zRn1 K V m 0 P' (o - 1) (p + 1) f q L)))))
  | m + 1, _ + 1, P, o, j, f, q, L => ∃ g p L1, zBx K V 0 o (-1) j g p L1 ∧ ((g ≠ 0 ∧ f = g ∧ q = p) ∨ (g = 0 ∧ ∃ L2, zRn1 K V m 0 P o p f q L2 ∧ L = L1 ++ L2))
section ZRN
variable {K V : Int → Int} {m : Nat} {P : List Int} {o j p f q : Int} {L : List zIw}
theorem zRn1_1 : zRn1 K V (m + 1) 1 P o j f q L = (∃ g p L1, zBx K V 0 o (-1) j g p L1 ∧ ((g ≠ 0 ∧ f = g ∧ q = p) ∨ (g = 0 ∧ ∃ L2, zRn1 K V m 0 P o p f q L2 ∧ L = L1 ++ L2))) := rfl
theorem zRn1_e : zRn1 K V (m + 1) 0 [] o p f q L = ((K p = 316 ∧ zRn1 K V m 1 [10] o (p + 1) f q L) ∨ (K p = 315 ∧ zRn1 K V m 1 [11] o (p + 1) f q L) ∨ (K p ≠ 315 ∧ K p ≠ 316 ∧ f = 0 ∧ q = p ∧ L = [])) := rfl
theorem zRn1_c {x : Int} : zRn1 K V (m + 1) 0 (x :: P) o p f q L = ((x = 9 ∧ ∃ L', zRn1 K V m 0 P (o - 1) p f q L' ∧ L = (9, 0) :: L') ∨ (x = 10 ∧ ∃ L', zRn1 K V m 0 P o p f q L' ∧ L = (10, 0) :: L') ∨ (x = 11 ∧ ((K p = 316 ∧ zRn1 K V m 1 (10 :: 11 :: P) o (p + 1) f q L) ∨ (K p = 315 ∧ ∃ L', zRn1 K V m 1 (11 :: P) o (p + 1) f q L' ∧ L = (11, 0) :: L') ∨ (K p ≠ 315 ∧ K p ≠ 316 ∧ ∃ L', zRn1 K V m 0 P o p f q L' ∧ L = (11, 0) :: L'))) ∨ (x = 12 ∧ ((K p = 316 ∧ zRn1 K V m 1 (10 :: 12 :: P) o (p + 1) f q L) ∨ (K p = 315 ∧ zRn1 K V m 1 (11 :: 12 :: P) o (p + 1) f q L) ∨ (K p ≠ 315 ∧ K p ≠ 316 ∧ ((K p ≠ 41 ∧ f = 1 ∧ q = p) ∨ (K p = 41 ∧ zRn1 K V m 0 P (o - 1) (p + 1) f q L)))))) := rfl
end ZRN
/-- where a level begins: nothing, or a bracket -/
def zBsp (P : List Int) : Prop := P = [] ∨ ∃ P', P = 12 :: P'
def zWs (w : Int) (P : List Int) : List Int := if w = -1 then P else w :: P
theorem zWs_n (P : List Int) : zWs (-1) P = P := rfl
theorem zWs_11 (P : List Int) : zWs 11 P = 11 :: P := rfl
/-- with nothing but the level's or waiting: the next sign -/
theorem zRn1_w {K V : Int → Int} {m : Nat} {P : List Int} {w o p f q : Int} {L : List zIw} (hP : zBsp P) (hw : w = -1 ∨ w = 11) (h : zRn1 K V (m + 1) 0 (zWs w P) o p f q L) : (K p = 316 ∧ zRn1 K V m 1 (10 :: zWs w P) o (p + 1) f q L) ∨ (K p = 315 ∧ ∃ L', zRn1 K V m 1 (11 :: P) o (p + 1) f q L' ∧ L = zWl w ++ L') ∨ (K p ≠ 315 ∧ K p ≠ 316 ∧ ∃ m' L', zRn1 K V m' 0 P o p f q L' ∧ L = zWl w ++ L') := by
  rcases hw with rfl | rfl
  · rw [zWs_n] at h ⊢
    rcases hP with rfl | ⟨P', rfl⟩
    · have h0 := h
      rw [zRn1_e] at h
      rcases h with h | ⟨h1, h2⟩ | ⟨h1, h2, -⟩
      · exact Or.inl h
      · exact Or.inr (Or.inl ⟨h1, L, h2, rfl⟩)
      · exact Or.inr (Or.inr ⟨h1, h2, _, L, h0, rfl⟩)
    · have h0 := h
      rw [zRn1_c] at h
      rcases h with ⟨h, -⟩ | ⟨h, -⟩ | ⟨h, -⟩ | ⟨-, h⟩
      · omega
      · omega
      · omega
      · rcases h with h | ⟨h1, h2⟩ | ⟨h1, h2, -⟩
        · exact Or.inl h
        · exact Or.inr (Or.inl ⟨h1, L, h2, rfl⟩)
        · exact Or.inr (Or.inr ⟨h1, h2, _, L, h0, rfl⟩)
  · rw [zWs_11] at h ⊢
    rw [zRn1_c] at h
    rcases h with ⟨h, -⟩ | ⟨h, -⟩ | ⟨-, h⟩ | ⟨h, -⟩
    · omega
    · omega
    · rcases h with h | ⟨h1, L', h2, h3⟩ | ⟨h1, h2, L', h3, h4⟩
      · exact Or.inl h
      · exact Or.inr (Or.inl ⟨h1, L', h2, h3⟩)
      · exact Or.inr (Or.inr ⟨h1, h2, m, L', h3, h4⟩)
    · omega
/-- a level's way: as the class reads what comes behind a condition -/
theorem zRn1_lv {K V : Int → Int} : ∀ (m : Nat) {P : List Int} {w o p f q : Int} {L : List zIw}, zBsp P → w = -1 ∨ w = 11 → zRn1 K V m 0 (zWs w P) o p f q L → ∃ g p2 L2, zBx K V 2 o w p g p2 L2 ∧ ((g ≠ 0 ∧ f = g ∧ q = p2) ∨ (g = 0 ∧ K p2 ≠ 315 ∧ K p2 ≠ 316 ∧ ∃ m' L3, zRn1 K V m' 0 P o p2 f q L3 ∧ L = L2 ++ L3)) := fun m => by
  induction m using Nat.strongRecOn with
  | ind m ih =>
    intro P w o p f q L hP hw h
    cases m with
    | zero => exact h.elim
    | succ m =>
      rcases zRn1_w hP hw h with ⟨h1, h2⟩ | ⟨h1, L', h2, h3⟩ | ⟨h1, h2, m', L', h3, h4⟩
      · cases m with
        | zero => exact h2.elim
        | succ m =>
          rw [zRn1_1] at h2
          obtain ⟨g, p1, L1, c1, c2⟩ := h2
          rcases c2 with ⟨g1, rfl, rfl⟩ | ⟨rfl, L2, c2, e2⟩
          · exact ⟨f, q, [], zBx_2f (Or.inr h1) c1 g1, Or.inl ⟨g1, rfl, rfl⟩⟩
          · cases m with
            | zero => exact c2.elim
            | succ m =>
              rw [zRn1_c] at c2
              rcases c2 with ⟨c, -⟩ | ⟨-, L4, c3, e4⟩ | ⟨c, -⟩ | ⟨c, -⟩
              · omega
              · obtain ⟨g, p2, L5, d1, d2⟩ := ih m (by omega) hP hw c3
                refine ⟨g, p2, _, zBx_2a h1 c1 d1, ?_⟩
                rcases d2 with d2 | ⟨d2, d3, d4, m', L6, d5, d6⟩
                · exact Or.inl d2
                · exact Or.inr ⟨d2, d3, d4, m', L6, d5, by rw [e2, e4, d6]; simp⟩
              · omega
              · omega
      · cases m with
        | zero => exact h2.elim
        | succ m =>
          rw [zRn1_1] at h2
          obtain ⟨g, p1, L1, c1, c2⟩ := h2
          rcases c2 with ⟨g1, rfl, rfl⟩ | ⟨rfl, L2, c2, e2⟩
          · exact ⟨f, q, [], zBx_2f (Or.inl h1) c1 g1, Or.inl ⟨g1, rfl, rfl⟩⟩
          · obtain ⟨g, p2, L5, d1, d2⟩ := ih m (by omega) hP (w := 11) (Or.inr rfl) c2
            refine ⟨g, p2, _, zBx_2o h1 c1 d1, ?_⟩
            rcases d2 with d2 | ⟨d2, d3, d4, m', L6, d5, d6⟩
            · exact Or.inl d2
            · exact Or.inr ⟨d2, d3, d4, m', L6, d5, by rw [h3, e2, d6]; simp⟩
      · exact ⟨0, p, _, zBx_2e h1 h2, Or.inr ⟨rfl, h1, h2, m', L', h3, h4⟩⟩
def zRx1 (K V : Int → Int) (t : Nat) (P : List Int) (o j f q : Int) (L : List zIw) : Prop := ∃ m, zRn1 K V m t P o j f q L
section ZRX
variable {K V : Int → Int} {P : List Int} {o j p f q g : Int} {L L' L1 L2 : List zIw}
theorem zRx1_s (h : zBx K V 0 o (-1) j 0 p L1) (h' : zRx1 K V 0 P o p f q L2) : zRx1 K V 1 P o j f q (L1 ++ L2) := by
  obtain ⟨m, h'⟩ := h'
  exact ⟨m + 1, 0, p, L1, h, Or.inr ⟨rfl, L2, h', rfl⟩⟩
theorem zRx1_f (h : zBx K V 0 o (-1) j f q L1) (hf : f ≠ 0) : zRx1 K V 1 P o j f q L := ⟨1, f, q, L1, h, Or.inl ⟨hf, rfl, rfl⟩⟩
/-- a not -/
theorem zRx1_n (hk : K j = 317) (ho : o < 8) (h : zRx1 K V 1 (9 :: P) (o + 1) (j + 1) f q L) : zRx1 K V 1 P o j f q L := by
  obtain ⟨m, h⟩ := h
  cases m with
  | zero => exact h.elim
  | succ m =>
    rw [zRn1_1] at h
    obtain ⟨g, p, L1, c1, c2⟩ := h
    rcases c2 with ⟨g1, rfl, rfl⟩ | ⟨rfl, L2, c2, e2⟩
    · exact zRx1_f (zBx_n hk ho c1) g1
    · cases m with
      | zero => exact c2.elim
      | succ m =>
        rw [zRn1_c] at c2
        rcases c2 with ⟨-, L3, c3, e3⟩ | ⟨c, -⟩ | ⟨c, -⟩ | ⟨c, -⟩
        · rw [show o + 1 - 1 = o by omega] at c3
          have := zRx1_s (zBx_n hk ho c1) ⟨m, c3⟩
          rw [e2, e3]
          simpa using this
        · omega
        · omega
        · omega
/-- a bracket -/
theorem zRx1_b (hk : K j = 40) (ho : o < 8) (h : zRx1 K V 1 (12 :: P) (o + 1) (j + 1) f q L) : zRx1 K V 1 P o j f q L := by
  obtain ⟨m, h⟩ := h
  cases m with
  | zero => exact h.elim
  | succ m =>
    rw [zRn1_1] at h
    obtain ⟨g, p, L1, c1, c2⟩ := h
    rcases c2 with ⟨g1, rfl, rfl⟩ | ⟨rfl, L2, c2, e2⟩
    · exact zRx1_f (L1 := []) (zBx_b hk ho (zBx_1f (L' := []) c1 g1) (Or.inl ⟨g1, rfl, rfl⟩)) g1
    · obtain ⟨g, p2, L5, d1, d2⟩ := zRn1_lv m (P := 12 :: P) (w := -1) (Or.inr ⟨P, rfl⟩) (Or.inl rfl) c2
      rcases d2 with ⟨g1, rfl, rfl⟩ | ⟨rfl, d3, d4, m', L6, d5, d6⟩
      · exact zRx1_f (L1 := []) (zBx_b hk ho (zBx_1 c1 d1) (Or.inl ⟨g1, rfl, rfl⟩)) g1
      · cases m' with
        | zero => exact d5.elim
        | succ m' =>
          rw [zRn1_c] at d5
          rcases d5 with ⟨c, -⟩ | ⟨c, -⟩ | ⟨c, -⟩ | ⟨-, d5⟩
          · omega
          · omega
          · omega
          · rcases d5 with ⟨d, -⟩ | ⟨d, -⟩ | ⟨-, -, ⟨e1, rfl, rfl⟩ | ⟨e1, d5⟩⟩
            · omega
            · omega
            · exact zRx1_f (L1 := []) (zBx_b hk ho (zBx_1 c1 d1) (Or.inr (Or.inl ⟨rfl, e1, rfl, rfl⟩))) (by decide)
            · rw [show o + 1 - 1 = o by omega] at d5
              have := zRx1_s (zBx_b (w := -1) hk ho (zBx_1 (w := -1) c1 d1) (Or.inr (Or.inr ⟨rfl, e1, rfl, rfl, rfl⟩))) ⟨m', d5⟩
              rw [e2, d6]
              simpa using this
/-- the nots that wait are settled -/
theorem zRx1_9 : ∀ (k : Nat) {P : List Int} {o : Int} {L : List zIw}, zRx1 K V 0 P (o - (k : Int)) p f q L → zRx1 K V 0 (zTm 9 k P) o p f q (zTz 9 k ++ L)
  | 0, P, o, L, h => by
    rw [show o - ((0 : Nat) : Int) = o by omega] at h
    exact h
  | k + 1, P, o, L, h => by
    have h2 := zRx1_9 k (P := P) (o := o - 1) (L := L) (by rw [show o - 1 - (k : Int) = o - ((k + 1 : Nat) : Int) by omega]; exact h)
    obtain ⟨m, h2⟩ := h2
    exact ⟨m + 1, Or.inl ⟨rfl, _, h2, rfl⟩⟩
/-- an and that waits is settled -/
theorem zRx1_10 (h : zRx1 K V 0 P o p f q L) : zRx1 K V 0 (10 :: P) o p f q ((10, 0) :: L) := by
  obtain ⟨m, h⟩ := h
  exact ⟨m + 1, Or.inr (Or.inl ⟨rfl, L, h, rfl⟩)⟩
/-- an and told -/
theorem zRx1_a (hP : zSk P 1) (hk : K p = 316) (h : zRx1 K V 1 (10 :: P) o (p + 1) f q L) : zRx1 K V 0 P o p f q L := by
  obtain ⟨m, h⟩ := h
  cases P with
  | nil => exact ⟨m + 1, Or.inl ⟨hk, h⟩⟩
  | cons x P =>
    rw [zSk_c] at hP
    rcases hP with ⟨rfl, -⟩ | ⟨rfl, -⟩ | ⟨-, c, -⟩ | ⟨-, c, -⟩
    · exact ⟨m + 1, Or.inr (Or.inr (Or.inr ⟨rfl, Or.inl ⟨hk, h⟩⟩))⟩
    · exact ⟨m + 1, Or.inr (Or.inr (Or.inl ⟨rfl, Or.inl ⟨hk, h⟩⟩))⟩
    · omega
    · omega
/-- an or told: with an or that waits, without one -/
theorem zRx1_o11 (hk : K p = 315) (h : zRx1 K V 1 (11 :: P) o (p + 1) f q L) : zRx1 K V 0 (11 :: P) o p f q ((11, 0) :: L) := by
  obtain ⟨m, h⟩ := h
  exact ⟨m + 1, Or.inr (Or.inr (Or.inl ⟨rfl, Or.inr (Or.inl ⟨hk, L, h, rfl⟩)⟩))⟩
theorem zRx1_o (hP : zSk P 0) (hk : K p = 315) (h : zRx1 K V 1 (11 :: P) o (p + 1) f q L) : zRx1 K V 0 P o p f q L := by
  obtain ⟨m, h⟩ := h
  cases P with
  | nil => exact ⟨m + 1, Or.inr (Or.inl ⟨hk, h⟩)⟩
  | cons x P =>
    rw [zSk_c] at hP
    rcases hP with ⟨rfl, -⟩ | ⟨-, c, -⟩ | ⟨-, c, -⟩ | ⟨-, c, -⟩
    · exact ⟨m + 1, Or.inr (Or.inr (Or.inr ⟨rfl, Or.inr (Or.inl ⟨hk, h⟩)⟩))⟩
    · omega
    · omega
    · omega
/-- neither: the or that waits is settled, then the level ends -/
theorem zRx1_e11 (h1 : K p ≠ 315) (h2 : K p ≠ 316) (h : zRx1 K V 0 P o p f q L) : zRx1 K V 0 (11 :: P) o p f q ((11, 0) :: L) := by
  obtain ⟨m, h⟩ := h
  exact ⟨m + 1, Or.inr (Or.inr (Or.inl ⟨rfl, Or.inr (Or.inr ⟨h1, h2, L, h, rfl⟩)⟩))⟩
theorem zRx1_end (h1 : K p ≠ 315) (h2 : K p ≠ 316) : zRx1 K V 0 [] o p 0 p [] := ⟨1, Or.inr (Or.inr ⟨h1, h2, rfl, rfl, rfl⟩)⟩
theorem zRx1_no (h1 : K p ≠ 315) (h2 : K p ≠ 316) (h3 : K p ≠ 41) : zRx1 K V 0 (12 :: P) o p 1 p L := ⟨1, Or.inr (Or.inr (Or.inr ⟨rfl, Or.inr (Or.inr ⟨h1, h2, Or.inl ⟨h3, rfl, rfl⟩⟩)⟩))⟩
theorem zRx1_cl (h1 : K p = 41) (h : zRx1 K V 0 P (o - 1) (p + 1) f q L) : zRx1 K V 0 (12 :: P) o p f q L := by
  obtain ⟨m, h⟩ := h
  exact ⟨m + 1, Or.inr (Or.inr (Or.inr ⟨rfl, Or.inr (Or.inr ⟨by omega, by omega, Or.inr ⟨h1, h⟩⟩)⟩))⟩
/-- the whole -/
theorem zRx1_all (h : zRx1 K V 1 [] o j f q L) : ∃ L2, zBx K V 1 o (-1) j f q L2 ∧ (f = 0 → L2 = L) := by
  obtain ⟨m, h⟩ := h
  cases m with
  | zero => exact h.elim
  | succ m =>
    rw [zRn1_1] at h
    obtain ⟨g, p, L1, c1, c2⟩ := h
    rcases c2 with ⟨g1, rfl, rfl⟩ | ⟨rfl, L2, c2, e2⟩
    · exact ⟨[], zBx_1f c1 g1, fun h0 => absurd h0 g1⟩
    · obtain ⟨g, p2, L5, d1, d2⟩ := zRn1_lv m (P := []) (w := -1) (Or.inl rfl) (Or.inl rfl) c2
      rcases d2 with ⟨g1, rfl, rfl⟩ | ⟨rfl, d3, d4, m', L6, d5, d6⟩
      · exact ⟨_, zBx_1 c1 d1, fun h0 => absurd h0 g1⟩
      · cases m' with
        | zero => exact d5.elim
        | succ m' =>
          rw [zRn1_e] at d5
          rcases d5 with ⟨d, -⟩ | ⟨d, -⟩ | ⟨-, -, rfl, rfl, e6⟩
          · omega
          · omega
          · exact ⟨_, zBx_1 c1 d1, fun _ => by rw [e2, d6, e6, List.append_nil]⟩
end ZRX
