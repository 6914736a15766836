/-! THE LAW, told by its tokens, and the steps by which it is reckoned -/
/-- a step: what it does, its number -/
abbrev zIw : Type := Int × Int
/-- a unit, its step -/
abbrev zUn (k : Int) : Prop := k = 256 ∨ (303 ≤ k ∧ k ≤ 313)
def zUc (K V : Int → Int) (j : Int) : zIw := if K j = 256 then (0, V j) else (1, K j - 303)
/-- what waits -/
def zWl (w : Int) : List zIw := if w = -1 then [] else [(w, 0)]
theorem zWl_n : zWl (-1) = [] := rfl
theorem zWl_y {w : Int} (h : w ≠ -1) : zWl w = [(w, 0)] := if_neg h
/-- behind a unit of an expression, w waiting -/
def zExl (K V : Int → Int) : Nat → Int → Int → Int → Int → List zIw → Prop
  | 0, _, _, _, _, _ => False
  | m + 1, w, j, f, q, L => (K j ≠ 43 ∧ K j ≠ 45 ∧ K j ≠ 42 ∧ K j ≠ 47 ∧ f = 0 ∧ q = j ∧ L = zWl w) ∨ ((K j = 43 ∨ K j = 45 ∨ K j = 42) ∧ ¬ zUn (K (j + 1)) ∧ f = 1 ∧ q = j + 1) ∨ (K j = 42 ∧ zUn (K (j + 1)) ∧ ∃ L', zExl K V m w (j + 2) f q L' ∧ L = zUc K V (j + 1) :: (4, 0) :: L') ∨ ((K j = 43 ∨ K j = 45) ∧ zUn (K (j + 1)) ∧ ∃ L', zExl K V m (if K j = 43 then 2 else 3) (j + 2) f q L' ∧ L = zWl w ++ zUc K V (j + 1) :: L') ∨ (K j = 47 ∧ K (j + 1) ≠ 256 ∧ f = 1 ∧ q = j + 1) ∨ (K j = 47 ∧ K (j + 1) = 256 ∧ V (j + 1) = 0 ∧ f = 2 ∧ q = j + 1) ∨ (K j = 47 ∧ K (j + 1) = 256 ∧ 1 ≤ V (j + 1) ∧ ∃ L', zExl K V m w (j + 2) f q L' ∧ L = (5, V (j + 1)) :: L')
/-- behind a unit of a product -/
def zPrl (K V : Int → Int) : Nat → Int → Int → Int → List zIw → Prop
  | 0, _, _, _, _ => False
  | m + 1, j, f, q, L => (K j ≠ 42 ∧ K j ≠ 47 ∧ f = 0 ∧ q = j ∧ L = []) ∨ (K j = 42 ∧ ¬ zUn (K (j + 1)) ∧ f = 1 ∧ q = j + 1) ∨ (K j = 42 ∧ zUn (K (j + 1)) ∧ ∃ L', zPrl K V m (j + 2) f q L' ∧ L = zUc K V (j + 1) :: (4, 0) :: L') ∨ (K j = 47 ∧ K (j + 1) ≠ 256 ∧ f = 1 ∧ q = j + 1) ∨ (K j = 47 ∧ K (j + 1) = 256 ∧ V (j + 1) = 0 ∧ f = 2 ∧ q = j + 1) ∨ (K j = 47 ∧ K (j + 1) = 256 ∧ 1 ≤ V (j + 1) ∧ ∃ L', zPrl K V m (j + 2) f q L' ∧ L = (5, V (j + 1)) :: L')
theorem zExl_s (K V : Int → Int) (m : Nat) (w j f q : Int) (L : List zIw) : zExl K V (m + 1) w j f q L = ((K j ≠ 43 ∧ K j ≠ 45 ∧ K j ≠ 42 ∧ K j ≠ 47 ∧ f = 0 ∧ q = j ∧ L = zWl w) ∨ ((K j = 43 ∨ K j = 45 ∨ K j = 42) ∧ ¬ zUn (K (j + 1)) ∧ f = 1 ∧ q = j + 1) ∨ (K j = 42 ∧ zUn (K (j + 1)) ∧ ∃ L', zExl K V m w (j + 2) f q L' ∧ L = zUc K V (j + 1) :: (4, 0) :: L') ∨ ((K j = 43 ∨ K j = 45) ∧ zUn (K (j + 1)) ∧ ∃ L', zExl K V m (if K j = 43 then 2 else 3) (j + 2) f q L' ∧ L = zWl w ++ zUc K V (j + 1) :: L') ∨ (K j = 47 ∧ K (j + 1) ≠ 256 ∧ f = 1 ∧ q = j + 1) ∨ (K j = 47 ∧ K (j + 1) = 256 ∧ V (j + 1) = 0 ∧ f = 2 ∧ q = j + 1) ∨ (K j = 47 ∧ K (j + 1) = 256 ∧ 1 ≤ V (j + 1) ∧ ∃ L', zExl K V m w (j + 2) f q L' ∧ L = (5, V (j + 1)) :: L')) := rfl
theorem zPrl_s (K V : Int → Int) (m : Nat) (j f q : Int) (L : List zIw) : zPrl K V (m + 1) j f q L = ((K j ≠ 42 ∧ K j ≠ 47 ∧ f = 0 ∧ q = j ∧ L = []) ∨ (K j = 42 ∧ ¬ zUn (K (j + 1)) ∧ f = 1 ∧ q = j + 1) ∨ (K j = 42 ∧ zUn (K (j + 1)) ∧ ∃ L', zPrl K V m (j + 2) f q L' ∧ L = zUc K V (j + 1) :: (4, 0) :: L') ∨ (K j = 47 ∧ K (j + 1) ≠ 256 ∧ f = 1 ∧ q = j + 1) ∨ (K j = 47 ∧ K (j + 1) = 256 ∧ V (j + 1) = 0 ∧ f = 2 ∧ q = j + 1) ∨ (K j = 47 ∧ K (j + 1) = 256 ∧ 1 ≤ V (j + 1) ∧ ∃ L', zPrl K V m (j + 2) f q L' ∧ L = (5, V (j + 1)) :: L')) := rfl
theorem zExl_det {K V : Int → Int} : ∀ {m m' : Nat} {w j f q f' q' : Int} {L L' : List zIw}, zExl K V m w j f q L → zExl K V m' w j f' q' L' → f = f' ∧ q = q' ∧ (f = 0 → L = L')
  | 0, _, _, _, _, _, _, _, _, _, h, _ => h.elim
  | _ + 1, 0, _, _, _, _, _, _, _, _, _, h => h.elim
  | m + 1, m' + 1, w, j, f, q, f', q', L, L', h, h' => by
    rw [zExl_s] at h h'
    rcases h with ⟨a1, a2, a3, a4, a5, a6, a7⟩ | ⟨a1, a2, a3, a4⟩ | ⟨a1, a2, M, h, a8⟩ | ⟨a1, a2, M, h, a8⟩ | ⟨a1, a2, a3, a4⟩ | ⟨a1, a2, a3, a4, a5⟩ | ⟨a1, a2, a3, M, h, a8⟩ <;> rcases h' with ⟨b1, b2, b3, b4, b5, b6, b7⟩ | ⟨b1, b2, b3, b4⟩ | ⟨b1, b2, M', h', b8⟩ | ⟨b1, b2, M', h', b8⟩ | ⟨b1, b2, b3, b4⟩ | ⟨b1, b2, b3, b4, b5⟩ | ⟨b1, b2, b3, M', h', b8⟩ <;> first
      | (exfalso; omega)
      | exact ⟨by omega, by omega, fun _ => a7.trans b7.symm⟩
      | exact ⟨by omega, by omega, fun h0 => absurd h0 (by omega)⟩
      | (obtain ⟨e1, e2, e3⟩ := zExl_det h h'
         exact ⟨e1, e2, fun h0 => by rw [a8, b8, e3 h0]⟩)
theorem zExl_P {K V : Int → Int} : ∀ {m m' : Nat} {w j p f q : Int} {L1 L2 : List zIw}, zPrl K V m j 0 p L1 → zExl K V m' w p f q L2 → ∃ k, zExl K V k w j f q (L1 ++ L2)
  | 0, _, _, _, _, _, _, _, _, h, _ => h.elim
  | m + 1, m', w, j, p, f, q, L1, L2, h, h' => by
    rw [zPrl_s] at h
    rcases h with ⟨-, -, -, h, e⟩ | h | ⟨h1, h2, M, h, e⟩ | h | h | ⟨h1, h2, h3, M, h, e⟩
    · rw [← h, e]
      exact ⟨m', h'⟩
    · omega
    · obtain ⟨k, hk⟩ := zExl_P h h'
      exact ⟨k + 1, Or.inr (Or.inr (Or.inl ⟨h1, h2, _, hk, by rw [e]; rfl⟩))⟩
    · omega
    · omega
    · obtain ⟨k, hk⟩ := zExl_P h h'
      exact ⟨k + 1, Or.inr (Or.inr (Or.inr (Or.inr (Or.inr (Or.inr ⟨h1, h2, h3, _, hk, by rw [e]; rfl⟩)))))⟩
theorem zExl_F {K V : Int → Int} : ∀ {m : Nat} {w j f q : Int} {L : List zIw}, zPrl K V m j f q L → f ≠ 0 → ∃ k L', zExl K V k w j f q L'
  | 0, _, _, _, _, _, h, _ => h.elim
  | m + 1, w, j, f, q, L, h, hf => by
    rw [zPrl_s] at h
    rcases h with h | ⟨h1, h2, h3, h4⟩ | ⟨h1, h2, M, h, e⟩ | ⟨h1, h2, h3, h4⟩ | ⟨h1, h2, h3, h4, h5⟩ | ⟨h1, h2, h3, M, h, e⟩
    · omega
    · exact ⟨1, [], Or.inr (Or.inl ⟨Or.inr (Or.inr h1), h2, h3, h4⟩)⟩
    · obtain ⟨k, M', hk⟩ := zExl_F (w := w) h hf
      exact ⟨k + 1, _, Or.inr (Or.inr (Or.inl ⟨h1, h2, _, hk, rfl⟩))⟩
    · exact ⟨1, [], Or.inr (Or.inr (Or.inr (Or.inr (Or.inl ⟨h1, h2, h3, h4⟩))))⟩
    · exact ⟨1, [], Or.inr (Or.inr (Or.inr (Or.inr (Or.inr (Or.inl ⟨h1, h2, h3, h4, h5⟩)))))⟩
    · obtain ⟨k, M', hk⟩ := zExl_F (w := w) h hf
      exact ⟨k + 1, _, Or.inr (Or.inr (Or.inr (Or.inr (Or.inr (Or.inr ⟨h1, h2, h3, _, hk, rfl⟩)))))⟩
/-- what stands behind a product that is told is no sign of one -/
theorem zPrl_z {K V : Int → Int} : ∀ {m : Nat} {j p : Int} {L : List zIw}, zPrl K V m j 0 p L → K p ≠ 42 ∧ K p ≠ 47
  | 0, _, _, _, h => h.elim
  | m + 1, j, p, L, h => by
    rw [zPrl_s] at h
    rcases h with ⟨h1, h2, -, h, -⟩ | h | ⟨h1, h2, M, h, -⟩ | h | h | ⟨h1, h2, h3, M, h, -⟩
    · rw [h]; exact ⟨h1, h2⟩
    · omega
    · exact zPrl_z h
    · omega
    · omega
    · exact zPrl_z h
/-- an expression, a product -/
def zExp (K V : Int → Int) (j f q : Int) (L : List zIw) : Prop := (¬ zUn (K j) ∧ f = 1 ∧ q = j) ∨ (zUn (K j) ∧ ∃ m L', zExl K V m (-1) (j + 1) f q L' ∧ L = zUc K V j :: L')
def zPro (K V : Int → Int) (j f q : Int) (L : List zIw) : Prop := (¬ zUn (K j) ∧ f = 1 ∧ q = j) ∨ (zUn (K j) ∧ ∃ m L', zPrl K V m (j + 1) f q L' ∧ L = zUc K V j :: L')
theorem zExp_det {K V : Int → Int} {j f q f' q' : Int} {L L' : List zIw} (h : zExp K V j f q L) (h' : zExp K V j f' q' L') : f = f' ∧ q = q' ∧ (f = 0 → L = L') := by
  rcases h with h | ⟨h1, m, M, h, e⟩ <;> rcases h' with h' | ⟨h1', m', M', h', e'⟩
  · exact ⟨by omega, by omega, fun h0 => absurd h0 (by omega)⟩
  · exact absurd h1' h.1
  · exact absurd h1 h'.1
  · obtain ⟨e1, e2, e3⟩ := zExl_det h h'
    exact ⟨e1, e2, fun h0 => by rw [e, e', e3 h0]⟩
/-- the products of a sum, one behind another -/
def zSul (K V : Int → Int) : Nat → Int → Int → Int → List zIw → Prop
  | 0, _, _, _, _ => False
  | m + 1, j, f, q, L => (K j ≠ 43 ∧ K j ≠ 45 ∧ f = 0 ∧ q = j ∧ L = []) ∨ ((K j = 43 ∨ K j = 45) ∧ ∃ g p M, zPro K V (j + 1) g p M ∧ ((g ≠ 0 ∧ f = g ∧ q = p) ∨ (g = 0 ∧ ∃ L', zSul K V m p f q L' ∧ L = M ++ (if K j = 43 then 2 else 3, 0) :: L')))
theorem zSul_s (K V : Int → Int) (m : Nat) (j f q : Int) (L : List zIw) : zSul K V (m + 1) j f q L = ((K j ≠ 43 ∧ K j ≠ 45 ∧ f = 0 ∧ q = j ∧ L = []) ∨ ((K j = 43 ∨ K j = 45) ∧ ∃ g p M, zPro K V (j + 1) g p M ∧ ((g ≠ 0 ∧ f = g ∧ q = p) ∨ (g = 0 ∧ ∃ L', zSul K V m p f q L' ∧ L = M ++ (if K j = 43 then 2 else 3, 0) :: L')))) := rfl
theorem zSul_E {K V : Int → Int} : ∀ {m : Nat} {j f q : Int} {L : List zIw}, zSul K V m j f q L → K j ≠ 42 ∧ K j ≠ 47 → ∀ w, ∃ k L2, zExl K V k w j f q L2 ∧ (f = 0 → L2 = zWl w ++ L)
  | 0, _, _, _, _, h, _ => h.elim
  | m + 1, j, f, q, L, h, hj => fun w => by
    rw [zSul_s] at h
    rcases h with ⟨h1, h2, h3, h4, h5⟩ | ⟨h1, g, p, M, hp, h2⟩
    · exact ⟨1, zWl w, Or.inl ⟨h1, h2, hj.1, hj.2, h3, h4, rfl⟩, fun _ => by rw [h5, List.append_nil]⟩
    · rcases h2 with ⟨g1, rfl, rfl⟩ | ⟨rfl, L', h2, e⟩
      · rcases hp with ⟨u1, u2, u3⟩ | ⟨u1, m1, M', hp, -⟩
        · exact ⟨1, [], Or.inr (Or.inl ⟨by omega, u1, u2, u3⟩), fun h0 => absurd h0 (by omega)⟩
        · obtain ⟨k, M2, hk⟩ := zExl_F (w := if K j = 43 then 2 else 3) hp g1
          rw [show j + 1 + 1 = j + 2 by omega] at hk
          exact ⟨k + 1, _, Or.inr (Or.inr (Or.inr (Or.inl ⟨h1, u1, _, hk, rfl⟩))), fun h0 => absurd h0 (by omega)⟩
      · rcases hp with ⟨u1, u2, u3⟩ | ⟨u1, m1, M', hp, e2⟩
        · omega
        · obtain ⟨k, L2, hk, e3⟩ := zSul_E h2 (zPrl_z hp) (if K j = 43 then 2 else 3)
          obtain ⟨k2, hk2⟩ := zExl_P hp hk
          rw [show j + 1 + 1 = j + 2 by omega] at hk2
          refine ⟨k2 + 1, _, Or.inr (Or.inr (Or.inr (Or.inl ⟨h1, u1, _, hk2, rfl⟩))), fun h0 => ?_⟩
          have hw2 : (if K j = 43 then 2 else 3 : Int) ≠ -1 := by split <;> decide
          rw [e3 h0, e, e2, zWl_y hw2]
          simp
/-- a sum as the reference reads it -/
def zSum (K V : Int → Int) (j f q : Int) (L : List zIw) : Prop := ∃ g p M, zPro K V j g p M ∧ ((g ≠ 0 ∧ f = g ∧ q = p) ∨ (g = 0 ∧ ∃ m L', zSul K V m p f q L' ∧ L = M ++ L'))
theorem zSum_E {K V : Int → Int} {j f q : Int} {L : List zIw} (h : zSum K V j f q L) : ∃ L2, zExp K V j f q L2 ∧ (f = 0 → L2 = L) := by
  obtain ⟨g, p, M, hp, h⟩ := h
  rcases h with ⟨g1, rfl, rfl⟩ | ⟨rfl, m, L', h, e⟩
  · rcases hp with hp | ⟨u1, m1, M', hp, -⟩
    · exact ⟨[], Or.inl hp, fun h0 => absurd h0 g1⟩
    · obtain ⟨k, M2, hk⟩ := zExl_F (w := -1) hp g1
      exact ⟨_, Or.inr ⟨u1, k, M2, hk, rfl⟩, fun h0 => absurd h0 g1⟩
  · rcases hp with hp | ⟨u1, m1, M', hp, e2⟩
    · omega
    · obtain ⟨k, L2, hk, e3⟩ := zSul_E h (zPrl_z hp) (-1)
      obtain ⟨k2, hk2⟩ := zExl_P hp hk
      exact ⟨_, Or.inr ⟨u1, k2, _, hk2, rfl⟩, fun h0 => by rw [e3 h0, e, e2, zWl_n]; simp⟩
/-- two expressions compared -/
def zCo (k : Int) : Int := if k = 60 then 6 else if k = 61 then 7 else 8
def zCm (K V : Int → Int) (j f q : Int) (L : List zIw) : Prop := ∃ g p L1, zExp K V j g p L1 ∧ ((g ≠ 0 ∧ f = g ∧ q = p) ∨ (g = 0 ∧ K p ≠ 60 ∧ K p ≠ 61 ∧ K p ≠ 62 ∧ f = 1 ∧ q = p) ∨ (g = 0 ∧ (K p = 60 ∨ K p = 61 ∨ K p = 62) ∧ ∃ L2, zExp K V (p + 1) f q L2 ∧ L = L1 ++ L2 ++ [(zCo (K p), 0)]))
theorem zCm_det {K V : Int → Int} {j f q f' q' : Int} {L L' : List zIw} (h : zCm K V j f q L) (h' : zCm K V j f' q' L') : f = f' ∧ q = q' ∧ (f = 0 → L = L') := by
  obtain ⟨g, p, M, h1, h2⟩ := h
  obtain ⟨g', p', M', h1', h2'⟩ := h'
  obtain ⟨rfl, rfl, eM⟩ := zExp_det h1 h1'
  rcases h2 with h2 | h2 | ⟨a, b, N, h2, e⟩ <;> rcases h2' with h2' | h2' | ⟨a', b', N', h2', e'⟩ <;> first
    | (exfalso; omega)
    | exact ⟨by omega, by omega, fun h0 => absurd h0 (by omega)⟩
    | (obtain ⟨e1, e2, e3⟩ := zExp_det h2 h2'
       exact ⟨e1, e2, fun h0 => by rw [e, e', eM a, e3 h0]⟩)
/-- a condition (0), conditions (1), what comes behind one (2, w waiting), so many open ahead -/
def zB (K V : Int → Int) : Nat → Nat → Int → Int → Int → Int → Int → List zIw → Prop
  | 0, _, _, _, _, _, _, _ => False
  | m + 1, 0, o, _, j, f, q, L => (K j ≠ 317 ∧ K j ≠ 40 ∧ zCm K V j f q L) ∨ ((K j = 317 ∨ K j = 40) ∧ 8 ≤ o ∧ f = 3 ∧ q = j) ∨ (K j = 317 ∧ o < 8 ∧ ∃ L', zB K V m 0 (o + 1) (-1) (j + 1) f q L' ∧ L = L' ++ [(9, 0)]) ∨ (K j = 40 ∧ o < 8 ∧ ∃ g p L', zB K V m 1 (o + 1) (-1) (j + 1) g p L' ∧ ((g ≠ 0 ∧ f = g ∧ q = p) ∨ (g = 0 ∧ K p ≠ 41 ∧ f = 1 ∧ q = p) ∨ (g = 0 ∧ K p = 41 ∧ f = 0 ∧ q = p + 1 ∧ L = L')))
  | m + 1, 1, o, _, j, f, q, L => ∃ g p L1, zB K V m 0 o (-1) j g p L1 ∧ ((g ≠ 0 ∧ f = g ∧ q = p) ∨ (g = 0 ∧ ∃ L2, zB K V m 2 o (-1) p f q L2 ∧ L = L1 ++ L2))
  | m + 1, _ + 2, o, w, j, f, q, L => (K j ≠ 315 ∧ K j ≠ 316 ∧ f = 0 ∧ q = j ∧ L = zWl w) ∨ ((K j = 315 ∨ K j = 316) ∧ ∃ g p L1, zB K V m 0 o (-1) (j + 1) g p L1 ∧ ((g ≠ 0 ∧ f = g ∧ q = p) ∨ (g = 0 ∧ K j = 315 ∧ ∃ L2, zB K V m 2 o 11 p f q L2 ∧ L = zWl w ++ (L1 ++ L2)) ∨ (g = 0 ∧ K j = 316 ∧ ∃ L2, zB K V m 2 o w p f q L2 ∧ L = L1 ++ (10, 0) :: L2)))
theorem zB_0 (K V : Int → Int) (m : Nat) (o w j f q : Int) (L : List zIw) : zB K V (m + 1) 0 o w j f q L = ((K j ≠ 317 ∧ K j ≠ 40 ∧ zCm K V j f q L) ∨ ((K j = 317 ∨ K j = 40) ∧ 8 ≤ o ∧ f = 3 ∧ q = j) ∨ (K j = 317 ∧ o < 8 ∧ ∃ L', zB K V m 0 (o + 1) (-1) (j + 1) f q L' ∧ L = L' ++ [(9, 0)]) ∨ (K j = 40 ∧ o < 8 ∧ ∃ g p L', zB K V m 1 (o + 1) (-1) (j + 1) g p L' ∧ ((g ≠ 0 ∧ f = g ∧ q = p) ∨ (g = 0 ∧ K p ≠ 41 ∧ f = 1 ∧ q = p) ∨ (g = 0 ∧ K p = 41 ∧ f = 0 ∧ q = p + 1 ∧ L = L')))) := rfl
theorem zB_1 (K V : Int → Int) (m : Nat) (o w j f q : Int) (L : List zIw) : zB K V (m + 1) 1 o w j f q L = (∃ g p L1, zB K V m 0 o (-1) j g p L1 ∧ ((g ≠ 0 ∧ f = g ∧ q = p) ∨ (g = 0 ∧ ∃ L2, zB K V m 2 o (-1) p f q L2 ∧ L = L1 ++ L2))) := rfl
theorem zB_2 (K V : Int → Int) (m : Nat) (o w j f q : Int) (L : List zIw) : zB K V (m + 1) 2 o w j f q L = ((K j ≠ 315 ∧ K j ≠ 316 ∧ f = 0 ∧ q = j ∧ L = zWl w) ∨ ((K j = 315 ∨ K j = 316) ∧ ∃ g p L1, zB K V m 0 o (-1) (j + 1) g p L1 ∧ ((g ≠ 0 ∧ f = g ∧ q = p) ∨ (g = 0 ∧ K j = 315 ∧ ∃ L2, zB K V m 2 o 11 p f q L2 ∧ L = zWl w ++ (L1 ++ L2)) ∨ (g = 0 ∧ K j = 316 ∧ ∃ L2, zB K V m 2 o w p f q L2 ∧ L = L1 ++ (10, 0) :: L2)))) := rfl
theorem zB_mono {K V : Int → Int} : ∀ {m m' k : Nat} {o w j f q : Int} {L : List zIw}, k ≤ 2 → zB K V m k o w j f q L → m ≤ m' → zB K V m' k o w j f q L
  | 0, _, _, _, _, _, _, _, _, _, h, _ => h.elim
  | _ + 1, 0, _, _, _, _, _, _, _, _, _, hm => absurd hm (by omega)
  | m + 1, m' + 1, 0, o, w, j, f, q, L, _, h, hm => by
    rw [zB_0] at h ⊢
    rcases h with h | h | ⟨a, b, L', h, e⟩ | ⟨a, b, g, p, L', h, c⟩
    · exact Or.inl h
    · exact Or.inr (Or.inl h)
    · exact Or.inr (Or.inr (Or.inl ⟨a, b, L', zB_mono (by decide) h (by omega), e⟩))
    · exact Or.inr (Or.inr (Or.inr ⟨a, b, g, p, L', zB_mono (by decide) h (by omega), c⟩))
  | m + 1, m' + 1, 1, o, w, j, f, q, L, _, h, hm => by
    rw [zB_1] at h ⊢
    obtain ⟨g, p, L1, h, c⟩ := h
    refine ⟨g, p, L1, zB_mono (by decide) h (by omega), ?_⟩
    rcases c with c | ⟨c, L2, d, e⟩
    · exact Or.inl c
    · exact Or.inr ⟨c, L2, zB_mono (by decide) d (by omega), e⟩
  | m + 1, m' + 1, 2, o, w, j, f, q, L, _, h, hm => by
    rw [zB_2] at h ⊢
    rcases h with h | ⟨a, g, p, L1, h, c⟩
    · exact Or.inl h
    · refine Or.inr ⟨a, g, p, L1, zB_mono (by decide) h (by omega), ?_⟩
      rcases c with c | ⟨c1, c2, L2, d, e⟩ | ⟨c1, c2, L2, d, e⟩
      · exact Or.inl c
      · exact Or.inr (Or.inl ⟨c1, c2, L2, zB_mono (by decide) d (by omega), e⟩)
      · exact Or.inr (Or.inr ⟨c1, c2, L2, zB_mono (by decide) d (by omega), e⟩)
  | _ + 1, _ + 1, k + 3, _, _, _, _, _, _, hk, _, _ => absurd hk (by omega)
theorem zB_det1 {K V : Int → Int} : ∀ {m k : Nat} {o w j f q f' q' : Int} {L L' : List zIw}, k ≤ 2 → zB K V m k o w j f q L → zB K V m k o w j f' q' L' → f = f' ∧ q = q' ∧ (f = 0 → L = L')
  | 0, _, _, _, _, _, _, _, _, _, _, _, h, _ => h.elim
  | m + 1, 0, o, w, j, f, q, f', q', L, L', _, h, h' => by
    rw [zB_0] at h h'
    rcases h with ⟨a, b, h⟩ | h | ⟨a, b, M, h, e⟩ | ⟨a, b, g, p, M, h, c⟩ <;> rcases h' with ⟨a', b', h'⟩ | h' | ⟨a', b', M', h', e'⟩ | ⟨a', b', g', p', M', h', c'⟩ <;> first
      | (exfalso; omega)
      | exact zCm_det h h'
      | exact ⟨by omega, by omega, fun h0 => absurd h0 (by omega)⟩
      | (obtain ⟨e1, e2, e3⟩ := zB_det1 (by decide) h h'
         exact ⟨e1, e2, fun h0 => by rw [e, e', e3 h0]⟩)
      | (obtain ⟨rfl, rfl, e3⟩ := zB_det1 (by decide) h h'
         rcases c with c | c | ⟨c1, c2, c3, c4, c5⟩ <;> rcases c' with c' | c' | ⟨d1, d2, d3, d4, d5⟩ <;> first
           | (exfalso; omega)
           | exact ⟨by omega, by omega, fun h0 => absurd h0 (by omega)⟩
           | exact ⟨by omega, by omega, fun _ => by rw [c5, d5, e3 c1]⟩)
  | m + 1, 1, o, w, j, f, q, f', q', L, L', _, h, h' => by
    rw [zB_1] at h h'
    obtain ⟨g, p, M, h, c⟩ := h
    obtain ⟨g', p', M', h', c'⟩ := h'
    obtain ⟨rfl, rfl, e3⟩ := zB_det1 (by decide) h h'
    rcases c with c | ⟨c, N, d, e⟩ <;> rcases c' with c' | ⟨c', N', d', e'⟩ <;> first
      | (exfalso; omega)
      | exact ⟨by omega, by omega, fun h0 => absurd h0 (by omega)⟩
      | (obtain ⟨f1, f2, f3⟩ := zB_det1 (by decide) d d'
         exact ⟨f1, f2, fun h0 => by rw [e, e', e3 c, f3 h0]⟩)
  | m + 1, 2, o, w, j, f, q, f', q', L, L', _, h, h' => by
    rw [zB_2] at h h'
    rcases h with ⟨a1, a2, a3, a4, a5⟩ | ⟨a, g, p, M, h, c⟩ <;> rcases h' with ⟨b1, b2, b3, b4, b5⟩ | ⟨a', g', p', M', h', c'⟩
    · exact ⟨by omega, by omega, fun _ => a5.trans b5.symm⟩
    · omega
    · omega
    · obtain ⟨rfl, rfl, e3⟩ := zB_det1 (by decide) h h'
      rcases c with c | ⟨c1, c2, N, d, e⟩ | ⟨c1, c2, N, d, e⟩ <;> rcases c' with c' | ⟨d1, d2, N', d', e'⟩ | ⟨d1, d2, N', d', e'⟩ <;> first
        | (exfalso; omega)
        | exact ⟨by omega, by omega, fun h0 => absurd h0 (by omega)⟩
        | (obtain ⟨f1, f2, f3⟩ := zB_det1 (by decide) d d'
           exact ⟨f1, f2, fun h0 => by rw [e, e', e3 c1, f3 h0]⟩)
  | _ + 1, k + 3, _, _, _, _, _, _, _, _, _, hk, _, _ => absurd hk (by omega)
def zBx (K V : Int → Int) (k : Nat) (o w j f q : Int) (L : List zIw) : Prop := ∃ m, zB K V m k o w j f q L
theorem zBx_det {K V : Int → Int} {k : Nat} {o w j f q f' q' : Int} {L L' : List zIw} (hk : k ≤ 2) (h : zBx K V k o w j f q L) (h' : zBx K V k o w j f' q' L') : f = f' ∧ q = q' ∧ (f = 0 → L = L') := by
  obtain ⟨m, h⟩ := h
  obtain ⟨m', h'⟩ := h'
  exact zB_det1 hk (zB_mono hk h (Nat.le_max_left m m')) (zB_mono hk h' (Nat.le_max_right m m'))
section ZBX
variable {K V : Int → Int} {o w j f q g p : Int} {L L' L1 L2 : List zIw}
theorem zBx_c (h1 : K j ≠ 317) (h2 : K j ≠ 40) (h : zCm K V j f q L) : zBx K V 0 o w j f q L := ⟨1, Or.inl ⟨h1, h2, h⟩⟩
theorem zBx_3 (h1 : K j = 317 ∨ K j = 40) (h2 : 8 ≤ o) : zBx K V 0 o w j 3 j L := ⟨1, Or.inr (Or.inl ⟨h1, h2, rfl, rfl⟩)⟩
theorem zBx_n (h1 : K j = 317) (h2 : o < 8) (h : zBx K V 0 (o + 1) (-1) (j + 1) f q L) : zBx K V 0 o w j f q (L ++ [(9, 0)]) := by
  obtain ⟨m, h⟩ := h
  exact ⟨m + 1, Or.inr (Or.inr (Or.inl ⟨h1, h2, _, h, rfl⟩))⟩
theorem zBx_b (h1 : K j = 40) (h2 : o < 8) (h : zBx K V 1 (o + 1) (-1) (j + 1) g p L') (hc : (g ≠ 0 ∧ f = g ∧ q = p) ∨ (g = 0 ∧ K p ≠ 41 ∧ f = 1 ∧ q = p) ∨ (g = 0 ∧ K p = 41 ∧ f = 0 ∧ q = p + 1 ∧ L = L')) : zBx K V 0 o w j f q L := by
  obtain ⟨m, h⟩ := h
  exact ⟨m + 1, Or.inr (Or.inr (Or.inr ⟨h1, h2, g, p, L', h, hc⟩))⟩
theorem zBx_1f (h : zBx K V 0 o (-1) j f q L) (hf : f ≠ 0) : zBx K V 1 o w j f q L' := by
  obtain ⟨m, h⟩ := h
  exact ⟨m + 1, f, q, L, h, Or.inl ⟨hf, rfl, rfl⟩⟩
theorem zBx_1 (h : zBx K V 0 o (-1) j 0 p L1) (h' : zBx K V 2 o (-1) p f q L2) : zBx K V 1 o w j f q (L1 ++ L2) := by
  obtain ⟨m, h⟩ := h
  obtain ⟨m', h'⟩ := h'
  exact ⟨max m m' + 1, 0, p, L1, zB_mono (by decide) h (Nat.le_max_left m m'), Or.inr ⟨rfl, L2, zB_mono (by decide) h' (Nat.le_max_right m m'), rfl⟩⟩
theorem zBx_2e (h1 : K j ≠ 315) (h2 : K j ≠ 316) : zBx K V 2 o w j 0 j (zWl w) := ⟨1, Or.inl ⟨h1, h2, rfl, rfl, rfl⟩⟩
theorem zBx_2f (h1 : K j = 315 ∨ K j = 316) (h : zBx K V 0 o (-1) (j + 1) f q L) (hf : f ≠ 0) : zBx K V 2 o w j f q L' := by
  obtain ⟨m, h⟩ := h
  exact ⟨m + 1, Or.inr ⟨h1, f, q, L, h, Or.inl ⟨hf, rfl, rfl⟩⟩⟩
theorem zBx_2o (h1 : K j = 315) (h : zBx K V 0 o (-1) (j + 1) 0 p L1) (h' : zBx K V 2 o 11 p f q L2) : zBx K V 2 o w j f q (zWl w ++ (L1 ++ L2)) := by
  obtain ⟨m, h⟩ := h
  obtain ⟨m', h'⟩ := h'
  exact ⟨max m m' + 1, Or.inr ⟨Or.inl h1, 0, p, L1, zB_mono (by decide) h (Nat.le_max_left m m'), Or.inr (Or.inl ⟨rfl, h1, L2, zB_mono (by decide) h' (Nat.le_max_right m m'), rfl⟩)⟩⟩
theorem zBx_2a (h1 : K j = 316) (h : zBx K V 0 o (-1) (j + 1) 0 p L1) (h' : zBx K V 2 o w p f q L2) : zBx K V 2 o w j f q (L1 ++ (10, 0) :: L2) := by
  obtain ⟨m, h⟩ := h
  obtain ⟨m', h'⟩ := h'
  exact ⟨max m m' + 1, Or.inr ⟨Or.inr h1, 0, p, L1, zB_mono (by decide) h (Nat.le_max_left m m'), Or.inr (Or.inr ⟨rfl, h1, L2, zB_mono (by decide) h' (Nat.le_max_right m m'), rfl⟩)⟩⟩
end ZBX
theorem zExl_gt {K V : Int → Int} : ∀ {m : Nat} {w j q : Int} {L : List zIw}, zExl K V m w j 0 q L → j ≤ q
  | 0, _, _, _, _, h => h.elim
  | m + 1, w, j, q, L, h => by
    rw [zExl_s] at h
    rcases h with h | h | ⟨h1, h2, M, h, -⟩ | ⟨h1, h2, M, h, -⟩ | h | h | ⟨h1, h2, h3, M, h, -⟩
    · omega
    · omega
    · have := zExl_gt h; omega
    · have := zExl_gt h; omega
    · omega
    · omega
    · have := zExl_gt h; omega
theorem zExp_gt {K V : Int → Int} {j q : Int} {L : List zIw} (h : zExp K V j 0 q L) : j < q := by
  rcases h with h | ⟨-, m, M, h, -⟩
  · omega
  · have := zExl_gt h; omega
theorem zB_gt {K V : Int → Int} : ∀ {m k : Nat} {o w j q : Int} {L : List zIw}, k ≤ 2 → zB K V m k o w j 0 q L → j ≤ q ∧ (k ≤ 1 → j < q)
  | 0, _, _, _, _, _, _, _, h => h.elim
  | m + 1, 0, o, w, j, q, L, _, h => by
    rw [zB_0] at h
    rcases h with ⟨a, b, g, p, M, h1, h2⟩ | h | ⟨a, b, M, h, -⟩ | ⟨a, b, g, p, M, h, c⟩
    · rcases h2 with h2 | h2 | ⟨g0, -, N, h2, -⟩
      · omega
      · omega
      · subst g0
        have := zExp_gt h1
        have := zExp_gt h2
        omega
    · omega
    · have := zB_gt (by decide) h
      omega
    · rcases c with c | c | c
      · omega
      · omega
      · obtain ⟨g0, -, -, c, -⟩ := c
        subst g0
        have := zB_gt (by decide) h
        omega
  | m + 1, 1, o, w, j, q, L, _, h => by
    rw [zB_1] at h
    obtain ⟨g, p, M, h, c⟩ := h
    rcases c with c | ⟨g0, N, d, -⟩
    · omega
    · subst g0
      have := zB_gt (by decide) h
      have := zB_gt (by decide) d
      omega
  | m + 1, 2, o, w, j, q, L, _, h => by
    rw [zB_2] at h
    rcases h with h | ⟨a, g, p, M, h, c⟩
    · omega
    · rcases c with c | ⟨g0, -, N, d, -⟩ | ⟨g0, -, N, d, -⟩
      · omega
      · subst g0
        have := zB_gt (by decide) h
        have := zB_gt (by decide) d
        omega
      · subst g0
        have := zB_gt (by decide) h
        have := zB_gt (by decide) d
        omega
  | _ + 1, k + 3, _, _, _, _, _, hk, _ => absurd hk (by omega)
theorem zBx_gt {K V : Int → Int} {o w j q : Int} {L : List zIw} (h : zBx K V 0 o w j 0 q L) : j < q := by
  obtain ⟨m, h⟩ := h
  exact (zB_gt (by decide) h).2 (by decide)
/-- a line of THE LAW behind its word: of its expression, of its conditions the steps -/
def zPa0 (K V : Int → Int) (j f q : Int) (E B : List zIw) : Prop := ∃ g p, zExp K V j g p E ∧ ((g ≠ 0 ∧ f = g ∧ q = p) ∨ (g = 0 ∧ K p ≠ 314 ∧ f = 0 ∧ q = p ∧ B = []) ∨ (g = 0 ∧ K p = 314 ∧ zBx K V 1 0 (-1) (p + 1) f q B))
theorem zPa0_det {K V : Int → Int} {j f q f' q' : Int} {E B E' B' : List zIw} (h : zPa0 K V j f q E B) (h' : zPa0 K V j f' q' E' B') : f = f' ∧ q = q' ∧ (f = 0 → E = E' ∧ B = B') := by
  obtain ⟨g, p, h1, h2⟩ := h
  obtain ⟨g', p', h1', h2'⟩ := h'
  obtain ⟨rfl, rfl, e3⟩ := zExp_det h1 h1'
  rcases h2 with h2 | ⟨a1, a2, a3, a4, a5⟩ | ⟨a, b, h2⟩ <;> rcases h2' with h2' | ⟨b1, b2, b3, b4, b5⟩ | ⟨a', b', h2'⟩ <;> first
    | (exfalso; omega)
    | exact ⟨by omega, by omega, fun h0 => absurd h0 (by omega)⟩
    | exact ⟨by omega, by omega, fun _ => ⟨e3 a1, a5.trans b5.symm⟩⟩
    | (obtain ⟨f1, f2, f3⟩ := zBx_det (by decide) h2 h2'
       exact ⟨f1, f2, fun h0 => ⟨e3 a, f3 h0⟩⟩)
/-- a line of THE LAW -/
def zLw (K V : Int → Int) (ln j f q : Int) : Prop := (f = 1 ∧ q = j ∧ ¬ (300 ≤ K j ∧ K j ≤ 302)) ∨ (f = 3 ∧ q = j ∧ (300 ≤ K j ∧ K j ≤ 302) ∧ ln = 16) ∨ ((300 ≤ K j ∧ K j ≤ 302) ∧ ln ≤ 15 ∧ ∃ g p E B, zPa0 K V (j + 1) g p E B ∧ ((g ≠ 0 ∧ f = g ∧ q = p) ∨ (g = 0 ∧ f = 1 ∧ q = p ∧ K p ≠ 59) ∨ (g = 0 ∧ f = 0 ∧ q = p + 1 ∧ K p = 59)))
theorem zLw_det {K V : Int → Int} {ln j f q f' q' : Int} (h : zLw K V ln j f q) (h' : zLw K V ln j f' q') : f = f' ∧ q = q' := by
  rcases h with h | h | ⟨a, b, g, p, E, B, h1, h2⟩
  · rcases h' with h' | h' | ⟨a', b', g', p', E', B', h1', h2'⟩ <;> omega
  · rcases h' with h' | h' | ⟨a', b', g', p', E', B', h1', h2'⟩ <;> omega
  · rcases h' with h' | h' | ⟨a', b', g', p', E', B', h1', h2'⟩
    · omega
    · omega
    · obtain ⟨rfl, rfl, -⟩ := zPa0_det h1 h1'
      omega
theorem zLw_kw {K V : Int → Int} {ln j q : Int} (h : zLw K V ln j 0 q) : K j ≠ 257 := by
  rcases h with h | h | ⟨a, b, g, p, E, B, h1, h2⟩ <;> omega
/-! steps laid down one behind another -/
def zSg (C : Int → Int) (a : Int) (L : List zIw) : Prop := ∀ (i : Nat) (x : zIw), L[i]? = some x → C (a + i) = x.2 * 16 + x.1
theorem zSg_nil {C : Int → Int} {a : Int} : zSg C a [] := fun i x h => by simp at h
theorem zSg_app {C : Int → Int} {a : Int} {L M : List zIw} (h : zSg C a L) (h' : zSg C (a + (L.length : Int)) M) : zSg C a (L ++ M) := fun i x hx => by
  by_cases hi : i < L.length
  · rw [List.getElem?_append_left hi] at hx
    exact h i x hx
  · rw [List.getElem?_append_right (by omega)] at hx
    have := h' (i - L.length) x hx
    rw [← this]
    congr 1
    omega
theorem zSg_l {C : Int → Int} {a : Int} {L M : List zIw} (h : zSg C a (L ++ M)) : zSg C a L := fun i x hx => h i x (by
  have hi : i < L.length := (List.getElem?_eq_some_iff.mp hx).1
  rw [List.getElem?_append_left hi]; exact hx)
theorem zSg_r {C : Int → Int} {a : Int} {L M : List zIw} (h : zSg C a (L ++ M)) : zSg C (a + (L.length : Int)) M := fun i x hx => by
  have := h (L.length + i) x (by rw [List.getElem?_append_right (by omega)]; rw [show L.length + i - L.length = i by omega]; exact hx)
  rw [← this]
  congr 1
  omega
theorem zSg_cg {C C' : Int → Int} {a : Int} {L : List zIw} (h : zSg C a L) (e : ∀ i : Int, a ≤ i → i < a + (L.length : Int) → C' i = C i) : zSg C' a L := fun i x hx => by
  have hi : i < L.length := (List.getElem?_eq_some_iff.mp hx).1
  rw [e _ (by omega) (by omega)]
  exact h i x hx
theorem zSg_one {C : Int → Int} {a : Int} {x : zIw} (h : C a = x.2 * 16 + x.1) : zSg C a [x] := fun i y hy => by
  cases i with
  | zero =>
    have hy : x = y := by simpa using hy
    subst hy
    rw [show a + ((0 : Nat) : Int) = a by omega]
    exact h
  | succ i => simp at hy
/-- the class has laid down L behind what was there -/
def zCd (μ0 μ : pm_Mem) (L : List zIw) : Prop := zSg (μ 95) (μ0 93 3) L ∧ μ 93 3 = μ0 93 3 + (L.length : Int) ∧ (∀ i : Int, i < μ0 93 3 → μ 95 i = μ0 95 i) ∧ μ 94 = μ0 94
theorem zCd_0 {μ : pm_Mem} : zCd μ μ [] := ⟨zSg_nil, by simp, fun _ _ => rfl, rfl⟩
theorem zCd_tr {μ0 μ μ' : pm_Mem} {L M : List zIw} (h : zCd μ0 μ L) (h' : zCd μ μ' M) : zCd μ0 μ' (L ++ M) := by
  obtain ⟨a, b, c, d⟩ := h
  obtain ⟨a', b', c', d'⟩ := h'
  refine ⟨zSg_app (zSg_cg a (fun i _ i1 => c' i (by omega))) (by rw [← b]; exact a'), by rw [b', b, List.length_append]; omega, fun i hi => by rw [c' i (by omega), c i hi], d'.trans d⟩
theorem zCd_fr {μ0 μ μ' : pm_Mem} {L : List zIw} (h : zCd μ0 μ L) (e1 : μ' 95 = μ 95) (e2 : μ' 93 3 = μ 93 3) (e4 : μ' 94 = μ 94) : zCd μ0 μ' L := ⟨by rw [e1]; exact h.1, by rw [e2]; exact h.2.1, fun i hi => by rw [e1]; exact h.2.2.1 i hi, e4.trans h.2.2.2⟩
theorem zCd_to {μ0 μ1 μ' : pm_Mem} {L : List zIw} (h : zCd μ1 μ' L) (e3 : μ1 93 3 = μ0 93 3) (e5 : μ1 95 = μ0 95) (e4 : μ1 94 = μ0 94) : zCd μ0 μ' L := ⟨by rw [← e3]; exact h.1, by rw [← e3]; exact h.2.1, fun i hi => by rw [h.2.2.1 i (by omega), e5], h.2.2.2.trans e4⟩
theorem zCd_e {μ μ' : pm_Mem} {o v : Int} (e : μ' = pm_up (pm_up μ 95 (μ 93 3) (v * 16 + o)) 93 3 (μ 93 3 + 1)) : zCd μ μ' [(o, v)] ∧ μ' 93 3 = μ 93 3 + 1 := by
  refine ⟨⟨zSg_one ?_, ?_, fun i hi => ?_, ?_⟩, ?_⟩
  · rw [e, pm_up_off (by decide), pm_up_eq]
  · rw [e, pm_up_eq]; rfl
  · rw [e, pm_up_off (by decide), pm_up_ne (by omega)]
  · rw [e, pm_up_row (by decide), pm_up_row (by decide)]
  · rw [e, pm_up_eq]
theorem zCd_o {μ μ' : pm_Mem} {o o' v : Int} (h : zCd μ μ' [(o, v)]) (e : o = o') : zCd μ μ' [(o', v)] := by rw [← e]; exact h
theorem zCo_of {k o : Int} (h : (k = 60 ∧ o = 6) ∨ (k = 61 ∧ o = 7) ∨ (k ≠ 60 ∧ k ≠ 61 ∧ o = 8)) : o = zCo k := by
  unfold zCo
  split
  · omega
  · split <;> omega
theorem zCd_uc {μ μ' : pm_Mem} {K V : Int → Int} {j o v : Int} (h : zCd μ μ' [(o, v)]) (e : (K j = 256 ∧ o = 0 ∧ v = V j) ∨ (K j ≠ 256 ∧ o = 1 ∧ v = K j - 303)) : zCd μ μ' [zUc K V j] := by
  unfold zUc
  rcases e with ⟨a, b, c⟩ | ⟨a, b, c⟩
  · rw [if_pos a, ← b, ← c]; exact h
  · rw [if_neg a, ← b, ← c]; exact h
theorem zCd_wl {μ μ' : pm_Mem} {o : Int} (h : o ≠ -1) (hd : μ 93 3 ≤ 399 → zCd μ μ' [(o, 0)] ∧ μ' 93 3 = μ 93 3 + 1) (h9 : o = -1 ∨ μ 93 3 ≤ 399) : zCd μ μ' (zWl o) ∧ ((o = -1 ∧ μ' 93 3 = μ 93 3) ∨ (o ≠ -1 ∧ μ' 93 3 = μ 93 3 + 1)) := by
  have h1 := hd (by omega)
  rw [zWl_y h]
  exact ⟨h1.1, Or.inr ⟨h, h1.2⟩⟩
theorem zCd_wn {μ : pm_Mem} {o : Int} (h : o = -1) : zCd μ μ (zWl o) ∧ ((o = -1 ∧ μ 93 3 = μ 93 3) ∨ (o ≠ -1 ∧ μ 93 3 = μ 93 3 + 1)) := by
  rw [h]
  exact ⟨zCd_0, Or.inl ⟨rfl, rfl⟩⟩
/-- a line's cells and steps laid down -/
def zCe0 (μ μ' : pm_Mem) (E B : List zIw) (ln : Int) : Prop := zSg (μ' 95) (μ 93 3) (E ++ B) ∧ μ' 93 3 = μ 93 3 + (E.length : Int) + (B.length : Int) ∧ (∀ i : Int, i < μ 93 3 → μ' 95 i = μ 95 i) ∧ μ' 94 = zpu (zpu (zpu (μ 94) (ln * 4 + 1) (μ 93 3)) (ln * 4 + 2) (μ 93 3 + (E.length : Int))) (ln * 4 + 3) (μ 93 3 + (E.length : Int) + (B.length : Int))
theorem zCe0_of {μ mA mB mC mF mE mD : pm_Mem} {E B : List zIw} {ln : Int} (p1 : mA 94 = zpu (μ 94) (ln * 4 + 1) (μ 93 3)) (r1 : mA 93 3 = μ 93 3) (s1 : mA 95 = μ 95) (d1 : zCd mA mB E) (p2 : mC 94 = zpu (mB 94) (ln * 4 + 2) (mB 93 3)) (r2 : mC 93 3 = mB 93 3) (s2 : mC 95 = mB 95) (p3 : mF 94 = mC 94) (r3 : mF 93 3 = mC 93 3) (s3 : mF 95 = mC 95) (d2 : zCd mF mE B) (p4 : mD 94 = zpu (mE 94) (ln * 4 + 3) (mE 93 3)) (r4 : mD 93 3 = mE 93 3) (s4 : mD 95 = mE 95) : zCe0 μ mD E B ln := by
  obtain ⟨a1, b1, c1, e1⟩ := d1
  obtain ⟨a2, b2, c2, e2⟩ := d2
  have f1 : mB 93 3 = μ 93 3 + (E.length : Int) := by omega
  have f2 : mE 93 3 = μ 93 3 + (E.length : Int) + (B.length : Int) := by omega
  have g1 : ∀ i : Int, i < μ 93 3 + (E.length : Int) → mE 95 i = mB 95 i := fun i hi => by rw [c2 i (by omega), s3, s2]
  refine ⟨?_, by rw [r4, f2], fun i hi => by rw [s4, g1 i (by omega), c1 i (by omega), s1], ?_⟩
  · rw [s4]
    refine zSg_app (zSg_cg (by rw [← r1]; exact a1) (fun i _ i1 => g1 i i1)) ?_
    have : mF 93 3 = μ 93 3 + (E.length : Int) := by omega
    rw [← this]
    exact a2
  · rw [p4, e2, p3, p2, e1, p1, f1, f2]
