/-! the reference reads conditions: its state, step by step -/
theorem zPrl_gt {K V : Int → Int} : ∀ {m : Nat} {j q : Int} {L : List zIw}, zPrl K V m j 0 q L → j ≤ q
  | 0, _, _, _, h => h.elim
  | m + 1, j, q, L, h => by
    rw [zPrl_s] at h
    rcases h with h | h | ⟨h1, h2, M, h, -⟩ | h | h | ⟨h1, h2, h3, M, h, -⟩
    · omega
    · omega
    · have := zPrl_gt h; omega
    · omega
    · omega
    · have := zPrl_gt h; omega
theorem zPro_gt {K V : Int → Int} {j q : Int} {L : List zIw} (h : zPro K V j 0 q L) : j < q := by
  rcases h with h | ⟨-, m, M, h, -⟩
  · omega
  · have := zPrl_gt h; omega
theorem zCm_gt {K V : Int → Int} {j q : Int} {L : List zIw} (h : zCm K V j 0 q L) : j < q := by
  obtain ⟨g, p, M, h1, h2⟩ := h
  rcases h2 with h2 | h2 | ⟨g0, -, N, h2, -⟩
  · omega
  · omega
  · subst g0
    have := zExp_gt h1
    have := zExp_gt h2
    omega
theorem zXp_tt (M : List zIw) {u : zIw} (h : u.1 ≠ 5) : zXp (M ++ [u, (4, 0)]) = zXp M ++ [u] ++ [(4, 0)] := by
  rw [zXp_a, zXp_n _ h, zXp_1 (by show (4 : Int) ≠ 5; decide)]
  simp
theorem zXp_pp (M : List zIw) (v : Int) : zXp (M ++ [(5, v)]) = zXp M ++ [(0, v)] ++ [(5, 0)] := by
  rw [zXp_a, zXp_5]
  simp [zXp]
theorem zXp_x (M : List zIw) {o : Int} (h : o ≠ 5) : zXp (M ++ [(o, 0)]) = zXp M ++ [(o, 0)] := by rw [zXp_a, zXp_1 h]
theorem zXp_tz {o : Int} (h : o ≠ 5) : ∀ k : Nat, zXp (zTz o k) = zTz o k
  | 0 => rfl
  | k + 1 => by rw [zTz_s, zXp_n _ h, zXp_tz h k]
theorem zUc_256 {K V : Int → Int} {j : Int} (h : K j = 256) : zUc K V j = (0, V j) := if_pos h
theorem zMok {x g : Int} {P Q : Prop} (h : (x ≠ -1 ∧ g = 0 ∧ P) ∨ (x = -1 ∧ Q)) (hx : x ≠ -1) : g = 0 ∧ P := by
  rcases h with ⟨-, a⟩ | ⟨a, -⟩
  · exact a
  · exact absurd a hx
theorem zMno {x g : Int} {P Q : Prop} (h : (x ≠ -1 ∧ g = 0 ∧ P) ∨ (x = -1 ∧ g ≠ 0 ∧ Q)) (hx : x = -1) : g ≠ 0 ∧ Q := by
  rcases h with ⟨a, -⟩ | ⟨-, a⟩
  · exact absurd hx a
  · exact a
/-- what the reading of conditions leaves alone -/
def zMw (μ μ' : pm_Mem) : Prop := (∀ r, r ≠ 205 → r ≠ 218 → r ≠ 219 → r ≠ 220 → μ' r = μ r) ∧ (∀ k : Int, k ≠ 12 → k ≠ 13 → k ≠ 14 → k ≠ 15 → k ≠ 25 → k ≠ 26 → k ≠ 28 → k ≠ 29 → k ≠ 30 → μ' 205 k = μ 205 k) ∧ zMz μ μ'
theorem zMw_0 {μ : pm_Mem} : zMw μ μ := ⟨fun _ _ _ _ _ => rfl, fun _ _ _ _ _ _ _ _ _ _ => rfl, zMz_0⟩
theorem zMw_tr {μ μ1 μ2 : pm_Mem} (h : zMw μ μ1) (h' : zMw μ1 μ2) : zMw μ μ2 := ⟨fun r a b c d => (h'.1 r a b c d).trans (h.1 r a b c d), fun k a b c d e f g i j => (h'.2.1 k a b c d e f g i j).trans (h.2.1 k a b c d e f g i j), zMz_tr h.2.2 h'.2.2⟩
theorem zMw_q {μ μ' : pm_Mem} (h : zMq μ μ') : zMw μ μ' := ⟨fun r a b c _ => h.1 r a b c, fun k a b c d e _ _ f g => h.2.1 k a b c d e f g, h.2.2⟩
theorem zMw_r {μ μ' : pm_Mem} (h : zMr μ μ') : zMw μ μ' := zMw_q (zMq_r h)
theorem zMw_5 {μ : pm_Mem} {k x : Int} (hk : k = 26 ∨ k = 28) : zMw μ (pm_up μ 205 k x) := ⟨fun r a _ _ _ => pm_up_row a, fun y _ _ _ _ _ f g _ _ => pm_up_ne (by omega), zMz_eq (pm_up_ne (by omega)) (fun r a b => pm_up_row (by omega))⟩
theorem zMw_20 {μ : pm_Mem} {k x : Int} : zMw μ (pm_up μ 220 k x) := ⟨fun r _ _ _ d => pm_up_row d, fun y _ _ _ _ _ _ _ _ _ => pm_up_off (by decide), zMz_eq (pm_up_off (by decide)) (fun r a b => pm_up_row (by omega))⟩
theorem zMf_w {μ μ' : pm_Mem} (h : zMw μ μ') : zMf μ μ' := ⟨fun r a b c _ _ _ _ d _ _ _ => h.1 r a b c d, fun k a b c d e f g i j => h.2.1 k a b c d e f g i j, fun i _ => by rw [h.1 223 (by decide) (by decide) (by decide) (by decide)], fun i _ => by rw [h.1 221 (by decide) (by decide) (by decide) (by decide)], fun i _ => by rw [h.1 222 (by decide) (by decide) (by decide) (by decide)], h.2.2⟩
/-- settled: of m0 that waited m are left, k came out -/
def zSe (μ0 μ : pm_Mem) (o : Int) (m0 m k : Nat) : Prop := m0 = m + k ∧ μ 205 28 = (m : Int) ∧ zPl_TT (μ0 220) m0 = zTm o k (zPl_TT (μ0 220) m) ∧ zRe μ0 μ (zTz o k) ∧ zMw μ0 μ ∧ μ 220 = μ0 220 ∧ (∀ i : Int, i = 12 ∨ i = 13 ∨ i = 14 ∨ i = 15 → μ 205 i = μ0 205 i) ∧ μ 205 26 = μ0 205 26 - (if o = 9 then (k : Int) else 0)
theorem zSe_0 {μ : pm_Mem} {o : Int} {m : Nat} (h : μ 205 28 = (m : Int)) : zSe μ μ o m m 0 := ⟨rfl, h, rfl, zRe_0, zMw_0, rfl, fun _ _ => rfl, by split <;> omega⟩
theorem zSe_s {μ0 μ μ1 μ2 μ' : pm_Mem} {o : Int} {m0 m k : Nat} (h : zSe μ0 μ o m0 (m + 1) k) (ht : μ0 220 (m : Int) = o) (e1 : μ1 = pm_up μ 205 28 (m : Int)) (hE : zE1 μ1 μ2 o 0) (h2 : (o ≠ 9 ∧ μ' = μ2) ∨ (o = 9 ∧ μ' = pm_up μ2 205 26 (μ2 205 26 - 1))) : zSe μ0 μ' o m0 m (k + 1) := by
  obtain ⟨a1, a2, a3, a4, a5, a6, a7, a8⟩ := h
  obtain ⟨b1, b2⟩ := zRe_e hE
  have hq := zMq_e hE
  have f1 : ∀ r, r ≠ 205 → μ1 r = μ r := fun r hr => by rw [e1, pm_up_row hr]
  have f2 : ∀ i : Int, i ≠ 28 → μ1 205 i = μ 205 i := fun i hi => by rw [e1, pm_up_ne hi]
  have f3 : ∀ r, r ≠ 205 → μ' r = μ2 r := fun r hr => by
    rcases h2 with ⟨-, h2⟩ | ⟨-, h2⟩
    · rw [h2]
    · rw [h2, pm_up_row hr]
  have f4 : ∀ i : Int, i ≠ 26 → μ' 205 i = μ2 205 i := fun i hi => by
    rcases h2 with ⟨-, h2⟩ | ⟨-, h2⟩
    · rw [h2]
    · rw [h2, pm_up_ne hi]
  have g28 : μ2 205 28 = (m : Int) := by rw [hE.2.2.2.2.2.2 28 (by decide), e1, pm_up_eq]
  have g26 : μ2 205 26 = μ 205 26 := by rw [hE.2.2.2.2.2.2 26 (by decide), f2 26 (by decide)]
  refine ⟨by omega, by rw [f4 28 (by decide)]; exact g28, ?_, ?_, ?_, ?_, fun i hi => ?_, ?_⟩
  · rw [a3, zPl_s, ht, zTm_r]
  · rw [← zTz_r]
    refine zRe_tr a4 (zRe_fr (zRe_to b1 (f1 218 (by decide)) (f1 219 (by decide)) (f2 25 (by decide))) (f3 218 (by decide)) (f3 219 (by decide)) (f4 25 (by decide)))
  · refine zMw_tr a5 (zMw_tr (by rw [e1]; exact zMw_5 (Or.inr rfl)) (zMw_tr (zMw_q hq) ?_))
    rcases h2 with ⟨-, h2⟩ | ⟨-, h2⟩
    · rw [h2]; exact zMw_0
    · rw [h2]; exact zMw_5 (Or.inl rfl)
  · rw [f3 220 (by decide), hq.1 220 (by decide) (by decide) (by decide), f1 220 (by decide), a6]
  · rw [f4 i (by omega), hE.2.2.2.2.2.2 i (by omega), f2 i (by omega), a7 i hi]
  · rcases h2 with ⟨h9, h2⟩ | ⟨h9, h2⟩
    · rw [if_neg h9] at a8 ⊢
      rw [h2, g26, a8]
    · rw [if_pos h9] at a8 ⊢
      rw [h2, pm_up_eq, g26, a8]
      omega
/-! of lists -/
def zTtp (o : Int) : List Int → Prop
  | [] => True
  | x :: _ => x ≠ o
theorem zTtp_pl {R : Int → Int} {m : Nat} {o : Int} (h : m = 0 ∨ R ((m : Int) - 1) ≠ o) : zTtp o (zPl_TT R m) := by
  cases m with
  | zero => trivial
  | succ m =>
    rcases h with h | h
    · omega
    · rw [show ((m + 1 : Nat) : Int) - 1 = (m : Int) by omega] at h
      exact h
theorem zPl_len (R : Int → Int) : ∀ m : Nat, (zPl_TT R m).length = m
  | 0 => rfl
  | m + 1 => by rw [zPl_s, List.length_cons, zPl_len R m]
theorem zOn_9 (P : List Int) : ∀ k : Nat, zOn (zTm 9 k P) = zOn P + (k : Int)
  | 0 => by show zOn P = _; omega
  | k + 1 => by rw [zTm_s, zOn_c, zOn_9 P k, if_pos (Or.inl rfl)]; omega
theorem zOn_o {o : Int} (h9 : o ≠ 9) (h12 : o ≠ 12) (P : List Int) : ∀ k : Nat, zOn (zTm o k P) = zOn P
  | 0 => rfl
  | k + 1 => by rw [zTm_s, zOn_c, zOn_o h9 h12 P k, if_neg (by omega)]; omega
theorem zBn_o {o : Int} (h12 : o ≠ 12) (P : List Int) : ∀ k : Nat, zBn (zTm o k P) = zBn P
  | 0 => rfl
  | k + 1 => by rw [zTm_s, zBn_c, zBn_o h12 P k, if_neg h12]; omega
theorem zOn_0 (P : List Int) : 0 ≤ zOn P := by have := zOB P; omega
theorem zSk_t9 {P : List Int} : ∀ k : Nat, zSk (zTm 9 k P) 3 → zTtp 9 P → zSk P 2
  | 0, h, ht => by
    cases P with
    | nil => trivial
    | cons x P =>
      have ht : x ≠ 9 := ht
      have h : zSk (x :: P) 3 := h
      rw [zSk_c] at h ⊢
      rcases h with h | ⟨h1, h2, h3⟩ | ⟨h1, h2, h3⟩ | ⟨h1, -⟩
      · exact Or.inl h
      · exact Or.inr (Or.inl ⟨h1, by omega, h3⟩)
      · exact Or.inr (Or.inr (Or.inl ⟨h1, by omega, h3⟩))
      · exact absurd h1 ht
  | k + 1, h, ht => by
    rw [zTm_s, zSk_c] at h
    rcases h with ⟨h, -⟩ | ⟨h, -⟩ | ⟨h, -⟩ | ⟨-, -, h⟩
    · omega
    · omega
    · omega
    · exact zSk_t9 k h ht
theorem zSk_t10 {P : List Int} {k : Nat} (h : zSk (zTm 10 k P) 2) (ht : zTtp 10 P) : zSk P 1 ∧ k ≤ 1 := by
  match k, h with
  | 0, h =>
    refine ⟨?_, by omega⟩
    cases P with
    | nil => trivial
    | cons x P =>
      have ht : x ≠ 10 := ht
      have h : zSk (x :: P) 2 := h
      rw [zSk_c] at h ⊢
      rcases h with h | ⟨h1, h2, h3⟩ | ⟨h1, -⟩ | ⟨h1, h2, -⟩
      · exact Or.inl h
      · exact Or.inr (Or.inl ⟨h1, by omega, h3⟩)
      · exact absurd h1 ht
      · omega
  | 1, h =>
    have h : zSk (10 :: P) 2 := h
    rw [zSk_c] at h
    rcases h with ⟨h, -⟩ | ⟨h, -⟩ | ⟨-, -, h⟩ | ⟨h, -⟩
    · omega
    · omega
    · exact ⟨h, by omega⟩
    · omega
  | k + 2, h =>
    have h : zSk (10 :: 10 :: zTm 10 k P) 2 := h
    rw [zSk_c] at h
    rcases h with ⟨h, -⟩ | ⟨h, -⟩ | ⟨-, -, h⟩ | ⟨h, -⟩
    · omega
    · omega
    · rw [zSk_c] at h
      rcases h with ⟨h, -⟩ | ⟨h, -⟩ | ⟨-, h, -⟩ | ⟨h, -⟩ <;> omega
    · omega
theorem zSk_t11 {P : List Int} {k : Nat} (h : zSk (zTm 11 k P) 1) (ht : zTtp 11 P) : zSk P 0 ∧ k ≤ 1 := by
  match k, h with
  | 0, h =>
    refine ⟨?_, by omega⟩
    cases P with
    | nil => trivial
    | cons x P =>
      have ht : x ≠ 11 := ht
      have h : zSk (x :: P) 1 := h
      rw [zSk_c] at h ⊢
      rcases h with h | ⟨h1, -⟩ | ⟨h1, h2, -⟩ | ⟨h1, h2, -⟩
      · exact Or.inl h
      · exact absurd h1 ht
      · omega
      · omega
  | 1, h =>
    have h : zSk (11 :: P) 1 := h
    rw [zSk_c] at h
    rcases h with ⟨h, -⟩ | ⟨-, -, h⟩ | ⟨h, -⟩ | ⟨h, -⟩
    · omega
    · exact ⟨h, by omega⟩
    · omega
    · omega
  | k + 2, h =>
    have h : zSk (11 :: 11 :: zTm 11 k P) 1 := h
    rw [zSk_c] at h
    rcases h with ⟨h, -⟩ | ⟨-, -, h⟩ | ⟨h, -⟩ | ⟨h, -⟩
    · omega
    · rw [zSk_c] at h
      rcases h with ⟨h, -⟩ | ⟨-, h, -⟩ | ⟨h, -⟩ | ⟨h, -⟩ <;> omega
    · omega
    · omega
/-- an or that waits, where no and follows -/
theorem zRx1_11 {K V : Int → Int} {P : List Int} {o p f q : Int} {L : List zIw} (hP : zSk P 0) (hk : K p ≠ 316) (h : zRx1 K V 0 P o p f q L) : zRx1 K V 0 (11 :: P) o p f q ((11, 0) :: L) := by
  by_cases h5 : K p = 315
  · obtain ⟨m, h⟩ := h
    refine zRx1_o11 h5 ?_
    cases m with
    | zero => exact h.elim
    | succ m =>
      cases P with
      | nil =>
        rw [zRn1_e] at h
        rcases h with ⟨h, -⟩ | ⟨-, h⟩ | ⟨h, -⟩
        · omega
        · exact ⟨m, h⟩
        · omega
      | cons x P =>
        rw [zSk_c] at hP
        have hx : x = 12 := by omega
        subst hx
        rw [zRn1_c] at h
        rcases h with ⟨h, -⟩ | ⟨h, -⟩ | ⟨h, -⟩ | ⟨-, ⟨h, -⟩ | ⟨-, h⟩ | ⟨h, -⟩⟩
        · omega
        · omega
        · omega
        · omega
        · exact ⟨m, h⟩
        · omega
  · exact zRx1_e11 h5 hk h
/-! the state -/
section ZAG
variable {T : Int → Int} {LL : Int} {K S V : Int → Int} {N : Int} {P : Nat → Int} {μ0 μ μ1 μ2 μ3 μ4 : pm_Mem} {j0 q j p : Int} {td r m m' k : Nat}
def zAg (T : Int → Int) (LL : Int) (K S V : Int → Int) (N : Int) (P : Nat → Int) (μ0 : pm_Mem) (j0 : Int) (td r : Nat) (q : Int) (m : Nat) (j : Int) (μ : pm_Mem) : Prop := (zMx T LL K S V N P μ ∧ zMs K S V N P j μ ∧ zMw μ0 μ) ∧ (μ 205 28 = (m : Int) ∧ μ 205 26 = zOn (zPl_TT (μ 220) m) ∧ q = zBn (zPl_TT (μ 220) m) ∧ zSk (zPl_TT (μ 220) m) r) ∧ (∃ Lp, zRe μ0 μ (zXp Lp) ∧ ∀ f q L, zRx1 K V td (zPl_TT (μ 220) m) (μ 205 26) j f q L → zRx1 K V 1 [] 0 j0 f q (Lp ++ L)) ∧ (μ 205 25 + (m : Int) + j0 ≤ μ0 205 25 + j ∧ μ0 205 25 ≤ j0)
theorem zAg_26 (h : zAg T LL K S V N P μ0 j0 td r q m j μ) (hr : r ≤ 3) (h8 : μ 205 26 ≤ 8) : m ≤ 26 := by
  have := zSk_26 h.2.1.2.2.2 hr (by have := h.2.1.2.1; omega)
  rw [zPl_len] at this
  exact this
theorem zAg_0 {j : Int} {μ' : pm_Mem} (hx : zMx T LL K S V N P μ) (hm : zMs K S V N P j μ) (h26 : μ 205 26 = 0) (hcl : μ 205 25 ≤ j) (e : μ' = pm_up μ 205 28 0) : zAg T LL K S V N P μ j 1 3 0 0 j μ' := by
  have e5 : ∀ i : Int, i ≠ 28 → μ' 205 i = μ 205 i := fun i hi => by rw [e, pm_up_ne hi]
  have er : ∀ r, r ≠ 205 → μ' r = μ r := fun r hr => by rw [e, pm_up_row hr]
  have hw : zMw μ μ' := by rw [e]; exact zMw_5 (Or.inr rfl)
  refine ⟨⟨zMx_f hx (zMf_w hw), zMs_of hm (fun i hi => e5 i (by omega)), hw⟩, ⟨by rw [e, pm_up_eq]; rfl, by rw [e5 26 (by decide)]; exact h26, rfl, trivial⟩, ⟨[], zRe_fr zRe_0 (er 218 (by decide)) (er 219 (by decide)) (e5 25 (by decide)), fun f q L h => ?_⟩, by rw [e5 25 (by decide)]; omega, hcl⟩
  rw [e5 26 (by decide), h26] at h
  exact h
/-- something more waits -/
theorem zAg_up {q' v o' : Int} (h : zAg T LL K S V N P μ0 j0 td r q m j μ) (hkj : K j ≠ 257) (e1 : (μ1 = μ ∧ o' = μ 205 26) ∨ (μ1 = pm_up μ 205 26 (μ 205 26 + 1) ∧ o' = μ 205 26 + 1)) (e2 : μ2 = pm_up μ1 220 (μ1 205 28) v) (e3 : μ3 = pm_up μ2 205 28 (μ1 205 28 + 1)) (hr : zRx μ3 μ4) (ho : o' = zOn (v :: zPl_TT (μ 220) m)) (hq : q' = zBn (v :: zPl_TT (μ 220) m)) (hs : zSk (v :: zPl_TT (μ 220) m) 3) (hR : ∀ f q L, zRx1 K V 1 (v :: zPl_TT (μ 220) m) o' (j + 1) f q L → zRx1 K V td (zPl_TT (μ 220) m) (μ 205 26) j f q L) : zAg T LL K S V N P μ0 j0 1 3 q' (m + 1) (j + 1) μ4 := by
  obtain ⟨⟨a1, a2, a3⟩, ⟨b1, b2, b3, b4⟩, ⟨Lp, c1, c2⟩, d1, d2⟩ := h
  have f1 : ∀ r, r ≠ 205 → μ1 r = μ r := fun r hr => by
    rcases e1 with ⟨e, -⟩ | ⟨e, -⟩
    · rw [e]
    · rw [e, pm_up_row hr]
  have f2 : ∀ i : Int, i ≠ 26 → μ1 205 i = μ 205 i := fun i hi => by
    rcases e1 with ⟨e, -⟩ | ⟨e, -⟩
    · rw [e]
    · rw [e, pm_up_ne hi]
  have f3 : μ1 205 26 = o' := by
    rcases e1 with ⟨e, e'⟩ | ⟨e, e'⟩
    · rw [e, e']
    · rw [e, e', pm_up_eq]
  have hw1 : zMw μ μ1 := by
    rcases e1 with ⟨e, -⟩ | ⟨e, -⟩
    · rw [e]; exact zMw_0
    · rw [e]; exact zMw_5 (Or.inl rfl)
  have hw3 : zMw μ μ3 := zMw_tr hw1 (zMw_tr (μ1 := μ2) (by rw [e2]; exact zMw_20) (by rw [e3]; exact zMw_5 (Or.inr rfl)))
  have g28 : μ1 205 28 = (m : Int) := by rw [f2 28 (by decide), b1]
  rw [g28] at e2 e3
  have h5 : ∀ i : Int, i ≠ 28 → μ3 205 i = μ1 205 i := fun i hi => by rw [e3, pm_up_ne hi, e2, pm_up_off (by decide)]
  have h20 : ∀ i : Int, i ≠ (m : Int) → μ3 220 i = μ 220 i := fun i hi => by rw [e3, pm_up_off (by decide), e2, pm_up_ne hi, f1 220 (by decide)]
  have h20m : μ3 220 (m : Int) = v := by rw [e3, pm_up_off (by decide), e2, pm_up_eq]
  have hf := hr.1
  have i20 : μ4 220 = μ3 220 := hf.1 220 (by decide)
  have hPl : zPl_TT (μ4 220) (m + 1) = v :: zPl_TT (μ 220) m := by
    rw [zPl_s, i20, h20m, zPl_cg (fun i _ i1 => h20 i (by omega))]
  have hx3 := zMx_f a1 (zMf_w hw3)
  have hm3 : zMs K S V N P j μ3 := zMs_of a2 (fun i hi => by rw [h5 i (by omega), f2 i (by omega)])
  have hjn : j < N := by
    rcases zMs_k a1 a2 with ⟨hk, -⟩ | ⟨hk, -⟩
    · have := a2.1
      have hn : j ≠ N := fun he => by
        have := a1.1.2.2.2.1
        rw [← he] at this
        exact hkj this
      omega
    · exact absurd hk hkj
  have k26 : μ4 205 26 = o' := by rw [hf.2 26 (by decide) (by decide) (by decide) (by decide), h5 26 (by decide), f3]
  have k25 : μ4 205 25 = μ 205 25 := by rw [hf.2 25 (by decide) (by decide) (by decide) (by decide), h5 25 (by decide), f2 25 (by decide)]
  have k28 : μ4 205 28 = (m : Int) + 1 := by rw [hf.2 28 (by decide) (by decide) (by decide) (by decide), e3, pm_up_eq]
  refine ⟨⟨zMx_f hx3 (zMf_fr hf), zMs_rd hx3 hm3 hjn hr, zMw_tr a3 (zMw_tr hw3 (zMw_r (zMr_fr hf)))⟩, ⟨by rw [k28]; omega, by rw [hPl, k26, ho], by rw [hPl]; exact hq, by rw [hPl]; exact hs⟩, ⟨Lp, zRe_fr c1 ?_ ?_ k25, fun f q L hL => ?_⟩, by omega, d2⟩
  · rw [hf.1 218 (by decide), e3, pm_up_row (by decide), e2, pm_up_row (by decide), f1 218 (by decide)]
  · rw [hf.1 219 (by decide), e3, pm_up_row (by decide), e2, pm_up_row (by decide), f1 219 (by decide)]
  · rw [hPl, k26] at hL
    exact c2 f q L (hR f q L hL)
end ZAG
