/-! threads: the two shortest are joined, again and again; no other way costs less (depths of a tree; the two shortest can lie deepest) -/
def zhI (v : Int) : List Int → List Int
  | [] => [v]
  | a :: t => if v ≤ a then v :: a :: t else a :: zhI v t
def zhH : Nat → List Int → Int
  | 0, _ => 0
  | k + 1, x :: y :: t => x + y + zhH k (zhI (x + y) t)
  | _ + 1, _ => 0
def zhS (l : List Int) : Prop := l.Pairwise (fun a b => a ≤ b)
theorem zhI_perm (v : Int) : ∀ l, (zhI v l).Perm (v :: l)
  | [] => List.Perm.refl _
  | a :: t => by
    show (if v ≤ a then v :: a :: t else a :: zhI v t).Perm (v :: a :: t)
    split
    · exact List.Perm.refl _
    · exact ((zhI_perm v t).cons a).trans (List.Perm.swap v a t)
theorem zhI_len (v : Int) (l : List Int) : (zhI v l).length = l.length + 1 := (zhI_perm v l).length_eq
theorem zhI_s (v : Int) : ∀ l, zhS l → zhS (zhI v l)
  | [], _ => List.pairwise_singleton _ _
  | a :: t, h => by
    obtain ⟨h1, h2⟩ := List.pairwise_cons.mp h
    show zhS (if v ≤ a then v :: a :: t else a :: zhI v t)
    split
    · rename_i hv
      exact List.pairwise_cons.mpr ⟨fun b hb => by
        rcases List.mem_cons.mp hb with rfl | hb
        · exact hv
        · exact Int.le_trans hv (h1 b hb), h⟩
    · rename_i hv
      refine List.pairwise_cons.mpr ⟨fun b hb => ?_, zhI_s v t h2⟩
      rcases List.mem_cons.mp ((zhI_perm v t).mem_iff.mp hb) with rfl | hb
      · omega
      · exact h1 b hb
/-! sums over lists, whatever their order -/
def zhs : List Int → Int
  | [] => 0
  | a :: t => a + zhs t
theorem zhs_perm {l m : List Int} (h : l.Perm m) : zhs l = zhs m := by
  induction h with
  | nil => rfl
  | cons x _ ih => show x + _ = x + _; rw [ih]
  | swap x y l => show y + (x + zhs l) = x + (y + zhs l); omega
  | trans _ _ i j => rw [i, j]
theorem zhs_app : ∀ l m : List Int, zhs (l ++ m) = zhs l + zhs m
  | [], m => by show zhs m = 0 + zhs m; omega
  | a :: t, m => by show a + zhs (t ++ m) = a + zhs t + zhs m; rw [zhs_app t m]; omega
def zhK (M : Nat) : List Nat → Nat
  | [] => 0
  | d :: t => 2 ^ (M - d) + zhK M t
theorem zhK_perm {M : Nat} {l m : List Nat} (h : l.Perm m) : zhK M l = zhK M m := by
  induction h with
  | nil => rfl
  | cons x _ ih => show 2 ^ (M - x) + _ = 2 ^ (M - x) + _; rw [ih]
  | swap x y l => show 2 ^ (M - y) + (2 ^ (M - x) + zhK M l) = 2 ^ (M - x) + (2 ^ (M - y) + zhK M l); omega
  | trans _ _ i j => rw [i, j]
theorem zhK_app {M : Nat} : ∀ l m : List Nat, zhK M (l ++ m) = zhK M l + zhK M m
  | [], m => by show zhK M m = 0 + zhK M m; omega
  | a :: t, m => by show 2 ^ (M - a) + zhK M (t ++ m) = 2 ^ (M - a) + zhK M t + zhK M m; rw [zhK_app t m]; omega
def zhKr (L : List Nat) : Prop := ∃ M, (∀ d ∈ L, d ≤ M) ∧ zhK M L = 2 ^ M
theorem zhK_sc (D j : Nat) : ∀ L : List Nat, (∀ d ∈ L, d ≤ D) → zhK (D + j) L = 2 ^ j * zhK D L
  | [], _ => rfl
  | d :: t, h => by
    show 2 ^ (D + j - d) + zhK (D + j) t = 2 ^ j * (2 ^ (D - d) + zhK D t)
    rw [zhK_sc D j t (fun x hx => h x (List.mem_cons_of_mem _ hx)), Nat.mul_add, ← Nat.pow_add]
    have := h d (List.mem_cons_self ..)
    rw [show D + j - d = j + (D - d) by omega]
theorem zhKr_at {L : List Nat} (h : zhKr L) {D : Nat} (hD : ∀ d ∈ L, d ≤ D) : zhK D L = 2 ^ D := by
  obtain ⟨M, h1, h2⟩ := h
  by_cases hMD : M ≤ D
  · have e := zhK_sc M (D - M) L h1
    rw [h2, ← Nat.pow_add, show M + (D - M) = D by omega, show D - M + M = D by omega] at e
    exact e
  · have e := zhK_sc D (M - D) L hD
    rw [show D + (M - D) = M by omega, h2, show (2 : Nat) ^ M = 2 ^ (M - D) * 2 ^ D by rw [← Nat.pow_add, show M - D + D = M by omega]] at e
    exact (Nat.eq_of_mul_eq_mul_left (Nat.two_pow_pos _) e).symm
theorem zhK_ev {D : Nat} : ∀ {L : List Nat}, (∀ d ∈ L, d < D) → zhK D L % 2 = 0
  | [], _ => rfl
  | d :: t, h => by
    have h1 := h d (List.mem_cons_self ..)
    have ih := zhK_ev (L := t) (fun x hx => h x (List.mem_cons_of_mem _ hx))
    show (2 ^ (D - d) + zhK D t) % 2 = 0
    rw [show D - d = (D - d - 1) + 1 by omega, Nat.pow_succ]
    omega
theorem zh_two {D : Nat} {L : List Nat} (hD : 1 ≤ D) (hm : ∀ d ∈ L, d ≤ D) (hk : zhK D (D :: L) = 2 ^ D) : D ∈ L := by
  by_cases h : D ∈ L
  · exact h
  · exfalso
    have hev := zhK_ev (D := D) (L := L) (fun d hd => by
      have := hm d hd
      have : d ≠ D := fun e => h (e ▸ hd)
      omega)
    have hk : 2 ^ (D - D) + zhK D L = 2 ^ D := hk
    rw [Nat.sub_self, Nat.pow_zero, show D = (D - 1) + 1 by omega, Nat.pow_succ] at hk
    rw [show D = (D - 1) + 1 by omega] at hev
    omega
def zhc : List (Int × Nat) → Int
  | [] => 0
  | q :: t => q.1 * (q.2 : Int) + zhc t
theorem zhc_perm {l m : List (Int × Nat)} (h : l.Perm m) : zhc l = zhc m := by
  induction h with
  | nil => rfl
  | cons x _ ih => show x.1 * (x.2 : Int) + _ = x.1 * (x.2 : Int) + _; rw [ih]
  | swap x y l => show y.1 * (y.2 : Int) + (x.1 * (x.2 : Int) + zhc l) = x.1 * (x.2 : Int) + (y.1 * (y.2 : Int) + zhc l); omega
  | trans _ _ i j => rw [i, j]
theorem zhc_app : ∀ l m : List (Int × Nat), zhc (l ++ m) = zhc l + zhc m
  | [], m => by show zhc m = 0 + zhc m; omega
  | a :: t, m => by show a.1 * (a.2 : Int) + zhc (t ++ m) = a.1 * (a.2 : Int) + zhc t + zhc m; rw [zhc_app t m]; omega
theorem zh_pick {α β : Type} {f : α → β} {a : β} {l : List β} {P : List α} (h : (a :: l).Perm (P.map f)) : ∃ q R, P.Perm (q :: R) ∧ f q = a ∧ l.Perm (R.map f) := by
  have ha : a ∈ P.map f := h.subset (List.mem_cons_self ..)
  obtain ⟨q, hq, e⟩ := List.mem_map.mp ha
  obtain ⟨A, B, rfl⟩ := List.append_of_mem hq
  refine ⟨q, A ++ B, List.perm_middle, e, ?_⟩
  have h2 := h.trans ((List.perm_middle (a := q) (l₁ := A) (l₂ := B)).map f)
  have h2 : (a :: l).Perm (f q :: (A ++ B).map f) := h2
  rw [e] at h2
  exact h2.cons_inv
theorem zh_swap {y : Int} {t : List Int} {D : Nat} {Q : List (Int × Nat)} (h : (y :: t).Perm (Q.map Prod.fst)) (hy : ∀ b ∈ t, y ≤ b) (hD : D ∈ Q.map Prod.snd) (hm : ∀ d ∈ Q.map Prod.snd, d ≤ D) : ∃ R : List (Int × Nat), t.Perm (R.map Prod.fst) ∧ (Q.map Prod.snd).Perm (D :: R.map Prod.snd) ∧ y * (D : Int) + zhc R ≤ zhc Q := by
  obtain ⟨⟨y', dy⟩, R, h1, h2, h3⟩ := zh_pick h
  have h2 : y' = y := h2
  subst h2
  have hs : (Q.map Prod.snd).Perm (dy :: R.map Prod.snd) := h1.map Prod.snd
  have hc : zhc Q = y' * (dy : Int) + zhc R := zhc_perm h1
  by_cases hd : dy = D
  · subst hd
    exact ⟨R, h3, hs, by rw [hc]; exact Int.le_refl _⟩
  · have hR : D ∈ R.map Prod.snd := by
      rcases List.mem_cons.mp (hs.subset hD) with e | e
      · exact absurd e.symm hd
      · exact e
    obtain ⟨⟨w, d2⟩, hw, e⟩ := List.mem_map.mp hR
    have e : d2 = D := e
    subst e
    have hwt : w ∈ t := h3.mem_iff.mpr (List.mem_map.mpr ⟨(w, d2), hw, rfl⟩)
    obtain ⟨A, B, rfl⟩ := List.append_of_mem hw
    have hp : (A ++ (w, d2) :: B).Perm ((w, d2) :: (A ++ B)) := List.perm_middle
    refine ⟨(w, dy) :: (A ++ B), h3.trans (hp.map Prod.fst), hs.trans (((hp.map Prod.snd).cons dy).trans (List.Perm.swap d2 dy _)), ?_⟩
    rw [hc, zhc_perm hp]
    show y' * (d2 : Int) + (w * (dy : Int) + zhc (A ++ B)) ≤ y' * (dy : Int) + (w * (d2 : Int) + zhc (A ++ B))
    have hwy := hy w hwt
    have hdd : dy ≤ d2 := hm dy (hs.symm.subset (List.mem_cons_self ..))
    have key := Int.mul_nonneg (show 0 ≤ w - y' by omega) (show (0 : Int) ≤ (d2 : Int) - (dy : Int) by omega)
    rw [Int.sub_mul, Int.mul_sub, Int.mul_sub] at key
    omega
theorem zh_mx : ∀ {L : List Nat}, L ≠ [] → ∃ D, D ∈ L ∧ ∀ d ∈ L, d ≤ D
  | [], h => absurd rfl h
  | [a], _ => ⟨a, List.mem_cons_self .., fun d hd => by rw [List.mem_singleton.mp hd]; exact Nat.le_refl _⟩
  | a :: b :: t, _ => by
    obtain ⟨D, h1, h2⟩ := zh_mx (L := b :: t) (by simp)
    by_cases h : D ≤ a
    · exact ⟨a, List.mem_cons_self .., fun d hd => by
        rcases List.mem_cons.mp hd with rfl | hd
        · exact Nat.le_refl _
        · have := h2 d hd; omega⟩
    · exact ⟨D, List.mem_cons_of_mem _ h1, fun d hd => by
        rcases List.mem_cons.mp hd with rfl | hd
        · omega
        · exact h2 d hd⟩
/-- no depths of a tree cost less -/
theorem zh_low : ∀ (n : Nat) (S : List Int) (P : List (Int × Nat)), S.length = n → zhS S → S.Perm (P.map Prod.fst) → zhKr (P.map Prod.snd) → zhH n S ≤ zhc P
  | 0, S, P, hn, _, hp, _ => by
    have hS : S = [] := List.eq_nil_of_length_eq_zero hn
    have hl := hp.length_eq
    rw [hS, List.length_map] at hl
    have hP : P = [] := List.eq_nil_of_length_eq_zero hl.symm
    rw [hP]
    exact Int.le_refl _
  | n + 1, [], P, hn, _, _, _ => by cases hn
  | n + 1, [x], P, hn, _, hp, hk => by
    obtain ⟨q, R, h1, h2, h3⟩ := zh_pick hp
    have hR : R = [] := by
      have := h3.length_eq
      rw [List.length_map] at this
      exact List.eq_nil_of_length_eq_zero this.symm
    subst hR
    have hs : (P.map Prod.snd).Perm [q.2] := h1.map Prod.snd
    have hk2 := zhKr_at hk (D := q.2) (fun d hd => by rw [List.mem_singleton.mp (hs.subset hd)]; exact Nat.le_refl _)
    rw [zhK_perm hs] at hk2
    have hk2 : 2 ^ (q.2 - q.2) + 0 = 2 ^ q.2 := hk2
    rw [Nat.sub_self] at hk2
    have h0 : q.2 = 0 := by
      by_cases hq : q.2 = 0
      · exact hq
      · rw [show q.2 = (q.2 - 1) + 1 by omega, Nat.pow_succ] at hk2
        omega
    rw [zhc_perm h1]
    show 0 ≤ q.1 * (q.2 : Int) + 0
    rw [h0]
    simp
  | n + 1, x :: y :: t, P, hn, hS, hp, hk => by
    obtain ⟨h1, hS2⟩ := List.pairwise_cons.mp hS
    obtain ⟨h2, hS3⟩ := List.pairwise_cons.mp hS2
    have hne : P.map Prod.snd ≠ [] := fun e => by
      have := hp.length_eq
      rw [List.length_map, ← List.length_map (f := Prod.snd) (as := P), e] at this
      cases this
    obtain ⟨D, hD, hm⟩ := zh_mx hne
    obtain ⟨R, r1, r2, r3⟩ := zh_swap hp h1 hD hm
    have hkD := zhKr_at hk hm
    rw [zhK_perm r2] at hkD
    have hmR : ∀ d ∈ R.map Prod.snd, d ≤ D := fun d hd => hm d (r2.symm.subset (List.mem_cons_of_mem _ hd))
    have hD1 : 1 ≤ D := by
      by_cases h0 : D = 0
      · exfalso
        subst h0
        have hkD : 2 ^ (0 - 0) + zhK 0 (R.map Prod.snd) = 2 ^ 0 := hkD
        cases R with
        | nil =>
          have := r1.length_eq
          cases this
        | cons q R' =>
          have hkD : 2 ^ (0 - 0) + (2 ^ (0 - q.2) + zhK 0 (R'.map Prod.snd)) = 2 ^ 0 := hkD
          have := Nat.two_pow_pos (0 - q.2)
          omega
      · omega
    have hD2 := zh_two hD1 hmR hkD
    obtain ⟨R2, s1, s2, s3⟩ := zh_swap r1 h2 hD2 hmR
    have hkD : 2 ^ (D - D) + zhK D (R.map Prod.snd) = 2 ^ D := hkD
    rw [zhK_perm s2] at hkD
    have hkD : 2 ^ (D - D) + (2 ^ (D - D) + zhK D (R2.map Prod.snd)) = 2 ^ D := hkD
    rw [Nat.sub_self, Nat.pow_zero] at hkD
    have ih := zh_low n (zhI (x + y) t) ((x + y, D - 1) :: R2) (by rw [zhI_len]; simp at hn; omega) (zhI_s _ _ hS3) ((zhI_perm (x + y) t).trans (s1.cons (x + y))) ⟨D, fun d hd => by
      have hd : d ∈ (D - 1) :: R2.map Prod.snd := hd
      rcases List.mem_cons.mp hd with rfl | hd
      · omega
      · exact hmR d (s2.symm.subset (List.mem_cons_of_mem _ hd)), by
      show 2 ^ (D - (D - 1)) + zhK D (R2.map Prod.snd) = 2 ^ D
      rw [show D - (D - 1) = 1 by omega]
      omega⟩
    have ih : zhH n (zhI (x + y) t) ≤ (x + y) * ((D - 1 : Nat) : Int) + zhc R2 := ih
    rw [show ((D - 1 : Nat) : Int) = (D : Int) - 1 by omega, Int.mul_sub, Int.add_mul, Int.mul_one] at ih
    show x + y + zhH n (zhI (x + y) t) ≤ zhc P
    omega
/-! sets of threads, by bits -/
def zhw (w : Nat → Int) : Nat → Nat → Int
  | 0, _ => 0
  | n + 1, s => zhw w n s + if s.testBit n = true then w n else 0
theorem zh_bits {a b : Nat} (h : a &&& b = 0) (e : Nat) : ¬ (a.testBit e = true ∧ b.testBit e = true) := fun q => by
  have : (a &&& b).testBit e = true := by rw [Nat.testBit_and, q.1, q.2]; rfl
  rw [h, Nat.zero_testBit] at this
  cases this
theorem zhw_or {w : Nat → Int} {a b : Nat} (h : a &&& b = 0) : ∀ n, zhw w n (a ||| b) = zhw w n a + zhw w n b
  | 0 => rfl
  | n + 1 => by
    show zhw w n (a ||| b) + (if (a ||| b).testBit n = true then w n else 0) = zhw w n a + (if a.testBit n = true then w n else 0) + (zhw w n b + (if b.testBit n = true then w n else 0))
    rw [zhw_or h n, Nat.testBit_or]
    have := zh_bits h n
    cases ha : a.testBit n <;> cases hb : b.testBit n
    · simp
    · simp; omega
    · simp; omega
    · exact absurd ⟨ha, hb⟩ this
def zhn (e : Nat) : List Nat → Nat
  | [] => 0
  | m :: t => (if m.testBit e = true then 1 else 0) + zhn e t
theorem zhn_perm {e : Nat} {l m : List Nat} (h : l.Perm m) : zhn e l = zhn e m := by
  induction h with
  | nil => rfl
  | cons x _ ih => show _ + _ = _ + _; rw [ih]
  | swap x y l => show (if y.testBit e = true then 1 else 0) + ((if x.testBit e = true then 1 else 0) + zhn e l) = (if x.testBit e = true then 1 else 0) + ((if y.testBit e = true then 1 else 0) + zhn e l); omega
  | trans _ _ i j => rw [i, j]
def zhu : List Nat → Nat
  | [] => 0
  | m :: t => m ||| zhu t
theorem zhu_perm {l m : List Nat} (h : l.Perm m) : zhu l = zhu m := by
  induction h with
  | nil => rfl
  | cons x _ ih => show x ||| _ = x ||| _; rw [ih]
  | swap x y l => show y ||| (x ||| zhu l) = x ||| (y ||| zhu l); rw [← Nat.or_assoc, ← Nat.or_assoc, Nat.or_comm y x]
  | trans _ _ i j => rw [i, j]
def zhj (j : Nat → Int) : List Nat → Int
  | [] => 0
  | m :: t => j m + zhj j t
theorem zhj_perm {j : Nat → Int} {l m : List Nat} (h : l.Perm m) : zhj j l = zhj j m := by
  induction h with
  | nil => rfl
  | cons x _ ih => show j x + _ = j x + _; rw [ih]
  | swap x y l => show j y + (j x + zhj j l) = j x + (j y + zhj j l); omega
  | trans _ _ i j => rw [i, j]
/-- of each two sets without a thread in common: no more than both and what all of it is -/
def zhP2 (w : Nat → Int) (n : Nat) (j : Nat → Int) : Prop := ∀ a b, a ≠ 0 → b ≠ 0 → a &&& b = 0 → a ||| b < 2 ^ n → j (a ||| b) ≤ j a + j b + zhw w n (a ||| b)
/-- joining the two shortest is one way -/
theorem zh_up {w : Nat → Int} {n : Nat} {j : Nat → Int} (hj : zhP2 w n j) : ∀ (k : Nat) (F : List Nat) (S : List Int), F.length = k → F ≠ [] → zhS S → S.Perm (F.map (zhw w n)) → (∀ m ∈ F, m ≠ 0) → (∀ e, zhn e F ≤ 1) → zhu F < 2 ^ n → j (zhu F) ≤ zhj j F + zhH k S
  | 0, F, S, hk, hne, _, _, _, _, _ => absurd (List.eq_nil_of_length_eq_zero hk) hne
  | k + 1, F, [], hk, hne, _, hp, _, _, _ => by
    have := hp.length_eq
    rw [List.length_map, hk] at this
    cases this
  | k + 1, F, [x], hk, hne, _, hp, _, _, _ => by
    obtain ⟨q, R, h1, h2, h3⟩ := zh_pick hp
    have hR : R = [] := by
      have := h3.length_eq
      rw [List.length_map] at this
      exact List.eq_nil_of_length_eq_zero this.symm
    subst hR
    rw [zhu_perm h1, zhj_perm h1]
    show j (q ||| 0) ≤ j q + 0 + 0
    rw [Nat.or_zero]
    omega
  | k + 1, F, x :: y :: t, hk, hne, hS, hp, hnz, hc, hlt => by
    obtain ⟨-, hS2⟩ := List.pairwise_cons.mp hS
    obtain ⟨-, hS3⟩ := List.pairwise_cons.mp hS2
    obtain ⟨a, R, h1, h2, h3⟩ := zh_pick hp
    obtain ⟨b, G, g1, g2, g3⟩ := zh_pick h3
    have hF : F.Perm (a :: b :: G) := h1.trans (g1.cons a)
    have hab : a &&& b = 0 := Nat.eq_of_testBit_eq (fun e => by
      have := hc e
      rw [zhn_perm hF] at this
      have this : (if a.testBit e = true then 1 else 0) + ((if b.testBit e = true then 1 else 0) + zhn e G) ≤ 1 := this
      rw [Nat.testBit_and, Nat.zero_testBit]
      cases ha : a.testBit e <;> cases hb : b.testBit e
      · rfl
      · rfl
      · rfl
      · exfalso
        simp only [ha, hb, if_true] at this
        omega)
    have hu : zhu F = (a ||| b) ||| zhu G := by
      rw [zhu_perm hF]
      show a ||| (b ||| zhu G) = _
      rw [Nat.or_assoc]
    have ha0 := hnz a (hF.symm.subset (List.mem_cons_self ..))
    have hb0 := hnz b (hF.symm.subset (List.mem_cons_of_mem _ (List.mem_cons_self ..)))
    have hle : a ||| b ≤ zhu F := by rw [hu]; exact Nat.left_le_or
    have h2j := hj a b ha0 hb0 hab (by omega)
    have hw : zhw w n (a ||| b) = x + y := by rw [zhw_or hab, h2, g2]
    have ih := zh_up hj k ((a ||| b) :: G) (zhI (x + y) t) (by
        have := hF.length_eq
        rw [hk] at this
        simp at this ⊢
        omega) (by simp) (zhI_s _ _ hS3) (by
        refine (zhI_perm (x + y) t).trans ?_
        show ((x + y) :: t).Perm (zhw w n (a ||| b) :: G.map (zhw w n))
        rw [hw]
        exact g3.cons (x + y)) (fun m hm => by
        rcases List.mem_cons.mp hm with rfl | hm
        · have : a ≤ a ||| b := Nat.left_le_or
          omega
        · exact hnz m (hF.symm.subset (List.mem_cons_of_mem _ (List.mem_cons_of_mem _ hm)))) (fun e => by
        have := hc e
        rw [zhn_perm hF] at this
        have this : (if a.testBit e = true then 1 else 0) + ((if b.testBit e = true then 1 else 0) + zhn e G) ≤ 1 := this
        show (if (a ||| b).testBit e = true then 1 else 0) + zhn e G ≤ 1
        rw [Nat.testBit_or]
        cases ha : a.testBit e <;> cases hb : b.testBit e <;> rw [ha, hb] at this <;> simp at this ⊢ <;> omega) (by
        show (a ||| b) ||| zhu G < 2 ^ n
        rw [← hu]
        exact hlt)
    have ih : j ((a ||| b) ||| zhu G) ≤ j (a ||| b) + zhj j G + zhH k (zhI (x + y) t) := ih
    rw [hu, zhj_perm hF]
    show j ((a ||| b) ||| zhu G) ≤ j a + (j b + zhj j G) + (x + y + zhH k (zhI (x + y) t))
    omega
