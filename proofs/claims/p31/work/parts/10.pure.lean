/-! sx: A CHECKER OF BYTECODE BY SYMBOLS, AND ITS TRUTH. This part: linear forms over symbols, bounds, constraints. A run's values are a list ρ; a symbol is a place in it. -/
abbrev sx_LF : Type := Int × List (Nat × Int)
/-- the number that a symbol stands for -/
def sx_iv (ρ : List Value) (z : Nat) : Option Int := match ρ[z]? with
  | some (.int x) => some x.toInt
  | some (.long x) => some x.toInt
  | _ => none
def sx_ts (ρ : List Value) : List (Nat × Int) → Option Int
  | [] => some 0
  | q :: t => match sx_iv ρ q.1, sx_ts ρ t with
    | some v, some r => some (q.2 * v + r)
    | _, _ => none
def sx_lf (ρ : List Value) (f : sx_LF) : Option Int := match sx_ts ρ f.2 with
  | some r => some (f.1 + r)
  | none => none
theorem sx_iv_ext {ρ ρ2 : List Value} {z : Nat} {v : Int} (h : sx_iv ρ z = some v) : sx_iv (ρ ++ ρ2) z = some v := by
  unfold sx_iv at h ⊢
  cases hz : ρ[z]? with
  | none => rw [hz] at h; cases h
  | some x =>
    have hlt : z < ρ.length := (List.getElem?_eq_some_iff.mp hz).1
    rw [List.getElem?_append_left hlt, hz]
    rw [hz] at h
    exact h
theorem sx_ts_cons {ρ : List Value} {q : Nat × Int} {t : List (Nat × Int)} {n : Int} : sx_ts ρ (q :: t) = some n ↔ ∃ v r, sx_iv ρ q.1 = some v ∧ sx_ts ρ t = some r ∧ n = q.2 * v + r := by
  constructor
  · intro h
    simp only [sx_ts] at h
    cases h1 : sx_iv ρ q.1 with
    | none => rw [h1] at h; simp at h
    | some v =>
      cases h2 : sx_ts ρ t with
      | none => rw [h1, h2] at h; simp at h
      | some r =>
        rw [h1, h2] at h
        simp at h
        exact ⟨v, r, rfl, rfl, h.symm⟩
  · rintro ⟨v, r, h1, h2, h3⟩
    simp only [sx_ts, h1, h2, h3]
theorem sx_ts_ext {ρ ρ2 : List Value} : ∀ {t : List (Nat × Int)} {n : Int}, sx_ts ρ t = some n → sx_ts (ρ ++ ρ2) t = some n
  | [], n, h => h
  | q :: t, n, h => by
    obtain ⟨v, r, h1, h2, h3⟩ := sx_ts_cons.mp h
    exact sx_ts_cons.mpr ⟨v, r, sx_iv_ext h1, sx_ts_ext h2, h3⟩
theorem sx_lf_iff {ρ : List Value} {f : sx_LF} {n : Int} : sx_lf ρ f = some n ↔ ∃ r, sx_ts ρ f.2 = some r ∧ n = f.1 + r := by
  unfold sx_lf
  cases h : sx_ts ρ f.2 with
  | none => simp
  | some r =>
    simp
    exact ⟨fun e => e.symm, fun e => e.symm⟩
theorem sx_lf_ext {ρ ρ2 : List Value} {f : sx_LF} {n : Int} (h : sx_lf ρ f = some n) : sx_lf (ρ ++ ρ2) f = some n := by
  obtain ⟨r, h1, h2⟩ := sx_lf_iff.mp h
  exact sx_lf_iff.mpr ⟨r, sx_ts_ext h1, h2⟩
/-- one term more, in the order of the symbols -/
def sx_ins (z : Nat) (k : Int) : List (Nat × Int) → List (Nat × Int)
  | [] => if k = 0 then [] else [(z, k)]
  | q :: t => if z = q.1 then (if q.2 + k = 0 then t else (q.1, q.2 + k) :: t) else if z < q.1 then (if k = 0 then q :: t else (z, k) :: q :: t) else q :: sx_ins z k t
theorem sx_ins_ok {ρ : List Value} {z : Nat} {k v : Int} (hz : sx_iv ρ z = some v) : ∀ {t : List (Nat × Int)} {r : Int}, sx_ts ρ t = some r → sx_ts ρ (sx_ins z k t) = some (k * v + r)
  | [], r, h => by
    simp only [sx_ts] at h
    cases h
    unfold sx_ins
    split
    · rename_i hk; subst hk; simp [sx_ts]
    · exact sx_ts_cons.mpr ⟨v, 0, hz, rfl, rfl⟩
  | q :: t, r, h => by
    obtain ⟨w, s, h1, h2, h3⟩ := sx_ts_cons.mp h
    unfold sx_ins
    split
    · rename_i hq
      rw [← hq, hz] at h1
      cases h1
      split
      · rename_i hk
        rw [h2, h3]
        congr 1
        have : k * v + (q.2 * v + s) = (q.2 + k) * v + s := by rw [Int.add_mul]; omega
        rw [this, hk]; simp
      · refine sx_ts_cons.mpr ⟨v, s, by rw [← hq]; exact hz, h2, ?_⟩
        simp only [h3]
        rw [Int.add_mul]; omega
    · split
      · split
        · rename_i hk; subst hk; rw [h]; simp
        · exact sx_ts_cons.mpr ⟨v, r, hz, h, rfl⟩
      · refine sx_ts_cons.mpr ⟨w, k * v + s, h1, sx_ins_ok hz h2, ?_⟩
        rw [h3]; omega
def sx_addT (a b : List (Nat × Int)) : List (Nat × Int) := a.foldr (fun q acc => sx_ins q.1 q.2 acc) b
theorem sx_addT_ok {ρ : List Value} {b : List (Nat × Int)} {m : Int} (hb : sx_ts ρ b = some m) : ∀ {a : List (Nat × Int)} {n : Int}, sx_ts ρ a = some n → sx_ts ρ (sx_addT a b) = some (n + m)
  | [], n, h => by
    simp only [sx_ts] at h
    cases h
    simpa [sx_addT] using hb
  | q :: t, n, h => by
    obtain ⟨w, s, h1, h2, h3⟩ := sx_ts_cons.mp h
    have := sx_ins_ok (k := q.2) h1 (sx_addT_ok hb h2)
    show sx_ts ρ (sx_ins q.1 q.2 (sx_addT t b)) = _
    rw [this, h3]
    congr 1; omega
def sx_mulT (k : Int) (a : List (Nat × Int)) : List (Nat × Int) := if k = 0 then [] else a.map (fun q => (q.1, k * q.2))
theorem sx_mulM_ok {ρ : List Value} {k : Int} : ∀ {a : List (Nat × Int)} {n : Int}, sx_ts ρ a = some n → sx_ts ρ (a.map (fun q => (q.1, k * q.2))) = some (k * n)
  | [], n, h => by
    simp only [sx_ts] at h
    cases h
    simp [sx_ts]
  | q :: t, n, h => by
    obtain ⟨w, s, h1, h2, h3⟩ := sx_ts_cons.mp h
    refine sx_ts_cons.mpr ⟨w, k * s, h1, sx_mulM_ok h2, ?_⟩
    rw [h3, Int.mul_add, Int.mul_assoc]
theorem sx_mulT_ok {ρ : List Value} {k : Int} {a : List (Nat × Int)} {n : Int} (h : sx_ts ρ a = some n) : sx_ts ρ (sx_mulT k a) = some (k * n) := by
  unfold sx_mulT
  split
  · rename_i hk; subst hk; simp [sx_ts]
  · exact sx_mulM_ok h
def sx_add (f g : sx_LF) : sx_LF := (f.1 + g.1, sx_addT f.2 g.2)
def sx_mul (k : Int) (f : sx_LF) : sx_LF := (k * f.1, sx_mulT k f.2)
def sx_sub (f g : sx_LF) : sx_LF := (f.1 - g.1, sx_addT (sx_mulT (-1) g.2) f.2)
def sx_addC (f : sx_LF) (c : Int) : sx_LF := (f.1 + c, f.2)
theorem sx_add_ok {ρ : List Value} {f g : sx_LF} {n m : Int} (hf : sx_lf ρ f = some n) (hg : sx_lf ρ g = some m) : sx_lf ρ (sx_add f g) = some (n + m) := by
  obtain ⟨a, h1, h2⟩ := sx_lf_iff.mp hf
  obtain ⟨b, h3, h4⟩ := sx_lf_iff.mp hg
  refine sx_lf_iff.mpr ⟨a + b, sx_addT_ok h3 h1, ?_⟩
  simp only [sx_add]; omega
theorem sx_mul_ok {ρ : List Value} {k : Int} {f : sx_LF} {n : Int} (hf : sx_lf ρ f = some n) : sx_lf ρ (sx_mul k f) = some (k * n) := by
  obtain ⟨a, h1, h2⟩ := sx_lf_iff.mp hf
  refine sx_lf_iff.mpr ⟨k * a, sx_mulT_ok h1, ?_⟩
  simp only [sx_mul]; rw [h2, Int.mul_add]
theorem sx_sub_ok {ρ : List Value} {f g : sx_LF} {n m : Int} (hf : sx_lf ρ f = some n) (hg : sx_lf ρ g = some m) : sx_lf ρ (sx_sub f g) = some (n - m) := by
  obtain ⟨a, h1, h2⟩ := sx_lf_iff.mp hf
  obtain ⟨b, h3, h4⟩ := sx_lf_iff.mp hg
  refine sx_lf_iff.mpr ⟨-1 * b + a, sx_addT_ok h1 (sx_mulT_ok h3), ?_⟩
  simp only [sx_sub]; omega
theorem sx_addC_ok {ρ : List Value} {f : sx_LF} {n c : Int} (hf : sx_lf ρ f = some n) : sx_lf ρ (sx_addC f c) = some (n + c) := by
  obtain ⟨a, h1, h2⟩ := sx_lf_iff.mp hf
  refine sx_lf_iff.mpr ⟨a, h1, ?_⟩
  simp only [sx_addC]; omega
theorem sx_const_ok {ρ : List Value} (c : Int) : sx_lf ρ (c, []) = some c := sx_lf_iff.mpr ⟨0, rfl, by simp⟩
theorem sx_sym_ok {ρ : List Value} {z : Nat} {v : Int} (h : sx_iv ρ z = some v) : sx_lf ρ (0, [(z, 1)]) = some v :=
  sx_lf_iff.mpr ⟨v, sx_ts_cons.mpr ⟨v, 0, h, rfl, by simp⟩, by simp⟩
/-! types: (0, lo, hi) an int in bounds; (1, lo, hi) a long in bounds; (2, r, _) a reference to a cell of region r; (3, _, _) any reference, or null -/
abbrev sx_Ty : Type := Nat × Int × Int
def sx_ok (Sg : Nat → Option Nat) (v : Value) (t : sx_Ty) : Prop :=
  (t.1 = 0 ∧ ∃ x : Int32, v = .int x ∧ t.2.1 ≤ x.toInt ∧ x.toInt ≤ t.2.2) ∨ (t.1 = 1 ∧ ∃ x : Int64, v = .long x ∧ t.2.1 ≤ x.toInt ∧ x.toInt ≤ t.2.2) ∨
  (t.1 = 2 ∧ ∃ a, v = .ref a ∧ Sg a = some t.2.1.toNat) ∨ (t.1 = 3 ∧ (v = .null ∨ ∃ a, v = .ref a))
def sx_env (Sg : Nat → Option Nat) (E : List sx_Ty) (ρ : List Value) : Prop := ρ.length = E.length ∧ ∀ (z : Nat) (t : sx_Ty) (v : Value), E[z]? = some t → ρ[z]? = some v → sx_ok Sg v t
theorem sx_env_get {Sg : Nat → Option Nat} {E : List sx_Ty} {ρ : List Value} (h : sx_env Sg E ρ) {z : Nat} {t : sx_Ty} (hz : E[z]? = some t) : ∃ v, ρ[z]? = some v ∧ sx_ok Sg v t := by
  have hlt : z < E.length := (List.getElem?_eq_some_iff.mp hz).1
  have hlt2 : z < ρ.length := by rw [h.1]; exact hlt
  exact ⟨ρ[z], List.getElem?_eq_getElem hlt2, h.2 z t _ hz (List.getElem?_eq_getElem hlt2)⟩
theorem sx_env_iv {Sg : Nat → Option Nat} {E : List sx_Ty} {ρ : List Value} (h : sx_env Sg E ρ) {z : Nat} {t : sx_Ty} (hz : E[z]? = some t) (ht : t.1 ≤ 1) : ∃ n, sx_iv ρ z = some n ∧ t.2.1 ≤ n ∧ n ≤ t.2.2 := by
  obtain ⟨v, h1, h2⟩ := sx_env_get h hz
  rcases h2 with ⟨-, x, rfl, h3, h4⟩ | ⟨-, x, rfl, h3, h4⟩ | ⟨h5, -⟩ | ⟨h5, -⟩
  · exact ⟨x.toInt, by unfold sx_iv; rw [h1], h3, h4⟩
  · exact ⟨x.toInt, by unfold sx_iv; rw [h1], h3, h4⟩
  · omega
  · omega
/-- bounds of a sum of terms -/
def sx_bd (E : List sx_Ty) : List (Nat × Int) → Option (Int × Int)
  | [] => some (0, 0)
  | q :: t => match E[q.1]?, sx_bd E t with
    | some (g, lo, hi), some (a, b) => if g ≤ 1 then (if 0 ≤ q.2 then some (q.2 * lo + a, q.2 * hi + b) else some (q.2 * hi + a, q.2 * lo + b)) else none
    | _, _ => none
theorem sx_mul_le {k a b : Int} (hk : 0 ≤ k) (h : a ≤ b) : k * a ≤ k * b := Int.mul_le_mul_of_nonneg_left h hk
theorem sx_mul_ge {k a b : Int} (hk : k ≤ 0) (h : a ≤ b) : k * b ≤ k * a := Int.mul_le_mul_of_nonpos_left hk h
theorem sx_bd_ok {Sg : Nat → Option Nat} {E : List sx_Ty} {ρ : List Value} (h : sx_env Sg E ρ) : ∀ {t : List (Nat × Int)} {a b : Int}, sx_bd E t = some (a, b) → ∃ r, sx_ts ρ t = some r ∧ a ≤ r ∧ r ≤ b
  | [], a, b, hb => by
    simp only [sx_bd] at hb
    cases hb
    exact ⟨0, rfl, Int.le_refl _, Int.le_refl _⟩
  | q :: t, a, b, hb => by
    simp only [sx_bd] at hb
    cases h1 : E[q.1]? with
    | none => rw [h1] at hb; simp at hb
    | some ty =>
      obtain ⟨g, lo, hi⟩ := ty
      cases h2 : sx_bd E t with
      | none => rw [h1, h2] at hb; simp at hb
      | some ab =>
        obtain ⟨a', b'⟩ := ab
        rw [h1, h2] at hb
        simp only at hb
        obtain ⟨r, h3, h4, h5⟩ := sx_bd_ok h h2
        by_cases hg : g ≤ 1
        · rw [if_pos hg] at hb
          obtain ⟨n, h6, h7, h8⟩ := sx_env_iv h h1 hg
          simp only at h7 h8
          refine ⟨q.2 * n + r, sx_ts_cons.mpr ⟨n, r, h6, h3, rfl⟩, ?_⟩
          by_cases hk : 0 ≤ q.2
          · rw [if_pos hk] at hb
            cases hb
            have e1 := sx_mul_le hk h7
            have e2 := sx_mul_le hk h8
            omega
          · rw [if_neg hk] at hb
            cases hb
            have hk' : q.2 ≤ 0 := by omega
            have e1 := sx_mul_ge hk' h7
            have e2 := sx_mul_ge hk' h8
            omega
        · rw [if_neg hg] at hb; cases hb
/-- bounds of a form -/
def sx_rng (E : List sx_Ty) (f : sx_LF) : Option (Int × Int) := match sx_bd E f.2 with
  | some (a, b) => some (f.1 + a, f.1 + b)
  | none => none
theorem sx_rng_ok {Sg : Nat → Option Nat} {E : List sx_Ty} {ρ : List Value} (h : sx_env Sg E ρ) {f : sx_LF} {a b : Int} (hb : sx_rng E f = some (a, b)) : ∃ n, sx_lf ρ f = some n ∧ a ≤ n ∧ n ≤ b := by
  unfold sx_rng at hb
  cases h1 : sx_bd E f.2 with
  | none => rw [h1] at hb; cases hb
  | some ab =>
    obtain ⟨a', b'⟩ := ab
    rw [h1] at hb
    simp only at hb
    cases hb
    obtain ⟨r, h2, h3, h4⟩ := sx_bd_ok h h1
    exact ⟨f.1 + r, sx_lf_iff.mpr ⟨r, h2, rfl⟩, by omega, by omega⟩
/-- what is known: forms that are not below 0 -/
def sx_cs (C : List sx_LF) (ρ : List Value) : Prop := ∀ f ∈ C, ∃ n, sx_lf ρ f = some n ∧ 0 ≤ n
def sx_lo0 (E : List sx_Ty) (f : sx_LF) : Bool := match sx_rng E f with
  | some (a, _) => decide (0 ≤ a)
  | none => false
theorem sx_lo0_ok {Sg : Nat → Option Nat} {E : List sx_Ty} {ρ : List Value} (h : sx_env Sg E ρ) {f : sx_LF} (hb : sx_lo0 E f = true) : ∃ n, sx_lf ρ f = some n ∧ 0 ≤ n := by
  unfold sx_lo0 at hb
  cases h1 : sx_rng E f with
  | none => rw [h1] at hb; cases hb
  | some ab =>
    obtain ⟨a, b⟩ := ab
    rw [h1] at hb
    obtain ⟨n, h2, h3, h4⟩ := sx_rng_ok h h1
    have := of_decide_eq_true hb
    exact ⟨n, h2, by omega⟩
/-- how often a known form may go into another one: by the coefficients of the other's first symbol -/
def sx_rat (f g : List (Nat × Int)) : Int := match f with
  | [] => 1
  | q :: _ => match g.find? (fun r => Nat.beq r.1 q.1) with
    | some r => if q.2 % r.2 = 0 then q.2 / r.2 else 1
    | none => 1
def sx_ges (E : List sx_Ty) (f g : sx_LF) (k : Int) : Bool := if 1 < k then sx_lo0 E (sx_sub f (sx_mul k g)) else false
/-- the form is not below 0: by its bounds, or by one known form, taken once or more often -/
def sx_ge (E : List sx_Ty) (C : List sx_LF) (f : sx_LF) : Bool := sx_lo0 E f || (!f.2.isEmpty && C.any (fun g => sx_lo0 E (sx_sub f g) || sx_ges E f g (sx_rat f.2 g.2)))
theorem sx_ge_ok {Sg : Nat → Option Nat} {E : List sx_Ty} {C : List sx_LF} {ρ : List Value} (h : sx_env Sg E ρ) (hC : sx_cs C ρ) {f : sx_LF} {n : Int} (hf : sx_lf ρ f = some n) (hb : sx_ge E C f = true) : 0 ≤ n := by
  unfold sx_ge at hb
  rcases Bool.or_eq_true_iff.mp hb with hb | hb
  · obtain ⟨m, h1, h2⟩ := sx_lo0_ok h hb
    rw [hf] at h1
    cases h1
    exact h2
  · obtain ⟨g, hg, hb⟩ := List.any_eq_true.mp (Bool.and_eq_true_iff.mp hb).2
    obtain ⟨k, h1, h2⟩ := hC g hg
    rcases Bool.or_eq_true_iff.mp hb with hb | hb
    · obtain ⟨m, h3, h4⟩ := sx_lo0_ok h hb
      rw [sx_sub_ok hf h1] at h3
      cases h3
      omega
    · unfold sx_ges at hb
      split at hb
      · rename_i hk
        obtain ⟨m, h3, h4⟩ := sx_lo0_ok h hb
        rw [sx_sub_ok hf (sx_mul_ok h1)] at h3
        cases h3
        have := Int.mul_nonneg (show 0 ≤ sx_rat f.2 g.2 by omega) h2
        omega
      · cases hb
/-- one symbol's bounds made narrower by a form that is not below 0 -/
def sx_tight1 (f : sx_LF) (E : List sx_Ty) (q : Nat × Int) : List sx_Ty := match E[q.1]?, sx_rng E (f.1, sx_ins q.1 (-q.2) f.2) with
  | some (g, lo, hi), some (_, b) => if 1 < g then E else if 0 < q.2 then E.set q.1 (g, max lo (-(b / q.2)), hi) else if q.2 < 0 then E.set q.1 (g, lo, min hi (b / (-q.2))) else E
  | _, _ => E
theorem sx_env_set {Sg : Nat → Option Nat} {E : List sx_Ty} {ρ : List Value} (h : sx_env Sg E ρ) {z : Nat} {t : sx_Ty} {g : Nat} {lo hi lo' hi' : Int} (hz : E[z]? = some (g, lo, hi)) (hg : g ≤ 1) {n : Int} (hn : sx_iv ρ z = some n) (h1 : lo' ≤ n) (h2 : n ≤ hi') : sx_env Sg (E.set z (g, lo', hi')) ρ := by
  refine ⟨by rw [List.length_set]; exact h.1, fun y u v hy hv => ?_⟩
  by_cases e : z = y
  · subst e
    have hlt : z < E.length := (List.getElem?_eq_some_iff.mp hz).1
    rw [List.getElem?_set_self hlt] at hy
    cases hy
    have hok := h.2 z _ v hz hv
    unfold sx_iv at hn
    rw [hv] at hn
    rcases hok with ⟨h3, x, rfl, h4, h5⟩ | ⟨h3, x, rfl, h4, h5⟩ | ⟨h3, -⟩ | ⟨h3, -⟩
    · simp at hn; subst hn
      exact Or.inl ⟨h3, x, rfl, h1, h2⟩
    · simp at hn; subst hn
      exact Or.inr (Or.inl ⟨h3, x, rfl, h1, h2⟩)
    · simp only at h3; omega
    · simp only at h3; omega
  · rw [List.getElem?_set_ne e] at hy
    exact h.2 y u v hy hv
theorem sx_tight1_ok {Sg : Nat → Option Nat} {E : List sx_Ty} {ρ : List Value} (h : sx_env Sg E ρ) {f : sx_LF} {n : Int} (hf : sx_lf ρ f = some n) (hn : 0 ≤ n) (q : Nat × Int) : sx_env Sg (sx_tight1 f E q) ρ := by
  unfold sx_tight1
  cases h1 : E[q.1]? with
  | none => exact h
  | some ty =>
    obtain ⟨g, lo, hi⟩ := ty
    cases h2 : sx_rng E (f.1, sx_ins q.1 (-q.2) f.2) with
    | none => exact h
    | some ab =>
      obtain ⟨a, b⟩ := ab
      show sx_env Sg (if 1 < g then E else if 0 < q.2 then E.set q.1 (g, max lo (-(b / q.2)), hi) else if q.2 < 0 then E.set q.1 (g, lo, min hi (b / (-q.2))) else E) ρ
      by_cases hg : 1 < g
      · rw [if_pos hg]; exact h
      · rw [if_neg hg]
        have hg' : g ≤ 1 := by omega
        obtain ⟨v, h3, h4, h5⟩ := sx_env_iv h h1 hg'
        simp only at h4 h5
        obtain ⟨r, h6, h7⟩ := sx_lf_iff.mp hf
        obtain ⟨m, h8, h9, h10⟩ := sx_rng_ok h h2
        obtain ⟨r', h11, h12⟩ := sx_lf_iff.mp h8
        simp only at h11 h12
        rw [sx_ins_ok (k := -q.2) h3 h6] at h11
        cases h11
        have key : m = n - q.2 * v := by rw [h12, h7, Int.neg_mul]; omega
        by_cases hk : 0 < q.2
        · rw [if_pos hk]
          refine sx_env_set h (t := (0, 0, 0)) h1 hg' h3 ?_ h5
          have e1 : -(b / q.2) ≤ v := by
            have e2 : 0 ≤ b + q.2 * v := by omega
            have e3 : (0 : Int) ≤ (b + q.2 * v) / q.2 := Int.ediv_nonneg e2 (Int.le_of_lt hk)
            rw [Int.add_mul_ediv_left _ _ (Int.ne_of_gt hk)] at e3
            omega
          omega
        · rw [if_neg hk]
          by_cases hk2 : q.2 < 0
          · rw [if_pos hk2]
            refine sx_env_set h (t := (0, 0, 0)) h1 hg' h3 h4 ?_
            have e1 : v ≤ b / (-q.2) := by
              have hp : 0 < -q.2 := by omega
              have e2 : (-q.2) * v ≤ b := by rw [Int.neg_mul]; omega
              rw [Int.le_ediv_iff_mul_le hp, Int.mul_comm]
              exact e2
            omega
          · rw [if_neg hk2]; exact h
def sx_tight (f : sx_LF) (E : List sx_Ty) : List sx_Ty := f.2.foldl (sx_tight1 f) E
theorem sx_foldl_ok {Sg : Nat → Option Nat} {ρ : List Value} {f : sx_LF} {n : Int} (hf : sx_lf ρ f = some n) (hn : 0 ≤ n) : ∀ (t : List (Nat × Int)) (E : List sx_Ty), sx_env Sg E ρ → sx_env Sg (t.foldl (sx_tight1 f) E) ρ
  | [], E, h => h
  | q :: t, E, h => sx_foldl_ok hf hn t _ (sx_tight1_ok h hf hn q)
theorem sx_tight_ok {Sg : Nat → Option Nat} {E : List sx_Ty} {ρ : List Value} (h : sx_env Sg E ρ) {f : sx_LF} {n : Int} (hf : sx_lf ρ f = some n) (hn : 0 ≤ n) : sx_env Sg (sx_tight f E) ρ := sx_foldl_ok hf hn _ E h
/-- a form is taken to be not below 0: none, if that can't be; else the narrower bounds and what is known -/
def sx_assume (f : sx_LF) (E : List sx_Ty) (C : List sx_LF) : Option (List sx_Ty × List sx_LF) :=
  if sx_ge E C (sx_addC (sx_mul (-1) f) (-1)) then none else if sx_lo0 E f then some (E, C) else some (sx_tight f E, if f.2.length = 1 then C else f :: C)
theorem sx_assume_ok {Sg : Nat → Option Nat} {E : List sx_Ty} {C : List sx_LF} {ρ : List Value} (h : sx_env Sg E ρ) (hC : sx_cs C ρ) {f : sx_LF} {n : Int} (hf : sx_lf ρ f = some n) (hn : 0 ≤ n) : ∃ E' C', sx_assume f E C = some (E', C') ∧ sx_env Sg E' ρ ∧ sx_cs C' ρ := by
  unfold sx_assume
  by_cases h1 : sx_ge E C (sx_addC (sx_mul (-1) f) (-1)) = true
  · have := sx_ge_ok h hC (sx_addC_ok (c := -1) (sx_mul_ok (k := -1) hf)) h1
    omega
  · rw [if_neg h1]
    by_cases h2 : sx_lo0 E f = true
    · rw [if_pos h2]
      exact ⟨E, C, rfl, h, hC⟩
    · rw [if_neg h2]
      refine ⟨_, _, rfl, sx_tight_ok h hf hn, ?_⟩
      split
      · exact hC
      intro g hg
      rcases List.mem_cons.mp hg with rfl | hg
      · exact ⟨n, hf, hn⟩
      · exact hC g hg
