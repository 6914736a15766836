/-! sx, steps that touch neither heap nor frame below: constants, locals, arithmetic, the stack -/
abbrev sx_St : Type := sx_Kn × (List (Nat × sx_AV) × List sx_AV) × Nat × Nat
def sx_Cx (p : Program) (s : State) (m : MethodId) (args : Array Value) (c : Code) (cc : ByteArray) (nL : Nat) (own : String) (Ts : List Cond) : Prop :=
  p.tables.exec = Jvm.exec ∧ c.code = cc ∧ c.maxLocals = nL ∧ s.vm.findClass own = some m.cls ∧ ∀ w ∈ Ts, w.before args s = true
def sx_Pt (FT : Nat → List Int → Int) (D : va_G) (cl : List vw_C) (RT : Nat → Option sx_Rg) (b0 : sx_B) (nL : Nat) (s : State) (Sg : Nat → Option Nat) (H : Heap) (ρ : List Value) (K : sx_Kn) (L : List (Nat × sx_AV)) (S : List sx_AV) (ls : Array Slot) (stk : List Value) (locs : List Loc) : Prop :=
  sx_H D cl RT b0 Sg s H ∧ sx_G FT D RT Sg H ρ K ∧ sx_Fr ρ nL ls stk L S ∧ sx_V RT b0 s Sg H locs
/-- from every point that the state tells of, and that goes on from (Sg0, ρ0), the machine comes to Q -/
def sx_W (FT : Nat → List Int → Int) (D : va_G) (cl : List vw_C) (RT : Nat → Option sx_Rg) (b0 : sx_B) (nL : Nat) (p : Program) (l : Launch) (e : Env) (R : Room) (s : State) (m : MethodId) (args : Array Value) (below : List Frame) (meth : Method) (c : Code) (Q : State → Prop)
    (Sg0 : Nat → Option Nat) (ρ0 : List Value) (pc : Nat) (st : sx_St) : Prop :=
  ∀ (Sg : Nat → Option Nat) (H : Heap) (ρ : List Value) (ls : Array Slot) (stk : List Value) (locs : List Loc), sx_le Sg0 Sg → ρ0 <+: ρ → sx_Pt FT D cl RT b0 nL s Sg H ρ st.1 st.2.1.1 st.2.1.2 ls stk locs → W p l e R s m args below meth c H locs st.2.2.1 st.2.2.2 Q (F0 m pc ls stk)
noncomputable def sx_lk (L : List (Nat × sx_AV)) (i : Nat) : Option sx_AV := match sx_fnd (fun q => Nat.beq q.1 i) L with
  | some q => some q.2
  | none => none
theorem sx_lk_mem {L : List (Nat × sx_AV)} {i : Nat} {a : sx_AV} (h : sx_lk L i = some a) : (i, a) ∈ L := by
  unfold sx_lk at h
  cases h1 : sx_fnd (fun q => Nat.beq q.1 i) L with
  | none => rw [h1] at h; cases h
  | some q =>
    rw [h1] at h
    cases h
    have h2 := sx_fnd_some h1
    have h3 := sx_fnd_mem h1
    simp at h2
    subst h2
    exact h3
/-- a local is written: what stood there goes, and a long whose second half it was -/
noncomputable def sx_put (L : List (Nat × sx_AV)) (i : Nat) (a : sx_AV) : List (Nat × sx_AV) := (i, a) :: sx_flt (fun q => sx_ab (sx_nb (Nat.beq q.1 i)) (sx_ab (sx_nb (sx_ab (Nat.beq (q.1 + 1) i) (Nat.beq q.2.1 1))) (sx_nb (sx_ab (Nat.beq a.1 1) (Nat.beq q.1 (i + 1)))))) L
def sx_lv1 (ls : Array Slot) (i : Nat) : Option (Nat × Value) := match ls[i]? with
  | some (.val v) => some (i, v)
  | _ => none
def sx_lvs (ls : Array Slot) (L : List (Nat × sx_AV)) : List (Nat × Value) := L.filterMap (fun q => sx_lv1 ls q.1)
theorem sx_lvs_has {ρ : List Value} {nL : Nat} {ls : Array Slot} {stk : List Value} {L : List (Nat × sx_AV)} {S : List sx_AV} (h : sx_Fr ρ nL ls stk L S) : lv_has ls nL (sx_lvs ls L) := by
  refine ⟨h.1, h.2.1, fun q hq => ?_⟩
  obtain ⟨r, h1, h2⟩ := List.mem_filterMap.mp hq
  unfold sx_lv1 at h2
  cases h3 : ls[r.1]? with
  | none => rw [h3] at h2; cases h2
  | some x =>
    rw [h3] at h2
    cases x with
    | val v => cases h2; exact h3
    | unset => cases h2
    | second => cases h2
theorem sx_cat {ρ : List Value} {a : sx_AV} {v : Value} (h : sx_av ρ a v) : v.category = if a.1 = 1 then 2 else 1 := by
  rcases h with ⟨h1, x, rfl, -⟩ | ⟨h1, x, rfl, -⟩ | ⟨h1, -, q, rfl⟩ | ⟨h1, rfl⟩ <;> rw [h1] <;> rfl
theorem sx_cat1 {ρ : List Value} {a : sx_AV} {v : Value} (h : sx_av ρ a v) (ha : a.1 ≠ 1) : v.category = 1 := by rw [sx_cat h, if_neg ha]
theorem sx_lvs_mem {ρ : List Value} {ls : Array Slot} {L : List (Nat × sx_AV)} {q : Nat × sx_AV} {v : Value} (hq : q ∈ L) (hv : ls[q.1]? = some (.val v)) : (q.1, v) ∈ sx_lvs ls L :=
  List.mem_filterMap.mpr ⟨q, hq, by unfold sx_lv1; rw [hv]⟩
theorem sx_store1 {ρ : List Value} {nL : Nat} {ls ls' : Array Slot} {stk : List Value} {L : List (Nat × sx_AV)} {S : List sx_AV} {a : sx_AV} {v : Value} {i : Nat} (h : sx_Fr ρ nL ls (v :: stk) L (a :: S)) (ha : a.1 ≠ 1)
    (h' : lv_has ls' nL ((i, v) :: (sx_lvs ls L).filter (fun q => !(q.1 == i) && !(q.1 + 1 == i && q.2.category == 2)))) : sx_Fr ρ nL ls' stk (sx_put L i a) S := by
  obtain ⟨h1, h2, h3, h4, h5⟩ := h
  refine ⟨h'.1, h'.2.1, fun q hq => ?_, h5⟩
  rcases List.mem_cons.mp hq with rfl | hq
  · exact ⟨v, h4, h'.2.2 _ List.mem_cons_self⟩
  · obtain ⟨hq1, hq2⟩ := sx_mem_flt.mp hq
    simp only [sx_ab_eq, sx_nb_eq, sx_beq_bq, ← Bool.and_assoc] at hq2
    obtain ⟨w, k1, k2⟩ := h3 q hq1
    refine ⟨w, k1, h'.2.2 (q.1, w) (List.mem_cons_of_mem _ (List.mem_filter.mpr ⟨sx_lvs_mem (ρ := ρ) hq1 k2, ?_⟩))⟩
    simp only [Bool.and_eq_true, Bool.not_eq_true', beq_eq_false_iff_ne] at hq2 ⊢
    refine ⟨hq2.1.1, ?_⟩
    have hc := hq2.1.2
    have hk := sx_cat k1
    by_cases e : q.1 + 1 = i
    · have : ¬ q.2.1 = 1 := by
        intro e2
        rw [e2] at hc
        simp [e] at hc
      rw [if_neg this] at hk
      rw [hk]; simp
    · simp [e]
theorem sx_store2 {ρ : List Value} {nL : Nat} {ls ls' : Array Slot} {stk : List Value} {L : List (Nat × sx_AV)} {S : List sx_AV} {a : sx_AV} {v : Value} {i : Nat} (h : sx_Fr ρ nL ls (v :: stk) L (a :: S)) (ha : a.1 = 1)
    (h' : lv_has ls' nL ((i, v) :: (sx_lvs ls L).filter (fun q => !(q.1 == i) && (!(q.1 == i + 1) && !(q.1 + 1 == i && q.2.category == 2))))) : sx_Fr ρ nL ls' stk (sx_put L i a) S := by
  obtain ⟨h1, h2, h3, h4, h5⟩ := h
  refine ⟨h'.1, h'.2.1, fun q hq => ?_, h5⟩
  rcases List.mem_cons.mp hq with rfl | hq
  · exact ⟨v, h4, h'.2.2 _ List.mem_cons_self⟩
  · obtain ⟨hq1, hq2⟩ := sx_mem_flt.mp hq
    simp only [sx_ab_eq, sx_nb_eq, sx_beq_bq, ← Bool.and_assoc] at hq2
    obtain ⟨w, k1, k2⟩ := h3 q hq1
    refine ⟨w, k1, h'.2.2 (q.1, w) (List.mem_cons_of_mem _ (List.mem_filter.mpr ⟨sx_lvs_mem (ρ := ρ) hq1 k2, ?_⟩))⟩
    rw [ha] at hq2
    simp only [Bool.and_eq_true, Bool.not_eq_true', beq_eq_false_iff_ne, beq_self_eq_true, Bool.true_and] at hq2 ⊢
    refine ⟨hq2.1.1, hq2.2, ?_⟩
    have hc := hq2.1.2
    have hk := sx_cat k1
    by_cases e : q.1 + 1 = i
    · have : ¬ q.2.1 = 1 := by
        intro e2
        rw [e2] at hc
        simp [e] at hc
      rw [if_neg this] at hk
      rw [hk]; simp
    · simp [e]
/-! arithmetic of ints -/
def sx_binC (op : Int32 → Int32 → Int32) (f g : sx_LF) (r : sx_Rs) : sx_Rs := if f.2 = [] ∧ g.2 = [] then .inl ((op (Int32.ofInt f.1) (Int32.ofInt g.1)).toInt, []) else r
theorem sx_ofInt {x : Int32} {n : Int} (h : x.toInt = n) : Int32.ofInt n = x := by
  rw [← h]; exact Int32.ofInt_toInt x
theorem sx_binC_ok {op : Int32 → Int32 → Int32} {ρ : List Value} {f g : sx_LF} {x y : Int32} {r : sx_Rs} (hf : sx_lf ρ f = some x.toInt) (hg : sx_lf ρ g = some y.toInt) (hr : sx_rs32 ρ r (op x y)) : sx_rs32 ρ (sx_binC op f g r) (op x y) := by
  unfold sx_binC
  split
  · rename_i hc
    have h1 := sx_lf_const hf hc.1
    have h2 := sx_lf_const hg hc.2
    show sx_lf ρ _ = _
    rw [sx_ofInt h1, sx_ofInt h2]
    exact sx_const_ok _
  · exact hr
def sx_ushrR (E : List sx_Ty) (f g : sx_LF) : sx_Rs := match sx_rng E f, sx_rng E g with
  | some (a, b), some (c, d) => if 0 ≤ c ∧ d ≤ 31 ∧ (0 ≤ a ∨ 1 ≤ c) then .inr (0, (if 0 ≤ a then b else 4294967295) / (2 ^ c.toNat : Nat)) else .inr sx_full
  | _, _ => .inr sx_full
theorem sx_ushrR_ok {Sg : Nat → Option Nat} {E : List sx_Ty} {ρ : List Value} (hE : sx_env Sg E ρ) {f g : sx_LF} {x y : Int32} (hf : sx_lf ρ f = some x.toInt) (hg : sx_lf ρ g = some y.toInt) : sx_rs32 ρ (sx_ushrR E f g) (x.toUInt32 >>> (y.toUInt32 &&& Int32.toUInt32 31)).toInt32 := by
  unfold sx_ushrR
  cases h3 : sx_rng E f with
  | none => exact sx_full_ok _
  | some ab =>
    obtain ⟨a, b⟩ := ab
    cases h4 : sx_rng E g with
    | none => exact sx_full_ok _
    | some cd =>
      obtain ⟨c, d⟩ := cd
      obtain ⟨n, e1, e2, e3⟩ := sx_rng_ok hE h3
      obtain ⟨m, e4, e5, e6⟩ := sx_rng_ok hE h4
      rw [hf] at e1; cases e1
      rw [hg] at e4; cases e4
      show sx_rs32 ρ (if 0 ≤ c ∧ d ≤ 31 ∧ (0 ≤ a ∨ 1 ≤ c) then .inr (0, (if 0 ≤ a then b else 4294967295) / (2 ^ c.toNat : Nat)) else .inr sx_full) _
      split
      · rename_i hc
        obtain ⟨q2, q3, q4⟩ := hc
        obtain ⟨k, hk, ek, ek2⟩ := sx_cnt e5 e6 q2 q3
        have hs := pk_ushr x y k (by rw [ek]; exact sx_su k hk)
        have hlt := x.toBitVec.isLt
        have p1 : 0 < (2 ^ k : Nat) := Nat.pow_pos (by decide)
        have p0 : 0 < (2 ^ c.toNat : Nat) := Nat.pow_pos (by decide)
        have p2 : 2 ^ c.toNat ≤ 2 ^ k := Nat.pow_le_pow_right (by decide) (by omega)
        have hb : (x.toBitVec.toNat : Int) ≤ if 0 ≤ a then b else 4294967295 := by
          split
          · have := (sx_nn (x := x) (by omega)).2
            omega
          · omega
        have p5 : x.toBitVec.toNat / 2 ^ k ≤ x.toBitVec.toNat / 2 ^ c.toNat := Nat.div_le_div_left p2 p0
        have p6 : ((x.toBitVec.toNat / 2 ^ c.toNat : Nat) : Int) ≤ (if 0 ≤ a then b else 4294967295) / ((2 ^ c.toNat : Nat) : Int) := by
          rw [Int.natCast_ediv]
          exact Int.ediv_le_ediv (by omega) hb
        have p7 : x.toBitVec.toNat / 2 ^ k < 2147483648 := by
          rcases q4 with q4 | q4
          · have := (sx_nn (x := x) (by omega)).1
            exact Nat.lt_of_le_of_lt (Nat.div_le_self _ _) this
          · have : 2 ^ 1 ≤ 2 ^ k := Nat.pow_le_pow_right (by decide) (by omega)
            exact (Nat.div_lt_iff_lt_mul p1).mpr (by omega)
        have hz := sx_ofn (x := (x.toUInt32 >>> (y.toUInt32 &&& Int32.toUInt32 31)).toInt32) (by rw [hs]; exact p7)
        rw [hs] at hz
        show 0 ≤ _ ∧ _ ≤ _
        rw [hz]
        omega
      · exact sx_full_ok _
