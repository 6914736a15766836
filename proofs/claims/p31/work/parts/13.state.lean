/-! sx, states: values by symbols, regions of cells, what is known of slots -/
/-- a value: (0, form) an int, (1, form) a long, (2, z) the reference of symbol z, (3, _) null -/
abbrev sx_AV : Type := Nat × sx_LF
def sx_av (ρ : List Value) (a : sx_AV) (v : Value) : Prop :=
  (a.1 = 0 ∧ ∃ x : Int32, v = .int x ∧ sx_lf ρ a.2 = some x.toInt) ∨ (a.1 = 1 ∧ ∃ x : Int64, v = .long x ∧ sx_lf ρ a.2 = some x.toInt) ∨
  (a.1 = 2 ∧ ρ[a.2.1.toNat]? = some v ∧ ∃ q, v = .ref q) ∨ (a.1 = 3 ∧ v = .null)
theorem sx_get_ext {ρ ρ2 : List Value} {z : Nat} {v : Value} (h : ρ[z]? = some v) : (ρ ++ ρ2)[z]? = some v := by
  rw [List.getElem?_append_left (List.getElem?_eq_some_iff.mp h).1, h]
theorem sx_av_ext {ρ ρ2 : List Value} {a : sx_AV} {v : Value} (h : sx_av ρ a v) : sx_av (ρ ++ ρ2) a v := by
  rcases h with ⟨h1, x, h2, h3⟩ | ⟨h1, x, h2, h3⟩ | ⟨h1, h2, h3⟩ | h
  · exact Or.inl ⟨h1, x, h2, sx_lf_ext h3⟩
  · exact Or.inr (Or.inl ⟨h1, x, h2, sx_lf_ext h3⟩)
  · exact Or.inr (Or.inr (Or.inl ⟨h1, sx_get_ext h2, h3⟩))
  · exact Or.inr (Or.inr (Or.inr h))
theorem sx_av_int {ρ : List Value} {f : sx_LF} {v : Value} (h : sx_av ρ (0, f) v) : ∃ x : Int32, v = .int x ∧ sx_lf ρ f = some x.toInt := by
  rcases h with ⟨-, h⟩ | ⟨h1, -⟩ | ⟨h1, -⟩ | ⟨h1, -⟩
  · exact h
  all_goals exact absurd h1 (by simp)
theorem sx_av_long {ρ : List Value} {f : sx_LF} {v : Value} (h : sx_av ρ (1, f) v) : ∃ x : Int64, v = .long x ∧ sx_lf ρ f = some x.toInt := by
  rcases h with ⟨h1, -⟩ | ⟨-, h⟩ | ⟨h1, -⟩ | ⟨h1, -⟩
  · exact absurd h1 (by simp)
  · exact h
  all_goals exact absurd h1 (by simp)
theorem sx_av_ref {ρ : List Value} {f : sx_LF} {v : Value} (h : sx_av ρ (2, f) v) : ρ[f.1.toNat]? = some v ∧ ∃ q, v = .ref q := by
  rcases h with ⟨h1, -⟩ | ⟨h1, -⟩ | ⟨-, h⟩ | ⟨h1, -⟩
  · exact absurd h1 (by simp)
  · exact absurd h1 (by simp)
  · exact h
  · exact absurd h1 (by simp)
theorem sx_av_null {ρ : List Value} {f : sx_LF} {v : Value} (h : sx_av ρ (3, f) v) : v = .null := by
  rcases h with ⟨h1, -⟩ | ⟨h1, -⟩ | ⟨h1, -⟩ | ⟨-, h⟩
  · exact absurd h1 (by simp)
  · exact absurd h1 (by simp)
  · exact absurd h1 (by simp)
  · exact h
theorem sx_int_av {ρ : List Value} {f : sx_LF} {x : Int32} (h : sx_lf ρ f = some x.toInt) : sx_av ρ (0, f) (.int x) := Or.inl ⟨rfl, x, rfl, h⟩
theorem sx_long_av {ρ : List Value} {f : sx_LF} {x : Int64} (h : sx_lf ρ f = some x.toInt) : sx_av ρ (1, f) (.long x) := Or.inr (Or.inl ⟨rfl, x, rfl, h⟩)
/-- a stack of values -/
def sx_stk (ρ : List Value) : List sx_AV → List Value → Prop
  | [], [] => True
  | a :: S, v :: t => sx_av ρ a v ∧ sx_stk ρ S t
  | _, _ => False
theorem sx_stk_ext {ρ ρ2 : List Value} : ∀ {S : List sx_AV} {t : List Value}, sx_stk ρ S t → sx_stk (ρ ++ ρ2) S t
  | [], [], _ => trivial
  | a :: S, v :: t, h => ⟨sx_av_ext h.1, sx_stk_ext h.2⟩
  | [], _ :: _, h => h.elim
  | _ :: _, [], h => h.elim
theorem sx_stk_cons {ρ : List Value} {a : sx_AV} {S : List sx_AV} {t : List Value} (h : sx_stk ρ (a :: S) t) : ∃ v r, t = v :: r ∧ sx_av ρ a v ∧ sx_stk ρ S r := by
  cases t with
  | nil => exact h.elim
  | cons v r => exact ⟨v, r, rfl, h.1, h.2⟩
theorem sx_stk_nil {ρ : List Value} {t : List Value} (h : sx_stk ρ [] t) : t = [] := by
  cases t with
  | nil => rfl
  | cons v r => exact h.elim
/-! regions: (0, class, _, types of the fields), (1, length, frozen, [type]) ints, (2, length, frozen, [type]) longs, (3, length, class, [type]) references -/
abbrev sx_Rg : Type := Nat × Nat × Nat × List sx_Ty
def sx_cn (cl : List vw_C) (k : Nat) : String := match cl[k]? with
  | some q => q.1
  | none => ""
def sx_aty (cl : List vw_C) (g : sx_Rg) : FieldType := if g.1 = 1 then .int else if g.1 = 2 then .long else .object (sx_cn cl g.2.2.1)
/-- the place of the k-th field or element -/
def sx_sl (D : va_G) (g : sx_Rg) (k : Nat) : Nat := if g.1 = 0 then D.2 g.2.1 k else k
/-- how many fields or elements -/
def sx_wd (g : sx_Rg) : Nat := if g.1 = 0 then g.2.2.2.length else g.2.1
/-- the type of the k-th -/
def sx_ft (g : sx_Rg) (k : Nat) : Option sx_Ty := if g.1 = 0 then g.2.2.2[k]? else g.2.2.2[k % g.2.2.2.length]?
theorem sx_ft1 {g : sx_Rg} {k : Nat} {t : sx_Ty} (g0 : g.1 ≠ 0) (hl : g.2.2.2.length = 1) (ht : g.2.2.2[0]? = some t) : sx_ft g k = some t := by
  unfold sx_ft
  rw [if_neg g0, hl, Nat.mod_one]
  exact ht
/-- it may be written -/
def sx_mut (g : sx_Rg) : Bool := g.1 == 3 || g.2.2.1 == 0
/-- which cells may be written; what holds of the heap ahead of every call by contract -/
abbrev sx_B : Type := (Nat → Prop) × ((Nat → Option Nat) → Heap → Prop)
def sx_bs (b0 : sx_B) (s : State) : Prop := ∀ q, s.heap.size ≤ q → b0.1 q
theorem sx_bs_step {b0 : sx_B} {s s' : State} {H : Heap} {locs : List Loc} (h : sx_bs b0 s) (hV : va_S b0.1 s.heap H locs) (hh : s'.heap = H) : sx_bs b0 s' := by
  subst hh
  exact fun q hq => h q (Nat.le_trans hV.1 hq)
def sx_kind (D : va_G) (cl : List vw_C) (U : State) (g : sx_Rg) (cell : Cell) : Prop :=
  (g.1 = 0 ∧ cell.cls = D.1 g.2.1 ∧ cell.vm = .none) ∨ (g.1 ≠ 0 ∧ U.isArrayOf cell (sx_aty cl g) ∧ cell.vm ≠ .unknown ∧ g.2.1 ≤ cell.slots.size ∧ cell.slots.size.toInt32 = Int32.ofNat g.2.1 ∧ (g.1 = 3 → va_RA U cell.cls (sx_aty cl g)))
def sx_cell (D : va_G) (cl : List vw_C) (Sg : Nat → Option Nat) (U : State) (H : Heap) (a : Nat) (g : sx_Rg) : Prop :=
  ∃ cell : Cell, H[a]? = some cell ∧ sx_kind D cl U g cell ∧ ∀ k : Nat, k < sx_wd g → ∃ v t, cell.slots[sx_sl D g k]? = some v ∧ sx_ft g k = some t ∧ sx_ok Sg v t
/-- a heap of typed cells; those that may be written lie from b0 on -/
def sx_H (D : va_G) (cl : List vw_C) (RT : Nat → Option sx_Rg) (b0 : sx_B) (Sg : Nat → Option Nat) (U : State) (H : Heap) : Prop :=
  ∀ a r, Sg a = some r → ∃ g, RT (r) = some g ∧ sx_cell D cl Sg U H a g ∧ (sx_mut g = true → b0.1 a) ∧ ∀ a', Sg a' = some r → a' = a
def sx_le (Sg Sg' : Nat → Option Nat) : Prop := ∀ a r, Sg a = some r → Sg' a = some r
/-- what holds of the heap stays so behind a write of a cell that may be written, and behind the making of a cell -/
def sx_jkp (RT : Nat → Option sx_Rg) (J : (Nat → Option Nat) → Heap → Prop) (Sg : Nat → Option Nat) : Prop := ∀ Sg1 : Nat → Option Nat, sx_le Sg Sg1 →
  (∀ (a r : Nat) (g : sx_Rg) (H H' : Heap), Sg1 a = some r → RT r = some g → sx_mut g = true → H'.size = H.size → (∀ x, x ≠ a → H'[x]? = H[x]?) → J Sg1 H → J Sg1 H') ∧
  ∀ (Sg2 : Nat → Option Nat) (H H' : Heap), sx_le Sg1 Sg2 → H.size ≤ H'.size → (∀ x, x < H.size → H'[x]? = H[x]?) → J Sg1 H → J Sg2 H'
theorem sx_jkp_le {RT : Nat → Option sx_Rg} {J : (Nat → Option Nat) → Heap → Prop} {Sg Sg' : Nat → Option Nat} (h : sx_jkp RT J Sg) (hle : sx_le Sg Sg') : sx_jkp RT J Sg' := fun S hS => h S (fun a r ha => hS a r (hle a r ha))
theorem sx_jkp_true {RT : Nat → Option sx_Rg} {Sg : Nat → Option Nat} : sx_jkp RT (fun _ _ => True) Sg := fun _ _ => ⟨fun _ _ _ _ _ _ _ _ _ _ _ => trivial, fun _ _ _ _ _ _ _ => trivial⟩
/-- what is changed, what holds of the heap -/
def sx_V (RT : Nat → Option sx_Rg) (b0 : sx_B) (s : State) (Sg : Nat → Option Nat) (H : Heap) (locs : List Loc) : Prop := va_S b0.1 s.heap H locs ∧ b0.2 Sg H ∧ sx_jkp RT b0.2 Sg
theorem sx_V_set {RT : Nat → Option sx_Rg} {b0 : sx_B} {s : State} {Sg : Nat → Option Nat} {H H' : Heap} {locs locs' : List Loc} {q r : Nat} {g : sx_Rg} (hV : sx_V RT b0 s Sg H locs) (h2 : Sg q = some r) (h3 : RT r = some g) (hm : sx_mut g = true) (e2 : H'.size = H.size) (e3 : ∀ x, x ≠ q → H'[x]? = H[x]?) (hva : va_S b0.1 s.heap H' locs') : sx_V RT b0 s Sg H' locs' :=
  ⟨hva, (hV.2.2 Sg (fun _ _ h => h)).1 _ _ _ _ _ h2 h3 hm e2 e3 hV.2.1, hV.2.2⟩
theorem sx_ok_le {Sg Sg' : Nat → Option Nat} (h : sx_le Sg Sg') {v : Value} {t : sx_Ty} (hv : sx_ok Sg v t) : sx_ok Sg' v t := by
  rcases hv with h1 | h1 | ⟨h1, a, h2, h3⟩ | h1
  · exact Or.inl h1
  · exact Or.inr (Or.inl h1)
  · exact Or.inr (Or.inr (Or.inl ⟨h1, a, h2, h _ _ h3⟩))
  · exact Or.inr (Or.inr (Or.inr h1))
theorem sx_kind_moved {D : va_G} {cl : List vw_C} {u U : State} (hvm : u.vm.Alike U.vm) {g : sx_Rg} {cell : Cell} (h : sx_kind D cl u g cell) : sx_kind D cl U g cell := by
  rcases h with h | ⟨h1, h2, h3, h4, h5, h6⟩
  · exact Or.inl h
  · exact Or.inr ⟨h1, State.isArrayOf_alike hvm h2, h3, h4, h5, fun q => (h6 q).moved hvm⟩
theorem sx_H_moved {D : va_G} {cl : List vw_C} {RT : Nat → Option sx_Rg} {b0 : sx_B} {Sg : Nat → Option Nat} {u U : State} {H : Heap} (hvm : u.vm.Alike U.vm) (h : sx_H D cl RT b0 Sg u H) : sx_H D cl RT b0 Sg U H := by
  intro a r har
  obtain ⟨g, h1, ⟨cell, h2, h3, h4⟩, h5⟩ := h a r har
  exact ⟨g, h1, ⟨cell, h2, sx_kind_moved hvm h3, h4⟩, h5⟩
/-- of each region there is one cell at most -/
theorem sx_uniq {D : va_G} {cl : List vw_C} {RT : Nat → Option sx_Rg} {b0 : sx_B} {Sg : Nat → Option Nat} {U : State} {H : Heap} (h : sx_H D cl RT b0 Sg U H) {a a' r : Nat} (ha : Sg a = some r) (ha' : Sg a' = some r) : a' = a := by
  obtain ⟨g, -, -, -, h5⟩ := h a r ha
  exact h5 a' ha'
theorem sx_H_lt {D : va_G} {cl : List vw_C} {RT : Nat → Option sx_Rg} {b0 : sx_B} {Sg : Nat → Option Nat} {U : State} {H : Heap} (h : sx_H D cl RT b0 Sg U H) {a r : Nat} (ha : Sg a = some r) : a < H.size := by
  obtain ⟨g, -, ⟨cell, h2, -⟩, -⟩ := h a r ha
  exact (Array.getElem?_eq_some_iff.mp h2).1
/-! what is known of a slot: (r, k, av): the k-th of the cell of region r holds av; k from 1048576 on tells a place by a symbol and a number; of all: (r, t, ex): every one but those in ex is of type t -/
def sx_ixf (k : Nat) : sx_LF := if Nat.blt k 1048576 then ((k : Int), []) else (((k % 1048576 : Nat) : Int) - 1024, [(k / 1048576 - 1, 1)])
/-- the place -/
def sx_ix (ρ : List Value) (k : Nat) : Option Nat := match sx_lf ρ (sx_ixf k) with
  | some x => if 0 ≤ x then some x.toNat else none
  | none => none
theorem sx_ix_lf {ρ : List Value} {k j : Nat} (h : sx_ix ρ k = some j) : sx_lf ρ (sx_ixf k) = some (j : Int) := by
  unfold sx_ix at h
  split at h
  · rename_i x hx
    split at h
    · cases h
      rw [hx]; congr 1; omega
    · cases h
  · cases h
theorem sx_lf_ix {ρ : List Value} {k j : Nat} (h : sx_lf ρ (sx_ixf k) = some (j : Int)) : sx_ix ρ k = some j := by
  unfold sx_ix
  rw [h]
  simp
theorem sx_ix_ext {ρ ρ2 : List Value} {k j : Nat} (h : sx_ix ρ k = some j) : sx_ix (ρ ++ ρ2) k = some j := sx_lf_ix (sx_lf_ext (sx_ix_lf h))
theorem sx_ix_con {ρ : List Value} {k : Nat} (h : Nat.blt k 1048576 = true) : sx_ix ρ k = some k := by
  refine sx_lf_ix ?_
  unfold sx_ixf
  rw [if_pos h]
  exact sx_const_ok _
theorem sx_ix_con' {ρ : List Value} {k j : Nat} (h : Nat.blt k 1048576 = true) (hj : sx_ix ρ k = some j) : j = k := by
  rw [sx_ix_con h] at hj
  exact (Option.some.inj hj).symm
/-- a form as a place -/
def sx_enc (f : sx_LF) : Option Nat := match f.2 with
  | [] => if 0 ≤ f.1 ∧ f.1 < 1048576 then some f.1.toNat else none
  | [q] => if q.2 = 1 ∧ -1024 ≤ f.1 ∧ f.1 < 1000000 then some ((q.1 + 1) * 1048576 + (f.1 + 1024).toNat) else none
  | _ => none
theorem sx_enc_f {f : sx_LF} {k : Nat} (h : sx_enc f = some k) : sx_ixf k = f := by
  obtain ⟨c, t⟩ := f
  unfold sx_enc at h
  split at h
  · rename_i ht
    have ht : t = [] := ht
    subst ht
    split at h
    · rename_i hc
      have hc : 0 ≤ c ∧ c < 1048576 := hc
      cases h
      unfold sx_ixf
      have : Nat.blt c.toNat 1048576 = true := Nat.blt_eq.mpr (by omega)
      show (if Nat.blt c.toNat 1048576 = true then _ else _) = _
      rw [if_pos this]
      show (((c.toNat : Nat) : Int), ([] : List (Nat × Int))) = (c, [])
      rw [show ((c.toNat : Nat) : Int) = c by omega]
    · cases h
  · rename_i q ht
    have ht : t = [q] := ht
    subst ht
    split at h
    · rename_i hc
      have hc : q.2 = 1 ∧ -1024 ≤ c ∧ c < 1000000 := hc
      obtain ⟨z, k1⟩ := q
      obtain ⟨h1, h2, h3⟩ := hc
      have h1 : k1 = 1 := h1
      subst h1
      have h : some ((z + 1) * 1048576 + (c + 1024).toNat) = some k := h
      obtain rfl := Option.some.inj h
      unfold sx_ixf
      have : ¬ Nat.blt ((z + 1) * 1048576 + (c + 1024).toNat) 1048576 = true := fun hb => by
        have := Nat.blt_eq.mp hb
        omega
      rw [if_neg this]
      have e1 : ((z + 1) * 1048576 + (c + 1024).toNat) % 1048576 = (c + 1024).toNat := by omega
      have e2 : ((z + 1) * 1048576 + (c + 1024).toNat) / 1048576 = z + 1 := by omega
      rw [e1, e2, Nat.add_sub_cancel]
      rw [show (((c + 1024).toNat : Nat) : Int) - 1024 = c by omega]
    · cases h
  · cases h
theorem sx_enc_ok {ρ : List Value} {f : sx_LF} {k j : Nat} (h : sx_enc f = some k) (hf : sx_lf ρ f = some (j : Int)) : sx_ix ρ k = some j := sx_lf_ix (by rw [sx_enc_f h]; exact hf)
def sx_ixn (ρ : List Value) (k : Nat) : Nat := (sx_ix ρ k).getD 0
theorem sx_ixn_eq {ρ : List Value} {k j : Nat} (h : sx_ix ρ k = some j) : sx_ixn ρ k = j := by unfold sx_ixn; rw [h]; rfl
def sx_ixd (ρ : List Value) (k n : Nat) : Prop := ∃ j, sx_ix ρ k = some j ∧ j < n
def sx_fact (D : va_G) (RT : Nat → Option sx_Rg) (Sg : Nat → Option Nat) (H : Heap) (ρ : List Value) (q : Nat × Nat × sx_AV) : Prop :=
  ∃ (a r : Nat) (g : sx_Rg) (cell : Cell) (v : Value), q.1 = r ∧ Sg a = some r ∧ RT (r) = some g ∧ H[a]? = some cell ∧ sx_ixd ρ q.2.1 (sx_wd g) ∧ cell.slots[sx_sl D g (sx_ixn ρ q.2.1)]? = some v ∧ sx_av ρ q.2.2 v
theorem sx_fact_mk {D : va_G} {RT : Nat → Option sx_Rg} {Sg : Nat → Option Nat} {H : Heap} {ρ : List Value} {r k j a : Nat} {av : sx_AV} {g : sx_Rg} {cell : Cell} {v : Value} (hk : sx_ix ρ k = some j) (h2 : Sg a = some r) (h3 : RT r = some g) (h4 : H[a]? = some cell) (h5 : j < sx_wd g) (h6 : cell.slots[sx_sl D g j]? = some v) (h7 : sx_av ρ av v) : sx_fact D RT Sg H ρ (r, k, av) :=
  ⟨a, r, g, cell, v, rfl, h2, h3, h4, ⟨j, hk, h5⟩, by show cell.slots[sx_sl D g (sx_ixn ρ k)]? = some v; rw [sx_ixn_eq hk]; exact h6, h7⟩
def sx_all (D : va_G) (RT : Nat → Option sx_Rg) (Sg : Nat → Option Nat) (H : Heap) (ρ : List Value) (q : Nat × sx_Ty × List Nat) : Prop :=
  ∃ (a r : Nat) (g : sx_Rg) (cell : Cell), q.1 = r ∧ Sg a = some r ∧ RT (r) = some g ∧ g.1 ≠ 0 ∧ H[a]? = some cell ∧ ∀ k v, k < sx_wd g → k ∉ q.2.2 → cell.slots[k]? = some v → sx_ok Sg v q.2.1
theorem sx_fact_ext {D : va_G} {RT : Nat → Option sx_Rg} {Sg : Nat → Option Nat} {H : Heap} {ρ ρ2 : List Value} {q : Nat × Nat × sx_AV} (h : sx_fact D RT Sg H ρ q) : sx_fact D RT Sg H (ρ ++ ρ2) q := by
  obtain ⟨a, r, g, cell, v, h1, h2, h3, h4, ⟨j, h5, h5'⟩, h6, h7⟩ := h
  rw [sx_ixn_eq h5] at h6
  exact ⟨a, r, g, cell, v, h1, h2, h3, h4, ⟨j, sx_ix_ext h5, h5'⟩, by rw [sx_ixn_eq (sx_ix_ext h5)]; exact h6, sx_av_ext h7⟩
theorem sx_all_ext {D : va_G} {RT : Nat → Option sx_Rg} {Sg : Nat → Option Nat} {H : Heap} {ρ ρ2 : List Value} {q : Nat × sx_Ty × List Nat} (h : sx_all D RT Sg H ρ q) : sx_all D RT Sg H (ρ ++ ρ2) q := by
  obtain ⟨a, r, g, cell, h1, h2⟩ := h
  exact ⟨a, r, g, cell, h1, h2⟩
/-- functions of ints whose answers may be taken alike: (which, arguments, symbol) -/
def sx_fun (FT : Nat → List Int → Int) (ρ : List Value) (q : Nat × List sx_LF × Nat) : Prop := ∃ (xs : List Int) (x : Int32), q.2.1.map (sx_lf ρ) = xs.map some ∧ ρ[q.2.2]? = some (.int x) ∧ x.toInt = FT q.1 xs
theorem sx_mapM_ext {ρ ρ2 : List Value} : ∀ {fs : List sx_LF} {xs : List Int}, fs.map (sx_lf ρ) = xs.map some → fs.map (sx_lf (ρ ++ ρ2)) = xs.map some
  | [], [], _ => rfl
  | f :: fs, x :: xs, h => by
    simp only [List.map_cons, List.cons.injEq] at h ⊢
    exact ⟨sx_lf_ext h.1, sx_mapM_ext h.2⟩
  | [], _ :: _, h => by simp at h
  | _ :: _, [], h => by simp at h
theorem sx_fun_ext {FT : Nat → List Int → Int} {ρ ρ2 : List Value} {q : Nat × List sx_LF × Nat} (h : sx_fun FT ρ q) : sx_fun FT (ρ ++ ρ2) q := by
  obtain ⟨xs, x, h1, h2, h3⟩ := h
  exact ⟨xs, x, sx_mapM_ext h1, sx_get_ext h2, h3⟩
/-! the whole of what is known ahead of a frame's own things: types, forms not below 0, forms not 0, functions; slots, arrays -/
/-- slots, arrays, how many cells are made -/
abbrev sx_FA : Type := List (Nat × Nat × sx_AV) × List (Nat × sx_Ty × List Nat) × Nat
abbrev sx_Kn : Type := (List sx_Ty × List sx_LF × List sx_LF × List (Nat × List sx_LF × Nat)) × sx_FA
def sx_G (FT : Nat → List Int → Int) (D : va_G) (RT : Nat → Option sx_Rg) (Sg : Nat → Option Nat) (H : Heap) (ρ : List Value) (K : sx_Kn) : Prop :=
  sx_env Sg K.1.1 ρ ∧ sx_cs K.1.2.1 ρ ∧ (∀ f ∈ K.1.2.2.1, ∃ n, sx_lf ρ f = some n ∧ n ≠ 0) ∧ (∀ q ∈ K.1.2.2.2, sx_fun FT ρ q) ∧ (∀ q ∈ K.2.1, sx_fact D RT Sg H ρ q) ∧ (∀ q ∈ K.2.2.1, sx_all D RT Sg H ρ q) ∧ ∀ a r, Sg a = some r → r < K.2.2.2
theorem sx_cs_ext {C : List sx_LF} {ρ ρ2 : List Value} (h : sx_cs C ρ) : sx_cs C (ρ ++ ρ2) := fun f hf => by
  obtain ⟨n, h1, h2⟩ := h f hf
  exact ⟨n, sx_lf_ext h1, h2⟩
theorem sx_env_ext {Sg : Nat → Option Nat} {E : List sx_Ty} {ρ : List Value} {t : sx_Ty} {v : Value} (h : sx_env Sg E ρ) (hv : sx_ok Sg v t) : sx_env Sg (E ++ [t]) (ρ ++ [v]) := by
  refine ⟨by simp [h.1], fun z u w hz hw => ?_⟩
  by_cases hlt : z < E.length
  · rw [List.getElem?_append_left hlt] at hz
    rw [List.getElem?_append_left (by rw [h.1]; exact hlt)] at hw
    exact h.2 z u w hz hw
  · rw [List.getElem?_append_right (by omega)] at hz
    rw [List.getElem?_append_right (by rw [h.1]; omega)] at hw
    have hz0 : z - E.length = 0 := by
      have := (List.getElem?_eq_some_iff.mp hz).1
      simp at this
      omega
    rw [hz0] at hz
    rw [h.1, hz0] at hw
    simp at hz hw
    subst hz; subst hw
    exact hv
theorem sx_G_ext {FT : Nat → List Int → Int} {D : va_G} {RT : Nat → Option sx_Rg} {Sg : Nat → Option Nat} {H : Heap} {ρ : List Value} {E : List sx_Ty} {CN : List sx_LF × List sx_LF × List (Nat × List sx_LF × Nat)} {FA : sx_FA} {t : sx_Ty} {v : Value}
    (h : sx_G FT D RT Sg H ρ ((E, CN), FA)) (hv : sx_ok Sg v t) : sx_G FT D RT Sg H (ρ ++ [v]) ((E ++ [t], CN), FA) := by
  obtain ⟨h1, h2, h3, h4, h5, h6⟩ := h
  refine ⟨sx_env_ext h1 hv, sx_cs_ext h2, fun f hf => ?_, fun q hq => sx_fun_ext (h4 q hq), fun q hq => sx_fact_ext (h5 q hq), fun q hq => sx_all_ext (h6.1 q hq), h6.2⟩
  obtain ⟨n, k1, k2⟩ := h3 f hf
  exact ⟨n, sx_lf_ext k1, k2⟩
/-- a frame's locals and stack -/
def sx_Fr (ρ : List Value) (nL : Nat) (ls : Array Slot) (stk : List Value) (L : List (Nat × sx_AV)) (S : List sx_AV) : Prop :=
  ls.size = nL ∧ lv_wf ls ∧ (∀ q ∈ L, ∃ v, sx_av ρ q.2 v ∧ ls[q.1]? = some (.val v)) ∧ sx_stk ρ S stk
theorem sx_Fr_ext {ρ ρ2 : List Value} {nL : Nat} {ls : Array Slot} {stk : List Value} {L : List (Nat × sx_AV)} {S : List sx_AV} (h : sx_Fr ρ nL ls stk L S) : sx_Fr (ρ ++ ρ2) nL ls stk L S := by
  obtain ⟨h1, h2, h3, h4⟩ := h
  refine ⟨h1, h2, fun q hq => ?_, sx_stk_ext h4⟩
  obtain ⟨v, k1, k2⟩ := h3 q hq
  exact ⟨v, sx_av_ext k1, k2⟩
/-- a result: an exact form, or a new symbol -/
def sx_new (tag : Nat) (E : List sx_Ty) (r : sx_Rs) : List sx_Ty × sx_AV := match r with
  | .inl h => (E, (tag, h))
  | .inr q => (E ++ [(tag, q.1, q.2)], (tag, (0, [(E.length, 1)])))
theorem sx_iv_new {E : List sx_Ty} {ρ : List Value} {v : Value} (h : ρ.length = E.length) : (ρ ++ [v])[E.length]? = some v := by
  rw [← h]; simp
theorem sx_new32 {FT : Nat → List Int → Int} {D : va_G} {RT : Nat → Option sx_Rg} {Sg : Nat → Option Nat} {H : Heap} {ρ : List Value} {E : List sx_Ty} {CN : List sx_LF × List sx_LF × List (Nat × List sx_LF × Nat)} {FA : sx_FA}
    (h : sx_G FT D RT Sg H ρ ((E, CN), FA)) {r : sx_Rs} {x : Int32} (hr : sx_rs32 ρ r x) : ∃ ρ2, sx_G FT D RT Sg H (ρ ++ ρ2) (((sx_new 0 E r).1, CN), FA) ∧ sx_av (ρ ++ ρ2) (sx_new 0 E r).2 (.int x) := by
  cases r with
  | inl f => exact ⟨[], by rw [List.append_nil]; exact h, by rw [List.append_nil]; exact sx_int_av hr⟩
  | inr q =>
    refine ⟨[.int x], sx_G_ext h (Or.inl ⟨rfl, x, rfl, hr.1, hr.2⟩), sx_int_av (sx_sym_ok ?_)⟩
    unfold sx_iv
    rw [sx_iv_new h.1.1]
theorem sx_new64 {FT : Nat → List Int → Int} {D : va_G} {RT : Nat → Option sx_Rg} {Sg : Nat → Option Nat} {H : Heap} {ρ : List Value} {E : List sx_Ty} {CN : List sx_LF × List sx_LF × List (Nat × List sx_LF × Nat)} {FA : sx_FA}
    (h : sx_G FT D RT Sg H ρ ((E, CN), FA)) {r : sx_Rs} {x : Int64} (hr : sx_rs64 ρ r x) : ∃ ρ2, sx_G FT D RT Sg H (ρ ++ ρ2) (((sx_new 1 E r).1, CN), FA) ∧ sx_av (ρ ++ ρ2) (sx_new 1 E r).2 (.long x) := by
  cases r with
  | inl f => exact ⟨[], by rw [List.append_nil]; exact h, by rw [List.append_nil]; exact sx_long_av hr⟩
  | inr q =>
    refine ⟨[.long x], sx_G_ext h (Or.inr (Or.inl ⟨rfl, x, rfl, hr.1, hr.2⟩)), sx_long_av (sx_sym_ok ?_)⟩
    unfold sx_iv
    rw [sx_iv_new h.1.1]
