/-! pm: walks by hand over a memory told as a function of region and place; values: (0, x) an int, (1, x) a long, (2, r) a reference to region r's cell, (3, _) null, (4, a) the address a itself, (9, _) nothing known -/
abbrev pm_V : Type := Nat × Int
abbrev pm_Mem : Type := Nat → Int → Int
abbrev pm_St : Type := Nat × List pm_V × List pm_V × pm_Mem
def pm_v (Sg : Nat → Option Nat) (a : pm_V) (v : Value) : Prop :=
  (a.1 = 0 ∧ ∃ x : Int32, v = .int x ∧ x.toInt = a.2) ∨ (a.1 = 1 ∧ ∃ x : Int64, v = .long x ∧ x.toInt = a.2) ∨ (a.1 = 2 ∧ ∃ q, v = .ref q ∧ Sg q = some a.2.toNat) ∨ (a.1 = 3 ∧ v = .null) ∨ (a.1 = 4 ∧ v = .ref a.2.toNat)
def pm_up (μ : pm_Mem) (r : Nat) (i x : Int) : pm_Mem := fun r' i' => if r' = r ∧ i' = i then x else μ r' i'
def pm_in (z : Int) : Prop := -2147483648 ≤ z ∧ z ≤ 2147483647
def pm_all : List Prop → Prop
  | [] => True
  | q :: l => q ∧ pm_all l
theorem pm_all_app {l m : List Prop} : pm_all (l ++ m) → pm_all l ∧ pm_all m := by
  induction l with
  | nil => exact fun h => ⟨trivial, h⟩
  | cons a l ih => exact fun h => ⟨⟨h.1, (ih h.2).1⟩, (ih h.2).2⟩
theorem pm_v_int {Sg : Nat → Option Nat} {a : pm_V} {v : Value} (h : pm_v Sg a v) (ha : a.1 = 0) : ∃ y : Int32, v = .int y ∧ y.toInt = a.2 := by
  rcases h with ⟨-, h⟩ | ⟨h1, -⟩ | ⟨h1, -⟩ | ⟨h1, -⟩ | ⟨h1, -⟩
  · exact h
  all_goals omega
theorem pm_v_ref {Sg : Nat → Option Nat} {a : pm_V} {v : Value} (h : pm_v Sg a v) (ha : a.1 = 2) : ∃ q, v = .ref q ∧ Sg q = some a.2.toNat := by
  rcases h with ⟨h1, -⟩ | ⟨h1, -⟩ | ⟨-, h⟩ | ⟨h1, -⟩ | ⟨h1, -⟩
  · omega
  · omega
  · exact h
  · omega
  · omega
theorem pm_v_null {Sg : Nat → Option Nat} {a : pm_V} {v : Value} (h : pm_v Sg a v) (ha : a.1 = 3) : v = .null := by
  rcases h with ⟨h1, -⟩ | ⟨h1, -⟩ | ⟨h1, -⟩ | ⟨-, h⟩ | ⟨h1, -⟩
  · omega
  · omega
  · omega
  · exact h
  · omega
theorem pm_v_adr {Sg : Nat → Option Nat} {a : pm_V} {v : Value} (h : pm_v Sg a v) (ha : a.1 = 4) : v = .ref a.2.toNat := by
  rcases h with ⟨h1, -⟩ | ⟨h1, -⟩ | ⟨h1, -⟩ | ⟨h1, -⟩ | ⟨-, h⟩
  · omega
  · omega
  · omega
  · omega
  · exact h
theorem pm_cat {Sg : Nat → Option Nat} {a : pm_V} {v : Value} (h : pm_v Sg a v) : v.category = if a.1 = 1 then 2 else 1 := by
  rcases h with ⟨h1, x, rfl, -⟩ | ⟨h1, x, rfl, -⟩ | ⟨h1, q, rfl, -⟩ | ⟨h1, rfl⟩ | ⟨h1, rfl⟩ <;> rw [h1] <;> rfl
def pm_S (Sg : Nat → Option Nat) : List pm_V → List Value → Prop
  | [], [] => True
  | a :: S, v :: t => pm_v Sg a v ∧ pm_S Sg S t
  | _, _ => False
theorem pm_S_cons {Sg : Nat → Option Nat} {a : pm_V} {S : List pm_V} {t : List Value} (h : pm_S Sg (a :: S) t) : ∃ v r, t = v :: r ∧ pm_v Sg a v ∧ pm_S Sg S r := by
  cases t with
  | nil => exact h.elim
  | cons v r => exact ⟨v, r, rfl, h.1, h.2⟩
theorem pm_S_nil {Sg : Nat → Option Nat} {t : List Value} (h : pm_S Sg [] t) : t = [] := by
  cases t with
  | nil => rfl
  | cons v r => exact h.elim
theorem pm_S_split {Sg : Nat → Option Nat} : ∀ {S1 S2 : List pm_V} {t : List Value}, pm_S Sg (S1 ++ S2) t → ∃ t1 t2, t = t1 ++ t2 ∧ pm_S Sg S1 t1 ∧ pm_S Sg S2 t2
  | [], S2, t, h => ⟨[], t, rfl, trivial, h⟩
  | a :: S1, S2, t, h => by
    obtain ⟨v, r, rfl, h1, h2⟩ := pm_S_cons h
    obtain ⟨t1, t2, rfl, h3, h4⟩ := pm_S_split h2
    exact ⟨v :: t1, t2, rfl, ⟨h1, h3⟩, h4⟩
theorem pm_S_join {Sg : Nat → Option Nat} : ∀ {S1 S2 : List pm_V} {t1 t2 : List Value}, pm_S Sg S1 t1 → pm_S Sg S2 t2 → pm_S Sg (S1 ++ S2) (t1 ++ t2)
  | [], S2, [], t2, _, h => h
  | a :: S1, S2, v :: t1, t2, h, k => ⟨h.1, pm_S_join h.2 k⟩
  | [], _, _ :: _, _, h, _ => h.elim
  | _ :: _, _, [], _, h, _ => h.elim
theorem pm_S_rev {Sg : Nat → Option Nat} : ∀ {S : List pm_V} {t : List Value}, pm_S Sg S t → pm_S Sg S.reverse t.reverse
  | [], [], _ => trivial
  | a :: S, v :: t, h => by
    rw [List.reverse_cons, List.reverse_cons]
    exact pm_S_join (pm_S_rev h.2) ⟨h.1, trivial⟩
  | [], _ :: _, h => h.elim
  | _ :: _, [], h => h.elim
theorem pm_S_len {Sg : Nat → Option Nat} : ∀ {S : List pm_V} {t : List Value}, pm_S Sg S t → t.length = S.length
  | [], [], _ => rfl
  | a :: S, v :: t, h => by simp [pm_S_len h.2]
  | [], _ :: _, h => h.elim
  | _ :: _, [], h => h.elim
/-- locals -/
def pm_L (Sg : Nat → Option Nat) (nL : Nat) (lv : List pm_V) (ls : Array Slot) : Prop := ls.size = nL ∧ lv_wf ls ∧ ∀ (i : Nat) (a : pm_V), lv[i]? = some a → a.1 ≠ 9 → ∃ v : Value, pm_v Sg a v ∧ ls[i]? = some (Slot.val v)
def pm_lvs (ls : Array Slot) : List (Nat × Value) := (List.range ls.size).filterMap (sx_lv1 ls)
theorem pm_lvs_has {Sg : Nat → Option Nat} {nL : Nat} {lv : List pm_V} {ls : Array Slot} (h : pm_L Sg nL lv ls) : lv_has ls nL (pm_lvs ls) := by
  refine ⟨h.1, h.2.1, fun q hq => ?_⟩
  obtain ⟨i, -, h2⟩ := List.mem_filterMap.mp hq
  unfold sx_lv1 at h2
  cases h3 : ls[i]? with
  | none => rw [h3] at h2; cases h2
  | some x =>
    rw [h3] at h2
    cases x with
    | val v => cases h2; exact h3
    | unset => cases h2
    | second => cases h2
theorem pm_lvs_mem {ls : Array Slot} {i : Nat} {v : Value} (h : ls[i]? = some (.val v)) : (i, v) ∈ pm_lvs ls :=
  List.mem_filterMap.mpr ⟨i, List.mem_range.mpr (Array.getElem?_eq_some_iff.mp h).1, by unfold sx_lv1; rw [h]⟩
noncomputable def pm_nl (lv : List pm_V) (i : Nat) : Bool := match i with
  | 0 => true
  | j + 1 => match lv[j]? with
    | some a => sx_nb (Nat.beq a.1 1)
    | none => true
theorem pm_store {Sg : Nat → Option Nat} {nL : Nat} {lv : List pm_V} {ls ls' : Array Slot} {a : pm_V} {v : Value} {i : Nat} (h : pm_L Sg nL lv ls) (hv : pm_v Sg a v) (hn : pm_nl lv i = true)
    (h' : lv_has ls' nL ((i, v) :: (pm_lvs ls).filter (fun q => !(q.1 == i) && !(q.1 + 1 == i && q.2.category == 2)))) : pm_L Sg nL (lv.set i a) ls' := by
  refine ⟨h'.1, h'.2.1, fun j b hj hb => ?_⟩
  by_cases hji : j = i
  · subst hji
    rw [List.getElem?_set] at hj
    by_cases hlt : j < lv.length
    · rw [if_pos rfl, if_pos hlt] at hj
      cases hj
      exact ⟨v, hv, h'.2.2 _ List.mem_cons_self⟩
    · rw [if_pos rfl, if_neg hlt] at hj
      cases hj
  · rw [List.getElem?_set_ne (Ne.symm hji)] at hj
    obtain ⟨w, w1, w2⟩ := h.2.2 j b hj hb
    refine ⟨w, w1, h'.2.2 (j, w) (List.mem_cons_of_mem _ (List.mem_filter.mpr ⟨pm_lvs_mem w2, ?_⟩))⟩
    have hc := pm_cat w1
    by_cases e : j + 1 = i
    · subst e
      unfold pm_nl at hn
      simp only [hj] at hn
      have hb1 : b.1 ≠ 1 := fun hb1 => by
        have hn : sx_nb (Nat.beq b.1 1) = true := hn
        rw [hb1] at hn
        cases hn
      rw [if_neg hb1] at hc
      simp [hc]
    · simp [hji, e]
/-- wide types -/
def pm_wt (t : sx_Ty) : sx_Ty := if t.1 = 0 then (0, -2147483648, 2147483647) else if t.1 = 1 then (1, -9223372036854775808, 9223372036854775807) else t
def pm_wg (g : sx_Rg) : sx_Rg := (g.1, g.2.1, g.2.2.1, g.2.2.2.map pm_wt)
def pm_w (RT : Nat → Option sx_Rg) (r : Nat) : Option sx_Rg := match RT r with
  | some g => some (pm_wg g)
  | none => none
def pm_M (D : va_G) (RT : Nat → Option sx_Rg) (Sg : Nat → Option Nat) (μ : pm_Mem) (H : Heap) : Prop := ∀ (q r : Nat) (g : sx_Rg) (cell : Cell) (k : Nat) (t : sx_Ty), Sg q = some r → RT r = some g → H[q]? = some cell → k < sx_wd g → sx_ft g k = some t → t.1 ≤ 1 → ∃ v, cell.slots[sx_sl D g k]? = some v ∧ pm_v Sg (t.1, μ r (k : Int)) v
theorem pm_w_ok {RT : Nat → Option sx_Rg} {r : Nat} {g' : sx_Rg} (h : pm_w RT r = some g') : ∃ g, RT r = some g ∧ g' = pm_wg g := by
  unfold pm_w at h
  cases hr : RT r with
  | none => rw [hr] at h; cases h
  | some g => rw [hr] at h; exact ⟨g, rfl, (Option.some.inj h).symm⟩
theorem pm_w_some {RT : Nat → Option sx_Rg} {r : Nat} {g : sx_Rg} (h : RT r = some g) : pm_w RT r = some (pm_wg g) := by
  unfold pm_w; rw [h]
theorem pm_wg_wd (g : sx_Rg) : sx_wd (pm_wg g) = sx_wd g := by unfold sx_wd pm_wg; simp
theorem pm_wg_ft (g : sx_Rg) (k : Nat) : sx_ft (pm_wg g) k = (sx_ft g k).map pm_wt := by
  unfold sx_ft pm_wg
  split <;> simp
theorem pm_wg_sl (D : va_G) (g : sx_Rg) (k : Nat) : sx_sl D (pm_wg g) k = sx_sl D g k := rfl
theorem pm_wg_kind {D : va_G} {cl : List vw_C} {U : State} (g : sx_Rg) (cell : Cell) : sx_kind D cl U (pm_wg g) cell ↔ sx_kind D cl U g cell := Iff.rfl
theorem pm_wg_mut (g : sx_Rg) : sx_mut (pm_wg g) = sx_mut g := rfl
theorem pm_wt_ok {Sg : Nat → Option Nat} {v : Value} {t : sx_Ty} (h : sx_ok Sg v t) : sx_ok Sg v (pm_wt t) := by
  unfold pm_wt
  rcases h with ⟨h1, x, rfl, -⟩ | ⟨h1, x, rfl, -⟩ | ⟨h1, h2⟩ | ⟨h1, h2⟩
  · rw [if_pos h1]
    have := Int32.le_toInt x
    have := Int32.toInt_lt x
    exact Or.inl ⟨rfl, x, rfl, by show (-2147483648 : Int) ≤ x.toInt; omega, by show x.toInt ≤ (2147483647 : Int); omega⟩
  · rw [if_neg (by omega), if_pos h1]
    have := Int64.le_toInt x
    have := Int64.toInt_lt x
    exact Or.inr (Or.inl ⟨rfl, x, rfl, by show (-9223372036854775808 : Int) ≤ x.toInt; omega, by show x.toInt ≤ (9223372036854775807 : Int); omega⟩)
  · rw [if_neg (by omega), if_neg (by omega)]
    exact Or.inr (Or.inr (Or.inl ⟨h1, h2⟩))
  · rw [if_neg (by omega), if_neg (by omega)]
    exact Or.inr (Or.inr (Or.inr ⟨h1, h2⟩))
/-- of an exact value's type -/
theorem pm_v_ok {Sg : Nat → Option Nat} {v : Value} {t : sx_Ty} {x : Int} (h : pm_v Sg (t.1, x) v) (ht : t.1 ≤ 1) (h1 : t.2.1 ≤ x) (h2 : x ≤ t.2.2) : sx_ok Sg v t := by
  rcases h with ⟨k1, y, rfl, hy⟩ | ⟨k1, y, rfl, hy⟩ | ⟨k1, -⟩ | ⟨k1, -⟩ | ⟨k1, -⟩
  · have hy : y.toInt = x := hy
    exact Or.inl ⟨k1, y, rfl, by omega, by omega⟩
  · have hy : y.toInt = x := hy
    exact Or.inr (Or.inl ⟨k1, y, rfl, by omega, by omega⟩)
  · have k1 : t.1 = 2 := k1
    omega
  · have k1 : t.1 = 3 := k1
    omega
  · have k1 : t.1 = 4 := k1
    omega
section PMH
variable {D : va_G} {cl : List vw_C} {RT : Nat → Option sx_Rg} {Wm : Nat} {b0 : sx_B} {Sg : Nat → Option Nat} {s : State} {H : Heap}
/-- a region's cell -/
theorem pm_cell {q r : Nat} {g : sx_Rg} (hH : sx_H D cl (pm_w (sx_fz Wm RT)) b0 Sg s H) (h1 : Sg q = some r) (h2 : RT r = some g) : ∃ cell : Cell, H[q]? = some cell ∧ sx_kind D cl s g cell ∧ (∀ k : Nat, k < sx_wd g → ∃ v t, cell.slots[sx_sl D g k]? = some v ∧ sx_ft g k = some t ∧ sx_ok Sg v (pm_wt t)) ∧ (sx_bit Wm r = true → g.2.2.1 = 0 → b0.1 q) ∧ ∀ q', Sg q' = some r → q' = q := by
  obtain ⟨g', k1, ⟨cell, k2, k3, k4⟩, k5, k6⟩ := hH q r h1
  obtain ⟨g1, m1, rfl⟩ := pm_w_ok k1
  rw [sx_fz_some h2] at m1
  cases m1
  refine ⟨cell, k2, (sx_fz1_kind Wm r g cell).mp ((pm_wg_kind _ cell).mp k3), fun k hk => ?_, fun hb h0 => ?_, k6⟩
  · obtain ⟨v, t, e1, e2, e3⟩ := k4 k (by rw [pm_wg_wd, sx_fz1_wd]; exact hk)
    rw [pm_wg_ft, sx_fz1_ft] at e2
    rw [pm_wg_sl, sx_fz1_sl] at e1
    cases hf : sx_ft g k with
    | none => rw [hf] at e2; cases e2
    | some t0 =>
      rw [hf] at e2
      cases e2
      exact ⟨v, t0, e1, rfl, e3⟩
  · refine k5 ?_
    rw [pm_wg_mut]
    unfold sx_fz1
    rw [if_pos (by rw [hb]; simp)]
    unfold sx_mut
    rw [h0]; simp
theorem pm_w_fz {r : Nat} {g : sx_Rg} (h2 : RT r = some g) : pm_w (sx_fz Wm RT) r = some (pm_wg (sx_fz1 Wm r g)) := pm_w_some (sx_fz_some h2)
/-- a number is written -/
theorem pm_write {q r k : Nat} {g : sx_Rg} {cell : Cell} {t : sx_Ty} {v : Value} {x : Int} {H' : Heap} {μ : pm_Mem} (hH : sx_H D cl (pm_w (sx_fz Wm RT)) b0 Sg s H) (hm : pm_M D RT Sg μ H) (h1 : Sg q = some r) (h2 : RT r = some g) (h4 : H[q]? = some cell) (hk : k < sx_wd g) (hft : sx_ft g k = some t) (ht : t.1 ≤ 1) (hv : pm_v Sg (t.1, x) v)
    (hap : ∀ x y, x < sx_wd g → y < sx_wd g → x ≠ y → sx_sl D g x ≠ sx_sl D g y) (e1 : H'[q]? = some (cell.setSlot (sx_sl D g k) v)) (e3 : ∀ x, x ≠ q → H'[x]? = H[x]?) : sx_H D cl (pm_w (sx_fz Wm RT)) b0 Sg s H' ∧ pm_M D RT Sg (pm_up μ r (k : Int) x) H' := by
  obtain ⟨cell', c1, -, c3, -, c5⟩ := pm_cell hH h1 h2
  rw [h4] at c1
  cases c1
  obtain ⟨w0, t0, s1, s2, s3⟩ := c3 k hk
  refine ⟨sx_H_set (k := k) (t := pm_wt t) hH h1 (pm_w_fz h2) h4 (by rw [pm_wg_wd, sx_fz1_wd]; exact hk) (by rw [pm_wg_ft, sx_fz1_ft, hft]; rfl) ?_ (fun x y hx hy hne => ?_) (by rw [pm_wg_sl, sx_fz1_sl]; exact e1) e3, ?_⟩
  · rcases hv with ⟨k1, y, rfl, hy⟩ | ⟨k1, y, rfl, hy⟩ | ⟨k1, -⟩ | ⟨k1, -⟩ | ⟨k1, -⟩
    · have k1 : t.1 = 0 := k1
      unfold pm_wt
      rw [if_pos k1]
      have := Int32.le_toInt y
      have := Int32.toInt_lt y
      exact Or.inl ⟨rfl, y, rfl, by show (-2147483648 : Int) ≤ y.toInt; omega, by show y.toInt ≤ (2147483647 : Int); omega⟩
    · have k1 : t.1 = 1 := k1
      unfold pm_wt
      rw [if_neg (by omega), if_pos k1]
      have := Int64.le_toInt y
      have := Int64.toInt_lt y
      exact Or.inr (Or.inl ⟨rfl, y, rfl, by show (-9223372036854775808 : Int) ≤ y.toInt; omega, by show y.toInt ≤ (9223372036854775807 : Int); omega⟩)
    · have k1 : t.1 = 2 := k1
      omega
    · have k1 : t.1 = 3 := k1
      omega
    · have k1 : t.1 = 4 := k1
      omega
  · rw [pm_wg_wd, sx_fz1_wd] at hx hy
    rw [pm_wg_sl, pm_wg_sl, sx_fz1_sl, sx_fz1_sl]
    exact hap x y hx hy hne
  · intro q' r' g' cell' k' t' a1 a2 a3 a4 a5 a6
    by_cases hq : q' = q
    · subst hq
      rw [h1] at a1; cases a1
      rw [h2] at a2; cases a2
      rw [e1] at a3; cases a3
      by_cases hkk : k' = k
      · subst hkk
        rw [hft] at a5; cases a5
        refine ⟨v, Cell.slots_setSlot_self _ (k2_hasslot s1), ?_⟩
        unfold pm_up
        rw [if_pos ⟨rfl, rfl⟩]
        exact hv
      · obtain ⟨w, w1, w2⟩ := hm q' r g cell k' t' h1 h2 h4 a4 a5 a6
        refine ⟨w, by rw [slot_ne _ _ (hap k k' hk a4 (Ne.symm hkk))]; exact w1, ?_⟩
        unfold pm_up
        rw [if_neg (fun h => hkk (by have := h.2; omega))]
        exact w2
    · rw [e3 q' hq] at a3
      obtain ⟨w, w1, w2⟩ := hm q' r' g' cell' k' t' a1 a2 a3 a4 a5 a6
      refine ⟨w, w1, ?_⟩
      unfold pm_up
      rw [if_neg (fun h => hq (c5 q' (by rw [a1, h.1])))]
      exact w2
end PMH
