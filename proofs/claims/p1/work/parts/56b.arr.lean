/-! an array of ints walked by hand: what it holds as a function, the rest of the heap as it is told of -/
def pa_arr (RT : Nat → Option sx_Rg) (Sg : Nat → Option Nat) (H : Heap) (q r n : Nat) (f : Nat → Int32) : Prop :=
  Sg q = some r ∧ RT r = some (1, n, 0, [(0, -2147483648, 2147483647)]) ∧ ∃ cell : Cell, H[q]? = some cell ∧ ∀ k, k < n → cell.slots[k]? = some (.int (f k))
def pa_off (r : Nat) (FA : sx_FA) : Prop := (∀ x ∈ FA.1, x.1 ≠ r) ∧ ∀ x ∈ FA.2.1, x.1 ≠ r
/-- the heap: typed, told of, written from b0 on alone, one array known -/
def pa_I (FT : Nat → List Int → Int) (D : va_G) (cl : List vw_C) (RT : Nat → Option sx_Rg) (b0 : Nat) (s : State) (Sg : Nat → Option Nat) (ρ : List Value) (K : sx_Kn) (q r n : Nat) (H : Heap) (locs : List Loc) (f : Nat → Int32) : Prop :=
  sx_H D cl RT b0 Sg s H ∧ sx_G FT D RT Sg H ρ K ∧ va_S (fun q => b0 ≤ q) s.heap H locs ∧ pa_arr RT Sg H q r n f
theorem pa_acpF {r : Nat} {FA : sx_FA} : pa_off r (sx_acpF r FA) := by
  refine ⟨fun x hx => ?_, fun x hx => ?_⟩
  · obtain ⟨-, h2⟩ := sx_mem_flt.mp hx
    intro h
    simp [sx_nb_eq, sx_beq_eq, h] at h2
  · obtain ⟨-, h2⟩ := sx_mem_flt.mp hx
    intro h
    simp [sx_nb_eq, sx_beq_eq, h] at h2
section PA
variable {FT : Nat → List Int → Int} {D : va_G} {cl : List vw_C} {RT : Nat → Option sx_Rg} {b0 nL : Nat} {p : Program} {l : Launch} {e : Env} {R : Room} {s : State} {m : MethodId} {args : Array Value} {below : List Frame} {meth : Method} {c : Code} {Q : State → Prop}
  {pc nc ns : Nat} {cc : ByteArray} {own : String} {Ts : List Cond} {Sg : Nat → Option Nat} {H : Heap} {ρ : List Value} {ls : Array Slot} {locs : List Loc} {K1 : List sx_Ty × List sx_LF × List sx_LF × List (Nat × List sx_LF × Nat)} {FA : sx_FA} {q r n : Nat} {f : Nat → Int32} {rest : List Value}
theorem pa_acpG (hG : sx_G FT D RT Sg H ρ (K1, FA)) : sx_G FT D RT Sg H ρ (K1, sx_acpF r FA) :=
  ⟨hG.1, hG.2.1, hG.2.2.1, hG.2.2.2.1, fun x hx => hG.2.2.2.2.1 x (sx_mem_flt.mp hx).1, fun x hx => hG.2.2.2.2.2.1 x (sx_mem_flt.mp hx).1, hG.2.2.2.2.2.2⟩
theorem pa_some (hH : sx_H D cl RT b0 Sg s H) (h1 : Sg q = some r) (h2 : RT r = some (1, n, 0, [(0, -2147483648, 2147483647)])) : ∃ f, pa_arr RT Sg H q r n f := by
  obtain ⟨g, k1, ⟨cell, k2, k3, k4⟩, k5⟩ := hH q r h1
  rw [h2] at k1
  cases k1
  refine ⟨fun k => match cell.slots[k]? with
    | some (.int x) => x
    | _ => 0, h1, h2, cell, k2, fun k hk => ?_⟩
  obtain ⟨v, t, w1, w2, w3⟩ := k4 k hk
  have w2 : some ((0 : Nat), (-2147483648 : Int), (2147483647 : Int)) = some t := w2
  cases w2
  have w1 : cell.slots[k]? = some v := w1
  rcases w3 with ⟨-, x, rfl, -⟩ | ⟨k1, -⟩ | ⟨k1, -⟩ | ⟨k1, -⟩
  · simp only [w1]
  · exact absurd k1 (by decide)
  · exact absurd k1 (by decide)
  · exact absurd k1 (by decide)
theorem pa_G {H' : Heap} (hG : sx_G FT D RT Sg H ρ (K1, FA)) (hoff : pa_off r FA) (h2 : Sg q = some r) (e3 : ∀ x, x ≠ q → H'[x]? = H[x]?) : sx_G FT D RT Sg H' ρ (K1, FA) := by
  refine ⟨hG.1, hG.2.1, hG.2.2.1, hG.2.2.2.1, fun x hx => ?_, fun x hx => ?_, hG.2.2.2.2.2.2⟩
  · obtain ⟨a, ra, ga, ca, v, o1, o2, o3, o4, o5⟩ := hG.2.2.2.2.1 x hx
    have hne : a ≠ q := fun he => by
      rw [he, h2] at o2
      cases o2
      exact hoff.1 x hx o1
    exact ⟨a, ra, ga, ca, v, o1, o2, o3, by rw [e3 a hne]; exact o4, o5⟩
  · obtain ⟨a, ra, ga, ca, o1, o2, o3, o4, o5, o6⟩ := hG.2.2.2.2.2.1 x hx
    have hne : a ≠ q := fun he => by
      rw [he, h2] at o2
      cases o2
      exact hoff.2 x hx o1
    exact ⟨a, ra, ga, ca, o1, o2, o3, o4, by rw [e3 a hne]; exact o5, o6⟩
theorem pa_kind (hH : sx_H D cl RT b0 Sg s H) (ha : pa_arr RT Sg H q r n f) : ∃ cell : Cell, H[q]? = some cell ∧ sx_kind D cl s (1, n, 0, [(0, -2147483648, 2147483647)]) cell ∧ b0 ≤ q ∧ n ≤ cell.slots.size ∧ ∀ k, k < n → cell.slots[k]? = some (.int (f k)) := by
  obtain ⟨h1, h2, cell, h3, h4⟩ := ha
  obtain ⟨g, k1, ⟨cell', k2, k3, k4⟩, k5⟩ := hH q r h1
  rw [h2] at k1
  cases k1
  rw [h3] at k2
  cases k2
  refine ⟨cell, h3, k3, k5.1 rfl, ?_, h4⟩
  rcases k3 with ⟨y, -⟩ | ⟨-, -, -, y, -⟩
  · exact absurd y Nat.one_ne_zero
  · exact y
theorem pa_ald {y : Int32} (hC : sx_Cx p s m args c cc nL own Ts) (hH : sx_H D cl RT b0 Sg s H) (ha : pa_arr RT Sg H q r n f) (h0 : 0 ≤ y.toInt) (h1 : y.toInt < n) (hd : decode cc pc = .ok (.iaload, 1))
    (kk : W p l e R s m args below meth c H locs nc ns Q (F0 m (pc + 1) ls (.int (f y.toInt.toNat) :: rest))) : W p l e R s m args below meth c H locs nc ns Q (F0 m pc ls (.int y :: .ref q :: rest)) := by
  obtain ⟨cell, h3, hk, -, -, h4⟩ := pa_kind hH ha
  have hcl : y.toNatClampNeg = y.toInt.toNat := rfl
  exact sx_Wald hC (Or.inl ⟨rfl, rfl⟩) h3 hk h0 h1 (by rw [hcl]; exact h4 _ (by omega)) hd kk
theorem pa_alen (hC : sx_Cx p s m args c cc nL own Ts) (hH : sx_H D cl RT b0 Sg s H) (ha : pa_arr RT Sg H q r n f) (hd : decode cc pc = .ok (.arraylength, 1))
    (kk : W p l e R s m args below meth c H locs nc ns Q (F0 m (pc + 1) ls (.int (Int32.ofNat n) :: rest))) : W p l e R s m args below meth c H locs nc ns Q (F0 m pc ls (.ref q :: rest)) := by
  obtain ⟨cell, h3, hk, -, -, h4⟩ := pa_kind hH ha
  obtain ⟨hx, hb, -, hown, hts⟩ := hC
  rcases hk with ⟨y, -⟩ | ⟨h2, h3', h4', h5, h6⟩
  · exact absurd y Nat.one_ne_zero
  · exact W.alen (n := Int32.ofNat n) hx hb h3 h3' h6.1 rfl rfl hd kk
theorem pa_ast {x y : Int32} (hC : sx_Cx p s m args c cc nL own Ts) (hI : pa_I FT D cl RT b0 s Sg ρ (K1, FA) q r n H locs f) (hoff : pa_off r FA) (h0 : 0 ≤ y.toInt) (h1 : y.toInt < n) (hd : decode cc pc = .ok (.iastore, 1))
    (kk : ∀ (H' : Heap) (locs' : List Loc), pa_I FT D cl RT b0 s Sg ρ (K1, FA) q r n H' locs' (fun k => if k = y.toInt.toNat then x else f k) → W p l e R s m args below meth c H' locs' nc ns Q (F0 m (pc + 1) ls rest)) : W p l e R s m args below meth c H locs nc ns Q (F0 m pc ls (.int x :: .int y :: .ref q :: rest)) := by
  obtain ⟨hH, hG, hV, ha⟩ := hI
  obtain ⟨cell, h3, hk, hb0, hsz, h4⟩ := pa_kind hH ha
  obtain ⟨hx, hb, -, hown, hts⟩ := hC
  have hcl : y.toNatClampNeg = y.toInt.toNat := rfl
  have hk' := hk
  rcases hk with ⟨z, -⟩ | ⟨h2, q3, q4, q5, q6⟩
  · exact absurd z Nat.one_ne_zero
  · obtain ⟨f1, -, -⟩ := sx_idx h0 h1 q5
    refine W.iast hx hb h3 q3 q4 f1 rfl rfl hd (fun H' e1 e2 e3 => ?_)
    have hlt : y.toInt.toNat < n := by omega
    rw [hcl] at e1
    have hap : ∀ x y, x < sx_wd (1, n, 0, [(0, -2147483648, 2147483647)]) → y < sx_wd (1, n, 0, [(0, -2147483648, 2147483647)]) → x ≠ y → sx_sl D (1, n, 0, [(0, -2147483648, 2147483647)]) x ≠ sx_sl D (1, n, 0, [(0, -2147483648, 2147483647)]) y := fun x y _ _ hne => by rw [sx_sl1 Nat.one_ne_zero, sx_sl1 Nat.one_ne_zero]; exact hne
    have hlx := Int32.toInt_lt x
    have hgx := Int32.le_toInt x
    have hH' := sx_H_set hH ha.1 ha.2.1 h3 (k := y.toInt.toNat) (t := (0, -2147483648, 2147483647)) (v := .int x) hlt rfl (Or.inl ⟨rfl, x, rfl, by simpa using hgx, by show x.toInt ≤ 2147483647; omega⟩) hap (by rw [sx_sl1 Nat.one_ne_zero]; exact e1) e3
    refine kk H' _ ⟨hH', pa_G hG hoff ha.1 e3, hV.put e2 e3 hb0, ha.1, ha.2.1, _, e1, fun k hk => ?_⟩
    show _ = some (Value.int (if k = y.toInt.toNat then x else f k))
    by_cases he : k = y.toInt.toNat
    · rw [he, if_pos rfl]
      exact Cell.slots_setSlot_self _ (by omega)
    · rw [if_neg he, slot_ne _ _ (Ne.symm he)]
      exact h4 k hk
/-- a field of an object that is told of -/
theorem pa_getf {fq : sx_Fl} {th rt : Nat} {g : sx_Rg} {a : sx_AV} (hC : sx_Cx p s m args c cc nL own Ts) (hKn : va_K D cl [] s) (hcl : sx_clok cl Ts) (hq : sx_flk cl own args s fq) (hH : sx_H D cl RT b0 Sg s H) (hG : sx_G FT D RT Sg H ρ (K1, FA)) (h1 : Sg th = some rt) (h2 : RT rt = some g) (g0 : g.1 = 0) (g1 : g.2.1 = fq.2.1) (hf : (rt, fq.2.2.1, a) ∈ FA.1)
    (hd : decode cc pc = .ok (.getfield fq.1, 3)) (kk : ∀ v, sx_av ρ a v → W p l e R s m args below meth c H locs nc ns Q (F0 m (pc + 3) ls (v :: rest))) : W p l e R s m args below meth c H locs nc ns Q (F0 m pc ls (.ref th :: rest)) := by
  obtain ⟨g', k1, ⟨cell, k2, k3, k4⟩, -⟩ := hH th rt h1
  rw [h2] at k1
  cases k1
  obtain ⟨v, e1, e2⟩ := sx_fact_at hH (hG.2.2.2.2.1 _ hf) h1 h2 k2
  rcases k3 with ⟨-, x1, x2⟩ | ⟨x1, -⟩
  · rw [sx_sl0 g0, g1] at e1
    exact sx_Wget hC hKn hcl hq k2 (by rw [← g1]; exact x1) x2 e1 hd (kk v e2)
  · exact absurd g0 x1
end PA
