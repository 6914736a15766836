/-! sx, reads of fields and arrays -/
def sx_clok (cl : List vw_C) (Ts : List Cond) : Prop := ∀ r ∈ cl, (∀ w ∈ u_ws r.1 r.2.1 r.2.2, w ∈ Ts) ∧ (∀ a, a < r.2.2 → ∀ b, b < r.2.2 → a ≠ b → (r.2.1 a).2.1 ≠ (r.2.1 b).2.1) ∧ ∃ ty : Nat → FieldType, ∀ k, k < r.2.2 → parseFieldDescriptor (r.2.1 k).2.2.1 = some (ty k)
def sx_rtok (cl : List vw_C) (RT : Nat → Option sx_Rg) : Prop := ∀ r g, RT r = some g → g.1 = 0 → ∃ r, cl[g.2.1]? = some r ∧ sx_wd g = r.2.2
/-- a field's place in a pool: (index, class, field, kind of its type: 0 int, 1 boolean, 2 long, 3 reference; 0 not final, 1 final and written here, 2 not written here) -/
abbrev sx_Fl : Type := Nat × Nat × Nat × Nat × Nat
def sx_jc (j : Nat) (ty : FieldType) : Prop := (j = 0 ∧ ty = .int) ∨ (j = 1 ∧ ty = .boolean) ∨ (j = 2 ∧ ty = .long) ∨ (j = 3 ∧ ((∃ n, ty = .object n) ∨ ∃ t, ty = .array t))
def sx_flk (cl : List vw_C) (own : String) (args : Array Value) (s : State) (q : sx_Fl) : Prop :=
  ∃ r : vw_C, cl[q.2.1]? = some r ∧ q.2.2.1 < r.2.2 ∧ (r.2.1 q.2.2.1).1 = r.1 ∧ (∃ ty, parseFieldDescriptor (r.2.1 q.2.2.1).2.2.1 = some ty ∧ sx_jc q.2.2.2.1 ty) ∧ (q.2.2.2.2 = 0 → (r.2.1 q.2.2.1).2.2.2 = false) ∧
    (q.2.2.2.2 = 1 → (r.2.1 q.2.2.1).2.2.2 = true ∧ r.1 = own ∧ (Cond.fieldLink own q.1 r.1 (r.2.1 q.2.2.1).2.1 (r.2.1 q.2.2.1).2.2.1).before args s = true) ∧
    ((Cond.fieldLink own q.1 r.1 (r.2.1 q.2.2.1).2.1 (r.2.1 q.2.2.1).2.2.1).before args s = true ∨ ∃ host, (Cond.fieldLinkNest own q.1 r.1 (r.2.1 q.2.2.1).2.1 (r.2.1 q.2.2.1).2.2.1 host).before args s = true)
noncomputable def sx_flget (FL : List sx_Fl) (idx : Nat) : Option sx_Fl := sx_fnd (fun q => Nat.beq q.1 idx) FL
theorem sx_flget_ok {FL : List sx_Fl} {idx : Nat} {q : sx_Fl} (h : sx_flget FL idx = some q) : q ∈ FL ∧ q.1 = idx := by
  refine ⟨sx_fnd_mem h, ?_⟩
  have := sx_fnd_some h
  simpa using this
theorem sx_apart {D : va_G} {cl : List vw_C} {RT : Nat → Option sx_Rg} {Ts : List Cond} {args : Array Value} {s : State} (hts : ∀ w ∈ Ts, w.before args s = true) (hKn : va_K D cl [] s) (hcl : sx_clok cl Ts) (hRT : sx_rtok cl RT) {g : sx_Rg} (i : Nat) (hg : RT i = some g) {x y : Nat} (hx : x < sx_wd g) (hy : y < sx_wd g) (hne : x ≠ y) : sx_sl D g x ≠ sx_sl D g y := by
  unfold sx_sl
  by_cases h0 : g.1 = 0
  · rw [if_pos h0, if_pos h0]
    obtain ⟨r, hr, hw⟩ := hRT i g hg h0
    obtain ⟨h1, h2, ty, h3⟩ := hcl r (List.mem_of_getElem? hr)
    obtain ⟨C, T, N⟩ := r
    exact va_apart (own := "") (tys := []) hts h1 ty h3 h2 hKn hr x y (by rw [← hw]; exact hx) (by rw [← hw]; exact hy) hne
  · rw [if_neg h0, if_neg h0]; exact hne
section SX6
variable {FT : Nat → List Int → Int} {D : va_G} {cl : List vw_C} {RT : Nat → Option sx_Rg} {b0 : sx_B} {nL : Nat} {p : Program} {l : Launch} {e : Env} {R : Room} {s : State} {m : MethodId} {args : Array Value} {below : List Frame} {meth : Method} {c : Code} {Q : State → Prop}
  {Sg0 : Nat → Option Nat} {ρ0 : List Value} {pc nc ns : Nat} {cc : ByteArray} {own : String} {Ts : List Cond} {Sg : Nat → Option Nat} {H : Heap} {ρ : List Value} {ls : Array Slot} {stk : List Value} {locs : List Loc} {E : List sx_Ty} {C N : List sx_LF} {U : List (Nat × List sx_LF × Nat)}
  {FA : sx_FA} {L : List (Nat × sx_AV)} {S : List sx_AV} {i : Instr} {n : Nat}
theorem sx_Wget {q : sx_Fl} {a : Nat} {cell : Cell} {v : Value} {rest : List Value} (hC : sx_Cx p s m args c cc nL own Ts) (hKn : va_K D cl [] s) (hcl : sx_clok cl Ts) (hq : sx_flk cl own args s q) (hcell : H[a]? = some cell) (hcls : cell.cls = D.1 q.2.1) (hvm : cell.vm = .none) (hslot : cell.slots[D.2 q.2.1 q.2.2.1]? = some v)
    (hd : decode cc pc = .ok (.getfield q.1, 3)) (kk : W p l e R s m args below meth c H locs nc ns Q (F0 m (pc + 3) ls (v :: rest))) : W p l e R s m args below meth c H locs nc ns Q (F0 m pc ls (.ref a :: rest)) := by
  obtain ⟨hx, hb, -, hown, hts⟩ := hC
  obtain ⟨r, hr, hk, hdecl, -, -, -, hlink⟩ := hq
  obtain ⟨h1, -, -⟩ := hcl r (List.mem_of_getElem? hr)
  obtain ⟨hS, hfc, kC, hkC, hkind⟩ := hKn.1 q.2.1 r hr
  obtain ⟨cf, kf, fi, f, hi, hsl⟩ := hS q.2.2.1 hk
  have hst := (u_facts hfc hkC (u_lays hts h1 hk) hi).1
  have hi' := hi
  rw [hdecl] at hi'
  have hknown : cell.vm ≠ .unknown := by rw [hvm]; exact fun h => by cases h
  rcases hlink with hlink | ⟨host, hlink⟩
  · exact W.getf hx hb hown hlink hi' hst hcell hknown (by rw [hsl]; exact hslot) rfl rfl hd kk
  · exact va_Wgetf hx hb hown hlink hi' hst hcell hknown (by rw [hsl]; exact hslot) rfl rfl hd kk
/-- the region of a reference -/
def sx_reg (E : List sx_Ty) (RT : Nat → Option sx_Rg) (a : sx_AV) : Option (Nat × Nat × sx_Rg) := if a.1 = 2 then match E[a.2.1.toNat]? with
    | some t => if t.1 = 2 then match RT (t.2.1.toNat) with
        | some g => some (a.2.1.toNat, t.2.1.toNat, g)
        | none => none
      else none
    | none => none
  else none
theorem sx_reg_ok {a : sx_AV} {z r : Nat} {g : sx_Rg} {v : Value} (h : sx_reg E RT a = some (z, r, g)) (hE : sx_env Sg E ρ) (hH : sx_H D cl RT b0 Sg s H) (hv : sx_av ρ a v) : ∃ q cell, v = .ref q ∧ ρ[z]? = some (.ref q) ∧ Sg q = some r ∧ RT (r) = some g ∧ (∃ t, E[z]? = some t ∧ t.1 = 2 ∧ t.2.1.toNat = r) ∧ H[q]? = some cell ∧ sx_kind D cl s g cell ∧ (sx_mut g = true → b0.1 q) ∧
    ∀ k : Nat, k < sx_wd g → ∃ v t, cell.slots[sx_sl D g k]? = some v ∧ sx_ft g k = some t ∧ sx_ok Sg v t := by
  unfold sx_reg at h
  split at h
  · rename_i ha
    obtain ⟨tg, f⟩ := a
    have ha : tg = 2 := ha
    subst ha
    obtain ⟨h1, q, hq⟩ := sx_av_ref hv
    split at h
    · rename_i t ht
      split at h
      · rename_i ht2
        split at h
        · rename_i g' hg
          cases h
          subst hq
          have hok := hE.2 _ _ _ ht h1
          rcases hok with ⟨h3, -⟩ | ⟨h3, -⟩ | ⟨-, q', h4, h5⟩ | ⟨h3, -⟩
          · omega
          · omega
          · cases h4
            obtain ⟨g2, k1, ⟨cell, k2, k3, k4⟩, k5⟩ := hH q _ h5
            rw [hg] at k1
            cases k1
            exact ⟨q, cell, rfl, h1, h5, hg, ⟨t, ht, ht2, rfl⟩, k2, k3, k5.1, k4⟩
          · omega
        · cases h
      · cases h
    · cases h
  · cases h
noncomputable def sx_fget (F : List (Nat × Nat × sx_AV)) (z k : Nat) : Option sx_AV := match sx_fnd (fun q => sx_ab (Nat.beq q.1 z) (Nat.beq q.2.1 k)) F with
  | some q => some q.2.2
  | none => none
theorem sx_fget_mem {F : List (Nat × Nat × sx_AV)} {z k : Nat} {a : sx_AV} (h : sx_fget F z k = some a) : (z, k, a) ∈ F := by
  unfold sx_fget at h
  cases h1 : sx_fnd (fun q => sx_ab (Nat.beq q.1 z) (Nat.beq q.2.1 k)) F with
  | none => rw [h1] at h; cases h
  | some q =>
    rw [h1] at h
    cases h
    have h2 := sx_fnd_some h1
    have h3 := sx_fnd_mem h1
    simp [sx_ab_eq] at h2
    obtain ⟨rfl, rfl⟩ := h2
    exact h3
/-- a fact's value is what stands there -/
theorem sx_fact_at {k j r : Nat} {a : sx_AV} {q : Nat} {g : sx_Rg} {cell : Cell} (hH : sx_H D cl RT b0 Sg s H) (h : sx_fact D RT Sg H ρ (r, k, a)) (hkj : sx_ix ρ k = some j) (h2 : Sg q = some r) (h3 : RT (r) = some g) (h4 : H[q]? = some cell) : ∃ v, cell.slots[sx_sl D g j]? = some v ∧ sx_av ρ a v := by
  obtain ⟨q', r', g', cell', v, e1, e2, e3, e4, e5, e6, e7⟩ := h
  have e6 : cell'.slots[sx_sl D g' (sx_ixn ρ k)]? = some v := e6
  rw [sx_ixn_eq hkj] at e6
  have e1 : r = r' := e1
  subst e1
  have e0 := sx_uniq hH h2 e2
  subst e0
  rw [h3] at e3; cases e3
  rw [h4] at e4; cases e4
  exact ⟨v, e6, e7⟩
/-- the value of a new symbol -/
def sx_nav (t : sx_Ty) (z : Nat) : sx_AV := if t.1 = 2 then (2, ((z : Int), [])) else (t.1, (0, [(z, 1)]))
theorem sx_nav_new {t : sx_Ty} {v : Value} (hl : ρ.length = E.length) (ht1 : t.1 ≤ 2) (hv : sx_ok Sg v t) : sx_av (ρ ++ [v]) (sx_nav t E.length) v := by
  have e := sx_iv_new (v := v) hl
  unfold sx_nav
  rcases hv with ⟨h5, x, rfl, -⟩ | ⟨h5, x, rfl, -⟩ | ⟨h5, q', rfl, -⟩ | ⟨h5, -⟩
  · rw [if_neg (by omega), h5]; exact sx_int_av (sx_sym_ok (by unfold sx_iv; rw [e]))
  · rw [if_neg (by omega), h5]; exact sx_long_av (sx_sym_ok (by unfold sx_iv; rw [e]))
  · rw [if_pos h5]; exact Or.inr (Or.inr (Or.inl ⟨rfl, e, q', rfl⟩))
  · omega
/-- a new symbol for what is read at a slot, and the fact of it -/
theorem sx_read {z kc k r : Nat} {q : Nat} {g : sx_Rg} {cell : Cell} {t : sx_Ty} {v : Value} (hG : sx_G FT D RT Sg H ρ ((E, C, N, U), FA)) (ht1 : t.1 ≤ 2) (hv : sx_ok Sg v t) (h1 : ρ[z]? = some (.ref q)) (h2 : Sg q = some r) (h3 : RT (r) = some g) (h4 : H[q]? = some cell) (hk : k < sx_wd g) (hs : cell.slots[sx_sl D g k]? = some v) (hkc : sx_ix ρ kc = some k) :
    sx_G FT D RT Sg H (ρ ++ [v]) ((E ++ [t], C, N, U), ((r, kc, sx_nav t E.length) :: FA.1, FA.2)) ∧ sx_av (ρ ++ [v]) (sx_nav t E.length) v := by
  have hav : sx_av (ρ ++ [v]) (sx_nav t E.length) v := by
    have e := sx_iv_new (v := v) hG.1.1
    unfold sx_nav
    rcases hv with ⟨h5, x, rfl, -⟩ | ⟨h5, x, rfl, -⟩ | ⟨h5, q', rfl, -⟩ | ⟨h5, -⟩
    · rw [if_neg (by omega), h5]; exact sx_int_av (sx_sym_ok (by unfold sx_iv; rw [e]))
    · rw [if_neg (by omega), h5]; exact sx_long_av (sx_sym_ok (by unfold sx_iv; rw [e]))
    · rw [if_pos h5]; exact Or.inr (Or.inr (Or.inl ⟨rfl, e, q', rfl⟩))
    · omega
  obtain ⟨g1, g2, g3, g4, g5, g6⟩ := sx_G_ext hG hv
  refine ⟨⟨g1, g2, g3, g4, fun x hx => ?_, g6⟩, hav⟩
  rcases List.mem_cons.mp hx with rfl | hx
  · exact sx_fact_mk (sx_ix_ext hkc) h2 h3 h4 hk hs hav
  · exact g5 x hx
noncomputable def sx_gf (FL : List sx_Fl) (RT : Nat → Option sx_Rg) (idx : Nat) (E : List sx_Ty) (C N : List sx_LF) (U : List (Nat × List sx_LF × Nat)) (FA : sx_FA) (L : List (Nat × sx_AV)) (S : List sx_AV) (nc ns : Nat) : Option sx_St := match S with
  | a :: S' => match sx_reg E RT a, sx_flget FL idx with
    | some (_, r, g), some q => if g.1 = 0 ∧ g.2.1 = q.2.1 ∧ q.2.2.1 < sx_wd g ∧ Nat.blt q.2.2.1 1048576 = true then match sx_fget FA.1 r q.2.2.1 with
        | some av => some (((E, C, N, U), FA), (L, av :: S'), nc, ns)
        | none => match sx_ft g q.2.2.1 with
          | some t => if t.1 ≤ 2 then some (((E ++ [t], C, N, U), ((r, q.2.2.1, sx_nav t E.length) :: FA.1, FA.2)), (L, sx_nav t E.length :: S'), nc, ns) else none
          | none => none
      else none
    | _, _ => none
  | [] => none
theorem sx_sl0 {g : sx_Rg} {k : Nat} (h : g.1 = 0) : sx_sl D g k = D.2 g.2.1 k := by unfold sx_sl; rw [if_pos h]
theorem sx_sl1 {g : sx_Rg} {k : Nat} (h : g.1 ≠ 0) : sx_sl D g k = k := by unfold sx_sl; rw [if_neg h]
theorem sx_gf_ok {FL : List sx_Fl} {idx : Nat} {st' : sx_St} (hC : sx_Cx p s m args c cc nL own Ts) (hKn : va_K D cl [] s) (hcl : sx_clok cl Ts) (hFL : ∀ q ∈ FL, sx_flk cl own args s q) (h : sx_gf FL RT idx E C N U FA L S nc ns = some st') (hd : decode cc pc = .ok (.getfield idx, 3))
    (hP : sx_Pt FT D cl RT b0 nL s Sg H ρ ((E, C, N, U), FA) L S ls stk locs) (hle : sx_le Sg0 Sg) (hpre : ρ0 <+: ρ) (hW : sx_W FT D cl RT b0 nL p l e R s m args below meth c Q Sg0 ρ0 (pc + 3) st') : W p l e R s m args below meth c H locs nc ns Q (F0 m pc ls stk) := by
  unfold sx_gf at h
  split at h
  · split at h
    · rename_i a S' z r g q hreg hq
      obtain ⟨hq1, hq2⟩ := sx_flget_ok hq
      subst hq2
      obtain ⟨v, t1, rfl, h1, hs1⟩ := sx_stk_cons hP.2.2.1.2.2.2
      obtain ⟨ad, cell, rfl, k1, k2, k3, -, k4, k5, -, k6⟩ := sx_reg_ok hreg hP.2.1.1 hP.1 h1
      split at h
      · rename_i hc
        obtain ⟨c1, c2, c3, c4⟩ := hc
        have hkd : cell.cls = D.1 g.2.1 ∧ cell.vm = .none := by
          rcases k5 with ⟨-, x1, x2⟩ | ⟨x1, -⟩
          · exact ⟨x1, x2⟩
          · exact absurd c1 x1
        split at h
        · rename_i av hav
          cases h
          obtain ⟨w, e1, e2⟩ := sx_fact_at hP.1 (hP.2.1.2.2.2.2.1 _ (sx_fget_mem hav)) (sx_ix_con c4) k2 k3 k4
          rw [sx_sl0 c1, c2] at e1
          exact sx_Wget hC hKn hcl (hFL q hq1) k4 (by rw [← c2]; exact hkd.1) hkd.2 e1 hd (sx_go0 hP hle hpre hW ⟨e2, hs1⟩)
        · split at h
          · rename_i t ht
            split at h
            · rename_i ht1
              cases h
              obtain ⟨w, t', e1, e2, e3⟩ := k6 q.2.2.1 c3
              rw [ht] at e2
              cases e2
              obtain ⟨hG2, hav2⟩ := sx_read hP.2.1 ht1 e3 k1 k2 k3 k4 c3 e1 (sx_ix_con c4)
              rw [sx_sl0 c1, c2] at e1
              refine sx_Wget hC hKn hcl (hFL q hq1) k4 (by rw [← c2]; exact hkd.1) hkd.2 e1 hd ?_
              obtain ⟨hH, -, hF, hV⟩ := hP
              have hF2 := sx_Fr_ext (ρ2 := [w]) hF
              exact hW Sg H (ρ ++ [w]) ls (w :: t1) locs hle (hpre.trans (List.prefix_append ρ _)) ⟨hH, hG2, ⟨hF2.1, hF2.2.1, hF2.2.2.1, hav2, sx_stk_ext hs1⟩, hV⟩
            · cases h
          · cases h
      · cases h
    · cases h
  · cases h
end SX6
