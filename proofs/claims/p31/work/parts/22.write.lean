/-! sx, writes of fields and arrays -/
/-- a value is of a type -/
def sx_conf (E : List sx_Ty) (C : List sx_LF) (a : sx_AV) (t : sx_Ty) : Bool :=
  if t.1 = 0 ∨ t.1 = 1 then a.1 == t.1 && sx_ge2 E C (sx_addC a.2 (-t.2.1)) && sx_ge2 E C (sx_sub (t.2.2, []) a.2) else if t.1 = 3 then a.1 == 2 || a.1 == 3 else false
theorem sx_conf_ok {Sg : Nat → Option Nat} {E : List sx_Ty} {C : List sx_LF} {ρ : List Value} (hE : sx_env Sg E ρ) (hC : sx_cs C ρ) {a : sx_AV} {t : sx_Ty} {v : Value} (hv : sx_av ρ a v) (h : sx_conf E C a t = true) : sx_ok Sg v t := by
  unfold sx_conf at h
  obtain ⟨tg, f⟩ := a
  split at h
  · rename_i ht
    simp only [Bool.and_eq_true, beq_iff_eq] at h
    obtain ⟨⟨h1, h2⟩, h3⟩ := h
    rcases ht with ht | ht
    · rw [ht] at h1
      subst h1
      obtain ⟨x, rfl, hf⟩ := sx_av_int hv
      have k1 := sx_ge2_ok hE hC (sx_addC_ok (c := -t.2.1) hf) h2
      have k2 := sx_ge2_ok hE hC (sx_sub_ok (sx_const_ok t.2.2) hf) h3
      exact Or.inl ⟨ht, x, rfl, by omega, by omega⟩
    · rw [ht] at h1
      subst h1
      obtain ⟨x, rfl, hf⟩ := sx_av_long hv
      have k1 := sx_ge2_ok hE hC (sx_addC_ok (c := -t.2.1) hf) h2
      have k2 := sx_ge2_ok hE hC (sx_sub_ok (sx_const_ok t.2.2) hf) h3
      exact Or.inr (Or.inl ⟨ht, x, rfl, by omega, by omega⟩)
  · split at h
    · rename_i ht
      simp only [Bool.or_eq_true, beq_iff_eq] at h
      rcases h with h | h
      · subst h
        obtain ⟨-, q, rfl⟩ := sx_av_ref hv
        exact Or.inr (Or.inr (Or.inr ⟨ht, Or.inr ⟨q, rfl⟩⟩))
      · subst h
        obtain rfl := sx_av_null hv
        exact Or.inr (Or.inr (Or.inr ⟨ht, Or.inl rfl⟩))
    · cases h
/-- what a field's own type asks for: 0 int, 1 boolean, 2 long, 3 reference -/
def sx_jt (E : List sx_Ty) (C : List sx_LF) (j : Nat) (a : sx_AV) : Bool := if j = 0 then a.1 == 0 else if j = 1 then a.1 == 0 && sx_ge E C a.2 && sx_ge E C (sx_sub (1, []) a.2) else if j = 2 then a.1 == 1 else if j = 3 then a.1 == 2 || a.1 == 3 else false
theorem sx_nb0 : narrow .boolean (.int 0) = .int 0 ∧ fits .boolean (.int 0) = true := by decide +kernel
theorem sx_nb1 : narrow .boolean (.int 1) = .int 1 ∧ fits .boolean (.int 1) = true := by decide +kernel
theorem sx_jt_ok {Sg : Nat → Option Nat} {E : List sx_Ty} {C : List sx_LF} {ρ : List Value} (hE : sx_env Sg E ρ) (hC : sx_cs C ρ) {a : sx_AV} {j : Nat} {v : Value} (hv : sx_av ρ a v) (h : sx_jt E C j a = true) {ty : FieldType} (hj : sx_jc j ty) : narrow ty v = v ∧ fits ty v = true := by
  unfold sx_jt at h
  obtain ⟨tg, f⟩ := a
  rcases hj with ⟨rfl, rfl⟩ | ⟨rfl, rfl⟩ | ⟨rfl, rfl⟩ | ⟨rfl, hty⟩
  · simp at h
    subst h
    obtain ⟨x, rfl, hf⟩ := sx_av_int hv
    exact ⟨rfl, rfl⟩
  · simp at h
    obtain ⟨⟨h1, h2⟩, h3⟩ := h
    subst h1
    obtain ⟨x, rfl, hf⟩ := sx_av_int hv
    have k1 := sx_ge_ok hE hC hf h2
    have k2 := sx_ge_ok hE hC (sx_sub_ok (sx_const_ok 1) hf) h3
    have hx : x = 0 ∨ x = 1 := by
      rcases (show x.toInt = 0 ∨ x.toInt = 1 by omega) with h | h
      · exact Or.inl (Int32.toInt_inj.mp (by rw [h]; decide))
      · exact Or.inr (Int32.toInt_inj.mp (by rw [h]; decide))
    rcases hx with rfl | rfl
    · exact sx_nb0
    · exact sx_nb1
  · simp at h
    subst h
    obtain ⟨x, rfl, hf⟩ := sx_av_long hv
    exact ⟨rfl, rfl⟩
  · simp at h
    rcases h with h | h
    · subst h
      obtain ⟨-, q, rfl⟩ := sx_av_ref hv
      rcases hty with ⟨n, rfl⟩ | ⟨t, rfl⟩ <;> exact ⟨rfl, rfl⟩
    · subst h
      obtain rfl := sx_av_null hv
      rcases hty with ⟨n, rfl⟩ | ⟨t, rfl⟩ <;> exact ⟨rfl, rfl⟩
theorem sx_kind_set {D : va_G} {cl : List vw_C} {s : State} {g : sx_Rg} {cell : Cell} (h : sx_kind D cl s g cell) (k : Nat) (v : Value) : sx_kind D cl s g (cell.setSlot k v) := by
  have hz : (cell.setSlot k v).slots.size = cell.slots.size := by simp [Cell.setSlot]
  rcases h with h | ⟨h1, h2, h3, h4, h5, h6⟩
  · exact Or.inl h
  · exact Or.inr ⟨h1, h2, h3, by rw [hz]; exact h4, by rw [hz]; exact h5, h6⟩
/-- one slot of one cell is written: the heap stays typed -/
theorem sx_H_set {D : va_G} {cl : List vw_C} {RT : Nat → Option sx_Rg} {b0 : sx_B} {Sg : Nat → Option Nat} {s : State} {H H' : Heap} {q r k : Nat} {g : sx_Rg} {cell : Cell} {t : sx_Ty} {v : Value} (hH : sx_H D cl RT b0 Sg s H) (h2 : Sg q = some r) (h3 : RT (r) = some g) (h4 : H[q]? = some cell) (hk : k < sx_wd g) (hft : sx_ft g k = some t) (hv : sx_ok Sg v t)
    (hap : ∀ x y, x < sx_wd g → y < sx_wd g → x ≠ y → sx_sl D g x ≠ sx_sl D g y) (e1 : H'[q]? = some (cell.setSlot (sx_sl D g k) v)) (e3 : ∀ x, x ≠ q → H'[x]? = H[x]?) : sx_H D cl RT b0 Sg s H' := by
  intro a r' ha
  obtain ⟨g', k1, ⟨cell', k2, k3, k4⟩, k5⟩ := hH a r' ha
  by_cases haq : a = q
  · subst haq
    rw [h2] at ha; cases ha
    rw [h3] at k1; cases k1
    rw [h4] at k2; cases k2
    refine ⟨g, h3, ⟨_, e1, sx_kind_set k3 _ _, fun j hj => ?_⟩, k5⟩
    obtain ⟨w, t', m1, m2, m3⟩ := k4 j hj
    by_cases hjk : j = k
    · subst hjk
      refine ⟨v, t, Cell.slots_setSlot_self _ (k2_hasslot m1), hft, hv⟩
    · exact ⟨w, t', by rw [slot_ne _ _ (hap k j hk hj (Ne.symm hjk))]; exact m1, m2, m3⟩
  · exact ⟨g', k1, ⟨cell', by rw [e3 a haq]; exact k2, k3, k4⟩, k5⟩
theorem sx_fact_set {D : va_G} {RT : Nat → Option sx_Rg} {Sg : Nat → Option Nat} {H H' : Heap} {ρ : List Value} {q r k : Nat} {g : sx_Rg} {cell : Cell} {v : Value} {x : Nat × Nat × sx_AV} (h : sx_fact D RT Sg H ρ x) (h2 : Sg q = some r) (h3 : RT (r) = some g) (h4 : H[q]? = some cell) (hk : k < sx_wd g)
    (hap : ∀ x y, x < sx_wd g → y < sx_wd g → x ≠ y → sx_sl D g x ≠ sx_sl D g y) (e1 : H'[q]? = some (cell.setSlot (sx_sl D g k) v)) (e3 : ∀ x, x ≠ q → H'[x]? = H[x]?) (hx : x.1 = r → sx_ix ρ x.2.1 ≠ some k) : sx_fact D RT Sg H' ρ x := by
  obtain ⟨a, r', g', cell', w, m1, m2, m3, m4, ⟨i, m5, m5'⟩, m6, m7⟩ := h
  rw [sx_ixn_eq m5] at m6
  by_cases haq : a = q
  · subst haq
    rw [h2] at m2; cases m2
    rw [h3] at m3; cases m3
    rw [h4] at m4; cases m4
    have hne := hx m1
    have hne : i ≠ k := fun he => hne (by rw [m5, he])
    exact ⟨a, r, g, _, w, m1, h2, h3, e1, ⟨i, m5, m5'⟩, by rw [sx_ixn_eq m5, slot_ne _ _ (hap k i hk m5' (Ne.symm hne))]; exact m6, m7⟩
  · exact ⟨a, r', g', cell', w, m1, m2, m3, by rw [e3 a haq]; exact m4, ⟨i, m5, m5'⟩, by rw [sx_ixn_eq m5]; exact m6, m7⟩
/-- the region that a symbol's type names -/
def sx_rof (E : List sx_Ty) (z : Nat) : Option Nat := match E[z]? with
  | some t => if t.1 = 2 then some t.2.1.toNat else none
  | none => none
def sx_off (E : List sx_Ty) (r z : Nat) : Bool := match sx_rof E z with
  | some r' => !(r' == r)
  | none => false
theorem sx_off_ok {Sg : Nat → Option Nat} {E : List sx_Ty} {ρ : List Value} (hE : sx_env Sg E ρ) {r z q : Nat} (h : sx_off E r z = true) (hz : ρ[z]? = some (.ref q)) (hq : Sg q = some r) : False := by
  unfold sx_off sx_rof at h
  cases ht : E[z]? with
  | none => rw [ht] at h; cases h
  | some t =>
    rw [ht] at h
    simp only at h
    by_cases h2 : t.1 = 2
    · rw [if_pos h2] at h
      simp only [Bool.not_eq_true', beq_eq_false_iff_ne] at h
      rcases hE.2 z t _ ht hz with ⟨h3, -⟩ | ⟨h3, -⟩ | ⟨-, a, h4, h5⟩ | ⟨h3, -⟩
      · omega
      · omega
      · cases h4
        rw [hq] at h5
        exact h (Option.some.inj h5).symm
      · omega
    · rw [if_neg h2] at h; cases h
theorem sx_stkS {ρ : List Value} {nL : Nat} {ls : Array Slot} {stk stk' : List Value} {L : List (Nat × sx_AV)} {S S' : List sx_AV} (h : sx_Fr ρ nL ls stk L S) (hS : sx_stk ρ S' stk') : sx_Fr ρ nL ls stk' L S' := ⟨h.1, h.2.1, h.2.2.1, hS⟩
section SX8
variable {FT : Nat → List Int → Int} {D : va_G} {cl : List vw_C} {RT : Nat → Option sx_Rg} {b0 : sx_B} {nL : Nat} {p : Program} {l : Launch} {e : Env} {R : Room} {s : State} {m : MethodId} {args : Array Value} {below : List Frame} {meth : Method} {c : Code} {Q : State → Prop}
  {Sg0 : Nat → Option Nat} {ρ0 : List Value} {pc nc ns : Nat} {cc : ByteArray} {own : String} {Ts : List Cond} {Sg : Nat → Option Nat} {H : Heap} {ρ : List Value} {ls : Array Slot} {stk : List Value} {locs : List Loc} {E : List sx_Ty} {C N : List sx_LF} {U : List (Nat × List sx_LF × Nat)}
  {FA : sx_FA} {L : List (Nat × sx_AV)} {S : List sx_AV} {i : Instr} {n : Nat}
theorem sx_Wput {q : sx_Fl} {a : Nat} {cell : Cell} {v w : Value} {rest : List Value} (hC : sx_Cx p s m args c cc nL own Ts) (hKn : va_K D cl [] s) (hcl : sx_clok cl Ts) (hq : sx_flk cl own args s q) (hfi : q.2.2.2.2 = 0 ∨ (q.2.2.2.2 = 1 ∧ meth.name = "<init>")) (hcell : H[a]? = some cell) (hcls : cell.cls = D.1 q.2.1) (hvm : cell.vm = .none) (hslot : cell.slots[D.2 q.2.1 q.2.2.1]? = some w)
    (hn : ∀ ty, sx_jc q.2.2.2.1 ty → narrow ty v = v ∧ fits ty v = true) (hd : decode cc pc = .ok (.putfield q.1, 3))
    (kk : ∀ H' : Heap, H'[a]? = some (cell.setSlot (D.2 q.2.1 q.2.2.1) v) → H'.size = H.size → (∀ x, x ≠ a → H'[x]? = H[x]?) → W p l e R s m args below meth c H' (locs ++ [⟨a, D.2 q.2.1 q.2.2.1⟩]) nc ns Q (F0 m (pc + 3) ls rest)) : W p l e R s m args below meth c H locs nc ns Q (F0 m pc ls (v :: .ref a :: rest)) := by
  obtain ⟨hx, hb, -, hown, hts⟩ := hC
  obtain ⟨r, hr, hk, hdecl, ⟨ty, hty, hjc⟩, hf0, hf1, hlink⟩ := hq
  obtain ⟨h1, -, -⟩ := hcl r (List.mem_of_getElem? hr)
  obtain ⟨hS, hfc, kC, hkC, hkind⟩ := hKn.1 q.2.1 r hr
  obtain ⟨cf, kf, fi, f, hi, hsl⟩ := hS q.2.2.1 hk
  have hst := (u_facts hfc hkC (u_lays hts h1 hk) hi).1
  have hi' := hi
  rw [hdecl] at hi'
  obtain ⟨hn1, hn2⟩ := hn ty hjc
  have hlt : f.slot < cell.slots.size := by rw [hsl]; exact k2_hasslot hslot
  have hlay := hts _ (h1 _ (u_in_lay hk))
  unfold u_lay at hlay
  rcases hfi with hfi | ⟨hfi, hin⟩
  · rw [if_neg (by rw [hf0 hfi]; decide)] at hlay
    have h6 := u_store hfc hkC hkind hlay hi hty hn1 hn2
    rcases hlink with hlink | ⟨host, hlink⟩
    · refine W.putK hx hb (f := f) ⟨hown, hlink, ⟨_, _, _, hi'⟩, hst⟩ (by rw [hcls]; exact h6) hcell hvm hlt rfl rfl hd fun H' e1 e2 e3 => ?_
      rw [hsl] at e1 ⊢
      exact kk H' e1 e2 e3
    · refine va_WputK hx hb (f := f) hown hlink hi' hst (by rw [hcls]; exact h6) hcell hvm hlt rfl rfl hd fun H' e1 e2 e3 => ?_
      rw [hsl] at e1 ⊢
      exact kk H' e1 e2 e3
  · obtain ⟨hfin, hro, hlink⟩ := hf1 hfi
    rw [if_pos hfin] at hlay
    have hcf : m.cls = cf := by
      obtain ⟨_, _, c', _, _, _, -, -, hf', -, -, -, hown2, -⟩ := Cond.laysFinal_spec hlay
      have e1 : c' = cf := by have := hi.symm.trans hf'; simp at this; exact this.1.symm
      rw [hdecl, hro] at hown2
      rw [← e1]; exact Option.some.inj (hown.symm.trans hown2)
    have h6 := u_fits hfc hkC hkind (Or.inr hlay) hi hty hn1 hn2
    refine W.putFinK hx hb hown hlink hi' hst hcf hin (by rw [hcls]; exact h6) hcell hvm hlt rfl rfl hd fun H' e1 e2 e3 => ?_
    rw [hsl] at e1 ⊢
    exact kk H' e1 e2 e3
noncomputable def sx_pf (FL : List sx_Fl) (RT : Nat → Option sx_Rg) (ini : Bool) (idx : Nat) (E : List sx_Ty) (C N : List sx_LF) (U : List (Nat × List sx_LF × Nat)) (FA : sx_FA) (L : List (Nat × sx_AV)) (S : List sx_AV) (nc ns : Nat) : Option sx_St := match S with
  | v :: a :: S' => match sx_reg E RT a, sx_flget FL idx with
    | some (z, r, g), some q => match sx_ft g q.2.2.1 with
      | some t => if g.1 = 0 ∧ sx_mut g = true ∧ Nat.blt q.2.2.1 1048576 = true ∧ g.2.1 = q.2.1 ∧ q.2.2.1 < sx_wd g ∧ (q.2.2.2.2 = 0 ∨ (q.2.2.2.2 = 1 ∧ ini = true)) ∧ sx_conf E C v t = true ∧ sx_jt E C q.2.2.2.1 v = true then
          some (((E, C, N, U), ((r, q.2.2.1, v) :: sx_flt (fun x => sx_nb (sx_ab (Nat.beq x.1 r) (sx_nb (sx_ab (Nat.blt x.2.1 1048576) (sx_nb (Nat.beq x.2.1 q.2.2.1)))))) FA.1, FA.2)), (L, S'), nc, ns) else none
      | none => none
    | _, _ => none
  | _ => none
theorem sx_pf_ok {FL : List sx_Fl} {ini : Bool} {idx : Nat} {st' : sx_St} (hC : sx_Cx p s m args c cc nL own Ts) (hKn : va_K D cl [] s) (hcl : sx_clok cl Ts) (hRT : sx_rtok cl RT) (hini : ini = true → meth.name = "<init>") (hFL : ∀ q ∈ FL, sx_flk cl own args s q) (h : sx_pf FL RT ini idx E C N U FA L S nc ns = some st') (hd : decode cc pc = .ok (.putfield idx, 3))
    (hP : sx_Pt FT D cl RT b0 nL s Sg H ρ ((E, C, N, U), FA) L S ls stk locs) (hle : sx_le Sg0 Sg) (hpre : ρ0 <+: ρ) (hW : sx_W FT D cl RT b0 nL p l e R s m args below meth c Q Sg0 ρ0 (pc + 3) st') : W p l e R s m args below meth c H locs nc ns Q (F0 m pc ls stk) := by
  unfold sx_pf at h
  split at h
  · rename_i v a S'
    split at h
    · rename_i z r g q hreg hq
      obtain ⟨hq1, hq2⟩ := sx_flget_ok hq
      subst hq2
      obtain ⟨w1, t1, rfl, h1, hs1⟩ := sx_stk_cons hP.2.2.1.2.2.2
      obtain ⟨w2, t2, rfl, h2, hs2⟩ := sx_stk_cons hs1
      have hG := hP.2.1
      obtain ⟨ad, cell, rfl, k1, k2, k3, -, k4, k5, k6, k7⟩ := sx_reg_ok hreg hG.1 hP.1 h2
      split at h
      · rename_i t ht
        split at h
        · rename_i hc
          obtain ⟨c1, hmut, hk20, c2, c3, c4, c5, c6⟩ := hc
          cases h
          have hkd : cell.cls = D.1 g.2.1 ∧ cell.vm = .none := by
            rcases k5 with ⟨-, x1, x2⟩ | ⟨x1, -⟩
            · exact ⟨x1, x2⟩
            · exact absurd c1 x1
          have hts := hC.2.2.2.2
          have hap : ∀ x y, x < sx_wd g → y < sx_wd g → x ≠ y → sx_sl D g x ≠ sx_sl D g y := fun x y hx hy hne => sx_apart hts hKn hcl hRT _ k3 hx hy hne
          obtain ⟨w0, t0, s1, s2, s3⟩ := k7 q.2.2.1 c3
          have hsl : sx_sl D g q.2.2.1 = D.2 q.2.1 q.2.2.1 := by rw [sx_sl0 c1, c2]
          rw [hsl] at s1
          refine sx_Wput hC hKn hcl (hFL q hq1) (c4.imp id (fun x => ⟨x.1, hini x.2⟩)) k4 (by rw [← c2]; exact hkd.1) hkd.2 s1 (fun ty hj => sx_jt_ok hG.1 hG.2.1 h1 c6 hj) hd fun H' e1 e2 e3 => ?_
          have e1' : H'[ad]? = some (cell.setSlot (sx_sl D g q.2.2.1) w1) := by rw [hsl]; exact e1
          have hH' := sx_H_set hP.1 k2 k3 k4 c3 ht (sx_conf_ok hG.1 hG.2.1 h1 c5) hap e1' e3
          obtain ⟨hH, -, hF, hV⟩ := hP
          refine hW Sg H' ρ ls t2 _ hle hpre ⟨hH', ⟨hG.1, hG.2.1, hG.2.2.1, hG.2.2.2.1, fun x hx => ?_, fun x hx => ?_, hG.2.2.2.2.2.2⟩, sx_stkS hF hs2, sx_V_set hV k2 k3 hmut e2 e3 (hV.1.put e2 e3 (k6 hmut))⟩
          · rcases List.mem_cons.mp hx with rfl | hx
            · exact sx_fact_mk (sx_ix_con hk20) k2 k3 e1' c3 (Cell.slots_setSlot_self _ (by rw [hsl]; exact k2_hasslot s1)) h1
            · obtain ⟨hx1, hx2⟩ := sx_mem_flt.mp hx
              refine sx_fact_set (hG.2.2.2.2.1 x hx1) k2 k3 k4 c3 hap e1' e3 (fun hz hk => ?_)
              simp only [sx_nb_eq, sx_ab_eq, hz, Nat.beq_refl, Bool.true_and, Bool.not_not, Bool.and_eq_true, Bool.not_eq_true'] at hx2
              have := sx_ix_con' hx2.1 hk
              rw [this, Nat.beq_refl] at hx2
              cases hx2.2
          · obtain ⟨a', r', g', cell', m1, m2, m3, m4, m5, m6⟩ := hG.2.2.2.2.2.1 x hx
            have hne : a' ≠ ad := fun he => by
              subst he
              rw [k2] at m2; cases m2
              rw [k3] at m3; cases m3
              exact m4 c1
            exact ⟨a', r', g', cell', m1, m2, m3, m4, by rw [e3 a' hne]; exact m5, m6⟩
        · cases h
      · cases h
    · cases h
  · cases h
end SX8
