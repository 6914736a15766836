/-! sx, cells that are made: the n-th cell made by the run is of region n -/
def sx_ext (Sg : Nat → Option Nat) (h r : Nat) : Nat → Option Nat := fun a => if a = h then some r else Sg a
theorem sx_ext_le {D : va_G} {cl : List vw_C} {RT : Nat → Option sx_Rg} {b0 : sx_B} {Sg : Nat → Option Nat} {U : State} {H : Heap} (h : sx_H D cl RT b0 Sg U H) (r : Nat) : sx_le Sg (sx_ext Sg H.size r) := by
  intro a r' ha
  have := sx_H_lt h ha
  unfold sx_ext
  rw [if_neg (by omega)]
  exact ha
theorem sx_G_grow {FT : Nat → List Int → Int} {D : va_G} {RT : Nat → Option sx_Rg} {Sg Sg' : Nat → Option Nat} {H H' : Heap} {ρ : List Value} {K : sx_Kn} {n : Nat} (h : sx_G FT D RT Sg H ρ K) (hle : sx_le Sg Sg') (ho : ∀ a r, Sg a = some r → H'[a]? = H[a]?) (hn : ∀ a r, Sg' a = some r → r < n) : sx_G FT D RT Sg' H' ρ (K.1, (K.2.1, K.2.2.1, n)) := by
  obtain ⟨h1, h2, h3, h4, h5, h6⟩ := h
  refine ⟨⟨h1.1, fun z t v hz hv => sx_ok_le hle (h1.2 z t v hz hv)⟩, h2, h3, h4, fun q hq => ?_, fun q hq => ?_, hn⟩
  · obtain ⟨a, r, g, cell, v, e1, e2, e3, e4, e5, e6, e7⟩ := h5 q hq
    exact ⟨a, r, g, cell, v, e1, hle _ _ e2, e3, by rw [ho a r e2]; exact e4, e5, e6, e7⟩
  · obtain ⟨a, r, g, cell, e1, e2, e3, e4, e5, e6⟩ := h6.1 q hq
    exact ⟨a, r, g, cell, e1, hle _ _ e2, e3, e4, by rw [ho a r e2]; exact e5, fun k v hk hn hv => sx_ok_le hle (e6 k v hk hn hv)⟩
theorem sx_H_new {D : va_G} {cl : List vw_C} {RT : Nat → Option sx_Rg} {b0 : sx_B} {r : Nat} {Sg : Nat → Option Nat} {U : State} {H H' : Heap} {g : sx_Rg} {cell : Cell} (h : sx_H D cl RT b0 Sg U H) (hg : RT (r) = some g) (hc : H'[H.size]? = some cell) (ho : ∀ q, q < H.size → H'[q]? = H[q]?) (hk : sx_kind D cl U g cell)
    (hs : ∀ k : Nat, k < sx_wd g → ∃ v t, cell.slots[sx_sl D g k]? = some v ∧ sx_ft g k = some t ∧ sx_ok (sx_ext Sg H.size r) v t) (hb : b0.1 H.size) (hfr : ∀ a, Sg a ≠ some r) : sx_H D cl RT b0 (sx_ext Sg H.size r) U H' := by
  intro a r' ha
  have hle := sx_ext_le h r
  unfold sx_ext at ha
  split at ha
  · rename_i he
    subst he
    cases ha
    refine ⟨g, hg, ⟨cell, hc, hk, hs⟩, fun _ => hb, fun a' ha' => ?_⟩
    unfold sx_ext at ha'
    split at ha'
    · assumption
    · exact absurd ha' (hfr a')
  · obtain ⟨g', k1, ⟨cell', k2, k3, k4⟩, k5⟩ := h a r' ha
    refine ⟨g', k1, ⟨cell', by rw [ho a (sx_H_lt h ha)]; exact k2, k3, fun k hk => ?_⟩, k5.1, fun a' ha' => ?_⟩
    · obtain ⟨v, t, m1, m2, m3⟩ := k4 k hk
      exact ⟨v, t, m1, m2, sx_ok_le hle m3⟩
    · unfold sx_ext at ha'
      split at ha'
      · cases ha'
        exact absurd ha (hfr a)
      · exact k5.2 a' ha'
/-- places in a pool of classes that are made: (index, class, slots) -/
def sx_nlk (cl : List vw_C) (own : String) (args : Array Value) (s : State) (q : Nat × Nat × Nat) : Prop := ∃ r : vw_C, cl[q.2.1]? = some r ∧ (Cond.classLink own q.1 r.1).before args s = true ∧ (Cond.instantiable r.1 q.2.2).before args s = true ∧ (Cond.initialized r.1).before args s = true
/-- .. of classes of which arrays are made: (index, class) -/
def sx_alk (cl : List vw_C) (own : String) (args : Array Value) (s : State) (q : Nat × Nat) : Prop := ∃ r : vw_C, cl[q.2]? = some r ∧ (Cond.classLink own q.1 r.1).before args s = true ∧ va_AO r.1 s
/-- the kinds of the fields' types, class by class -/
def sx_cjok (cl : List vw_C) (CJ : List (List Nat)) : Prop := ∀ (ci : Nat) (r : vw_C) (js : List Nat), cl[ci]? = some r → CJ[ci]? = some js → js.length = r.2.2 ∧ ∀ k j, js[k]? = some j → ∃ ty, parseFieldDescriptor (r.2.1 k).2.2.1 = some ty ∧ sx_jc j ty
/-- what a new field holds, by the kind of its type, and whether the region's type has it -/
def sx_def (j : Nat) (t : sx_Ty) : Option sx_AV := if j ≤ 1 then (if t.1 = 0 ∧ t.2.1 ≤ 0 ∧ 0 ≤ t.2.2 then some (0, (0, [])) else none) else if j = 2 then (if t.1 = 1 ∧ t.2.1 ≤ 0 ∧ 0 ≤ t.2.2 then some (1, (0, [])) else none) else if j = 3 then (if t.1 = 3 then some (3, (0, [])) else none) else none
theorem sx_def_ok {Sg : Nat → Option Nat} {ρ : List Value} {j : Nat} {t : sx_Ty} {a : sx_AV} {ty : FieldType} (h : sx_def j t = some a) (hj : sx_jc j ty) : sx_av ρ a (defaultValue ty) ∧ sx_ok Sg (defaultValue ty) t := by
  have e0 : (0 : Int32).toInt = 0 := by decide
  have e1 : (0 : Int64).toInt = 0 := by decide
  unfold sx_def at h
  rcases hj with ⟨rfl, rfl⟩ | ⟨rfl, rfl⟩ | ⟨rfl, rfl⟩ | ⟨rfl, hty⟩
  · rw [if_pos (by decide)] at h
    split at h
    · rename_i hc
      cases h
      exact ⟨sx_int_av (x := 0) (by rw [e0]; exact sx_const_ok 0), Or.inl ⟨hc.1, 0, rfl, by rw [e0]; exact hc.2.1, by rw [e0]; exact hc.2.2⟩⟩
    · cases h
  · rw [if_pos (by decide)] at h
    split at h
    · rename_i hc
      cases h
      exact ⟨sx_int_av (x := 0) (by rw [e0]; exact sx_const_ok 0), Or.inl ⟨hc.1, 0, rfl, by rw [e0]; exact hc.2.1, by rw [e0]; exact hc.2.2⟩⟩
    · cases h
  · rw [if_neg (by decide), if_pos rfl] at h
    split at h
    · rename_i hc
      cases h
      exact ⟨sx_long_av (x := 0) (by rw [e1]; exact sx_const_ok 0), Or.inr (Or.inl ⟨hc.1, 0, rfl, by rw [e1]; exact hc.2.1, by rw [e1]; exact hc.2.2⟩)⟩
    · cases h
  · rw [if_neg (by decide), if_neg (by decide), if_pos rfl] at h
    split at h
    · rename_i hc
      cases h
      have hd : defaultValue ty = .null := by rcases hty with ⟨n, rfl⟩ | ⟨t, rfl⟩ <;> rfl
      rw [hd]
      exact ⟨Or.inr (Or.inr (Or.inr ⟨rfl, rfl⟩)), Or.inr (Or.inr (Or.inr ⟨hc, Or.inl rfl⟩))⟩
    · cases h
/-- the facts of a new object's fields, from the k-th on -/
def sx_defs (z : Nat) : Nat → List Nat → List sx_Ty → Option (List (Nat × Nat × sx_AV))
  | _, [], [] => some []
  | k, j :: js, t :: ts => match sx_def j t, sx_defs z (k + 1) js ts with
    | some a, some r => some ((z, k, a) :: r)
    | _, _ => none
  | _, _, _ => none
theorem sx_defs_ok {z : Nat} : ∀ (js : List Nat) (ts : List sx_Ty) (k : Nat) (r : List (Nat × Nat × sx_AV)), sx_defs z k js ts = some r → js.length = ts.length ∧ (∀ x ∈ r, x.1 = z ∧ ∃ (i j : Nat) (t : sx_Ty), x.2.1 = k + i ∧ js[i]? = some j ∧ ts[i]? = some t ∧ sx_def j t = some x.2.2) ∧ ∀ (i j : Nat) (t : sx_Ty), js[i]? = some j → ts[i]? = some t → ∃ a, sx_def j t = some a
  | [], [], k, r, h => by
    simp only [sx_defs] at h
    cases h
    exact ⟨rfl, fun x hx => by simp at hx, fun i j t hj => by simp at hj⟩
  | j :: js, t :: ts, k, r, h => by
    simp only [sx_defs] at h
    split at h
    · rename_i a r' ha hr'
      cases h
      obtain ⟨h1, h2, h3⟩ := sx_defs_ok js ts (k + 1) r' hr'
      refine ⟨by simp [h1], fun x hx => ?_, fun i j' t' hj ht => ?_⟩
      · rcases List.mem_cons.mp hx with rfl | hx
        · exact ⟨rfl, 0, j, t, rfl, rfl, rfl, ha⟩
        · obtain ⟨e1, i, j', t', e2, e3, e4, e5⟩ := h2 x hx
          exact ⟨e1, i + 1, j', t', by omega, by simpa using e3, by simpa using e4, e5⟩
      · cases i with
        | zero =>
          simp at hj ht
          subst hj; subst ht
          exact ⟨a, ha⟩
        | succ i =>
          simp at hj ht
          exact h3 i j' t' hj ht
    · cases h
  | [], _ :: _, k, r, h => by simp [sx_defs] at h
  | _ :: _, [], k, r, h => by simp [sx_defs] at h
section SX10
variable {FT : Nat → List Int → Int} {D : va_G} {cl : List vw_C} {RT : Nat → Option sx_Rg} {b0 : sx_B} {nL : Nat} {p : Program} {l : Launch} {e : Env} {R : Room} {s : State} {m : MethodId} {args : Array Value} {below : List Frame} {meth : Method} {c : Code} {Q : State → Prop}
  {Sg0 : Nat → Option Nat} {ρ0 : List Value} {pc nc ns : Nat} {cc : ByteArray} {own : String} {Ts : List Cond} {Sg : Nat → Option Nat} {H : Heap} {ρ : List Value} {ls : Array Slot} {stk : List Value} {locs : List Loc} {E : List sx_Ty} {C N : List sx_LF} {U : List (Nat × List sx_LF × Nat)}
  {FA : sx_FA} {L : List (Nat × sx_AV)} {S : List sx_AV} {i : Instr} {n : Nat}
theorem sx_le_trans {A B C : Nat → Option Nat} (h1 : sx_le A B) (h2 : sx_le B C) : sx_le A C := fun a r h => h2 a r (h1 a r h)
/-- behind the making of a cell: all that was known, and what is known of the new one -/
theorem sx_made {g : sx_Rg} {cell : Cell} {H' : Heap} {F2 : List (Nat × Nat × sx_AV)} {A2 : List (Nat × sx_Ty × List Nat)} {S' : List sx_AV} {rest : List Value} {nc' ns' pc' : Nat} (hP : sx_Pt FT D cl RT b0 nL s Sg H ρ ((E, C, N, U), FA) L S ls stk locs) (hle : sx_le Sg0 Sg) (hpre : ρ0 <+: ρ) (hb : sx_bs b0 s) (hg : RT (FA.2.2) = some g) (hc : H'[H.size]? = some cell) (hz : H'.size = H.size + 1) (ho : ∀ q, q < H.size → H'[q]? = H[q]?) (hk : sx_kind D cl s g cell)
    (hs : ∀ k : Nat, k < sx_wd g → ∃ v t, cell.slots[sx_sl D g k]? = some v ∧ sx_ft g k = some t ∧ sx_ok (sx_ext Sg H.size FA.2.2) v t)
    (hF2 : ∀ x ∈ F2, x.1 = FA.2.2 ∧ Nat.blt x.2.1 1048576 = true ∧ x.2.1 < sx_wd g ∧ ∃ v, cell.slots[sx_sl D g x.2.1]? = some v ∧ sx_av (ρ ++ [.ref H.size]) x.2.2 v)
    (hA2 : ∀ x ∈ A2, x.1 = FA.2.2 ∧ g.1 ≠ 0 ∧ ∀ k v, k < sx_wd g → cell.slots[k]? = some v → sx_ok (sx_ext Sg H.size FA.2.2) v x.2.1) (hS : sx_stk ρ S' rest)
    (hW : sx_W FT D cl RT b0 nL p l e R s m args below meth c Q Sg0 ρ0 pc' (((E ++ [(2, (FA.2.2 : Int), 0)], C, N, U), (F2 ++ FA.1, A2 ++ FA.2.1, FA.2.2 + 1)), (L, (2, ((E.length : Int), [])) :: S'), nc', ns')) : W p l e R s m args below meth c H' locs nc' ns' Q (F0 m pc' ls (.ref H.size :: rest)) := by
  obtain ⟨hH, hG, hF, hV⟩ := hP
  have hle2 := sx_ext_le hH FA.2.2
  have hb' : b0.1 H.size := hb _ hV.1.1
  have hfr : ∀ a, Sg a ≠ some FA.2.2 := fun a ha => Nat.lt_irrefl _ (hG.2.2.2.2.2.2 a _ ha)
  have hfr2 : ∀ a r, sx_ext Sg H.size FA.2.2 a = some r → r < FA.2.2 + 1 := fun a r ha => by
    unfold sx_ext at ha
    split at ha
    · cases ha; omega
    · have : r < FA.2.2 := hG.2.2.2.2.2.2 a r ha
      omega
  have hH' := sx_H_new hH hg hc ho hk hs hb' hfr
  have hnew : sx_ext Sg H.size FA.2.2 H.size = some FA.2.2 := by unfold sx_ext; rw [if_pos rfl]
  have hg2 := sx_G_ext (t := (2, (FA.2.2 : Int), 0)) (v := .ref H.size) (sx_G_grow hG hle2 (fun a r ha => ho a (sx_H_lt hH ha)) hfr2) (Or.inr (Or.inr (Or.inl ⟨rfl, H.size, rfl, by show _ = some ((FA.2.2 : Int)).toNat; rw [Int.toNat_natCast]; exact hnew⟩)))
  have hsym : (ρ ++ [Value.ref H.size])[E.length]? = some (.ref H.size) := sx_iv_new hG.1.1
  obtain ⟨g1, g2, g3, g4, g5, g6⟩ := hg2
  have hF3 := sx_Fr_ext (ρ2 := [Value.ref H.size]) hF
  refine hW (sx_ext Sg H.size FA.2.2) H' (ρ ++ [.ref H.size]) ls (.ref H.size :: rest) locs (sx_le_trans hle hle2) (hpre.trans (List.prefix_append ρ _)) ⟨hH', ⟨g1, g2, g3, g4, fun x hx => ?_, fun x hx => ?_, hfr2⟩, ⟨hF3.1, hF3.2.1, hF3.2.2.1, Or.inr (Or.inr (Or.inl ⟨rfl, by show _[((E.length : Int)).toNat]? = _; rw [Int.toNat_natCast]; exact hsym, H.size, rfl⟩)), sx_stk_ext hS⟩, ?_⟩
  · rcases List.mem_append.mp hx with hx | hx
    · obtain ⟨e1, e20, e2, v, e3, e4⟩ := hF2 x hx
      obtain ⟨x1, x2, x3⟩ := x
      have e1 : x1 = FA.2.2 := e1
      subst e1
      exact sx_fact_mk (sx_ix_con e20) hnew hg hc e2 e3 e4
    · exact g5 x hx
  · rcases List.mem_append.mp hx with hx | hx
    · obtain ⟨e1, e2, e3⟩ := hA2 x hx
      exact ⟨H.size, FA.2.2, g, cell, e1, hnew, hg, e2, hc, fun k v hk _ hv => e3 k v hk hv⟩
    · exact g6.1 x hx
  · exact ⟨⟨Nat.le_trans hV.1.1 (by omega), fun q h1 h2 => (ho q (Nat.lt_of_lt_of_le h1 hV.1.1)).trans (hV.1.2.1 q h1 h2), hV.1.2.2⟩, (hV.2.2 Sg (fun _ _ h => h)).2 _ H H' hle2 (by omega) ho hV.2.1, sx_jkp_le hV.2.2 hle2⟩
def sx_newa (kd : Nat) (by_ : Nat) (RT : Nat → Option sx_Rg) (rc rs : Nat) (E : List sx_Ty) (C N : List sx_LF) (U : List (Nat × List sx_LF × Nat)) (FA : sx_FA) (L : List (Nat × sx_AV)) (S : List sx_AV) (nc ns : Nat) : Option sx_St := match S with
  | b :: S' => match RT (FA.2.2) with
    | some g => match g.2.2.2[0]? with
      | some t => if b.1 = 0 ∧ b.2.2 = [] ∧ b.2.1 = (g.2.1 : Int) ∧ g.1 = kd ∧ t.1 + 1 = kd ∧ t.2.1 ≤ 0 ∧ 0 ≤ t.2.2 ∧ g.2.2.2.length = 1 ∧ g.2.1 * by_ ≤ 536870912 ∧ g.2.1 < 2147483648 ∧ nc + 1 ≤ rc ∧ ns + g.2.1 ≤ rs then
          some (((E ++ [(2, (FA.2.2 : Int), 0)], C, N, U), ([] ++ FA.1, [(FA.2.2, (t.1, 0, 0), [])] ++ FA.2.1, FA.2.2 + 1)), (L, (2, ((E.length : Int), [])) :: S'), nc + 1, ns + g.2.1) else none
      | none => none
    | none => none
  | _ => none
theorem sx_newa_ok {kd by_ rc rs : Nat} {atype : ArrayType} {st' : sx_St} (hC : sx_Cx p s m args c cc nL own Ts) (hac : (Cond.arrayClass (Op.newarray.typeOf atype)).before args s = true) (hat : (atype = .int ∧ kd = 1 ∧ by_ = 4) ∨ (atype = .long ∧ kd = 2 ∧ by_ = 8)) (hb0 : sx_bs b0 s) (hR : R.cells = rc ∧ R.slots = rs) (h : sx_newa kd by_ RT rc rs E C N U FA L S nc ns = some st') (hd : decode cc pc = .ok (.newarray atype, 2))
    (hP : sx_Pt FT D cl RT b0 nL s Sg H ρ ((E, C, N, U), FA) L S ls stk locs) (hle : sx_le Sg0 Sg) (hpre : ρ0 <+: ρ) (hW : sx_W FT D cl RT b0 nL p l e R s m args below meth c Q Sg0 ρ0 (pc + 2) st') : W p l e R s m args below meth c H locs nc ns Q (F0 m pc ls stk) := by
  unfold sx_newa at h
  split at h
  · rename_i b S'
    split at h
    · rename_i g hg
      split at h
      · rename_i t ht
        split at h
        · rename_i hc
          obtain ⟨c1, c2, c3, c4, c5, c6, c7, c71, c8, c9, c10, c11⟩ := hc
          cases h
          obtain ⟨v, t1, rfl, h1, hs1⟩ := sx_stk_cons hP.2.2.1.2.2.2
          obtain ⟨bt, bf⟩ := b
          have c1 : bt = 0 := c1
          subst c1
          obtain ⟨x, rfl, hf⟩ := sx_av_int h1
          have hxn : x.toInt = (g.2.1 : Int) := by rw [sx_lf_const hf c2]; exact c3
          have hxc : x.toNatClampNeg = g.2.1 := by have : x.toNatClampNeg = x.toInt.toNat := rfl
                                                   omega
          have hx0 : ¬ x < 0 := fun q => by rw [Int32.lt_iff_toInt_lt] at q; have : (0 : Int32).toInt = 0 := by decide
                                            omega
          have g0 : g.1 ≠ 0 := by rcases hat with ⟨-, h, -⟩ | ⟨-, h, -⟩ <;> omega
          have hwd : sx_wd g = g.2.1 := by unfold sx_wd; rw [if_neg g0]
          obtain ⟨hx, hb, -, hown, hts⟩ := hC
          have hbytes : g.2.1 * componentBytes (Op.newarray.typeOf atype) ≤ 536870912 := by
            rcases hat with ⟨rfl, -, rfl⟩ | ⟨rfl, -, rfl⟩ <;> exact c8
          have hty : sx_aty cl g = Op.newarray.typeOf atype := by
            unfold sx_aty
            rcases hat with ⟨rfl, h, -⟩ | ⟨rfl, h, -⟩
            · rw [if_pos (by omega)]; rfl
            · rw [if_neg (by omega), if_pos (by omega)]; rfl
          refine W.newaK hx hb hac rfl hd rfl hx0 hxc hbytes (by omega) (by omega) rfl fun H' cA e1 e2 e3 hAr => ?_
          have hdef : ∀ Sg' : Nat → Option Nat, sx_ok Sg' (defaultValue (Op.newarray.typeOf atype)) (t.1, 0, 0) := fun Sg' => by
            rcases hat with ⟨rfl, h, -⟩ | ⟨rfl, h, -⟩
            · exact Or.inl ⟨by show t.1 = 0; omega, 0, rfl, show (0 : Int) ≤ (0 : Int32).toInt by decide, show (0 : Int32).toInt ≤ (0 : Int) by decide⟩
            · exact Or.inr (Or.inl ⟨by show t.1 = 1; omega, 0, rfl, show (0 : Int) ≤ (0 : Int64).toInt by decide, show (0 : Int64).toInt ≤ (0 : Int) by decide⟩)
          have hdef2 : ∀ Sg' : Nat → Option Nat, sx_ok Sg' (defaultValue (Op.newarray.typeOf atype)) t := fun Sg' => by
            have z0 : (0 : Int32).toInt = 0 := by decide
            have z1 : (0 : Int64).toInt = 0 := by decide
            rcases hat with ⟨rfl, h, -⟩ | ⟨rfl, h, -⟩
            · exact Or.inl ⟨by omega, 0, rfl, by rw [z0]; exact c6, by rw [z0]; exact c7⟩
            · exact Or.inr (Or.inl ⟨by omega, 0, rfl, by rw [z1]; exact c6, by rw [z1]; exact c7⟩)
          refine sx_made (F2 := []) (A2 := [(FA.2.2, (t.1, 0, 0), [])]) hP hle hpre hb0 hg e1 e2 e3 (Or.inr ⟨g0, ?_, ?_, ?_, ?_, ?_⟩) (fun k hk => ?_) (fun x hx => by simp at hx) (fun y hy => ?_) hs1 hW
          · rw [hty]; exact hAr g.2.1 _
          · exact fun h => by cases h
          · rw [arrV_size]; exact Nat.le_refl _
          · rw [arrV_size]
          · intro h3; rcases hat with ⟨-, h, -⟩ | ⟨-, h, -⟩ <;> omega
          · rw [hwd] at hk
            refine ⟨_, t, by rw [sx_sl1 g0]; exact arrV_read _ _ hk, sx_ft1 g0 c71 ht, hdef2 _⟩
          · simp at hy
            subst hy
            refine ⟨rfl, g0, fun k v hk hv => ?_⟩
            rw [hwd] at hk
            rw [arrV_read _ _ hk] at hv
            cases hv
            exact hdef _
        · cases h
      · cases h
    · cases h
  · cases h
end SX10
