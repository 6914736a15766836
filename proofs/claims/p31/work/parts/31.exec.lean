/-! sx, the executor -/
/-- a hook: (pc, kind, numbers) -/
abbrev sx_Ha : Type := Nat × Nat × List Int
/-- a method: (name, code, locals, type), decoded code, (class, constructor, cells, slots, receiver's class), loops, hooks -/
abbrev sx_Me : Type := (MethodName × ByteArray × Nat × Option FieldType) × List (List (Nat × Instr × Nat)) × (Nat × Bool × Nat × Nat × Nat) × List sx_Lp × List sx_Ha
/-- a class: its name, its pool, its calls, its calls of Object's constructor, its calls of System.arraycopy -/
abbrev sx_Da : Type := String × sx_Cd × List sx_Ml × List Nat × List Nat
abbrev sx_Bu : Type := Nat × Nat × Nat × Nat
abbrev sx_Ko : Type := Option sx_AV → sx_Kn → Nat → Nat → Bool
def sx_isinv (i : Instr) : Option (Nat × Nat) := match i with
  | .invokevirtual x => some (0, x)
  | .invokestatic x => some (1, x)
  | .invokespecial x => some (2, x)
  | _ => none
def sx_cs8 (S : List sx_AV) : Nat := (S.map (fun a => if a.1 = 1 then 2 else 1)).sum
def sx_ent : Nat → List sx_AV → List (Nat × sx_AV)
  | _, [] => []
  | i, a :: as => (i, a) :: sx_ent (if a.1 = 1 then i + 2 else i + 1) as
/-- the receiver is an object of the method's class -/
def sx_rcv (RT : Nat → Option sx_Rg) (E : List sx_Ty) (kind rc : Nat) (avs : List sx_AV) : Bool := if kind = 1 then true else match avs with
  | a :: _ => match sx_reg E RT a with
    | some (_, _, g) => g.1 == 0 && g.2.1 == rc
    | none => false
  | [] => false
def sx_call (RT : Nat → Option sx_Rg) (recS : Nat → sx_St → Bool) (recC : sx_Me → sx_Bu → sx_St → sx_Ko → Bool) (bud : sx_Bu) (pc : Nat) (K : sx_Kn) (L : List (Nat × sx_AV)) (S : List sx_AV) (nc ns : Nat) (q : sx_Ml) (M : sx_Me) : Bool :=
  let n := q.2.2.2 + (if q.2.1 = 1 then 0 else 1)
  let avs := (S.take n).reverse
  let rest := S.drop n
  avs.length == n && decide (sx_cs8 avs ≤ M.1.2.2.1) && decide (sx_cs8 rest ≤ 8) && decide (1 ≤ bud.1) && decide (19 + M.1.2.2.1 ≤ bud.2.1) && decide (n ≤ M.1.2.2.1) && sx_rcv RT K.1.1 q.2.1 M.2.2.1.2.2.2.2 avs && (!(q.2.1 == 2) || M.1.2.2.2.isNone) &&
  decide (nc + M.2.2.1.2.2.1 ≤ bud.2.2.1) && decide (ns + M.2.2.1.2.2.2.1 ≤ bud.2.2.2) &&
  recC M (bud.1 - 1, bud.2.1 - (19 + M.1.2.2.1), M.2.2.1.2.2.1, M.2.2.1.2.2.2.1) (K, (sx_ent 0 avs, []), 0, 0) (fun r K' nc' ns' => decide (nc' ≤ M.2.2.1.2.2.1) && decide (ns' ≤ M.2.2.1.2.2.2.1) && recS (pc + 3) (K', (L, r.toList ++ rest), nc + M.2.2.1.2.2.1, ns + M.2.2.1.2.2.2.1))
def sx_oin (recS : Nat → sx_St → Bool) (bud : sx_Bu) (pc : Nat) (K : sx_Kn) (L : List (Nat × sx_AV)) (S : List sx_AV) (nc ns : Nat) : Bool := match S with
  | a :: S' => a.1 == 2 && decide (1 ≤ bud.1) && decide (sx_cs8 S' + 12 ≤ bud.2.1) && recS (pc + 3) (K, (L, S'), nc, ns)
  | [] => false
noncomputable def sx_inv1 (RT : Nat → Option sx_Rg) (MT : List (List sx_Me)) (d : sx_Da) (recS : Nat → sx_St → Bool) (recC : sx_Me → sx_Bu → sx_St → sx_Ko → Bool) (bud : sx_Bu) (pc : Nat) (K : sx_Kn) (L : List (Nat × sx_AV)) (S : List sx_AV) (nc ns kind idx : Nat) : Bool :=
  if kind == 2 && d.2.2.2.1.any (fun j => j == idx) then sx_oin recS bud pc K L S nc ns else
  if kind == 1 && d.2.2.2.2.any (fun j => j == idx) then (match sx_acp RT bud.2.1 bud.1 K.1.1 K.1.2.1 K.1.2.2.1 K.1.2.2.2 K.2 L S nc ns with
    | some st' => recS (pc + 3) st'
    | none => false) else
  match sx_fnd (fun q => sx_ab (Nat.beq q.1 idx) (Nat.beq q.2.1 kind)) d.2.2.1 with
  | some q => match sx_at2 MT q.2.2.1 with
    | some M => sx_call RT recS recC bud pc K L S nc ns q M
    | none => false
  | none => false
/-- the instruction at a place: the rows lie in groups of 32 bytes -/
noncomputable def sx_row (R : List (List (Nat × Instr × Nat))) (pc : Nat) : Option (Nat × Instr × Nat) := match R[pc / 32]? with
  | some c => sx_fnd (fun q => Nat.beq q.1 pc) c
  | none => none
theorem sx_row_ok {R : List (List (Nat × Instr × Nat))} {pc : Nat} {q : Nat × Instr × Nat} (h : sx_row R pc = some q) : (∃ c ∈ R, q ∈ c) ∧ q.1 = pc := by
  unfold sx_row at h
  split at h
  · rename_i c hc
    have h2 := sx_fnd_some h
    simp at h2
    exact ⟨⟨c, List.mem_of_getElem? hc, sx_fnd_mem h⟩, h2⟩
  · cases h
noncomputable def sx_stp (cl : List vw_C) (RT : Nat → Option sx_Rg) (CJ : List (List Nat)) (MT : List (List sx_Me)) (CDs : List sx_Da) (recS : Nat → sx_St → Bool) (recC : sx_Me → sx_Bu → sx_St → sx_Ko → Bool) (M : sx_Me) (bud : sx_Bu) (pc : Nat) (st : sx_St) (k : sx_Ko) : Bool :=
  match sx_row M.2.1 pc, CDs[M.2.2.1.1]? with
  | some (_, i, len), some d => match sx_cls i with
    | 7 => match sx_isinv i with
      | some (kind, idx) => len == 3 && sx_inv1 RT MT d recS recC bud pc st.1 st.2.1.1 st.2.1.2 st.2.2.1 st.2.2.2 kind idx
      | none => false
    | 8 => match sx_rav st.1.1.1 st.1.1.2.1 M.1.2.2.2 i st.2.1.2 with
      | some r => len == 1 && k r st.1 st.2.2.1 st.2.2.2
      | none => false
    | _ => match sx_do cl d.2.1 RT CJ M.1.2.2.1 bud.2.2.1 bud.2.2.2 M.2.2.1.2.1 pc i len st with
      | some X => X.all (fun q => recS q.1 q.2)
      | none => false
  | _, _ => false
noncomputable def sx_peel (q : sx_Lp) (st : sx_St) : Bool := match sx_lk st.2.1.1 q.2.2.2.2.1.1 with
  | some a => a.2.2.isEmpty && decide (a.2.1 < q.2.2.2.2.1.2)
  | none => false
/-- a local that may be each of the numbers from lo on, n of them -/
noncomputable def sx_spl (f : sx_LF) (j : Nat) (E : List sx_Ty) (C N : List sx_LF) (U : List (Nat × List sx_LF × Nat)) (FA : sx_FA) (L : List (Nat × sx_AV)) (S : List sx_AV) (nc ns : Nat) : Nat → Int → List sx_St
  | 0, _ => []
  | n + 1, v => match sx_asEq (sx_addC f (-v)) E C with
    | some (E', C') => (((E', C', N, U), FA), (sx_put L j (0, (v, [])), S), nc, ns) :: sx_spl f j E C N U FA L S nc ns n (v + 1)
    | none => sx_spl f j E C N U FA L S nc ns n (v + 1)
def sx_o1 (N : List sx_LF) (U : List (Nat × List sx_LF × Nat)) (FA : sx_FA) (L : List (Nat × sx_AV)) (S : List sx_AV) (nc ns : Nat) (r : Option (List sx_Ty × List sx_LF)) : List sx_St := match r with
  | some (E', C') => [(((E', C', N, U), FA), (L, S), nc, ns)]
  | none => []
/-- a local, or (from 1000 on) a place of the stack -/
noncomputable def sx_hav (L : List (Nat × sx_AV)) (S : List sx_AV) (j : Nat) : Option sx_AV := if Nat.blt j 1000 then sx_lk L j else S[j - 1000]?
noncomputable def sx_hpL (L : List (Nat × sx_AV)) (j : Nat) (b : sx_AV) : List (Nat × sx_AV) := if Nat.blt j 1000 then sx_put L j b else L
noncomputable def sx_hpS (S : List sx_AV) (j : Nat) (b : sx_AV) : List sx_AV := if Nat.blt j 1000 then S else S.set (j - 1000) b
/-- hooks of every claim: 0 (j lo hi) a local taken number by number; 1 (j v) a local below, at, above a number; 2 (regions) what is known of them goes; 4 () what can't be goes; 6 (j lo hi) a new symbol for what lies there, which is in bounds -/
noncomputable def sx_hook (kind : Nat) (ps : List Int) (st : sx_St) : Option (List sx_St) := match st with
  | (((E, C, N, U), FA), (L, S), nc, ns) => match kind, ps with
    | 0, [j, lo, hi] => match sx_lk L j.toNat with
      | some (t, f) => if t = 0 ∧ sx_ge E C (sx_addC f (-lo)) = true ∧ sx_ge E C (sx_sub (hi, []) f) = true then some (sx_spl f j.toNat E C N U FA L S nc ns (hi - lo + 1).toNat lo) else none
      | none => none
    | 1, [j, v] => match sx_lk L j.toNat with
      | some (t, f) => if t = 0 then some (sx_o1 N U FA L S nc ns (sx_assume (sx_sub (v - 1, []) f) E C) ++ sx_o1 N U FA L S nc ns (sx_asEq (sx_addC f (-v)) E C) ++ sx_o1 N U FA L S nc ns (sx_assume (sx_addC f (-v - 1)) E C)) else none
      | none => none
    | 2, ps => some [(((E, C, N, U), (FA.1.filter (fun x => !(ps.any (fun r => r == (x.1 : Int)))), FA.2.1.filter (fun x => !(ps.any (fun r => r == (x.1 : Int)))), FA.2.2)), (L, S), nc, ns)]
    | 4, [] => some (if sx_bad E C then [] else [(((E, C, N, U), FA), (L, S), nc, ns)])
    | 6, [j, lo, hi] => match sx_hav L S j.toNat with
      | some (t, f) => if t = 0 ∧ sx_ge2 E C (sx_addC f (-lo)) = true ∧ sx_ge2 E C (sx_sub (hi, []) f) = true then
          some [(((E ++ [(0, lo, hi)], sx_sub f (0, [(E.length, 1)]) :: sx_sub (0, [(E.length, 1)]) f :: C, N, U), FA), (sx_hpL L j.toNat (0, (0, [(E.length, 1)])), sx_hpS S j.toNat (0, (0, [(E.length, 1)]))), nc, ns)] else none
      | none => none
    | _, _ => none
/-- hooks of one claim: proved by hand -/
abbrev sx_Mac : Type := sx_Ha → sx_Me → sx_Bu → Nat → sx_St → Option (List (Nat × sx_St))
noncomputable def sx_hk (mac : sx_Mac) (M : sx_Me) (bud : sx_Bu) (pc : Nat) (st : sx_St) (stp : sx_St → Bool) (rec : Nat → sx_St → Bool) : Bool := match sx_fnd (fun h => Nat.beq h.1 pc) M.2.2.2.2 with
  | none => stp st
  | some h => match sx_hook h.2.1 h.2.2 st with
    | some X => X.all stp
    | none => match mac h M bud pc st with
      | some Y => Y.all (fun q => rec q.1 q.2)
      | none => false
noncomputable def sx_ex (cl : List vw_C) (RT : Nat → Option sx_Rg) (CJ : List (List Nat)) (MT : List (List sx_Me)) (CDs : List sx_Da) (mac : sx_Mac) : Nat → sx_Me → sx_Bu → List sx_Al → (Nat → sx_St → Bool) → Nat → sx_St → sx_Ko → Bool
  | 0, _, _, _, _, _, _, _ => false
  | f + 1, M, bud, lps, cks, pc, st, k => if cks pc st = true then true else match sx_fnd (fun a => Nat.beq a.1 pc) lps with
    | some a => sx_back a st
    | none => match sx_fnd (fun q => Nat.beq q.1 pc) M.2.2.2.1 with
      | some q => if sx_peel q st then sx_stp cl RT CJ MT CDs (fun pc st => sx_ex cl RT CJ MT CDs mac f M bud lps cks pc st k) (fun M' b' st' k' => sx_ex cl RT CJ MT CDs mac f M' b' [] (fun _ _ => false) 0 st' k') M bud pc st k
        else match sx_enter q st with
          | some a => sx_stp cl RT CJ MT CDs (fun pc st => sx_ex cl RT CJ MT CDs mac f M bud (a :: lps) cks pc st k) (fun M' b' st' k' => sx_ex cl RT CJ MT CDs mac f M' b' [] (fun _ _ => false) 0 st' k') M bud pc (sx_head a) k
          | none => false
      | none => sx_hk mac M bud pc st (fun st => sx_stp cl RT CJ MT CDs (fun pc st => sx_ex cl RT CJ MT CDs mac f M bud lps cks pc st k) (fun M' b' st' k' => sx_ex cl RT CJ MT CDs mac f M' b' [] (fun _ _ => false) 0 st' k') M bud pc st k) (fun pc st => sx_ex cl RT CJ MT CDs mac f M bud lps cks pc st k)
/-! its truth -/
def sx_KOK (FT : Nat → List Int → Int) (D : va_G) (cl : List vw_C) (RT : Nat → Option sx_Rg) (b0 : sx_B) (p : Program) (l : Launch) (e : Env) (R : Room) (s : State) (m : MethodId) (args : Array Value) (below : List Frame) (meth : Method) (c : Code) (Q : State → Prop) (cc : ByteArray) (ret : Option FieldType) (Sg0 : Nat → Option Nat) (ρ0 : List Value) (k : sx_Ko) : Prop :=
  ∀ (r : Option sx_AV) (K : sx_Kn) (nc ns : Nat), k r K nc ns = true → ∀ (Sg : Nat → Option Nat) (H : Heap) (ρ : List Value) (locs : List Loc) (vo : Option Value) (i : Instr) (pc : Nat) (ls : Array Slot), sx_le Sg0 Sg → ρ0 <+: ρ → sx_H D cl RT b0 Sg s H → sx_G FT D RT Sg H ρ K → sx_V RT b0 s Sg H locs → sx_vo ρ r vo → sx_rv ret i vo → decode cc pc = .ok (i, 1) → W p l e R s m args below meth c H locs nc ns Q (F0 m pc ls vo.toList)
def sx_Frm (D : va_G) (cl : List vw_C) (AO : sx_Ao) (TB : List Cond) (b0 : sx_B) (M : sx_Me) (bud : sx_Bu) (p : Program) (R : Room) (s : State) (m : MethodId) (args : Array Value) (meth : Method) (c : Code) : Prop :=
  sx_Cx p s m args c M.1.2.1 M.1.2.2.1 M.1.1.cls TB ∧ sx_Ks D cl AO TB s ∧ sx_bs b0 s ∧ R.frames = bud.1 ∧ R.locals = bud.2.1 ∧ R.cells = bud.2.2.1 ∧ R.slots = bud.2.2.2 ∧ (M.2.2.1.2.1 = true → meth.name = "<init>") ∧ meth.sig.returnType = M.1.2.2.2 ∧ meth.locks = false ∧ sx_ZS AO.2 b0 s
def sx_meok (cl : List vw_C) (CDs : List sx_Da) (M : sx_Me) : Prop := (∀ c ∈ M.2.1, ∀ q ∈ c, decode M.1.2.1 q.1 = .ok q.2) ∧ plainFor M.1.1 = true ∧ (M.2.2.1.2.1 = true → M.1.1.name = "<init>") ∧ (∀ d, CDs[M.2.2.1.1]? = some d → d.1 = M.1.1.cls) ∧ ∀ r, cl[M.2.2.1.2.2.2.2]? = some r → r.1 = M.1.1.cls
def sx_daok (cl : List vw_C) (AO : sx_Ao) (TB : List Cond) (MT : List (List sx_Me)) (d : sx_Da) : Prop := ∀ (args : Array Value) (s : State), (∀ w ∈ TB, w.before args s = true) → (∀ C ∈ AO.1, va_AO C s) →
  sx_cdok cl d.1 args s d.2.1 ∧ (∀ q ∈ d.2.2.1, ∀ M, sx_at2 MT q.2.2.1 = some M → sx_mlk d.1 args s M.1.1 q ∧ Cond.code M.1.1 M.1.2.1 M.1.2.2.1 M.1.2.2.2 ∈ TB) ∧ (∀ j ∈ d.2.2.2.1, (Cond.methodLink d.1 j Lib.objectInit).before args s = true ∧ (Cond.instanceMethod Lib.objectInit).before args s = true ∧ (Cond.code Lib.objectInit ⟨#[0xb1]⟩ 1 none).before args s = true) ∧ ∀ j ∈ d.2.2.2.2, (Cond.methodLink d.1 j arraycopyName).before args s = true ∧ (Cond.native arraycopyName).before args s = true ∧ (Cond.static arraycopyName).before args s = true ∧ (Cond.initialized "java/lang/System").before args s = true
def sx_prog (cl : List vw_C) (RT : Nat → Option sx_Rg) (CJ : List (List Nat)) (AO : sx_Ao) (TB : List Cond) (MT : List (List sx_Me)) (CDs : List sx_Da) : Prop :=
  (∀ w ∈ TB, sx_gw w = true) ∧ sx_clok cl TB ∧ sx_rtok cl RT ∧ sx_cjok cl CJ ∧ Cond.arrayClass .int ∈ TB ∧ Cond.arrayClass .long ∈ TB ∧ (∀ M ∈ MT.flatten, sx_meok cl CDs M) ∧ ∀ d ∈ CDs, sx_daok cl AO TB MT d
theorem sx_stk_app {ρ : List Value} : ∀ {S1 S2 : List sx_AV} {t : List Value}, sx_stk ρ (S1 ++ S2) t → ∃ t1 t2, t = t1 ++ t2 ∧ sx_stk ρ S1 t1 ∧ sx_stk ρ S2 t2
  | [], S2, t, h => ⟨[], t, rfl, trivial, h⟩
  | a :: S1, S2, t, h => by
    obtain ⟨v, r, rfl, h1, h2⟩ := sx_stk_cons h
    obtain ⟨t1, t2, rfl, h3, h4⟩ := sx_stk_app h2
    exact ⟨v :: t1, t2, rfl, ⟨h1, h3⟩, h4⟩
theorem sx_app_stk {ρ : List Value} : ∀ {S1 S2 : List sx_AV} {t1 t2 : List Value}, sx_stk ρ S1 t1 → sx_stk ρ S2 t2 → sx_stk ρ (S1 ++ S2) (t1 ++ t2)
  | [], S2, [], t2, _, h => h
  | a :: S1, S2, v :: t1, t2, h, k => ⟨h.1, sx_app_stk h.2 k⟩
  | [], _, _ :: _, _, h, _ => h.elim
  | _ :: _, _, [], _, h, _ => h.elim
theorem sx_stk_rev {ρ : List Value} : ∀ {S : List sx_AV} {t : List Value}, sx_stk ρ S t → sx_stk ρ S.reverse t.reverse
  | [], [], _ => trivial
  | a :: S, v :: t, h => by
    rw [List.reverse_cons, List.reverse_cons]
    exact sx_app_stk (sx_stk_rev h.2) ⟨h.1, trivial⟩
  | [], _ :: _, h => h.elim
  | _ :: _, [], h => h.elim
theorem sx_stk_len {ρ : List Value} : ∀ {S : List sx_AV} {t : List Value}, sx_stk ρ S t → t.length = S.length
  | [], [], _ => rfl
  | a :: S, v :: t, h => by simp [sx_stk_len h.2]
  | [], _ :: _, h => h.elim
  | _ :: _, [], h => h.elim
theorem sx_cs8_ok {ρ : List Value} : ∀ {S : List sx_AV} {t : List Value}, sx_stk ρ S t → (t.map fun v => v.category).sum = sx_cs8 S
  | [], [], _ => rfl
  | a :: S, v :: t, h => by
    have e1 := sx_cs8_ok h.2
    have e2 := sx_cat h.1
    unfold sx_cs8 at e1 ⊢
    simp only [List.map_cons, List.sum_cons]
    rw [e1, e2]
  | [], _ :: _, h => h.elim
  | _ :: _, [], h => h.elim
/-- the locals with which a method begins -/
theorem sx_ent_ok {ρ : List Value} : ∀ {avs : List sx_AV} {vs : List Value} (i : Nat), sx_stk ρ avs vs → ∀ q ∈ sx_ent i avs, ∃ v, sx_av ρ q.2 v ∧ (q.1, v) ∈ lv_args i vs
  | [], [], i, _, q, hq => by simp [sx_ent] at hq
  | a :: avs, v :: vs, i, h, q, hq => by
    simp only [sx_ent] at hq
    have hcat := sx_cat h.1
    rcases List.mem_cons.mp hq with rfl | hq
    · exact ⟨v, h.1, List.mem_cons_self⟩
    · obtain ⟨w, w1, w2⟩ := sx_ent_ok _ h.2 q hq
      refine ⟨w, w1, List.mem_cons_of_mem _ ?_⟩
      by_cases ha : a.1 = 1
      · rw [if_pos ha] at hcat w2
        rw [if_pos hcat]
        exact w2
      · rw [if_neg ha] at hcat w2
        rw [if_neg (by omega)]
        exact w2
  | [], _ :: _, i, h, q, hq => h.elim
  | _ :: _, [], i, h, q, hq => h.elim
theorem sx_lgsl {ρ : List Value} : ∀ {avs : List sx_AV} {vs : List Value}, sx_stk ρ avs vs → (lg_sl vs).length = sx_cs8 avs
  | [], [], _ => rfl
  | a :: avs, v :: vs, h => by
    have hcat := sx_cat h.1
    have ih := sx_lgsl h.2
    unfold lg_sl at ih ⊢
    unfold sx_cs8 at ih ⊢
    simp only [List.flatMap_cons, List.length_append, List.map_cons, List.sum_cons]
    rw [ih]
    by_cases ha : a.1 = 1
    · rw [if_pos ha] at hcat ⊢
      rw [if_pos hcat]
      rfl
    · rw [if_neg ha] at hcat ⊢
      rw [if_neg (by omega)]
      rfl
  | [], _ :: _, h => h.elim
  | _ :: _, [], h => h.elim
theorem sx_spl_mem {f : sx_LF} {j : Nat} {E : List sx_Ty} {C N : List sx_LF} {U : List (Nat × List sx_LF × Nat)} {FA : sx_FA} {L : List (Nat × sx_AV)} {S : List sx_AV} {nc ns : Nat} : ∀ (n : Nat) (v x : Int), v ≤ x → x < v + n → ∀ r, sx_asEq (sx_addC f (-x)) E C = some r → (((r.1, r.2, N, U), FA), (sx_put L j (0, (x, [])), S), nc, ns) ∈ sx_spl f j E C N U FA L S nc ns n v
  | 0, v, x, h1, h2, r, h => by omega
  | n + 1, v, x, h1, h2, r, h => by
    simp only [sx_spl]
    by_cases hvx : v = x
    · subst hvx
      rw [h]
      exact List.mem_cons_self
    · have ih := sx_spl_mem (f := f) (j := j) (E := E) (C := C) (N := N) (U := U) (FA := FA) (L := L) (S := S) (nc := nc) (ns := ns) n (v + 1) x (by omega) (by omega) r h
      split
      · exact List.mem_cons_of_mem _ ih
      · exact ih
