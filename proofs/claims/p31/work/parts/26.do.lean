/-! sx, any instruction but calls and returns -/
abbrev sx_Cd : Type := List (Nat × Int) × List (Nat × Int) × List sx_Fl × List (Nat × Nat × Nat) × List (Nat × Nat)
/-- what a class's pool tells of a state -/
def sx_cdok (cl : List vw_C) (own : String) (args : Array Value) (s : State) (cd : sx_Cd) : Prop :=
  (∀ q ∈ cd.1, (Cond.constant own q.1 (Int32.ofInt q.2)).before args s = true) ∧ (∀ q ∈ cd.2.1, (Cond.constantLong own q.1 (Int64.ofInt q.2)).before args s = true) ∧ (∀ q ∈ cd.2.2.1, sx_flk cl own args s q) ∧ (∀ q ∈ cd.2.2.2.1, sx_nlk cl own args s q) ∧ ∀ q ∈ cd.2.2.2.2, sx_alk cl own args s q
def sx_to (pc : Nat) (r : Option sx_St) : Option (List (Nat × sx_St)) := match r with
  | some st => some [(pc, st)]
  | none => none
def sx_isbr (i : Instr) (len : Nat) : Bool := match i with
  | .goto _ => len == 3
  | .ifCond _ _ => len == 3
  | .if_icmp _ _ => len == 3
  | .ifnull _ => len == 3
  | .ifnonnull _ => len == 3
  | .tableswitch _ _ _ _ => true
  | .lookupswitch _ _ => true
  | _ => false
/-- for aastore: the value is an object of the array's class -/
def sx_asq (cl : List vw_C) (RT : Nat → Option sx_Rg) (E : List sx_Ty) (S : List sx_AV) : Bool := match S with
  | v :: _ :: a :: _ => match sx_reg E RT a, sx_reg E RT v with
    | some (_, _, g), some (_, _, g') => g'.1 == 0 && g'.2.1 == g.2.2.1 && cl[g.2.2.1]?.isSome
    | _, _ => false
  | _ => false
noncomputable def sx_heap (cl : List vw_C) (cd : sx_Cd) (RT : Nat → Option sx_Rg) (CJ : List (List Nat)) (rc rs : Nat) (ini : Bool) (pc : Nat) (i : Instr) (len : Nat) (st : sx_St) : Option (List (Nat × sx_St)) := match st with
  | (((E, C, N, U), FA), (L, S), nc, ns) => match i with
    | .getfield idx => if len = 3 then sx_to (pc + 3) (sx_gf cd.2.2.1 RT idx E C N U FA L S nc ns) else none
    | .putfield idx => if len = 3 then sx_to (pc + 3) (sx_pf cd.2.2.1 RT ini idx E C N U FA L S nc ns) else none
    | .iaload => if len = 1 then sx_to (pc + 1) (sx_all1 1 RT E C N U FA L S nc ns) else none
    | .laload => if len = 1 then sx_to (pc + 1) (sx_all1 2 RT E C N U FA L S nc ns) else none
    | .aaload => if len = 1 then sx_aald RT pc E C N U FA L S nc ns else none
    | .arraylength => if len = 1 then sx_to (pc + 1) (sx_len RT E C N U FA L S nc ns) else none
    | .iastore => if len = 1 then sx_to (pc + 1) (sx_ast 1 RT E C N U FA L S nc ns) else none
    | .lastore => if len = 1 then sx_to (pc + 1) (sx_ast 2 RT E C N U FA L S nc ns) else none
    | .aastore => if len = 1 ∧ sx_asq cl RT E S = true then sx_to (pc + 1) (sx_ast 3 RT E C N U FA L S nc ns) else none
    | .newarray .int => if len = 2 then sx_to (pc + 2) (sx_newa 1 4 RT rc rs E C N U FA L S nc ns) else none
    | .newarray .long => if len = 2 then sx_to (pc + 2) (sx_newa 2 8 RT rc rs E C N U FA L S nc ns) else none
    | .new idx => if len = 3 then sx_to (pc + 3) (sx_newo cd.2.2.2.1 CJ RT rc rs idx E C N U FA L S nc ns) else none
    | .anewarray idx => if len = 3 then sx_to (pc + 3) (sx_newq cd.2.2.2.2 RT rc rs idx E C N U FA L S nc ns) else none
    | _ => none
noncomputable def sx_do (cl : List vw_C) (cd : sx_Cd) (RT : Nat → Option sx_Rg) (CJ : List (List Nat)) (nL rc rs : Nat) (ini : Bool) (pc : Nat) (i : Instr) (len : Nat) (st : sx_St) : Option (List (Nat × sx_St)) :=
  match sx_cls i with
  | 5 => if sx_isbr i len then sx_br pc i st else none
  | 6 => sx_heap cl cd RT CJ rc rs ini pc i len st
  | k => match sx_pure k cd.1 cd.2.1 nL i st with
    | some (n, st') => if n = len then some [(pc + n, st')] else none
    | none => none
section SX12
variable {FT : Nat → List Int → Int} {D : va_G} {cl : List vw_C} {RT : Nat → Option sx_Rg} {b0 : sx_B} {nL : Nat} {p : Program} {l : Launch} {e : Env} {R : Room} {s : State} {m : MethodId} {args : Array Value} {below : List Frame} {meth : Method} {c : Code} {Q : State → Prop}
  {Sg0 : Nat → Option Nat} {ρ0 : List Value} {pc nc ns : Nat} {cc : ByteArray} {own : String} {Ts : List Cond} {Sg : Nat → Option Nat} {H : Heap} {ρ : List Value} {ls : Array Slot} {stk : List Value} {locs : List Loc} {E : List sx_Ty} {C N : List sx_LF} {U : List (Nat × List sx_LF × Nat)}
  {FA : sx_FA} {L : List (Nat × sx_AV)} {S : List sx_AV} {i : Instr} {n : Nat}
theorem sx_to_ok {pc' : Nat} {r : Option sx_St} {X : List (Nat × sx_St)} (h : sx_to pc' r = some X) : ∃ st', r = some st' ∧ X = [(pc', st')] := by
  unfold sx_to at h
  split at h
  · rename_i st'
    cases h
    exact ⟨st', rfl, rfl⟩
  · cases h
/-- all that holds in a frame, apart from the machine's point -/
def sx_In (D : va_G) (cl : List vw_C) (RT : Nat → Option sx_Rg) (CJ : List (List Nat)) (cd : sx_Cd) (b0 : sx_B) (nL rc rs : Nat) (ini : Bool) (p : Program) (R : Room) (s : State) (m : MethodId) (args : Array Value) (meth : Method) (c : Code) (cc : ByteArray) (own : String) (Ts : List Cond) : Prop :=
  sx_Cx p s m args c cc nL own Ts ∧ va_K D cl [] s ∧ sx_clok cl Ts ∧ sx_rtok cl RT ∧ sx_cjok cl CJ ∧ sx_cdok cl own args s cd ∧ (Cond.arrayClass .int).before args s = true ∧ (Cond.arrayClass .long).before args s = true ∧ sx_bs b0 s ∧ R.cells = rc ∧ R.slots = rs ∧ (ini = true → meth.name = "<init>")
theorem sx_heap_ok {CJ : List (List Nat)} {cd : sx_Cd} {rc rs len : Nat} {ini : Bool} {st : sx_St} {X : List (Nat × sx_St)} (hI : sx_In D cl RT CJ cd b0 nL rc rs ini p R s m args meth c cc own Ts) (h : sx_heap cl cd RT CJ rc rs ini pc i len st = some X) (hd : decode cc pc = .ok (i, len))
    (hW : ∀ q ∈ X, sx_W FT D cl RT b0 nL p l e R s m args below meth c Q Sg0 ρ0 q.1 q.2) : sx_W FT D cl RT b0 nL p l e R s m args below meth c Q Sg0 ρ0 pc st := by
  obtain ⟨hC, hKn, hcl, hRT, hCJ, hcd, hai, hal, hb0, hR1, hR2, hini⟩ := hI
  obtain ⟨⟨⟨E, C, N, U⟩, FA⟩, ⟨L, S⟩, nc, ns⟩ := st
  intro Sg H ρ ls stk locs hle hpre hP
  unfold sx_heap at h
  simp only at h
  split at h
  · split at h
    · rename_i hl
      subst hl
      obtain ⟨st', e1, rfl⟩ := sx_to_ok h
      exact sx_gf_ok hC hKn hcl hcd.2.2.1 e1 hd hP hle hpre (hW _ List.mem_cons_self)
    · cases h
  · split at h
    · rename_i hl
      subst hl
      obtain ⟨st', e1, rfl⟩ := sx_to_ok h
      exact sx_pf_ok hC hKn hcl hRT hini hcd.2.2.1 e1 hd hP hle hpre (hW _ List.mem_cons_self)
    · cases h
  · split at h
    · rename_i hl
      subst hl
      obtain ⟨st', e1, rfl⟩ := sx_to_ok h
      exact sx_all1_ok hC (Or.inl ⟨rfl, rfl⟩) e1 hd hP hle hpre (hW _ List.mem_cons_self)
    · cases h
  · split at h
    · rename_i hl
      subst hl
      obtain ⟨st', e1, rfl⟩ := sx_to_ok h
      exact sx_all1_ok hC (Or.inr ⟨rfl, rfl⟩) e1 hd hP hle hpre (hW _ List.mem_cons_self)
    · cases h
  · split at h
    · rename_i hl
      subst hl
      exact sx_aald_ok hC h hd hP hle hpre hW
    · cases h
  · split at h
    · rename_i hl
      subst hl
      obtain ⟨st', e1, rfl⟩ := sx_to_ok h
      exact sx_len_ok hC e1 hd hP hle hpre (hW _ List.mem_cons_self)
    · cases h
  · split at h
    · rename_i hl
      subst hl
      obtain ⟨st', e1, rfl⟩ := sx_to_ok h
      exact sx_ast_ok hC (Or.inl ⟨rfl, rfl⟩) e1 hd hP hle hpre (hW _ List.mem_cons_self)
    · cases h
  · split at h
    · rename_i hl
      subst hl
      obtain ⟨st', e1, rfl⟩ := sx_to_ok h
      exact sx_ast_ok hC (Or.inr ⟨rfl, rfl⟩) e1 hd hP hle hpre (hW _ List.mem_cons_self)
    · cases h
  · split at h
    · rename_i hl
      obtain ⟨hl, hq⟩ := hl
      subst hl
      obtain ⟨st', e1, rfl⟩ := sx_to_ok h
      refine sx_aast_ok hC hKn e1 (fun v b a S' hS => ?_) hd hP hle hpre (hW _ List.mem_cons_self)
      rw [hS] at hq
      simp only [sx_asq] at hq
      split at hq
      · rename_i z r g z' r' g' hg hg'
        simp only [Bool.and_eq_true, beq_iff_eq] at hq
        obtain ⟨⟨q1, q2⟩, q3⟩ := hq
        exact ⟨z, r, g, z', r', g', hg, hg', q1, q2, Option.isSome_iff_exists.mp q3⟩
      · cases hq
    · cases h
  · split at h
    · rename_i hl
      subst hl
      obtain ⟨st', e1, rfl⟩ := sx_to_ok h
      exact sx_newa_ok (atype := .int) hC hai (Or.inl ⟨rfl, rfl, rfl⟩) hb0 ⟨hR1, hR2⟩ e1 hd hP hle hpre (hW _ List.mem_cons_self)
    · cases h
  · split at h
    · rename_i hl
      subst hl
      obtain ⟨st', e1, rfl⟩ := sx_to_ok h
      exact sx_newa_ok (atype := .long) hC hal (Or.inr ⟨rfl, rfl, rfl⟩) hb0 ⟨hR1, hR2⟩ e1 hd hP hle hpre (hW _ List.mem_cons_self)
    · cases h
  · split at h
    · rename_i hl
      subst hl
      obtain ⟨st', e1, rfl⟩ := sx_to_ok h
      exact sx_newo_ok hC hKn hcl hCJ hcd.2.2.2.1 hb0 ⟨hR1, hR2⟩ e1 hd hP hle hpre (hW _ List.mem_cons_self)
    · cases h
  · split at h
    · rename_i hl
      subst hl
      obtain ⟨st', e1, rfl⟩ := sx_to_ok h
      exact sx_newq_ok hC hcd.2.2.2.2 hb0 ⟨hR1, hR2⟩ e1 hd hP hle hpre (hW _ List.mem_cons_self)
    · cases h
  · cases h
theorem sx_isbr_ok {len : Nat} (h : sx_isbr i len = true) : len = 3 ∨ (∃ a b c d, i = .tableswitch a b c d) ∨ ∃ a b, i = .lookupswitch a b := by
  unfold sx_isbr at h
  split at h
  · exact Or.inl (by simpa using h)
  · exact Or.inl (by simpa using h)
  · exact Or.inl (by simpa using h)
  · exact Or.inl (by simpa using h)
  · exact Or.inl (by simpa using h)
  · exact Or.inr (Or.inl ⟨_, _, _, _, rfl⟩)
  · exact Or.inr (Or.inr ⟨_, _, rfl⟩)
  · cases h
theorem sx_do_ok {CJ : List (List Nat)} {cd : sx_Cd} {rc rs len : Nat} {ini : Bool} {st : sx_St} {X : List (Nat × sx_St)} (hI : sx_In D cl RT CJ cd b0 nL rc rs ini p R s m args meth c cc own Ts) (h : sx_do cl cd RT CJ nL rc rs ini pc i len st = some X) (hd : decode cc pc = .ok (i, len))
    (hW : ∀ q ∈ X, sx_W FT D cl RT b0 nL p l e R s m args below meth c Q Sg0 ρ0 q.1 q.2) : sx_W FT D cl RT b0 nL p l e R s m args below meth c Q Sg0 ρ0 pc st := by
  unfold sx_do at h
  split at h
  · split at h
    · rename_i hbr
      exact sx_br_ok hI.1 h hd (sx_isbr_ok hbr) hW
    · cases h
  · exact sx_heap_ok hI h hd hW
  · split at h
    · rename_i n' st' hk
      split at h
      · rename_i hl
        subst hl
        cases h
        exact sx_pure_ok hI.1 hI.2.2.2.2.2.1.1 hI.2.2.2.2.2.1.2.1 hk hd (hW _ List.mem_cons_self)
      · cases h
    · cases h
end SX12
