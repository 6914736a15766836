/-! sx, states that tell less: fewer facts, other numbers for the symbols ('sg': the old number of each new symbol) -/
def sx_rnT (sg : List Nat) : List (Nat × Int) → Option (List (Nat × Int))
  | [] => some []
  | q :: t => match sg[q.1]?, sx_rnT sg t with
    | some z, some r => some ((z, q.2) :: r)
    | _, _ => none
def sx_rnA (sg : List Nat) (a : sx_AV) : Option sx_AV :=
  if a.1 = 2 then (if 0 ≤ a.2.1 then match sg[a.2.1.toNat]? with
    | some z => some (2, ((z : Int), []))
    | none => none
    else none) else match sx_rnT sg a.2.2 with
    | some t => some (a.1, (a.2.1, t))
    | none => none
def sx_rho (sg : List Nat) (ρ : List Value) : List Value := sg.map (fun z => ρ.getD z .null)
def sx_rnE (E : List sx_Ty) (z : Nat) (t : sx_Ty) : Bool := match E[z]? with
  | some u => u.1 == t.1 && (if t.1 ≤ 1 then decide (t.2.1 ≤ u.2.1) && decide (u.2.2 ≤ t.2.2) else if t.1 = 2 then decide (u.2.1 = t.2.1) else true)
  | none => false
def sx_rnEs (E : List sx_Ty) : List Nat → List sx_Ty → Bool
  | [], [] => true
  | z :: sg, t :: E' => sx_rnE E z t && sx_rnEs E sg E'
  | _, _ => false
def sx_rnS (sg : List Nat) : List sx_AV → List sx_AV → Bool
  | [], [] => true
  | a :: S, b :: S' => decide (sx_rnA sg b = some a) && sx_rnS sg S S'
  | _, _ => false
noncomputable def sx_inst (sg : List Nat) (st' st : sx_St) : Bool := match st', st with
  | (((E', C', N', U'), (F', A', n')), (L', S'), nc', ns'), (((E, _, _, _), (F, A, n)), (L, S), nc, ns) =>
    sx_rnEs E sg E' && C'.isEmpty && N'.isEmpty && U'.isEmpty &&
    F'.all (fun q => Nat.blt q.2.1 1048576 && (decide (sx_rnA sg q.2.2 = sx_fget F q.1 q.2.1) && (sx_rnA sg q.2.2).isSome)) &&
    A'.all (fun q => decide (sx_fnd (fun x => Nat.beq x.1 q.1) A = some q)) && Nat.beq n' n &&
    L'.all (fun q => decide (sx_rnA sg q.2 = sx_lk L q.1) && (sx_rnA sg q.2).isSome) && sx_rnS sg S S' && Nat.beq nc' nc && Nat.beq ns' ns
section SX18
variable {FT : Nat → List Int → Int} {D : va_G} {cl : List vw_C} {RT : Nat → Option sx_Rg} {b0 : sx_B} {nL : Nat} {p : Program} {l : Launch} {e : Env} {R : Room} {s : State} {m : MethodId} {args : Array Value} {below : List Frame} {meth : Method} {c : Code} {Q : State → Prop} {pc : Nat}
end SX18
