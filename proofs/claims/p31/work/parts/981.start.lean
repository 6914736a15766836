/-! the law's start: run to its loop's head; there the world is of the contracts' types -/
def zst0 : sx_St := ((([(3, 0, 0)], [], [], []), ([], [], 1)), ([(0, (2, (0, [])))], []), 0, 0)
def zk0 : sx_Ko := fun _ _ _ _ => false
def zbud : sx_Bu := (2048, 84000, 600000, 7302249)
noncomputable def ztysub (t1 t2 : sx_Ty) : Bool := (Nat.beq t1.1 t2.1 && Nat.ble t1.1 1 && decide (t2.2.1 ≤ t1.2.1) && decide (t1.2.2 ≤ t2.2.2)) || (Nat.beq t2.1 3 && Nat.beq t1.1 3)
noncomputable def zavty (E : List sx_Ty) (a : sx_AV) (t2 : sx_Ty) : Bool := match a.1 with
  | 0 => a.2.2.isEmpty && Nat.beq t2.1 0 && decide (t2.2.1 ≤ a.2.1) && decide (a.2.1 ≤ t2.2.2)
  | 1 => a.2.2.isEmpty && Nat.beq t2.1 1 && decide (t2.2.1 ≤ a.2.1) && decide (a.2.1 ≤ t2.2.2)
  | 2 => (match E[a.2.1.toNat]? with
    | some t => Nat.beq t.1 2 && Nat.beq t2.1 2 && decide (t.2.1 = t2.2.1) && decide (1 ≤ t2.2.1) && decide (t2.2.1 ≤ 245)
    | none => false)
  | _ => false
noncomputable def zslot (E : List sx_Ty) (F : List (Nat × Nat × sx_AV)) (r k : Nat) (t2 : sx_Ty) : Bool := Nat.blt k 1048576 && (match sx_fget F r k with
  | some a => zavty E a t2
  | none => false)
noncomputable def zregU (A : List (Nat × sx_Ty × List Nat)) (r : Nat) (g2 : sx_Rg) : Bool := match sx_fnd (fun q => Nat.beq q.1 r) A with
  | some q => q.2.2.isEmpty && !(Nat.beq g2.1 0) && g2.2.2.2.all (ztysub q.2.1) && Nat.blt 0 g2.2.2.2.length
  | none => false
noncomputable def zregF (E : List sx_Ty) (F : List (Nat × Nat × sx_AV)) (r : Nat) (g2 : sx_Rg) : Bool := (List.range (sx_wd g2)).all (fun k => match sx_ft g2 k with
    | some t2 => zslot E F r k t2
    | none => false)
noncomputable def zreg (E : List sx_Ty) (F : List (Nat × Nat × sx_AV)) (A : List (Nat × sx_Ty × List Nat)) (r : Nat) (g1 g2 : sx_Rg) : Bool := Nat.beq g1.1 g2.1 && Nat.beq g1.2.1 g2.2.1 && (Nat.ble g2.1 2 || Nat.beq g1.2.2.1 g2.2.2.1) && (Nat.beq g2.1 3 || Nat.beq g1.2.2.1 0) && Nat.beq (sx_wd g1) (sx_wd g2) && (match F.any (fun q => Nat.beq q.1 r) with
  | true => zregF E F r g2
  | false => zregU A r g2)
noncomputable def zrtck (st : sx_St) : Bool := match st with
  | (((E, C, N, U), (F, A, n)), (L, S), nc, ns) => Nat.beq n 246 && Nat.beq nc 245 && Nat.ble ns 200000 && S.isEmpty && decide (sx_lk L 0 = some (2, (0, []))) && decide (sx_lk L 1 = some (2, (1, []))) && decide (sx_lk L 2 = some (2, (205, []))) && decide (sx_lk L 3 = some (0, (0, []))) && (List.range 245).all (fun z => match E[z + 1]?, sxRT 6 (z + 1), zRT2 (z + 1) with
        | some t, some g1, some g2 => Nat.beq t.1 2 && decide (t.2.1 = ((z + 1 : Nat) : Int)) && zreg E F A (z + 1) g1 g2
        | _, _, _ => false) && [213, 222, 245].all (fun r => match sx_fnd (fun q => Nat.beq q.1 r) A with
        | some q => q.2.2.isEmpty && decide (q.2.1 = (0, 0, 0))
        | none => false) && [33, 35, 76, 78].all (fun r => match sx_fget F r 1 with
        | some a => decide (a = (0, (0, [])))
        | none => false)
set_option maxRecDepth 100000 in
theorem zA18 : sx_ex zCl (sxRT 6) sxCJ zMT zCDs (fun _ _ _ _ _ => none) 100000 zM0 zbud [] (fun pc st => Nat.beq pc 18 && zrtck st) 0 zst0 zk0 = true := by decide +kernel
