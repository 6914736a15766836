/-! the runs -/
def zst0 : sx_St := ((([(2, 0, 0)], [], [], []), ([], [], 1)), ([(0, (2, (0, [])))], []), 0, 0)
def zk0 : sx_Ko := fun r _ nc ns => decide (r = some (0, (1, []))) && decide (nc ≤ 600000) && decide (ns ≤ 7302249)
def zbud : sx_Bu := (2048, 84000, 600000, 7302249)
noncomputable def zrun (pc : Nat) (st : sx_St) : Bool := sx_ex zCl (sxRT 6) sxCJ zMT zCDs zmac 100000 zM0 zbud [] (fun _ _ => false) pc st zk0
noncomputable def zck (pc : Nat) (st : sx_St) : Bool := match sx_fnd (fun c => Nat.beq c.1 pc) zCK with
  | some c => sx_inst c.2.1 c.2.2 st
  | none => false
noncomputable def zlaw (L : Nat) (cks : Nat → sx_St → Bool) : Bool := sx_ex zCl (sxRT L) sxCJ zMT zCDs zmac 100000 zM0 zbud [] cks 0 zst0 zk0
