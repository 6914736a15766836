/-! the cases -/
def zst0 : sx_St := ((([(2, 0, 0)], [], [], []), ([], [], 1)), ([(0, (2, (0, [])))], []), 0, 0)
def zk0 : sx_Ko := fun r _ _ _ => decide (r = some (0, (1, [])))
def zmac : sx_Mac := fun _ _ _ _ _ => none
def zbud : sx_Bu := (2048, 84000, 600000, 7302249)
noncomputable def zrun (pc : Nat) (st : sx_St) : Bool := sx_ex zCl (sxRT 6) sxCJ zMT zCDs zmac 100000 zM0 zbud [] (fun _ _ => false) pc st zk0
