/-! the law's own run: to the switch, where each case's state tells less than what stands there -/
noncomputable def zck (pc : Nat) (st : sx_St) : Bool := match sx_fnd (fun c => Nat.beq c.1 pc) zCK with
  | some c => sx_inst c.2.1 c.2.2 st
  | none => false
noncomputable def zlaw (L : Nat) : Bool := sx_ex zCl (sxRT L) sxCJ zMT zCDs zmac 100000 zM0 zbud [] zck 0 zst0 zk0
set_option maxRecDepth 100000 in
theorem zA6 : zlaw 6 = true := by decide +kernel
