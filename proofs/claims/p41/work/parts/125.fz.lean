/-! frozen fields: (region, field) (printed by wip/fz/fz.py) -/
def sx_Fz : List (Nat × Nat) := [(3, 0), (3, 1), (205, 6), (205, 7), (205, 70), (205, 11), (205, 31), (205, 32), (205, 3), (205, 5), (205, 33), (205, 35), (205, 37)]
def sx_fzn (r k : Nat) : Bool := sx_Fz.any (fun q => Nat.beq q.1 r && Nat.beq q.2 k)
