/-! frozen fields: (region, field) (printed by wip/fz/fz.py) -/
def sx_Fz : List (Nat × Nat) := [(205, 52), (205, 56), (205, 59), (205, 63), (205, 67), (205, 70)]
def sx_fzn (r k : Nat) : Bool := sx_Fz.any (fun q => Nat.beq q.1 r && Nat.beq q.2 k)
