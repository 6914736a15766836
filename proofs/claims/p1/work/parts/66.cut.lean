/-! a case that is run whole, or by a middle of which less is told, or cut by what the script's k-th int is -/
def zokn : Nat → Nat → sx_St → Prop
  | 0, pc, st => zrun pc st = true ∨ ∃ (pc' : Nat) (sg : List Nat) (mid : sx_St), zrunm (zmid pc' sg mid) pc st = true ∧ zrun pc' mid = true
  | n + 1, pc, st => zokn n pc st ∨ ∃ (k : Nat) (qs : List (Int × Int)), k < 6 ∧ sx_cov (-2147483648) 2147483647 qs = true ∧ st.1.1.1[0]? = some (2, 0, 0) ∧ ∀ q ∈ qs, zokn n pc (sx_pc1 0 k q st)
