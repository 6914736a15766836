/-! all contracts, the frozen fields as in any memory -/
def zAll (D : va_G) (ST : List (String × String × String × Nat)) (B0 : Nat → Prop) (l : Launch) (Sg : Nat → Option Nat) : Prop := ∀ (φ : Option pm_Mem) (j : Nat) (ct : sx_Ct), sx_at2 zCT2 j = some ct → zCK φ D ST B0 l Sg ct
