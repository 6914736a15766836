/-! the lanes and their image in the class: what stays -/
def zLf (μ μ' : pm_Mem) : Prop := (μ' 26 2 = μ 26 2 ∧ μ' 69 2 = μ 69 2) ∧ ∀ i : Int, 0 ≤ i → i < 64 → μ' 27 i = μ 27 i ∧ μ' 70 i = μ 70 i
def zLo : List (Nat × Nat) := [(26, 2), (69, 2)]
def zLr2 : List (Nat × Nat) := [(27, 64), (70, 64)]
noncomputable def zLok (W : Nat) : Bool := zLo.all (fun q => zfrc W q.1 q.2) && zRak W zLr2
/-- whence the lanes and their image come -/
def zLs_TT (a b : Nat) (μ0 μ : pm_Mem) : Prop := (μ 26 2 = μ0 a 2 ∧ ∀ i : Int, 0 ≤ i → i < 64 → μ 27 i = μ0 (a + 1) i) ∧ (μ 69 2 = μ0 b 2 ∧ ∀ i : Int, 0 ≤ i → i < 64 → μ 70 i = μ0 (b + 1) i)
/-- the image: whence -/
def zIML (b : Int) (μ μ' : pm_Mem) : Prop := (b ≠ 0 → zLs_TT 26 26 μ μ') ∧ (b = 0 → μ 1 2 = 0 → zLs_TT 26 69 μ μ') ∧ (b = 0 → μ 1 2 ≠ 0 → zLs_TT 69 69 μ μ')
