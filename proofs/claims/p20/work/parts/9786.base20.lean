/-! the methods that are walked by hand, stretches of places of one type; printed by program -/
theorem zmm79 : pm_m zMT zCDs zM79 zD11 := ⟨sx_at2_mem (i := 79) rfl, rfl⟩
theorem zn79 : zM79.1.2.2.1 = 5 := rfl
theorem zmm174 : pm_m zMT zCDs zM174 zD12 := ⟨sx_at2_mem (i := 174) rfl, rfl⟩
theorem zn174 : zM174.1.2.2.1 = 5 := rfl
set_option maxRecDepth 100000 in
theorem zs31_1 : zck 31 1 1 (0) (4) = true := by decide +kernel
set_option maxRecDepth 100000 in
theorem zs32_0 : zck 32 0 4 (-99) (99) = true := by decide +kernel
