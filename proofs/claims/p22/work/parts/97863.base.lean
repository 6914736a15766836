/-! the methods that are walked by hand, stretches of places of one type; printed by program -/
theorem zmm82 : pm_m zMT zCDs zM82 zD11 := ⟨sx_at2_mem (i := 82) rfl, rfl⟩
theorem zn82 : zM82.1.2.2.1 = 4 := rfl
theorem zmm83 : pm_m zMT zCDs zM83 zD5 := ⟨sx_at2_mem (i := 83) rfl, rfl⟩
theorem zn83 : zM83.1.2.2.1 = 7 := rfl
theorem zmm179 : pm_m zMT zCDs zM179 zD12 := ⟨sx_at2_mem (i := 179) rfl, rfl⟩
theorem zn179 : zM179.1.2.2.1 = 7 := rfl
set_option maxRecDepth 100000 in
theorem zs233_0 : zck 233 0 100 (0) (99) = true := by decide +kernel
