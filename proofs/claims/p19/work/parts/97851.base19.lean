/-! the methods that are walked by hand, stretches of places of one type; printed by program -/
theorem zmm75 : pm_m zMT zCDs zM75 zD11 := ⟨sx_at2_mem (i := 75) rfl, rfl⟩
theorem zn75 : zM75.1.2.2.1 = 3 := rfl
theorem zmm78 : pm_m zMT zCDs zM78 zD5 := ⟨sx_at2_mem (i := 78) rfl, rfl⟩
theorem zn78 : zM78.1.2.2.1 = 7 := rfl
