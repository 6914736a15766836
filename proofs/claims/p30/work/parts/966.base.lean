/-! the methods that are walked by hand, stretches of places of one type; printed by program -/
theorem zmm238 : pm_m zMT zCDs zM238 zD6 := ⟨sx_at2_mem (i := 238) rfl, rfl⟩
theorem zn238 : zM238.1.2.2.1 = 6 := rfl
theorem zmm239 : pm_m zMT zCDs zM239 zD6 := ⟨sx_at2_mem (i := 239) rfl, rfl⟩
theorem zn239 : zM239.1.2.2.1 = 5 := rfl
