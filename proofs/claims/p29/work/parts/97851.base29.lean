/-! the methods that are walked by hand, stretches of places of one type; printed by program -/
theorem zmm96 : pm_m zMT zCDs zM96 zD11 := ⟨sx_at2_mem (i := 96) rfl, rfl⟩
theorem zn96 : zM96.1.2.2.1 = 2 := rfl
theorem zmm189 : pm_m zMT zCDs zM189 zD12 := ⟨sx_at2_mem (i := 189) rfl, rfl⟩
theorem zn189 : zM189.1.2.2.1 = 7 := rfl
theorem zmm271 : pm_m zMT zCDs zM271 zD5 := ⟨sx_at2_mem (i := 271) rfl, rfl⟩
theorem zn271 : zM271.1.2.2.1 = 7 := rfl
