/-! the methods that are walked by hand, stretches of places of one type; printed by program -/
theorem zmm80 : pm_m zMT zCDs zM80 zD11 := ⟨sx_at2_mem (i := 80) rfl, rfl⟩
theorem zn80 : zM80.1.2.2.1 = 2 := rfl
theorem zmm81 : pm_m zMT zCDs zM81 zD5 := ⟨sx_at2_mem (i := 81) rfl, rfl⟩
theorem zn81 : zM81.1.2.2.1 = 9 := rfl
theorem zmm267 : pm_m zMT zCDs zM267 zD5 := ⟨sx_at2_mem (i := 267) rfl, rfl⟩
theorem zn267 : zM267.1.2.2.1 = 5 := rfl
theorem zmm268 : pm_m zMT zCDs zM268 zD14 := ⟨sx_at2_mem (i := 268) rfl, rfl⟩
theorem zn268 : zM268.1.2.2.1 = 1 := rfl
theorem zmm269 : pm_m zMT zCDs zM269 zD5 := ⟨sx_at2_mem (i := 269) rfl, rfl⟩
theorem zn269 : zM269.1.2.2.1 = 4 := rfl
