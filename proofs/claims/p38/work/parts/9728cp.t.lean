/-! the methods that are walked by hand, stretches of places of one type; printed by program -/
theorem zmm115 : pm_m zMT zCDs zM115 zD11 := ⟨sx_at2_mem (i := 115) rfl, rfl⟩
theorem zmm116 : pm_m zMT zCDs zM116 zD5 := ⟨sx_at2_mem (i := 116) rfl, rfl⟩
theorem zn116 : zM116.1.2.2.1 = 9 := rfl
theorem zmm202 : pm_m zMT zCDs zM202 zD12 := ⟨sx_at2_mem (i := 202) rfl, rfl⟩
theorem zmm273 : pm_m zMT zCDs zM273 zD5 := ⟨sx_at2_mem (i := 273) rfl, rfl⟩
theorem zn273 : zM273.1.2.2.1 = 2 := rfl
theorem zmm324 : pm_m zMT zCDs zM324 zD12 := ⟨sx_at2_mem (i := 324) rfl, rfl⟩
theorem zn324 : zM324.1.2.2.1 = 8 := rfl
