/-! the methods that are walked by hand, stretches of places of one type; printed by program -/
theorem zmm89 : pm_m zMT zCDs zM89 zD11 := ⟨sx_at2_mem (i := 89) rfl, rfl⟩
theorem zn89 : zM89.1.2.2.1 = 4 := rfl
theorem zmm90 : pm_m zMT zCDs zM90 zD5 := ⟨sx_at2_mem (i := 90) rfl, rfl⟩
theorem zn90 : zM90.1.2.2.1 = 7 := rfl
theorem zmm184 : pm_m zMT zCDs zM184 zD12 := ⟨sx_at2_mem (i := 184) rfl, rfl⟩
theorem zn184 : zM184.1.2.2.1 = 6 := rfl
theorem zmm185 : pm_m zMT zCDs zM185 zD12 := ⟨sx_at2_mem (i := 185) rfl, rfl⟩
theorem zn185 : zM185.1.2.2.1 = 5 := rfl
