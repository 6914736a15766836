/-! the methods that are walked by hand, stretches of places of one type; printed by program -/
theorem zmm113 : pm_m zMT zCDs zM113 zD11 := ⟨sx_at2_mem (i := 113) rfl, rfl⟩
theorem zn113 : zM113.1.2.2.1 = 1 := rfl
theorem zmm114 : pm_m zMT zCDs zM114 zD5 := ⟨sx_at2_mem (i := 114) rfl, rfl⟩
theorem zn114 : zM114.1.2.2.1 = 5 := rfl
theorem zmm201 : pm_m zMT zCDs zM201 zD12 := ⟨sx_at2_mem (i := 201) rfl, rfl⟩
theorem zn201 : zM201.1.2.2.1 = 5 := rfl
theorem zmm268 : pm_m zMT zCDs zM268 zD14 := ⟨sx_at2_mem (i := 268) rfl, rfl⟩
theorem zn268 : zM268.1.2.2.1 = 1 := rfl
theorem zmm323 : pm_m zMT zCDs zM323 zD12 := ⟨sx_at2_mem (i := 323) rfl, rfl⟩
theorem zn323 : zM323.1.2.2.1 = 3 := rfl
