/-! the methods that are walked by hand, stretches of places of one type; printed by program -/
theorem zmm105 : pm_m zMT zCDs zM105 zD11 := ⟨sx_at2_mem (i := 105) rfl, rfl⟩
theorem zn105 : zM105.1.2.2.1 = 2 := rfl
theorem zmm106 : pm_m zMT zCDs zM106 zD5 := ⟨sx_at2_mem (i := 106) rfl, rfl⟩
theorem zn106 : zM106.1.2.2.1 = 5 := rfl
theorem zmm107 : pm_m zMT zCDs zM107 zD5 := ⟨sx_at2_mem (i := 107) rfl, rfl⟩
theorem zn107 : zM107.1.2.2.1 = 5 := rfl
theorem zmm194 : pm_m zMT zCDs zM194 zD12 := ⟨sx_at2_mem (i := 194) rfl, rfl⟩
theorem zn194 : zM194.1.2.2.1 = 5 := rfl
theorem zmm195 : pm_m zMT zCDs zM195 zD12 := ⟨sx_at2_mem (i := 195) rfl, rfl⟩
theorem zn195 : zM195.1.2.2.1 = 5 := rfl
