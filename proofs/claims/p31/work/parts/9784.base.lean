/-! the methods that are walked by hand, stretches of places of one type; printed by program -/
theorem zmm108 : pm_m zMT zCDs zM108 zD11 := ⟨sx_at2_mem (i := 108) rfl, rfl⟩
theorem zn108 : zM108.1.2.2.1 = 2 := rfl
theorem zmm109 : pm_m zMT zCDs zM109 zD5 := ⟨sx_at2_mem (i := 109) rfl, rfl⟩
theorem zn109 : zM109.1.2.2.1 = 8 := rfl
theorem zmm196 : pm_m zMT zCDs zM196 zD12 := ⟨sx_at2_mem (i := 196) rfl, rfl⟩
theorem zn196 : zM196.1.2.2.1 = 5 := rfl
theorem zmm197 : pm_m zMT zCDs zM197 zD12 := ⟨sx_at2_mem (i := 197) rfl, rfl⟩
theorem zn197 : zM197.1.2.2.1 = 3 := rfl
set_option maxRecDepth 100000 in
theorem zs242_0 : zck 242 0 124 (0) (1000000006) = true := by decide +kernel
