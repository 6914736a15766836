/-! the methods that are walked by hand, stretches of places of one type; printed by program -/
theorem zmm155 : pm_m zMT zCDs zM155 zD12 := ⟨sx_at2_mem (i := 155) rfl, rfl⟩
theorem zn155 : zM155.1.2.2.1 = 5 := rfl
theorem zmm238 : pm_m zMT zCDs zM238 zD6 := ⟨sx_at2_mem (i := 238) rfl, rfl⟩
theorem zn238 : zM238.1.2.2.1 = 6 := rfl
theorem zmm239 : pm_m zMT zCDs zM239 zD6 := ⟨sx_at2_mem (i := 239) rfl, rfl⟩
theorem zn239 : zM239.1.2.2.1 = 5 := rfl
set_option maxRecDepth 100000 in
theorem zp221_0 : zckp 221 3 0 32 (-1) (17) = true := by decide +kernel
set_option maxRecDepth 100000 in
theorem zp221_1 : zckp 221 3 1 32 (-1) (11) = true := by decide +kernel
set_option maxRecDepth 100000 in
theorem zp221_2 : zckp 221 3 2 32 (0) (12) = true := by decide +kernel
