/-! the methods that are walked by hand, stretches of places of one type; printed by program -/
theorem zmm97 : pm_m zMT zCDs zM97 zD11 := ⟨sx_at2_mem (i := 97) rfl, rfl⟩
theorem zn97 : zM97.1.2.2.1 = 5 := rfl
theorem zmm98 : pm_m zMT zCDs zM98 zD5 := ⟨sx_at2_mem (i := 98) rfl, rfl⟩
theorem zn98 : zM98.1.2.2.1 = 6 := rfl
theorem zmm99 : pm_m zMT zCDs zM99 zD14 := ⟨sx_at2_mem (i := 99) rfl, rfl⟩
theorem zn99 : zM99.1.2.2.1 = 3 := rfl
theorem zmm155 : pm_m zMT zCDs zM155 zD12 := ⟨sx_at2_mem (i := 155) rfl, rfl⟩
theorem zn155 : zM155.1.2.2.1 = 5 := rfl
theorem zmm190 : pm_m zMT zCDs zM190 zD12 := ⟨sx_at2_mem (i := 190) rfl, rfl⟩
theorem zn190 : zM190.1.2.2.1 = 5 := rfl
theorem zmm191 : pm_m zMT zCDs zM191 zD12 := ⟨sx_at2_mem (i := 191) rfl, rfl⟩
theorem zn191 : zM191.1.2.2.1 = 6 := rfl
theorem zmm238 : pm_m zMT zCDs zM238 zD6 := ⟨sx_at2_mem (i := 238) rfl, rfl⟩
theorem zn238 : zM238.1.2.2.1 = 6 := rfl
theorem zmm239 : pm_m zMT zCDs zM239 zD6 := ⟨sx_at2_mem (i := 239) rfl, rfl⟩
theorem zn239 : zM239.1.2.2.1 = 5 := rfl
set_option maxRecDepth 100000 in
theorem zp221_0 : zckp 221 3 0 32 (-1) (17) = true := by decide +kernel
set_option maxRecDepth 100000 in
theorem zp221_1 : zckp 221 3 1 32 (-1) (11) = true := by decide +kernel
set_option maxRecDepth 100000 in
theorem zp221_2 : zckp 221 3 2 32 (0) (12) = true := by decide +kernel
