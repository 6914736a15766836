/-! the methods that are walked by hand, stretches of places of one type; printed by program -/
theorem zmm152 : pm_m zMT zCDs zM152 zD12 := ⟨sx_at2_mem (i := 152) rfl, rfl⟩
theorem zn152 : zM152.1.2.2.1 = 4 := rfl
theorem zmm181 : pm_m zMT zCDs zM181 zD12 := ⟨sx_at2_mem (i := 181) rfl, rfl⟩
theorem zn181 : zM181.1.2.2.1 = 4 := rfl
theorem zmm182 : pm_m zMT zCDs zM182 zD12 := ⟨sx_at2_mem (i := 182) rfl, rfl⟩
theorem zn182 : zM182.1.2.2.1 = 5 := rfl
theorem zmm183 : pm_m zMT zCDs zM183 zD12 := ⟨sx_at2_mem (i := 183) rfl, rfl⟩
theorem zn183 : zM183.1.2.2.1 = 6 := rfl
set_option maxRecDepth 100000 in
theorem zs236_0 : zck 236 0 10 (-1) (9) = true := by decide +kernel
