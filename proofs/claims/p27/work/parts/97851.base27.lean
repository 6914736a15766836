/-! the methods that are walked by hand, stretches of places of one type; printed by program -/
theorem zmm92 : pm_m zMT zCDs zM92 zD11 := ⟨sx_at2_mem (i := 92) rfl, rfl⟩
theorem zn92 : zM92.1.2.2.1 = 2 := rfl
theorem zmm93 : pm_m zMT zCDs zM93 zD5 := ⟨sx_at2_mem (i := 93) rfl, rfl⟩
theorem zn93 : zM93.1.2.2.1 = 7 := rfl
theorem zmm94 : pm_m zMT zCDs zM94 zD5 := ⟨sx_at2_mem (i := 94) rfl, rfl⟩
theorem zn94 : zM94.1.2.2.1 = 10 := rfl
theorem zmm152 : pm_m zMT zCDs zM152 zD12 := ⟨sx_at2_mem (i := 152) rfl, rfl⟩
theorem zn152 : zM152.1.2.2.1 = 4 := rfl
theorem zmm187 : pm_m zMT zCDs zM187 zD12 := ⟨sx_at2_mem (i := 187) rfl, rfl⟩
theorem zn187 : zM187.1.2.2.1 = 6 := rfl
theorem zmm270 : pm_m zMT zCDs zM270 zD5 := ⟨sx_at2_mem (i := 270) rfl, rfl⟩
theorem zn270 : zM270.1.2.2.1 = 5 := rfl
theorem zmm321 : pm_m zMT zCDs zM321 zD12 := ⟨sx_at2_mem (i := 321) rfl, rfl⟩
theorem zn321 : zM321.1.2.2.1 = 4 := rfl
set_option maxRecDepth 100000 in
theorem zs238_0 : zck 238 0 256 (-2147483648) (100000000) = true := by decide +kernel
