/-! the methods that are walked by hand, stretches of places of one type; printed by program -/
theorem zmm62 : pm_m zMT zCDs zM62 zD11 := ⟨sx_at2_mem (i := 62) rfl, rfl⟩
theorem zmm63 : pm_m zMT zCDs zM63 zD1 := ⟨sx_at2_mem (i := 63) rfl, rfl⟩
theorem zn63 : zM63.1.2.2.1 = 7 := rfl
theorem zmm64 : pm_m zMT zCDs zM64 zD1 := ⟨sx_at2_mem (i := 64) rfl, rfl⟩
theorem zn64 : zM64.1.2.2.1 = 3 := rfl
theorem zmm65 : pm_m zMT zCDs zM65 zD16 := ⟨sx_at2_mem (i := 65) rfl, rfl⟩
theorem zn65 : zM65.1.2.2.1 = 5 := rfl
theorem zmm66 : pm_m zMT zCDs zM66 zD1 := ⟨sx_at2_mem (i := 66) rfl, rfl⟩
theorem zn66 : zM66.1.2.2.1 = 1 := rfl
theorem zmm67 : pm_m zMT zCDs zM67 zD1 := ⟨sx_at2_mem (i := 67) rfl, rfl⟩
theorem zn67 : zM67.1.2.2.1 = 2 := rfl
theorem zmm261 : pm_m zMT zCDs zM261 zD1 := ⟨sx_at2_mem (i := 261) rfl, rfl⟩
theorem zn261 : zM261.1.2.2.1 = 3 := rfl
theorem zmm262 : pm_m zMT zCDs zM262 zD14 := ⟨sx_at2_mem (i := 262) rfl, rfl⟩
theorem zn262 : zM262.1.2.2.1 = 4 := rfl
set_option maxRecDepth 100000 in
theorem zs195_2 : zck 195 2 1 (0) (255) = true := by decide +kernel
set_option maxRecDepth 100000 in
theorem zs196_0 : zgk 196 0 256 (-9223372036854775808) (9223372036854775807) = true := by decide +kernel
set_option maxRecDepth 100000 in
theorem zs197_0 : zgk 197 0 8 (-9223372036854775808) (9223372036854775807) = true := by decide +kernel
