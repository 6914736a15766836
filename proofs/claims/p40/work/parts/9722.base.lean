/-! the methods that are walked by hand, stretches of places of one type; printed by program -/
theorem zmm91 : pm_m zMT zCDs zM91 zD11 := ⟨sx_at2_mem (i := 91) rfl, rfl⟩
theorem zn91 : zM91.1.2.2.1 = 2 := rfl
theorem zmm95 : pm_m zMT zCDs zM95 zD11 := ⟨sx_at2_mem (i := 95) rfl, rfl⟩
theorem zn95 : zM95.1.2.2.1 = 2 := rfl
theorem zmm104 : pm_m zMT zCDs zM104 zD11 := ⟨sx_at2_mem (i := 104) rfl, rfl⟩
theorem zn104 : zM104.1.2.2.1 = 2 := rfl
theorem zmm112 : pm_m zMT zCDs zM112 zD11 := ⟨sx_at2_mem (i := 112) rfl, rfl⟩
theorem zn112 : zM112.1.2.2.1 = 2 := rfl
theorem zmm180 : pm_m zMT zCDs zM180 zD12 := ⟨sx_at2_mem (i := 180) rfl, rfl⟩
theorem zn180 : zM180.1.2.2.1 = 3 := rfl
theorem zmm186 : pm_m zMT zCDs zM186 zD12 := ⟨sx_at2_mem (i := 186) rfl, rfl⟩
theorem zn186 : zM186.1.2.2.1 = 2 := rfl
theorem zmm188 : pm_m zMT zCDs zM188 zD12 := ⟨sx_at2_mem (i := 188) rfl, rfl⟩
theorem zn188 : zM188.1.2.2.1 = 2 := rfl
theorem zmm193 : pm_m zMT zCDs zM193 zD12 := ⟨sx_at2_mem (i := 193) rfl, rfl⟩
theorem zn193 : zM193.1.2.2.1 = 2 := rfl
theorem zmm200 : pm_m zMT zCDs zM200 zD12 := ⟨sx_at2_mem (i := 200) rfl, rfl⟩
theorem zn200 : zM200.1.2.2.1 = 2 := rfl
set_option maxRecDepth 100000 in
theorem zs205_52 : zck 205 52 1 (0) (10) = true := by decide +kernel
set_option maxRecDepth 100000 in
theorem zs205_56 : zck 205 56 1 (0) (8) = true := by decide +kernel
set_option maxRecDepth 100000 in
theorem zs205_59 : zck 205 59 1 (0) (12) = true := by decide +kernel
set_option maxRecDepth 100000 in
theorem zs205_63 : zck 205 63 1 (0) (10) = true := by decide +kernel
set_option maxRecDepth 100000 in
theorem zs205_67 : zck 205 67 1 (0) (8) = true := by decide +kernel
set_option maxRecDepth 100000 in
theorem zs234_0 : zck 234 0 10 (0) (20) = true := by decide +kernel
set_option maxRecDepth 100000 in
theorem zs235_0 : zck 235 0 10 (0) (99) = true := by decide +kernel
set_option maxRecDepth 100000 in
theorem zs237_0 : zck 237 0 8 (0) (99) = true := by decide +kernel
set_option maxRecDepth 100000 in
theorem zs239_0 : zck 239 0 12 (-99) (99) = true := by decide +kernel
set_option maxRecDepth 100000 in
theorem zs241_0 : zck 241 0 10 (0) (99) = true := by decide +kernel
set_option maxRecDepth 100000 in
theorem zs244_0 : zck 244 0 8 (0) (99) = true := by decide +kernel
set_option maxRecDepth 100000 in
theorem zs37_1 : zck 37 1 1 (0) (8) = true := by decide +kernel
set_option maxRecDepth 100000 in
theorem zs38_0 : zck 38 0 8 (0) (99) = true := by decide +kernel
set_option maxRecDepth 100000 in
theorem zs39_1 : zck 39 1 1 (0) (12) = true := by decide +kernel
set_option maxRecDepth 100000 in
theorem zs40_0 : zck 40 0 12 (-99) (99) = true := by decide +kernel
set_option maxRecDepth 100000 in
theorem zs41_1 : zck 41 1 1 (0) (10) = true := by decide +kernel
set_option maxRecDepth 100000 in
theorem zs42_0 : zck 42 0 10 (0) (99) = true := by decide +kernel
set_option maxRecDepth 100000 in
theorem zs43_1 : zck 43 1 1 (0) (8) = true := by decide +kernel
set_option maxRecDepth 100000 in
theorem zs44_0 : zck 44 0 8 (0) (99) = true := by decide +kernel
set_option maxRecDepth 100000 in
theorem zs80_1 : zck 80 1 1 (0) (8) = true := by decide +kernel
set_option maxRecDepth 100000 in
theorem zs82_1 : zck 82 1 1 (0) (12) = true := by decide +kernel
set_option maxRecDepth 100000 in
theorem zs84_1 : zck 84 1 1 (0) (10) = true := by decide +kernel
set_option maxRecDepth 100000 in
theorem zs86_1 : zck 86 1 1 (0) (8) = true := by decide +kernel
