/-! the methods that are walked by hand, stretches of places of one type; printed by program -/
theorem zmm190 : pm_m zMT zCDs zM190 zD12 := ⟨sx_at2_mem (i := 190) rfl, rfl⟩
theorem zn190 : zM190.1.2.2.1 = 4 := rfl
theorem zmm236 : pm_m zMT zCDs zM236 zD12 := ⟨sx_at2_mem (i := 236) rfl, rfl⟩
theorem zn236 : zM236.1.2.2.1 = 2 := rfl
theorem zmm237 : pm_m zMT zCDs zM237 zD12 := ⟨sx_at2_mem (i := 237) rfl, rfl⟩
theorem zn237 : zM237.1.2.2.1 = 2 := rfl
theorem zmm247 : pm_m zMT zCDs zM247 zD12 := ⟨sx_at2_mem (i := 247) rfl, rfl⟩
theorem zn247 : zM247.1.2.2.1 = 4 := rfl
theorem zmm250 : pm_m zMT zCDs zM250 zD12 := ⟨sx_at2_mem (i := 250) rfl, rfl⟩
theorem zn250 : zM250.1.2.2.1 = 3 := rfl
theorem zmm251 : pm_m zMT zCDs zM251 zD12 := ⟨sx_at2_mem (i := 251) rfl, rfl⟩
theorem zn251 : zM251.1.2.2.1 = 5 := rfl
theorem zmm254 : pm_m zMT zCDs zM254 zD12 := ⟨sx_at2_mem (i := 254) rfl, rfl⟩
theorem zn254 : zM254.1.2.2.1 = 2 := rfl
theorem zmm255 : pm_m zMT zCDs zM255 zD12 := ⟨sx_at2_mem (i := 255) rfl, rfl⟩
theorem zn255 : zM255.1.2.2.1 = 4 := rfl
theorem zmm256 : pm_m zMT zCDs zM256 zD12 := ⟨sx_at2_mem (i := 256) rfl, rfl⟩
theorem zn256 : zM256.1.2.2.1 = 3 := rfl
theorem zmm283 : pm_m zMT zCDs zM283 zD12 := ⟨sx_at2_mem (i := 283) rfl, rfl⟩
theorem zn283 : zM283.1.2.2.1 = 3 := rfl
set_option maxRecDepth 100000 in
theorem zp210_0 : zckp 210 5 0 150 (-2147483648) (2147483647) = true := by decide +kernel
set_option maxRecDepth 100000 in
theorem zp210_1 : zckp 210 5 1 150 (0) (11) = true := by decide +kernel
set_option maxRecDepth 100000 in
theorem zp210_2 : zckp 210 5 2 150 (0) (4) = true := by decide +kernel
set_option maxRecDepth 100000 in
theorem zp210_3 : zckp 210 5 3 150 (0) (17) = true := by decide +kernel
set_option maxRecDepth 100000 in
theorem zp210_4 : zckp 210 5 4 150 (-2147483648) (2147483647) = true := by decide +kernel
set_option maxRecDepth 100000 in
theorem zp222_0 : zckp 222 4 0 32 (-1) (999) = true := by decide +kernel
set_option maxRecDepth 100000 in
theorem zp222_1 : zckp 222 4 1 32 (0) (3) = true := by decide +kernel
set_option maxRecDepth 100000 in
theorem zp222_2 : zckp 222 4 2 32 (-1) (17) = true := by decide +kernel
set_option maxRecDepth 100000 in
theorem zp222_3 : zckp 222 4 3 32 (-1) (999) = true := by decide +kernel
set_option maxRecDepth 100000 in
theorem zs205_35 : zck 205 35 1 (0) (16) = true := by decide +kernel
set_option maxRecDepth 100000 in
theorem zs205_5 : zck 205 5 1 (0) (1) = true := by decide +kernel
set_option maxRecDepth 100000 in
theorem zs205_6 : zck 205 6 1 (0) (12) = true := by decide +kernel
set_option maxRecDepth 100000 in
theorem zs206_0 : zck 206 0 1 (-2147483648) (2147483647) = true := by decide +kernel
set_option maxRecDepth 100000 in
theorem zs206_1 : zck 206 1 1 (0) (11) = true := by decide +kernel
set_option maxRecDepth 100000 in
theorem zs206_106 : zck 206 106 18 (0) (12) = true := by decide +kernel
set_option maxRecDepth 100000 in
theorem zs206_124 : zck 206 124 36 (-2147483648) (2147483647) = true := by decide +kernel
set_option maxRecDepth 100000 in
theorem zs206_3 : zck 206 3 1 (0) (150) = true := by decide +kernel
set_option maxRecDepth 100000 in
theorem zs206_4 : zck 206 4 24 (0) (99) = true := by decide +kernel
set_option maxRecDepth 100000 in
theorem zs206_40 : zck 206 40 12 (0) (1) = true := by decide +kernel
set_option maxRecDepth 100000 in
theorem zs206_52 : zck 206 52 24 (0) (18) = true := by decide +kernel
set_option maxRecDepth 100000 in
theorem zs206_88 : zck 206 88 18 (-1000) (9999) = true := by decide +kernel
