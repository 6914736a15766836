/-! the methods that are walked by hand, stretches of places of one type; printed by program -/
theorem zmm42 : pm_m zMT zCDs zM42 zD11 := ⟨sx_at2_mem (i := 42) rfl, rfl⟩
theorem zn42 : zM42.1.2.2.1 = 6 := rfl
theorem zmm43 : pm_m zMT zCDs zM43 zD6 := ⟨sx_at2_mem (i := 43) rfl, rfl⟩
theorem zn43 : zM43.1.2.2.1 = 2 := rfl
theorem zmm44 : pm_m zMT zCDs zM44 zD6 := ⟨sx_at2_mem (i := 44) rfl, rfl⟩
theorem zn44 : zM44.1.2.2.1 = 3 := rfl
theorem zmm45 : pm_m zMT zCDs zM45 zD11 := ⟨sx_at2_mem (i := 45) rfl, rfl⟩
theorem zn45 : zM45.1.2.2.1 = 2 := rfl
theorem zmm46 : pm_m zMT zCDs zM46 zD11 := ⟨sx_at2_mem (i := 46) rfl, rfl⟩
theorem zn46 : zM46.1.2.2.1 = 3 := rfl
theorem zmm47 : pm_m zMT zCDs zM47 zD10 := ⟨sx_at2_mem (i := 47) rfl, rfl⟩
theorem zn47 : zM47.1.2.2.1 = 2 := rfl
theorem zmm48 : pm_m zMT zCDs zM48 zD6 := ⟨sx_at2_mem (i := 48) rfl, rfl⟩
theorem zn48 : zM48.1.2.2.1 = 1 := rfl
theorem zmm49 : pm_m zMT zCDs zM49 zD6 := ⟨sx_at2_mem (i := 49) rfl, rfl⟩
theorem zn49 : zM49.1.2.2.1 = 5 := rfl
theorem zmm50 : pm_m zMT zCDs zM50 zD9 := ⟨sx_at2_mem (i := 50) rfl, rfl⟩
theorem zn50 : zM50.1.2.2.1 = 1 := rfl
theorem zmm51 : pm_m zMT zCDs zM51 zD6 := ⟨sx_at2_mem (i := 51) rfl, rfl⟩
theorem zn51 : zM51.1.2.2.1 = 2 := rfl
theorem zmm53 : pm_m zMT zCDs zM53 zD6 := ⟨sx_at2_mem (i := 53) rfl, rfl⟩
theorem zn53 : zM53.1.2.2.1 = 1 := rfl
theorem zmm134 : pm_m zMT zCDs zM134 zD12 := ⟨sx_at2_mem (i := 134) rfl, rfl⟩
theorem zn134 : zM134.1.2.2.1 = 6 := rfl
theorem zmm135 : pm_m zMT zCDs zM135 zD12 := ⟨sx_at2_mem (i := 135) rfl, rfl⟩
theorem zn135 : zM135.1.2.2.1 = 3 := rfl
theorem zmm136 : pm_m zMT zCDs zM136 zD12 := ⟨sx_at2_mem (i := 136) rfl, rfl⟩
theorem zn136 : zM136.1.2.2.1 = 2 := rfl
theorem zmm241 : pm_m zMT zCDs zM241 zD6 := ⟨sx_at2_mem (i := 241) rfl, rfl⟩
theorem zn241 : zM241.1.2.2.1 = 4 := rfl
theorem zmm244 : pm_m zMT zCDs zM244 zD6 := ⟨sx_at2_mem (i := 244) rfl, rfl⟩
theorem zn244 : zM244.1.2.2.1 = 1 := rfl
theorem zmm254 : pm_m zMT zCDs zM254 zD6 := ⟨sx_at2_mem (i := 254) rfl, rfl⟩
theorem zn254 : zM254.1.2.2.1 = 2 := rfl
theorem zmm255 : pm_m zMT zCDs zM255 zD6 := ⟨sx_at2_mem (i := 255) rfl, rfl⟩
theorem zn255 : zM255.1.2.2.1 = 2 := rfl
set_option maxRecDepth 100000 in
theorem zs17_2 : zck 17 2 1 (-2147483648) (2147483647) = true := by decide +kernel
set_option maxRecDepth 100000 in
theorem zs20_2 : zck 20 2 1 (-2147483648) (2147483647) = true := by decide +kernel
set_option maxRecDepth 100000 in
theorem zs23_2 : zck 23 2 1 (-2147483648) (2147483647) = true := by decide +kernel
set_option maxRecDepth 100000 in
theorem zs26_2 : zck 26 2 1 (-2147483648) (2147483647) = true := by decide +kernel
set_option maxRecDepth 100000 in
theorem zs3_0 : zck 3 0 1 (0) (12) = true := by decide +kernel
set_option maxRecDepth 100000 in
theorem zs3_1 : zck 3 1 1 (0) (18) = true := by decide +kernel
set_option maxRecDepth 100000 in
theorem zs88_1 : zck 88 1 1 (0) (400) = true := by decide +kernel
set_option maxRecDepth 100000 in
theorem zs88_10 : zck 88 10 1 (0) (18) = true := by decide +kernel
set_option maxRecDepth 100000 in
theorem zs88_2 : zck 88 2 1 (0) (3) = true := by decide +kernel
set_option maxRecDepth 100000 in
theorem zs88_3 : zck 88 3 1 (-1) (400) = true := by decide +kernel
set_option maxRecDepth 100000 in
theorem zs88_7 : zck 88 7 1 (0) (401) = true := by decide +kernel
set_option maxRecDepth 100000 in
theorem zs88_8 : zck 88 8 1 (-2147483648) (2147483647) = true := by decide +kernel
set_option maxRecDepth 100000 in
theorem zs88_9 : zck 88 9 1 (0) (12) = true := by decide +kernel
set_option maxRecDepth 100000 in
theorem zs89_0 : zck 89 0 400 (0) (255) = true := by decide +kernel
set_option maxRecDepth 100000 in
theorem zs90_0 : zck 90 0 401 (0) (327) = true := by decide +kernel
set_option maxRecDepth 100000 in
theorem zs93_2 : zck 93 2 1 (-2147483648) (2147483647) = true := by decide +kernel
set_option maxRecDepth 100000 in
theorem zs93_3 : zck 93 3 1 (0) (400) = true := by decide +kernel
