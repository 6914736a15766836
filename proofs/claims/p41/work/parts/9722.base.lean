/-! the methods that are walked by hand, stretches of places of one type; printed by program -/
theorem zmm13 : pm_m zMT zCDs zM13 zD11 := ⟨sx_at2_mem (i := 13) rfl, rfl⟩
theorem zmm15 : pm_m zMT zCDs zM15 zD11 := ⟨sx_at2_mem (i := 15) rfl, rfl⟩
theorem zmm17 : pm_m zMT zCDs zM17 zD0 := ⟨sx_at2_mem (i := 17) rfl, rfl⟩
theorem zn17 : zM17.1.2.2.1 = 4 := rfl
theorem zmm18 : pm_m zMT zCDs zM18 zD0 := ⟨sx_at2_mem (i := 18) rfl, rfl⟩
theorem zn18 : zM18.1.2.2.1 = 2 := rfl
theorem zmm19 : pm_m zMT zCDs zM19 zD11 := ⟨sx_at2_mem (i := 19) rfl, rfl⟩
theorem zmm20 : pm_m zMT zCDs zM20 zD0 := ⟨sx_at2_mem (i := 20) rfl, rfl⟩
theorem zn20 : zM20.1.2.2.1 = 4 := rfl
theorem zmm21 : pm_m zMT zCDs zM21 zD11 := ⟨sx_at2_mem (i := 21) rfl, rfl⟩
theorem zmm22 : pm_m zMT zCDs zM22 zD0 := ⟨sx_at2_mem (i := 22) rfl, rfl⟩
theorem zn22 : zM22.1.2.2.1 = 2 := rfl
theorem zmm23 : pm_m zMT zCDs zM23 zD0 := ⟨sx_at2_mem (i := 23) rfl, rfl⟩
theorem zn23 : zM23.1.2.2.1 = 2 := rfl
theorem zmm24 : pm_m zMT zCDs zM24 zD11 := ⟨sx_at2_mem (i := 24) rfl, rfl⟩
theorem zmm25 : pm_m zMT zCDs zM25 zD11 := ⟨sx_at2_mem (i := 25) rfl, rfl⟩
theorem zn25 : zM25.1.2.2.1 = 4 := rfl
theorem zmm26 : pm_m zMT zCDs zM26 zD0 := ⟨sx_at2_mem (i := 26) rfl, rfl⟩
theorem zn26 : zM26.1.2.2.1 = 2 := rfl
theorem zmm27 : pm_m zMT zCDs zM27 zD3 := ⟨sx_at2_mem (i := 27) rfl, rfl⟩
theorem zn27 : zM27.1.2.2.1 = 2 := rfl
theorem zmm31 : pm_m zMT zCDs zM31 zD11 := ⟨sx_at2_mem (i := 31) rfl, rfl⟩
theorem zn31 : zM31.1.2.2.1 = 3 := rfl
theorem zmm32 : pm_m zMT zCDs zM32 zD11 := ⟨sx_at2_mem (i := 32) rfl, rfl⟩
theorem zn32 : zM32.1.2.2.1 = 3 := rfl
theorem zmm33 : pm_m zMT zCDs zM33 zD2 := ⟨sx_at2_mem (i := 33) rfl, rfl⟩
theorem zn33 : zM33.1.2.2.1 = 5 := rfl
theorem zmm35 : pm_m zMT zCDs zM35 zD11 := ⟨sx_at2_mem (i := 35) rfl, rfl⟩
theorem zn35 : zM35.1.2.2.1 = 4 := rfl
theorem zmm36 : pm_m zMT zCDs zM36 zD11 := ⟨sx_at2_mem (i := 36) rfl, rfl⟩
theorem zmm37 : pm_m zMT zCDs zM37 zD2 := ⟨sx_at2_mem (i := 37) rfl, rfl⟩
theorem zn37 : zM37.1.2.2.1 = 3 := rfl
theorem zmm46 : pm_m zMT zCDs zM46 zD11 := ⟨sx_at2_mem (i := 46) rfl, rfl⟩
theorem zmm47 : pm_m zMT zCDs zM47 zD10 := ⟨sx_at2_mem (i := 47) rfl, rfl⟩
theorem zn47 : zM47.1.2.2.1 = 2 := rfl
theorem zmm48 : pm_m zMT zCDs zM48 zD6 := ⟨sx_at2_mem (i := 48) rfl, rfl⟩
theorem zn48 : zM48.1.2.2.1 = 1 := rfl
theorem zmm49 : pm_m zMT zCDs zM49 zD6 := ⟨sx_at2_mem (i := 49) rfl, rfl⟩
theorem zn49 : zM49.1.2.2.1 = 5 := rfl
theorem zmm117 : pm_m zMT zCDs zM117 zD11 := ⟨sx_at2_mem (i := 117) rfl, rfl⟩
theorem zmm118 : pm_m zMT zCDs zM118 zD3 := ⟨sx_at2_mem (i := 118) rfl, rfl⟩
theorem zn118 : zM118.1.2.2.1 = 2 := rfl
theorem zmm128 : pm_m zMT zCDs zM128 zD12 := ⟨sx_at2_mem (i := 128) rfl, rfl⟩
theorem zmm130 : pm_m zMT zCDs zM130 zD12 := ⟨sx_at2_mem (i := 130) rfl, rfl⟩
theorem zmm131 : pm_m zMT zCDs zM131 zD12 := ⟨sx_at2_mem (i := 131) rfl, rfl⟩
theorem zmm132 : pm_m zMT zCDs zM132 zD12 := ⟨sx_at2_mem (i := 132) rfl, rfl⟩
theorem zn132 : zM132.1.2.2.1 = 2 := rfl
theorem zmm133 : pm_m zMT zCDs zM133 zD12 := ⟨sx_at2_mem (i := 133) rfl, rfl⟩
theorem zn133 : zM133.1.2.2.1 = 2 := rfl
theorem zmm213 : pm_m zMT zCDs zM213 zD4 := ⟨sx_at2_mem (i := 213) rfl, rfl⟩
theorem zn213 : zM213.1.2.2.1 = 10 := rfl
theorem zmm224 : pm_m zMT zCDs zM224 zD2 := ⟨sx_at2_mem (i := 224) rfl, rfl⟩
theorem zn224 : zM224.1.2.2.1 = 5 := rfl
theorem zmm225 : pm_m zMT zCDs zM225 zD0 := ⟨sx_at2_mem (i := 225) rfl, rfl⟩
theorem zn225 : zM225.1.2.2.1 = 3 := rfl
theorem zmm226 : pm_m zMT zCDs zM226 zD2 := ⟨sx_at2_mem (i := 226) rfl, rfl⟩
theorem zn226 : zM226.1.2.2.1 = 4 := rfl
theorem zmm227 : pm_m zMT zCDs zM227 zD10 := ⟨sx_at2_mem (i := 227) rfl, rfl⟩
theorem zn227 : zM227.1.2.2.1 = 5 := rfl
set_option maxRecDepth 100000 in
theorem zs10_0 : zck 10 0 12 (-2147483648) (2147483647) = true := by decide +kernel
set_option maxRecDepth 100000 in
theorem zs112_0 : zck 112 0 1 (0) (12) = true := by decide +kernel
set_option maxRecDepth 100000 in
theorem zs112_1 : zck 112 1 1 (0) (18) = true := by decide +kernel
set_option maxRecDepth 100000 in
theorem zs112_2 : zck 112 2 1 (0) (11) = true := by decide +kernel
set_option maxRecDepth 100000 in
theorem zs112_3 : zck 112 3 1 (-2147483648) (2147483647) = true := by decide +kernel
set_option maxRecDepth 100000 in
theorem zs112_4 : zck 112 4 1 (-2147483648) (2147483647) = true := by decide +kernel
set_option maxRecDepth 100000 in
theorem zs11_0 : zck 11 0 18 (-2147483648) (9999) = true := by decide +kernel
set_option maxRecDepth 100000 in
theorem zs125_0 : zck 125 0 1 (0) (12) = true := by decide +kernel
set_option maxRecDepth 100000 in
theorem zs125_1 : zck 125 1 1 (0) (18) = true := by decide +kernel
set_option maxRecDepth 100000 in
theorem zs125_2 : zck 125 2 1 (0) (11) = true := by decide +kernel
set_option maxRecDepth 100000 in
theorem zs125_3 : zck 125 3 1 (-2147483648) (2147483647) = true := by decide +kernel
set_option maxRecDepth 100000 in
theorem zs125_4 : zck 125 4 1 (-2147483648) (2147483647) = true := by decide +kernel
set_option maxRecDepth 100000 in
theorem zs12_0 : zck 12 0 18 (0) (9) = true := by decide +kernel
set_option maxRecDepth 100000 in
theorem zs138_0 : zck 138 0 1 (0) (12) = true := by decide +kernel
set_option maxRecDepth 100000 in
theorem zs138_1 : zck 138 1 1 (0) (18) = true := by decide +kernel
set_option maxRecDepth 100000 in
theorem zs138_2 : zck 138 2 1 (0) (11) = true := by decide +kernel
set_option maxRecDepth 100000 in
theorem zs138_3 : zck 138 3 1 (-2147483648) (2147483647) = true := by decide +kernel
set_option maxRecDepth 100000 in
theorem zs138_4 : zck 138 4 1 (-2147483648) (2147483647) = true := by decide +kernel
set_option maxRecDepth 100000 in
theorem zs13_0 : zck 13 0 18 (-1) (11) = true := by decide +kernel
set_option maxRecDepth 100000 in
theorem zs14_0 : zck 14 0 18 (-2147483648) (2147483647) = true := by decide +kernel
set_option maxRecDepth 100000 in
theorem zs151_0 : zck 151 0 1 (0) (12) = true := by decide +kernel
set_option maxRecDepth 100000 in
theorem zs151_1 : zck 151 1 1 (0) (18) = true := by decide +kernel
set_option maxRecDepth 100000 in
theorem zs151_2 : zck 151 2 1 (0) (11) = true := by decide +kernel
set_option maxRecDepth 100000 in
theorem zs151_3 : zck 151 3 1 (-2147483648) (2147483647) = true := by decide +kernel
set_option maxRecDepth 100000 in
theorem zs151_4 : zck 151 4 1 (-2147483648) (2147483647) = true := by decide +kernel
set_option maxRecDepth 100000 in
theorem zs15_0 : zck 15 0 18 (-2147483648) (2147483647) = true := by decide +kernel
set_option maxRecDepth 100000 in
theorem zs164_0 : zck 164 0 1 (0) (12) = true := by decide +kernel
set_option maxRecDepth 100000 in
theorem zs164_1 : zck 164 1 1 (0) (18) = true := by decide +kernel
set_option maxRecDepth 100000 in
theorem zs164_2 : zck 164 2 1 (0) (11) = true := by decide +kernel
set_option maxRecDepth 100000 in
theorem zs164_3 : zck 164 3 1 (-2147483648) (2147483647) = true := by decide +kernel
set_option maxRecDepth 100000 in
theorem zs164_4 : zck 164 4 1 (-2147483648) (2147483647) = true := by decide +kernel
set_option maxRecDepth 100000 in
theorem zs16_0 : zck 16 0 750 (-2147483648) (2147483647) = true := by decide +kernel
set_option maxRecDepth 100000 in
theorem zs17_2 : zck 17 2 1 (-2147483648) (2147483647) = true := by decide +kernel
set_option maxRecDepth 100000 in
theorem zs180_2 : zck 180 2 1 (0) (0) = true := by decide +kernel
set_option maxRecDepth 100000 in
theorem zs209_0 : zck 209 0 18 (0) (9) = true := by decide +kernel
set_option maxRecDepth 100000 in
theorem zs20_2 : zck 20 2 1 (-2147483648) (2147483647) = true := by decide +kernel
set_option maxRecDepth 100000 in
theorem zs23_2 : zck 23 2 1 (-2147483648) (2147483647) = true := by decide +kernel
set_option maxRecDepth 100000 in
theorem zs26_2 : zck 26 2 1 (-2147483648) (2147483647) = true := by decide +kernel
set_option maxRecDepth 100000 in
theorem zs3_0 : zck 3 0 1 (0) (12) = true := by decide +kernel
set_option maxRecDepth 100000 in
theorem zs3_1 : zck 3 1 1 (0) (18) = true := by decide +kernel
set_option maxRecDepth 100000 in
theorem zs3_2 : zck 3 2 1 (0) (11) = true := by decide +kernel
set_option maxRecDepth 100000 in
theorem zs3_3 : zck 3 3 1 (-2147483648) (2147483647) = true := by decide +kernel
set_option maxRecDepth 100000 in
theorem zs3_4 : zck 3 4 1 (-2147483648) (2147483647) = true := by decide +kernel
set_option maxRecDepth 100000 in
theorem zs46_0 : zck 46 0 1 (0) (12) = true := by decide +kernel
set_option maxRecDepth 100000 in
theorem zs46_1 : zck 46 1 1 (0) (18) = true := by decide +kernel
set_option maxRecDepth 100000 in
theorem zs46_2 : zck 46 2 1 (0) (11) = true := by decide +kernel
set_option maxRecDepth 100000 in
theorem zs46_3 : zck 46 3 1 (-2147483648) (2147483647) = true := by decide +kernel
set_option maxRecDepth 100000 in
theorem zs46_4 : zck 46 4 1 (-2147483648) (2147483647) = true := by decide +kernel
set_option maxRecDepth 100000 in
theorem zs4_0 : zck 4 0 12 (-1) (999) = true := by decide +kernel
set_option maxRecDepth 100000 in
theorem zs5_0 : zck 5 0 12 (-1) (999) = true := by decide +kernel
set_option maxRecDepth 100000 in
theorem zs6_0 : zck 6 0 12 (-2147483648) (2147483647) = true := by decide +kernel
set_option maxRecDepth 100000 in
theorem zs7_0 : zck 7 0 12 (0) (1) = true := by decide +kernel
set_option maxRecDepth 100000 in
theorem zs88_1 : zck 88 1 1 (0) (400) = true := by decide +kernel
set_option maxRecDepth 100000 in
theorem zs88_2 : zck 88 2 1 (0) (3) = true := by decide +kernel
set_option maxRecDepth 100000 in
theorem zs88_3 : zck 88 3 1 (-1) (400) = true := by decide +kernel
set_option maxRecDepth 100000 in
theorem zs8_0 : zck 8 0 12 (-1) (17) = true := by decide +kernel
set_option maxRecDepth 100000 in
theorem zs96_2 : zck 96 2 1 (0) (5) = true := by decide +kernel
set_option maxRecDepth 100000 in
theorem zs98_0 : zck 98 0 6 (0) (150) = true := by decide +kernel
set_option maxRecDepth 100000 in
theorem zs99_0 : zck 99 0 1 (0) (12) = true := by decide +kernel
set_option maxRecDepth 100000 in
theorem zs99_1 : zck 99 1 1 (0) (18) = true := by decide +kernel
set_option maxRecDepth 100000 in
theorem zs99_2 : zck 99 2 1 (0) (11) = true := by decide +kernel
set_option maxRecDepth 100000 in
theorem zs99_3 : zck 99 3 1 (-2147483648) (2147483647) = true := by decide +kernel
set_option maxRecDepth 100000 in
theorem zs99_4 : zck 99 4 1 (-2147483648) (2147483647) = true := by decide +kernel
set_option maxRecDepth 100000 in
theorem zs9_0 : zck 9 0 12 (-1) (17) = true := by decide +kernel
