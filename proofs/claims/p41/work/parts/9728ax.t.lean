/-! the methods that are walked by hand, stretches of places of one type; printed by program -/
theorem zmm126 : pm_m zMT zCDs zM126 zD12 := ⟨sx_at2_mem (i := 126) rfl, rfl⟩
theorem zmm127 : pm_m zMT zCDs zM127 zD12 := ⟨sx_at2_mem (i := 127) rfl, rfl⟩
theorem zmm150 : pm_m zMT zCDs zM150 zD12 := ⟨sx_at2_mem (i := 150) rfl, rfl⟩
theorem zmm151 : pm_m zMT zCDs zM151 zD12 := ⟨sx_at2_mem (i := 151) rfl, rfl⟩
theorem zn151 : zM151.1.2.2.1 = 4 := rfl
theorem zmm152 : pm_m zMT zCDs zM152 zD12 := ⟨sx_at2_mem (i := 152) rfl, rfl⟩
theorem zn152 : zM152.1.2.2.1 = 4 := rfl
theorem zmm154 : pm_m zMT zCDs zM154 zD12 := ⟨sx_at2_mem (i := 154) rfl, rfl⟩
theorem zmm158 : pm_m zMT zCDs zM158 zD12 := ⟨sx_at2_mem (i := 158) rfl, rfl⟩
theorem zn158 : zM158.1.2.2.1 = 2 := rfl
theorem zmm162 : pm_m zMT zCDs zM162 zD12 := ⟨sx_at2_mem (i := 162) rfl, rfl⟩
theorem zmm163 : pm_m zMT zCDs zM163 zD12 := ⟨sx_at2_mem (i := 163) rfl, rfl⟩
theorem zn163 : zM163.1.2.2.1 = 2 := rfl
theorem zmm164 : pm_m zMT zCDs zM164 zD12 := ⟨sx_at2_mem (i := 164) rfl, rfl⟩
theorem zn164 : zM164.1.2.2.1 = 5 := rfl
theorem zmm165 : pm_m zMT zCDs zM165 zD12 := ⟨sx_at2_mem (i := 165) rfl, rfl⟩
theorem zn165 : zM165.1.2.2.1 = 2 := rfl
theorem zmm208 : pm_m zMT zCDs zM208 zD12 := ⟨sx_at2_mem (i := 208) rfl, rfl⟩
theorem zmm209 : pm_m zMT zCDs zM209 zD12 := ⟨sx_at2_mem (i := 209) rfl, rfl⟩
theorem zn209 : zM209.1.2.2.1 = 3 := rfl
theorem zmm299 : pm_m zMT zCDs zM299 zD12 := ⟨sx_at2_mem (i := 299) rfl, rfl⟩
theorem zn299 : zM299.1.2.2.1 = 3 := rfl
theorem zmm300 : pm_m zMT zCDs zM300 zD12 := ⟨sx_at2_mem (i := 300) rfl, rfl⟩
theorem zn300 : zM300.1.2.2.1 = 3 := rfl
theorem zmm301 : pm_m zMT zCDs zM301 zD12 := ⟨sx_at2_mem (i := 301) rfl, rfl⟩
theorem zn301 : zM301.1.2.2.1 = 3 := rfl
theorem zmm302 : pm_m zMT zCDs zM302 zD12 := ⟨sx_at2_mem (i := 302) rfl, rfl⟩
theorem zn302 : zM302.1.2.2.1 = 4 := rfl
theorem zmm308 : pm_m zMT zCDs zM308 zD12 := ⟨sx_at2_mem (i := 308) rfl, rfl⟩
theorem zn308 : zM308.1.2.2.1 = 4 := rfl
theorem zmm312 : pm_m zMT zCDs zM312 zD12 := ⟨sx_at2_mem (i := 312) rfl, rfl⟩
theorem zn312 : zM312.1.2.2.1 = 3 := rfl
theorem zmm313 : pm_m zMT zCDs zM313 zD12 := ⟨sx_at2_mem (i := 313) rfl, rfl⟩
theorem zn313 : zM313.1.2.2.1 = 2 := rfl
theorem zmm314 : pm_m zMT zCDs zM314 zD12 := ⟨sx_at2_mem (i := 314) rfl, rfl⟩
theorem zn314 : zM314.1.2.2.1 = 2 := rfl
theorem zmm315 : pm_m zMT zCDs zM315 zD12 := ⟨sx_at2_mem (i := 315) rfl, rfl⟩
theorem zn315 : zM315.1.2.2.1 = 3 := rfl
theorem zmm316 : pm_m zMT zCDs zM316 zD12 := ⟨sx_at2_mem (i := 316) rfl, rfl⟩
theorem zn316 : zM316.1.2.2.1 = 3 := rfl
theorem zmm317 : pm_m zMT zCDs zM317 zD12 := ⟨sx_at2_mem (i := 317) rfl, rfl⟩
theorem zn317 : zM317.1.2.2.1 = 2 := rfl
set_option maxRecDepth 100000 in
theorem zs206_2 : zck 206 2 1 (-2147483648) (2147483647) = true := by decide +kernel
set_option maxRecDepth 100000 in
theorem zs206_28 : zck 206 28 12 (-2147483648) (2147483647) = true := by decide +kernel
set_option maxRecDepth 100000 in
theorem zs206_76 : zck 206 76 12 (-2147483648) (2147483647) = true := by decide +kernel
set_option maxRecDepth 100000 in
theorem zs224_0 : zck 224 0 1 (-1000) (9999) = true := by decide +kernel
set_option maxRecDepth 100000 in
theorem zs224_1 : zck 224 1 1 (0) (9) = true := by decide +kernel
set_option maxRecDepth 100000 in
theorem zs224_2 : zck 224 2 2 (0) (99) = true := by decide +kernel
set_option maxRecDepth 100000 in
theorem zs224_4 : zck 224 4 4 (-2147483648) (2147483647) = true := by decide +kernel
set_option maxRecDepth 100000 in
theorem zs224_8 : zck 224 8 1 (0) (11) = true := by decide +kernel
set_option maxRecDepth 100000 in
theorem zs224_9 : zck 224 9 2 (-2147483648) (2147483647) = true := by decide +kernel
