/-! the methods that are walked by hand, stretches of places of one type; printed by program -/
theorem zmm38 : pm_m zMT zCDs zM38 zD2 := ⟨sx_at2_mem (i := 38) rfl, rfl⟩
theorem zn38 : zM38.1.2.2.1 = 4 := rfl
theorem zmm39 : pm_m zMT zCDs zM39 zD2 := ⟨sx_at2_mem (i := 39) rfl, rfl⟩
theorem zn39 : zM39.1.2.2.1 = 7 := rfl
theorem zmm40 : pm_m zMT zCDs zM40 zD2 := ⟨sx_at2_mem (i := 40) rfl, rfl⟩
theorem zn40 : zM40.1.2.2.1 = 5 := rfl
theorem zmm41 : pm_m zMT zCDs zM41 zD2 := ⟨sx_at2_mem (i := 41) rfl, rfl⟩
theorem zn41 : zM41.1.2.2.1 = 3 := rfl
theorem zmm59 : pm_m zMT zCDs zM59 zD11 := ⟨sx_at2_mem (i := 59) rfl, rfl⟩
theorem zmm60 : pm_m zMT zCDs zM60 zD0 := ⟨sx_at2_mem (i := 60) rfl, rfl⟩
theorem zn60 : zM60.1.2.2.1 = 2 := rfl
theorem zmm61 : pm_m zMT zCDs zM61 zD0 := ⟨sx_at2_mem (i := 61) rfl, rfl⟩
theorem zn61 : zM61.1.2.2.1 = 4 := rfl
theorem zmm122 : pm_m zMT zCDs zM122 zD11 := ⟨sx_at2_mem (i := 122) rfl, rfl⟩
theorem zmm123 : pm_m zMT zCDs zM123 zD0 := ⟨sx_at2_mem (i := 123) rfl, rfl⟩
theorem zn123 : zM123.1.2.2.1 = 3 := rfl
theorem zmm124 : pm_m zMT zCDs zM124 zD0 := ⟨sx_at2_mem (i := 124) rfl, rfl⟩
theorem zn124 : zM124.1.2.2.1 = 3 := rfl
theorem zmm214 : pm_m zMT zCDs zM214 zD4 := ⟨sx_at2_mem (i := 214) rfl, rfl⟩
theorem zn214 : zM214.1.2.2.1 = 4 := rfl
theorem zmm215 : pm_m zMT zCDs zM215 zD0 := ⟨sx_at2_mem (i := 215) rfl, rfl⟩
theorem zn215 : zM215.1.2.2.1 = 2 := rfl
theorem zmm216 : pm_m zMT zCDs zM216 zD0 := ⟨sx_at2_mem (i := 216) rfl, rfl⟩
theorem zn216 : zM216.1.2.2.1 = 4 := rfl
theorem zmm217 : pm_m zMT zCDs zM217 zD15 := ⟨sx_at2_mem (i := 217) rfl, rfl⟩
theorem zn217 : zM217.1.2.2.1 = 1 := rfl
theorem zmm218 : pm_m zMT zCDs zM218 zD4 := ⟨sx_at2_mem (i := 218) rfl, rfl⟩
theorem zn218 : zM218.1.2.2.1 = 4 := rfl
theorem zmm220 : pm_m zMT zCDs zM220 zD4 := ⟨sx_at2_mem (i := 220) rfl, rfl⟩
theorem zn220 : zM220.1.2.2.1 = 8 := rfl
theorem zmm221 : pm_m zMT zCDs zM221 zD4 := ⟨sx_at2_mem (i := 221) rfl, rfl⟩
theorem zn221 : zM221.1.2.2.1 = 2 := rfl
theorem zmm222 : pm_m zMT zCDs zM222 zD4 := ⟨sx_at2_mem (i := 222) rfl, rfl⟩
theorem zn222 : zM222.1.2.2.1 = 3 := rfl
theorem zmm223 : pm_m zMT zCDs zM223 zD4 := ⟨sx_at2_mem (i := 223) rfl, rfl⟩
theorem zn223 : zM223.1.2.2.1 = 3 := rfl
theorem zmm228 : pm_m zMT zCDs zM228 zD2 := ⟨sx_at2_mem (i := 228) rfl, rfl⟩
theorem zn228 : zM228.1.2.2.1 = 5 := rfl
theorem zmm229 : pm_m zMT zCDs zM229 zD2 := ⟨sx_at2_mem (i := 229) rfl, rfl⟩
theorem zn229 : zM229.1.2.2.1 = 4 := rfl
theorem zmm230 : pm_m zMT zCDs zM230 zD2 := ⟨sx_at2_mem (i := 230) rfl, rfl⟩
theorem zn230 : zM230.1.2.2.1 = 3 := rfl
theorem zmm231 : pm_m zMT zCDs zM231 zD0 := ⟨sx_at2_mem (i := 231) rfl, rfl⟩
theorem zn231 : zM231.1.2.2.1 = 2 := rfl
theorem zmm232 : pm_m zMT zCDs zM232 zD2 := ⟨sx_at2_mem (i := 232) rfl, rfl⟩
theorem zn232 : zM232.1.2.2.1 = 4 := rfl
set_option maxRecDepth 100000 in
theorem zs178_0 : zck 178 0 11 (-2147483648) (2147483647) = true := by decide +kernel
set_option maxRecDepth 100000 in
theorem zs179_0 : zck 179 0 32 (-2147483648) (2147483647) = true := by decide +kernel
set_option maxRecDepth 100000 in
theorem zs181_2 : zck 181 2 1 (1) (1) = true := by decide +kernel
set_option maxRecDepth 100000 in
theorem zs182_0 : zck 182 0 1 (0) (12) = true := by decide +kernel
set_option maxRecDepth 100000 in
theorem zs182_1 : zck 182 1 1 (0) (18) = true := by decide +kernel
set_option maxRecDepth 100000 in
theorem zs182_2 : zck 182 2 1 (0) (11) = true := by decide +kernel
set_option maxRecDepth 100000 in
theorem zs182_3 : zck 182 3 1 (-2147483648) (2147483647) = true := by decide +kernel
set_option maxRecDepth 100000 in
theorem zs182_4 : zck 182 4 1 (-2147483648) (2147483647) = true := by decide +kernel
set_option maxRecDepth 100000 in
theorem zs183_0 : zck 183 0 12 (-1) (999) = true := by decide +kernel
set_option maxRecDepth 100000 in
theorem zs184_0 : zck 184 0 12 (-1) (999) = true := by decide +kernel
set_option maxRecDepth 100000 in
theorem zs185_0 : zck 185 0 12 (-2147483648) (2147483647) = true := by decide +kernel
set_option maxRecDepth 100000 in
theorem zs186_0 : zck 186 0 12 (0) (1) = true := by decide +kernel
set_option maxRecDepth 100000 in
theorem zs187_0 : zck 187 0 12 (-1) (17) = true := by decide +kernel
set_option maxRecDepth 100000 in
theorem zs188_0 : zck 188 0 12 (-1) (17) = true := by decide +kernel
set_option maxRecDepth 100000 in
theorem zs189_0 : zck 189 0 12 (-2147483648) (2147483647) = true := by decide +kernel
set_option maxRecDepth 100000 in
theorem zs190_0 : zck 190 0 18 (-2147483648) (9999) = true := by decide +kernel
set_option maxRecDepth 100000 in
theorem zs191_0 : zck 191 0 18 (0) (9) = true := by decide +kernel
set_option maxRecDepth 100000 in
theorem zs192_0 : zck 192 0 18 (-1) (11) = true := by decide +kernel
set_option maxRecDepth 100000 in
theorem zs193_0 : zck 193 0 18 (-2147483648) (2147483647) = true := by decide +kernel
set_option maxRecDepth 100000 in
theorem zs194_0 : zck 194 0 18 (-2147483648) (2147483647) = true := by decide +kernel
set_option maxRecDepth 100000 in
theorem zs19_0 : zck 19 0 400 (-853248) (3679637) = true := by decide +kernel
set_option maxRecDepth 100000 in
theorem zs31_1 : zck 31 1 1 (0) (4) = true := by decide +kernel
set_option maxRecDepth 100000 in
theorem zs37_1 : zck 37 1 1 (0) (8) = true := by decide +kernel
set_option maxRecDepth 100000 in
theorem zs39_1 : zck 39 1 1 (0) (12) = true := by decide +kernel
set_option maxRecDepth 100000 in
theorem zs41_1 : zck 41 1 1 (0) (10) = true := by decide +kernel
set_option maxRecDepth 100000 in
theorem zs43_1 : zck 43 1 1 (0) (8) = true := by decide +kernel
set_option maxRecDepth 100000 in
theorem zs60_2 : zck 60 2 1 (-2147483648) (2147483647) = true := by decide +kernel
set_option maxRecDepth 100000 in
theorem zs60_3 : zck 60 3 1 (0) (400) = true := by decide +kernel
set_option maxRecDepth 100000 in
theorem zs63_2 : zck 63 2 1 (-2147483648) (2147483647) = true := by decide +kernel
set_option maxRecDepth 100000 in
theorem zs63_3 : zck 63 3 1 (0) (400) = true := by decide +kernel
set_option maxRecDepth 100000 in
theorem zs66_2 : zck 66 2 1 (-2147483648) (2147483647) = true := by decide +kernel
set_option maxRecDepth 100000 in
theorem zs66_3 : zck 66 3 1 (0) (400) = true := by decide +kernel
set_option maxRecDepth 100000 in
theorem zs72_1 : zck 72 1 1 (0) (6) = true := by decide +kernel
set_option maxRecDepth 100000 in
theorem zs74_1 : zck 74 1 1 (0) (4) = true := by decide +kernel
set_option maxRecDepth 100000 in
theorem zs80_1 : zck 80 1 1 (0) (8) = true := by decide +kernel
set_option maxRecDepth 100000 in
theorem zs82_1 : zck 82 1 1 (0) (12) = true := by decide +kernel
set_option maxRecDepth 100000 in
theorem zs84_1 : zck 84 1 1 (0) (10) = true := by decide +kernel
set_option maxRecDepth 100000 in
theorem zs86_1 : zck 86 1 1 (0) (8) = true := by decide +kernel
