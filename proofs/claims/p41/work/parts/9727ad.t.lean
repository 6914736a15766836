/-! the methods that are walked by hand, stretches of places of one type; printed by program -/
theorem zmm42 : pm_m zMT zCDs zM42 zD11 := ⟨sx_at2_mem (i := 42) rfl, rfl⟩
theorem zmm43 : pm_m zMT zCDs zM43 zD6 := ⟨sx_at2_mem (i := 43) rfl, rfl⟩
theorem zn43 : zM43.1.2.2.1 = 2 := rfl
theorem zmm44 : pm_m zMT zCDs zM44 zD6 := ⟨sx_at2_mem (i := 44) rfl, rfl⟩
theorem zn44 : zM44.1.2.2.1 = 3 := rfl
theorem zmm45 : pm_m zMT zCDs zM45 zD11 := ⟨sx_at2_mem (i := 45) rfl, rfl⟩
theorem zmm50 : pm_m zMT zCDs zM50 zD9 := ⟨sx_at2_mem (i := 50) rfl, rfl⟩
theorem zn50 : zM50.1.2.2.1 = 1 := rfl
theorem zmm51 : pm_m zMT zCDs zM51 zD6 := ⟨sx_at2_mem (i := 51) rfl, rfl⟩
theorem zn51 : zM51.1.2.2.1 = 2 := rfl
theorem zmm52 : pm_m zMT zCDs zM52 zD6 := ⟨sx_at2_mem (i := 52) rfl, rfl⟩
theorem zn52 : zM52.1.2.2.1 = 4 := rfl
theorem zmm53 : pm_m zMT zCDs zM53 zD6 := ⟨sx_at2_mem (i := 53) rfl, rfl⟩
theorem zn53 : zM53.1.2.2.1 = 1 := rfl
theorem zmm134 : pm_m zMT zCDs zM134 zD12 := ⟨sx_at2_mem (i := 134) rfl, rfl⟩
theorem zmm135 : pm_m zMT zCDs zM135 zD12 := ⟨sx_at2_mem (i := 135) rfl, rfl⟩
theorem zn135 : zM135.1.2.2.1 = 3 := rfl
theorem zmm136 : pm_m zMT zCDs zM136 zD12 := ⟨sx_at2_mem (i := 136) rfl, rfl⟩
theorem zmm219 : pm_m zMT zCDs zM219 zD9 := ⟨sx_at2_mem (i := 219) rfl, rfl⟩
theorem zn219 : zM219.1.2.2.1 = 4 := rfl
theorem zmm233 : pm_m zMT zCDs zM233 zD6 := ⟨sx_at2_mem (i := 233) rfl, rfl⟩
theorem zn233 : zM233.1.2.2.1 = 5 := rfl
theorem zmm234 : pm_m zMT zCDs zM234 zD6 := ⟨sx_at2_mem (i := 234) rfl, rfl⟩
theorem zn234 : zM234.1.2.2.1 = 1 := rfl
theorem zmm235 : pm_m zMT zCDs zM235 zD6 := ⟨sx_at2_mem (i := 235) rfl, rfl⟩
theorem zn235 : zM235.1.2.2.1 = 1 := rfl
theorem zmm236 : pm_m zMT zCDs zM236 zD6 := ⟨sx_at2_mem (i := 236) rfl, rfl⟩
theorem zn236 : zM236.1.2.2.1 = 6 := rfl
theorem zmm237 : pm_m zMT zCDs zM237 zD6 := ⟨sx_at2_mem (i := 237) rfl, rfl⟩
theorem zn237 : zM237.1.2.2.1 = 4 := rfl
theorem zmm240 : pm_m zMT zCDs zM240 zD6 := ⟨sx_at2_mem (i := 240) rfl, rfl⟩
theorem zn240 : zM240.1.2.2.1 = 5 := rfl
theorem zmm241 : pm_m zMT zCDs zM241 zD6 := ⟨sx_at2_mem (i := 241) rfl, rfl⟩
theorem zn241 : zM241.1.2.2.1 = 4 := rfl
theorem zmm242 : pm_m zMT zCDs zM242 zD6 := ⟨sx_at2_mem (i := 242) rfl, rfl⟩
theorem zn242 : zM242.1.2.2.1 = 2 := rfl
theorem zmm243 : pm_m zMT zCDs zM243 zD9 := ⟨sx_at2_mem (i := 243) rfl, rfl⟩
theorem zn243 : zM243.1.2.2.1 = 4 := rfl
theorem zmm244 : pm_m zMT zCDs zM244 zD6 := ⟨sx_at2_mem (i := 244) rfl, rfl⟩
theorem zn244 : zM244.1.2.2.1 = 1 := rfl
theorem zmm245 : pm_m zMT zCDs zM245 zD6 := ⟨sx_at2_mem (i := 245) rfl, rfl⟩
theorem zn245 : zM245.1.2.2.1 = 4 := rfl
theorem zmm246 : pm_m zMT zCDs zM246 zD6 := ⟨sx_at2_mem (i := 246) rfl, rfl⟩
theorem zn246 : zM246.1.2.2.1 = 2 := rfl
theorem zmm247 : pm_m zMT zCDs zM247 zD6 := ⟨sx_at2_mem (i := 247) rfl, rfl⟩
theorem zn247 : zM247.1.2.2.1 = 1 := rfl
theorem zmm248 : pm_m zMT zCDs zM248 zD9 := ⟨sx_at2_mem (i := 248) rfl, rfl⟩
theorem zn248 : zM248.1.2.2.1 = 3 := rfl
theorem zmm249 : pm_m zMT zCDs zM249 zD6 := ⟨sx_at2_mem (i := 249) rfl, rfl⟩
theorem zn249 : zM249.1.2.2.1 = 2 := rfl
theorem zmm250 : pm_m zMT zCDs zM250 zD6 := ⟨sx_at2_mem (i := 250) rfl, rfl⟩
theorem zn250 : zM250.1.2.2.1 = 1 := rfl
theorem zmm251 : pm_m zMT zCDs zM251 zD6 := ⟨sx_at2_mem (i := 251) rfl, rfl⟩
theorem zn251 : zM251.1.2.2.1 = 5 := rfl
theorem zmm252 : pm_m zMT zCDs zM252 zD6 := ⟨sx_at2_mem (i := 252) rfl, rfl⟩
theorem zn252 : zM252.1.2.2.1 = 3 := rfl
theorem zmm253 : pm_m zMT zCDs zM253 zD6 := ⟨sx_at2_mem (i := 253) rfl, rfl⟩
theorem zn253 : zM253.1.2.2.1 = 3 := rfl
theorem zmm254 : pm_m zMT zCDs zM254 zD6 := ⟨sx_at2_mem (i := 254) rfl, rfl⟩
theorem zn254 : zM254.1.2.2.1 = 2 := rfl
theorem zmm255 : pm_m zMT zCDs zM255 zD6 := ⟨sx_at2_mem (i := 255) rfl, rfl⟩
theorem zn255 : zM255.1.2.2.1 = 2 := rfl
theorem zmm256 : pm_m zMT zCDs zM256 zD6 := ⟨sx_at2_mem (i := 256) rfl, rfl⟩
theorem zn256 : zM256.1.2.2.1 = 4 := rfl
theorem zmm257 : pm_m zMT zCDs zM257 zD6 := ⟨sx_at2_mem (i := 257) rfl, rfl⟩
theorem zn257 : zM257.1.2.2.1 = 1 := rfl
theorem zmm258 : pm_m zMT zCDs zM258 zD6 := ⟨sx_at2_mem (i := 258) rfl, rfl⟩
theorem zn258 : zM258.1.2.2.1 = 2 := rfl
theorem zmm259 : pm_m zMT zCDs zM259 zD6 := ⟨sx_at2_mem (i := 259) rfl, rfl⟩
theorem zn259 : zM259.1.2.2.1 = 1 := rfl
theorem zmm279 : pm_m zMT zCDs zM279 zD12 := ⟨sx_at2_mem (i := 279) rfl, rfl⟩
theorem zn279 : zM279.1.2.2.1 = 3 := rfl
theorem zmm286 : pm_m zMT zCDs zM286 zD12 := ⟨sx_at2_mem (i := 286) rfl, rfl⟩
theorem zn286 : zM286.1.2.2.1 = 4 := rfl
theorem zmm287 : pm_m zMT zCDs zM287 zD12 := ⟨sx_at2_mem (i := 287) rfl, rfl⟩
theorem zn287 : zM287.1.2.2.1 = 3 := rfl
set_option maxRecDepth 100000 in
theorem zs17_3 : zck 17 3 1 (0) (400) = true := by decide +kernel
set_option maxRecDepth 100000 in
theorem zs20_3 : zck 20 3 1 (0) (400) = true := by decide +kernel
set_option maxRecDepth 100000 in
theorem zs23_3 : zck 23 3 1 (0) (400) = true := by decide +kernel
set_option maxRecDepth 100000 in
theorem zs26_3 : zck 26 3 1 (0) (400) = true := by decide +kernel
set_option maxRecDepth 100000 in
theorem zs88_10 : zck 88 10 1 (0) (18) = true := by decide +kernel
set_option maxRecDepth 100000 in
theorem zs88_7 : zck 88 7 1 (0) (401) = true := by decide +kernel
set_option maxRecDepth 100000 in
theorem zs88_8 : zck 88 8 1 (-2147483648) (2147483647) = true := by decide +kernel
set_option maxRecDepth 100000 in
theorem zs88_9 : zck 88 9 1 (0) (12) = true := by decide +kernel
set_option maxRecDepth 100000 in
theorem zs89_0 : zck 89 0 400 (0) (255) = true := by decide +kernel
set_option maxRecDepth 100000 in
theorem zs90_0 : zck 90 0 401 (0) (327) = true := by decide +kernel
set_option maxRecDepth 100000 in
theorem zs91_0 : zck 91 0 401 (0) (400) = true := by decide +kernel
set_option maxRecDepth 100000 in
theorem zs92_0 : zck 92 0 401 (-53328) (229977) = true := by decide +kernel
set_option maxRecDepth 100000 in
theorem zs93_2 : zck 93 2 1 (-2147483648) (2147483647) = true := by decide +kernel
set_option maxRecDepth 100000 in
theorem zs93_3 : zck 93 3 1 (0) (400) = true := by decide +kernel
set_option maxRecDepth 100000 in
theorem zs94_0 : zck 94 0 64 (-1) (999) = true := by decide +kernel
set_option maxRecDepth 100000 in
theorem zs95_0 : zck 95 0 400 (-853248) (3679637) = true := by decide +kernel
