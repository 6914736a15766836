/-! the methods that are walked by hand, stretches of places of one type; printed by program -/
theorem zmm14 : pm_m zMT zCDs zM14 zD3 := ⟨sx_at2_mem (i := 14) rfl, rfl⟩
theorem zn14 : zM14.1.2.2.1 = 1 := rfl
theorem zmm16 : pm_m zMT zCDs zM16 zD11 := ⟨sx_at2_mem (i := 16) rfl, rfl⟩
theorem zn16 : zM16.1.2.2.1 = 3 := rfl
theorem zmm28 : pm_m zMT zCDs zM28 zD0 := ⟨sx_at2_mem (i := 28) rfl, rfl⟩
theorem zn28 : zM28.1.2.2.1 = 2 := rfl
theorem zmm29 : pm_m zMT zCDs zM29 zD11 := ⟨sx_at2_mem (i := 29) rfl, rfl⟩
theorem zn29 : zM29.1.2.2.1 = 2 := rfl
theorem zmm30 : pm_m zMT zCDs zM30 zD14 := ⟨sx_at2_mem (i := 30) rfl, rfl⟩
theorem zn30 : zM30.1.2.2.1 = 2 := rfl
theorem zmm34 : pm_m zMT zCDs zM34 zD14 := ⟨sx_at2_mem (i := 34) rfl, rfl⟩
theorem zn34 : zM34.1.2.2.1 = 2 := rfl
theorem zmm54 : pm_m zMT zCDs zM54 zD9 := ⟨sx_at2_mem (i := 54) rfl, rfl⟩
theorem zn54 : zM54.1.2.2.1 = 2 := rfl
theorem zmm72 : pm_m zMT zCDs zM72 zD7 := ⟨sx_at2_mem (i := 72) rfl, rfl⟩
theorem zn72 : zM72.1.2.2.1 = 1 := rfl
theorem zmm73 : pm_m zMT zCDs zM73 zD11 := ⟨sx_at2_mem (i := 73) rfl, rfl⟩
theorem zn73 : zM73.1.2.2.1 = 5 := rfl
theorem zmm74 : pm_m zMT zCDs zM74 zD7 := ⟨sx_at2_mem (i := 74) rfl, rfl⟩
theorem zn74 : zM74.1.2.2.1 = 2 := rfl
theorem zmm76 : pm_m zMT zCDs zM76 zD5 := ⟨sx_at2_mem (i := 76) rfl, rfl⟩
theorem zn76 : zM76.1.2.2.1 = 12 := rfl
theorem zmm77 : pm_m zMT zCDs zM77 zD16 := ⟨sx_at2_mem (i := 77) rfl, rfl⟩
theorem zn77 : zM77.1.2.2.1 = 4 := rfl
theorem zmm84 : pm_m zMT zCDs zM84 zD11 := ⟨sx_at2_mem (i := 84) rfl, rfl⟩
theorem zn84 : zM84.1.2.2.1 = 4 := rfl
theorem zmm85 : pm_m zMT zCDs zM85 zD11 := ⟨sx_at2_mem (i := 85) rfl, rfl⟩
theorem zn85 : zM85.1.2.2.1 = 2 := rfl
theorem zmm86 : pm_m zMT zCDs zM86 zD5 := ⟨sx_at2_mem (i := 86) rfl, rfl⟩
theorem zn86 : zM86.1.2.2.1 = 6 := rfl
theorem zmm87 : pm_m zMT zCDs zM87 zD5 := ⟨sx_at2_mem (i := 87) rfl, rfl⟩
theorem zn87 : zM87.1.2.2.1 = 11 := rfl
theorem zmm88 : pm_m zMT zCDs zM88 zD5 := ⟨sx_at2_mem (i := 88) rfl, rfl⟩
theorem zn88 : zM88.1.2.2.1 = 7 := rfl
theorem zmm119 : pm_m zMT zCDs zM119 zD11 := ⟨sx_at2_mem (i := 119) rfl, rfl⟩
theorem zn119 : zM119.1.2.2.1 = 2 := rfl
theorem zmm120 : pm_m zMT zCDs zM120 zD10 := ⟨sx_at2_mem (i := 120) rfl, rfl⟩
theorem zn120 : zM120.1.2.2.1 = 2 := rfl
theorem zmm121 : pm_m zMT zCDs zM121 zD7 := ⟨sx_at2_mem (i := 121) rfl, rfl⟩
theorem zn121 : zM121.1.2.2.1 = 2 := rfl
theorem zmm129 : pm_m zMT zCDs zM129 zD12 := ⟨sx_at2_mem (i := 129) rfl, rfl⟩
theorem zn129 : zM129.1.2.2.1 = 4 := rfl
theorem zmm137 : pm_m zMT zCDs zM137 zD12 := ⟨sx_at2_mem (i := 137) rfl, rfl⟩
theorem zn137 : zM137.1.2.2.1 = 3 := rfl
theorem zmm138 : pm_m zMT zCDs zM138 zD12 := ⟨sx_at2_mem (i := 138) rfl, rfl⟩
theorem zn138 : zM138.1.2.2.1 = 2 := rfl
theorem zmm139 : pm_m zMT zCDs zM139 zD12 := ⟨sx_at2_mem (i := 139) rfl, rfl⟩
theorem zn139 : zM139.1.2.2.1 = 2 := rfl
theorem zmm140 : pm_m zMT zCDs zM140 zD12 := ⟨sx_at2_mem (i := 140) rfl, rfl⟩
theorem zn140 : zM140.1.2.2.1 = 2 := rfl
theorem zmm141 : pm_m zMT zCDs zM141 zD12 := ⟨sx_at2_mem (i := 141) rfl, rfl⟩
theorem zn141 : zM141.1.2.2.1 = 2 := rfl
theorem zmm142 : pm_m zMT zCDs zM142 zD12 := ⟨sx_at2_mem (i := 142) rfl, rfl⟩
theorem zn142 : zM142.1.2.2.1 = 2 := rfl
theorem zmm143 : pm_m zMT zCDs zM143 zD12 := ⟨sx_at2_mem (i := 143) rfl, rfl⟩
theorem zn143 : zM143.1.2.2.1 = 2 := rfl
theorem zmm144 : pm_m zMT zCDs zM144 zD12 := ⟨sx_at2_mem (i := 144) rfl, rfl⟩
theorem zn144 : zM144.1.2.2.1 = 2 := rfl
theorem zmm145 : pm_m zMT zCDs zM145 zD12 := ⟨sx_at2_mem (i := 145) rfl, rfl⟩
theorem zn145 : zM145.1.2.2.1 = 3 := rfl
theorem zmm146 : pm_m zMT zCDs zM146 zD12 := ⟨sx_at2_mem (i := 146) rfl, rfl⟩
theorem zn146 : zM146.1.2.2.1 = 1 := rfl
theorem zmm147 : pm_m zMT zCDs zM147 zD12 := ⟨sx_at2_mem (i := 147) rfl, rfl⟩
theorem zn147 : zM147.1.2.2.1 = 3 := rfl
theorem zmm148 : pm_m zMT zCDs zM148 zD12 := ⟨sx_at2_mem (i := 148) rfl, rfl⟩
theorem zn148 : zM148.1.2.2.1 = 4 := rfl
theorem zmm153 : pm_m zMT zCDs zM153 zD12 := ⟨sx_at2_mem (i := 153) rfl, rfl⟩
theorem zn153 : zM153.1.2.2.1 = 2 := rfl
theorem zmm156 : pm_m zMT zCDs zM156 zD12 := ⟨sx_at2_mem (i := 156) rfl, rfl⟩
theorem zn156 : zM156.1.2.2.1 = 2 := rfl
theorem zmm157 : pm_m zMT zCDs zM157 zD12 := ⟨sx_at2_mem (i := 157) rfl, rfl⟩
theorem zn157 : zM157.1.2.2.1 = 3 := rfl
theorem zmm166 : pm_m zMT zCDs zM166 zD12 := ⟨sx_at2_mem (i := 166) rfl, rfl⟩
theorem zn166 : zM166.1.2.2.1 = 4 := rfl
theorem zmm167 : pm_m zMT zCDs zM167 zD12 := ⟨sx_at2_mem (i := 167) rfl, rfl⟩
theorem zn167 : zM167.1.2.2.1 = 4 := rfl
theorem zmm168 : pm_m zMT zCDs zM168 zD12 := ⟨sx_at2_mem (i := 168) rfl, rfl⟩
theorem zn168 : zM168.1.2.2.1 = 6 := rfl
theorem zmm169 : pm_m zMT zCDs zM169 zD12 := ⟨sx_at2_mem (i := 169) rfl, rfl⟩
theorem zn169 : zM169.1.2.2.1 = 3 := rfl
theorem zmm172 : pm_m zMT zCDs zM172 zD12 := ⟨sx_at2_mem (i := 172) rfl, rfl⟩
theorem zn172 : zM172.1.2.2.1 = 5 := rfl
theorem zmm173 : pm_m zMT zCDs zM173 zD12 := ⟨sx_at2_mem (i := 173) rfl, rfl⟩
theorem zn173 : zM173.1.2.2.1 = 6 := rfl
theorem zmm175 : pm_m zMT zCDs zM175 zD12 := ⟨sx_at2_mem (i := 175) rfl, rfl⟩
theorem zn175 : zM175.1.2.2.1 = 9 := rfl
theorem zmm176 : pm_m zMT zCDs zM176 zD12 := ⟨sx_at2_mem (i := 176) rfl, rfl⟩
theorem zn176 : zM176.1.2.2.1 = 3 := rfl
theorem zmm177 : pm_m zMT zCDs zM177 zD12 := ⟨sx_at2_mem (i := 177) rfl, rfl⟩
theorem zn177 : zM177.1.2.2.1 = 4 := rfl
theorem zmm178 : pm_m zMT zCDs zM178 zD12 := ⟨sx_at2_mem (i := 178) rfl, rfl⟩
theorem zn178 : zM178.1.2.2.1 = 6 := rfl
theorem zmm203 : pm_m zMT zCDs zM203 zD12 := ⟨sx_at2_mem (i := 203) rfl, rfl⟩
theorem zn203 : zM203.1.2.2.1 = 3 := rfl
theorem zmm204 : pm_m zMT zCDs zM204 zD12 := ⟨sx_at2_mem (i := 204) rfl, rfl⟩
theorem zn204 : zM204.1.2.2.1 = 2 := rfl
theorem zmm205 : pm_m zMT zCDs zM205 zD12 := ⟨sx_at2_mem (i := 205) rfl, rfl⟩
theorem zn205 : zM205.1.2.2.1 = 1 := rfl
theorem zmm206 : pm_m zMT zCDs zM206 zD12 := ⟨sx_at2_mem (i := 206) rfl, rfl⟩
theorem zn206 : zM206.1.2.2.1 = 2 := rfl
theorem zmm207 : pm_m zMT zCDs zM207 zD12 := ⟨sx_at2_mem (i := 207) rfl, rfl⟩
theorem zn207 : zM207.1.2.2.1 = 2 := rfl
theorem zmm210 : pm_m zMT zCDs zM210 zD12 := ⟨sx_at2_mem (i := 210) rfl, rfl⟩
theorem zn210 : zM210.1.2.2.1 = 2 := rfl
theorem zmm211 : pm_m zMT zCDs zM211 zD12 := ⟨sx_at2_mem (i := 211) rfl, rfl⟩
theorem zn211 : zM211.1.2.2.1 = 4 := rfl
theorem zmm212 : pm_m zMT zCDs zM212 zD12 := ⟨sx_at2_mem (i := 212) rfl, rfl⟩
theorem zn212 : zM212.1.2.2.1 = 2 := rfl
theorem zmm274 : pm_m zMT zCDs zM274 zD12 := ⟨sx_at2_mem (i := 274) rfl, rfl⟩
theorem zn274 : zM274.1.2.2.1 = 2 := rfl
theorem zmm275 : pm_m zMT zCDs zM275 zD12 := ⟨sx_at2_mem (i := 275) rfl, rfl⟩
theorem zn275 : zM275.1.2.2.1 = 6 := rfl
theorem zmm276 : pm_m zMT zCDs zM276 zD12 := ⟨sx_at2_mem (i := 276) rfl, rfl⟩
theorem zn276 : zM276.1.2.2.1 = 2 := rfl
theorem zmm277 : pm_m zMT zCDs zM277 zD12 := ⟨sx_at2_mem (i := 277) rfl, rfl⟩
theorem zn277 : zM277.1.2.2.1 = 2 := rfl
theorem zmm278 : pm_m zMT zCDs zM278 zD12 := ⟨sx_at2_mem (i := 278) rfl, rfl⟩
theorem zn278 : zM278.1.2.2.1 = 2 := rfl
theorem zmm280 : pm_m zMT zCDs zM280 zD12 := ⟨sx_at2_mem (i := 280) rfl, rfl⟩
theorem zn280 : zM280.1.2.2.1 = 4 := rfl
theorem zmm281 : pm_m zMT zCDs zM281 zD12 := ⟨sx_at2_mem (i := 281) rfl, rfl⟩
theorem zn281 : zM281.1.2.2.1 = 4 := rfl
theorem zmm282 : pm_m zMT zCDs zM282 zD12 := ⟨sx_at2_mem (i := 282) rfl, rfl⟩
theorem zn282 : zM282.1.2.2.1 = 2 := rfl
theorem zmm283 : pm_m zMT zCDs zM283 zD12 := ⟨sx_at2_mem (i := 283) rfl, rfl⟩
theorem zn283 : zM283.1.2.2.1 = 2 := rfl
theorem zmm284 : pm_m zMT zCDs zM284 zD12 := ⟨sx_at2_mem (i := 284) rfl, rfl⟩
theorem zn284 : zM284.1.2.2.1 = 3 := rfl
theorem zmm285 : pm_m zMT zCDs zM285 zD12 := ⟨sx_at2_mem (i := 285) rfl, rfl⟩
theorem zn285 : zM285.1.2.2.1 = 1 := rfl
theorem zmm288 : pm_m zMT zCDs zM288 zD12 := ⟨sx_at2_mem (i := 288) rfl, rfl⟩
theorem zn288 : zM288.1.2.2.1 = 2 := rfl
theorem zmm289 : pm_m zMT zCDs zM289 zD12 := ⟨sx_at2_mem (i := 289) rfl, rfl⟩
theorem zn289 : zM289.1.2.2.1 = 2 := rfl
theorem zmm290 : pm_m zMT zCDs zM290 zD12 := ⟨sx_at2_mem (i := 290) rfl, rfl⟩
theorem zn290 : zM290.1.2.2.1 = 2 := rfl
theorem zmm291 : pm_m zMT zCDs zM291 zD12 := ⟨sx_at2_mem (i := 291) rfl, rfl⟩
theorem zn291 : zM291.1.2.2.1 = 2 := rfl
theorem zmm292 : pm_m zMT zCDs zM292 zD12 := ⟨sx_at2_mem (i := 292) rfl, rfl⟩
theorem zn292 : zM292.1.2.2.1 = 3 := rfl
theorem zmm293 : pm_m zMT zCDs zM293 zD12 := ⟨sx_at2_mem (i := 293) rfl, rfl⟩
theorem zn293 : zM293.1.2.2.1 = 4 := rfl
theorem zmm294 : pm_m zMT zCDs zM294 zD12 := ⟨sx_at2_mem (i := 294) rfl, rfl⟩
theorem zn294 : zM294.1.2.2.1 = 2 := rfl
theorem zmm295 : pm_m zMT zCDs zM295 zD12 := ⟨sx_at2_mem (i := 295) rfl, rfl⟩
theorem zn295 : zM295.1.2.2.1 = 2 := rfl
theorem zmm296 : pm_m zMT zCDs zM296 zD12 := ⟨sx_at2_mem (i := 296) rfl, rfl⟩
theorem zn296 : zM296.1.2.2.1 = 2 := rfl
theorem zmm297 : pm_m zMT zCDs zM297 zD12 := ⟨sx_at2_mem (i := 297) rfl, rfl⟩
theorem zn297 : zM297.1.2.2.1 = 2 := rfl
theorem zmm298 : pm_m zMT zCDs zM298 zD12 := ⟨sx_at2_mem (i := 298) rfl, rfl⟩
theorem zn298 : zM298.1.2.2.1 = 2 := rfl
theorem zmm303 : pm_m zMT zCDs zM303 zD12 := ⟨sx_at2_mem (i := 303) rfl, rfl⟩
theorem zn303 : zM303.1.2.2.1 = 5 := rfl
theorem zmm304 : pm_m zMT zCDs zM304 zD12 := ⟨sx_at2_mem (i := 304) rfl, rfl⟩
theorem zn304 : zM304.1.2.2.1 = 3 := rfl
theorem zmm305 : pm_m zMT zCDs zM305 zD12 := ⟨sx_at2_mem (i := 305) rfl, rfl⟩
theorem zn305 : zM305.1.2.2.1 = 6 := rfl
theorem zmm306 : pm_m zMT zCDs zM306 zD12 := ⟨sx_at2_mem (i := 306) rfl, rfl⟩
theorem zn306 : zM306.1.2.2.1 = 4 := rfl
theorem zmm307 : pm_m zMT zCDs zM307 zD12 := ⟨sx_at2_mem (i := 307) rfl, rfl⟩
theorem zn307 : zM307.1.2.2.1 = 4 := rfl
theorem zmm309 : pm_m zMT zCDs zM309 zD12 := ⟨sx_at2_mem (i := 309) rfl, rfl⟩
theorem zn309 : zM309.1.2.2.1 = 3 := rfl
theorem zmm310 : pm_m zMT zCDs zM310 zD12 := ⟨sx_at2_mem (i := 310) rfl, rfl⟩
theorem zn310 : zM310.1.2.2.1 = 5 := rfl
theorem zmm311 : pm_m zMT zCDs zM311 zD12 := ⟨sx_at2_mem (i := 311) rfl, rfl⟩
theorem zn311 : zM311.1.2.2.1 = 4 := rfl
theorem zmm318 : pm_m zMT zCDs zM318 zD12 := ⟨sx_at2_mem (i := 318) rfl, rfl⟩
theorem zn318 : zM318.1.2.2.1 = 9 := rfl
theorem zmm320 : pm_m zMT zCDs zM320 zD12 := ⟨sx_at2_mem (i := 320) rfl, rfl⟩
theorem zn320 : zM320.1.2.2.1 = 3 := rfl
set_option maxRecDepth 100000 in
theorem zp210_0 : zckp 210 5 0 150 (-2147483648) (2147483647) = true := by decide +kernel
set_option maxRecDepth 100000 in
theorem zp210_1 : zckp 210 5 1 150 (0) (11) = true := by decide +kernel
set_option maxRecDepth 100000 in
theorem zp210_2 : zckp 210 5 2 150 (0) (4) = true := by decide +kernel
set_option maxRecDepth 100000 in
theorem zp210_3 : zckp 210 5 3 150 (0) (17) = true := by decide +kernel
set_option maxRecDepth 100000 in
theorem zp210_4 : zckp 210 5 4 150 (-2147483648) (2147483647) = true := by decide +kernel
set_option maxRecDepth 100000 in
theorem zp222_0 : zckp 222 4 0 32 (-1) (999) = true := by decide +kernel
set_option maxRecDepth 100000 in
theorem zp222_1 : zckp 222 4 1 32 (0) (3) = true := by decide +kernel
set_option maxRecDepth 100000 in
theorem zp222_2 : zckp 222 4 2 32 (-1) (17) = true := by decide +kernel
set_option maxRecDepth 100000 in
theorem zp222_3 : zckp 222 4 3 32 (-1) (999) = true := by decide +kernel
set_option maxRecDepth 100000 in
theorem zs1_2 : zck 1 2 1 (0) (1) = true := by decide +kernel
set_option maxRecDepth 100000 in
theorem zs203_0 : zck 203 0 501 (-2147483648) (2147483647) = true := by decide +kernel
set_option maxRecDepth 100000 in
theorem zs204_0 : zck 204 0 501 (-2147483648) (2147483647) = true := by decide +kernel
set_option maxRecDepth 100000 in
theorem zs205_0 : zck 205 0 1 (0) (0) = true := by decide +kernel
set_option maxRecDepth 100000 in
theorem zs205_11 : zck 205 11 1 (0) (400) = true := by decide +kernel
set_option maxRecDepth 100000 in
theorem zs205_12 : zck 205 12 1 (0) (400) = true := by decide +kernel
set_option maxRecDepth 100000 in
theorem zs205_13 : zck 205 13 1 (0) (400) = true := by decide +kernel
set_option maxRecDepth 100000 in
theorem zs205_14 : zck 205 14 1 (0) (4) = true := by decide +kernel
set_option maxRecDepth 100000 in
theorem zs205_15 : zck 205 15 1 (-1) (99999) = true := by decide +kernel
set_option maxRecDepth 100000 in
theorem zs205_24 : zck 205 24 1 (0) (0) = true := by decide +kernel
set_option maxRecDepth 100000 in
theorem zs205_25 : zck 205 25 1 (0) (400) = true := by decide +kernel
set_option maxRecDepth 100000 in
theorem zs205_26 : zck 205 26 1 (0) (8) = true := by decide +kernel
set_option maxRecDepth 100000 in
theorem zs205_28 : zck 205 28 1 (0) (40) = true := by decide +kernel
set_option maxRecDepth 100000 in
theorem zs205_29 : zck 205 29 1 (0) (3) = true := by decide +kernel
set_option maxRecDepth 100000 in
theorem zs205_3 : zck 205 3 1 (0) (6) = true := by decide +kernel
set_option maxRecDepth 100000 in
theorem zs205_30 : zck 205 30 1 (-1) (400) = true := by decide +kernel
set_option maxRecDepth 100000 in
theorem zs205_31 : zck 205 31 1 (0) (3) = true := by decide +kernel
set_option maxRecDepth 100000 in
theorem zs205_32 : zck 205 32 1 (-1) (400) = true := by decide +kernel
set_option maxRecDepth 100000 in
theorem zs205_33 : zck 205 33 1 (0) (16) = true := by decide +kernel
set_option maxRecDepth 100000 in
theorem zs205_35 : zck 205 35 1 (0) (16) = true := by decide +kernel
set_option maxRecDepth 100000 in
theorem zs205_37 : zck 205 37 1 (0) (16) = true := by decide +kernel
set_option maxRecDepth 100000 in
theorem zs205_45 : zck 205 45 1 (0) (6) = true := by decide +kernel
set_option maxRecDepth 100000 in
theorem zs205_49 : zck 205 49 1 (-2147483648) (2147483647) = true := by decide +kernel
set_option maxRecDepth 100000 in
theorem zs205_5 : zck 205 5 1 (0) (1) = true := by decide +kernel
set_option maxRecDepth 100000 in
theorem zs205_50 : zck 205 50 1 (-2147483648) (2147483647) = true := by decide +kernel
set_option maxRecDepth 100000 in
theorem zs205_6 : zck 205 6 1 (0) (12) = true := by decide +kernel
set_option maxRecDepth 100000 in
theorem zs205_62 : zck 205 62 1 (0) (20) = true := by decide +kernel
set_option maxRecDepth 100000 in
theorem zs205_69 : zck 205 69 1 (0) (1) = true := by decide +kernel
set_option maxRecDepth 100000 in
theorem zs205_7 : zck 205 7 1 (0) (18) = true := by decide +kernel
set_option maxRecDepth 100000 in
theorem zs205_70 : zck 205 70 1 (0) (1) = true := by decide +kernel
set_option maxRecDepth 100000 in
theorem zs205_71 : zck 205 71 1 (0) (2600) = true := by decide +kernel
set_option maxRecDepth 100000 in
theorem zs206_0 : zck 206 0 1 (-2147483648) (2147483647) = true := by decide +kernel
set_option maxRecDepth 100000 in
theorem zs206_1 : zck 206 1 1 (0) (11) = true := by decide +kernel
set_option maxRecDepth 100000 in
theorem zs206_106 : zck 206 106 18 (0) (12) = true := by decide +kernel
set_option maxRecDepth 100000 in
theorem zs206_124 : zck 206 124 36 (-2147483648) (2147483647) = true := by decide +kernel
set_option maxRecDepth 100000 in
theorem zs206_3 : zck 206 3 1 (0) (150) = true := by decide +kernel
set_option maxRecDepth 100000 in
theorem zs206_4 : zck 206 4 24 (0) (99) = true := by decide +kernel
set_option maxRecDepth 100000 in
theorem zs206_40 : zck 206 40 12 (0) (1) = true := by decide +kernel
set_option maxRecDepth 100000 in
theorem zs206_52 : zck 206 52 24 (0) (18) = true := by decide +kernel
set_option maxRecDepth 100000 in
theorem zs206_88 : zck 206 88 18 (-1000) (9999) = true := by decide +kernel
set_option maxRecDepth 100000 in
theorem zs211_0 : zck 211 0 400 (0) (255) = true := by decide +kernel
set_option maxRecDepth 100000 in
theorem zs213_0 : zck 213 0 2 (0) (16) = true := by decide +kernel
set_option maxRecDepth 100000 in
theorem zs214_0 : zck 214 0 48 (0) (2) = true := by decide +kernel
set_option maxRecDepth 100000 in
theorem zs215_0 : zck 215 0 48 (0) (400) = true := by decide +kernel
set_option maxRecDepth 100000 in
theorem zs216_0 : zck 216 0 48 (0) (400) = true := by decide +kernel
set_option maxRecDepth 100000 in
theorem zs217_0 : zck 217 0 48 (0) (400) = true := by decide +kernel
set_option maxRecDepth 100000 in
theorem zs218_0 : zck 218 0 1200 (0) (12) = true := by decide +kernel
set_option maxRecDepth 100000 in
theorem zs219_0 : zck 219 0 1200 (-1) (99999) = true := by decide +kernel
set_option maxRecDepth 100000 in
theorem zs220_0 : zck 220 0 40 (0) (12) = true := by decide +kernel
set_option maxRecDepth 100000 in
theorem zs223_0 : zck 223 0 288 (0) (99) = true := by decide +kernel
set_option maxRecDepth 100000 in
theorem zs225_0 : zck 225 0 420 (-2147483648) (2147483647) = true := by decide +kernel
set_option maxRecDepth 100000 in
theorem zs226_0 : zck 226 0 144 (0) (100000000) = true := by decide +kernel
set_option maxRecDepth 100000 in
theorem zs227_0 : zck 227 0 256 (0) (100000000) = true := by decide +kernel
set_option maxRecDepth 100000 in
theorem zs230_0 : zck 230 0 6 (0) (50) = true := by decide +kernel
set_option maxRecDepth 100000 in
theorem zs231_0 : zck 231 0 321 (-2147483648) (2147483647) = true := by decide +kernel
set_option maxRecDepth 100000 in
theorem zs232_0 : zck 232 0 4 (-99) (99) = true := by decide +kernel
set_option maxRecDepth 100000 in
theorem zs240_0 : zck 240 0 20 (0) (6) = true := by decide +kernel
set_option maxRecDepth 100000 in
theorem zs245_0 : zck 245 0 2600 (-2147483648) (2147483647) = true := by decide +kernel
set_option maxRecDepth 100000 in
theorem zs29_1 : zck 29 1 1 (0) (6) = true := by decide +kernel
set_option maxRecDepth 100000 in
theorem zs2_2 : zck 2 2 1 (0) (150) = true := by decide +kernel
set_option maxRecDepth 100000 in
theorem zs30_0 : zck 30 0 6 (0) (50) = true := by decide +kernel
set_option maxRecDepth 100000 in
theorem zs33_1 : zck 33 1 1 (0) (10) = true := by decide +kernel
set_option maxRecDepth 100000 in
theorem zs34_0 : zck 34 0 10 (0) (20) = true := by decide +kernel
set_option maxRecDepth 100000 in
theorem zs35_1 : zck 35 1 1 (0) (10) = true := by decide +kernel
set_option maxRecDepth 100000 in
theorem zs36_0 : zck 36 0 10 (0) (99) = true := by decide +kernel
set_option maxRecDepth 100000 in
theorem zs45_2 : zck 45 2 1 (0) (150) = true := by decide +kernel
set_option maxRecDepth 100000 in
theorem zs76_1 : zck 76 1 1 (0) (10) = true := by decide +kernel
set_option maxRecDepth 100000 in
theorem zs78_1 : zck 78 1 1 (0) (10) = true := by decide +kernel
set_option maxRecDepth 100000 in
theorem zs96_3 : zck 96 3 1 (0) (6) = true := by decide +kernel
set_option maxRecDepth 100000 in
theorem zr224 : zckr 224 11 = true := by decide +kernel
