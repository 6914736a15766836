/-! runs by contract -/
set_option maxRecDepth 100000 in
theorem zU320 : zrun3 320 30000 = true := by decide +kernel
set_option maxRecDepth 100000 in
theorem zU321 : zrun3 321 30000 = true := by decide +kernel
set_option maxRecDepth 100000 in
theorem zU322 : zrun3 322 30000 = true := by decide +kernel
set_option maxRecDepth 100000 in
theorem zU323 : zrun3 323 30000 = true := by decide +kernel
set_option maxRecDepth 100000 in
theorem zU324 : zrun3 324 30000 = true := by decide +kernel
set_option maxRecDepth 100000 in
theorem zU325 : zrun3 325 30000 = true := by decide +kernel
set_option maxRecDepth 100000 in
theorem zU326 : zrun3 326 30000 = true := by decide +kernel
set_option maxRecDepth 100000 in
theorem zU327 : zrun3 327 30000 = true := by decide +kernel
set_option maxRecDepth 100000 in
theorem zU328 : zrun3 328 30000 = true := by decide +kernel
set_option maxRecDepth 100000 in
theorem zU329 : zrun3 329 30000 = true := by decide +kernel
set_option maxRecDepth 100000 in
theorem zU330 : zrun3 330 30000 = true := by decide +kernel
set_option maxRecDepth 100000 in
theorem zU331 : zrun3 331 30000 = true := by decide +kernel
set_option maxRecDepth 100000 in
theorem zU332 : zrun3 332 30000 = true := by decide +kernel
set_option maxRecDepth 100000 in
theorem zU333 : zrun3 333 30000 = true := by decide +kernel
set_option maxRecDepth 100000 in
theorem zU334 : zrun3 334 30000 = true := by decide +kernel
set_option maxRecDepth 100000 in
theorem zU335 : zrun3 335 30000 = true := by decide +kernel
set_option maxRecDepth 100000 in
theorem zU336 : zrun3 336 30000 = true := by decide +kernel
set_option maxRecDepth 100000 in
theorem zU337 : zrun3 337 30000 = true := by decide +kernel
set_option maxRecDepth 100000 in
theorem zU338 : zrun3 338 30000 = true := by decide +kernel
set_option maxRecDepth 100000 in
theorem zU339 : zrun3 339 30000 = true := by decide +kernel
set_option maxRecDepth 100000 in
theorem zU340 : zrun3 340 30000 = true := by decide +kernel
set_option maxRecDepth 100000 in
theorem zU341 : zrun3 341 30000 = true := by decide +kernel
set_option maxRecDepth 100000 in
theorem zU342 : zrun3 342 30000 = true := by decide +kernel
set_option maxRecDepth 100000 in
theorem zU343 : zrun3 343 30000 = true := by decide +kernel
