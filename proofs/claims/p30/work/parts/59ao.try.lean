/-! runs by contract -/
set_option maxRecDepth 100000 in
theorem zU320 : zrun2 320 30000 = true := by decide +kernel
set_option maxRecDepth 100000 in
theorem zU321 : zrun2 321 30000 = true := by decide +kernel
set_option maxRecDepth 100000 in
theorem zU322 : zrun2 322 30000 = true := by decide +kernel
set_option maxRecDepth 100000 in
theorem zU323 : zrun2 323 30000 = true := by decide +kernel
set_option maxRecDepth 100000 in
theorem zU324 : zrun2 324 30000 = true := by decide +kernel
set_option maxRecDepth 100000 in
theorem zU325 : zrun2 325 30000 = true := by decide +kernel
set_option maxRecDepth 100000 in
theorem zU326 : zrun2 326 30000 = true := by decide +kernel
set_option maxRecDepth 100000 in
theorem zU327 : zrun2 327 30000 = true := by decide +kernel
set_option maxRecDepth 100000 in
theorem zU328 : zrun2 328 30000 = true := by decide +kernel
set_option maxRecDepth 100000 in
theorem zU329 : zrun2 329 30000 = true := by decide +kernel
set_option maxRecDepth 100000 in
theorem zU330 : zrun2 330 30000 = true := by decide +kernel
set_option maxRecDepth 100000 in
theorem zU331 : zrun2 331 30000 = true := by decide +kernel
set_option maxRecDepth 100000 in
theorem zU332 : zrun2 332 30000 = true := by decide +kernel
set_option maxRecDepth 100000 in
theorem zU333 : zrun2 333 30000 = true := by decide +kernel
set_option maxRecDepth 100000 in
theorem zU334 : zrun2 334 30000 = true := by decide +kernel
set_option maxRecDepth 100000 in
theorem zU335 : zrun2 335 30000 = true := by decide +kernel
set_option maxRecDepth 100000 in
theorem zU336 : zrun2 336 30000 = true := by decide +kernel
set_option maxRecDepth 100000 in
theorem zU337 : zrun2 337 30000 = true := by decide +kernel
set_option maxRecDepth 100000 in
theorem zU338 : zrun2 338 30000 = true := by decide +kernel
set_option maxRecDepth 100000 in
theorem zU339 : zrun2 339 30000 = true := by decide +kernel
set_option maxRecDepth 100000 in
theorem zU340 : zrun2 340 30000 = true := by decide +kernel
set_option maxRecDepth 100000 in
theorem zU341 : zrun2 341 30000 = true := by decide +kernel
set_option maxRecDepth 100000 in
theorem zU342 : zrun2 342 30000 = true := by decide +kernel
set_option maxRecDepth 100000 in
theorem zU343 : zrun2 343 30000 = true := by decide +kernel
