/-! runs by contract -/
set_option maxRecDepth 100000 in
theorem zU344 : zrun3 344 30000 = true := by decide +kernel
set_option maxRecDepth 100000 in
theorem zU345 : zrun3 345 30000 = true := by decide +kernel
set_option maxRecDepth 100000 in
theorem zU346 : zrun3 346 30000 = true := by decide +kernel
set_option maxRecDepth 100000 in
theorem zU347 : zrun3 347 30000 = true := by decide +kernel
set_option maxRecDepth 100000 in
theorem zU348 : zrun3 348 30000 = true := by decide +kernel
set_option maxRecDepth 100000 in
theorem zU349 : zrun3 349 30000 = true := by decide +kernel
set_option maxRecDepth 100000 in
theorem zU350 : zrun3 350 30000 = true := by decide +kernel
set_option maxRecDepth 100000 in
theorem zU351 : zrun3 351 30000 = true := by decide +kernel
set_option maxRecDepth 100000 in
theorem zU352 : zrun3 352 30000 = true := by decide +kernel
set_option maxRecDepth 100000 in
theorem zU353 : zrun3 353 30000 = true := by decide +kernel
set_option maxRecDepth 100000 in
theorem zU354 : zrun3 354 30000 = true := by decide +kernel
set_option maxRecDepth 100000 in
theorem zU355 : zrun3 355 30000 = true := by decide +kernel
set_option maxRecDepth 100000 in
theorem zU356 : zrun3 356 30000 = true := by decide +kernel
set_option maxRecDepth 100000 in
theorem zU358 : zrun3 358 30000 = true := by decide +kernel
set_option maxRecDepth 100000 in
theorem zU359 : zrun3 359 30000 = true := by decide +kernel
set_option maxRecDepth 100000 in
theorem zU360 : zrun3 360 30000 = true := by decide +kernel
set_option maxRecDepth 100000 in
theorem zU361 : zrun3 361 30000 = true := by decide +kernel
set_option maxRecDepth 100000 in
theorem zU362 : zrun3 362 30000 = true := by decide +kernel
set_option maxRecDepth 100000 in
theorem zU363 : zrun3 363 30000 = true := by decide +kernel
set_option maxRecDepth 100000 in
theorem zU364 : zrun3 364 30000 = true := by decide +kernel
set_option maxRecDepth 100000 in
theorem zU365 : zrun3 365 30000 = true := by decide +kernel
set_option maxRecDepth 100000 in
theorem zU366 : zrun3 366 30000 = true := by decide +kernel
set_option maxRecDepth 100000 in
theorem zU367 : zrun3 367 30000 = true := by decide +kernel
set_option maxRecDepth 100000 in
theorem zU368 : zrun3 368 30000 = true := by decide +kernel
