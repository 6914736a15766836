/-! runs by contract -/
set_option maxRecDepth 100000 in
theorem zU344 : zrun2 344 30000 = true := by decide +kernel
set_option maxRecDepth 100000 in
theorem zU345 : zrun2 345 30000 = true := by decide +kernel
set_option maxRecDepth 100000 in
theorem zU346 : zrun2 346 30000 = true := by decide +kernel
set_option maxRecDepth 100000 in
theorem zU347 : zrun2 347 30000 = true := by decide +kernel
set_option maxRecDepth 100000 in
theorem zU348 : zrun2 348 30000 = true := by decide +kernel
set_option maxRecDepth 100000 in
theorem zU349 : zrun2 349 30000 = true := by decide +kernel
set_option maxRecDepth 100000 in
theorem zU350 : zrun2 350 30000 = true := by decide +kernel
set_option maxRecDepth 100000 in
theorem zU351 : zrun2 351 30000 = true := by decide +kernel
set_option maxRecDepth 100000 in
theorem zU352 : zrun2 352 30000 = true := by decide +kernel
set_option maxRecDepth 100000 in
theorem zU353 : zrun2 353 30000 = true := by decide +kernel
set_option maxRecDepth 100000 in
theorem zU354 : zrun2 354 30000 = true := by decide +kernel
set_option maxRecDepth 100000 in
theorem zU355 : zrun2 355 30000 = true := by decide +kernel
set_option maxRecDepth 100000 in
theorem zU356 : zrun2 356 30000 = true := by decide +kernel
set_option maxRecDepth 100000 in
theorem zU358 : zrun2 358 30000 = true := by decide +kernel
set_option maxRecDepth 100000 in
theorem zU359 : zrun2 359 30000 = true := by decide +kernel
set_option maxRecDepth 100000 in
theorem zU360 : zrun2 360 30000 = true := by decide +kernel
set_option maxRecDepth 100000 in
theorem zU361 : zrun2 361 30000 = true := by decide +kernel
set_option maxRecDepth 100000 in
theorem zU362 : zrun2 362 30000 = true := by decide +kernel
set_option maxRecDepth 100000 in
theorem zU363 : zrun2 363 30000 = true := by decide +kernel
set_option maxRecDepth 100000 in
theorem zU364 : zrun2 364 30000 = true := by decide +kernel
set_option maxRecDepth 100000 in
theorem zU365 : zrun2 365 30000 = true := by decide +kernel
set_option maxRecDepth 100000 in
theorem zU366 : zrun2 366 30000 = true := by decide +kernel
set_option maxRecDepth 100000 in
theorem zU367 : zrun2 367 30000 = true := by decide +kernel
set_option maxRecDepth 100000 in
theorem zU368 : zrun2 368 30000 = true := by decide +kernel
