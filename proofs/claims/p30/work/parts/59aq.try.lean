/-! runs by contract -/
set_option maxRecDepth 100000 in
theorem zU369 : zrun2 369 30000 = true := by decide +kernel
set_option maxRecDepth 100000 in
theorem zU370 : zrun2 370 30000 = true := by decide +kernel
set_option maxRecDepth 100000 in
theorem zU371 : zrun2 371 30000 = true := by decide +kernel
set_option maxRecDepth 100000 in
theorem zU372 : zrun2 372 30000 = true := by decide +kernel
set_option maxRecDepth 100000 in
theorem zU373 : zrun2 373 30000 = true := by decide +kernel
set_option maxRecDepth 100000 in
theorem zU374 : zrun2 374 30000 = true := by decide +kernel
set_option maxRecDepth 100000 in
theorem zU375 : zrun2 375 30000 = true := by decide +kernel
set_option maxRecDepth 100000 in
theorem zU376 : zrun2 376 30000 = true := by decide +kernel
set_option maxRecDepth 100000 in
theorem zU377 : zrun2 377 30000 = true := by decide +kernel
set_option maxRecDepth 100000 in
theorem zU378 : zrun2 378 30000 = true := by decide +kernel
set_option maxRecDepth 100000 in
theorem zU379 : zrun2 379 30000 = true := by decide +kernel
set_option maxRecDepth 100000 in
theorem zU380 : zrun2 380 30000 = true := by decide +kernel
set_option maxRecDepth 100000 in
theorem zU381 : zrun2 381 30000 = true := by decide +kernel
set_option maxRecDepth 100000 in
theorem zU382 : zrun2 382 30000 = true := by decide +kernel
set_option maxRecDepth 100000 in
theorem zU383 : zrun2 383 30000 = true := by decide +kernel
set_option maxRecDepth 100000 in
theorem zU384 : zrun2 384 30000 = true := by decide +kernel
set_option maxRecDepth 100000 in
theorem zU385 : zrun2 385 30000 = true := by decide +kernel
set_option maxRecDepth 100000 in
theorem zU386 : zrun2 386 30000 = true := by decide +kernel
set_option maxRecDepth 100000 in
theorem zU387 : zrun2 387 30000 = true := by decide +kernel
set_option maxRecDepth 100000 in
theorem zU388 : zrun2 388 30000 = true := by decide +kernel
set_option maxRecDepth 100000 in
theorem zU389 : zrun2 389 30000 = true := by decide +kernel
set_option maxRecDepth 100000 in
theorem zU390 : zrun2 390 30000 = true := by decide +kernel
set_option maxRecDepth 100000 in
theorem zU391 : zrun2 391 30000 = true := by decide +kernel
set_option maxRecDepth 100000 in
theorem zU392 : zrun2 392 30000 = true := by decide +kernel
