/-! runs by contract -/
set_option maxRecDepth 100000 in
theorem zU369 : zrun3 369 30000 = true := by decide +kernel
set_option maxRecDepth 100000 in
theorem zU370 : zrun3 370 30000 = true := by decide +kernel
set_option maxRecDepth 100000 in
theorem zU371 : zrun3 371 30000 = true := by decide +kernel
set_option maxRecDepth 100000 in
theorem zU372 : zrun3 372 30000 = true := by decide +kernel
set_option maxRecDepth 100000 in
theorem zU373 : zrun3 373 30000 = true := by decide +kernel
set_option maxRecDepth 100000 in
theorem zU374 : zrun3 374 30000 = true := by decide +kernel
set_option maxRecDepth 100000 in
theorem zU375 : zrun3 375 30000 = true := by decide +kernel
set_option maxRecDepth 100000 in
theorem zU376 : zrun3 376 30000 = true := by decide +kernel
set_option maxRecDepth 100000 in
theorem zU377 : zrun3 377 30000 = true := by decide +kernel
set_option maxRecDepth 100000 in
theorem zU378 : zrun3 378 30000 = true := by decide +kernel
set_option maxRecDepth 100000 in
theorem zU379 : zrun3 379 30000 = true := by decide +kernel
set_option maxRecDepth 100000 in
theorem zU380 : zrun3 380 30000 = true := by decide +kernel
set_option maxRecDepth 100000 in
theorem zU381 : zrun3 381 30000 = true := by decide +kernel
set_option maxRecDepth 100000 in
theorem zU382 : zrun3 382 30000 = true := by decide +kernel
set_option maxRecDepth 100000 in
theorem zU383 : zrun3 383 30000 = true := by decide +kernel
set_option maxRecDepth 100000 in
theorem zU384 : zrun3 384 30000 = true := by decide +kernel
set_option maxRecDepth 100000 in
theorem zU385 : zrun3 385 30000 = true := by decide +kernel
set_option maxRecDepth 100000 in
theorem zU386 : zrun3 386 30000 = true := by decide +kernel
set_option maxRecDepth 100000 in
theorem zU387 : zrun3 387 30000 = true := by decide +kernel
set_option maxRecDepth 100000 in
theorem zU388 : zrun3 388 30000 = true := by decide +kernel
set_option maxRecDepth 100000 in
theorem zU389 : zrun3 389 30000 = true := by decide +kernel
set_option maxRecDepth 100000 in
theorem zU390 : zrun3 390 30000 = true := by decide +kernel
set_option maxRecDepth 100000 in
theorem zU391 : zrun3 391 30000 = true := by decide +kernel
set_option maxRecDepth 100000 in
theorem zU392 : zrun3 392 30000 = true := by decide +kernel
