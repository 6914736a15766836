/-! runs by contract -/
set_option maxRecDepth 100000 in
theorem zU473 : zrun3 473 30000 = true := by decide +kernel
set_option maxRecDepth 100000 in
theorem zU475 : zrun3 475 30000 = true := by decide +kernel
set_option maxRecDepth 100000 in
theorem zU476 : zrun3 476 30000 = true := by decide +kernel
set_option maxRecDepth 100000 in
theorem zU477 : zrun3 477 30000 = true := by decide +kernel
set_option maxRecDepth 100000 in
theorem zU478 : zrun3 478 30000 = true := by decide +kernel
set_option maxRecDepth 100000 in
theorem zU479 : zrun3 479 30000 = true := by decide +kernel
set_option maxRecDepth 100000 in
theorem zU480 : zrun3 480 30000 = true := by decide +kernel
set_option maxRecDepth 100000 in
theorem zU482 : zrun3 482 30000 = true := by decide +kernel
set_option maxRecDepth 100000 in
theorem zU483 : zrun3 483 30000 = true := by decide +kernel
set_option maxRecDepth 100000 in
theorem zU484 : zrun3 484 30000 = true := by decide +kernel
set_option maxRecDepth 100000 in
theorem zU485 : zrun3 485 30000 = true := by decide +kernel
set_option maxRecDepth 100000 in
theorem zU486 : zrun3 486 30000 = true := by decide +kernel
set_option maxRecDepth 100000 in
theorem zU487 : zrun3 487 30000 = true := by decide +kernel
set_option maxRecDepth 100000 in
theorem zU488 : zrun3 488 30000 = true := by decide +kernel
set_option maxRecDepth 100000 in
theorem zU489 : zrun3 489 30000 = true := by decide +kernel
set_option maxRecDepth 100000 in
theorem zU490 : zrun3 490 30000 = true := by decide +kernel
set_option maxRecDepth 100000 in
theorem zU491 : zrun3 491 30000 = true := by decide +kernel
set_option maxRecDepth 100000 in
theorem zU492 : zrun3 492 30000 = true := by decide +kernel
set_option maxRecDepth 100000 in
theorem zU494 : zrun3 494 30000 = true := by decide +kernel
set_option maxRecDepth 100000 in
theorem zU495 : zrun3 495 30000 = true := by decide +kernel
