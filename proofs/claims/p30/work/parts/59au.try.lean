/-! runs by contract -/
set_option maxRecDepth 100000 in
theorem zU473 : zrun2 473 30000 = true := by decide +kernel
set_option maxRecDepth 100000 in
theorem zU475 : zrun2 475 30000 = true := by decide +kernel
set_option maxRecDepth 100000 in
theorem zU476 : zrun2 476 30000 = true := by decide +kernel
set_option maxRecDepth 100000 in
theorem zU477 : zrun2 477 30000 = true := by decide +kernel
set_option maxRecDepth 100000 in
theorem zU478 : zrun2 478 30000 = true := by decide +kernel
set_option maxRecDepth 100000 in
theorem zU479 : zrun2 479 30000 = true := by decide +kernel
set_option maxRecDepth 100000 in
theorem zU480 : zrun2 480 30000 = true := by decide +kernel
set_option maxRecDepth 100000 in
theorem zU482 : zrun2 482 30000 = true := by decide +kernel
set_option maxRecDepth 100000 in
theorem zU483 : zrun2 483 30000 = true := by decide +kernel
set_option maxRecDepth 100000 in
theorem zU484 : zrun2 484 30000 = true := by decide +kernel
set_option maxRecDepth 100000 in
theorem zU485 : zrun2 485 30000 = true := by decide +kernel
set_option maxRecDepth 100000 in
theorem zU486 : zrun2 486 30000 = true := by decide +kernel
set_option maxRecDepth 100000 in
theorem zU487 : zrun2 487 30000 = true := by decide +kernel
set_option maxRecDepth 100000 in
theorem zU488 : zrun2 488 30000 = true := by decide +kernel
set_option maxRecDepth 100000 in
theorem zU489 : zrun2 489 30000 = true := by decide +kernel
set_option maxRecDepth 100000 in
theorem zU490 : zrun2 490 30000 = true := by decide +kernel
set_option maxRecDepth 100000 in
theorem zU491 : zrun2 491 30000 = true := by decide +kernel
set_option maxRecDepth 100000 in
theorem zU492 : zrun2 492 30000 = true := by decide +kernel
set_option maxRecDepth 100000 in
theorem zU494 : zrun2 494 30000 = true := by decide +kernel
set_option maxRecDepth 100000 in
theorem zU495 : zrun2 495 30000 = true := by decide +kernel
