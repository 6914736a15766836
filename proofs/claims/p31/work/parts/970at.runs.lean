/-! runs by contract -/
set_option maxRecDepth 100000 in
theorem zU446 : zrun3 446 30000 = true := by decide +kernel
set_option maxRecDepth 100000 in
theorem zU447 : zrun3 447 30000 = true := by decide +kernel
set_option maxRecDepth 100000 in
theorem zU448 : zrun3 448 30000 = true := by decide +kernel
set_option maxRecDepth 100000 in
theorem zU449 : zrun3 449 30000 = true := by decide +kernel
set_option maxRecDepth 100000 in
theorem zU450 : zrun3 450 30000 = true := by decide +kernel
set_option maxRecDepth 100000 in
theorem zU451 : zrun3 451 30000 = true := by decide +kernel
set_option maxRecDepth 100000 in
theorem zU452 : zrun3 452 30000 = true := by decide +kernel
set_option maxRecDepth 100000 in
theorem zU453 : zrun3 453 30000 = true := by decide +kernel
set_option maxRecDepth 100000 in
theorem zU454 : zrun3 454 30000 = true := by decide +kernel
set_option maxRecDepth 100000 in
theorem zU455 : zrun3 455 30000 = true := by decide +kernel
set_option maxRecDepth 100000 in
theorem zU456 : zrun3 456 30000 = true := by decide +kernel
set_option maxRecDepth 100000 in
theorem zU457 : zrun3 457 30000 = true := by decide +kernel
set_option maxRecDepth 100000 in
theorem zU459 : zrun3 459 30000 = true := by decide +kernel
set_option maxRecDepth 100000 in
theorem zU460 : zrun3 460 30000 = true := by decide +kernel
set_option maxRecDepth 100000 in
theorem zU461 : zrun3 461 30000 = true := by decide +kernel
set_option maxRecDepth 100000 in
theorem zU462 : zrun3 462 30000 = true := by decide +kernel
set_option maxRecDepth 100000 in
theorem zU464 : zrun3 464 30000 = true := by decide +kernel
set_option maxRecDepth 100000 in
theorem zU466 : zrun3 466 30000 = true := by decide +kernel
set_option maxRecDepth 100000 in
theorem zU467 : zrun3 467 30000 = true := by decide +kernel
set_option maxRecDepth 100000 in
theorem zU468 : zrun3 468 30000 = true := by decide +kernel
set_option maxRecDepth 100000 in
theorem zU469 : zrun3 469 30000 = true := by decide +kernel
set_option maxRecDepth 100000 in
theorem zU470 : zrun3 470 30000 = true := by decide +kernel
set_option maxRecDepth 100000 in
theorem zU471 : zrun3 471 30000 = true := by decide +kernel
set_option maxRecDepth 100000 in
theorem zU472 : zrun3 472 30000 = true := by decide +kernel
