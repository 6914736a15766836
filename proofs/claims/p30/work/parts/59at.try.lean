/-! runs by contract -/
set_option maxRecDepth 100000 in
theorem zU446 : zrun2 446 30000 = true := by decide +kernel
set_option maxRecDepth 100000 in
theorem zU447 : zrun2 447 30000 = true := by decide +kernel
set_option maxRecDepth 100000 in
theorem zU448 : zrun2 448 30000 = true := by decide +kernel
set_option maxRecDepth 100000 in
theorem zU449 : zrun2 449 30000 = true := by decide +kernel
set_option maxRecDepth 100000 in
theorem zU450 : zrun2 450 30000 = true := by decide +kernel
set_option maxRecDepth 100000 in
theorem zU451 : zrun2 451 30000 = true := by decide +kernel
set_option maxRecDepth 100000 in
theorem zU452 : zrun2 452 30000 = true := by decide +kernel
set_option maxRecDepth 100000 in
theorem zU453 : zrun2 453 30000 = true := by decide +kernel
set_option maxRecDepth 100000 in
theorem zU454 : zrun2 454 30000 = true := by decide +kernel
set_option maxRecDepth 100000 in
theorem zU455 : zrun2 455 30000 = true := by decide +kernel
set_option maxRecDepth 100000 in
theorem zU456 : zrun2 456 30000 = true := by decide +kernel
set_option maxRecDepth 100000 in
theorem zU457 : zrun2 457 30000 = true := by decide +kernel
set_option maxRecDepth 100000 in
theorem zU459 : zrun2 459 30000 = true := by decide +kernel
set_option maxRecDepth 100000 in
theorem zU460 : zrun2 460 30000 = true := by decide +kernel
set_option maxRecDepth 100000 in
theorem zU461 : zrun2 461 30000 = true := by decide +kernel
set_option maxRecDepth 100000 in
theorem zU462 : zrun2 462 30000 = true := by decide +kernel
set_option maxRecDepth 100000 in
theorem zU464 : zrun2 464 30000 = true := by decide +kernel
set_option maxRecDepth 100000 in
theorem zU466 : zrun2 466 30000 = true := by decide +kernel
set_option maxRecDepth 100000 in
theorem zU467 : zrun2 467 30000 = true := by decide +kernel
set_option maxRecDepth 100000 in
theorem zU468 : zrun2 468 30000 = true := by decide +kernel
set_option maxRecDepth 100000 in
theorem zU469 : zrun2 469 30000 = true := by decide +kernel
set_option maxRecDepth 100000 in
theorem zU470 : zrun2 470 30000 = true := by decide +kernel
set_option maxRecDepth 100000 in
theorem zU471 : zrun2 471 30000 = true := by decide +kernel
set_option maxRecDepth 100000 in
theorem zU472 : zrun2 472 30000 = true := by decide +kernel
