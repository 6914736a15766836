/-! runs by contract -/
set_option maxRecDepth 100000 in
theorem zU451 : zrun2 451 30000 = true := by decide +kernel
set_option maxRecDepth 100000 in
theorem zU453 : zrun2 453 30000 = true := by decide +kernel
set_option maxRecDepth 100000 in
theorem zU454 : zrun2 454 30000 = true := by decide +kernel
set_option maxRecDepth 100000 in
theorem zU455 : zrun2 455 30000 = true := by decide +kernel
set_option maxRecDepth 100000 in
theorem zU456 : zrun2 456 30000 = true := by decide +kernel
set_option maxRecDepth 100000 in
theorem zU457 : zrun2 457 30000 = true := by decide +kernel
set_option maxRecDepth 100000 in
theorem zU458 : zrun2 458 30000 = true := by decide +kernel
set_option maxRecDepth 100000 in
theorem zU459 : zrun2 459 30000 = true := by decide +kernel
set_option maxRecDepth 100000 in
theorem zU460 : zrun2 460 30000 = true := by decide +kernel
set_option maxRecDepth 100000 in
theorem zU462 : zrun2 462 30000 = true := by decide +kernel
set_option maxRecDepth 100000 in
theorem zU464 : zrun2 464 30000 = true := by decide +kernel
set_option maxRecDepth 100000 in
theorem zU465 : zrun2 465 30000 = true := by decide +kernel
set_option maxRecDepth 100000 in
theorem zU466 : zrun2 466 30000 = true := by decide +kernel
set_option maxRecDepth 100000 in
theorem zU467 : zrun2 467 30000 = true := by decide +kernel
set_option maxRecDepth 100000 in
theorem zU469 : zrun2 469 30000 = true := by decide +kernel
