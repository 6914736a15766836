/-! runs by contract -/
set_option maxRecDepth 100000 in
theorem zU430 : zrun2 430 30000 = true := by decide +kernel
set_option maxRecDepth 100000 in
theorem zU437 : zrun2 437 30000 = true := by decide +kernel
set_option maxRecDepth 100000 in
theorem zU438 : zrun2 438 30000 = true := by decide +kernel
set_option maxRecDepth 100000 in
theorem zU439 : zrun2 439 30000 = true := by decide +kernel
set_option maxRecDepth 100000 in
theorem zU440 : zrun2 440 30000 = true := by decide +kernel
set_option maxRecDepth 100000 in
theorem zU442 : zrun2 442 30000 = true := by decide +kernel
set_option maxRecDepth 100000 in
theorem zU443 : zrun2 443 30000 = true := by decide +kernel
set_option maxRecDepth 100000 in
theorem zU444 : zrun2 444 30000 = true := by decide +kernel
set_option maxRecDepth 100000 in
theorem zU449 : zrun2 449 30000 = true := by decide +kernel
set_option maxRecDepth 100000 in
theorem zU451 : zrun2 451 30000 = true := by decide +kernel
set_option maxRecDepth 100000 in
theorem zU452 : zrun2 452 30000 = true := by decide +kernel
set_option maxRecDepth 100000 in
theorem zU455 : zrun2 455 30000 = true := by decide +kernel
set_option maxRecDepth 100000 in
theorem zU456 : zrun2 456 30000 = true := by decide +kernel
set_option maxRecDepth 100000 in
theorem zU457 : zrun2 457 30000 = true := by decide +kernel
set_option maxRecDepth 100000 in
theorem zU459 : zrun2 459 30000 = true := by decide +kernel
set_option maxRecDepth 100000 in
theorem zU461 : zrun2 461 30000 = true := by decide +kernel
set_option maxRecDepth 100000 in
theorem zU462 : zrun2 462 30000 = true := by decide +kernel
set_option maxRecDepth 100000 in
theorem zU463 : zrun2 463 30000 = true := by decide +kernel
set_option maxRecDepth 100000 in
theorem zU464 : zrun2 464 30000 = true := by decide +kernel
set_option maxRecDepth 100000 in
theorem zU465 : zrun2 465 30000 = true := by decide +kernel
set_option maxRecDepth 100000 in
theorem zU467 : zrun2 467 30000 = true := by decide +kernel
