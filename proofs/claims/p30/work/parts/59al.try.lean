/-! runs by contract -/
set_option maxRecDepth 100000 in
theorem zU430 : zrun2 430 30000 = true := by decide +kernel
set_option maxRecDepth 100000 in
theorem zU437 : zrun2 437 30000 = true := by decide +kernel
set_option maxRecDepth 100000 in
theorem zU438 : zrun2 438 30000 = true := by decide +kernel
set_option maxRecDepth 100000 in
theorem zU439 : zrun2 439 30000 = true := by decide +kernel
set_option maxRecDepth 100000 in
theorem zU440 : zrun2 440 30000 = true := by decide +kernel
set_option maxRecDepth 100000 in
theorem zU442 : zrun2 442 30000 = true := by decide +kernel
set_option maxRecDepth 100000 in
theorem zU443 : zrun2 443 30000 = true := by decide +kernel
set_option maxRecDepth 100000 in
theorem zU444 : zrun2 444 30000 = true := by decide +kernel
set_option maxRecDepth 100000 in
theorem zU445 : zrun2 445 30000 = true := by decide +kernel
set_option maxRecDepth 100000 in
theorem zU446 : zrun2 446 30000 = true := by decide +kernel
set_option maxRecDepth 100000 in
theorem zU449 : zrun2 449 30000 = true := by decide +kernel
set_option maxRecDepth 100000 in
theorem zU450 : zrun2 450 30000 = true := by decide +kernel
set_option maxRecDepth 100000 in
theorem zU451 : zrun2 451 30000 = true := by decide +kernel
set_option maxRecDepth 100000 in
theorem zU455 : zrun2 455 30000 = true := by decide +kernel
set_option maxRecDepth 100000 in
theorem zU457 : zrun2 457 30000 = true := by decide +kernel
set_option maxRecDepth 100000 in
theorem zU458 : zrun2 458 30000 = true := by decide +kernel
set_option maxRecDepth 100000 in
theorem zU460 : zrun2 460 30000 = true := by decide +kernel
set_option maxRecDepth 100000 in
theorem zU462 : zrun2 462 30000 = true := by decide +kernel
set_option maxRecDepth 100000 in
theorem zU463 : zrun2 463 30000 = true := by decide +kernel
set_option maxRecDepth 100000 in
theorem zU464 : zrun2 464 30000 = true := by decide +kernel
set_option maxRecDepth 100000 in
theorem zU465 : zrun2 465 30000 = true := by decide +kernel
set_option maxRecDepth 100000 in
theorem zU467 : zrun2 467 30000 = true := by decide +kernel
