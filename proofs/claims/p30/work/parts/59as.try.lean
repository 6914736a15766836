/-! runs by contract -/
set_option maxRecDepth 100000 in
theorem zU422 : zrun2 422 30000 = true := by decide +kernel
set_option maxRecDepth 100000 in
theorem zU423 : zrun2 423 30000 = true := by decide +kernel
set_option maxRecDepth 100000 in
theorem zU424 : zrun2 424 30000 = true := by decide +kernel
set_option maxRecDepth 100000 in
theorem zU425 : zrun2 425 30000 = true := by decide +kernel
set_option maxRecDepth 100000 in
theorem zU426 : zrun2 426 30000 = true := by decide +kernel
set_option maxRecDepth 100000 in
theorem zU427 : zrun2 427 30000 = true := by decide +kernel
set_option maxRecDepth 100000 in
theorem zU428 : zrun2 428 30000 = true := by decide +kernel
set_option maxRecDepth 100000 in
theorem zU429 : zrun2 429 30000 = true := by decide +kernel
set_option maxRecDepth 100000 in
theorem zU430 : zrun2 430 30000 = true := by decide +kernel
set_option maxRecDepth 100000 in
theorem zU433 : zrun2 433 30000 = true := by decide +kernel
set_option maxRecDepth 100000 in
theorem zU434 : zrun2 434 30000 = true := by decide +kernel
set_option maxRecDepth 100000 in
theorem zU435 : zrun2 435 30000 = true := by decide +kernel
set_option maxRecDepth 100000 in
theorem zU436 : zrun2 436 30000 = true := by decide +kernel
set_option maxRecDepth 100000 in
theorem zU437 : zrun2 437 30000 = true := by decide +kernel
set_option maxRecDepth 100000 in
theorem zU438 : zrun2 438 30000 = true := by decide +kernel
set_option maxRecDepth 100000 in
theorem zU440 : zrun2 440 30000 = true := by decide +kernel
set_option maxRecDepth 100000 in
theorem zU441 : zrun2 441 30000 = true := by decide +kernel
set_option maxRecDepth 100000 in
theorem zU442 : zrun2 442 30000 = true := by decide +kernel
set_option maxRecDepth 100000 in
theorem zU444 : zrun2 444 30000 = true := by decide +kernel
set_option maxRecDepth 100000 in
theorem zU445 : zrun2 445 30000 = true := by decide +kernel
set_option maxRecDepth 100000 in
theorem zU446 : zrun2 446 30000 = true := by decide +kernel
set_option maxRecDepth 100000 in
theorem zU448 : zrun2 448 30000 = true := by decide +kernel
set_option maxRecDepth 100000 in
theorem zU449 : zrun2 449 30000 = true := by decide +kernel
set_option maxRecDepth 100000 in
theorem zU450 : zrun2 450 30000 = true := by decide +kernel
