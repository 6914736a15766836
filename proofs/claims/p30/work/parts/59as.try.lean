/-! runs by contract -/
set_option maxRecDepth 100000 in
theorem zU417 : zrun2 417 30000 = true := by decide +kernel
set_option maxRecDepth 100000 in
theorem zU418 : zrun2 418 30000 = true := by decide +kernel
set_option maxRecDepth 100000 in
theorem zU419 : zrun2 419 30000 = true := by decide +kernel
set_option maxRecDepth 100000 in
theorem zU420 : zrun2 420 30000 = true := by decide +kernel
set_option maxRecDepth 100000 in
theorem zU421 : zrun2 421 30000 = true := by decide +kernel
set_option maxRecDepth 100000 in
theorem zU422 : zrun2 422 30000 = true := by decide +kernel
set_option maxRecDepth 100000 in
theorem zU423 : zrun2 423 30000 = true := by decide +kernel
set_option maxRecDepth 100000 in
theorem zU424 : zrun2 424 30000 = true := by decide +kernel
set_option maxRecDepth 100000 in
theorem zU425 : zrun2 425 30000 = true := by decide +kernel
set_option maxRecDepth 100000 in
theorem zU426 : zrun2 426 30000 = true := by decide +kernel
set_option maxRecDepth 100000 in
theorem zU427 : zrun2 427 30000 = true := by decide +kernel
set_option maxRecDepth 100000 in
theorem zU428 : zrun2 428 30000 = true := by decide +kernel
set_option maxRecDepth 100000 in
theorem zU429 : zrun2 429 30000 = true := by decide +kernel
set_option maxRecDepth 100000 in
theorem zU432 : zrun2 432 30000 = true := by decide +kernel
set_option maxRecDepth 100000 in
theorem zU433 : zrun2 433 30000 = true := by decide +kernel
set_option maxRecDepth 100000 in
theorem zU434 : zrun2 434 30000 = true := by decide +kernel
set_option maxRecDepth 100000 in
theorem zU435 : zrun2 435 30000 = true := by decide +kernel
set_option maxRecDepth 100000 in
theorem zU436 : zrun2 436 30000 = true := by decide +kernel
set_option maxRecDepth 100000 in
theorem zU437 : zrun2 437 30000 = true := by decide +kernel
set_option maxRecDepth 100000 in
theorem zU439 : zrun2 439 30000 = true := by decide +kernel
set_option maxRecDepth 100000 in
theorem zU441 : zrun2 441 30000 = true := by decide +kernel
set_option maxRecDepth 100000 in
theorem zU442 : zrun2 442 30000 = true := by decide +kernel
set_option maxRecDepth 100000 in
theorem zU443 : zrun2 443 30000 = true := by decide +kernel
set_option maxRecDepth 100000 in
theorem zU445 : zrun2 445 30000 = true := by decide +kernel
