/-! runs by contract -/
set_option maxRecDepth 100000 in
theorem zU417 : zrun3 417 30000 = true := by decide +kernel
set_option maxRecDepth 100000 in
theorem zU418 : zrun3 418 30000 = true := by decide +kernel
set_option maxRecDepth 100000 in
theorem zU419 : zrun3 419 30000 = true := by decide +kernel
set_option maxRecDepth 100000 in
theorem zU420 : zrun3 420 30000 = true := by decide +kernel
set_option maxRecDepth 100000 in
theorem zU421 : zrun3 421 30000 = true := by decide +kernel
set_option maxRecDepth 100000 in
theorem zU422 : zrun3 422 30000 = true := by decide +kernel
set_option maxRecDepth 100000 in
theorem zU423 : zrun3 423 30000 = true := by decide +kernel
set_option maxRecDepth 100000 in
theorem zU424 : zrun3 424 30000 = true := by decide +kernel
set_option maxRecDepth 100000 in
theorem zU425 : zrun3 425 30000 = true := by decide +kernel
set_option maxRecDepth 100000 in
theorem zU426 : zrun3 426 30000 = true := by decide +kernel
set_option maxRecDepth 100000 in
theorem zU427 : zrun3 427 30000 = true := by decide +kernel
set_option maxRecDepth 100000 in
theorem zU428 : zrun3 428 30000 = true := by decide +kernel
set_option maxRecDepth 100000 in
theorem zU429 : zrun3 429 30000 = true := by decide +kernel
set_option maxRecDepth 100000 in
theorem zU432 : zrun3 432 30000 = true := by decide +kernel
set_option maxRecDepth 100000 in
theorem zU433 : zrun3 433 30000 = true := by decide +kernel
set_option maxRecDepth 100000 in
theorem zU434 : zrun3 434 30000 = true := by decide +kernel
set_option maxRecDepth 100000 in
theorem zU435 : zrun3 435 30000 = true := by decide +kernel
set_option maxRecDepth 100000 in
theorem zU436 : zrun3 436 30000 = true := by decide +kernel
set_option maxRecDepth 100000 in
theorem zU437 : zrun3 437 30000 = true := by decide +kernel
set_option maxRecDepth 100000 in
theorem zU439 : zrun3 439 30000 = true := by decide +kernel
set_option maxRecDepth 100000 in
theorem zU441 : zrun3 441 30000 = true := by decide +kernel
set_option maxRecDepth 100000 in
theorem zU442 : zrun3 442 30000 = true := by decide +kernel
set_option maxRecDepth 100000 in
theorem zU443 : zrun3 443 30000 = true := by decide +kernel
set_option maxRecDepth 100000 in
theorem zU445 : zrun3 445 30000 = true := by decide +kernel
