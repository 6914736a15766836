/-! runs by contract -/
set_option maxRecDepth 100000 in
theorem zU393 : zrun3 393 30000 = true := by decide +kernel
set_option maxRecDepth 100000 in
theorem zU394 : zrun3 394 30000 = true := by decide +kernel
set_option maxRecDepth 100000 in
theorem zU395 : zrun3 395 30000 = true := by decide +kernel
set_option maxRecDepth 100000 in
theorem zU396 : zrun3 396 30000 = true := by decide +kernel
set_option maxRecDepth 100000 in
theorem zU397 : zrun3 397 30000 = true := by decide +kernel
set_option maxRecDepth 100000 in
theorem zU398 : zrun3 398 30000 = true := by decide +kernel
set_option maxRecDepth 100000 in
theorem zU399 : zrun3 399 30000 = true := by decide +kernel
set_option maxRecDepth 100000 in
theorem zU400 : zrun3 400 30000 = true := by decide +kernel
set_option maxRecDepth 100000 in
theorem zU401 : zrun3 401 30000 = true := by decide +kernel
set_option maxRecDepth 100000 in
theorem zU402 : zrun3 402 30000 = true := by decide +kernel
set_option maxRecDepth 100000 in
theorem zU403 : zrun3 403 30000 = true := by decide +kernel
set_option maxRecDepth 100000 in
theorem zU404 : zrun3 404 30000 = true := by decide +kernel
set_option maxRecDepth 100000 in
theorem zU405 : zrun3 405 30000 = true := by decide +kernel
set_option maxRecDepth 100000 in
theorem zU406 : zrun3 406 30000 = true := by decide +kernel
set_option maxRecDepth 100000 in
theorem zU407 : zrun3 407 30000 = true := by decide +kernel
set_option maxRecDepth 100000 in
theorem zU408 : zrun3 408 30000 = true := by decide +kernel
set_option maxRecDepth 100000 in
theorem zU409 : zrun3 409 30000 = true := by decide +kernel
set_option maxRecDepth 100000 in
theorem zU410 : zrun3 410 30000 = true := by decide +kernel
set_option maxRecDepth 100000 in
theorem zU411 : zrun3 411 30000 = true := by decide +kernel
set_option maxRecDepth 100000 in
theorem zU412 : zrun3 412 30000 = true := by decide +kernel
set_option maxRecDepth 100000 in
theorem zU413 : zrun3 413 30000 = true := by decide +kernel
set_option maxRecDepth 100000 in
theorem zU414 : zrun3 414 30000 = true := by decide +kernel
set_option maxRecDepth 100000 in
theorem zU415 : zrun3 415 30000 = true := by decide +kernel
set_option maxRecDepth 100000 in
theorem zU416 : zrun3 416 30000 = true := by decide +kernel
