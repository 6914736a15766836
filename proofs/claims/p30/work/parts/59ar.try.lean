/-! runs by contract -/
set_option maxRecDepth 100000 in
theorem zU393 : zrun2 393 30000 = true := by decide +kernel
set_option maxRecDepth 100000 in
theorem zU394 : zrun2 394 30000 = true := by decide +kernel
set_option maxRecDepth 100000 in
theorem zU395 : zrun2 395 30000 = true := by decide +kernel
set_option maxRecDepth 100000 in
theorem zU396 : zrun2 396 30000 = true := by decide +kernel
set_option maxRecDepth 100000 in
theorem zU397 : zrun2 397 30000 = true := by decide +kernel
set_option maxRecDepth 100000 in
theorem zU398 : zrun2 398 30000 = true := by decide +kernel
set_option maxRecDepth 100000 in
theorem zU399 : zrun2 399 30000 = true := by decide +kernel
set_option maxRecDepth 100000 in
theorem zU400 : zrun2 400 30000 = true := by decide +kernel
set_option maxRecDepth 100000 in
theorem zU401 : zrun2 401 30000 = true := by decide +kernel
set_option maxRecDepth 100000 in
theorem zU402 : zrun2 402 30000 = true := by decide +kernel
set_option maxRecDepth 100000 in
theorem zU403 : zrun2 403 30000 = true := by decide +kernel
set_option maxRecDepth 100000 in
theorem zU404 : zrun2 404 30000 = true := by decide +kernel
set_option maxRecDepth 100000 in
theorem zU405 : zrun2 405 30000 = true := by decide +kernel
set_option maxRecDepth 100000 in
theorem zU406 : zrun2 406 30000 = true := by decide +kernel
set_option maxRecDepth 100000 in
theorem zU407 : zrun2 407 30000 = true := by decide +kernel
set_option maxRecDepth 100000 in
theorem zU408 : zrun2 408 30000 = true := by decide +kernel
set_option maxRecDepth 100000 in
theorem zU409 : zrun2 409 30000 = true := by decide +kernel
set_option maxRecDepth 100000 in
theorem zU410 : zrun2 410 30000 = true := by decide +kernel
set_option maxRecDepth 100000 in
theorem zU411 : zrun2 411 30000 = true := by decide +kernel
set_option maxRecDepth 100000 in
theorem zU412 : zrun2 412 30000 = true := by decide +kernel
set_option maxRecDepth 100000 in
theorem zU413 : zrun2 413 30000 = true := by decide +kernel
set_option maxRecDepth 100000 in
theorem zU414 : zrun2 414 30000 = true := by decide +kernel
set_option maxRecDepth 100000 in
theorem zU415 : zrun2 415 30000 = true := by decide +kernel
set_option maxRecDepth 100000 in
theorem zU416 : zrun2 416 30000 = true := by decide +kernel
