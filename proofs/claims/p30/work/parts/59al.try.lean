/-! runs by contract -/
set_option maxRecDepth 100000 in
theorem zU402 : zrun2 402 30000 = true := by decide +kernel
set_option maxRecDepth 100000 in
theorem zU403 : zrun2 403 30000 = true := by decide +kernel
set_option maxRecDepth 100000 in
theorem zU404 : zrun2 404 30000 = true := by decide +kernel
set_option maxRecDepth 100000 in
theorem zU405 : zrun2 405 30000 = true := by decide +kernel
set_option maxRecDepth 100000 in
theorem zU406 : zrun2 406 30000 = true := by decide +kernel
set_option maxRecDepth 100000 in
theorem zU407 : zrun2 407 30000 = true := by decide +kernel
set_option maxRecDepth 100000 in
theorem zU408 : zrun2 408 30000 = true := by decide +kernel
set_option maxRecDepth 100000 in
theorem zU409 : zrun2 409 30000 = true := by decide +kernel
set_option maxRecDepth 100000 in
theorem zU410 : zrun2 410 30000 = true := by decide +kernel
set_option maxRecDepth 100000 in
theorem zU411 : zrun2 411 30000 = true := by decide +kernel
set_option maxRecDepth 100000 in
theorem zU412 : zrun2 412 30000 = true := by decide +kernel
set_option maxRecDepth 100000 in
theorem zU413 : zrun2 413 30000 = true := by decide +kernel
set_option maxRecDepth 100000 in
theorem zU414 : zrun2 414 30000 = true := by decide +kernel
set_option maxRecDepth 100000 in
theorem zU415 : zrun2 415 30000 = true := by decide +kernel
set_option maxRecDepth 100000 in
theorem zU416 : zrun2 416 30000 = true := by decide +kernel
set_option maxRecDepth 100000 in
theorem zU417 : zrun2 417 30000 = true := by decide +kernel
set_option maxRecDepth 100000 in
theorem zU418 : zrun2 418 30000 = true := by decide +kernel
set_option maxRecDepth 100000 in
theorem zU419 : zrun2 419 30000 = true := by decide +kernel
set_option maxRecDepth 100000 in
theorem zU420 : zrun2 420 30000 = true := by decide +kernel
set_option maxRecDepth 100000 in
theorem zU421 : zrun2 421 30000 = true := by decide +kernel
set_option maxRecDepth 100000 in
theorem zU422 : zrun2 422 30000 = true := by decide +kernel
set_option maxRecDepth 100000 in
theorem zU423 : zrun2 423 30000 = true := by decide +kernel
set_option maxRecDepth 100000 in
theorem zU424 : zrun2 424 30000 = true := by decide +kernel
set_option maxRecDepth 100000 in
theorem zU425 : zrun2 425 30000 = true := by decide +kernel
set_option maxRecDepth 100000 in
theorem zU426 : zrun2 426 30000 = true := by decide +kernel
set_option maxRecDepth 100000 in
theorem zU427 : zrun2 427 30000 = true := by decide +kernel
set_option maxRecDepth 100000 in
theorem zU428 : zrun2 428 30000 = true := by decide +kernel
set_option maxRecDepth 100000 in
theorem zU429 : zrun2 429 30000 = true := by decide +kernel
set_option maxRecDepth 100000 in
theorem zU430 : zrun2 430 30000 = true := by decide +kernel
set_option maxRecDepth 100000 in
theorem zU433 : zrun2 433 30000 = true := by decide +kernel
set_option maxRecDepth 100000 in
theorem zU434 : zrun2 434 30000 = true := by decide +kernel
set_option maxRecDepth 100000 in
theorem zU435 : zrun2 435 30000 = true := by decide +kernel
set_option maxRecDepth 100000 in
theorem zU436 : zrun2 436 30000 = true := by decide +kernel
set_option maxRecDepth 100000 in
theorem zU437 : zrun2 437 30000 = true := by decide +kernel
set_option maxRecDepth 100000 in
theorem zU438 : zrun2 438 30000 = true := by decide +kernel
set_option maxRecDepth 100000 in
theorem zU440 : zrun2 440 30000 = true := by decide +kernel
set_option maxRecDepth 100000 in
theorem zU441 : zrun2 441 30000 = true := by decide +kernel
set_option maxRecDepth 100000 in
theorem zU442 : zrun2 442 30000 = true := by decide +kernel
set_option maxRecDepth 100000 in
theorem zU444 : zrun2 444 30000 = true := by decide +kernel
set_option maxRecDepth 100000 in
theorem zU445 : zrun2 445 30000 = true := by decide +kernel
