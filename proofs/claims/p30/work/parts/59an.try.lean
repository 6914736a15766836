/-! runs by contract -/
set_option maxRecDepth 100000 in
theorem zU297 : zrun2 297 30000 = true := by decide +kernel
set_option maxRecDepth 100000 in
theorem zU298 : zrun2 298 30000 = true := by decide +kernel
set_option maxRecDepth 100000 in
theorem zU299 : zrun2 299 30000 = true := by decide +kernel
set_option maxRecDepth 100000 in
theorem zU300 : zrun2 300 30000 = true := by decide +kernel
set_option maxRecDepth 100000 in
theorem zU301 : zrun2 301 30000 = true := by decide +kernel
set_option maxRecDepth 100000 in
theorem zU302 : zrun2 302 30000 = true := by decide +kernel
set_option maxRecDepth 100000 in
theorem zU303 : zrun2 303 30000 = true := by decide +kernel
set_option maxRecDepth 100000 in
theorem zU304 : zrun2 304 30000 = true := by decide +kernel
set_option maxRecDepth 100000 in
theorem zU305 : zrun2 305 30000 = true := by decide +kernel
set_option maxRecDepth 100000 in
theorem zU306 : zrun2 306 30000 = true := by decide +kernel
set_option maxRecDepth 100000 in
theorem zU307 : zrun2 307 30000 = true := by decide +kernel
set_option maxRecDepth 100000 in
theorem zU308 : zrun2 308 30000 = true := by decide +kernel
set_option maxRecDepth 100000 in
theorem zU309 : zrun2 309 30000 = true := by decide +kernel
set_option maxRecDepth 100000 in
theorem zU310 : zrun2 310 30000 = true := by decide +kernel
set_option maxRecDepth 100000 in
theorem zU311 : zrun2 311 30000 = true := by decide +kernel
set_option maxRecDepth 100000 in
theorem zU312 : zrun2 312 30000 = true := by decide +kernel
set_option maxRecDepth 100000 in
theorem zU313 : zrun2 313 30000 = true := by decide +kernel
set_option maxRecDepth 100000 in
theorem zU314 : zrun2 314 30000 = true := by decide +kernel
set_option maxRecDepth 100000 in
theorem zU315 : zrun2 315 30000 = true := by decide +kernel
set_option maxRecDepth 100000 in
theorem zU317 : zrun2 317 30000 = true := by decide +kernel
set_option maxRecDepth 100000 in
theorem zU318 : zrun2 318 30000 = true := by decide +kernel
set_option maxRecDepth 100000 in
theorem zU319 : zrun2 319 30000 = true := by decide +kernel
