/-! runs by contract -/
set_option maxRecDepth 100000 in
theorem zU297 : zrun3 297 30000 = true := by decide +kernel
set_option maxRecDepth 100000 in
theorem zU298 : zrun3 298 30000 = true := by decide +kernel
set_option maxRecDepth 100000 in
theorem zU299 : zrun3 299 30000 = true := by decide +kernel
set_option maxRecDepth 100000 in
theorem zU300 : zrun3 300 30000 = true := by decide +kernel
set_option maxRecDepth 100000 in
theorem zU301 : zrun3 301 30000 = true := by decide +kernel
set_option maxRecDepth 100000 in
theorem zU302 : zrun3 302 30000 = true := by decide +kernel
set_option maxRecDepth 100000 in
theorem zU303 : zrun3 303 30000 = true := by decide +kernel
set_option maxRecDepth 100000 in
theorem zU304 : zrun3 304 30000 = true := by decide +kernel
set_option maxRecDepth 100000 in
theorem zU305 : zrun3 305 30000 = true := by decide +kernel
set_option maxRecDepth 100000 in
theorem zU306 : zrun3 306 30000 = true := by decide +kernel
set_option maxRecDepth 100000 in
theorem zU307 : zrun3 307 30000 = true := by decide +kernel
set_option maxRecDepth 100000 in
theorem zU308 : zrun3 308 30000 = true := by decide +kernel
set_option maxRecDepth 100000 in
theorem zU309 : zrun3 309 30000 = true := by decide +kernel
set_option maxRecDepth 100000 in
theorem zU310 : zrun3 310 30000 = true := by decide +kernel
set_option maxRecDepth 100000 in
theorem zU311 : zrun3 311 30000 = true := by decide +kernel
set_option maxRecDepth 100000 in
theorem zU312 : zrun3 312 30000 = true := by decide +kernel
set_option maxRecDepth 100000 in
theorem zU313 : zrun3 313 30000 = true := by decide +kernel
set_option maxRecDepth 100000 in
theorem zU314 : zrun3 314 30000 = true := by decide +kernel
set_option maxRecDepth 100000 in
theorem zU315 : zrun3 315 30000 = true := by decide +kernel
set_option maxRecDepth 100000 in
theorem zU317 : zrun3 317 30000 = true := by decide +kernel
set_option maxRecDepth 100000 in
theorem zU318 : zrun3 318 30000 = true := by decide +kernel
set_option maxRecDepth 100000 in
theorem zU319 : zrun3 319 30000 = true := by decide +kernel
