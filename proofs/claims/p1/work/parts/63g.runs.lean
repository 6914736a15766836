/-! runs of cases -/
set_option maxRecDepth 100000 in
theorem zB6 : zrun 406 zS6 = true := by decide +kernel
set_option maxRecDepth 100000 in
theorem zB4 : zrun 340 zS4 = true := by decide +kernel
set_option maxRecDepth 100000 in
theorem zB3 : zrun 297 zS3 = true := by decide +kernel
set_option maxRecDepth 100000 in
theorem zB2 : zrun 264 zS2 = true := by decide +kernel
set_option maxRecDepth 100000 in
theorem zB1 : zrun 231 zS1 = true := by decide +kernel
set_option maxRecDepth 100000 in
theorem zB7 : zrun 469 zS7 = true := by decide +kernel
set_option maxRecDepth 100000 in
theorem zB0 : zrun 208 zS0 = true := by decide +kernel
