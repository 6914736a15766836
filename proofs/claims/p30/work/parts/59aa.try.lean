/-! runs by contract -/
set_option maxRecDepth 100000 in
theorem zU0 : zrun2 0 30000 = true := by decide +kernel
set_option maxRecDepth 100000 in
theorem zU1 : zrun2 1 30000 = true := by decide +kernel
set_option maxRecDepth 100000 in
theorem zU2 : zrun2 2 30000 = true := by decide +kernel
set_option maxRecDepth 100000 in
theorem zU3 : zrun2 3 30000 = true := by decide +kernel
set_option maxRecDepth 100000 in
theorem zU4 : zrun2 4 30000 = true := by decide +kernel
set_option maxRecDepth 100000 in
theorem zU5 : zrun2 5 30000 = true := by decide +kernel
set_option maxRecDepth 100000 in
theorem zU6 : zrun2 6 30000 = true := by decide +kernel
set_option maxRecDepth 100000 in
theorem zU7 : zrun2 7 30000 = true := by decide +kernel
set_option maxRecDepth 100000 in
theorem zU8 : zrun2 8 30000 = true := by decide +kernel
set_option maxRecDepth 100000 in
theorem zU9 : zrun2 9 30000 = true := by decide +kernel
set_option maxRecDepth 100000 in
theorem zU10 : zrun2 10 30000 = true := by decide +kernel
set_option maxRecDepth 100000 in
theorem zU11 : zrun2 11 30000 = true := by decide +kernel
set_option maxRecDepth 100000 in
theorem zU12 : zrun2 12 30000 = true := by decide +kernel
set_option maxRecDepth 100000 in
theorem zU13 : zrun2 13 30000 = true := by decide +kernel
set_option maxRecDepth 100000 in
theorem zU14 : zrun2 14 30000 = true := by decide +kernel
set_option maxRecDepth 100000 in
theorem zU15 : zrun2 15 30000 = true := by decide +kernel
set_option maxRecDepth 100000 in
theorem zU16 : zrun2 16 30000 = true := by decide +kernel
set_option maxRecDepth 100000 in
theorem zU17 : zrun2 17 30000 = true := by decide +kernel
set_option maxRecDepth 100000 in
theorem zU18 : zrun2 18 30000 = true := by decide +kernel
set_option maxRecDepth 100000 in
theorem zU19 : zrun2 19 30000 = true := by decide +kernel
set_option maxRecDepth 100000 in
theorem zU20 : zrun2 20 30000 = true := by decide +kernel
set_option maxRecDepth 100000 in
theorem zU21 : zrun2 21 30000 = true := by decide +kernel
set_option maxRecDepth 100000 in
theorem zU22 : zrun2 22 30000 = true := by decide +kernel
set_option maxRecDepth 100000 in
theorem zU23 : zrun2 23 30000 = true := by decide +kernel
