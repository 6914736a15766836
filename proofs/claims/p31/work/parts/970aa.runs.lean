/-! runs by contract -/
set_option maxRecDepth 100000 in
theorem zU0 : zrun3 0 30000 = true := by decide +kernel
set_option maxRecDepth 100000 in
theorem zU1 : zrun3 1 30000 = true := by decide +kernel
set_option maxRecDepth 100000 in
theorem zU2 : zrun3 2 30000 = true := by decide +kernel
set_option maxRecDepth 100000 in
theorem zU3 : zrun3 3 30000 = true := by decide +kernel
set_option maxRecDepth 100000 in
theorem zU4 : zrun3 4 30000 = true := by decide +kernel
set_option maxRecDepth 100000 in
theorem zU5 : zrun3 5 30000 = true := by decide +kernel
set_option maxRecDepth 100000 in
theorem zU6 : zrun3 6 30000 = true := by decide +kernel
set_option maxRecDepth 100000 in
theorem zU7 : zrun3 7 30000 = true := by decide +kernel
set_option maxRecDepth 100000 in
theorem zU8 : zrun3 8 30000 = true := by decide +kernel
set_option maxRecDepth 100000 in
theorem zU9 : zrun3 9 30000 = true := by decide +kernel
set_option maxRecDepth 100000 in
theorem zU10 : zrun3 10 30000 = true := by decide +kernel
set_option maxRecDepth 100000 in
theorem zU11 : zrun3 11 30000 = true := by decide +kernel
set_option maxRecDepth 100000 in
theorem zU12 : zrun3 12 30000 = true := by decide +kernel
set_option maxRecDepth 100000 in
theorem zU13 : zrun3 13 30000 = true := by decide +kernel
set_option maxRecDepth 100000 in
theorem zU14 : zrun3 14 30000 = true := by decide +kernel
set_option maxRecDepth 100000 in
theorem zU15 : zrun3 15 30000 = true := by decide +kernel
set_option maxRecDepth 100000 in
theorem zU16 : zrun3 16 30000 = true := by decide +kernel
set_option maxRecDepth 100000 in
theorem zU17 : zrun3 17 30000 = true := by decide +kernel
set_option maxRecDepth 100000 in
theorem zU18 : zrun3 18 30000 = true := by decide +kernel
set_option maxRecDepth 100000 in
theorem zU19 : zrun3 19 30000 = true := by decide +kernel
set_option maxRecDepth 100000 in
theorem zU20 : zrun3 20 30000 = true := by decide +kernel
set_option maxRecDepth 100000 in
theorem zU21 : zrun3 21 30000 = true := by decide +kernel
set_option maxRecDepth 100000 in
theorem zU22 : zrun3 22 30000 = true := by decide +kernel
set_option maxRecDepth 100000 in
theorem zU23 : zrun3 23 30000 = true := by decide +kernel
