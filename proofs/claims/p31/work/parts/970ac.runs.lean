/-! runs by contract -/
set_option maxRecDepth 100000 in
theorem zU48 : zrun3 48 30000 = true := by decide +kernel
set_option maxRecDepth 100000 in
theorem zU49 : zrun3 49 30000 = true := by decide +kernel
set_option maxRecDepth 100000 in
theorem zU50 : zrun3 50 30000 = true := by decide +kernel
set_option maxRecDepth 100000 in
theorem zU51 : zrun3 51 30000 = true := by decide +kernel
set_option maxRecDepth 100000 in
theorem zU52 : zrun3 52 30000 = true := by decide +kernel
set_option maxRecDepth 100000 in
theorem zU53 : zrun3 53 30000 = true := by decide +kernel
set_option maxRecDepth 100000 in
theorem zU54 : zrun3 54 30000 = true := by decide +kernel
set_option maxRecDepth 100000 in
theorem zU55 : zrun3 55 30000 = true := by decide +kernel
set_option maxRecDepth 100000 in
theorem zU56 : zrun3 56 30000 = true := by decide +kernel
set_option maxRecDepth 100000 in
theorem zU57 : zrun3 57 30000 = true := by decide +kernel
set_option maxRecDepth 100000 in
theorem zU58 : zrun3 58 30000 = true := by decide +kernel
set_option maxRecDepth 100000 in
theorem zU59 : zrun3 59 30000 = true := by decide +kernel
set_option maxRecDepth 100000 in
theorem zU60 : zrun3 60 30000 = true := by decide +kernel
set_option maxRecDepth 100000 in
theorem zU61 : zrun3 61 30000 = true := by decide +kernel
set_option maxRecDepth 100000 in
theorem zU62 : zrun3 62 30000 = true := by decide +kernel
set_option maxRecDepth 100000 in
theorem zU63 : zrun3 63 30000 = true := by decide +kernel
set_option maxRecDepth 100000 in
theorem zU64 : zrun3 64 30000 = true := by decide +kernel
set_option maxRecDepth 100000 in
theorem zU65 : zrun3 65 30000 = true := by decide +kernel
set_option maxRecDepth 100000 in
theorem zU66 : zrun3 66 30000 = true := by decide +kernel
set_option maxRecDepth 100000 in
theorem zU67 : zrun3 67 30000 = true := by decide +kernel
set_option maxRecDepth 100000 in
theorem zU68 : zrun3 68 30000 = true := by decide +kernel
set_option maxRecDepth 100000 in
theorem zU69 : zrun3 69 30000 = true := by decide +kernel
set_option maxRecDepth 100000 in
theorem zU70 : zrun3 70 30000 = true := by decide +kernel
set_option maxRecDepth 100000 in
theorem zU71 : zrun3 71 30000 = true := by decide +kernel
