/-! runs by contract -/
set_option maxRecDepth 100000 in
theorem zU48 : zrun2 48 30000 = true := by decide +kernel
set_option maxRecDepth 100000 in
theorem zU49 : zrun2 49 30000 = true := by decide +kernel
set_option maxRecDepth 100000 in
theorem zU50 : zrun2 50 30000 = true := by decide +kernel
set_option maxRecDepth 100000 in
theorem zU51 : zrun2 51 30000 = true := by decide +kernel
set_option maxRecDepth 100000 in
theorem zU52 : zrun2 52 30000 = true := by decide +kernel
set_option maxRecDepth 100000 in
theorem zU53 : zrun2 53 30000 = true := by decide +kernel
set_option maxRecDepth 100000 in
theorem zU54 : zrun2 54 30000 = true := by decide +kernel
set_option maxRecDepth 100000 in
theorem zU55 : zrun2 55 30000 = true := by decide +kernel
set_option maxRecDepth 100000 in
theorem zU56 : zrun2 56 30000 = true := by decide +kernel
set_option maxRecDepth 100000 in
theorem zU57 : zrun2 57 30000 = true := by decide +kernel
set_option maxRecDepth 100000 in
theorem zU58 : zrun2 58 30000 = true := by decide +kernel
set_option maxRecDepth 100000 in
theorem zU59 : zrun2 59 30000 = true := by decide +kernel
set_option maxRecDepth 100000 in
theorem zU60 : zrun2 60 30000 = true := by decide +kernel
set_option maxRecDepth 100000 in
theorem zU61 : zrun2 61 30000 = true := by decide +kernel
set_option maxRecDepth 100000 in
theorem zU62 : zrun2 62 30000 = true := by decide +kernel
set_option maxRecDepth 100000 in
theorem zU63 : zrun2 63 30000 = true := by decide +kernel
set_option maxRecDepth 100000 in
theorem zU64 : zrun2 64 30000 = true := by decide +kernel
set_option maxRecDepth 100000 in
theorem zU65 : zrun2 65 30000 = true := by decide +kernel
set_option maxRecDepth 100000 in
theorem zU66 : zrun2 66 30000 = true := by decide +kernel
set_option maxRecDepth 100000 in
theorem zU67 : zrun2 67 30000 = true := by decide +kernel
set_option maxRecDepth 100000 in
theorem zU68 : zrun2 68 30000 = true := by decide +kernel
set_option maxRecDepth 100000 in
theorem zU69 : zrun2 69 30000 = true := by decide +kernel
set_option maxRecDepth 100000 in
theorem zU70 : zrun2 70 30000 = true := by decide +kernel
set_option maxRecDepth 100000 in
theorem zU71 : zrun2 71 30000 = true := by decide +kernel
