/-! runs by contract -/
set_option maxRecDepth 100000 in
theorem zU96 : zrun2 96 30000 = true := by decide +kernel
set_option maxRecDepth 100000 in
theorem zU97 : zrun2 97 30000 = true := by decide +kernel
set_option maxRecDepth 100000 in
theorem zU98 : zrun2 98 30000 = true := by decide +kernel
set_option maxRecDepth 100000 in
theorem zU99 : zrun2 99 30000 = true := by decide +kernel
set_option maxRecDepth 100000 in
theorem zU100 : zrun2 100 30000 = true := by decide +kernel
set_option maxRecDepth 100000 in
theorem zU101 : zrun2 101 30000 = true := by decide +kernel
set_option maxRecDepth 100000 in
theorem zU102 : zrun2 102 30000 = true := by decide +kernel
set_option maxRecDepth 100000 in
theorem zU103 : zrun2 103 30000 = true := by decide +kernel
set_option maxRecDepth 100000 in
theorem zU104 : zrun2 104 30000 = true := by decide +kernel
set_option maxRecDepth 100000 in
theorem zU105 : zrun2 105 30000 = true := by decide +kernel
set_option maxRecDepth 100000 in
theorem zU106 : zrun2 106 30000 = true := by decide +kernel
set_option maxRecDepth 100000 in
theorem zU107 : zrun2 107 30000 = true := by decide +kernel
set_option maxRecDepth 100000 in
theorem zU108 : zrun2 108 30000 = true := by decide +kernel
set_option maxRecDepth 100000 in
theorem zU109 : zrun2 109 30000 = true := by decide +kernel
set_option maxRecDepth 100000 in
theorem zU110 : zrun2 110 30000 = true := by decide +kernel
set_option maxRecDepth 100000 in
theorem zU111 : zrun2 111 30000 = true := by decide +kernel
set_option maxRecDepth 100000 in
theorem zU112 : zrun2 112 30000 = true := by decide +kernel
set_option maxRecDepth 100000 in
theorem zU113 : zrun2 113 30000 = true := by decide +kernel
set_option maxRecDepth 100000 in
theorem zU114 : zrun2 114 30000 = true := by decide +kernel
set_option maxRecDepth 100000 in
theorem zU115 : zrun2 115 30000 = true := by decide +kernel
set_option maxRecDepth 100000 in
theorem zU116 : zrun2 116 30000 = true := by decide +kernel
set_option maxRecDepth 100000 in
theorem zU117 : zrun2 117 30000 = true := by decide +kernel
set_option maxRecDepth 100000 in
theorem zU118 : zrun2 118 30000 = true := by decide +kernel
set_option maxRecDepth 100000 in
theorem zU119 : zrun2 119 30000 = true := by decide +kernel
