/-! runs by contract -/
set_option maxRecDepth 100000 in
theorem zU96 : zrun3 96 30000 = true := by decide +kernel
set_option maxRecDepth 100000 in
theorem zU97 : zrun3 97 30000 = true := by decide +kernel
set_option maxRecDepth 100000 in
theorem zU98 : zrun3 98 30000 = true := by decide +kernel
set_option maxRecDepth 100000 in
theorem zU99 : zrun3 99 30000 = true := by decide +kernel
set_option maxRecDepth 100000 in
theorem zU100 : zrun3 100 30000 = true := by decide +kernel
set_option maxRecDepth 100000 in
theorem zU101 : zrun3 101 30000 = true := by decide +kernel
set_option maxRecDepth 100000 in
theorem zU102 : zrun3 102 30000 = true := by decide +kernel
set_option maxRecDepth 100000 in
theorem zU103 : zrun3 103 30000 = true := by decide +kernel
set_option maxRecDepth 100000 in
theorem zU104 : zrun3 104 30000 = true := by decide +kernel
set_option maxRecDepth 100000 in
theorem zU105 : zrun3 105 30000 = true := by decide +kernel
set_option maxRecDepth 100000 in
theorem zU106 : zrun3 106 30000 = true := by decide +kernel
set_option maxRecDepth 100000 in
theorem zU107 : zrun3 107 30000 = true := by decide +kernel
set_option maxRecDepth 100000 in
theorem zU108 : zrun3 108 30000 = true := by decide +kernel
set_option maxRecDepth 100000 in
theorem zU109 : zrun3 109 30000 = true := by decide +kernel
set_option maxRecDepth 100000 in
theorem zU110 : zrun3 110 30000 = true := by decide +kernel
set_option maxRecDepth 100000 in
theorem zU111 : zrun3 111 30000 = true := by decide +kernel
set_option maxRecDepth 100000 in
theorem zU112 : zrun3 112 30000 = true := by decide +kernel
set_option maxRecDepth 100000 in
theorem zU113 : zrun3 113 30000 = true := by decide +kernel
set_option maxRecDepth 100000 in
theorem zU114 : zrun3 114 30000 = true := by decide +kernel
set_option maxRecDepth 100000 in
theorem zU115 : zrun3 115 30000 = true := by decide +kernel
set_option maxRecDepth 100000 in
theorem zU116 : zrun3 116 30000 = true := by decide +kernel
set_option maxRecDepth 100000 in
theorem zU117 : zrun3 117 30000 = true := by decide +kernel
set_option maxRecDepth 100000 in
theorem zU118 : zrun3 118 30000 = true := by decide +kernel
set_option maxRecDepth 100000 in
theorem zU119 : zrun3 119 30000 = true := by decide +kernel
