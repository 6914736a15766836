/-! runs by contract -/
set_option maxRecDepth 100000 in
theorem zU120 : zrun3 120 30000 = true := by decide +kernel
set_option maxRecDepth 100000 in
theorem zU121 : zrun3 121 30000 = true := by decide +kernel
set_option maxRecDepth 100000 in
theorem zU122 : zrun3 122 30000 = true := by decide +kernel
set_option maxRecDepth 100000 in
theorem zU123 : zrun3 123 30000 = true := by decide +kernel
set_option maxRecDepth 100000 in
theorem zU124 : zrun3 124 30000 = true := by decide +kernel
set_option maxRecDepth 100000 in
theorem zU125 : zrun3 125 30000 = true := by decide +kernel
set_option maxRecDepth 100000 in
theorem zU126 : zrun3 126 30000 = true := by decide +kernel
set_option maxRecDepth 100000 in
theorem zU127 : zrun3 127 30000 = true := by decide +kernel
set_option maxRecDepth 100000 in
theorem zU128 : zrun3 128 30000 = true := by decide +kernel
set_option maxRecDepth 100000 in
theorem zU129 : zrun3 129 30000 = true := by decide +kernel
set_option maxRecDepth 100000 in
theorem zU130 : zrun3 130 30000 = true := by decide +kernel
set_option maxRecDepth 100000 in
theorem zU131 : zrun3 131 30000 = true := by decide +kernel
set_option maxRecDepth 100000 in
theorem zU132 : zrun3 132 30000 = true := by decide +kernel
set_option maxRecDepth 100000 in
theorem zU133 : zrun3 133 30000 = true := by decide +kernel
set_option maxRecDepth 100000 in
theorem zU134 : zrun3 134 30000 = true := by decide +kernel
set_option maxRecDepth 100000 in
theorem zU135 : zrun3 135 30000 = true := by decide +kernel
set_option maxRecDepth 100000 in
theorem zU136 : zrun3 136 30000 = true := by decide +kernel
set_option maxRecDepth 100000 in
theorem zU137 : zrun3 137 30000 = true := by decide +kernel
set_option maxRecDepth 100000 in
theorem zU138 : zrun3 138 30000 = true := by decide +kernel
set_option maxRecDepth 100000 in
theorem zU139 : zrun3 139 30000 = true := by decide +kernel
set_option maxRecDepth 100000 in
theorem zU140 : zrun3 140 30000 = true := by decide +kernel
set_option maxRecDepth 100000 in
theorem zU141 : zrun3 141 30000 = true := by decide +kernel
set_option maxRecDepth 100000 in
theorem zU142 : zrun3 142 30000 = true := by decide +kernel
set_option maxRecDepth 100000 in
theorem zU143 : zrun3 143 30000 = true := by decide +kernel
