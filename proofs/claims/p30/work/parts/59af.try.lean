/-! runs by contract -/
set_option maxRecDepth 100000 in
theorem zU120 : zrun2 120 30000 = true := by decide +kernel
set_option maxRecDepth 100000 in
theorem zU121 : zrun2 121 30000 = true := by decide +kernel
set_option maxRecDepth 100000 in
theorem zU122 : zrun2 122 30000 = true := by decide +kernel
set_option maxRecDepth 100000 in
theorem zU123 : zrun2 123 30000 = true := by decide +kernel
set_option maxRecDepth 100000 in
theorem zU124 : zrun2 124 30000 = true := by decide +kernel
set_option maxRecDepth 100000 in
theorem zU125 : zrun2 125 30000 = true := by decide +kernel
set_option maxRecDepth 100000 in
theorem zU126 : zrun2 126 30000 = true := by decide +kernel
set_option maxRecDepth 100000 in
theorem zU127 : zrun2 127 30000 = true := by decide +kernel
set_option maxRecDepth 100000 in
theorem zU128 : zrun2 128 30000 = true := by decide +kernel
set_option maxRecDepth 100000 in
theorem zU129 : zrun2 129 30000 = true := by decide +kernel
set_option maxRecDepth 100000 in
theorem zU130 : zrun2 130 30000 = true := by decide +kernel
set_option maxRecDepth 100000 in
theorem zU131 : zrun2 131 30000 = true := by decide +kernel
set_option maxRecDepth 100000 in
theorem zU132 : zrun2 132 30000 = true := by decide +kernel
set_option maxRecDepth 100000 in
theorem zU133 : zrun2 133 30000 = true := by decide +kernel
set_option maxRecDepth 100000 in
theorem zU134 : zrun2 134 30000 = true := by decide +kernel
set_option maxRecDepth 100000 in
theorem zU135 : zrun2 135 30000 = true := by decide +kernel
set_option maxRecDepth 100000 in
theorem zU136 : zrun2 136 30000 = true := by decide +kernel
set_option maxRecDepth 100000 in
theorem zU137 : zrun2 137 30000 = true := by decide +kernel
set_option maxRecDepth 100000 in
theorem zU138 : zrun2 138 30000 = true := by decide +kernel
set_option maxRecDepth 100000 in
theorem zU139 : zrun2 139 30000 = true := by decide +kernel
set_option maxRecDepth 100000 in
theorem zU140 : zrun2 140 30000 = true := by decide +kernel
set_option maxRecDepth 100000 in
theorem zU141 : zrun2 141 30000 = true := by decide +kernel
set_option maxRecDepth 100000 in
theorem zU142 : zrun2 142 30000 = true := by decide +kernel
set_option maxRecDepth 100000 in
theorem zU143 : zrun2 143 30000 = true := by decide +kernel
