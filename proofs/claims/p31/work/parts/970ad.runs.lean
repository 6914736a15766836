/-! runs by contract -/
set_option maxRecDepth 100000 in
theorem zU72 : zrun3 72 30000 = true := by decide +kernel
set_option maxRecDepth 100000 in
theorem zU73 : zrun3 73 30000 = true := by decide +kernel
set_option maxRecDepth 100000 in
theorem zU74 : zrun3 74 30000 = true := by decide +kernel
set_option maxRecDepth 100000 in
theorem zU75 : zrun3 75 30000 = true := by decide +kernel
set_option maxRecDepth 100000 in
theorem zU76 : zrun3 76 30000 = true := by decide +kernel
set_option maxRecDepth 100000 in
theorem zU77 : zrun3 77 30000 = true := by decide +kernel
set_option maxRecDepth 100000 in
theorem zU78 : zrun3 78 30000 = true := by decide +kernel
set_option maxRecDepth 100000 in
theorem zU79 : zrun3 79 30000 = true := by decide +kernel
set_option maxRecDepth 100000 in
theorem zU80 : zrun3 80 30000 = true := by decide +kernel
set_option maxRecDepth 100000 in
theorem zU81 : zrun3 81 30000 = true := by decide +kernel
set_option maxRecDepth 100000 in
theorem zU82 : zrun3 82 30000 = true := by decide +kernel
set_option maxRecDepth 100000 in
theorem zU83 : zrun3 83 30000 = true := by decide +kernel
set_option maxRecDepth 100000 in
theorem zU84 : zrun3 84 30000 = true := by decide +kernel
set_option maxRecDepth 100000 in
theorem zU85 : zrun3 85 30000 = true := by decide +kernel
set_option maxRecDepth 100000 in
theorem zU86 : zrun3 86 30000 = true := by decide +kernel
set_option maxRecDepth 100000 in
theorem zU87 : zrun3 87 30000 = true := by decide +kernel
set_option maxRecDepth 100000 in
theorem zU88 : zrun3 88 30000 = true := by decide +kernel
set_option maxRecDepth 100000 in
theorem zU89 : zrun3 89 30000 = true := by decide +kernel
set_option maxRecDepth 100000 in
theorem zU90 : zrun3 90 30000 = true := by decide +kernel
set_option maxRecDepth 100000 in
theorem zU91 : zrun3 91 30000 = true := by decide +kernel
set_option maxRecDepth 100000 in
theorem zU92 : zrun3 92 30000 = true := by decide +kernel
set_option maxRecDepth 100000 in
theorem zU93 : zrun3 93 30000 = true := by decide +kernel
set_option maxRecDepth 100000 in
theorem zU94 : zrun3 94 30000 = true := by decide +kernel
set_option maxRecDepth 100000 in
theorem zU95 : zrun3 95 30000 = true := by decide +kernel
