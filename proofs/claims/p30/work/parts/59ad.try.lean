/-! runs by contract -/
set_option maxRecDepth 100000 in
theorem zU72 : zrun2 72 30000 = true := by decide +kernel
set_option maxRecDepth 100000 in
theorem zU73 : zrun2 73 30000 = true := by decide +kernel
set_option maxRecDepth 100000 in
theorem zU74 : zrun2 74 30000 = true := by decide +kernel
set_option maxRecDepth 100000 in
theorem zU75 : zrun2 75 30000 = true := by decide +kernel
set_option maxRecDepth 100000 in
theorem zU76 : zrun2 76 30000 = true := by decide +kernel
set_option maxRecDepth 100000 in
theorem zU77 : zrun2 77 30000 = true := by decide +kernel
set_option maxRecDepth 100000 in
theorem zU78 : zrun2 78 30000 = true := by decide +kernel
set_option maxRecDepth 100000 in
theorem zU79 : zrun2 79 30000 = true := by decide +kernel
set_option maxRecDepth 100000 in
theorem zU80 : zrun2 80 30000 = true := by decide +kernel
set_option maxRecDepth 100000 in
theorem zU81 : zrun2 81 30000 = true := by decide +kernel
set_option maxRecDepth 100000 in
theorem zU82 : zrun2 82 30000 = true := by decide +kernel
set_option maxRecDepth 100000 in
theorem zU83 : zrun2 83 30000 = true := by decide +kernel
set_option maxRecDepth 100000 in
theorem zU84 : zrun2 84 30000 = true := by decide +kernel
set_option maxRecDepth 100000 in
theorem zU85 : zrun2 85 30000 = true := by decide +kernel
set_option maxRecDepth 100000 in
theorem zU86 : zrun2 86 30000 = true := by decide +kernel
set_option maxRecDepth 100000 in
theorem zU87 : zrun2 87 30000 = true := by decide +kernel
set_option maxRecDepth 100000 in
theorem zU88 : zrun2 88 30000 = true := by decide +kernel
set_option maxRecDepth 100000 in
theorem zU89 : zrun2 89 30000 = true := by decide +kernel
set_option maxRecDepth 100000 in
theorem zU90 : zrun2 90 30000 = true := by decide +kernel
set_option maxRecDepth 100000 in
theorem zU91 : zrun2 91 30000 = true := by decide +kernel
set_option maxRecDepth 100000 in
theorem zU92 : zrun2 92 30000 = true := by decide +kernel
set_option maxRecDepth 100000 in
theorem zU93 : zrun2 93 30000 = true := by decide +kernel
set_option maxRecDepth 100000 in
theorem zU94 : zrun2 94 30000 = true := by decide +kernel
set_option maxRecDepth 100000 in
theorem zU95 : zrun2 95 30000 = true := by decide +kernel
