/-! runs by contract -/
set_option maxRecDepth 100000 in
theorem zU24 : zrun3 24 30000 = true := by decide +kernel
set_option maxRecDepth 100000 in
theorem zU25 : zrun3 25 30000 = true := by decide +kernel
set_option maxRecDepth 100000 in
theorem zU26 : zrun3 26 30000 = true := by decide +kernel
set_option maxRecDepth 100000 in
theorem zU27 : zrun3 27 30000 = true := by decide +kernel
set_option maxRecDepth 100000 in
theorem zU28 : zrun3 28 30000 = true := by decide +kernel
set_option maxRecDepth 100000 in
theorem zU29 : zrun3 29 30000 = true := by decide +kernel
set_option maxRecDepth 100000 in
theorem zU30 : zrun3 30 30000 = true := by decide +kernel
set_option maxRecDepth 100000 in
theorem zU31 : zrun3 31 30000 = true := by decide +kernel
set_option maxRecDepth 100000 in
theorem zU32 : zrun3 32 30000 = true := by decide +kernel
set_option maxRecDepth 100000 in
theorem zU33 : zrun3 33 30000 = true := by decide +kernel
set_option maxRecDepth 100000 in
theorem zU34 : zrun3 34 30000 = true := by decide +kernel
set_option maxRecDepth 100000 in
theorem zU35 : zrun3 35 30000 = true := by decide +kernel
set_option maxRecDepth 100000 in
theorem zU36 : zrun3 36 30000 = true := by decide +kernel
set_option maxRecDepth 100000 in
theorem zU37 : zrun3 37 30000 = true := by decide +kernel
set_option maxRecDepth 100000 in
theorem zU38 : zrun3 38 30000 = true := by decide +kernel
set_option maxRecDepth 100000 in
theorem zU39 : zrun3 39 30000 = true := by decide +kernel
set_option maxRecDepth 100000 in
theorem zU40 : zrun3 40 30000 = true := by decide +kernel
set_option maxRecDepth 100000 in
theorem zU41 : zrun3 41 30000 = true := by decide +kernel
set_option maxRecDepth 100000 in
theorem zU42 : zrun3 42 30000 = true := by decide +kernel
set_option maxRecDepth 100000 in
theorem zU43 : zrun3 43 30000 = true := by decide +kernel
set_option maxRecDepth 100000 in
theorem zU44 : zrun3 44 30000 = true := by decide +kernel
set_option maxRecDepth 100000 in
theorem zU45 : zrun3 45 30000 = true := by decide +kernel
set_option maxRecDepth 100000 in
theorem zU46 : zrun3 46 30000 = true := by decide +kernel
set_option maxRecDepth 100000 in
theorem zU47 : zrun3 47 30000 = true := by decide +kernel
