/-! runs by contract -/
set_option maxRecDepth 100000 in
theorem zU24 : zrun2 24 30000 = true := by decide +kernel
set_option maxRecDepth 100000 in
theorem zU25 : zrun2 25 30000 = true := by decide +kernel
set_option maxRecDepth 100000 in
theorem zU26 : zrun2 26 30000 = true := by decide +kernel
set_option maxRecDepth 100000 in
theorem zU27 : zrun2 27 30000 = true := by decide +kernel
set_option maxRecDepth 100000 in
theorem zU28 : zrun2 28 30000 = true := by decide +kernel
set_option maxRecDepth 100000 in
theorem zU29 : zrun2 29 30000 = true := by decide +kernel
set_option maxRecDepth 100000 in
theorem zU30 : zrun2 30 30000 = true := by decide +kernel
set_option maxRecDepth 100000 in
theorem zU31 : zrun2 31 30000 = true := by decide +kernel
set_option maxRecDepth 100000 in
theorem zU32 : zrun2 32 30000 = true := by decide +kernel
set_option maxRecDepth 100000 in
theorem zU33 : zrun2 33 30000 = true := by decide +kernel
set_option maxRecDepth 100000 in
theorem zU34 : zrun2 34 30000 = true := by decide +kernel
set_option maxRecDepth 100000 in
theorem zU35 : zrun2 35 30000 = true := by decide +kernel
set_option maxRecDepth 100000 in
theorem zU36 : zrun2 36 30000 = true := by decide +kernel
set_option maxRecDepth 100000 in
theorem zU37 : zrun2 37 30000 = true := by decide +kernel
set_option maxRecDepth 100000 in
theorem zU38 : zrun2 38 30000 = true := by decide +kernel
set_option maxRecDepth 100000 in
theorem zU39 : zrun2 39 30000 = true := by decide +kernel
set_option maxRecDepth 100000 in
theorem zU40 : zrun2 40 30000 = true := by decide +kernel
set_option maxRecDepth 100000 in
theorem zU41 : zrun2 41 30000 = true := by decide +kernel
set_option maxRecDepth 100000 in
theorem zU42 : zrun2 42 30000 = true := by decide +kernel
set_option maxRecDepth 100000 in
theorem zU43 : zrun2 43 30000 = true := by decide +kernel
set_option maxRecDepth 100000 in
theorem zU44 : zrun2 44 30000 = true := by decide +kernel
set_option maxRecDepth 100000 in
theorem zU45 : zrun2 45 30000 = true := by decide +kernel
set_option maxRecDepth 100000 in
theorem zU46 : zrun2 46 30000 = true := by decide +kernel
set_option maxRecDepth 100000 in
theorem zU47 : zrun2 47 30000 = true := by decide +kernel
