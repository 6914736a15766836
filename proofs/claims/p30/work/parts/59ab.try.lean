/-! runs by contract -/
set_option maxRecDepth 100000 in
theorem zU40 : zrun2 40 30000 = true := by decide +kernel
set_option maxRecDepth 100000 in
theorem zU41 : zrun2 41 30000 = true := by decide +kernel
set_option maxRecDepth 100000 in
theorem zU42 : zrun2 42 30000 = true := by decide +kernel
set_option maxRecDepth 100000 in
theorem zU43 : zrun2 43 30000 = true := by decide +kernel
set_option maxRecDepth 100000 in
theorem zU44 : zrun2 44 30000 = true := by decide +kernel
set_option maxRecDepth 100000 in
theorem zU45 : zrun2 45 30000 = true := by decide +kernel
set_option maxRecDepth 100000 in
theorem zU46 : zrun2 46 30000 = true := by decide +kernel
set_option maxRecDepth 100000 in
theorem zU47 : zrun2 47 30000 = true := by decide +kernel
set_option maxRecDepth 100000 in
theorem zU48 : zrun2 48 30000 = true := by decide +kernel
set_option maxRecDepth 100000 in
theorem zU49 : zrun2 49 30000 = true := by decide +kernel
set_option maxRecDepth 100000 in
theorem zU50 : zrun2 50 30000 = true := by decide +kernel
set_option maxRecDepth 100000 in
theorem zU51 : zrun2 51 30000 = true := by decide +kernel
set_option maxRecDepth 100000 in
theorem zU52 : zrun2 52 30000 = true := by decide +kernel
set_option maxRecDepth 100000 in
theorem zU53 : zrun2 53 30000 = true := by decide +kernel
set_option maxRecDepth 100000 in
theorem zU54 : zrun2 54 30000 = true := by decide +kernel
set_option maxRecDepth 100000 in
theorem zU55 : zrun2 55 30000 = true := by decide +kernel
set_option maxRecDepth 100000 in
theorem zU56 : zrun2 56 30000 = true := by decide +kernel
set_option maxRecDepth 100000 in
theorem zU57 : zrun2 57 30000 = true := by decide +kernel
set_option maxRecDepth 100000 in
theorem zU58 : zrun2 58 30000 = true := by decide +kernel
set_option maxRecDepth 100000 in
theorem zU59 : zrun2 59 30000 = true := by decide +kernel
set_option maxRecDepth 100000 in
theorem zU60 : zrun2 60 30000 = true := by decide +kernel
set_option maxRecDepth 100000 in
theorem zU61 : zrun2 61 30000 = true := by decide +kernel
set_option maxRecDepth 100000 in
theorem zU62 : zrun2 62 30000 = true := by decide +kernel
set_option maxRecDepth 100000 in
theorem zU63 : zrun2 63 30000 = true := by decide +kernel
set_option maxRecDepth 100000 in
theorem zU64 : zrun2 64 30000 = true := by decide +kernel
set_option maxRecDepth 100000 in
theorem zU65 : zrun2 65 30000 = true := by decide +kernel
set_option maxRecDepth 100000 in
theorem zU66 : zrun2 66 30000 = true := by decide +kernel
set_option maxRecDepth 100000 in
theorem zU67 : zrun2 67 30000 = true := by decide +kernel
set_option maxRecDepth 100000 in
theorem zU68 : zrun2 68 30000 = true := by decide +kernel
set_option maxRecDepth 100000 in
theorem zU69 : zrun2 69 30000 = true := by decide +kernel
set_option maxRecDepth 100000 in
theorem zU70 : zrun2 70 30000 = true := by decide +kernel
set_option maxRecDepth 100000 in
theorem zU71 : zrun2 71 30000 = true := by decide +kernel
set_option maxRecDepth 100000 in
theorem zU72 : zrun2 72 30000 = true := by decide +kernel
set_option maxRecDepth 100000 in
theorem zU73 : zrun2 73 30000 = true := by decide +kernel
set_option maxRecDepth 100000 in
theorem zU74 : zrun2 74 30000 = true := by decide +kernel
set_option maxRecDepth 100000 in
theorem zU75 : zrun2 75 30000 = true := by decide +kernel
set_option maxRecDepth 100000 in
theorem zU76 : zrun2 76 30000 = true := by decide +kernel
set_option maxRecDepth 100000 in
theorem zU77 : zrun2 77 30000 = true := by decide +kernel
set_option maxRecDepth 100000 in
theorem zU78 : zrun2 78 30000 = true := by decide +kernel
set_option maxRecDepth 100000 in
theorem zU79 : zrun2 79 30000 = true := by decide +kernel
