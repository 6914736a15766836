/-! runs of cases -/
set_option maxRecDepth 100000 in
theorem zB38 : zrun 1342 zS38 = true := by decide +kernel
