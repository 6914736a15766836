/-! runs of cases -/
set_option maxRecDepth 100000 in
theorem zB17 : zrun 749 zS17 = true := by decide +kernel
