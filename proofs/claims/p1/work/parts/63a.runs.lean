/-! runs of cases -/
set_option maxRecDepth 100000 in
theorem zB14 : zrun 670 zS14 = true := by decide +kernel
