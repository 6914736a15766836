/-! runs of cases -/
set_option maxRecDepth 100000 in
theorem zB25 : zrun 1023 zS25 = true := by decide +kernel
