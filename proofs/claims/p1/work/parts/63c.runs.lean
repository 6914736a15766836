/-! runs of cases -/
set_option maxRecDepth 100000 in
theorem zB5 : zrun 383 zS5 = true := by decide +kernel
