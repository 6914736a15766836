/-! runs of cases -/
set_option maxRecDepth 100000 in
theorem zB8 : zrun 492 zS8 = true := by decide +kernel
