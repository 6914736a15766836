/-! runs of cases -/
set_option maxRecDepth 100000 in
theorem zB13 : zrun 637 zS13 = true := by decide +kernel
