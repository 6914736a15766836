/-! from the middle of a case -/
set_option maxRecDepth 100000 in
theorem zB32b : zrun 1224 zMsW = true := by decide +kernel
