/-! the law to its switch -/
set_option maxRecDepth 100000 in
theorem zA6 : zlaw 6 zck = true := by decide +kernel
