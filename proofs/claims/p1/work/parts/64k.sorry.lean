/-! a case that is not run yet -/
set_option maxRecDepth 100000 in
theorem zB28 : zrun 1092 zS28 = true := sorry
