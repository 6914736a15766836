/-! checks of a class's places -/
set_option maxRecDepth 100000 in
theorem zDk11 : zkD zCl zAO zMT zOb zAc zD11 zH11 zP11 = true := by decide +kernel
