/-! checks of a class's places -/
set_option maxRecDepth 100000 in
theorem zDk12 : zkD zCl zAO zMT zOb zAc zD12 zH12 zP12 = true := by decide +kernel
