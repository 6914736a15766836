/-! checks of a class's places -/
set_option maxRecDepth 100000 in
theorem zDk13 : zkD zCl zAO zMT zOb zAc zD13 zH13 zP13 = true := by decide +kernel
