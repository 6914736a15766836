/-! the methods' codes, decoded -/
set_option maxRecDepth 100000 in
theorem zDe0_22 : zkDe code ((zRw0.drop 22).take 1) = true := by decide +kernel
set_option maxRecDepth 100000 in
theorem zDe0_23 : zkDe code ((zRw0.drop 23).take 1) = true := by decide +kernel
