/-! the methods' codes, decoded -/
set_option maxRecDepth 100000 in
theorem zDe0_12 : zkDe code ((zRw0.drop 12).take 1) = true := by decide +kernel
set_option maxRecDepth 100000 in
theorem zDe0_13 : zkDe code ((zRw0.drop 13).take 1) = true := by decide +kernel
