/-! the methods' codes, decoded -/
set_option maxRecDepth 100000 in
theorem zDe0_8 : zkDe code ((zRw0.drop 8).take 1) = true := by decide +kernel
set_option maxRecDepth 100000 in
theorem zDe0_9 : zkDe code ((zRw0.drop 9).take 1) = true := by decide +kernel
