/-! the methods' codes, decoded -/
set_option maxRecDepth 100000 in
theorem zDe0_10 : zkDe code ((zRw0.drop 10).take 1) = true := by decide +kernel
set_option maxRecDepth 100000 in
theorem zDe0_11 : zkDe code ((zRw0.drop 11).take 1) = true := by decide +kernel
