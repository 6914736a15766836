/-! the methods' codes, decoded -/
set_option maxRecDepth 100000 in
theorem zDe0_20 : zkDe code ((zRw0.drop 20).take 1) = true := by decide +kernel
set_option maxRecDepth 100000 in
theorem zDe0_21 : zkDe code ((zRw0.drop 21).take 1) = true := by decide +kernel
