/-! the methods' codes, decoded -/
set_option maxRecDepth 100000 in
theorem zDe0_24 : zkDe code ((zRw0.drop 24).take 1) = true := by decide +kernel
set_option maxRecDepth 100000 in
theorem zDe0_25 : zkDe code ((zRw0.drop 25).take 1) = true := by decide +kernel
