/-! the methods' codes, decoded -/
set_option maxRecDepth 100000 in
theorem zDe0_32 : zkDe code ((zRw0.drop 32).take 1) = true := by decide +kernel
set_option maxRecDepth 100000 in
theorem zDe0_33 : zkDe code ((zRw0.drop 33).take 1) = true := by decide +kernel
