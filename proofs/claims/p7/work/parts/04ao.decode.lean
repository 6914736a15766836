/-! the methods' codes, decoded -/
set_option maxRecDepth 100000 in
theorem zDe0_16 : zkDe code ((zRw0.drop 16).take 1) = true := by decide +kernel
set_option maxRecDepth 100000 in
theorem zDe0_17 : zkDe code ((zRw0.drop 17).take 1) = true := by decide +kernel
