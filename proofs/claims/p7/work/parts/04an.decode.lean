/-! the methods' codes, decoded -/
set_option maxRecDepth 100000 in
theorem zDe0_14 : zkDe code ((zRw0.drop 14).take 1) = true := by decide +kernel
set_option maxRecDepth 100000 in
theorem zDe0_15 : zkDe code ((zRw0.drop 15).take 1) = true := by decide +kernel
