/-! the methods' codes, decoded -/
set_option maxRecDepth 100000 in
theorem zDe0_0 : zkDe code ((zRw0.drop 0).take 6) = true := by decide +kernel
set_option maxRecDepth 100000 in
theorem zDe0_6 : zkDe code ((zRw0.drop 6).take 1) = true := by decide +kernel
set_option maxRecDepth 100000 in
theorem zDe0_7 : zkDe code ((zRw0.drop 7).take 1) = true := by decide +kernel
