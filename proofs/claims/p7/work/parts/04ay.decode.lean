/-! the methods' codes, decoded -/
set_option maxRecDepth 100000 in
theorem zDe0_36 : zkDe code ((zRw0.drop 36).take 1) = true := by decide +kernel
set_option maxRecDepth 100000 in
theorem zDe0_37 : zkDe code ((zRw0.drop 37).take 1) = true := by decide +kernel
