/-! the methods' codes, decoded -/
set_option maxRecDepth 100000 in
theorem zDe0_30 : zkDe code ((zRw0.drop 30).take 1) = true := by decide +kernel
set_option maxRecDepth 100000 in
theorem zDe0_31 : zkDe code ((zRw0.drop 31).take 1) = true := by decide +kernel
