/-! the methods' codes, decoded -/
set_option maxRecDepth 100000 in
theorem zDe0_26 : zkDe code ((zRw0.drop 26).take 1) = true := by decide +kernel
set_option maxRecDepth 100000 in
theorem zDe0_27 : zkDe code ((zRw0.drop 27).take 1) = true := by decide +kernel
