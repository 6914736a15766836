/-! the methods that are walked by hand, stretches of places of one type; printed by program -/
set_option maxRecDepth 100000 in
theorem zs69_2 : zck 69 2 1 (-2147483648) (2147483647) = true := by decide +kernel
set_option maxRecDepth 100000 in
theorem zs69_3 : zck 69 3 1 (0) (400) = true := by decide +kernel
