/-! the methods that are walked by hand, stretches of places of one type; printed by program -/
