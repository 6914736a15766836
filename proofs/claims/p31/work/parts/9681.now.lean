/-! where customers are: a place is written -/
set_option maxRecDepth 100000 in
theorem zs206_now : zck 206 106 18 (0) (12) = true := by decide +kernel
set_option maxRecDepth 100000 in
theorem zs206_105 : zck 206 105 1 (-1000) (9999) = true := by decide +kernel
theorem zT_now {μ : pm_Mem} (hT : zTJ μ) {i x : Int} (h0 : 105 ≤ i ∧ i ≤ 123) (hx : 0 ≤ x ∧ x ≤ 12) : zTJ (pm_up μ 206 i x) := by
  by_cases hi : i = 105
  · exact zT_up hT zs206_105 (by decide) (by omega) (by omega) (by omega) (by omega)
  · exact zT_up hT zs206_now (by decide) (by omega) (by omega) hx.1 hx.2
