/-! runs of the pieces of a case -/
set_option maxRecDepth 100000 in
theorem zB17_0_0 : zrun 749 (sx_pc1 0 1 (-2147483648, -1) (sx_pc1 0 2 (-2147483648, -1) zS17)) = true := by decide +kernel
set_option maxRecDepth 100000 in
theorem zB17_0_1 : zrun 749 (sx_pc1 0 1 (0, 0) (sx_pc1 0 2 (-2147483648, -1) zS17)) = true := by decide +kernel
set_option maxRecDepth 100000 in
theorem zB17_0_2 : zrun 749 (sx_pc1 0 1 (1, 200) (sx_pc1 0 2 (-2147483648, -1) zS17)) = true := by decide +kernel
set_option maxRecDepth 100000 in
theorem zB17_0_3 : zrun 749 (sx_pc1 0 1 (201, 2147483647) (sx_pc1 0 2 (-2147483648, -1) zS17)) = true := by decide +kernel
set_option maxRecDepth 100000 in
theorem zB17_1_0 : zrun 749 (sx_pc1 0 1 (-2147483648, -1) (sx_pc1 0 2 (0, 0) zS17)) = true := by decide +kernel
set_option maxRecDepth 100000 in
theorem zB17_1_1 : zrun 749 (sx_pc1 0 1 (0, 0) (sx_pc1 0 2 (0, 0) zS17)) = true := by decide +kernel
set_option maxRecDepth 100000 in
theorem zB17_1_2 : zrun 749 (sx_pc1 0 1 (1, 200) (sx_pc1 0 2 (0, 0) zS17)) = true := by decide +kernel
set_option maxRecDepth 100000 in
theorem zB17_1_3 : zrun 749 (sx_pc1 0 1 (201, 2147483647) (sx_pc1 0 2 (0, 0) zS17)) = true := by decide +kernel
set_option maxRecDepth 100000 in
theorem zB17_2_0 : zrun 749 (sx_pc1 0 1 (-2147483648, -1) (sx_pc1 0 2 (1, 1) zS17)) = true := by decide +kernel
set_option maxRecDepth 100000 in
theorem zB17_2_1 : zrun 749 (sx_pc1 0 1 (0, 0) (sx_pc1 0 2 (1, 1) zS17)) = true := by decide +kernel
set_option maxRecDepth 100000 in
theorem zB17_2_2 : zrun 749 (sx_pc1 0 1 (1, 200) (sx_pc1 0 2 (1, 1) zS17)) = true := by decide +kernel
set_option maxRecDepth 100000 in
theorem zB17_2_3 : zrun 749 (sx_pc1 0 1 (201, 2147483647) (sx_pc1 0 2 (1, 1) zS17)) = true := by decide +kernel
set_option maxRecDepth 100000 in
theorem zB17_3_0 : zrun 749 (sx_pc1 0 1 (-2147483648, -1) (sx_pc1 0 2 (2, 2147483647) zS17)) = true := by decide +kernel
set_option maxRecDepth 100000 in
theorem zB17_3_1 : zrun 749 (sx_pc1 0 1 (0, 0) (sx_pc1 0 2 (2, 2147483647) zS17)) = true := by decide +kernel
set_option maxRecDepth 100000 in
theorem zB17_3_2 : zrun 749 (sx_pc1 0 1 (1, 200) (sx_pc1 0 2 (2, 2147483647) zS17)) = true := by decide +kernel
set_option maxRecDepth 100000 in
theorem zB17_3_3 : zrun 749 (sx_pc1 0 1 (201, 2147483647) (sx_pc1 0 2 (2, 2147483647) zS17)) = true := by decide +kernel
