set_option maxRecDepth 100000 in
theorem km_0 : chM 38 = true := by decide +kernel
set_option maxRecDepth 100000 in
theorem km_1 : chM 122 = true := by decide +kernel
