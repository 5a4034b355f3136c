/-! the two wide boards -/
set_option maxRecDepth 100000 in
theorem ch_43 : chN 12 1690 (lnsN 4 3) (2 ^ 2 ^ 12 - 1) = true := by decide +kernel
set_option maxRecDepth 100000 in
theorem ch_44 : chN 16 1690 (lnsN 4 4) (2 ^ 2 ^ 16 - 1) = true := by decide +kernel
