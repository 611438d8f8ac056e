/-! the law's own instructions, checked (written by wip/whole/gs4.py) -/
set_option maxRecDepth 100000 in
theorem lawC_8 : lawC 32 4 = true := by decide +kernel
set_option maxRecDepth 100000 in
theorem lawC_9 : lawC 36 4 = true := by decide +kernel
set_option maxRecDepth 100000 in
theorem lawC_10 : lawC 40 4 = true := by decide +kernel
set_option maxRecDepth 100000 in
theorem lawC_11 : lawC 44 4 = true := by decide +kernel
set_option maxRecDepth 100000 in
theorem lawC_12 : lawC 48 4 = true := by decide +kernel
set_option maxRecDepth 100000 in
theorem lawC_13 : lawC 52 4 = true := by decide +kernel
