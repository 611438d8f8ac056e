/-! the law's own instructions, checked (written by wip/whole/gs4.py) -/
set_option maxRecDepth 100000 in
theorem lawC_19 : lawC 76 4 = true := by decide +kernel
set_option maxRecDepth 100000 in
theorem lawC_20 : lawC 80 4 = true := by decide +kernel
set_option maxRecDepth 100000 in
theorem lawC_21 : lawC 84 4 = true := by decide +kernel
set_option maxRecDepth 100000 in
theorem lawC_22 : lawC 88 4 = true := by decide +kernel
