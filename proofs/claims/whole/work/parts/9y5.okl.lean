/-! the law's own instructions, checked (written by wip/whole/gs4.py) -/
set_option maxRecDepth 100000 in
theorem lawC_23 : lawC 92 4 = true := by decide +kernel
set_option maxRecDepth 100000 in
theorem lawC_24 : lawC 96 4 = true := by decide +kernel
set_option maxRecDepth 100000 in
theorem lawC_25 : lawC 100 4 = true := by decide +kernel
set_option maxRecDepth 100000 in
theorem lawC_26 : lawC 104 4 = true := by decide +kernel
