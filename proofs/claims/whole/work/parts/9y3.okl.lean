/-! the law's own instructions, checked (written by wip/whole/gs4.py) -/
set_option maxRecDepth 100000 in
theorem lawC_14 : lawC 56 4 = true := by decide +kernel
set_option maxRecDepth 100000 in
theorem lawC_15 : lawC 60 4 = true := by decide +kernel
set_option maxRecDepth 100000 in
theorem lawC_16 : lawC 64 4 = true := by decide +kernel
set_option maxRecDepth 100000 in
theorem lawC_17 : lawC 68 4 = true := by decide +kernel
set_option maxRecDepth 100000 in
theorem lawC_18 : lawC 72 4 = true := by decide +kernel
