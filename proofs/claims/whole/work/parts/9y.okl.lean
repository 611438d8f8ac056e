/-! the law's own instructions, checked (written by wip/whole/gs4.py) -/
noncomputable def lawC (a n : Nat) : Bool := (((mr 378).2.2.2.2.2.2.drop a).take n).all (fun l => l.all (fun q => okE 378 q.1 q.2))
set_option maxRecDepth 100000 in
theorem lawC_0 : lawC 0 4 = true := by decide +kernel
set_option maxRecDepth 100000 in
theorem lawC_1 : lawC 4 4 = true := by decide +kernel
set_option maxRecDepth 100000 in
theorem lawC_2 : lawC 8 4 = true := by decide +kernel
set_option maxRecDepth 100000 in
theorem lawC_3 : lawC 12 4 = true := by decide +kernel
set_option maxRecDepth 100000 in
theorem lawC_4 : lawC 16 4 = true := by decide +kernel
set_option maxRecDepth 100000 in
theorem lawC_5 : lawC 20 4 = true := by decide +kernel
set_option maxRecDepth 100000 in
theorem lawC_6 : lawC 24 4 = true := by decide +kernel
set_option maxRecDepth 100000 in
theorem lawC_7 : lawC 28 4 = true := by decide +kernel
