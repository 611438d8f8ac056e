/-! rows that a program decides: the law's own instructions -/
set_option maxRecDepth 100000 in
theorem okL_15 : (((mr 378).2.2.2.2.2.2.drop 108).take 4).all (fun l => l.all (fun q => okE 378 q.1 q.2)) = true := by decide +kernel
