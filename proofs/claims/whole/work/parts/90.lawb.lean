/-! rows that a program decides: the law's own instructions -/
set_option maxRecDepth 100000 in
theorem okL_2 : (((mr 378).2.2.2.2.2.2.drop 32).take 16).all (fun l => l.all (fun q => okE 378 q.1 q.2)) = true := by decide +kernel
set_option maxRecDepth 100000 in
theorem okL_3 : (((mr 378).2.2.2.2.2.2.drop 48).take 16).all (fun l => l.all (fun q => okE 378 q.1 q.2)) = true := by decide +kernel
