/-! rows that a program decides: every instruction's row -/
set_option maxRecDepth 100000 in
theorem okM_g0 : (List.range' 0 10).all okM = true := by decide +kernel
set_option maxRecDepth 100000 in
theorem okM_g1 : (List.range' 10 10).all okM = true := by decide +kernel
set_option maxRecDepth 100000 in
theorem okM_g2 : (List.range' 20 10).all okM = true := by decide +kernel
set_option maxRecDepth 100000 in
theorem okM_g3 : (List.range' 30 10).all okM = true := by decide +kernel
set_option maxRecDepth 100000 in
theorem okM_g4 : (List.range' 40 10).all okM = true := by decide +kernel
set_option maxRecDepth 100000 in
theorem okM_g5 : (List.range' 50 10).all okM = true := by decide +kernel
set_option maxRecDepth 100000 in
theorem okM_g6 : (List.range' 60 10).all okM = true := by decide +kernel
set_option maxRecDepth 100000 in
theorem okM_g7 : (List.range' 70 10).all okM = true := by decide +kernel
set_option maxRecDepth 100000 in
theorem okM_g8 : (List.range' 80 10).all okM = true := by decide +kernel
set_option maxRecDepth 100000 in
theorem okM_g9 : (List.range' 90 10).all okM = true := by decide +kernel
set_option maxRecDepth 100000 in
theorem okM_g10 : (List.range' 100 10).all okM = true := by decide +kernel
set_option maxRecDepth 100000 in
theorem okM_g11 : (List.range' 110 10).all okM = true := by decide +kernel
set_option maxRecDepth 100000 in
theorem okM_g12 : (List.range' 120 10).all okM = true := by decide +kernel
