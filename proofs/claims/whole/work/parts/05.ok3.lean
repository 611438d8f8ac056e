/-! rows that a program decides: every instruction's row -/
set_option maxRecDepth 100000 in
theorem okM_g13 : (List.range' 130 10).all okM = true := by decide +kernel
set_option maxRecDepth 100000 in
theorem okM_g14 : (List.range' 140 10).all okM = true := by decide +kernel
set_option maxRecDepth 100000 in
theorem okM_g15 : (List.range' 150 10).all okM = true := by decide +kernel
set_option maxRecDepth 100000 in
theorem okM_g16 : (List.range' 160 10).all okM = true := by decide +kernel
set_option maxRecDepth 100000 in
theorem okM_g17 : (List.range' 170 10).all okM = true := by decide +kernel
set_option maxRecDepth 100000 in
theorem okM_g18 : (List.range' 180 10).all okM = true := by decide +kernel
set_option maxRecDepth 100000 in
theorem okM_g19 : (List.range' 190 10).all okM = true := by decide +kernel
set_option maxRecDepth 100000 in
theorem okM_g20 : (List.range' 200 10).all okM = true := by decide +kernel
set_option maxRecDepth 100000 in
theorem okM_g21 : (List.range' 210 10).all okM = true := by decide +kernel
set_option maxRecDepth 100000 in
theorem okM_g22 : (List.range' 220 10).all okM = true := by decide +kernel
set_option maxRecDepth 100000 in
theorem okM_g23 : (List.range' 230 10).all okM = true := by decide +kernel
set_option maxRecDepth 100000 in
theorem okM_g24 : (List.range' 240 10).all okM = true := by decide +kernel
set_option maxRecDepth 100000 in
theorem okM_g25 : (List.range' 250 10).all okM = true := by decide +kernel
