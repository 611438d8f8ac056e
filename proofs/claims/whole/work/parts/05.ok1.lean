/-! rows that a program decides: every method's words -/
set_option maxRecDepth 100000 in
theorem okY_g0 : (List.range' 0 20).all okY = true := by decide +kernel
set_option maxRecDepth 100000 in
theorem okY_g1 : (List.range' 20 20).all okY = true := by decide +kernel
set_option maxRecDepth 100000 in
theorem okY_g2 : (List.range' 40 20).all okY = true := by decide +kernel
set_option maxRecDepth 100000 in
theorem okY_g3 : (List.range' 60 20).all okY = true := by decide +kernel
set_option maxRecDepth 100000 in
theorem okY_g4 : (List.range' 80 20).all okY = true := by decide +kernel
set_option maxRecDepth 100000 in
theorem okY_g5 : (List.range' 100 20).all okY = true := by decide +kernel
set_option maxRecDepth 100000 in
theorem okY_g6 : (List.range' 120 20).all okY = true := by decide +kernel
set_option maxRecDepth 100000 in
theorem okY_g7 : (List.range' 140 20).all okY = true := by decide +kernel
set_option maxRecDepth 100000 in
theorem okY_g8 : (List.range' 160 20).all okY = true := by decide +kernel
set_option maxRecDepth 100000 in
theorem okY_g9 : (List.range' 180 20).all okY = true := by decide +kernel
set_option maxRecDepth 100000 in
theorem okY_g10 : (List.range' 200 20).all okY = true := by decide +kernel
set_option maxRecDepth 100000 in
theorem okY_g11 : (List.range' 220 20).all okY = true := by decide +kernel
set_option maxRecDepth 100000 in
theorem okY_g12 : (List.range' 240 20).all okY = true := by decide +kernel
set_option maxRecDepth 100000 in
theorem okY_g13 : (List.range' 260 20).all okY = true := by decide +kernel
set_option maxRecDepth 100000 in
theorem okY_g14 : (List.range' 280 20).all okY = true := by decide +kernel
set_option maxRecDepth 100000 in
theorem okY_g15 : (List.range' 300 20).all okY = true := by decide +kernel
set_option maxRecDepth 100000 in
theorem okY_g16 : (List.range' 320 20).all okY = true := by decide +kernel
set_option maxRecDepth 100000 in
theorem okY_g17 : (List.range' 340 20).all okY = true := by decide +kernel
set_option maxRecDepth 100000 in
theorem okY_g18 : (List.range' 360 18).all okY = true := by decide +kernel
theorem okY_all {y : Nat} (h : y < 378) : okY y = true := by
  by_cases h0 : y < 20
  · exact List.all_eq_true.mp okY_g0 y (List.mem_range'_1.mpr ⟨by omega, by omega⟩)
  by_cases h1 : y < 40
  · exact List.all_eq_true.mp okY_g1 y (List.mem_range'_1.mpr ⟨by omega, by omega⟩)
  by_cases h2 : y < 60
  · exact List.all_eq_true.mp okY_g2 y (List.mem_range'_1.mpr ⟨by omega, by omega⟩)
  by_cases h3 : y < 80
  · exact List.all_eq_true.mp okY_g3 y (List.mem_range'_1.mpr ⟨by omega, by omega⟩)
  by_cases h4 : y < 100
  · exact List.all_eq_true.mp okY_g4 y (List.mem_range'_1.mpr ⟨by omega, by omega⟩)
  by_cases h5 : y < 120
  · exact List.all_eq_true.mp okY_g5 y (List.mem_range'_1.mpr ⟨by omega, by omega⟩)
  by_cases h6 : y < 140
  · exact List.all_eq_true.mp okY_g6 y (List.mem_range'_1.mpr ⟨by omega, by omega⟩)
  by_cases h7 : y < 160
  · exact List.all_eq_true.mp okY_g7 y (List.mem_range'_1.mpr ⟨by omega, by omega⟩)
  by_cases h8 : y < 180
  · exact List.all_eq_true.mp okY_g8 y (List.mem_range'_1.mpr ⟨by omega, by omega⟩)
  by_cases h9 : y < 200
  · exact List.all_eq_true.mp okY_g9 y (List.mem_range'_1.mpr ⟨by omega, by omega⟩)
  by_cases h10 : y < 220
  · exact List.all_eq_true.mp okY_g10 y (List.mem_range'_1.mpr ⟨by omega, by omega⟩)
  by_cases h11 : y < 240
  · exact List.all_eq_true.mp okY_g11 y (List.mem_range'_1.mpr ⟨by omega, by omega⟩)
  by_cases h12 : y < 260
  · exact List.all_eq_true.mp okY_g12 y (List.mem_range'_1.mpr ⟨by omega, by omega⟩)
  by_cases h13 : y < 280
  · exact List.all_eq_true.mp okY_g13 y (List.mem_range'_1.mpr ⟨by omega, by omega⟩)
  by_cases h14 : y < 300
  · exact List.all_eq_true.mp okY_g14 y (List.mem_range'_1.mpr ⟨by omega, by omega⟩)
  by_cases h15 : y < 320
  · exact List.all_eq_true.mp okY_g15 y (List.mem_range'_1.mpr ⟨by omega, by omega⟩)
  by_cases h16 : y < 340
  · exact List.all_eq_true.mp okY_g16 y (List.mem_range'_1.mpr ⟨by omega, by omega⟩)
  by_cases h17 : y < 360
  · exact List.all_eq_true.mp okY_g17 y (List.mem_range'_1.mpr ⟨by omega, by omega⟩)
  by_cases h18 : y < 378
  · exact List.all_eq_true.mp okY_g18 y (List.mem_range'_1.mpr ⟨by omega, by omega⟩)
  omega
