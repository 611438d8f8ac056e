/-! rows that a program decides: every instruction's row -/
set_option maxRecDepth 100000 in
theorem okM_g26 : (List.range' 260 10).all okM = true := by decide +kernel
set_option maxRecDepth 100000 in
theorem okM_g27 : (List.range' 270 10).all okM = true := by decide +kernel
set_option maxRecDepth 100000 in
theorem okM_g28 : (List.range' 280 10).all okM = true := by decide +kernel
set_option maxRecDepth 100000 in
theorem okM_g29 : (List.range' 290 10).all okM = true := by decide +kernel
set_option maxRecDepth 100000 in
theorem okM_g30 : (List.range' 300 10).all okM = true := by decide +kernel
set_option maxRecDepth 100000 in
theorem okM_g31 : (List.range' 310 10).all okM = true := by decide +kernel
set_option maxRecDepth 100000 in
theorem okM_g32 : (List.range' 320 10).all okM = true := by decide +kernel
set_option maxRecDepth 100000 in
theorem okM_g33 : (List.range' 330 10).all okM = true := by decide +kernel
set_option maxRecDepth 100000 in
theorem okM_g34 : (List.range' 340 10).all okM = true := by decide +kernel
set_option maxRecDepth 100000 in
theorem okM_g35 : (List.range' 350 10).all okM = true := by decide +kernel
set_option maxRecDepth 100000 in
theorem okM_g36 : (List.range' 360 10).all okM = true := by decide +kernel
set_option maxRecDepth 100000 in
theorem okM_g37 : (List.range' 370 8).all okM = true := by decide +kernel
theorem okM_all {y : Nat} (h : y < 378) : okM y = true := by
  by_cases h0 : y < 10
  · exact List.all_eq_true.mp okM_g0 y (List.mem_range'_1.mpr ⟨by omega, by omega⟩)
  by_cases h1 : y < 20
  · exact List.all_eq_true.mp okM_g1 y (List.mem_range'_1.mpr ⟨by omega, by omega⟩)
  by_cases h2 : y < 30
  · exact List.all_eq_true.mp okM_g2 y (List.mem_range'_1.mpr ⟨by omega, by omega⟩)
  by_cases h3 : y < 40
  · exact List.all_eq_true.mp okM_g3 y (List.mem_range'_1.mpr ⟨by omega, by omega⟩)
  by_cases h4 : y < 50
  · exact List.all_eq_true.mp okM_g4 y (List.mem_range'_1.mpr ⟨by omega, by omega⟩)
  by_cases h5 : y < 60
  · exact List.all_eq_true.mp okM_g5 y (List.mem_range'_1.mpr ⟨by omega, by omega⟩)
  by_cases h6 : y < 70
  · exact List.all_eq_true.mp okM_g6 y (List.mem_range'_1.mpr ⟨by omega, by omega⟩)
  by_cases h7 : y < 80
  · exact List.all_eq_true.mp okM_g7 y (List.mem_range'_1.mpr ⟨by omega, by omega⟩)
  by_cases h8 : y < 90
  · exact List.all_eq_true.mp okM_g8 y (List.mem_range'_1.mpr ⟨by omega, by omega⟩)
  by_cases h9 : y < 100
  · exact List.all_eq_true.mp okM_g9 y (List.mem_range'_1.mpr ⟨by omega, by omega⟩)
  by_cases h10 : y < 110
  · exact List.all_eq_true.mp okM_g10 y (List.mem_range'_1.mpr ⟨by omega, by omega⟩)
  by_cases h11 : y < 120
  · exact List.all_eq_true.mp okM_g11 y (List.mem_range'_1.mpr ⟨by omega, by omega⟩)
  by_cases h12 : y < 130
  · exact List.all_eq_true.mp okM_g12 y (List.mem_range'_1.mpr ⟨by omega, by omega⟩)
  by_cases h13 : y < 140
  · exact List.all_eq_true.mp okM_g13 y (List.mem_range'_1.mpr ⟨by omega, by omega⟩)
  by_cases h14 : y < 150
  · exact List.all_eq_true.mp okM_g14 y (List.mem_range'_1.mpr ⟨by omega, by omega⟩)
  by_cases h15 : y < 160
  · exact List.all_eq_true.mp okM_g15 y (List.mem_range'_1.mpr ⟨by omega, by omega⟩)
  by_cases h16 : y < 170
  · exact List.all_eq_true.mp okM_g16 y (List.mem_range'_1.mpr ⟨by omega, by omega⟩)
  by_cases h17 : y < 180
  · exact List.all_eq_true.mp okM_g17 y (List.mem_range'_1.mpr ⟨by omega, by omega⟩)
  by_cases h18 : y < 190
  · exact List.all_eq_true.mp okM_g18 y (List.mem_range'_1.mpr ⟨by omega, by omega⟩)
  by_cases h19 : y < 200
  · exact List.all_eq_true.mp okM_g19 y (List.mem_range'_1.mpr ⟨by omega, by omega⟩)
  by_cases h20 : y < 210
  · exact List.all_eq_true.mp okM_g20 y (List.mem_range'_1.mpr ⟨by omega, by omega⟩)
  by_cases h21 : y < 220
  · exact List.all_eq_true.mp okM_g21 y (List.mem_range'_1.mpr ⟨by omega, by omega⟩)
  by_cases h22 : y < 230
  · exact List.all_eq_true.mp okM_g22 y (List.mem_range'_1.mpr ⟨by omega, by omega⟩)
  by_cases h23 : y < 240
  · exact List.all_eq_true.mp okM_g23 y (List.mem_range'_1.mpr ⟨by omega, by omega⟩)
  by_cases h24 : y < 250
  · exact List.all_eq_true.mp okM_g24 y (List.mem_range'_1.mpr ⟨by omega, by omega⟩)
  by_cases h25 : y < 260
  · exact List.all_eq_true.mp okM_g25 y (List.mem_range'_1.mpr ⟨by omega, by omega⟩)
  by_cases h26 : y < 270
  · exact List.all_eq_true.mp okM_g26 y (List.mem_range'_1.mpr ⟨by omega, by omega⟩)
  by_cases h27 : y < 280
  · exact List.all_eq_true.mp okM_g27 y (List.mem_range'_1.mpr ⟨by omega, by omega⟩)
  by_cases h28 : y < 290
  · exact List.all_eq_true.mp okM_g28 y (List.mem_range'_1.mpr ⟨by omega, by omega⟩)
  by_cases h29 : y < 300
  · exact List.all_eq_true.mp okM_g29 y (List.mem_range'_1.mpr ⟨by omega, by omega⟩)
  by_cases h30 : y < 310
  · exact List.all_eq_true.mp okM_g30 y (List.mem_range'_1.mpr ⟨by omega, by omega⟩)
  by_cases h31 : y < 320
  · exact List.all_eq_true.mp okM_g31 y (List.mem_range'_1.mpr ⟨by omega, by omega⟩)
  by_cases h32 : y < 330
  · exact List.all_eq_true.mp okM_g32 y (List.mem_range'_1.mpr ⟨by omega, by omega⟩)
  by_cases h33 : y < 340
  · exact List.all_eq_true.mp okM_g33 y (List.mem_range'_1.mpr ⟨by omega, by omega⟩)
  by_cases h34 : y < 350
  · exact List.all_eq_true.mp okM_g34 y (List.mem_range'_1.mpr ⟨by omega, by omega⟩)
  by_cases h35 : y < 360
  · exact List.all_eq_true.mp okM_g35 y (List.mem_range'_1.mpr ⟨by omega, by omega⟩)
  by_cases h36 : y < 370
  · exact List.all_eq_true.mp okM_g36 y (List.mem_range'_1.mpr ⟨by omega, by omega⟩)
  by_cases h37 : y < 378
  · exact List.all_eq_true.mp okM_g37 y (List.mem_range'_1.mpr ⟨by omega, by omega⟩)
  omega
set_option maxRecDepth 100000 in
theorem mFL_r : mFL.all (fun q => match vwCl[q.2.2.1]? with
  | some (C, T, N) => Nat.blt q.2.2.2.1 N && inT q.2.2.2.2 (.fieldLink (nth "" mOW q.1) q.2.1 C (T q.2.2.2.1).2.1 (T q.2.2.2.1).2.2.1) && decide ((T q.2.2.2.1).1 = C)
  | none => false) = true := by decide +kernel
set_option maxRecDepth 100000 in
theorem mML_r : mML.all (fun q => Nat.blt q.2.2.1 378 && inT q.2.2.2 (.methodLink (nth "" mOW q.1) q.2.1 (mn q.2.2.1).1)) = true := by decide +kernel
set_option maxRecDepth 100000 in
theorem mCI_r : mCI.all (fun q => inT q.2.2.2 (.constant (nth "" mOW q.1) q.2.1 (kI q.2.2.1))) = true := by decide +kernel
set_option maxRecDepth 100000 in
theorem mCL_r : mCL.all (fun q => inT q.2.2.2 (.constantLong (nth "" mOW q.1) q.2.1 (kL q.2.2.1))) = true := by decide +kernel
set_option maxRecDepth 100000 in
theorem mAC_r : mAC.all (fun q => inT q.2.2 (.methodLink (nth "" mOW q.1) q.2.1 arraycopyName)) = true := by decide +kernel
set_option maxRecDepth 100000 in
theorem mMM_r : mMM.all (fun q => inT q.2.2.2 (.methodLink (nth "" mOW q.1) q.2.1 (mMN q.2.2.1))) = true := by decide +kernel
set_option maxRecDepth 100000 in
theorem mSF_r : mSF.all (fun q => inT q.2.2.2 (.fieldLink (nth "" mOW q.1) q.2.1 (mSW q.2.2.1).1 (mSW q.2.2.1).2.1 (mSW q.2.2.1).2.2)) = true := by decide +kernel

