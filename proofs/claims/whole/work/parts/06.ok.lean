theorem mFL_r : mFL.all (fun q => match vwCl[q.2.2.1]? with
  | some (C, T, N) => Nat.blt q.2.2.2.1 N && inT q.2.2.2.2 (.fieldLink (nth "" mOW q.1) q.2.1 C (T q.2.2.2.1).2.1 (T q.2.2.2.1).2.2.1) && decide ((T q.2.2.2.1).1 = C)
  | none => false) = true := sorry
theorem mML_r : mML.all (fun q => Nat.blt q.2.2.1 378 && inT q.2.2.2 (.methodLink (nth "" mOW q.1) q.2.1 (mn q.2.2.1).1)) = true := sorry
theorem mCI_r : mCI.all (fun q => inT q.2.2.2 (.constant (nth "" mOW q.1) q.2.1 (kI q.2.2.1))) = true := sorry
theorem mCL_r : mCL.all (fun q => inT q.2.2.2 (.constantLong (nth "" mOW q.1) q.2.1 (kL q.2.2.1))) = true := sorry
theorem mAC_r : mAC.all (fun q => inT q.2.2 (.methodLink (nth "" mOW q.1) q.2.1 arraycopyName)) = true := sorry
theorem mMM_r : mMM.all (fun q => inT q.2.2.2 (.methodLink (nth "" mOW q.1) q.2.1 (mMN q.2.2.1))) = true := sorry
theorem mSF_r : mSF.all (fun q => inT q.2.2.2 (.fieldLink (nth "" mOW q.1) q.2.1 (mSW q.2.2.1).1 (mSW q.2.2.1).2.1 (mSW q.2.2.1).2.2)) = true := sorry
theorem okY_all {y : Nat} (h : y < 378) : okY y = true := sorry
theorem okM_all {y : Nat} (h : y < 379) : okM y = true := sorry
