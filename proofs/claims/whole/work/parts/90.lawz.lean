/-! every instruction of the law -/
theorem okM_law : okM 378 = true := by
  show ((mr 378).2.2.2.2.2.2).all (fun l => l.all (fun q => okE 378 q.1 q.2)) = true
  rw [← List.take_append_drop 16 (mr 378).2.2.2.2.2.2, List.all_append, okL_0, Bool.true_and]
  rw [← List.take_append_drop 16 ((mr 378).2.2.2.2.2.2.drop 16), List.all_append, okL_1, Bool.true_and, List.drop_drop]
  rw [← List.take_append_drop 16 ((mr 378).2.2.2.2.2.2.drop 32), List.all_append, okL_2, Bool.true_and, List.drop_drop]
  rw [← List.take_append_drop 16 ((mr 378).2.2.2.2.2.2.drop 48), List.all_append, okL_3, Bool.true_and, List.drop_drop]
  rw [← List.take_append_drop 4 ((mr 378).2.2.2.2.2.2.drop 64), List.all_append, okL_4, Bool.true_and, List.drop_drop]
  rw [← List.take_append_drop 4 ((mr 378).2.2.2.2.2.2.drop 68), List.all_append, okL_5, Bool.true_and, List.drop_drop]
  rw [← List.take_append_drop 4 ((mr 378).2.2.2.2.2.2.drop 72), List.all_append, okL_6, Bool.true_and, List.drop_drop]
  rw [← List.take_append_drop 4 ((mr 378).2.2.2.2.2.2.drop 76), List.all_append, okL_7, Bool.true_and, List.drop_drop]
  rw [← List.take_append_drop 4 ((mr 378).2.2.2.2.2.2.drop 80), List.all_append, okL_8, Bool.true_and, List.drop_drop]
  rw [← List.take_append_drop 4 ((mr 378).2.2.2.2.2.2.drop 84), List.all_append, okL_9, Bool.true_and, List.drop_drop]
  rw [← List.take_append_drop 4 ((mr 378).2.2.2.2.2.2.drop 88), List.all_append, okL_10, Bool.true_and, List.drop_drop]
  rw [← List.take_append_drop 4 ((mr 378).2.2.2.2.2.2.drop 92), List.all_append, okL_11, Bool.true_and, List.drop_drop]
  rw [← List.take_append_drop 4 ((mr 378).2.2.2.2.2.2.drop 96), List.all_append, okL_12, Bool.true_and, List.drop_drop]
  rw [← List.take_append_drop 4 ((mr 378).2.2.2.2.2.2.drop 100), List.all_append, okL_13, Bool.true_and, List.drop_drop]
  rw [← List.take_append_drop 4 ((mr 378).2.2.2.2.2.2.drop 104), List.all_append, okL_14, Bool.true_and, List.drop_drop]
  rw [← List.take_append_drop 4 ((mr 378).2.2.2.2.2.2.drop 108), List.all_append, okL_15, Bool.true_and, List.drop_drop]
  rw [← List.take_append_drop 4 ((mr 378).2.2.2.2.2.2.drop 112), List.all_append, okL_16, Bool.true_and, List.drop_drop]
  rw [← List.take_append_drop 4 ((mr 378).2.2.2.2.2.2.drop 116), List.all_append, okL_17, Bool.true_and, List.drop_drop]
  rw [← List.take_append_drop 4 ((mr 378).2.2.2.2.2.2.drop 120), List.all_append, okL_18, Bool.true_and, List.drop_drop]
  exact okL_end
