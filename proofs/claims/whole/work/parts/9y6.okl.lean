/-! the law's own instructions, checked (written by wip/whole/gs4.py) -/
set_option maxRecDepth 100000 in
theorem lawC_27 : lawC 108 4 = true := by decide +kernel
set_option maxRecDepth 100000 in
theorem lawC_28 : lawC 112 4 = true := by decide +kernel
set_option maxRecDepth 100000 in
theorem lawC_29 : lawC 116 4 = true := by decide +kernel
set_option maxRecDepth 100000 in
theorem lawC_30 : lawC 120 4 = true := by decide +kernel
theorem all_cut {α : Type} {f : α → Bool} : ∀ (n : Nat) (l : List α), (l.take n).all f = true → (l.drop n).all f = true → l.all f = true := by
  intro n l h1 h2
  rw [← List.take_append_drop n l, List.all_append, h1, h2]
  rfl
theorem lawC_to {a : Nat} (h1 : lawC a 4 = true) (h2 : ((mr 378).2.2.2.2.2.2.drop (a + 4)).all (fun l => l.all (fun q => okE 378 q.1 q.2)) = true) : ((mr 378).2.2.2.2.2.2.drop a).all (fun l => l.all (fun q => okE 378 q.1 q.2)) = true := all_cut 4 _ h1 (by rw [List.drop_drop]; exact h2)
theorem lawC_end : (mr 378).2.2.2.2.2.2.drop 124 = [] := by decide +kernel
theorem okM_law : okM 378 = true := by
  have h : ((mr 378).2.2.2.2.2.2.drop 0).all (fun l => l.all (fun q => okE 378 q.1 q.2)) = true := lawC_to lawC_0 (lawC_to lawC_1 (lawC_to lawC_2 (lawC_to lawC_3 (lawC_to lawC_4 (lawC_to lawC_5 (lawC_to lawC_6 (lawC_to lawC_7 (lawC_to lawC_8 (lawC_to lawC_9 (lawC_to lawC_10 (lawC_to lawC_11 (lawC_to lawC_12 (lawC_to lawC_13 (lawC_to lawC_14 (lawC_to lawC_15 (lawC_to lawC_16 (lawC_to lawC_17 (lawC_to lawC_18 (lawC_to lawC_19 (lawC_to lawC_20 (lawC_to lawC_21 (lawC_to lawC_22 (lawC_to lawC_23 (lawC_to lawC_24 (lawC_to lawC_25 (lawC_to lawC_26 (lawC_to lawC_27 (lawC_to lawC_28 (lawC_to lawC_29 (lawC_to lawC_30 ((by rw [lawC_end]; rfl))))))))))))))))))))))))))))))))
  exact h
