/-! the constructors: the small ones (written by wip/whole/gs1.py) -/
theorem oi_w : Cond.instanceMethod Lib.objectInit ∈ mT ∧ Cond.code Lib.objectInit ⟨#[0xb1]⟩ 1 none ∈ mT := ⟨(inT_mem (h := 1026) (by decide +kernel)), (inT_mem (h := 1027) (by decide +kernel))⟩
theorem di_Tape_0 : decode prog_8_method_1_code 0 = .ok (.aload_n 0, 1) := by decide +kernel
theorem di_Tape_1 : decode prog_8_method_1_code 1 = .ok (.invokespecial 3, 3) := by decide +kernel
theorem di_Tape_4 : decode prog_8_method_1_code 4 = .ok (.aload_n 0, 1) := by decide +kernel
theorem di_Tape_5 : decode prog_8_method_1_code 5 = .ok (.sipush 900, 3) := by decide +kernel
theorem di_Tape_8 : decode prog_8_method_1_code 8 = .ok (.newarray .byte, 2) := by decide +kernel
theorem di_Tape_10 : decode prog_8_method_1_code 10 = .ok (.putfield 11, 3) := by decide +kernel
theorem di_Tape_13 : decode prog_8_method_1_code 13 = .ok (.return_, 1) := by decide +kernel
set_option maxHeartbeats 4000000 in
set_option maxRecDepth 100000 in
theorem ci_Tape (l : Launch) (D : va_G) (dA : Nat → ClassId) (h0 sz : Nat) : Ct l D dA ⟨"ValueDays$Tape", "<init>", "()V"⟩ prog_8_method_1_code 1 1 12 1 900 [.ref h0] [(h0, .inr (6, [.null, .int 0]))] [(h0, .inr (6, [.ref (sz + 0), .int 0])), ((sz + 0), .inl (dA 2, 900, .inl (fun _ => 0)))] sz := by
  refine Met.ofW (cc := prog_8_method_1_code) (maxL := 1) (ret := none) (by decide) rfl ?_
  intro p e s m args below meth c s₁ B hml hv
  obtain ⟨rfl, hsz, hP, hK, hD0⟩ := hv
  have hx := B.exec
  have hb := B.bytes
  have hr := B.returns
  have hts : ∀ w ∈ mT, w.before _ s = true := fun w hw => atoms_spec (ws := .code ⟨"ValueDays$Tape", "<init>", "()V"⟩ prog_8_method_1_code 1 none :: mT) B.pre w (List.mem_cons_of_mem _ hw)
  have hown : s.vm.findClass "ValueDays$Tape" = some m.cls := findClass_of_methodNamed B.named
  have hlocks := B.notSynchronized
  have hin : meth.name = "<init>" := (name_of_methodNamed B.named B.method).1
  subst hsz
  have hD := hD0.self (sz := s.heap.size)
  have ax : Ax (va_A [(h0, .inr (6, [.null, .int 0]))] s.heap.size) [h0] s.heap.size := Ax.of
  generalize hAe : va_A [(h0, .inr (6, [.null, .int 0]))] s.heap.size = A at hD ax ⊢
  have kx : Kx p s m _ c prog_8_method_1_code 1 "ValueDays$Tape" D dA := ⟨⟨hx, hb, hml, hown, hts⟩, hK⟩
  have gw : Gw D A [h0] 0 [(h0, .inr (6, [.null, .int 0]))] s s.heap [] := ⟨hP, hD, va_S.rf, rfl⟩
  have hl := lv_entry ([.ref h0]) (n := 1) (Nat.le_of_ble_eq_true rfl)
  rw [lg_entry_eq]
  generalize (lg_sl ([.ref h0]) ++ List.replicate (1 - (lg_sl ([.ref h0])).length) Slot.unset).toArray = ls at hl ⊢
  have hl : lv_has ls 1 [(0, .ref h0)] := hl
  refine lv_aload_n hx hb di_Tape_0 rfl (lv_at hl 0 rfl) ?_
  refine W.objInit hx hb hown (hts _ (inT_mem (h := 1033) (by decide +kernel))) (hts _ oi_w.1) (hts _ oi_w.2) rfl (by rw [hml]; exact hl.1) rfl di_Tape_1 (Nat.le_of_ble_eq_true rfl) (Nat.le_of_ble_eq_true rfl) ?_
  refine W.eq (g2 := F0 m 4 ls []) rfl ?_
  refine lv_aload_n hx hb di_Tape_4 rfl (lv_at hl 0 rfl) ?_
  refine lv_sipush (v := 900) hx hb di_Tape_5 (by decide) ?_
  refine k_newa kx ax gw 2 (atype := .byte) (ty := .byte) (N' := 900) (a0 := (900, .inl (fun _ => 0))) (inT_mem (h := 1041) (by decide +kernel)) rfl rfl (fun _ _ h => h) (fun _ => rfl) (by decide) (by decide) (Nat.le_of_ble_eq_true rfl) (Nat.le_of_ble_eq_true rfl) (Nat.le_of_ble_eq_true rfl) di_Tape_8 (fun H gw => ?_)
  have gw : Gw D A [h0] 1 [(h0, .inr (6, [.null, .int 0])), ((s.heap.size + 0), .inl (dA 2, 900, .inl (fun _ => 0)))] s H _ := gw
  refine k_put kx gw (ci := 6) (C := RX6) (T := TX6) (N := 2) (index := 11) 0 rfl rfl 0 (by decide) (inT_mem (h := 1034) (by decide +kernel)) rfl (Or.inr ⟨rfl, hin, rfl⟩) (ty := (.array .byte)) (v := .ref (s.heap.size + 0)) (by decide +kernel) rfl rfl (Nat.le_of_ble_eq_true rfl) di_Tape_10 (ws' := [(h0, .inr (6, [.ref (s.heap.size + 0), .int 0])), ((s.heap.size + 0), .inl (dA 2, 900, .inl (fun _ => 0)))]) rfl (fun H locs gw => ?_)
  exact W.vret hx hb hr (fun t ht hW => ⟨⟨(), rfl, trivial, by rw [ht]; exact gw.1, gw.2.1⟩, gw.2.2.1.F ht⟩) gw.2.2.1.2.2 di_Tape_13
theorem di_Script_0 : decode prog_7_method_1_code 0 = .ok (.aload_n 0, 1) := by decide +kernel
theorem di_Script_1 : decode prog_7_method_1_code 1 = .ok (.invokespecial 1, 3) := by decide +kernel
theorem di_Script_4 : decode prog_7_method_1_code 4 = .ok (.aload_n 0, 1) := by decide +kernel
theorem di_Script_5 : decode prog_7_method_1_code 5 = .ok (.sipush 328, 3) := by decide +kernel
theorem di_Script_8 : decode prog_7_method_1_code 8 = .ok (.newarray .int, 2) := by decide +kernel
theorem di_Script_10 : decode prog_7_method_1_code 10 = .ok (.putfield 9, 3) := by decide +kernel
theorem di_Script_13 : decode prog_7_method_1_code 13 = .ok (.return_, 1) := by decide +kernel
set_option maxHeartbeats 4000000 in
set_option maxRecDepth 100000 in
theorem ci_Script (l : Launch) (D : va_G) (dA : Nat → ClassId) (h0 sz : Nat) : Ct l D dA ⟨"ValueDays$Script", "<init>", "()V"⟩ prog_7_method_1_code 1 1 12 1 328 [.ref h0] [(h0, .inr (5, [.null, .int 0, .int 0]))] [(h0, .inr (5, [.ref (sz + 0), .int 0, .int 0])), ((sz + 0), .inl (dA 0, 328, .inl (fun _ => 0)))] sz := by
  refine Met.ofW (cc := prog_7_method_1_code) (maxL := 1) (ret := none) (by decide) rfl ?_
  intro p e s m args below meth c s₁ B hml hv
  obtain ⟨rfl, hsz, hP, hK, hD0⟩ := hv
  have hx := B.exec
  have hb := B.bytes
  have hr := B.returns
  have hts : ∀ w ∈ mT, w.before _ s = true := fun w hw => atoms_spec (ws := .code ⟨"ValueDays$Script", "<init>", "()V"⟩ prog_7_method_1_code 1 none :: mT) B.pre w (List.mem_cons_of_mem _ hw)
  have hown : s.vm.findClass "ValueDays$Script" = some m.cls := findClass_of_methodNamed B.named
  have hlocks := B.notSynchronized
  have hin : meth.name = "<init>" := (name_of_methodNamed B.named B.method).1
  subst hsz
  have hD := hD0.self (sz := s.heap.size)
  have ax : Ax (va_A [(h0, .inr (5, [.null, .int 0, .int 0]))] s.heap.size) [h0] s.heap.size := Ax.of
  generalize hAe : va_A [(h0, .inr (5, [.null, .int 0, .int 0]))] s.heap.size = A at hD ax ⊢
  have kx : Kx p s m _ c prog_7_method_1_code 1 "ValueDays$Script" D dA := ⟨⟨hx, hb, hml, hown, hts⟩, hK⟩
  have gw : Gw D A [h0] 0 [(h0, .inr (5, [.null, .int 0, .int 0]))] s s.heap [] := ⟨hP, hD, va_S.rf, rfl⟩
  have hl := lv_entry ([.ref h0]) (n := 1) (Nat.le_of_ble_eq_true rfl)
  rw [lg_entry_eq]
  generalize (lg_sl ([.ref h0]) ++ List.replicate (1 - (lg_sl ([.ref h0])).length) Slot.unset).toArray = ls at hl ⊢
  have hl : lv_has ls 1 [(0, .ref h0)] := hl
  refine lv_aload_n hx hb di_Script_0 rfl (lv_at hl 0 rfl) ?_
  refine W.objInit hx hb hown (hts _ (inT_mem (h := 1053) (by decide +kernel))) (hts _ oi_w.1) (hts _ oi_w.2) rfl (by rw [hml]; exact hl.1) rfl di_Script_1 (Nat.le_of_ble_eq_true rfl) (Nat.le_of_ble_eq_true rfl) ?_
  refine W.eq (g2 := F0 m 4 ls []) rfl ?_
  refine lv_aload_n hx hb di_Script_4 rfl (lv_at hl 0 rfl) ?_
  refine lv_sipush (v := 328) hx hb di_Script_5 (by decide) ?_
  refine k_newa kx ax gw 0 (atype := .int) (ty := .int) (N' := 328) (a0 := (328, .inl (fun _ => 0))) (inT_mem (h := 1064) (by decide +kernel)) rfl rfl (fun _ _ h => h) (fun _ => rfl) (by decide) (by decide) (Nat.le_of_ble_eq_true rfl) (Nat.le_of_ble_eq_true rfl) (Nat.le_of_ble_eq_true rfl) di_Script_8 (fun H gw => ?_)
  have gw : Gw D A [h0] 1 [(h0, .inr (5, [.null, .int 0, .int 0])), ((s.heap.size + 0), .inl (dA 0, 328, .inl (fun _ => 0)))] s H _ := gw
  refine k_put kx gw (ci := 5) (C := RX5) (T := TX5) (N := 3) (index := 9) 0 rfl rfl 0 (by decide) (inT_mem (h := 1054) (by decide +kernel)) rfl (Or.inr ⟨rfl, hin, rfl⟩) (ty := (.array .int)) (v := .ref (s.heap.size + 0)) (by decide +kernel) rfl rfl (Nat.le_of_ble_eq_true rfl) di_Script_10 (ws' := [(h0, .inr (5, [.ref (s.heap.size + 0), .int 0, .int 0])), ((s.heap.size + 0), .inl (dA 0, 328, .inl (fun _ => 0)))]) rfl (fun H locs gw => ?_)
  exact W.vret hx hb hr (fun t ht hW => ⟨⟨(), rfl, trivial, by rw [ht]; exact gw.1, gw.2.1⟩, gw.2.2.1.F ht⟩) gw.2.2.1.2.2 di_Script_13
theorem di_Tokens_0 : decode prog_10_method_1_code 0 = .ok (.aload_n 0, 1) := by decide +kernel
theorem di_Tokens_1 : decode prog_10_method_1_code 1 = .ok (.invokespecial 3, 3) := by decide +kernel
theorem di_Tokens_4 : decode prog_10_method_1_code 4 = .ok (.aload_n 0, 1) := by decide +kernel
theorem di_Tokens_5 : decode prog_10_method_1_code 5 = .ok (.aload_n 1, 1) := by decide +kernel
theorem di_Tokens_6 : decode prog_10_method_1_code 6 = .ok (.putfield 9, 3) := by decide +kernel
theorem di_Tokens_9 : decode prog_10_method_1_code 9 = .ok (.return_, 1) := by decide +kernel
set_option maxHeartbeats 4000000 in
set_option maxRecDepth 100000 in
theorem ci_Tokens (l : Launch) (D : va_G) (dA : Nat → ClassId) (h0 a1 sz : Nat) : Ct l D dA ⟨"ValueDays$Tokens", "<init>", "(LValueDays$Tape;)V"⟩ prog_10_method_1_code 2 1 12 0 0 [.ref h0, .ref a1] [(h0, .inr (8, [.null, .int 0, .int 0, .int 0, .int 0]))] [(h0, .inr (8, [.ref a1, .int 0, .int 0, .int 0, .int 0]))] sz := by
  refine Met.ofW (cc := prog_10_method_1_code) (maxL := 2) (ret := none) (by decide) rfl ?_
  intro p e s m args below meth c s₁ B hml hv
  obtain ⟨rfl, hsz, hP, hK, hD0⟩ := hv
  have hx := B.exec
  have hb := B.bytes
  have hr := B.returns
  have hts : ∀ w ∈ mT, w.before _ s = true := fun w hw => atoms_spec (ws := .code ⟨"ValueDays$Tokens", "<init>", "(LValueDays$Tape;)V"⟩ prog_10_method_1_code 2 none :: mT) B.pre w (List.mem_cons_of_mem _ hw)
  have hown : s.vm.findClass "ValueDays$Tokens" = some m.cls := findClass_of_methodNamed B.named
  have hlocks := B.notSynchronized
  have hin : meth.name = "<init>" := (name_of_methodNamed B.named B.method).1
  subst hsz
  have hD := hD0.self (sz := s.heap.size)
  have ax : Ax (va_A [(h0, .inr (8, [.null, .int 0, .int 0, .int 0, .int 0]))] s.heap.size) [h0] s.heap.size := Ax.of
  generalize hAe : va_A [(h0, .inr (8, [.null, .int 0, .int 0, .int 0, .int 0]))] s.heap.size = A at hD ax ⊢
  have kx : Kx p s m _ c prog_10_method_1_code 2 "ValueDays$Tokens" D dA := ⟨⟨hx, hb, hml, hown, hts⟩, hK⟩
  have gw : Gw D A [h0] 0 [(h0, .inr (8, [.null, .int 0, .int 0, .int 0, .int 0]))] s s.heap [] := ⟨hP, hD, va_S.rf, rfl⟩
  have hl := lv_entry ([.ref h0, .ref a1]) (n := 2) (Nat.le_of_ble_eq_true rfl)
  rw [lg_entry_eq]
  generalize (lg_sl ([.ref h0, .ref a1]) ++ List.replicate (2 - (lg_sl ([.ref h0, .ref a1])).length) Slot.unset).toArray = ls at hl ⊢
  have hl : lv_has ls 2 [(0, .ref h0), (1, .ref a1)] := hl
  refine lv_aload_n hx hb di_Tokens_0 rfl (lv_at hl 0 rfl) ?_
  refine W.objInit hx hb hown (hts _ (inT_mem (h := 1070) (by decide +kernel))) (hts _ oi_w.1) (hts _ oi_w.2) rfl (by rw [hml]; exact hl.1) rfl di_Tokens_1 (Nat.le_of_ble_eq_true rfl) (Nat.le_of_ble_eq_true rfl) ?_
  refine W.eq (g2 := F0 m 4 ls []) rfl ?_
  refine lv_aload_n hx hb di_Tokens_4 rfl (lv_at hl 0 rfl) ?_
  refine lv_aload_n hx hb di_Tokens_5 rfl (lv_at hl 1 rfl) ?_
  refine k_put kx gw (ci := 8) (C := RX8) (T := TX8) (N := 5) (index := 9) 0 rfl rfl 0 (by decide) (inT_mem (h := 1071) (by decide +kernel)) rfl (Or.inr ⟨rfl, hin, rfl⟩) (ty := (.object "ValueDays$Tape")) (v := .ref a1) (by decide +kernel) rfl rfl (Nat.le_of_ble_eq_true rfl) di_Tokens_6 (ws' := [(h0, .inr (8, [.ref a1, .int 0, .int 0, .int 0, .int 0]))]) rfl (fun H locs gw => ?_)
  exact W.vret hx hb hr (fun t ht hW => ⟨⟨(), rfl, trivial, by rw [ht]; exact gw.1, gw.2.1⟩, gw.2.2.1.F ht⟩) gw.2.2.1.2.2 di_Tokens_9
theorem di_Entries_0 : decode prog_3_method_1_code 0 = .ok (.aload_n 0, 1) := by decide +kernel
theorem di_Entries_1 : decode prog_3_method_1_code 1 = .ok (.invokespecial 3, 3) := by decide +kernel
theorem di_Entries_4 : decode prog_3_method_1_code 4 = .ok (.aload_n 0, 1) := by decide +kernel
theorem di_Entries_5 : decode prog_3_method_1_code 5 = .ok (.sipush 220, 3) := by decide +kernel
theorem di_Entries_8 : decode prog_3_method_1_code 8 = .ok (.newarray .int, 2) := by decide +kernel
theorem di_Entries_10 : decode prog_3_method_1_code 10 = .ok (.putfield 11, 3) := by decide +kernel
theorem di_Entries_13 : decode prog_3_method_1_code 13 = .ok (.aload_n 0, 1) := by decide +kernel
theorem di_Entries_14 : decode prog_3_method_1_code 14 = .ok (.sipush 220, 3) := by decide +kernel
theorem di_Entries_17 : decode prog_3_method_1_code 17 = .ok (.newarray .long, 2) := by decide +kernel
theorem di_Entries_19 : decode prog_3_method_1_code 19 = .ok (.putfield 15, 3) := by decide +kernel
theorem di_Entries_22 : decode prog_3_method_1_code 22 = .ok (.aload_n 0, 1) := by decide +kernel
theorem di_Entries_23 : decode prog_3_method_1_code 23 = .ok (.sipush 220, 3) := by decide +kernel
theorem di_Entries_26 : decode prog_3_method_1_code 26 = .ok (.newarray .int, 2) := by decide +kernel
theorem di_Entries_28 : decode prog_3_method_1_code 28 = .ok (.putfield 19, 3) := by decide +kernel
theorem di_Entries_31 : decode prog_3_method_1_code 31 = .ok (.aload_n 0, 1) := by decide +kernel
theorem di_Entries_32 : decode prog_3_method_1_code 32 = .ok (.sipush 220, 3) := by decide +kernel
theorem di_Entries_35 : decode prog_3_method_1_code 35 = .ok (.newarray .int, 2) := by decide +kernel
theorem di_Entries_37 : decode prog_3_method_1_code 37 = .ok (.putfield 22, 3) := by decide +kernel
theorem di_Entries_40 : decode prog_3_method_1_code 40 = .ok (.aload_n 0, 1) := by decide +kernel
theorem di_Entries_41 : decode prog_3_method_1_code 41 = .ok (.sipush 220, 3) := by decide +kernel
theorem di_Entries_44 : decode prog_3_method_1_code 44 = .ok (.newarray .int, 2) := by decide +kernel
theorem di_Entries_46 : decode prog_3_method_1_code 46 = .ok (.putfield 25, 3) := by decide +kernel
theorem di_Entries_49 : decode prog_3_method_1_code 49 = .ok (.aload_n 0, 1) := by decide +kernel
theorem di_Entries_50 : decode prog_3_method_1_code 50 = .ok (.sipush 220, 3) := by decide +kernel
theorem di_Entries_53 : decode prog_3_method_1_code 53 = .ok (.newarray .int, 2) := by decide +kernel
theorem di_Entries_55 : decode prog_3_method_1_code 55 = .ok (.putfield 28, 3) := by decide +kernel
theorem di_Entries_58 : decode prog_3_method_1_code 58 = .ok (.return_, 1) := by decide +kernel
set_option maxHeartbeats 4000000 in
set_option maxRecDepth 100000 in
theorem ci_Entries (l : Launch) (D : va_G) (dA : Nat → ClassId) (h0 sz : Nat) : Ct l D dA ⟨"ValueDays$Entries", "<init>", "()V"⟩ prog_3_method_1_code 1 1 12 6 1320 [.ref h0] [(h0, .inr (1, [.null, .null, .null, .null, .null, .null, .int 0]))] [(h0, .inr (1, [.ref (sz + 0), .ref (sz + 1), .ref (sz + 2), .ref (sz + 3), .ref (sz + 4), .ref (sz + 5), .int 0])), ((sz + 0), .inl (dA 0, 220, .inl (fun _ => 0))), ((sz + 1), .inl (dA 1, 220, .inr (.inl (fun _ => 0)))), ((sz + 2), .inl (dA 0, 220, .inl (fun _ => 0))), ((sz + 3), .inl (dA 0, 220, .inl (fun _ => 0))), ((sz + 4), .inl (dA 0, 220, .inl (fun _ => 0))), ((sz + 5), .inl (dA 0, 220, .inl (fun _ => 0)))] sz := by
  refine Met.ofW (cc := prog_3_method_1_code) (maxL := 1) (ret := none) (by decide) rfl ?_
  intro p e s m args below meth c s₁ B hml hv
  obtain ⟨rfl, hsz, hP, hK, hD0⟩ := hv
  have hx := B.exec
  have hb := B.bytes
  have hr := B.returns
  have hts : ∀ w ∈ mT, w.before _ s = true := fun w hw => atoms_spec (ws := .code ⟨"ValueDays$Entries", "<init>", "()V"⟩ prog_3_method_1_code 1 none :: mT) B.pre w (List.mem_cons_of_mem _ hw)
  have hown : s.vm.findClass "ValueDays$Entries" = some m.cls := findClass_of_methodNamed B.named
  have hlocks := B.notSynchronized
  have hin : meth.name = "<init>" := (name_of_methodNamed B.named B.method).1
  subst hsz
  have hD := hD0.self (sz := s.heap.size)
  have ax : Ax (va_A [(h0, .inr (1, [.null, .null, .null, .null, .null, .null, .int 0]))] s.heap.size) [h0] s.heap.size := Ax.of
  generalize hAe : va_A [(h0, .inr (1, [.null, .null, .null, .null, .null, .null, .int 0]))] s.heap.size = A at hD ax ⊢
  have kx : Kx p s m _ c prog_3_method_1_code 1 "ValueDays$Entries" D dA := ⟨⟨hx, hb, hml, hown, hts⟩, hK⟩
  have gw : Gw D A [h0] 0 [(h0, .inr (1, [.null, .null, .null, .null, .null, .null, .int 0]))] s s.heap [] := ⟨hP, hD, va_S.rf, rfl⟩
  have hl := lv_entry ([.ref h0]) (n := 1) (Nat.le_of_ble_eq_true rfl)
  rw [lg_entry_eq]
  generalize (lg_sl ([.ref h0]) ++ List.replicate (1 - (lg_sl ([.ref h0])).length) Slot.unset).toArray = ls at hl ⊢
  have hl : lv_has ls 1 [(0, .ref h0)] := hl
  refine lv_aload_n hx hb di_Entries_0 rfl (lv_at hl 0 rfl) ?_
  refine W.objInit hx hb hown (hts _ (inT_mem (h := 1174) (by decide +kernel))) (hts _ oi_w.1) (hts _ oi_w.2) rfl (by rw [hml]; exact hl.1) rfl di_Entries_1 (Nat.le_of_ble_eq_true rfl) (Nat.le_of_ble_eq_true rfl) ?_
  refine W.eq (g2 := F0 m 4 ls []) rfl ?_
  refine lv_aload_n hx hb di_Entries_4 rfl (lv_at hl 0 rfl) ?_
  refine lv_sipush (v := 220) hx hb di_Entries_5 (by decide) ?_
  refine k_newa kx ax gw 0 (atype := .int) (ty := .int) (N' := 220) (a0 := (220, .inl (fun _ => 0))) (inT_mem (h := 1064) (by decide +kernel)) rfl rfl (fun _ _ h => h) (fun _ => rfl) (by decide) (by decide) (Nat.le_of_ble_eq_true rfl) (Nat.le_of_ble_eq_true rfl) (Nat.le_of_ble_eq_true rfl) di_Entries_8 (fun H gw => ?_)
  have gw : Gw D A [h0] 1 [(h0, .inr (1, [.null, .null, .null, .null, .null, .null, .int 0])), ((s.heap.size + 0), .inl (dA 0, 220, .inl (fun _ => 0)))] s H _ := gw
  refine k_put kx gw (ci := 1) (C := RX1) (T := TX1) (N := 7) (index := 11) 0 rfl rfl 0 (by decide) (inT_mem (h := 1175) (by decide +kernel)) rfl (Or.inr ⟨rfl, hin, rfl⟩) (ty := (.array .int)) (v := .ref (s.heap.size + 0)) (by decide +kernel) rfl rfl (Nat.le_of_ble_eq_true rfl) di_Entries_10 (ws' := [(h0, .inr (1, [.ref (s.heap.size + 0), .null, .null, .null, .null, .null, .int 0])), ((s.heap.size + 0), .inl (dA 0, 220, .inl (fun _ => 0)))]) rfl (fun H locs gw => ?_)
  refine lv_aload_n hx hb di_Entries_13 rfl (lv_at hl 0 rfl) ?_
  refine lv_sipush (v := 220) hx hb di_Entries_14 (by decide) ?_
  refine k_newa kx ax gw 1 (atype := .long) (ty := .long) (N' := 220) (a0 := (220, .inr (.inl (fun _ => 0)))) (inT_mem (h := 1197) (by decide +kernel)) rfl rfl (fun _ _ h => h) (fun _ => rfl) (by decide) (by decide) (Nat.le_of_ble_eq_true rfl) (Nat.le_of_ble_eq_true rfl) (Nat.le_of_ble_eq_true rfl) di_Entries_17 (fun H gw => ?_)
  have gw : Gw D A [h0] 2 [(h0, .inr (1, [.ref (s.heap.size + 0), .null, .null, .null, .null, .null, .int 0])), ((s.heap.size + 0), .inl (dA 0, 220, .inl (fun _ => 0))), ((s.heap.size + 1), .inl (dA 1, 220, .inr (.inl (fun _ => 0))))] s H _ := gw
  refine k_put kx gw (ci := 1) (C := RX1) (T := TX1) (N := 7) (index := 15) 0 rfl rfl 1 (by decide) (inT_mem (h := 1176) (by decide +kernel)) rfl (Or.inr ⟨rfl, hin, rfl⟩) (ty := (.array .long)) (v := .ref (s.heap.size + 1)) (by decide +kernel) rfl rfl (Nat.le_of_ble_eq_true rfl) di_Entries_19 (ws' := [(h0, .inr (1, [.ref (s.heap.size + 0), .ref (s.heap.size + 1), .null, .null, .null, .null, .int 0])), ((s.heap.size + 0), .inl (dA 0, 220, .inl (fun _ => 0))), ((s.heap.size + 1), .inl (dA 1, 220, .inr (.inl (fun _ => 0))))]) rfl (fun H locs gw => ?_)
  refine lv_aload_n hx hb di_Entries_22 rfl (lv_at hl 0 rfl) ?_
  refine lv_sipush (v := 220) hx hb di_Entries_23 (by decide) ?_
  refine k_newa kx ax gw 0 (atype := .int) (ty := .int) (N' := 220) (a0 := (220, .inl (fun _ => 0))) (inT_mem (h := 1064) (by decide +kernel)) rfl rfl (fun _ _ h => h) (fun _ => rfl) (by decide) (by decide) (Nat.le_of_ble_eq_true rfl) (Nat.le_of_ble_eq_true rfl) (Nat.le_of_ble_eq_true rfl) di_Entries_26 (fun H gw => ?_)
  have gw : Gw D A [h0] 3 [(h0, .inr (1, [.ref (s.heap.size + 0), .ref (s.heap.size + 1), .null, .null, .null, .null, .int 0])), ((s.heap.size + 0), .inl (dA 0, 220, .inl (fun _ => 0))), ((s.heap.size + 1), .inl (dA 1, 220, .inr (.inl (fun _ => 0)))), ((s.heap.size + 2), .inl (dA 0, 220, .inl (fun _ => 0)))] s H _ := gw
  refine k_put kx gw (ci := 1) (C := RX1) (T := TX1) (N := 7) (index := 19) 0 rfl rfl 2 (by decide) (inT_mem (h := 1177) (by decide +kernel)) rfl (Or.inr ⟨rfl, hin, rfl⟩) (ty := (.array .int)) (v := .ref (s.heap.size + 2)) (by decide +kernel) rfl rfl (Nat.le_of_ble_eq_true rfl) di_Entries_28 (ws' := [(h0, .inr (1, [.ref (s.heap.size + 0), .ref (s.heap.size + 1), .ref (s.heap.size + 2), .null, .null, .null, .int 0])), ((s.heap.size + 0), .inl (dA 0, 220, .inl (fun _ => 0))), ((s.heap.size + 1), .inl (dA 1, 220, .inr (.inl (fun _ => 0)))), ((s.heap.size + 2), .inl (dA 0, 220, .inl (fun _ => 0)))]) rfl (fun H locs gw => ?_)
  refine lv_aload_n hx hb di_Entries_31 rfl (lv_at hl 0 rfl) ?_
  refine lv_sipush (v := 220) hx hb di_Entries_32 (by decide) ?_
  refine k_newa kx ax gw 0 (atype := .int) (ty := .int) (N' := 220) (a0 := (220, .inl (fun _ => 0))) (inT_mem (h := 1064) (by decide +kernel)) rfl rfl (fun _ _ h => h) (fun _ => rfl) (by decide) (by decide) (Nat.le_of_ble_eq_true rfl) (Nat.le_of_ble_eq_true rfl) (Nat.le_of_ble_eq_true rfl) di_Entries_35 (fun H gw => ?_)
  have gw : Gw D A [h0] 4 [(h0, .inr (1, [.ref (s.heap.size + 0), .ref (s.heap.size + 1), .ref (s.heap.size + 2), .null, .null, .null, .int 0])), ((s.heap.size + 0), .inl (dA 0, 220, .inl (fun _ => 0))), ((s.heap.size + 1), .inl (dA 1, 220, .inr (.inl (fun _ => 0)))), ((s.heap.size + 2), .inl (dA 0, 220, .inl (fun _ => 0))), ((s.heap.size + 3), .inl (dA 0, 220, .inl (fun _ => 0)))] s H _ := gw
  refine k_put kx gw (ci := 1) (C := RX1) (T := TX1) (N := 7) (index := 22) 0 rfl rfl 3 (by decide) (inT_mem (h := 1178) (by decide +kernel)) rfl (Or.inr ⟨rfl, hin, rfl⟩) (ty := (.array .int)) (v := .ref (s.heap.size + 3)) (by decide +kernel) rfl rfl (Nat.le_of_ble_eq_true rfl) di_Entries_37 (ws' := [(h0, .inr (1, [.ref (s.heap.size + 0), .ref (s.heap.size + 1), .ref (s.heap.size + 2), .ref (s.heap.size + 3), .null, .null, .int 0])), ((s.heap.size + 0), .inl (dA 0, 220, .inl (fun _ => 0))), ((s.heap.size + 1), .inl (dA 1, 220, .inr (.inl (fun _ => 0)))), ((s.heap.size + 2), .inl (dA 0, 220, .inl (fun _ => 0))), ((s.heap.size + 3), .inl (dA 0, 220, .inl (fun _ => 0)))]) rfl (fun H locs gw => ?_)
  refine lv_aload_n hx hb di_Entries_40 rfl (lv_at hl 0 rfl) ?_
  refine lv_sipush (v := 220) hx hb di_Entries_41 (by decide) ?_
  refine k_newa kx ax gw 0 (atype := .int) (ty := .int) (N' := 220) (a0 := (220, .inl (fun _ => 0))) (inT_mem (h := 1064) (by decide +kernel)) rfl rfl (fun _ _ h => h) (fun _ => rfl) (by decide) (by decide) (Nat.le_of_ble_eq_true rfl) (Nat.le_of_ble_eq_true rfl) (Nat.le_of_ble_eq_true rfl) di_Entries_44 (fun H gw => ?_)
  have gw : Gw D A [h0] 5 [(h0, .inr (1, [.ref (s.heap.size + 0), .ref (s.heap.size + 1), .ref (s.heap.size + 2), .ref (s.heap.size + 3), .null, .null, .int 0])), ((s.heap.size + 0), .inl (dA 0, 220, .inl (fun _ => 0))), ((s.heap.size + 1), .inl (dA 1, 220, .inr (.inl (fun _ => 0)))), ((s.heap.size + 2), .inl (dA 0, 220, .inl (fun _ => 0))), ((s.heap.size + 3), .inl (dA 0, 220, .inl (fun _ => 0))), ((s.heap.size + 4), .inl (dA 0, 220, .inl (fun _ => 0)))] s H _ := gw
  refine k_put kx gw (ci := 1) (C := RX1) (T := TX1) (N := 7) (index := 25) 0 rfl rfl 4 (by decide) (inT_mem (h := 1179) (by decide +kernel)) rfl (Or.inr ⟨rfl, hin, rfl⟩) (ty := (.array .int)) (v := .ref (s.heap.size + 4)) (by decide +kernel) rfl rfl (Nat.le_of_ble_eq_true rfl) di_Entries_46 (ws' := [(h0, .inr (1, [.ref (s.heap.size + 0), .ref (s.heap.size + 1), .ref (s.heap.size + 2), .ref (s.heap.size + 3), .ref (s.heap.size + 4), .null, .int 0])), ((s.heap.size + 0), .inl (dA 0, 220, .inl (fun _ => 0))), ((s.heap.size + 1), .inl (dA 1, 220, .inr (.inl (fun _ => 0)))), ((s.heap.size + 2), .inl (dA 0, 220, .inl (fun _ => 0))), ((s.heap.size + 3), .inl (dA 0, 220, .inl (fun _ => 0))), ((s.heap.size + 4), .inl (dA 0, 220, .inl (fun _ => 0)))]) rfl (fun H locs gw => ?_)
  refine lv_aload_n hx hb di_Entries_49 rfl (lv_at hl 0 rfl) ?_
  refine lv_sipush (v := 220) hx hb di_Entries_50 (by decide) ?_
  refine k_newa kx ax gw 0 (atype := .int) (ty := .int) (N' := 220) (a0 := (220, .inl (fun _ => 0))) (inT_mem (h := 1064) (by decide +kernel)) rfl rfl (fun _ _ h => h) (fun _ => rfl) (by decide) (by decide) (Nat.le_of_ble_eq_true rfl) (Nat.le_of_ble_eq_true rfl) (Nat.le_of_ble_eq_true rfl) di_Entries_53 (fun H gw => ?_)
  have gw : Gw D A [h0] 6 [(h0, .inr (1, [.ref (s.heap.size + 0), .ref (s.heap.size + 1), .ref (s.heap.size + 2), .ref (s.heap.size + 3), .ref (s.heap.size + 4), .null, .int 0])), ((s.heap.size + 0), .inl (dA 0, 220, .inl (fun _ => 0))), ((s.heap.size + 1), .inl (dA 1, 220, .inr (.inl (fun _ => 0)))), ((s.heap.size + 2), .inl (dA 0, 220, .inl (fun _ => 0))), ((s.heap.size + 3), .inl (dA 0, 220, .inl (fun _ => 0))), ((s.heap.size + 4), .inl (dA 0, 220, .inl (fun _ => 0))), ((s.heap.size + 5), .inl (dA 0, 220, .inl (fun _ => 0)))] s H _ := gw
  refine k_put kx gw (ci := 1) (C := RX1) (T := TX1) (N := 7) (index := 28) 0 rfl rfl 5 (by decide) (inT_mem (h := 1180) (by decide +kernel)) rfl (Or.inr ⟨rfl, hin, rfl⟩) (ty := (.array .int)) (v := .ref (s.heap.size + 5)) (by decide +kernel) rfl rfl (Nat.le_of_ble_eq_true rfl) di_Entries_55 (ws' := [(h0, .inr (1, [.ref (s.heap.size + 0), .ref (s.heap.size + 1), .ref (s.heap.size + 2), .ref (s.heap.size + 3), .ref (s.heap.size + 4), .ref (s.heap.size + 5), .int 0])), ((s.heap.size + 0), .inl (dA 0, 220, .inl (fun _ => 0))), ((s.heap.size + 1), .inl (dA 1, 220, .inr (.inl (fun _ => 0)))), ((s.heap.size + 2), .inl (dA 0, 220, .inl (fun _ => 0))), ((s.heap.size + 3), .inl (dA 0, 220, .inl (fun _ => 0))), ((s.heap.size + 4), .inl (dA 0, 220, .inl (fun _ => 0))), ((s.heap.size + 5), .inl (dA 0, 220, .inl (fun _ => 0)))]) rfl (fun H locs gw => ?_)
  exact W.vret hx hb hr (fun t ht hW => ⟨⟨(), rfl, trivial, by rw [ht]; exact gw.1, gw.2.1⟩, gw.2.2.1.F ht⟩) gw.2.2.1.2.2 di_Entries_58
theorem di_Course_0 : decode prog_2_method_1_code 0 = .ok (.aload_n 0, 1) := by decide +kernel
theorem di_Course_1 : decode prog_2_method_1_code 1 = .ok (.invokespecial 3, 3) := by decide +kernel
theorem di_Course_4 : decode prog_2_method_1_code 4 = .ok (.aload_n 0, 1) := by decide +kernel
theorem di_Course_5 : decode prog_2_method_1_code 5 = .ok (.aload_n 1, 1) := by decide +kernel
theorem di_Course_6 : decode prog_2_method_1_code 6 = .ok (.putfield 9, 3) := by decide +kernel
theorem di_Course_9 : decode prog_2_method_1_code 9 = .ok (.aload_n 0, 1) := by decide +kernel
theorem di_Course_10 : decode prog_2_method_1_code 10 = .ok (.aload_n 1, 1) := by decide +kernel
theorem di_Course_11 : decode prog_2_method_1_code 11 = .ok (.getfield 15, 3) := by decide +kernel
theorem di_Course_14 : decode prog_2_method_1_code 14 = .ok (.putfield 21, 3) := by decide +kernel
theorem di_Course_17 : decode prog_2_method_1_code 17 = .ok (.return_, 1) := by decide +kernel
set_option maxHeartbeats 4000000 in
set_option maxRecDepth 100000 in
theorem ci_Course (l : Launch) (D : va_G) (dA : Nat → ClassId) (h0 a1 t1 t2 t3 t4 sz : Nat) : Ct l D dA ⟨"ValueDays$Course", "<init>", "(LValueDays$Ledger;)V"⟩ prog_2_method_1_code 2 1 12 0 0 [.ref h0, .ref a1] [(h0, .inr (0, [.null, .null])), (a1, .inr (2, [.ref t1, .ref t2, .ref t3, .ref t4, .int 0, .int 0, .int 0, .int 0]))] [(h0, .inr (0, [.ref a1, .ref t1])), (a1, .inr (2, [.ref t1, .ref t2, .ref t3, .ref t4, .int 0, .int 0, .int 0, .int 0]))] sz := by
  refine Met.ofW (cc := prog_2_method_1_code) (maxL := 2) (ret := none) (by decide) rfl ?_
  intro p e s m args below meth c s₁ B hml hv
  obtain ⟨rfl, hsz, hP, hK, hD0⟩ := hv
  have hx := B.exec
  have hb := B.bytes
  have hr := B.returns
  have hts : ∀ w ∈ mT, w.before _ s = true := fun w hw => atoms_spec (ws := .code ⟨"ValueDays$Course", "<init>", "(LValueDays$Ledger;)V"⟩ prog_2_method_1_code 2 none :: mT) B.pre w (List.mem_cons_of_mem _ hw)
  have hown : s.vm.findClass "ValueDays$Course" = some m.cls := findClass_of_methodNamed B.named
  have hlocks := B.notSynchronized
  have hin : meth.name = "<init>" := (name_of_methodNamed B.named B.method).1
  subst hsz
  have hD := hD0.self (sz := s.heap.size)
  have ax : Ax (va_A [(h0, .inr (0, [.null, .null])), (a1, .inr (2, [.ref t1, .ref t2, .ref t3, .ref t4, .int 0, .int 0, .int 0, .int 0]))] s.heap.size) [h0, a1] s.heap.size := Ax.of
  generalize hAe : va_A [(h0, .inr (0, [.null, .null])), (a1, .inr (2, [.ref t1, .ref t2, .ref t3, .ref t4, .int 0, .int 0, .int 0, .int 0]))] s.heap.size = A at hD ax ⊢
  have kx : Kx p s m _ c prog_2_method_1_code 2 "ValueDays$Course" D dA := ⟨⟨hx, hb, hml, hown, hts⟩, hK⟩
  have gw : Gw D A [h0, a1] 0 [(h0, .inr (0, [.null, .null])), (a1, .inr (2, [.ref t1, .ref t2, .ref t3, .ref t4, .int 0, .int 0, .int 0, .int 0]))] s s.heap [] := ⟨hP, hD, va_S.rf, rfl⟩
  have hl := lv_entry ([.ref h0, .ref a1]) (n := 2) (Nat.le_of_ble_eq_true rfl)
  rw [lg_entry_eq]
  generalize (lg_sl ([.ref h0, .ref a1]) ++ List.replicate (2 - (lg_sl ([.ref h0, .ref a1])).length) Slot.unset).toArray = ls at hl ⊢
  have hl : lv_has ls 2 [(0, .ref h0), (1, .ref a1)] := hl
  refine lv_aload_n hx hb di_Course_0 rfl (lv_at hl 0 rfl) ?_
  refine W.objInit hx hb hown (hts _ (inT_mem (h := 1233) (by decide +kernel))) (hts _ oi_w.1) (hts _ oi_w.2) rfl (by rw [hml]; exact hl.1) rfl di_Course_1 (Nat.le_of_ble_eq_true rfl) (Nat.le_of_ble_eq_true rfl) ?_
  refine W.eq (g2 := F0 m 4 ls []) rfl ?_
  refine lv_aload_n hx hb di_Course_4 rfl (lv_at hl 0 rfl) ?_
  refine lv_aload_n hx hb di_Course_5 rfl (lv_at hl 1 rfl) ?_
  refine k_put kx gw (ci := 0) (C := RX0) (T := TX0) (N := 2) (index := 9) 0 rfl rfl 0 (by decide) (inT_mem (h := 1234) (by decide +kernel)) rfl (Or.inr ⟨rfl, hin, rfl⟩) (ty := (.object "ValueDays$Ledger")) (v := .ref a1) (by decide +kernel) rfl rfl (Nat.le_of_ble_eq_true rfl) di_Course_6 (ws' := [(h0, .inr (0, [.ref a1, .null])), (a1, .inr (2, [.ref t1, .ref t2, .ref t3, .ref t4, .int 0, .int 0, .int 0, .int 0]))]) rfl (fun H locs gw => ?_)
  refine lv_aload_n hx hb di_Course_9 rfl (lv_at hl 0 rfl) ?_
  refine lv_aload_n hx hb di_Course_10 rfl (lv_at hl 1 rfl) ?_
  refine k_get kx gw (ci := 2) (C := RX2) (T := TX2) (N := 8) (index := 15) 1 rfl rfl 0 (by decide) (inT_mem (h := 1198) (by decide +kernel)) rfl (v := .ref t1) rfl di_Course_11 ?_
  refine k_put kx gw (ci := 0) (C := RX0) (T := TX0) (N := 2) (index := 21) 0 rfl rfl 1 (by decide) (inT_mem (h := 1235) (by decide +kernel)) rfl (Or.inr ⟨rfl, hin, rfl⟩) (ty := (.object "ValueDays$Terms")) (v := .ref t1) (by decide +kernel) rfl rfl (Nat.le_of_ble_eq_true rfl) di_Course_14 (ws' := [(h0, .inr (0, [.ref a1, .ref t1])), (a1, .inr (2, [.ref t1, .ref t2, .ref t3, .ref t4, .int 0, .int 0, .int 0, .int 0]))]) rfl (fun H locs gw => ?_)
  exact W.vret hx hb hr (fun t ht hW => ⟨⟨(), rfl, trivial, by rw [ht]; exact gw.1, gw.2.1⟩, gw.2.2.1.F ht⟩) gw.2.2.1.2.2 di_Course_17
theorem di_WhatIf_0 : decode prog_11_method_1_code 0 = .ok (.aload_n 0, 1) := by decide +kernel
theorem di_WhatIf_1 : decode prog_11_method_1_code 1 = .ok (.invokespecial 3, 3) := by decide +kernel
theorem di_WhatIf_4 : decode prog_11_method_1_code 4 = .ok (.aload_n 0, 1) := by decide +kernel
theorem di_WhatIf_5 : decode prog_11_method_1_code 5 = .ok (.aload_n 1, 1) := by decide +kernel
theorem di_WhatIf_6 : decode prog_11_method_1_code 6 = .ok (.putfield 9, 3) := by decide +kernel
theorem di_WhatIf_9 : decode prog_11_method_1_code 9 = .ok (.aload_n 0, 1) := by decide +kernel
theorem di_WhatIf_10 : decode prog_11_method_1_code 10 = .ok (.aload_n 1, 1) := by decide +kernel
theorem di_WhatIf_11 : decode prog_11_method_1_code 11 = .ok (.getfield 15, 3) := by decide +kernel
theorem di_WhatIf_14 : decode prog_11_method_1_code 14 = .ok (.putfield 21, 3) := by decide +kernel
theorem di_WhatIf_17 : decode prog_11_method_1_code 17 = .ok (.aload_n 0, 1) := by decide +kernel
theorem di_WhatIf_18 : decode prog_11_method_1_code 18 = .ok (.aload_n 1, 1) := by decide +kernel
theorem di_WhatIf_19 : decode prog_11_method_1_code 19 = .ok (.getfield 22, 3) := by decide +kernel
theorem di_WhatIf_22 : decode prog_11_method_1_code 22 = .ok (.putfield 26, 3) := by decide +kernel
theorem di_WhatIf_25 : decode prog_11_method_1_code 25 = .ok (.return_, 1) := by decide +kernel
set_option maxHeartbeats 4000000 in
set_option maxRecDepth 100000 in
theorem ci_WhatIf (l : Launch) (D : va_G) (dA : Nat → ClassId) (h0 a1 t1 t2 t3 t4 sz : Nat) : Ct l D dA ⟨"ValueDays$WhatIf", "<init>", "(LValueDays$Ledger;)V"⟩ prog_11_method_1_code 2 1 12 0 0 [.ref h0, .ref a1] [(h0, .inr (9, [.null, .null, .null])), (a1, .inr (2, [.ref t1, .ref t2, .ref t3, .ref t4, .int 0, .int 0, .int 0, .int 0]))] [(h0, .inr (9, [.ref a1, .ref t1, .ref t2])), (a1, .inr (2, [.ref t1, .ref t2, .ref t3, .ref t4, .int 0, .int 0, .int 0, .int 0]))] sz := by
  refine Met.ofW (cc := prog_11_method_1_code) (maxL := 2) (ret := none) (by decide) rfl ?_
  intro p e s m args below meth c s₁ B hml hv
  obtain ⟨rfl, hsz, hP, hK, hD0⟩ := hv
  have hx := B.exec
  have hb := B.bytes
  have hr := B.returns
  have hts : ∀ w ∈ mT, w.before _ s = true := fun w hw => atoms_spec (ws := .code ⟨"ValueDays$WhatIf", "<init>", "(LValueDays$Ledger;)V"⟩ prog_11_method_1_code 2 none :: mT) B.pre w (List.mem_cons_of_mem _ hw)
  have hown : s.vm.findClass "ValueDays$WhatIf" = some m.cls := findClass_of_methodNamed B.named
  have hlocks := B.notSynchronized
  have hin : meth.name = "<init>" := (name_of_methodNamed B.named B.method).1
  subst hsz
  have hD := hD0.self (sz := s.heap.size)
  have ax : Ax (va_A [(h0, .inr (9, [.null, .null, .null])), (a1, .inr (2, [.ref t1, .ref t2, .ref t3, .ref t4, .int 0, .int 0, .int 0, .int 0]))] s.heap.size) [h0, a1] s.heap.size := Ax.of
  generalize hAe : va_A [(h0, .inr (9, [.null, .null, .null])), (a1, .inr (2, [.ref t1, .ref t2, .ref t3, .ref t4, .int 0, .int 0, .int 0, .int 0]))] s.heap.size = A at hD ax ⊢
  have kx : Kx p s m _ c prog_11_method_1_code 2 "ValueDays$WhatIf" D dA := ⟨⟨hx, hb, hml, hown, hts⟩, hK⟩
  have gw : Gw D A [h0, a1] 0 [(h0, .inr (9, [.null, .null, .null])), (a1, .inr (2, [.ref t1, .ref t2, .ref t3, .ref t4, .int 0, .int 0, .int 0, .int 0]))] s s.heap [] := ⟨hP, hD, va_S.rf, rfl⟩
  have hl := lv_entry ([.ref h0, .ref a1]) (n := 2) (Nat.le_of_ble_eq_true rfl)
  rw [lg_entry_eq]
  generalize (lg_sl ([.ref h0, .ref a1]) ++ List.replicate (2 - (lg_sl ([.ref h0, .ref a1])).length) Slot.unset).toArray = ls at hl ⊢
  have hl : lv_has ls 2 [(0, .ref h0), (1, .ref a1)] := hl
  refine lv_aload_n hx hb di_WhatIf_0 rfl (lv_at hl 0 rfl) ?_
  refine W.objInit hx hb hown (hts _ (inT_mem (h := 2006) (by decide +kernel))) (hts _ oi_w.1) (hts _ oi_w.2) rfl (by rw [hml]; exact hl.1) rfl di_WhatIf_1 (Nat.le_of_ble_eq_true rfl) (Nat.le_of_ble_eq_true rfl) ?_
  refine W.eq (g2 := F0 m 4 ls []) rfl ?_
  refine lv_aload_n hx hb di_WhatIf_4 rfl (lv_at hl 0 rfl) ?_
  refine lv_aload_n hx hb di_WhatIf_5 rfl (lv_at hl 1 rfl) ?_
  refine k_put kx gw (ci := 9) (C := RX9) (T := TX9) (N := 3) (index := 9) 0 rfl rfl 0 (by decide) (inT_mem (h := 2007) (by decide +kernel)) rfl (Or.inr ⟨rfl, hin, rfl⟩) (ty := (.object "ValueDays$Ledger")) (v := .ref a1) (by decide +kernel) rfl rfl (Nat.le_of_ble_eq_true rfl) di_WhatIf_6 (ws' := [(h0, .inr (9, [.ref a1, .null, .null])), (a1, .inr (2, [.ref t1, .ref t2, .ref t3, .ref t4, .int 0, .int 0, .int 0, .int 0]))]) rfl (fun H locs gw => ?_)
  refine lv_aload_n hx hb di_WhatIf_9 rfl (lv_at hl 0 rfl) ?_
  refine lv_aload_n hx hb di_WhatIf_10 rfl (lv_at hl 1 rfl) ?_
  refine k_get kx gw (ci := 2) (C := RX2) (T := TX2) (N := 8) (index := 15) 1 rfl rfl 0 (by decide) (inT_mem (h := 1199) (by decide +kernel)) rfl (v := .ref t1) rfl di_WhatIf_11 ?_
  refine k_put kx gw (ci := 9) (C := RX9) (T := TX9) (N := 3) (index := 21) 0 rfl rfl 1 (by decide) (inT_mem (h := 2008) (by decide +kernel)) rfl (Or.inr ⟨rfl, hin, rfl⟩) (ty := (.object "ValueDays$Terms")) (v := .ref t1) (by decide +kernel) rfl rfl (Nat.le_of_ble_eq_true rfl) di_WhatIf_14 (ws' := [(h0, .inr (9, [.ref a1, .ref t1, .null])), (a1, .inr (2, [.ref t1, .ref t2, .ref t3, .ref t4, .int 0, .int 0, .int 0, .int 0]))]) rfl (fun H locs gw => ?_)
  refine lv_aload_n hx hb di_WhatIf_17 rfl (lv_at hl 0 rfl) ?_
  refine lv_aload_n hx hb di_WhatIf_18 rfl (lv_at hl 1 rfl) ?_
  refine k_get kx gw (ci := 2) (C := RX2) (T := TX2) (N := 8) (index := 22) 1 rfl rfl 1 (by decide) (inT_mem (h := 1202) (by decide +kernel)) rfl (v := .ref t2) rfl di_WhatIf_19 ?_
  refine k_put kx gw (ci := 9) (C := RX9) (T := TX9) (N := 3) (index := 26) 0 rfl rfl 2 (by decide) (inT_mem (h := 2009) (by decide +kernel)) rfl (Or.inr ⟨rfl, hin, rfl⟩) (ty := (.object "ValueDays$Entries")) (v := .ref t2) (by decide +kernel) rfl rfl (Nat.le_of_ble_eq_true rfl) di_WhatIf_22 (ws' := [(h0, .inr (9, [.ref a1, .ref t1, .ref t2])), (a1, .inr (2, [.ref t1, .ref t2, .ref t3, .ref t4, .int 0, .int 0, .int 0, .int 0]))]) rfl (fun H locs gw => ?_)
  exact W.vret hx hb hr (fun t ht hW => ⟨⟨(), rfl, trivial, by rw [ht]; exact gw.1, gw.2.1⟩, gw.2.2.1.F ht⟩) gw.2.2.1.2.2 di_WhatIf_25
theorem di_PaidOff_0 : decode prog_5_method_1_code 0 = .ok (.aload_n 0, 1) := by decide +kernel
theorem di_PaidOff_1 : decode prog_5_method_1_code 1 = .ok (.invokespecial 3, 3) := by decide +kernel
theorem di_PaidOff_4 : decode prog_5_method_1_code 4 = .ok (.aload_n 0, 1) := by decide +kernel
theorem di_PaidOff_5 : decode prog_5_method_1_code 5 = .ok (.sipush 220, 3) := by decide +kernel
theorem di_PaidOff_8 : decode prog_5_method_1_code 8 = .ok (.newarray .long, 2) := by decide +kernel
theorem di_PaidOff_10 : decode prog_5_method_1_code 10 = .ok (.putfield 11, 3) := by decide +kernel
theorem di_PaidOff_13 : decode prog_5_method_1_code 13 = .ok (.aload_n 0, 1) := by decide +kernel
theorem di_PaidOff_14 : decode prog_5_method_1_code 14 = .ok (.sipush 220, 3) := by decide +kernel
theorem di_PaidOff_17 : decode prog_5_method_1_code 17 = .ok (.newarray .int, 2) := by decide +kernel
theorem di_PaidOff_19 : decode prog_5_method_1_code 19 = .ok (.putfield 17, 3) := by decide +kernel
theorem di_PaidOff_22 : decode prog_5_method_1_code 22 = .ok (.aload_n 0, 1) := by decide +kernel
theorem di_PaidOff_23 : decode prog_5_method_1_code 23 = .ok (.aload_n 1, 1) := by decide +kernel
theorem di_PaidOff_24 : decode prog_5_method_1_code 24 = .ok (.putfield 21, 3) := by decide +kernel
theorem di_PaidOff_27 : decode prog_5_method_1_code 27 = .ok (.return_, 1) := by decide +kernel
set_option maxHeartbeats 4000000 in
set_option maxRecDepth 100000 in
theorem ci_PaidOff (l : Launch) (D : va_G) (dA : Nat → ClassId) (h0 a1 sz : Nat) : Ct l D dA ⟨"ValueDays$PaidOff", "<init>", "(LValueDays$Entries;)V"⟩ prog_5_method_1_code 2 1 12 2 440 [.ref h0, .ref a1] [(h0, .inr (3, [.null, .null, .null]))] [(h0, .inr (3, [.ref a1, .ref (sz + 0), .ref (sz + 1)])), ((sz + 0), .inl (dA 1, 220, .inr (.inl (fun _ => 0)))), ((sz + 1), .inl (dA 0, 220, .inl (fun _ => 0)))] sz := by
  refine Met.ofW (cc := prog_5_method_1_code) (maxL := 2) (ret := none) (by decide) rfl ?_
  intro p e s m args below meth c s₁ B hml hv
  obtain ⟨rfl, hsz, hP, hK, hD0⟩ := hv
  have hx := B.exec
  have hb := B.bytes
  have hr := B.returns
  have hts : ∀ w ∈ mT, w.before _ s = true := fun w hw => atoms_spec (ws := .code ⟨"ValueDays$PaidOff", "<init>", "(LValueDays$Entries;)V"⟩ prog_5_method_1_code 2 none :: mT) B.pre w (List.mem_cons_of_mem _ hw)
  have hown : s.vm.findClass "ValueDays$PaidOff" = some m.cls := findClass_of_methodNamed B.named
  have hlocks := B.notSynchronized
  have hin : meth.name = "<init>" := (name_of_methodNamed B.named B.method).1
  subst hsz
  have hD := hD0.self (sz := s.heap.size)
  have ax : Ax (va_A [(h0, .inr (3, [.null, .null, .null]))] s.heap.size) [h0] s.heap.size := Ax.of
  generalize hAe : va_A [(h0, .inr (3, [.null, .null, .null]))] s.heap.size = A at hD ax ⊢
  have kx : Kx p s m _ c prog_5_method_1_code 2 "ValueDays$PaidOff" D dA := ⟨⟨hx, hb, hml, hown, hts⟩, hK⟩
  have gw : Gw D A [h0] 0 [(h0, .inr (3, [.null, .null, .null]))] s s.heap [] := ⟨hP, hD, va_S.rf, rfl⟩
  have hl := lv_entry ([.ref h0, .ref a1]) (n := 2) (Nat.le_of_ble_eq_true rfl)
  rw [lg_entry_eq]
  generalize (lg_sl ([.ref h0, .ref a1]) ++ List.replicate (2 - (lg_sl ([.ref h0, .ref a1])).length) Slot.unset).toArray = ls at hl ⊢
  have hl : lv_has ls 2 [(0, .ref h0), (1, .ref a1)] := hl
  refine lv_aload_n hx hb di_PaidOff_0 rfl (lv_at hl 0 rfl) ?_
  refine W.objInit hx hb hown (hts _ (inT_mem (h := 2022) (by decide +kernel))) (hts _ oi_w.1) (hts _ oi_w.2) rfl (by rw [hml]; exact hl.1) rfl di_PaidOff_1 (Nat.le_of_ble_eq_true rfl) (Nat.le_of_ble_eq_true rfl) ?_
  refine W.eq (g2 := F0 m 4 ls []) rfl ?_
  refine lv_aload_n hx hb di_PaidOff_4 rfl (lv_at hl 0 rfl) ?_
  refine lv_sipush (v := 220) hx hb di_PaidOff_5 (by decide) ?_
  refine k_newa kx ax gw 1 (atype := .long) (ty := .long) (N' := 220) (a0 := (220, .inr (.inl (fun _ => 0)))) (inT_mem (h := 1197) (by decide +kernel)) rfl rfl (fun _ _ h => h) (fun _ => rfl) (by decide) (by decide) (Nat.le_of_ble_eq_true rfl) (Nat.le_of_ble_eq_true rfl) (Nat.le_of_ble_eq_true rfl) di_PaidOff_8 (fun H gw => ?_)
  have gw : Gw D A [h0] 1 [(h0, .inr (3, [.null, .null, .null])), ((s.heap.size + 0), .inl (dA 1, 220, .inr (.inl (fun _ => 0))))] s H _ := gw
  refine k_put kx gw (ci := 3) (C := RX3) (T := TX3) (N := 3) (index := 11) 0 rfl rfl 1 (by decide) (inT_mem (h := 2024) (by decide +kernel)) rfl (Or.inr ⟨rfl, hin, rfl⟩) (ty := (.array .long)) (v := .ref (s.heap.size + 0)) (by decide +kernel) rfl rfl (Nat.le_of_ble_eq_true rfl) di_PaidOff_10 (ws' := [(h0, .inr (3, [.null, .ref (s.heap.size + 0), .null])), ((s.heap.size + 0), .inl (dA 1, 220, .inr (.inl (fun _ => 0))))]) rfl (fun H locs gw => ?_)
  refine lv_aload_n hx hb di_PaidOff_13 rfl (lv_at hl 0 rfl) ?_
  refine lv_sipush (v := 220) hx hb di_PaidOff_14 (by decide) ?_
  refine k_newa kx ax gw 0 (atype := .int) (ty := .int) (N' := 220) (a0 := (220, .inl (fun _ => 0))) (inT_mem (h := 1064) (by decide +kernel)) rfl rfl (fun _ _ h => h) (fun _ => rfl) (by decide) (by decide) (Nat.le_of_ble_eq_true rfl) (Nat.le_of_ble_eq_true rfl) (Nat.le_of_ble_eq_true rfl) di_PaidOff_17 (fun H gw => ?_)
  have gw : Gw D A [h0] 2 [(h0, .inr (3, [.null, .ref (s.heap.size + 0), .null])), ((s.heap.size + 0), .inl (dA 1, 220, .inr (.inl (fun _ => 0)))), ((s.heap.size + 1), .inl (dA 0, 220, .inl (fun _ => 0)))] s H _ := gw
  refine k_put kx gw (ci := 3) (C := RX3) (T := TX3) (N := 3) (index := 17) 0 rfl rfl 2 (by decide) (inT_mem (h := 2025) (by decide +kernel)) rfl (Or.inr ⟨rfl, hin, rfl⟩) (ty := (.array .int)) (v := .ref (s.heap.size + 1)) (by decide +kernel) rfl rfl (Nat.le_of_ble_eq_true rfl) di_PaidOff_19 (ws' := [(h0, .inr (3, [.null, .ref (s.heap.size + 0), .ref (s.heap.size + 1)])), ((s.heap.size + 0), .inl (dA 1, 220, .inr (.inl (fun _ => 0)))), ((s.heap.size + 1), .inl (dA 0, 220, .inl (fun _ => 0)))]) rfl (fun H locs gw => ?_)
  refine lv_aload_n hx hb di_PaidOff_22 rfl (lv_at hl 0 rfl) ?_
  refine lv_aload_n hx hb di_PaidOff_23 rfl (lv_at hl 1 rfl) ?_
  refine k_put kx gw (ci := 3) (C := RX3) (T := TX3) (N := 3) (index := 21) 0 rfl rfl 0 (by decide) (inT_mem (h := 2023) (by decide +kernel)) rfl (Or.inr ⟨rfl, hin, rfl⟩) (ty := (.object "ValueDays$Entries")) (v := .ref a1) (by decide +kernel) rfl rfl (Nat.le_of_ble_eq_true rfl) di_PaidOff_24 (ws' := [(h0, .inr (3, [.ref a1, .ref (s.heap.size + 0), .ref (s.heap.size + 1)])), ((s.heap.size + 0), .inl (dA 1, 220, .inr (.inl (fun _ => 0)))), ((s.heap.size + 1), .inl (dA 0, 220, .inl (fun _ => 0)))]) rfl (fun H locs gw => ?_)
  exact W.vret hx hb hr (fun t ht hW => ⟨⟨(), rfl, trivial, by rw [ht]; exact gw.1, gw.2.1⟩, gw.2.2.1.F ht⟩) gw.2.2.1.2.2 di_PaidOff_27
theorem di_Reader_0 : decode prog_6_method_1_code 0 = .ok (.aload_n 0, 1) := by decide +kernel
theorem di_Reader_1 : decode prog_6_method_1_code 1 = .ok (.invokespecial 3, 3) := by decide +kernel
theorem di_Reader_4 : decode prog_6_method_1_code 4 = .ok (.aload_n 0, 1) := by decide +kernel
theorem di_Reader_5 : decode prog_6_method_1_code 5 = .ok (.new 9, 3) := by decide +kernel
theorem di_Reader_8 : decode prog_6_method_1_code 8 = .ok (.dup, 1) := by decide +kernel
theorem di_Reader_9 : decode prog_6_method_1_code 9 = .ok (.invokespecial 11, 3) := by decide +kernel
theorem di_Reader_12 : decode prog_6_method_1_code 12 = .ok (.putfield 12, 3) := by decide +kernel
theorem di_Reader_15 : decode prog_6_method_1_code 15 = .ok (.aload_n 0, 1) := by decide +kernel
theorem di_Reader_16 : decode prog_6_method_1_code 16 = .ok (.iconst (-1), 1) := by decide +kernel
theorem di_Reader_17 : decode prog_6_method_1_code 17 = .ok (.putfield 18, 3) := by decide +kernel
theorem di_Reader_20 : decode prog_6_method_1_code 20 = .ok (.aload_n 0, 1) := by decide +kernel
theorem di_Reader_21 : decode prog_6_method_1_code 21 = .ok (.aload_n 1, 1) := by decide +kernel
theorem di_Reader_22 : decode prog_6_method_1_code 22 = .ok (.putfield 22, 3) := by decide +kernel
theorem di_Reader_25 : decode prog_6_method_1_code 25 = .ok (.aload_n 0, 1) := by decide +kernel
theorem di_Reader_26 : decode prog_6_method_1_code 26 = .ok (.new 26, 3) := by decide +kernel
theorem di_Reader_29 : decode prog_6_method_1_code 29 = .ok (.dup, 1) := by decide +kernel
theorem di_Reader_30 : decode prog_6_method_1_code 30 = .ok (.aload_n 1, 1) := by decide +kernel
theorem di_Reader_31 : decode prog_6_method_1_code 31 = .ok (.invokespecial 28, 3) := by decide +kernel
theorem di_Reader_34 : decode prog_6_method_1_code 34 = .ok (.putfield 31, 3) := by decide +kernel
theorem di_Reader_37 : decode prog_6_method_1_code 37 = .ok (.return_, 1) := by decide +kernel
set_option maxHeartbeats 4000000 in
set_option maxRecDepth 100000 in
theorem ci_Reader (l : Launch) (D : va_G) (dA : Nat → ClassId) (h0 a1 sz : Nat) : Ct l D dA ⟨"ValueDays$Reader", "<init>", "(LValueDays$Tape;)V"⟩ prog_6_method_1_code 2 2 33 3 336 [.ref h0, .ref a1] [(h0, .inr (4, [.null, .null, .null, .int 0, .int 0, .int 0, .int 0, .int 0, .int 0, .int 0, .int 0, .int 0, .int 0, .int 0, .int 0]))] [(h0, .inr (4, [.ref a1, .ref (sz + 2), .ref (sz + 0), .int 0, .int (-1), .int 0, .int 0, .int 0, .int 0, .int 0, .int 0, .int 0, .int 0, .int 0, .int 0])), ((sz + 0), .inr (5, [.ref (sz + 1), .int 0, .int 0])), ((sz + 1), .inl (dA 0, 328, .inl (fun _ => 0))), ((sz + 2), .inr (8, [.ref a1, .int 0, .int 0, .int 0, .int 0]))] sz := by
  refine Met.ofW (cc := prog_6_method_1_code) (maxL := 2) (ret := none) (by decide) rfl ?_
  intro p e s m args below meth c s₁ B hml hv
  obtain ⟨rfl, hsz, hP, hK, hD0⟩ := hv
  have hx := B.exec
  have hb := B.bytes
  have hr := B.returns
  have hts : ∀ w ∈ mT, w.before _ s = true := fun w hw => atoms_spec (ws := .code ⟨"ValueDays$Reader", "<init>", "(LValueDays$Tape;)V"⟩ prog_6_method_1_code 2 none :: mT) B.pre w (List.mem_cons_of_mem _ hw)
  have hown : s.vm.findClass "ValueDays$Reader" = some m.cls := findClass_of_methodNamed B.named
  have hlocks := B.notSynchronized
  have hin : meth.name = "<init>" := (name_of_methodNamed B.named B.method).1
  subst hsz
  have hD := hD0.self (sz := s.heap.size)
  have ax : Ax (va_A [(h0, .inr (4, [.null, .null, .null, .int 0, .int 0, .int 0, .int 0, .int 0, .int 0, .int 0, .int 0, .int 0, .int 0, .int 0, .int 0]))] s.heap.size) [h0] s.heap.size := Ax.of
  generalize hAe : va_A [(h0, .inr (4, [.null, .null, .null, .int 0, .int 0, .int 0, .int 0, .int 0, .int 0, .int 0, .int 0, .int 0, .int 0, .int 0, .int 0]))] s.heap.size = A at hD ax ⊢
  have kx : Kx p s m _ c prog_6_method_1_code 2 "ValueDays$Reader" D dA := ⟨⟨hx, hb, hml, hown, hts⟩, hK⟩
  have gw : Gw D A [h0] 0 [(h0, .inr (4, [.null, .null, .null, .int 0, .int 0, .int 0, .int 0, .int 0, .int 0, .int 0, .int 0, .int 0, .int 0, .int 0, .int 0]))] s s.heap [] := ⟨hP, hD, va_S.rf, rfl⟩
  have hl := lv_entry ([.ref h0, .ref a1]) (n := 2) (Nat.le_of_ble_eq_true rfl)
  rw [lg_entry_eq]
  generalize (lg_sl ([.ref h0, .ref a1]) ++ List.replicate (2 - (lg_sl ([.ref h0, .ref a1])).length) Slot.unset).toArray = ls at hl ⊢
  have hl : lv_has ls 2 [(0, .ref h0), (1, .ref a1)] := hl
  refine lv_aload_n hx hb di_Reader_0 rfl (lv_at hl 0 rfl) ?_
  refine W.objInit hx hb hown (hts _ (inT_mem (h := 1047) (by decide +kernel))) (hts _ oi_w.1) (hts _ oi_w.2) rfl (by rw [hml]; exact hl.1) rfl di_Reader_1 (Nat.le_of_ble_eq_true rfl) (Nat.le_of_ble_eq_true rfl) ?_
  refine W.eq (g2 := F0 m 4 ls []) rfl ?_
  refine lv_aload_n hx hb di_Reader_4 rfl (lv_at hl 0 rfl) ?_
  refine k_new kx ax gw (ci := 5) (C := RX5) (T := TX5) (N := 3) (index := 9) (fs := [.null, .int 0, .int 0]) tyX5 tyX5_ok rfl (inT_mem (h := 1048) (by decide +kernel)) (inT_mem (h := 1049) (by decide +kernel)) (inT_mem (h := 1004) (by decide +kernel)) (by decide +kernel) (Nat.le_of_ble_eq_true rfl) (Nat.le_of_ble_eq_true rfl) di_Reader_5 (fun H gw => ?_)
  have gw : Gw D A [h0] 1 [(h0, .inr (4, [.null, .null, .null, .int 0, .int 0, .int 0, .int 0, .int 0, .int 0, .int 0, .int 0, .int 0, .int 0, .int 0, .int 0])), ((s.heap.size + 0), .inr (5, [.null, .int 0, .int 0]))] s H _ := gw
  refine lv_dup hx hb di_Reader_8 rfl ?_
  refine k_call (n := 0) (index := 11) (As := []) (rest := [.ref (s.heap.size + 0), .ref h0]) (wr := [(h0, .inr (4, [.null, .null, .null, .int 0, .int 0, .int 0, .int 0, .int 0, .int 0, .int 0, .int 0, .int 0, .int 0, .int 0, .int 0]))]) (ws' := [(h0, .inr (4, [.null, .null, .null, .int 0, .int 0, .int 0, .int 0, .int 0, .int 0, .int 0, .int 0, .int 0, .int 0, .int 0, .int 0])), ((s.heap.size + 0), .inr (5, [.ref (s.heap.size + 1), .int 0, .int 0])), ((s.heap.size + 1), .inl (dA 0, 328, .inl (fun _ => 0)))]) kx ax gw [1] [0] [0, 1, 2] (ci_Script l D dA (s.heap.size + 0) (s.heap.size + 1)) ⟨(inT_mem (h := 1052) (by decide +kernel)), (inT_mem (h := 1004) (by decide +kernel)), (inT_mem (h := 1051) (by decide +kernel))⟩ (by decide +kernel) (Or.inr (by decide +kernel)) rfl rfl (by decide) (by decide) (by decide) (by decide) rfl rfl hl.1 rfl (Nat.le_of_ble_eq_true rfl) ⟨Nat.le_of_ble_eq_true rfl, Nat.le_of_ble_eq_true rfl⟩ (Nat.le_of_ble_eq_true rfl) (Nat.le_of_ble_eq_true rfl) di_Reader_9 (fun H locs gw => ?_)
  have gw : Gw D A [h0] 2 [(h0, .inr (4, [.null, .null, .null, .int 0, .int 0, .int 0, .int 0, .int 0, .int 0, .int 0, .int 0, .int 0, .int 0, .int 0, .int 0])), ((s.heap.size + 0), .inr (5, [.ref (s.heap.size + 1), .int 0, .int 0])), ((s.heap.size + 1), .inl (dA 0, 328, .inl (fun _ => 0)))] s H _ := gw
  refine k_put kx gw (ci := 4) (C := RX4) (T := TX4) (N := 15) (index := 12) 0 rfl rfl 2 (by decide) (inT_mem (h := 1089) (by decide +kernel)) rfl (Or.inr ⟨rfl, hin, rfl⟩) (ty := (.object "ValueDays$Script")) (v := .ref (s.heap.size + 0)) (by decide +kernel) rfl rfl (Nat.le_of_ble_eq_true rfl) di_Reader_12 (ws' := [(h0, .inr (4, [.null, .null, .ref (s.heap.size + 0), .int 0, .int 0, .int 0, .int 0, .int 0, .int 0, .int 0, .int 0, .int 0, .int 0, .int 0, .int 0])), ((s.heap.size + 0), .inr (5, [.ref (s.heap.size + 1), .int 0, .int 0])), ((s.heap.size + 1), .inl (dA 0, 328, .inl (fun _ => 0)))]) rfl (fun H locs gw => ?_)
  refine lv_aload_n hx hb di_Reader_15 rfl (lv_at hl 0 rfl) ?_
  refine lv_iconst (v := (-1)) hx hb di_Reader_16 (by decide) ?_
  refine k_put kx gw (ci := 4) (C := RX4) (T := TX4) (N := 15) (index := 18) 0 rfl rfl 4 (by decide) (inT_mem (h := 1091) (by decide +kernel)) rfl (Or.inl rfl) (ty := .int) (v := .int (-1)) (by decide +kernel) rfl rfl (Nat.le_of_ble_eq_true rfl) di_Reader_17 (ws' := [(h0, .inr (4, [.null, .null, .ref (s.heap.size + 0), .int 0, .int (-1), .int 0, .int 0, .int 0, .int 0, .int 0, .int 0, .int 0, .int 0, .int 0, .int 0])), ((s.heap.size + 0), .inr (5, [.ref (s.heap.size + 1), .int 0, .int 0])), ((s.heap.size + 1), .inl (dA 0, 328, .inl (fun _ => 0)))]) rfl (fun H locs gw => ?_)
  refine lv_aload_n hx hb di_Reader_20 rfl (lv_at hl 0 rfl) ?_
  refine lv_aload_n hx hb di_Reader_21 rfl (lv_at hl 1 rfl) ?_
  refine k_put kx gw (ci := 4) (C := RX4) (T := TX4) (N := 15) (index := 22) 0 rfl rfl 0 (by decide) (inT_mem (h := 1087) (by decide +kernel)) rfl (Or.inr ⟨rfl, hin, rfl⟩) (ty := (.object "ValueDays$Tape")) (v := .ref a1) (by decide +kernel) rfl rfl (Nat.le_of_ble_eq_true rfl) di_Reader_22 (ws' := [(h0, .inr (4, [.ref a1, .null, .ref (s.heap.size + 0), .int 0, .int (-1), .int 0, .int 0, .int 0, .int 0, .int 0, .int 0, .int 0, .int 0, .int 0, .int 0])), ((s.heap.size + 0), .inr (5, [.ref (s.heap.size + 1), .int 0, .int 0])), ((s.heap.size + 1), .inl (dA 0, 328, .inl (fun _ => 0)))]) rfl (fun H locs gw => ?_)
  refine lv_aload_n hx hb di_Reader_25 rfl (lv_at hl 0 rfl) ?_
  refine k_new kx ax gw (ci := 8) (C := RX8) (T := TX8) (N := 5) (index := 26) (fs := [.null, .int 0, .int 0, .int 0, .int 0]) tyX8 tyX8_ok rfl (inT_mem (h := 1065) (by decide +kernel)) (inT_mem (h := 1066) (by decide +kernel)) (inT_mem (h := 1005) (by decide +kernel)) (by decide +kernel) (Nat.le_of_ble_eq_true rfl) (Nat.le_of_ble_eq_true rfl) di_Reader_26 (fun H gw => ?_)
  have gw : Gw D A [h0] 3 [(h0, .inr (4, [.ref a1, .null, .ref (s.heap.size + 0), .int 0, .int (-1), .int 0, .int 0, .int 0, .int 0, .int 0, .int 0, .int 0, .int 0, .int 0, .int 0])), ((s.heap.size + 0), .inr (5, [.ref (s.heap.size + 1), .int 0, .int 0])), ((s.heap.size + 1), .inl (dA 0, 328, .inl (fun _ => 0))), ((s.heap.size + 2), .inr (8, [.null, .int 0, .int 0, .int 0, .int 0]))] s H _ := gw
  refine lv_dup hx hb di_Reader_29 rfl ?_
  refine lv_aload_n hx hb di_Reader_30 rfl (lv_at hl 1 rfl) ?_
  refine k_call (n := 1) (index := 28) (As := [.ref a1]) (rest := [.ref (s.heap.size + 2), .ref h0]) (wr := [(h0, .inr (4, [.ref a1, .null, .ref (s.heap.size + 0), .int 0, .int (-1), .int 0, .int 0, .int 0, .int 0, .int 0, .int 0, .int 0, .int 0, .int 0, .int 0])), ((s.heap.size + 0), .inr (5, [.ref (s.heap.size + 1), .int 0, .int 0])), ((s.heap.size + 1), .inl (dA 0, 328, .inl (fun _ => 0)))]) (ws' := [(h0, .inr (4, [.ref a1, .null, .ref (s.heap.size + 0), .int 0, .int (-1), .int 0, .int 0, .int 0, .int 0, .int 0, .int 0, .int 0, .int 0, .int 0, .int 0])), ((s.heap.size + 0), .inr (5, [.ref (s.heap.size + 1), .int 0, .int 0])), ((s.heap.size + 1), .inl (dA 0, 328, .inl (fun _ => 0))), ((s.heap.size + 2), .inr (8, [.ref a1, .int 0, .int 0, .int 0, .int 0]))]) kx ax gw [3] [0, 1, 2] [0, 1, 2, 3] (ci_Tokens l D dA (s.heap.size + 2) a1 (s.heap.size + 3)) ⟨(inT_mem (h := 1069) (by decide +kernel)), (inT_mem (h := 1005) (by decide +kernel)), (inT_mem (h := 1068) (by decide +kernel))⟩ (by decide +kernel) (Or.inl (inT_mem (h := 1067) (by decide +kernel))) rfl rfl (by decide) (by decide) (by decide) (by decide) rfl rfl hl.1 rfl (Nat.le_of_ble_eq_true rfl) ⟨Nat.le_of_ble_eq_true rfl, Nat.le_of_ble_eq_true rfl⟩ (Nat.le_of_ble_eq_true rfl) (Nat.le_of_ble_eq_true rfl) di_Reader_31 (fun H locs gw => ?_)
  have gw : Gw D A [h0] 3 [(h0, .inr (4, [.ref a1, .null, .ref (s.heap.size + 0), .int 0, .int (-1), .int 0, .int 0, .int 0, .int 0, .int 0, .int 0, .int 0, .int 0, .int 0, .int 0])), ((s.heap.size + 0), .inr (5, [.ref (s.heap.size + 1), .int 0, .int 0])), ((s.heap.size + 1), .inl (dA 0, 328, .inl (fun _ => 0))), ((s.heap.size + 2), .inr (8, [.ref a1, .int 0, .int 0, .int 0, .int 0]))] s H _ := gw
  refine k_put kx gw (ci := 4) (C := RX4) (T := TX4) (N := 15) (index := 31) 0 rfl rfl 1 (by decide) (inT_mem (h := 1088) (by decide +kernel)) rfl (Or.inr ⟨rfl, hin, rfl⟩) (ty := (.object "ValueDays$Tokens")) (v := .ref (s.heap.size + 2)) (by decide +kernel) rfl rfl (Nat.le_of_ble_eq_true rfl) di_Reader_34 (ws' := [(h0, .inr (4, [.ref a1, .ref (s.heap.size + 2), .ref (s.heap.size + 0), .int 0, .int (-1), .int 0, .int 0, .int 0, .int 0, .int 0, .int 0, .int 0, .int 0, .int 0, .int 0])), ((s.heap.size + 0), .inr (5, [.ref (s.heap.size + 1), .int 0, .int 0])), ((s.heap.size + 1), .inl (dA 0, 328, .inl (fun _ => 0))), ((s.heap.size + 2), .inr (8, [.ref a1, .int 0, .int 0, .int 0, .int 0]))]) rfl (fun H locs gw => ?_)
  exact W.vret hx hb hr (fun t ht hW => ⟨⟨(), rfl, trivial, by rw [ht]; exact gw.1, gw.2.1⟩, gw.2.2.1.F ht⟩) gw.2.2.1.2.2 di_Reader_37
