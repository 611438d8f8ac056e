/-! the law, from its entry to its loop (written by wip/whole/gs3.py) -/
theorem di_law_0 : decode code 0 = .ok (.new 7, 3) := by decide +kernel
theorem di_law_3 : decode code 3 = .ok (.dup, 1) := by decide +kernel
theorem di_law_4 : decode code 4 = .ok (.invokespecial 9, 3) := by decide +kernel
theorem di_law_7 : decode code 7 = .ok (.astore_n 1, 1) := by decide +kernel
theorem di_law_8 : decode code 8 = .ok (.new 10, 3) := by decide +kernel
theorem di_law_11 : decode code 11 = .ok (.dup, 1) := by decide +kernel
theorem di_law_12 : decode code 12 = .ok (.invokespecial 12, 3) := by decide +kernel
theorem di_law_15 : decode code 15 = .ok (.astore_n 2, 1) := by decide +kernel
theorem arr_of {args : Array Value} {s : State} {ty : FieldType} (h : (Cond.arrayClass ty).before args s = true) : ∃ (c : ClassId) (k : Class) (cp : ClassId), s.vm.findClass ("[" ++ ty.toString) = some c ∧ s.vm.classes[c]? = some k ∧ k.kind = .array cp ty := Cond.arrayClass_spec h
theorem arrT {s : State} {c cp : ClassId} {k : Class} {ty : FieldType} (h1 : s.vm.classes[c]? = some k) (h2 : k.kind = .array cp ty) : ArrOfT s c ty := fun n z => ⟨fun q h => (by cases h), k, h1, cp, h2⟩
/-- the classes at the law's entry -/
theorem ko_of {args : Array Value} {s : State} (hts : ∀ w ∈ lw_tbl, w.before args s = true) : ∃ (D : va_G) (dA : Nat → ClassId), Ko D dA s := by
  have hm : ∀ w ∈ mT, w.before args s = true := fun w hw => hts w (List.mem_filter.mp hw).1
  obtain ⟨c0, k0, p0, a1, a2, a3⟩ := arr_of (ty := .int) (hm _ (inT_mem (h := 1064) (by decide +kernel)))
  obtain ⟨c1, k1, p1, b1, b2, b3⟩ := arr_of (ty := .long) (hm _ (inT_mem (h := 1197) (by decide +kernel)))
  obtain ⟨c2, k2, p2, d1, d2, d3⟩ := arr_of (ty := .byte) (hm _ (inT_mem (h := 1041) (by decide +kernel)))
  obtain ⟨c3, k3, p3, e1, e2, e3⟩ := arr_of (ty := .boolean) (hm _ (inT_mem (h := 7093) (by decide +kernel)))
  have hAO : va_AO "ValueDays$Script" s := va_AO.of (hts (.arrayOver (.object "ValueDays$Script")) (mch_mem (c := 1) (List.mem_of_getElem? (i := 135) (by decide +kernel))))
  obtain ⟨cp4, c4, k4, f1, -, f2, f3, f4⟩ := Cond.arrayOver_spec hAO
  obtain ⟨cp5, c5, k5, g1, -, g2, g3, g4⟩ := arrayOverA_spec (hts (.arrayOver (.array .int)) (mch_mem (c := 1) (List.mem_of_getElem? (i := 149) (by decide +kernel))))
  have g1 : s.vm.findClass "[I" = some cp5 := g1
  have g4 : s.vm.findClass "[[I" = some c5 := g4
  have a1 : s.vm.findClass "[I" = some c0 := a1
  have e5 : cp5 = c0 := Option.some.inj (g1.symm.trans a1)
  subst e5
  have hkn : ∀ k : Nat, ∃ q : ClassId × (Nat → Nat), ∀ r : vw_C, vwCl[k]? = some r → u_Kn s r.1 r.2.1 r.2.2 q.1 q.2 := by
    intro k
    cases hk : vwCl[k]? with
    | none => exact ⟨(0, fun _ => 0), fun r h => by cases h⟩
    | some r =>
      have hin : Cond.instantiable r.1 r.2.2 ∈ mT := by
        match k, hk with
        | 0, hk => cases hk; exact (inT_mem (h := 1229) (by decide +kernel))
        | 1, hk => cases hk; exact (inT_mem (h := 1170) (by decide +kernel))
        | 2, hk => cases hk; exact (inT_mem (h := 1137) (by decide +kernel))
        | 3, hk => cases hk; exact (inT_mem (h := 2018) (by decide +kernel))
        | 4, hk => cases hk; exact (inT_mem (h := 1043) (by decide +kernel))
        | 5, hk => cases hk; exact (inT_mem (h := 1049) (by decide +kernel))
        | 6, hk => cases hk; exact (inT_mem (h := 1029) (by decide +kernel))
        | 7, hk => cases hk; exact (inT_mem (h := 1143) (by decide +kernel))
        | 8, hk => cases hk; exact (inT_mem (h := 1066) (by decide +kernel))
        | 9, hk => cases hk; exact (inT_mem (h := 2002) (by decide +kernel))
        | 10, hk => cases hk; exact (inT_mem (h := 1021) (by decide +kernel))
        | 11, hk => cases hk; exact (inT_mem (h := 6208) (by decide +kernel))
      obtain ⟨cC, iS, h⟩ := u_known (n := r.2.2) hm (uws_in r (List.mem_of_getElem? hk)) (hm _ hin)
      exact ⟨(cC, iS), fun r' h' => by cases h'; exact h⟩
  obtain ⟨dq, hdq⟩ := Classical.axiomOfChoice hkn
  refine ⟨(fun k => (dq k).1, fun k => (dq k).2), fun t => nth 0 [cp5, c1, c2, c3, c4, c5] t, ⟨fun k r hr => hdq k r hr, fun k q hq => ?_⟩, hAO, ⟨g4, ⟨k5, g2, g3⟩, k0, p0, a2, a3⟩, fun q hq => ?_⟩
  · match k, hq with
    | 0, hq => cases hq; exact ⟨arrT a2 a3, a1⟩
    | 1, hq => cases hq; exact ⟨arrT b2 b3, b1⟩
    | 2, hq => cases hq; exact ⟨arrT d2 d3, d1⟩
    | 3, hq => cases hq; exact ⟨arrT e2 e3, e1⟩
    | 4, hq => cases hq; exact ⟨arrT f2 f3, k4, cp4, f2, f3, f1, f4⟩
    | 5, hq => cases hq; exact ⟨arrT g2 g3, g4⟩
    | k + 6, hq => simp [tys] at hq
  · simp only [nst, List.mem_cons, List.not_mem_nil, or_false] at hq
    rcases hq with rfl | rfl | rfl | rfl | rfl | rfl
    · exact va_Nw.of rfl (hts (.methodLinkNest "ValueDays" 11 ⟨"ValueDays$Tape", "<init>", "()V"⟩ "ValueDays") (mch_mem (c := 1) (List.mem_of_getElem? (i := 30) (by decide +kernel))))
    · exact va_Nw.of rfl (hts (.methodLinkNest "ValueDays$Reader" 11 ⟨"ValueDays$Script", "<init>", "()V"⟩ "ValueDays") (mch_mem (c := 1) (List.mem_of_getElem? (i := 50) (by decide +kernel))))
    · exact va_Nw.of rfl (hts (.methodLinkNest "ValueDays" 29 ⟨"ValueDays$Script", "<init>", "()V"⟩ "ValueDays") (mch_mem (c := 1) (List.mem_of_getElem? (i := 134) (by decide +kernel))))
    · exact va_Nw.of rfl (hts (.methodLinkNest "ValueDays" 40 ⟨"ValueDays$Ledger", "<init>", "()V"⟩ "ValueDays") (mch_mem (c := 1) (List.mem_of_getElem? (i := 138) (by decide +kernel))))
    · exact va_Nw.of rfl (hts (.methodLinkNest "ValueDays$Ledger" 11 ⟨"ValueDays$Terms", "<init>", "()V"⟩ "ValueDays") (mch_mem (c := 1) (List.mem_of_getElem? (i := 144) (by decide +kernel))))
    · exact va_Nw.of rfl (hts (.methodLinkNest "ValueDays$Ledger" 20 ⟨"ValueDays$Entries", "<init>", "()V"⟩ "ValueDays") (mch_mem (c := 1) (List.mem_of_getElem? (i := 171) (by decide +kernel))))
