/-! the machine's own judgement obeys the small machine: part 2, an instruction a row (written by wip/whole/gen3.py) -/
section INS
variable {l : Launch} {b : Nat} {tS : Nat → Value} {D : va_G} {dA : Nat → ClassId} {i9 : Int32} {a9 : Nat → Int32} {y pc : Nat} {L S : List Value} {I A : mI} {B : mB} {P : mP} {R : mR}
def lokL (b : Nat) (tS : Nat → Value) (L : List Value) : List (Nat × Value) := (List.range L.length).filterMap (fun j => match (L[j]? : Option Value) with
  | some (Value.float _) => none
  | some v => some (j, tr b tS v)
  | none => none)
theorem lokL_mem {j : Nat} {v : Value} (h : L[j]? = some v) (hf : ∀ f, v ≠ .float f) : (j, tr b tS v) ∈ lokL b tS L := by
  refine List.mem_filterMap.mpr ⟨j, List.mem_range.mpr (List.getElem?_eq_some_iff.mp h).1, ?_⟩
  rw [h]
  cases v <;> first | rfl | exact absurd rfl (hf _)
theorem lok_has {ls : Array Slot} (lo : Lok b tS ls L) : lv_has ls L.length (lokL b tS L) := by
  refine ⟨lo.1, lo.2.1, fun q hq => ?_⟩
  obtain ⟨j, -, hj⟩ := List.mem_filterMap.mp hq
  cases hL : L[j]? with
  | none => rw [hL] at hj; cases hj
  | some v =>
    rw [hL] at hj
    have hv : ∀ f, v ≠ .float f := fun f q => by rw [q] at hj; cases hj
    have e : some (j, tr b tS v) = some q := by cases v <;> first | exact hj | exact absurd rfl (hv _)
    cases e
    exact lo.2.2 j v hL hv
theorem tr_cat (hc : ∀ n, (tS n).category = 1) (v : Value) : (tr b tS v).category = v.category := by
  cases v <;> first | rfl | exact hc _
theorem lok_sto {ls' : Array Slot} {nL n : Nat} {v : Value} {L' : List Value} (hc : ∀ n, (tS n).category = 1) (hn : L.length = nL) (h : stoR v 1 n L L') (hl : lv_has ls' nL ((n, tr b tS v) :: (lokL b tS L).filter (fun q => !(q.1 == n) && !(q.1 + 1 == n && q.2.category == 2)))) : Lok b tS ls' L' := by
  obtain ⟨r1, r2, r3, -, r5⟩ := h
  refine ⟨by rw [hl.1, r1, hn], hl.2.1, fun j u hj hf => ?_⟩
  by_cases e : j = n
  · subst e
    rw [r3] at hj
    cases hj
    exact hl.2.2 (j, tr b tS v) List.mem_cons_self
  · rcases r5 j (by omega) with ⟨q1, q2⟩ | q
    · rw [q1] at hj
      refine hl.2.2 (j, tr b tS u) (List.mem_cons_of_mem _ (List.mem_filter.mpr ⟨lokL_mem hj hf, ?_⟩))
      by_cases e2 : j + 1 = n
      · have := q2 e2 u hj
        simp [e, tr_cat hc, this]
      · simp [e, e2]
    · rw [q] at hj
      cases hj
      exact absurd rfl (hf 0)
theorem lok_sto2 {ls' : Array Slot} {nL n : Nat} {v : Value} {L' : List Value} (hc : ∀ n, (tS n).category = 1) (hn : L.length = nL) (h : stoR v 2 n L L') (hl : lv_has ls' nL ((n, tr b tS v) :: (lokL b tS L).filter (fun q => !(q.1 == n) && (!(q.1 == n + 1) && !(q.1 + 1 == n && q.2.category == 2))))) : Lok b tS ls' L' := by
  obtain ⟨r1, r2, r3, r4, r5⟩ := h
  refine ⟨by rw [hl.1, r1, hn], hl.2.1, fun j u hj hf => ?_⟩
  by_cases e : j = n
  · subst e
    rw [r3] at hj
    cases hj
    exact hl.2.2 (j, tr b tS v) List.mem_cons_self
  · by_cases e1 : j = n + 1
    · subst e1
      rw [r4 rfl] at hj
      cases hj
      exact absurd rfl (hf 0)
    · rcases r5 j (by omega) with ⟨q1, q2⟩ | q
      · rw [q1] at hj
        refine hl.2.2 (j, tr b tS u) (List.mem_cons_of_mem _ (List.mem_filter.mpr ⟨lokL_mem hj hf, ?_⟩))
        by_cases e2 : j + 1 = n
        · have := q2 e2 u hj
          simp [e, e1, tr_cat hc, this]
        · simp [e, e1, e2]
      · rw [q] at hj
        cases hj
        exact absurd rfl (hf 0)
theorem out_cat {s : State} (h : Out b tS i9 a9 s) : ∀ n, (tS n).category = 1 := by
  intro n
  by_cases e : n = 999
  · rw [e]
    rcases h.2.2.2.2.2 with q | ⟨a, q⟩ <;> rw [q] <;> rfl
  · obtain ⟨a, q⟩ := h.1 n e
    rw [q]
    rfl
theorem ms_iconst {n : Int} {v : Int32} (hd : decode (mCd y) pc = .ok (.iconst n, 1)) (hv : Int32.ofInt n = v) (h : mj l b tS D dA i9 a9 y (pc + 1) L (.int v :: S) I A B P R) : mj l b tS D dA i9 a9 y pc L S I A B P R := by
  intro p e RM s m ar below meth c H locs cells slots Q ls hy cx sx wl lo hll rk
  exact lv_iconst cx.1 cx.2.1 hd hv (h p e RM s m ar below meth c H locs cells slots Q ls hy cx sx wl lo hll rk)
theorem ms_bipush {n : Int} {v : Int32} (hd : decode (mCd y) pc = .ok (.bipush n, 2)) (hv : (Int8.ofInt n).toInt32 = v) (h : mj l b tS D dA i9 a9 y (pc + 2) L (.int v :: S) I A B P R) : mj l b tS D dA i9 a9 y pc L S I A B P R := by
  intro p e RM s m ar below meth c H locs cells slots Q ls hy cx sx wl lo hll rk
  exact lv_bipush cx.1 cx.2.1 hd hv (h p e RM s m ar below meth c H locs cells slots Q ls hy cx sx wl lo hll rk)
theorem ms_sipush {n : Int} {v : Int32} (hd : decode (mCd y) pc = .ok (.sipush n, 3)) (hv : (Int16.ofInt n).toInt32 = v) (h : mj l b tS D dA i9 a9 y (pc + 3) L (.int v :: S) I A B P R) : mj l b tS D dA i9 a9 y pc L S I A B P R := by
  intro p e RM s m ar below meth c H locs cells slots Q ls hy cx sx wl lo hll rk
  exact lv_sipush cx.1 cx.2.1 hd hv (h p e RM s m ar below meth c H locs cells slots Q ls hy cx sx wl lo hll rk)
theorem ms_lconst {n : Fin 2} {v : Int64} (hd : decode (mCd y) pc = .ok (.lconst n, 1)) (hv : Int64.ofNat (n : Nat) = v) (h : mj l b tS D dA i9 a9 y (pc + 1) L (.long v :: S) I A B P R) : mj l b tS D dA i9 a9 y pc L S I A B P R := by
  intro p e RM s m ar below meth c H locs cells slots Q ls hy cx sx wl lo hll rk
  exact lv_lconst cx.1 cx.2.1 hd hv (h p e RM s m ar below meth c H locs cells slots Q ls hy cx sx wl lo hll rk)
theorem ms_null (hd : decode (mCd y) pc = .ok (.aconst_null, 1)) (h : mj l b tS D dA i9 a9 y (pc + 1) L (.null :: S) I A B P R) : mj l b tS D dA i9 a9 y pc L S I A B P R := by
  intro p e RM s m ar below meth c H locs cells slots Q ls hy cx sx wl lo hll rk
  exact lv_null cx.1 cx.2.1 hd (h p e RM s m ar below meth c H locs cells slots Q ls hy cx sx wl lo hll rk)
theorem ms_ldc {n : Nat} {v : Int32} (hd : decode (mCd y) pc = .ok (.ldc n, 2)) (hw : Cond.constant (mNm y).cls n v ∈ mT) (h : mj l b tS D dA i9 a9 y (pc + 2) L (.int v :: S) I A B P R) : mj l b tS D dA i9 a9 y pc L S I A B P R := by
  intro p e RM s m ar below meth c H locs cells slots Q ls hy cx sx wl lo hll rk
  exact lv_ldc cx.1 cx.2.1 cx.2.2.2.1 (cx.2.2.2.2.1 _ hw) hd (h p e RM s m ar below meth c H locs cells slots Q ls hy cx sx wl lo hll rk)
theorem ms_ldcw {n : Nat} {v : Int32} (hd : decode (mCd y) pc = .ok (.ldc_w n, 3)) (hw : Cond.constant (mNm y).cls n v ∈ mT) (h : mj l b tS D dA i9 a9 y (pc + 3) L (.int v :: S) I A B P R) : mj l b tS D dA i9 a9 y pc L S I A B P R := by
  intro p e RM s m ar below meth c H locs cells slots Q ls hy cx sx wl lo hll rk
  exact lv_ldcw cx.1 cx.2.1 cx.2.2.2.1 (cx.2.2.2.2.1 _ hw) hd (h p e RM s m ar below meth c H locs cells slots Q ls hy cx sx wl lo hll rk)
theorem ms_ldc2 {n : Nat} {v : Int64} (hd : decode (mCd y) pc = .ok (.ldc2_w n, 3)) (hw : Cond.constantLong (mNm y).cls n v ∈ mT) (h : mj l b tS D dA i9 a9 y (pc + 3) L (.long v :: S) I A B P R) : mj l b tS D dA i9 a9 y pc L S I A B P R := by
  intro p e RM s m ar below meth c H locs cells slots Q ls hy cx sx wl lo hll rk
  exact lv_ldc2 cx.1 cx.2.1 cx.2.2.2.1 (cx.2.2.2.2.1 _ hw) hd (h p e RM s m ar below meth c H locs cells slots Q ls hy cx sx wl lo hll rk)
theorem ms_iload {n : Nat} {x : Int32} (hd : decode (mCd y) pc = .ok (.iload n, 2)) (hL : L[n]? = some (.int x)) (h : mj l b tS D dA i9 a9 y (pc + 2) L (.int x :: S) I A B P R) : mj l b tS D dA i9 a9 y pc L S I A B P R := by
  intro p e RM s m ar below meth c H locs cells slots Q ls hy cx sx wl lo hll rk
  exact lv_iload cx.1 cx.2.1 hd (lo.2.2 _ _ hL (fun f q => by cases q)) (h p e RM s m ar below meth c H locs cells slots Q ls hy cx sx wl lo hll rk)
theorem ms_iload_n {n : Fin 4} {x : Int32} (hd : decode (mCd y) pc = .ok (.iload_n n, 1)) (hL : L[n.val]? = some (.int x)) (h : mj l b tS D dA i9 a9 y (pc + 1) L (.int x :: S) I A B P R) : mj l b tS D dA i9 a9 y pc L S I A B P R := by
  intro p e RM s m ar below meth c H locs cells slots Q ls hy cx sx wl lo hll rk
  exact lv_iload_n cx.1 cx.2.1 hd rfl (lo.2.2 _ _ hL (fun f q => by cases q)) (h p e RM s m ar below meth c H locs cells slots Q ls hy cx sx wl lo hll rk)
theorem ms_lload {n : Nat} {x : Int64} (hd : decode (mCd y) pc = .ok (.lload n, 2)) (hL : L[n]? = some (.long x)) (h : mj l b tS D dA i9 a9 y (pc + 2) L (.long x :: S) I A B P R) : mj l b tS D dA i9 a9 y pc L S I A B P R := by
  intro p e RM s m ar below meth c H locs cells slots Q ls hy cx sx wl lo hll rk
  exact lv_lload cx.1 cx.2.1 hd (lo.2.2 _ _ hL (fun f q => by cases q)) (h p e RM s m ar below meth c H locs cells slots Q ls hy cx sx wl lo hll rk)
theorem ms_lload_n {n : Fin 4} {x : Int64} (hd : decode (mCd y) pc = .ok (.lload_n n, 1)) (hL : L[n.val]? = some (.long x)) (h : mj l b tS D dA i9 a9 y (pc + 1) L (.long x :: S) I A B P R) : mj l b tS D dA i9 a9 y pc L S I A B P R := by
  intro p e RM s m ar below meth c H locs cells slots Q ls hy cx sx wl lo hll rk
  exact lv_lload_n cx.1 cx.2.1 hd rfl (lo.2.2 _ _ hL (fun f q => by cases q)) (h p e RM s m ar below meth c H locs cells slots Q ls hy cx sx wl lo hll rk)
theorem ms_aload {n : Nat} {v : Value} (hd : decode (mCd y) pc = .ok (.aload n, 2)) (hL : L[n]? = some v) (hv : (∃ x, v = .ref x) ∨ v = .null ∨ (∃ x, v = .retAddr x ∧ x ≠ 999)) (h : mj l b tS D dA i9 a9 y (pc + 2) L (v :: S) I A B P R) : mj l b tS D dA i9 a9 y pc L S I A B P R := by
  intro p e RM s m ar below meth c H locs cells slots Q ls hy cx sx wl lo hll rk
  rcases hv with ⟨x, rfl⟩ | rfl | ⟨x, rfl, hx⟩
  · exact lv_aload cx.1 cx.2.1 hd (lo.2.2 _ _ hL (fun f q => by cases q)) (h p e RM s m ar below meth c H locs cells slots Q ls hy cx sx wl lo hll rk)
  · exact lv_aloadN cx.1 cx.2.1 hd (lo.2.2 _ _ hL (fun f q => by cases q)) (h p e RM s m ar below meth c H locs cells slots Q ls hy cx sx wl lo hll rk)
  · obtain ⟨a, ha⟩ := sx.2.2.1 x hx
    have hl : ls[n]? = some (.val (.ref a)) := by
      have := lo.2.2 _ _ hL (fun f q => by cases q)
      rwa [show tr b tS (.retAddr x) = .ref a from ha] at this
    refine lv_aload cx.1 cx.2.1 hd hl ?_
    have h1 := h p e RM s m ar below meth c H locs cells slots Q ls hy cx sx wl lo hll rk
    rwa [List.map_cons, show tr b tS (.retAddr x) = .ref a from ha] at h1
theorem ms_aload_n {n : Fin 4} {v : Value} (hd : decode (mCd y) pc = .ok (.aload_n n, 1)) (hL : L[n.val]? = some v) (hv : (∃ x, v = .ref x) ∨ v = .null ∨ (∃ x, v = .retAddr x ∧ x ≠ 999)) (h : mj l b tS D dA i9 a9 y (pc + 1) L (v :: S) I A B P R) : mj l b tS D dA i9 a9 y pc L S I A B P R := by
  intro p e RM s m ar below meth c H locs cells slots Q ls hy cx sx wl lo hll rk
  rcases hv with ⟨x, rfl⟩ | rfl | ⟨x, rfl, hx⟩
  · exact lv_aload_n cx.1 cx.2.1 hd rfl (lo.2.2 _ _ hL (fun f q => by cases q)) (h p e RM s m ar below meth c H locs cells slots Q ls hy cx sx wl lo hll rk)
  · exact lv_aload_nN cx.1 cx.2.1 hd rfl (lo.2.2 _ _ hL (fun f q => by cases q)) (h p e RM s m ar below meth c H locs cells slots Q ls hy cx sx wl lo hll rk)
  · obtain ⟨a, ha⟩ := sx.2.2.1 x hx
    have hl : ls[n.val]? = some (.val (.ref a)) := by
      have := lo.2.2 _ _ hL (fun f q => by cases q)
      rwa [show tr b tS (.retAddr x) = .ref a from ha] at this
    refine lv_aload_n cx.1 cx.2.1 hd rfl hl ?_
    have h1 := h p e RM s m ar below meth c H locs cells slots Q ls hy cx sx wl lo hll rk
    rwa [List.map_cons, show tr b tS (.retAddr x) = .ref a from ha] at h1
theorem ms_istore {n : Nat} {x : Int32} {L2 : List Value} (hd : decode (mCd y) pc = .ok (.istore n, 2)) (hs : stoR (.int x) 1 n L L2) (h : mj l b tS D dA i9 a9 y (pc + 2) L2 S I A B P R) : mj l b tS D dA i9 a9 y pc L (.int x :: S) I A B P R := by
  intro p e RM s m ar below meth c H locs cells slots Q ls hy cx sx wl lo hll rk
  refine lv_istore cx.1 cx.2.1 hd (lok_has lo) (by have := hs.2.1; omega) rfl (fun ls2 hl => ?_)
  exact h p e RM s m ar below meth c H locs cells slots Q ls2 hy cx sx wl (lok_sto (out_cat sx.2.2) rfl hs hl) (hs.1.trans hll) rk
theorem ms_istore_n {n : Fin 4} {x : Int32} {L2 : List Value} (hd : decode (mCd y) pc = .ok (.istore_n n, 1)) (hs : stoR (.int x) 1 n.val L L2) (h : mj l b tS D dA i9 a9 y (pc + 1) L2 S I A B P R) : mj l b tS D dA i9 a9 y pc L (.int x :: S) I A B P R := by
  intro p e RM s m ar below meth c H locs cells slots Q ls hy cx sx wl lo hll rk
  refine lv_istore_n cx.1 cx.2.1 hd rfl (lok_has lo) (by have := hs.2.1; omega) rfl (fun ls2 hl => ?_)
  exact h p e RM s m ar below meth c H locs cells slots Q ls2 hy cx sx wl (lok_sto (out_cat sx.2.2) rfl hs hl) (hs.1.trans hll) rk
theorem ms_lstore {n : Nat} {x : Int64} {L2 : List Value} (hd : decode (mCd y) pc = .ok (.lstore n, 2)) (hs : stoR (.long x) 2 n L L2) (h : mj l b tS D dA i9 a9 y (pc + 2) L2 S I A B P R) : mj l b tS D dA i9 a9 y pc L (.long x :: S) I A B P R := by
  intro p e RM s m ar below meth c H locs cells slots Q ls hy cx sx wl lo hll rk
  refine lv_lstore cx.1 cx.2.1 hd (lok_has lo) (by have := hs.2.1; omega) rfl (fun ls2 hl => ?_)
  exact h p e RM s m ar below meth c H locs cells slots Q ls2 hy cx sx wl (lok_sto2 (out_cat sx.2.2) rfl hs hl) (hs.1.trans hll) rk
theorem ms_lstore_n {n : Fin 4} {x : Int64} {L2 : List Value} (hd : decode (mCd y) pc = .ok (.lstore_n n, 1)) (hs : stoR (.long x) 2 n.val L L2) (h : mj l b tS D dA i9 a9 y (pc + 1) L2 S I A B P R) : mj l b tS D dA i9 a9 y pc L (.long x :: S) I A B P R := by
  intro p e RM s m ar below meth c H locs cells slots Q ls hy cx sx wl lo hll rk
  refine lv_lstore_n cx.1 cx.2.1 hd rfl (lok_has lo) (by have := hs.2.1; omega) rfl (fun ls2 hl => ?_)
  exact h p e RM s m ar below meth c H locs cells slots Q ls2 hy cx sx wl (lok_sto2 (out_cat sx.2.2) rfl hs hl) (hs.1.trans hll) rk
theorem ms_astore {n : Nat} {x : Nat} {L2 : List Value} (hd : decode (mCd y) pc = .ok (.astore n, 2)) (hs : stoR (.ref x) 1 n L L2) (h : mj l b tS D dA i9 a9 y (pc + 2) L2 S I A B P R) : mj l b tS D dA i9 a9 y pc L (.ref x :: S) I A B P R := by
  intro p e RM s m ar below meth c H locs cells slots Q ls hy cx sx wl lo hll rk
  refine lv_astore cx.1 cx.2.1 hd (lok_has lo) (by have := hs.2.1; omega) rfl (fun ls2 hl => ?_)
  exact h p e RM s m ar below meth c H locs cells slots Q ls2 hy cx sx wl (lok_sto (out_cat sx.2.2) rfl hs hl) (hs.1.trans hll) rk
theorem ms_astore_n {n : Fin 4} {x : Nat} {L2 : List Value} (hd : decode (mCd y) pc = .ok (.astore_n n, 1)) (hs : stoR (.ref x) 1 n.val L L2) (h : mj l b tS D dA i9 a9 y (pc + 1) L2 S I A B P R) : mj l b tS D dA i9 a9 y pc L (.ref x :: S) I A B P R := by
  intro p e RM s m ar below meth c H locs cells slots Q ls hy cx sx wl lo hll rk
  refine lv_astore_n cx.1 cx.2.1 hd rfl (lok_has lo) (by have := hs.2.1; omega) rfl (fun ls2 hl => ?_)
  exact h p e RM s m ar below meth c H locs cells slots Q ls2 hy cx sx wl (lok_sto (out_cat sx.2.2) rfl hs hl) (hs.1.trans hll) rk
theorem ms_astoreN {n : Nat} {L2 : List Value} (hd : decode (mCd y) pc = .ok (.astore n, 2)) (hs : stoR .null 1 n L L2) (h : mj l b tS D dA i9 a9 y (pc + 2) L2 S I A B P R) : mj l b tS D dA i9 a9 y pc L (.null :: S) I A B P R := by
  intro p e RM s m ar below meth c H locs cells slots Q ls hy cx sx wl lo hll rk
  refine lv_astoreN cx.1 cx.2.1 hd (lok_has lo) (by have := hs.2.1; omega) rfl (fun ls2 hl => ?_)
  exact h p e RM s m ar below meth c H locs cells slots Q ls2 hy cx sx wl (lok_sto (out_cat sx.2.2) rfl hs hl) (hs.1.trans hll) rk
theorem ms_astore_nN {n : Fin 4} {L2 : List Value} (hd : decode (mCd y) pc = .ok (.astore_n n, 1)) (hs : stoR .null 1 n.val L L2) (h : mj l b tS D dA i9 a9 y (pc + 1) L2 S I A B P R) : mj l b tS D dA i9 a9 y pc L (.null :: S) I A B P R := by
  intro p e RM s m ar below meth c H locs cells slots Q ls hy cx sx wl lo hll rk
  refine lv_astore_nN cx.1 cx.2.1 hd rfl (lok_has lo) (by have := hs.2.1; omega) rfl (fun ls2 hl => ?_)
  exact h p e RM s m ar below meth c H locs cells slots Q ls2 hy cx sx wl (lok_sto (out_cat sx.2.2) rfl hs hl) (hs.1.trans hll) rk
theorem ms_iinc {n : Nat} {d : Int} {x v : Int32} {L2 : List Value} (hd : decode (mCd y) pc = .ok (.iinc n d, 3)) (hL : L[n]? = some (.int x)) (hv : x + Int32.ofInt d = v) (hs : stoR (.int v) 1 n L L2) (h : mj l b tS D dA i9 a9 y (pc + 3) L2 S I A B P R) : mj l b tS D dA i9 a9 y pc L S I A B P R := by
  intro p e RM s m ar below meth c H locs cells slots Q ls hy cx sx wl lo hll rk
  obtain ⟨k, hk⟩ := List.getElem?_of_mem (lokL_mem (b := b) (tS := tS) hL (fun f q => by cases q))
  refine lv_iinc (k := k) (v := v) cx.1 cx.2.1 hd (lok_has lo) hk hv (by have := hs.2.1; omega) rfl (fun ls2 hl => ?_)
  exact h p e RM s m ar below meth c H locs cells slots Q ls2 hy cx sx wl (lok_sto (out_cat sx.2.2) rfl hs hl) (hs.1.trans hll) rk
theorem ms_iadd {x z : Int32} (hd : decode (mCd y) pc = .ok (.iadd, 1)) (h : mj l b tS D dA i9 a9 y (pc + 1) L (.int (x + z) :: S) I A B P R) : mj l b tS D dA i9 a9 y pc L (.int z :: .int x :: S) I A B P R := by
  intro p e RM s m ar below meth c H locs cells slots Q ls hy cx sx wl lo hll rk
  exact lv_iadd cx.1 cx.2.1 hd (h p e RM s m ar below meth c H locs cells slots Q ls hy cx sx wl lo hll rk)
theorem ms_isub {x z : Int32} (hd : decode (mCd y) pc = .ok (.isub, 1)) (h : mj l b tS D dA i9 a9 y (pc + 1) L (.int (x - z) :: S) I A B P R) : mj l b tS D dA i9 a9 y pc L (.int z :: .int x :: S) I A B P R := by
  intro p e RM s m ar below meth c H locs cells slots Q ls hy cx sx wl lo hll rk
  exact lv_isub cx.1 cx.2.1 hd (h p e RM s m ar below meth c H locs cells slots Q ls hy cx sx wl lo hll rk)
theorem ms_imul {x z : Int32} (hd : decode (mCd y) pc = .ok (.imul, 1)) (h : mj l b tS D dA i9 a9 y (pc + 1) L (.int (x * z) :: S) I A B P R) : mj l b tS D dA i9 a9 y pc L (.int z :: .int x :: S) I A B P R := by
  intro p e RM s m ar below meth c H locs cells slots Q ls hy cx sx wl lo hll rk
  exact lv_imul cx.1 cx.2.1 hd (h p e RM s m ar below meth c H locs cells slots Q ls hy cx sx wl lo hll rk)
theorem ms_iand {x z : Int32} (hd : decode (mCd y) pc = .ok (.iand, 1)) (h : mj l b tS D dA i9 a9 y (pc + 1) L (.int (x &&& z) :: S) I A B P R) : mj l b tS D dA i9 a9 y pc L (.int z :: .int x :: S) I A B P R := by
  intro p e RM s m ar below meth c H locs cells slots Q ls hy cx sx wl lo hll rk
  exact lv_iand cx.1 cx.2.1 hd (h p e RM s m ar below meth c H locs cells slots Q ls hy cx sx wl lo hll rk)
theorem ms_ishr {x z : Int32} (hd : decode (mCd y) pc = .ok (.ishr, 1)) (h : mj l b tS D dA i9 a9 y (pc + 1) L (.int (x >>> (z &&& 31)) :: S) I A B P R) : mj l b tS D dA i9 a9 y pc L (.int z :: .int x :: S) I A B P R := by
  intro p e RM s m ar below meth c H locs cells slots Q ls hy cx sx wl lo hll rk
  exact lv_ishr cx.1 cx.2.1 hd (h p e RM s m ar below meth c H locs cells slots Q ls hy cx sx wl lo hll rk)
theorem ms_idiv {x z : Int32} (hd : decode (mCd y) pc = .ok (.idiv, 1)) (hn : ¬ z = 0) (h : mj l b tS D dA i9 a9 y (pc + 1) L (.int (x / z) :: S) I A B P R) : mj l b tS D dA i9 a9 y pc L (.int z :: .int x :: S) I A B P R := by
  intro p e RM s m ar below meth c H locs cells slots Q ls hy cx sx wl lo hll rk
  exact lv_idiv cx.1 cx.2.1 hd hn (h p e RM s m ar below meth c H locs cells slots Q ls hy cx sx wl lo hll rk)
theorem ms_irem {x z : Int32} (hd : decode (mCd y) pc = .ok (.irem, 1)) (hn : ¬ z = 0) (h : mj l b tS D dA i9 a9 y (pc + 1) L (.int (x - x / z * z) :: S) I A B P R) : mj l b tS D dA i9 a9 y pc L (.int z :: .int x :: S) I A B P R := by
  intro p e RM s m ar below meth c H locs cells slots Q ls hy cx sx wl lo hll rk
  exact lv_irem cx.1 cx.2.1 hd hn (h p e RM s m ar below meth c H locs cells slots Q ls hy cx sx wl lo hll rk)
theorem ms_ladd {x z : Int64} (hd : decode (mCd y) pc = .ok (.ladd, 1)) (h : mj l b tS D dA i9 a9 y (pc + 1) L (.long (x + z) :: S) I A B P R) : mj l b tS D dA i9 a9 y pc L (.long z :: .long x :: S) I A B P R := by
  intro p e RM s m ar below meth c H locs cells slots Q ls hy cx sx wl lo hll rk
  exact lv_ladd cx.1 cx.2.1 hd (h p e RM s m ar below meth c H locs cells slots Q ls hy cx sx wl lo hll rk)
theorem ms_lsub {x z : Int64} (hd : decode (mCd y) pc = .ok (.lsub, 1)) (h : mj l b tS D dA i9 a9 y (pc + 1) L (.long (x - z) :: S) I A B P R) : mj l b tS D dA i9 a9 y pc L (.long z :: .long x :: S) I A B P R := by
  intro p e RM s m ar below meth c H locs cells slots Q ls hy cx sx wl lo hll rk
  exact lv_lsub cx.1 cx.2.1 hd (h p e RM s m ar below meth c H locs cells slots Q ls hy cx sx wl lo hll rk)
theorem ms_lmul {x z : Int64} (hd : decode (mCd y) pc = .ok (.lmul, 1)) (h : mj l b tS D dA i9 a9 y (pc + 1) L (.long (x * z) :: S) I A B P R) : mj l b tS D dA i9 a9 y pc L (.long z :: .long x :: S) I A B P R := by
  intro p e RM s m ar below meth c H locs cells slots Q ls hy cx sx wl lo hll rk
  exact lv_lmul cx.1 cx.2.1 hd (h p e RM s m ar below meth c H locs cells slots Q ls hy cx sx wl lo hll rk)
theorem ms_ldiv {x z : Int64} (hd : decode (mCd y) pc = .ok (.ldiv, 1)) (hn : ¬ z = 0) (h : mj l b tS D dA i9 a9 y (pc + 1) L (.long (x / z) :: S) I A B P R) : mj l b tS D dA i9 a9 y pc L (.long z :: .long x :: S) I A B P R := by
  intro p e RM s m ar below meth c H locs cells slots Q ls hy cx sx wl lo hll rk
  exact lv_ldiv cx.1 cx.2.1 hd hn (h p e RM s m ar below meth c H locs cells slots Q ls hy cx sx wl lo hll rk)
theorem ms_lrem {x z : Int64} (hd : decode (mCd y) pc = .ok (.lrem, 1)) (hn : ¬ z = 0) (h : mj l b tS D dA i9 a9 y (pc + 1) L (.long (x - x / z * z) :: S) I A B P R) : mj l b tS D dA i9 a9 y pc L (.long z :: .long x :: S) I A B P R := by
  intro p e RM s m ar below meth c H locs cells slots Q ls hy cx sx wl lo hll rk
  exact lv_lrem cx.1 cx.2.1 hd hn (h p e RM s m ar below meth c H locs cells slots Q ls hy cx sx wl lo hll rk)
theorem ms_lneg {x : Int64} (hd : decode (mCd y) pc = .ok (.lneg, 1)) (h : mj l b tS D dA i9 a9 y (pc + 1) L (.long (-x) :: S) I A B P R) : mj l b tS D dA i9 a9 y pc L (.long x :: S) I A B P R := by
  intro p e RM s m ar below meth c H locs cells slots Q ls hy cx sx wl lo hll rk
  exact lv_lneg cx.1 cx.2.1 hd (h p e RM s m ar below meth c H locs cells slots Q ls hy cx sx wl lo hll rk)
theorem ms_i2l {x : Int32} (hd : decode (mCd y) pc = .ok (.i2l, 1)) (h : mj l b tS D dA i9 a9 y (pc + 1) L (.long x.toInt64 :: S) I A B P R) : mj l b tS D dA i9 a9 y pc L (.int x :: S) I A B P R := by
  intro p e RM s m ar below meth c H locs cells slots Q ls hy cx sx wl lo hll rk
  exact lv_i2l cx.1 cx.2.1 hd rfl (h p e RM s m ar below meth c H locs cells slots Q ls hy cx sx wl lo hll rk)
theorem ms_l2i {x : Int64} (hd : decode (mCd y) pc = .ok (.l2i, 1)) (h : mj l b tS D dA i9 a9 y (pc + 1) L (.int x.toInt32 :: S) I A B P R) : mj l b tS D dA i9 a9 y pc L (.long x :: S) I A B P R := by
  intro p e RM s m ar below meth c H locs cells slots Q ls hy cx sx wl lo hll rk
  exact lv_l2i cx.1 cx.2.1 hd rfl (h p e RM s m ar below meth c H locs cells slots Q ls hy cx sx wl lo hll rk)
theorem ms_i2b {x : Int32} (hd : decode (mCd y) pc = .ok (.i2b, 1)) (h : mj l b tS D dA i9 a9 y (pc + 1) L (.int x.toInt8.toInt32 :: S) I A B P R) : mj l b tS D dA i9 a9 y pc L (.int x :: S) I A B P R := by
  intro p e RM s m ar below meth c H locs cells slots Q ls hy cx sx wl lo hll rk
  exact lv_i2b cx.1 cx.2.1 hd rfl (h p e RM s m ar below meth c H locs cells slots Q ls hy cx sx wl lo hll rk)
theorem ms_i2c {x : Int32} (hd : decode (mCd y) pc = .ok (.i2c, 1)) (h : mj l b tS D dA i9 a9 y (pc + 1) L (.int (x.toUInt32 % 65536).toInt32 :: S) I A B P R) : mj l b tS D dA i9 a9 y pc L (.int x :: S) I A B P R := by
  intro p e RM s m ar below meth c H locs cells slots Q ls hy cx sx wl lo hll rk
  exact lv_i2c cx.1 cx.2.1 hd rfl (h p e RM s m ar below meth c H locs cells slots Q ls hy cx sx wl lo hll rk)
theorem ms_dup {v : Value} (hd : decode (mCd y) pc = .ok (.dup, 1)) (hv : v.category = 1) (h : mj l b tS D dA i9 a9 y (pc + 1) L (v :: v :: S) I A B P R) : mj l b tS D dA i9 a9 y pc L (v :: S) I A B P R := by
  intro p e RM s m ar below meth c H locs cells slots Q ls hy cx sx wl lo hll rk
  exact lv_dup cx.1 cx.2.1 hd ((tr_cat (out_cat sx.2.2) v).trans hv) (h p e RM s m ar below meth c H locs cells slots Q ls hy cx sx wl lo hll rk)
theorem ms_dup2 {x : Int32} {k : Nat} (hd : decode (mCd y) pc = .ok (.dup2, 1)) (h : mj l b tS D dA i9 a9 y (pc + 1) L (.int x :: .ref k :: .int x :: .ref k :: S) I A B P R) : mj l b tS D dA i9 a9 y pc L (.int x :: .ref k :: S) I A B P R := by
  intro p e RM s m ar below meth c H locs cells slots Q ls hy cx sx wl lo hll rk
  exact lv_dup2_11 cx.1 cx.2.1 hd rfl rfl (h p e RM s m ar below meth c H locs cells slots Q ls hy cx sx wl lo hll rk)
theorem ms_pop {x : Int32} (hd : decode (mCd y) pc = .ok (.pop, 1)) (h : mj l b tS D dA i9 a9 y (pc + 1) L S I A B P R) : mj l b tS D dA i9 a9 y pc L (.int x :: S) I A B P R := by
  intro p e RM s m ar below meth c H locs cells slots Q ls hy cx sx wl lo hll rk
  exact lv_pop cx.1 cx.2.1 hd rfl (h p e RM s m ar below meth c H locs cells slots Q ls hy cx sx wl lo hll rk)
theorem ms_pop2 {x : Int64} (hd : decode (mCd y) pc = .ok (.pop2, 1)) (h : mj l b tS D dA i9 a9 y (pc + 1) L S I A B P R) : mj l b tS D dA i9 a9 y pc L (.long x :: S) I A B P R := by
  intro p e RM s m ar below meth c H locs cells slots Q ls hy cx sx wl lo hll rk
  exact lv_pop2_2 cx.1 cx.2.1 hd rfl (h p e RM s m ar below meth c H locs cells slots Q ls hy cx sx wl lo hll rk)
theorem ms_goto {off : Int} {tg : Nat} (hd : decode (mCd y) pc = .ok (.goto off, 3)) (ht : (pc : Int) + off = (tg : Int)) (h : mj l b tS D dA i9 a9 y tg L S I A B P R) : mj l b tS D dA i9 a9 y pc L S I A B P R := by
  intro p e RM s m ar below meth c H locs cells slots Q ls hy cx sx wl lo hll rk
  exact lv_goto cx.1 cx.2.1 hd ht (h p e RM s m ar below meth c H locs cells slots Q ls hy cx sx wl lo hll rk)
theorem ms_if_eq {x : Int32} {off : Int} {tg : Nat} (hd : decode (mCd y) pc = .ok (.ifCond .eq off, 3)) (ht : (pc : Int) + off = (tg : Int)) (h : (x = 0 → mj l b tS D dA i9 a9 y tg L S I A B P R) ∧ (¬ x = 0 → mj l b tS D dA i9 a9 y (pc + 3) L S I A B P R)) : mj l b tS D dA i9 a9 y pc L (.int x :: S) I A B P R := by
  intro p e RM s m ar below meth c H locs cells slots Q ls hy cx sx wl lo hll rk
  exact lv_if_eq cx.1 cx.2.1 hd ht (fun q => h.1 q p e RM s m ar below meth c H locs cells slots Q ls hy cx sx wl lo hll rk) (fun q => h.2 q p e RM s m ar below meth c H locs cells slots Q ls hy cx sx wl lo hll rk)
theorem ms_icmp_eq {x z : Int32} {off : Int} {tg : Nat} (hd : decode (mCd y) pc = .ok (.if_icmp .eq off, 3)) (ht : (pc : Int) + off = (tg : Int)) (h : (x = z → mj l b tS D dA i9 a9 y tg L S I A B P R) ∧ (¬ x = z → mj l b tS D dA i9 a9 y (pc + 3) L S I A B P R)) : mj l b tS D dA i9 a9 y pc L (.int z :: .int x :: S) I A B P R := by
  intro p e RM s m ar below meth c H locs cells slots Q ls hy cx sx wl lo hll rk
  exact lv_icmp_eq cx.1 cx.2.1 hd ht (fun q => h.1 q p e RM s m ar below meth c H locs cells slots Q ls hy cx sx wl lo hll rk) (fun q => h.2 q p e RM s m ar below meth c H locs cells slots Q ls hy cx sx wl lo hll rk)
theorem ms_if_ne {x : Int32} {off : Int} {tg : Nat} (hd : decode (mCd y) pc = .ok (.ifCond .ne off, 3)) (ht : (pc : Int) + off = (tg : Int)) (h : (¬ x = 0 → mj l b tS D dA i9 a9 y tg L S I A B P R) ∧ (x = 0 → mj l b tS D dA i9 a9 y (pc + 3) L S I A B P R)) : mj l b tS D dA i9 a9 y pc L (.int x :: S) I A B P R := by
  intro p e RM s m ar below meth c H locs cells slots Q ls hy cx sx wl lo hll rk
  exact lv_if_ne cx.1 cx.2.1 hd ht (fun q => h.1 q p e RM s m ar below meth c H locs cells slots Q ls hy cx sx wl lo hll rk) (fun q => h.2 q p e RM s m ar below meth c H locs cells slots Q ls hy cx sx wl lo hll rk)
theorem ms_icmp_ne {x z : Int32} {off : Int} {tg : Nat} (hd : decode (mCd y) pc = .ok (.if_icmp .ne off, 3)) (ht : (pc : Int) + off = (tg : Int)) (h : (¬ x = z → mj l b tS D dA i9 a9 y tg L S I A B P R) ∧ (x = z → mj l b tS D dA i9 a9 y (pc + 3) L S I A B P R)) : mj l b tS D dA i9 a9 y pc L (.int z :: .int x :: S) I A B P R := by
  intro p e RM s m ar below meth c H locs cells slots Q ls hy cx sx wl lo hll rk
  exact lv_icmp_ne cx.1 cx.2.1 hd ht (fun q => h.1 q p e RM s m ar below meth c H locs cells slots Q ls hy cx sx wl lo hll rk) (fun q => h.2 q p e RM s m ar below meth c H locs cells slots Q ls hy cx sx wl lo hll rk)
theorem ms_if_lt {x : Int32} {off : Int} {tg : Nat} (hd : decode (mCd y) pc = .ok (.ifCond .lt off, 3)) (ht : (pc : Int) + off = (tg : Int)) (h : (x < 0 → mj l b tS D dA i9 a9 y tg L S I A B P R) ∧ (¬ x < 0 → mj l b tS D dA i9 a9 y (pc + 3) L S I A B P R)) : mj l b tS D dA i9 a9 y pc L (.int x :: S) I A B P R := by
  intro p e RM s m ar below meth c H locs cells slots Q ls hy cx sx wl lo hll rk
  exact lv_if_lt cx.1 cx.2.1 hd ht (fun q => h.1 q p e RM s m ar below meth c H locs cells slots Q ls hy cx sx wl lo hll rk) (fun q => h.2 q p e RM s m ar below meth c H locs cells slots Q ls hy cx sx wl lo hll rk)
theorem ms_icmp_lt {x z : Int32} {off : Int} {tg : Nat} (hd : decode (mCd y) pc = .ok (.if_icmp .lt off, 3)) (ht : (pc : Int) + off = (tg : Int)) (h : (x < z → mj l b tS D dA i9 a9 y tg L S I A B P R) ∧ (¬ x < z → mj l b tS D dA i9 a9 y (pc + 3) L S I A B P R)) : mj l b tS D dA i9 a9 y pc L (.int z :: .int x :: S) I A B P R := by
  intro p e RM s m ar below meth c H locs cells slots Q ls hy cx sx wl lo hll rk
  exact lv_icmp_lt cx.1 cx.2.1 hd ht (fun q => h.1 q p e RM s m ar below meth c H locs cells slots Q ls hy cx sx wl lo hll rk) (fun q => h.2 q p e RM s m ar below meth c H locs cells slots Q ls hy cx sx wl lo hll rk)
theorem ms_if_ge {x : Int32} {off : Int} {tg : Nat} (hd : decode (mCd y) pc = .ok (.ifCond .ge off, 3)) (ht : (pc : Int) + off = (tg : Int)) (h : (0 ≤ x → mj l b tS D dA i9 a9 y tg L S I A B P R) ∧ (¬ 0 ≤ x → mj l b tS D dA i9 a9 y (pc + 3) L S I A B P R)) : mj l b tS D dA i9 a9 y pc L (.int x :: S) I A B P R := by
  intro p e RM s m ar below meth c H locs cells slots Q ls hy cx sx wl lo hll rk
  exact lv_if_ge cx.1 cx.2.1 hd ht (fun q => h.1 q p e RM s m ar below meth c H locs cells slots Q ls hy cx sx wl lo hll rk) (fun q => h.2 q p e RM s m ar below meth c H locs cells slots Q ls hy cx sx wl lo hll rk)
theorem ms_icmp_ge {x z : Int32} {off : Int} {tg : Nat} (hd : decode (mCd y) pc = .ok (.if_icmp .ge off, 3)) (ht : (pc : Int) + off = (tg : Int)) (h : (z ≤ x → mj l b tS D dA i9 a9 y tg L S I A B P R) ∧ (¬ z ≤ x → mj l b tS D dA i9 a9 y (pc + 3) L S I A B P R)) : mj l b tS D dA i9 a9 y pc L (.int z :: .int x :: S) I A B P R := by
  intro p e RM s m ar below meth c H locs cells slots Q ls hy cx sx wl lo hll rk
  exact lv_icmp_ge cx.1 cx.2.1 hd ht (fun q => h.1 q p e RM s m ar below meth c H locs cells slots Q ls hy cx sx wl lo hll rk) (fun q => h.2 q p e RM s m ar below meth c H locs cells slots Q ls hy cx sx wl lo hll rk)
theorem ms_if_gt {x : Int32} {off : Int} {tg : Nat} (hd : decode (mCd y) pc = .ok (.ifCond .gt off, 3)) (ht : (pc : Int) + off = (tg : Int)) (h : (0 < x → mj l b tS D dA i9 a9 y tg L S I A B P R) ∧ (¬ 0 < x → mj l b tS D dA i9 a9 y (pc + 3) L S I A B P R)) : mj l b tS D dA i9 a9 y pc L (.int x :: S) I A B P R := by
  intro p e RM s m ar below meth c H locs cells slots Q ls hy cx sx wl lo hll rk
  exact lv_if_gt cx.1 cx.2.1 hd ht (fun q => h.1 q p e RM s m ar below meth c H locs cells slots Q ls hy cx sx wl lo hll rk) (fun q => h.2 q p e RM s m ar below meth c H locs cells slots Q ls hy cx sx wl lo hll rk)
theorem ms_icmp_gt {x z : Int32} {off : Int} {tg : Nat} (hd : decode (mCd y) pc = .ok (.if_icmp .gt off, 3)) (ht : (pc : Int) + off = (tg : Int)) (h : (z < x → mj l b tS D dA i9 a9 y tg L S I A B P R) ∧ (¬ z < x → mj l b tS D dA i9 a9 y (pc + 3) L S I A B P R)) : mj l b tS D dA i9 a9 y pc L (.int z :: .int x :: S) I A B P R := by
  intro p e RM s m ar below meth c H locs cells slots Q ls hy cx sx wl lo hll rk
  exact lv_icmp_gt cx.1 cx.2.1 hd ht (fun q => h.1 q p e RM s m ar below meth c H locs cells slots Q ls hy cx sx wl lo hll rk) (fun q => h.2 q p e RM s m ar below meth c H locs cells slots Q ls hy cx sx wl lo hll rk)
theorem ms_if_le {x : Int32} {off : Int} {tg : Nat} (hd : decode (mCd y) pc = .ok (.ifCond .le off, 3)) (ht : (pc : Int) + off = (tg : Int)) (h : (x ≤ 0 → mj l b tS D dA i9 a9 y tg L S I A B P R) ∧ (¬ x ≤ 0 → mj l b tS D dA i9 a9 y (pc + 3) L S I A B P R)) : mj l b tS D dA i9 a9 y pc L (.int x :: S) I A B P R := by
  intro p e RM s m ar below meth c H locs cells slots Q ls hy cx sx wl lo hll rk
  exact lv_if_le cx.1 cx.2.1 hd ht (fun q => h.1 q p e RM s m ar below meth c H locs cells slots Q ls hy cx sx wl lo hll rk) (fun q => h.2 q p e RM s m ar below meth c H locs cells slots Q ls hy cx sx wl lo hll rk)
theorem ms_icmp_le {x z : Int32} {off : Int} {tg : Nat} (hd : decode (mCd y) pc = .ok (.if_icmp .le off, 3)) (ht : (pc : Int) + off = (tg : Int)) (h : (x ≤ z → mj l b tS D dA i9 a9 y tg L S I A B P R) ∧ (¬ x ≤ z → mj l b tS D dA i9 a9 y (pc + 3) L S I A B P R)) : mj l b tS D dA i9 a9 y pc L (.int z :: .int x :: S) I A B P R := by
  intro p e RM s m ar below meth c H locs cells slots Q ls hy cx sx wl lo hll rk
  exact lv_icmp_le cx.1 cx.2.1 hd ht (fun q => h.1 q p e RM s m ar below meth c H locs cells slots Q ls hy cx sx wl lo hll rk) (fun q => h.2 q p e RM s m ar below meth c H locs cells slots Q ls hy cx sx wl lo hll rk)
theorem lgc_eq (x z : Int64) : lg_cmp x z = 0 ↔ x = z := by
  unfold lg_cmp
  by_cases h1 : z < x
  · simp [h1]
    exact fun q => by rw [q] at h1; exact absurd h1 Int64.lt_irrefl
  · by_cases h2 : x = z <;> simp [h1, h2]
theorem lgc_lt (x z : Int64) : lg_cmp x z < 0 ↔ x < z := by
  have h0 : ¬ (1 : Int32) < 0 := by decide
  have h3 : ¬ (0 : Int32) < 0 := by decide
  have h4 : (-1 : Int32) < 0 := by decide
  unfold lg_cmp
  by_cases h1 : z < x
  · simp only [h1, if_true]
    exact ⟨fun q => absurd q h0, fun q => absurd (Int64.lt_trans h1 q) Int64.lt_irrefl⟩
  · by_cases h2 : x = z
    · subst h2
      simp only [h1, if_false, if_true]
      exact ⟨fun q => absurd q h3, fun q => absurd q (by simp)⟩
    · simp only [h1, h2, if_false]
      refine ⟨fun _ => ?_, fun _ => h4⟩
      have := Int64.not_lt.mp h1
      exact Int64.lt_of_le_of_ne this h2
theorem lgc_gt (x z : Int64) : 0 < lg_cmp x z ↔ z < x := by
  have h0 : (0 : Int32) < 1 := by decide
  have h3 : ¬ (0 : Int32) < 0 := by decide
  have h4 : ¬ (0 : Int32) < -1 := by decide
  unfold lg_cmp
  by_cases h1 : z < x
  · simp only [h1, if_true]
    exact ⟨fun _ => trivial, fun _ => h0⟩
  · by_cases h2 : x = z
    · subst h2
      simp only [h1, if_false, if_true]
      exact ⟨fun q => absurd q h3, fun q => q.elim⟩
    · simp only [h1, h2, if_false]
      exact ⟨fun q => absurd q h4, fun q => q.elim⟩
theorem lgc_ge (x z : Int64) : 0 ≤ lg_cmp x z ↔ z ≤ x := by
  rw [← Int32.not_lt, lgc_lt, Int64.not_lt]
theorem lgc_le (x z : Int64) : lg_cmp x z ≤ 0 ↔ x ≤ z := by
  rw [← Int32.not_lt, lgc_gt, Int64.not_lt]
theorem ms_lcmp_eq {x z : Int64} {off : Int} {tg : Nat} (hd0 : decode (mCd y) pc = .ok (.lcmp, 1)) (hd : decode (mCd y) (pc + 1) = .ok (.ifCond .eq off, 3)) (ht : ((pc + 1 : Nat) : Int) + off = (tg : Int)) (h : (x = z → mj l b tS D dA i9 a9 y tg L S I A B P R) ∧ (¬ x = z → mj l b tS D dA i9 a9 y (pc + 4) L S I A B P R)) : mj l b tS D dA i9 a9 y pc L (.long z :: .long x :: S) I A B P R := by
  intro p e RM s m ar below meth c H locs cells slots Q ls hy cx sx wl lo hll rk
  refine W.lcmp cx.1 cx.2.1 hd0 ?_
  exact lv_if_eq cx.1 cx.2.1 hd ht (fun q => h.1 ((lgc_eq x z).mp q) p e RM s m ar below meth c H locs cells slots Q ls hy cx sx wl lo hll rk) (fun q => h.2 (fun e => q ((lgc_eq x z).mpr e)) p e RM s m ar below meth c H locs cells slots Q ls hy cx sx wl lo hll rk)
theorem ms_lcmp_ne {x z : Int64} {off : Int} {tg : Nat} (hd0 : decode (mCd y) pc = .ok (.lcmp, 1)) (hd : decode (mCd y) (pc + 1) = .ok (.ifCond .ne off, 3)) (ht : ((pc + 1 : Nat) : Int) + off = (tg : Int)) (h : (¬ x = z → mj l b tS D dA i9 a9 y tg L S I A B P R) ∧ (x = z → mj l b tS D dA i9 a9 y (pc + 4) L S I A B P R)) : mj l b tS D dA i9 a9 y pc L (.long z :: .long x :: S) I A B P R := by
  intro p e RM s m ar below meth c H locs cells slots Q ls hy cx sx wl lo hll rk
  refine W.lcmp cx.1 cx.2.1 hd0 ?_
  exact lv_if_ne cx.1 cx.2.1 hd ht (fun q => h.1 (fun e => q ((lgc_eq x z).mpr e)) p e RM s m ar below meth c H locs cells slots Q ls hy cx sx wl lo hll rk) (fun q => h.2 ((lgc_eq x z).mp q) p e RM s m ar below meth c H locs cells slots Q ls hy cx sx wl lo hll rk)
theorem ms_lcmp_lt {x z : Int64} {off : Int} {tg : Nat} (hd0 : decode (mCd y) pc = .ok (.lcmp, 1)) (hd : decode (mCd y) (pc + 1) = .ok (.ifCond .lt off, 3)) (ht : ((pc + 1 : Nat) : Int) + off = (tg : Int)) (h : (x < z → mj l b tS D dA i9 a9 y tg L S I A B P R) ∧ (¬ x < z → mj l b tS D dA i9 a9 y (pc + 4) L S I A B P R)) : mj l b tS D dA i9 a9 y pc L (.long z :: .long x :: S) I A B P R := by
  intro p e RM s m ar below meth c H locs cells slots Q ls hy cx sx wl lo hll rk
  refine W.lcmp cx.1 cx.2.1 hd0 ?_
  exact lv_if_lt cx.1 cx.2.1 hd ht (fun q => h.1 ((lgc_lt x z).mp q) p e RM s m ar below meth c H locs cells slots Q ls hy cx sx wl lo hll rk) (fun q => h.2 (fun e => q ((lgc_lt x z).mpr e)) p e RM s m ar below meth c H locs cells slots Q ls hy cx sx wl lo hll rk)
theorem ms_lcmp_ge {x z : Int64} {off : Int} {tg : Nat} (hd0 : decode (mCd y) pc = .ok (.lcmp, 1)) (hd : decode (mCd y) (pc + 1) = .ok (.ifCond .ge off, 3)) (ht : ((pc + 1 : Nat) : Int) + off = (tg : Int)) (h : (z ≤ x → mj l b tS D dA i9 a9 y tg L S I A B P R) ∧ (¬ z ≤ x → mj l b tS D dA i9 a9 y (pc + 4) L S I A B P R)) : mj l b tS D dA i9 a9 y pc L (.long z :: .long x :: S) I A B P R := by
  intro p e RM s m ar below meth c H locs cells slots Q ls hy cx sx wl lo hll rk
  refine W.lcmp cx.1 cx.2.1 hd0 ?_
  exact lv_if_ge cx.1 cx.2.1 hd ht (fun q => h.1 ((lgc_ge x z).mp q) p e RM s m ar below meth c H locs cells slots Q ls hy cx sx wl lo hll rk) (fun q => h.2 (fun e => q ((lgc_ge x z).mpr e)) p e RM s m ar below meth c H locs cells slots Q ls hy cx sx wl lo hll rk)
theorem ms_lcmp_gt {x z : Int64} {off : Int} {tg : Nat} (hd0 : decode (mCd y) pc = .ok (.lcmp, 1)) (hd : decode (mCd y) (pc + 1) = .ok (.ifCond .gt off, 3)) (ht : ((pc + 1 : Nat) : Int) + off = (tg : Int)) (h : (z < x → mj l b tS D dA i9 a9 y tg L S I A B P R) ∧ (¬ z < x → mj l b tS D dA i9 a9 y (pc + 4) L S I A B P R)) : mj l b tS D dA i9 a9 y pc L (.long z :: .long x :: S) I A B P R := by
  intro p e RM s m ar below meth c H locs cells slots Q ls hy cx sx wl lo hll rk
  refine W.lcmp cx.1 cx.2.1 hd0 ?_
  exact lv_if_gt cx.1 cx.2.1 hd ht (fun q => h.1 ((lgc_gt x z).mp q) p e RM s m ar below meth c H locs cells slots Q ls hy cx sx wl lo hll rk) (fun q => h.2 (fun e => q ((lgc_gt x z).mpr e)) p e RM s m ar below meth c H locs cells slots Q ls hy cx sx wl lo hll rk)
theorem ms_lcmp_le {x z : Int64} {off : Int} {tg : Nat} (hd0 : decode (mCd y) pc = .ok (.lcmp, 1)) (hd : decode (mCd y) (pc + 1) = .ok (.ifCond .le off, 3)) (ht : ((pc + 1 : Nat) : Int) + off = (tg : Int)) (h : (x ≤ z → mj l b tS D dA i9 a9 y tg L S I A B P R) ∧ (¬ x ≤ z → mj l b tS D dA i9 a9 y (pc + 4) L S I A B P R)) : mj l b tS D dA i9 a9 y pc L (.long z :: .long x :: S) I A B P R := by
  intro p e RM s m ar below meth c H locs cells slots Q ls hy cx sx wl lo hll rk
  refine W.lcmp cx.1 cx.2.1 hd0 ?_
  exact lv_if_le cx.1 cx.2.1 hd ht (fun q => h.1 ((lgc_le x z).mp q) p e RM s m ar below meth c H locs cells slots Q ls hy cx sx wl lo hll rk) (fun q => h.2 (fun e => q ((lgc_le x z).mpr e)) p e RM s m ar below meth c H locs cells slots Q ls hy cx sx wl lo hll rk)
theorem ms_ifnull {k : Nat} {off : Int} (hd : decode (mCd y) pc = .ok (.ifnull off, 3)) (h : mj l b tS D dA i9 a9 y (pc + 3) L S I A B P R) : mj l b tS D dA i9 a9 y pc L (.ref k :: S) I A B P R := by
  intro p e RM s m ar below meth c H locs cells slots Q ls hy cx sx wl lo hll rk
  exact lv_ifnull cx.1 cx.2.1 hd (h p e RM s m ar below meth c H locs cells slots Q ls hy cx sx wl lo hll rk)
theorem ms_ifnullN {off : Int} {tg : Nat} (hd : decode (mCd y) pc = .ok (.ifnull off, 3)) (ht : (pc : Int) + off = (tg : Int)) (h : mj l b tS D dA i9 a9 y tg L S I A B P R) : mj l b tS D dA i9 a9 y pc L (.null :: S) I A B P R := by
  intro p e RM s m ar below meth c H locs cells slots Q ls hy cx sx wl lo hll rk
  exact lv_ifnullN cx.1 cx.2.1 hd ht (h p e RM s m ar below meth c H locs cells slots Q ls hy cx sx wl lo hll rk)
theorem ms_ifnonnull {k : Nat} {off : Int} {tg : Nat} (hd : decode (mCd y) pc = .ok (.ifnonnull off, 3)) (ht : (pc : Int) + off = (tg : Int)) (h : mj l b tS D dA i9 a9 y tg L S I A B P R) : mj l b tS D dA i9 a9 y pc L (.ref k :: S) I A B P R := by
  intro p e RM s m ar below meth c H locs cells slots Q ls hy cx sx wl lo hll rk
  exact lv_ifnonnull cx.1 cx.2.1 hd ht (h p e RM s m ar below meth c H locs cells slots Q ls hy cx sx wl lo hll rk)
theorem ms_ifnonnullN {off : Int} (hd : decode (mCd y) pc = .ok (.ifnonnull off, 3)) (h : mj l b tS D dA i9 a9 y (pc + 3) L S I A B P R) : mj l b tS D dA i9 a9 y pc L (.null :: S) I A B P R := by
  intro p e RM s m ar below meth c H locs cells slots Q ls hy cx sx wl lo hll rk
  exact lv_ifnonnullN cx.1 cx.2.1 hd (h p e RM s m ar below meth c H locs cells slots Q ls hy cx sx wl lo hll rk)
end INS
