/-! the machine's own judgement obeys the small machine: part 7, any instruction, any run (written by wip/whole/gen7.py) -/
theorem ok_dec {y pc nx tg ax : Nat} {i : Jvm.ClassFile.Instr} (ok : okE y pc (i, nx, tg, ax) = true) (hlc : isLc i = false) (n : Nat) (hn : ilen i = n) (h0 : n ≠ 0) : decode (mCd y) pc = .ok (i, n) ∧ nx = pc + n ∧ okX y pc i tg ax = true := by
  unfold okE at ok
  rw [hlc] at ok
  simp only [cond_false, Bool.and_eq_true, decide_eq_true_eq, Bool.or_eq_true] at ok
  obtain ⟨h1, h2, h3, h4⟩ := ok
  have h2 := Nat.le_of_ble_eq_true h2
  have h3 : nx - pc = n := by
    rcases h3 with h3 | h3
    · exact absurd ((Nat.eq_of_beq_eq_true h3).symm.trans hn).symm h0
    · exact (Nat.eq_of_beq_eq_true h3).trans hn
  rw [h3] at h1
  exact ⟨h1, by omega, h4⟩
theorem ok_sw {y pc nx tg ax : Nat} {i : Jvm.ClassFile.Instr} (ok : okE y pc (i, nx, tg, ax) = true) (hlc : isLc i = false) : decode (mCd y) pc = .ok (i, nx - pc) ∧ okX y pc i tg ax = true := by
  unfold okE at ok
  rw [hlc] at ok
  simp only [cond_false, Bool.and_eq_true, decide_eq_true_eq] at ok
  exact ⟨ok.1, ok.2.2.2⟩
theorem ok_lc {y pc nx tg ax : Nat} (ok : okE y pc (.lcmp, nx, tg, ax) = true) : decode (mCd y) pc = .ok (.lcmp, 1) ∧ nx = pc + 4 ∧ ∃ (c : Jvm.ClassFile.Cond) (off : Int), decode (mCd y) (pc + 1) = .ok (.ifCond c off, 3) ∧ ((pc + 1 : Nat) : Int) + off = (tg : Int) ∧ cndN c = ax := by
  have ok : (decide (decode (mCd y) pc = .ok (.lcmp, 1)) && (Nat.beq nx (pc + 4) && (match decode (mCd y) (pc + 1) with
        | .ok (.ifCond c off, 3) => decide (((pc + 1 : Nat) : Int) + off = (tg : Int)) && Nat.beq (cndN c) ax
        | _ => false))) = true := ok
  simp only [Bool.and_eq_true, decide_eq_true_eq] at ok
  obtain ⟨h1, h2, h3⟩ := ok
  refine ⟨h1, Nat.eq_of_beq_eq_true h2, ?_⟩
  split at h3
  · rename_i c off hd
    simp only [Bool.and_eq_true, decide_eq_true_eq] at h3
    exact ⟨c, off, hd, h3.1, Nat.eq_of_beq_eq_true h3.2⟩
  · cases h3
theorem any3_inv {l : List (Nat × Nat × Nat)} {a b c : Nat} (h : any3 l a b c = true) : (a, b, c) ∈ l := by
  obtain ⟨q, hq, h⟩ := List.any_eq_true.mp h
  simp only [Bool.and_eq_true] at h
  obtain ⟨⟨h1, h2⟩, h3⟩ := h
  have e1 := Nat.eq_of_beq_eq_true h1
  have e2 := Nat.eq_of_beq_eq_true h2
  have e3 := Nat.eq_of_beq_eq_true h3
  obtain ⟨a', b', c'⟩ := q
  simp only at e1 e2 e3
  subst e1; subst e2; subst e3
  exact hq
theorem any4_inv {l : List (Nat × Nat × Nat × Nat)} {a b c : Nat} (h : any4 l a b c = true) : ∃ d, (a, b, c, d) ∈ l := by
  obtain ⟨q, hq, h⟩ := List.any_eq_true.mp h
  simp only [Bool.and_eq_true] at h
  obtain ⟨⟨h1, h2⟩, h3⟩ := h
  have e1 := Nat.eq_of_beq_eq_true h1
  have e2 := Nat.eq_of_beq_eq_true h2
  have e3 := Nat.eq_of_beq_eq_true h3
  obtain ⟨a', b', c', d'⟩ := q
  simp only at e1 e2 e3
  subst e1; subst e2; subst e3
  exact ⟨_, hq⟩
theorem any5_inv {l : List (Nat × Nat × Nat × Nat × Nat)} {a b c d : Nat} (h : any5 l a b c d = true) : ∃ e, (a, b, c, d, e) ∈ l := by
  obtain ⟨q, hq, h⟩ := List.any_eq_true.mp h
  simp only [Bool.and_eq_true] at h
  obtain ⟨⟨⟨h1, h2⟩, h4⟩, h3⟩ := h
  have e1 := Nat.eq_of_beq_eq_true h1
  have e2 := Nat.eq_of_beq_eq_true h2
  have e3 := Nat.eq_of_beq_eq_true h3
  have e4 := Nat.eq_of_beq_eq_true h4
  obtain ⟨a', b', c', d', f'⟩ := q
  simp only at e1 e2 e3 e4
  subst e1; subst e2; subst e3; subst e4
  exact ⟨_, hq⟩
theorem law_own : nth "" mOW (mOw 378) = (mNm 378).cls ∧ rtc (mRt 378) = (mr 378).2.1 := by decide +kernel
theorem own_eq {y : Nat} (hy : y < 379) : nth "" mOW (mOw y) = (mNm y).cls := by
  by_cases h : y < 378
  · exact (okY_parts (okY_all h)).2.2.1
  · have e : y = 378 := by omega
    subst e
    exact law_own.1
theorem rt_eq {y : Nat} (hy : y < 379) : rtc (mRt y) = (mr y).2.1 := by
  by_cases h : y < 378
  · exact (okY_parts (okY_all h)).2.2.2.1
  · have e : y = 378 := by omega
    subst e
    exact law_own.2
theorem FL_of {y n c j : Nat} (hy : y < 379) (h : any5 mFL (mOw y) n c j = true) : FL y n c j := by
  obtain ⟨hh, hm⟩ := any5_inv h
  have h1 := List.all_eq_true.mp mFL_r _ hm
  simp only at h1
  cases hq : vwCl[c]? with
  | none => rw [hq] at h1; cases h1
  | some q =>
    obtain ⟨C, T, N⟩ := q
    rw [hq] at h1
    simp only [Bool.and_eq_true, decide_eq_true_eq] at h1
    refine ⟨(C, T, N), hq, Nat.le_of_ble_eq_true h1.1.1, h1.2, ?_⟩
    have := inT_mem h1.1.2
    rw [own_eq hy] at this
    exact this
theorem CL_of {y n ax : Nat} (hy : y < 379) (h : okC y (mOw y) n ax = true) : CL y n ax := by
  unfold okC at h
  simp only [Bool.and_eq_true] at h
  obtain ⟨h1, h2, h3⟩ := h
  obtain ⟨hh, hm⟩ := any4_inv h1
  have h4 := List.all_eq_true.mp mML_r _ hm
  simp only [Bool.and_eq_true] at h4
  have h5 := inT_mem h4.2
  rw [own_eq hy] at h5
  exact ⟨Nat.le_of_ble_eq_true h4.1, h5, Nat.le_of_ble_eq_true h2, Nat.le_of_ble_eq_true h3⟩
theorem CI_of {y n ax : Nat} (hy : y < 379) (h : any4 mCI (mOw y) n ax = true) : Cond.constant (mNm y).cls n (kI ax) ∈ mT := by
  obtain ⟨hh, hm⟩ := any4_inv h
  have h5 := inT_mem (List.all_eq_true.mp mCI_r _ hm)
  rwa [own_eq hy] at h5
theorem CJ_of {y n ax : Nat} (hy : y < 379) (h : any4 mCL (mOw y) n ax = true) : Cond.constantLong (mNm y).cls n (kL ax) ∈ mT := by
  obtain ⟨hh, hm⟩ := any4_inv h
  have h5 := inT_mem (List.all_eq_true.mp mCL_r _ hm)
  rwa [own_eq hy] at h5
theorem SF_of {y n ax : Nat} (hy : y < 379) (h : any4 mSF (mOw y) n ax = true) : Cond.fieldLink (mNm y).cls n (mSW ax).1 (mSW ax).2.1 (mSW ax).2.2 ∈ mT := by
  obtain ⟨hh, hm⟩ := any4_inv h
  have h5 := inT_mem (List.all_eq_true.mp mSF_r _ hm)
  rwa [own_eq hy] at h5
theorem MM_of {y n ax : Nat} (hy : y < 379) (h : any4 mMM (mOw y) n ax = true) : Cond.methodLink (mNm y).cls n (mMN ax) ∈ mT := by
  obtain ⟨hh, hm⟩ := any4_inv h
  have h5 := inT_mem (List.all_eq_true.mp mMM_r _ hm)
  rwa [own_eq hy] at h5
theorem AC_of {y n : Nat} (hy : y < 379) (h : mAC.any (fun q => Nat.beq q.2.1 n && Nat.beq q.1 (mOw y)) = true) : Cond.methodLink (mNm y).cls n arraycopyName ∈ mT := by
  obtain ⟨q, hq, h⟩ := List.any_eq_true.mp h
  simp only [Bool.and_eq_true] at h
  have h5 := inT_mem (List.all_eq_true.mp mAC_r _ hq)
  rw [Nat.eq_of_beq_eq_true h.1, Nat.eq_of_beq_eq_true h.2] at h5
  rwa [own_eq hy] at h5
theorem mMM_le : mMM.all (fun q => Nat.ble q.2.2.1 9006) = true := by decide +kernel
theorem mST_r : mST.all (fun q => Nat.blt q.2.2 14) = true := by decide +kernel
theorem ST_of {y n t : Nat} (hy : y < 379) (h : any3 mST (mOw y) n t = true) : (mOw y, n, t) ∈ mST ∧ t < 14 := by
  have h1 := any3_inv h
  exact ⟨h1, Nat.le_of_ble_eq_true (List.all_eq_true.mp mST_r _ h1)⟩
theorem i32_ofInt {v : Int} (h1 : -1000 ≤ v) (h2 : v ≤ 1000) : (Int32.ofInt v).toInt = v := by
  rw [Int32.toInt_ofInt]
  simp [Int.bmod]
  omega
theorem swP_tab {x : Int32} {dt : Nat} {k : Nat → Prop} {pc df : Int} (hdt : pc + df = (dt : Int)) : ∀ (offs : List Int) (v : Int), -1000 ≤ v → v + offs.length ≤ 1001 → swP x dt k (swL pc df v offs) → (∀ (j : Nat) (o : Int), offs[j]? = some o → x.toInt = v + j → k (pc + o).toNat) ∧ ((x.toInt < v ∨ v + offs.length ≤ x.toInt) → k dt)
  | [], v, _, _, h => ⟨fun j o hj => by simp at hj, fun _ => h⟩
  | o :: l, v, h1, h2, h => by
    simp only [List.length_cons] at h2
    by_cases hod : o = df
    · have h : swP x dt k (swL pc df (v + 1) l) := by
        have e : swL pc df v (o :: l) = swL pc df (v + 1) l := by simp [swL, hod]
        rwa [e] at h
      obtain ⟨i1, i2⟩ := swP_tab hdt l (v + 1) (by omega) (by omega) h
      refine ⟨fun j o2 hj hx => ?_, fun hx => i2 (by simp only [List.length_cons] at hx; omega)⟩
      cases j with
      | zero =>
        have e : o = o2 := by simpa using hj
        subst e
        subst hod
        rw [hdt]
        exact i2 (Or.inl (by omega))
      | succ j => exact i1 j o2 (by simpa using hj) (by omega)
    · have h : swP x dt k ((Int32.ofInt v, (pc + o).toNat) :: swL pc df (v + 1) l) := by
        have e : swL pc df v (o :: l) = (Int32.ofInt v, (pc + o).toNat) :: swL pc df (v + 1) l := by simp [swL, hod]
        rwa [e] at h
      obtain ⟨g1, g2⟩ := h
      have hv := i32_ofInt h1 (by omega)
      have hne : x.toInt ≠ v → ¬ x = Int32.ofInt v := fun q e => q (by rw [e, hv])
      refine ⟨fun j o2 hj hx => ?_, fun hx => ?_⟩
      · cases j with
        | zero =>
          have e : o = o2 := by simpa using hj
          subst e
          exact g1 (Int32.toInt_inj.mp (by rw [hv]; omega))
        | succ j => exact (swP_tab hdt l (v + 1) (by omega) (by omega) (g2 (hne (by omega)))).1 j o2 (by simpa using hj) (by omega)
      · simp only [List.length_cons] at hx
        exact (swP_tab hdt l (v + 1) (by omega) (by omega) (g2 (hne (by omega)))).2 (by omega)
theorem swP_look {x : Int32} {dt : Nat} {k : Nat → Prop} {pc df : Int} (hdt : pc + df = (dt : Int)) : ∀ (ps : List (Int × Int)), (∀ q ∈ ps, -1000 ≤ q.1 ∧ q.1 ≤ 1000 ∧ 0 ≤ pc + q.2) → swP x dt k (ps.map (fun q => (Int32.ofInt q.1, (pc + q.2).toNat))) → ∃ (off : Int) (tg : Nat), Op.lookupswitch.offset ps df x.toInt = off ∧ pc + off = (tg : Int) ∧ k tg
  | [], _, h => ⟨df, dt, rfl, hdt, h⟩
  | q :: l, hq, h => by
    obtain ⟨g1, g2⟩ := h
    obtain ⟨a, o⟩ := q
    obtain ⟨b1, b2, b3⟩ := hq (a, o) List.mem_cons_self
    have hv := i32_ofInt b1 b2
    rw [Op.lookupswitch.offset_cons]
    by_cases e : a = x.toInt
    · refine ⟨o, (pc + o).toNat, by rw [if_pos e], by simp only at b3; omega, g1 (Int32.toInt_inj.mp (by rw [hv]; exact e.symm))⟩
    · rw [if_neg e]
      exact swP_look hdt l (fun q h => hq q (List.mem_cons_of_mem _ h)) (g2 (fun z => e (by rw [z, hv])))
section ANY
variable {l : Launch} {b : Nat} {tS : Nat → Value} {D : va_G} {dA : Nat → ClassId} {i9 : Int32} {a9 : Nat → Int32} {y pc : Nat} {L S : List Value} {I A : mI} {B : mB} {P : mP} {R : mR}
theorem ms_ret {v : Option Value} (hR : R v I A B P) (hat : RetAt y pc v) : mj l b tS D dA i9 a9 y pc L (pushO v []) I A B P R := by
  intro p e RM s m ar below meth c H locs cells slots Q ls hy cx sx wl lo hll rk
  exact rk v I A B P H locs pc ls hR wl hat
theorem ms_tsw {d lo hi : Int} {offs : Array Int} {n dt : Nat} {x : Int32} {prs : List (Int32 × Nat)} (hd : decode (mCd y) pc = .ok (.tableswitch d lo hi offs, n)) (h1 : (pc : Int) + d = (dt : Int)) (h2 : swL pc d lo offs.toList = prs) (h3 : (offs.size : Int) = hi - lo + 1) (h4 : -1000 ≤ lo) (h5 : hi ≤ 1000) (h6 : offs.toList.all (fun o => decide (0 ≤ (pc : Int) + o)) = true) (h : swP x dt (fun t => mj l b tS D dA i9 a9 y t L S I A B P R) prs) : mj l b tS D dA i9 a9 y pc L (.int x :: S) I A B P R := by
  intro p e RM s m ar below meth c H locs cells slots Q ls hy cx sx wl lo_ hll rk
  rw [← h2] at h
  obtain ⟨i1, i2⟩ := swP_tab h1 offs.toList lo h4 (by simp; omega) h
  by_cases hx : x.toInt < lo ∨ hi < x.toInt
  · exact lv_tableOut cx.1 cx.2.1 hd hx h1 (i2 (by simp; omega) p e RM s m ar below meth c H locs cells slots Q ls hy cx sx wl lo_ hll rk)
  · have hj : (x.toInt - lo).toNat < offs.size := by omega
    have ho : offs.toList[(x.toInt - lo).toNat]? = some offs[(x.toInt - lo).toNat] := by simp [hj]
    have hp : 0 ≤ (pc : Int) + offs[(x.toInt - lo).toNat] := of_decide_eq_true (List.all_eq_true.mp h6 _ (List.mem_of_getElem? ho))
    exact lv_tableIn (off := offs[(x.toInt - lo).toNat]) (tgt := ((pc : Int) + offs[(x.toInt - lo).toNat]).toNat) cx.1 cx.2.1 hd (by omega) (by omega) (by simp [hj]) (by omega) (i1 _ _ ho (by omega) p e RM s m ar below meth c H locs cells slots Q ls hy cx sx wl lo_ hll rk)
theorem ms_lsw {d : Int} {ps : Array (Int × Int)} {n dt : Nat} {x : Int32} {prs : List (Int32 × Nat)} (hd : decode (mCd y) pc = .ok (.lookupswitch d ps, n)) (h1 : (pc : Int) + d = (dt : Int)) (h2 : ps.toList.map (fun q => (Int32.ofInt q.1, ((pc : Int) + q.2).toNat)) = prs) (h3 : ∀ q ∈ ps.toList, -1000 ≤ q.1 ∧ q.1 ≤ 1000 ∧ 0 ≤ (pc : Int) + q.2) (h4 : (ps.toList.zip (ps.toList.drop 1)).all (fun (a, next) => a.1 < next.1) = true) (h : swP x dt (fun t => mj l b tS D dA i9 a9 y t L S I A B P R) prs) : mj l b tS D dA i9 a9 y pc L (.int x :: S) I A B P R := by
  intro p e RM s m ar below meth c H locs cells slots Q ls hy cx sx wl lo hll rk
  rw [← h2] at h
  obtain ⟨off, tg, e1, e2, hk⟩ := swP_look h1 ps.toList h3 h
  exact lv_lookup cx.1 cx.2.1 hd h4 e1 e2 (hk p e RM s m ar below meth c H locs cells slots Q ls hy cx sx wl lo hll rk)
theorem ms_step {C : mC} {K : mK} (hy : y < 379) (e : mMI) (ok : okE y pc e = true) (hst : st1 C (mr y).2.1 e L S I A B P K R) (hK : ∀ pc' L' S' I' A' B' P', K pc' L' S' I' A' B' P' → mj l b tS D dA i9 a9 y pc' L' S' I' A' B' P' R) (hC : ∀ y' args I A B P R', C y' args I A B P R' → ∃ L0, mkR y' args L0 ∧ mj l b tS D dA i9 a9 y' 0 L0 [] I A B P R') : mj l b tS D dA i9 a9 y pc L S I A B P R := by
  obtain ⟨i, nx, tg, ax⟩ := e
  cases i with
  | iconst n =>
    obtain ⟨hd, rfl, hx⟩ := ok_dec ok rfl 1 rfl (by decide)
    have hst : kIc ax (fun x => K (pc + 1) L (.int x :: S) I A B P) := hst
    exact ms_iconst hd (of_decide_eq_true hx) (hK _ _ _ _ _ _ _ (kIc_eq hst))
  | bipush n =>
    obtain ⟨hd, rfl, hx⟩ := ok_dec ok rfl 2 rfl (by decide)
    have hst : kIc ax (fun x => K (pc + 2) L (.int x :: S) I A B P) := hst
    exact ms_bipush hd (of_decide_eq_true hx) (hK _ _ _ _ _ _ _ (kIc_eq hst))
  | sipush n =>
    obtain ⟨hd, rfl, hx⟩ := ok_dec ok rfl 3 rfl (by decide)
    have hst : kIc ax (fun x => K (pc + 3) L (.int x :: S) I A B P) := hst
    exact ms_sipush hd (of_decide_eq_true hx) (hK _ _ _ _ _ _ _ (kIc_eq hst))
  | lconst n =>
    obtain ⟨hd, rfl, hx⟩ := ok_dec ok rfl 1 rfl (by decide)
    have hst : kLc ax (fun x => K (pc + 1) L (.long x :: S) I A B P) := hst
    exact ms_lconst hd (of_decide_eq_true hx) (hK _ _ _ _ _ _ _ (kLc_eq hst))
  | aconst_null =>
    obtain ⟨hd, rfl, hx⟩ := ok_dec ok rfl 1 rfl (by decide)
    exact ms_null hd (hK _ _ _ _ _ _ _ hst)
  | ldc n =>
    obtain ⟨hd, rfl, hx⟩ := ok_dec ok rfl 2 rfl (by decide)
    have hx : (bif Nat.ble 1000 ax then (bif Nat.beq ax 9999 then true else any3 mST (mOw y) n (ax - 1000)) else any4 mCI (mOw y) n ax) = true := hx
    have hst : bif Nat.ble 1000 ax then (bif Nat.beq ax 9999 then False else K (pc + 2) L (.retAddr (ax - 999) :: S) I A B P) else kIc ax (fun x => K (pc + 2) L (.int x :: S) I A B P) := hst
    cases hb : Nat.ble 1000 ax with
    | false =>
      rw [hb] at hx hst
      have hst : kIc ax (fun x => K (pc + 2) L (.int x :: S) I A B P) := hst
      exact ms_ldc hd (CI_of hy hx) (hK _ _ _ _ _ _ _ (kIc_eq hst))
    | true =>
      rw [hb] at hx hst
      have hle := Nat.le_of_ble_eq_true hb
      cases hb2 : Nat.beq ax 9999 with
      | true =>
        rw [hb2] at hst
        exact hst.elim
      | false =>
        rw [hb2] at hx hst
        obtain ⟨h1, h2⟩ := ST_of hy hx
        have hst : K (pc + 2) L (.retAddr (1 + (ax - 1000)) :: S) I A B P := by
          rw [show 1 + (ax - 1000) = ax - 999 by omega]
          exact hst
        exact ms_ldcS (q := (mOw y, n, ax - 1000)) hd h1 (own_eq hy) rfl h2 (hK _ _ _ _ _ _ _ hst)
  | ldc_w n =>
    obtain ⟨hd, rfl, hx⟩ := ok_dec ok rfl 3 rfl (by decide)
    have hx : (bif Nat.ble 1000 ax then (bif Nat.beq ax 9999 then true else any3 mST (mOw y) n (ax - 1000)) else any4 mCI (mOw y) n ax) = true := hx
    have hst : bif Nat.ble 1000 ax then (bif Nat.beq ax 9999 then False else K (pc + 3) L (.retAddr (ax - 999) :: S) I A B P) else kIc ax (fun x => K (pc + 3) L (.int x :: S) I A B P) := hst
    cases hb : Nat.ble 1000 ax with
    | false =>
      rw [hb] at hx hst
      have hst : kIc ax (fun x => K (pc + 3) L (.int x :: S) I A B P) := hst
      exact ms_ldcw hd (CI_of hy hx) (hK _ _ _ _ _ _ _ (kIc_eq hst))
    | true =>
      rw [hb] at hx hst
      have hle := Nat.le_of_ble_eq_true hb
      cases hb2 : Nat.beq ax 9999 with
      | true =>
        rw [hb2] at hst
        exact hst.elim
      | false =>
        rw [hb2] at hx hst
        obtain ⟨h1, h2⟩ := ST_of hy hx
        have hst : K (pc + 3) L (.retAddr (1 + (ax - 1000)) :: S) I A B P := by
          rw [show 1 + (ax - 1000) = ax - 999 by omega]
          exact hst
        exact ms_ldcwS (q := (mOw y, n, ax - 1000)) hd h1 (own_eq hy) rfl h2 (hK _ _ _ _ _ _ _ hst)
  | ldc2_w n =>
    obtain ⟨hd, rfl, hx⟩ := ok_dec ok rfl 3 rfl (by decide)
    have hst : kLc ax (fun x => K (pc + 3) L (.long x :: S) I A B P) := hst
    exact ms_ldc2 hd (CJ_of hy hx) (hK _ _ _ _ _ _ _ (kLc_eq hst))
  | iload n =>
    obtain ⟨hd, rfl, hx⟩ := ok_dec ok rfl 2 rfl (by decide)
    obtain ⟨v, hL, hst⟩ := ld_inv hst
    obtain ⟨x, rfl, hst⟩ := isI_inv hst
    exact ms_iload hd hL (hK _ _ _ _ _ _ _ hst)
  | iload_n n =>
    obtain ⟨hd, rfl, hx⟩ := ok_dec ok rfl 1 rfl (by decide)
    obtain ⟨v, hL, hst⟩ := ld_inv hst
    obtain ⟨x, rfl, hst⟩ := isI_inv hst
    exact ms_iload_n hd hL (hK _ _ _ _ _ _ _ hst)
  | lload n =>
    obtain ⟨hd, rfl, hx⟩ := ok_dec ok rfl 2 rfl (by decide)
    obtain ⟨v, hL, hst⟩ := ld_inv hst
    obtain ⟨x, rfl, hst⟩ := isL_inv hst
    exact ms_lload hd hL (hK _ _ _ _ _ _ _ hst)
  | lload_n n =>
    obtain ⟨hd, rfl, hx⟩ := ok_dec ok rfl 1 rfl (by decide)
    obtain ⟨v, hL, hst⟩ := ld_inv hst
    obtain ⟨x, rfl, hst⟩ := isL_inv hst
    exact ms_lload_n hd hL (hK _ _ _ _ _ _ _ hst)
  | aload n =>
    obtain ⟨hd, rfl, hx⟩ := ok_dec ok rfl 2 rfl (by decide)
    obtain ⟨v, hL, hst⟩ := ld_inv hst
    obtain ⟨hv, hst⟩ := isA_inv hst
    exact ms_aload hd hL hv (hK _ _ _ _ _ _ _ hst)
  | aload_n n =>
    obtain ⟨hd, rfl, hx⟩ := ok_dec ok rfl 1 rfl (by decide)
    obtain ⟨v, hL, hst⟩ := ld_inv hst
    obtain ⟨hv, hst⟩ := isA_inv hst
    exact ms_aload_n hd hL hv (hK _ _ _ _ _ _ _ hst)
  | istore n =>
    obtain ⟨hd, rfl, hx⟩ := ok_dec ok rfl 2 rfl (by decide)
    obtain ⟨x, S, e0, h2⟩ := popI_inv hst; clear hst; subst e0; have hst := h2; clear h2
    obtain ⟨L2, hst, hs⟩ := sto_inv hst
    exact ms_istore hd hs (hK _ _ _ _ _ _ _ hst)
  | istore_n n =>
    obtain ⟨hd, rfl, hx⟩ := ok_dec ok rfl 1 rfl (by decide)
    obtain ⟨x, S, e0, h2⟩ := popI_inv hst; clear hst; subst e0; have hst := h2; clear h2
    obtain ⟨L2, hst, hs⟩ := sto_inv hst
    exact ms_istore_n hd hs (hK _ _ _ _ _ _ _ hst)
  | lstore n =>
    obtain ⟨hd, rfl, hx⟩ := ok_dec ok rfl 2 rfl (by decide)
    obtain ⟨x, S, e0, h2⟩ := popL_inv hst; clear hst; subst e0; have hst := h2; clear h2
    obtain ⟨L2, hst, hs⟩ := sto2_inv hst
    exact ms_lstore hd hs (hK _ _ _ _ _ _ _ hst)
  | lstore_n n =>
    obtain ⟨hd, rfl, hx⟩ := ok_dec ok rfl 1 rfl (by decide)
    obtain ⟨x, S, e0, h2⟩ := popL_inv hst; clear hst; subst e0; have hst := h2; clear h2
    obtain ⟨L2, hst, hs⟩ := sto2_inv hst
    exact ms_lstore_n hd hs (hK _ _ _ _ _ _ _ hst)
  | astore n =>
    obtain ⟨hd, rfl, hx⟩ := ok_dec ok rfl 2 rfl (by decide)
    have hst : popV S (fun v S => isN v (fun v => sto v L n (fun L => K (pc + 2) L S I A B P))) := hst
    obtain ⟨v, S, e0, h2⟩ := popV_inv hst; clear hst; subst e0; have hst := h2; clear h2
    obtain ⟨hv, hst⟩ := isN_inv hst
    obtain ⟨L2, h3, hs⟩ := sto_inv hst
    rcases hv with ⟨x, rfl⟩ | rfl
    · exact ms_astore hd hs (hK _ _ _ _ _ _ _ h3)
    · exact ms_astoreN hd hs (hK _ _ _ _ _ _ _ h3)
  | astore_n n =>
    obtain ⟨hd, rfl, hx⟩ := ok_dec ok rfl 1 rfl (by decide)
    have hst : popV S (fun v S => isN v (fun v => sto v L n.val (fun L => K (pc + 1) L S I A B P))) := hst
    obtain ⟨v, S, e0, h2⟩ := popV_inv hst; clear hst; subst e0; have hst := h2; clear h2
    obtain ⟨hv, hst⟩ := isN_inv hst
    obtain ⟨L2, h3, hs⟩ := sto_inv hst
    rcases hv with ⟨x, rfl⟩ | rfl
    · exact ms_astore_n hd hs (hK _ _ _ _ _ _ _ h3)
    · exact ms_astore_nN hd hs (hK _ _ _ _ _ _ _ h3)
  | iinc n d =>
    obtain ⟨hd, rfl, hx⟩ := ok_dec ok rfl 3 rfl (by decide)
    have hst : kIc ax (fun d => ld (fun v => isI v (fun x => sto (.int (x + d)) L n (fun L => K (pc + 3) L S I A B P))) L n) := hst
    have hst := kIc_eq hst
    obtain ⟨v, hL, hst⟩ := ld_inv hst
    obtain ⟨x, rfl, hst⟩ := isI_inv hst
    obtain ⟨L2, hst, hs⟩ := sto_inv hst
    exact ms_iinc hd hL (by rw [show Int32.ofInt d = kI ax from of_decide_eq_true hx]) hs (hK _ _ _ _ _ _ _ hst)
  | iadd =>
    obtain ⟨hd, rfl, hx⟩ := ok_dec ok rfl 1 rfl (by decide)
    obtain ⟨z, S, e0, h2⟩ := popI_inv hst; clear hst; subst e0; have hst := h2; clear h2
    obtain ⟨x, S, e0, h2⟩ := popI_inv hst; clear hst; subst e0; have hst := h2; clear h2
    exact ms_iadd hd (hK _ _ _ _ _ _ _ hst)
  | isub =>
    obtain ⟨hd, rfl, hx⟩ := ok_dec ok rfl 1 rfl (by decide)
    obtain ⟨z, S, e0, h2⟩ := popI_inv hst; clear hst; subst e0; have hst := h2; clear h2
    obtain ⟨x, S, e0, h2⟩ := popI_inv hst; clear hst; subst e0; have hst := h2; clear h2
    exact ms_isub hd (hK _ _ _ _ _ _ _ hst)
  | imul =>
    obtain ⟨hd, rfl, hx⟩ := ok_dec ok rfl 1 rfl (by decide)
    obtain ⟨z, S, e0, h2⟩ := popI_inv hst; clear hst; subst e0; have hst := h2; clear h2
    obtain ⟨x, S, e0, h2⟩ := popI_inv hst; clear hst; subst e0; have hst := h2; clear h2
    exact ms_imul hd (hK _ _ _ _ _ _ _ hst)
  | iand =>
    obtain ⟨hd, rfl, hx⟩ := ok_dec ok rfl 1 rfl (by decide)
    obtain ⟨z, S, e0, h2⟩ := popI_inv hst; clear hst; subst e0; have hst := h2; clear h2
    obtain ⟨x, S, e0, h2⟩ := popI_inv hst; clear hst; subst e0; have hst := h2; clear h2
    exact ms_iand hd (hK _ _ _ _ _ _ _ hst)
  | ishr =>
    obtain ⟨hd, rfl, hx⟩ := ok_dec ok rfl 1 rfl (by decide)
    obtain ⟨z, S, e0, h2⟩ := popI_inv hst; clear hst; subst e0; have hst := h2; clear h2
    obtain ⟨x, S, e0, h2⟩ := popI_inv hst; clear hst; subst e0; have hst := h2; clear h2
    exact ms_ishr hd (hK _ _ _ _ _ _ _ hst)
  | idiv =>
    obtain ⟨hd, rfl, hx⟩ := ok_dec ok rfl 1 rfl (by decide)
    obtain ⟨z, S, e0, h2⟩ := popI_inv hst; clear hst; subst e0; have hst := h2; clear h2
    obtain ⟨x, S, e0, h2⟩ := popI_inv hst; clear hst; subst e0; have hst := h2; clear h2
    exact ms_idiv hd hst.1 (hK _ _ _ _ _ _ _ hst.2)
  | irem =>
    obtain ⟨hd, rfl, hx⟩ := ok_dec ok rfl 1 rfl (by decide)
    obtain ⟨z, S, e0, h2⟩ := popI_inv hst; clear hst; subst e0; have hst := h2; clear h2
    obtain ⟨x, S, e0, h2⟩ := popI_inv hst; clear hst; subst e0; have hst := h2; clear h2
    exact ms_irem hd hst.1 (hK _ _ _ _ _ _ _ hst.2)
  | ladd =>
    obtain ⟨hd, rfl, hx⟩ := ok_dec ok rfl 1 rfl (by decide)
    obtain ⟨z, S, e0, h2⟩ := popL_inv hst; clear hst; subst e0; have hst := h2; clear h2
    obtain ⟨x, S, e0, h2⟩ := popL_inv hst; clear hst; subst e0; have hst := h2; clear h2
    exact ms_ladd hd (hK _ _ _ _ _ _ _ hst)
  | lsub =>
    obtain ⟨hd, rfl, hx⟩ := ok_dec ok rfl 1 rfl (by decide)
    obtain ⟨z, S, e0, h2⟩ := popL_inv hst; clear hst; subst e0; have hst := h2; clear h2
    obtain ⟨x, S, e0, h2⟩ := popL_inv hst; clear hst; subst e0; have hst := h2; clear h2
    exact ms_lsub hd (hK _ _ _ _ _ _ _ hst)
  | lmul =>
    obtain ⟨hd, rfl, hx⟩ := ok_dec ok rfl 1 rfl (by decide)
    obtain ⟨z, S, e0, h2⟩ := popL_inv hst; clear hst; subst e0; have hst := h2; clear h2
    obtain ⟨x, S, e0, h2⟩ := popL_inv hst; clear hst; subst e0; have hst := h2; clear h2
    exact ms_lmul hd (hK _ _ _ _ _ _ _ hst)
  | ldiv =>
    obtain ⟨hd, rfl, hx⟩ := ok_dec ok rfl 1 rfl (by decide)
    obtain ⟨z, S, e0, h2⟩ := popL_inv hst; clear hst; subst e0; have hst := h2; clear h2
    obtain ⟨x, S, e0, h2⟩ := popL_inv hst; clear hst; subst e0; have hst := h2; clear h2
    exact ms_ldiv hd hst.1 (hK _ _ _ _ _ _ _ hst.2)
  | lrem =>
    obtain ⟨hd, rfl, hx⟩ := ok_dec ok rfl 1 rfl (by decide)
    obtain ⟨z, S, e0, h2⟩ := popL_inv hst; clear hst; subst e0; have hst := h2; clear h2
    obtain ⟨x, S, e0, h2⟩ := popL_inv hst; clear hst; subst e0; have hst := h2; clear h2
    exact ms_lrem hd hst.1 (hK _ _ _ _ _ _ _ hst.2)
  | lneg =>
    obtain ⟨hd, rfl, hx⟩ := ok_dec ok rfl 1 rfl (by decide)
    obtain ⟨x, S, e0, h2⟩ := popL_inv hst; clear hst; subst e0; have hst := h2; clear h2
    exact ms_lneg hd (hK _ _ _ _ _ _ _ hst)
  | i2l =>
    obtain ⟨hd, rfl, hx⟩ := ok_dec ok rfl 1 rfl (by decide)
    obtain ⟨x, S, e0, h2⟩ := popI_inv hst; clear hst; subst e0; have hst := h2; clear h2
    exact ms_i2l hd (hK _ _ _ _ _ _ _ hst)
  | l2i =>
    obtain ⟨hd, rfl, hx⟩ := ok_dec ok rfl 1 rfl (by decide)
    obtain ⟨x, S, e0, h2⟩ := popL_inv hst; clear hst; subst e0; have hst := h2; clear h2
    exact ms_l2i hd (hK _ _ _ _ _ _ _ hst)
  | i2b =>
    obtain ⟨hd, rfl, hx⟩ := ok_dec ok rfl 1 rfl (by decide)
    obtain ⟨x, S, e0, h2⟩ := popI_inv hst; clear hst; subst e0; have hst := h2; clear h2
    exact ms_i2b hd (hK _ _ _ _ _ _ _ hst)
  | i2c =>
    obtain ⟨hd, rfl, hx⟩ := ok_dec ok rfl 1 rfl (by decide)
    obtain ⟨x, S, e0, h2⟩ := popI_inv hst; clear hst; subst e0; have hst := h2; clear h2
    exact ms_i2c hd (hK _ _ _ _ _ _ _ hst)
  | dup =>
    obtain ⟨hd, rfl, hx⟩ := ok_dec ok rfl 1 rfl (by decide)
    have hst : popV S (fun v S => isA v (fun v => K (pc + 1) L (v :: v :: S) I A B P)) := hst
    obtain ⟨v, S, e0, h2⟩ := popV_inv hst; clear hst; subst e0; have hst := h2; clear h2
    obtain ⟨hv, hst⟩ := isA_inv hst
    exact ms_dup hd (by rcases hv with ⟨x, rfl⟩ | rfl | ⟨x, rfl, _⟩ <;> rfl) (hK _ _ _ _ _ _ _ hst)
  | dup2 =>
    obtain ⟨hd, rfl, hx⟩ := ok_dec ok rfl 1 rfl (by decide)
    obtain ⟨x, S, e0, h2⟩ := popI_inv hst; clear hst; subst e0; have hst := h2; clear h2
    obtain ⟨k, S, e0, h2⟩ := popR_inv hst; clear hst; subst e0; have hst := h2; clear h2
    exact ms_dup2 hd (hK _ _ _ _ _ _ _ hst)
  | pop =>
    obtain ⟨hd, rfl, hx⟩ := ok_dec ok rfl 1 rfl (by decide)
    obtain ⟨x, S, e0, h2⟩ := popI_inv hst; clear hst; subst e0; have hst := h2; clear h2
    exact ms_pop hd (hK _ _ _ _ _ _ _ hst)
  | pop2 =>
    obtain ⟨hd, rfl, hx⟩ := ok_dec ok rfl 1 rfl (by decide)
    obtain ⟨x, S, e0, h2⟩ := popL_inv hst; clear hst; subst e0; have hst := h2; clear h2
    exact ms_pop2 hd (hK _ _ _ _ _ _ _ hst)
  | goto off =>
    obtain ⟨hd, rfl, hx⟩ := ok_dec ok rfl 3 rfl (by decide)
    exact ms_goto hd (of_decide_eq_true hx) (hK _ _ _ _ _ _ _ hst)
  | ifCond c off =>
    obtain ⟨hd, rfl, hx⟩ := ok_dec ok rfl 3 rfl (by decide)
    obtain ⟨x, S, e0, h2⟩ := popI_inv hst; clear hst; subst e0; have hst := h2; clear h2
    have ht : (pc : Int) + off = (tg : Int) := of_decide_eq_true hx
    cases c with
    | eq => exact ms_if_eq hd ht ⟨fun q => hK _ _ _ _ _ _ _ (hst.1 q), fun q => hK _ _ _ _ _ _ _ (hst.2 q)⟩
    | ne => exact ms_if_ne hd ht ⟨fun q => hK _ _ _ _ _ _ _ (hst.1 q), fun q => hK _ _ _ _ _ _ _ (hst.2 q)⟩
    | lt => exact ms_if_lt hd ht ⟨fun q => hK _ _ _ _ _ _ _ (hst.1 q), fun q => hK _ _ _ _ _ _ _ (hst.2 q)⟩
    | ge => exact ms_if_ge hd ht ⟨fun q => hK _ _ _ _ _ _ _ (hst.1 q), fun q => hK _ _ _ _ _ _ _ (hst.2 q)⟩
    | gt => exact ms_if_gt hd ht ⟨fun q => hK _ _ _ _ _ _ _ (hst.1 q), fun q => hK _ _ _ _ _ _ _ (hst.2 q)⟩
    | le => exact ms_if_le hd ht ⟨fun q => hK _ _ _ _ _ _ _ (hst.1 q), fun q => hK _ _ _ _ _ _ _ (hst.2 q)⟩
  | if_icmp c off =>
    obtain ⟨hd, rfl, hx⟩ := ok_dec ok rfl 3 rfl (by decide)
    obtain ⟨z, S, e0, h2⟩ := popI_inv hst; clear hst; subst e0; have hst := h2; clear h2
    obtain ⟨x, S, e0, h2⟩ := popI_inv hst; clear hst; subst e0; have hst := h2; clear h2
    have ht : (pc : Int) + off = (tg : Int) := of_decide_eq_true hx
    cases c with
    | eq => exact ms_icmp_eq hd ht ⟨fun q => hK _ _ _ _ _ _ _ (hst.1 q), fun q => hK _ _ _ _ _ _ _ (hst.2 q)⟩
    | ne => exact ms_icmp_ne hd ht ⟨fun q => hK _ _ _ _ _ _ _ (hst.1 q), fun q => hK _ _ _ _ _ _ _ (hst.2 q)⟩
    | lt => exact ms_icmp_lt hd ht ⟨fun q => hK _ _ _ _ _ _ _ (hst.1 q), fun q => hK _ _ _ _ _ _ _ (hst.2 q)⟩
    | ge => exact ms_icmp_ge hd ht ⟨fun q => hK _ _ _ _ _ _ _ (hst.1 q), fun q => hK _ _ _ _ _ _ _ (hst.2 q)⟩
    | gt => exact ms_icmp_gt hd ht ⟨fun q => hK _ _ _ _ _ _ _ (hst.1 q), fun q => hK _ _ _ _ _ _ _ (hst.2 q)⟩
    | le => exact ms_icmp_le hd ht ⟨fun q => hK _ _ _ _ _ _ _ (hst.1 q), fun q => hK _ _ _ _ _ _ _ (hst.2 q)⟩
  | lcmp =>
    obtain ⟨hd0, rfl, c, off, hd, ht, rfl⟩ := ok_lc ok
    obtain ⟨z, S, e0, h2⟩ := popL_inv hst; clear hst; subst e0; have hst := h2; clear h2
    obtain ⟨x, S, e0, h2⟩ := popL_inv hst; clear hst; subst e0; have hst := h2; clear h2
    cases c with
    | eq => exact ms_lcmp_eq hd0 hd ht ⟨fun q => hK _ _ _ _ _ _ _ (hst.1 q), fun q => hK _ _ _ _ _ _ _ (hst.2 q)⟩
    | ne => exact ms_lcmp_ne hd0 hd ht ⟨fun q => hK _ _ _ _ _ _ _ (hst.1 q), fun q => hK _ _ _ _ _ _ _ (hst.2 q)⟩
    | lt => exact ms_lcmp_lt hd0 hd ht ⟨fun q => hK _ _ _ _ _ _ _ (hst.1 q), fun q => hK _ _ _ _ _ _ _ (hst.2 q)⟩
    | ge => exact ms_lcmp_ge hd0 hd ht ⟨fun q => hK _ _ _ _ _ _ _ (hst.1 q), fun q => hK _ _ _ _ _ _ _ (hst.2 q)⟩
    | gt => exact ms_lcmp_gt hd0 hd ht ⟨fun q => hK _ _ _ _ _ _ _ (hst.1 q), fun q => hK _ _ _ _ _ _ _ (hst.2 q)⟩
    | le => exact ms_lcmp_le hd0 hd ht ⟨fun q => hK _ _ _ _ _ _ _ (hst.1 q), fun q => hK _ _ _ _ _ _ _ (hst.2 q)⟩
  | ifnull off =>
    obtain ⟨hd, rfl, hx⟩ := ok_dec ok rfl 3 rfl (by decide)
    have hst : popV S (fun v S => match v with
      | .null => K tg L S I A B P
      | .ref _ => K (pc + 3) L S I A B P
      | _ => False) := hst
    obtain ⟨v, S, e0, h2⟩ := popV_inv hst; clear hst; subst e0; have hst := h2; clear h2
    have ht : (pc : Int) + off = (tg : Int) := of_decide_eq_true hx
    cases v with
    | null => exact ms_ifnullN hd ht (hK _ _ _ _ _ _ _ hst)
    | ref k => exact ms_ifnull hd (hK _ _ _ _ _ _ _ hst)
    | _ => exact hst.elim
  | ifnonnull off =>
    obtain ⟨hd, rfl, hx⟩ := ok_dec ok rfl 3 rfl (by decide)
    have hst : popV S (fun v S => match v with
      | .null => K (pc + 3) L S I A B P
      | .ref _ => K tg L S I A B P
      | _ => False) := hst
    obtain ⟨v, S, e0, h2⟩ := popV_inv hst; clear hst; subst e0; have hst := h2; clear h2
    have ht : (pc : Int) + off = (tg : Int) := of_decide_eq_true hx
    cases v with
    | null => exact ms_ifnonnullN hd (hK _ _ _ _ _ _ _ hst)
    | ref k => exact ms_ifnonnull hd ht (hK _ _ _ _ _ _ _ hst)
    | _ => exact hst.elim
  | tableswitch d lo hi offs =>
    obtain ⟨hd, hx⟩ := ok_sw ok rfl
    obtain ⟨x, S, e0, h2⟩ := popI_inv hst; clear hst; subst e0; have hst := h2; clear h2
    have hmono : ∀ (zl : List (Int32 × Nat)), swP x (kS ax).2 (fun t => K t L S I A B P) zl → swP x (kS ax).2 (fun t => mj l b tS D dA i9 a9 y t L S I A B P R) zl := fun zl => by
      induction zl with
      | nil => exact fun h => hK _ _ _ _ _ _ _ h
      | cons q zl ih => exact fun h => ⟨fun e => hK _ _ _ _ _ _ _ (h.1 e), fun e => ih (h.2 e)⟩
    simp only [okX, Bool.and_eq_true, decide_eq_true_eq] at hx
    obtain ⟨h1, h2, h3, h4, h5, h6⟩ := hx
    exact ms_tsw hd h1 h2 h3 h4 h5 h6 (hmono _ hst)
  | lookupswitch d ps =>
    obtain ⟨hd, hx⟩ := ok_sw ok rfl
    obtain ⟨x, S, e0, h2⟩ := popI_inv hst; clear hst; subst e0; have hst := h2; clear h2
    have hmono : ∀ (zl : List (Int32 × Nat)), swP x (kS ax).2 (fun t => K t L S I A B P) zl → swP x (kS ax).2 (fun t => mj l b tS D dA i9 a9 y t L S I A B P R) zl := fun zl => by
      induction zl with
      | nil => exact fun h => hK _ _ _ _ _ _ _ h
      | cons q zl ih => exact fun h => ⟨fun e => hK _ _ _ _ _ _ _ (h.1 e), fun e => ih (h.2 e)⟩
    simp only [okX, Bool.and_eq_true, decide_eq_true_eq] at hx
    obtain ⟨h1, h2, h3, h4⟩ := hx
    refine ms_lsw hd h1 h2 (fun q hq => ?_) h4 (hmono _ hst)
    have := List.all_eq_true.mp h3 q hq
    simp only [Bool.and_eq_true, decide_eq_true_eq] at this
    exact this
  | getstatic n =>
    obtain ⟨hd, rfl, hx⟩ := ok_dec ok rfl 3 rfl (by decide)
    have hx : (bif Nat.ble ax 1 then any4 mSF (mOw y) n ax else true) = true := hx
    match ax, hx, hst with
    | 0, hx, hst => exact ms_gs0 hd (SF_of hy hx) (hK _ _ _ _ _ _ _ hst)
    | 1, hx, hst => exact ms_gs1 hd (SF_of hy hx) (hK _ _ _ _ _ _ _ hst)
    | _ + 2, _, hst => exact hst.elim
  | getfield n =>
    obtain ⟨hd, rfl, hx⟩ := ok_dec ok rfl 3 rfl (by decide)
    have hst : popV S (fun v S => match v with
      | .ref k => (match csh k with
        | some c => bif Nat.beq c (ax / 64) then (match fsh ax with
          | 0 => K (pc + 3) L (.int (I k tg) :: S) I A B P
          | 1 => (match P k tg with
            | some q => K (pc + 3) L (.ref q :: S) I A B P
            | none => False)
          | 2 => K (pc + 3) L (.int (I k tg) :: S) I A B P
          | _ => False) else False
        | none => False)
      | .retAddr n => bif Nat.ble 1 n && Nat.ble n 14 then (bif Nat.beq ax 10000 then K (pc + 3) L (.retAddr (n + 100) :: S) I A B P else bif Nat.beq ax 10001 then K (pc + 3) L (.int 0 :: S) I A B P else False) else False
      | _ => False) := hst
    obtain ⟨v, S, e0, h2⟩ := popV_inv hst; clear hst; subst e0; have hst := h2; clear h2
    have hx : (bif Nat.ble 10000 ax then any4 mSF (mOw y) n ax else any5 mFL (mOw y) n (ax / 64) tg && Nat.beq (ax / 64 * 64 + tg) ax) = true := hx
    cases v with
    | ref k =>
      cases hck : csh k with
      | none =>
        exfalso
        simp only [hck] at hst
      | some ci =>
        simp only [hck] at hst
        obtain ⟨hb, hst⟩ := bif_inv hst
        have hci := Nat.eq_of_beq_eq_true hb
        cases hb1 : Nat.ble 10000 ax with
        | true =>
          exfalso
          have h1 := csh_c hck
          have h2 := Nat.le_of_ble_eq_true hb1
          omega
        | false =>
          rw [hb1] at hx
          simp only [cond_false, Bool.and_eq_true] at hx
          have hfl := FL_of hy hx.1
          have hax := Nat.eq_of_beq_eq_true hx.2
          rw [← hci] at hfl hax
          cases hf : fsh ax with
          | zero =>
            rw [hf] at hst
            exact ms_getI hd hfl hck (Or.inl (by rw [hax]; exact hf)) (hK _ _ _ _ _ _ _ hst)
          | succ f1 =>
            cases f1 with
            | zero =>
              rw [hf] at hst
              cases hp : P k tg with
              | none => simp only [hp] at hst
              | some q =>
                simp only [hp] at hst
                exact ms_getP hd hfl hck (by rw [hax]; exact hf) hp (hK _ _ _ _ _ _ _ hst)
            | succ f2 =>
              cases f2 with
              | zero =>
                rw [hf] at hst
                exact ms_getI hd hfl hck (Or.inr (by rw [hax]; exact hf)) (hK _ _ _ _ _ _ _ hst)
              | succ f3 =>
                rw [hf] at hst
                exact hst.elim
    | retAddr m =>
      obtain ⟨hb, hst⟩ := bif_inv hst
      simp only [Bool.and_eq_true] at hb
      have h1 := Nat.le_of_ble_eq_true hb.1
      have h2 := Nat.le_of_ble_eq_true hb.2
      obtain ⟨i, rfl⟩ : ∃ i, m = 1 + i := ⟨m - 1, by omega⟩
      cases hb1 : Nat.beq ax 10000 with
      | true =>
        have e := Nat.eq_of_beq_eq_true hb1
        subst e
        have hst : K (pc + 3) L (.retAddr (101 + i) :: S) I A B P := by
          rw [show 101 + i = 1 + i + 100 by omega]
          exact hst
        exact ms_getV hd (SF_of hy hx) (by omega) (hK _ _ _ _ _ _ _ hst)
      | false =>
        rw [hb1] at hst
        cases hb2 : Nat.beq ax 10001 with
        | true =>
          have e := Nat.eq_of_beq_eq_true hb2
          subst e
          exact ms_getC hd (SF_of hy hx) (by omega) (hK _ _ _ _ _ _ _ hst)
        | false =>
          rw [hb2] at hst
          exact hst.elim
    | _ => exact hst.elim
  | putfield n =>
    obtain ⟨hd, rfl, hx⟩ := ok_dec ok rfl 3 rfl (by decide)
    have hst : popV S (fun v S => popR S (fun k S => match csh k with
      | some c => bif Nat.beq c (ax / 64) then (match fsh ax with
        | 0 => isI v (fun x => K (pc + 3) L S (up2 I k tg x) A B P)
        | 1 => (match v with
          | .ref q => K (pc + 3) L S I A B (up2 P k tg (some q))
          | _ => False)
        | 2 => isI v (fun x => (x = 0 ∨ x = 1) ∧ K (pc + 3) L S (up2 I k tg x) A B P)
        | _ => False) else False
      | none => False)) := hst
    obtain ⟨v, S, e0, h2⟩ := popV_inv hst; clear hst; subst e0; have hst := h2; clear h2
    obtain ⟨k, S, e0, h2⟩ := popR_inv hst; clear hst; subst e0; have hst := h2; clear h2
    simp only [okX, Bool.and_eq_true, decide_eq_true_eq] at hx
    obtain ⟨hx1, hx2, hx3⟩ := hx
    cases hck : csh k with
    | none =>
      exfalso
      simp only [hck] at hst
    | some ci =>
      simp only [hck] at hst
      obtain ⟨hb, hst⟩ := bif_inv hst
      have hci := Nat.eq_of_beq_eq_true hb
      have hfl := FL_of hy hx1
      have hax := Nat.eq_of_beq_eq_true hx2
      rw [← hci] at hfl hax hx3
      cases hf : fsh ax with
      | zero =>
        rw [hf] at hst
        obtain ⟨x, rfl, hst⟩ := isI_inv hst
        exact ms_putI hd hfl hx3 hck (by rw [hax]; exact hf) (hK _ _ _ _ _ _ _ hst)
      | succ f1 =>
        cases f1 with
        | zero =>
          rw [hf] at hst
          cases v with
          | ref q => exact ms_putP hd hfl hx3 hck (by rw [hax]; exact hf) (hK _ _ _ _ _ _ _ hst)
          | _ => exact hst.elim
        | succ f2 =>
          cases f2 with
          | zero =>
            rw [hf] at hst
            obtain ⟨x, rfl, hst⟩ := isI_inv hst
            exact ms_putZ hd hfl hx3 hck (by rw [hax]; exact hf) hst.1 (hK _ _ _ _ _ _ _ hst.2)
          | succ f3 =>
            rw [hf] at hst
            exact hst.elim
  | arraylength =>
    obtain ⟨hd, rfl, hx⟩ := ok_dec ok rfl 1 rfl (by decide)
    have hst : popV S (fun v S => match v with
      | .ref k => (match rsh k with
        | some (_, _, n) => K (pc + 1) L (.int (Int32.ofNat n) :: S) I A B P
        | none => ∃ t n : Nat, ash k = some (t, n) ∧ K (pc + 1) L (.int (Int32.ofNat n) :: S) I A B P)
      | .retAddr n => (match n with
        | 0 => K (pc + 1) L (.int (I 900 0) :: S) I A B P
        | n => bif Nat.ble 101 n && Nat.ble n 114 then K (pc + 1) L (.int (Int32.ofNat (tx (n - 101)).length) :: S) I A B P else False)
      | _ => False) := hst
    obtain ⟨v, S, e0, h2⟩ := popV_inv hst; clear hst; subst e0; have hst := h2; clear h2
    cases v with
    | ref k =>
      cases hr : rsh k with
      | some r =>
        obtain ⟨o, m2, n⟩ := r
        simp only [hr] at hst
        exact ms_rlen (r := (o, m2, n)) hd hr (hK _ _ _ _ _ _ _ hst)
      | none =>
        simp only [hr] at hst
        obtain ⟨t, n, ha, hst⟩ := hst
        exact ms_alen (t := (t, n)) hd ha (hK _ _ _ _ _ _ _ hst)
    | retAddr m =>
      cases m with
      | zero => exact ms_slen hd (hK _ _ _ _ _ _ _ hst)
      | succ m =>
        have hst : bif Nat.ble 101 (m + 1) && Nat.ble (m + 1) 114 then K (pc + 1) L (.int (Int32.ofNat (tx (m + 1 - 101)).length) :: S) I A B P else False := hst
        obtain ⟨hb, hst⟩ := bif_inv hst
        simp only [Bool.and_eq_true] at hb
        have h1 := Nat.le_of_ble_eq_true hb.1
        have h2 := Nat.le_of_ble_eq_true hb.2
        rw [show m + 1 = 101 + (m + 1 - 101) by omega]
        exact ms_tlen hd (by omega) (hK _ _ _ _ _ _ _ hst)
    | _ => exact hst.elim
  | iaload =>
    obtain ⟨hd, rfl, hx⟩ := ok_dec ok rfl 1 rfl (by decide)
    have hst : popI S (fun i S => popV S (fun v S => match v with
      | .ref k => ∃ n : Nat, ash k = some (0, n) ∧ vp_in i n ∧ K (pc + 1) L (.int (A k i.toNatClampNeg) :: S) I A B P
      | .retAddr 0 => vp_in i (I 900 0).toNatClampNeg ∧ K (pc + 1) L (.int (A 900 i.toNatClampNeg) :: S) I A B P
      | _ => False)) := hst
    obtain ⟨i, S, e0, h2⟩ := popI_inv hst; clear hst; subst e0; have hst := h2; clear h2
    obtain ⟨v, S, e0, h2⟩ := popV_inv hst; clear hst; subst e0; have hst := h2; clear h2
    cases v with
    | ref k =>
      obtain ⟨n, ha, hin, hst⟩ := hst
      exact ms_iald hd ha hin (hK _ _ _ _ _ _ _ hst)
    | retAddr m =>
      cases m with
      | zero => exact ms_sld hd hst.1 (hK _ _ _ _ _ _ _ hst.2)
      | succ m => exact hst.elim
    | _ => exact hst.elim
  | baload =>
    obtain ⟨hd, rfl, hx⟩ := ok_dec ok rfl 1 rfl (by decide)
    have hst : popI S (fun i S => popV S (fun v S => match v with
      | .ref k => ∃ t n : Nat, ash k = some (t, n) ∧ (t = 2 ∨ t = 3) ∧ vp_in i n ∧ K (pc + 1) L (.int (A k i.toNatClampNeg) :: S) I A B P
      | .retAddr n => bif Nat.ble 101 n && Nat.ble n 114 then vp_in i (tx (n - 101)).length ∧ K (pc + 1) L (.int ((tx (n - 101)).getD i.toNatClampNeg 0) :: S) I A B P else False
      | _ => False)) := hst
    obtain ⟨i, S, e0, h2⟩ := popI_inv hst; clear hst; subst e0; have hst := h2; clear h2
    obtain ⟨v, S, e0, h2⟩ := popV_inv hst; clear hst; subst e0; have hst := h2; clear h2
    cases v with
    | ref k =>
      obtain ⟨t, n, ha, ht, hin, hst⟩ := hst
      rcases ht with rfl | rfl
      · exact ms_bald hd ha hin (hK _ _ _ _ _ _ _ hst)
      · exact ms_zald hd ha hin (hK _ _ _ _ _ _ _ hst)
    | retAddr m =>
      obtain ⟨hb, hst⟩ := bif_inv hst
      simp only [Bool.and_eq_true] at hb
      have h1 := Nat.le_of_ble_eq_true hb.1
      have h2 := Nat.le_of_ble_eq_true hb.2
      rw [show m = 101 + (m - 101) by omega]
      exact ms_tld hd (by omega) hst.1 (hK _ _ _ _ _ _ _ hst.2)
    | _ => exact hst.elim
  | laload =>
    obtain ⟨hd, rfl, hx⟩ := ok_dec ok rfl 1 rfl (by decide)
    obtain ⟨i, S, e0, h2⟩ := popI_inv hst; clear hst; subst e0; have hst := h2; clear h2
    obtain ⟨k, S, e0, h2⟩ := popR_inv hst; clear hst; subst e0; have hst := h2; clear h2
    obtain ⟨n, ha, hin, hst⟩ := hst
    exact ms_lald hd ha hin (hK _ _ _ _ _ _ _ hst)
  | aaload =>
    obtain ⟨hd, rfl, hx⟩ := ok_dec ok rfl 1 rfl (by decide)
    obtain ⟨i, S, e0, h2⟩ := popI_inv hst; clear hst; subst e0; have hst := h2; clear h2
    obtain ⟨k, S, e0, h2⟩ := popR_inv hst; clear hst; subst e0; have hst := h2; clear h2
    obtain ⟨o, m2, n, hr, hin, hst⟩ := hst
    exact ms_aald (r := (o, m2, n)) hd hr hin (hK _ _ _ _ _ _ _ hst)
  | iastore =>
    obtain ⟨hd, rfl, hx⟩ := ok_dec ok rfl 1 rfl (by decide)
    obtain ⟨x, S, e0, h2⟩ := popI_inv hst; clear hst; subst e0; have hst := h2; clear h2
    obtain ⟨i, S, e0, h2⟩ := popI_inv hst; clear hst; subst e0; have hst := h2; clear h2
    obtain ⟨k, S, e0, h2⟩ := popR_inv hst; clear hst; subst e0; have hst := h2; clear h2
    obtain ⟨n, ha, hin, hst⟩ := hst
    exact ms_iast hd ha hin (hK _ _ _ _ _ _ _ hst)
  | lastore =>
    obtain ⟨hd, rfl, hx⟩ := ok_dec ok rfl 1 rfl (by decide)
    obtain ⟨x, S, e0, h2⟩ := popL_inv hst; clear hst; subst e0; have hst := h2; clear h2
    obtain ⟨i, S, e0, h2⟩ := popI_inv hst; clear hst; subst e0; have hst := h2; clear h2
    obtain ⟨k, S, e0, h2⟩ := popR_inv hst; clear hst; subst e0; have hst := h2; clear h2
    obtain ⟨n, ha, hin, hst⟩ := hst
    exact ms_last hd ha hin (hK _ _ _ _ _ _ _ hst)
  | bastore =>
    obtain ⟨hd, rfl, hx⟩ := ok_dec ok rfl 1 rfl (by decide)
    obtain ⟨x, S, e0, h2⟩ := popI_inv hst; clear hst; subst e0; have hst := h2; clear h2
    obtain ⟨i, S, e0, h2⟩ := popI_inv hst; clear hst; subst e0; have hst := h2; clear h2
    obtain ⟨k, S, e0, h2⟩ := popR_inv hst; clear hst; subst e0; have hst := h2; clear h2
    obtain ⟨t, n, ha, ht, hin, hst⟩ := hst
    rcases ht with ⟨rfl, hb⟩ | ⟨rfl, hb⟩
    · exact ms_bast hd ha hb hin (hK _ _ _ _ _ _ _ hst)
    · exact ms_zast hd ha hb hin (hK _ _ _ _ _ _ _ hst)
  | ireturn =>
    obtain ⟨hd, rfl, hx⟩ := ok_dec ok rfl 1 rfl (by decide)
    match S, hst with
    | [.int x], hst =>
      have hst : ret1 (mr y).2.1 x (R (some (.int x)) I A B P) := hst
      have hrt := rt_eq hy
      rw [← hrt] at hst
      have key : R (some (.int x)) I A B P ∧ ∃ ty, mRt y = some ty ∧ narrow ty (.int x) = .int x := by
        revert hst
        generalize mRt y = z
        intro hst
        match z, hst with
        | some .int, hst => exact ⟨hst, _, rfl, rfl⟩
        | some .boolean, hst => exact ⟨hst.2, _, rfl, by rcases hst.1 with rfl | rfl <;> rfl⟩
        | some .byte, hst => exact ⟨hst.2, _, rfl, hst.1⟩
        | some .char, hst => exact ⟨hst.2, _, rfl, hst.1⟩
      exact ms_ret (v := some (.int x)) key.1 ⟨hd, key.2⟩
  | lreturn =>
    obtain ⟨hd, rfl, hx⟩ := ok_dec ok rfl 1 rfl (by decide)
    match S, hst with
    | [.long x], hst =>
      obtain ⟨hb, hst⟩ := bif_inv hst
      have hrt := (rt_eq hy).trans (Nat.eq_of_beq_eq_true hb)
      have key : mRt y = some .long := by
        revert hrt
        generalize mRt y = z
        intro hrt
        match z, hrt with
        | some .long, _ => rfl
      exact ms_ret (v := some (.long x)) hst ⟨hd, key⟩
  | areturn =>
    obtain ⟨hd, rfl, hx⟩ := ok_dec ok rfl 1 rfl (by decide)
    match S, hst with
    | [.ref x], hst =>
      obtain ⟨hb, hst⟩ := bif_inv hst
      have hrt := (rt_eq hy).trans (Nat.eq_of_beq_eq_true hb)
      have key : ∃ rt, mRt y = some rt ∧ ((∃ n, rt = .object n) ∨ ∃ t, rt = .array t) := by
        revert hrt
        generalize mRt y = z
        intro hrt
        match z, hrt with
        | some (.object n), _ => exact ⟨_, rfl, Or.inl ⟨_, rfl⟩⟩
        | some (.array n), _ => exact ⟨_, rfl, Or.inr ⟨_, rfl⟩⟩
      exact ms_ret (v := some (.ref x)) hst ⟨hd, key⟩
    | [.null], hst =>
      obtain ⟨hb, hst⟩ := bif_inv hst
      have hrt := (rt_eq hy).trans (Nat.eq_of_beq_eq_true hb)
      have key : ∃ rt, mRt y = some rt ∧ ((∃ n, rt = .object n) ∨ ∃ t, rt = .array t) := by
        revert hrt
        generalize mRt y = z
        intro hrt
        match z, hrt with
        | some (.object n), _ => exact ⟨_, rfl, Or.inl ⟨_, rfl⟩⟩
        | some (.array n), _ => exact ⟨_, rfl, Or.inr ⟨_, rfl⟩⟩
      exact ms_ret (v := some .null) hst ⟨hd, key⟩
  | return_ =>
    obtain ⟨hd, rfl, hx⟩ := ok_dec ok rfl 1 rfl (by decide)
    match S, hst with
    | [], hst =>
      obtain ⟨hb, hst⟩ := bif_inv hst
      have hrt := (rt_eq hy).trans (Nat.eq_of_beq_eq_true hb)
      have key : mRt y = none := by
        revert hrt
        generalize mRt y = z
        intro hrt
        cases z with
        | none => rfl
        | some t => cases t <;> cases hrt
      exact ms_ret (v := none) hst ⟨hd, key⟩
  | invokevirtual n =>
    obtain ⟨hd, rfl, hx⟩ := ok_dec ok rfl 3 rfl (by decide)
    have hx : (bif Nat.beq ax 9000 then true else okC y (mOw y) n ax && Nat.ble 1 (mRc ax)) = true := hx
    have hst : bif Nat.beq ax 9000 then False else popN (mr ax).2.2.1 S [] (fun args S => bif Nat.ble (catS S) 8 then recv (mRc ax) args (C ax args I A B P (fun v I A B P => K (pc + 3) L (pushO v S) I A B P)) else False) := hst
    cases hb0 : Nat.beq ax 9000 with
    | true =>
      rw [hb0] at hst
      exact hst.elim
    | false =>
      rw [hb0] at hx hst
      obtain ⟨as, S, e0, hlen, h2⟩ := popN_inv hst; clear hst; subst e0; have hst := h2; clear h2
      obtain ⟨hb, hst⟩ := bif_inv hst
      have hcat := Nat.le_of_ble_eq_true hb
      rw [List.append_nil] at hst
      simp only [cond_false, Bool.and_eq_true] at hx
      have hcl := CL_of hy hx.1
      have hrc := Nat.le_of_ble_eq_true hx.2
      obtain ⟨ci, hci⟩ : ∃ ci, mRc ax = ci + 1 := ⟨mRc ax - 1, by omega⟩
      rw [hci] at hst
      cases as with
      | nil => exact hst.elim
      | cons v as =>
        cases v with
        | ref k =>
          cases hck : csh k with
          | none => simp only [recv, hck] at hst
          | some c2 =>
            simp only [recv, hck] at hst
            obtain ⟨hb2, h3⟩ := bif_inv hst
            have e := Nat.eq_of_beq_eq_true hb2
            subst e
            have hlt := csh_c hck
            obtain ⟨L0, hmk, hj⟩ := hC _ _ _ _ _ _ _ h3
            rw [List.reverse_cons, List.append_assoc]
            exact ms_callV hd hcl hci (by omega) hck (by simpa using hlen) hmk hcat hj (fun v I A B P h => hK _ _ _ _ _ _ _ h)
        | retAddr m =>
          obtain ⟨hb2, hst⟩ := bif_inv hst
          simp only [Bool.and_eq_true] at hb2
          have e := Nat.eq_of_beq_eq_true hb2.1
          have h1 := Nat.le_of_ble_eq_true hb2.2.1
          have h2 := Nat.le_of_ble_eq_true hb2.2.2
          obtain ⟨i, rfl⟩ : ∃ i, m = 1 + i := ⟨m - 1, by omega⟩
          obtain ⟨L0, hmk, hj⟩ := hC _ _ _ _ _ _ _ hst
          rw [List.reverse_cons, List.append_assoc]
          exact ms_callT hd hcl (by rw [hci, e]) (by omega) (by simpa using hlen) hmk hcat hj (fun v I A B P h => hK _ _ _ _ _ _ _ h)
        | _ => exact hst.elim
  | invokestatic n =>
    obtain ⟨hd, rfl, hx⟩ := ok_dec ok rfl 3 rfl (by decide)
    have hx : (bif Nat.beq ax 9000 then true else (bif Nat.ble 9001 ax then Nat.ble 1 (mRf y) && (Nat.ble 60 (mRl y) && (bif Nat.beq ax 9001 then mAC.any (fun q => Nat.beq q.2.1 n && Nat.beq q.1 (mOw y)) else any4 mMM (mOw y) n ax)) else okC y (mOw y) n ax && Nat.beq (mRc ax) 0)) = true := hx
    cases hb9 : Nat.ble 9001 ax with
    | false =>
      have hst : bif Nat.beq ax 9000 then False else popN (mr ax).2.2.1 S [] (fun args S => bif Nat.ble (catS S) 8 then recv (mRc ax) args (C ax args I A B P (fun v I A B P => K (pc + 3) L (pushO v S) I A B P)) else False) := by
        have h0 := hst
        unfold st1 at h0
        simp only [hb9, cond_false] at h0
        exact h0
      cases hb0 : Nat.beq ax 9000 with
      | true =>
        rw [hb0] at hst
        exact hst.elim
      | false =>
        rw [hb0] at hst
        obtain ⟨as, S, e0, hlen, h2⟩ := popN_inv hst; clear hst; subst e0; have hst := h2; clear h2
        obtain ⟨hb, hst⟩ := bif_inv hst
        have hcat := Nat.le_of_ble_eq_true hb
        rw [List.append_nil] at hst
        rw [hb0, hb9] at hx
        simp only [cond_false, Bool.and_eq_true] at hx
        have hcl := CL_of hy hx.1
        have hrc := Nat.eq_of_beq_eq_true hx.2
        rw [hrc] at hst
        obtain ⟨L0, hmk, hj⟩ := hC _ _ _ _ _ _ _ hst
        exact ms_callS hd hcl hrc hlen hmk hcat hj (fun v I A B P h => hK _ _ _ _ _ _ _ h)
    | true =>
      have hge := Nat.le_of_ble_eq_true hb9
      have hb0 : Nat.beq ax 9000 = false := by
        cases hz : Nat.beq ax 9000 with
        | true => have := Nat.eq_of_beq_eq_true hz; omega
        | false => rfl
      rw [hb0, hb9] at hx
      simp only [cond_false, cond_true, Bool.and_eq_true] at hx
      obtain ⟨hx1, hx2, hx3⟩ := hx
      have hf := Nat.le_of_ble_eq_true hx1
      have hl := Nat.le_of_ble_eq_true hx2
      by_cases hlt : 9006 < ax
      · exfalso
        have hb1 : Nat.beq ax 9001 = false := by
          cases hz : Nat.beq ax 9001 with
          | true => have := Nat.eq_of_beq_eq_true hz; omega
          | false => rfl
        rw [hb1] at hx3
        obtain ⟨hh, hm⟩ := any4_inv hx3
        have := Nat.le_of_ble_eq_true (List.all_eq_true.mp mMM_le _ hm)
        simp only at this
        omega
      · have hcases : ax = 9001 ∨ ax = 9002 ∨ ax = 9003 ∨ ax = 9004 ∨ ax = 9005 ∨ ax = 9006 := by omega
        rcases hcases with rfl | rfl | rfl | rfl | rfl | rfl
        · obtain ⟨z, S, e0, h2⟩ := popI_inv hst; clear hst; subst e0; have hst := h2; clear h2
          obtain ⟨dp, S, e0, h2⟩ := popI_inv hst; clear hst; subst e0; have hst := h2; clear h2
          obtain ⟨d, S, e0, h2⟩ := popR_inv hst; clear hst; subst e0; have hst := h2; clear h2
          obtain ⟨sp, S, e0, h2⟩ := popI_inv hst; clear hst; subst e0; have hst := h2; clear h2
          obtain ⟨q, S, e0, h2⟩ := popR_inv hst; clear hst; subst e0; have hst := h2; clear h2
          obtain ⟨hb, hst⟩ := bif_inv hst
          obtain ⟨t, n0, n1, ha, hb2, ht, h1, h2, h3, h4, h5, k0, k1⟩ := hst
          rcases ht with rfl | rfl
          · exact ms_copyA hd (AC_of hy hx3) hf hl (Nat.le_of_ble_eq_true hb) ha hb2 h1 h2 h3 h4 h5 (hK _ _ _ _ _ _ _ (k0 rfl))
          · exact ms_copyB hd (AC_of hy hx3) hf hl (Nat.le_of_ble_eq_true hb) ha hb2 h1 h2 h3 h4 h5 (hK _ _ _ _ _ _ _ (k1 rfl))
        · obtain ⟨z, S, e0, h2⟩ := popI_inv hst; clear hst; subst e0; have hst := h2; clear h2
          obtain ⟨x, S, e0, h2⟩ := popI_inv hst; clear hst; subst e0; have hst := h2; clear h2
          obtain ⟨hb, hst⟩ := bif_inv hst
          exact ms_m9002 hd (MM_of hy hx3) hf hl (Nat.le_of_ble_eq_true hb) (hK _ _ _ _ _ _ _ hst)
        · obtain ⟨z, S, e0, h2⟩ := popI_inv hst; clear hst; subst e0; have hst := h2; clear h2
          obtain ⟨x, S, e0, h2⟩ := popI_inv hst; clear hst; subst e0; have hst := h2; clear h2
          obtain ⟨hb, hst⟩ := bif_inv hst
          exact ms_m9003 hd (MM_of hy hx3) hf hl (Nat.le_of_ble_eq_true hb) (hK _ _ _ _ _ _ _ hst)
        · obtain ⟨z, S, e0, h2⟩ := popL_inv hst; clear hst; subst e0; have hst := h2; clear h2
          obtain ⟨x, S, e0, h2⟩ := popL_inv hst; clear hst; subst e0; have hst := h2; clear h2
          obtain ⟨hb, hst⟩ := bif_inv hst
          exact ms_m9004 hd (MM_of hy hx3) hf hl (Nat.le_of_ble_eq_true hb) (hK _ _ _ _ _ _ _ hst)
        · obtain ⟨z, S, e0, h2⟩ := popL_inv hst; clear hst; subst e0; have hst := h2; clear h2
          obtain ⟨x, S, e0, h2⟩ := popL_inv hst; clear hst; subst e0; have hst := h2; clear h2
          obtain ⟨hb, hst⟩ := bif_inv hst
          exact ms_m9005 hd (MM_of hy hx3) hf hl (Nat.le_of_ble_eq_true hb) (hK _ _ _ _ _ _ _ hst)
        · obtain ⟨x, S, e0, h2⟩ := popL_inv hst; clear hst; subst e0; have hst := h2; clear h2
          obtain ⟨hb, hst⟩ := bif_inv hst
          exact ms_m9006 hd (MM_of hy hx3) hf hl (Nat.le_of_ble_eq_true hb) (hK _ _ _ _ _ _ _ hst)
  | _ => exact hst.elim
end ANY
