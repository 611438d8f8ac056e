/-! the machine's own judgement obeys the small machine: part 4, calls -/
theorem lgs1 {v : Value} {vs : List Value} (h : v.category = 1) : (lg_sl (v :: vs)).length = (lg_sl vs).length + 1 := by
  simp [lg_sl, h]
theorem lgs2 {v : Value} {vs : List Value} (h : v.category = 2) : (lg_sl (v :: vs)).length = (lg_sl vs).length + 2 := by
  simp [lg_sl, h]
theorem lva1 {v : Value} {vs : List Value} {i : Nat} (h : v.category = 1) : lv_args i (v :: vs) = (i, v) :: lv_args (i + 1) vs := by
  simp [lv_args, h]
theorem lva2 {v : Value} {vs : List Value} {i : Nat} (h : v.category = 2) : lv_args i (v :: vs) = (i, v) :: lv_args (i + 2) vs := by
  simp [lv_args, h]
theorem mkK_inv : ∀ {n : Nat} {args : List Value} (k : List Value → Prop), mkK n args k → ∃ L, k L ∧ L.length = n ∧ ∀ (b : Nat) (tS : Nat → Value), (∀ n, (tS n).category = 1) → (lg_sl (args.map (tr b tS))).length ≤ n ∧ ∀ (i j : Nat) (v : Value), L[j]? = some v → (∀ f, v ≠ .float f) → (i + j, tr b tS v) ∈ lv_args i (args.map (tr b tS))
  | 0, [], k, h => ⟨[], h, rfl, fun b tS hc => ⟨by simp [lg_sl], fun i j v hj => by simp at hj⟩⟩
  | 0, _ :: _, k, h => by simp [mkK] at h
  | n + 1, [], k, h => by
    obtain ⟨L, h1, h2, h3⟩ := mkK_inv (n := n) (args := []) (fun L => k (.float 0 :: L)) h
    refine ⟨_, h1, by simp [h2], fun b tS hc => ⟨by simp [lg_sl], fun i j v hj hf => ?_⟩⟩
    cases j with
    | zero =>
      simp at hj
      exact absurd hj.symm (hf 0)
    | succ j =>
      have := (h3 b tS hc).2 i j v (by simpa using hj) hf
      simp [lv_args] at this
  | n + 1, v :: a, k, h => by
    rcases lv_cat v with hcat | hcat
    · have h : mkK n a (fun L => k (v :: L)) := by
        cases v <;> first | exact h | (simp [Value.category] at hcat; done)
      obtain ⟨L, h1, h2, h3⟩ := mkK_inv (n := n) (args := a) (fun L => k (v :: L)) h
      refine ⟨_, h1, by simp [h2], fun b tS hc => ?_⟩
      have hcv : (tr b tS v).category = 1 := (tr_cat hc v).trans hcat
      refine ⟨?_, fun i j u hj hf => ?_⟩
      · rw [List.map_cons, lgs1 hcv]
        have := (h3 b tS hc).1
        omega
      · rw [List.map_cons, lva1 hcv]
        cases j with
        | zero =>
          have e : v = u := by simpa using hj
          subst e
          exact List.mem_cons_self
        | succ j =>
          have := (h3 b tS hc).2 (i + 1) j u (by simpa using hj) hf
          rw [show i + (j + 1) = i + 1 + j by omega]
          exact List.mem_cons_of_mem _ this
    · cases v with
      | long x =>
        cases n with
        | zero => exact h.elim
        | succ n =>
          have h : mkK n a (fun L => k (.long x :: .float 0 :: L)) := h
          obtain ⟨L, h1, h2, h3⟩ := mkK_inv (n := n) (args := a) (fun L => k (.long x :: .float 0 :: L)) h
          refine ⟨_, h1, by simp [h2], fun b tS hc => ?_⟩
          have hcv : (tr b tS (.long x)).category = 2 := rfl
          refine ⟨?_, fun i j u hj hf => ?_⟩
          · rw [List.map_cons, lgs2 hcv]
            have := (h3 b tS hc).1
            omega
          · rw [List.map_cons, lva2 hcv]
            match j, hj with
            | 0, hj =>
              have e : Value.long x = u := by simpa using hj
              subst e
              exact List.mem_cons_self
            | 1, hj =>
              have e : Value.float 0 = u := by simpa using hj
              exact absurd e.symm (hf 0)
            | j + 2, hj =>
              have := (h3 b tS hc).2 (i + 2) j u (by simpa using hj) hf
              rw [show i + (j + 2) = i + 2 + j by omega]
              exact List.mem_cons_of_mem _ this
      | double x => exact h.elim
      | _ => simp [Value.category] at hcat
theorem popN_inv {k : List Value → List Value → Prop} : ∀ {n : Nat} {S acc : List Value}, popN n S acc k → ∃ (as S' : List Value), S = as.reverse ++ S' ∧ as.length = n ∧ k (as ++ acc) S'
  | 0, S, acc, h => ⟨[], S, rfl, rfl, h⟩
  | n + 1, v :: S, acc, h => by
    obtain ⟨as, S', h1, h2, h3⟩ := popN_inv (n := n) (S := S) (acc := v :: acc) h
    exact ⟨as ++ [v], S', by simp [h1], by simp [h2], by simpa using h3⟩
  | _ + 1, [], _, h => h.elim
theorem catS_eq : ∀ (S : List Value), catS S = (S.map fun v => v.category).sum
  | [] => rfl
  | v :: S => by
    rw [List.map_cons, List.sum_cons, ← catS_eq S]
    cases v <;> rfl
section CAL
variable {l : Launch} {b : Nat} {tS : Nat → Value} {D : va_G} {dA : Nat → ClassId} {i9 : Int32} {a9 : Nat → Int32} {y pc : Nat} {L S : List Value} {I A : mI} {B : mB} {P : mP} {R : mR}
theorem Sx_moved {u U : State} (h : Sx b tS D dA i9 a9 u) (hW : u.WarmedH U.vm) (hz : u.heap.size ≤ U.heap.size) (hh : ∀ q : Nat, q < u.heap.size → ¬ Af b q → U.heap[q]? = u.heap[q]?) : Sx b tS D dA i9 a9 U := by
  have hvm : u.vm.Alike U.vm := hW.alike
  obtain ⟨h1, h2, o1, ⟨sb, o2, o3, o4, o5⟩, ⟨adK, adV, o6, o7, o8⟩, o9, o10, o11⟩ := h
  refine ⟨by omega, va_K.moved hvm h2, o1, ⟨sb, o2, o3, ?_, o5⟩, ⟨adK, adV, o6, ?_, fun q hq => ?_⟩, ?_, ?_, o11⟩
  · exact (va_X.moved hvm o4).kept (hh sb (by omega) (show ¬ b ≤ sb by omega))
  · exact (vk_S.moved hvm o7).kept hh
  · obtain ⟨t, ht⟩ := o8 q hq
    exact ⟨t, ht.warm hW⟩
  · exact (va_Z.moved hvm o9).kept hh
  · exact (va_Z.moved hvm o10).kept hh
/-- a method's start and end, in the small machine's words -/
def mPc (b : Nat) (tS : Nat → Value) (D : va_G) (dA : Nat → ClassId) (i9 : Int32) (a9 : Nat → Int32) (args : List Value) (I A : mI) (B : mB) (P : mP) : Array Value → State → Prop := va_Pc (args.map (tr b tS)) (fun U => va_P D vwCl (wsl b dA I A B P) U.heap ∧ Sx b tS D dA i9 a9 U ∧ I 900 0 = i9 ∧ A 900 = a9)
def mQc (b : Nat) (tS : Nat → Value) (D : va_G) (dA : Nat → ClassId) (i9 : Int32) (a9 : Nat → Int32) (R : mR) : Array Value → State → Outcome → State → Prop := fun _ st oc t => (∃ (v : Option Value) (I A : mI) (B : mB) (P : mP), R v I A B P ∧ oc = .returned (v.map (tr b tS)) ∧ va_P D vwCl (wsl b dA I A B P) t.heap ∧ I 900 0 = i9 ∧ A 900 = a9) ∧ va_F (Af b) st t
theorem mPc_blind {args : List Value} : FrameBlind (mPc b tS D dA i9 a9 args I A B P) := by
  intro a U g mk ⟨h0, h1, h2, h3, h4⟩
  exact ⟨h0, h1, Sx_moved (U := U.calling g mk a) h2 (State.WarmedH.refl U) (Nat.le_refl _) (fun _ _ _ => rfl), h3, h4⟩
noncomputable def mRm (y : Nat) : Room := { frames := mRf y, cells := 0, slots := 0, locals := mRl y }
theorem okY_parts {y : Nat} (h : okY y = true) : Cond.code (mNm y) (mCd y) (mMl y) (mRt y) ∈ mT ∧ Cond.initialized (mNm y).cls ∈ mT ∧ nth "" mOW (mOw y) = (mNm y).cls ∧ rtc (mRt y) = (mr y).2.1 ∧ (mNm y).cls ≠ "java/lang/invoke/MethodHandle" ∧ (mNm y).cls ≠ "java/lang/invoke/VarHandle" ∧ plainName (mNm y).cls = true ∧ ((mRc y = 0 → Cond.static (mNm y) ∈ mT ∧ (parseMethodDescriptor (mNm y).desc).map (fun d => d.parameters.length) = some (mr y).2.2.1) ∧ ∀ c, mRc y = c + 1 → Cond.instanceMethod (mNm y) ∈ mT ∧ Cond.selects (mNm y).cls (mNm y) (mNm y) ∈ mT ∧ (parseMethodDescriptor (mNm y).desc).map (fun d => d.parameters.length + 1) = some (mr y).2.2.1 ∧ (c = 98 → (mNm y).cls = "java/lang/String") ∧ (c ≠ 98 → (vwCl[c]?).map (fun q => q.1) = some (mNm y).cls)) := by
  unfold okY at h
  simp only [Bool.and_eq_true, decide_eq_true_eq] at h
  obtain ⟨h1, h2, h3, h4, h5, h6, h7, h8⟩ := h
  refine ⟨inT_mem h1, inT_mem h2, h3, Nat.eq_of_beq_eq_true h4, h5, h6, h7, fun e => ?_, fun c e => ?_⟩
  · rw [e] at h8
    simp only [Bool.and_eq_true, decide_eq_true_eq] at h8
    exact ⟨inT_mem h8.1, h8.2⟩
  · rw [e] at h8
    simp only [Bool.and_eq_true, decide_eq_true_eq] at h8
    obtain ⟨g1, g2, g3, g4⟩ := h8
    refine ⟨inT_mem g1, inT_mem g2, g3, fun e2 => ?_, fun e2 => ?_⟩
    · subst e2
      exact of_decide_eq_true g4
    · have : Nat.beq c 98 = false := by
        cases hb : Nat.beq c 98 with
        | true => exact absurd (Nat.eq_of_beq_eq_true hb) e2
        | false => rfl
      rw [this] at g4
      exact of_decide_eq_true g4
theorem met_of {args L0 : List Value} (hy : y < 378) (hlen : L0.length = mMl y) (hsl : ∀ (tS : Nat → Value), (∀ n, (tS n).category = 1) → (lg_sl (args.map (tr b tS))).length ≤ mMl y ∧ ∀ (i j : Nat) (v : Value), L0[j]? = some v → (∀ f, v ≠ .float f) → (i + j, tr b tS v) ∈ lv_args i (args.map (tr b tS)))
    (h : mj l b tS D dA i9 a9 y 0 L0 [] I A B P R) : Met l (mNm y) (.code (mNm y) (mCd y) (mMl y) (mRt y) :: mT) (mRm y) (mPc b tS D dA i9 a9 args I A B P) (mQc b tS D dA i9 a9 R) 0 0 (Af b) := by
  have hok := okY_parts (okY_all hy)
  refine Met.ofW (cc := mCd y) (maxL := mMl y) (ret := mRt y) hok.2.2.2.2.2.2.1 rfl ?_
  intro p e s m ar below meth c s₁ Bd hml hv
  obtain ⟨rfl, hP, hSx, h1, h2⟩ := hv
  have hx := Bd.exec
  have hb := Bd.bytes
  have hr := Bd.returns
  have hts := atoms_spec (ws := .code (mNm y) (mCd y) (mMl y) (mRt y) :: mT) Bd.pre
  have hown : s.vm.findClass (mNm y).cls = some m.cls := findClass_of_methodNamed Bd.named
  have hlocks := Bd.notSynchronized
  obtain ⟨hs1, hs2⟩ := hsl tS (out_cat hSx.2.2)
  have hl := lv_entry (args.map (tr b tS)) hs1
  rw [lg_entry_eq]
  refine h p e _ s m _ below meth c s.heap [] 0 0 _ _ (by omega) ⟨hx, hb, hml, hown, fun w hw => hts w (List.mem_cons_of_mem _ hw), Nat.le_refl _, Nat.le_refl _, Nat.zero_le _, Nat.zero_le _⟩ hSx ⟨hP, va_S.rf, h1, h2⟩ ⟨by rw [hl.1, hlen], hl.2.1, fun j v hj hf => ?_⟩ hlen ?_
  · have := hl.2.2 _ (hs2 0 j v hj hf)
    simpa using this
  · intro v I2 A2 B2 P2 H locs pc ls hR wl hat
    have hq : ∀ (t : State), t.heap = H → s.WarmedH t.vm → mQc b tS D dA i9 a9 R (List.map (tr b tS) args).toArray s (.returned (v.map (tr b tS))) t := fun t ht hW => ⟨⟨v, I2, A2, B2, P2, hR, rfl, by rw [ht]; exact wl.1, wl.2.2.1, wl.2.2.2⟩, wl.2.1.F ht⟩
    match v, hat with
    | none, hat => exact W.vret hx hb (hr.trans hat.2) hq wl.2.1.2.2 hat.1
    | some (.int x), hat =>
      obtain ⟨hd, ty, ht, hn⟩ := hat
      exact W.zret hx hb (hr.trans ht) hn hq wl.2.1.2.2 hd
    | some (.long x), hat => exact W.lret hx hb (hr.trans hat.2) hq wl.2.1.2.2 hat.1
    | some (.ref x), hat =>
      obtain ⟨hd, rt, ht, hrt⟩ := hat
      exact W.aret hx hb (hr.trans ht) hrt (Or.inr ⟨_, rfl⟩) hq wl.2.1.2.2 hd
    | some .null, hat =>
      obtain ⟨hd, rt, ht, hrt⟩ := hat
      exact W.aret hx hb (hr.trans ht) hrt (Or.inl rfl) hq wl.2.1.2.2 hd
end CAL
