/-! contracts of the reference: questions about entries (written by wip/whole/gm5.py) -/
set_option maxRecDepth 20000 in
theorem r_entry {J : mJ} (X : mRules J) {I A : mI} {B : mB} {w f : Nat} {R : mR} {a : Ac} (M : MR a w I A B) (V : Vw a) {e k : Int32} (h : qM a w f I A B R (some (.long (an_entry a (ixN a.n e) (ixN 6 k))))) : J n_M_entry 0 [.ref 43, .int e, .int k, .float 0] [] I A B (pk w f) R := by
  have hP40 := V.P40
  have hN8 := V.N8
  have hn4 := V.n4
  have hnt4 := V.nt4
  have hcN := V.cN
  have hPN := Nat.mul_le_mul hP40 hN8
  have hD31 : a.P * a.N < 2 ^ 31 := by omega
  have hN31 : a.N < 2 ^ 31 := by omega
  have hn31 : a.n < 2 ^ 31 := by omega
  have hnt31 : a.nt < 2 ^ 31 := by omega
  refine X 200 _ _ _ _ _ _ _ _ _ ?_
  refine c_MisEntry X M V (fun e0 he ee => ?_) (fun ze => ?_)
  · subst ee
    refine And.intro (fun q => absurd q (by decide)) (fun _ => ?_)
    refine c_MinK X 6 (by decide) (by decide) (fun k0 hk ek => ?_) (fun zk => ?_)
    · subst ek
      refine And.intro (fun _ => ?_) (fun q => absurd q (by decide))
      refine Exists.intro _ (And.intro rfl (And.intro (vin (by omega) (by omega)) ?_))
      refine And.intro (fun q1 => ?_) (fun q1 => ?_)
      · rw [ixN_s he hn31] at h
        rw [ixN_s hk (by decide)] at h
        have ck : k0 = 0 := (nI_eq (b := 0) (by omega) (by omega)).mp q1
        subst ck
        have h2 := h _ _ _ M (fM.refl _ _ _)
        have hb : (nI e0).toNatClampNeg = e0 := cl (by omega)
        have hs3 := V.so3 e0 he
        have e3 : A 54 (nI e0).toNatClampNeg = _ := (congrArg (A 54) hb).trans (M.hso e0 he)
        simp only [an_entry] at h2
        rw [← e3] at h2
        exact h2
      refine And.intro (fun q2 => ?_) (fun q2 => ?_)
      · refine Exists.intro _ (And.intro rfl (And.intro (vin (by omega) (by omega)) ?_))
        rw [ixN_s he hn31] at h
        rw [ixN_s hk (by decide)] at h
        have ck : k0 = 1 := (nI_eq (b := 1) (by omega) (by omega)).mp q2
        subst ck
        have h2 := h _ _ _ M (fM.refl _ _ _)
        have hb : (nI e0).toNatClampNeg = e0 := cl (by omega)
        have hs3 := V.so3 e0 he
        have e3 : B 55 (nI e0).toNatClampNeg = _ := (congrArg (B 55) hb).trans (M.ham e0 he)
        simp only [an_entry] at h2
        rw [← e3] at h2
        exact h2
      refine And.intro (fun q3 => ?_) (fun q3 => ?_)
      · refine Exists.intro _ (And.intro rfl (And.intro (vin (by omega) (by omega)) ?_))
        rw [ixN_s he hn31] at h
        rw [ixN_s hk (by decide)] at h
        have ck : k0 = 2 := (nI_eq (b := 2) (by omega) (by omega)).mp q3
        subst ck
        have h2 := h _ _ _ M (fM.refl _ _ _)
        have hb : (nI e0).toNatClampNeg = e0 := cl (by omega)
        have hs3 := V.so3 e0 he
        have e3 : A 56 (nI e0).toNatClampNeg = _ := (congrArg (A 56) hb).trans (M.hva e0 he)
        simp only [an_entry] at h2
        rw [← e3] at h2
        exact h2
      refine And.intro (fun q4 => ?_) (fun q4 => ?_)
      · refine Exists.intro _ (And.intro rfl (And.intro (vin (by omega) (by omega)) ?_))
        rw [ixN_s he hn31] at h
        rw [ixN_s hk (by decide)] at h
        have ck : k0 = 3 := (nI_eq (b := 3) (by omega) (by omega)).mp q4
        subst ck
        have h2 := h _ _ _ M (fM.refl _ _ _)
        have hb : (nI e0).toNatClampNeg = e0 := cl (by omega)
        have hs3 := V.so3 e0 he
        have e3 : A 57 (nI e0).toNatClampNeg = _ := (congrArg (A 57) hb).trans (M.hpg e0 he)
        simp only [an_entry] at h2
        rw [← e3] at h2
        exact h2
      refine And.intro (fun q5 => ?_) (fun q5 => ?_)
      · refine And.intro (fun q6 => ?_) (fun q6 => ?_)
        · refine Exists.intro _ (And.intro rfl (And.intro (vin (by omega) (by omega)) ?_))
          rw [ixN_s he hn31] at h
          rw [ixN_s hk (by decide)] at h
          have ck : k0 = 4 := (nI_eq (b := 4) (by omega) (by omega)).mp q5
          subst ck
          have h2 := h _ _ _ M (fM.refl _ _ _)
          have hb : (nI e0).toNatClampNeg = e0 := cl (by omega)
          have hs3 := V.so3 e0 he
          rw [hb, M.hso e0 he] at q6
          have c1 : a.so e0 = 1 ∨ a.so e0 = 2 := Or.inl ((nI_eq (b := 1) (by omega) (by omega)).mp q6)
          simp only [an_entry, if_pos c1] at h2
          have e3 : A 58 (nI e0).toNatClampNeg = _ := (congrArg (A 58) hb).trans (M.hog e0 he)
          rw [← e3] at h2
          exact h2
        · refine And.intro (fun q7 => ?_) (fun q7 => ?_)
          · rw [ixN_s he hn31] at h
            rw [ixN_s hk (by decide)] at h
            have ck : k0 = 4 := (nI_eq (b := 4) (by omega) (by omega)).mp q5
            subst ck
            have h2 := h _ _ _ M (fM.refl _ _ _)
            have hb : (nI e0).toNatClampNeg = e0 := cl (by omega)
            have hs3 := V.so3 e0 he
            rw [hb, M.hso e0 he] at q6
            rw [hb, M.hso e0 he] at q7
            have c1 : ¬ (a.so e0 = 1 ∨ a.so e0 = 2) := fun z => z.elim (fun y => q6 (by rw [y]; rfl)) (fun y => q7 (by rw [y]; rfl))
            simp only [an_entry, if_neg c1] at h2
            exact h2
          · refine Exists.intro _ (And.intro rfl (And.intro (vin (by omega) (by omega)) ?_))
            rw [ixN_s he hn31] at h
            rw [ixN_s hk (by decide)] at h
            have ck : k0 = 4 := (nI_eq (b := 4) (by omega) (by omega)).mp q5
            subst ck
            have h2 := h _ _ _ M (fM.refl _ _ _)
            have hb : (nI e0).toNatClampNeg = e0 := cl (by omega)
            have hs3 := V.so3 e0 he
            rw [hb, M.hso e0 he] at q6
            rw [hb, M.hso e0 he] at q7
            have c1 : a.so e0 = 1 ∨ a.so e0 = 2 := Or.inr ((nI_eq (b := 2) (by omega) (by omega)).mp q7)
            simp only [an_entry, if_pos c1] at h2
            have e3 : A 58 (nI e0).toNatClampNeg = _ := (congrArg (A 58) hb).trans (M.hog e0 he)
            rw [← e3] at h2
            exact h2
      refine And.intro (fun q8 => ?_) (fun q8 => ?_)
      · rw [ixN_s he hn31] at h
        rw [ixN_s hk (by decide)] at h
        have n0 : ¬ k0 = 0 := fun z => absurd (show nI k0 = 0 by rw [z]; rfl) (by assumption)
        have n1 : ¬ k0 = 1 := fun z => absurd (show nI k0 = 1 by rw [z]; rfl) (by assumption)
        have n2 : ¬ k0 = 2 := fun z => absurd (show nI k0 = 2 by rw [z]; rfl) (by assumption)
        have n3 : ¬ k0 = 3 := fun z => absurd (show nI k0 = 3 by rw [z]; rfl) (by assumption)
        have n4 : ¬ k0 = 4 := fun z => absurd (show nI k0 = 4 by rw [z]; rfl) (by assumption)
        have ck : k0 = 5 := by omega
        subst ck
        have h2 := h _ _ _ M (fM.refl _ _ _)
        have hb : (nI e0).toNatClampNeg = e0 := cl (by omega)
        have hs3 := V.so3 e0 he
        rw [hb, M.hso e0 he] at q8
        have c1 : ¬ a.so e0 = 3 := fun y => q8 (by rw [y]; rfl)
        simp only [an_entry, if_neg c1] at h2
        exact h2
      · refine Exists.intro _ (And.intro rfl (And.intro (vin (by omega) (by omega)) ?_))
        rw [ixN_s he hn31] at h
        rw [ixN_s hk (by decide)] at h
        have n0 : ¬ k0 = 0 := fun z => absurd (show nI k0 = 0 by rw [z]; rfl) (by assumption)
        have n1 : ¬ k0 = 1 := fun z => absurd (show nI k0 = 1 by rw [z]; rfl) (by assumption)
        have n2 : ¬ k0 = 2 := fun z => absurd (show nI k0 = 2 by rw [z]; rfl) (by assumption)
        have n3 : ¬ k0 = 3 := fun z => absurd (show nI k0 = 3 by rw [z]; rfl) (by assumption)
        have n4 : ¬ k0 = 4 := fun z => absurd (show nI k0 = 4 by rw [z]; rfl) (by assumption)
        have ck : k0 = 5 := by omega
        subst ck
        have h2 := h _ _ _ M (fM.refl _ _ _)
        have hb : (nI e0).toNatClampNeg = e0 := cl (by omega)
        have hs3 := V.so3 e0 he
        rw [hb, M.hso e0 he] at q8
        have c1 : a.so e0 = 3 := (nI_eq (b := 3) (by omega) (by omega)).mp q8
        simp only [an_entry, if_pos c1] at h2
        have e3 : A 58 (nI e0).toNatClampNeg = _ := (congrArg (A 58) hb).trans (M.hog e0 he)
        rw [← e3] at h2
        exact h2
    · refine And.intro (fun q => absurd (by decide) q) (fun _ => ?_)
      rw [ixN_s he hn31] at h
      rw [ixN_n (by decide) zk] at h
      exact h _ _ _ M (fM.refl _ _ _)
  · refine And.intro (fun _ => ?_) (fun q => absurd (by decide) q)
    rw [ixN_n hn31 ze] at h
    exact h _ _ _ M (fM.refl _ _ _)
theorem sub_n (m : Int32) (k : Nat) : m - nI k + (-1) = m - nI (k + 1) := by
  rw [← nI_1, Int32.sub_eq_add_neg, Int32.sub_eq_add_neg, Int32.neg_add, Int32.add_assoc, Int32.sub_eq_add_neg (-nI k) 1]
theorem sub_0 {m : Int32} {x : Int32} (h : m - x = 0) : x = m := by
  have := congrArg (· + x) h
  simp only [Int32.sub_add_cancel, Int32.zero_add] at this
  exact this.symm
set_option maxRecDepth 20000 in
theorem r_line {J : mJ} (X : mRules J) {I A : mI} {B : mB} {w f : Nat} {R : mR} {a : Ac} (M : MR a w I A B) (V : Vw a) {p m : Int32} (h : qM a w f I A B R (some (.int (an_line a (ixN a.N p) m)))) : J n_M_line 0 [.ref 43, .int p, .int m, .float 0, .float 0] [] I A B (pk w f) R := by
  have hP40 := V.P40
  have hN8 := V.N8
  have hn4 := V.n4
  have hnt4 := V.nt4
  have hcN := V.cN
  have hPN := Nat.mul_le_mul hP40 hN8
  have hD31 : a.P * a.N < 2 ^ 31 := by omega
  have hN31 : a.N < 2 ^ 31 := by omega
  have hn31 : a.n < 2 ^ 31 := by omega
  have hnt31 : a.nt < 2 ^ 31 := by omega
  have G0 : ∀ (p0 : Nat) (hp : p0 < a.N) (h : qM a w f I A B R (some (.int (fI (fd (zln a p0 m) a.n))))), ∀ i, i ≤ a.n → ∀ (s : Int32) (x : Int32), s = m - nI (ct (fun j => decide (a.pg j = p0)) i) → x = nI i → (∀ j, j < i → zln a p0 m j = false) → J n_M_line 20 [.ref 43, .int (nI p0), .int m, .int s, .int x] [] I A B (pk w f) R := by
    intro p0 hp h
    have G : ∀ i, i ≤ a.n → ∀ (s : Int32) (x : Int32), s = m - nI (ct (fun j => decide (a.pg j = p0)) i) → x = nI i → (∀ j, j < i → zln a p0 m j = false) → J n_M_line 20 [.ref 43, .int (nI p0), .int m, .int s, .int x] [] I A B (pk w f) R := by
      refine lpz (fun i => ∀ (s : Int32) (x : Int32), s = m - nI (ct (fun j => decide (a.pg j = p0)) i) → x = nI i → (∀ j, j < i → zln a p0 m j = false) → J n_M_line 20 [.ref 43, .int (nI p0), .int m, .int s, .int x] [] I A B (pk w f) R) (fun i hi ih => ?_)
      intro s x es ex hno
      subst es; subst ex
      refine X 200 _ _ _ _ _ _ _ _ _ ?_
      refine And.intro (fun q1 => ?_) (fun q1 => ?_)
      · rw [M.hn] at q1
        have e := lpx hi (by omega) q1
        subst e
        rw [fd_no hno] at h
        exact h _ _ _ M (fM.refl _ _ _)
      · rw [M.hn] at q1
        have hl := lpc hi (by omega) q1
        have hb31 : (nI i).toNatClampNeg = i := cl (by omega)
        have hs1 := M.hso i hl
        have ho1 := M.hog i hl
        have ha1 := M.ham i hl
        have hp1 := M.hpg i hl
        have hv1 := M.hva i hl
        have hs3 := V.so3 i hl
        have hv9 := V.va9 i hl
        have hp8 := V.pg8 i hl
        have ha9 := V.am1 i hl
        refine Exists.intro _ (And.intro rfl (And.intro (vin (by omega) (by omega)) ?_))
        refine And.intro (fun q2 => ?_) (fun q2 => ?_)
        · rw [hb31, hp1] at q2
          have cp : a.pg i = p0 := (nI_eq (by omega) (by omega)).mp q2
          have cc : (fun j => decide (a.pg j = p0)) i = true := decide_eq_true cp
          refine And.intro (fun q3 => ?_) (fun q3 => ?_)
          · exact ih hl _ _ (by rw [ct_t cc]; exact sub_n _ _) (nI_1 i) (all_lt hno (decide_eq_false (fun z => q3 (by rw [z.2]; exact Int32.sub_self _))))
          · rw [fd_at hl (decide_eq_true ⟨cp, sub_0 q3⟩) hno] at h
            exact h _ _ _ M (fM.refl _ _ _)
        · rw [hb31, hp1] at q2
          have cp : ¬ a.pg i = p0 := fun z => q2 (by rw [z])
          have cc : (fun j => decide (a.pg j = p0)) i = false := decide_eq_false cp
          exact ih hl _ _ (by rw [ct_f cc]) (nI_1 i) (all_lt hno (decide_eq_false (fun z => cp z.1)))
    exact G
  refine X 200 _ _ _ _ _ _ _ _ _ ?_
  refine c_MisPeriod X M V (fun p0 hp ep => ?_) (fun zp => ?_)
  · subst ep
    refine And.intro (fun q => absurd q (by decide)) (fun _ => ?_)
    refine And.intro (fun q1 => ?_) (fun q1 => ?_)
    · rw [ixN_s hp hN31] at h
      simp only [an_line, if_neg (show ¬ m < 0 from Int32.not_lt.mpr q1)] at h
      exact G0 p0 hp h 0 (Nat.zero_le _) _ _ (Int32.sub_zero m).symm rfl (fun j hj => absurd hj (Nat.not_lt_zero j))
    · rw [ixN_s hp hN31] at h
      simp only [an_line, if_pos (Int32.not_le.mp q1)] at h
      exact h _ _ _ M (fM.refl _ _ _)
  · refine And.intro (fun _ => ?_) (fun q => absurd (by decide) q)
    rw [ixN_n hN31 zp] at h
    exact h _ _ _ M (fM.refl _ _ _)
set_option maxRecDepth 20000 in
theorem r_page {J : mJ} (X : mRules J) {I A : mI} {B : mB} {w f : Nat} {R : mR} {a : Ac} (M : MR a w I A B) (V : Vw a) {p k : Int32} (h : qM a w f I A B R (some (.long (an_page a (ixN a.N p) (ixN 8 k))))) : J n_M_page 0 [.ref 43, .int p, .int k, .float 0, .float 0, .float 0, .float 0, .float 0, .float 0] [] I A B (pk w f) R := by
  have hP40 := V.P40
  have hN8 := V.N8
  have hn4 := V.n4
  have hnt4 := V.nt4
  have hcN := V.cN
  have hPN := Nat.mul_le_mul hP40 hN8
  have hD31 : a.P * a.N < 2 ^ 31 := by omega
  have hN31 : a.N < 2 ^ 31 := by omega
  have hn31 : a.n < 2 ^ 31 := by omega
  have hnt31 : a.nt < 2 ^ 31 := by omega
  have G0 : ∀ (p0 k0 : Nat) (hp : p0 < a.N) (hk : k0 < 8) (h : qM a w f I A B R (some (.long (an_page a (some p0) (some k0))))), ∀ i, i ≤ a.n → ∀ (s : Int64) (x : Int32) (z6 : Value) (z7 : Value), s = sm (zpgt a p0 k0) i → x = nI i → J n_M_page 29 [.ref 43, .int (nI p0), .int (nI k0), .long s, .float 0, .int x, z6, z7, .float 0] [] I A B (pk w f) R := by
    intro p0 k0 hp hk h
    have G : ∀ i, i ≤ a.n → ∀ (s : Int64) (x : Int32) (z6 : Value) (z7 : Value), s = sm (zpgt a p0 k0) i → x = nI i → J n_M_page 29 [.ref 43, .int (nI p0), .int (nI k0), .long s, .float 0, .int x, z6, z7, .float 0] [] I A B (pk w f) R := by
      refine lpz (fun i => ∀ (s : Int64) (x : Int32) (z6 : Value) (z7 : Value), s = sm (zpgt a p0 k0) i → x = nI i → J n_M_page 29 [.ref 43, .int (nI p0), .int (nI k0), .long s, .float 0, .int x, z6, z7, .float 0] [] I A B (pk w f) R) (fun i hi ih => ?_)
      intro s x z6 z7 es ex
      subst es; subst ex
      refine X 200 _ _ _ _ _ _ _ _ _ ?_
      refine And.intro (fun q1 => ?_) (fun q1 => ?_)
      · rw [M.hn] at q1
        have e := lpx hi (by omega) q1
        subst e
        exact h _ _ _ M (fM.refl _ _ _)
      · rw [M.hn] at q1
        have hl := lpc hi (by omega) q1
        have hb31 : (nI i).toNatClampNeg = i := cl (by omega)
        have hs1 := M.hso i hl
        have ho1 := M.hog i hl
        have ha1 := M.ham i hl
        have hp1 := M.hpg i hl
        have hv1 := M.hva i hl
        have hs3 := V.so3 i hl
        have hv9 := V.va9 i hl
        have hp8 := V.pg8 i hl
        have ha9 := V.am1 i hl
        refine Exists.intro _ (And.intro rfl (And.intro (vin (by omega) (by omega)) ?_))
        refine And.intro (fun q2 => ?_) (fun q2 => ?_)
        · rw [hb31, hp1] at q2
          have cp : ¬ a.pg i = p0 := fun z => q2 (by rw [z])
          refine Exists.intro _ (And.intro rfl (And.intro (vin (by omega) (by omega)) ?_))
          refine And.intro (fun q3 => ?_) (fun q3 => ?_)
          · refine Exists.intro _ (And.intro rfl (And.intro (vin (by omega) (by omega)) ?_))
            refine And.intro (fun q4 => ?_) (fun q4 => ?_)
            · rw [hb31, hp1] at q4
              have c1 : ¬ a.pg i < p0 := by have := (nI_leI (by omega) (by omega)).mp q4; omega
              have ck : k0 = 0 := (nI_eq (b := 0) (by omega) (by omega)).mp q3
              subst ck
              exact ih hl _ _ _ _ (by (try rw [hb31, ha1]); show sm (zpgt a p0 0) i + _ = sm (zpgt a p0 0) i + zpgt a p0 0 i; congr 1; simp [zpgt, c1]) (nI_1 i)
            · rw [hb31, hp1] at q4
              have c1 : a.pg i < p0 := Nat.lt_of_not_le (fun z => q4 (nI_le z (by omega)))
              have ck : k0 = 0 := (nI_eq (b := 0) (by omega) (by omega)).mp q3
              subst ck
              exact ih hl _ _ _ _ (by (try rw [hb31, ha1]); show sm (zpgt a p0 0) i + _ = sm (zpgt a p0 0) i + zpgt a p0 0 i; congr 1; simp [zpgt, c1]) (nI_1 i)
          refine And.intro (fun q5 => ?_) (fun q5 => ?_)
          · refine And.intro (fun _ => ?_) (fun q => absurd (by decide) q)
            have ck : k0 = 1 := (nI_eq (b := 1) (by omega) (by omega)).mp q5
            subst ck
            exact ih hl _ _ _ _ (by (try rw [hb31, ha1]); show sm (zpgt a p0 1) i + _ = sm (zpgt a p0 1) i + zpgt a p0 1 i; congr 1; simp [zpgt, cp]) (nI_1 i)
          refine And.intro (fun q6 => ?_) (fun q6 => ?_)
          · refine And.intro (fun _ => ?_) (fun q => absurd (by decide) q)
            have ck : k0 = 2 := (nI_eq (b := 2) (by omega) (by omega)).mp q6
            subst ck
            exact ih hl _ _ _ _ (by (try rw [hb31, ha1]); show sm (zpgt a p0 2) i + _ = sm (zpgt a p0 2) i + zpgt a p0 2 i; congr 1; simp [zpgt, cp]) (nI_1 i)
          refine And.intro (fun q7 => ?_) (fun q7 => ?_)
          · refine Exists.intro _ (And.intro rfl (And.intro (vin (by omega) (by omega)) ?_))
            refine And.intro (fun q8 => ?_) (fun q8 => ?_)
            · rw [hb31, hp1] at q8
              have c1 : ¬ a.pg i ≤ p0 := by have := (nI_ltI (by omega) (by omega)).mp q8; omega
              have ck : k0 = 6 := (nI_eq (b := 6) (by omega) (by omega)).mp q7
              subst ck
              exact ih hl _ _ _ _ (by (try rw [hb31, ha1]); show sm (zpgt a p0 6) i + _ = sm (zpgt a p0 6) i + zpgt a p0 6 i; congr 1; simp [zpgt, c1]) (nI_1 i)
            · rw [hb31, hp1] at q8
              have c1 : a.pg i ≤ p0 := Nat.le_of_not_lt (fun z => q8 (nI_lt z (by omega)))
              have ck : k0 = 6 := (nI_eq (b := 6) (by omega) (by omega)).mp q7
              subst ck
              exact ih hl _ _ _ _ (by (try rw [hb31, ha1]); show sm (zpgt a p0 6) i + _ = sm (zpgt a p0 6) i + zpgt a p0 6 i; congr 1; simp [zpgt, c1]) (nI_1 i)
          refine And.intro (fun q9 => ?_) (fun q9 => ?_)
          · refine And.intro (fun _ => ?_) (fun q => absurd (by decide) q)
            have ck : k0 = 7 := (nI_eq (b := 7) (by omega) (by omega)).mp q9
            subst ck
            exact ih hl _ _ _ _ (by (try rw [hb31, ha1]); show sm (zpgt a p0 7) i + _ = sm (zpgt a p0 7) i + zpgt a p0 7 i; congr 1; simp [zpgt, cp]) (nI_1 i)
          refine And.intro (fun _ => ?_) (fun q => absurd (by decide) q)
          have n0 : ¬ k0 = 0 := fun z => absurd (show nI k0 = 0 by rw [z]; rfl) (by assumption)
          have n1 : ¬ k0 = 1 := fun z => absurd (show nI k0 = 1 by rw [z]; rfl) (by assumption)
          have n2 : ¬ k0 = 2 := fun z => absurd (show nI k0 = 2 by rw [z]; rfl) (by assumption)
          have n6 : ¬ k0 = 6 := fun z => absurd (show nI k0 = 6 by rw [z]; rfl) (by assumption)
          have n7 : ¬ k0 = 7 := fun z => absurd (show nI k0 = 7 by rw [z]; rfl) (by assumption)
          exact ih hl _ _ _ _ (by (try rw [hb31, ha1]); show sm (zpgt a p0 k0) i + _ = sm (zpgt a p0 k0) i + zpgt a p0 k0 i; congr 1; simp [zpgt, cp, n0, n1, n2, n6, n7]) (nI_1 i)
        · rw [hb31, hp1] at q2
          have cp : a.pg i = p0 := (nI_eq (by omega) (by omega)).mp q2
          refine Exists.intro _ (And.intro rfl (And.intro (vin (by omega) (by omega)) ?_))
          refine And.intro (fun q10 => ?_) (fun q10 => ?_)
          · refine Exists.intro _ (And.intro rfl (And.intro (vin (by omega) (by omega)) ?_))
            refine And.intro (fun q11 => ?_) (fun q11 => ?_)
            · rw [hb31, hp1] at q11
              have c1 : ¬ a.pg i < p0 := by have := (nI_leI (by omega) (by omega)).mp q11; omega
              have ck : k0 = 0 := (nI_eq (b := 0) (by omega) (by omega)).mp q10
              subst ck
              exact ih hl _ _ _ _ (by (try rw [hb31, ha1]); show sm (zpgt a p0 0) i + _ = sm (zpgt a p0 0) i + zpgt a p0 0 i; congr 1; simp [zpgt, c1]) (nI_1 i)
            · rw [hb31, hp1] at q11
              have c1 : a.pg i < p0 := Nat.lt_of_not_le (fun z => q11 (nI_le z (by omega)))
              have ck : k0 = 0 := (nI_eq (b := 0) (by omega) (by omega)).mp q10
              subst ck
              exact ih hl _ _ _ _ (by (try rw [hb31, ha1]); show sm (zpgt a p0 0) i + _ = sm (zpgt a p0 0) i + zpgt a p0 0 i; congr 1; simp [zpgt, c1]) (nI_1 i)
          refine And.intro (fun q12 => ?_) (fun q12 => ?_)
          · refine And.intro (fun q => absurd q (by decide)) (fun _ => ?_)
            refine Exists.intro _ (And.intro rfl (And.intro (vin (by omega) (by omega)) ?_))
            refine And.intro (fun q13 => ?_) (fun q13 => ?_)
            · rw [hb31, hs1] at q13
              have c2 : ¬ a.so i = 0 := fun z => q13 (by rw [z]; rfl)
              have ck : k0 = 1 := (nI_eq (b := 1) (by omega) (by omega)).mp q12
              subst ck
              exact ih hl _ _ _ _ (by (try rw [hb31, ha1]); show sm (zpgt a p0 1) i + _ = sm (zpgt a p0 1) i + zpgt a p0 1 i; congr 1; simp [zpgt, cp, c2]) (nI_1 i)
            · rw [hb31, hs1] at q13
              have c2 : a.so i = 0 := (nI_eq (b := 0) (by omega) (by omega)).mp q13
              refine And.intro (fun q14 => ?_) (fun q14 => ?_)
              · rw [hb31, ha1] at q14
                have c3 : ¬ 0 < a.am i := by have := (zl_le0 (by omega) (by omega)).mp q14; omega
                have ck : k0 = 1 := (nI_eq (b := 1) (by omega) (by omega)).mp q12
                subst ck
                exact ih hl _ _ _ _ (by (try rw [hb31, ha1]); show sm (zpgt a p0 1) i + _ = sm (zpgt a p0 1) i + zpgt a p0 1 i; congr 1; simp [zpgt, cp, c2, c3]) (nI_1 i)
              · rw [hb31, ha1] at q14
                have c3 : 0 < a.am i := Int.not_le.mp (fun z => q14 ((zl_le0 (by omega) (by omega)).mpr z))
                have ck : k0 = 1 := (nI_eq (b := 1) (by omega) (by omega)).mp q12
                subst ck
                exact ih hl _ _ _ _ (by (try rw [hb31, ha1]); show sm (zpgt a p0 1) i + _ = sm (zpgt a p0 1) i + zpgt a p0 1 i; congr 1; simp [zpgt, cp, c2, c3]) (nI_1 i)
          refine And.intro (fun q15 => ?_) (fun q15 => ?_)
          · refine And.intro (fun q => absurd q (by decide)) (fun _ => ?_)
            refine Exists.intro _ (And.intro rfl (And.intro (vin (by omega) (by omega)) ?_))
            refine And.intro (fun q16 => ?_) (fun q16 => ?_)
            · rw [hb31, hs1] at q16
              have c2 : ¬ a.so i = 0 := fun z => q16 (by rw [z]; rfl)
              have ck : k0 = 2 := (nI_eq (b := 2) (by omega) (by omega)).mp q15
              subst ck
              exact ih hl _ _ _ _ (by (try rw [hb31, ha1]); show sm (zpgt a p0 2) i + _ = sm (zpgt a p0 2) i + zpgt a p0 2 i; congr 1; simp [zpgt, cp, c2]) (nI_1 i)
            · rw [hb31, hs1] at q16
              have c2 : a.so i = 0 := (nI_eq (b := 0) (by omega) (by omega)).mp q16
              refine And.intro (fun q17 => ?_) (fun q17 => ?_)
              · rw [hb31, ha1] at q17
                have c3 : ¬ a.am i < 0 := by have := (zl_ge0 (by omega) (by omega)).mp q17; omega
                have ck : k0 = 2 := (nI_eq (b := 2) (by omega) (by omega)).mp q15
                subst ck
                exact ih hl _ _ _ _ (by (try rw [hb31, ha1]); show sm (zpgt a p0 2) i + _ = sm (zpgt a p0 2) i + zpgt a p0 2 i; congr 1; simp [zpgt, cp, c2, c3]) (nI_1 i)
              · rw [hb31, ha1] at q17
                have c3 : a.am i < 0 := Int.not_le.mp (fun z => q17 ((zl_ge0 (by omega) (by omega)).mpr z))
                have ck : k0 = 2 := (nI_eq (b := 2) (by omega) (by omega)).mp q15
                subst ck
                exact ih hl _ _ _ _ (by (try rw [hb31, ha1]); show sm (zpgt a p0 2) i + _ = sm (zpgt a p0 2) i + zpgt a p0 2 i; congr 1; simp [zpgt, cp, c2, c3]) (nI_1 i)
          refine And.intro (fun q18 => ?_) (fun q18 => ?_)
          · refine Exists.intro _ (And.intro rfl (And.intro (vin (by omega) (by omega)) ?_))
            refine And.intro (fun q19 => ?_) (fun q19 => ?_)
            · rw [hb31, hp1] at q19
              have c1 : ¬ a.pg i ≤ p0 := by have := (nI_ltI (by omega) (by omega)).mp q19; omega
              have ck : k0 = 6 := (nI_eq (b := 6) (by omega) (by omega)).mp q18
              subst ck
              exact ih hl _ _ _ _ (by (try rw [hb31, ha1]); show sm (zpgt a p0 6) i + _ = sm (zpgt a p0 6) i + zpgt a p0 6 i; congr 1; simp [zpgt, c1]) (nI_1 i)
            · rw [hb31, hp1] at q19
              have c1 : a.pg i ≤ p0 := Nat.le_of_not_lt (fun z => q19 (nI_lt z (by omega)))
              have ck : k0 = 6 := (nI_eq (b := 6) (by omega) (by omega)).mp q18
              subst ck
              exact ih hl _ _ _ _ (by (try rw [hb31, ha1]); show sm (zpgt a p0 6) i + _ = sm (zpgt a p0 6) i + zpgt a p0 6 i; congr 1; simp [zpgt, c1]) (nI_1 i)
          refine And.intro (fun q20 => ?_) (fun q20 => ?_)
          · refine And.intro (fun q => absurd q (by decide)) (fun _ => ?_)
            have ck : k0 = 7 := (nI_eq (b := 7) (by omega) (by omega)).mp q20
            subst ck
            exact ih hl _ _ _ _ (by (try rw [hb31, ha1]); show sm (zpgt a p0 7) i + _ = sm (zpgt a p0 7) i + zpgt a p0 7 i; congr 1; simp [zpgt, cp]) (nI_1 i)
          refine And.intro (fun q => absurd q (by decide)) (fun _ => ?_)
          refine Exists.intro _ (And.intro rfl (And.intro (vin (by omega) (by omega)) ?_))
          refine And.intro (fun q21 => ?_) (fun q21 => ?_)
          · have n0 : ¬ k0 = 0 := fun z => absurd (show nI k0 = 0 by rw [z]; rfl) (by assumption)
            have n1 : ¬ k0 = 1 := fun z => absurd (show nI k0 = 1 by rw [z]; rfl) (by assumption)
            have n2 : ¬ k0 = 2 := fun z => absurd (show nI k0 = 2 by rw [z]; rfl) (by assumption)
            have n6 : ¬ k0 = 6 := fun z => absurd (show nI k0 = 6 by rw [z]; rfl) (by assumption)
            have n7 : ¬ k0 = 7 := fun z => absurd (show nI k0 = 7 by rw [z]; rfl) (by assumption)
            have e9 : nI k0 - 2 = nI (k0 - 2) := pk_sub (b := 2) (by omega)
            rw [hb31, hs1, e9] at q21
            have c4 : ¬ a.so i + 2 = k0 := fun z => q21 (by rw [show k0 - 2 = a.so i by omega])
            exact ih hl _ _ _ _ (by (try rw [hb31, ha1]); show sm (zpgt a p0 k0) i + _ = sm (zpgt a p0 k0) i + zpgt a p0 k0 i; congr 1; simp [zpgt, cp, c4, n0, n1, n2, n6, n7]) (nI_1 i)
          · have n0 : ¬ k0 = 0 := fun z => absurd (show nI k0 = 0 by rw [z]; rfl) (by assumption)
            have n1 : ¬ k0 = 1 := fun z => absurd (show nI k0 = 1 by rw [z]; rfl) (by assumption)
            have n2 : ¬ k0 = 2 := fun z => absurd (show nI k0 = 2 by rw [z]; rfl) (by assumption)
            have n6 : ¬ k0 = 6 := fun z => absurd (show nI k0 = 6 by rw [z]; rfl) (by assumption)
            have n7 : ¬ k0 = 7 := fun z => absurd (show nI k0 = 7 by rw [z]; rfl) (by assumption)
            have e9 : nI k0 - 2 = nI (k0 - 2) := pk_sub (b := 2) (by omega)
            rw [hb31, hs1, e9] at q21
            have c4 : a.so i + 2 = k0 := by have := (nI_eq (by omega) (by omega)).mp q21; omega
            exact ih hl _ _ _ _ (by (try rw [hb31, ha1]); show sm (zpgt a p0 k0) i + _ = sm (zpgt a p0 k0) i + zpgt a p0 k0 i; congr 1; simp [zpgt, cp, c4, n0, n1, n2, n6, n7]) (nI_1 i)
    exact G
  refine X 200 _ _ _ _ _ _ _ _ _ ?_
  refine c_MisPeriod X M V (fun p0 hp ep => ?_) (fun zp => ?_)
  · subst ep
    refine And.intro (fun q => absurd q (by decide)) (fun _ => ?_)
    refine c_MinK X 8 (by decide) (by decide) (fun k0 hk ek => ?_) (fun zk => ?_)
    · subst ek
      refine And.intro (fun _ => ?_) (fun q => absurd q (by decide))
      rw [ixN_s hp hN31] at h
      rw [ixN_s hk (by decide)] at h
      exact G0 p0 k0 hp hk h 0 (Nat.zero_le _) _ _ _ _ rfl rfl
    · refine And.intro (fun q => absurd (by decide) q) (fun _ => ?_)
      rw [ixN_s hp hN31] at h
      rw [ixN_n (by decide) zk] at h
      exact h _ _ _ M (fM.refl _ _ _)
  · refine And.intro (fun _ => ?_) (fun q => absurd (by decide) q)
    rw [ixN_n hN31 zp] at h
    exact h _ _ _ M (fM.refl _ _ _)
set_option maxRecDepth 20000 in
theorem r_backdated {J : mJ} (X : mRules J) {I A : mI} {B : mB} {w f : Nat} {R : mR} {a : Ac} (M : MR a w I A B) (V : Vw a) {p k : Int32} (h : qM a w f I A B R (some (.long (an_backdated a (ixN a.N p) (ixN 4 k))))) : J n_M_backdated 0 [.ref 43, .int p, .int k, .float 0, .float 0, .float 0, .float 0] [] I A B (pk w f) R := by
  have hP40 := V.P40
  have hN8 := V.N8
  have hn4 := V.n4
  have hnt4 := V.nt4
  have hcN := V.cN
  have hPN := Nat.mul_le_mul hP40 hN8
  have hD31 : a.P * a.N < 2 ^ 31 := by omega
  have hN31 : a.N < 2 ^ 31 := by omega
  have hn31 : a.n < 2 ^ 31 := by omega
  have hnt31 : a.nt < 2 ^ 31 := by omega
  have G0 : ∀ (p0 k0 : Nat) (hp : p0 < a.N) (hk : k0 < 4) (h : qM a w f I A B R (some (.long (an_backdated a (some p0) (some k0))))), ∀ i, i ≤ a.n → ∀ (s : Int64) (x : Int32) (z6 : Value), s = sm (zbdt a p0 k0) i → x = nI i → J n_M_backdated 29 [.ref 43, .int (nI p0), .int (nI k0), .long s, .float 0, .int x, z6] [] I A B (pk w f) R := by
    intro p0 k0 hp hk h
    have G : ∀ i, i ≤ a.n → ∀ (s : Int64) (x : Int32) (z6 : Value), s = sm (zbdt a p0 k0) i → x = nI i → J n_M_backdated 29 [.ref 43, .int (nI p0), .int (nI k0), .long s, .float 0, .int x, z6] [] I A B (pk w f) R := by
      refine lpz (fun i => ∀ (s : Int64) (x : Int32) (z6 : Value), s = sm (zbdt a p0 k0) i → x = nI i → J n_M_backdated 29 [.ref 43, .int (nI p0), .int (nI k0), .long s, .float 0, .int x, z6] [] I A B (pk w f) R) (fun i hi ih => ?_)
      intro s x z6 es ex
      subst es; subst ex
      have hple := P_le hp
      have e24 : A w 0 * (nI p0 + 1) = nI (a.P * p0 + a.P) := by rw [M.hP, nI_1, pk_mul, Nat.mul_succ]
      refine X 200 _ _ _ _ _ _ _ _ _ ?_
      refine And.intro (fun q1 => ?_) (fun q1 => ?_)
      · rw [M.hn] at q1
        have e := lpx hi (by omega) q1
        subst e
        exact h _ _ _ M (fM.refl _ _ _)
      · rw [M.hn] at q1
        have hl := lpc hi (by omega) q1
        have hb31 : (nI i).toNatClampNeg = i := cl (by omega)
        have hs1 := M.hso i hl
        have ho1 := M.hog i hl
        have ha1 := M.ham i hl
        have hp1 := M.hpg i hl
        have hv1 := M.hva i hl
        have hs3 := V.so3 i hl
        have hv9 := V.va9 i hl
        have hp8 := V.pg8 i hl
        have ha9 := V.am1 i hl
        refine And.intro (fun q2 => ?_) (fun q2 => ?_)
        · have ck : ¬ k0 < 2 := by have := (nI_leI (a := 2) (by omega) (by omega)).mp q2; omega
          refine Exists.intro _ (And.intro rfl (And.intro (vin (by omega) (by omega)) ?_))
          refine Exists.intro _ (And.intro M.hw (And.intro (vlit rfl) ?_))
          refine And.intro (fun q3 => ?_) (fun q3 => ?_)
          · have q9 : A 56 (nI i).toNatClampNeg < A w 0 * (nI p0 + 1) := q3
            rw [hb31, hv1, e24] at q9
            have c1 : ¬ a.P * p0 + a.P ≤ a.va i := by have := (nI_ltI (by omega) (by omega)).mp q9; omega
            refine Exists.intro _ (And.intro rfl (And.intro (vin (by omega) (by omega)) ?_))
            refine And.intro (fun q4 => ?_) (fun q4 => ?_)
            · rw [hb31, hp1] at q4
              have cp : ¬ a.pg i = p0 := fun z => q4 (by rw [z])
              exact ih hl _ _ _ (by (try rw [hb31, ha1]); first | (show sm (zbdt a p0 k0) i + _ = sm (zbdt a p0 k0) i + zbdt a p0 k0 i; congr 1; simp [zbdt, ck, c1, cp]; done) | (show sm (zbdt a p0 k0) i = sm (zbdt a p0 k0) i + zbdt a p0 k0 i; simp [zbdt, ck, c1, cp])) (nI_1 i)
            · rw [hb31, hp1] at q4
              have cp : a.pg i = p0 := (nI_eq (by omega) (by omega)).mp q4
              refine And.intro (fun _ => ?_) (fun q => absurd (by decide) q)
              exact ih hl _ _ _ (by (try rw [hb31, ha1]); first | (show sm (zbdt a p0 k0) i + _ = sm (zbdt a p0 k0) i + zbdt a p0 k0 i; congr 1; simp [zbdt, ck, c1, cp]; done) | (show sm (zbdt a p0 k0) i = sm (zbdt a p0 k0) i + zbdt a p0 k0 i; simp [zbdt, ck, c1, cp])) (nI_1 i)
          · have q9 : ¬ A 56 (nI i).toNatClampNeg < A w 0 * (nI p0 + 1) := q3
            rw [hb31, hv1, e24] at q9
            have c1 : a.P * p0 + a.P ≤ a.va i := Nat.le_of_not_lt (fun z => q9 (nI_lt z (by omega)))
            refine Exists.intro _ (And.intro rfl (And.intro (vin (by omega) (by omega)) ?_))
            refine And.intro (fun q5 => ?_) (fun q5 => ?_)
            · rw [hb31, hp1] at q5
              have cp : ¬ a.pg i = p0 := fun z => q5 (by rw [z])
              exact ih hl _ _ _ (by (try rw [hb31, ha1]); first | (show sm (zbdt a p0 k0) i + _ = sm (zbdt a p0 k0) i + zbdt a p0 k0 i; congr 1; simp [zbdt, ck, c1, cp]; done) | (show sm (zbdt a p0 k0) i = sm (zbdt a p0 k0) i + zbdt a p0 k0 i; simp [zbdt, ck, c1, cp])) (nI_1 i)
            · rw [hb31, hp1] at q5
              have cp : a.pg i = p0 := (nI_eq (by omega) (by omega)).mp q5
              refine And.intro (fun q => absurd q (by decide)) (fun _ => ?_)
              refine And.intro (by decide) ?_
              refine And.intro (fun q6 => ?_) (fun q6 => ?_)
              · have q8 : ¬ nI k0 - nI k0 / nI 2 * nI 2 = 0 := q6
                rw [pk_rem (by omega) (by omega) (by omega)] at q8
                have c5 : ¬ k0 % 2 = 0 := fun z => q8 (by rw [z]; rfl)
                refine Exists.intro _ (And.intro rfl (And.intro (vin (by omega) (by omega)) ?_))
                exact ih hl _ _ _ (by (try rw [hb31, ha1]); first | (show sm (zbdt a p0 k0) i + _ = sm (zbdt a p0 k0) i + zbdt a p0 k0 i; congr 1; simp [zbdt, ck, c1, cp, c5]; done) | (show sm (zbdt a p0 k0) i = sm (zbdt a p0 k0) i + zbdt a p0 k0 i; simp [zbdt, ck, c1, cp, c5])) (nI_1 i)
              · have q8 : nI k0 - nI k0 / nI 2 * nI 2 = 0 := q6
                rw [pk_rem (by omega) (by omega) (by omega)] at q8
                have c5 : k0 % 2 = 0 := (nI_eq (b := 0) (by omega) (by omega)).mp q8
                exact ih hl _ _ _ (by (try rw [hb31, ha1]); first | (show sm (zbdt a p0 k0) i + _ = sm (zbdt a p0 k0) i + zbdt a p0 k0 i; congr 1; simp [zbdt, ck, c1, cp, c5]; done) | (show sm (zbdt a p0 k0) i = sm (zbdt a p0 k0) i + zbdt a p0 k0 i; simp [zbdt, ck, c1, cp, c5])) (nI_1 i)
        · have ck : k0 < 2 := Nat.lt_of_not_le (fun z => q2 (nI_le (a := 2) z (by omega)))
          refine Exists.intro _ (And.intro rfl (And.intro (vin (by omega) (by omega)) ?_))
          refine Exists.intro _ (And.intro M.hw (And.intro (vlit rfl) ?_))
          refine And.intro (fun q7 => ?_) (fun q7 => ?_)
          · have q9 : A w 0 * nI p0 ≤ A 56 (nI i).toNatClampNeg := q7
            rw [hb31, hv1, M.hP, pk_mul] at q9
            have c1 : ¬ a.va i < a.P * p0 := by have := (nI_leI (by omega) (by omega)).mp q9; omega
            refine Exists.intro _ (And.intro rfl (And.intro (vin (by omega) (by omega)) ?_))
            refine And.intro (fun q8 => ?_) (fun q8 => ?_)
            · rw [hb31, hp1] at q8
              have cp : ¬ a.pg i = p0 := fun z => q8 (by rw [z])
              exact ih hl _ _ _ (by (try rw [hb31, ha1]); first | (show sm (zbdt a p0 k0) i + _ = sm (zbdt a p0 k0) i + zbdt a p0 k0 i; congr 1; simp [zbdt, ck, c1, cp]; done) | (show sm (zbdt a p0 k0) i = sm (zbdt a p0 k0) i + zbdt a p0 k0 i; simp [zbdt, ck, c1, cp])) (nI_1 i)
            · rw [hb31, hp1] at q8
              have cp : a.pg i = p0 := (nI_eq (by omega) (by omega)).mp q8
              refine And.intro (fun _ => ?_) (fun q => absurd (by decide) q)
              exact ih hl _ _ _ (by (try rw [hb31, ha1]); first | (show sm (zbdt a p0 k0) i + _ = sm (zbdt a p0 k0) i + zbdt a p0 k0 i; congr 1; simp [zbdt, ck, c1, cp]; done) | (show sm (zbdt a p0 k0) i = sm (zbdt a p0 k0) i + zbdt a p0 k0 i; simp [zbdt, ck, c1, cp])) (nI_1 i)
          · have q9 : ¬ A w 0 * nI p0 ≤ A 56 (nI i).toNatClampNeg := q7
            rw [hb31, hv1, M.hP, pk_mul] at q9
            have c1 : a.va i < a.P * p0 := Nat.lt_of_not_le (fun z => q9 (nI_le z (by omega)))
            refine Exists.intro _ (And.intro rfl (And.intro (vin (by omega) (by omega)) ?_))
            refine And.intro (fun q9 => ?_) (fun q9 => ?_)
            · rw [hb31, hp1] at q9
              have cp : ¬ a.pg i = p0 := fun z => q9 (by rw [z])
              exact ih hl _ _ _ (by (try rw [hb31, ha1]); first | (show sm (zbdt a p0 k0) i + _ = sm (zbdt a p0 k0) i + zbdt a p0 k0 i; congr 1; simp [zbdt, ck, c1, cp]; done) | (show sm (zbdt a p0 k0) i = sm (zbdt a p0 k0) i + zbdt a p0 k0 i; simp [zbdt, ck, c1, cp])) (nI_1 i)
            · rw [hb31, hp1] at q9
              have cp : a.pg i = p0 := (nI_eq (by omega) (by omega)).mp q9
              refine And.intro (fun q => absurd q (by decide)) (fun _ => ?_)
              refine And.intro (by decide) ?_
              refine And.intro (fun q10 => ?_) (fun q10 => ?_)
              · have q8 : ¬ nI k0 - nI k0 / nI 2 * nI 2 = 0 := q10
                rw [pk_rem (by omega) (by omega) (by omega)] at q8
                have c5 : ¬ k0 % 2 = 0 := fun z => q8 (by rw [z]; rfl)
                refine Exists.intro _ (And.intro rfl (And.intro (vin (by omega) (by omega)) ?_))
                exact ih hl _ _ _ (by (try rw [hb31, ha1]); first | (show sm (zbdt a p0 k0) i + _ = sm (zbdt a p0 k0) i + zbdt a p0 k0 i; congr 1; simp [zbdt, ck, c1, cp, c5]; done) | (show sm (zbdt a p0 k0) i = sm (zbdt a p0 k0) i + zbdt a p0 k0 i; simp [zbdt, ck, c1, cp, c5])) (nI_1 i)
              · have q8 : nI k0 - nI k0 / nI 2 * nI 2 = 0 := q10
                rw [pk_rem (by omega) (by omega) (by omega)] at q8
                have c5 : k0 % 2 = 0 := (nI_eq (b := 0) (by omega) (by omega)).mp q8
                exact ih hl _ _ _ (by (try rw [hb31, ha1]); first | (show sm (zbdt a p0 k0) i + _ = sm (zbdt a p0 k0) i + zbdt a p0 k0 i; congr 1; simp [zbdt, ck, c1, cp, c5]; done) | (show sm (zbdt a p0 k0) i = sm (zbdt a p0 k0) i + zbdt a p0 k0 i; simp [zbdt, ck, c1, cp, c5])) (nI_1 i)
    exact G
  refine X 200 _ _ _ _ _ _ _ _ _ ?_
  refine c_MisPeriod X M V (fun p0 hp ep => ?_) (fun zp => ?_)
  · subst ep
    refine And.intro (fun q => absurd q (by decide)) (fun _ => ?_)
    refine c_MinK X 4 (by decide) (by decide) (fun k0 hk ek => ?_) (fun zk => ?_)
    · subst ek
      refine And.intro (fun _ => ?_) (fun q => absurd q (by decide))
      rw [ixN_s hp hN31] at h
      rw [ixN_s hk (by decide)] at h
      exact G0 p0 k0 hp hk h 0 (Nat.zero_le _) _ _ _ rfl rfl
    · refine And.intro (fun q => absurd (by decide) q) (fun _ => ?_)
      rw [ixN_s hp hN31] at h
      rw [ixN_n (by decide) zk] at h
      exact h _ _ _ M (fM.refl _ _ _)
  · refine And.intro (fun _ => ?_) (fun q => absurd (by decide) q)
    rw [ixN_n hN31 zp] at h
    exact h _ _ _ M (fM.refl _ _ _)
set_option maxRecDepth 20000 in
theorem r_sorted {J : mJ} (X : mRules J) {I A : mI} {B : mB} {w f : Nat} {R : mR} {a : Ac} (M : MR a w I A B) (V : Vw a) {bk : Bool} (hbk : 0 < A w 3 ↔ bk = true) {k : Int32} (h : qM a w f I A B R (some (.int (an_sorted a bk k)))) : J n_M_sorted 0 [.ref 43, .int k, .float 0, .float 0, .float 0] [] I A B (pk w f) R := by
  have hP40 := V.P40
  have hN8 := V.N8
  have hn4 := V.n4
  have hnt4 := V.nt4
  have hcN := V.cN
  have hPN := Nat.mul_le_mul hP40 hN8
  have hD31 : a.P * a.N < 2 ^ 31 := by omega
  have hN31 : a.N < 2 ^ 31 := by omega
  have hn31 : a.n < 2 ^ 31 := by omega
  have hnt31 : a.nt < 2 ^ 31 := by omega
  have G0 : ∀ (h : qM a w f I A B R (some (.int (fI (fd (fun e => decide (nI (rnk a e) = k)) a.n))))), ∀ i, i ≤ a.n → ∀ (x : Int32) (z3 : Value) (z4 : Value), x = nI i → (∀ j, j < i → (fun e => decide (nI (rnk a e) = k)) j = false) → J n_M_sorted 16 [.ref 43, .int k, .int x, z3, z4] [] I A B (pk w f) R := by
    intro h
    have G : ∀ i, i ≤ a.n → ∀ (x : Int32) (z3 : Value) (z4 : Value), x = nI i → (∀ j, j < i → (fun e => decide (nI (rnk a e) = k)) j = false) → J n_M_sorted 16 [.ref 43, .int k, .int x, z3, z4] [] I A B (pk w f) R := by
      refine lpz (fun i => ∀ (x : Int32) (z3 : Value) (z4 : Value), x = nI i → (∀ j, j < i → (fun e => decide (nI (rnk a e) = k)) j = false) → J n_M_sorted 16 [.ref 43, .int k, .int x, z3, z4] [] I A B (pk w f) R) (fun i hi ih => ?_)
      intro x z3 z4 ex hno
      subst ex
      refine X 200 _ _ _ _ _ _ _ _ _ ?_
      refine And.intro (fun q1 => ?_) (fun q1 => ?_)
      · rw [M.hn] at q1
        have e := lpx hi (by omega) q1
        subst e
        rw [fd_no hno] at h
        exact h _ _ _ M (fM.refl _ _ _)
      · rw [M.hn] at q1
        have hl := lpc hi (by omega) q1
        have hb31 : (nI i).toNatClampNeg = i := cl (by omega)
        have hs1 := M.hso i hl
        have ho1 := M.hog i hl
        have ha1 := M.ham i hl
        have hp1 := M.hpg i hl
        have hv1 := M.hva i hl
        have hs3 := V.so3 i hl
        have hv9 := V.va9 i hl
        have hp8 := V.pg8 i hl
        have ha9 := V.am1 i hl
        have G2 : ∀ o, o ≤ a.n → ∀ (s2 : Int32) (x2 : Int32), s2 = nI (ct (bfr a i) o) → x2 = nI o → J n_M_sorted 29 [.ref 43, .int k, .int (nI i), .int s2, .int x2] [] I A B (pk w f) R := by
          refine lpz (fun o => ∀ (s2 : Int32) (x2 : Int32), s2 = nI (ct (bfr a i) o) → x2 = nI o → J n_M_sorted 29 [.ref 43, .int k, .int (nI i), .int s2, .int x2] [] I A B (pk w f) R) (fun o hio iho => ?_)
          intro s2 x2 es2 ex2
          subst es2; subst ex2
          refine X 200 _ _ _ _ _ _ _ _ _ ?_
          refine And.intro (fun q1 => ?_) (fun q1 => ?_)
          · rw [M.hn] at q1
            have e9 := lpx hio (by omega) q1
            subst e9
            refine And.intro (fun q2 => ?_) (fun q2 => ?_)
            · exact ih hl _ _ _ (nI_1 i) (all_lt hno (decide_eq_false q2))
            · rw [fd_at hl (decide_eq_true q2) hno] at h
              exact h _ _ _ M (fM.refl _ _ _)
          · rw [M.hn] at q1
            have hlo := lpc hio (by omega) q1
            have hbo : (nI o).toNatClampNeg = o := cl (by omega)
            have hvo := M.hva o hlo
            have hv9o := V.va9 o hlo
            refine Exists.intro _ (And.intro rfl (And.intro (vin (by omega) (by omega)) ?_))
            refine Exists.intro _ (And.intro rfl (And.intro (vin (by omega) (by omega)) ?_))
            refine And.intro (fun q3 => ?_) (fun q3 => ?_)
            · rw [hbo, hb31, hvo, hv1] at q3
              have c1 : a.va o < a.va i := (nI_ltI (by omega) (by omega)).mp q3
              have cb : bfr a i o = true := by unfold bfr; first | exact decide_eq_true (by omega) | exact decide_eq_false (by omega)
              exact iho hlo _ _ (by rw [ct_t cb]; exact nI_1 _) (nI_1 o)
            · rw [hbo, hb31, hvo, hv1] at q3
              have c1 : ¬ a.va o < a.va i := fun z => q3 (nI_lt z (by omega))
              refine Exists.intro _ (And.intro rfl (And.intro (vin (by omega) (by omega)) ?_))
              refine Exists.intro _ (And.intro rfl (And.intro (vin (by omega) (by omega)) ?_))
              refine And.intro (fun q4 => ?_) (fun q4 => ?_)
              · rw [hbo, hb31, hvo, hv1] at q4
                have c2 : ¬ a.va o = a.va i := fun z => q4 (by rw [z])
                have cb : bfr a i o = false := by unfold bfr; first | exact decide_eq_true (by omega) | exact decide_eq_false (by omega)
                exact iho hlo _ _ (by rw [ct_f cb]; exact Int32.add_zero _) (nI_1 o)
              · rw [hbo, hb31, hvo, hv1] at q4
                have c2 : a.va o = a.va i := (nI_eq (by omega) (by omega)).mp q4
                refine And.intro (fun q5 => ?_) (fun q5 => ?_)
                · have c3 : ¬ o < i := by have := (nI_leI (by omega) (by omega)).mp q5; omega
                  have cb : bfr a i o = false := by unfold bfr; first | exact decide_eq_true (by omega) | exact decide_eq_false (by omega)
                  exact iho hlo _ _ (by rw [ct_f cb]; exact Int32.add_zero _) (nI_1 o)
                · have c3 : o < i := Nat.lt_of_not_le (fun z => q5 (nI_le z (by omega)))
                  have cb : bfr a i o = true := by unfold bfr; first | exact decide_eq_true (by omega) | exact decide_eq_false (by omega)
                  exact iho hlo _ _ (by rw [ct_t cb]; exact nI_1 _) (nI_1 o)
        exact G2 0 (Nat.zero_le _) _ _ rfl rfl
    exact G
  refine X 200 _ _ _ _ _ _ _ _ _ ?_
  refine c_MisBk X M.hw hbk (fun zb => ?_) (fun zb => ?_)
  · subst zb
    refine And.intro (fun q => absurd q (by decide)) (fun _ => ?_)
    refine And.intro (fun q1 => ?_) (fun q1 => ?_)
    · simp only [an_sorted, if_neg (show ¬ k < 0 from Int32.not_lt.mpr q1)] at h
      exact G0 h 0 (Nat.zero_le _) _ _ _ rfl (fun j hj => absurd hj (Nat.not_lt_zero j))
    · simp only [an_sorted, if_pos (show k < 0 from Int32.not_le.mp q1)] at h
      exact h _ _ _ M (fM.refl _ _ _)
  · subst zb
    refine And.intro (fun _ => ?_) (fun q => absurd (by decide) q)
    exact h _ _ _ M (fM.refl _ _ _)
theorem hv_t {c : Nat → Bool} {n : Nat} (h : ¬ (if (fd c n).isSome = true then (1 : Int32) else 0) = 0) : (fd c n).isSome = true := by
  by_cases z : (fd c n).isSome = true
  · exact z
  · rw [if_neg z] at h
    exact absurd rfl h
theorem hv_f {c : Nat → Bool} {n : Nat} (h : (if (fd c n).isSome = true then (1 : Int32) else 0) = 0) : (fd c n).isSome = false := by
  by_cases z : (fd c n).isSome = true
  · rw [if_pos z] at h
    exact absurd h (by decide)
  · simpa using z
theorem fd_s1 {c : Nat → Bool} {n : Nat} (h : (fd c n).isSome = true) : (fd c (n + 1)).isSome = true := by
  unfold fd
  cases hq : fd c n with
  | some j => rfl
  | none => rw [hq] at h; cases h
theorem hv_1 {c : Nat → Bool} {n : Nat} (h : ¬ (if (fd c n).isSome = true then (1 : Int32) else 0) = 0) : (1 : Int32) = (if (fd c (n + 1)).isSome = true then 1 else 0) := by
  rw [if_pos (fd_s1 (hv_t h))]
theorem hv_2 {a : Ac} {i n : Nat} (h : a.va n = i) : (1 : Int32) = (if (fd (fun e => decide (a.va e = i)) (n + 1)).isSome = true then 1 else 0) := by
  rw [if_pos]
  unfold fd
  cases fd (fun e => decide (a.va e = i)) n with
  | some j => rfl
  | none =>
    show (if decide (a.va n = i) = true then some n else none).isSome = true
    rw [if_pos (decide_eq_true h)]
    rfl
theorem hv_3 {a : Ac} {i n : Nat} (h : (if (fd (fun e => decide (a.va e = i)) n).isSome = true then (1 : Int32) else 0) = 0) (h2 : ¬ a.va n = i) : (0 : Int32) = (if (fd (fun e => decide (a.va e = i)) (n + 1)).isSome = true then 1 else 0) := by
  have h3 := hv_f h
  rw [if_neg]
  unfold fd
  cases hq : fd (fun e => decide (a.va e = i)) n with
  | some j => rw [hq] at h3; cases h3
  | none =>
    show ¬ (if decide (a.va n = i) = true then some n else none).isSome = true
    rw [if_neg (by simpa using h2)]
    simp
set_option maxRecDepth 20000 in
theorem r_bears {J : mJ} (X : mRules J) {I A : mI} {B : mB} {w f : Nat} {R : mR} {a : Ac} (M : MR a w I A B) (V : Vw a) {p : Int32} (h : qM a w f I A B R (some (.int (an_bears a (ixN a.N p))))) : J n_M_bears 0 [.ref 43, .int p, .float 0, .float 0, .float 0, .float 0] [] I A B (pk w f) R := by
  have hP40 := V.P40
  have hN8 := V.N8
  have hn4 := V.n4
  have hnt4 := V.nt4
  have hcN := V.cN
  have hPN := Nat.mul_le_mul hP40 hN8
  have hD31 : a.P * a.N < 2 ^ 31 := by omega
  have hN31 : a.N < 2 ^ 31 := by omega
  have hn31 : a.n < 2 ^ 31 := by omega
  have hnt31 : a.nt < 2 ^ 31 := by omega
  have G0 : ∀ (p0 : Nat) (hp : p0 < a.N) (h : qM a w f I A B R (some (.int (an_bears a (some p0))))), ∀ i, i ≤ (a.P * p0 + a.P) → ∀ (s : Int32) (x : Int32) (z4 : Value) (z5 : Value), s = nI (ct (zhv a) i) → x = nI i → J n_M_bears 15 [.ref 43, .int (nI p0), .int s, .int x, z4, z5] [] I A B (pk w f) R := by
    intro p0 hp h
    have G : ∀ i, i ≤ (a.P * p0 + a.P) → ∀ (s : Int32) (x : Int32) (z4 : Value) (z5 : Value), s = nI (ct (zhv a) i) → x = nI i → J n_M_bears 15 [.ref 43, .int (nI p0), .int s, .int x, z4, z5] [] I A B (pk w f) R := by
      refine lpz (fun i => ∀ (s : Int32) (x : Int32) (z4 : Value) (z5 : Value), s = nI (ct (zhv a) i) → x = nI i → J n_M_bears 15 [.ref 43, .int (nI p0), .int s, .int x, z4, z5] [] I A B (pk w f) R) (fun i hi ih => ?_)
      intro s x z4 z5 es ex
      subst es; subst ex
      have hple := P_le hp
      have e24 : A w 0 * (nI p0 + 1) = nI (a.P * p0 + a.P) := by rw [M.hP, nI_1, pk_mul, Nat.mul_succ]
      refine X 200 _ _ _ _ _ _ _ _ _ ?_
      refine Exists.intro _ (And.intro M.hw (And.intro (vlit rfl) ?_))
      refine And.intro (fun q1 => ?_) (fun q1 => ?_)
      · have q0 : A w 0 * (nI p0 + 1) ≤ nI i := q1
        rw [e24] at q0
        have e := lpx hi (by omega) q0
        subst e
        exact h _ _ _ M (fM.refl _ _ _)
      · have q0 : ¬ A w 0 * (nI p0 + 1) ≤ nI i := q1
        rw [e24] at q0
        have hl := lpc hi (by omega) q0
        have G2 : ∀ o, o ≤ a.n → ∀ (s2 : Int32) (x2 : Int32), s2 = (if (fd (fun e => decide (a.va e = i)) o).isSome then 1 else 0) → x2 = nI o → J n_M_bears 35 [.ref 43, .int (nI p0), .int (nI (ct (zhv a) i)), .int (nI i), .int s2, .int x2] [] I A B (pk w f) R := by
          refine lpz (fun o => ∀ (s2 : Int32) (x2 : Int32), s2 = (if (fd (fun e => decide (a.va e = i)) o).isSome then 1 else 0) → x2 = nI o → J n_M_bears 35 [.ref 43, .int (nI p0), .int (nI (ct (zhv a) i)), .int (nI i), .int s2, .int x2] [] I A B (pk w f) R) (fun o hio iho => ?_)
          intro s2 x2 es2 ex2
          subst es2; subst ex2
          refine X 200 _ _ _ _ _ _ _ _ _ ?_
          refine And.intro (fun q1 => ?_) (fun q1 => ?_)
          · rw [M.hn] at q1
            have e9 := lpx hio (by omega) q1
            subst e9
            refine And.intro (fun q2 => ?_) (fun q2 => ?_)
            · exact ih hl _ _ _ _ (by rw [ct_f (hv_f q2)]; exact Int32.add_zero _) (nI_1 i)
            · exact ih hl _ _ _ _ (by rw [ct_t (hv_t q2)]; exact nI_1 _) (nI_1 i)
          · rw [M.hn] at q1
            have hlo := lpc hio (by omega) q1
            have hbo : (nI o).toNatClampNeg = o := cl (by omega)
            have hvo := M.hva o hlo
            have hv9o := V.va9 o hlo
            refine And.intro (fun q3 => ?_) (fun q3 => ?_)
            · exact iho hlo _ _ (hv_1 q3) (nI_1 o)
            · refine Exists.intro _ (And.intro rfl (And.intro (vin (by omega) (by omega)) ?_))
              refine And.intro (fun q4 => ?_) (fun q4 => ?_)
              · rw [hbo, hvo] at q4
                have c1 : ¬ a.va o = i := fun z => q4 (by rw [z])
                exact iho hlo _ _ (hv_3 q3 c1) (nI_1 o)
              · rw [hbo, hvo] at q4
                have c1 : a.va o = i := (nI_eq (by omega) (by omega)).mp q4
                exact iho hlo _ _ (hv_2 c1) (nI_1 o)
        exact G2 0 (Nat.zero_le _) _ _ rfl rfl
    exact G
  refine X 200 _ _ _ _ _ _ _ _ _ ?_
  refine c_MisPeriod X M V (fun p0 hp ep => ?_) (fun zp => ?_)
  · subst ep
    refine And.intro (fun _ => ?_) (fun q => absurd q (by decide))
    rw [ixN_s hp hN31] at h
    exact G0 p0 hp h 0 (Nat.zero_le _) _ _ _ _ rfl rfl
  · refine And.intro (fun q => absurd (by decide) q) (fun _ => ?_)
    rw [ixN_n hN31 zp] at h
    exact h _ _ _ M (fM.refl _ _ _)
