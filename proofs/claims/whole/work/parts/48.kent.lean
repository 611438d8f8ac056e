/-! contracts of the class: questions about entries (written by wip/whole/gk2.py) -/
set_option maxRecDepth 20000 in
theorem k_entry {J : mJ} (X : mRules J) {I A : mI} {B : mB} {w f : Nat} {R : mR} {a : Ac} (C : CR a I A B) (G : Gd a) (hn2 : a.n ≤ 220) {e k : Int32} (h : qC w f I A B R (some (.long (an_entry a (ixN a.n e) (ixN 6 k))))) : J n_V_entry 0 [.ref 0, .int e, .int k, .float 0] [] I A B (pk w f) R := by
  have V := G.V
  have hP40 := V.P40
  have hN8 := V.N8
  have hnt4 := V.nt4
  have hcN := V.cN
  have hK1 := V.K1
  have hK4 := V.K4
  have hPN := D320 V
  have hNP : a.N * a.P ≤ 320 := by rw [Nat.mul_comm]; exact hPN
  have hD31 : a.P * a.N < 2 ^ 31 := by omega
  have hN31 : a.N < 2 ^ 31 := by omega
  have hn31 : a.n < 2 ^ 31 := by omega
  have hnt31 : a.nt < 2 ^ 31 := by omega
  have hDD : I 16 4 * I 16 5 = nI (a.P * a.N) := by rw [C.hP, C.hN, pk_mul]
  have hvn : ∀ j, j < a.n → A 32 j = nI (a.va j) ∧ a.va j < 2 ^ 20 := fun j hj => ⟨C.hva j hj, by have := V.va9 j hj; omega⟩
  refine X 200 _ _ _ _ _ _ _ _ _ ?_
  refine c_has X hn31 C.hn (fun e0 he ee => ?_) (fun ze => ?_)
  · subst ee
    refine And.intro (fun _ => ?_) (fun q => absurd q (by decide))
    refine And.intro (fun q1 => ?_) (fun q1 => ?_)
    · refine c_sortOf X hn2 C.hn rfl he ?_
      rw [ixN_s he hn31] at h
      subst q1
      rw [show ixN 6 (0 : Int32) = some 0 by decide] at h
      have h2 := h _ _ (fC.refl _ _)
      have e9 : an_entry a (some e0) (some 0) = (A 30 e0).toInt64 := by rw [C.hso e0 he]; rfl
      rw [e9] at h2
      exact h2
    refine And.intro (fun q2 => ?_) (fun q2 => ?_)
    · refine c_amountOf X hn2 C.hn rfl he ?_
      rw [ixN_s he hn31] at h
      subst q2
      rw [show ixN 6 (1 : Int32) = some 1 by decide] at h
      have h2 := h _ _ (fC.refl _ _)
      have e9 : an_entry a (some e0) (some 1) = B 31 e0 := (C.ham e0 he).symm
      rw [e9] at h2
      exact h2
    refine And.intro (fun q3 => ?_) (fun q3 => ?_)
    · refine c_valueOf X hn2 C.hn rfl he ?_
      rw [ixN_s he hn31] at h
      subst q3
      rw [show ixN 6 (2 : Int32) = some 2 by decide] at h
      have h2 := h _ _ (fC.refl _ _)
      have e9 : an_entry a (some e0) (some 2) = (A 32 e0).toInt64 := by rw [C.hva e0 he]; rfl
      rw [e9] at h2
      exact h2
    refine And.intro (fun q4 => ?_) (fun q4 => ?_)
    · refine c_has X hn31 C.hn (fun k hk ek => ?_) (fun zk => ?_)
      · refine And.intro (fun q => absurd q (by decide)) (fun _ => ?_)
        refine Exists.intro _ (And.intro rfl (And.intro (vin (by omega) (by omega)) ?_))
        rw [ixN_s he hn31] at h
        subst q4
        rw [show ixN 6 (3 : Int32) = some 3 by decide] at h
        have hb : (nI e0).toNatClampNeg = e0 := cl (by omega)
        have hs3 := V.so3 e0 he
        have h2 := h _ _ (fC.refl _ _)
        have e9 : an_entry a (some e0) (some 3) = (A 33 (nI e0).toNatClampNeg).toInt64 := by rw [hb, C.hpg e0 he]; rfl
        rw [e9] at h2
        exact h2
      · exact absurd rfl (zk e0 he)
    refine And.intro (fun q5 => ?_) (fun q5 => ?_)
    · refine c_isInt X hn2 he C.hn (fun zi => ?_) (fun zi => ?_)
      · refine And.intro (fun q => absurd q (by decide)) (fun _ => ?_)
        refine Exists.intro _ (And.intro rfl (And.intro (vin (by omega) (by omega)) ?_))
        rw [ixN_s he hn31] at h
        subst q5
        rw [show ixN 6 (4 : Int32) = some 4 by decide] at h
        have hb : (nI e0).toNatClampNeg = e0 := cl (by omega)
        have hs3 := V.so3 e0 he
        have t1 : nI (a.so e0) = 1 ↔ a.so e0 = 1 := nI_eq (b := 1) (by omega) (by omega)
        have t2 : nI (a.so e0) = 2 ↔ a.so e0 = 2 := nI_eq (b := 2) (by omega) (by omega)
        have t3 : nI (a.so e0) = 3 ↔ a.so e0 = 3 := nI_eq (b := 3) (by omega) (by omega)
        rw [C.hso e0 he, t1, t2] at zi
        have h2 := h _ _ (fC.refl _ _)
        have e9 : an_entry a (some e0) (some 4) = (A 34 (nI e0).toNatClampNeg).toInt64 := by rw [hb, C.hog e0 he]; exact if_pos zi
        rw [e9] at h2
        exact h2
      · refine And.intro (fun _ => ?_) (fun q => absurd (by decide) q)
        rw [ixN_s he hn31] at h
        subst q5
        rw [show ixN 6 (4 : Int32) = some 4 by decide] at h
        have hb : (nI e0).toNatClampNeg = e0 := cl (by omega)
        have hs3 := V.so3 e0 he
        have t1 : nI (a.so e0) = 1 ↔ a.so e0 = 1 := nI_eq (b := 1) (by omega) (by omega)
        have t2 : nI (a.so e0) = 2 ↔ a.so e0 = 2 := nI_eq (b := 2) (by omega) (by omega)
        have t3 : nI (a.so e0) = 3 ↔ a.so e0 = 3 := nI_eq (b := 3) (by omega) (by omega)
        rw [C.hso e0 he, t1, t2] at zi
        have h2 := h _ _ (fC.refl _ _)
        have e9 : an_entry a (some e0) (some 4) = -1 := if_neg zi
        rw [e9] at h2
        exact h2
    refine And.intro (fun q6 => ?_) (fun q6 => ?_)
    · refine c_has X hn31 C.hn (fun k hk ek => ?_) (fun zk => ?_)
      · refine And.intro (fun q => absurd q (by decide)) (fun _ => ?_)
        refine Exists.intro _ (And.intro rfl (And.intro (vin (by omega) (by omega)) ?_))
        refine And.intro (fun q7 => ?_) (fun q7 => ?_)
        · rw [ixN_s he hn31] at h
          subst q6
          rw [show ixN 6 (5 : Int32) = some 5 by decide] at h
          have hb : (nI e0).toNatClampNeg = e0 := cl (by omega)
          have hs3 := V.so3 e0 he
          have t1 : nI (a.so e0) = 1 ↔ a.so e0 = 1 := nI_eq (b := 1) (by omega) (by omega)
          have t2 : nI (a.so e0) = 2 ↔ a.so e0 = 2 := nI_eq (b := 2) (by omega) (by omega)
          have t3 : nI (a.so e0) = 3 ↔ a.so e0 = 3 := nI_eq (b := 3) (by omega) (by omega)
          rw [hb, C.hso e0 he, t3] at q7
          have h2 := h _ _ (fC.refl _ _)
          have e9 : an_entry a (some e0) (some 5) = -1 := if_neg q7
          rw [e9] at h2
          exact h2
        · refine Exists.intro _ (And.intro rfl (And.intro (vin (by omega) (by omega)) ?_))
          rw [ixN_s he hn31] at h
          subst q6
          rw [show ixN 6 (5 : Int32) = some 5 by decide] at h
          have hb : (nI e0).toNatClampNeg = e0 := cl (by omega)
          have hs3 := V.so3 e0 he
          have t1 : nI (a.so e0) = 1 ↔ a.so e0 = 1 := nI_eq (b := 1) (by omega) (by omega)
          have t2 : nI (a.so e0) = 2 ↔ a.so e0 = 2 := nI_eq (b := 2) (by omega) (by omega)
          have t3 : nI (a.so e0) = 3 ↔ a.so e0 = 3 := nI_eq (b := 3) (by omega) (by omega)
          rw [hb, C.hso e0 he, t3] at q7
          have h2 := h _ _ (fC.refl _ _)
          have e9 : an_entry a (some e0) (some 5) = (A 34 (nI e0).toNatClampNeg).toInt64 := by rw [hb, C.hog e0 he]; exact if_pos q7
          rw [e9] at h2
          exact h2
      · exact absurd rfl (zk e0 he)
    rw [ixN_s he hn31] at h
    have zk : ∀ j, j < 6 → k ≠ nI j := fun j hj e => by
      have hj2 : j = 0 ∨ j = 1 ∨ j = 2 ∨ j = 3 ∨ j = 4 ∨ j = 5 := by omega
      rcases hj2 with y | y | y | y | y | y
      · exact absurd (e.trans (congrArg nI y)) q1
      · exact absurd (e.trans (congrArg nI y)) q2
      · exact absurd (e.trans (congrArg nI y)) q3
      · exact absurd (e.trans (congrArg nI y)) q4
      · exact absurd (e.trans (congrArg nI y)) q5
      · exact absurd (e.trans (congrArg nI y)) q6
    rw [ixN_n (by decide) zk] at h
    have h2 := h _ _ (fC.refl _ _)
    exact h2
  · refine And.intro (fun q => absurd (by decide) q) (fun _ => ?_)
    rw [ixN_n hn31 ze] at h
    have h2 := h _ _ (fC.refl _ _)
    exact h2
set_option maxRecDepth 20000 in
theorem k_page {J : mJ} (X : mRules J) {I A : mI} {B : mB} {w f : Nat} {R : mR} {a : Ac} (C : CR a I A B) (G : Gd a) (hn2 : a.n ≤ 220) (hv : ∀ j, j < a.n → a.va j < 1000) {p k : Int32} (h : qC w f I A B R (some (.long (an_page a (ixN a.N p) (ixN 8 k))))) : J n_V_page 0 [.ref 0, .int p, .int k, .float 0] [] I A B (pk w f) R := by
  have V := G.V
  have hP40 := V.P40
  have hN8 := V.N8
  have hnt4 := V.nt4
  have hcN := V.cN
  have hK1 := V.K1
  have hK4 := V.K4
  have hPN := D320 V
  have hNP : a.N * a.P ≤ 320 := by rw [Nat.mul_comm]; exact hPN
  have hD31 : a.P * a.N < 2 ^ 31 := by omega
  have hN31 : a.N < 2 ^ 31 := by omega
  have hn31 : a.n < 2 ^ 31 := by omega
  have hnt31 : a.nt < 2 ^ 31 := by omega
  have hDD : I 16 4 * I 16 5 = nI (a.P * a.N) := by rw [C.hP, C.hN, pk_mul]
  have hvn : ∀ j, j < a.n → A 32 j = nI (a.va j) ∧ a.va j < 2 ^ 20 := fun j hj => ⟨C.hva j hj, by have := V.va9 j hj; omega⟩
  refine X 200 _ _ _ _ _ _ _ _ _ ?_
  refine c_isPeriod X hN31 C.hN (fun p0 hp ep => ?_) (fun zp => ?_)
  · subst ep
    refine And.intro (fun _ => ?_) (fun q => absurd q (by decide))
    refine And.intro (fun q1 => ?_) (fun q1 => ?_)
    · refine c_sumAhead X hn2 C.hn ?_
      rw [ixN_s hp hN31] at h
      subst q1
      rw [show ixN 8 (0 : Int32) = some 0 by decide] at h
      have h2 := h _ _ (fC.refl _ _)
      have e9 : an_page a (some p0) (some 0) = _ := z_pg0 C V (by omega) rfl
      rw [e9] at h2
      exact h2
    refine And.intro (fun q2 => ?_) (fun q2 => ?_)
    · refine c_paidOn X hn2 C.hn ?_
      rw [ixN_s hp hN31] at h
      subst q2
      rw [show ixN 8 (1 : Int32) = some 1 by decide] at h
      have h2 := h _ _ (fC.refl _ _)
      have e9 : an_page a (some p0) (some 1) = _ := z_pg1 C V (by omega) rfl
      rw [e9] at h2
      exact h2
    refine And.intro (fun q3 => ?_) (fun q3 => ?_)
    · refine c_paidOn X hn2 C.hn ?_
      refine c_sumOn X hn2 C.hn ?_
      rw [ixN_s hp hN31] at h
      subst q3
      rw [show ixN 8 (2 : Int32) = some 2 by decide] at h
      have h2 := h _ _ (fC.refl _ _)
      have e9 : an_page a (some p0) (some 2) = _ := z_pg2 C V (by omega) rfl
      rw [e9] at h2
      exact h2
    refine And.intro (fun q4 => ?_) (fun q4 => ?_)
    · refine c_sumOn X hn2 C.hn ?_
      rw [ixN_s hp hN31] at h
      subst q4
      rw [show ixN 8 (3 : Int32) = some 3 by decide] at h
      have h2 := h _ _ (fC.refl _ _)
      have e9 : an_page a (some p0) (some 3) = _ := z_pgs C V (by omega) (by omega) rfl rfl
      rw [e9] at h2
      exact h2
    refine And.intro (fun q5 => ?_) (fun q5 => ?_)
    · refine c_sumOn X hn2 C.hn ?_
      rw [ixN_s hp hN31] at h
      subst q5
      rw [show ixN 8 (4 : Int32) = some 4 by decide] at h
      have h2 := h _ _ (fC.refl _ _)
      have e9 : an_page a (some p0) (some 4) = _ := z_pgs C V (by omega) (by omega) rfl rfl
      rw [e9] at h2
      exact h2
    refine And.intro (fun q6 => ?_) (fun q6 => ?_)
    · refine c_sumOn X hn2 C.hn ?_
      rw [ixN_s hp hN31] at h
      subst q6
      rw [show ixN 8 (5 : Int32) = some 5 by decide] at h
      have h2 := h _ _ (fC.refl _ _)
      have e9 : an_page a (some p0) (some 5) = _ := z_pgs C V (by omega) (by omega) rfl rfl
      rw [e9] at h2
      exact h2
    refine And.intro (fun q7 => ?_) (fun q7 => ?_)
    · refine c_sumAhead X hn2 C.hn ?_
      rw [ixN_s hp hN31] at h
      subst q7
      rw [show ixN 8 (6 : Int32) = some 6 by decide] at h
      have h2 := h _ _ (fC.refl _ _)
      have e9 : an_page a (some p0) (some 6) = _ := z_pg6 C V (by omega) (nI_1 p0)
      rw [e9] at h2
      exact h2
    refine And.intro (fun q8 => ?_) (fun q8 => ?_)
    · refine c_sizeValued X hn2 C.hn ?_
      rw [ixN_s hp hN31] at h
      subst q8
      rw [show ixN 8 (7 : Int32) = some 7 by decide] at h
      have h2 := h _ _ (fC.refl _ _)
      have e9 : an_page a (some p0) (some 7) = _ := z_pg7 C V hv (by omega) rfl
      rw [e9] at h2
      exact h2
    rw [ixN_s hp hN31] at h
    have zk : ∀ j, j < 8 → k ≠ nI j := fun j hj e => by
      have hj2 : j = 0 ∨ j = 1 ∨ j = 2 ∨ j = 3 ∨ j = 4 ∨ j = 5 ∨ j = 6 ∨ j = 7 := by omega
      rcases hj2 with y | y | y | y | y | y | y | y
      · exact absurd (e.trans (congrArg nI y)) q1
      · exact absurd (e.trans (congrArg nI y)) q2
      · exact absurd (e.trans (congrArg nI y)) q3
      · exact absurd (e.trans (congrArg nI y)) q4
      · exact absurd (e.trans (congrArg nI y)) q5
      · exact absurd (e.trans (congrArg nI y)) q6
      · exact absurd (e.trans (congrArg nI y)) q7
      · exact absurd (e.trans (congrArg nI y)) q8
    rw [ixN_n (by decide) zk] at h
    have h2 := h _ _ (fC.refl _ _)
    exact h2
  · refine And.intro (fun q => absurd (by decide) q) (fun _ => ?_)
    rw [ixN_n hN31 zp] at h
    have h2 := h _ _ (fC.refl _ _)
    exact h2
set_option maxRecDepth 20000 in
theorem k_backdated {J : mJ} (X : mRules J) {I A : mI} {B : mB} {w f : Nat} {R : mR} {a : Ac} (C : CR a I A B) (G : Gd a) (hn2 : a.n ≤ 220) (hv : ∀ j, j < a.n → a.va j < 1000) {p k : Int32} (h : qC w f I A B R (some (.long (an_backdated a (ixN a.N p) (ixN 4 k))))) : J n_V_backdated 0 [.ref 0, .int p, .int k, .float 0, .float 0, .float 0] [] I A B (pk w f) R := by
  have V := G.V
  have hP40 := V.P40
  have hN8 := V.N8
  have hnt4 := V.nt4
  have hcN := V.cN
  have hK1 := V.K1
  have hK4 := V.K4
  have hPN := D320 V
  have hNP : a.N * a.P ≤ 320 := by rw [Nat.mul_comm]; exact hPN
  have hD31 : a.P * a.N < 2 ^ 31 := by omega
  have hN31 : a.N < 2 ^ 31 := by omega
  have hn31 : a.n < 2 ^ 31 := by omega
  have hnt31 : a.nt < 2 ^ 31 := by omega
  have hDD : I 16 4 * I 16 5 = nI (a.P * a.N) := by rw [C.hP, C.hN, pk_mul]
  have hvn : ∀ j, j < a.n → A 32 j = nI (a.va j) ∧ a.va j < 2 ^ 20 := fun j hj => ⟨C.hva j hj, by have := V.va9 j hj; omega⟩
  refine X 200 _ _ _ _ _ _ _ _ _ ?_
  refine c_isPeriod X hN31 C.hN (fun p0 hp ep => ?_) (fun zp => ?_)
  · subst ep
    refine And.intro (fun _ => ?_) (fun q => absurd q (by decide))
    refine And.intro (fun q1 => ?_) (fun q1 => ?_)
    · refine c_sizeValued X hn2 C.hn ?_
      rw [ixN_s hp hN31] at h
      subst q1
      rw [show ixN 4 (0 : Int32) = some 0 by decide] at h
      have h2 := h _ _ (fC.refl _ _)
      have e9 : an_backdated a (some p0) (some 0) = _ := z_bdn C V hv hp (by omega) (by omega) rfl rfl (by show nI p0 * I 16 4 = nI (a.P * p0); rw [C.hP, pk_mul, Nat.mul_comm])
      rw [e9] at h2
      exact h2
    refine And.intro (fun q2 => ?_) (fun q2 => ?_)
    · refine c_sumValued X hn2 C.hn ?_
      rw [ixN_s hp hN31] at h
      subst q2
      rw [show ixN 4 (1 : Int32) = some 1 by decide] at h
      have h2 := h _ _ (fC.refl _ _)
      have e9 : an_backdated a (some p0) (some 1) = _ := z_bds C V hv hp (by omega) (by omega) rfl rfl (by show nI p0 * I 16 4 = nI (a.P * p0); rw [C.hP, pk_mul, Nat.mul_comm])
      rw [e9] at h2
      exact h2
    refine And.intro (fun q3 => ?_) (fun q3 => ?_)
    · refine c_sizeValued X hn2 C.hn ?_
      rw [ixN_s hp hN31] at h
      subst q3
      rw [show ixN 4 (2 : Int32) = some 2 by decide] at h
      have h2 := h _ _ (fC.refl _ _)
      have e9 : an_backdated a (some p0) (some 2) = _ := z_bdn C V hv hp (by omega) (by omega) rfl (by show nI p0 * I 16 4 + I 16 4 = nI (a.P * p0 + a.P); rw [C.hP, pk_mul, nI_add, Nat.mul_comm]) rfl
      rw [e9] at h2
      exact h2
    refine And.intro (fun q4 => ?_) (fun q4 => ?_)
    · refine c_sumValued X hn2 C.hn ?_
      rw [ixN_s hp hN31] at h
      subst q4
      rw [show ixN 4 (3 : Int32) = some 3 by decide] at h
      have h2 := h _ _ (fC.refl _ _)
      have e9 : an_backdated a (some p0) (some 3) = _ := z_bds C V hv hp (by omega) (by omega) rfl (by show nI p0 * I 16 4 + I 16 4 = nI (a.P * p0 + a.P); rw [C.hP, pk_mul, nI_add, Nat.mul_comm]) rfl
      rw [e9] at h2
      exact h2
    rw [ixN_s hp hN31] at h
    have zk : ∀ j, j < 4 → k ≠ nI j := fun j hj e => by
      have hj2 : j = 0 ∨ j = 1 ∨ j = 2 ∨ j = 3 := by omega
      rcases hj2 with y | y | y | y
      · exact absurd (e.trans (congrArg nI y)) q1
      · exact absurd (e.trans (congrArg nI y)) q2
      · exact absurd (e.trans (congrArg nI y)) q3
      · exact absurd (e.trans (congrArg nI y)) q4
    rw [ixN_n (by decide) zk] at h
    have h2 := h _ _ (fC.refl _ _)
    exact h2
  · refine And.intro (fun q => absurd (by decide) q) (fun _ => ?_)
    rw [ixN_n hN31 zp] at h
    have h2 := h _ _ (fC.refl _ _)
    exact h2
set_option maxRecDepth 20000 in
theorem k_line {J : mJ} (X : mRules J) {I A : mI} {B : mB} {w f : Nat} {R : mR} {a : Ac} (C : CR a I A B) (G : Gd a) (hn2 : a.n ≤ 220) {p m : Int32} (h : qC w f I A B R (some (.int (an_line a (ixN a.N p) m)))) : J n_V_line 0 [.ref 0, .int p, .int m] [] I A B (pk w f) R := by
  have V := G.V
  have hP40 := V.P40
  have hN8 := V.N8
  have hnt4 := V.nt4
  have hcN := V.cN
  have hK1 := V.K1
  have hK4 := V.K4
  have hPN := D320 V
  have hNP : a.N * a.P ≤ 320 := by rw [Nat.mul_comm]; exact hPN
  have hD31 : a.P * a.N < 2 ^ 31 := by omega
  have hN31 : a.N < 2 ^ 31 := by omega
  have hn31 : a.n < 2 ^ 31 := by omega
  have hnt31 : a.nt < 2 ^ 31 := by omega
  have hDD : I 16 4 * I 16 5 = nI (a.P * a.N) := by rw [C.hP, C.hN, pk_mul]
  have hvn : ∀ j, j < a.n → A 32 j = nI (a.va j) ∧ a.va j < 2 ^ 20 := fun j hj => ⟨C.hva j hj, by have := V.va9 j hj; omega⟩
  refine X 200 _ _ _ _ _ _ _ _ _ ?_
  refine c_isPeriod X hN31 C.hN (fun p0 hp ep => ?_) (fun zp => ?_)
  · subst ep
    refine And.intro (fun q => absurd q (by decide)) (fun _ => ?_)
    refine And.intro (fun q1 => ?_) (fun q1 => ?_)
    · refine c_onPage X hn2 C.hn ?_
      rw [ixN_s hp hN31] at h
      simp only [an_line, if_neg (show ¬ m < 0 from Int32.not_lt.mpr q1)] at h
      rw [z_line C V (by omega)] at h
      have h2 := h _ _ (fC.refl _ _)
      exact h2
    · rw [ixN_s hp hN31] at h
      simp only [an_line, if_pos (show m < 0 from Int32.not_le.mp q1)] at h
      have h2 := h _ _ (fC.refl _ _)
      exact h2
  · refine And.intro (fun _ => ?_) (fun q => absurd (by decide) q)
    rw [ixN_n hN31 zp] at h
    have h2 := h _ _ (fC.refl _ _)
    exact h2
set_option maxRecDepth 20000 in
theorem k_mean {J : mJ} (X : mRules J) {I A : mI} {B : mB} {w f : Nat} {R : mR} {a : Ac} (C : CR a I A B) (G : Gd a) (hn2 : a.n ≤ 220) (hP1 : 0 < a.N → 0 < a.P) {p k : Int32} (h : qC w f I A B R (some (.long (an_mean a (ixN a.N p) (ixN 2 k))))) : J n_V_mean 0 [.ref 0, .int p, .int k] [] I A B (pk w f) R := by
  have V := G.V
  have hP40 := V.P40
  have hN8 := V.N8
  have hnt4 := V.nt4
  have hcN := V.cN
  have hK1 := V.K1
  have hK4 := V.K4
  have hPN := D320 V
  have hNP : a.N * a.P ≤ 320 := by rw [Nat.mul_comm]; exact hPN
  have hD31 : a.P * a.N < 2 ^ 31 := by omega
  have hN31 : a.N < 2 ^ 31 := by omega
  have hn31 : a.n < 2 ^ 31 := by omega
  have hnt31 : a.nt < 2 ^ 31 := by omega
  have hDD : I 16 4 * I 16 5 = nI (a.P * a.N) := by rw [C.hP, C.hN, pk_mul]
  have hvn : ∀ j, j < a.n → A 32 j = nI (a.va j) ∧ a.va j < 2 ^ 20 := fun j hj => ⟨C.hva j hj, by have := V.va9 j hj; omega⟩
  refine X 200 _ _ _ _ _ _ _ _ _ ?_
  refine c_isPeriod X hN31 C.hN (fun p0 hp ep => ?_) (fun zp => ?_)
  · subst ep
    refine And.intro (fun _ => ?_) (fun q => absurd q (by decide))
    refine And.intro (fun q1 => ?_) (fun q1 => ?_)
    · refine c_standingsOf X (p := p0) C.hP rfl (by have := P_le hp; rw [Nat.mul_comm p0 a.P]; omega) ?_
      have hs0 := z_sum C hp
      have hPp : 0 < a.P := hP1 (by omega)
      have hzb := zss_b V p0
      have hg0 := cdv_g (s := zss a p0) (P := a.P) (by omega) (by omega) hPp (by omega)
      have hgp : 0 < Nat.gcd (zss a p0).natAbs a.P := Nat.gcd_pos_of_pos_right _ hPp
      have hgl : Nat.gcd (zss a p0).natAbs a.P ≤ a.P := Nat.gcd_le_right _ hPp
      rw [← hs0] at hg0
      have hgn : ¬ (nI (cdv (fun k => decide (a.P % k = 0 ∧ sm (fun j => B 36 (p0 * a.P + j)) a.P - sm (fun j => B 36 (p0 * a.P + j)) a.P / (nI k).toInt64 * (nI k).toInt64 = 0)) a.P)).toInt64 = 0 := by rw [hg0]; exact lnz hgp (by omega)
      have hgm : ¬ nI (cdv (fun k => decide (a.P % k = 0 ∧ sm (fun j => B 36 (p0 * a.P + j)) a.P - sm (fun j => B 36 (p0 * a.P + j)) a.P / (nI k).toInt64 * (nI k).toInt64 = 0)) a.P) = 0 := by rw [hg0]; exact nI_ne0 hgp (by omega)
      refine c_commonDivisor X C.hP (by omega) ?_
      refine And.intro (by first | exact hgn | exact hgm) ?_
      rw [ixN_s hp hN31] at h
      subst q1
      rw [show ixN 2 (0 : Int32) = some 0 by decide] at h
      have h2 := h _ _ (fC.refl _ _)
      have e9 : an_mean a (some p0) (some 0) = sm (fun j => B 36 (p0 * a.P + j)) a.P / (nI (cdv (fun k => decide (a.P % k = 0 ∧ sm (fun j => B 36 (p0 * a.P + j)) a.P - sm (fun j => B 36 (p0 * a.P + j)) a.P / (nI k).toInt64 * (nI k).toInt64 = 0)) a.P)).toInt64 := by
        rw [hg0, hs0, nL (by omega)]
        exact (zl_dvd (by omega) (by omega) hgp (by omega) (Int.ofNat_dvd_left.mpr (Nat.gcd_dvd_left _ _))).symm
      rw [e9] at h2
      exact h2
    refine And.intro (fun q2 => ?_) (fun q2 => ?_)
    · refine c_standingsOf X (p := p0) C.hP rfl (by have := P_le hp; rw [Nat.mul_comm p0 a.P]; omega) ?_
      have hs0 := z_sum C hp
      have hPp : 0 < a.P := hP1 (by omega)
      have hzb := zss_b V p0
      have hg0 := cdv_g (s := zss a p0) (P := a.P) (by omega) (by omega) hPp (by omega)
      have hgp : 0 < Nat.gcd (zss a p0).natAbs a.P := Nat.gcd_pos_of_pos_right _ hPp
      have hgl : Nat.gcd (zss a p0).natAbs a.P ≤ a.P := Nat.gcd_le_right _ hPp
      rw [← hs0] at hg0
      have hgn : ¬ (nI (cdv (fun k => decide (a.P % k = 0 ∧ sm (fun j => B 36 (p0 * a.P + j)) a.P - sm (fun j => B 36 (p0 * a.P + j)) a.P / (nI k).toInt64 * (nI k).toInt64 = 0)) a.P)).toInt64 = 0 := by rw [hg0]; exact lnz hgp (by omega)
      have hgm : ¬ nI (cdv (fun k => decide (a.P % k = 0 ∧ sm (fun j => B 36 (p0 * a.P + j)) a.P - sm (fun j => B 36 (p0 * a.P + j)) a.P / (nI k).toInt64 * (nI k).toInt64 = 0)) a.P) = 0 := by rw [hg0]; exact nI_ne0 hgp (by omega)
      refine c_commonDivisor X C.hP (by omega) ?_
      refine And.intro (by first | exact hgn | exact hgm) ?_
      rw [ixN_s hp hN31] at h
      subst q2
      rw [show ixN 2 (1 : Int32) = some 1 by decide] at h
      have h2 := h _ _ (fC.refl _ _)
      have e9 : an_mean a (some p0) (some 1) = (I 16 4 / nI (cdv (fun k => decide (a.P % k = 0 ∧ sm (fun j => B 36 (p0 * a.P + j)) a.P - sm (fun j => B 36 (p0 * a.P + j)) a.P / (nI k).toInt64 * (nI k).toInt64 = 0)) a.P)).toInt64 := by
        rw [hg0, C.hP, pk_div (by omega) hgp (by omega), nL (by have := Nat.div_le_self a.P (Nat.gcd (zss a p0).natAbs a.P); omega)]
        rfl
      rw [e9] at h2
      exact h2
    rw [ixN_s hp hN31] at h
    have zk : ∀ j, j < 2 → k ≠ nI j := fun j hj e => by
      have hj2 : j = 0 ∨ j = 1 := by omega
      rcases hj2 with y | y
      · exact absurd (e.trans (congrArg nI y)) q1
      · exact absurd (e.trans (congrArg nI y)) q2
    rw [ixN_n (by decide) zk] at h
    have h2 := h _ _ (fC.refl _ _)
    exact h2
  · refine And.intro (fun q => absurd (by decide) q) (fun _ => ?_)
    rw [ixN_n hN31 zp] at h
    have h2 := h _ _ (fC.refl _ _)
    exact h2
