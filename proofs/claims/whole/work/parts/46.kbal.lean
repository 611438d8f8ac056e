/-! contracts of the class: questions about balances and entries (written by wip/whole/gk1.py) -/
set_option maxRecDepth 20000 in
theorem k_rate {J : mJ} (X : mRules J) {I A : mI} {B : mB} {w f : Nat} {R : mR} {a : Ac} (C : CR a I A B) (G : Gd a) (hn2 : a.n ≤ 220) {t d : Int32} (h : qC w f I A B R (some (.int (an_rate a (ixN a.nt t) (ixN (zD a) d))))) : J n_V_rate 0 [.ref 0, .int t, .int d] [] I A B (pk w f) R := by
  have V := G.V
  have hP40 := V.P40
  have hN8 := V.N8
  have hnt4 := V.nt4
  have hcN := V.cN
  have hK1 := V.K1
  have hK4 := V.K4
  have hPN := D320 V
  have hNP : a.N * a.P ≤ 320 := by rw [Nat.mul_comm]; exact hPN
  have hD31 : a.P * a.N < 2 ^ 31 := by omega
  have hN31 : a.N < 2 ^ 31 := by omega
  have hn31 : a.n < 2 ^ 31 := by omega
  have hnt31 : a.nt < 2 ^ 31 := by omega
  have hDD : I 16 4 * I 16 5 = nI (a.P * a.N) := by rw [C.hP, C.hN, pk_mul]
  have hvn : ∀ j, j < a.n → A 32 j = nI (a.va j) ∧ a.va j < 2 ^ 20 := fun j hj => ⟨C.hva j hj, by have := V.va9 j hj; omega⟩
  refine X 200 _ _ _ _ _ _ _ _ _ ?_
  refine c_isTier X hnt31 C.hnt (fun t0 ht et => ?_) (fun zt => ?_)
  · subst et
    refine And.intro (fun q => absurd q (by decide)) (fun _ => ?_)
    refine c_isDay X hD31 hDD (fun d0 hd ed => ?_) (fun zd => ?_)
    · subst ed
      refine And.intro (fun _ => ?_) (fun q => absurd q (by decide))
      refine c_rule X (r := t0) (d := d0) rfl rfl (by omega) (by omega) ?_
      rw [ixN_s ht hnt31] at h
      rw [ixN_s hd hD31] at h
      have h2 := h _ _ (fC.refl _ _)
      have e9 : an_rate a (some t0) (some d0) = _ := (C.hru t0 d0 (Or.inl ht) (by omega)).symm
      rw [e9] at h2
      exact h2
    · refine And.intro (fun q => absurd (by decide) q) (fun _ => ?_)
      rw [ixN_s ht hnt31] at h
      rw [ixN_n hD31 zd] at h
      have h2 := h _ _ (fC.refl _ _)
      exact h2
  · refine And.intro (fun _ => ?_) (fun q => absurd (by decide) q)
    rw [ixN_n hnt31 zt] at h
    have h2 := h _ _ (fC.refl _ _)
    exact h2
set_option maxRecDepth 20000 in
theorem k_owing {J : mJ} (X : mRules J) {I A : mI} {B : mB} {w f : Nat} {R : mR} {a : Ac} (C : CR a I A B) (G : Gd a) (hn2 : a.n ≤ 220) {d k : Int32} (h : qC w f I A B R (some (.int (an_owing a (ixN (zD a) d) (ixN 3 k))))) : J n_V_owing 0 [.ref 0, .int d, .int k] [] I A B (pk w f) R := by
  have V := G.V
  have hP40 := V.P40
  have hN8 := V.N8
  have hnt4 := V.nt4
  have hcN := V.cN
  have hK1 := V.K1
  have hK4 := V.K4
  have hPN := D320 V
  have hNP : a.N * a.P ≤ 320 := by rw [Nat.mul_comm]; exact hPN
  have hD31 : a.P * a.N < 2 ^ 31 := by omega
  have hN31 : a.N < 2 ^ 31 := by omega
  have hn31 : a.n < 2 ^ 31 := by omega
  have hnt31 : a.nt < 2 ^ 31 := by omega
  have hDD : I 16 4 * I 16 5 = nI (a.P * a.N) := by rw [C.hP, C.hN, pk_mul]
  have hvn : ∀ j, j < a.n → A 32 j = nI (a.va j) ∧ a.va j < 2 ^ 20 := fun j hj => ⟨C.hva j hj, by have := V.va9 j hj; omega⟩
  refine X 200 _ _ _ _ _ _ _ _ _ ?_
  refine c_isDay X hD31 hDD (fun d0 hd ed => ?_) (fun zd => ?_)
  · subst ed
    refine And.intro (fun _ => ?_) (fun q => absurd q (by decide))
    refine And.intro (fun q1 => ?_) (fun q1 => ?_)
    · refine c_rule X (r := 4) (d := d0) rfl rfl (by omega) (by omega) ?_
      rw [ixN_s hd hD31] at h
      subst q1
      rw [show ixN 3 (0 : Int32) = some 0 by decide] at h
      have h2 := h _ _ (fC.refl _ _)
      have e9 : an_owing a (some d0) (some 0) = _ := (C.hru 4 d0 (by omega) (by omega)).symm
      rw [e9] at h2
      exact h2
    refine And.intro (fun q2 => ?_) (fun q2 => ?_)
    · refine c_rule X (r := 5) (d := d0) rfl rfl (by omega) (by omega) ?_
      rw [ixN_s hd hD31] at h
      subst q2
      rw [show ixN 3 (1 : Int32) = some 1 by decide] at h
      have h2 := h _ _ (fC.refl _ _)
      have e9 : an_owing a (some d0) (some 1) = _ := (C.hru 5 d0 (by omega) (by omega)).symm
      rw [e9] at h2
      exact h2
    refine And.intro (fun q3 => ?_) (fun q3 => ?_)
    · refine c_rule X (r := 6) (d := d0) rfl rfl (by omega) (by omega) ?_
      rw [ixN_s hd hD31] at h
      subst q3
      rw [show ixN 3 (2 : Int32) = some 2 by decide] at h
      have h2 := h _ _ (fC.refl _ _)
      have e9 : an_owing a (some d0) (some 2) = _ := (C.hru 6 d0 (by omega) (by omega)).symm
      rw [e9] at h2
      exact h2
    rw [ixN_s hd hD31] at h
    have zk : ∀ j, j < 3 → k ≠ nI j := fun j hj e => by
      have hj2 : j = 0 ∨ j = 1 ∨ j = 2 := by omega
      rcases hj2 with y | y | y
      · exact absurd (e.trans (congrArg nI y)) q1
      · exact absurd (e.trans (congrArg nI y)) q2
      · exact absurd (e.trans (congrArg nI y)) q3
    rw [ixN_n (by decide) zk] at h
    have h2 := h _ _ (fC.refl _ _)
    exact h2
  · refine And.intro (fun q => absurd (by decide) q) (fun _ => ?_)
    rw [ixN_n hD31 zd] at h
    have h2 := h _ _ (fC.refl _ _)
    exact h2
set_option maxRecDepth 20000 in
theorem k_balance {J : mJ} (X : mRules J) {I A : mI} {B : mB} {w f : Nat} {R : mR} {a : Ac} (C : CR a I A B) (G : Gd a) (hn2 : a.n ≤ 220) {d : Int32} (h : qC w f I A B R (some (.long (an_balance a (ixN (zD a) d))))) : J n_V_balance 0 [.ref 0, .int d] [] I A B (pk w f) R := by
  have V := G.V
  have hP40 := V.P40
  have hN8 := V.N8
  have hnt4 := V.nt4
  have hcN := V.cN
  have hK1 := V.K1
  have hK4 := V.K4
  have hPN := D320 V
  have hNP : a.N * a.P ≤ 320 := by rw [Nat.mul_comm]; exact hPN
  have hD31 : a.P * a.N < 2 ^ 31 := by omega
  have hN31 : a.N < 2 ^ 31 := by omega
  have hn31 : a.n < 2 ^ 31 := by omega
  have hnt31 : a.nt < 2 ^ 31 := by omega
  have hDD : I 16 4 * I 16 5 = nI (a.P * a.N) := by rw [C.hP, C.hN, pk_mul]
  have hvn : ∀ j, j < a.n → A 32 j = nI (a.va j) ∧ a.va j < 2 ^ 20 := fun j hj => ⟨C.hva j hj, by have := V.va9 j hj; omega⟩
  refine X 200 _ _ _ _ _ _ _ _ _ ?_
  refine c_isDay X hD31 hDD (fun d0 hd ed => ?_) (fun zd => ?_)
  · subst ed
    refine And.intro (fun q => absurd q (by decide)) (fun _ => ?_)
    refine c_standing X (d := d0) rfl (by omega) ?_
    rw [ixN_s hd hD31] at h
    have h2 := h _ _ (fC.refl _ _)
    have e9 : an_balance a (some d0) = _ := (C.hbl d0 hd).symm
    rw [e9] at h2
    exact h2
  · refine And.intro (fun _ => ?_) (fun q => absurd (by decide) q)
    rw [ixN_n hD31 zd] at h
    have h2 := h _ _ (fC.refl _ _)
    exact h2
theorem z_prd {a : Ac} {I A : mI} {B : mB} (C : CR a I A B) (G : Gd a) {d : Nat} (hd : d < a.P * a.N) {l : Int32} (el : l = A 25 d) : crd A d (B 36 d) a.nt 0 0 0 - dbt A l d (B 36 d) = zL (zpr a d (zbl a d)) := by
  have := D320 G.V
  rw [el, C.hbl d hd, crd_z C G (by omega) (bl40 G _), dbt_z C G (by omega) (bl40 G _), zL_sub]
  rfl
set_option maxRecDepth 20000 in
theorem k_product {J : mJ} (X : mRules J) {I A : mI} {B : mB} {w f : Nat} {R : mR} {a : Ac} (C : CR a I A B) (G : Gd a) (hn2 : a.n ≤ 220) {d : Int32} (h : qC w f I A B R (some (.long (an_product a (ixN (zD a) d))))) : J n_V_product 0 [.ref 0, .int d, .float 0, .float 0] [] I A B (pk w f) R := by
  have V := G.V
  have hP40 := V.P40
  have hN8 := V.N8
  have hnt4 := V.nt4
  have hcN := V.cN
  have hK1 := V.K1
  have hK4 := V.K4
  have hPN := D320 V
  have hNP : a.N * a.P ≤ 320 := by rw [Nat.mul_comm]; exact hPN
  have hD31 : a.P * a.N < 2 ^ 31 := by omega
  have hN31 : a.N < 2 ^ 31 := by omega
  have hn31 : a.n < 2 ^ 31 := by omega
  have hnt31 : a.nt < 2 ^ 31 := by omega
  have hDD : I 16 4 * I 16 5 = nI (a.P * a.N) := by rw [C.hP, C.hN, pk_mul]
  have hvn : ∀ j, j < a.n → A 32 j = nI (a.va j) ∧ a.va j < 2 ^ 20 := fun j hj => ⟨C.hva j hj, by have := V.va9 j hj; omega⟩
  refine X 200 _ _ _ _ _ _ _ _ _ ?_
  refine c_isDay X hD31 hDD (fun d0 hd ed => ?_) (fun zd => ?_)
  · subst ed
    refine And.intro (fun _ => ?_) (fun q => absurd q (by decide))
    refine c_standing X (d := d0) rfl (by omega) ?_
    refine c_credit X (d := d0) (nt := a.nt) rfl (by omega) hnt4 C.hnt ?_
    refine And.intro (fun q1 => ?_) (fun q1 => ?_)
    · exact absurd q1 (nI_pos (by omega)) --end
    · refine And.intro (fun q2 => ?_) (fun q2 => ?_)
      · refine Exists.intro _ (Exists.intro _ (Exists.intro _ (And.intro rfl (And.intro (vlit rfl) ?_))))
        refine Exists.intro _ (And.intro rfl (And.intro (vin (by omega) (by omega)) ?_))
        refine c_debtBy X (d := d0) rfl (by omega) ?_
        rw [ixN_s hd hD31] at h
        have h2 := h _ _ (fC.refl _ _)
        have e9 : an_product a (some d0) = _ := (z_prd C G hd (l := A 25 (nI d0).toNatClampNeg) (by rw [cl (by omega)])).symm
        rw [e9] at h2
        exact h2
      · exact absurd (nI_lt (b := 320) (by omega) (by omega)) q2 --end
  · refine And.intro (fun q => absurd (by decide) q) (fun _ => ?_)
    rw [ixN_n hD31 zd] at h
    have h2 := h _ _ (fC.refl _ _)
    exact h2
set_option maxRecDepth 20000 in
theorem k_products {J : mJ} (X : mRules J) {I A : mI} {B : mB} {w f : Nat} {R : mR} {a : Ac} (C : CR a I A B) (G : Gd a) (hn2 : a.n ≤ 220) {p k : Int32} (h : qC w f I A B R (some (.long (an_products a (ixN a.N p) (ixN 2 k))))) : J n_V_products 0 [.ref 0, .int p, .int k] [] I A B (pk w f) R := by
  have V := G.V
  have hP40 := V.P40
  have hN8 := V.N8
  have hnt4 := V.nt4
  have hcN := V.cN
  have hK1 := V.K1
  have hK4 := V.K4
  have hPN := D320 V
  have hNP : a.N * a.P ≤ 320 := by rw [Nat.mul_comm]; exact hPN
  have hD31 : a.P * a.N < 2 ^ 31 := by omega
  have hN31 : a.N < 2 ^ 31 := by omega
  have hn31 : a.n < 2 ^ 31 := by omega
  have hnt31 : a.nt < 2 ^ 31 := by omega
  have hDD : I 16 4 * I 16 5 = nI (a.P * a.N) := by rw [C.hP, C.hN, pk_mul]
  have hvn : ∀ j, j < a.n → A 32 j = nI (a.va j) ∧ a.va j < 2 ^ 20 := fun j hj => ⟨C.hva j hj, by have := V.va9 j hj; omega⟩
  refine X 200 _ _ _ _ _ _ _ _ _ ?_
  refine c_isPeriod X hN31 C.hN (fun p0 hp ep => ?_) (fun zp => ?_)
  · subst ep
    refine And.intro (fun _ => ?_) (fun q => absurd q (by decide))
    refine And.intro (fun q1 => ?_) (fun q1 => ?_)
    · refine c_creditOf X hnt4 C.hnt (p := p0) C.hP rfl (by have := P_le hp; rw [Nat.mul_comm p0 a.P]; omega) ?_
      rw [ixN_s hp hN31] at h
      subst q1
      rw [show ixN 2 (0 : Int32) = some 0 by decide] at h
      have h2 := h _ _ (fC.refl _ _)
      have e9 : an_products a (some p0) (some 0) = _ := (z_credit C G hp).symm
      rw [e9] at h2
      exact h2
    refine And.intro (fun q2 => ?_) (fun q2 => ?_)
    · refine c_debtOf X (p := p0) C.hP rfl (by have := P_le hp; rw [Nat.mul_comm p0 a.P]; omega) ?_
      rw [ixN_s hp hN31] at h
      subst q2
      rw [show ixN 2 (1 : Int32) = some 1 by decide] at h
      have h2 := h _ _ (fC.refl _ _)
      have e9 : an_products a (some p0) (some 1) = _ := (z_debt C G hp).symm
      rw [e9] at h2
      exact h2
    rw [ixN_s hp hN31] at h
    have zk : ∀ j, j < 2 → k ≠ nI j := fun j hj e => by
      have hj2 : j = 0 ∨ j = 1 := by omega
      rcases hj2 with y | y
      · exact absurd (e.trans (congrArg nI y)) q1
      · exact absurd (e.trans (congrArg nI y)) q2
    rw [ixN_n (by decide) zk] at h
    have h2 := h _ _ (fC.refl _ _)
    exact h2
  · refine And.intro (fun q => absurd (by decide) q) (fun _ => ?_)
    rw [ixN_n hN31 zp] at h
    have h2 := h _ _ (fC.refl _ _)
    exact h2
set_option maxRecDepth 20000 in
theorem k_earned {J : mJ} (X : mRules J) {I A : mI} {B : mB} {w f : Nat} {R : mR} {a : Ac} (C : CR a I A B) (G : Gd a) (hn2 : a.n ≤ 220) {p t : Int32} (h : qC w f I A B R (some (.long (an_earned a (ixN a.N p) (ixN a.nt t))))) : J n_V_earned 0 [.ref 0, .int p, .int t] [] I A B (pk w f) R := by
  have V := G.V
  have hP40 := V.P40
  have hN8 := V.N8
  have hnt4 := V.nt4
  have hcN := V.cN
  have hK1 := V.K1
  have hK4 := V.K4
  have hPN := D320 V
  have hNP : a.N * a.P ≤ 320 := by rw [Nat.mul_comm]; exact hPN
  have hD31 : a.P * a.N < 2 ^ 31 := by omega
  have hN31 : a.N < 2 ^ 31 := by omega
  have hn31 : a.n < 2 ^ 31 := by omega
  have hnt31 : a.nt < 2 ^ 31 := by omega
  have hDD : I 16 4 * I 16 5 = nI (a.P * a.N) := by rw [C.hP, C.hN, pk_mul]
  have hvn : ∀ j, j < a.n → A 32 j = nI (a.va j) ∧ a.va j < 2 ^ 20 := fun j hj => ⟨C.hva j hj, by have := V.va9 j hj; omega⟩
  refine X 200 _ _ _ _ _ _ _ _ _ ?_
  refine c_isPeriod X hN31 C.hN (fun p0 hp ep => ?_) (fun zp => ?_)
  · subst ep
    refine And.intro (fun q => absurd q (by decide)) (fun _ => ?_)
    refine c_isTier X hnt31 C.hnt (fun t0 ht et => ?_) (fun zt => ?_)
    · subst et
      refine And.intro (fun _ => ?_) (fun q => absurd q (by decide))
      refine c_creditOfTier X (p := p0) C.hP rfl (by have := P_le hp; rw [Nat.mul_comm p0 a.P]; omega) (t := t0) (by omega) ?_
      rw [ixN_s hp hN31] at h
      rw [ixN_s ht hnt31] at h
      have h2 := h _ _ (fC.refl _ _)
      have e9 : an_earned a (some p0) (some t0) = _ := (z_earned C G hp ht).symm
      rw [e9] at h2
      exact h2
    · refine And.intro (fun q => absurd (by decide) q) (fun _ => ?_)
      rw [ixN_s hp hN31] at h
      rw [ixN_n hnt31 zt] at h
      have h2 := h _ _ (fC.refl _ _)
      exact h2
  · refine And.intro (fun _ => ?_) (fun q => absurd (by decide) q)
    rw [ixN_n hN31 zp] at h
    have h2 := h _ _ (fC.refl _ _)
    exact h2
set_option maxRecDepth 20000 in
theorem k_fresh {J : mJ} (X : mRules J) {I A : mI} {B : mB} {w f : Nat} {R : mR} {a : Ac} (C : CR a I A B) (G : Gd a) (hn2 : a.n ≤ 220) {p : Int32} (h : qC w f I A B R (some (.long (an_fresh a (ixN a.N p))))) : J n_V_fresh 0 [.ref 0, .int p] [] I A B (pk w f) R := by
  have V := G.V
  have hP40 := V.P40
  have hN8 := V.N8
  have hnt4 := V.nt4
  have hcN := V.cN
  have hK1 := V.K1
  have hK4 := V.K4
  have hPN := D320 V
  have hNP : a.N * a.P ≤ 320 := by rw [Nat.mul_comm]; exact hPN
  have hD31 : a.P * a.N < 2 ^ 31 := by omega
  have hN31 : a.N < 2 ^ 31 := by omega
  have hn31 : a.n < 2 ^ 31 := by omega
  have hnt31 : a.nt < 2 ^ 31 := by omega
  have hDD : I 16 4 * I 16 5 = nI (a.P * a.N) := by rw [C.hP, C.hN, pk_mul]
  have hvn : ∀ j, j < a.n → A 32 j = nI (a.va j) ∧ a.va j < 2 ^ 20 := fun j hj => ⟨C.hva j hj, by have := V.va9 j hj; omega⟩
  refine X 200 _ _ _ _ _ _ _ _ _ ?_
  refine c_isPeriod X hN31 C.hN (fun p0 hp ep => ?_) (fun zp => ?_)
  · subst ep
    refine And.intro (fun q => absurd q (by decide)) (fun _ => ?_)
    refine c_productsOf36 X hnt4 C.hnt C.hP (p := p0) rfl (by have := P_le hp; rw [Nat.mul_comm p0 a.P]; omega) ?_
    refine c_nearest X ?_
    rw [ixN_s hp hN31] at h
    have h2 := h _ _ (fC.refl _ _)
    have e9 : an_fresh a (some p0) = _ := (z_int C G hp).symm
    rw [e9] at h2
    exact h2
  · refine And.intro (fun _ => ?_) (fun q => absurd (by decide) q)
    rw [ixN_n hN31 zp] at h
    have h2 := h _ _ (fC.refl _ _)
    exact h2
set_option maxRecDepth 20000 in
theorem k_booked {J : mJ} (X : mRules J) {I A : mI} {B : mB} {w f : Nat} {R : mR} {a : Ac} (C : CR a I A B) (G : Gd a) (hn2 : a.n ≤ 220) {p : Int32} (h : qC w f I A B R (some (.long (an_booked a (ixN a.N p))))) : J n_V_booked 0 [.ref 0, .int p] [] I A B (pk w f) R := by
  have V := G.V
  have hP40 := V.P40
  have hN8 := V.N8
  have hnt4 := V.nt4
  have hcN := V.cN
  have hK1 := V.K1
  have hK4 := V.K4
  have hPN := D320 V
  have hNP : a.N * a.P ≤ 320 := by rw [Nat.mul_comm]; exact hPN
  have hD31 : a.P * a.N < 2 ^ 31 := by omega
  have hN31 : a.N < 2 ^ 31 := by omega
  have hn31 : a.n < 2 ^ 31 := by omega
  have hnt31 : a.nt < 2 ^ 31 := by omega
  have hDD : I 16 4 * I 16 5 = nI (a.P * a.N) := by rw [C.hP, C.hN, pk_mul]
  have hvn : ∀ j, j < a.n → A 32 j = nI (a.va j) ∧ a.va j < 2 ^ 20 := fun j hj => ⟨C.hva j hj, by have := V.va9 j hj; omega⟩
  refine X 200 _ _ _ _ _ _ _ _ _ ?_
  refine c_isPeriod X hN31 C.hN (fun p0 hp ep => ?_) (fun zp => ?_)
  · subst ep
    refine And.intro (fun q => absurd q (by decide)) (fun _ => ?_)
    refine c_interestBooked X hn2 C.hn ?_
    rw [ixN_s hp hN31] at h
    have h2 := h _ _ (fC.refl _ _)
    have e9 : an_booked a (some p0) = _ := (z_ibk C V).symm
    rw [e9] at h2
    exact h2
  · refine And.intro (fun _ => ?_) (fun q => absurd (by decide) q)
    rw [ixN_n hN31 zp] at h
    have h2 := h _ _ (fC.refl _ _)
    exact h2
set_option maxRecDepth 20000 in
theorem k_wrong {J : mJ} (X : mRules J) {I A : mI} {B : mB} {w f : Nat} {R : mR} {a : Ac} (C : CR a I A B) (G : Gd a) (hn2 : a.n ≤ 220) {p : Int32} (h : qC w f I A B R (some (.long (an_wrong a (ixN a.N p))))) : J n_V_wrong 0 [.ref 0, .int p] [] I A B (pk w f) R := by
  have V := G.V
  have hP40 := V.P40
  have hN8 := V.N8
  have hnt4 := V.nt4
  have hcN := V.cN
  have hK1 := V.K1
  have hK4 := V.K4
  have hPN := D320 V
  have hNP : a.N * a.P ≤ 320 := by rw [Nat.mul_comm]; exact hPN
  have hD31 : a.P * a.N < 2 ^ 31 := by omega
  have hN31 : a.N < 2 ^ 31 := by omega
  have hn31 : a.n < 2 ^ 31 := by omega
  have hnt31 : a.nt < 2 ^ 31 := by omega
  have hDD : I 16 4 * I 16 5 = nI (a.P * a.N) := by rw [C.hP, C.hN, pk_mul]
  have hvn : ∀ j, j < a.n → A 32 j = nI (a.va j) ∧ a.va j < 2 ^ 20 := fun j hj => ⟨C.hva j hj, by have := V.va9 j hj; omega⟩
  refine X 200 _ _ _ _ _ _ _ _ _ ?_
  refine c_isPeriod X hN31 C.hN (fun p0 hp ep => ?_) (fun zp => ?_)
  · subst ep
    refine And.intro (fun _ => ?_) (fun q => absurd q (by decide))
    refine c_isClosed X (D := a.c) (by omega) C.hc (fun k hk ek => ?_) (fun zk => ?_)
    · have hcp : p0 < a.c := by have := (nI_eq (by omega) (by omega)).mp ek; omega
      refine And.intro (fun q => absurd q (by decide)) (fun _ => ?_)
      refine c_productsOf36 X hnt4 C.hnt C.hP (p := p0) rfl (by have := P_le hp; rw [Nat.mul_comm p0 a.P]; omega) ?_
      refine c_nearest X ?_
      refine c_interestBooked X hn2 C.hn ?_
      rw [ixN_s hp hN31] at h
      have h2 := h _ _ (fC.refl _ _)
      have e9 : an_wrong a (some p0) = nea (pds A B a.nt 36 a.P p0 0 0) - ibk A B a.n (nI p0) := by show zL (if p0 < a.c then _ else _) = _; rw [if_pos hcp, z_int C G hp, z_ibk C V, zL_sub]
      rw [e9] at h2
      exact h2
    · have hcp : ¬ p0 < a.c := fun z => zk p0 z rfl
      refine And.intro (fun _ => ?_) (fun q => absurd (by decide) q)
      rw [ixN_s hp hN31] at h
      have h2 := h _ _ (fC.refl _ _)
      have e9 : an_wrong a (some p0) = 0 := by show zL (if p0 < a.c then _ else _) = _; rw [if_neg hcp]; rfl
      rw [e9] at h2
      exact h2
  · refine And.intro (fun q => absurd (by decide) q) (fun _ => ?_)
    rw [ixN_n hN31 zp] at h
    have h2 := h _ _ (fC.refl _ _)
    exact h2
set_option maxRecDepth 20000 in
theorem k_comp {J : mJ} (X : mRules J) {I A : mI} {B : mB} {w f : Nat} {R : mR} {a : Ac} (C : CR a I A B) (G : Gd a) (hn2 : a.n ≤ 220) {p : Int32} (h : qC w f I A B R (some (.int (an_comp a (ixN a.N p))))) : J n_V_compounds 0 [.ref 0, .int p] [] I A B (pk w f) R := by
  have V := G.V
  have hP40 := V.P40
  have hN8 := V.N8
  have hnt4 := V.nt4
  have hcN := V.cN
  have hK1 := V.K1
  have hK4 := V.K4
  have hPN := D320 V
  have hNP : a.N * a.P ≤ 320 := by rw [Nat.mul_comm]; exact hPN
  have hD31 : a.P * a.N < 2 ^ 31 := by omega
  have hN31 : a.N < 2 ^ 31 := by omega
  have hn31 : a.n < 2 ^ 31 := by omega
  have hnt31 : a.nt < 2 ^ 31 := by omega
  have hDD : I 16 4 * I 16 5 = nI (a.P * a.N) := by rw [C.hP, C.hN, pk_mul]
  have hvn : ∀ j, j < a.n → A 32 j = nI (a.va j) ∧ a.va j < 2 ^ 20 := fun j hj => ⟨C.hva j hj, by have := V.va9 j hj; omega⟩
  refine X 200 _ _ _ _ _ _ _ _ _ ?_
  refine c_isPeriod X hN31 C.hN (fun p0 hp ep => ?_) (fun zp => ?_)
  · subst ep
    refine And.intro (fun q => absurd q (by decide)) (fun _ => ?_)
    refine c_compDay X ?_ (by rw [C.hK (by omega)]; exact nI_nlt (a := a.K) (b := 1) (by omega) (by omega))
    rw [ixN_s hp hN31] at h
    have h2 := h _ _ (fC.refl _ _)
    have e9 : an_comp a (some p0) = I 16 4 * I 16 6 * (nI p0 / I 16 6 + 1) := by rw [C.hP, C.hK (by omega), pk_div (by omega) (by omega) (by omega), nI_1, pk_mul, pk_mul]; rfl
    rw [e9] at h2
    exact h2
  · refine And.intro (fun _ => ?_) (fun q => absurd (by decide) q)
    rw [ixN_n hN31 zp] at h
    have h2 := h _ _ (fC.refl _ _)
    exact h2
set_option maxRecDepth 20000 in
theorem k_all {J : mJ} (X : mRules J) {I A : mI} {B : mB} {w f : Nat} {R : mR} {a : Ac} (C : CR a I A B) (G : Gd a) (hn2 : a.n ≤ 220) {bk : Bool} (hbk : I 7 1 = 0 ↔ bk = false) (h : qC w f I A B R (some (.long (an_all a bk)))) : J n_V_all 0 [.ref 0] [] I A B (pk w f) R := by
  have V := G.V
  have hP40 := V.P40
  have hN8 := V.N8
  have hnt4 := V.nt4
  have hcN := V.cN
  have hK1 := V.K1
  have hK4 := V.K4
  have hPN := D320 V
  have hNP : a.N * a.P ≤ 320 := by rw [Nat.mul_comm]; exact hPN
  have hD31 : a.P * a.N < 2 ^ 31 := by omega
  have hN31 : a.N < 2 ^ 31 := by omega
  have hn31 : a.n < 2 ^ 31 := by omega
  have hnt31 : a.nt < 2 ^ 31 := by omega
  have hDD : I 16 4 * I 16 5 = nI (a.P * a.N) := by rw [C.hP, C.hN, pk_mul]
  have hvn : ∀ j, j < a.n → A 32 j = nI (a.va j) ∧ a.va j < 2 ^ 20 := fun j hj => ⟨C.hva j hj, by have := V.va9 j hj; omega⟩
  refine X 200 _ _ _ _ _ _ _ _ _ ?_
  refine c_noBook X (fun zb => ?_) (fun zb => ?_)
  · have zb2 := hbk.mp zb
    subst zb2
    refine And.intro (fun q => absurd q (by decide)) (fun _ => ?_)
    have h2 := h _ _ (fC.refl _ _)
    exact h2
  · have zb2 : bk = true := by cases bk with | true => rfl | false => exact absurd (hbk.mpr rfl) zb
    subst zb2
    refine And.intro (fun _ => ?_) (fun q => absurd (by decide) q)
    refine c_allBy36 X hnt4 C.hnt C.hP C.hN hNP (by omega) ?_
    have h2 := h _ _ (fC.refl _ _)
    have e9 : an_all a true = _ := (z_all C G).symm
    rw [e9] at h2
    exact h2
set_option maxRecDepth 20000 in
theorem k_steps {J : mJ} (X : mRules J) {I A : mI} {B : mB} {w f : Nat} {R : mR} {a : Ac} (C : CR a I A B) (G : Gd a) (hn2 : a.n ≤ 220) {bk : Bool} (hbk : I 7 1 = 0 ↔ bk = false) (hD1 : bk = true → 1 ≤ a.P * a.N) (h : qC w f I A B R (some (.int (an_steps a bk)))) : J n_V_steps 0 [.ref 0] [] I A B (pk w f) R := by
  have V := G.V
  have hP40 := V.P40
  have hN8 := V.N8
  have hnt4 := V.nt4
  have hcN := V.cN
  have hK1 := V.K1
  have hK4 := V.K4
  have hPN := D320 V
  have hNP : a.N * a.P ≤ 320 := by rw [Nat.mul_comm]; exact hPN
  have hD31 : a.P * a.N < 2 ^ 31 := by omega
  have hN31 : a.N < 2 ^ 31 := by omega
  have hn31 : a.n < 2 ^ 31 := by omega
  have hnt31 : a.nt < 2 ^ 31 := by omega
  have hDD : I 16 4 * I 16 5 = nI (a.P * a.N) := by rw [C.hP, C.hN, pk_mul]
  have hvn : ∀ j, j < a.n → A 32 j = nI (a.va j) ∧ a.va j < 2 ^ 20 := fun j hj => ⟨C.hva j hj, by have := V.va9 j hj; omega⟩
  refine X 200 _ _ _ _ _ _ _ _ _ ?_
  refine c_noBook X (fun zb => ?_) (fun zb => ?_)
  · have zb2 := hbk.mp zb
    subst zb2
    refine And.intro (fun q => absurd q (by decide)) (fun _ => ?_)
    have h2 := h _ _ (fC.refl _ _)
    exact h2
  · have zb2 : bk = true := by cases bk with | true => rfl | false => exact absurd (hbk.mpr rfl) zb
    subst zb2
    refine And.intro (fun _ => ?_) (fun q => absurd (by decide) q)
    refine c_stepsTill X (D := a.P * a.N) hDD hPN (hD1 rfl) ?_
    have h2 := h _ _ (fC.refl _ _)
    have e9 : an_steps a true = nI (ct (stp B) (a.P * a.N - 1)) := congrArg nI (ct_congr (fun j (hj : j < a.P * a.N - 1) => (z_st C (by omega)).symm))
    rw [e9] at h2
    exact h2
theorem z_step {a : Ac} {I A : mI} {B : mB} (C : CR a I A B) {k : Int32} (hk : ¬ k < 0) : an_step a true k = (match fd (fun j => stp B j && decide (nI (ct (stp B) j) = k)) (a.P * a.N - 1) with | some j => nI (1 + j) | none => -1) := by
  have e : fd (fun j => stp B j && decide (nI (ct (stp B) j) = k)) (a.P * a.N - 1) = fd (fun j => zst a j && decide (nI (ct (zst a) j) = k)) (a.P * a.N - 1) := fd_congr (fun j hj => by
    rw [z_st C (by omega), ct_congr (g' := zst a) (fun i hi => z_st C (by omega))])
  rw [e]
  exact if_neg hk
set_option maxRecDepth 20000 in
theorem k_step {J : mJ} (X : mRules J) {I A : mI} {B : mB} {w f : Nat} {R : mR} {a : Ac} (C : CR a I A B) (G : Gd a) (hn2 : a.n ≤ 220) {bk : Bool} (hbk : I 7 1 = 0 ↔ bk = false) (hD1 : bk = true → 1 ≤ a.P * a.N) {k : Int32} (h : qC w f I A B R (some (.int (an_step a bk k)))) : J n_V_step 0 [.ref 0, .int k] [] I A B (pk w f) R := by
  have V := G.V
  have hP40 := V.P40
  have hN8 := V.N8
  have hnt4 := V.nt4
  have hcN := V.cN
  have hK1 := V.K1
  have hK4 := V.K4
  have hPN := D320 V
  have hNP : a.N * a.P ≤ 320 := by rw [Nat.mul_comm]; exact hPN
  have hD31 : a.P * a.N < 2 ^ 31 := by omega
  have hN31 : a.N < 2 ^ 31 := by omega
  have hn31 : a.n < 2 ^ 31 := by omega
  have hnt31 : a.nt < 2 ^ 31 := by omega
  have hDD : I 16 4 * I 16 5 = nI (a.P * a.N) := by rw [C.hP, C.hN, pk_mul]
  have hvn : ∀ j, j < a.n → A 32 j = nI (a.va j) ∧ a.va j < 2 ^ 20 := fun j hj => ⟨C.hva j hj, by have := V.va9 j hj; omega⟩
  refine X 200 _ _ _ _ _ _ _ _ _ ?_
  refine And.intro (fun q1 => ?_) (fun q1 => ?_)
  · have e8 : an_step a bk k = -2 := by cases bk with | false => rfl | true => exact if_pos q1
    rw [e8] at h
    have h2 := h _ _ (fC.refl _ _)
    exact h2
  · refine c_noBook X (fun zb => ?_) (fun zb => ?_)
    · have zb2 := hbk.mp zb
      subst zb2
      refine And.intro (fun q => absurd q (by decide)) (fun _ => ?_)
      have h2 := h _ _ (fC.refl _ _)
      exact h2
    · have zb2 : bk = true := by cases bk with | true => rfl | false => exact absurd (hbk.mpr rfl) zb
      subst zb2
      refine And.intro (fun _ => ?_) (fun q => absurd (by decide) q)
      refine c_stepDay X hDD hPN (hD1 rfl) ?_
      have h2 := h _ _ (fC.refl _ _)
      have e9 : an_step a true k = _ := z_step C q1
      rw [e9] at h2
      exact h2
set_option maxRecDepth 20000 in
theorem k_lowest {J : mJ} (X : mRules J) {I A : mI} {B : mB} {w f : Nat} {R : mR} {a : Ac} (C : CR a I A B) (G : Gd a) (hn2 : a.n ≤ 220) {bk : Bool} (hbk : I 7 1 = 0 ↔ bk = false) (hD1 : bk = true → 1 ≤ a.P * a.N) (h : qC w f I A B R (some (.long (an_lowest a bk)))) : J n_V_lowest 0 [.ref 0] [] I A B (pk w f) R := by
  have V := G.V
  have hP40 := V.P40
  have hN8 := V.N8
  have hnt4 := V.nt4
  have hcN := V.cN
  have hK1 := V.K1
  have hK4 := V.K4
  have hPN := D320 V
  have hNP : a.N * a.P ≤ 320 := by rw [Nat.mul_comm]; exact hPN
  have hD31 : a.P * a.N < 2 ^ 31 := by omega
  have hN31 : a.N < 2 ^ 31 := by omega
  have hn31 : a.n < 2 ^ 31 := by omega
  have hnt31 : a.nt < 2 ^ 31 := by omega
  have hDD : I 16 4 * I 16 5 = nI (a.P * a.N) := by rw [C.hP, C.hN, pk_mul]
  have hvn : ∀ j, j < a.n → A 32 j = nI (a.va j) ∧ a.va j < 2 ^ 20 := fun j hj => ⟨C.hva j hj, by have := V.va9 j hj; omega⟩
  refine X 200 _ _ _ _ _ _ _ _ _ ?_
  refine c_noBook X (fun zb => ?_) (fun zb => ?_)
  · have zb2 := hbk.mp zb
    subst zb2
    refine And.intro (fun q => absurd q (by decide)) (fun _ => ?_)
    have h2 := h _ _ (fC.refl _ _)
    exact h2
  · have zb2 : bk = true := by cases bk with | true => rfl | false => exact absurd (hbk.mpr rfl) zb
    subst zb2
    refine And.intro (fun _ => ?_) (fun q => absurd (by decide) q)
    refine c_leastStanding X hDD hPN (hD1 rfl) ?_
    have h2 := h _ _ (fC.refl _ _)
    have e9 : an_lowest a true = _ := (z_low C (hD1 rfl)).symm
    rw [e9] at h2
    exact h2
set_option maxRecDepth 20000 in
theorem k_beyond {J : mJ} (X : mRules J) {I A : mI} {B : mB} {w f : Nat} {R : mR} {a : Ac} (C : CR a I A B) (G : Gd a) (hn2 : a.n ≤ 220) {bk : Bool} (hbk : I 7 1 = 0 ↔ bk = false) (h : qC w f I A B R (some (.int (an_beyond a bk)))) : J n_V_beyond 0 [.ref 0] [] I A B (pk w f) R := by
  have V := G.V
  have hP40 := V.P40
  have hN8 := V.N8
  have hnt4 := V.nt4
  have hcN := V.cN
  have hK1 := V.K1
  have hK4 := V.K4
  have hPN := D320 V
  have hNP : a.N * a.P ≤ 320 := by rw [Nat.mul_comm]; exact hPN
  have hD31 : a.P * a.N < 2 ^ 31 := by omega
  have hN31 : a.N < 2 ^ 31 := by omega
  have hn31 : a.n < 2 ^ 31 := by omega
  have hnt31 : a.nt < 2 ^ 31 := by omega
  have hDD : I 16 4 * I 16 5 = nI (a.P * a.N) := by rw [C.hP, C.hN, pk_mul]
  have hvn : ∀ j, j < a.n → A 32 j = nI (a.va j) ∧ a.va j < 2 ^ 20 := fun j hj => ⟨C.hva j hj, by have := V.va9 j hj; omega⟩
  refine X 200 _ _ _ _ _ _ _ _ _ ?_
  refine c_noBook X (fun zb => ?_) (fun zb => ?_)
  · have zb2 := hbk.mp zb
    subst zb2
    refine And.intro (fun q => absurd q (by decide)) (fun _ => ?_)
    have h2 := h _ _ (fC.refl _ _)
    exact h2
  · have zb2 : bk = true := by cases bk with | true => rfl | false => exact absurd (hbk.mpr rfl) zb
    subst zb2
    refine And.intro (fun _ => ?_) (fun q => absurd (by decide) q)
    refine c_daysBeyond X hDD hPN ?_
    have h2 := h _ _ (fC.refl _ _)
    have e9 : an_beyond a true = nI (ct (fun j => decide (rmd A B j < 0)) (a.P * a.N)) := congrArg nI (ct_congr (fun j hj => (z_by C V hj).symm))
    rw [e9] at h2
    exact h2
set_option maxRecDepth 20000 in
theorem k_first {J : mJ} (X : mRules J) {I A : mI} {B : mB} {w f : Nat} {R : mR} {a : Ac} (C : CR a I A B) (G : Gd a) (hn2 : a.n ≤ 220) {bk : Bool} (hbk : I 7 1 = 0 ↔ bk = false) (h : qC w f I A B R (some (.int (an_first a bk)))) : J n_V_firstBeyond 0 [.ref 0] [] I A B (pk w f) R := by
  have V := G.V
  have hP40 := V.P40
  have hN8 := V.N8
  have hnt4 := V.nt4
  have hcN := V.cN
  have hK1 := V.K1
  have hK4 := V.K4
  have hPN := D320 V
  have hNP : a.N * a.P ≤ 320 := by rw [Nat.mul_comm]; exact hPN
  have hD31 : a.P * a.N < 2 ^ 31 := by omega
  have hN31 : a.N < 2 ^ 31 := by omega
  have hn31 : a.n < 2 ^ 31 := by omega
  have hnt31 : a.nt < 2 ^ 31 := by omega
  have hDD : I 16 4 * I 16 5 = nI (a.P * a.N) := by rw [C.hP, C.hN, pk_mul]
  have hvn : ∀ j, j < a.n → A 32 j = nI (a.va j) ∧ a.va j < 2 ^ 20 := fun j hj => ⟨C.hva j hj, by have := V.va9 j hj; omega⟩
  refine X 200 _ _ _ _ _ _ _ _ _ ?_
  refine c_noBook X (fun zb => ?_) (fun zb => ?_)
  · have zb2 := hbk.mp zb
    subst zb2
    refine And.intro (fun q => absurd q (by decide)) (fun _ => ?_)
    have h2 := h _ _ (fC.refl _ _)
    exact h2
  · have zb2 : bk = true := by cases bk with | true => rfl | false => exact absurd (hbk.mpr rfl) zb
    subst zb2
    refine And.intro (fun _ => ?_) (fun q => absurd (by decide) q)
    refine c_firstDayBeyond X hDD hPN ?_
    have h2 := h _ _ (fC.refl _ _)
    have e9 : an_first a true = fI (fd (fun j => decide (rmd A B j < 0)) (a.P * a.N)) := congrArg fI (fd_congr (fun j hj => (z_by C V hj).symm))
    rw [e9] at h2
    exact h2
set_option maxRecDepth 20000 in
theorem k_reaches {J : mJ} (X : mRules J) {I A : mI} {B : mB} {w f : Nat} {R : mR} {a : Ac} (C : CR a I A B) (G : Gd a) (hn2 : a.n ≤ 220) {bk : Bool} (hbk : I 7 1 = 0 ↔ bk = false) {m : Int32} (h : qC w f I A B R (some (.int (an_reaches a bk m)))) : J n_V_reaches 0 [.ref 0, .int m] [] I A B (pk w f) R := by
  have V := G.V
  have hP40 := V.P40
  have hN8 := V.N8
  have hnt4 := V.nt4
  have hcN := V.cN
  have hK1 := V.K1
  have hK4 := V.K4
  have hPN := D320 V
  have hNP : a.N * a.P ≤ 320 := by rw [Nat.mul_comm]; exact hPN
  have hD31 : a.P * a.N < 2 ^ 31 := by omega
  have hN31 : a.N < 2 ^ 31 := by omega
  have hn31 : a.n < 2 ^ 31 := by omega
  have hnt31 : a.nt < 2 ^ 31 := by omega
  have hDD : I 16 4 * I 16 5 = nI (a.P * a.N) := by rw [C.hP, C.hN, pk_mul]
  have hvn : ∀ j, j < a.n → A 32 j = nI (a.va j) ∧ a.va j < 2 ^ 20 := fun j hj => ⟨C.hva j hj, by have := V.va9 j hj; omega⟩
  refine X 200 _ _ _ _ _ _ _ _ _ ?_
  refine c_noBook X (fun zb => ?_) (fun zb => ?_)
  · have zb2 := hbk.mp zb
    subst zb2
    refine And.intro (fun _ => ?_) (fun q => absurd q (by decide))
    have h2 := h _ _ (fC.refl _ _)
    exact h2
  · have zb2 : bk = true := by cases bk with | true => rfl | false => exact absurd (hbk.mpr rfl) zb
    subst zb2
    refine And.intro (fun q => absurd (by decide) q) (fun _ => ?_)
    refine c_isBetween X (fun z1 z2 => ?_) (fun zm => ?_)
    · have zm := And.intro z1 z2
      refine And.intro (fun _ => ?_) (fun q => absurd q (by decide))
      refine c_firstDayAt X hDD hPN ?_
      simp only [an_reaches, if_pos zm] at h
      have h2 := h _ _ (fC.refl _ _)
      have e9 : fI (fd (fun d => decide (m.toInt64 ≤ zB a d)) (zD a)) = fI (fd (fun j => decide (m.toInt64 ≤ B 36 j)) (a.P * a.N)) := congrArg fI (fd_congr (fun j hj => by rw [C.hbl j hj]; rfl))
      rw [e9] at h2
      exact h2
    · refine And.intro (fun q => absurd (by decide) q) (fun _ => ?_)
      simp only [an_reaches, if_neg zm] at h
      have h2 := h _ _ (fC.refl _ _)
      exact h2
theorem z_lf {a : Ac} {I A : mI} {B : mB} (C : CR a I A B) (h1 : 1 ≤ a.P * a.N) : mnu (B 36) 0 (a.P * a.N - 1) = an_lowest a true := z_low C h1
set_option maxRecDepth 20000 in
theorem k_limitFor {J : mJ} (X : mRules J) {I A : mI} {B : mB} {w f : Nat} {R : mR} {a : Ac} (C : CR a I A B) (G : Gd a) (hn2 : a.n ≤ 220) {bk : Bool} (hbk : I 7 1 = 0 ↔ bk = false) (hD1 : bk = true → 1 ≤ a.P * a.N) (h : qC w f I A B R (some (.int (an_limitFor a bk)))) : J n_V_limitFor 0 [.ref 0, .float 0, .float 0] [] I A B (pk w f) R := by
  have V := G.V
  have hP40 := V.P40
  have hN8 := V.N8
  have hnt4 := V.nt4
  have hcN := V.cN
  have hK1 := V.K1
  have hK4 := V.K4
  have hPN := D320 V
  have hNP : a.N * a.P ≤ 320 := by rw [Nat.mul_comm]; exact hPN
  have hD31 : a.P * a.N < 2 ^ 31 := by omega
  have hN31 : a.N < 2 ^ 31 := by omega
  have hn31 : a.n < 2 ^ 31 := by omega
  have hnt31 : a.nt < 2 ^ 31 := by omega
  have hDD : I 16 4 * I 16 5 = nI (a.P * a.N) := by rw [C.hP, C.hN, pk_mul]
  have hvn : ∀ j, j < a.n → A 32 j = nI (a.va j) ∧ a.va j < 2 ^ 20 := fun j hj => ⟨C.hva j hj, by have := V.va9 j hj; omega⟩
  refine X 200 _ _ _ _ _ _ _ _ _ ?_
  refine c_noBook X (fun zb => ?_) (fun zb => ?_)
  · have zb2 := hbk.mp zb
    subst zb2
    refine And.intro (fun q => absurd q (by decide)) (fun _ => ?_)
    have h2 := h _ _ (fC.refl _ _)
    exact h2
  · have zb2 : bk = true := by cases bk with | true => rfl | false => exact absurd (hbk.mpr rfl) zb
    subst zb2
    refine And.intro (fun _ => ?_) (fun q => absurd (by decide) q)
    refine c_leastStanding X hDD hPN (hD1 rfl) ?_
    refine And.intro (fun q1 => ?_) (fun q1 => ?_)
    · have h2 := h _ _ (fC.refl _ _)
      rw [z_lf C (hD1 rfl)] at q1
      first | rw [lf_n q1] at h2 | rw [lf_p q1] at h2
      try rw [← z_lf C (hD1 rfl)] at h2
      exact h2
    · have h2 := h _ _ (fC.refl _ _)
      rw [z_lf C (hD1 rfl)] at q1
      first | rw [lf_n q1] at h2 | rw [lf_p q1] at h2
      try rw [← z_lf C (hD1 rfl)] at h2
      exact h2
set_option maxRecDepth 20000 in
theorem k_most {J : mJ} (X : mRules J) {I A : mI} {B : mB} {w f : Nat} {R : mR} {a : Ac} (C : CR a I A B) (G : Gd a) (hn2 : a.n ≤ 220) {d : Int32} (h : qC w f I A B R (some (.int (an_most a (ixN (zD a) d))))) : J n_V_most 0 [.ref 0, .int d] [] I A B (pk w f) R := by
  have V := G.V
  have hP40 := V.P40
  have hN8 := V.N8
  have hnt4 := V.nt4
  have hcN := V.cN
  have hK1 := V.K1
  have hK4 := V.K4
  have hPN := D320 V
  have hNP : a.N * a.P ≤ 320 := by rw [Nat.mul_comm]; exact hPN
  have hD31 : a.P * a.N < 2 ^ 31 := by omega
  have hN31 : a.N < 2 ^ 31 := by omega
  have hn31 : a.n < 2 ^ 31 := by omega
  have hnt31 : a.nt < 2 ^ 31 := by omega
  have hDD : I 16 4 * I 16 5 = nI (a.P * a.N) := by rw [C.hP, C.hN, pk_mul]
  have hvn : ∀ j, j < a.n → A 32 j = nI (a.va j) ∧ a.va j < 2 ^ 20 := fun j hj => ⟨C.hva j hj, by have := V.va9 j hj; omega⟩
  refine X 200 _ _ _ _ _ _ _ _ _ ?_
  refine c_isDay X hD31 hDD (fun d0 hd ed => ?_) (fun zd => ?_)
  · subst ed
    refine And.intro (fun q => absurd q (by decide)) (fun _ => ?_)
    refine c_roomFrom X hDD hPN hd ?_
    refine And.intro (fun q1 => ?_) (fun q1 => ?_)
    · rw [ixN_s hd hD31] at h
      have h2 := h _ _ (fC.refl _ _)
      simp only [an_most, zD] at h2
      rw [← z_room C V hd] at h2
      first | (rw [if_pos (Int64.not_le.mp q1)] at h2; exact h2) | (rw [if_neg (Int64.not_lt.mpr q1)] at h2; exact h2)
    · rw [ixN_s hd hD31] at h
      have h2 := h _ _ (fC.refl _ _)
      simp only [an_most, zD] at h2
      rw [← z_room C V hd] at h2
      first | (rw [if_pos (Int64.not_le.mp q1)] at h2; exact h2) | (rw [if_neg (Int64.not_lt.mpr q1)] at h2; exact h2)
  · refine And.intro (fun _ => ?_) (fun q => absurd (by decide) q)
    rw [ixN_n hD31 zd] at h
    have h2 := h _ _ (fC.refl _ _)
    exact h2
theorem mnu_z {a : Ac} (V : Vw a) (x : Nat) : ∀ n, ∃ z : Int, mnu (zR a) x n = zL z ∧ -2 ^ 40 ≤ z ∧ z ≤ 2 ^ 40
  | 0 => by
    have h6 := zhl_b V (r := 6) (d := x) (by omega)
    simp only [if_true] at h6
    have hb := zbl_b V x
    exact ⟨_, zR_z V x, by omega, by omega⟩
  | n + 1 => by
    obtain ⟨z, h1, h2, h3⟩ := mnu_z V x n
    have h6 := zhl_b V (r := 6) (d := x + n + 1) (by omega)
    simp only [if_true] at h6
    have hb := zbl_b V (x + n + 1)
    show ∃ y : Int, (if zR a (x + n + 1) < mnu (zR a) x n then zR a (x + n + 1) else mnu (zR a) x n) = zL y ∧ _
    split
    · exact ⟨_, zR_z V _, by omega, by omega⟩
    · exact ⟨z, h1, h2, h3⟩
theorem z_least {a : Ac} (V : Vw a) {d : Nat} {r : Int64} (hr : r = mnu (zR a) d (a.P * a.N - 1 - d)) : an_least a (some d) = if (if -r < 0 then 0 else -r) ≤ 999999 then (if -r < 0 then 0 else -r).toInt32 else -1 := by
  obtain ⟨z, h1, h2, h3⟩ := mnu_z V d (a.P * a.N - 1 - d)
  simp only [an_least, zD]
  rw [← hr]
  rw [← hr] at h1
  subst h1
  rw [zL_neg, zl_max0 (by omega) (by omega)]
  by_cases y : 0 ≤ z
  · rw [if_pos ((zl_ge0 (by omega) (by omega)).mpr y)]
    have e : (if -z < 0 then 0 else -z) = 0 := by split <;> omega
    rw [e]
    rfl
  · rw [if_neg (fun q => y ((zl_ge0 (by omega) (by omega)).mp q)), if_neg (show ¬ -z < 0 by omega)]
    show (if zL 999999 < zL (-z) then (-1 : Int32) else (zL (-z)).toInt32) = if zL (-z) ≤ zL 999999 then (zL (-z)).toInt32 else -1
    by_cases x : 999999 < -z
    · rw [if_pos ((zl_lt (x := 999999) (by omega) (by omega) (by omega) (by omega)).mpr x), if_neg (fun q => absurd ((zl_le (y := 999999) (by omega) (by omega) (by omega) (by omega)).mp q) (by omega))]
    · rw [if_neg (fun q => x ((zl_lt (x := 999999) (by omega) (by omega) (by omega) (by omega)).mp q)), if_pos ((zl_le (y := 999999) (by omega) (by omega) (by omega) (by omega)).mpr (by omega))]
theorem z_lea1 {a : Ac} (V : Vw a) {d : Nat} {r : Int64} (hr : r = mnu (zR a) d (a.P * a.N - 1 - d)) (q : (if -r < 0 then 0 else -r) ≤ 999999) : an_least a (some d) = (if -r < 0 then 0 else -r).toInt32 := (z_least V hr).trans (if_pos q)
theorem z_lea2 {a : Ac} (V : Vw a) {d : Nat} {r : Int64} (hr : r = mnu (zR a) d (a.P * a.N - 1 - d)) (q : ¬ (if -r < 0 then 0 else -r) ≤ 999999) : an_least a (some d) = -1 := (z_least V hr).trans (if_neg q)
set_option maxRecDepth 20000 in
theorem k_least {J : mJ} (X : mRules J) {I A : mI} {B : mB} {w f : Nat} {R : mR} {a : Ac} (C : CR a I A B) (G : Gd a) (hn2 : a.n ≤ 220) {d : Int32} (h : qC w f I A B R (some (.int (an_least a (ixN (zD a) d))))) : J n_V_least 0 [.ref 0, .int d] [] I A B (pk w f) R := by
  have V := G.V
  have hP40 := V.P40
  have hN8 := V.N8
  have hnt4 := V.nt4
  have hcN := V.cN
  have hK1 := V.K1
  have hK4 := V.K4
  have hPN := D320 V
  have hNP : a.N * a.P ≤ 320 := by rw [Nat.mul_comm]; exact hPN
  have hD31 : a.P * a.N < 2 ^ 31 := by omega
  have hN31 : a.N < 2 ^ 31 := by omega
  have hn31 : a.n < 2 ^ 31 := by omega
  have hnt31 : a.nt < 2 ^ 31 := by omega
  have hDD : I 16 4 * I 16 5 = nI (a.P * a.N) := by rw [C.hP, C.hN, pk_mul]
  have hvn : ∀ j, j < a.n → A 32 j = nI (a.va j) ∧ a.va j < 2 ^ 20 := fun j hj => ⟨C.hva j hj, by have := V.va9 j hj; omega⟩
  refine X 200 _ _ _ _ _ _ _ _ _ ?_
  refine c_isDay X hD31 hDD (fun d0 hd ed => ?_) (fun zd => ?_)
  · subst ed
    refine And.intro (fun q => absurd q (by decide)) (fun _ => ?_)
    refine c_roomFrom X hDD hPN hd ?_
    refine And.intro (fun q1 => ?_) (fun q1 => ?_)
    · rw [ixN_s hd hD31] at h
      have h2 := h _ _ (fC.refl _ _)
      first | rw [z_lea1 V (z_room C V hd) q1] at h2 | rw [z_lea2 V (z_room C V hd) q1] at h2
      exact h2
    · rw [ixN_s hd hD31] at h
      have h2 := h _ _ (fC.refl _ _)
      first | rw [z_lea1 V (z_room C V hd) q1] at h2 | rw [z_lea2 V (z_room C V hd) q1] at h2
      exact h2
  · refine And.intro (fun _ => ?_) (fun q => absurd (by decide) q)
    rw [ixN_n hD31 zd] at h
    have h2 := h _ _ (fC.refl _ _)
    exact h2
theorem sub_v {t : Int32} {n v : Nat} {x c : Int32} (hx : x = nI n) (hc : c = nI v) (h : t - x = c) : t = nI (n + v) := by
  subst hx; subst hc
  have := congrArg (· + nI n) h
  simp only [Int32.sub_add_cancel] at this
  rw [this, nI_add, Nat.add_comm]
theorem sub_w {n k : Nat} {x : Int32} (hx : x = nI n) (h : n ≤ k) : nI k - x = nI (k - n) := by
  subst hx
  exact pk_sub h
set_option maxRecDepth 20000 in
theorem k_part {J : mJ} (X : mRules J) {I A : mI} {B : mB} {w f : Nat} {R : mR} {a : Ac} (C : CR a I A B) (G : Gd a) (hn2 : a.n ≤ 220) {d t : Int32} (h : qC w f I A B R (some (.long (an_part a (ixN (zD a) d) (ixN (a.nt + 3) t))))) : J n_V_part 0 [.ref 0, .int d, .int t, .float 0, .float 0, .float 0] [] I A B (pk w f) R := by
  have V := G.V
  have hP40 := V.P40
  have hN8 := V.N8
  have hnt4 := V.nt4
  have hcN := V.cN
  have hK1 := V.K1
  have hK4 := V.K4
  have hPN := D320 V
  have hNP : a.N * a.P ≤ 320 := by rw [Nat.mul_comm]; exact hPN
  have hD31 : a.P * a.N < 2 ^ 31 := by omega
  have hN31 : a.N < 2 ^ 31 := by omega
  have hn31 : a.n < 2 ^ 31 := by omega
  have hnt31 : a.nt < 2 ^ 31 := by omega
  have hDD : I 16 4 * I 16 5 = nI (a.P * a.N) := by rw [C.hP, C.hN, pk_mul]
  have hvn : ∀ j, j < a.n → A 32 j = nI (a.va j) ∧ a.va j < 2 ^ 20 := fun j hj => ⟨C.hva j hj, by have := V.va9 j hj; omega⟩
  refine X 200 _ _ _ _ _ _ _ _ _ ?_
  refine c_isDay X hD31 hDD (fun d0 hd ed => ?_) (fun zd => ?_)
  · subst ed
    refine And.intro (fun q => absurd q (by decide)) (fun _ => ?_)
    refine And.intro (fun q1 => ?_) (fun q1 => ?_)
    · refine c_standing X (d := d0) rfl (by omega) ?_
      refine c_isTier X hnt31 C.hnt (fun t0 ht et => ?_) (fun zt => ?_)
      · subst et
        refine And.intro (fun q => absurd q (by decide)) (fun _ => ?_)
        refine c_partOf X (t := t0) rfl (by omega) ?_
        rw [ixN_s hd hD31] at h
        rw [ixN_s (show t0 < a.nt + 3 by omega) (by omega)] at h
        have h2 := h _ _ (fC.refl _ _)
        have e9 : an_part a (some d0) (some t0) = ptO A t0 (B 36 d0) := by rw [C.hbl d0 hd]; exact (z_pt C G ht (bl40 G d0)).symm
        rw [e9] at h2
        exact h2
      · refine And.intro (fun _ => ?_) (fun q => absurd (by decide) q)
        refine And.intro (fun q2 => ?_) (fun q2 => ?_)
        · refine c_partAboveAll X (nt := a.nt) hnt4 C.hnt ?_
          rw [ixN_s hd hD31] at h
          have et := sub_v (v := 0) C.hnt rfl q2
          subst et
          rw [ixN_s (show a.nt + 0 < a.nt + 3 by omega) (by omega)] at h
          have h2 := h _ _ (fC.refl _ _)
          have e9 : an_part a (some d0) (some (a.nt + 0)) = _ := (z_above C G (d := d0) (bl40 G d0)).symm
          rw [e9, ← C.hbl d0 hd] at h2
          exact h2
        refine And.intro (fun q3 => ?_) (fun q3 => ?_)
        · refine c_rule X (r := 6) (d := d0) rfl rfl (by omega) (by omega) ?_
          rw [ixN_s hd hD31] at h
          have et := sub_v (v := 1) C.hnt rfl q3
          subst et
          rw [ixN_s (show a.nt + 1 < a.nt + 3 by omega) (by omega)] at h
          have h2 := h _ _ (fC.refl _ _)
          have e9 : an_part a (some d0) (some (a.nt + 1)) = _ := (z_within C G (by omega) (bl40 G d0)).symm
          rw [e9, ← C.hbl d0 hd] at h2
          exact h2
        refine And.intro (fun q4 => ?_) (fun q4 => ?_)
        · refine c_rule X (r := 6) (d := d0) rfl rfl (by omega) (by omega) ?_
          rw [ixN_s hd hD31] at h
          have et := sub_v (v := 2) C.hnt rfl q4
          subst et
          rw [ixN_s (show a.nt + 2 < a.nt + 3 by omega) (by omega)] at h
          have h2 := h _ _ (fC.refl _ _)
          have e9 : an_part a (some d0) (some (a.nt + 2)) = _ := (z_over C G (by omega) (bl40 G d0)).symm
          rw [e9, ← C.hbl d0 hd] at h2
          exact h2
        rw [ixN_s hd hD31] at h
        rw [ixN_n (N := a.nt + 3) (by omega) (fun k hk e => by
          by_cases z : k < a.nt
          · exact zt k z e
          · have e2 := sub_w C.hnt (show a.nt ≤ k by omega)
            rw [← e] at e2
            have e3 : k - a.nt = 0 ∨ k - a.nt = 1 ∨ k - a.nt = 2 := by omega
            rcases e3 with y | y | y
            · exact q2 (e2.trans (congrArg nI y))
            · exact q3 (e2.trans (congrArg nI y))
            · exact q4 (e2.trans (congrArg nI y)))] at h
        have h2 := h _ _ (fC.refl _ _)
        exact h2
    · rw [ixN_s hd hD31] at h
      rw [ixN_n (N := a.nt + 3) (by omega) (fun k hk e => by rw [e] at q1; exact absurd (nI_pos' (by omega)) q1)] at h
      have h2 := h _ _ (fC.refl _ _)
      exact h2
  · refine And.intro (fun _ => ?_) (fun q => absurd (by decide) q)
    rw [ixN_n hD31 zd] at h
    have h2 := h _ _ (fC.refl _ _)
    exact h2
