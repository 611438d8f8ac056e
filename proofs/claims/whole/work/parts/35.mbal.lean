/-! contracts of the reference: questions about balances (written by wip/whole/gm3.py) -/
theorem c_Mholds2 {J : mJ} (X : mRules J) {I A : mI} {B : mB} {w f : Nat} {R : mR} {a : Ac} (M : MR a w I A B) (V : Vw a) {r d : Nat} (hr : r < a.nt ∨ 4 ≤ r ∧ r ≤ 6) (hd : d < 2 ^ 20) {xr xd : Int32} (er : xr = nI r) (ed : xd = nI d) (h : R (some (.int (zN (zhl a r d)))) I A B (pk w f)) : J n_M_holds 0 [.ref 43, .int xr, .int xd, .float 0, .float 0, .float 0] [] I A B (pk w f) R := by
  subst er; subst ed
  exact c_Mholds X M V hr hd h
theorem zn4 {a b : Nat} : (nI a + nI b : Int32) = nI (a + b) := nI_add a b
theorem P_in {a : Ac} {p i : Nat} (hp : p < a.N) (hi : i < a.P) : a.P * p + i < a.P * a.N := by
  have := Nat.mul_le_mul_left a.P (show p + 1 ≤ a.N by omega)
  rw [Nat.mul_succ] at this
  omega
theorem P_le {a : Ac} {p : Nat} (hp : p < a.N) : a.P * p + a.P ≤ a.P * a.N := by
  have := Nat.mul_le_mul_left a.P (show p + 1 ≤ a.N by omega)
  rw [Nat.mul_succ] at this
  omega
set_option maxRecDepth 20000 in
theorem r_rate {J : mJ} (X : mRules J) {I A : mI} {B : mB} {w f : Nat} {R : mR} {a : Ac} (M : MR a w I A B) (V : Vw a) {t d : Int32} (h : qM a w f I A B R (some (.int (an_rate a (ixN a.nt t) (ixN (zD a) d))))) : J n_M_rate 0 [.ref 43, .int t, .int d] [] I A B (pk w f) R := by
  have hP40 := V.P40
  have hN8 := V.N8
  have hn4 := V.n4
  have hnt4 := V.nt4
  have hcN := V.cN
  have hPN := Nat.mul_le_mul hP40 hN8
  have hD31 : a.P * a.N < 2 ^ 31 := by omega
  have hN31 : a.N < 2 ^ 31 := by omega
  have hn31 : a.n < 2 ^ 31 := by omega
  have hnt31 : a.nt < 2 ^ 31 := by omega
  refine X 200 _ _ _ _ _ _ _ _ _ ?_
  refine c_MisTier X M V (fun t0 ht et => ?_) (fun zt => ?_)
  · subst et
    refine And.intro (fun q => absurd q (by decide)) (fun _ => ?_)
    refine c_MisDay X M V (fun d0 hd ed => ?_) (fun zd => ?_)
    · subst ed
      refine And.intro (fun q => absurd q (by decide)) (fun _ => ?_)
      refine c_Mholds2 X M V (Or.inl ht) (by omega) rfl rfl ?_
      rw [ixN_s ht hnt31] at h
      rw [ixN_s hd hD31] at h
      exact h _ _ _ M (fM.refl _ _ _)
    · refine And.intro (fun _ => ?_) (fun q => absurd (by decide) q)
      rw [ixN_s ht hnt31] at h
      rw [ixN_n hD31 zd] at h
      exact h _ _ _ M (fM.refl _ _ _)
  · refine And.intro (fun _ => ?_) (fun q => absurd (by decide) q)
    rw [ixN_n hnt31 zt] at h
    exact h _ _ _ M (fM.refl _ _ _)
set_option maxRecDepth 20000 in
theorem r_owing {J : mJ} (X : mRules J) {I A : mI} {B : mB} {w f : Nat} {R : mR} {a : Ac} (M : MR a w I A B) (V : Vw a) {d k : Int32} (h : qM a w f I A B R (some (.int (an_owing a (ixN (zD a) d) (ixN 3 k))))) : J n_M_owing 0 [.ref 43, .int d, .int k] [] I A B (pk w f) R := by
  have hP40 := V.P40
  have hN8 := V.N8
  have hn4 := V.n4
  have hnt4 := V.nt4
  have hcN := V.cN
  have hPN := Nat.mul_le_mul hP40 hN8
  have hD31 : a.P * a.N < 2 ^ 31 := by omega
  have hN31 : a.N < 2 ^ 31 := by omega
  have hn31 : a.n < 2 ^ 31 := by omega
  have hnt31 : a.nt < 2 ^ 31 := by omega
  refine X 200 _ _ _ _ _ _ _ _ _ ?_
  refine c_MisDay X M V (fun d0 hd ed => ?_) (fun zd => ?_)
  · subst ed
    refine And.intro (fun q => absurd q (by decide)) (fun _ => ?_)
    refine c_MinK X 3 (by decide) (by decide) (fun k0 hk ek => ?_) (fun zk => ?_)
    · subst ek
      refine And.intro (fun q => absurd q (by decide)) (fun _ => ?_)
      refine c_Mholds2 X M V (r := 4 + k0) (by omega) (by omega) (nI_add 4 k0) rfl ?_
      rw [ixN_s hd hD31] at h
      rw [ixN_s hk (by decide)] at h
      exact h _ _ _ M (fM.refl _ _ _)
    · refine And.intro (fun _ => ?_) (fun q => absurd (by decide) q)
      rw [ixN_s hd hD31] at h
      rw [ixN_n (by decide) zk] at h
      exact h _ _ _ M (fM.refl _ _ _)
  · refine And.intro (fun _ => ?_) (fun q => absurd (by decide) q)
    rw [ixN_n hD31 zd] at h
    exact h _ _ _ M (fM.refl _ _ _)
set_option maxRecDepth 20000 in
theorem r_balance {J : mJ} (X : mRules J) {I A : mI} {B : mB} {w f : Nat} {R : mR} {a : Ac} (M : MR a w I A B) (V : Vw a) {d : Int32} (h : qM a w f I A B R (some (.long (an_balance a (ixN (zD a) d))))) : J n_M_balance 0 [.ref 43, .int d] [] I A B (pk w f) R := by
  have hP40 := V.P40
  have hN8 := V.N8
  have hn4 := V.n4
  have hnt4 := V.nt4
  have hcN := V.cN
  have hPN := Nat.mul_le_mul hP40 hN8
  have hD31 : a.P * a.N < 2 ^ 31 := by omega
  have hN31 : a.N < 2 ^ 31 := by omega
  have hn31 : a.n < 2 ^ 31 := by omega
  have hnt31 : a.nt < 2 ^ 31 := by omega
  refine X 200 _ _ _ _ _ _ _ _ _ ?_
  refine c_MisDay X M V (fun d0 hd ed => ?_) (fun zd => ?_)
  · subst ed
    refine And.intro (fun _ => ?_) (fun q => absurd q (by decide))
    refine c_Mlays X M V (fun Bv hv1 hv2 => ?_)
    have M1 := M.fB (hv1 55 (by decide))
    refine Exists.intro _ (And.intro rfl (And.intro (vin (by omega) (by omega)) ?_))
    rw [ixN_s hd hD31] at h
    have e1 : Bv 59 (nI d0).toNatClampNeg = zB a d0 := by rw [cl (by omega)]; exact hv2 d0 (by omega)
    have h2 := h _ _ _ M1 (fM.b59 hv1)
    show R (some (.long (Bv 59 (nI d0).toNatClampNeg))) I A Bv (pk w f)
    rw [e1]
    exact h2
  · refine And.intro (fun q => absurd (by decide) q) (fun _ => ?_)
    rw [ixN_n hD31 zd] at h
    exact h _ _ _ M (fM.refl _ _ _)
set_option maxRecDepth 20000 in
theorem r_product {J : mJ} (X : mRules J) {I A : mI} {B : mB} {w f : Nat} {R : mR} {a : Ac} (M : MR a w I A B) (V : Vw a) {d : Int32} (h : qM a w f I A B R (some (.long (an_product a (ixN (zD a) d))))) : J n_M_product 0 [.ref 43, .int d] [] I A B (pk w f) R := by
  have hP40 := V.P40
  have hN8 := V.N8
  have hn4 := V.n4
  have hnt4 := V.nt4
  have hcN := V.cN
  have hPN := Nat.mul_le_mul hP40 hN8
  have hD31 : a.P * a.N < 2 ^ 31 := by omega
  have hN31 : a.N < 2 ^ 31 := by omega
  have hn31 : a.n < 2 ^ 31 := by omega
  have hnt31 : a.nt < 2 ^ 31 := by omega
  refine X 200 _ _ _ _ _ _ _ _ _ ?_
  refine c_MisDay X M V (fun d0 hd ed => ?_) (fun zd => ?_)
  · subst ed
    refine And.intro (fun _ => ?_) (fun q => absurd q (by decide))
    refine c_Mlays X M V (fun Bv hv1 hv2 => ?_)
    have M1 := M.fB (hv1 55 (by decide))
    refine c_Mearned X M1 V (d := d0) (by omega) (by have := zbl_b V (d0); omega) (hv2 _ (by omega)) ?_
    refine c_Mowed X M1 V (d := d0) (by omega) (by have := zbl_b V (d0); omega) (hv2 _ (by omega)) ?_
    rw [ixN_s hd hD31] at h
    have h2 := h _ _ _ M1 (fM.b59 hv1)
    have e1 : an_product a (some d0) = zL (zer a d0 (zbl a d0)) - zL (zow a d0 (zbl a d0)) := by rw [zL_sub]; rfl
    rw [e1] at h2
    exact h2
  · refine And.intro (fun q => absurd (by decide) q) (fun _ => ?_)
    rw [ixN_n hD31 zd] at h
    exact h _ _ _ M (fM.refl _ _ _)
set_option maxRecDepth 20000 in
theorem r_part {J : mJ} (X : mRules J) {I A : mI} {B : mB} {w f : Nat} {R : mR} {a : Ac} (M : MR a w I A B) (V : Vw a) {d t : Int32} (h : qM a w f I A B R (some (.long (an_part a (ixN (zD a) d) (ixN (a.nt + 3) t))))) : J n_M_part 0 [.ref 43, .int d, .int t] [] I A B (pk w f) R := by
  have hP40 := V.P40
  have hN8 := V.N8
  have hn4 := V.n4
  have hnt4 := V.nt4
  have hcN := V.cN
  have hPN := Nat.mul_le_mul hP40 hN8
  have hD31 : a.P * a.N < 2 ^ 31 := by omega
  have hN31 : a.N < 2 ^ 31 := by omega
  have hn31 : a.n < 2 ^ 31 := by omega
  have hnt31 : a.nt < 2 ^ 31 := by omega
  refine X 200 _ _ _ _ _ _ _ _ _ ?_
  refine c_MisDay X M V (fun d0 hd ed => ?_) (fun zd => ?_)
  · subst ed
    refine And.intro (fun q => absurd q (by decide)) (fun _ => ?_)
    refine c_MinK X (a.nt + 3) (by rw [M.hnt, show (nI a.nt + 2 : Int32) = nI (a.nt + 2) from nI_add a.nt 2, nI_pred]) (by omega) (fun t0 ht et => ?_) (fun zt => ?_)
    · subst et
      refine And.intro (fun _ => ?_) (fun q => absurd q (by decide))
      refine c_Mlays X M V (fun Bv hv1 hv2 => ?_)
      have M1 := M.fB (hv1 55 (by decide))
      refine And.intro (fun q1 => ?_) (fun q1 => ?_)
      · refine c_Mpart X M1 V (d := d0) (by omega) (by have := zbl_b V (d0); omega) (hv2 _ (by omega)) (t := t0) (by omega) ?_
        rw [ixN_s hd hD31] at h
        rw [ixN_s ht (show a.nt + 3 < 2 ^ 31 by omega)] at h
        exact h _ _ _ M1 (fM.b59 hv1)
      · refine And.intro (fun q2 => ?_) (fun q2 => ?_)
        · refine c_Mpart X M1 V (d := d0) (by omega) (by have := zbl_b V (d0); omega) (hv2 _ (by omega)) (t := t0) (by omega) ?_
          rw [ixN_s hd hD31] at h
          rw [ixN_s ht (show a.nt + 3 < 2 ^ 31 by omega)] at h
          exact h _ _ _ M1 (fM.b59 hv1)
        · refine Exists.intro _ (And.intro rfl (And.intro (vin (by omega) (by omega)) ?_))
          rw [ixN_s hd hD31] at h
          rw [ixN_s ht (show a.nt + 3 < 2 ^ 31 by omega)] at h
          have c1 : t0 = a.nt := by have q0 := q1; rw [M.hnt] at q0; exact (nI_eq (by omega) (by omega)).mp q0
          have c2 : a.nt = 0 := by have q0 := q2; rw [M.hnt] at q0; exact (nI_eq (b := 0) (by omega) (by omega)).mp q0
          have hbb := zbl_b V d0
          have e1 : (if Bv 59 (nI d0).toNatClampNeg < 0 then 0 else Bv 59 (nI d0).toNatClampNeg) = zL (zpt a d0 (zbl a d0) t0) := by
            rw [cl (by omega), hv2 d0 (by omega), zl_max0 (by omega) (by omega)]
            congr 1
            by_cases z : zbl a d0 ≤ 0
            · rw [zpt_0 z (by omega)]
              split <;> omega
            · rw [zpt_u z (by omega) (by omega) (by omega)]
              simp only [zab, zfr, if_pos (show t0 = 0 by omega)]
              split <;> split <;> omega
          have h2 := h _ _ _ M1 (fM.b59 hv1)
          have e3 : an_part a (some d0) (some t0) = zL (zpt a d0 (zbl a d0) t0) := rfl
          rw [e3, ← e1] at h2
          exact h2
    · refine And.intro (fun q => absurd (by decide) q) (fun _ => ?_)
      rw [ixN_s hd hD31] at h
      rw [ixN_n (show a.nt + 3 < 2 ^ 31 by omega) zt] at h
      exact h _ _ _ M (fM.refl _ _ _)
  · refine And.intro (fun _ => ?_) (fun q => absurd (by decide) q)
    rw [ixN_n hD31 zd] at h
    exact h _ _ _ M (fM.refl _ _ _)
set_option maxRecDepth 20000 in
theorem r_fresh {J : mJ} (X : mRules J) {I A : mI} {B : mB} {w f : Nat} {R : mR} {a : Ac} (M : MR a w I A B) (V : Vw a) {p : Int32} (h : qM a w f I A B R (some (.long (an_fresh a (ixN a.N p))))) : J n_M_fresh 0 [.ref 43, .int p] [] I A B (pk w f) R := by
  have hP40 := V.P40
  have hN8 := V.N8
  have hn4 := V.n4
  have hnt4 := V.nt4
  have hcN := V.cN
  have hPN := Nat.mul_le_mul hP40 hN8
  have hD31 : a.P * a.N < 2 ^ 31 := by omega
  have hN31 : a.N < 2 ^ 31 := by omega
  have hn31 : a.n < 2 ^ 31 := by omega
  have hnt31 : a.nt < 2 ^ 31 := by omega
  refine X 200 _ _ _ _ _ _ _ _ _ ?_
  refine c_MisPeriod X M V (fun p0 hp ep => ?_) (fun zp => ?_)
  · subst ep
    refine And.intro (fun q => absurd q (by decide)) (fun _ => ?_)
    refine c_MinterestOf X M V (p := p0) (by have := P_le hp; omega) (fun Bv hv1 => ?_)
    have M1 := M.fB (hv1 55 (by decide))
    rw [ixN_s hp hN31] at h
    exact h _ _ _ M1 (fM.b59 hv1)
  · refine And.intro (fun _ => ?_) (fun q => absurd (by decide) q)
    rw [ixN_n hN31 zp] at h
    exact h _ _ _ M (fM.refl _ _ _)
set_option maxRecDepth 20000 in
theorem r_booked {J : mJ} (X : mRules J) {I A : mI} {B : mB} {w f : Nat} {R : mR} {a : Ac} (M : MR a w I A B) (V : Vw a) {p : Int32} (h : qM a w f I A B R (some (.long (an_booked a (ixN a.N p))))) : J n_M_booked 0 [.ref 43, .int p] [] I A B (pk w f) R := by
  have hP40 := V.P40
  have hN8 := V.N8
  have hn4 := V.n4
  have hnt4 := V.nt4
  have hcN := V.cN
  have hPN := Nat.mul_le_mul hP40 hN8
  have hD31 : a.P * a.N < 2 ^ 31 := by omega
  have hN31 : a.N < 2 ^ 31 := by omega
  have hn31 : a.n < 2 ^ 31 := by omega
  have hnt31 : a.nt < 2 ^ 31 := by omega
  refine X 200 _ _ _ _ _ _ _ _ _ ?_
  refine c_MisPeriod X M V (fun p0 hp ep => ?_) (fun zp => ?_)
  · subst ep
    refine And.intro (fun q => absurd q (by decide)) (fun _ => ?_)
    refine c_Mbooked X M V (p := p0) ?_
    rw [ixN_s hp hN31] at h
    exact h _ _ _ M (fM.refl _ _ _)
  · refine And.intro (fun _ => ?_) (fun q => absurd (by decide) q)
    rw [ixN_n hN31 zp] at h
    exact h _ _ _ M (fM.refl _ _ _)
set_option maxRecDepth 20000 in
theorem r_wrong {J : mJ} (X : mRules J) {I A : mI} {B : mB} {w f : Nat} {R : mR} {a : Ac} (M : MR a w I A B) (V : Vw a) {p : Int32} (h : qM a w f I A B R (some (.long (an_wrong a (ixN a.N p))))) : J n_M_wrong 0 [.ref 43, .int p] [] I A B (pk w f) R := by
  have hP40 := V.P40
  have hN8 := V.N8
  have hn4 := V.n4
  have hnt4 := V.nt4
  have hcN := V.cN
  have hPN := Nat.mul_le_mul hP40 hN8
  have hD31 : a.P * a.N < 2 ^ 31 := by omega
  have hN31 : a.N < 2 ^ 31 := by omega
  have hn31 : a.n < 2 ^ 31 := by omega
  have hnt31 : a.nt < 2 ^ 31 := by omega
  refine X 200 _ _ _ _ _ _ _ _ _ ?_
  refine c_MisPeriod X M V (fun p0 hp ep => ?_) (fun zp => ?_)
  · subst ep
    refine And.intro (fun q => absurd q (by decide)) (fun _ => ?_)
    refine c_Mwrong X M V (p := p0) (by have := P_le hp; omega) (by omega) (fun Bv hv1 => ?_)
    have M1 := M.fB (hv1 55 (by decide))
    rw [ixN_s hp hN31] at h
    exact h _ _ _ M1 (fM.b59 hv1)
  · refine And.intro (fun _ => ?_) (fun q => absurd (by decide) q)
    rw [ixN_n hN31 zp] at h
    exact h _ _ _ M (fM.refl _ _ _)
set_option maxRecDepth 20000 in
theorem r_comp {J : mJ} (X : mRules J) {I A : mI} {B : mB} {w f : Nat} {R : mR} {a : Ac} (M : MR a w I A B) (V : Vw a) {p : Int32} (h : qM a w f I A B R (some (.int (an_comp a (ixN a.N p))))) : J n_M_compounds 0 [.ref 43, .int p] [] I A B (pk w f) R := by
  have hP40 := V.P40
  have hN8 := V.N8
  have hn4 := V.n4
  have hnt4 := V.nt4
  have hcN := V.cN
  have hPN := Nat.mul_le_mul hP40 hN8
  have hD31 : a.P * a.N < 2 ^ 31 := by omega
  have hN31 : a.N < 2 ^ 31 := by omega
  have hn31 : a.n < 2 ^ 31 := by omega
  have hnt31 : a.nt < 2 ^ 31 := by omega
  refine X 200 _ _ _ _ _ _ _ _ _ ?_
  refine c_MisPeriod X M V (fun p0 hp ep => ?_) (fun zp => ?_)
  · subst ep
    refine And.intro (fun q => absurd q (by decide)) (fun _ => ?_)
    refine c_Mcomp X M V (p := p0) (by omega) (by omega) ?_
    rw [ixN_s hp hN31] at h
    exact h _ _ _ M (fM.refl _ _ _)
  · refine And.intro (fun _ => ?_) (fun q => absurd (by decide) q)
    rw [ixN_n hN31 zp] at h
    exact h _ _ _ M (fM.refl _ _ _)
set_option maxRecDepth 20000 in
theorem r_all {J : mJ} (X : mRules J) {I A : mI} {B : mB} {w f : Nat} {R : mR} {a : Ac} (M : MR a w I A B) (V : Vw a) {bk : Bool} (hbk : 0 < A w 3 ↔ bk = true) (h : qM a w f I A B R (some (.long (an_all a bk)))) : J n_M_all 0 [.ref 43] [] I A B (pk w f) R := by
  have hP40 := V.P40
  have hN8 := V.N8
  have hn4 := V.n4
  have hnt4 := V.nt4
  have hcN := V.cN
  have hPN := Nat.mul_le_mul hP40 hN8
  have hD31 : a.P * a.N < 2 ^ 31 := by omega
  have hN31 : a.N < 2 ^ 31 := by omega
  have hn31 : a.n < 2 ^ 31 := by omega
  have hnt31 : a.nt < 2 ^ 31 := by omega
  refine X 200 _ _ _ _ _ _ _ _ _ ?_
  refine c_MisBk X M.hw hbk (fun zb => ?_) (fun zb => ?_)
  · subst zb
    refine And.intro (fun q => absurd q (by decide)) (fun _ => ?_)
    refine c_MallOf X M V (fun Bv hv1 => ?_)
    have M1 := M.fB (hv1 55 (by decide))
    exact h _ _ _ M1 (fM.b59 hv1)
  · subst zb
    refine And.intro (fun _ => ?_) (fun q => absurd (by decide) q)
    exact h _ _ _ M (fM.refl _ _ _)
set_option maxRecDepth 20000 in
theorem r_products {J : mJ} (X : mRules J) {I A : mI} {B : mB} {w f : Nat} {R : mR} {a : Ac} (M : MR a w I A B) (V : Vw a) {p k : Int32} (h : qM a w f I A B R (some (.long (an_products a (ixN a.N p) (ixN 2 k))))) : J n_M_products 0 [.ref 43, .int p, .int k, .float 0, .float 0, .float 0] [] I A B (pk w f) R := by
  have hP40 := V.P40
  have hN8 := V.N8
  have hn4 := V.n4
  have hnt4 := V.nt4
  have hcN := V.cN
  have hPN := Nat.mul_le_mul hP40 hN8
  have hD31 : a.P * a.N < 2 ^ 31 := by omega
  have hN31 : a.N < 2 ^ 31 := by omega
  have hn31 : a.n < 2 ^ 31 := by omega
  have hnt31 : a.nt < 2 ^ 31 := by omega
  have G0 : ∀ (p0 k0 : Nat) (hp : p0 < a.N) (hk : k0 < 2) (Bv : mB) (M1 : MR a w I A Bv) (hv1 : ∀ r, r ≠ 59 → Bv r = B r) (hv2 : ∀ d, d < 320 → Bv 59 d = zL (zbl a d)) (h : qM a w f I A B R (some (.long (an_products a (some p0) (some k0))))), ∀ i, i ≤ a.P → ∀ (s : Int64) (x : Int32), s = zL (zsm (fun i => if k0 = 0 then zer a (a.P * p0 + i) (zbl a (a.P * p0 + i)) else zow a (a.P * p0 + i) (zbl a (a.P * p0 + i))) i) → x = nI (a.P * p0 + i) → J n_M_products 38 [.ref 43, .int (nI p0), .int (nI k0), .long s, .float 0, .int x] [] I A Bv (pk w f) R := by
    intro p0 k0 hp hk Bv M1 hv1 hv2 h
    have G : ∀ i, i ≤ a.P → ∀ (s : Int64) (x : Int32), s = zL (zsm (fun i => if k0 = 0 then zer a (a.P * p0 + i) (zbl a (a.P * p0 + i)) else zow a (a.P * p0 + i) (zbl a (a.P * p0 + i))) i) → x = nI (a.P * p0 + i) → J n_M_products 38 [.ref 43, .int (nI p0), .int (nI k0), .long s, .float 0, .int x] [] I A Bv (pk w f) R := by
      refine lpz (fun i => ∀ (s : Int64) (x : Int32), s = zL (zsm (fun i => if k0 = 0 then zer a (a.P * p0 + i) (zbl a (a.P * p0 + i)) else zow a (a.P * p0 + i) (zbl a (a.P * p0 + i))) i) → x = nI (a.P * p0 + i) → J n_M_products 38 [.ref 43, .int (nI p0), .int (nI k0), .long s, .float 0, .int x] [] I A Bv (pk w f) R) (fun i hi ih => ?_)
      intro s x es ex
      subst es; subst ex
      have hple := P_le hp
      have e24 : A w 0 * (nI p0 + 1) = nI (a.P * p0 + a.P) := by rw [M.hP, nI_1, pk_mul, Nat.mul_succ]
      refine X 200 _ _ _ _ _ _ _ _ _ ?_
      refine Exists.intro _ (And.intro M.hw (And.intro (vlit rfl) ?_))
      refine And.intro (fun q1 => ?_) (fun q1 => ?_)
      · have q0 : A w 0 * (nI p0 + 1) ≤ nI (a.P * p0 + i) := q1
        rw [e24] at q0
        have e := lpxo hi (by omega) q0
        subst e
        have e2 : an_products a (some p0) (some k0) = zL (zsm (fun i => if k0 = 0 then zer a (a.P * p0 + i) (zbl a (a.P * p0 + i)) else zow a (a.P * p0 + i) (zbl a (a.P * p0 + i))) a.P) := by
          cases k0 with
          | zero => rfl
          | succ m => rfl
        rw [e2] at h
        exact h _ _ _ M1 (fM.b59 hv1)
      · have q0 : ¬ A w 0 * (nI p0 + 1) ≤ nI (a.P * p0 + i) := q1
        rw [e24] at q0
        have hl := lpco hi (by omega) q0
        refine And.intro (fun q2 => ?_) (fun q2 => ?_)
        · have c0 : ¬ k0 = 0 := fun z => q2 (by rw [z]; rfl)
          refine c_Mowed X M1 V (d := a.P * p0 + i) (by omega) (by have := zbl_b V (a.P * p0 + i); omega) (hv2 _ (by omega)) ?_
          exact ih hl _ _ (by rw [zL_add]; congr 1; show _ = _ + (if k0 = 0 then _ else _); first | rw [if_pos c0] | rw [if_neg c0]) (nI_1 _)
        · have c0 : k0 = 0 := (nI_eq (b := 0) (by omega) (by omega)).mp q2
          refine c_Mearned X M1 V (d := a.P * p0 + i) (by omega) (by have := zbl_b V (a.P * p0 + i); omega) (hv2 _ (by omega)) ?_
          exact ih hl _ _ (by rw [zL_add]; congr 1; show _ = _ + (if k0 = 0 then _ else _); first | rw [if_pos c0] | rw [if_neg c0]) (nI_1 _)
    exact G
  refine X 200 _ _ _ _ _ _ _ _ _ ?_
  refine c_MisPeriod X M V (fun p0 hp ep => ?_) (fun zp => ?_)
  · subst ep
    refine And.intro (fun q => absurd q (by decide)) (fun _ => ?_)
    refine c_MinK X 2 (by decide) (by decide) (fun k0 hk ek => ?_) (fun zk => ?_)
    · subst ek
      refine And.intro (fun _ => ?_) (fun q => absurd q (by decide))
      refine c_Mlays X M V (fun Bv hv1 hv2 => ?_)
      have M1 := M.fB (hv1 55 (by decide))
      refine Exists.intro _ (And.intro M.hw (And.intro (vlit rfl) ?_))
      rw [ixN_s hp hN31] at h
      rw [ixN_s hk (by decide)] at h
      exact G0 p0 k0 hp hk Bv M1 hv1 hv2 h 0 (Nat.zero_le _) _ _ rfl (by show A w 0 * nI p0 = _; rw [M.hP, pk_mul]; rfl)
    · refine And.intro (fun q => absurd (by decide) q) (fun _ => ?_)
      rw [ixN_s hp hN31] at h
      rw [ixN_n (by decide) zk] at h
      exact h _ _ _ M (fM.refl _ _ _)
  · refine And.intro (fun _ => ?_) (fun q => absurd (by decide) q)
    rw [ixN_n hN31 zp] at h
    exact h _ _ _ M (fM.refl _ _ _)
set_option maxRecDepth 20000 in
theorem r_earned {J : mJ} (X : mRules J) {I A : mI} {B : mB} {w f : Nat} {R : mR} {a : Ac} (M : MR a w I A B) (V : Vw a) {p t : Int32} (h : qM a w f I A B R (some (.long (an_earned a (ixN a.N p) (ixN a.nt t))))) : J n_M_earned 0 [.ref 43, .int p, .int t, .float 0, .float 0, .float 0] [] I A B (pk w f) R := by
  have hP40 := V.P40
  have hN8 := V.N8
  have hn4 := V.n4
  have hnt4 := V.nt4
  have hcN := V.cN
  have hPN := Nat.mul_le_mul hP40 hN8
  have hD31 : a.P * a.N < 2 ^ 31 := by omega
  have hN31 : a.N < 2 ^ 31 := by omega
  have hn31 : a.n < 2 ^ 31 := by omega
  have hnt31 : a.nt < 2 ^ 31 := by omega
  have G0 : ∀ (p0 t0 : Nat) (hp : p0 < a.N) (ht : t0 < a.nt) (Bv : mB) (M1 : MR a w I A Bv) (hv1 : ∀ r, r ≠ 59 → Bv r = B r) (hv2 : ∀ d, d < 320 → Bv 59 d = zL (zbl a d)) (h : qM a w f I A B R (some (.long (an_earned a (some p0) (some t0))))), ∀ i, i ≤ a.P → ∀ (s : Int64) (x : Int32), s = zL (zsm (fun i => zpt a (a.P * p0 + i) (zbl a (a.P * p0 + i)) t0 * zhl a t0 (a.P * p0 + i)) i) → x = nI (a.P * p0 + i) → J n_M_earned 36 [.ref 43, .int (nI p0), .int (nI t0), .long s, .float 0, .int x] [] I A Bv (pk w f) R := by
    intro p0 t0 hp ht Bv M1 hv1 hv2 h
    have G : ∀ i, i ≤ a.P → ∀ (s : Int64) (x : Int32), s = zL (zsm (fun i => zpt a (a.P * p0 + i) (zbl a (a.P * p0 + i)) t0 * zhl a t0 (a.P * p0 + i)) i) → x = nI (a.P * p0 + i) → J n_M_earned 36 [.ref 43, .int (nI p0), .int (nI t0), .long s, .float 0, .int x] [] I A Bv (pk w f) R := by
      refine lpz (fun i => ∀ (s : Int64) (x : Int32), s = zL (zsm (fun i => zpt a (a.P * p0 + i) (zbl a (a.P * p0 + i)) t0 * zhl a t0 (a.P * p0 + i)) i) → x = nI (a.P * p0 + i) → J n_M_earned 36 [.ref 43, .int (nI p0), .int (nI t0), .long s, .float 0, .int x] [] I A Bv (pk w f) R) (fun i hi ih => ?_)
      intro s x es ex
      subst es; subst ex
      have hple := P_le hp
      have e24 : A w 0 * (nI p0 + 1) = nI (a.P * p0 + a.P) := by rw [M.hP, nI_1, pk_mul, Nat.mul_succ]
      refine X 200 _ _ _ _ _ _ _ _ _ ?_
      refine Exists.intro _ (And.intro M.hw (And.intro (vlit rfl) ?_))
      refine And.intro (fun q1 => ?_) (fun q1 => ?_)
      · have q0 : A w 0 * (nI p0 + 1) ≤ nI (a.P * p0 + i) := q1
        rw [e24] at q0
        have e := lpxo hi (by omega) q0
        subst e
        exact h _ _ _ M1 (fM.b59 hv1)
      · have q0 : ¬ A w 0 * (nI p0 + 1) ≤ nI (a.P * p0 + i) := q1
        rw [e24] at q0
        have hl := lpco hi (by omega) q0
        have hh := zhl_b V (r := t0) (d := a.P * p0 + i) (Or.inl ht)
        rw [if_neg (by omega)] at hh
        refine c_Mpart X M1 V (d := a.P * p0 + i) (by omega) (by have := zbl_b V (a.P * p0 + i); omega) (hv2 _ (by omega)) (t := t0) (by omega) ?_
        refine c_Mholds X M1 V (r := t0) (d := a.P * p0 + i) (Or.inl ht) (by omega) ?_
        exact ih hl _ _ (by rw [zn_l (by omega) (by omega), zL_mul, zL_add]; rfl) (nI_1 _)
    exact G
  refine X 200 _ _ _ _ _ _ _ _ _ ?_
  refine c_MisPeriod X M V (fun p0 hp ep => ?_) (fun zp => ?_)
  · subst ep
    refine And.intro (fun q => absurd q (by decide)) (fun _ => ?_)
    refine c_MisTier X M V (fun t0 ht et => ?_) (fun zt => ?_)
    · subst et
      refine And.intro (fun _ => ?_) (fun q => absurd q (by decide))
      refine c_Mlays X M V (fun Bv hv1 hv2 => ?_)
      have M1 := M.fB (hv1 55 (by decide))
      refine Exists.intro _ (And.intro M.hw (And.intro (vlit rfl) ?_))
      rw [ixN_s hp hN31] at h
      rw [ixN_s ht hnt31] at h
      exact G0 p0 t0 hp ht Bv M1 hv1 hv2 h 0 (Nat.zero_le _) _ _ rfl (by show A w 0 * nI p0 = _; rw [M.hP, pk_mul]; rfl)
    · refine And.intro (fun q => absurd (by decide) q) (fun _ => ?_)
      rw [ixN_s hp hN31] at h
      rw [ixN_n hnt31 zt] at h
      exact h _ _ _ M (fM.refl _ _ _)
  · refine And.intro (fun _ => ?_) (fun q => absurd (by decide) q)
    rw [ixN_n hN31 zp] at h
    exact h _ _ _ M (fM.refl _ _ _)
theorem st_t {a : Ac} {i : Nat} {k : Int32} (h : ¬ zB a (1 + i) = zB a i) : zst a i = true := decide_eq_true h
theorem st_f {a : Ac} {i : Nat} {k : Int32} (h : zB a (1 + i) = zB a i) : zst a i = false := decide_eq_false (fun z => z h)
theorem ct_t {c : Nat → Bool} {i : Nat} (h : c i = true) : ct c (i + 1) = ct c i + 1 := by rw [ct, h]; rfl
theorem ct_f {c : Nat → Bool} {i : Nat} (h : c i = false) : ct c (i + 1) = ct c i := by rw [ct, h]; rfl
set_option maxRecDepth 20000 in
theorem c_MstepBy {J : mJ} (X : mRules J) {I A : mI} {B : mB} {w f : Nat} {R : mR} {a : Ac} (M : MR a w I A B) (V : Vw a) {k : Int32} (hD1 : 1 ≤ a.P * a.N) (h : ∀ B', MR a w I A B' → (∀ r, r ≠ 59 → B' r = B r) → R (some (.int (if k < 0 then nI (ct (zst a) (a.P * a.N - 1)) else match fd (fun j => zst a j && decide (nI (ct (zst a) j) = k)) (a.P * a.N - 1) with | some j => nI (1 + j) | none => -1))) I A B' (pk w f)) : J n_M_stepBy 0 [.ref 43, .int k, .float 0, .float 0] [] I A B (pk w f) R := by
  have hP40 := V.P40
  have hN8 := V.N8
  have hn4 := V.n4
  have hnt4 := V.nt4
  have hcN := V.cN
  have hPN := Nat.mul_le_mul hP40 hN8
  have hD31 : a.P * a.N < 2 ^ 31 := by omega
  have hN31 : a.N < 2 ^ 31 := by omega
  have hn31 : a.n < 2 ^ 31 := by omega
  have hnt31 : a.nt < 2 ^ 31 := by omega
  have G0 : ∀ (Bv : mB) (M1 : MR a w I A Bv) (hv1 : ∀ r, r ≠ 59 → Bv r = B r) (hv2 : ∀ d, d < 320 → Bv 59 d = zL (zbl a d)), ∀ i, i ≤ (a.P * a.N - 1) → ∀ (s : Int32) (x : Int32), s = nI (ct (zst a) i) → x = nI (1 + i) → (∀ j, j < i → (fun j => zst a j && decide (nI (ct (zst a) j) = k)) j = false) → J n_M_stepBy 8 [.ref 43, .int k, .int s, .int x] [] I A Bv (pk w f) R := by
    intro Bv M1 hv1 hv2
    have G : ∀ i, i ≤ (a.P * a.N - 1) → ∀ (s : Int32) (x : Int32), s = nI (ct (zst a) i) → x = nI (1 + i) → (∀ j, j < i → (fun j => zst a j && decide (nI (ct (zst a) j) = k)) j = false) → J n_M_stepBy 8 [.ref 43, .int k, .int s, .int x] [] I A Bv (pk w f) R := by
      refine lpz (fun i => ∀ (s : Int32) (x : Int32), s = nI (ct (zst a) i) → x = nI (1 + i) → (∀ j, j < i → (fun j => zst a j && decide (nI (ct (zst a) j) = k)) j = false) → J n_M_stepBy 8 [.ref 43, .int k, .int s, .int x] [] I A Bv (pk w f) R) (fun i hi ih => ?_)
      intro s x es ex hno
      subst es; subst ex
      refine X 200 _ _ _ _ _ _ _ _ _ ?_
      refine Exists.intro _ (And.intro M.hw (And.intro (vlit rfl) ?_))
      refine Exists.intro _ (And.intro M.hw (And.intro (vlit rfl) ?_))
      refine And.intro (fun q1 => ?_) (fun q1 => ?_)
      · have q0 : A w 0 * A w 1 ≤ nI (1 + i) := q1
        rw [M.hP, M.hN, pk_mul] at q0
        have e : i = a.P * a.N - 1 := by have := (nI_leI (by omega) (by omega)).mp q0; omega
        subst e
        rw [fd_no hno] at h
        refine And.intro (fun q2 => ?_) (fun q2 => ?_)
        · first | (rw [if_neg (Int32.not_lt.mpr q2)] at h; exact h _ M1 hv1) | (rw [if_pos (Int32.not_le.mp q2)] at h; exact h _ M1 hv1)
        · first | (rw [if_neg (Int32.not_lt.mpr q2)] at h; exact h _ M1 hv1) | (rw [if_pos (Int32.not_le.mp q2)] at h; exact h _ M1 hv1)
      · have q0 : ¬ A w 0 * A w 1 ≤ nI (1 + i) := q1
        rw [M.hP, M.hN, pk_mul] at q0
        have hl : i < a.P * a.N - 1 := by have : 1 + i < a.P * a.N := Nat.lt_of_not_le (fun z => q0 (nI_le z (by omega))); omega
        have hb31 : (nI (1 + i)).toNatClampNeg = 1 + i := cl (by omega)
        have hb30 : nI (1 + i) - 1 = nI i := nIp
        have e5 : Bv 59 (1 + i) = zB a (1 + i) := hv2 _ (by omega)
        have e6 : Bv 59 i = zB a i := hv2 _ (by omega)
        refine Exists.intro _ (And.intro rfl (And.intro (by first | (rw [hb30]; exact vin (by omega) (by omega)) | exact vin (by omega) (by omega)) ?_))
        refine Exists.intro _ (And.intro rfl (And.intro (by first | (rw [hb30]; exact vin (by omega) (by omega)) | exact vin (by omega) (by omega)) ?_))
        refine And.intro (fun q3 => ?_) (fun q3 => ?_)
        · rw [hb31, hb30, cl (show i < 2 ^ 31 by omega), e5, e6] at q3
          have st := st_t (k := k) q3
          refine And.intro (fun q4 => ?_) (fun q4 => ?_)
          · exact ih hl _ _ (by rw [ct_t st]; exact nI_1 _) (nI_1 _) (all_lt hno (by simp [st, q4]))
          · have hk0 : ¬ k < 0 := by rw [← q4]; exact nI_pos (show ct (zst a) i < 2 ^ 31 by have := ct_le (c := zst a) i; omega)
            rw [if_neg hk0, fd_at hl (by simp [st, q4]) hno] at h
            exact h _ M1 hv1
        · rw [hb31, hb30, cl (show i < 2 ^ 31 by omega), e5, e6] at q3
          have st := st_f (k := k) q3
          exact ih hl _ _ (by rw [ct_f st]) (nI_1 _) (all_lt hno (by simp [st]))
    exact G
  refine X 200 _ _ _ _ _ _ _ _ _ ?_
  refine c_Mlays X M V (fun Bv hv1 hv2 => ?_)
  have M1 := M.fB (hv1 55 (by decide))
  exact G0 Bv M1 hv1 hv2 0 (Nat.zero_le _) _ _ rfl rfl (fun j hj => absurd hj (Nat.not_lt_zero j))
set_option maxRecDepth 20000 in
theorem r_steps {J : mJ} (X : mRules J) {I A : mI} {B : mB} {w f : Nat} {R : mR} {a : Ac} (M : MR a w I A B) (V : Vw a) {bk : Bool} (hbk : 0 < A w 3 ↔ bk = true) (hD1 : bk = true → 1 ≤ a.P * a.N) (h : qM a w f I A B R (some (.int (an_steps a bk)))) : J n_M_steps 0 [.ref 43] [] I A B (pk w f) R := by
  have hP40 := V.P40
  have hN8 := V.N8
  have hn4 := V.n4
  have hnt4 := V.nt4
  have hcN := V.cN
  have hPN := Nat.mul_le_mul hP40 hN8
  have hD31 : a.P * a.N < 2 ^ 31 := by omega
  have hN31 : a.N < 2 ^ 31 := by omega
  have hn31 : a.n < 2 ^ 31 := by omega
  have hnt31 : a.nt < 2 ^ 31 := by omega
  refine X 200 _ _ _ _ _ _ _ _ _ ?_
  refine c_MisBk X M.hw hbk (fun zb => ?_) (fun zb => ?_)
  · subst zb
    refine And.intro (fun q => absurd q (by decide)) (fun _ => ?_)
    refine c_MstepBy X M V (hD1 rfl) (fun Bv M1 hv1 => ?_)
    exact h _ _ _ M1 (fM.b59 hv1)
  · subst zb
    refine And.intro (fun _ => ?_) (fun q => absurd (by decide) q)
    exact h _ _ _ M (fM.refl _ _ _)
set_option maxRecDepth 20000 in
theorem r_step {J : mJ} (X : mRules J) {I A : mI} {B : mB} {w f : Nat} {R : mR} {a : Ac} (M : MR a w I A B) (V : Vw a) {bk : Bool} (hbk : 0 < A w 3 ↔ bk = true) (hD1 : bk = true → 1 ≤ a.P * a.N) {k : Int32} (h : qM a w f I A B R (some (.int (an_step a bk k)))) : J n_M_step 0 [.ref 43, .int k] [] I A B (pk w f) R := by
  have hP40 := V.P40
  have hN8 := V.N8
  have hn4 := V.n4
  have hnt4 := V.nt4
  have hcN := V.cN
  have hPN := Nat.mul_le_mul hP40 hN8
  have hD31 : a.P * a.N < 2 ^ 31 := by omega
  have hN31 : a.N < 2 ^ 31 := by omega
  have hn31 : a.n < 2 ^ 31 := by omega
  have hnt31 : a.nt < 2 ^ 31 := by omega
  refine X 200 _ _ _ _ _ _ _ _ _ ?_
  refine c_MisBk X M.hw hbk (fun zb => ?_) (fun zb => ?_)
  · subst zb
    refine And.intro (fun q => absurd q (by decide)) (fun _ => ?_)
    refine And.intro (fun q1 => ?_) (fun q1 => ?_)
    · have h2 := h _ _ _ M (fM.refl _ _ _)
      simp only [an_step, if_pos (show k < 0 from q1)] at h2
      exact h2
    · refine c_MstepBy X M V (hD1 rfl) (fun Bv M1 hv1 => ?_)
      have h2 := h _ _ _ M1 (fM.b59 hv1)
      simp only [an_step, if_neg (show ¬ k < 0 from q1)] at h2
      rw [if_neg (show ¬ k < 0 from q1)]
      exact h2
  · subst zb
    refine And.intro (fun _ => ?_) (fun q => absurd (by decide) q)
    exact h _ _ _ M (fM.refl _ _ _)
