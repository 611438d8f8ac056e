/-! contracts of the reference: searches, settlement (written by wip/whole/gm7.py) -/
set_option maxRecDepth 20000 in
theorem r_needs {J : mJ} (X : mRules J) {I A : mI} {B : mB} {w f : Nat} {R : mR} {a : Ac} (M : MR a w I A B) (V : Vw a) (hn7 : a.n + 1 ≤ 480) {d g : Int32} (hmono : ∀ d0, d0 < a.P * a.N → ∀ x y, x ≤ y → y ≤ 99999 → zcn a d0 g y = true → zcn a d0 g x = true) (h : qM a w f I A B R (some (.int (an_needs a (ixN (zD a) d) g)))) : J n_M_needs 0 [.ref 43, .int d, .int g, .float 0, .float 0, .float 0, .float 0, .float 0] [] I A B (pk w f) R := by
  have hP40 := V.P40
  have hN8 := V.N8
  have hn4 := V.n4
  have hnt4 := V.nt4
  have hcN := V.cN
  have hPN := Nat.mul_le_mul hP40 hN8
  have hD31 : a.P * a.N < 2 ^ 31 := by omega
  have hN31 : a.N < 2 ^ 31 := by omega
  have hn31 : a.n < 2 ^ 31 := by omega
  have hnt31 : a.nt < 2 ^ 31 := by omega
  have G0 : ∀ (d0 : Nat) (hd : d0 < a.P * a.N) (hmono : ∀ x y, x ≤ y → y ≤ 99999 → zcn a d0 g y = true → zcn a d0 g x = true) (h : qM a w f I A B R (some (.int (lsx 1 (zcn a d0 g) 99999)))), ∀ k : Nat, ∀ (lo hi : Nat) (xl xh : Int32) (z : Value) (Iv Av : mI) (Bv : mB), hi - lo = k → xl = nI lo → xh = nI hi → 1 ≤ lo → lo ≤ hi → hi ≤ 99999 → (∀ x, 1 ≤ x → x < lo → (zcn a d0 g) x = true) → (zcn a d0 g) hi = false → MR a w Iv Av Bv → fM I A B Iv Av Bv → J n_M_needs 54 [.ref 43, .int (nI d0), .int g, .long (zL (zal a) + g.toInt64), .float 0, .int xl, .int xh, z] [] Iv Av Bv (pk w f) R := by
    intro d0 hd hmono h k
    induction k using Nat.strongRecOn with
    | ind k ih =>
      intro lo hi xl xh z Iv Av Bv hk e1 e2 h1 h2 h3 h4 h5 Mv fv
      subst e1; subst e2
      refine X 200 _ _ _ _ _ _ _ _ _ ?_
      refine And.intro (fun q1 => ?_) (fun q1 => ?_)
      · have e : lo = hi := by have := (nI_leI (by omega) (by omega)).mp q1; omega
        subst e
        rw [lsx_s (L := 1) (K := 99999) (c := (zcn a d0 g)) h1 (by omega) h5 h4] at h
        exact h _ _ _ Mv fv --end
      · have hlt : lo < hi := Nat.lt_of_not_le (fun z => q1 (nI_le z (by omega)))
        have ehf : (nI lo + nI hi) / (2 : Int32) = nI ((lo + hi) / 2) := by rw [nI_add]; exact pk_div (d := 2) (by omega) (by omega) (by omega)
        refine And.intro (by decide) ?_
        refine c_MallWith X Mv V hn7 (m := (lo + hi) / 2) hd (by omega) ehf (fun I1 A1 B1 M1 g1 => ?_)
        have f1 := (fv).trans g1
        refine And.intro (fun q2 => ?_) (fun q2 => ?_)
        · have cf : (zcn a d0 g) ((lo + hi) / 2) = false := decide_eq_false (Int64.not_lt.mpr q2)
          exact ih ((lo + hi) / 2 - lo) (by omega) lo ((lo + hi) / 2) _ _ _ _ _ _ rfl rfl ehf h1 (by omega) (by omega) h4 cf M1 f1
        · have cf : (zcn a d0 g) ((lo + hi) / 2) = true := decide_eq_true (Int64.not_le.mp q2)
          exact ih (hi - ((lo + hi) / 2 + 1)) (by omega) ((lo + hi) / 2 + 1) hi _ _ _ _ _ _ rfl (by rw [← nI_1, ← ehf]) rfl (by omega) (by omega) h3 (fun x hx1 hx2 => hmono x ((lo + hi) / 2) (by omega) (by omega) cf) h5 M1 f1
  refine X 200 _ _ _ _ _ _ _ _ _ ?_
  refine c_MisDay X M V (fun d0 hd ed => ?_) (fun zd => ?_)
  · subst ed
    refine And.intro (fun q => absurd q (by decide)) (fun _ => ?_)
    refine c_MinB X 1 99999 (by decide) (by decide) (fun zm => ?_) (fun zm => ?_)
    · refine And.intro (fun _ => ?_) (fun q => absurd q (by decide))
      refine c_MallOf X M V (fun Bv1 hv1 => ?_)
      have M1 := (M).fB (hv1 55 (by decide))
      have f1 := ((fM.refl I A B)).trans (fM.b59 hv1)
      refine c_MallWith X M1 V hn7 (m := 99999) hd (by omega) rfl (fun I2 A2 B2 M2 g2 => ?_)
      have f2 := (f1).trans g2
      refine And.intro (fun q1 => ?_) (fun q1 => ?_)
      · rw [ixN_s hd hD31] at h
        simp only [an_needs, if_pos zm] at h
        exact G0 d0 hd (hmono d0 hd) h _ 1 99999 _ _ _ _ _ _ rfl rfl rfl (by omega) (by omega) (by omega) (fun x h1 h2 => by omega) (decide_eq_false (Int64.not_lt.mpr q1)) M2 f2
      · rw [ixN_s hd hD31] at h
        simp only [an_needs, if_pos zm] at h
        rw [lsx_n (fun x h1 h2 => hmono d0 hd x 99999 (by omega) (by omega) (decide_eq_true (Int64.not_le.mp q1)))] at h
        exact h _ _ _ M2 f2
    · refine And.intro (fun q => absurd (by decide) q) (fun _ => ?_)
      rw [ixN_s hd hD31] at h
      simp only [an_needs, if_neg zm] at h
      exact h _ _ _ M (fM.refl _ _ _)
  · refine And.intro (fun _ => ?_) (fun q => absurd (by decide) q)
    rw [ixN_n hD31 zd] at h
    exact h _ _ _ M (fM.refl _ _ _)
set_option maxRecDepth 20000 in
theorem r_tiltFor {J : mJ} (X : mRules J) {I A : mI} {B : mB} {w f : Nat} {R : mR} {a : Ac} (M : MR a w I A B) (V : Vw a) (hz0 : a.ti = none) {t g : Int32} (hmono : ∀ t0, t0 < a.nt → ∀ x y, x ≤ y → y ≤ 5000 → zct a t0 g y = true → zct a t0 g x = true) (h : qM a w f I A B R (some (.int (an_tiltFor a (ixN a.nt t) g)))) : J n_M_tiltFor 0 [.ref 43, .int t, .int g, .float 0, .float 0, .float 0] [] I A B (pk w f) R := by
  have hP40 := V.P40
  have hN8 := V.N8
  have hn4 := V.n4
  have hnt4 := V.nt4
  have hcN := V.cN
  have hPN := Nat.mul_le_mul hP40 hN8
  have hD31 : a.P * a.N < 2 ^ 31 := by omega
  have hN31 : a.N < 2 ^ 31 := by omega
  have hn31 : a.n < 2 ^ 31 := by omega
  have hnt31 : a.nt < 2 ^ 31 := by omega
  have G0 : ∀ (t0 : Nat) (ht : t0 < a.nt) (hmono : ∀ x y, x ≤ y → y ≤ 5000 → zct a t0 g y = true → zct a t0 g x = true) (h : qM a w f I A B R (some (.int (lsx 1 (zct a t0 g) 5000)))), ∀ k : Nat, ∀ (lo hi : Nat) (xl xh : Int32) (z : Value) (Iv Av : mI) (Bv : mB), hi - lo = k → xl = nI lo → xh = nI hi → 1 ≤ lo → lo ≤ hi → hi ≤ 5000 → (∀ x, 1 ≤ x → x < lo → (zct a t0 g) x = true) → (zct a t0 g) hi = false → MR a w Iv Av Bv → fM I A B Iv Av Bv → J n_M_tiltFor 46 [.ref 43, .int (nI t0), .int g, .int xl, .int xh, z] [] Iv Av Bv (pk w f) R := by
    intro t0 ht hmono h k
    induction k using Nat.strongRecOn with
    | ind k ih =>
      intro lo hi xl xh z Iv Av Bv hk e1 e2 h1 h2 h3 h4 h5 Mv fv
      subst e1; subst e2
      refine X 200 _ _ _ _ _ _ _ _ _ ?_
      refine And.intro (fun q1 => ?_) (fun q1 => ?_)
      · have e : lo = hi := by have := (nI_leI (by omega) (by omega)).mp q1; omega
        subst e
        rw [lsx_s (L := 1) (K := 5000) (c := (zct a t0 g)) h1 (by omega) h5 h4] at h
        exact h _ _ _ Mv fv --end
      · have hlt : lo < hi := Nat.lt_of_not_le (fun z => q1 (nI_le z (by omega)))
        have ehf : (nI lo + nI hi) / (2 : Int32) = nI ((lo + hi) / 2) := by rw [nI_add]; exact pk_div (d := 2) (by omega) (by omega) (by omega)
        refine And.intro (by decide) ?_
        refine c_MtiltedBy X Mv V hz0 ht (m := ((lo + hi) / 2 : Nat)) (by omega) (ehf.trans (nI_z _)) (fun I1 A1 B1 M1 g1 => ?_)
        have f1 := (fv).trans g1
        refine And.intro (fun q2 => ?_) (fun q2 => ?_)
        · have cf : (zct a t0 g) ((lo + hi) / 2) = false := decide_eq_false (Int64.not_lt.mpr q2)
          exact ih ((lo + hi) / 2 - lo) (by omega) lo ((lo + hi) / 2) _ _ _ _ _ _ rfl rfl ehf h1 (by omega) (by omega) h4 cf M1 f1
        · have cf : (zct a t0 g) ((lo + hi) / 2) = true := decide_eq_true (Int64.not_le.mp q2)
          exact ih (hi - ((lo + hi) / 2 + 1)) (by omega) ((lo + hi) / 2 + 1) hi _ _ _ _ _ _ rfl (by rw [← nI_1, ← ehf]) rfl (by omega) (by omega) h3 (fun x hx1 hx2 => hmono x ((lo + hi) / 2) (by omega) (by omega) cf) h5 M1 f1
  refine X 200 _ _ _ _ _ _ _ _ _ ?_
  refine c_MisTier X M V (fun t0 ht et => ?_) (fun zt => ?_)
  · subst et
    refine And.intro (fun q => absurd q (by decide)) (fun _ => ?_)
    refine c_MinB X 1 99999 (by decide) (by decide) (fun zm => ?_) (fun zm => ?_)
    · refine And.intro (fun _ => ?_) (fun q => absurd q (by decide))
      refine c_MtiltedBy X M V hz0 ht (m := 5000) (by omega) rfl (fun I1 A1 B1 M1 g1 => ?_)
      have f1 := ((fM.refl I A B)).trans g1
      refine And.intro (fun q1 => ?_) (fun q1 => ?_)
      · rw [ixN_s ht hnt31] at h
        simp only [an_tiltFor, if_pos zm] at h
        exact G0 t0 ht (hmono t0 ht) h _ 1 5000 _ _ _ _ _ _ rfl rfl rfl (by omega) (by omega) (by omega) (fun x h1 h2 => by omega) (decide_eq_false (Int64.not_lt.mpr q1)) M1 f1
      · rw [ixN_s ht hnt31] at h
        simp only [an_tiltFor, if_pos zm] at h
        rw [lsx_n (fun x h1 h2 => hmono t0 ht x 5000 (by omega) (by omega) (decide_eq_true (Int64.not_le.mp q1)))] at h
        exact h _ _ _ M1 f1
    · refine And.intro (fun q => absurd (by decide) q) (fun _ => ?_)
      rw [ixN_s ht hnt31] at h
      simp only [an_tiltFor, if_neg zm] at h
      exact h _ _ _ M (fM.refl _ _ _)
  · refine And.intro (fun _ => ?_) (fun q => absurd (by decide) q)
    rw [ixN_n hnt31 zt] at h
    exact h _ _ _ M (fM.refl _ _ _)
theorem gd_z {a : Ac} (G : Gd a) {p : Nat} (hp : p < 8) : -2 ^ 40 ≤ zit a p - zbk a p ∧ zit a p - zbk a p ≤ 2 ^ 40 := by
  have h1 := zit_g G p
  have h2 := G.bk p hp
  omega
set_option maxRecDepth 20000 in
theorem r_rights {J : mJ} (X : mRules J) {I A : mI} {B : mB} {w f : Nat} {R : mR} {a : Ac} (M : MR a w I A B) (G : Gd a) (hn7 : a.n + a.c ≤ 480) {bk : Bool} (hbk : 0 < A w 3 ↔ bk = true) (h : qM a w f I A B R (some (.int (an_rights a bk)))) : J n_M_rights 0 [.ref 43, .float 0, .float 0] [] I A B (pk w f) R := by
  have V := G.V
  have hP40 := V.P40
  have hN8 := V.N8
  have hn4 := V.n4
  have hnt4 := V.nt4
  have hcN := V.cN
  have hPN := Nat.mul_le_mul hP40 hN8
  have hD31 : a.P * a.N < 2 ^ 31 := by omega
  have hN31 : a.N < 2 ^ 31 := by omega
  have hn31 : a.n < 2 ^ 31 := by omega
  have hnt31 : a.nt < 2 ^ 31 := by omega
  refine X 200 _ _ _ _ _ _ _ _ _ ?_
  refine c_MisBk X M.hw hbk (fun zb => ?_) (fun zb => ?_)
  · subst zb
    refine And.intro (fun q => absurd q (by decide)) (fun _ => ?_)
    refine c_MisOpen X M V (fun zo => ?_) (fun zo => ?_)
    · refine And.intro (fun _ => ?_) (fun q => absurd q (by decide))
      refine c_Mreruns X M G.V (fun k hk => (gd_rr G (by omega) k hk).V) (fun k hk => gd_z (gd_rr G (by omega) k (by omega)) (by omega)) (by omega) (fun I1 A1 B1 M1 g1 => ?_)
      have f1 := ((fM.refl I A B)).trans g1
      simp only [an_rights, if_pos zo] at h
      exact h _ _ _ (M1.rn (ex_rr a.c) (rr_c (a := a) a.c).1 M.hn) (f1.trans (fM.i (by omega)))
    · refine And.intro (fun q => absurd (by decide) q) (fun _ => ?_)
      simp only [an_rights, if_neg zo] at h
      exact h _ _ _ M (fM.refl _ _ _)
  · subst zb
    refine And.intro (fun _ => ?_) (fun q => absurd (by decide) q)
    exact h _ _ _ M (fM.refl _ _ _)
set_option maxRecDepth 20000 in
theorem r_righted {J : mJ} (X : mRules J) {I A : mI} {B : mB} {w f : Nat} {R : mR} {a : Ac} (M : MR a w I A B) (G : Gd a) (hn7 : a.n + a.c ≤ 480) {bk : Bool} (hbk : 0 < A w 3 ↔ bk = true) (h : qM a w f I A B R (some (.long (an_righted a bk)))) : J n_M_righted 0 [.ref 43, .float 0, .float 0, .float 0, .float 0] [] I A B (pk w f) R := by
  have V := G.V
  have hP40 := V.P40
  have hN8 := V.N8
  have hn4 := V.n4
  have hnt4 := V.nt4
  have hcN := V.cN
  have hPN := Nat.mul_le_mul hP40 hN8
  have hD31 : a.P * a.N < 2 ^ 31 := by omega
  have hN31 : a.N < 2 ^ 31 := by omega
  have hn31 : a.n < 2 ^ 31 := by omega
  have hnt31 : a.nt < 2 ^ 31 := by omega
  have G0 : ∀ (xw : Int32) (exw : xw = nI a.n) (Iv Av : mI) (Bv : mB) (Mv : MR (zrr a a.c) w Iv Av Bv) (fv : fM I A B Iv Av Bv) (h : qM a w f I A B R (some (.long (zL (zsm (fun j => (zrr a a.c).am (a.n + j)) ((zrr a a.c).n - a.n)))))), ∀ i, i ≤ ((zrr a a.c).n - a.n) → ∀ (s : Int64) (x : Int32), s = zL (zsm (fun j => (zrr a a.c).am (a.n + j)) i) → x = nI (a.n + i) → J n_M_righted 33 [.ref 43, .int xw, .long s, .float 0, .int x] [] Iv Av Bv (pk w f) R := by
    intro xw exw Iv Av Bv Mv fv h
    have hrc := rr_c (a := a) a.c
    have G : ∀ i, i ≤ ((zrr a a.c).n - a.n) → ∀ (s : Int64) (x : Int32), s = zL (zsm (fun j => (zrr a a.c).am (a.n + j)) i) → x = nI (a.n + i) → J n_M_righted 33 [.ref 43, .int xw, .long s, .float 0, .int x] [] Iv Av Bv (pk w f) R := by
      refine lpz (fun i => ∀ (s : Int64) (x : Int32), s = zL (zsm (fun j => (zrr a a.c).am (a.n + j)) i) → x = nI (a.n + i) → J n_M_righted 33 [.ref 43, .int xw, .long s, .float 0, .int x] [] Iv Av Bv (pk w f) R) (fun i hi ih => ?_)
      intro s x es ex
      subst es; subst ex
      refine X 200 _ _ _ _ _ _ _ _ _ ?_
      refine And.intro (fun q1 => ?_) (fun q1 => ?_)
      · rw [Mv.hn] at q1
        have e : i = (zrr a a.c).n - a.n := by have := (nI_leI (by omega) (by omega)).mp q1; omega
        subst e
        exact h _ _ _ (Mv.rn (ex_rr a.c) hrc.1 exw) (fv.trans (fM.i (by omega)))
      · rw [Mv.hn] at q1
        have hl : i < (zrr a a.c).n - a.n := by have : a.n + i < (zrr a a.c).n := Nat.lt_of_not_le (fun z => q1 (nI_le z (by omega))); omega
        have hb31 : (nI (a.n + i)).toNatClampNeg = a.n + i := cl (by omega)
        refine Exists.intro _ (And.intro rfl (And.intro (vin (by omega) (by omega)) ?_))
        exact ih hl _ _ (by rw [hb31, Mv.ham _ (by omega), zL_add]; rfl) (nI_1 _)
    exact G
  refine X 200 _ _ _ _ _ _ _ _ _ ?_
  refine c_MisBk X M.hw hbk (fun zb => ?_) (fun zb => ?_)
  · subst zb
    refine And.intro (fun q => absurd q (by decide)) (fun _ => ?_)
    refine c_MisOpen X M V (fun zo => ?_) (fun zo => ?_)
    · refine And.intro (fun _ => ?_) (fun q => absurd q (by decide))
      refine c_Mreruns X M G.V (fun k hk => (gd_rr G (by omega) k hk).V) (fun k hk => gd_z (gd_rr G (by omega) k (by omega)) (by omega)) (by omega) (fun I1 A1 B1 M1 g1 => ?_)
      have f1 := ((fM.refl I A B)).trans g1
      simp only [an_righted, if_pos zo] at h
      exact G0 _ M.hn _ _ _ M1 f1 h 0 (Nat.zero_le _) _ _ rfl M.hn
    · refine And.intro (fun q => absurd (by decide) q) (fun _ => ?_)
      simp only [an_righted, if_neg zo] at h
      exact h _ _ _ M (fM.refl _ _ _)
  · subst zb
    refine And.intro (fun _ => ?_) (fun q => absurd (by decide) q)
    exact h _ _ _ M (fM.refl _ _ _)
set_option maxRecDepth 20000 in
theorem c_MsettledOf {J : mJ} (X : mRules J) {I A : mI} {B : mB} {w f : Nat} {R : mR} {a : Ac} (M : MR a w I A B) (G : Gd a) (hn7 : a.n + (a.N - a.c) + a.N ≤ 480) (h : qM a w f I A B R (some (.long (zL (zto (zset (a.N - a.c) a)))))) : J n_M_settledOf 0 [.ref 43, .float 0, .float 0, .float 0, .float 0, .float 0] [] I A B (pk w f) R := by
  have V := G.V
  have hP40 := V.P40
  have hN8 := V.N8
  have hn4 := V.n4
  have hnt4 := V.nt4
  have hcN := V.cN
  have hPN := Nat.mul_le_mul hP40 hN8
  have hD31 : a.P * a.N < 2 ^ 31 := by omega
  have hN31 : a.N < 2 ^ 31 := by omega
  have hn31 : a.n < 2 ^ 31 := by omega
  have hnt31 : a.nt < 2 ^ 31 := by omega
  have G2 : ∀ (y : Ac) (xw xo : Int32) (exw : xw = nI a.n) (exo : xo = nI a.c) (Iv Av : mI) (Bv : mB) (Mv : MR y w Iv Av Bv) (fv : fM I A B Iv Av Bv) (Vy : Vw y) (E : Ex a y) (h : qM a w f I A B R (some (.long (zL (zto y))))), ∀ i, i ≤ y.n → ∀ (s : Int64) (x : Int32), s = zL (zsm y.am i) → x = nI i → J n_M_settledOf 49 [.ref 43, .int xw, .int xo, .long s, .float 0, .int x] [] Iv Av Bv (pk w f) R := by
    intro y xw xo exw exo Iv Av Bv Mv fv Vy E h
    have hy4 := Vy.n4
    have G : ∀ i, i ≤ y.n → ∀ (s : Int64) (x : Int32), s = zL (zsm y.am i) → x = nI i → J n_M_settledOf 49 [.ref 43, .int xw, .int xo, .long s, .float 0, .int x] [] Iv Av Bv (pk w f) R := by
      refine lpz (fun i => ∀ (s : Int64) (x : Int32), s = zL (zsm y.am i) → x = nI i → J n_M_settledOf 49 [.ref 43, .int xw, .int xo, .long s, .float 0, .int x] [] Iv Av Bv (pk w f) R) (fun i hi ih => ?_)
      intro s x es ex
      subst es; subst ex
      refine X 200 _ _ _ _ _ _ _ _ _ ?_
      refine And.intro (fun q1 => ?_) (fun q1 => ?_)
      · rw [Mv.hn] at q1
        have e := lpx hi (by omega) q1
        subst e
        exact h _ _ _ (Mv.rs E exw exo) ((fv.trans (fM.i (j := 19) (by omega))).trans (fM.i (j := 20) (by omega)))
      · rw [Mv.hn] at q1
        have hl := lpc hi (by omega) q1
        have hb31 : (nI i).toNatClampNeg = i := cl (by omega)
        refine Exists.intro _ (And.intro rfl (And.intro (vin (by omega) (by omega)) ?_))
        exact ih hl _ _ (by rw [hb31, Mv.ham _ hl, zL_add]; rfl) (nI_1 _)
    exact G
  have G1 : ∀ (xw xo : Int32) (exw : xw = nI a.n) (exo : xo = nI a.c), ∀ r : Nat, ∀ (x : Ac) (Iv Av : mI) (Bv : mB), MR x w Iv Av Bv → fM I A B Iv Av Bv → Gd x → (0 < r → x.n + r + x.N ≤ 480) → x.c + r = x.N → Ex a x → zset r x = zset (a.N - a.c) a → J n_M_settledOf 10 [.ref 43, .int xw, .int xo, .float 0, .float 0, .float 0] [] Iv Av Bv (pk w f) R := by
    intro xw xo exw exo r
    induction r using Nat.strongRecOn with
    | ind r ih =>
      intro x Iv Av Bv Mv fv Gx hxn0 hxr E hy
      have hx8 := Gx.V.N8
      have hxc := Gx.V.cN
      refine X 200 _ _ _ _ _ _ _ _ _ ?_
      refine c_MisOpen X Mv Gx.V (fun zo => ?_) (fun zo => ?_)
      · have hxn := hxn0 (by omega)
        refine And.intro (fun q => absurd q (by decide)) (fun _ => ?_)
        refine Exists.intro _ (And.intro Mv.hw (And.intro (vlit rfl) ?_))
        refine And.intro (fun q1 => ?_) (fun q1 => ?_)
        · refine c_Mcloses X Mv Gx.V (by omega) zo (fun I1 A1 B1 M1 g1 => ?_)
          have f1 := (fv).trans g1
          have q0 := q1
          rw [Mv.hc] at q0
          have e29 : Av w 1 - 1 = nI (x.N - 1) := by rw [Mv.hN]; exact pk_sub (b := 1) (by omega)
          have cn : ¬ x.c = x.N - 1 := fun z => q0 ((congrArg nI z).trans e29.symm)
          rw [zset_s (by omega), if_neg cn] at hy
          exact ih (r - 1) (by omega) _ _ _ _ M1 f1 (gd_cl Gx (by omega) zo) (fun _ => by show x.n + 1 + (r - 1) + x.N ≤ 480; omega) (by show x.c + 1 + (r - 1) = x.N; omega) (E.trans ex_cl) hy
        · refine c_Mreruns X Mv Gx.V (fun k hk => (gd_rr Gx (by omega) k hk).V) (fun k hk => gd_z (gd_rr Gx (by omega) k (by omega)) (by omega)) (by omega) (fun I1 A1 B1 M1 g1 => ?_)
          have f1 := (fv).trans g1
          have hrc := rr_c (a := x) x.c
          have hrN := (sr_rr (a := x) x.c).N
          refine c_Mcloses X M1 (gd_rr Gx (by omega) x.c (Nat.le_refl _)).V (by omega) (by omega) (fun I2 A2 B2 M2 g2 => ?_)
          have f2 := (f1).trans g2
          have q0 := q1
          rw [Mv.hc] at q0
          have e29 : Av w 1 - 1 = nI (x.N - 1) := by rw [Mv.hN]; exact pk_sub (b := 1) (by omega)
          have cn : x.c = x.N - 1 := (nI_eq (by omega) (by omega)).mp (q0.trans e29)
          rw [zset_s (by omega), if_pos cn] at hy
          have Gz := gd_rr Gx (by omega) x.c (Nat.le_refl _)
          have er : r - 1 = 0 := by omega
          rw [er] at hy
          exact ih 0 (by omega) _ _ _ _ M2 f2 (gd_cl Gz (by omega) (by omega)) (fun z => by omega) (by show (zrr x x.c).c + 1 + 0 = (zrr x x.c).N; omega) ((E.trans (ex_rr x.c)).trans ex_cl) hy
      · refine And.intro (fun _ => ?_) (fun q => absurd (by decide) q)
        have e : r = 0 := by omega
        subst e
        have hy2 : x = zset (a.N - a.c) a := hy
        rw [← hy2] at h
        exact G2 x _ _ exw exo _ _ _ Mv fv Gx.V E h 0 (Nat.zero_le _) _ _ rfl rfl
  refine X 200 _ _ _ _ _ _ _ _ _ ?_
  exact G1 _ _ M.hn M.hc (a.N - a.c) a _ _ _ M (fM.refl _ _ _) G (fun _ => by omega) (by omega) (Ex.refl a) rfl
set_option maxRecDepth 20000 in
theorem r_settled {J : mJ} (X : mRules J) {I A : mI} {B : mB} {w f : Nat} {R : mR} {a : Ac} (M : MR a w I A B) (G : Gd a) (hn7 : a.n + (a.N - a.c) + a.N ≤ 480) {bk : Bool} (hbk : 0 < A w 3 ↔ bk = true) (h : qM a w f I A B R (some (.long (an_settled a bk)))) : J n_M_settled 0 [.ref 43] [] I A B (pk w f) R := by
  have V := G.V
  have hP40 := V.P40
  have hN8 := V.N8
  have hn4 := V.n4
  have hnt4 := V.nt4
  have hcN := V.cN
  have hPN := Nat.mul_le_mul hP40 hN8
  have hD31 : a.P * a.N < 2 ^ 31 := by omega
  have hN31 : a.N < 2 ^ 31 := by omega
  have hn31 : a.n < 2 ^ 31 := by omega
  have hnt31 : a.nt < 2 ^ 31 := by omega
  refine X 200 _ _ _ _ _ _ _ _ _ ?_
  refine c_MisBk X M.hw hbk (fun zb => ?_) (fun zb => ?_)
  · subst zb
    refine And.intro (fun q => absurd q (by decide)) (fun _ => ?_)
    refine c_MsettledOf X M G hn7 (fun I1 A1 B1 M1 g1 => ?_)
    have f1 := ((fM.refl I A B)).trans g1
    exact h _ _ _ M1 f1
  · subst zb
    refine And.intro (fun _ => ?_) (fun q => absurd (by decide) q)
    exact h _ _ _ M (fM.refl I A B)
set_option maxRecDepth 20000 in
theorem c_MplannedOf {J : mJ} (X : mRules J) {I A : mI} {B : mB} {w f : Nat} {R : mR} {a : Ac} (M : MR a w I A B) (V : Vw a) {d0 k0 m0 : Nat} (hd : d0 < a.P * a.N) (hk8 : k0 ≤ 8) (hm9 : m0 ≤ 99999) (hG : ∀ k, k ≤ k0 → Gd (zpl a d0 m0 k)) (hn7 : a.n + 8 + 16 ≤ 480) {xm : Int32} (exm : xm = nI m0) (h : qM a w f I A B R (some (.long (zL (zto (zset (a.N - a.c) (zpx a d0 m0 k0))))))) : J n_M_plannedOf 0 [.ref 43, .int (nI d0), .int (nI k0), .int xm, .float 0, .float 0, .float 0] [] I A B (pk w f) R := by
  have hP40 := V.P40
  have hN8 := V.N8
  have hn4 := V.n4
  have hnt4 := V.nt4
  have hcN := V.cN
  have hPN := Nat.mul_le_mul hP40 hN8
  have hD31 : a.P * a.N < 2 ^ 31 := by omega
  have hN31 : a.N < 2 ^ 31 := by omega
  have hn31 : a.n < 2 ^ 31 := by omega
  have hnt31 : a.nt < 2 ^ 31 := by omega
  have G0 : ∀ (xw : Int32) (exw : xw = nI a.n), ∀ i, i ≤ k0 → ∀ (x : Int32) (Iv : mI) (Av : mI) (Bv : mB), x = nI i → (i = 0 ∨ 0 < m0) → MR (zpl a d0 m0 i) w Iv Av Bv → fM I A B Iv Av Bv → J n_M_plannedOf 9 [.ref 43, .int (nI d0), .int (nI k0), .int xm, .int xw, .int x, .float 0] [] Iv Av Bv (pk w f) R := by
    intro xw exw
    have G : ∀ i, i ≤ k0 → ∀ (x : Int32) (Iv : mI) (Av : mI) (Bv : mB), x = nI i → (i = 0 ∨ 0 < m0) → MR (zpl a d0 m0 i) w Iv Av Bv → fM I A B Iv Av Bv → J n_M_plannedOf 9 [.ref 43, .int (nI d0), .int (nI k0), .int xm, .int xw, .int x, .float 0] [] Iv Av Bv (pk w f) R := by
      refine lpz (fun i => ∀ (x : Int32) (Iv : mI) (Av : mI) (Bv : mB), x = nI i → (i = 0 ∨ 0 < m0) → MR (zpl a d0 m0 i) w Iv Av Bv → fM I A B Iv Av Bv → J n_M_plannedOf 9 [.ref 43, .int (nI d0), .int (nI k0), .int xm, .int xw, .int x, .float 0] [] Iv Av Bv (pk w f) R) (fun i hi ih => ?_)
      intro x Iv Av Bv ex hm Mv fv
      subst ex
      obtain ⟨hxe, hxc, hxn⟩ := ex_pl (a := a) (d := d0) (m := (m0 : Int)) i
      have hxP := hxe.sr.P
      have hxN := hxe.sr.N
      refine X 200 _ _ _ _ _ _ _ _ _ ?_
      refine And.intro (fun q1 => ?_) (fun q1 => ?_)
      · have e := lpx hi (by omega) q1
        have ez : zpx a d0 m0 k0 = zpl a d0 m0 i := by
          unfold zpx
          rcases hm with z | z
          · rw [e] at z
            subst z
            rw [e]
            split <;> rfl
          · rw [if_neg (by omega), e]
        refine c_MsettledOf X Mv (hG i hi) (by rw [hxN, hxc]; omega) (fun I1 A1 B1 M1 g1 => ?_)
        have f1 := (fv).trans g1
        rw [ez, ← hxN, ← hxc] at h
        exact h _ _ _ (M1.rn hxe hxc exw) (f1.trans (fM.i (by omega)))
      · have hl := lpc hi (by omega) q1
        refine And.intro (fun q2 => ?_) (fun q2 => ?_)
        · have c0 : m0 = 0 := by have := (nI_leI (b := 0) (by omega) (by omega)).mp (exm ▸ q2); omega
          have e : i = 0 := by omega
          have ez : zpx a d0 m0 k0 = zpl a d0 m0 i := by
            unfold zpx
            rw [if_pos c0, e]
            rfl
          refine c_MsettledOf X Mv (hG i hi) (by rw [hxN, hxc]; omega) (fun I1 A1 B1 M1 g1 => ?_)
          have f1 := (fv).trans g1
          rw [ez, ← hxN, ← hxc] at h
          exact h _ _ _ (M1.rn hxe hxc exw) (f1.trans (fM.i (by omega)))
        · have c0 : 0 < m0 := Nat.lt_of_not_le (fun z => q2 (by rw [exm]; exact nI_le (b := 0) z (by omega)))
          subst exm
          refine Exists.intro _ (And.intro Mv.hw (And.intro (vlit rfl) ?_))
          refine c_Menters X Mv (hG i (by omega)).V (by omega) (s := 0) (v := d0 + i * a.P) (m := (m0 : Int)) rfl (nL (by omega)) (by show nI d0 + nI i * Av w 0 = _; rw [Mv.hP, hxP, pk_mul, nI_add]) (fun I1 A1 B1 M1 g1 => ?_)
          have f1 := (fv).trans g1
          exact ih hl _ _ _ _ (nI_1 i) (Or.inr c0) M1 f1
    exact G
  refine X 200 _ _ _ _ _ _ _ _ _ ?_
  exact G0 _ M.hn 0 (Nat.zero_le _) _ _ _ _ rfl (Or.inl rfl) M (fM.refl _ _ _)
theorem btw8 {n : Int32} (h : (1 : Int32) ≤ n ∧ n ≤ 8) : ∃ k, 1 ≤ k ∧ k ≤ 8 ∧ n = nI k := by
  have h1 := Int32.le_iff_toInt_le.mp h.1
  have h2 := Int32.le_iff_toInt_le.mp h.2
  have h3 : (1 : Int32).toInt = 1 := by decide
  have h4 : (8 : Int32).toInt = 8 := by decide
  refine ⟨n.toInt.toNat, by omega, by omega, ?_⟩
  apply Int32.toInt_inj.mp
  rw [nI_toInt (by omega)]
  omega
theorem btw8n {n : Int32} (h : ¬ ((1 : Int32) ≤ n ∧ n ≤ 8)) : ixN 9 n = none ∨ ixN 9 n = some 0 := by
  rcases ixN_c (N := 9) (by decide) n with ⟨k, hk, e1, e2⟩ | ⟨_, e2⟩
  · by_cases z : k = 0
    · subst z
      exact Or.inr e2
    · refine absurd ⟨?_, ?_⟩ h
      · rw [e1]
        exact nI_le (a := 1) (by omega) (by omega)
      · rw [e1]
        exact nI_le (b := 8) (by omega) (by omega)
  · exact Or.inl e2
set_option maxRecDepth 20000 in
theorem c_McanPlan {J : mJ} (X : mRules J) {I A : mI} {B : mB} {w f : Nat} {R : mR} {a : Ac} (M : MR a w I A B) (V : Vw a) {d n : Int32} (h1 : ∀ d0 n0, d = nI d0 → n = nI n0 → d0 < a.P * a.N → 1 ≤ n0 → n0 ≤ 8 → d0 + (n0 - 1) * a.P < a.P * a.N → a.c < a.N → cpl a d n = some (d0, n0) → R (some (.int 1)) I A B (pk w f)) (h0 : cpl a d n = none → R (some (.int 0)) I A B (pk w f)) : J n_M_canPlan 0 [.ref 43, .int d, .int n] [] I A B (pk w f) R := by
  have hP40 := V.P40
  have hN8 := V.N8
  have hn4 := V.n4
  have hnt4 := V.nt4
  have hcN := V.cN
  have hPN := Nat.mul_le_mul hP40 hN8
  have hD31 : a.P * a.N < 2 ^ 31 := by omega
  have hN31 : a.N < 2 ^ 31 := by omega
  have hn31 : a.n < 2 ^ 31 := by omega
  have hnt31 : a.nt < 2 ^ 31 := by omega
  refine X 200 _ _ _ _ _ _ _ _ _ ?_
  refine c_MisDay X M V (fun d0 hd ed => ?_) (fun zd => ?_)
  · subst ed
    refine And.intro (fun q => absurd q (by decide)) (fun _ => ?_)
    refine c_MinB X 1 8 (by decide) (by decide) (fun zm => ?_) (fun zm => ?_)
    · obtain ⟨n0, hn1, hn2, en⟩ := btw8 zm
      subst en
      have e9 : ixN 9 (nI n0) = some (n0 - 1 + 1) := by rw [ixN_s (by omega) (by decide)]; congr 1; omega
      refine And.intro (fun q => absurd q (by decide)) (fun _ => ?_)
      refine Exists.intro _ (And.intro M.hw (And.intro (vlit rfl) ?_))
      have e21 : nI d0 + (nI n0 - 1) * A w 0 = nI (d0 + (n0 - 1) * a.P) := by rw [M.hP, show nI n0 - 1 = nI (n0 - 1) from pk_sub (b := 1) (by omega), pk_mul, nI_add]
      have hmu := Nat.mul_le_mul (show n0 - 1 ≤ 8 by omega) hP40
      refine c_MisDay X M V (fun e0 he ee => ?_) (fun ze => ?_)
      · have he2 : d0 + (n0 - 1) * a.P < a.P * a.N := by have := (nI_eq (by omega) (by omega)).mp (e21.symm.trans ee); omega
        refine And.intro (fun q => absurd q (by decide)) (fun _ => ?_)
        refine c_MisOpen X M V (fun zo => ?_) (fun zo => ?_)
        · refine And.intro (fun q => absurd q (by decide)) (fun _ => ?_)
          refine And.intro (Or.inr rfl) ?_
          exact h1 d0 n0 rfl rfl hd hn1 hn2 he2 zo (by unfold cpl; rw [ixN_s hd hD31, e9]; refine (if_pos ⟨he2, zo⟩).trans ?_; rw [show n0 - 1 + 1 = n0 by omega])
        · refine And.intro (fun _ => ?_) (fun q => absurd (by decide) q)
          refine And.intro (Or.inl rfl) ?_
          exact h0 (by unfold cpl; rw [ixN_s hd hD31, e9]; exact if_neg (fun z => zo z.2))
      · have he2 : ¬ d0 + (n0 - 1) * a.P < a.P * a.N := fun z => ze _ z e21
        refine And.intro (fun _ => ?_) (fun q => absurd (by decide) q)
        refine And.intro (Or.inl rfl) ?_
        exact h0 (by unfold cpl; rw [ixN_s hd hD31, e9]; exact if_neg (fun z => he2 z.1))
    · refine And.intro (fun _ => ?_) (fun q => absurd (by decide) q)
      refine And.intro (Or.inl rfl) ?_
      exact h0 (by unfold cpl; rw [ixN_s hd hD31]; rcases btw8n zm with z | z <;> rw [z])
  · refine And.intro (fun _ => ?_) (fun q => absurd (by decide) q)
    refine And.intro (Or.inl rfl) ?_
    exact h0 (by unfold cpl; rw [ixN_n hD31 zd])
set_option maxRecDepth 20000 in
theorem r_planned {J : mJ} (X : mRules J) {I A : mI} {B : mB} {w f : Nat} {R : mR} {a : Ac} (M : MR a w I A B) (V : Vw a) (hG : ∀ d0 m0 k, d0 < a.P * a.N → m0 ≤ 99999 → k ≤ 8 → Gd (zpl a d0 m0 k)) (hn7 : a.n + 8 + 16 ≤ 480) {d n m : Int32} (h : qM a w f I A B R (some (.long (an_planned a (cpl a d n) (ixN 100000 m))))) : J n_M_planned 0 [.ref 43, .int d, .int n, .int m] [] I A B (pk w f) R := by
  have hP40 := V.P40
  have hN8 := V.N8
  have hn4 := V.n4
  have hnt4 := V.nt4
  have hcN := V.cN
  have hPN := Nat.mul_le_mul hP40 hN8
  have hD31 : a.P * a.N < 2 ^ 31 := by omega
  have hN31 : a.N < 2 ^ 31 := by omega
  have hn31 : a.n < 2 ^ 31 := by omega
  have hnt31 : a.nt < 2 ^ 31 := by omega
  refine X 200 _ _ _ _ _ _ _ _ _ ?_
  refine c_MinK X 100000 (by decide) (by decide) (fun m0 hm em => ?_) (fun zm => ?_)
  · subst em
    refine And.intro (fun q => absurd q (by decide)) (fun _ => ?_)
    refine c_McanPlan X M V (fun d0 k0 ed ek hd hk1 hk8 hdk zo ec => ?_) (fun ec => ?_)
    · subst ed; subst ek
      refine And.intro (fun q => absurd q (by decide)) (fun _ => ?_)
      refine c_MplannedOf X M V hd hk8 (m0 := m0) (by omega) (fun k hk => hG d0 m0 k hd (by omega) (by omega)) hn7 rfl (fun I1 A1 B1 M1 g1 => ?_)
      have f1 := ((fM.refl I A B)).trans g1
      rw [ec, ixN_s hm (by decide)] at h
      exact h _ _ _ M1 f1
    · refine And.intro (fun _ => ?_) (fun q => absurd (by decide) q)
      rw [ec] at h
      exact h _ _ _ M (fM.refl _ _ _)
  · refine And.intro (fun _ => ?_) (fun q => absurd (by decide) q)
    have e9 : an_planned a (cpl a d n) (ixN 100000 m) = NS := by rw [ixN_n (by decide) zm]; cases cpl a d n with | none => rfl | some p => rfl
    rw [e9] at h
    exact h _ _ _ M (fM.refl _ _ _)
set_option maxRecDepth 20000 in
theorem r_plan {J : mJ} (X : mRules J) {I A : mI} {B : mB} {w f : Nat} {R : mR} {a : Ac} (M : MR a w I A B) (V : Vw a) (hG : ∀ d0 m0 k, d0 < a.P * a.N → m0 ≤ 99999 → k ≤ 8 → Gd (zpl a d0 m0 k)) (hn7 : a.n + 8 + 16 ≤ 480) {d n : Int32} (hmono : ∀ d0 k0, d0 < a.P * a.N → k0 ≤ 8 → ∀ x y, x ≤ y → y ≤ 99999 → zcp a d0 k0 y = true → zcp a d0 k0 x = true) (h : qM a w f I A B R (some (.int (an_plan a (cpl a d n))))) : J n_M_plan 0 [.ref 43, .int d, .int n, .float 0, .float 0, .float 0] [] I A B (pk w f) R := by
  have hP40 := V.P40
  have hN8 := V.N8
  have hn4 := V.n4
  have hnt4 := V.nt4
  have hcN := V.cN
  have hPN := Nat.mul_le_mul hP40 hN8
  have hD31 : a.P * a.N < 2 ^ 31 := by omega
  have hN31 : a.N < 2 ^ 31 := by omega
  have hn31 : a.n < 2 ^ 31 := by omega
  have hnt31 : a.nt < 2 ^ 31 := by omega
  have G0 : ∀ (d0 k0 : Nat) (hd : d0 < a.P * a.N) (hk8 : k0 ≤ 8) (hmono : ∀ x y, x ≤ y → y ≤ 99999 → zcp a d0 k0 y = true → zcp a d0 k0 x = true) (h : qM a w f I A B R (some (.int (lsx 0 (zcp a d0 k0) 100000)))), ∀ k : Nat, ∀ (lo hi : Nat) (xl xh : Int32) (z : Value) (Iv Av : mI) (Bv : mB), hi - lo = k → xl = nI lo → xh = nI hi → 0 ≤ lo → lo ≤ hi → hi ≤ 99999 → (∀ x, 0 ≤ x → x < lo → (zcp a d0 k0) x = true) → (zcp a d0 k0) hi = false → MR a w Iv Av Bv → fM I A B Iv Av Bv → J n_M_plan 35 [.ref 43, .int (nI d0), .int (nI k0), .int xl, .int xh, z] [] Iv Av Bv (pk w f) R := by
    intro d0 k0 hd hk8 hmono h k
    induction k using Nat.strongRecOn with
    | ind k ih =>
      intro lo hi xl xh z Iv Av Bv hk e1 e2 h1 h2 h3 h4 h5 Mv fv
      subst e1; subst e2
      refine X 200 _ _ _ _ _ _ _ _ _ ?_
      refine And.intro (fun q1 => ?_) (fun q1 => ?_)
      · have e : lo = hi := by have := (nI_leI (by omega) (by omega)).mp q1; omega
        subst e
        rw [lsx_s (L := 0) (K := 100000) (c := (zcp a d0 k0)) h1 (by omega) h5 h4] at h
        exact h _ _ _ Mv fv --end
      · have hlt : lo < hi := Nat.lt_of_not_le (fun z => q1 (nI_le z (by omega)))
        have ehf : (nI lo + nI hi) / (2 : Int32) = nI ((lo + hi) / 2) := by rw [nI_add]; exact pk_div (d := 2) (by omega) (by omega) (by omega)
        refine And.intro (by decide) ?_
        refine c_MplannedOf X Mv V hd hk8 (m0 := (lo + hi) / 2) (by omega) (fun k hk => hG d0 _ k hd (by omega) (by omega)) hn7 ehf (fun I1 A1 B1 M1 g1 => ?_)
        have f1 := (fv).trans g1
        refine And.intro (fun q2 => ?_) (fun q2 => ?_)
        · have cf : (zcp a d0 k0) ((lo + hi) / 2) = false := decide_eq_false (Int64.not_lt.mpr q2)
          exact ih ((lo + hi) / 2 - lo) (by omega) lo ((lo + hi) / 2) _ _ _ _ _ _ rfl rfl ehf h1 (by omega) (by omega) h4 cf M1 f1
        · have cf : (zcp a d0 k0) ((lo + hi) / 2) = true := decide_eq_true (Int64.not_le.mp q2)
          exact ih (hi - ((lo + hi) / 2 + 1)) (by omega) ((lo + hi) / 2 + 1) hi _ _ _ _ _ _ rfl (by rw [← nI_1, ← ehf]) rfl (by omega) (by omega) h3 (fun x hx1 hx2 => hmono x ((lo + hi) / 2) (by omega) (by omega) cf) h5 M1 f1
  refine X 200 _ _ _ _ _ _ _ _ _ ?_
  refine c_McanPlan X M V (fun d0 k0 ed ek hd hk1 hk8 hdk zo ec => ?_) (fun ec => ?_)
  · subst ed; subst ek
    refine And.intro (fun _ => ?_) (fun q => absurd q (by decide))
    refine c_MplannedOf X M V hd hk8 (m0 := 99999) (by omega) (fun k hk => hG d0 _ k hd (by omega) (by omega)) hn7 rfl (fun I1 A1 B1 M1 g1 => ?_)
    have f1 := ((fM.refl I A B)).trans g1
    refine And.intro (fun q1 => ?_) (fun q1 => ?_)
    · rw [ec] at h
      exact G0 d0 k0 hd hk8 (hmono d0 k0 hd hk8) h _ 0 99999 _ _ _ _ _ _ rfl rfl rfl (by omega) (by omega) (by omega) (fun x h1 h2 => by omega) (decide_eq_false (Int64.not_lt.mpr q1)) M1 f1
    · rw [ec] at h
      simp only [an_plan] at h
      rw [lsx_n (fun x h1 h2 => hmono d0 k0 hd hk8 x 99999 (by omega) (by omega) (decide_eq_true (Int64.not_le.mp q1)))] at h
      exact h _ _ _ M1 f1
  · refine And.intro (fun q => absurd (by decide) q) (fun _ => ?_)
    rw [ec] at h
    exact h _ _ _ M (fM.refl _ _ _)
