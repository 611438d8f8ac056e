/-! rows done by the reference, its flag of a debit told (written by wip/whole/gm17.py) -/
def f9 (I A : mI) (B : mB) (I' A' : mI) (B' : mB) : Prop := fM I A B I' A' B' ∧ I' 43 9 = I 43 9
theorem f9.refl (I A : mI) (B : mB) : f9 I A B I A B := ⟨fM.refl I A B, rfl⟩
theorem f9.trans {I A : mI} {B : mB} {I' A' : mI} {B' : mB} {I2 A2 : mI} {B2 : mB} (h : f9 I A B I' A' B') (h2 : f9 I' A' B' I2 A2 B2) : f9 I A B I2 A2 B2 := ⟨h.1.trans h2.1, h2.2.trans h.2⟩
theorem f9.b59 {I A : mI} {B B' : mB} (h : ∀ r, r ≠ 59 → B' r = B r) : f9 I A B I A B' := ⟨fM.b59 h, rfl⟩
theorem f9.en {I A : mI} {B : mB} {s v c1 o x : Int32} {m : Int64} {k1 k2 k3 k4 k5 : Nat} : f9 I A B (up2 I 43 19 x) (up2 (up2 (up2 (up2 A 54 k1 s) 56 k3 v) 57 k4 c1) 58 k5 o) (up2 B 55 k2 m) := ⟨fM.en, up2_m (by decide)⟩
theorem f9.i {I A : mI} {B : mB} {j : Nat} {x : Int32} (h : j = 7 ∨ j = 13 ∨ j = 19 ∨ j = 20 ∨ j = 21 ∨ j = 22 ∨ j = 23) : f9 I A B (up2 I 43 j x) A B := ⟨fM.i (by omega), up2_m (by omega)⟩
theorem f9.a {I A : mI} {B : mB} {r j : Nat} {x : Int32} (h : 48 ≤ r ∧ r ≤ 64 ∧ r ≠ 60) : f9 I A B I (up2 A r j x) B := ⟨fM.a h, rfl⟩
theorem f9.b {I A : mI} {B : mB} {r j : Nat} {x : Int64} (h : 43 ≤ r ∧ r ≤ 64) : f9 I A B I A (up2 B r j x) := ⟨fM.b h, rfl⟩
def q9 (a : Ac) (w f : Nat) (I A : mI) (B : mB) (R : mR) (v : Option Value) : Prop := ∀ I' A' B', MR a w I' A' B' → f9 I A B I' A' B' → R v I' A' B' (pk w f)
set_option maxRecDepth 20000 in
theorem c_Menters9 {J : mJ} (X : mRules J) {I A : mI} {B : mB} {w f : Nat} {R : mR} {a : Ac} (M : MR a w I A B) (V : Vw a) (hn5 : a.n + 1 ≤ 500) {s v : Nat} {m : Int} {o xs xv : Int32} {xm : Int64} (es : xs = nI s) (em : xm = zL m) (ev : xv = nI v) (h : q9 (zen a s m v o) w f I A B R none) : J n_M_enters 0 [.ref 43, .int xs, .long xm, .float 0, .int xv, .int o] [] I A B (pk w f) R := by
  subst es; subst em; subst ev
  refine X 200 _ _ _ _ _ _ _ _ _ ?_
  refine Exists.intro _ (And.intro rfl (And.intro (by rw [M.hn]; exact vin (by omega) (by omega)) ?_))
  refine Exists.intro _ (And.intro rfl (And.intro (by rw [M.hn]; exact vin (by omega) (by omega)) ?_))
  refine Exists.intro _ (And.intro rfl (And.intro (by rw [M.hn]; exact vin (by omega) (by omega)) ?_))
  refine Exists.intro _ (And.intro rfl (And.intro (by rw [M.hn]; exact vin (by omega) (by omega)) ?_))
  refine Exists.intro _ (And.intro rfl (And.intro (by rw [M.hn]; exact vin (by omega) (by omega)) ?_))
  exact h _ _ _ (M.en (by rw [M.hn]; exact cl (by omega)) (by rw [M.hn]; exact cl (by omega)) (by rw [M.hn]; exact cl (by omega)) (by rw [M.hn]; exact cl (by omega)) (by rw [M.hn]; exact cl (by omega)) (by show I 43 19 + 1 = _; rw [M.hn, nI_1]) M.hc) f9.en
set_option maxRecDepth 20000 in
theorem c_Mcloses9 {J : mJ} (X : mRules J) {I A : mI} {B : mB} {w f : Nat} {R : mR} {a : Ac} (M : MR a w I A B) (V : Vw a) (hn5 : a.n + 1 ≤ 500) (ho : a.c < a.N) (h : q9 (zcl a) w f I A B R none) : J n_M_closes 0 [.ref 43, .float 0, .float 0] [] I A B (pk w f) R := by
  have hP40 := V.P40
  have hN8 := V.N8
  have hn4 := V.n4
  have hnt4 := V.nt4
  have hcN := V.cN
  have hPN := Nat.mul_le_mul hP40 hN8
  have hD31 : a.P * a.N < 2 ^ 31 := by omega
  have hN31 : a.N < 2 ^ 31 := by omega
  have hn31 : a.n < 2 ^ 31 := by omega
  have hnt31 : a.nt < 2 ^ 31 := by omega
  refine X 200 _ _ _ _ _ _ _ _ _ ?_
  refine c_MinterestOf2 X M V (p := a.c) (by have := P_le ho; omega) M.hc (fun Bv1 hv1 => ?_)
  have M1 := (M).fB (hv1 55 (by decide))
  have f1 := ((f9.refl I A B)).trans (f9.b59 hv1)
  refine c_Mcomp2 X M1 V (p := a.c) (by omega) (by omega) M1.hc ?_
  refine c_Menters9 X M1 V hn5 (s := 1) rfl rfl rfl (fun I2 A2 B2 M2 g2 => ?_)
  have f2 := (f1).trans g2
  have Mx : MR (zcl a) w (up2 I2 43 20 (I2 43 20 + 1)) A2 B2 := by
    have e9 : I (43) 20 = nI a.c := M.hc
    have M3 := M2
    rw [e9] at M3
    exact M3.sc (c := a.c + 1) (by rw [M2.hc]; exact nI_1 _)
  exact h _ _ _ Mx (f2.trans (f9.i (by omega)))
set_option maxRecDepth 20000 in
theorem c_Mreruns9 {J : mJ} (X : mRules J) {I A : mI} {B : mB} {w f : Nat} {R : mR} {a : Ac} (M : MR a w I A B) (V : Vw a) (hV : ∀ k, k ≤ a.c → Vw (zrr a k)) (hZ : ∀ k, k < a.c → -2 ^ 40 ≤ zit (zrr a k) k - zbk (zrr a k) k ∧ zit (zrr a k) k - zbk (zrr a k) k ≤ 2 ^ 40) (hn5 : a.n + a.c ≤ 500) (h : q9 (zrr a a.c) w f I A B R (some (.int (nI ((zrr a a.c).n - a.n))))) : J n_M_reruns 0 [.ref 43, .float 0, .float 0, .float 0, .float 0] [] I A B (pk w f) R := by
  have hP40 := V.P40
  have hN8 := V.N8
  have hn4 := V.n4
  have hnt4 := V.nt4
  have hcN := V.cN
  have hPN := Nat.mul_le_mul hP40 hN8
  have hD31 : a.P * a.N < 2 ^ 31 := by omega
  have hN31 : a.N < 2 ^ 31 := by omega
  have hn31 : a.n < 2 ^ 31 := by omega
  have hnt31 : a.nt < 2 ^ 31 := by omega
  have G : ∀ i, i ≤ a.c → ∀ (s : Int32) (x : Int32) (z3 : Value) (z4 : Value) (Iv : mI) (Av : mI) (Bv : mB), s = nI ((zrr a i).n - a.n) → x = nI i → MR (zrr a i) w Iv Av Bv → f9 I A B Iv Av Bv → J n_M_reruns 4 [.ref 43, .int s, .int x, z3, z4] [] Iv Av Bv (pk w f) R := by
    refine lpz (fun i => ∀ (s : Int32) (x : Int32) (z3 : Value) (z4 : Value) (Iv : mI) (Av : mI) (Bv : mB), s = nI ((zrr a i).n - a.n) → x = nI i → MR (zrr a i) w Iv Av Bv → f9 I A B Iv Av Bv → J n_M_reruns 4 [.ref 43, .int s, .int x, z3, z4] [] Iv Av Bv (pk w f) R) (fun i hi ih => ?_)
    intro s x z3 z4 Iv Av Bv es ex Mv fv
    subst es; subst ex
    have hrc := rr_c (a := a) i
    refine X 200 _ _ _ _ _ _ _ _ _ ?_
    refine And.intro (fun q1 => ?_) (fun q1 => ?_)
    · rw [Mv.hc, hrc.1] at q1
      have e := lpx hi (by omega) q1
      subst e
      exact h _ _ _ Mv fv
    · rw [Mv.hc, hrc.1] at q1
      have hl := lpc hi (by omega) q1
      have hib := hZ i (by omega)
      have hrs : zit (zrr a i) i - zbk (zrr a i) i = 0 → zrr a (i + 1) = zrr a i := fun z => if_pos z
      have hrt : ¬ zit (zrr a i) i - zbk (zrr a i) i = 0 → zrr a (i + 1) = zen (zrr a i) 2 (zit (zrr a i) i - zbk (zrr a i) i) (zcm (zrr a i) i) (nI i) := fun z => if_neg z
      refine c_MinterestOf X Mv (hV i hi) (p := i) (by rw [(sr_rr (a := a) i).P]; have := P_le (a := a) (p := i) (by omega); omega) (fun Bv1 hv1 => ?_)
      have M1 := (Mv).fB (hv1 55 (by decide))
      have f1 := (fv).trans (f9.b59 hv1)
      refine c_Mbooked X M1 (hV i hi) (p := i) ?_
      refine And.intro (fun q2 => ?_) (fun q2 => ?_)
      · rw [zL_sub, zl_eq0 (by omega) (by omega)] at q2
        have hrt := hrt q2
        refine c_Mcomp X M1 (hV i hi) (p := i) (by omega) (by rw [(sr_rr (a := a) i).N]; omega) ?_
        refine c_Menters9 X M1 (hV i hi) (by omega) (s := 2) rfl zL_sub rfl (fun I2 A2 B2 M2 g2 => ?_)
        have f2 := (f1).trans g2
        exact ih hl _ _ _ _ _ _ _ (by rw [hrt]; show _ = nI ((zrr a i).n + 1 - a.n); rw [nI_1, show (zrr a i).n + 1 - a.n = (zrr a i).n - a.n + 1 by omega]) (nI_1 i) (by rw [hrt]; exact M2) f2
      · rw [zL_sub, zl_eq0 (by omega) (by omega)] at q2
        have hrs := hrs q2
        exact ih hl _ _ _ _ _ _ _ (by rw [hrs]) (nI_1 i) (by rw [hrs]; exact M1) f1
  refine X 200 _ _ _ _ _ _ _ _ _ ?_
  exact G 0 (Nat.zero_le _) _ _ _ _ _ _ _ (by rw [show (zrr a 0).n - a.n = 0 from Nat.sub_self _]; rfl) rfl M (f9.refl _ _ _)
set_option maxRecDepth 20000 in
theorem c_Mchanges9 {J : mJ} (X : mRules J) {I A : mI} {B : mB} {w f : Nat} {R : mR} {a : Ac} (M : MR a w I A B) (V : Vw a) (hc : a.nc < 40) {x z : Nat} {y : Int} (hy : 0 ≤ y) {v1 v2 v3 : Int32} (h1 : v1 = nI x) (h2 : v2 = zN y) (h3 : v3 = nI z) (h : q9 (zdC a x y z) w f I A B R none) : J n_M_changes 0 [.ref 43, .int v1, .int v2, .int v3] [] I A B (pk w f) R := by
  refine X 200 _ _ _ _ _ _ _ _ _ ?_
  refine Exists.intro _ (And.intro rfl (And.intro (by rw [M.hnc]; exact vin (by omega) (by omega)) ?_))
  refine Exists.intro _ (And.intro rfl (And.intro (by rw [M.hnc]; exact vin (by omega) (by omega)) ?_))
  refine Exists.intro _ (And.intro rfl (And.intro (by rw [M.hnc]; exact vin (by omega) (by omega)) ?_))
  exact h _ _ _ (M.dC hy (by rw [M.hnc]; exact cl (by omega)) (by rw [M.hnc]; exact cl (by omega)) (by rw [M.hnc]; exact cl (by omega)) h1 h2 h3 (by rw [M.hnc]; exact nI_1 _)) ((((f9.refl I A B).trans (f9.a (r := 51) (by omega))).trans (f9.a (r := 52) (by omega))).trans (f9.a (r := 53) (by omega)) |>.trans (f9.i (by omega)))
set_option maxRecDepth 20000 in
theorem c_Mdoes9 {J : mJ} (X : mRules J) {I A : mI} {B : mB} {w f : Nat} {R : mR} {a : Ac} (M : MR a w I A B) (G : Gd a) {k : Nat} (hk : k < 120) {r : Rw} (hr : WRow w A k r) (O : Ok a r) (hk1 : r.1 ≠ 1) {xk : Int32} (exk : xk = nI k) (h : q9 (zdo a r) w f I A B R (some (.int (zrv a r)))) : J n_M_does 0 [.ref 43, .int xk, .float 0, .float 0, .float 0, .float 0, .float 0] [] I A B (pk w f) R := by
  have V := G.V
  have hP40 := V.P40
  have hN8 := V.N8
  have hn4 := V.n4
  have hnt4 := V.nt4
  have hcN := V.cN
  have hPN := Nat.mul_le_mul hP40 hN8
  have hD31 : a.P * a.N < 2 ^ 31 := by omega
  have hN31 : a.N < 2 ^ 31 := by omega
  have hn31 : a.n < 2 ^ 31 := by omega
  have hnt31 : a.nt < 2 ^ 31 := by omega
  subst exk
  obtain ⟨kd, x, y, z⟩ := r
  obtain ⟨hr0, hr1, hr2, hr3⟩ := hr
  have hn9 := O.n0
  have hk6 : kd ≤ 6 := O.k6
  have e0 : (6 : Int32) + 5 * nI k = nI (6 + 5 * k) := by rw [show (5 : Int32) * nI k = nI (5 * k) from pk_mul 5 k]; exact nI_add 6 (5 * k)
  have e1 : (6 : Int32) + 5 * nI k + 1 = nI (6 + 5 * k + 1) := by rw [e0]; exact nI_add _ 1
  have e2 : (6 : Int32) + 5 * nI k + 2 = nI (6 + 5 * k + 2) := by rw [e0]; exact nI_add _ 2
  have e3 : (6 : Int32) + 5 * nI k + 3 = nI (6 + 5 * k + 3) := by rw [e0]; exact nI_add _ 3
  have ha0 : A w ((6 : Int32) + 5 * nI k).toNatClampNeg = nI kd := by rw [e0, cl (by omega)]; exact hr0
  have ha1 : A w ((6 : Int32) + 5 * nI k + 1).toNatClampNeg = nI x := by rw [e1, cl (by omega)]; exact hr1
  have ha2 : A w ((6 : Int32) + 5 * nI k + 2).toNatClampNeg = zN y := by rw [e2, cl (by omega)]; exact hr2
  have ha3 : A w ((6 : Int32) + 5 * nI k + 3).toNatClampNeg = nI z := by rw [e3, cl (by omega)]; exact hr3
  have hy9 : kd = 3 → -99999 ≤ y ∧ y ≤ 99999 := fun e => (O.e0 e).2
  refine X 200 _ _ _ _ _ _ _ _ _ ?_
  refine Exists.intro _ (And.intro M.hw (And.intro (by first | (rw [e1]; exact vin (by omega) (by omega)) | (rw [e2]; exact vin (by omega) (by omega)) | (rw [e3]; exact vin (by omega) (by omega)) | (rw [e0]; exact vin (by omega) (by omega)) | (have hO := (O.t0 rfl).1; rw [M.hnt]; exact vin (by omega) (by omega)) | exact vin (show zpe a x < 500 by omega) (by omega)) ?_))
  refine Exists.intro _ (And.intro M.hw (And.intro (by first | (rw [e1]; exact vin (by omega) (by omega)) | (rw [e2]; exact vin (by omega) (by omega)) | (rw [e3]; exact vin (by omega) (by omega)) | (rw [e0]; exact vin (by omega) (by omega)) | (have hO := (O.t0 rfl).1; rw [M.hnt]; exact vin (by omega) (by omega)) | exact vin (show zpe a x < 500 by omega) (by omega)) ?_))
  refine Exists.intro _ (And.intro M.hw (And.intro (by first | (rw [e1]; exact vin (by omega) (by omega)) | (rw [e2]; exact vin (by omega) (by omega)) | (rw [e3]; exact vin (by omega) (by omega)) | (rw [e0]; exact vin (by omega) (by omega)) | (have hO := (O.t0 rfl).1; rw [M.hnt]; exact vin (by omega) (by omega)) | exact vin (show zpe a x < 500 by omega) (by omega)) ?_))
  refine Exists.intro _ (And.intro M.hw (And.intro (by first | (rw [e1]; exact vin (by omega) (by omega)) | (rw [e2]; exact vin (by omega) (by omega)) | (rw [e3]; exact vin (by omega) (by omega)) | (rw [e0]; exact vin (by omega) (by omega)) | (have hO := (O.t0 rfl).1; rw [M.hnt]; exact vin (by omega) (by omega)) | exact vin (show zpe a x < 500 by omega) (by omega)) ?_))
  refine And.intro (fun q1 => ?_) (fun q1 => ?_)
  · rw [ha0] at q1
    have ekd : kd = 0 := (nI_eq (b := 0) (by omega) (by omega)).mp q1
    subst ekd
    refine Exists.intro _ (And.intro rfl (And.intro (by first | (rw [e1]; exact vin (by omega) (by omega)) | (rw [e2]; exact vin (by omega) (by omega)) | (rw [e3]; exact vin (by omega) (by omega)) | (rw [e0]; exact vin (by omega) (by omega)) | (have hO := (O.t0 rfl).1; rw [M.hnt]; exact vin (by omega) (by omega)) | exact vin (show zpe a x < 500 by omega) (by omega)) ?_))
    refine Exists.intro _ (And.intro rfl (And.intro (by first | (rw [e1]; exact vin (by omega) (by omega)) | (rw [e2]; exact vin (by omega) (by omega)) | (rw [e3]; exact vin (by omega) (by omega)) | (rw [e0]; exact vin (by omega) (by omega)) | (have hO := (O.t0 rfl).1; rw [M.hnt]; exact vin (by omega) (by omega)) | exact vin (show zpe a x < 500 by omega) (by omega)) ?_))
    have hO := O.t0 rfl
    exact h _ _ _ (M.dT hO.2.2.1 (by rw [M.hnt]; exact cl (by omega)) (by rw [M.hnt]; exact cl (by omega)) ha1 ha2 (by rw [M.hnt]; exact nI_1 _)) (((f9.refl I A B).trans (f9.a (r := 48) (by omega))).trans (f9.a (r := 49) (by omega)) |>.trans (f9.i (by omega)))
  refine And.intro (fun q2 => ?_) (fun q2 => ?_)
  · rw [ha0] at q2
    have ekd : kd = 1 := (nI_eq (b := 1) (by omega) (by omega)).mp q2
    subst ekd
    refine Exists.intro _ (And.intro rfl (And.intro (vlit rfl) ?_))
    refine Exists.intro _ (And.intro rfl (And.intro (vlit rfl) ?_))
    refine Exists.intro _ (And.intro rfl (And.intro (vlit rfl) ?_))
    refine And.intro (Or.inr rfl) ?_
    have hO := O.d0 rfl
    exact absurd rfl hk1
  refine And.intro (fun q3 => ?_) (fun q3 => ?_)
  · rw [ha0] at q3
    have ekd : kd = 2 := (nI_eq (b := 2) (by omega) (by omega)).mp q3
    subst ekd
    refine c_Mchanges9 X M V (x := x) (y := y) (z := z) (by have := (O.c0 rfl).1; omega) (O.c0 rfl).2.2.1 ha1 ha2 ha3 (fun I1 A1 B1 M1 g1 => ?_)
    have f1 := ((f9.refl I A B)).trans g1
    have h2 := h _ _ _ M1 f1
    have e9 : zrv a (2, x, y, z) = I1 43 13 := M1.hnc.symm
    rw [e9] at h2
    exact h2
  refine And.intro (fun q4 => ?_) (fun q4 => ?_)
  · rw [ha0] at q4
    have ekd : kd = 3 := (nI_eq (b := 3) (by omega) (by omega)).mp q4
    subst ekd
    have hy9 := hy9 rfl
    refine c_Menters9 X M V (by omega) (s := 0) (v := x) (m := y) rfl (by rw [ha2]; exact zn_l (by omega) (by omega)) ha1 (fun I1 A1 B1 M1 g1 => ?_)
    have f1 := ((f9.refl I A B)).trans g1
    have h2 := h _ _ _ M1 f1
    have e9 : zrv a (3, x, y, z) = I1 43 19 - 1 := by rw [M1.hn]; exact (nI_pred a.n).symm
    rw [e9] at h2
    exact h2
  refine And.intro (fun q5 => ?_) (fun q5 => ?_)
  · rw [ha0] at q5
    have ekd : kd = 4 := (nI_eq (b := 4) (by omega) (by omega)).mp q5
    subst ekd
    refine c_Mcloses9 X M V (by omega) (O.op (by show 3 ≤ 4; omega)) (fun I1 A1 B1 M1 g1 => ?_)
    have f1 := ((f9.refl I A B)).trans g1
    have h2 := h _ _ _ M1 f1
    have e9 : zrv a (4, x, y, z) = I1 43 20 - 1 := by rw [M1.hc]; exact (nI_pred a.c).symm
    rw [e9] at h2
    exact h2
  refine And.intro (fun q6 => ?_) (fun q6 => ?_)
  · rw [ha0] at q6
    have ekd : kd = 5 := (nI_eq (b := 5) (by omega) (by omega)).mp q6
    subst ekd
    refine c_Mreruns9 X M V (fun k hk => (gd_rr G (by omega) k hk).V) (fun k hk => gd_z (gd_rr G (by omega) k (by omega)) (by omega)) (by omega) (fun I1 A1 B1 M1 g1 => ?_)
    have f1 := ((f9.refl I A B)).trans g1
    exact h _ _ _ M1 f1
  rw [ha0] at q1
  have n0 : ¬ kd = 0 := fun z => q1 (by rw [z]; rfl)
  rw [ha0] at q2
  have n1 : ¬ kd = 1 := fun z => q2 (by rw [z]; rfl)
  rw [ha0] at q3
  have n2 : ¬ kd = 2 := fun z => q3 (by rw [z]; rfl)
  rw [ha0] at q4
  have n3 : ¬ kd = 3 := fun z => q4 (by rw [z]; rfl)
  rw [ha0] at q5
  have n4 : ¬ kd = 4 := fun z => q5 (by rw [z]; rfl)
  rw [ha0] at q6
  have n5 : ¬ kd = 5 := fun z => q6 (by rw [z]; rfl)
  have ekd : kd = 6 := by omega
  subst ekd
  have hrx : x < ct (fun j => decide (a.so j = 0)) a.n := O.r0 rfl
  have hz1 : zpe a x < a.n := (zpe_i hrx).1
  refine c_MpaidEntry X M V hrx ha1 ?_
  refine Exists.intro _ (And.intro rfl (And.intro (by first | (rw [e1]; exact vin (by omega) (by omega)) | (rw [e2]; exact vin (by omega) (by omega)) | (rw [e3]; exact vin (by omega) (by omega)) | (rw [e0]; exact vin (by omega) (by omega)) | (have hO := (O.t0 rfl).1; rw [M.hnt]; exact vin (by omega) (by omega)) | exact vin (show zpe a x < 500 by omega) (by omega)) ?_))
  refine Exists.intro _ (And.intro rfl (And.intro (by first | (rw [e1]; exact vin (by omega) (by omega)) | (rw [e2]; exact vin (by omega) (by omega)) | (rw [e3]; exact vin (by omega) (by omega)) | (rw [e0]; exact vin (by omega) (by omega)) | (have hO := (O.t0 rfl).1; rw [M.hnt]; exact vin (by omega) (by omega)) | exact vin (show zpe a x < 500 by omega) (by omega)) ?_))
  refine c_Menters9 X M V (by omega) (s := 3) (v := a.va (zpe a x)) (m := -a.am (zpe a x)) rfl (by rw [cl (by omega), M.ham _ hz1, zL_neg]) (by rw [cl (by omega)]; exact M.hva _ hz1) (fun I1 A1 B1 M1 g1 => ?_)
  have f1 := ((f9.refl I A B)).trans g1
  have h2 := h _ _ _ M1 f1
  have e9 : zrv a (6, x, y, z) = I1 43 19 - 1 := by rw [M1.hn]; exact (nI_pred a.n).symm
  rw [e9] at h2
  exact h2
