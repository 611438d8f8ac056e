/-! contracts of the reference: rows done (written by wip/whole/gm9.py) -/
set_option maxRecDepth 20000 in
theorem c_MpaidEntry {J : mJ} (X : mRules J) {I A : mI} {B : mB} {w f : Nat} {R : mR} {a : Ac} (M : MR a w I A B) (V : Vw a) {k : Nat} (hk : k < ct (fun j => decide (a.so j = 0)) a.n) {xk : Int32} (exk : xk = nI k) (h : R (some (.int (nI (zpe a k)))) I A B (pk w f)) : J n_M_paidEntry 0 [.ref 43, .int xk, .float 0, .float 0] [] I A B (pk w f) R := by
  subst exk
  have hP40 := V.P40
  have hN8 := V.N8
  have hn4 := V.n4
  have hnt4 := V.nt4
  have hcN := V.cN
  have hPN := Nat.mul_le_mul hP40 hN8
  have hD31 : a.P * a.N < 2 ^ 31 := by omega
  have hN31 : a.N < 2 ^ 31 := by omega
  have hn31 : a.n < 2 ^ 31 := by omega
  have hnt31 : a.nt < 2 ^ 31 := by omega
  have G : ∀ i, i ≤ (zpe a k) → ∀ (s : Int32) (x : Int32), s = nI (k - ct (fun j => decide (a.so j = 0)) i) → x = nI i → (ct (fun j => decide (a.so j = 0)) i ≤ k) → J n_M_paidEntry 4 [.ref 43, .int (nI k), .int s, .int x] [] I A B (pk w f) R := by
    refine lpz (fun i => ∀ (s : Int32) (x : Int32), s = nI (k - ct (fun j => decide (a.so j = 0)) i) → x = nI i → (ct (fun j => decide (a.so j = 0)) i ≤ k) → J n_M_paidEntry 4 [.ref 43, .int (nI k), .int s, .int x] [] I A B (pk w f) R) (fun i hi ih => ?_)
    intro s x es ex hck
    subst es; subst ex
    obtain ⟨hz1, hz2, hz3⟩ := zpe_i hk
    have hl0 : i < a.n := by omega
    have hb31 : (nI i).toNatClampNeg = i := cl (by omega)
    have hs1 := M.hso i hl0
    have hs3 := V.so3 i hl0
    have hcl := ct_le (c := (fun j => decide (a.so j = 0))) a.n
    refine X 200 _ _ _ _ _ _ _ _ _ ?_
    refine Exists.intro _ (And.intro rfl (And.intro (vin (by omega) (by omega)) ?_))
    refine And.intro (fun q1 => ?_) (fun q1 => ?_)
    · rw [hb31, hs1] at q1
      have c1 : ¬ a.so i = 0 := fun z => q1 (by rw [z]; rfl)
      have hl : i < zpe a k := by
        rcases Nat.lt_or_ge i (zpe a k) with z | z
        · exact z
        · exact absurd (show a.so i = 0 by rw [show i = zpe a k by omega]; exact hz2) c1
      have cc : (fun j => decide (a.so j = 0)) i = false := decide_eq_false c1
      refine Exists.intro _ (And.intro rfl (And.intro (vin (by omega) (by omega)) ?_))
      refine And.intro (fun q2 => ?_) (fun q2 => ?_)
      · rw [hb31, hs1] at q2
        exact ih hl _ _ (by rw [ct_f cc]; exact Int32.sub_zero _) (nI_1 i) (by rw [ct_f cc]; exact hck)
      · rw [hb31, hs1] at q2
        exact absurd ((nI_eq (b := 0) (by omega) (by omega)).mp q2) c1 --end
    · rw [hb31, hs1] at q1
      have c1 : a.so i = 0 := (nI_eq (b := 0) (by omega) (by omega)).mp q1
      have cc : (fun j => decide (a.so j = 0)) i = true := decide_eq_true c1
      refine And.intro (fun q3 => ?_) (fun q3 => ?_)
      · have c2 : k - ct (fun j => decide (a.so j = 0)) i = 0 := by have := (nI_leI (b := 0) (by omega) (by omega)).mp q3; omega
        have e9 : zpe a k = i := zpe_u hl0 c1 (by omega)
        rw [e9] at h
        exact h --end
      · have c2 : 0 < k - ct (fun j => decide (a.so j = 0)) i := Nat.lt_of_not_le (fun z => q3 (nI_le (b := 0) z (by omega)))
        have hl : i < zpe a k := by
          rcases Nat.lt_or_ge i (zpe a k) with z | z
          · exact z
          · have e8 : i = zpe a k := by omega
            rw [e8, hz3] at c2
            omega
        refine Exists.intro _ (And.intro rfl (And.intro (vin (by omega) (by omega)) ?_))
        refine And.intro (fun q4 => ?_) (fun q4 => ?_)
        · rw [hb31, hs1] at q4
          exact absurd (by rw [c1]; rfl) q4 --end
        · exact ih hl _ _ (by rw [ct_t cc]; refine (pk_sub (b := 1) (by omega)).trans (congrArg nI ?_); omega) (nI_1 i) (by rw [ct_t cc]; omega)
  refine X 200 _ _ _ _ _ _ _ _ _ ?_
  exact G 0 (Nat.zero_le _) _ _ rfl rfl (Nat.zero_le _)
set_option maxRecDepth 20000 in
theorem c_Mchanges {J : mJ} (X : mRules J) {I A : mI} {B : mB} {w f : Nat} {R : mR} {a : Ac} (M : MR a w I A B) (V : Vw a) (hc : a.nc < 40) {x z : Nat} {y : Int} (hy : 0 ≤ y) {v1 v2 v3 : Int32} (h1 : v1 = nI x) (h2 : v2 = zN y) (h3 : v3 = nI z) (h : qM (zdC a x y z) w f I A B R none) : J n_M_changes 0 [.ref 43, .int v1, .int v2, .int v3] [] I A B (pk w f) R := by
  refine X 200 _ _ _ _ _ _ _ _ _ ?_
  refine Exists.intro _ (And.intro rfl (And.intro (by rw [M.hnc]; exact vin (by omega) (by omega)) ?_))
  refine Exists.intro _ (And.intro rfl (And.intro (by rw [M.hnc]; exact vin (by omega) (by omega)) ?_))
  refine Exists.intro _ (And.intro rfl (And.intro (by rw [M.hnc]; exact vin (by omega) (by omega)) ?_))
  exact h _ _ _ (M.dC hy (by rw [M.hnc]; exact cl (by omega)) (by rw [M.hnc]; exact cl (by omega)) (by rw [M.hnc]; exact cl (by omega)) h1 h2 h3 (by rw [M.hnc]; exact nI_1 _)) ((((fM.refl I A B).trans (fM.a (r := 51) (by omega))).trans (fM.a (r := 52) (by omega))).trans (fM.a (r := 53) (by omega)) |>.trans (fM.i (by omega)))
set_option maxRecDepth 20000 in
theorem c_Mdoes {J : mJ} (X : mRules J) {I A : mI} {B : mB} {w f : Nat} {R : mR} {a : Ac} (M : MR a w I A B) (G : Gd a) {k : Nat} (hk : k < 120) {r : Rw} (hr : WRow w A k r) (O : Ok a r) {xk : Int32} (exk : xk = nI k) (h : qM (zdo a r) w f I A B R (some (.int (zrv a r)))) : J n_M_does 0 [.ref 43, .int xk, .float 0, .float 0, .float 0, .float 0, .float 0] [] I A B (pk w f) R := by
  have V := G.V
  have hP40 := V.P40
  have hN8 := V.N8
  have hn4 := V.n4
  have hnt4 := V.nt4
  have hcN := V.cN
  have hPN := Nat.mul_le_mul hP40 hN8
  have hD31 : a.P * a.N < 2 ^ 31 := by omega
  have hN31 : a.N < 2 ^ 31 := by omega
  have hn31 : a.n < 2 ^ 31 := by omega
  have hnt31 : a.nt < 2 ^ 31 := by omega
  subst exk
  obtain ⟨kd, x, y, z⟩ := r
  obtain ⟨hr0, hr1, hr2, hr3⟩ := hr
  have hn9 := O.n0
  have hk6 : kd ≤ 6 := O.k6
  have e0 : (6 : Int32) + 5 * nI k = nI (6 + 5 * k) := by rw [show (5 : Int32) * nI k = nI (5 * k) from pk_mul 5 k]; exact nI_add 6 (5 * k)
  have e1 : (6 : Int32) + 5 * nI k + 1 = nI (6 + 5 * k + 1) := by rw [e0]; exact nI_add _ 1
  have e2 : (6 : Int32) + 5 * nI k + 2 = nI (6 + 5 * k + 2) := by rw [e0]; exact nI_add _ 2
  have e3 : (6 : Int32) + 5 * nI k + 3 = nI (6 + 5 * k + 3) := by rw [e0]; exact nI_add _ 3
  have ha0 : A w ((6 : Int32) + 5 * nI k).toNatClampNeg = nI kd := by rw [e0, cl (by omega)]; exact hr0
  have ha1 : A w ((6 : Int32) + 5 * nI k + 1).toNatClampNeg = nI x := by rw [e1, cl (by omega)]; exact hr1
  have ha2 : A w ((6 : Int32) + 5 * nI k + 2).toNatClampNeg = zN y := by rw [e2, cl (by omega)]; exact hr2
  have ha3 : A w ((6 : Int32) + 5 * nI k + 3).toNatClampNeg = nI z := by rw [e3, cl (by omega)]; exact hr3
  have hy9 : kd = 3 → -99999 ≤ y ∧ y ≤ 99999 := fun e => (O.e0 e).2
  refine X 200 _ _ _ _ _ _ _ _ _ ?_
  refine Exists.intro _ (And.intro M.hw (And.intro (by first | (rw [e1]; exact vin (by omega) (by omega)) | (rw [e2]; exact vin (by omega) (by omega)) | (rw [e3]; exact vin (by omega) (by omega)) | (rw [e0]; exact vin (by omega) (by omega)) | (have hO := (O.t0 rfl).1; rw [M.hnt]; exact vin (by omega) (by omega)) | exact vin (show zpe a x < 500 by omega) (by omega)) ?_))
  refine Exists.intro _ (And.intro M.hw (And.intro (by first | (rw [e1]; exact vin (by omega) (by omega)) | (rw [e2]; exact vin (by omega) (by omega)) | (rw [e3]; exact vin (by omega) (by omega)) | (rw [e0]; exact vin (by omega) (by omega)) | (have hO := (O.t0 rfl).1; rw [M.hnt]; exact vin (by omega) (by omega)) | exact vin (show zpe a x < 500 by omega) (by omega)) ?_))
  refine Exists.intro _ (And.intro M.hw (And.intro (by first | (rw [e1]; exact vin (by omega) (by omega)) | (rw [e2]; exact vin (by omega) (by omega)) | (rw [e3]; exact vin (by omega) (by omega)) | (rw [e0]; exact vin (by omega) (by omega)) | (have hO := (O.t0 rfl).1; rw [M.hnt]; exact vin (by omega) (by omega)) | exact vin (show zpe a x < 500 by omega) (by omega)) ?_))
  refine Exists.intro _ (And.intro M.hw (And.intro (by first | (rw [e1]; exact vin (by omega) (by omega)) | (rw [e2]; exact vin (by omega) (by omega)) | (rw [e3]; exact vin (by omega) (by omega)) | (rw [e0]; exact vin (by omega) (by omega)) | (have hO := (O.t0 rfl).1; rw [M.hnt]; exact vin (by omega) (by omega)) | exact vin (show zpe a x < 500 by omega) (by omega)) ?_))
  refine And.intro (fun q1 => ?_) (fun q1 => ?_)
  · rw [ha0] at q1
    have ekd : kd = 0 := (nI_eq (b := 0) (by omega) (by omega)).mp q1
    subst ekd
    refine Exists.intro _ (And.intro rfl (And.intro (by first | (rw [e1]; exact vin (by omega) (by omega)) | (rw [e2]; exact vin (by omega) (by omega)) | (rw [e3]; exact vin (by omega) (by omega)) | (rw [e0]; exact vin (by omega) (by omega)) | (have hO := (O.t0 rfl).1; rw [M.hnt]; exact vin (by omega) (by omega)) | exact vin (show zpe a x < 500 by omega) (by omega)) ?_))
    refine Exists.intro _ (And.intro rfl (And.intro (by first | (rw [e1]; exact vin (by omega) (by omega)) | (rw [e2]; exact vin (by omega) (by omega)) | (rw [e3]; exact vin (by omega) (by omega)) | (rw [e0]; exact vin (by omega) (by omega)) | (have hO := (O.t0 rfl).1; rw [M.hnt]; exact vin (by omega) (by omega)) | exact vin (show zpe a x < 500 by omega) (by omega)) ?_))
    have hO := O.t0 rfl
    exact h _ _ _ (M.dT hO.2.2.1 (by rw [M.hnt]; exact cl (by omega)) (by rw [M.hnt]; exact cl (by omega)) ha1 ha2 (by rw [M.hnt]; exact nI_1 _)) (((fM.refl I A B).trans (fM.a (r := 48) (by omega))).trans (fM.a (r := 49) (by omega)) |>.trans (fM.i (by omega)))
  refine And.intro (fun q2 => ?_) (fun q2 => ?_)
  · rw [ha0] at q2
    have ekd : kd = 1 := (nI_eq (b := 1) (by omega) (by omega)).mp q2
    subst ekd
    refine Exists.intro _ (And.intro rfl (And.intro (vlit rfl) ?_))
    refine Exists.intro _ (And.intro rfl (And.intro (vlit rfl) ?_))
    refine Exists.intro _ (And.intro rfl (And.intro (vlit rfl) ?_))
    refine And.intro (Or.inr rfl) ?_
    have hO := O.d0 rfl
    exact h _ _ _ (M.dD hO.2.1 ha1 ha2 ha3) ((((fM.refl I A B).trans (fM.a (r := 50) (by omega))).trans (fM.a (r := 50) (by omega))).trans (fM.a (r := 50) (by omega)) |>.trans (fM.i (by omega)))
  refine And.intro (fun q3 => ?_) (fun q3 => ?_)
  · rw [ha0] at q3
    have ekd : kd = 2 := (nI_eq (b := 2) (by omega) (by omega)).mp q3
    subst ekd
    refine c_Mchanges X M V (x := x) (y := y) (z := z) (by have := (O.c0 rfl).1; omega) (O.c0 rfl).2.2.1 ha1 ha2 ha3 (fun I1 A1 B1 M1 g1 => ?_)
    have f1 := ((fM.refl I A B)).trans g1
    have h2 := h _ _ _ M1 f1
    have e9 : zrv a (2, x, y, z) = I1 43 13 := M1.hnc.symm
    rw [e9] at h2
    exact h2
  refine And.intro (fun q4 => ?_) (fun q4 => ?_)
  · rw [ha0] at q4
    have ekd : kd = 3 := (nI_eq (b := 3) (by omega) (by omega)).mp q4
    subst ekd
    have hy9 := hy9 rfl
    refine c_Menters X M V (by omega) (s := 0) (v := x) (m := y) rfl (by rw [ha2]; exact zn_l (by omega) (by omega)) ha1 (fun I1 A1 B1 M1 g1 => ?_)
    have f1 := ((fM.refl I A B)).trans g1
    have h2 := h _ _ _ M1 f1
    have e9 : zrv a (3, x, y, z) = I1 43 19 - 1 := by rw [M1.hn]; exact (nI_pred a.n).symm
    rw [e9] at h2
    exact h2
  refine And.intro (fun q5 => ?_) (fun q5 => ?_)
  · rw [ha0] at q5
    have ekd : kd = 4 := (nI_eq (b := 4) (by omega) (by omega)).mp q5
    subst ekd
    refine c_Mcloses X M V (by omega) (O.op (by show 3 ≤ 4; omega)) (fun I1 A1 B1 M1 g1 => ?_)
    have f1 := ((fM.refl I A B)).trans g1
    have h2 := h _ _ _ M1 f1
    have e9 : zrv a (4, x, y, z) = I1 43 20 - 1 := by rw [M1.hc]; exact (nI_pred a.c).symm
    rw [e9] at h2
    exact h2
  refine And.intro (fun q6 => ?_) (fun q6 => ?_)
  · rw [ha0] at q6
    have ekd : kd = 5 := (nI_eq (b := 5) (by omega) (by omega)).mp q6
    subst ekd
    refine c_Mreruns X M V (fun k hk => (gd_rr G (by omega) k hk).V) (fun k hk => gd_z (gd_rr G (by omega) k (by omega)) (by omega)) (by omega) (fun I1 A1 B1 M1 g1 => ?_)
    have f1 := ((fM.refl I A B)).trans g1
    exact h _ _ _ M1 f1
  rw [ha0] at q1
  have n0 : ¬ kd = 0 := fun z => q1 (by rw [z]; rfl)
  rw [ha0] at q2
  have n1 : ¬ kd = 1 := fun z => q2 (by rw [z]; rfl)
  rw [ha0] at q3
  have n2 : ¬ kd = 2 := fun z => q3 (by rw [z]; rfl)
  rw [ha0] at q4
  have n3 : ¬ kd = 3 := fun z => q4 (by rw [z]; rfl)
  rw [ha0] at q5
  have n4 : ¬ kd = 4 := fun z => q5 (by rw [z]; rfl)
  rw [ha0] at q6
  have n5 : ¬ kd = 5 := fun z => q6 (by rw [z]; rfl)
  have ekd : kd = 6 := by omega
  subst ekd
  have hrx : x < ct (fun j => decide (a.so j = 0)) a.n := O.r0 rfl
  have hz1 : zpe a x < a.n := (zpe_i hrx).1
  refine c_MpaidEntry X M V hrx ha1 ?_
  refine Exists.intro _ (And.intro rfl (And.intro (by first | (rw [e1]; exact vin (by omega) (by omega)) | (rw [e2]; exact vin (by omega) (by omega)) | (rw [e3]; exact vin (by omega) (by omega)) | (rw [e0]; exact vin (by omega) (by omega)) | (have hO := (O.t0 rfl).1; rw [M.hnt]; exact vin (by omega) (by omega)) | exact vin (show zpe a x < 500 by omega) (by omega)) ?_))
  refine Exists.intro _ (And.intro rfl (And.intro (by first | (rw [e1]; exact vin (by omega) (by omega)) | (rw [e2]; exact vin (by omega) (by omega)) | (rw [e3]; exact vin (by omega) (by omega)) | (rw [e0]; exact vin (by omega) (by omega)) | (have hO := (O.t0 rfl).1; rw [M.hnt]; exact vin (by omega) (by omega)) | exact vin (show zpe a x < 500 by omega) (by omega)) ?_))
  refine c_Menters X M V (by omega) (s := 3) (v := a.va (zpe a x)) (m := -a.am (zpe a x)) rfl (by rw [cl (by omega), M.ham _ hz1, zL_neg]) (by rw [cl (by omega)]; exact M.hva _ hz1) (fun I1 A1 B1 M1 g1 => ?_)
  have f1 := ((fM.refl I A B)).trans g1
  have h2 := h _ _ _ M1 f1
  have e9 : zrv a (6, x, y, z) = I1 43 19 - 1 := by rw [M1.hn]; exact (nI_pred a.n).symm
  rw [e9] at h2
  exact h2
set_option maxRecDepth 20000 in
theorem c_Mbegins {J : mJ} (X : mRules J) {I A : mI} {B : mB} {w f : Nat} {R : mR} (h : ∀ (Av : mI), (∀ r, r ≠ 50 → Av r = A r) → (∀ k, k < 3 → Av 50 k = 0) → R none (up2 (up2 (up2 (up2 (up2 I 43 7 0) 43 9 0) 43 13 0) 43 19 0) 43 20 0) Av B (pk w f)) : J n_M_begins 0 [.ref 43, .float 0] [] I A B (pk w f) R := by
  have G : ∀ i, i ≤ 3 → ∀ (x : Int32) (Av : mI), x = nI i → (∀ r, r ≠ 50 → Av r = A r) → (∀ k, k < i → Av 50 k = 0) → J n_M_begins 12 [.ref 43, .int x] [] (up2 (up2 I 43 7 0) 43 9 0) Av B (pk w f) R := by
    refine lpz (fun i => ∀ (x : Int32) (Av : mI), x = nI i → (∀ r, r ≠ 50 → Av r = A r) → (∀ k, k < i → Av 50 k = 0) → J n_M_begins 12 [.ref 43, .int x] [] (up2 (up2 I 43 7 0) 43 9 0) Av B (pk w f) R) (fun i hi ih => ?_)
    intro x Av ex hv hz
    subst ex
    refine X 200 _ _ _ _ _ _ _ _ _ ?_
    refine And.intro (fun q1 => ?_) (fun q1 => ?_)
    · have e : i = 3 := by have := (nI_leI (a := 3) (by omega) (by omega)).mp q1; omega
      subst e
      exact h Av hv hz
    · have hl : i < 3 := Nat.lt_of_not_le (fun z => q1 (nI_le (a := 3) z (by omega)))
      have hb31 : (nI i).toNatClampNeg = i := cl (by omega)
      refine Exists.intro _ (And.intro rfl (And.intro (vin (by omega) (by omega)) ?_))
      exact ih hl _ _ (nI_1 i) (fun r hr => by rw [up2_r hr]; exact hv r hr) (fun k hk => by
        rw [hb31]
        by_cases e : k = i
        · subst e
          exact up2_s
        · rw [up2_m e]
          exact hz k (by omega))
  refine X 200 _ _ _ _ _ _ _ _ _ ?_
  refine And.intro (Or.inl rfl) ?_
  exact G 0 (Nat.zero_le _) _ _ rfl (fun _ _ => rfl) (fun k hk => absurd hk (Nat.not_lt_zero k))
set_option maxRecDepth 20000 in
theorem c_MdoesAll {J : mJ} (X : mRules J) {I A : mI} {B : mB} {w f : Nat} {R : mR} {a : Ac} (M : MR a w I A B) (n1 : a.ti = none) (n2 : a.fo = none) {m : Nat} {rw : Nat → Rw} (hm1 : m ≤ 120) (hm5 : A w 5 = nI m) (hrw : ∀ k, k < m → WRow w A k (rw k)) (hok : ∀ k, k < m → Ok (zrn a.P a.N a.K rw k) (rw k)) (hgd : ∀ k, k ≤ m → Gd (zrn a.P a.N a.K rw k)) (h : qM (zrn a.P a.N a.K rw m) w f I A B R none) : J n_M_doesAll 0 [.ref 43, .float 0] [] I A B (pk w f) R := by
  have h5 := M.w5
  have hAw : ∀ {I' A' : mI} {B' : mB}, fM I A B I' A' B' → A' w = A w := fun g => g.row w (by omega)
  have hrow : ∀ (A' : mI) k, k < m → A' w = A w → WRow w A' k (rw k) := fun A' k hk e => by unfold WRow; rw [e]; exact hrw k hk
  have G : ∀ i, i ≤ m → ∀ (x : Int32) (Iv : mI) (Av : mI) (Bv : mB), x = nI i → MR (zrn a.P a.N a.K rw i) w Iv Av Bv → fM I A B Iv Av Bv → J n_M_doesAll 6 [.ref 43, .int x] [] Iv Av Bv (pk w f) R := by
    refine lpz (fun i => ∀ (x : Int32) (Iv : mI) (Av : mI) (Bv : mB), x = nI i → MR (zrn a.P a.N a.K rw i) w Iv Av Bv → fM I A B Iv Av Bv → J n_M_doesAll 6 [.ref 43, .int x] [] Iv Av Bv (pk w f) R) (fun i hi ih => ?_)
    intro x Iv Av Bv ex Mv fv
    subst ex
    refine X 200 _ _ _ _ _ _ _ _ _ ?_
    refine Exists.intro _ (And.intro M.hw (And.intro (vlit rfl) ?_))
    refine And.intro (fun q1 => ?_) (fun q1 => ?_)
    · have q0 : Av w 5 ≤ nI i := q1
      rw [congrFun (hAw fv) 5, hm5] at q0
      have e := lpx hi (by omega) q0
      subst e
      exact h _ _ _ Mv fv
    · have q0 : ¬ Av w 5 ≤ nI i := q1
      rw [congrFun (hAw fv) 5, hm5] at q0
      have hl := lpc hi (by omega) q0
      refine c_Mdoes X Mv (hgd i hi) (k := i) (by omega) (hrow Av i hl (hAw fv)) (hok i hl) rfl (fun I1 A1 B1 M1 g1 => ?_)
      have f1 := (fv).trans g1
      exact ih hl _ _ _ _ (nI_1 i) M1 f1
  refine X 200 _ _ _ _ _ _ _ _ _ ?_
  refine c_Mbegins X (fun Av hv hz => ?_)
  have f0 : fM I A B (up2 (up2 (up2 (up2 (up2 I 43 7 0) 43 9 0) 43 13 0) 43 19 0) 43 20 0) Av B := by
    refine ⟨fun k hk => ⟨?_, hv k (by omega), rfl⟩, fun j a1 a2 a3 a4 a5 a6 a7 a8 => ?_, fun r hr => hv r (by omega)⟩
    · rw [up2_r (by omega), up2_r (by omega), up2_r (by omega), up2_r (by omega), up2_r (by omega)]
    · rw [up2_m a5, up2_m a4, up2_m a3, up2_m a2, up2_m a1]
  exact G 0 (Nat.zero_le _) _ _ _ _ rfl (M.bg n1 n2 (hv w (by omega)) hz (by rw [up2_m (by decide), up2_m (by decide), up2_m (by decide), up2_m (by decide), up2_s]) (by rw [up2_m (by decide), up2_m (by decide), up2_s]) (by rw [up2_m (by decide), up2_s]) up2_s (by rw [up2_m (by decide), up2_m (by decide), up2_m (by decide), up2_m (by decide), up2_m (by decide)]) (by rw [up2_m (by decide), up2_m (by decide), up2_m (by decide), up2_m (by decide), up2_m (by decide)])) f0
