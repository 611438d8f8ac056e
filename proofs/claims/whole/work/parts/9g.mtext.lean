/-! contracts of the reference: a text (written by wip/whole/gm19.py) -/
set_option maxRecDepth 20000 in
theorem c_MdoesD {J : mJ} (X : mRules J) {I A : mI} {B : mB} {w f : Nat} {R : mR} {a : Ac} (M : MR a w I A B) (G : Gd a) {k : Nat} (hk : k < 120) {r : Rw} (hr : WRow w A k r) (O : Ok a r) (hk1 : r.1 = 1) {xk : Int32} (exk : xk = nI k) (h : ∀ A', MR (zdo a r) w (up2 I 43 9 1) A' B → (∀ q, q ≠ 50 → A' q = A q) → R (some (.int 0)) (up2 I 43 9 1) A' B (pk w f)) : J n_M_does 0 [.ref 43, .int xk, .float 0, .float 0, .float 0, .float 0, .float 0] [] I A B (pk w f) R := by
  have V := G.V
  have hP40 := V.P40
  have hN8 := V.N8
  have hn4 := V.n4
  have hnt4 := V.nt4
  have hcN := V.cN
  have hPN := Nat.mul_le_mul hP40 hN8
  have hD31 : a.P * a.N < 2 ^ 31 := by omega
  have hN31 : a.N < 2 ^ 31 := by omega
  have hn31 : a.n < 2 ^ 31 := by omega
  have hnt31 : a.nt < 2 ^ 31 := by omega
  subst exk
  obtain ⟨kd, x, y, z⟩ := r
  obtain ⟨hr0, hr1, hr2, hr3⟩ := hr
  have hn9 := O.n0
  have hk6 : kd ≤ 6 := O.k6
  have e0 : (6 : Int32) + 5 * nI k = nI (6 + 5 * k) := by rw [show (5 : Int32) * nI k = nI (5 * k) from pk_mul 5 k]; exact nI_add 6 (5 * k)
  have e1 : (6 : Int32) + 5 * nI k + 1 = nI (6 + 5 * k + 1) := by rw [e0]; exact nI_add _ 1
  have e2 : (6 : Int32) + 5 * nI k + 2 = nI (6 + 5 * k + 2) := by rw [e0]; exact nI_add _ 2
  have e3 : (6 : Int32) + 5 * nI k + 3 = nI (6 + 5 * k + 3) := by rw [e0]; exact nI_add _ 3
  have ha0 : A w ((6 : Int32) + 5 * nI k).toNatClampNeg = nI kd := by rw [e0, cl (by omega)]; exact hr0
  have ha1 : A w ((6 : Int32) + 5 * nI k + 1).toNatClampNeg = nI x := by rw [e1, cl (by omega)]; exact hr1
  have ha2 : A w ((6 : Int32) + 5 * nI k + 2).toNatClampNeg = zN y := by rw [e2, cl (by omega)]; exact hr2
  have ha3 : A w ((6 : Int32) + 5 * nI k + 3).toNatClampNeg = nI z := by rw [e3, cl (by omega)]; exact hr3
  have hy9 : kd = 3 → -99999 ≤ y ∧ y ≤ 99999 := fun e => (O.e0 e).2
  refine X 200 _ _ _ _ _ _ _ _ _ ?_
  refine Exists.intro _ (And.intro M.hw (And.intro (by first | (rw [e1]; exact vin (by omega) (by omega)) | (rw [e2]; exact vin (by omega) (by omega)) | (rw [e3]; exact vin (by omega) (by omega)) | (rw [e0]; exact vin (by omega) (by omega))) ?_))
  refine Exists.intro _ (And.intro M.hw (And.intro (by first | (rw [e1]; exact vin (by omega) (by omega)) | (rw [e2]; exact vin (by omega) (by omega)) | (rw [e3]; exact vin (by omega) (by omega)) | (rw [e0]; exact vin (by omega) (by omega))) ?_))
  refine Exists.intro _ (And.intro M.hw (And.intro (by first | (rw [e1]; exact vin (by omega) (by omega)) | (rw [e2]; exact vin (by omega) (by omega)) | (rw [e3]; exact vin (by omega) (by omega)) | (rw [e0]; exact vin (by omega) (by omega))) ?_))
  refine Exists.intro _ (And.intro M.hw (And.intro (by first | (rw [e1]; exact vin (by omega) (by omega)) | (rw [e2]; exact vin (by omega) (by omega)) | (rw [e3]; exact vin (by omega) (by omega)) | (rw [e0]; exact vin (by omega) (by omega))) ?_))
  refine And.intro (fun q1 => ?_) (fun q1 => ?_)
  · rw [ha0] at q1
    have ekd : kd = 0 := (nI_eq (b := 0) (by omega) (by omega)).mp q1
    exact absurd (ekd.symm.trans hk1) (by decide)
  refine And.intro (fun q2 => ?_) (fun q2 => ?_)
  · rw [ha0] at q2
    have ekd : kd = 1 := (nI_eq (b := 1) (by omega) (by omega)).mp q2
    subst ekd
    refine Exists.intro _ (And.intro rfl (And.intro (vlit rfl) ?_))
    refine Exists.intro _ (And.intro rfl (And.intro (vlit rfl) ?_))
    refine Exists.intro _ (And.intro rfl (And.intro (vlit rfl) ?_))
    refine And.intro (Or.inr rfl) ?_
    have hO := O.d0 rfl
    exact h _ (M.dD hO.2.1 ha1 ha2 ha3) (fun q hq => by rw [up2_r hq, up2_r hq, up2_r hq])
  refine And.intro (fun q3 => ?_) (fun q3 => ?_)
  · rw [ha0] at q3
    have ekd : kd = 2 := (nI_eq (b := 2) (by omega) (by omega)).mp q3
    exact absurd (ekd.symm.trans hk1) (by decide)
  refine And.intro (fun q4 => ?_) (fun q4 => ?_)
  · rw [ha0] at q4
    have ekd : kd = 3 := (nI_eq (b := 3) (by omega) (by omega)).mp q4
    exact absurd (ekd.symm.trans hk1) (by decide)
  refine And.intro (fun q5 => ?_) (fun q5 => ?_)
  · rw [ha0] at q5
    have ekd : kd = 4 := (nI_eq (b := 4) (by omega) (by omega)).mp q5
    exact absurd (ekd.symm.trans hk1) (by decide)
  refine And.intro (fun q6 => ?_) (fun q6 => ?_)
  · rw [ha0] at q6
    have ekd : kd = 5 := (nI_eq (b := 5) (by omega) (by omega)).mp q6
    exact absurd (ekd.symm.trans hk1) (by decide)
  rw [ha0] at q2
  exact absurd (show nI kd = 1 by rw [show kd = 1 from hk1]; rfl) q2
set_option maxRecDepth 20000 in
theorem c_MrdFirst {J : mJ} (X : mRules J) {I A : mI} {B : mB} {w f : Nat} {R : mR} {t : Nat → Nat} {n : Nat} (T : TpR 60 A t n) (h5 : w = 44 ∨ w = 45) (hww : ash w = some (0, 606)) (hn0 : I 43 28 = nI n) (K0 : MT I t n 0) (hf0 : I 43 33 = 0) (h : qF w f I A B t n R (pF t n)) : J n_M_readFirst 0 [.ref 43] [] I A B (pk w f) R := by
  have hp0 : 0 ≤ n := Nat.zero_le n
  have h60 : w ≠ 60 := by omega
  unfold pF at h
  refine X 200 _ _ _ _ _ _ _ _ _ ?_
  refine c_Mpass0 X T hn0 hp0 K0 hf0 (fun zw I1 g1 K1 => ?_) (fun zw => ?_)
  · have hp1 := (tE_b (t := t) hp0).2.1
    have hn1 : I1 43 28 = nI n := (g1.2 28 (by decide) (by decide) (by decide) (by decide)).trans hn0
    have hf1 : I1 43 33 = 0 := (g1.2 33 (by decide) (by decide) (by decide) (by decide)).trans hf0
    have e1 : tkW t n 0 0 = .ok (tE t n 0) := if_pos zw
    simp only [bnd_ok e1] at h
    refine And.intro (fun _ => ?_) (fun q => absurd q (by decide))
    refine c_Mtold1 X T (by exact hn1) hp1 (by exact K1) (by exact hf1) (lo := 2) (hi := 41) (by decide) (by decide) rfl rfl (fun I2 lo2 hi2 ea2 eb2 g2 K2 => ?_) (fun ea2 => ?_) (fun I2 kf hkf ea2 eb2 g2 K2 => ?_)
    · have hp2 := (tE_b (t := t) (tE_b (t := t) hp1).2.1).2.1
      have hn2 : I2 43 28 = nI n := (g2.2 28 (by decide) (by decide) (by decide) (by decide)).trans hn1
      have hf2 : I2 43 33 = 0 := (g2.2 33 (by decide) (by decide) (by decide) (by decide)).trans hf1
      simp only [bnd_ok ea2, bnd_ok eb2] at h
      refine Exists.intro _ (And.intro hww (And.intro (vlit rfl) ?_))
      refine c_Mtold2 X (T.up h60) (by exact hn2) hp2 (by exact K2) (by exact hf2) (lo := 1) (hi := 9) (by decide) (by decide) rfl rfl (fun I3 lo3 hi3 ea3 eb3 g3 K3 => ?_) (fun ea3 => ?_) (fun I3 kf hkf ea3 eb3 g3 K3 => ?_)
      · have hp3 := (tE_b (t := t) (tE_b (t := t) hp2).2.1).2.1
        have hn3 : I3 43 28 = nI n := (g3.2 28 (by decide) (by decide) (by decide) (by decide)).trans hn2
        have hf3 : I3 43 33 = 0 := (g3.2 33 (by decide) (by decide) (by decide) (by decide)).trans hf2
        simp only [bnd_ok ea3, bnd_ok eb3] at h
        refine Exists.intro _ (And.intro hww (And.intro (vlit rfl) ?_))
        refine c_Mtold3 X ((T.up h60).up h60) (by exact hn3) hp3 (by exact K3) (by exact hf3) (lo := 1) (hi := 5) (by decide) (by decide) rfl rfl (fun I4 lo4 hi4 ea4 eb4 g4 K4 => ?_) (fun ea4 => ?_) (fun I4 kf hkf ea4 eb4 g4 K4 => ?_)
        · have hp4 := (tE_b (t := t) (tE_b (t := t) hp3).2.1).2.1
          have hn4 : I4 43 28 = nI n := (g4.2 28 (by decide) (by decide) (by decide) (by decide)).trans hn3
          have hf4 : I4 43 33 = 0 := (g4.2 33 (by decide) (by decide) (by decide) (by decide)).trans hf3
          simp only [bnd_ok ea4, bnd_ok eb4] at h
          refine Exists.intro _ (And.intro hww (And.intro (vlit rfl) ?_))
          exact h hp4 _ (((((gM.refl I).trans g1).trans g2).trans g3).trans g4) K4
        · have hfx : ¬ nI 1 = 0 := by decide
          simp only [bnd_er ea4] at h
          refine Exists.intro _ (And.intro hww (And.intro (vlit rfl) ?_))
          exact h _ _ (by first | exact hfx | exact nI_3) rfl K3.s (((((gM.refl I).trans g1).trans g2).trans g3).2 21 (by decide) (by decide) (by decide) (by decide)) (((((gM.refl I).trans g1).trans g2).trans g3).2 23 (by decide) (by decide) (by decide) (by decide)) (((((((gM.refl I).trans g1).trans g2).trans g3).y.trans (fY.i (by decide))).trans (fY.i (by decide))).trans (fY.a h5 (fun q hq => by rw [up2_r hq, up2_r hq, up2_r hq])))
        · have hfx := nI_12 hkf
          simp only [bnd_ok ea4, bnd_er eb4] at h
          refine Exists.intro _ (And.intro hww (And.intro (vlit rfl) ?_))
          exact h _ _ (by first | exact hfx | exact nI_3) rfl K4.s ((((((gM.refl I).trans g1).trans g2).trans g3).trans g4).2 21 (by decide) (by decide) (by decide) (by decide)) ((((((gM.refl I).trans g1).trans g2).trans g3).trans g4).2 23 (by decide) (by decide) (by decide) (by decide)) ((((((((gM.refl I).trans g1).trans g2).trans g3).trans g4).y.trans (fY.i (by decide))).trans (fY.i (by decide))).trans (fY.a h5 (fun q hq => by rw [up2_r hq, up2_r hq, up2_r hq])))
      · have hfx : ¬ nI 1 = 0 := by decide
        simp only [bnd_er ea3] at h
        refine Exists.intro _ (And.intro hww (And.intro (vlit rfl) ?_))
        refine c_Mtoldf3 X hfx ?_
        refine Exists.intro _ (And.intro hww (And.intro (vlit rfl) ?_))
        exact h _ _ (by first | exact hfx | exact nI_3) rfl K2.s ((((gM.refl I).trans g1).trans g2).2 21 (by decide) (by decide) (by decide) (by decide)) ((((gM.refl I).trans g1).trans g2).2 23 (by decide) (by decide) (by decide) (by decide)) ((((((gM.refl I).trans g1).trans g2).y.trans (fY.i (by decide))).trans (fY.i (by decide))).trans (fY.a h5 (fun q hq => by rw [up2_r hq, up2_r hq, up2_r hq])))
      · have hfx := nI_12 hkf
        simp only [bnd_ok ea3, bnd_er eb3] at h
        refine Exists.intro _ (And.intro hww (And.intro (vlit rfl) ?_))
        refine c_Mtoldf3 X hfx ?_
        refine Exists.intro _ (And.intro hww (And.intro (vlit rfl) ?_))
        exact h _ _ (by first | exact hfx | exact nI_3) rfl K3.s (((((gM.refl I).trans g1).trans g2).trans g3).2 21 (by decide) (by decide) (by decide) (by decide)) (((((gM.refl I).trans g1).trans g2).trans g3).2 23 (by decide) (by decide) (by decide) (by decide)) (((((((gM.refl I).trans g1).trans g2).trans g3).y.trans (fY.i (by decide))).trans (fY.i (by decide))).trans (fY.a h5 (fun q hq => by rw [up2_r hq, up2_r hq, up2_r hq])))
    · have hfx : ¬ nI 1 = 0 := by decide
      simp only [bnd_er ea2] at h
      refine Exists.intro _ (And.intro hww (And.intro (vlit rfl) ?_))
      refine c_Mtoldf2 X hfx ?_
      refine Exists.intro _ (And.intro hww (And.intro (vlit rfl) ?_))
      refine c_Mtoldf3 X hfx ?_
      refine Exists.intro _ (And.intro hww (And.intro (vlit rfl) ?_))
      exact h _ _ (by first | exact hfx | exact nI_3) rfl K1.s (((gM.refl I).trans g1).2 21 (by decide) (by decide) (by decide) (by decide)) (((gM.refl I).trans g1).2 23 (by decide) (by decide) (by decide) (by decide)) (((((gM.refl I).trans g1).y.trans (fY.i (by decide))).trans (fY.i (by decide))).trans (fY.a h5 (fun q hq => by rw [up2_r hq, up2_r hq, up2_r hq])))
    · have hfx := nI_12 hkf
      simp only [bnd_ok ea2, bnd_er eb2] at h
      refine Exists.intro _ (And.intro hww (And.intro (vlit rfl) ?_))
      refine c_Mtoldf2 X hfx ?_
      refine Exists.intro _ (And.intro hww (And.intro (vlit rfl) ?_))
      refine c_Mtoldf3 X hfx ?_
      refine Exists.intro _ (And.intro hww (And.intro (vlit rfl) ?_))
      exact h _ _ (by first | exact hfx | exact nI_3) rfl K2.s ((((gM.refl I).trans g1).trans g2).2 21 (by decide) (by decide) (by decide) (by decide)) ((((gM.refl I).trans g1).trans g2).2 23 (by decide) (by decide) (by decide) (by decide)) ((((((gM.refl I).trans g1).trans g2).y.trans (fY.i (by decide))).trans (fY.i (by decide))).trans (fY.a h5 (fun q hq => by rw [up2_r hq, up2_r hq, up2_r hq])))
  · have e1 : tkW t n 0 0 = .error (1, tS t n 0) := if_neg (by rw [zw]; decide)
    simp only [bnd_er e1] at h
    refine And.intro (fun q => absurd (by decide) q) (fun _ => ?_)
    refine c_Merrs X (by exact hf0) ?_
    have hfx : ¬ nI 1 = 0 := by decide
    refine c_Mtoldf1 X hfx ?_
    refine Exists.intro _ (And.intro hww (And.intro (vlit rfl) ?_))
    refine c_Mtoldf2 X hfx ?_
    refine Exists.intro _ (And.intro hww (And.intro (vlit rfl) ?_))
    refine c_Mtoldf3 X hfx ?_
    refine Exists.intro _ (And.intro hww (And.intro (vlit rfl) ?_))
    exact h _ _ (by first | exact hfx | exact nI_3) rfl K0.s ((gM.refl I).2 21 (by decide) (by decide) (by decide) (by decide)) ((gM.refl I).2 23 (by decide) (by decide) (by decide) (by decide)) ((((gM.refl I).y.trans (fY.i (by decide))).trans (fY.i (by decide))).trans (fY.a h5 (fun q hq => by rw [up2_r hq, up2_r hq, up2_r hq])))
set_option maxRecDepth 20000 in
theorem c_MrdText0 {J : mJ} (X : mRules J) {I A : mI} {B : mB} {w f : Nat} {R : mR} {t : Nat → Nat} {n : Nat} (T : TpR 60 A t n) (Z : M0 w I A t n) (h : qT w f I A B t n R (lnF t n st0)) : J n_M_readText 0 [.ref 43, .float 0] [] I A B (pk w f) R := by
  have h5 := Z.w5
  have hww := Z.hw
  have h60 : w ≠ 60 := by omega
  refine X 200 _ _ _ _ _ _ _ _ _ ?_
  refine Exists.intro _ (And.intro hww (And.intro (vlit rfl) ?_))
  refine Exists.intro _ (And.intro hww (And.intro (vlit rfl) ?_))
  refine And.intro (fun q1 => ?_) (fun q1 => ?_)
  · exact absurd (Z.z 3 (by decide)) q1 --end
  · refine c_MrdFirst X T Z.w5 Z.hw Z.sz Z.tk Z.fl ?_
    cases hq : pF t n
    · rename_i e1
      intro I1 A1 hfx n2 n3 n4 n5 f1
      refine c_Mgood X (fun z => absurd (n2.symm.trans z) hfx) (fun _ => ?_)
      refine And.intro (fun _ => ?_) (fun q => absurd (by decide) q)
      refine c_Mgood X (fun z => absurd (n2.symm.trans z) hfx) (fun _ => ?_)
      refine And.intro (fun q => absurd (by decide) q) (fun _ => ?_)
      rw [p_F, bnd_er hq] at h
      exact h _ _ _ hfx n2 n3 (n4.trans Z.i21) (n5.trans Z.i23) f1
    · rename_i x1
      obtain ⟨⟨P, N, K⟩, q⟩ := x1
      intro hq9 I1 g1 K1
      have K1 : MT I1 t n q := K1
      have hf1 : I1 43 33 = 0 := (g1.2 33 (by decide) (by decide) (by decide) (by decide)).trans Z.fl
      refine c_Mgood X (fun _ => ?_) (fun z => absurd (by exact hf1) z)
      refine And.intro (fun q => absurd q (by decide)) (fun _ => ?_)
      refine And.intro (fun q2 => ?_) (fun q2 => ?_)
      · have etk : tkS t n q = .ok (tE t n q) := if_pos ((nI_eq (b := 3) (by have := tK_4 (t := t) (n := n) (p := q); omega) (by omega)).mp (K1.k.symm.trans q2))
        refine c_Mgood X (fun _ => ?_) (fun z => absurd (by exact hf1) z)
        refine And.intro (fun _ => ?_) (fun q => absurd q (by decide))
        refine c_Madv X (((T.up h60).up h60).up h60) (by exact ((g1.2 28 (by decide) (by decide) (by decide) (by decide)).trans Z.sz)) (tE_b (t := t) hq9).2.1 K1.e (fun I2 ga2 gb2 K2 => ?_)
        have g2 : gM I1 I2 := ⟨ga2, gb2⟩
        refine Exists.intro _ (And.intro hww (And.intro (vlit rfl) ?_))
        refine And.intro (fun q3 => ?_) (fun q3 => ?_)
        · refine Exists.intro _ (And.intro hww (And.intro (vlit rfl) ?_))
          refine Exists.intro _ (And.intro hww (And.intro (vlit rfl) ?_))
          rw [p_F, bnd_ok hq] at h
          simp only [bnd_ok etk] at h
          exact h _ _ _ (Z.st (P := P) (N := N) (K := K) (fun j hj => (g2.2 j (by omega) (by omega) (by omega) (by omega)).trans (g1.2 j (by omega) (by omega) (by omega) (by omega))) K2 (by show up2 (up2 (up2 (up2 A w 0 (nI P)) w 1 (nI N)) w 2 (nI K)) w 3 (up2 (up2 (up2 A w 0 (nI P)) w 1 (nI N)) w 2 (nI K) w 3 + 1) = _; rw [up2_m (show 3 ≠ 2 by decide), up2_m (show 3 ≠ 1 by decide), up2_m (show 3 ≠ 0 by decide), Z.z 3 (by decide)]; rfl)) ((g1.trans g2).y.trans (fY.a Z.w5 (fun q hq => by rw [up2_r hq, up2_r hq, up2_r hq, up2_r hq])))
        · rw [show up2 (up2 (up2 A w 0 (nI P)) w 1 (nI N)) w 2 (nI K) w (Int32.toNatClampNeg 5) = A w 5 from by rw [show Int32.toNatClampNeg 5 = 5 from rfl, up2_m (show 5 ≠ 2 by decide), up2_m (show 5 ≠ 1 by decide), up2_m (show 5 ≠ 0 by decide)]] at q3
          exact absurd (Int32.le_refl _) q3 --end
      · have etk : tkS t n q = .error (1, tS t n q) := if_neg (fun z => q2 (by rw [K1.k, z]; rfl))
        refine c_Merrs X (by exact hf1) ?_
        have hfx : ¬ nI 1 = 0 := by decide
        refine c_Mgood X (fun z => absurd z hfx) (fun _ => ?_)
        refine And.intro (fun q => absurd (by decide) q) (fun _ => ?_)
        rw [p_F, bnd_ok hq] at h
        simp only [bnd_er etk] at h
        exact h _ _ _ hfx rfl K1.s ((g1.2 21 (by decide) (by decide) (by decide) (by decide)).trans Z.i21) ((g1.2 23 (by decide) (by decide) (by decide) (by decide)).trans Z.i23) (((g1.y.trans (fY.i (by decide))).trans (fY.i (by decide))).trans (fY.a Z.w5 (fun q hq => by rw [up2_r hq, up2_r hq, up2_r hq])))
set_option maxRecDepth 20000 in
theorem c_MrdText1 {J : mJ} (X : mRules J) {I A : mI} {B : mB} {w f : Nat} {R : mR} {t : Nat → Nat} {n : Nat} (T : TpR 60 A t n) {s : St} (S : MS w I A B t n s) (V : PV n s) (hL : 0 < s.L) (h : qT w f I A B t n R (lnR t n s)) : J n_M_readText 0 [.ref 43, .float 0] [] I A B (pk w f) R := by
  have h5 := S.mr.w5
  have hww := S.mr.hw
  have hsl := V.l hL
  have hm61 := pv_61 V
  have G := (ack_i V hL).G
  refine X 200 _ _ _ _ _ _ _ _ _ ?_
  refine Exists.intro _ (And.intro hww (And.intro (vlit rfl) ?_))
  refine Exists.intro _ (And.intro hww (And.intro (vlit rfl) ?_))
  refine And.intro (fun q1 => ?_) (fun q1 => ?_)
  · refine c_MrdLine X T S V hL ?_
    cases hq : pR t n s
    · rename_i e1
      intro I1 A1 hfx n2 n3 n4 n5 f1
      refine c_Mgood X (fun z => absurd (n2.symm.trans z) hfx) (fun _ => ?_)
      refine And.intro (fun _ => ?_) (fun q => absurd (by decide) q)
      refine c_Mgood X (fun z => absurd (n2.symm.trans z) hfx) (fun _ => ?_)
      refine And.intro (fun q => absurd (by decide) q) (fun _ => ?_)
      rw [p_R, bnd_er hq] at h
      exact h _ _ _ hfx n2 n3 (n4.trans S.i2.1) (n5.trans S.i2.2) f1
    · rename_i x1
      obtain ⟨r, q⟩ := x1
      intro I1 A1 S1 f1
      have hq9 : q ≤ n := S1.q
      have K1 : MT I1 t n q := S1.tk
      have hf1 : I1 43 33 = 0 := S1.fl
      refine c_Mgood X (fun _ => ?_) (fun z => absurd (by exact hf1) z)
      refine And.intro (fun q => absurd q (by decide)) (fun _ => ?_)
      refine And.intro (fun q2 => ?_) (fun q2 => ?_)
      · have etk : tkS t n q = .ok (tE t n q) := if_pos ((nI_eq (b := 3) (by have := tK_4 (t := t) (n := n) (p := q); omega) (by omega)).mp (K1.k.symm.trans q2))
        refine c_Mgood X (fun _ => ?_) (fun z => absurd (by exact hf1) z)
        refine And.intro (fun _ => ?_) (fun q => absurd q (by decide))
        refine c_Madv X (T.fr (f1.row 60 (by omega) (by omega))) (by exact S1.sz) (tE_b (t := t) hq9).2.1 K1.e (fun I2 ga2 gb2 K2 => ?_)
        have g2 : gM I1 I2 := ⟨ga2, gb2⟩
        refine Exists.intro _ (And.intro hww (And.intro (vlit rfl) ?_))
        refine And.intro (fun q3 => ?_) (fun q3 => ?_)
        · have q9 : A1 w 5 ≤ A w 5 := q3
          rw [S1.wd.h5, S.wd.h5] at q9
          exact absurd ((nI_leI (by omega) (by omega)).mp q9) (by omega) --end
        · have M2 : MR (ack s) w I2 A1 B := S1.mr.gm (fun j hj => g2.2 j (by omega) (by omega) (by omega) (by omega))
          have eln : lnA t n s = .ok (adr s r (tE t n q)) := by unfold lnA; rw [if_neg (by omega), p_R, bnd_ok hq]; show bnd (tkS t n q) _ = _; rw [bnd_ok etk]
          have V2 := (pv_A V eln).1
          have O9 := ack_ok V hL V2
          by_cases h1 : r.1 = 1
          · refine c_MdoesD X M2 G (k := s.m) (by omega) (by have := S1.wd.hr s.m (by omega); rw [zup_s] at this; exact this) O9 h1 S.wd.h5 (fun A3 M3 hA3 => ?_)
            refine Exists.intro _ (And.intro hww (And.intro (vlit rfl) ?_))
            refine Exists.intro _ (And.intro hww (And.intro (vlit rfl) ?_))
            rw [p_R, bnd_ok hq] at h
            simp only [fn2, fin, bnd_ok etk] at h
            exact h _ _ _ (S1.dn (p := tE t n q) ((g2.2 33 (by decide) (by decide) (by decide) (by decide)).trans S1.fl) ((g2.2 34 (by decide) (by decide) (by decide) (by decide)).trans S1.pl) K2 ((g2.2 28 (by decide) (by decide) (by decide) (by decide)).trans S1.sz) M3 (hA3 w (by omega)) (if_pos h1).symm (g2.2 35 (by decide) (by decide) (by decide) (by decide)) (g2.2 36 (by decide) (by decide) (by decide) (by decide))) (((f1.trans g2.y).trans (fY.i (by decide))).trans ⟨fun k hk => ⟨rfl, by rw [up2_r (by omega)]; exact hA3 k (by omega), rfl⟩, fun r hn hr => by rw [up2_r hn]; exact hA3 r (by omega), rfl⟩)
          · refine c_Mdoes9 X M2 G (k := s.m) (by omega) (by have := S1.wd.hr s.m (by omega); rw [zup_s] at this; exact this) O9 h1 S.wd.h5 (fun I3 A3 B3 M3 f3 => ?_)
            refine Exists.intro _ (And.intro hww (And.intro (vlit rfl) ?_))
            refine Exists.intro _ (And.intro hww (And.intro (vlit rfl) ?_))
            rw [p_R, bnd_ok hq] at h
            simp only [fn2, fin, bnd_ok etk] at h
            exact h _ _ _ (S1.dn (p := tE t n q) (((f3.1.i43 33 (by decide) (by decide) (by decide) (by decide) (by decide) (by decide) (by decide) (by decide)).trans (g2.2 33 (by decide) (by decide) (by decide) (by decide))).trans S1.fl) (((f3.1.i43 34 (by decide) (by decide) (by decide) (by decide) (by decide) (by decide) (by decide) (by decide)).trans (g2.2 34 (by decide) (by decide) (by decide) (by decide))).trans S1.pl) (MT.mk (((f3.1.i43 31 (by decide) (by decide) (by decide) (by decide) (by decide) (by decide) (by decide) (by decide))).trans K2.k) (((f3.1.i43 30 (by decide) (by decide) (by decide) (by decide) (by decide) (by decide) (by decide) (by decide))).trans K2.s) (((f3.1.i43 29 (by decide) (by decide) (by decide) (by decide) (by decide) (by decide) (by decide) (by decide))).trans K2.e) (fun z => by rw [((f3.1.i43 32 (by decide) (by decide) (by decide) (by decide) (by decide) (by decide) (by decide) (by decide)))]; exact K2.v z)) (((f3.1.i43 28 (by decide) (by decide) (by decide) (by decide) (by decide) (by decide) (by decide) (by decide)).trans (g2.2 28 (by decide) (by decide) (by decide) (by decide))).trans S1.sz) M3 (f3.1.row w (by omega)) (by rw [if_neg h1, f3.2]; exact (g2.2 9 (by decide) (by decide) (by decide) (by decide))) ((f3.1.i43 35 (by decide) (by decide) (by decide) (by decide) (by decide) (by decide) (by decide) (by decide)).trans (g2.2 35 (by decide) (by decide) (by decide) (by decide))) ((f3.1.i43 36 (by decide) (by decide) (by decide) (by decide) (by decide) (by decide) (by decide) (by decide)).trans (g2.2 36 (by decide) (by decide) (by decide) (by decide)))) (((f1.trans g2.y).trans f3.1.y).trans (fY.a h5 (fun q hq => up2_r hq)))
      · have etk : tkS t n q = .error (1, tS t n q) := if_neg (fun z => q2 (by rw [K1.k, z]; rfl))
        refine c_Merrs X (by exact hf1) ?_
        have hfx : ¬ nI 1 = 0 := by decide
        refine c_Mgood X (fun z => absurd z hfx) (fun _ => ?_)
        refine And.intro (fun q => absurd (by decide) q) (fun _ => ?_)
        rw [p_R, bnd_ok hq] at h
        simp only [fn2, fin, bnd_er etk] at h
        have i1 : I1 43 21 = -1 ∧ I1 43 23 = -1 := ⟨by rw [S1.mr.hti, ack_n.1]; rfl, by rw [S1.mr.hfo, ack_n.2]; rfl⟩
        exact h _ _ _ hfx rfl K1.s i1.1 i1.2 ((f1.trans (fY.i (by decide))).trans (fY.i (by decide)))
  · exact absurd ((nI_eq (b := 0) (by omega) (by omega)).mp (S.wd.h3.symm.trans q1)) (by omega) --end
