/-! contracts of the reference: acts (written by wip/whole/gm10.py) -/
set_option maxRecDepth 20000 in
theorem c_Madds {J : mJ} (X : mRules J) {I A : mI} {B : mB} {w f : Nat} {R : mR} (hw : ash w = some (0, 606)) {L T m : Nat} {rw : Nat → Rw} (W : WdR w A L T m rw) (hm : m < 120) {v0 v1 v2 v3 v4 : Int32} (h : R none I (wad A w m v0 v1 v2 v3 v4) B (pk w f)) : J n_M_adds 0 [.ref 43, .int v0, .int v1, .int v2, .int v3, .int v4, .float 0] [] I A B (pk w f) R := by
  have e6 : (6 : Int32) + 5 * A w 5 = nI (6 + 5 * m) := by rw [W.h5, show (5 : Int32) * nI m = nI (5 * m) from pk_mul 5 m]; exact nI_add 6 (5 * m)
  have e1 : (6 : Int32) + 5 * A w 5 + 1 = nI (6 + 5 * m + 1) := by rw [e6]; exact nI_add _ 1
  have e2 : (6 : Int32) + 5 * A w 5 + 2 = nI (6 + 5 * m + 2) := by rw [e6]; exact nI_add _ 2
  have e3 : (6 : Int32) + 5 * A w 5 + 3 = nI (6 + 5 * m + 3) := by rw [e6]; exact nI_add _ 3
  have e4 : (6 : Int32) + 5 * A w 5 + 4 = nI (6 + 5 * m + 4) := by rw [e6]; exact nI_add _ 4
  refine X 200 _ _ _ _ _ _ _ _ _ ?_
  refine Exists.intro _ (And.intro hw (And.intro (vlit rfl) ?_))
  refine Exists.intro _ (And.intro hw (And.intro (show vp_in ((6 : Int32) + 5 * A w 5) 606 by rw [e6]; exact vin (by omega) (by omega)) ?_))
  refine Exists.intro _ (And.intro hw (And.intro (show vp_in ((6 : Int32) + 5 * A w 5 + 1) 606 by rw [e1]; exact vin (by omega) (by omega)) ?_))
  refine Exists.intro _ (And.intro hw (And.intro (show vp_in ((6 : Int32) + 5 * A w 5 + 2) 606 by rw [e2]; exact vin (by omega) (by omega)) ?_))
  refine Exists.intro _ (And.intro hw (And.intro (show vp_in ((6 : Int32) + 5 * A w 5 + 3) 606 by rw [e3]; exact vin (by omega) (by omega)) ?_))
  refine Exists.intro _ (And.intro hw (And.intro (show vp_in ((6 : Int32) + 5 * A w 5 + 4) 606 by rw [e4]; exact vin (by omega) (by omega)) ?_))
  refine Exists.intro _ (And.intro hw (And.intro (vlit rfl) ?_))
  refine Exists.intro _ (And.intro hw (And.intro (vlit rfl) ?_))
  have c6 : ((6 : Int32) + 5 * A w 5).toNatClampNeg = 6 + 5 * m := by rw [e6]; exact cl (by omega)
  have c1 : ((6 : Int32) + 5 * A w 5 + 1).toNatClampNeg = 6 + 5 * m + 1 := by rw [e1]; exact cl (by omega)
  have c2 : ((6 : Int32) + 5 * A w 5 + 2).toNatClampNeg = 6 + 5 * m + 2 := by rw [e2]; exact cl (by omega)
  have c3 : ((6 : Int32) + 5 * A w 5 + 3).toNatClampNeg = 6 + 5 * m + 3 := by rw [e3]; exact cl (by omega)
  have c4 : ((6 : Int32) + 5 * A w 5 + 4).toNatClampNeg = 6 + 5 * m + 4 := by rw [e4]; exact cl (by omega)
  have key : up2 (up2 (up2 (up2 (up2 (up2 A w ((6 : Int32) + 5 * A w 5).toNatClampNeg v0) w ((6 : Int32) + 5 * A w 5 + 1).toNatClampNeg v1) w ((6 : Int32) + 5 * A w 5 + 2).toNatClampNeg v2) w ((6 : Int32) + 5 * A w 5 + 3).toNatClampNeg v3) w ((6 : Int32) + 5 * A w 5 + 4).toNatClampNeg v4) w 5 (up2 (up2 (up2 (up2 (up2 A w ((6 : Int32) + 5 * A w 5).toNatClampNeg v0) w ((6 : Int32) + 5 * A w 5 + 1).toNatClampNeg v1) w ((6 : Int32) + 5 * A w 5 + 2).toNatClampNeg v2) w ((6 : Int32) + 5 * A w 5 + 3).toNatClampNeg v3) w ((6 : Int32) + 5 * A w 5 + 4).toNatClampNeg v4 w 5 + 1) = wad A w m v0 v1 v2 v3 v4 := by
    rw [c6, c1, c2, c3, c4, up2_m (show 5 ≠ 6 + 5 * m + 4 by omega), up2_m (show 5 ≠ 6 + 5 * m + 3 by omega), up2_m (show 5 ≠ 6 + 5 * m + 2 by omega), up2_m (show 5 ≠ 6 + 5 * m + 1 by omega), up2_m (show 5 ≠ 6 + 5 * m by omega), W.h5, nI_1]
    rfl
  rw [← key] at h
  exact h
theorem c_Macts {J : mJ} (X : mRules J) {I A : mI} {B : mB} {w f : Nat} {R : mR} (hw : ash w = some (0, 606)) {L T m : Nat} {rw : Nat → Rw} (W : WdR w A L T m rw) (hT : T ≤ m) (h : R (some (.int (nI (m - T)))) I A B (pk w f)) : J n_M_acts 0 [.ref 43] [] I A B (pk w f) R := by
  refine X 200 _ _ _ _ _ _ _ _ _ ?_
  refine Exists.intro _ (And.intro hw (And.intro (vlit rfl) ?_))
  refine Exists.intro _ (And.intro hw (And.intro (vlit rfl) ?_))
  have e : A w 5 - A w 4 = nI (m - T) := by rw [W.h5, W.h4]; exact pk_sub hT
  rw [← e] at h
  exact h
theorem c_MisFull {J : mJ} (X : mRules J) {I A : mI} {B : mB} {w f : Nat} {R : mR} (hw : ash w = some (0, 606)) {L T m : Nat} {rw : Nat → Rw} (W : WdR w A L T m rw) (hT : T ≤ m) (hm : m ≤ 120) (h1 : m - T = 20 → R (some (.int 1)) I A B (pk w f)) (h0 : ¬ m - T = 20 → R (some (.int 0)) I A B (pk w f)) : J n_M_isFull 0 [.ref 43] [] I A B (pk w f) R := by
  refine X 200 _ _ _ _ _ _ _ _ _ ?_
  refine c_Macts X hw W hT ?_
  refine And.intro (fun q1 => ?_) (fun q1 => ?_)
  · refine And.intro (Or.inl rfl) ?_
    first | exact h1 ((nI_eq (b := 20) (by omega) (by omega)).mp q1) | exact h0 (fun z => q1 (by rw [z]; rfl))
  · refine And.intro (Or.inr rfl) ?_
    first | exact h1 ((nI_eq (b := 20) (by omega) (by omega)).mp q1) | exact h0 (fun z => q1 (by rw [z]; rfl))
set_option maxRecDepth 20000 in
theorem c_Mact {J : mJ} (X : mRules J) {I A : mI} {B : mB} {w f : Nat} {R : mR} {a : Ac} (M : MR a w I A B) (G : Gd a) {L T m : Nat} {rw : Nat → Rw} (W : WdR w A L T m rw) (hm : m < 120) {r : Rw} (O : Ok a r) {v0 v1 v2 v3 : Int32} (h0 : v0 = nI r.1) (h1 : v1 = nI r.2.1) (h2 : v2 = zN r.2.2.1) (h3 : v3 = nI r.2.2.2) (h : ∀ I' A' B', MR (zdo a r) w I' A' B' → WdR w A' L T (m + 1) (zup rw m r) → fA w I A B I' A' B' → R (some (.int (zrv a r))) I' A' B' (pk w f)) : J n_M_act 0 [.ref 43, .int v0, .int v1, .int v2, .int v3] [] I A B (pk w f) R := by
  refine X 200 _ _ _ _ _ _ _ _ _ ?_
  refine c_Madds X M.hw W hm ?_
  have M1 := M.fw (A' := wad A w m v0 v1 v2 v3 0) (fun q hq => wad_q hq) (fun j hj => wad_o (by omega) (by omega))
  have W1 := W.ad (v4 := 0) h0 h1 h2 h3
  refine Exists.intro _ (And.intro M.hw (And.intro (vlit rfl) ?_))
  refine c_Mdoes X M1 G (k := m) (by omega) (by have := W1.hr m (by omega); rw [zup_s] at this; exact this) O (by show wad A w m v0 v1 v2 v3 0 w 5 - 1 = nI m; rw [W1.h5]; exact nI_pred m) (fun I2 A2 B2 M2 g2 => ?_)
  have h5 := M.w5
  have hA2 : A2 w = wad A w m v0 v1 v2 v3 0 w := g2.row w (by omega)
  exact h _ _ _ M2 (W1.fr hA2) ((fA.wd h5).trans g2.fA)
set_option maxRecDepth 20000 in
theorem r_pays {J : mJ} (X : mRules J) {I A : mI} {B : mB} {w f : Nat} {R : mR} {a : Ac} (M : MR a w I A B) (G : Gd a) {L T m : Nat} {rw : Nat → Rw} (W : WdR w A L T m rw) {fl : Bool} (hT : T ≤ m) (hm : m < 100) (hfl : fl = true ↔ m - T = 20) (hn9 : a.n + 9 ≤ 480) {d mm xs : Int32} {sg : Int} (hsg : sg = 1 ∨ sg = -1) (exs : xs = zN sg) (h : qA a w f I A B L T m rw R (ac_pay a fl d mm sg)) : J n_M_pays 0 [.ref 43, .int d, .int mm, .int xs] [] I A B (pk w f) R := by
  have V := G.V
  have hP40 := V.P40
  have hN8 := V.N8
  have hn4 := V.n4
  have hnt4 := V.nt4
  have hcN := V.cN
  have hPN := Nat.mul_le_mul hP40 hN8
  have hD31 : a.P * a.N < 2 ^ 31 := by omega
  have hN31 : a.N < 2 ^ 31 := by omega
  have hn31 : a.n < 2 ^ 31 := by omega
  have hnt31 : a.nt < 2 ^ 31 := by omega
  refine X 200 _ _ _ _ _ _ _ _ _ ?_
  refine c_MisDay X M V (fun d0 hd ed => ?_) (fun zd => ?_)
  · subst ed
    refine And.intro (fun q => absurd q (by decide)) (fun _ => ?_)
    refine c_MinB X 1 99999 (by decide) (by decide) (fun zm => ?_) (fun zm => ?_)
    · refine And.intro (fun _ => ?_) (fun q => absurd q (by decide))
      refine c_MisOpen X M V (fun zo => ?_) (fun zo => ?_)
      · refine And.intro (fun q => absurd q (by decide)) (fun _ => ?_)
        refine c_MisFull X M.hw W hT (by omega) (fun zf => ?_) (fun zf => ?_)
        · have zf2 : ¬ fl = false := fun q => by rw [hfl.mpr zf] at q; cases q
          refine And.intro (fun q => absurd q (by decide)) (fun _ => ?_)
          rw [show ac_pay a fl (nI d0) mm sg = .inl (-5) by unfold ac_pay; rw [ixN_s hd hD31]; exact (if_pos zm).trans (if_neg (fun z => zf2 z.2))] at h
          exact h _ _ _ M (fM.refl _ _ _)
        · have zf2 : fl = false := by cases fl with | false => rfl | true => exact absurd (hfl.mp rfl) zf
          refine And.intro (fun _ => ?_) (fun q => absurd (by decide) q)
          have hmt : 1 ≤ mm.toInt ∧ mm.toInt ≤ 99999 := i32b zm
          have e9 : ac_pay a fl (nI d0) mm sg = .inr (3, d0, sg * mm.toInt, 0) := by unfold ac_pay; rw [ixN_s hd hD31]; exact (if_pos zm).trans (if_pos ⟨zo, zf2⟩)
          rw [e9] at h
          have O9 : Ok a (3, d0, sg * mm.toInt, 0) := ok_E hn9 zo hd (by rcases hsg with q | q <;> rw [q] <;> omega)
          refine c_Mact X M G W (by omega) (r := (3, d0, sg * mm.toInt, 0)) O9 rfl rfl (by rw [exs]; show zN sg * mm = Int32.ofInt (sg * mm.toInt); rw [Int32.ofInt_mul, Int32.ofInt_toInt]) rfl (fun I1 A1 B1 M1 W1 f1 => ?_)
          exact h O9 _ _ _ M1 W1 f1
      · refine And.intro (fun _ => ?_) (fun q => absurd (by decide) q)
        rw [show ac_pay a fl (nI d0) mm sg = .inl (-5) by unfold ac_pay; rw [ixN_s hd hD31]; exact (if_pos zm).trans (if_neg (fun z => zo z.1))] at h
        exact h _ _ _ M (fM.refl _ _ _)
    · refine And.intro (fun q => absurd (by decide) q) (fun _ => ?_)
      rw [show ac_pay a fl (nI d0) mm sg = .inl (-2) by unfold ac_pay; rw [ixN_s hd hD31]; exact if_neg zm] at h
      exact h _ _ _ M (fM.refl _ _ _)
  · refine And.intro (fun _ => ?_) (fun q => absurd (by decide) q)
    rw [show ac_pay a fl d mm sg = .inl (-2) by unfold ac_pay; rw [ixN_n hD31 zd]] at h
    exact h _ _ _ M (fM.refl _ _ _)
theorem r_pay {J : mJ} (X : mRules J) {I A : mI} {B : mB} {w f : Nat} {R : mR} {a : Ac} (M : MR a w I A B) (G : Gd a) {L T m : Nat} {rw : Nat → Rw} (W : WdR w A L T m rw) {fl : Bool} (hT : T ≤ m) (hm : m < 100) (hfl : fl = true ↔ m - T = 20) (hn9 : a.n + 9 ≤ 480) {d mm : Int32} (h : qA a w f I A B L T m rw R (ac_pay a fl d mm 1)) : J n_M_pay 0 [.ref 43, .int d, .int mm] [] I A B (pk w f) R := by
  refine X 200 _ _ _ _ _ _ _ _ _ ?_
  refine r_pays X M G W hT hm hfl hn9 (sg := 1) (by omega) rfl ?_
  exact h
theorem r_draw {J : mJ} (X : mRules J) {I A : mI} {B : mB} {w f : Nat} {R : mR} {a : Ac} (M : MR a w I A B) (G : Gd a) {L T m : Nat} {rw : Nat → Rw} (W : WdR w A L T m rw) {fl : Bool} (hT : T ≤ m) (hm : m < 100) (hfl : fl = true ↔ m - T = 20) (hn9 : a.n + 9 ≤ 480) {d mm : Int32} (h : qA a w f I A B L T m rw R (ac_pay a fl d mm (-1))) : J n_M_draw 0 [.ref 43, .int d, .int mm] [] I A B (pk w f) R := by
  refine X 200 _ _ _ _ _ _ _ _ _ ?_
  refine r_pays X M G W hT hm hfl hn9 (sg := (-1)) (by omega) rfl ?_
  exact h
set_option maxRecDepth 20000 in
theorem r_close {J : mJ} (X : mRules J) {I A : mI} {B : mB} {w f : Nat} {R : mR} {a : Ac} (M : MR a w I A B) (G : Gd a) {L T m : Nat} {rw : Nat → Rw} (W : WdR w A L T m rw) {fl : Bool} (hT : T ≤ m) (hm : m < 100) (hfl : fl = true ↔ m - T = 20) {bk : Bool} (hbk : 0 < A w 3 ↔ bk = true) (hn9 : a.n + 9 ≤ 480) (h : qA a w f I A B L T m rw R (ac_close a bk fl)) : J n_M_close 0 [.ref 43] [] I A B (pk w f) R := by
  have V := G.V
  have hP40 := V.P40
  have hN8 := V.N8
  have hn4 := V.n4
  have hnt4 := V.nt4
  have hcN := V.cN
  have hPN := Nat.mul_le_mul hP40 hN8
  have hD31 : a.P * a.N < 2 ^ 31 := by omega
  have hN31 : a.N < 2 ^ 31 := by omega
  have hn31 : a.n < 2 ^ 31 := by omega
  have hnt31 : a.nt < 2 ^ 31 := by omega
  refine X 200 _ _ _ _ _ _ _ _ _ ?_
  refine c_MisBk X M.hw hbk (fun zb => ?_) (fun zb => ?_)
  · subst zb
    refine And.intro (fun _ => ?_) (fun q => absurd q (by decide))
    refine c_MisOpen X M V (fun zo => ?_) (fun zo => ?_)
    · refine And.intro (fun q => absurd q (by decide)) (fun _ => ?_)
      refine c_MisFull X M.hw W hT (by omega) (fun zf => ?_) (fun zf => ?_)
      · have zf2 : ¬ fl = false := fun q => by rw [hfl.mpr zf] at q; cases q
        refine And.intro (fun q => absurd q (by decide)) (fun _ => ?_)
        rw [show ac_close a true fl = .inl (-5) from if_neg (fun z => zf2 z.2)] at h
        exact h _ _ _ M (fM.refl _ _ _)
      · have zf2 : fl = false := by cases fl with | false => rfl | true => exact absurd (hfl.mp rfl) zf
        refine And.intro (fun _ => ?_) (fun q => absurd (by decide) q)
        have e9 : ac_close a true fl = .inr (4, 0, 0, 0) := if_pos ⟨zo, zf2⟩
        rw [e9] at h
        have O9 := ok_L hn9 zo
        refine c_Mact X M G W (by omega) (r := (4, 0, 0, 0)) O9 rfl rfl rfl rfl (fun I1 A1 B1 M1 W1 f1 => ?_)
        exact h O9 _ _ _ M1 W1 f1
    · refine And.intro (fun _ => ?_) (fun q => absurd (by decide) q)
      rw [show ac_close a true fl = .inl (-5) from if_neg (fun z => zo z.1)] at h
      exact h _ _ _ M (fM.refl _ _ _)
  · subst zb
    refine And.intro (fun q => absurd (by decide) q) (fun _ => ?_)
    exact h _ _ _ M (fM.refl _ _ _)
set_option maxRecDepth 20000 in
theorem r_rerun {J : mJ} (X : mRules J) {I A : mI} {B : mB} {w f : Nat} {R : mR} {a : Ac} (M : MR a w I A B) (G : Gd a) {L T m : Nat} {rw : Nat → Rw} (W : WdR w A L T m rw) {fl : Bool} (hT : T ≤ m) (hm : m < 100) (hfl : fl = true ↔ m - T = 20) {bk : Bool} (hbk : 0 < A w 3 ↔ bk = true) (hn9 : a.n + 9 ≤ 480) (h : qA a w f I A B L T m rw R (ac_rerun a bk fl)) : J n_M_rerun 0 [.ref 43] [] I A B (pk w f) R := by
  have V := G.V
  have hP40 := V.P40
  have hN8 := V.N8
  have hn4 := V.n4
  have hnt4 := V.nt4
  have hcN := V.cN
  have hPN := Nat.mul_le_mul hP40 hN8
  have hD31 : a.P * a.N < 2 ^ 31 := by omega
  have hN31 : a.N < 2 ^ 31 := by omega
  have hn31 : a.n < 2 ^ 31 := by omega
  have hnt31 : a.nt < 2 ^ 31 := by omega
  refine X 200 _ _ _ _ _ _ _ _ _ ?_
  refine c_MisBk X M.hw hbk (fun zb => ?_) (fun zb => ?_)
  · subst zb
    refine And.intro (fun _ => ?_) (fun q => absurd q (by decide))
    refine c_MisOpen X M V (fun zo => ?_) (fun zo => ?_)
    · refine And.intro (fun q => absurd q (by decide)) (fun _ => ?_)
      refine c_MisFull X M.hw W hT (by omega) (fun zf => ?_) (fun zf => ?_)
      · have zf2 : ¬ fl = false := fun q => by rw [hfl.mpr zf] at q; cases q
        refine And.intro (fun q => absurd q (by decide)) (fun _ => ?_)
        rw [show ac_rerun a true fl = .inl (-5) from if_neg (fun z => zf2 z.2)] at h
        exact h _ _ _ M (fM.refl _ _ _)
      · have zf2 : fl = false := by cases fl with | false => rfl | true => exact absurd (hfl.mp rfl) zf
        refine And.intro (fun _ => ?_) (fun q => absurd (by decide) q)
        have e9 : ac_rerun a true fl = .inr (5, 0, 0, 0) := if_pos ⟨zo, zf2⟩
        rw [e9] at h
        have O9 := ok_R hn9 zo
        refine c_Mact X M G W (by omega) (r := (5, 0, 0, 0)) O9 rfl rfl rfl rfl (fun I1 A1 B1 M1 W1 f1 => ?_)
        exact h O9 _ _ _ M1 W1 f1
    · refine And.intro (fun _ => ?_) (fun q => absurd (by decide) q)
      rw [show ac_rerun a true fl = .inl (-5) from if_neg (fun z => zo z.1)] at h
      exact h _ _ _ M (fM.refl _ _ _)
  · subst zb
    refine And.intro (fun q => absurd (by decide) q) (fun _ => ?_)
    exact h _ _ _ M (fM.refl _ _ _)
set_option maxRecDepth 20000 in
theorem r_reverse {J : mJ} (X : mRules J) {I A : mI} {B : mB} {w f : Nat} {R : mR} {a : Ac} (M : MR a w I A B) (G : Gd a) {L T m : Nat} {rw : Nat → Rw} (W : WdR w A L T m rw) {fl : Bool} (hT : T ≤ m) (hm : m < 100) (hfl : fl = true ↔ m - T = 20) (hn9 : a.n + 9 ≤ 480) {e : Int32} (h : qA a w f I A B L T m rw R (ac_reverse a fl e)) : J n_M_reverse 0 [.ref 43, .int e, .float 0, .float 0] [] I A B (pk w f) R := by
  have V := G.V
  have hP40 := V.P40
  have hN8 := V.N8
  have hn4 := V.n4
  have hnt4 := V.nt4
  have hcN := V.cN
  have hPN := Nat.mul_le_mul hP40 hN8
  have hD31 : a.P * a.N < 2 ^ 31 := by omega
  have hN31 : a.N < 2 ^ 31 := by omega
  have hn31 : a.n < 2 ^ 31 := by omega
  have hnt31 : a.nt < 2 ^ 31 := by omega
  have G0 : ∀ (e0 : Nat) (he : e0 < a.n) (O9 : Ok a (6, ct (fun j => decide (a.so j = 0)) e0, 0, 0)) (h9 : ∀ I' A' B', MR (zdo a (6, ct (fun j => decide (a.so j = 0)) e0, 0, 0)) w I' A' B' → WdR w A' L T (m + 1) (zup rw m (6, ct (fun j => decide (a.so j = 0)) e0, 0, 0)) → fA w I A B I' A' B' → R (some (.int (zrv a (6, ct (fun j => decide (a.so j = 0)) e0, 0, 0)))) I' A' B' (pk w f)), ∀ i, i ≤ e0 → ∀ (s : Int32) (x : Int32), s = nI (ct (fun j => decide (a.so j = 0)) i) → x = nI i → J n_M_reverse 49 [.ref 43, .int (nI e0), .int s, .int x] [] I A B (pk w f) R := by
    intro e0 he O9 h9
    have G9 : ∀ i, i ≤ e0 → ∀ (s : Int32) (x : Int32), s = nI (ct (fun j => decide (a.so j = 0)) i) → x = nI i → J n_M_reverse 49 [.ref 43, .int (nI e0), .int s, .int x] [] I A B (pk w f) R := by
      refine lpz (fun i => ∀ (s : Int32) (x : Int32), s = nI (ct (fun j => decide (a.so j = 0)) i) → x = nI i → J n_M_reverse 49 [.ref 43, .int (nI e0), .int s, .int x] [] I A B (pk w f) R) (fun i hi ih => ?_)
      intro s x es ex
      subst es; subst ex
      refine X 200 _ _ _ _ _ _ _ _ _ ?_
      refine And.intro (fun q1 => ?_) (fun q1 => ?_)
      · have e9 := lpx hi (by omega) q1
        subst e9
        refine c_Mact X M G W (by omega) (r := (6, ct (fun j => decide (a.so j = 0)) i, 0, 0)) O9 rfl rfl rfl rfl (fun I1 A1 B1 M1 W1 f1 => ?_)
        exact h9 _ _ _ M1 W1 f1
      · have hl := lpc hi (by omega) q1
        have hb31 : (nI i).toNatClampNeg = i := cl (by omega)
        have hs1 := M.hso i (by omega)
        have hs3 := V.so3 i (by omega)
        refine Exists.intro _ (And.intro rfl (And.intro (vin (by omega) (by omega)) ?_))
        refine And.intro (fun q2 => ?_) (fun q2 => ?_)
        · rw [hb31, hs1] at q2
          have cc : (fun j => decide (a.so j = 0)) i = false := decide_eq_false (fun z => q2 (by rw [z]; rfl))
          exact ih hl _ _ (by rw [ct_f cc]; exact Int32.add_zero _) (nI_1 i)
        · rw [hb31, hs1] at q2
          have cc : (fun j => decide (a.so j = 0)) i = true := decide_eq_true ((nI_eq (b := 0) (by omega) (by omega)).mp q2)
          exact ih hl _ _ (by rw [ct_t cc]; exact nI_1 _) (nI_1 i)
    exact G9
  refine X 200 _ _ _ _ _ _ _ _ _ ?_
  refine c_MisEntry X M V (fun e0 he ee => ?_) (fun ze => ?_)
  · subst ee
    refine And.intro (fun _ => ?_) (fun q => absurd q (by decide))
    refine Exists.intro _ (And.intro rfl (And.intro (vin (by omega) (by omega)) ?_))
    refine And.intro (fun q1 => ?_) (fun q1 => ?_)
    · have hbe : (nI e0).toNatClampNeg = e0 := cl (by omega)
      have hs1 := M.hso e0 he
      have hs3 := V.so3 e0 he
      rw [hbe, hs1] at q1
      rw [show ac_reverse a fl (nI e0) = .inl (-5) by unfold ac_reverse; rw [ixN_s he hn31]; exact if_neg (fun z => q1 (by rw [z.1]; rfl))] at h
      exact h _ _ _ M (fM.refl _ _ _)
    · refine c_MisTurned X M V (e := e0) rfl (fun zt => ?_) (fun zt => ?_)
      · refine And.intro (fun _ => ?_) (fun q => absurd q (by decide))
        have hbe : (nI e0).toNatClampNeg = e0 := cl (by omega)
        have hs1 := M.hso e0 he
        have hs3 := V.so3 e0 he
        rw [hbe, hs1] at q1
        rw [show ac_reverse a fl (nI e0) = .inl (-5) by unfold ac_reverse; rw [ixN_s he hn31]; exact if_neg (fun z => by rw [zt] at z; cases z.2.1)] at h
        exact h _ _ _ M (fM.refl _ _ _)
      · refine And.intro (fun q => absurd (by decide) q) (fun _ => ?_)
        refine c_MisOpen X M V (fun zo => ?_) (fun zo => ?_)
        · refine And.intro (fun q => absurd q (by decide)) (fun _ => ?_)
          refine c_MisFull X M.hw W hT (by omega) (fun zf => ?_) (fun zf => ?_)
          · have zf2 : ¬ fl = false := fun q => by rw [hfl.mpr zf] at q; cases q
            refine And.intro (fun q => absurd q (by decide)) (fun _ => ?_)
            have hbe : (nI e0).toNatClampNeg = e0 := cl (by omega)
            have hs1 := M.hso e0 he
            have hs3 := V.so3 e0 he
            rw [hbe, hs1] at q1
            rw [show ac_reverse a fl (nI e0) = .inl (-5) by unfold ac_reverse; rw [ixN_s he hn31]; exact if_neg (fun z => zf2 z.2.2.2)] at h
            exact h _ _ _ M (fM.refl _ _ _)
          · have zf2 : fl = false := by cases fl with | false => rfl | true => exact absurd (hfl.mp rfl) zf
            refine And.intro (fun _ => ?_) (fun q => absurd (by decide) q)
            have hbe : (nI e0).toNatClampNeg = e0 := cl (by omega)
            have hs1 := M.hso e0 he
            have hs3 := V.so3 e0 he
            rw [hbe, hs1] at q1
            have c1 : a.so e0 = 0 := (nI_eq (b := 0) (by omega) (by omega)).mp q1
            rw [show ac_reverse a fl (nI e0) = .inr (6, ct (fun j => decide (a.so j = 0)) e0, 0, 0) by unfold ac_reverse; rw [ixN_s he hn31]; exact if_pos ⟨c1, zt, zo, zf2⟩] at h
            have O9 := ok_B hn9 zo (ct_so he c1)
            exact G0 e0 he O9 (h O9) 0 (Nat.zero_le _) _ _ rfl rfl
        · refine And.intro (fun _ => ?_) (fun q => absurd (by decide) q)
          have hbe : (nI e0).toNatClampNeg = e0 := cl (by omega)
          have hs1 := M.hso e0 he
          have hs3 := V.so3 e0 he
          rw [hbe, hs1] at q1
          rw [show ac_reverse a fl (nI e0) = .inl (-5) by unfold ac_reverse; rw [ixN_s he hn31]; exact if_neg (fun z => zo z.2.2.1)] at h
          exact h _ _ _ M (fM.refl _ _ _)
  · refine And.intro (fun q => absurd (by decide) q) (fun _ => ?_)
    rw [show ac_reverse a fl e = .inl (-2) by unfold ac_reverse; rw [ixN_n hn31 ze]] at h
    exact h _ _ _ M (fM.refl _ _ _)
set_option maxRecDepth 20000 in
theorem r_change {J : mJ} (X : mRules J) {I A : mI} {B : mB} {w f : Nat} {R : mR} {a : Ac} (M : MR a w I A B) (G : Gd a) {L T m : Nat} {rw : Nat → Rw} (W : WdR w A L T m rw) {fl : Bool} (hT : T ≤ m) (hm : m < 100) (hfl : fl = true ↔ m - T = 20) (hn9 : a.n + 9 ≤ 480) (hc32 : fl = false → a.nc < 32) {d q v : Int32} (h : qA a w f I A B L T m rw R (ac_change a fl d q v)) : J n_M_change 0 [.ref 43, .int d, .int q, .int v] [] I A B (pk w f) R := by
  have V := G.V
  have hP40 := V.P40
  have hN8 := V.N8
  have hn4 := V.n4
  have hnt4 := V.nt4
  have hcN := V.cN
  have hPN := Nat.mul_le_mul hP40 hN8
  have hD31 : a.P * a.N < 2 ^ 31 := by omega
  have hN31 : a.N < 2 ^ 31 := by omega
  have hn31 : a.n < 2 ^ 31 := by omega
  have hnt31 : a.nt < 2 ^ 31 := by omega
  refine X 200 _ _ _ _ _ _ _ _ _ ?_
  refine c_MisDay X M V (fun d0 hd ed => ?_) (fun zd => ?_)
  · subst ed
    refine And.intro (fun q => absurd q (by decide)) (fun _ => ?_)
    refine c_MinK X 7 (by decide) (by decide) (fun q0 hq eq => ?_) (fun zq => ?_)
    · subst eq
      refine And.intro (fun q => absurd q (by decide)) (fun _ => ?_)
      refine And.intro (fun q1 => ?_) (fun q1 => ?_)
      · have h4q : 4 ≤ q0 := (nI_leI (a := 4) (by omega) (by omega)).mp q1
        refine And.intro (fun q2 => ?_) (fun q2 => ?_)
        · have hlim : (if q0 = 6 then 100000 else 5001) = 5001 := if_neg (fun z => q2 (by rw [z]; rfl))
          refine c_MinK X 5001 (by decide) (by decide) (fun v0 hv ev => ?_) (fun zv => ?_)
          · subst ev
            refine And.intro (fun _ => ?_) (fun q => absurd q (by decide))
            refine c_MisFull X M.hw W hT (by omega) (fun zf => ?_) (fun zf => ?_)
            · have zf2 : ¬ fl = false := fun q => by rw [hfl.mpr zf] at q; cases q
              refine And.intro (fun q => absurd q (by decide)) (fun _ => ?_)
              rw [show ac_change a fl (nI d0) (nI q0) (nI v0) = .inl (-5) by unfold ac_change; rw [ixN_s hd hD31, ixN_s hq (by decide)]; show (if q0 < a.nt ∨ 4 ≤ q0 then _ else _) = _; rw [if_pos (by omega), hlim, ixN_s hv (by decide)]; exact if_neg zf2] at h
              exact h _ _ _ M (fM.refl _ _ _)
            · have zf2 : fl = false := by cases fl with | false => rfl | true => exact absurd (hfl.mp rfl) zf
              refine And.intro (fun _ => ?_) (fun q => absurd (by decide) q)
              have hqq : q0 < a.nt ∨ 4 ≤ q0 := by omega
              have O9 : Ok a (2, d0, (q0 : Int), v0) := ok_C hn9 (hc32 zf2) hd hqq hq (by rw [hlim]; exact hv)
              have e9 : ac_change a fl (nI d0) (nI q0) (nI v0) = .inr (2, d0, (q0 : Int), v0) := by unfold ac_change; rw [ixN_s hd hD31, ixN_s hq (by decide)]; show (if q0 < a.nt ∨ 4 ≤ q0 then _ else _) = _; rw [if_pos hqq, hlim, ixN_s hv (by decide)]; exact if_pos zf2
              rw [e9] at h
              refine c_Mact X M G W (by omega) (r := (2, d0, (q0 : Int), v0)) O9 rfl rfl (nI_z q0) rfl (fun I1 A1 B1 M1 W1 f1 => ?_)
              exact h O9 _ _ _ M1 W1 f1
          · refine And.intro (fun q => absurd (by decide) q) (fun _ => ?_)
            rw [show ac_change a fl (nI d0) (nI q0) v = .inl (-2) by unfold ac_change; rw [ixN_s hd hD31, ixN_s hq (by decide)]; show (if q0 < a.nt ∨ 4 ≤ q0 then _ else _) = _; rw [if_pos (by omega), hlim, ixN_n (by decide) zv]] at h
            exact h _ _ _ M (fM.refl _ _ _)
        · have hlim : (if q0 = 6 then 100000 else 5001) = 100000 := if_pos ((nI_eq (b := 6) (by omega) (by omega)).mp q2)
          refine c_MinK X 100000 (by decide) (by decide) (fun v0 hv ev => ?_) (fun zv => ?_)
          · subst ev
            refine And.intro (fun _ => ?_) (fun q => absurd q (by decide))
            refine c_MisFull X M.hw W hT (by omega) (fun zf => ?_) (fun zf => ?_)
            · have zf2 : ¬ fl = false := fun q => by rw [hfl.mpr zf] at q; cases q
              refine And.intro (fun q => absurd q (by decide)) (fun _ => ?_)
              rw [show ac_change a fl (nI d0) (nI q0) (nI v0) = .inl (-5) by unfold ac_change; rw [ixN_s hd hD31, ixN_s hq (by decide)]; show (if q0 < a.nt ∨ 4 ≤ q0 then _ else _) = _; rw [if_pos (by omega), hlim, ixN_s hv (by decide)]; exact if_neg zf2] at h
              exact h _ _ _ M (fM.refl _ _ _)
            · have zf2 : fl = false := by cases fl with | false => rfl | true => exact absurd (hfl.mp rfl) zf
              refine And.intro (fun _ => ?_) (fun q => absurd (by decide) q)
              have hqq : q0 < a.nt ∨ 4 ≤ q0 := by omega
              have O9 : Ok a (2, d0, (q0 : Int), v0) := ok_C hn9 (hc32 zf2) hd hqq hq (by rw [hlim]; exact hv)
              have e9 : ac_change a fl (nI d0) (nI q0) (nI v0) = .inr (2, d0, (q0 : Int), v0) := by unfold ac_change; rw [ixN_s hd hD31, ixN_s hq (by decide)]; show (if q0 < a.nt ∨ 4 ≤ q0 then _ else _) = _; rw [if_pos hqq, hlim, ixN_s hv (by decide)]; exact if_pos zf2
              rw [e9] at h
              refine c_Mact X M G W (by omega) (r := (2, d0, (q0 : Int), v0)) O9 rfl rfl (nI_z q0) rfl (fun I1 A1 B1 M1 W1 f1 => ?_)
              exact h O9 _ _ _ M1 W1 f1
          · refine And.intro (fun q => absurd (by decide) q) (fun _ => ?_)
            rw [show ac_change a fl (nI d0) (nI q0) v = .inl (-2) by unfold ac_change; rw [ixN_s hd hD31, ixN_s hq (by decide)]; show (if q0 < a.nt ∨ 4 ≤ q0 then _ else _) = _; rw [if_pos (by omega), hlim, ixN_n (by decide) zv]] at h
            exact h _ _ _ M (fM.refl _ _ _)
      · have h4q : ¬ 4 ≤ q0 := fun z => q1 (nI_le (a := 4) z (by omega))
        refine c_MisTier X M V (fun t0 ht et => ?_) (fun zt => ?_)
        · have hqt : q0 < a.nt := by have := (nI_eq (by omega) (by omega)).mp et; omega
          refine And.intro (fun q => absurd q (by decide)) (fun _ => ?_)
          refine And.intro (fun q3 => ?_) (fun q3 => ?_)
          · have hlim : (if q0 = 6 then 100000 else 5001) = 5001 := if_neg (fun z => q3 (by rw [z]; rfl))
            refine c_MinK X 5001 (by decide) (by decide) (fun v0 hv ev => ?_) (fun zv => ?_)
            · subst ev
              refine And.intro (fun _ => ?_) (fun q => absurd q (by decide))
              refine c_MisFull X M.hw W hT (by omega) (fun zf => ?_) (fun zf => ?_)
              · have zf2 : ¬ fl = false := fun q => by rw [hfl.mpr zf] at q; cases q
                refine And.intro (fun q => absurd q (by decide)) (fun _ => ?_)
                rw [show ac_change a fl (nI d0) (nI q0) (nI v0) = .inl (-5) by unfold ac_change; rw [ixN_s hd hD31, ixN_s hq (by decide)]; show (if q0 < a.nt ∨ 4 ≤ q0 then _ else _) = _; rw [if_pos (by omega), hlim, ixN_s hv (by decide)]; exact if_neg zf2] at h
                exact h _ _ _ M (fM.refl _ _ _)
              · have zf2 : fl = false := by cases fl with | false => rfl | true => exact absurd (hfl.mp rfl) zf
                refine And.intro (fun _ => ?_) (fun q => absurd (by decide) q)
                have hqq : q0 < a.nt ∨ 4 ≤ q0 := by omega
                have O9 : Ok a (2, d0, (q0 : Int), v0) := ok_C hn9 (hc32 zf2) hd hqq hq (by rw [hlim]; exact hv)
                have e9 : ac_change a fl (nI d0) (nI q0) (nI v0) = .inr (2, d0, (q0 : Int), v0) := by unfold ac_change; rw [ixN_s hd hD31, ixN_s hq (by decide)]; show (if q0 < a.nt ∨ 4 ≤ q0 then _ else _) = _; rw [if_pos hqq, hlim, ixN_s hv (by decide)]; exact if_pos zf2
                rw [e9] at h
                refine c_Mact X M G W (by omega) (r := (2, d0, (q0 : Int), v0)) O9 rfl rfl (nI_z q0) rfl (fun I1 A1 B1 M1 W1 f1 => ?_)
                exact h O9 _ _ _ M1 W1 f1
            · refine And.intro (fun q => absurd (by decide) q) (fun _ => ?_)
              rw [show ac_change a fl (nI d0) (nI q0) v = .inl (-2) by unfold ac_change; rw [ixN_s hd hD31, ixN_s hq (by decide)]; show (if q0 < a.nt ∨ 4 ≤ q0 then _ else _) = _; rw [if_pos (by omega), hlim, ixN_n (by decide) zv]] at h
              exact h _ _ _ M (fM.refl _ _ _)
          · have hlim : (if q0 = 6 then 100000 else 5001) = 100000 := if_pos ((nI_eq (b := 6) (by omega) (by omega)).mp q3)
            refine c_MinK X 100000 (by decide) (by decide) (fun v0 hv ev => ?_) (fun zv => ?_)
            · subst ev
              refine And.intro (fun _ => ?_) (fun q => absurd q (by decide))
              refine c_MisFull X M.hw W hT (by omega) (fun zf => ?_) (fun zf => ?_)
              · have zf2 : ¬ fl = false := fun q => by rw [hfl.mpr zf] at q; cases q
                refine And.intro (fun q => absurd q (by decide)) (fun _ => ?_)
                rw [show ac_change a fl (nI d0) (nI q0) (nI v0) = .inl (-5) by unfold ac_change; rw [ixN_s hd hD31, ixN_s hq (by decide)]; show (if q0 < a.nt ∨ 4 ≤ q0 then _ else _) = _; rw [if_pos (by omega), hlim, ixN_s hv (by decide)]; exact if_neg zf2] at h
                exact h _ _ _ M (fM.refl _ _ _)
              · have zf2 : fl = false := by cases fl with | false => rfl | true => exact absurd (hfl.mp rfl) zf
                refine And.intro (fun _ => ?_) (fun q => absurd (by decide) q)
                have hqq : q0 < a.nt ∨ 4 ≤ q0 := by omega
                have O9 : Ok a (2, d0, (q0 : Int), v0) := ok_C hn9 (hc32 zf2) hd hqq hq (by rw [hlim]; exact hv)
                have e9 : ac_change a fl (nI d0) (nI q0) (nI v0) = .inr (2, d0, (q0 : Int), v0) := by unfold ac_change; rw [ixN_s hd hD31, ixN_s hq (by decide)]; show (if q0 < a.nt ∨ 4 ≤ q0 then _ else _) = _; rw [if_pos hqq, hlim, ixN_s hv (by decide)]; exact if_pos zf2
                rw [e9] at h
                refine c_Mact X M G W (by omega) (r := (2, d0, (q0 : Int), v0)) O9 rfl rfl (nI_z q0) rfl (fun I1 A1 B1 M1 W1 f1 => ?_)
                exact h O9 _ _ _ M1 W1 f1
            · refine And.intro (fun q => absurd (by decide) q) (fun _ => ?_)
              rw [show ac_change a fl (nI d0) (nI q0) v = .inl (-2) by unfold ac_change; rw [ixN_s hd hD31, ixN_s hq (by decide)]; show (if q0 < a.nt ∨ 4 ≤ q0 then _ else _) = _; rw [if_pos (by omega), hlim, ixN_n (by decide) zv]] at h
              exact h _ _ _ M (fM.refl _ _ _)
        · have hqt : ¬ q0 < a.nt := fun z => zt q0 z rfl
          refine And.intro (fun _ => ?_) (fun q => absurd (by decide) q)
          rw [show ac_change a fl (nI d0) (nI q0) v = .inl (-2) by unfold ac_change; rw [ixN_s hd hD31, ixN_s hq (by decide)]; exact if_neg (by omega)] at h
          exact h _ _ _ M (fM.refl _ _ _)
    · refine And.intro (fun _ => ?_) (fun q => absurd (by decide) q)
      rw [show ac_change a fl (nI d0) q v = .inl (-2) by unfold ac_change; rw [ixN_s hd hD31, ixN_n (by decide) zq]] at h
      exact h _ _ _ M (fM.refl _ _ _)
  · refine And.intro (fun _ => ?_) (fun q => absurd (by decide) q)
    rw [show ac_change a fl d q v = .inl (-2) by unfold ac_change; rw [ixN_n hD31 zd]] at h
    exact h _ _ _ M (fM.refl _ _ _)
