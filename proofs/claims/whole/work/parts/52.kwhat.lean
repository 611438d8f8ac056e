/-! contracts of the class: what would be (written by wip/whole/gk3.py) -/
set_option maxRecDepth 20000 in
theorem k_caused {J : mJ} (X : mRules J) {I A : mI} {B : mB} {w f : Nat} {R : mR} {a : Ac} (C : CR a I A B) (G : Gd a) (hn2 : a.n ≤ 220) {e p : Int32} (h : qC w f I A B R (some (.long (an_caused a (ixN a.n e) (ixN a.N p))))) : J n_V_caused 0 [.ref 0, .int e, .int p] [] I A B (pk w f) R := by
  have V := G.V
  have hP40 := V.P40
  have hN8 := V.N8
  have hnt4 := V.nt4
  have hcN := V.cN
  have hK1 := V.K1
  have hK4 := V.K4
  have hPN := D320 V
  have hNP : a.N * a.P ≤ 320 := by rw [Nat.mul_comm]; exact hPN
  have hD31 : a.P * a.N < 2 ^ 31 := by omega
  have hN31 : a.N < 2 ^ 31 := by omega
  have hn31 : a.n < 2 ^ 31 := by omega
  have hnt31 : a.nt < 2 ^ 31 := by omega
  have hDD : I 16 4 * I 16 5 = nI (a.P * a.N) := by rw [C.hP, C.hN, pk_mul]
  have hvn : ∀ j, j < a.n → A 32 j = nI (a.va j) ∧ a.va j < 2 ^ 20 := fun j hj => ⟨C.hva j hj, by have := V.va9 j hj; omega⟩
  refine X 200 _ _ _ _ _ _ _ _ _ ?_
  refine c_has X hn31 C.hn (fun e0 he ee => ?_) (fun ze => ?_)
  · subst ee
    refine And.intro (fun q => absurd q (by decide)) (fun _ => ?_)
    refine c_isPeriod X hN31 C.hN (fun p0 hp ep => ?_) (fun zp => ?_)
    · subst ep
      refine And.intro (fun _ => ?_) (fun q => absurd q (by decide))
      refine c_valueOf X hn2 C.hn rfl he ?_
      refine c_amountOf X hn2 C.hn rfl he ?_
      refine c_productsOf36 X hnt4 C.hnt C.hP (p := p0) rfl (by have := P_le hp; rw [Nat.mul_comm p0 a.P]; omega) ?_
      refine c_nearest X ?_
      refine c_productsOf36 X hnt4 C.hnt C.hP (p := p0) rfl (by have := P_le hp; rw [Nat.mul_comm p0 a.P]; omega) ?_
      refine c_nearest X ?_
      rw [ixN_s he hn31] at h
      rw [ixN_s hp hN31] at h
      have h2 := h _ _ (fC.refl _ _)
      have e9 : an_caused a (some e0) (some p0) = gin A B a.nt a.P e0 p0 := (z_gin C G he hp).symm
      rw [e9] at h2
      exact h2
    · refine And.intro (fun q => absurd (by decide) q) (fun _ => ?_)
      rw [ixN_s he hn31] at h
      rw [ixN_n hN31 zp] at h
      have h2 := h _ _ (fC.refl _ _)
      exact h2
  · refine And.intro (fun _ => ?_) (fun q => absurd (by decide) q)
    rw [ixN_n hn31 ze] at h
    have h2 := h _ _ (fC.refl _ _)
    exact h2
set_option maxRecDepth 20000 in
theorem k_blame {J : mJ} (X : mRules J) {I A : mI} {B : mB} {w f : Nat} {R : mR} {a : Ac} (C : CR a I A B) (G : Gd a) (hn2 : a.n ≤ 220) {p : Int32} (h : qC w f I A B R (some (.int (an_blame a (ixN a.N p))))) : J n_V_blame 0 [.ref 0, .int p] [] I A B (pk w f) R := by
  have V := G.V
  have hP40 := V.P40
  have hN8 := V.N8
  have hnt4 := V.nt4
  have hcN := V.cN
  have hK1 := V.K1
  have hK4 := V.K4
  have hPN := D320 V
  have hNP : a.N * a.P ≤ 320 := by rw [Nat.mul_comm]; exact hPN
  have hD31 : a.P * a.N < 2 ^ 31 := by omega
  have hN31 : a.N < 2 ^ 31 := by omega
  have hn31 : a.n < 2 ^ 31 := by omega
  have hnt31 : a.nt < 2 ^ 31 := by omega
  have hDD : I 16 4 * I 16 5 = nI (a.P * a.N) := by rw [C.hP, C.hN, pk_mul]
  have hvn : ∀ j, j < a.n → A 32 j = nI (a.va j) ∧ a.va j < 2 ^ 20 := fun j hj => ⟨C.hva j hj, by have := V.va9 j hj; omega⟩
  refine X 200 _ _ _ _ _ _ _ _ _ ?_
  refine c_isPeriod X hN31 C.hN (fun p0 hp ep => ?_) (fun zp => ?_)
  · subst ep
    refine And.intro (fun q => absurd q (by decide)) (fun _ => ?_)
    refine c_mostGuilty X hnt4 C.hnt C.hP C.hN hNP (by omega) hn2 C.hn rfl hp ?_
    rw [ixN_s hp hN31] at h
    have h2 := h _ _ (fC.refl _ _)
    have e9 : an_blame a (some p0) = (mgl (fun e => abl (gin A B a.nt a.P e p0)) a.n).1 := by rw [z_blame C G hp]; rfl
    rw [e9] at h2
    exact h2
  · refine And.intro (fun _ => ?_) (fun q => absurd (by decide) q)
    rw [ixN_n hN31 zp] at h
    have h2 := h _ _ (fC.refl _ _)
    exact h2
set_option maxRecDepth 20000 in
theorem k_brought {J : mJ} (X : mRules J) {I A : mI} {B : mB} {w f : Nat} {R : mR} {a : Ac} (C : CR a I A B) (G : Gd a) (hn2 : a.n ≤ 220) {e : Int32} (h : qC w f I A B R (some (.long (an_brought a (ixN a.n e))))) : J n_V_brought 0 [.ref 0, .int e] [] I A B (pk w f) R := by
  have V := G.V
  have hP40 := V.P40
  have hN8 := V.N8
  have hnt4 := V.nt4
  have hcN := V.cN
  have hK1 := V.K1
  have hK4 := V.K4
  have hPN := D320 V
  have hNP : a.N * a.P ≤ 320 := by rw [Nat.mul_comm]; exact hPN
  have hD31 : a.P * a.N < 2 ^ 31 := by omega
  have hN31 : a.N < 2 ^ 31 := by omega
  have hn31 : a.n < 2 ^ 31 := by omega
  have hnt31 : a.nt < 2 ^ 31 := by omega
  have hDD : I 16 4 * I 16 5 = nI (a.P * a.N) := by rw [C.hP, C.hN, pk_mul]
  have hvn : ∀ j, j < a.n → A 32 j = nI (a.va j) ∧ a.va j < 2 ^ 20 := fun j hj => ⟨C.hva j hj, by have := V.va9 j hj; omega⟩
  refine X 200 _ _ _ _ _ _ _ _ _ ?_
  refine c_has X hn31 C.hn (fun e0 he ee => ?_) (fun ze => ?_)
  · subst ee
    refine And.intro (fun q => absurd q (by decide)) (fun _ => ?_)
    refine c_gainBy X hnt4 C.hnt C.hP C.hN hNP (by omega) hn2 C.hn rfl he ?_
    rw [ixN_s he hn31] at h
    have h2 := h _ _ (fC.refl _ _)
    have e9 : an_brought a (some e0) = _ := (z_brought C G he).symm
    rw [e9] at h2
    exact h2
  · refine And.intro (fun _ => ?_) (fun q => absurd (by decide) q)
    rw [ixN_n hn31 ze] at h
    have h2 := h _ _ (fC.refl _ _)
    exact h2
set_option maxRecDepth 20000 in
theorem k_moved {J : mJ} (X : mRules J) {I A : mI} {B : mB} {w f : Nat} {R : mR} {a : Ac} (C : CR a I A B) (G : Gd a) (hn2 : a.n ≤ 220) {e d : Int32} (h : qC w f I A B R (some (.long (an_moved a (ixN a.n e) (ixN (zD a) d))))) : J n_V_moved 0 [.ref 0, .int e, .int d] [] I A B (pk w f) R := by
  have V := G.V
  have hP40 := V.P40
  have hN8 := V.N8
  have hnt4 := V.nt4
  have hcN := V.cN
  have hK1 := V.K1
  have hK4 := V.K4
  have hPN := D320 V
  have hNP : a.N * a.P ≤ 320 := by rw [Nat.mul_comm]; exact hPN
  have hD31 : a.P * a.N < 2 ^ 31 := by omega
  have hN31 : a.N < 2 ^ 31 := by omega
  have hn31 : a.n < 2 ^ 31 := by omega
  have hnt31 : a.nt < 2 ^ 31 := by omega
  have hDD : I 16 4 * I 16 5 = nI (a.P * a.N) := by rw [C.hP, C.hN, pk_mul]
  have hvn : ∀ j, j < a.n → A 32 j = nI (a.va j) ∧ a.va j < 2 ^ 20 := fun j hj => ⟨C.hva j hj, by have := V.va9 j hj; omega⟩
  refine X 200 _ _ _ _ _ _ _ _ _ ?_
  refine c_has X hn31 C.hn (fun e0 he ee => ?_) (fun ze => ?_)
  · subst ee
    refine And.intro (fun q => absurd q (by decide)) (fun _ => ?_)
    refine c_isDay X hD31 hDD (fun d0 hd ed => ?_) (fun zd => ?_)
    · subst ed
      refine And.intro (fun _ => ?_) (fun q => absurd q (by decide))
      refine c_gainByMoving X hnt4 C.hnt C.hP C.hN hNP (by omega) hn2 C.hn hDD hPN hvn rfl he ?_
      rw [ixN_s he hn31] at h
      rw [ixN_s hd hD31] at h
      have h2 := h A (wob A B a.va (a.P * a.N) e0) (fC.b37 (fun k hk => wob_b hk))
      have e9 : an_moved a (some e0) (some d0) = _ := (z_moved C G he hd).symm
      rw [e9] at h2
      exact h2
    · refine And.intro (fun q => absurd (by decide) q) (fun _ => ?_)
      rw [ixN_s he hn31] at h
      rw [ixN_n hD31 zd] at h
      have h2 := h _ _ (fC.refl _ _)
      exact h2
  · refine And.intro (fun _ => ?_) (fun q => absurd (by decide) q)
    rw [ixN_n hn31 ze] at h
    have h2 := h _ _ (fC.refl _ _)
    exact h2
set_option maxRecDepth 20000 in
theorem k_late {J : mJ} (X : mRules J) {I A : mI} {B : mB} {w f : Nat} {R : mR} {a : Ac} (C : CR a I A B) (G : Gd a) (hn2 : a.n ≤ 220) {d m : Int32} (h : qC w f I A B R (some (.long (an_late a (ixN (zD a) d) m)))) : J n_V_late 0 [.ref 0, .int d, .int m] [] I A B (pk w f) R := by
  have V := G.V
  have hP40 := V.P40
  have hN8 := V.N8
  have hnt4 := V.nt4
  have hcN := V.cN
  have hK1 := V.K1
  have hK4 := V.K4
  have hPN := D320 V
  have hNP : a.N * a.P ≤ 320 := by rw [Nat.mul_comm]; exact hPN
  have hD31 : a.P * a.N < 2 ^ 31 := by omega
  have hN31 : a.N < 2 ^ 31 := by omega
  have hn31 : a.n < 2 ^ 31 := by omega
  have hnt31 : a.nt < 2 ^ 31 := by omega
  have hDD : I 16 4 * I 16 5 = nI (a.P * a.N) := by rw [C.hP, C.hN, pk_mul]
  have hvn : ∀ j, j < a.n → A 32 j = nI (a.va j) ∧ a.va j < 2 ^ 20 := fun j hj => ⟨C.hva j hj, by have := V.va9 j hj; omega⟩
  refine X 200 _ _ _ _ _ _ _ _ _ ?_
  refine c_isDay X hD31 hDD (fun d0 hd ed => ?_) (fun zd => ?_)
  · subst ed
    refine And.intro (fun q => absurd q (by decide)) (fun _ => ?_)
    refine c_isBetween X (fun z1 z2 => ?_) (fun zm => ?_)
    · have zm := And.intro z1 z2
      refine And.intro (fun _ => ?_) (fun q => absurd q (by decide))
      refine c_unlikeWith X hnt4 C.hnt C.hP C.hN hNP (by omega) hn2 C.hn C.hc hcN ?_
      rw [ixN_s hd hD31] at h
      have hmc : -99999 ≤ m.toInt ∧ m.toInt ≤ 99999 := i32b zm
      simp only [an_late, if_pos zm] at h
      have h2 := h _ _ (fC.refl _ _)
      rw [← z_late C G hd hmc] at h2
      exact h2
    · refine And.intro (fun q => absurd (by decide) q) (fun _ => ?_)
      rw [ixN_s hd hD31] at h
      simp only [an_late, if_neg zm] at h
      exact h _ _ (fC.refl _ _)
  · refine And.intro (fun _ => ?_) (fun q => absurd (by decide) q)
    rw [ixN_n hD31 zd] at h
    have h2 := h _ _ (fC.refl _ _)
    exact h2
set_option maxRecDepth 20000 in
theorem k_touched {J : mJ} (X : mRules J) {I A : mI} {B : mB} {w f : Nat} {R : mR} {a : Ac} (C : CR a I A B) (G : Gd a) (hn2 : a.n ≤ 220) {d m : Int32} (h : qC w f I A B R (some (.int (an_touched a (ixN (zD a) d) m)))) : J n_V_touched 0 [.ref 0, .int d, .int m] [] I A B (pk w f) R := by
  have V := G.V
  have hP40 := V.P40
  have hN8 := V.N8
  have hnt4 := V.nt4
  have hcN := V.cN
  have hK1 := V.K1
  have hK4 := V.K4
  have hPN := D320 V
  have hNP : a.N * a.P ≤ 320 := by rw [Nat.mul_comm]; exact hPN
  have hD31 : a.P * a.N < 2 ^ 31 := by omega
  have hN31 : a.N < 2 ^ 31 := by omega
  have hn31 : a.n < 2 ^ 31 := by omega
  have hnt31 : a.nt < 2 ^ 31 := by omega
  have hDD : I 16 4 * I 16 5 = nI (a.P * a.N) := by rw [C.hP, C.hN, pk_mul]
  have hvn : ∀ j, j < a.n → A 32 j = nI (a.va j) ∧ a.va j < 2 ^ 20 := fun j hj => ⟨C.hva j hj, by have := V.va9 j hj; omega⟩
  refine X 200 _ _ _ _ _ _ _ _ _ ?_
  refine c_isDay X hD31 hDD (fun d0 hd ed => ?_) (fun zd => ?_)
  · subst ed
    refine And.intro (fun q => absurd q (by decide)) (fun _ => ?_)
    refine c_isBetween X (fun z1 z2 => ?_) (fun zm => ?_)
    · have zm := And.intro z1 z2
      refine And.intro (fun _ => ?_) (fun q => absurd q (by decide))
      refine c_firstTouched X hnt4 C.hnt C.hP C.hN hNP (by omega) C.hc hcN ?_
      rw [ixN_s hd hD31] at h
      have hmc : -99999 ≤ m.toInt ∧ m.toInt ≤ 99999 := i32b zm
      simp only [an_touched, if_pos zm] at h
      have h2 := h _ _ (fC.refl _ _)
      rw [← z_touched C G hd hmc] at h2
      exact h2
    · refine And.intro (fun q => absurd (by decide) q) (fun _ => ?_)
      rw [ixN_s hd hD31] at h
      simp only [an_touched, if_neg zm] at h
      exact h _ _ (fC.refl _ _)
  · refine And.intro (fun _ => ?_) (fun q => absurd (by decide) q)
    rw [ixN_n hD31 zd] at h
    have h2 := h _ _ (fC.refl _ _)
    exact h2
set_option maxRecDepth 20000 in
theorem k_tilted {J : mJ} (X : mRules J) {I A : mI} {B : mB} {w f : Nat} {R : mR} {a : Ac} (C : CR a I A B) (G : Gd a) (hn2 : a.n ≤ 220) {t m : Int32} (h : qC w f I A B R (some (.long (an_tilted a (ixN a.nt t) m)))) : J n_V_tilted 0 [.ref 0, .int t, .int m] [] I A B (pk w f) R := by
  have V := G.V
  have hP40 := V.P40
  have hN8 := V.N8
  have hnt4 := V.nt4
  have hcN := V.cN
  have hK1 := V.K1
  have hK4 := V.K4
  have hPN := D320 V
  have hNP : a.N * a.P ≤ 320 := by rw [Nat.mul_comm]; exact hPN
  have hD31 : a.P * a.N < 2 ^ 31 := by omega
  have hN31 : a.N < 2 ^ 31 := by omega
  have hn31 : a.n < 2 ^ 31 := by omega
  have hnt31 : a.nt < 2 ^ 31 := by omega
  have hDD : I 16 4 * I 16 5 = nI (a.P * a.N) := by rw [C.hP, C.hN, pk_mul]
  have hvn : ∀ j, j < a.n → A 32 j = nI (a.va j) ∧ a.va j < 2 ^ 20 := fun j hj => ⟨C.hva j hj, by have := V.va9 j hj; omega⟩
  refine X 200 _ _ _ _ _ _ _ _ _ ?_
  refine c_isTier X hnt31 C.hnt (fun t0 ht et => ?_) (fun zt => ?_)
  · subst et
    refine And.intro (fun q => absurd q (by decide)) (fun _ => ?_)
    refine c_isBetween X (fun z1 z2 => ?_) (fun zm => ?_)
    · have zm := And.intro z1 z2
      refine And.intro (fun _ => ?_) (fun q => absurd q (by decide))
      refine c_gainByTilt X hnt4 C.hnt C.hP C.hN hNP (by omega) (t := t0) (by omega) ?_
      rw [ixN_s ht hnt31] at h
      have hmc : -5000 ≤ m.toInt ∧ m.toInt ≤ 5000 := i32b zm
      simp only [an_tilted, if_pos zm] at h
      have h2 := h _ _ (fC.refl _ _)
      rw [← z_tilt C G ht hmc (Int32.ofInt_toInt m).symm] at h2
      exact h2
    · refine And.intro (fun q => absurd (by decide) q) (fun _ => ?_)
      rw [ixN_s ht hnt31] at h
      simp only [an_tilted, if_neg zm] at h
      exact h _ _ (fC.refl _ _)
  · refine And.intro (fun _ => ?_) (fun q => absurd (by decide) q)
    rw [ixN_n hnt31 zt] at h
    have h2 := h _ _ (fC.refl _ _)
    exact h2
theorem btw_ix {l : Int32} : (0 : Int32) ≤ l ∧ l ≤ 99999 ↔ ∃ k, k < 100000 ∧ l = nI k := by
  constructor
  · intro h
    have h1 := Int32.le_iff_toInt_le.mp h.1
    have h2 := Int32.le_iff_toInt_le.mp h.2
    have h3 : (0 : Int32).toInt = 0 := by decide
    have h4 : (99999 : Int32).toInt = 99999 := by decide
    refine ⟨l.toInt.toNat, by omega, ?_⟩
    apply Int32.toInt_inj.mp
    rw [nI_toInt (by omega)]
    omega
  · intro h
    obtain ⟨k, hk, e⟩ := h
    rw [e]
    exact ⟨nI_pos' (by omega), nI_le (b := 99999) (by omega) (by omega)⟩
set_option maxRecDepth 20000 in
theorem k_limited {J : mJ} (X : mRules J) {I A : mI} {B : mB} {w f : Nat} {R : mR} {a : Ac} (C : CR a I A B) (G : Gd a) (hn2 : a.n ≤ 220) {bk : Bool} (hbk : I 7 1 = 0 ↔ bk = false) {l : Int32} (h : qC w f I A B R (some (.long (an_limited a bk (ixN 100000 l))))) : J n_V_limited 0 [.ref 0, .int l] [] I A B (pk w f) R := by
  have V := G.V
  have hP40 := V.P40
  have hN8 := V.N8
  have hnt4 := V.nt4
  have hcN := V.cN
  have hK1 := V.K1
  have hK4 := V.K4
  have hPN := D320 V
  have hNP : a.N * a.P ≤ 320 := by rw [Nat.mul_comm]; exact hPN
  have hD31 : a.P * a.N < 2 ^ 31 := by omega
  have hN31 : a.N < 2 ^ 31 := by omega
  have hn31 : a.n < 2 ^ 31 := by omega
  have hnt31 : a.nt < 2 ^ 31 := by omega
  have hDD : I 16 4 * I 16 5 = nI (a.P * a.N) := by rw [C.hP, C.hN, pk_mul]
  have hvn : ∀ j, j < a.n → A 32 j = nI (a.va j) ∧ a.va j < 2 ^ 20 := fun j hj => ⟨C.hva j hj, by have := V.va9 j hj; omega⟩
  refine X 200 _ _ _ _ _ _ _ _ _ ?_
  refine c_noBook X (fun zb => ?_) (fun zb => ?_)
  · have zb2 := hbk.mp zb
    subst zb2
    refine And.intro (fun _ => ?_) (fun q => absurd q (by decide))
    have h2 := h _ _ (fC.refl _ _)
    exact h2
  · have zb2 : bk = true := by cases bk with | true => rfl | false => exact absurd (hbk.mpr rfl) zb
    subst zb2
    refine And.intro (fun q => absurd (by decide) q) (fun _ => ?_)
    refine c_isBetween X (fun z1 z2 => ?_) (fun zm => ?_)
    · have zm := And.intro z1 z2
      refine And.intro (fun _ => ?_) (fun q => absurd q (by decide))
      refine c_gainByLimit X hnt4 C.hnt C.hP C.hN hNP (by omega) ?_
      obtain ⟨l0, hl, el⟩ := btw_ix.mp zm
      subst el
      rw [ixN_s hl (by decide)] at h
      have h2 := h _ _ (fC.refl _ _)
      have e9 : an_limited a true (some l0) = _ := (z_limit C G (by omega)).symm
      rw [e9] at h2
      exact h2
    · refine And.intro (fun q => absurd (by decide) q) (fun _ => ?_)
      rw [ixN_n (N := 100000) (by decide) (fun k hk e => zm (btw_ix.mpr ⟨k, hk, e⟩))] at h
      exact h _ _ (fC.refl _ _)
set_option maxRecDepth 20000 in
theorem k_needs {J : mJ} (X : mRules J) {I A : mI} {B : mB} {w f : Nat} {R : mR} {a : Ac} (C : CR a I A B) (G : Gd a) (hn2 : a.n ≤ 220) {d g : Int32} (h : qC w f I A B R (some (.int (an_needs a (ixN (zD a) d) g)))) : J n_V_needs 0 [.ref 0, .int d, .int g] [] I A B (pk w f) R := by
  have V := G.V
  have hP40 := V.P40
  have hN8 := V.N8
  have hnt4 := V.nt4
  have hcN := V.cN
  have hK1 := V.K1
  have hK4 := V.K4
  have hPN := D320 V
  have hNP : a.N * a.P ≤ 320 := by rw [Nat.mul_comm]; exact hPN
  have hD31 : a.P * a.N < 2 ^ 31 := by omega
  have hN31 : a.N < 2 ^ 31 := by omega
  have hn31 : a.n < 2 ^ 31 := by omega
  have hnt31 : a.nt < 2 ^ 31 := by omega
  have hDD : I 16 4 * I 16 5 = nI (a.P * a.N) := by rw [C.hP, C.hN, pk_mul]
  have hvn : ∀ j, j < a.n → A 32 j = nI (a.va j) ∧ a.va j < 2 ^ 20 := fun j hj => ⟨C.hva j hj, by have := V.va9 j hj; omega⟩
  refine X 200 _ _ _ _ _ _ _ _ _ ?_
  refine c_isDay X hD31 hDD (fun d0 hd ed => ?_) (fun zd => ?_)
  · subst ed
    refine And.intro (fun q => absurd q (by decide)) (fun _ => ?_)
    refine c_isBetween X (fun z1 z2 => ?_) (fun zm => ?_)
    · have zm := And.intro z1 z2
      refine And.intro (fun _ => ?_) (fun q => absurd q (by decide))
      refine c_leastFor X hnt4 C.hnt C.hP C.hN hNP (by omega) ?_
      rw [ixN_s hd hD31] at h
      simp only [an_needs, if_pos zm] at h
      have h2 := h _ _ (fC.refl _ _)
      rw [← z_needs C G hd zm] at h2
      exact h2
    · refine And.intro (fun q => absurd (by decide) q) (fun _ => ?_)
      rw [ixN_s hd hD31] at h
      simp only [an_needs, if_neg zm] at h
      exact h _ _ (fC.refl _ _)
  · refine And.intro (fun _ => ?_) (fun q => absurd (by decide) q)
    rw [ixN_n hD31 zd] at h
    have h2 := h _ _ (fC.refl _ _)
    exact h2
set_option maxRecDepth 20000 in
theorem k_tiltFor {J : mJ} (X : mRules J) {I A : mI} {B : mB} {w f : Nat} {R : mR} {a : Ac} (C : CR a I A B) (G : Gd a) (hn2 : a.n ≤ 220) {t g : Int32} (h : qC w f I A B R (some (.int (an_tiltFor a (ixN a.nt t) g)))) : J n_V_tiltFor 0 [.ref 0, .int t, .int g] [] I A B (pk w f) R := by
  have V := G.V
  have hP40 := V.P40
  have hN8 := V.N8
  have hnt4 := V.nt4
  have hcN := V.cN
  have hK1 := V.K1
  have hK4 := V.K4
  have hPN := D320 V
  have hNP : a.N * a.P ≤ 320 := by rw [Nat.mul_comm]; exact hPN
  have hD31 : a.P * a.N < 2 ^ 31 := by omega
  have hN31 : a.N < 2 ^ 31 := by omega
  have hn31 : a.n < 2 ^ 31 := by omega
  have hnt31 : a.nt < 2 ^ 31 := by omega
  have hDD : I 16 4 * I 16 5 = nI (a.P * a.N) := by rw [C.hP, C.hN, pk_mul]
  have hvn : ∀ j, j < a.n → A 32 j = nI (a.va j) ∧ a.va j < 2 ^ 20 := fun j hj => ⟨C.hva j hj, by have := V.va9 j hj; omega⟩
  refine X 200 _ _ _ _ _ _ _ _ _ ?_
  refine c_isTier X hnt31 C.hnt (fun t0 ht et => ?_) (fun zt => ?_)
  · subst et
    refine And.intro (fun q => absurd q (by decide)) (fun _ => ?_)
    refine c_isBetween X (fun z1 z2 => ?_) (fun zm => ?_)
    · have zm := And.intro z1 z2
      refine And.intro (fun _ => ?_) (fun q => absurd q (by decide))
      refine c_leastTilt X hnt4 C.hnt C.hP C.hN hNP (by omega) (t0 := t0) (by omega) ?_
      rw [ixN_s ht hnt31] at h
      simp only [an_tiltFor, if_pos zm] at h
      have h2 := h _ _ (fC.refl _ _)
      rw [← z_tiltFor C G ht zm] at h2
      exact h2
    · refine And.intro (fun q => absurd (by decide) q) (fun _ => ?_)
      rw [ixN_s ht hnt31] at h
      simp only [an_tiltFor, if_neg zm] at h
      exact h _ _ (fC.refl _ _)
  · refine And.intro (fun _ => ?_) (fun q => absurd (by decide) q)
    rw [ixN_n hnt31 zt] at h
    have h2 := h _ _ (fC.refl _ _)
    exact h2
set_option maxRecDepth 20000 in
theorem k_rights {J : mJ} (X : mRules J) {I A : mI} {B : mB} {w f : Nat} {R : mR} {a : Ac} (C : CR a I A B) (G : Gd a) (hn2 : a.n ≤ 220) {bk : Bool} (hbN : bk = false → a.N = 0) (h : qC w f I A B R (some (.int (an_rights a bk)))) : J n_V_rights 0 [.ref 0] [] I A B (pk w f) R := by
  have V := G.V
  have hP40 := V.P40
  have hN8 := V.N8
  have hnt4 := V.nt4
  have hcN := V.cN
  have hK1 := V.K1
  have hK4 := V.K4
  have hPN := D320 V
  have hNP : a.N * a.P ≤ 320 := by rw [Nat.mul_comm]; exact hPN
  have hD31 : a.P * a.N < 2 ^ 31 := by omega
  have hN31 : a.N < 2 ^ 31 := by omega
  have hn31 : a.n < 2 ^ 31 := by omega
  have hnt31 : a.nt < 2 ^ 31 := by omega
  have hDD : I 16 4 * I 16 5 = nI (a.P * a.N) := by rw [C.hP, C.hN, pk_mul]
  have hvn : ∀ j, j < a.n → A 32 j = nI (a.va j) ∧ a.va j < 2 ^ 20 := fun j hj => ⟨C.hva j hj, by have := V.va9 j hj; omega⟩
  refine X 200 _ _ _ _ _ _ _ _ _ ?_
  refine c_hasOpen X (fun zo0 => ?_) (fun zo0 => ?_)
  · have zo : a.c < a.N := by rw [C.hc, C.hN, nI_ltI (by omega) (by omega)] at zo0; exact zo0
    refine And.intro (fun q => absurd q (by decide)) (fun _ => ?_)
    refine c_correctionsNow X hnt4 C.hnt C.hP C.hN hNP (by omega) hn2 C.hn C.hc hcN (C.hK (by omega)) hK1 hK4 hDD hPN hP40 ?_
    have hb2 : bk = true := by cases bk with | true => rfl | false => exact absurd (hbN rfl) (by omega)
    subst hb2
    simp only [an_rights, if_pos zo] at h
    have h2 := h A (crs A a.nt a.P (a.P * a.N) a.K a.n B a.c) (fC.b37 (fun k hk => crs_b hk))
    rw [← z_rights C G (by omega)] at h2
    exact h2
  · have zo : ¬ a.c < a.N := by rw [C.hc, C.hN, nI_ltI (by omega) (by omega)] at zo0; exact zo0
    refine And.intro (fun _ => ?_) (fun q => absurd (by decide) q)
    have e9 : an_rights a bk = -2 := by cases bk with | true => exact if_neg zo | false => rfl
    rw [e9] at h
    exact h _ _ (fC.refl _ _)
set_option maxRecDepth 20000 in
theorem k_righted {J : mJ} (X : mRules J) {I A : mI} {B : mB} {w f : Nat} {R : mR} {a : Ac} (C : CR a I A B) (G : Gd a) (hn2 : a.n ≤ 220) {bk : Bool} (hbN : bk = false → a.N = 0) (h : qC w f I A B R (some (.long (an_righted a bk)))) : J n_V_righted 0 [.ref 0] [] I A B (pk w f) R := by
  have V := G.V
  have hP40 := V.P40
  have hN8 := V.N8
  have hnt4 := V.nt4
  have hcN := V.cN
  have hK1 := V.K1
  have hK4 := V.K4
  have hPN := D320 V
  have hNP : a.N * a.P ≤ 320 := by rw [Nat.mul_comm]; exact hPN
  have hD31 : a.P * a.N < 2 ^ 31 := by omega
  have hN31 : a.N < 2 ^ 31 := by omega
  have hn31 : a.n < 2 ^ 31 := by omega
  have hnt31 : a.nt < 2 ^ 31 := by omega
  have hDD : I 16 4 * I 16 5 = nI (a.P * a.N) := by rw [C.hP, C.hN, pk_mul]
  have hvn : ∀ j, j < a.n → A 32 j = nI (a.va j) ∧ a.va j < 2 ^ 20 := fun j hj => ⟨C.hva j hj, by have := V.va9 j hj; omega⟩
  refine X 200 _ _ _ _ _ _ _ _ _ ?_
  refine c_hasOpen X (fun zo0 => ?_) (fun zo0 => ?_)
  · have zo : a.c < a.N := by rw [C.hc, C.hN, nI_ltI (by omega) (by omega)] at zo0; exact zo0
    refine And.intro (fun q => absurd q (by decide)) (fun _ => ?_)
    refine c_correctedNow X hnt4 C.hnt C.hP C.hN hNP (by omega) hn2 C.hn C.hc hcN (C.hK (by omega)) hK1 hK4 hDD hPN hP40 ?_
    have hb2 : bk = true := by cases bk with | true => rfl | false => exact absurd (hbN rfl) (by omega)
    subst hb2
    simp only [an_righted, if_pos zo] at h
    have h2 := h A (crs A a.nt a.P (a.P * a.N) a.K a.n B a.c) (fC.b37 (fun k hk => crs_b hk))
    rw [← z_righted C G (by omega)] at h2
    exact h2
  · have zo : ¬ a.c < a.N := by rw [C.hc, C.hN, nI_ltI (by omega) (by omega)] at zo0; exact zo0
    refine And.intro (fun _ => ?_) (fun q => absurd (by decide) q)
    have e9 : an_righted a bk = NS := by cases bk with | true => exact if_neg zo | false => rfl
    rw [e9] at h
    exact h _ _ (fC.refl _ _)
set_option maxRecDepth 20000 in
theorem c_canPlan {J : mJ} (X : mRules J) {I A : mI} {B : mB} {w f : Nat} {R : mR} {a : Ac} (C : CR a I A B) (G : Gd a) (hn2 : a.n ≤ 220) {d n : Int32} (h1 : ∀ d0 n0, d = nI d0 → n = nI n0 → d0 < a.P * a.N → 1 ≤ n0 → n0 ≤ 8 → d0 + (n0 - 1) * a.P < a.P * a.N → a.c < a.N → cpl a d n = some (d0, n0) → R (some (.int 1)) I A B (pk w f)) (h0 : cpl a d n = none → R (some (.int 0)) I A B (pk w f)) : J n_V_canPlan 0 [.ref 0, .int d, .int n] [] I A B (pk w f) R := by
  have V := G.V
  have hP40 := V.P40
  have hN8 := V.N8
  have hnt4 := V.nt4
  have hcN := V.cN
  have hK1 := V.K1
  have hK4 := V.K4
  have hPN := D320 V
  have hNP : a.N * a.P ≤ 320 := by rw [Nat.mul_comm]; exact hPN
  have hD31 : a.P * a.N < 2 ^ 31 := by omega
  have hN31 : a.N < 2 ^ 31 := by omega
  have hn31 : a.n < 2 ^ 31 := by omega
  have hnt31 : a.nt < 2 ^ 31 := by omega
  have hDD : I 16 4 * I 16 5 = nI (a.P * a.N) := by rw [C.hP, C.hN, pk_mul]
  have hvn : ∀ j, j < a.n → A 32 j = nI (a.va j) ∧ a.va j < 2 ^ 20 := fun j hj => ⟨C.hva j hj, by have := V.va9 j hj; omega⟩
  refine X 200 _ _ _ _ _ _ _ _ _ ?_
  refine c_hasOpen X (fun zo0 => ?_) (fun zo0 => ?_)
  · have zo : a.c < a.N := by rw [C.hc, C.hN, nI_ltI (by omega) (by omega)] at zo0; exact zo0
    refine And.intro (fun q => absurd q (by decide)) (fun _ => ?_)
    refine c_isDay X hD31 hDD (fun d0 hd ed => ?_) (fun zd => ?_)
    · subst ed
      refine And.intro (fun q => absurd q (by decide)) (fun _ => ?_)
      refine c_isBetween X (fun z1 z2 => ?_) (fun zm => ?_)
      · have zm : (1 : Int32) ≤ n ∧ n ≤ 8 := And.intro z1 z2
        obtain ⟨n0, hn1, hn2b, en⟩ := btw8 zm
        subst en
        have e9 : ixN 9 (nI n0) = some (n0 - 1 + 1) := by rw [ixN_s (by omega) (by decide)]; congr 1; omega
        refine And.intro (fun _ => ?_) (fun q => absurd q (by decide))
        have e21 : nI d0 + (nI n0 - 1) * I 16 4 = nI (d0 + (n0 - 1) * a.P) := by rw [C.hP, show nI n0 - 1 = nI (n0 - 1) from pk_sub (b := 1) (by omega), pk_mul, nI_add]
        have hmu := Nat.mul_le_mul (show n0 - 1 ≤ 8 by omega) hP40
        refine c_isDay X hD31 hDD (fun e0 he ee => ?_) (fun ze => ?_)
        · have he2 : d0 + (n0 - 1) * a.P < a.P * a.N := by have := (nI_eq (by omega) (by omega)).mp (e21.symm.trans ee); omega
          refine And.intro (Or.inr rfl) ?_
          exact h1 d0 n0 rfl rfl hd hn1 hn2b he2 zo (by unfold cpl; rw [ixN_s hd hD31, e9]; refine (if_pos ⟨he2, zo⟩).trans ?_; rw [show n0 - 1 + 1 = n0 by omega])
        · have he2 : ¬ d0 + (n0 - 1) * a.P < a.P * a.N := fun z => ze _ z e21
          refine And.intro (Or.inl rfl) ?_
          exact h0 (by unfold cpl; rw [ixN_s hd hD31, e9]; exact if_neg (fun z => he2 z.1))
      · refine And.intro (fun q => absurd (by decide) q) (fun _ => ?_)
        refine And.intro (Or.inl rfl) ?_
        exact h0 (by unfold cpl; rw [ixN_s hd hD31]; rcases btw8n zm with z | z <;> rw [z])
    · refine And.intro (fun _ => ?_) (fun q => absurd (by decide) q)
      refine And.intro (Or.inl rfl) ?_
      exact h0 (by unfold cpl; rw [ixN_n hD31 zd])
  · have zo : ¬ a.c < a.N := by rw [C.hc, C.hN, nI_ltI (by omega) (by omega)] at zo0; exact zo0
    refine And.intro (fun _ => ?_) (fun q => absurd (by decide) q)
    refine And.intro (Or.inl rfl) ?_
    exact h0 (by
      unfold cpl
      rcases ixN_c hD31 d with ⟨k, _, _, e2⟩ | ⟨_, e2⟩
      · rw [e2]
        rcases ixN_c (N := 9) (by decide) n with ⟨j, _, _, e4⟩ | ⟨_, e4⟩
        · rw [e4]
          cases j with
          | zero => rfl
          | succ m => exact if_neg (fun z => zo z.2)
        · rw [e4]
      · rw [e2])
set_option maxRecDepth 20000 in
theorem k_settled {J : mJ} (X : mRules J) {I A : mI} {B : mB} {w f : Nat} {R : mR} {a : Ac} (C : CR a I A B) (G : Gd a) (hn2 : a.n ≤ 220) (hc6 : ct (fun j => decide (¬ (a.so j = 1 ∨ a.so j = 2))) a.n + 8 ≤ 80) {bk : Bool} (hbk : I 7 1 = 0 ↔ bk = false) (h : qC w f I A B R (some (.long (an_settled a bk)))) : J n_V_settled 0 [.ref 0] [] I A B (pk w f) R := by
  have V := G.V
  have hP40 := V.P40
  have hN8 := V.N8
  have hnt4 := V.nt4
  have hcN := V.cN
  have hK1 := V.K1
  have hK4 := V.K4
  have hPN := D320 V
  have hNP : a.N * a.P ≤ 320 := by rw [Nat.mul_comm]; exact hPN
  have hD31 : a.P * a.N < 2 ^ 31 := by omega
  have hN31 : a.N < 2 ^ 31 := by omega
  have hn31 : a.n < 2 ^ 31 := by omega
  have hnt31 : a.nt < 2 ^ 31 := by omega
  have hDD : I 16 4 * I 16 5 = nI (a.P * a.N) := by rw [C.hP, C.hN, pk_mul]
  have hvn : ∀ j, j < a.n → A 32 j = nI (a.va j) ∧ a.va j < 2 ^ 20 := fun j hj => ⟨C.hva j hj, by have := V.va9 j hj; omega⟩
  refine X 200 _ _ _ _ _ _ _ _ _ ?_
  refine c_noBook X (fun zb => ?_) (fun zb => ?_)
  · have zb2 := hbk.mp zb
    subst zb2
    refine And.intro (fun q => absurd q (by decide)) (fun _ => ?_)
    have h2 := h _ _ (fC.refl _ _)
    exact h2
  · have zb2 : bk = true := by cases bk with | true => rfl | false => exact absurd (hbk.mpr rfl) zb
    subst zb2
    refine And.intro (fun _ => ?_) (fun q => absurd (by decide) q)
    refine c_hasOpen X (fun zo0 => ?_) (fun zo0 => ?_)
    · have zo : a.c < a.N := by rw [C.hc, C.hN, nI_ltI (by omega) (by omega)] at zo0; exact zo0
      refine And.intro (fun q => absurd q (by decide)) (fun _ => ?_)
      refine c_settlementWith X hnt4 C.hnt C.hP C.hN hNP (by omega) hn2 C.hn (C.hK (by omega)) hK1 hK4 hDD hPN hP40 hvn (dy := 0) (m := 0) rfl (by omega) (by omega) ?_
      have h2 := h A (cps A a.nt a.P (a.P * a.N) a.K (plr A B a.va a.P (a.P * a.N) a.n 0 0 (0 : Int32).toInt64) a.N) (fC.b37 (fun k hk => stl_r hk))
      have e9 : an_settled a true = _ := (z_settled C G (by omega) hc6 zo).symm
      rw [e9] at h2
      exact h2
    · have zo : ¬ a.c < a.N := by rw [C.hc, C.hN, nI_ltI (by omega) (by omega)] at zo0; exact zo0
      refine And.intro (fun _ => ?_) (fun q => absurd (by decide) q)
      refine c_sum X hn2 C.hn ?_
      have h2 := h _ _ (fC.refl _ _)
      have e9 : an_settled a true = sm (fun j => B 31 j) a.n := by rw [z_total C]; show zL (zto (zset (a.N - a.c) a)) = _; rw [show a.N - a.c = 0 by omega]; rfl
      rw [e9] at h2
      exact h2
set_option maxRecDepth 20000 in
theorem k_ideal {J : mJ} (X : mRules J) {I A : mI} {B : mB} {w f : Nat} {R : mR} {a : Ac} (C : CR a I A B) (G : Gd a) (hn2 : a.n ≤ 220) (T : Tn a) {p : Int32} (h : qC w f I A B R (some (.long (an_ideal a (ixN a.N p))))) : J n_V_ideal 0 [.ref 0, .int p] [] I A B (pk w f) R := by
  have V := G.V
  have hP40 := V.P40
  have hN8 := V.N8
  have hnt4 := V.nt4
  have hcN := V.cN
  have hK1 := V.K1
  have hK4 := V.K4
  have hPN := D320 V
  have hNP : a.N * a.P ≤ 320 := by rw [Nat.mul_comm]; exact hPN
  have hD31 : a.P * a.N < 2 ^ 31 := by omega
  have hN31 : a.N < 2 ^ 31 := by omega
  have hn31 : a.n < 2 ^ 31 := by omega
  have hnt31 : a.nt < 2 ^ 31 := by omega
  have hDD : I 16 4 * I 16 5 = nI (a.P * a.N) := by rw [C.hP, C.hN, pk_mul]
  have hvn : ∀ j, j < a.n → A 32 j = nI (a.va j) ∧ a.va j < 2 ^ 20 := fun j hj => ⟨C.hva j hj, by have := V.va9 j hj; omega⟩
  refine X 200 _ _ _ _ _ _ _ _ _ ?_
  refine c_isPeriod X hN31 C.hN (fun p0 hp ep => ?_) (fun zp => ?_)
  · subst ep
    refine And.intro (fun q => absurd q (by decide)) (fun _ => ?_)
    refine c_idealInterest X hnt4 C.hnt C.hP C.hN hNP (by omega) hn2 C.hn (C.hK (by omega)) hK1 hK4 hDD hPN hP40 hvn rfl hp ?_
    rw [ixN_s hp hN31] at h
    have h2 := h A (cps A a.nt a.P (a.P * a.N) a.K (tpS A B a.va (a.P * a.N) a.n 320) p0) (fC.b37 (fun k hk => (cps_b hk).trans (tpS_b hk)))
    have e9 : an_ideal a (some p0) = _ := (congrArg zL (ie_bl V T p0).2.1).trans ((cps_z C G G (Sr.refl a) (fun k hk => tpS_b hk) (fun d hd => tpS_z C V hd) p0 (by omega)).2 hp).symm
    rw [e9] at h2
    exact h2
  · refine And.intro (fun _ => ?_) (fun q => absurd (by decide) q)
    rw [ixN_n hN31 zp] at h
    have h2 := h _ _ (fC.refl _ _)
    exact h2
set_option maxRecDepth 20000 in
theorem k_planned {J : mJ} (X : mRules J) {I A : mI} {B : mB} {w f : Nat} {R : mR} {a : Ac} (C : CR a I A B) (G : Gd a) (hn2 : a.n ≤ 220) (hc6 : ct (fun j => decide (¬ (a.so j = 1 ∨ a.so j = 2))) a.n + 8 ≤ 80) {d n m : Int32} (h : qC w f I A B R (some (.long (an_planned a (cpl a d n) (ixN 100000 m))))) : J n_V_planned 0 [.ref 0, .int d, .int n, .int m] [] I A B (pk w f) R := by
  have V := G.V
  have hP40 := V.P40
  have hN8 := V.N8
  have hnt4 := V.nt4
  have hcN := V.cN
  have hK1 := V.K1
  have hK4 := V.K4
  have hPN := D320 V
  have hNP : a.N * a.P ≤ 320 := by rw [Nat.mul_comm]; exact hPN
  have hD31 : a.P * a.N < 2 ^ 31 := by omega
  have hN31 : a.N < 2 ^ 31 := by omega
  have hn31 : a.n < 2 ^ 31 := by omega
  have hnt31 : a.nt < 2 ^ 31 := by omega
  have hDD : I 16 4 * I 16 5 = nI (a.P * a.N) := by rw [C.hP, C.hN, pk_mul]
  have hvn : ∀ j, j < a.n → A 32 j = nI (a.va j) ∧ a.va j < 2 ^ 20 := fun j hj => ⟨C.hva j hj, by have := V.va9 j hj; omega⟩
  refine X 200 _ _ _ _ _ _ _ _ _ ?_
  refine c_canPlan X C G hn2 (fun d0 k0 ed ek hd hk1 hk8 hdk zo ec => ?_) (fun ec => ?_)
  · subst ed; subst ek
    refine And.intro (fun q => absurd q (by decide)) (fun _ => ?_)
    refine c_isBetween X (fun z1 z2 => ?_) (fun zm => ?_)
    · have zm := And.intro z1 z2
      refine And.intro (fun _ => ?_) (fun q => absurd q (by decide))
      refine c_settlementWith X hnt4 C.hnt C.hP C.hN hNP (by omega) hn2 C.hn (C.hK (by omega)) hK1 hK4 hDD hPN hP40 hvn (dy := d0) (m := k0) rfl (by omega) (by omega) ?_
      obtain ⟨m0, hm, em⟩ := btw_ix.mp zm
      subst em
      rw [ec, ixN_s hm (by decide)] at h
      have h2 := h A (cps A a.nt a.P (a.P * a.N) a.K (plr A B a.va a.P (a.P * a.N) a.n d0 k0 (nI m0).toInt64) a.N) (fC.b37 (fun k hk => stl_r hk))
      have e9 : an_planned a (some (d0, k0)) (some m0) = _ := (z_plan C G (by omega) hc6 zo (d0 := d0) (k := k0) (m := m0) (by omega) hk8 (by omega) rfl).symm
      rw [e9] at h2
      exact h2
    · refine And.intro (fun q => absurd (by decide) q) (fun _ => ?_)
      rw [ec, ixN_n (N := 100000) (by decide) (fun k hk e => zm (btw_ix.mpr ⟨k, hk, e⟩))] at h
      exact h _ _ (fC.refl _ _)
  · refine And.intro (fun _ => ?_) (fun q => absurd (by decide) q)
    rw [ec] at h
    exact h _ _ (fC.refl _ _)
set_option maxRecDepth 20000 in
theorem k_plan {J : mJ} (X : mRules J) {I A : mI} {B : mB} {w f : Nat} {R : mR} {a : Ac} (C : CR a I A B) (G : Gd a) (hn2 : a.n ≤ 220) (hc6 : ct (fun j => decide (¬ (a.so j = 1 ∨ a.so j = 2))) a.n + 8 ≤ 80) {d n : Int32} (h : qC w f I A B R (some (.int (an_plan a (cpl a d n))))) : J n_V_plan 0 [.ref 0, .int d, .int n] [] I A B (pk w f) R := by
  have V := G.V
  have hP40 := V.P40
  have hN8 := V.N8
  have hnt4 := V.nt4
  have hcN := V.cN
  have hK1 := V.K1
  have hK4 := V.K4
  have hPN := D320 V
  have hNP : a.N * a.P ≤ 320 := by rw [Nat.mul_comm]; exact hPN
  have hD31 : a.P * a.N < 2 ^ 31 := by omega
  have hN31 : a.N < 2 ^ 31 := by omega
  have hn31 : a.n < 2 ^ 31 := by omega
  have hnt31 : a.nt < 2 ^ 31 := by omega
  have hDD : I 16 4 * I 16 5 = nI (a.P * a.N) := by rw [C.hP, C.hN, pk_mul]
  have hvn : ∀ j, j < a.n → A 32 j = nI (a.va j) ∧ a.va j < 2 ^ 20 := fun j hj => ⟨C.hva j hj, by have := V.va9 j hj; omega⟩
  refine X 200 _ _ _ _ _ _ _ _ _ ?_
  refine c_canPlan X C G hn2 (fun d0 k0 ed ek hd hk1 hk8 hdk zo ec => ?_) (fun ec => ?_)
  · subst ed; subst ek
    refine And.intro (fun q => absurd q (by decide)) (fun _ => ?_)
    refine c_leastPlan X hnt4 C.hnt C.hP C.hN hNP (by omega) hn2 C.hn (C.hK (by omega)) hK1 hK4 hDD hPN hP40 hvn (dy := d0) (m := k0) rfl (by omega) (by omega) (fun Bv hv => ?_)
    rw [ec] at h
    have h2 := h _ _ (fC.b37 hv)
    have e9 : an_plan a (some (d0, k0)) = _ := (z_leastPlan C G (by omega) hc6 zo (d0 := d0) (k := k0) (by omega) hk8).symm
    rw [e9] at h2
    exact h2
  · refine And.intro (fun _ => ?_) (fun q => absurd (by decide) q)
    rw [ec] at h
    exact h _ _ (fC.refl _ _)
