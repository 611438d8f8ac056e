/-! contracts of the reference: further questions about balances (written by wip/whole/gm4.py) -/
set_option maxRecDepth 20000 in
theorem r_lowest {J : mJ} (X : mRules J) {I A : mI} {B : mB} {w f : Nat} {R : mR} {a : Ac} (M : MR a w I A B) (V : Vw a) {bk : Bool} (hbk : 0 < A w 3 ↔ bk = true) (hD1 : bk = true → 1 ≤ a.P * a.N) (h : qM a w f I A B R (some (.long (an_lowest a bk)))) : J n_M_lowest 0 [.ref 43, .float 0, .float 0, .float 0] [] I A B (pk w f) R := by
  have hP40 := V.P40
  have hN8 := V.N8
  have hn4 := V.n4
  have hnt4 := V.nt4
  have hcN := V.cN
  have hPN := Nat.mul_le_mul hP40 hN8
  have hD31 : a.P * a.N < 2 ^ 31 := by omega
  have hN31 : a.N < 2 ^ 31 := by omega
  have hn31 : a.n < 2 ^ 31 := by omega
  have hnt31 : a.nt < 2 ^ 31 := by omega
  have G0 : ∀ (h1D : 1 ≤ a.P * a.N) (Bv : mB) (M1 : MR a w I A Bv) (hv1 : ∀ r, r ≠ 59 → Bv r = B r) (hv2 : ∀ d, d < 320 → Bv 59 d = zL (zbl a d)) (h : qM a w f I A B R (some (.long (an_lowest a true)))), ∀ i, i ≤ (a.P * a.N - 1) → ∀ (s : Int64) (x : Int32), s = mnu (zB a) 0 i → x = nI (1 + i) → J n_M_lowest 24 [.ref 43, .long s, .float 0, .int x] [] I A Bv (pk w f) R := by
    intro h1D Bv M1 hv1 hv2 h
    have G : ∀ i, i ≤ (a.P * a.N - 1) → ∀ (s : Int64) (x : Int32), s = mnu (zB a) 0 i → x = nI (1 + i) → J n_M_lowest 24 [.ref 43, .long s, .float 0, .int x] [] I A Bv (pk w f) R := by
      refine lpz (fun i => ∀ (s : Int64) (x : Int32), s = mnu (zB a) 0 i → x = nI (1 + i) → J n_M_lowest 24 [.ref 43, .long s, .float 0, .int x] [] I A Bv (pk w f) R) (fun i hi ih => ?_)
      intro s x es ex
      subst es; subst ex
      refine X 200 _ _ _ _ _ _ _ _ _ ?_
      refine Exists.intro _ (And.intro M.hw (And.intro (vlit rfl) ?_))
      refine Exists.intro _ (And.intro M.hw (And.intro (vlit rfl) ?_))
      refine And.intro (fun q1 => ?_) (fun q1 => ?_)
      · have q0 : A w 0 * A w 1 ≤ nI (1 + i) := q1
        rw [M.hP, M.hN, pk_mul] at q0
        have e : i = a.P * a.N - 1 := by have := (nI_leI (by omega) (by omega)).mp q0; omega
        subst e
        exact h _ _ _ M1 (fM.b59 hv1)
      · have q0 : ¬ A w 0 * A w 1 ≤ nI (1 + i) := q1
        rw [M.hP, M.hN, pk_mul] at q0
        have hl : i < a.P * a.N - 1 := by have : 1 + i < a.P * a.N := Nat.lt_of_not_le (fun z => q0 (nI_le z (by omega))); omega
        have hb31 : (nI (1 + i)).toNatClampNeg = 1 + i := cl (by omega)
        have e5 : Bv 59 (1 + i) = zB a (1 + i) := hv2 _ (by omega)
        refine Exists.intro _ (And.intro rfl (And.intro (vin (by omega) (by omega)) ?_))
        exact ih hl _ _ (by rw [hb31, e5, show 1 + i = 0 + i + 1 by omega]; rfl) (nI_1 _)
    exact G
  refine X 200 _ _ _ _ _ _ _ _ _ ?_
  refine c_MisBk X M.hw hbk (fun zb => ?_) (fun zb => ?_)
  · subst zb
    refine And.intro (fun _ => ?_) (fun q => absurd q (by decide))
    refine c_Mlays X M V (fun Bv hv1 hv2 => ?_)
    have M1 := M.fB (hv1 55 (by decide))
    refine Exists.intro _ (And.intro rfl (And.intro (vlit rfl) ?_))
    exact G0 (hD1 rfl) Bv M1 hv1 hv2 h 0 (Nat.zero_le _) _ _ (hv2 0 (by omega)) rfl
  · subst zb
    refine And.intro (fun q => absurd (by decide) q) (fun _ => ?_)
    exact h _ _ _ M (fM.refl _ _ _)
theorem lf_p {a : Ac} (q : ¬ (if -an_lowest a true < 0 then 0 else -an_lowest a true) ≤ 99999) : an_limitFor a true = -1 := if_pos (Int64.not_le.mp q)
theorem lf_n {a : Ac} (q : (if -an_lowest a true < 0 then 0 else -an_lowest a true) ≤ 99999) : an_limitFor a true = (if -an_lowest a true < 0 then 0 else -an_lowest a true).toInt32 := if_neg (Int64.not_lt.mpr q)
set_option maxRecDepth 20000 in
theorem r_limitFor {J : mJ} (X : mRules J) {I A : mI} {B : mB} {w f : Nat} {R : mR} {a : Ac} (M : MR a w I A B) (V : Vw a) {bk : Bool} (hbk : 0 < A w 3 ↔ bk = true) (hD1 : bk = true → 1 ≤ a.P * a.N) (h : qM a w f I A B R (some (.int (an_limitFor a bk)))) : J n_M_limitFor 0 [.ref 43, .float 0, .float 0] [] I A B (pk w f) R := by
  have hP40 := V.P40
  have hN8 := V.N8
  have hn4 := V.n4
  have hnt4 := V.nt4
  have hcN := V.cN
  have hPN := Nat.mul_le_mul hP40 hN8
  have hD31 : a.P * a.N < 2 ^ 31 := by omega
  have hN31 : a.N < 2 ^ 31 := by omega
  have hn31 : a.n < 2 ^ 31 := by omega
  have hnt31 : a.nt < 2 ^ 31 := by omega
  refine X 200 _ _ _ _ _ _ _ _ _ ?_
  refine c_MisBk X M.hw hbk (fun zb => ?_) (fun zb => ?_)
  · subst zb
    refine And.intro (fun _ => ?_) (fun q => absurd q (by decide))
    refine r_lowest X M V hbk hD1 (fun I1 A1 B1 M1 hf1 => ?_)
    refine And.intro (fun q1 => ?_) (fun q1 => ?_)
    · have h2 := h _ _ _ M1 hf1
      first | (rw [lf_n q1] at h2; exact h2) | (rw [lf_p q1] at h2; exact h2)
    · have h2 := h _ _ _ M1 hf1
      first | (rw [lf_n q1] at h2; exact h2) | (rw [lf_p q1] at h2; exact h2)
  · subst zb
    refine And.intro (fun q => absurd (by decide) q) (fun _ => ?_)
    exact h _ _ _ M (fM.refl _ _ _)
theorem by_i {a : Ac} (V : Vw a) {d : Nat} : zL (-zbl a d) ≤ (zN (zhl a 6 d)).toInt64 ↔ zby a d = false := by
  have h6 := zhl_b V (r := 6) (d := d) (by omega)
  simp only [if_true] at h6
  have hb := zbl_b V d
  rw [zn_l (by omega) (by omega), zl_le (by omega) (by omega) (by omega) (by omega), zby, decide_eq_false_iff_not]
  omega
set_option maxRecDepth 20000 in
theorem c_MisBeyond {J : mJ} (X : mRules J) {I A : mI} {B : mB} {w f : Nat} {R : mR} {a : Ac} (M : MR a w I A B) (V : Vw a) {d : Nat} (hd : d < 320) (hB : B 59 d = zL (zbl a d)) (h1 : zby a d = true → R (some (.int 1)) I A B (pk w f)) (h0 : zby a d = false → R (some (.int 0)) I A B (pk w f)) : J n_M_isBeyond 0 [.ref 43, .int (nI d)] [] I A B (pk w f) R := by
  refine X 200 _ _ _ _ _ _ _ _ _ ?_
  refine Exists.intro _ (And.intro rfl (And.intro (vin (by omega) (by omega)) ?_))
  refine c_Mholds X M V (r := 6) (d := d) (by omega) (by omega) ?_
  refine And.intro (fun q1 => ?_) (fun q1 => ?_)
  · refine And.intro (Or.inl rfl) ?_
    rw [cl (by omega), hB, zL_neg, by_i V] at q1
    first | exact h0 q1 | exact h1 (by simpa using q1)
  · refine And.intro (Or.inr rfl) ?_
    rw [cl (by omega), hB, zL_neg, by_i V] at q1
    first | exact h0 q1 | exact h1 (by simpa using q1)
set_option maxRecDepth 20000 in
theorem r_beyond {J : mJ} (X : mRules J) {I A : mI} {B : mB} {w f : Nat} {R : mR} {a : Ac} (M : MR a w I A B) (V : Vw a) {bk : Bool} (hbk : 0 < A w 3 ↔ bk = true) (h : qM a w f I A B R (some (.int (an_beyond a bk)))) : J n_M_beyond 0 [.ref 43, .float 0, .float 0] [] I A B (pk w f) R := by
  have hP40 := V.P40
  have hN8 := V.N8
  have hn4 := V.n4
  have hnt4 := V.nt4
  have hcN := V.cN
  have hPN := Nat.mul_le_mul hP40 hN8
  have hD31 : a.P * a.N < 2 ^ 31 := by omega
  have hN31 : a.N < 2 ^ 31 := by omega
  have hn31 : a.n < 2 ^ 31 := by omega
  have hnt31 : a.nt < 2 ^ 31 := by omega
  have G0 : ∀ (Bv : mB) (M1 : MR a w I A Bv) (hv1 : ∀ r, r ≠ 59 → Bv r = B r) (hv2 : ∀ d, d < 320 → Bv 59 d = zL (zbl a d)) (h : qM a w f I A B R (some (.int (an_beyond a true)))), ∀ i, i ≤ (a.P * a.N) → ∀ (s : Int32) (x : Int32), s = nI (ct (zby a) i) → x = nI i → J n_M_beyond 18 [.ref 43, .int s, .int x] [] I A Bv (pk w f) R := by
    intro Bv M1 hv1 hv2 h
    have G : ∀ i, i ≤ (a.P * a.N) → ∀ (s : Int32) (x : Int32), s = nI (ct (zby a) i) → x = nI i → J n_M_beyond 18 [.ref 43, .int s, .int x] [] I A Bv (pk w f) R := by
      refine lpz (fun i => ∀ (s : Int32) (x : Int32), s = nI (ct (zby a) i) → x = nI i → J n_M_beyond 18 [.ref 43, .int s, .int x] [] I A Bv (pk w f) R) (fun i hi ih => ?_)
      intro s x es ex
      subst es; subst ex
      refine X 200 _ _ _ _ _ _ _ _ _ ?_
      refine Exists.intro _ (And.intro M.hw (And.intro (vlit rfl) ?_))
      refine Exists.intro _ (And.intro M.hw (And.intro (vlit rfl) ?_))
      refine And.intro (fun q1 => ?_) (fun q1 => ?_)
      · have q0 : A w 0 * A w 1 ≤ nI i := q1
        rw [M.hP, M.hN, pk_mul] at q0
        have e := lpx hi (by omega) q0
        subst e
        exact h _ _ _ M1 (fM.b59 hv1)
      · have q0 : ¬ A w 0 * A w 1 ≤ nI i := q1
        rw [M.hP, M.hN, pk_mul] at q0
        have hl := lpc hi (by omega) q0
        have hb31 : (nI i).toNatClampNeg = i := cl (by omega)
        refine c_MisBeyond X M1 V (d := i) (by omega) (hv2 _ (by omega)) (fun zb => ?_) (fun zb => ?_)
        · refine And.intro (fun q => absurd q (by decide)) (fun _ => ?_)
          exact ih hl _ _ (by rw [ct_t zb]; exact nI_1 _) (nI_1 _)
        · refine And.intro (fun _ => ?_) (fun q => absurd (by decide) q)
          exact ih hl _ _ (by rw [ct_f zb]; exact Int32.add_zero _) (nI_1 _)
    exact G
  refine X 200 _ _ _ _ _ _ _ _ _ ?_
  refine c_MisBk X M.hw hbk (fun zb => ?_) (fun zb => ?_)
  · subst zb
    refine And.intro (fun _ => ?_) (fun q => absurd q (by decide))
    refine c_Mlays X M V (fun Bv hv1 hv2 => ?_)
    have M1 := M.fB (hv1 55 (by decide))
    exact G0 Bv M1 hv1 hv2 h 0 (Nat.zero_le _) _ _ rfl rfl
  · subst zb
    refine And.intro (fun q => absurd (by decide) q) (fun _ => ?_)
    exact h _ _ _ M (fM.refl _ _ _)
set_option maxRecDepth 20000 in
theorem r_first {J : mJ} (X : mRules J) {I A : mI} {B : mB} {w f : Nat} {R : mR} {a : Ac} (M : MR a w I A B) (V : Vw a) {bk : Bool} (hbk : 0 < A w 3 ↔ bk = true) (h : qM a w f I A B R (some (.int (an_first a bk)))) : J n_M_firstBeyond 0 [.ref 43, .float 0] [] I A B (pk w f) R := by
  have hP40 := V.P40
  have hN8 := V.N8
  have hn4 := V.n4
  have hnt4 := V.nt4
  have hcN := V.cN
  have hPN := Nat.mul_le_mul hP40 hN8
  have hD31 : a.P * a.N < 2 ^ 31 := by omega
  have hN31 : a.N < 2 ^ 31 := by omega
  have hn31 : a.n < 2 ^ 31 := by omega
  have hnt31 : a.nt < 2 ^ 31 := by omega
  have G0 : ∀ (Bv : mB) (M1 : MR a w I A Bv) (hv1 : ∀ r, r ≠ 59 → Bv r = B r) (hv2 : ∀ d, d < 320 → Bv 59 d = zL (zbl a d)) (h : qM a w f I A B R (some (.int (an_first a true)))), ∀ i, i ≤ (a.P * a.N) → ∀ (x : Int32), x = nI i → (∀ j, j < i → zby a j = false) → J n_M_firstBeyond 16 [.ref 43, .int x] [] I A Bv (pk w f) R := by
    intro Bv M1 hv1 hv2 h
    have G : ∀ i, i ≤ (a.P * a.N) → ∀ (x : Int32), x = nI i → (∀ j, j < i → zby a j = false) → J n_M_firstBeyond 16 [.ref 43, .int x] [] I A Bv (pk w f) R := by
      refine lpz (fun i => ∀ (x : Int32), x = nI i → (∀ j, j < i → zby a j = false) → J n_M_firstBeyond 16 [.ref 43, .int x] [] I A Bv (pk w f) R) (fun i hi ih => ?_)
      intro x ex hno
      subst ex
      refine X 200 _ _ _ _ _ _ _ _ _ ?_
      refine Exists.intro _ (And.intro M.hw (And.intro (vlit rfl) ?_))
      refine Exists.intro _ (And.intro M.hw (And.intro (vlit rfl) ?_))
      refine And.intro (fun q1 => ?_) (fun q1 => ?_)
      · have q0 : A w 0 * A w 1 ≤ nI i := q1
        rw [M.hP, M.hN, pk_mul] at q0
        have e := lpx hi (by omega) q0
        subst e
        have e2 : an_first a true = -1 := by simp only [an_first]; rw [fd_no hno]; rfl
        rw [e2] at h
        exact h _ _ _ M1 (fM.b59 hv1)
      · have q0 : ¬ A w 0 * A w 1 ≤ nI i := q1
        rw [M.hP, M.hN, pk_mul] at q0
        have hl := lpc hi (by omega) q0
        have hb31 : (nI i).toNatClampNeg = i := cl (by omega)
        refine c_MisBeyond X M1 V (d := i) (by omega) (hv2 _ (by omega)) (fun zb => ?_) (fun zb => ?_)
        · refine And.intro (fun q => absurd q (by decide)) (fun _ => ?_)
          have e2 : an_first a true = nI i := by simp only [an_first]; rw [fd_at hl zb hno]; rfl
          rw [e2] at h
          exact h _ _ _ M1 (fM.b59 hv1)
        · refine And.intro (fun _ => ?_) (fun q => absurd (by decide) q)
          exact ih hl _ (nI_1 _) (all_lt hno zb)
    exact G
  refine X 200 _ _ _ _ _ _ _ _ _ ?_
  refine c_MisBk X M.hw hbk (fun zb => ?_) (fun zb => ?_)
  · subst zb
    refine And.intro (fun _ => ?_) (fun q => absurd q (by decide))
    refine c_Mlays X M V (fun Bv hv1 hv2 => ?_)
    have M1 := M.fB (hv1 55 (by decide))
    exact G0 Bv M1 hv1 hv2 h 0 (Nat.zero_le _) _ rfl (fun j hj => absurd hj (Nat.not_lt_zero j))
  · subst zb
    refine And.intro (fun q => absurd (by decide) q) (fun _ => ?_)
    exact h _ _ _ M (fM.refl _ _ _)
set_option maxRecDepth 20000 in
theorem r_reaches {J : mJ} (X : mRules J) {I A : mI} {B : mB} {w f : Nat} {R : mR} {a : Ac} (M : MR a w I A B) (V : Vw a) {bk : Bool} (hbk : 0 < A w 3 ↔ bk = true) {m : Int32} (h : qM a w f I A B R (some (.int (an_reaches a bk m)))) : J n_M_reaches 0 [.ref 43, .int m, .float 0] [] I A B (pk w f) R := by
  have hP40 := V.P40
  have hN8 := V.N8
  have hn4 := V.n4
  have hnt4 := V.nt4
  have hcN := V.cN
  have hPN := Nat.mul_le_mul hP40 hN8
  have hD31 : a.P * a.N < 2 ^ 31 := by omega
  have hN31 : a.N < 2 ^ 31 := by omega
  have hn31 : a.n < 2 ^ 31 := by omega
  have hnt31 : a.nt < 2 ^ 31 := by omega
  have G0 : ∀ (Bv : mB) (M1 : MR a w I A Bv) (hv1 : ∀ r, r ≠ 59 → Bv r = B r) (hv2 : ∀ d, d < 320 → Bv 59 d = zL (zbl a d)) (h : qM a w f I A B R (some (.int (fI (fd (fun d => decide (m.toInt64 ≤ zB a d)) (a.P * a.N)))))), ∀ i, i ≤ (a.P * a.N) → ∀ (x : Int32), x = nI i → (∀ j, j < i → (fun d => decide (m.toInt64 ≤ zB a d)) j = false) → J n_M_reaches 30 [.ref 43, .int m, .int x] [] I A Bv (pk w f) R := by
    intro Bv M1 hv1 hv2 h
    have G : ∀ i, i ≤ (a.P * a.N) → ∀ (x : Int32), x = nI i → (∀ j, j < i → (fun d => decide (m.toInt64 ≤ zB a d)) j = false) → J n_M_reaches 30 [.ref 43, .int m, .int x] [] I A Bv (pk w f) R := by
      refine lpz (fun i => ∀ (x : Int32), x = nI i → (∀ j, j < i → (fun d => decide (m.toInt64 ≤ zB a d)) j = false) → J n_M_reaches 30 [.ref 43, .int m, .int x] [] I A Bv (pk w f) R) (fun i hi ih => ?_)
      intro x ex hno
      subst ex
      refine X 200 _ _ _ _ _ _ _ _ _ ?_
      refine Exists.intro _ (And.intro M.hw (And.intro (vlit rfl) ?_))
      refine Exists.intro _ (And.intro M.hw (And.intro (vlit rfl) ?_))
      refine And.intro (fun q1 => ?_) (fun q1 => ?_)
      · have q0 : A w 0 * A w 1 ≤ nI i := q1
        rw [M.hP, M.hN, pk_mul] at q0
        have e := lpx hi (by omega) q0
        subst e
        rw [fd_no hno] at h
        exact h _ _ _ M1 (fM.b59 hv1)
      · have q0 : ¬ A w 0 * A w 1 ≤ nI i := q1
        rw [M.hP, M.hN, pk_mul] at q0
        have hl := lpc hi (by omega) q0
        have hb31 : (nI i).toNatClampNeg = i := cl (by omega)
        have e5 : Bv 59 i = zB a i := hv2 _ (by omega)
        refine Exists.intro _ (And.intro rfl (And.intro (vin (by omega) (by omega)) ?_))
        refine And.intro (fun q2 => ?_) (fun q2 => ?_)
        · rw [hb31, e5] at q2
          exact ih hl _ (nI_1 _) (all_lt hno (decide_eq_false (Int64.not_le.mpr q2)))
        · rw [hb31, e5] at q2
          rw [fd_at hl (decide_eq_true (Int64.not_lt.mp q2)) hno] at h
          exact h _ _ _ M1 (fM.b59 hv1)
    exact G
  refine X 200 _ _ _ _ _ _ _ _ _ ?_
  refine c_MisBk X M.hw hbk (fun zb => ?_) (fun zb => ?_)
  · subst zb
    refine And.intro (fun q => absurd q (by decide)) (fun _ => ?_)
    refine c_MinB X (-99999) 99999 (by decide) (by decide) (fun zm => ?_) (fun zm => ?_)
    · refine And.intro (fun _ => ?_) (fun q => absurd q (by decide))
      refine c_Mlays X M V (fun Bv hv1 hv2 => ?_)
      have M1 := M.fB (hv1 55 (by decide))
      simp only [an_reaches, if_pos zm] at h
      exact G0 Bv M1 hv1 hv2 h 0 (Nat.zero_le _) _ rfl (fun j hj => absurd hj (Nat.not_lt_zero j))
    · refine And.intro (fun q => absurd (by decide) q) (fun _ => ?_)
      simp only [an_reaches, if_neg zm] at h
      exact h _ _ _ M (fM.refl _ _ _)
  · subst zb
    refine And.intro (fun _ => ?_) (fun q => absurd (by decide) q)
    exact h _ _ _ M (fM.refl _ _ _)
/-- the least so far, from a day on -/
def rmf (a : Ac) (d : Nat) : Nat → Int64
  | 0 => 9223372036854775807
  | i + 1 => mnu (zR a) d i
theorem zR_z {a : Ac} (V : Vw a) (d : Nat) : zR a d = zL (zbl a d + zhl a 6 d) := by
  have h6 := zhl_b V (r := 6) (d := d) (by omega)
  simp only [if_true] at h6
  unfold zR zB
  rw [zn_l (by omega) (by omega), zL_add]
theorem rmf_s {a : Ac} (V : Vw a) (d : Nat) : ∀ i, (if zR a (d + i) < rmf a d i then zR a (d + i) else rmf a d i) = rmf a d (i + 1)
  | 0 => by
    have h6 := zhl_b V (r := 6) (d := d + 0) (by omega)
    simp only [if_true] at h6
    have hb := zbl_b V (d + 0)
    show (if zR a (d + 0) < 9223372036854775807 then zR a (d + 0) else 9223372036854775807) = zR a d
    rw [if_pos]
    · rfl
    · rw [zR_z V]
      exact (zl_lt (y := 9223372036854775807) (by omega) (by omega) (by decide) (by decide)).mpr (by omega)
  | i + 1 => rfl
set_option maxRecDepth 20000 in
theorem c_MroomFrom {J : mJ} (X : mRules J) {I A : mI} {B : mB} {w f : Nat} {R : mR} {a : Ac} (M : MR a w I A B) (V : Vw a) {d : Nat} (hd : d < a.P * a.N) (h : ∀ B', MR a w I A B' → (∀ r, r ≠ 59 → B' r = B r) → R (some (.long (mnu (zR a) d (a.P * a.N - 1 - d)))) I A B' (pk w f)) : J n_M_roomFrom 0 [.ref 43, .int (nI d), .float 0, .float 0, .float 0] [] I A B (pk w f) R := by
  have hP40 := V.P40
  have hN8 := V.N8
  have hn4 := V.n4
  have hnt4 := V.nt4
  have hcN := V.cN
  have hPN := Nat.mul_le_mul hP40 hN8
  have hD31 : a.P * a.N < 2 ^ 31 := by omega
  have hN31 : a.N < 2 ^ 31 := by omega
  have hn31 : a.n < 2 ^ 31 := by omega
  have hnt31 : a.nt < 2 ^ 31 := by omega
  have G0 : ∀ (Bv : mB) (M1 : MR a w I A Bv) (hv1 : ∀ r, r ≠ 59 → Bv r = B r) (hv2 : ∀ d, d < 320 → Bv 59 d = zL (zbl a d)), ∀ i, i ≤ (a.P * a.N - d) → ∀ (s : Int64) (x : Int32), s = rmf a d i → x = nI (d + i) → J n_M_roomFrom 11 [.ref 43, .int (nI d), .long s, .float 0, .int x] [] I A Bv (pk w f) R := by
    intro Bv M1 hv1 hv2
    have G : ∀ i, i ≤ (a.P * a.N - d) → ∀ (s : Int64) (x : Int32), s = rmf a d i → x = nI (d + i) → J n_M_roomFrom 11 [.ref 43, .int (nI d), .long s, .float 0, .int x] [] I A Bv (pk w f) R := by
      refine lpz (fun i => ∀ (s : Int64) (x : Int32), s = rmf a d i → x = nI (d + i) → J n_M_roomFrom 11 [.ref 43, .int (nI d), .long s, .float 0, .int x] [] I A Bv (pk w f) R) (fun i hi ih => ?_)
      intro s x es ex
      subst es; subst ex
      refine X 200 _ _ _ _ _ _ _ _ _ ?_
      refine Exists.intro _ (And.intro M.hw (And.intro (vlit rfl) ?_))
      refine Exists.intro _ (And.intro M.hw (And.intro (vlit rfl) ?_))
      refine And.intro (fun q1 => ?_) (fun q1 => ?_)
      · have q0 : A w 0 * A w 1 ≤ nI (d + i) := q1
        rw [M.hP, M.hN, pk_mul] at q0
        have e : i = a.P * a.N - d := by have := (nI_leI (by omega) (by omega)).mp q0; omega
        subst e
        rw [show a.P * a.N - d = a.P * a.N - 1 - d + 1 by omega]
        exact h _ M1 hv1
      · have q0 : ¬ A w 0 * A w 1 ≤ nI (d + i) := q1
        rw [M.hP, M.hN, pk_mul] at q0
        have hl : i < a.P * a.N - d := by have : d + i < a.P * a.N := Nat.lt_of_not_le (fun z => q0 (nI_le z (by omega))); omega
        have hb31 : (nI (d + i)).toNatClampNeg = d + i := cl (by omega)
        have e5 : Bv 59 (d + i) = zB a (d + i) := hv2 _ (by omega)
        refine Exists.intro _ (And.intro rfl (And.intro (vin (by omega) (by omega)) ?_))
        refine c_Mholds X M1 V (r := 6) (d := d + i) (by omega) (by omega) ?_
        exact ih hl _ _ (by rw [hb31, e5]; exact rmf_s V d i) (nI_1 _)
    exact G
  refine X 200 _ _ _ _ _ _ _ _ _ ?_
  refine c_Mlays X M V (fun Bv hv1 hv2 => ?_)
  have M1 := M.fB (hv1 55 (by decide))
  exact G0 Bv M1 hv1 hv2 0 (Nat.zero_le _) _ _ rfl rfl
set_option maxRecDepth 20000 in
theorem r_most {J : mJ} (X : mRules J) {I A : mI} {B : mB} {w f : Nat} {R : mR} {a : Ac} (M : MR a w I A B) (V : Vw a) {d : Int32} (h : qM a w f I A B R (some (.int (an_most a (ixN (zD a) d))))) : J n_M_most 0 [.ref 43, .int d, .float 0, .float 0] [] I A B (pk w f) R := by
  have hP40 := V.P40
  have hN8 := V.N8
  have hn4 := V.n4
  have hnt4 := V.nt4
  have hcN := V.cN
  have hPN := Nat.mul_le_mul hP40 hN8
  have hD31 : a.P * a.N < 2 ^ 31 := by omega
  have hN31 : a.N < 2 ^ 31 := by omega
  have hn31 : a.n < 2 ^ 31 := by omega
  have hnt31 : a.nt < 2 ^ 31 := by omega
  refine X 200 _ _ _ _ _ _ _ _ _ ?_
  refine c_MisDay X M V (fun d0 hd ed => ?_) (fun zd => ?_)
  · subst ed
    refine And.intro (fun _ => ?_) (fun q => absurd q (by decide))
    refine c_MroomFrom X M V hd (fun Bv M1 hv1 => ?_)
    refine And.intro (fun q1 => ?_) (fun q1 => ?_)
    · rw [ixN_s hd hD31] at h
      have h2 := h _ _ _ M1 (fM.b59 hv1)
      simp only [an_most, an_least, zD] at h2
      first | rw [if_pos q1] at h2 | rw [if_neg q1] at h2 | rw [if_neg (Int64.not_lt.mpr q1)] at h2 | rw [if_pos (Int64.not_le.mp q1)] at h2 | rw [if_neg (Int64.not_le.mpr q1)] at h2 | rw [if_pos (Int64.not_lt.mp q1)] at h2
      exact h2
    · rw [ixN_s hd hD31] at h
      have h2 := h _ _ _ M1 (fM.b59 hv1)
      simp only [an_most, an_least, zD] at h2
      first | rw [if_pos q1] at h2 | rw [if_neg q1] at h2 | rw [if_neg (Int64.not_lt.mpr q1)] at h2 | rw [if_pos (Int64.not_le.mp q1)] at h2 | rw [if_neg (Int64.not_le.mpr q1)] at h2 | rw [if_pos (Int64.not_lt.mp q1)] at h2
      exact h2
  · refine And.intro (fun q => absurd (by decide) q) (fun _ => ?_)
    rw [ixN_n hD31 zd] at h
    exact h _ _ _ M (fM.refl _ _ _)
set_option maxRecDepth 20000 in
theorem r_least {J : mJ} (X : mRules J) {I A : mI} {B : mB} {w f : Nat} {R : mR} {a : Ac} (M : MR a w I A B) (V : Vw a) {d : Int32} (h : qM a w f I A B R (some (.int (an_least a (ixN (zD a) d))))) : J n_M_least 0 [.ref 43, .int d, .float 0, .float 0] [] I A B (pk w f) R := by
  have hP40 := V.P40
  have hN8 := V.N8
  have hn4 := V.n4
  have hnt4 := V.nt4
  have hcN := V.cN
  have hPN := Nat.mul_le_mul hP40 hN8
  have hD31 : a.P * a.N < 2 ^ 31 := by omega
  have hN31 : a.N < 2 ^ 31 := by omega
  have hn31 : a.n < 2 ^ 31 := by omega
  have hnt31 : a.nt < 2 ^ 31 := by omega
  refine X 200 _ _ _ _ _ _ _ _ _ ?_
  refine c_MisDay X M V (fun d0 hd ed => ?_) (fun zd => ?_)
  · subst ed
    refine And.intro (fun _ => ?_) (fun q => absurd q (by decide))
    refine c_MroomFrom X M V hd (fun Bv M1 hv1 => ?_)
    refine And.intro (fun q1 => ?_) (fun q1 => ?_)
    · refine And.intro (fun q2 => ?_) (fun q2 => ?_)
      · rw [ixN_s hd hD31] at h
        have h2 := h _ _ _ M1 (fM.b59 hv1)
        simp only [an_most, an_least, zD] at h2
        first | rw [if_pos q1] at h2 | rw [if_neg q1] at h2 | rw [if_neg (Int64.not_lt.mpr q1)] at h2 | rw [if_pos (Int64.not_le.mp q1)] at h2 | rw [if_neg (Int64.not_le.mpr q1)] at h2 | rw [if_pos (Int64.not_lt.mp q1)] at h2
        first | rw [if_pos q2] at h2 | rw [if_neg q2] at h2 | rw [if_neg (Int64.not_lt.mpr q2)] at h2 | rw [if_pos (Int64.not_le.mp q2)] at h2 | rw [if_neg (Int64.not_le.mpr q2)] at h2 | rw [if_pos (Int64.not_lt.mp q2)] at h2
        exact h2
      · rw [ixN_s hd hD31] at h
        have h2 := h _ _ _ M1 (fM.b59 hv1)
        simp only [an_most, an_least, zD] at h2
        first | rw [if_pos q1] at h2 | rw [if_neg q1] at h2 | rw [if_neg (Int64.not_lt.mpr q1)] at h2 | rw [if_pos (Int64.not_le.mp q1)] at h2 | rw [if_neg (Int64.not_le.mpr q1)] at h2 | rw [if_pos (Int64.not_lt.mp q1)] at h2
        first | rw [if_pos q2] at h2 | rw [if_neg q2] at h2 | rw [if_neg (Int64.not_lt.mpr q2)] at h2 | rw [if_pos (Int64.not_le.mp q2)] at h2 | rw [if_neg (Int64.not_le.mpr q2)] at h2 | rw [if_pos (Int64.not_lt.mp q2)] at h2
        exact h2
    · rw [ixN_s hd hD31] at h
      have h2 := h _ _ _ M1 (fM.b59 hv1)
      simp only [an_most, an_least, zD] at h2
      first | rw [if_pos q1] at h2 | rw [if_neg q1] at h2 | rw [if_neg (Int64.not_lt.mpr q1)] at h2 | rw [if_pos (Int64.not_le.mp q1)] at h2 | rw [if_neg (Int64.not_le.mpr q1)] at h2 | rw [if_pos (Int64.not_lt.mp q1)] at h2
      exact h2
  · refine And.intro (fun q => absurd (by decide) q) (fun _ => ?_)
    rw [ixN_n hD31 zd] at h
    exact h _ _ _ M (fM.refl _ _ _)
theorem zl_rem {x y : Nat} (hx : x < 2 ^ 62) (h0 : 0 < y) (hy : y < 2 ^ 62) : zL x - zL x / zL y * zL y = zL ((x % y : Nat) : Int) := by
  rw [zl_div (by omega) (by omega) (by omega) (by omega), zL_mul, zL_sub]
  congr 1
  rw [Int.natCast_emod, Int.emod_def, Int.mul_comm (y : Int)]
theorem zl_abs {x : Int} (h1 : -2 ^ 62 ≤ x) (h2 : x ≤ 2 ^ 62) : (if 0 < zL x then zL x else -zL x) = zL (x.natAbs : Int) := by
  by_cases h : 0 < x
  · rw [if_pos ((zl_gt0 (by omega) (by omega)).mpr h), Int.natAbs_of_nonneg (by omega)]
  · rw [if_neg (fun z => h ((zl_gt0 (by omega) (by omega)).mp z)), zL_neg]
    congr 1
    omega
theorem zl_dvd {x : Int} {y : Nat} (h1 : -2 ^ 62 ≤ x) (h2 : x ≤ 2 ^ 62) (h3 : 0 < y) (h4 : y < 2 ^ 62) (hd : (y : Int) ∣ x) : zL x / zL y = zL (x / y) := by
  have e1 : Int64.minValue.toInt = -2 ^ 63 := rfl
  have e2 : Int64.maxValue.toInt = 2 ^ 63 - 1 := rfl
  rw [← Int.tdiv_eq_ediv_of_dvd hd]
  exact (Int64.ofInt_tdiv (by rw [e1]; omega) (by rw [e2]; omega) (by rw [e1]; omega) (by rw [e2]; omega)).symm
set_option maxRecDepth 20000 in
theorem c_Mcommon {J : mJ} (X : mRules J) {I A : mI} {B : mB} {w f : Nat} {R : mR} {x y : Int} (hx : -2 ^ 60 ≤ x ∧ x ≤ 2 ^ 60) (hy : -2 ^ 60 ≤ y ∧ y ≤ 2 ^ 60) {vy : Int64} (ey : vy = zL y) (h : R (some (.long (zL (Nat.gcd x.natAbs y.natAbs : Nat)))) I A B (pk w f)) : J n_M_common 0 [.long (zL x), .float 0, .long vy, .float 0, .float 0, .float 0, .float 0, .float 0, .float 0, .float 0] [] I A B (pk w f) R := by
  subst ey
  have G : ∀ v : Nat, ∀ (u : Nat) (z1 : Value) (su sv : Int64), v < 2 ^ 61 → u < 2 ^ 61 → Nat.gcd u v = Nat.gcd x.natAbs y.natAbs → su = zL u → sv = zL v → J n_M_common 12 [.long (zL x), .float 0, .long (zL y), .float 0, .long su, .float 0, .long sv, .float 0, z1, .float 0] [] I A B (pk w f) R := by
    intro v
    induction v using Nat.strongRecOn with
    | ind v ih =>
      intro u z1 su sv hv hu hg e1 e2
      subst e1; subst e2
      refine X 200 _ _ _ _ _ _ _ _ _ ?_
      refine And.intro (fun q1 => ?_) (fun q1 => ?_)
      · have e : v = 0 := by have := (zl_eq0 (by omega) (by omega)).mp q1; omega
        subst e
        rw [Nat.gcd_zero_right] at hg
        rw [← hg] at h
        exact h
      · have e : ¬ v = 0 := fun z => q1 (by rw [z]; rfl)
        refine And.intro q1 ?_
        have hm := Nat.mod_lt u (show 0 < v by omega)
        exact ih (u % v) hm v _ _ _ (by omega) hv (by rw [Nat.gcd_comm, ← Nat.gcd_rec, Nat.gcd_comm]; exact hg) rfl (zl_rem (by omega) (by omega) (by omega))
  refine X 200 _ _ _ _ _ _ _ _ _ ?_
  exact G y.natAbs x.natAbs _ _ _ (by omega) (by omega) rfl (zl_abs (by omega) (by omega)) (zl_abs (by omega) (by omega))
theorem zss_b {a : Ac} (V : Vw a) (p : Nat) : -2 ^ 40 ≤ zss a p ∧ zss a p ≤ 2 ^ 40 := by
  have h := zsm_b (g := fun i => zbl a (a.P * p + i)) (M := 8053063680) (n := a.P) (fun i _ => zbl_b V _)
  have := V.P40
  unfold zss
  omega
set_option maxRecDepth 20000 in
theorem r_mean {J : mJ} (X : mRules J) {I A : mI} {B : mB} {w f : Nat} {R : mR} {a : Ac} (M : MR a w I A B) (V : Vw a) {p k : Int32} (hP1 : 0 < a.N → 0 < a.P) (h : qM a w f I A B R (some (.long (an_mean a (ixN a.N p) (ixN 2 k))))) : J n_M_mean 0 [.ref 43, .int p, .int k, .float 0, .float 0, .float 0, .float 0] [] I A B (pk w f) R := by
  have hP40 := V.P40
  have hN8 := V.N8
  have hn4 := V.n4
  have hnt4 := V.nt4
  have hcN := V.cN
  have hPN := Nat.mul_le_mul hP40 hN8
  have hD31 : a.P * a.N < 2 ^ 31 := by omega
  have hN31 : a.N < 2 ^ 31 := by omega
  have hn31 : a.n < 2 ^ 31 := by omega
  have hnt31 : a.nt < 2 ^ 31 := by omega
  have G0 : ∀ (p0 k0 : Nat) (hp : p0 < a.N) (hk : k0 < 2) (hP1 : 0 < a.P) (Bv : mB) (M1 : MR a w I A Bv) (hv1 : ∀ r, r ≠ 59 → Bv r = B r) (hv2 : ∀ d, d < 320 → Bv 59 d = zL (zbl a d)) (h : qM a w f I A B R (some (.long (an_mean a (some p0) (some k0))))), ∀ i, i ≤ a.P → ∀ (s : Int64) (x : Int32), s = zL (zsm (fun i => zbl a (a.P * p0 + i)) i) → x = nI (a.P * p0 + i) → J n_M_mean 38 [.ref 43, .int (nI p0), .int (nI k0), .long s, .float 0, .int x, .float 0] [] I A Bv (pk w f) R := by
    intro p0 k0 hp hk hP1 Bv M1 hv1 hv2 h
    have G : ∀ i, i ≤ a.P → ∀ (s : Int64) (x : Int32), s = zL (zsm (fun i => zbl a (a.P * p0 + i)) i) → x = nI (a.P * p0 + i) → J n_M_mean 38 [.ref 43, .int (nI p0), .int (nI k0), .long s, .float 0, .int x, .float 0] [] I A Bv (pk w f) R := by
      refine lpz (fun i => ∀ (s : Int64) (x : Int32), s = zL (zsm (fun i => zbl a (a.P * p0 + i)) i) → x = nI (a.P * p0 + i) → J n_M_mean 38 [.ref 43, .int (nI p0), .int (nI k0), .long s, .float 0, .int x, .float 0] [] I A Bv (pk w f) R) (fun i hi ih => ?_)
      intro s x es ex
      subst es; subst ex
      have hple := P_le hp
      have e24 : A w 0 * (nI p0 + 1) = nI (a.P * p0 + a.P) := by rw [M.hP, nI_1, pk_mul, Nat.mul_succ]
      have hsb := zss_b V p0
      have hgp : 0 < Nat.gcd (zss a p0).natAbs a.P := Nat.gcd_pos_of_pos_right _ hP1
      have hgl : Nat.gcd (zss a p0).natAbs a.P ≤ a.P := Nat.gcd_le_right _ hP1
      have e6 : (A w 0).toInt64 = zL (a.P : Int) := by rw [M.hP]; exact nL (by omega)
      have hgn : ¬ zL (Nat.gcd (zss a p0).natAbs a.P : Nat) = 0 := fun z => by have := (zl_eq0 (by omega) (by omega)).mp z; omega
      refine X 200 _ _ _ _ _ _ _ _ _ ?_
      refine Exists.intro _ (And.intro M.hw (And.intro (vlit rfl) ?_))
      refine And.intro (fun q1 => ?_) (fun q1 => ?_)
      · have q0 : A w 0 * (nI p0 + 1) ≤ nI (a.P * p0 + i) := q1
        rw [e24] at q0
        have e := lpxo hi (by omega) q0
        subst e
        refine Exists.intro _ (And.intro M.hw (And.intro (vlit rfl) ?_))
        refine c_Mcommon X (x := zss a p0) (y := (a.P : Int)) (by omega) (by omega) e6 ?_
        refine And.intro (fun q2 => ?_) (fun q2 => ?_)
        · refine Exists.intro _ (And.intro M.hw (And.intro (vlit rfl) ?_))
          refine And.intro hgn ?_
          have c0 : k0 = 1 := by have : ¬ k0 = 0 := fun z => q2 (by rw [z]; rfl); omega
          subst c0
          have h2 := h _ _ _ M1 (fM.b59 hv1)
          simp only [an_mean] at h2
          rw [Int.natCast_ediv, ← zl_div (by omega) (by omega) (by omega) (by omega), ← e6] at h2
          exact h2
        · refine And.intro hgn ?_
          have c0 : k0 = 0 := (nI_eq (b := 0) (by omega) (by omega)).mp q2
          subst c0
          have h2 := h _ _ _ M1 (fM.b59 hv1)
          simp only [an_mean] at h2
          rw [← zl_dvd (by omega) (by omega) hgp (by omega) (by have := Nat.gcd_dvd_left (zss a p0).natAbs a.P; exact Int.ofNat_dvd_left.mpr this)] at h2
          exact h2
      · have q0 : ¬ A w 0 * (nI p0 + 1) ≤ nI (a.P * p0 + i) := q1
        rw [e24] at q0
        have hl := lpco hi (by omega) q0
        have hb31 : (nI (a.P * p0 + i)).toNatClampNeg = a.P * p0 + i := cl (by omega)
        have e5 : Bv 59 (a.P * p0 + i) = zL (zbl a (a.P * p0 + i)) := hv2 _ (by omega)
        refine Exists.intro _ (And.intro rfl (And.intro (vin (by omega) (by omega)) ?_))
        exact ih hl _ _ (by rw [hb31, e5, zL_add]; rfl) (nI_1 _)
    exact G
  refine X 200 _ _ _ _ _ _ _ _ _ ?_
  refine c_MisPeriod X M V (fun p0 hp ep => ?_) (fun zp => ?_)
  · subst ep
    refine And.intro (fun q => absurd q (by decide)) (fun _ => ?_)
    refine c_MinK X 2 (by decide) (by decide) (fun k0 hk ek => ?_) (fun zk => ?_)
    · subst ek
      refine And.intro (fun _ => ?_) (fun q => absurd q (by decide))
      refine c_Mlays X M V (fun Bv hv1 hv2 => ?_)
      have M1 := M.fB (hv1 55 (by decide))
      refine Exists.intro _ (And.intro M.hw (And.intro (vlit rfl) ?_))
      rw [ixN_s hp hN31] at h
      rw [ixN_s hk (by decide)] at h
      exact G0 p0 k0 hp hk (hP1 (by omega)) Bv M1 hv1 hv2 h 0 (Nat.zero_le _) _ _ rfl (by show A w 0 * nI p0 = _; rw [M.hP, pk_mul]; rfl)
    · refine And.intro (fun q => absurd (by decide) q) (fun _ => ?_)
      rw [ixN_s hp hN31] at h
      rw [ixN_n (by decide) zk] at h
      exact h _ _ _ M (fM.refl _ _ _)
  · refine And.intro (fun _ => ?_) (fun q => absurd (by decide) q)
    rw [ixN_n hN31 zp] at h
    exact h _ _ _ M (fM.refl _ _ _)
