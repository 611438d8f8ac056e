/-! contracts of the reference: products, interest (written by wip/whole/gm2.py) -/
theorem in_ix {d : Int32} {D : Nat} (hD : D < 2 ^ 31) : ((0 : Int64) ≤ d.toInt64 ∧ d.toInt64 ≤ (nI D - 1).toInt64) ↔ ∃ k, k < D ∧ d = nI k := by
  have e1 : (nI D - 1).toInt = (D : Int) - 1 := by
    cases D with
    | zero => decide
    | succ m =>
      rw [nI_pred, nI_toInt (by omega)]
      omega
  rw [Int64.le_iff_toInt_le, Int64.le_iff_toInt_le, Int32.toInt_toInt64, Int32.toInt_toInt64, e1]
  show (0 : Int) ≤ d.toInt ∧ _ ↔ _
  constructor
  · intro h
    refine ⟨d.toInt.toNat, by omega, ?_⟩
    apply Int32.toInt_inj.mp
    rw [nI_toInt (by omega)]
    omega
  · intro h
    obtain ⟨k, hk, e⟩ := h
    subst e
    rw [nI_toInt (by omega)]
    omega
theorem zer_0 {a : Ac} {d : Nat} {b : Int} (h : b ≤ 0) : ∀ i, i ≤ a.nt → zsm (fun t => zpt a d b t * zhl a t d) i = 0 := fun i hi => zsm_z (fun t ht => by
  show zpt a d b t * zhl a t d = 0
  rw [zpt_0 h (by omega), Int.zero_mul])
theorem zsm_b {g : Nat → Int} {M : Int} {n : Nat} (h : ∀ i, i < n → -M ≤ g i ∧ g i ≤ M) : -(n * M) ≤ zsm g n ∧ zsm g n ≤ n * M := by
  have h1 := zsm_le (fun i hi => (h i hi).2)
  have h2 := zsm_ge (fun i hi => (h i hi).1)
  have e : (n : Int) * -M = -(n * M) := Int.mul_neg _ _
  omega
theorem c_MisDay {J : mJ} (X : mRules J) {I A : mI} {B : mB} {w f : Nat} {R : mR} {a : Ac} (M : MR a w I A B) (V : Vw a) {d : Int32} (h1 : ∀ k, k < a.P * a.N → d = nI k → R (some (.int 1)) I A B (pk w f)) (h0 : (∀ k, k < a.P * a.N → d ≠ nI k) → R (some (.int 0)) I A B (pk w f)) : J n_M_isDay 0 [.ref 43, .int d] [] I A B (pk w f) R := by
  have hP40 := V.P40; have hN8 := V.N8; have hn4 := V.n4; have hnt4 := V.nt4; have hPN := Nat.mul_le_mul hP40 hN8
  refine X 200 _ _ _ _ _ _ _ _ _ ?_
  refine Exists.intro _ (And.intro M.hw (And.intro (vlit rfl) ?_))
  refine Exists.intro _ (And.intro M.hw (And.intro (vlit rfl) ?_))
  refine c_Min X (fun z1 z2 => ?_) (fun z => ?_)
  · refine And.intro (Or.inr rfl) ?_
    have z3 : d.toInt64 ≤ (A w 0 * A w 1 - 1).toInt64 := z2
    rw [M.hP, M.hN, pk_mul] at z3
    obtain ⟨k, hk, e⟩ := (in_ix (show a.P * a.N < 2 ^ 31 by omega)).mp ⟨z1, z3⟩
    exact h1 k hk e
  · refine And.intro (Or.inl rfl) ?_
    have z3 : ¬ ((0 : Int64) ≤ d.toInt64 ∧ d.toInt64 ≤ (A w 0 * A w 1 - 1).toInt64) := z
    rw [M.hP, M.hN, pk_mul] at z3
    exact h0 (fun k hk e => z3 ((in_ix (show a.P * a.N < 2 ^ 31 by omega)).mpr ⟨k, hk, e⟩))
theorem c_MisPeriod {J : mJ} (X : mRules J) {I A : mI} {B : mB} {w f : Nat} {R : mR} {a : Ac} (M : MR a w I A B) (V : Vw a) {d : Int32} (h1 : ∀ k, k < a.N → d = nI k → R (some (.int 1)) I A B (pk w f)) (h0 : (∀ k, k < a.N → d ≠ nI k) → R (some (.int 0)) I A B (pk w f)) : J n_M_isPeriod 0 [.ref 43, .int d] [] I A B (pk w f) R := by
  have hP40 := V.P40; have hN8 := V.N8; have hn4 := V.n4; have hnt4 := V.nt4; have hPN := Nat.mul_le_mul hP40 hN8
  refine X 200 _ _ _ _ _ _ _ _ _ ?_
  refine Exists.intro _ (And.intro M.hw (And.intro (vlit rfl) ?_))
  refine c_Min X (fun z1 z2 => ?_) (fun z => ?_)
  · refine And.intro (Or.inr rfl) ?_
    have z3 : d.toInt64 ≤ (A w 1 - 1).toInt64 := z2
    rw [M.hN] at z3
    obtain ⟨k, hk, e⟩ := (in_ix (show a.N < 2 ^ 31 by omega)).mp ⟨z1, z3⟩
    exact h1 k hk e
  · refine And.intro (Or.inl rfl) ?_
    have z3 : ¬ ((0 : Int64) ≤ d.toInt64 ∧ d.toInt64 ≤ (A w 1 - 1).toInt64) := z
    rw [M.hN] at z3
    exact h0 (fun k hk e => z3 ((in_ix (show a.N < 2 ^ 31 by omega)).mpr ⟨k, hk, e⟩))
theorem c_MisEntry {J : mJ} (X : mRules J) {I A : mI} {B : mB} {w f : Nat} {R : mR} {a : Ac} (M : MR a w I A B) (V : Vw a) {d : Int32} (h1 : ∀ k, k < a.n → d = nI k → R (some (.int 1)) I A B (pk w f)) (h0 : (∀ k, k < a.n → d ≠ nI k) → R (some (.int 0)) I A B (pk w f)) : J n_M_isEntry 0 [.ref 43, .int d] [] I A B (pk w f) R := by
  have hP40 := V.P40; have hN8 := V.N8; have hn4 := V.n4; have hnt4 := V.nt4; have hPN := Nat.mul_le_mul hP40 hN8
  refine X 200 _ _ _ _ _ _ _ _ _ ?_
  refine c_Min X (fun z1 z2 => ?_) (fun z => ?_)
  · refine And.intro (Or.inr rfl) ?_
    have z3 : d.toInt64 ≤ (I 43 19 - 1).toInt64 := z2
    rw [M.hn] at z3
    obtain ⟨k, hk, e⟩ := (in_ix (show a.n < 2 ^ 31 by omega)).mp ⟨z1, z3⟩
    exact h1 k hk e
  · refine And.intro (Or.inl rfl) ?_
    have z3 : ¬ ((0 : Int64) ≤ d.toInt64 ∧ d.toInt64 ≤ (I 43 19 - 1).toInt64) := z
    rw [M.hn] at z3
    exact h0 (fun k hk e => z3 ((in_ix (show a.n < 2 ^ 31 by omega)).mpr ⟨k, hk, e⟩))
theorem c_MisTier {J : mJ} (X : mRules J) {I A : mI} {B : mB} {w f : Nat} {R : mR} {a : Ac} (M : MR a w I A B) (V : Vw a) {d : Int32} (h1 : ∀ k, k < a.nt → d = nI k → R (some (.int 1)) I A B (pk w f)) (h0 : (∀ k, k < a.nt → d ≠ nI k) → R (some (.int 0)) I A B (pk w f)) : J n_M_isTier 0 [.ref 43, .int d] [] I A B (pk w f) R := by
  have hP40 := V.P40; have hN8 := V.N8; have hn4 := V.n4; have hnt4 := V.nt4; have hPN := Nat.mul_le_mul hP40 hN8
  refine X 200 _ _ _ _ _ _ _ _ _ ?_
  refine c_Min X (fun z1 z2 => ?_) (fun z => ?_)
  · refine And.intro (Or.inr rfl) ?_
    have z3 : d.toInt64 ≤ (I 43 7 - 1).toInt64 := z2
    rw [M.hnt] at z3
    obtain ⟨k, hk, e⟩ := (in_ix (show a.nt < 2 ^ 31 by omega)).mp ⟨z1, z3⟩
    exact h1 k hk e
  · refine And.intro (Or.inl rfl) ?_
    have z3 : ¬ ((0 : Int64) ≤ d.toInt64 ∧ d.toInt64 ≤ (I 43 7 - 1).toInt64) := z
    rw [M.hnt] at z3
    exact h0 (fun k hk e => z3 ((in_ix (show a.nt < 2 ^ 31 by omega)).mpr ⟨k, hk, e⟩))
theorem c_MisOpen {J : mJ} (X : mRules J) {I A : mI} {B : mB} {w f : Nat} {R : mR} {a : Ac} (M : MR a w I A B) (V : Vw a) (h1 : a.c < a.N → R (some (.int 1)) I A B (pk w f)) (h0 : ¬ a.c < a.N → R (some (.int 0)) I A B (pk w f)) : J n_M_isOpen 0 [.ref 43] [] I A B (pk w f) R := by
  have hN8 := V.N8; have hcN := V.cN
  refine X 200 _ _ _ _ _ _ _ _ _ ?_
  refine Exists.intro _ (And.intro M.hw (And.intro (vlit rfl) ?_))
  refine And.intro (fun q1 => ?_) (fun q1 => ?_)
  · refine And.intro (Or.inl rfl) ?_
    have q2 := q1
    first | (have q3 : A w 1 ≤ I 43 20 := q1; rw [M.hN, M.hc, nI_leI (by omega) (by omega)] at q3; exact h0 (by omega)) | (have q3 : ¬ A w 1 ≤ I 43 20 := q1; rw [M.hN, M.hc, nI_leI (by omega) (by omega)] at q3; exact h1 (by omega))
  · refine And.intro (Or.inr rfl) ?_
    have q2 := q1
    first | (have q3 : A w 1 ≤ I 43 20 := q1; rw [M.hN, M.hc, nI_leI (by omega) (by omega)] at q3; exact h0 (by omega)) | (have q3 : ¬ A w 1 ≤ I 43 20 := q1; rw [M.hN, M.hc, nI_leI (by omega) (by omega)] at q3; exact h1 (by omega))
set_option maxRecDepth 20000 in
theorem c_Mearned {J : mJ} (X : mRules J) {I A : mI} {B : mB} {w f : Nat} {R : mR} {a : Ac} (M : MR a w I A B) (V : Vw a) {d : Nat} (hd : d < 320) {b : Int} (hb : -17179869184 ≤ b ∧ b ≤ 17179869184) (hB : B 59 d = zL b) (h : R (some (.long (zL (zer a d b)))) I A B (pk w f)) : J n_M_earnedOn 0 [.ref 43, .int (nI d), .float 0, .float 0, .float 0] [] I A B (pk w f) R := by
  have hnt4 := V.nt4
  have hbd : (nI d).toNatClampNeg = d := cl (by omega)
  have G : ∀ i, i ≤ a.nt → ∀ (s : Int64) (x : Int32), s = zL (zsm (fun t => zpt a d b t * zhl a t d) i) → x = nI i → J n_M_earnedOn 5 [.ref 43, .int (nI d), .long s, .float 0, .int x] [] I A B (pk w f) R := by
    refine lpz (fun i => ∀ (s : Int64) (x : Int32), s = zL (zsm (fun t => zpt a d b t * zhl a t d) i) → x = nI i → J n_M_earnedOn 5 [.ref 43, .int (nI d), .long s, .float 0, .int x] [] I A B (pk w f) R) (fun i hi ih => ?_)
    intro s x es ex
    subst es; subst ex
    refine X 200 _ _ _ _ _ _ _ _ _ ?_
    refine And.intro (fun q1 => ?_) (fun q1 => ?_)
    · rw [M.hnt] at q1
      have e := lpx hi (by omega) q1
      subst e
      exact h
    · rw [M.hnt] at q1
      have hl := lpc hi (by omega) q1
      have hh := zhl_b V (r := i) (d := d) (Or.inl hl)
      rw [if_neg (by omega)] at hh
      refine Exists.intro _ (And.intro rfl (And.intro (vin (by omega) (by omega)) ?_))
      refine And.intro (fun q2 => ?_) (fun q2 => ?_)
      · rw [hbd, hB, zl_le0 (by omega) (by omega)] at q2
        have e1 := zer_0 (a := a) (d := d) q2 i hi
        have e2 : zer a d b = 0 := zer_0 (a := a) (d := d) q2 a.nt (Nat.le_refl _)
        rw [e2, ← e1] at h
        exact h
      · refine c_Mpart X M V (d := d) hd hb hB (t := i) (by omega) ?_
        refine c_Mholds X M V (r := i) (d := d) (Or.inl hl) (by omega) ?_
        exact ih hl _ _ (by rw [zn_l (by omega) (by omega), zL_mul, zL_add]; rfl) (nI_1 i)
  refine X 200 _ _ _ _ _ _ _ _ _ ?_
  exact G 0 (Nat.zero_le _) _ _ rfl rfl
theorem c_Mpart2 {J : mJ} (X : mRules J) {I A : mI} {B : mB} {w f : Nat} {R : mR} {a : Ac} (M : MR a w I A B) (V : Vw a) {d : Nat} (hd : d < 320) {b : Int} (hb : -17179869184 ≤ b ∧ b ≤ 17179869184) (hB : B 59 d = zL b) {t : Nat} (ht : t ≤ a.nt + 2) {x : Int32} (ex : x = nI t) (h : R (some (.long (zL (zpt a d b t)))) I A B (pk w f)) : J n_M_partOf 0 [.ref 43, .int (nI d), .int x, .float 0, .float 0, .float 0, .float 0, .float 0, .float 0] [] I A B (pk w f) R := by
  subst ex
  exact c_Mpart X M V hd hb hB ht h
set_option maxRecDepth 20000 in
theorem c_Mowed {J : mJ} (X : mRules J) {I A : mI} {B : mB} {w f : Nat} {R : mR} {a : Ac} (M : MR a w I A B) (V : Vw a) {d : Nat} (hd : d < 320) {b : Int} (hb : -17179869184 ≤ b ∧ b ≤ 17179869184) (hB : B 59 d = zL b) (h : R (some (.long (zL (zow a d b)))) I A B (pk w f)) : J n_M_owedOn 0 [.ref 43, .int (nI d)] [] I A B (pk w f) R := by
  have hnt4 := V.nt4
  have hbd : (nI d).toNatClampNeg = d := cl (by omega)
  have h4 := zhl_b V (r := 4) (d := d) (by omega)
  have h5 := zhl_b V (r := 5) (d := d) (by omega)
  rw [if_neg (by omega)] at h4 h5
  refine X 200 _ _ _ _ _ _ _ _ _ ?_
  refine Exists.intro _ (And.intro rfl (And.intro (vin (by omega) (by omega)) ?_))
  refine And.intro (fun q1 => ?_) (fun q1 => ?_)
  · have cb : ¬ b < 0 := by rw [hbd, hB, zl_ge0 (by omega) (by omega)] at q1; omega
    rw [show zow a d b = 0 from if_neg cb] at h
    exact h
  · refine c_Mpart2 X M V hd hb hB (t := a.nt + 1) (by omega) (by rw [M.hnt]; exact nI_add a.nt 1) ?_
    refine c_Mholds X M V (r := 4) (d := d) (by omega) (by omega) ?_
    refine c_Mpart2 X M V hd hb hB (t := a.nt + 2) (by omega) (by rw [M.hnt]; exact nI_add a.nt 2) ?_
    refine c_Mholds X M V (r := 5) (d := d) (by omega) (by omega) ?_
    have cb : b < 0 := by rw [hbd, hB, zl_ge0 (by omega) (by omega)] at q1; omega
    rw [show zow a d b = zpt a d b (a.nt + 1) * zhl a 4 d + zpt a d b (a.nt + 2) * zhl a 5 d from if_pos cb, ← zL_add, ← zL_mul, ← zL_mul, ← zn_l (x := zhl a 4 d) (by omega) (by omega), ← zn_l (x := zhl a 5 d) (by omega) (by omega)] at h
    exact h
theorem c_Mnearest {J : mJ} (X : mRules J) {I A : mI} {B : mB} {w f : Nat} {R : mR} {z : Int} (h1 : -2 ^ 61 ≤ z) (h2 : z ≤ 2 ^ 61) (h : R (some (.long (zL (znr z)))) I A B (pk w f)) : J n_M_nearest 0 [.long (zL z), .float 0, .float 0, .float 0] [] I A B (pk w f) R := by
  refine X 200 _ _ _ _ _ _ _ _ _ ?_
  refine And.intro (by decide) ?_
  refine And.intro (fun q1 => ?_) (fun q1 => ?_)
  · rw [← znr_m h1 h2] at h
    first | (rw [if_neg (Int64.not_lt.mpr q1)] at h; exact h) | (rw [if_pos (Int64.not_le.mp q1)] at h; exact h)
  · rw [← znr_m h1 h2] at h
    first | (rw [if_neg (Int64.not_lt.mpr q1)] at h; exact h) | (rw [if_pos (Int64.not_le.mp q1)] at h; exact h)
set_option maxRecDepth 20000 in
theorem c_MinterestLaid {J : mJ} (X : mRules J) {I A : mI} {B : mB} {w f : Nat} {R : mR} {a : Ac} (M : MR a w I A B) (V : Vw a) {b : Nat → Int} (hB : ∀ d, d < 320 → B 59 d = zL (b d)) (hb : ∀ d, d < 320 → -17179869184 ≤ b d ∧ b d ≤ 17179869184) {p : Nat} (hp : a.P * p + a.P ≤ 320) (h : R (some (.long (zL (znr (zpz a b p))))) I A B (pk w f)) : J n_M_interestLaid 0 [.ref 43, .int (nI p), .float 0, .float 0, .float 0] [] I A B (pk w f) R := by
  have hP40 := V.P40
  have e24 : A w 0 * (nI p + 1) = nI (a.P * p + a.P) := by rw [M.hP, nI_1, pk_mul, Nat.mul_succ]
  have G : ∀ i, i ≤ a.P → ∀ (s : Int64) (x : Int32), s = zL (zsm (fun i => zpr a (a.P * p + i) (b (a.P * p + i))) i) → x = nI (a.P * p + i) → J n_M_interestLaid 12 [.ref 43, .int (nI p), .long s, .float 0, .int x] [] I A B (pk w f) R := by
    refine lpz (fun i => ∀ (s : Int64) (x : Int32), s = zL (zsm (fun i => zpr a (a.P * p + i) (b (a.P * p + i))) i) → x = nI (a.P * p + i) → J n_M_interestLaid 12 [.ref 43, .int (nI p), .long s, .float 0, .int x] [] I A B (pk w f) R) (fun i hi ih => ?_)
    intro s x es ex
    subst es; subst ex
    refine X 200 _ _ _ _ _ _ _ _ _ ?_
    refine Exists.intro _ (And.intro M.hw (And.intro (vlit rfl) ?_))
    refine And.intro (fun q1 => ?_) (fun q1 => ?_)
    · have q0 : A w 0 * (nI p + 1) ≤ nI (a.P * p + i) := q1
      rw [e24] at q0
      have e := lpxo hi (by omega) q0
      subst e
      have hzz := zpz_b V (b := b) (p := p) (fun j hj => hb _ (by omega))
      refine c_Mnearest X (z := zpz a b p) (by omega) (by omega) ?_
      exact h
    · have q0 : ¬ A w 0 * (nI p + 1) ≤ nI (a.P * p + i) := q1
      rw [e24] at q0
      have hl := lpco hi (by omega) q0
      refine c_Mearned X M V (d := a.P * p + i) (by omega) (hb _ (by omega)) (hB _ (by omega)) ?_
      refine c_Mowed X M V (d := a.P * p + i) (by omega) (hb _ (by omega)) (hB _ (by omega)) ?_
      exact ih hl _ _ (by rw [zL_sub, zL_add]; rfl) (nI_1 _)
  refine X 200 _ _ _ _ _ _ _ _ _ ?_
  refine Exists.intro _ (And.intro M.hw (And.intro (vlit rfl) ?_))
  exact G 0 (Nat.zero_le _) _ _ rfl (by show A w 0 * nI p = _; rw [M.hP, pk_mul]; rfl)
theorem c_MinterestOf {J : mJ} (X : mRules J) {I A : mI} {B : mB} {w f : Nat} {R : mR} {a : Ac} (M : MR a w I A B) (V : Vw a) {p : Nat} (hp : a.P * p + a.P ≤ 320) (h : ∀ B', (∀ r, r ≠ 59 → B' r = B r) → R (some (.long (zL (zit a p)))) I A B' (pk w f)) : J n_M_interestOf 0 [.ref 43, .int (nI p)] [] I A B (pk w f) R := by
  refine X 200 _ _ _ _ _ _ _ _ _ ?_
  refine c_Mlays X M V (fun Bv hv1 hv2 => ?_)
  refine c_MinterestLaid X (M.fB (hv1 55 (by decide))) V hv2 (fun d _ => by have := zbl_b V d; omega) hp ?_
  exact h _ hv1
set_option maxRecDepth 20000 in
theorem c_MallOf {J : mJ} (X : mRules J) {I A : mI} {B : mB} {w f : Nat} {R : mR} {a : Ac} (M : MR a w I A B) (V : Vw a) (h : ∀ B', (∀ r, r ≠ 59 → B' r = B r) → R (some (.long (zL (zal a)))) I A B' (pk w f)) : J n_M_allOf 0 [.ref 43, .float 0, .float 0, .float 0] [] I A B (pk w f) R := by
  have hP40 := V.P40
  have hN8 := V.N8
  have hPN := Nat.mul_le_mul hP40 hN8
  have G0 : ∀ Bv, (∀ r, r ≠ 59 → Bv r = B r) → (∀ d, d < 320 → Bv 59 d = zL (zbl a d)) → J n_M_allOf 8 [.ref 43, .long 0, .float 0, .int 0] [] I A Bv (pk w f) R := by
    intro Bv hv1 hv2
    have G : ∀ i, i ≤ a.N → ∀ (s : Int64) (x : Int32), s = zL (zsm (zit a) i) → x = nI i → J n_M_allOf 8 [.ref 43, .long s, .float 0, .int x] [] I A Bv (pk w f) R := by
      refine lpz (fun i => ∀ (s : Int64) (x : Int32), s = zL (zsm (zit a) i) → x = nI i → J n_M_allOf 8 [.ref 43, .long s, .float 0, .int x] [] I A Bv (pk w f) R) (fun i hi ih => ?_)
      intro s x es ex
      subst es; subst ex
      refine X 200 _ _ _ _ _ _ _ _ _ ?_
      refine Exists.intro _ (And.intro M.hw (And.intro (vlit rfl) ?_))
      refine And.intro (fun q1 => ?_) (fun q1 => ?_)
      · have q0 : A w 1 ≤ nI i := q1
        rw [M.hN] at q0
        have e := lpx hi (by omega) q0
        subst e
        exact h _ hv1
      · have q0 : ¬ A w 1 ≤ nI i := q1
        rw [M.hN] at q0
        have hl := lpc hi (by omega) q0
        refine c_MinterestLaid X (M.fB (hv1 55 (by decide))) V hv2 (fun d _ => by have := zbl_b V d; omega) (p := i) (by have := Nat.mul_le_mul_left a.P (show i + 1 ≤ a.N by omega); rw [Nat.mul_succ] at this; omega) ?_
        exact ih hl _ _ (zL_add) (nI_1 i)
    exact G 0 (Nat.zero_le _) _ _ rfl rfl
  refine X 200 _ _ _ _ _ _ _ _ _ ?_
  refine c_Mlays X M V (fun Bv hv1 hv2 => ?_)
  exact G0 Bv hv1 hv2
theorem c_Mcomp {J : mJ} (X : mRules J) {I A : mI} {B : mB} {w f : Nat} {R : mR} {a : Ac} (M : MR a w I A B) (V : Vw a) {p : Nat} (hp : p < 2 ^ 20) (hN0 : 0 < a.N) (h : R (some (.int (nI (zcm a p)))) I A B (pk w f)) : J n_M_compoundingOf 0 [.ref 43, .int (nI p)] [] I A B (pk w f) R := by
  have hK1 := V.K1; have hK4 := V.K4
  refine X 200 _ _ _ _ _ _ _ _ _ ?_
  refine Exists.intro _ (And.intro M.hw (And.intro (vlit rfl) ?_))
  refine Exists.intro _ (And.intro M.hw (And.intro (vlit rfl) ?_))
  refine Exists.intro _ (And.intro M.hw (And.intro (vlit rfl) ?_))
  refine And.intro (fun z => by have z2 : A w 2 = 0 := z; rw [M.hK hN0] at z2; exact nI_ne0 (by omega) (by omega) z2) ?_
  have e : A w 0 * A w 2 * (nI p / A w 2 + 1) = nI (zcm a p) := by rw [M.hP, M.hK hN0, pk_div (by omega) (by omega) (by omega), nI_1, pk_mul, pk_mul]; rfl
  rw [← e] at h
  exact h
set_option maxRecDepth 20000 in
theorem c_Mbooked {J : mJ} (X : mRules J) {I A : mI} {B : mB} {w f : Nat} {R : mR} {a : Ac} (M : MR a w I A B) (V : Vw a) {p : Nat} (h : R (some (.long (zL (zbk a p)))) I A B (pk w f)) : J n_M_bookedOf 0 [.ref 43, .int (nI p), .float 0, .float 0, .float 0] [] I A B (pk w f) R := by
  have hn4 := V.n4
  have G : ∀ i, i ≤ a.n → ∀ (s : Int64) (x : Int32), s = zL (zsm (fun j => if (a.so j = 1 ∨ a.so j = 2) ∧ a.og j = nI p then a.am j else 0) i) → x = nI i → J n_M_bookedOf 5 [.ref 43, .int (nI p), .long s, .float 0, .int x] [] I A B (pk w f) R := by
    refine lpz (fun i => ∀ (s : Int64) (x : Int32), s = zL (zsm (fun j => if (a.so j = 1 ∨ a.so j = 2) ∧ a.og j = nI p then a.am j else 0) i) → x = nI i → J n_M_bookedOf 5 [.ref 43, .int (nI p), .long s, .float 0, .int x] [] I A B (pk w f) R) (fun i hi ih => ?_)
    intro s x es ex
    subst es; subst ex
    refine X 200 _ _ _ _ _ _ _ _ _ ?_
    refine And.intro (fun q1 => ?_) (fun q1 => ?_)
    · rw [M.hn] at q1
      have e := lpx hi (by omega) q1
      subst e
      exact h
    · rw [M.hn] at q1
      have hl := lpc hi (by omega) q1
      have hb31 : i < 2 ^ 31 := by omega
      have hs1 := M.hso i hl
      have ho1 := M.hog i hl
      have ha1 := M.ham i hl
      have hs3 := V.so3 i hl
      have t1 : nI (a.so i) = 1 ↔ a.so i = 1 := nI_eq (b := 1) (by omega) (by omega)
      have t2 : nI (a.so i) = 2 ↔ a.so i = 2 := nI_eq (b := 2) (by omega) (by omega)
      refine Exists.intro _ (And.intro rfl (And.intro (vin (by omega) (by omega)) ?_))
      refine And.intro (fun q2 => ?_) (fun q2 => ?_)
      · refine Exists.intro _ (And.intro rfl (And.intro (vin (by omega) (by omega)) ?_))
        refine And.intro (fun q3 => ?_) (fun q3 => ?_)
        · simp only [cl hb31, hs1, ho1, t1, t2] at q2
          simp only [cl hb31, hs1, ho1, t1, t2] at q3
          exact ih hl _ _ (by rw [zsm, if_neg (by simp [q2, q3]), Int.add_zero]) (nI_1 i)
        · refine Exists.intro _ (And.intro rfl (And.intro (vin (by omega) (by omega)) ?_))
          simp only [cl hb31, hs1, ho1, t1, t2] at q2
          simp only [cl hb31, hs1, ho1, t1, t2] at q3
          exact ih hl _ _ (by rw [zsm, if_pos (by simp [q2, q3]), cl hb31, ha1, zL_add]) (nI_1 i)
      · refine Exists.intro _ (And.intro rfl (And.intro (vin (by omega) (by omega)) ?_))
        refine And.intro (fun q4 => ?_) (fun q4 => ?_)
        · simp only [cl hb31, hs1, ho1, t1, t2] at q2
          simp only [cl hb31, hs1, ho1, t1, t2] at q4
          exact ih hl _ _ (by rw [zsm, if_neg (by simp [q2, q4]), Int.add_zero]) (nI_1 i)
        · refine Exists.intro _ (And.intro rfl (And.intro (vin (by omega) (by omega)) ?_))
          refine And.intro (fun q5 => ?_) (fun q5 => ?_)
          · simp only [cl hb31, hs1, ho1, t1, t2] at q2
            simp only [cl hb31, hs1, ho1, t1, t2] at q4
            simp only [cl hb31, hs1, ho1, t1, t2] at q5
            exact ih hl _ _ (by rw [zsm, if_neg (by simp [q2, q4, q5]), Int.add_zero]) (nI_1 i)
          · refine Exists.intro _ (And.intro rfl (And.intro (vin (by omega) (by omega)) ?_))
            simp only [cl hb31, hs1, ho1, t1, t2] at q2
            simp only [cl hb31, hs1, ho1, t1, t2] at q4
            simp only [cl hb31, hs1, ho1, t1, t2] at q5
            exact ih hl _ _ (by rw [zsm, if_pos (by simp [q2, q4, q5]), cl hb31, ha1, zL_add]) (nI_1 i)
  refine X 200 _ _ _ _ _ _ _ _ _ ?_
  exact G 0 (Nat.zero_le _) _ _ rfl rfl
theorem c_Mwrong {J : mJ} (X : mRules J) {I A : mI} {B : mB} {w f : Nat} {R : mR} {a : Ac} (M : MR a w I A B) (V : Vw a) {p : Nat} (hp : a.P * p + a.P ≤ 320) (hp2 : p < 2 ^ 20) (h : ∀ B', (∀ r, r ≠ 59 → B' r = B r) → R (some (.long (zL (if p < a.c then zit a p - zbk a p else 0)))) I A B' (pk w f)) : J n_M_wrongOf 0 [.ref 43, .int (nI p)] [] I A B (pk w f) R := by
  have hcN := V.cN; have hN8 := V.N8
  refine X 200 _ _ _ _ _ _ _ _ _ ?_
  refine And.intro (fun q1 => ?_) (fun q1 => ?_)
  · rw [M.hc, nI_leI (by omega) (by omega)] at q1
    first | (rw [if_pos (by omega), ← zL_sub] at h; exact h _ hv1) | (rw [if_neg (by omega)] at h; exact h _ (fun _ _ => rfl))
  · refine c_MinterestOf X M V hp (fun Bv hv1 => ?_)
    refine c_Mbooked X (M.fB (hv1 55 (by decide))) V (p := p) ?_
    rw [M.hc, nI_leI (by omega) (by omega)] at q1
    first | (rw [if_pos (by omega), ← zL_sub] at h; exact h _ hv1) | (rw [if_neg (by omega)] at h; exact h _ (fun _ _ => rfl))
