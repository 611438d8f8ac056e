/-! plans of the reference (written by wip/whole/gm21.py) -/
set_option maxRecDepth 20000 in
theorem r_planned2 {J : mJ} (X : mRules J) {I A : mI} {B : mB} {w f : Nat} {R : mR} {a : Ac} (M : MR a w I A B) (V : Vw a) (hG : ∀ d0 m0 k : Nat, d0 < a.P * a.N → m0 ≤ 99999 → k ≤ 8 → Gd (zpl a d0 m0 k)) (hn7 : a.n + 8 + 16 ≤ 480) {d n m : Int32} (h : qM a w f I A B R (some (.long (an_planned a (cpl a d n) (ixN 100000 m))))) : J n_M_planned 0 [.ref 43, .int d, .int n, .int m] [] I A B (pk w f) R := by
  have hP40 := V.P40
  have hN8 := V.N8
  have hn4 := V.n4
  have hnt4 := V.nt4
  have hcN := V.cN
  have hPN := Nat.mul_le_mul hP40 hN8
  have hD31 : a.P * a.N < 2 ^ 31 := by omega
  have hN31 : a.N < 2 ^ 31 := by omega
  have hn31 : a.n < 2 ^ 31 := by omega
  have hnt31 : a.nt < 2 ^ 31 := by omega
  refine X 200 _ _ _ _ _ _ _ _ _ ?_
  refine c_MinK X 100000 (by decide) (by decide) (fun m0 hm em => ?_) (fun zm => ?_)
  · subst em
    refine And.intro (fun q => absurd q (by decide)) (fun _ => ?_)
    refine c_McanPlan X M V (fun d0 k0 ed ek hd hk1 hk8 hdk zo ec => ?_) (fun ec => ?_)
    · subst ed; subst ek
      refine And.intro (fun q => absurd q (by decide)) (fun _ => ?_)
      refine c_MplannedOf X M V hd hk8 (m0 := m0) (by omega) (fun k hk => hG d0 m0 k hd (by omega) (by omega)) hn7 rfl (fun I1 A1 B1 M1 g1 => ?_)
      have f1 := ((fM.refl I A B)).trans g1
      rw [ec, ixN_s hm (by decide)] at h
      exact h _ _ _ M1 f1
    · refine And.intro (fun _ => ?_) (fun q => absurd (by decide) q)
      rw [ec] at h
      exact h _ _ _ M (fM.refl _ _ _)
  · refine And.intro (fun _ => ?_) (fun q => absurd (by decide) q)
    have e9 : an_planned a (cpl a d n) (ixN 100000 m) = NS := by rw [ixN_n (by decide) zm]; cases cpl a d n with | none => rfl | some p => rfl
    rw [e9] at h
    exact h _ _ _ M (fM.refl _ _ _)
set_option maxRecDepth 20000 in
theorem r_plan2 {J : mJ} (X : mRules J) {I A : mI} {B : mB} {w f : Nat} {R : mR} {a : Ac} (M : MR a w I A B) (V : Vw a) (hG : ∀ d0 m0 k : Nat, d0 < a.P * a.N → m0 ≤ 99999 → k ≤ 8 → Gd (zpl a d0 m0 k)) (hn7 : a.n + 8 + 16 ≤ 480) {d n : Int32} (hmono : ∀ d0 k0, d0 < a.P * a.N → k0 ≤ 8 → ∀ x y, x ≤ y → y ≤ 99999 → zcp a d0 k0 y = true → zcp a d0 k0 x = true) (h : qM a w f I A B R (some (.int (an_plan a (cpl a d n))))) : J n_M_plan 0 [.ref 43, .int d, .int n, .float 0, .float 0, .float 0] [] I A B (pk w f) R := by
  have hP40 := V.P40
  have hN8 := V.N8
  have hn4 := V.n4
  have hnt4 := V.nt4
  have hcN := V.cN
  have hPN := Nat.mul_le_mul hP40 hN8
  have hD31 : a.P * a.N < 2 ^ 31 := by omega
  have hN31 : a.N < 2 ^ 31 := by omega
  have hn31 : a.n < 2 ^ 31 := by omega
  have hnt31 : a.nt < 2 ^ 31 := by omega
  have G0 : ∀ (d0 k0 : Nat) (hd : d0 < a.P * a.N) (hk8 : k0 ≤ 8) (hmono : ∀ x y, x ≤ y → y ≤ 99999 → zcp a d0 k0 y = true → zcp a d0 k0 x = true) (h : qM a w f I A B R (some (.int (lsx 0 (zcp a d0 k0) 100000)))), ∀ k : Nat, ∀ (lo hi : Nat) (xl xh : Int32) (z : Value) (Iv Av : mI) (Bv : mB), hi - lo = k → xl = nI lo → xh = nI hi → 0 ≤ lo → lo ≤ hi → hi ≤ 99999 → (∀ x, 0 ≤ x → x < lo → (zcp a d0 k0) x = true) → (zcp a d0 k0) hi = false → MR a w Iv Av Bv → fM I A B Iv Av Bv → J n_M_plan 35 [.ref 43, .int (nI d0), .int (nI k0), .int xl, .int xh, z] [] Iv Av Bv (pk w f) R := by
    intro d0 k0 hd hk8 hmono h k
    induction k using Nat.strongRecOn with
    | ind k ih =>
      intro lo hi xl xh z Iv Av Bv hk e1 e2 h1 h2 h3 h4 h5 Mv fv
      subst e1; subst e2
      refine X 200 _ _ _ _ _ _ _ _ _ ?_
      refine And.intro (fun q1 => ?_) (fun q1 => ?_)
      · have e : lo = hi := by have := (nI_leI (by omega) (by omega)).mp q1; omega
        subst e
        rw [lsx_s (L := 0) (K := 100000) (c := (zcp a d0 k0)) h1 (by omega) h5 h4] at h
        exact h _ _ _ Mv fv --end
      · have hlt : lo < hi := Nat.lt_of_not_le (fun z => q1 (nI_le z (by omega)))
        have ehf : (nI lo + nI hi) / (2 : Int32) = nI ((lo + hi) / 2) := by rw [nI_add]; exact pk_div (d := 2) (by omega) (by omega) (by omega)
        refine And.intro (by decide) ?_
        refine c_MplannedOf X Mv V hd hk8 (m0 := (lo + hi) / 2) (by omega) (fun k hk => hG d0 _ k hd (by omega) (by omega)) hn7 ehf (fun I1 A1 B1 M1 g1 => ?_)
        have f1 := (fv).trans g1
        refine And.intro (fun q2 => ?_) (fun q2 => ?_)
        · have cf : (zcp a d0 k0) ((lo + hi) / 2) = false := decide_eq_false (Int64.not_lt.mpr q2)
          exact ih ((lo + hi) / 2 - lo) (by omega) lo ((lo + hi) / 2) _ _ _ _ _ _ rfl rfl ehf h1 (by omega) (by omega) h4 cf M1 f1
        · have cf : (zcp a d0 k0) ((lo + hi) / 2) = true := decide_eq_true (Int64.not_le.mp q2)
          exact ih (hi - ((lo + hi) / 2 + 1)) (by omega) ((lo + hi) / 2 + 1) hi _ _ _ _ _ _ rfl (by rw [← nI_1, ← ehf]) rfl (by omega) (by omega) h3 (fun x hx1 hx2 => hmono x ((lo + hi) / 2) (by omega) (by omega) cf) h5 M1 f1
  refine X 200 _ _ _ _ _ _ _ _ _ ?_
  refine c_McanPlan X M V (fun d0 k0 ed ek hd hk1 hk8 hdk zo ec => ?_) (fun ec => ?_)
  · subst ed; subst ek
    refine And.intro (fun _ => ?_) (fun q => absurd q (by decide))
    refine c_MplannedOf X M V hd hk8 (m0 := 99999) (by omega) (fun k hk => hG d0 _ k hd (by omega) (by omega)) hn7 rfl (fun I1 A1 B1 M1 g1 => ?_)
    have f1 := ((fM.refl I A B)).trans g1
    refine And.intro (fun q1 => ?_) (fun q1 => ?_)
    · rw [ec] at h
      exact G0 d0 k0 hd hk8 (hmono d0 k0 hd hk8) h _ 0 99999 _ _ _ _ _ _ rfl rfl rfl (by omega) (by omega) (by omega) (fun x h1 h2 => by omega) (decide_eq_false (Int64.not_lt.mpr q1)) M1 f1
    · rw [ec] at h
      simp only [an_plan] at h
      rw [lsx_n (fun x h1 h2 => hmono d0 k0 hd hk8 x 99999 (by omega) (by omega) (decide_eq_true (Int64.not_le.mp q1)))] at h
      exact h _ _ _ M1 f1
  · refine And.intro (fun q => absurd (by decide) q) (fun _ => ?_)
    rw [ec] at h
    exact h _ _ _ M (fM.refl _ _ _)
