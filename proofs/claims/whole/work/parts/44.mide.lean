/-! contracts of the reference: the ideal (written by wip/whole/gm8.py) -/
set_option maxRecDepth 20000 in
theorem c_MisTurned {J : mJ} (X : mRules J) {I A : mI} {B : mB} {w f : Nat} {R : mR} {a : Ac} (M : MR a w I A B) (V : Vw a) {e : Nat} {xe : Int32} (exe : xe = nI e) (h1 : ztn a e = true → R (some (.int 1)) I A B (pk w f)) (h0 : ztn a e = false → R (some (.int 0)) I A B (pk w f)) : J n_M_isTurned 0 [.ref 43, .int xe, .float 0] [] I A B (pk w f) R := by
  subst exe
  have hP40 := V.P40
  have hN8 := V.N8
  have hn4 := V.n4
  have hnt4 := V.nt4
  have hcN := V.cN
  have hPN := Nat.mul_le_mul hP40 hN8
  have hD31 : a.P * a.N < 2 ^ 31 := by omega
  have hN31 : a.N < 2 ^ 31 := by omega
  have hn31 : a.n < 2 ^ 31 := by omega
  have hnt31 : a.nt < 2 ^ 31 := by omega
  have G : ∀ i, i ≤ a.n → ∀ (x : Int32), x = nI i → (∀ j, j < i → (fun o => decide (a.so o = 3 ∧ a.og o = nI e)) j = false) → J n_M_isTurned 2 [.ref 43, .int (nI e), .int x] [] I A B (pk w f) R := by
    refine lpz (fun i => ∀ (x : Int32), x = nI i → (∀ j, j < i → (fun o => decide (a.so o = 3 ∧ a.og o = nI e)) j = false) → J n_M_isTurned 2 [.ref 43, .int (nI e), .int x] [] I A B (pk w f) R) (fun i hi ih => ?_)
    intro x ex hno
    subst ex
    refine X 200 _ _ _ _ _ _ _ _ _ ?_
    refine And.intro (fun q1 => ?_) (fun q1 => ?_)
    · rw [M.hn] at q1
      have e9 := lpx hi (by omega) q1
      subst e9
      refine And.intro (Or.inl rfl) ?_
      exact h0 (by unfold ztn; rw [fd_no hno]; rfl)
    · rw [M.hn] at q1
      have hl := lpc hi (by omega) q1
      have hb31 : (nI i).toNatClampNeg = i := cl (by omega)
      have hs1 := M.hso i hl
      have ho1 := M.hog i hl
      have hs3 := V.so3 i hl
      refine Exists.intro _ (And.intro rfl (And.intro (vin (by omega) (by omega)) ?_))
      refine And.intro (fun q2 => ?_) (fun q2 => ?_)
      · rw [hb31, hs1] at q2
        have c1 : ¬ a.so i = 3 := fun z => q2 (by rw [z]; rfl)
        exact ih hl _ (nI_1 i) (all_lt hno (decide_eq_false (fun z => c1 z.1)))
      · rw [hb31, hs1] at q2
        have c1 : a.so i = 3 := (nI_eq (b := 3) (by omega) (by omega)).mp q2
        refine Exists.intro _ (And.intro rfl (And.intro (vin (by omega) (by omega)) ?_))
        refine And.intro (fun q3 => ?_) (fun q3 => ?_)
        · rw [hb31, ho1] at q3
          exact ih hl _ (nI_1 i) (all_lt hno (decide_eq_false (fun z => q3 z.2)))
        · rw [hb31, ho1] at q3
          refine And.intro (Or.inr rfl) ?_
          exact h1 (by unfold ztn; rw [fd_at hl (decide_eq_true ⟨c1, q3⟩) hno]; rfl)
  refine X 200 _ _ _ _ _ _ _ _ _ ?_
  exact G 0 (Nat.zero_le _) _ rfl (fun j hj => absurd hj (Nat.not_lt_zero j))
set_option maxRecDepth 20000 in
theorem c_Menters3 {J : mJ} (X : mRules J) {I A : mI} {B : mB} {w f : Nat} {R : mR} {a : Ac} (M : MR a w I A B) (V : Vw a) (hn5 : a.n + 1 ≤ 500) {s v : Nat} {m : Int} {o xs xv : Int32} {xm : Int64} (es : xs = nI s) (em : xm = zL m) (ev : xv = nI v) (h : ∀ I' A' B', MR (zen a s m v o) w I' A' B' → fM I A B I' A' B' → (∀ r, r ≠ 55 → B' r = B r) → R none I' A' B' (pk w f)) : J n_M_enters 0 [.ref 43, .int xs, .long xm, .float 0, .int xv, .int o] [] I A B (pk w f) R := by
  subst es; subst em; subst ev
  refine X 200 _ _ _ _ _ _ _ _ _ ?_
  refine Exists.intro _ (And.intro rfl (And.intro (by rw [M.hn]; exact vin (by omega) (by omega)) ?_))
  refine Exists.intro _ (And.intro rfl (And.intro (by rw [M.hn]; exact vin (by omega) (by omega)) ?_))
  refine Exists.intro _ (And.intro rfl (And.intro (by rw [M.hn]; exact vin (by omega) (by omega)) ?_))
  refine Exists.intro _ (And.intro rfl (And.intro (by rw [M.hn]; exact vin (by omega) (by omega)) ?_))
  refine Exists.intro _ (And.intro rfl (And.intro (by rw [M.hn]; exact vin (by omega) (by omega)) ?_))
  exact h _ _ _ (M.en (by rw [M.hn]; exact cl (by omega)) (by rw [M.hn]; exact cl (by omega)) (by rw [M.hn]; exact cl (by omega)) (by rw [M.hn]; exact cl (by omega)) (by rw [M.hn]; exact cl (by omega)) (by show I 43 19 + 1 = _; rw [M.hn, nI_1]) M.hc) fM.en (fun r hr => up2_r hr)
set_option maxRecDepth 20000 in
theorem r_ideal {J : mJ} (X : mRules J) {I A : mI} {B : mB} {w f : Nat} {R : mR} {a : Ac} (M : MR a w I A B) (V : Vw a) (hn7 : a.n + 9 ≤ 480) (hVi : ∀ q, q ≤ a.N → Vw (zie a q)) {p : Int32} (h : qM a w f I A B R (some (.long (an_ideal a (ixN a.N p))))) : J n_M_ideal 0 [.ref 43, .int p, .float 0, .float 0, .float 0, .float 0] [] I A B (pk w f) R := by
  have hP40 := V.P40
  have hN8 := V.N8
  have hn4 := V.n4
  have hnt4 := V.nt4
  have hcN := V.cN
  have hPN := Nat.mul_le_mul hP40 hN8
  have hD31 : a.P * a.N < 2 ^ 31 := by omega
  have hN31 : a.N < 2 ^ 31 := by omega
  have hn31 : a.n < 2 ^ 31 := by omega
  have hnt31 : a.nt < 2 ^ 31 := by omega
  have G3 : ∀ (p0 : Nat) (v : Int64) (xw : Int32) (exw : xw = nI a.n) (h : qM a w f I A B R (some (.long v))), ∀ i, i ≤ a.n → ∀ (x : Int32) (Iv : mI) (Av : mI) (Bv : mB), x = nI i → MR (zkr a i) w Iv Av Bv → fM I A B Iv Av Bv → (∀ j, j < a.n → Bv 64 j = zL (a.am j)) → J n_M_ideal 112 [.ref 43, .int (nI p0), .int xw, .long v, .float 0, .int x] [] Iv Av Bv (pk w f) R := by
    intro p0 v xw exw h
    have G : ∀ i, i ≤ a.n → ∀ (x : Int32) (Iv : mI) (Av : mI) (Bv : mB), x = nI i → MR (zkr a i) w Iv Av Bv → fM I A B Iv Av Bv → (∀ j, j < a.n → Bv 64 j = zL (a.am j)) → J n_M_ideal 112 [.ref 43, .int (nI p0), .int xw, .long v, .float 0, .int x] [] Iv Av Bv (pk w f) R := by
      refine lpz (fun i => ∀ (x : Int32) (Iv : mI) (Av : mI) (Bv : mB), x = nI i → MR (zkr a i) w Iv Av Bv → fM I A B Iv Av Bv → (∀ j, j < a.n → Bv 64 j = zL (a.am j)) → J n_M_ideal 112 [.ref 43, .int (nI p0), .int xw, .long v, .float 0, .int x] [] Iv Av Bv (pk w f) R) (fun i hi ih => ?_)
      intro x Iv Av Bv ex Mv fv hk
      subst ex
      refine X 200 _ _ _ _ _ _ _ _ _ ?_
      refine And.intro (fun q1 => ?_) (fun q1 => ?_)
      · rw [exw] at q1
        have e := lpx hi (by omega) q1
        subst e
        exact h _ _ _ Mv.ke fv
      · rw [exw] at q1
        have hl := lpc hi (by omega) q1
        have hb31 : (nI i).toNatClampNeg = i := cl (by omega)
        refine Exists.intro _ (And.intro rfl (And.intro (vin (by omega) (by omega)) ?_))
        refine Exists.intro _ (And.intro rfl (And.intro (vin (by omega) (by omega)) ?_))
        have e5 : Bv 64 (nI i).toNatClampNeg = zL (a.am i) := by rw [hb31]; exact hk i hl
        exact ih hl _ _ _ _ (nI_1 i) (Mv.kr2 (fun j hj => by
          rw [kr_s, hb31]
          by_cases z : j = i
          · subst z
            rw [up2_s, if_pos rfl]
            exact hk j hl
          · rw [up2_m z, if_neg z]
            exact Mv.ham j hj)) (fv.trans (fM.b (by omega))) (fun j hj => by rw [up2_n (show 64 ≠ 55 by decide)]; exact hk j hj)
    exact G
  have G2 : ∀ (p0 : Nat) (hp : p0 < a.N) (xw : Int32) (exw : xw = nI a.n) (h : qM a w f I A B R (some (.long (zvq a (p0 + 1))))) (hVi : ∀ q, q ≤ p0 + 1 → Vw (zie a q)), ∀ i, i ≤ (p0 + 1) → ∀ (v : Int64) (x : Int32) (Iv : mI) (Av : mI) (Bv : mB), v = zvq a i → x = nI i → MR (zie a i) w Iv Av Bv → fM I A B Iv Av Bv → (∀ j, j < a.n → Bv 64 j = zL (a.am j)) → J n_M_ideal 71 [.ref 43, .int (nI p0), .int xw, .long v, .float 0, .int x] [] Iv Av Bv (pk w f) R := by
    intro p0 hp xw exw h hVi
    have G : ∀ i, i ≤ (p0 + 1) → ∀ (v : Int64) (x : Int32) (Iv : mI) (Av : mI) (Bv : mB), v = zvq a i → x = nI i → MR (zie a i) w Iv Av Bv → fM I A B Iv Av Bv → (∀ j, j < a.n → Bv 64 j = zL (a.am j)) → J n_M_ideal 71 [.ref 43, .int (nI p0), .int xw, .long v, .float 0, .int x] [] Iv Av Bv (pk w f) R := by
      refine lpz (fun i => ∀ (v : Int64) (x : Int32) (Iv : mI) (Av : mI) (Bv : mB), v = zvq a i → x = nI i → MR (zie a i) w Iv Av Bv → fM I A B Iv Av Bv → (∀ j, j < a.n → Bv 64 j = zL (a.am j)) → J n_M_ideal 71 [.ref 43, .int (nI p0), .int xw, .long v, .float 0, .int x] [] Iv Av Bv (pk w f) R) (fun i hi ih => ?_)
      intro v x Iv Av Bv ev ex Mv fv hk
      subst ev; subst ex
      obtain ⟨hxe, hxc, hxn⟩ := ex_ie (a := a) i
      have hxP : (zie a i).P = a.P := hxe.sr.P
      have hxN : (zie a i).N = a.N := hxe.sr.N
      refine X 200 _ _ _ _ _ _ _ _ _ ?_
      refine And.intro (fun q1 => ?_) (fun q1 => ?_)
      · have e : i = p0 + 1 := by have := (nI_ltI (by omega) (by omega)).mp q1; omega
        subst e
        have M9 : MR (zkp a a.n) w (up2 Iv 43 19 xw) Av Bv := Mv.rn hxe hxc exw
        exact G3 p0 (zvq a (p0 + 1)) xw exw h 0 (Nat.zero_le _) _ _ _ _ rfl (M9.kr (y := 0) (fun j hj => (M9.ham j hj).trans (congrArg zL kr_0))) (fv.trans (fM.i (by omega))) hk
      · have hl : i < p0 + 1 := by have := Nat.le_of_not_lt (fun z => q1 (nI_lt z (by omega))); omega
        refine c_MinterestOf X Mv (hVi i (by omega)) (p := i) (by rw [hxP]; have := P_le (a := a) (p := i) (by omega); omega) (fun Bv1 hv1 => ?_)
        have M1 := (Mv).fB (hv1 55 (by decide))
        have f1 := (fv).trans (fM.b59 hv1)
        refine c_Mcomp X M1 (hVi i (by omega)) (p := i) (by omega) (show 0 < (zie a i).N by rw [hxN]; omega) ?_
        refine c_Menters3 X M1 (hVi i (by omega)) (by omega) (s := 1) rfl rfl rfl (fun I2 A2 B2 M2 g2 hb55 => ?_)
        have f2 := f1.trans g2
        have hb64 : B2 64 = Bv 64 := (hb55 64 (by decide)).trans (hv1 64 (by decide))
        exact ih hl _ _ _ _ _ rfl (nI_1 i) M2 f2 (fun j hj => by rw [hb64]; exact hk j hj)
    exact G
  have G1 : ∀ (p0 : Nat) (hp : p0 < a.N) (xw : Int32) (exw : xw = nI a.n) (h : qM a w f I A B R (some (.long (zvq a (p0 + 1))))) (hVi : ∀ q, q ≤ p0 + 1 → Vw (zie a q)), ∀ i, i ≤ a.n → ∀ (x : Int32) (Iv : mI) (Av : mI) (Bv : mB), x = nI i → MR (zkp a i) w Iv Av Bv → fM I A B Iv Av Bv → (∀ j, j < i → Bv 64 j = zL (a.am j)) → J n_M_ideal 19 [.ref 43, .int (nI p0), .int xw, .int x, .float 0, .float 0] [] Iv Av Bv (pk w f) R := by
    intro p0 hp xw exw h hVi
    have G : ∀ i, i ≤ a.n → ∀ (x : Int32) (Iv : mI) (Av : mI) (Bv : mB), x = nI i → MR (zkp a i) w Iv Av Bv → fM I A B Iv Av Bv → (∀ j, j < i → Bv 64 j = zL (a.am j)) → J n_M_ideal 19 [.ref 43, .int (nI p0), .int xw, .int x, .float 0, .float 0] [] Iv Av Bv (pk w f) R := by
      refine lpz (fun i => ∀ (x : Int32) (Iv : mI) (Av : mI) (Bv : mB), x = nI i → MR (zkp a i) w Iv Av Bv → fM I A B Iv Av Bv → (∀ j, j < i → Bv 64 j = zL (a.am j)) → J n_M_ideal 19 [.ref 43, .int (nI p0), .int xw, .int x, .float 0, .float 0] [] Iv Av Bv (pk w f) R) (fun i hi ih => ?_)
      intro x Iv Av Bv ex Mv fv hk
      subst ex
      refine X 200 _ _ _ _ _ _ _ _ _ ?_
      refine And.intro (fun q1 => ?_) (fun q1 => ?_)
      · rw [exw] at q1
        have e := lpx hi (by omega) q1
        subst e
        exact G2 p0 hp xw exw h hVi 0 (Nat.zero_le _) _ _ _ _ _ rfl rfl Mv fv hk
      · rw [exw] at q1
        have hl := lpc hi (by omega) q1
        have hb31 : (nI i).toNatClampNeg = i := cl (by omega)
        have hs1 : Av 54 i = nI (a.so i) := Mv.hso i hl
        have hs3 := V.so3 i hl
        refine Exists.intro _ (And.intro rfl (And.intro (vin (by omega) (by omega)) ?_))
        refine Exists.intro _ (And.intro rfl (And.intro (vin (by omega) (by omega)) ?_))
        refine Exists.intro _ (And.intro rfl (And.intro (vin (by omega) (by omega)) ?_))
        refine And.intro (fun q2 => ?_) (fun q2 => ?_)
        · rw [hb31, hs1] at q2
          have c1 : ¬ a.so i = 0 := fun z => q2 (by rw [z]; rfl)
          refine Exists.intro _ (And.intro rfl (And.intro (vin (by omega) (by omega)) ?_))
          have cz : ¬ (a.so i = 0 ∧ ztn a i = false) := fun z => c1 z.1
          exact ih hl _ _ _ _ (nI_1 i) (Mv.kp (y := i + 1) (fun j hj => by
            rw [kp_z cz, hb31]
            by_cases z : j = i
            · subst z
              rw [up2_s, if_pos rfl]
              rfl
            · rw [up2_m z, if_neg z, up2_n (show 55 ≠ 64 by decide)]
              exact Mv.ham j hj)) ((fv.trans (fM.b (r := 64) (by omega))).trans (fM.b (r := 55) (by omega))) (fun j hj => by
            rw [hb31]
            by_cases z : j = i
            · subst z
              rw [up2_n (show 64 ≠ 55 by decide)]
              rw [up2_s, Mv.ham j hl, kp_am]
            · rw [up2_n (show 64 ≠ 55 by decide)]
              rw [up2_m z]
              exact hk j (by omega))
        · rw [hb31, hs1] at q2
          have c1 : a.so i = 0 := (nI_eq (b := 0) (by omega) (by omega)).mp q2
          refine c_MisTurned X (Mv.fB (B' := up2 Bv 64 (nI i).toNatClampNeg (Bv 55 (nI i).toNatClampNeg)) (up2_r (by decide))) (vw_kp V) (e := i) rfl (fun zt => ?_) (fun zt => ?_)
          · have zt2 : ztn a i = true := zt
            refine And.intro (fun q => absurd q (by decide)) (fun _ => ?_)
            refine Exists.intro _ (And.intro rfl (And.intro (vin (by omega) (by omega)) ?_))
            have cz : ¬ (a.so i = 0 ∧ ztn a i = false) := fun z => absurd z.2 (by rw [zt2]; decide)
            exact ih hl _ _ _ _ (nI_1 i) (Mv.kp (y := i + 1) (fun j hj => by
              rw [kp_z cz, hb31]
              by_cases z : j = i
              · subst z
                rw [up2_s, if_pos rfl]
                rfl
              · rw [up2_m z, if_neg z, up2_n (show 55 ≠ 64 by decide)]
                exact Mv.ham j hj)) ((fv.trans (fM.b (r := 64) (by omega))).trans (fM.b (r := 55) (by omega))) (fun j hj => by
              rw [hb31]
              by_cases z : j = i
              · subst z
                rw [up2_n (show 64 ≠ 55 by decide)]
                rw [up2_s, Mv.ham j hl, kp_am]
              · rw [up2_n (show 64 ≠ 55 by decide)]
                rw [up2_m z]
                exact hk j (by omega))
          · have zt2 : ztn a i = false := zt
            refine And.intro (fun _ => ?_) (fun q => absurd (by decide) q)
            have cz : a.so i = 0 ∧ ztn a i = false := ⟨c1, zt2⟩
            exact ih hl _ _ _ _ (nI_1 i) (Mv.kp (y := i + 1) (fun j hj => by
              rw [kp_k cz, up2_n (show 55 ≠ 64 by decide)]
              exact Mv.ham j hj)) (fv.trans (fM.b (r := 64) (by omega))) (fun j hj => by
              rw [hb31]
              by_cases z : j = i
              · subst z
                rw [up2_s, Mv.ham j hl, kp_am]
              · rw [up2_m z]
                exact hk j (by omega))
    exact G
  refine X 200 _ _ _ _ _ _ _ _ _ ?_
  refine c_MisPeriod X M V (fun p0 hp ep => ?_) (fun zp => ?_)
  · subst ep
    refine And.intro (fun _ => ?_) (fun q => absurd q (by decide))
    rw [ixN_s hp hN31] at h
    exact G1 p0 hp _ M.hn h (fun q hq => hVi q (by omega)) 0 (Nat.zero_le _) _ _ _ _ rfl M.k0 (fM.refl _ _ _) (fun j hj => absurd hj (Nat.not_lt_zero j))
  · refine And.intro (fun q => absurd (by decide) q) (fun _ => ?_)
    rw [ixN_n hN31 zp] at h
    exact h _ _ _ M (fM.refl _ _ _)
