/-! contracts of the class: acts (written by wip/whole/gk6.py) -/
set_option maxRecDepth 20000 in
theorem c_put7 {J : mJ} (X : mRules J) {I A : mI} {B : mB} {w f : Nat} {R : mR} {k : Nat} (hk : k ≤ 81) {xk v0 v1 v2 v3 : Int32} (ek : xk = nI k) (h : R none I (spt A 8 k v0 v1 v2 v3) B (pk w f)) : J n_Script_put 0 [.ref 7, .int xk, .int v0, .int v1, .int v2, .int v3, .float 0] [] I A B (pk w f) R := by
  have e0 : xk * 4 = nI (4 * k) := by rw [ek, show nI k * (4 : Int32) = nI (k * 4) from pk_mul k 4, Nat.mul_comm]
  have e1 : xk * 4 + 1 = nI (4 * k + 1) := by rw [e0]; exact nI_add _ 1
  have e2 : xk * 4 + 2 = nI (4 * k + 2) := by rw [e0]; exact nI_add _ 2
  have e3 : xk * 4 + 3 = nI (4 * k + 3) := by rw [e0]; exact nI_add _ 3
  have e4 : xk * 4 + 4 = nI (4 * k + 4) := by rw [e0]; exact nI_add _ 4
  refine X 200 _ _ _ _ _ _ _ _ _ ?_
  refine And.intro (fun q1 => ?_) (fun q1 => ?_)
  · rw [e0] at q1
    exact absurd q1 (nI_pos (by omega)) --end
  · refine Exists.intro _ (Exists.intro _ (And.intro rfl ?_))
    refine And.intro (fun q2 => ?_) (fun q2 => ?_)
    · rw [e4] at q2
      exact absurd q2 (nI_nlt (a := 328) (by omega) (by omega)) --end
    · refine Exists.intro _ (And.intro rfl (And.intro (show vp_in (xk * 4) 328 by rw [e0]; exact vin (by omega) (by omega)) ?_))
      refine Exists.intro _ (And.intro rfl (And.intro (show vp_in (xk * 4 + 1) 328 by rw [e1]; exact vin (by omega) (by omega)) ?_))
      refine Exists.intro _ (And.intro rfl (And.intro (show vp_in (xk * 4 + 2) 328 by rw [e2]; exact vin (by omega) (by omega)) ?_))
      refine Exists.intro _ (And.intro rfl (And.intro (show vp_in (xk * 4 + 3) 328 by rw [e3]; exact vin (by omega) (by omega)) ?_))
      have c0 : (xk * 4).toNatClampNeg = 4 * k := by rw [e0]; exact cl (by omega)
      have c1 : (xk * 4 + 1).toNatClampNeg = 4 * k + 1 := by rw [e1]; exact cl (by omega)
      have c2 : (xk * 4 + 2).toNatClampNeg = 4 * k + 2 := by rw [e2]; exact cl (by omega)
      have c3 : (xk * 4 + 3).toNatClampNeg = 4 * k + 3 := by rw [e3]; exact cl (by omega)
      have key : up2 (up2 (up2 (up2 A 8 (xk * 4).toNatClampNeg v0) 8 (xk * 4 + 1).toNatClampNeg v1) 8 (xk * 4 + 2).toNatClampNeg v2) 8 (xk * 4 + 3).toNatClampNeg v3 = spt A 8 k v0 v1 v2 v3 := by
        rw [c0, c1, c2, c3]
        rfl
      rw [← key] at h
      exact h
set_option maxRecDepth 20000 in
theorem c_act {J : mJ} (X : mRules J) {I A : mI} {B : mB} {w f : Nat} {R : mR} {a : Ac} (C : CR a I A B) (G : Gd a) (H : Ch a) {P N K L T m : Nat} {rw : Nat → Rw} (S : ScR 7 8 I A P N K L T m rw) (hL0 : 0 < L) (hT : T ≤ 61) (hm : m - T < 20) {r : Rw} (hk1 : 1 ≤ r.1) (O : Ok a r) (hn2 : (3 ≤ r.1 → a.n < 220) ∧ (r.1 = 5 → a.n + 8 ≤ 220)) (hnc32 : a.nc ≤ 32) {v0 v1 v2 v3 : Int32} (h0 : v0 = nI (r.1 + 1)) (h1 : v1 = nI r.2.1) (h2 : v2 = zN r.2.2.1) (h3 : v3 = nI r.2.2.2) (h : ∀ I' A' B', CR (zdo a r) I' A' B' → ScR 7 8 I' A' P N K L T (m + 1) (zup rw m r) → fS I A B I' A' B' → R none I' A' B' (pk w f)) : J n_V_act 0 [.ref 0, .int v0, .int v1, .int v2, .int v3] [] I A B (pk w f) R := by
  have hTm := S.hT
  obtain ⟨hLT, _⟩ := S.h0 hL0
  have eLa : I 7 1 + I 7 2 = nI (m + 1) := by rw [S.hL, S.ha, nI_add]; congr 1; omega
  have ea1 : I 7 2 + 1 = nI (m + 1 - T) := by rw [S.ha, nI_1]; congr 1; omega
  refine X 200 _ _ _ _ _ _ _ _ _ ?_
  refine And.intro (fun q1 => ?_) (fun q1 => ?_)
  · rw [S.ha] at q1
    exact absurd q1 (nI_ge (b := 20) hm (by omega)) --end
  · refine c_put7 X (k := m + 1) (by omega) eLa ?_
    have C1 : CR a I (spt A 8 (m + 1) v0 v1 v2 v3) B := C.fw rfl rfl rfl (fun k _ _ => spt_q (by omega))
    have S1 := S.ad hL0 hk1 (x := I 7 2 + 1) ea1 h0 h1 h2 h3
    have C2 : CR a (up2 I 7 2 (I 7 2 + 1)) (spt A 8 (m + 1) v0 v1 v2 v3) B := C1.fw (up2_r (by decide)) (up2_r (by decide)) (up2_r (by decide)) (fun _ _ _ => rfl)
    have hsz : up2 I 7 2 (I 7 2 + 1) 7 1 + up2 I 7 2 (I 7 2 + 1) 7 2 = nI (m + 2) := by rw [S1.hL, S1.ha, nI_add]; congr 1; omega
    refine c_size X hsz ?_
    refine c_perform X C2 G H hn2 hnc32 (k := m) (s := m + 2) hsz (by omega) (by omega) (r := r) (by have := S1.hr m (by omega); rw [zup_s] at this; exact this) O (nI_pred (m + 1)) (fun I2 A2 B2 C3 g2 => ?_)
    exact h _ _ _ C3 (S1.fr (g2.ir 7 (by decide) (by decide) (by decide)) (g2.ar 8 (by omega))) (g2.fS (fun k hk => up2_r hk) (fun k hk => spt_q hk))
set_option maxRecDepth 20000 in
theorem c_moneyAhead {J : mJ} (X : mRules J) {I A : mI} {B : mB} {w f : Nat} {R : mR} {a : Ac} (C : CR a I A B) (V : Vw a) (hn2 : a.n ≤ 220) {e0 : Nat} (he : e0 < a.n) {xe : Int32} (exe : xe = nI e0) (h : R (some (.int (nI (ct (fun j => decide (a.so j = 0)) e0)))) I A B (pk w f)) : J n_Entries_moneyAhead 0 [.ref 29, .int xe, .float 0, .float 0] [] I A B (pk w f) R := by
  subst exe
  have G : ∀ i, i ≤ e0 → ∀ (s : Int32) (x : Int32), s = nI (ct (fun j => decide (a.so j = 0)) i) → x = nI i → J n_Entries_moneyAhead 4 [.ref 29, .int (nI e0), .int s, .int x] [] I A B (pk w f) R := by
    refine lpz (fun i => ∀ (s : Int32) (x : Int32), s = nI (ct (fun j => decide (a.so j = 0)) i) → x = nI i → J n_Entries_moneyAhead 4 [.ref 29, .int (nI e0), .int s, .int x] [] I A B (pk w f) R) (fun i hi ih => ?_)
    intro s x es ex
    subst es; subst ex
    refine X 200 _ _ _ _ _ _ _ _ _ ?_
    refine And.intro (fun q1 => ?_) (fun q1 => ?_)
    · rw [C.hn] at q1
      have e9 : a.n ≤ i := (nI_leI (by omega) (by omega)).mp q1
      exact absurd e9 (by omega) --end
    · refine And.intro (fun q2 => ?_) (fun q2 => ?_)
      · have e9 := lpx hi (by omega) q2
        subst e9
        exact h
      · have hl := lpc hi (by omega) q2
        have hb31 : (nI i).toNatClampNeg = i := cl (by omega)
        have hs1 := C.hso i (by omega)
        have hs3 := V.so3 i (by omega)
        refine Exists.intro _ (And.intro rfl (And.intro (vin (by omega) (by omega)) ?_))
        refine And.intro (fun q3 => ?_) (fun q3 => ?_)
        · rw [hb31, hs1] at q3
          have cc : (fun j => decide (a.so j = 0)) i = false := decide_eq_false (fun z => q3 (by rw [z]; rfl))
          exact ih hl _ _ (by rw [ct_f cc]) (nI_1 i)
        · rw [hb31, hs1] at q3
          have cc : (fun j => decide (a.so j = 0)) i = true := decide_eq_true ((nI_eq (b := 0) (by omega) (by omega)).mp q3)
          exact ih hl _ _ (by rw [ct_t cc]; exact nI_1 _) (nI_1 i)
  refine X 200 _ _ _ _ _ _ _ _ _ ?_
  exact G 0 (Nat.zero_le _) _ _ rfl rfl
set_option maxRecDepth 20000 in
theorem k_bookMoney {J : mJ} (X : mRules J) {I A : mI} {B : mB} {w f : Nat} {R : mR} {a : Ac} (C : CR a I A B) (G : Gd a) (H : Ch a) {P N K L T m : Nat} {rw : Nat → Rw} (S : ScR 7 8 I A P N K L T m rw) {fl : Bool} (hL0 : 0 < a.N → 0 < L) (hT : T ≤ 61) (hfl : fl = true ↔ m - T = 20) (hmT : m - T ≤ 20) (hn2 : fl = false → a.n + 8 ≤ 220) (hn3 : a.n ≤ 220) (hnc32 : fl = false → a.nc < 32) {d mm xs : Int32} {sg : Int} (hsg : sg = 1 ∨ sg = -1) (exs : xs = zN sg) (h : qS a w f I A B P N K L T m rw R (ac_pay a fl d mm sg)) : J n_V_bookMoney 0 [.ref 0, .int d, .int mm, .int xs] [] I A B (pk w f) R := by
  have V := G.V
  have hP40 := V.P40
  have hN8 := V.N8
  have hnt4 := V.nt4
  have hcN := V.cN
  have hK1 := V.K1
  have hK4 := V.K4
  have hPN := D320 V
  have hNP : a.N * a.P ≤ 320 := by rw [Nat.mul_comm]; exact hPN
  have hD31 : a.P * a.N < 2 ^ 31 := by omega
  have hN31 : a.N < 2 ^ 31 := by omega
  have hn31 : a.n < 2 ^ 31 := by omega
  have hnt31 : a.nt < 2 ^ 31 := by omega
  have hDD : I 16 4 * I 16 5 = nI (a.P * a.N) := by rw [C.hP, C.hN, pk_mul]
  have hvn : ∀ j, j < a.n → A 32 j = nI (a.va j) ∧ a.va j < 2 ^ 20 := fun j hj => ⟨C.hva j hj, by have := V.va9 j hj; omega⟩
  have hTm := S.hT
  refine X 200 _ _ _ _ _ _ _ _ _ ?_
  refine c_isDay X hD31 hDD (fun d0 hd ed => ?_) (fun zd => ?_)
  · subst ed
    refine And.intro (fun q => absurd q (by decide)) (fun _ => ?_)
    refine c_isBetween X (fun z1 z2 => ?_) (fun zm => ?_)
    · have zm := And.intro z1 z2
      refine And.intro (fun _ => ?_) (fun q => absurd q (by decide))
      refine c_hasOpen X (fun zo0 => ?_) (fun zo0 => ?_)
      · have zo : a.c < a.N := by rw [C.hc, C.hN, nI_ltI (by omega) (by omega)] at zo0; exact zo0
        refine And.intro (fun q => absurd q (by decide)) (fun _ => ?_)
        refine c_isFull X (fun zf => ?_) (fun zf => ?_)
        · have zf1 : 20 ≤ m - T := by rw [S.ha] at zf; exact (nI_leI (a := 20) (by omega) (by omega)).mp zf
          have zf2 : ¬ fl = false := fun q => by rw [hfl.mpr (by omega)] at q; cases q
          refine And.intro (fun q => absurd q (by decide)) (fun _ => ?_)
          rw [show ac_pay a fl (nI d0) mm sg = .inl (-5) by unfold ac_pay; rw [ixN_s hd hD31]; exact (if_pos zm).trans (if_neg (fun z => zf2 z.2))] at h
          exact h
        · have zf1 : m - T < 20 := Nat.lt_of_not_le (fun z => zf (by rw [S.ha]; exact nI_le (a := 20) z (by omega)))
          have zf2 : fl = false := by cases fl with | false => rfl | true => exact absurd (hfl.mp rfl) (by omega)
          have hn28 := hn2 zf2
          have hnc31 := hnc32 zf2
          refine And.intro (fun _ => ?_) (fun q => absurd (by decide) q)
          have hmt : 1 ≤ mm.toInt ∧ mm.toInt ≤ 99999 := i32b zm
          have e9 : ac_pay a fl (nI d0) mm sg = .inr (3, d0, sg * mm.toInt, 0) := by unfold ac_pay; rw [ixN_s hd hD31]; exact (if_pos zm).trans (if_pos ⟨zo, zf2⟩)
          rw [e9] at h
          have O9 : Ok a (3, d0, sg * mm.toInt, 0) := ok_E (by omega) zo hd (by rcases hsg with q | q <;> rw [q] <;> omega)
          refine c_act X C G H S (hL0 (by omega)) hT zf1 (r := (3, d0, sg * mm.toInt, 0)) (by simp) O9 ⟨(fun _ => by omega), (fun q => absurd q (by simp))⟩ (by omega) rfl rfl (by rw [exs]; show zN sg * mm = Int32.ofInt (sg * mm.toInt); rw [Int32.ofInt_mul, Int32.ofInt_toInt]) rfl (fun I1 A1 B1 C1 S1 f1 => ?_)
          have en : I1 29 6 - 1 = nI a.n := by rw [C1.hn]; exact nI_pred a.n
          have h2 := h O9 _ _ _ C1 S1 f1
          rw [show zrv a (3, d0, sg * mm.toInt, 0) = I1 29 6 - 1 from en.symm] at h2
          exact h2
      · have zo : ¬ a.c < a.N := by rw [C.hc, C.hN, nI_ltI (by omega) (by omega)] at zo0; exact zo0
        refine And.intro (fun _ => ?_) (fun q => absurd (by decide) q)
        rw [show ac_pay a fl (nI d0) mm sg = .inl (-5) by unfold ac_pay; rw [ixN_s hd hD31]; exact (if_pos zm).trans (if_neg (fun z => zo z.1))] at h
        exact h
    · refine And.intro (fun q => absurd (by decide) q) (fun _ => ?_)
      rw [show ac_pay a fl (nI d0) mm sg = .inl (-2) by unfold ac_pay; rw [ixN_s hd hD31]; exact if_neg zm] at h
      exact h
  · refine And.intro (fun _ => ?_) (fun q => absurd (by decide) q)
    rw [show ac_pay a fl d mm sg = .inl (-2) by unfold ac_pay; rw [ixN_n hD31 zd]] at h
    exact h
theorem k_pay {J : mJ} (X : mRules J) {I A : mI} {B : mB} {w f : Nat} {R : mR} {a : Ac} (C : CR a I A B) (G : Gd a) (H : Ch a) {P N K L T m : Nat} {rw : Nat → Rw} (S : ScR 7 8 I A P N K L T m rw) {fl : Bool} (hL0 : 0 < a.N → 0 < L) (hT : T ≤ 61) (hfl : fl = true ↔ m - T = 20) (hmT : m - T ≤ 20) (hn2 : fl = false → a.n + 8 ≤ 220) (hn3 : a.n ≤ 220) (hnc32 : fl = false → a.nc < 32) {d mm : Int32} (h : qS a w f I A B P N K L T m rw R (ac_pay a fl d mm 1)) : J n_V_pay 0 [.ref 0, .int d, .int mm] [] I A B (pk w f) R := by
  refine X 200 _ _ _ _ _ _ _ _ _ ?_
  refine k_bookMoney X C G H S hL0 hT hfl hmT hn2 hn3 hnc32 (sg := 1) (by omega) rfl ?_
  exact h
theorem k_draw {J : mJ} (X : mRules J) {I A : mI} {B : mB} {w f : Nat} {R : mR} {a : Ac} (C : CR a I A B) (G : Gd a) (H : Ch a) {P N K L T m : Nat} {rw : Nat → Rw} (S : ScR 7 8 I A P N K L T m rw) {fl : Bool} (hL0 : 0 < a.N → 0 < L) (hT : T ≤ 61) (hfl : fl = true ↔ m - T = 20) (hmT : m - T ≤ 20) (hn2 : fl = false → a.n + 8 ≤ 220) (hn3 : a.n ≤ 220) (hnc32 : fl = false → a.nc < 32) {d mm : Int32} (h : qS a w f I A B P N K L T m rw R (ac_pay a fl d mm (-1))) : J n_V_draw 0 [.ref 0, .int d, .int mm] [] I A B (pk w f) R := by
  refine X 200 _ _ _ _ _ _ _ _ _ ?_
  refine k_bookMoney X C G H S hL0 hT hfl hmT hn2 hn3 hnc32 (sg := (-1)) (by omega) rfl ?_
  exact h
set_option maxRecDepth 20000 in
theorem k_close {J : mJ} (X : mRules J) {I A : mI} {B : mB} {w f : Nat} {R : mR} {a : Ac} (C : CR a I A B) (G : Gd a) (H : Ch a) {P N K L T m : Nat} {rw : Nat → Rw} (S : ScR 7 8 I A P N K L T m rw) {fl : Bool} (hL0 : 0 < a.N → 0 < L) (hT : T ≤ 61) (hfl : fl = true ↔ m - T = 20) (hmT : m - T ≤ 20) (hn2 : fl = false → a.n + 8 ≤ 220) (hn3 : a.n ≤ 220) (hnc32 : fl = false → a.nc < 32) {bk : Bool} (hbk : I 7 1 = 0 ↔ bk = false) (h : qS a w f I A B P N K L T m rw R (ac_close a bk fl)) : J n_V_close 0 [.ref 0] [] I A B (pk w f) R := by
  have V := G.V
  have hP40 := V.P40
  have hN8 := V.N8
  have hnt4 := V.nt4
  have hcN := V.cN
  have hK1 := V.K1
  have hK4 := V.K4
  have hPN := D320 V
  have hNP : a.N * a.P ≤ 320 := by rw [Nat.mul_comm]; exact hPN
  have hD31 : a.P * a.N < 2 ^ 31 := by omega
  have hN31 : a.N < 2 ^ 31 := by omega
  have hn31 : a.n < 2 ^ 31 := by omega
  have hnt31 : a.nt < 2 ^ 31 := by omega
  have hDD : I 16 4 * I 16 5 = nI (a.P * a.N) := by rw [C.hP, C.hN, pk_mul]
  have hvn : ∀ j, j < a.n → A 32 j = nI (a.va j) ∧ a.va j < 2 ^ 20 := fun j hj => ⟨C.hva j hj, by have := V.va9 j hj; omega⟩
  have hTm := S.hT
  refine X 200 _ _ _ _ _ _ _ _ _ ?_
  refine c_noBook X (fun zb => ?_) (fun zb => ?_)
  · have zb2 := hbk.mp zb
    subst zb2
    refine And.intro (fun q => absurd q (by decide)) (fun _ => ?_)
    exact h
  · have zb2 : bk = true := by cases bk with | true => rfl | false => exact absurd (hbk.mpr rfl) zb
    subst zb2
    refine And.intro (fun _ => ?_) (fun q => absurd (by decide) q)
    refine c_hasOpen X (fun zo0 => ?_) (fun zo0 => ?_)
    · have zo : a.c < a.N := by rw [C.hc, C.hN, nI_ltI (by omega) (by omega)] at zo0; exact zo0
      refine And.intro (fun q => absurd q (by decide)) (fun _ => ?_)
      refine c_isFull X (fun zf => ?_) (fun zf => ?_)
      · have zf1 : 20 ≤ m - T := by rw [S.ha] at zf; exact (nI_leI (a := 20) (by omega) (by omega)).mp zf
        have zf2 : ¬ fl = false := fun q => by rw [hfl.mpr (by omega)] at q; cases q
        refine And.intro (fun q => absurd q (by decide)) (fun _ => ?_)
        rw [show ac_close a true fl = .inl (-5) from if_neg (fun z => zf2 z.2)] at h
        exact h
      · have zf1 : m - T < 20 := Nat.lt_of_not_le (fun z => zf (by rw [S.ha]; exact nI_le (a := 20) z (by omega)))
        have zf2 : fl = false := by cases fl with | false => rfl | true => exact absurd (hfl.mp rfl) (by omega)
        have hn28 := hn2 zf2
        have hnc31 := hnc32 zf2
        refine And.intro (fun _ => ?_) (fun q => absurd (by decide) q)
        have e9 : ac_close a true fl = .inr (4, 0, 0, 0) := if_pos ⟨zo, zf2⟩
        rw [e9] at h
        have O9 := ok_L (a := a) (by omega) zo
        refine c_act X C G H S (hL0 (by omega)) hT zf1 (r := (4, 0, 0, 0)) (by simp) O9 ⟨(fun _ => by omega), (fun q => absurd q (by simp))⟩ (by omega) rfl rfl rfl rfl (fun I1 A1 B1 C1 S1 f1 => ?_)
        have en : I1 16 7 - 1 = nI a.c := by rw [C1.hc]; exact nI_pred a.c
        have h2 := h O9 _ _ _ C1 S1 f1
        rw [show zrv a (4, 0, 0, 0) = I1 16 7 - 1 from en.symm] at h2
        exact h2
    · have zo : ¬ a.c < a.N := by rw [C.hc, C.hN, nI_ltI (by omega) (by omega)] at zo0; exact zo0
      refine And.intro (fun _ => ?_) (fun q => absurd (by decide) q)
      rw [show ac_close a true fl = .inl (-5) from if_neg (fun z => zo z.1)] at h
      exact h
set_option maxRecDepth 20000 in
theorem k_rerun {J : mJ} (X : mRules J) {I A : mI} {B : mB} {w f : Nat} {R : mR} {a : Ac} (C : CR a I A B) (G : Gd a) (H : Ch a) {P N K L T m : Nat} {rw : Nat → Rw} (S : ScR 7 8 I A P N K L T m rw) {fl : Bool} (hL0 : 0 < a.N → 0 < L) (hT : T ≤ 61) (hfl : fl = true ↔ m - T = 20) (hmT : m - T ≤ 20) (hn2 : fl = false → a.n + 8 ≤ 220) (hn3 : a.n ≤ 220) (hnc32 : fl = false → a.nc < 32) {bk : Bool} (hbk : I 7 1 = 0 ↔ bk = false) (h : qS a w f I A B P N K L T m rw R (ac_rerun a bk fl)) : J n_V_rerun 0 [.ref 0, .float 0] [] I A B (pk w f) R := by
  have V := G.V
  have hP40 := V.P40
  have hN8 := V.N8
  have hnt4 := V.nt4
  have hcN := V.cN
  have hK1 := V.K1
  have hK4 := V.K4
  have hPN := D320 V
  have hNP : a.N * a.P ≤ 320 := by rw [Nat.mul_comm]; exact hPN
  have hD31 : a.P * a.N < 2 ^ 31 := by omega
  have hN31 : a.N < 2 ^ 31 := by omega
  have hn31 : a.n < 2 ^ 31 := by omega
  have hnt31 : a.nt < 2 ^ 31 := by omega
  have hDD : I 16 4 * I 16 5 = nI (a.P * a.N) := by rw [C.hP, C.hN, pk_mul]
  have hvn : ∀ j, j < a.n → A 32 j = nI (a.va j) ∧ a.va j < 2 ^ 20 := fun j hj => ⟨C.hva j hj, by have := V.va9 j hj; omega⟩
  have hTm := S.hT
  refine X 200 _ _ _ _ _ _ _ _ _ ?_
  refine c_noBook X (fun zb => ?_) (fun zb => ?_)
  · have zb2 := hbk.mp zb
    subst zb2
    refine And.intro (fun q => absurd q (by decide)) (fun _ => ?_)
    exact h
  · have zb2 : bk = true := by cases bk with | true => rfl | false => exact absurd (hbk.mpr rfl) zb
    subst zb2
    refine And.intro (fun _ => ?_) (fun q => absurd (by decide) q)
    refine c_hasOpen X (fun zo0 => ?_) (fun zo0 => ?_)
    · have zo : a.c < a.N := by rw [C.hc, C.hN, nI_ltI (by omega) (by omega)] at zo0; exact zo0
      refine And.intro (fun q => absurd q (by decide)) (fun _ => ?_)
      refine c_isFull X (fun zf => ?_) (fun zf => ?_)
      · have zf1 : 20 ≤ m - T := by rw [S.ha] at zf; exact (nI_leI (a := 20) (by omega) (by omega)).mp zf
        have zf2 : ¬ fl = false := fun q => by rw [hfl.mpr (by omega)] at q; cases q
        refine And.intro (fun q => absurd q (by decide)) (fun _ => ?_)
        rw [show ac_rerun a true fl = .inl (-5) from if_neg (fun z => zf2 z.2)] at h
        exact h
      · have zf1 : m - T < 20 := Nat.lt_of_not_le (fun z => zf (by rw [S.ha]; exact nI_le (a := 20) z (by omega)))
        have zf2 : fl = false := by cases fl with | false => rfl | true => exact absurd (hfl.mp rfl) (by omega)
        have hn28 := hn2 zf2
        have hnc31 := hnc32 zf2
        refine And.intro (fun _ => ?_) (fun q => absurd (by decide) q)
        have e9 : ac_rerun a true fl = .inr (5, 0, 0, 0) := if_pos ⟨zo, zf2⟩
        rw [e9] at h
        have O9 := ok_R (a := a) (by omega) zo
        refine c_act X C G H S (hL0 (by omega)) hT zf1 (r := (5, 0, 0, 0)) (by simp) O9 ⟨(fun _ => by omega), (fun _ => by omega)⟩ (by omega) rfl rfl rfl rfl (fun I1 A1 B1 C1 S1 f1 => ?_)
        have en : I1 29 6 - I 29 6 = nI ((zrr a a.c).n - a.n) := by rw [C1.hn, C.hn]; exact pk_sub (rr_c (a := a) a.c).2.2
        have h2 := h O9 _ _ _ C1 S1 f1
        rw [show zrv a (5, 0, 0, 0) = I1 29 6 - I 29 6 from en.symm] at h2
        exact h2
    · have zo : ¬ a.c < a.N := by rw [C.hc, C.hN, nI_ltI (by omega) (by omega)] at zo0; exact zo0
      refine And.intro (fun _ => ?_) (fun q => absurd (by decide) q)
      rw [show ac_rerun a true fl = .inl (-5) from if_neg (fun z => zo z.1)] at h
      exact h
set_option maxRecDepth 20000 in
theorem k_reverse {J : mJ} (X : mRules J) {I A : mI} {B : mB} {w f : Nat} {R : mR} {a : Ac} (C : CR a I A B) (G : Gd a) (H : Ch a) {P N K L T m : Nat} {rw : Nat → Rw} (S : ScR 7 8 I A P N K L T m rw) {fl : Bool} (hL0 : 0 < a.N → 0 < L) (hT : T ≤ 61) (hfl : fl = true ↔ m - T = 20) (hmT : m - T ≤ 20) (hn2 : fl = false → a.n + 8 ≤ 220) (hn3 : a.n ≤ 220) (hnc32 : fl = false → a.nc < 32) {e : Int32} (h : qS a w f I A B P N K L T m rw R (ac_reverse a fl e)) : J n_V_reverse 0 [.ref 0, .int e, .float 0] [] I A B (pk w f) R := by
  have V := G.V
  have hP40 := V.P40
  have hN8 := V.N8
  have hnt4 := V.nt4
  have hcN := V.cN
  have hK1 := V.K1
  have hK4 := V.K4
  have hPN := D320 V
  have hNP : a.N * a.P ≤ 320 := by rw [Nat.mul_comm]; exact hPN
  have hD31 : a.P * a.N < 2 ^ 31 := by omega
  have hN31 : a.N < 2 ^ 31 := by omega
  have hn31 : a.n < 2 ^ 31 := by omega
  have hnt31 : a.nt < 2 ^ 31 := by omega
  have hDD : I 16 4 * I 16 5 = nI (a.P * a.N) := by rw [C.hP, C.hN, pk_mul]
  have hvn : ∀ j, j < a.n → A 32 j = nI (a.va j) ∧ a.va j < 2 ^ 20 := fun j hj => ⟨C.hva j hj, by have := V.va9 j hj; omega⟩
  have hTm := S.hT
  refine X 200 _ _ _ _ _ _ _ _ _ ?_
  refine c_has X hn31 C.hn (fun e0 he ee => ?_) (fun ze => ?_)
  · subst ee
    refine And.intro (fun _ => ?_) (fun q => absurd q (by decide))
    refine c_sortOf X hn3 C.hn (i := e0) rfl he ?_
    have hs3 := V.so3 e0 he
    rw [C.hso e0 he]
    refine And.intro (fun q1 => ?_) (fun q1 => ?_)
    · have c1 : ¬ a.so e0 = 0 := fun z => q1 (by rw [z]; rfl)
      rw [show ac_reverse a fl (nI e0) = .inl (-5) by unfold ac_reverse; rw [ixN_s he hn31]; exact if_neg (fun z => c1 z.1)] at h
      exact h
    · have c1 : a.so e0 = 0 := (nI_eq (b := 0) (by omega) (by omega)).mp q1
      refine c_isTurnedBack X hn3 C.hn ?_
      rw [z_tn C V hn31]
      cases zt : ztn a e0
      · refine And.intro (fun _ => ?_) (fun q => absurd (by decide) q)
        refine c_hasOpen X (fun zo0 => ?_) (fun zo0 => ?_)
        · have zo : a.c < a.N := by rw [C.hc, C.hN, nI_ltI (by omega) (by omega)] at zo0; exact zo0
          refine And.intro (fun q => absurd q (by decide)) (fun _ => ?_)
          refine c_isFull X (fun zf => ?_) (fun zf => ?_)
          · have zf1 : 20 ≤ m - T := by rw [S.ha] at zf; exact (nI_leI (a := 20) (by omega) (by omega)).mp zf
            have zf2 : ¬ fl = false := fun q => by rw [hfl.mpr (by omega)] at q; cases q
            refine And.intro (fun q => absurd q (by decide)) (fun _ => ?_)
            rw [show ac_reverse a fl (nI e0) = .inl (-5) by unfold ac_reverse; rw [ixN_s he hn31]; exact if_neg (fun z => zf2 z.2.2.2)] at h
            exact h
          · have zf1 : m - T < 20 := Nat.lt_of_not_le (fun z => zf (by rw [S.ha]; exact nI_le (a := 20) z (by omega)))
            have zf2 : fl = false := by cases fl with | false => rfl | true => exact absurd (hfl.mp rfl) (by omega)
            have hn28 := hn2 zf2
            have hnc31 := hnc32 zf2
            refine And.intro (fun _ => ?_) (fun q => absurd (by decide) q)
            refine c_moneyAhead X C V hn3 he rfl ?_
            rw [show ac_reverse a fl (nI e0) = .inr (6, ct (fun j => decide (a.so j = 0)) e0, 0, 0) by unfold ac_reverse; rw [ixN_s he hn31]; exact if_pos ⟨c1, zt, zo, zf2⟩] at h
            have O9 := ok_B (a := a) (by omega) zo (ct_so he c1)
            refine c_act X C G H S (hL0 (by omega)) hT zf1 (r := (6, ct (fun j => decide (a.so j = 0)) e0, 0, 0)) (by simp) O9 ⟨(fun _ => by omega), (fun q => absurd q (by simp))⟩ (by omega) rfl rfl rfl rfl (fun I1 A1 B1 C1 S1 f1 => ?_)
            have en : I1 29 6 - 1 = nI a.n := by rw [C1.hn]; exact nI_pred a.n
            have h2 := h O9 _ _ _ C1 S1 f1
            rw [show zrv a (6, ct (fun j => decide (a.so j = 0)) e0, 0, 0) = I1 29 6 - 1 from en.symm] at h2
            exact h2
        · have zo : ¬ a.c < a.N := by rw [C.hc, C.hN, nI_ltI (by omega) (by omega)] at zo0; exact zo0
          refine And.intro (fun _ => ?_) (fun q => absurd (by decide) q)
          rw [show ac_reverse a fl (nI e0) = .inl (-5) by unfold ac_reverse; rw [ixN_s he hn31]; exact if_neg (fun z => zo z.2.2.1)] at h
          exact h
      · refine And.intro (fun q => absurd q (by decide)) (fun _ => ?_)
        rw [show ac_reverse a fl (nI e0) = .inl (-5) by unfold ac_reverse; rw [ixN_s he hn31]; exact if_neg (fun z => by rw [zt] at z; cases z.2.1)] at h
        exact h
  · refine And.intro (fun q => absurd (by decide) q) (fun _ => ?_)
    rw [show ac_reverse a fl e = .inl (-2) by unfold ac_reverse; rw [ixN_n hn31 ze]] at h
    exact h
theorem i32n {x : Int32} (lo n : Nat) (hl : lo < n) (hn : n < 2 ^ 31) (h1 : nI lo ≤ x) (h2 : x ≤ nI (n - 1)) : ∃ k, x = nI k ∧ lo ≤ k ∧ k < n := by
  have a1 : (nI lo).toInt ≤ x.toInt := Int32.le_iff_toInt_le.mp h1
  have a2 : x.toInt ≤ (nI (n - 1)).toInt := Int32.le_iff_toInt_le.mp h2
  rw [nI_toInt (by omega)] at a1
  rw [nI_toInt (by omega)] at a2
  exact ⟨x.toInt.toNat, by rw [nI_z, show ((x.toInt.toNat : Nat) : Int) = x.toInt by omega]; exact (Int32.ofInt_toInt x).symm, by omega, by omega⟩
set_option maxRecDepth 20000 in
theorem k_change {J : mJ} (X : mRules J) {I A : mI} {B : mB} {w f : Nat} {R : mR} {a : Ac} (C : CR a I A B) (G : Gd a) (H : Ch a) {P N K L T m : Nat} {rw : Nat → Rw} (S : ScR 7 8 I A P N K L T m rw) {fl : Bool} (hL0 : 0 < a.N → 0 < L) (hT : T ≤ 61) (hfl : fl = true ↔ m - T = 20) (hmT : m - T ≤ 20) (hn2 : fl = false → a.n + 8 ≤ 220) (hn3 : a.n ≤ 220) (hnc32 : fl = false → a.nc < 32) {d q v : Int32} (h : qS a w f I A B P N K L T m rw R (ac_change a fl d q v)) : J n_V_change 0 [.ref 0, .int d, .int q, .int v, .float 0, .float 0] [] I A B (pk w f) R := by
  have V := G.V
  have hP40 := V.P40
  have hN8 := V.N8
  have hnt4 := V.nt4
  have hcN := V.cN
  have hK1 := V.K1
  have hK4 := V.K4
  have hPN := D320 V
  have hNP : a.N * a.P ≤ 320 := by rw [Nat.mul_comm]; exact hPN
  have hD31 : a.P * a.N < 2 ^ 31 := by omega
  have hN31 : a.N < 2 ^ 31 := by omega
  have hn31 : a.n < 2 ^ 31 := by omega
  have hnt31 : a.nt < 2 ^ 31 := by omega
  have hDD : I 16 4 * I 16 5 = nI (a.P * a.N) := by rw [C.hP, C.hN, pk_mul]
  have hvn : ∀ j, j < a.n → A 32 j = nI (a.va j) ∧ a.va j < 2 ^ 20 := fun j hj => ⟨C.hva j hj, by have := V.va9 j hj; omega⟩
  have hTm := S.hT
  refine X 200 _ _ _ _ _ _ _ _ _ ?_
  refine And.intro (fun q1 => ?_) (fun q1 => ?_)
  · refine c_isTier X hnt31 C.hnt (fun q0 hqt eq => ?_) (fun zt => ?_)
    · have hq7 : q0 < 7 := by omega
      have hqq : q0 < a.nt ∨ 4 ≤ q0 := Or.inl hqt
      have hlim : (if q0 = 6 then 100000 else 5001) = 5001 := if_neg (fun z => q1 (by rw [eq, z]; rfl))
      refine And.intro (fun _ => ?_) (fun q => absurd q (by decide))
      refine c_isDay X hD31 hDD (fun d0 hd ed => ?_) (fun zd => ?_)
      · subst ed
        refine And.intro (fun q => absurd q (by decide)) (fun _ => ?_)
        refine And.intro (fun q => absurd q (by decide)) (fun _ => ?_)
        refine c_isBetween X (fun z1 z2 => ?_) (fun zb => ?_)
        · obtain ⟨v0, ev, _, hv⟩ := i32n 0 5001 (by decide) (by decide) z1 z2
          refine And.intro (fun _ => ?_) (fun q => absurd q (by decide))
          refine c_isFull X (fun zf => ?_) (fun zf => ?_)
          · have zf1 : 20 ≤ m - T := by rw [S.ha] at zf; exact (nI_leI (a := 20) (by omega) (by omega)).mp zf
            have zf2 : ¬ fl = false := fun q => by rw [hfl.mpr (by omega)] at q; cases q
            refine And.intro (fun q => absurd q (by decide)) (fun _ => ?_)
            rw [show ac_change a fl (nI d0) q v = .inl (-5) by unfold ac_change; rw [ixN_s hd hD31, eq, ixN_s hq7 (by decide)]; show (if q0 < a.nt ∨ 4 ≤ q0 then _ else _) = _; rw [if_pos hqq, hlim, ev, ixN_s hv (by decide)]; exact if_neg zf2] at h
            exact h
          · have zf1 : m - T < 20 := Nat.lt_of_not_le (fun z => zf (by rw [S.ha]; exact nI_le (a := 20) z (by omega)))
            have zf2 : fl = false := by cases fl with | false => rfl | true => exact absurd (hfl.mp rfl) (by omega)
            have hn28 := hn2 zf2
            have hnc31 := hnc32 zf2
            refine And.intro (fun _ => ?_) (fun q => absurd (by decide) q)
            have O9 : Ok a (2, d0, (q0 : Int), v0) := ok_C (by omega) (by omega) hd hqq hq7 (by rw [hlim]; exact hv)
            have e9 : ac_change a fl (nI d0) q v = .inr (2, d0, (q0 : Int), v0) := by unfold ac_change; rw [ixN_s hd hD31, eq, ixN_s hq7 (by decide)]; show (if q0 < a.nt ∨ 4 ≤ q0 then _ else _) = _; rw [if_pos hqq, hlim, ev, ixN_s hv (by decide)]; exact if_pos zf2
            rw [e9] at h
            refine c_act X C G H S (hL0 (Nat.pos_of_ne_zero (fun z => by rw [z] at hd; omega))) hT zf1 (r := (2, d0, (q0 : Int), v0)) (by simp) O9 ⟨(fun q => absurd q (by simp)), (fun q => absurd q (by simp))⟩ (by omega) rfl rfl (eq.trans (nI_z q0)) ev (fun I1 A1 B1 C1 S1 f1 => ?_)
            have en : I1 17 5 = nI (a.nc + 1) := C1.hnc
            have h2 := h O9 _ _ _ C1 S1 f1
            rw [show zrv a (2, d0, (q0 : Int), v0) = I1 17 5 from en.symm] at h2
            exact h2
        · have zv : ∀ j, j < 5001 → v ≠ nI j := fun j hj e => zb ⟨by rw [e]; exact nI_le (a := 0) (b := j) (by omega) (by omega), by rw [e]; exact nI_le (a := j) (b := 5001 - 1) (by omega) (by omega)⟩
          refine And.intro (fun q => absurd (by decide) q) (fun _ => ?_)
          rw [show ac_change a fl (nI d0) q v = .inl (-2) by unfold ac_change; rw [ixN_s hd hD31, eq, ixN_s hq7 (by decide)]; show (if q0 < a.nt ∨ 4 ≤ q0 then _ else _) = _; rw [if_pos hqq, hlim, ixN_n (by decide) zv]] at h
          exact h
      · refine And.intro (fun _ => ?_) (fun q => absurd (by decide) q)
        rw [show ac_change a fl d q v = .inl (-2) by unfold ac_change; rw [ixN_n hD31 zd]] at h
        exact h
    · refine And.intro (fun q => absurd (by decide) q) (fun _ => ?_)
      refine c_isBetween X (fun z1 z2 => ?_) (fun zb => ?_)
      · obtain ⟨q0, eq, hq4, hq7⟩ := i32n 4 7 (by decide) (by decide) z1 z2
        have hqq : q0 < a.nt ∨ 4 ≤ q0 := Or.inr hq4
        have hlim : (if q0 = 6 then 100000 else 5001) = 5001 := if_neg (fun z => q1 (by rw [eq, z]; rfl))
        refine And.intro (fun q => absurd q (by decide)) (fun _ => ?_)
        refine c_isDay X hD31 hDD (fun d0 hd ed => ?_) (fun zd => ?_)
        · subst ed
          refine And.intro (fun q => absurd q (by decide)) (fun _ => ?_)
          refine And.intro (fun q => absurd q (by decide)) (fun _ => ?_)
          refine c_isBetween X (fun z1 z2 => ?_) (fun zb => ?_)
          · obtain ⟨v0, ev, _, hv⟩ := i32n 0 5001 (by decide) (by decide) z1 z2
            refine And.intro (fun _ => ?_) (fun q => absurd q (by decide))
            refine c_isFull X (fun zf => ?_) (fun zf => ?_)
            · have zf1 : 20 ≤ m - T := by rw [S.ha] at zf; exact (nI_leI (a := 20) (by omega) (by omega)).mp zf
              have zf2 : ¬ fl = false := fun q => by rw [hfl.mpr (by omega)] at q; cases q
              refine And.intro (fun q => absurd q (by decide)) (fun _ => ?_)
              rw [show ac_change a fl (nI d0) q v = .inl (-5) by unfold ac_change; rw [ixN_s hd hD31, eq, ixN_s hq7 (by decide)]; show (if q0 < a.nt ∨ 4 ≤ q0 then _ else _) = _; rw [if_pos hqq, hlim, ev, ixN_s hv (by decide)]; exact if_neg zf2] at h
              exact h
            · have zf1 : m - T < 20 := Nat.lt_of_not_le (fun z => zf (by rw [S.ha]; exact nI_le (a := 20) z (by omega)))
              have zf2 : fl = false := by cases fl with | false => rfl | true => exact absurd (hfl.mp rfl) (by omega)
              have hn28 := hn2 zf2
              have hnc31 := hnc32 zf2
              refine And.intro (fun _ => ?_) (fun q => absurd (by decide) q)
              have O9 : Ok a (2, d0, (q0 : Int), v0) := ok_C (by omega) (by omega) hd hqq hq7 (by rw [hlim]; exact hv)
              have e9 : ac_change a fl (nI d0) q v = .inr (2, d0, (q0 : Int), v0) := by unfold ac_change; rw [ixN_s hd hD31, eq, ixN_s hq7 (by decide)]; show (if q0 < a.nt ∨ 4 ≤ q0 then _ else _) = _; rw [if_pos hqq, hlim, ev, ixN_s hv (by decide)]; exact if_pos zf2
              rw [e9] at h
              refine c_act X C G H S (hL0 (Nat.pos_of_ne_zero (fun z => by rw [z] at hd; omega))) hT zf1 (r := (2, d0, (q0 : Int), v0)) (by simp) O9 ⟨(fun q => absurd q (by simp)), (fun q => absurd q (by simp))⟩ (by omega) rfl rfl (eq.trans (nI_z q0)) ev (fun I1 A1 B1 C1 S1 f1 => ?_)
              have en : I1 17 5 = nI (a.nc + 1) := C1.hnc
              have h2 := h O9 _ _ _ C1 S1 f1
              rw [show zrv a (2, d0, (q0 : Int), v0) = I1 17 5 from en.symm] at h2
              exact h2
          · have zv : ∀ j, j < 5001 → v ≠ nI j := fun j hj e => zb ⟨by rw [e]; exact nI_le (a := 0) (b := j) (by omega) (by omega), by rw [e]; exact nI_le (a := j) (b := 5001 - 1) (by omega) (by omega)⟩
            refine And.intro (fun q => absurd (by decide) q) (fun _ => ?_)
            rw [show ac_change a fl (nI d0) q v = .inl (-2) by unfold ac_change; rw [ixN_s hd hD31, eq, ixN_s hq7 (by decide)]; show (if q0 < a.nt ∨ 4 ≤ q0 then _ else _) = _; rw [if_pos hqq, hlim, ixN_n (by decide) zv]] at h
            exact h
        · refine And.intro (fun _ => ?_) (fun q => absurd (by decide) q)
          rw [show ac_change a fl d q v = .inl (-2) by unfold ac_change; rw [ixN_n hD31 zd]] at h
          exact h
      · refine And.intro (fun _ => ?_) (fun q => absurd (by decide) q)
        refine c_isDay X hD31 hDD (fun d0 hd ed => ?_) (fun zd => ?_)
        · subst ed
          refine And.intro (fun q => absurd q (by decide)) (fun _ => ?_)
          refine And.intro (fun _ => ?_) (fun q => absurd (by decide) q)
          have e9 : ac_change a fl (nI d0) q v = .inl (-2) := by
            unfold ac_change
            rw [ixN_s hd hD31]
            show (match ixN 7 q with | none => _ | some q0 => _) = _
            by_cases zz : ∃ k, k < 7 ∧ q = nI k
            · obtain ⟨k, hk, ek⟩ := zz
              rw [ek, ixN_s hk (by decide)]
              exact if_neg (fun z => z.elim (fun z => zt k z ek) (fun z => zb ⟨by rw [ek]; exact nI_le (a := 4) z (by omega), by rw [ek]; exact nI_le (b := 6) (by omega) (by omega)⟩))
            · rw [ixN_n (by decide) (fun j hj e => zz ⟨j, hj, e⟩)]
          rw [e9] at h
          exact h
        · refine And.intro (fun _ => ?_) (fun q => absurd (by decide) q)
          rw [show ac_change a fl d q v = .inl (-2) by unfold ac_change; rw [ixN_n hD31 zd]] at h
          exact h
  · refine c_isTier X hnt31 C.hnt (fun q0 hqt eq => ?_) (fun zt => ?_)
    · have hq7 : q0 < 7 := by omega
      have hqq : q0 < a.nt ∨ 4 ≤ q0 := Or.inl hqt
      have hlim : (if q0 = 6 then 100000 else 5001) = 100000 := if_pos ((nI_eq (b := 6) (by omega) (by omega)).mp (eq.symm.trans q1))
      refine And.intro (fun _ => ?_) (fun q => absurd q (by decide))
      refine c_isDay X hD31 hDD (fun d0 hd ed => ?_) (fun zd => ?_)
      · subst ed
        refine And.intro (fun q => absurd q (by decide)) (fun _ => ?_)
        refine And.intro (fun q => absurd q (by decide)) (fun _ => ?_)
        refine c_isBetween X (fun z1 z2 => ?_) (fun zb => ?_)
        · obtain ⟨v0, ev, _, hv⟩ := i32n 0 100000 (by decide) (by decide) z1 z2
          refine And.intro (fun _ => ?_) (fun q => absurd q (by decide))
          refine c_isFull X (fun zf => ?_) (fun zf => ?_)
          · have zf1 : 20 ≤ m - T := by rw [S.ha] at zf; exact (nI_leI (a := 20) (by omega) (by omega)).mp zf
            have zf2 : ¬ fl = false := fun q => by rw [hfl.mpr (by omega)] at q; cases q
            refine And.intro (fun q => absurd q (by decide)) (fun _ => ?_)
            rw [show ac_change a fl (nI d0) q v = .inl (-5) by unfold ac_change; rw [ixN_s hd hD31, eq, ixN_s hq7 (by decide)]; show (if q0 < a.nt ∨ 4 ≤ q0 then _ else _) = _; rw [if_pos hqq, hlim, ev, ixN_s hv (by decide)]; exact if_neg zf2] at h
            exact h
          · have zf1 : m - T < 20 := Nat.lt_of_not_le (fun z => zf (by rw [S.ha]; exact nI_le (a := 20) z (by omega)))
            have zf2 : fl = false := by cases fl with | false => rfl | true => exact absurd (hfl.mp rfl) (by omega)
            have hn28 := hn2 zf2
            have hnc31 := hnc32 zf2
            refine And.intro (fun _ => ?_) (fun q => absurd (by decide) q)
            have O9 : Ok a (2, d0, (q0 : Int), v0) := ok_C (by omega) (by omega) hd hqq hq7 (by rw [hlim]; exact hv)
            have e9 : ac_change a fl (nI d0) q v = .inr (2, d0, (q0 : Int), v0) := by unfold ac_change; rw [ixN_s hd hD31, eq, ixN_s hq7 (by decide)]; show (if q0 < a.nt ∨ 4 ≤ q0 then _ else _) = _; rw [if_pos hqq, hlim, ev, ixN_s hv (by decide)]; exact if_pos zf2
            rw [e9] at h
            refine c_act X C G H S (hL0 (Nat.pos_of_ne_zero (fun z => by rw [z] at hd; omega))) hT zf1 (r := (2, d0, (q0 : Int), v0)) (by simp) O9 ⟨(fun q => absurd q (by simp)), (fun q => absurd q (by simp))⟩ (by omega) rfl rfl (eq.trans (nI_z q0)) ev (fun I1 A1 B1 C1 S1 f1 => ?_)
            have en : I1 17 5 = nI (a.nc + 1) := C1.hnc
            have h2 := h O9 _ _ _ C1 S1 f1
            rw [show zrv a (2, d0, (q0 : Int), v0) = I1 17 5 from en.symm] at h2
            exact h2
        · have zv : ∀ j, j < 100000 → v ≠ nI j := fun j hj e => zb ⟨by rw [e]; exact nI_le (a := 0) (b := j) (by omega) (by omega), by rw [e]; exact nI_le (a := j) (b := 100000 - 1) (by omega) (by omega)⟩
          refine And.intro (fun q => absurd (by decide) q) (fun _ => ?_)
          rw [show ac_change a fl (nI d0) q v = .inl (-2) by unfold ac_change; rw [ixN_s hd hD31, eq, ixN_s hq7 (by decide)]; show (if q0 < a.nt ∨ 4 ≤ q0 then _ else _) = _; rw [if_pos hqq, hlim, ixN_n (by decide) zv]] at h
          exact h
      · refine And.intro (fun _ => ?_) (fun q => absurd (by decide) q)
        rw [show ac_change a fl d q v = .inl (-2) by unfold ac_change; rw [ixN_n hD31 zd]] at h
        exact h
    · refine And.intro (fun q => absurd (by decide) q) (fun _ => ?_)
      refine c_isBetween X (fun z1 z2 => ?_) (fun zb => ?_)
      · obtain ⟨q0, eq, hq4, hq7⟩ := i32n 4 7 (by decide) (by decide) z1 z2
        have hqq : q0 < a.nt ∨ 4 ≤ q0 := Or.inr hq4
        have hlim : (if q0 = 6 then 100000 else 5001) = 100000 := if_pos ((nI_eq (b := 6) (by omega) (by omega)).mp (eq.symm.trans q1))
        refine And.intro (fun q => absurd q (by decide)) (fun _ => ?_)
        refine c_isDay X hD31 hDD (fun d0 hd ed => ?_) (fun zd => ?_)
        · subst ed
          refine And.intro (fun q => absurd q (by decide)) (fun _ => ?_)
          refine And.intro (fun q => absurd q (by decide)) (fun _ => ?_)
          refine c_isBetween X (fun z1 z2 => ?_) (fun zb => ?_)
          · obtain ⟨v0, ev, _, hv⟩ := i32n 0 100000 (by decide) (by decide) z1 z2
            refine And.intro (fun _ => ?_) (fun q => absurd q (by decide))
            refine c_isFull X (fun zf => ?_) (fun zf => ?_)
            · have zf1 : 20 ≤ m - T := by rw [S.ha] at zf; exact (nI_leI (a := 20) (by omega) (by omega)).mp zf
              have zf2 : ¬ fl = false := fun q => by rw [hfl.mpr (by omega)] at q; cases q
              refine And.intro (fun q => absurd q (by decide)) (fun _ => ?_)
              rw [show ac_change a fl (nI d0) q v = .inl (-5) by unfold ac_change; rw [ixN_s hd hD31, eq, ixN_s hq7 (by decide)]; show (if q0 < a.nt ∨ 4 ≤ q0 then _ else _) = _; rw [if_pos hqq, hlim, ev, ixN_s hv (by decide)]; exact if_neg zf2] at h
              exact h
            · have zf1 : m - T < 20 := Nat.lt_of_not_le (fun z => zf (by rw [S.ha]; exact nI_le (a := 20) z (by omega)))
              have zf2 : fl = false := by cases fl with | false => rfl | true => exact absurd (hfl.mp rfl) (by omega)
              have hn28 := hn2 zf2
              have hnc31 := hnc32 zf2
              refine And.intro (fun _ => ?_) (fun q => absurd (by decide) q)
              have O9 : Ok a (2, d0, (q0 : Int), v0) := ok_C (by omega) (by omega) hd hqq hq7 (by rw [hlim]; exact hv)
              have e9 : ac_change a fl (nI d0) q v = .inr (2, d0, (q0 : Int), v0) := by unfold ac_change; rw [ixN_s hd hD31, eq, ixN_s hq7 (by decide)]; show (if q0 < a.nt ∨ 4 ≤ q0 then _ else _) = _; rw [if_pos hqq, hlim, ev, ixN_s hv (by decide)]; exact if_pos zf2
              rw [e9] at h
              refine c_act X C G H S (hL0 (Nat.pos_of_ne_zero (fun z => by rw [z] at hd; omega))) hT zf1 (r := (2, d0, (q0 : Int), v0)) (by simp) O9 ⟨(fun q => absurd q (by simp)), (fun q => absurd q (by simp))⟩ (by omega) rfl rfl (eq.trans (nI_z q0)) ev (fun I1 A1 B1 C1 S1 f1 => ?_)
              have en : I1 17 5 = nI (a.nc + 1) := C1.hnc
              have h2 := h O9 _ _ _ C1 S1 f1
              rw [show zrv a (2, d0, (q0 : Int), v0) = I1 17 5 from en.symm] at h2
              exact h2
          · have zv : ∀ j, j < 100000 → v ≠ nI j := fun j hj e => zb ⟨by rw [e]; exact nI_le (a := 0) (b := j) (by omega) (by omega), by rw [e]; exact nI_le (a := j) (b := 100000 - 1) (by omega) (by omega)⟩
            refine And.intro (fun q => absurd (by decide) q) (fun _ => ?_)
            rw [show ac_change a fl (nI d0) q v = .inl (-2) by unfold ac_change; rw [ixN_s hd hD31, eq, ixN_s hq7 (by decide)]; show (if q0 < a.nt ∨ 4 ≤ q0 then _ else _) = _; rw [if_pos hqq, hlim, ixN_n (by decide) zv]] at h
            exact h
        · refine And.intro (fun _ => ?_) (fun q => absurd (by decide) q)
          rw [show ac_change a fl d q v = .inl (-2) by unfold ac_change; rw [ixN_n hD31 zd]] at h
          exact h
      · refine And.intro (fun _ => ?_) (fun q => absurd (by decide) q)
        refine c_isDay X hD31 hDD (fun d0 hd ed => ?_) (fun zd => ?_)
        · subst ed
          refine And.intro (fun q => absurd q (by decide)) (fun _ => ?_)
          refine And.intro (fun _ => ?_) (fun q => absurd (by decide) q)
          have e9 : ac_change a fl (nI d0) q v = .inl (-2) := by
            unfold ac_change
            rw [ixN_s hd hD31]
            show (match ixN 7 q with | none => _ | some q0 => _) = _
            by_cases zz : ∃ k, k < 7 ∧ q = nI k
            · obtain ⟨k, hk, ek⟩ := zz
              rw [ek, ixN_s hk (by decide)]
              exact if_neg (fun z => z.elim (fun z => zt k z ek) (fun z => zb ⟨by rw [ek]; exact nI_le (a := 4) z (by omega), by rw [ek]; exact nI_le (b := 6) (by omega) (by omega)⟩))
            · rw [ixN_n (by decide) (fun j hj e => zz ⟨j, hj, e⟩)]
          rw [e9] at h
          exact h
        · refine And.intro (fun _ => ?_) (fun q => absurd (by decide) q)
          rw [show ac_change a fl d q v = .inl (-2) by unfold ac_change; rw [ixN_n hD31 zd]] at h
          exact h
