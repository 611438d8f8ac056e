/-! contracts of the reference: book (written by wip/whole/gm20.py) -/
set_option maxRecDepth 20000 in
theorem r_book {J : mJ} (X : mRules J) {I A : mI} {B : mB} {w f : Nat} {R : mR} {t : Nat → Nat} {n : Nat} (T : TpR 60 A t n) (h26 : I 43 26 = nI n) (hwf : w = 44 ∧ f = 45 ∨ w = 45 ∧ f = 44) (h21 : I 43 21 = -1) (h23 : I 43 23 = -1) {P N K L T0 m : Nat} {rw : Nat → Rw} (hP : A w 0 = nI P) (hN : A w 1 = nI N) (hK : 0 < N → A w 2 = nI K) (W : WdR w A L T0 m rw) (hm : m ≤ 120) (Q : Rp P N K rw m) (hE : ∀ e, rdn t n n st0 = .error e → ∀ I' A' B', MR (zrn P N K rw m) w I' A' B' → I' 43 33 = nI e.1 → I' 43 34 = nI e.2 → I' 43 26 = 0 → fB f I A B I' A' B' → R (some (.int (-4))) I' A' B' (pk w f)) (h0 : rdn t n n st0 = .ok st0 → ∀ I' A' B', MR (zbg 0 0 1) f I' A' B' → WdR f A' 0 0 0 st0.rw → A' f 2 = 0 → I' 43 33 = 0 → I' 43 34 = -1 → I' 43 26 = 0 → fB f I A B I' A' B' → R (some (.int 0)) I' A' B' (pk f w)) (hO : ∀ s, rdn t n n st0 = .ok s → 0 < s.L → PV n s → ∀ I' A' B', MR (ack s) f I' A' B' → WdR f A' s.L s.m s.m s.rw → I' 43 33 = 0 → I' 43 34 = -1 → I' 43 26 = 0 → fB f I A B I' A' B' → R (some (.int (nI s.L))) I' A' B' (pk f w)) : J n_M_book 0 [.ref 43, .float 0] [] I A B (pk w f) R := by
  have hn9 := T.n9
  have hw : ash w = some (0, 606) := by rcases hwf with z | z <;> rw [z.1] <;> rfl
  have hff : ash f = some (0, 606) := by rcases hwf with z | z <;> rw [z.2] <;> rfl
  have hf5 : f = 44 ∨ f = 45 := by omega
  have hw5 : w = 44 ∨ w = 45 := by omega
  have hwn : w ≠ f := by omega
  have G0 : ∀ (I0 : mI) (i0r : ∀ k, k ≠ 43 → I0 k = I k) (i026 : I0 43 26 = 0) (e : Fl) (z1 : Value) (Iv Av : mI) (Bv : mB), rdn t n n st0 = .error e → ¬ nI e.1 = 0 → Iv 43 33 = nI e.1 → Iv 43 34 = nI e.2 → Iv 43 21 = -1 → Iv 43 23 = -1 → fY f I0 A B Iv Av Bv → J n_M_book 72 [.ref 43, z1] [] Iv Av Bv (pk f w) R := by
    intro I0 i0r i026 e z1 Iv Av Bv hq nz e33 e34 e21 e23 fv
    refine X 200 _ _ _ _ _ _ _ _ _ ?_
    refine c_Mgood X (fun z => absurd (e33.symm.trans z) nz) (fun _ => ?_)
    refine And.intro (fun _ => ?_) (fun q => absurd (by decide) q)
    refine c_Mgood X (fun z => absurd (e33.symm.trans z) nz) (fun _ => ?_)
    refine And.intro (fun q => absurd (by decide) q) (fun _ => ?_)
    have hAw : Av w = A w := fv.row w hwn (by omega)
    obtain ⟨b, Mb, eb⟩ := MR.any (I := Iv) (A := Av) (B := Bv) hw hw5 (by rw [hAw]; exact hP) (by rw [hAw]; exact hN) (fun z => by rw [hAw]; exact hK z) e21 e23
    refine (show J n_M_doesAll 0 [.ref 43, .float 0] [] Iv Av Bv (up2 (up2 (pk f w) 43 1 (some w)) 43 2 (some f)) _ from ?_)
    rw [pk_sw]
    refine c_Mda X Mb eb (W.fr hAw) hm Q (fun I2 A2 B2 M2 f2 => ?_)
    have fz : fY f I0 A B I2 A2 B2 := fv.trans f2.y
    exact hE e hq _ _ _ M2 ((f2.i43 33 (by decide) (by decide) (by decide) (by decide) (by decide) (by decide) (by decide) (by decide)).trans e33) ((f2.i43 34 (by decide) (by decide) (by decide) (by decide) (by decide) (by decide) (by decide) (by decide)).trans e34) (fz.i26.trans i026) ⟨fun k hk => ⟨(fz.out k hk).1.trans (i0r k (by omega)), (fz.out k hk).2.1, (fz.out k hk).2.2⟩, fz.row⟩
  have G7 : ∀ (I0 : mI) (i0r : ∀ k, k ≠ 43 → I0 k = I k) (i026 : I0 43 26 = 0), ∀ i, i ≤ n → ∀ (s : St) (z1 : Value) (Iv Av : mI) (Bv : mB), MS f Iv Av Bv t n s → PV n s → 0 < s.L → i ≤ s.p → fY f I0 A B Iv Av Bv → rdn t n (n - i) s = rdn t n n st0 → J n_M_book 72 [.ref 43, z1] [] Iv Av Bv (pk f w) R := by
    intro I0 i0r i026
    refine lpz (fun i => ∀ (s : St) (z1 : Value) (Iv Av : mI) (Bv : mB), MS f Iv Av Bv t n s → PV n s → 0 < s.L → i ≤ s.p → fY f I0 A B Iv Av Bv → rdn t n (n - i) s = rdn t n n st0 → J n_M_book 72 [.ref 43, z1] [] Iv Av Bv (pk f w) R) (fun i hi ih => ?_)
    intro s z1 Iv Av Bv S V hL hip fv hr
    have hsl := V.l hL
    have hm61 := pv_61 V
    have hE9 := tE_b (t := t) V.p
    refine X 200 _ _ _ _ _ _ _ _ _ ?_
    refine c_Mgood X (fun _ => ?_) (fun z => absurd S.fl z)
    refine And.intro (fun q => absurd q (by decide)) (fun _ => ?_)
    refine And.intro (fun q1 => ?_) (fun q1 => ?_)
    · have hk : tK t n s.p = 0 := (nI_eq (b := 0) (by have := tK_4 (t := t) (n := n) (p := s.p); omega) (by omega)).mp (S.tk.k.symm.trans q1)
      refine c_Mgood X (fun _ => ?_) (fun z => absurd S.fl z)
      refine And.intro (fun _ => ?_) (fun q => absurd q (by decide))
      refine Exists.intro _ (And.intro hff (And.intro (vlit rfl) ?_))
      refine Exists.intro _ (And.intro hff (And.intro (vlit rfl) ?_))
      refine Exists.intro _ (And.intro hff (And.intro (vlit rfl) ?_))
      have fz := fv.trans (fY.a (I := Iv) (B := Bv) hf5 (A' := up2 Av f 4 (Av f 5)) (fun q hq => up2_r hq))
      have h2 := hO s (by rw [← hr]; exact rdn_0 hk _) hL V _ _ _ (S.mr.fw (A' := up2 Av f 4 (Av f 5)) (fun q hq => up2_r hq) (fun j hj => up2_m (by omega))) (S.wd.t4 S.wd.h5) S.fl S.pl (fz.i26.trans i026) ⟨fun k hk => ⟨(fz.out k hk).1.trans (i0r k (by omega)), (fz.out k hk).2.1, (fz.out k hk).2.2⟩, fz.row⟩
      rw [show nI s.L = up2 Av f 4 (Av f 5) f 3 by rw [up2_m (by decide)]; exact S.wd.h3.symm] at h2
      exact h2
    · have hk : ¬ tK t n s.p = 0 := fun z => q1 (by rw [S.tk.k, z]; rfl)
      refine c_MrdText1 X (T.fr (fv.row 60 (by omega) (by omega))) S V hL ?_
      cases hq : lnR t n s
      · rename_i e1
        intro I1 A1 B1 n1 n2 n3 n4 n5 f1
        have hl : i < n := by have := hE9.2.2.2 hk; omega
        exact G0 I0 i0r i026 e1 _ _ _ _ (by rw [← hr, show n - i = (n - (i + 1)) + 1 by omega, rdn_e hk ((show lnA t n s = lnR t n s from if_neg (by omega)).trans hq)]) n1 n2 n3 n4 n5 (fv.trans f1)
      · rename_i s1
        intro I1 A1 B1 S1 f1
        have hl : i < n := by have := hE9.2.2.2 hk; omega
        have g := pv_A V ((show lnA t n s = lnR t n s from if_neg (by omega)).trans hq)
        exact ih hl s1 _ _ _ _ S1 g.1 g.2.2 (by have := g.2.1; omega) (fv.trans f1) (by rw [← hr, show n - i = (n - (i + 1)) + 1 by omega, rdn_s hk ((show lnA t n s = lnR t n s from if_neg (by omega)).trans hq)])
  have G6 : ∀ (I0 : mI) (i0r : ∀ k, k ≠ 43 → I0 k = I k) (i026 : I0 43 26 = 0) (z1 : Value) (Iv Av : mI) (Bv : mB), M0 f Iv Av t n → fY f I0 A B Iv Av Bv → J n_M_book 72 [.ref 43, z1] [] Iv Av Bv (pk f w) R := by
    intro I0 i0r i026 z1 Iv Av Bv Z fv
    have hE9 := tE_b (t := t) (Nat.zero_le n)
    refine X 200 _ _ _ _ _ _ _ _ _ ?_
    refine c_Mgood X (fun _ => ?_) (fun z => absurd Z.fl z)
    refine And.intro (fun q => absurd q (by decide)) (fun _ => ?_)
    refine And.intro (fun q1 => ?_) (fun q1 => ?_)
    · have hk : tK t n 0 = 0 := (nI_eq (b := 0) (by have := tK_4 (t := t) (n := n) (p := 0); omega) (by omega)).mp (Z.tk.k.symm.trans q1)
      refine c_Mgood X (fun _ => ?_) (fun z => absurd Z.fl z)
      refine And.intro (fun _ => ?_) (fun q => absurd q (by decide))
      refine Exists.intro _ (And.intro hff (And.intro (vlit rfl) ?_))
      refine Exists.intro _ (And.intro hff (And.intro (vlit rfl) ?_))
      refine Exists.intro _ (And.intro hff (And.intro (vlit rfl) ?_))
      have fz := fv.trans (fY.a (I := Iv) (B := Bv) hf5 (A' := up2 Av f 4 (Av f 5)) (fun q hq => up2_r hq))
      have h2 := h0 (rdn_0 (s := st0) hk _) _ _ _ (Z.mr (A' := up2 Av f 4 (Av f 5)) (fun q hq => up2_r hq) (fun j hj => up2_m (by omega))) ⟨(up2_m (by decide)).trans (Z.z 3 (by decide)), up2_s.trans (Z.z 5 (by decide)), (up2_m (by decide)).trans (Z.z 5 (by decide)), fun k hk => absurd hk (Nat.not_lt_zero k)⟩ ((up2_m (by decide)).trans (Z.z 2 (by decide))) Z.fl Z.pl (fz.i26.trans i026) ⟨fun k hk => ⟨(fz.out k hk).1.trans (i0r k (by omega)), (fz.out k hk).2.1, (fz.out k hk).2.2⟩, fz.row⟩
      rw [show (0 : Int32) = up2 Av f 4 (Av f 5) f 3 by rw [up2_m (by decide)]; exact (Z.z 3 (by decide)).symm] at h2
      exact h2
    · have hk : ¬ tK t n 0 = 0 := fun z => q1 (by rw [Z.tk.k, z]; rfl)
      refine c_MrdText0 X (T.fr (fv.row 60 (by omega) (by omega))) Z ?_
      cases hq : lnF t n st0
      · rename_i e1
        intro I1 A1 B1 n1 n2 n3 n4 n5 f1
        have hl : 0 < n := by have := hE9.2.2.2 hk; omega
        exact G0 I0 i0r i026 e1 _ _ _ _ (by rw [show rdn t n n st0 = rdn t n ((n - 1) + 1) st0 by rw [show n - 1 + 1 = n by omega], rdn_e (s := st0) hk ((show lnA t n st0 = lnF t n st0 from if_pos rfl).trans hq)]) n1 n2 n3 n4 n5 (fv.trans f1)
      · rename_i s1
        intro I1 A1 B1 S1 f1
        have hl : 0 < n := by have := hE9.2.2.2 hk; omega
        have g := pv_A pv_0 ((show lnA t n st0 = lnF t n st0 from if_pos rfl).trans hq)
        exact G7 I0 i0r i026 1 (by omega) s1 _ _ _ _ S1 g.1 g.2.2 (by have : 0 < s1.p := g.2.1; omega) (fv.trans f1) (by rw [show rdn t n n st0 = rdn t n ((n - 1) + 1) st0 by rw [show n - 1 + 1 = n by omega], rdn_s (s := st0) hk ((show lnA t n st0 = lnF t n st0 from if_pos rfl).trans hq)])
  have G4 : ∀ (I0 : mI) (i0r : ∀ k, k ≠ 43 → I0 k = I k) (i026 : I0 43 26 = 0), I0 43 28 = nI n → I0 43 29 = nI 0 → I0 43 33 = 0 → I0 43 34 = -1 → I0 43 35 = 0 → I0 43 36 = 0 → I0 43 21 = -1 → I0 43 23 = -1 → ∀ i, i ≤ 606 → ∀ (x : Int32) (Av : mI), x = nI i → (∀ q, q ≠ f → Av q = A q) → (∀ j, j < i → Av f j = 0) → J n_M_book 44 [.ref 43, .int x] [] I0 Av B (pk f w) R := by
    intro I0 i0r i026 i028 i029 i033 i034 i035 i036 i021 i023
    refine lpz (fun i => ∀ (x : Int32) (Av : mI), x = nI i → (∀ q, q ≠ f → Av q = A q) → (∀ j, j < i → Av f j = 0) → J n_M_book 44 [.ref 43, .int x] [] I0 Av B (pk f w) R) (fun i hi ih => ?_)
    intro x Av ex hq hz
    subst ex
    refine X 200 _ _ _ _ _ _ _ _ _ ?_
    refine And.intro (fun q1 => ?_) (fun q1 => ?_)
    · have e : i = 606 := by have := (nI_leI (a := 606) (by omega) (by omega)).mp q1; omega
      subst e
      refine c_Mbegins X (fun A1 hv hz5 => ?_)
      refine c_Madv X (t := t) (n := n) (T.fr ((hv 60 (by decide)).trans (hq 60 (by omega)))) (by exact i028) (Nat.zero_le n) (by exact i029) (fun I2 ga2 gb2 K2 => ?_)
      refine G6 I0 i0r i026 _ I2 A1 B ⟨hff, hf5, ((gb2 33 (by decide) (by decide) (by decide) (by decide)).trans i033), ((gb2 34 (by decide) (by decide) (by decide) (by decide)).trans i034), K2, ((gb2 28 (by decide) (by decide) (by decide) (by decide)).trans i028), fun j hj => ?_, hz5, ((gb2 7 (by decide) (by decide) (by decide) (by decide)).trans rfl), ((gb2 9 (by decide) (by decide) (by decide) (by decide)).trans rfl), ((gb2 13 (by decide) (by decide) (by decide) (by decide)).trans rfl), ((gb2 19 (by decide) (by decide) (by decide) (by decide)).trans rfl), ((gb2 20 (by decide) (by decide) (by decide) (by decide)).trans rfl), ((gb2 21 (by decide) (by decide) (by decide) (by decide)).trans i021), ((gb2 23 (by decide) (by decide) (by decide) (by decide)).trans i023), ((gb2 35 (by decide) (by decide) (by decide) (by decide)).trans i035), ((gb2 36 (by decide) (by decide) (by decide) (by decide)).trans i036)⟩ ⟨fun k hk => ⟨(ga2 k (by omega)).trans ?_, (hv k (by omega)).trans (hq k (by omega)), rfl⟩, fun r a b => (hv r (by omega)).trans (hq r a), ((gb2 26 (by decide) (by decide) (by decide) (by decide)).trans rfl)⟩
      · rw [hv f (by omega)]; exact hz j hj
      · rw [up2_r (by omega), up2_r (by omega), up2_r (by omega), up2_r (by omega), up2_r (by omega)]
    · have hl : i < 606 := Nat.lt_of_not_le (fun z => q1 (nI_le (a := 606) z (by omega)))
      have cbi : (nI i).toNatClampNeg = i := cl (by omega)
      refine Exists.intro _ (And.intro hff (And.intro (vin hl (by omega)) ?_))
      exact ih hl _ _ (nI_1 i) (fun q a => (up2_r a).trans (hq q a)) (fun j hj => by
        rw [cbi]
        by_cases z : j = i
        · rw [z, up2_s]
        · rw [up2_m z]
          exact hz j (by omega))
  refine X 200 _ _ _ _ _ _ _ _ _ ?_
  show J n_M_book 44 [.ref 43, .int 0] [] (up2 (up2 (up2 (up2 (up2 (up2 (up2 I 43 28 (I 43 26)) 43 26 0) 43 29 0) 43 33 0) 43 34 (-1)) 43 35 0) 43 36 0) A B (up2 (up2 (pk w f) 43 1 (some f)) 43 2 (some w)) R
  rw [pk_sw]
  exact G4 (up2 (up2 (up2 (up2 (up2 (up2 (up2 I 43 28 (I 43 26)) 43 26 0) 43 29 0) 43 33 0) 43 34 (-1)) 43 35 0) 43 36 0) (fun k hk => by rw [up2_r hk, up2_r hk, up2_r hk, up2_r hk, up2_r hk, up2_r hk, up2_r hk]) rfl h26 rfl rfl rfl rfl rfl h21 h23 0 (Nat.zero_le _) _ A rfl (fun _ _ => rfl) (fun j hj => absurd hj (Nat.not_lt_zero j))
