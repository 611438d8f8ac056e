/-! contracts of the class: a text (written by wip/whole/gk19.py) -/
set_option maxRecDepth 20000 in
theorem c_forget {J : mJ} (X : mRules J) {I A : mI} {B : mB} {w f : Nat} {R : mR} (h : ∀ Iv, (∀ k, k ≠ 3 → k ≠ 4 → Iv k = I k) → Iv 3 4 = -1 → Iv 4 1 = 0 → Iv 4 2 = 0 → Iv 3 3 = 0 → Iv 3 5 = 0 → Iv 3 6 = 0 → Iv 3 7 = 0 → Iv 3 8 = 0 → Iv 3 9 = 0 → Iv 3 10 = 0 → Iv 3 11 = 0 → Iv 3 12 = 0 → Iv 3 13 = 0 → Iv 3 14 = 0 → R none Iv A B (pk w f)) : J n_Reader_forget 0 [.ref 3] [] I A B (pk w f) R := by
  refine X 200 _ _ _ _ _ _ _ _ _ ?_
  refine And.intro (Or.inl rfl) ?_
  refine And.intro (Or.inl rfl) ?_
  exact h _ (fun k a b => by simp only [up2_r a, up2_r b]) rfl rfl rfl rfl rfl rfl rfl rfl rfl rfl rfl rfl rfl rfl
theorem c_goesOn {J : mJ} (X : mRules J) {I A : mI} {B : mB} {w f : Nat} {R : mR} (h1 : I 3 3 = 0 → ¬ I 6 1 = 0 → R (some (.int 1)) I A B (pk w f)) (h0 : ¬ (I 3 3 = 0 ∧ ¬ I 6 1 = 0) → R (some (.int 0)) I A B (pk w f)) : J n_Reader_goesOn 0 [.ref 3] [] I A B (pk w f) R := by
  refine X 200 _ _ _ _ _ _ _ _ _ ?_
  refine And.intro (fun q1 => ?_) (fun q1 => ?_)
  · refine And.intro (Or.inl rfl) ?_
    exact h0 (fun z => q1 z.1)
  · refine And.intro (fun q2 => ?_) (fun q2 => ?_)
    · refine And.intro (Or.inl rfl) ?_
      exact h0 (fun z => z.2 q2)
    · refine And.intro (Or.inr rfl) ?_
      exact h1 q1 q2
set_option maxRecDepth 20000 in
theorem c_readText {J : mJ} (X : mRules J) {I A : mI} {B : mB} {w f : Nat} {R : mR} {t : Nat → Nat} {n : Nat} (T : TpR 2 A t n) (hn : I 1 1 = nI n) (h : qX t n w f I A B R (rdn t n n st0)) : J n_Reader_readText 0 [.ref 3, .float 0] [] I A B (pk w f) R := by
  have hn9 := T.n9
  have G0 : ∀ (x : Int32) (Iv Av : mI), ¬ Iv 3 3 = 0 → R none Iv Av B (pk w f) → J n_Reader_readText 13 [.ref 3, .int x] [] Iv Av B (pk w f) R := by
    intro x Iv Av hz hr
    refine X 200 _ _ _ _ _ _ _ _ _ ?_
    refine And.intro (fun q1 => ?_) (fun q1 => ?_)
    · exact hr
    · refine c_goesOn X (fun z => absurd z hz) (fun _ => ?_)
      refine And.intro (fun _ => ?_) (fun q => absurd (by decide) q)
      exact hr
  have G9 : ∀ i, i ≤ n → ∀ (x : Int32) (s : St) (Iv : mI) (Av : mI), x = nI i → KS Iv Av t n s → PV n s → fX I A Iv Av → rdn t n (n - i) s = rdn t n n st0 → J n_Reader_readText 13 [.ref 3, .int x] [] Iv Av B (pk w f) R := by
    refine lpz (fun i => ∀ (x : Int32) (s : St) (Iv : mI) (Av : mI), x = nI i → KS Iv Av t n s → PV n s → fX I A Iv Av → rdn t n (n - i) s = rdn t n n st0 → J n_Reader_readText 13 [.ref 3, .int x] [] Iv Av B (pk w f) R) (fun i hi ih => ?_)
    intro x s Iv Av ex Ks V fv hr
    subst ex
    refine X 200 _ _ _ _ _ _ _ _ _ ?_
    refine And.intro (fun q1 => ?_) (fun q1 => ?_)
    · rw [fv.ir 1 (by decide) (by decide) (by decide), hn] at q1
      have e := lpx hi (by omega) q1
      subst e
      rw [Nat.sub_self] at hr
      rw [← hr] at h
      exact h _ _ Ks fv
    · rw [fv.ir 1 (by decide) (by decide) (by decide), hn] at q1
      have hl := lpc hi (by omega) q1
      refine c_goesOn X (fun z1 z2 => ?_) (fun z3 => ?_)
      · have hk : ¬ tK t n s.p = 0 := fun z => z2 (by rw [Ks.tk.k, z]; rfl)
        refine And.intro (fun q => absurd q (by decide)) (fun _ => ?_)
        refine c_readLine X (t := t) (n := n) ⟨T.n9, fun k hk => by rw [fv.ar 2 (by decide)]; exact T.b k hk⟩ (by rw [fv.ir 1 (by decide) (by decide) (by decide)]; exact hn) Ks V ?_
        cases hq : lnA t n s
        · rename_i e1
          intro I1 A1 n1 n2 n3 f1
          rw [← hr, show n - i = (n - (i + 1)) + 1 by omega, rdn_e hk hq] at h
          exact G0 _ _ _ (by rw [n2]; exact n1) (h _ _ n1 n2 n3 (fv.trans f1))
        · rename_i s1
          intro I1 A1 K1 f1
          exact ih hl _ s1 I1 A1 (nI_1 i) K1 (pv_A V hq).1 (fv.trans f1) (by rw [← hr, show n - i = (n - (i + 1)) + 1 by omega, rdn_s hk hq])
      · have hk : tK t n s.p = 0 := by
          by_cases z : tK t n s.p = 0
          · exact z
          · exact absurd ⟨Ks.fl, fun y => z ((nI_eq (b := 0) (by have := tK_4 (t := t) (n := n) (p := s.p); omega) (by omega)).mp (Ks.tk.k.symm.trans y))⟩ z3
        refine And.intro (fun _ => ?_) (fun q => absurd (by decide) q)
        rw [← hr, rdn_0 hk] at h
        exact h _ _ Ks fv
  refine X 200 _ _ _ _ _ _ _ _ _ ?_
  refine c_forget X (fun I1 f1 z4 y1 y2 z3 z5 z6 z7 z8 z9 z10 z11 z12 z13 z14 => ?_)
  refine c_Tadv X T (by show I1 1 1 = nI n; rw [f1 1 (by decide) (by decide)]; exact hn) (Nat.zero_le n) rfl (fun I2 g2 K2 => ?_)
  exact G9 0 (Nat.zero_le _) _ st0 I2 A rfl (ks_0 ((congrFun (g2 3 (by decide)) 3).trans z3) ((congrFun (g2 3 (by decide)) 4).trans z4) K2 ((congrFun (g2 4 (by decide)) 1).trans y1) ((congrFun (g2 4 (by decide)) 2).trans y2) ((congrFun (g2 3 (by decide)) 7).trans z7) ((congrFun (g2 3 (by decide)) 8).trans z8) ((congrFun (g2 3 (by decide)) 9).trans z9) ((congrFun (g2 3 (by decide)) 10).trans z10) ((congrFun (g2 3 (by decide)) 11).trans z11) ((congrFun (g2 3 (by decide)) 12).trans z12) ((congrFun (g2 3 (by decide)) 13).trans z13) ((congrFun (g2 3 (by decide)) 14).trans z14)) pv_0 ⟨fun k a3 a4 a6 => by rw [g2 k a6, up2_r a6]; exact f1 k a3 a4, fun _ _ => rfl⟩ rfl
set_option maxRecDepth 20000 in
theorem c_rep0 {J : mJ} (X : mRules J) {I A : mI} {B : mB} {w f : Nat} {R : mR} (hs : I 7 1 + I 7 2 = nI 0) {xK : Int32} (h : ∀ I' A' B', CR (zbg 0 0 1) I' A' B' → I' 16 6 = xK → fP I A B I' A' B' → R none I' A' B' (pk w f)) : J n_Ledger_replay 0 [.ref 16, .ref 7, .int xK, .float 0] [] I A B (pk w f) R := by
  have G0 : ∀ (Iv Av : mI) (Bv : mB), CR (zbg 0 0 1) Iv Av Bv → Iv 16 6 = xK → fP I A B Iv Av Bv → J n_Ledger_replay 54 [.ref 16, .ref 7, .int xK, .int 1] [] Iv Av Bv (pk w f) R := by
    intro Iv Av Bv Cv h6 fv
    have hs : Iv 7 1 + Iv 7 2 = nI 0 := by rw [fv.1 7 (by decide) (by decide) (by decide)]; exact hs
    refine X 200 _ _ _ _ _ _ _ _ _ ?_
    refine c_size X (s := 0) (by exact hs) ?_
    refine And.intro (fun q1 => ?_) (fun q1 => ?_)
    · exact h _ _ _ Cv h6 fv
    · exact absurd (show nI 0 ≤ nI 1 from nI_le (by omega) (by omega)) q1 --end
  refine X 200 _ _ _ _ _ _ _ _ _ ?_
  refine c_clear X (fun Av hq hv => ?_)
  refine c_fill36 X ?_
  refine c_told0 X (by exact hs) ?_
  refine c_told0 X (by exact hs) ?_
  refine G0 _ _ _ (CR.bg (P := 0) (N := 0) (K := 1) rfl rfl (fun z => absurd z (Nat.lt_irrefl _)) rfl rfl rfl rfl hv (fun d hd => if_pos ⟨rfl, hd⟩) (by decide)) rfl ⟨fun k a1 a2 a3 => ?_, fun k hk => hq k (by omega), fun k a1 a2 => ?_⟩
  · rw [up2_r a1, up2_r a1, up2_r a1, up2_r a1, up2_r a3, up2_r a2, up2_r a2]
  · funext j
    exact if_neg (fun z => a2 z.1)
set_option maxRecDepth 20000 in
theorem k_book {J : mJ} (X : mRules J) {I A : mI} {B : mB} {w f : Nat} {R : mR} {t : Nat → Nat} {n : Nat} (T : TpR 2 A t n) (hn : I 1 1 = nI n) (hE : ∀ e, rdn t n n st0 = .error e → ∀ I' A', I' 3 3 = nI e.1 → I' 3 4 = nI e.2 → I' 1 1 = 0 → (∀ k, k ≠ 1 → k ≠ 3 → k ≠ 4 → k ≠ 6 → I' k = I k) → (∀ k, k ≠ 5 → A' k = A k) → R (some (.int (-4))) I' A' B (pk w f)) (h0 : rdn t n n st0 = .ok st0 → ∀ I' A' B', CR (zbg 0 0 1) I' A' B' → I' 16 6 = 0 → ScR 7 8 I' A' 0 0 0 0 0 0 st0.rw → I' 3 3 = 0 → I' 3 4 = -1 → I' 1 1 = 0 → fT I A B I' A' B' → R (some (.int 0)) I' A' B' (pk w f)) (hO : ∀ s, rdn t n n st0 = .ok s → 0 < s.L → PV n s → ∀ I' A' B', CR (zrn s.P s.N s.K s.rw s.m) I' A' B' → ScR 7 8 I' A' s.P s.N s.K s.L s.m s.m s.rw → I' 3 3 = 0 → I' 3 4 = -1 → I' 1 1 = 0 → fT I A B I' A' B' → R (some (.int (nI s.L))) I' A' B' (pk w f)) : J n_V_book 0 [.ref 0] [] I A B (pk w f) R := by
  have hn9 := T.n9
  refine X 200 _ _ _ _ _ _ _ _ _ ?_
  refine c_readText X T hn ?_
  rcases rdn_c (t := t) (n := n) with ⟨e, hq⟩ | hq | ⟨s, hq, hL, V⟩ <;> rw [hq]
  · intro I1 A1 n1 n2 n3 f1
    refine And.intro (fun q => absurd q (by decide)) (fun _ => ?_)
    refine And.intro (fun q1 => ?_) (fun q1 => ?_)
    · have hnv : I1 1 1 = nI n := by rw [f1.ir 1 (by decide) (by decide) (by decide)]; exact hn
      rw [hnv] at q1
      exact absurd q1 (nI_pos (by omega)) --end
    · refine And.intro (fun q2 => ?_) (fun q2 => ?_)
      · exact absurd (n2.symm.trans q2) n1 --end
      · exact hE e hq _ _ n2 n3 rfl (fun k a1 a3 a4 a6 => (up2_r a1).trans (f1.ir k a3 a4 a6)) f1.ar
  · intro I1 A1 K1 f1
    refine And.intro (fun q => absurd q (by decide)) (fun _ => ?_)
    refine And.intro (fun q3 => ?_) (fun q3 => ?_)
    · have hnv : I1 1 1 = nI n := by rw [f1.ir 1 (by decide) (by decide) (by decide)]; exact hn
      rw [hnv] at q3
      exact absurd q3 (nI_pos (by omega)) --end
    · refine And.intro (fun q4 => ?_) (fun q4 => ?_)
      · refine Exists.intro _ (Exists.intro _ (And.intro rfl ?_))
        refine Exists.intro 0 (Exists.intro 328 (Exists.intro 328 (And.intro rfl (And.intro rfl (And.intro (Or.inl rfl) (And.intro (by decide) (And.intro (by decide) (And.intro (by decide) (And.intro (by decide) (And.intro (by decide) (And.intro (fun _ => ?_) (fun z => absurd z (by decide)))))))))))))
        have S1 : ScR 7 8 (scp (up2 I1 1 1 0) 4 7) (acp A1 5 8) 0 0 0 0 0 0 st0.rw := (show ScR 4 5 (up2 I1 1 1 0) A1 0 0 0 0 0 0 st0.rw from K1.sc).cp (by decide) scp_1 scp_2 (fun j hj => acp_n hj)
        have hs0 : scp (up2 I1 1 1 0) 4 7 7 1 + scp (up2 I1 1 1 0) 4 7 7 2 = nI 0 := by rw [S1.hL, S1.ha]; rfl
        refine c_told0 X (by exact hs0) ?_
        refine c_rep0 X (by exact hs0) (fun I2 A2 B2 C2 h6 f2 => ?_)
        have e33 : I2 3 3 = 0 := (congrFun (f2.1 3 (by decide) (by decide) (by decide)) 3).trans K1.fl
        have e34 : I2 3 4 = -1 := (congrFun (f2.1 3 (by decide) (by decide) (by decide)) 4).trans K1.pl
        have e11 : I2 1 1 = 0 := congrFun (f2.1 1 (by decide) (by decide) (by decide)) 1
        have S2 := S1.fP f2
        have h2 := h0 hq _ _ _ C2 h6 S2 e33 e34 e11 ⟨fun k a1 a3 a4 a6 a7 b1 b2 b3 => (f2.1 k b1 b2 b3).trans ((scp_r a7).trans ((up2_r a1).trans (f1.ir k a3 a4 a6))), fun k a5 a8 hk => (f2.2.1 k hk).trans ((acp_r a8).trans (f1.ar k a5)), f2.2.2⟩
        rw [show (0 : Int32) = I2 7 1 from S2.hL.symm] at h2
        exact h2
      · exact absurd K1.fl q4 --end
  · intro I1 A1 K1 f1
    have hsl := V.l hL
    have hm61 := pv_61 V
    refine And.intro (fun q => absurd q (by decide)) (fun _ => ?_)
    refine And.intro (fun q5 => ?_) (fun q5 => ?_)
    · have hnv : I1 1 1 = nI n := by rw [f1.ir 1 (by decide) (by decide) (by decide)]; exact hn
      rw [hnv] at q5
      exact absurd q5 (nI_pos (by omega)) --end
    · refine And.intro (fun q6 => ?_) (fun q6 => ?_)
      · refine Exists.intro _ (Exists.intro _ (And.intro rfl ?_))
        refine Exists.intro 0 (Exists.intro 328 (Exists.intro 328 (And.intro rfl (And.intro rfl (And.intro (Or.inl rfl) (And.intro (by decide) (And.intro (by decide) (And.intro (by decide) (And.intro (by decide) (And.intro (by decide) (And.intro (fun _ => ?_) (fun z => absurd z (by decide)))))))))))))
        have S1 : ScR 7 8 (scp (up2 I1 1 1 0) 4 7) (acp A1 5 8) s.P s.N s.K s.L s.m s.m s.rw := (show ScR 4 5 (up2 I1 1 1 0) A1 s.P s.N s.K s.L s.m s.m s.rw from K1.sc).cp (by omega) scp_1 scp_2 (fun j hj => acp_n hj)
        refine c_cycle X S1 hL (by omega) ?_
        refine c_rep X S1 hL (by omega) (pv_q V hL hsl.2.2.2.2.2.1 hsl.2.2.2.2.2.2) (S1.h0 hL).2.2.2 (fun I2 A2 B2 C2 f2 => ?_)
        have e33 : I2 3 3 = 0 := (congrFun (f2.1 3 (by decide) (by decide) (by decide)) 3).trans K1.fl
        have e34 : I2 3 4 = -1 := (congrFun (f2.1 3 (by decide) (by decide) (by decide)) 4).trans K1.pl
        have e11 : I2 1 1 = 0 := congrFun (f2.1 1 (by decide) (by decide) (by decide)) 1
        have S2 := S1.fP f2
        have h2 := hO s hq hL V _ _ _ C2 S2 e33 e34 e11 ⟨fun k a1 a3 a4 a6 a7 b1 b2 b3 => (f2.1 k b1 b2 b3).trans ((scp_r a7).trans ((up2_r a1).trans (f1.ir k a3 a4 a6))), fun k a5 a8 hk => (f2.2.1 k hk).trans ((acp_r a8).trans (f1.ar k a5)), f2.2.2⟩
        rw [show nI s.L = I2 7 1 from S2.hL.symm] at h2
        exact h2
      · exact absurd K1.fl q6 --end
