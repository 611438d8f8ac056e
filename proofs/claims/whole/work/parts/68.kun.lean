/-! contracts of the class: undo, anew, compounded (written by wip/whole/gk7.py) -/
theorem c_cycle {J : mJ} (X : mRules J) {I A : mI} {B : mB} {w f : Nat} {R : mR} {P N K L T m : Nat} {rw : Nat → Rw} (S : ScR 7 8 I A P N K L T m rw) (hL0 : 0 < L) (hm : m ≤ 81) (h : R (some (.int (A 8 (4 * 0 + 3)))) I A B (pk w f)) : J n_Script_told 0 [.ref 7, .int 0, .int 3] [] I A B (pk w f) R := by
  have hT := S.hT
  obtain ⟨hLT, _⟩ := S.h0 hL0
  exact c_told X (s := m + 1) (r := 0) (c := 3) (by rw [S.hL, S.ha, nI_add]; congr 1; omega) (by omega) (by omega) (by omega) rfl rfl h
theorem c_rep {J : mJ} (X : mRules J) {I A : mI} {B : mB} {w f : Nat} {R : mR} {P N K0 K L T m : Nat} {rw : Nat → Rw} (S : ScR 7 8 I A P N K0 L T m rw) (hL0 : 0 < L) (hm : m ≤ 81) (Q : Rp P N K rw m) {xK : Int32} (exK : xK = nI K) (h : ∀ I' A' B', CR (zrn P N K rw m) I' A' B' → fP I A B I' A' B' → R none I' A' B' (pk w f)) : J n_Ledger_replay 0 [.ref 16, .ref 7, .int xK, .float 0] [] I A B (pk w f) R :=
  c_replay X S hL0 hm Q.PN Q.ok Q.gd Q.ch Q.nn Q.nc exK h
set_option maxRecDepth 20000 in
theorem k_undo {J : mJ} (X : mRules J) {I A : mI} {B : mB} {w f : Nat} {R : mR} {P N K L T m : Nat} {rw : Nat → Rw} (S : ScR 7 8 I A P N K L T m rw) {bk : Bool} (hbk : I 7 1 = 0 ↔ bk = false) (hT61 : T ≤ 61) (hmT : m - T ≤ 20) (Q : Rp P N K rw m) (hn : bk = false → R (some (.int (-2))) I A B (pk w f)) (h5 : bk = true → m = T → R (some (.int (-5))) I A B (pk w f)) (h : bk = true → T < m → qZ P N K L T (m - 1) rw w f I A B R (.int (nI (m - 1 - T)))) : J n_V_undo 0 [.ref 0] [] I A B (pk w f) R := by
  have hTm := S.hT
  have hLb : bk = true → 0 < L := fun z => Nat.pos_of_ne_zero (fun y => by rw [hbk.mp (by rw [S.hL, y]; rfl)] at z; cases z)
  refine X 200 _ _ _ _ _ _ _ _ _ ?_
  refine c_noBook X (fun zb => ?_) (fun zb => ?_)
  · have zb2 := hbk.mp zb
    subst zb2
    refine And.intro (fun q => absurd q (by decide)) (fun _ => ?_)
    exact hn rfl
  · have zb2 : bk = true := by cases bk with | true => rfl | false => exact absurd (hbk.mpr rfl) zb
    subst zb2
    have hL0 := hLb rfl
    refine And.intro (fun _ => ?_) (fun q => absurd (by decide) q)
    refine And.intro (fun q1 => ?_) (fun q1 => ?_)
    · have hTl : T < m := Nat.lt_of_le_of_ne hTm (fun z => q1 (by rw [S.ha, z, Nat.sub_self]; rfl))
      refine And.intro (fun q2 => ?_) (fun q2 => ?_)
      · rw [S.ha, show m - T = (m - 1 - T) + 1 by omega, nI_pred] at q2
        exact absurd q2 (nI_pos (by omega)) --end
      · refine And.intro (fun q3 => ?_) (fun q3 => ?_)
        · rw [S.ha, show m - T = (m - 1 - T) + 1 by omega, nI_pred] at q3
          exact absurd q3 (nI_ge (by omega) (by omega)) --end
        · have S1 := S.ac (m' := m - 1) (by omega) (by omega) (x := I 7 2 - 1) (by rw [S.ha, show m - T = (m - 1 - T) + 1 by omega]; exact nI_pred _)
          refine c_cycle X S1 hL0 (by omega) ?_
          refine c_rep X S1 hL0 (by omega) (Q.le (by omega)) (S1.h0 hL0).2.2.2 (fun I1 A1 B1 C1 f1 => ?_)
          have h2 := h rfl hTl _ _ _ C1 (S1.fP f1) (f1.fS (fun k hk => up2_r hk))
          rw [← (S1.fP f1).ha] at h2
          exact h2
    · have hTe : m = T := by rw [S.ha] at q1; have := (nI_eq (b := 0) (by omega) (by omega)).mp q1; omega
      exact h5 rfl hTe
set_option maxRecDepth 20000 in
theorem k_anew {J : mJ} (X : mRules J) {I A : mI} {B : mB} {w f : Nat} {R : mR} {P N K L T m : Nat} {rw : Nat → Rw} (S : ScR 7 8 I A P N K L T m rw) {bk : Bool} (hbk : I 7 1 = 0 ↔ bk = false) (hT61 : T ≤ 61) (hmT : m - T ≤ 20) (Q : Rp P N K rw m) (hn : bk = false → R (some (.int (-2))) I A B (pk w f)) (h : bk = true → qZ P N K L T T rw w f I A B R (.int (nI (m - T)))) : J n_V_anew 0 [.ref 0, .float 0] [] I A B (pk w f) R := by
  have hTm := S.hT
  have hLb : bk = true → 0 < L := fun z => Nat.pos_of_ne_zero (fun y => by rw [hbk.mp (by rw [S.hL, y]; rfl)] at z; cases z)
  refine X 200 _ _ _ _ _ _ _ _ _ ?_
  refine c_noBook X (fun zb => ?_) (fun zb => ?_)
  · have zb2 := hbk.mp zb
    subst zb2
    refine And.intro (fun q => absurd q (by decide)) (fun _ => ?_)
    exact hn rfl
  · have zb2 : bk = true := by cases bk with | true => rfl | false => exact absurd (hbk.mpr rfl) zb
    subst zb2
    have hL0 := hLb rfl
    refine And.intro (fun _ => ?_) (fun q => absurd (by decide) q)
    refine And.intro (fun q => absurd q (by decide)) (fun _ => ?_)
    refine And.intro (fun q1 => ?_) (fun q1 => ?_)
    · rw [S.ha] at q1
      have hTe : m = T := by have := (nI_leI (b := 0) (by omega) (by omega)).mp q1; omega
      subst hTe
      have S1 := S
      refine c_cycle X S1 hL0 (by omega) ?_
      refine c_rep X S1 hL0 (by omega) (Q.le (by omega)) (S1.h0 hL0).2.2.2 (fun I1 A1 B1 C1 f1 => ?_)
      have h2 := h rfl _ _ _ C1 (S1.fP f1) (f1.fS (fun k hk => rfl))
      rw [← S.ha] at h2
      exact h2
    · have S1 := S.ac (m' := T) (by omega) (by omega) (x := 0) (by rw [Nat.sub_self]; rfl)
      refine c_cycle X S1 hL0 (by omega) ?_
      refine c_rep X S1 hL0 (by omega) (Q.le (by omega)) (S1.h0 hL0).2.2.2 (fun I1 A1 B1 C1 f1 => ?_)
      have h2 := h rfl _ _ _ C1 (S1.fP f1) (f1.fS (fun k hk => up2_r hk))
      rw [← S.ha] at h2
      exact h2
set_option maxRecDepth 20000 in
theorem k_compounded {J : mJ} (X : mRules J) {I A : mI} {B : mB} {w f : Nat} {R : mR} {P N K L T m : Nat} {rw : Nat → Rw} (S : ScR 7 8 I A P N K L T m rw) (C : CR (zrn P N K rw m) I A B) (hK1 : 1 ≤ K) (hK4 : K ≤ 4) {bk : Bool} (hbk : I 7 1 = 0 ↔ bk = false) (hT61 : T ≤ 61) (hmT : m - T ≤ 20) (Q : ∀ k, 1 ≤ k → k ≤ 4 → Rp P N k rw m) (hn2 : ∀ k, 1 ≤ k → k ≤ 4 → (zrn P N k rw m).n ≤ 220) (hc6 : ∀ k, 1 ≤ k → k ≤ 4 → ct (fun j => decide (¬ ((zrn P N k rw m).so j = 1 ∨ (zrn P N k rw m).so j = 2))) (zrn P N k rw m).n + 8 ≤ 80) {x : Int32} (hno : (bk = false ∨ ∀ k, 1 ≤ k → k < 5 → x ≠ nI k) → R (some (.long NS)) I A B (pk w f)) (h : bk = true → ∀ k, x = nI k → 1 ≤ k → k < 5 → qK P N K L T m rw w f I A B R (.long (an_cpd P N K rw m k))) : J n_V_compounded 0 [.ref 0, .int x, .float 0, .float 0, .float 0, .float 0] [] I A B (pk w f) R := by
  have hTm := S.hT
  have hLb : bk = true → 0 < L := fun z => Nat.pos_of_ne_zero (fun y => by rw [hbk.mp (by rw [S.hL, y]; rfl)] at z; cases z)
  have G := (Q K hK1 hK4).gd m (Nat.le_refl m)
  have hq1 := hn2 K hK1 hK4
  have hc1 := hc6 K hK1 hK4
  generalize ea : zrn P N K rw m = a at C G hq1 hc1
  have V1 := G.V
  have hP401 := V1.P40
  have hN81 := V1.N8
  have hnt41 := V1.nt4
  have hcN1 := V1.cN
  have hK11 := V1.K1
  have hK41 := V1.K4
  have hPN1 := D320 V1
  have hDD1 : I 16 4 * I 16 5 = nI (a.P * a.N) := by rw [C.hP, C.hN, pk_mul]
  have hvn1 : ∀ j, j < a.n → A 32 j = nI (a.va j) ∧ a.va j < 2 ^ 20 := fun j hj => ⟨C.hva j hj, by have := V1.va9 j hj; omega⟩
  have hNP1 : a.N * a.P ≤ 320 := by rw [Nat.mul_comm]; exact hPN1
  refine X 200 _ _ _ _ _ _ _ _ _ ?_
  refine c_noBook X (fun zb => ?_) (fun zb => ?_)
  · have zb2 := hbk.mp zb
    subst zb2
    refine And.intro (fun _ => ?_) (fun q => absurd q (by decide))
    exact hno (Or.inl rfl)
  · have zb2 : bk = true := by cases bk with | true => rfl | false => exact absurd (hbk.mpr rfl) zb
    subst zb2
    have hL0 := hLb rfl
    refine And.intro (fun q => absurd (by decide) q) (fun _ => ?_)
    refine c_isBetween X (fun z1 z2 => ?_) (fun zb => ?_)
    · obtain ⟨k0, ek, hk1, hk5⟩ := i32n 1 5 (by decide) (by decide) z1 z2
      subst ek
      refine And.intro (fun _ => ?_) (fun q => absurd q (by decide))
      refine c_hasOpen X (fun zo0 => ?_) (fun zo0 => ?_)
      · have zo1 : a.c < a.N := by rw [C.hc, C.hN, nI_ltI (by omega) (by omega)] at zo0; exact zo0
        refine And.intro (fun q => absurd q (by decide)) (fun _ => ?_)
        refine c_settlementWith X hnt41 C.hnt C.hP C.hN hNP1 (by omega) hq1 C.hn (C.hK (by omega)) hK11 hK41 hDD1 hPN1 hP401 hvn1 (dy := 0) (m := 0) rfl (by omega) (by omega) ?_
        have e1 : an_settled a true = _ := (z_settled C G (by omega) hc1 zo1).symm
        have g1 : fK I A B I A (cps A a.nt a.P (a.P * a.N) a.K (plr A B a.va a.P (a.P * a.N) a.n 0 0 (0 : Int32).toInt64) a.N) := fC.fK (fC.b37 (fun k hk => stl_r hk))
        refine c_rep X S hL0 (by omega) (Q k0 hk1 (by omega)) rfl (fun I1 A1 B1 C2 f1 => ?_)
        have S1 := S.fP f1
        have G2 := (Q k0 hk1 (by omega)).gd m (Nat.le_refl m)
        have hq2 := hn2 k0 hk1 (by omega)
        have hc2 := hc6 k0 hk1 (by omega)
        generalize ea2 : zrn P N k0 rw m = a2 at C2 G2 hq2 hc2
        have V2 := G2.V
        have hP402 := V2.P40
        have hN82 := V2.N8
        have hnt42 := V2.nt4
        have hcN2 := V2.cN
        have hK12 := V2.K1
        have hK42 := V2.K4
        have hPN2 := D320 V2
        have hDD2 : I1 16 4 * I1 16 5 = nI (a2.P * a2.N) := by rw [C2.hP, C2.hN, pk_mul]
        have hvn2 : ∀ j, j < a2.n → A1 32 j = nI (a2.va j) ∧ a2.va j < 2 ^ 20 := fun j hj => ⟨C2.hva j hj, by have := V2.va9 j hj; omega⟩
        have hNP2 : a2.N * a2.P ≤ 320 := by rw [Nat.mul_comm]; exact hPN2
        refine c_hasOpen X (fun zo0 => ?_) (fun zo0 => ?_)
        · have zo2 : a2.c < a2.N := by rw [C2.hc, C2.hN, nI_ltI (by omega) (by omega)] at zo0; exact zo0
          refine And.intro (fun q => absurd q (by decide)) (fun _ => ?_)
          refine c_settlementWith X hnt42 C2.hnt C2.hP C2.hN hNP2 (by omega) hq2 C2.hn (C2.hK (by omega)) hK12 hK42 hDD2 hPN2 hP402 hvn2 (dy := 0) (m := 0) rfl (by omega) (by omega) ?_
          have e2 : an_settled a2 true = _ := (z_settled C2 G2 (by omega) hc2 zo2).symm
          have g2 : fK I1 A1 B1 I1 A1 (cps A1 a2.nt a2.P (a2.P * a2.N) a2.K (plr A1 B1 a2.va a2.P (a2.P * a2.N) a2.n 0 0 (0 : Int32).toInt64) a2.N) := fC.fK (fC.b37 (fun k hk => stl_r hk))
          refine c_cycle X S1 hL0 (by omega) ?_
          refine c_rep X S1 hL0 (by omega) (Q K hK1 hK4) (S1.h0 hL0).2.2.2 (fun I3 A3 B3 C3 f3 => ?_)
          have h2 := h rfl k0 rfl hk1 hk5 _ _ _ C3 (S1.fP f3) (((g1.trans f1.fK).trans g2).trans f3.fK)
          unfold an_cpd at h2
          rw [ea2, ea, e1, e2] at h2
          exact h2
        · have zo2 : ¬ a2.c < a2.N := by rw [C2.hc, C2.hN, nI_ltI (by omega) (by omega)] at zo0; exact zo0
          refine And.intro (fun _ => ?_) (fun q => absurd (by decide) q)
          refine c_sum X hq2 C2.hn ?_
          have e2 : an_settled a2 true = sm (fun j => B1 31 j) a2.n := by rw [z_total C2]; show zL (zto (zset (a2.N - a2.c) a2)) = _; rw [show a2.N - a2.c = 0 by omega]; rfl
          have g2 := fK.refl I1 A1 B1
          refine c_cycle X S1 hL0 (by omega) ?_
          refine c_rep X S1 hL0 (by omega) (Q K hK1 hK4) (S1.h0 hL0).2.2.2 (fun I3 A3 B3 C3 f3 => ?_)
          have h2 := h rfl k0 rfl hk1 hk5 _ _ _ C3 (S1.fP f3) (((g1.trans f1.fK).trans g2).trans f3.fK)
          unfold an_cpd at h2
          rw [ea2, ea, e1, e2] at h2
          exact h2
      · have zo1 : ¬ a.c < a.N := by rw [C.hc, C.hN, nI_ltI (by omega) (by omega)] at zo0; exact zo0
        refine And.intro (fun _ => ?_) (fun q => absurd (by decide) q)
        refine c_sum X hq1 C.hn ?_
        have e1 : an_settled a true = sm (fun j => B 31 j) a.n := by rw [z_total C]; show zL (zto (zset (a.N - a.c) a)) = _; rw [show a.N - a.c = 0 by omega]; rfl
        have g1 := fK.refl I A B
        refine c_rep X S hL0 (by omega) (Q k0 hk1 (by omega)) rfl (fun I1 A1 B1 C2 f1 => ?_)
        have S1 := S.fP f1
        have G2 := (Q k0 hk1 (by omega)).gd m (Nat.le_refl m)
        have hq2 := hn2 k0 hk1 (by omega)
        have hc2 := hc6 k0 hk1 (by omega)
        generalize ea2 : zrn P N k0 rw m = a2 at C2 G2 hq2 hc2
        have V2 := G2.V
        have hP402 := V2.P40
        have hN82 := V2.N8
        have hnt42 := V2.nt4
        have hcN2 := V2.cN
        have hK12 := V2.K1
        have hK42 := V2.K4
        have hPN2 := D320 V2
        have hDD2 : I1 16 4 * I1 16 5 = nI (a2.P * a2.N) := by rw [C2.hP, C2.hN, pk_mul]
        have hvn2 : ∀ j, j < a2.n → A1 32 j = nI (a2.va j) ∧ a2.va j < 2 ^ 20 := fun j hj => ⟨C2.hva j hj, by have := V2.va9 j hj; omega⟩
        have hNP2 : a2.N * a2.P ≤ 320 := by rw [Nat.mul_comm]; exact hPN2
        refine c_hasOpen X (fun zo0 => ?_) (fun zo0 => ?_)
        · have zo2 : a2.c < a2.N := by rw [C2.hc, C2.hN, nI_ltI (by omega) (by omega)] at zo0; exact zo0
          refine And.intro (fun q => absurd q (by decide)) (fun _ => ?_)
          refine c_settlementWith X hnt42 C2.hnt C2.hP C2.hN hNP2 (by omega) hq2 C2.hn (C2.hK (by omega)) hK12 hK42 hDD2 hPN2 hP402 hvn2 (dy := 0) (m := 0) rfl (by omega) (by omega) ?_
          have e2 : an_settled a2 true = _ := (z_settled C2 G2 (by omega) hc2 zo2).symm
          have g2 : fK I1 A1 B1 I1 A1 (cps A1 a2.nt a2.P (a2.P * a2.N) a2.K (plr A1 B1 a2.va a2.P (a2.P * a2.N) a2.n 0 0 (0 : Int32).toInt64) a2.N) := fC.fK (fC.b37 (fun k hk => stl_r hk))
          refine c_cycle X S1 hL0 (by omega) ?_
          refine c_rep X S1 hL0 (by omega) (Q K hK1 hK4) (S1.h0 hL0).2.2.2 (fun I3 A3 B3 C3 f3 => ?_)
          have h2 := h rfl k0 rfl hk1 hk5 _ _ _ C3 (S1.fP f3) (((g1.trans f1.fK).trans g2).trans f3.fK)
          unfold an_cpd at h2
          rw [ea2, ea, e1, e2] at h2
          exact h2
        · have zo2 : ¬ a2.c < a2.N := by rw [C2.hc, C2.hN, nI_ltI (by omega) (by omega)] at zo0; exact zo0
          refine And.intro (fun _ => ?_) (fun q => absurd (by decide) q)
          refine c_sum X hq2 C2.hn ?_
          have e2 : an_settled a2 true = sm (fun j => B1 31 j) a2.n := by rw [z_total C2]; show zL (zto (zset (a2.N - a2.c) a2)) = _; rw [show a2.N - a2.c = 0 by omega]; rfl
          have g2 := fK.refl I1 A1 B1
          refine c_cycle X S1 hL0 (by omega) ?_
          refine c_rep X S1 hL0 (by omega) (Q K hK1 hK4) (S1.h0 hL0).2.2.2 (fun I3 A3 B3 C3 f3 => ?_)
          have h2 := h rfl k0 rfl hk1 hk5 _ _ _ C3 (S1.fP f3) (((g1.trans f1.fK).trans g2).trans f3.fK)
          unfold an_cpd at h2
          rw [ea2, ea, e1, e2] at h2
          exact h2
    · refine And.intro (fun q => absurd (by decide) q) (fun _ => ?_)
      exact hno (Or.inr (fun k a1 a2 e => zb ⟨by rw [e]; exact nI_le (a := 1) (b := k) a1 (by omega), by rw [e]; exact nI_le (a := k) (b := 4) (by omega) (by omega)⟩))
