/-! contracts of the reference: undo, anew, compounded (written by wip/whole/gm11.py) -/
set_option maxRecDepth 20000 in
theorem r_undo {J : mJ} (X : mRules J) {I A : mI} {B : mB} {w f : Nat} {R : mR} {P N K L T m : Nat} {rw : Nat → Rw} (M : MR (zrn P N K rw m) w I A B) (W : WdR w A L T m rw) {bk : Bool} (hbk : 0 < A w 3 ↔ bk = true) (hTm : T ≤ m) (hm : m ≤ 100) (Q : Rp P N K rw m) (hn : bk = false → qM (zrn P N K rw m) w f I A B R (some (.int (-2)))) (h5e : bk = true → m = T → qM (zrn P N K rw m) w f I A B R (some (.int (-5)))) (h : bk = true → T < m → qY P N K L T (m - 1) rw w f I A B R (.int (nI (m - 1 - T)))) : J n_M_undo 0 [.ref 43] [] I A B (pk w f) R := by
  have h6 : w = 44 ∨ w = 45 ∨ w = 46 ∨ w = 47 ∨ w = 60 := by have := M.w5; omega
  have h5 := M.w5
  refine X 200 _ _ _ _ _ _ _ _ _ ?_
  refine c_MisBk X M.hw hbk (fun zb => ?_) (fun zb => ?_)
  · subst zb
    refine And.intro (fun _ => ?_) (fun q => absurd q (by decide))
    refine c_Macts X M.hw W hTm ?_
    refine And.intro (fun q1 => ?_) (fun q1 => ?_)
    · have hTl : T < m := Nat.lt_of_le_of_ne hTm (fun z => q1 (by rw [z, Nat.sub_self]; rfl))
      refine Exists.intro _ (And.intro M.hw (And.intro (vlit rfl) ?_))
      refine Exists.intro _ (And.intro M.hw (And.intro (vlit rfl) ?_))
      have W1 := W.ac (m' := m - 1) (by omega) (x := A w 5 - 1) (by rw [W.h5, show m = (m - 1) + 1 by omega]; exact nI_pred _)
      have M0 := M.fw (A' := up2 A w 5 (A w 5 - 1)) (fun q hq => up2_r hq) (fun j hj => up2_m (by omega))
      refine c_Mda X M0 (rn_PNK (P := P) (N := N) (K := K) (rw := rw) m) W1 (by omega) (Q.le (by omega)) (fun I1 A1 B1 M1 f1 => ?_)
      have W2 := W1.fr (f1.row w h6)
      refine c_Macts X M.hw W2 (by omega) ?_
      exact h rfl hTl _ _ _ M1 (W1.fr (f1.row w h6)) ((fA.w5 h5).trans f1.fA)
    · have hTe : m = T := by have := (nI_eq (b := 0) (by omega) (by omega)).mp q1; omega
      exact h5e rfl hTe _ _ _ M (fM.refl _ _ _)
  · subst zb
    refine And.intro (fun q => absurd (by decide) q) (fun _ => ?_)
    exact hn rfl _ _ _ M (fM.refl _ _ _)
set_option maxRecDepth 20000 in
theorem r_anew {J : mJ} (X : mRules J) {I A : mI} {B : mB} {w f : Nat} {R : mR} {P N K L T m : Nat} {rw : Nat → Rw} (M : MR (zrn P N K rw m) w I A B) (W : WdR w A L T m rw) {bk : Bool} (hbk : 0 < A w 3 ↔ bk = true) (hTm : T ≤ m) (hm : m ≤ 100) (Q : Rp P N K rw m) (hn : bk = false → qM (zrn P N K rw m) w f I A B R (some (.int (-2)))) (h : bk = true → qY P N K L T T rw w f I A B R (.int (nI (m - T)))) : J n_M_anew 0 [.ref 43, .float 0] [] I A B (pk w f) R := by
  have h6 : w = 44 ∨ w = 45 ∨ w = 46 ∨ w = 47 ∨ w = 60 := by have := M.w5; omega
  have h5 := M.w5
  refine X 200 _ _ _ _ _ _ _ _ _ ?_
  refine c_MisBk X M.hw hbk (fun zb => ?_) (fun zb => ?_)
  · subst zb
    refine And.intro (fun _ => ?_) (fun q => absurd q (by decide))
    refine c_Macts X M.hw W hTm ?_
    refine Exists.intro _ (And.intro M.hw (And.intro (vlit rfl) ?_))
    refine Exists.intro _ (And.intro M.hw (And.intro (vlit rfl) ?_))
    have W1 := W.ac (m' := T) (by omega) (x := A w 4) W.h4
    have M0 := M.fw (A' := up2 A w 5 (A w 4)) (fun q hq => up2_r hq) (fun j hj => up2_m (by omega))
    refine c_Mda X M0 (rn_PNK (P := P) (N := N) (K := K) (rw := rw) m) W1 (by omega) (Q.le (by omega)) (fun I1 A1 B1 M1 f1 => ?_)
    exact h rfl _ _ _ M1 (W1.fr (f1.row w h6)) ((fA.w5 h5).trans f1.fA)
  · subst zb
    refine And.intro (fun q => absurd (by decide) q) (fun _ => ?_)
    exact hn rfl _ _ _ M (fM.refl _ _ _)
set_option maxRecDepth 20000 in
theorem r_compounded {J : mJ} (X : mRules J) {I A : mI} {B : mB} {w f : Nat} {R : mR} {P N K L T m : Nat} {rw : Nat → Rw} (M : MR (zrn P N K rw m) w I A B) (W : WdR w A L T m rw) {bk : Bool} (hbk : 0 < A w 3 ↔ bk = true) (hm : m ≤ 100) (hK1 : 1 ≤ K) (hK4 : K ≤ 4) (hN8 : N ≤ 8) (hN0 : bk = true → 0 < N) (Q : ∀ k, 1 ≤ k → k ≤ 4 → Rp P N k rw m) (hn2 : ∀ k, 1 ≤ k → k ≤ 4 → (zrn P N k rw m).n ≤ 220) {x : Int32} (hno : (bk = false ∨ ∀ k, 1 ≤ k → k < 5 → x ≠ nI k) → qM (zrn P N K rw m) w f I A B R (some (.long NS))) (h : bk = true → ∀ k, x = nI k → 1 ≤ k → k < 5 → qY P N K L T m rw w f I A B R (.long (an_cpd P N K rw m k))) : J n_M_compounded 0 [.ref 43, .int x, .float 0, .float 0, .float 0, .float 0, .float 0] [] I A B (pk w f) R := by
  have h5 := M.w5
  have h6 : w = 44 ∨ w = 45 ∨ w = 46 ∨ w = 47 ∨ w = 60 := by omega
  refine X 200 _ _ _ _ _ _ _ _ _ ?_
  refine c_MisBk X M.hw hbk (fun zb => ?_) (fun zb => ?_)
  · subst zb
    refine And.intro (fun q => absurd q (by decide)) (fun _ => ?_)
    refine c_MinB X 1 4 (by decide) (by decide) (fun zm => ?_) (fun zm => ?_)
    · obtain ⟨k0, ek, hk1, hk5⟩ := i32n 1 5 (by decide) (by decide) zm.1 zm.2
      subst ek
      refine And.intro (fun _ => ?_) (fun q => absurd q (by decide))
      refine c_MsettledOf X M ((Q K hK1 hK4).gd m (Nat.le_refl m)) (by have := hn2 K hK1 hK4; have := (rn_PNK (P := P) (N := N) (K := K) (rw := rw) m).2.1; omega) (fun I1 A1 B1 M1 f1 => ?_)
      have W1 := W.fr (f1.row w h6)
      refine Exists.intro _ (And.intro M.hw (And.intro (vlit rfl) ?_))
      refine Exists.intro _ (And.intro M.hw (And.intro (vlit rfl) ?_))
      have M2 := M1.sk (k := k0) (x := nI k0) rfl
      have W2 := W1.sk (x := nI k0)
      have p1 := rn_PNK (P := P) (N := N) (K := K) (rw := rw) m
      refine c_Mda X M2 (P := P) (N := N) (K := k0) ⟨p1.1, p1.2.1, rfl, p1.2.2.2.1, p1.2.2.2.2⟩ W2 (by omega) (Q k0 hk1 (by omega)) (fun I3 A3 B3 M3 f3 => ?_)
      have W3 := W2.fr (f3.row w h6)
      refine c_MsettledOf X M3 ((Q k0 hk1 (by omega)).gd m (Nat.le_refl m)) (by have := hn2 k0 hk1 (by omega); have := (rn_PNK (P := P) (N := N) (K := k0) (rw := rw) m).2.1; omega) (fun I4 A4 B4 M4 f4 => ?_)
      have W4 := W3.fr (f4.row w h6)
      refine Exists.intro _ (And.intro M.hw (And.intro (vlit rfl) ?_))
      have M5 := M4.sk (k := K) (x := A1 w 2) ((M1.hK (by rw [(rn_PNK (P := P) (N := N) (K := K) (rw := rw) m).2.1]; exact hN0 rfl)).trans (by rw [(rn_PNK (P := P) (N := N) (K := K) (rw := rw) m).2.2.1]))
      have W5 := W4.sk (x := A1 w 2)
      have p2 := rn_PNK (P := P) (N := N) (K := k0) (rw := rw) m
      refine c_Mda X M5 (P := P) (N := N) (K := K) ⟨p2.1, p2.2.1, rfl, p2.2.2.2.1, p2.2.2.2.2⟩ W5 (by omega) (Q K hK1 hK4) (fun I6 A6 B6 M6 f6 => ?_)
      have W6 := W5.fr (f6.row w h6)
      exact h rfl k0 rfl hk1 hk5 _ _ _ M6 W6 (((((f1.fA.trans (fA.w5 h5)).trans f3.fA).trans f4.fA).trans (fA.w5 h5)).trans f6.fA)
    · refine And.intro (fun q => absurd (by decide) q) (fun _ => ?_)
      exact hno (Or.inr (fun k a1 a2 e => zm ⟨by rw [e]; exact nI_le (a := 1) (b := k) a1 (by omega), by rw [e]; exact nI_le (a := k) (b := 4) (by omega) (by omega)⟩)) _ _ _ M (fM.refl _ _ _)
  · subst zb
    refine And.intro (fun _ => ?_) (fun q => absurd (by decide) q)
    exact hno (Or.inl rfl) _ _ _ M (fM.refl _ _ _)
