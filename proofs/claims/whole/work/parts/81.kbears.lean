/-! contracts of the class: bears (written by wip/whole/gk12.py) -/
set_option maxRecDepth 20000 in
theorem c_valueDays {J : mJ} (X : mRules J) {I A : mI} {B : mB} {w f : Nat} {R : mR} {a : Ac} (C : CR a I A B) (V : Vw a) (hn2 : a.n ≤ 220) {D : Nat} (hD : D ≤ 320) {xd : Int32} (exd : xd = nI D) (h : R (some (.int (nI (ct (zhv a) D)))) I A B (pk w f)) : J n_Entries_valueDaysAhead 0 [.ref 29, .int xd, .float 0, .float 0, .float 0, .float 0] [] I A B (pk w f) R := by
  subst exd
  obtain ⟨od, O⟩ := C.hod
  rw [← z_bears O] at h
  have G9 : ∀ i, i ≤ a.n → ∀ (c : Int32) (s : Int32) (x : Int32) (z5 : Value), c = nI (ct (inn (fun k => a.va (od k)) i) D) → x = nI i → (∃ l : Int, s = zN l ∧ Lst (fun k => a.va (od k)) D i l) → J n_Entries_valueDaysAhead 7 [.ref 29, .int (nI D), .int c, .int s, .int x, z5] [] I A B (pk w f) R := by
    refine lpz (fun i => ∀ (c : Int32) (s : Int32) (x : Int32) (z5 : Value), c = nI (ct (inn (fun k => a.va (od k)) i) D) → x = nI i → (∃ l : Int, s = zN l ∧ Lst (fun k => a.va (od k)) D i l) → J n_Entries_valueDaysAhead 7 [.ref 29, .int (nI D), .int c, .int s, .int x, z5] [] I A B (pk w f) R) (fun i hi ih => ?_)
    intro c s x z5 ec ex hs
    subst ec; subst ex
    refine X 200 _ _ _ _ _ _ _ _ _ ?_
    refine And.intro (fun q1 => ?_) (fun q1 => ?_)
    · rw [C.hn] at q1
      have e := lpx hi (by omega) q1
      subst e
      exact h
    · rw [C.hn] at q1
      have hl := lpc hi (by omega) q1
      have hb31 : (nI i).toNatClampNeg = i := cl (by omega)
      have ho1 := O.at_ i hl
      have ho2 := O.lt i hl
      have cb : (A 35 (nI i).toNatClampNeg).toNatClampNeg = od i := by rw [hb31, ho1]; exact cl (by omega)
      have hva := C.hva (od i) ho2
      have hv9 := V.va9 (od i) ho2
      have hle := od_le O hl
      obtain ⟨l, el, H⟩ := hs
      subst el
      have hl1 := H.l1
      have hhd := H.hd
      refine Exists.intro _ (And.intro rfl (And.intro (by first | (rw [hb31, ho1]; exact vin (by omega) (by omega)) | exact vin (by omega) (by omega)) ?_))
      refine Exists.intro _ (And.intro rfl (And.intro (by first | (rw [hb31, ho1]; exact vin (by omega) (by omega)) | exact vin (by omega) (by omega)) ?_))
      refine And.intro (fun q2 => ?_) (fun q2 => ?_)
      · rw [cb, hva] at q2
        have c1 : ¬ a.va (od i) < D := Nat.not_lt.mpr ((nI_leI (by omega) (by omega)).mp q2)
        obtain ⟨H1, e1⟩ := lst_o H c1
        exact ih hl _ _ _ _ (by rw [e1]) (nI_1 i) ⟨_, rfl, H1⟩
      · rw [cb, hva] at q2
        have c1 : a.va (od i) < D := Nat.lt_of_not_le (fun z => q2 (nI_le z (by omega)))
        refine And.intro (fun q3 => ?_) (fun q3 => ?_)
        · rw [cb, hva] at q3
          have c2 : (a.va (od i) : Int) ≤ l := by
            rw [nI_z] at q3
            have := (zn_eq (by omega) (by omega) (by omega) (by omega)).mp q3
            omega
          obtain ⟨H1, e1⟩ := lst_e H hle c2
          exact ih hl _ _ _ _ (by rw [e1]) (nI_1 i) ⟨_, rfl, H1⟩
        · rw [cb, hva] at q3
          have c2 : l < (a.va (od i) : Int) := by
            rw [nI_z] at q3
            have hne : ¬ (a.va (od i) : Int) = l := fun z => q3 ((zn_eq (by omega) (by omega) (by omega) (by omega)).mpr z)
            rcases H.lo with e | ⟨k, hk, e⟩
            · omega
            · have e2 : (a.va (od k) : Int) = l := e
              have := hle k hk
              omega
          obtain ⟨H1, e1⟩ := lst_n H c2 c1
          exact ih hl _ _ _ _ (by rw [e1]; exact nI_1 _) (nI_1 i) ⟨_, by rw [cb, hva, nI_z], H1⟩
  refine X 200 _ _ _ _ _ _ _ _ _ ?_
  exact G9 0 (Nat.zero_le _) _ _ _ _ (by rw [ct_z (fun j _ => inn_f (fun i hi => absurd hi (Nat.not_lt_zero i)))]; rfl) rfl ⟨-1, rfl, lst_0⟩
set_option maxRecDepth 20000 in
theorem k_bears {J : mJ} (X : mRules J) {I A : mI} {B : mB} {w f : Nat} {R : mR} {a : Ac} (C : CR a I A B) (G : Gd a) (hn2 : a.n ≤ 220) {p : Int32} (h : qC w f I A B R (some (.int (an_bears a (ixN a.N p))))) : J n_V_bears 0 [.ref 0, .int p] [] I A B (pk w f) R := by
  have V := G.V
  have hP40 := V.P40
  have hN8 := V.N8
  have hnt4 := V.nt4
  have hcN := V.cN
  have hK1 := V.K1
  have hK4 := V.K4
  have hPN := D320 V
  have hNP : a.N * a.P ≤ 320 := by rw [Nat.mul_comm]; exact hPN
  have hD31 : a.P * a.N < 2 ^ 31 := by omega
  have hN31 : a.N < 2 ^ 31 := by omega
  have hn31 : a.n < 2 ^ 31 := by omega
  have hnt31 : a.nt < 2 ^ 31 := by omega
  have hDD : I 16 4 * I 16 5 = nI (a.P * a.N) := by rw [C.hP, C.hN, pk_mul]
  have hvn : ∀ j, j < a.n → A 32 j = nI (a.va j) ∧ a.va j < 2 ^ 20 := fun j hj => ⟨C.hva j hj, by have := V.va9 j hj; omega⟩
  refine X 200 _ _ _ _ _ _ _ _ _ ?_
  refine c_isPeriod X hN31 C.hN (fun p0 hp ep => ?_) (fun zp => ?_)
  · subst ep
    refine And.intro (fun _ => ?_) (fun q => absurd q (by decide))
    have hp9 := P_le (a := a) (p := p0) hp
    refine c_valueDays X C V hn2 (D := a.P * p0 + a.P) (by omega) (by rw [C.hP]; rw [pk_mul, nI_add, Nat.mul_comm]) ?_
    rw [ixN_s hp hN31] at h
    have h2 := h _ _ (fC.refl _ _)
    exact h2
  · refine And.intro (fun q => absurd (by decide) q) (fun _ => ?_)
    rw [ixN_n hN31 zp] at h
    have h2 := h _ _ (fC.refl _ _)
    exact h2
