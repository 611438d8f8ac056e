/-! contracts of the class: sorted, bears (written by wip/whole/gk11.py) -/
set_option maxRecDepth 20000 in
theorem c_inOrd {J : mJ} (X : mRules J) {I A : mI} {B : mB} {w f : Nat} {R : mR} {a : Ac} (C : CR a I A B) (hn2 : a.n ≤ 220) {k : Int32} (h : R (some (.int (fI (fd (fun e => decide (nI (rnk a e) = k)) a.n)))) I A B (pk w f)) : J n_Entries_inOrder 0 [.ref 29, .int k] [] I A B (pk w f) R := by
  have hn31 : a.n < 2 ^ 31 := by omega
  refine X 200 _ _ _ _ _ _ _ _ _ ?_
  refine c_has X hn31 C.hn (fun k0 hk ek => ?_) (fun zk => ?_)
  · subst ek
    refine And.intro (fun q => absurd q (by decide)) (fun _ => ?_)
    refine Exists.intro _ (And.intro rfl (And.intro (vin (by omega) (by omega)) ?_))
    obtain ⟨od, O⟩ := C.hod
    rw [z_sorted O hk hn2] at h
    rw [← cl (n := k0) (by omega)] at h
    exact h
  · refine And.intro (fun _ => ?_) (fun q => absurd (by decide) q)
    obtain ⟨od, O⟩ := C.hod
    rw [z_sortn O zk] at h
    exact h
set_option maxRecDepth 20000 in
theorem k_sorted {J : mJ} (X : mRules J) {I A : mI} {B : mB} {w f : Nat} {R : mR} {a : Ac} (C : CR a I A B) (G : Gd a) (hn2 : a.n ≤ 220) {bk : Bool} (hbk : I 7 1 = 0 ↔ bk = false) {k : Int32} (h : qC w f I A B R (some (.int (an_sorted a bk k)))) : J n_V_sorted 0 [.ref 0, .int k] [] I A B (pk w f) R := by
  have V := G.V
  have hP40 := V.P40
  have hN8 := V.N8
  have hnt4 := V.nt4
  have hcN := V.cN
  have hK1 := V.K1
  have hK4 := V.K4
  have hPN := D320 V
  have hNP : a.N * a.P ≤ 320 := by rw [Nat.mul_comm]; exact hPN
  have hD31 : a.P * a.N < 2 ^ 31 := by omega
  have hN31 : a.N < 2 ^ 31 := by omega
  have hn31 : a.n < 2 ^ 31 := by omega
  have hnt31 : a.nt < 2 ^ 31 := by omega
  have hDD : I 16 4 * I 16 5 = nI (a.P * a.N) := by rw [C.hP, C.hN, pk_mul]
  have hvn : ∀ j, j < a.n → A 32 j = nI (a.va j) ∧ a.va j < 2 ^ 20 := fun j hj => ⟨C.hva j hj, by have := V.va9 j hj; omega⟩
  refine X 200 _ _ _ _ _ _ _ _ _ ?_
  refine And.intro (fun q1 => ?_) (fun q1 => ?_)
  · rw [show an_sorted a bk k = -2 by cases bk with | false => rfl | true => exact if_pos q1] at h
    have h2 := h _ _ (fC.refl _ _)
    exact h2
  · refine c_noBook X (fun zb => ?_) (fun zb => ?_)
    · have zb2 := hbk.mp zb
      subst zb2
      refine And.intro (fun q => absurd q (by decide)) (fun _ => ?_)
      have h2 := h _ _ (fC.refl _ _)
      exact h2
    · have zb2 : bk = true := by cases bk with | true => rfl | false => exact absurd (hbk.mpr rfl) zb
      subst zb2
      refine And.intro (fun _ => ?_) (fun q => absurd (by decide) q)
      refine c_inOrd X C hn2 ?_
      rw [show an_sorted a true k = fI (fd (fun e => decide (nI (rnk a e) = k)) a.n) from if_neg q1] at h
      have h2 := h _ _ (fC.refl _ _)
      exact h2
