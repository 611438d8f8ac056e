/-! contracts of the class: bestDay (written by wip/whole/gk13.py) -/
set_option maxRecDepth 20000 in
theorem k_best {J : mJ} (X : mRules J) {I A : mI} {B : mB} {w f : Nat} {R : mR} {a : Ac} (C : CR a I A B) (G : Gd a) (hn2 : a.n ≤ 220) (hD1 : 1 ≤ a.P * a.N) {e : Int32} (h : qC w f I A B R (some (.int (an_best a (ixN a.n e))))) : J n_V_bestDay 0 [.ref 0, .int e] [] I A B (pk w f) R := by
  have V := G.V
  have hP40 := V.P40
  have hN8 := V.N8
  have hnt4 := V.nt4
  have hcN := V.cN
  have hK1 := V.K1
  have hK4 := V.K4
  have hPN := D320 V
  have hNP : a.N * a.P ≤ 320 := by rw [Nat.mul_comm]; exact hPN
  have hD31 : a.P * a.N < 2 ^ 31 := by omega
  have hN31 : a.N < 2 ^ 31 := by omega
  have hn31 : a.n < 2 ^ 31 := by omega
  have hnt31 : a.nt < 2 ^ 31 := by omega
  have hDD : I 16 4 * I 16 5 = nI (a.P * a.N) := by rw [C.hP, C.hN, pk_mul]
  have hvn : ∀ j, j < a.n → A 32 j = nI (a.va j) ∧ a.va j < 2 ^ 20 := fun j hj => ⟨C.hva j hj, by have := V.va9 j hj; omega⟩
  refine X 200 _ _ _ _ _ _ _ _ _ ?_
  refine c_has X hn31 C.hn (fun e0 he ee => ?_) (fun ze => ?_)
  · subst ee
    refine And.intro (fun q => absurd q (by decide)) (fun _ => ?_)
    refine c_dayOfMost X hnt4 C.hnt C.hP C.hN hNP (by omega) hn2 C.hn hDD hPN hvn rfl he ?_
    rw [ixN_s he hn31] at h
    have h2 := h A (wob A B a.va (a.P * a.N) e0) (fC.b37 (fun k hk => wob_b hk))
    have e9 : an_best a (some e0) = _ := (z_best C G he hD1).symm
    rw [e9] at h2
    exact h2
  · refine And.intro (fun _ => ?_) (fun q => absurd (by decide) q)
    rw [ixN_n hn31 ze] at h
    have h2 := h _ _ (fC.refl _ _)
    exact h2
