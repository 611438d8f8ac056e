/-! the law: questions (written by wip/whole/gl1.py) -/
def lwH (J : mJ) (I A : mI) (i : Nat) (R : mR) : Prop := ∀ w' f' I' A' B' D', (w' = 44 ∧ f' = 45 ∨ w' = 45 ∧ f' = 44) → KSt I' A' B' D' → MSt w' I' A' B' D' → DV D' → I' 900 = I 900 → A' 900 = A 900 → J n_law 18 [.retAddr 0, .ref 0, .ref 43, .int (nI i + 6)] [] I' A' B' (pk w' f') R
theorem scI {I : mI} {i c len : Nat} (h9 : I 900 0 = nI len) (hl : len ≤ 3072) (h : i + c < len) {x : Int32} (ex : x = nI i + nI c) : vp_in x (I 900 0).toNatClampNeg := by
  rw [ex, nI_add, h9, cl (by omega)]
  exact vin h (by omega)
set_option maxRecDepth 20000 in
theorem law_entry {J : mJ} (X : mRules J) {I A : mI} {B : mB} {w f : Nat} {R : mR} {D : Dt} (Kt : KSt I A B D) (Mt : MSt w I A B D) (Dv : DV D) (hwf : w = 44 ∧ f = 45 ∨ w = 45 ∧ f = 44) {i len : Nat} (h9 : I 900 0 = nI len) (hl : len ≤ 3072) (hi : i + 6 ≤ len) (h : lwH J I A i R) : J n_law 449 [.retAddr 0, .ref 0, .ref 43, .int (nI i)] [] I A B (pk w f) R := by
  have Jv := Dv.iv
  have G := Jv.G
  have V := G.V
  have vb : BkV D.b.P D.b.N D.b.K D.b.L D.b.T D.b.m D.b.rw := Dv.b
  have hnn := vb.n vb.K1 vb.K4
  have hn2 : (acB D.b).n ≤ 220 := hnn.1
  have hc6 : ct (fun j => decide (¬ ((acB D.b).so j = 1 ∨ (acB D.b).so j = 2))) (acB D.b).n + 8 ≤ 80 := hnn.2.1
  have hbK := Kt.bk Dv
  have hbM := Mt.bk Dv
  have aN := Jv.N
  have aP := Jv.P
  have hcN := V.cN
  have hN8 := V.N8
  have hD1b : decide (0 < D.b.L) = true → 1 ≤ (acB D.b).P * (acB D.b).N := fun z => by
    have z2 := vb.l (of_decide_eq_true z)
    rw [aN, aP]
    exact Nat.mul_pos (by omega) (by omega)
  have hbN : decide (0 < D.b.L) = false → (acB D.b).N = 0 := fun z => by
    have := of_decide_eq_false z
    rw [aN]
    exact (vb.z (by omega)).2.2.1
  have hP1 : 0 < (acB D.b).N → 0 < (acB D.b).P := fun z => by
    rcases Nat.lt_or_ge 0 D.b.L with y | y
    · have := vb.l y
      omega
    · have := vb.z (by omega)
      omega
  refine X 200 _ _ _ _ _ _ _ _ _ ?_
  refine And.intro (by first | exact scI (c := 1) h9 hl (by omega) rfl | exact scI (c := 2) h9 hl (by omega) rfl | exact scI (c := 3) h9 hl (by omega) rfl | exact scI (c := 4) h9 hl (by omega) rfl | exact scI (c := 5) h9 hl (by omega) rfl) ?_
  refine And.intro (by first | exact scI (c := 1) h9 hl (by omega) rfl | exact scI (c := 2) h9 hl (by omega) rfl | exact scI (c := 3) h9 hl (by omega) rfl | exact scI (c := 4) h9 hl (by omega) rfl | exact scI (c := 5) h9 hl (by omega) rfl) ?_
  refine k_entry X Kt.C G hn2  (fun A1 B1 fc => ?_)
  have hA9 : A1 900 = A 900 := fc.ar 900 (by decide)
  have M1 := Mt.lo fc.lo
  have hbM := M1.bk Dv
  refine And.intro (by first | exact scI (c := 1) h9 hl (by omega) rfl | exact scI (c := 2) h9 hl (by omega) rfl | exact scI (c := 3) h9 hl (by omega) rfl | exact scI (c := 4) h9 hl (by omega) rfl | exact scI (c := 5) h9 hl (by omega) rfl) ?_
  refine And.intro (by first | exact scI (c := 1) h9 hl (by omega) rfl | exact scI (c := 2) h9 hl (by omega) rfl | exact scI (c := 3) h9 hl (by omega) rfl | exact scI (c := 4) h9 hl (by omega) rfl | exact scI (c := 5) h9 hl (by omega) rfl) ?_
  refine r_entry X M1.M V (fun I2 A2 B2 M2 f2 => ?_)
  refine And.intro (fun q1 => ?_) (fun q1 => ?_)
  · exact h _ _ _ _ _ D hwf ((Kt.fC fc).hi f2.out) (M1.fM M2 f2) Dv (f2.out 900 (by omega)).1 ((f2.out 900 (by omega)).2.1.trans hA9)
  · first | exact absurd rfl q1 | exact absurd (by rw [hA9]) q1 --end
set_option maxRecDepth 20000 in
theorem law_sorted {J : mJ} (X : mRules J) {I A : mI} {B : mB} {w f : Nat} {R : mR} {D : Dt} (Kt : KSt I A B D) (Mt : MSt w I A B D) (Dv : DV D) (hwf : w = 44 ∧ f = 45 ∨ w = 45 ∧ f = 44) {i len : Nat} (h9 : I 900 0 = nI len) (hl : len ≤ 3072) (hi : i + 6 ≤ len) (h : lwH J I A i R) : J n_law 483 [.retAddr 0, .ref 0, .ref 43, .int (nI i)] [] I A B (pk w f) R := by
  have Jv := Dv.iv
  have G := Jv.G
  have V := G.V
  have vb : BkV D.b.P D.b.N D.b.K D.b.L D.b.T D.b.m D.b.rw := Dv.b
  have hnn := vb.n vb.K1 vb.K4
  have hn2 : (acB D.b).n ≤ 220 := hnn.1
  have hc6 : ct (fun j => decide (¬ ((acB D.b).so j = 1 ∨ (acB D.b).so j = 2))) (acB D.b).n + 8 ≤ 80 := hnn.2.1
  have hbK := Kt.bk Dv
  have hbM := Mt.bk Dv
  have aN := Jv.N
  have aP := Jv.P
  have hcN := V.cN
  have hN8 := V.N8
  have hD1b : decide (0 < D.b.L) = true → 1 ≤ (acB D.b).P * (acB D.b).N := fun z => by
    have z2 := vb.l (of_decide_eq_true z)
    rw [aN, aP]
    exact Nat.mul_pos (by omega) (by omega)
  have hbN : decide (0 < D.b.L) = false → (acB D.b).N = 0 := fun z => by
    have := of_decide_eq_false z
    rw [aN]
    exact (vb.z (by omega)).2.2.1
  have hP1 : 0 < (acB D.b).N → 0 < (acB D.b).P := fun z => by
    rcases Nat.lt_or_ge 0 D.b.L with y | y
    · have := vb.l y
      omega
    · have := vb.z (by omega)
      omega
  refine X 200 _ _ _ _ _ _ _ _ _ ?_
  refine And.intro (by first | exact scI (c := 1) h9 hl (by omega) rfl | exact scI (c := 2) h9 hl (by omega) rfl | exact scI (c := 3) h9 hl (by omega) rfl | exact scI (c := 4) h9 hl (by omega) rfl | exact scI (c := 5) h9 hl (by omega) rfl) ?_
  refine k_sorted X Kt.C G hn2 hbK (fun A1 B1 fc => ?_)
  have hA9 : A1 900 = A 900 := fc.ar 900 (by decide)
  have M1 := Mt.lo fc.lo
  have hbM := M1.bk Dv
  refine And.intro (by first | exact scI (c := 1) h9 hl (by omega) rfl | exact scI (c := 2) h9 hl (by omega) rfl | exact scI (c := 3) h9 hl (by omega) rfl | exact scI (c := 4) h9 hl (by omega) rfl | exact scI (c := 5) h9 hl (by omega) rfl) ?_
  refine r_sorted X M1.M V hbM (fun I2 A2 B2 M2 f2 => ?_)
  refine And.intro (fun q1 => ?_) (fun q1 => ?_)
  · exact h _ _ _ _ _ D hwf ((Kt.fC fc).hi f2.out) (M1.fM M2 f2) Dv (f2.out 900 (by omega)).1 ((f2.out 900 (by omega)).2.1.trans hA9)
  · first | exact absurd rfl q1 | exact absurd (by rw [hA9]) q1 --end
set_option maxRecDepth 20000 in
theorem law_rate {J : mJ} (X : mRules J) {I A : mI} {B : mB} {w f : Nat} {R : mR} {D : Dt} (Kt : KSt I A B D) (Mt : MSt w I A B D) (Dv : DV D) (hwf : w = 44 ∧ f = 45 ∨ w = 45 ∧ f = 44) {i len : Nat} (h9 : I 900 0 = nI len) (hl : len ≤ 3072) (hi : i + 6 ≤ len) (h : lwH J I A i R) : J n_law 506 [.retAddr 0, .ref 0, .ref 43, .int (nI i)] [] I A B (pk w f) R := by
  have Jv := Dv.iv
  have G := Jv.G
  have V := G.V
  have vb : BkV D.b.P D.b.N D.b.K D.b.L D.b.T D.b.m D.b.rw := Dv.b
  have hnn := vb.n vb.K1 vb.K4
  have hn2 : (acB D.b).n ≤ 220 := hnn.1
  have hc6 : ct (fun j => decide (¬ ((acB D.b).so j = 1 ∨ (acB D.b).so j = 2))) (acB D.b).n + 8 ≤ 80 := hnn.2.1
  have hbK := Kt.bk Dv
  have hbM := Mt.bk Dv
  have aN := Jv.N
  have aP := Jv.P
  have hcN := V.cN
  have hN8 := V.N8
  have hD1b : decide (0 < D.b.L) = true → 1 ≤ (acB D.b).P * (acB D.b).N := fun z => by
    have z2 := vb.l (of_decide_eq_true z)
    rw [aN, aP]
    exact Nat.mul_pos (by omega) (by omega)
  have hbN : decide (0 < D.b.L) = false → (acB D.b).N = 0 := fun z => by
    have := of_decide_eq_false z
    rw [aN]
    exact (vb.z (by omega)).2.2.1
  have hP1 : 0 < (acB D.b).N → 0 < (acB D.b).P := fun z => by
    rcases Nat.lt_or_ge 0 D.b.L with y | y
    · have := vb.l y
      omega
    · have := vb.z (by omega)
      omega
  refine X 200 _ _ _ _ _ _ _ _ _ ?_
  refine And.intro (by first | exact scI (c := 1) h9 hl (by omega) rfl | exact scI (c := 2) h9 hl (by omega) rfl | exact scI (c := 3) h9 hl (by omega) rfl | exact scI (c := 4) h9 hl (by omega) rfl | exact scI (c := 5) h9 hl (by omega) rfl) ?_
  refine And.intro (by first | exact scI (c := 1) h9 hl (by omega) rfl | exact scI (c := 2) h9 hl (by omega) rfl | exact scI (c := 3) h9 hl (by omega) rfl | exact scI (c := 4) h9 hl (by omega) rfl | exact scI (c := 5) h9 hl (by omega) rfl) ?_
  refine k_rate X Kt.C G hn2  (fun A1 B1 fc => ?_)
  have hA9 : A1 900 = A 900 := fc.ar 900 (by decide)
  have M1 := Mt.lo fc.lo
  have hbM := M1.bk Dv
  refine And.intro (by first | exact scI (c := 1) h9 hl (by omega) rfl | exact scI (c := 2) h9 hl (by omega) rfl | exact scI (c := 3) h9 hl (by omega) rfl | exact scI (c := 4) h9 hl (by omega) rfl | exact scI (c := 5) h9 hl (by omega) rfl) ?_
  refine And.intro (by first | exact scI (c := 1) h9 hl (by omega) rfl | exact scI (c := 2) h9 hl (by omega) rfl | exact scI (c := 3) h9 hl (by omega) rfl | exact scI (c := 4) h9 hl (by omega) rfl | exact scI (c := 5) h9 hl (by omega) rfl) ?_
  refine r_rate X M1.M V (fun I2 A2 B2 M2 f2 => ?_)
  refine And.intro (fun q1 => ?_) (fun q1 => ?_)
  · exact h _ _ _ _ _ D hwf ((Kt.fC fc).hi f2.out) (M1.fM M2 f2) Dv (f2.out 900 (by omega)).1 ((f2.out 900 (by omega)).2.1.trans hA9)
  · first | exact absurd rfl q1 | exact absurd (by rw [hA9]) q1 --end
set_option maxRecDepth 20000 in
theorem law_owing {J : mJ} (X : mRules J) {I A : mI} {B : mB} {w f : Nat} {R : mR} {D : Dt} (Kt : KSt I A B D) (Mt : MSt w I A B D) (Dv : DV D) (hwf : w = 44 ∧ f = 45 ∨ w = 45 ∧ f = 44) {i len : Nat} (h9 : I 900 0 = nI len) (hl : len ≤ 3072) (hi : i + 6 ≤ len) (h : lwH J I A i R) : J n_law 539 [.retAddr 0, .ref 0, .ref 43, .int (nI i)] [] I A B (pk w f) R := by
  have Jv := Dv.iv
  have G := Jv.G
  have V := G.V
  have vb : BkV D.b.P D.b.N D.b.K D.b.L D.b.T D.b.m D.b.rw := Dv.b
  have hnn := vb.n vb.K1 vb.K4
  have hn2 : (acB D.b).n ≤ 220 := hnn.1
  have hc6 : ct (fun j => decide (¬ ((acB D.b).so j = 1 ∨ (acB D.b).so j = 2))) (acB D.b).n + 8 ≤ 80 := hnn.2.1
  have hbK := Kt.bk Dv
  have hbM := Mt.bk Dv
  have aN := Jv.N
  have aP := Jv.P
  have hcN := V.cN
  have hN8 := V.N8
  have hD1b : decide (0 < D.b.L) = true → 1 ≤ (acB D.b).P * (acB D.b).N := fun z => by
    have z2 := vb.l (of_decide_eq_true z)
    rw [aN, aP]
    exact Nat.mul_pos (by omega) (by omega)
  have hbN : decide (0 < D.b.L) = false → (acB D.b).N = 0 := fun z => by
    have := of_decide_eq_false z
    rw [aN]
    exact (vb.z (by omega)).2.2.1
  have hP1 : 0 < (acB D.b).N → 0 < (acB D.b).P := fun z => by
    rcases Nat.lt_or_ge 0 D.b.L with y | y
    · have := vb.l y
      omega
    · have := vb.z (by omega)
      omega
  refine X 200 _ _ _ _ _ _ _ _ _ ?_
  refine And.intro (by first | exact scI (c := 1) h9 hl (by omega) rfl | exact scI (c := 2) h9 hl (by omega) rfl | exact scI (c := 3) h9 hl (by omega) rfl | exact scI (c := 4) h9 hl (by omega) rfl | exact scI (c := 5) h9 hl (by omega) rfl) ?_
  refine And.intro (by first | exact scI (c := 1) h9 hl (by omega) rfl | exact scI (c := 2) h9 hl (by omega) rfl | exact scI (c := 3) h9 hl (by omega) rfl | exact scI (c := 4) h9 hl (by omega) rfl | exact scI (c := 5) h9 hl (by omega) rfl) ?_
  refine k_owing X Kt.C G hn2  (fun A1 B1 fc => ?_)
  have hA9 : A1 900 = A 900 := fc.ar 900 (by decide)
  have M1 := Mt.lo fc.lo
  have hbM := M1.bk Dv
  refine And.intro (by first | exact scI (c := 1) h9 hl (by omega) rfl | exact scI (c := 2) h9 hl (by omega) rfl | exact scI (c := 3) h9 hl (by omega) rfl | exact scI (c := 4) h9 hl (by omega) rfl | exact scI (c := 5) h9 hl (by omega) rfl) ?_
  refine And.intro (by first | exact scI (c := 1) h9 hl (by omega) rfl | exact scI (c := 2) h9 hl (by omega) rfl | exact scI (c := 3) h9 hl (by omega) rfl | exact scI (c := 4) h9 hl (by omega) rfl | exact scI (c := 5) h9 hl (by omega) rfl) ?_
  refine r_owing X M1.M V (fun I2 A2 B2 M2 f2 => ?_)
  refine And.intro (fun q1 => ?_) (fun q1 => ?_)
  · exact h _ _ _ _ _ D hwf ((Kt.fC fc).hi f2.out) (M1.fM M2 f2) Dv (f2.out 900 (by omega)).1 ((f2.out 900 (by omega)).2.1.trans hA9)
  · first | exact absurd rfl q1 | exact absurd (by rw [hA9]) q1 --end
set_option maxRecDepth 20000 in
theorem law_balance {J : mJ} (X : mRules J) {I A : mI} {B : mB} {w f : Nat} {R : mR} {D : Dt} (Kt : KSt I A B D) (Mt : MSt w I A B D) (Dv : DV D) (hwf : w = 44 ∧ f = 45 ∨ w = 45 ∧ f = 44) {i len : Nat} (h9 : I 900 0 = nI len) (hl : len ≤ 3072) (hi : i + 6 ≤ len) (h : lwH J I A i R) : J n_law 572 [.retAddr 0, .ref 0, .ref 43, .int (nI i)] [] I A B (pk w f) R := by
  have Jv := Dv.iv
  have G := Jv.G
  have V := G.V
  have vb : BkV D.b.P D.b.N D.b.K D.b.L D.b.T D.b.m D.b.rw := Dv.b
  have hnn := vb.n vb.K1 vb.K4
  have hn2 : (acB D.b).n ≤ 220 := hnn.1
  have hc6 : ct (fun j => decide (¬ ((acB D.b).so j = 1 ∨ (acB D.b).so j = 2))) (acB D.b).n + 8 ≤ 80 := hnn.2.1
  have hbK := Kt.bk Dv
  have hbM := Mt.bk Dv
  have aN := Jv.N
  have aP := Jv.P
  have hcN := V.cN
  have hN8 := V.N8
  have hD1b : decide (0 < D.b.L) = true → 1 ≤ (acB D.b).P * (acB D.b).N := fun z => by
    have z2 := vb.l (of_decide_eq_true z)
    rw [aN, aP]
    exact Nat.mul_pos (by omega) (by omega)
  have hbN : decide (0 < D.b.L) = false → (acB D.b).N = 0 := fun z => by
    have := of_decide_eq_false z
    rw [aN]
    exact (vb.z (by omega)).2.2.1
  have hP1 : 0 < (acB D.b).N → 0 < (acB D.b).P := fun z => by
    rcases Nat.lt_or_ge 0 D.b.L with y | y
    · have := vb.l y
      omega
    · have := vb.z (by omega)
      omega
  refine X 200 _ _ _ _ _ _ _ _ _ ?_
  refine And.intro (by first | exact scI (c := 1) h9 hl (by omega) rfl | exact scI (c := 2) h9 hl (by omega) rfl | exact scI (c := 3) h9 hl (by omega) rfl | exact scI (c := 4) h9 hl (by omega) rfl | exact scI (c := 5) h9 hl (by omega) rfl) ?_
  refine k_balance X Kt.C G hn2  (fun A1 B1 fc => ?_)
  have hA9 : A1 900 = A 900 := fc.ar 900 (by decide)
  have M1 := Mt.lo fc.lo
  have hbM := M1.bk Dv
  refine And.intro (by first | exact scI (c := 1) h9 hl (by omega) rfl | exact scI (c := 2) h9 hl (by omega) rfl | exact scI (c := 3) h9 hl (by omega) rfl | exact scI (c := 4) h9 hl (by omega) rfl | exact scI (c := 5) h9 hl (by omega) rfl) ?_
  refine r_balance X M1.M V (fun I2 A2 B2 M2 f2 => ?_)
  refine And.intro (fun q1 => ?_) (fun q1 => ?_)
  · exact h _ _ _ _ _ D hwf ((Kt.fC fc).hi f2.out) (M1.fM M2 f2) Dv (f2.out 900 (by omega)).1 ((f2.out 900 (by omega)).2.1.trans hA9)
  · first | exact absurd rfl q1 | exact absurd (by rw [hA9]) q1 --end
set_option maxRecDepth 20000 in
theorem law_part {J : mJ} (X : mRules J) {I A : mI} {B : mB} {w f : Nat} {R : mR} {D : Dt} (Kt : KSt I A B D) (Mt : MSt w I A B D) (Dv : DV D) (hwf : w = 44 ∧ f = 45 ∨ w = 45 ∧ f = 44) {i len : Nat} (h9 : I 900 0 = nI len) (hl : len ≤ 3072) (hi : i + 6 ≤ len) (h : lwH J I A i R) : J n_law 596 [.retAddr 0, .ref 0, .ref 43, .int (nI i)] [] I A B (pk w f) R := by
  have Jv := Dv.iv
  have G := Jv.G
  have V := G.V
  have vb : BkV D.b.P D.b.N D.b.K D.b.L D.b.T D.b.m D.b.rw := Dv.b
  have hnn := vb.n vb.K1 vb.K4
  have hn2 : (acB D.b).n ≤ 220 := hnn.1
  have hc6 : ct (fun j => decide (¬ ((acB D.b).so j = 1 ∨ (acB D.b).so j = 2))) (acB D.b).n + 8 ≤ 80 := hnn.2.1
  have hbK := Kt.bk Dv
  have hbM := Mt.bk Dv
  have aN := Jv.N
  have aP := Jv.P
  have hcN := V.cN
  have hN8 := V.N8
  have hD1b : decide (0 < D.b.L) = true → 1 ≤ (acB D.b).P * (acB D.b).N := fun z => by
    have z2 := vb.l (of_decide_eq_true z)
    rw [aN, aP]
    exact Nat.mul_pos (by omega) (by omega)
  have hbN : decide (0 < D.b.L) = false → (acB D.b).N = 0 := fun z => by
    have := of_decide_eq_false z
    rw [aN]
    exact (vb.z (by omega)).2.2.1
  have hP1 : 0 < (acB D.b).N → 0 < (acB D.b).P := fun z => by
    rcases Nat.lt_or_ge 0 D.b.L with y | y
    · have := vb.l y
      omega
    · have := vb.z (by omega)
      omega
  refine X 200 _ _ _ _ _ _ _ _ _ ?_
  refine And.intro (by first | exact scI (c := 1) h9 hl (by omega) rfl | exact scI (c := 2) h9 hl (by omega) rfl | exact scI (c := 3) h9 hl (by omega) rfl | exact scI (c := 4) h9 hl (by omega) rfl | exact scI (c := 5) h9 hl (by omega) rfl) ?_
  refine And.intro (by first | exact scI (c := 1) h9 hl (by omega) rfl | exact scI (c := 2) h9 hl (by omega) rfl | exact scI (c := 3) h9 hl (by omega) rfl | exact scI (c := 4) h9 hl (by omega) rfl | exact scI (c := 5) h9 hl (by omega) rfl) ?_
  refine k_part X Kt.C G hn2  (fun A1 B1 fc => ?_)
  have hA9 : A1 900 = A 900 := fc.ar 900 (by decide)
  have M1 := Mt.lo fc.lo
  have hbM := M1.bk Dv
  refine And.intro (by first | exact scI (c := 1) h9 hl (by omega) rfl | exact scI (c := 2) h9 hl (by omega) rfl | exact scI (c := 3) h9 hl (by omega) rfl | exact scI (c := 4) h9 hl (by omega) rfl | exact scI (c := 5) h9 hl (by omega) rfl) ?_
  refine And.intro (by first | exact scI (c := 1) h9 hl (by omega) rfl | exact scI (c := 2) h9 hl (by omega) rfl | exact scI (c := 3) h9 hl (by omega) rfl | exact scI (c := 4) h9 hl (by omega) rfl | exact scI (c := 5) h9 hl (by omega) rfl) ?_
  refine r_part X M1.M V (fun I2 A2 B2 M2 f2 => ?_)
  refine And.intro (fun q1 => ?_) (fun q1 => ?_)
  · exact h _ _ _ _ _ D hwf ((Kt.fC fc).hi f2.out) (M1.fM M2 f2) Dv (f2.out 900 (by omega)).1 ((f2.out 900 (by omega)).2.1.trans hA9)
  · first | exact absurd rfl q1 | exact absurd (by rw [hA9]) q1 --end
set_option maxRecDepth 20000 in
theorem law_product {J : mJ} (X : mRules J) {I A : mI} {B : mB} {w f : Nat} {R : mR} {D : Dt} (Kt : KSt I A B D) (Mt : MSt w I A B D) (Dv : DV D) (hwf : w = 44 ∧ f = 45 ∨ w = 45 ∧ f = 44) {i len : Nat} (h9 : I 900 0 = nI len) (hl : len ≤ 3072) (hi : i + 6 ≤ len) (h : lwH J I A i R) : J n_law 630 [.retAddr 0, .ref 0, .ref 43, .int (nI i)] [] I A B (pk w f) R := by
  have Jv := Dv.iv
  have G := Jv.G
  have V := G.V
  have vb : BkV D.b.P D.b.N D.b.K D.b.L D.b.T D.b.m D.b.rw := Dv.b
  have hnn := vb.n vb.K1 vb.K4
  have hn2 : (acB D.b).n ≤ 220 := hnn.1
  have hc6 : ct (fun j => decide (¬ ((acB D.b).so j = 1 ∨ (acB D.b).so j = 2))) (acB D.b).n + 8 ≤ 80 := hnn.2.1
  have hbK := Kt.bk Dv
  have hbM := Mt.bk Dv
  have aN := Jv.N
  have aP := Jv.P
  have hcN := V.cN
  have hN8 := V.N8
  have hD1b : decide (0 < D.b.L) = true → 1 ≤ (acB D.b).P * (acB D.b).N := fun z => by
    have z2 := vb.l (of_decide_eq_true z)
    rw [aN, aP]
    exact Nat.mul_pos (by omega) (by omega)
  have hbN : decide (0 < D.b.L) = false → (acB D.b).N = 0 := fun z => by
    have := of_decide_eq_false z
    rw [aN]
    exact (vb.z (by omega)).2.2.1
  have hP1 : 0 < (acB D.b).N → 0 < (acB D.b).P := fun z => by
    rcases Nat.lt_or_ge 0 D.b.L with y | y
    · have := vb.l y
      omega
    · have := vb.z (by omega)
      omega
  refine X 200 _ _ _ _ _ _ _ _ _ ?_
  refine And.intro (by first | exact scI (c := 1) h9 hl (by omega) rfl | exact scI (c := 2) h9 hl (by omega) rfl | exact scI (c := 3) h9 hl (by omega) rfl | exact scI (c := 4) h9 hl (by omega) rfl | exact scI (c := 5) h9 hl (by omega) rfl) ?_
  refine k_product X Kt.C G hn2  (fun A1 B1 fc => ?_)
  have hA9 : A1 900 = A 900 := fc.ar 900 (by decide)
  have M1 := Mt.lo fc.lo
  have hbM := M1.bk Dv
  refine And.intro (by first | exact scI (c := 1) h9 hl (by omega) rfl | exact scI (c := 2) h9 hl (by omega) rfl | exact scI (c := 3) h9 hl (by omega) rfl | exact scI (c := 4) h9 hl (by omega) rfl | exact scI (c := 5) h9 hl (by omega) rfl) ?_
  refine r_product X M1.M V (fun I2 A2 B2 M2 f2 => ?_)
  refine And.intro (fun q1 => ?_) (fun q1 => ?_)
  · exact h _ _ _ _ _ D hwf ((Kt.fC fc).hi f2.out) (M1.fM M2 f2) Dv (f2.out 900 (by omega)).1 ((f2.out 900 (by omega)).2.1.trans hA9)
  · first | exact absurd rfl q1 | exact absurd (by rw [hA9]) q1 --end
set_option maxRecDepth 20000 in
theorem law_products {J : mJ} (X : mRules J) {I A : mI} {B : mB} {w f : Nat} {R : mR} {D : Dt} (Kt : KSt I A B D) (Mt : MSt w I A B D) (Dv : DV D) (hwf : w = 44 ∧ f = 45 ∨ w = 45 ∧ f = 44) {i len : Nat} (h9 : I 900 0 = nI len) (hl : len ≤ 3072) (hi : i + 6 ≤ len) (h : lwH J I A i R) : J n_law 654 [.retAddr 0, .ref 0, .ref 43, .int (nI i)] [] I A B (pk w f) R := by
  have Jv := Dv.iv
  have G := Jv.G
  have V := G.V
  have vb : BkV D.b.P D.b.N D.b.K D.b.L D.b.T D.b.m D.b.rw := Dv.b
  have hnn := vb.n vb.K1 vb.K4
  have hn2 : (acB D.b).n ≤ 220 := hnn.1
  have hc6 : ct (fun j => decide (¬ ((acB D.b).so j = 1 ∨ (acB D.b).so j = 2))) (acB D.b).n + 8 ≤ 80 := hnn.2.1
  have hbK := Kt.bk Dv
  have hbM := Mt.bk Dv
  have aN := Jv.N
  have aP := Jv.P
  have hcN := V.cN
  have hN8 := V.N8
  have hD1b : decide (0 < D.b.L) = true → 1 ≤ (acB D.b).P * (acB D.b).N := fun z => by
    have z2 := vb.l (of_decide_eq_true z)
    rw [aN, aP]
    exact Nat.mul_pos (by omega) (by omega)
  have hbN : decide (0 < D.b.L) = false → (acB D.b).N = 0 := fun z => by
    have := of_decide_eq_false z
    rw [aN]
    exact (vb.z (by omega)).2.2.1
  have hP1 : 0 < (acB D.b).N → 0 < (acB D.b).P := fun z => by
    rcases Nat.lt_or_ge 0 D.b.L with y | y
    · have := vb.l y
      omega
    · have := vb.z (by omega)
      omega
  refine X 200 _ _ _ _ _ _ _ _ _ ?_
  refine And.intro (by first | exact scI (c := 1) h9 hl (by omega) rfl | exact scI (c := 2) h9 hl (by omega) rfl | exact scI (c := 3) h9 hl (by omega) rfl | exact scI (c := 4) h9 hl (by omega) rfl | exact scI (c := 5) h9 hl (by omega) rfl) ?_
  refine And.intro (by first | exact scI (c := 1) h9 hl (by omega) rfl | exact scI (c := 2) h9 hl (by omega) rfl | exact scI (c := 3) h9 hl (by omega) rfl | exact scI (c := 4) h9 hl (by omega) rfl | exact scI (c := 5) h9 hl (by omega) rfl) ?_
  refine k_products X Kt.C G hn2  (fun A1 B1 fc => ?_)
  have hA9 : A1 900 = A 900 := fc.ar 900 (by decide)
  have M1 := Mt.lo fc.lo
  have hbM := M1.bk Dv
  refine And.intro (by first | exact scI (c := 1) h9 hl (by omega) rfl | exact scI (c := 2) h9 hl (by omega) rfl | exact scI (c := 3) h9 hl (by omega) rfl | exact scI (c := 4) h9 hl (by omega) rfl | exact scI (c := 5) h9 hl (by omega) rfl) ?_
  refine And.intro (by first | exact scI (c := 1) h9 hl (by omega) rfl | exact scI (c := 2) h9 hl (by omega) rfl | exact scI (c := 3) h9 hl (by omega) rfl | exact scI (c := 4) h9 hl (by omega) rfl | exact scI (c := 5) h9 hl (by omega) rfl) ?_
  refine r_products X M1.M V (fun I2 A2 B2 M2 f2 => ?_)
  refine And.intro (fun q1 => ?_) (fun q1 => ?_)
  · exact h _ _ _ _ _ D hwf ((Kt.fC fc).hi f2.out) (M1.fM M2 f2) Dv (f2.out 900 (by omega)).1 ((f2.out 900 (by omega)).2.1.trans hA9)
  · first | exact absurd rfl q1 | exact absurd (by rw [hA9]) q1 --end
set_option maxRecDepth 20000 in
theorem law_fresh {J : mJ} (X : mRules J) {I A : mI} {B : mB} {w f : Nat} {R : mR} {D : Dt} (Kt : KSt I A B D) (Mt : MSt w I A B D) (Dv : DV D) (hwf : w = 44 ∧ f = 45 ∨ w = 45 ∧ f = 44) {i len : Nat} (h9 : I 900 0 = nI len) (hl : len ≤ 3072) (hi : i + 6 ≤ len) (h : lwH J I A i R) : J n_law 688 [.retAddr 0, .ref 0, .ref 43, .int (nI i)] [] I A B (pk w f) R := by
  have Jv := Dv.iv
  have G := Jv.G
  have V := G.V
  have vb : BkV D.b.P D.b.N D.b.K D.b.L D.b.T D.b.m D.b.rw := Dv.b
  have hnn := vb.n vb.K1 vb.K4
  have hn2 : (acB D.b).n ≤ 220 := hnn.1
  have hc6 : ct (fun j => decide (¬ ((acB D.b).so j = 1 ∨ (acB D.b).so j = 2))) (acB D.b).n + 8 ≤ 80 := hnn.2.1
  have hbK := Kt.bk Dv
  have hbM := Mt.bk Dv
  have aN := Jv.N
  have aP := Jv.P
  have hcN := V.cN
  have hN8 := V.N8
  have hD1b : decide (0 < D.b.L) = true → 1 ≤ (acB D.b).P * (acB D.b).N := fun z => by
    have z2 := vb.l (of_decide_eq_true z)
    rw [aN, aP]
    exact Nat.mul_pos (by omega) (by omega)
  have hbN : decide (0 < D.b.L) = false → (acB D.b).N = 0 := fun z => by
    have := of_decide_eq_false z
    rw [aN]
    exact (vb.z (by omega)).2.2.1
  have hP1 : 0 < (acB D.b).N → 0 < (acB D.b).P := fun z => by
    rcases Nat.lt_or_ge 0 D.b.L with y | y
    · have := vb.l y
      omega
    · have := vb.z (by omega)
      omega
  refine X 200 _ _ _ _ _ _ _ _ _ ?_
  refine And.intro (by first | exact scI (c := 1) h9 hl (by omega) rfl | exact scI (c := 2) h9 hl (by omega) rfl | exact scI (c := 3) h9 hl (by omega) rfl | exact scI (c := 4) h9 hl (by omega) rfl | exact scI (c := 5) h9 hl (by omega) rfl) ?_
  refine k_fresh X Kt.C G hn2  (fun A1 B1 fc => ?_)
  have hA9 : A1 900 = A 900 := fc.ar 900 (by decide)
  have M1 := Mt.lo fc.lo
  have hbM := M1.bk Dv
  refine And.intro (by first | exact scI (c := 1) h9 hl (by omega) rfl | exact scI (c := 2) h9 hl (by omega) rfl | exact scI (c := 3) h9 hl (by omega) rfl | exact scI (c := 4) h9 hl (by omega) rfl | exact scI (c := 5) h9 hl (by omega) rfl) ?_
  refine r_fresh X M1.M V (fun I2 A2 B2 M2 f2 => ?_)
  refine And.intro (fun q1 => ?_) (fun q1 => ?_)
  · exact h _ _ _ _ _ D hwf ((Kt.fC fc).hi f2.out) (M1.fM M2 f2) Dv (f2.out 900 (by omega)).1 ((f2.out 900 (by omega)).2.1.trans hA9)
  · first | exact absurd rfl q1 | exact absurd (by rw [hA9]) q1 --end
set_option maxRecDepth 20000 in
theorem law_booked {J : mJ} (X : mRules J) {I A : mI} {B : mB} {w f : Nat} {R : mR} {D : Dt} (Kt : KSt I A B D) (Mt : MSt w I A B D) (Dv : DV D) (hwf : w = 44 ∧ f = 45 ∨ w = 45 ∧ f = 44) {i len : Nat} (h9 : I 900 0 = nI len) (hl : len ≤ 3072) (hi : i + 6 ≤ len) (h : lwH J I A i R) : J n_law 712 [.retAddr 0, .ref 0, .ref 43, .int (nI i)] [] I A B (pk w f) R := by
  have Jv := Dv.iv
  have G := Jv.G
  have V := G.V
  have vb : BkV D.b.P D.b.N D.b.K D.b.L D.b.T D.b.m D.b.rw := Dv.b
  have hnn := vb.n vb.K1 vb.K4
  have hn2 : (acB D.b).n ≤ 220 := hnn.1
  have hc6 : ct (fun j => decide (¬ ((acB D.b).so j = 1 ∨ (acB D.b).so j = 2))) (acB D.b).n + 8 ≤ 80 := hnn.2.1
  have hbK := Kt.bk Dv
  have hbM := Mt.bk Dv
  have aN := Jv.N
  have aP := Jv.P
  have hcN := V.cN
  have hN8 := V.N8
  have hD1b : decide (0 < D.b.L) = true → 1 ≤ (acB D.b).P * (acB D.b).N := fun z => by
    have z2 := vb.l (of_decide_eq_true z)
    rw [aN, aP]
    exact Nat.mul_pos (by omega) (by omega)
  have hbN : decide (0 < D.b.L) = false → (acB D.b).N = 0 := fun z => by
    have := of_decide_eq_false z
    rw [aN]
    exact (vb.z (by omega)).2.2.1
  have hP1 : 0 < (acB D.b).N → 0 < (acB D.b).P := fun z => by
    rcases Nat.lt_or_ge 0 D.b.L with y | y
    · have := vb.l y
      omega
    · have := vb.z (by omega)
      omega
  refine X 200 _ _ _ _ _ _ _ _ _ ?_
  refine And.intro (by first | exact scI (c := 1) h9 hl (by omega) rfl | exact scI (c := 2) h9 hl (by omega) rfl | exact scI (c := 3) h9 hl (by omega) rfl | exact scI (c := 4) h9 hl (by omega) rfl | exact scI (c := 5) h9 hl (by omega) rfl) ?_
  refine k_booked X Kt.C G hn2  (fun A1 B1 fc => ?_)
  have hA9 : A1 900 = A 900 := fc.ar 900 (by decide)
  have M1 := Mt.lo fc.lo
  have hbM := M1.bk Dv
  refine And.intro (by first | exact scI (c := 1) h9 hl (by omega) rfl | exact scI (c := 2) h9 hl (by omega) rfl | exact scI (c := 3) h9 hl (by omega) rfl | exact scI (c := 4) h9 hl (by omega) rfl | exact scI (c := 5) h9 hl (by omega) rfl) ?_
  refine r_booked X M1.M V (fun I2 A2 B2 M2 f2 => ?_)
  refine And.intro (fun q1 => ?_) (fun q1 => ?_)
  · exact h _ _ _ _ _ D hwf ((Kt.fC fc).hi f2.out) (M1.fM M2 f2) Dv (f2.out 900 (by omega)).1 ((f2.out 900 (by omega)).2.1.trans hA9)
  · first | exact absurd rfl q1 | exact absurd (by rw [hA9]) q1 --end
set_option maxRecDepth 20000 in
theorem law_wrong {J : mJ} (X : mRules J) {I A : mI} {B : mB} {w f : Nat} {R : mR} {D : Dt} (Kt : KSt I A B D) (Mt : MSt w I A B D) (Dv : DV D) (hwf : w = 44 ∧ f = 45 ∨ w = 45 ∧ f = 44) {i len : Nat} (h9 : I 900 0 = nI len) (hl : len ≤ 3072) (hi : i + 6 ≤ len) (h : lwH J I A i R) : J n_law 736 [.retAddr 0, .ref 0, .ref 43, .int (nI i)] [] I A B (pk w f) R := by
  have Jv := Dv.iv
  have G := Jv.G
  have V := G.V
  have vb : BkV D.b.P D.b.N D.b.K D.b.L D.b.T D.b.m D.b.rw := Dv.b
  have hnn := vb.n vb.K1 vb.K4
  have hn2 : (acB D.b).n ≤ 220 := hnn.1
  have hc6 : ct (fun j => decide (¬ ((acB D.b).so j = 1 ∨ (acB D.b).so j = 2))) (acB D.b).n + 8 ≤ 80 := hnn.2.1
  have hbK := Kt.bk Dv
  have hbM := Mt.bk Dv
  have aN := Jv.N
  have aP := Jv.P
  have hcN := V.cN
  have hN8 := V.N8
  have hD1b : decide (0 < D.b.L) = true → 1 ≤ (acB D.b).P * (acB D.b).N := fun z => by
    have z2 := vb.l (of_decide_eq_true z)
    rw [aN, aP]
    exact Nat.mul_pos (by omega) (by omega)
  have hbN : decide (0 < D.b.L) = false → (acB D.b).N = 0 := fun z => by
    have := of_decide_eq_false z
    rw [aN]
    exact (vb.z (by omega)).2.2.1
  have hP1 : 0 < (acB D.b).N → 0 < (acB D.b).P := fun z => by
    rcases Nat.lt_or_ge 0 D.b.L with y | y
    · have := vb.l y
      omega
    · have := vb.z (by omega)
      omega
  refine X 200 _ _ _ _ _ _ _ _ _ ?_
  refine And.intro (by first | exact scI (c := 1) h9 hl (by omega) rfl | exact scI (c := 2) h9 hl (by omega) rfl | exact scI (c := 3) h9 hl (by omega) rfl | exact scI (c := 4) h9 hl (by omega) rfl | exact scI (c := 5) h9 hl (by omega) rfl) ?_
  refine k_wrong X Kt.C G hn2  (fun A1 B1 fc => ?_)
  have hA9 : A1 900 = A 900 := fc.ar 900 (by decide)
  have M1 := Mt.lo fc.lo
  have hbM := M1.bk Dv
  refine And.intro (by first | exact scI (c := 1) h9 hl (by omega) rfl | exact scI (c := 2) h9 hl (by omega) rfl | exact scI (c := 3) h9 hl (by omega) rfl | exact scI (c := 4) h9 hl (by omega) rfl | exact scI (c := 5) h9 hl (by omega) rfl) ?_
  refine r_wrong X M1.M V (fun I2 A2 B2 M2 f2 => ?_)
  refine And.intro (fun q1 => ?_) (fun q1 => ?_)
  · exact h _ _ _ _ _ D hwf ((Kt.fC fc).hi f2.out) (M1.fM M2 f2) Dv (f2.out 900 (by omega)).1 ((f2.out 900 (by omega)).2.1.trans hA9)
  · first | exact absurd rfl q1 | exact absurd (by rw [hA9]) q1 --end
set_option maxRecDepth 20000 in
theorem law_compounds {J : mJ} (X : mRules J) {I A : mI} {B : mB} {w f : Nat} {R : mR} {D : Dt} (Kt : KSt I A B D) (Mt : MSt w I A B D) (Dv : DV D) (hwf : w = 44 ∧ f = 45 ∨ w = 45 ∧ f = 44) {i len : Nat} (h9 : I 900 0 = nI len) (hl : len ≤ 3072) (hi : i + 6 ≤ len) (h : lwH J I A i R) : J n_law 760 [.retAddr 0, .ref 0, .ref 43, .int (nI i)] [] I A B (pk w f) R := by
  have Jv := Dv.iv
  have G := Jv.G
  have V := G.V
  have vb : BkV D.b.P D.b.N D.b.K D.b.L D.b.T D.b.m D.b.rw := Dv.b
  have hnn := vb.n vb.K1 vb.K4
  have hn2 : (acB D.b).n ≤ 220 := hnn.1
  have hc6 : ct (fun j => decide (¬ ((acB D.b).so j = 1 ∨ (acB D.b).so j = 2))) (acB D.b).n + 8 ≤ 80 := hnn.2.1
  have hbK := Kt.bk Dv
  have hbM := Mt.bk Dv
  have aN := Jv.N
  have aP := Jv.P
  have hcN := V.cN
  have hN8 := V.N8
  have hD1b : decide (0 < D.b.L) = true → 1 ≤ (acB D.b).P * (acB D.b).N := fun z => by
    have z2 := vb.l (of_decide_eq_true z)
    rw [aN, aP]
    exact Nat.mul_pos (by omega) (by omega)
  have hbN : decide (0 < D.b.L) = false → (acB D.b).N = 0 := fun z => by
    have := of_decide_eq_false z
    rw [aN]
    exact (vb.z (by omega)).2.2.1
  have hP1 : 0 < (acB D.b).N → 0 < (acB D.b).P := fun z => by
    rcases Nat.lt_or_ge 0 D.b.L with y | y
    · have := vb.l y
      omega
    · have := vb.z (by omega)
      omega
  refine X 200 _ _ _ _ _ _ _ _ _ ?_
  refine And.intro (by first | exact scI (c := 1) h9 hl (by omega) rfl | exact scI (c := 2) h9 hl (by omega) rfl | exact scI (c := 3) h9 hl (by omega) rfl | exact scI (c := 4) h9 hl (by omega) rfl | exact scI (c := 5) h9 hl (by omega) rfl) ?_
  refine k_comp X Kt.C G hn2  (fun A1 B1 fc => ?_)
  have hA9 : A1 900 = A 900 := fc.ar 900 (by decide)
  have M1 := Mt.lo fc.lo
  have hbM := M1.bk Dv
  refine And.intro (by first | exact scI (c := 1) h9 hl (by omega) rfl | exact scI (c := 2) h9 hl (by omega) rfl | exact scI (c := 3) h9 hl (by omega) rfl | exact scI (c := 4) h9 hl (by omega) rfl | exact scI (c := 5) h9 hl (by omega) rfl) ?_
  refine r_comp X M1.M V (fun I2 A2 B2 M2 f2 => ?_)
  refine And.intro (fun q1 => ?_) (fun q1 => ?_)
  · exact h _ _ _ _ _ D hwf ((Kt.fC fc).hi f2.out) (M1.fM M2 f2) Dv (f2.out 900 (by omega)).1 ((f2.out 900 (by omega)).2.1.trans hA9)
  · first | exact absurd rfl q1 | exact absurd (by rw [hA9]) q1 --end
set_option maxRecDepth 20000 in
theorem law_page {J : mJ} (X : mRules J) {I A : mI} {B : mB} {w f : Nat} {R : mR} {D : Dt} (Kt : KSt I A B D) (Mt : MSt w I A B D) (Dv : DV D) (hwf : w = 44 ∧ f = 45 ∨ w = 45 ∧ f = 44) {i len : Nat} (h9 : I 900 0 = nI len) (hl : len ≤ 3072) (hi : i + 6 ≤ len) (h : lwH J I A i R) : J n_law 783 [.retAddr 0, .ref 0, .ref 43, .int (nI i)] [] I A B (pk w f) R := by
  have Jv := Dv.iv
  have G := Jv.G
  have V := G.V
  have vb : BkV D.b.P D.b.N D.b.K D.b.L D.b.T D.b.m D.b.rw := Dv.b
  have hnn := vb.n vb.K1 vb.K4
  have hn2 : (acB D.b).n ≤ 220 := hnn.1
  have hc6 : ct (fun j => decide (¬ ((acB D.b).so j = 1 ∨ (acB D.b).so j = 2))) (acB D.b).n + 8 ≤ 80 := hnn.2.1
  have hbK := Kt.bk Dv
  have hbM := Mt.bk Dv
  have aN := Jv.N
  have aP := Jv.P
  have hcN := V.cN
  have hN8 := V.N8
  have hD1b : decide (0 < D.b.L) = true → 1 ≤ (acB D.b).P * (acB D.b).N := fun z => by
    have z2 := vb.l (of_decide_eq_true z)
    rw [aN, aP]
    exact Nat.mul_pos (by omega) (by omega)
  have hbN : decide (0 < D.b.L) = false → (acB D.b).N = 0 := fun z => by
    have := of_decide_eq_false z
    rw [aN]
    exact (vb.z (by omega)).2.2.1
  have hP1 : 0 < (acB D.b).N → 0 < (acB D.b).P := fun z => by
    rcases Nat.lt_or_ge 0 D.b.L with y | y
    · have := vb.l y
      omega
    · have := vb.z (by omega)
      omega
  refine X 200 _ _ _ _ _ _ _ _ _ ?_
  refine And.intro (by first | exact scI (c := 1) h9 hl (by omega) rfl | exact scI (c := 2) h9 hl (by omega) rfl | exact scI (c := 3) h9 hl (by omega) rfl | exact scI (c := 4) h9 hl (by omega) rfl | exact scI (c := 5) h9 hl (by omega) rfl) ?_
  refine And.intro (by first | exact scI (c := 1) h9 hl (by omega) rfl | exact scI (c := 2) h9 hl (by omega) rfl | exact scI (c := 3) h9 hl (by omega) rfl | exact scI (c := 4) h9 hl (by omega) rfl | exact scI (c := 5) h9 hl (by omega) rfl) ?_
  refine k_page X Kt.C G hn2 Jv.va (fun A1 B1 fc => ?_)
  have hA9 : A1 900 = A 900 := fc.ar 900 (by decide)
  have M1 := Mt.lo fc.lo
  have hbM := M1.bk Dv
  refine And.intro (by first | exact scI (c := 1) h9 hl (by omega) rfl | exact scI (c := 2) h9 hl (by omega) rfl | exact scI (c := 3) h9 hl (by omega) rfl | exact scI (c := 4) h9 hl (by omega) rfl | exact scI (c := 5) h9 hl (by omega) rfl) ?_
  refine And.intro (by first | exact scI (c := 1) h9 hl (by omega) rfl | exact scI (c := 2) h9 hl (by omega) rfl | exact scI (c := 3) h9 hl (by omega) rfl | exact scI (c := 4) h9 hl (by omega) rfl | exact scI (c := 5) h9 hl (by omega) rfl) ?_
  refine r_page X M1.M V (fun I2 A2 B2 M2 f2 => ?_)
  refine And.intro (fun q1 => ?_) (fun q1 => ?_)
  · exact h _ _ _ _ _ D hwf ((Kt.fC fc).hi f2.out) (M1.fM M2 f2) Dv (f2.out 900 (by omega)).1 ((f2.out 900 (by omega)).2.1.trans hA9)
  · first | exact absurd rfl q1 | exact absurd (by rw [hA9]) q1 --end
set_option maxRecDepth 20000 in
theorem law_line {J : mJ} (X : mRules J) {I A : mI} {B : mB} {w f : Nat} {R : mR} {D : Dt} (Kt : KSt I A B D) (Mt : MSt w I A B D) (Dv : DV D) (hwf : w = 44 ∧ f = 45 ∨ w = 45 ∧ f = 44) {i len : Nat} (h9 : I 900 0 = nI len) (hl : len ≤ 3072) (hi : i + 6 ≤ len) (h : lwH J I A i R) : J n_law 817 [.retAddr 0, .ref 0, .ref 43, .int (nI i)] [] I A B (pk w f) R := by
  have Jv := Dv.iv
  have G := Jv.G
  have V := G.V
  have vb : BkV D.b.P D.b.N D.b.K D.b.L D.b.T D.b.m D.b.rw := Dv.b
  have hnn := vb.n vb.K1 vb.K4
  have hn2 : (acB D.b).n ≤ 220 := hnn.1
  have hc6 : ct (fun j => decide (¬ ((acB D.b).so j = 1 ∨ (acB D.b).so j = 2))) (acB D.b).n + 8 ≤ 80 := hnn.2.1
  have hbK := Kt.bk Dv
  have hbM := Mt.bk Dv
  have aN := Jv.N
  have aP := Jv.P
  have hcN := V.cN
  have hN8 := V.N8
  have hD1b : decide (0 < D.b.L) = true → 1 ≤ (acB D.b).P * (acB D.b).N := fun z => by
    have z2 := vb.l (of_decide_eq_true z)
    rw [aN, aP]
    exact Nat.mul_pos (by omega) (by omega)
  have hbN : decide (0 < D.b.L) = false → (acB D.b).N = 0 := fun z => by
    have := of_decide_eq_false z
    rw [aN]
    exact (vb.z (by omega)).2.2.1
  have hP1 : 0 < (acB D.b).N → 0 < (acB D.b).P := fun z => by
    rcases Nat.lt_or_ge 0 D.b.L with y | y
    · have := vb.l y
      omega
    · have := vb.z (by omega)
      omega
  refine X 200 _ _ _ _ _ _ _ _ _ ?_
  refine And.intro (by first | exact scI (c := 1) h9 hl (by omega) rfl | exact scI (c := 2) h9 hl (by omega) rfl | exact scI (c := 3) h9 hl (by omega) rfl | exact scI (c := 4) h9 hl (by omega) rfl | exact scI (c := 5) h9 hl (by omega) rfl) ?_
  refine And.intro (by first | exact scI (c := 1) h9 hl (by omega) rfl | exact scI (c := 2) h9 hl (by omega) rfl | exact scI (c := 3) h9 hl (by omega) rfl | exact scI (c := 4) h9 hl (by omega) rfl | exact scI (c := 5) h9 hl (by omega) rfl) ?_
  refine k_line X Kt.C G hn2  (fun A1 B1 fc => ?_)
  have hA9 : A1 900 = A 900 := fc.ar 900 (by decide)
  have M1 := Mt.lo fc.lo
  have hbM := M1.bk Dv
  refine And.intro (by first | exact scI (c := 1) h9 hl (by omega) rfl | exact scI (c := 2) h9 hl (by omega) rfl | exact scI (c := 3) h9 hl (by omega) rfl | exact scI (c := 4) h9 hl (by omega) rfl | exact scI (c := 5) h9 hl (by omega) rfl) ?_
  refine And.intro (by first | exact scI (c := 1) h9 hl (by omega) rfl | exact scI (c := 2) h9 hl (by omega) rfl | exact scI (c := 3) h9 hl (by omega) rfl | exact scI (c := 4) h9 hl (by omega) rfl | exact scI (c := 5) h9 hl (by omega) rfl) ?_
  refine r_line X M1.M V (fun I2 A2 B2 M2 f2 => ?_)
  refine And.intro (fun q1 => ?_) (fun q1 => ?_)
  · exact h _ _ _ _ _ D hwf ((Kt.fC fc).hi f2.out) (M1.fM M2 f2) Dv (f2.out 900 (by omega)).1 ((f2.out 900 (by omega)).2.1.trans hA9)
  · first | exact absurd rfl q1 | exact absurd (by rw [hA9]) q1 --end
set_option maxRecDepth 20000 in
theorem law_steps {J : mJ} (X : mRules J) {I A : mI} {B : mB} {w f : Nat} {R : mR} {D : Dt} (Kt : KSt I A B D) (Mt : MSt w I A B D) (Dv : DV D) (hwf : w = 44 ∧ f = 45 ∨ w = 45 ∧ f = 44) {i len : Nat} (h9 : I 900 0 = nI len) (hl : len ≤ 3072) (hi : i + 6 ≤ len) (h : lwH J I A i R) : J n_law 850 [.retAddr 0, .ref 0, .ref 43, .int (nI i)] [] I A B (pk w f) R := by
  have Jv := Dv.iv
  have G := Jv.G
  have V := G.V
  have vb : BkV D.b.P D.b.N D.b.K D.b.L D.b.T D.b.m D.b.rw := Dv.b
  have hnn := vb.n vb.K1 vb.K4
  have hn2 : (acB D.b).n ≤ 220 := hnn.1
  have hc6 : ct (fun j => decide (¬ ((acB D.b).so j = 1 ∨ (acB D.b).so j = 2))) (acB D.b).n + 8 ≤ 80 := hnn.2.1
  have hbK := Kt.bk Dv
  have hbM := Mt.bk Dv
  have aN := Jv.N
  have aP := Jv.P
  have hcN := V.cN
  have hN8 := V.N8
  have hD1b : decide (0 < D.b.L) = true → 1 ≤ (acB D.b).P * (acB D.b).N := fun z => by
    have z2 := vb.l (of_decide_eq_true z)
    rw [aN, aP]
    exact Nat.mul_pos (by omega) (by omega)
  have hbN : decide (0 < D.b.L) = false → (acB D.b).N = 0 := fun z => by
    have := of_decide_eq_false z
    rw [aN]
    exact (vb.z (by omega)).2.2.1
  have hP1 : 0 < (acB D.b).N → 0 < (acB D.b).P := fun z => by
    rcases Nat.lt_or_ge 0 D.b.L with y | y
    · have := vb.l y
      omega
    · have := vb.z (by omega)
      omega
  refine X 200 _ _ _ _ _ _ _ _ _ ?_
  refine k_steps X Kt.C G hn2 hbK hD1b (fun A1 B1 fc => ?_)
  have hA9 : A1 900 = A 900 := fc.ar 900 (by decide)
  have M1 := Mt.lo fc.lo
  have hbM := M1.bk Dv
  refine r_steps X M1.M V hbM hD1b (fun I2 A2 B2 M2 f2 => ?_)
  refine And.intro (fun q1 => ?_) (fun q1 => ?_)
  · exact h _ _ _ _ _ D hwf ((Kt.fC fc).hi f2.out) (M1.fM M2 f2) Dv (f2.out 900 (by omega)).1 ((f2.out 900 (by omega)).2.1.trans hA9)
  · first | exact absurd rfl q1 | exact absurd (by rw [hA9]) q1 --end
set_option maxRecDepth 20000 in
theorem law_step {J : mJ} (X : mRules J) {I A : mI} {B : mB} {w f : Nat} {R : mR} {D : Dt} (Kt : KSt I A B D) (Mt : MSt w I A B D) (Dv : DV D) (hwf : w = 44 ∧ f = 45 ∨ w = 45 ∧ f = 44) {i len : Nat} (h9 : I 900 0 = nI len) (hl : len ≤ 3072) (hi : i + 6 ≤ len) (h : lwH J I A i R) : J n_law 863 [.retAddr 0, .ref 0, .ref 43, .int (nI i)] [] I A B (pk w f) R := by
  have Jv := Dv.iv
  have G := Jv.G
  have V := G.V
  have vb : BkV D.b.P D.b.N D.b.K D.b.L D.b.T D.b.m D.b.rw := Dv.b
  have hnn := vb.n vb.K1 vb.K4
  have hn2 : (acB D.b).n ≤ 220 := hnn.1
  have hc6 : ct (fun j => decide (¬ ((acB D.b).so j = 1 ∨ (acB D.b).so j = 2))) (acB D.b).n + 8 ≤ 80 := hnn.2.1
  have hbK := Kt.bk Dv
  have hbM := Mt.bk Dv
  have aN := Jv.N
  have aP := Jv.P
  have hcN := V.cN
  have hN8 := V.N8
  have hD1b : decide (0 < D.b.L) = true → 1 ≤ (acB D.b).P * (acB D.b).N := fun z => by
    have z2 := vb.l (of_decide_eq_true z)
    rw [aN, aP]
    exact Nat.mul_pos (by omega) (by omega)
  have hbN : decide (0 < D.b.L) = false → (acB D.b).N = 0 := fun z => by
    have := of_decide_eq_false z
    rw [aN]
    exact (vb.z (by omega)).2.2.1
  have hP1 : 0 < (acB D.b).N → 0 < (acB D.b).P := fun z => by
    rcases Nat.lt_or_ge 0 D.b.L with y | y
    · have := vb.l y
      omega
    · have := vb.z (by omega)
      omega
  refine X 200 _ _ _ _ _ _ _ _ _ ?_
  refine And.intro (by first | exact scI (c := 1) h9 hl (by omega) rfl | exact scI (c := 2) h9 hl (by omega) rfl | exact scI (c := 3) h9 hl (by omega) rfl | exact scI (c := 4) h9 hl (by omega) rfl | exact scI (c := 5) h9 hl (by omega) rfl) ?_
  refine k_step X Kt.C G hn2 hbK hD1b (fun A1 B1 fc => ?_)
  have hA9 : A1 900 = A 900 := fc.ar 900 (by decide)
  have M1 := Mt.lo fc.lo
  have hbM := M1.bk Dv
  refine And.intro (by first | exact scI (c := 1) h9 hl (by omega) rfl | exact scI (c := 2) h9 hl (by omega) rfl | exact scI (c := 3) h9 hl (by omega) rfl | exact scI (c := 4) h9 hl (by omega) rfl | exact scI (c := 5) h9 hl (by omega) rfl) ?_
  refine r_step X M1.M V hbM hD1b (fun I2 A2 B2 M2 f2 => ?_)
  refine And.intro (fun q1 => ?_) (fun q1 => ?_)
  · exact h _ _ _ _ _ D hwf ((Kt.fC fc).hi f2.out) (M1.fM M2 f2) Dv (f2.out 900 (by omega)).1 ((f2.out 900 (by omega)).2.1.trans hA9)
  · first | exact absurd rfl q1 | exact absurd (by rw [hA9]) q1 --end
set_option maxRecDepth 20000 in
theorem law_lowest {J : mJ} (X : mRules J) {I A : mI} {B : mB} {w f : Nat} {R : mR} {D : Dt} (Kt : KSt I A B D) (Mt : MSt w I A B D) (Dv : DV D) (hwf : w = 44 ∧ f = 45 ∨ w = 45 ∧ f = 44) {i len : Nat} (h9 : I 900 0 = nI len) (hl : len ≤ 3072) (hi : i + 6 ≤ len) (h : lwH J I A i R) : J n_law 886 [.retAddr 0, .ref 0, .ref 43, .int (nI i)] [] I A B (pk w f) R := by
  have Jv := Dv.iv
  have G := Jv.G
  have V := G.V
  have vb : BkV D.b.P D.b.N D.b.K D.b.L D.b.T D.b.m D.b.rw := Dv.b
  have hnn := vb.n vb.K1 vb.K4
  have hn2 : (acB D.b).n ≤ 220 := hnn.1
  have hc6 : ct (fun j => decide (¬ ((acB D.b).so j = 1 ∨ (acB D.b).so j = 2))) (acB D.b).n + 8 ≤ 80 := hnn.2.1
  have hbK := Kt.bk Dv
  have hbM := Mt.bk Dv
  have aN := Jv.N
  have aP := Jv.P
  have hcN := V.cN
  have hN8 := V.N8
  have hD1b : decide (0 < D.b.L) = true → 1 ≤ (acB D.b).P * (acB D.b).N := fun z => by
    have z2 := vb.l (of_decide_eq_true z)
    rw [aN, aP]
    exact Nat.mul_pos (by omega) (by omega)
  have hbN : decide (0 < D.b.L) = false → (acB D.b).N = 0 := fun z => by
    have := of_decide_eq_false z
    rw [aN]
    exact (vb.z (by omega)).2.2.1
  have hP1 : 0 < (acB D.b).N → 0 < (acB D.b).P := fun z => by
    rcases Nat.lt_or_ge 0 D.b.L with y | y
    · have := vb.l y
      omega
    · have := vb.z (by omega)
      omega
  refine X 200 _ _ _ _ _ _ _ _ _ ?_
  refine k_lowest X Kt.C G hn2 hbK hD1b (fun A1 B1 fc => ?_)
  have hA9 : A1 900 = A 900 := fc.ar 900 (by decide)
  have M1 := Mt.lo fc.lo
  have hbM := M1.bk Dv
  refine r_lowest X M1.M V hbM hD1b (fun I2 A2 B2 M2 f2 => ?_)
  refine And.intro (fun q1 => ?_) (fun q1 => ?_)
  · exact h _ _ _ _ _ D hwf ((Kt.fC fc).hi f2.out) (M1.fM M2 f2) Dv (f2.out 900 (by omega)).1 ((f2.out 900 (by omega)).2.1.trans hA9)
  · first | exact absurd rfl q1 | exact absurd (by rw [hA9]) q1 --end
set_option maxRecDepth 20000 in
theorem law_beyond {J : mJ} (X : mRules J) {I A : mI} {B : mB} {w f : Nat} {R : mR} {D : Dt} (Kt : KSt I A B D) (Mt : MSt w I A B D) (Dv : DV D) (hwf : w = 44 ∧ f = 45 ∨ w = 45 ∧ f = 44) {i len : Nat} (h9 : I 900 0 = nI len) (hl : len ≤ 3072) (hi : i + 6 ≤ len) (h : lwH J I A i R) : J n_law 900 [.retAddr 0, .ref 0, .ref 43, .int (nI i)] [] I A B (pk w f) R := by
  have Jv := Dv.iv
  have G := Jv.G
  have V := G.V
  have vb : BkV D.b.P D.b.N D.b.K D.b.L D.b.T D.b.m D.b.rw := Dv.b
  have hnn := vb.n vb.K1 vb.K4
  have hn2 : (acB D.b).n ≤ 220 := hnn.1
  have hc6 : ct (fun j => decide (¬ ((acB D.b).so j = 1 ∨ (acB D.b).so j = 2))) (acB D.b).n + 8 ≤ 80 := hnn.2.1
  have hbK := Kt.bk Dv
  have hbM := Mt.bk Dv
  have aN := Jv.N
  have aP := Jv.P
  have hcN := V.cN
  have hN8 := V.N8
  have hD1b : decide (0 < D.b.L) = true → 1 ≤ (acB D.b).P * (acB D.b).N := fun z => by
    have z2 := vb.l (of_decide_eq_true z)
    rw [aN, aP]
    exact Nat.mul_pos (by omega) (by omega)
  have hbN : decide (0 < D.b.L) = false → (acB D.b).N = 0 := fun z => by
    have := of_decide_eq_false z
    rw [aN]
    exact (vb.z (by omega)).2.2.1
  have hP1 : 0 < (acB D.b).N → 0 < (acB D.b).P := fun z => by
    rcases Nat.lt_or_ge 0 D.b.L with y | y
    · have := vb.l y
      omega
    · have := vb.z (by omega)
      omega
  refine X 200 _ _ _ _ _ _ _ _ _ ?_
  refine k_beyond X Kt.C G hn2 hbK (fun A1 B1 fc => ?_)
  have hA9 : A1 900 = A 900 := fc.ar 900 (by decide)
  have M1 := Mt.lo fc.lo
  have hbM := M1.bk Dv
  refine r_beyond X M1.M V hbM (fun I2 A2 B2 M2 f2 => ?_)
  refine And.intro (fun q1 => ?_) (fun q1 => ?_)
  · exact h _ _ _ _ _ D hwf ((Kt.fC fc).hi f2.out) (M1.fM M2 f2) Dv (f2.out 900 (by omega)).1 ((f2.out 900 (by omega)).2.1.trans hA9)
  · first | exact absurd rfl q1 | exact absurd (by rw [hA9]) q1 --end
set_option maxRecDepth 20000 in
theorem law_firstBeyond {J : mJ} (X : mRules J) {I A : mI} {B : mB} {w f : Nat} {R : mR} {D : Dt} (Kt : KSt I A B D) (Mt : MSt w I A B D) (Dv : DV D) (hwf : w = 44 ∧ f = 45 ∨ w = 45 ∧ f = 44) {i len : Nat} (h9 : I 900 0 = nI len) (hl : len ≤ 3072) (hi : i + 6 ≤ len) (h : lwH J I A i R) : J n_law 913 [.retAddr 0, .ref 0, .ref 43, .int (nI i)] [] I A B (pk w f) R := by
  have Jv := Dv.iv
  have G := Jv.G
  have V := G.V
  have vb : BkV D.b.P D.b.N D.b.K D.b.L D.b.T D.b.m D.b.rw := Dv.b
  have hnn := vb.n vb.K1 vb.K4
  have hn2 : (acB D.b).n ≤ 220 := hnn.1
  have hc6 : ct (fun j => decide (¬ ((acB D.b).so j = 1 ∨ (acB D.b).so j = 2))) (acB D.b).n + 8 ≤ 80 := hnn.2.1
  have hbK := Kt.bk Dv
  have hbM := Mt.bk Dv
  have aN := Jv.N
  have aP := Jv.P
  have hcN := V.cN
  have hN8 := V.N8
  have hD1b : decide (0 < D.b.L) = true → 1 ≤ (acB D.b).P * (acB D.b).N := fun z => by
    have z2 := vb.l (of_decide_eq_true z)
    rw [aN, aP]
    exact Nat.mul_pos (by omega) (by omega)
  have hbN : decide (0 < D.b.L) = false → (acB D.b).N = 0 := fun z => by
    have := of_decide_eq_false z
    rw [aN]
    exact (vb.z (by omega)).2.2.1
  have hP1 : 0 < (acB D.b).N → 0 < (acB D.b).P := fun z => by
    rcases Nat.lt_or_ge 0 D.b.L with y | y
    · have := vb.l y
      omega
    · have := vb.z (by omega)
      omega
  refine X 200 _ _ _ _ _ _ _ _ _ ?_
  refine k_first X Kt.C G hn2 hbK (fun A1 B1 fc => ?_)
  have hA9 : A1 900 = A 900 := fc.ar 900 (by decide)
  have M1 := Mt.lo fc.lo
  have hbM := M1.bk Dv
  refine r_first X M1.M V hbM (fun I2 A2 B2 M2 f2 => ?_)
  refine And.intro (fun q1 => ?_) (fun q1 => ?_)
  · exact h _ _ _ _ _ D hwf ((Kt.fC fc).hi f2.out) (M1.fM M2 f2) Dv (f2.out 900 (by omega)).1 ((f2.out 900 (by omega)).2.1.trans hA9)
  · first | exact absurd rfl q1 | exact absurd (by rw [hA9]) q1 --end
set_option maxRecDepth 20000 in
theorem law_mean {J : mJ} (X : mRules J) {I A : mI} {B : mB} {w f : Nat} {R : mR} {D : Dt} (Kt : KSt I A B D) (Mt : MSt w I A B D) (Dv : DV D) (hwf : w = 44 ∧ f = 45 ∨ w = 45 ∧ f = 44) {i len : Nat} (h9 : I 900 0 = nI len) (hl : len ≤ 3072) (hi : i + 6 ≤ len) (h : lwH J I A i R) : J n_law 926 [.retAddr 0, .ref 0, .ref 43, .int (nI i)] [] I A B (pk w f) R := by
  have Jv := Dv.iv
  have G := Jv.G
  have V := G.V
  have vb : BkV D.b.P D.b.N D.b.K D.b.L D.b.T D.b.m D.b.rw := Dv.b
  have hnn := vb.n vb.K1 vb.K4
  have hn2 : (acB D.b).n ≤ 220 := hnn.1
  have hc6 : ct (fun j => decide (¬ ((acB D.b).so j = 1 ∨ (acB D.b).so j = 2))) (acB D.b).n + 8 ≤ 80 := hnn.2.1
  have hbK := Kt.bk Dv
  have hbM := Mt.bk Dv
  have aN := Jv.N
  have aP := Jv.P
  have hcN := V.cN
  have hN8 := V.N8
  have hD1b : decide (0 < D.b.L) = true → 1 ≤ (acB D.b).P * (acB D.b).N := fun z => by
    have z2 := vb.l (of_decide_eq_true z)
    rw [aN, aP]
    exact Nat.mul_pos (by omega) (by omega)
  have hbN : decide (0 < D.b.L) = false → (acB D.b).N = 0 := fun z => by
    have := of_decide_eq_false z
    rw [aN]
    exact (vb.z (by omega)).2.2.1
  have hP1 : 0 < (acB D.b).N → 0 < (acB D.b).P := fun z => by
    rcases Nat.lt_or_ge 0 D.b.L with y | y
    · have := vb.l y
      omega
    · have := vb.z (by omega)
      omega
  refine X 200 _ _ _ _ _ _ _ _ _ ?_
  refine And.intro (by first | exact scI (c := 1) h9 hl (by omega) rfl | exact scI (c := 2) h9 hl (by omega) rfl | exact scI (c := 3) h9 hl (by omega) rfl | exact scI (c := 4) h9 hl (by omega) rfl | exact scI (c := 5) h9 hl (by omega) rfl) ?_
  refine And.intro (by first | exact scI (c := 1) h9 hl (by omega) rfl | exact scI (c := 2) h9 hl (by omega) rfl | exact scI (c := 3) h9 hl (by omega) rfl | exact scI (c := 4) h9 hl (by omega) rfl | exact scI (c := 5) h9 hl (by omega) rfl) ?_
  refine k_mean X Kt.C G hn2 hP1 (fun A1 B1 fc => ?_)
  have hA9 : A1 900 = A 900 := fc.ar 900 (by decide)
  have M1 := Mt.lo fc.lo
  have hbM := M1.bk Dv
  refine And.intro (by first | exact scI (c := 1) h9 hl (by omega) rfl | exact scI (c := 2) h9 hl (by omega) rfl | exact scI (c := 3) h9 hl (by omega) rfl | exact scI (c := 4) h9 hl (by omega) rfl | exact scI (c := 5) h9 hl (by omega) rfl) ?_
  refine And.intro (by first | exact scI (c := 1) h9 hl (by omega) rfl | exact scI (c := 2) h9 hl (by omega) rfl | exact scI (c := 3) h9 hl (by omega) rfl | exact scI (c := 4) h9 hl (by omega) rfl | exact scI (c := 5) h9 hl (by omega) rfl) ?_
  refine r_mean X M1.M V hP1 (fun I2 A2 B2 M2 f2 => ?_)
  refine And.intro (fun q1 => ?_) (fun q1 => ?_)
  · exact h _ _ _ _ _ D hwf ((Kt.fC fc).hi f2.out) (M1.fM M2 f2) Dv (f2.out 900 (by omega)).1 ((f2.out 900 (by omega)).2.1.trans hA9)
  · first | exact absurd rfl q1 | exact absurd (by rw [hA9]) q1 --end
set_option maxRecDepth 20000 in
theorem law_all {J : mJ} (X : mRules J) {I A : mI} {B : mB} {w f : Nat} {R : mR} {D : Dt} (Kt : KSt I A B D) (Mt : MSt w I A B D) (Dv : DV D) (hwf : w = 44 ∧ f = 45 ∨ w = 45 ∧ f = 44) {i len : Nat} (h9 : I 900 0 = nI len) (hl : len ≤ 3072) (hi : i + 6 ≤ len) (h : lwH J I A i R) : J n_law 960 [.retAddr 0, .ref 0, .ref 43, .int (nI i)] [] I A B (pk w f) R := by
  have Jv := Dv.iv
  have G := Jv.G
  have V := G.V
  have vb : BkV D.b.P D.b.N D.b.K D.b.L D.b.T D.b.m D.b.rw := Dv.b
  have hnn := vb.n vb.K1 vb.K4
  have hn2 : (acB D.b).n ≤ 220 := hnn.1
  have hc6 : ct (fun j => decide (¬ ((acB D.b).so j = 1 ∨ (acB D.b).so j = 2))) (acB D.b).n + 8 ≤ 80 := hnn.2.1
  have hbK := Kt.bk Dv
  have hbM := Mt.bk Dv
  have aN := Jv.N
  have aP := Jv.P
  have hcN := V.cN
  have hN8 := V.N8
  have hD1b : decide (0 < D.b.L) = true → 1 ≤ (acB D.b).P * (acB D.b).N := fun z => by
    have z2 := vb.l (of_decide_eq_true z)
    rw [aN, aP]
    exact Nat.mul_pos (by omega) (by omega)
  have hbN : decide (0 < D.b.L) = false → (acB D.b).N = 0 := fun z => by
    have := of_decide_eq_false z
    rw [aN]
    exact (vb.z (by omega)).2.2.1
  have hP1 : 0 < (acB D.b).N → 0 < (acB D.b).P := fun z => by
    rcases Nat.lt_or_ge 0 D.b.L with y | y
    · have := vb.l y
      omega
    · have := vb.z (by omega)
      omega
  refine X 200 _ _ _ _ _ _ _ _ _ ?_
  refine k_all X Kt.C G hn2 hbK (fun A1 B1 fc => ?_)
  have hA9 : A1 900 = A 900 := fc.ar 900 (by decide)
  have M1 := Mt.lo fc.lo
  have hbM := M1.bk Dv
  refine r_all X M1.M V hbM (fun I2 A2 B2 M2 f2 => ?_)
  refine And.intro (fun q1 => ?_) (fun q1 => ?_)
  · exact h _ _ _ _ _ D hwf ((Kt.fC fc).hi f2.out) (M1.fM M2 f2) Dv (f2.out 900 (by omega)).1 ((f2.out 900 (by omega)).2.1.trans hA9)
  · first | exact absurd rfl q1 | exact absurd (by rw [hA9]) q1 --end
set_option maxRecDepth 20000 in
theorem law_brought {J : mJ} (X : mRules J) {I A : mI} {B : mB} {w f : Nat} {R : mR} {D : Dt} (Kt : KSt I A B D) (Mt : MSt w I A B D) (Dv : DV D) (hwf : w = 44 ∧ f = 45 ∨ w = 45 ∧ f = 44) {i len : Nat} (h9 : I 900 0 = nI len) (hl : len ≤ 3072) (hi : i + 6 ≤ len) (h : lwH J I A i R) : J n_law 974 [.retAddr 0, .ref 0, .ref 43, .int (nI i)] [] I A B (pk w f) R := by
  have Jv := Dv.iv
  have G := Jv.G
  have V := G.V
  have vb : BkV D.b.P D.b.N D.b.K D.b.L D.b.T D.b.m D.b.rw := Dv.b
  have hnn := vb.n vb.K1 vb.K4
  have hn2 : (acB D.b).n ≤ 220 := hnn.1
  have hc6 : ct (fun j => decide (¬ ((acB D.b).so j = 1 ∨ (acB D.b).so j = 2))) (acB D.b).n + 8 ≤ 80 := hnn.2.1
  have hbK := Kt.bk Dv
  have hbM := Mt.bk Dv
  have aN := Jv.N
  have aP := Jv.P
  have hcN := V.cN
  have hN8 := V.N8
  have hD1b : decide (0 < D.b.L) = true → 1 ≤ (acB D.b).P * (acB D.b).N := fun z => by
    have z2 := vb.l (of_decide_eq_true z)
    rw [aN, aP]
    exact Nat.mul_pos (by omega) (by omega)
  have hbN : decide (0 < D.b.L) = false → (acB D.b).N = 0 := fun z => by
    have := of_decide_eq_false z
    rw [aN]
    exact (vb.z (by omega)).2.2.1
  have hP1 : 0 < (acB D.b).N → 0 < (acB D.b).P := fun z => by
    rcases Nat.lt_or_ge 0 D.b.L with y | y
    · have := vb.l y
      omega
    · have := vb.z (by omega)
      omega
  refine X 200 _ _ _ _ _ _ _ _ _ ?_
  refine And.intro (by first | exact scI (c := 1) h9 hl (by omega) rfl | exact scI (c := 2) h9 hl (by omega) rfl | exact scI (c := 3) h9 hl (by omega) rfl | exact scI (c := 4) h9 hl (by omega) rfl | exact scI (c := 5) h9 hl (by omega) rfl) ?_
  refine k_brought X Kt.C G hn2  (fun A1 B1 fc => ?_)
  have hA9 : A1 900 = A 900 := fc.ar 900 (by decide)
  have M1 := Mt.lo fc.lo
  have hbM := M1.bk Dv
  refine And.intro (by first | exact scI (c := 1) h9 hl (by omega) rfl | exact scI (c := 2) h9 hl (by omega) rfl | exact scI (c := 3) h9 hl (by omega) rfl | exact scI (c := 4) h9 hl (by omega) rfl | exact scI (c := 5) h9 hl (by omega) rfl) ?_
  refine r_brought X M1.M V (fun I2 A2 B2 M2 f2 => ?_)
  refine And.intro (fun q1 => ?_) (fun q1 => ?_)
  · exact h _ _ _ _ _ D hwf ((Kt.fC fc).hi f2.out) (M1.fM M2 f2) Dv (f2.out 900 (by omega)).1 ((f2.out 900 (by omega)).2.1.trans hA9)
  · first | exact absurd rfl q1 | exact absurd (by rw [hA9]) q1 --end
set_option maxRecDepth 20000 in
theorem law_moved {J : mJ} (X : mRules J) {I A : mI} {B : mB} {w f : Nat} {R : mR} {D : Dt} (Kt : KSt I A B D) (Mt : MSt w I A B D) (Dv : DV D) (hwf : w = 44 ∧ f = 45 ∨ w = 45 ∧ f = 44) {i len : Nat} (h9 : I 900 0 = nI len) (hl : len ≤ 3072) (hi : i + 6 ≤ len) (h : lwH J I A i R) : J n_law 998 [.retAddr 0, .ref 0, .ref 43, .int (nI i)] [] I A B (pk w f) R := by
  have Jv := Dv.iv
  have G := Jv.G
  have V := G.V
  have vb : BkV D.b.P D.b.N D.b.K D.b.L D.b.T D.b.m D.b.rw := Dv.b
  have hnn := vb.n vb.K1 vb.K4
  have hn2 : (acB D.b).n ≤ 220 := hnn.1
  have hc6 : ct (fun j => decide (¬ ((acB D.b).so j = 1 ∨ (acB D.b).so j = 2))) (acB D.b).n + 8 ≤ 80 := hnn.2.1
  have hbK := Kt.bk Dv
  have hbM := Mt.bk Dv
  have aN := Jv.N
  have aP := Jv.P
  have hcN := V.cN
  have hN8 := V.N8
  have hD1b : decide (0 < D.b.L) = true → 1 ≤ (acB D.b).P * (acB D.b).N := fun z => by
    have z2 := vb.l (of_decide_eq_true z)
    rw [aN, aP]
    exact Nat.mul_pos (by omega) (by omega)
  have hbN : decide (0 < D.b.L) = false → (acB D.b).N = 0 := fun z => by
    have := of_decide_eq_false z
    rw [aN]
    exact (vb.z (by omega)).2.2.1
  have hP1 : 0 < (acB D.b).N → 0 < (acB D.b).P := fun z => by
    rcases Nat.lt_or_ge 0 D.b.L with y | y
    · have := vb.l y
      omega
    · have := vb.z (by omega)
      omega
  refine X 200 _ _ _ _ _ _ _ _ _ ?_
  refine And.intro (by first | exact scI (c := 1) h9 hl (by omega) rfl | exact scI (c := 2) h9 hl (by omega) rfl | exact scI (c := 3) h9 hl (by omega) rfl | exact scI (c := 4) h9 hl (by omega) rfl | exact scI (c := 5) h9 hl (by omega) rfl) ?_
  refine And.intro (by first | exact scI (c := 1) h9 hl (by omega) rfl | exact scI (c := 2) h9 hl (by omega) rfl | exact scI (c := 3) h9 hl (by omega) rfl | exact scI (c := 4) h9 hl (by omega) rfl | exact scI (c := 5) h9 hl (by omega) rfl) ?_
  refine k_moved X Kt.C G hn2  (fun A1 B1 fc => ?_)
  have hA9 : A1 900 = A 900 := fc.ar 900 (by decide)
  have M1 := Mt.lo fc.lo
  have hbM := M1.bk Dv
  refine And.intro (by first | exact scI (c := 1) h9 hl (by omega) rfl | exact scI (c := 2) h9 hl (by omega) rfl | exact scI (c := 3) h9 hl (by omega) rfl | exact scI (c := 4) h9 hl (by omega) rfl | exact scI (c := 5) h9 hl (by omega) rfl) ?_
  refine And.intro (by first | exact scI (c := 1) h9 hl (by omega) rfl | exact scI (c := 2) h9 hl (by omega) rfl | exact scI (c := 3) h9 hl (by omega) rfl | exact scI (c := 4) h9 hl (by omega) rfl | exact scI (c := 5) h9 hl (by omega) rfl) ?_
  refine r_moved X M1.M V (fun I2 A2 B2 M2 f2 => ?_)
  refine And.intro (fun q1 => ?_) (fun q1 => ?_)
  · exact h _ _ _ _ _ D hwf ((Kt.fC fc).hi f2.out) (M1.fM M2 f2) Dv (f2.out 900 (by omega)).1 ((f2.out 900 (by omega)).2.1.trans hA9)
  · first | exact absurd rfl q1 | exact absurd (by rw [hA9]) q1 --end
set_option maxRecDepth 20000 in
theorem law_late {J : mJ} (X : mRules J) {I A : mI} {B : mB} {w f : Nat} {R : mR} {D : Dt} (Kt : KSt I A B D) (Mt : MSt w I A B D) (Dv : DV D) (hwf : w = 44 ∧ f = 45 ∨ w = 45 ∧ f = 44) {i len : Nat} (h9 : I 900 0 = nI len) (hl : len ≤ 3072) (hi : i + 6 ≤ len) (h : lwH J I A i R) : J n_law 1055 [.retAddr 0, .ref 0, .ref 43, .int (nI i)] [] I A B (pk w f) R := by
  have Jv := Dv.iv
  have G := Jv.G
  have V := G.V
  have vb : BkV D.b.P D.b.N D.b.K D.b.L D.b.T D.b.m D.b.rw := Dv.b
  have hnn := vb.n vb.K1 vb.K4
  have hn2 : (acB D.b).n ≤ 220 := hnn.1
  have hc6 : ct (fun j => decide (¬ ((acB D.b).so j = 1 ∨ (acB D.b).so j = 2))) (acB D.b).n + 8 ≤ 80 := hnn.2.1
  have hbK := Kt.bk Dv
  have hbM := Mt.bk Dv
  have aN := Jv.N
  have aP := Jv.P
  have hcN := V.cN
  have hN8 := V.N8
  have hD1b : decide (0 < D.b.L) = true → 1 ≤ (acB D.b).P * (acB D.b).N := fun z => by
    have z2 := vb.l (of_decide_eq_true z)
    rw [aN, aP]
    exact Nat.mul_pos (by omega) (by omega)
  have hbN : decide (0 < D.b.L) = false → (acB D.b).N = 0 := fun z => by
    have := of_decide_eq_false z
    rw [aN]
    exact (vb.z (by omega)).2.2.1
  have hP1 : 0 < (acB D.b).N → 0 < (acB D.b).P := fun z => by
    rcases Nat.lt_or_ge 0 D.b.L with y | y
    · have := vb.l y
      omega
    · have := vb.z (by omega)
      omega
  refine X 200 _ _ _ _ _ _ _ _ _ ?_
  refine And.intro (by first | exact scI (c := 1) h9 hl (by omega) rfl | exact scI (c := 2) h9 hl (by omega) rfl | exact scI (c := 3) h9 hl (by omega) rfl | exact scI (c := 4) h9 hl (by omega) rfl | exact scI (c := 5) h9 hl (by omega) rfl) ?_
  refine And.intro (by first | exact scI (c := 1) h9 hl (by omega) rfl | exact scI (c := 2) h9 hl (by omega) rfl | exact scI (c := 3) h9 hl (by omega) rfl | exact scI (c := 4) h9 hl (by omega) rfl | exact scI (c := 5) h9 hl (by omega) rfl) ?_
  refine k_late X Kt.C G hn2  (fun A1 B1 fc => ?_)
  have hA9 : A1 900 = A 900 := fc.ar 900 (by decide)
  have M1 := Mt.lo fc.lo
  have hbM := M1.bk Dv
  refine And.intro (by first | exact scI (c := 1) h9 hl (by omega) rfl | exact scI (c := 2) h9 hl (by omega) rfl | exact scI (c := 3) h9 hl (by omega) rfl | exact scI (c := 4) h9 hl (by omega) rfl | exact scI (c := 5) h9 hl (by omega) rfl) ?_
  refine And.intro (by first | exact scI (c := 1) h9 hl (by omega) rfl | exact scI (c := 2) h9 hl (by omega) rfl | exact scI (c := 3) h9 hl (by omega) rfl | exact scI (c := 4) h9 hl (by omega) rfl | exact scI (c := 5) h9 hl (by omega) rfl) ?_
  refine r_late X M1.M V (by omega) (fun I2 A2 B2 M2 f2 => ?_)
  refine And.intro (fun q1 => ?_) (fun q1 => ?_)
  · exact h _ _ _ _ _ D hwf ((Kt.fC fc).hi f2.out) (M1.fM M2 f2) Dv (f2.out 900 (by omega)).1 ((f2.out 900 (by omega)).2.1.trans hA9)
  · first | exact absurd rfl q1 | exact absurd (by rw [hA9]) q1 --end
set_option maxRecDepth 20000 in
theorem law_touched {J : mJ} (X : mRules J) {I A : mI} {B : mB} {w f : Nat} {R : mR} {D : Dt} (Kt : KSt I A B D) (Mt : MSt w I A B D) (Dv : DV D) (hwf : w = 44 ∧ f = 45 ∨ w = 45 ∧ f = 44) {i len : Nat} (h9 : I 900 0 = nI len) (hl : len ≤ 3072) (hi : i + 6 ≤ len) (h : lwH J I A i R) : J n_law 1089 [.retAddr 0, .ref 0, .ref 43, .int (nI i)] [] I A B (pk w f) R := by
  have Jv := Dv.iv
  have G := Jv.G
  have V := G.V
  have vb : BkV D.b.P D.b.N D.b.K D.b.L D.b.T D.b.m D.b.rw := Dv.b
  have hnn := vb.n vb.K1 vb.K4
  have hn2 : (acB D.b).n ≤ 220 := hnn.1
  have hc6 : ct (fun j => decide (¬ ((acB D.b).so j = 1 ∨ (acB D.b).so j = 2))) (acB D.b).n + 8 ≤ 80 := hnn.2.1
  have hbK := Kt.bk Dv
  have hbM := Mt.bk Dv
  have aN := Jv.N
  have aP := Jv.P
  have hcN := V.cN
  have hN8 := V.N8
  have hD1b : decide (0 < D.b.L) = true → 1 ≤ (acB D.b).P * (acB D.b).N := fun z => by
    have z2 := vb.l (of_decide_eq_true z)
    rw [aN, aP]
    exact Nat.mul_pos (by omega) (by omega)
  have hbN : decide (0 < D.b.L) = false → (acB D.b).N = 0 := fun z => by
    have := of_decide_eq_false z
    rw [aN]
    exact (vb.z (by omega)).2.2.1
  have hP1 : 0 < (acB D.b).N → 0 < (acB D.b).P := fun z => by
    rcases Nat.lt_or_ge 0 D.b.L with y | y
    · have := vb.l y
      omega
    · have := vb.z (by omega)
      omega
  refine X 200 _ _ _ _ _ _ _ _ _ ?_
  refine And.intro (by first | exact scI (c := 1) h9 hl (by omega) rfl | exact scI (c := 2) h9 hl (by omega) rfl | exact scI (c := 3) h9 hl (by omega) rfl | exact scI (c := 4) h9 hl (by omega) rfl | exact scI (c := 5) h9 hl (by omega) rfl) ?_
  refine And.intro (by first | exact scI (c := 1) h9 hl (by omega) rfl | exact scI (c := 2) h9 hl (by omega) rfl | exact scI (c := 3) h9 hl (by omega) rfl | exact scI (c := 4) h9 hl (by omega) rfl | exact scI (c := 5) h9 hl (by omega) rfl) ?_
  refine k_touched X Kt.C G hn2  (fun A1 B1 fc => ?_)
  have hA9 : A1 900 = A 900 := fc.ar 900 (by decide)
  have M1 := Mt.lo fc.lo
  have hbM := M1.bk Dv
  refine And.intro (by first | exact scI (c := 1) h9 hl (by omega) rfl | exact scI (c := 2) h9 hl (by omega) rfl | exact scI (c := 3) h9 hl (by omega) rfl | exact scI (c := 4) h9 hl (by omega) rfl | exact scI (c := 5) h9 hl (by omega) rfl) ?_
  refine And.intro (by first | exact scI (c := 1) h9 hl (by omega) rfl | exact scI (c := 2) h9 hl (by omega) rfl | exact scI (c := 3) h9 hl (by omega) rfl | exact scI (c := 4) h9 hl (by omega) rfl | exact scI (c := 5) h9 hl (by omega) rfl) ?_
  refine r_touched X M1.M V (by omega) (fun I2 A2 B2 M2 f2 => ?_)
  refine And.intro (fun q1 => ?_) (fun q1 => ?_)
  · exact h _ _ _ _ _ D hwf ((Kt.fC fc).hi f2.out) (M1.fM M2 f2) Dv (f2.out 900 (by omega)).1 ((f2.out 900 (by omega)).2.1.trans hA9)
  · first | exact absurd rfl q1 | exact absurd (by rw [hA9]) q1 --end
set_option maxRecDepth 20000 in
theorem law_tilted {J : mJ} (X : mRules J) {I A : mI} {B : mB} {w f : Nat} {R : mR} {D : Dt} (Kt : KSt I A B D) (Mt : MSt w I A B D) (Dv : DV D) (hwf : w = 44 ∧ f = 45 ∨ w = 45 ∧ f = 44) {i len : Nat} (h9 : I 900 0 = nI len) (hl : len ≤ 3072) (hi : i + 6 ≤ len) (h : lwH J I A i R) : J n_law 1122 [.retAddr 0, .ref 0, .ref 43, .int (nI i)] [] I A B (pk w f) R := by
  have Jv := Dv.iv
  have G := Jv.G
  have V := G.V
  have vb : BkV D.b.P D.b.N D.b.K D.b.L D.b.T D.b.m D.b.rw := Dv.b
  have hnn := vb.n vb.K1 vb.K4
  have hn2 : (acB D.b).n ≤ 220 := hnn.1
  have hc6 : ct (fun j => decide (¬ ((acB D.b).so j = 1 ∨ (acB D.b).so j = 2))) (acB D.b).n + 8 ≤ 80 := hnn.2.1
  have hbK := Kt.bk Dv
  have hbM := Mt.bk Dv
  have aN := Jv.N
  have aP := Jv.P
  have hcN := V.cN
  have hN8 := V.N8
  have hD1b : decide (0 < D.b.L) = true → 1 ≤ (acB D.b).P * (acB D.b).N := fun z => by
    have z2 := vb.l (of_decide_eq_true z)
    rw [aN, aP]
    exact Nat.mul_pos (by omega) (by omega)
  have hbN : decide (0 < D.b.L) = false → (acB D.b).N = 0 := fun z => by
    have := of_decide_eq_false z
    rw [aN]
    exact (vb.z (by omega)).2.2.1
  have hP1 : 0 < (acB D.b).N → 0 < (acB D.b).P := fun z => by
    rcases Nat.lt_or_ge 0 D.b.L with y | y
    · have := vb.l y
      omega
    · have := vb.z (by omega)
      omega
  refine X 200 _ _ _ _ _ _ _ _ _ ?_
  refine And.intro (by first | exact scI (c := 1) h9 hl (by omega) rfl | exact scI (c := 2) h9 hl (by omega) rfl | exact scI (c := 3) h9 hl (by omega) rfl | exact scI (c := 4) h9 hl (by omega) rfl | exact scI (c := 5) h9 hl (by omega) rfl) ?_
  refine And.intro (by first | exact scI (c := 1) h9 hl (by omega) rfl | exact scI (c := 2) h9 hl (by omega) rfl | exact scI (c := 3) h9 hl (by omega) rfl | exact scI (c := 4) h9 hl (by omega) rfl | exact scI (c := 5) h9 hl (by omega) rfl) ?_
  refine k_tilted X Kt.C G hn2  (fun A1 B1 fc => ?_)
  have hA9 : A1 900 = A 900 := fc.ar 900 (by decide)
  have M1 := Mt.lo fc.lo
  have hbM := M1.bk Dv
  refine And.intro (by first | exact scI (c := 1) h9 hl (by omega) rfl | exact scI (c := 2) h9 hl (by omega) rfl | exact scI (c := 3) h9 hl (by omega) rfl | exact scI (c := 4) h9 hl (by omega) rfl | exact scI (c := 5) h9 hl (by omega) rfl) ?_
  refine And.intro (by first | exact scI (c := 1) h9 hl (by omega) rfl | exact scI (c := 2) h9 hl (by omega) rfl | exact scI (c := 3) h9 hl (by omega) rfl | exact scI (c := 4) h9 hl (by omega) rfl | exact scI (c := 5) h9 hl (by omega) rfl) ?_
  refine r_tilted X M1.M V G.no1 (fun I2 A2 B2 M2 f2 => ?_)
  refine And.intro (fun q1 => ?_) (fun q1 => ?_)
  · exact h _ _ _ _ _ D hwf ((Kt.fC fc).hi f2.out) (M1.fM M2 f2) Dv (f2.out 900 (by omega)).1 ((f2.out 900 (by omega)).2.1.trans hA9)
  · first | exact absurd rfl q1 | exact absurd (by rw [hA9]) q1 --end
set_option maxRecDepth 20000 in
theorem law_limited {J : mJ} (X : mRules J) {I A : mI} {B : mB} {w f : Nat} {R : mR} {D : Dt} (Kt : KSt I A B D) (Mt : MSt w I A B D) (Dv : DV D) (hwf : w = 44 ∧ f = 45 ∨ w = 45 ∧ f = 44) {i len : Nat} (h9 : I 900 0 = nI len) (hl : len ≤ 3072) (hi : i + 6 ≤ len) (h : lwH J I A i R) : J n_law 1156 [.retAddr 0, .ref 0, .ref 43, .int (nI i)] [] I A B (pk w f) R := by
  have Jv := Dv.iv
  have G := Jv.G
  have V := G.V
  have vb : BkV D.b.P D.b.N D.b.K D.b.L D.b.T D.b.m D.b.rw := Dv.b
  have hnn := vb.n vb.K1 vb.K4
  have hn2 : (acB D.b).n ≤ 220 := hnn.1
  have hc6 : ct (fun j => decide (¬ ((acB D.b).so j = 1 ∨ (acB D.b).so j = 2))) (acB D.b).n + 8 ≤ 80 := hnn.2.1
  have hbK := Kt.bk Dv
  have hbM := Mt.bk Dv
  have aN := Jv.N
  have aP := Jv.P
  have hcN := V.cN
  have hN8 := V.N8
  have hD1b : decide (0 < D.b.L) = true → 1 ≤ (acB D.b).P * (acB D.b).N := fun z => by
    have z2 := vb.l (of_decide_eq_true z)
    rw [aN, aP]
    exact Nat.mul_pos (by omega) (by omega)
  have hbN : decide (0 < D.b.L) = false → (acB D.b).N = 0 := fun z => by
    have := of_decide_eq_false z
    rw [aN]
    exact (vb.z (by omega)).2.2.1
  have hP1 : 0 < (acB D.b).N → 0 < (acB D.b).P := fun z => by
    rcases Nat.lt_or_ge 0 D.b.L with y | y
    · have := vb.l y
      omega
    · have := vb.z (by omega)
      omega
  refine X 200 _ _ _ _ _ _ _ _ _ ?_
  refine And.intro (by first | exact scI (c := 1) h9 hl (by omega) rfl | exact scI (c := 2) h9 hl (by omega) rfl | exact scI (c := 3) h9 hl (by omega) rfl | exact scI (c := 4) h9 hl (by omega) rfl | exact scI (c := 5) h9 hl (by omega) rfl) ?_
  refine k_limited X Kt.C G hn2 hbK (fun A1 B1 fc => ?_)
  have hA9 : A1 900 = A 900 := fc.ar 900 (by decide)
  have M1 := Mt.lo fc.lo
  have hbM := M1.bk Dv
  refine And.intro (by first | exact scI (c := 1) h9 hl (by omega) rfl | exact scI (c := 2) h9 hl (by omega) rfl | exact scI (c := 3) h9 hl (by omega) rfl | exact scI (c := 4) h9 hl (by omega) rfl | exact scI (c := 5) h9 hl (by omega) rfl) ?_
  refine r_limited X M1.M V hbM G.no2 (fun I2 A2 B2 M2 f2 => ?_)
  refine And.intro (fun q1 => ?_) (fun q1 => ?_)
  · exact h _ _ _ _ _ D hwf ((Kt.fC fc).hi f2.out) (M1.fM M2 f2) Dv (f2.out 900 (by omega)).1 ((f2.out 900 (by omega)).2.1.trans hA9)
  · first | exact absurd rfl q1 | exact absurd (by rw [hA9]) q1 --end
set_option maxRecDepth 20000 in
theorem law_most {J : mJ} (X : mRules J) {I A : mI} {B : mB} {w f : Nat} {R : mR} {D : Dt} (Kt : KSt I A B D) (Mt : MSt w I A B D) (Dv : DV D) (hwf : w = 44 ∧ f = 45 ∨ w = 45 ∧ f = 44) {i len : Nat} (h9 : I 900 0 = nI len) (hl : len ≤ 3072) (hi : i + 6 ≤ len) (h : lwH J I A i R) : J n_law 1180 [.retAddr 0, .ref 0, .ref 43, .int (nI i)] [] I A B (pk w f) R := by
  have Jv := Dv.iv
  have G := Jv.G
  have V := G.V
  have vb : BkV D.b.P D.b.N D.b.K D.b.L D.b.T D.b.m D.b.rw := Dv.b
  have hnn := vb.n vb.K1 vb.K4
  have hn2 : (acB D.b).n ≤ 220 := hnn.1
  have hc6 : ct (fun j => decide (¬ ((acB D.b).so j = 1 ∨ (acB D.b).so j = 2))) (acB D.b).n + 8 ≤ 80 := hnn.2.1
  have hbK := Kt.bk Dv
  have hbM := Mt.bk Dv
  have aN := Jv.N
  have aP := Jv.P
  have hcN := V.cN
  have hN8 := V.N8
  have hD1b : decide (0 < D.b.L) = true → 1 ≤ (acB D.b).P * (acB D.b).N := fun z => by
    have z2 := vb.l (of_decide_eq_true z)
    rw [aN, aP]
    exact Nat.mul_pos (by omega) (by omega)
  have hbN : decide (0 < D.b.L) = false → (acB D.b).N = 0 := fun z => by
    have := of_decide_eq_false z
    rw [aN]
    exact (vb.z (by omega)).2.2.1
  have hP1 : 0 < (acB D.b).N → 0 < (acB D.b).P := fun z => by
    rcases Nat.lt_or_ge 0 D.b.L with y | y
    · have := vb.l y
      omega
    · have := vb.z (by omega)
      omega
  refine X 200 _ _ _ _ _ _ _ _ _ ?_
  refine And.intro (by first | exact scI (c := 1) h9 hl (by omega) rfl | exact scI (c := 2) h9 hl (by omega) rfl | exact scI (c := 3) h9 hl (by omega) rfl | exact scI (c := 4) h9 hl (by omega) rfl | exact scI (c := 5) h9 hl (by omega) rfl) ?_
  refine k_most X Kt.C G hn2  (fun A1 B1 fc => ?_)
  have hA9 : A1 900 = A 900 := fc.ar 900 (by decide)
  have M1 := Mt.lo fc.lo
  have hbM := M1.bk Dv
  refine And.intro (by first | exact scI (c := 1) h9 hl (by omega) rfl | exact scI (c := 2) h9 hl (by omega) rfl | exact scI (c := 3) h9 hl (by omega) rfl | exact scI (c := 4) h9 hl (by omega) rfl | exact scI (c := 5) h9 hl (by omega) rfl) ?_
  refine r_most X M1.M V (fun I2 A2 B2 M2 f2 => ?_)
  refine And.intro (fun q1 => ?_) (fun q1 => ?_)
  · exact h _ _ _ _ _ D hwf ((Kt.fC fc).hi f2.out) (M1.fM M2 f2) Dv (f2.out 900 (by omega)).1 ((f2.out 900 (by omega)).2.1.trans hA9)
  · first | exact absurd rfl q1 | exact absurd (by rw [hA9]) q1 --end
set_option maxRecDepth 20000 in
theorem law_least {J : mJ} (X : mRules J) {I A : mI} {B : mB} {w f : Nat} {R : mR} {D : Dt} (Kt : KSt I A B D) (Mt : MSt w I A B D) (Dv : DV D) (hwf : w = 44 ∧ f = 45 ∨ w = 45 ∧ f = 44) {i len : Nat} (h9 : I 900 0 = nI len) (hl : len ≤ 3072) (hi : i + 6 ≤ len) (h : lwH J I A i R) : J n_law 1203 [.retAddr 0, .ref 0, .ref 43, .int (nI i)] [] I A B (pk w f) R := by
  have Jv := Dv.iv
  have G := Jv.G
  have V := G.V
  have vb : BkV D.b.P D.b.N D.b.K D.b.L D.b.T D.b.m D.b.rw := Dv.b
  have hnn := vb.n vb.K1 vb.K4
  have hn2 : (acB D.b).n ≤ 220 := hnn.1
  have hc6 : ct (fun j => decide (¬ ((acB D.b).so j = 1 ∨ (acB D.b).so j = 2))) (acB D.b).n + 8 ≤ 80 := hnn.2.1
  have hbK := Kt.bk Dv
  have hbM := Mt.bk Dv
  have aN := Jv.N
  have aP := Jv.P
  have hcN := V.cN
  have hN8 := V.N8
  have hD1b : decide (0 < D.b.L) = true → 1 ≤ (acB D.b).P * (acB D.b).N := fun z => by
    have z2 := vb.l (of_decide_eq_true z)
    rw [aN, aP]
    exact Nat.mul_pos (by omega) (by omega)
  have hbN : decide (0 < D.b.L) = false → (acB D.b).N = 0 := fun z => by
    have := of_decide_eq_false z
    rw [aN]
    exact (vb.z (by omega)).2.2.1
  have hP1 : 0 < (acB D.b).N → 0 < (acB D.b).P := fun z => by
    rcases Nat.lt_or_ge 0 D.b.L with y | y
    · have := vb.l y
      omega
    · have := vb.z (by omega)
      omega
  refine X 200 _ _ _ _ _ _ _ _ _ ?_
  refine And.intro (by first | exact scI (c := 1) h9 hl (by omega) rfl | exact scI (c := 2) h9 hl (by omega) rfl | exact scI (c := 3) h9 hl (by omega) rfl | exact scI (c := 4) h9 hl (by omega) rfl | exact scI (c := 5) h9 hl (by omega) rfl) ?_
  refine k_least X Kt.C G hn2  (fun A1 B1 fc => ?_)
  have hA9 : A1 900 = A 900 := fc.ar 900 (by decide)
  have M1 := Mt.lo fc.lo
  have hbM := M1.bk Dv
  refine And.intro (by first | exact scI (c := 1) h9 hl (by omega) rfl | exact scI (c := 2) h9 hl (by omega) rfl | exact scI (c := 3) h9 hl (by omega) rfl | exact scI (c := 4) h9 hl (by omega) rfl | exact scI (c := 5) h9 hl (by omega) rfl) ?_
  refine r_least X M1.M V (fun I2 A2 B2 M2 f2 => ?_)
  refine And.intro (fun q1 => ?_) (fun q1 => ?_)
  · exact h _ _ _ _ _ D hwf ((Kt.fC fc).hi f2.out) (M1.fM M2 f2) Dv (f2.out 900 (by omega)).1 ((f2.out 900 (by omega)).2.1.trans hA9)
  · first | exact absurd rfl q1 | exact absurd (by rw [hA9]) q1 --end
set_option maxRecDepth 20000 in
theorem law_needs {J : mJ} (X : mRules J) {I A : mI} {B : mB} {w f : Nat} {R : mR} {D : Dt} (Kt : KSt I A B D) (Mt : MSt w I A B D) (Dv : DV D) (hwf : w = 44 ∧ f = 45 ∨ w = 45 ∧ f = 44) {i len : Nat} (h9 : I 900 0 = nI len) (hl : len ≤ 3072) (hi : i + 6 ≤ len) (h : lwH J I A i R) : J n_law 1226 [.retAddr 0, .ref 0, .ref 43, .int (nI i)] [] I A B (pk w f) R := by
  have Jv := Dv.iv
  have G := Jv.G
  have V := G.V
  have vb : BkV D.b.P D.b.N D.b.K D.b.L D.b.T D.b.m D.b.rw := Dv.b
  have hnn := vb.n vb.K1 vb.K4
  have hn2 : (acB D.b).n ≤ 220 := hnn.1
  have hc6 : ct (fun j => decide (¬ ((acB D.b).so j = 1 ∨ (acB D.b).so j = 2))) (acB D.b).n + 8 ≤ 80 := hnn.2.1
  have hbK := Kt.bk Dv
  have hbM := Mt.bk Dv
  have aN := Jv.N
  have aP := Jv.P
  have hcN := V.cN
  have hN8 := V.N8
  have hD1b : decide (0 < D.b.L) = true → 1 ≤ (acB D.b).P * (acB D.b).N := fun z => by
    have z2 := vb.l (of_decide_eq_true z)
    rw [aN, aP]
    exact Nat.mul_pos (by omega) (by omega)
  have hbN : decide (0 < D.b.L) = false → (acB D.b).N = 0 := fun z => by
    have := of_decide_eq_false z
    rw [aN]
    exact (vb.z (by omega)).2.2.1
  have hP1 : 0 < (acB D.b).N → 0 < (acB D.b).P := fun z => by
    rcases Nat.lt_or_ge 0 D.b.L with y | y
    · have := vb.l y
      omega
    · have := vb.z (by omega)
      omega
  refine X 200 _ _ _ _ _ _ _ _ _ ?_
  refine And.intro (by first | exact scI (c := 1) h9 hl (by omega) rfl | exact scI (c := 2) h9 hl (by omega) rfl | exact scI (c := 3) h9 hl (by omega) rfl | exact scI (c := 4) h9 hl (by omega) rfl | exact scI (c := 5) h9 hl (by omega) rfl) ?_
  refine And.intro (by first | exact scI (c := 1) h9 hl (by omega) rfl | exact scI (c := 2) h9 hl (by omega) rfl | exact scI (c := 3) h9 hl (by omega) rfl | exact scI (c := 4) h9 hl (by omega) rfl | exact scI (c := 5) h9 hl (by omega) rfl) ?_
  refine k_needs X Kt.C G hn2  (fun A1 B1 fc => ?_)
  have hA9 : A1 900 = A 900 := fc.ar 900 (by decide)
  have M1 := Mt.lo fc.lo
  have hbM := M1.bk Dv
  refine And.intro (by first | exact scI (c := 1) h9 hl (by omega) rfl | exact scI (c := 2) h9 hl (by omega) rfl | exact scI (c := 3) h9 hl (by omega) rfl | exact scI (c := 4) h9 hl (by omega) rfl | exact scI (c := 5) h9 hl (by omega) rfl) ?_
  refine And.intro (by first | exact scI (c := 1) h9 hl (by omega) rfl | exact scI (c := 2) h9 hl (by omega) rfl | exact scI (c := 3) h9 hl (by omega) rfl | exact scI (c := 4) h9 hl (by omega) rfl | exact scI (c := 5) h9 hl (by omega) rfl) ?_
  refine r_needs X M1.M V (by omega) (fun d0 _ => cn_a G _) (fun I2 A2 B2 M2 f2 => ?_)
  refine And.intro (fun q1 => ?_) (fun q1 => ?_)
  · exact h _ _ _ _ _ D hwf ((Kt.fC fc).hi f2.out) (M1.fM M2 f2) Dv (f2.out 900 (by omega)).1 ((f2.out 900 (by omega)).2.1.trans hA9)
  · first | exact absurd rfl q1 | exact absurd (by rw [hA9]) q1 --end
set_option maxRecDepth 20000 in
theorem law_earned {J : mJ} (X : mRules J) {I A : mI} {B : mB} {w f : Nat} {R : mR} {D : Dt} (Kt : KSt I A B D) (Mt : MSt w I A B D) (Dv : DV D) (hwf : w = 44 ∧ f = 45 ∨ w = 45 ∧ f = 44) {i len : Nat} (h9 : I 900 0 = nI len) (hl : len ≤ 3072) (hi : i + 6 ≤ len) (h : lwH J I A i R) : J n_law 1259 [.retAddr 0, .ref 0, .ref 43, .int (nI i)] [] I A B (pk w f) R := by
  have Jv := Dv.iv
  have G := Jv.G
  have V := G.V
  have vb : BkV D.b.P D.b.N D.b.K D.b.L D.b.T D.b.m D.b.rw := Dv.b
  have hnn := vb.n vb.K1 vb.K4
  have hn2 : (acB D.b).n ≤ 220 := hnn.1
  have hc6 : ct (fun j => decide (¬ ((acB D.b).so j = 1 ∨ (acB D.b).so j = 2))) (acB D.b).n + 8 ≤ 80 := hnn.2.1
  have hbK := Kt.bk Dv
  have hbM := Mt.bk Dv
  have aN := Jv.N
  have aP := Jv.P
  have hcN := V.cN
  have hN8 := V.N8
  have hD1b : decide (0 < D.b.L) = true → 1 ≤ (acB D.b).P * (acB D.b).N := fun z => by
    have z2 := vb.l (of_decide_eq_true z)
    rw [aN, aP]
    exact Nat.mul_pos (by omega) (by omega)
  have hbN : decide (0 < D.b.L) = false → (acB D.b).N = 0 := fun z => by
    have := of_decide_eq_false z
    rw [aN]
    exact (vb.z (by omega)).2.2.1
  have hP1 : 0 < (acB D.b).N → 0 < (acB D.b).P := fun z => by
    rcases Nat.lt_or_ge 0 D.b.L with y | y
    · have := vb.l y
      omega
    · have := vb.z (by omega)
      omega
  refine X 200 _ _ _ _ _ _ _ _ _ ?_
  refine And.intro (by first | exact scI (c := 1) h9 hl (by omega) rfl | exact scI (c := 2) h9 hl (by omega) rfl | exact scI (c := 3) h9 hl (by omega) rfl | exact scI (c := 4) h9 hl (by omega) rfl | exact scI (c := 5) h9 hl (by omega) rfl) ?_
  refine And.intro (by first | exact scI (c := 1) h9 hl (by omega) rfl | exact scI (c := 2) h9 hl (by omega) rfl | exact scI (c := 3) h9 hl (by omega) rfl | exact scI (c := 4) h9 hl (by omega) rfl | exact scI (c := 5) h9 hl (by omega) rfl) ?_
  refine k_earned X Kt.C G hn2  (fun A1 B1 fc => ?_)
  have hA9 : A1 900 = A 900 := fc.ar 900 (by decide)
  have M1 := Mt.lo fc.lo
  have hbM := M1.bk Dv
  refine And.intro (by first | exact scI (c := 1) h9 hl (by omega) rfl | exact scI (c := 2) h9 hl (by omega) rfl | exact scI (c := 3) h9 hl (by omega) rfl | exact scI (c := 4) h9 hl (by omega) rfl | exact scI (c := 5) h9 hl (by omega) rfl) ?_
  refine And.intro (by first | exact scI (c := 1) h9 hl (by omega) rfl | exact scI (c := 2) h9 hl (by omega) rfl | exact scI (c := 3) h9 hl (by omega) rfl | exact scI (c := 4) h9 hl (by omega) rfl | exact scI (c := 5) h9 hl (by omega) rfl) ?_
  refine r_earned X M1.M V (fun I2 A2 B2 M2 f2 => ?_)
  refine And.intro (fun q1 => ?_) (fun q1 => ?_)
  · exact h _ _ _ _ _ D hwf ((Kt.fC fc).hi f2.out) (M1.fM M2 f2) Dv (f2.out 900 (by omega)).1 ((f2.out 900 (by omega)).2.1.trans hA9)
  · first | exact absurd rfl q1 | exact absurd (by rw [hA9]) q1 --end
set_option maxRecDepth 20000 in
theorem law_caused {J : mJ} (X : mRules J) {I A : mI} {B : mB} {w f : Nat} {R : mR} {D : Dt} (Kt : KSt I A B D) (Mt : MSt w I A B D) (Dv : DV D) (hwf : w = 44 ∧ f = 45 ∨ w = 45 ∧ f = 44) {i len : Nat} (h9 : I 900 0 = nI len) (hl : len ≤ 3072) (hi : i + 6 ≤ len) (h : lwH J I A i R) : J n_law 1293 [.retAddr 0, .ref 0, .ref 43, .int (nI i)] [] I A B (pk w f) R := by
  have Jv := Dv.iv
  have G := Jv.G
  have V := G.V
  have vb : BkV D.b.P D.b.N D.b.K D.b.L D.b.T D.b.m D.b.rw := Dv.b
  have hnn := vb.n vb.K1 vb.K4
  have hn2 : (acB D.b).n ≤ 220 := hnn.1
  have hc6 : ct (fun j => decide (¬ ((acB D.b).so j = 1 ∨ (acB D.b).so j = 2))) (acB D.b).n + 8 ≤ 80 := hnn.2.1
  have hbK := Kt.bk Dv
  have hbM := Mt.bk Dv
  have aN := Jv.N
  have aP := Jv.P
  have hcN := V.cN
  have hN8 := V.N8
  have hD1b : decide (0 < D.b.L) = true → 1 ≤ (acB D.b).P * (acB D.b).N := fun z => by
    have z2 := vb.l (of_decide_eq_true z)
    rw [aN, aP]
    exact Nat.mul_pos (by omega) (by omega)
  have hbN : decide (0 < D.b.L) = false → (acB D.b).N = 0 := fun z => by
    have := of_decide_eq_false z
    rw [aN]
    exact (vb.z (by omega)).2.2.1
  have hP1 : 0 < (acB D.b).N → 0 < (acB D.b).P := fun z => by
    rcases Nat.lt_or_ge 0 D.b.L with y | y
    · have := vb.l y
      omega
    · have := vb.z (by omega)
      omega
  refine X 200 _ _ _ _ _ _ _ _ _ ?_
  refine And.intro (by first | exact scI (c := 1) h9 hl (by omega) rfl | exact scI (c := 2) h9 hl (by omega) rfl | exact scI (c := 3) h9 hl (by omega) rfl | exact scI (c := 4) h9 hl (by omega) rfl | exact scI (c := 5) h9 hl (by omega) rfl) ?_
  refine And.intro (by first | exact scI (c := 1) h9 hl (by omega) rfl | exact scI (c := 2) h9 hl (by omega) rfl | exact scI (c := 3) h9 hl (by omega) rfl | exact scI (c := 4) h9 hl (by omega) rfl | exact scI (c := 5) h9 hl (by omega) rfl) ?_
  refine k_caused X Kt.C G hn2  (fun A1 B1 fc => ?_)
  have hA9 : A1 900 = A 900 := fc.ar 900 (by decide)
  have M1 := Mt.lo fc.lo
  have hbM := M1.bk Dv
  refine And.intro (by first | exact scI (c := 1) h9 hl (by omega) rfl | exact scI (c := 2) h9 hl (by omega) rfl | exact scI (c := 3) h9 hl (by omega) rfl | exact scI (c := 4) h9 hl (by omega) rfl | exact scI (c := 5) h9 hl (by omega) rfl) ?_
  refine And.intro (by first | exact scI (c := 1) h9 hl (by omega) rfl | exact scI (c := 2) h9 hl (by omega) rfl | exact scI (c := 3) h9 hl (by omega) rfl | exact scI (c := 4) h9 hl (by omega) rfl | exact scI (c := 5) h9 hl (by omega) rfl) ?_
  refine r_caused X M1.M V (fun I2 A2 B2 M2 f2 => ?_)
  refine And.intro (fun q1 => ?_) (fun q1 => ?_)
  · exact h _ _ _ _ _ D hwf ((Kt.fC fc).hi f2.out) (M1.fM M2 f2) Dv (f2.out 900 (by omega)).1 ((f2.out 900 (by omega)).2.1.trans hA9)
  · first | exact absurd rfl q1 | exact absurd (by rw [hA9]) q1 --end
set_option maxRecDepth 20000 in
theorem law_blame {J : mJ} (X : mRules J) {I A : mI} {B : mB} {w f : Nat} {R : mR} {D : Dt} (Kt : KSt I A B D) (Mt : MSt w I A B D) (Dv : DV D) (hwf : w = 44 ∧ f = 45 ∨ w = 45 ∧ f = 44) {i len : Nat} (h9 : I 900 0 = nI len) (hl : len ≤ 3072) (hi : i + 6 ≤ len) (h : lwH J I A i R) : J n_law 1327 [.retAddr 0, .ref 0, .ref 43, .int (nI i)] [] I A B (pk w f) R := by
  have Jv := Dv.iv
  have G := Jv.G
  have V := G.V
  have vb : BkV D.b.P D.b.N D.b.K D.b.L D.b.T D.b.m D.b.rw := Dv.b
  have hnn := vb.n vb.K1 vb.K4
  have hn2 : (acB D.b).n ≤ 220 := hnn.1
  have hc6 : ct (fun j => decide (¬ ((acB D.b).so j = 1 ∨ (acB D.b).so j = 2))) (acB D.b).n + 8 ≤ 80 := hnn.2.1
  have hbK := Kt.bk Dv
  have hbM := Mt.bk Dv
  have aN := Jv.N
  have aP := Jv.P
  have hcN := V.cN
  have hN8 := V.N8
  have hD1b : decide (0 < D.b.L) = true → 1 ≤ (acB D.b).P * (acB D.b).N := fun z => by
    have z2 := vb.l (of_decide_eq_true z)
    rw [aN, aP]
    exact Nat.mul_pos (by omega) (by omega)
  have hbN : decide (0 < D.b.L) = false → (acB D.b).N = 0 := fun z => by
    have := of_decide_eq_false z
    rw [aN]
    exact (vb.z (by omega)).2.2.1
  have hP1 : 0 < (acB D.b).N → 0 < (acB D.b).P := fun z => by
    rcases Nat.lt_or_ge 0 D.b.L with y | y
    · have := vb.l y
      omega
    · have := vb.z (by omega)
      omega
  refine X 200 _ _ _ _ _ _ _ _ _ ?_
  refine And.intro (by first | exact scI (c := 1) h9 hl (by omega) rfl | exact scI (c := 2) h9 hl (by omega) rfl | exact scI (c := 3) h9 hl (by omega) rfl | exact scI (c := 4) h9 hl (by omega) rfl | exact scI (c := 5) h9 hl (by omega) rfl) ?_
  refine k_blame X Kt.C G hn2  (fun A1 B1 fc => ?_)
  have hA9 : A1 900 = A 900 := fc.ar 900 (by decide)
  have M1 := Mt.lo fc.lo
  have hbM := M1.bk Dv
  refine And.intro (by first | exact scI (c := 1) h9 hl (by omega) rfl | exact scI (c := 2) h9 hl (by omega) rfl | exact scI (c := 3) h9 hl (by omega) rfl | exact scI (c := 4) h9 hl (by omega) rfl | exact scI (c := 5) h9 hl (by omega) rfl) ?_
  refine r_blame X M1.M V (fun I2 A2 B2 M2 f2 => ?_)
  refine And.intro (fun q1 => ?_) (fun q1 => ?_)
  · exact h _ _ _ _ _ D hwf ((Kt.fC fc).hi f2.out) (M1.fM M2 f2) Dv (f2.out 900 (by omega)).1 ((f2.out 900 (by omega)).2.1.trans hA9)
  · first | exact absurd rfl q1 | exact absurd (by rw [hA9]) q1 --end
set_option maxRecDepth 20000 in
theorem law_backdated {J : mJ} (X : mRules J) {I A : mI} {B : mB} {w f : Nat} {R : mR} {D : Dt} (Kt : KSt I A B D) (Mt : MSt w I A B D) (Dv : DV D) (hwf : w = 44 ∧ f = 45 ∨ w = 45 ∧ f = 44) {i len : Nat} (h9 : I 900 0 = nI len) (hl : len ≤ 3072) (hi : i + 6 ≤ len) (h : lwH J I A i R) : J n_law 1350 [.retAddr 0, .ref 0, .ref 43, .int (nI i)] [] I A B (pk w f) R := by
  have Jv := Dv.iv
  have G := Jv.G
  have V := G.V
  have vb : BkV D.b.P D.b.N D.b.K D.b.L D.b.T D.b.m D.b.rw := Dv.b
  have hnn := vb.n vb.K1 vb.K4
  have hn2 : (acB D.b).n ≤ 220 := hnn.1
  have hc6 : ct (fun j => decide (¬ ((acB D.b).so j = 1 ∨ (acB D.b).so j = 2))) (acB D.b).n + 8 ≤ 80 := hnn.2.1
  have hbK := Kt.bk Dv
  have hbM := Mt.bk Dv
  have aN := Jv.N
  have aP := Jv.P
  have hcN := V.cN
  have hN8 := V.N8
  have hD1b : decide (0 < D.b.L) = true → 1 ≤ (acB D.b).P * (acB D.b).N := fun z => by
    have z2 := vb.l (of_decide_eq_true z)
    rw [aN, aP]
    exact Nat.mul_pos (by omega) (by omega)
  have hbN : decide (0 < D.b.L) = false → (acB D.b).N = 0 := fun z => by
    have := of_decide_eq_false z
    rw [aN]
    exact (vb.z (by omega)).2.2.1
  have hP1 : 0 < (acB D.b).N → 0 < (acB D.b).P := fun z => by
    rcases Nat.lt_or_ge 0 D.b.L with y | y
    · have := vb.l y
      omega
    · have := vb.z (by omega)
      omega
  refine X 200 _ _ _ _ _ _ _ _ _ ?_
  refine And.intro (by first | exact scI (c := 1) h9 hl (by omega) rfl | exact scI (c := 2) h9 hl (by omega) rfl | exact scI (c := 3) h9 hl (by omega) rfl | exact scI (c := 4) h9 hl (by omega) rfl | exact scI (c := 5) h9 hl (by omega) rfl) ?_
  refine And.intro (by first | exact scI (c := 1) h9 hl (by omega) rfl | exact scI (c := 2) h9 hl (by omega) rfl | exact scI (c := 3) h9 hl (by omega) rfl | exact scI (c := 4) h9 hl (by omega) rfl | exact scI (c := 5) h9 hl (by omega) rfl) ?_
  refine k_backdated X Kt.C G hn2 Jv.va (fun A1 B1 fc => ?_)
  have hA9 : A1 900 = A 900 := fc.ar 900 (by decide)
  have M1 := Mt.lo fc.lo
  have hbM := M1.bk Dv
  refine And.intro (by first | exact scI (c := 1) h9 hl (by omega) rfl | exact scI (c := 2) h9 hl (by omega) rfl | exact scI (c := 3) h9 hl (by omega) rfl | exact scI (c := 4) h9 hl (by omega) rfl | exact scI (c := 5) h9 hl (by omega) rfl) ?_
  refine And.intro (by first | exact scI (c := 1) h9 hl (by omega) rfl | exact scI (c := 2) h9 hl (by omega) rfl | exact scI (c := 3) h9 hl (by omega) rfl | exact scI (c := 4) h9 hl (by omega) rfl | exact scI (c := 5) h9 hl (by omega) rfl) ?_
  refine r_backdated X M1.M V (fun I2 A2 B2 M2 f2 => ?_)
  refine And.intro (fun q1 => ?_) (fun q1 => ?_)
  · exact h _ _ _ _ _ D hwf ((Kt.fC fc).hi f2.out) (M1.fM M2 f2) Dv (f2.out 900 (by omega)).1 ((f2.out 900 (by omega)).2.1.trans hA9)
  · first | exact absurd rfl q1 | exact absurd (by rw [hA9]) q1 --end
set_option maxRecDepth 20000 in
theorem law_reaches {J : mJ} (X : mRules J) {I A : mI} {B : mB} {w f : Nat} {R : mR} {D : Dt} (Kt : KSt I A B D) (Mt : MSt w I A B D) (Dv : DV D) (hwf : w = 44 ∧ f = 45 ∨ w = 45 ∧ f = 44) {i len : Nat} (h9 : I 900 0 = nI len) (hl : len ≤ 3072) (hi : i + 6 ≤ len) (h : lwH J I A i R) : J n_law 1384 [.retAddr 0, .ref 0, .ref 43, .int (nI i)] [] I A B (pk w f) R := by
  have Jv := Dv.iv
  have G := Jv.G
  have V := G.V
  have vb : BkV D.b.P D.b.N D.b.K D.b.L D.b.T D.b.m D.b.rw := Dv.b
  have hnn := vb.n vb.K1 vb.K4
  have hn2 : (acB D.b).n ≤ 220 := hnn.1
  have hc6 : ct (fun j => decide (¬ ((acB D.b).so j = 1 ∨ (acB D.b).so j = 2))) (acB D.b).n + 8 ≤ 80 := hnn.2.1
  have hbK := Kt.bk Dv
  have hbM := Mt.bk Dv
  have aN := Jv.N
  have aP := Jv.P
  have hcN := V.cN
  have hN8 := V.N8
  have hD1b : decide (0 < D.b.L) = true → 1 ≤ (acB D.b).P * (acB D.b).N := fun z => by
    have z2 := vb.l (of_decide_eq_true z)
    rw [aN, aP]
    exact Nat.mul_pos (by omega) (by omega)
  have hbN : decide (0 < D.b.L) = false → (acB D.b).N = 0 := fun z => by
    have := of_decide_eq_false z
    rw [aN]
    exact (vb.z (by omega)).2.2.1
  have hP1 : 0 < (acB D.b).N → 0 < (acB D.b).P := fun z => by
    rcases Nat.lt_or_ge 0 D.b.L with y | y
    · have := vb.l y
      omega
    · have := vb.z (by omega)
      omega
  refine X 200 _ _ _ _ _ _ _ _ _ ?_
  refine And.intro (by first | exact scI (c := 1) h9 hl (by omega) rfl | exact scI (c := 2) h9 hl (by omega) rfl | exact scI (c := 3) h9 hl (by omega) rfl | exact scI (c := 4) h9 hl (by omega) rfl | exact scI (c := 5) h9 hl (by omega) rfl) ?_
  refine k_reaches X Kt.C G hn2 hbK (fun A1 B1 fc => ?_)
  have hA9 : A1 900 = A 900 := fc.ar 900 (by decide)
  have M1 := Mt.lo fc.lo
  have hbM := M1.bk Dv
  refine And.intro (by first | exact scI (c := 1) h9 hl (by omega) rfl | exact scI (c := 2) h9 hl (by omega) rfl | exact scI (c := 3) h9 hl (by omega) rfl | exact scI (c := 4) h9 hl (by omega) rfl | exact scI (c := 5) h9 hl (by omega) rfl) ?_
  refine r_reaches X M1.M V hbM (fun I2 A2 B2 M2 f2 => ?_)
  refine And.intro (fun q1 => ?_) (fun q1 => ?_)
  · exact h _ _ _ _ _ D hwf ((Kt.fC fc).hi f2.out) (M1.fM M2 f2) Dv (f2.out 900 (by omega)).1 ((f2.out 900 (by omega)).2.1.trans hA9)
  · first | exact absurd rfl q1 | exact absurd (by rw [hA9]) q1 --end
set_option maxRecDepth 20000 in
theorem law_limitFor {J : mJ} (X : mRules J) {I A : mI} {B : mB} {w f : Nat} {R : mR} {D : Dt} (Kt : KSt I A B D) (Mt : MSt w I A B D) (Dv : DV D) (hwf : w = 44 ∧ f = 45 ∨ w = 45 ∧ f = 44) {i len : Nat} (h9 : I 900 0 = nI len) (hl : len ≤ 3072) (hi : i + 6 ≤ len) (h : lwH J I A i R) : J n_law 1407 [.retAddr 0, .ref 0, .ref 43, .int (nI i)] [] I A B (pk w f) R := by
  have Jv := Dv.iv
  have G := Jv.G
  have V := G.V
  have vb : BkV D.b.P D.b.N D.b.K D.b.L D.b.T D.b.m D.b.rw := Dv.b
  have hnn := vb.n vb.K1 vb.K4
  have hn2 : (acB D.b).n ≤ 220 := hnn.1
  have hc6 : ct (fun j => decide (¬ ((acB D.b).so j = 1 ∨ (acB D.b).so j = 2))) (acB D.b).n + 8 ≤ 80 := hnn.2.1
  have hbK := Kt.bk Dv
  have hbM := Mt.bk Dv
  have aN := Jv.N
  have aP := Jv.P
  have hcN := V.cN
  have hN8 := V.N8
  have hD1b : decide (0 < D.b.L) = true → 1 ≤ (acB D.b).P * (acB D.b).N := fun z => by
    have z2 := vb.l (of_decide_eq_true z)
    rw [aN, aP]
    exact Nat.mul_pos (by omega) (by omega)
  have hbN : decide (0 < D.b.L) = false → (acB D.b).N = 0 := fun z => by
    have := of_decide_eq_false z
    rw [aN]
    exact (vb.z (by omega)).2.2.1
  have hP1 : 0 < (acB D.b).N → 0 < (acB D.b).P := fun z => by
    rcases Nat.lt_or_ge 0 D.b.L with y | y
    · have := vb.l y
      omega
    · have := vb.z (by omega)
      omega
  refine X 200 _ _ _ _ _ _ _ _ _ ?_
  refine k_limitFor X Kt.C G hn2 hbK hD1b (fun A1 B1 fc => ?_)
  have hA9 : A1 900 = A 900 := fc.ar 900 (by decide)
  have M1 := Mt.lo fc.lo
  have hbM := M1.bk Dv
  refine r_limitFor X M1.M V hbM hD1b (fun I2 A2 B2 M2 f2 => ?_)
  refine And.intro (fun q1 => ?_) (fun q1 => ?_)
  · exact h _ _ _ _ _ D hwf ((Kt.fC fc).hi f2.out) (M1.fM M2 f2) Dv (f2.out 900 (by omega)).1 ((f2.out 900 (by omega)).2.1.trans hA9)
  · first | exact absurd rfl q1 | exact absurd (by rw [hA9]) q1 --end
set_option maxRecDepth 20000 in
theorem law_tiltFor {J : mJ} (X : mRules J) {I A : mI} {B : mB} {w f : Nat} {R : mR} {D : Dt} (Kt : KSt I A B D) (Mt : MSt w I A B D) (Dv : DV D) (hwf : w = 44 ∧ f = 45 ∨ w = 45 ∧ f = 44) {i len : Nat} (h9 : I 900 0 = nI len) (hl : len ≤ 3072) (hi : i + 6 ≤ len) (h : lwH J I A i R) : J n_law 1420 [.retAddr 0, .ref 0, .ref 43, .int (nI i)] [] I A B (pk w f) R := by
  have Jv := Dv.iv
  have G := Jv.G
  have V := G.V
  have vb : BkV D.b.P D.b.N D.b.K D.b.L D.b.T D.b.m D.b.rw := Dv.b
  have hnn := vb.n vb.K1 vb.K4
  have hn2 : (acB D.b).n ≤ 220 := hnn.1
  have hc6 : ct (fun j => decide (¬ ((acB D.b).so j = 1 ∨ (acB D.b).so j = 2))) (acB D.b).n + 8 ≤ 80 := hnn.2.1
  have hbK := Kt.bk Dv
  have hbM := Mt.bk Dv
  have aN := Jv.N
  have aP := Jv.P
  have hcN := V.cN
  have hN8 := V.N8
  have hD1b : decide (0 < D.b.L) = true → 1 ≤ (acB D.b).P * (acB D.b).N := fun z => by
    have z2 := vb.l (of_decide_eq_true z)
    rw [aN, aP]
    exact Nat.mul_pos (by omega) (by omega)
  have hbN : decide (0 < D.b.L) = false → (acB D.b).N = 0 := fun z => by
    have := of_decide_eq_false z
    rw [aN]
    exact (vb.z (by omega)).2.2.1
  have hP1 : 0 < (acB D.b).N → 0 < (acB D.b).P := fun z => by
    rcases Nat.lt_or_ge 0 D.b.L with y | y
    · have := vb.l y
      omega
    · have := vb.z (by omega)
      omega
  refine X 200 _ _ _ _ _ _ _ _ _ ?_
  refine And.intro (by first | exact scI (c := 1) h9 hl (by omega) rfl | exact scI (c := 2) h9 hl (by omega) rfl | exact scI (c := 3) h9 hl (by omega) rfl | exact scI (c := 4) h9 hl (by omega) rfl | exact scI (c := 5) h9 hl (by omega) rfl) ?_
  refine And.intro (by first | exact scI (c := 1) h9 hl (by omega) rfl | exact scI (c := 2) h9 hl (by omega) rfl | exact scI (c := 3) h9 hl (by omega) rfl | exact scI (c := 4) h9 hl (by omega) rfl | exact scI (c := 5) h9 hl (by omega) rfl) ?_
  refine k_tiltFor X Kt.C G hn2  (fun A1 B1 fc => ?_)
  have hA9 : A1 900 = A 900 := fc.ar 900 (by decide)
  have M1 := Mt.lo fc.lo
  have hbM := M1.bk Dv
  refine And.intro (by first | exact scI (c := 1) h9 hl (by omega) rfl | exact scI (c := 2) h9 hl (by omega) rfl | exact scI (c := 3) h9 hl (by omega) rfl | exact scI (c := 4) h9 hl (by omega) rfl | exact scI (c := 5) h9 hl (by omega) rfl) ?_
  refine And.intro (by first | exact scI (c := 1) h9 hl (by omega) rfl | exact scI (c := 2) h9 hl (by omega) rfl | exact scI (c := 3) h9 hl (by omega) rfl | exact scI (c := 4) h9 hl (by omega) rfl | exact scI (c := 5) h9 hl (by omega) rfl) ?_
  refine r_tiltFor X M1.M V G.no1 (fun t0 ht => ct_a G _ ht) (fun I2 A2 B2 M2 f2 => ?_)
  refine And.intro (fun q1 => ?_) (fun q1 => ?_)
  · exact h _ _ _ _ _ D hwf ((Kt.fC fc).hi f2.out) (M1.fM M2 f2) Dv (f2.out 900 (by omega)).1 ((f2.out 900 (by omega)).2.1.trans hA9)
  · first | exact absurd rfl q1 | exact absurd (by rw [hA9]) q1 --end
set_option maxRecDepth 20000 in
theorem law_bears {J : mJ} (X : mRules J) {I A : mI} {B : mB} {w f : Nat} {R : mR} {D : Dt} (Kt : KSt I A B D) (Mt : MSt w I A B D) (Dv : DV D) (hwf : w = 44 ∧ f = 45 ∨ w = 45 ∧ f = 44) {i len : Nat} (h9 : I 900 0 = nI len) (hl : len ≤ 3072) (hi : i + 6 ≤ len) (h : lwH J I A i R) : J n_law 1453 [.retAddr 0, .ref 0, .ref 43, .int (nI i)] [] I A B (pk w f) R := by
  have Jv := Dv.iv
  have G := Jv.G
  have V := G.V
  have vb : BkV D.b.P D.b.N D.b.K D.b.L D.b.T D.b.m D.b.rw := Dv.b
  have hnn := vb.n vb.K1 vb.K4
  have hn2 : (acB D.b).n ≤ 220 := hnn.1
  have hc6 : ct (fun j => decide (¬ ((acB D.b).so j = 1 ∨ (acB D.b).so j = 2))) (acB D.b).n + 8 ≤ 80 := hnn.2.1
  have hbK := Kt.bk Dv
  have hbM := Mt.bk Dv
  have aN := Jv.N
  have aP := Jv.P
  have hcN := V.cN
  have hN8 := V.N8
  have hD1b : decide (0 < D.b.L) = true → 1 ≤ (acB D.b).P * (acB D.b).N := fun z => by
    have z2 := vb.l (of_decide_eq_true z)
    rw [aN, aP]
    exact Nat.mul_pos (by omega) (by omega)
  have hbN : decide (0 < D.b.L) = false → (acB D.b).N = 0 := fun z => by
    have := of_decide_eq_false z
    rw [aN]
    exact (vb.z (by omega)).2.2.1
  have hP1 : 0 < (acB D.b).N → 0 < (acB D.b).P := fun z => by
    rcases Nat.lt_or_ge 0 D.b.L with y | y
    · have := vb.l y
      omega
    · have := vb.z (by omega)
      omega
  refine X 200 _ _ _ _ _ _ _ _ _ ?_
  refine And.intro (by first | exact scI (c := 1) h9 hl (by omega) rfl | exact scI (c := 2) h9 hl (by omega) rfl | exact scI (c := 3) h9 hl (by omega) rfl | exact scI (c := 4) h9 hl (by omega) rfl | exact scI (c := 5) h9 hl (by omega) rfl) ?_
  refine k_bears X Kt.C G hn2  (fun A1 B1 fc => ?_)
  have hA9 : A1 900 = A 900 := fc.ar 900 (by decide)
  have M1 := Mt.lo fc.lo
  have hbM := M1.bk Dv
  refine And.intro (by first | exact scI (c := 1) h9 hl (by omega) rfl | exact scI (c := 2) h9 hl (by omega) rfl | exact scI (c := 3) h9 hl (by omega) rfl | exact scI (c := 4) h9 hl (by omega) rfl | exact scI (c := 5) h9 hl (by omega) rfl) ?_
  refine r_bears X M1.M V (fun I2 A2 B2 M2 f2 => ?_)
  refine And.intro (fun q1 => ?_) (fun q1 => ?_)
  · exact h _ _ _ _ _ D hwf ((Kt.fC fc).hi f2.out) (M1.fM M2 f2) Dv (f2.out 900 (by omega)).1 ((f2.out 900 (by omega)).2.1.trans hA9)
  · first | exact absurd rfl q1 | exact absurd (by rw [hA9]) q1 --end
set_option maxRecDepth 20000 in
theorem law_rights {J : mJ} (X : mRules J) {I A : mI} {B : mB} {w f : Nat} {R : mR} {D : Dt} (Kt : KSt I A B D) (Mt : MSt w I A B D) (Dv : DV D) (hwf : w = 44 ∧ f = 45 ∨ w = 45 ∧ f = 44) {i len : Nat} (h9 : I 900 0 = nI len) (hl : len ≤ 3072) (hi : i + 6 ≤ len) (h : lwH J I A i R) : J n_law 1476 [.retAddr 0, .ref 0, .ref 43, .int (nI i)] [] I A B (pk w f) R := by
  have Jv := Dv.iv
  have G := Jv.G
  have V := G.V
  have vb : BkV D.b.P D.b.N D.b.K D.b.L D.b.T D.b.m D.b.rw := Dv.b
  have hnn := vb.n vb.K1 vb.K4
  have hn2 : (acB D.b).n ≤ 220 := hnn.1
  have hc6 : ct (fun j => decide (¬ ((acB D.b).so j = 1 ∨ (acB D.b).so j = 2))) (acB D.b).n + 8 ≤ 80 := hnn.2.1
  have hbK := Kt.bk Dv
  have hbM := Mt.bk Dv
  have aN := Jv.N
  have aP := Jv.P
  have hcN := V.cN
  have hN8 := V.N8
  have hD1b : decide (0 < D.b.L) = true → 1 ≤ (acB D.b).P * (acB D.b).N := fun z => by
    have z2 := vb.l (of_decide_eq_true z)
    rw [aN, aP]
    exact Nat.mul_pos (by omega) (by omega)
  have hbN : decide (0 < D.b.L) = false → (acB D.b).N = 0 := fun z => by
    have := of_decide_eq_false z
    rw [aN]
    exact (vb.z (by omega)).2.2.1
  have hP1 : 0 < (acB D.b).N → 0 < (acB D.b).P := fun z => by
    rcases Nat.lt_or_ge 0 D.b.L with y | y
    · have := vb.l y
      omega
    · have := vb.z (by omega)
      omega
  refine X 200 _ _ _ _ _ _ _ _ _ ?_
  refine k_rights X Kt.C G hn2 hbN (fun A1 B1 fc => ?_)
  have hA9 : A1 900 = A 900 := fc.ar 900 (by decide)
  have M1 := Mt.lo fc.lo
  have hbM := M1.bk Dv
  refine r_rights X M1.M G (by omega) hbM (fun I2 A2 B2 M2 f2 => ?_)
  refine And.intro (fun q1 => ?_) (fun q1 => ?_)
  · exact h _ _ _ _ _ D hwf ((Kt.fC fc).hi f2.out) (M1.fM M2 f2) Dv (f2.out 900 (by omega)).1 ((f2.out 900 (by omega)).2.1.trans hA9)
  · first | exact absurd rfl q1 | exact absurd (by rw [hA9]) q1 --end
set_option maxRecDepth 20000 in
theorem law_righted {J : mJ} (X : mRules J) {I A : mI} {B : mB} {w f : Nat} {R : mR} {D : Dt} (Kt : KSt I A B D) (Mt : MSt w I A B D) (Dv : DV D) (hwf : w = 44 ∧ f = 45 ∨ w = 45 ∧ f = 44) {i len : Nat} (h9 : I 900 0 = nI len) (hl : len ≤ 3072) (hi : i + 6 ≤ len) (h : lwH J I A i R) : J n_law 1489 [.retAddr 0, .ref 0, .ref 43, .int (nI i)] [] I A B (pk w f) R := by
  have Jv := Dv.iv
  have G := Jv.G
  have V := G.V
  have vb : BkV D.b.P D.b.N D.b.K D.b.L D.b.T D.b.m D.b.rw := Dv.b
  have hnn := vb.n vb.K1 vb.K4
  have hn2 : (acB D.b).n ≤ 220 := hnn.1
  have hc6 : ct (fun j => decide (¬ ((acB D.b).so j = 1 ∨ (acB D.b).so j = 2))) (acB D.b).n + 8 ≤ 80 := hnn.2.1
  have hbK := Kt.bk Dv
  have hbM := Mt.bk Dv
  have aN := Jv.N
  have aP := Jv.P
  have hcN := V.cN
  have hN8 := V.N8
  have hD1b : decide (0 < D.b.L) = true → 1 ≤ (acB D.b).P * (acB D.b).N := fun z => by
    have z2 := vb.l (of_decide_eq_true z)
    rw [aN, aP]
    exact Nat.mul_pos (by omega) (by omega)
  have hbN : decide (0 < D.b.L) = false → (acB D.b).N = 0 := fun z => by
    have := of_decide_eq_false z
    rw [aN]
    exact (vb.z (by omega)).2.2.1
  have hP1 : 0 < (acB D.b).N → 0 < (acB D.b).P := fun z => by
    rcases Nat.lt_or_ge 0 D.b.L with y | y
    · have := vb.l y
      omega
    · have := vb.z (by omega)
      omega
  refine X 200 _ _ _ _ _ _ _ _ _ ?_
  refine k_righted X Kt.C G hn2 hbN (fun A1 B1 fc => ?_)
  have hA9 : A1 900 = A 900 := fc.ar 900 (by decide)
  have M1 := Mt.lo fc.lo
  have hbM := M1.bk Dv
  refine r_righted X M1.M G (by omega) hbM (fun I2 A2 B2 M2 f2 => ?_)
  refine And.intro (fun q1 => ?_) (fun q1 => ?_)
  · exact h _ _ _ _ _ D hwf ((Kt.fC fc).hi f2.out) (M1.fM M2 f2) Dv (f2.out 900 (by omega)).1 ((f2.out 900 (by omega)).2.1.trans hA9)
  · first | exact absurd rfl q1 | exact absurd (by rw [hA9]) q1 --end
set_option maxRecDepth 20000 in
theorem law_settled {J : mJ} (X : mRules J) {I A : mI} {B : mB} {w f : Nat} {R : mR} {D : Dt} (Kt : KSt I A B D) (Mt : MSt w I A B D) (Dv : DV D) (hwf : w = 44 ∧ f = 45 ∨ w = 45 ∧ f = 44) {i len : Nat} (h9 : I 900 0 = nI len) (hl : len ≤ 3072) (hi : i + 6 ≤ len) (h : lwH J I A i R) : J n_law 1503 [.retAddr 0, .ref 0, .ref 43, .int (nI i)] [] I A B (pk w f) R := by
  have Jv := Dv.iv
  have G := Jv.G
  have V := G.V
  have vb : BkV D.b.P D.b.N D.b.K D.b.L D.b.T D.b.m D.b.rw := Dv.b
  have hnn := vb.n vb.K1 vb.K4
  have hn2 : (acB D.b).n ≤ 220 := hnn.1
  have hc6 : ct (fun j => decide (¬ ((acB D.b).so j = 1 ∨ (acB D.b).so j = 2))) (acB D.b).n + 8 ≤ 80 := hnn.2.1
  have hbK := Kt.bk Dv
  have hbM := Mt.bk Dv
  have aN := Jv.N
  have aP := Jv.P
  have hcN := V.cN
  have hN8 := V.N8
  have hD1b : decide (0 < D.b.L) = true → 1 ≤ (acB D.b).P * (acB D.b).N := fun z => by
    have z2 := vb.l (of_decide_eq_true z)
    rw [aN, aP]
    exact Nat.mul_pos (by omega) (by omega)
  have hbN : decide (0 < D.b.L) = false → (acB D.b).N = 0 := fun z => by
    have := of_decide_eq_false z
    rw [aN]
    exact (vb.z (by omega)).2.2.1
  have hP1 : 0 < (acB D.b).N → 0 < (acB D.b).P := fun z => by
    rcases Nat.lt_or_ge 0 D.b.L with y | y
    · have := vb.l y
      omega
    · have := vb.z (by omega)
      omega
  refine X 200 _ _ _ _ _ _ _ _ _ ?_
  refine k_settled X Kt.C G hn2 hc6 hbK (fun A1 B1 fc => ?_)
  have hA9 : A1 900 = A 900 := fc.ar 900 (by decide)
  have M1 := Mt.lo fc.lo
  have hbM := M1.bk Dv
  refine r_settled X M1.M G (by omega) hbM (fun I2 A2 B2 M2 f2 => ?_)
  refine And.intro (fun q1 => ?_) (fun q1 => ?_)
  · exact h _ _ _ _ _ D hwf ((Kt.fC fc).hi f2.out) (M1.fM M2 f2) Dv (f2.out 900 (by omega)).1 ((f2.out 900 (by omega)).2.1.trans hA9)
  · first | exact absurd rfl q1 | exact absurd (by rw [hA9]) q1 --end
set_option maxRecDepth 20000 in
theorem law_ideal {J : mJ} (X : mRules J) {I A : mI} {B : mB} {w f : Nat} {R : mR} {D : Dt} (Kt : KSt I A B D) (Mt : MSt w I A B D) (Dv : DV D) (hwf : w = 44 ∧ f = 45 ∨ w = 45 ∧ f = 44) {i len : Nat} (h9 : I 900 0 = nI len) (hl : len ≤ 3072) (hi : i + 6 ≤ len) (h : lwH J I A i R) : J n_law 1541 [.retAddr 0, .ref 0, .ref 43, .int (nI i)] [] I A B (pk w f) R := by
  have Jv := Dv.iv
  have G := Jv.G
  have V := G.V
  have vb : BkV D.b.P D.b.N D.b.K D.b.L D.b.T D.b.m D.b.rw := Dv.b
  have hnn := vb.n vb.K1 vb.K4
  have hn2 : (acB D.b).n ≤ 220 := hnn.1
  have hc6 : ct (fun j => decide (¬ ((acB D.b).so j = 1 ∨ (acB D.b).so j = 2))) (acB D.b).n + 8 ≤ 80 := hnn.2.1
  have hbK := Kt.bk Dv
  have hbM := Mt.bk Dv
  have aN := Jv.N
  have aP := Jv.P
  have hcN := V.cN
  have hN8 := V.N8
  have hD1b : decide (0 < D.b.L) = true → 1 ≤ (acB D.b).P * (acB D.b).N := fun z => by
    have z2 := vb.l (of_decide_eq_true z)
    rw [aN, aP]
    exact Nat.mul_pos (by omega) (by omega)
  have hbN : decide (0 < D.b.L) = false → (acB D.b).N = 0 := fun z => by
    have := of_decide_eq_false z
    rw [aN]
    exact (vb.z (by omega)).2.2.1
  have hP1 : 0 < (acB D.b).N → 0 < (acB D.b).P := fun z => by
    rcases Nat.lt_or_ge 0 D.b.L with y | y
    · have := vb.l y
      omega
    · have := vb.z (by omega)
      omega
  refine X 200 _ _ _ _ _ _ _ _ _ ?_
  refine And.intro (by first | exact scI (c := 1) h9 hl (by omega) rfl | exact scI (c := 2) h9 hl (by omega) rfl | exact scI (c := 3) h9 hl (by omega) rfl | exact scI (c := 4) h9 hl (by omega) rfl | exact scI (c := 5) h9 hl (by omega) rfl) ?_
  refine k_ideal X Kt.C G hn2 Jv.T (fun A1 B1 fc => ?_)
  have hA9 : A1 900 = A 900 := fc.ar 900 (by decide)
  have M1 := Mt.lo fc.lo
  have hbM := M1.bk Dv
  refine And.intro (by first | exact scI (c := 1) h9 hl (by omega) rfl | exact scI (c := 2) h9 hl (by omega) rfl | exact scI (c := 3) h9 hl (by omega) rfl | exact scI (c := 4) h9 hl (by omega) rfl | exact scI (c := 5) h9 hl (by omega) rfl) ?_
  refine r_ideal X M1.M V (by omega) (fun q hq => vw_ie G Jv.T (by omega) q (by omega)) (fun I2 A2 B2 M2 f2 => ?_)
  refine And.intro (fun q1 => ?_) (fun q1 => ?_)
  · exact h _ _ _ _ _ D hwf ((Kt.fC fc).hi f2.out) (M1.fM M2 f2) Dv (f2.out 900 (by omega)).1 ((f2.out 900 (by omega)).2.1.trans hA9)
  · first | exact absurd rfl q1 | exact absurd (by rw [hA9]) q1 --end
set_option maxRecDepth 20000 in
theorem law_planned {J : mJ} (X : mRules J) {I A : mI} {B : mB} {w f : Nat} {R : mR} {D : Dt} (Kt : KSt I A B D) (Mt : MSt w I A B D) (Dv : DV D) (hwf : w = 44 ∧ f = 45 ∨ w = 45 ∧ f = 44) {i len : Nat} (h9 : I 900 0 = nI len) (hl : len ≤ 3072) (hi : i + 6 ≤ len) (h : lwH J I A i R) : J n_law 1565 [.retAddr 0, .ref 0, .ref 43, .int (nI i)] [] I A B (pk w f) R := by
  have Jv := Dv.iv
  have G := Jv.G
  have V := G.V
  have vb : BkV D.b.P D.b.N D.b.K D.b.L D.b.T D.b.m D.b.rw := Dv.b
  have hnn := vb.n vb.K1 vb.K4
  have hn2 : (acB D.b).n ≤ 220 := hnn.1
  have hc6 : ct (fun j => decide (¬ ((acB D.b).so j = 1 ∨ (acB D.b).so j = 2))) (acB D.b).n + 8 ≤ 80 := hnn.2.1
  have hbK := Kt.bk Dv
  have hbM := Mt.bk Dv
  have aN := Jv.N
  have aP := Jv.P
  have hcN := V.cN
  have hN8 := V.N8
  have hD1b : decide (0 < D.b.L) = true → 1 ≤ (acB D.b).P * (acB D.b).N := fun z => by
    have z2 := vb.l (of_decide_eq_true z)
    rw [aN, aP]
    exact Nat.mul_pos (by omega) (by omega)
  have hbN : decide (0 < D.b.L) = false → (acB D.b).N = 0 := fun z => by
    have := of_decide_eq_false z
    rw [aN]
    exact (vb.z (by omega)).2.2.1
  have hP1 : 0 < (acB D.b).N → 0 < (acB D.b).P := fun z => by
    rcases Nat.lt_or_ge 0 D.b.L with y | y
    · have := vb.l y
      omega
    · have := vb.z (by omega)
      omega
  refine X 200 _ _ _ _ _ _ _ _ _ ?_
  refine And.intro (by first | exact scI (c := 1) h9 hl (by omega) rfl | exact scI (c := 2) h9 hl (by omega) rfl | exact scI (c := 3) h9 hl (by omega) rfl | exact scI (c := 4) h9 hl (by omega) rfl | exact scI (c := 5) h9 hl (by omega) rfl) ?_
  refine And.intro (by first | exact scI (c := 1) h9 hl (by omega) rfl | exact scI (c := 2) h9 hl (by omega) rfl | exact scI (c := 3) h9 hl (by omega) rfl | exact scI (c := 4) h9 hl (by omega) rfl | exact scI (c := 5) h9 hl (by omega) rfl) ?_
  refine And.intro (by first | exact scI (c := 1) h9 hl (by omega) rfl | exact scI (c := 2) h9 hl (by omega) rfl | exact scI (c := 3) h9 hl (by omega) rfl | exact scI (c := 4) h9 hl (by omega) rfl | exact scI (c := 5) h9 hl (by omega) rfl) ?_
  refine k_planned X Kt.C G hn2 hc6 (fun A1 B1 fc => ?_)
  have hA9 : A1 900 = A 900 := fc.ar 900 (by decide)
  have M1 := Mt.lo fc.lo
  have hbM := M1.bk Dv
  refine And.intro (by first | exact scI (c := 1) h9 hl (by omega) rfl | exact scI (c := 2) h9 hl (by omega) rfl | exact scI (c := 3) h9 hl (by omega) rfl | exact scI (c := 4) h9 hl (by omega) rfl | exact scI (c := 5) h9 hl (by omega) rfl) ?_
  refine And.intro (by first | exact scI (c := 1) h9 hl (by omega) rfl | exact scI (c := 2) h9 hl (by omega) rfl | exact scI (c := 3) h9 hl (by omega) rfl | exact scI (c := 4) h9 hl (by omega) rfl | exact scI (c := 5) h9 hl (by omega) rfl) ?_
  refine And.intro (by first | exact scI (c := 1) h9 hl (by omega) rfl | exact scI (c := 2) h9 hl (by omega) rfl | exact scI (c := 3) h9 hl (by omega) rfl | exact scI (c := 4) h9 hl (by omega) rfl | exact scI (c := 5) h9 hl (by omega) rfl) ?_
  refine r_planned2 X M1.M V (fun d0 m0 k hd hm hk => (gd_pl G (by omega) hc6 (by have := D320 V; omega) hm k hk).1) (by omega) (fun I2 A2 B2 M2 f2 => ?_)
  refine And.intro (fun q1 => ?_) (fun q1 => ?_)
  · exact h _ _ _ _ _ D hwf ((Kt.fC fc).hi f2.out) (M1.fM M2 f2) Dv (f2.out 900 (by omega)).1 ((f2.out 900 (by omega)).2.1.trans hA9)
  · first | exact absurd rfl q1 | exact absurd (by rw [hA9]) q1 --end
set_option maxRecDepth 20000 in
theorem law_plan {J : mJ} (X : mRules J) {I A : mI} {B : mB} {w f : Nat} {R : mR} {D : Dt} (Kt : KSt I A B D) (Mt : MSt w I A B D) (Dv : DV D) (hwf : w = 44 ∧ f = 45 ∨ w = 45 ∧ f = 44) {i len : Nat} (h9 : I 900 0 = nI len) (hl : len ≤ 3072) (hi : i + 6 ≤ len) (h : lwH J I A i R) : J n_law 1609 [.retAddr 0, .ref 0, .ref 43, .int (nI i)] [] I A B (pk w f) R := by
  have Jv := Dv.iv
  have G := Jv.G
  have V := G.V
  have vb : BkV D.b.P D.b.N D.b.K D.b.L D.b.T D.b.m D.b.rw := Dv.b
  have hnn := vb.n vb.K1 vb.K4
  have hn2 : (acB D.b).n ≤ 220 := hnn.1
  have hc6 : ct (fun j => decide (¬ ((acB D.b).so j = 1 ∨ (acB D.b).so j = 2))) (acB D.b).n + 8 ≤ 80 := hnn.2.1
  have hbK := Kt.bk Dv
  have hbM := Mt.bk Dv
  have aN := Jv.N
  have aP := Jv.P
  have hcN := V.cN
  have hN8 := V.N8
  have hD1b : decide (0 < D.b.L) = true → 1 ≤ (acB D.b).P * (acB D.b).N := fun z => by
    have z2 := vb.l (of_decide_eq_true z)
    rw [aN, aP]
    exact Nat.mul_pos (by omega) (by omega)
  have hbN : decide (0 < D.b.L) = false → (acB D.b).N = 0 := fun z => by
    have := of_decide_eq_false z
    rw [aN]
    exact (vb.z (by omega)).2.2.1
  have hP1 : 0 < (acB D.b).N → 0 < (acB D.b).P := fun z => by
    rcases Nat.lt_or_ge 0 D.b.L with y | y
    · have := vb.l y
      omega
    · have := vb.z (by omega)
      omega
  refine X 200 _ _ _ _ _ _ _ _ _ ?_
  refine And.intro (by first | exact scI (c := 1) h9 hl (by omega) rfl | exact scI (c := 2) h9 hl (by omega) rfl | exact scI (c := 3) h9 hl (by omega) rfl | exact scI (c := 4) h9 hl (by omega) rfl | exact scI (c := 5) h9 hl (by omega) rfl) ?_
  refine And.intro (by first | exact scI (c := 1) h9 hl (by omega) rfl | exact scI (c := 2) h9 hl (by omega) rfl | exact scI (c := 3) h9 hl (by omega) rfl | exact scI (c := 4) h9 hl (by omega) rfl | exact scI (c := 5) h9 hl (by omega) rfl) ?_
  refine k_plan X Kt.C G hn2 hc6 (fun A1 B1 fc => ?_)
  have hA9 : A1 900 = A 900 := fc.ar 900 (by decide)
  have M1 := Mt.lo fc.lo
  have hbM := M1.bk Dv
  refine And.intro (by first | exact scI (c := 1) h9 hl (by omega) rfl | exact scI (c := 2) h9 hl (by omega) rfl | exact scI (c := 3) h9 hl (by omega) rfl | exact scI (c := 4) h9 hl (by omega) rfl | exact scI (c := 5) h9 hl (by omega) rfl) ?_
  refine And.intro (by first | exact scI (c := 1) h9 hl (by omega) rfl | exact scI (c := 2) h9 hl (by omega) rfl | exact scI (c := 3) h9 hl (by omega) rfl | exact scI (c := 4) h9 hl (by omega) rfl | exact scI (c := 5) h9 hl (by omega) rfl) ?_
  refine r_plan2 X M1.M V (fun d0 m0 k hd hm hk => (gd_pl G (by omega) hc6 (by have := D320 V; omega) hm k hk).1) (by omega) (fun d0 k0 hd hk => cp_a G (by omega) hc6 (by have := D320 V; omega) hk) (fun I2 A2 B2 M2 f2 => ?_)
  refine And.intro (fun q1 => ?_) (fun q1 => ?_)
  · exact h _ _ _ _ _ D hwf ((Kt.fC fc).hi f2.out) (M1.fM M2 f2) Dv (f2.out 900 (by omega)).1 ((f2.out 900 (by omega)).2.1.trans hA9)
  · first | exact absurd rfl q1 | exact absurd (by rw [hA9]) q1 --end
set_option maxRecDepth 20000 in
theorem law_left {J : mJ} (X : mRules J) {I A : mI} {B : mB} {w f : Nat} {R : mR} {D : Dt} (Kt : KSt I A B D) (Mt : MSt w I A B D) (Dv : DV D) (hwf : w = 44 ∧ f = 45 ∨ w = 45 ∧ f = 44) {i len : Nat} (h9 : I 900 0 = nI len) (hl : len ≤ 3072) (hi : i + 6 ≤ len) (h : lwH J I A i R) : J n_law 1642 [.retAddr 0, .ref 0, .ref 43, .int (nI i)] [] I A B (pk w f) R := by
  have Jv := Dv.iv
  have G := Jv.G
  have V := G.V
  have vb : BkV D.b.P D.b.N D.b.K D.b.L D.b.T D.b.m D.b.rw := Dv.b
  have hnn := vb.n vb.K1 vb.K4
  have hn2 : (acB D.b).n ≤ 220 := hnn.1
  have hc6 : ct (fun j => decide (¬ ((acB D.b).so j = 1 ∨ (acB D.b).so j = 2))) (acB D.b).n + 8 ≤ 80 := hnn.2.1
  have hbK := Kt.bk Dv
  have hbM := Mt.bk Dv
  have aN := Jv.N
  have aP := Jv.P
  have hcN := V.cN
  have hN8 := V.N8
  have hD1b : decide (0 < D.b.L) = true → 1 ≤ (acB D.b).P * (acB D.b).N := fun z => by
    have z2 := vb.l (of_decide_eq_true z)
    rw [aN, aP]
    exact Nat.mul_pos (by omega) (by omega)
  have hbN : decide (0 < D.b.L) = false → (acB D.b).N = 0 := fun z => by
    have := of_decide_eq_false z
    rw [aN]
    exact (vb.z (by omega)).2.2.1
  have hP1 : 0 < (acB D.b).N → 0 < (acB D.b).P := fun z => by
    rcases Nat.lt_or_ge 0 D.b.L with y | y
    · have := vb.l y
      omega
    · have := vb.z (by omega)
      omega
  refine X 200 _ _ _ _ _ _ _ _ _ ?_
  refine And.intro (by first | exact scI (c := 1) h9 hl (by omega) rfl | exact scI (c := 2) h9 hl (by omega) rfl | exact scI (c := 3) h9 hl (by omega) rfl | exact scI (c := 4) h9 hl (by omega) rfl | exact scI (c := 5) h9 hl (by omega) rfl) ?_
  refine k_left X Kt.C G hn2  (fun A1 B1 fc => ?_)
  have hA9 : A1 900 = A 900 := fc.ar 900 (by decide)
  have M1 := Mt.lo fc.lo
  have hbM := M1.bk Dv
  refine And.intro (by first | exact scI (c := 1) h9 hl (by omega) rfl | exact scI (c := 2) h9 hl (by omega) rfl | exact scI (c := 3) h9 hl (by omega) rfl | exact scI (c := 4) h9 hl (by omega) rfl | exact scI (c := 5) h9 hl (by omega) rfl) ?_
  refine r_left X M1.M V (fun I2 A2 B2 M2 f2 => ?_)
  refine And.intro (fun q1 => ?_) (fun q1 => ?_)
  · exact h _ _ _ _ _ D hwf ((Kt.fC fc).hi f2.out) (M1.fM M2 f2) Dv (f2.out 900 (by omega)).1 ((f2.out 900 (by omega)).2.1.trans hA9)
  · first | exact absurd rfl q1 | exact absurd (by rw [hA9]) q1 --end
set_option maxRecDepth 20000 in
theorem law_gone {J : mJ} (X : mRules J) {I A : mI} {B : mB} {w f : Nat} {R : mR} {D : Dt} (Kt : KSt I A B D) (Mt : MSt w I A B D) (Dv : DV D) (hwf : w = 44 ∧ f = 45 ∨ w = 45 ∧ f = 44) {i len : Nat} (h9 : I 900 0 = nI len) (hl : len ≤ 3072) (hi : i + 6 ≤ len) (h : lwH J I A i R) : J n_law 1666 [.retAddr 0, .ref 0, .ref 43, .int (nI i)] [] I A B (pk w f) R := by
  have Jv := Dv.iv
  have G := Jv.G
  have V := G.V
  have vb : BkV D.b.P D.b.N D.b.K D.b.L D.b.T D.b.m D.b.rw := Dv.b
  have hnn := vb.n vb.K1 vb.K4
  have hn2 : (acB D.b).n ≤ 220 := hnn.1
  have hc6 : ct (fun j => decide (¬ ((acB D.b).so j = 1 ∨ (acB D.b).so j = 2))) (acB D.b).n + 8 ≤ 80 := hnn.2.1
  have hbK := Kt.bk Dv
  have hbM := Mt.bk Dv
  have aN := Jv.N
  have aP := Jv.P
  have hcN := V.cN
  have hN8 := V.N8
  have hD1b : decide (0 < D.b.L) = true → 1 ≤ (acB D.b).P * (acB D.b).N := fun z => by
    have z2 := vb.l (of_decide_eq_true z)
    rw [aN, aP]
    exact Nat.mul_pos (by omega) (by omega)
  have hbN : decide (0 < D.b.L) = false → (acB D.b).N = 0 := fun z => by
    have := of_decide_eq_false z
    rw [aN]
    exact (vb.z (by omega)).2.2.1
  have hP1 : 0 < (acB D.b).N → 0 < (acB D.b).P := fun z => by
    rcases Nat.lt_or_ge 0 D.b.L with y | y
    · have := vb.l y
      omega
    · have := vb.z (by omega)
      omega
  refine X 200 _ _ _ _ _ _ _ _ _ ?_
  refine And.intro (by first | exact scI (c := 1) h9 hl (by omega) rfl | exact scI (c := 2) h9 hl (by omega) rfl | exact scI (c := 3) h9 hl (by omega) rfl | exact scI (c := 4) h9 hl (by omega) rfl | exact scI (c := 5) h9 hl (by omega) rfl) ?_
  refine k_gone X Kt.C G hn2  (fun A1 B1 fc => ?_)
  have hA9 : A1 900 = A 900 := fc.ar 900 (by decide)
  have M1 := Mt.lo fc.lo
  have hbM := M1.bk Dv
  refine And.intro (by first | exact scI (c := 1) h9 hl (by omega) rfl | exact scI (c := 2) h9 hl (by omega) rfl | exact scI (c := 3) h9 hl (by omega) rfl | exact scI (c := 4) h9 hl (by omega) rfl | exact scI (c := 5) h9 hl (by omega) rfl) ?_
  refine r_gone X M1.M V (fun I2 A2 B2 M2 f2 => ?_)
  refine And.intro (fun q1 => ?_) (fun q1 => ?_)
  · exact h _ _ _ _ _ D hwf ((Kt.fC fc).hi f2.out) (M1.fM M2 f2) Dv (f2.out 900 (by omega)).1 ((f2.out 900 (by omega)).2.1.trans hA9)
  · first | exact absurd rfl q1 | exact absurd (by rw [hA9]) q1 --end
set_option maxRecDepth 20000 in
theorem law_oldest {J : mJ} (X : mRules J) {I A : mI} {B : mB} {w f : Nat} {R : mR} {D : Dt} (Kt : KSt I A B D) (Mt : MSt w I A B D) (Dv : DV D) (hwf : w = 44 ∧ f = 45 ∨ w = 45 ∧ f = 44) {i len : Nat} (h9 : I 900 0 = nI len) (hl : len ≤ 3072) (hi : i + 6 ≤ len) (h : lwH J I A i R) : J n_law 1689 [.retAddr 0, .ref 0, .ref 43, .int (nI i)] [] I A B (pk w f) R := by
  have Jv := Dv.iv
  have G := Jv.G
  have V := G.V
  have vb : BkV D.b.P D.b.N D.b.K D.b.L D.b.T D.b.m D.b.rw := Dv.b
  have hnn := vb.n vb.K1 vb.K4
  have hn2 : (acB D.b).n ≤ 220 := hnn.1
  have hc6 : ct (fun j => decide (¬ ((acB D.b).so j = 1 ∨ (acB D.b).so j = 2))) (acB D.b).n + 8 ≤ 80 := hnn.2.1
  have hbK := Kt.bk Dv
  have hbM := Mt.bk Dv
  have aN := Jv.N
  have aP := Jv.P
  have hcN := V.cN
  have hN8 := V.N8
  have hD1b : decide (0 < D.b.L) = true → 1 ≤ (acB D.b).P * (acB D.b).N := fun z => by
    have z2 := vb.l (of_decide_eq_true z)
    rw [aN, aP]
    exact Nat.mul_pos (by omega) (by omega)
  have hbN : decide (0 < D.b.L) = false → (acB D.b).N = 0 := fun z => by
    have := of_decide_eq_false z
    rw [aN]
    exact (vb.z (by omega)).2.2.1
  have hP1 : 0 < (acB D.b).N → 0 < (acB D.b).P := fun z => by
    rcases Nat.lt_or_ge 0 D.b.L with y | y
    · have := vb.l y
      omega
    · have := vb.z (by omega)
      omega
  refine X 200 _ _ _ _ _ _ _ _ _ ?_
  refine k_oldest X Kt.C G hn2 hbK (fun A1 B1 fc => ?_)
  have hA9 : A1 900 = A 900 := fc.ar 900 (by decide)
  have M1 := Mt.lo fc.lo
  have hbM := M1.bk Dv
  refine r_oldest X M1.M V hbM (fun I2 A2 B2 M2 f2 => ?_)
  refine And.intro (fun q1 => ?_) (fun q1 => ?_)
  · exact h _ _ _ _ _ D hwf ((Kt.fC fc).hi f2.out) (M1.fM M2 f2) Dv (f2.out 900 (by omega)).1 ((f2.out 900 (by omega)).2.1.trans hA9)
  · first | exact absurd rfl q1 | exact absurd (by rw [hA9]) q1 --end
