/-! the law: images, acts taken back, texts (written by wip/whole/gl3.py) -/
set_option maxRecDepth 20000 in
theorem k_best0 {J : mJ} (X : mRules J) {I A : mI} {B : mB} {w f : Nat} {R : mR} (hz : I 29 6 = nI 0) {e : Int32} (h : R (some (.int (-2))) I A B (pk w f)) : J n_V_bestDay 0 [.ref 0, .int e] [] I A B (pk w f) R := by
  refine X 200 _ _ _ _ _ _ _ _ _ ?_
  refine c_has X (D := 0) (by decide) hz (fun k hk => absurd hk (Nat.not_lt_zero k)) (fun _ => ?_)
  refine And.intro (fun _ => ?_) (fun q => absurd (by decide) q)
  exact h
set_option maxRecDepth 20000 in
theorem r_best0 {J : mJ} (X : mRules J) {I A : mI} {B : mB} {w f : Nat} {R : mR} {a : Ac} (M : MR a w I A B) (V : Vw a) (hz : a.n = 0) {e : Int32} (h : R (some (.int (-2))) I A B (pk w f)) : J n_M_bestDay 0 [.ref 43, .int e, .float 0, .float 0, .float 0, .float 0, .float 0, .float 0] [] I A B (pk w f) R := by
  refine X 200 _ _ _ _ _ _ _ _ _ ?_
  refine c_MisEntry X M V (fun k hk => absurd hk (by omega)) (fun _ => ?_)
  refine And.intro (fun q => absurd (by decide) q) (fun _ => ?_)
  exact h
set_option maxRecDepth 20000 in
theorem law_bestDay1 {J : mJ} (X : mRules J) {I A : mI} {B : mB} {w f : Nat} {R : mR} {D : Dt} (Kt : KSt I A B D) (Mt : MSt w I A B D) (Dv : DV D) (hwf : w = 44 ∧ f = 45 ∨ w = 45 ∧ f = 44) {i len : Nat} (h9 : I 900 0 = nI len) (hl : len ≤ 3072) (hi : i + 6 ≤ len) (h : lwH J I A i R) (hL : 0 < D.b.L) : J n_law 1032 [.retAddr 0, .ref 0, .ref 43, .int (nI i)] [] I A B (pk w f) R := by
  have Jv := Dv.iv
  have G := Jv.G
  have V := G.V
  have vb : BkV D.b.P D.b.N D.b.K D.b.L D.b.T D.b.m D.b.rw := Dv.b
  have hnn := vb.n vb.K1 vb.K4
  have hn2 : (acB D.b).n ≤ 220 := hnn.1
  have hc6 : ct (fun j => decide (¬ ((acB D.b).so j = 1 ∨ (acB D.b).so j = 2))) (acB D.b).n + 8 ≤ 80 := hnn.2.1
  have hbK := Kt.bk Dv
  have hbM := Mt.bk Dv
  have aN := Jv.N
  have aP := Jv.P
  have hcN := V.cN
  have hN8 := V.N8
  have hD1b : decide (0 < D.b.L) = true → 1 ≤ (acB D.b).P * (acB D.b).N := fun z => by
    have z2 := vb.l (of_decide_eq_true z)
    rw [aN, aP]
    exact Nat.mul_pos (by omega) (by omega)
  have hbN : decide (0 < D.b.L) = false → (acB D.b).N = 0 := fun z => by
    have := of_decide_eq_false z
    rw [aN]
    exact (vb.z (by omega)).2.2.1
  have hP1 : 0 < (acB D.b).N → 0 < (acB D.b).P := fun z => by
    rcases Nat.lt_or_ge 0 D.b.L with y | y
    · have := vb.l y
      omega
    · have := vb.z (by omega)
      omega
  have hD1 := hD1b (decide_eq_true hL)
  refine X 200 _ _ _ _ _ _ _ _ _ ?_
  refine And.intro (by first | exact scI (c := 1) h91 hl (by omega) rfl | exact scI (c := 1) h9 hl (by omega) rfl) ?_
  refine k_best X Kt.C G hn2 hD1 (fun A1 B1 fc => ?_)
  have hA9 : A1 900 = A 900 := fc.ar 900 (by decide)
  have M1 := Mt.lo fc.lo
  refine And.intro (by first | exact scI (c := 1) h91 hl (by omega) rfl | exact scI (c := 1) h9 hl (by omega) rfl) ?_
  refine r_best X M1.M V hD1 (fun I2 A2 B2 M2 f2 => ?_)
  refine And.intro (fun q1 => ?_) (fun q1 => ?_)
  · exact h _ _ _ _ _ D hwf ((Kt.fC fc).hi f2.out) (M1.fM M2 f2) Dv (f2.out 900 (by omega)).1 ((f2.out 900 (by omega)).2.1.trans hA9)
  · first | exact absurd rfl q1 | exact absurd (by rw [hA9]) q1 --end
set_option maxRecDepth 20000 in
theorem law_bestDay0 {J : mJ} (X : mRules J) {I A : mI} {B : mB} {w f : Nat} {R : mR} {D : Dt} (Kt : KSt I A B D) (Mt : MSt w I A B D) (Dv : DV D) (hwf : w = 44 ∧ f = 45 ∨ w = 45 ∧ f = 44) {i len : Nat} (h9 : I 900 0 = nI len) (hl : len ≤ 3072) (hi : i + 6 ≤ len) (h : lwH J I A i R) (hL : D.b.L = 0) : J n_law 1032 [.retAddr 0, .ref 0, .ref 43, .int (nI i)] [] I A B (pk w f) R := by
  have Jv := Dv.iv
  have G := Jv.G
  have V := G.V
  have vb : BkV D.b.P D.b.N D.b.K D.b.L D.b.T D.b.m D.b.rw := Dv.b
  have hnn := vb.n vb.K1 vb.K4
  have hn2 : (acB D.b).n ≤ 220 := hnn.1
  have hc6 : ct (fun j => decide (¬ ((acB D.b).so j = 1 ∨ (acB D.b).so j = 2))) (acB D.b).n + 8 ≤ 80 := hnn.2.1
  have hbK := Kt.bk Dv
  have hbM := Mt.bk Dv
  have aN := Jv.N
  have aP := Jv.P
  have hcN := V.cN
  have hN8 := V.N8
  have hD1b : decide (0 < D.b.L) = true → 1 ≤ (acB D.b).P * (acB D.b).N := fun z => by
    have z2 := vb.l (of_decide_eq_true z)
    rw [aN, aP]
    exact Nat.mul_pos (by omega) (by omega)
  have hbN : decide (0 < D.b.L) = false → (acB D.b).N = 0 := fun z => by
    have := of_decide_eq_false z
    rw [aN]
    exact (vb.z (by omega)).2.2.1
  have hP1 : 0 < (acB D.b).N → 0 < (acB D.b).P := fun z => by
    rcases Nat.lt_or_ge 0 D.b.L with y | y
    · have := vb.l y
      omega
    · have := vb.z (by omega)
      omega
  have hz : (acB D.b).n = 0 := by
    show (zrn D.b.P D.b.N D.b.K D.b.rw D.b.m).n = 0
    rw [(vb.z hL).1]
    rfl
  refine X 200 _ _ _ _ _ _ _ _ _ ?_
  refine And.intro (by first | exact scI (c := 1) h91 hl (by omega) rfl | exact scI (c := 1) h9 hl (by omega) rfl) ?_
  refine k_best0 X (by rw [Kt.C.hn, hz]) ?_
  refine And.intro (by first | exact scI (c := 1) h91 hl (by omega) rfl | exact scI (c := 1) h9 hl (by omega) rfl) ?_
  refine r_best0 X Mt.M V hz ?_
  refine And.intro (fun _ => ?_) (fun q => absurd (by decide) q)
  exact h _ _ _ _ _ D hwf Kt Mt Dv rfl rfl
theorem law_bestDay {J : mJ} (X : mRules J) {I A : mI} {B : mB} {w f : Nat} {R : mR} {D : Dt} (Kt : KSt I A B D) (Mt : MSt w I A B D) (Dv : DV D) (hwf : w = 44 ∧ f = 45 ∨ w = 45 ∧ f = 44) {i len : Nat} (h9 : I 900 0 = nI len) (hl : len ≤ 3072) (hi : i + 6 ≤ len) (h : lwH J I A i R) : J n_law 1032 [.retAddr 0, .ref 0, .ref 43, .int (nI i)] [] I A B (pk w f) R := by
  rcases Nat.lt_or_ge 0 D.b.L with z | z
  · exact law_bestDay1 X Kt Mt Dv hwf h9 hl hi h z
  · exact law_bestDay0 X Kt Mt Dv hwf h9 hl hi h (by omega)
set_option maxRecDepth 20000 in
theorem law_undo {J : mJ} (X : mRules J) {I A : mI} {B : mB} {w f : Nat} {R : mR} {D : Dt} (Kt : KSt I A B D) (Mt : MSt w I A B D) (Dv : DV D) (hwf : w = 44 ∧ f = 45 ∨ w = 45 ∧ f = 44) {i len : Nat} (h9 : I 900 0 = nI len) (hl : len ≤ 3072) (hi : i + 6 ≤ len) (h : lwH J I A i R)  : J n_law 1906 [.retAddr 0, .ref 0, .ref 43, .int (nI i)] [] I A B (pk w f) R := by
  have Jv := Dv.iv
  have G := Jv.G
  have V := G.V
  have vb : BkV D.b.P D.b.N D.b.K D.b.L D.b.T D.b.m D.b.rw := Dv.b
  have hnn := vb.n vb.K1 vb.K4
  have hn2 : (acB D.b).n ≤ 220 := hnn.1
  have hc6 : ct (fun j => decide (¬ ((acB D.b).so j = 1 ∨ (acB D.b).so j = 2))) (acB D.b).n + 8 ≤ 80 := hnn.2.1
  have hbK := Kt.bk Dv
  have hbM := Mt.bk Dv
  have aN := Jv.N
  have aP := Jv.P
  have hcN := V.cN
  have hN8 := V.N8
  have hD1b : decide (0 < D.b.L) = true → 1 ≤ (acB D.b).P * (acB D.b).N := fun z => by
    have z2 := vb.l (of_decide_eq_true z)
    rw [aN, aP]
    exact Nat.mul_pos (by omega) (by omega)
  have hbN : decide (0 < D.b.L) = false → (acB D.b).N = 0 := fun z => by
    have := of_decide_eq_false z
    rw [aN]
    exact (vb.z (by omega)).2.2.1
  have hP1 : 0 < (acB D.b).N → 0 < (acB D.b).P := fun z => by
    rcases Nat.lt_or_ge 0 D.b.L with y | y
    · have := vb.l y
      omega
    · have := vb.z (by omega)
      omega
  have hmT := vb.mT
  have hT61 := vb.T61
  have hTm := vb.Tm
  have hm100 : D.b.m ≤ 100 := by omega
  have Q := vb.rp vb.K1 vb.K4
  have h5 := Mt.M.w5
  have hLN : 0 < D.b.L → 0 < D.b.N := fun z => by have := vb.l z; omega
  have hbt : decide (0 < D.b.L) = true → 0 < D.b.N := fun z => hLN (of_decide_eq_true z)
  refine X 200 _ _ _ _ _ _ _ _ _ ?_
  refine k_undo X Kt.S hbK hT61 hmT Q (fun zb => ?_) (fun zb ze => ?_) (fun zb zt I1 A1 B1 C1 S1 f1 => ?_)
  · refine r_undo X Mt.M Mt.W hbM hTm hm100 Q (fun _ I2 A2 B2 M2 f2 => ?_) (fun z9 _ => absurd (zb.symm.trans z9) (by decide)) (fun z9 _ => absurd (zb.symm.trans z9) (by decide))
    refine And.intro (fun _ => ?_) (fun q => absurd (by decide) q)
    exact h _ _ _ _ _ D hwf (Kt.hi f2.out) (Mt.fM M2 f2) Dv (f2.out 900 (by omega)).1 (f2.out 900 (by omega)).2.1
  · refine r_undo X Mt.M Mt.W hbM hTm hm100 Q (fun z9 => absurd (zb.symm.trans z9) (by decide)) (fun _ _ I2 A2 B2 M2 f2 => ?_) (fun _ z9 => absurd z9 (by omega))
    refine And.intro (fun _ => ?_) (fun q => absurd (by decide) q)
    exact h _ _ _ _ _ D hwf (Kt.hi f2.out) (Mt.fM M2 f2) Dv (f2.out 900 (by omega)).1 (f2.out 900 (by omega)).2.1
  · have hA9 : A1 900 = A 900 := (f1.lo 900 (by decide)).2.1
    have hI9 : I1 900 = I 900 := (f1.lo 900 (by decide)).1
    have h91 : I1 900 0 = nI len := by rw [hI9]; exact h9
    have M1 := Mt.lo f1.lo
    have hbM1 := M1.bk Dv
    refine r_undo X M1.M M1.W hbM1 hTm hm100 Q (fun z9 => absurd (zb.symm.trans z9) (by decide)) (fun _ z9 => absurd zt (by omega)) (fun _ _ I2 A2 B2 M2 W2 f2 => ?_)
    refine And.intro (fun q1 => ?_) (fun q1 => ?_)
    · have hbN0 : 0 < D.b.N := hbt zb
      have VB9 : vB (D.b.at_ (D.b.m - 1)) := vB_at Dv.b (by omega) (by omega)
      exact h _ _ _ _ _ (D.nb (D.b.at_ (D.b.m - 1))) hwf ((Kt.nb (b' := (D.b.at_ (D.b.m - 1))) C1 S1 hbN0 f1.kI.1 f1.kI.2).hi f2.out) (M1.nb (b' := (D.b.at_ (D.b.m - 1))) M2 W2 hbN0 (f2.kI h5).1 (f2.kI h5).2) (Dv.nb VB9) ((f2.out 900 (by omega)).1.trans hI9) ((f2.out 900 (by omega)).2.1.trans hA9)
    · exact absurd rfl q1 --end
set_option maxRecDepth 20000 in
theorem law_anew {J : mJ} (X : mRules J) {I A : mI} {B : mB} {w f : Nat} {R : mR} {D : Dt} (Kt : KSt I A B D) (Mt : MSt w I A B D) (Dv : DV D) (hwf : w = 44 ∧ f = 45 ∨ w = 45 ∧ f = 44) {i len : Nat} (h9 : I 900 0 = nI len) (hl : len ≤ 3072) (hi : i + 6 ≤ len) (h : lwH J I A i R)  : J n_law 1919 [.retAddr 0, .ref 0, .ref 43, .int (nI i)] [] I A B (pk w f) R := by
  have Jv := Dv.iv
  have G := Jv.G
  have V := G.V
  have vb : BkV D.b.P D.b.N D.b.K D.b.L D.b.T D.b.m D.b.rw := Dv.b
  have hnn := vb.n vb.K1 vb.K4
  have hn2 : (acB D.b).n ≤ 220 := hnn.1
  have hc6 : ct (fun j => decide (¬ ((acB D.b).so j = 1 ∨ (acB D.b).so j = 2))) (acB D.b).n + 8 ≤ 80 := hnn.2.1
  have hbK := Kt.bk Dv
  have hbM := Mt.bk Dv
  have aN := Jv.N
  have aP := Jv.P
  have hcN := V.cN
  have hN8 := V.N8
  have hD1b : decide (0 < D.b.L) = true → 1 ≤ (acB D.b).P * (acB D.b).N := fun z => by
    have z2 := vb.l (of_decide_eq_true z)
    rw [aN, aP]
    exact Nat.mul_pos (by omega) (by omega)
  have hbN : decide (0 < D.b.L) = false → (acB D.b).N = 0 := fun z => by
    have := of_decide_eq_false z
    rw [aN]
    exact (vb.z (by omega)).2.2.1
  have hP1 : 0 < (acB D.b).N → 0 < (acB D.b).P := fun z => by
    rcases Nat.lt_or_ge 0 D.b.L with y | y
    · have := vb.l y
      omega
    · have := vb.z (by omega)
      omega
  have hmT := vb.mT
  have hT61 := vb.T61
  have hTm := vb.Tm
  have hm100 : D.b.m ≤ 100 := by omega
  have Q := vb.rp vb.K1 vb.K4
  have h5 := Mt.M.w5
  have hLN : 0 < D.b.L → 0 < D.b.N := fun z => by have := vb.l z; omega
  have hbt : decide (0 < D.b.L) = true → 0 < D.b.N := fun z => hLN (of_decide_eq_true z)
  refine X 200 _ _ _ _ _ _ _ _ _ ?_
  refine k_anew X Kt.S hbK hT61 hmT Q (fun zb => ?_) (fun zb I1 A1 B1 C1 S1 f1 => ?_)
  · refine r_anew X Mt.M Mt.W hbM hTm hm100 Q (fun _ I2 A2 B2 M2 f2 => ?_) (fun z9 => absurd (zb.symm.trans z9) (by decide))
    refine And.intro (fun _ => ?_) (fun q => absurd (by decide) q)
    exact h _ _ _ _ _ D hwf (Kt.hi f2.out) (Mt.fM M2 f2) Dv (f2.out 900 (by omega)).1 (f2.out 900 (by omega)).2.1
  · have hA9 : A1 900 = A 900 := (f1.lo 900 (by decide)).2.1
    have hI9 : I1 900 = I 900 := (f1.lo 900 (by decide)).1
    have h91 : I1 900 0 = nI len := by rw [hI9]; exact h9
    have M1 := Mt.lo f1.lo
    have hbM1 := M1.bk Dv
    refine r_anew X M1.M M1.W hbM1 hTm hm100 Q (fun z9 => absurd (zb.symm.trans z9) (by decide)) (fun _ I2 A2 B2 M2 W2 f2 => ?_)
    refine And.intro (fun q1 => ?_) (fun q1 => ?_)
    · have hbN0 : 0 < D.b.N := hbt zb
      have VB9 : vB (D.b.at_ D.b.T) := vB_at Dv.b (by omega) (by omega)
      exact h _ _ _ _ _ (D.nb (D.b.at_ D.b.T)) hwf ((Kt.nb (b' := (D.b.at_ D.b.T)) C1 S1 hbN0 f1.kI.1 f1.kI.2).hi f2.out) (M1.nb (b' := (D.b.at_ D.b.T)) M2 W2 hbN0 (f2.kI h5).1 (f2.kI h5).2) (Dv.nb VB9) ((f2.out 900 (by omega)).1.trans hI9) ((f2.out 900 (by omega)).2.1.trans hA9)
    · exact absurd rfl q1 --end
set_option maxRecDepth 20000 in
theorem law_compounded {J : mJ} (X : mRules J) {I A : mI} {B : mB} {w f : Nat} {R : mR} {D : Dt} (Kt : KSt I A B D) (Mt : MSt w I A B D) (Dv : DV D) (hwf : w = 44 ∧ f = 45 ∨ w = 45 ∧ f = 44) {i len : Nat} (h9 : I 900 0 = nI len) (hl : len ≤ 3072) (hi : i + 6 ≤ len) (h : lwH J I A i R)  : J n_law 1517 [.retAddr 0, .ref 0, .ref 43, .int (nI i)] [] I A B (pk w f) R := by
  have Jv := Dv.iv
  have G := Jv.G
  have V := G.V
  have vb : BkV D.b.P D.b.N D.b.K D.b.L D.b.T D.b.m D.b.rw := Dv.b
  have hnn := vb.n vb.K1 vb.K4
  have hn2 : (acB D.b).n ≤ 220 := hnn.1
  have hc6 : ct (fun j => decide (¬ ((acB D.b).so j = 1 ∨ (acB D.b).so j = 2))) (acB D.b).n + 8 ≤ 80 := hnn.2.1
  have hbK := Kt.bk Dv
  have hbM := Mt.bk Dv
  have aN := Jv.N
  have aP := Jv.P
  have hcN := V.cN
  have hN8 := V.N8
  have hD1b : decide (0 < D.b.L) = true → 1 ≤ (acB D.b).P * (acB D.b).N := fun z => by
    have z2 := vb.l (of_decide_eq_true z)
    rw [aN, aP]
    exact Nat.mul_pos (by omega) (by omega)
  have hbN : decide (0 < D.b.L) = false → (acB D.b).N = 0 := fun z => by
    have := of_decide_eq_false z
    rw [aN]
    exact (vb.z (by omega)).2.2.1
  have hP1 : 0 < (acB D.b).N → 0 < (acB D.b).P := fun z => by
    rcases Nat.lt_or_ge 0 D.b.L with y | y
    · have := vb.l y
      omega
    · have := vb.z (by omega)
      omega
  have hmT := vb.mT
  have hT61 := vb.T61
  have hTm := vb.Tm
  have hm100 : D.b.m ≤ 100 := by omega
  have Q := vb.rp vb.K1 vb.K4
  have h5 := Mt.M.w5
  have hLN : 0 < D.b.L → 0 < D.b.N := fun z => by have := vb.l z; omega
  have hbt : decide (0 < D.b.L) = true → 0 < D.b.N := fun z => hLN (of_decide_eq_true z)
  refine X 200 _ _ _ _ _ _ _ _ _ ?_
  refine And.intro (by first | exact scI (c := 1) h91 hl (by omega) rfl | exact scI (c := 1) h9 hl (by omega) rfl) ?_
  refine k_compounded X Kt.S Kt.C vb.K1 vb.K4 hbK hT61 hmT (fun k a b => vb.rp a b) (fun k a b => (vb.n a b).1) (fun k a b => (vb.n a b).2.1) (fun zn => ?_) (fun zb k ek k1 k5 I1 A1 B1 C1 S1 f1 => ?_)
  · refine And.intro (by first | exact scI (c := 1) h91 hl (by omega) rfl | exact scI (c := 1) h9 hl (by omega) rfl) ?_
    refine r_compounded X Mt.M Mt.W hbM hm100 vb.K1 vb.K4 vb.N8 hbt (fun k a b => vb.rp a b) (fun k a b => (vb.n a b).1) (fun _ I2 A2 B2 M2 f2 => ?_) (fun z9 k ek k1 k5 => (zn.elim (fun y => absurd (y.symm.trans z9) (by decide)) (fun y => absurd ek (y k k1 k5))))
    refine And.intro (fun q1 => ?_) (fun q1 => ?_)
    · exact h _ _ _ _ _ D hwf (Kt.hi f2.out) (Mt.fM M2 f2) Dv (f2.out 900 (by omega)).1 (f2.out 900 (by omega)).2.1
    · exact absurd rfl q1 --end
  · have hA9 : A1 900 = A 900 := (f1.lo 900 (by decide)).2.1
    have hI9 : I1 900 = I 900 := (f1.lo 900 (by decide)).1
    have h91 : I1 900 0 = nI len := by rw [hI9]; exact h9
    have M1 := Mt.lo f1.lo
    have hbM1 := M1.bk Dv
    refine And.intro (by first | exact scI (c := 1) h91 hl (by omega) rfl | exact scI (c := 1) h9 hl (by omega) rfl) ?_
    refine r_compounded X M1.M M1.W hbM1 hm100 vb.K1 vb.K4 vb.N8 hbt (fun k a b => vb.rp a b) (fun k a b => (vb.n a b).1) (fun z9 => (z9.elim (fun y => absurd (y.symm.trans zb) (by decide)) (fun y => absurd (by rw [hA9]; exact ek) (y k k1 k5)))) (fun _ k2 ek2 k12 k52 I2 A2 B2 M2 W2 f2 => ?_)
    have e22 : k2 = k := by
      rw [hA9, ek] at ek2
      exact ((nI_eq (by omega) (by omega)).mp ek2).symm
    subst e22
    refine And.intro (fun q2 => ?_) (fun q2 => ?_)
    · have hbN0 : 0 < D.b.N := hbt zb
      have VB9 : vB D.b := Dv.b
      exact h _ _ _ _ _ (D.nb D.b) hwf ((Kt.nb (b' := D.b) C1 S1 hbN0 f1.kI.1 f1.kI.2).hi f2.out) (M1.nb (b' := D.b) M2 W2 hbN0 (f2.kI h5).1 (f2.kI h5).2) (Dv.nb VB9) ((f2.out 900 (by omega)).1.trans hI9) ((f2.out 900 (by omega)).2.1.trans hA9)
    · exact absurd rfl q2 --end
set_option maxRecDepth 20000 in
theorem law_image1 {J : mJ} (X : mRules J) {I A : mI} {B : mB} {w f : Nat} {R : mR} {D : Dt} (Kt : KSt I A B D) (Mt : MSt w I A B D) (Dv : DV D) (hwf : w = 44 ∧ f = 45 ∨ w = 45 ∧ f = 44) {i len : Nat} (h9 : I 900 0 = nI len) (hl : len ≤ 3072) (hi : i + 6 ≤ len) (h : lwH J I A i R) {k0 : Nat} (hk : k0 < 3) (ek : (A 900 (nI i + 1).toNatClampNeg) = nI k0) : J n_law 1860 [.retAddr 0, .ref 0, .ref 43, .int (nI i)] [] I A B (pk w f) R := by
  have Jv := Dv.iv
  have G := Jv.G
  have V := G.V
  have vb : BkV D.b.P D.b.N D.b.K D.b.L D.b.T D.b.m D.b.rw := Dv.b
  have hnn := vb.n vb.K1 vb.K4
  have hn2 : (acB D.b).n ≤ 220 := hnn.1
  have hc6 : ct (fun j => decide (¬ ((acB D.b).so j = 1 ∨ (acB D.b).so j = 2))) (acB D.b).n + 8 ≤ 80 := hnn.2.1
  have hbK := Kt.bk Dv
  have hbM := Mt.bk Dv
  have aN := Jv.N
  have aP := Jv.P
  have hcN := V.cN
  have hN8 := V.N8
  have hD1b : decide (0 < D.b.L) = true → 1 ≤ (acB D.b).P * (acB D.b).N := fun z => by
    have z2 := vb.l (of_decide_eq_true z)
    rw [aN, aP]
    exact Nat.mul_pos (by omega) (by omega)
  have hbN : decide (0 < D.b.L) = false → (acB D.b).N = 0 := fun z => by
    have := of_decide_eq_false z
    rw [aN]
    exact (vb.z (by omega)).2.2.1
  have hP1 : 0 < (acB D.b).N → 0 < (acB D.b).P := fun z => by
    rcases Nat.lt_or_ge 0 D.b.L with y | y
    · have := vb.l y
      omega
    · have := vb.z (by omega)
      omega
  have hmT := vb.mT
  have hT61 := vb.T61
  have hTm := vb.Tm
  have hm100 : D.b.m ≤ 100 := by omega
  have Q := vb.rp vb.K1 vb.K4
  have h5 := Mt.M.w5
  have hLN : 0 < D.b.L → 0 < D.b.N := fun z => by have := vb.l z; omega
  have hbt : decide (0 < D.b.L) = true → 0 < D.b.N := fun z => hLN (of_decide_eq_true z)
  refine X 200 _ _ _ _ _ _ _ _ _ ?_
  refine And.intro (by first | exact scI (c := 1) h91 hl (by omega) rfl | exact scI (c := 1) h9 hl (by omega) rfl) ?_
  refine k_img X hk ek hbK (fun zb => ?_) (fun zb => ?_)
  · refine And.intro (by first | exact scI (c := 1) h91 hl (by omega) rfl | exact scI (c := 1) h9 hl (by omega) rfl) ?_
    refine r_image X Mt.M hbM (fun _ => ?_) (fun k2 _ _ z9 => absurd (zb.symm.trans z9) (by decide))
    refine And.intro (fun _ => ?_) (fun q => absurd (by decide) q)
    exact h _ _ _ _ _ D hwf Kt Mt Dv rfl rfl
  · have hL : 0 < D.b.L := of_decide_eq_true zb
    have K1 := Kt.im (by omega) hk
    have lo : loF I A B (scp I 7 (10 + 2 * k0)) (acp A 8 (11 + 2 * k0)) B := fun q hq => ⟨scp_r (by omega), acp_r (by omega), rfl⟩
    have M1 := Mt.lo lo
    have hbM1 := M1.bk Dv
    have hI9 : scp I 7 (10 + 2 * k0) 900 = I 900 := scp_r (by omega)
    have hA9 : acp A 8 (11 + 2 * k0) 900 = A 900 := acp_r (by omega)
    have h91 : scp I 7 (10 + 2 * k0) 900 0 = nI len := by rw [hI9]; exact h9
    refine And.intro (by first | exact scI (c := 1) h91 hl (by omega) rfl | exact scI (c := 1) h9 hl (by omega) rfl) ?_
    refine r_image X M1.M hbM1 (fun z9 => (z9.elim (fun y => absurd (by rw [hA9]; exact ek) (y k0 hk)) (fun y => absurd (y.symm.trans zb) (by decide)))) (fun k2 ek2 hk2 _ A2 hq2 h12 h22 h32 h42 => ?_)
    have e22 : k2 = k0 := by
      rw [hA9, ek] at ek2
      exact ((nI_eq (by omega) (by omega)).mp ek2).symm
    subst e22
    refine And.intro (fun _ => ?_) (fun q => absurd (by decide) q)
    exact h _ _ _ _ _ (D.im k2 D.b) hwf (K1.hi (fun q hq => ⟨rfl, hq2 q (by omega) (by omega), rfl⟩)) (M1.im Dv hL hk hq2 h12 h22 h32 h42) (Dv.im Dv.b) hI9 ((hq2 900 (by decide) (by decide)).trans hA9)
set_option maxRecDepth 20000 in
theorem law_image0 {J : mJ} (X : mRules J) {I A : mI} {B : mB} {w f : Nat} {R : mR} {D : Dt} (Kt : KSt I A B D) (Mt : MSt w I A B D) (Dv : DV D) (hwf : w = 44 ∧ f = 45 ∨ w = 45 ∧ f = 44) {i len : Nat} (h9 : I 900 0 = nI len) (hl : len ≤ 3072) (hi : i + 6 ≤ len) (h : lwH J I A i R) (hno : ∀ k, k < 3 → (A 900 (nI i + 1).toNatClampNeg) ≠ nI k) : J n_law 1860 [.retAddr 0, .ref 0, .ref 43, .int (nI i)] [] I A B (pk w f) R := by
  have Jv := Dv.iv
  have G := Jv.G
  have V := G.V
  have vb : BkV D.b.P D.b.N D.b.K D.b.L D.b.T D.b.m D.b.rw := Dv.b
  have hnn := vb.n vb.K1 vb.K4
  have hn2 : (acB D.b).n ≤ 220 := hnn.1
  have hc6 : ct (fun j => decide (¬ ((acB D.b).so j = 1 ∨ (acB D.b).so j = 2))) (acB D.b).n + 8 ≤ 80 := hnn.2.1
  have hbK := Kt.bk Dv
  have hbM := Mt.bk Dv
  have aN := Jv.N
  have aP := Jv.P
  have hcN := V.cN
  have hN8 := V.N8
  have hD1b : decide (0 < D.b.L) = true → 1 ≤ (acB D.b).P * (acB D.b).N := fun z => by
    have z2 := vb.l (of_decide_eq_true z)
    rw [aN, aP]
    exact Nat.mul_pos (by omega) (by omega)
  have hbN : decide (0 < D.b.L) = false → (acB D.b).N = 0 := fun z => by
    have := of_decide_eq_false z
    rw [aN]
    exact (vb.z (by omega)).2.2.1
  have hP1 : 0 < (acB D.b).N → 0 < (acB D.b).P := fun z => by
    rcases Nat.lt_or_ge 0 D.b.L with y | y
    · have := vb.l y
      omega
    · have := vb.z (by omega)
      omega
  refine X 200 _ _ _ _ _ _ _ _ _ ?_
  refine And.intro (by first | exact scI (c := 1) h91 hl (by omega) rfl | exact scI (c := 1) h9 hl (by omega) rfl) ?_
  refine k_imageN X hno ?_
  refine And.intro (by first | exact scI (c := 1) h91 hl (by omega) rfl | exact scI (c := 1) h9 hl (by omega) rfl) ?_
  refine r_image X Mt.M hbM (fun _ => ?_) (fun k0 ek hk => absurd ek (hno k0 hk))
  refine And.intro (fun _ => ?_) (fun q => absurd (by decide) q)
  exact h _ _ _ _ _ D hwf Kt Mt Dv rfl rfl
theorem law_image {J : mJ} (X : mRules J) {I A : mI} {B : mB} {w f : Nat} {R : mR} {D : Dt} (Kt : KSt I A B D) (Mt : MSt w I A B D) (Dv : DV D) (hwf : w = 44 ∧ f = 45 ∨ w = 45 ∧ f = 44) {i len : Nat} (h9 : I 900 0 = nI len) (hl : len ≤ 3072) (hi : i + 6 ≤ len) (h : lwH J I A i R) : J n_law 1860 [.retAddr 0, .ref 0, .ref 43, .int (nI i)] [] I A B (pk w f) R := by
  rcases ixN_c (N := 3) (by decide) (A 900 (nI i + 1).toNatClampNeg) with ⟨k0, hk, ek, _⟩ | ⟨hno, _⟩
  · exact law_image1 X Kt Mt Dv hwf h9 hl hi h hk ek
  · exact law_image0 X Kt Mt Dv hwf h9 hl hi h hno
set_option maxRecDepth 20000 in
theorem law_back1 {J : mJ} (X : mRules J) {I A : mI} {B : mB} {w f : Nat} {R : mR} {D : Dt} (Kt : KSt I A B D) (Mt : MSt w I A B D) (Dv : DV D) (hwf : w = 44 ∧ f = 45 ∨ w = 45 ∧ f = 44) {i len : Nat} (h9 : I 900 0 = nI len) (hl : len ≤ 3072) (hi : i + 6 ≤ len) (h : lwH J I A i R) {k0 : Nat} (hk : k0 < 3) (ek : (A 900 (nI i + 1).toNatClampNeg) = nI k0) : J n_law 1883 [.retAddr 0, .ref 0, .ref 43, .int (nI i)] [] I A B (pk w f) R := by
  have Jv := Dv.iv
  have G := Jv.G
  have V := G.V
  have vb : BkV D.b.P D.b.N D.b.K D.b.L D.b.T D.b.m D.b.rw := Dv.b
  have hnn := vb.n vb.K1 vb.K4
  have hn2 : (acB D.b).n ≤ 220 := hnn.1
  have hc6 : ct (fun j => decide (¬ ((acB D.b).so j = 1 ∨ (acB D.b).so j = 2))) (acB D.b).n + 8 ≤ 80 := hnn.2.1
  have hbK := Kt.bk Dv
  have hbM := Mt.bk Dv
  have aN := Jv.N
  have aP := Jv.P
  have hcN := V.cN
  have hN8 := V.N8
  have hD1b : decide (0 < D.b.L) = true → 1 ≤ (acB D.b).P * (acB D.b).N := fun z => by
    have z2 := vb.l (of_decide_eq_true z)
    rw [aN, aP]
    exact Nat.mul_pos (by omega) (by omega)
  have hbN : decide (0 < D.b.L) = false → (acB D.b).N = 0 := fun z => by
    have := of_decide_eq_false z
    rw [aN]
    exact (vb.z (by omega)).2.2.1
  have hP1 : 0 < (acB D.b).N → 0 < (acB D.b).P := fun z => by
    rcases Nat.lt_or_ge 0 D.b.L with y | y
    · have := vb.l y
      omega
    · have := vb.z (by omega)
      omega
  have hmT := vb.mT
  have hT61 := vb.T61
  have hTm := vb.Tm
  have hm100 : D.b.m ≤ 100 := by omega
  have Q := vb.rp vb.K1 vb.K4
  have h5 := Mt.M.w5
  have hLN : 0 < D.b.L → 0 < D.b.N := fun z => by have := vb.l z; omega
  have hbt : decide (0 < D.b.L) = true → 0 < D.b.N := fun z => hLN (of_decide_eq_true z)
  have vi : BkV (D.ig k0).P (D.ig k0).N (D.ig k0).K (D.ig k0).L (D.ig k0).T (D.ig k0).m (D.ig k0).rw := Dv.ig hk
  have vi1 := vi.T61
  have vi2 := vi.mT
  refine X 200 _ _ _ _ _ _ _ _ _ ?_
  refine And.intro (by first | exact scI (c := 1) h91 hl (by omega) rfl | exact scI (c := 1) h9 hl (by omega) rfl) ?_
  refine k_bck X hk ek (Kt.ig hk) vi.T61 vi.mT (vi.rp vi.K1 vi.K4) (fun zl => ?_) (fun zl I1 A1 B1 C1 S1 f1 => ?_)
  · refine And.intro (by first | exact scI (c := 1) h91 hl (by omega) rfl | exact scI (c := 1) h9 hl (by omega) rfl) ?_
    refine r_back X Mt.M G.no1 G.no2 (fun z9 => absurd ek (z9 k0 hk)) (fun k2 ek2 hk2 _ => ?_) (fun k2 ek2 hk2 z9 => absurd ((Mt.ig hk).1 zl) (by have e22 : k2 = k0 := ((nI_eq (by omega) (by omega)).mp (ek.symm.trans ek2)).symm; rw [← e22]; exact z9))
    refine And.intro (fun _ => ?_) (fun q => absurd (by decide) q)
    exact h _ _ _ _ _ D hwf Kt Mt Dv rfl rfl
  · have hA9 : A1 900 = A 900 := (f1.lo 900 (by decide)).2.1
    have hI9 : I1 900 = I 900 := (f1.lo 900 (by decide)).1
    have h91 : I1 900 0 = nI len := by rw [hI9]; exact h9
    have M1 := Mt.lo f1.lo
    have hbM1 := M1.bk Dv
    have g1 := M1.ig hk
    refine And.intro (by first | exact scI (c := 1) h91 hl (by omega) rfl | exact scI (c := 1) h9 hl (by omega) rfl) ?_
    refine r_back X M1.M G.no1 G.no2 (fun z9 => absurd (by rw [hA9]; exact ek) (z9 k0 hk)) (fun k2 ek2 hk2 z9 => by have e22 : k2 = k0 := ((nI_eq (by omega) (by omega)).mp (by rw [hA9, ek] at ek2; exact ek2)).symm; rw [e22, (g1.2 zl).1] at z9; exact absurd z9 (by decide)) (fun k2 ek2 hk2 z9 => ?_)
    have e22 : k2 = k0 := ((nI_eq (by omega) (by omega)).mp (by rw [hA9, ek] at ek2; exact ek2)).symm
    subst e22
    refine ⟨_, _, _, _, _, _, _, (g1.2 zl).2.1, by omega, (g1.2 zl).2.2.1, (g1.2 zl).2.2.2.1, fun _ => (g1.2 zl).2.2.2.2, vi.rp vi.K1 vi.K4, ?_⟩
    intro I2 A2 B2 M2 W2 f2
    refine And.intro (fun _ => ?_) (fun q => absurd (by decide) q)
    have hbN0 : 0 < (D.ig k2).N := by have := vi.l zl; omega
    have VB9 : vB (D.ig k2) := Dv.ig hk
    exact h _ _ _ _ _ (D.nb (D.ig k2)) hwf ((Kt.nb (b' := (D.ig k2)) C1 S1 hbN0 f1.kI.1 f1.kI.2).hi f2.out) (M1.nb (b' := (D.ig k2)) M2 W2 hbN0 (f2.kI h5).1 (f2.kI h5).2) (Dv.nb VB9) ((f2.out 900 (by omega)).1.trans hI9) ((f2.out 900 (by omega)).2.1.trans hA9)
set_option maxRecDepth 20000 in
theorem law_back0 {J : mJ} (X : mRules J) {I A : mI} {B : mB} {w f : Nat} {R : mR} {D : Dt} (Kt : KSt I A B D) (Mt : MSt w I A B D) (Dv : DV D) (hwf : w = 44 ∧ f = 45 ∨ w = 45 ∧ f = 44) {i len : Nat} (h9 : I 900 0 = nI len) (hl : len ≤ 3072) (hi : i + 6 ≤ len) (h : lwH J I A i R) (hno : ∀ k, k < 3 → (A 900 (nI i + 1).toNatClampNeg) ≠ nI k) : J n_law 1883 [.retAddr 0, .ref 0, .ref 43, .int (nI i)] [] I A B (pk w f) R := by
  have Jv := Dv.iv
  have G := Jv.G
  have V := G.V
  have vb : BkV D.b.P D.b.N D.b.K D.b.L D.b.T D.b.m D.b.rw := Dv.b
  have hnn := vb.n vb.K1 vb.K4
  have hn2 : (acB D.b).n ≤ 220 := hnn.1
  have hc6 : ct (fun j => decide (¬ ((acB D.b).so j = 1 ∨ (acB D.b).so j = 2))) (acB D.b).n + 8 ≤ 80 := hnn.2.1
  have hbK := Kt.bk Dv
  have hbM := Mt.bk Dv
  have aN := Jv.N
  have aP := Jv.P
  have hcN := V.cN
  have hN8 := V.N8
  have hD1b : decide (0 < D.b.L) = true → 1 ≤ (acB D.b).P * (acB D.b).N := fun z => by
    have z2 := vb.l (of_decide_eq_true z)
    rw [aN, aP]
    exact Nat.mul_pos (by omega) (by omega)
  have hbN : decide (0 < D.b.L) = false → (acB D.b).N = 0 := fun z => by
    have := of_decide_eq_false z
    rw [aN]
    exact (vb.z (by omega)).2.2.1
  have hP1 : 0 < (acB D.b).N → 0 < (acB D.b).P := fun z => by
    rcases Nat.lt_or_ge 0 D.b.L with y | y
    · have := vb.l y
      omega
    · have := vb.z (by omega)
      omega
  refine X 200 _ _ _ _ _ _ _ _ _ ?_
  refine And.intro (by first | exact scI (c := 1) h91 hl (by omega) rfl | exact scI (c := 1) h9 hl (by omega) rfl) ?_
  refine k_backN X hno ?_
  refine And.intro (by first | exact scI (c := 1) h91 hl (by omega) rfl | exact scI (c := 1) h9 hl (by omega) rfl) ?_
  refine r_back X Mt.M G.no1 G.no2 (fun _ => ?_) (fun k0 ek hk => absurd ek (hno k0 hk)) (fun k0 ek hk => absurd ek (hno k0 hk))
  refine And.intro (fun _ => ?_) (fun q => absurd (by decide) q)
  exact h _ _ _ _ _ D hwf Kt Mt Dv rfl rfl
theorem law_back {J : mJ} (X : mRules J) {I A : mI} {B : mB} {w f : Nat} {R : mR} {D : Dt} (Kt : KSt I A B D) (Mt : MSt w I A B D) (Dv : DV D) (hwf : w = 44 ∧ f = 45 ∨ w = 45 ∧ f = 44) {i len : Nat} (h9 : I 900 0 = nI len) (hl : len ≤ 3072) (hi : i + 6 ≤ len) (h : lwH J I A i R) : J n_law 1883 [.retAddr 0, .ref 0, .ref 43, .int (nI i)] [] I A B (pk w f) R := by
  rcases ixN_c (N := 3) (by decide) (A 900 (nI i + 1).toNatClampNeg) with ⟨k0, hk, ek, _⟩ | ⟨hno, _⟩
  · exact law_back1 X Kt Mt Dv hwf h9 hl hi h hk ek
  · exact law_back0 X Kt Mt Dv hwf h9 hl hi h hno
set_option maxRecDepth 20000 in
theorem law_book {J : mJ} (X : mRules J) {I A : mI} {B : mB} {w f : Nat} {R : mR} {D : Dt} (Kt : KSt I A B D) (Mt : MSt w I A B D) (Dv : DV D) (hwf : w = 44 ∧ f = 45 ∨ w = 45 ∧ f = 44) {i len : Nat} (h9 : I 900 0 = nI len) (hl : len ≤ 3072) (hi : i + 6 ≤ len) (h : lwH J I A i R)  : J n_law 390 [.retAddr 0, .ref 0, .ref 43, .int (nI i)] [] I A B (pk w f) R := by
  have Jv := Dv.iv
  have G := Jv.G
  have V := G.V
  have vb : BkV D.b.P D.b.N D.b.K D.b.L D.b.T D.b.m D.b.rw := Dv.b
  have hnn := vb.n vb.K1 vb.K4
  have hn2 : (acB D.b).n ≤ 220 := hnn.1
  have hc6 : ct (fun j => decide (¬ ((acB D.b).so j = 1 ∨ (acB D.b).so j = 2))) (acB D.b).n + 8 ≤ 80 := hnn.2.1
  have hbK := Kt.bk Dv
  have hbM := Mt.bk Dv
  have aN := Jv.N
  have aP := Jv.P
  have hcN := V.cN
  have hN8 := V.N8
  have hD1b : decide (0 < D.b.L) = true → 1 ≤ (acB D.b).P * (acB D.b).N := fun z => by
    have z2 := vb.l (of_decide_eq_true z)
    rw [aN, aP]
    exact Nat.mul_pos (by omega) (by omega)
  have hbN : decide (0 < D.b.L) = false → (acB D.b).N = 0 := fun z => by
    have := of_decide_eq_false z
    rw [aN]
    exact (vb.z (by omega)).2.2.1
  have hP1 : 0 < (acB D.b).N → 0 < (acB D.b).P := fun z => by
    rcases Nat.lt_or_ge 0 D.b.L with y | y
    · have := vb.l y
      omega
    · have := vb.z (by omega)
      omega
  have hmT := vb.mT
  have hT61 := vb.T61
  have hTm := vb.Tm
  have hm100 : D.b.m ≤ 100 := by omega
  have Q := vb.rp vb.K1 vb.K4
  have h5 := Mt.M.w5
  have hLN : 0 < D.b.L → 0 < D.b.N := fun z => by have := vb.l z; omega
  have hbt : decide (0 < D.b.L) = true → 0 < D.b.N := fun z => hLN (of_decide_eq_true z)
  refine X 200 _ _ _ _ _ _ _ _ _ ?_
  refine k_book X (tp_R Dv Kt.tp) Kt.t1 (fun e hq I1 A1 x1 x2 x3 f1 g1 => ?_) (fun hq I1 A1 B1 C1 x6 S1 x1 x2 x3 f1 => ?_) (fun s hq hL Vs I1 A1 B1 C1 S1 x1 x2 x3 f1 => ?_)
  · have lo : loF I A B I1 A1 B := fun k hk => ⟨f1 k (by omega) (by omega) (by omega) (by omega), g1 k (by omega), rfl⟩
    have M1 := Mt.lo lo
    have hI9 : I1 900 = I 900 := (lo 900 (by decide)).1
    have hA9 : A1 900 = A 900 := (lo 900 (by decide)).2.1
    refine r_book X (tp_R Dv M1.tp) M1.t1 hwf (by rw [M1.M.hti, G.no1]; rfl) (by rw [M1.M.hfo, G.no2]; rfl) (by rw [M1.M.hP, aP]) (by rw [M1.M.hN, aN]) (fun z => by rw [M1.M.hK (by rw [aN]; exact z), Jv.K]) M1.W (by omega) Q (fun e2 hq2 I2 A2 B2 M2 y1 y2 y3 f2 => ?_) (fun hq2 => absurd (hq.symm.trans hq2) (fun zz => by cases zz)) (fun s2 hq2 => absurd (hq.symm.trans hq2) (fun zz => by cases zz))
    have e22 : e2 = e := Except.error.inj (hq2.symm.trans hq)
    subst e22
    refine And.intro (fun _ => ?_) (fun q => absurd (by decide) q)
    have hAw : A2 w = A1 w := f2.row w (by omega) (by omega)
    exact h _ _ _ _ _ (D.tx D.b (nI e2.1) (nI e2.2) D.ka) hwf ((Kt.tx (b' := D.b) (Kt.C.fw (f1 16 (by decide) (by decide) (by decide) (by decide)) (f1 17 (by decide) (by decide) (by decide) (by decide)) (f1 29 (by decide) (by decide) (by decide) (by decide)) (fun k a1 a2 => g1 k (by omega))) (ScR.fr Kt.S (f1 7 (by decide) (by decide) (by decide) (by decide)) (g1 8 (by decide))) (by rw [f1 16 (by decide) (by decide) (by decide) (by decide)]; exact Kt.k6) x3 x1 x2 (fun q hq => f1 q (by omega) (by omega) (by omega) (by omega)) (fun q hq => g1 q (by omega))).hi f2.out) (M1.tx (b' := D.b) M2 (WdR.fr M1.W hAw) (by rw [hAw]; exact M1.k6) y3 y1 y2 (fun q hq => f2.row q (by omega) (by omega))) (Dv.tx Dv.b) ((f2.out 900 (by omega)).1.trans hI9) ((f2.out 900 (by omega)).2.1.trans hA9)
  · have lo : loF I A B I1 A1 B1 := fun k hk => ⟨f1.ir k (by omega) (by omega) (by omega) (by omega) (by omega) (by omega) (by omega) (by omega), f1.ar k (by omega) (by omega) (by omega), f1.br k (by omega) (by omega)⟩
    have M1 := Mt.lo lo
    have hI9 : I1 900 = I 900 := (lo 900 (by decide)).1
    have hA9 : A1 900 = A 900 := (lo 900 (by decide)).2.1
    refine r_book X (tp_R Dv M1.tp) M1.t1 hwf (by rw [M1.M.hti, G.no1]; rfl) (by rw [M1.M.hfo, G.no2]; rfl) (by rw [M1.M.hP, aP]) (by rw [M1.M.hN, aN]) (fun z => by rw [M1.M.hK (by rw [aN]; exact z), Jv.K]) M1.W (by omega) Q (fun e2 hq2 => absurd (hq.symm.trans hq2) (fun zz => by cases zz)) (fun hq2 I2 A2 B2 M2 W2 y6 y1 y2 y3 f2 => ?_) (fun s2 hq2 hL2 => absurd hL2 (by rw [← Except.ok.inj (hq.symm.trans hq2)]; exact Nat.lt_irrefl _))
    refine And.intro (fun _ => ?_) (fun q => absurd (by decide) q)
    exact h _ _ _ _ _ (D.tx (Bk.mk 0 0 1 0 0 0 st0.rw) 0 (-1) 0) (by omega) ((Kt.tx (b' := (Bk.mk 0 0 1 0 0 0 st0.rw)) C1 S1.k0 x6 x3 x1 x2 (fun q hq => f1.ir q (by omega) (by omega) (by omega) (by omega) (by omega) (by omega) (by omega) (by omega)) (fun q hq => f1.ar q (by omega) (by omega) (by omega))).hi f2.out) (M1.tx (b' := (Bk.mk 0 0 1 0 0 0 st0.rw)) M2 W2 y6 y3 y1 y2 (fun q hq => f2.row q (by omega) (by omega))) (DV.tx Dv (b' := (Bk.mk 0 0 1 0 0 0 st0.rw)) bk_0) ((f2.out 900 (by omega)).1.trans hI9) ((f2.out 900 (by omega)).2.1.trans hA9)
  · have lo : loF I A B I1 A1 B1 := fun k hk => ⟨f1.ir k (by omega) (by omega) (by omega) (by omega) (by omega) (by omega) (by omega) (by omega), f1.ar k (by omega) (by omega) (by omega), f1.br k (by omega) (by omega)⟩
    have M1 := Mt.lo lo
    have hI9 : I1 900 = I 900 := (lo 900 (by decide)).1
    have hA9 : A1 900 = A 900 := (lo 900 (by decide)).2.1
    refine r_book X (tp_R Dv M1.tp) M1.t1 hwf (by rw [M1.M.hti, G.no1]; rfl) (by rw [M1.M.hfo, G.no2]; rfl) (by rw [M1.M.hP, aP]) (by rw [M1.M.hN, aN]) (fun z => by rw [M1.M.hK (by rw [aN]; exact z), Jv.K]) M1.W (by omega) Q (fun e2 hq2 => absurd (hq.symm.trans hq2) (fun zz => by cases zz)) (fun hq2 => absurd hL (by rw [Except.ok.inj (hq.symm.trans hq2)]; exact Nat.lt_irrefl _)) (fun s2 hq2 hL2 Vs2 I2 A2 B2 M2 W2 y1 y2 y3 f2 => ?_)
    have e22 : s2 = s := Except.ok.inj (hq2.symm.trans hq)
    subst e22
    refine And.intro (fun q1 => ?_) (fun q1 => ?_)
    · have hsl := Vs.l hL
      have hN0 : 0 < (zrn s2.P s2.N s2.K s2.rw s2.m).N := by rw [(rn_PNK s2.m).2.1]; omega
      exact h _ _ _ _ _ (D.tx (Bk.mk s2.P s2.N s2.K s2.L s2.m s2.m s2.rw) 0 (-1) (nI s2.K)) (by omega) ((Kt.tx (b' := (Bk.mk s2.P s2.N s2.K s2.L s2.m s2.m s2.rw)) C1 S1 (by rw [C1.hK hN0, (rn_PNK s2.m).2.2.1]) x3 x1 x2 (fun q hq => f1.ir q (by omega) (by omega) (by omega) (by omega) (by omega) (by omega) (by omega) (by omega)) (fun q hq => f1.ar q (by omega) (by omega) (by omega))).hi f2.out) (M1.tx (b' := (Bk.mk s2.P s2.N s2.K s2.L s2.m s2.m s2.rw)) M2 W2 (by rw [M2.hK hN0]; show nI (zrn s2.P s2.N s2.K s2.rw s2.m).K = _; rw [(rn_PNK s2.m).2.2.1]) y3 y1 y2 (fun q hq => f2.row q (by omega) (by omega))) (DV.tx Dv (b' := (Bk.mk s2.P s2.N s2.K s2.L s2.m s2.m s2.rw)) (pv_bk Vs hL)) ((f2.out 900 (by omega)).1.trans hI9) ((f2.out 900 (by omega)).2.1.trans hA9)
    · exact absurd rfl q1 --end
