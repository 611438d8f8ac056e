/-! the law: what changes (written by wip/whole/gl2.py) -/
set_option maxRecDepth 20000 in
theorem law_fault {J : mJ} (X : mRules J) {I A : mI} {B : mB} {w f : Nat} {R : mR} {D : Dt} (Kt : KSt I A B D) (Mt : MSt w I A B D) (Dv : DV D) (hwf : w = 44 ∧ f = 45 ∨ w = 45 ∧ f = 44) {i len : Nat} (h9 : I 900 0 = nI len) (hl : len ≤ 3072) (hi : i + 6 ≤ len) (h : lwH J I A i R) : J n_law 403 [.retAddr 0, .ref 0, .ref 43, .int (nI i)] [] I A B (pk w f) R := by
  have Jv := Dv.iv
  have G := Jv.G
  have V := G.V
  have vb : BkV D.b.P D.b.N D.b.K D.b.L D.b.T D.b.m D.b.rw := Dv.b
  have hnn := vb.n vb.K1 vb.K4
  have hn2 : (acB D.b).n ≤ 220 := hnn.1
  have hc6 : ct (fun j => decide (¬ ((acB D.b).so j = 1 ∨ (acB D.b).so j = 2))) (acB D.b).n + 8 ≤ 80 := hnn.2.1
  have hbK := Kt.bk Dv
  have hbM := Mt.bk Dv
  have aN := Jv.N
  have aP := Jv.P
  have hcN := V.cN
  have hN8 := V.N8
  have hD1b : decide (0 < D.b.L) = true → 1 ≤ (acB D.b).P * (acB D.b).N := fun z => by
    have z2 := vb.l (of_decide_eq_true z)
    rw [aN, aP]
    exact Nat.mul_pos (by omega) (by omega)
  have hbN : decide (0 < D.b.L) = false → (acB D.b).N = 0 := fun z => by
    have := of_decide_eq_false z
    rw [aN]
    exact (vb.z (by omega)).2.2.1
  have hP1 : 0 < (acB D.b).N → 0 < (acB D.b).P := fun z => by
    rcases Nat.lt_or_ge 0 D.b.L with y | y
    · have := vb.l y
      omega
    · have := vb.z (by omega)
      omega
  refine X 200 _ _ _ _ _ _ _ _ _ ?_
  refine And.intro (by first | exact scI (c := 1) h9 hl (by omega) rfl | exact scI (c := 2) h9 hl (by omega) rfl | exact scI (c := 3) h9 hl (by omega) rfl | exact scI (c := 4) h9 hl (by omega) rfl | exact scI (c := 5) h9 hl (by omega) rfl) ?_
  refine k_fault X ?_
  refine And.intro (by first | exact scI (c := 1) h9 hl (by omega) rfl | exact scI (c := 2) h9 hl (by omega) rfl | exact scI (c := 3) h9 hl (by omega) rfl | exact scI (c := 4) h9 hl (by omega) rfl | exact scI (c := 5) h9 hl (by omega) rfl) ?_
  refine r_fault X ?_
  refine And.intro (fun q1 => ?_) (fun q1 => ?_)
  · exact h _ _ _ _ _ D hwf Kt Mt Dv rfl rfl
  · exact absurd (by rw [Kt.e1, Kt.e2, Mt.e1, Mt.e2]) q1 --end
set_option maxRecDepth 20000 in
theorem law_count {J : mJ} (X : mRules J) {I A : mI} {B : mB} {w f : Nat} {R : mR} {D : Dt} (Kt : KSt I A B D) (Mt : MSt w I A B D) (Dv : DV D) (hwf : w = 44 ∧ f = 45 ∨ w = 45 ∧ f = 44) {i len : Nat} (h9 : I 900 0 = nI len) (hl : len ≤ 3072) (hi : i + 6 ≤ len) (h : lwH J I A i R) : J n_law 426 [.retAddr 0, .ref 0, .ref 43, .int (nI i)] [] I A B (pk w f) R := by
  have Jv := Dv.iv
  have G := Jv.G
  have V := G.V
  have vb : BkV D.b.P D.b.N D.b.K D.b.L D.b.T D.b.m D.b.rw := Dv.b
  have hnn := vb.n vb.K1 vb.K4
  have hn2 : (acB D.b).n ≤ 220 := hnn.1
  have hc6 : ct (fun j => decide (¬ ((acB D.b).so j = 1 ∨ (acB D.b).so j = 2))) (acB D.b).n + 8 ≤ 80 := hnn.2.1
  have hbK := Kt.bk Dv
  have hbM := Mt.bk Dv
  have aN := Jv.N
  have aP := Jv.P
  have hcN := V.cN
  have hN8 := V.N8
  have hD1b : decide (0 < D.b.L) = true → 1 ≤ (acB D.b).P * (acB D.b).N := fun z => by
    have z2 := vb.l (of_decide_eq_true z)
    rw [aN, aP]
    exact Nat.mul_pos (by omega) (by omega)
  have hbN : decide (0 < D.b.L) = false → (acB D.b).N = 0 := fun z => by
    have := of_decide_eq_false z
    rw [aN]
    exact (vb.z (by omega)).2.2.1
  have hP1 : 0 < (acB D.b).N → 0 < (acB D.b).P := fun z => by
    rcases Nat.lt_or_ge 0 D.b.L with y | y
    · have := vb.l y
      omega
    · have := vb.z (by omega)
      omega
  refine X 200 _ _ _ _ _ _ _ _ _ ?_
  refine And.intro (by first | exact scI (c := 1) h9 hl (by omega) rfl | exact scI (c := 2) h9 hl (by omega) rfl | exact scI (c := 3) h9 hl (by omega) rfl | exact scI (c := 4) h9 hl (by omega) rfl | exact scI (c := 5) h9 hl (by omega) rfl) ?_
  refine k_count X ?_
  refine And.intro (by first | exact scI (c := 1) h9 hl (by omega) rfl | exact scI (c := 2) h9 hl (by omega) rfl | exact scI (c := 3) h9 hl (by omega) rfl | exact scI (c := 4) h9 hl (by omega) rfl | exact scI (c := 5) h9 hl (by omega) rfl) ?_
  refine r_count X Mt.M.hw Mt.W vb.Tm ?_
  refine And.intro (fun q1 => ?_) (fun q1 => ?_)
  · exact h _ _ _ _ _ D hwf Kt Mt Dv rfl rfl
  · exact absurd (by rw [Kt.C.hP, Kt.C.hN, Kt.k6, Kt.C.hnt, Kt.C.hnc, Kt.C.hn, Kt.C.hc, ScR.ha Kt.S, ScR.hL Kt.S, Kt.t1, Mt.M.hP, Mt.M.hN, Mt.k6, Mt.M.hnt, Mt.M.hnc, Mt.M.hn, Mt.M.hc, WdR.h3 Mt.W, Mt.t1]) q1 --end
set_option maxRecDepth 20000 in
theorem law_feed {J : mJ} (X : mRules J) {I A : mI} {B : mB} {w f : Nat} {R : mR} {D : Dt} (Kt : KSt I A B D) (Mt : MSt w I A B D) (Dv : DV D) (hwf : w = 44 ∧ f = 45 ∨ w = 45 ∧ f = 44) {i len : Nat} (h9 : I 900 0 = nI len) (hl : len ≤ 3072) (hi : i + 6 ≤ len) (h : lwH J I A i R) : J n_law 304 [.retAddr 0, .ref 0, .ref 43, .int (nI i)] [] I A B (pk w f) R := by
  have Jv := Dv.iv
  have G := Jv.G
  have V := G.V
  have vb : BkV D.b.P D.b.N D.b.K D.b.L D.b.T D.b.m D.b.rw := Dv.b
  have hnn := vb.n vb.K1 vb.K4
  have hn2 : (acB D.b).n ≤ 220 := hnn.1
  have hc6 : ct (fun j => decide (¬ ((acB D.b).so j = 1 ∨ (acB D.b).so j = 2))) (acB D.b).n + 8 ≤ 80 := hnn.2.1
  have hbK := Kt.bk Dv
  have hbM := Mt.bk Dv
  have aN := Jv.N
  have aP := Jv.P
  have hcN := V.cN
  have hN8 := V.N8
  have hD1b : decide (0 < D.b.L) = true → 1 ≤ (acB D.b).P * (acB D.b).N := fun z => by
    have z2 := vb.l (of_decide_eq_true z)
    rw [aN, aP]
    exact Nat.mul_pos (by omega) (by omega)
  have hbN : decide (0 < D.b.L) = false → (acB D.b).N = 0 := fun z => by
    have := of_decide_eq_false z
    rw [aN]
    exact (vb.z (by omega)).2.2.1
  have hP1 : 0 < (acB D.b).N → 0 < (acB D.b).P := fun z => by
    rcases Nat.lt_or_ge 0 D.b.L with y | y
    · have := vb.l y
      omega
    · have := vb.z (by omega)
      omega
  refine X 200 _ _ _ _ _ _ _ _ _ ?_
  refine And.intro (by first | exact scI (c := 1) h91 hl (by omega) rfl | exact scI (c := 2) h91 hl (by omega) rfl | exact scI (c := 3) h91 hl (by omega) rfl | exact scI (c := 4) h91 hl (by omega) rfl | exact scI (c := 5) h91 hl (by omega) rfl | exact scI (c := 1) h9 hl (by omega) rfl | exact scI (c := 2) h9 hl (by omega) rfl | exact scI (c := 3) h9 hl (by omega) rfl | exact scI (c := 4) h9 hl (by omega) rfl | exact scI (c := 5) h9 hl (by omega) rfl) ?_
  refine And.intro (by first | exact scI (c := 1) h91 hl (by omega) rfl | exact scI (c := 2) h91 hl (by omega) rfl | exact scI (c := 3) h91 hl (by omega) rfl | exact scI (c := 4) h91 hl (by omega) rfl | exact scI (c := 5) h91 hl (by omega) rfl | exact scI (c := 1) h9 hl (by omega) rfl | exact scI (c := 2) h9 hl (by omega) rfl | exact scI (c := 3) h9 hl (by omega) rfl | exact scI (c := 4) h9 hl (by omega) rfl | exact scI (c := 5) h9 hl (by omega) rfl) ?_
  refine And.intro (by first | exact scI (c := 1) h91 hl (by omega) rfl | exact scI (c := 2) h91 hl (by omega) rfl | exact scI (c := 3) h91 hl (by omega) rfl | exact scI (c := 4) h91 hl (by omega) rfl | exact scI (c := 5) h91 hl (by omega) rfl | exact scI (c := 1) h9 hl (by omega) rfl | exact scI (c := 2) h9 hl (by omega) rfl | exact scI (c := 3) h9 hl (by omega) rfl | exact scI (c := 4) h9 hl (by omega) rfl | exact scI (c := 5) h9 hl (by omega) rfl) ?_
  refine And.intro (by first | exact scI (c := 1) h91 hl (by omega) rfl | exact scI (c := 2) h91 hl (by omega) rfl | exact scI (c := 3) h91 hl (by omega) rfl | exact scI (c := 4) h91 hl (by omega) rfl | exact scI (c := 5) h91 hl (by omega) rfl | exact scI (c := 1) h9 hl (by omega) rfl | exact scI (c := 2) h9 hl (by omega) rfl | exact scI (c := 3) h9 hl (by omega) rfl | exact scI (c := 4) h9 hl (by omega) rfl | exact scI (c := 5) h9 hl (by omega) rfl) ?_
  refine And.intro (by first | exact scI (c := 1) h91 hl (by omega) rfl | exact scI (c := 2) h91 hl (by omega) rfl | exact scI (c := 3) h91 hl (by omega) rfl | exact scI (c := 4) h91 hl (by omega) rfl | exact scI (c := 5) h91 hl (by omega) rfl | exact scI (c := 1) h9 hl (by omega) rfl | exact scI (c := 2) h9 hl (by omega) rfl | exact scI (c := 3) h9 hl (by omega) rfl | exact scI (c := 4) h9 hl (by omega) rfl | exact scI (c := 5) h9 hl (by omega) rfl) ?_
  refine k_feed X Kt.t1 Dv.n9 (fun z => ?_) (fun z I1 A1 hI1 h11 hq1 ho1 hb1 => ?_)
  · refine And.intro (by first | exact scI (c := 1) h91 hl (by omega) rfl | exact scI (c := 2) h91 hl (by omega) rfl | exact scI (c := 3) h91 hl (by omega) rfl | exact scI (c := 4) h91 hl (by omega) rfl | exact scI (c := 5) h91 hl (by omega) rfl | exact scI (c := 1) h9 hl (by omega) rfl | exact scI (c := 2) h9 hl (by omega) rfl | exact scI (c := 3) h9 hl (by omega) rfl | exact scI (c := 4) h9 hl (by omega) rfl | exact scI (c := 5) h9 hl (by omega) rfl) ?_
    refine And.intro (by first | exact scI (c := 1) h91 hl (by omega) rfl | exact scI (c := 2) h91 hl (by omega) rfl | exact scI (c := 3) h91 hl (by omega) rfl | exact scI (c := 4) h91 hl (by omega) rfl | exact scI (c := 5) h91 hl (by omega) rfl | exact scI (c := 1) h9 hl (by omega) rfl | exact scI (c := 2) h9 hl (by omega) rfl | exact scI (c := 3) h9 hl (by omega) rfl | exact scI (c := 4) h9 hl (by omega) rfl | exact scI (c := 5) h9 hl (by omega) rfl) ?_
    refine And.intro (by first | exact scI (c := 1) h91 hl (by omega) rfl | exact scI (c := 2) h91 hl (by omega) rfl | exact scI (c := 3) h91 hl (by omega) rfl | exact scI (c := 4) h91 hl (by omega) rfl | exact scI (c := 5) h91 hl (by omega) rfl | exact scI (c := 1) h9 hl (by omega) rfl | exact scI (c := 2) h9 hl (by omega) rfl | exact scI (c := 3) h9 hl (by omega) rfl | exact scI (c := 4) h9 hl (by omega) rfl | exact scI (c := 5) h9 hl (by omega) rfl) ?_
    refine And.intro (by first | exact scI (c := 1) h91 hl (by omega) rfl | exact scI (c := 2) h91 hl (by omega) rfl | exact scI (c := 3) h91 hl (by omega) rfl | exact scI (c := 4) h91 hl (by omega) rfl | exact scI (c := 5) h91 hl (by omega) rfl | exact scI (c := 1) h9 hl (by omega) rfl | exact scI (c := 2) h9 hl (by omega) rfl | exact scI (c := 3) h9 hl (by omega) rfl | exact scI (c := 4) h9 hl (by omega) rfl | exact scI (c := 5) h9 hl (by omega) rfl) ?_
    refine And.intro (by first | exact scI (c := 1) h91 hl (by omega) rfl | exact scI (c := 2) h91 hl (by omega) rfl | exact scI (c := 3) h91 hl (by omega) rfl | exact scI (c := 4) h91 hl (by omega) rfl | exact scI (c := 5) h91 hl (by omega) rfl | exact scI (c := 1) h9 hl (by omega) rfl | exact scI (c := 2) h9 hl (by omega) rfl | exact scI (c := 3) h9 hl (by omega) rfl | exact scI (c := 4) h9 hl (by omega) rfl | exact scI (c := 5) h9 hl (by omega) rfl) ?_
    refine r_feed X Mt.t1 Dv.n9 (fun z2 => ?_) (fun z2 => absurd z2 (by omega))
    refine And.intro (fun _ => ?_) (fun q => absurd (by decide) q)
    exact h _ _ _ _ _ D hwf Kt Mt Dv rfl rfl
  · have hA9 : A1 900 = A 900 := hq1 900 (by decide)
    have hI9 : I1 900 = I 900 := funext (fun j => hI1 900 j (by omega))
    have h91 : I1 900 0 = nI len := by rw [hI9]; exact h9
    have lo : loF I A B I1 A1 B := fun k hk => ⟨funext (fun j => hI1 k j (by omega)), hq1 k (by omega), rfl⟩
    have M1 := Mt.lo lo
    refine And.intro (by first | exact scI (c := 1) h91 hl (by omega) rfl | exact scI (c := 2) h91 hl (by omega) rfl | exact scI (c := 3) h91 hl (by omega) rfl | exact scI (c := 4) h91 hl (by omega) rfl | exact scI (c := 5) h91 hl (by omega) rfl | exact scI (c := 1) h9 hl (by omega) rfl | exact scI (c := 2) h9 hl (by omega) rfl | exact scI (c := 3) h9 hl (by omega) rfl | exact scI (c := 4) h9 hl (by omega) rfl | exact scI (c := 5) h9 hl (by omega) rfl) ?_
    refine And.intro (by first | exact scI (c := 1) h91 hl (by omega) rfl | exact scI (c := 2) h91 hl (by omega) rfl | exact scI (c := 3) h91 hl (by omega) rfl | exact scI (c := 4) h91 hl (by omega) rfl | exact scI (c := 5) h91 hl (by omega) rfl | exact scI (c := 1) h9 hl (by omega) rfl | exact scI (c := 2) h9 hl (by omega) rfl | exact scI (c := 3) h9 hl (by omega) rfl | exact scI (c := 4) h9 hl (by omega) rfl | exact scI (c := 5) h9 hl (by omega) rfl) ?_
    refine And.intro (by first | exact scI (c := 1) h91 hl (by omega) rfl | exact scI (c := 2) h91 hl (by omega) rfl | exact scI (c := 3) h91 hl (by omega) rfl | exact scI (c := 4) h91 hl (by omega) rfl | exact scI (c := 5) h91 hl (by omega) rfl | exact scI (c := 1) h9 hl (by omega) rfl | exact scI (c := 2) h9 hl (by omega) rfl | exact scI (c := 3) h9 hl (by omega) rfl | exact scI (c := 4) h9 hl (by omega) rfl | exact scI (c := 5) h9 hl (by omega) rfl) ?_
    refine And.intro (by first | exact scI (c := 1) h91 hl (by omega) rfl | exact scI (c := 2) h91 hl (by omega) rfl | exact scI (c := 3) h91 hl (by omega) rfl | exact scI (c := 4) h91 hl (by omega) rfl | exact scI (c := 5) h91 hl (by omega) rfl | exact scI (c := 1) h9 hl (by omega) rfl | exact scI (c := 2) h9 hl (by omega) rfl | exact scI (c := 3) h9 hl (by omega) rfl | exact scI (c := 4) h9 hl (by omega) rfl | exact scI (c := 5) h9 hl (by omega) rfl) ?_
    refine And.intro (by first | exact scI (c := 1) h91 hl (by omega) rfl | exact scI (c := 2) h91 hl (by omega) rfl | exact scI (c := 3) h91 hl (by omega) rfl | exact scI (c := 4) h91 hl (by omega) rfl | exact scI (c := 5) h91 hl (by omega) rfl | exact scI (c := 1) h9 hl (by omega) rfl | exact scI (c := 2) h9 hl (by omega) rfl | exact scI (c := 3) h9 hl (by omega) rfl | exact scI (c := 4) h9 hl (by omega) rfl | exact scI (c := 5) h9 hl (by omega) rfl) ?_
    refine r_feed X M1.t1 Dv.n9 (fun z2 => absurd z2 (by omega)) (fun z2 A2 hq2 ho2 hb2 => ?_)
    refine And.intro (fun q1 => ?_) (fun q1 => ?_)
    · rw [hA9] at hb2
      have K1 := Kt.tape (n' := (D.fd (A 900 (nI i + 1).toNatClampNeg) (A 900 (nI i + 2).toNatClampNeg) (A 900 (nI i + 3).toNatClampNeg) (A 900 (nI i + 4).toNatClampNeg) (A 900 (nI i + 5).toNatClampNeg)).n) (t' := (D.fd (A 900 (nI i + 1).toNatClampNeg) (A 900 (nI i + 2).toNatClampNeg) (A 900 (nI i + 3).toNatClampNeg) (A 900 (nI i + 4).toNatClampNeg) (A 900 (nI i + 5).toNatClampNeg)).tp) hI1 hq1 h11 (fd_t Kt.tp ho1 hb1)
      have M2 := M1.tape (n' := (D.fd (A 900 (nI i + 1).toNatClampNeg) (A 900 (nI i + 2).toNatClampNeg) (A 900 (nI i + 3).toNatClampNeg) (A 900 (nI i + 4).toNatClampNeg) (A 900 (nI i + 5).toNatClampNeg)).n) (t' := (D.fd (A 900 (nI i + 1).toNatClampNeg) (A 900 (nI i + 2).toNatClampNeg) (A 900 (nI i + 3).toNatClampNeg) (A 900 (nI i + 4).toNatClampNeg) (A 900 (nI i + 5).toNatClampNeg)).tp) (x := I1 43 26 + 20) hq2 (by rw [M1.t1]; exact nI_add D.n 20) (fd_t M1.tp ho2 hb2)
      exact h _ _ _ _ _ (D.fd (A 900 (nI i + 1).toNatClampNeg) (A 900 (nI i + 2).toNatClampNeg) (A 900 (nI i + 3).toNatClampNeg) (A 900 (nI i + 4).toNatClampNeg) (A 900 (nI i + 5).toNatClampNeg)) hwf (K1.hi (fun k hk => ⟨up2_r (by omega), hq2 k (by omega) (by omega), rfl⟩)) M2 ⟨Dv.b, Dv.i0, Dv.i1, Dv.i2, z, fun k hk => by
        show (if k < D.n then D.tp k else bt _ _).toInt8.toInt32 = (if k < D.n then D.tp k else bt _ _)
        by_cases y : k < D.n
        · rw [if_pos y]; exact Dv.by_ k y
        · rw [if_neg y]; exact (byt8 _).symm⟩ ((up2_r (by decide)).trans hI9) ((hq2 900 (by decide) (by decide)).trans hA9)
    · exact absurd rfl q1 --end
set_option maxRecDepth 20000 in
theorem law_end {J : mJ} (X : mRules J) {I A : mI} {B : mB} {w f : Nat} {R : mR} {D : Dt} (Kt : KSt I A B D) (Mt : MSt w I A B D) (Dv : DV D) (hwf : w = 44 ∧ f = 45 ∨ w = 45 ∧ f = 44) {i len : Nat} (h9 : I 900 0 = nI len) (hl : len ≤ 3072) (hi : i + 6 ≤ len) (h : lwH J I A i R) : J n_law 367 [.retAddr 0, .ref 0, .ref 43, .int (nI i)] [] I A B (pk w f) R := by
  have Jv := Dv.iv
  have G := Jv.G
  have V := G.V
  have vb : BkV D.b.P D.b.N D.b.K D.b.L D.b.T D.b.m D.b.rw := Dv.b
  have hnn := vb.n vb.K1 vb.K4
  have hn2 : (acB D.b).n ≤ 220 := hnn.1
  have hc6 : ct (fun j => decide (¬ ((acB D.b).so j = 1 ∨ (acB D.b).so j = 2))) (acB D.b).n + 8 ≤ 80 := hnn.2.1
  have hbK := Kt.bk Dv
  have hbM := Mt.bk Dv
  have aN := Jv.N
  have aP := Jv.P
  have hcN := V.cN
  have hN8 := V.N8
  have hD1b : decide (0 < D.b.L) = true → 1 ≤ (acB D.b).P * (acB D.b).N := fun z => by
    have z2 := vb.l (of_decide_eq_true z)
    rw [aN, aP]
    exact Nat.mul_pos (by omega) (by omega)
  have hbN : decide (0 < D.b.L) = false → (acB D.b).N = 0 := fun z => by
    have := of_decide_eq_false z
    rw [aN]
    exact (vb.z (by omega)).2.2.1
  have hP1 : 0 < (acB D.b).N → 0 < (acB D.b).P := fun z => by
    rcases Nat.lt_or_ge 0 D.b.L with y | y
    · have := vb.l y
      omega
    · have := vb.z (by omega)
      omega
  refine X 200 _ _ _ _ _ _ _ _ _ ?_
  refine And.intro (by first | exact scI (c := 1) h9 hl (by omega) rfl | exact scI (c := 2) h9 hl (by omega) rfl | exact scI (c := 3) h9 hl (by omega) rfl | exact scI (c := 4) h9 hl (by omega) rfl | exact scI (c := 5) h9 hl (by omega) rfl) ?_
  refine k_end X Kt.t1 Dv.n9 (fun z => ?_) (fun k hk ek => ?_)
  · refine And.intro (by first | exact scI (c := 1) h9 hl (by omega) rfl | exact scI (c := 2) h9 hl (by omega) rfl | exact scI (c := 3) h9 hl (by omega) rfl | exact scI (c := 4) h9 hl (by omega) rfl | exact scI (c := 5) h9 hl (by omega) rfl) ?_
    refine r_end X Mt.t1 Dv.n9 (fun z2 => ?_) (fun k2 hk2 ek2 => absurd ek2 (z k2 hk2))
    refine And.intro (fun _ => ?_) (fun q => absurd (by decide) q)
    exact h _ _ _ _ _ D hwf Kt Mt Dv rfl rfl
  · have lo : loF I A B (up2 I 1 1 (A 900 (nI i + 1).toNatClampNeg)) A B := fun k hk => ⟨up2_r (by omega), rfl, rfl⟩
    have M1 := Mt.lo lo
    refine And.intro (by first | exact scI (c := 1) h9 hl (by omega) rfl | exact scI (c := 2) h9 hl (by omega) rfl | exact scI (c := 3) h9 hl (by omega) rfl | exact scI (c := 4) h9 hl (by omega) rfl | exact scI (c := 5) h9 hl (by omega) rfl) ?_
    refine r_end X M1.t1 Dv.n9 (fun z2 => absurd ek (z2 k hk)) (fun k2 hk2 ek2 => ?_)
    refine And.intro (fun q1 => ?_) (fun q1 => ?_)
    · have K1 := Kt.tape (I' := up2 I 1 1 (A 900 (nI i + 1).toNatClampNeg)) (n' := k) (t' := D.tp) (fun q j hq => if_neg hq) (fun _ _ => rfl) (up2_s.trans ek) (fun j hj => Kt.tp j (by omega))
      have M2 := M1.tape (A' := A) (n' := k) (t' := D.tp) (x := A 900 (nI i + 1).toNatClampNeg) (fun _ _ _ => rfl) ek (fun j hj => Mt.tp j (by omega))
      have hDn := Dv.n9
      exact h _ _ _ _ _ _ hwf (K1.hi (fun k hk => ⟨up2_r (by omega), rfl, rfl⟩)) M2 ⟨Dv.b, Dv.i0, Dv.i1, Dv.i2, by show k ≤ 900; omega, fun j hj => Dv.by_ j (by have : j < k := hj; omega)⟩ ((up2_r (by decide)).trans (up2_r (by decide))) rfl
    · exact absurd rfl q1 --end
set_option maxRecDepth 20000 in
theorem law_pay {J : mJ} (X : mRules J) {I A : mI} {B : mB} {w f : Nat} {R : mR} {D : Dt} (Kt : KSt I A B D) (Mt : MSt w I A B D) (Dv : DV D) (hwf : w = 44 ∧ f = 45 ∨ w = 45 ∧ f = 44) {i len : Nat} (h9 : I 900 0 = nI len) (hl : len ≤ 3072) (hi : i + 6 ≤ len) (h : lwH J I A i R) : J n_law 1702 [.retAddr 0, .ref 0, .ref 43, .int (nI i)] [] I A B (pk w f) R := by
  have Jv := Dv.iv
  have G := Jv.G
  have V := G.V
  have vb : BkV D.b.P D.b.N D.b.K D.b.L D.b.T D.b.m D.b.rw := Dv.b
  have hnn := vb.n vb.K1 vb.K4
  have hn2 : (acB D.b).n ≤ 220 := hnn.1
  have hc6 : ct (fun j => decide (¬ ((acB D.b).so j = 1 ∨ (acB D.b).so j = 2))) (acB D.b).n + 8 ≤ 80 := hnn.2.1
  have hbK := Kt.bk Dv
  have hbM := Mt.bk Dv
  have aN := Jv.N
  have aP := Jv.P
  have hcN := V.cN
  have hN8 := V.N8
  have hD1b : decide (0 < D.b.L) = true → 1 ≤ (acB D.b).P * (acB D.b).N := fun z => by
    have z2 := vb.l (of_decide_eq_true z)
    rw [aN, aP]
    exact Nat.mul_pos (by omega) (by omega)
  have hbN : decide (0 < D.b.L) = false → (acB D.b).N = 0 := fun z => by
    have := of_decide_eq_false z
    rw [aN]
    exact (vb.z (by omega)).2.2.1
  have hP1 : 0 < (acB D.b).N → 0 < (acB D.b).P := fun z => by
    rcases Nat.lt_or_ge 0 D.b.L with y | y
    · have := vb.l y
      omega
    · have := vb.z (by omega)
      omega
  have hL0 : 0 < (acB D.b).N → 0 < D.b.L := fun z => by
    rcases Nat.lt_or_ge 0 D.b.L with y | y
    · exact y
    · have := vb.z (by omega)
      omega
  have hfl : decide (D.b.m - D.b.T = 20) = true ↔ D.b.m - D.b.T = 20 := decide_eq_true_iff
  have hmT := vb.mT
  have hT61 := vb.T61
  have hTm := vb.Tm
  have hmm : D.b.m < 100 := by omega
  have hf8 : decide (D.b.m - D.b.T = 20) = false → (acB D.b).n + 8 ≤ 220 := fun z => (hnn.2.2 (by have := of_decide_eq_false z; omega)).1
  have hf32 : decide (D.b.m - D.b.T = 20) = false → (acB D.b).nc < 32 := fun z => (hnn.2.2 (by have := of_decide_eq_false z; omega)).2
  have h5 := Mt.M.w5
  refine X 200 _ _ _ _ _ _ _ _ _ ?_
  refine And.intro (by first | exact scI (c := 1) h91 hl (by omega) rfl | exact scI (c := 2) h91 hl (by omega) rfl | exact scI (c := 3) h91 hl (by omega) rfl | exact scI (c := 1) h9 hl (by omega) rfl | exact scI (c := 2) h9 hl (by omega) rfl | exact scI (c := 3) h9 hl (by omega) rfl) ?_
  refine And.intro (by first | exact scI (c := 1) h91 hl (by omega) rfl | exact scI (c := 2) h91 hl (by omega) rfl | exact scI (c := 3) h91 hl (by omega) rfl | exact scI (c := 1) h9 hl (by omega) rfl | exact scI (c := 2) h9 hl (by omega) rfl | exact scI (c := 3) h9 hl (by omega) rfl) ?_
  refine k_pay X Kt.C G Jv.H Kt.S (fl := decide (D.b.m - D.b.T = 20)) hL0 hT61 hfl hmT hf8 hn2 hf32  ?_
  cases hq : ac_pay (acB D.b) (decide (D.b.m - D.b.T = 20)) (A 900 (nI i + 1).toNatClampNeg) (A 900 (nI i + 2).toNatClampNeg) 1
  · rename_i v1
    unfold qS
    refine And.intro (by first | exact scI (c := 1) h91 hl (by omega) rfl | exact scI (c := 2) h91 hl (by omega) rfl | exact scI (c := 3) h91 hl (by omega) rfl | exact scI (c := 1) h9 hl (by omega) rfl | exact scI (c := 2) h9 hl (by omega) rfl | exact scI (c := 3) h9 hl (by omega) rfl) ?_
    refine And.intro (by first | exact scI (c := 1) h91 hl (by omega) rfl | exact scI (c := 2) h91 hl (by omega) rfl | exact scI (c := 3) h91 hl (by omega) rfl | exact scI (c := 1) h9 hl (by omega) rfl | exact scI (c := 2) h9 hl (by omega) rfl | exact scI (c := 3) h9 hl (by omega) rfl) ?_
    refine r_pay X Mt.M G Mt.W (fl := decide (D.b.m - D.b.T = 20)) hTm hmm hfl (by omega) ?_
    rw [hq]
    intro I2 A2 B2 M2 f2
    refine And.intro (fun q1 => ?_) (fun q1 => ?_)
    · exact h _ _ _ _ _ D hwf (Kt.hi f2.out) (Mt.fM M2 f2) Dv (f2.out 900 (by omega)).1 (f2.out 900 (by omega)).2.1
    · exact absurd rfl q1 --end
  · rename_i r1
    intro O1 I1 A1 B1 C1 S1 f1
    have hA9 : A1 900 = A 900 := f1.ar 900 (by decide) (by decide)
    have hI9 : I1 900 = I 900 := f1.ir 900 (by decide) (by decide) (by decide) (by decide)
    have h91 : I1 900 0 = nI len := by rw [hI9]; exact h9
    have M1 := Mt.lo f1.lo
    have hbM := M1.bk Dv
    refine And.intro (by first | exact scI (c := 1) h91 hl (by omega) rfl | exact scI (c := 2) h91 hl (by omega) rfl | exact scI (c := 3) h91 hl (by omega) rfl | exact scI (c := 1) h9 hl (by omega) rfl | exact scI (c := 2) h9 hl (by omega) rfl | exact scI (c := 3) h9 hl (by omega) rfl) ?_
    refine And.intro (by first | exact scI (c := 1) h91 hl (by omega) rfl | exact scI (c := 2) h91 hl (by omega) rfl | exact scI (c := 3) h91 hl (by omega) rfl | exact scI (c := 1) h9 hl (by omega) rfl | exact scI (c := 2) h9 hl (by omega) rfl | exact scI (c := 3) h9 hl (by omega) rfl) ?_
    refine r_pay X M1.M G M1.W (fl := decide (D.b.m - D.b.T = 20)) hTm hmm hfl (by omega) ?_
    rw [hA9, hq]
    intro O2 I2 A2 B2 M2 W2 f2
    refine And.intro (fun q2 => ?_) (fun q2 => ?_)
    · have iv := ac_pay_i hq
      have hbN0 : 0 < D.b.N := by have := iv.2.2; omega
      have vb2 := vB_ad Dv.b hbN0 (of_decide_eq_false iv.2.1) O1 (by rw [iv.1]; decide) (fun z => absurd (iv.1.symm.trans z) (by decide))
      exact h _ _ _ _ _ (D.nb (D.b.ad r1)) hwf ((Kt.nb (b' := D.b.ad r1) (by rw [acB_ad]; exact C1) S1 hbN0 f1.kI.1 f1.kI.2).hi f2.out) (M1.nb (b' := D.b.ad r1) (by rw [acB_ad]; exact M2) W2 hbN0 (f2.kI h5).1 (f2.kI h5).2) (Dv.nb vb2.1) ((f2.out 900 (by omega)).1.trans hI9) ((f2.out 900 (by omega)).2.1.trans hA9)
    · exact absurd rfl q2 --end
set_option maxRecDepth 20000 in
theorem law_draw {J : mJ} (X : mRules J) {I A : mI} {B : mB} {w f : Nat} {R : mR} {D : Dt} (Kt : KSt I A B D) (Mt : MSt w I A B D) (Dv : DV D) (hwf : w = 44 ∧ f = 45 ∨ w = 45 ∧ f = 44) {i len : Nat} (h9 : I 900 0 = nI len) (hl : len ≤ 3072) (hi : i + 6 ≤ len) (h : lwH J I A i R) : J n_law 1735 [.retAddr 0, .ref 0, .ref 43, .int (nI i)] [] I A B (pk w f) R := by
  have Jv := Dv.iv
  have G := Jv.G
  have V := G.V
  have vb : BkV D.b.P D.b.N D.b.K D.b.L D.b.T D.b.m D.b.rw := Dv.b
  have hnn := vb.n vb.K1 vb.K4
  have hn2 : (acB D.b).n ≤ 220 := hnn.1
  have hc6 : ct (fun j => decide (¬ ((acB D.b).so j = 1 ∨ (acB D.b).so j = 2))) (acB D.b).n + 8 ≤ 80 := hnn.2.1
  have hbK := Kt.bk Dv
  have hbM := Mt.bk Dv
  have aN := Jv.N
  have aP := Jv.P
  have hcN := V.cN
  have hN8 := V.N8
  have hD1b : decide (0 < D.b.L) = true → 1 ≤ (acB D.b).P * (acB D.b).N := fun z => by
    have z2 := vb.l (of_decide_eq_true z)
    rw [aN, aP]
    exact Nat.mul_pos (by omega) (by omega)
  have hbN : decide (0 < D.b.L) = false → (acB D.b).N = 0 := fun z => by
    have := of_decide_eq_false z
    rw [aN]
    exact (vb.z (by omega)).2.2.1
  have hP1 : 0 < (acB D.b).N → 0 < (acB D.b).P := fun z => by
    rcases Nat.lt_or_ge 0 D.b.L with y | y
    · have := vb.l y
      omega
    · have := vb.z (by omega)
      omega
  have hL0 : 0 < (acB D.b).N → 0 < D.b.L := fun z => by
    rcases Nat.lt_or_ge 0 D.b.L with y | y
    · exact y
    · have := vb.z (by omega)
      omega
  have hfl : decide (D.b.m - D.b.T = 20) = true ↔ D.b.m - D.b.T = 20 := decide_eq_true_iff
  have hmT := vb.mT
  have hT61 := vb.T61
  have hTm := vb.Tm
  have hmm : D.b.m < 100 := by omega
  have hf8 : decide (D.b.m - D.b.T = 20) = false → (acB D.b).n + 8 ≤ 220 := fun z => (hnn.2.2 (by have := of_decide_eq_false z; omega)).1
  have hf32 : decide (D.b.m - D.b.T = 20) = false → (acB D.b).nc < 32 := fun z => (hnn.2.2 (by have := of_decide_eq_false z; omega)).2
  have h5 := Mt.M.w5
  refine X 200 _ _ _ _ _ _ _ _ _ ?_
  refine And.intro (by first | exact scI (c := 1) h91 hl (by omega) rfl | exact scI (c := 2) h91 hl (by omega) rfl | exact scI (c := 3) h91 hl (by omega) rfl | exact scI (c := 1) h9 hl (by omega) rfl | exact scI (c := 2) h9 hl (by omega) rfl | exact scI (c := 3) h9 hl (by omega) rfl) ?_
  refine And.intro (by first | exact scI (c := 1) h91 hl (by omega) rfl | exact scI (c := 2) h91 hl (by omega) rfl | exact scI (c := 3) h91 hl (by omega) rfl | exact scI (c := 1) h9 hl (by omega) rfl | exact scI (c := 2) h9 hl (by omega) rfl | exact scI (c := 3) h9 hl (by omega) rfl) ?_
  refine k_draw X Kt.C G Jv.H Kt.S (fl := decide (D.b.m - D.b.T = 20)) hL0 hT61 hfl hmT hf8 hn2 hf32  ?_
  cases hq : ac_pay (acB D.b) (decide (D.b.m - D.b.T = 20)) (A 900 (nI i + 1).toNatClampNeg) (A 900 (nI i + 2).toNatClampNeg) (-1)
  · rename_i v1
    unfold qS
    refine And.intro (by first | exact scI (c := 1) h91 hl (by omega) rfl | exact scI (c := 2) h91 hl (by omega) rfl | exact scI (c := 3) h91 hl (by omega) rfl | exact scI (c := 1) h9 hl (by omega) rfl | exact scI (c := 2) h9 hl (by omega) rfl | exact scI (c := 3) h9 hl (by omega) rfl) ?_
    refine And.intro (by first | exact scI (c := 1) h91 hl (by omega) rfl | exact scI (c := 2) h91 hl (by omega) rfl | exact scI (c := 3) h91 hl (by omega) rfl | exact scI (c := 1) h9 hl (by omega) rfl | exact scI (c := 2) h9 hl (by omega) rfl | exact scI (c := 3) h9 hl (by omega) rfl) ?_
    refine r_draw X Mt.M G Mt.W (fl := decide (D.b.m - D.b.T = 20)) hTm hmm hfl (by omega) ?_
    rw [hq]
    intro I2 A2 B2 M2 f2
    refine And.intro (fun q1 => ?_) (fun q1 => ?_)
    · exact h _ _ _ _ _ D hwf (Kt.hi f2.out) (Mt.fM M2 f2) Dv (f2.out 900 (by omega)).1 (f2.out 900 (by omega)).2.1
    · exact absurd rfl q1 --end
  · rename_i r1
    intro O1 I1 A1 B1 C1 S1 f1
    have hA9 : A1 900 = A 900 := f1.ar 900 (by decide) (by decide)
    have hI9 : I1 900 = I 900 := f1.ir 900 (by decide) (by decide) (by decide) (by decide)
    have h91 : I1 900 0 = nI len := by rw [hI9]; exact h9
    have M1 := Mt.lo f1.lo
    have hbM := M1.bk Dv
    refine And.intro (by first | exact scI (c := 1) h91 hl (by omega) rfl | exact scI (c := 2) h91 hl (by omega) rfl | exact scI (c := 3) h91 hl (by omega) rfl | exact scI (c := 1) h9 hl (by omega) rfl | exact scI (c := 2) h9 hl (by omega) rfl | exact scI (c := 3) h9 hl (by omega) rfl) ?_
    refine And.intro (by first | exact scI (c := 1) h91 hl (by omega) rfl | exact scI (c := 2) h91 hl (by omega) rfl | exact scI (c := 3) h91 hl (by omega) rfl | exact scI (c := 1) h9 hl (by omega) rfl | exact scI (c := 2) h9 hl (by omega) rfl | exact scI (c := 3) h9 hl (by omega) rfl) ?_
    refine r_draw X M1.M G M1.W (fl := decide (D.b.m - D.b.T = 20)) hTm hmm hfl (by omega) ?_
    rw [hA9, hq]
    intro O2 I2 A2 B2 M2 W2 f2
    refine And.intro (fun q2 => ?_) (fun q2 => ?_)
    · have iv := ac_pay_i hq
      have hbN0 : 0 < D.b.N := by have := iv.2.2; omega
      have vb2 := vB_ad Dv.b hbN0 (of_decide_eq_false iv.2.1) O1 (by rw [iv.1]; decide) (fun z => absurd (iv.1.symm.trans z) (by decide))
      exact h _ _ _ _ _ (D.nb (D.b.ad r1)) hwf ((Kt.nb (b' := D.b.ad r1) (by rw [acB_ad]; exact C1) S1 hbN0 f1.kI.1 f1.kI.2).hi f2.out) (M1.nb (b' := D.b.ad r1) (by rw [acB_ad]; exact M2) W2 hbN0 (f2.kI h5).1 (f2.kI h5).2) (Dv.nb vb2.1) ((f2.out 900 (by omega)).1.trans hI9) ((f2.out 900 (by omega)).2.1.trans hA9)
    · exact absurd rfl q2 --end
set_option maxRecDepth 20000 in
theorem law_close {J : mJ} (X : mRules J) {I A : mI} {B : mB} {w f : Nat} {R : mR} {D : Dt} (Kt : KSt I A B D) (Mt : MSt w I A B D) (Dv : DV D) (hwf : w = 44 ∧ f = 45 ∨ w = 45 ∧ f = 44) {i len : Nat} (h9 : I 900 0 = nI len) (hl : len ≤ 3072) (hi : i + 6 ≤ len) (h : lwH J I A i R) : J n_law 1834 [.retAddr 0, .ref 0, .ref 43, .int (nI i)] [] I A B (pk w f) R := by
  have Jv := Dv.iv
  have G := Jv.G
  have V := G.V
  have vb : BkV D.b.P D.b.N D.b.K D.b.L D.b.T D.b.m D.b.rw := Dv.b
  have hnn := vb.n vb.K1 vb.K4
  have hn2 : (acB D.b).n ≤ 220 := hnn.1
  have hc6 : ct (fun j => decide (¬ ((acB D.b).so j = 1 ∨ (acB D.b).so j = 2))) (acB D.b).n + 8 ≤ 80 := hnn.2.1
  have hbK := Kt.bk Dv
  have hbM := Mt.bk Dv
  have aN := Jv.N
  have aP := Jv.P
  have hcN := V.cN
  have hN8 := V.N8
  have hD1b : decide (0 < D.b.L) = true → 1 ≤ (acB D.b).P * (acB D.b).N := fun z => by
    have z2 := vb.l (of_decide_eq_true z)
    rw [aN, aP]
    exact Nat.mul_pos (by omega) (by omega)
  have hbN : decide (0 < D.b.L) = false → (acB D.b).N = 0 := fun z => by
    have := of_decide_eq_false z
    rw [aN]
    exact (vb.z (by omega)).2.2.1
  have hP1 : 0 < (acB D.b).N → 0 < (acB D.b).P := fun z => by
    rcases Nat.lt_or_ge 0 D.b.L with y | y
    · have := vb.l y
      omega
    · have := vb.z (by omega)
      omega
  have hL0 : 0 < (acB D.b).N → 0 < D.b.L := fun z => by
    rcases Nat.lt_or_ge 0 D.b.L with y | y
    · exact y
    · have := vb.z (by omega)
      omega
  have hfl : decide (D.b.m - D.b.T = 20) = true ↔ D.b.m - D.b.T = 20 := decide_eq_true_iff
  have hmT := vb.mT
  have hT61 := vb.T61
  have hTm := vb.Tm
  have hmm : D.b.m < 100 := by omega
  have hf8 : decide (D.b.m - D.b.T = 20) = false → (acB D.b).n + 8 ≤ 220 := fun z => (hnn.2.2 (by have := of_decide_eq_false z; omega)).1
  have hf32 : decide (D.b.m - D.b.T = 20) = false → (acB D.b).nc < 32 := fun z => (hnn.2.2 (by have := of_decide_eq_false z; omega)).2
  have h5 := Mt.M.w5
  refine X 200 _ _ _ _ _ _ _ _ _ ?_
  refine k_close X Kt.C G Jv.H Kt.S (fl := decide (D.b.m - D.b.T = 20)) hL0 hT61 hfl hmT hf8 hn2 hf32 hbK ?_
  cases hq : ac_close (acB D.b) (decide (0 < D.b.L)) (decide (D.b.m - D.b.T = 20))
  · rename_i v1
    unfold qS
    refine r_close X Mt.M G Mt.W (fl := decide (D.b.m - D.b.T = 20)) hTm hmm hfl hbM (by omega) ?_
    rw [hq]
    intro I2 A2 B2 M2 f2
    refine And.intro (fun q1 => ?_) (fun q1 => ?_)
    · exact h _ _ _ _ _ D hwf (Kt.hi f2.out) (Mt.fM M2 f2) Dv (f2.out 900 (by omega)).1 (f2.out 900 (by omega)).2.1
    · exact absurd rfl q1 --end
  · rename_i r1
    intro O1 I1 A1 B1 C1 S1 f1
    have hA9 : A1 900 = A 900 := f1.ar 900 (by decide) (by decide)
    have hI9 : I1 900 = I 900 := f1.ir 900 (by decide) (by decide) (by decide) (by decide)
    have h91 : I1 900 0 = nI len := by rw [hI9]; exact h9
    have M1 := Mt.lo f1.lo
    have hbM := M1.bk Dv
    refine r_close X M1.M G M1.W (fl := decide (D.b.m - D.b.T = 20)) hTm hmm hfl hbM (by omega) ?_
    rw [hq]
    intro O2 I2 A2 B2 M2 W2 f2
    refine And.intro (fun q2 => ?_) (fun q2 => ?_)
    · have iv := ac_close_i hq
      have hbN0 : 0 < D.b.N := by have := iv.2.2; omega
      have vb2 := vB_ad Dv.b hbN0 (of_decide_eq_false iv.2.1) O1 (by rw [iv.1]; decide) (fun z => absurd (iv.1.symm.trans z) (by decide))
      exact h _ _ _ _ _ (D.nb (D.b.ad r1)) hwf ((Kt.nb (b' := D.b.ad r1) (by rw [acB_ad]; exact C1) S1 hbN0 f1.kI.1 f1.kI.2).hi f2.out) (M1.nb (b' := D.b.ad r1) (by rw [acB_ad]; exact M2) W2 hbN0 (f2.kI h5).1 (f2.kI h5).2) (Dv.nb vb2.1) ((f2.out 900 (by omega)).1.trans hI9) ((f2.out 900 (by omega)).2.1.trans hA9)
    · exact absurd rfl q2 --end
set_option maxRecDepth 20000 in
theorem law_rerun {J : mJ} (X : mRules J) {I A : mI} {B : mB} {w f : Nat} {R : mR} {D : Dt} (Kt : KSt I A B D) (Mt : MSt w I A B D) (Dv : DV D) (hwf : w = 44 ∧ f = 45 ∨ w = 45 ∧ f = 44) {i len : Nat} (h9 : I 900 0 = nI len) (hl : len ≤ 3072) (hi : i + 6 ≤ len) (h : lwH J I A i R) : J n_law 1847 [.retAddr 0, .ref 0, .ref 43, .int (nI i)] [] I A B (pk w f) R := by
  have Jv := Dv.iv
  have G := Jv.G
  have V := G.V
  have vb : BkV D.b.P D.b.N D.b.K D.b.L D.b.T D.b.m D.b.rw := Dv.b
  have hnn := vb.n vb.K1 vb.K4
  have hn2 : (acB D.b).n ≤ 220 := hnn.1
  have hc6 : ct (fun j => decide (¬ ((acB D.b).so j = 1 ∨ (acB D.b).so j = 2))) (acB D.b).n + 8 ≤ 80 := hnn.2.1
  have hbK := Kt.bk Dv
  have hbM := Mt.bk Dv
  have aN := Jv.N
  have aP := Jv.P
  have hcN := V.cN
  have hN8 := V.N8
  have hD1b : decide (0 < D.b.L) = true → 1 ≤ (acB D.b).P * (acB D.b).N := fun z => by
    have z2 := vb.l (of_decide_eq_true z)
    rw [aN, aP]
    exact Nat.mul_pos (by omega) (by omega)
  have hbN : decide (0 < D.b.L) = false → (acB D.b).N = 0 := fun z => by
    have := of_decide_eq_false z
    rw [aN]
    exact (vb.z (by omega)).2.2.1
  have hP1 : 0 < (acB D.b).N → 0 < (acB D.b).P := fun z => by
    rcases Nat.lt_or_ge 0 D.b.L with y | y
    · have := vb.l y
      omega
    · have := vb.z (by omega)
      omega
  have hL0 : 0 < (acB D.b).N → 0 < D.b.L := fun z => by
    rcases Nat.lt_or_ge 0 D.b.L with y | y
    · exact y
    · have := vb.z (by omega)
      omega
  have hfl : decide (D.b.m - D.b.T = 20) = true ↔ D.b.m - D.b.T = 20 := decide_eq_true_iff
  have hmT := vb.mT
  have hT61 := vb.T61
  have hTm := vb.Tm
  have hmm : D.b.m < 100 := by omega
  have hf8 : decide (D.b.m - D.b.T = 20) = false → (acB D.b).n + 8 ≤ 220 := fun z => (hnn.2.2 (by have := of_decide_eq_false z; omega)).1
  have hf32 : decide (D.b.m - D.b.T = 20) = false → (acB D.b).nc < 32 := fun z => (hnn.2.2 (by have := of_decide_eq_false z; omega)).2
  have h5 := Mt.M.w5
  refine X 200 _ _ _ _ _ _ _ _ _ ?_
  refine k_rerun X Kt.C G Jv.H Kt.S (fl := decide (D.b.m - D.b.T = 20)) hL0 hT61 hfl hmT hf8 hn2 hf32 hbK ?_
  cases hq : ac_rerun (acB D.b) (decide (0 < D.b.L)) (decide (D.b.m - D.b.T = 20))
  · rename_i v1
    unfold qS
    refine r_rerun X Mt.M G Mt.W (fl := decide (D.b.m - D.b.T = 20)) hTm hmm hfl hbM (by omega) ?_
    rw [hq]
    intro I2 A2 B2 M2 f2
    refine And.intro (fun q1 => ?_) (fun q1 => ?_)
    · exact h _ _ _ _ _ D hwf (Kt.hi f2.out) (Mt.fM M2 f2) Dv (f2.out 900 (by omega)).1 (f2.out 900 (by omega)).2.1
    · exact absurd rfl q1 --end
  · rename_i r1
    intro O1 I1 A1 B1 C1 S1 f1
    have hA9 : A1 900 = A 900 := f1.ar 900 (by decide) (by decide)
    have hI9 : I1 900 = I 900 := f1.ir 900 (by decide) (by decide) (by decide) (by decide)
    have h91 : I1 900 0 = nI len := by rw [hI9]; exact h9
    have M1 := Mt.lo f1.lo
    have hbM := M1.bk Dv
    refine r_rerun X M1.M G M1.W (fl := decide (D.b.m - D.b.T = 20)) hTm hmm hfl hbM (by omega) ?_
    rw [hq]
    intro O2 I2 A2 B2 M2 W2 f2
    refine And.intro (fun q2 => ?_) (fun q2 => ?_)
    · have iv := ac_rerun_i hq
      have hbN0 : 0 < D.b.N := by have := iv.2.2; omega
      have vb2 := vB_ad Dv.b hbN0 (of_decide_eq_false iv.2.1) O1 (by rw [iv.1]; decide) (fun z => absurd (iv.1.symm.trans z) (by decide))
      exact h _ _ _ _ _ (D.nb (D.b.ad r1)) hwf ((Kt.nb (b' := D.b.ad r1) (by rw [acB_ad]; exact C1) S1 hbN0 f1.kI.1 f1.kI.2).hi f2.out) (M1.nb (b' := D.b.ad r1) (by rw [acB_ad]; exact M2) W2 hbN0 (f2.kI h5).1 (f2.kI h5).2) (Dv.nb vb2.1) ((f2.out 900 (by omega)).1.trans hI9) ((f2.out 900 (by omega)).2.1.trans hA9)
    · exact absurd rfl q2 --end
set_option maxRecDepth 20000 in
theorem law_reverse {J : mJ} (X : mRules J) {I A : mI} {B : mB} {w f : Nat} {R : mR} {D : Dt} (Kt : KSt I A B D) (Mt : MSt w I A B D) (Dv : DV D) (hwf : w = 44 ∧ f = 45 ∨ w = 45 ∧ f = 44) {i len : Nat} (h9 : I 900 0 = nI len) (hl : len ≤ 3072) (hi : i + 6 ≤ len) (h : lwH J I A i R) : J n_law 1768 [.retAddr 0, .ref 0, .ref 43, .int (nI i)] [] I A B (pk w f) R := by
  have Jv := Dv.iv
  have G := Jv.G
  have V := G.V
  have vb : BkV D.b.P D.b.N D.b.K D.b.L D.b.T D.b.m D.b.rw := Dv.b
  have hnn := vb.n vb.K1 vb.K4
  have hn2 : (acB D.b).n ≤ 220 := hnn.1
  have hc6 : ct (fun j => decide (¬ ((acB D.b).so j = 1 ∨ (acB D.b).so j = 2))) (acB D.b).n + 8 ≤ 80 := hnn.2.1
  have hbK := Kt.bk Dv
  have hbM := Mt.bk Dv
  have aN := Jv.N
  have aP := Jv.P
  have hcN := V.cN
  have hN8 := V.N8
  have hD1b : decide (0 < D.b.L) = true → 1 ≤ (acB D.b).P * (acB D.b).N := fun z => by
    have z2 := vb.l (of_decide_eq_true z)
    rw [aN, aP]
    exact Nat.mul_pos (by omega) (by omega)
  have hbN : decide (0 < D.b.L) = false → (acB D.b).N = 0 := fun z => by
    have := of_decide_eq_false z
    rw [aN]
    exact (vb.z (by omega)).2.2.1
  have hP1 : 0 < (acB D.b).N → 0 < (acB D.b).P := fun z => by
    rcases Nat.lt_or_ge 0 D.b.L with y | y
    · have := vb.l y
      omega
    · have := vb.z (by omega)
      omega
  have hL0 : 0 < (acB D.b).N → 0 < D.b.L := fun z => by
    rcases Nat.lt_or_ge 0 D.b.L with y | y
    · exact y
    · have := vb.z (by omega)
      omega
  have hfl : decide (D.b.m - D.b.T = 20) = true ↔ D.b.m - D.b.T = 20 := decide_eq_true_iff
  have hmT := vb.mT
  have hT61 := vb.T61
  have hTm := vb.Tm
  have hmm : D.b.m < 100 := by omega
  have hf8 : decide (D.b.m - D.b.T = 20) = false → (acB D.b).n + 8 ≤ 220 := fun z => (hnn.2.2 (by have := of_decide_eq_false z; omega)).1
  have hf32 : decide (D.b.m - D.b.T = 20) = false → (acB D.b).nc < 32 := fun z => (hnn.2.2 (by have := of_decide_eq_false z; omega)).2
  have h5 := Mt.M.w5
  refine X 200 _ _ _ _ _ _ _ _ _ ?_
  refine And.intro (by first | exact scI (c := 1) h91 hl (by omega) rfl | exact scI (c := 2) h91 hl (by omega) rfl | exact scI (c := 3) h91 hl (by omega) rfl | exact scI (c := 1) h9 hl (by omega) rfl | exact scI (c := 2) h9 hl (by omega) rfl | exact scI (c := 3) h9 hl (by omega) rfl) ?_
  refine k_reverse X Kt.C G Jv.H Kt.S (fl := decide (D.b.m - D.b.T = 20)) hL0 hT61 hfl hmT hf8 hn2 hf32  ?_
  cases hq : ac_reverse (acB D.b) (decide (D.b.m - D.b.T = 20)) (A 900 (nI i + 1).toNatClampNeg)
  · rename_i v1
    unfold qS
    refine And.intro (by first | exact scI (c := 1) h91 hl (by omega) rfl | exact scI (c := 2) h91 hl (by omega) rfl | exact scI (c := 3) h91 hl (by omega) rfl | exact scI (c := 1) h9 hl (by omega) rfl | exact scI (c := 2) h9 hl (by omega) rfl | exact scI (c := 3) h9 hl (by omega) rfl) ?_
    refine r_reverse X Mt.M G Mt.W (fl := decide (D.b.m - D.b.T = 20)) hTm hmm hfl (by omega) ?_
    rw [hq]
    intro I2 A2 B2 M2 f2
    refine And.intro (fun q1 => ?_) (fun q1 => ?_)
    · exact h _ _ _ _ _ D hwf (Kt.hi f2.out) (Mt.fM M2 f2) Dv (f2.out 900 (by omega)).1 (f2.out 900 (by omega)).2.1
    · exact absurd rfl q1 --end
  · rename_i r1
    intro O1 I1 A1 B1 C1 S1 f1
    have hA9 : A1 900 = A 900 := f1.ar 900 (by decide) (by decide)
    have hI9 : I1 900 = I 900 := f1.ir 900 (by decide) (by decide) (by decide) (by decide)
    have h91 : I1 900 0 = nI len := by rw [hI9]; exact h9
    have M1 := Mt.lo f1.lo
    have hbM := M1.bk Dv
    refine And.intro (by first | exact scI (c := 1) h91 hl (by omega) rfl | exact scI (c := 2) h91 hl (by omega) rfl | exact scI (c := 3) h91 hl (by omega) rfl | exact scI (c := 1) h9 hl (by omega) rfl | exact scI (c := 2) h9 hl (by omega) rfl | exact scI (c := 3) h9 hl (by omega) rfl) ?_
    refine r_reverse X M1.M G M1.W (fl := decide (D.b.m - D.b.T = 20)) hTm hmm hfl (by omega) ?_
    rw [hA9, hq]
    intro O2 I2 A2 B2 M2 W2 f2
    refine And.intro (fun q2 => ?_) (fun q2 => ?_)
    · have iv := ac_reverse_i (by omega) hq
      have hbN0 : 0 < D.b.N := by have := iv.2.2.1; omega
      have vb2 := vB_ad Dv.b hbN0 (of_decide_eq_false iv.2.1) O1 (by rw [iv.1]; decide) (fun _ => iv.2.2.2)
      exact h _ _ _ _ _ (D.nb (D.b.ad r1)) hwf ((Kt.nb (b' := D.b.ad r1) (by rw [acB_ad]; exact C1) S1 hbN0 f1.kI.1 f1.kI.2).hi f2.out) (M1.nb (b' := D.b.ad r1) (by rw [acB_ad]; exact M2) W2 hbN0 (f2.kI h5).1 (f2.kI h5).2) (Dv.nb vb2.1) ((f2.out 900 (by omega)).1.trans hI9) ((f2.out 900 (by omega)).2.1.trans hA9)
    · exact absurd rfl q2 --end
set_option maxRecDepth 20000 in
theorem law_change {J : mJ} (X : mRules J) {I A : mI} {B : mB} {w f : Nat} {R : mR} {D : Dt} (Kt : KSt I A B D) (Mt : MSt w I A B D) (Dv : DV D) (hwf : w = 44 ∧ f = 45 ∨ w = 45 ∧ f = 44) {i len : Nat} (h9 : I 900 0 = nI len) (hl : len ≤ 3072) (hi : i + 6 ≤ len) (h : lwH J I A i R) : J n_law 1791 [.retAddr 0, .ref 0, .ref 43, .int (nI i)] [] I A B (pk w f) R := by
  have Jv := Dv.iv
  have G := Jv.G
  have V := G.V
  have vb : BkV D.b.P D.b.N D.b.K D.b.L D.b.T D.b.m D.b.rw := Dv.b
  have hnn := vb.n vb.K1 vb.K4
  have hn2 : (acB D.b).n ≤ 220 := hnn.1
  have hc6 : ct (fun j => decide (¬ ((acB D.b).so j = 1 ∨ (acB D.b).so j = 2))) (acB D.b).n + 8 ≤ 80 := hnn.2.1
  have hbK := Kt.bk Dv
  have hbM := Mt.bk Dv
  have aN := Jv.N
  have aP := Jv.P
  have hcN := V.cN
  have hN8 := V.N8
  have hD1b : decide (0 < D.b.L) = true → 1 ≤ (acB D.b).P * (acB D.b).N := fun z => by
    have z2 := vb.l (of_decide_eq_true z)
    rw [aN, aP]
    exact Nat.mul_pos (by omega) (by omega)
  have hbN : decide (0 < D.b.L) = false → (acB D.b).N = 0 := fun z => by
    have := of_decide_eq_false z
    rw [aN]
    exact (vb.z (by omega)).2.2.1
  have hP1 : 0 < (acB D.b).N → 0 < (acB D.b).P := fun z => by
    rcases Nat.lt_or_ge 0 D.b.L with y | y
    · have := vb.l y
      omega
    · have := vb.z (by omega)
      omega
  have hL0 : 0 < (acB D.b).N → 0 < D.b.L := fun z => by
    rcases Nat.lt_or_ge 0 D.b.L with y | y
    · exact y
    · have := vb.z (by omega)
      omega
  have hfl : decide (D.b.m - D.b.T = 20) = true ↔ D.b.m - D.b.T = 20 := decide_eq_true_iff
  have hmT := vb.mT
  have hT61 := vb.T61
  have hTm := vb.Tm
  have hmm : D.b.m < 100 := by omega
  have hf8 : decide (D.b.m - D.b.T = 20) = false → (acB D.b).n + 8 ≤ 220 := fun z => (hnn.2.2 (by have := of_decide_eq_false z; omega)).1
  have hf32 : decide (D.b.m - D.b.T = 20) = false → (acB D.b).nc < 32 := fun z => (hnn.2.2 (by have := of_decide_eq_false z; omega)).2
  have h5 := Mt.M.w5
  refine X 200 _ _ _ _ _ _ _ _ _ ?_
  refine And.intro (by first | exact scI (c := 1) h91 hl (by omega) rfl | exact scI (c := 2) h91 hl (by omega) rfl | exact scI (c := 3) h91 hl (by omega) rfl | exact scI (c := 1) h9 hl (by omega) rfl | exact scI (c := 2) h9 hl (by omega) rfl | exact scI (c := 3) h9 hl (by omega) rfl) ?_
  refine And.intro (by first | exact scI (c := 1) h91 hl (by omega) rfl | exact scI (c := 2) h91 hl (by omega) rfl | exact scI (c := 3) h91 hl (by omega) rfl | exact scI (c := 1) h9 hl (by omega) rfl | exact scI (c := 2) h9 hl (by omega) rfl | exact scI (c := 3) h9 hl (by omega) rfl) ?_
  refine And.intro (by first | exact scI (c := 1) h91 hl (by omega) rfl | exact scI (c := 2) h91 hl (by omega) rfl | exact scI (c := 3) h91 hl (by omega) rfl | exact scI (c := 1) h9 hl (by omega) rfl | exact scI (c := 2) h9 hl (by omega) rfl | exact scI (c := 3) h9 hl (by omega) rfl) ?_
  refine k_change X Kt.C G Jv.H Kt.S (fl := decide (D.b.m - D.b.T = 20)) hL0 hT61 hfl hmT hf8 hn2 hf32  ?_
  cases hq : ac_change (acB D.b) (decide (D.b.m - D.b.T = 20)) (A 900 (nI i + 1).toNatClampNeg) (A 900 (nI i + 2).toNatClampNeg) (A 900 (nI i + 3).toNatClampNeg)
  · rename_i v1
    unfold qS
    refine And.intro (by first | exact scI (c := 1) h91 hl (by omega) rfl | exact scI (c := 2) h91 hl (by omega) rfl | exact scI (c := 3) h91 hl (by omega) rfl | exact scI (c := 1) h9 hl (by omega) rfl | exact scI (c := 2) h9 hl (by omega) rfl | exact scI (c := 3) h9 hl (by omega) rfl) ?_
    refine And.intro (by first | exact scI (c := 1) h91 hl (by omega) rfl | exact scI (c := 2) h91 hl (by omega) rfl | exact scI (c := 3) h91 hl (by omega) rfl | exact scI (c := 1) h9 hl (by omega) rfl | exact scI (c := 2) h9 hl (by omega) rfl | exact scI (c := 3) h9 hl (by omega) rfl) ?_
    refine And.intro (by first | exact scI (c := 1) h91 hl (by omega) rfl | exact scI (c := 2) h91 hl (by omega) rfl | exact scI (c := 3) h91 hl (by omega) rfl | exact scI (c := 1) h9 hl (by omega) rfl | exact scI (c := 2) h9 hl (by omega) rfl | exact scI (c := 3) h9 hl (by omega) rfl) ?_
    refine r_change X Mt.M G Mt.W (fl := decide (D.b.m - D.b.T = 20)) hTm hmm hfl (by omega) hf32 ?_
    rw [hq]
    intro I2 A2 B2 M2 f2
    refine And.intro (fun q1 => ?_) (fun q1 => ?_)
    · exact h _ _ _ _ _ D hwf (Kt.hi f2.out) (Mt.fM M2 f2) Dv (f2.out 900 (by omega)).1 (f2.out 900 (by omega)).2.1
    · exact absurd rfl q1 --end
  · rename_i r1
    intro O1 I1 A1 B1 C1 S1 f1
    have hA9 : A1 900 = A 900 := f1.ar 900 (by decide) (by decide)
    have hI9 : I1 900 = I 900 := f1.ir 900 (by decide) (by decide) (by decide) (by decide)
    have h91 : I1 900 0 = nI len := by rw [hI9]; exact h9
    have M1 := Mt.lo f1.lo
    have hbM := M1.bk Dv
    refine And.intro (by first | exact scI (c := 1) h91 hl (by omega) rfl | exact scI (c := 2) h91 hl (by omega) rfl | exact scI (c := 3) h91 hl (by omega) rfl | exact scI (c := 1) h9 hl (by omega) rfl | exact scI (c := 2) h9 hl (by omega) rfl | exact scI (c := 3) h9 hl (by omega) rfl) ?_
    refine And.intro (by first | exact scI (c := 1) h91 hl (by omega) rfl | exact scI (c := 2) h91 hl (by omega) rfl | exact scI (c := 3) h91 hl (by omega) rfl | exact scI (c := 1) h9 hl (by omega) rfl | exact scI (c := 2) h9 hl (by omega) rfl | exact scI (c := 3) h9 hl (by omega) rfl) ?_
    refine And.intro (by first | exact scI (c := 1) h91 hl (by omega) rfl | exact scI (c := 2) h91 hl (by omega) rfl | exact scI (c := 3) h91 hl (by omega) rfl | exact scI (c := 1) h9 hl (by omega) rfl | exact scI (c := 2) h9 hl (by omega) rfl | exact scI (c := 3) h9 hl (by omega) rfl) ?_
    refine r_change X M1.M G M1.W (fl := decide (D.b.m - D.b.T = 20)) hTm hmm hfl (by omega) hf32 ?_
    rw [hA9, hq]
    intro O2 I2 A2 B2 M2 W2 f2
    refine And.intro (fun q2 => ?_) (fun q2 => ?_)
    · have iv := ac_change_i (by have := D320 V; show (acB D.b).P * (acB D.b).N < 2 ^ 31; omega) hq
      have hbN0 : 0 < D.b.N := by
        rcases Nat.lt_or_ge 0 D.b.N with y | y
        · exact y
        · have e0 : D.b.N = 0 := by omega
          have z9 : 0 < (acB D.b).P * (acB D.b).N := iv.2.2
          rw [aN, e0, Nat.mul_zero] at z9
          exact absurd z9 (Nat.lt_irrefl _)
      have vb2 := vB_ad Dv.b hbN0 (of_decide_eq_false iv.2.1) O1 (by rw [iv.1]; decide) (fun z => absurd (iv.1.symm.trans z) (by decide))
      exact h _ _ _ _ _ (D.nb (D.b.ad r1)) hwf ((Kt.nb (b' := D.b.ad r1) (by rw [acB_ad]; exact C1) S1 hbN0 f1.kI.1 f1.kI.2).hi f2.out) (M1.nb (b' := D.b.ad r1) (by rw [acB_ad]; exact M2) W2 hbN0 (f2.kI h5).1 (f2.kI h5).2) (Dv.nb vb2.1) ((f2.out 900 (by omega)).1.trans hI9) ((f2.out 900 (by omega)).2.1.trans hA9)
    · exact absurd rfl q2 --end
