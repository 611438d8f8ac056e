/-! contracts of the reference: lines (written by wip/whole/gm18.py) -/
set_option maxRecDepth 20000 in
theorem c_MrdRerun {J : mJ} (X : mRules J) {I A : mI} {B : mB} {w f : Nat} {R : mR} {t : Nat → Nat} {n : Nat} (T : TpR 60 A t n) {s : St} (S : MS w I A B t n s) (V : PV n s) (hL : 0 < s.L) (hw : tW t n s.p 13 = true) (h : qP w f I A B t n s R (pY t n s)) : J n_M_readRerun 0 [.ref 43] [] I A B (pk w f) R := by
  have hp0 := V.p
  have K0 := S.tk
  have hn0 := S.sz
  have hf0 := S.fl
  have Jv := ack_i V hL
  have G := Jv.G
  have M := S.mr
  have hsl := V.l hL
  have hsu := V.su
  have hv0 := V.c0
  have hv1 := V.c1
  have hv2 := V.c2
  have hv3 := V.c3
  have hv5 := V.c5
  have hm61 := pv_61 V
  have hPN : s.P * s.N ≤ 320 := Nat.mul_le_mul hsl.2.2.1 hsl.2.2.2.2.1
  have jP := Jv.P
  have jN := Jv.N
  have jt := Jv.nt
  have jc := Jv.nc
  have jk := Jv.c
  have hww := M.hw
  unfold pY at h
  refine X 200 _ _ _ _ _ _ _ _ _ ?_
  refine And.intro (fun q1 => ?_) (fun q1 => ?_)
  · rw [S.tr] at q1
    have hd := (nI_eq (b := 6) (by omega) (by omega)).mp q1
    rw [if_pos (Or.inl hd)] at h
    refine c_Merrs X (by exact hf0) ?_
    have hfx : ¬ nI 3 = 0 := by decide
    refine c_Mgood X (fun z => absurd z hfx) (fun _ => ?_)
    refine And.intro (fun q => absurd (by decide) q) (fun _ => ?_)
    exact h _ _ (by first | exact hfx | exact nI_3) rfl K0.s ((gM.refl I).2 21 (by decide) (by decide) (by decide) (by decide)) ((gM.refl I).2 23 (by decide) (by decide) (by decide) (by decide)) (((gM.refl I).y.trans (fY.i (by decide))).trans (fY.i (by decide)))
  · rw [S.tr] at q1
    have hd : ¬ ctk s.rw 5 s.m = 6 := fun z => q1 (by rw [z]; rfl)
    refine c_MisOpen X M G.V (fun zo => ?_) (fun zo => ?_)
    · have zo2 : ctk s.rw 4 s.m < s.N := by omega
      rw [if_neg (by omega)] at h
      refine And.intro (fun _ => ?_) (fun q => absurd q (by decide))
      refine c_Mgood X (fun _ => ?_) (fun z => absurd (by exact hf0) z)
      refine And.intro (fun _ => ?_) (fun q => absurd q (by decide))
      refine c_Madv X T (by exact hn0) (tE_b (t := t) hp0).2.1 (by exact K0.e) (fun I1 ga1 gb1 K1 => ?_)
      have g1 : gM I I1 := ⟨ga1, gb1⟩
      have hp1 := (tE_b (t := t) hp0).2.1
      have hn1 : I1 43 28 = nI n := (g1.2 28 (by decide) (by decide) (by decide) (by decide)).trans hn0
      have hf1 : I1 43 33 = 0 := (g1.2 33 (by decide) (by decide) (by decide) (by decide)).trans hf0
      refine c_Madds X M.hw S.wd (by omega) ?_
      exact h _ _ (MP.mk hf1 (((up2_m (by decide)).trans (((gM.refl I).trans g1).2 34 (by decide) (by decide) (by decide) (by decide))).trans S.pl) K1 hn1 ((M.gm (fun j hj => (up2_m (by omega)).trans (((gM.refl I).trans g1).2 j (by omega) (by omega) (by omega) (by omega)))).fw (fun q hq => wad_q hq) (fun j hj => wad_o (by omega) (by omega))) (S.wd.ad (r := (5, 0, 0, 0)) rfl rfl rfl rfl) (((up2_m (by decide)).trans (((gM.refl I).trans g1).2 9 (by decide) (by decide) (by decide) (by decide))).trans S.hd) (((up2_m (by decide)).trans (((gM.refl I).trans g1).2 35 (by decide) (by decide) (by decide) (by decide))).trans S.te) (by rw [up2_s, (((gM.refl I).trans g1).2 36 (by decide) (by decide) (by decide) (by decide)), S.tr]; exact nI_1 _) hp1) ((((gM.refl I).trans g1).y.trans (fY.a M.w5 (fun q hq => wad_q hq))).trans (fY.i (by decide)))
    · have zo2 : ¬ ctk s.rw 4 s.m < s.N := by omega
      rw [if_pos (Or.inr zo2)] at h
      refine And.intro (fun q => absurd (by decide) q) (fun _ => ?_)
      refine c_Merrs X (by exact hf0) ?_
      have hfx : ¬ nI 3 = 0 := by decide
      refine c_Mgood X (fun z => absurd z hfx) (fun _ => ?_)
      refine And.intro (fun q => absurd (by decide) q) (fun _ => ?_)
      exact h _ _ (by first | exact hfx | exact nI_3) rfl K0.s ((gM.refl I).2 21 (by decide) (by decide) (by decide) (by decide)) ((gM.refl I).2 23 (by decide) (by decide) (by decide) (by decide)) (((gM.refl I).y.trans (fY.i (by decide))).trans (fY.i (by decide)))
set_option maxRecDepth 20000 in
theorem c_MrdPay {J : mJ} (X : mRules J) {I A : mI} {B : mB} {w f : Nat} {R : mR} {t : Nat → Nat} {n : Nat} (T : TpR 60 A t n) {s : St} (S : MS w I A B t n s) (V : PV n s) (hL : 0 < s.L) (hw : tW t n s.p 10 = true) (h : qP w f I A B t n s R (pE t n s 1)) : J n_M_readEntry 0 [.ref 43, .int 1, .float 0, .float 0] [] I A B (pk w f) R := by
  have hp0 := V.p
  have K0 := S.tk
  have hn0 := S.sz
  have hf0 := S.fl
  have Jv := ack_i V hL
  have G := Jv.G
  have M := S.mr
  have hsl := V.l hL
  have hsu := V.su
  have hv0 := V.c0
  have hv1 := V.c1
  have hv2 := V.c2
  have hv3 := V.c3
  have hv5 := V.c5
  have hm61 := pv_61 V
  have hPN : s.P * s.N ≤ 320 := Nat.mul_le_mul hsl.2.2.1 hsl.2.2.2.2.1
  have jP := Jv.P
  have jN := Jv.N
  have jt := Jv.nt
  have jc := Jv.nc
  have jk := Jv.c
  have hww := M.hw
  unfold pE at h
  refine X 200 _ _ _ _ _ _ _ _ _ ?_
  refine And.intro (fun q1 => ?_) (fun q1 => ?_)
  · rw [S.te] at q1
    have hd := (nI_eq (b := 30) (by omega) (by omega)).mp q1
    rw [if_pos (Or.inl hd)] at h
    refine c_Merrs X (by exact hf0) ?_
    have hfx : ¬ nI 3 = 0 := by decide
    refine c_Mgood X (fun z => absurd z hfx) (fun _ => ?_)
    refine And.intro (fun _ => ?_) (fun q => absurd (by decide) q)
    refine Exists.intro _ (And.intro hww (And.intro (vlit rfl) ?_))
    refine Exists.intro _ (And.intro hww (And.intro (vlit rfl) ?_))
    refine c_Mtakf X hfx ?_
    refine c_Mtakf X hfx ?_
    refine c_Mgood X (fun z => absurd z hfx) (fun _ => ?_)
    refine And.intro (fun q => absurd (by decide) q) (fun _ => ?_)
    exact h _ _ (by first | exact hfx | exact nI_3) rfl K0.s ((gM.refl I).2 21 (by decide) (by decide) (by decide) (by decide)) ((gM.refl I).2 23 (by decide) (by decide) (by decide) (by decide)) (((gM.refl I).y.trans (fY.i (by decide))).trans (fY.i (by decide)))
  · rw [S.te] at q1
    have hd : ¬ ctk s.rw 3 s.m = 30 := fun z => q1 (by rw [z]; rfl)
    refine c_MisOpen X M G.V (fun zo => ?_) (fun zo => ?_)
    · have zo2 : ctk s.rw 4 s.m < s.N := by omega
      rw [if_neg (by omega)] at h
      refine And.intro (fun _ => ?_) (fun q => absurd q (by decide))
      refine c_Mgood X (fun _ => ?_) (fun z => absurd (by exact hf0) z)
      refine And.intro (fun q => absurd q (by decide)) (fun _ => ?_)
      refine c_Madv X T (by exact hn0) (tE_b (t := t) hp0).2.1 (by exact K0.e) (fun I1 ga1 gb1 K1 => ?_)
      have g1 : gM I I1 := ⟨ga1, gb1⟩
      have hp1 := (tE_b (t := t) hp0).2.1
      have hn1 : I1 43 28 = nI n := (g1.2 28 (by decide) (by decide) (by decide) (by decide)).trans hn0
      have hf1 : I1 43 33 = 0 := (g1.2 33 (by decide) (by decide) (by decide) (by decide)).trans hf0
      refine Exists.intro _ (And.intro hww (And.intro (vlit rfl) ?_))
      refine Exists.intro _ (And.intro hww (And.intro (vlit rfl) ?_))
      refine c_Mtak X T (by exact hn1) hp1 (by exact K1) (by exact hf1) (lo := 0) (hi := s.P * s.N) (by decide) (by omega) rfl (by show A w 0 * A w 1 - 1 = _; rw [M.hP, M.hN, pk_mul, jP, jN]; exact zN_hi) (fun I2 lo2 hi2 e2 g2 K2 => ?_) (fun kf hkf e2 => ?_)
      · have hp2 := (tE_b (t := t) hp1).2.1
        have hn2 : I2 43 28 = nI n := (g2.2 28 (by decide) (by decide) (by decide) (by decide)).trans hn1
        have hf2 : I2 43 33 = 0 := (g2.2 33 (by decide) (by decide) (by decide) (by decide)).trans hf1
        simp only [bnd_ok e2] at h
        refine c_Mtak X T (by exact hn2) hp2 (by exact K2) (by exact hf2) (lo := 1) (hi := 100000) (by decide) (by decide) rfl rfl (fun I3 lo3 hi3 e3 g3 K3 => ?_) (fun kf hkf e3 => ?_)
        · have hp3 := (tE_b (t := t) hp2).2.1
          have hn3 : I3 43 28 = nI n := (g3.2 28 (by decide) (by decide) (by decide) (by decide)).trans hn2
          have hf3 : I3 43 33 = 0 := (g3.2 33 (by decide) (by decide) (by decide) (by decide)).trans hf2
          simp only [bnd_ok e3] at h
          refine c_Mgood X (fun _ => ?_) (fun z => absurd (by exact hf3) z)
          refine And.intro (fun _ => ?_) (fun q => absurd q (by decide))
          refine c_Madds X M.hw S.wd (by omega) ?_
          exact h _ _ (MP.mk hf3 (((up2_m (by decide)).trans (((((gM.refl I).trans g1).trans g2).trans g3).2 34 (by decide) (by decide) (by decide) (by decide))).trans S.pl) K3 hn3 ((M.gm (fun j hj => (up2_m (by omega)).trans (((((gM.refl I).trans g1).trans g2).trans g3).2 j (by omega) (by omega) (by omega) (by omega)))).fw (fun q hq => wad_q hq) (fun j hj => wad_o (by omega) (by omega))) (S.wd.ad (r := (3, tN t n (tE t n s.p), 1 * ((tN t n (tE t n (tE t n s.p)) : Nat) : Int), 0)) rfl rfl (by show (1 : Int32) * nI (tN t n (tE t n (tE t n s.p))) = zN (1 * ((tN t n (tE t n (tE t n s.p)) : Nat) : Int)); rw [nI_z]; exact (Int32.ofInt_mul 1 _).symm) rfl) (((up2_m (by decide)).trans (((((gM.refl I).trans g1).trans g2).trans g3).2 9 (by decide) (by decide) (by decide) (by decide))).trans S.hd) (by rw [up2_s, (((((gM.refl I).trans g1).trans g2).trans g3).2 35 (by decide) (by decide) (by decide) (by decide)), S.te]; exact nI_1 _) (((up2_m (by decide)).trans (((((gM.refl I).trans g1).trans g2).trans g3).2 36 (by decide) (by decide) (by decide) (by decide))).trans S.tr) hp3) ((((((gM.refl I).trans g1).trans g2).trans g3).y.trans (fY.a M.w5 (fun q hq => wad_q hq))).trans (fY.i (by decide)))
        · have hfx := nI_12 hkf
          simp only [bnd_er e3] at h
          refine c_Mgood X (fun z => absurd z hfx) (fun _ => ?_)
          refine And.intro (fun q => absurd (by decide) q) (fun _ => ?_)
          exact h _ _ (by first | exact hfx | exact nI_3) rfl K2.s ((((gM.refl I).trans g1).trans g2).2 21 (by decide) (by decide) (by decide) (by decide)) ((((gM.refl I).trans g1).trans g2).2 23 (by decide) (by decide) (by decide) (by decide)) (((((gM.refl I).trans g1).trans g2).y.trans (fY.i (by decide))).trans (fY.i (by decide)))
      · have hfx := nI_12 hkf
        simp only [bnd_er e2] at h
        refine c_Mtakf X hfx ?_
        refine c_Mgood X (fun z => absurd z hfx) (fun _ => ?_)
        refine And.intro (fun q => absurd (by decide) q) (fun _ => ?_)
        exact h _ _ (by first | exact hfx | exact nI_3) rfl K1.s (((gM.refl I).trans g1).2 21 (by decide) (by decide) (by decide) (by decide)) (((gM.refl I).trans g1).2 23 (by decide) (by decide) (by decide) (by decide)) ((((gM.refl I).trans g1).y.trans (fY.i (by decide))).trans (fY.i (by decide)))
    · have zo2 : ¬ ctk s.rw 4 s.m < s.N := by omega
      rw [if_pos (Or.inr zo2)] at h
      refine And.intro (fun q => absurd (by decide) q) (fun _ => ?_)
      refine c_Merrs X (by exact hf0) ?_
      have hfx : ¬ nI 3 = 0 := by decide
      refine c_Mgood X (fun z => absurd z hfx) (fun _ => ?_)
      refine And.intro (fun _ => ?_) (fun q => absurd (by decide) q)
      refine Exists.intro _ (And.intro hww (And.intro (vlit rfl) ?_))
      refine Exists.intro _ (And.intro hww (And.intro (vlit rfl) ?_))
      refine c_Mtakf X hfx ?_
      refine c_Mtakf X hfx ?_
      refine c_Mgood X (fun z => absurd z hfx) (fun _ => ?_)
      refine And.intro (fun q => absurd (by decide) q) (fun _ => ?_)
      exact h _ _ (by first | exact hfx | exact nI_3) rfl K0.s ((gM.refl I).2 21 (by decide) (by decide) (by decide) (by decide)) ((gM.refl I).2 23 (by decide) (by decide) (by decide) (by decide)) (((gM.refl I).y.trans (fY.i (by decide))).trans (fY.i (by decide)))
set_option maxRecDepth 20000 in
theorem c_MrdDraw {J : mJ} (X : mRules J) {I A : mI} {B : mB} {w f : Nat} {R : mR} {t : Nat → Nat} {n : Nat} (T : TpR 60 A t n) {s : St} (S : MS w I A B t n s) (V : PV n s) (hL : 0 < s.L) (hw : tW t n s.p 11 = true) (h : qP w f I A B t n s R (pE t n s (-1))) : J n_M_readEntry 0 [.ref 43, .int (-1), .float 0, .float 0] [] I A B (pk w f) R := by
  have hp0 := V.p
  have K0 := S.tk
  have hn0 := S.sz
  have hf0 := S.fl
  have Jv := ack_i V hL
  have G := Jv.G
  have M := S.mr
  have hsl := V.l hL
  have hsu := V.su
  have hv0 := V.c0
  have hv1 := V.c1
  have hv2 := V.c2
  have hv3 := V.c3
  have hv5 := V.c5
  have hm61 := pv_61 V
  have hPN : s.P * s.N ≤ 320 := Nat.mul_le_mul hsl.2.2.1 hsl.2.2.2.2.1
  have jP := Jv.P
  have jN := Jv.N
  have jt := Jv.nt
  have jc := Jv.nc
  have jk := Jv.c
  have hww := M.hw
  unfold pE at h
  refine X 200 _ _ _ _ _ _ _ _ _ ?_
  refine And.intro (fun q1 => ?_) (fun q1 => ?_)
  · rw [S.te] at q1
    have hd := (nI_eq (b := 30) (by omega) (by omega)).mp q1
    rw [if_pos (Or.inl hd)] at h
    refine c_Merrs X (by exact hf0) ?_
    have hfx : ¬ nI 3 = 0 := by decide
    refine c_Mgood X (fun z => absurd z hfx) (fun _ => ?_)
    refine And.intro (fun _ => ?_) (fun q => absurd (by decide) q)
    refine Exists.intro _ (And.intro hww (And.intro (vlit rfl) ?_))
    refine Exists.intro _ (And.intro hww (And.intro (vlit rfl) ?_))
    refine c_Mtakf X hfx ?_
    refine c_Mtakf X hfx ?_
    refine c_Mgood X (fun z => absurd z hfx) (fun _ => ?_)
    refine And.intro (fun q => absurd (by decide) q) (fun _ => ?_)
    exact h _ _ (by first | exact hfx | exact nI_3) rfl K0.s ((gM.refl I).2 21 (by decide) (by decide) (by decide) (by decide)) ((gM.refl I).2 23 (by decide) (by decide) (by decide) (by decide)) (((gM.refl I).y.trans (fY.i (by decide))).trans (fY.i (by decide)))
  · rw [S.te] at q1
    have hd : ¬ ctk s.rw 3 s.m = 30 := fun z => q1 (by rw [z]; rfl)
    refine c_MisOpen X M G.V (fun zo => ?_) (fun zo => ?_)
    · have zo2 : ctk s.rw 4 s.m < s.N := by omega
      rw [if_neg (by omega)] at h
      refine And.intro (fun _ => ?_) (fun q => absurd q (by decide))
      refine c_Mgood X (fun _ => ?_) (fun z => absurd (by exact hf0) z)
      refine And.intro (fun q => absurd q (by decide)) (fun _ => ?_)
      refine c_Madv X T (by exact hn0) (tE_b (t := t) hp0).2.1 (by exact K0.e) (fun I1 ga1 gb1 K1 => ?_)
      have g1 : gM I I1 := ⟨ga1, gb1⟩
      have hp1 := (tE_b (t := t) hp0).2.1
      have hn1 : I1 43 28 = nI n := (g1.2 28 (by decide) (by decide) (by decide) (by decide)).trans hn0
      have hf1 : I1 43 33 = 0 := (g1.2 33 (by decide) (by decide) (by decide) (by decide)).trans hf0
      refine Exists.intro _ (And.intro hww (And.intro (vlit rfl) ?_))
      refine Exists.intro _ (And.intro hww (And.intro (vlit rfl) ?_))
      refine c_Mtak X T (by exact hn1) hp1 (by exact K1) (by exact hf1) (lo := 0) (hi := s.P * s.N) (by decide) (by omega) rfl (by show A w 0 * A w 1 - 1 = _; rw [M.hP, M.hN, pk_mul, jP, jN]; exact zN_hi) (fun I2 lo2 hi2 e2 g2 K2 => ?_) (fun kf hkf e2 => ?_)
      · have hp2 := (tE_b (t := t) hp1).2.1
        have hn2 : I2 43 28 = nI n := (g2.2 28 (by decide) (by decide) (by decide) (by decide)).trans hn1
        have hf2 : I2 43 33 = 0 := (g2.2 33 (by decide) (by decide) (by decide) (by decide)).trans hf1
        simp only [bnd_ok e2] at h
        refine c_Mtak X T (by exact hn2) hp2 (by exact K2) (by exact hf2) (lo := 1) (hi := 100000) (by decide) (by decide) rfl rfl (fun I3 lo3 hi3 e3 g3 K3 => ?_) (fun kf hkf e3 => ?_)
        · have hp3 := (tE_b (t := t) hp2).2.1
          have hn3 : I3 43 28 = nI n := (g3.2 28 (by decide) (by decide) (by decide) (by decide)).trans hn2
          have hf3 : I3 43 33 = 0 := (g3.2 33 (by decide) (by decide) (by decide) (by decide)).trans hf2
          simp only [bnd_ok e3] at h
          refine c_Mgood X (fun _ => ?_) (fun z => absurd (by exact hf3) z)
          refine And.intro (fun _ => ?_) (fun q => absurd q (by decide))
          refine c_Madds X M.hw S.wd (by omega) ?_
          exact h _ _ (MP.mk hf3 (((up2_m (by decide)).trans (((((gM.refl I).trans g1).trans g2).trans g3).2 34 (by decide) (by decide) (by decide) (by decide))).trans S.pl) K3 hn3 ((M.gm (fun j hj => (up2_m (by omega)).trans (((((gM.refl I).trans g1).trans g2).trans g3).2 j (by omega) (by omega) (by omega) (by omega)))).fw (fun q hq => wad_q hq) (fun j hj => wad_o (by omega) (by omega))) (S.wd.ad (r := (3, tN t n (tE t n s.p), (-1) * ((tN t n (tE t n (tE t n s.p)) : Nat) : Int), 0)) rfl rfl (by show ((-1) : Int32) * nI (tN t n (tE t n (tE t n s.p))) = zN ((-1) * ((tN t n (tE t n (tE t n s.p)) : Nat) : Int)); rw [nI_z]; exact (Int32.ofInt_mul (-1) _).symm) rfl) (((up2_m (by decide)).trans (((((gM.refl I).trans g1).trans g2).trans g3).2 9 (by decide) (by decide) (by decide) (by decide))).trans S.hd) (by rw [up2_s, (((((gM.refl I).trans g1).trans g2).trans g3).2 35 (by decide) (by decide) (by decide) (by decide)), S.te]; exact nI_1 _) (((up2_m (by decide)).trans (((((gM.refl I).trans g1).trans g2).trans g3).2 36 (by decide) (by decide) (by decide) (by decide))).trans S.tr) hp3) ((((((gM.refl I).trans g1).trans g2).trans g3).y.trans (fY.a M.w5 (fun q hq => wad_q hq))).trans (fY.i (by decide)))
        · have hfx := nI_12 hkf
          simp only [bnd_er e3] at h
          refine c_Mgood X (fun z => absurd z hfx) (fun _ => ?_)
          refine And.intro (fun q => absurd (by decide) q) (fun _ => ?_)
          exact h _ _ (by first | exact hfx | exact nI_3) rfl K2.s ((((gM.refl I).trans g1).trans g2).2 21 (by decide) (by decide) (by decide) (by decide)) ((((gM.refl I).trans g1).trans g2).2 23 (by decide) (by decide) (by decide) (by decide)) (((((gM.refl I).trans g1).trans g2).y.trans (fY.i (by decide))).trans (fY.i (by decide)))
      · have hfx := nI_12 hkf
        simp only [bnd_er e2] at h
        refine c_Mtakf X hfx ?_
        refine c_Mgood X (fun z => absurd z hfx) (fun _ => ?_)
        refine And.intro (fun q => absurd (by decide) q) (fun _ => ?_)
        exact h _ _ (by first | exact hfx | exact nI_3) rfl K1.s (((gM.refl I).trans g1).2 21 (by decide) (by decide) (by decide) (by decide)) (((gM.refl I).trans g1).2 23 (by decide) (by decide) (by decide) (by decide)) ((((gM.refl I).trans g1).y.trans (fY.i (by decide))).trans (fY.i (by decide)))
    · have zo2 : ¬ ctk s.rw 4 s.m < s.N := by omega
      rw [if_pos (Or.inr zo2)] at h
      refine And.intro (fun q => absurd (by decide) q) (fun _ => ?_)
      refine c_Merrs X (by exact hf0) ?_
      have hfx : ¬ nI 3 = 0 := by decide
      refine c_Mgood X (fun z => absurd z hfx) (fun _ => ?_)
      refine And.intro (fun _ => ?_) (fun q => absurd (by decide) q)
      refine Exists.intro _ (And.intro hww (And.intro (vlit rfl) ?_))
      refine Exists.intro _ (And.intro hww (And.intro (vlit rfl) ?_))
      refine c_Mtakf X hfx ?_
      refine c_Mtakf X hfx ?_
      refine c_Mgood X (fun z => absurd z hfx) (fun _ => ?_)
      refine And.intro (fun q => absurd (by decide) q) (fun _ => ?_)
      exact h _ _ (by first | exact hfx | exact nI_3) rfl K0.s ((gM.refl I).2 21 (by decide) (by decide) (by decide) (by decide)) ((gM.refl I).2 23 (by decide) (by decide) (by decide) (by decide)) (((gM.refl I).y.trans (fY.i (by decide))).trans (fY.i (by decide)))
set_option maxRecDepth 20000 in
theorem c_MrdDebit {J : mJ} (X : mRules J) {I A : mI} {B : mB} {w f : Nat} {R : mR} {t : Nat → Nat} {n : Nat} (T : TpR 60 A t n) {s : St} (S : MS w I A B t n s) (V : PV n s) (hL : 0 < s.L) (hw : tW t n s.p 6 = true) (h : qP w f I A B t n s R (pD t n s)) : J n_M_readDebit 0 [.ref 43, .float 0, .float 0, .float 0] [] I A B (pk w f) R := by
  have hp0 := V.p
  have K0 := S.tk
  have hn0 := S.sz
  have hf0 := S.fl
  have Jv := ack_i V hL
  have G := Jv.G
  have M := S.mr
  have hsl := V.l hL
  have hsu := V.su
  have hv0 := V.c0
  have hv1 := V.c1
  have hv2 := V.c2
  have hv3 := V.c3
  have hv5 := V.c5
  have hm61 := pv_61 V
  have hPN : s.P * s.N ≤ 320 := Nat.mul_le_mul hsl.2.2.1 hsl.2.2.2.2.1
  have jP := Jv.P
  have jN := Jv.N
  have jt := Jv.nt
  have jc := Jv.nc
  have jk := Jv.c
  have hww := M.hw
  unfold pD at h
  refine X 200 _ _ _ _ _ _ _ _ _ ?_
  refine And.intro (fun q1 => ?_) (fun q1 => ?_)
  · have hd : ¬ 0 < ctk s.rw 1 s.m := fun z => by
      rw [S.hd, if_pos z] at q1
      exact absurd q1 (by decide)
    rw [if_neg hd] at h
    refine c_Mgood X (fun _ => ?_) (fun z => absurd (by exact hf0) z)
    refine And.intro (fun q => absurd q (by decide)) (fun _ => ?_)
    refine c_Madv X T (by exact hn0) (tE_b (t := t) hp0).2.1 (by exact K0.e) (fun I1 ga1 gb1 K1 => ?_)
    have g1 : gM I I1 := ⟨ga1, gb1⟩
    have hp1 := (tE_b (t := t) hp0).2.1
    have hn1 : I1 43 28 = nI n := (g1.2 28 (by decide) (by decide) (by decide) (by decide)).trans hn0
    have hf1 : I1 43 33 = 0 := (g1.2 33 (by decide) (by decide) (by decide) (by decide)).trans hf0
    refine c_Mtak X T (by exact hn1) hp1 (by exact K1) (by exact hf1) (lo := 0) (hi := 5001) (by decide) (by decide) rfl rfl (fun I2 lo2 hi2 e2 g2 K2 => ?_) (fun kf hkf e2 => ?_)
    · have hp2 := (tE_b (t := t) hp1).2.1
      have hn2 : I2 43 28 = nI n := (g2.2 28 (by decide) (by decide) (by decide) (by decide)).trans hn1
      have hf2 : I2 43 33 = 0 := (g2.2 33 (by decide) (by decide) (by decide) (by decide)).trans hf1
      simp only [bnd_ok e2] at h
      refine c_Mtold7 X T (by exact hn2) hp2 (by exact K2) (by exact hf2) (lo := 0) (hi := 5001) (by decide) (by decide) rfl rfl (fun I3 lo3 hi3 ea3 eb3 g3 K3 => ?_) (fun ea3 => ?_) (fun I3 kf hkf ea3 eb3 g3 K3 => ?_)
      · have hp3 := (tE_b (t := t) (tE_b (t := t) hp2).2.1).2.1
        have hn3 : I3 43 28 = nI n := (g3.2 28 (by decide) (by decide) (by decide) (by decide)).trans hn2
        have hf3 : I3 43 33 = 0 := (g3.2 33 (by decide) (by decide) (by decide) (by decide)).trans hf2
        simp only [bnd_ok ea3, bnd_ok eb3] at h
        refine c_Mtold8 X T (by exact hn3) hp3 (by exact K3) (by exact hf3) (lo := 0) (hi := 100000) (by decide) (by decide) rfl rfl (fun I4 lo4 hi4 ea4 eb4 g4 K4 => ?_) (fun ea4 => ?_) (fun I4 kf hkf ea4 eb4 g4 K4 => ?_)
        · have hp4 := (tE_b (t := t) (tE_b (t := t) hp3).2.1).2.1
          have hn4 : I4 43 28 = nI n := (g4.2 28 (by decide) (by decide) (by decide) (by decide)).trans hn3
          have hf4 : I4 43 33 = 0 := (g4.2 33 (by decide) (by decide) (by decide) (by decide)).trans hf3
          simp only [bnd_ok ea4, bnd_ok eb4] at h
          refine c_Mgood X (fun _ => ?_) (fun z => absurd (by exact hf4) z)
          refine And.intro (fun q => absurd q (by decide)) (fun _ => ?_)
          refine c_Madds X M.hw S.wd (by omega) ?_
          exact h _ _ (MP.mk hf4 (((((((gM.refl I).trans g1).trans g2).trans g3).trans g4).2 34 (by decide) (by decide) (by decide) (by decide)).trans S.pl) K4 hn4 ((M.gm (fun j hj => (((((gM.refl I).trans g1).trans g2).trans g3).trans g4).2 j (by omega) (by omega) (by omega) (by omega))).fw (fun q hq => wad_q hq) (fun j hj => wad_o (by omega) (by omega))) (S.wd.ad (r := (1, tN t n (tE t n s.p), ((tN t n (tE t n (tE t n (tE t n s.p))) : Nat) : Int), tN t n (tE t n (tE t n (tE t n (tE t n (tE t n s.p))))))) rfl rfl (nI_z _) rfl) (((((((gM.refl I).trans g1).trans g2).trans g3).trans g4).2 9 (by decide) (by decide) (by decide) (by decide)).trans S.hd) (((((((gM.refl I).trans g1).trans g2).trans g3).trans g4).2 35 (by decide) (by decide) (by decide) (by decide)).trans S.te) (((((((gM.refl I).trans g1).trans g2).trans g3).trans g4).2 36 (by decide) (by decide) (by decide) (by decide)).trans S.tr) hp4) ((((((gM.refl I).trans g1).trans g2).trans g3).trans g4).y.trans (fY.a M.w5 (fun q hq => wad_q hq)))
        · have hfx : ¬ nI 1 = 0 := by decide
          simp only [bnd_er ea4] at h
          refine c_Mgood X (fun z => absurd z hfx) (fun _ => ?_)
          refine And.intro (fun _ => ?_) (fun q => absurd (by decide) q)
          exact h _ _ (by first | exact hfx | exact nI_3) rfl K3.s (((((gM.refl I).trans g1).trans g2).trans g3).2 21 (by decide) (by decide) (by decide) (by decide)) (((((gM.refl I).trans g1).trans g2).trans g3).2 23 (by decide) (by decide) (by decide) (by decide)) ((((((gM.refl I).trans g1).trans g2).trans g3).y.trans (fY.i (by decide))).trans (fY.i (by decide)))
        · have hfx := nI_12 hkf
          simp only [bnd_ok ea4, bnd_er eb4] at h
          refine c_Mgood X (fun z => absurd z hfx) (fun _ => ?_)
          refine And.intro (fun _ => ?_) (fun q => absurd (by decide) q)
          exact h _ _ (by first | exact hfx | exact nI_3) rfl K4.s ((((((gM.refl I).trans g1).trans g2).trans g3).trans g4).2 21 (by decide) (by decide) (by decide) (by decide)) ((((((gM.refl I).trans g1).trans g2).trans g3).trans g4).2 23 (by decide) (by decide) (by decide) (by decide)) (((((((gM.refl I).trans g1).trans g2).trans g3).trans g4).y.trans (fY.i (by decide))).trans (fY.i (by decide)))
      · have hfx : ¬ nI 1 = 0 := by decide
        simp only [bnd_er ea3] at h
        refine c_Mtoldf8 X hfx ?_
        refine c_Mgood X (fun z => absurd z hfx) (fun _ => ?_)
        refine And.intro (fun _ => ?_) (fun q => absurd (by decide) q)
        exact h _ _ (by first | exact hfx | exact nI_3) rfl K2.s ((((gM.refl I).trans g1).trans g2).2 21 (by decide) (by decide) (by decide) (by decide)) ((((gM.refl I).trans g1).trans g2).2 23 (by decide) (by decide) (by decide) (by decide)) (((((gM.refl I).trans g1).trans g2).y.trans (fY.i (by decide))).trans (fY.i (by decide)))
      · have hfx := nI_12 hkf
        simp only [bnd_ok ea3, bnd_er eb3] at h
        refine c_Mtoldf8 X hfx ?_
        refine c_Mgood X (fun z => absurd z hfx) (fun _ => ?_)
        refine And.intro (fun _ => ?_) (fun q => absurd (by decide) q)
        exact h _ _ (by first | exact hfx | exact nI_3) rfl K3.s (((((gM.refl I).trans g1).trans g2).trans g3).2 21 (by decide) (by decide) (by decide) (by decide)) (((((gM.refl I).trans g1).trans g2).trans g3).2 23 (by decide) (by decide) (by decide) (by decide)) ((((((gM.refl I).trans g1).trans g2).trans g3).y.trans (fY.i (by decide))).trans (fY.i (by decide)))
    · have hfx := nI_12 hkf
      simp only [bnd_er e2] at h
      refine c_Mtoldf7 X hfx ?_
      refine c_Mtoldf8 X hfx ?_
      refine c_Mgood X (fun z => absurd z hfx) (fun _ => ?_)
      refine And.intro (fun _ => ?_) (fun q => absurd (by decide) q)
      exact h _ _ (by first | exact hfx | exact nI_3) rfl K1.s (((gM.refl I).trans g1).2 21 (by decide) (by decide) (by decide) (by decide)) (((gM.refl I).trans g1).2 23 (by decide) (by decide) (by decide) (by decide)) ((((gM.refl I).trans g1).y.trans (fY.i (by decide))).trans (fY.i (by decide)))
  · have hd : 0 < ctk s.rw 1 s.m := by
      rcases Nat.lt_or_ge 0 (ctk s.rw 1 s.m) with z | z
      · exact z
      · exact absurd (by rw [S.hd, if_neg (by omega)]) q1
    rw [if_pos hd] at h
    refine c_Merrs X (by exact hf0) ?_
    have hfx : ¬ nI 3 = 0 := by decide
    refine c_Mgood X (fun z => absurd z hfx) (fun _ => ?_)
    refine And.intro (fun _ => ?_) (fun q => absurd (by decide) q)
    refine c_Mtakf X hfx ?_
    refine c_Mtoldf7 X hfx ?_
    refine c_Mtoldf8 X hfx ?_
    refine c_Mgood X (fun z => absurd z hfx) (fun _ => ?_)
    refine And.intro (fun _ => ?_) (fun q => absurd (by decide) q)
    exact h _ _ (by first | exact hfx | exact nI_3) rfl K0.s ((gM.refl I).2 21 (by decide) (by decide) (by decide) (by decide)) ((gM.refl I).2 23 (by decide) (by decide) (by decide) (by decide)) (((gM.refl I).y.trans (fY.i (by decide))).trans (fY.i (by decide)))
set_option maxRecDepth 20000 in
theorem c_MrdTier {J : mJ} (X : mRules J) {I A : mI} {B : mB} {w f : Nat} {R : mR} {t : Nat → Nat} {n : Nat} (T : TpR 60 A t n) {s : St} (S : MS w I A B t n s) (V : PV n s) (hL : 0 < s.L) (hw : tW t n s.p 4 = true) (h : qP w f I A B t n s R (pT t n s)) : J n_M_readTier 0 [.ref 43, .float 0, .float 0] [] I A B (pk w f) R := by
  have hp0 := V.p
  have K0 := S.tk
  have hn0 := S.sz
  have hf0 := S.fl
  have Jv := ack_i V hL
  have G := Jv.G
  have M := S.mr
  have hsl := V.l hL
  have hsu := V.su
  have hv0 := V.c0
  have hv1 := V.c1
  have hv2 := V.c2
  have hv3 := V.c3
  have hv5 := V.c5
  have hm61 := pv_61 V
  have hPN : s.P * s.N ≤ 320 := Nat.mul_le_mul hsl.2.2.1 hsl.2.2.2.2.1
  have jP := Jv.P
  have jN := Jv.N
  have jt := Jv.nt
  have jc := Jv.nc
  have jk := Jv.c
  have hww := M.hw
  unfold pT at h
  refine X 200 _ _ _ _ _ _ _ _ _ ?_
  refine And.intro (fun q1 => ?_) (fun q1 => ?_)
  · rw [M.hnt, jt] at q1
    have hd := (nI_eq (b := 4) (by omega) (by omega)).mp q1
    rw [if_pos (Or.inl hd)] at h
    refine c_Merrs X (by exact hf0) ?_
    have hfx : ¬ nI 3 = 0 := by decide
    refine c_Mgood X (fun z => absurd z hfx) (fun _ => ?_)
    refine And.intro (fun _ => ?_) (fun q => absurd (by decide) q)
    refine c_Mtakf X hfx ?_
    refine c_Mpassf5 X hfx ?_
    refine And.intro (fun _ => ?_) (fun q => absurd (by decide) q)
    refine c_Mgood X (fun z => absurd z hfx) (fun _ => ?_)
    refine And.intro (fun _ => ?_) (fun q => absurd (by decide) q)
    exact h _ _ (by first | exact hfx | exact nI_3) rfl K0.s ((gM.refl I).2 21 (by decide) (by decide) (by decide) (by decide)) ((gM.refl I).2 23 (by decide) (by decide) (by decide) (by decide)) (((gM.refl I).y.trans (fY.i (by decide))).trans (fY.i (by decide)))
  · rw [M.hnt, jt] at q1
    have hd4 : ¬ ctk s.rw 0 s.m = 4 := fun z => q1 (by rw [z]; rfl)
    refine And.intro (fun q2 => ?_) (fun q2 => ?_)
    · rw [M.hnt, jt] at q2
      have hz7 : ctk s.rw 0 s.m = 0 := by have := (nI_leI (b := 0) (by omega) (by omega)).mp q2; omega
      rw [if_neg (by omega)] at h
      refine c_Mgood X (fun _ => ?_) (fun z => absurd (by exact hf0) z)
      refine And.intro (fun q => absurd q (by decide)) (fun _ => ?_)
      refine c_Madv X T (by exact hn0) (tE_b (t := t) hp0).2.1 (by exact K0.e) (fun I1 ga1 gb1 K1 => ?_)
      have g1 : gM I I1 := ⟨ga1, gb1⟩
      have hp1 := (tE_b (t := t) hp0).2.1
      have hn1 : I1 43 28 = nI n := (g1.2 28 (by decide) (by decide) (by decide) (by decide)).trans hn0
      have hf1 : I1 43 33 = 0 := (g1.2 33 (by decide) (by decide) (by decide) (by decide)).trans hf0
      refine c_Mtak X T (by exact hn1) hp1 (by exact K1) (by exact hf1) (lo := 0) (hi := 5001) (by decide) (by decide) rfl rfl (fun I2 lo2 hi2 e2 g2 K2 => ?_) (fun kf hkf e2 => ?_)
      · have hp2 := (tE_b (t := t) hp1).2.1
        have hn2 : I2 43 28 = nI n := (g2.2 28 (by decide) (by decide) (by decide) (by decide)).trans hn1
        have hf2 : I2 43 33 = 0 := (g2.2 33 (by decide) (by decide) (by decide) (by decide)).trans hf1
        simp only [bnd_ok e2] at h
        refine c_Mpass5 X T (by exact hn2) hp2 (by exact K2) (by exact hf2) (fun zw I3 g3 K3 => ?_) (fun zw => ?_)
        · have hp3 := (tE_b (t := t) hp2).2.1
          have hn3 : I3 43 28 = nI n := (g3.2 28 (by decide) (by decide) (by decide) (by decide)).trans hn2
          have hf3 : I3 43 33 = 0 := (g3.2 33 (by decide) (by decide) (by decide) (by decide)).trans hf2
          simp only [if_pos zw] at h
          refine And.intro (fun q => absurd q (by decide)) (fun _ => ?_)
          refine And.intro (fun q3 => ?_) (fun q3 => ?_)
          · have h37 : I3 43 7 = I 43 7 := (g3.2 7 (by decide) (by decide) (by decide) (by decide)).trans ((g2.2 7 (by decide) (by decide) (by decide) (by decide)).trans (g1.2 7 (by decide) (by decide) (by decide) (by decide)))
            rw [h37, M.hnt, jt] at q3
            exact absurd (by rw [hz7]; rfl) q3 --end
          · have h37 : I3 43 7 = I 43 7 := (g3.2 7 (by decide) (by decide) (by decide) (by decide)).trans ((g2.2 7 (by decide) (by decide) (by decide) (by decide)).trans (g1.2 7 (by decide) (by decide) (by decide) (by decide)))
            rw [h37, M.hnt, jt] at q3
            have hz8 := hz7
            refine c_Mtak X T (by exact hn3) hp3 (by exact K3) (by exact hf3) (lo := ltp s.rw s.m + 1) (hi := 100000) (by have := V.lt; omega) (by decide) (by rw [V.l0 hz7]; rfl) rfl (fun I4 lo4 hi4 e4 g4 K4 => ?_) (fun kf hkf e4 => ?_)
            · have hp4 := (tE_b (t := t) hp3).2.1
              have hn4 : I4 43 28 = nI n := (g4.2 28 (by decide) (by decide) (by decide) (by decide)).trans hn3
              have hf4 : I4 43 33 = 0 := (g4.2 33 (by decide) (by decide) (by decide) (by decide)).trans hf3
              simp only [bnd_ok e4] at h
              refine c_Mgood X (fun _ => ?_) (fun z => absurd (by exact hf4) z)
              refine And.intro (fun q => absurd q (by decide)) (fun _ => ?_)
              refine c_Madds X M.hw S.wd (by omega) ?_
              exact h _ _ (MP.mk hf4 (((((((gM.refl I).trans g1).trans g2).trans g3).trans g4).2 34 (by decide) (by decide) (by decide) (by decide)).trans S.pl) K4 hn4 ((M.gm (fun j hj => (((((gM.refl I).trans g1).trans g2).trans g3).trans g4).2 j (by omega) (by omega) (by omega) (by omega))).fw (fun q hq => wad_q hq) (fun j hj => wad_o (by omega) (by omega))) (S.wd.ad (r := (0, tN t n (tE t n s.p), ((tN t n (tE t n (tE t n (tE t n s.p))) : Nat) : Int), 0)) rfl rfl (nI_z _) rfl) (((((((gM.refl I).trans g1).trans g2).trans g3).trans g4).2 9 (by decide) (by decide) (by decide) (by decide)).trans S.hd) (((((((gM.refl I).trans g1).trans g2).trans g3).trans g4).2 35 (by decide) (by decide) (by decide) (by decide)).trans S.te) (((((((gM.refl I).trans g1).trans g2).trans g3).trans g4).2 36 (by decide) (by decide) (by decide) (by decide)).trans S.tr) hp4) ((((((gM.refl I).trans g1).trans g2).trans g3).trans g4).y.trans (fY.a M.w5 (fun q hq => wad_q hq)))
            · have hfx := nI_12 hkf
              simp only [bnd_er e4] at h
              refine c_Mgood X (fun z => absurd z hfx) (fun _ => ?_)
              refine And.intro (fun _ => ?_) (fun q => absurd (by decide) q)
              exact h _ _ (by first | exact hfx | exact nI_3) rfl K3.s (((((gM.refl I).trans g1).trans g2).trans g3).2 21 (by decide) (by decide) (by decide) (by decide)) (((((gM.refl I).trans g1).trans g2).trans g3).2 23 (by decide) (by decide) (by decide) (by decide)) ((((((gM.refl I).trans g1).trans g2).trans g3).y.trans (fY.i (by decide))).trans (fY.i (by decide)))
        · have zw2 : ¬ tW t n (tE t n (tE t n s.p)) 5 = true := by rw [zw]; decide
          simp only [if_neg zw2] at h
          refine And.intro (fun _ => ?_) (fun q => absurd (by decide) q)
          refine c_Mgood X (fun _ => ?_) (fun z => absurd (by exact hf2) z)
          refine And.intro (fun q => absurd q (by decide)) (fun _ => ?_)
          refine c_Madds X M.hw S.wd (by omega) ?_
          exact h _ _ (MP.mk hf2 (((((gM.refl I).trans g1).trans g2).2 34 (by decide) (by decide) (by decide) (by decide)).trans S.pl) K2 hn2 ((M.gm (fun j hj => (((gM.refl I).trans g1).trans g2).2 j (by omega) (by omega) (by omega) (by omega))).fw (fun q hq => wad_q hq) (fun j hj => wad_o (by omega) (by omega))) (S.wd.ad (r := (0, tN t n (tE t n s.p), 0, 0)) rfl rfl rfl rfl) (((((gM.refl I).trans g1).trans g2).2 9 (by decide) (by decide) (by decide) (by decide)).trans S.hd) (((((gM.refl I).trans g1).trans g2).2 35 (by decide) (by decide) (by decide) (by decide)).trans S.te) (((((gM.refl I).trans g1).trans g2).2 36 (by decide) (by decide) (by decide) (by decide)).trans S.tr) hp2) ((((gM.refl I).trans g1).trans g2).y.trans (fY.a M.w5 (fun q hq => wad_q hq)))
      · have hfx := nI_12 hkf
        simp only [bnd_er e2] at h
        refine c_Mpassf5 X hfx ?_
        refine And.intro (fun _ => ?_) (fun q => absurd (by decide) q)
        refine c_Mgood X (fun z => absurd z hfx) (fun _ => ?_)
        refine And.intro (fun _ => ?_) (fun q => absurd (by decide) q)
        exact h _ _ (by first | exact hfx | exact nI_3) rfl K1.s (((gM.refl I).trans g1).2 21 (by decide) (by decide) (by decide) (by decide)) (((gM.refl I).trans g1).2 23 (by decide) (by decide) (by decide) (by decide)) ((((gM.refl I).trans g1).y.trans (fY.i (by decide))).trans (fY.i (by decide)))
    · rw [M.hnt, jt] at q2
      have hp7 : 0 < ctk s.rw 0 s.m := Nat.lt_of_not_le (fun z => q2 (nI_le (b := 0) z (by omega)))
      have eix : I 43 7 - 1 = nI (ctk s.rw 0 s.m - 1) := by rw [M.hnt, jt]; exact pk_sub (b := 1) (by omega)
      have cix : (I 43 7 - 1).toNatClampNeg = ctk s.rw 0 s.m - 1 := by rw [eix]; exact cl (by omega)
      have ett : A 49 (ctk s.rw 0 s.m - 1) = nI (ltp s.rw s.m) := by
        rw [M.htt _ (by omega), ← tt_ltp (P := s.P) (N := s.N) (K := s.K) s.m (fun i hi => (V.v i hi).k6) (by show 0 < (ack s).nt; omega)]
        show nI ((ack s).tt (ctk s.rw 0 s.m - 1)) = nI ((ack s).tt ((ack s).nt - 1))
        rw [jt]
      have l9 := V.lt
      
      refine Exists.intro _ (And.intro rfl (And.intro (by first | (rw [eix]; exact vin (by omega) (by omega)) | (rw [h37, eix]; exact vin (by omega) (by omega))) ?_))
      refine And.intro (fun q4 => ?_) (fun q4 => ?_)
      · rw [cix, ett] at q4
        have hn0t : ¬ ltp s.rw s.m = 0 := fun z => q4 (by rw [z]; rfl)
        rw [if_neg (by omega)] at h
        refine c_Mgood X (fun _ => ?_) (fun z => absurd (by exact hf0) z)
        refine And.intro (fun q => absurd q (by decide)) (fun _ => ?_)
        refine c_Madv X T (by exact hn0) (tE_b (t := t) hp0).2.1 (by exact K0.e) (fun I1 ga1 gb1 K1 => ?_)
        have g1 : gM I I1 := ⟨ga1, gb1⟩
        have hp1 := (tE_b (t := t) hp0).2.1
        have hn1 : I1 43 28 = nI n := (g1.2 28 (by decide) (by decide) (by decide) (by decide)).trans hn0
        have hf1 : I1 43 33 = 0 := (g1.2 33 (by decide) (by decide) (by decide) (by decide)).trans hf0
        refine c_Mtak X T (by exact hn1) hp1 (by exact K1) (by exact hf1) (lo := 0) (hi := 5001) (by decide) (by decide) rfl rfl (fun I2 lo2 hi2 e2 g2 K2 => ?_) (fun kf hkf e2 => ?_)
        · have hp2 := (tE_b (t := t) hp1).2.1
          have hn2 : I2 43 28 = nI n := (g2.2 28 (by decide) (by decide) (by decide) (by decide)).trans hn1
          have hf2 : I2 43 33 = 0 := (g2.2 33 (by decide) (by decide) (by decide) (by decide)).trans hf1
          simp only [bnd_ok e2] at h
          refine c_Mpass5 X T (by exact hn2) hp2 (by exact K2) (by exact hf2) (fun zw I3 g3 K3 => ?_) (fun zw => ?_)
          · have hp3 := (tE_b (t := t) hp2).2.1
            have hn3 : I3 43 28 = nI n := (g3.2 28 (by decide) (by decide) (by decide) (by decide)).trans hn2
            have hf3 : I3 43 33 = 0 := (g3.2 33 (by decide) (by decide) (by decide) (by decide)).trans hf2
            simp only [if_pos zw] at h
            refine And.intro (fun q => absurd q (by decide)) (fun _ => ?_)
            refine And.intro (fun q5 => ?_) (fun q5 => ?_)
            · have h37 : I3 43 7 = I 43 7 := (g3.2 7 (by decide) (by decide) (by decide) (by decide)).trans ((g2.2 7 (by decide) (by decide) (by decide) (by decide)).trans (g1.2 7 (by decide) (by decide) (by decide) (by decide)))
              rw [h37, M.hnt, jt] at q5
              have c3ix : (I3 43 7 - 1).toNatClampNeg = ctk s.rw 0 s.m - 1 := by rw [h37]; exact cix
              refine Exists.intro _ (And.intro rfl (And.intro (by first | (rw [eix]; exact vin (by omega) (by omega)) | (rw [h37, eix]; exact vin (by omega) (by omega))) ?_))
              refine c_Mtak X T (by exact hn3) hp3 (by exact K3) (by exact hf3) (lo := ltp s.rw s.m + 1) (hi := 100000) (by have := V.lt; omega) (by decide) (by rw [c3ix, ett]; exact nI_1 _) rfl (fun I4 lo4 hi4 e4 g4 K4 => ?_) (fun kf hkf e4 => ?_)
              · have hp4 := (tE_b (t := t) hp3).2.1
                have hn4 : I4 43 28 = nI n := (g4.2 28 (by decide) (by decide) (by decide) (by decide)).trans hn3
                have hf4 : I4 43 33 = 0 := (g4.2 33 (by decide) (by decide) (by decide) (by decide)).trans hf3
                simp only [bnd_ok e4] at h
                refine c_Mgood X (fun _ => ?_) (fun z => absurd (by exact hf4) z)
                refine And.intro (fun q => absurd q (by decide)) (fun _ => ?_)
                refine c_Madds X M.hw S.wd (by omega) ?_
                exact h _ _ (MP.mk hf4 (((((((gM.refl I).trans g1).trans g2).trans g3).trans g4).2 34 (by decide) (by decide) (by decide) (by decide)).trans S.pl) K4 hn4 ((M.gm (fun j hj => (((((gM.refl I).trans g1).trans g2).trans g3).trans g4).2 j (by omega) (by omega) (by omega) (by omega))).fw (fun q hq => wad_q hq) (fun j hj => wad_o (by omega) (by omega))) (S.wd.ad (r := (0, tN t n (tE t n s.p), ((tN t n (tE t n (tE t n (tE t n s.p))) : Nat) : Int), 0)) rfl rfl (nI_z _) rfl) (((((((gM.refl I).trans g1).trans g2).trans g3).trans g4).2 9 (by decide) (by decide) (by decide) (by decide)).trans S.hd) (((((((gM.refl I).trans g1).trans g2).trans g3).trans g4).2 35 (by decide) (by decide) (by decide) (by decide)).trans S.te) (((((((gM.refl I).trans g1).trans g2).trans g3).trans g4).2 36 (by decide) (by decide) (by decide) (by decide)).trans S.tr) hp4) ((((((gM.refl I).trans g1).trans g2).trans g3).trans g4).y.trans (fY.a M.w5 (fun q hq => wad_q hq)))
              · have hfx := nI_12 hkf
                simp only [bnd_er e4] at h
                refine c_Mgood X (fun z => absurd z hfx) (fun _ => ?_)
                refine And.intro (fun _ => ?_) (fun q => absurd (by decide) q)
                exact h _ _ (by first | exact hfx | exact nI_3) rfl K3.s (((((gM.refl I).trans g1).trans g2).trans g3).2 21 (by decide) (by decide) (by decide) (by decide)) (((((gM.refl I).trans g1).trans g2).trans g3).2 23 (by decide) (by decide) (by decide) (by decide)) ((((((gM.refl I).trans g1).trans g2).trans g3).y.trans (fY.i (by decide))).trans (fY.i (by decide)))
            · have h37 : I3 43 7 = I 43 7 := (g3.2 7 (by decide) (by decide) (by decide) (by decide)).trans ((g2.2 7 (by decide) (by decide) (by decide) (by decide)).trans (g1.2 7 (by decide) (by decide) (by decide) (by decide)))
              rw [h37, M.hnt, jt] at q5
              have hz7 : ctk s.rw 0 s.m = 0 := (nI_eq (b := 0) (by omega) (by omega)).mp q5
              refine c_Mtak X T (by exact hn3) hp3 (by exact K3) (by exact hf3) (lo := ltp s.rw s.m + 1) (hi := 100000) (by have := V.lt; omega) (by decide) (by rw [V.l0 hz7]; rfl) rfl (fun I4 lo4 hi4 e4 g4 K4 => ?_) (fun kf hkf e4 => ?_)
              · have hp4 := (tE_b (t := t) hp3).2.1
                have hn4 : I4 43 28 = nI n := (g4.2 28 (by decide) (by decide) (by decide) (by decide)).trans hn3
                have hf4 : I4 43 33 = 0 := (g4.2 33 (by decide) (by decide) (by decide) (by decide)).trans hf3
                simp only [bnd_ok e4] at h
                refine c_Mgood X (fun _ => ?_) (fun z => absurd (by exact hf4) z)
                refine And.intro (fun q => absurd q (by decide)) (fun _ => ?_)
                refine c_Madds X M.hw S.wd (by omega) ?_
                exact h _ _ (MP.mk hf4 (((((((gM.refl I).trans g1).trans g2).trans g3).trans g4).2 34 (by decide) (by decide) (by decide) (by decide)).trans S.pl) K4 hn4 ((M.gm (fun j hj => (((((gM.refl I).trans g1).trans g2).trans g3).trans g4).2 j (by omega) (by omega) (by omega) (by omega))).fw (fun q hq => wad_q hq) (fun j hj => wad_o (by omega) (by omega))) (S.wd.ad (r := (0, tN t n (tE t n s.p), ((tN t n (tE t n (tE t n (tE t n s.p))) : Nat) : Int), 0)) rfl rfl (nI_z _) rfl) (((((((gM.refl I).trans g1).trans g2).trans g3).trans g4).2 9 (by decide) (by decide) (by decide) (by decide)).trans S.hd) (((((((gM.refl I).trans g1).trans g2).trans g3).trans g4).2 35 (by decide) (by decide) (by decide) (by decide)).trans S.te) (((((((gM.refl I).trans g1).trans g2).trans g3).trans g4).2 36 (by decide) (by decide) (by decide) (by decide)).trans S.tr) hp4) ((((((gM.refl I).trans g1).trans g2).trans g3).trans g4).y.trans (fY.a M.w5 (fun q hq => wad_q hq)))
              · have hfx := nI_12 hkf
                simp only [bnd_er e4] at h
                refine c_Mgood X (fun z => absurd z hfx) (fun _ => ?_)
                refine And.intro (fun _ => ?_) (fun q => absurd (by decide) q)
                exact h _ _ (by first | exact hfx | exact nI_3) rfl K3.s (((((gM.refl I).trans g1).trans g2).trans g3).2 21 (by decide) (by decide) (by decide) (by decide)) (((((gM.refl I).trans g1).trans g2).trans g3).2 23 (by decide) (by decide) (by decide) (by decide)) ((((((gM.refl I).trans g1).trans g2).trans g3).y.trans (fY.i (by decide))).trans (fY.i (by decide)))
          · have zw2 : ¬ tW t n (tE t n (tE t n s.p)) 5 = true := by rw [zw]; decide
            simp only [if_neg zw2] at h
            refine And.intro (fun _ => ?_) (fun q => absurd (by decide) q)
            refine c_Mgood X (fun _ => ?_) (fun z => absurd (by exact hf2) z)
            refine And.intro (fun q => absurd q (by decide)) (fun _ => ?_)
            refine c_Madds X M.hw S.wd (by omega) ?_
            exact h _ _ (MP.mk hf2 (((((gM.refl I).trans g1).trans g2).2 34 (by decide) (by decide) (by decide) (by decide)).trans S.pl) K2 hn2 ((M.gm (fun j hj => (((gM.refl I).trans g1).trans g2).2 j (by omega) (by omega) (by omega) (by omega))).fw (fun q hq => wad_q hq) (fun j hj => wad_o (by omega) (by omega))) (S.wd.ad (r := (0, tN t n (tE t n s.p), 0, 0)) rfl rfl rfl rfl) (((((gM.refl I).trans g1).trans g2).2 9 (by decide) (by decide) (by decide) (by decide)).trans S.hd) (((((gM.refl I).trans g1).trans g2).2 35 (by decide) (by decide) (by decide) (by decide)).trans S.te) (((((gM.refl I).trans g1).trans g2).2 36 (by decide) (by decide) (by decide) (by decide)).trans S.tr) hp2) ((((gM.refl I).trans g1).trans g2).y.trans (fY.a M.w5 (fun q hq => wad_q hq)))
        · have hfx := nI_12 hkf
          simp only [bnd_er e2] at h
          refine c_Mpassf5 X hfx ?_
          refine And.intro (fun _ => ?_) (fun q => absurd (by decide) q)
          refine c_Mgood X (fun z => absurd z hfx) (fun _ => ?_)
          refine And.intro (fun _ => ?_) (fun q => absurd (by decide) q)
          exact h _ _ (by first | exact hfx | exact nI_3) rfl K1.s (((gM.refl I).trans g1).2 21 (by decide) (by decide) (by decide) (by decide)) (((gM.refl I).trans g1).2 23 (by decide) (by decide) (by decide) (by decide)) ((((gM.refl I).trans g1).y.trans (fY.i (by decide))).trans (fY.i (by decide)))
      · rw [cix, ett] at q4
        have hd0 : ltp s.rw s.m = 0 := (nI_eq (b := 0) (by omega) (by omega)).mp q4
        rw [if_pos (Or.inr ⟨hp7, hd0⟩)] at h
        refine c_Merrs X (by exact hf0) ?_
        have hfx : ¬ nI 3 = 0 := by decide
        refine c_Mgood X (fun z => absurd z hfx) (fun _ => ?_)
        refine And.intro (fun _ => ?_) (fun q => absurd (by decide) q)
        refine c_Mtakf X hfx ?_
        refine c_Mpassf5 X hfx ?_
        refine And.intro (fun _ => ?_) (fun q => absurd (by decide) q)
        refine c_Mgood X (fun z => absurd z hfx) (fun _ => ?_)
        refine And.intro (fun _ => ?_) (fun q => absurd (by decide) q)
        exact h _ _ (by first | exact hfx | exact nI_3) rfl K0.s ((gM.refl I).2 21 (by decide) (by decide) (by decide) (by decide)) ((gM.refl I).2 23 (by decide) (by decide) (by decide) (by decide)) (((gM.refl I).y.trans (fY.i (by decide))).trans (fY.i (by decide)))
set_option maxRecDepth 20000 in
theorem c_MrdFrom {J : mJ} (X : mRules J) {I A : mI} {B : mB} {w f : Nat} {R : mR} {t : Nat → Nat} {n : Nat} (T : TpR 60 A t n) {s : St} (S : MS w I A B t n s) (V : PV n s) (hL : 0 < s.L) (hw : tW t n s.p 9 = true) (h : qP w f I A B t n s R (pC t n s)) : J n_M_readFrom 0 [.ref 43, .float 0, .float 0, .float 0] [] I A B (pk w f) R := by
  have hp0 := V.p
  have K0 := S.tk
  have hn0 := S.sz
  have hf0 := S.fl
  have Jv := ack_i V hL
  have G := Jv.G
  have M := S.mr
  have hsl := V.l hL
  have hsu := V.su
  have hv0 := V.c0
  have hv1 := V.c1
  have hv2 := V.c2
  have hv3 := V.c3
  have hv5 := V.c5
  have hm61 := pv_61 V
  have hPN : s.P * s.N ≤ 320 := Nat.mul_le_mul hsl.2.2.1 hsl.2.2.2.2.1
  have jP := Jv.P
  have jN := Jv.N
  have jt := Jv.nt
  have jc := Jv.nc
  have jk := Jv.c
  have hww := M.hw
  unfold pC at h
  refine X 200 _ _ _ _ _ _ _ _ _ ?_
  refine And.intro (fun q1 => ?_) (fun q1 => ?_)
  · rw [M.hnc, jc] at q1
    have hd : ¬ ctk s.rw 2 s.m = 12 := fun z => q1 (by rw [z]; rfl)
    rw [if_neg hd] at h
    refine c_Mgood X (fun _ => ?_) (fun z => absurd (by exact hf0) z)
    refine And.intro (fun q => absurd q (by decide)) (fun _ => ?_)
    refine c_Madv X T (by exact hn0) (tE_b (t := t) hp0).2.1 (by exact K0.e) (fun I1 ga1 gb1 K1 => ?_)
    have g1 : gM I I1 := ⟨ga1, gb1⟩
    have hp1 := (tE_b (t := t) hp0).2.1
    have hn1 : I1 43 28 = nI n := (g1.2 28 (by decide) (by decide) (by decide) (by decide)).trans hn0
    have hf1 : I1 43 33 = 0 := (g1.2 33 (by decide) (by decide) (by decide) (by decide)).trans hf0
    refine Exists.intro _ (And.intro hww (And.intro (vlit rfl) ?_))
    refine Exists.intro _ (And.intro hww (And.intro (vlit rfl) ?_))
    refine c_Mtak X T (by exact hn1) hp1 (by exact K1) (by exact hf1) (lo := 0) (hi := s.P * s.N) (by decide) (by omega) rfl (by show A w 0 * A w 1 - 1 = _; rw [M.hP, M.hN, pk_mul, jP, jN]; exact zN_hi) (fun I2 lo2 hi2 e2 g2 K2 => ?_) (fun kf hkf e2 => ?_)
    · have hp2 := (tE_b (t := t) hp1).2.1
      have hn2 : I2 43 28 = nI n := (g2.2 28 (by decide) (by decide) (by decide) (by decide)).trans hn1
      have hf2 : I2 43 33 = 0 := (g2.2 33 (by decide) (by decide) (by decide) (by decide)).trans hf1
      simp only [bnd_ok e2] at h
      refine c_Mpass4 X T (by exact hn2) hp2 (by exact K2) (by exact hf2) (fun zw4 I3 g3 K3 => ?_) (fun zv4 => ?_)
      · have hp3 := (tE_b (t := t) hp2).2.1
        have hn3 : I3 43 28 = nI n := (g3.2 28 (by decide) (by decide) (by decide) (by decide)).trans hn2
        have hf3 : I3 43 33 = 0 := (g3.2 33 (by decide) (by decide) (by decide) (by decide)).trans hf2
        refine And.intro (fun q => absurd q (by decide)) (fun _ => ?_)
        refine c_Mtak X T (by exact hn3) hp3 (by exact K3) (by exact hf3) (lo := 0) (hi := ctk s.rw 0 s.m) (by decide) (by omega) rfl (by rw [((((((gM.refl I).trans g1).trans g2).trans g3)).2 7 (by decide) (by decide) (by decide) (by decide)), M.hnt, jt]; exact zN_hi) (fun I4 lo4 hi4 e4 g4 K4 => ?_) (fun kf hkf e4 => ?_)
        · have hp4 := (tE_b (t := t) hp3).2.1
          have hn4 : I4 43 28 = nI n := (g4.2 28 (by decide) (by decide) (by decide) (by decide)).trans hn3
          have hf4 : I4 43 33 = 0 := (g4.2 33 (by decide) (by decide) (by decide) (by decide)).trans hf3
          have ew : whc t n s (tE t n (tE t n s.p)) = .ok (tN t n (tE t n (tE t n (tE t n s.p))), (tE t n (tE t n (tE t n (tE t n s.p))))) := by unfold whc; rw [if_pos zw4]; exact e4
          simp only [bnd_ok ew] at h
          simp only [if_neg (show ¬ tN t n (tE t n (tE t n (tE t n s.p))) = 6 by omega)] at h
          refine And.intro (fun q2 => ?_) (fun q2 => ?_)
          · refine c_Mtak X T (by exact hn4) hp4 (by exact K4) (by exact hf4) (lo := 0) (hi := 5001) (by decide) (by decide) rfl rfl (fun I5 lo5 hi5 e5 g5 K5 => ?_) (fun kf hkf e5 => ?_)
            · have hp5 := (tE_b (t := t) hp4).2.1
              have hn5 : I5 43 28 = nI n := (g5.2 28 (by decide) (by decide) (by decide) (by decide)).trans hn4
              have hf5 : I5 43 33 = 0 := (g5.2 33 (by decide) (by decide) (by decide) (by decide)).trans hf4
              simp only [bnd_ok e5] at h
              refine c_Mgood X (fun _ => ?_) (fun z => absurd (by exact hf5) z)
              refine And.intro (fun q => absurd q (by decide)) (fun _ => ?_)
              refine c_Madds X M.hw S.wd (by omega) ?_
              exact h _ _ (MP.mk hf5 ((((((((gM.refl I).trans g1).trans g2).trans g3).trans g4).trans g5).2 34 (by decide) (by decide) (by decide) (by decide)).trans S.pl) K5 hn5 ((M.gm (fun j hj => ((((((gM.refl I).trans g1).trans g2).trans g3).trans g4).trans g5).2 j (by omega) (by omega) (by omega) (by omega))).fw (fun q hq => wad_q hq) (fun j hj => wad_o (by omega) (by omega))) (S.wd.ad (r := (2, tN t n (tE t n s.p), ((tN t n (tE t n (tE t n (tE t n s.p))) : Nat) : Int), tN t n (tE t n (tE t n (tE t n (tE t n s.p)))))) rfl rfl (nI_z _) rfl) ((((((((gM.refl I).trans g1).trans g2).trans g3).trans g4).trans g5).2 9 (by decide) (by decide) (by decide) (by decide)).trans S.hd) ((((((((gM.refl I).trans g1).trans g2).trans g3).trans g4).trans g5).2 35 (by decide) (by decide) (by decide) (by decide)).trans S.te) ((((((((gM.refl I).trans g1).trans g2).trans g3).trans g4).trans g5).2 36 (by decide) (by decide) (by decide) (by decide)).trans S.tr) hp5) (((((((gM.refl I).trans g1).trans g2).trans g3).trans g4).trans g5).y.trans (fY.a M.w5 (fun q hq => wad_q hq)))
            · have hfx := nI_12 hkf
              simp only [bnd_er e5] at h
              refine c_Mgood X (fun z => absurd z hfx) (fun _ => ?_)
              refine And.intro (fun _ => ?_) (fun q => absurd (by decide) q)
              exact h _ _ (by first | exact hfx | exact nI_3) rfl K4.s ((((((gM.refl I).trans g1).trans g2).trans g3).trans g4).2 21 (by decide) (by decide) (by decide) (by decide)) ((((((gM.refl I).trans g1).trans g2).trans g3).trans g4).2 23 (by decide) (by decide) (by decide) (by decide)) (((((((gM.refl I).trans g1).trans g2).trans g3).trans g4).y.trans (fY.i (by decide))).trans (fY.i (by decide)))
          · exact absurd ((nI_eq (b := 6) (by omega) (by omega)).mp q2) (by omega) --end
        · have hfx := nI_12 hkf
          have ew : whc t n s (tE t n (tE t n s.p)) = .error (kf, tS t n (tE t n (tE t n (tE t n s.p)))) := by unfold whc; rw [if_pos zw4]; exact e4
          simp only [bnd_er ew] at h
          refine And.intro (fun _ => ?_) (fun q => absurd q (by decide))
          refine c_Mtakf X hfx ?_
          refine c_Mgood X (fun z => absurd z hfx) (fun _ => ?_)
          refine And.intro (fun _ => ?_) (fun q => absurd (by decide) q)
          exact h _ _ (by first | exact hfx | exact nI_3) rfl K3.s (((((gM.refl I).trans g1).trans g2).trans g3).2 21 (by decide) (by decide) (by decide) (by decide)) (((((gM.refl I).trans g1).trans g2).trans g3).2 23 (by decide) (by decide) (by decide) (by decide)) ((((((gM.refl I).trans g1).trans g2).trans g3).y.trans (fY.i (by decide))).trans (fY.i (by decide)))
      · have zn4 : ¬ tW t n (tE t n (tE t n s.p)) 4 = true := by rw [zv4]; decide
        refine And.intro (fun _ => ?_) (fun q => absurd (by decide) q)
        refine c_Mpass6 X T (by exact hn2) hp2 (by exact K2) (by exact hf2) (fun zw6 I3 g3 K3 => ?_) (fun zv6 => ?_)
        · have hp3 := (tE_b (t := t) hp2).2.1
          have hn3 : I3 43 28 = nI n := (g3.2 28 (by decide) (by decide) (by decide) (by decide)).trans hn2
          have hf3 : I3 43 33 = 0 := (g3.2 33 (by decide) (by decide) (by decide) (by decide)).trans hf2
          have ew : whc t n s (tE t n (tE t n s.p)) = .ok (4, (tE t n (tE t n (tE t n s.p)))) := by unfold whc; rw [if_neg zn4, if_pos zw6]
          simp only [bnd_ok ew, reduceIte, Nat.reduceEqDiff] at h
          refine And.intro (fun q => absurd q (by decide)) (fun _ => ?_)
          refine And.intro (fun _ => ?_) (fun q => absurd q (by decide))
          refine c_Mtak X T (by exact hn3) hp3 (by exact K3) (by exact hf3) (lo := 0) (hi := 5001) (by decide) (by decide) rfl rfl (fun I4 lo4 hi4 e4 g4 K4 => ?_) (fun kf hkf e4 => ?_)
          · have hp4 := (tE_b (t := t) hp3).2.1
            have hn4 : I4 43 28 = nI n := (g4.2 28 (by decide) (by decide) (by decide) (by decide)).trans hn3
            have hf4 : I4 43 33 = 0 := (g4.2 33 (by decide) (by decide) (by decide) (by decide)).trans hf3
            simp only [bnd_ok e4] at h
            refine c_Mgood X (fun _ => ?_) (fun z => absurd (by exact hf4) z)
            refine And.intro (fun q => absurd q (by decide)) (fun _ => ?_)
            refine c_Madds X M.hw S.wd (by omega) ?_
            exact h _ _ (MP.mk hf4 (((((((gM.refl I).trans g1).trans g2).trans g3).trans g4).2 34 (by decide) (by decide) (by decide) (by decide)).trans S.pl) K4 hn4 ((M.gm (fun j hj => (((((gM.refl I).trans g1).trans g2).trans g3).trans g4).2 j (by omega) (by omega) (by omega) (by omega))).fw (fun q hq => wad_q hq) (fun j hj => wad_o (by omega) (by omega))) (S.wd.ad (r := (2, tN t n (tE t n s.p), ((4 : Nat) : Int), tN t n (tE t n (tE t n (tE t n s.p))))) rfl rfl rfl rfl) (((((((gM.refl I).trans g1).trans g2).trans g3).trans g4).2 9 (by decide) (by decide) (by decide) (by decide)).trans S.hd) (((((((gM.refl I).trans g1).trans g2).trans g3).trans g4).2 35 (by decide) (by decide) (by decide) (by decide)).trans S.te) (((((((gM.refl I).trans g1).trans g2).trans g3).trans g4).2 36 (by decide) (by decide) (by decide) (by decide)).trans S.tr) hp4) ((((((gM.refl I).trans g1).trans g2).trans g3).trans g4).y.trans (fY.a M.w5 (fun q hq => wad_q hq)))
          · have hfx := nI_12 hkf
            simp only [bnd_er e4] at h
            refine c_Mgood X (fun z => absurd z hfx) (fun _ => ?_)
            refine And.intro (fun _ => ?_) (fun q => absurd (by decide) q)
            exact h _ _ (by first | exact hfx | exact nI_3) rfl K3.s (((((gM.refl I).trans g1).trans g2).trans g3).2 21 (by decide) (by decide) (by decide) (by decide)) (((((gM.refl I).trans g1).trans g2).trans g3).2 23 (by decide) (by decide) (by decide) (by decide)) ((((((gM.refl I).trans g1).trans g2).trans g3).y.trans (fY.i (by decide))).trans (fY.i (by decide)))
        · have zn6 : ¬ tW t n (tE t n (tE t n s.p)) 6 = true := by rw [zv6]; decide
          refine And.intro (fun _ => ?_) (fun q => absurd (by decide) q)
          refine c_Mpass7 X T (by exact hn2) hp2 (by exact K2) (by exact hf2) (fun zw7 I3 g3 K3 => ?_) (fun zv7 => ?_)
          · have hp3 := (tE_b (t := t) hp2).2.1
            have hn3 : I3 43 28 = nI n := (g3.2 28 (by decide) (by decide) (by decide) (by decide)).trans hn2
            have hf3 : I3 43 33 = 0 := (g3.2 33 (by decide) (by decide) (by decide) (by decide)).trans hf2
            have ew : whc t n s (tE t n (tE t n s.p)) = .ok (5, (tE t n (tE t n (tE t n s.p)))) := by unfold whc; rw [if_neg zn4, if_neg zn6, if_pos zw7]
            simp only [bnd_ok ew, reduceIte, Nat.reduceEqDiff] at h
            refine And.intro (fun q => absurd q (by decide)) (fun _ => ?_)
            refine And.intro (fun _ => ?_) (fun q => absurd q (by decide))
            refine c_Mtak X T (by exact hn3) hp3 (by exact K3) (by exact hf3) (lo := 0) (hi := 5001) (by decide) (by decide) rfl rfl (fun I4 lo4 hi4 e4 g4 K4 => ?_) (fun kf hkf e4 => ?_)
            · have hp4 := (tE_b (t := t) hp3).2.1
              have hn4 : I4 43 28 = nI n := (g4.2 28 (by decide) (by decide) (by decide) (by decide)).trans hn3
              have hf4 : I4 43 33 = 0 := (g4.2 33 (by decide) (by decide) (by decide) (by decide)).trans hf3
              simp only [bnd_ok e4] at h
              refine c_Mgood X (fun _ => ?_) (fun z => absurd (by exact hf4) z)
              refine And.intro (fun q => absurd q (by decide)) (fun _ => ?_)
              refine c_Madds X M.hw S.wd (by omega) ?_
              exact h _ _ (MP.mk hf4 (((((((gM.refl I).trans g1).trans g2).trans g3).trans g4).2 34 (by decide) (by decide) (by decide) (by decide)).trans S.pl) K4 hn4 ((M.gm (fun j hj => (((((gM.refl I).trans g1).trans g2).trans g3).trans g4).2 j (by omega) (by omega) (by omega) (by omega))).fw (fun q hq => wad_q hq) (fun j hj => wad_o (by omega) (by omega))) (S.wd.ad (r := (2, tN t n (tE t n s.p), ((5 : Nat) : Int), tN t n (tE t n (tE t n (tE t n s.p))))) rfl rfl rfl rfl) (((((((gM.refl I).trans g1).trans g2).trans g3).trans g4).2 9 (by decide) (by decide) (by decide) (by decide)).trans S.hd) (((((((gM.refl I).trans g1).trans g2).trans g3).trans g4).2 35 (by decide) (by decide) (by decide) (by decide)).trans S.te) (((((((gM.refl I).trans g1).trans g2).trans g3).trans g4).2 36 (by decide) (by decide) (by decide) (by decide)).trans S.tr) hp4) ((((((gM.refl I).trans g1).trans g2).trans g3).trans g4).y.trans (fY.a M.w5 (fun q hq => wad_q hq)))
            · have hfx := nI_12 hkf
              simp only [bnd_er e4] at h
              refine c_Mgood X (fun z => absurd z hfx) (fun _ => ?_)
              refine And.intro (fun _ => ?_) (fun q => absurd (by decide) q)
              exact h _ _ (by first | exact hfx | exact nI_3) rfl K3.s (((((gM.refl I).trans g1).trans g2).trans g3).2 21 (by decide) (by decide) (by decide) (by decide)) (((((gM.refl I).trans g1).trans g2).trans g3).2 23 (by decide) (by decide) (by decide) (by decide)) ((((((gM.refl I).trans g1).trans g2).trans g3).y.trans (fY.i (by decide))).trans (fY.i (by decide)))
          · have zn7 : ¬ tW t n (tE t n (tE t n s.p)) 7 = true := by rw [zv7]; decide
            refine And.intro (fun _ => ?_) (fun q => absurd (by decide) q)
            refine c_Mpass8 X T (by exact hn2) hp2 (by exact K2) (by exact hf2) (fun zw8 I3 g3 K3 => ?_) (fun zv8 => ?_)
            · have hp3 := (tE_b (t := t) hp2).2.1
              have hn3 : I3 43 28 = nI n := (g3.2 28 (by decide) (by decide) (by decide) (by decide)).trans hn2
              have hf3 : I3 43 33 = 0 := (g3.2 33 (by decide) (by decide) (by decide) (by decide)).trans hf2
              have ew : whc t n s (tE t n (tE t n s.p)) = .ok (6, (tE t n (tE t n (tE t n s.p)))) := by unfold whc; rw [if_neg zn4, if_neg zn6, if_neg zn7, show tkW t n 8 (tE t n (tE t n s.p)) = .ok (tE t n (tE t n (tE t n s.p))) from if_pos zw8]; rfl
              simp only [bnd_ok ew, reduceIte, Nat.reduceEqDiff] at h
              refine And.intro (fun q => absurd q (by decide)) (fun _ => ?_)
              refine And.intro (fun q => absurd (by decide) q) (fun _ => ?_)
              refine c_Mtak X T (by exact hn3) hp3 (by exact K3) (by exact hf3) (lo := 0) (hi := 100000) (by decide) (by decide) rfl rfl (fun I4 lo4 hi4 e4 g4 K4 => ?_) (fun kf hkf e4 => ?_)
              · have hp4 := (tE_b (t := t) hp3).2.1
                have hn4 : I4 43 28 = nI n := (g4.2 28 (by decide) (by decide) (by decide) (by decide)).trans hn3
                have hf4 : I4 43 33 = 0 := (g4.2 33 (by decide) (by decide) (by decide) (by decide)).trans hf3
                simp only [bnd_ok e4] at h
                refine c_Mgood X (fun _ => ?_) (fun z => absurd (by exact hf4) z)
                refine And.intro (fun q => absurd q (by decide)) (fun _ => ?_)
                refine c_Madds X M.hw S.wd (by omega) ?_
                exact h _ _ (MP.mk hf4 (((((((gM.refl I).trans g1).trans g2).trans g3).trans g4).2 34 (by decide) (by decide) (by decide) (by decide)).trans S.pl) K4 hn4 ((M.gm (fun j hj => (((((gM.refl I).trans g1).trans g2).trans g3).trans g4).2 j (by omega) (by omega) (by omega) (by omega))).fw (fun q hq => wad_q hq) (fun j hj => wad_o (by omega) (by omega))) (S.wd.ad (r := (2, tN t n (tE t n s.p), ((6 : Nat) : Int), tN t n (tE t n (tE t n (tE t n s.p))))) rfl rfl rfl rfl) (((((((gM.refl I).trans g1).trans g2).trans g3).trans g4).2 9 (by decide) (by decide) (by decide) (by decide)).trans S.hd) (((((((gM.refl I).trans g1).trans g2).trans g3).trans g4).2 35 (by decide) (by decide) (by decide) (by decide)).trans S.te) (((((((gM.refl I).trans g1).trans g2).trans g3).trans g4).2 36 (by decide) (by decide) (by decide) (by decide)).trans S.tr) hp4) ((((((gM.refl I).trans g1).trans g2).trans g3).trans g4).y.trans (fY.a M.w5 (fun q hq => wad_q hq)))
              · have hfx := nI_12 hkf
                simp only [bnd_er e4] at h
                refine c_Mgood X (fun z => absurd z hfx) (fun _ => ?_)
                refine And.intro (fun _ => ?_) (fun q => absurd (by decide) q)
                exact h _ _ (by first | exact hfx | exact nI_3) rfl K3.s (((((gM.refl I).trans g1).trans g2).trans g3).2 21 (by decide) (by decide) (by decide) (by decide)) (((((gM.refl I).trans g1).trans g2).trans g3).2 23 (by decide) (by decide) (by decide) (by decide)) ((((((gM.refl I).trans g1).trans g2).trans g3).y.trans (fY.i (by decide))).trans (fY.i (by decide)))
            · have zn8 : ¬ tW t n (tE t n (tE t n s.p)) 8 = true := by rw [zv8]; decide
              refine And.intro (fun _ => ?_) (fun q => absurd (by decide) q)
              refine c_Merrs X (by exact hf2) ?_
              have hfx : ¬ nI 1 = 0 := by decide
              have ew : whc t n s (tE t n (tE t n s.p)) = .error (1, tS t n (tE t n (tE t n s.p))) := by unfold whc; rw [if_neg zn4, if_neg zn6, if_neg zn7, show tkW t n 8 (tE t n (tE t n s.p)) = .error (1, tS t n (tE t n (tE t n s.p))) from if_neg zn8]; rfl
              simp only [bnd_er ew] at h
              refine And.intro (fun _ => ?_) (fun q => absurd q (by decide))
              refine c_Mtakf X hfx ?_
              refine c_Mgood X (fun z => absurd z hfx) (fun _ => ?_)
              refine And.intro (fun _ => ?_) (fun q => absurd (by decide) q)
              exact h _ _ (by first | exact hfx | exact nI_3) rfl K2.s ((((gM.refl I).trans g1).trans g2).2 21 (by decide) (by decide) (by decide) (by decide)) ((((gM.refl I).trans g1).trans g2).2 23 (by decide) (by decide) (by decide) (by decide)) (((((gM.refl I).trans g1).trans g2).y.trans (fY.i (by decide))).trans (fY.i (by decide)))
    · have hfx := nI_12 hkf
      simp only [bnd_er e2] at h
      refine c_Mpassf4 X hfx ?_
      refine And.intro (fun _ => ?_) (fun q => absurd (by decide) q)
      refine c_Mpassf6 X hfx ?_
      refine And.intro (fun _ => ?_) (fun q => absurd (by decide) q)
      refine c_Mpassf7 X hfx ?_
      refine And.intro (fun _ => ?_) (fun q => absurd (by decide) q)
      refine c_Mpassf8 X hfx ?_
      refine And.intro (fun _ => ?_) (fun q => absurd (by decide) q)
      refine c_Merrsf X hfx ?_
      refine And.intro (fun _ => ?_) (fun q => absurd q (by decide))
      refine c_Mtakf X hfx ?_
      refine c_Mgood X (fun z => absurd z hfx) (fun _ => ?_)
      refine And.intro (fun _ => ?_) (fun q => absurd (by decide) q)
      exact h _ _ (by first | exact hfx | exact nI_3) rfl K1.s (((gM.refl I).trans g1).2 21 (by decide) (by decide) (by decide) (by decide)) (((gM.refl I).trans g1).2 23 (by decide) (by decide) (by decide) (by decide)) ((((gM.refl I).trans g1).y.trans (fY.i (by decide))).trans (fY.i (by decide)))
  · rw [M.hnc, jc] at q1
    have hd := (nI_eq (b := 12) (by omega) (by omega)).mp q1
    rw [if_pos hd] at h
    refine c_Merrs X (by exact hf0) ?_
    have hfx : ¬ nI 3 = 0 := by decide
    refine c_Mgood X (fun z => absurd z hfx) (fun _ => ?_)
    refine And.intro (fun _ => ?_) (fun q => absurd (by decide) q)
    refine Exists.intro _ (And.intro hww (And.intro (vlit rfl) ?_))
    refine Exists.intro _ (And.intro hww (And.intro (vlit rfl) ?_))
    refine c_Mtakf X hfx ?_
    refine c_Mpassf4 X hfx ?_
    refine And.intro (fun _ => ?_) (fun q => absurd (by decide) q)
    refine c_Mpassf6 X hfx ?_
    refine And.intro (fun _ => ?_) (fun q => absurd (by decide) q)
    refine c_Mpassf7 X hfx ?_
    refine And.intro (fun _ => ?_) (fun q => absurd (by decide) q)
    refine c_Mpassf8 X hfx ?_
    refine And.intro (fun _ => ?_) (fun q => absurd (by decide) q)
    refine c_Merrsf X hfx ?_
    refine And.intro (fun _ => ?_) (fun q => absurd q (by decide))
    refine c_Mtakf X hfx ?_
    refine c_Mgood X (fun z => absurd z hfx) (fun _ => ?_)
    refine And.intro (fun _ => ?_) (fun q => absurd (by decide) q)
    exact h _ _ (by first | exact hfx | exact nI_3) rfl K0.s ((gM.refl I).2 21 (by decide) (by decide) (by decide) (by decide)) ((gM.refl I).2 23 (by decide) (by decide) (by decide) (by decide)) (((gM.refl I).y.trans (fY.i (by decide))).trans (fY.i (by decide)))
set_option maxRecDepth 20000 in
theorem c_MrdLine {J : mJ} (X : mRules J) {I A : mI} {B : mB} {w f : Nat} {R : mR} {t : Nat → Nat} {n : Nat} (T : TpR 60 A t n) {s : St} (S : MS w I A B t n s) (V : PV n s) (hL : 0 < s.L)  (h : qP w f I A B t n s R (pR t n s)) : J n_M_readLine 0 [.ref 43] [] I A B (pk w f) R := by
  have hp0 := V.p
  have K0 := S.tk
  have hn0 := S.sz
  have hf0 := S.fl
  have Jv := ack_i V hL
  have G := Jv.G
  have M := S.mr
  have hsl := V.l hL
  have hsu := V.su
  have hv0 := V.c0
  have hv1 := V.c1
  have hv2 := V.c2
  have hv3 := V.c3
  have hv5 := V.c5
  have hm61 := pv_61 V
  have hPN : s.P * s.N ≤ 320 := Nat.mul_le_mul hsl.2.2.1 hsl.2.2.2.2.1
  have jP := Jv.P
  have jN := Jv.N
  have jt := Jv.nt
  have jc := Jv.nc
  have jk := Jv.c
  have hww := M.hw
  unfold pR at h
  refine X 200 _ _ _ _ _ _ _ _ _ ?_
  refine c_Mis4 X T hp0 hf0 K0 (fun zw => ?_) (fun zv4 => ?_)
  · rw [if_pos zw] at h
    refine And.intro (fun q => absurd q (by decide)) (fun _ => ?_)
    refine c_MrdTier X T S V hL zw ?_
    exact h
  · rw [if_neg (show ¬ tW t n s.p 4 = true by rw [zv4]; decide)] at h
    refine And.intro (fun _ => ?_) (fun q => absurd (by decide) q)
    refine c_Mis6 X T hp0 hf0 K0 (fun zw => ?_) (fun zv6 => ?_)
    · rw [if_pos zw] at h
      refine And.intro (fun q => absurd q (by decide)) (fun _ => ?_)
      refine c_MrdDebit X T S V hL zw ?_
      exact h
    · rw [if_neg (show ¬ tW t n s.p 6 = true by rw [zv6]; decide)] at h
      refine And.intro (fun _ => ?_) (fun q => absurd (by decide) q)
      refine c_Mis9 X T hp0 hf0 K0 (fun zw => ?_) (fun zv9 => ?_)
      · rw [if_pos zw] at h
        refine And.intro (fun q => absurd q (by decide)) (fun _ => ?_)
        refine c_MrdFrom X T S V hL zw ?_
        exact h
      · rw [if_neg (show ¬ tW t n s.p 9 = true by rw [zv9]; decide)] at h
        refine And.intro (fun _ => ?_) (fun q => absurd (by decide) q)
        refine c_Mis10 X T hp0 hf0 K0 (fun zw => ?_) (fun zv10 => ?_)
        · rw [if_pos zw] at h
          refine And.intro (fun q => absurd q (by decide)) (fun _ => ?_)
          refine c_MrdPay X T S V hL zw ?_
          exact h
        · rw [if_neg (show ¬ tW t n s.p 10 = true by rw [zv10]; decide)] at h
          refine And.intro (fun _ => ?_) (fun q => absurd (by decide) q)
          refine c_Mis11 X T hp0 hf0 K0 (fun zw => ?_) (fun zv11 => ?_)
          · rw [if_pos zw] at h
            refine And.intro (fun q => absurd q (by decide)) (fun _ => ?_)
            refine c_MrdDraw X T S V hL zw ?_
            exact h
          · rw [if_neg (show ¬ tW t n s.p 11 = true by rw [zv11]; decide)] at h
            refine And.intro (fun _ => ?_) (fun q => absurd (by decide) q)
            refine c_Mis12 X T hp0 hf0 K0 (fun zw => ?_) (fun zv12 => ?_)
            · rw [if_pos zw] at h
              unfold pX at h
              refine And.intro (fun q => absurd q (by decide)) (fun _ => ?_)
              refine c_MisOpen X M G.V (fun zo => ?_) (fun zo => ?_)
              · have zo2 : ctk s.rw 4 s.m < s.N := by omega
                rw [if_neg (by omega)] at h
                refine And.intro (fun _ => ?_) (fun q => absurd q (by decide))
                refine c_Mgood X (fun _ => ?_) (fun z => absurd (by exact hf0) z)
                refine And.intro (fun _ => ?_) (fun q => absurd q (by decide))
                refine c_Madv X T (by exact hn0) (tE_b (t := t) hp0).2.1 (by exact K0.e) (fun I1 ga1 gb1 K1 => ?_)
                have g1 : gM I I1 := ⟨ga1, gb1⟩
                have hp1 := (tE_b (t := t) hp0).2.1
                have hn1 : I1 43 28 = nI n := (g1.2 28 (by decide) (by decide) (by decide) (by decide)).trans hn0
                have hf1 : I1 43 33 = 0 := (g1.2 33 (by decide) (by decide) (by decide) (by decide)).trans hf0
                refine c_Madds X M.hw S.wd (by omega) ?_
                exact h _ _ (MP.mk hf1 ((((gM.refl I).trans g1).2 34 (by decide) (by decide) (by decide) (by decide)).trans S.pl) K1 hn1 ((M.gm (fun j hj => ((gM.refl I).trans g1).2 j (by omega) (by omega) (by omega) (by omega))).fw (fun q hq => wad_q hq) (fun j hj => wad_o (by omega) (by omega))) (S.wd.ad (r := (4, 0, 0, 0)) rfl rfl rfl rfl) ((((gM.refl I).trans g1).2 9 (by decide) (by decide) (by decide) (by decide)).trans S.hd) ((((gM.refl I).trans g1).2 35 (by decide) (by decide) (by decide) (by decide)).trans S.te) ((((gM.refl I).trans g1).2 36 (by decide) (by decide) (by decide) (by decide)).trans S.tr) hp1) (((gM.refl I).trans g1).y.trans (fY.a M.w5 (fun q hq => wad_q hq)))
              · have zo2 : ¬ ctk s.rw 4 s.m < s.N := by omega
                rw [if_pos zo2] at h
                refine And.intro (fun q => absurd (by decide) q) (fun _ => ?_)
                refine c_Merrs X (by exact hf0) ?_
                have hfx : ¬ nI 3 = 0 := by decide
                refine c_Mgood X (fun z => absurd z hfx) (fun _ => ?_)
                refine And.intro (fun q => absurd (by decide) q) (fun _ => ?_)
                exact h _ _ (by first | exact hfx | exact nI_3) rfl K0.s ((gM.refl I).2 21 (by decide) (by decide) (by decide) (by decide)) ((gM.refl I).2 23 (by decide) (by decide) (by decide) (by decide)) (((gM.refl I).y.trans (fY.i (by decide))).trans (fY.i (by decide)))
            · rw [if_neg (show ¬ tW t n s.p 12 = true by rw [zv12]; decide)] at h
              refine And.intro (fun _ => ?_) (fun q => absurd (by decide) q)
              refine c_Mis13 X T hp0 hf0 K0 (fun zw => ?_) (fun zv13 => ?_)
              · rw [if_pos zw] at h
                refine And.intro (fun q => absurd q (by decide)) (fun _ => ?_)
                refine c_MrdRerun X T S V hL zw ?_
                exact h
              · rw [if_neg (show ¬ tW t n s.p 13 = true by rw [zv13]; decide)] at h
                refine And.intro (fun _ => ?_) (fun q => absurd (by decide) q)
                refine c_Merrs X hf0 ?_
                have hfx : ¬ nI 1 = 0 := by decide
                exact h _ _ (by first | exact hfx | exact nI_3) rfl K0.s ((gM.refl I).2 21 (by decide) (by decide) (by decide) (by decide)) ((gM.refl I).2 23 (by decide) (by decide) (by decide) (by decide)) (((gM.refl I).y.trans (fY.i (by decide))).trans (fY.i (by decide)))
