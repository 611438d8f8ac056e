/-! contracts of the class: lines (written by wip/whole/gk18.py) -/
set_option maxRecDepth 20000 in
theorem c_readBook {J : mJ} (X : mRules J) {I A : mI} {B : mB} {w f : Nat} {R : mR} {t : Nat → Nat} {n : Nat} (T : TpR 2 A t n) (hn0 : I 1 1 = nI n) {s : St} (S : KS I A t n s) (V : PV n s) (hL0 : s.L = 0) (h : qX t n w f I A B R (lnF t n s)) : J n_Reader_readBook 0 [.ref 3, .float 0, .float 0, .float 0] [] I A B (pk w f) R := by
  have hp0 := V.p
  have K0 := S.tk
  have hf0 := S.fl
  have h42 : I 4 2 = 0 := by rw [S.sc.ha, Nat.sub_self]; rfl
  have hm0 := V.z hL0
  have z7 : I 3 7 = 0 := by rw [S.ti, hm0]; rfl
  have z9 : I 3 9 = 0 := by rw [S.tl, hm0]; rfl
  have z8 : I 3 8 = 0 := by rw [S.lt z9, hm0]; rfl
  have z10 : I 3 10 = 0 := by rw [S.db, hm0]; rfl
  have z11 : I 3 11 = 0 := by rw [S.ch, hm0]; rfl
  have z12 : I 3 12 = 0 := by rw [S.mo, hm0]; rfl
  have z13 : I 3 13 = 0 := by rw [S.cl, hm0]; rfl
  have z14 : I 3 14 = 0 := by rw [S.re, hm0]; rfl
  have hL61 : s.L ≤ 61 := by omega
  unfold lnF at h
  refine X 200 _ _ _ _ _ _ _ _ _ ?_
  refine c_takeW0 X T (by exact hn0) hp0 (by exact K0) (by exact hf0) (fun I1 e1 g1 K1 => ?_) (fun e1 => ?_)
  · have hp1 := (tE_b (t := t) hp0).2.1
    have hn1 : I1 1 1 = nI n := (congrFun (g1 1 (by decide)) 1).trans hn0
    have hf1 : I1 3 3 = 0 := (congrFun (g1 3 (by decide)) 3).trans hf0
    simp only [bnd_ok e1] at h
    refine c_takeW1 X T (by exact hn1) hp1 (by exact K1) (by exact hf1) (fun I2 e2 g2 K2 => ?_) (fun e2 => ?_)
    · have hp2 := (tE_b (t := t) hp1).2.1
      have hn2 : I2 1 1 = nI n := (congrFun (g2 1 (by decide)) 1).trans hn1
      have hf2 : I2 3 3 = 0 := (congrFun (g2 3 (by decide)) 3).trans hf1
      simp only [bnd_ok e2] at h
      refine c_takeN X T (by exact hn2) hp2 (by exact K2) (by exact hf2) (by decide) (by decide) (lo := 2) (hi := 41) rfl rfl (fun I3 lo3 hi3 e3 g3 K3 => ?_) (fun kf hkf e3 => ?_)
      · have hp3 := (tE_b (t := t) hp2).2.1
        have hn3 : I3 1 1 = nI n := (congrFun (g3 1 (by decide)) 1).trans hn2
        have hf3 : I3 3 3 = 0 := (congrFun (g3 3 (by decide)) 3).trans hf2
        simp only [bnd_ok e3] at h
        refine c_takeW2 X T (by exact hn3) hp3 (by exact K3) (by exact hf3) (fun I4 e4 g4 K4 => ?_) (fun e4 => ?_)
        · have hp4 := (tE_b (t := t) hp3).2.1
          have hn4 : I4 1 1 = nI n := (congrFun (g4 1 (by decide)) 1).trans hn3
          have hf4 : I4 3 3 = 0 := (congrFun (g4 3 (by decide)) 3).trans hf3
          simp only [bnd_ok e4] at h
          refine c_takeN X T (by exact hn4) hp4 (by exact K4) (by exact hf4) (by decide) (by decide) (lo := 1) (hi := 9) rfl rfl (fun I5 lo5 hi5 e5 g5 K5 => ?_) (fun kf hkf e5 => ?_)
          · have hp5 := (tE_b (t := t) hp4).2.1
            have hn5 : I5 1 1 = nI n := (congrFun (g5 1 (by decide)) 1).trans hn4
            have hf5 : I5 3 3 = 0 := (congrFun (g5 3 (by decide)) 3).trans hf4
            simp only [bnd_ok e5] at h
            refine c_takeW3 X T (by exact hn5) hp5 (by exact K5) (by exact hf5) (fun I6 e6 g6 K6 => ?_) (fun e6 => ?_)
            · have hp6 := (tE_b (t := t) hp5).2.1
              have hn6 : I6 1 1 = nI n := (congrFun (g6 1 (by decide)) 1).trans hn5
              have hf6 : I6 3 3 = 0 := (congrFun (g6 3 (by decide)) 3).trans hf5
              simp only [bnd_ok e6] at h
              refine c_takeN X T (by exact hn6) hp6 (by exact K6) (by exact hf6) (by decide) (by decide) (lo := 1) (hi := 5) rfl rfl (fun I7 lo7 hi7 e7 g7 K7 => ?_) (fun kf hkf e7 => ?_)
              · have hp7 := (tE_b (t := t) hp6).2.1
                have hn7 : I7 1 1 = nI n := (congrFun (g7 1 (by decide)) 1).trans hn6
                have hf7 : I7 3 3 = 0 := (congrFun (g7 3 (by decide)) 3).trans hf6
                simp only [bnd_ok e7] at h
                refine c_finish X T (by exact hn7) hp7 (by exact K7) (by exact hf7) (L := 0) (by decide) (by exact ((congrFun (g7 4 (by decide)) 1).trans ((congrFun (g6 4 (by decide)) 1).trans ((congrFun (g5 4 (by decide)) 1).trans ((congrFun (g4 4 (by decide)) 1).trans ((congrFun (g3 4 (by decide)) 1).trans ((congrFun (g2 4 (by decide)) 1).trans ((congrFun (g1 4 (by decide)) 1).trans (S.sc.hL.trans (congrArg nI hL0)))))))))) (by exact ((congrFun (g7 4 (by decide)) 2).trans ((congrFun (g6 4 (by decide)) 2).trans ((congrFun (g5 4 (by decide)) 2).trans ((congrFun (g4 4 (by decide)) 2).trans ((congrFun (g3 4 (by decide)) 2).trans ((congrFun (g2 4 (by decide)) 2).trans ((congrFun (g1 4 (by decide)) 2).trans h42)))))))) (fun Iv ef gf l1 l2 Kf => ?_) (fun ef => ?_)
                · simp only [bnd_ok ef] at h
                  refine h _ _ (KS.mk ((congrFun (gf 3 (by decide) (by decide)) 3).trans hf7) (((congrFun (gf 3 (by decide) (by decide)) 4).trans ((congrFun (g7 3 (by decide)) 4).trans ((congrFun (g6 3 (by decide)) 4).trans ((congrFun (g5 3 (by decide)) 4).trans ((congrFun (g4 3 (by decide)) 4).trans ((congrFun (g3 3 (by decide)) 4).trans ((congrFun (g2 3 (by decide)) 4).trans ((congrFun (g1 3 (by decide)) 4).trans rfl)))))))).trans S.pl) Kf (ScR.bk (I := I) l1 (l2.trans ((congrFun (g7 4 (by decide)) 2).trans ((congrFun (g6 4 (by decide)) 2).trans ((congrFun (g5 4 (by decide)) 2).trans ((congrFun (g4 4 (by decide)) 2).trans ((congrFun (g3 4 (by decide)) 2).trans ((congrFun (g2 4 (by decide)) 2).trans ((congrFun (g1 4 (by decide)) 2).trans h42)))))))) rfl rfl rfl) (fun _ => ⟨(congrFun (gf 3 (by decide) (by decide)) 5).trans (pk_mul _ _), congrFun (gf 3 (by decide) (by decide)) 6⟩) ((congrFun (gf 3 (by decide) (by decide)) 7).trans ((congrFun (g7 3 (by decide)) 7).trans ((congrFun (g6 3 (by decide)) 7).trans ((congrFun (g5 3 (by decide)) 7).trans ((congrFun (g4 3 (by decide)) 7).trans ((congrFun (g3 3 (by decide)) 7).trans ((congrFun (g2 3 (by decide)) 7).trans ((congrFun (g1 3 (by decide)) 7).trans z7)))))))) ?_ ((congrFun (gf 3 (by decide) (by decide)) 9).trans ((congrFun (g7 3 (by decide)) 9).trans ((congrFun (g6 3 (by decide)) 9).trans ((congrFun (g5 3 (by decide)) 9).trans ((congrFun (g4 3 (by decide)) 9).trans ((congrFun (g3 3 (by decide)) 9).trans ((congrFun (g2 3 (by decide)) 9).trans ((congrFun (g1 3 (by decide)) 9).trans z9)))))))) ((congrFun (gf 3 (by decide) (by decide)) 10).trans ((congrFun (g7 3 (by decide)) 10).trans ((congrFun (g6 3 (by decide)) 10).trans ((congrFun (g5 3 (by decide)) 10).trans ((congrFun (g4 3 (by decide)) 10).trans ((congrFun (g3 3 (by decide)) 10).trans ((congrFun (g2 3 (by decide)) 10).trans ((congrFun (g1 3 (by decide)) 10).trans z10)))))))) ((congrFun (gf 3 (by decide) (by decide)) 11).trans ((congrFun (g7 3 (by decide)) 11).trans ((congrFun (g6 3 (by decide)) 11).trans ((congrFun (g5 3 (by decide)) 11).trans ((congrFun (g4 3 (by decide)) 11).trans ((congrFun (g3 3 (by decide)) 11).trans ((congrFun (g2 3 (by decide)) 11).trans ((congrFun (g1 3 (by decide)) 11).trans z11)))))))) ((congrFun (gf 3 (by decide) (by decide)) 12).trans ((congrFun (g7 3 (by decide)) 12).trans ((congrFun (g6 3 (by decide)) 12).trans ((congrFun (g5 3 (by decide)) 12).trans ((congrFun (g4 3 (by decide)) 12).trans ((congrFun (g3 3 (by decide)) 12).trans ((congrFun (g2 3 (by decide)) 12).trans ((congrFun (g1 3 (by decide)) 12).trans z12)))))))) ((congrFun (gf 3 (by decide) (by decide)) 13).trans ((congrFun (g7 3 (by decide)) 13).trans ((congrFun (g6 3 (by decide)) 13).trans ((congrFun (g5 3 (by decide)) 13).trans ((congrFun (g4 3 (by decide)) 13).trans ((congrFun (g3 3 (by decide)) 13).trans ((congrFun (g2 3 (by decide)) 13).trans ((congrFun (g1 3 (by decide)) 13).trans z13)))))))) ((congrFun (gf 3 (by decide) (by decide)) 14).trans ((congrFun (g7 3 (by decide)) 14).trans ((congrFun (g6 3 (by decide)) 14).trans ((congrFun (g5 3 (by decide)) 14).trans ((congrFun (g4 3 (by decide)) 14).trans ((congrFun (g3 3 (by decide)) 14).trans ((congrFun (g2 3 (by decide)) 14).trans ((congrFun (g1 3 (by decide)) 14).trans z14))))))))) ⟨fun k a3 a4 a6 => (gf k a4 a6).trans (by simp only [up2_r a3, g7 k a6, g6 k a6, g5 k a6, g4 k a6, g3 k a6, g2 k a6, g1 k a6]), fun k a5 => spt_q a5⟩
                  intro _
                  exact ((congrFun (gf 3 (by decide) (by decide)) 8).trans ((congrFun (g7 3 (by decide)) 8).trans ((congrFun (g6 3 (by decide)) 8).trans ((congrFun (g5 3 (by decide)) 8).trans ((congrFun (g4 3 (by decide)) 8).trans ((congrFun (g3 3 (by decide)) 8).trans ((congrFun (g2 3 (by decide)) 8).trans ((congrFun (g1 3 (by decide)) 8).trans rfl)))))))).trans z8
                · have hfx : ¬ (1 : Int32) = 0 := by decide
                  simp only [bnd_er ef] at h
                  exact h _ _ (by first | exact hfx | exact nI_3) rfl K7.s ⟨fun k a3 a4 a6 => by simp only [up2_r a3, g7 k a6, g6 k a6, g5 k a6, g4 k a6, g3 k a6, g2 k a6, g1 k a6], fun _ _ => rfl⟩
              · have hfx := nI_12 hkf
                simp only [bnd_er e7] at h
                refine c_finishf X hfx ?_
                exact h _ _ (by first | exact hfx | exact nI_3) rfl K6.s ⟨fun k a3 a4 a6 => by simp only [up2_r a3, g6 k a6, g5 k a6, g4 k a6, g3 k a6, g2 k a6, g1 k a6], fun _ _ => rfl⟩
            · have hfx : ¬ (1 : Int32) = 0 := by decide
              simp only [bnd_er e6] at h
              refine c_takeNf X hfx ?_
              refine c_finishf X hfx ?_
              exact h _ _ (by first | exact hfx | exact nI_3) rfl K5.s ⟨fun k a3 a4 a6 => by simp only [up2_r a3, g5 k a6, g4 k a6, g3 k a6, g2 k a6, g1 k a6], fun _ _ => rfl⟩
          · have hfx := nI_12 hkf
            simp only [bnd_er e5] at h
            refine c_takeWf X hfx ?_
            refine c_takeNf X hfx ?_
            refine c_finishf X hfx ?_
            exact h _ _ (by first | exact hfx | exact nI_3) rfl K4.s ⟨fun k a3 a4 a6 => by simp only [up2_r a3, g4 k a6, g3 k a6, g2 k a6, g1 k a6], fun _ _ => rfl⟩
        · have hfx : ¬ (1 : Int32) = 0 := by decide
          simp only [bnd_er e4] at h
          refine c_takeNf X hfx ?_
          refine c_takeWf X hfx ?_
          refine c_takeNf X hfx ?_
          refine c_finishf X hfx ?_
          exact h _ _ (by first | exact hfx | exact nI_3) rfl K3.s ⟨fun k a3 a4 a6 => by simp only [up2_r a3, g3 k a6, g2 k a6, g1 k a6], fun _ _ => rfl⟩
      · have hfx := nI_12 hkf
        simp only [bnd_er e3] at h
        refine c_takeWf X hfx ?_
        refine c_takeNf X hfx ?_
        refine c_takeWf X hfx ?_
        refine c_takeNf X hfx ?_
        refine c_finishf X hfx ?_
        exact h _ _ (by first | exact hfx | exact nI_3) rfl K2.s ⟨fun k a3 a4 a6 => by simp only [up2_r a3, g2 k a6, g1 k a6], fun _ _ => rfl⟩
    · have hfx : ¬ (1 : Int32) = 0 := by decide
      simp only [bnd_er e2] at h
      refine c_takeNf X hfx ?_
      refine c_takeWf X hfx ?_
      refine c_takeNf X hfx ?_
      refine c_takeWf X hfx ?_
      refine c_takeNf X hfx ?_
      refine c_finishf X hfx ?_
      exact h _ _ (by first | exact hfx | exact nI_3) rfl K1.s ⟨fun k a3 a4 a6 => by simp only [up2_r a3, g1 k a6], fun _ _ => rfl⟩
  · have hfx : ¬ (1 : Int32) = 0 := by decide
    simp only [bnd_er e1] at h
    refine c_takeWf X hfx ?_
    refine c_takeNf X hfx ?_
    refine c_takeWf X hfx ?_
    refine c_takeNf X hfx ?_
    refine c_takeWf X hfx ?_
    refine c_takeNf X hfx ?_
    refine c_finishf X hfx ?_
    exact h _ _ (by first | exact hfx | exact nI_3) rfl K0.s ⟨fun k a3 a4 a6 => by simp only [up2_r a3], fun _ _ => rfl⟩
set_option maxRecDepth 20000 in
theorem c_readDebit {J : mJ} (X : mRules J) {I A : mI} {B : mB} {w f : Nat} {R : mR} {t : Nat → Nat} {n : Nat} (T : TpR 2 A t n) (hn0 : I 1 1 = nI n) {s : St} (S : KS I A t n s) (V : PV n s) (hL : 0 < s.L) (hw : tW t n s.p 6 = true) (h : qX t n w f I A B R (lnD t n s)) : J n_Reader_readDebit 0 [.ref 3, .float 0, .float 0, .float 0] [] I A B (pk w f) R := by
  have hp0 := V.p
  have K0 := S.tk
  have hf0 := S.fl
  have h42 : I 4 2 = 0 := by rw [S.sc.ha, Nat.sub_self]; rfl
  have hsl := V.l hL
  have hsu := V.su
  have hv0 := V.c0
  have hv1 := V.c1
  have hv2 := V.c2
  have hv3 := V.c3
  have hv4 : ctk s.rw 4 s.m ≤ s.N := by rcases V.c4 with z | z; exact z; rw [z]; exact Nat.zero_le _
  have hv5 := V.c5
  have hdy := S.dy hL
  unfold lnD at h
  refine X 200 _ _ _ _ _ _ _ _ _ ?_
  refine And.intro (fun q1 => ?_) (fun q1 => ?_)
  · have hd : ¬ 0 < ctk s.rw 1 s.m := fun z => by
      rw [S.db, if_pos z] at q1
      exact absurd q1 (by decide)
    rw [if_neg hd] at h
    have hL61 : s.L ≤ 61 := by omega
    refine And.intro (Or.inr rfl) ?_
    refine c_takeW6 X T (by exact hn0) hp0 (by exact K0) (by exact hf0) (fun I1 e1 g1 K1 => ?_) (fun e1 => ?_)
    · have hp1 := (tE_b (t := t) hp0).2.1
      have hn1 : I1 1 1 = nI n := (congrFun (g1 1 (by decide)) 1).trans hn0
      have hf1 : I1 3 3 = 0 := (congrFun (g1 3 (by decide)) 3).trans hf0
      refine c_takeN X T (by exact hn1) hp1 (by exact K1) (by exact hf1) (by decide) (by decide) (lo := 0) (hi := 5001) rfl rfl (fun I2 lo2 hi2 e2 g2 K2 => ?_) (fun kf hkf e2 => ?_)
      · have hp2 := (tE_b (t := t) hp1).2.1
        have hn2 : I2 1 1 = nI n := (congrFun (g2 1 (by decide)) 1).trans hn1
        have hf2 : I2 3 3 = 0 := (congrFun (g2 3 (by decide)) 3).trans hf1
        simp only [bnd_ok e2] at h
        refine c_takeW7 X T (by exact hn2) hp2 (by exact K2) (by exact hf2) (fun I3 e3 g3 K3 => ?_) (fun e3 => ?_)
        · have hp3 := (tE_b (t := t) hp2).2.1
          have hn3 : I3 1 1 = nI n := (congrFun (g3 1 (by decide)) 1).trans hn2
          have hf3 : I3 3 3 = 0 := (congrFun (g3 3 (by decide)) 3).trans hf2
          simp only [bnd_ok e3] at h
          refine c_takeN X T (by exact hn3) hp3 (by exact K3) (by exact hf3) (by decide) (by decide) (lo := 0) (hi := 5001) rfl rfl (fun I4 lo4 hi4 e4 g4 K4 => ?_) (fun kf hkf e4 => ?_)
          · have hp4 := (tE_b (t := t) hp3).2.1
            have hn4 : I4 1 1 = nI n := (congrFun (g4 1 (by decide)) 1).trans hn3
            have hf4 : I4 3 3 = 0 := (congrFun (g4 3 (by decide)) 3).trans hf3
            simp only [bnd_ok e4] at h
            refine c_takeW8 X T (by exact hn4) hp4 (by exact K4) (by exact hf4) (fun I5 e5 g5 K5 => ?_) (fun e5 => ?_)
            · have hp5 := (tE_b (t := t) hp4).2.1
              have hn5 : I5 1 1 = nI n := (congrFun (g5 1 (by decide)) 1).trans hn4
              have hf5 : I5 3 3 = 0 := (congrFun (g5 3 (by decide)) 3).trans hf4
              simp only [bnd_ok e5] at h
              refine c_takeN X T (by exact hn5) hp5 (by exact K5) (by exact hf5) (by decide) (by decide) (lo := 0) (hi := 100000) rfl rfl (fun I6 lo6 hi6 e6 g6 K6 => ?_) (fun kf hkf e6 => ?_)
              · have hp6 := (tE_b (t := t) hp5).2.1
                have hn6 : I6 1 1 = nI n := (congrFun (g6 1 (by decide)) 1).trans hn5
                have hf6 : I6 3 3 = 0 := (congrFun (g6 3 (by decide)) 3).trans hf5
                simp only [bnd_ok e6] at h
                refine c_finish X T (by exact hn6) hp6 (by exact K6) (by exact hf6) (L := s.L) hL61 (by exact ((congrFun (g6 4 (by decide)) 1).trans ((congrFun (g5 4 (by decide)) 1).trans ((congrFun (g4 4 (by decide)) 1).trans ((congrFun (g3 4 (by decide)) 1).trans ((congrFun (g2 4 (by decide)) 1).trans ((congrFun (g1 4 (by decide)) 1).trans S.sc.hL))))))) (by exact ((congrFun (g6 4 (by decide)) 2).trans ((congrFun (g5 4 (by decide)) 2).trans ((congrFun (g4 4 (by decide)) 2).trans ((congrFun (g3 4 (by decide)) 2).trans ((congrFun (g2 4 (by decide)) 2).trans ((congrFun (g1 4 (by decide)) 2).trans h42))))))) (fun Iv ef gf l1 l2 Kf => ?_) (fun ef => ?_)
                · simp only [fin, bnd_ok ef] at h
                  exact h _ _ (S.ad V hL (r := (1, tN t n (tE t n s.p), ((tN t n (tE t n (tE t n (tE t n s.p))) : Nat) : Int), tN t n (tE t n (tE t n (tE t n (tE t n (tE t n s.p))))))) ⟨by show 1 ≤ 5; omega, fun e => (by cases e), fun _ => ⟨by omega, by show tN t n (tE t n s.p) ≤ 5000; omega, by show (0 : Int) ≤ ((tN t n (tE t n (tE t n (tE t n s.p))) : Nat) : Int); omega, by show ((tN t n (tE t n (tE t n (tE t n s.p))) : Nat) : Int) ≤ 5000; omega, by show tN t n (tE t n (tE t n (tE t n (tE t n (tE t n s.p))))) ≤ 99999; omega⟩, fun e => (by cases e), fun e => (by cases e), fun e => absurd e (by show ¬ 3 ≤ 1; omega), fun e => (by cases e)⟩ ((congrFun (gf 3 (by decide) (by decide)) 3).trans hf6) ((congrFun (gf 3 (by decide) (by decide)) 4).trans ((congrFun (g6 3 (by decide)) 4).trans ((congrFun (g5 3 (by decide)) 4).trans ((congrFun (g4 3 (by decide)) 4).trans ((congrFun (g3 3 (by decide)) 4).trans ((congrFun (g2 3 (by decide)) 4).trans ((congrFun (g1 3 (by decide)) 4).trans rfl))))))) Kf ((S.sc).al hL (r := (1, tN t n (tE t n s.p), ((tN t n (tE t n (tE t n (tE t n s.p))) : Nat) : Int), tN t n (tE t n (tE t n (tE t n (tE t n (tE t n s.p))))))) l1 (l2.trans ((congrFun (g6 4 (by decide)) 2).trans ((congrFun (g5 4 (by decide)) 2).trans ((congrFun (g4 4 (by decide)) 2).trans ((congrFun (g3 4 (by decide)) 2).trans ((congrFun (g2 4 (by decide)) 2).trans ((congrFun (g1 4 (by decide)) 2).trans rfl))))))) rfl rfl (by rw [nI_z]; rfl) rfl) ((congrFun (gf 3 (by decide) (by decide)) 5).trans ((congrFun (g6 3 (by decide)) 5).trans ((congrFun (g5 3 (by decide)) 5).trans ((congrFun (g4 3 (by decide)) 5).trans ((congrFun (g3 3 (by decide)) 5).trans ((congrFun (g2 3 (by decide)) 5).trans ((congrFun (g1 3 (by decide)) 5).trans rfl))))))) ((congrFun (gf 3 (by decide) (by decide)) 6).trans ((congrFun (g6 3 (by decide)) 6).trans ((congrFun (g5 3 (by decide)) 6).trans ((congrFun (g4 3 (by decide)) 6).trans ((congrFun (g3 3 (by decide)) 6).trans ((congrFun (g2 3 (by decide)) 6).trans ((congrFun (g1 3 (by decide)) 6).trans rfl))))))) ((congrFun (gf 3 (by decide) (by decide)) 7).trans ((congrFun (g6 3 (by decide)) 7).trans ((congrFun (g5 3 (by decide)) 7).trans ((congrFun (g4 3 (by decide)) 7).trans ((congrFun (g3 3 (by decide)) 7).trans ((congrFun (g2 3 (by decide)) 7).trans ((congrFun (g1 3 (by decide)) 7).trans rfl))))))) (fun _ => ((congrFun (gf 3 (by decide) (by decide)) 8).trans ((congrFun (g6 3 (by decide)) 8).trans ((congrFun (g5 3 (by decide)) 8).trans ((congrFun (g4 3 (by decide)) 8).trans ((congrFun (g3 3 (by decide)) 8).trans ((congrFun (g2 3 (by decide)) 8).trans ((congrFun (g1 3 (by decide)) 8).trans rfl)))))))) (fun z => (by cases z)) ((congrFun (gf 3 (by decide) (by decide)) 9).trans ((congrFun (g6 3 (by decide)) 9).trans ((congrFun (g5 3 (by decide)) 9).trans ((congrFun (g4 3 (by decide)) 9).trans ((congrFun (g3 3 (by decide)) 9).trans ((congrFun (g2 3 (by decide)) 9).trans ((congrFun (g1 3 (by decide)) 9).trans rfl))))))) ((congrFun (gf 3 (by decide) (by decide)) 10).trans ((congrFun (g6 3 (by decide)) 10).trans ((congrFun (g5 3 (by decide)) 10).trans ((congrFun (g4 3 (by decide)) 10).trans ((congrFun (g3 3 (by decide)) 10).trans ((congrFun (g2 3 (by decide)) 10).trans ((congrFun (g1 3 (by decide)) 10).trans rfl))))))) ((congrFun (gf 3 (by decide) (by decide)) 11).trans ((congrFun (g6 3 (by decide)) 11).trans ((congrFun (g5 3 (by decide)) 11).trans ((congrFun (g4 3 (by decide)) 11).trans ((congrFun (g3 3 (by decide)) 11).trans ((congrFun (g2 3 (by decide)) 11).trans ((congrFun (g1 3 (by decide)) 11).trans rfl))))))) ((congrFun (gf 3 (by decide) (by decide)) 12).trans ((congrFun (g6 3 (by decide)) 12).trans ((congrFun (g5 3 (by decide)) 12).trans ((congrFun (g4 3 (by decide)) 12).trans ((congrFun (g3 3 (by decide)) 12).trans ((congrFun (g2 3 (by decide)) 12).trans ((congrFun (g1 3 (by decide)) 12).trans rfl))))))) ((congrFun (gf 3 (by decide) (by decide)) 13).trans ((congrFun (g6 3 (by decide)) 13).trans ((congrFun (g5 3 (by decide)) 13).trans ((congrFun (g4 3 (by decide)) 13).trans ((congrFun (g3 3 (by decide)) 13).trans ((congrFun (g2 3 (by decide)) 13).trans ((congrFun (g1 3 (by decide)) 13).trans rfl))))))) ((congrFun (gf 3 (by decide) (by decide)) 14).trans ((congrFun (g6 3 (by decide)) 14).trans ((congrFun (g5 3 (by decide)) 14).trans ((congrFun (g4 3 (by decide)) 14).trans ((congrFun (g3 3 (by decide)) 14).trans ((congrFun (g2 3 (by decide)) 14).trans ((congrFun (g1 3 (by decide)) 14).trans rfl)))))))) ⟨fun k a3 a4 a6 => (gf k a4 a6).trans (by simp only [up2_r a3, g6 k a6, g5 k a6, g4 k a6, g3 k a6, g2 k a6, g1 k a6]), fun k a5 => spt_q a5⟩
                · have hfx : ¬ (1 : Int32) = 0 := by decide
                  simp only [fin, bnd_er ef] at h
                  exact h _ _ (by first | exact hfx | exact nI_3) rfl K6.s ⟨fun k a3 a4 a6 => by simp only [up2_r a3, g6 k a6, g5 k a6, g4 k a6, g3 k a6, g2 k a6, g1 k a6], fun _ _ => rfl⟩
              · have hfx := nI_12 hkf
                simp only [bnd_er e6] at h
                refine c_finishf X hfx ?_
                exact h _ _ (by first | exact hfx | exact nI_3) rfl K5.s ⟨fun k a3 a4 a6 => by simp only [up2_r a3, g5 k a6, g4 k a6, g3 k a6, g2 k a6, g1 k a6], fun _ _ => rfl⟩
            · have hfx : ¬ (1 : Int32) = 0 := by decide
              simp only [bnd_er e5] at h
              refine c_takeNf X hfx ?_
              refine c_finishf X hfx ?_
              exact h _ _ (by first | exact hfx | exact nI_3) rfl K4.s ⟨fun k a3 a4 a6 => by simp only [up2_r a3, g4 k a6, g3 k a6, g2 k a6, g1 k a6], fun _ _ => rfl⟩
          · have hfx := nI_12 hkf
            simp only [bnd_er e4] at h
            refine c_takeWf X hfx ?_
            refine c_takeNf X hfx ?_
            refine c_finishf X hfx ?_
            exact h _ _ (by first | exact hfx | exact nI_3) rfl K3.s ⟨fun k a3 a4 a6 => by simp only [up2_r a3, g3 k a6, g2 k a6, g1 k a6], fun _ _ => rfl⟩
        · have hfx : ¬ (1 : Int32) = 0 := by decide
          simp only [bnd_er e3] at h
          refine c_takeNf X hfx ?_
          refine c_takeWf X hfx ?_
          refine c_takeNf X hfx ?_
          refine c_finishf X hfx ?_
          exact h _ _ (by first | exact hfx | exact nI_3) rfl K2.s ⟨fun k a3 a4 a6 => by simp only [up2_r a3, g2 k a6, g1 k a6], fun _ _ => rfl⟩
      · have hfx := nI_12 hkf
        simp only [bnd_er e2] at h
        refine c_takeWf X hfx ?_
        refine c_takeNf X hfx ?_
        refine c_takeWf X hfx ?_
        refine c_takeNf X hfx ?_
        refine c_finishf X hfx ?_
        exact h _ _ (by first | exact hfx | exact nI_3) rfl K1.s ⟨fun k a3 a4 a6 => by simp only [up2_r a3, g1 k a6], fun _ _ => rfl⟩
    · exact (tkW_ne hw e1).elim
  · have hd : 0 < ctk s.rw 1 s.m := by
      rcases Nat.lt_or_ge 0 (ctk s.rw 1 s.m) with z | z
      · exact z
      · exact absurd (by rw [S.db, if_neg (by omega)]) q1
    rw [if_pos hd] at h
    refine c_refuse X ?_
    exact h _ _ (by first | exact hfx | exact nI_3) rfl K0.s ⟨fun k a3 a4 a6 => by simp only [up2_r a3], fun _ _ => rfl⟩
set_option maxRecDepth 20000 in
theorem c_readTier {J : mJ} (X : mRules J) {I A : mI} {B : mB} {w f : Nat} {R : mR} {t : Nat → Nat} {n : Nat} (T : TpR 2 A t n) (hn0 : I 1 1 = nI n) {s : St} (S : KS I A t n s) (V : PV n s) (hL : 0 < s.L) (hw : tW t n s.p 4 = true) (h : qX t n w f I A B R (lnT t n s)) : J n_Reader_readTier 0 [.ref 3, .float 0, .float 0] [] I A B (pk w f) R := by
  have hp0 := V.p
  have K0 := S.tk
  have hf0 := S.fl
  have h42 : I 4 2 = 0 := by rw [S.sc.ha, Nat.sub_self]; rfl
  have hsl := V.l hL
  have hsu := V.su
  have hv0 := V.c0
  have hv1 := V.c1
  have hv2 := V.c2
  have hv3 := V.c3
  have hv4 : ctk s.rw 4 s.m ≤ s.N := by rcases V.c4 with z | z; exact z; rw [z]; exact Nat.zero_le _
  have hv5 := V.c5
  have hdy := S.dy hL
  unfold lnT at h
  refine X 200 _ _ _ _ _ _ _ _ _ ?_
  refine And.intro (fun q1 => ?_) (fun q1 => ?_)
  · rw [S.ti] at q1
    have hd := (nI_leI (a := 4) (by omega) (by omega)).mp q1
    rw [if_pos (Or.inl (by omega))] at h
    refine c_refuse X ?_
    exact h _ _ (by first | exact hfx | exact nI_3) rfl K0.s ⟨fun k a3 a4 a6 => by simp only [up2_r a3], fun _ _ => rfl⟩
  · rw [S.ti] at q1
    have hd1 : ¬ 4 ≤ ctk s.rw 0 s.m := fun z => q1 (nI_le (a := 4) z (by omega))
    refine And.intro (fun q2 => ?_) (fun q2 => ?_)
    · have l9 := V.lt
      have z9 : I 3 9 = 0 := q2
      have hd : ¬ (ctk s.rw 0 s.m = 4 ∨ (0 < ctk s.rw 0 s.m ∧ ltp s.rw s.m = 0)) := fun z => by
        rcases z with z | z
        · omega
        · have q9 := S.tl
          rw [if_pos z, z9] at q9
          exact absurd q9 (by decide)
      rw [if_neg hd] at h
      have hL61 : s.L ≤ 61 := by omega
      refine c_takeW4 X T (by exact hn0) hp0 (by exact K0) (by exact hf0) (fun I1 e1 g1 K1 => ?_) (fun e1 => ?_)
      · have hp1 := (tE_b (t := t) hp0).2.1
        have hn1 : I1 1 1 = nI n := (congrFun (g1 1 (by decide)) 1).trans hn0
        have hf1 : I1 3 3 = 0 := (congrFun (g1 3 (by decide)) 3).trans hf0
        refine c_takeN X T (by exact hn1) hp1 (by exact K1) (by exact hf1) (by decide) (by decide) (lo := 0) (hi := 5001) rfl rfl (fun I2 lo2 hi2 e2 g2 K2 => ?_) (fun kf hkf e2 => ?_)
        · have hp2 := (tE_b (t := t) hp1).2.1
          have hn2 : I2 1 1 = nI n := (congrFun (g2 1 (by decide)) 1).trans hn1
          have hf2 : I2 3 3 = 0 := (congrFun (g2 3 (by decide)) 3).trans hf1
          simp only [bnd_ok e2] at h
          refine And.intro (fun q3 => ?_) (fun q3 => ?_)
          · exact absurd hf2 q3 --end
          · refine c_isWord5 X T (by exact hn2) hp2 (by exact K2) (fun zw => ?_) (fun zw => ?_)
            · simp only [if_pos zw] at h
              refine And.intro (fun q => absurd q (by decide)) (fun _ => ?_)
              refine c_takeW5 X T (by exact hn2) hp2 (by exact K2) (by exact hf2) (fun I3 e3 g3 K3 => ?_) (fun e3 => ?_)
              · have hp3 := (tE_b (t := t) hp2).2.1
                have hn3 : I3 1 1 = nI n := (congrFun (g3 1 (by decide)) 1).trans hn2
                have hf3 : I3 3 3 = 0 := (congrFun (g3 3 (by decide)) 3).trans hf2
                refine c_takeN X T (by exact hn3) hp3 (by exact K3) (by exact hf3) (lo := ltp s.rw s.m + 1) (hi := 100000) (by omega) (by decide) (by rw [((congrFun (g3 3 (by decide)) 8).trans ((congrFun (g2 3 (by decide)) 8).trans ((congrFun (g1 3 (by decide)) 8).trans (S.lt z9))))]; exact nI_1 _) rfl (fun I4 lo4 hi4 e4 g4 K4 => ?_) (fun kf hkf e4 => ?_)
                · have hp4 := (tE_b (t := t) hp3).2.1
                  have hn4 : I4 1 1 = nI n := (congrFun (g4 1 (by decide)) 1).trans hn3
                  have hf4 : I4 3 3 = 0 := (congrFun (g4 3 (by decide)) 3).trans hf3
                  simp only [bnd_ok e4] at h
                  refine And.intro (fun q4 => ?_) (fun q4 => ?_)
                  · refine And.intro (Or.inl rfl) ?_
                    refine c_finish X T (by exact hn4) hp4 (by exact K4) (by exact hf4) (L := s.L) hL61 (by exact ((congrFun (g4 4 (by decide)) 1).trans ((congrFun (g3 4 (by decide)) 1).trans ((congrFun (g2 4 (by decide)) 1).trans ((congrFun (g1 4 (by decide)) 1).trans S.sc.hL))))) (by exact ((congrFun (g4 4 (by decide)) 2).trans ((congrFun (g3 4 (by decide)) 2).trans ((congrFun (g2 4 (by decide)) 2).trans ((congrFun (g1 4 (by decide)) 2).trans h42))))) (fun Iv ef gf l1 l2 Kf => ?_) (fun ef => ?_)
                    · simp only [fin, bnd_ok ef] at h
                      have hz3 : ¬ ((tN t n (tE t n (tE t n (tE t n s.p))) : Nat) : Int) = 0 := by omega
                      exact h _ _ (S.ad V hL (r := (0, tN t n (tE t n s.p), ((tN t n (tE t n (tE t n (tE t n s.p))) : Nat) : Int), 0)) ⟨by show 0 ≤ 5; omega, fun _ => ⟨by omega, by omega, by show tN t n (tE t n s.p) ≤ 5000; omega, by show (0 : Int) ≤ ((tN t n (tE t n (tE t n (tE t n s.p))) : Nat) : Int); omega, by show ((tN t n (tE t n (tE t n (tE t n s.p))) : Nat) : Int) ≤ 99999; omega, Or.inr (by show (ltp s.rw s.m : Int) < ((tN t n (tE t n (tE t n (tE t n s.p))) : Nat) : Int); omega)⟩, fun e => (by cases e), fun e => (by cases e), fun e => (by cases e), fun e => absurd e (by show ¬ 3 ≤ 0; omega), fun e => (by cases e)⟩ ((congrFun (gf 3 (by decide) (by decide)) 3).trans hf4) ((congrFun (gf 3 (by decide) (by decide)) 4).trans ((congrFun (g4 3 (by decide)) 4).trans ((congrFun (g3 3 (by decide)) 4).trans ((congrFun (g2 3 (by decide)) 4).trans ((congrFun (g1 3 (by decide)) 4).trans rfl))))) Kf ((S.sc).al hL (r := (0, tN t n (tE t n s.p), ((tN t n (tE t n (tE t n (tE t n s.p))) : Nat) : Int), 0)) l1 (l2.trans ((congrFun (g4 4 (by decide)) 2).trans ((congrFun (g3 4 (by decide)) 2).trans ((congrFun (g2 4 (by decide)) 2).trans ((congrFun (g1 4 (by decide)) 2).trans rfl))))) rfl rfl (by show nI (tN t n (tE t n (tE t n (tE t n s.p)))) = _; rw [if_neg (fun z => hz3 z.2)]; exact nI_z _) rfl) ((congrFun (gf 3 (by decide) (by decide)) 5).trans ((congrFun (g4 3 (by decide)) 5).trans ((congrFun (g3 3 (by decide)) 5).trans ((congrFun (g2 3 (by decide)) 5).trans ((congrFun (g1 3 (by decide)) 5).trans rfl))))) ((congrFun (gf 3 (by decide) (by decide)) 6).trans ((congrFun (g4 3 (by decide)) 6).trans ((congrFun (g3 3 (by decide)) 6).trans ((congrFun (g2 3 (by decide)) 6).trans ((congrFun (g1 3 (by decide)) 6).trans rfl))))) ((congrFun (gf 3 (by decide) (by decide)) 7).trans (congrArg (· + 1) ((congrFun (g4 3 (by decide)) 7).trans ((congrFun (g3 3 (by decide)) 7).trans ((congrFun (g2 3 (by decide)) 7).trans ((congrFun (g1 3 (by decide)) 7).trans rfl)))))) (fun z => absurd rfl z) (fun _ _ => (congrFun (gf 3 (by decide) (by decide)) 8).trans (nI_z _)) ((congrFun (gf 3 (by decide) (by decide)) 9).trans (if_neg hz3).symm) ((congrFun (gf 3 (by decide) (by decide)) 10).trans ((congrFun (g4 3 (by decide)) 10).trans ((congrFun (g3 3 (by decide)) 10).trans ((congrFun (g2 3 (by decide)) 10).trans ((congrFun (g1 3 (by decide)) 10).trans rfl))))) ((congrFun (gf 3 (by decide) (by decide)) 11).trans ((congrFun (g4 3 (by decide)) 11).trans ((congrFun (g3 3 (by decide)) 11).trans ((congrFun (g2 3 (by decide)) 11).trans ((congrFun (g1 3 (by decide)) 11).trans rfl))))) ((congrFun (gf 3 (by decide) (by decide)) 12).trans ((congrFun (g4 3 (by decide)) 12).trans ((congrFun (g3 3 (by decide)) 12).trans ((congrFun (g2 3 (by decide)) 12).trans ((congrFun (g1 3 (by decide)) 12).trans rfl))))) ((congrFun (gf 3 (by decide) (by decide)) 13).trans ((congrFun (g4 3 (by decide)) 13).trans ((congrFun (g3 3 (by decide)) 13).trans ((congrFun (g2 3 (by decide)) 13).trans ((congrFun (g1 3 (by decide)) 13).trans rfl))))) ((congrFun (gf 3 (by decide) (by decide)) 14).trans ((congrFun (g4 3 (by decide)) 14).trans ((congrFun (g3 3 (by decide)) 14).trans ((congrFun (g2 3 (by decide)) 14).trans ((congrFun (g1 3 (by decide)) 14).trans rfl)))))) ⟨fun k a3 a4 a6 => (gf k a4 a6).trans (by simp only [up2_r a3, g4 k a6, g3 k a6, g2 k a6, g1 k a6]), fun k a5 => spt_q a5⟩
                    · have hfx : ¬ (1 : Int32) = 0 := by decide
                      simp only [fin, bnd_er ef] at h
                      exact h _ _ (by first | exact hfx | exact nI_3) rfl K4.s ⟨fun k a3 a4 a6 => by simp only [up2_r a3, g4 k a6, g3 k a6, g2 k a6, g1 k a6], fun _ _ => rfl⟩
                  · exact absurd q4 (nI_m1 (by omega)) --end
                · have hfx := nI_12 hkf
                  simp only [bnd_er e4] at h
                  refine And.intro (fun _ => ?_) (fun q => absurd q (by decide))
                  refine And.intro (Or.inl rfl) ?_
                  refine c_finishf X hfx ?_
                  exact h _ _ (by first | exact hfx | exact nI_3) rfl K3.s ⟨fun k a3 a4 a6 => by simp only [up2_r a3, g3 k a6, g2 k a6, g1 k a6], fun _ _ => rfl⟩
              · exact (tkW_ne zw e3).elim
            · have zw2 : ¬ tW t n (tE t n (tE t n s.p)) 5 = true := by rw [zw]; decide
              simp only [if_neg zw2] at h
              refine And.intro (fun _ => ?_) (fun q => absurd (by decide) q)
              refine And.intro (fun q => absurd (by decide) q) (fun _ => ?_)
              refine And.intro (Or.inr rfl) ?_
              refine c_finish X T (by exact hn2) hp2 (by exact K2) (by exact hf2) (L := s.L) hL61 (by exact ((congrFun (g2 4 (by decide)) 1).trans ((congrFun (g1 4 (by decide)) 1).trans S.sc.hL))) (by exact ((congrFun (g2 4 (by decide)) 2).trans ((congrFun (g1 4 (by decide)) 2).trans h42))) (fun Iv ef gf l1 l2 Kf => ?_) (fun ef => ?_)
              · simp only [fin, bnd_ok ef] at h
                exact h _ _ (S.ad V hL (r := (0, tN t n (tE t n s.p), 0, 0)) ⟨by show 0 ≤ 5; omega, fun _ => ⟨by omega, by omega, by show tN t n (tE t n s.p) ≤ 5000; omega, by show (0 : Int) ≤ 0; omega, by show (0 : Int) ≤ 99999; omega, Or.inl rfl⟩, fun e => (by cases e), fun e => (by cases e), fun e => (by cases e), fun e => absurd e (by show ¬ 3 ≤ 0; omega), fun e => (by cases e)⟩ ((congrFun (gf 3 (by decide) (by decide)) 3).trans hf2) ((congrFun (gf 3 (by decide) (by decide)) 4).trans ((congrFun (g2 3 (by decide)) 4).trans ((congrFun (g1 3 (by decide)) 4).trans rfl))) Kf ((S.sc).al hL (r := (0, tN t n (tE t n s.p), 0, 0)) l1 (l2.trans ((congrFun (g2 4 (by decide)) 2).trans ((congrFun (g1 4 (by decide)) 2).trans rfl))) rfl rfl rfl rfl) ((congrFun (gf 3 (by decide) (by decide)) 5).trans ((congrFun (g2 3 (by decide)) 5).trans ((congrFun (g1 3 (by decide)) 5).trans rfl))) ((congrFun (gf 3 (by decide) (by decide)) 6).trans ((congrFun (g2 3 (by decide)) 6).trans ((congrFun (g1 3 (by decide)) 6).trans rfl))) ((congrFun (gf 3 (by decide) (by decide)) 7).trans (congrArg (· + 1) ((congrFun (g2 3 (by decide)) 7).trans ((congrFun (g1 3 (by decide)) 7).trans rfl)))) (fun z => absurd rfl z) (fun _ z => absurd rfl z) ((congrFun (gf 3 (by decide) (by decide)) 9).trans rfl) ((congrFun (gf 3 (by decide) (by decide)) 10).trans ((congrFun (g2 3 (by decide)) 10).trans ((congrFun (g1 3 (by decide)) 10).trans rfl))) ((congrFun (gf 3 (by decide) (by decide)) 11).trans ((congrFun (g2 3 (by decide)) 11).trans ((congrFun (g1 3 (by decide)) 11).trans rfl))) ((congrFun (gf 3 (by decide) (by decide)) 12).trans ((congrFun (g2 3 (by decide)) 12).trans ((congrFun (g1 3 (by decide)) 12).trans rfl))) ((congrFun (gf 3 (by decide) (by decide)) 13).trans ((congrFun (g2 3 (by decide)) 13).trans ((congrFun (g1 3 (by decide)) 13).trans rfl))) ((congrFun (gf 3 (by decide) (by decide)) 14).trans ((congrFun (g2 3 (by decide)) 14).trans ((congrFun (g1 3 (by decide)) 14).trans rfl)))) ⟨fun k a3 a4 a6 => (gf k a4 a6).trans (by simp only [up2_r a3, g2 k a6, g1 k a6]), fun k a5 => spt_q a5⟩
              · have hfx : ¬ (1 : Int32) = 0 := by decide
                simp only [fin, bnd_er ef] at h
                exact h _ _ (by first | exact hfx | exact nI_3) rfl K2.s ⟨fun k a3 a4 a6 => by simp only [up2_r a3, g2 k a6, g1 k a6], fun _ _ => rfl⟩
        · have hfx := nI_12 hkf
          simp only [bnd_er e2] at h
          refine And.intro (fun q5 => ?_) (fun q5 => ?_)
          · refine And.intro (fun q => absurd (by decide) q) (fun _ => ?_)
            refine And.intro (Or.inr rfl) ?_
            refine c_finishf X hfx ?_
            exact h _ _ (by first | exact hfx | exact nI_3) rfl K1.s ⟨fun k a3 a4 a6 => by simp only [up2_r a3, g1 k a6], fun _ _ => rfl⟩
          · exact absurd q5 hfx --end
      · exact (tkW_ne hw e1).elim
    · have hd : 0 < ctk s.rw 0 s.m ∧ ltp s.rw s.m = 0 := by
        by_cases z : 0 < ctk s.rw 0 s.m ∧ ltp s.rw s.m = 0
        · exact z
        · exact absurd (by rw [S.tl, if_neg z]) q2
      rw [if_pos (Or.inr hd)] at h
      refine c_refuse X ?_
      exact h _ _ (by first | exact hfx | exact nI_3) rfl K0.s ⟨fun k a3 a4 a6 => by simp only [up2_r a3], fun _ _ => rfl⟩
set_option maxRecDepth 20000 in
theorem c_takeWhich {J : mJ} (X : mRules J) {I A : mI} {B : mB} {w f : Nat} {R : mR} {t : Nat → Nat} {n : Nat} (T : TpR 2 A t n) (hn : I 1 1 = nI n) {p : Nat} (hp : p ≤ n) (K : KT I t n p) (hf : I 3 3 = 0) {s : St} (h7 : I 3 7 = nI (ctk s.rw 0 s.m)) (hv0 : ctk s.rw 0 s.m ≤ 4) (h1 : ∀ (q : Nat × Nat) Iv, whc t n s p = .ok q → (∀ j, j ≠ 6 → Iv j = I j) → KT Iv t n q.2 → R (some (.int (nI q.1))) Iv A B (pk w f)) (h0 : ∀ (e : Fl) (v : Int32) Iv, whc t n s p = .error e → ¬ nI e.1 = 0 → Iv 3 3 = nI e.1 → Iv 3 4 = nI e.2 → (∀ j, j ≠ 3 → j ≠ 6 → Iv j = I j) → R (some (.int v)) Iv A B (pk w f)) : J n_Reader_takeWhich 0 [.ref 3] [] I A B (pk w f) R := by
  have hE := tE_b (t := t) hp
  refine X 200 _ _ _ _ _ _ _ _ _ ?_
  refine And.intro (fun q1 => ?_) (fun q1 => ?_)
  · exact absurd hf q1 --end
  · refine c_isWord4 X T hn hp K (fun zw4 => ?_) (fun zv4 => ?_)
    · refine And.intro (fun q => absurd q (by decide)) (fun _ => ?_)
      refine c_takeW4 X T hn hp K hf (fun I1 e1 g1 K1 => ?_) (fun e1 => ?_)
      · refine c_takeN X T (by rw [g1 1 (by decide)]; exact hn) hE.2.1 K1 (by rw [g1 3 (by decide)]; exact hf) (lo := 0) (hi := ctk s.rw 0 s.m) (by decide) (by omega) rfl (by rw [g1 3 (by decide), h7]; exact zN_hi) (fun I2 lo2 hi2 e2 g2 K2 => ?_) (fun kf hkf e2 => ?_)
        · exact h1 (tN t n (tE t n p), tE t n (tE t n p)) I2 (by unfold whc; rw [if_pos zw4]; exact e2) (fun j a => (g2 j a).trans (g1 j a)) K2
        · exact h0 (kf, tS t n (tE t n p)) 0 _ (by unfold whc; rw [if_pos zw4]; exact e2) (nI_12 hkf) rfl K1.s (fun j a b => by simp only [up2_r a, g1 j b])
      · exact (tkW_ne zw4 e1).elim
    · have zw4 : ¬ tW t n p 4 = true := by rw [zv4]; decide
      refine And.intro (fun _ => ?_) (fun q => absurd (by decide) q)
      refine And.intro (fun q2 => ?_) (fun q2 => ?_)
      · exact absurd hf q2 --end
      · refine c_isWord6 X T hn hp K (fun zw6 => ?_) (fun zv6 => ?_)
        · refine And.intro (fun q => absurd q (by decide)) (fun _ => ?_)
          refine c_takeW6 X T hn hp K hf (fun I1 e1 g1 K1 => ?_) (fun e1 => ?_)
          · exact h1 (4, tE t n p) I1 (by unfold whc; rw [if_neg zw4, if_pos zw6]) g1 K1
          · exact (tkW_ne zw6 e1).elim
        · have zw6 : ¬ tW t n p 6 = true := by rw [zv6]; decide
          refine And.intro (fun _ => ?_) (fun q => absurd (by decide) q)
          refine And.intro (fun q3 => ?_) (fun q3 => ?_)
          · exact absurd hf q3 --end
          · refine c_isWord7 X T hn hp K (fun zw7 => ?_) (fun zv7 => ?_)
            · refine And.intro (fun q => absurd q (by decide)) (fun _ => ?_)
              refine c_takeW7 X T hn hp K hf (fun I1 e1 g1 K1 => ?_) (fun e1 => ?_)
              · exact h1 (5, tE t n p) I1 (by unfold whc; rw [if_neg zw4, if_neg zw6, if_pos zw7]) g1 K1
              · exact (tkW_ne zw7 e1).elim
            · have zw7 : ¬ tW t n p 7 = true := by rw [zv7]; decide
              refine And.intro (fun _ => ?_) (fun q => absurd (by decide) q)
              refine c_takeW8 X T hn hp K hf (fun I1 e1 g1 K1 => ?_) (fun e1 => ?_)
              · exact h1 (6, tE t n p) I1 (by unfold whc; rw [if_neg zw4, if_neg zw6, if_neg zw7, bnd_ok e1]) g1 K1
              · exact h0 (1, tS t n p) 6 _ (by unfold whc; rw [if_neg zw4, if_neg zw6, if_neg zw7, bnd_er e1]) (nI_12 (Or.inl rfl)) rfl K.s (fun j a b => by simp only [up2_r a])
set_option maxRecDepth 20000 in
theorem c_takeWhichf {J : mJ} (X : mRules J) {I A : mI} {B : mB} {w f : Nat} {R : mR} (hf : ¬ I 3 3 = 0) (h : R (some (.int 6)) I A B (pk w f)) : J n_Reader_takeWhich 0 [.ref 3] [] I A B (pk w f) R := by
  refine X 200 _ _ _ _ _ _ _ _ _ ?_
  refine And.intro (fun q1 => ?_) (fun q1 => ?_)
  · refine And.intro (fun q2 => ?_) (fun q2 => ?_)
    · refine And.intro (fun q3 => ?_) (fun q3 => ?_)
      · refine c_takeWf X hf ?_
        exact h
      · exact absurd q3 hf --end
    · exact absurd q2 hf --end
  · exact absurd q1 hf --end
set_option maxRecDepth 20000 in
theorem c_readFrom {J : mJ} (X : mRules J) {I A : mI} {B : mB} {w f : Nat} {R : mR} {t : Nat → Nat} {n : Nat} (T : TpR 2 A t n) (hn0 : I 1 1 = nI n) {s : St} (S : KS I A t n s) (V : PV n s) (hL : 0 < s.L) (hw : tW t n s.p 9 = true) (h : qX t n w f I A B R (lnC t n s)) : J n_Reader_readFrom 0 [.ref 3, .float 0, .float 0, .float 0] [] I A B (pk w f) R := by
  have hp0 := V.p
  have K0 := S.tk
  have hf0 := S.fl
  have h42 : I 4 2 = 0 := by rw [S.sc.ha, Nat.sub_self]; rfl
  have hsl := V.l hL
  have hsu := V.su
  have hv0 := V.c0
  have hv1 := V.c1
  have hv2 := V.c2
  have hv3 := V.c3
  have hv4 : ctk s.rw 4 s.m ≤ s.N := by rcases V.c4 with z | z; exact z; rw [z]; exact Nat.zero_le _
  have hv5 := V.c5
  have hdy := S.dy hL
  have hPN : s.P * s.N ≤ 320 := Nat.mul_le_mul hsl.2.2.1 hsl.2.2.2.2.1
  unfold lnC at h
  refine X 200 _ _ _ _ _ _ _ _ _ ?_
  refine And.intro (fun q1 => ?_) (fun q1 => ?_)
  · rw [S.ch] at q1
    have hd : ¬ 12 ≤ ctk s.rw 2 s.m := fun z => absurd (nI_le (a := 12) z (by omega)) (Int32.not_le.mpr q1)
    rw [if_neg (show ¬ ctk s.rw 2 s.m = 12 by omega)] at h
    have hL61 : s.L ≤ 61 := by omega
    refine c_takeW9 X T (by exact hn0) hp0 (by exact K0) (by exact hf0) (fun I1 e1 g1 K1 => ?_) (fun e1 => ?_)
    · have hp1 := (tE_b (t := t) hp0).2.1
      have hn1 : I1 1 1 = nI n := (congrFun (g1 1 (by decide)) 1).trans hn0
      have hf1 : I1 3 3 = 0 := (congrFun (g1 3 (by decide)) 3).trans hf0
      refine c_takeN X T (by exact hn1) hp1 (by exact K1) (by exact hf1) (lo := 0) (hi := s.P * s.N) (by decide) (by omega) rfl (by rw [((congrFun (g1 3 (by decide)) 5).trans hdy.1)]; exact zN_hi) (fun I2 lo2 hi2 e2 g2 K2 => ?_) (fun kf hkf e2 => ?_)
      · have hp2 := (tE_b (t := t) hp1).2.1
        have hn2 : I2 1 1 = nI n := (congrFun (g2 1 (by decide)) 1).trans hn1
        have hf2 : I2 3 3 = 0 := (congrFun (g2 3 (by decide)) 3).trans hf1
        simp only [bnd_ok e2] at h
        refine c_takeWhich X T (by exact hn2) hp2 (by exact K2) (by exact hf2) (s := s) (by exact ((congrFun (g2 3 (by decide)) 7).trans ((congrFun (g1 3 (by decide)) 7).trans S.ti))) hv0 (fun qw I3 e3 g3 K3 => ?_) (fun ew vw I3 e3 z3 f33 f34 gw => ?_)
        · obtain ⟨u0, u2⟩ := qw
          have wi := whc_i hp2 e3
          have hp3 : u2 ≤ n := wi.2.2
          have hn3 : I3 1 1 = nI n := (congrFun (g3 1 (by decide)) 1).trans hn2
          have hf3 : I3 3 3 = 0 := (congrFun (g3 3 (by decide)) 3).trans hf2
          simp only [bnd_ok e3] at h
          refine And.intro (fun q2 => ?_) (fun q2 => ?_)
          · have hq6 : ¬ u0 = 6 := fun z => q2 (by show nI u0 = _; rw [z]; rfl)
            simp only [if_neg hq6] at h
            refine c_takeN X T (by exact hn3) hp3 (by exact K3) (by exact hf3) (lo := 0) (hi := 5001) (by decide) (by decide) rfl rfl (fun I4 lo4 hi4 e4 g4 K4 => ?_) (fun kf hkf e4 => ?_)
            · have hp4 := (tE_b (t := t) hp3).2.1
              have hn4 : I4 1 1 = nI n := (congrFun (g4 1 (by decide)) 1).trans hn3
              have hf4 : I4 3 3 = 0 := (congrFun (g4 3 (by decide)) 3).trans hf3
              simp only [bnd_ok e4] at h
              refine c_finish X T (by exact hn4) hp4 (by exact K4) (by exact hf4) (L := s.L) hL61 (by exact ((congrFun (g4 4 (by decide)) 1).trans ((congrFun (g3 4 (by decide)) 1).trans ((congrFun (g2 4 (by decide)) 1).trans ((congrFun (g1 4 (by decide)) 1).trans S.sc.hL))))) (by exact ((congrFun (g4 4 (by decide)) 2).trans ((congrFun (g3 4 (by decide)) 2).trans ((congrFun (g2 4 (by decide)) 2).trans ((congrFun (g1 4 (by decide)) 2).trans h42))))) (fun Iv ef gf l1 l2 Kf => ?_) (fun ef => ?_)
              · simp only [fin, bnd_ok ef] at h
                exact h _ _ (S.ad V hL (r := (2, tN t n (tE t n s.p), ((u0 : Nat) : Int), tN t n u2)) ⟨by show 2 ≤ 5; omega, fun e => (by cases e), fun e => (by cases e), fun _ => ⟨by omega, hi2, by show (0 : Int) ≤ ((u0 : Nat) : Int); omega, by show ((u0 : Nat) : Int) < ctk s.rw 0 s.m ∨ (4 : Int) ≤ ((u0 : Nat) : Int) ∧ ((u0 : Nat) : Int) ≤ 6; have := wi.1; omega, by show tN t n u2 ≤ 99999; omega, fun e => by
                  have e9 : ((u0 : Nat) : Int) ≠ 6 := e
                  show tN t n u2 ≤ 5000
                  omega⟩, fun e => (by cases e), fun e => absurd e (by show ¬ 3 ≤ 2; omega), fun e => (by cases e)⟩ ((congrFun (gf 3 (by decide) (by decide)) 3).trans hf4) ((congrFun (gf 3 (by decide) (by decide)) 4).trans ((congrFun (g4 3 (by decide)) 4).trans ((congrFun (g3 3 (by decide)) 4).trans ((congrFun (g2 3 (by decide)) 4).trans ((congrFun (g1 3 (by decide)) 4).trans rfl))))) Kf ((S.sc).al hL (r := (2, tN t n (tE t n s.p), ((u0 : Nat) : Int), tN t n u2)) l1 (l2.trans ((congrFun (g4 4 (by decide)) 2).trans ((congrFun (g3 4 (by decide)) 2).trans ((congrFun (g2 4 (by decide)) 2).trans ((congrFun (g1 4 (by decide)) 2).trans rfl))))) rfl rfl (by rw [nI_z]; rfl) rfl) ((congrFun (gf 3 (by decide) (by decide)) 5).trans ((congrFun (g4 3 (by decide)) 5).trans ((congrFun (g3 3 (by decide)) 5).trans ((congrFun (g2 3 (by decide)) 5).trans ((congrFun (g1 3 (by decide)) 5).trans rfl))))) ((congrFun (gf 3 (by decide) (by decide)) 6).trans ((congrFun (g4 3 (by decide)) 6).trans ((congrFun (g3 3 (by decide)) 6).trans ((congrFun (g2 3 (by decide)) 6).trans ((congrFun (g1 3 (by decide)) 6).trans rfl))))) ((congrFun (gf 3 (by decide) (by decide)) 7).trans ((congrFun (g4 3 (by decide)) 7).trans ((congrFun (g3 3 (by decide)) 7).trans ((congrFun (g2 3 (by decide)) 7).trans ((congrFun (g1 3 (by decide)) 7).trans rfl))))) (fun _ => ((congrFun (gf 3 (by decide) (by decide)) 8).trans ((congrFun (g4 3 (by decide)) 8).trans ((congrFun (g3 3 (by decide)) 8).trans ((congrFun (g2 3 (by decide)) 8).trans ((congrFun (g1 3 (by decide)) 8).trans rfl)))))) (fun z => (by cases z)) ((congrFun (gf 3 (by decide) (by decide)) 9).trans ((congrFun (g4 3 (by decide)) 9).trans ((congrFun (g3 3 (by decide)) 9).trans ((congrFun (g2 3 (by decide)) 9).trans ((congrFun (g1 3 (by decide)) 9).trans rfl))))) ((congrFun (gf 3 (by decide) (by decide)) 10).trans ((congrFun (g4 3 (by decide)) 10).trans ((congrFun (g3 3 (by decide)) 10).trans ((congrFun (g2 3 (by decide)) 10).trans ((congrFun (g1 3 (by decide)) 10).trans rfl))))) ((congrFun (gf 3 (by decide) (by decide)) 11).trans ((congrFun (g4 3 (by decide)) 11).trans ((congrFun (g3 3 (by decide)) 11).trans ((congrFun (g2 3 (by decide)) 11).trans ((congrFun (g1 3 (by decide)) 11).trans rfl))))) ((congrFun (gf 3 (by decide) (by decide)) 12).trans ((congrFun (g4 3 (by decide)) 12).trans ((congrFun (g3 3 (by decide)) 12).trans ((congrFun (g2 3 (by decide)) 12).trans ((congrFun (g1 3 (by decide)) 12).trans rfl))))) ((congrFun (gf 3 (by decide) (by decide)) 13).trans ((congrFun (g4 3 (by decide)) 13).trans ((congrFun (g3 3 (by decide)) 13).trans ((congrFun (g2 3 (by decide)) 13).trans ((congrFun (g1 3 (by decide)) 13).trans rfl))))) ((congrFun (gf 3 (by decide) (by decide)) 14).trans ((congrFun (g4 3 (by decide)) 14).trans ((congrFun (g3 3 (by decide)) 14).trans ((congrFun (g2 3 (by decide)) 14).trans ((congrFun (g1 3 (by decide)) 14).trans rfl)))))) ⟨fun k a3 a4 a6 => (gf k a4 a6).trans (by simp only [up2_r a3, g4 k a6, g3 k a6, g2 k a6, g1 k a6]), fun k a5 => spt_q a5⟩
              · have hfx : ¬ (1 : Int32) = 0 := by decide
                simp only [fin, bnd_er ef] at h
                exact h _ _ (by first | exact hfx | exact nI_3) rfl K4.s ⟨fun k a3 a4 a6 => by simp only [up2_r a3, g4 k a6, g3 k a6, g2 k a6, g1 k a6], fun _ _ => rfl⟩
            · have hfx := nI_12 hkf
              simp only [bnd_er e4] at h
              refine c_finishf X hfx ?_
              exact h _ _ (by first | exact hfx | exact nI_3) rfl K3.s ⟨fun k a3 a4 a6 => by simp only [up2_r a3, g3 k a6, g2 k a6, g1 k a6], fun _ _ => rfl⟩
          · have hq6 : u0 = 6 := (nI_eq (b := 6) (by have := wi.1; omega) (by omega)).mp q2
            simp only [if_pos hq6] at h
            refine c_takeN X T (by exact hn3) hp3 (by exact K3) (by exact hf3) (lo := 0) (hi := 100000) (by decide) (by decide) rfl rfl (fun I4 lo4 hi4 e4 g4 K4 => ?_) (fun kf hkf e4 => ?_)
            · have hp4 := (tE_b (t := t) hp3).2.1
              have hn4 : I4 1 1 = nI n := (congrFun (g4 1 (by decide)) 1).trans hn3
              have hf4 : I4 3 3 = 0 := (congrFun (g4 3 (by decide)) 3).trans hf3
              simp only [bnd_ok e4] at h
              refine c_finish X T (by exact hn4) hp4 (by exact K4) (by exact hf4) (L := s.L) hL61 (by exact ((congrFun (g4 4 (by decide)) 1).trans ((congrFun (g3 4 (by decide)) 1).trans ((congrFun (g2 4 (by decide)) 1).trans ((congrFun (g1 4 (by decide)) 1).trans S.sc.hL))))) (by exact ((congrFun (g4 4 (by decide)) 2).trans ((congrFun (g3 4 (by decide)) 2).trans ((congrFun (g2 4 (by decide)) 2).trans ((congrFun (g1 4 (by decide)) 2).trans h42))))) (fun Iv ef gf l1 l2 Kf => ?_) (fun ef => ?_)
              · simp only [fin, bnd_ok ef] at h
                exact h _ _ (S.ad V hL (r := (2, tN t n (tE t n s.p), ((u0 : Nat) : Int), tN t n u2)) ⟨by show 2 ≤ 5; omega, fun e => (by cases e), fun e => (by cases e), fun _ => ⟨by omega, hi2, by show (0 : Int) ≤ ((u0 : Nat) : Int); omega, by show ((u0 : Nat) : Int) < ctk s.rw 0 s.m ∨ (4 : Int) ≤ ((u0 : Nat) : Int) ∧ ((u0 : Nat) : Int) ≤ 6; have := wi.1; omega, by show tN t n u2 ≤ 99999; omega, fun e => by
                  have e9 : ((u0 : Nat) : Int) ≠ 6 := e
                  show tN t n u2 ≤ 5000
                  omega⟩, fun e => (by cases e), fun e => absurd e (by show ¬ 3 ≤ 2; omega), fun e => (by cases e)⟩ ((congrFun (gf 3 (by decide) (by decide)) 3).trans hf4) ((congrFun (gf 3 (by decide) (by decide)) 4).trans ((congrFun (g4 3 (by decide)) 4).trans ((congrFun (g3 3 (by decide)) 4).trans ((congrFun (g2 3 (by decide)) 4).trans ((congrFun (g1 3 (by decide)) 4).trans rfl))))) Kf ((S.sc).al hL (r := (2, tN t n (tE t n s.p), ((u0 : Nat) : Int), tN t n u2)) l1 (l2.trans ((congrFun (g4 4 (by decide)) 2).trans ((congrFun (g3 4 (by decide)) 2).trans ((congrFun (g2 4 (by decide)) 2).trans ((congrFun (g1 4 (by decide)) 2).trans rfl))))) rfl rfl (by rw [nI_z]; rfl) rfl) ((congrFun (gf 3 (by decide) (by decide)) 5).trans ((congrFun (g4 3 (by decide)) 5).trans ((congrFun (g3 3 (by decide)) 5).trans ((congrFun (g2 3 (by decide)) 5).trans ((congrFun (g1 3 (by decide)) 5).trans rfl))))) ((congrFun (gf 3 (by decide) (by decide)) 6).trans ((congrFun (g4 3 (by decide)) 6).trans ((congrFun (g3 3 (by decide)) 6).trans ((congrFun (g2 3 (by decide)) 6).trans ((congrFun (g1 3 (by decide)) 6).trans rfl))))) ((congrFun (gf 3 (by decide) (by decide)) 7).trans ((congrFun (g4 3 (by decide)) 7).trans ((congrFun (g3 3 (by decide)) 7).trans ((congrFun (g2 3 (by decide)) 7).trans ((congrFun (g1 3 (by decide)) 7).trans rfl))))) (fun _ => ((congrFun (gf 3 (by decide) (by decide)) 8).trans ((congrFun (g4 3 (by decide)) 8).trans ((congrFun (g3 3 (by decide)) 8).trans ((congrFun (g2 3 (by decide)) 8).trans ((congrFun (g1 3 (by decide)) 8).trans rfl)))))) (fun z => (by cases z)) ((congrFun (gf 3 (by decide) (by decide)) 9).trans ((congrFun (g4 3 (by decide)) 9).trans ((congrFun (g3 3 (by decide)) 9).trans ((congrFun (g2 3 (by decide)) 9).trans ((congrFun (g1 3 (by decide)) 9).trans rfl))))) ((congrFun (gf 3 (by decide) (by decide)) 10).trans ((congrFun (g4 3 (by decide)) 10).trans ((congrFun (g3 3 (by decide)) 10).trans ((congrFun (g2 3 (by decide)) 10).trans ((congrFun (g1 3 (by decide)) 10).trans rfl))))) ((congrFun (gf 3 (by decide) (by decide)) 11).trans ((congrFun (g4 3 (by decide)) 11).trans ((congrFun (g3 3 (by decide)) 11).trans ((congrFun (g2 3 (by decide)) 11).trans ((congrFun (g1 3 (by decide)) 11).trans rfl))))) ((congrFun (gf 3 (by decide) (by decide)) 12).trans ((congrFun (g4 3 (by decide)) 12).trans ((congrFun (g3 3 (by decide)) 12).trans ((congrFun (g2 3 (by decide)) 12).trans ((congrFun (g1 3 (by decide)) 12).trans rfl))))) ((congrFun (gf 3 (by decide) (by decide)) 13).trans ((congrFun (g4 3 (by decide)) 13).trans ((congrFun (g3 3 (by decide)) 13).trans ((congrFun (g2 3 (by decide)) 13).trans ((congrFun (g1 3 (by decide)) 13).trans rfl))))) ((congrFun (gf 3 (by decide) (by decide)) 14).trans ((congrFun (g4 3 (by decide)) 14).trans ((congrFun (g3 3 (by decide)) 14).trans ((congrFun (g2 3 (by decide)) 14).trans ((congrFun (g1 3 (by decide)) 14).trans rfl)))))) ⟨fun k a3 a4 a6 => (gf k a4 a6).trans (by simp only [up2_r a3, g4 k a6, g3 k a6, g2 k a6, g1 k a6]), fun k a5 => spt_q a5⟩
              · have hfx : ¬ (1 : Int32) = 0 := by decide
                simp only [fin, bnd_er ef] at h
                exact h _ _ (by first | exact hfx | exact nI_3) rfl K4.s ⟨fun k a3 a4 a6 => by simp only [up2_r a3, g4 k a6, g3 k a6, g2 k a6, g1 k a6], fun _ _ => rfl⟩
            · have hfx := nI_12 hkf
              simp only [bnd_er e4] at h
              refine c_finishf X hfx ?_
              exact h _ _ (by first | exact hfx | exact nI_3) rfl K3.s ⟨fun k a3 a4 a6 => by simp only [up2_r a3, g3 k a6, g2 k a6, g1 k a6], fun _ _ => rfl⟩
        · have hfx : ¬ I3 3 3 = 0 := by rw [f33]; exact z3
          simp only [bnd_er e3] at h
          refine And.intro (fun q3 => ?_) (fun q3 => ?_)
          · refine c_takeNf X hfx ?_
            refine c_finishf X hfx ?_
            exact h _ _ z3 f33 f34 ⟨fun k a3 a4 a6 => by simp only [gw k a3 a6, up2_r a3, g2 k a6, g1 k a6], fun _ _ => rfl⟩
          · refine c_takeNf X hfx ?_
            refine c_finishf X hfx ?_
            exact h _ _ z3 f33 f34 ⟨fun k a3 a4 a6 => by simp only [gw k a3 a6, up2_r a3, g2 k a6, g1 k a6], fun _ _ => rfl⟩
      · have hfx := nI_12 hkf
        simp only [bnd_er e2] at h
        refine c_takeWhichf X hfx ?_
        refine And.intro (fun q => absurd (by decide) q) (fun _ => ?_)
        refine c_takeNf X hfx ?_
        refine c_finishf X hfx ?_
        exact h _ _ (by first | exact hfx | exact nI_3) rfl K1.s ⟨fun k a3 a4 a6 => by simp only [up2_r a3, g1 k a6], fun _ _ => rfl⟩
    · exact (tkW_ne hw e1).elim
  · rw [S.ch] at q1
    have hd : ¬ ctk s.rw 2 s.m < 12 := fun z => q1 (nI_lt (b := 12) z (by omega))
    rw [if_pos (show ctk s.rw 2 s.m = 12 by omega)] at h
    refine c_refuse X ?_
    exact h _ _ (by first | exact hfx | exact nI_3) rfl K0.s ⟨fun k a3 a4 a6 => by simp only [up2_r a3], fun _ _ => rfl⟩
set_option maxRecDepth 20000 in
theorem c_readPay {J : mJ} (X : mRules J) {I A : mI} {B : mB} {w f : Nat} {R : mR} {t : Nat → Nat} {n : Nat} (T : TpR 2 A t n) (hn0 : I 1 1 = nI n) {s : St} (S : KS I A t n s) (V : PV n s) (hL : 0 < s.L) (hw : tW t n s.p 10 = true) (h : qX t n w f I A B R (lnE t n s 1)) : J n_Reader_readMoney 0 [.ref 3, .int 1, .float 0, .float 0] [] I A B (pk w f) R := by
  have hp0 := V.p
  have K0 := S.tk
  have hf0 := S.fl
  have h42 : I 4 2 = 0 := by rw [S.sc.ha, Nat.sub_self]; rfl
  have hsl := V.l hL
  have hsu := V.su
  have hv0 := V.c0
  have hv1 := V.c1
  have hv2 := V.c2
  have hv3 := V.c3
  have hv4 : ctk s.rw 4 s.m ≤ s.N := by rcases V.c4 with z | z; exact z; rw [z]; exact Nat.zero_le _
  have hv5 := V.c5
  have hdy := S.dy hL
  have hPN : s.P * s.N ≤ 320 := Nat.mul_le_mul hsl.2.2.1 hsl.2.2.2.2.1
  unfold lnE at h
  refine X 200 _ _ _ _ _ _ _ _ _ ?_
  refine And.intro (fun q1 => ?_) (fun q1 => ?_)
  · rw [S.mo] at q1
    have hd := (nI_leI (a := 30) (by omega) (by omega)).mp q1
    rw [if_pos (Or.inl (by omega))] at h
    refine c_refuse X ?_
    exact h _ _ (by first | exact hfx | exact nI_3) rfl K0.s ⟨fun k a3 a4 a6 => by simp only [up2_r a3], fun _ _ => rfl⟩
  · rw [S.mo] at q1
    have hd1 : ¬ 30 ≤ ctk s.rw 3 s.m := fun z => q1 (nI_le (a := 30) z (by omega))
    refine And.intro (fun q2 => ?_) (fun q2 => ?_)
    · rw [S.cl, hdy.2] at q2
      have hd2 := (nI_ltI (by omega) (by omega)).mp q2
      rw [if_neg (by omega)] at h
      have hL61 : s.L ≤ 61 := by omega
      refine And.intro (fun q => absurd q (by decide)) (fun _ => ?_)
      refine c_takeW10 X T (by exact hn0) hp0 (by exact K0) (by exact hf0) (fun I1 e1 g1 K1 => ?_) (fun e1 => ?_)
      · have hp1 := (tE_b (t := t) hp0).2.1
        have hn1 : I1 1 1 = nI n := (congrFun (g1 1 (by decide)) 1).trans hn0
        have hf1 : I1 3 3 = 0 := (congrFun (g1 3 (by decide)) 3).trans hf0
        refine c_takeN X T (by exact hn1) hp1 (by exact K1) (by exact hf1) (lo := 0) (hi := s.P * s.N) (by decide) (by omega) rfl (by rw [((congrFun (g1 3 (by decide)) 5).trans hdy.1)]; exact zN_hi) (fun I2 lo2 hi2 e2 g2 K2 => ?_) (fun kf hkf e2 => ?_)
        · have hp2 := (tE_b (t := t) hp1).2.1
          have hn2 : I2 1 1 = nI n := (congrFun (g2 1 (by decide)) 1).trans hn1
          have hf2 : I2 3 3 = 0 := (congrFun (g2 3 (by decide)) 3).trans hf1
          simp only [bnd_ok e2] at h
          refine c_takeN X T (by exact hn2) hp2 (by exact K2) (by exact hf2) (lo := 1) (hi := 100000) (by decide) (by decide) rfl rfl (fun I3 lo3 hi3 e3 g3 K3 => ?_) (fun kf hkf e3 => ?_)
          · have hp3 := (tE_b (t := t) hp2).2.1
            have hn3 : I3 1 1 = nI n := (congrFun (g3 1 (by decide)) 1).trans hn2
            have hf3 : I3 3 3 = 0 := (congrFun (g3 3 (by decide)) 3).trans hf2
            simp only [bnd_ok e3] at h
            refine c_finish X T (by exact hn3) hp3 (by exact K3) (by exact hf3) (L := s.L) hL61 (by exact ((congrFun (g3 4 (by decide)) 1).trans ((congrFun (g2 4 (by decide)) 1).trans ((congrFun (g1 4 (by decide)) 1).trans S.sc.hL)))) (by exact ((congrFun (g3 4 (by decide)) 2).trans ((congrFun (g2 4 (by decide)) 2).trans ((congrFun (g1 4 (by decide)) 2).trans h42)))) (fun Iv ef gf l1 l2 Kf => ?_) (fun ef => ?_)
            · simp only [fin, bnd_ok ef] at h
              exact h _ _ (S.ad V hL (r := (3, tN t n (tE t n s.p), 1 * ((tN t n (tE t n (tE t n s.p)) : Nat) : Int), 0)) ⟨by show 3 ≤ 5; omega, fun e => (by cases e), fun e => (by cases e), fun e => (by cases e), fun _ => ⟨by omega, hi2, by show -99999 ≤ 1 * ((tN t n (tE t n (tE t n s.p)) : Nat) : Int); omega, by show 1 * ((tN t n (tE t n (tE t n s.p)) : Nat) : Int) ≤ 99999; omega⟩, fun _ => by omega, fun e => (by cases e)⟩ ((congrFun (gf 3 (by decide) (by decide)) 3).trans hf3) ((congrFun (gf 3 (by decide) (by decide)) 4).trans ((congrFun (g3 3 (by decide)) 4).trans ((congrFun (g2 3 (by decide)) 4).trans ((congrFun (g1 3 (by decide)) 4).trans rfl)))) Kf ((S.sc).al hL (r := (3, tN t n (tE t n s.p), 1 * ((tN t n (tE t n (tE t n s.p)) : Nat) : Int), 0)) l1 (l2.trans ((congrFun (g3 4 (by decide)) 2).trans ((congrFun (g2 4 (by decide)) 2).trans ((congrFun (g1 4 (by decide)) 2).trans rfl)))) rfl rfl (by show (1 : Int32) * nI (tN t n (tE t n (tE t n s.p))) = zN (1 * ((tN t n (tE t n (tE t n s.p)) : Nat) : Int)); rw [nI_z]; exact (Int32.ofInt_mul 1 _).symm) rfl) ((congrFun (gf 3 (by decide) (by decide)) 5).trans ((congrFun (g3 3 (by decide)) 5).trans ((congrFun (g2 3 (by decide)) 5).trans ((congrFun (g1 3 (by decide)) 5).trans rfl)))) ((congrFun (gf 3 (by decide) (by decide)) 6).trans ((congrFun (g3 3 (by decide)) 6).trans ((congrFun (g2 3 (by decide)) 6).trans ((congrFun (g1 3 (by decide)) 6).trans rfl)))) ((congrFun (gf 3 (by decide) (by decide)) 7).trans ((congrFun (g3 3 (by decide)) 7).trans ((congrFun (g2 3 (by decide)) 7).trans ((congrFun (g1 3 (by decide)) 7).trans rfl)))) (fun _ => ((congrFun (gf 3 (by decide) (by decide)) 8).trans ((congrFun (g3 3 (by decide)) 8).trans ((congrFun (g2 3 (by decide)) 8).trans ((congrFun (g1 3 (by decide)) 8).trans rfl))))) (fun z => (by cases z)) ((congrFun (gf 3 (by decide) (by decide)) 9).trans ((congrFun (g3 3 (by decide)) 9).trans ((congrFun (g2 3 (by decide)) 9).trans ((congrFun (g1 3 (by decide)) 9).trans rfl)))) ((congrFun (gf 3 (by decide) (by decide)) 10).trans ((congrFun (g3 3 (by decide)) 10).trans ((congrFun (g2 3 (by decide)) 10).trans ((congrFun (g1 3 (by decide)) 10).trans rfl)))) ((congrFun (gf 3 (by decide) (by decide)) 11).trans ((congrFun (g3 3 (by decide)) 11).trans ((congrFun (g2 3 (by decide)) 11).trans ((congrFun (g1 3 (by decide)) 11).trans rfl)))) ((congrFun (gf 3 (by decide) (by decide)) 12).trans ((congrFun (g3 3 (by decide)) 12).trans ((congrFun (g2 3 (by decide)) 12).trans ((congrFun (g1 3 (by decide)) 12).trans rfl)))) ((congrFun (gf 3 (by decide) (by decide)) 13).trans ((congrFun (g3 3 (by decide)) 13).trans ((congrFun (g2 3 (by decide)) 13).trans ((congrFun (g1 3 (by decide)) 13).trans rfl)))) ((congrFun (gf 3 (by decide) (by decide)) 14).trans ((congrFun (g3 3 (by decide)) 14).trans ((congrFun (g2 3 (by decide)) 14).trans ((congrFun (g1 3 (by decide)) 14).trans rfl))))) ⟨fun k a3 a4 a6 => (gf k a4 a6).trans (by simp only [up2_r a3, g3 k a6, g2 k a6, g1 k a6]), fun k a5 => spt_q a5⟩
            · have hfx : ¬ (1 : Int32) = 0 := by decide
              simp only [fin, bnd_er ef] at h
              exact h _ _ (by first | exact hfx | exact nI_3) rfl K3.s ⟨fun k a3 a4 a6 => by simp only [up2_r a3, g3 k a6, g2 k a6, g1 k a6], fun _ _ => rfl⟩
          · have hfx := nI_12 hkf
            simp only [bnd_er e3] at h
            refine c_finishf X hfx ?_
            exact h _ _ (by first | exact hfx | exact nI_3) rfl K2.s ⟨fun k a3 a4 a6 => by simp only [up2_r a3, g2 k a6, g1 k a6], fun _ _ => rfl⟩
        · have hfx := nI_12 hkf
          simp only [bnd_er e2] at h
          refine c_takeNf X hfx ?_
          refine c_finishf X hfx ?_
          exact h _ _ (by first | exact hfx | exact nI_3) rfl K1.s ⟨fun k a3 a4 a6 => by simp only [up2_r a3, g1 k a6], fun _ _ => rfl⟩
      · exact (tkW_ne hw e1).elim
    · rw [S.cl, hdy.2] at q2
      have hd2 : ¬ ctk s.rw 4 s.m < s.N := fun z => q2 (nI_lt z (by omega))
      rw [if_pos (Or.inr hd2)] at h
      refine c_refuse X ?_
      exact h _ _ (by first | exact hfx | exact nI_3) rfl K0.s ⟨fun k a3 a4 a6 => by simp only [up2_r a3], fun _ _ => rfl⟩
set_option maxRecDepth 20000 in
theorem c_readDraw {J : mJ} (X : mRules J) {I A : mI} {B : mB} {w f : Nat} {R : mR} {t : Nat → Nat} {n : Nat} (T : TpR 2 A t n) (hn0 : I 1 1 = nI n) {s : St} (S : KS I A t n s) (V : PV n s) (hL : 0 < s.L) (hw : tW t n s.p 11 = true) (h : qX t n w f I A B R (lnE t n s (-1))) : J n_Reader_readMoney 0 [.ref 3, .int (-1), .float 0, .float 0] [] I A B (pk w f) R := by
  have hp0 := V.p
  have K0 := S.tk
  have hf0 := S.fl
  have h42 : I 4 2 = 0 := by rw [S.sc.ha, Nat.sub_self]; rfl
  have hsl := V.l hL
  have hsu := V.su
  have hv0 := V.c0
  have hv1 := V.c1
  have hv2 := V.c2
  have hv3 := V.c3
  have hv4 : ctk s.rw 4 s.m ≤ s.N := by rcases V.c4 with z | z; exact z; rw [z]; exact Nat.zero_le _
  have hv5 := V.c5
  have hdy := S.dy hL
  have hPN : s.P * s.N ≤ 320 := Nat.mul_le_mul hsl.2.2.1 hsl.2.2.2.2.1
  unfold lnE at h
  refine X 200 _ _ _ _ _ _ _ _ _ ?_
  refine And.intro (fun q1 => ?_) (fun q1 => ?_)
  · rw [S.mo] at q1
    have hd := (nI_leI (a := 30) (by omega) (by omega)).mp q1
    rw [if_pos (Or.inl (by omega))] at h
    refine c_refuse X ?_
    exact h _ _ (by first | exact hfx | exact nI_3) rfl K0.s ⟨fun k a3 a4 a6 => by simp only [up2_r a3], fun _ _ => rfl⟩
  · rw [S.mo] at q1
    have hd1 : ¬ 30 ≤ ctk s.rw 3 s.m := fun z => q1 (nI_le (a := 30) z (by omega))
    refine And.intro (fun q2 => ?_) (fun q2 => ?_)
    · rw [S.cl, hdy.2] at q2
      have hd2 := (nI_ltI (by omega) (by omega)).mp q2
      rw [if_neg (by omega)] at h
      have hL61 : s.L ≤ 61 := by omega
      refine And.intro (fun _ => ?_) (fun q => absurd (by decide) q)
      refine c_takeW11 X T (by exact hn0) hp0 (by exact K0) (by exact hf0) (fun I1 e1 g1 K1 => ?_) (fun e1 => ?_)
      · have hp1 := (tE_b (t := t) hp0).2.1
        have hn1 : I1 1 1 = nI n := (congrFun (g1 1 (by decide)) 1).trans hn0
        have hf1 : I1 3 3 = 0 := (congrFun (g1 3 (by decide)) 3).trans hf0
        refine c_takeN X T (by exact hn1) hp1 (by exact K1) (by exact hf1) (lo := 0) (hi := s.P * s.N) (by decide) (by omega) rfl (by rw [((congrFun (g1 3 (by decide)) 5).trans hdy.1)]; exact zN_hi) (fun I2 lo2 hi2 e2 g2 K2 => ?_) (fun kf hkf e2 => ?_)
        · have hp2 := (tE_b (t := t) hp1).2.1
          have hn2 : I2 1 1 = nI n := (congrFun (g2 1 (by decide)) 1).trans hn1
          have hf2 : I2 3 3 = 0 := (congrFun (g2 3 (by decide)) 3).trans hf1
          simp only [bnd_ok e2] at h
          refine c_takeN X T (by exact hn2) hp2 (by exact K2) (by exact hf2) (lo := 1) (hi := 100000) (by decide) (by decide) rfl rfl (fun I3 lo3 hi3 e3 g3 K3 => ?_) (fun kf hkf e3 => ?_)
          · have hp3 := (tE_b (t := t) hp2).2.1
            have hn3 : I3 1 1 = nI n := (congrFun (g3 1 (by decide)) 1).trans hn2
            have hf3 : I3 3 3 = 0 := (congrFun (g3 3 (by decide)) 3).trans hf2
            simp only [bnd_ok e3] at h
            refine c_finish X T (by exact hn3) hp3 (by exact K3) (by exact hf3) (L := s.L) hL61 (by exact ((congrFun (g3 4 (by decide)) 1).trans ((congrFun (g2 4 (by decide)) 1).trans ((congrFun (g1 4 (by decide)) 1).trans S.sc.hL)))) (by exact ((congrFun (g3 4 (by decide)) 2).trans ((congrFun (g2 4 (by decide)) 2).trans ((congrFun (g1 4 (by decide)) 2).trans h42)))) (fun Iv ef gf l1 l2 Kf => ?_) (fun ef => ?_)
            · simp only [fin, bnd_ok ef] at h
              exact h _ _ (S.ad V hL (r := (3, tN t n (tE t n s.p), (-1) * ((tN t n (tE t n (tE t n s.p)) : Nat) : Int), 0)) ⟨by show 3 ≤ 5; omega, fun e => (by cases e), fun e => (by cases e), fun e => (by cases e), fun _ => ⟨by omega, hi2, by show -99999 ≤ (-1) * ((tN t n (tE t n (tE t n s.p)) : Nat) : Int); omega, by show (-1) * ((tN t n (tE t n (tE t n s.p)) : Nat) : Int) ≤ 99999; omega⟩, fun _ => by omega, fun e => (by cases e)⟩ ((congrFun (gf 3 (by decide) (by decide)) 3).trans hf3) ((congrFun (gf 3 (by decide) (by decide)) 4).trans ((congrFun (g3 3 (by decide)) 4).trans ((congrFun (g2 3 (by decide)) 4).trans ((congrFun (g1 3 (by decide)) 4).trans rfl)))) Kf ((S.sc).al hL (r := (3, tN t n (tE t n s.p), (-1) * ((tN t n (tE t n (tE t n s.p)) : Nat) : Int), 0)) l1 (l2.trans ((congrFun (g3 4 (by decide)) 2).trans ((congrFun (g2 4 (by decide)) 2).trans ((congrFun (g1 4 (by decide)) 2).trans rfl)))) rfl rfl (by show ((-1) : Int32) * nI (tN t n (tE t n (tE t n s.p))) = zN ((-1) * ((tN t n (tE t n (tE t n s.p)) : Nat) : Int)); rw [nI_z]; exact (Int32.ofInt_mul (-1) _).symm) rfl) ((congrFun (gf 3 (by decide) (by decide)) 5).trans ((congrFun (g3 3 (by decide)) 5).trans ((congrFun (g2 3 (by decide)) 5).trans ((congrFun (g1 3 (by decide)) 5).trans rfl)))) ((congrFun (gf 3 (by decide) (by decide)) 6).trans ((congrFun (g3 3 (by decide)) 6).trans ((congrFun (g2 3 (by decide)) 6).trans ((congrFun (g1 3 (by decide)) 6).trans rfl)))) ((congrFun (gf 3 (by decide) (by decide)) 7).trans ((congrFun (g3 3 (by decide)) 7).trans ((congrFun (g2 3 (by decide)) 7).trans ((congrFun (g1 3 (by decide)) 7).trans rfl)))) (fun _ => ((congrFun (gf 3 (by decide) (by decide)) 8).trans ((congrFun (g3 3 (by decide)) 8).trans ((congrFun (g2 3 (by decide)) 8).trans ((congrFun (g1 3 (by decide)) 8).trans rfl))))) (fun z => (by cases z)) ((congrFun (gf 3 (by decide) (by decide)) 9).trans ((congrFun (g3 3 (by decide)) 9).trans ((congrFun (g2 3 (by decide)) 9).trans ((congrFun (g1 3 (by decide)) 9).trans rfl)))) ((congrFun (gf 3 (by decide) (by decide)) 10).trans ((congrFun (g3 3 (by decide)) 10).trans ((congrFun (g2 3 (by decide)) 10).trans ((congrFun (g1 3 (by decide)) 10).trans rfl)))) ((congrFun (gf 3 (by decide) (by decide)) 11).trans ((congrFun (g3 3 (by decide)) 11).trans ((congrFun (g2 3 (by decide)) 11).trans ((congrFun (g1 3 (by decide)) 11).trans rfl)))) ((congrFun (gf 3 (by decide) (by decide)) 12).trans ((congrFun (g3 3 (by decide)) 12).trans ((congrFun (g2 3 (by decide)) 12).trans ((congrFun (g1 3 (by decide)) 12).trans rfl)))) ((congrFun (gf 3 (by decide) (by decide)) 13).trans ((congrFun (g3 3 (by decide)) 13).trans ((congrFun (g2 3 (by decide)) 13).trans ((congrFun (g1 3 (by decide)) 13).trans rfl)))) ((congrFun (gf 3 (by decide) (by decide)) 14).trans ((congrFun (g3 3 (by decide)) 14).trans ((congrFun (g2 3 (by decide)) 14).trans ((congrFun (g1 3 (by decide)) 14).trans rfl))))) ⟨fun k a3 a4 a6 => (gf k a4 a6).trans (by simp only [up2_r a3, g3 k a6, g2 k a6, g1 k a6]), fun k a5 => spt_q a5⟩
            · have hfx : ¬ (1 : Int32) = 0 := by decide
              simp only [fin, bnd_er ef] at h
              exact h _ _ (by first | exact hfx | exact nI_3) rfl K3.s ⟨fun k a3 a4 a6 => by simp only [up2_r a3, g3 k a6, g2 k a6, g1 k a6], fun _ _ => rfl⟩
          · have hfx := nI_12 hkf
            simp only [bnd_er e3] at h
            refine c_finishf X hfx ?_
            exact h _ _ (by first | exact hfx | exact nI_3) rfl K2.s ⟨fun k a3 a4 a6 => by simp only [up2_r a3, g2 k a6, g1 k a6], fun _ _ => rfl⟩
        · have hfx := nI_12 hkf
          simp only [bnd_er e2] at h
          refine c_takeNf X hfx ?_
          refine c_finishf X hfx ?_
          exact h _ _ (by first | exact hfx | exact nI_3) rfl K1.s ⟨fun k a3 a4 a6 => by simp only [up2_r a3, g1 k a6], fun _ _ => rfl⟩
      · exact (tkW_ne hw e1).elim
    · rw [S.cl, hdy.2] at q2
      have hd2 : ¬ ctk s.rw 4 s.m < s.N := fun z => q2 (nI_lt z (by omega))
      rw [if_pos (Or.inr hd2)] at h
      refine c_refuse X ?_
      exact h _ _ (by first | exact hfx | exact nI_3) rfl K0.s ⟨fun k a3 a4 a6 => by simp only [up2_r a3], fun _ _ => rfl⟩
set_option maxRecDepth 20000 in
theorem c_readClose {J : mJ} (X : mRules J) {I A : mI} {B : mB} {w f : Nat} {R : mR} {t : Nat → Nat} {n : Nat} (T : TpR 2 A t n) (hn0 : I 1 1 = nI n) {s : St} (S : KS I A t n s) (V : PV n s) (hL : 0 < s.L) (hw : tW t n s.p 12 = true) (h : qX t n w f I A B R (lnX t n s)) : J n_Reader_readClose 0 [.ref 3] [] I A B (pk w f) R := by
  have hp0 := V.p
  have K0 := S.tk
  have hf0 := S.fl
  have h42 : I 4 2 = 0 := by rw [S.sc.ha, Nat.sub_self]; rfl
  have hsl := V.l hL
  have hsu := V.su
  have hv0 := V.c0
  have hv1 := V.c1
  have hv2 := V.c2
  have hv3 := V.c3
  have hv4 : ctk s.rw 4 s.m ≤ s.N := by rcases V.c4 with z | z; exact z; rw [z]; exact Nat.zero_le _
  have hv5 := V.c5
  have hdy := S.dy hL
  unfold lnX at h
  refine X 200 _ _ _ _ _ _ _ _ _ ?_
  refine And.intro (fun q1 => ?_) (fun q1 => ?_)
  · rw [S.cl, hdy.2] at q1
    have hd2 := (nI_ltI (by omega) (by omega)).mp q1
    rw [if_neg (by omega)] at h
    have hL61 : s.L ≤ 61 := by omega
    refine c_takeW12 X T (by exact hn0) hp0 (by exact K0) (by exact hf0) (fun I1 e1 g1 K1 => ?_) (fun e1 => ?_)
    · have hp1 := (tE_b (t := t) hp0).2.1
      have hn1 : I1 1 1 = nI n := (congrFun (g1 1 (by decide)) 1).trans hn0
      have hf1 : I1 3 3 = 0 := (congrFun (g1 3 (by decide)) 3).trans hf0
      refine c_finish X T (by exact hn1) hp1 (by exact K1) (by exact hf1) (L := s.L) hL61 (by exact ((congrFun (g1 4 (by decide)) 1).trans S.sc.hL)) (by exact ((congrFun (g1 4 (by decide)) 2).trans h42)) (fun Iv ef gf l1 l2 Kf => ?_) (fun ef => ?_)
      · simp only [fin, bnd_ok ef] at h
        exact h _ _ (S.ad V hL (r := (4, 0, 0, 0)) ⟨by show 4 ≤ 5; omega, fun e => (by cases e), fun e => (by cases e), fun e => (by cases e), fun e => (by cases e), fun _ => hd2, fun e => (by cases e)⟩ ((congrFun (gf 3 (by decide) (by decide)) 3).trans hf1) ((congrFun (gf 3 (by decide) (by decide)) 4).trans ((congrFun (g1 3 (by decide)) 4).trans rfl)) Kf ((S.sc).al hL (r := (4, 0, 0, 0)) l1 (l2.trans ((congrFun (g1 4 (by decide)) 2).trans rfl)) rfl rfl rfl rfl) ((congrFun (gf 3 (by decide) (by decide)) 5).trans ((congrFun (g1 3 (by decide)) 5).trans rfl)) ((congrFun (gf 3 (by decide) (by decide)) 6).trans ((congrFun (g1 3 (by decide)) 6).trans rfl)) ((congrFun (gf 3 (by decide) (by decide)) 7).trans ((congrFun (g1 3 (by decide)) 7).trans rfl)) (fun _ => ((congrFun (gf 3 (by decide) (by decide)) 8).trans ((congrFun (g1 3 (by decide)) 8).trans rfl))) (fun z => (by cases z)) ((congrFun (gf 3 (by decide) (by decide)) 9).trans ((congrFun (g1 3 (by decide)) 9).trans rfl)) ((congrFun (gf 3 (by decide) (by decide)) 10).trans ((congrFun (g1 3 (by decide)) 10).trans rfl)) ((congrFun (gf 3 (by decide) (by decide)) 11).trans ((congrFun (g1 3 (by decide)) 11).trans rfl)) ((congrFun (gf 3 (by decide) (by decide)) 12).trans ((congrFun (g1 3 (by decide)) 12).trans rfl)) ((congrFun (gf 3 (by decide) (by decide)) 13).trans ((congrFun (g1 3 (by decide)) 13).trans rfl)) ((congrFun (gf 3 (by decide) (by decide)) 14).trans ((congrFun (g1 3 (by decide)) 14).trans rfl))) ⟨fun k a3 a4 a6 => (gf k a4 a6).trans (by simp only [up2_r a3, g1 k a6]), fun k a5 => spt_q a5⟩
      · have hfx : ¬ (1 : Int32) = 0 := by decide
        simp only [fin, bnd_er ef] at h
        exact h _ _ (by first | exact hfx | exact nI_3) rfl K1.s ⟨fun k a3 a4 a6 => by simp only [up2_r a3, g1 k a6], fun _ _ => rfl⟩
    · exact (tkW_ne hw e1).elim
  · rw [S.cl, hdy.2] at q1
    have hd2 : ¬ ctk s.rw 4 s.m < s.N := fun z => q1 (nI_lt z (by omega))
    rw [if_pos hd2] at h
    refine c_refuse X ?_
    exact h _ _ (by first | exact hfx | exact nI_3) rfl K0.s ⟨fun k a3 a4 a6 => by simp only [up2_r a3], fun _ _ => rfl⟩
set_option maxRecDepth 20000 in
theorem c_readRerun {J : mJ} (X : mRules J) {I A : mI} {B : mB} {w f : Nat} {R : mR} {t : Nat → Nat} {n : Nat} (T : TpR 2 A t n) (hn0 : I 1 1 = nI n) {s : St} (S : KS I A t n s) (V : PV n s) (hL : 0 < s.L) (hw : tW t n s.p 13 = true) (h : qX t n w f I A B R (lnY t n s)) : J n_Reader_readRerun 0 [.ref 3] [] I A B (pk w f) R := by
  have hp0 := V.p
  have K0 := S.tk
  have hf0 := S.fl
  have h42 : I 4 2 = 0 := by rw [S.sc.ha, Nat.sub_self]; rfl
  have hsl := V.l hL
  have hsu := V.su
  have hv0 := V.c0
  have hv1 := V.c1
  have hv2 := V.c2
  have hv3 := V.c3
  have hv4 : ctk s.rw 4 s.m ≤ s.N := by rcases V.c4 with z | z; exact z; rw [z]; exact Nat.zero_le _
  have hv5 := V.c5
  have hdy := S.dy hL
  unfold lnY at h
  refine X 200 _ _ _ _ _ _ _ _ _ ?_
  refine And.intro (fun q1 => ?_) (fun q1 => ?_)
  · rw [S.re] at q1
    have hd := (nI_leI (a := 6) (by omega) (by omega)).mp q1
    rw [if_pos (Or.inl (by omega))] at h
    refine c_refuse X ?_
    exact h _ _ (by first | exact hfx | exact nI_3) rfl K0.s ⟨fun k a3 a4 a6 => by simp only [up2_r a3], fun _ _ => rfl⟩
  · rw [S.re] at q1
    have hd1 : ¬ 6 ≤ ctk s.rw 5 s.m := fun z => q1 (nI_le (a := 6) z (by omega))
    refine And.intro (fun q2 => ?_) (fun q2 => ?_)
    · rw [S.cl, hdy.2] at q2
      have hd2 := (nI_ltI (by omega) (by omega)).mp q2
      rw [if_neg (by omega)] at h
      have hL61 : s.L ≤ 61 := by omega
      refine c_takeW13 X T (by exact hn0) hp0 (by exact K0) (by exact hf0) (fun I1 e1 g1 K1 => ?_) (fun e1 => ?_)
      · have hp1 := (tE_b (t := t) hp0).2.1
        have hn1 : I1 1 1 = nI n := (congrFun (g1 1 (by decide)) 1).trans hn0
        have hf1 : I1 3 3 = 0 := (congrFun (g1 3 (by decide)) 3).trans hf0
        refine c_finish X T (by exact hn1) hp1 (by exact K1) (by exact hf1) (L := s.L) hL61 (by exact ((congrFun (g1 4 (by decide)) 1).trans S.sc.hL)) (by exact ((congrFun (g1 4 (by decide)) 2).trans h42)) (fun Iv ef gf l1 l2 Kf => ?_) (fun ef => ?_)
        · simp only [fin, bnd_ok ef] at h
          exact h _ _ (S.ad V hL (r := (5, 0, 0, 0)) ⟨by show 5 ≤ 5; omega, fun e => (by cases e), fun e => (by cases e), fun e => (by cases e), fun e => (by cases e), fun _ => hd2, fun _ => by omega⟩ ((congrFun (gf 3 (by decide) (by decide)) 3).trans hf1) ((congrFun (gf 3 (by decide) (by decide)) 4).trans ((congrFun (g1 3 (by decide)) 4).trans rfl)) Kf ((S.sc).al hL (r := (5, 0, 0, 0)) l1 (l2.trans ((congrFun (g1 4 (by decide)) 2).trans rfl)) rfl rfl rfl rfl) ((congrFun (gf 3 (by decide) (by decide)) 5).trans ((congrFun (g1 3 (by decide)) 5).trans rfl)) ((congrFun (gf 3 (by decide) (by decide)) 6).trans ((congrFun (g1 3 (by decide)) 6).trans rfl)) ((congrFun (gf 3 (by decide) (by decide)) 7).trans ((congrFun (g1 3 (by decide)) 7).trans rfl)) (fun _ => ((congrFun (gf 3 (by decide) (by decide)) 8).trans ((congrFun (g1 3 (by decide)) 8).trans rfl))) (fun z => (by cases z)) ((congrFun (gf 3 (by decide) (by decide)) 9).trans ((congrFun (g1 3 (by decide)) 9).trans rfl)) ((congrFun (gf 3 (by decide) (by decide)) 10).trans ((congrFun (g1 3 (by decide)) 10).trans rfl)) ((congrFun (gf 3 (by decide) (by decide)) 11).trans ((congrFun (g1 3 (by decide)) 11).trans rfl)) ((congrFun (gf 3 (by decide) (by decide)) 12).trans ((congrFun (g1 3 (by decide)) 12).trans rfl)) ((congrFun (gf 3 (by decide) (by decide)) 13).trans ((congrFun (g1 3 (by decide)) 13).trans rfl)) ((congrFun (gf 3 (by decide) (by decide)) 14).trans ((congrFun (g1 3 (by decide)) 14).trans rfl))) ⟨fun k a3 a4 a6 => (gf k a4 a6).trans (by simp only [up2_r a3, g1 k a6]), fun k a5 => spt_q a5⟩
        · have hfx : ¬ (1 : Int32) = 0 := by decide
          simp only [fin, bnd_er ef] at h
          exact h _ _ (by first | exact hfx | exact nI_3) rfl K1.s ⟨fun k a3 a4 a6 => by simp only [up2_r a3, g1 k a6], fun _ _ => rfl⟩
      · exact (tkW_ne hw e1).elim
    · rw [S.cl, hdy.2] at q2
      have hd2 : ¬ ctk s.rw 4 s.m < s.N := fun z => q2 (nI_lt z (by omega))
      rw [if_pos (Or.inr hd2)] at h
      refine c_refuse X ?_
      exact h _ _ (by first | exact hfx | exact nI_3) rfl K0.s ⟨fun k a3 a4 a6 => by simp only [up2_r a3], fun _ _ => rfl⟩
set_option maxRecDepth 20000 in
theorem c_readLine {J : mJ} (X : mRules J) {I A : mI} {B : mB} {w f : Nat} {R : mR} {t : Nat → Nat} {n : Nat} (T : TpR 2 A t n) (hn0 : I 1 1 = nI n) {s : St} (S : KS I A t n s) (V : PV n s)  (h : qX t n w f I A B R (lnA t n s)) : J n_Reader_readLine 0 [.ref 3] [] I A B (pk w f) R := by
  have hp0 := V.p
  have K0 := S.tk
  have hf0 := S.fl
  have hlz := V.l
  have hsu := V.su
  have hv0 := V.c0
  have hv1 := V.c1
  have hv2 := V.c2
  have hv3 := V.c3
  have hv5 := V.c5
  have hL99 : s.L ≤ 100 := by
    rcases Nat.lt_or_ge 0 s.L with z | z
    · have hsl := hlz z
      have hv4 : ctk s.rw 4 s.m ≤ s.N := by rcases V.c4 with z | z; exact z; rw [z]; exact Nat.zero_le _
      omega
    · omega
  unfold lnA at h
  refine X 200 _ _ _ _ _ _ _ _ _ ?_
  refine And.intro (fun q1 => ?_) (fun q1 => ?_)
  · rw [S.sc.hL] at q1
    have hL : 0 < s.L := Nat.pos_of_ne_zero (fun z => q1 (by rw [z]; rfl))
    rw [if_neg (show ¬ s.L = 0 by omega)] at h
    unfold lnR at h
    refine c_isWord4 X T hn0 hp0 K0 (fun zw => ?_) (fun zv4 => ?_)
    · rw [if_pos zw] at h
      refine And.intro (fun q => absurd q (by decide)) (fun _ => ?_)
      refine c_readTier X T hn0 S V hL zw ?_
      exact h
    · rw [if_neg (show ¬ tW t n s.p 4 = true by rw [zv4]; decide)] at h
      refine And.intro (fun _ => ?_) (fun q => absurd (by decide) q)
      refine c_isWord6 X T hn0 hp0 K0 (fun zw => ?_) (fun zv6 => ?_)
      · rw [if_pos zw] at h
        refine And.intro (fun q => absurd q (by decide)) (fun _ => ?_)
        refine c_readDebit X T hn0 S V hL zw ?_
        exact h
      · rw [if_neg (show ¬ tW t n s.p 6 = true by rw [zv6]; decide)] at h
        refine And.intro (fun _ => ?_) (fun q => absurd (by decide) q)
        refine c_isWord9 X T hn0 hp0 K0 (fun zw => ?_) (fun zv9 => ?_)
        · rw [if_pos zw] at h
          refine And.intro (fun q => absurd q (by decide)) (fun _ => ?_)
          refine c_readFrom X T hn0 S V hL zw ?_
          exact h
        · rw [if_neg (show ¬ tW t n s.p 9 = true by rw [zv9]; decide)] at h
          refine And.intro (fun _ => ?_) (fun q => absurd (by decide) q)
          refine c_isWord10 X T hn0 hp0 K0 (fun zw => ?_) (fun zv10 => ?_)
          · rw [if_pos zw] at h
            refine And.intro (fun q => absurd q (by decide)) (fun _ => ?_)
            refine c_readPay X T hn0 S V hL zw ?_
            exact h
          · rw [if_neg (show ¬ tW t n s.p 10 = true by rw [zv10]; decide)] at h
            refine And.intro (fun _ => ?_) (fun q => absurd (by decide) q)
            refine c_isWord11 X T hn0 hp0 K0 (fun zw => ?_) (fun zv11 => ?_)
            · rw [if_pos zw] at h
              refine And.intro (fun q => absurd q (by decide)) (fun _ => ?_)
              refine c_readDraw X T hn0 S V hL zw ?_
              exact h
            · rw [if_neg (show ¬ tW t n s.p 11 = true by rw [zv11]; decide)] at h
              refine And.intro (fun _ => ?_) (fun q => absurd (by decide) q)
              refine c_isWord12 X T hn0 hp0 K0 (fun zw => ?_) (fun zv12 => ?_)
              · rw [if_pos zw] at h
                refine And.intro (fun q => absurd q (by decide)) (fun _ => ?_)
                refine c_readClose X T hn0 S V hL zw ?_
                exact h
              · rw [if_neg (show ¬ tW t n s.p 12 = true by rw [zv12]; decide)] at h
                refine And.intro (fun _ => ?_) (fun q => absurd (by decide) q)
                refine c_isWord13 X T hn0 hp0 K0 (fun zw => ?_) (fun zv13 => ?_)
                · rw [if_pos zw] at h
                  refine And.intro (fun q => absurd q (by decide)) (fun _ => ?_)
                  refine c_readRerun X T hn0 S V hL zw ?_
                  exact h
                · rw [if_neg (show ¬ tW t n s.p 13 = true by rw [zv13]; decide)] at h
                  refine And.intro (fun _ => ?_) (fun q => absurd (by decide) q)
                  refine c_refuse X ?_
                  exact h _ _ (nI_12 (Or.inl rfl)) rfl K0.s ⟨fun k a3 a4 a6 => by simp only [up2_r a3], fun _ _ => rfl⟩
  · rw [S.sc.hL] at q1
    have hL0 : s.L = 0 := (nI_eq (b := 0) (by omega) (by omega)).mp q1
    rw [if_pos hL0] at h
    refine c_readBook X T hn0 S V hL0 ?_
    exact h
