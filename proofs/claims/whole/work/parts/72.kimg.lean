/-! contracts of the class: images (written by wip/whole/gk8.py) -/
set_option maxRecDepth 20000 in
theorem k_image0 {J : mJ} (X : mRules J) {I A : mI} {B : mB} {w f : Nat} {R : mR} {bk : Bool} (hbk : I 7 1 = 0 ↔ bk = false) (hn : bk = false → R (some (.int (-2))) I A B (pk w f)) (h : bk = true → R (some (.int 0)) (scp I 7 10) (acp A 8 11) B (pk w f)) : J n_V_image 0 [.ref 0, .int 0, .float 0] [] I A B (pk w f) R := by
  refine X 200 _ _ _ _ _ _ _ _ _ ?_
  refine And.intro (fun q => absurd q (by decide)) (fun _ => ?_)
  refine And.intro (fun q1 => ?_) (fun q1 => ?_)
  · exact absurd q1 (by decide) --end
  · refine Exists.intro _ (Exists.intro _ (Exists.intro _ (And.intro rfl (And.intro (vlit rfl) ?_))))
    refine c_noBook X (fun zb => ?_) (fun zb => ?_)
    · have zb2 := hbk.mp zb
      subst zb2
      refine And.intro (fun q => absurd q (by decide)) (fun _ => ?_)
      exact hn rfl
    · have zb2 : bk = true := by cases bk with | true => rfl | false => exact absurd (hbk.mpr rfl) zb
      subst zb2
      refine And.intro (fun _ => ?_) (fun q => absurd (by decide) q)
      refine Exists.intro _ (Exists.intro _ (And.intro rfl ?_))
      refine Exists.intro 0 (Exists.intro 328 (Exists.intro 328 (And.intro rfl (And.intro rfl (And.intro (Or.inl rfl) (And.intro (by decide) (And.intro (by decide) (And.intro (by decide) (And.intro (by decide) (And.intro (by decide) (And.intro (fun _ => ?_) (fun z => absurd z (by decide)))))))))))))
      exact h rfl
set_option maxRecDepth 20000 in
theorem k_image1 {J : mJ} (X : mRules J) {I A : mI} {B : mB} {w f : Nat} {R : mR} {bk : Bool} (hbk : I 7 1 = 0 ↔ bk = false) (hn : bk = false → R (some (.int (-2))) I A B (pk w f)) (h : bk = true → R (some (.int 0)) (scp I 7 12) (acp A 8 13) B (pk w f)) : J n_V_image 0 [.ref 0, .int 1, .float 0] [] I A B (pk w f) R := by
  refine X 200 _ _ _ _ _ _ _ _ _ ?_
  refine And.intro (fun q => absurd q (by decide)) (fun _ => ?_)
  refine And.intro (fun q1 => ?_) (fun q1 => ?_)
  · exact absurd q1 (by decide) --end
  · refine Exists.intro _ (Exists.intro _ (Exists.intro _ (And.intro rfl (And.intro (vlit rfl) ?_))))
    refine c_noBook X (fun zb => ?_) (fun zb => ?_)
    · have zb2 := hbk.mp zb
      subst zb2
      refine And.intro (fun q => absurd q (by decide)) (fun _ => ?_)
      exact hn rfl
    · have zb2 : bk = true := by cases bk with | true => rfl | false => exact absurd (hbk.mpr rfl) zb
      subst zb2
      refine And.intro (fun _ => ?_) (fun q => absurd (by decide) q)
      refine Exists.intro _ (Exists.intro _ (And.intro rfl ?_))
      refine Exists.intro 0 (Exists.intro 328 (Exists.intro 328 (And.intro rfl (And.intro rfl (And.intro (Or.inl rfl) (And.intro (by decide) (And.intro (by decide) (And.intro (by decide) (And.intro (by decide) (And.intro (by decide) (And.intro (fun _ => ?_) (fun z => absurd z (by decide)))))))))))))
      exact h rfl
set_option maxRecDepth 20000 in
theorem k_image2 {J : mJ} (X : mRules J) {I A : mI} {B : mB} {w f : Nat} {R : mR} {bk : Bool} (hbk : I 7 1 = 0 ↔ bk = false) (hn : bk = false → R (some (.int (-2))) I A B (pk w f)) (h : bk = true → R (some (.int 0)) (scp I 7 14) (acp A 8 15) B (pk w f)) : J n_V_image 0 [.ref 0, .int 2, .float 0] [] I A B (pk w f) R := by
  refine X 200 _ _ _ _ _ _ _ _ _ ?_
  refine And.intro (fun q => absurd q (by decide)) (fun _ => ?_)
  refine And.intro (fun q1 => ?_) (fun q1 => ?_)
  · exact absurd q1 (by decide) --end
  · refine Exists.intro _ (Exists.intro _ (Exists.intro _ (And.intro rfl (And.intro (vlit rfl) ?_))))
    refine c_noBook X (fun zb => ?_) (fun zb => ?_)
    · have zb2 := hbk.mp zb
      subst zb2
      refine And.intro (fun q => absurd q (by decide)) (fun _ => ?_)
      exact hn rfl
    · have zb2 : bk = true := by cases bk with | true => rfl | false => exact absurd (hbk.mpr rfl) zb
      subst zb2
      refine And.intro (fun _ => ?_) (fun q => absurd (by decide) q)
      refine Exists.intro _ (Exists.intro _ (And.intro rfl ?_))
      refine Exists.intro 0 (Exists.intro 328 (Exists.intro 328 (And.intro rfl (And.intro rfl (And.intro (Or.inl rfl) (And.intro (by decide) (And.intro (by decide) (And.intro (by decide) (And.intro (by decide) (And.intro (by decide) (And.intro (fun _ => ?_) (fun z => absurd z (by decide)))))))))))))
      exact h rfl
set_option maxRecDepth 20000 in
theorem k_back0 {J : mJ} (X : mRules J) {I A : mI} {B : mB} {w f : Nat} {R : mR} {P N K L T m : Nat} {rw : Nat → Rw} (S : ScR 10 11 I A P N K L T m rw) (hT61 : T ≤ 61) (hmT : m - T ≤ 20) (Q : Rp P N K rw m) (hn : L = 0 → R (some (.int (-6))) I A B (pk w f)) (h : 0 < L → qZ P N K L T m rw w f I A B R (.int 0)) : J n_V_back 0 [.ref 0, .int 0, .float 0] [] I A B (pk w f) R := by
  have hTm := S.hT
  have hL9 : L ≤ 62 := by
    by_cases z : 0 < L
    · have := (S.h0 z).1; omega
    · omega
  refine X 200 _ _ _ _ _ _ _ _ _ ?_
  refine And.intro (fun q => absurd q (by decide)) (fun _ => ?_)
  refine And.intro (fun q1 => ?_) (fun q1 => ?_)
  · exact absurd q1 (by decide) --end
  · refine Exists.intro _ (Exists.intro _ (Exists.intro _ (And.intro rfl (And.intro (vlit rfl) ?_))))
    refine And.intro (fun q2 => ?_) (fun q2 => ?_)
    · have hL0 : 0 < L := Nat.pos_of_ne_zero (fun z => q2 (S.hL.trans (by rw [z]; rfl)))
      refine Exists.intro _ (Exists.intro _ (And.intro rfl ?_))
      refine Exists.intro 0 (Exists.intro 328 (Exists.intro 328 (And.intro rfl (And.intro rfl (And.intro (Or.inl rfl) (And.intro (by decide) (And.intro (by decide) (And.intro (by decide) (And.intro (by decide) (And.intro (by decide) (And.intro (fun _ => ?_) (fun z => absurd z (by decide)))))))))))))
      have S1 : ScR 7 8 (scp I 10 7) (acp A 11 8) P N K L T m rw := S.cp (by omega) scp_1 scp_2 (fun j hj => acp_n hj)
      refine c_cycle X S1 hL0 (by omega) ?_
      refine c_rep X S1 hL0 (by omega) Q (S1.h0 hL0).2.2.2 (fun I1 A1 B1 C1 f1 => ?_)
      exact h hL0 _ _ _ C1 (S1.fP f1) ⟨fun k a0 a1 a2 a3 => (f1.1 k a1 a2 a3).trans (scp_r a0), fun k a0 a1 => (f1.2.1 k a1).trans (acp_r a0), f1.2.2⟩
    · exact hn ((nI_eq (b := 0) (by omega) (by omega)).mp (S.hL.symm.trans q2))
set_option maxRecDepth 20000 in
theorem k_back1 {J : mJ} (X : mRules J) {I A : mI} {B : mB} {w f : Nat} {R : mR} {P N K L T m : Nat} {rw : Nat → Rw} (S : ScR 12 13 I A P N K L T m rw) (hT61 : T ≤ 61) (hmT : m - T ≤ 20) (Q : Rp P N K rw m) (hn : L = 0 → R (some (.int (-6))) I A B (pk w f)) (h : 0 < L → qZ P N K L T m rw w f I A B R (.int 0)) : J n_V_back 0 [.ref 0, .int 1, .float 0] [] I A B (pk w f) R := by
  have hTm := S.hT
  have hL9 : L ≤ 62 := by
    by_cases z : 0 < L
    · have := (S.h0 z).1; omega
    · omega
  refine X 200 _ _ _ _ _ _ _ _ _ ?_
  refine And.intro (fun q => absurd q (by decide)) (fun _ => ?_)
  refine And.intro (fun q1 => ?_) (fun q1 => ?_)
  · exact absurd q1 (by decide) --end
  · refine Exists.intro _ (Exists.intro _ (Exists.intro _ (And.intro rfl (And.intro (vlit rfl) ?_))))
    refine And.intro (fun q2 => ?_) (fun q2 => ?_)
    · have hL0 : 0 < L := Nat.pos_of_ne_zero (fun z => q2 (S.hL.trans (by rw [z]; rfl)))
      refine Exists.intro _ (Exists.intro _ (And.intro rfl ?_))
      refine Exists.intro 0 (Exists.intro 328 (Exists.intro 328 (And.intro rfl (And.intro rfl (And.intro (Or.inl rfl) (And.intro (by decide) (And.intro (by decide) (And.intro (by decide) (And.intro (by decide) (And.intro (by decide) (And.intro (fun _ => ?_) (fun z => absurd z (by decide)))))))))))))
      have S1 : ScR 7 8 (scp I 12 7) (acp A 13 8) P N K L T m rw := S.cp (by omega) scp_1 scp_2 (fun j hj => acp_n hj)
      refine c_cycle X S1 hL0 (by omega) ?_
      refine c_rep X S1 hL0 (by omega) Q (S1.h0 hL0).2.2.2 (fun I1 A1 B1 C1 f1 => ?_)
      exact h hL0 _ _ _ C1 (S1.fP f1) ⟨fun k a0 a1 a2 a3 => (f1.1 k a1 a2 a3).trans (scp_r a0), fun k a0 a1 => (f1.2.1 k a1).trans (acp_r a0), f1.2.2⟩
    · exact hn ((nI_eq (b := 0) (by omega) (by omega)).mp (S.hL.symm.trans q2))
set_option maxRecDepth 20000 in
theorem k_back2 {J : mJ} (X : mRules J) {I A : mI} {B : mB} {w f : Nat} {R : mR} {P N K L T m : Nat} {rw : Nat → Rw} (S : ScR 14 15 I A P N K L T m rw) (hT61 : T ≤ 61) (hmT : m - T ≤ 20) (Q : Rp P N K rw m) (hn : L = 0 → R (some (.int (-6))) I A B (pk w f)) (h : 0 < L → qZ P N K L T m rw w f I A B R (.int 0)) : J n_V_back 0 [.ref 0, .int 2, .float 0] [] I A B (pk w f) R := by
  have hTm := S.hT
  have hL9 : L ≤ 62 := by
    by_cases z : 0 < L
    · have := (S.h0 z).1; omega
    · omega
  refine X 200 _ _ _ _ _ _ _ _ _ ?_
  refine And.intro (fun q => absurd q (by decide)) (fun _ => ?_)
  refine And.intro (fun q1 => ?_) (fun q1 => ?_)
  · exact absurd q1 (by decide) --end
  · refine Exists.intro _ (Exists.intro _ (Exists.intro _ (And.intro rfl (And.intro (vlit rfl) ?_))))
    refine And.intro (fun q2 => ?_) (fun q2 => ?_)
    · have hL0 : 0 < L := Nat.pos_of_ne_zero (fun z => q2 (S.hL.trans (by rw [z]; rfl)))
      refine Exists.intro _ (Exists.intro _ (And.intro rfl ?_))
      refine Exists.intro 0 (Exists.intro 328 (Exists.intro 328 (And.intro rfl (And.intro rfl (And.intro (Or.inl rfl) (And.intro (by decide) (And.intro (by decide) (And.intro (by decide) (And.intro (by decide) (And.intro (by decide) (And.intro (fun _ => ?_) (fun z => absurd z (by decide)))))))))))))
      have S1 : ScR 7 8 (scp I 14 7) (acp A 15 8) P N K L T m rw := S.cp (by omega) scp_1 scp_2 (fun j hj => acp_n hj)
      refine c_cycle X S1 hL0 (by omega) ?_
      refine c_rep X S1 hL0 (by omega) Q (S1.h0 hL0).2.2.2 (fun I1 A1 B1 C1 f1 => ?_)
      exact h hL0 _ _ _ C1 (S1.fP f1) ⟨fun k a0 a1 a2 a3 => (f1.1 k a1 a2 a3).trans (scp_r a0), fun k a0 a1 => (f1.2.1 k a1).trans (acp_r a0), f1.2.2⟩
    · exact hn ((nI_eq (b := 0) (by omega) (by omega)).mp (S.hL.symm.trans q2))
set_option maxRecDepth 20000 in
theorem k_imageN {J : mJ} (X : mRules J) {I A : mI} {B : mB} {w f : Nat} {R : mR} {x : Int32} (hx : ∀ k, k < 3 → x ≠ nI k) (h : R (some (.int (-2))) I A B (pk w f)) : J n_V_image 0 [.ref 0, .int x, .float 0] [] I A B (pk w f) R := by
  refine X 200 _ _ _ _ _ _ _ _ _ ?_
  refine And.intro (fun q1 => ?_) (fun q1 => ?_)
  · exact h
  · refine And.intro (fun q2 => ?_) (fun q2 => ?_)
    · exact h
    · obtain ⟨j, hj, ej⟩ := pk_mu (L := 3) q1 q2 (by decide)
      exact absurd ej.1 (hx j hj) --end
set_option maxRecDepth 20000 in
theorem k_backN {J : mJ} (X : mRules J) {I A : mI} {B : mB} {w f : Nat} {R : mR} {x : Int32} (hx : ∀ k, k < 3 → x ≠ nI k) (h : R (some (.int (-2))) I A B (pk w f)) : J n_V_back 0 [.ref 0, .int x, .float 0] [] I A B (pk w f) R := by
  refine X 200 _ _ _ _ _ _ _ _ _ ?_
  refine And.intro (fun q1 => ?_) (fun q1 => ?_)
  · exact h
  · refine And.intro (fun q2 => ?_) (fun q2 => ?_)
    · exact h
    · obtain ⟨j, hj, ej⟩ := pk_mu (L := 3) q1 q2 (by decide)
      exact absurd ej.1 (hx j hj) --end
