/-! contracts of both: counts, faults, the tape cut (written by wip/whole/gk9.py) -/
def cntf (x v0 v1 v2 v3 v4 v5 v6 v7 v8 v9 : Int32) : Int32 := if x = 0 then v0 else if x = 1 then v1 else if x = 2 then v2 else if x = 3 then v3 else if x = 4 then v4 else if x = 5 then v5 else if x = 6 then v6 else if x = 7 then v7 else if x = 8 then v8 else if x = 9 then v9 else -1
set_option maxRecDepth 20000 in
theorem k_count {J : mJ} (X : mRules J) {I A : mI} {B : mB} {w f : Nat} {R : mR} {x : Int32} (h : R (some (.int (cntf x (I 16 4) (I 16 5) (I 16 6) (I 17 4) (I 17 5) (I 29 6) (I 16 7) (I 7 2) (I 7 1) (I 1 1)))) I A B (pk w f)) : J n_V_count 0 [.ref 0, .int x] [] I A B (pk w f) R := by
  refine X 200 _ _ _ _ _ _ _ _ _ ?_
  refine And.intro (fun q1 => ?_) (fun q1 => ?_)
  · subst q1
    exact h
  refine And.intro (fun q2 => ?_) (fun q2 => ?_)
  · subst q2
    exact h
  refine And.intro (fun q3 => ?_) (fun q3 => ?_)
  · subst q3
    exact h
  refine And.intro (fun q4 => ?_) (fun q4 => ?_)
  · subst q4
    exact h
  refine And.intro (fun q5 => ?_) (fun q5 => ?_)
  · subst q5
    exact h
  refine And.intro (fun q6 => ?_) (fun q6 => ?_)
  · subst q6
    exact h
  refine And.intro (fun q7 => ?_) (fun q7 => ?_)
  · subst q7
    exact h
  refine And.intro (fun q8 => ?_) (fun q8 => ?_)
  · subst q8
    exact h
  refine And.intro (fun q9 => ?_) (fun q9 => ?_)
  · subst q9
    exact h
  refine And.intro (fun q10 => ?_) (fun q10 => ?_)
  · subst q10
    exact h
  unfold cntf at h
  rw [if_neg q1, if_neg q2, if_neg q3, if_neg q4, if_neg q5, if_neg q6, if_neg q7, if_neg q8, if_neg q9, if_neg q10] at h
  exact h
set_option maxRecDepth 20000 in
theorem r_count {J : mJ} (X : mRules J) {I A : mI} {B : mB} {w f : Nat} {R : mR} (hw : ash w = some (0, 606)) {L T m : Nat} {rw : Nat → Rw} (W : WdR w A L T m rw) (hT : T ≤ m) {x : Int32} (h : R (some (.int (cntf x (A w 0) (A w 1) (A w 2) (I 43 7) (I 43 13) (I 43 19) (I 43 20) (nI (m - T)) (A w 3) (I 43 26)))) I A B (pk w f)) : J n_M_count 0 [.ref 43, .int x] [] I A B (pk w f) R := by
  refine X 200 _ _ _ _ _ _ _ _ _ ?_
  refine And.intro (fun q1 => ?_) (fun q1 => ?_)
  · refine Exists.intro _ (And.intro hw (And.intro (vlit rfl) ?_))
    subst q1
    exact h
  refine And.intro (fun q2 => ?_) (fun q2 => ?_)
  · refine Exists.intro _ (And.intro hw (And.intro (vlit rfl) ?_))
    subst q2
    exact h
  refine And.intro (fun q3 => ?_) (fun q3 => ?_)
  · refine Exists.intro _ (And.intro hw (And.intro (vlit rfl) ?_))
    subst q3
    exact h
  refine And.intro (fun q4 => ?_) (fun q4 => ?_)
  · subst q4
    exact h
  refine And.intro (fun q5 => ?_) (fun q5 => ?_)
  · subst q5
    exact h
  refine And.intro (fun q6 => ?_) (fun q6 => ?_)
  · subst q6
    exact h
  refine And.intro (fun q7 => ?_) (fun q7 => ?_)
  · subst q7
    exact h
  refine And.intro (fun q8 => ?_) (fun q8 => ?_)
  · refine c_Macts X hw W hT ?_
    subst q8
    exact h
  refine And.intro (fun q9 => ?_) (fun q9 => ?_)
  · refine Exists.intro _ (And.intro hw (And.intro (vlit rfl) ?_))
    subst q9
    exact h
  refine And.intro (fun q10 => ?_) (fun q10 => ?_)
  · subst q10
    exact h
  unfold cntf at h
  rw [if_neg q1, if_neg q2, if_neg q3, if_neg q4, if_neg q5, if_neg q6, if_neg q7, if_neg q8, if_neg q9, if_neg q10] at h
  exact h
def fltf (x v0 v1 : Int32) : Int32 := if x = 0 then v0 else if x = 1 then v1 else -1
set_option maxRecDepth 20000 in
theorem k_fault {J : mJ} (X : mRules J) {I A : mI} {B : mB} {w f : Nat} {R : mR} {x : Int32} (h : R (some (.int (fltf x (I 3 3) (I 3 4)))) I A B (pk w f)) : J n_V_fault 0 [.ref 0, .int x] [] I A B (pk w f) R := by
  refine X 200 _ _ _ _ _ _ _ _ _ ?_
  refine And.intro (fun q1 => ?_) (fun q1 => ?_)
  · subst q1
    exact h
  refine And.intro (fun q2 => ?_) (fun q2 => ?_)
  · subst q2
    exact h
  unfold fltf at h
  rw [if_neg q1, if_neg q2] at h
  exact h
set_option maxRecDepth 20000 in
theorem r_fault {J : mJ} (X : mRules J) {I A : mI} {B : mB} {w f : Nat} {R : mR} {x : Int32} (h : R (some (.int (fltf x (I 43 33) (I 43 34)))) I A B (pk w f)) : J n_M_fault 0 [.ref 43, .int x] [] I A B (pk w f) R := by
  refine X 200 _ _ _ _ _ _ _ _ _ ?_
  refine And.intro (fun q1 => ?_) (fun q1 => ?_)
  · refine And.intro (fun q2 => ?_) (fun q2 => ?_)
    · unfold fltf at h
      rw [if_neg q1, if_neg q2] at h
      exact h
    · unfold fltf at h
      rw [if_neg q1, if_pos q2] at h
      exact h
  · unfold fltf at h
    rw [if_pos q1] at h
    exact h
