/-! the law: its loop (written by wip/whole/gl4.py) -/
set_option maxRecDepth 40000 in
theorem law_loop {J : mJ} (X : mRules J) {R : mR} {len : Nat} (hl : len ≤ 3072) (hR : ∀ I A B P, R (some (.int 1)) I A B P) : ∀ (k i : Nat), len + 6 ≤ i + k → i ≤ 4000 → ∀ {I A : mI} {B : mB} {w f : Nat} {D : Dt}, KSt I A B D → MSt w I A B D → DV D → (w = 44 ∧ f = 45 ∨ w = 45 ∧ f = 44) → I 900 0 = nI len → J n_law 18 [.retAddr 0, .ref 0, .ref 43, .int (nI i)] [] I A B (pk w f) R := by
  intro k
  induction k with
  | zero =>
    intro i hk hi4 I A B w f D Kt Mt Dv hwf h9
    refine X 12 _ _ _ _ _ _ _ _ _ ?_
    have eL : I 900 0 - 6 = zN ((len : Int) - 6) := by rw [h9, nI_z]; exact (Int32.ofInt_sub (len : Int) 6).symm
    refine And.intro (fun _ => ?_) (fun q1 => ?_)
    · refine And.intro (Or.inr rfl) ?_
      exact hR _ _ _ _
    · rw [eL, nI_z] at q1
      exact absurd ((zn_lt (by omega) (by omega) (by omega) (by omega)).mpr (by omega)) q1
  | succ k ih =>
    intro i hk hi4 I A B w f D Kt Mt Dv hwf h9
    refine X 12 _ _ _ _ _ _ _ _ _ ?_
    have eL : I 900 0 - 6 = zN ((len : Int) - 6) := by rw [h9, nI_z]; exact (Int32.ofInt_sub (len : Int) 6).symm
    refine And.intro (fun _ => ?_) (fun q1 => ?_)
    · refine And.intro (Or.inr rfl) ?_
      exact hR _ _ _ _
    · rw [eL, nI_z] at q1
      have hi : i + 6 ≤ len := by
        have : ¬ (len : Int) - 6 < i := fun z => q1 ((zn_lt (by omega) (by omega) (by omega) (by omega)).mpr z)
        omega
      have H : lwH J I A i R := fun w' f' I' A' B' D' wf' K' M' V' e1 e2 => by
        rw [show nI i + 6 = nI (i + 6) from nI_add i 6]
        exact ih (i + 6) (by omega) (by omega) K' M' V' wf' (by rw [e1]; exact h9)
      refine And.intro (by rw [h9, cl (by omega)]; exact vin (by omega) (by omega)) ?_
      refine And.intro (fun _ => law_feed X Kt Mt Dv hwf h9 hl hi H) (fun _ => ?_)
      refine And.intro (fun _ => law_end X Kt Mt Dv hwf h9 hl hi H) (fun _ => ?_)
      refine And.intro (fun _ => law_book X Kt Mt Dv hwf h9 hl hi H) (fun _ => ?_)
      refine And.intro (fun _ => law_fault X Kt Mt Dv hwf h9 hl hi H) (fun _ => ?_)
      refine And.intro (fun _ => law_count X Kt Mt Dv hwf h9 hl hi H) (fun _ => ?_)
      refine And.intro (fun _ => law_entry X Kt Mt Dv hwf h9 hl hi H) (fun _ => ?_)
      refine And.intro (fun _ => law_sorted X Kt Mt Dv hwf h9 hl hi H) (fun _ => ?_)
      refine And.intro (fun _ => law_rate X Kt Mt Dv hwf h9 hl hi H) (fun _ => ?_)
      refine And.intro (fun _ => law_owing X Kt Mt Dv hwf h9 hl hi H) (fun _ => ?_)
      refine And.intro (fun _ => law_balance X Kt Mt Dv hwf h9 hl hi H) (fun _ => ?_)
      refine And.intro (fun _ => law_part X Kt Mt Dv hwf h9 hl hi H) (fun _ => ?_)
      refine And.intro (fun _ => law_product X Kt Mt Dv hwf h9 hl hi H) (fun _ => ?_)
      refine And.intro (fun _ => law_products X Kt Mt Dv hwf h9 hl hi H) (fun _ => ?_)
      refine And.intro (fun _ => law_fresh X Kt Mt Dv hwf h9 hl hi H) (fun _ => ?_)
      refine And.intro (fun _ => law_booked X Kt Mt Dv hwf h9 hl hi H) (fun _ => ?_)
      refine And.intro (fun _ => law_wrong X Kt Mt Dv hwf h9 hl hi H) (fun _ => ?_)
      refine And.intro (fun _ => law_compounds X Kt Mt Dv hwf h9 hl hi H) (fun _ => ?_)
      refine And.intro (fun _ => law_page X Kt Mt Dv hwf h9 hl hi H) (fun _ => ?_)
      refine And.intro (fun _ => law_line X Kt Mt Dv hwf h9 hl hi H) (fun _ => ?_)
      refine And.intro (fun _ => law_steps X Kt Mt Dv hwf h9 hl hi H) (fun _ => ?_)
      refine And.intro (fun _ => law_step X Kt Mt Dv hwf h9 hl hi H) (fun _ => ?_)
      refine And.intro (fun _ => law_lowest X Kt Mt Dv hwf h9 hl hi H) (fun _ => ?_)
      refine And.intro (fun _ => law_beyond X Kt Mt Dv hwf h9 hl hi H) (fun _ => ?_)
      refine And.intro (fun _ => law_firstBeyond X Kt Mt Dv hwf h9 hl hi H) (fun _ => ?_)
      refine And.intro (fun _ => law_mean X Kt Mt Dv hwf h9 hl hi H) (fun _ => ?_)
      refine And.intro (fun _ => law_all X Kt Mt Dv hwf h9 hl hi H) (fun _ => ?_)
      refine And.intro (fun _ => law_brought X Kt Mt Dv hwf h9 hl hi H) (fun _ => ?_)
      refine And.intro (fun _ => law_moved X Kt Mt Dv hwf h9 hl hi H) (fun _ => ?_)
      refine And.intro (fun _ => law_bestDay X Kt Mt Dv hwf h9 hl hi H) (fun _ => ?_)
      refine And.intro (fun _ => law_late X Kt Mt Dv hwf h9 hl hi H) (fun _ => ?_)
      refine And.intro (fun _ => law_touched X Kt Mt Dv hwf h9 hl hi H) (fun _ => ?_)
      refine And.intro (fun _ => law_tilted X Kt Mt Dv hwf h9 hl hi H) (fun _ => ?_)
      refine And.intro (fun _ => law_limited X Kt Mt Dv hwf h9 hl hi H) (fun _ => ?_)
      refine And.intro (fun _ => law_most X Kt Mt Dv hwf h9 hl hi H) (fun _ => ?_)
      refine And.intro (fun _ => law_least X Kt Mt Dv hwf h9 hl hi H) (fun _ => ?_)
      refine And.intro (fun _ => law_needs X Kt Mt Dv hwf h9 hl hi H) (fun _ => ?_)
      refine And.intro (fun _ => law_earned X Kt Mt Dv hwf h9 hl hi H) (fun _ => ?_)
      refine And.intro (fun _ => law_caused X Kt Mt Dv hwf h9 hl hi H) (fun _ => ?_)
      refine And.intro (fun _ => law_blame X Kt Mt Dv hwf h9 hl hi H) (fun _ => ?_)
      refine And.intro (fun _ => law_backdated X Kt Mt Dv hwf h9 hl hi H) (fun _ => ?_)
      refine And.intro (fun _ => law_reaches X Kt Mt Dv hwf h9 hl hi H) (fun _ => ?_)
      refine And.intro (fun _ => law_limitFor X Kt Mt Dv hwf h9 hl hi H) (fun _ => ?_)
      refine And.intro (fun _ => law_tiltFor X Kt Mt Dv hwf h9 hl hi H) (fun _ => ?_)
      refine And.intro (fun _ => law_bears X Kt Mt Dv hwf h9 hl hi H) (fun _ => ?_)
      refine And.intro (fun _ => law_rights X Kt Mt Dv hwf h9 hl hi H) (fun _ => ?_)
      refine And.intro (fun _ => law_righted X Kt Mt Dv hwf h9 hl hi H) (fun _ => ?_)
      refine And.intro (fun _ => law_settled X Kt Mt Dv hwf h9 hl hi H) (fun _ => ?_)
      refine And.intro (fun _ => law_compounded X Kt Mt Dv hwf h9 hl hi H) (fun _ => ?_)
      refine And.intro (fun _ => law_ideal X Kt Mt Dv hwf h9 hl hi H) (fun _ => ?_)
      refine And.intro (fun _ => law_planned X Kt Mt Dv hwf h9 hl hi H) (fun _ => ?_)
      refine And.intro (fun _ => law_plan X Kt Mt Dv hwf h9 hl hi H) (fun _ => ?_)
      refine And.intro (fun _ => law_left X Kt Mt Dv hwf h9 hl hi H) (fun _ => ?_)
      refine And.intro (fun _ => law_gone X Kt Mt Dv hwf h9 hl hi H) (fun _ => ?_)
      refine And.intro (fun _ => law_oldest X Kt Mt Dv hwf h9 hl hi H) (fun _ => ?_)
      refine And.intro (fun _ => law_pay X Kt Mt Dv hwf h9 hl hi H) (fun _ => ?_)
      refine And.intro (fun _ => law_draw X Kt Mt Dv hwf h9 hl hi H) (fun _ => ?_)
      refine And.intro (fun _ => law_reverse X Kt Mt Dv hwf h9 hl hi H) (fun _ => ?_)
      refine And.intro (fun _ => law_change X Kt Mt Dv hwf h9 hl hi H) (fun _ => ?_)
      refine And.intro (fun _ => law_close X Kt Mt Dv hwf h9 hl hi H) (fun _ => ?_)
      refine And.intro (fun _ => law_rerun X Kt Mt Dv hwf h9 hl hi H) (fun _ => ?_)
      refine And.intro (fun _ => law_image X Kt Mt Dv hwf h9 hl hi H) (fun _ => ?_)
      refine And.intro (fun _ => law_back X Kt Mt Dv hwf h9 hl hi H) (fun _ => ?_)
      refine And.intro (fun _ => law_undo X Kt Mt Dv hwf h9 hl hi H) (fun _ => ?_)
      refine And.intro (fun _ => law_anew X Kt Mt Dv hwf h9 hl hi H) (fun _ => ?_)
      refine X 3 _ _ _ _ _ _ _ _ _ ?_
      exact H _ _ _ _ _ D hwf Kt Mt Dv rfl rfl
