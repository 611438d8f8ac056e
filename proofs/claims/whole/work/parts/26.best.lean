/-! contracts: the best day, the mean (written by wip/whole/gc10.py) -/
theorem nm1 {a : Nat} (h : a < 2 ^ 31) : nI a - 1 < nI a := by
  cases a with
  | zero => decide
  | succ a => rw [nI_pred]; exact nI_lt (by omega) h
theorem dwe {a n i : Nat} (h : i < n) : nI (a + (n - i)) - 1 = nI (a + (n - (i + 1))) := by
  rw [show a + (n - i) = a + (n - (i + 1)) + 1 by omega, nI_pred]
theorem dwx {a n i : Nat} (hi : i ≤ n) (hb : a + n < 2 ^ 31) (h : nI (a + (n - i)) - 1 < nI a) : i = n := by
  rcases Nat.lt_or_ge i n with z | z
  · rw [dwe z] at h
    exact absurd h (nI_nlt (by omega) (by omega))
  · omega
theorem dwc {a n i : Nat} (hi : i ≤ n) (hb : a + n < 2 ^ 31) (h : ¬ nI (a + (n - i)) - 1 < nI a) : i < n := by
  rcases Nat.lt_or_ge i n with z | z
  · exact z
  · rw [show i = n by omega, Nat.sub_self] at h
    exact absurd (nm1 (by omega)) h
theorem dwm {x : Int32} : x + (-1) = x - 1 := (Int32.sub_eq_add_neg x 1).symm
/-- a period's days from its last on: products, the most so far, its day -/
def dmI (A : mI) (B : mB) (nt : Nat) (am gb w0 : Int64) (lo P : Nat) (s0 : Int64 × Int64 × Int32) : Nat → Int64 × Int64 × Int32
  | 0 => s0
  | j + 1 => if (dmI A B nt am gb w0 lo P s0 j).2.2 = -1 ∨ (dmI A B nt am gb w0 lo P s0 j).2.1 ≤ gb + nea ((dmI A B nt am gb w0 lo P s0 j).1 + (prd A nt (lo + (P - (j + 1))) (B 37 (lo + (P - (j + 1))) + am) - prd A nt (lo + (P - (j + 1))) (B 37 (lo + (P - (j + 1)))))) - w0
    then ((dmI A B nt am gb w0 lo P s0 j).1 + (prd A nt (lo + (P - (j + 1))) (B 37 (lo + (P - (j + 1))) + am) - prd A nt (lo + (P - (j + 1))) (B 37 (lo + (P - (j + 1))))), gb + nea ((dmI A B nt am gb w0 lo P s0 j).1 + (prd A nt (lo + (P - (j + 1))) (B 37 (lo + (P - (j + 1))) + am) - prd A nt (lo + (P - (j + 1))) (B 37 (lo + (P - (j + 1)))))) - w0, nI (lo + (P - (j + 1))))
    else ((dmI A B nt am gb w0 lo P s0 j).1 + (prd A nt (lo + (P - (j + 1))) (B 37 (lo + (P - (j + 1))) + am) - prd A nt (lo + (P - (j + 1))) (B 37 (lo + (P - (j + 1))))), (dmI A B nt am gb w0 lo P s0 j).2.1, (dmI A B nt am gb w0 lo P s0 j).2.2)
/-- all periods from the last on: the gain of those behind, the most so far, its day -/
def dmO (A : mI) (B : mB) (nt : Nat) (am : Int64) (P N : Nat) : Nat → Int64 × Int64 × Int32
  | 0 => (0, 0, -1)
  | i + 1 => ((dmO A B nt am P N i).1 + (nea (dmI A B nt am (dmO A B nt am P N i).1 (nea (pds A B nt 37 P (N - (i + 1)) 0 0)) ((N - (i + 1)) * P) P (pds A B nt 37 P (N - (i + 1)) 0 0, (dmO A B nt am P N i).2) P).1 - nea (pds A B nt 37 P (N - (i + 1)) 0 0)), (dmI A B nt am (dmO A B nt am P N i).1 (nea (pds A B nt 37 P (N - (i + 1)) 0 0)) ((N - (i + 1)) * P) P (pds A B nt 37 P (N - (i + 1)) 0 0, (dmO A B nt am P N i).2) P).2)
set_option maxRecDepth 20000 in
theorem c_dayOfMost {J : mJ} (X : mRules J) {I A : mI} {B : mB} {w f : Nat} {R : mR} {nt P N : Nat} (hnt : nt ≤ 4) (hI : I 17 4 = nI nt) (hP : I 16 4 = nI P) (hN : I 16 5 = nI N) (hb : N * P ≤ 320) (hN8 : N ≤ 320) {n : Nat} (hn : n ≤ 220) (hz : I 29 6 = nI n) {D : Nat} (hD : I 16 4 * I 16 5 = nI D) (hDb : D ≤ 320) {vn : Nat → Nat} (hvn : ∀ j, j < n → A 32 j = nI (vn j) ∧ vn j < 2 ^ 20) {xe : Int32} {e0 : Nat} (exe : xe = nI e0) (he : e0 < n) (h : R (some (.int (dmO A (wob A B vn D e0) nt (B 31 e0) P N N).2.2)) I A (wob A B vn D e0) (pk w f)) : J n_WhatIf_dayOfMost 0 [.ref 39, .int xe, .float 0, .float 0, .float 0, .float 0, .float 0, .float 0, .float 0, .float 0, .float 0, .float 0, .float 0, .float 0, .float 0, .float 0, .float 0, .float 0, .float 0, .float 0] [] I A B (pk w f) R := by
  generalize eam : B 31 e0 = am at h
  generalize eBw : wob A B vn D e0 = Bw at h
  have G : ∀ i, i ≤ N → ∀ (gb : Int64) (mo : Int64) (be : Int32) (x : Int32) (v1 : Value) (v2 : Value) (v3 : Value) (v4 : Value) (v5 : Value) (v6 : Value), gb = (dmO A Bw nt am P N i).1 → mo = (dmO A Bw nt am P N i).2.1 → be = (dmO A Bw nt am P N i).2.2 → x = nI (0 + (N - i)) - 1 → J n_WhatIf_dayOfMost 57 [.ref 39, .int xe, .long am, .float 0, .ref 37, .long gb, .float 0, .long mo, .float 0, .int be, .int x, v1, v2, v3, .float 0, v4, .float 0, v5, v6, .float 0] [] I A Bw (pk w f) R := by
    refine lpz (fun i => ∀ (gb : Int64) (mo : Int64) (be : Int32) (x : Int32) (v1 : Value) (v2 : Value) (v3 : Value) (v4 : Value) (v5 : Value) (v6 : Value), gb = (dmO A Bw nt am P N i).1 → mo = (dmO A Bw nt am P N i).2.1 → be = (dmO A Bw nt am P N i).2.2 → x = nI (0 + (N - i)) - 1 → J n_WhatIf_dayOfMost 57 [.ref 39, .int xe, .long am, .float 0, .ref 37, .long gb, .float 0, .long mo, .float 0, .int be, .int x, v1, v2, v3, .float 0, v4, .float 0, v5, v6, .float 0] [] I A Bw (pk w f) R) (fun i hi ih => ?_)
    intro gb mo be x v1 v2 v3 v4 v5 v6 egb emo ebe ex
    subst egb; subst emo; subst ebe
    refine X 200 _ _ _ _ _ _ _ _ _ ?_
    refine And.intro (fun q1 => ?_) (fun q1 => ?_)
    · rw [ex] at q1
      have e := dwx (a := 0) hi (by omega) q1
      subst e
      exact h
    · rw [ex] at q1
      have hl := dwc (a := 0) hi (by omega) q1
      have ex2 : x = nI (N - (i + 1)) := (ex.trans (dwe hl)).trans (by rw [Nat.zero_add])
      subst ex2
      have hm : (N - (i + 1)) * P + P ≤ 320 := by have := Nat.mul_le_mul_right P (show N - (i + 1) + 1 ≤ N by omega); rw [Nat.add_mul, Nat.one_mul] at this; omega
      have Gj : ∀ j, j ≤ P → ∀ (pr : Int64) (mo : Int64) (be : Int32) (x : Int32) (v : Value), pr = (dmI A Bw nt am (dmO A Bw nt am P N i).1 (nea (pds A Bw nt 37 P (N - (i + 1)) 0 0)) ((N - (i + 1)) * P) P (pds A Bw nt 37 P (N - (i + 1)) 0 0, (dmO A Bw nt am P N i).2) j).1 → mo = (dmI A Bw nt am (dmO A Bw nt am P N i).1 (nea (pds A Bw nt 37 P (N - (i + 1)) 0 0)) ((N - (i + 1)) * P) P (pds A Bw nt 37 P (N - (i + 1)) 0 0, (dmO A Bw nt am P N i).2) j).2.1 → be = (dmI A Bw nt am (dmO A Bw nt am P N i).1 (nea (pds A Bw nt 37 P (N - (i + 1)) 0 0)) ((N - (i + 1)) * P) P (pds A Bw nt 37 P (N - (i + 1)) 0 0, (dmO A Bw nt am P N i).2) j).2.2 → x = nI ((N - (i + 1)) * P + (P - j)) - 1 → J n_WhatIf_dayOfMost 123 [.ref 39, .int xe, .long am, .float 0, .ref 37, .long (dmO A Bw nt am P N i).1, .float 0, .long mo, .float 0, .int be, .int (nI (N - (i + 1))), .int (nI ((N - (i + 1)) * P)), .int (nI ((N - (i + 1)) * P + P)), .long pr, .float 0, .long (nea (pds A Bw nt 37 P (N - (i + 1)) 0 0)), .float 0, .int x, v, .float 0] [] I A Bw (pk w f) R := by
        refine lpz (fun j => ∀ (pr : Int64) (mo : Int64) (be : Int32) (x : Int32) (v : Value), pr = (dmI A Bw nt am (dmO A Bw nt am P N i).1 (nea (pds A Bw nt 37 P (N - (i + 1)) 0 0)) ((N - (i + 1)) * P) P (pds A Bw nt 37 P (N - (i + 1)) 0 0, (dmO A Bw nt am P N i).2) j).1 → mo = (dmI A Bw nt am (dmO A Bw nt am P N i).1 (nea (pds A Bw nt 37 P (N - (i + 1)) 0 0)) ((N - (i + 1)) * P) P (pds A Bw nt 37 P (N - (i + 1)) 0 0, (dmO A Bw nt am P N i).2) j).2.1 → be = (dmI A Bw nt am (dmO A Bw nt am P N i).1 (nea (pds A Bw nt 37 P (N - (i + 1)) 0 0)) ((N - (i + 1)) * P) P (pds A Bw nt 37 P (N - (i + 1)) 0 0, (dmO A Bw nt am P N i).2) j).2.2 → x = nI ((N - (i + 1)) * P + (P - j)) - 1 → J n_WhatIf_dayOfMost 123 [.ref 39, .int xe, .long am, .float 0, .ref 37, .long (dmO A Bw nt am P N i).1, .float 0, .long mo, .float 0, .int be, .int (nI (N - (i + 1))), .int (nI ((N - (i + 1)) * P)), .int (nI ((N - (i + 1)) * P + P)), .long pr, .float 0, .long (nea (pds A Bw nt 37 P (N - (i + 1)) 0 0)), .float 0, .int x, v, .float 0] [] I A Bw (pk w f) R) (fun j hij ihj => ?_)
        intro pr mo be x v epr emo ebe ex
        subst epr; subst emo; subst ebe
        refine X 200 _ _ _ _ _ _ _ _ _ ?_
        refine And.intro (fun q1 => ?_) (fun q1 => ?_)
        · rw [ex] at q1
          have ej := dwx hij (by omega) q1
          subst ej
          refine c_nearest X ?_
          exact ih hl _ _ _ _ _ _ _ _ _ _ rfl rfl rfl (by rw [Nat.zero_add]; exact dwm)
        · rw [ex] at q1
          have hlj := dwc hij (by omega) q1
          have ex2 := ex.trans (dwe hlj)
          subst ex2
          have hdd : ((N - (i + 1)) * P + (P - (j + 1))) < 320 := by omega
          have hde : 0 ≤ ((N - (i + 1)) * P + (P - (j + 1))) := Nat.zero_le _
          refine Exists.intro _ (And.intro rfl (And.intro (vin (by omega) (by omega)) ?_))
          refine c_credit X (d := ((N - (i + 1)) * P + (P - (j + 1)))) rfl (by omega) hnt hI ?_
          refine And.intro (fun q2 => ?_) (fun q2 => ?_)
          · exact absurd q2 (nI_pos (by omega)) --end
          · refine And.intro (fun q3 => ?_) (fun q3 => ?_)
            · refine Exists.intro _ (Exists.intro _ (Exists.intro _ (And.intro rfl (And.intro (vlit rfl) ?_))))
              refine Exists.intro _ (And.intro rfl (And.intro (vin (by omega) (by omega)) ?_))
              refine c_debtBy X (d := ((N - (i + 1)) * P + (P - (j + 1)))) rfl (by omega) ?_
              refine Exists.intro _ (And.intro rfl (And.intro (vin (by omega) (by omega)) ?_))
              refine c_credit X (d := ((N - (i + 1)) * P + (P - (j + 1)))) rfl (by omega) hnt hI ?_
              refine And.intro (fun q4 => ?_) (fun q4 => ?_)
              · exact absurd q4 (nI_pos (by omega)) --end
              · refine And.intro (fun q5 => ?_) (fun q5 => ?_)
                · refine Exists.intro _ (Exists.intro _ (Exists.intro _ (And.intro rfl (And.intro (vlit rfl) ?_))))
                  refine Exists.intro _ (And.intro rfl (And.intro (vin (by omega) (by omega)) ?_))
                  refine c_debtBy X (d := ((N - (i + 1)) * P + (P - (j + 1)))) rfl (by omega) ?_
                  refine c_nearest X ?_
                  refine And.intro (fun q6 => ?_) (fun q6 => ?_)
                  · have c1 : (nI ((N - (i + 1)) * P + (P - (j + 1)))).toNatClampNeg = ((N - (i + 1)) * P + (P - (j + 1))) := cl (by omega)
                    have e2 : dmI A Bw nt am (dmO A Bw nt am P N i).1 (nea (pds A Bw nt 37 P (N - (i + 1)) 0 0)) ((N - (i + 1)) * P) P (pds A Bw nt 37 P (N - (i + 1)) 0 0, (dmO A Bw nt am P N i).2) (j + 1) = _ := if_pos (Or.inl q6)
                    have hdm : nI ((N - (i + 1)) * P + (P - (j + 1))) + (-1) = nI ((N - (i + 1)) * P + (P - (j + 1))) - 1 := dwm
                    exact ihj hlj _ _ _ _ _ (by first | (rw [e2, c1] <;> rfl) | (rw [e2] <;> rfl)) (by first | (rw [e2, c1] <;> rfl) | (rw [e2] <;> rfl)) (by rw [e2] <;> rfl) hdm
                  · refine And.intro (fun q7 => ?_) (fun q7 => ?_)
                    · have c1 : (nI ((N - (i + 1)) * P + (P - (j + 1)))).toNatClampNeg = ((N - (i + 1)) * P + (P - (j + 1))) := cl (by omega)
                      simp only [c1] at q7
                      have e2 : dmI A Bw nt am (dmO A Bw nt am P N i).1 (nea (pds A Bw nt 37 P (N - (i + 1)) 0 0)) ((N - (i + 1)) * P) P (pds A Bw nt 37 P (N - (i + 1)) 0 0, (dmO A Bw nt am P N i).2) (j + 1) = _ := if_neg (fun z => z.elim q6 (Int64.not_le.mpr q7))
                      have hdm : nI ((N - (i + 1)) * P + (P - (j + 1))) + (-1) = nI ((N - (i + 1)) * P + (P - (j + 1))) - 1 := dwm
                      exact ihj hlj _ _ _ _ _ (by first | (rw [e2, c1] <;> rfl) | (rw [e2] <;> rfl)) (by first | (rw [e2, c1] <;> rfl) | (rw [e2] <;> rfl)) (by rw [e2] <;> rfl) hdm
                    · have c1 : (nI ((N - (i + 1)) * P + (P - (j + 1)))).toNatClampNeg = ((N - (i + 1)) * P + (P - (j + 1))) := cl (by omega)
                      simp only [c1] at q7
                      have e2 : dmI A Bw nt am (dmO A Bw nt am P N i).1 (nea (pds A Bw nt 37 P (N - (i + 1)) 0 0)) ((N - (i + 1)) * P) P (pds A Bw nt 37 P (N - (i + 1)) 0 0, (dmO A Bw nt am P N i).2) (j + 1) = _ := if_pos (Or.inr (Int64.not_lt.mp q7))
                      have hdm : nI ((N - (i + 1)) * P + (P - (j + 1))) + (-1) = nI ((N - (i + 1)) * P + (P - (j + 1))) - 1 := dwm
                      exact ihj hlj _ _ _ _ _ (by first | (rw [e2, c1] <;> rfl) | (rw [e2] <;> rfl)) (by first | (rw [e2, c1] <;> rfl) | (rw [e2] <;> rfl)) (by rw [e2] <;> rfl) hdm
                · exact absurd (nI_lt (b := 320) (by omega) (by omega)) q5 --end
            · exact absurd (nI_lt (b := 320) (by omega) (by omega)) q3 --end
      have hgo := True.intro
      refine Exists.intro _ (Exists.intro _ (And.intro rfl ?_))
      refine c_productsOf37 X hnt hI hP (p := N - (i + 1)) rfl hm ?_
      refine c_nearest X ?_
      have f1 : (if (0 : Int32) < nI (N - (i + 1)) * I 16 4 then nI (N - (i + 1)) * I 16 4 else 0) = nI ((N - (i + 1)) * P) := by rw [hP, pk_mul]; exact nmax (by omega)
      have f2 : (if nI ((N - (i + 1)) * P) + I 16 4 < Int32.ofNat 320 then nI ((N - (i + 1)) * P) + I 16 4 else Int32.ofNat 320) = nI ((N - (i + 1)) * P + P) := by rw [hP, nI_add]; exact nmin hm
      rw [f1, f2]
      exact Gj 0 (Nat.zero_le _) _ _ _ _ v6 rfl rfl rfl rfl
  refine X 200 _ _ _ _ _ _ _ _ _ ?_
  refine c_amountOf X hn hz (i := e0) exe he ?_
  refine Exists.intro 1 (Exists.intro 320 (Exists.intro 320 (And.intro rfl (And.intro rfl (And.intro (Or.inr rfl) (And.intro (by decide) (And.intro (by decide) (And.intro (by decide) (And.intro (by decide) (And.intro (by decide) (And.intro (fun z => absurd z (by decide)) (fun _ => ?_))))))))))))
  refine c_valueOf X hn hz (i := e0) exe he ?_
  refine c_shift37 X (v := vn e0) hD hDb (hvn e0 he).1 (hvn e0 he).2 ?_
  subst eam
  subst eBw
  exact G 0 (Nat.zero_le _) _ _ _ _ _ _ _ _ _ _ rfl rfl rfl (by rw [hN, Nat.zero_add]; rfl)
/-- the greatest one up to k, of those that do; 1 at least -/
def cdv (c : Nat → Bool) : Nat → Nat
  | 0 => 1
  | k + 1 => if 1 < k + 1 ∧ c (k + 1) = true then k + 1 else cdv c k
theorem cdv_1 {c : Nat → Bool} : ∀ {k : Nat}, k ≤ 1 → cdv c k = 1
  | 0, _ => rfl
  | k + 1, h => by
    rw [cdv, if_neg (by omega), cdv_1 (by omega)]
theorem lnz {k : Nat} (h0 : 0 < k) (h : k < 2 ^ 31) : ¬ (nI k).toInt64 = 0 := fun e => by
  rw [nI_l h] at e
  have := congrArg Int64.toInt e
  rw [pk_lT (by omega)] at this
  have h2 : (0 : Int64).toInt = 0 := rfl
  rw [h2] at this
  omega
set_option maxRecDepth 20000 in
theorem c_commonDivisor {J : mJ} (X : mRules J) {I A : mI} {B : mB} {w f : Nat} {R : mR} {s : Int64} {P : Nat} (hP : I 16 4 = nI P) (hPb : P < 2 ^ 20) (h : R (some (.int (nI (cdv (fun k => decide (P % k = 0 ∧ s - s / (nI k).toInt64 * (nI k).toInt64 = 0)) P)))) I A B (pk w f)) : J n_Course_commonDivisor 0 [.ref 38, .long s, .float 0, .float 0] [] I A B (pk w f) R := by
  have G : ∀ k i, i + k = P → ∀ (x : Int32), x = nI k → R (some (.int (nI (cdv (fun k => decide (P % k = 0 ∧ s - s / (nI k).toInt64 * (nI k).toInt64 = 0)) k)))) I A B (pk w f) → J n_Course_commonDivisor 8 [.ref 38, .long s, .float 0, .int x] [] I A B (pk w f) R := by
    refine lpk (fun i k => ∀ (x : Int32), x = nI k → R (some (.int (nI (cdv (fun k => decide (P % k = 0 ∧ s - s / (nI k).toInt64 * (nI k).toInt64 = 0)) k)))) I A B (pk w f) → J n_Course_commonDivisor 8 [.ref 38, .long s, .float 0, .int x] [] I A B (pk w f) R) (fun i k hi ih => ?_)
    intro x ex hr
    subst ex
    refine X 200 _ _ _ _ _ _ _ _ _ ?_
    refine And.intro (fun q1 => ?_) (fun q1 => ?_)
    · have hk1 : k ≤ 1 := (nI_leI (a := k) (b := 1) (by omega) (by omega)).mp q1
      rw [cdv_1 hk1] at hr
      exact hr
    · have hk1 : 1 < k := Nat.lt_of_not_le (fun z => q1 (nI_le (a := k) (b := 1) z (by omega)))
      obtain ⟨k, rfl⟩ : ∃ k0, k = k0 + 1 := ⟨k - 1, by omega⟩
      have hrem : I 16 4 - I 16 4 / nI (k + 1) * nI (k + 1) = nI (P % (k + 1)) := by rw [hP]; exact pk_rem (by omega) (by omega) (by omega)
      refine And.intro (by first | exact nI_ne0 (by omega) (by omega) | exact lnz (by omega) (by omega)) ?_
      refine And.intro (fun q2 => ?_) (fun q2 => ?_)
      · rw [hrem] at q2
        have e : cdv (fun k => decide (P % k = 0 ∧ s - s / (nI k).toInt64 * (nI k).toInt64 = 0)) (k + 1) = cdv (fun k => decide (P % k = 0 ∧ s - s / (nI k).toInt64 * (nI k).toInt64 = 0)) k := by
          rw [cdv, if_neg (fun z => absurd (of_decide_eq_true z.2) (fun z => q2 (by rw [z.1]; rfl)))]
        rw [e] at hr
        exact ih k rfl _ (by rw [dwm, nI_pred]) hr
      · rw [hrem] at q2
        have hz2 : P % (k + 1) = 0 := by
          have hml : P % (k + 1) < k + 1 := Nat.mod_lt _ (by omega)
          exact (nI_eq (a := P % (k + 1)) (b := 0) (by omega) (by omega)).mp q2
        refine And.intro (by first | exact nI_ne0 (by omega) (by omega) | exact lnz (by omega) (by omega)) ?_
        refine And.intro (fun q3 => ?_) (fun q3 => ?_)
        · have e : cdv (fun k => decide (P % k = 0 ∧ s - s / (nI k).toInt64 * (nI k).toInt64 = 0)) (k + 1) = cdv (fun k => decide (P % k = 0 ∧ s - s / (nI k).toInt64 * (nI k).toInt64 = 0)) k := by
            rw [cdv, if_neg (fun z => absurd (of_decide_eq_true z.2) (fun z => q3 z.2))]
          rw [e] at hr
          exact ih k rfl _ (by rw [dwm, nI_pred]) hr
        · rw [cdv, if_pos ⟨hk1, decide_eq_true ⟨hz2, q3⟩⟩] at hr
          exact hr
  refine X 200 _ _ _ _ _ _ _ _ _ ?_
  exact G P 0 (Nat.zero_add P) _ hP h
