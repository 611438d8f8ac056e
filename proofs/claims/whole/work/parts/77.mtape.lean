/-! contracts of the reference: the tape; the tape cut (written by wip/whole/gm13.py) -/
set_option maxRecDepth 20000 in
theorem r_feed {J : mJ} (X : mRules J) {I A : mI} {B : mB} {w f : Nat} {R : mR} {n : Nat} (hl0 : I 43 26 = nI n) (hn : n ≤ 900) {x1 x2 x3 x4 x5 : Int32} (h0 : 900 < n + 20 → R (some (.int (-1))) I A B (pk w f)) (h : n + 20 ≤ 900 → ∀ A', (∀ q, q ≠ 60 → q ≠ 61 → A' q = A q) → (∀ z, z < n ∨ n + 20 ≤ z → A' 60 z = A 60 z) → (∀ i : Nat, i < 20 → A' 60 (n + i) = bt (fv5 x1 x2 x3 x4 x5 (i / 4)) (zN (24 - 8 * ((i % 4 : Nat) : Int)))) → R (some (.int (nI (n + 20)))) (up2 I 43 26 (I 43 26 + 20)) A' B (pk w f)) : J n_M_feed 0 [.ref 43, .int x1, .int x2, .int x3, .int x4, .int x5, .float 0] [] I A B (pk w f) R := by
  have eh : I 43 26 + 20 = nI (n + 20) := by rw [hl0]; exact nI_add n 20
  have G0 : n + 20 ≤ 900 → ∀ i : Nat, i ≤ 20 → ∀ (x : Int32) (Av : mI), x = nI i → (∀ q, q ≠ 60 → q ≠ 61 → Av q = A q) → (∀ k, k < 5 → Av 61 k = fv5 x1 x2 x3 x4 x5 k) → (∀ z, z < n ∨ n + 20 ≤ z → Av 60 z = A 60 z) → (∀ j : Nat, j < i → Av 60 (n + j) = bt (fv5 x1 x2 x3 x4 x5 (j / 4)) (zN (24 - 8 * ((j % 4 : Nat) : Int)))) → J n_M_feed 55 [.ref 43, .int x1, .int x2, .int x3, .int x4, .int x5, .int x] [] I Av B (pk w f) R := by
    intro hr
    have G9 : ∀ i : Nat, i ≤ 20 → ∀ (x : Int32) (Av : mI), x = nI i → (∀ q, q ≠ 60 → q ≠ 61 → Av q = A q) → (∀ k, k < 5 → Av 61 k = fv5 x1 x2 x3 x4 x5 k) → (∀ z, z < n ∨ n + 20 ≤ z → Av 60 z = A 60 z) → (∀ j : Nat, j < i → Av 60 (n + j) = bt (fv5 x1 x2 x3 x4 x5 (j / 4)) (zN (24 - 8 * ((j % 4 : Nat) : Int)))) → J n_M_feed 55 [.ref 43, .int x1, .int x2, .int x3, .int x4, .int x5, .int x] [] I Av B (pk w f) R := by
      refine lpz (fun i => ∀ (x : Int32) (Av : mI), x = nI i → (∀ q, q ≠ 60 → q ≠ 61 → Av q = A q) → (∀ k, k < 5 → Av 61 k = fv5 x1 x2 x3 x4 x5 k) → (∀ z, z < n ∨ n + 20 ≤ z → Av 60 z = A 60 z) → (∀ j : Nat, j < i → Av 60 (n + j) = bt (fv5 x1 x2 x3 x4 x5 (j / 4)) (zN (24 - 8 * ((j % 4 : Nat) : Int)))) → J n_M_feed 55 [.ref 43, .int x1, .int x2, .int x3, .int x4, .int x5, .int x] [] I Av B (pk w f) R) (fun i hi ih => ?_)
      intro x Av ex hq h61 ho hb
      subst ex
      refine X 200 _ _ _ _ _ _ _ _ _ ?_
      refine And.intro (fun q1 => ?_) (fun q1 => ?_)
      · have e : i = 20 := by have := (nI_leI (a := 20) (by omega) (by omega)).mp q1; omega
        subst e
        have h2 := h hr Av hq ho hb
        rw [show nI (n + 20) = I 43 26 + 20 by rw [hl0]; exact (nI_add n 20).symm] at h2
        exact h2
      · have hl : i < 20 := Nat.lt_of_not_le (fun z => q1 (nI_le (a := 20) z (by omega)))
        have ei : I 43 26 + nI i = nI (n + i) := by rw [hl0, nI_add]
        have ci : (I 43 26 + nI i).toNatClampNeg = n + i := by rw [ei]; exact cl (by omega)
        have ed : nI i / (4 : Int32) = nI (i / 4) := pk_div (d := 4) (by omega) (by omega) (by omega)
        have cd : (nI i / (4 : Int32)).toNatClampNeg = i / 4 := by rw [ed]; exact cl (by omega)
        have er : nI i - nI i / (4 : Int32) * 4 = nI (i % 4) := pk_rem (d := 4) (by omega) (by omega) (by omega)
        have es : (24 : Int32) - 8 * (nI i - nI i / (4 : Int32) * 4) = zN (24 - 8 * ((i % 4 : Nat) : Int)) := by
          rw [er, nI_z]
          show zN 24 - zN 8 * zN ((i % 4 : Nat) : Int) = zN (24 - 8 * ((i % 4 : Nat) : Int))
          exact ((Int32.ofInt_sub _ _).trans (congrArg (fun z => Int32.ofInt 24 - z) (Int32.ofInt_mul _ _))).symm
        refine And.intro (by decide) ?_
        refine Exists.intro _ (And.intro rfl (And.intro (by first | (rw [ei]; exact vin (by omega) (by omega)) | (rw [ed]; exact vin (by omega) (by omega))) ?_))
        refine And.intro (by decide) ?_
        refine Exists.intro _ (Exists.intro _ (And.intro rfl (And.intro (Or.inl (And.intro rfl (byt8 _))) (And.intro (by first | (rw [ei]; exact vin (by omega) (by omega)) | (rw [ed]; exact vin (by omega) (by omega))) ?_))))
        exact ih hl _ _ (nI_1 i) (fun q a1 a2 => by rw [up2_r a1]; exact hq q a1 a2) (fun k hk => by rw [up2_n (by decide)]; exact h61 k hk) (fun z hz => by
          rw [ci, up2_m (by omega)]
          exact ho z hz) (fun j hj => by
          rw [ci]
          by_cases e : j = i
          · subst e
            rw [up2_s, cd, h61 _ (by omega), es]
            rfl
          · rw [up2_m (by omega)]
            exact hb j (by omega))
    exact G9
  refine X 200 _ _ _ _ _ _ _ _ _ ?_
  refine And.intro (fun q1 => ?_) (fun q1 => ?_)
  · refine Exists.intro _ (And.intro rfl (And.intro (vlit rfl) ?_))
    refine Exists.intro _ (And.intro rfl (And.intro (vlit rfl) ?_))
    refine Exists.intro _ (And.intro rfl (And.intro (vlit rfl) ?_))
    refine Exists.intro _ (And.intro rfl (And.intro (vlit rfl) ?_))
    refine Exists.intro _ (And.intro rfl (And.intro (vlit rfl) ?_))
    have hr : n + 20 ≤ 900 := by rw [eh] at q1; exact (nI_leI (b := 900) (by omega) (by omega)).mp q1
    refine G0 hr 0 (Nat.zero_le _) _ _ rfl (fun q a1 a2 => ?_) (fun k hk => ?_) (fun z hz => rfl) (fun j hj => absurd hj (Nat.not_lt_zero j))
    · rw [up2_r a2, up2_r a2, up2_r a2, up2_r a2, up2_r a2]
    · have hk2 : k = 0 ∨ k = 1 ∨ k = 2 ∨ k = 3 ∨ k = 4 := by omega
      rcases hk2 with e | e | e | e | e <;> subst e <;> rfl
  · exact h0 (Nat.lt_of_not_le (fun z => q1 (by rw [eh]; exact nI_le (b := 900) z (by omega))))
set_option maxRecDepth 20000 in
theorem r_end {J : mJ} (X : mRules J) {I A : mI} {B : mB} {w f : Nat} {R : mR} {n : Nat} (hl0 : I 43 26 = nI n) (hn : n ≤ 900) {x : Int32} (h0 : (∀ k, k < n + 1 → x ≠ nI k) → R (some (.int (-1))) I A B (pk w f)) (h : ∀ k, k < n + 1 → x = nI k → R (some (.int x)) (up2 I 43 26 x) A B (pk w f)) : J n_M_end 0 [.ref 43, .int x] [] I A B (pk w f) R := by
  refine X 200 _ _ _ _ _ _ _ _ _ ?_
  refine c_MinK X (n + 1) (by rw [hl0, nI_pred]) (by omega) (fun k0 hk ek => ?_) (fun zk => ?_)
  · refine And.intro (fun _ => ?_) (fun q => absurd q (by decide))
    exact h k0 hk ek
  · refine And.intro (fun q => absurd (by decide) q) (fun _ => ?_)
    exact h0 zk
set_option maxRecDepth 20000 in
theorem k_end {J : mJ} (X : mRules J) {I A : mI} {B : mB} {w f : Nat} {R : mR} {n : Nat} (hl0 : I 1 1 = nI n) (hn : n ≤ 900) {x : Int32} (h0 : (∀ k, k < n + 1 → x ≠ nI k) → R (some (.int (-1))) I A B (pk w f)) (h : ∀ k, k < n + 1 → x = nI k → R (some (.int x)) (up2 I 1 1 x) A B (pk w f)) : J n_V_end 0 [.ref 0, .int x] [] I A B (pk w f) R := by
  refine X 200 _ _ _ _ _ _ _ _ _ ?_
  refine And.intro (fun q1 => ?_) (fun q1 => ?_)
  · have zk : ∀ k, k < n + 1 → x ≠ nI k := fun k hk e => by rw [e] at q1; exact nI_pos (by omega) q1
    exact h0 zk
  · refine And.intro (fun q2 => ?_) (fun q2 => ?_)
    · obtain ⟨k0, hk0, ek⟩ := nI_of q1
      have hk : k0 < n + 1 := by rw [ek, hl0] at q2; have := (nI_leI (by omega) (by omega)).mp q2; omega
      refine And.intro (fun q3 => ?_) (fun q3 => ?_)
      · exact absurd q3 q1 --end
      · refine And.intro (fun q4 => ?_) (fun q4 => ?_)
        · exact absurd q2 (fun z => by rw [hl0, ek] at z; rw [hl0, ek] at q4; exact absurd q4 (nI_nlt (by omega) (by omega))) --end
        · exact h k0 hk ek
    · have zk : ∀ k, k < n + 1 → x ≠ nI k := fun k hk e => by rw [e, hl0] at q2; exact q2 (nI_le (by omega) (by omega))
      exact h0 zk
