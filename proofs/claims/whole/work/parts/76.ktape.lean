/-! contracts of the class: the tape (written by wip/whole/gk10.py) -/
def bt (x s : Int32) : Int32 := (x >>> (s &&& 31)).toInt8.toInt32
theorem byt8 (y : Int32) : y.toInt8.toInt32 = y.toInt8.toInt32.toInt8.toInt32 := by simp
def fv5 (x1 x2 x3 x4 x5 : Int32) (k : Nat) : Int32 := if k = 0 then x1 else if k = 1 then x2 else if k = 2 then x3 else if k = 3 then x4 else x5
set_option maxRecDepth 20000 in
theorem c_addNumber {J : mJ} (X : mRules J) {I A : mI} {B : mB} {w f : Nat} {R : mR} {n : Nat} (hn : n + 4 ≤ 900) (hl0 : I 1 1 = nI n) {x : Int32} (h : ∀ I' A', (∀ k j, ¬ (k = 1 ∧ j = 1) → I' k j = I k j) → I' 1 1 = nI (n + 4) → (∀ q, q ≠ 2 → A' q = A q) → (∀ z, z < n ∨ n + 4 ≤ z → A' 2 z = A 2 z) → (∀ j : Nat, j < 4 → A' 2 (n + j) = bt x (zN (24 - 8 * (j : Int)))) → R none I' A' B (pk w f)) : J n_Tape_addNumber 0 [.ref 1, .int x, .float 0] [] I A B (pk w f) R := by
  have G : ∀ i : Nat, i ≤ 4 → ∀ (s : Int32) (Iv : mI) (Av : mI), s = zN (24 - 8 * (i : Int)) → (∀ k j, ¬ (k = 1 ∧ j = 1) → Iv k j = I k j) → Iv 1 1 = nI (n + i) → (∀ q, q ≠ 2 → Av q = A q) → (∀ z, z < n ∨ n + 4 ≤ z → Av 2 z = A 2 z) → (∀ j : Nat, j < i → Av 2 (n + j) = bt x (zN (24 - 8 * (j : Int)))) → J n_Tape_addNumber 3 [.ref 1, .int x, .int s] [] Iv Av B (pk w f) R := by
    refine lpz (fun i => ∀ (s : Int32) (Iv : mI) (Av : mI), s = zN (24 - 8 * (i : Int)) → (∀ k j, ¬ (k = 1 ∧ j = 1) → Iv k j = I k j) → Iv 1 1 = nI (n + i) → (∀ q, q ≠ 2 → Av q = A q) → (∀ z, z < n ∨ n + 4 ≤ z → Av 2 z = A 2 z) → (∀ j : Nat, j < i → Av 2 (n + j) = bt x (zN (24 - 8 * (j : Int)))) → J n_Tape_addNumber 3 [.ref 1, .int x, .int s] [] Iv Av B (pk w f) R) (fun i hi ih => ?_)
    intro s Iv Av es hI h11 hq ho hb
    subst es
    refine X 200 _ _ _ _ _ _ _ _ _ ?_
    refine And.intro (fun q1 => ?_) (fun q1 => ?_)
    · have e : i = 4 := by have := (zn_lt (y := 0) (by omega) (by omega) (by omega) (by omega)).mp q1; omega
      subst e
      exact h _ _ hI h11 hq ho hb
    · have hl : i < 4 := by
        have : ¬ (24 - 8 * (i : Int) < 0) := fun z => q1 ((zn_lt (y := 0) (by omega) (by omega) (by omega) (by omega)).mpr z)
        omega
      have cb : (Iv 1 1).toNatClampNeg = n + i := by rw [h11]; exact cl (by omega)
      refine And.intro (fun q2 => ?_) (fun q2 => ?_)
      · rw [h11] at q2
        exact absurd q2 (nI_ge (b := 900) (by omega) (by omega)) --end
      · refine Exists.intro _ (Exists.intro _ (And.intro rfl (And.intro (Or.inl (And.intro rfl (byt8 _))) (And.intro (by rw [h11]; exact vin (by omega) (by omega)) ?_))))
        exact ih hl _ _ _ (by
          show zN (24 - 8 * (i : Int)) + zN (-8) = zN (24 - 8 * ((i + 1 : Nat) : Int))
          rw [show (24 - 8 * ((i + 1 : Nat) : Int)) = (24 - 8 * (i : Int)) + (-8) by omega]
          exact (Int32.ofInt_add _ _).symm) (fun k j hk => by
          rw [show up2 Iv 1 1 (Iv 1 1 + 1) k j = Iv k j from if_neg hk]
          exact hI k j hk) (by rw [up2_s, h11]; exact nI_1 _) (fun q hz => by rw [up2_r hz]; exact hq q hz) (fun z hz => by
          rw [cb, up2_m (by omega)]
          exact ho z hz) (fun j hj => by
          rw [cb]
          by_cases e : j = i
          · subst e
            rw [up2_s]
            rfl
          · rw [up2_m (by omega)]
            exact hb j (by omega))
  refine X 200 _ _ _ _ _ _ _ _ _ ?_
  exact G 0 (Nat.zero_le _) _ _ _ rfl (fun _ _ _ => rfl) hl0 (fun _ _ => rfl) (fun _ _ => rfl) (fun j hj => absurd hj (Nat.not_lt_zero j))
theorem c_hasRm {J : mJ} (X : mRules J) {I A : mI} {B : mB} {w f : Nat} {R : mR} {x : Int32} (h1 : I 1 1 + x ≤ 900 → R (some (.int 1)) I A B (pk w f)) (h0 : ¬ I 1 1 + x ≤ 900 → R (some (.int 0)) I A B (pk w f)) : J n_Tape_hasRoom 0 [.ref 1, .int x] [] I A B (pk w f) R := by
  refine X 200 _ _ _ _ _ _ _ _ _ ?_
  refine And.intro (fun q1 => ?_) (fun q1 => ?_)
  · refine And.intro (Or.inl rfl) ?_
    first | exact h1 q1 | exact h0 q1 | exact h1 (Int32.not_lt.mp q1) | exact h0 (Int32.not_le.mpr q1)
  · refine And.intro (Or.inr rfl) ?_
    first | exact h1 q1 | exact h0 q1 | exact h1 (Int32.not_lt.mp q1) | exact h0 (Int32.not_le.mpr q1)
set_option maxRecDepth 20000 in
theorem k_feed {J : mJ} (X : mRules J) {I A : mI} {B : mB} {w f : Nat} {R : mR} {n : Nat} (hl : I 1 1 = nI n) (hn : n ≤ 900) {x1 x2 x3 x4 x5 : Int32} (h0 : 900 < n + 20 → R (some (.int (-1))) I A B (pk w f)) (h : n + 20 ≤ 900 → ∀ I' A', (∀ k j, ¬ (k = 1 ∧ j = 1) → I' k j = I k j) → I' 1 1 = nI (n + 20) → (∀ q, q ≠ 2 → A' q = A q) → (∀ z, z < n ∨ n + 20 ≤ z → A' 2 z = A 2 z) → (∀ i : Nat, i < 20 → A' 2 (n + i) = bt (fv5 x1 x2 x3 x4 x5 (i / 4)) (zN (24 - 8 * ((i % 4 : Nat) : Int)))) → R (some (.int (nI (n + 20)))) I' A' B (pk w f)) : J n_V_feed 0 [.ref 0, .int x1, .int x2, .int x3, .int x4, .int x5] [] I A B (pk w f) R := by
  refine X 200 _ _ _ _ _ _ _ _ _ ?_
  have eh : I 1 1 + 20 = nI (n + 20) := by rw [hl]; exact nI_add n 20
  refine c_hasRm X (fun zr => ?_) (fun zr => ?_)
  · have hr : n + 20 ≤ 900 := by rw [eh] at zr; exact (nI_leI (b := 900) (by omega) (by omega)).mp zr
    refine And.intro (fun _ => ?_) (fun q => absurd q (by decide))
    refine c_addNumber X (n := n + 0) (by omega) hl (fun I1 A1 hI1 hl1 hq1 ho1 hb1 => ?_)
    refine c_addNumber X (n := n + 4) (by omega) hl1 (fun I2 A2 hI2 hl2 hq2 ho2 hb2 => ?_)
    refine c_addNumber X (n := n + 8) (by omega) hl2 (fun I3 A3 hI3 hl3 hq3 ho3 hb3 => ?_)
    refine c_addNumber X (n := n + 12) (by omega) hl3 (fun I4 A4 hI4 hl4 hq4 ho4 hb4 => ?_)
    refine c_addNumber X (n := n + 16) (by omega) hl4 (fun I5 A5 hI5 hl5 hq5 ho5 hb5 => ?_)
    have h2 := h hr I5 A5 (fun k j hk => by rw [hI5 k j hk, hI4 k j hk, hI3 k j hk, hI2 k j hk, hI1 k j hk]) hl5 (fun q hz => by rw [hq5 q hz, hq4 q hz, hq3 q hz, hq2 q hz, hq1 q hz]) (fun z hz => by rw [ho5 z (by omega), ho4 z (by omega), ho3 z (by omega), ho2 z (by omega), ho1 z (by omega)]) (fun i hi => by
      by_cases c1 : i < 4
      · rw [ho5 _ (by omega), ho4 _ (by omega), ho3 _ (by omega), ho2 _ (by omega), show i / 4 = 0 by omega, show i % 4 = i by omega]
        exact hb1 i c1
      by_cases c2 : i < 8
      · rw [ho5 _ (by omega), ho4 _ (by omega), ho3 _ (by omega), show i / 4 = 1 by omega, show i % 4 = i - 4 by omega, show n + i = n + 4 + (i - 4) by omega]
        exact hb2 (i - 4) (by omega)
      by_cases c3 : i < 12
      · rw [ho5 _ (by omega), ho4 _ (by omega), show i / 4 = 2 by omega, show i % 4 = i - 8 by omega, show n + i = n + 8 + (i - 8) by omega]
        exact hb3 (i - 8) (by omega)
      by_cases c4 : i < 16
      · rw [ho5 _ (by omega), show i / 4 = 3 by omega, show i % 4 = i - 12 by omega, show n + i = n + 12 + (i - 12) by omega]
        exact hb4 (i - 12) (by omega)
      · rw [show i / 4 = 4 by omega, show i % 4 = i - 16 by omega, show n + i = n + 16 + (i - 16) by omega]
        exact hb5 (i - 16) (by omega))
    rw [show nI (n + 20) = I5 1 1 from hl5.symm] at h2
    exact h2
  · have hr : 900 < n + 20 := Nat.lt_of_not_le (fun z => zr (by rw [eh]; exact nI_le (b := 900) z (by omega)))
    refine And.intro (fun q => absurd (by decide) q) (fun _ => ?_)
    exact h0 hr
