/-! contracts of the reference: images (written by wip/whole/gm12.py) -/
set_option maxRecDepth 20000 in
theorem r_image {J : mJ} (X : mRules J) {I A : mI} {B : mB} {w f : Nat} {R : mR} {a : Ac} (M : MR a w I A B) {bk : Bool} (hbk : 0 < A w 3 ↔ bk = true) {xx : Int32} (hn : ((∀ k, k < 3 → xx ≠ nI k) ∨ bk = false) → R (some (.int (-2))) I A B (pk w f)) (h : ∀ k0, xx = nI k0 → k0 < 3 → bk = true → ∀ A', (∀ q, q ≠ 46 → q ≠ 47 → A' q = A q) → (∀ j, j < 606 → A' 46 (606 * k0 + j) = A w j) → (∀ z, z < 606 * k0 ∨ 606 * k0 + 606 ≤ z → A' 46 z = A 46 z) → A' 47 k0 = 1 → (∀ z, z ≠ k0 → A' 47 z = A 47 z) → R (some (.int 0)) I A' B (pk w f)) : J n_M_image 0 [.ref 43, .int xx, .float 0] [] I A B (pk w f) R := by
  have h5 := M.w5
  have G0 : ∀ k0, k0 < 3 → (∀ A', (∀ q, q ≠ 46 → q ≠ 47 → A' q = A q) → (∀ j, j < 606 → A' 46 (606 * k0 + j) = A w j) → (∀ z, z < 606 * k0 ∨ 606 * k0 + 606 ≤ z → A' 46 z = A 46 z) → A' 47 k0 = 1 → (∀ z, z ≠ k0 → A' 47 z = A 47 z) → R (some (.int 0)) I A' B (pk w f)) → ∀ i, i ≤ 606 → ∀ (x : Int32) (Av : mI), x = nI i → (∀ q, q ≠ 46 → Av q = A q) → (∀ j, j < i → Av 46 (606 * k0 + j) = A w j) → (∀ z, z < 606 * k0 ∨ 606 * k0 + 606 ≤ z → Av 46 z = A 46 z) → J n_M_image 24 [.ref 43, .int (nI k0), .int x] [] I Av B (pk w f) R := by
    intro k0 hk hf
    have G9 : ∀ i, i ≤ 606 → ∀ (x : Int32) (Av : mI), x = nI i → (∀ q, q ≠ 46 → Av q = A q) → (∀ j, j < i → Av 46 (606 * k0 + j) = A w j) → (∀ z, z < 606 * k0 ∨ 606 * k0 + 606 ≤ z → Av 46 z = A 46 z) → J n_M_image 24 [.ref 43, .int (nI k0), .int x] [] I Av B (pk w f) R := by
      refine lpz (fun i => ∀ (x : Int32) (Av : mI), x = nI i → (∀ q, q ≠ 46 → Av q = A q) → (∀ j, j < i → Av 46 (606 * k0 + j) = A w j) → (∀ z, z < 606 * k0 ∨ 606 * k0 + 606 ≤ z → Av 46 z = A 46 z) → J n_M_image 24 [.ref 43, .int (nI k0), .int x] [] I Av B (pk w f) R) (fun i hi ih => ?_)
      intro x Av ex hq h1 h2
      subst ex
      refine X 200 _ _ _ _ _ _ _ _ _ ?_
      refine And.intro (fun q1 => ?_) (fun q1 => ?_)
      · have e : i = 606 := by have := (nI_leI (a := 606) (by omega) (by omega)).mp q1; omega
        subst e
        refine Exists.intro _ (Exists.intro _ (And.intro rfl (And.intro (Or.inr (And.intro rfl (Or.inr rfl))) (And.intro (by first | exact vin (by omega) (by omega) | (rw [ea]; exact vin (by omega) (by omega))) ?_))))
        exact hf _ (fun q a1 a2 => by rw [up2_r a2]; exact hq q a1) (fun j hj => by rw [up2_n (by decide)]; exact h1 j hj) (fun z hz => by rw [up2_n (by decide)]; exact h2 z hz) (by rw [cl (by omega)]; exact up2_s) (fun z hz => by rw [cl (by omega), up2_m hz]; rw [hq 47 (by decide)])
      · have hl : i < 606 := Nat.lt_of_not_le (fun z => q1 (nI_le (a := 606) z (by omega)))
        have hb31 : (nI i).toNatClampNeg = i := cl (by omega)
        have ea : (606 : Int32) * nI k0 + nI i = nI (606 * k0 + i) := by rw [show (606 : Int32) * nI k0 = nI (606 * k0) from pk_mul 606 k0, nI_add]
        have ca : ((606 : Int32) * nI k0 + nI i).toNatClampNeg = 606 * k0 + i := by rw [ea]; exact cl (by omega)
        refine Exists.intro _ (And.intro M.hw (And.intro (by first | exact vin (by omega) (by omega) | (rw [ea]; exact vin (by omega) (by omega))) ?_))
        refine Exists.intro _ (And.intro rfl (And.intro (by first | exact vin (by omega) (by omega) | (rw [ea]; exact vin (by omega) (by omega))) ?_))
        exact ih hl _ _ (nI_1 i) (fun q hz => by rw [up2_r hz]; exact hq q hz) (fun j hj => by
          rw [ca, hb31]
          by_cases e : j = i
          · subst e
            rw [up2_s, hq w (by omega)]
          · rw [up2_m (by omega)]
            exact h1 j (by omega)) (fun z hz => by
          rw [ca, up2_m (by omega)]
          exact h2 z hz)
    exact G9
  refine X 200 _ _ _ _ _ _ _ _ _ ?_
  refine c_MinK X 3 (by decide) (by decide) (fun k0 hk ek => ?_) (fun zk => ?_)
  · subst ek
    refine And.intro (fun q => absurd q (by decide)) (fun _ => ?_)
    refine c_MisBk X M.hw hbk (fun zb => ?_) (fun zb => ?_)
    · subst zb
      refine And.intro (fun _ => ?_) (fun q => absurd q (by decide))
      exact G0 k0 hk (h k0 rfl hk rfl) 0 (Nat.zero_le _) _ _ rfl (fun _ _ => rfl) (fun j hj => absurd hj (Nat.not_lt_zero j)) (fun _ _ => rfl)
    · subst zb
      refine And.intro (fun q => absurd (by decide) q) (fun _ => ?_)
      exact hn (Or.inr rfl)
  · refine And.intro (fun _ => ?_) (fun q => absurd (by decide) q)
    exact hn (Or.inl zk)
theorem fA.wq {w : Nat} {I A A' : mI} {B : mB} (h5 : w = 44 ∨ w = 45) (h : ∀ q, q ≠ w → A' q = A q) : fA w I A B I A' B := ⟨fun k hk => ⟨rfl, h k (by omega), rfl⟩, fun _ _ _ _ _ _ _ _ _ => rfl, fun r hn _ => h r hn⟩
set_option maxRecDepth 20000 in
theorem r_back {J : mJ} (X : mRules J) {I A : mI} {B : mB} {w f : Nat} {R : mR} {a : Ac} (M : MR a w I A B) (n1 : a.ti = none) (n2 : a.fo = none) {xx : Int32} (hn : (∀ k, k < 3 → xx ≠ nI k) → R (some (.int (-2))) I A B (pk w f)) (h6' : ∀ k0, xx = nI k0 → k0 < 3 → A 47 k0 = 0 → R (some (.int (-6))) I A B (pk w f)) (h : ∀ k0, xx = nI k0 → k0 < 3 → ¬ A 47 k0 = 0 → ∃ P N K L T m rw, WdR 0 (blk A k0) L T m rw ∧ m ≤ 100 ∧ A 46 (606 * k0 + 0) = nI P ∧ A 46 (606 * k0 + 1) = nI N ∧ (0 < N → A 46 (606 * k0 + 2) = nI K) ∧ Rp P N K rw m ∧ qY P N K L T m rw w f I A B R (.int 0)) : J n_M_back 0 [.ref 43, .int xx, .float 0] [] I A B (pk w f) R := by
  have h5 := M.w5
  have h6 : w = 44 ∨ w = 45 ∨ w = 46 ∨ w = 47 ∨ w = 60 := by omega
  have G0 : ∀ k0, k0 < 3 → ∀ (P N K L T m : Nat) (rw : Nat → Rw), WdR 0 (blk A k0) L T m rw → m ≤ 100 → A 46 (606 * k0 + 0) = nI P → A 46 (606 * k0 + 1) = nI N → (0 < N → A 46 (606 * k0 + 2) = nI K) → Rp P N K rw m → qY P N K L T m rw w f I A B R (.int 0) → ∀ i, i ≤ 606 → ∀ (x : Int32) (Av : mI), x = nI i → (∀ q, q ≠ w → Av q = A q) → (∀ j, j < i → Av w j = A 46 (606 * k0 + j)) → J n_M_back 29 [.ref 43, .int (nI k0), .int x] [] I Av B (pk w f) R := by
    intro k0 hk P N K L T m rw W hm0 hP hN hK Q hf
    have hm : m ≤ 119 := by omega
    have G9 : ∀ i, i ≤ 606 → ∀ (x : Int32) (Av : mI), x = nI i → (∀ q, q ≠ w → Av q = A q) → (∀ j, j < i → Av w j = A 46 (606 * k0 + j)) → J n_M_back 29 [.ref 43, .int (nI k0), .int x] [] I Av B (pk w f) R := by
      refine lpz (fun i => ∀ (x : Int32) (Av : mI), x = nI i → (∀ q, q ≠ w → Av q = A q) → (∀ j, j < i → Av w j = A 46 (606 * k0 + j)) → J n_M_back 29 [.ref 43, .int (nI k0), .int x] [] I Av B (pk w f) R) (fun i hi ih => ?_)
      intro x Av ex hq h1
      subst ex
      refine X 200 _ _ _ _ _ _ _ _ _ ?_
      refine And.intro (fun q1 => ?_) (fun q1 => ?_)
      · have e : i = 606 := by have := (nI_leI (a := 606) (by omega) (by omega)).mp q1; omega
        subst e
        have W1 : WdR w Av L T m rw := W.cp (w' := w) (A' := Av) hm h1
        have M1 := M.sw (A' := Av) (P := P) (N := N) (K := K) hq ((h1 0 (by decide)).trans hP) ((h1 1 (by decide)).trans hN) (fun z => (h1 2 (by decide)).trans (hK z))
        refine c_Mda X M1 (P := P) (N := N) (K := K) ⟨rfl, rfl, rfl, n1, n2⟩ W1 (by omega) Q (fun I1 A1 B1 M2 f1 => ?_)
        exact hf _ _ _ M2 (W1.fr (f1.row w h6)) ((fA.wq h5 hq).trans f1.fA)
      · have hl : i < 606 := Nat.lt_of_not_le (fun z => q1 (nI_le (a := 606) z (by omega)))
        have hb31 : (nI i).toNatClampNeg = i := cl (by omega)
        have ea : (606 : Int32) * nI k0 + nI i = nI (606 * k0 + i) := by rw [show (606 : Int32) * nI k0 = nI (606 * k0) from pk_mul 606 k0, nI_add]
        have ca : ((606 : Int32) * nI k0 + nI i).toNatClampNeg = 606 * k0 + i := by rw [ea]; exact cl (by omega)
        refine Exists.intro _ (And.intro rfl (And.intro (by first | exact vin (by omega) (by omega) | (rw [ea]; exact vin (by omega) (by omega))) ?_))
        refine Exists.intro _ (And.intro M.hw (And.intro (by first | exact vin (by omega) (by omega) | (rw [ea]; exact vin (by omega) (by omega))) ?_))
        exact ih hl _ _ (nI_1 i) (fun q hz => by rw [up2_r hz]; exact hq q hz) (fun j hj => by
          rw [hb31, ca]
          by_cases e : j = i
          · subst e
            rw [up2_s, hq 46 (by omega)]
          · rw [up2_m (by omega)]
            exact h1 j (by omega))
    exact G9
  refine X 200 _ _ _ _ _ _ _ _ _ ?_
  refine c_MinK X 3 (by decide) (by decide) (fun k0 hk ek => ?_) (fun zk => ?_)
  · subst ek
    refine And.intro (fun _ => ?_) (fun q => absurd q (by decide))
    refine Exists.intro _ (Exists.intro _ (And.intro rfl (And.intro (Or.inr rfl) (And.intro (vin (by omega) (by omega)) ?_))))
    refine And.intro (fun q1 => ?_) (fun q1 => ?_)
    · obtain ⟨P, N, K, L, T, m, rw, W, hm0, hP, hN, hK, Q, hf⟩ := h k0 rfl hk (by rw [cl (by omega)] at q1; exact q1)
      exact G0 k0 hk P N K L T m rw W hm0 hP hN hK Q hf 0 (Nat.zero_le _) _ _ rfl (fun _ _ => rfl) (fun j hj => absurd hj (Nat.not_lt_zero j))
    · exact h6' k0 rfl hk (by rw [cl (by omega)] at q1; exact q1)
  · refine And.intro (fun q => absurd (by decide) q) (fun _ => ?_)
    exact hn zk
