/-! contracts: questions of range (written by wip/whole/gc1.py) -/
theorem c_isDay {J : mJ} (X : mRules J) {I A : mI} {B : mB} {w f : Nat} {R : mR} {d : Int32} {D : Nat} (hb : D < 2 ^ 31) (hD : I 16 4 * I 16 5 = nI D) (h1 : ∀ k, k < D → d = nI k → R (some (.int 1)) I A B (pk w f)) (h0 : (∀ k, k < D → d ≠ nI k) → R (some (.int 0)) I A B (pk w f)) : J n_Ledger_isDay 0 [.ref 16, .int d] [] I A B (pk w f) R := by
  refine X 200 _ _ _ _ _ _ _ _ _ ?_
  refine And.intro (fun q1 => ?_) (fun q1 => ?_)
  · refine And.intro (Or.inl rfl) ?_
    first | exact h0 (ix_no1 hb q1) | (rw [hD] at q2; exact h0 (ix_no2 hb q2)) | (rw [hD] at q2; obtain ⟨k, hk, e⟩ := ix_in hb q1 q2; exact h1 k hk e)
  · refine And.intro (fun q2 => ?_) (fun q2 => ?_)
    · refine And.intro (Or.inl rfl) ?_
      first | exact h0 (ix_no1 hb q1) | (rw [hD] at q2; exact h0 (ix_no2 hb q2)) | (rw [hD] at q2; obtain ⟨k, hk, e⟩ := ix_in hb q1 q2; exact h1 k hk e)
    · refine And.intro (Or.inr rfl) ?_
      first | exact h0 (ix_no1 hb q1) | (rw [hD] at q2; exact h0 (ix_no2 hb q2)) | (rw [hD] at q2; obtain ⟨k, hk, e⟩ := ix_in hb q1 q2; exact h1 k hk e)
theorem c_isPeriod {J : mJ} (X : mRules J) {I A : mI} {B : mB} {w f : Nat} {R : mR} {d : Int32} {D : Nat} (hb : D < 2 ^ 31) (hD : I 16 5 = nI D) (h1 : ∀ k, k < D → d = nI k → R (some (.int 1)) I A B (pk w f)) (h0 : (∀ k, k < D → d ≠ nI k) → R (some (.int 0)) I A B (pk w f)) : J n_Ledger_isPeriod 0 [.ref 16, .int d] [] I A B (pk w f) R := by
  refine X 200 _ _ _ _ _ _ _ _ _ ?_
  refine And.intro (fun q1 => ?_) (fun q1 => ?_)
  · refine And.intro (Or.inl rfl) ?_
    first | exact h0 (ix_no1 hb q1) | (rw [hD] at q2; exact h0 (ix_no2 hb q2)) | (rw [hD] at q2; obtain ⟨k, hk, e⟩ := ix_in hb q1 q2; exact h1 k hk e)
  · refine And.intro (fun q2 => ?_) (fun q2 => ?_)
    · refine And.intro (Or.inl rfl) ?_
      first | exact h0 (ix_no1 hb q1) | (rw [hD] at q2; exact h0 (ix_no2 hb q2)) | (rw [hD] at q2; obtain ⟨k, hk, e⟩ := ix_in hb q1 q2; exact h1 k hk e)
    · refine And.intro (Or.inr rfl) ?_
      first | exact h0 (ix_no1 hb q1) | (rw [hD] at q2; exact h0 (ix_no2 hb q2)) | (rw [hD] at q2; obtain ⟨k, hk, e⟩ := ix_in hb q1 q2; exact h1 k hk e)
theorem c_isClosed {J : mJ} (X : mRules J) {I A : mI} {B : mB} {w f : Nat} {R : mR} {d : Int32} {D : Nat} (hb : D < 2 ^ 31) (hD : I 16 7 = nI D) (h1 : ∀ k, k < D → d = nI k → R (some (.int 1)) I A B (pk w f)) (h0 : (∀ k, k < D → d ≠ nI k) → R (some (.int 0)) I A B (pk w f)) : J n_Ledger_isClosed 0 [.ref 16, .int d] [] I A B (pk w f) R := by
  refine X 200 _ _ _ _ _ _ _ _ _ ?_
  refine And.intro (fun q1 => ?_) (fun q1 => ?_)
  · refine And.intro (Or.inl rfl) ?_
    first | exact h0 (ix_no1 hb q1) | (rw [hD] at q2; exact h0 (ix_no2 hb q2)) | (rw [hD] at q2; obtain ⟨k, hk, e⟩ := ix_in hb q1 q2; exact h1 k hk e)
  · refine And.intro (fun q2 => ?_) (fun q2 => ?_)
    · refine And.intro (Or.inl rfl) ?_
      first | exact h0 (ix_no1 hb q1) | (rw [hD] at q2; exact h0 (ix_no2 hb q2)) | (rw [hD] at q2; obtain ⟨k, hk, e⟩ := ix_in hb q1 q2; exact h1 k hk e)
    · refine And.intro (Or.inr rfl) ?_
      first | exact h0 (ix_no1 hb q1) | (rw [hD] at q2; exact h0 (ix_no2 hb q2)) | (rw [hD] at q2; obtain ⟨k, hk, e⟩ := ix_in hb q1 q2; exact h1 k hk e)
theorem c_isTier {J : mJ} (X : mRules J) {I A : mI} {B : mB} {w f : Nat} {R : mR} {d : Int32} {D : Nat} (hb : D < 2 ^ 31) (hD : I 17 4 = nI D) (h1 : ∀ k, k < D → d = nI k → R (some (.int 1)) I A B (pk w f)) (h0 : (∀ k, k < D → d ≠ nI k) → R (some (.int 0)) I A B (pk w f)) : J n_Terms_isTier 0 [.ref 17, .int d] [] I A B (pk w f) R := by
  refine X 200 _ _ _ _ _ _ _ _ _ ?_
  refine And.intro (fun q1 => ?_) (fun q1 => ?_)
  · refine And.intro (Or.inl rfl) ?_
    first | exact h0 (ix_no1 hb q1) | (rw [hD] at q2; exact h0 (ix_no2 hb q2)) | (rw [hD] at q2; obtain ⟨k, hk, e⟩ := ix_in hb q1 q2; exact h1 k hk e)
  · refine And.intro (fun q2 => ?_) (fun q2 => ?_)
    · refine And.intro (Or.inl rfl) ?_
      first | exact h0 (ix_no1 hb q1) | (rw [hD] at q2; exact h0 (ix_no2 hb q2)) | (rw [hD] at q2; obtain ⟨k, hk, e⟩ := ix_in hb q1 q2; exact h1 k hk e)
    · refine And.intro (Or.inr rfl) ?_
      first | exact h0 (ix_no1 hb q1) | (rw [hD] at q2; exact h0 (ix_no2 hb q2)) | (rw [hD] at q2; obtain ⟨k, hk, e⟩ := ix_in hb q1 q2; exact h1 k hk e)
theorem c_has {J : mJ} (X : mRules J) {I A : mI} {B : mB} {w f : Nat} {R : mR} {d : Int32} {D : Nat} (hb : D < 2 ^ 31) (hD : I 29 6 = nI D) (h1 : ∀ k, k < D → d = nI k → R (some (.int 1)) I A B (pk w f)) (h0 : (∀ k, k < D → d ≠ nI k) → R (some (.int 0)) I A B (pk w f)) : J n_Entries_has 0 [.ref 29, .int d] [] I A B (pk w f) R := by
  refine X 200 _ _ _ _ _ _ _ _ _ ?_
  refine And.intro (fun q1 => ?_) (fun q1 => ?_)
  · refine And.intro (Or.inl rfl) ?_
    first | exact h0 (ix_no1 hb q1) | (rw [hD] at q2; exact h0 (ix_no2 hb q2)) | (rw [hD] at q2; obtain ⟨k, hk, e⟩ := ix_in hb q1 q2; exact h1 k hk e)
  · refine And.intro (fun q2 => ?_) (fun q2 => ?_)
    · refine And.intro (Or.inl rfl) ?_
      first | exact h0 (ix_no1 hb q1) | (rw [hD] at q2; exact h0 (ix_no2 hb q2)) | (rw [hD] at q2; obtain ⟨k, hk, e⟩ := ix_in hb q1 q2; exact h1 k hk e)
    · refine And.intro (Or.inr rfl) ?_
      first | exact h0 (ix_no1 hb q1) | (rw [hD] at q2; exact h0 (ix_no2 hb q2)) | (rw [hD] at q2; obtain ⟨k, hk, e⟩ := ix_in hb q1 q2; exact h1 k hk e)
theorem c_hasOpen {J : mJ} (X : mRules J) {I A : mI} {B : mB} {w f : Nat} {R : mR} (h1 : I 16 7 < I 16 5 → R (some (.int 1)) I A B (pk w f)) (h0 : ¬ I 16 7 < I 16 5 → R (some (.int 0)) I A B (pk w f)) : J n_Ledger_hasOpen 0 [.ref 16] [] I A B (pk w f) R := by
  refine X 200 _ _ _ _ _ _ _ _ _ ?_
  refine And.intro (fun q1 => ?_) (fun q1 => ?_)
  · refine And.intro (Or.inl rfl) ?_
    first | exact h0 (Int32.not_lt.mpr q1) | exact h1 (Int32.not_le.mp q1)
  · refine And.intro (Or.inr rfl) ?_
    first | exact h0 (Int32.not_lt.mpr q1) | exact h1 (Int32.not_le.mp q1)
theorem c_isBetween {J : mJ} (X : mRules J) {I A : mI} {B : mB} {w f : Nat} {R : mR} {n lo hi : Int32} (h1 : lo ≤ n → n ≤ hi → R (some (.int 1)) I A B (pk w f)) (h0 : ¬ (lo ≤ n ∧ n ≤ hi) → R (some (.int 0)) I A B (pk w f)) : J n_V_isBetween 0 [.int n, .int lo, .int hi] [] I A B (pk w f) R := by
  refine X 200 _ _ _ _ _ _ _ _ _ ?_
  refine And.intro (fun q1 => ?_) (fun q1 => ?_)
  · refine And.intro (Or.inl rfl) ?_
    first | exact h0 (fun z => Int32.not_lt.mpr z.1 q1) | exact h0 (fun z => Int32.not_lt.mpr z.2 q2) | exact h1 (Int32.not_lt.mp q1) (Int32.not_lt.mp q2)
  · refine And.intro (fun q2 => ?_) (fun q2 => ?_)
    · refine And.intro (Or.inl rfl) ?_
      first | exact h0 (fun z => Int32.not_lt.mpr z.1 q1) | exact h0 (fun z => Int32.not_lt.mpr z.2 q2) | exact h1 (Int32.not_lt.mp q1) (Int32.not_lt.mp q2)
    · refine And.intro (Or.inr rfl) ?_
      first | exact h0 (fun z => Int32.not_lt.mpr z.1 q1) | exact h0 (fun z => Int32.not_lt.mpr z.2 q2) | exact h1 (Int32.not_lt.mp q1) (Int32.not_lt.mp q2)
theorem c_noBook {J : mJ} (X : mRules J) {I A : mI} {B : mB} {w f : Nat} {R : mR} (h1 : I 7 1 = 0 → R (some (.int 1)) I A B (pk w f)) (h0 : ¬ I 7 1 = 0 → R (some (.int 0)) I A B (pk w f)) : J n_V_noBook 0 [.ref 0] [] I A B (pk w f) R := by
  refine X 200 _ _ _ _ _ _ _ _ _ ?_
  refine And.intro (fun q1 => ?_) (fun q1 => ?_)
  · refine And.intro (Or.inl rfl) ?_
    first | exact h1 q1 | exact h0 q1
  · refine And.intro (Or.inr rfl) ?_
    first | exact h1 q1 | exact h0 q1
theorem c_isFull {J : mJ} (X : mRules J) {I A : mI} {B : mB} {w f : Nat} {R : mR} (h1 : 20 ≤ I 7 2 → R (some (.int 1)) I A B (pk w f)) (h0 : ¬ 20 ≤ I 7 2 → R (some (.int 0)) I A B (pk w f)) : J n_Script_isFull 0 [.ref 7] [] I A B (pk w f) R := by
  refine X 200 _ _ _ _ _ _ _ _ _ ?_
  refine And.intro (fun q1 => ?_) (fun q1 => ?_)
  · refine And.intro (Or.inl rfl) ?_
    first | exact h0 (Int32.not_le.mpr q1) | exact h1 (Int32.not_lt.mp q1)
  · refine And.intro (Or.inr rfl) ?_
    first | exact h0 (Int32.not_le.mpr q1) | exact h1 (Int32.not_lt.mp q1)
theorem c_hasRoom {J : mJ} (X : mRules J) {I A : mI} {B : mB} {w f : Nat} {R : mR} {n : Int32} (h1 : I 1 1 + n ≤ 900 → R (some (.int 1)) I A B (pk w f)) (h0 : ¬ I 1 1 + n ≤ 900 → R (some (.int 0)) I A B (pk w f)) : J n_Tape_hasRoom 0 [.ref 1, .int n] [] I A B (pk w f) R := by
  refine X 200 _ _ _ _ _ _ _ _ _ ?_
  refine And.intro (fun q1 => ?_) (fun q1 => ?_)
  · refine And.intro (Or.inl rfl) ?_
    first | exact h0 (Int32.not_le.mpr q1) | exact h1 (Int32.not_lt.mp q1)
  · refine And.intro (Or.inr rfl) ?_
    first | exact h0 (Int32.not_le.mpr q1) | exact h1 (Int32.not_lt.mp q1)
theorem c_Min {J : mJ} (X : mRules J) {I A : mI} {B : mB} {w f : Nat} {R : mR} {v lo hi : Int64} (h1 : lo ≤ v → v ≤ hi → R (some (.int 1)) I A B (pk w f)) (h0 : ¬ (lo ≤ v ∧ v ≤ hi) → R (some (.int 0)) I A B (pk w f)) : J n_M_in 0 [.long v, .float 0, .long lo, .float 0, .long hi, .float 0] [] I A B (pk w f) R := by
  refine X 200 _ _ _ _ _ _ _ _ _ ?_
  refine And.intro (fun q1 => ?_) (fun q1 => ?_)
  · refine And.intro (Or.inl rfl) ?_
    first | exact h0 (fun z => Int64.not_lt.mpr z.1 q1) | exact h0 (fun z => Int64.not_lt.mpr z.2 q2) | exact h1 (Int64.not_lt.mp q1) (Int64.not_lt.mp q2)
  · refine And.intro (fun q2 => ?_) (fun q2 => ?_)
    · refine And.intro (Or.inl rfl) ?_
      first | exact h0 (fun z => Int64.not_lt.mpr z.1 q1) | exact h0 (fun z => Int64.not_lt.mpr z.2 q2) | exact h1 (Int64.not_lt.mp q1) (Int64.not_lt.mp q2)
    · refine And.intro (Or.inr rfl) ?_
      first | exact h0 (fun z => Int64.not_lt.mpr z.1 q1) | exact h0 (fun z => Int64.not_lt.mpr z.2 q2) | exact h1 (Int64.not_lt.mp q1) (Int64.not_lt.mp q2)
theorem c_MisBook {J : mJ} (X : mRules J) {I A : mI} {B : mB} {w f : Nat} {R : mR} {z : Nat} (hw : ash w = some (0, 606)) (h1 : 0 < A w 3 → R (some (.int 1)) I A B (pk w f)) (h0 : ¬ 0 < A w 3 → R (some (.int 0)) I A B (pk w f)) : J n_M_isBook 0 [.ref 43] [] I A B (pk w f) R := by
  refine X 200 _ _ _ _ _ _ _ _ _ ?_
  refine Exists.intro _ (And.intro hw (And.intro (vlit rfl) ?_))
  refine And.intro (fun q1 => ?_) (fun q1 => ?_)
  · refine And.intro (Or.inl rfl) ?_
    first | exact h0 (Int32.not_lt.mpr q1) | exact h1 (Int32.not_le.mp q1)
  · refine And.intro (Or.inr rfl) ?_
    first | exact h0 (Int32.not_lt.mpr q1) | exact h1 (Int32.not_le.mp q1)
