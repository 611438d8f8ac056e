/-! contracts: loops over entries (written by wip/whole/gc2.py) -/
theorem c_isInt {J : mJ} (X : mRules J) {I A : mI} {B : mB} {w f : Nat} {R : mR} {n i : Nat} (hn : n ≤ 220) (hl : i < n) (hz : I 29 6 = nI n) (h1 : (A 30 i = 1 ∨ A 30 i = 2) → R (some (.int 1)) I A B (pk w f)) (h0 : ¬ (A 30 i = 1 ∨ A 30 i = 2) → R (some (.int 0)) I A B (pk w f)) : J n_Entries_isInterest 0 [.ref 29, .int (nI i)] [] I A B (pk w f) R := by
  refine X 200 _ _ _ _ _ _ _ _ _ ?_
  refine c_has X (by omega) hz (fun k hk e => ?_) (fun z => absurd rfl (z i hl))
  refine And.intro (fun q => absurd q (by decide)) (fun _ => ?_)
  refine Exists.intro _ (And.intro rfl (And.intro (vin (show i < 220 by omega) (by omega)) ?_))
  refine And.intro (fun q1 => ?_) (fun q1 => ?_)
  · refine And.intro (Or.inr rfl) ?_
    try rw [cl (by omega)] at q1
    try rw [cl (by omega)] at q2
    first | exact h1 (Or.inl q1) | exact h1 (Or.inr q2) | exact h0 (fun z => z.elim q1 q2)
  · refine Exists.intro _ (And.intro rfl (And.intro (vin (show i < 220 by omega) (by omega)) ?_))
    refine And.intro (fun q2 => ?_) (fun q2 => ?_)
    · refine And.intro (Or.inl rfl) ?_
      try rw [cl (by omega)] at q1
      try rw [cl (by omega)] at q2
      first | exact h1 (Or.inl q1) | exact h1 (Or.inr q2) | exact h0 (fun z => z.elim q1 q2)
    · refine And.intro (Or.inr rfl) ?_
      try rw [cl (by omega)] at q1
      try rw [cl (by omega)] at q2
      first | exact h1 (Or.inl q1) | exact h1 (Or.inr q2) | exact h0 (fun z => z.elim q1 q2)
theorem c_sum {J : mJ} (X : mRules J) {I A : mI} {B : mB} {w f : Nat} {R : mR} {n : Nat} (hn : n ≤ 220) (hz : I 29 6 = nI n)  (h : R (some (.long (sm (fun j => B 31 j) n))) I A B (pk w f)) : J n_Entries_sum 0 [.ref 29, .float 0, .float 0, .float 0] [] I A B (pk w f) R := by
  have hn31 : n < 2 ^ 31 := by omega
  have G : ∀ i, i ≤ n → ∀ (s : Int64) (x : Int32), s = sm (fun j => B 31 j) i → x = nI i → J n_Entries_sum 4 [.ref 29, .long s, .float 0, .int x] [] I A B (pk w f) R := by
    refine lpz (fun i => ∀ (s : Int64) (x : Int32), s = sm (fun j => B 31 j) i → x = nI i → J n_Entries_sum 4 [.ref 29, .long s, .float 0, .int x] [] I A B (pk w f) R) (fun i hi ih => ?_)
    intro s x es ex
    subst es; subst ex
    refine X 200 _ _ _ _ _ _ _ _ _ ?_
    refine And.intro (fun q1 => ?_) (fun q1 => ?_)
    · rw [hz] at q1
      have e := lpx hi hn31 q1
      subst e
      exact h
    · rw [hz] at q1
      have hl := lpc hi hn31 q1
      refine Exists.intro _ (And.intro rfl (And.intro (vin (by omega) (by omega)) ?_))
      have hb31 : i < 2 ^ 31 := by omega
      exact ih hl _ _ (by simp [sm, cl hb31]) (nI_1 i)
  refine X 200 _ _ _ _ _ _ _ _ _ ?_
  exact G 0 (Nat.zero_le _) _ _ rfl rfl
theorem c_interestBooked {J : mJ} (X : mRules J) {I A : mI} {B : mB} {w f : Nat} {R : mR} {n : Nat} (hn : n ≤ 220) (hz : I 29 6 = nI n) {p : Int32} (h : R (some (.long (sm (fun j => if A 34 j = p ∧ (A 30 j = 1 ∨ A 30 j = 2) then B 31 j else 0) n))) I A B (pk w f)) : J n_Entries_interestBooked 0 [.ref 29, .int p, .float 0, .float 0, .float 0] [] I A B (pk w f) R := by
  have hn31 : n < 2 ^ 31 := by omega
  have G : ∀ i, i ≤ n → ∀ (s : Int64) (x : Int32), s = sm (fun j => if A 34 j = p ∧ (A 30 j = 1 ∨ A 30 j = 2) then B 31 j else 0) i → x = nI i → J n_Entries_interestBooked 5 [.ref 29, .int p, .long s, .float 0, .int x] [] I A B (pk w f) R := by
    refine lpz (fun i => ∀ (s : Int64) (x : Int32), s = sm (fun j => if A 34 j = p ∧ (A 30 j = 1 ∨ A 30 j = 2) then B 31 j else 0) i → x = nI i → J n_Entries_interestBooked 5 [.ref 29, .int p, .long s, .float 0, .int x] [] I A B (pk w f) R) (fun i hi ih => ?_)
    intro s x es ex
    subst es; subst ex
    refine X 200 _ _ _ _ _ _ _ _ _ ?_
    refine And.intro (fun q1 => ?_) (fun q1 => ?_)
    · rw [hz] at q1
      have e := lpx hi hn31 q1
      subst e
      exact h
    · rw [hz] at q1
      have hl := lpc hi hn31 q1
      refine Exists.intro _ (And.intro rfl (And.intro (vin (by omega) (by omega)) ?_))
      refine And.intro (fun q2 => ?_) (fun q2 => ?_)
      · have hb31 : i < 2 ^ 31 := by omega
        try simp only [cl hb31] at q2
        exact ih hl _ _ (by simp [sm, cl hb31, q2]) (nI_1 i)
      · refine c_isInt X hn hl hz (fun z1 => ?_) (fun z1 => ?_)
        · refine And.intro (fun q => absurd q (by decide)) (fun _ => ?_)
          refine Exists.intro _ (And.intro rfl (And.intro (vin (by omega) (by omega)) ?_))
          have hb31 : i < 2 ^ 31 := by omega
          try simp only [cl hb31] at q2
          try simp only [cl hb31] at z1
          exact ih hl _ _ (by simp [sm, cl hb31, q2, z1]) (nI_1 i)
        · refine And.intro (fun _ => ?_) (fun q => absurd (by decide) q)
          have hb31 : i < 2 ^ 31 := by omega
          try simp only [cl hb31] at q2
          try simp only [cl hb31] at z1
          exact ih hl _ _ (by simp [sm, cl hb31, q2, z1]) (nI_1 i)
  refine X 200 _ _ _ _ _ _ _ _ _ ?_
  exact G 0 (Nat.zero_le _) _ _ rfl rfl
theorem c_sumOfPrincipal {J : mJ} (X : mRules J) {I A : mI} {B : mB} {w f : Nat} {R : mR} {n : Nat} (hn : n ≤ 220) (hz : I 29 6 = nI n)  (h : R (some (.long (sm (fun j => if A 30 j = 1 ∨ A 30 j = 2 then 0 else B 31 j) n))) I A B (pk w f)) : J n_Entries_sumOfPrincipal 0 [.ref 29, .float 0, .float 0, .float 0] [] I A B (pk w f) R := by
  have hn31 : n < 2 ^ 31 := by omega
  have G : ∀ i, i ≤ n → ∀ (s : Int64) (x : Int32), s = sm (fun j => if A 30 j = 1 ∨ A 30 j = 2 then 0 else B 31 j) i → x = nI i → J n_Entries_sumOfPrincipal 4 [.ref 29, .long s, .float 0, .int x] [] I A B (pk w f) R := by
    refine lpz (fun i => ∀ (s : Int64) (x : Int32), s = sm (fun j => if A 30 j = 1 ∨ A 30 j = 2 then 0 else B 31 j) i → x = nI i → J n_Entries_sumOfPrincipal 4 [.ref 29, .long s, .float 0, .int x] [] I A B (pk w f) R) (fun i hi ih => ?_)
    intro s x es ex
    subst es; subst ex
    refine X 200 _ _ _ _ _ _ _ _ _ ?_
    refine And.intro (fun q1 => ?_) (fun q1 => ?_)
    · rw [hz] at q1
      have e := lpx hi hn31 q1
      subst e
      exact h
    · rw [hz] at q1
      have hl := lpc hi hn31 q1
      refine c_isInt X hn hl hz (fun z1 => ?_) (fun z1 => ?_)
      · refine And.intro (fun _ => ?_) (fun q => absurd q (by decide))
        have hb31 : i < 2 ^ 31 := by omega
        try simp only [cl hb31] at z1
        exact ih hl _ _ (by simp [sm, cl hb31, z1]) (nI_1 i)
      · refine And.intro (fun q => absurd (by decide) q) (fun _ => ?_)
        refine Exists.intro _ (And.intro rfl (And.intro (vin (by omega) (by omega)) ?_))
        have hb31 : i < 2 ^ 31 := by omega
        try simp only [cl hb31] at z1
        exact ih hl _ _ (by simp [sm, cl hb31, z1]) (nI_1 i)
  refine X 200 _ _ _ _ _ _ _ _ _ ?_
  exact G 0 (Nat.zero_le _) _ _ rfl rfl
theorem c_sumAhead {J : mJ} (X : mRules J) {I A : mI} {B : mB} {w f : Nat} {R : mR} {n : Nat} (hn : n ≤ 220) (hz : I 29 6 = nI n) {p : Int32} (h : R (some (.long (sm (fun j => if p ≤ A 33 j then 0 else B 31 j) n))) I A B (pk w f)) : J n_Entries_sumAhead 0 [.ref 29, .int p, .float 0, .float 0, .float 0] [] I A B (pk w f) R := by
  have hn31 : n < 2 ^ 31 := by omega
  have G : ∀ i, i ≤ n → ∀ (s : Int64) (x : Int32), s = sm (fun j => if p ≤ A 33 j then 0 else B 31 j) i → x = nI i → J n_Entries_sumAhead 5 [.ref 29, .int p, .long s, .float 0, .int x] [] I A B (pk w f) R := by
    refine lpz (fun i => ∀ (s : Int64) (x : Int32), s = sm (fun j => if p ≤ A 33 j then 0 else B 31 j) i → x = nI i → J n_Entries_sumAhead 5 [.ref 29, .int p, .long s, .float 0, .int x] [] I A B (pk w f) R) (fun i hi ih => ?_)
    intro s x es ex
    subst es; subst ex
    refine X 200 _ _ _ _ _ _ _ _ _ ?_
    refine And.intro (fun q1 => ?_) (fun q1 => ?_)
    · rw [hz] at q1
      have e := lpx hi hn31 q1
      subst e
      exact h
    · rw [hz] at q1
      have hl := lpc hi hn31 q1
      refine Exists.intro _ (And.intro rfl (And.intro (vin (by omega) (by omega)) ?_))
      refine And.intro (fun q2 => ?_) (fun q2 => ?_)
      · have hb31 : i < 2 ^ 31 := by omega
        try simp only [cl hb31] at q2
        exact ih hl _ _ (by simp [sm, cl hb31, q2]) (nI_1 i)
      · refine Exists.intro _ (And.intro rfl (And.intro (vin (by omega) (by omega)) ?_))
        have hb31 : i < 2 ^ 31 := by omega
        try simp only [cl hb31] at q2
        exact ih hl _ _ (by simp [sm, cl hb31, q2]) (nI_1 i)
  refine X 200 _ _ _ _ _ _ _ _ _ ?_
  exact G 0 (Nat.zero_le _) _ _ rfl rfl
theorem c_sumOn {J : mJ} (X : mRules J) {I A : mI} {B : mB} {w f : Nat} {R : mR} {n : Nat} (hn : n ≤ 220) (hz : I 29 6 = nI n) {p : Int32} {t : Int32} (h : R (some (.long (sm (fun j => if A 33 j = p ∧ A 30 j = t then B 31 j else 0) n))) I A B (pk w f)) : J n_Entries_sumOn 0 [.ref 29, .int p, .int t, .float 0, .float 0, .float 0] [] I A B (pk w f) R := by
  have hn31 : n < 2 ^ 31 := by omega
  have G : ∀ i, i ≤ n → ∀ (s : Int64) (x : Int32), s = sm (fun j => if A 33 j = p ∧ A 30 j = t then B 31 j else 0) i → x = nI i → J n_Entries_sumOn 5 [.ref 29, .int p, .int t, .long s, .float 0, .int x] [] I A B (pk w f) R := by
    refine lpz (fun i => ∀ (s : Int64) (x : Int32), s = sm (fun j => if A 33 j = p ∧ A 30 j = t then B 31 j else 0) i → x = nI i → J n_Entries_sumOn 5 [.ref 29, .int p, .int t, .long s, .float 0, .int x] [] I A B (pk w f) R) (fun i hi ih => ?_)
    intro s x es ex
    subst es; subst ex
    refine X 200 _ _ _ _ _ _ _ _ _ ?_
    refine And.intro (fun q1 => ?_) (fun q1 => ?_)
    · rw [hz] at q1
      have e := lpx hi hn31 q1
      subst e
      exact h
    · rw [hz] at q1
      have hl := lpc hi hn31 q1
      refine Exists.intro _ (And.intro rfl (And.intro (vin (by omega) (by omega)) ?_))
      refine And.intro (fun q2 => ?_) (fun q2 => ?_)
      · have hb31 : i < 2 ^ 31 := by omega
        try simp only [cl hb31] at q2
        exact ih hl _ _ (by simp [sm, cl hb31, q2]) (nI_1 i)
      · refine Exists.intro _ (And.intro rfl (And.intro (vin (by omega) (by omega)) ?_))
        refine And.intro (fun q3 => ?_) (fun q3 => ?_)
        · have hb31 : i < 2 ^ 31 := by omega
          try simp only [cl hb31] at q2
          try simp only [cl hb31] at q3
          exact ih hl _ _ (by simp [sm, cl hb31, q2, q3]) (nI_1 i)
        · refine Exists.intro _ (And.intro rfl (And.intro (vin (by omega) (by omega)) ?_))
          have hb31 : i < 2 ^ 31 := by omega
          try simp only [cl hb31] at q2
          try simp only [cl hb31] at q3
          exact ih hl _ _ (by simp [sm, cl hb31, q2, q3]) (nI_1 i)
  refine X 200 _ _ _ _ _ _ _ _ _ ?_
  exact G 0 (Nat.zero_le _) _ _ rfl rfl
theorem c_paidOn {J : mJ} (X : mRules J) {I A : mI} {B : mB} {w f : Nat} {R : mR} {n : Nat} (hn : n ≤ 220) (hz : I 29 6 = nI n) {p : Int32} (h : R (some (.long (sm (fun j => if A 33 j = p ∧ A 30 j = 0 then (if B 31 j < 0 then 0 else B 31 j) else 0) n))) I A B (pk w f)) : J n_Entries_paidOn 0 [.ref 29, .int p, .float 0, .float 0, .float 0] [] I A B (pk w f) R := by
  have hn31 : n < 2 ^ 31 := by omega
  have G : ∀ i, i ≤ n → ∀ (s : Int64) (x : Int32), s = sm (fun j => if A 33 j = p ∧ A 30 j = 0 then (if B 31 j < 0 then 0 else B 31 j) else 0) i → x = nI i → J n_Entries_paidOn 5 [.ref 29, .int p, .long s, .float 0, .int x] [] I A B (pk w f) R := by
    refine lpz (fun i => ∀ (s : Int64) (x : Int32), s = sm (fun j => if A 33 j = p ∧ A 30 j = 0 then (if B 31 j < 0 then 0 else B 31 j) else 0) i → x = nI i → J n_Entries_paidOn 5 [.ref 29, .int p, .long s, .float 0, .int x] [] I A B (pk w f) R) (fun i hi ih => ?_)
    intro s x es ex
    subst es; subst ex
    refine X 200 _ _ _ _ _ _ _ _ _ ?_
    refine And.intro (fun q1 => ?_) (fun q1 => ?_)
    · rw [hz] at q1
      have e := lpx hi hn31 q1
      subst e
      exact h
    · rw [hz] at q1
      have hl := lpc hi hn31 q1
      refine Exists.intro _ (And.intro rfl (And.intro (vin (by omega) (by omega)) ?_))
      refine And.intro (fun q2 => ?_) (fun q2 => ?_)
      · have hb31 : i < 2 ^ 31 := by omega
        try simp only [cl hb31] at q2
        exact ih hl _ _ (by simp [sm, cl hb31, q2]) (nI_1 i)
      · refine Exists.intro _ (And.intro rfl (And.intro (vin (by omega) (by omega)) ?_))
        refine And.intro (fun q3 => ?_) (fun q3 => ?_)
        · have hb31 : i < 2 ^ 31 := by omega
          try simp only [cl hb31] at q2
          try simp only [cl hb31] at q3
          exact ih hl _ _ (by simp [sm, cl hb31, q2, q3]) (nI_1 i)
        · refine Exists.intro _ (And.intro rfl (And.intro (vin (by omega) (by omega)) ?_))
          have hb31 : i < 2 ^ 31 := by omega
          try simp only [cl hb31] at q2
          try simp only [cl hb31] at q3
          exact ih hl _ _ (by simp [sm, cl hb31, q2, q3]) (nI_1 i)
  refine X 200 _ _ _ _ _ _ _ _ _ ?_
  exact G 0 (Nat.zero_le _) _ _ rfl rfl
theorem c_sumValued {J : mJ} (X : mRules J) {I A : mI} {B : mB} {w f : Nat} {R : mR} {n : Nat} (hn : n ≤ 220) (hz : I 29 6 = nI n) {p : Int32} {a : Int32} {b : Int32} (h : R (some (.long (sm (fun j => if A 33 j = p ∧ ¬ A 32 j < a ∧ ¬ b ≤ A 32 j then B 31 j else 0) n))) I A B (pk w f)) : J n_Entries_sumValued 0 [.ref 29, .int p, .int a, .int b, .float 0, .float 0, .float 0] [] I A B (pk w f) R := by
  have hn31 : n < 2 ^ 31 := by omega
  have G : ∀ i, i ≤ n → ∀ (s : Int64) (x : Int32), s = sm (fun j => if A 33 j = p ∧ ¬ A 32 j < a ∧ ¬ b ≤ A 32 j then B 31 j else 0) i → x = nI i → J n_Entries_sumValued 6 [.ref 29, .int p, .int a, .int b, .long s, .float 0, .int x] [] I A B (pk w f) R := by
    refine lpz (fun i => ∀ (s : Int64) (x : Int32), s = sm (fun j => if A 33 j = p ∧ ¬ A 32 j < a ∧ ¬ b ≤ A 32 j then B 31 j else 0) i → x = nI i → J n_Entries_sumValued 6 [.ref 29, .int p, .int a, .int b, .long s, .float 0, .int x] [] I A B (pk w f) R) (fun i hi ih => ?_)
    intro s x es ex
    subst es; subst ex
    refine X 200 _ _ _ _ _ _ _ _ _ ?_
    refine And.intro (fun q1 => ?_) (fun q1 => ?_)
    · rw [hz] at q1
      have e := lpx hi hn31 q1
      subst e
      exact h
    · rw [hz] at q1
      have hl := lpc hi hn31 q1
      refine Exists.intro _ (And.intro rfl (And.intro (vin (by omega) (by omega)) ?_))
      refine And.intro (fun q2 => ?_) (fun q2 => ?_)
      · have hb31 : i < 2 ^ 31 := by omega
        try simp only [cl hb31] at q2
        exact ih hl _ _ (by simp [sm, cl hb31, q2]) (nI_1 i)
      · refine Exists.intro _ (And.intro rfl (And.intro (vin (by omega) (by omega)) ?_))
        refine And.intro (fun q3 => ?_) (fun q3 => ?_)
        · have hb31 : i < 2 ^ 31 := by omega
          try simp only [cl hb31] at q2
          try simp only [cl hb31] at q3
          exact ih hl _ _ (by simp [sm, cl hb31, q2, q3]) (nI_1 i)
        · refine Exists.intro _ (And.intro rfl (And.intro (vin (by omega) (by omega)) ?_))
          refine And.intro (fun q4 => ?_) (fun q4 => ?_)
          · have hb31 : i < 2 ^ 31 := by omega
            try simp only [cl hb31] at q2
            try simp only [cl hb31] at q3
            try simp only [cl hb31] at q4
            exact ih hl _ _ (by simp [sm, cl hb31, q2, q3, q4]) (nI_1 i)
          · refine Exists.intro _ (And.intro rfl (And.intro (vin (by omega) (by omega)) ?_))
            have hb31 : i < 2 ^ 31 := by omega
            try simp only [cl hb31] at q2
            try simp only [cl hb31] at q3
            try simp only [cl hb31] at q4
            exact ih hl _ _ (by simp [sm, cl hb31, q2, q3, q4]) (nI_1 i)
  refine X 200 _ _ _ _ _ _ _ _ _ ?_
  exact G 0 (Nat.zero_le _) _ _ rfl rfl
theorem c_sizeValued {J : mJ} (X : mRules J) {I A : mI} {B : mB} {w f : Nat} {R : mR} {n : Nat} (hn : n ≤ 220) (hz : I 29 6 = nI n) {p : Int32} {a : Int32} {b : Int32} (h : R (some (.int (nI (ct (fun j => decide (A 33 j = p ∧ ¬ A 32 j < a ∧ ¬ b ≤ A 32 j)) n)))) I A B (pk w f)) : J n_Entries_sizeValued 0 [.ref 29, .int p, .int a, .int b, .float 0, .float 0] [] I A B (pk w f) R := by
  have hn31 : n < 2 ^ 31 := by omega
  have G : ∀ i, i ≤ n → ∀ (s : Int32) (x : Int32), s = nI (ct (fun j => decide (A 33 j = p ∧ ¬ A 32 j < a ∧ ¬ b ≤ A 32 j)) i) → x = nI i → J n_Entries_sizeValued 6 [.ref 29, .int p, .int a, .int b, .int s, .int x] [] I A B (pk w f) R := by
    refine lpz (fun i => ∀ (s : Int32) (x : Int32), s = nI (ct (fun j => decide (A 33 j = p ∧ ¬ A 32 j < a ∧ ¬ b ≤ A 32 j)) i) → x = nI i → J n_Entries_sizeValued 6 [.ref 29, .int p, .int a, .int b, .int s, .int x] [] I A B (pk w f) R) (fun i hi ih => ?_)
    intro s x es ex
    subst es; subst ex
    refine X 200 _ _ _ _ _ _ _ _ _ ?_
    refine And.intro (fun q1 => ?_) (fun q1 => ?_)
    · rw [hz] at q1
      have e := lpx hi hn31 q1
      subst e
      exact h
    · rw [hz] at q1
      have hl := lpc hi hn31 q1
      refine Exists.intro _ (And.intro rfl (And.intro (vin (by omega) (by omega)) ?_))
      refine And.intro (fun q2 => ?_) (fun q2 => ?_)
      · have hb31 : i < 2 ^ 31 := by omega
        try simp only [cl hb31] at q2
        exact ih hl _ _ (by simp [ct, nI_1, cl hb31, q2]) (nI_1 i)
      · refine Exists.intro _ (And.intro rfl (And.intro (vin (by omega) (by omega)) ?_))
        refine And.intro (fun q3 => ?_) (fun q3 => ?_)
        · have hb31 : i < 2 ^ 31 := by omega
          try simp only [cl hb31] at q2
          try simp only [cl hb31] at q3
          exact ih hl _ _ (by simp [ct, nI_1, cl hb31, q2, q3]) (nI_1 i)
        · refine Exists.intro _ (And.intro rfl (And.intro (vin (by omega) (by omega)) ?_))
          refine And.intro (fun q4 => ?_) (fun q4 => ?_)
          · have hb31 : i < 2 ^ 31 := by omega
            try simp only [cl hb31] at q2
            try simp only [cl hb31] at q3
            try simp only [cl hb31] at q4
            exact ih hl _ _ (by simp [ct, nI_1, cl hb31, q2, q3, q4]) (nI_1 i)
          · have hb31 : i < 2 ^ 31 := by omega
            try simp only [cl hb31] at q2
            try simp only [cl hb31] at q3
            try simp only [cl hb31] at q4
            exact ih hl _ _ (by simp [ct, nI_1, cl hb31, q2, q3, q4]) (nI_1 i)
  refine X 200 _ _ _ _ _ _ _ _ _ ?_
  exact G 0 (Nat.zero_le _) _ _ rfl rfl
theorem c_isTurnedBack {J : mJ} (X : mRules J) {I A : mI} {B : mB} {w f : Nat} {R : mR} {n : Nat} (hn : n ≤ 220) (hz : I 29 6 = nI n) {e0 : Int32} (h : R (some (.int (if (fd (fun j => decide (A 30 j = 3 ∧ A 34 j = e0)) n).isSome then 1 else 0))) I A B (pk w f)) : J n_Entries_isTurnedBack 0 [.ref 29, .int e0, .float 0] [] I A B (pk w f) R := by
  have hn31 : n < 2 ^ 31 := by omega
  have G : ∀ i, i ≤ n → ∀ (x : Int32), x = nI i → (∀ j, j < i → (fun j => decide (A 30 j = 3 ∧ A 34 j = e0)) j = false) → J n_Entries_isTurnedBack 2 [.ref 29, .int e0, .int x] [] I A B (pk w f) R := by
    refine lpz (fun i => ∀ (x : Int32), x = nI i → (∀ j, j < i → (fun j => decide (A 30 j = 3 ∧ A 34 j = e0)) j = false) → J n_Entries_isTurnedBack 2 [.ref 29, .int e0, .int x] [] I A B (pk w f) R) (fun i hi ih => ?_)
    intro x ex hno
    subst ex
    refine X 200 _ _ _ _ _ _ _ _ _ ?_
    refine And.intro (fun q1 => ?_) (fun q1 => ?_)
    · rw [hz] at q1
      have e := lpx hi hn31 q1
      subst e
      rw [fd_no hno] at h
      refine And.intro (Or.inl rfl) ?_
      exact h
    · rw [hz] at q1
      have hl := lpc hi hn31 q1
      have hb31 : i < 2 ^ 31 := by omega
      refine Exists.intro _ (And.intro rfl (And.intro (vin (by omega) (by omega)) ?_))
      refine And.intro (fun q2 => ?_) (fun q2 => ?_)
      · try simp only [cl hb31] at q2
        exact ih hl _  (nI_1 i) (all_lt hno (by simp [q2]))
      · refine Exists.intro _ (And.intro rfl (And.intro (vin (by omega) (by omega)) ?_))
        refine And.intro (fun q3 => ?_) (fun q3 => ?_)
        · try simp only [cl hb31] at q2
          try simp only [cl hb31] at q3
          exact ih hl _  (nI_1 i) (all_lt hno (by simp [q2, q3]))
        · refine And.intro (Or.inr rfl) ?_
          try simp only [cl hb31] at q2
          try simp only [cl hb31] at q3
          rw [fd_at hl (by simp [q2, q3]) hno] at h
          exact h
  refine X 200 _ _ _ _ _ _ _ _ _ ?_
  exact G 0 (Nat.zero_le _) _ rfl (fun j hj => absurd hj (Nat.not_lt_zero j))
theorem c_moneyAt {J : mJ} (X : mRules J) {I A : mI} {B : mB} {w f : Nat} {R : mR} {n : Nat} (hn : n ≤ 220) (hz : I 29 6 = nI n) {a : Int32} (h : R (some (.int (fI (fd (fun j => decide (A 30 j = 0 ∧ nI (ct (fun j => decide (A 30 j = 0)) j) = a)) n)))) I A B (pk w f)) : J n_Entries_moneyAt 0 [.ref 29, .int a, .float 0, .float 0] [] I A B (pk w f) R := by
  have hn31 : n < 2 ^ 31 := by omega
  have G : ∀ i, i ≤ n → ∀ (s : Int32) (x : Int32), s = nI (ct (fun j => decide (A 30 j = 0)) i) → x = nI i → (∀ j, j < i → (fun j => decide (A 30 j = 0 ∧ nI (ct (fun j => decide (A 30 j = 0)) j) = a)) j = false) → J n_Entries_moneyAt 4 [.ref 29, .int a, .int s, .int x] [] I A B (pk w f) R := by
    refine lpz (fun i => ∀ (s : Int32) (x : Int32), s = nI (ct (fun j => decide (A 30 j = 0)) i) → x = nI i → (∀ j, j < i → (fun j => decide (A 30 j = 0 ∧ nI (ct (fun j => decide (A 30 j = 0)) j) = a)) j = false) → J n_Entries_moneyAt 4 [.ref 29, .int a, .int s, .int x] [] I A B (pk w f) R) (fun i hi ih => ?_)
    intro s x es ex hno
    subst es; subst ex
    refine X 200 _ _ _ _ _ _ _ _ _ ?_
    refine And.intro (fun q1 => ?_) (fun q1 => ?_)
    · rw [hz] at q1
      have e := lpx hi hn31 q1
      subst e
      rw [fd_no hno] at h
      exact h
    · rw [hz] at q1
      have hl := lpc hi hn31 q1
      have hb31 : i < 2 ^ 31 := by omega
      refine Exists.intro _ (And.intro rfl (And.intro (vin (by omega) (by omega)) ?_))
      refine And.intro (fun q2 => ?_) (fun q2 => ?_)
      · try simp only [cl hb31] at q2
        exact ih hl _ _ (by simp [ct, nI_1, cl hb31, q2]) (nI_1 i) (all_lt hno (by simp [q2]))
      · refine And.intro (fun q3 => ?_) (fun q3 => ?_)
        · try simp only [cl hb31] at q2
          try simp only [cl hb31] at q3
          exact ih hl _ _ (by simp [ct, nI_1, cl hb31, q2, q3]) (nI_1 i) (all_lt hno (by simp [q2, q3]))
        · try simp only [cl hb31] at q2
          try simp only [cl hb31] at q3
          rw [fd_at hl (by simp [q2, q3]) hno] at h
          exact h
  refine X 200 _ _ _ _ _ _ _ _ _ ?_
  exact G 0 (Nat.zero_le _) _ _ rfl rfl (fun j hj => absurd hj (Nat.not_lt_zero j))
theorem c_onPage {J : mJ} (X : mRules J) {I A : mI} {B : mB} {w f : Nat} {R : mR} {n : Nat} (hn : n ≤ 220) (hz : I 29 6 = nI n) {p : Int32} {k : Int32} (h : R (some (.int (fI (fd (fun j => decide (A 33 j = p ∧ nI (ct (fun j => decide (A 33 j = p)) j) = k)) n)))) I A B (pk w f)) : J n_Entries_onPage 0 [.ref 29, .int p, .int k, .float 0, .float 0] [] I A B (pk w f) R := by
  have hn31 : n < 2 ^ 31 := by omega
  have G : ∀ i, i ≤ n → ∀ (s : Int32) (x : Int32), s = nI (ct (fun j => decide (A 33 j = p)) i) → x = nI i → (∀ j, j < i → (fun j => decide (A 33 j = p ∧ nI (ct (fun j => decide (A 33 j = p)) j) = k)) j = false) → J n_Entries_onPage 5 [.ref 29, .int p, .int k, .int s, .int x] [] I A B (pk w f) R := by
    refine lpz (fun i => ∀ (s : Int32) (x : Int32), s = nI (ct (fun j => decide (A 33 j = p)) i) → x = nI i → (∀ j, j < i → (fun j => decide (A 33 j = p ∧ nI (ct (fun j => decide (A 33 j = p)) j) = k)) j = false) → J n_Entries_onPage 5 [.ref 29, .int p, .int k, .int s, .int x] [] I A B (pk w f) R) (fun i hi ih => ?_)
    intro s x es ex hno
    subst es; subst ex
    refine X 200 _ _ _ _ _ _ _ _ _ ?_
    refine And.intro (fun q1 => ?_) (fun q1 => ?_)
    · rw [hz] at q1
      have e := lpx hi hn31 q1
      subst e
      rw [fd_no hno] at h
      exact h
    · rw [hz] at q1
      have hl := lpc hi hn31 q1
      have hb31 : i < 2 ^ 31 := by omega
      refine Exists.intro _ (And.intro rfl (And.intro (vin (by omega) (by omega)) ?_))
      refine And.intro (fun q2 => ?_) (fun q2 => ?_)
      · try simp only [cl hb31] at q2
        exact ih hl _ _ (by simp [ct, nI_1, cl hb31, q2]) (nI_1 i) (all_lt hno (by simp [q2]))
      · refine And.intro (fun q3 => ?_) (fun q3 => ?_)
        · try simp only [cl hb31] at q2
          try simp only [cl hb31] at q3
          exact ih hl _ _ (by simp [ct, nI_1, cl hb31, q2, q3]) (nI_1 i) (all_lt hno (by simp [q2, q3]))
        · try simp only [cl hb31] at q2
          try simp only [cl hb31] at q3
          rw [fd_at hl (by simp [q2, q3]) hno] at h
          exact h
  refine X 200 _ _ _ _ _ _ _ _ _ ?_
  exact G 0 (Nat.zero_le _) _ _ rfl rfl (fun j hj => absurd hj (Nat.not_lt_zero j))
