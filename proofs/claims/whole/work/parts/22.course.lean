/-! contracts: the course of the balance (written by wip/whole/gc6.py) -/
set_option maxRecDepth 20000 in
theorem c_creditOf {J : mJ} (X : mRules J) {I A : mI} {B : mB} {w f : Nat} {R : mR} {nt : Nat} (hnt : nt ≤ 4) (hI : I 17 4 = nI nt) {P p : Nat} (hP : I 16 4 = nI P) {xp : Int32} (exp : xp = nI p) (hp : p * P + P ≤ 320) (h : R (some (.long (sm (fun j => crd A (p * P + j) (B 36 (p * P + j)) nt 0 0 0) P))) I A B (pk w f)) : J n_Course_creditOf 0 [.ref 38, .int xp, .float 0, .float 0, .float 0, .float 0] [] I A B (pk w f) R := by
  subst exp
  have G : ∀ i, i ≤ P → ∀ (s : Int64) (fi : Int32) (x : Int32), s = sm (fun j => crd A (p * P + j) (B 36 (p * P + j)) nt 0 0 0) i → fi = nI (p * P) → x = nI (p * P + i) → J n_Course_creditOf 16 [.ref 38, .int (nI p), .long s, .float 0, .int fi, .int x] [] I A B (pk w f) R := by
    refine lpz (fun i => ∀ (s : Int64) (fi : Int32) (x : Int32), s = sm (fun j => crd A (p * P + j) (B 36 (p * P + j)) nt 0 0 0) i → fi = nI (p * P) → x = nI (p * P + i) → J n_Course_creditOf 16 [.ref 38, .int (nI p), .long s, .float 0, .int fi, .int x] [] I A B (pk w f) R) (fun i hi ih => ?_)
    intro s fi x es efi ex
    subst es; subst efi; subst ex
    refine X 200 _ _ _ _ _ _ _ _ _ ?_
    refine And.intro (fun q1 => ?_) (fun q1 => ?_)
    · rw [hP, nI_add] at q1
      have e := lpxo hi (by omega) q1
      subst e
      exact h
    · rw [hP, nI_add] at q1
      have hl := lpco hi (by omega) q1
      have hb31 : p * P + i < 2 ^ 31 := by omega
      refine c_standing X (d := p * P + i) rfl (by omega) ?_
      refine c_credit X (d := p * P + i) rfl (by omega) hnt hI ?_
      exact ih hl _ _ _ (by simp only [sm, cl hb31] <;> rfl) rfl (nI_1 _)
  refine X 200 _ _ _ _ _ _ _ _ _ ?_
  exact G 0 (Nat.zero_le _) _ _ _ rfl (by rw [hP, pk_mul]) (by rw [hP, pk_mul]; rfl)
set_option maxRecDepth 20000 in
theorem c_debtOf {J : mJ} (X : mRules J) {I A : mI} {B : mB} {w f : Nat} {R : mR} {P p : Nat} (hP : I 16 4 = nI P) {xp : Int32} (exp : xp = nI p) (hp : p * P + P ≤ 320) (h : R (some (.long (sm (fun j => dbt A (A 25 (p * P + j)) (p * P + j) (B 36 (p * P + j))) P))) I A B (pk w f)) : J n_Course_debtOf 0 [.ref 38, .int xp, .float 0, .float 0, .float 0, .float 0] [] I A B (pk w f) R := by
  subst exp
  have G : ∀ i, i ≤ P → ∀ (s : Int64) (fi : Int32) (x : Int32), s = sm (fun j => dbt A (A 25 (p * P + j)) (p * P + j) (B 36 (p * P + j))) i → fi = nI (p * P) → x = nI (p * P + i) → J n_Course_debtOf 16 [.ref 38, .int (nI p), .long s, .float 0, .int fi, .int x] [] I A B (pk w f) R := by
    refine lpz (fun i => ∀ (s : Int64) (fi : Int32) (x : Int32), s = sm (fun j => dbt A (A 25 (p * P + j)) (p * P + j) (B 36 (p * P + j))) i → fi = nI (p * P) → x = nI (p * P + i) → J n_Course_debtOf 16 [.ref 38, .int (nI p), .long s, .float 0, .int fi, .int x] [] I A B (pk w f) R) (fun i hi ih => ?_)
    intro s fi x es efi ex
    subst es; subst efi; subst ex
    refine X 200 _ _ _ _ _ _ _ _ _ ?_
    refine And.intro (fun q1 => ?_) (fun q1 => ?_)
    · rw [hP, nI_add] at q1
      have e := lpxo hi (by omega) q1
      subst e
      exact h
    · rw [hP, nI_add] at q1
      have hl := lpco hi (by omega) q1
      have hb31 : p * P + i < 2 ^ 31 := by omega
      refine c_standing X (d := p * P + i) rfl (by omega) ?_
      refine And.intro (fun q2 => ?_) (fun q2 => ?_)
      · exact absurd q2 (nI_pos (by omega)) --end
      · refine And.intro (fun q3 => ?_) (fun q3 => ?_)
        · refine Exists.intro _ (Exists.intro _ (Exists.intro _ (And.intro rfl (And.intro (vlit rfl) ?_))))
          refine Exists.intro _ (And.intro rfl (And.intro (vin (by omega) (by omega)) ?_))
          refine c_debtBy X (d := p * P + i) rfl (by omega) ?_
          exact ih hl _ _ _ (by simp only [sm, cl hb31] <;> rfl) rfl (nI_1 _)
        · exact absurd (nI_lt (b := 320) (by omega) (by omega)) q3 --end
  refine X 200 _ _ _ _ _ _ _ _ _ ?_
  exact G 0 (Nat.zero_le _) _ _ _ rfl (by rw [hP, pk_mul]) (by rw [hP, pk_mul]; rfl)
set_option maxRecDepth 20000 in
theorem c_creditOfTier {J : mJ} (X : mRules J) {I A : mI} {B : mB} {w f : Nat} {R : mR} {P p : Nat} (hP : I 16 4 = nI P) {xp : Int32} (exp : xp = nI p) (hp : p * P + P ≤ 320) {t : Nat} (ht : t < 4) (h : R (some (.long (sm (fun j => ptO A t (B 36 (p * P + j)) * (A (19 + t) (p * P + j)).toInt64) P))) I A B (pk w f)) : J n_Course_creditOfTier 0 [.ref 38, .int xp, .int (nI t), .float 0, .float 0, .float 0, .float 0] [] I A B (pk w f) R := by
  subst exp
  have G : ∀ i, i ≤ P → ∀ (s : Int64) (fi : Int32) (x : Int32), s = sm (fun j => ptO A t (B 36 (p * P + j)) * (A (19 + t) (p * P + j)).toInt64) i → fi = nI (p * P) → x = nI (p * P + i) → J n_Course_creditOfTier 16 [.ref 38, .int (nI p), .int (nI t), .long s, .float 0, .int fi, .int x] [] I A B (pk w f) R := by
    refine lpz (fun i => ∀ (s : Int64) (fi : Int32) (x : Int32), s = sm (fun j => ptO A t (B 36 (p * P + j)) * (A (19 + t) (p * P + j)).toInt64) i → fi = nI (p * P) → x = nI (p * P + i) → J n_Course_creditOfTier 16 [.ref 38, .int (nI p), .int (nI t), .long s, .float 0, .int fi, .int x] [] I A B (pk w f) R) (fun i hi ih => ?_)
    intro s fi x es efi ex
    subst es; subst efi; subst ex
    refine X 200 _ _ _ _ _ _ _ _ _ ?_
    refine And.intro (fun q1 => ?_) (fun q1 => ?_)
    · rw [hP, nI_add] at q1
      have e := lpxo hi (by omega) q1
      subst e
      exact h
    · rw [hP, nI_add] at q1
      have hl := lpco hi (by omega) q1
      have hb31 : p * P + i < 2 ^ 31 := by omega
      refine c_standing X (d := p * P + i) rfl (by omega) ?_
      refine c_partOf X (t := t) rfl ht ?_
      refine c_rule X (r := t) (d := p * P + i) rfl rfl (by omega) (by omega) ?_
      exact ih hl _ _ _ (by simp only [sm, cl hb31] <;> rfl) rfl (nI_1 _)
  refine X 200 _ _ _ _ _ _ _ _ _ ?_
  exact G 0 (Nat.zero_le _) _ _ _ rfl (by rw [hP, pk_mul]) (by rw [hP, pk_mul]; rfl)
set_option maxRecDepth 20000 in
theorem c_standingsOf {J : mJ} (X : mRules J) {I A : mI} {B : mB} {w f : Nat} {R : mR} {P p : Nat} (hP : I 16 4 = nI P) {xp : Int32} (exp : xp = nI p) (hp : p * P + P ≤ 320) (h : R (some (.long (sm (fun j => B 36 (p * P + j)) P))) I A B (pk w f)) : J n_Course_standingsOf 0 [.ref 38, .int xp, .float 0, .float 0, .float 0, .float 0] [] I A B (pk w f) R := by
  subst exp
  have G : ∀ i, i ≤ P → ∀ (s : Int64) (fi : Int32) (x : Int32), s = sm (fun j => B 36 (p * P + j)) i → fi = nI (p * P) → x = nI (p * P + i) → J n_Course_standingsOf 16 [.ref 38, .int (nI p), .long s, .float 0, .int fi, .int x] [] I A B (pk w f) R := by
    refine lpz (fun i => ∀ (s : Int64) (fi : Int32) (x : Int32), s = sm (fun j => B 36 (p * P + j)) i → fi = nI (p * P) → x = nI (p * P + i) → J n_Course_standingsOf 16 [.ref 38, .int (nI p), .long s, .float 0, .int fi, .int x] [] I A B (pk w f) R) (fun i hi ih => ?_)
    intro s fi x es efi ex
    subst es; subst efi; subst ex
    refine X 200 _ _ _ _ _ _ _ _ _ ?_
    refine And.intro (fun q1 => ?_) (fun q1 => ?_)
    · rw [hP, nI_add] at q1
      have e := lpxo hi (by omega) q1
      subst e
      exact h
    · rw [hP, nI_add] at q1
      have hl := lpco hi (by omega) q1
      have hb31 : p * P + i < 2 ^ 31 := by omega
      refine c_standing X (d := p * P + i) rfl (by omega) ?_
      exact ih hl _ _ _ (by simp only [sm, cl hb31] <;> rfl) rfl (nI_1 _)
  refine X 200 _ _ _ _ _ _ _ _ _ ?_
  exact G 0 (Nat.zero_le _) _ _ _ rfl (by rw [hP, pk_mul]) (by rw [hP, pk_mul]; rfl)
/-- what is left to the limit on a day -/
def rmd (A : mI) (B : mB) (d : Nat) : Int64 := B 36 d + (A 25 d).toInt64
def mnu (g : Nat → Int64) (a : Nat) : Nat → Int64
  | 0 => g a
  | n + 1 => if g (a + n + 1) < mnu g a n then g (a + n + 1) else mnu g a n
set_option maxRecDepth 20000 in
theorem c_daysBeyond {J : mJ} (X : mRules J) {I A : mI} {B : mB} {w f : Nat} {R : mR} {D : Nat} (hD : I 16 4 * I 16 5 = nI D) (hb : D ≤ 320) (h : R (some (.int (nI (ct (fun j => decide (rmd A B j < 0)) D)))) I A B (pk w f)) : J n_Course_daysBeyond 0 [.ref 38, .float 0, .float 0] [] I A B (pk w f) R := by
  have G : ∀ i, i ≤ D → ∀ (s : Int32) (x : Int32), s = nI (ct (fun j => decide (rmd A B j < 0)) i) → x = nI i → J n_Course_daysBeyond 4 [.ref 38, .int s, .int x] [] I A B (pk w f) R := by
    refine lpz (fun i => ∀ (s : Int32) (x : Int32), s = nI (ct (fun j => decide (rmd A B j < 0)) i) → x = nI i → J n_Course_daysBeyond 4 [.ref 38, .int s, .int x] [] I A B (pk w f) R) (fun i hi ih => ?_)
    intro s x es ex
    subst es; subst ex
    refine X 200 _ _ _ _ _ _ _ _ _ ?_
    refine And.intro (fun q1 => ?_) (fun q1 => ?_)
    · rw [hD] at q1
      have e := lpx hi (by omega) q1
      subst e
      exact h
    · rw [hD] at q1
      have hl := lpc hi (by omega) q1
      have hb31 : i < 2 ^ 31 := by omega
      refine c_standing X (d := i) rfl (by omega) ?_
      refine c_rule X (r := 6) (d := i) rfl rfl (by omega) (by omega) ?_
      refine And.intro (fun q2 => ?_) (fun q2 => ?_)
      · have qq : ¬ rmd A B i < 0 := by
          simp only [rmd]
          first | exact Int64.not_lt.mpr q2 | exact Int64.not_le.mp q2
        exact ih hl _ _ (by simp [ct, nI_1, qq]) (nI_1 i)
      · have qq : rmd A B i < 0 := by
          simp only [rmd]
          first | exact Int64.not_lt.mpr q2 | exact Int64.not_le.mp q2
        exact ih hl _ _ (by simp [ct, nI_1, qq]) (nI_1 i)
  refine X 200 _ _ _ _ _ _ _ _ _ ?_
  exact G 0 (Nat.zero_le _) _ _ rfl rfl
set_option maxRecDepth 20000 in
theorem c_firstDayBeyond {J : mJ} (X : mRules J) {I A : mI} {B : mB} {w f : Nat} {R : mR} {D : Nat} (hD : I 16 4 * I 16 5 = nI D) (hb : D ≤ 320) (h : R (some (.int (fI (fd (fun j => decide (rmd A B j < 0)) D)))) I A B (pk w f)) : J n_Course_firstDayBeyond 0 [.ref 38, .float 0] [] I A B (pk w f) R := by
  have G : ∀ i, i ≤ D → ∀ (x : Int32), x = nI i → (∀ j, j < i → (fun j => decide (rmd A B j < 0)) j = false) → J n_Course_firstDayBeyond 2 [.ref 38, .int x] [] I A B (pk w f) R := by
    refine lpz (fun i => ∀ (x : Int32), x = nI i → (∀ j, j < i → (fun j => decide (rmd A B j < 0)) j = false) → J n_Course_firstDayBeyond 2 [.ref 38, .int x] [] I A B (pk w f) R) (fun i hi ih => ?_)
    intro x ex hno
    subst ex
    refine X 200 _ _ _ _ _ _ _ _ _ ?_
    refine And.intro (fun q1 => ?_) (fun q1 => ?_)
    · rw [hD] at q1
      have e := lpx hi (by omega) q1
      subst e
      rw [fd_no hno] at h
      exact h
    · rw [hD] at q1
      have hl := lpc hi (by omega) q1
      have hb31 : i < 2 ^ 31 := by omega
      refine c_standing X (d := i) rfl (by omega) ?_
      refine c_rule X (r := 6) (d := i) rfl rfl (by omega) (by omega) ?_
      refine And.intro (fun q2 => ?_) (fun q2 => ?_)
      · exact ih hl _ (nI_1 i) (all_lt hno (decide_eq_false (Int64.not_lt.mpr q2)))
      · rw [fd_at hl (decide_eq_true (Int64.not_le.mp q2)) hno] at h
        exact h
  refine X 200 _ _ _ _ _ _ _ _ _ ?_
  exact G 0 (Nat.zero_le _) _ rfl (fun j hj => absurd hj (Nat.not_lt_zero j))
set_option maxRecDepth 20000 in
theorem c_firstDayAt {J : mJ} (X : mRules J) {I A : mI} {B : mB} {w f : Nat} {R : mR} {D : Nat} (hD : I 16 4 * I 16 5 = nI D) (hb : D ≤ 320) {am : Int32} (h : R (some (.int (fI (fd (fun j => decide (am.toInt64 ≤ B 36 j)) D)))) I A B (pk w f)) : J n_Course_firstDayAt 0 [.ref 38, .int am, .float 0] [] I A B (pk w f) R := by
  have G : ∀ i, i ≤ D → ∀ (x : Int32), x = nI i → (∀ j, j < i → (fun j => decide (am.toInt64 ≤ B 36 j)) j = false) → J n_Course_firstDayAt 2 [.ref 38, .int am, .int x] [] I A B (pk w f) R := by
    refine lpz (fun i => ∀ (x : Int32), x = nI i → (∀ j, j < i → (fun j => decide (am.toInt64 ≤ B 36 j)) j = false) → J n_Course_firstDayAt 2 [.ref 38, .int am, .int x] [] I A B (pk w f) R) (fun i hi ih => ?_)
    intro x ex hno
    subst ex
    refine X 200 _ _ _ _ _ _ _ _ _ ?_
    refine And.intro (fun q1 => ?_) (fun q1 => ?_)
    · rw [hD] at q1
      have e := lpx hi (by omega) q1
      subst e
      rw [fd_no hno] at h
      exact h
    · rw [hD] at q1
      have hl := lpc hi (by omega) q1
      have hb31 : i < 2 ^ 31 := by omega
      refine c_standing X (d := i) rfl (by omega) ?_
      refine And.intro (fun q2 => ?_) (fun q2 => ?_)
      · exact ih hl _ (nI_1 i) (all_lt hno (decide_eq_false (Int64.not_le.mpr q2)))
      · rw [fd_at hl (decide_eq_true (Int64.not_lt.mp q2)) hno] at h
        exact h
  refine X 200 _ _ _ _ _ _ _ _ _ ?_
  exact G 0 (Nat.zero_le _) _ rfl (fun j hj => absurd hj (Nat.not_lt_zero j))
set_option maxRecDepth 20000 in
theorem c_leastStanding {J : mJ} (X : mRules J) {I A : mI} {B : mB} {w f : Nat} {R : mR} {D : Nat} (hD : I 16 4 * I 16 5 = nI D) (hb : D ≤ 320) (hD1 : 1 ≤ D) (h : R (some (.long (mnu (B 36) 0 (D - 1)))) I A B (pk w f)) : J n_Course_leastStanding 0 [.ref 38, .float 0, .float 0, .float 0] [] I A B (pk w f) R := by
  have G : ∀ i, i ≤ (D - 1) → ∀ (s : Int64) (x : Int32), s = mnu (B 36) 0 i → x = nI (1 + i) → J n_Course_leastStanding 11 [.ref 38, .long s, .float 0, .int x] [] I A B (pk w f) R := by
    refine lpz (fun i => ∀ (s : Int64) (x : Int32), s = mnu (B 36) 0 i → x = nI (1 + i) → J n_Course_leastStanding 11 [.ref 38, .long s, .float 0, .int x] [] I A B (pk w f) R) (fun i hi ih => ?_)
    intro s x es ex
    subst es; subst ex
    refine X 200 _ _ _ _ _ _ _ _ _ ?_
    refine And.intro (fun q1 => ?_) (fun q1 => ?_)
    · rw [hD, show D = 1 + (D - 1) by omega] at q1
      have e := lpxo hi (by omega) q1
      subst e
      exact h
    · rw [hD, show D = 1 + (D - 1) by omega] at q1
      have hl := lpco hi (by omega) q1
      have hb31 : 1 + i < 2 ^ 31 := by omega
      refine c_standing X (d := 1 + i) rfl (by omega) ?_
      exact ih hl _ _ (by simp only [mnu]; rw [show 0 + i + 1 = 1 + i by omega]) (nI_1 _)
  refine X 200 _ _ _ _ _ _ _ _ _ ?_
  refine c_standing X (d := 0) rfl (by omega) ?_
  exact G 0 (Nat.zero_le _) _ _ rfl rfl
set_option maxRecDepth 20000 in
theorem c_roomFrom {J : mJ} (X : mRules J) {I A : mI} {B : mB} {w f : Nat} {R : mR} {D : Nat} (hD : I 16 4 * I 16 5 = nI D) (hb : D ≤ 320) {a : Nat} (ha : a < D) (h : R (some (.long (mnu (rmd A B) a (D - 1 - a)))) I A B (pk w f)) : J n_Course_roomFrom 0 [.ref 38, .int (nI a), .float 0, .float 0, .float 0] [] I A B (pk w f) R := by
  have G : ∀ i, i ≤ (D - 1 - a) → ∀ (s : Int64) (x : Int32), s = mnu (rmd A B) a i → x = nI (a + 1 + i) → J n_Course_roomFrom 11 [.ref 38, .int (nI a), .long s, .float 0, .int x] [] I A B (pk w f) R := by
    refine lpz (fun i => ∀ (s : Int64) (x : Int32), s = mnu (rmd A B) a i → x = nI (a + 1 + i) → J n_Course_roomFrom 11 [.ref 38, .int (nI a), .long s, .float 0, .int x] [] I A B (pk w f) R) (fun i hi ih => ?_)
    intro s x es ex
    subst es; subst ex
    refine X 200 _ _ _ _ _ _ _ _ _ ?_
    refine And.intro (fun q1 => ?_) (fun q1 => ?_)
    · rw [hD, show D = a + 1 + (D - 1 - a) by omega] at q1
      have e := lpxo hi (by omega) q1
      subst e
      exact h
    · rw [hD, show D = a + 1 + (D - 1 - a) by omega] at q1
      have hl := lpco hi (by omega) q1
      have hb31 : a + 1 + i < 2 ^ 31 := by omega
      refine c_standing X (d := a + 1 + i) rfl (by omega) ?_
      refine c_rule X (r := 6) (d := a + 1 + i) rfl rfl (by omega) (by omega) ?_
      exact ih hl _ _ (by simp only [mnu]; rw [show a + i + 1 = a + 1 + i by omega]; rfl) (nI_1 _)
  refine X 200 _ _ _ _ _ _ _ _ _ ?_
  refine c_standing X (d := a) rfl (by omega) ?_
  refine c_rule X (r := 6) (d := a) rfl rfl (by omega) (by omega) ?_
  exact G 0 (Nat.zero_le _) _ _ rfl (by rw [nI_1])
theorem nIp {n : Nat} : nI (1 + n) - 1 = nI n := by rw [Nat.add_comm 1 n]; exact nI_pred n
theorem c_isStep {J : mJ} (X : mRules J) {I A : mI} {B : mB} {w f : Nat} {R : mR} {x : Int32} {d : Nat} (ex : x = nI (1 + d)) (hd : 1 + d < 320) (h1 : ¬ B 36 (1 + d) = B 36 d → R (some (.int 1)) I A B (pk w f)) (h0 : B 36 (1 + d) = B 36 d → R (some (.int 0)) I A B (pk w f)) : J n_Course_isStep 0 [.ref 38, .int x] [] I A B (pk w f) R := by
  subst ex
  refine X 200 _ _ _ _ _ _ _ _ _ ?_
  refine c_standing X (d := 1 + d) rfl (by omega) ?_
  refine c_standing X (d := d) nIp (by omega) ?_
  refine And.intro (fun q1 => ?_) (fun q1 => ?_)
  · refine And.intro (Or.inl rfl) ?_
    first | exact h1 q1 | exact h0 q1
  · refine And.intro (Or.inr rfl) ?_
    first | exact h1 q1 | exact h0 q1
/-- a day ahead of which another balance stands -/
def stp (B : mB) (j : Nat) : Bool := decide (¬ B 36 (1 + j) = B 36 j)
set_option maxRecDepth 20000 in
theorem c_stepsTill {J : mJ} (X : mRules J) {I A : mI} {B : mB} {w f : Nat} {R : mR} {D : Nat} {xD : Int32} (hD : xD = nI D) (hb : D ≤ 320) (hD1 : 1 ≤ D) (h : R (some (.int (nI (ct (stp B) (D - 1))))) I A B (pk w f)) : J n_Course_stepsTill 0 [.ref 38, .int xD, .float 0, .float 0] [] I A B (pk w f) R := by
  have G : ∀ i, i ≤ (D - 1) → ∀ (s : Int32) (x : Int32), s = nI (ct (stp B) i) → x = nI (1 + i) → J n_Course_stepsTill 4 [.ref 38, .int xD, .int s, .int x] [] I A B (pk w f) R := by
    refine lpz (fun i => ∀ (s : Int32) (x : Int32), s = nI (ct (stp B) i) → x = nI (1 + i) → J n_Course_stepsTill 4 [.ref 38, .int xD, .int s, .int x] [] I A B (pk w f) R) (fun i hi ih => ?_)
    intro s x es ex
    subst es; subst ex
    refine X 200 _ _ _ _ _ _ _ _ _ ?_
    refine And.intro (fun q1 => ?_) (fun q1 => ?_)
    · rw [hD, show D = 1 + (D - 1) by omega] at q1
      have e := lpxo hi (by omega) q1
      subst e
      exact h
    · rw [hD, show D = 1 + (D - 1) by omega] at q1
      have hl := lpco hi (by omega) q1
      refine c_isStep X (d := i) rfl (by omega) (fun z1 => ?_) (fun z1 => ?_)
      · refine And.intro (fun q => absurd q (by decide)) (fun _ => ?_)
        exact ih hl _ _ (by simp [ct, nI_1, stp, z1]) (nI_1 _)
      · refine And.intro (fun _ => ?_) (fun q => absurd (by decide) q)
        exact ih hl _ _ (by simp [ct, nI_1, stp, z1]) (nI_1 _)
  refine X 200 _ _ _ _ _ _ _ _ _ ?_
  exact G 0 (Nat.zero_le _) _ _ rfl rfl
set_option maxRecDepth 20000 in
theorem c_stepDay {J : mJ} (X : mRules J) {I A : mI} {B : mB} {w f : Nat} {R : mR} {D : Nat} (hD : I 16 4 * I 16 5 = nI D) (hb : D ≤ 320) {k : Int32} (hD1 : 1 ≤ D) (h : R (some (.int (match fd (fun j => stp B j && decide (nI (ct (stp B) j) = k)) (D - 1) with | some j => nI (1 + j) | none => -1))) I A B (pk w f)) : J n_Course_stepDay 0 [.ref 38, .int k, .float 0, .float 0] [] I A B (pk w f) R := by
  have G : ∀ i, i ≤ (D - 1) → ∀ (s : Int32) (x : Int32), s = nI (ct (stp B) i) → x = nI (1 + i) → (∀ j, j < i → (fun j => stp B j && decide (nI (ct (stp B) j) = k)) j = false) → J n_Course_stepDay 4 [.ref 38, .int k, .int s, .int x] [] I A B (pk w f) R := by
    refine lpz (fun i => ∀ (s : Int32) (x : Int32), s = nI (ct (stp B) i) → x = nI (1 + i) → (∀ j, j < i → (fun j => stp B j && decide (nI (ct (stp B) j) = k)) j = false) → J n_Course_stepDay 4 [.ref 38, .int k, .int s, .int x] [] I A B (pk w f) R) (fun i hi ih => ?_)
    intro s x es ex hno
    subst es; subst ex
    refine X 200 _ _ _ _ _ _ _ _ _ ?_
    refine And.intro (fun q1 => ?_) (fun q1 => ?_)
    · rw [hD, show D = 1 + (D - 1) by omega] at q1
      have e := lpxo hi (by omega) q1
      subst e
      rw [fd_no hno] at h
      exact h
    · rw [hD, show D = 1 + (D - 1) by omega] at q1
      have hl := lpco hi (by omega) q1
      refine c_isStep X (d := i) rfl (by omega) (fun z1 => ?_) (fun z1 => ?_)
      · refine And.intro (fun q => absurd q (by decide)) (fun _ => ?_)
        refine And.intro (fun q2 => ?_) (fun q2 => ?_)
        · exact ih hl _ _ (by simp [ct, nI_1, stp, z1]) (nI_1 _) (all_lt hno (by simp [stp, z1, q2]))
        · rw [fd_at hl (by simp [stp, z1, q2]) hno] at h
          exact h
      · refine And.intro (fun _ => ?_) (fun q => absurd (by decide) q)
        exact ih hl _ _ (by simp [ct, nI_1, stp, z1]) (nI_1 _) (all_lt hno (by simp [stp, z1]))
  refine X 200 _ _ _ _ _ _ _ _ _ ?_
  exact G 0 (Nat.zero_le _) _ _ rfl rfl (fun j hj => absurd hj (Nat.not_lt_zero j))
