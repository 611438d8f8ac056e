/-! contracts: what would be (written by wip/whole/gc7.py) -/
/-- how much more a period's interest is than it would be without an entry -/
def gin (A : mI) (B : mB) (nt P e p : Nat) : Int64 := nea (pds A B nt 36 P p 0 0) - nea (pds A B nt 36 P p (A 32 e) (-(B 31 e)))
def abl (x : Int64) : Int64 := if 0 < x then x else -x
/-- the first of the greatest above 0, and it -/
def mgl (g : Nat → Int64) : Nat → Int32 × Int64
  | 0 => (-1, 0)
  | n + 1 => if g n ≤ (mgl g n).2 then mgl g n else (nI n, g n)
/-- what is booked as a period's interest -/
def ibk (A : mI) (B : mB) (n : Nat) (p : Int32) : Int64 := sm (fun j => if A 34 j = p ∧ (A 30 j = 1 ∨ A 30 j = 2) then B 31 j else 0) n
def tlo (A : mI) (B : mB) (t : Nat) (mo : Int32) (d : Nat) : Int64 := ptO A t (B 36 d) * ((if 0 < A (19 + t) d + mo then A (19 + t) d + mo else 0) - A (19 + t) d).toInt64
def lmo (A : mI) (B : mB) (nt : Nat) (l : Int32) (d : Nat) : Int64 := crd A d (B 36 d) nt 0 0 0 - dbt A l d (B 36 d)
set_option maxRecDepth 20000 in
theorem c_gainBy {J : mJ} (X : mRules J) {I A : mI} {B : mB} {w f : Nat} {R : mR} {nt P N : Nat} (hnt : nt ≤ 4) (hI : I 17 4 = nI nt) (hP : I 16 4 = nI P) (hN : I 16 5 = nI N) (hb : N * P ≤ 320) (hN8 : N ≤ 320) {n : Nat} (hn : n ≤ 220) (hz : I 29 6 = nI n) {xe : Int32} {e0 : Nat} (exe : xe = nI e0) (he : e0 < n) (h : R (some (.long (sm (fun p => gin A B nt P e0 p) N))) I A B (pk w f)) : J n_WhatIf_gainBy 0 [.ref 39, .int xe, .float 0, .float 0, .float 0] [] I A B (pk w f) R := by
  subst exe
  have G : ∀ i, i ≤ N → ∀ (s : Int64) (x : Int32), s = sm (fun p => gin A B nt P e0 p) i → x = nI i → J n_WhatIf_gainBy 5 [.ref 39, .int (nI e0), .long s, .float 0, .int x] [] I A B (pk w f) R := by
    refine lpz (fun i => ∀ (s : Int64) (x : Int32), s = sm (fun p => gin A B nt P e0 p) i → x = nI i → J n_WhatIf_gainBy 5 [.ref 39, .int (nI e0), .long s, .float 0, .int x] [] I A B (pk w f) R) (fun i hi ih => ?_)
    intro s x es ex
    subst es; subst ex
    refine X 200 _ _ _ _ _ _ _ _ _ ?_
    refine And.intro (fun q1 => ?_) (fun q1 => ?_)
    · rw [hN] at q1
      have e := lpx hi (by omega) q1
      subst e
      exact h
    · rw [hN] at q1
      have hl := lpc hi (by omega) q1
      have hm : i * P + P ≤ 320 := by have := Nat.mul_le_mul_right P (show i + 1 ≤ N by omega); rw [Nat.add_mul, Nat.one_mul] at this; omega
      refine c_valueOf X hn hz (i := e0) rfl he ?_
      refine c_amountOf X hn hz (i := e0) rfl he ?_
      refine c_productsOf36 X hnt hI hP (p := i) rfl hm ?_
      refine c_nearest X ?_
      refine c_productsOf36 X hnt hI hP (p := i) rfl hm ?_
      refine c_nearest X ?_
      exact ih hl _ _ rfl (nI_1 i)
  refine X 200 _ _ _ _ _ _ _ _ _ ?_
  exact G 0 (Nat.zero_le _) _ _ rfl rfl
set_option maxRecDepth 20000 in
theorem c_unlikeWith {J : mJ} (X : mRules J) {I A : mI} {B : mB} {w f : Nat} {R : mR} {nt P N : Nat} (hnt : nt ≤ 4) (hI : I 17 4 = nI nt) (hP : I 16 4 = nI P) (hN : I 16 5 = nI N) (hb : N * P ≤ 320) (hN8 : N ≤ 320) {n : Nat} (hn : n ≤ 220) (hz : I 29 6 = nI n) {c : Nat} (hc : I 16 7 = nI c) (hcN : c ≤ N) {dy am : Int32} (h : R (some (.long (sm (fun p => nea (pds A B nt 36 P p dy am.toInt64) - ibk A B n (nI p)) c))) I A B (pk w f)) : J n_WhatIf_unlikeWith 0 [.ref 39, .int dy, .int am, .float 0, .float 0, .float 0] [] I A B (pk w f) R := by
  have G : ∀ i, i ≤ c → ∀ (s : Int64) (x : Int32), s = sm (fun p => nea (pds A B nt 36 P p dy am.toInt64) - ibk A B n (nI p)) i → x = nI i → J n_WhatIf_unlikeWith 5 [.ref 39, .int dy, .int am, .long s, .float 0, .int x] [] I A B (pk w f) R := by
    refine lpz (fun i => ∀ (s : Int64) (x : Int32), s = sm (fun p => nea (pds A B nt 36 P p dy am.toInt64) - ibk A B n (nI p)) i → x = nI i → J n_WhatIf_unlikeWith 5 [.ref 39, .int dy, .int am, .long s, .float 0, .int x] [] I A B (pk w f) R) (fun i hi ih => ?_)
    intro s x es ex
    subst es; subst ex
    refine X 200 _ _ _ _ _ _ _ _ _ ?_
    refine And.intro (fun q1 => ?_) (fun q1 => ?_)
    · rw [hc] at q1
      have e := lpx hi (by omega) q1
      subst e
      exact h
    · rw [hc] at q1
      have hl := lpc hi (by omega) q1
      have hm : i * P + P ≤ 320 := by have := Nat.mul_le_mul_right P (show i + 1 ≤ N by omega); rw [Nat.add_mul, Nat.one_mul] at this; omega
      refine c_productsOf36 X hnt hI hP (p := i) rfl hm ?_
      refine c_nearest X ?_
      refine c_interestBooked X hn hz ?_
      exact ih hl _ _ rfl (nI_1 i)
  refine X 200 _ _ _ _ _ _ _ _ _ ?_
  exact G 0 (Nat.zero_le _) _ _ rfl rfl
set_option maxRecDepth 20000 in
theorem c_firstTouched {J : mJ} (X : mRules J) {I A : mI} {B : mB} {w f : Nat} {R : mR} {nt P N : Nat} (hnt : nt ≤ 4) (hI : I 17 4 = nI nt) (hP : I 16 4 = nI P) (hN : I 16 5 = nI N) (hb : N * P ≤ 320) (hN8 : N ≤ 320) {c : Nat} (hc : I 16 7 = nI c) (hcN : c ≤ N) {dy am : Int32} (h : R (some (.int (fI (fd (fun p => decide (¬ nea (pds A B nt 36 P p dy am.toInt64) = nea (pds A B nt 36 P p 0 0))) c)))) I A B (pk w f)) : J n_WhatIf_firstTouched 0 [.ref 39, .int dy, .int am, .float 0] [] I A B (pk w f) R := by
  have G : ∀ i, i ≤ c → ∀ (x : Int32), x = nI i → (∀ j, j < i → (fun p => decide (¬ nea (pds A B nt 36 P p dy am.toInt64) = nea (pds A B nt 36 P p 0 0))) j = false) → J n_WhatIf_firstTouched 2 [.ref 39, .int dy, .int am, .int x] [] I A B (pk w f) R := by
    refine lpz (fun i => ∀ (x : Int32), x = nI i → (∀ j, j < i → (fun p => decide (¬ nea (pds A B nt 36 P p dy am.toInt64) = nea (pds A B nt 36 P p 0 0))) j = false) → J n_WhatIf_firstTouched 2 [.ref 39, .int dy, .int am, .int x] [] I A B (pk w f) R) (fun i hi ih => ?_)
    intro x ex hno
    subst ex
    refine X 200 _ _ _ _ _ _ _ _ _ ?_
    refine And.intro (fun q1 => ?_) (fun q1 => ?_)
    · rw [hc] at q1
      have e := lpx hi (by omega) q1
      subst e
      rw [fd_no hno] at h
      exact h
    · rw [hc] at q1
      have hl := lpc hi (by omega) q1
      have hm : i * P + P ≤ 320 := by have := Nat.mul_le_mul_right P (show i + 1 ≤ N by omega); rw [Nat.add_mul, Nat.one_mul] at this; omega
      refine c_productsOf36 X hnt hI hP (p := i) rfl hm ?_
      refine c_nearest X ?_
      refine c_productsOf36 X hnt hI hP (p := i) rfl hm ?_
      refine c_nearest X ?_
      refine And.intro (fun q2 => ?_) (fun q2 => ?_)
      · exact ih hl _ (nI_1 i) (all_lt hno (decide_eq_false (fun z => z q2)))
      · rw [fd_at hl (decide_eq_true q2) hno] at h
        exact h
  refine X 200 _ _ _ _ _ _ _ _ _ ?_
  exact G 0 (Nat.zero_le _) _ rfl (fun j hj => absurd hj (Nat.not_lt_zero j))
set_option maxRecDepth 20000 in
theorem c_mostGuilty {J : mJ} (X : mRules J) {I A : mI} {B : mB} {w f : Nat} {R : mR} {nt P N : Nat} (hnt : nt ≤ 4) (hI : I 17 4 = nI nt) (hP : I 16 4 = nI P) (hN : I 16 5 = nI N) (hb : N * P ≤ 320) (hN8 : N ≤ 320) {n : Nat} (hn : n ≤ 220) (hz : I 29 6 = nI n) {xp : Int32} {p : Nat} (exp : xp = nI p) (hp : p < N) (h : R (some (.int (mgl (fun e => abl (gin A B nt P e p)) n).1)) I A B (pk w f)) : J n_WhatIf_mostGuilty 0 [.ref 39, .int xp, .float 0, .float 0, .float 0, .float 0, .float 0, .float 0] [] I A B (pk w f) R := by
  subst exp
  have hm : p * P + P ≤ 320 := by have := Nat.mul_le_mul_right P (show p + 1 ≤ N by omega); rw [Nat.add_mul, Nat.one_mul] at this; omega
  have G : ∀ i, i ≤ n → ∀ (b0 : Int32) (s : Int64) (x : Int32) (v : Value), b0 = (mgl (fun e => abl (gin A B nt P e p)) i).1 → s = (mgl (fun e => abl (gin A B nt P e p)) i).2 → x = nI i → J n_WhatIf_mostGuilty 7 [.ref 39, .int (nI p), .int b0, .long s, .float 0, .int x, v, .float 0] [] I A B (pk w f) R := by
    refine lpz (fun i => ∀ (b0 : Int32) (s : Int64) (x : Int32) (v : Value), b0 = (mgl (fun e => abl (gin A B nt P e p)) i).1 → s = (mgl (fun e => abl (gin A B nt P e p)) i).2 → x = nI i → J n_WhatIf_mostGuilty 7 [.ref 39, .int (nI p), .int b0, .long s, .float 0, .int x, v, .float 0] [] I A B (pk w f) R) (fun i hi ih => ?_)
    intro b0 s x v eb0 es ex
    subst eb0; subst es; subst ex
    refine X 200 _ _ _ _ _ _ _ _ _ ?_
    refine And.intro (fun q1 => ?_) (fun q1 => ?_)
    · rw [hz] at q1
      have e := lpx hi (by omega) q1
      subst e
      exact h
    · rw [hz] at q1
      have hl := lpc hi (by omega) q1
      refine c_valueOf X hn hz (i := i) rfl hl ?_
      refine c_amountOf X hn hz (i := i) rfl hl ?_
      refine c_productsOf36 X hnt hI hP (p := p) rfl hm ?_
      refine c_nearest X ?_
      refine c_productsOf36 X hnt hI hP (p := p) rfl hm ?_
      refine c_nearest X ?_
      refine And.intro (fun q2 => ?_) (fun q2 => ?_)
      · have e1 : mgl (fun e => abl (gin A B nt P e p)) (i + 1) = mgl (fun e => abl (gin A B nt P e p)) i := by
          show (if abl (gin A B nt P i p) ≤ (mgl (fun e => abl (gin A B nt P e p)) i).2 then mgl (fun e => abl (gin A B nt P e p)) i else (nI i, abl (gin A B nt P i p))) = _
          first | exact if_pos q2 | exact if_neg q2
        exact ih hl _ _ _ _ (by rw [e1] <;> rfl) (by rw [e1] <;> rfl) (nI_1 i)
      · have e1 : mgl (fun e => abl (gin A B nt P e p)) (i + 1) = (nI i, abl (gin A B nt P i p)) := by
          show (if abl (gin A B nt P i p) ≤ (mgl (fun e => abl (gin A B nt P e p)) i).2 then mgl (fun e => abl (gin A B nt P e p)) i else (nI i, abl (gin A B nt P i p))) = _
          first | exact if_pos q2 | exact if_neg q2
        exact ih hl _ _ _ _ (by rw [e1] <;> rfl) (by rw [e1] <;> rfl) (nI_1 i)
  refine X 200 _ _ _ _ _ _ _ _ _ ?_
  exact G 0 (Nat.zero_le _) _ _ _ _ rfl rfl rfl
set_option maxRecDepth 20000 in
theorem c_tiltIn {J : mJ} (X : mRules J) {I A : mI} {B : mB} {w f : Nat} {R : mR} {P p : Nat} (hP : I 16 4 = nI P) {xp : Int32} (exp : xp = nI p) (hp : p * P + P ≤ 320) {t : Nat} (ht : t < 4) {mo : Int32} (h : R (some (.long (sm (fun j => tlo A B t mo (p * P + j)) P))) I A B (pk w f)) : J n_WhatIf_tiltIn 0 [.ref 39, .int xp, .int (nI t), .int mo, .float 0, .float 0, .float 0, .float 0] [] I A B (pk w f) R := by
  subst exp
  have G : ∀ i, i ≤ P → ∀ (s : Int64) (fi : Int32) (x : Int32), s = sm (fun j => tlo A B t mo (p * P + j)) i → fi = nI (p * P) → x = nI (p * P + i) → J n_WhatIf_tiltIn 17 [.ref 39, .int (nI p), .int (nI t), .int mo, .long s, .float 0, .int fi, .int x] [] I A B (pk w f) R := by
    refine lpz (fun i => ∀ (s : Int64) (fi : Int32) (x : Int32), s = sm (fun j => tlo A B t mo (p * P + j)) i → fi = nI (p * P) → x = nI (p * P + i) → J n_WhatIf_tiltIn 17 [.ref 39, .int (nI p), .int (nI t), .int mo, .long s, .float 0, .int fi, .int x] [] I A B (pk w f) R) (fun i hi ih => ?_)
    intro s fi x es efi ex
    subst es; subst efi; subst ex
    refine X 200 _ _ _ _ _ _ _ _ _ ?_
    refine And.intro (fun q1 => ?_) (fun q1 => ?_)
    · rw [hP, nI_add] at q1
      have e := lpxo hi (by omega) q1
      subst e
      exact h
    · rw [hP, nI_add] at q1
      have hl := lpco hi (by omega) q1
      have hb31 : p * P + i < 2 ^ 31 := by omega
      refine c_standing X (d := p * P + i) rfl (by omega) ?_
      refine c_rule X (r := t) (d := p * P + i) rfl rfl (by omega) (by omega) ?_
      refine c_partOf X (t := t) rfl ht ?_
      exact ih hl _ _ _ (by simp only [sm, cl hb31] <;> rfl) rfl (nI_1 _)
  refine X 200 _ _ _ _ _ _ _ _ _ ?_
  exact G 0 (Nat.zero_le _) _ _ _ rfl (by rw [hP, pk_mul]) (by rw [hP, pk_mul]; rfl)
set_option maxRecDepth 20000 in
theorem c_limitedProducts {J : mJ} (X : mRules J) {I A : mI} {B : mB} {w f : Nat} {R : mR} {nt : Nat} (hnt : nt ≤ 4) (hI : I 17 4 = nI nt) {P p : Nat} (hP : I 16 4 = nI P) {xp : Int32} (exp : xp = nI p) (hp : p * P + P ≤ 320) {l : Int32} (h : R (some (.long (sm (fun j => lmo A B nt l (p * P + j)) P))) I A B (pk w f)) : J n_WhatIf_limitedProducts 0 [.ref 39, .int xp, .int l, .float 0, .float 0, .float 0, .float 0, .float 0, .float 0] [] I A B (pk w f) R := by
  subst exp
  have G : ∀ i, i ≤ P → ∀ (s : Int64) (fi : Int32) (x : Int32) (v : Value), s = sm (fun j => lmo A B nt l (p * P + j)) i → fi = nI (p * P) → x = nI (p * P + i) → J n_WhatIf_limitedProducts 16 [.ref 39, .int (nI p), .int l, .long s, .float 0, .int fi, .int x, v, .float 0] [] I A B (pk w f) R := by
    refine lpz (fun i => ∀ (s : Int64) (fi : Int32) (x : Int32) (v : Value), s = sm (fun j => lmo A B nt l (p * P + j)) i → fi = nI (p * P) → x = nI (p * P + i) → J n_WhatIf_limitedProducts 16 [.ref 39, .int (nI p), .int l, .long s, .float 0, .int fi, .int x, v, .float 0] [] I A B (pk w f) R) (fun i hi ih => ?_)
    intro s fi x v es efi ex
    subst es; subst efi; subst ex
    refine X 200 _ _ _ _ _ _ _ _ _ ?_
    refine And.intro (fun q1 => ?_) (fun q1 => ?_)
    · rw [hP, nI_add] at q1
      have e := lpxo hi (by omega) q1
      subst e
      exact h
    · rw [hP, nI_add] at q1
      have hl := lpco hi (by omega) q1
      have hb31 : p * P + i < 2 ^ 31 := by omega
      refine c_standing X (d := p * P + i) rfl (by omega) ?_
      refine c_credit X (d := p * P + i) rfl (by omega) hnt hI ?_
      refine c_debtBy X (d := p * P + i) rfl (by omega) ?_
      exact ih hl _ _ _ _ (by simp only [sm, cl hb31] <;> rfl) rfl (nI_1 _)
  refine X 200 _ _ _ _ _ _ _ _ _ ?_
  exact G 0 (Nat.zero_le _) _ _ _ _ rfl (by rw [hP, pk_mul]) (by rw [hP, pk_mul]; rfl)
set_option maxRecDepth 20000 in
theorem c_gainByTilt {J : mJ} (X : mRules J) {I A : mI} {B : mB} {w f : Nat} {R : mR} {nt P N : Nat} (hnt : nt ≤ 4) (hI : I 17 4 = nI nt) (hP : I 16 4 = nI P) (hN : I 16 5 = nI N) (hb : N * P ≤ 320) (hN8 : N ≤ 320) {t : Nat} (ht : t < 4) {mo : Int32} (h : R (some (.long (sm (fun p => nea (pds A B nt 36 P p 0 0 + sm (fun j => tlo A B t mo (p * P + j)) P) - nea (pds A B nt 36 P p 0 0)) N))) I A B (pk w f)) : J n_WhatIf_gainByTilt 0 [.ref 39, .int (nI t), .int mo, .float 0, .float 0, .float 0, .float 0, .float 0] [] I A B (pk w f) R := by
  have G : ∀ i, i ≤ N → ∀ (s : Int64) (x : Int32) (v : Value), s = sm (fun p => nea (pds A B nt 36 P p 0 0 + sm (fun j => tlo A B t mo (p * P + j)) P) - nea (pds A B nt 36 P p 0 0)) i → x = nI i → J n_WhatIf_gainByTilt 5 [.ref 39, .int (nI t), .int mo, .long s, .float 0, .int x, v, .float 0] [] I A B (pk w f) R := by
    refine lpz (fun i => ∀ (s : Int64) (x : Int32) (v : Value), s = sm (fun p => nea (pds A B nt 36 P p 0 0 + sm (fun j => tlo A B t mo (p * P + j)) P) - nea (pds A B nt 36 P p 0 0)) i → x = nI i → J n_WhatIf_gainByTilt 5 [.ref 39, .int (nI t), .int mo, .long s, .float 0, .int x, v, .float 0] [] I A B (pk w f) R) (fun i hi ih => ?_)
    intro s x v es ex
    subst es; subst ex
    refine X 200 _ _ _ _ _ _ _ _ _ ?_
    refine And.intro (fun q1 => ?_) (fun q1 => ?_)
    · rw [hN] at q1
      have e := lpx hi (by omega) q1
      subst e
      exact h
    · rw [hN] at q1
      have hl := lpc hi (by omega) q1
      have hm : i * P + P ≤ 320 := by have := Nat.mul_le_mul_right P (show i + 1 ≤ N by omega); rw [Nat.add_mul, Nat.one_mul] at this; omega
      refine c_productsOf36 X hnt hI hP (p := i) rfl hm ?_
      refine c_tiltIn X hP (p := i) rfl hm ht ?_
      refine c_nearest X ?_
      refine c_nearest X ?_
      exact ih hl _ _ _ rfl (nI_1 i)
  refine X 200 _ _ _ _ _ _ _ _ _ ?_
  exact G 0 (Nat.zero_le _) _ _ _ rfl rfl
set_option maxRecDepth 20000 in
theorem c_gainByLimit {J : mJ} (X : mRules J) {I A : mI} {B : mB} {w f : Nat} {R : mR} {nt P N : Nat} (hnt : nt ≤ 4) (hI : I 17 4 = nI nt) (hP : I 16 4 = nI P) (hN : I 16 5 = nI N) (hb : N * P ≤ 320) (hN8 : N ≤ 320) {l : Int32} (h : R (some (.long (sm (fun p => nea (sm (fun j => lmo A B nt l (p * P + j)) P) - nea (pds A B nt 36 P p 0 0)) N))) I A B (pk w f)) : J n_WhatIf_gainByLimit 0 [.ref 39, .int l, .float 0, .float 0, .float 0] [] I A B (pk w f) R := by
  have G : ∀ i, i ≤ N → ∀ (s : Int64) (x : Int32), s = sm (fun p => nea (sm (fun j => lmo A B nt l (p * P + j)) P) - nea (pds A B nt 36 P p 0 0)) i → x = nI i → J n_WhatIf_gainByLimit 5 [.ref 39, .int l, .long s, .float 0, .int x] [] I A B (pk w f) R := by
    refine lpz (fun i => ∀ (s : Int64) (x : Int32), s = sm (fun p => nea (sm (fun j => lmo A B nt l (p * P + j)) P) - nea (pds A B nt 36 P p 0 0)) i → x = nI i → J n_WhatIf_gainByLimit 5 [.ref 39, .int l, .long s, .float 0, .int x] [] I A B (pk w f) R) (fun i hi ih => ?_)
    intro s x es ex
    subst es; subst ex
    refine X 200 _ _ _ _ _ _ _ _ _ ?_
    refine And.intro (fun q1 => ?_) (fun q1 => ?_)
    · rw [hN] at q1
      have e := lpx hi (by omega) q1
      subst e
      exact h
    · rw [hN] at q1
      have hl := lpc hi (by omega) q1
      have hm : i * P + P ≤ 320 := by have := Nat.mul_le_mul_right P (show i + 1 ≤ N by omega); rw [Nat.add_mul, Nat.one_mul] at this; omega
      refine c_limitedProducts X hnt hI hP (p := i) rfl hm ?_
      refine c_nearest X ?_
      refine c_productsOf36 X hnt hI hP (p := i) rfl hm ?_
      refine c_nearest X ?_
      exact ih hl _ _ rfl (nI_1 i)
  refine X 200 _ _ _ _ _ _ _ _ _ ?_
  exact G 0 (Nat.zero_le _) _ _ rfl rfl
