/-! contracts: interest (written by wip/whole/gc4.py) -/
set_option maxRecDepth 20000 in
theorem c_credit {J : mJ} (X : mRules J) {I A : mI} {B : mB} {w f : Nat} {R : mR} {xd : Int32} {d nt : Nat} {b : Int64} (ex : xd = nI d) (hd : d < 320) (hnt : nt ≤ 4) (hI : I 17 4 = nI nt) (h : R (some (.long (crd A d b nt 0 0 0))) I A B (pk w f)) : J n_Terms_credit 0 [.ref 17, .int xd, .long b, .float 0, .float 0, .float 0, .float 0, .float 0, .float 0, .float 0, .float 0] [] I A B (pk w f) R := by
  subst ex
  have G : ∀ k i, i + k = nt → ∀ (s z : Int64) (x : Int32) (v : Value), x = nI i → R (some (.long (crd A d b k i s z))) I A B (pk w f) → J n_Terms_credit 22 [.ref 17, .int (nI d), .long b, .float 0, .long s, .float 0, .long z, .float 0, .int x, v, .float 0] [] I A B (pk w f) R := by
    refine lpk (fun i k => ∀ (s z : Int64) (x : Int32) (v : Value), x = nI i → R (some (.long (crd A d b k i s z))) I A B (pk w f) → J n_Terms_credit 22 [.ref 17, .int (nI d), .long b, .float 0, .long s, .float 0, .long z, .float 0, .int x, v, .float 0] [] I A B (pk w f) R) (fun i k hk ih => ?_)
    intro s z x v ex h
    subst ex
    refine X 200 _ _ _ _ _ _ _ _ _ ?_
    refine And.intro (fun q1 => ?_) (fun q1 => ?_)
    · rw [hI] at q1
      have e : k = 0 := by have := lpx (by omega) (by omega) q1; omega
      subst e
      exact h
    · rw [hI] at q1
      have hl : i < nt := lpc (by omega) (by omega) q1
      obtain ⟨k, rfl⟩ : ∃ k0, k = k0 + 1 := ⟨k - 1, by omega⟩
      have hb31 : i < 2 ^ 31 := by omega
      have hd31 : d < 2 ^ 31 := by omega
      refine And.intro (fun q2 => ?_) (fun q2 => ?_)
      · rw [crd, if_neg (Int64.not_lt.mpr q2)] at h
        exact h
      · rw [crd, if_pos (Int64.not_le.mp q2)] at h
        refine Exists.intro _ (And.intro rfl (And.intro (vin (by omega) (by omega)) ?_))
        refine And.intro (fun q3 => ?_) (fun q3 => ?_)
        · refine Exists.intro _ (Exists.intro _ (Exists.intro _ (And.intro rfl (And.intro (vin (by omega) (by omega)) ?_))))
          refine Exists.intro _ (And.intro (rul_sh (by omega)) (And.intro (vin (by omega) (by omega)) ?_))
          simp only [cl hb31] at q3
          have e : tpc A i b = b := by simp [tpc, q3]
          rw [e] at h
          exact ih k rfl _ _ _ _ (nI_1 i) (by simp only [cl hb31, cl hd31, Nat.one_mul]; exact h)
        · refine Exists.intro _ (And.intro rfl (And.intro (vin (by omega) (by omega)) ?_))
          refine And.intro (fun q4 => ?_) (fun q4 => ?_)
          · refine Exists.intro _ (And.intro rfl (And.intro (vin (by omega) (by omega)) ?_))
            refine Exists.intro _ (Exists.intro _ (Exists.intro _ (And.intro rfl (And.intro (vin (by omega) (by omega)) ?_))))
            refine Exists.intro _ (And.intro (rul_sh (by omega)) (And.intro (vin (by omega) (by omega)) ?_))
            simp only [cl hb31] at q3
            simp only [cl hb31] at q4
            have e : tpc A i b = (A 26 i).toInt64 := by simp only [tpc, if_neg q3, if_neg (Int64.not_lt.mpr q4)]
            rw [e] at h
            exact ih k rfl _ _ _ _ (nI_1 i) (by simp only [cl hb31, cl hd31, Nat.one_mul]; exact h)
          · refine Exists.intro _ (Exists.intro _ (Exists.intro _ (And.intro rfl (And.intro (vin (by omega) (by omega)) ?_))))
            refine Exists.intro _ (And.intro (rul_sh (by omega)) (And.intro (vin (by omega) (by omega)) ?_))
            simp only [cl hb31] at q3
            simp only [cl hb31] at q4
            have e : tpc A i b = b := by simp only [tpc, if_neg q3, if_pos (Int64.not_le.mp q4)]
            rw [e] at h
            exact ih k rfl _ _ _ _ (nI_1 i) (by simp only [cl hb31, cl hd31, Nat.one_mul]; exact h)
  refine X 200 _ _ _ _ _ _ _ _ _ ?_
  refine And.intro (fun q1 => ?_) (fun q1 => ?_)
  · exact absurd q1 (nI_pos (by omega)) --end
  · refine And.intro (fun q2 => ?_) (fun q2 => ?_)
    · exact G nt 0 (by omega) _ _ _ _ rfl h
    · exact absurd (nI_lt (b := 320) (by omega) (by omega)) q2 --end
/-- a day's product by a balance -/
def prd (A : mI) (nt d : Nat) (b : Int64) : Int64 := crd A d b nt 0 0 0 - dbt A (A 25 d) d b
/-- a period's products by a row of balances that are so much more from a day on -/
def pds (A : mI) (B : mB) (nt q P p : Nat) (fr : Int32) (mo : Int64) : Int64 := sm (fun j => prd A nt (p * P + j) (if fr ≤ nI (p * P + j) then B q (p * P + j) + mo else B q (p * P + j))) P
/-- a row of balances, so much more from a place on, n places -/
def shf (B : mB) (q lo : Nat) (a : Int64) (n : Nat) : mB := fun k j => if k = q ∧ lo ≤ j ∧ j < lo + n then B k j + a else B k j
theorem shf_0 {B : mB} {q lo : Nat} {a : Int64} : shf B q lo a 0 = B := by
  funext k j
  simp only [shf]
  rw [if_neg (by omega)]
theorem shf_1 {B : mB} {q lo n : Nat} {a : Int64} : up2 (shf B q lo a n) q (lo + n) (shf B q lo a n q (lo + n) + a) = shf B q lo a (n + 1) := by
  funext k j
  simp only [shf, up2]
  by_cases hk : k = q
  · subst hk
    by_cases hj : j = lo + n
    · subst hj
      rw [if_pos ⟨rfl, rfl⟩, if_neg (by omega), if_pos (by omega)]
    · rw [if_neg (fun z => hj z.2)]
      by_cases h : lo ≤ j ∧ j < lo + n
      · rw [if_pos ⟨rfl, h.1, h.2⟩, if_pos ⟨rfl, h.1, by omega⟩]
      · rw [if_neg (fun z => h z.2), if_neg (by omega)]
  · rw [if_neg (fun z => hk z.1), if_neg (fun z => hk z.1), if_neg (fun z => hk z.1)]
set_option maxRecDepth 20000 in
theorem c_productsOf36 {J : mJ} (X : mRules J) {I A : mI} {B : mB} {w f : Nat} {R : mR} {nt P : Nat} (hnt : nt ≤ 4) (hI : I 17 4 = nI nt) (hP : I 16 4 = nI P) {xp fr : Int32} {p : Nat} {mo : Int64} (ex : xp = nI p) (hp : p * P + P ≤ 320) (h : R (some (.long (pds A B nt 36 P p fr mo))) I A B (pk w f)) : J n_Ledger_productsOf 0 [.ref 16, .ref 36, .int xp, .int fr, .long mo, .float 0, .float 0, .float 0, .float 0, .float 0, .float 0, .float 0] [] I A B (pk w f) R := by
  subst ex
  have G : ∀ i, i ≤ P → ∀ (s : Int64) (x bh : Int32) (v : Value), s = sm (fun j => prd A nt (p * P + j) (if fr ≤ nI (p * P + j) then B 36 (p * P + j) + mo else B 36 (p * P + j))) i → x = nI (p * P + i) → bh = nI (p * P + P) → J n_Ledger_productsOf 31 [.ref 16, .ref 36, .int (nI p), .int fr, .long mo, .float 0, .long s, .float 0, .int bh, .int x, v, .float 0] [] I A B (pk w f) R := by
    refine lpz (fun i => ∀ (s : Int64) (x bh : Int32) (v : Value), s = sm (fun j => prd A nt (p * P + j) (if fr ≤ nI (p * P + j) then B 36 (p * P + j) + mo else B 36 (p * P + j))) i → x = nI (p * P + i) → bh = nI (p * P + P) → J n_Ledger_productsOf 31 [.ref 16, .ref 36, .int (nI p), .int fr, .long mo, .float 0, .long s, .float 0, .int bh, .int x, v, .float 0] [] I A B (pk w f) R) (fun i hi ih => ?_)
    intro s x bh v es ex eb
    subst es; subst ex; subst eb
    refine X 200 _ _ _ _ _ _ _ _ _ ?_
    refine And.intro (fun q1 => ?_) (fun q1 => ?_)
    · have e := lpxo hi (by omega) q1
      subst e
      exact h
    · have hl := lpco hi (by omega) q1
      have hb31 : p * P + i < 2 ^ 31 := by omega
      refine And.intro (fun q2 => ?_) (fun q2 => ?_)
      · refine Exists.intro _ (And.intro rfl (And.intro (vin (by omega) (by omega)) ?_))
        refine c_credit X (d := p * P + i) rfl (by omega) hnt hI ?_
        refine And.intro (fun q3 => ?_) (fun q3 => ?_)
        · exact absurd q3 (nI_pos (by omega)) --end
        · refine And.intro (fun q4 => ?_) (fun q4 => ?_)
          · refine Exists.intro _ (Exists.intro _ (Exists.intro _ (And.intro rfl (And.intro (vlit rfl) ?_))))
            refine Exists.intro _ (And.intro rfl (And.intro (vin (by omega) (by omega)) ?_))
            refine c_debtBy X (d := p * P + i) rfl (by omega) ?_
            refine ih hl _ _ _ _ ?_ (nI_1 _) rfl
            simp only [sm, prd, if_pos q2, cl hb31]
            rfl
          · exact absurd (nI_lt (b := 320) (by omega) (by omega)) q4 --end
      · refine Exists.intro _ (And.intro rfl (And.intro (vin (by omega) (by omega)) ?_))
        refine c_credit X (d := p * P + i) rfl (by omega) hnt hI ?_
        refine And.intro (fun q5 => ?_) (fun q5 => ?_)
        · exact absurd q5 (nI_pos (by omega)) --end
        · refine And.intro (fun q6 => ?_) (fun q6 => ?_)
          · refine Exists.intro _ (Exists.intro _ (Exists.intro _ (And.intro rfl (And.intro (vlit rfl) ?_))))
            refine Exists.intro _ (And.intro rfl (And.intro (vin (by omega) (by omega)) ?_))
            refine c_debtBy X (d := p * P + i) rfl (by omega) ?_
            refine ih hl _ _ _ _ ?_ (nI_1 _) rfl
            simp only [sm, prd, if_neg q2, cl hb31]
            rfl
          · exact absurd (nI_lt (b := 320) (by omega) (by omega)) q6 --end
  refine X 200 _ _ _ _ _ _ _ _ _ ?_
  refine Exists.intro _ (Exists.intro _ (And.intro rfl ?_))
  refine G 0 (Nat.zero_le _) _ _ _ _ rfl ?_ ?_
  · rw [hP, pk_mul, nmax (by omega)]; rfl
  · rw [hP, pk_mul, nI_add]; exact nmin hp
set_option maxRecDepth 20000 in
theorem c_productsOf37 {J : mJ} (X : mRules J) {I A : mI} {B : mB} {w f : Nat} {R : mR} {nt P : Nat} (hnt : nt ≤ 4) (hI : I 17 4 = nI nt) (hP : I 16 4 = nI P) {xp fr : Int32} {p : Nat} {mo : Int64} (ex : xp = nI p) (hp : p * P + P ≤ 320) (h : R (some (.long (pds A B nt 37 P p fr mo))) I A B (pk w f)) : J n_Ledger_productsOf 0 [.ref 16, .ref 37, .int xp, .int fr, .long mo, .float 0, .float 0, .float 0, .float 0, .float 0, .float 0, .float 0] [] I A B (pk w f) R := by
  subst ex
  have G : ∀ i, i ≤ P → ∀ (s : Int64) (x bh : Int32) (v : Value), s = sm (fun j => prd A nt (p * P + j) (if fr ≤ nI (p * P + j) then B 37 (p * P + j) + mo else B 37 (p * P + j))) i → x = nI (p * P + i) → bh = nI (p * P + P) → J n_Ledger_productsOf 31 [.ref 16, .ref 37, .int (nI p), .int fr, .long mo, .float 0, .long s, .float 0, .int bh, .int x, v, .float 0] [] I A B (pk w f) R := by
    refine lpz (fun i => ∀ (s : Int64) (x bh : Int32) (v : Value), s = sm (fun j => prd A nt (p * P + j) (if fr ≤ nI (p * P + j) then B 37 (p * P + j) + mo else B 37 (p * P + j))) i → x = nI (p * P + i) → bh = nI (p * P + P) → J n_Ledger_productsOf 31 [.ref 16, .ref 37, .int (nI p), .int fr, .long mo, .float 0, .long s, .float 0, .int bh, .int x, v, .float 0] [] I A B (pk w f) R) (fun i hi ih => ?_)
    intro s x bh v es ex eb
    subst es; subst ex; subst eb
    refine X 200 _ _ _ _ _ _ _ _ _ ?_
    refine And.intro (fun q1 => ?_) (fun q1 => ?_)
    · have e := lpxo hi (by omega) q1
      subst e
      exact h
    · have hl := lpco hi (by omega) q1
      have hb31 : p * P + i < 2 ^ 31 := by omega
      refine And.intro (fun q2 => ?_) (fun q2 => ?_)
      · refine Exists.intro _ (And.intro rfl (And.intro (vin (by omega) (by omega)) ?_))
        refine c_credit X (d := p * P + i) rfl (by omega) hnt hI ?_
        refine And.intro (fun q3 => ?_) (fun q3 => ?_)
        · exact absurd q3 (nI_pos (by omega)) --end
        · refine And.intro (fun q4 => ?_) (fun q4 => ?_)
          · refine Exists.intro _ (Exists.intro _ (Exists.intro _ (And.intro rfl (And.intro (vlit rfl) ?_))))
            refine Exists.intro _ (And.intro rfl (And.intro (vin (by omega) (by omega)) ?_))
            refine c_debtBy X (d := p * P + i) rfl (by omega) ?_
            refine ih hl _ _ _ _ ?_ (nI_1 _) rfl
            simp only [sm, prd, if_pos q2, cl hb31]
            rfl
          · exact absurd (nI_lt (b := 320) (by omega) (by omega)) q4 --end
      · refine Exists.intro _ (And.intro rfl (And.intro (vin (by omega) (by omega)) ?_))
        refine c_credit X (d := p * P + i) rfl (by omega) hnt hI ?_
        refine And.intro (fun q5 => ?_) (fun q5 => ?_)
        · exact absurd q5 (nI_pos (by omega)) --end
        · refine And.intro (fun q6 => ?_) (fun q6 => ?_)
          · refine Exists.intro _ (Exists.intro _ (Exists.intro _ (And.intro rfl (And.intro (vlit rfl) ?_))))
            refine Exists.intro _ (And.intro rfl (And.intro (vin (by omega) (by omega)) ?_))
            refine c_debtBy X (d := p * P + i) rfl (by omega) ?_
            refine ih hl _ _ _ _ ?_ (nI_1 _) rfl
            simp only [sm, prd, if_neg q2, cl hb31]
            rfl
          · exact absurd (nI_lt (b := 320) (by omega) (by omega)) q6 --end
  refine X 200 _ _ _ _ _ _ _ _ _ ?_
  refine Exists.intro _ (Exists.intro _ (And.intro rfl ?_))
  refine G 0 (Nat.zero_le _) _ _ _ _ rfl ?_ ?_
  · rw [hP, pk_mul, nmax (by omega)]; rfl
  · rw [hP, pk_mul, nI_add]; exact nmin hp
/-- the interest of all periods by a row -/
def alb (A : mI) (B : mB) (nt q P N : Nat) (fr : Int32) (mo : Int64) : Int64 := sm (fun p => nea (pds A B nt q P p fr mo)) N
set_option maxRecDepth 20000 in
theorem c_allBy36 {J : mJ} (X : mRules J) {I A : mI} {B : mB} {w f : Nat} {R : mR} {nt P : Nat} (hnt : nt ≤ 4) (hI : I 17 4 = nI nt) (hP : I 16 4 = nI P) {fr : Int32} {N : Nat} {mo : Int64} (hN : I 16 5 = nI N) (hb : N * P ≤ 320) (hN8 : N ≤ 320) (h : R (some (.long (alb A B nt 36 P N fr mo))) I A B (pk w f)) : J n_Ledger_interestOfAllBy 0 [.ref 16, .ref 36, .int fr, .long mo, .float 0, .float 0, .float 0, .float 0] [] I A B (pk w f) R := by
  have G : ∀ i, i ≤ N → ∀ (s : Int64) (x : Int32), s = sm (fun p => nea (pds A B nt 36 P p fr mo)) i → x = nI i → J n_Ledger_interestOfAllBy 6 [.ref 16, .ref 36, .int fr, .long mo, .float 0, .long s, .float 0, .int x] [] I A B (pk w f) R := by
    refine lpz (fun i => ∀ (s : Int64) (x : Int32), s = sm (fun p => nea (pds A B nt 36 P p fr mo)) i → x = nI i → J n_Ledger_interestOfAllBy 6 [.ref 16, .ref 36, .int fr, .long mo, .float 0, .long s, .float 0, .int x] [] I A B (pk w f) R) (fun i hi ih => ?_)
    intro s x es ex
    subst es; subst ex
    refine X 200 _ _ _ _ _ _ _ _ _ ?_
    refine And.intro (fun q1 => ?_) (fun q1 => ?_)
    · rw [hN] at q1
      have e := lpx hi (by omega) q1
      subst e
      exact h
    · rw [hN] at q1
      have hl := lpc hi (by omega) q1
      have hm : i * P + P ≤ 320 := by have := Nat.mul_le_mul_right P (show i + 1 ≤ N from hl); rw [Nat.add_mul, Nat.one_mul] at this; omega
      refine c_productsOf36 X hnt hI hP (p := i) rfl hm ?_
      refine c_nearest X ?_
      exact ih hl _ _ rfl (nI_1 i)
  refine X 200 _ _ _ _ _ _ _ _ _ ?_
  exact G 0 (Nat.zero_le _) _ _ rfl rfl
set_option maxRecDepth 20000 in
theorem c_allBy37 {J : mJ} (X : mRules J) {I A : mI} {B : mB} {w f : Nat} {R : mR} {nt P : Nat} (hnt : nt ≤ 4) (hI : I 17 4 = nI nt) (hP : I 16 4 = nI P) {fr : Int32} {N : Nat} {mo : Int64} (hN : I 16 5 = nI N) (hb : N * P ≤ 320) (hN8 : N ≤ 320) (h : R (some (.long (alb A B nt 37 P N fr mo))) I A B (pk w f)) : J n_Ledger_interestOfAllBy 0 [.ref 16, .ref 37, .int fr, .long mo, .float 0, .float 0, .float 0, .float 0] [] I A B (pk w f) R := by
  have G : ∀ i, i ≤ N → ∀ (s : Int64) (x : Int32), s = sm (fun p => nea (pds A B nt 37 P p fr mo)) i → x = nI i → J n_Ledger_interestOfAllBy 6 [.ref 16, .ref 37, .int fr, .long mo, .float 0, .long s, .float 0, .int x] [] I A B (pk w f) R := by
    refine lpz (fun i => ∀ (s : Int64) (x : Int32), s = sm (fun p => nea (pds A B nt 37 P p fr mo)) i → x = nI i → J n_Ledger_interestOfAllBy 6 [.ref 16, .ref 37, .int fr, .long mo, .float 0, .long s, .float 0, .int x] [] I A B (pk w f) R) (fun i hi ih => ?_)
    intro s x es ex
    subst es; subst ex
    refine X 200 _ _ _ _ _ _ _ _ _ ?_
    refine And.intro (fun q1 => ?_) (fun q1 => ?_)
    · rw [hN] at q1
      have e := lpx hi (by omega) q1
      subst e
      exact h
    · rw [hN] at q1
      have hl := lpc hi (by omega) q1
      have hm : i * P + P ≤ 320 := by have := Nat.mul_le_mul_right P (show i + 1 ≤ N from hl); rw [Nat.add_mul, Nat.one_mul] at this; omega
      refine c_productsOf37 X hnt hI hP (p := i) rfl hm ?_
      refine c_nearest X ?_
      exact ih hl _ _ rfl (nI_1 i)
  refine X 200 _ _ _ _ _ _ _ _ _ ?_
  exact G 0 (Nat.zero_le _) _ _ rfl rfl
set_option maxRecDepth 20000 in
theorem c_shift36 {J : mJ} (X : mRules J) {I A : mI} {B : mB} {w f : Nat} {R : mR} {xv : Int32} {v D : Nat} {a : Int64} (hD : I 16 4 * I 16 5 = nI D) (hb : D ≤ 320) (ex : xv = nI v) (hv : v < 2 ^ 20) (h : R none I A (shf B 36 v a (D - v)) (pk w f)) : J n_Ledger_shift 0 [.ref 16, .ref 36, .int xv, .long a, .float 0, .float 0, .float 0] [] I A B (pk w f) R := by
  subst ex
  have G : ∀ i, i ≤ D - v → ∀ (x bh : Int32) (Bv : mB), x = nI (v + i) → bh = nI D → Bv = shf B 36 v a i → J n_Ledger_shift 18 [.ref 16, .ref 36, .int (nI v), .long a, .float 0, .int bh, .int x] [] I A Bv (pk w f) R := by
    refine lpz (fun i => ∀ (x bh : Int32) (Bv : mB), x = nI (v + i) → bh = nI D → Bv = shf B 36 v a i → J n_Ledger_shift 18 [.ref 16, .ref 36, .int (nI v), .long a, .float 0, .int bh, .int x] [] I A Bv (pk w f) R) (fun i hi ih => ?_)
    intro x bh Bv ex eb eB
    subst ex; subst eb; subst eB
    refine X 200 _ _ _ _ _ _ _ _ _ ?_
    refine And.intro (fun q1 => ?_) (fun q1 => ?_)
    · have e : i = D - v := by have := (nI_leI (by omega) (by omega)).mp q1; omega
      subst e
      exact h
    · have hl : i < D - v := by
        rcases Nat.lt_or_ge i (D - v) with z | z
        · exact z
        · exact absurd (nI_le (show D ≤ v + i by omega) (by omega)) q1
      have hb31 : v + i < 2 ^ 31 := by omega
      refine Exists.intro _ (And.intro rfl (And.intro (vin (by omega) (by omega)) ?_))
      refine Exists.intro _ (And.intro rfl (And.intro (vin (by omega) (by omega)) ?_))
      exact ih hl _ _ _ (nI_1 _) rfl (by rw [cl hb31]; exact shf_1)
  refine X 200 _ _ _ _ _ _ _ _ _ ?_
  refine Exists.intro _ (Exists.intro _ (And.intro rfl ?_))
  refine G 0 (Nat.zero_le _) _ _ _ ?_ ?_ shf_0.symm
  · exact nmax (by omega)
  · rw [hD]; exact nmin hb
set_option maxRecDepth 20000 in
theorem c_shift37 {J : mJ} (X : mRules J) {I A : mI} {B : mB} {w f : Nat} {R : mR} {xv : Int32} {v D : Nat} {a : Int64} (hD : I 16 4 * I 16 5 = nI D) (hb : D ≤ 320) (ex : xv = nI v) (hv : v < 2 ^ 20) (h : R none I A (shf B 37 v a (D - v)) (pk w f)) : J n_Ledger_shift 0 [.ref 16, .ref 37, .int xv, .long a, .float 0, .float 0, .float 0] [] I A B (pk w f) R := by
  subst ex
  have G : ∀ i, i ≤ D - v → ∀ (x bh : Int32) (Bv : mB), x = nI (v + i) → bh = nI D → Bv = shf B 37 v a i → J n_Ledger_shift 18 [.ref 16, .ref 37, .int (nI v), .long a, .float 0, .int bh, .int x] [] I A Bv (pk w f) R := by
    refine lpz (fun i => ∀ (x bh : Int32) (Bv : mB), x = nI (v + i) → bh = nI D → Bv = shf B 37 v a i → J n_Ledger_shift 18 [.ref 16, .ref 37, .int (nI v), .long a, .float 0, .int bh, .int x] [] I A Bv (pk w f) R) (fun i hi ih => ?_)
    intro x bh Bv ex eb eB
    subst ex; subst eb; subst eB
    refine X 200 _ _ _ _ _ _ _ _ _ ?_
    refine And.intro (fun q1 => ?_) (fun q1 => ?_)
    · have e : i = D - v := by have := (nI_leI (by omega) (by omega)).mp q1; omega
      subst e
      exact h
    · have hl : i < D - v := by
        rcases Nat.lt_or_ge i (D - v) with z | z
        · exact z
        · exact absurd (nI_le (show D ≤ v + i by omega) (by omega)) q1
      have hb31 : v + i < 2 ^ 31 := by omega
      refine Exists.intro _ (And.intro rfl (And.intro (vin (by omega) (by omega)) ?_))
      refine Exists.intro _ (And.intro rfl (And.intro (vin (by omega) (by omega)) ?_))
      exact ih hl _ _ _ (nI_1 _) rfl (by rw [cl hb31]; exact shf_1)
  refine X 200 _ _ _ _ _ _ _ _ _ ?_
  refine Exists.intro _ (Exists.intro _ (And.intro rfl ?_))
  refine G 0 (Nat.zero_le _) _ _ _ ?_ ?_ shf_0.symm
  · exact nmax (by omega)
  · rw [hD]; exact nmin hb
