/-! contracts: settled, ideal, moved, searches (written by wip/whole/gc9.py) -/
/-- the row, behind m payments -/
def shs (B : mB) (P D dy : Nat) (am : Int64) : Nat → mB
  | 0 => B
  | i + 1 => shf (shs B P D dy am i) 37 (dy + i * P) am (D - (dy + i * P))
/-- the row, behind k periods' interest -/
def cps (A : mI) (nt P D K : Nat) (B : mB) : Nat → mB
  | 0 => B
  | p + 1 => shf (cps A nt P D K B p) 37 (cmp_ P K p) (nea (pds A (cps A nt P D K B p) nt 37 P p 0 0)) (D - cmp_ P K p)
theorem shf_b {B : mB} {q lo n r : Nat} {a : Int64} (h : r ≠ q) : shf B q lo a n r = B r := by
  funext j
  simp only [shf]
  rw [if_neg (fun z => h z.1)]
theorem shs_b {B : mB} {P D dy : Nat} {am : Int64} : ∀ {m r : Nat}, r ≠ 37 → shs B P D dy am m r = B r
  | 0, r, h => rfl
  | m + 1, r, h => by rw [shs, shf_b h, shs_b h]
theorem cps_b {A : mI} {nt P D K : Nat} {B : mB} : ∀ {k r : Nat}, r ≠ 37 → cps A nt P D K B k r = B r
  | 0, r, h => rfl
  | k + 1, r, h => by rw [cps, shf_b h, cps_b h]
theorem tpS_b {A : mI} {B : mB} {vn : Nat → Nat} {D n m r : Nat} (h : r ≠ 37) : tpS A B vn D n m r = B r := by
  funext j
  simp only [tpS]
  rw [if_neg (fun z => h z.1)]
/-- paid, drawn and turned back in all -/
def sop (A : mI) (B : mB) (n : Nat) : Int64 := sm (fun j => if A 30 j = 1 ∨ A 30 j = 2 then 0 else B 31 j) n
theorem sop_c {A : mI} {B B' : mB} {n : Nat} (h : B' 31 = B 31) : sop A B' n = sop A B n := by simp only [sop, h]
/-- the row of what is paid, drawn and turned back, with m payments more -/
def plr (A : mI) (B : mB) (vn : Nat → Nat) (P D n dy m : Nat) (am : Int64) : mB := shs (tpS A B vn D n 320) P D dy am m
theorem plr_b {A : mI} {B : mB} {vn : Nat → Nat} {P D n dy m r : Nat} {am : Int64} (h : r ≠ 37) : plr A B vn P D n dy m am r = B r := by rw [plr, shs_b h, tpS_b h]
def stl (A : mI) (B : mB) (vn : Nat → Nat) (nt P D K N n dy m : Nat) (am : Int32) : Int64 := sop A B n + (nI m).toInt64 * am.toInt64 + sm (fun p => nea (pds A (cps A nt P D K (plr A B vn P D n dy m am.toInt64) p) nt 37 P p 0 0)) N
set_option maxRecDepth 20000 in
theorem c_settlementWith {J : mJ} (X : mRules J) {I A : mI} {B : mB} {w f : Nat} {R : mR} {nt P N : Nat} (hnt : nt ≤ 4) (hI : I 17 4 = nI nt) (hP : I 16 4 = nI P) (hN : I 16 5 = nI N) (hb : N * P ≤ 320) (hN8 : N ≤ 320) {n : Nat} (hn : n ≤ 220) (hz : I 29 6 = nI n) {K D : Nat} (hK : I 16 6 = nI K) (hK1 : 1 ≤ K) (hK4 : K ≤ 4) (hD : I 16 4 * I 16 5 = nI D) (hDb : D ≤ 320) (hP40 : P ≤ 40) {vn : Nat → Nat} (hvn : ∀ j, j < n → A 32 j = nI (vn j) ∧ vn j < 2 ^ 20) {xd am : Int32} {dy m : Nat} (exd : xd = nI dy) (hdy : dy < 2 ^ 10) (hm8 : m ≤ 8) (h : R (some (.long (stl A B vn nt P D K N n dy m am))) I A (cps A nt P D K (plr A B vn P D n dy m am.toInt64) N) (pk w f)) : J n_WhatIf_settlementWith 0 [.ref 39, .int xd, .int (nI m), .int am, .float 0, .float 0, .float 0, .float 0] [] I A B (pk w f) R := by
  have G2 : ∀ i, i ≤ N → ∀ (s : Int64) (x : Int32) (Bv : mB), s = sop A B n + (nI m).toInt64 * am.toInt64 + sm (fun p => nea (pds A (cps A nt P D K (plr A B vn P D n dy m am.toInt64) p) nt 37 P p 0 0)) i → x = nI i → Bv = cps A nt P D K (plr A B vn P D n dy m am.toInt64) i → J n_WhatIf_settlementWith 65 [.ref 39, .int xd, .int (nI m), .int am, .ref 37, .long s, .float 0, .int x] [] I A Bv (pk w f) R := by
    refine lpz (fun i => ∀ (s : Int64) (x : Int32) (Bv : mB), s = sop A B n + (nI m).toInt64 * am.toInt64 + sm (fun p => nea (pds A (cps A nt P D K (plr A B vn P D n dy m am.toInt64) p) nt 37 P p 0 0)) i → x = nI i → Bv = cps A nt P D K (plr A B vn P D n dy m am.toInt64) i → J n_WhatIf_settlementWith 65 [.ref 39, .int xd, .int (nI m), .int am, .ref 37, .long s, .float 0, .int x] [] I A Bv (pk w f) R) (fun i hi ih => ?_)
    intro s x Bv es ex eBv
    subst es; subst ex; subst eBv
    refine X 200 _ _ _ _ _ _ _ _ _ ?_
    refine And.intro (fun q1 => ?_) (fun q1 => ?_)
    · rw [hN] at q1
      have e := lpx hi (by omega) q1
      subst e
      exact h
    · rw [hN] at q1
      have hl := lpc hi (by omega) q1
      have hm : i * P + P ≤ 320 := by have := Nat.mul_le_mul_right P (show i + 1 ≤ N by omega); rw [Nat.add_mul, Nat.one_mul] at this; omega
      have hcd : I 16 4 * I 16 6 * (nI i / I 16 6 + 1) = nI (cmp_ P K i) := by
        rw [hP, hK, pk_mul, pk_div (by omega) (by omega) (by omega), nI_1, pk_mul]
        rfl
      have hcv : cmp_ P K i < 2 ^ 20 := by
        have h1 : P * K ≤ 160 := Nat.le_trans (Nat.mul_le_mul hP40 hK4) (by omega)
        have h2 : i / K + 1 ≤ 321 := by have := Nat.div_le_self i K; omega
        have := Nat.mul_le_mul h1 h2
        unfold cmp_
        omega
      refine c_productsOf37 X hnt hI hP (p := i) rfl hm ?_
      refine c_nearest X ?_
      refine c_compDay X ?_ (by rw [hK]; exact nI_nlt (b := 1) hK1 (by omega))
      refine c_shift37 X (v := cmp_ P K i) hD hDb hcd hcv ?_
      exact ih hl _ _ _ (Int64.add_assoc _ _ _) (nI_1 i) rfl
  have G1 : ∀ i, i ≤ m → ∀ (x : Int32) (Bv : mB), x = nI i → Bv = shs (tpS A B vn D n 320) P D dy am.toInt64 i → J n_WhatIf_settlementWith 12 [.ref 39, .int xd, .int (nI m), .int am, .ref 37, .int x, .float 0, .float 0] [] I A Bv (pk w f) R := by
    refine lpz (fun i => ∀ (x : Int32) (Bv : mB), x = nI i → Bv = shs (tpS A B vn D n 320) P D dy am.toInt64 i → J n_WhatIf_settlementWith 12 [.ref 39, .int xd, .int (nI m), .int am, .ref 37, .int x, .float 0, .float 0] [] I A Bv (pk w f) R) (fun i hi ih => ?_)
    intro x Bv ex eBv
    subst ex; subst eBv
    refine X 200 _ _ _ _ _ _ _ _ _ ?_
    refine And.intro (fun q1 => ?_) (fun q1 => ?_)
    · have e := lpx hi (by omega) q1
      subst e
      have hsb : sop A (shs (tpS A B vn D n 320) P D dy am.toInt64 i) n = sop A B n := sop_c (plr_b (by decide))
      refine c_sumOfPrincipal X hn hz ?_
      exact G2 0 (Nat.zero_le _) _ _ _ (by show sop _ _ _ + _ = _; rw [hsb]; exact (Int64.add_zero _).symm) rfl rfl
    · have hl := lpc hi (by omega) q1
      have hdx : xd + nI i * I 16 4 = nI (dy + i * P) := by rw [exd, hP, pk_mul, nI_add]
      have hdv : dy + i * P < 2 ^ 20 := by
        have := Nat.mul_le_mul (show i ≤ 8 by omega) hP40
        omega
      refine c_shift37 X (v := dy + i * P) hD hDb hdx hdv ?_
      exact ih hl _ _ (nI_1 i) rfl
  refine X 200 _ _ _ _ _ _ _ _ _ ?_
  refine c_trialPrincipal X hn hz hD hDb hvn ?_
  exact G1 0 (Nat.zero_le _) _ _ rfl rfl
set_option maxRecDepth 20000 in
theorem c_idealInterest {J : mJ} (X : mRules J) {I A : mI} {B : mB} {w f : Nat} {R : mR} {nt P N : Nat} (hnt : nt ≤ 4) (hI : I 17 4 = nI nt) (hP : I 16 4 = nI P) (hN : I 16 5 = nI N) (hb : N * P ≤ 320) (hN8 : N ≤ 320) {n : Nat} (hn : n ≤ 220) (hz : I 29 6 = nI n) {K D : Nat} (hK : I 16 6 = nI K) (hK1 : 1 ≤ K) (hK4 : K ≤ 4) (hD : I 16 4 * I 16 5 = nI D) (hDb : D ≤ 320) (hP40 : P ≤ 40) {vn : Nat → Nat} (hvn : ∀ j, j < n → A 32 j = nI (vn j) ∧ vn j < 2 ^ 20) {xp : Int32} {p : Nat} (exp : xp = nI p) (hp : p < N) (h : R (some (.long (nea (pds A (cps A nt P D K (tpS A B vn D n 320) p) nt 37 P p 0 0)))) I A (cps A nt P D K (tpS A B vn D n 320) p) (pk w f)) : J n_WhatIf_idealInterest 0 [.ref 39, .int xp, .float 0, .float 0] [] I A B (pk w f) R := by
  subst exp
  have G : ∀ i, i ≤ p → ∀ (x : Int32) (Bv : mB), x = nI i → Bv = cps A nt P D K (tpS A B vn D n 320) i → J n_WhatIf_idealInterest 10 [.ref 39, .int (nI p), .ref 37, .int x] [] I A Bv (pk w f) R := by
    refine lpz (fun i => ∀ (x : Int32) (Bv : mB), x = nI i → Bv = cps A nt P D K (tpS A B vn D n 320) i → J n_WhatIf_idealInterest 10 [.ref 39, .int (nI p), .ref 37, .int x] [] I A Bv (pk w f) R) (fun i hi ih => ?_)
    intro x Bv ex eBv
    subst ex; subst eBv
    refine X 200 _ _ _ _ _ _ _ _ _ ?_
    refine And.intro (fun q1 => ?_) (fun q1 => ?_)
    · have e := lpx hi (by omega) q1
      subst e
      have hm : i * P + P ≤ 320 := by have := Nat.mul_le_mul_right P (show i + 1 ≤ N by omega); rw [Nat.add_mul, Nat.one_mul] at this; omega
      refine c_productsOf37 X hnt hI hP (p := i) rfl hm ?_
      refine c_nearest X ?_
      exact h
    · have hl := lpc hi (by omega) q1
      have hm : i * P + P ≤ 320 := by have := Nat.mul_le_mul_right P (show i + 1 ≤ N by omega); rw [Nat.add_mul, Nat.one_mul] at this; omega
      have hcd : I 16 4 * I 16 6 * (nI i / I 16 6 + 1) = nI (cmp_ P K i) := by
        rw [hP, hK, pk_mul, pk_div (by omega) (by omega) (by omega), nI_1, pk_mul]
        rfl
      have hcv : cmp_ P K i < 2 ^ 20 := by
        have h1 : P * K ≤ 160 := Nat.le_trans (Nat.mul_le_mul hP40 hK4) (by omega)
        have h2 : i / K + 1 ≤ 321 := by have := Nat.div_le_self i K; omega
        have := Nat.mul_le_mul h1 h2
        unfold cmp_
        omega
      refine c_productsOf37 X hnt hI hP (p := i) rfl hm ?_
      refine c_nearest X ?_
      refine c_compDay X ?_ (by rw [hK]; exact nI_nlt (b := 1) hK1 (by omega))
      refine c_shift37 X (v := cmp_ P K i) hD hDb hcd hcv ?_
      exact ih hl _ _ (nI_1 i) rfl
  refine X 200 _ _ _ _ _ _ _ _ _ ?_
  refine c_trialPrincipal X hn hz hD hDb hvn ?_
  exact G 0 (Nat.zero_le _) _ _ rfl rfl
/-- the balances without an entry, on the row to try on -/
def wob (A : mI) (B : mB) (vn : Nat → Nat) (D e : Nat) : mB := shf (tbl B) 37 (vn e) (-(B 31 e)) (D - vn e)
theorem tbl_b {B : mB} {r : Nat} (h : r ≠ 37) : tbl B r = B r := by
  funext j
  simp [tbl, up1, h]
theorem wob_b {A : mI} {B : mB} {vn : Nat → Nat} {D e r : Nat} (h : r ≠ 37) : wob A B vn D e r = B r := by rw [wob, shf_b h, tbl_b h]
theorem alb_c {A : mI} {B B' : mB} {nt q P N : Nat} {fr : Int32} {mo : Int64} (h : B' q = B q) : alb A B' nt q P N fr mo = alb A B nt q P N fr mo := by simp only [alb, pds, h]
set_option maxRecDepth 20000 in
theorem c_gainByMoving {J : mJ} (X : mRules J) {I A : mI} {B : mB} {w f : Nat} {R : mR} {nt P N : Nat} (hnt : nt ≤ 4) (hI : I 17 4 = nI nt) (hP : I 16 4 = nI P) (hN : I 16 5 = nI N) (hb : N * P ≤ 320) (hN8 : N ≤ 320) {n : Nat} (hn : n ≤ 220) (hz : I 29 6 = nI n) {D : Nat} (hD : I 16 4 * I 16 5 = nI D) (hDb : D ≤ 320) {vn : Nat → Nat} (hvn : ∀ j, j < n → A 32 j = nI (vn j) ∧ vn j < 2 ^ 20) {xe : Int32} {e0 : Nat} (exe : xe = nI e0) (he : e0 < n) {dy : Int32} (h : R (some (.long (alb A (wob A B vn D e0) nt 37 P N dy (B 31 e0) - alb A B nt 36 P N 0 0))) I A (wob A B vn D e0) (pk w f)) : J n_WhatIf_gainByMoving 0 [.ref 39, .int xe, .int dy, .float 0] [] I A B (pk w f) R := by
  refine X 200 _ _ _ _ _ _ _ _ _ ?_
  refine Exists.intro 1 (Exists.intro 320 (Exists.intro 320 (And.intro rfl (And.intro rfl (And.intro (Or.inr rfl) (And.intro (by decide) (And.intro (by decide) (And.intro (by decide) (And.intro (by decide) (And.intro (by decide) (And.intro (fun z => absurd z (by decide)) (fun _ => ?_))))))))))))
  refine c_valueOf X hn hz (i := e0) exe he ?_
  refine c_amountOf X hn hz (i := e0) exe he ?_
  refine c_shift37 X (v := vn e0) hD hDb (hvn e0 he).1 (hvn e0 he).2 ?_
  refine c_amountOf X hn hz (i := e0) exe he ?_
  refine c_allBy37 X hnt hI hP hN hb hN8 ?_
  refine c_allBy36 X hnt hI hP hN hb hN8 ?_
  have e1 : (wob A B vn D e0) 31 = B 31 := wob_b (by decide)
  have e2 : alb A (wob A B vn D e0) nt 36 P N 0 0 = alb A B nt 36 P N 0 0 := alb_c (wob_b (by decide))
  rw [← e1, ← e2] at h
  exact h
/-- by halves: the greatest that is too little -/
def hvs (c : Nat → Bool) (M : Nat) : Nat → Nat → Nat
  | 0, t => t
  | k + 1, t => hvs c M k (if t + 2 ^ k ≤ M ∧ c (t + 2 ^ k) = true then t + 2 ^ k else t)
def hvo (M t : Nat) : Int32 := if t < M then nI (t + 1) else -1
theorem bit_s : ∀ k, k < 17 → nI (2 ^ (k + 1) / 2) >>> ((1 : Int32) &&& 31) = nI (2 ^ k / 2) := by decide
theorem bit_h {k : Nat} : 2 ^ (k + 1) / 2 = 2 ^ k := by rw [Nat.pow_succ]; omega
theorem bit_b : ∀ k, k < 17 → 2 ^ k ≤ 65536 := by decide
theorem bit_1 {k : Nat} : 1 ≤ 2 ^ k := Nat.one_le_two_pow
set_option maxRecDepth 20000 in
theorem c_leastFor {J : mJ} (X : mRules J) {I A : mI} {B : mB} {w f : Nat} {R : mR} {nt P N : Nat} (hnt : nt ≤ 4) (hI : I 17 4 = nI nt) (hP : I 16 4 = nI P) (hN : I 16 5 = nI N) (hbb : N * P ≤ 320) (hN8 : N ≤ 320) {dy g : Int32} (h : R (some (.int (hvo 99999 (hvs (fun a => decide (alb A B nt 36 P N dy (nI a).toInt64 < alb A B nt 36 P N 0 0 + g.toInt64)) 99999 17 0)))) I A B (pk w f)) : J n_WhatIf_leastFor 0 [.ref 39, .int dy, .int g, .float 0, .float 0, .float 0, .float 0, .float 0] [] I A B (pk w f) R := by
  have G : ∀ k i, i + k = 17 → ∀ (t : Nat) (x : Int32) (b : Int32) (s : Int64) (v : Value), x = nI t → b = nI (2 ^ k / 2) → s = alb A B nt 36 P N 0 0 + g.toInt64 → t ≤ 99999 → R (some (.int (hvo 99999 (hvs (fun a => decide (alb A B nt 36 P N dy (nI a).toInt64 < alb A B nt 36 P N 0 0 + g.toInt64)) 99999 k t)))) I A B (pk w f) → J n_WhatIf_leastFor 18 [.ref 39, .int dy, .int g, .long s, .float 0, .int x, .int b, v] [] I A B (pk w f) R := by
    refine lpk (fun i k => ∀ (t : Nat) (x : Int32) (b : Int32) (s : Int64) (v : Value), x = nI t → b = nI (2 ^ k / 2) → s = alb A B nt 36 P N 0 0 + g.toInt64 → t ≤ 99999 → R (some (.int (hvo 99999 (hvs (fun a => decide (alb A B nt 36 P N dy (nI a).toInt64 < alb A B nt 36 P N 0 0 + g.toInt64)) 99999 k t)))) I A B (pk w f) → J n_WhatIf_leastFor 18 [.ref 39, .int dy, .int g, .long s, .float 0, .int x, .int b, v] [] I A B (pk w f) R) (fun i k hi ih => ?_)
    intro t x b s v ex eb es hb hr
    subst ex; subst eb; subst es
    refine X 200 _ _ _ _ _ _ _ _ _ ?_
    refine And.intro (fun q1 => ?_) (fun q1 => ?_)
    · have e : k = 0 := by
        rcases Nat.eq_zero_or_pos k with z | z
        · exact z
        · obtain ⟨k, rfl⟩ : ∃ k0, k = k0 + 1 := ⟨k - 1, by omega⟩
          rw [bit_h] at q1
          have hk17 := bit_b k (by omega)
          have := bit_1 (k := k)
          exact absurd q1 (Int32.not_le.mpr (nI_0 ▸ nI_lt (show 0 < 2 ^ k by omega) (by omega)))
      subst e
      refine And.intro (fun q2 => ?_) (fun q2 => ?_)
      · have e : hvo 99999 t = -1 := by
          show (if t < 99999 then nI (t + 1) else -1) = _
          rw [if_neg (by have := (nI_leI (a := 99999) (b := t) (by omega) (by omega)).mp q2; omega)]
        have hr2 := hr
        simp only [hvs, e] at hr2
        exact hr2
      · have e : hvo 99999 t = nI t + 1 := by
          show (if t < 99999 then nI (t + 1) else -1) = _
          rw [if_pos (Nat.lt_of_not_le (fun z => q2 (nI_le (a := 99999) (b := t) z (by omega)))), nI_1]
        have hr2 := hr
        simp only [hvs, e] at hr2
        exact hr2
    · obtain ⟨k, rfl⟩ : ∃ k0, k = k0 + 1 := by
        rcases Nat.eq_zero_or_pos k with z | z
        · subst z
          exact absurd (show nI (2 ^ 0 / 2) ≤ 0 by decide) q1
        · exact ⟨k - 1, by omega⟩
      have hk17 : k < 17 := by omega
      have hk16 := bit_b k hk17
      have hx : nI t + nI (2 ^ (k + 1) / 2) = nI (t + 2 ^ k) := by rw [bit_h, nI_add]
      refine And.intro (fun q3 => ?_) (fun q3 => ?_)
      · rw [hx] at q3
        have e : hvs (fun a => decide (alb A B nt 36 P N dy (nI a).toInt64 < alb A B nt 36 P N 0 0 + g.toInt64)) 99999 (k + 1) t = hvs (fun a => decide (alb A B nt 36 P N dy (nI a).toInt64 < alb A B nt 36 P N 0 0 + g.toInt64)) 99999 k t := by
          show hvs (fun a => decide (alb A B nt 36 P N dy (nI a).toInt64 < alb A B nt 36 P N 0 0 + g.toInt64)) 99999 k (if t + 2 ^ k ≤ 99999 ∧ (fun a => decide (alb A B nt 36 P N dy (nI a).toInt64 < alb A B nt 36 P N 0 0 + g.toInt64)) (t + 2 ^ k) = true then t + 2 ^ k else t) = _
          rw [if_neg (fun z => absurd z.1 (by have := (nI_ltI (a := 99999) (b := t + 2 ^ k) (by omega) (by omega)).mp q3; omega))]
        rw [e] at hr
        exact ih k rfl (t) _ _ _ _ rfl (bit_s k hk17) rfl hb hr
      · rw [hx] at q3
        have htop : t + 2 ^ k ≤ 99999 := by
          rcases Nat.lt_or_ge 99999 (t + 2 ^ k) with z | z
          · exact absurd (nI_lt (a := 99999) (b := t + 2 ^ k) z (by omega)) q3
          · exact z
        refine c_allBy36 X hnt hI hP hN hbb hN8 ?_
        refine And.intro (fun q4 => ?_) (fun q4 => ?_)
        · rw [hx] at q4
          have e : hvs (fun a => decide (alb A B nt 36 P N dy (nI a).toInt64 < alb A B nt 36 P N 0 0 + g.toInt64)) 99999 (k + 1) t = hvs (fun a => decide (alb A B nt 36 P N dy (nI a).toInt64 < alb A B nt 36 P N 0 0 + g.toInt64)) 99999 k t := by
            show hvs (fun a => decide (alb A B nt 36 P N dy (nI a).toInt64 < alb A B nt 36 P N 0 0 + g.toInt64)) 99999 k (if t + 2 ^ k ≤ 99999 ∧ (fun a => decide (alb A B nt 36 P N dy (nI a).toInt64 < alb A B nt 36 P N 0 0 + g.toInt64)) (t + 2 ^ k) = true then t + 2 ^ k else t) = _
            rw [if_neg (fun z => absurd (of_decide_eq_true z.2) (Int64.not_lt.mpr q4))]
          rw [e] at hr
          exact ih k rfl (t) _ _ _ _ rfl (bit_s k hk17) rfl hb hr
        · rw [hx] at q4
          have e : hvs (fun a => decide (alb A B nt 36 P N dy (nI a).toInt64 < alb A B nt 36 P N 0 0 + g.toInt64)) 99999 (k + 1) t = hvs (fun a => decide (alb A B nt 36 P N dy (nI a).toInt64 < alb A B nt 36 P N 0 0 + g.toInt64)) 99999 k (t + 2 ^ k) := by
            show hvs (fun a => decide (alb A B nt 36 P N dy (nI a).toInt64 < alb A B nt 36 P N 0 0 + g.toInt64)) 99999 k (if t + 2 ^ k ≤ 99999 ∧ (fun a => decide (alb A B nt 36 P N dy (nI a).toInt64 < alb A B nt 36 P N 0 0 + g.toInt64)) (t + 2 ^ k) = true then t + 2 ^ k else t) = _
            rw [if_pos ⟨htop, decide_eq_true (Int64.not_le.mp q4)⟩]
          rw [e] at hr
          exact ih k rfl (t + 2 ^ k) _ _ _ _ hx (bit_s k hk17) rfl htop hr
  refine X 200 _ _ _ _ _ _ _ _ _ ?_
  refine c_allBy36 X hnt hI hP hN hbb hN8 ?_
  exact G 17 0 rfl 0 _ _ _ _ rfl rfl rfl (by omega) h
set_option maxRecDepth 20000 in
theorem c_leastTilt {J : mJ} (X : mRules J) {I A : mI} {B : mB} {w f : Nat} {R : mR} {nt P N : Nat} (hnt : nt ≤ 4) (hI : I 17 4 = nI nt) (hP : I 16 4 = nI P) (hN : I 16 5 = nI N) (hbb : N * P ≤ 320) (hN8 : N ≤ 320) {t0 : Nat} (ht : t0 < 4) {g : Int32} (h : R (some (.int (hvo 5000 (hvs (fun a => decide (sm (fun p => nea (pds A B nt 36 P p 0 0 + sm (fun j => tlo A B t0 (nI a) (p * P + j)) P) - nea (pds A B nt 36 P p 0 0)) N < g.toInt64)) 5000 13 0)))) I A B (pk w f)) : J n_WhatIf_leastTilt 0 [.ref 39, .int (nI t0), .int g, .float 0, .float 0, .float 0] [] I A B (pk w f) R := by
  have G : ∀ k i, i + k = 13 → ∀ (t : Nat) (x : Int32) (b : Int32) (v : Value), x = nI t → b = nI (2 ^ k / 2) → t ≤ 5000 → R (some (.int (hvo 5000 (hvs (fun a => decide (sm (fun p => nea (pds A B nt 36 P p 0 0 + sm (fun j => tlo A B t0 (nI a) (p * P + j)) P) - nea (pds A B nt 36 P p 0 0)) N < g.toInt64)) 5000 k t)))) I A B (pk w f) → J n_WhatIf_leastTilt 7 [.ref 39, .int (nI t0), .int g, .int x, .int b, v] [] I A B (pk w f) R := by
    refine lpk (fun i k => ∀ (t : Nat) (x : Int32) (b : Int32) (v : Value), x = nI t → b = nI (2 ^ k / 2) → t ≤ 5000 → R (some (.int (hvo 5000 (hvs (fun a => decide (sm (fun p => nea (pds A B nt 36 P p 0 0 + sm (fun j => tlo A B t0 (nI a) (p * P + j)) P) - nea (pds A B nt 36 P p 0 0)) N < g.toInt64)) 5000 k t)))) I A B (pk w f) → J n_WhatIf_leastTilt 7 [.ref 39, .int (nI t0), .int g, .int x, .int b, v] [] I A B (pk w f) R) (fun i k hi ih => ?_)
    intro t x b v ex eb hb hr
    subst ex; subst eb
    refine X 200 _ _ _ _ _ _ _ _ _ ?_
    refine And.intro (fun q1 => ?_) (fun q1 => ?_)
    · have e : k = 0 := by
        rcases Nat.eq_zero_or_pos k with z | z
        · exact z
        · obtain ⟨k, rfl⟩ : ∃ k0, k = k0 + 1 := ⟨k - 1, by omega⟩
          rw [bit_h] at q1
          have hk17 := bit_b k (by omega)
          have := bit_1 (k := k)
          exact absurd q1 (Int32.not_le.mpr (nI_0 ▸ nI_lt (show 0 < 2 ^ k by omega) (by omega)))
      subst e
      refine And.intro (fun q2 => ?_) (fun q2 => ?_)
      · have e : hvo 5000 t = -1 := by
          show (if t < 5000 then nI (t + 1) else -1) = _
          rw [if_neg (by have := (nI_leI (a := 5000) (b := t) (by omega) (by omega)).mp q2; omega)]
        have hr2 := hr
        simp only [hvs, e] at hr2
        exact hr2
      · have e : hvo 5000 t = nI t + 1 := by
          show (if t < 5000 then nI (t + 1) else -1) = _
          rw [if_pos (Nat.lt_of_not_le (fun z => q2 (nI_le (a := 5000) (b := t) z (by omega)))), nI_1]
        have hr2 := hr
        simp only [hvs, e] at hr2
        exact hr2
    · obtain ⟨k, rfl⟩ : ∃ k0, k = k0 + 1 := by
        rcases Nat.eq_zero_or_pos k with z | z
        · subst z
          exact absurd (show nI (2 ^ 0 / 2) ≤ 0 by decide) q1
        · exact ⟨k - 1, by omega⟩
      have hk17 : k < 17 := by omega
      have hk16 := bit_b k hk17
      have hx : nI t + nI (2 ^ (k + 1) / 2) = nI (t + 2 ^ k) := by rw [bit_h, nI_add]
      refine And.intro (fun q3 => ?_) (fun q3 => ?_)
      · rw [hx] at q3
        have e : hvs (fun a => decide (sm (fun p => nea (pds A B nt 36 P p 0 0 + sm (fun j => tlo A B t0 (nI a) (p * P + j)) P) - nea (pds A B nt 36 P p 0 0)) N < g.toInt64)) 5000 (k + 1) t = hvs (fun a => decide (sm (fun p => nea (pds A B nt 36 P p 0 0 + sm (fun j => tlo A B t0 (nI a) (p * P + j)) P) - nea (pds A B nt 36 P p 0 0)) N < g.toInt64)) 5000 k t := by
          show hvs (fun a => decide (sm (fun p => nea (pds A B nt 36 P p 0 0 + sm (fun j => tlo A B t0 (nI a) (p * P + j)) P) - nea (pds A B nt 36 P p 0 0)) N < g.toInt64)) 5000 k (if t + 2 ^ k ≤ 5000 ∧ (fun a => decide (sm (fun p => nea (pds A B nt 36 P p 0 0 + sm (fun j => tlo A B t0 (nI a) (p * P + j)) P) - nea (pds A B nt 36 P p 0 0)) N < g.toInt64)) (t + 2 ^ k) = true then t + 2 ^ k else t) = _
          rw [if_neg (fun z => absurd z.1 (by have := (nI_ltI (a := 5000) (b := t + 2 ^ k) (by omega) (by omega)).mp q3; omega))]
        rw [e] at hr
        exact ih k rfl (t) _ _ _ rfl (bit_s k hk17) hb hr
      · rw [hx] at q3
        have htop : t + 2 ^ k ≤ 5000 := by
          rcases Nat.lt_or_ge 5000 (t + 2 ^ k) with z | z
          · exact absurd (nI_lt (a := 5000) (b := t + 2 ^ k) z (by omega)) q3
          · exact z
        refine c_gainByTilt X hnt hI hP hN hbb hN8 ht ?_
        refine And.intro (fun q4 => ?_) (fun q4 => ?_)
        · rw [hx] at q4
          have e : hvs (fun a => decide (sm (fun p => nea (pds A B nt 36 P p 0 0 + sm (fun j => tlo A B t0 (nI a) (p * P + j)) P) - nea (pds A B nt 36 P p 0 0)) N < g.toInt64)) 5000 (k + 1) t = hvs (fun a => decide (sm (fun p => nea (pds A B nt 36 P p 0 0 + sm (fun j => tlo A B t0 (nI a) (p * P + j)) P) - nea (pds A B nt 36 P p 0 0)) N < g.toInt64)) 5000 k t := by
            show hvs (fun a => decide (sm (fun p => nea (pds A B nt 36 P p 0 0 + sm (fun j => tlo A B t0 (nI a) (p * P + j)) P) - nea (pds A B nt 36 P p 0 0)) N < g.toInt64)) 5000 k (if t + 2 ^ k ≤ 5000 ∧ (fun a => decide (sm (fun p => nea (pds A B nt 36 P p 0 0 + sm (fun j => tlo A B t0 (nI a) (p * P + j)) P) - nea (pds A B nt 36 P p 0 0)) N < g.toInt64)) (t + 2 ^ k) = true then t + 2 ^ k else t) = _
            rw [if_neg (fun z => absurd (of_decide_eq_true z.2) (Int64.not_lt.mpr q4))]
          rw [e] at hr
          exact ih k rfl (t) _ _ _ rfl (bit_s k hk17) hb hr
        · rw [hx] at q4
          have e : hvs (fun a => decide (sm (fun p => nea (pds A B nt 36 P p 0 0 + sm (fun j => tlo A B t0 (nI a) (p * P + j)) P) - nea (pds A B nt 36 P p 0 0)) N < g.toInt64)) 5000 (k + 1) t = hvs (fun a => decide (sm (fun p => nea (pds A B nt 36 P p 0 0 + sm (fun j => tlo A B t0 (nI a) (p * P + j)) P) - nea (pds A B nt 36 P p 0 0)) N < g.toInt64)) 5000 k (t + 2 ^ k) := by
            show hvs (fun a => decide (sm (fun p => nea (pds A B nt 36 P p 0 0 + sm (fun j => tlo A B t0 (nI a) (p * P + j)) P) - nea (pds A B nt 36 P p 0 0)) N < g.toInt64)) 5000 k (if t + 2 ^ k ≤ 5000 ∧ (fun a => decide (sm (fun p => nea (pds A B nt 36 P p 0 0 + sm (fun j => tlo A B t0 (nI a) (p * P + j)) P) - nea (pds A B nt 36 P p 0 0)) N < g.toInt64)) (t + 2 ^ k) = true then t + 2 ^ k else t) = _
            rw [if_pos ⟨htop, decide_eq_true (Int64.not_le.mp q4)⟩]
          rw [e] at hr
          exact ih k rfl (t + 2 ^ k) _ _ _ hx (bit_s k hk17) htop hr
  refine X 200 _ _ _ _ _ _ _ _ _ ?_
  exact G 13 0 rfl 0 _ _ _ rfl rfl (by omega) h
theorem tpR_c {A : mI} {B B' : mB} {vn : Nat → Nat} {D k : Nat} (h : ∀ r, r ≠ 37 → B' r = B r) {j : Nat} (hj : j < 320) : tpS A B' vn D k 320 37 j = tpS A B vn D k 320 37 j := by
  have e : tp1 A B' vn D k = tp1 A B vn D k := by
    funext i
    simp only [tp1, h 31 (by decide)]
  simp only [tpS, e, hj, and_self, if_true]
theorem pds_c {A : mI} {B B' : mB} {nt q P p : Nat} {fr : Int32} {mo : Int64} (hp : p * P + P ≤ 320) (h : ∀ j, j < 320 → B' q j = B q j) : pds A B' nt q P p fr mo = pds A B nt q P p fr mo := by
  simp only [pds]
  exact sm_congr (fun i hi => by rw [h (p * P + i) (by omega)])
theorem shf_c {B B' : mB} {q lo n : Nat} {a : Int64} (h : ∀ j, j < 320 → B' q j = B q j) : ∀ j, j < 320 → shf B' q lo a n q j = shf B q lo a n q j := fun j hj => by
  simp only [shf, h j hj]
theorem shs_c {B B' : mB} {P D dy : Nat} {am : Int64} (h : ∀ j, j < 320 → B' 37 j = B 37 j) : ∀ m j, j < 320 → shs B' P D dy am m 37 j = shs B P D dy am m 37 j
  | 0 => h
  | m + 1 => shf_c (shs_c h m)
theorem cps_c {A : mI} {nt P D K : Nat} {B B' : mB} (h : ∀ j, j < 320 → B' 37 j = B 37 j) : ∀ k, k * P ≤ 320 → ∀ j, j < 320 → cps A nt P D K B' k 37 j = cps A nt P D K B k 37 j
  | 0, _ => h
  | k + 1, hk => by
    rw [Nat.add_mul, Nat.one_mul] at hk
    have := cps_c (A := A) (nt := nt) (P := P) (D := D) (K := K) h k (by omega)
    intro j hj
    simp only [cps]
    rw [pds_c hk this]
    exact shf_c this j hj
theorem stl_c {A : mI} {B B' : mB} {vn : Nat → Nat} {nt P D K N n dy m : Nat} {am : Int32} (hb : N * P ≤ 320) (h : ∀ r, r ≠ 37 → B' r = B r) : stl A B' vn nt P D K N n dy m am = stl A B vn nt P D K N n dy m am := by
  simp only [stl]
  rw [sop_c (h 31 (by decide))]
  congr 1
  refine sm_congr (fun i hi => ?_)
  have := Nat.mul_le_mul_right P (show i + 1 ≤ N by omega)
  rw [Nat.add_mul, Nat.one_mul] at this
  have z := cps_c (A := A) (nt := nt) (P := P) (D := D) (K := K) (shs_c (P := P) (D := D) (dy := dy) (am := am.toInt64) (fun j hj => tpR_c (A := A) (vn := vn) (D := D) (k := n) h hj) m) i (by omega)
  exact congrArg nea (pds_c (by omega) z)
theorem stl_r {A : mI} {B : mB} {vn : Nat → Nat} {nt P D K N n dy m r : Nat} {am : Int64} (h : r ≠ 37) : cps A nt P D K (plr A B vn P D n dy m am) N r = B r := by rw [cps_b h, plr_b h]
set_option maxRecDepth 20000 in
theorem c_leastPlan {J : mJ} (X : mRules J) {I A : mI} {B : mB} {w f : Nat} {R : mR} {nt P N : Nat} (hnt : nt ≤ 4) (hI : I 17 4 = nI nt) (hP : I 16 4 = nI P) (hN : I 16 5 = nI N) (hbb : N * P ≤ 320) (hN8 : N ≤ 320) {n : Nat} (hn : n ≤ 220) (hz : I 29 6 = nI n) {K D : Nat} (hK : I 16 6 = nI K) (hK1 : 1 ≤ K) (hK4 : K ≤ 4) (hD : I 16 4 * I 16 5 = nI D) (hDb : D ≤ 320) (hP40 : P ≤ 40) {vn : Nat → Nat} (hvn : ∀ j, j < n → A 32 j = nI (vn j) ∧ vn j < 2 ^ 20) {xd : Int32} {dy m : Nat} (exd : xd = nI dy) (hdy : dy < 2 ^ 10) (hm8 : m ≤ 8) (h : (∀ Bv, (∀ r, r ≠ 37 → Bv r = B r) → R (some (.int (if 0 ≤ stl A B vn nt P D K N n dy m 0 then 0 else hvo 99999 (hvs (fun a => decide (stl A B vn nt P D K N n dy m (nI a) < 0)) 99999 17 0)))) I A Bv (pk w f))) : J n_WhatIf_leastPlan 0 [.ref 39, .int xd, .int (nI m), .float 0, .float 0, .float 0] [] I A B (pk w f) R := by
  have G : ∀ k i, i + k = 17 → ∀ (t : Nat) (x : Int32) (b : Int32) (v : Value) (Bv : mB), x = nI t → b = nI (2 ^ k / 2) → t ≤ 99999 → (∀ r, r ≠ 37 → Bv r = B r) → (∀ Bv, (∀ r, r ≠ 37 → Bv r = B r) → R (some (.int (hvo 99999 (hvs (fun a => decide (stl A B vn nt P D K N n dy m (nI a) < 0)) 99999 k t)))) I A Bv (pk w f)) → J n_WhatIf_leastPlan 20 [.ref 39, .int xd, .int (nI m), .int x, .int b, v] [] I A Bv (pk w f) R := by
    refine lpk (fun i k => ∀ (t : Nat) (x : Int32) (b : Int32) (v : Value) (Bv : mB), x = nI t → b = nI (2 ^ k / 2) → t ≤ 99999 → (∀ r, r ≠ 37 → Bv r = B r) → (∀ Bv, (∀ r, r ≠ 37 → Bv r = B r) → R (some (.int (hvo 99999 (hvs (fun a => decide (stl A B vn nt P D K N n dy m (nI a) < 0)) 99999 k t)))) I A Bv (pk w f)) → J n_WhatIf_leastPlan 20 [.ref 39, .int xd, .int (nI m), .int x, .int b, v] [] I A Bv (pk w f) R) (fun i k hi ih => ?_)
    intro t x b v Bv ex eb hb hB hr
    subst ex; subst eb
    refine X 200 _ _ _ _ _ _ _ _ _ ?_
    refine And.intro (fun q1 => ?_) (fun q1 => ?_)
    · have e : k = 0 := by
        rcases Nat.eq_zero_or_pos k with z | z
        · exact z
        · obtain ⟨k, rfl⟩ : ∃ k0, k = k0 + 1 := ⟨k - 1, by omega⟩
          rw [bit_h] at q1
          have hk17 := bit_b k (by omega)
          have := bit_1 (k := k)
          exact absurd q1 (Int32.not_le.mpr (nI_0 ▸ nI_lt (show 0 < 2 ^ k by omega) (by omega)))
      subst e
      refine And.intro (fun q2 => ?_) (fun q2 => ?_)
      · have e : hvo 99999 t = -1 := by
          show (if t < 99999 then nI (t + 1) else -1) = _
          rw [if_neg (by have := (nI_leI (a := 99999) (b := t) (by omega) (by omega)).mp q2; omega)]
        have hr2 := hr
        simp only [hvs, e] at hr2
        exact hr2 Bv hB
      · have e : hvo 99999 t = nI t + 1 := by
          show (if t < 99999 then nI (t + 1) else -1) = _
          rw [if_pos (Nat.lt_of_not_le (fun z => q2 (nI_le (a := 99999) (b := t) z (by omega)))), nI_1]
        have hr2 := hr
        simp only [hvs, e] at hr2
        exact hr2 Bv hB
    · obtain ⟨k, rfl⟩ : ∃ k0, k = k0 + 1 := by
        rcases Nat.eq_zero_or_pos k with z | z
        · subst z
          exact absurd (show nI (2 ^ 0 / 2) ≤ 0 by decide) q1
        · exact ⟨k - 1, by omega⟩
      have hk17 : k < 17 := by omega
      have hk16 := bit_b k hk17
      have hx : nI t + nI (2 ^ (k + 1) / 2) = nI (t + 2 ^ k) := by rw [bit_h, nI_add]
      refine And.intro (fun q3 => ?_) (fun q3 => ?_)
      · rw [hx] at q3
        have e : hvs (fun a => decide (stl A B vn nt P D K N n dy m (nI a) < 0)) 99999 (k + 1) t = hvs (fun a => decide (stl A B vn nt P D K N n dy m (nI a) < 0)) 99999 k t := by
          show hvs (fun a => decide (stl A B vn nt P D K N n dy m (nI a) < 0)) 99999 k (if t + 2 ^ k ≤ 99999 ∧ (fun a => decide (stl A B vn nt P D K N n dy m (nI a) < 0)) (t + 2 ^ k) = true then t + 2 ^ k else t) = _
          rw [if_neg (fun z => absurd z.1 (by have := (nI_ltI (a := 99999) (b := t + 2 ^ k) (by omega) (by omega)).mp q3; omega))]
        rw [e] at hr
        exact ih k rfl (t) _ _ _ _ rfl (bit_s k hk17) hb hB hr
      · rw [hx] at q3
        have htop : t + 2 ^ k ≤ 99999 := by
          rcases Nat.lt_or_ge 99999 (t + 2 ^ k) with z | z
          · exact absurd (nI_lt (a := 99999) (b := t + 2 ^ k) z (by omega)) q3
          · exact z
        refine c_settlementWith X hnt hI hP hN hbb hN8 hn hz hK hK1 hK4 hD hDb hP40 hvn exd hdy hm8 ?_
        refine And.intro (fun q4 => ?_) (fun q4 => ?_)
        · rw [hx, stl_c hbb hB] at q4
          have e : hvs (fun a => decide (stl A B vn nt P D K N n dy m (nI a) < 0)) 99999 (k + 1) t = hvs (fun a => decide (stl A B vn nt P D K N n dy m (nI a) < 0)) 99999 k t := by
            show hvs (fun a => decide (stl A B vn nt P D K N n dy m (nI a) < 0)) 99999 k (if t + 2 ^ k ≤ 99999 ∧ (fun a => decide (stl A B vn nt P D K N n dy m (nI a) < 0)) (t + 2 ^ k) = true then t + 2 ^ k else t) = _
            rw [if_neg (fun z => absurd (of_decide_eq_true z.2) (Int64.not_lt.mpr q4))]
          rw [e] at hr
          exact ih k rfl (t) _ _ _ _ rfl (bit_s k hk17) hb (fun r hr0 => (stl_r hr0).trans (hB r hr0)) hr
        · rw [hx, stl_c hbb hB] at q4
          have e : hvs (fun a => decide (stl A B vn nt P D K N n dy m (nI a) < 0)) 99999 (k + 1) t = hvs (fun a => decide (stl A B vn nt P D K N n dy m (nI a) < 0)) 99999 k (t + 2 ^ k) := by
            show hvs (fun a => decide (stl A B vn nt P D K N n dy m (nI a) < 0)) 99999 k (if t + 2 ^ k ≤ 99999 ∧ (fun a => decide (stl A B vn nt P D K N n dy m (nI a) < 0)) (t + 2 ^ k) = true then t + 2 ^ k else t) = _
            rw [if_pos ⟨htop, decide_eq_true (Int64.not_le.mp q4)⟩]
          rw [e] at hr
          exact ih k rfl (t + 2 ^ k) _ _ _ _ hx (bit_s k hk17) htop (fun r hr0 => (stl_r hr0).trans (hB r hr0)) hr
  refine X 200 _ _ _ _ _ _ _ _ _ ?_
  refine c_settlementWith X hnt hI hP hN hbb hN8 hn hz hK hK1 hK4 hD hDb hP40 hvn exd hdy hm8 ?_
  refine And.intro (fun q1 => ?_) (fun q1 => ?_)
  · rw [if_neg (Int64.not_le.mpr q1)] at h
    exact G 17 0 rfl 0 _ _ _ _ rfl rfl (by omega) (fun r hr0 => stl_r hr0) h
  · rw [if_pos (Int64.not_lt.mp q1)] at h
    exact h _ (fun r hr0 => stl_r hr0)
