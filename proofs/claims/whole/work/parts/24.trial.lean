/-! contracts: rows that are tried on (written by wip/whole/gc8.py) -/
/-- a row filled up to n -/
def fil {α : Type} (F : Nat → Nat → α) (q n : Nat) (v : α) : Nat → Nat → α := fun k j => if k = q ∧ j < n then v else F k j
theorem fil_0 {α : Type} {F : Nat → Nat → α} {q : Nat} {v : α} : fil F q 0 v = F := by
  funext k j
  simp [fil]
theorem fil_1 {α : Type} {F : Nat → Nat → α} {q n : Nat} {v : α} : up2 (fil F q n v) q n v = fil F q (n + 1) v := by
  funext k j
  simp only [fil, up2]
  by_cases hk : k = q
  · subst hk
    by_cases hj : j = n
    · subst hj
      rw [if_pos ⟨rfl, rfl⟩, if_pos ⟨rfl, Nat.lt_succ_self _⟩]
    · rw [if_neg (fun z => hj z.2)]
      by_cases h : j < n
      · rw [if_pos ⟨rfl, h⟩, if_pos ⟨rfl, by omega⟩]
      · rw [if_neg (fun z => h z.2), if_neg (by omega)]
  · rw [if_neg (fun z => hk z.1), if_neg (fun z => hk z.1), if_neg (fun z => hk z.1)]
set_option maxRecDepth 20000 in
theorem c_fill36 {J : mJ} (X : mRules J) {I A : mI} {B : mB} {w f : Nat} {R : mR} {v : Int64} (h : R none I A (fil B 36 320 v) (pk w f)) : J n_Arrays_fill2 0 [.ref 36, .long v, .float 0, .float 0, .float 0] [] I A B (pk w f) R := by
  have G : ∀ i, i ≤ 320 → ∀ (x : Int32) (le : Int32) (Bv : mB), x = nI i → le = nI 320 → Bv = fil B 36 i v → J n_Arrays_fill2 6 [.ref 36, .long v, .float 0, .int x, .int le] [] I A Bv (pk w f) R := by
    refine lpz (fun i => ∀ (x : Int32) (le : Int32) (Bv : mB), x = nI i → le = nI 320 → Bv = fil B 36 i v → J n_Arrays_fill2 6 [.ref 36, .long v, .float 0, .int x, .int le] [] I A Bv (pk w f) R) (fun i hi ih => ?_)
    intro x le Bv ex ele eBv
    subst ex; subst ele; subst eBv
    refine X 200 _ _ _ _ _ _ _ _ _ ?_
    refine And.intro (fun q1 => ?_) (fun q1 => ?_)
    · have e := lpx (n := 320) hi (by omega) q1
      subst e
      exact h
    · have hl := lpc (n := 320) hi (by omega) q1
      have hb31 : i < 2 ^ 31 := by omega
      refine Exists.intro _ (And.intro rfl (And.intro (vin (by omega) (by omega)) ?_))
      exact ih hl _ _ _ (nI_1 i) rfl (by rw [cl hb31]; exact fil_1)
  refine X 200 _ _ _ _ _ _ _ _ _ ?_
  refine Exists.intro _ (Exists.intro _ (And.intro rfl ?_))
  exact G 0 (Nat.zero_le _) _ _ _ rfl rfl fil_0.symm
set_option maxRecDepth 20000 in
theorem c_fill37 {J : mJ} (X : mRules J) {I A : mI} {B : mB} {w f : Nat} {R : mR} {v : Int64} (h : R none I A (fil B 37 320 v) (pk w f)) : J n_Arrays_fill2 0 [.ref 37, .long v, .float 0, .float 0, .float 0] [] I A B (pk w f) R := by
  have G : ∀ i, i ≤ 320 → ∀ (x : Int32) (le : Int32) (Bv : mB), x = nI i → le = nI 320 → Bv = fil B 37 i v → J n_Arrays_fill2 6 [.ref 37, .long v, .float 0, .int x, .int le] [] I A Bv (pk w f) R := by
    refine lpz (fun i => ∀ (x : Int32) (le : Int32) (Bv : mB), x = nI i → le = nI 320 → Bv = fil B 37 i v → J n_Arrays_fill2 6 [.ref 37, .long v, .float 0, .int x, .int le] [] I A Bv (pk w f) R) (fun i hi ih => ?_)
    intro x le Bv ex ele eBv
    subst ex; subst ele; subst eBv
    refine X 200 _ _ _ _ _ _ _ _ _ ?_
    refine And.intro (fun q1 => ?_) (fun q1 => ?_)
    · have e := lpx (n := 320) hi (by omega) q1
      subst e
      exact h
    · have hl := lpc (n := 320) hi (by omega) q1
      have hb31 : i < 2 ^ 31 := by omega
      refine Exists.intro _ (And.intro rfl (And.intro (vin (by omega) (by omega)) ?_))
      exact ih hl _ _ _ (nI_1 i) rfl (by rw [cl hb31]; exact fil_1)
  refine X 200 _ _ _ _ _ _ _ _ _ ?_
  refine Exists.intro _ (Exists.intro _ (And.intro rfl ?_))
  exact G 0 (Nat.zero_le _) _ _ _ rfl rfl fil_0.symm
set_option maxRecDepth 20000 in
theorem c_fill19 {J : mJ} (X : mRules J) {I A : mI} {B : mB} {w f : Nat} {R : mR} {v : Int32} (h : R none I (fil A 19 320 v) B (pk w f)) : J n_Arrays_fill 0 [.ref 19, .int v, .float 0, .float 0] [] I A B (pk w f) R := by
  have G : ∀ i, i ≤ 320 → ∀ (x : Int32) (le : Int32) (Bv : mI), x = nI i → le = nI 320 → Bv = fil A 19 i v → J n_Arrays_fill 5 [.ref 19, .int v, .int x, .int le] [] I Bv B (pk w f) R := by
    refine lpz (fun i => ∀ (x : Int32) (le : Int32) (Bv : mI), x = nI i → le = nI 320 → Bv = fil A 19 i v → J n_Arrays_fill 5 [.ref 19, .int v, .int x, .int le] [] I Bv B (pk w f) R) (fun i hi ih => ?_)
    intro x le Bv ex ele eBv
    subst ex; subst ele; subst eBv
    refine X 200 _ _ _ _ _ _ _ _ _ ?_
    refine And.intro (fun q1 => ?_) (fun q1 => ?_)
    · have e := lpx (n := 320) hi (by omega) q1
      subst e
      exact h
    · have hl := lpc (n := 320) hi (by omega) q1
      have hb31 : i < 2 ^ 31 := by omega
      refine Exists.intro _ (And.intro rfl (And.intro (vin (by omega) (by omega)) ?_))
      exact ih hl _ _ _ (nI_1 i) rfl (by rw [cl hb31]; exact fil_1)
  refine X 200 _ _ _ _ _ _ _ _ _ ?_
  refine Exists.intro _ (Exists.intro _ (And.intro rfl ?_))
  exact G 0 (Nat.zero_le _) _ _ _ rfl rfl fil_0.symm
set_option maxRecDepth 20000 in
theorem c_fill20 {J : mJ} (X : mRules J) {I A : mI} {B : mB} {w f : Nat} {R : mR} {v : Int32} (h : R none I (fil A 20 320 v) B (pk w f)) : J n_Arrays_fill 0 [.ref 20, .int v, .float 0, .float 0] [] I A B (pk w f) R := by
  have G : ∀ i, i ≤ 320 → ∀ (x : Int32) (le : Int32) (Bv : mI), x = nI i → le = nI 320 → Bv = fil A 20 i v → J n_Arrays_fill 5 [.ref 20, .int v, .int x, .int le] [] I Bv B (pk w f) R := by
    refine lpz (fun i => ∀ (x : Int32) (le : Int32) (Bv : mI), x = nI i → le = nI 320 → Bv = fil A 20 i v → J n_Arrays_fill 5 [.ref 20, .int v, .int x, .int le] [] I Bv B (pk w f) R) (fun i hi ih => ?_)
    intro x le Bv ex ele eBv
    subst ex; subst ele; subst eBv
    refine X 200 _ _ _ _ _ _ _ _ _ ?_
    refine And.intro (fun q1 => ?_) (fun q1 => ?_)
    · have e := lpx (n := 320) hi (by omega) q1
      subst e
      exact h
    · have hl := lpc (n := 320) hi (by omega) q1
      have hb31 : i < 2 ^ 31 := by omega
      refine Exists.intro _ (And.intro rfl (And.intro (vin (by omega) (by omega)) ?_))
      exact ih hl _ _ _ (nI_1 i) rfl (by rw [cl hb31]; exact fil_1)
  refine X 200 _ _ _ _ _ _ _ _ _ ?_
  refine Exists.intro _ (Exists.intro _ (And.intro rfl ?_))
  exact G 0 (Nat.zero_le _) _ _ _ rfl rfl fil_0.symm
set_option maxRecDepth 20000 in
theorem c_fill21 {J : mJ} (X : mRules J) {I A : mI} {B : mB} {w f : Nat} {R : mR} {v : Int32} (h : R none I (fil A 21 320 v) B (pk w f)) : J n_Arrays_fill 0 [.ref 21, .int v, .float 0, .float 0] [] I A B (pk w f) R := by
  have G : ∀ i, i ≤ 320 → ∀ (x : Int32) (le : Int32) (Bv : mI), x = nI i → le = nI 320 → Bv = fil A 21 i v → J n_Arrays_fill 5 [.ref 21, .int v, .int x, .int le] [] I Bv B (pk w f) R := by
    refine lpz (fun i => ∀ (x : Int32) (le : Int32) (Bv : mI), x = nI i → le = nI 320 → Bv = fil A 21 i v → J n_Arrays_fill 5 [.ref 21, .int v, .int x, .int le] [] I Bv B (pk w f) R) (fun i hi ih => ?_)
    intro x le Bv ex ele eBv
    subst ex; subst ele; subst eBv
    refine X 200 _ _ _ _ _ _ _ _ _ ?_
    refine And.intro (fun q1 => ?_) (fun q1 => ?_)
    · have e := lpx (n := 320) hi (by omega) q1
      subst e
      exact h
    · have hl := lpc (n := 320) hi (by omega) q1
      have hb31 : i < 2 ^ 31 := by omega
      refine Exists.intro _ (And.intro rfl (And.intro (vin (by omega) (by omega)) ?_))
      exact ih hl _ _ _ (nI_1 i) rfl (by rw [cl hb31]; exact fil_1)
  refine X 200 _ _ _ _ _ _ _ _ _ ?_
  refine Exists.intro _ (Exists.intro _ (And.intro rfl ?_))
  exact G 0 (Nat.zero_le _) _ _ _ rfl rfl fil_0.symm
set_option maxRecDepth 20000 in
theorem c_fill22 {J : mJ} (X : mRules J) {I A : mI} {B : mB} {w f : Nat} {R : mR} {v : Int32} (h : R none I (fil A 22 320 v) B (pk w f)) : J n_Arrays_fill 0 [.ref 22, .int v, .float 0, .float 0] [] I A B (pk w f) R := by
  have G : ∀ i, i ≤ 320 → ∀ (x : Int32) (le : Int32) (Bv : mI), x = nI i → le = nI 320 → Bv = fil A 22 i v → J n_Arrays_fill 5 [.ref 22, .int v, .int x, .int le] [] I Bv B (pk w f) R := by
    refine lpz (fun i => ∀ (x : Int32) (le : Int32) (Bv : mI), x = nI i → le = nI 320 → Bv = fil A 22 i v → J n_Arrays_fill 5 [.ref 22, .int v, .int x, .int le] [] I Bv B (pk w f) R) (fun i hi ih => ?_)
    intro x le Bv ex ele eBv
    subst ex; subst ele; subst eBv
    refine X 200 _ _ _ _ _ _ _ _ _ ?_
    refine And.intro (fun q1 => ?_) (fun q1 => ?_)
    · have e := lpx (n := 320) hi (by omega) q1
      subst e
      exact h
    · have hl := lpc (n := 320) hi (by omega) q1
      have hb31 : i < 2 ^ 31 := by omega
      refine Exists.intro _ (And.intro rfl (And.intro (vin (by omega) (by omega)) ?_))
      exact ih hl _ _ _ (nI_1 i) rfl (by rw [cl hb31]; exact fil_1)
  refine X 200 _ _ _ _ _ _ _ _ _ ?_
  refine Exists.intro _ (Exists.intro _ (And.intro rfl ?_))
  exact G 0 (Nat.zero_le _) _ _ _ rfl rfl fil_0.symm
set_option maxRecDepth 20000 in
theorem c_fill23 {J : mJ} (X : mRules J) {I A : mI} {B : mB} {w f : Nat} {R : mR} {v : Int32} (h : R none I (fil A 23 320 v) B (pk w f)) : J n_Arrays_fill 0 [.ref 23, .int v, .float 0, .float 0] [] I A B (pk w f) R := by
  have G : ∀ i, i ≤ 320 → ∀ (x : Int32) (le : Int32) (Bv : mI), x = nI i → le = nI 320 → Bv = fil A 23 i v → J n_Arrays_fill 5 [.ref 23, .int v, .int x, .int le] [] I Bv B (pk w f) R := by
    refine lpz (fun i => ∀ (x : Int32) (le : Int32) (Bv : mI), x = nI i → le = nI 320 → Bv = fil A 23 i v → J n_Arrays_fill 5 [.ref 23, .int v, .int x, .int le] [] I Bv B (pk w f) R) (fun i hi ih => ?_)
    intro x le Bv ex ele eBv
    subst ex; subst ele; subst eBv
    refine X 200 _ _ _ _ _ _ _ _ _ ?_
    refine And.intro (fun q1 => ?_) (fun q1 => ?_)
    · have e := lpx (n := 320) hi (by omega) q1
      subst e
      exact h
    · have hl := lpc (n := 320) hi (by omega) q1
      have hb31 : i < 2 ^ 31 := by omega
      refine Exists.intro _ (And.intro rfl (And.intro (vin (by omega) (by omega)) ?_))
      exact ih hl _ _ _ (nI_1 i) rfl (by rw [cl hb31]; exact fil_1)
  refine X 200 _ _ _ _ _ _ _ _ _ ?_
  refine Exists.intro _ (Exists.intro _ (And.intro rfl ?_))
  exact G 0 (Nat.zero_le _) _ _ _ rfl rfl fil_0.symm
set_option maxRecDepth 20000 in
theorem c_fill24 {J : mJ} (X : mRules J) {I A : mI} {B : mB} {w f : Nat} {R : mR} {v : Int32} (h : R none I (fil A 24 320 v) B (pk w f)) : J n_Arrays_fill 0 [.ref 24, .int v, .float 0, .float 0] [] I A B (pk w f) R := by
  have G : ∀ i, i ≤ 320 → ∀ (x : Int32) (le : Int32) (Bv : mI), x = nI i → le = nI 320 → Bv = fil A 24 i v → J n_Arrays_fill 5 [.ref 24, .int v, .int x, .int le] [] I Bv B (pk w f) R := by
    refine lpz (fun i => ∀ (x : Int32) (le : Int32) (Bv : mI), x = nI i → le = nI 320 → Bv = fil A 24 i v → J n_Arrays_fill 5 [.ref 24, .int v, .int x, .int le] [] I Bv B (pk w f) R) (fun i hi ih => ?_)
    intro x le Bv ex ele eBv
    subst ex; subst ele; subst eBv
    refine X 200 _ _ _ _ _ _ _ _ _ ?_
    refine And.intro (fun q1 => ?_) (fun q1 => ?_)
    · have e := lpx (n := 320) hi (by omega) q1
      subst e
      exact h
    · have hl := lpc (n := 320) hi (by omega) q1
      have hb31 : i < 2 ^ 31 := by omega
      refine Exists.intro _ (And.intro rfl (And.intro (vin (by omega) (by omega)) ?_))
      exact ih hl _ _ _ (nI_1 i) rfl (by rw [cl hb31]; exact fil_1)
  refine X 200 _ _ _ _ _ _ _ _ _ ?_
  refine Exists.intro _ (Exists.intro _ (And.intro rfl ?_))
  exact G 0 (Nat.zero_le _) _ _ _ rfl rfl fil_0.symm
set_option maxRecDepth 20000 in
theorem c_fill25 {J : mJ} (X : mRules J) {I A : mI} {B : mB} {w f : Nat} {R : mR} {v : Int32} (h : R none I (fil A 25 320 v) B (pk w f)) : J n_Arrays_fill 0 [.ref 25, .int v, .float 0, .float 0] [] I A B (pk w f) R := by
  have G : ∀ i, i ≤ 320 → ∀ (x : Int32) (le : Int32) (Bv : mI), x = nI i → le = nI 320 → Bv = fil A 25 i v → J n_Arrays_fill 5 [.ref 25, .int v, .int x, .int le] [] I Bv B (pk w f) R := by
    refine lpz (fun i => ∀ (x : Int32) (le : Int32) (Bv : mI), x = nI i → le = nI 320 → Bv = fil A 25 i v → J n_Arrays_fill 5 [.ref 25, .int v, .int x, .int le] [] I Bv B (pk w f) R) (fun i hi ih => ?_)
    intro x le Bv ex ele eBv
    subst ex; subst ele; subst eBv
    refine X 200 _ _ _ _ _ _ _ _ _ ?_
    refine And.intro (fun q1 => ?_) (fun q1 => ?_)
    · have e := lpx (n := 320) hi (by omega) q1
      subst e
      exact h
    · have hl := lpc (n := 320) hi (by omega) q1
      have hb31 : i < 2 ^ 31 := by omega
      refine Exists.intro _ (And.intro rfl (And.intro (vin (by omega) (by omega)) ?_))
      exact ih hl _ _ _ (nI_1 i) rfl (by rw [cl hb31]; exact fil_1)
  refine X 200 _ _ _ _ _ _ _ _ _ ?_
  refine Exists.intro _ (Exists.intro _ (And.intro rfl ?_))
  exact G 0 (Nat.zero_le _) _ _ _ rfl rfl fil_0.symm
theorem c_fillR {J : mJ} (X : mRules J) {I A : mI} {B : mB} {w f : Nat} {R : mR} {v : Int32} {r : Nat} (hr : r < 7) (h : R none I (fil A (19 + r) 320 v) B (pk w f)) : J n_Arrays_fill 0 [.ref (19 + r), .int v, .float 0, .float 0] [] I A B (pk w f) R := by
  match r, hr, h with
  | 0, _, h => exact c_fill19 X h
  | 1, _, h => exact c_fill20 X h
  | 2, _, h => exact c_fill21 X h
  | 3, _, h => exact c_fill22 X h
  | 4, _, h => exact c_fill23 X h
  | 5, _, h => exact c_fill24 X h
  | 6, _, h => exact c_fill25 X h
/-- the balances, copied to the row to try on -/
def tbl (B : mB) : mB := up1 B 37 (va_cpy (B 36) (B 37) 0 0 320)
/-- a period's correction on the row: how much, and the row behind -/
def crn (A : mI) (nt P D K n : Nat) (B0 B : mB) (p : Nat) : Int64 := nea (pds A B nt 37 P p 0 0) - ibk A B0 n (nI p)
def cmp_ (P K p : Nat) : Nat := P * K * (p / K + 1)
/-- the row, and the corrections so far, behind k periods -/
def crs (A : mI) (nt P D K n : Nat) (B0 : mB) : Nat → mB
  | 0 => tbl B0
  | p + 1 => shf (crs A nt P D K n B0 p) 37 (cmp_ P K p) (crn A nt P D K n B0 (crs A nt P D K n B0 p) p) (D - cmp_ P K p)
theorem crs_b {A : mI} {nt P D K n : Nat} {B0 : mB} : ∀ {k : Nat} {r : Nat}, r ≠ 37 → crs A nt P D K n B0 k r = B0 r
  | 0, r, h => by
    funext j
    simp [crs, tbl, up1, h]
  | k + 1, r, h => by
    funext j
    show shf _ _ _ _ _ r j = _
    simp only [shf]
    rw [if_neg (fun z => h z.1), crs_b h]
theorem ibk_c {A : mI} {B B' : mB} {n : Nat} {p : Int32} (h : B' 31 = B 31) : ibk A B' n p = ibk A B n p := by
  simp only [ibk, h]
set_option maxRecDepth 20000 in
theorem c_correctionsNow {J : mJ} (X : mRules J) {I A : mI} {B : mB} {w f : Nat} {R : mR} {nt P N : Nat} (hnt : nt ≤ 4) (hI : I 17 4 = nI nt) (hP : I 16 4 = nI P) (hN : I 16 5 = nI N) (hb : N * P ≤ 320) (hN8 : N ≤ 320) {n : Nat} (hn : n ≤ 220) (hz : I 29 6 = nI n) {c : Nat} (hc : I 16 7 = nI c) (hcN : c ≤ N) {K D : Nat} (hK : I 16 6 = nI K) (hK1 : 1 ≤ K) (hK4 : K ≤ 4) (hD : I 16 4 * I 16 5 = nI D) (hDb : D ≤ 320) (hP40 : P ≤ 40) (h : R (some (.int (nI (ct (fun p => decide (¬ crn A nt P D K n B (crs A nt P D K n B p) p = 0)) c)))) I A (crs A nt P D K n B c) (pk w f)) : J n_WhatIf_correctionsNow 0 [.ref 39, .float 0, .float 0, .float 0] [] I A B (pk w f) R := by
  have G : ∀ i, i ≤ c → ∀ (s : Int32) (x : Int32) (Bv : mB), s = nI (ct (fun p => decide (¬ crn A nt P D K n B (crs A nt P D K n B p) p = 0)) i) → x = nI i → Bv = crs A nt P D K n B i → J n_WhatIf_correctionsNow 12 [.ref 39, .int s, .ref 37, .int x] [] I A Bv (pk w f) R := by
    refine lpz (fun i => ∀ (s : Int32) (x : Int32) (Bv : mB), s = nI (ct (fun p => decide (¬ crn A nt P D K n B (crs A nt P D K n B p) p = 0)) i) → x = nI i → Bv = crs A nt P D K n B i → J n_WhatIf_correctionsNow 12 [.ref 39, .int s, .ref 37, .int x] [] I A Bv (pk w f) R) (fun i hi ih => ?_)
    intro s x Bv es ex eBv
    subst es; subst ex; subst eBv
    refine X 200 _ _ _ _ _ _ _ _ _ ?_
    refine And.intro (fun q1 => ?_) (fun q1 => ?_)
    · rw [hc] at q1
      have e := lpx hi (by omega) q1
      subst e
      exact h
    · rw [hc] at q1
      have hl := lpc hi (by omega) q1
      have hm : i * P + P ≤ 320 := by have := Nat.mul_le_mul_right P (show i + 1 ≤ N by omega); rw [Nat.add_mul, Nat.one_mul] at this; omega
      have hcd : I 16 4 * I 16 6 * (nI i / I 16 6 + 1) = nI (cmp_ P K i) := by
        rw [hP, hK, pk_mul, pk_div (by omega) (by omega) (by omega), nI_1, pk_mul]
        rfl
      have hcv : cmp_ P K i < 2 ^ 20 := by
        have h1 : P * K ≤ 160 := Nat.le_trans (Nat.mul_le_mul hP40 hK4) (by omega)
        have h2 : i / K + 1 ≤ 321 := by have := Nat.div_le_self i K; omega
        have := Nat.mul_le_mul h1 h2
        unfold cmp_
        omega
      have hib : ibk A (crs A nt P D K n B i) n (nI i) = ibk A B n (nI i) := ibk_c (crs_b (by decide))
      refine c_productsOf37 X hnt hI hP (p := i) rfl hm ?_
      refine c_nearest X ?_
      refine c_interestBooked X hn hz ?_
      refine c_compDay X ?_ (by rw [hK]; exact nI_nlt (b := 1) hK1 (by omega))
      refine c_shift37 X (v := cmp_ P K i) hD hDb hcd hcv ?_
      refine And.intro (fun q2 => ?_) (fun q2 => ?_)
      · have q3 : crn A nt P D K n B (crs A nt P D K n B i) i = 0 := by
          unfold crn
          rw [← hib]
          exact q2
        exact ih hl _ _ _ (by simp [ct, nI_1, q3]) (nI_1 i) (by simp only [crs, crn]; rw [← hib]; rfl)
      · have q3 : ¬ crn A nt P D K n B (crs A nt P D K n B i) i = 0 := by
          unfold crn
          rw [← hib]
          exact q2
        exact ih hl _ _ _ (by simp [ct, nI_1, q3]) (nI_1 i) (by simp only [crs, crn]; rw [← hib]; rfl)
  refine X 200 _ _ _ _ _ _ _ _ _ ?_
  refine Exists.intro 1 (Exists.intro 320 (Exists.intro 320 (And.intro rfl (And.intro rfl (And.intro (Or.inr rfl) (And.intro (by decide) (And.intro (by decide) (And.intro (by decide) (And.intro (by decide) (And.intro (by decide) (And.intro (fun z => absurd z (by decide)) (fun _ => ?_))))))))))))
  exact G 0 (Nat.zero_le _) _ _ _ rfl rfl rfl
set_option maxRecDepth 20000 in
theorem c_correctedNow {J : mJ} (X : mRules J) {I A : mI} {B : mB} {w f : Nat} {R : mR} {nt P N : Nat} (hnt : nt ≤ 4) (hI : I 17 4 = nI nt) (hP : I 16 4 = nI P) (hN : I 16 5 = nI N) (hb : N * P ≤ 320) (hN8 : N ≤ 320) {n : Nat} (hn : n ≤ 220) (hz : I 29 6 = nI n) {c : Nat} (hc : I 16 7 = nI c) (hcN : c ≤ N) {K D : Nat} (hK : I 16 6 = nI K) (hK1 : 1 ≤ K) (hK4 : K ≤ 4) (hD : I 16 4 * I 16 5 = nI D) (hDb : D ≤ 320) (hP40 : P ≤ 40) (h : R (some (.long (sm (fun p => crn A nt P D K n B (crs A nt P D K n B p) p) c))) I A (crs A nt P D K n B c) (pk w f)) : J n_WhatIf_correctedNow 0 [.ref 39, .float 0, .float 0, .float 0, .float 0] [] I A B (pk w f) R := by
  have G : ∀ i, i ≤ c → ∀ (s : Int64) (x : Int32) (Bv : mB), s = sm (fun p => crn A nt P D K n B (crs A nt P D K n B p) p) i → x = nI i → Bv = crs A nt P D K n B i → J n_WhatIf_correctedNow 13 [.ref 39, .long s, .float 0, .ref 37, .int x] [] I A Bv (pk w f) R := by
    refine lpz (fun i => ∀ (s : Int64) (x : Int32) (Bv : mB), s = sm (fun p => crn A nt P D K n B (crs A nt P D K n B p) p) i → x = nI i → Bv = crs A nt P D K n B i → J n_WhatIf_correctedNow 13 [.ref 39, .long s, .float 0, .ref 37, .int x] [] I A Bv (pk w f) R) (fun i hi ih => ?_)
    intro s x Bv es ex eBv
    subst es; subst ex; subst eBv
    refine X 200 _ _ _ _ _ _ _ _ _ ?_
    refine And.intro (fun q1 => ?_) (fun q1 => ?_)
    · rw [hc] at q1
      have e := lpx hi (by omega) q1
      subst e
      exact h
    · rw [hc] at q1
      have hl := lpc hi (by omega) q1
      have hm : i * P + P ≤ 320 := by have := Nat.mul_le_mul_right P (show i + 1 ≤ N by omega); rw [Nat.add_mul, Nat.one_mul] at this; omega
      have hcd : I 16 4 * I 16 6 * (nI i / I 16 6 + 1) = nI (cmp_ P K i) := by
        rw [hP, hK, pk_mul, pk_div (by omega) (by omega) (by omega), nI_1, pk_mul]
        rfl
      have hcv : cmp_ P K i < 2 ^ 20 := by
        have h1 : P * K ≤ 160 := Nat.le_trans (Nat.mul_le_mul hP40 hK4) (by omega)
        have h2 : i / K + 1 ≤ 321 := by have := Nat.div_le_self i K; omega
        have := Nat.mul_le_mul h1 h2
        unfold cmp_
        omega
      have hib : ibk A (crs A nt P D K n B i) n (nI i) = ibk A B n (nI i) := ibk_c (crs_b (by decide))
      refine c_productsOf37 X hnt hI hP (p := i) rfl hm ?_
      refine c_nearest X ?_
      refine c_interestBooked X hn hz ?_
      refine c_compDay X ?_ (by rw [hK]; exact nI_nlt (b := 1) hK1 (by omega))
      refine c_shift37 X (v := cmp_ P K i) hD hDb hcd hcv ?_
      exact ih hl _ _ _ (by simp only [sm, crn]; rw [← hib]; rfl) (nI_1 i) (by simp only [crs, crn]; rw [← hib]; rfl)
  refine X 200 _ _ _ _ _ _ _ _ _ ?_
  refine Exists.intro 1 (Exists.intro 320 (Exists.intro 320 (And.intro rfl (And.intro rfl (And.intro (Or.inr rfl) (And.intro (by decide) (And.intro (by decide) (And.intro (by decide) (And.intro (by decide) (And.intro (by decide) (And.intro (fun z => absurd z (by decide)) (fun _ => ?_))))))))))))
  exact G 0 (Nat.zero_le _) _ _ _ rfl rfl rfl
/-- paid, drawn and turned back amounts of a day (of D), of the first k -/
def tp1 (A : mI) (B : mB) (vn : Nat → Nat) (D k j : Nat) : Int64 := sm (fun i => if ¬ (A 30 i = 1 ∨ A 30 i = 2) ∧ vn i < D ∧ vn i = j then B 31 i else 0) k
/-- the row behind the first loop's k turns -/
def tpR (A : mI) (B : mB) (vn : Nat → Nat) (D k : Nat) : mB := fun r j => if r = 37 ∧ j < 320 then tp1 A B vn D k j else B r j
/-- the row with its first m places summed up -/
def tpS (A : mI) (B : mB) (vn : Nat → Nat) (D n m : Nat) : mB := fun r j => if r = 37 ∧ j < 320 then (if j < m then sm (tp1 A B vn D n) (j + 1) else tp1 A B vn D n j) else B r j
theorem tpR_0 {A : mI} {B : mB} {vn : Nat → Nat} {D : Nat} : fil B 37 320 0 = tpR A B vn D 0 := by
  funext r j
  rfl
theorem tpR_s {A : mI} {B : mB} {vn : Nat → Nat} {D k : Nat} (h1 : ¬ (A 30 k = 1 ∨ A 30 k = 2)) (h2 : vn k < D) (h3 : D ≤ 320) : up2 (tpR A B vn D k) 37 (vn k) (tpR A B vn D k 37 (vn k) + B 31 k) = tpR A B vn D (k + 1) := by
  funext r j
  show (if r = 37 ∧ j = vn k then (if (37 : Nat) = 37 ∧ vn k < 320 then tp1 A B vn D k (vn k) else B 37 (vn k)) + B 31 k else if r = 37 ∧ j < 320 then tp1 A B vn D k j else B r j) = (if r = 37 ∧ j < 320 then tp1 A B vn D k j + (if ¬ (A 30 k = 1 ∨ A 30 k = 2) ∧ vn k < D ∧ vn k = j then B 31 k else 0) else B r j)
  by_cases hr : r = 37
  · subst hr
    by_cases hj : j = vn k
    · subst hj
      rw [if_pos ⟨rfl, rfl⟩, if_pos ⟨rfl, by omega⟩, if_pos ⟨rfl, by omega⟩, if_pos ⟨h1, h2, rfl⟩]
    · rw [if_neg (fun z => hj z.2), if_neg (c := ¬ (A 30 k = 1 ∨ A 30 k = 2) ∧ vn k < D ∧ vn k = j) (fun z => hj z.2.2.symm), Int64.add_zero]
  · rw [if_neg (fun z => hr z.1), if_neg (fun z => hr z.1), if_neg (fun z => hr z.1)]
theorem tpR_k {A : mI} {B : mB} {vn : Nat → Nat} {D k : Nat} (h : ¬ (¬ (A 30 k = 1 ∨ A 30 k = 2) ∧ vn k < D)) : tpR A B vn D k = tpR A B vn D (k + 1) := by
  funext r j
  simp only [tpR, tp1, sm]
  rw [if_neg (c := ¬ (A 30 k = 1 ∨ A 30 k = 2) ∧ vn k < D ∧ vn k = j) (fun z => h ⟨z.1, z.2.1⟩), Int64.add_zero]
theorem tpS_1 {A : mI} {B : mB} {vn : Nat → Nat} {D n : Nat} : tpR A B vn D n = tpS A B vn D n 1 := by
  funext r j
  simp only [tpR, tpS]
  by_cases h : r = 37 ∧ j < 320
  · rw [if_pos h, if_pos h]
    by_cases hj : j < 1
    · rw [if_pos hj, show j = 0 by omega]
      simp [sm]
    · rw [if_neg hj]
  · rw [if_neg h, if_neg h]
theorem tpS_s {A : mI} {B : mB} {vn : Nat → Nat} {D n m : Nat} (h : 1 + m < 320) : up2 (tpS A B vn D n (1 + m)) 37 (1 + m) (tpS A B vn D n (1 + m) 37 (1 + m) + tpS A B vn D n (1 + m) 37 m) = tpS A B vn D n (1 + m + 1) := by
  have a1 : tpS A B vn D n (1 + m) 37 (1 + m) = tp1 A B vn D n (1 + m) := by
    show (if (37 : Nat) = 37 ∧ 1 + m < 320 then (if 1 + m < 1 + m then sm (tp1 A B vn D n) (1 + m + 1) else tp1 A B vn D n (1 + m)) else B 37 (1 + m)) = _
    rw [if_pos ⟨rfl, h⟩, if_neg (by omega)]
  have a2 : tpS A B vn D n (1 + m) 37 m = sm (tp1 A B vn D n) (m + 1) := by
    show (if (37 : Nat) = 37 ∧ m < 320 then (if m < 1 + m then sm (tp1 A B vn D n) (m + 1) else tp1 A B vn D n m) else B 37 m) = _
    rw [if_pos ⟨rfl, by omega⟩, if_pos (by omega)]
  rw [a1, a2]
  funext r j
  show (if r = 37 ∧ j = 1 + m then tp1 A B vn D n (1 + m) + sm (tp1 A B vn D n) (m + 1) else (if r = 37 ∧ j < 320 then (if j < 1 + m then sm (tp1 A B vn D n) (j + 1) else tp1 A B vn D n j) else B r j)) = (if r = 37 ∧ j < 320 then (if j < 1 + m + 1 then sm (tp1 A B vn D n) (j + 1) else tp1 A B vn D n j) else B r j)
  by_cases hr : r = 37
  · subst hr
    by_cases hj : j = 1 + m
    · subst hj
      rw [if_pos ⟨rfl, rfl⟩, if_pos ⟨rfl, h⟩, if_pos (by omega), show 1 + m + 1 = m + 1 + 1 by omega, show 1 + m = m + 1 by omega, Int64.add_comm]
      rfl
    · rw [if_neg (fun z => hj z.2)]
      by_cases h3 : j < 320
      · rw [if_pos (c := 37 = 37 ∧ j < 320) ⟨rfl, h3⟩, if_pos (c := 37 = 37 ∧ j < 320) ⟨rfl, h3⟩]
        by_cases h4 : j < 1 + m
        · rw [if_pos h4, if_pos (by omega)]
        · rw [if_neg h4, if_neg (by omega)]
      · rw [if_neg (fun z => h3 z.2), if_neg (fun z => h3 z.2)]
  · rw [if_neg (fun z => hr z.1), if_neg (fun z => hr z.1), if_neg (fun z => hr z.1)]
set_option maxRecDepth 20000 in
theorem c_trialPrincipal {J : mJ} (X : mRules J) {I A : mI} {B : mB} {w f : Nat} {R : mR} {n D : Nat} (hn : n ≤ 220) (hz : I 29 6 = nI n) (hD : I 16 4 * I 16 5 = nI D) (hDb : D ≤ 320) {vn : Nat → Nat} (hvn : ∀ j, j < n → A 32 j = nI (vn j) ∧ vn j < 2 ^ 20) (h : R (some (.ref 37)) I A (tpS A B vn D n 320) (pk w f)) : J n_Ledger_trialPrincipal 0 [.ref 16, .float 0, .float 0] [] I A B (pk w f) R := by
  have G2 : ∀ i, i ≤ 319 → ∀ (x : Int32) (v2 : Value) (Bv : mB), x = nI (1 + i) → Bv = tpS A B vn D n (1 + i) → J n_Ledger_trialPrincipal 81 [.ref 16, .int x, v2] [] I A Bv (pk w f) R := by
    refine lpz (fun i => ∀ (x : Int32) (v2 : Value) (Bv : mB), x = nI (1 + i) → Bv = tpS A B vn D n (1 + i) → J n_Ledger_trialPrincipal 81 [.ref 16, .int x, v2] [] I A Bv (pk w f) R) (fun i hi ih => ?_)
    intro x v2 Bv ex eB
    subst ex; subst eB
    refine X 200 _ _ _ _ _ _ _ _ _ ?_
    refine And.intro (fun q1 => ?_) (fun q1 => ?_)
    · have e := lpxo (a := 1) (n := 319) hi (by omega) q1
      subst e
      exact h
    · have hl := lpco (a := 1) (n := 319) hi (by omega) q1
      have hb31 : 1 + i < 2 ^ 31 := by omega
      have hb30 : i < 2 ^ 31 := by omega
      refine Exists.intro _ (And.intro rfl (And.intro (by first | exact vin (by omega) (by omega) | (rw [nIp]; exact vin (by omega) (by omega))) ?_))
      refine Exists.intro _ (And.intro rfl (And.intro (by first | exact vin (by omega) (by omega) | (rw [nIp]; exact vin (by omega) (by omega))) ?_))
      refine Exists.intro _ (And.intro rfl (And.intro (by first | exact vin (by omega) (by omega) | (rw [nIp]; exact vin (by omega) (by omega))) ?_))
      exact ih hl _ _ _ (nI_1 _) (by rw [nIp, cl hb31, cl hb30]; exact tpS_s (by omega))
  have G1 : ∀ i, i ≤ n → ∀ (x : Int32) (v2 : Value) (Bv : mB), x = nI i → Bv = tpR A B vn D i → J n_Ledger_trialPrincipal 10 [.ref 16, .int x, v2] [] I A Bv (pk w f) R := by
    refine lpz (fun i => ∀ (x : Int32) (v2 : Value) (Bv : mB), x = nI i → Bv = tpR A B vn D i → J n_Ledger_trialPrincipal 10 [.ref 16, .int x, v2] [] I A Bv (pk w f) R) (fun i hi ih => ?_)
    intro x v2 Bv ex eB
    subst ex; subst eB
    refine X 200 _ _ _ _ _ _ _ _ _ ?_
    refine And.intro (fun q1 => ?_) (fun q1 => ?_)
    · rw [hz] at q1
      have e := lpx hi (by omega) q1
      subst e
      exact G2 0 (Nat.zero_le _) _ _ _ rfl tpS_1
    · rw [hz] at q1
      have hl := lpc hi (by omega) q1
      refine c_valueOf X hn hz (i := i) rfl hl ?_
      refine c_isInt X hn hl hz (fun z1 => ?_) (fun z1 => ?_)
      · refine And.intro (fun _ => ?_) (fun q => absurd q (by decide))
        exact ih hl _ _ _ (nI_1 i) (tpR_k (fun z => z.1 z1))
      · refine And.intro (fun q => absurd (by decide) q) (fun _ => ?_)
        refine c_isDay X (D := D) (by omega) hD (fun k hk ek => ?_) (fun z2 => ?_)
        · refine And.intro (fun q => absurd q (by decide)) (fun _ => ?_)
          refine And.intro (fun q2 => ?_) (fun q2 => ?_)
          · exact absurd q2 (by rw [ek]; exact nI_ge (b := 320) (by omega) (by omega)) --end
          · refine Exists.intro _ (And.intro rfl (And.intro (by rw [ek]; exact vin (by omega) (by omega)) ?_))
            refine c_amountOf X hn hz (i := i) rfl hl ?_
            refine Exists.intro _ (And.intro rfl (And.intro (by rw [ek]; exact vin (by omega) (by omega)) ?_))
            have e2 : k = vn i := (nI_eq (by omega) (by have := (hvn i hl).2; omega)).mp (ek.symm.trans (hvn i hl).1)
            subst e2
            exact ih hl _ _ _ (nI_1 i) (by rw [(hvn i hl).1, cl (by omega)]; exact tpR_s z1 hk hDb)
        · refine And.intro (fun _ => ?_) (fun q => absurd (by decide) q)
          exact ih hl _ _ _ (nI_1 i) (tpR_k (fun z => z2 (vn i) z.2 (hvn i hl).1))
  refine X 200 _ _ _ _ _ _ _ _ _ ?_
  refine c_fill37 X ?_
  exact G1 0 (Nat.zero_le _) _ _ _ rfl tpR_0
