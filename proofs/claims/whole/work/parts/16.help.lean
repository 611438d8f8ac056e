/-! helpers of the contracts -/
theorem lp (G : Nat → Prop) {n : Nat} (hn : G n) (h : ∀ i, i < n → G (i + 1) → G i) : ∀ i, i ≤ n → G i := by
  have key : ∀ k i, i + k = n → G i := by
    intro k
    induction k with
    | zero => intro i e; rw [show i = n by omega]; exact hn
    | succ k ih => intro i e; exact h i (by omega) (ih (i + 1) (by omega))
  exact fun i hi => key (n - i) i (by omega)
/-- the sum of the first n -/
def sm (g : Nat → Int64) : Nat → Int64
  | 0 => 0
  | n + 1 => sm g n + g n
/-- how many of the first n -/
def ct (c : Nat → Bool) : Nat → Nat
  | 0 => 0
  | n + 1 => ct c n + (if c n then 1 else 0)
/-- the first one below n -/
def fd (c : Nat → Bool) : Nat → Option Nat
  | 0 => none
  | n + 1 => match fd c n with
    | some j => some j
    | none => if c n then some n else none
theorem fd_some {c : Nat → Bool} : ∀ {n j : Nat}, fd c n = some j → j < n ∧ c j = true ∧ ∀ i, i < j → c i = false
  | 0, j, h => by cases h
  | n + 1, j, h => by
    unfold fd at h
    cases hq : fd c n with
    | some k =>
      rw [hq] at h
      have e : k = j := Option.some.inj h
      subst e
      obtain ⟨h1, h2, h3⟩ := fd_some hq
      exact ⟨by omega, h2, h3⟩
    | none =>
      rw [hq] at h
      by_cases hc : c n = true
      · rw [if_pos hc] at h
        have e : n = j := Option.some.inj h
        subst e
        exact ⟨by omega, hc, fun i hi => fd_none hq i hi⟩
      · rw [if_neg hc] at h
        cases h
where fd_none {c : Nat → Bool} : ∀ {n : Nat}, fd c n = none → ∀ i, i < n → c i = false
  | 0, _, i, hi => by omega
  | n + 1, h, i, hi => by
    unfold fd at h
    cases hq : fd c n with
    | some k => rw [hq] at h; cases h
    | none =>
      rw [hq] at h
      by_cases hc : c n = true
      · rw [if_pos hc] at h; cases h
      · by_cases e : i = n
        · subst e; simpa using hc
        · exact fd_none hq i (by omega)
theorem fd_none {c : Nat → Bool} {n : Nat} (h : fd c n = none) : ∀ i, i < n → c i = false := fd_some.fd_none h
theorem sm_congr {g g' : Nat → Int64} : ∀ {n : Nat}, (∀ i, i < n → g i = g' i) → sm g n = sm g' n
  | 0, _ => rfl
  | n + 1, h => by rw [sm, sm, sm_congr (fun i hi => h i (by omega)), h n (by omega)]
theorem ct_congr {g g' : Nat → Bool} : ∀ {n : Nat}, (∀ i, i < n → g i = g' i) → ct g n = ct g' n
  | 0, _ => rfl
  | n + 1, h => by rw [ct, ct, ct_congr (fun i hi => h i (by omega)), h n (by omega)]
theorem fd_congr {g g' : Nat → Bool} : ∀ {n : Nat}, (∀ i, i < n → g i = g' i) → fd g n = fd g' n
  | 0, _ => rfl
  | n + 1, h => by rw [fd, fd, fd_congr (fun i hi => h i (by omega)), h n (by omega)]
theorem ct_le {c : Nat → Bool} : ∀ n, ct c n ≤ n
  | 0 => Nat.le_refl 0
  | n + 1 => by
    have := ct_le (c := c) n
    unfold ct
    split <;> omega
theorem ix_in {d : Int32} {D : Nat} (hD : D < 2 ^ 31) (h1 : ¬ d < 0) (h2 : ¬ nI D ≤ d) : ∃ k, k < D ∧ d = nI k := by
  rcases pk_ix d hD with h | h | h
  · exact absurd h h1
  · exact absurd h h2
  · exact h
theorem ix_no1 {d : Int32} {D : Nat} (hD : D < 2 ^ 31) (h : d < 0) : ∀ k, k < D → d ≠ nI k := fun k hk e => by
  rw [e] at h
  exact nI_pos (by omega) h
theorem ix_no2 {d : Int32} {D : Nat} (hD : D < 2 ^ 31) (h : nI D ≤ d) : ∀ k, k < D → d ≠ nI k := fun k hk e => by
  rw [e] at h
  exact nI_ge hk hD h
theorem cl {n : Nat} (h : n < 2 ^ 31) : (nI n).toNatClampNeg = n := nI_clamp h
theorem i64lt {x z : Int32} : x.toInt64 < z.toInt64 ↔ x < z := by
  rw [Int64.lt_iff_toInt_lt, Int32.lt_iff_toInt_lt, Int32.toInt_toInt64, Int32.toInt_toInt64]
theorem i64le {x z : Int32} : x.toInt64 ≤ z.toInt64 ↔ x ≤ z := by
  rw [Int64.le_iff_toInt_le, Int32.le_iff_toInt_le, Int32.toInt_toInt64, Int32.toInt_toInt64]
theorem lpz (G : Nat → Prop) {n : Nat} (h : ∀ i, i ≤ n → (i < n → G (i + 1)) → G i) : ∀ i, i ≤ n → G i := by
  have key : ∀ k i, i + k = n → G i := by
    intro k
    induction k with
    | zero => intro i e; exact h i (by omega) (fun q => by omega)
    | succ k ih => intro i e; exact h i (by omega) (fun _ => ih (i + 1) (by omega))
  exact fun i hi => key (n - i) i (by omega)
theorem lpx {i n : Nat} (hi : i ≤ n) (hn : n < 2 ^ 31) (q : nI n ≤ nI i) : i = n := by
  have := (nI_leI hn (by omega)).mp q
  omega
theorem lpc {i n : Nat} (hi : i ≤ n) (hn : n < 2 ^ 31) (q : ¬ nI n ≤ nI i) : i < n := by
  rcases Nat.lt_or_ge i n with h | h
  · exact h
  · exact absurd (nI_le h (by omega)) q
theorem vin {i N : Nat} (h : i < N) (hN : N < 2 ^ 31) : vp_in (nI i) N := vp_in_nI h hN
theorem fd_at {c : Nat → Bool} : ∀ {n i : Nat}, i < n → c i = true → (∀ j, j < i → c j = false) → fd c n = some i
  | 0, i, h, _, _ => by omega
  | n + 1, i, h, h1, h2 => by
    unfold fd
    by_cases e : i = n
    · subst e
      have h0 : fd c i = none := by
        cases hq : fd c i with
        | none => rfl
        | some j =>
          obtain ⟨g1, g2, -⟩ := fd_some hq
          rw [h2 j g1] at g2
          cases g2
      rw [h0, h1]
      rfl
    · rw [fd_at (show i < n by omega) h1 h2]
theorem fd_no {c : Nat → Bool} {n : Nat} (h : ∀ j, j < n → c j = false) : fd c n = none := by
  cases hq : fd c n with
  | none => rfl
  | some j =>
    obtain ⟨g1, g2, -⟩ := fd_some hq
    rw [h j g1] at g2
    cases g2
/-- a place as an answer: -1 for none -/
def fI : Option Nat → Int32
  | some j => nI j
  | none => -1
theorem all_lt {c : Nat → Bool} {i : Nat} (h : ∀ j, j < i → c j = false) (hi : c i = false) : ∀ j, j < i + 1 → c j = false := fun j hj => by
  by_cases e : j = i
  · rw [e]; exact hi
  · exact h j (by omega)
theorem vlit {i : Int32} {n : Nat} (h : decide (i < 0 ∨ n ≤ i.toNatClampNeg) = false) : vp_in i n := of_decide_eq_false h
theorem lpk (G : Nat → Nat → Prop) {n : Nat} (h : ∀ i k, i + k = n → (∀ k', k = k' + 1 → G (i + 1) k') → G i k) : ∀ k i, i + k = n → G i k := by
  intro k
  induction k with
  | zero => exact fun i e => h i 0 e (fun k' q => by omega)
  | succ k ih => exact fun i e => h i (k + 1) e (fun k' q => by
      have e2 : k = k' := by omega
      subst e2
      exact ih (i + 1) (by omega))
theorem lpxo {a i n : Nat} (hi : i ≤ n) (hn : a + n < 2 ^ 31) (q : nI (a + n) ≤ nI (a + i)) : i = n := by
  have := (nI_leI hn (by omega)).mp q
  omega
theorem lpco {a i n : Nat} (hi : i ≤ n) (hn : a + n < 2 ^ 31) (q : ¬ nI (a + n) ≤ nI (a + i)) : i < n := by
  rcases Nat.lt_or_ge i n with h | h
  · exact h
  · exact absurd (nI_le (by omega) (by omega)) q
theorem nmin {n : Nat} (h : n ≤ 320) : (if nI n < Int32.ofNat 320 then nI n else Int32.ofNat 320) = nI n := by
  by_cases e : n = 320
  · subst e
    split <;> rfl
  · have q : nI n < Int32.ofNat 320 := nI_lt (a := n) (b := 320) (by omega) (by omega)
    rw [if_pos q]
theorem nmax {n : Nat} (h : n < 2 ^ 31) : (if 0 < nI n then nI n else 0) = nI n := by
  by_cases e : n = 0
  · subst e
    split <;> rfl
  · rw [if_pos]
    exact nI_0 ▸ nI_lt (show 0 < n by omega) h
