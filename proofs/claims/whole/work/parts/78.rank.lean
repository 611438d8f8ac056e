/-! an entry's rank is its place in the class's order -/
theorem ct_one {c c' : Nat → Bool} {e : Nat} (h : ∀ j, j ≠ e → c' j = c j) (h0 : c e = false) (h1 : c' e = true) : ∀ n, e < n → ct c' n = ct c n + 1
  | 0, he => absurd he (Nat.not_lt_zero e)
  | n + 1, he => by
    by_cases z : e = n
    · subst z
      rw [ct_t h1, ct_f h0, ct_congr (fun j hj => h j (by omega))]
    · have ih := ct_one h h0 h1 n (by omega)
      have e1 : c' n = c n := h n (by omega)
      cases q : c n with
      | true => rw [ct_t (e1.trans q), ct_t q, ih]
      | false => rw [ct_f (e1.trans q), ct_f q, ih]
def inn (od : Nat → Nat) (k j : Nat) : Bool := (fd (fun i => decide (od i = j)) k).isSome
theorem inn_t {od : Nat → Nat} {k j i : Nat} (hi : i < k) (e : od i = j) : inn od k j = true := by
  unfold inn
  cases q : fd (fun i => decide (od i = j)) k with
  | some x => rfl
  | none =>
    have := fd_none q i hi
    rw [decide_eq_true e] at this
    cases this
theorem inn_f {od : Nat → Nat} {k j : Nat} (h : ∀ i, i < k → od i ≠ j) : inn od k j = false := by
  unfold inn
  rw [fd_no (fun i hi => decide_eq_false (h i hi))]
  rfl
theorem inn_c {a : Ac} {A : mI} {od : Nat → Nat} (O : Od a A od) : ∀ k, k ≤ a.n → ct (inn od k) a.n = k
  | 0, _ => ct_z (fun j _ => inn_f (fun i hi => absurd hi (Nat.not_lt_zero i)))
  | k + 1, hk => by
    have ih := inn_c O k (by omega)
    have key := ct_one (c := inn od k) (c' := inn od (k + 1)) (e := od k) (fun j hj => by
      cases q : inn od k j with
      | true =>
        unfold inn at q
        cases r : fd (fun i => decide (od i = j)) k with
        | none => rw [r] at q; cases q
        | some x =>
          have g := fd_some r
          exact inn_t (i := x) (by omega) (of_decide_eq_true g.2.1)
      | false =>
        refine inn_f (fun i hi e => ?_)
        by_cases z : i = k
        · subst z; exact hj e.symm
        · rw [inn_t (od := od) (k := k) (i := i) (by omega) e] at q
          cases q) (inn_f (fun i hi e => by
        have := O.st i k hi (by omega)
        rw [e] at this
        omega)) (inn_t (i := k) (by omega) rfl) a.n (O.lt k (by omega))
    omega
theorem rnk_od {a : Ac} {A : mI} {od : Nat → Nat} (O : Od a A od) {k : Nat} (hk : k < a.n) : rnk a (od k) = k := by
  unfold rnk
  rw [ct_congr (g' := inn od k) (fun j hj => ?_)]
  · exact inn_c O k (by omega)
  · obtain ⟨i, hi, ei⟩ := O.on j hj
    subst ei
    by_cases z : i < k
    · rw [inn_t z rfl]
      have := O.st i k z hk
      exact decide_eq_true (by omega)
    · rw [inn_f (fun i' hi' e => by
        have := O.st i' i (by omega) hi
        rw [e] at this
        omega)]
      refine decide_eq_false (fun h => ?_)
      by_cases y : i = k
      · subst y; omega
      · have := O.st k i (by omega) hi
        omega
theorem z_sorted {a : Ac} {A : mI} {od : Nat → Nat} (O : Od a A od) {k : Nat} (hk : k < a.n) (hn : a.n ≤ 220) : fI (fd (fun e => decide (nI (rnk a e) = nI k)) a.n) = A 35 k := by
  have hu : ∀ e, e < a.n → nI (rnk a e) = nI k → e = od k := fun e he h => by
    obtain ⟨i, hi, ei⟩ := O.on e he
    subst ei
    rw [rnk_od O hi] at h
    have := (nI_eq (by omega) (by omega)).mp h
    rw [this]
  rw [fd_at (i := od k) (O.lt k hk) (decide_eq_true (by rw [rnk_od O hk])) (fun j hj => decide_eq_false (fun h => by
    have := hu j (by have := O.lt k hk; omega) h
    omega))]
  exact (O.at_ k hk).symm
theorem z_sortn {a : Ac} {A : mI} {od : Nat → Nat} (O : Od a A od) {k : Int32} (hk : ∀ j, j < a.n → k ≠ nI j) : fI (fd (fun e => decide (nI (rnk a e) = k)) a.n) = -1 := by
  rw [fd_no (fun j hj => decide_eq_false (fun h => by
    obtain ⟨i, hi, ei⟩ := O.on j hj
    subst ei
    rw [rnk_od O hi] at h
    exact hk i hi h.symm))]
  rfl
