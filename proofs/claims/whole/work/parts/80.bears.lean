/-! days that bear a value day before a day, counted along the class's order -/
theorem inn_s {g : Nat → Nat} {k j : Nat} (h : g k ≠ j) : inn g (k + 1) j = inn g k j := by
  cases q : inn g k j with
  | true =>
    unfold inn at q
    cases r : fd (fun i => decide (g i = j)) k with
    | none => rw [r] at q; cases q
    | some x =>
      have e := fd_some r
      exact inn_t (i := x) (by omega) (of_decide_eq_true e.2.1)
  | false =>
    refine inn_f (fun i hi e => ?_)
    by_cases z : i = k
    · subst z; exact h e
    · rw [inn_t (od := g) (k := k) (i := i) (by omega) e] at q
      cases q
/-- the last value day before D among the first i of the order, or -1 -/
def Lst (g : Nat → Nat) (D i : Nat) (l : Int) : Prop :=
  (l = -1 ∨ ∃ k, k < i ∧ (g k : Int) = l) ∧
  (l < D) ∧
  (-1 ≤ l) ∧
  (∀ k, k < i → g k < D → (g k : Int) ≤ l)
theorem Lst.lo {g : Nat → Nat} {D i : Nat} {l : Int} (self : Lst g D i l) : l = -1 ∨ ∃ k, k < i ∧ (g k : Int) = l := self.1
theorem Lst.hd {g : Nat → Nat} {D i : Nat} {l : Int} (self : Lst g D i l) : l < D := self.2.1
theorem Lst.l1 {g : Nat → Nat} {D i : Nat} {l : Int} (self : Lst g D i l) : -1 ≤ l := self.2.2.1
theorem Lst.mx {g : Nat → Nat} {D i : Nat} {l : Int} (self : Lst g D i l) : ∀ k, k < i → g k < D → (g k : Int) ≤ l := self.2.2.2
theorem Lst.mk {g : Nat → Nat} {D i : Nat} {l : Int} (h_lo : l = -1 ∨ ∃ k, k < i ∧ (g k : Int) = l) (h_hd : l < D) (h_l1 : -1 ≤ l) (h_mx : ∀ k, k < i → g k < D → (g k : Int) ≤ l) : Lst g D i l := ⟨h_lo, h_hd, h_l1, h_mx⟩
theorem lst_0 {g : Nat → Nat} {D : Nat} : Lst g D 0 (-1) := ⟨Or.inl rfl, by omega, by omega, fun k hk => absurd hk (Nat.not_lt_zero k)⟩
theorem lst_o {g : Nat → Nat} {D i : Nat} {l : Int} (H : Lst g D i l) (h : ¬ g i < D) : Lst g D (i + 1) l ∧ ct (inn g (i + 1)) D = ct (inn g i) D := by
  refine ⟨⟨?_, H.hd, H.l1, fun k hk hd => ?_⟩, ct_congr (fun x hx => inn_s (by omega))⟩
  · rcases H.lo with e | ⟨k, hk, e⟩
    · exact Or.inl e
    · exact Or.inr ⟨k, by omega, e⟩
  · by_cases z : k = i
    · subst z; exact absurd hd h
    · exact H.mx k (by omega) hd
theorem lst_e {g : Nat → Nat} {D i : Nat} {l : Int} (H : Lst g D i l) (hs : ∀ k, k < i → g k ≤ g i) (h : (g i : Int) ≤ l) : Lst g D (i + 1) l ∧ ct (inn g (i + 1)) D = ct (inn g i) D := by
  have hlo := H.lo
  have hk : ∃ k, k < i ∧ (g k : Int) = l := by
    rcases hlo with e | e
    · omega
    · exact e
  obtain ⟨k, hk, e⟩ := hk
  have hki := hs k hk
  refine ⟨⟨Or.inr ⟨k, by omega, e⟩, H.hd, H.l1, fun j hj hd => ?_⟩, ct_congr (fun x hx => ?_)⟩
  · by_cases z : j = i
    · subst z; exact h
    · exact H.mx j (by omega) hd
  · by_cases z : g i = x
    · rw [inn_t (od := g) (k := i + 1) (i := i) (by omega) z, inn_t (od := g) (k := i) (i := k) hk (by omega)]
    · exact inn_s z
theorem lst_n {g : Nat → Nat} {D i : Nat} {l : Int} (H : Lst g D i l) (h : l < g i) (hd : g i < D) : Lst g D (i + 1) (g i) ∧ ct (inn g (i + 1)) D = ct (inn g i) D + 1 := by
  have h1 := H.l1
  refine ⟨⟨Or.inr ⟨i, by omega, rfl⟩, by omega, by omega, fun j hj hd2 => ?_⟩, ct_one (e := g i) (fun x hx => inn_s (fun z => hx z.symm)) (inn_f (fun k hk e => ?_)) (inn_t (i := i) (by omega) rfl) D hd⟩
  · by_cases z : j = i
    · subst z; exact Int.le_refl _
    · have := H.mx j (by omega) hd2
      omega
  · have := H.mx k hk (by omega)
    omega
theorem z_bears {a : Ac} {A : mI} {od : Nat → Nat} (O : Od a A od) {D : Nat} : ct (inn (fun k => a.va (od k)) a.n) D = ct (zhv a) D := by
  refine ct_congr (fun x _ => ?_)
  unfold zhv
  cases q : fd (fun e => decide (a.va e = x)) a.n with
  | some e =>
    have g := fd_some q
    obtain ⟨i, hi, ei⟩ := O.on e g.1
    exact inn_t (i := i) hi (by show a.va (od i) = x; rw [ei]; exact of_decide_eq_true g.2.1)
  | none =>
    exact inn_f (fun i hi e => by
      have := fd_none q (od i) (O.lt i hi)
      rw [decide_eq_true e] at this
      cases this)
theorem od_le {a : Ac} {A : mI} {od : Nat → Nat} (O : Od a A od) {i : Nat} (hi : i < a.n) : ∀ k, k < i → a.va (od k) ≤ a.va (od i) := fun k hk => by
  have := O.st k i hk hi
  omega
