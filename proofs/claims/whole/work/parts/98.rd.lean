/-! a whole text -/
def st0 : St := St.mk 0 0 0 0 0 0 (fun _ => (0, 0, 0, 0))
theorem pv_0 {n : Nat} : PV n st0 := ⟨Nat.zero_le _, fun _ => rfl, fun h => absurd h (Nat.lt_irrefl _), Nat.zero_le _, Nat.zero_le _, Nat.zero_le _, Nat.zero_le _, Or.inr rfl, Nat.zero_le _, rfl, rfl, Nat.zero_le _, fun _ => rfl, fun j hj => absurd hj (Nat.not_lt_zero j), fun j hj => absurd hj (Nat.not_lt_zero j), fun j hj => absurd hj (Nat.not_lt_zero j)⟩
theorem rdn_0 {t : Nat → Nat} {n : Nat} {s : St} (h : tK t n s.p = 0) : ∀ k, rdn t n k s = .ok s
  | 0 => rfl
  | _ + 1 => if_pos h
theorem rdn_s {t : Nat → Nat} {n k : Nat} {s s' : St} (h : ¬ tK t n s.p = 0) (h2 : lnA t n s = .ok s') : rdn t n (k + 1) s = rdn t n k s' := by
  rw [rdn, if_neg h, bnd_ok h2]
theorem rdn_e {t : Nat → Nat} {n k : Nat} {s : St} {e : Fl} (h : ¬ tK t n s.p = 0) (h2 : lnA t n s = .error e) : rdn t n (k + 1) s = .error e := by
  rw [rdn, if_neg h, bnd_er h2]
theorem rdn_pv {t : Nat → Nat} {n : Nat} : ∀ k {s s' : St}, PV n s → rdn t n k s = .ok s' → PV n s' ∧ (s' = s ∨ 0 < s'.L)
  | 0, s, s', V, h => by
    have e := Except.ok.inj h
    subst e
    exact ⟨V, Or.inl rfl⟩
  | k + 1, s, s', V, h => by
    by_cases z : tK t n s.p = 0
    · rw [rdn_0 z] at h
      have e := Except.ok.inj h
      subst e
      exact ⟨V, Or.inl rfl⟩
    · cases hq : lnA t n s with
      | error e => rw [rdn_e z hq] at h; cases h
      | ok s1 =>
        rw [rdn_s z hq] at h
        have g := pv_A V hq
        have r := rdn_pv k g.1 h
        refine ⟨r.1, Or.inr ?_⟩
        rcases r.2 with e | e
        · rw [e]; exact g.2.2
        · exact e
theorem rdn_c {t : Nat → Nat} {n : Nat} : (∃ e, rdn t n n st0 = .error e) ∨ rdn t n n st0 = .ok st0 ∨ (∃ s, rdn t n n st0 = .ok s ∧ 0 < s.L ∧ PV n s) := by
  cases hq : rdn t n n st0 with
  | error e => exact Or.inl ⟨e, rfl⟩
  | ok s =>
    have g := rdn_pv n pv_0 hq
    rcases g.2 with e | e
    · rw [e]; exact Or.inr (Or.inl rfl)
    · exact Or.inr (Or.inr ⟨s, rfl, e, g.1⟩)
theorem pv_q {n : Nat} {s : St} (V : PV n s) (hL : 0 < s.L) {K : Nat} (h1 : 1 ≤ K) (h4 : K ≤ 4) : Rp s.P s.N K s.rw s.m := by
  have l := V.l hL
  exact Rp.of l.2.2.1 l.2.2.2.2.1 h1 h4 V.v
theorem pv_61 {n : Nat} {s : St} (V : PV n s) : s.m ≤ 61 := by
  have h0 := V.c0
  have h1 := V.c1
  have h2 := V.c2
  have h3 := V.c3
  have h5 := V.c5
  have hs := V.su
  have h4 : ctk s.rw 4 s.m ≤ 8 := by
    by_cases z : 0 < s.L
    · have l := V.l z
      rcases V.c4 with y | y
      · omega
      · rw [y]; exact Nat.zero_le _
    · rw [V.z (by omega)]; exact Nat.zero_le _
  omega
theorem ks_0 {I A : mI} {t : Nat → Nat} {n : Nat} (fl : I 3 3 = 0) (pl : I 3 4 = -1) (tk : KT I t n 0) (h1 : I 4 1 = 0) (h2 : I 4 2 = 0) (h7 : I 3 7 = 0) (h8 : I 3 8 = 0) (h9 : I 3 9 = 0) (h10 : I 3 10 = 0) (h11 : I 3 11 = 0) (h12 : I 3 12 = 0) (h13 : I 3 13 = 0) (h14 : I 3 14 = 0) : KS I A t n st0 :=
  ⟨fl, pl, tk, ⟨h1, h2, Nat.le_refl _, fun h => absurd h (Nat.lt_irrefl _), fun _ => ⟨rfl, rfl⟩, fun k hk => absurd hk (Nat.not_lt_zero k)⟩, fun h => absurd h (Nat.lt_irrefl _), h7, fun _ => h8, h9, h10, h11, h12, h13, h14⟩
/-- what a text leaves of the class -/
def fT (I A : mI) (B : mB) (I' A' : mI) (B' : mB) : Prop :=
  (∀ k, k ≠ 1 → k ≠ 3 → k ≠ 4 → k ≠ 6 → k ≠ 7 → k ≠ 16 → k ≠ 17 → k ≠ 29 → I' k = I k) ∧
  (∀ k, k ≠ 5 → k ≠ 8 → k < 19 ∨ 36 < k → A' k = A k) ∧
  (∀ k, k ≠ 31 → k ≠ 36 → B' k = B k)
theorem fT.ir {I A : mI} {B : mB} {I' A' : mI} {B' : mB} (self : fT I A B I' A' B') : ∀ k, k ≠ 1 → k ≠ 3 → k ≠ 4 → k ≠ 6 → k ≠ 7 → k ≠ 16 → k ≠ 17 → k ≠ 29 → I' k = I k := self.1
theorem fT.ar {I A : mI} {B : mB} {I' A' : mI} {B' : mB} (self : fT I A B I' A' B') : ∀ k, k ≠ 5 → k ≠ 8 → k < 19 ∨ 36 < k → A' k = A k := self.2.1
theorem fT.br {I A : mI} {B : mB} {I' A' : mI} {B' : mB} (self : fT I A B I' A' B') : ∀ k, k ≠ 31 → k ≠ 36 → B' k = B k := self.2.2
theorem fT.mk {I A : mI} {B : mB} {I' A' : mI} {B' : mB} (h_ir : ∀ k, k ≠ 1 → k ≠ 3 → k ≠ 4 → k ≠ 6 → k ≠ 7 → k ≠ 16 → k ≠ 17 → k ≠ 29 → I' k = I k) (h_ar : ∀ k, k ≠ 5 → k ≠ 8 → k < 19 ∨ 36 < k → A' k = A k) (h_br : ∀ k, k ≠ 31 → k ≠ 36 → B' k = B k) : fT I A B I' A' B' := ⟨h_ir, h_ar, h_br⟩
