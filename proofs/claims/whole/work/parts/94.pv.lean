/-! what is read is valid -/
def RV (s : St) (r : Rw) : Prop :=
  (r.1 ≤ 5) ∧
  (r.1 = 0 → ctk s.rw 0 s.m < 4 ∧ (0 < ctk s.rw 0 s.m → ltp s.rw s.m ≠ 0) ∧ r.2.1 ≤ 5000 ∧ 0 ≤ r.2.2.1 ∧ r.2.2.1 ≤ 99999 ∧ (r.2.2.1 = 0 ∨ (ltp s.rw s.m : Int) < r.2.2.1)) ∧
  (r.1 = 1 → ctk s.rw 1 s.m = 0 ∧ r.2.1 ≤ 5000 ∧ 0 ≤ r.2.2.1 ∧ r.2.2.1 ≤ 5000 ∧ r.2.2.2 ≤ 99999) ∧
  (r.1 = 2 → ctk s.rw 2 s.m < 12 ∧ r.2.1 < s.P * s.N ∧ 0 ≤ r.2.2.1 ∧ (r.2.2.1 < ctk s.rw 0 s.m ∨ 4 ≤ r.2.2.1 ∧ r.2.2.1 ≤ 6) ∧ r.2.2.2 ≤ 99999 ∧ (r.2.2.1 ≠ 6 → r.2.2.2 ≤ 5000)) ∧
  (r.1 = 3 → ctk s.rw 3 s.m < 30 ∧ r.2.1 < s.P * s.N ∧ -99999 ≤ r.2.2.1 ∧ r.2.2.1 ≤ 99999) ∧
  (3 ≤ r.1 → ctk s.rw 4 s.m < s.N) ∧
  (r.1 = 5 → ctk s.rw 5 s.m < 6)
theorem RV.k5 {s : St} {r : Rw} (self : RV s r) : r.1 ≤ 5 := self.1
theorem RV.t {s : St} {r : Rw} (self : RV s r) : r.1 = 0 → ctk s.rw 0 s.m < 4 ∧ (0 < ctk s.rw 0 s.m → ltp s.rw s.m ≠ 0) ∧ r.2.1 ≤ 5000 ∧ 0 ≤ r.2.2.1 ∧ r.2.2.1 ≤ 99999 ∧ (r.2.2.1 = 0 ∨ (ltp s.rw s.m : Int) < r.2.2.1) := self.2.1
theorem RV.d {s : St} {r : Rw} (self : RV s r) : r.1 = 1 → ctk s.rw 1 s.m = 0 ∧ r.2.1 ≤ 5000 ∧ 0 ≤ r.2.2.1 ∧ r.2.2.1 ≤ 5000 ∧ r.2.2.2 ≤ 99999 := self.2.2.1
theorem RV.c {s : St} {r : Rw} (self : RV s r) : r.1 = 2 → ctk s.rw 2 s.m < 12 ∧ r.2.1 < s.P * s.N ∧ 0 ≤ r.2.2.1 ∧ (r.2.2.1 < ctk s.rw 0 s.m ∨ 4 ≤ r.2.2.1 ∧ r.2.2.1 ≤ 6) ∧ r.2.2.2 ≤ 99999 ∧ (r.2.2.1 ≠ 6 → r.2.2.2 ≤ 5000) := self.2.2.2.1
theorem RV.e {s : St} {r : Rw} (self : RV s r) : r.1 = 3 → ctk s.rw 3 s.m < 30 ∧ r.2.1 < s.P * s.N ∧ -99999 ≤ r.2.2.1 ∧ r.2.2.1 ≤ 99999 := self.2.2.2.2.1
theorem RV.o {s : St} {r : Rw} (self : RV s r) : 3 ≤ r.1 → ctk s.rw 4 s.m < s.N := self.2.2.2.2.2.1
theorem RV.y {s : St} {r : Rw} (self : RV s r) : r.1 = 5 → ctk s.rw 5 s.m < 6 := self.2.2.2.2.2.2
theorem RV.mk {s : St} {r : Rw} (h_k5 : r.1 ≤ 5) (h_t : r.1 = 0 → ctk s.rw 0 s.m < 4 ∧ (0 < ctk s.rw 0 s.m → ltp s.rw s.m ≠ 0) ∧ r.2.1 ≤ 5000 ∧ 0 ≤ r.2.2.1 ∧ r.2.2.1 ≤ 99999 ∧ (r.2.2.1 = 0 ∨ (ltp s.rw s.m : Int) < r.2.2.1)) (h_d : r.1 = 1 → ctk s.rw 1 s.m = 0 ∧ r.2.1 ≤ 5000 ∧ 0 ≤ r.2.2.1 ∧ r.2.2.1 ≤ 5000 ∧ r.2.2.2 ≤ 99999) (h_c : r.1 = 2 → ctk s.rw 2 s.m < 12 ∧ r.2.1 < s.P * s.N ∧ 0 ≤ r.2.2.1 ∧ (r.2.2.1 < ctk s.rw 0 s.m ∨ 4 ≤ r.2.2.1 ∧ r.2.2.1 ≤ 6) ∧ r.2.2.2 ≤ 99999 ∧ (r.2.2.1 ≠ 6 → r.2.2.2 ≤ 5000)) (h_e : r.1 = 3 → ctk s.rw 3 s.m < 30 ∧ r.2.1 < s.P * s.N ∧ -99999 ≤ r.2.2.1 ∧ r.2.2.1 ≤ 99999) (h_o : 3 ≤ r.1 → ctk s.rw 4 s.m < s.N) (h_y : r.1 = 5 → ctk s.rw 5 s.m < 6) : RV s r := ⟨h_k5, h_t, h_d, h_c, h_e, h_o, h_y⟩
theorem ctk_p {rw : Nat → Rw} {q m j : Nat} (hj : j < m) (h : (rw j).1 = q) : 0 < ctk rw q m := by
  have h1 : ctk rw q (j + 1) = ctk rw q j + 1 := by rw [ctk_s, if_pos h]
  have h2 : ctk rw q (j + 1) ≤ ctk rw q m := ct_mono m (by omega)
  omega
theorem pv_add {n : Nat} {s : St} (V : PV n s) (hL : 0 < s.L) {r : Rw} (H : RV s r) {q : Nat} (hq : q ≤ n) : PV n (adr s r q) := by
  have hl := V.l hL
  have k5 := H.k5
  have c4 := V.c4
  have c := fun z => ctk_us (rw := s.rw) (m := s.m) (q := z) (r := r)
  have c0 := c 0
  have c1 := c 1
  have c2 := c 2
  have c3 := c 3
  have c4' := c 4
  have c5 := c 5
  have c6 := c 6
  have v0 := V.c0
  have v1 := V.c1
  have v2 := V.c2
  have v3 := V.c3
  have v5 := V.c5
  have v6 := V.c6
  have vs := V.su
  have hu := ltp_us (rw := s.rw) (m := s.m) (r := r)
  have z4 : ctk s.rw 4 s.m ≤ s.N := by
    rcases c4 with z | z
    · exact z
    · rw [z]; exact Nat.zero_le _
  have hr0 := H.t
  have hr1 := H.d
  have hr2 := H.c
  have hr3 := H.e
  have hro := H.o
  have hr5 := H.y
  refine ⟨hq, fun z => ?_, fun _ => ⟨?_, hl.2⟩, ?_, ?_, ?_, ?_, Or.inl ?_, ?_, ?_, ?_, ?_, ?_, ?_, ?_, ?_⟩
  · have z' : s.L + 1 = 0 := z
    omega
  · show s.L + 1 = s.m + 1 + 1
    omega
  · show ctk (zup s.rw s.m r) 0 (s.m + 1) ≤ 4
    rw [c0]
    by_cases z : r.1 = 0
    · rw [if_pos z]; have := hr0 z; omega
    · rw [if_neg z]; omega
  · show ctk (zup s.rw s.m r) 1 (s.m + 1) ≤ 1
    rw [c1]
    by_cases z : r.1 = 1
    · rw [if_pos z]; have := hr1 z; omega
    · rw [if_neg z]; omega
  · show ctk (zup s.rw s.m r) 2 (s.m + 1) ≤ 12
    rw [c2]
    by_cases z : r.1 = 2
    · rw [if_pos z]; have := hr2 z; omega
    · rw [if_neg z]; omega
  · show ctk (zup s.rw s.m r) 3 (s.m + 1) ≤ 30
    rw [c3]
    by_cases z : r.1 = 3
    · rw [if_pos z]; have := hr3 z; omega
    · rw [if_neg z]; omega
  · show ctk (zup s.rw s.m r) 4 (s.m + 1) ≤ s.N
    rw [c4']
    by_cases z : r.1 = 4
    · rw [if_pos z]; have := hro (by omega); omega
    · rw [if_neg z]; omega
  · show ctk (zup s.rw s.m r) 5 (s.m + 1) ≤ 6
    rw [c5]
    by_cases z : r.1 = 5
    · rw [if_pos z]; have := hr5 z; omega
    · rw [if_neg z]; omega
  · show ctk (zup s.rw s.m r) 6 (s.m + 1) = 0
    rw [c6, if_neg (by omega)]; omega
  · show ctk (zup s.rw s.m r) 0 (s.m + 1) + ctk (zup s.rw s.m r) 1 (s.m + 1) + ctk (zup s.rw s.m r) 2 (s.m + 1) + ctk (zup s.rw s.m r) 3 (s.m + 1) + ctk (zup s.rw s.m r) 4 (s.m + 1) + ctk (zup s.rw s.m r) 5 (s.m + 1) = s.m + 1
    have hk : r.1 = 0 ∨ r.1 = 1 ∨ r.1 = 2 ∨ r.1 = 3 ∨ r.1 = 4 ∨ r.1 = 5 := by omega
    rw [c0, c1, c2, c3, c4', c5]
    rcases hk with e | e | e | e | e | e <;> rw [e] <;> simp only [reduceIte, Nat.reduceEqDiff] <;> omega
  · show ltp (zup s.rw s.m r) (s.m + 1) ≤ 99999
    rw [hu]
    by_cases z : r.1 = 0
    · rw [if_pos z]; have := hr0 z; omega
    · rw [if_neg z]; exact V.lt
  · show ctk (zup s.rw s.m r) 0 (s.m + 1) = 0 → ltp (zup s.rw s.m r) (s.m + 1) = 0
    rw [hu, c0]
    by_cases z : r.1 = 0
    · rw [if_pos z, if_pos z]; omega
    · rw [if_neg z, if_neg z]; exact V.l0
  · show ∀ j, j < s.m + 1 → (zup s.rw s.m r j).1 = 0 → (zup s.rw s.m r j).2.2.1.toNat ≤ ltp (zup s.rw s.m r) (s.m + 1) ∨ ltp (zup s.rw s.m r) (s.m + 1) = 0
    intro j hj
    rw [hu]
    by_cases e : j = s.m
    · rw [e, zup_s]
      intro z
      rw [if_pos z]
      exact Or.inl (Nat.le_refl _)
    · rw [zup_n e]
      intro z
      have h1 := V.ls j (by omega) z
      by_cases y : r.1 = 0
      · rw [if_pos y]
        have h2 := hr0 y
        have h3 := h2.2.1 (ctk_p (by omega) z)
        omega
      · rw [if_neg y]; exact h1
  · show ∀ j, j < s.m + 1 → (zup s.rw s.m r j).1 = 0 → ltp (zup s.rw s.m r) (s.m + 1) ≠ 0 → 0 < (zup s.rw s.m r j).2.2.1
    intro j hj
    rw [hu]
    by_cases e : j = s.m
    · rw [e, zup_s]
      intro z
      rw [if_pos z]
      omega
    · rw [zup_n e]
      intro z
      by_cases y : r.1 = 0
      · rw [if_pos y]
        have h3 := (hr0 y).2.1 (ctk_p (by omega) z)
        exact fun _ => V.lz j (by omega) z h3
      · rw [if_neg y]; exact V.lz j (by omega) z
  · show ∀ i, i < s.m + 1 → Vr s.P s.N (zup s.rw s.m r) i
    intro i hi
    by_cases e : i = s.m
    · rw [e]
      have d := fun z => ctk_up (rw := s.rw) (m := s.m) (q := z) (r := r) s.m (Nat.le_refl _)
      refine ⟨?_, ?_, ?_, ?_, ?_, ?_, ?_, ?_, ?_, ?_⟩
      · rw [zup_s]; omega
      · rw [zup_s, d]; intro z; have := hr0 z; omega
      · rw [zup_s]
        intro z j hj y
        rw [zup_n (show j ≠ s.m by omega)] at y ⊢
        have h2 := hr0 z
        have h3 := h2.2.1 (ctk_p hj y)
        have h4 := V.ls j hj y
        have h5 := V.lz j hj y h3
        omega
      · rw [zup_s]; intro z; exact (hr1 z).2
      · rw [zup_s, d, d]; intro z; have := hr2 z; omega
      · rw [zup_s]; intro z; exact (hr3 z).2
      · rw [zup_s, d]; exact hro
      · rw [zup_s, d]; intro z; omega
      · rw [c3, c6, c5]
        have a3 : ctk s.rw 3 s.m + (if r.1 = 3 then 1 else 0) ≤ 30 := by
          by_cases z : r.1 = 3
          · rw [if_pos z]; have := hr3 z; omega
          · rw [if_neg z]; omega
        have a5 : ctk s.rw 5 s.m + (if r.1 = 5 then 1 else 0) ≤ 6 := by
          by_cases z : r.1 = 5
          · rw [if_pos z]; have := hr5 z; omega
          · rw [if_neg z]; omega
        rw [if_neg (show ¬ r.1 = 6 by omega)]
        omega
      · rw [c3, c6, if_neg (show ¬ r.1 = 6 by omega)]
        by_cases z : r.1 = 3
        · rw [if_pos z]; have := hr3 z; omega
        · rw [if_neg z]; omega
    · exact vr_up (by omega) (V.v i (by omega))
theorem bnd_i {α β : Type} {x : Except Fl α} {k : α → Except Fl β} {b : β} (h : bnd x k = .ok b) : ∃ a, x = .ok a ∧ k a = .ok b := by
  cases x with
  | error e => cases h
  | ok a => exact ⟨a, rfl, h⟩
theorem tkW_i {t : Nat → Nat} {n k p q : Nat} (h : tkW t n k p = .ok q) : q = tE t n p := by
  unfold tkW at h
  by_cases z : tW t n p k = true
  · rw [if_pos z] at h; exact (Except.ok.inj h).symm
  · rw [if_neg z] at h; cases h
theorem tkN_i {t : Nat → Nat} {n lo hi p : Nat} {x : Nat × Nat} (h : tkN t n lo hi p = .ok x) : lo ≤ x.1 ∧ x.1 < hi ∧ x.2 = tE t n p := by
  unfold tkN at h
  by_cases z : tK t n p = 2
  · rw [if_pos z] at h
    by_cases y : lo ≤ tN t n p ∧ tN t n p < hi
    · rw [if_pos y] at h
      have e := Except.ok.inj h
      subst e
      exact ⟨y.1, y.2, rfl⟩
    · rw [if_neg y] at h; cases h
  · rw [if_neg z] at h; cases h
theorem tkS_i {t : Nat → Nat} {n p q : Nat} (h : tkS t n p = .ok q) : tK t n p = 3 ∧ q = tE t n p := by
  unfold tkS at h
  by_cases z : tK t n p = 3
  · rw [if_pos z] at h; exact ⟨z, (Except.ok.inj h).symm⟩
  · rw [if_neg z] at h; cases h
theorem tkS_p {t : Nat → Nat} {n p q : Nat} (hp : p ≤ n) (h : tkS t n p = .ok q) : p < q ∧ q ≤ n := by
  have g := tkS_i h
  have b := tE_b (t := t) hp
  rw [g.2]
  exact ⟨b.2.2.2 (by omega), b.2.1⟩
/-- a line read: a further state -/
def Nx (n : Nat) (s s' : St) : Prop := PV n s' ∧ s.p < s'.p ∧ 0 < s'.L
theorem pv_fin {t : Nat → Nat} {n : Nat} {s s' : St} (V : PV n s) (hL : 0 < s.L) {r : Rw} (H : RV s r) {q : Nat} (hq : s.p ≤ q) (hq2 : q ≤ n) (h : fin t n s r q = .ok s') : Nx n s s' := by
  obtain ⟨a, h1, h2⟩ := bnd_i h
  have e := Except.ok.inj h2
  subst e
  have g := tkS_p hq2 h1
  exact ⟨pv_add V hL H g.2, by show s.p < a; omega, by show 0 < s.L + 1; omega⟩
theorem pv_T {t : Nat → Nat} {n : Nat} {s s' : St} (V : PV n s) (hL : 0 < s.L) (h : lnT t n s = .ok s') : Nx n s s' := by
  have hp := V.p
  have b1 := tE_b (t := t) hp
  have l9 := V.lt
  have v0 := V.c0
  unfold lnT at h
  by_cases z : ctk s.rw 0 s.m = 4 ∨ (0 < ctk s.rw 0 s.m ∧ ltp s.rw s.m = 0)
  · rw [if_pos z] at h; cases h
  · rw [if_neg z] at h
    obtain ⟨x, h1, h2⟩ := bnd_i h
    have g1 := tkN_i h1
    have b2 := tE_b (t := t) b1.2.1
    have b3 := tE_b (t := t) b2.2.1
    have b4 := tE_b (t := t) b3.2.1
    by_cases y : tW t n x.2 5 = true
    · rw [if_pos y] at h2
      obtain ⟨u, h3, h4⟩ := bnd_i h2
      have g2 := tkN_i h3
      rw [g1.2.2] at g2
      exact pv_fin V hL ⟨by show 0 ≤ 5; omega, fun _ => ⟨by omega, by omega, by show x.1 ≤ 5000; omega, by show (0 : Int) ≤ (u.1 : Nat); omega, by show ((u.1 : Nat) : Int) ≤ 99999; omega, Or.inr (by show (ltp s.rw s.m : Int) < (u.1 : Nat); omega)⟩, fun e => (by cases e), fun e => (by cases e), fun e => (by cases e), fun e => absurd e (by show ¬ 3 ≤ 0; omega), fun e => (by cases e)⟩ (by omega) (by omega) h4
    · rw [if_neg y] at h2
      exact pv_fin V hL ⟨by show 0 ≤ 5; omega, fun _ => ⟨by omega, by omega, by show x.1 ≤ 5000; omega, by show (0 : Int) ≤ 0; omega, by show (0 : Int) ≤ 99999; omega, Or.inl rfl⟩, fun e => (by cases e), fun e => (by cases e), fun e => (by cases e), fun e => absurd e (by show ¬ 3 ≤ 0; omega), fun e => (by cases e)⟩ (by omega) (by omega) h2
theorem pv_D {t : Nat → Nat} {n : Nat} {s s' : St} (V : PV n s) (hL : 0 < s.L) (h : lnD t n s = .ok s') : Nx n s s' := by
  have b1 := tE_b (t := t) V.p
  unfold lnD at h
  by_cases z : 0 < ctk s.rw 1 s.m
  · rw [if_pos z] at h; cases h
  · rw [if_neg z] at h
    obtain ⟨x, h1, h⟩ := bnd_i h
    have g1 := tkN_i h1
    have b2 := tE_b (t := t) b1.2.1
    rw [← g1.2.2] at b2
    obtain ⟨q1, h2, h⟩ := bnd_i h
    have g2 := tkW_i h2
    have b3 := tE_b (t := t) b2.2.1
    rw [← g2] at b3
    obtain ⟨y, h3, h⟩ := bnd_i h
    have g3 := tkN_i h3
    have b4 := tE_b (t := t) b3.2.1
    rw [← g3.2.2] at b4
    obtain ⟨q2, h4, h⟩ := bnd_i h
    have g4 := tkW_i h4
    have b5 := tE_b (t := t) b4.2.1
    rw [← g4] at b5
    obtain ⟨u, h5, h⟩ := bnd_i h
    have g5 := tkN_i h5
    have b6 := tE_b (t := t) b5.2.1
    rw [← g5.2.2] at b6
    exact pv_fin V hL ⟨by show 1 ≤ 5; omega, fun e => (by cases e), fun _ => ⟨by omega, by show x.1 ≤ 5000; omega, by show (0 : Int) ≤ (y.1 : Nat); omega, by show ((y.1 : Nat) : Int) ≤ 5000; omega, by show u.1 ≤ 99999; omega⟩, fun e => (by cases e), fun e => (by cases e), fun e => absurd e (by show ¬ 3 ≤ 1; omega), fun e => (by cases e)⟩ (by omega) (by omega) h
theorem pv_C {t : Nat → Nat} {n : Nat} {s s' : St} (V : PV n s) (hL : 0 < s.L) (h : lnC t n s = .ok s') : Nx n s s' := by
  have b1 := tE_b (t := t) V.p
  have v2 := V.c2
  have v0 := V.c0
  unfold lnC at h
  by_cases z : ctk s.rw 2 s.m = 12
  · rw [if_pos z] at h; cases h
  · rw [if_neg z] at h
    obtain ⟨d, h1, h⟩ := bnd_i h
    have g1 := tkN_i h1
    have b2 := tE_b (t := t) b1.2.1
    rw [← g1.2.2] at b2
    obtain ⟨q, h2, h⟩ := bnd_i h
    have b3 := tE_b (t := t) b2.2.1
    have g2 : (q.1 < ctk s.rw 0 s.m ∨ 4 ≤ q.1 ∧ q.1 ≤ 6) ∧ d.2 ≤ q.2 ∧ q.2 ≤ n := by
      unfold whc at h2
      by_cases y : tW t n d.2 4 = true
      · rw [if_pos y] at h2
        have g := tkN_i h2
        have b4 := tE_b (t := t) b3.2.1
        rw [g.2.2]
        omega
      · rw [if_neg y] at h2
        by_cases y : tW t n d.2 6 = true
        · rw [if_pos y] at h2
          have e := Except.ok.inj h2
          subst e
          omega
        · rw [if_neg y] at h2
          by_cases y : tW t n d.2 7 = true
          · rw [if_pos y] at h2
            have e := Except.ok.inj h2
            subst e
            omega
          · rw [if_neg y] at h2
            obtain ⟨u, h3, h4⟩ := bnd_i h2
            have e := Except.ok.inj h4
            subst e
            have g := tkW_i h3
            omega
    obtain ⟨v, h3, h⟩ := bnd_i h
    have g3 := tkN_i h3
    have b4 := tE_b (t := t) g2.2.2
    rw [← g3.2.2] at b4
    have hv : v.1 < 100000 ∧ (q.1 ≠ 6 → v.1 < 5001) := by
      have := g3.2.1
      by_cases y : q.1 = 6
      · rw [if_pos y] at this; exact ⟨this, fun e => absurd y e⟩
      · rw [if_neg y] at this; exact ⟨by omega, fun _ => this⟩
    exact pv_fin V hL ⟨by show 2 ≤ 5; omega, fun e => (by cases e), fun e => (by cases e), fun _ => ⟨by omega, g1.2.1, by show (0 : Int) ≤ (q.1 : Nat); omega, by show ((q.1 : Nat) : Int) < ctk s.rw 0 s.m ∨ (4 : Int) ≤ (q.1 : Nat) ∧ ((q.1 : Nat) : Int) ≤ 6; omega, by show v.1 ≤ 99999; omega, fun e => by
      have e' : ((q.1 : Nat) : Int) ≠ 6 := e
      have := hv.2 (by omega)
      show v.1 ≤ 5000
      omega⟩, fun e => (by cases e), fun e => absurd e (by show ¬ 3 ≤ 2; omega), fun e => (by cases e)⟩ (by omega) (by omega) h
theorem pv_E {t : Nat → Nat} {n : Nat} {s s' : St} {sg : Int} (hsg : sg = 1 ∨ sg = -1) (V : PV n s) (hL : 0 < s.L) (h : lnE t n s sg = .ok s') : Nx n s s' := by
  have b1 := tE_b (t := t) V.p
  have v3 := V.c3
  unfold lnE at h
  by_cases z : ctk s.rw 3 s.m = 30 ∨ ¬ ctk s.rw 4 s.m < s.N
  · rw [if_pos z] at h; cases h
  · rw [if_neg z] at h
    obtain ⟨d, h1, h⟩ := bnd_i h
    have g1 := tkN_i h1
    have b2 := tE_b (t := t) b1.2.1
    rw [← g1.2.2] at b2
    obtain ⟨x, h2, h⟩ := bnd_i h
    have g2 := tkN_i h2
    have b3 := tE_b (t := t) b2.2.1
    rw [← g2.2.2] at b3
    have hx : -99999 ≤ sg * (x.1 : Nat) ∧ sg * (x.1 : Nat) ≤ 99999 := by
      rcases hsg with e | e <;> subst e <;> omega
    exact pv_fin V hL ⟨by show 3 ≤ 5; omega, fun e => (by cases e), fun e => (by cases e), fun e => (by cases e), fun _ => ⟨by omega, g1.2.1, hx⟩, fun _ => by omega, fun e => (by cases e)⟩ (by omega) (by omega) h
theorem pv_X {t : Nat → Nat} {n : Nat} {s s' : St} (V : PV n s) (hL : 0 < s.L) (h : lnX t n s = .ok s') : Nx n s s' := by
  have b1 := tE_b (t := t) V.p
  unfold lnX at h
  by_cases z : ¬ ctk s.rw 4 s.m < s.N
  · rw [if_pos z] at h; cases h
  · rw [if_neg z] at h
    exact pv_fin V hL ⟨by show 4 ≤ 5; omega, fun e => (by cases e), fun e => (by cases e), fun e => (by cases e), fun e => (by cases e), fun _ => by omega, fun e => (by cases e)⟩ (by omega) (by omega) h
theorem pv_Y {t : Nat → Nat} {n : Nat} {s s' : St} (V : PV n s) (hL : 0 < s.L) (h : lnY t n s = .ok s') : Nx n s s' := by
  have b1 := tE_b (t := t) V.p
  have v5 := V.c5
  unfold lnY at h
  by_cases z : ctk s.rw 5 s.m = 6 ∨ ¬ ctk s.rw 4 s.m < s.N
  · rw [if_pos z] at h; cases h
  · rw [if_neg z] at h
    exact pv_fin V hL ⟨by show 5 ≤ 5; omega, fun e => (by cases e), fun e => (by cases e), fun e => (by cases e), fun e => (by cases e), fun _ => by omega, fun _ => by omega⟩ (by omega) (by omega) h
theorem pv_R {t : Nat → Nat} {n : Nat} {s s' : St} (V : PV n s) (hL : 0 < s.L) (h : lnR t n s = .ok s') : Nx n s s' := by
  unfold lnR at h
  by_cases z : tW t n s.p 4 = true
  · rw [if_pos z] at h; exact pv_T V hL h
  rw [if_neg z] at h
  by_cases z : tW t n s.p 6 = true
  · rw [if_pos z] at h; exact pv_D V hL h
  rw [if_neg z] at h
  by_cases z : tW t n s.p 9 = true
  · rw [if_pos z] at h; exact pv_C V hL h
  rw [if_neg z] at h
  by_cases z : tW t n s.p 10 = true
  · rw [if_pos z] at h; exact pv_E (Or.inl rfl) V hL h
  rw [if_neg z] at h
  by_cases z : tW t n s.p 11 = true
  · rw [if_pos z] at h; exact pv_E (Or.inr rfl) V hL h
  rw [if_neg z] at h
  by_cases z : tW t n s.p 12 = true
  · rw [if_pos z] at h; exact pv_X V hL h
  rw [if_neg z] at h
  by_cases z : tW t n s.p 13 = true
  · rw [if_pos z] at h; exact pv_Y V hL h
  rw [if_neg z] at h
  cases h
theorem pv_F {t : Nat → Nat} {n : Nat} {s s' : St} (V : PV n s) (hL : s.L = 0) (h : lnF t n s = .ok s') : Nx n s s' := by
  have hm := V.z hL
  have b0 := V.p
  unfold lnF at h
  obtain ⟨p1, h1, h⟩ := bnd_i h
  have b1 := tE_b (t := t) b0
  rw [← tkW_i h1] at b1
  obtain ⟨p2, h2, h⟩ := bnd_i h
  have b2 := tE_b (t := t) b1.2.1
  rw [← tkW_i h2] at b2
  obtain ⟨P, h3, h⟩ := bnd_i h
  have g3 := tkN_i h3
  have b3 := tE_b (t := t) b2.2.1
  rw [← g3.2.2] at b3
  obtain ⟨p4, h4, h⟩ := bnd_i h
  have b4 := tE_b (t := t) b3.2.1
  rw [← tkW_i h4] at b4
  obtain ⟨N, h5, h⟩ := bnd_i h
  have g5 := tkN_i h5
  have b5 := tE_b (t := t) b4.2.1
  rw [← g5.2.2] at b5
  obtain ⟨p6, h6, h⟩ := bnd_i h
  have b6 := tE_b (t := t) b5.2.1
  rw [← tkW_i h6] at b6
  obtain ⟨K, h7, h⟩ := bnd_i h
  have g7 := tkN_i h7
  have b7 := tE_b (t := t) b6.2.1
  rw [← g7.2.2] at b7
  obtain ⟨p8, h8, h⟩ := bnd_i h
  have g8 := tkS_p b7.2.1 h8
  have e := Except.ok.inj h
  subst e
  refine ⟨⟨g8.2, fun z => (by cases z), fun _ => ⟨rfl, g3.1, (by show P.1 ≤ 40; omega), g5.1, (by show N.1 ≤ 8; omega), g7.1, (by show K.1 ≤ 4; omega)⟩, Nat.zero_le _, Nat.zero_le _, Nat.zero_le _, Nat.zero_le _, Or.inr rfl, Nat.zero_le _, rfl, rfl, Nat.zero_le _, fun _ => rfl, fun j hj => absurd hj (Nat.not_lt_zero j), fun j hj => absurd hj (Nat.not_lt_zero j), fun j hj => absurd hj (Nat.not_lt_zero j)⟩, ?_, Nat.one_pos⟩
  show s.p < p8
  omega
theorem pv_A {t : Nat → Nat} {n : Nat} {s s' : St} (V : PV n s) (h : lnA t n s = .ok s') : Nx n s s' := by
  unfold lnA at h
  by_cases z : s.L = 0
  · rw [if_pos z] at h; exact pv_F V z h
  · rw [if_neg z] at h; exact pv_R V (by omega) h
