/-! the machine's own judgement obeys the small machine -/
theorem fetL_inv {pc : Nat} {k : mMI → Prop} : ∀ {l : List (Nat × mMI)}, fetL pc k l → ∃ e, (pc, e) ∈ l ∧ k e
  | [], h => h.elim
  | (q, e) :: l, h => by
    have h : bif Nat.beq q pc then k e else fetL pc k l := h
    cases hb : Nat.beq q pc with
    | true =>
      rw [hb] at h
      have e1 := Nat.eq_of_beq_eq_true hb
      subst e1
      exact ⟨e, List.mem_cons_self, h⟩
    | false =>
      rw [hb] at h
      obtain ⟨e2, h1, h2⟩ := fetL_inv h
      exact ⟨e2, List.mem_cons_of_mem _ h1, h2⟩
theorem nth_mem {α : Type} {d : α} : ∀ {l : List α} {n : Nat}, nth d l n = d ∨ nth d l n ∈ l
  | [], _ => Or.inl rfl
  | a :: _, 0 => Or.inr List.mem_cons_self
  | _ :: l, n + 1 => (nth_mem (d := d) (l := l) (n := n)).elim Or.inl (fun h => Or.inr (List.mem_cons_of_mem _ h))
theorem fet_inv {ch : List (List (Nat × mMI))} {pc : Nat} {k : mMI → Prop} (h : fet ch pc k) : ∃ e, (∃ l ∈ ch, (pc, e) ∈ l) ∧ k e := by
  obtain ⟨e, h1, h2⟩ := fetL_inv h
  rcases nth_mem (d := []) (l := ch) (n := pc / 16) with q | q
  · rw [q] at h1
    cases h1
  · exact ⟨e, ⟨_, q, h1⟩, h2⟩
theorem okE_of {y pc : Nat} {e : mMI} (hlaw : okM 378 = true) (hy : y < 379) (h : ∃ l ∈ (mr y).2.2.2.2.2.2, (pc, e) ∈ l) : okE y pc e = true := by
  obtain ⟨l, h1, h2⟩ := h
  have hok : okM y = true := by
    by_cases q : y < 378
    · exact okM_all q
    · rw [show y = 378 by omega]
      exact hlaw
  exact List.all_eq_true.mp (List.all_eq_true.mp hok l h1) (pc, e) h2
theorem mj_rules (hlaw : okM 378 = true) (l : Launch) (b : Nat) (tS : Nat → Value) (D : va_G) (dA : Nat → ClassId) (i9 : Int32) (a9 : Nat → Int32) : mRules (mj l b tS D dA i9 a9) := by
  intro n
  induction n with
  | zero => exact fun y pc L S I A B P R h => h
  | succ n ih =>
    intro y pc L S I A B P R h
    by_cases hy : y < 379
    · have h : fet (mr y).2.2.2.2.2.2 pc (fun e => st1
        (fun y' args I A B P R' => mkK (mMl y') args (fun L' => bif inl y' then runP (mj l b tS D dA i9 a9) n y' (mr y') 0 L' [] I A B P R' else mj l b tS D dA i9 a9 y' 0 L' [] I A B P R'))
        (mr y).2.1 e L S I A B P
        (fun pc' L' S' I A B P => bif hasN pc' (mr y).2.2.2.2.2.1 then mj l b tS D dA i9 a9 y pc' L' S' I A B P R else runP (mj l b tS D dA i9 a9) n y (mr y) pc' L' S' I A B P R) R) := h
      obtain ⟨e, he, hst⟩ := fet_inv h
      refine ms_step hy e (okE_of hlaw hy he) hst (fun pc' L' S' I' A' B' P' hk => ?_) (fun y' args I A B P R' hc => ?_)
      · cases hb : hasN pc' (mr y).2.2.2.2.2.1 with
        | true =>
          rw [hb] at hk
          exact hk
        | false =>
          rw [hb] at hk
          exact ih _ _ _ _ _ _ _ _ _ hk
      · obtain ⟨L0, h1, h2, h3⟩ := mkK_inv _ hc
        refine ⟨L0, ⟨h2, h3⟩, ?_⟩
        cases hb : inl y' with
        | true =>
          rw [hb] at h1
          exact ih _ _ _ _ _ _ _ _ _ h1
        | false =>
          rw [hb] at h1
          exact h1
    · intro p e RM s m ar below meth c H locs cells slots Q ls hy2
      exact absurd hy2 hy
