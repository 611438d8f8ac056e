/-! tokens of a tape: t: its bytes, n: how many -/
def isB (c : Nat) : Bool := decide (c = 32 ∨ c = 10)
def isLt (c : Nat) : Bool := decide (97 ≤ c ∧ c ≤ 122)
def isDg (c : Nat) : Bool := decide (48 ≤ c ∧ c ≤ 57)
/-- the first place from p on that is not so -/
def rnn (c : Nat → Bool) (n p : Nat) : Nat := (fd (fun k => decide (p ≤ k) && !(c k)) n).getD n
theorem rnn_at {c : Nat → Bool} {n p q : Nat} (h1 : p ≤ q) (h2 : q ≤ n) (h3 : ∀ k, p ≤ k → k < q → c k = true) (h4 : q = n ∨ c q = false) : rnn c n p = q := by
  unfold rnn
  by_cases e : q = n
  · rw [fd_no (fun j hj => by
      by_cases z : p ≤ j
      · rw [h3 j z (by omega)]; simp
      · simp [z])]
    exact e.symm
  · have h5 : c q = false := h4.resolve_left e
    rw [fd_at (i := q) (by omega) (by rw [h5]; simp [h1]) (fun j hj => by
      by_cases z : p ≤ j
      · rw [h3 j z hj]; simp
      · simp [z])]
    rfl
theorem rnn_b {c : Nat → Bool} {n p : Nat} (h : p ≤ n) : p ≤ rnn c n p ∧ rnn c n p ≤ n ∧ (∀ k, p ≤ k → k < rnn c n p → c k = true) ∧ (rnn c n p < n → c (rnn c n p) = false) := by
  unfold rnn
  cases q : fd (fun k => decide (p ≤ k) && !(c k)) n with
  | none =>
    refine ⟨h, Nat.le_refl _, fun k h1 h2 => ?_, fun z => absurd z (Nat.lt_irrefl _)⟩
    have g := fd_none q k h2
    rw [decide_eq_true h1, Bool.true_and] at g
    cases z : c k with
    | true => rfl
    | false => rw [z] at g; cases g
  | some j =>
    obtain ⟨g1, g2, g3⟩ := fd_some q
    have g2' : (decide (p ≤ j) && !(c j)) = true := g2
    rw [Bool.and_eq_true] at g2'
    have hp := of_decide_eq_true g2'.1
    refine ⟨hp, Nat.le_of_lt g1, fun k h1 h2 => ?_, fun _ => by
      have g4 := g2'.2
      show c j = false
      cases z : c j with
      | false => rfl
      | true => rw [z] at g4; cases g4⟩
    have g := g3 k h2
    rw [decide_eq_true h1, Bool.true_and] at g
    cases z : c k with
    | true => rfl
    | false => rw [z] at g; cases g
def tS (t : Nat → Nat) (n p : Nat) : Nat := rnn (fun k => isB (t k)) n p
def tKs (t : Nat → Nat) (n s : Nat) : Nat := if n ≤ s then 0 else if isLt (t s) = true then 1 else if isDg (t s) = true then 2 else if t s = 59 then 3 else 4
def tEs (t : Nat → Nat) (n s : Nat) : Nat := if n ≤ s then s else if isLt (t s) = true then rnn (fun k => isLt (t k)) n s else if isDg (t s) = true then rnn (fun k => isDg (t k)) n s else s + 1
def tK (t : Nat → Nat) (n p : Nat) : Nat := tKs t n (tS t n p)
def tE (t : Nat → Nat) (n p : Nat) : Nat := tEs t n (tS t n p)
/-- the value of k digits, 100000 for all that is more -/
def nvl (t : Nat → Nat) (s : Nat) : Nat → Nat
  | 0 => 0
  | k + 1 => if 10 * nvl t s k + (t (s + k) - 48) < 100000 then 10 * nvl t s k + (t (s + k) - 48) else 100000
def tN (t : Nat → Nat) (n p : Nat) : Nat := nvl t (tS t n p) (tE t n p - tS t n p)
theorem nvl_b {t : Nat → Nat} {s : Nat} : ∀ k, nvl t s k ≤ 100000
  | 0 => Nat.zero_le _
  | k + 1 => by
    unfold nvl
    split <;> omega
/-- a number as a program has it: the value, or both are too large -/
def nrl (M : Nat) (x : Int32) (v : Nat) : Prop := ∃ y : Nat, x = nI y ∧ y ≤ M ∧ (y = v ∧ v < 100000 ∨ 100000 ≤ y ∧ v = 100000)
def tW (t : Nat → Nat) (n p k : Nat) : Bool := decide (tK t n p = 1 ∧ tE t n p - tS t n p = (tx k).length) && (fd (fun i => !decide (nI (t (tS t n p + i)) = (tx k).getD i 0)) (tx k).length).isNone
theorem tS_b {t : Nat → Nat} {n p : Nat} (h : p ≤ n) : p ≤ tS t n p ∧ tS t n p ≤ n := ⟨(rnn_b h).1, (rnn_b h).2.1⟩
theorem isLD {c : Nat} (h : isLt c = true) : isDg c = false := by
  have := of_decide_eq_true h
  exact decide_eq_false (by omega)
theorem rnn_s {c : Nat → Bool} {n s : Nat} (h : s < n) (h2 : c s = true) : s < rnn c n s := by
  have g := rnn_b (c := c) (n := n) (p := s) (by omega)
  rcases Nat.lt_or_ge s (rnn c n s) with z | z
  · exact z
  · have e : rnn c n s = s := by omega
    have := g.2.2.2 (by omega)
    rw [e, h2] at this
    cases this
theorem tEs_b {t : Nat → Nat} {n s : Nat} (h : s ≤ n) : s ≤ tEs t n s ∧ tEs t n s ≤ n ∧ (tKs t n s ≠ 0 → s < tEs t n s) := by
  unfold tEs tKs
  by_cases z : n ≤ s
  · rw [if_pos z, if_pos z]
    exact ⟨Nat.le_refl _, h, fun q => absurd rfl q⟩
  · rw [if_neg z, if_neg z]
    by_cases y : isLt (t s) = true
    · rw [if_pos y]
      have g := rnn_b (c := fun k => isLt (t k)) (n := n) (p := s) h
      have g2 := rnn_s (c := fun k => isLt (t k)) (n := n) (s := s) (by omega) y
      exact ⟨g.1, g.2.1, fun _ => g2⟩
    · rw [if_neg y]
      by_cases x : isDg (t s) = true
      · rw [if_pos x]
        have g := rnn_b (c := fun k => isDg (t k)) (n := n) (p := s) h
        have g2 := rnn_s (c := fun k => isDg (t k)) (n := n) (s := s) (by omega) x
        exact ⟨g.1, g.2.1, fun _ => g2⟩
      · rw [if_neg x]
        exact ⟨by omega, by omega, fun _ => by omega⟩
theorem tE_b {t : Nat → Nat} {n p : Nat} (h : p ≤ n) : p ≤ tE t n p ∧ tE t n p ≤ n ∧ tS t n p ≤ tE t n p ∧ (tK t n p ≠ 0 → p < tE t n p) := by
  have h1 := tS_b (t := t) h
  have h2 := tEs_b (t := t) h1.2
  have h3 : tE t n p = tEs t n (tS t n p) := rfl
  have h4 : tK t n p = tKs t n (tS t n p) := rfl
  refine ⟨by omega, by omega, by omega, fun z => ?_⟩
  have := h2.2.2 (h4 ▸ z)
  omega
/-- the tape as both have it -/
def TpR (c : Nat) (A : mI) (t : Nat → Nat) (n : Nat) : Prop :=
  (n ≤ 900) ∧
  (∀ k, k < n → A c k &&& 255 = nI (t k) ∧ t k < 256 ∧ (A c k).toInt8.toInt32 = A c k)
theorem TpR.n9 {c : Nat} {A : mI} {t : Nat → Nat} {n : Nat} (self : TpR c A t n) : n ≤ 900 := self.1
theorem TpR.b {c : Nat} {A : mI} {t : Nat → Nat} {n : Nat} (self : TpR c A t n) : ∀ k, k < n → A c k &&& 255 = nI (t k) ∧ t k < 256 ∧ (A c k).toInt8.toInt32 = A c k := self.2
theorem TpR.mk {c : Nat} {A : mI} {t : Nat → Nat} {n : Nat} (h_n9 : n ≤ 900) (h_b : ∀ k, k < n → A c k &&& 255 = nI (t k) ∧ t k < 256 ∧ (A c k).toInt8.toInt32 = A c k) : TpR c A t n := ⟨h_n9, h_b⟩
theorem b128 : ∀ v, v < 128 → (nI v).toInt8.toInt32 = nI v := by decide +kernel
theorem byt_eq {x : Int32} {v : Nat} (hb : x.toInt8.toInt32 = x) (h : x &&& 255 = nI v) (hv : v < 128) : x = nI v := by
  have := (sc_eq hb (by omega)).mpr h
  rw [b128 v hv] at this
  exact this
/-- what a program sees at a place: -1 behind the end -/
def tsv (t : Nat → Nat) (n k : Nat) : Int32 := if k < n then nI (t k) else -1
theorem tsv_i {t : Nat → Nat} {n k : Nat} (h : k < n) : tsv t n k = nI (t k) := if_pos h
theorem tsv_o {t : Nat → Nat} {n k : Nat} (h : ¬ k < n) : tsv t n k = -1 := if_neg h
/-- the token at a place, as the class has it -/
def KT (I : mI) (t : Nat → Nat) (n p : Nat) : Prop :=
  (I 6 1 = nI (tK t n p)) ∧
  (I 6 2 = nI (tS t n p)) ∧
  (I 6 3 = nI (tE t n p)) ∧
  (tK t n p = 2 → nrl 999999999 (I 6 4) (tN t n p))
theorem KT.k {I : mI} {t : Nat → Nat} {n p : Nat} (self : KT I t n p) : I 6 1 = nI (tK t n p) := self.1
theorem KT.s {I : mI} {t : Nat → Nat} {n p : Nat} (self : KT I t n p) : I 6 2 = nI (tS t n p) := self.2.1
theorem KT.e {I : mI} {t : Nat → Nat} {n p : Nat} (self : KT I t n p) : I 6 3 = nI (tE t n p) := self.2.2.1
theorem KT.v {I : mI} {t : Nat → Nat} {n p : Nat} (self : KT I t n p) : tK t n p = 2 → nrl 999999999 (I 6 4) (tN t n p) := self.2.2.2
theorem KT.mk {I : mI} {t : Nat → Nat} {n p : Nat} (h_k : I 6 1 = nI (tK t n p)) (h_s : I 6 2 = nI (tS t n p)) (h_e : I 6 3 = nI (tE t n p)) (h_v : tK t n p = 2 → nrl 999999999 (I 6 4) (tN t n p)) : KT I t n p := ⟨h_k, h_s, h_e, h_v⟩
/-- as the reference has it -/
def MT (I : mI) (t : Nat → Nat) (n p : Nat) : Prop :=
  (I 43 31 = nI (tK t n p)) ∧
  (I 43 30 = nI (tS t n p)) ∧
  (I 43 29 = nI (tE t n p)) ∧
  (tK t n p = 2 → nrl 9999999 (I 43 32) (tN t n p))
theorem MT.k {I : mI} {t : Nat → Nat} {n p : Nat} (self : MT I t n p) : I 43 31 = nI (tK t n p) := self.1
theorem MT.s {I : mI} {t : Nat → Nat} {n p : Nat} (self : MT I t n p) : I 43 30 = nI (tS t n p) := self.2.1
theorem MT.e {I : mI} {t : Nat → Nat} {n p : Nat} (self : MT I t n p) : I 43 29 = nI (tE t n p) := self.2.2.1
theorem MT.v {I : mI} {t : Nat → Nat} {n p : Nat} (self : MT I t n p) : tK t n p = 2 → nrl 9999999 (I 43 32) (tN t n p) := self.2.2.2
theorem MT.mk {I : mI} {t : Nat → Nat} {n p : Nat} (h_k : I 43 31 = nI (tK t n p)) (h_s : I 43 30 = nI (tS t n p)) (h_e : I 43 29 = nI (tE t n p)) (h_v : tK t n p = 2 → nrl 9999999 (I 43 32) (tN t n p)) : MT I t n p := ⟨h_k, h_s, h_e, h_v⟩
theorem nrl_1 {M : Nat} {x z : Int32} {v d : Nat} (hM : 999999 ≤ M) (h : nrl M x v) (hd : d < 10) (e : ∀ y, x = nI y → y ≤ M → ∃ y', z = nI y' ∧ y' ≤ M ∧ (10 * y + d < 100000 → y' = 10 * y + d) ∧ (100000 ≤ 10 * y + d → 100000 ≤ y')) : nrl M z (if 10 * v + d < 100000 then 10 * v + d else 100000) := by
  obtain ⟨y, e1, e2, e3⟩ := h
  obtain ⟨y', g1, g2, g3, g4⟩ := e y e1 e2
  refine ⟨y', g1, g2, ?_⟩
  rcases e3 with ⟨a1, a2⟩ | ⟨a1, a2⟩
  · subst a1
    by_cases c : 10 * y + d < 100000
    · rw [if_pos c]
      exact Or.inl ⟨g3 c, c⟩
    · rw [if_neg c]
      exact Or.inr ⟨g4 (by omega), rfl⟩
  · rw [if_neg (by omega)]
    exact Or.inr ⟨g4 (by omega), rfl⟩
