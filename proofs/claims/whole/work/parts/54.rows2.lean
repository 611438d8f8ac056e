/-! rows as the reference has them -/
def WRow (w : Nat) (A : mI) (k : Nat) (r : Rw) : Prop := A w (6 + 5 * k) = nI r.1 ∧ A w (6 + 5 * k + 1) = nI r.2.1 ∧ A w (6 + 5 * k + 2) = zN r.2.2.1 ∧ A w (6 + 5 * k + 3) = nI r.2.2.2
def WdR (w : Nat) (A : mI) (L T m : Nat) (rw : Nat → Rw) : Prop :=
  (A w 3 = nI L) ∧
  (A w 4 = nI T) ∧
  (A w 5 = nI m) ∧
  (∀ k, k < m → WRow w A k (rw k))
theorem WdR.h3 {w : Nat} {A : mI} {L T m : Nat} {rw : Nat → Rw} (self : WdR w A L T m rw) : A w 3 = nI L := self.1
theorem WdR.h4 {w : Nat} {A : mI} {L T m : Nat} {rw : Nat → Rw} (self : WdR w A L T m rw) : A w 4 = nI T := self.2.1
theorem WdR.h5 {w : Nat} {A : mI} {L T m : Nat} {rw : Nat → Rw} (self : WdR w A L T m rw) : A w 5 = nI m := self.2.2.1
theorem WdR.hr {w : Nat} {A : mI} {L T m : Nat} {rw : Nat → Rw} (self : WdR w A L T m rw) : ∀ k, k < m → WRow w A k (rw k) := self.2.2.2
theorem WdR.mk {w : Nat} {A : mI} {L T m : Nat} {rw : Nat → Rw} (h_h3 : A w 3 = nI L) (h_h4 : A w 4 = nI T) (h_h5 : A w 5 = nI m) (h_hr : ∀ k, k < m → WRow w A k (rw k)) : WdR w A L T m rw := ⟨h_h3, h_h4, h_h5, h_hr⟩
theorem WdR.fr {w : Nat} {A A' : mI} {L T m : Nat} {rw : Nat → Rw} (W : WdR w A L T m rw) (h : A' w = A w) : WdR w A' L T m rw := by
  refine ⟨?_, ?_, ?_, fun k hk => ?_⟩
  · rw [h]; exact W.h3
  · rw [h]; exact W.h4
  · rw [h]; exact W.h5
  · unfold WRow
    rw [h]
    exact W.hr k hk
/-- an account at its beginning -/
def zbg (P N K : Nat) : Ac := Ac.mk P N K 0 0 0 0 (fun _ => 0) (fun _ => 0) (fun _ => 0) (fun _ => 0) (fun _ => 0) (fun _ => 0) (fun _ => 0) (fun _ => 0) (fun _ => 0) (fun _ => 0) (fun _ => 0) none 0 none
def zrn (P N K : Nat) (rw : Nat → Rw) : Nat → Ac
  | 0 => zbg P N K
  | k + 1 => zdo (zrn P N K rw k) (rw k)
theorem MR.bg {a : Ac} {w : Nat} {I A : mI} {B : mB} (M : MR a w I A B) (n1 : a.ti = none) (n2 : a.fo = none) {I' A' : mI} {B' : mB} (hA : A' w = A w) (h50 : ∀ k, k < 3 → A' 50 k = 0) (h7 : I' 43 7 = 0) (h13 : I' 43 13 = 0) (h19 : I' 43 19 = 0) (h20 : I' 43 20 = 0) (h21 : I' 43 21 = I 43 21) (h23 : I' 43 23 = I 43 23) : MR (zbg a.P a.N a.K) w I' A' B' := by
  refine MR.mk M.hw M.w5 ?_ ?_ ?_ h7 (fun t ht => absurd ht (Nat.not_lt_zero t)) (fun t ht => absurd ht (Nat.not_lt_zero t)) h50 h13 (fun t ht => absurd ht (Nat.not_lt_zero t)) (fun t ht => absurd ht (Nat.not_lt_zero t)) (fun t ht => absurd ht (Nat.not_lt_zero t)) h19 (fun t ht => absurd ht (Nat.not_lt_zero t)) (fun t ht => absurd ht (Nat.not_lt_zero t)) (fun t ht => absurd ht (Nat.not_lt_zero t)) (fun t ht => absurd ht (Nat.not_lt_zero t)) (fun t ht => absurd ht (Nat.not_lt_zero t)) h20 ?_ (fun z => absurd rfl z) ?_
  · rw [hA]; exact M.hP
  · rw [hA]; exact M.hN
  · rw [hA]; exact M.hK
  · rw [h21, M.hti, n1]; rfl
  · rw [h23, M.hfo, n2]; rfl
theorem rn_PNK {P N K : Nat} {rw : Nat → Rw} : ∀ k, (zrn P N K rw k).P = P ∧ (zrn P N K rw k).N = N ∧ (zrn P N K rw k).K = K ∧ (zrn P N K rw k).ti = none ∧ (zrn P N K rw k).fo = none
  | 0 => ⟨rfl, rfl, rfl, rfl, rfl⟩
  | k + 1 => by
    have ih := rn_PNK (P := P) (N := N) (K := K) (rw := rw) k
    show (zdo (zrn P N K rw k) (rw k)).P = P ∧ (zdo (zrn P N K rw k) (rw k)).N = N ∧ (zdo (zrn P N K rw k) (rw k)).K = K ∧ (zdo (zrn P N K rw k) (rw k)).ti = none ∧ (zdo (zrn P N K rw k) (rw k)).fo = none
    generalize zrn P N K rw k = a at ih
    generalize rw k = r
    obtain ⟨q, x, y, z⟩ := r
    match q with
    | 0 => exact ih
    | 1 => exact ih
    | 2 => exact ih
    | 3 => exact ih
    | 4 => exact ih
    | 5 =>
      have S := sr_rr (a := a) a.c
      show (zrr a a.c).P = P ∧ _
      exact ⟨S.P.trans ih.1, S.N.trans ih.2.1, S.K.trans ih.2.2.1, S.ti.trans ih.2.2.2.1, S.fo.trans ih.2.2.2.2⟩
    | _ + 6 => exact ih
