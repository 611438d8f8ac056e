/-! contracts: entries read, added (written by wip/whole/gc5.py) -/
set_option maxRecDepth 20000 in
theorem c_sortOf {J : mJ} (X : mRules J) {I A : mI} {B : mB} {w f : Nat} {R : mR} {n : Nat} (hn : n ≤ 220) (hz : I 29 6 = nI n) {x : Int32} {i : Nat} (ex : x = nI i) (hl : i < n) (h : R (some (.int (A 30 i))) I A B (pk w f)) : J n_Entries_sortOf 0 [.ref 29, .int x] [] I A B (pk w f) R := by
  subst ex
  refine X 200 _ _ _ _ _ _ _ _ _ ?_
  refine c_has X (by omega) hz (fun k hk e => ?_) (fun z => absurd rfl (z i hl))
  refine And.intro (fun q => absurd q (by decide)) (fun _ => ?_)
  refine Exists.intro _ (And.intro rfl (And.intro (vin (show i < 220 by omega) (by omega)) ?_))
  rw [cl (show i < 2 ^ 31 by omega)]
  exact h
set_option maxRecDepth 20000 in
theorem c_amountOf {J : mJ} (X : mRules J) {I A : mI} {B : mB} {w f : Nat} {R : mR} {n : Nat} (hn : n ≤ 220) (hz : I 29 6 = nI n) {x : Int32} {i : Nat} (ex : x = nI i) (hl : i < n) (h : R (some (.long (B 31 i))) I A B (pk w f)) : J n_Entries_amountOf 0 [.ref 29, .int x] [] I A B (pk w f) R := by
  subst ex
  refine X 200 _ _ _ _ _ _ _ _ _ ?_
  refine c_has X (by omega) hz (fun k hk e => ?_) (fun z => absurd rfl (z i hl))
  refine And.intro (fun q => absurd q (by decide)) (fun _ => ?_)
  refine Exists.intro _ (And.intro rfl (And.intro (vin (show i < 220 by omega) (by omega)) ?_))
  rw [cl (show i < 2 ^ 31 by omega)]
  exact h
set_option maxRecDepth 20000 in
theorem c_valueOf {J : mJ} (X : mRules J) {I A : mI} {B : mB} {w f : Nat} {R : mR} {n : Nat} (hn : n ≤ 220) (hz : I 29 6 = nI n) {x : Int32} {i : Nat} (ex : x = nI i) (hl : i < n) (h : R (some (.int (A 32 i))) I A B (pk w f)) : J n_Entries_valueOf 0 [.ref 29, .int x] [] I A B (pk w f) R := by
  subst ex
  refine X 200 _ _ _ _ _ _ _ _ _ ?_
  refine c_has X (by omega) hz (fun k hk e => ?_) (fun z => absurd rfl (z i hl))
  refine And.intro (fun q => absurd q (by decide)) (fun _ => ?_)
  refine Exists.intro _ (And.intro rfl (And.intro (vin (show i < 220 by omega) (by omega)) ?_))
  rw [cl (show i < 2 ^ 31 by omega)]
  exact h
set_option maxRecDepth 20000 in
theorem c_inOrder {J : mJ} (X : mRules J) {I A : mI} {B : mB} {w f : Nat} {R : mR} {n : Nat} (hn : n ≤ 220) (hz : I 29 6 = nI n) {x : Int32} {i : Nat} (ex : x = nI i) (hl : i < n) (h : R (some (.int (A 35 i))) I A B (pk w f)) : J n_Entries_inOrder 0 [.ref 29, .int x] [] I A B (pk w f) R := by
  subst ex
  refine X 200 _ _ _ _ _ _ _ _ _ ?_
  refine c_has X (by omega) hz (fun k hk e => ?_) (fun z => absurd rfl (z i hl))
  refine And.intro (fun q => absurd q (by decide)) (fun _ => ?_)
  refine Exists.intro _ (And.intro rfl (And.intro (vin (show i < 220 by omega) (by omega)) ?_))
  rw [cl (show i < 2 ^ 31 by omega)]
  exact h
theorem lpd (G : Nat → Prop) (h : ∀ a, (∀ a', a = a' + 1 → G a') → G a) : ∀ a, G a := by
  intro a
  induction a with
  | zero => exact h 0 (fun a' q => by omega)
  | succ a ih => exact h (a + 1) (fun a' q => by
      have e : a = a' := by omega
      subst e
      exact ih)
/-- a row opened between a and n -/
def opn (O : Nat → Int32) (a n : Nat) : Nat → Int32 := fun j => if a < j ∧ j ≤ n then O (j - 1) else O j
/-- n put in at p -/
def insr (O : Nat → Int32) (p n : Nat) : Nat → Int32 := fun j => if j = p then nI n else if p < j ∧ j ≤ n then O (j - 1) else O j
/-- the arrays with an entry more -/
def adA (A : mI) (n : Nat) (s v pg og : Int32) : mI := up2 (up2 (up2 (up2 A 30 n s) 32 n v) 33 n pg) 34 n og
theorem adA_35 {A : mI} {n : Nat} {s v pg og : Int32} : adA A n s v pg og 35 = A 35 := by
  funext j
  simp [adA, up2]
theorem adA_32 {A : mI} {n k : Nat} {s v pg og : Int32} (h : k ≠ n) : adA A n s v pg og 32 k = A 32 k := by
  simp [adA, up2, h]
theorem up1_id {α : Type} {F : Nat → Nat → α} {k : Nat} : up1 F k (F k) = F := by
  funext a c
  simp only [up1]
  split
  · rename_i h; rw [h]
  · rfl
theorem opn_n {O : Nat → Int32} {n : Nat} : opn O n n = O := by
  funext j
  simp only [opn]
  rw [if_neg (by omega)]
theorem opn_st {F : mI} {O : Nat → Int32} {a n : Nat} (h : a + 1 ≤ n) : up2 (up1 F 35 (opn O (a + 1) n)) 35 (a + 1) (O a) = up1 F 35 (opn O a n) := by
  funext k j
  simp only [up2, up1, opn]
  by_cases hk : k = 35
  · subst hk
    simp only [if_true, true_and]
    by_cases hj : j = a + 1
    · subst hj
      rw [if_pos rfl, if_pos ⟨by omega, h⟩, Nat.add_sub_cancel]
    · rw [if_neg hj]
      by_cases h2 : a + 1 < j ∧ j ≤ n
      · rw [if_pos h2, if_pos ⟨by omega, h2.2⟩]
      · rw [if_neg h2, if_neg (by omega)]
  · rw [if_neg (fun z => hk z.1), if_neg hk, if_neg hk]
theorem opn_in {F : mI} {O : Nat → Int32} {a n : Nat} : up2 (up1 F 35 (opn O a n)) 35 a (nI n) = up1 F 35 (insr O a n) := by
  funext k j
  simp only [up2, up1, opn, insr]
  by_cases hk : k = 35
  · subst hk
    simp only [if_true, true_and]
  · rw [if_neg (fun z => hk z.1), if_neg hk, if_neg hk]
set_option maxRecDepth 20000 in
theorem c_add {J : mJ} (X : mRules J) {I A : mI} {B : mB} {w f : Nat} {R : mR} {n : Nat} (hn : n < 220) (hz : I 29 6 = nI n) {s v pg og : Int32} {am : Int64} {od : Nat → Nat} (hod : ∀ j, j < n → od j < n ∧ A 35 j = nI (od j)) (h : ∀ p, p ≤ n → (∀ j, p ≤ j → j < n → v < A 32 (od j)) → (p = 0 ∨ A 32 (od (p - 1)) ≤ v) → R none (up2 I 29 6 (nI (n + 1))) (up1 (adA A n s v pg og) 35 (insr (A 35) p n)) (up2 B 31 n am) (pk w f)) : J n_Entries_add 0 [.ref 29, .int s, .long am, .float 0, .int v, .int pg, .int og, .float 0] [] I A B (pk w f) R := by
  have G : ∀ a, ∀ (x : Int32) (Av : mI), x = nI a → Av = up1 (adA A n s v pg og) 35 (opn (A 35) a n) → (∀ j, a ≤ j → j < n → v < A 32 (od j)) → a ≤ n → J n_Entries_add 70 [.ref 29, .int s, .long am, .float 0, .int v, .int pg, .int og, .int x] [] I Av (up2 B 31 n am) (pk w f) R := by
    refine lpd (fun a => ∀ (x : Int32) (Av : mI), x = nI a → Av = up1 (adA A n s v pg og) 35 (opn (A 35) a n) → (∀ j, a ≤ j → j < n → v < A 32 (od j)) → a ≤ n → J n_Entries_add 70 [.ref 29, .int s, .long am, .float 0, .int v, .int pg, .int og, .int x] [] I Av (up2 B 31 n am) (pk w f) R) (fun a ih => ?_)
    intro x Av ex eA hg ha
    subst ex; subst eA
    refine X 200 _ _ _ _ _ _ _ _ _ ?_
    refine And.intro (fun q1 => ?_) (fun q1 => ?_)
    · have e : a = 0 := by
        have := (nI_leI (b := 0) (by omega) (by omega)).mp q1
        omega
      subst e
      refine Exists.intro _ (And.intro rfl (And.intro (by first | (rw [hr]; exact vin (by omega) (by omega)) | (rw [nI_pred]; exact vin (by omega) (by omega)) | (rw [hz]; exact vin (by omega) (by omega)) | exact vin (by omega) (by omega)) ?_))
      rw [hz, cl (by omega), opn_in]
      show R none (up2 I 29 6 (I 29 6 + 1)) _ _ _
      rw [hz, nI_1]
      exact h 0 (Nat.zero_le _) hg (Or.inl rfl)
    · have e : a ≠ 0 := fun z => q1 (by rw [z]; decide)
      obtain ⟨a, rfl⟩ : ∃ c, a = c + 1 := ⟨a - 1, by omega⟩
      have ho := hod a (by omega)
      have hr : (up1 (adA A n s v pg og) 35 (opn (A 35) (a + 1) n)) 35 (nI (a + 1) - 1).toNatClampNeg = nI (od a) := by
        rw [nI_pred, cl (by omega), up1_self]
        simp only [opn]
        rw [if_neg (by omega)]
        exact ho.2
      have hv : (up1 (adA A n s v pg og) 35 (opn (A 35) (a + 1) n)) 32 ((up1 (adA A n s v pg og) 35 (opn (A 35) (a + 1) n)) 35 (nI (a + 1) - 1).toNatClampNeg).toNatClampNeg = A 32 (od a) := by
        rw [hr, cl (by omega), up1_row (by decide), adA_32 (by omega)]
      refine Exists.intro _ (And.intro rfl (And.intro (by first | (rw [hr]; exact vin (by omega) (by omega)) | (rw [nI_pred]; exact vin (by omega) (by omega)) | (rw [hz]; exact vin (by omega) (by omega)) | exact vin (by omega) (by omega)) ?_))
      refine Exists.intro _ (And.intro rfl (And.intro (by first | (rw [hr]; exact vin (by omega) (by omega)) | (rw [nI_pred]; exact vin (by omega) (by omega)) | (rw [hz]; exact vin (by omega) (by omega)) | exact vin (by omega) (by omega)) ?_))
      refine And.intro (fun q2 => ?_) (fun q2 => ?_)
      · refine Exists.intro _ (And.intro rfl (And.intro (by first | (rw [hr]; exact vin (by omega) (by omega)) | (rw [nI_pred]; exact vin (by omega) (by omega)) | (rw [hz]; exact vin (by omega) (by omega)) | exact vin (by omega) (by omega)) ?_))
        rw [hv] at q2
        rw [hz, cl (by omega), opn_in]
        show R none (up2 I 29 6 (I 29 6 + 1)) _ _ _
        rw [hz, nI_1]
        exact h (a + 1) ha hg (Or.inr q2)
      · refine Exists.intro _ (And.intro rfl (And.intro (by first | (rw [hr]; exact vin (by omega) (by omega)) | (rw [nI_pred]; exact vin (by omega) (by omega)) | (rw [hz]; exact vin (by omega) (by omega)) | exact vin (by omega) (by omega)) ?_))
        refine Exists.intro _ (And.intro rfl (And.intro (by first | (rw [hr]; exact vin (by omega) (by omega)) | (rw [nI_pred]; exact vin (by omega) (by omega)) | (rw [hz]; exact vin (by omega) (by omega)) | exact vin (by omega) (by omega)) ?_))
        rw [hv] at q2
        refine ih a rfl _ _ ?_ ?_ ?_ (by omega)
        · exact pk_m1 a
        · rw [cl (show a + 1 < 2 ^ 31 by omega), hr, ← ho.2]
          exact opn_st ha
        · intro j h1 h2
          by_cases e3 : j = a
          · rw [e3]
            exact Int32.not_le.mp q2
          · exact hg j (by omega) h2
  refine X 200 _ _ _ _ _ _ _ _ _ ?_
  refine And.intro (fun q1 => ?_) (fun q1 => ?_)
  · refine Exists.intro _ (And.intro rfl (And.intro (by rw [hz]; exact vin (by omega) (by omega)) ?_))
    refine Exists.intro _ (And.intro rfl (And.intro (by rw [hz]; exact vin (by omega) (by omega)) ?_))
    refine Exists.intro _ (And.intro rfl (And.intro (by rw [hz]; exact vin (by omega) (by omega)) ?_))
    refine Exists.intro _ (And.intro rfl (And.intro (by rw [hz]; exact vin (by omega) (by omega)) ?_))
    refine Exists.intro _ (And.intro rfl (And.intro (by rw [hz]; exact vin (by omega) (by omega)) ?_))
    rw [hz, cl (by omega)]
    refine G n _ _ hz ?_ (fun j h1 h2 => by omega) (Nat.le_refl _)
    rw [opn_n, ← adA_35 (A := A) (n := n) (s := s) (v := v) (pg := pg) (og := og), up1_id]
    rfl
  · exact absurd (by rw [hz]; exact nI_lt (b := 220) hn (by omega)) q1 --end
