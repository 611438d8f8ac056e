/-! tokens: how their parts come about -/
theorem tk_0 {t : Nat → Nat} {n p : Nat} (e : tS t n p = n) : tK t n p = 0 ∧ tE t n p = n := by
  unfold tK tE
  rw [e]
  exact ⟨if_pos (Nat.le_refl _), if_pos (Nat.le_refl _)⟩
theorem tk_w {t : Nat → Nat} {n p s j : Nat} (e : tS t n p = s) (hs : s < n) (hl : isLt (t s) = true) (hj : rnn (fun k => isLt (t k)) n s = j) : tK t n p = 1 ∧ tE t n p = j := by
  unfold tK tE
  rw [e]
  unfold tKs tEs
  have h0 : ¬ n ≤ s := by omega
  rw [if_neg h0, if_neg h0, if_pos hl, if_pos hl]
  exact ⟨rfl, hj⟩
theorem tk_d {t : Nat → Nat} {n p s j : Nat} (e : tS t n p = s) (hs : s < n) (hl : isDg (t s) = true) (hj : rnn (fun k => isDg (t k)) n s = j) : tK t n p = 2 ∧ tE t n p = j := by
  have h2 : ¬ isLt (t s) = true := fun z => by rw [isLD z] at hl; cases hl
  unfold tK tE
  rw [e]
  unfold tKs tEs
  have h0 : ¬ n ≤ s := by omega
  rw [if_neg h0, if_neg h0, if_neg h2, if_neg h2, if_pos hl, if_pos hl]
  exact ⟨rfl, hj⟩
theorem tk_3 {t : Nat → Nat} {n p s : Nat} (e : tS t n p = s) (hs : s < n) (h1 : ¬ isLt (t s) = true) (h2 : ¬ isDg (t s) = true) : tK t n p = (if t s = 59 then 3 else 4) ∧ tE t n p = s + 1 := by
  unfold tK tE
  rw [e]
  unfold tKs tEs
  have h0 : ¬ n ≤ s := by omega
  rw [if_neg h0, if_neg h0, if_neg h1, if_neg h1, if_neg h2, if_neg h2]
  exact ⟨rfl, rfl⟩
theorem btI {c lo hi : Nat} (hc : c < 256) (h1 : lo < 256) (h2 : hi < 256) : ((nI lo : Int32) ≤ nI c ∧ nI c ≤ nI hi) ↔ (lo ≤ c ∧ c ≤ hi) := by
  rw [nI_leI (by omega) (by omega), nI_leI (by omega) (by omega)]
theorem nm48 {c : Nat} (h : 48 ≤ c) : nI c - 48 = nI (c - 48) := pk_sub (b := 48) h
theorem dg48 {y c : Nat} (h : 48 ≤ c) : nI y * 10 + nI c - 48 = nI (10 * y + (c - 48)) := by
  rw [show nI y * (10 : Int32) = nI (y * 10) from pk_mul y 10, nI_add, show nI (y * 10 + c) - 48 = nI (y * 10 + c - 48) from pk_sub (b := 48) (by omega)]
  congr 1
  omega
theorem nvl_s {t : Nat → Nat} {s j : Nat} (h : s ≤ j) : nvl t s (j + 1 - s) = if 10 * nvl t s (j - s) + (t j - 48) < 100000 then 10 * nvl t s (j - s) + (t j - 48) else 100000 := by
  rw [show j + 1 - s = j - s + 1 by omega, nvl, show s + (j - s) = j by omega]
theorem nvl_1 {t : Nat → Nat} {s : Nat} (h : isDg (t s) = true) : nvl t s (s + 1 - s) = t s - 48 := by
  have := of_decide_eq_true h
  rw [nvl_s (Nat.le_refl s), Nat.sub_self]
  show (if 10 * 0 + (t s - 48) < 100000 then 10 * 0 + (t s - 48) else 100000) = _
  rw [if_pos (by omega)]
  omega
theorem tW_t {t : Nat → Nat} {n p k : Nat} (h1 : tK t n p = 1) (h2 : tE t n p - tS t n p = (tx k).length) (h3 : ∀ i, i < (tx k).length → nI (t (tS t n p + i)) = (tx k).getD i 0) : tW t n p k = true := by
  unfold tW
  rw [decide_eq_true ⟨h1, h2⟩, fd_no (fun j hj => by rw [decide_eq_true (h3 j hj)]; rfl)]
  rfl
theorem tW_f1 {t : Nat → Nat} {n p k : Nat} (h : ¬ (tK t n p = 1 ∧ tE t n p - tS t n p = (tx k).length)) : tW t n p k = false := by
  unfold tW
  rw [decide_eq_false h]
  rfl
theorem tW_f2 {t : Nat → Nat} {n p k i : Nat} (hi : i < (tx k).length) (h : ¬ nI (t (tS t n p + i)) = (tx k).getD i 0) : tW t n p k = false := by
  unfold tW
  cases q : fd (fun i => !decide (nI (t (tS t n p + i)) = (tx k).getD i 0)) (tx k).length with
  | some j => exact Bool.and_false _
  | none =>
    have := fd_none q i hi
    rw [decide_eq_false h] at this
    cases this
theorem tW_i {t : Nat → Nat} {n p k : Nat} (h : tW t n p k = true) : tK t n p = 1 := by
  unfold tW at h
  rw [Bool.and_eq_true] at h
  exact (of_decide_eq_true h.1).1
theorem tK_4 {t : Nat → Nat} {n p : Nat} : tK t n p ≤ 4 := by
  unfold tK tKs
  split
  · omega
  · split
    · omega
    · split
      · omega
      · split <;> omega
