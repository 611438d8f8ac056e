/-! images -/
def ixo (k : Nat) : Nat := 10 + 2 * k
theorem ScR.cp {o c o' c' : Nat} {I A : mI} {P N K L T m : Nat} {rw : Nat → Rw} (S : ScR o c I A P N K L T m rw) (hm : m ≤ 81) {I' A' : mI} (h1 : I' o' 1 = I o 1) (h2 : I' o' 2 = I o 2) (hA : ∀ j, j < 328 → A' c' j = A c j) : ScR o' c' I' A' P N K L T m rw := by
  refine ⟨h1.trans S.hL, h2.trans S.ha, S.hT, fun h => ?_, S.hz, fun k hk => ?_⟩
  · rw [hA 1 (by decide), hA 2 (by decide), hA 3 (by decide)]
    exact S.h0 h
  · unfold CRow
    rw [hA _ (by omega), hA _ (by omega), hA _ (by omega), hA _ (by omega)]
    exact S.hr k hk
def scp (I : mI) (o o' : Nat) : mI := up2 (up2 I o' 1 (I o 1)) o' 2 (I o 2)
def acp (A : mI) (c c' : Nat) : mI := up1 A c' (va_cpy (A c) (A c') 0 0 328)
theorem acp_n {A : mI} {c c' j : Nat} (h : j < 328) : acp A c c' c' j = A c j := by
  show (if c' = c' then va_cpy (A c) (A c') 0 0 328 j else A c' j) = _
  rw [if_pos rfl]
  show (if 0 ≤ j ∧ j < 0 + 328 then A c (0 + (j - 0)) else A c' j) = _
  rw [if_pos (by omega), Nat.sub_zero, Nat.zero_add]
theorem acp_r {A : mI} {c c' q : Nat} (h : q ≠ c') : acp A c c' q = A q := funext (fun j => if_neg h)
theorem scp_r {I : mI} {o o' q : Nat} (h : q ≠ o') : scp I o o' q = I q := by
  unfold scp
  rw [up2_r h, up2_r h]
theorem scp_1 {I : mI} {o o' : Nat} : scp I o o' o' 1 = I o 1 := by
  unfold scp
  rw [up2_m (by decide), up2_s]
theorem scp_2 {I : mI} {o o' : Nat} : scp I o o' o' 2 = I o 2 := by
  unfold scp
  exact up2_s
