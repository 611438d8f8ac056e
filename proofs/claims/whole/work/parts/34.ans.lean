/-! answers, as both sides give them -/
/-- a number as a place among N -/
def ixN (N : Nat) (x : Int32) : Option Nat := if 0 ≤ x ∧ x < nI N then some x.toNatClampNeg else none
theorem ixN_s {k N : Nat} (h : k < N) (hN : N < 2 ^ 31) : ixN N (nI k) = some k := by
  unfold ixN
  rw [if_pos ⟨nI_pos' (by omega), nI_lt h hN⟩, cl (by omega)]
theorem ixN_n {N : Nat} (hN : N < 2 ^ 31) {x : Int32} (h : ∀ k, k < N → x ≠ nI k) : ixN N x = none := by
  unfold ixN
  rcases pk_ix x hN with z | z | z
  · exact if_neg (fun y => Int32.not_lt.mpr y.1 z)
  · exact if_neg (fun y => Int32.not_lt.mpr z y.2)
  · obtain ⟨j, hj, e⟩ := z
    exact absurd e (h j hj)
theorem ixN_c {N : Nat} (hN : N < 2 ^ 31) (x : Int32) : (∃ k, k < N ∧ x = nI k ∧ ixN N x = some k) ∨ (∀ k, k < N → x ≠ nI k) ∧ ixN N x = none := by
  by_cases h : ∃ k, k < N ∧ x = nI k
  · obtain ⟨k, hk, e⟩ := h
    exact Or.inl ⟨k, hk, e, by rw [e]; exact ixN_s hk hN⟩
  · have h2 : ∀ k, k < N → x ≠ nI k := fun k hk e => h ⟨k, hk, e⟩
    exact Or.inr ⟨h2, ixN_n hN h2⟩
abbrev NS : Int64 := -9223372036854775808
def zB (a : Ac) (d : Nat) : Int64 := zL (zbl a d)
abbrev zD (a : Ac) : Nat := a.P * a.N
def an_rate (a : Ac) (t d : Option Nat) : Int32 := match t with
  | none => -1
  | some t => match d with
    | none => -1
    | some d => zN (zhl a t d)
def an_owing (a : Ac) (d k : Option Nat) : Int32 := match d with
  | none => -1
  | some d => match k with
    | none => -1
    | some k => zN (zhl a (4 + k) d)
def an_balance (a : Ac) (d : Option Nat) : Int64 := match d with
  | none => NS
  | some d => zB a d
def an_part (a : Ac) (d t : Option Nat) : Int64 := match d with
  | none => NS
  | some d => match t with
    | none => NS
    | some t => zL (zpt a d (zbl a d) t)
def an_product (a : Ac) (d : Option Nat) : Int64 := match d with
  | none => NS
  | some d => zL (zpr a d (zbl a d))
def an_products (a : Ac) (p k : Option Nat) : Int64 := match p with
  | none => NS
  | some p => match k with
    | none => NS
    | some 0 => zL (zsm (fun i => zer a (a.P * p + i) (zbl a (a.P * p + i))) a.P)
    | some (_ + 1) => zL (zsm (fun i => zow a (a.P * p + i) (zbl a (a.P * p + i))) a.P)
def an_fresh (a : Ac) (p : Option Nat) : Int64 := match p with
  | none => NS
  | some p => zL (zit a p)
def an_booked (a : Ac) (p : Option Nat) : Int64 := match p with
  | none => NS
  | some p => zL (zbk a p)
def an_wrong (a : Ac) (p : Option Nat) : Int64 := match p with
  | none => NS
  | some p => zL (if p < a.c then zit a p - zbk a p else 0)
def an_comp (a : Ac) (p : Option Nat) : Int32 := match p with
  | none => -1
  | some p => nI (zcm a p)
def an_all (a : Ac) (bk : Bool) : Int64 := match bk with
  | false => NS
  | true => zL (zal a)
def zst (a : Ac) (j : Nat) : Bool := decide (¬ zB a (1 + j) = zB a j)
def an_steps (a : Ac) (bk : Bool) : Int32 := match bk with
  | false => -2
  | true => nI (ct (zst a) (zD a - 1))
def an_step (a : Ac) (bk : Bool) (i : Int32) : Int32 := match bk with
  | false => -2
  | true => if i < 0 then -2 else match fd (fun j => zst a j && decide (nI (ct (zst a) j) = i)) (zD a - 1) with
    | some j => nI (1 + j)
    | none => -1
def an_lowest (a : Ac) (bk : Bool) : Int64 := match bk with
  | false => NS
  | true => mnu (zB a) 0 (zD a - 1)
def zby (a : Ac) (d : Nat) : Bool := decide (zhl a 6 d < -zbl a d)
def an_beyond (a : Ac) (bk : Bool) : Int32 := match bk with
  | false => -2
  | true => nI (ct (zby a) (zD a))
def an_first (a : Ac) (bk : Bool) : Int32 := match bk with
  | false => -2
  | true => fI (fd (zby a) (zD a))
def zss (a : Ac) (p : Nat) : Int := zsm (fun i => zbl a (a.P * p + i)) a.P
def an_mean (a : Ac) (p k : Option Nat) : Int64 := match p with
  | none => NS
  | some p => match k with
    | none => NS
    | some 0 => zL (zss a p / (Nat.gcd (zss a p).natAbs a.P : Nat))
    | some (_ + 1) => zL ((a.P / Nat.gcd (zss a p).natAbs a.P : Nat))
def an_earned (a : Ac) (p t : Option Nat) : Int64 := match p with
  | none => NS
  | some p => match t with
    | none => NS
    | some t => zL (zsm (fun i => zpt a (a.P * p + i) (zbl a (a.P * p + i)) t * zhl a t (a.P * p + i)) a.P)
def an_reaches (a : Ac) (bk : Bool) (m : Int32) : Int32 := match bk with
  | false => -2
  | true => if (-99999 : Int32) ≤ m ∧ m ≤ 99999 then fI (fd (fun d => decide (m.toInt64 ≤ zB a d)) (zD a)) else -2
/-- what is left to the limit -/
def zR (a : Ac) (d : Nat) : Int64 := zB a d + (zN (zhl a 6 d)).toInt64
def an_most (a : Ac) (d : Option Nat) : Int32 := match d with
  | none => -2
  | some d => if mnu (zR a) d (zD a - 1 - d) < 0 then -1 else (if 999999 < mnu (zR a) d (zD a - 1 - d) then 999999 else mnu (zR a) d (zD a - 1 - d)).toInt32
def an_least (a : Ac) (d : Option Nat) : Int32 := match d with
  | none => -2
  | some d => if 0 ≤ mnu (zR a) d (zD a - 1 - d) then 0 else if 999999 < -mnu (zR a) d (zD a - 1 - d) then -1 else (-mnu (zR a) d (zD a - 1 - d)).toInt32
def an_limitFor (a : Ac) (bk : Bool) : Int32 := match bk with
  | false => -2
  | true => if 99999 < (if -mnu (zB a) 0 (zD a - 1) < 0 then 0 else -mnu (zB a) 0 (zD a - 1)) then -1 else (if -mnu (zB a) 0 (zD a - 1) < 0 then 0 else -mnu (zB a) 0 (zD a - 1)).toInt32
/-! questions of the reference, by places -/
theorem c_MinK {J : mJ} (X : mRules J) {I A : mI} {B : mB} {w f : Nat} {R : mR} {d : Int32} (D : Nat) {hi : Int64} (hh : hi = (nI D - 1).toInt64) (hD : D < 2 ^ 31) (h1 : ∀ k, k < D → d = nI k → R (some (.int 1)) I A B (pk w f)) (h0 : (∀ k, k < D → d ≠ nI k) → R (some (.int 0)) I A B (pk w f)) : J n_M_in 0 [.long d.toInt64, .float 0, .long 0, .float 0, .long hi, .float 0] [] I A B (pk w f) R := by
  subst hh
  refine c_Min X (fun z1 z2 => ?_) (fun z => ?_)
  · obtain ⟨k, hk, e⟩ := (in_ix hD).mp ⟨z1, z2⟩
    exact h1 k hk e
  · exact h0 (fun k hk e => z ((in_ix hD).mpr ⟨k, hk, e⟩))
theorem c_MinB {J : mJ} (X : mRules J) {I A : mI} {B : mB} {w f : Nat} {R : mR} {n : Int32} (lo hi : Int32) {l h : Int64} (el : l = lo.toInt64) (eh : h = hi.toInt64) (h1 : lo ≤ n ∧ n ≤ hi → R (some (.int 1)) I A B (pk w f)) (h0 : ¬ (lo ≤ n ∧ n ≤ hi) → R (some (.int 0)) I A B (pk w f)) : J n_M_in 0 [.long n.toInt64, .float 0, .long l, .float 0, .long h, .float 0] [] I A B (pk w f) R := by
  subst el; subst eh
  exact c_Min X (fun z1 z2 => h1 ⟨i64le.mp z1, i64le.mp z2⟩) (fun z => h0 (fun y => z ⟨i64le.mpr y.1, i64le.mpr y.2⟩))
theorem c_MisBk {J : mJ} (X : mRules J) {I A : mI} {B : mB} {w f : Nat} {R : mR} {bk : Bool} (hw : ash w = some (0, 606)) (hbk : 0 < A w 3 ↔ bk = true) (h1 : bk = true → R (some (.int 1)) I A B (pk w f)) (h0 : bk = false → R (some (.int 0)) I A B (pk w f)) : J n_M_isBook 0 [.ref 43] [] I A B (pk w f) R :=
  c_MisBook X (z := 0) hw (fun z => h1 (hbk.mp z)) (fun z => h0 (by cases bk with | false => rfl | true => exact absurd (hbk.mpr rfl) z))
