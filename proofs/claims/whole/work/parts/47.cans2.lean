/-! the class's words about entries, by an account -/
theorem zL_1 (k : Nat) : zL (k : Int) + 1 = zL ((k + 1 : Nat) : Int) := by
  have := zL_add (x := (k : Int)) (y := 1)
  exact this
theorem ct_sm {c : Nat → Bool} : ∀ {n : Nat}, zL (ct c n : Int) = sm (fun j => if c j = true then 1 else 0) n
  | 0 => rfl
  | n + 1 => by
    show zL ((ct c n + (if c n = true then 1 else 0) : Nat) : Int) = sm _ n + (if c n = true then 1 else 0)
    rw [← ct_sm]
    by_cases h : c n = true
    · rw [if_pos h, if_pos h, zL_1]
    · rw [if_neg h, if_neg h, Nat.add_zero, Int64.add_zero]
theorem ct_L {c : Nat → Bool} {n : Nat} (h : n < 2 ^ 31) : (nI (ct c n)).toInt64 = sm (fun j => if c j = true then 1 else 0) n := by
  have := ct_le (c := c) n
  rw [nL (by omega), ct_sm]
theorem z_pg0 {a : Ac} {I A : mI} {B : mB} (C : CR a I A B) (V : Vw a) {p : Nat} (hp : p ≤ 8) {x : Int32} (ex : x = nI p) : sm (zpgt a p 0) a.n = sm (fun j => if x ≤ A 33 j then 0 else B 31 j) a.n := sm_congr (fun j hj => by
  have h8 := V.pg8 j hj
  subst ex
  rw [C.hpg j hj, C.ham j hj]
  simp only [zpgt, if_true]
  by_cases z : a.pg j < p
  · rw [if_pos z, if_neg (fun y => absurd ((nI_leI (by omega) (by omega)).mp y) (by omega))]
  · rw [if_neg z, if_pos (nI_le (by omega) (by omega))])
theorem z_pg6 {a : Ac} {I A : mI} {B : mB} (C : CR a I A B) (V : Vw a) {p : Nat} (hp : p ≤ 8) {x : Int32} (ex : x = nI (p + 1)) : sm (zpgt a p 6) a.n = sm (fun j => if x ≤ A 33 j then 0 else B 31 j) a.n := sm_congr (fun j hj => by
  have h8 := V.pg8 j hj
  subst ex
  rw [C.hpg j hj, C.ham j hj]
  show (if a.pg j ≤ p then zL (a.am j) else 0) = _
  by_cases z : a.pg j ≤ p
  · rw [if_pos z, if_neg (fun y => absurd ((nI_leI (by omega) (by omega)).mp y) (by omega))]
  · rw [if_neg z, if_pos (nI_le (by omega) (by omega))])
theorem z_pgs {a : Ac} {I A : mI} {B : mB} (C : CR a I A B) (V : Vw a) {p k : Nat} (hp : p ≤ 8) (hk : k = 3 ∨ k = 4 ∨ k = 5) {x t : Int32} (ex : x = nI p) (et : t = nI (k - 2)) : sm (zpgt a p k) a.n = sm (fun j => if A 33 j = x ∧ A 30 j = t then B 31 j else 0) a.n := sm_congr (fun j hj => by
  have h8 := V.pg8 j hj
  have h3 := V.so3 j hj
  subst ex; subst et
  rw [C.hpg j hj, C.ham j hj, C.hso j hj]
  have e : zpgt a p k j = if a.pg j = p ∧ a.so j + 2 = k then zL (a.am j) else 0 := by
    unfold zpgt
    rw [if_neg (by omega), if_neg (by omega), if_neg (by omega), if_neg (by omega), if_neg (by omega)]
  rw [e]
  by_cases z : a.pg j = p ∧ a.so j + 2 = k
  · rw [if_pos z, if_pos ⟨by rw [z.1], by rw [show k - 2 = a.so j by omega]⟩]
  · rw [if_neg z, if_neg (fun y => z ⟨(nI_eq (by omega) (by omega)).mp y.1, by have := (nI_eq (by omega) (by omega)).mp y.2; omega⟩)])
theorem z_pg1 {a : Ac} {I A : mI} {B : mB} (C : CR a I A B) (V : Vw a) {p : Nat} (hp : p ≤ 8) {x : Int32} (ex : x = nI p) : sm (zpgt a p 1) a.n = sm (fun j => if A 33 j = x ∧ A 30 j = 0 then (if B 31 j < 0 then 0 else B 31 j) else 0) a.n := sm_congr (fun j hj => by
  have h8 := V.pg8 j hj
  have h3 := V.so3 j hj
  have ha := V.am1 j hj
  subst ex
  rw [C.hpg j hj, C.ham j hj, C.hso j hj]
  show (if a.pg j = p ∧ a.so j = 0 ∧ 0 < a.am j then zL (a.am j) else 0) = _
  by_cases z : a.pg j = p ∧ a.so j = 0
  · rw [if_pos (c := nI (a.pg j) = nI p ∧ nI (a.so j) = 0) ⟨by rw [z.1], by rw [z.2]; rfl⟩, zl_max0 (by omega) (by omega)]
    by_cases y : 0 < a.am j
    · rw [if_pos ⟨z.1, z.2, y⟩, if_neg (by omega)]
    · rw [if_neg (fun q => y q.2.2)]
      have e : (if a.am j < 0 then 0 else a.am j) = 0 := by split <;> omega
      rw [e]
      rfl
  · rw [if_neg (fun q => z ⟨q.1, q.2.1⟩), if_neg (fun y => z ⟨(nI_eq (by omega) (by omega)).mp y.1, (nI_eq (b := 0) (by omega) (by omega)).mp y.2⟩)])
theorem sm_subI {g h k : Nat → Int64} : ∀ {n : Nat}, (∀ j, j < n → k j = g j - h j) → sm k n = sm g n - sm h n
  | 0, _ => (Int64.sub_self 0).symm
  | n + 1, e => by
    rw [sm, sm, sm, sm_subI (fun j hj => e j (by omega)), e n (by omega)]
    simp only [Int64.sub_eq_add_neg, Int64.neg_add]
    ac_rfl
theorem z_pg2 {a : Ac} {I A : mI} {B : mB} (C : CR a I A B) (V : Vw a) {p : Nat} (hp : p ≤ 8) {x : Int32} (ex : x = nI p) : sm (zpgt a p 2) a.n = sm (fun j => if A 33 j = x ∧ A 30 j = 0 then (if B 31 j < 0 then 0 else B 31 j) else 0) a.n - sm (fun j => if A 33 j = x ∧ A 30 j = 0 then B 31 j else 0) a.n := sm_subI (fun j hj => by
  have h8 := V.pg8 j hj
  have h3 := V.so3 j hj
  have ha := V.am1 j hj
  subst ex
  rw [C.hpg j hj, C.ham j hj, C.hso j hj]
  show (if a.pg j = p ∧ a.so j = 0 ∧ a.am j < 0 then -(zL (a.am j)) else 0) = _
  by_cases z : a.pg j = p ∧ a.so j = 0
  · have c : nI (a.pg j) = nI p ∧ nI (a.so j) = 0 := ⟨by rw [z.1], by rw [z.2]; rfl⟩
    rw [if_pos c, if_pos c, zl_max0 (by omega) (by omega), zL_sub]
    by_cases y : a.am j < 0
    · rw [if_pos ⟨z.1, z.2, y⟩, if_pos y, zL_neg]
      congr 1
      omega
    · rw [if_neg (fun q => y q.2.2), if_neg y, Int.sub_self]
      rfl
  · have c : ¬ (nI (a.pg j) = nI p ∧ nI (a.so j) = 0) := fun y => z ⟨(nI_eq (by omega) (by omega)).mp y.1, (nI_eq (b := 0) (by omega) (by omega)).mp y.2⟩
    rw [if_neg (fun q => z ⟨q.1, q.2.1⟩), if_neg c, if_neg c]
    rfl)
theorem z_pg7 {a : Ac} {I A : mI} {B : mB} (C : CR a I A B) (V : Vw a) (hv : ∀ j, j < a.n → a.va j < 1000) {p : Nat} (hp : p ≤ 8) {x : Int32} (ex : x = nI p) : sm (zpgt a p 7) a.n = (nI (ct (fun j => decide (A 33 j = x ∧ ¬ A 32 j < 0 ∧ ¬ 1000 ≤ A 32 j)) a.n)).toInt64 := by
  have h4 := V.n4
  rw [ct_L (by omega)]
  refine sm_congr (fun j hj => ?_)
  have h8 := V.pg8 j hj
  have h9 := hv j hj
  subst ex
  show (if a.pg j = p then (1 : Int64) else 0) = _
  simp only [decide_eq_true_eq]
  rw [C.hpg j hj, C.hva j hj]
  by_cases z : a.pg j = p
  · rw [if_pos z, if_pos ⟨by rw [z], nI_pos (by omega), nI_ge (b := 1000) h9 (by omega)⟩]
  · rw [if_neg z, if_neg (fun y => z ((nI_eq (by omega) (by omega)).mp y.1))]
/-- of a page those with a value day ahead, behind -/
theorem bd_c {a : Ac} {I A : mI} {B : mB} (C : CR a I A B) (V : Vw a) (hv : ∀ j, j < a.n → a.va j < 1000) {p k : Nat} (hp : p < a.N) (hk : k < 4) {x y z : Int32} (ex : x = nI p) (ey : y = if k < 2 then 0 else nI (a.P * p + a.P)) (ez : z = if k < 2 then nI (a.P * p) else 1000) {j : Nat} (hj : j < a.n) : (A 33 j = x ∧ ¬ A 32 j < y ∧ ¬ z ≤ A 32 j) ↔ (a.pg j = p ∧ (if k < 2 then a.va j < a.P * p else a.P * p + a.P ≤ a.va j)) := by
  have h8 := V.pg8 j hj
  have h9 := hv j hj
  have h1 := P_le hp
  have h2 := D320 V
  have h3 := V.N8
  subst ex; subst ey; subst ez
  rw [C.hpg j hj, C.hva j hj, nI_eq (by omega) (by omega)]
  by_cases c : k < 2
  · simp only [if_pos c]
    rw [nI_leI (by omega) (by omega)]
    have := nI_pos (n := a.va j) (by omega)
    constructor
    · exact fun h => ⟨h.1, by have := h.2.2; omega⟩
    · exact fun h => ⟨h.1, this, by have := h.2; omega⟩
  · simp only [if_neg c]
    rw [nI_ltI (by omega) (by omega)]
    have := nI_ge (b := 1000) h9 (by omega)
    constructor
    · exact fun h => ⟨h.1, by have := h.2.1; omega⟩
    · exact fun h => ⟨h.1, by have := h.2; omega, this⟩
theorem z_bdn {a : Ac} {I A : mI} {B : mB} (C : CR a I A B) (V : Vw a) (hv : ∀ j, j < a.n → a.va j < 1000) {p k : Nat} (hp : p < a.N) (hk : k < 4) (he : k % 2 = 0) {x y z : Int32} (ex : x = nI p) (ey : y = if k < 2 then 0 else nI (a.P * p + a.P)) (ez : z = if k < 2 then nI (a.P * p) else 1000) : sm (zbdt a p k) a.n = (nI (ct (fun j => decide (A 33 j = x ∧ ¬ A 32 j < y ∧ ¬ z ≤ A 32 j)) a.n)).toInt64 := by
  have h4 := V.n4
  rw [ct_L (by omega)]
  refine sm_congr (fun j hj => ?_)
  simp only [decide_eq_true_eq]
  unfold zbdt
  have := bd_c C V hv hp hk ex ey ez hj
  by_cases q : a.pg j = p ∧ (if k < 2 then a.va j < a.P * p else a.P * p + a.P ≤ a.va j)
  · rw [if_pos q, if_pos (this.mpr q), if_pos he]
  · rw [if_neg q, if_neg (fun r => q (this.mp r))]
theorem z_bds {a : Ac} {I A : mI} {B : mB} (C : CR a I A B) (V : Vw a) (hv : ∀ j, j < a.n → a.va j < 1000) {p k : Nat} (hp : p < a.N) (hk : k < 4) (he : ¬ k % 2 = 0) {x y z : Int32} (ex : x = nI p) (ey : y = if k < 2 then 0 else nI (a.P * p + a.P)) (ez : z = if k < 2 then nI (a.P * p) else 1000) : sm (zbdt a p k) a.n = sm (fun j => if A 33 j = x ∧ ¬ A 32 j < y ∧ ¬ z ≤ A 32 j then B 31 j else 0) a.n := sm_congr (fun j hj => by
  unfold zbdt
  have := bd_c C V hv hp hk ex ey ez hj
  by_cases q : a.pg j = p ∧ (if k < 2 then a.va j < a.P * p else a.P * p + a.P ≤ a.va j)
  · rw [if_pos q, if_pos (this.mpr q), if_neg he, C.ham j hj]
  · rw [if_neg q, if_neg (fun r => q (this.mp r))])
theorem z_line {a : Ac} {I A : mI} {B : mB} (C : CR a I A B) (V : Vw a) {p : Nat} (hp : p ≤ 8) {k : Int32} : fd (zln a p k) a.n = fd (fun j => decide (A 33 j = nI p ∧ nI (ct (fun j => decide (A 33 j = nI p)) j) = k)) a.n := fd_congr (fun j hj => by
  have e : ∀ i, i < a.n → (A 33 i = nI p ↔ a.pg i = p) := fun i hi => by
    have h8 := V.pg8 i hi
    rw [C.hpg i hi, nI_eq (by omega) (by omega)]
  unfold zln
  rw [ct_congr (g := fun j => decide (A 33 j = nI p)) (g' := fun j => decide (a.pg j = p)) (fun i hi => by
    show decide _ = decide _
    simp only [e i (by omega)])]
  simp only [e j hj])
/-! the greatest common divisor -/
theorem cdv_sp {c : Nat → Bool} : ∀ {n : Nat}, (∀ k, cdv c n < k → k ≤ n → 1 < k → c k = false) ∧ (cdv c n = 1 ∨ c (cdv c n) = true ∧ cdv c n ≤ n)
  | 0 => ⟨fun k h1 h2 h3 => by omega, Or.inl rfl⟩
  | n + 1 => by
    obtain ⟨h1, h2⟩ := cdv_sp (c := c) (n := n)
    unfold cdv
    by_cases h : 1 < n + 1 ∧ c (n + 1) = true
    · rw [if_pos h]
      exact ⟨fun k a1 a2 a3 => by omega, Or.inr ⟨h.2, Nat.le_refl _⟩⟩
    · rw [if_neg h]
      refine ⟨fun k a1 a2 a3 => ?_, ?_⟩
      · by_cases e : k = n + 1
        · subst e
          cases hc : c (n + 1) with
          | false => rfl
          | true => exact absurd ⟨a3, hc⟩ h
        · exact h1 k a1 (by omega) a3
      · rcases h2 with z | z
        · exact Or.inl z
        · exact Or.inr ⟨z.1, by omega⟩
theorem zl_rdv {s : Int} {k : Nat} (h1 : -2 ^ 50 ≤ s) (h2 : s ≤ 2 ^ 50) (h3 : 0 < k) (h4 : k < 2 ^ 20) : zL s - zL s / (nI k).toInt64 * (nI k).toInt64 = 0 ↔ (k : Int) ∣ s := by
  have e1 : Int64.minValue.toInt = -2 ^ 63 := rfl
  have e2 : Int64.maxValue.toInt = 2 ^ 63 - 1 := rfl
  have e3 : zL s / zL k = zL (s.tdiv k) := (Int64.ofInt_tdiv (by rw [e1]; omega) (by rw [e2]; omega) (by rw [e1]; omega) (by rw [e2]; omega)).symm
  rw [nL (by omega), e3, zL_mul, zL_sub]
  have e4 : s - s.tdiv k * k = s.tmod k := by rw [Int.tmod_def, Int.mul_comm]
  rw [e4]
  have hb : -(2 ^ 20 : Int) ≤ s.tmod k ∧ s.tmod k ≤ 2 ^ 20 := by
    have g1 := Int.tmod_lt_of_pos s (show (0 : Int) < k by omega)
    have g2 : -(k : Int) < s.tmod k := by
      have := Int.neg_tmod s k
      have g3 := Int.tmod_lt_of_pos (-s) (show (0 : Int) < k by omega)
      omega
    omega
  rw [zl_eq0 (by omega) (by omega)]
  exact Int.dvd_iff_tmod_eq_zero.symm
theorem cdv_g {s : Int} {P : Nat} (h1 : -2 ^ 50 ≤ s) (h2 : s ≤ 2 ^ 50) (h3 : 0 < P) (h4 : P < 2 ^ 20) : cdv (fun k => decide (P % k = 0 ∧ zL s - zL s / (nI k).toInt64 * (nI k).toInt64 = 0)) P = Nat.gcd s.natAbs P := by
  have key : ∀ k, 0 < k → k ≤ P → ((fun k => decide (P % k = 0 ∧ zL s - zL s / (nI k).toInt64 * (nI k).toInt64 = 0)) k = true ↔ k ∣ Nat.gcd s.natAbs P) := fun k a1 a2 => by
    show decide _ = true ↔ _
    rw [decide_eq_true_eq, zl_rdv h1 h2 a1 (by omega), Nat.dvd_gcd_iff, Int.ofNat_dvd_left]
    exact ⟨fun z => ⟨z.2, Nat.dvd_of_mod_eq_zero z.1⟩, fun z => ⟨Nat.mod_eq_zero_of_dvd z.2, z.1⟩⟩
  have hg := Nat.gcd_pos_of_pos_right s.natAbs h3
  have hl := Nat.gcd_le_right s.natAbs h3
  generalize hc : (fun k => decide (P % k = 0 ∧ zL s - zL s / (nI k).toInt64 * (nI k).toInt64 = 0)) = c at key
  obtain ⟨g1, g2⟩ := cdv_sp (c := c) (n := P)
  have a1 : Nat.gcd s.natAbs P ≤ cdv c P := by
    refine Nat.le_of_not_lt (fun z => ?_)
    by_cases y : 1 < Nat.gcd s.natAbs P
    · have := g1 _ z hl y
      rw [(key _ hg hl).mpr (Nat.dvd_refl _)] at this
      cases this
    · rcases g2 with x | x
      · omega
      · by_cases w : 0 < cdv c P
        · omega
        · have e0 : cdv c P = 0 := by omega
          rcases Nat.eq_zero_or_pos P with e | e
          · omega
          · have : ∀ n, 1 ≤ cdv c n := fun n => by
              induction n with
              | zero => exact Nat.le_refl _
              | succ n ih =>
                unfold cdv
                split <;> omega
            have := this P
            omega
  rcases g2 with x | x
  · omega
  · have := Nat.le_of_dvd hg ((key _ (by omega) x.2).mp x.1)
    omega
