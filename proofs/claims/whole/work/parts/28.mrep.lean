/-! the reference's store, as an account -/
def MR (a : Ac) (w : Nat) (I A : mI) (B : mB) : Prop :=
  (ash w = some (0, 606)) ∧
  (w = 44 ∨ w = 45) ∧
  (A w 0 = nI a.P) ∧
  (A w 1 = nI a.N) ∧
  (0 < a.N → A w 2 = nI a.K) ∧
  (I 43 7 = nI a.nt) ∧
  (∀ t, t < a.nt → A 48 t = nI (a.tr t)) ∧
  (∀ t, t < a.nt → A 49 t = nI (a.tt t)) ∧
  (∀ k, k < 3 → A 50 k = nI (a.db k)) ∧
  (I 43 13 = nI a.nc) ∧
  (∀ k, k < a.nc → A 51 k = nI (a.cd k)) ∧
  (∀ k, k < a.nc → A 52 k = nI (a.co k)) ∧
  (∀ k, k < a.nc → A 53 k = nI (a.cv k)) ∧
  (I 43 19 = nI a.n) ∧
  (∀ j, j < a.n → A 54 j = nI (a.so j)) ∧
  (∀ j, j < a.n → B 55 j = zL (a.am j)) ∧
  (∀ j, j < a.n → A 56 j = nI (a.va j)) ∧
  (∀ j, j < a.n → A 57 j = nI (a.pg j)) ∧
  (∀ j, j < a.n → A 58 j = a.og j) ∧
  (I 43 20 = nI a.c) ∧
  (I 43 21 = fI a.ti) ∧
  (a.ti ≠ none → I 43 22 = zN a.tb) ∧
  (I 43 23 = fI a.fo)
theorem MR.hw {a : Ac} {w : Nat} {I A : mI} {B : mB} (self : MR a w I A B) : ash w = some (0, 606) := self.1
theorem MR.w5 {a : Ac} {w : Nat} {I A : mI} {B : mB} (self : MR a w I A B) : w = 44 ∨ w = 45 := self.2.1
theorem MR.hP {a : Ac} {w : Nat} {I A : mI} {B : mB} (self : MR a w I A B) : A w 0 = nI a.P := self.2.2.1
theorem MR.hN {a : Ac} {w : Nat} {I A : mI} {B : mB} (self : MR a w I A B) : A w 1 = nI a.N := self.2.2.2.1
theorem MR.hK {a : Ac} {w : Nat} {I A : mI} {B : mB} (self : MR a w I A B) : 0 < a.N → A w 2 = nI a.K := self.2.2.2.2.1
theorem MR.hnt {a : Ac} {w : Nat} {I A : mI} {B : mB} (self : MR a w I A B) : I 43 7 = nI a.nt := self.2.2.2.2.2.1
theorem MR.htr {a : Ac} {w : Nat} {I A : mI} {B : mB} (self : MR a w I A B) : ∀ t, t < a.nt → A 48 t = nI (a.tr t) := self.2.2.2.2.2.2.1
theorem MR.htt {a : Ac} {w : Nat} {I A : mI} {B : mB} (self : MR a w I A B) : ∀ t, t < a.nt → A 49 t = nI (a.tt t) := self.2.2.2.2.2.2.2.1
theorem MR.hdb {a : Ac} {w : Nat} {I A : mI} {B : mB} (self : MR a w I A B) : ∀ k, k < 3 → A 50 k = nI (a.db k) := self.2.2.2.2.2.2.2.2.1
theorem MR.hnc {a : Ac} {w : Nat} {I A : mI} {B : mB} (self : MR a w I A B) : I 43 13 = nI a.nc := self.2.2.2.2.2.2.2.2.2.1
theorem MR.hcd {a : Ac} {w : Nat} {I A : mI} {B : mB} (self : MR a w I A B) : ∀ k, k < a.nc → A 51 k = nI (a.cd k) := self.2.2.2.2.2.2.2.2.2.2.1
theorem MR.hco {a : Ac} {w : Nat} {I A : mI} {B : mB} (self : MR a w I A B) : ∀ k, k < a.nc → A 52 k = nI (a.co k) := self.2.2.2.2.2.2.2.2.2.2.2.1
theorem MR.hcv {a : Ac} {w : Nat} {I A : mI} {B : mB} (self : MR a w I A B) : ∀ k, k < a.nc → A 53 k = nI (a.cv k) := self.2.2.2.2.2.2.2.2.2.2.2.2.1
theorem MR.hn {a : Ac} {w : Nat} {I A : mI} {B : mB} (self : MR a w I A B) : I 43 19 = nI a.n := self.2.2.2.2.2.2.2.2.2.2.2.2.2.1
theorem MR.hso {a : Ac} {w : Nat} {I A : mI} {B : mB} (self : MR a w I A B) : ∀ j, j < a.n → A 54 j = nI (a.so j) := self.2.2.2.2.2.2.2.2.2.2.2.2.2.2.1
theorem MR.ham {a : Ac} {w : Nat} {I A : mI} {B : mB} (self : MR a w I A B) : ∀ j, j < a.n → B 55 j = zL (a.am j) := self.2.2.2.2.2.2.2.2.2.2.2.2.2.2.2.1
theorem MR.hva {a : Ac} {w : Nat} {I A : mI} {B : mB} (self : MR a w I A B) : ∀ j, j < a.n → A 56 j = nI (a.va j) := self.2.2.2.2.2.2.2.2.2.2.2.2.2.2.2.2.1
theorem MR.hpg {a : Ac} {w : Nat} {I A : mI} {B : mB} (self : MR a w I A B) : ∀ j, j < a.n → A 57 j = nI (a.pg j) := self.2.2.2.2.2.2.2.2.2.2.2.2.2.2.2.2.2.1
theorem MR.hog {a : Ac} {w : Nat} {I A : mI} {B : mB} (self : MR a w I A B) : ∀ j, j < a.n → A 58 j = a.og j := self.2.2.2.2.2.2.2.2.2.2.2.2.2.2.2.2.2.2.1
theorem MR.hc {a : Ac} {w : Nat} {I A : mI} {B : mB} (self : MR a w I A B) : I 43 20 = nI a.c := self.2.2.2.2.2.2.2.2.2.2.2.2.2.2.2.2.2.2.2.1
theorem MR.hti {a : Ac} {w : Nat} {I A : mI} {B : mB} (self : MR a w I A B) : I 43 21 = fI a.ti := self.2.2.2.2.2.2.2.2.2.2.2.2.2.2.2.2.2.2.2.2.1
theorem MR.htb {a : Ac} {w : Nat} {I A : mI} {B : mB} (self : MR a w I A B) : a.ti ≠ none → I 43 22 = zN a.tb := self.2.2.2.2.2.2.2.2.2.2.2.2.2.2.2.2.2.2.2.2.2.1
theorem MR.hfo {a : Ac} {w : Nat} {I A : mI} {B : mB} (self : MR a w I A B) : I 43 23 = fI a.fo := self.2.2.2.2.2.2.2.2.2.2.2.2.2.2.2.2.2.2.2.2.2.2
theorem MR.mk {a : Ac} {w : Nat} {I A : mI} {B : mB} (h_hw : ash w = some (0, 606)) (h_w5 : w = 44 ∨ w = 45) (h_hP : A w 0 = nI a.P) (h_hN : A w 1 = nI a.N) (h_hK : 0 < a.N → A w 2 = nI a.K) (h_hnt : I 43 7 = nI a.nt) (h_htr : ∀ t, t < a.nt → A 48 t = nI (a.tr t)) (h_htt : ∀ t, t < a.nt → A 49 t = nI (a.tt t)) (h_hdb : ∀ k, k < 3 → A 50 k = nI (a.db k)) (h_hnc : I 43 13 = nI a.nc) (h_hcd : ∀ k, k < a.nc → A 51 k = nI (a.cd k)) (h_hco : ∀ k, k < a.nc → A 52 k = nI (a.co k)) (h_hcv : ∀ k, k < a.nc → A 53 k = nI (a.cv k)) (h_hn : I 43 19 = nI a.n) (h_hso : ∀ j, j < a.n → A 54 j = nI (a.so j)) (h_ham : ∀ j, j < a.n → B 55 j = zL (a.am j)) (h_hva : ∀ j, j < a.n → A 56 j = nI (a.va j)) (h_hpg : ∀ j, j < a.n → A 57 j = nI (a.pg j)) (h_hog : ∀ j, j < a.n → A 58 j = a.og j) (h_hc : I 43 20 = nI a.c) (h_hti : I 43 21 = fI a.ti) (h_htb : a.ti ≠ none → I 43 22 = zN a.tb) (h_hfo : I 43 23 = fI a.fo) : MR a w I A B := ⟨h_hw, h_w5, h_hP, h_hN, h_hK, h_hnt, h_htr, h_htt, h_hdb, h_hnc, h_hcd, h_hco, h_hcv, h_hn, h_hso, h_ham, h_hva, h_hpg, h_hog, h_hc, h_hti, h_htb, h_hfo⟩
theorem MR.fB {a : Ac} {w : Nat} {I A : mI} {B B' : mB} (M : MR a w I A B) (h : B' 55 = B 55) : MR a w I A B' :=
  (MR.mk (MR.hw M :) (MR.w5 M :) (MR.hP M :) (MR.hN M :) (MR.hK M :) (MR.hnt M :) (MR.htr M :) (MR.htt M :) (MR.hdb M :) (MR.hnc M :) (MR.hcd M :) (MR.hco M :) (MR.hcv M :) (MR.hn M :) (MR.hso M :) (fun j hj => by rw [h]; exact M.ham j hj) (MR.hva M :) (MR.hpg M :) (MR.hog M :) (MR.hc M :) (MR.hti M :) (MR.htb M :) (MR.hfo M :))
/-- what stays, whatever is asked of the reference -/
def fM (I A : mI) (B : mB) (I' A' : mI) (B' : mB) : Prop :=
  (∀ k, k ≤ 42 ∨ 65 ≤ k → I' k = I k ∧ A' k = A k ∧ B' k = B k) ∧
  (∀ j, j ≠ 7 → j ≠ 9 → j ≠ 13 → j ≠ 19 → j ≠ 20 → j ≠ 21 → j ≠ 22 → j ≠ 23 → I' 43 j = I 43 j) ∧
  (∀ r, r = 44 ∨ r = 45 ∨ r = 46 ∨ r = 47 ∨ r = 60 → A' r = A r)
theorem fM.out {I A : mI} {B : mB} {I' A' : mI} {B' : mB} (self : fM I A B I' A' B') : ∀ k, k ≤ 42 ∨ 65 ≤ k → I' k = I k ∧ A' k = A k ∧ B' k = B k := self.1
theorem fM.i43 {I A : mI} {B : mB} {I' A' : mI} {B' : mB} (self : fM I A B I' A' B') : ∀ j, j ≠ 7 → j ≠ 9 → j ≠ 13 → j ≠ 19 → j ≠ 20 → j ≠ 21 → j ≠ 22 → j ≠ 23 → I' 43 j = I 43 j := self.2.1
theorem fM.row {I A : mI} {B : mB} {I' A' : mI} {B' : mB} (self : fM I A B I' A' B') : ∀ r, r = 44 ∨ r = 45 ∨ r = 46 ∨ r = 47 ∨ r = 60 → A' r = A r := self.2.2
theorem fM.mk {I A : mI} {B : mB} {I' A' : mI} {B' : mB} (h_out : ∀ k, k ≤ 42 ∨ 65 ≤ k → I' k = I k ∧ A' k = A k ∧ B' k = B k) (h_i43 : ∀ j, j ≠ 7 → j ≠ 9 → j ≠ 13 → j ≠ 19 → j ≠ 20 → j ≠ 21 → j ≠ 22 → j ≠ 23 → I' 43 j = I 43 j) (h_row : ∀ r, r = 44 ∨ r = 45 ∨ r = 46 ∨ r = 47 ∨ r = 60 → A' r = A r) : fM I A B I' A' B' := ⟨h_out, h_i43, h_row⟩
theorem fM.refl (I A : mI) (B : mB) : fM I A B I A B := ⟨fun _ _ => ⟨rfl, rfl, rfl⟩, fun _ _ _ _ _ _ _ _ _ => rfl, fun _ _ => rfl⟩
theorem fM.trans {I A : mI} {B : mB} {I' A' : mI} {B' : mB} {I2 A2 : mI} {B2 : mB} (h : fM I A B I' A' B') (h2 : fM I' A' B' I2 A2 B2) : fM I A B I2 A2 B2 :=
  ⟨fun k hk => ⟨(h2.out k hk).1.trans (h.out k hk).1, (h2.out k hk).2.1.trans (h.out k hk).2.1, (h2.out k hk).2.2.trans (h.out k hk).2.2⟩,
   fun j a1 a2 a3 a4 a5 a6 a7 a8 => (h2.i43 j a1 a2 a3 a4 a5 a6 a7 a8).trans (h.i43 j a1 a2 a3 a4 a5 a6 a7 a8), fun r hr => (h2.row r hr).trans (h.row r hr)⟩
theorem fM.ofB {I A : mI} {B B' : mB} (h : ∀ r, r ≤ 42 ∨ 65 ≤ r → B' r = B r) : fM I A B I A B' := ⟨fun k hk => ⟨rfl, rfl, h k hk⟩, fun _ _ _ _ _ _ _ _ _ => rfl, fun _ _ => rfl⟩
theorem fM.b59 {I A : mI} {B B' : mB} (h : ∀ r, r ≠ 59 → B' r = B r) : fM I A B I A B' := fM.ofB (fun r hr => h r (by omega))
/-- an answer that leaves the account -/
def qM (a : Ac) (w f : Nat) (I A : mI) (B : mB) (R : mR) (v : Option Value) : Prop := ∀ I' A' B', MR a w I' A' B' → fM I A B I' A' B' → R v I' A' B' (pk w f)
theorem zhl_f {a : Ac} {d v : Nat} (h : a.fo = some v) : zhl a 6 d = v := by simp [zhl, h]
theorem zhl_t {a : Ac} {r d : Nat} (h : ¬ (r = 6 ∧ a.fo.isSome = true)) (h2 : a.ti = some r) : zhl a r d = if 0 < (zlt a r d a.nc).2 + a.tb then (zlt a r d a.nc).2 + a.tb else 0 := by
  unfold zhl
  rw [if_neg h, if_pos h2]
theorem zhl_n {a : Ac} {r d : Nat} (h : ¬ (r = 6 ∧ a.fo.isSome = true)) (h2 : ¬ a.ti = some r) : zhl a r d = (zlt a r d a.nc).2 := by
  unfold zhl
  rw [if_neg h, if_neg h2]
theorem fI_no {o : Option Nat} (h : ∀ v, o = some v → v < 2 ^ 31) : fI o = -1 ↔ o = none := by
  cases o with
  | none => exact ⟨fun _ => rfl, fun _ => rfl⟩
  | some v =>
    refine ⟨fun z => absurd z (fun e => ?_), fun z => by cases z⟩
    have := nI_pos (h v rfl)
    rw [show nI v = -1 from e] at this
    exact this (by decide)
theorem fI_so {o : Option Nat} {r : Nat} (h : ∀ v, o = some v → v < 2 ^ 31) (hr : r < 2 ^ 31) : nI r = fI o ↔ o = some r := by
  cases o with
  | none =>
    refine ⟨fun z => ?_, fun z => by cases z⟩
    have := nI_pos hr
    rw [show nI r = -1 from z] at this
    exact absurd (by decide) this
  | some v =>
    refine ⟨fun z => ?_, fun z => ?_⟩
    · have := (nI_eq hr (h v rfl)).mp z
      rw [this]
    · cases z
      rfl
theorem zsm_m {g : Nat → Int} {h : Nat → Int64} : ∀ {n : Nat}, (∀ i, i < n → h i = zL (g i)) → sm h n = zL (zsm g n)
  | 0, _ => rfl
  | n + 1, e => by rw [sm, zsm, zsm_m (fun i hi => e i (by omega)), e n (by omega)]; exact (Int64.ofInt_add _ _).symm
theorem zL_add {x y : Int} : zL x + zL y = zL (x + y) := (Int64.ofInt_add x y).symm
theorem zL_sub {x y : Int} : zL x - zL y = zL (x - y) := (Int64.ofInt_sub x y).symm
theorem zL_mul {x y : Int} : zL x * zL y = zL (x * y) := (Int64.ofInt_mul x y).symm
theorem zL_neg {x : Int} : -zL x = zL (-x) := (Int64.ofInt_neg x).symm
theorem nI_z (n : Nat) : nI n = zN n := (zn_nI n).symm
theorem nL {n : Nat} (h : n < 2 ^ 31) : (nI n).toInt64 = zL n := by rw [nI_z, zn_l (by omega) (by omega)]
theorem zl_min {x y : Int} (h1 : -2 ^ 63 ≤ x) (h2 : x < 2 ^ 63) (h3 : -2 ^ 63 ≤ y) (h4 : y < 2 ^ 63) : (if zL x < zL y then zL x else zL y) = zL (if x < y then x else y) := by
  by_cases h : x < y
  · rw [if_pos h, if_pos ((zl_lt h1 h2 h3 h4).mpr h)]
  · rw [if_neg h, if_neg (fun z => h ((zl_lt h1 h2 h3 h4).mp z))]
theorem zl_max0 {x : Int} (h1 : -2 ^ 63 ≤ x) (h2 : x < 2 ^ 63) : (if zL x < 0 then 0 else zL x) = zL (if x < 0 then 0 else x) := by
  by_cases h : x < 0
  · rw [if_pos h, if_pos ((zl_lt0 h1 h2).mpr h)]
    rfl
  · rw [if_neg h, if_neg (fun z => h ((zl_lt0 h1 h2).mp z))]
theorem zpt_w {a : Ac} {d : Nat} {b : Int} (h : b < 0) : zpt a d b (a.nt + 1) = if zhl a 6 d < -b then zhl a 6 d else -b := by
  simp only [zpt, zwi, zod, if_pos h]
  rw [if_pos (Nat.lt_succ_self _), if_neg (c := -b = 0) (by omega)]
  exact if_pos trivial
theorem zpt_o {a : Ac} {d t : Nat} {b : Int} (h : b < 0) (ht : a.nt < t) (ht2 : ¬ t = a.nt + 1) : zpt a d b t = -b - (if zhl a 6 d < -b then zhl a 6 d else -b) := by
  simp only [zpt, zwi, zod, if_pos h]
  rw [if_pos (by omega), if_neg (by omega), if_neg (by omega)]
theorem zpt_p {a : Ac} {d t : Nat} {b : Int} (h : ¬ b < 0) (ht : a.nt < t) : zpt a d b t = 0 := by
  simp only [zpt, zwi, zod, if_neg h]
  rw [if_pos ht]
  split <;> simp
theorem zpt_0 {a : Ac} {d t : Nat} {b : Int} (h : b ≤ 0) (ht : ¬ a.nt < t) : zpt a d b t = 0 := by
  simp only [zpt]
  rw [if_neg ht, if_pos h]
theorem zpt_z {a : Ac} {d t : Nat} {b : Int} (h : ¬ b ≤ 0) (ht : ¬ a.nt < t) (h0 : 0 < t) (h1 : a.tt (t - 1) = 0) : zpt a d b t = 0 := by
  simp only [zpt]
  rw [if_neg ht, if_neg h, if_pos ⟨h0, h1⟩]
theorem zpt_a {a : Ac} {d t : Nat} {b : Int} (h : ¬ b ≤ 0) (ht : ¬ a.nt < t) (h0 : ¬ (0 < t ∧ a.tt (t - 1) = 0)) (h1 : t < a.nt ∧ 0 < a.tt t) : zpt a d b t = (if (a.tt t : Int) - zfr a t < zab a b t then (a.tt t : Int) - zfr a t else zab a b t) := by
  simp only [zpt]
  rw [if_neg ht, if_neg h, if_neg h0, if_pos h1]
theorem zpt_u {a : Ac} {d t : Nat} {b : Int} (h : ¬ b ≤ 0) (ht : ¬ a.nt < t) (h0 : ¬ (0 < t ∧ a.tt (t - 1) = 0)) (h1 : ¬ (t < a.nt ∧ 0 < a.tt t)) : zpt a d b t = zab a b t := by
  simp only [zpt]
  rw [if_neg ht, if_neg h, if_neg h0, if_neg h1]
/-- the row of balances, by the first k entries, not yet summed up -/
def lyD (a : Ac) (k j : Nat) : Int := zsm (fun e => if (if a.va e < 320 then a.va e else 320) = j then a.am e else 0) k
def lyR (a : Ac) (B : mB) (k : Nat) : mB := fun r j => if r = 59 ∧ j < 321 then zL (lyD a k j) else B r j
/-- its first m places summed up -/
def lyS (a : Ac) (B : mB) (m : Nat) : mB := fun r j => if r = 59 ∧ j < 321 then (if j < m then zL (zsm (lyD a a.n) (j + 1)) else zL (lyD a a.n j)) else B r j
theorem lyR_b {a : Ac} {B : mB} {k r : Nat} (h : r ≠ 59) : lyR a B k r = B r := by
  funext j
  show (if r = 59 ∧ j < 321 then _ else _) = _
  rw [if_neg (fun z => h z.1)]
theorem lyS_b {a : Ac} {B : mB} {k r : Nat} (h : r ≠ 59) : lyS a B k r = B r := by
  funext j
  show (if r = 59 ∧ j < 321 then _ else _) = _
  rw [if_neg (fun z => h z.1)]
theorem lyR_in {a : Ac} {B : mB} {k j : Nat} (h : j < 321) : lyR a B k 59 j = zL (lyD a k j) := if_pos ⟨rfl, h⟩
theorem lyS_in {a : Ac} {B : mB} {m j : Nat} (h : j < 321) : lyS a B m 59 j = (if j < m then zL (zsm (lyD a a.n) (j + 1)) else zL (lyD a a.n j)) := if_pos ⟨rfl, h⟩
theorem lyR_s {a : Ac} {B : mB} {k v : Nat} (hv : v = if a.va k < 320 then a.va k else 320) : up2 (lyR a B k) 59 v (lyR a B k 59 v + zL (a.am k)) = lyR a B (k + 1) := by
  have hv2 : v < 321 := by rw [hv]; split <;> omega
  funext r j
  by_cases hr : r = 59
  · subst hr
    by_cases hj : j = v
    · subst hj
      show (if 59 = 59 ∧ j = j then _ else _) = _
      rw [if_pos ⟨rfl, rfl⟩, lyR_in hv2, lyR_in hv2, zL_add]
      show _ = zL (lyD a k j + (if (if a.va k < 320 then a.va k else 320) = j then a.am k else 0))
      rw [if_pos hv.symm]
    · show (if 59 = 59 ∧ j = v then _ else lyR a B k 59 j) = _
      rw [if_neg (fun z => hj z.2)]
      by_cases h3 : j < 321
      · rw [lyR_in h3, lyR_in h3]
        show _ = zL (lyD a k j + (if (if a.va k < 320 then a.va k else 320) = j then a.am k else 0))
        rw [if_neg (c := (if a.va k < 320 then a.va k else 320) = j) (fun z => hj (z.symm.trans hv.symm)), Int.add_zero]
      · show (if 59 = 59 ∧ j < 321 then _ else _) = (if 59 = 59 ∧ j < 321 then _ else _)
        rw [if_neg (fun z => h3 z.2), if_neg (fun z => h3 z.2)]
  · show (if r = 59 ∧ j = v then _ else lyR a B k r j) = _
    rw [if_neg (fun z => hr z.1), lyR_b hr, lyR_b hr]
theorem lyS_1 {a : Ac} {B : mB} : lyR a B a.n = lyS a B 1 := by
  funext r j
  by_cases hr : r = 59
  · subst hr
    by_cases h3 : j < 321
    · rw [lyR_in h3, lyS_in h3]
      by_cases hj : j < 1
      · rw [if_pos hj, show j = 0 by omega]
        show _ = zL (0 + lyD a a.n 0)
        rw [Int.zero_add]
      · rw [if_neg hj]
    · show (if 59 = 59 ∧ j < 321 then _ else _) = (if 59 = 59 ∧ j < 321 then _ else _)
      rw [if_neg (fun z => h3 z.2), if_neg (fun z => h3 z.2)]
  · rw [lyR_b hr, lyS_b hr]
theorem lyS_s {a : Ac} {B : mB} {m : Nat} (h : 1 + m < 321) : up2 (lyS a B (1 + m)) 59 (1 + m) (lyS a B (1 + m) 59 (1 + m) + lyS a B (1 + m) 59 m) = lyS a B (1 + m + 1) := by
  funext r j
  by_cases hr : r = 59
  · subst hr
    by_cases hj : j = 1 + m
    · subst hj
      show (if 59 = 59 ∧ 1 + m = 1 + m then _ else _) = _
      rw [if_pos ⟨rfl, rfl⟩, lyS_in h, lyS_in (j := m) (by omega), lyS_in h, if_neg (by omega), if_pos (by omega), if_pos (by omega), zL_add, show 1 + m + 1 = m + 1 + 1 by omega, show 1 + m = m + 1 by omega, Int.add_comm]
      rfl
    · show (if 59 = 59 ∧ j = 1 + m then _ else lyS a B (1 + m) 59 j) = _
      rw [if_neg (fun z => hj z.2)]
      by_cases h3 : j < 321
      · rw [lyS_in h3, lyS_in h3]
        by_cases h4 : j < 1 + m
        · rw [if_pos h4, if_pos (by omega)]
        · rw [if_neg h4, if_neg (by omega)]
      · show (if 59 = 59 ∧ j < 321 then _ else _) = (if 59 = 59 ∧ j < 321 then _ else _)
        rw [if_neg (fun z => h3 z.2), if_neg (fun z => h3 z.2)]
  · show (if r = 59 ∧ j = 1 + m then _ else lyS a B (1 + m) r j) = _
    rw [if_neg (fun z => hr z.1), lyS_b hr, lyS_b hr]
theorem ly_sum {a : Ac} {d : Nat} (hd : d < 320) : ∀ n, zsm (lyD a n) (d + 1) = zsm (fun j => if a.va j ≤ d then a.am j else 0) n
  | 0 => zsm_z (fun i _ => rfl)
  | n + 1 => by
    have e : zsm (lyD a (n + 1)) (d + 1) = zsm (lyD a n) (d + 1) + zsm (fun j => if (if a.va n < 320 then a.va n else 320) = j then a.am n else 0) (d + 1) := (zsm_congr (fun i _ => rfl)).trans zsm_add
    rw [e, ly_sum hd n]
    show _ = _ + _
    congr 1
    show _ = (if a.va n ≤ d then a.am n else 0)
    by_cases h : a.va n ≤ d
    · rw [if_pos h]
      have hv : (if a.va n < 320 then a.va n else 320) = a.va n := if_pos (by omega)
      rw [hv]
      exact (zsm_one (e := a.va n) (by omega) (fun i hi hne => if_neg (fun z => hne z.symm))).trans (if_pos rfl)
    · rw [if_neg h]
      exact zsm_z (fun i hi => if_neg (by split <;> omega))
theorem lyS_e {a : Ac} {B : mB} {d : Nat} (hd : d < 320) : lyS a B 321 59 d = zL (zbl a d) := by
  rw [lyS_in (by omega), if_pos (by omega), ly_sum hd]
  rfl
