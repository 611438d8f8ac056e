/-! rows as the class has them -/
def CRow (c : Nat) (A : mI) (k : Nat) (r : Rw) : Prop := A c (4 * (k + 1)) = nI (r.1 + 1) ∧ A c (4 * (k + 1) + 1) = nI r.2.1 ∧ A c (4 * (k + 1) + 2) = (if r.1 = 0 ∧ r.2.2.1 = 0 then -1 else zN r.2.2.1) ∧ A c (4 * (k + 1) + 3) = nI r.2.2.2
/-- the class's scripts (objects o, cells c): lines L, acts m - T, rows -/
def ScR (o c : Nat) (I A : mI) (P N K L T m : Nat) (rw : Nat → Rw) : Prop :=
  (I o 1 = nI L) ∧
  (I o 2 = nI (m - T)) ∧
  (T ≤ m) ∧
  (0 < L → L = T + 1 ∧ A c 1 = nI P ∧ A c 2 = nI N ∧ A c 3 = nI K) ∧
  (L = 0 → m = 0 ∧ T = 0) ∧
  (∀ k, k < m → CRow c A k (rw k))
theorem ScR.hL {o c : Nat} {I A : mI} {P N K L T m : Nat} {rw : Nat → Rw} (self : ScR o c I A P N K L T m rw) : I o 1 = nI L := self.1
theorem ScR.ha {o c : Nat} {I A : mI} {P N K L T m : Nat} {rw : Nat → Rw} (self : ScR o c I A P N K L T m rw) : I o 2 = nI (m - T) := self.2.1
theorem ScR.hT {o c : Nat} {I A : mI} {P N K L T m : Nat} {rw : Nat → Rw} (self : ScR o c I A P N K L T m rw) : T ≤ m := self.2.2.1
theorem ScR.h0 {o c : Nat} {I A : mI} {P N K L T m : Nat} {rw : Nat → Rw} (self : ScR o c I A P N K L T m rw) : 0 < L → L = T + 1 ∧ A c 1 = nI P ∧ A c 2 = nI N ∧ A c 3 = nI K := self.2.2.2.1
theorem ScR.hz {o c : Nat} {I A : mI} {P N K L T m : Nat} {rw : Nat → Rw} (self : ScR o c I A P N K L T m rw) : L = 0 → m = 0 ∧ T = 0 := self.2.2.2.2.1
theorem ScR.hr {o c : Nat} {I A : mI} {P N K L T m : Nat} {rw : Nat → Rw} (self : ScR o c I A P N K L T m rw) : ∀ k, k < m → CRow c A k (rw k) := self.2.2.2.2.2
theorem ScR.mk {o c : Nat} {I A : mI} {P N K L T m : Nat} {rw : Nat → Rw} (h_hL : I o 1 = nI L) (h_ha : I o 2 = nI (m - T)) (h_hT : T ≤ m) (h_h0 : 0 < L → L = T + 1 ∧ A c 1 = nI P ∧ A c 2 = nI N ∧ A c 3 = nI K) (h_hz : L = 0 → m = 0 ∧ T = 0) (h_hr : ∀ k, k < m → CRow c A k (rw k)) : ScR o c I A P N K L T m rw := ⟨h_hL, h_ha, h_hT, h_h0, h_hz, h_hr⟩
/-- what rows leave of the class as it was -/
def fR (I A : mI) (B : mB) (I' A' : mI) (B' : mB) : Prop :=
  (∀ k, k ≠ 16 → k ≠ 17 → k ≠ 29 → I' k = I k) ∧
  (I' 16 4 = I 16 4 ∧ I' 16 5 = I 16 5 ∧ I' 16 6 = I 16 6) ∧
  (∀ k, k < 19 ∨ 36 < k → A' k = A k) ∧
  (∀ k, k ≠ 31 → k ≠ 36 → B' k = B k)
theorem fR.ir {I A : mI} {B : mB} {I' A' : mI} {B' : mB} (self : fR I A B I' A' B') : ∀ k, k ≠ 16 → k ≠ 17 → k ≠ 29 → I' k = I k := self.1
theorem fR.i16 {I A : mI} {B : mB} {I' A' : mI} {B' : mB} (self : fR I A B I' A' B') : I' 16 4 = I 16 4 ∧ I' 16 5 = I 16 5 ∧ I' 16 6 = I 16 6 := self.2.1
theorem fR.ar {I A : mI} {B : mB} {I' A' : mI} {B' : mB} (self : fR I A B I' A' B') : ∀ k, k < 19 ∨ 36 < k → A' k = A k := self.2.2.1
theorem fR.br {I A : mI} {B : mB} {I' A' : mI} {B' : mB} (self : fR I A B I' A' B') : ∀ k, k ≠ 31 → k ≠ 36 → B' k = B k := self.2.2.2
theorem fR.mk {I A : mI} {B : mB} {I' A' : mI} {B' : mB} (h_ir : ∀ k, k ≠ 16 → k ≠ 17 → k ≠ 29 → I' k = I k) (h_i16 : I' 16 4 = I 16 4 ∧ I' 16 5 = I 16 5 ∧ I' 16 6 = I 16 6) (h_ar : ∀ k, k < 19 ∨ 36 < k → A' k = A k) (h_br : ∀ k, k ≠ 31 → k ≠ 36 → B' k = B k) : fR I A B I' A' B' := ⟨h_ir, h_i16, h_ar, h_br⟩
theorem fR.refl (I A : mI) (B : mB) : fR I A B I A B := ⟨fun _ _ _ _ => rfl, ⟨rfl, rfl, rfl⟩, fun _ _ => rfl, fun _ _ _ => rfl⟩
theorem fR.trans {I A : mI} {B : mB} {I' A' : mI} {B' : mB} {I2 A2 : mI} {B2 : mB} (h : fR I A B I' A' B') (g : fR I' A' B' I2 A2 B2) : fR I A B I2 A2 B2 :=
  ⟨fun k a1 a2 a3 => (g.ir k a1 a2 a3).trans (h.ir k a1 a2 a3), ⟨g.i16.1.trans h.i16.1, g.i16.2.1.trans h.i16.2.1, g.i16.2.2.trans h.i16.2.2⟩, fun k hk => (g.ar k hk).trans (h.ar k hk), fun k a1 a2 => (g.br k a1 a2).trans (h.br k a1 a2)⟩
theorem fR.en {I A : mI} {B : mB} {n v p D : Nat} {x xs xv xc o : Int32} {xm ym : Int64} : fR I A B (up2 I 29 6 x) (up1 (adA A n xs xv xc o) 35 (insr (A 35) p n)) (shf (up2 B 31 n xm) 36 v ym D) := by
  refine ⟨fun k a1 a2 a3 => up2_r a3, ⟨up2_n (by decide), up2_n (by decide), up2_n (by decide)⟩, fun k hk => ?_, fun k a1 a2 => ?_⟩
  · funext j
    show (if k = 35 then _ else _) = _
    rw [if_neg (by omega)]
    unfold adA
    rw [up2_n (by omega), up2_n (by omega), up2_n (by omega), up2_n (by omega)]
  · rw [shf_b a2, up2_r a1]
theorem fR.i {I A : mI} {B : mB} {k j : Nat} {x : Int32} (h : k = 16 ∧ j = 7 ∨ k = 17) : fR I A B (up2 I k j x) A B :=
  ⟨fun q a1 a2 a3 => up2_r (by omega), ⟨if_neg (by omega), if_neg (by omega), if_neg (by omega)⟩, fun _ _ => rfl, fun _ _ _ => rfl⟩
theorem fR.a {I A A' : mI} {B : mB} (h : ∀ k, k < 19 ∨ 36 < k → A' k = A k) : fR I A B I A' B := ⟨fun _ _ _ _ => rfl, ⟨rfl, rfl, rfl⟩, h, fun _ _ _ => rfl⟩
def qR (a : Ac) (w f : Nat) (I A : mI) (B : mB) (R : mR) : Prop := ∀ I' A' B', CR a I' A' B' → fR I A B I' A' B' → R none I' A' B' (pk w f)
