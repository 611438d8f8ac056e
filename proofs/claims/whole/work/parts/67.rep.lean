/-! scripts that can be replayed -/
def Rp (P N K : Nat) (rw : Nat → Rw) (m : Nat) : Prop :=
  (∀ k, k < m → Ok (zrn P N K rw k) (rw k)) ∧
  (∀ k, k ≤ m → Gd (zrn P N K rw k)) ∧
  (∀ k, k ≤ m → Ch (zrn P N K rw k)) ∧
  (∀ k, k < m → (3 ≤ (rw k).1 → (zrn P N K rw k).n < 220) ∧ ((rw k).1 = 5 → (zrn P N K rw k).n + 8 ≤ 220)) ∧
  (∀ k, k ≤ m → (zrn P N K rw k).nc ≤ 32) ∧
  (P ≤ 40) ∧
  (N ≤ 8)
theorem Rp.ok {P N K : Nat} {rw : Nat → Rw} {m : Nat} (self : Rp P N K rw m) : ∀ k, k < m → Ok (zrn P N K rw k) (rw k) := self.1
theorem Rp.gd {P N K : Nat} {rw : Nat → Rw} {m : Nat} (self : Rp P N K rw m) : ∀ k, k ≤ m → Gd (zrn P N K rw k) := self.2.1
theorem Rp.ch {P N K : Nat} {rw : Nat → Rw} {m : Nat} (self : Rp P N K rw m) : ∀ k, k ≤ m → Ch (zrn P N K rw k) := self.2.2.1
theorem Rp.nn {P N K : Nat} {rw : Nat → Rw} {m : Nat} (self : Rp P N K rw m) : ∀ k, k < m → (3 ≤ (rw k).1 → (zrn P N K rw k).n < 220) ∧ ((rw k).1 = 5 → (zrn P N K rw k).n + 8 ≤ 220) := self.2.2.2.1
theorem Rp.nc {P N K : Nat} {rw : Nat → Rw} {m : Nat} (self : Rp P N K rw m) : ∀ k, k ≤ m → (zrn P N K rw k).nc ≤ 32 := self.2.2.2.2.1
theorem Rp.P40 {P N K : Nat} {rw : Nat → Rw} {m : Nat} (self : Rp P N K rw m) : P ≤ 40 := self.2.2.2.2.2.1
theorem Rp.N8 {P N K : Nat} {rw : Nat → Rw} {m : Nat} (self : Rp P N K rw m) : N ≤ 8 := self.2.2.2.2.2.2
theorem Rp.mk {P N K : Nat} {rw : Nat → Rw} {m : Nat} (h_ok : ∀ k, k < m → Ok (zrn P N K rw k) (rw k)) (h_gd : ∀ k, k ≤ m → Gd (zrn P N K rw k)) (h_ch : ∀ k, k ≤ m → Ch (zrn P N K rw k)) (h_nn : ∀ k, k < m → (3 ≤ (rw k).1 → (zrn P N K rw k).n < 220) ∧ ((rw k).1 = 5 → (zrn P N K rw k).n + 8 ≤ 220)) (h_nc : ∀ k, k ≤ m → (zrn P N K rw k).nc ≤ 32) (h_P40 : P ≤ 40) (h_N8 : N ≤ 8) : Rp P N K rw m := ⟨h_ok, h_gd, h_ch, h_nn, h_nc, h_P40, h_N8⟩
theorem Rp.le {P N K : Nat} {rw : Nat → Rw} {m m' : Nat} (h : Rp P N K rw m) (hm : m' ≤ m) : Rp P N K rw m' :=
  ⟨fun k hk => h.ok k (by omega), fun k hk => h.gd k (by omega), fun k hk => h.ch k (by omega), fun k hk => h.nn k (by omega), fun k hk => h.nc k (by omega), h.P40, h.N8⟩
theorem Rp.of {P N K : Nat} {rw : Nat → Rw} {m : Nat} (hP : P ≤ 40) (hN : N ≤ 8) (hK1 : 1 ≤ K) (hK4 : K ≤ 4) (hv : ∀ i, i < m → Vr P N rw i) : Rp P N K rw m := by
  have h := iv_run (K := K) hP hN hK1 hK4 hv
  refine ⟨fun k hk => (iv_ok (h k (by omega)) (hv k hk)).1, fun k hk => (h k hk).G, fun k hk => (h k hk).H, fun k hk => ?_, fun k hk => (h k hk).nc32, hP, hN⟩
  have g := iv_ok (h k (by omega)) (hv k hk)
  exact ⟨g.2.1, g.2.2.1⟩
theorem Rp.PN {P N K : Nat} {rw : Nat → Rw} {m : Nat} (h : Rp P N K rw m) : P * N ≤ 320 := Nat.le_trans (Nat.mul_le_mul h.P40 h.N8) (by decide)
theorem ScR.ac {o c : Nat} {I A : mI} {P N K L T m m' : Nat} {rw : Nat → Rw} (S : ScR o c I A P N K L T m rw) (h1 : T ≤ m') (h2 : m' ≤ m) {x : Int32} (ex : x = nI (m' - T)) : ScR o c (up2 I o 2 x) A P N K L T m' rw :=
  ⟨(up2_m (by decide)).trans S.hL, up2_s.trans ex, h1, S.h0, fun h => by have := S.hz h; omega, fun k hk => S.hr k (by omega)⟩
theorem fP.fS {I A : mI} {B : mB} {I1 I' A' : mI} {B' : mB} (h : fP I1 A B I' A' B') (hI : ∀ k, k ≠ 7 → I1 k = I k) : fS I A B I' A' B' :=
  ⟨fun k a0 a1 a2 a3 => (h.1 k a1 a2 a3).trans (hI k a0), fun k a0 a1 => h.2.1 k a1, h.2.2⟩
theorem WdR.ac {w : Nat} {A : mI} {L T m m' : Nat} {rw : Nat → Rw} (W : WdR w A L T m rw) (h2 : m' ≤ m) {x : Int32} (ex : x = nI m') : WdR w (up2 A w 5 x) L T m' rw := by
  refine ⟨(up2_m (by decide)).trans W.h3, (up2_m (by decide)).trans W.h4, up2_s.trans ex, fun k hk => ?_⟩
  obtain ⟨g0, g1, g2, g3⟩ := W.hr k (by omega)
  exact ⟨(up2_m (by omega)).trans g0, (up2_m (by omega)).trans g1, (up2_m (by omega)).trans g2, (up2_m (by omega)).trans g3⟩
/-- a script replayed: what is asked of each side's store behind -/
def qZ (P N K L T m : Nat) (rw : Nat → Rw) (w f : Nat) (I A : mI) (B : mB) (R : mR) (v : Value) : Prop := ∀ I' A' B', CR (zrn P N K rw m) I' A' B' → ScR 7 8 I' A' P N K L T m rw → fS I A B I' A' B' → R (some v) I' A' B' (pk w f)
def qY (P N K L T m : Nat) (rw : Nat → Rw) (w f : Nat) (I A : mI) (B : mB) (R : mR) (v : Value) : Prop := ∀ I' A' B', MR (zrn P N K rw m) w I' A' B' → WdR w A' L T m rw → fA w I A B I' A' B' → R (some v) I' A' B' (pk w f)
theorem fA.w5 {w : Nat} {I A : mI} {B : mB} {j : Nat} {x : Int32} (h5 : w = 44 ∨ w = 45) : fA w I A B I (up2 A w j x) B := ⟨fun k hk => ⟨rfl, up2_r (by omega), rfl⟩, fun _ _ _ _ _ _ _ _ _ => rfl, fun r hn _ => up2_r hn⟩
/-- what the class keeps, whatever is asked or done, but for its readings and images -/
def fK (I A : mI) (B : mB) (I' A' : mI) (B' : mB) : Prop :=
  (∀ k, k ≠ 7 → k ≠ 16 → k ≠ 17 → k ≠ 29 → I' k = I k) ∧
  (∀ k, k ≠ 8 → k < 19 ∨ 42 < k → A' k = A k) ∧
  (∀ k, 42 < k → B' k = B k)
theorem fK.ir {I A : mI} {B : mB} {I' A' : mI} {B' : mB} (self : fK I A B I' A' B') : ∀ k, k ≠ 7 → k ≠ 16 → k ≠ 17 → k ≠ 29 → I' k = I k := self.1
theorem fK.ar {I A : mI} {B : mB} {I' A' : mI} {B' : mB} (self : fK I A B I' A' B') : ∀ k, k ≠ 8 → k < 19 ∨ 42 < k → A' k = A k := self.2.1
theorem fK.br {I A : mI} {B : mB} {I' A' : mI} {B' : mB} (self : fK I A B I' A' B') : ∀ k, 42 < k → B' k = B k := self.2.2
theorem fK.mk {I A : mI} {B : mB} {I' A' : mI} {B' : mB} (h_ir : ∀ k, k ≠ 7 → k ≠ 16 → k ≠ 17 → k ≠ 29 → I' k = I k) (h_ar : ∀ k, k ≠ 8 → k < 19 ∨ 42 < k → A' k = A k) (h_br : ∀ k, 42 < k → B' k = B k) : fK I A B I' A' B' := ⟨h_ir, h_ar, h_br⟩
theorem fK.refl (I A : mI) (B : mB) : fK I A B I A B := ⟨fun _ _ _ _ _ => rfl, fun _ _ _ => rfl, fun _ _ => rfl⟩
theorem fK.trans {I A : mI} {B : mB} {I' A' : mI} {B' : mB} {I2 A2 : mI} {B2 : mB} (h : fK I A B I' A' B') (g : fK I' A' B' I2 A2 B2) : fK I A B I2 A2 B2 :=
  ⟨fun k a0 a1 a2 a3 => (g.ir k a0 a1 a2 a3).trans (h.ir k a0 a1 a2 a3), fun k a1 hk => (g.ar k a1 hk).trans (h.ar k a1 hk), fun k a1 => (g.br k a1).trans (h.br k a1)⟩
theorem fS.fK {I A : mI} {B : mB} {I' A' : mI} {B' : mB} (h : fS I A B I' A' B') : fK I A B I' A' B' := ⟨h.ir, fun k a0 a1 => h.ar k a0 (by omega), fun k hk => h.br k (by omega) (by omega)⟩
theorem fC.fK {I A : mI} {B : mB} {A' : mI} {B' : mB} (h : fC A B A' B') : fK I A B I A' B' := ⟨fun _ _ _ _ _ => rfl, fun k a0 a1 => h.ar k (by omega), fun k hk => h.br k (by omega) (by omega)⟩
theorem fP.fK {I A : mI} {B : mB} {I' A' : mI} {B' : mB} (h : fP I A B I' A' B') : fK I A B I' A' B' := ⟨fun k a0 a1 a2 a3 => h.1 k a1 a2 a3, fun k a0 a1 => h.2.1 k (by omega), fun k hk => h.2.2 k (by omega) (by omega)⟩
theorem ScR.fP {I A : mI} {B : mB} {I' A' : mI} {B' : mB} {P N K L T m : Nat} {rw : Nat → Rw} (S : ScR 7 8 I A P N K L T m rw) (h : fP I A B I' A' B') : ScR 7 8 I' A' P N K L T m rw := S.fr (h.1 7 (by decide) (by decide) (by decide)) (h.2.1 8 (by omega))
def qK (P N K L T m : Nat) (rw : Nat → Rw) (w f : Nat) (I A : mI) (B : mB) (R : mR) (v : Value) : Prop := ∀ I' A' B', CR (zrn P N K rw m) I' A' B' → ScR 7 8 I' A' P N K L T m rw → fK I A B I' A' B' → R (some v) I' A' B' (pk w f)
/-- what would be settled, were the cycle k -/
def an_cpd (P N K : Nat) (rw : Nat → Rw) (m : Nat) (k : Nat) : Int64 := an_settled (zrn P N k rw m) true - an_settled (zrn P N K rw m) true
