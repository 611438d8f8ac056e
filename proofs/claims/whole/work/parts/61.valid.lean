/-! rows that may stand, and what they make, whatever K is -/
def ctk (rw : Nat → Rw) (q k : Nat) : Nat := ct (fun i => decide ((rw i).1 = q)) k
theorem ctk_s {rw : Nat → Rw} {q k : Nat} : ctk rw q (k + 1) = ctk rw q k + (if (rw k).1 = q then 1 else 0) := by
  show ct _ k + (if decide ((rw k).1 = q) = true then 1 else 0) = _
  by_cases h : (rw k).1 = q
  · rw [if_pos h, if_pos (decide_eq_true h)]; rfl
  · rw [if_neg h, if_neg (by simpa using h)]; rfl
/-- what a row asks of those ahead -/
def Vr (P N : Nat) (rw : Nat → Rw) (i : Nat) : Prop :=
  ((rw i).1 ≤ 6) ∧
  ((rw i).1 = 0 → ctk rw 0 i < 4 ∧ (rw i).2.1 ≤ 5000 ∧ 0 ≤ (rw i).2.2.1 ∧ (rw i).2.2.1 ≤ 99999) ∧
  ((rw i).1 = 0 → ∀ j, j < i → (rw j).1 = 0 → 0 < (rw j).2.2.1 ∧ ((rw i).2.2.1 = 0 ∨ (rw j).2.2.1 < (rw i).2.2.1)) ∧
  ((rw i).1 = 1 → (rw i).2.1 ≤ 5000 ∧ 0 ≤ (rw i).2.2.1 ∧ (rw i).2.2.1 ≤ 5000 ∧ (rw i).2.2.2 ≤ 99999) ∧
  ((rw i).1 = 2 → ctk rw 2 i < 32 ∧ (rw i).2.1 < P * N ∧ 0 ≤ (rw i).2.2.1 ∧ ((rw i).2.2.1 < ctk rw 0 i ∨ 4 ≤ (rw i).2.2.1 ∧ (rw i).2.2.1 ≤ 6) ∧ (rw i).2.2.2 ≤ 99999 ∧ ((rw i).2.2.1 ≠ 6 → (rw i).2.2.2 ≤ 5000)) ∧
  ((rw i).1 = 3 → (rw i).2.1 < P * N ∧ -99999 ≤ (rw i).2.2.1 ∧ (rw i).2.2.1 ≤ 99999) ∧
  (3 ≤ (rw i).1 → ctk rw 4 i < N) ∧
  ((rw i).1 = 6 → (rw i).2.1 < ctk rw 3 i ∧ ∀ j, j < i → (rw j).1 = 6 → (rw j).2.1 ≠ (rw i).2.1) ∧
  (ctk rw 3 (i + 1) + ctk rw 6 (i + 1) + 7 * ctk rw 5 (i + 1) ≤ 212) ∧
  (ctk rw 3 (i + 1) + ctk rw 6 (i + 1) ≤ 60)
theorem Vr.k6 {P N : Nat} {rw : Nat → Rw} {i : Nat} (self : Vr P N rw i) : (rw i).1 ≤ 6 := self.1
theorem Vr.t0 {P N : Nat} {rw : Nat → Rw} {i : Nat} (self : Vr P N rw i) : (rw i).1 = 0 → ctk rw 0 i < 4 ∧ (rw i).2.1 ≤ 5000 ∧ 0 ≤ (rw i).2.2.1 ∧ (rw i).2.2.1 ≤ 99999 := self.2.1
theorem Vr.t1 {P N : Nat} {rw : Nat → Rw} {i : Nat} (self : Vr P N rw i) : (rw i).1 = 0 → ∀ j, j < i → (rw j).1 = 0 → 0 < (rw j).2.2.1 ∧ ((rw i).2.2.1 = 0 ∨ (rw j).2.2.1 < (rw i).2.2.1) := self.2.2.1
theorem Vr.d0 {P N : Nat} {rw : Nat → Rw} {i : Nat} (self : Vr P N rw i) : (rw i).1 = 1 → (rw i).2.1 ≤ 5000 ∧ 0 ≤ (rw i).2.2.1 ∧ (rw i).2.2.1 ≤ 5000 ∧ (rw i).2.2.2 ≤ 99999 := self.2.2.2.1
theorem Vr.c0 {P N : Nat} {rw : Nat → Rw} {i : Nat} (self : Vr P N rw i) : (rw i).1 = 2 → ctk rw 2 i < 32 ∧ (rw i).2.1 < P * N ∧ 0 ≤ (rw i).2.2.1 ∧ ((rw i).2.2.1 < ctk rw 0 i ∨ 4 ≤ (rw i).2.2.1 ∧ (rw i).2.2.1 ≤ 6) ∧ (rw i).2.2.2 ≤ 99999 ∧ ((rw i).2.2.1 ≠ 6 → (rw i).2.2.2 ≤ 5000) := self.2.2.2.2.1
theorem Vr.e0 {P N : Nat} {rw : Nat → Rw} {i : Nat} (self : Vr P N rw i) : (rw i).1 = 3 → (rw i).2.1 < P * N ∧ -99999 ≤ (rw i).2.2.1 ∧ (rw i).2.2.1 ≤ 99999 := self.2.2.2.2.2.1
theorem Vr.op {P N : Nat} {rw : Nat → Rw} {i : Nat} (self : Vr P N rw i) : 3 ≤ (rw i).1 → ctk rw 4 i < N := self.2.2.2.2.2.2.1
theorem Vr.r0 {P N : Nat} {rw : Nat → Rw} {i : Nat} (self : Vr P N rw i) : (rw i).1 = 6 → (rw i).2.1 < ctk rw 3 i ∧ ∀ j, j < i → (rw j).1 = 6 → (rw j).2.1 ≠ (rw i).2.1 := self.2.2.2.2.2.2.2.1
theorem Vr.wt {P N : Nat} {rw : Nat → Rw} {i : Nat} (self : Vr P N rw i) : ctk rw 3 (i + 1) + ctk rw 6 (i + 1) + 7 * ctk rw 5 (i + 1) ≤ 212 := self.2.2.2.2.2.2.2.2.1
theorem Vr.pc {P N : Nat} {rw : Nat → Rw} {i : Nat} (self : Vr P N rw i) : ctk rw 3 (i + 1) + ctk rw 6 (i + 1) ≤ 60 := self.2.2.2.2.2.2.2.2.2
theorem Vr.mk {P N : Nat} {rw : Nat → Rw} {i : Nat} (h_k6 : (rw i).1 ≤ 6) (h_t0 : (rw i).1 = 0 → ctk rw 0 i < 4 ∧ (rw i).2.1 ≤ 5000 ∧ 0 ≤ (rw i).2.2.1 ∧ (rw i).2.2.1 ≤ 99999) (h_t1 : (rw i).1 = 0 → ∀ j, j < i → (rw j).1 = 0 → 0 < (rw j).2.2.1 ∧ ((rw i).2.2.1 = 0 ∨ (rw j).2.2.1 < (rw i).2.2.1)) (h_d0 : (rw i).1 = 1 → (rw i).2.1 ≤ 5000 ∧ 0 ≤ (rw i).2.2.1 ∧ (rw i).2.2.1 ≤ 5000 ∧ (rw i).2.2.2 ≤ 99999) (h_c0 : (rw i).1 = 2 → ctk rw 2 i < 32 ∧ (rw i).2.1 < P * N ∧ 0 ≤ (rw i).2.2.1 ∧ ((rw i).2.2.1 < ctk rw 0 i ∨ 4 ≤ (rw i).2.2.1 ∧ (rw i).2.2.1 ≤ 6) ∧ (rw i).2.2.2 ≤ 99999 ∧ ((rw i).2.2.1 ≠ 6 → (rw i).2.2.2 ≤ 5000)) (h_e0 : (rw i).1 = 3 → (rw i).2.1 < P * N ∧ -99999 ≤ (rw i).2.2.1 ∧ (rw i).2.2.1 ≤ 99999) (h_op : 3 ≤ (rw i).1 → ctk rw 4 i < N) (h_r0 : (rw i).1 = 6 → (rw i).2.1 < ctk rw 3 i ∧ ∀ j, j < i → (rw j).1 = 6 → (rw j).2.1 ≠ (rw i).2.1) (h_wt : ctk rw 3 (i + 1) + ctk rw 6 (i + 1) + 7 * ctk rw 5 (i + 1) ≤ 212) (h_pc : ctk rw 3 (i + 1) + ctk rw 6 (i + 1) ≤ 60) : Vr P N rw i := ⟨h_k6, h_t0, h_t1, h_d0, h_c0, h_e0, h_op, h_r0, h_wt, h_pc⟩
def Inv (P N K : Nat) (rw : Nat → Rw) (k : Nat) (a : Ac) : Prop :=
  (Gd a) ∧
  (Ch a) ∧
  (Tn a) ∧
  (a.P = P) ∧
  (a.N = N) ∧
  (a.K = K) ∧
  (a.nt = ctk rw 0 k) ∧
  (a.nc = ctk rw 2 k) ∧
  (a.nc ≤ 32) ∧
  (a.c = ctk rw 4 k) ∧
  (a.n ≤ ctk rw 3 k + ctk rw 6 k + 7 * ctk rw 5 k + a.c) ∧
  (ct (fun j => decide (¬ (a.so j = 1 ∨ a.so j = 2))) a.n = ctk rw 3 k + ctk rw 6 k) ∧
  (ct (fun j => decide (a.so j = 0)) a.n = ctk rw 3 k) ∧
  (∀ t, t < a.nt → ∃ i, i < k ∧ (rw i).1 = 0 ∧ (a.tt t : Int) = (rw i).2.2.1) ∧
  (∀ j, j < a.n → a.va j < 1000) ∧
  (∀ j, j < a.n → a.so j = 3 → ∃ i, i < k ∧ (rw i).1 = 6 ∧ (rw i).2.1 < ctk rw 3 k ∧ a.og j = nI (zpe a (rw i).2.1))
theorem Inv.G {P N K : Nat} {rw : Nat → Rw} {k : Nat} {a : Ac} (self : Inv P N K rw k a) : Gd a := self.1
theorem Inv.H {P N K : Nat} {rw : Nat → Rw} {k : Nat} {a : Ac} (self : Inv P N K rw k a) : Ch a := self.2.1
theorem Inv.T {P N K : Nat} {rw : Nat → Rw} {k : Nat} {a : Ac} (self : Inv P N K rw k a) : Tn a := self.2.2.1
theorem Inv.P {P N K : Nat} {rw : Nat → Rw} {k : Nat} {a : Ac} (self : Inv P N K rw k a) : a.P = P := self.2.2.2.1
theorem Inv.N {P N K : Nat} {rw : Nat → Rw} {k : Nat} {a : Ac} (self : Inv P N K rw k a) : a.N = N := self.2.2.2.2.1
theorem Inv.K {P N K : Nat} {rw : Nat → Rw} {k : Nat} {a : Ac} (self : Inv P N K rw k a) : a.K = K := self.2.2.2.2.2.1
theorem Inv.nt {P N K : Nat} {rw : Nat → Rw} {k : Nat} {a : Ac} (self : Inv P N K rw k a) : a.nt = ctk rw 0 k := self.2.2.2.2.2.2.1
theorem Inv.nc {P N K : Nat} {rw : Nat → Rw} {k : Nat} {a : Ac} (self : Inv P N K rw k a) : a.nc = ctk rw 2 k := self.2.2.2.2.2.2.2.1
theorem Inv.nc32 {P N K : Nat} {rw : Nat → Rw} {k : Nat} {a : Ac} (self : Inv P N K rw k a) : a.nc ≤ 32 := self.2.2.2.2.2.2.2.2.1
theorem Inv.c {P N K : Nat} {rw : Nat → Rw} {k : Nat} {a : Ac} (self : Inv P N K rw k a) : a.c = ctk rw 4 k := self.2.2.2.2.2.2.2.2.2.1
theorem Inv.n {P N K : Nat} {rw : Nat → Rw} {k : Nat} {a : Ac} (self : Inv P N K rw k a) : a.n ≤ ctk rw 3 k + ctk rw 6 k + 7 * ctk rw 5 k + a.c := self.2.2.2.2.2.2.2.2.2.2.1
theorem Inv.pc {P N K : Nat} {rw : Nat → Rw} {k : Nat} {a : Ac} (self : Inv P N K rw k a) : ct (fun j => decide (¬ (a.so j = 1 ∨ a.so j = 2))) a.n = ctk rw 3 k + ctk rw 6 k := self.2.2.2.2.2.2.2.2.2.2.2.1
theorem Inv.mo {P N K : Nat} {rw : Nat → Rw} {k : Nat} {a : Ac} (self : Inv P N K rw k a) : ct (fun j => decide (a.so j = 0)) a.n = ctk rw 3 k := self.2.2.2.2.2.2.2.2.2.2.2.2.1
theorem Inv.tp {P N K : Nat} {rw : Nat → Rw} {k : Nat} {a : Ac} (self : Inv P N K rw k a) : ∀ t, t < a.nt → ∃ i, i < k ∧ (rw i).1 = 0 ∧ (a.tt t : Int) = (rw i).2.2.1 := self.2.2.2.2.2.2.2.2.2.2.2.2.2.1
theorem Inv.va {P N K : Nat} {rw : Nat → Rw} {k : Nat} {a : Ac} (self : Inv P N K rw k a) : ∀ j, j < a.n → a.va j < 1000 := self.2.2.2.2.2.2.2.2.2.2.2.2.2.2.1
theorem Inv.tn {P N K : Nat} {rw : Nat → Rw} {k : Nat} {a : Ac} (self : Inv P N K rw k a) : ∀ j, j < a.n → a.so j = 3 → ∃ i, i < k ∧ (rw i).1 = 6 ∧ (rw i).2.1 < ctk rw 3 k ∧ a.og j = nI (zpe a (rw i).2.1) := self.2.2.2.2.2.2.2.2.2.2.2.2.2.2.2
theorem Inv.mk {P N K : Nat} {rw : Nat → Rw} {k : Nat} {a : Ac} (h_G : Gd a) (h_H : Ch a) (h_T : Tn a) (h_P : a.P = P) (h_N : a.N = N) (h_K : a.K = K) (h_nt : a.nt = ctk rw 0 k) (h_nc : a.nc = ctk rw 2 k) (h_nc32 : a.nc ≤ 32) (h_c : a.c = ctk rw 4 k) (h_n : a.n ≤ ctk rw 3 k + ctk rw 6 k + 7 * ctk rw 5 k + a.c) (h_pc : ct (fun j => decide (¬ (a.so j = 1 ∨ a.so j = 2))) a.n = ctk rw 3 k + ctk rw 6 k) (h_mo : ct (fun j => decide (a.so j = 0)) a.n = ctk rw 3 k) (h_tp : ∀ t, t < a.nt → ∃ i, i < k ∧ (rw i).1 = 0 ∧ (a.tt t : Int) = (rw i).2.2.1) (h_va : ∀ j, j < a.n → a.va j < 1000) (h_tn : ∀ j, j < a.n → a.so j = 3 → ∃ i, i < k ∧ (rw i).1 = 6 ∧ (rw i).2.1 < ctk rw 3 k ∧ a.og j = nI (zpe a (rw i).2.1)) : Inv P N K rw k a := ⟨h_G, h_H, h_T, h_P, h_N, h_K, h_nt, h_nc, h_nc32, h_c, h_n, h_pc, h_mo, h_tp, h_va, h_tn⟩
/-- the paid and drawn ones stay, whatever comes behind -/
theorem zpe_x {a x : Ac} (E : Ex a x) {k : Nat} (hk : k < ct (fun j => decide (a.so j = 0)) a.n) : zpe x k = zpe a k := by
  obtain ⟨h1, h2, h3⟩ := zpe_i hk
  refine zpe_u (Nat.lt_of_lt_of_le h1 E.n) (by rw [E.so _ h1]; exact h2) ?_
  exact (ct_congr (g := fun j => decide (x.so j = 0)) (g' := fun j => decide (a.so j = 0)) (fun i hi => by rw [E.so i (by omega)])).trans h3
theorem ct_ex {a x : Ac} (E : Ex a x) (c : Nat → Bool) : ct (fun j => c (x.so j)) x.n = ct (fun j => c (a.so j)) a.n + ct (fun j => c (x.so (a.n + j))) (x.n - a.n) := by
  have key : ∀ m, ct (fun j => c (x.so j)) (a.n + m) = ct (fun j => c (a.so j)) a.n + ct (fun j => c (x.so (a.n + j))) m := fun m => by
    induction m with
    | zero => exact ct_congr (fun i hi => by rw [E.so i hi])
    | succ m ih =>
      show ct (fun j => c (x.so j)) (a.n + m) + (if c (x.so (a.n + m)) = true then 1 else 0) = ct (fun j => c (a.so j)) a.n + (ct (fun j => c (x.so (a.n + j))) m + (if c (x.so (a.n + m)) = true then 1 else 0))
      rw [ih, Nat.add_assoc]
  have := key (x.n - a.n)
  rw [show a.n + (x.n - a.n) = x.n by have := E.n; omega] at this
  exact this
theorem ct_z {c : Nat → Bool} : ∀ {n : Nat}, (∀ i, i < n → c i = false) → ct c n = 0
  | 0, _ => rfl
  | n + 1, h => by rw [ct_f (h n (by omega)), ct_z (fun i hi => h i (by omega))]
/-- all that come behind are interest -/
theorem rr_so {a : Ac} : ∀ k j, a.n ≤ j → j < (zrr a k).n → (zrr a k).so j = 2
  | 0, j, h1, h2 => by
    have h2' : j < a.n := h2
    omega
  | k + 1, j, h1, h2 => by
    by_cases z : zcv a k = 0
    · rw [rr_0 z] at h2 ⊢
      exact rr_so k j h1 h2
    · rw [rr_1 z] at h2 ⊢
      have h2' : j < (zrr a k).n + 1 := h2
      show zup (zrr a k).so (zrr a k).n 2 j = 2
      by_cases e : j = (zrr a k).n
      · rw [e, zup_s]
      · rw [zup_n e]
        exact rr_so k j h1 (by omega)
theorem zcm_440 {a : Ac} (V : Vw a) {p : Nat} (hp : p ≤ 7) : zcm a p ≤ 440 := by
  have h1 := V.K1
  have h2 : a.K * (p / a.K + 1) ≤ 11 := by
    have h3 := Nat.div_mul_le_self p a.K
    have h4 := V.K4
    rw [Nat.mul_succ, Nat.mul_comm]
    omega
  have h3 := Nat.mul_le_mul V.P40 h2
  rw [← Nat.mul_assoc] at h3
  exact h3
theorem rr_va {a : Ac} (V : Vw a) (hN : a.N ≤ 8) : ∀ k, k ≤ 8 → ∀ j, a.n ≤ j → j < (zrr a k).n → (zrr a k).va j ≤ 440
  | 0, _, j, h1, h2 => by
    have h2' : j < a.n := h2
    omega
  | k + 1, hk, j, h1, h2 => by
    by_cases z : zcv a k = 0
    · rw [rr_0 z] at h2 ⊢
      exact rr_va V hN k (by omega) j h1 h2
    · rw [rr_1 z] at h2 ⊢
      have h2' : j < (zrr a k).n + 1 := h2
      show zup (zrr a k).va (zrr a k).n (zcm (zrr a k) k) j ≤ 440
      by_cases e : j = (zrr a k).n
      · rw [e, zup_s, zcm_c (sr_rr k)]
        exact zcm_440 V (by omega)
      · rw [zup_n e]
        exact rr_va V hN k (by omega) j h1 (by omega)
/-- pairs stay when interest comes -/
theorem tn_ex {a x : Ac} (T : Tn a) (E : Ex a x) (hn : ∀ j, a.n ≤ j → j < x.n → x.so j ≠ 3) : Tn x := by
  have hl : ∀ j, j < x.n → x.so j = 3 → j < a.n := fun j hj h => by
    rcases Nat.lt_or_ge j a.n with z | z
    · exact z
    · exact absurd h (hn j z hj)
  refine ⟨fun j hj h => ?_, fun i j hi hj h1 h2 h3 => ?_⟩
  · have hja := hl j hj h
    rw [E.so j hja] at h
    obtain ⟨e, he, h1, h2, h3, h4⟩ := T.t1 j hja h
    exact ⟨e, Nat.lt_of_lt_of_le he E.n, by rw [E.og j hja]; exact h1, by rw [E.so e he]; exact h2, by rw [E.am j hja, E.am e he]; exact h3, by rw [E.va j hja, E.va e he]; exact h4⟩
  · have hia := hl i hi h1
    have hja := hl j hj h2
    rw [E.so i hia] at h1
    rw [E.so j hja] at h2
    rw [E.og i hia, E.og j hja] at h3
    exact T.t2 i j hia hja h1 h2 h3
theorem iv_0 {P N K : Nat} {rw : Nat → Rw} (hP : P ≤ 40) (hN : N ≤ 8) (hK1 : 1 ≤ K) (hK4 : K ≤ 4) : Inv P N K rw 0 (zbg P N K) := by
  have V : Vw (zbg P N K) := by
    refine ⟨hP, hN, hK1, hK4, Nat.zero_le _, Nat.zero_le _, Nat.zero_le _, Nat.zero_le _, ?_, ?_, ?_, ?_, ?_, ?_, ?_, ?_, ?_, ?_, ?_, ?_, ?_, ?_, ?_⟩
    · exact fun j hj => absurd hj (Nat.not_lt_zero j)
    · exact fun j hj => absurd hj (Nat.not_lt_zero j)
    · exact fun j hj => absurd hj (Nat.not_lt_zero j)
    · exact fun j hj => absurd hj (Nat.not_lt_zero j)
    · exact fun j hj => absurd hj (Nat.not_lt_zero j)
    · exact fun j hj => absurd hj (Nat.not_lt_zero j)
    · exact fun k _ => Nat.zero_le _
    · exact Nat.zero_le _
    · exact fun j hj => absurd hj (Nat.not_lt_zero j)
    · exact fun j hj => absurd hj (Nat.not_lt_zero j)
    · exact fun j hj => absurd hj (Nat.not_lt_zero j)
    · exact fun j hj => absurd hj (Nat.not_lt_zero j)
    · show (-5000 : Int) ≤ 0 ∧ (0 : Int) ≤ 5000
      omega
    · exact fun t ht => by cases ht
    · exact fun t ht => by cases ht
  have G : Gd (zbg P N K) := by
    refine ⟨V, fun t ht => absurd ht (Nat.not_lt_zero _), rfl, rfl, fun j hj => absurd hj (Nat.not_lt_zero j), Nat.zero_le _, fun j hj => absurd hj (Nat.not_lt_zero j), fun p _ => ?_⟩
    show (-1000000 : Int) ≤ 0 ∧ (0 : Int) ≤ 1000000
    omega
  exact ⟨G, fun k hk => absurd hk (Nat.not_lt_zero k), ⟨fun j hj => absurd hj (Nat.not_lt_zero j), fun i j hi => absurd hi (Nat.not_lt_zero i)⟩, rfl, rfl, rfl, rfl, rfl, Nat.zero_le _, rfl, Nat.zero_le _, rfl, rfl, fun t ht => absurd ht (Nat.not_lt_zero t), fun j hj => absurd hj (Nat.not_lt_zero j), fun j hj => absurd hj (Nat.not_lt_zero j)⟩
/-- a valid row is one that the account takes -/
theorem iv_ok {P N K : Nat} {rw : Nat → Rw} {k : Nat} {a : Ac} (J : Inv P N K rw k a) (W : Vr P N rw k) : Ok a (rw k) ∧ (3 ≤ (rw k).1 → a.n < 220) ∧ ((rw k).1 = 5 → a.n + 8 ≤ 220) ∧ a.n ≤ 220 ∧ a.nc ≤ 32 := by
  have w := W.wt
  have hcN := J.G.V.cN
  have h8 := J.G.V.N8
  have hn := J.n
  have hJN := J.N
  have hc := J.c
  rw [ctk_s, ctk_s, ctk_s] at w
  have hn2 : a.n ≤ 220 := by omega
  refine ⟨⟨W.k6, by omega, ?_, ?_, W.d0, ?_, ?_, ?_, ?_⟩, ?_, ?_, hn2, ?_⟩
  · intro h
    have := W.t0 h
    rw [J.nt]
    exact this
  · intro h h0
    obtain ⟨i, hi, h1, h2⟩ := J.tp (a.nt - 1) (by omega)
    have := W.t1 h i hi h1
    omega
  · intro h
    have := W.c0 h
    rw [J.nc, J.P, J.N, J.nt]
    exact this
  · intro h
    have := W.e0 h
    rw [J.P, J.N]
    exact this
  · intro h
    have := W.op h
    rw [J.c, J.N]
    exact this
  · intro h
    rw [J.mo]
    exact (W.r0 h).1
  · intro h
    have := W.op h
    rcases Nat.lt_or_ge (rw k).1 4 with z | z
    · rw [if_pos (show (rw k).1 = 3 by omega)] at w
      omega
    · omega
  · intro h
    have := W.op (by omega)
    rw [if_neg (show ¬ (rw k).1 = 3 by omega), if_neg (show ¬ (rw k).1 = 6 by omega), if_pos h] at w
    omega
  · exact J.nc32
theorem iv_tn {P N K : Nat} {rw : Nat → Rw} {k : Nat} {a x : Ac} (J : Inv P N K rw k a) (E : Ex a x) {j : Nat} (hj : j < a.n) (h : x.so j = 3) : ∃ i, i < k + 1 ∧ (rw i).1 = 6 ∧ (rw i).2.1 < ctk rw 3 (k + 1) ∧ x.og j = nI (zpe x (rw i).2.1) := by
  rw [E.so j hj] at h
  obtain ⟨i, h1, h2, h3, h4⟩ := J.tn j hj h
  refine ⟨i, by omega, h2, by rw [ctk_s]; omega, ?_⟩
  rw [E.og j hj, h4, zpe_x E (by rw [J.mo]; exact h3)]
theorem iv_T {P N K : Nat} {rw : Nat → Rw} {k : Nat} {a : Ac} (J : Inv P N K rw k a) {x : Nat} {y : Int} {z : Nat} (hr : rw k = (0, x, y, z)) (O : Ok a (rw k)) : Inv P N K rw (k + 1) (zdT a x y) := by
  have hc : ∀ q, ctk rw q (k + 1) = ctk rw q k + (if 0 = q then 1 else 0) := fun q => by rw [ctk_s, hr]
  rw [hr] at O
  have o0 : a.nt < 4 ∧ x ≤ 5000 ∧ 0 ≤ y ∧ y ≤ 99999 := O.t0 rfl
  have o1 : 0 < a.nt → 0 < a.tt (a.nt - 1) ∧ (y = 0 ∨ (a.tt (a.nt - 1) : Int) < y) := O.t1 rfl
  have V := J.G.V
  have V2 : Vw (zdT a x y) := (Vw.mk (Vw.P40 V :) (Vw.N8 V :) (Vw.K1 V :) (Vw.K4 V :) (Vw.cN V :) (Vw.n4 V :) (by show a.nt + 1 ≤ 4; omega) (Vw.nc4 V :) (Vw.so3 V :) (Vw.va9 V :) (Vw.pg8 V :) (Vw.am1 V :) (fun t ht => by
      have ht2 : t < a.nt + 1 := ht
      show zup a.tr a.nt x t ≤ 5000
      by_cases e : t = a.nt
      · rw [e, zup_s]; exact o0.2.1
      · rw [zup_n e]; exact V.tr5 t (by omega)) (fun t ht => by
      have ht2 : t < a.nt + 1 := ht
      show zup a.tt a.nt y.toNat t ≤ 99999
      by_cases e : t = a.nt
      · rw [e, zup_s]; omega
      · rw [zup_n e]; exact V.tt9 t (by omega)) (Vw.db0 V :) (Vw.db2 V :) (Vw.cd3 V :) (Vw.co6 V :) (Vw.cv5 V :) (Vw.cv9 V :) (Vw.tb5 V :) (fun t ht => by
      have : a.ti = some t := ht
      rw [J.G.no1] at this
      cases this) (Vw.fo9 V :))
  have G2 : Gd (zdT a x y) := by
    refine ⟨V2, fun t ht => ?_, J.G.no1, J.G.no2, J.G.pr, J.G.pn, J.G.ip, J.G.bk⟩
    have ht2 : t + 1 < a.nt + 1 := ht
    show 0 < zup a.tt a.nt y.toNat t ∧ (zup a.tt a.nt y.toNat (t + 1) = 0 ∨ zup a.tt a.nt y.toNat t < zup a.tt a.nt y.toNat (t + 1))
    rw [zup_n (show t ≠ a.nt by omega)]
    by_cases e : t + 1 = a.nt
    · rw [e, zup_s]
      have := o1 (by omega)
      rw [show a.nt - 1 = t by omega] at this
      omega
    · rw [zup_n e]
      exact J.G.tu t (by omega)
  refine ⟨G2, fun i hi => ?_, ⟨J.T.t1, J.T.t2⟩, J.P, J.N, J.K, ?_, ?_, J.nc32, ?_, ?_, ?_, ?_, fun t ht => ?_, J.va, fun j hj h => ?_⟩
  · have := J.H i hi
    show a.co i < a.nt + 1 ∨ 4 ≤ a.co i
    omega
  · show a.nt + 1 = _
    rw [hc, if_pos rfl, J.nt]
  · rw [hc, if_neg (by decide)]; exact J.nc
  · rw [hc, if_neg (by decide)]; exact J.c
  · rw [hc, hc, hc, if_neg (by decide), if_neg (by decide), if_neg (by decide)]; exact J.n
  · rw [hc, hc, if_neg (by decide), if_neg (by decide)]; exact J.pc
  · rw [hc, if_neg (by decide)]; exact J.mo
  · have ht2 : t < a.nt + 1 := ht
    show ∃ i, i < k + 1 ∧ (rw i).1 = 0 ∧ ((zup a.tt a.nt y.toNat t : Nat) : Int) = (rw i).2.2.1
    by_cases e : t = a.nt
    · refine ⟨k, by omega, by rw [hr], ?_⟩
      rw [e, zup_s, hr]
      show (y.toNat : Int) = y
      omega
    · rw [zup_n e]
      obtain ⟨i, h1, h2, h3⟩ := J.tp t (by omega)
      exact ⟨i, by omega, h2, h3⟩
  · obtain ⟨i, h1, h2, h3, h4⟩ := J.tn j hj h
    exact ⟨i, by omega, h2, by rw [hc]; omega, h4⟩
theorem iv_D {P N K : Nat} {rw : Nat → Rw} {k : Nat} {a : Ac} (J : Inv P N K rw k a) {x : Nat} {y : Int} {z : Nat} (hr : rw k = (1, x, y, z)) (O : Ok a (rw k)) : Inv P N K rw (k + 1) (zdD a x y z) := by
  have hc : ∀ q, ctk rw q (k + 1) = ctk rw q k + (if 1 = q then 1 else 0) := fun q => by rw [ctk_s, hr]
  rw [hr] at O
  have o0 : x ≤ 5000 ∧ 0 ≤ y ∧ y ≤ 5000 ∧ z ≤ 99999 := O.d0 rfl
  have V := J.G.V
  have V2 : Vw (zdD a x y z) := (Vw.mk (Vw.P40 V :) (Vw.N8 V :) (Vw.K1 V :) (Vw.K4 V :) (Vw.cN V :) (Vw.n4 V :) (Vw.nt4 V :) (Vw.nc4 V :) (Vw.so3 V :) (Vw.va9 V :) (Vw.pg8 V :) (Vw.am1 V :) (Vw.tr5 V :) (Vw.tt9 V :) (fun i hi => by
      show (if i = 0 then x else if i = 1 then y.toNat else z) ≤ 5000
      by_cases e : i = 0
      · rw [if_pos e]; exact o0.1
      · rw [if_neg e, if_pos (show i = 1 by omega)]; omega) (o0.2.2.2) (Vw.cd3 V :) (Vw.co6 V :) (Vw.cv5 V :) (Vw.cv9 V :) (Vw.tb5 V :) (Vw.ti4 V :) (Vw.fo9 V :))
  have G2 : Gd (zdD a x y z) := ⟨V2, J.G.tu, J.G.no1, J.G.no2, J.G.pr, J.G.pn, J.G.ip, J.G.bk⟩
  refine ⟨G2, J.H, ⟨J.T.t1, J.T.t2⟩, J.P, J.N, J.K, ?_, ?_, J.nc32, ?_, ?_, ?_, ?_, fun t ht => ?_, J.va, fun j hj h => ?_⟩
  · rw [hc, if_neg (by decide)]; exact J.nt
  · rw [hc, if_neg (by decide)]; exact J.nc
  · rw [hc, if_neg (by decide)]; exact J.c
  · rw [hc, hc, hc, if_neg (by decide), if_neg (by decide), if_neg (by decide)]; exact J.n
  · rw [hc, hc, if_neg (by decide), if_neg (by decide)]; exact J.pc
  · rw [hc, if_neg (by decide)]; exact J.mo
  · obtain ⟨i, h1, h2, h3⟩ := J.tp t ht
    exact ⟨i, by omega, h2, h3⟩
  · obtain ⟨i, h1, h2, h3, h4⟩ := J.tn j hj h
    exact ⟨i, by omega, h2, by rw [hc]; omega, h4⟩
theorem iv_C {P N K : Nat} {rw : Nat → Rw} {k : Nat} {a : Ac} (J : Inv P N K rw k a) {x : Nat} {y : Int} {z : Nat} (hr : rw k = (2, x, y, z)) (O : Ok a (rw k)) : Inv P N K rw (k + 1) (zdC a x y z) := by
  have hc : ∀ q, ctk rw q (k + 1) = ctk rw q k + (if 2 = q then 1 else 0) := fun q => by rw [ctk_s, hr]
  rw [hr] at O
  have o0 : a.nc < 32 ∧ x < a.P * a.N ∧ 0 ≤ y ∧ (y < a.nt ∨ 4 ≤ y ∧ y ≤ 6) ∧ z ≤ 99999 ∧ (y ≠ 6 → z ≤ 5000) := O.c0 rfl
  have V := J.G.V
  have h3 := D320 V
  have h4 := V.nt4
  have V2 : Vw (zdC a x y z) := (Vw.mk (Vw.P40 V :) (Vw.N8 V :) (Vw.K1 V :) (Vw.K4 V :) (Vw.cN V :) (Vw.n4 V :) (Vw.nt4 V :) (by show a.nc + 1 ≤ 40; omega) (Vw.so3 V :) (Vw.va9 V :) (Vw.pg8 V :) (Vw.am1 V :) (Vw.tr5 V :) (Vw.tt9 V :) (Vw.db0 V :) (Vw.db2 V :) (fun i hi => by
      have hi2 : i < a.nc + 1 := hi
      show zup a.cd a.nc x i < 320
      by_cases e : i = a.nc
      · rw [e, zup_s]; omega
      · rw [zup_n e]; exact V.cd3 i (by omega)) (fun i hi => by
      have hi2 : i < a.nc + 1 := hi
      show zup a.co a.nc y.toNat i ≤ 6
      by_cases e : i = a.nc
      · rw [e, zup_s]; omega
      · rw [zup_n e]; exact V.co6 i (by omega)) (fun i hi => by
      have hi2 : i < a.nc + 1 := hi
      show zup a.co a.nc y.toNat i ≠ 6 → zup a.cv a.nc z i ≤ 5000
      by_cases e : i = a.nc
      · rw [e, zup_s, zup_s]; exact fun q => o0.2.2.2.2.2 (by omega)
      · rw [zup_n e, zup_n e]; exact V.cv5 i (by omega)) (fun i hi => by
      have hi2 : i < a.nc + 1 := hi
      show zup a.cv a.nc z i ≤ 99999
      by_cases e : i = a.nc
      · rw [e, zup_s]; omega
      · rw [zup_n e]; exact V.cv9 i (by omega)) (Vw.tb5 V :) (Vw.ti4 V :) (Vw.fo9 V :))
  have G2 : Gd (zdC a x y z) := ⟨V2, J.G.tu, J.G.no1, J.G.no2, J.G.pr, J.G.pn, J.G.ip, J.G.bk⟩
  refine ⟨G2, fun i hi => ?_, ⟨J.T.t1, J.T.t2⟩, J.P, J.N, J.K, ?_, ?_, by show a.nc + 1 ≤ 32; omega, ?_, ?_, ?_, ?_, fun t ht => ?_, J.va, fun j hj h => ?_⟩
  · have hi2 : i < a.nc + 1 := hi
    show zup a.co a.nc y.toNat i < a.nt ∨ 4 ≤ zup a.co a.nc y.toNat i
    by_cases e : i = a.nc
    · rw [e, zup_s]; omega
    · rw [zup_n e]; exact J.H i (by omega)
  · rw [hc, if_neg (by decide)]; exact J.nt
  · show a.nc + 1 = _
    rw [hc, if_pos rfl, J.nc]
  · rw [hc, if_neg (by decide)]; exact J.c
  · rw [hc, hc, hc, if_neg (by decide), if_neg (by decide), if_neg (by decide)]; exact J.n
  · rw [hc, hc, if_neg (by decide), if_neg (by decide)]; exact J.pc
  · rw [hc, if_neg (by decide)]; exact J.mo
  · obtain ⟨i, h1, h2, h3⟩ := J.tp t ht
    exact ⟨i, by omega, h2, h3⟩
  · obtain ⟨i, h1, h2, h3, h4⟩ := J.tn j hj h
    exact ⟨i, by omega, h2, by rw [hc]; omega, h4⟩
