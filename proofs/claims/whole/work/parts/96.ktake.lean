/-! contracts of the class: what is taken of a line (written by wip/whole/gk17.py) -/
set_option maxRecDepth 20000 in
theorem c_put4 {J : mJ} (X : mRules J) {I A : mI} {B : mB} {w f : Nat} {R : mR} {k : Nat} (hk : k ≤ 81) {xk v0 v1 v2 v3 : Int32} (ek : xk = nI k) (h : R none I (spt A 5 k v0 v1 v2 v3) B (pk w f)) : J n_Script_put 0 [.ref 4, .int xk, .int v0, .int v1, .int v2, .int v3, .float 0] [] I A B (pk w f) R := by
  have e0 : xk * 4 = nI (4 * k) := by rw [ek, show nI k * (4 : Int32) = nI (k * 4) from pk_mul k 4, Nat.mul_comm]
  have e1 : xk * 4 + 1 = nI (4 * k + 1) := by rw [e0]; exact nI_add _ 1
  have e2 : xk * 4 + 2 = nI (4 * k + 2) := by rw [e0]; exact nI_add _ 2
  have e3 : xk * 4 + 3 = nI (4 * k + 3) := by rw [e0]; exact nI_add _ 3
  have e4 : xk * 4 + 4 = nI (4 * k + 4) := by rw [e0]; exact nI_add _ 4
  refine X 200 _ _ _ _ _ _ _ _ _ ?_
  refine And.intro (fun q1 => ?_) (fun q1 => ?_)
  · rw [e0] at q1
    exact absurd q1 (nI_pos (by omega)) --end
  · refine Exists.intro _ (Exists.intro _ (And.intro rfl ?_))
    refine And.intro (fun q2 => ?_) (fun q2 => ?_)
    · rw [e4] at q2
      exact absurd q2 (nI_nlt (a := 328) (by omega) (by omega)) --end
    · refine Exists.intro _ (And.intro rfl (And.intro (show vp_in (xk * 4) 328 by rw [e0]; exact vin (by omega) (by omega)) ?_))
      refine Exists.intro _ (And.intro rfl (And.intro (show vp_in (xk * 4 + 1) 328 by rw [e1]; exact vin (by omega) (by omega)) ?_))
      refine Exists.intro _ (And.intro rfl (And.intro (show vp_in (xk * 4 + 2) 328 by rw [e2]; exact vin (by omega) (by omega)) ?_))
      refine Exists.intro _ (And.intro rfl (And.intro (show vp_in (xk * 4 + 3) 328 by rw [e3]; exact vin (by omega) (by omega)) ?_))
      have c0 : (xk * 4).toNatClampNeg = 4 * k := by rw [e0]; exact cl (by omega)
      have c1 : (xk * 4 + 1).toNatClampNeg = 4 * k + 1 := by rw [e1]; exact cl (by omega)
      have c2 : (xk * 4 + 2).toNatClampNeg = 4 * k + 2 := by rw [e2]; exact cl (by omega)
      have c3 : (xk * 4 + 3).toNatClampNeg = 4 * k + 3 := by rw [e3]; exact cl (by omega)
      have key : up2 (up2 (up2 (up2 A 5 (xk * 4).toNatClampNeg v0) 5 (xk * 4 + 1).toNatClampNeg v1) 5 (xk * 4 + 2).toNatClampNeg v2) 5 (xk * 4 + 3).toNatClampNeg v3 = spt A 5 k v0 v1 v2 v3 := by
        rw [c0, c1, c2, c3]
        rfl
      rw [← key] at h
      exact h
theorem c_refuse {J : mJ} (X : mRules J) {I A : mI} {B : mB} {w f : Nat} {R : mR} {x : Int32} (h : R none (up2 (up2 I 3 3 x) 3 4 (I 6 2)) A B (pk w f)) : J n_Reader_refuse 0 [.ref 3, .int x] [] I A B (pk w f) R := by
  refine X 200 _ _ _ _ _ _ _ _ _ ?_
  exact h
theorem c_takeW0 {J : mJ} (X : mRules J) {I A : mI} {B : mB} {w f : Nat} {R : mR} {t : Nat → Nat} {n : Nat} (T : TpR 2 A t n) (hn : I 1 1 = nI n) {p : Nat} (hp : p ≤ n) (K : KT I t n p) (hf : I 3 3 = 0) (h1 : ∀ Iv, tkW t n 0 p = .ok (tE t n p) → (∀ j, j ≠ 6 → Iv j = I j) → KT Iv t n (tE t n p) → R none Iv A B (pk w f)) (h0 : tkW t n 0 p = .error (1, tS t n p) → R none (up2 (up2 I 3 3 1) 3 4 (I 6 2)) A B (pk w f)) : J n_Reader_takeWord 0 [.ref 3, .retAddr 1] [] I A B (pk w f) R := by
  have hE := tE_b (t := t) hp
  refine X 200 _ _ _ _ _ _ _ _ _ ?_
  refine And.intro (fun q1 => ?_) (fun q1 => ?_)
  · refine c_isWord0 X T hn hp K (fun zw => ?_) (fun zw => ?_)
    · refine And.intro (fun q => absurd q (by decide)) (fun _ => ?_)
      refine c_Tadv X T hn hE.2.1 K.e (fun Iv g1 K1 => ?_)
      exact h1 Iv (if_pos zw) g1 K1
    · refine And.intro (fun _ => ?_) (fun q => absurd (by decide) q)
      refine c_refuse X ?_
      exact h0 (if_neg (by rw [zw]; decide))
  · exact absurd hf q1 --end
theorem c_takeW1 {J : mJ} (X : mRules J) {I A : mI} {B : mB} {w f : Nat} {R : mR} {t : Nat → Nat} {n : Nat} (T : TpR 2 A t n) (hn : I 1 1 = nI n) {p : Nat} (hp : p ≤ n) (K : KT I t n p) (hf : I 3 3 = 0) (h1 : ∀ Iv, tkW t n 1 p = .ok (tE t n p) → (∀ j, j ≠ 6 → Iv j = I j) → KT Iv t n (tE t n p) → R none Iv A B (pk w f)) (h0 : tkW t n 1 p = .error (1, tS t n p) → R none (up2 (up2 I 3 3 1) 3 4 (I 6 2)) A B (pk w f)) : J n_Reader_takeWord 0 [.ref 3, .retAddr 2] [] I A B (pk w f) R := by
  have hE := tE_b (t := t) hp
  refine X 200 _ _ _ _ _ _ _ _ _ ?_
  refine And.intro (fun q1 => ?_) (fun q1 => ?_)
  · refine c_isWord1 X T hn hp K (fun zw => ?_) (fun zw => ?_)
    · refine And.intro (fun q => absurd q (by decide)) (fun _ => ?_)
      refine c_Tadv X T hn hE.2.1 K.e (fun Iv g1 K1 => ?_)
      exact h1 Iv (if_pos zw) g1 K1
    · refine And.intro (fun _ => ?_) (fun q => absurd (by decide) q)
      refine c_refuse X ?_
      exact h0 (if_neg (by rw [zw]; decide))
  · exact absurd hf q1 --end
theorem c_takeW2 {J : mJ} (X : mRules J) {I A : mI} {B : mB} {w f : Nat} {R : mR} {t : Nat → Nat} {n : Nat} (T : TpR 2 A t n) (hn : I 1 1 = nI n) {p : Nat} (hp : p ≤ n) (K : KT I t n p) (hf : I 3 3 = 0) (h1 : ∀ Iv, tkW t n 2 p = .ok (tE t n p) → (∀ j, j ≠ 6 → Iv j = I j) → KT Iv t n (tE t n p) → R none Iv A B (pk w f)) (h0 : tkW t n 2 p = .error (1, tS t n p) → R none (up2 (up2 I 3 3 1) 3 4 (I 6 2)) A B (pk w f)) : J n_Reader_takeWord 0 [.ref 3, .retAddr 3] [] I A B (pk w f) R := by
  have hE := tE_b (t := t) hp
  refine X 200 _ _ _ _ _ _ _ _ _ ?_
  refine And.intro (fun q1 => ?_) (fun q1 => ?_)
  · refine c_isWord2 X T hn hp K (fun zw => ?_) (fun zw => ?_)
    · refine And.intro (fun q => absurd q (by decide)) (fun _ => ?_)
      refine c_Tadv X T hn hE.2.1 K.e (fun Iv g1 K1 => ?_)
      exact h1 Iv (if_pos zw) g1 K1
    · refine And.intro (fun _ => ?_) (fun q => absurd (by decide) q)
      refine c_refuse X ?_
      exact h0 (if_neg (by rw [zw]; decide))
  · exact absurd hf q1 --end
theorem c_takeW3 {J : mJ} (X : mRules J) {I A : mI} {B : mB} {w f : Nat} {R : mR} {t : Nat → Nat} {n : Nat} (T : TpR 2 A t n) (hn : I 1 1 = nI n) {p : Nat} (hp : p ≤ n) (K : KT I t n p) (hf : I 3 3 = 0) (h1 : ∀ Iv, tkW t n 3 p = .ok (tE t n p) → (∀ j, j ≠ 6 → Iv j = I j) → KT Iv t n (tE t n p) → R none Iv A B (pk w f)) (h0 : tkW t n 3 p = .error (1, tS t n p) → R none (up2 (up2 I 3 3 1) 3 4 (I 6 2)) A B (pk w f)) : J n_Reader_takeWord 0 [.ref 3, .retAddr 4] [] I A B (pk w f) R := by
  have hE := tE_b (t := t) hp
  refine X 200 _ _ _ _ _ _ _ _ _ ?_
  refine And.intro (fun q1 => ?_) (fun q1 => ?_)
  · refine c_isWord3 X T hn hp K (fun zw => ?_) (fun zw => ?_)
    · refine And.intro (fun q => absurd q (by decide)) (fun _ => ?_)
      refine c_Tadv X T hn hE.2.1 K.e (fun Iv g1 K1 => ?_)
      exact h1 Iv (if_pos zw) g1 K1
    · refine And.intro (fun _ => ?_) (fun q => absurd (by decide) q)
      refine c_refuse X ?_
      exact h0 (if_neg (by rw [zw]; decide))
  · exact absurd hf q1 --end
theorem c_takeW4 {J : mJ} (X : mRules J) {I A : mI} {B : mB} {w f : Nat} {R : mR} {t : Nat → Nat} {n : Nat} (T : TpR 2 A t n) (hn : I 1 1 = nI n) {p : Nat} (hp : p ≤ n) (K : KT I t n p) (hf : I 3 3 = 0) (h1 : ∀ Iv, tkW t n 4 p = .ok (tE t n p) → (∀ j, j ≠ 6 → Iv j = I j) → KT Iv t n (tE t n p) → R none Iv A B (pk w f)) (h0 : tkW t n 4 p = .error (1, tS t n p) → R none (up2 (up2 I 3 3 1) 3 4 (I 6 2)) A B (pk w f)) : J n_Reader_takeWord 0 [.ref 3, .retAddr 5] [] I A B (pk w f) R := by
  have hE := tE_b (t := t) hp
  refine X 200 _ _ _ _ _ _ _ _ _ ?_
  refine And.intro (fun q1 => ?_) (fun q1 => ?_)
  · refine c_isWord4 X T hn hp K (fun zw => ?_) (fun zw => ?_)
    · refine And.intro (fun q => absurd q (by decide)) (fun _ => ?_)
      refine c_Tadv X T hn hE.2.1 K.e (fun Iv g1 K1 => ?_)
      exact h1 Iv (if_pos zw) g1 K1
    · refine And.intro (fun _ => ?_) (fun q => absurd (by decide) q)
      refine c_refuse X ?_
      exact h0 (if_neg (by rw [zw]; decide))
  · exact absurd hf q1 --end
theorem c_takeW5 {J : mJ} (X : mRules J) {I A : mI} {B : mB} {w f : Nat} {R : mR} {t : Nat → Nat} {n : Nat} (T : TpR 2 A t n) (hn : I 1 1 = nI n) {p : Nat} (hp : p ≤ n) (K : KT I t n p) (hf : I 3 3 = 0) (h1 : ∀ Iv, tkW t n 5 p = .ok (tE t n p) → (∀ j, j ≠ 6 → Iv j = I j) → KT Iv t n (tE t n p) → R none Iv A B (pk w f)) (h0 : tkW t n 5 p = .error (1, tS t n p) → R none (up2 (up2 I 3 3 1) 3 4 (I 6 2)) A B (pk w f)) : J n_Reader_takeWord 0 [.ref 3, .retAddr 6] [] I A B (pk w f) R := by
  have hE := tE_b (t := t) hp
  refine X 200 _ _ _ _ _ _ _ _ _ ?_
  refine And.intro (fun q1 => ?_) (fun q1 => ?_)
  · refine c_isWord5 X T hn hp K (fun zw => ?_) (fun zw => ?_)
    · refine And.intro (fun q => absurd q (by decide)) (fun _ => ?_)
      refine c_Tadv X T hn hE.2.1 K.e (fun Iv g1 K1 => ?_)
      exact h1 Iv (if_pos zw) g1 K1
    · refine And.intro (fun _ => ?_) (fun q => absurd (by decide) q)
      refine c_refuse X ?_
      exact h0 (if_neg (by rw [zw]; decide))
  · exact absurd hf q1 --end
theorem c_takeW6 {J : mJ} (X : mRules J) {I A : mI} {B : mB} {w f : Nat} {R : mR} {t : Nat → Nat} {n : Nat} (T : TpR 2 A t n) (hn : I 1 1 = nI n) {p : Nat} (hp : p ≤ n) (K : KT I t n p) (hf : I 3 3 = 0) (h1 : ∀ Iv, tkW t n 6 p = .ok (tE t n p) → (∀ j, j ≠ 6 → Iv j = I j) → KT Iv t n (tE t n p) → R none Iv A B (pk w f)) (h0 : tkW t n 6 p = .error (1, tS t n p) → R none (up2 (up2 I 3 3 1) 3 4 (I 6 2)) A B (pk w f)) : J n_Reader_takeWord 0 [.ref 3, .retAddr 7] [] I A B (pk w f) R := by
  have hE := tE_b (t := t) hp
  refine X 200 _ _ _ _ _ _ _ _ _ ?_
  refine And.intro (fun q1 => ?_) (fun q1 => ?_)
  · refine c_isWord6 X T hn hp K (fun zw => ?_) (fun zw => ?_)
    · refine And.intro (fun q => absurd q (by decide)) (fun _ => ?_)
      refine c_Tadv X T hn hE.2.1 K.e (fun Iv g1 K1 => ?_)
      exact h1 Iv (if_pos zw) g1 K1
    · refine And.intro (fun _ => ?_) (fun q => absurd (by decide) q)
      refine c_refuse X ?_
      exact h0 (if_neg (by rw [zw]; decide))
  · exact absurd hf q1 --end
theorem c_takeW7 {J : mJ} (X : mRules J) {I A : mI} {B : mB} {w f : Nat} {R : mR} {t : Nat → Nat} {n : Nat} (T : TpR 2 A t n) (hn : I 1 1 = nI n) {p : Nat} (hp : p ≤ n) (K : KT I t n p) (hf : I 3 3 = 0) (h1 : ∀ Iv, tkW t n 7 p = .ok (tE t n p) → (∀ j, j ≠ 6 → Iv j = I j) → KT Iv t n (tE t n p) → R none Iv A B (pk w f)) (h0 : tkW t n 7 p = .error (1, tS t n p) → R none (up2 (up2 I 3 3 1) 3 4 (I 6 2)) A B (pk w f)) : J n_Reader_takeWord 0 [.ref 3, .retAddr 8] [] I A B (pk w f) R := by
  have hE := tE_b (t := t) hp
  refine X 200 _ _ _ _ _ _ _ _ _ ?_
  refine And.intro (fun q1 => ?_) (fun q1 => ?_)
  · refine c_isWord7 X T hn hp K (fun zw => ?_) (fun zw => ?_)
    · refine And.intro (fun q => absurd q (by decide)) (fun _ => ?_)
      refine c_Tadv X T hn hE.2.1 K.e (fun Iv g1 K1 => ?_)
      exact h1 Iv (if_pos zw) g1 K1
    · refine And.intro (fun _ => ?_) (fun q => absurd (by decide) q)
      refine c_refuse X ?_
      exact h0 (if_neg (by rw [zw]; decide))
  · exact absurd hf q1 --end
theorem c_takeW8 {J : mJ} (X : mRules J) {I A : mI} {B : mB} {w f : Nat} {R : mR} {t : Nat → Nat} {n : Nat} (T : TpR 2 A t n) (hn : I 1 1 = nI n) {p : Nat} (hp : p ≤ n) (K : KT I t n p) (hf : I 3 3 = 0) (h1 : ∀ Iv, tkW t n 8 p = .ok (tE t n p) → (∀ j, j ≠ 6 → Iv j = I j) → KT Iv t n (tE t n p) → R none Iv A B (pk w f)) (h0 : tkW t n 8 p = .error (1, tS t n p) → R none (up2 (up2 I 3 3 1) 3 4 (I 6 2)) A B (pk w f)) : J n_Reader_takeWord 0 [.ref 3, .retAddr 9] [] I A B (pk w f) R := by
  have hE := tE_b (t := t) hp
  refine X 200 _ _ _ _ _ _ _ _ _ ?_
  refine And.intro (fun q1 => ?_) (fun q1 => ?_)
  · refine c_isWord8 X T hn hp K (fun zw => ?_) (fun zw => ?_)
    · refine And.intro (fun q => absurd q (by decide)) (fun _ => ?_)
      refine c_Tadv X T hn hE.2.1 K.e (fun Iv g1 K1 => ?_)
      exact h1 Iv (if_pos zw) g1 K1
    · refine And.intro (fun _ => ?_) (fun q => absurd (by decide) q)
      refine c_refuse X ?_
      exact h0 (if_neg (by rw [zw]; decide))
  · exact absurd hf q1 --end
theorem c_takeW9 {J : mJ} (X : mRules J) {I A : mI} {B : mB} {w f : Nat} {R : mR} {t : Nat → Nat} {n : Nat} (T : TpR 2 A t n) (hn : I 1 1 = nI n) {p : Nat} (hp : p ≤ n) (K : KT I t n p) (hf : I 3 3 = 0) (h1 : ∀ Iv, tkW t n 9 p = .ok (tE t n p) → (∀ j, j ≠ 6 → Iv j = I j) → KT Iv t n (tE t n p) → R none Iv A B (pk w f)) (h0 : tkW t n 9 p = .error (1, tS t n p) → R none (up2 (up2 I 3 3 1) 3 4 (I 6 2)) A B (pk w f)) : J n_Reader_takeWord 0 [.ref 3, .retAddr 10] [] I A B (pk w f) R := by
  have hE := tE_b (t := t) hp
  refine X 200 _ _ _ _ _ _ _ _ _ ?_
  refine And.intro (fun q1 => ?_) (fun q1 => ?_)
  · refine c_isWord9 X T hn hp K (fun zw => ?_) (fun zw => ?_)
    · refine And.intro (fun q => absurd q (by decide)) (fun _ => ?_)
      refine c_Tadv X T hn hE.2.1 K.e (fun Iv g1 K1 => ?_)
      exact h1 Iv (if_pos zw) g1 K1
    · refine And.intro (fun _ => ?_) (fun q => absurd (by decide) q)
      refine c_refuse X ?_
      exact h0 (if_neg (by rw [zw]; decide))
  · exact absurd hf q1 --end
theorem c_takeW10 {J : mJ} (X : mRules J) {I A : mI} {B : mB} {w f : Nat} {R : mR} {t : Nat → Nat} {n : Nat} (T : TpR 2 A t n) (hn : I 1 1 = nI n) {p : Nat} (hp : p ≤ n) (K : KT I t n p) (hf : I 3 3 = 0) (h1 : ∀ Iv, tkW t n 10 p = .ok (tE t n p) → (∀ j, j ≠ 6 → Iv j = I j) → KT Iv t n (tE t n p) → R none Iv A B (pk w f)) (h0 : tkW t n 10 p = .error (1, tS t n p) → R none (up2 (up2 I 3 3 1) 3 4 (I 6 2)) A B (pk w f)) : J n_Reader_takeWord 0 [.ref 3, .retAddr 11] [] I A B (pk w f) R := by
  have hE := tE_b (t := t) hp
  refine X 200 _ _ _ _ _ _ _ _ _ ?_
  refine And.intro (fun q1 => ?_) (fun q1 => ?_)
  · refine c_isWord10 X T hn hp K (fun zw => ?_) (fun zw => ?_)
    · refine And.intro (fun q => absurd q (by decide)) (fun _ => ?_)
      refine c_Tadv X T hn hE.2.1 K.e (fun Iv g1 K1 => ?_)
      exact h1 Iv (if_pos zw) g1 K1
    · refine And.intro (fun _ => ?_) (fun q => absurd (by decide) q)
      refine c_refuse X ?_
      exact h0 (if_neg (by rw [zw]; decide))
  · exact absurd hf q1 --end
theorem c_takeW11 {J : mJ} (X : mRules J) {I A : mI} {B : mB} {w f : Nat} {R : mR} {t : Nat → Nat} {n : Nat} (T : TpR 2 A t n) (hn : I 1 1 = nI n) {p : Nat} (hp : p ≤ n) (K : KT I t n p) (hf : I 3 3 = 0) (h1 : ∀ Iv, tkW t n 11 p = .ok (tE t n p) → (∀ j, j ≠ 6 → Iv j = I j) → KT Iv t n (tE t n p) → R none Iv A B (pk w f)) (h0 : tkW t n 11 p = .error (1, tS t n p) → R none (up2 (up2 I 3 3 1) 3 4 (I 6 2)) A B (pk w f)) : J n_Reader_takeWord 0 [.ref 3, .retAddr 12] [] I A B (pk w f) R := by
  have hE := tE_b (t := t) hp
  refine X 200 _ _ _ _ _ _ _ _ _ ?_
  refine And.intro (fun q1 => ?_) (fun q1 => ?_)
  · refine c_isWord11 X T hn hp K (fun zw => ?_) (fun zw => ?_)
    · refine And.intro (fun q => absurd q (by decide)) (fun _ => ?_)
      refine c_Tadv X T hn hE.2.1 K.e (fun Iv g1 K1 => ?_)
      exact h1 Iv (if_pos zw) g1 K1
    · refine And.intro (fun _ => ?_) (fun q => absurd (by decide) q)
      refine c_refuse X ?_
      exact h0 (if_neg (by rw [zw]; decide))
  · exact absurd hf q1 --end
theorem c_takeW12 {J : mJ} (X : mRules J) {I A : mI} {B : mB} {w f : Nat} {R : mR} {t : Nat → Nat} {n : Nat} (T : TpR 2 A t n) (hn : I 1 1 = nI n) {p : Nat} (hp : p ≤ n) (K : KT I t n p) (hf : I 3 3 = 0) (h1 : ∀ Iv, tkW t n 12 p = .ok (tE t n p) → (∀ j, j ≠ 6 → Iv j = I j) → KT Iv t n (tE t n p) → R none Iv A B (pk w f)) (h0 : tkW t n 12 p = .error (1, tS t n p) → R none (up2 (up2 I 3 3 1) 3 4 (I 6 2)) A B (pk w f)) : J n_Reader_takeWord 0 [.ref 3, .retAddr 13] [] I A B (pk w f) R := by
  have hE := tE_b (t := t) hp
  refine X 200 _ _ _ _ _ _ _ _ _ ?_
  refine And.intro (fun q1 => ?_) (fun q1 => ?_)
  · refine c_isWord12 X T hn hp K (fun zw => ?_) (fun zw => ?_)
    · refine And.intro (fun q => absurd q (by decide)) (fun _ => ?_)
      refine c_Tadv X T hn hE.2.1 K.e (fun Iv g1 K1 => ?_)
      exact h1 Iv (if_pos zw) g1 K1
    · refine And.intro (fun _ => ?_) (fun q => absurd (by decide) q)
      refine c_refuse X ?_
      exact h0 (if_neg (by rw [zw]; decide))
  · exact absurd hf q1 --end
theorem c_takeW13 {J : mJ} (X : mRules J) {I A : mI} {B : mB} {w f : Nat} {R : mR} {t : Nat → Nat} {n : Nat} (T : TpR 2 A t n) (hn : I 1 1 = nI n) {p : Nat} (hp : p ≤ n) (K : KT I t n p) (hf : I 3 3 = 0) (h1 : ∀ Iv, tkW t n 13 p = .ok (tE t n p) → (∀ j, j ≠ 6 → Iv j = I j) → KT Iv t n (tE t n p) → R none Iv A B (pk w f)) (h0 : tkW t n 13 p = .error (1, tS t n p) → R none (up2 (up2 I 3 3 1) 3 4 (I 6 2)) A B (pk w f)) : J n_Reader_takeWord 0 [.ref 3, .retAddr 14] [] I A B (pk w f) R := by
  have hE := tE_b (t := t) hp
  refine X 200 _ _ _ _ _ _ _ _ _ ?_
  refine And.intro (fun q1 => ?_) (fun q1 => ?_)
  · refine c_isWord13 X T hn hp K (fun zw => ?_) (fun zw => ?_)
    · refine And.intro (fun q => absurd q (by decide)) (fun _ => ?_)
      refine c_Tadv X T hn hE.2.1 K.e (fun Iv g1 K1 => ?_)
      exact h1 Iv (if_pos zw) g1 K1
    · refine And.intro (fun _ => ?_) (fun q => absurd (by decide) q)
      refine c_refuse X ?_
      exact h0 (if_neg (by rw [zw]; decide))
  · exact absurd hf q1 --end
theorem c_takeWf {J : mJ} (X : mRules J) {I A : mI} {B : mB} {w f : Nat} {R : mR} (hf : ¬ I 3 3 = 0) {v : Value} (h : R none I A B (pk w f)) : J n_Reader_takeWord 0 [.ref 3, v] [] I A B (pk w f) R := by
  refine X 200 _ _ _ _ _ _ _ _ _ ?_
  refine And.intro (fun q1 => ?_) (fun q1 => ?_)
  · exact absurd q1 hf --end
  · exact h
set_option maxRecDepth 20000 in
theorem c_takeN {J : mJ} (X : mRules J) {I A : mI} {B : mB} {w f : Nat} {R : mR} {t : Nat → Nat} {n : Nat} (T : TpR 2 A t n) (hn : I 1 1 = nI n) {p : Nat} (hp : p ≤ n) (K : KT I t n p) (hf : I 3 3 = 0) {lo hi : Nat} (hlo : lo ≤ 100000) (hhi : hi ≤ 100000) {xl xh : Int32} (el : xl = nI lo) (eh : xh = zN ((hi : Int) - 1)) (h1 : ∀ Iv, lo ≤ tN t n p → tN t n p < hi → tkN t n lo hi p = .ok (tN t n p, tE t n p) → (∀ j, j ≠ 6 → Iv j = I j) → KT Iv t n (tE t n p) → R (some (.int (nI (tN t n p)))) Iv A B (pk w f)) (h0 : ∀ k, k = 1 ∨ k = 2 → tkN t n lo hi p = .error (k, tS t n p) → R (some (.int 0)) (up2 (up2 I 3 3 (nI k)) 3 4 (I 6 2)) A B (pk w f)) : J n_Reader_takeNumber 0 [.ref 3, .int xl, .int xh, .float 0] [] I A B (pk w f) R := by
  subst el; subst eh
  have hE := tE_b (t := t) hp
  refine X 200 _ _ _ _ _ _ _ _ _ ?_
  refine And.intro (fun q1 => ?_) (fun q1 => ?_)
  · refine And.intro (fun q2 => ?_) (fun q2 => ?_)
    · have ek : tK t n p = 2 := (nI_eq (b := 2) (by have := tK_4 (t := t) (n := n) (p := p); omega) (by omega)).mp (K.k.symm.trans q2)
      obtain ⟨y, ey, hy, hv⟩ := K.v ek
      have hnv := nvl_b (t := t) (s := tS t n p) (tE t n p - tS t n p)
      have hnv2 : tN t n p ≤ 100000 := hnv
      refine And.intro (fun q3 => ?_) (fun q3 => ?_)
      · rw [ey] at q3
        have d1 : y < lo := (nI_ltI (by omega) (by omega)).mp q3
        refine c_refuse X ?_
        exact h0 2 (Or.inr rfl) (by unfold tkN; rw [if_pos ek, if_neg (by omega)])
      · rw [ey] at q3
        have d1 : ¬ y < lo := fun z => q3 (nI_lt z (by omega))
        refine And.intro (fun q4 => ?_) (fun q4 => ?_)
        · rw [ey, nI_z] at q4
          have d2 : (y : Int) ≤ (hi : Int) - 1 := (zn_le (by omega) (by omega) (by omega) (by omega)).mp q4
          have eyv : tN t n p = y := by omega
          have c1 : lo ≤ tN t n p := by omega
          have c2 : tN t n p < hi := by omega
          refine c_Tadv X T hn hE.2.1 K.e (fun Iv g1 K1 => ?_)
          have h2 := h1 Iv c1 c2 (by unfold tkN; rw [if_pos ek, if_pos ⟨c1, c2⟩]) g1 K1
          rw [show nI (tN t n p) = I 6 4 by rw [ey, eyv]] at h2
          exact h2
        · rw [ey, nI_z] at q4
          have d2 : ¬ (y : Int) ≤ (hi : Int) - 1 := fun z => q4 ((zn_le (by omega) (by omega) (by omega) (by omega)).mpr z)
          refine c_refuse X ?_
          exact h0 2 (Or.inr rfl) (by unfold tkN; rw [if_pos ek, if_neg (by omega)])
    · have nk : ¬ tK t n p = 2 := fun z => q2 (by rw [K.k, z]; rfl)
      refine c_refuse X ?_
      exact h0 1 (Or.inl rfl) (if_neg nk)
  · exact absurd hf q1 --end
theorem c_takeNf {J : mJ} (X : mRules J) {I A : mI} {B : mB} {w f : Nat} {R : mR} (hf : ¬ I 3 3 = 0) {v1 v2 v3 : Value} (h : R (some (.int 0)) I A B (pk w f)) : J n_Reader_takeNumber 0 [.ref 3, v1, v2, v3] [] I A B (pk w f) R := by
  refine X 200 _ _ _ _ _ _ _ _ _ ?_
  refine And.intro (fun q1 => ?_) (fun q1 => ?_)
  · exact absurd q1 hf --end
  · exact h
set_option maxRecDepth 20000 in
theorem c_finish {J : mJ} (X : mRules J) {I A : mI} {B : mB} {w f : Nat} {R : mR} {t : Nat → Nat} {n : Nat} (T : TpR 2 A t n) (hn : I 1 1 = nI n) {p : Nat} (hp : p ≤ n) (K : KT I t n p) (hf : I 3 3 = 0) {L : Nat} (hL : L ≤ 61) (hL1 : I 4 1 = nI L) (hL2 : I 4 2 = 0) {v0 v1 v2 v3 : Int32} (h1 : ∀ Iv, tkS t n p = .ok (tE t n p) → (∀ j, j ≠ 4 → j ≠ 6 → Iv j = I j) → Iv 4 1 = nI (L + 1) → Iv 4 2 = I 4 2 → KT Iv t n (tE t n p) → R none Iv (spt A 5 L v0 v1 v2 v3) B (pk w f)) (h0 : tkS t n p = .error (1, tS t n p) → R none (up2 (up2 I 3 3 1) 3 4 (I 6 2)) A B (pk w f)) : J n_Reader_finish 0 [.ref 3, .int v0, .int v1, .int v2, .int v3] [] I A B (pk w f) R := by
  have hE := tE_b (t := t) hp
  refine X 200 _ _ _ _ _ _ _ _ _ ?_
  refine And.intro (fun q1 => ?_) (fun q1 => ?_)
  · refine And.intro (fun q2 => ?_) (fun q2 => ?_)
    · have nk : ¬ tK t n p = 3 := fun z => q2 (by rw [K.k, z]; rfl)
      refine c_refuse X ?_
      exact h0 (if_neg nk)
    · have ek : tK t n p = 3 := (nI_eq (b := 3) (by have := tK_4 (t := t) (n := n) (p := p); omega) (by omega)).mp (K.k.symm.trans q2)
      refine And.intro (fun q3 => ?_) (fun q3 => ?_)
      · exact absurd hL2 q3 --end
      · refine And.intro (fun q4 => ?_) (fun q4 => ?_)
        · rw [hL1] at q4
          exact absurd q4 (nI_ge (b := 62) (by omega) (by omega)) --end
        · refine c_put4 X (k := L) (by omega) hL1 ?_
          refine c_Tadv X (t := t) (n := n) (p := tE t n p) ⟨T.n9, fun k hk => by rw [spt_q (by decide)]; exact T.b k hk⟩ hn hE.2.1 K.e (fun Iv g1 K1 => ?_)
          exact h1 Iv (if_pos ek) (fun j a1 a2 => (g1 j a2).trans (up2_r a1)) (by rw [g1 4 (by decide), up2_s, hL1]; exact nI_1 L) (by rw [g1 4 (by decide)]; exact up2_m (by decide)) K1
  · exact absurd hf q1 --end
theorem c_finishf {J : mJ} (X : mRules J) {I A : mI} {B : mB} {w f : Nat} {R : mR} (hf : ¬ I 3 3 = 0) {v1 v2 v3 v4 : Value} (h : R none I A B (pk w f)) : J n_Reader_finish 0 [.ref 3, v1, v2, v3, v4] [] I A B (pk w f) R := by
  refine X 200 _ _ _ _ _ _ _ _ _ ?_
  refine And.intro (fun q1 => ?_) (fun q1 => ?_)
  · exact absurd q1 hf --end
  · exact h
