/-! contracts of the class: a script replayed (written by wip/whole/gk5.py) -/
theorem c_fillR2 {J : mJ} (X : mRules J) {I A : mI} {B : mB} {w f : Nat} {R : mR} {v : Int32} {r k : Nat} (hr : r < 7) (ek : k = 19 + r) (h : R none I (fil A (19 + r) 320 v) B (pk w f)) : J n_Arrays_fill 0 [.ref k, .int v, .float 0, .float 0] [] I A B (pk w f) R := by
  subst ek
  exact c_fillR X hr h
set_option maxRecDepth 20000 in
theorem c_clear {J : mJ} (X : mRules J) {I A : mI} {B : mB} {w f : Nat} {R : mR} (h : ∀ Av : mI, (∀ q, q < 19 ∨ 25 < q → Av q = A q) → (∀ r d, r < 7 → d < 320 → Av (19 + r) d = 0) → R none (up2 (up2 I 17 4 0) 17 5 0) Av B (pk w f)) : J n_Terms_clear 0 [.ref 17, .float 0] [] I A B (pk w f) R := by
  have G : ∀ i, i ≤ 7 → ∀ (x : Int32) (Av : mI), x = nI i → (∀ q, q < 19 ∨ 25 < q → Av q = A q) → (∀ r d, r < i → d < 320 → Av (19 + r) d = 0) → J n_Terms_clear 12 [.ref 17, .int x] [] (up2 (up2 I 17 4 0) 17 5 0) Av B (pk w f) R := by
    refine lpz (fun i => ∀ (x : Int32) (Av : mI), x = nI i → (∀ q, q < 19 ∨ 25 < q → Av q = A q) → (∀ r d, r < i → d < 320 → Av (19 + r) d = 0) → J n_Terms_clear 12 [.ref 17, .int x] [] (up2 (up2 I 17 4 0) 17 5 0) Av B (pk w f) R) (fun i hi ih => ?_)
    intro x Av ex hq hv
    subst ex
    refine X 200 _ _ _ _ _ _ _ _ _ ?_
    refine And.intro (fun q1 => ?_) (fun q1 => ?_)
    · have e : i = 7 := by have := (nI_leI (a := 7) (by omega) (by omega)).mp q1; omega
      subst e
      exact h Av hq hv
    · have hl : i < 7 := Nat.lt_of_not_le (fun z => q1 (nI_le (a := 7) z (by omega)))
      refine Exists.intro _ (Exists.intro _ (Exists.intro _ (And.intro rfl (And.intro (vin (by omega) (by omega)) ?_))))
      refine c_fillR2 X (r := i) hl (by rw [cl (by omega)]; omega) ?_
      exact ih hl _ _ (nI_1 i) (fun q h1 => by
        funext j
        show (if q = 19 + i ∧ j < 320 then _ else _) = _
        rw [if_neg (by omega), hq q h1]) (fun r d h1 h2 => by
        show (if 19 + r = 19 + i ∧ d < 320 then _ else _) = _
        by_cases e : r = i
        · rw [if_pos ⟨by omega, h2⟩]
        · rw [if_neg (by omega)]
          exact hv r d (by omega) h2)
  refine X 200 _ _ _ _ _ _ _ _ _ ?_
  exact G 0 (Nat.zero_le _) _ _ rfl (fun _ _ => rfl) (fun r d hr => absurd hr (Nat.not_lt_zero r))
theorem CR.bg {I A : mI} {B : mB} {P N K : Nat} (hP : I 16 4 = nI P) (hN : I 16 5 = nI N) (hK : 0 < N → I 16 6 = nI K) (hc : I 16 7 = 0) (hnt : I 17 4 = 0) (hnc : I 17 5 = 0) (hn : I 29 6 = 0) (hru : ∀ r d, r < 7 → d < 320 → A (19 + r) d = 0) (hbl : ∀ d, d < 320 → B 36 d = 0) (hPN : P * N ≤ 320) : CR (zbg P N K) I A B := by
  refine CR.mk hP hN hK hc hnt hnc (fun t ht => absurd ht (Nat.not_lt_zero t)) (fun t ht => absurd ht (Nat.not_lt_zero t)) (fun t ht => absurd ht (Nat.not_lt_zero t)) (fun r d hr hd => ?_) hn (fun t ht => absurd ht (Nat.not_lt_zero t)) (fun t ht => absurd ht (Nat.not_lt_zero t)) (fun t ht => absurd ht (Nat.not_lt_zero t)) (fun t ht => absurd ht (Nat.not_lt_zero t)) (fun t ht => absurd ht (Nat.not_lt_zero t)) ⟨id, fun t ht => absurd ht (Nat.not_lt_zero t), fun t ht => absurd ht (Nat.not_lt_zero t), fun k t _ ht => absurd ht (Nat.not_lt_zero t), fun t ht => absurd ht (Nat.not_lt_zero t)⟩ (fun d hd => ?_) (Nat.zero_le _)
  · have hr2 : r < 0 ∨ 4 ≤ r ∧ r ≤ 6 := hr
    rw [hru r d (by omega) hd, zhl_z (a := zbg P N K) rfl rfl]
    show (0 : Int32) = zN (if r < 4 then ((0 : Nat) : Int) else ((0 : Nat) : Int))
    split <;> rfl
  · have hd2 : d < P * N := hd
    rw [hbl d (by omega)]
    rfl
/-- what a replay leaves of the class as it was -/
def fP (I A : mI) (B : mB) (I' A' : mI) (B' : mB) : Prop := (∀ k, k ≠ 16 → k ≠ 17 → k ≠ 29 → I' k = I k) ∧ (∀ k, k < 19 ∨ 36 < k → A' k = A k) ∧ (∀ k, k ≠ 31 → k ≠ 36 → B' k = B k)
set_option maxRecDepth 20000 in
theorem c_replay {J : mJ} (X : mRules J) {I A : mI} {B : mB} {w f : Nat} {R : mR} {K0 : Nat} {P N K L T m : Nat} {rw : Nat → Rw} (S : ScR 7 8 I A P N K0 L T m rw) (hL0 : 0 < L) (hm : m ≤ 81) (hPN : P * N ≤ 320) (hok : ∀ k, k < m → Ok (zrn P N K rw k) (rw k)) (hgd : ∀ k, k ≤ m → Gd (zrn P N K rw k)) (hch : ∀ k, k ≤ m → Ch (zrn P N K rw k)) (hnn : ∀ k, k < m → (3 ≤ (rw k).1 → (zrn P N K rw k).n < 220) ∧ ((rw k).1 = 5 → (zrn P N K rw k).n + 8 ≤ 220)) (hnc : ∀ k, k ≤ m → (zrn P N K rw k).nc ≤ 32) {xK : Int32} (exK : xK = nI K) (h : ∀ I' A' B', CR (zrn P N K rw m) I' A' B' → fP I A B I' A' B' → R none I' A' B' (pk w f)) : J n_Ledger_replay 0 [.ref 16, .ref 7, .int xK, .float 0] [] I A B (pk w f) R := by
  obtain ⟨hLT, hc1, hc2, hc3⟩ := S.h0 hL0
  have hTm := S.hT
  have hsz : ∀ {I' A' : mI} {B' : mB}, fP I A B I' A' B' → I' 7 1 + I' 7 2 = nI (m + 1) := fun g => by
    rw [g.1 7 (by decide) (by decide) (by decide), S.hL, S.ha, nI_add]
    congr 1
    omega
  have hrow : ∀ {I' : mI} {B' : mB} (A' : mI) k, k < m → fP I A B I' A' B' → CRow 8 A' k (rw k) := fun A' k hk g => by unfold CRow; rw [g.2.1 8 (by omega)]; exact S.hr k hk
  have G : ∀ i, i ≤ m → ∀ (x : Int32) (Iv : mI) (Av : mI) (Bv : mB), x = nI (1 + i) → CR (zrn P N K rw i) Iv Av Bv → fP I A B Iv Av Bv → J n_Ledger_replay 54 [.ref 16, .ref 7, .int xK, .int x] [] Iv Av Bv (pk w f) R := by
    refine lpz (fun i => ∀ (x : Int32) (Iv : mI) (Av : mI) (Bv : mB), x = nI (1 + i) → CR (zrn P N K rw i) Iv Av Bv → fP I A B Iv Av Bv → J n_Ledger_replay 54 [.ref 16, .ref 7, .int xK, .int x] [] Iv Av Bv (pk w f) R) (fun i hi ih => ?_)
    intro x Iv Av Bv ex Cv fv
    subst ex
    refine X 200 _ _ _ _ _ _ _ _ _ ?_
    refine c_size X (hsz fv) ?_
    refine And.intro (fun q1 => ?_) (fun q1 => ?_)
    · have e : i = m := by have := (nI_leI (by omega) (by omega)).mp q1; omega
      subst e
      exact h _ _ _ Cv fv
    · have hl : i < m := by have : 1 + i < m + 1 := Nat.lt_of_not_le (fun z => q1 (nI_le z (by omega))); omega
      refine c_perform X Cv (hgd i (by omega)) (hch i (by omega)) (hnn i hl) (hnc i (by omega)) (k := i) (hsz fv) (by omega) (by omega) (hrow Av i hl fv) (hok i hl) (congrArg nI (Nat.add_comm 1 i)) (fun I1 A1 B1 C1 f1 => ?_)
      exact ih hl _ _ _ _ (nI_1 _) C1 ⟨fun k a1 a2 a3 => (f1.ir k a1 a2 a3).trans (fv.1 k a1 a2 a3), fun k hk => (f1.ar k hk).trans (fv.2.1 k hk), fun k a1 a2 => (f1.br k a1 a2).trans (fv.2.2 k a1 a2)⟩
  refine X 200 _ _ _ _ _ _ _ _ _ ?_
  refine c_clear X (fun Av hq hv => ?_)
  have h7 : Av 8 = A 8 := hq 8 (by omega)
  refine c_fill36 X ?_
  refine c_told X (s := m + 1) (r := 0) (c := 1) (by show I 7 1 + I 7 2 = _; rw [S.hL, S.ha, nI_add]; congr 1; omega) (by omega) (by omega) (by omega) rfl rfl ?_
  refine c_told X (s := m + 1) (r := 0) (c := 2) (by show I 7 1 + I 7 2 = _; rw [S.hL, S.ha, nI_add]; congr 1; omega) (by omega) (by omega) (by omega) rfl rfl ?_
  have e1 : Av 8 (4 * 0 + 1) = nI P := by rw [h7]; exact hc1
  have e2 : Av 8 (4 * 0 + 2) = nI N := by rw [h7]; exact hc2
  refine G 0 (Nat.zero_le _) _ _ _ _ rfl (CR.bg (P := P) (N := N) (K := K) e1 e2 (fun _ => exK) rfl rfl rfl rfl hv (fun d hd => if_pos ⟨rfl, hd⟩) hPN) ⟨fun k a1 a2 a3 => ?_, fun k hk => hq k (by omega), fun k a1 a2 => ?_⟩
  · rw [up2_r a1, up2_r a1, up2_r a1, up2_r a1, up2_r a3, up2_r a2, up2_r a2]
  · funext j
    exact if_neg (fun z => a2 z.1)
