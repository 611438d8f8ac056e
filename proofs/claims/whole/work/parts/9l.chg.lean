/-! the law: what changes -/
def Dt.nb (D : Dt) (b' : Bk) : Dt := (Dt.mk (b') (Dt.i0 D) (Dt.i1 D) (Dt.i2 D) (Dt.n D) (Dt.tp D) (Dt.e1 D) (Dt.e2 D) (nI b'.K))
def Bk.ad (b : Bk) (r : Rw) : Bk := (Bk.mk (Bk.P b) (Bk.N b) (Bk.K b) (Bk.L b) (Bk.T b) (b.m + 1) (zup b.rw b.m r))
def Bk.at_ (b : Bk) (m' : Nat) : Bk := (Bk.mk (Bk.P b) (Bk.N b) (Bk.K b) (Bk.L b) (Bk.T b) (m') (Bk.rw b))
theorem acB_K {b : Bk} : (acB b).K = b.K ∧ (acB b).N = b.N ∧ (acB b).P = b.P := by
  have h := rn_PNK (P := b.P) (N := b.N) (K := b.K) (rw := b.rw) b.m
  exact ⟨h.2.2.1, h.2.1, h.1⟩
theorem acB_ad {b : Bk} {r : Rw} : acB (b.ad r) = zdo (acB b) r := by
  show zdo (zrn b.P b.N b.K (zup b.rw b.m r) b.m) (zup b.rw b.m r b.m) = _
  rw [zrn_up b.m (Nat.le_refl _), zup_s]
  rfl
theorem KSt.nb {I A I' A' : mI} {B B' : mB} {D : Dt} (K : KSt I A B D) {b' : Bk} (C : CR (acB b') I' A' B') (S : scB 7 8 I' A' b') (hN : 0 < b'.N) (hI : ∀ k, k = 1 ∨ k = 3 ∨ k = 10 ∨ k = 12 ∨ k = 14 → I' k = I k) (hA : ∀ k, k = 2 ∨ k = 11 ∨ k = 13 ∨ k = 15 → A' k = A k) : KSt I' A' B' (D.nb b') := by
  refine ⟨C, ?_, S, ScR.fr K.s0 (hI 10 (by decide)) (hA 11 (by decide)), ScR.fr K.s1 (hI 12 (by decide)) (hA 13 (by decide)), ScR.fr K.s2 (hI 14 (by decide)) (hA 15 (by decide)), ?_, ?_, ?_, ?_⟩
  · rw [C.hK (by rw [acB_K.2.1]; exact hN), acB_K.1]; rfl
  · rw [hI 1 (by decide)]; exact K.t1
  · rw [hA 2 (by decide)]; exact K.tp
  · rw [hI 3 (by decide)]; exact K.e1
  · rw [hI 3 (by decide)]; exact K.e2
theorem MSt.nb {w : Nat} {I A I' A' : mI} {B B' : mB} {D : Dt} (M : MSt w I A B D) {b' : Bk} (M' : MR (acB b') w I' A' B') (W : wdB w A' b') (hN : 0 < b'.N) (hA : ∀ k, k = 46 ∨ k = 47 ∨ k = 60 → A' k = A k) (hI : ∀ j, j = 26 ∨ j = 33 ∨ j = 34 → I' 43 j = I 43 j) : MSt w I' A' B' (D.nb b') := by
  have h6 := hA 46 (by decide)
  have h7 := hA 47 (by decide)
  refine ⟨M', W, ?_, M.g0.fr h6 h7, M.g1.fr h6 h7, M.g2.fr h6 h7, ?_, ?_, ?_, ?_⟩
  · rw [M'.hK (by rw [acB_K.2.1]; exact hN), acB_K.1]; rfl
  · rw [hI 26 (by decide)]; exact M.t1
  · rw [hA 60 (by decide)]; exact M.tp
  · rw [hI 33 (by decide)]; exact M.e1
  · rw [hI 34 (by decide)]; exact M.e2
theorem DV.nb {D : Dt} (H : DV D) {b' : Bk} (h : vB b') : DV (D.nb b') := ⟨h, H.i0, H.i1, H.i2, H.n9, H.by_⟩
theorem fS.lo {I A I' A' : mI} {B B' : mB} (h : fS I A B I' A' B') : loF I A B I' A' B' := fun k hk => ⟨h.ir k (by omega) (by omega) (by omega) (by omega), h.ar k (by omega) (by omega), h.br k (by omega) (by omega)⟩
theorem fK.lo {I A I' A' : mI} {B B' : mB} (h : fK I A B I' A' B') : loF I A B I' A' B' := fun k hk => ⟨h.ir k (by omega) (by omega) (by omega) (by omega), h.ar k (by omega) (by omega), h.br k (by omega)⟩
theorem fS.kI {I A I' A' : mI} {B B' : mB} (h : fS I A B I' A' B') : (∀ k, k = 1 ∨ k = 3 ∨ k = 10 ∨ k = 12 ∨ k = 14 → I' k = I k) ∧ (∀ k, k = 2 ∨ k = 11 ∨ k = 13 ∨ k = 15 → A' k = A k) := ⟨fun k hk => h.ir k (by omega) (by omega) (by omega) (by omega), fun k hk => h.ar k (by omega) (by omega)⟩
theorem fK.kI {I A I' A' : mI} {B B' : mB} (h : fK I A B I' A' B') : (∀ k, k = 1 ∨ k = 3 ∨ k = 10 ∨ k = 12 ∨ k = 14 → I' k = I k) ∧ (∀ k, k = 2 ∨ k = 11 ∨ k = 13 ∨ k = 15 → A' k = A k) := ⟨fun k hk => h.ir k (by omega) (by omega) (by omega) (by omega), fun k hk => h.ar k (by omega) (by omega)⟩
theorem fA.kI {w : Nat} {I A I' A' : mI} {B B' : mB} (h5 : w = 44 ∨ w = 45) (h : fA w I A B I' A' B') : (∀ k, k = 46 ∨ k = 47 ∨ k = 60 → A' k = A k) ∧ (∀ j, j = 26 ∨ j = 33 ∨ j = 34 → I' 43 j = I 43 j) := ⟨fun k hk => h.row k (by omega) (by omega), fun j hj => h.i43 j (by omega) (by omega) (by omega) (by omega) (by omega) (by omega) (by omega) (by omega)⟩
theorem ac_pay_i {a : Ac} {fl : Bool} {d m : Int32} {sg : Int} {r : Rw} (h : ac_pay a fl d m sg = .inr r) : r.1 = 3 ∧ fl = false ∧ a.c < a.N := by
  unfold ac_pay at h
  cases q : ixN (zD a) d with
  | none => rw [q] at h; cases h
  | some d0 =>
    rw [q] at h
    dsimp only at h
    by_cases z : (1 : Int32) ≤ m ∧ m ≤ 99999
    · rw [if_pos z] at h
      by_cases y : a.c < a.N ∧ fl = false
      · rw [if_pos y] at h
        have e := Sum.inr.inj h
        subst e
        exact ⟨rfl, y.2, y.1⟩
      · rw [if_neg y] at h; cases h
    · rw [if_neg z] at h; cases h
theorem ac_close_i {a : Ac} {bk fl : Bool} {r : Rw} (h : ac_close a bk fl = .inr r) : r.1 = 4 ∧ fl = false ∧ a.c < a.N := by
  cases bk with
  | false => cases h
  | true =>
    have h' : (if a.c < a.N ∧ fl = false then Sum.inr (4, 0, 0, 0) else Sum.inl (-5)) = (Sum.inr r : Sum Int32 Rw) := h
    by_cases y : a.c < a.N ∧ fl = false
    · rw [if_pos y] at h'
      have e := Sum.inr.inj h'
      subst e
      exact ⟨rfl, y.2, y.1⟩
    · rw [if_neg y] at h'; cases h'
theorem ac_rerun_i {a : Ac} {bk fl : Bool} {r : Rw} (h : ac_rerun a bk fl = .inr r) : r.1 = 5 ∧ fl = false ∧ a.c < a.N := by
  cases bk with
  | false => cases h
  | true =>
    have h' : (if a.c < a.N ∧ fl = false then Sum.inr (5, 0, 0, 0) else Sum.inl (-5)) = (Sum.inr r : Sum Int32 Rw) := h
    by_cases y : a.c < a.N ∧ fl = false
    · rw [if_pos y] at h'
      have e := Sum.inr.inj h'
      subst e
      exact ⟨rfl, y.2, y.1⟩
    · rw [if_neg y] at h'; cases h'
theorem ixN_lt {N : Nat} (hN : N < 2 ^ 31) {x : Int32} {k : Nat} (h : ixN N x = some k) : k < N := by
  rcases ixN_c hN x with ⟨j, hj, _, e⟩ | ⟨_, e⟩
  · rw [e] at h; have := Option.some.inj h; omega
  · rw [e] at h; cases h
theorem ac_change_i {a : Ac} (hD : zD a < 2 ^ 31) {fl : Bool} {d q v : Int32} {r : Rw} (h : ac_change a fl d q v = .inr r) : r.1 = 2 ∧ fl = false ∧ 0 < zD a := by
  unfold ac_change at h
  cases q1 : ixN (zD a) d with
  | none => rw [q1] at h; cases h
  | some d0 =>
    have hd := ixN_lt hD q1
    rw [q1] at h
    dsimp only at h
    cases q2 : ixN 7 q with
    | none => rw [q2] at h; cases h
    | some q0 =>
      rw [q2] at h
      dsimp only at h
      by_cases z : q0 < a.nt ∨ 4 ≤ q0
      · rw [if_pos z] at h
        cases q3 : ixN (if q0 = 6 then 100000 else 5001) v with
        | none => rw [q3] at h; cases h
        | some v0 =>
          rw [q3] at h
          dsimp only at h
          by_cases y : fl = false
          · rw [if_pos y] at h
            have e := Sum.inr.inj h
            subst e
            exact ⟨rfl, y, by omega⟩
          · rw [if_neg y] at h; cases h
      · rw [if_neg z] at h; cases h
theorem ac_reverse_i {a : Ac} (hn : a.n < 2 ^ 31) {fl : Bool} {e : Int32} {r : Rw} (h : ac_reverse a fl e = .inr r) : r.1 = 6 ∧ fl = false ∧ a.c < a.N ∧ ∃ e0, e0 < a.n ∧ a.so e0 = 0 ∧ ztn a e0 = false ∧ r.2.1 = ct (fun j => decide (a.so j = 0)) e0 := by
  unfold ac_reverse at h
  cases q : ixN a.n e with
  | none => rw [q] at h; cases h
  | some e0 =>
    have he := ixN_lt hn q
    rw [q] at h
    dsimp only at h
    by_cases y : a.so e0 = 0 ∧ ztn a e0 = false ∧ a.c < a.N ∧ fl = false
    · rw [if_pos y] at h
      have e := Sum.inr.inj h
      subst e
      exact ⟨rfl, y.2.2.2, y.2.2.1, e0, he, y.1, y.2.1, rfl⟩
    · rw [if_neg y] at h; cases h
theorem vB_ad {b : Bk} (H : vB b) {r : Rw} (hN : 0 < b.N) (hT : b.m - b.T ≠ 20) (O : Ok (acB b) r) (h2 : 2 ≤ r.1) (hr : r.1 = 6 → ∃ e0, e0 < (acB b).n ∧ (acB b).so e0 = 0 ∧ ztn (acB b) e0 = false ∧ r.2.1 = ct (fun j => decide ((acB b).so j = 0)) e0) : vB (b.ad r) ∧ 0 < b.L := by
  have H' : BkV b.P b.N b.K b.L b.T b.m b.rw := H
  have hL : 0 < b.L := by
    rcases Nat.lt_or_ge 0 b.L with z | z
    · exact z
    · have := H'.z (by omega)
      omega
  refine ⟨H'.ad hL (by have := H'.mT; omega) O h2 (fun h6 j hj hj6 e => ?_), hL⟩
  obtain ⟨e0, g1, g2, g3, g4⟩ := hr h6
  obtain ⟨j', k1, k2, k3⟩ := tn_c H'.P40 H'.N8 H'.K1 H'.K4 H'.v b.m (Nat.le_refl _) j hj hj6
  have e5 : zpe (acB b) (b.rw j).2.1 = e0 := zpe_u g1 g2 (by rw [e, g4])
  have e6 : ztn (acB b) e0 = true := ztn_i.mpr ⟨j', k1, k2, by rw [← e5]; exact k3⟩
  rw [g3] at e6
  cases e6
theorem vB_at {b : Bk} (H : vB b) {m' : Nat} (h1 : b.T ≤ m') (h2 : m' ≤ b.m) : vB (b.at_ m') := BkV.ac H h1 h2
/-- the tape fed -/
def Dt.fd (D : Dt) (x1 x2 x3 x4 x5 : Int32) : Dt := (Dt.mk (Dt.b D) (Dt.i0 D) (Dt.i1 D) (Dt.i2 D) (D.n + 20) (fun k => if k < D.n then D.tp k else bt (fv5 x1 x2 x3 x4 x5 ((k - D.n) / 4)) (zN (24 - 8 * (((k - D.n) % 4 : Nat) : Int)))) (Dt.e1 D) (Dt.e2 D) (Dt.ka D))
def Dt.en (D : Dt) (k : Nat) : Dt := (Dt.mk (Dt.b D) (Dt.i0 D) (Dt.i1 D) (Dt.i2 D) (k) (Dt.tp D) (Dt.e1 D) (Dt.e2 D) (Dt.ka D))
theorem fd_t {D : Dt} {x1 x2 x3 x4 x5 : Int32} {F F' : Nat → Int32} (h : ∀ k, k < D.n → F k = D.tp k) (h1 : ∀ z, z < D.n ∨ D.n + 20 ≤ z → F' z = F z) (h2 : ∀ i : Nat, i < 20 → F' (D.n + i) = bt (fv5 x1 x2 x3 x4 x5 (i / 4)) (zN (24 - 8 * ((i % 4 : Nat) : Int)))) : ∀ k, k < (D.fd x1 x2 x3 x4 x5).n → F' k = (D.fd x1 x2 x3 x4 x5).tp k := fun k hk => by
  have hk' : k < D.n + 20 := hk
  show F' k = if k < D.n then D.tp k else bt (fv5 x1 x2 x3 x4 x5 ((k - D.n) / 4)) (zN (24 - 8 * (((k - D.n) % 4 : Nat) : Int)))
  by_cases z : k < D.n
  · rw [if_pos z, h1 k (Or.inl z)]; exact h k z
  · rw [if_neg z]
    have := h2 (k - D.n) (by omega)
    rw [show D.n + (k - D.n) = k by omega] at this
    exact this
theorem KSt.tape {I A I' A' : mI} {B : mB} {D : Dt} (K : KSt I A B D) {n' : Nat} {t' : Nat → Int32} (hI : ∀ k j, ¬ (k = 1 ∧ j = 1) → I' k j = I k j) (hA : ∀ q, q ≠ 2 → A' q = A q) (h1 : I' 1 1 = nI n') (h2 : ∀ k, k < n' → A' 2 k = t' k) : KSt I' A' B ((Dt.mk (Dt.b D) (Dt.i0 D) (Dt.i1 D) (Dt.i2 D) (n') (t') (Dt.e1 D) (Dt.e2 D) (Dt.ka D))) := by
  have hr : ∀ k, k ≠ 1 → I' k = I k := fun k hk => funext (fun j => hI k j (fun z => hk z.1))
  refine ⟨K.C.fw (hr 16 (by decide)) (hr 17 (by decide)) (hr 29 (by decide)) (fun k h1 h2 => hA k (by omega)), ?_, ScR.fr K.S (hr 7 (by decide)) (hA 8 (by decide)), ScR.fr K.s0 (hr 10 (by decide)) (hA 11 (by decide)), ScR.fr K.s1 (hr 12 (by decide)) (hA 13 (by decide)), ScR.fr K.s2 (hr 14 (by decide)) (hA 15 (by decide)), h1, h2, ?_, ?_⟩
  · rw [hr 16 (by decide)]; exact K.k6
  · rw [hr 3 (by decide)]; exact K.e1
  · rw [hr 3 (by decide)]; exact K.e2
theorem MSt.tape {w : Nat} {I A A' : mI} {B : mB} {D : Dt} (M : MSt w I A B D) {n' : Nat} {t' : Nat → Int32} {x : Int32} (hA : ∀ q, q ≠ 60 → q ≠ 61 → A' q = A q) (h1 : x = nI n') (h2 : ∀ k, k < n' → A' 60 k = t' k) : MSt w (up2 I 43 26 x) A' B ((Dt.mk (Dt.b D) (Dt.i0 D) (Dt.i1 D) (Dt.i2 D) (n') (t') (Dt.e1 D) (Dt.e2 D) (Dt.ka D))) := by
  have h5 := M.M.w5
  have h6 := hA 46 (by decide) (by decide)
  have h7 := hA 47 (by decide) (by decide)
  refine ⟨?_, WdR.fr M.W (hA w (by omega) (by omega)), ?_, M.g0.fr h6 h7, M.g1.fr h6 h7, M.g2.fr h6 h7, up2_s.trans h1, h2, (up2_m (by decide)).trans M.e1, (up2_m (by decide)).trans M.e2⟩
  · have M1 : MR (acB D.b) w (up2 I 43 26 x) A B := M.M.gm (fun j hj => up2_m (by omega))
    refine MR.mk M1.hw M1.w5 ?_ ?_ ?_ M1.hnt ?_ ?_ ?_ M1.hnc ?_ ?_ ?_ M1.hn ?_ M1.ham ?_ ?_ ?_ M1.hc M1.hti M1.htb M1.hfo
    · rw [hA w (by omega) (by omega)]; exact M1.hP
    · rw [hA w (by omega) (by omega)]; exact M1.hN
    · rw [hA w (by omega) (by omega)]; exact M1.hK
    · rw [hA 48 (by decide) (by decide)]; exact M1.htr
    · rw [hA 49 (by decide) (by decide)]; exact M1.htt
    · rw [hA 50 (by decide) (by decide)]; exact M1.hdb
    · rw [hA 51 (by decide) (by decide)]; exact M1.hcd
    · rw [hA 52 (by decide) (by decide)]; exact M1.hco
    · rw [hA 53 (by decide) (by decide)]; exact M1.hcv
    · rw [hA 54 (by decide) (by decide)]; exact M1.hso
    · rw [hA 56 (by decide) (by decide)]; exact M1.hva
    · rw [hA 57 (by decide) (by decide)]; exact M1.hpg
    · rw [hA 58 (by decide) (by decide)]; exact M1.hog
  · rw [hA w (by omega) (by omega)]; exact M.k6
