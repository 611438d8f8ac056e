/-! the class's reader between two lines -/
def fX (I A I' A' : mI) : Prop :=
  (∀ k, k ≠ 3 → k ≠ 4 → k ≠ 6 → I' k = I k) ∧
  (∀ k, k ≠ 5 → A' k = A k)
theorem fX.ir {I A I' A' : mI} (self : fX I A I' A') : ∀ k, k ≠ 3 → k ≠ 4 → k ≠ 6 → I' k = I k := self.1
theorem fX.ar {I A I' A' : mI} (self : fX I A I' A') : ∀ k, k ≠ 5 → A' k = A k := self.2
theorem fX.mk {I A I' A' : mI} (h_ir : ∀ k, k ≠ 3 → k ≠ 4 → k ≠ 6 → I' k = I k) (h_ar : ∀ k, k ≠ 5 → A' k = A k) : fX I A I' A' := ⟨h_ir, h_ar⟩
theorem fX.refl (I A : mI) : fX I A I A := ⟨fun _ _ _ _ => rfl, fun _ _ => rfl⟩
theorem fX.trans {I A I' A' I2 A2 : mI} (h : fX I A I' A') (g : fX I' A' I2 A2) : fX I A I2 A2 := ⟨fun k a1 a2 a3 => (g.ir k a1 a2 a3).trans (h.ir k a1 a2 a3), fun k a1 => (g.ar k a1).trans (h.ar k a1)⟩
def KS (I A : mI) (t : Nat → Nat) (n : Nat) (s : St) : Prop :=
  (I 3 3 = 0) ∧
  (I 3 4 = -1) ∧
  (KT I t n s.p) ∧
  (ScR 4 5 I A s.P s.N s.K s.L s.m s.m s.rw) ∧
  (0 < s.L → I 3 5 = nI (s.P * s.N) ∧ I 3 6 = nI s.N) ∧
  (I 3 7 = nI (ctk s.rw 0 s.m)) ∧
  (I 3 9 = 0 → I 3 8 = nI (ltp s.rw s.m)) ∧
  (I 3 9 = if 0 < ctk s.rw 0 s.m ∧ ltp s.rw s.m = 0 then 1 else 0) ∧
  (I 3 10 = if 0 < ctk s.rw 1 s.m then 1 else 0) ∧
  (I 3 11 = nI (ctk s.rw 2 s.m)) ∧
  (I 3 12 = nI (ctk s.rw 3 s.m)) ∧
  (I 3 13 = nI (ctk s.rw 4 s.m)) ∧
  (I 3 14 = nI (ctk s.rw 5 s.m))
theorem KS.fl {I A : mI} {t : Nat → Nat} {n : Nat} {s : St} (self : KS I A t n s) : I 3 3 = 0 := self.1
theorem KS.pl {I A : mI} {t : Nat → Nat} {n : Nat} {s : St} (self : KS I A t n s) : I 3 4 = -1 := self.2.1
theorem KS.tk {I A : mI} {t : Nat → Nat} {n : Nat} {s : St} (self : KS I A t n s) : KT I t n s.p := self.2.2.1
theorem KS.sc {I A : mI} {t : Nat → Nat} {n : Nat} {s : St} (self : KS I A t n s) : ScR 4 5 I A s.P s.N s.K s.L s.m s.m s.rw := self.2.2.2.1
theorem KS.dy {I A : mI} {t : Nat → Nat} {n : Nat} {s : St} (self : KS I A t n s) : 0 < s.L → I 3 5 = nI (s.P * s.N) ∧ I 3 6 = nI s.N := self.2.2.2.2.1
theorem KS.ti {I A : mI} {t : Nat → Nat} {n : Nat} {s : St} (self : KS I A t n s) : I 3 7 = nI (ctk s.rw 0 s.m) := self.2.2.2.2.2.1
theorem KS.lt {I A : mI} {t : Nat → Nat} {n : Nat} {s : St} (self : KS I A t n s) : I 3 9 = 0 → I 3 8 = nI (ltp s.rw s.m) := self.2.2.2.2.2.2.1
theorem KS.tl {I A : mI} {t : Nat → Nat} {n : Nat} {s : St} (self : KS I A t n s) : I 3 9 = if 0 < ctk s.rw 0 s.m ∧ ltp s.rw s.m = 0 then 1 else 0 := self.2.2.2.2.2.2.2.1
theorem KS.db {I A : mI} {t : Nat → Nat} {n : Nat} {s : St} (self : KS I A t n s) : I 3 10 = if 0 < ctk s.rw 1 s.m then 1 else 0 := self.2.2.2.2.2.2.2.2.1
theorem KS.ch {I A : mI} {t : Nat → Nat} {n : Nat} {s : St} (self : KS I A t n s) : I 3 11 = nI (ctk s.rw 2 s.m) := self.2.2.2.2.2.2.2.2.2.1
theorem KS.mo {I A : mI} {t : Nat → Nat} {n : Nat} {s : St} (self : KS I A t n s) : I 3 12 = nI (ctk s.rw 3 s.m) := self.2.2.2.2.2.2.2.2.2.2.1
theorem KS.cl {I A : mI} {t : Nat → Nat} {n : Nat} {s : St} (self : KS I A t n s) : I 3 13 = nI (ctk s.rw 4 s.m) := self.2.2.2.2.2.2.2.2.2.2.2.1
theorem KS.re {I A : mI} {t : Nat → Nat} {n : Nat} {s : St} (self : KS I A t n s) : I 3 14 = nI (ctk s.rw 5 s.m) := self.2.2.2.2.2.2.2.2.2.2.2.2
theorem KS.mk {I A : mI} {t : Nat → Nat} {n : Nat} {s : St} (h_fl : I 3 3 = 0) (h_pl : I 3 4 = -1) (h_tk : KT I t n s.p) (h_sc : ScR 4 5 I A s.P s.N s.K s.L s.m s.m s.rw) (h_dy : 0 < s.L → I 3 5 = nI (s.P * s.N) ∧ I 3 6 = nI s.N) (h_ti : I 3 7 = nI (ctk s.rw 0 s.m)) (h_lt : I 3 9 = 0 → I 3 8 = nI (ltp s.rw s.m)) (h_tl : I 3 9 = if 0 < ctk s.rw 0 s.m ∧ ltp s.rw s.m = 0 then 1 else 0) (h_db : I 3 10 = if 0 < ctk s.rw 1 s.m then 1 else 0) (h_ch : I 3 11 = nI (ctk s.rw 2 s.m)) (h_mo : I 3 12 = nI (ctk s.rw 3 s.m)) (h_cl : I 3 13 = nI (ctk s.rw 4 s.m)) (h_re : I 3 14 = nI (ctk s.rw 5 s.m)) : KS I A t n s := ⟨h_fl, h_pl, h_tk, h_sc, h_dy, h_ti, h_lt, h_tl, h_db, h_ch, h_mo, h_cl, h_re⟩
def qX (t : Nat → Nat) (n w f : Nat) (I A : mI) (B : mB) (R : mR) (x : Except Fl St) : Prop := match x with
  | .ok s' => ∀ I' A', KS I' A' t n s' → fX I A I' A' → R none I' A' B (pk w f)
  | .error e => ∀ I' A', ¬ nI e.1 = 0 → I' 3 3 = nI e.1 → I' 3 4 = nI e.2 → fX I A I' A' → R none I' A' B (pk w f)
theorem ifc {c k : Nat} {x y : Int32} (h : x = if k = c then y + 1 else y) {z : Nat} (hy : y = nI z) : x = nI (z + (if k = c then 1 else 0)) := by
  rw [h]
  by_cases e : k = c
  · rw [if_pos e, if_pos e, hy]; exact nI_1 z
  · rw [if_neg e, if_neg e, hy]; rfl
theorem KS.ad {I A Iv Av : mI} {t : Nat → Nat} {n : Nat} {s : St} {r : Rw} {q : Nat} (S : KS I A t n s) (V : PV n s) (hL : 0 < s.L) (H : RV s r) (fl : Iv 3 3 = 0) (pl : Iv 3 4 = I 3 4) (tk : KT Iv t n q) (sc : ScR 4 5 Iv Av s.P s.N s.K (s.L + 1) (s.m + 1) (s.m + 1) (zup s.rw s.m r)) (h5 : Iv 3 5 = I 3 5) (h6 : Iv 3 6 = I 3 6) (h7 : Iv 3 7 = if r.1 = 0 then I 3 7 + 1 else I 3 7) (h8 : r.1 ≠ 0 → Iv 3 8 = I 3 8) (h8' : r.1 = 0 → r.2.2.1 ≠ 0 → Iv 3 8 = zN r.2.2.1) (h9 : Iv 3 9 = if r.1 = 0 then (if r.2.2.1 = 0 then 1 else 0) else I 3 9) (h10 : Iv 3 10 = if r.1 = 1 then 1 else I 3 10) (h11 : Iv 3 11 = if r.1 = 2 then I 3 11 + 1 else I 3 11) (h12 : Iv 3 12 = if r.1 = 3 then I 3 12 + 1 else I 3 12) (h13 : Iv 3 13 = if r.1 = 4 then I 3 13 + 1 else I 3 13) (h14 : Iv 3 14 = if r.1 = 5 then I 3 14 + 1 else I 3 14) : KS Iv Av t n (adr s r q) := by
  have hu := ltp_us (rw := s.rw) (m := s.m) (r := r)
  have c := fun z => ctk_us (rw := s.rw) (m := s.m) (q := z) (r := r)
  refine ⟨fl, pl.trans S.pl, tk, sc, fun _ => ⟨h5.trans (S.dy hL).1, h6.trans (S.dy hL).2⟩, ?_, ?_, ?_, ?_, ?_, ?_, ?_, ?_⟩
  · show Iv 3 7 = nI (ctk (zup s.rw s.m r) 0 (s.m + 1))
    rw [c 0]
    exact ifc h7 S.ti
  · show Iv 3 9 = 0 → Iv 3 8 = nI (ltp (zup s.rw s.m r) (s.m + 1))
    rw [hu, h9]
    by_cases z : r.1 = 0
    · rw [if_pos z, if_pos z]
      intro y
      have hr : r.2.2.1 ≠ 0 := fun e => by rw [if_pos e] at y; exact absurd y (by decide)
      rw [h8' z hr, nI_z]
      have := (H.t z).2.2.2.1
      congr 1
      omega
    · rw [if_neg z, if_neg z, h8 z]
      exact S.lt
  · show Iv 3 9 = if 0 < ctk (zup s.rw s.m r) 0 (s.m + 1) ∧ ltp (zup s.rw s.m r) (s.m + 1) = 0 then 1 else 0
    rw [hu, c 0, h9]
    by_cases z : r.1 = 0
    · rw [if_pos z, if_pos z, if_pos z]
      have := (H.t z).2.2.2.1
      by_cases y : r.2.2.1 = 0
      · rw [if_pos y, if_pos (by omega)]
      · rw [if_neg y, if_neg (by omega)]
    · rw [if_neg z, if_neg z, if_neg z]
      exact S.tl
  · show Iv 3 10 = if 0 < ctk (zup s.rw s.m r) 1 (s.m + 1) then 1 else 0
    rw [c 1, h10]
    by_cases z : r.1 = 1
    · rw [if_pos z, if_pos z, if_pos (by omega)]
    · rw [if_neg z, if_neg z]
      exact S.db
  · show Iv 3 11 = nI (ctk (zup s.rw s.m r) 2 (s.m + 1))
    rw [c 2]
    exact ifc h11 S.ch
  · show Iv 3 12 = nI (ctk (zup s.rw s.m r) 3 (s.m + 1))
    rw [c 3]
    exact ifc h12 S.mo
  · show Iv 3 13 = nI (ctk (zup s.rw s.m r) 4 (s.m + 1))
    rw [c 4]
    exact ifc h13 S.cl
  · show Iv 3 14 = nI (ctk (zup s.rw s.m r) 5 (s.m + 1))
    rw [c 5]
    exact ifc h14 S.re
/-- a line more in a script -/
theorem ScR.al {o c : Nat} {I A I' : mI} {P N K L m : Nat} {rw : Nat → Rw} (S : ScR o c I A P N K L m m rw) (hL : 0 < L) {r : Rw} {v0 v1 v2 v3 : Int32} (hI1 : I' o 1 = nI (L + 1)) (hI2 : I' o 2 = I o 2) (h0 : v0 = nI (r.1 + 1)) (h1 : v1 = nI r.2.1) (h2 : v2 = if r.1 = 0 ∧ r.2.2.1 = 0 then -1 else zN r.2.2.1) (h3 : v3 = nI r.2.2.2) : ScR o c I' (spt A c L v0 v1 v2 v3) P N K (L + 1) (m + 1) (m + 1) (zup rw m r) := by
  have hl := S.h0 hL
  have eL : L = m + 1 := hl.1
  subst eL
  refine ⟨hI1, ?_, Nat.le_refl _, fun _ => ⟨rfl, ?_⟩, fun h => absurd h (by omega), fun k hk => ?_⟩
  · rw [hI2, S.ha, Nat.sub_self, Nat.sub_self]
  · rw [spt_o (by omega), spt_o (by omega), spt_o (by omega)]
    exact hl.2
  · by_cases e : k = m
    · subst e
      rw [zup_s]
      obtain ⟨g0, g1, g2, g3⟩ := spt_n (A := A) (c := c) (k := k + 1) (v0 := v0) (v1 := v1) (v2 := v2) (v3 := v3)
      exact ⟨g0.trans h0, g1.trans h1, g2.trans h2, g3.trans h3⟩
    · rw [zup_n e]
      obtain ⟨g0, g1, g2, g3⟩ := S.hr k (by omega)
      exact ⟨(spt_o (by omega)).trans g0, (spt_o (by omega)).trans g1, (spt_o (by omega)).trans g2, (spt_o (by omega)).trans g3⟩
theorem ScR.bk {o c : Nat} {I A I' : mI} {P N K : Nat} {rw : Nat → Rw} {v0 v1 v2 v3 : Int32} (hI1 : I' o 1 = nI 1) (hI2 : I' o 2 = 0) (h1 : v1 = nI P) (h2 : v2 = nI N) (h3 : v3 = nI K) : ScR o c I' (spt A c 0 v0 v1 v2 v3) P N K 1 0 0 rw := by
  obtain ⟨g0, g1, g2, g3⟩ := spt_n (A := A) (c := c) (k := 0) (v0 := v0) (v1 := v1) (v2 := v2) (v3 := v3)
  exact ⟨hI1, hI2, Nat.le_refl _, fun _ => ⟨rfl, g1.trans h1, g2.trans h2, g3.trans h3⟩, fun h => absurd h (by omega), fun k hk => absurd hk (Nat.not_lt_zero k)⟩
theorem zN_hi {k : Nat} : nI k - 1 = zN ((k : Int) - 1) := by
  rw [nI_z]
  exact (Int32.ofInt_sub (k : Int) 1).symm
theorem tkW_ne {t : Nat → Nat} {n k p : Nat} {e : Fl} (h : tW t n p k = true) (h2 : tkW t n k p = .error e) : False := by
  unfold tkW at h2
  rw [if_pos h] at h2
  cases h2
theorem nI_12 {k : Nat} (h : k = 1 ∨ k = 2) : ¬ nI k = 0 := by
  rcases h with e | e <;> subst e <;> decide
theorem whc_i {t : Nat → Nat} {n : Nat} {s : St} {p : Nat} (hp : p ≤ n) {q : Nat × Nat} (h2 : whc t n s p = .ok q) : (q.1 < ctk s.rw 0 s.m ∨ 4 ≤ q.1 ∧ q.1 ≤ 6) ∧ p ≤ q.2 ∧ q.2 ≤ n := by
  have b3 := tE_b (t := t) hp
  unfold whc at h2
  by_cases y : tW t n p 4 = true
  · rw [if_pos y] at h2
    have g := tkN_i h2
    have b4 := tE_b (t := t) b3.2.1
    rw [g.2.2]
    omega
  · rw [if_neg y] at h2
    by_cases y : tW t n p 6 = true
    · rw [if_pos y] at h2
      have e := Except.ok.inj h2
      subst e
      omega
    · rw [if_neg y] at h2
      by_cases y : tW t n p 7 = true
      · rw [if_pos y] at h2
        have e := Except.ok.inj h2
        subst e
        omega
      · rw [if_neg y] at h2
        obtain ⟨u, h3, h4⟩ := bnd_i h2
        have e := Except.ok.inj h4
        subst e
        have g := tkW_i h3
        omega
theorem nI_3 : ¬ nI 3 = 0 := by decide
