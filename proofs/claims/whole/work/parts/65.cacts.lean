/-! acts of the class: a row more in its script -/
def spt (A : mI) (c k : Nat) (v0 v1 v2 v3 : Int32) : mI := up2 (up2 (up2 (up2 A c (4 * k) v0) c (4 * k + 1) v1) c (4 * k + 2) v2) c (4 * k + 3) v3
theorem spt_q {A : mI} {c k q : Nat} {v0 v1 v2 v3 : Int32} (h : q ≠ c) : spt A c k v0 v1 v2 v3 q = A q := by
  unfold spt
  rw [up2_r h, up2_r h, up2_r h, up2_r h]
theorem spt_o {A : mI} {c k j : Nat} {v0 v1 v2 v3 : Int32} (h : j < 4 * k ∨ 4 * k + 3 < j) : spt A c k v0 v1 v2 v3 c j = A c j := by
  unfold spt
  rw [up2_m (by omega), up2_m (by omega), up2_m (by omega), up2_m (by omega)]
theorem spt_n {A : mI} {c k : Nat} {v0 v1 v2 v3 : Int32} : spt A c k v0 v1 v2 v3 c (4 * k) = v0 ∧ spt A c k v0 v1 v2 v3 c (4 * k + 1) = v1 ∧ spt A c k v0 v1 v2 v3 c (4 * k + 2) = v2 ∧ spt A c k v0 v1 v2 v3 c (4 * k + 3) = v3 := by
  unfold spt
  refine ⟨?_, ?_, ?_, ?_⟩
  · rw [up2_m (by omega), up2_m (by omega), up2_m (by omega), up2_s]
  · rw [up2_m (by omega), up2_m (by omega), up2_s]
  · rw [up2_m (by omega), up2_s]
  · exact up2_s
theorem ScR.fr {o c : Nat} {I A I' A' : mI} {P N K L T m : Nat} {rw : Nat → Rw} (S : ScR o c I A P N K L T m rw) (hI : I' o = I o) (hA : A' c = A c) : ScR o c I' A' P N K L T m rw := by
  refine ⟨?_, ?_, S.hT, ?_, S.hz, fun k hk => ?_⟩
  · rw [hI]; exact S.hL
  · rw [hI]; exact S.ha
  · rw [hA]; exact S.h0
  · unfold CRow
    rw [hA]
    exact S.hr k hk
theorem ScR.ad {o c : Nat} {I A : mI} {P N K L T m : Nat} {rw : Nat → Rw} (S : ScR o c I A P N K L T m rw) (hL : 0 < L) {r : Rw} (hr : 1 ≤ r.1) {x v0 v1 v2 v3 : Int32} (ex : x = nI (m + 1 - T)) (h0 : v0 = nI (r.1 + 1)) (h1 : v1 = nI r.2.1) (h2 : v2 = zN r.2.2.1) (h3 : v3 = nI r.2.2.2) : ScR o c (up2 I o 2 x) (spt A c (m + 1) v0 v1 v2 v3) P N K L T (m + 1) (zup rw m r) := by
  have hT := S.hT
  refine ⟨(up2_m (by decide)).trans S.hL, up2_s.trans ex, by omega, fun h => ?_, fun h => absurd h (by omega), fun k hk => ?_⟩
  · rw [spt_o (by omega), spt_o (by omega), spt_o (by omega)]
    exact S.h0 h
  · by_cases e : k = m
    · subst e
      rw [zup_s]
      obtain ⟨g0, g1, g2, g3⟩ := spt_n (A := A) (c := c) (k := k + 1) (v0 := v0) (v1 := v1) (v2 := v2) (v3 := v3)
      exact ⟨g0.trans h0, g1.trans h1, g2.trans (h2.trans (if_neg (fun z => by omega)).symm), g3.trans h3⟩
    · rw [zup_n e]
      obtain ⟨g0, g1, g2, g3⟩ := S.hr k (by omega)
      exact ⟨(spt_o (by omega)).trans g0, (spt_o (by omega)).trans g1, (spt_o (by omega)).trans g2, (spt_o (by omega)).trans g3⟩
/-- what an act leaves of the class as it was -/
def fS (I A : mI) (B : mB) (I' A' : mI) (B' : mB) : Prop :=
  (∀ k, k ≠ 7 → k ≠ 16 → k ≠ 17 → k ≠ 29 → I' k = I k) ∧
  (∀ k, k ≠ 8 → k < 19 ∨ 36 < k → A' k = A k) ∧
  (∀ k, k ≠ 31 → k ≠ 36 → B' k = B k)
theorem fS.ir {I A : mI} {B : mB} {I' A' : mI} {B' : mB} (self : fS I A B I' A' B') : ∀ k, k ≠ 7 → k ≠ 16 → k ≠ 17 → k ≠ 29 → I' k = I k := self.1
theorem fS.ar {I A : mI} {B : mB} {I' A' : mI} {B' : mB} (self : fS I A B I' A' B') : ∀ k, k ≠ 8 → k < 19 ∨ 36 < k → A' k = A k := self.2.1
theorem fS.br {I A : mI} {B : mB} {I' A' : mI} {B' : mB} (self : fS I A B I' A' B') : ∀ k, k ≠ 31 → k ≠ 36 → B' k = B k := self.2.2
theorem fS.mk {I A : mI} {B : mB} {I' A' : mI} {B' : mB} (h_ir : ∀ k, k ≠ 7 → k ≠ 16 → k ≠ 17 → k ≠ 29 → I' k = I k) (h_ar : ∀ k, k ≠ 8 → k < 19 ∨ 36 < k → A' k = A k) (h_br : ∀ k, k ≠ 31 → k ≠ 36 → B' k = B k) : fS I A B I' A' B' := ⟨h_ir, h_ar, h_br⟩
def qS (a : Ac) (w f : Nat) (I A : mI) (B : mB) (P N K L T m : Nat) (rw : Nat → Rw) (R : mR) (o : Sum Int32 Rw) : Prop := match o with
  | .inl v => R (some (.int v)) I A B (pk w f)
  | .inr r => Ok a r → ∀ I' A' B', CR (zdo a r) I' A' B' → ScR 7 8 I' A' P N K L T (m + 1) (zup rw m r) → fS I A B I' A' B' → R (some (.int (zrv a r))) I' A' B' (pk w f)
theorem CR.fw {a : Ac} {I A I' A' : mI} {B : mB} (C : CR a I A B) (h1 : I' 16 = I 16) (h2 : I' 17 = I 17) (h3 : I' 29 = I 29) (h : ∀ k, 19 ≤ k → k ≤ 36 → A' k = A k) : CR a I' A' B := by
  have e1 : A' 26 = A 26 := h 26 (by decide) (by decide)
  have e2 : A' 27 = A 27 := h 27 (by decide) (by decide)
  have e3 : A' 28 = A 28 := h 28 (by decide) (by decide)
  have e4 : A' 30 = A 30 := h 30 (by decide) (by decide)
  have e5 : A' 32 = A 32 := h 32 (by decide) (by decide)
  have e6 : A' 33 = A 33 := h 33 (by decide) (by decide)
  have e7 : A' 34 = A 34 := h 34 (by decide) (by decide)
  have e8 : A' 35 = A 35 := h 35 (by decide) (by decide)
  refine (CR.mk (?_) (?_) (?_) (?_) (?_) (?_) (fun t ht => ?_) (fun t ht => ?_) (fun t ht => ?_) (fun r d hr hd => ?_) (?_) (fun t ht => ?_) (CR.ham C :) (fun t ht => ?_) (fun t ht => ?_) (fun t ht => ?_) (?_) (CR.hbl C :) (CR.nt4 C :))
  · rw [h1]; exact C.hP
  · rw [h1]; exact C.hN
  · rw [h1]; exact C.hK
  · rw [h1]; exact C.hc
  · rw [h2]; exact C.hnt
  · rw [h2]; exact C.hnc
  · rw [e1]; exact C.htt t ht
  · rw [e2]; exact C.hcd t ht
  · rw [e3]; exact C.hco t ht
  · rw [h (19 + r) (by omega) (by have := C.nt4; omega)]; exact C.hru r d hr hd
  · rw [h3]; exact C.hn
  · rw [e4]; exact C.hso t ht
  · rw [e5]; exact C.hva t ht
  · rw [e6]; exact C.hpg t ht
  · rw [e7]; exact C.hog t ht
  · obtain ⟨od, O⟩ := C.hod
    exact ⟨od, (Od.mk (Od.lt O :) (fun k hk => by rw [e8]; exact O.at_ k hk) (Od.st O :) (Od.on O :))⟩
theorem fR.fS {I A : mI} {B : mB} {I1 A1 I' A' : mI} {B' : mB} (h : fR I1 A1 B I' A' B') (hI : ∀ k, k ≠ 7 → I1 k = I k) (hA : ∀ k, k ≠ 8 → A1 k = A k) : fS I A B I' A' B' :=
  ⟨fun k a0 a1 a2 a3 => (h.ir k a1 a2 a3).trans (hI k a0), fun k a0 a1 => (h.ar k a1).trans (hA k a0), h.br⟩
theorem z_tn {a : Ac} {I A : mI} {B : mB} (C : CR a I A B) (V : Vw a) (hn : a.n < 2 ^ 31) {e : Nat} : (fd (fun j => decide (A 30 j = 3 ∧ A 34 j = nI e)) a.n).isSome = ztn a e := by
  unfold ztn
  refine congrArg Option.isSome (fd_congr (fun j hj => ?_))
  have h3 := V.so3 j hj
  rw [C.hso j hj, C.hog j hj]
  have e1 : (nI (a.so j) = 3) ↔ a.so j = 3 := nI_eq (b := 3) (by omega) (by omega)
  by_cases z : a.so j = 3 ∧ a.og j = nI e
  · exact (decide_eq_true ⟨e1.mpr z.1, z.2⟩).trans (decide_eq_true z).symm
  · exact (decide_eq_false (fun y => z ⟨e1.mp y.1, y.2⟩)).trans (decide_eq_false z).symm
