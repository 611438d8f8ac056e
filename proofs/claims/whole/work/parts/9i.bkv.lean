/-! a book with its acts: what stands -/
def BkV (P N K L T m : Nat) (rw : Nat → Rw) : Prop :=
  (∀ i, i < m → Vr P N rw i) ∧
  (1 ≤ K) ∧
  (K ≤ 4) ∧
  (P ≤ 40) ∧
  (N ≤ 8) ∧
  (L = 0 → m = 0 ∧ T = 0 ∧ N = 0 ∧ P = 0) ∧
  (0 < L → L = T + 1 ∧ 2 ≤ P ∧ 1 ≤ N) ∧
  (T ≤ 61) ∧
  (T ≤ m) ∧
  (m - T ≤ 20) ∧
  (ctk rw 2 T ≤ 12) ∧
  (ctk rw 3 T ≤ 30) ∧
  (ctk rw 5 T ≤ 6) ∧
  (ctk rw 6 T = 0)
theorem BkV.v {P N K L T m : Nat} {rw : Nat → Rw} (self : BkV P N K L T m rw) : ∀ i, i < m → Vr P N rw i := self.1
theorem BkV.K1 {P N K L T m : Nat} {rw : Nat → Rw} (self : BkV P N K L T m rw) : 1 ≤ K := self.2.1
theorem BkV.K4 {P N K L T m : Nat} {rw : Nat → Rw} (self : BkV P N K L T m rw) : K ≤ 4 := self.2.2.1
theorem BkV.P40 {P N K L T m : Nat} {rw : Nat → Rw} (self : BkV P N K L T m rw) : P ≤ 40 := self.2.2.2.1
theorem BkV.N8 {P N K L T m : Nat} {rw : Nat → Rw} (self : BkV P N K L T m rw) : N ≤ 8 := self.2.2.2.2.1
theorem BkV.z {P N K L T m : Nat} {rw : Nat → Rw} (self : BkV P N K L T m rw) : L = 0 → m = 0 ∧ T = 0 ∧ N = 0 ∧ P = 0 := self.2.2.2.2.2.1
theorem BkV.l {P N K L T m : Nat} {rw : Nat → Rw} (self : BkV P N K L T m rw) : 0 < L → L = T + 1 ∧ 2 ≤ P ∧ 1 ≤ N := self.2.2.2.2.2.2.1
theorem BkV.T61 {P N K L T m : Nat} {rw : Nat → Rw} (self : BkV P N K L T m rw) : T ≤ 61 := self.2.2.2.2.2.2.2.1
theorem BkV.Tm {P N K L T m : Nat} {rw : Nat → Rw} (self : BkV P N K L T m rw) : T ≤ m := self.2.2.2.2.2.2.2.2.1
theorem BkV.mT {P N K L T m : Nat} {rw : Nat → Rw} (self : BkV P N K L T m rw) : m - T ≤ 20 := self.2.2.2.2.2.2.2.2.2.1
theorem BkV.c2 {P N K L T m : Nat} {rw : Nat → Rw} (self : BkV P N K L T m rw) : ctk rw 2 T ≤ 12 := self.2.2.2.2.2.2.2.2.2.2.1
theorem BkV.c3 {P N K L T m : Nat} {rw : Nat → Rw} (self : BkV P N K L T m rw) : ctk rw 3 T ≤ 30 := self.2.2.2.2.2.2.2.2.2.2.2.1
theorem BkV.c5 {P N K L T m : Nat} {rw : Nat → Rw} (self : BkV P N K L T m rw) : ctk rw 5 T ≤ 6 := self.2.2.2.2.2.2.2.2.2.2.2.2.1
theorem BkV.c6 {P N K L T m : Nat} {rw : Nat → Rw} (self : BkV P N K L T m rw) : ctk rw 6 T = 0 := self.2.2.2.2.2.2.2.2.2.2.2.2.2
theorem BkV.mk {P N K L T m : Nat} {rw : Nat → Rw} (h_v : ∀ i, i < m → Vr P N rw i) (h_K1 : 1 ≤ K) (h_K4 : K ≤ 4) (h_P40 : P ≤ 40) (h_N8 : N ≤ 8) (h_z : L = 0 → m = 0 ∧ T = 0 ∧ N = 0 ∧ P = 0) (h_l : 0 < L → L = T + 1 ∧ 2 ≤ P ∧ 1 ≤ N) (h_T61 : T ≤ 61) (h_Tm : T ≤ m) (h_mT : m - T ≤ 20) (h_c2 : ctk rw 2 T ≤ 12) (h_c3 : ctk rw 3 T ≤ 30) (h_c5 : ctk rw 5 T ≤ 6) (h_c6 : ctk rw 6 T = 0) : BkV P N K L T m rw := ⟨h_v, h_K1, h_K4, h_P40, h_N8, h_z, h_l, h_T61, h_Tm, h_mT, h_c2, h_c3, h_c5, h_c6⟩
theorem ctk_d {rw : Nat → Rw} {T : Nat} : ∀ m, T ≤ m → ctk rw 2 m + ctk rw 3 m + ctk rw 4 m + ctk rw 5 m + ctk rw 6 m ≤ ctk rw 2 T + ctk rw 3 T + ctk rw 4 T + ctk rw 5 T + ctk rw 6 T + (m - T)
  | 0, h => by rw [show T = 0 by omega]; omega
  | m + 1, h => by
    by_cases e : T = m + 1
    · rw [e]; omega
    · have ih := ctk_d (rw := rw) (T := T) m (by omega)
      rw [ctk_s, ctk_s, ctk_s, ctk_s, ctk_s]
      have h1 : (if (rw m).1 = 2 then 1 else 0) + (if (rw m).1 = 3 then 1 else 0) + (if (rw m).1 = 4 then 1 else 0) + (if (rw m).1 = 5 then 1 else 0) + (if (rw m).1 = 6 then 1 else 0) ≤ 1 := by
        by_cases h2 : (rw m).1 = 2
        · rw [h2]; decide
        by_cases h3 : (rw m).1 = 3
        · rw [h3]; decide
        by_cases h4 : (rw m).1 = 4
        · rw [h4]; decide
        by_cases h5 : (rw m).1 = 5
        · rw [h5]; decide
        by_cases h6 : (rw m).1 = 6
        · rw [h6]; decide
        rw [if_neg h2, if_neg h3, if_neg h4, if_neg h5, if_neg h6]
        decide
      omega
theorem ctk_m {rw : Nat → Rw} {q T m : Nat} (h : T ≤ m) : ctk rw q T ≤ ctk rw q m := ct_mono m h
/-- no such row behind -/
theorem ctk_e {rw : Nat → Rw} {q T : Nat} : ∀ m, T ≤ m → (∀ i, T ≤ i → i < m → (rw i).1 ≠ q) → ctk rw q m = ctk rw q T
  | 0, h, _ => by rw [show T = 0 by omega]
  | m + 1, h, g => by
    by_cases e : T = m + 1
    · rw [e]
    · rw [ctk_s, if_neg (g m (by omega) (by omega)), ctk_e m (by omega) (fun i h1 h2 => g i h1 (by omega)), Nat.add_zero]
theorem BkV.iv {P N K L T m : Nat} {rw : Nat → Rw} (H : BkV P N K L T m rw) {k : Nat} (h1 : 1 ≤ k) (h4 : k ≤ 4) : Inv P N k rw m (zrn P N k rw m) := iv_run H.P40 H.N8 h1 h4 H.v m (Nat.le_refl _)
theorem BkV.rp {P N K L T m : Nat} {rw : Nat → Rw} (H : BkV P N K L T m rw) {k : Nat} (h1 : 1 ≤ k) (h4 : k ≤ 4) : Rp P N k rw m := Rp.of H.P40 H.N8 h1 h4 H.v
theorem BkV.cl {P N K L T m : Nat} {rw : Nat → Rw} (H : BkV P N K L T m rw) : ctk rw 4 m ≤ N := by
  have J := H.iv H.K1 H.K4
  have h := J.G.V.cN
  rw [J.c, J.N] at h
  exact h
theorem BkV.n {P N K L T m : Nat} {rw : Nat → Rw} (H : BkV P N K L T m rw) {k : Nat} (h1 : 1 ≤ k) (h4 : k ≤ 4) : (zrn P N k rw m).n ≤ 220 ∧ ct (fun j => decide (¬ ((zrn P N k rw m).so j = 1 ∨ (zrn P N k rw m).so j = 2))) (zrn P N k rw m).n + 8 ≤ 80 ∧ (m - T < 20 → (zrn P N k rw m).n + 8 ≤ 220 ∧ (zrn P N k rw m).nc < 32) := by
  have J := H.iv h1 h4
  have hn := J.n
  have hc := J.c
  have hpc := J.pc
  have hcl := H.cl
  have hN := H.N8
  have hd := ctk_d (rw := rw) m H.Tm
  have m2 := ctk_m (rw := rw) (q := 2) H.Tm
  have m3 := ctk_m (rw := rw) (q := 3) H.Tm
  have m4 := ctk_m (rw := rw) (q := 4) H.Tm
  have m5 := ctk_m (rw := rw) (q := 5) H.Tm
  have m6 := ctk_m (rw := rw) (q := 6) H.Tm
  have c2 := H.c2
  have c3 := H.c3
  have c5 := H.c5
  have c6 := H.c6
  have hmT := H.mT
  have hnc := J.nc
  refine ⟨by omega, by omega, fun h => ⟨?_, by omega⟩⟩
  by_cases z : ctk rw 4 m < N
  · omega
  · by_cases y : ctk rw 4 T < N
    · omega
    · have g : ∀ i, T ≤ i → i < m → ¬ 3 ≤ (rw i).1 := fun i a1 a2 a3 => by
        have := (H.v i a2).op a3
        have := ctk_m (rw := rw) (q := 4) (T := T) (m := i) a1
        omega
      have e3 := ctk_e (rw := rw) (q := 3) (T := T) m H.Tm (fun i a1 a2 e => g i a1 a2 (by omega))
      have e5 := ctk_e (rw := rw) (q := 5) (T := T) m H.Tm (fun i a1 a2 e => g i a1 a2 (by omega))
      have e6 := ctk_e (rw := rw) (q := 6) (T := T) m H.Tm (fun i a1 a2 e => g i a1 a2 (by omega))
      omega
theorem BkV.ac {P N K L T m m' : Nat} {rw : Nat → Rw} (H : BkV P N K L T m rw) (h1 : T ≤ m') (h2 : m' ≤ m) : BkV P N K L T m' rw :=
  ⟨fun i hi => H.v i (by omega), H.K1, H.K4, H.P40, H.N8, fun z => by have := H.z z; omega, H.l, H.T61, h1, by have := H.mT; omega, H.c2, H.c3, H.c5, H.c6⟩
theorem do_ex {a : Ac} {r : Rw} (h3 : 3 ≤ r.1) (h6 : r.1 ≤ 6) : Ex a (zdo a r) := by
  obtain ⟨q, x, y, z⟩ := r
  have h3' : 3 ≤ q := h3
  have h6' : q ≤ 6 := h6
  match q, h3', h6' with
  | 3, _, _ => exact ex_en
  | 4, _, _ => exact ex_cl
  | 5, _, _ => exact ex_rr a.c
  | 6, _, _ => exact ex_en
  | 0, h, _ => omega
  | 1, h, _ => omega
  | 2, h, _ => omega
  | n + 7, _, h => omega
theorem do_en {a : Ac} {r : Rw} (h : r.1 < 3) : (zdo a r).n = a.n ∧ (zdo a r).so = a.so ∧ (zdo a r).og = a.og := by
  obtain ⟨q, x, y, z⟩ := r
  have h' : q < 3 := h
  match q, h' with
  | 0, _ => exact ⟨rfl, rfl, rfl⟩
  | 1, _ => exact ⟨rfl, rfl, rfl⟩
  | 2, _ => exact ⟨rfl, rfl, rfl⟩
  | n + 3, h => omega
theorem zpe_c {a b : Ac} (h1 : b.n = a.n) (h2 : b.so = a.so) (k : Nat) : zpe b k = zpe a k := by
  unfold zpe
  rw [h1, h2]
/-- what was turned back is there -/
theorem tn_c {P N K : Nat} {rw : Nat → Rw} {m : Nat} (hP : P ≤ 40) (hN : N ≤ 8) (hK1 : 1 ≤ K) (hK4 : K ≤ 4) (hv : ∀ i, i < m → Vr P N rw i) : ∀ k, k ≤ m → ∀ i, i < k → (rw i).1 = 6 → ∃ j, j < (zrn P N K rw k).n ∧ (zrn P N K rw k).so j = 3 ∧ (zrn P N K rw k).og j = nI (zpe (zrn P N K rw k) (rw i).2.1)
  | 0, _, i, hi, _ => absurd hi (Nat.not_lt_zero i)
  | k + 1, hk, i, hi, h6 => by
    have J := iv_run hP hN hK1 hK4 hv k (by omega)
    have ih := tn_c hP hN hK1 hK4 hv k (by omega)
    have Wk := hv k (by omega)
    show ∃ j, j < (zdo (zrn P N K rw k) (rw k)).n ∧ (zdo (zrn P N K rw k) (rw k)).so j = 3 ∧ (zdo (zrn P N K rw k) (rw k)).og j = nI (zpe (zdo (zrn P N K rw k) (rw k)) (rw i).2.1)
    by_cases e : i = k
    · subst e
      have hx := (Wk.r0 h6).1
      rw [← J.mo] at hx
      have E : Ex (zrn P N K rw i) (zdo (zrn P N K rw i) (rw i)) := do_ex (by omega) (by omega)
      rw [zpe_x E hx]
      have er : rw i = (6, (rw i).2.1, (rw i).2.2.1, (rw i).2.2.2) := by rw [← h6]
      generalize zrn P N K rw i = a
      rw [er]
      exact ⟨a.n, Nat.lt_succ_self _, zup_s, zup_s⟩
    · obtain ⟨j, g1, g2, g3⟩ := ih i (by omega) h6
      by_cases h3 : 3 ≤ (rw k).1
      · have E : Ex (zrn P N K rw k) (zdo (zrn P N K rw k) (rw k)) := do_ex h3 Wk.k6
        have hx : (rw i).2.1 < ct (fun j => decide ((zrn P N K rw k).so j = 0)) (zrn P N K rw k).n := by
          rw [J.mo]
          have := ((hv i (by omega)).r0 h6).1
          have := ctk_m (rw := rw) (q := 3) (T := i) (m := k) (by omega)
          omega
        exact ⟨j, Nat.lt_of_lt_of_le g1 E.n, (E.so j g1).trans g2, by rw [E.og j g1, zpe_x E hx]; exact g3⟩
      · obtain ⟨e1, e2, e3⟩ := do_en (a := zrn P N K rw k) (r := rw k) (by omega)
        exact ⟨j, by rw [e1]; exact g1, by rw [e2]; exact g2, by rw [e3, zpe_c e1 e2]; exact g3⟩
/-- an act's row is valid -/
theorem BkV.ad {P N K L T m : Nat} {rw : Nat → Rw} (H : BkV P N K L T m rw) (hL : 0 < L) (hT : m - T < 20) {r : Rw} (O : Ok (zrn P N K rw m) r) (h2 : 2 ≤ r.1) (hr : r.1 = 6 → ∀ j, j < m → (rw j).1 = 6 → (rw j).2.1 ≠ r.2.1) : BkV P N K L T (m + 1) (zup rw m r) := by
  have J := H.iv H.K1 H.K4
  have hTm := H.Tm
  have d := fun z => ctk_up (rw := rw) (m := m) (q := z) (r := r) m (Nat.le_refl _)
  have u := fun z => ctk_up (rw := rw) (m := m) (q := z) (r := r) T hTm
  have cs := fun z => ctk_us (rw := rw) (m := m) (q := z) (r := r)
  have hd := ctk_d (rw := rw) m H.Tm
  have hn := (H.n H.K1 H.K4).2.2 hT
  have m2 := ctk_m (rw := rw) (q := 2) H.Tm
  have m3 := ctk_m (rw := rw) (q := 3) H.Tm
  have m4 := ctk_m (rw := rw) (q := 4) H.Tm
  have m5 := ctk_m (rw := rw) (q := 5) H.Tm
  have m6 := ctk_m (rw := rw) (q := 6) H.Tm
  have c2 := H.c2
  have c3 := H.c3
  have c5 := H.c5
  have c6 := H.c6
  have k6 := O.k6
  refine ⟨fun i hi => ?_, H.K1, H.K4, H.P40, H.N8, fun z => absurd z (by omega), H.l, H.T61, by omega, by omega, ?_, ?_, ?_, ?_⟩
  · by_cases e : i = m
    · rw [e]
      refine ⟨?_, ?_, ?_, ?_, ?_, ?_, ?_, ?_, ?_, ?_⟩
      · rw [zup_s]; exact k6
      · rw [zup_s]; intro z; omega
      · rw [zup_s]; intro z; omega
      · rw [zup_s]; intro z; omega
      · rw [zup_s, d, d]
        intro z
        have := O.c0 z
        rw [J.nc, J.P, J.N, J.nt] at this
        exact this
      · rw [zup_s]
        intro z
        have := O.e0 z
        rw [J.P, J.N] at this
        exact this
      · rw [zup_s, d]
        intro z
        have := O.op z
        rw [J.c, J.N] at this
        exact this
      · rw [zup_s, d]
        intro z
        have := O.r0 z
        rw [J.mo] at this
        refine ⟨this, fun j hj => ?_⟩
        rw [zup_n (show j ≠ m by omega)]
        exact hr z j hj
      · rw [cs, cs, cs]
        by_cases z3 : r.1 = 3
        · rw [z3]; simp only [reduceIte, Nat.reduceEqDiff]; omega
        · by_cases z5 : r.1 = 5
          · rw [z5]; simp only [reduceIte, Nat.reduceEqDiff]; omega
          · rw [if_neg z3, if_neg z5]
            by_cases z6 : r.1 = 6
            · rw [if_pos z6]; omega
            · rw [if_neg z6]; omega
      · rw [cs, cs]
        by_cases z3 : r.1 = 3
        · rw [z3]; simp only [reduceIte, Nat.reduceEqDiff]; omega
        · rw [if_neg z3]
          by_cases z6 : r.1 = 6
          · rw [if_pos z6]; omega
          · rw [if_neg z6]; omega
    · exact vr_up (by omega) (H.v i (by omega))
  · rw [u]; exact c2
  · rw [u]; exact c3
  · rw [u]; exact c5
  · rw [u]; exact c6
theorem pv_bk {n : Nat} {s : St} (V : PV n s) (hL : 0 < s.L) : BkV s.P s.N s.K s.L s.m s.m s.rw := by
  have l := V.l hL
  exact ⟨V.v, l.2.2.2.2.2.1, l.2.2.2.2.2.2, l.2.2.1, l.2.2.2.2.1, fun z => absurd z (by omega), fun _ => ⟨l.1, l.2.1, l.2.2.2.1⟩, pv_61 V, Nat.le_refl _, by omega, V.c2, V.c3, V.c5, V.c6⟩
theorem bk_0 {rw : Nat → Rw} : BkV 0 0 1 0 0 0 rw := ⟨fun i hi => absurd hi (Nat.not_lt_zero i), by decide, by decide, by decide, by decide, fun _ => ⟨rfl, rfl, rfl, rfl⟩, fun h => absurd h (Nat.lt_irrefl _), by decide, by decide, by decide, Nat.zero_le _, Nat.zero_le _, Nat.zero_le _, rfl⟩
