/-! rows of entries -/
theorem iv_E {P N K : Nat} {rw : Nat → Rw} {k : Nat} {a : Ac} (J : Inv P N K rw k a) {x : Nat} {y : Int} {z : Nat} (hr : rw k = (3, x, y, z)) (O : Ok a (rw k)) (W : Vr P N rw k) : Inv P N K rw (k + 1) (zpy a y x) := by
  have hc : ∀ q, ctk rw q (k + 1) = ctk rw q k + (if 3 = q then 1 else 0) := fun q => by rw [ctk_s, hr]
  have hok := iv_ok J W
  have wp := W.pc
  rw [hc, hc, if_pos rfl, if_neg (by decide)] at wp
  rw [hr] at O
  have o0 : x < a.P * a.N ∧ -99999 ≤ y ∧ y ≤ 99999 := O.e0 rfl
  have h3 := D320 J.G.V
  have hpc := J.pc
  obtain ⟨G2, hpc2⟩ := gd_pr J.G (s := 0) (v := x) (m := y) (o := -1) (Or.inl rfl) (by omega) (by omega) (by omega) o0.2
  refine ⟨G2, J.H, tn_ex J.T ex_en (fun j h1 h2 => ?_), J.P, J.N, J.K, ?_, ?_, J.nc32, ?_, ?_, ?_, ?_, fun t ht => ?_, fun j hj => ?_, fun j hj h => ?_⟩
  · have h2' : j < a.n + 1 := h2
    show zup a.so a.n 0 j ≠ 3
    rw [show j = a.n by omega, zup_s]
    decide
  · rw [hc, if_neg (by decide)]; exact J.nt
  · rw [hc, if_neg (by decide)]; exact J.nc
  · rw [hc, if_neg (by decide)]; exact J.c
  · rw [hc, hc, hc, if_pos rfl, if_neg (by decide), if_neg (by decide)]
    have := J.n
    show a.n + 1 ≤ _ + a.c
    omega
  · rw [hpc2, hc, hc, if_pos rfl, if_neg (by decide), J.pc]
    omega
  · rw [hc, if_pos rfl, ← J.mo]
    show ct (fun j => decide (zup a.so a.n 0 j = 0)) a.n + (if decide (zup a.so a.n 0 a.n = 0) = true then 1 else 0) = _
    rw [zup_s, if_pos (by decide), ct_congr (g' := fun j => decide (a.so j = 0)) (fun i hi => by rw [zup_n (by omega)])]
  · obtain ⟨i, h1, h2, h3⟩ := J.tp t ht
    exact ⟨i, by omega, h2, h3⟩
  · have hj2 : j < a.n + 1 := hj
    show zup a.va a.n x j < 1000
    by_cases e : j = a.n
    · rw [e, zup_s]; omega
    · rw [zup_n e]; exact J.va j (by omega)
  · have hj2 : j < a.n + 1 := hj
    have h' : zup a.so a.n 0 j = 3 := h
    by_cases e : j = a.n
    · rw [e, zup_s] at h'; cases h'
    · exact iv_tn J ex_en (by omega) h
theorem iv_L {P N K : Nat} {rw : Nat → Rw} {k : Nat} {a : Ac} (J : Inv P N K rw k a) {x : Nat} {y : Int} {z : Nat} (hr : rw k = (4, x, y, z)) (O : Ok a (rw k)) (W : Vr P N rw k) : Inv P N K rw (k + 1) (zcl a) := by
  have hc : ∀ q, ctk rw q (k + 1) = ctk rw q k + (if 4 = q then 1 else 0) := fun q => by rw [ctk_s, hr]
  have hok := iv_ok J W
  rw [hr] at O
  have ho : a.c < a.N := O.op (by show 3 ≤ 4; omega)
  have h8 := J.G.V.N8
  have G2 := gd_cl J.G (by omega) ho
  refine ⟨G2, J.H, tn_ex J.T ex_cl (fun j h1 h2 => ?_), J.P, J.N, J.K, ?_, ?_, J.nc32, ?_, ?_, ?_, ?_, fun t ht => ?_, fun j hj => ?_, fun j hj h => ?_⟩
  · have h2' : j < a.n + 1 := h2
    show zup a.so a.n 1 j ≠ 3
    rw [show j = a.n by omega, zup_s]
    decide
  · rw [hc, if_neg (by decide)]; exact J.nt
  · rw [hc, if_neg (by decide)]; exact J.nc
  · rw [hc, if_pos rfl, ← J.c]; rfl
  · rw [hc, hc, hc, if_neg (by decide), if_neg (by decide), if_neg (by decide)]
    have := J.n
    show a.n + 1 ≤ _ + (a.c + 1)
    omega
  · rw [hc, hc, if_neg (by decide), if_neg (by decide), Nat.add_zero, Nat.add_zero, ← J.pc]
    show ct (fun j => decide (¬ (zup a.so a.n 1 j = 1 ∨ zup a.so a.n 1 j = 2))) a.n + (if decide (¬ (zup a.so a.n 1 a.n = 1 ∨ zup a.so a.n 1 a.n = 2)) = true then 1 else 0) = _
    rw [zup_s, if_neg (by decide), ct_congr (g' := fun j => decide (¬ (a.so j = 1 ∨ a.so j = 2))) (fun i hi => by rw [zup_n (by omega)])]
    rfl
  · rw [hc, if_neg (by decide), ← J.mo]
    show ct (fun j => decide (zup a.so a.n 1 j = 0)) a.n + (if decide (zup a.so a.n 1 a.n = 0) = true then 1 else 0) = _
    rw [zup_s, if_neg (by decide), ct_congr (g' := fun j => decide (a.so j = 0)) (fun i hi => by rw [zup_n (by omega)])]
  · obtain ⟨i, h1, h2, h3⟩ := J.tp t ht
    exact ⟨i, by omega, h2, h3⟩
  · have hj2 : j < a.n + 1 := hj
    show zup a.va a.n (zcm a a.c) j < 1000
    by_cases e : j = a.n
    · rw [e, zup_s]
      have := zcm_440 J.G.V (p := a.c) (by omega)
      omega
    · rw [zup_n e]; exact J.va j (by omega)
  · have hj2 : j < a.n + 1 := hj
    have h' : zup a.so a.n 1 j = 3 := h
    by_cases e : j = a.n
    · rw [e, zup_s] at h'; cases h'
    · exact iv_tn J ex_cl (by omega) h
theorem iv_R {P N K : Nat} {rw : Nat → Rw} {k : Nat} {a : Ac} (J : Inv P N K rw k a) {x : Nat} {y : Int} {z : Nat} (hr : rw k = (5, x, y, z)) (O : Ok a (rw k)) (W : Vr P N rw k) : Inv P N K rw (k + 1) (zrr a a.c) := by
  have hc : ∀ q, ctk rw q (k + 1) = ctk rw q k + (if 5 = q then 1 else 0) := fun q => by rw [ctk_s, hr]
  have hok := iv_ok J W
  rw [hr] at O
  have ho : a.c < a.N := O.op (by show 3 ≤ 5; omega)
  have h8 := J.G.V.N8
  have G2 := gd_rr J.G (by omega) a.c (Nat.le_refl _)
  have S := sr_rr (a := a) a.c
  have E := ex_rr (a := a) a.c
  have hrc := rr_c (a := a) a.c
  refine ⟨G2, fun i hi => ?_, tn_ex J.T E (fun j h1 h2 => by rw [rr_so a.c j h1 h2]; decide), S.P.trans J.P, S.N.trans J.N, S.K.trans J.K, ?_, ?_, by rw [S.nc]; exact J.nc32, ?_, ?_, ?_, ?_, fun t ht => ?_, fun j hj => ?_, fun j hj h => ?_⟩
  · rw [S.nc] at hi
    rw [S.co, S.nt]
    exact J.H i hi
  · rw [hc, if_neg (by decide), S.nt]; exact J.nt
  · rw [hc, if_neg (by decide), S.nc]; exact J.nc
  · rw [hc, if_neg (by decide), hrc.1]; exact J.c
  · rw [hc, hc, hc, if_neg (by decide), if_neg (by decide), if_pos rfl, hrc.1]
    have := J.n
    omega
  · rw [hc, hc, if_neg (by decide), if_neg (by decide)]
    have e := ct_ex E (fun s => decide (¬ (s = 1 ∨ s = 2)))
    rw [ct_z (c := fun j => decide (¬ ((zrr a a.c).so (a.n + j) = 1 ∨ (zrr a a.c).so (a.n + j) = 2))) (fun i hi => by
      rw [rr_so a.c (a.n + i) (by omega) (by omega)]
      rfl)] at e
    exact e.trans J.pc
  · rw [hc, if_neg (by decide)]
    have e := ct_ex E (fun s => decide (s = 0))
    rw [ct_z (c := fun j => decide ((zrr a a.c).so (a.n + j) = 0)) (fun i hi => by
      rw [rr_so a.c (a.n + i) (by omega) (by omega)]
      rfl)] at e
    exact e.trans J.mo
  · rw [S.nt] at ht
    rw [S.tt]
    obtain ⟨i, h1, h2, h3⟩ := J.tp t ht
    exact ⟨i, by omega, h2, h3⟩
  · by_cases e : j < a.n
    · rw [E.va j e]; exact J.va j e
    · have := rr_va J.G.V h8 a.c (by omega) j (by omega) hj
      omega
  · by_cases e : j < a.n
    · exact iv_tn J E e h
    · rw [rr_so a.c j (by omega) hj] at h
      cases h
theorem iv_B {P N K : Nat} {rw : Nat → Rw} {k : Nat} {a : Ac} (J : Inv P N K rw k a) {x : Nat} {y : Int} {z : Nat} (hr : rw k = (6, x, y, z)) (O : Ok a (rw k)) (W : Vr P N rw k) : Inv P N K rw (k + 1) (zdR a x) := by
  have hc : ∀ q, ctk rw q (k + 1) = ctk rw q k + (if 6 = q then 1 else 0) := fun q => by rw [ctk_s, hr]
  have hok := iv_ok J W
  have wp := W.pc
  rw [hc, hc, if_pos rfl, if_neg (by decide)] at wp
  have w0 := W.r0 (by rw [hr])
  rw [hr] at O w0
  have hx : x < ct (fun j => decide (a.so j = 0)) a.n := O.r0 rfl
  have hun : ∀ j, j < k → (rw j).1 = 6 → (rw j).2.1 ≠ x := w0.2
  obtain ⟨he1, he2, he3⟩ := zpe_i hx
  have h4 := J.G.V.n4
  have hpc := J.pc
  have ham := J.G.pr (zpe a x) he1 (by omega)
  have hva := J.va (zpe a x) he1
  obtain ⟨G2, hpc2⟩ := gd_pr J.G (s := 3) (v := a.va (zpe a x)) (m := -a.am (zpe a x)) (o := nI (zpe a x)) (Or.inr rfl) (by omega) (by omega) (by omega) (by omega)
  have E : Ex a (zdR a x) := ex_en
  -- none was turned back
  have hno : ∀ j, j < a.n → a.so j = 3 → a.og j ≠ nI (zpe a x) := fun j hj h ho => by
    obtain ⟨i, h1, h2, h3, h5⟩ := J.tn j hj h
    have hi : (rw i).2.1 < ct (fun j => decide (a.so j = 0)) a.n := by rw [J.mo]; exact h3
    obtain ⟨g1, g2, g3⟩ := zpe_i hi
    have e : zpe a (rw i).2.1 = zpe a x := (nI_eq (by omega) (by omega)).mp (h5.symm.trans ho)
    rw [e, he3] at g3
    exact hun i h1 h2 g3.symm
  have T2 : Tn (zdR a x) := by
    refine ⟨fun j hj h => ?_, fun i j hi hj h1 h2 h3 => ?_⟩
    · have hj2 : j < a.n + 1 := hj
      by_cases e : j = a.n
      · refine ⟨zpe a x, by show zpe a x < a.n + 1; omega, ?_, ?_, ?_, ?_⟩
        · show zup a.og a.n (nI (zpe a x)) j = _
          rw [e, zup_s]
        · rw [E.so _ he1]; exact he2
        · rw [E.am _ he1]
          show zup a.am a.n (-a.am (zpe a x)) j = _
          rw [e, zup_s]
        · rw [E.va _ he1]
          show zup a.va a.n (a.va (zpe a x)) j = _
          rw [e, zup_s]
      · have hja : j < a.n := by omega
        rw [E.so j hja] at h
        obtain ⟨e', g0, g1, g2, g3, g4⟩ := J.T.t1 j hja h
        exact ⟨e', by show e' < a.n + 1; omega, by rw [E.og j hja]; exact g1, by rw [E.so e' g0]; exact g2, by rw [E.am j hja, E.am e' g0]; exact g3, by rw [E.va j hja, E.va e' g0]; exact g4⟩
    · have hi2 : i < a.n + 1 := hi
      have hj2 : j < a.n + 1 := hj
      have hog : (zdR a x).og a.n = nI (zpe a x) := zup_s
      by_cases e1 : i = a.n
      · by_cases e2 : j = a.n
        · rw [e1, e2]
        · have hja : j < a.n := by omega
          rw [E.so j hja] at h2
          rw [e1, hog, E.og j hja] at h3
          exact absurd h3.symm (hno j hja h2)
      · have hia : i < a.n := by omega
        by_cases e2 : j = a.n
        · rw [E.so i hia] at h1
          rw [e2, hog, E.og i hia] at h3
          exact absurd h3 (hno i hia h1)
        · have hja : j < a.n := by omega
          rw [E.so i hia] at h1
          rw [E.so j hja] at h2
          rw [E.og i hia, E.og j hja] at h3
          exact J.T.t2 i j hia hja h1 h2 h3
  refine ⟨G2, J.H, T2, J.P, J.N, J.K, ?_, ?_, J.nc32, ?_, ?_, ?_, ?_, fun t ht => ?_, fun j hj => ?_, fun j hj h => ?_⟩
  · rw [hc, if_neg (by decide)]; exact J.nt
  · rw [hc, if_neg (by decide)]; exact J.nc
  · rw [hc, if_neg (by decide)]; exact J.c
  · rw [hc, hc, hc, if_neg (by decide), if_pos rfl, if_neg (by decide)]
    have := J.n
    show a.n + 1 ≤ _ + a.c
    omega
  · refine hpc2.trans ?_
    rw [hc, hc, if_neg (by decide), if_pos rfl, J.pc]
    omega
  · rw [hc, if_neg (by decide), ← J.mo]
    show ct (fun j => decide (zup a.so a.n 3 j = 0)) a.n + (if decide (zup a.so a.n 3 a.n = 0) = true then 1 else 0) = _
    rw [zup_s, if_neg (by decide), ct_congr (g' := fun j => decide (a.so j = 0)) (fun i hi => by rw [zup_n (by omega)])]
  · obtain ⟨i, h1, h2, h3⟩ := J.tp t ht
    exact ⟨i, by omega, h2, h3⟩
  · have hj2 : j < a.n + 1 := hj
    show zup a.va a.n (a.va (zpe a x)) j < 1000
    by_cases e : j = a.n
    · rw [e, zup_s]; exact hva
    · rw [zup_n e]; exact J.va j (by omega)
  · have hj2 : j < a.n + 1 := hj
    by_cases e : j = a.n
    · refine ⟨k, by omega, by rw [hr], by rw [hr, hc]; show x < _; rw [← J.mo]; omega, ?_⟩
      rw [hr]
      show zup a.og a.n (nI (zpe a x)) j = nI (zpe (zdR a x) x)
      rw [e, zup_s, zpe_x E hx]
    · exact iv_tn J E (by omega) h
theorem iv_s {P N K : Nat} {rw : Nat → Rw} {k : Nat} {a : Ac} (J : Inv P N K rw k a) (W : Vr P N rw k) : Inv P N K rw (k + 1) (zdo a (rw k)) := by
  have O := (iv_ok J W).1
  have h6 := W.k6
  have hx : ∃ q x y z, rw k = (q, x, y, z) := ⟨(rw k).1, (rw k).2.1, (rw k).2.2.1, (rw k).2.2.2, rfl⟩
  obtain ⟨q, x, y, z, hr⟩ := hx
  rw [hr] at h6
  have h6' : q ≤ 6 := h6
  have e9 : zdo a (rw k) = zdo a (q, x, y, z) := by rw [hr]
  rw [e9]
  clear e9 h6
  match q, hr, h6' with
  | 0, hr, _ => exact iv_T J hr O
  | 1, hr, _ => exact iv_D J hr O
  | 2, hr, _ => exact iv_C J hr O
  | 3, hr, _ => exact iv_E J hr O W
  | 4, hr, _ => exact iv_L J hr O W
  | 5, hr, _ => exact iv_R J hr O W
  | 6, hr, _ => exact iv_B J hr O W
  | n + 7, _, h => omega
theorem iv_run {P N K : Nat} {rw : Nat → Rw} {m : Nat} (hP : P ≤ 40) (hN : N ≤ 8) (hK1 : 1 ≤ K) (hK4 : K ≤ 4) (hv : ∀ i, i < m → Vr P N rw i) : ∀ k, k ≤ m → Inv P N K rw k (zrn P N K rw k)
  | 0, _ => iv_0 hP hN hK1 hK4
  | k + 1, hk => iv_s (iv_run hP hN hK1 hK4 hv k (by omega)) (hv k (by omega))
