/-! contracts of the class: rows done (written by wip/whole/gk4.py) -/
theorem c_size {J : mJ} (X : mRules J) {I A : mI} {B : mB} {w f : Nat} {R : mR} {s : Nat} (hs : I 7 1 + I 7 2 = nI s) (h : R (some (.int (nI s))) I A B (pk w f)) : J n_Script_size 0 [.ref 7] [] I A B (pk w f) R := by
  refine X 200 _ _ _ _ _ _ _ _ _ ?_
  rw [← hs] at h
  exact h
set_option maxRecDepth 20000 in
theorem c_told {J : mJ} (X : mRules J) {I A : mI} {B : mB} {w f : Nat} {R : mR} {s r c : Nat} (hs : I 7 1 + I 7 2 = nI s) (hr : r < s) (hs82 : s ≤ 82) (hc : c < 4) {xr xc : Int32} (er : xr = nI r) (ec : xc = nI c) (h : R (some (.int (A 8 (4 * r + c)))) I A B (pk w f)) : J n_Script_told 0 [.ref 7, .int xr, .int xc] [] I A B (pk w f) R := by
  subst er; subst ec
  have e4 : nI r * 4 + nI c = nI (4 * r + c) := by rw [show nI r * (4 : Int32) = nI (r * 4) from pk_mul r 4, nI_add, Nat.mul_comm]
  refine X 200 _ _ _ _ _ _ _ _ _ ?_
  refine And.intro (fun q1 => ?_) (fun q1 => ?_)
  · exact absurd q1 (nI_pos (by omega)) --end
  · refine c_size X hs ?_
    refine And.intro (fun q2 => ?_) (fun q2 => ?_)
    · exact absurd q2 (nI_ge hr (by omega)) --end
    · refine And.intro (fun q3 => ?_) (fun q3 => ?_)
      · exact absurd q3 (nI_pos (by omega)) --end
      · refine And.intro (fun q4 => ?_) (fun q4 => ?_)
        · refine Exists.intro _ (And.intro rfl (And.intro (by rw [e4]; exact vin (by omega) (by omega)) ?_))
          rw [← cl (n := 4 * r + c) (by omega), ← e4] at h
          exact h
        · exact absurd (nI_lt (b := 4) hc (by omega)) q4 --end
set_option maxRecDepth 20000 in
theorem c_told0 {J : mJ} (X : mRules J) {I A : mI} {B : mB} {w f : Nat} {R : mR} (hs : I 7 1 + I 7 2 = nI 0) {xc : Int32} (h : R (some (.int 0)) I A B (pk w f)) : J n_Script_told 0 [.ref 7, .int 0, .int xc] [] I A B (pk w f) R := by
  refine X 200 _ _ _ _ _ _ _ _ _ ?_
  refine And.intro (fun q1 => ?_) (fun q1 => ?_)
  · exact absurd q1 (by decide) --end
  · refine c_size X hs ?_
    refine And.intro (fun q2 => ?_) (fun q2 => ?_)
    · exact h
    · exact absurd (by decide) q2 --end
set_option maxRecDepth 20000 in
theorem c_spread {J : mJ} (X : mRules J) {I A : mI} {B : mB} {w f : Nat} {R : mR} {a : Ac} (hnc : I 17 5 = nI a.nc) (hcd : ∀ k, k < a.nc → A 27 k = nI (a.cd k)) (hco : ∀ k, k < a.nc → A 28 k = nI (a.co k)) (V : Vw a) (hnc32 : a.nc ≤ 32) {r : Nat} (hr : r < 7) {t : Int} (ht : -1 ≤ t) (ht3 : t < 320) {xr xf v : Int32} (er : xr = nI r) (ef : xf = zN t) (h : ∀ A', (∀ q, q ≠ 19 + r → A' q = A q) → (∀ d : Nat, d < 320 → A' (19 + r) d = if (t ≤ (d : Int) ∧ d < unt a r t a.nc) then v else A (19 + r) d) → R none I A' B (pk w f)) : J n_Terms_spread 0 [.ref 17, .int xr, .int xf, .int v, .float 0, .float 0] [] I A B (pk w f) R := by
  subst er
  have hnc4 := V.nc4
  have hlo : ∃ lo : Nat, (lo : Int) = (if 0 < t then t else 0) ∧ lo ≤ 320 := ⟨t.toNat, by split <;> omega, by omega⟩
  obtain ⟨lo, hlo1, hlo2⟩ := hlo
  have hmx : (if (0 : Int32) < xf then xf else 0) = nI (lo + 0) := by
    rw [ef, Nat.add_zero, nI_z, hlo1]
    by_cases z : 0 < t
    · rw [if_pos (show (0 : Int32) < zN t from (zn_lt (x := 0) (by omega) (by omega) (by omega) (by omega)).mpr z), if_pos z]
    · rw [if_neg (fun y : (0 : Int32) < zN t => z ((zn_lt (x := 0) (by omega) (by omega) (by omega) (by omega)).mp y)), if_neg z]
      rfl
  have G2 : ∀ (u : Nat) (hu : u ≤ 320) (eu : u = unt a r t a.nc), ∀ i, i ≤ (u - lo) → ∀ (x : Int32) (Av : mI), x = nI (lo + i) → (∀ q, q ≠ 19 + r → Av q = A q) → (∀ d, d < 320 → Av (19 + r) d = if lo ≤ d ∧ d < lo + i then v else A (19 + r) d) → J n_Terms_spread 77 [.ref 17, .int (nI r), .int xf, .int v, .int (nI u), .int x] [] I Av B (pk w f) R := by
    intro u hu eu
    have G : ∀ i, i ≤ (u - lo) → ∀ (x : Int32) (Av : mI), x = nI (lo + i) → (∀ q, q ≠ 19 + r → Av q = A q) → (∀ d, d < 320 → Av (19 + r) d = if lo ≤ d ∧ d < lo + i then v else A (19 + r) d) → J n_Terms_spread 77 [.ref 17, .int (nI r), .int xf, .int v, .int (nI u), .int x] [] I Av B (pk w f) R := by
      refine lpz (fun i => ∀ (x : Int32) (Av : mI), x = nI (lo + i) → (∀ q, q ≠ 19 + r → Av q = A q) → (∀ d, d < 320 → Av (19 + r) d = if lo ≤ d ∧ d < lo + i then v else A (19 + r) d) → J n_Terms_spread 77 [.ref 17, .int (nI r), .int xf, .int v, .int (nI u), .int x] [] I Av B (pk w f) R) (fun i hi ih => ?_)
      intro x Av ex hq hv
      subst ex
      refine X 200 _ _ _ _ _ _ _ _ _ ?_
      refine And.intro (fun q1 => ?_) (fun q1 => ?_)
      · have e : i = u - lo := by have := (nI_leI (by omega) (by omega)).mp q1; omega
        subst e
        refine h Av hq (fun d hd => ?_)
        rw [hv d hd, ← eu]
        by_cases y : t ≤ (d : Int) ∧ d < u
        · rw [if_pos y, if_pos (by constructor <;> (split at hlo1 <;> omega))]
        · rw [if_neg y, if_neg (fun q => y (by constructor <;> (split at hlo1 <;> omega)))]
      · have hl : i < u - lo := by have : lo + i < u := Nat.lt_of_not_le (fun z => q1 (nI_le z (by omega))); omega
        have hb31 : (nI (lo + i)).toNatClampNeg = lo + i := cl (by omega)
        have hsh := rul_sh hr
        refine Exists.intro _ (Exists.intro _ (Exists.intro _ (And.intro rfl (And.intro (vin (by omega) (by omega)) ?_))))
        refine Exists.intro _ (And.intro (rul_sh hr) (And.intro (vin (by omega) (by omega)) ?_))
        exact ih hl _ _ (nI_1 _) (fun q h1 => by rw [cl (by omega), up2_r (by omega)]; exact hq q h1) (fun d hd => by
          rw [cl (show r < 2 ^ 31 by omega), hb31, show 19 + 1 * r = 19 + r by omega]
          by_cases z : d = lo + i
          · subst z
            rw [up2_s, if_pos (by omega)]
          · rw [up2_m z, hv d hd]
            by_cases y : lo ≤ d ∧ d < lo + i
            · rw [if_pos y, if_pos (by omega)]
            · rw [if_neg y, if_neg (by omega)])
    exact G
  have G1 : ∀ i, i ≤ a.nc → ∀ (s : Int32) (x : Int32), s = nI (unt a r t i) → x = nI i → J n_Terms_spread 8 [.ref 17, .int (nI r), .int xf, .int v, .int s, .int x] [] I A B (pk w f) R := by
    refine lpz (fun i => ∀ (s : Int32) (x : Int32), s = nI (unt a r t i) → x = nI i → J n_Terms_spread 8 [.ref 17, .int (nI r), .int xf, .int v, .int s, .int x] [] I A B (pk w f) R) (fun i hi ih => ?_)
    intro s x es ex
    subst es; subst ex
    refine X 200 _ _ _ _ _ _ _ _ _ ?_
    refine And.intro (fun q1 => ?_) (fun q1 => ?_)
    · rw [hnc] at q1
      have e := lpx hi (by omega) q1
      subst e
      refine And.intro (fun q2 => ?_) (fun q2 => ?_)
      · exact absurd q2 (nI_pos (by omega)) --end
      · refine And.intro (fun q3 => ?_) (fun q3 => ?_)
        · have hub := unt_b (a := a) (r := r) (t := t) a.nc
          exact G2 (unt a r t a.nc) hub rfl 0 (Nat.zero_le _) _ _ hmx (fun _ _ => rfl) (fun d hd => (if_neg (by omega)).symm)
        · exact absurd (nI_lt (b := 7) hr (by omega)) q3 --end
    · rw [hnc] at q1
      have hl := lpc hi (by omega) q1
      have hb31 : (nI i).toNatClampNeg = i := cl (by omega)
      have hub := unt_b (a := a) (r := r) (t := t) i
      have hcd3 := V.cd3 i hl
      have hco6 := V.co6 i hl
      have hcd1 := hcd i hl
      have hco1 := hco i hl
      refine Exists.intro _ (And.intro rfl (And.intro (vin (by omega) (by omega)) ?_))
      refine And.intro (fun q4 => ?_) (fun q4 => ?_)
      · rw [hb31, hco1] at q4
        have c1 : ¬ a.co i = r := fun z => q4 (by rw [z])
        exact ih hl _ _ (by
          show nI (unt a r t i) = nI (if a.co i = r ∧ t < a.cd i ∧ a.cd i < unt a r t i then a.cd i else unt a r t i)
          rw [if_neg (fun q => c1 q.1)]) (nI_1 i)
      · rw [hb31, hco1] at q4
        have c1 : a.co i = r := (nI_eq (by omega) (by omega)).mp q4
        refine Exists.intro _ (And.intro rfl (And.intro (vin (by omega) (by omega)) ?_))
        refine And.intro (fun q5 => ?_) (fun q5 => ?_)
        · rw [hb31, hcd1, ef, nI_z] at q5
          have c2 : ¬ t < a.cd i := by have := (zn_le (by omega) (by omega) (by omega) (by omega)).mp q5; omega
          exact ih hl _ _ (by
            show nI (unt a r t i) = nI (if a.co i = r ∧ t < a.cd i ∧ a.cd i < unt a r t i then a.cd i else unt a r t i)
            rw [if_neg (fun q => c2 q.2.1)]) (nI_1 i)
        · rw [hb31, hcd1, ef, nI_z] at q5
          have c2 : t < a.cd i := Int.not_le.mp (fun z => q5 ((zn_le (by omega) (by omega) (by omega) (by omega)).mpr z))
          refine Exists.intro _ (And.intro rfl (And.intro (vin (by omega) (by omega)) ?_))
          exact ih hl _ _ (by
            rw [hb31, hcd1]
            show (if nI (a.cd i) < nI (unt a r t i) then nI (a.cd i) else nI (unt a r t i)) = nI (if a.co i = r ∧ t < a.cd i ∧ a.cd i < unt a r t i then a.cd i else unt a r t i)
            by_cases z : a.cd i < unt a r t i
            · rw [if_pos (nI_lt z (by omega)), if_pos ⟨c1, c2, z⟩]
            · rw [if_neg (fun q => z ((nI_ltI (by omega) (by omega)).mp q)), if_neg (fun q => z q.2.2)]) (nI_1 i)
  refine X 200 _ _ _ _ _ _ _ _ _ ?_
  exact G1 0 (Nat.zero_le _) _ _ rfl rfl
set_option maxRecDepth 20000 in
theorem c_addChange {J : mJ} (X : mRules J) {I A : mI} {B : mB} {w f : Nat} {R : mR} {a : Ac} (C : CR a I A B) (G : Gd a) (hc : a.nc < 32) {x z r0 : Nat} (hx : x < 320) (hr0 : r0 ≤ 6) {v1 v2 v3 : Int32} (h1 : v1 = nI x) (h2 : v2 = nI r0) (h3 : v3 = nI z) (h : qR (zdC a x (r0 : Int) z) w f I A B R) : J n_Terms_addChange 0 [.ref 17, .int v1, .int v2, .int v3] [] I A B (pk w f) R := by
  have hnc4 := G.V.nc4
  refine X 200 _ _ _ _ _ _ _ _ _ ?_
  refine And.intro (fun q1 => ?_) (fun q1 => ?_)
  · rw [C.hnc] at q1
    exact absurd q1 (nI_ge (b := 32) hc (by omega)) --end
  · refine c_spread X C.hnc C.hcd C.hco G.V (by omega) (r := r0) (by omega) (t := (x : Int)) (by omega) (by omega) h2 (h1.trans (nI_z x)) (fun Av hq hv => ?_)
    refine Exists.intro _ (And.intro rfl (And.intro (by rw [C.hnc]; exact vin (by omega) (by omega)) ?_))
    refine Exists.intro _ (And.intro rfl (And.intro (by rw [C.hnc]; exact vin (by omega) (by omega)) ?_))
    refine h _ _ _ (C.dC G (r0 := r0) rfl hr0 (by rw [C.hnc]; exact cl (by omega)) (by rw [C.hnc]; exact cl (by omega)) h1 (h2.trans (nI_z r0)) (by rw [C.hnc]; exact nI_1 _) hq (fun d hd => ?_)) ((fR.a (A' := up2 (up2 Av 27 (I 17 5).toNatClampNeg v1) 28 (I 17 5).toNatClampNeg v2) (fun k hk => ?_)).trans (fR.i (by omega)))
    · rw [hv d hd, h3]
      by_cases y : (x : Int) ≤ d ∧ d < unt a r0 x a.nc
      · rw [if_pos y, if_pos (by omega)]
      · rw [if_neg y, if_neg (by omega)]
    · rw [up2_r (by omega), up2_r (by omega)]
      exact hq k (by omega)
set_option maxRecDepth 20000 in
theorem c_closeOpen {J : mJ} (X : mRules J) {I A : mI} {B : mB} {w f : Nat} {R : mR} {a : Ac} (C : CR a I A B) (G : Gd a) (hn2 : a.n < 220) (ho : a.c < a.N) (h : qR (zcl a) w f I A B R) : J n_Ledger_closeOpen 0 [.ref 16, .float 0, .float 0] [] I A B (pk w f) R := by
  have V := G.V
  have hP40 := V.P40
  have hN8 := V.N8
  have hnt4 := V.nt4
  have hcN := V.cN
  have hK1 := V.K1
  have hK4 := V.K4
  have hPN := D320 V
  have hDD : I 16 4 * I 16 5 = nI (a.P * a.N) := by rw [C.hP, C.hN, pk_mul]
  have hzc := zcm_le V (p := a.c) (by omega)
  refine X 200 _ _ _ _ _ _ _ _ _ ?_
  refine c_hasOpen X (fun zo => ?_) (fun zo => ?_)
  · refine And.intro (fun q => absurd q (by decide)) (fun _ => ?_)
    refine c_productsOf36 X hnt4 C.hnt C.hP (p := a.c) C.hc (by have := P_le ho; rw [Nat.mul_comm a.c a.P]; omega) ?_
    refine c_nearest X ?_
    refine c_compDay X ?_ (by rw [C.hK (by omega)]; exact nI_nlt (a := a.K) (b := 1) (by omega) (by omega))
    obtain ⟨od, O⟩ := C.hod
    have ev := (show I 16 4 * I 16 6 * (I 16 7 / I 16 6 + 1) = nI (zcm a a.c) by rw [C.hP, C.hK (by omega), C.hc, pk_div (by omega) (by omega) (by omega), nI_1, pk_mul, pk_mul]; rfl)
    refine c_add X (by omega) C.hn (od := od) (fun j hj => ⟨O.lt j hj, O.at_ j hj⟩) (fun p hp hp1 hp2 => ?_)
    refine c_shift36 X (v := zcm a a.c) (D := a.P * a.N) hDD hPN ev (by omega) ?_
    have C1 := C.en (s := 1) (v := zcm a a.c) (m := zit a a.c) O hp (fun j a1 a2 => by have := hp1 j a1 a2; rw [ev, C.hva _ (O.lt j a2)] at this; exact (nI_ltI (by omega) (by have := G.V.va9 _ (O.lt j a2); omega)).mp this) (by
  rcases hp2 with z | z
  · exact Or.inl z
  · by_cases y : p = 0
    · exact Or.inl y
    · rw [ev, C.hva _ (O.lt (p - 1) (by omega))] at z
      exact Or.inr ((nI_leI (by have := G.V.va9 _ (O.lt (p - 1) (by omega)); omega) (by omega)).mp z)) rfl ev C.hc (z_int C G ho) C.hc
    have C2 : CR (zcl a) _ _ _ := CR.sc (c := a.c + 1) C1 (v := up2 I 29 6 (nI (a.n + 1)) 16 7 + 1) (by rw [up2_n (by decide), C.hc]; exact nI_1 _)
    exact h _ _ _ C2 (fR.en.trans (fR.i (by omega)))
  · exact absurd (by rw [C.hc, C.hN]; exact nI_lt ho (by omega)) zo
set_option maxRecDepth 20000 in
theorem c_runAnew {J : mJ} (X : mRules J) {I A : mI} {B : mB} {w f : Nat} {R : mR} {a : Ac} (C : CR a I A B) (G : Gd a) (hn2 : a.n + a.c ≤ 220) (h : qR (zrr a a.c) w f I A B R) : J n_Ledger_runAnew 0 [.ref 16, .float 0, .float 0, .float 0] [] I A B (pk w f) R := by
  have V := G.V
  have hP40 := V.P40
  have hN8 := V.N8
  have hnt4 := V.nt4
  have hcN := V.cN
  have hK1 := V.K1
  have hK4 := V.K4
  have hPN := D320 V
  have hDD : I 16 4 * I 16 5 = nI (a.P * a.N) := by rw [C.hP, C.hN, pk_mul]
  have GG : ∀ i, i ≤ a.c → ∀ (x : Int32) (z2 : Value) (Iv : mI) (Av : mI) (Bv : mB), x = nI i → CR (zrr a i) Iv Av Bv → fR I A B Iv Av Bv → J n_Ledger_runAnew 2 [.ref 16, .int x, z2, .float 0] [] Iv Av Bv (pk w f) R := by
    refine lpz (fun i => ∀ (x : Int32) (z2 : Value) (Iv : mI) (Av : mI) (Bv : mB), x = nI i → CR (zrr a i) Iv Av Bv → fR I A B Iv Av Bv → J n_Ledger_runAnew 2 [.ref 16, .int x, z2, .float 0] [] Iv Av Bv (pk w f) R) (fun i hi ih => ?_)
    intro x z2 Iv Av Bv ex Cv fv
    subst ex
    have hrc := rr_c (a := a) i
    have Gv := gd_rr G (by omega) i hi
    have hrN := (sr_rr (a := a) i).N
    have hntv := Gv.V.nt4
    have hK1v := Gv.V.K1
    have hK4v := Gv.V.K4
    have hPv := D320 Gv.V
    have hDv : Iv 16 4 * Iv 16 5 = nI ((zrr a i).P * (zrr a i).N) := by rw [Cv.hP, Cv.hN, pk_mul]
    refine X 200 _ _ _ _ _ _ _ _ _ ?_
    refine And.intro (fun q1 => ?_) (fun q1 => ?_)
    · rw [Cv.hc, hrc.1] at q1
      have e := lpx hi (by omega) q1
      subst e
      exact h _ _ _ Cv fv
    · rw [Cv.hc, hrc.1] at q1
      have hl := lpc hi (by omega) q1
      have hzc := zcm_le Gv.V (p := i) (by omega)
      have hcb : -2 ^ 40 ≤ zcv a i ∧ zcv a i ≤ 2 ^ 40 := gd_z Gv (p := i) (by omega)
      have hcv : nea (pds Av Bv (zrr a i).nt 36 (zrr a i).P i 0 0) - ibk Av Bv (zrr a i).n (nI i) = zL (zcv a i) := by rw [z_int Cv Gv (by omega), z_ibk Cv Gv.V, zL_sub]; rfl
      refine c_productsOf36 X hntv Cv.hnt Cv.hP (p := i) rfl (by have := P_le (a := zrr a i) (p := i) (by omega); rw [Nat.mul_comm i]; omega) ?_
      refine c_nearest X ?_
      refine c_interestBooked X (by omega) Cv.hn ?_
      refine And.intro (fun q2 => ?_) (fun q2 => ?_)
      · have c0 : zcv a i = 0 := (zl_eq0 (by omega) (by omega)).mp (hcv.symm.trans q2)
        exact ih hl _ _ _ _ _ (nI_1 i) (by rw [rr_0 c0]; exact Cv) fv
      · have c0 : ¬ zcv a i = 0 := fun z => q2 (hcv.trans (by rw [z]; rfl))
        refine c_compDay X ?_ (by rw [Cv.hK (by omega)]; exact nI_nlt (a := (zrr a i).K) (b := 1) (by omega) (by omega))
        obtain ⟨od, O⟩ := Cv.hod
        have ev := (show Iv 16 4 * Iv 16 6 * (nI i / Iv 16 6 + 1) = nI (zcm (zrr a i) i) by rw [Cv.hP, Cv.hK (by omega), pk_div (by omega) (by omega) (by omega), nI_1, pk_mul, pk_mul]; rfl)
        refine c_add X (by omega) Cv.hn (od := od) (fun j hj => ⟨O.lt j hj, O.at_ j hj⟩) (fun p hp hp1 hp2 => ?_)
        refine c_shift36 X (v := zcm (zrr a i) i) (D := (zrr a i).P * (zrr a i).N) hDv hPv ev (by omega) ?_
        have C1 := Cv.en (s := 2) (v := zcm (zrr a i) i) (m := zcv a i) (o := nI i) O hp (fun j a1 a2 => by have := hp1 j a1 a2; rw [ev, Cv.hva _ (O.lt j a2)] at this; exact (nI_ltI (by omega) (by have := Gv.V.va9 _ (O.lt j a2); omega)).mp this) (by
  rcases hp2 with z | z
  · exact Or.inl z
  · by_cases y : p = 0
    · exact Or.inl y
    · rw [ev, Cv.hva _ (O.lt (p - 1) (by omega))] at z
      exact Or.inr ((nI_leI (by have := Gv.V.va9 _ (O.lt (p - 1) (by omega)); omega) (by omega)).mp z)) rfl ev Cv.hc hcv rfl
        exact ih hl _ _ _ _ _ (nI_1 i) (by rw [rr_1 c0]; exact C1) (fv.trans fR.en)
  refine X 200 _ _ _ _ _ _ _ _ _ ?_
  exact GG 0 (Nat.zero_le _) _ _ _ _ _ rfl C (fR.refl _ _ _)
theorem ty_y {y : Int} : (if 0 = 0 ∧ y = 0 then (-1 : Int32) else zN y) = if y = 0 then -1 else zN y := by
  by_cases q : y = 0
  · rw [if_pos ⟨rfl, q⟩, if_pos q]
  · rw [if_neg (fun q2 => q q2.2), if_neg q]
theorem z_money {a : Ac} {I A : mI} {B : mB} (C : CR a I A B) (V : Vw a) {x : Nat} (hx : x < ct (fun j => decide (a.so j = 0)) a.n) {v : Int32} (ev : v = nI x) : fI (fd (fun j => decide (A 30 j = 0 ∧ nI (ct (fun j => decide (A 30 j = 0)) j) = v)) a.n) = nI (zpe a x) := by
  have h4 := V.n4
  obtain ⟨h1, h2, h3⟩ := zpe_i hx
  have e : ∀ j, j < a.n → (A 30 j = 0 ↔ a.so j = 0) := fun j hj => by
    have h3 := V.so3 j hj
    rw [C.hso j hj]
    exact nI_eq (b := 0) (by omega) (by omega)
  have ec : ∀ j, j ≤ a.n → ct (fun j => decide (A 30 j = 0)) j = ct (fun j => decide (a.so j = 0)) j := fun j hj => ct_congr (fun i hi => by
    show decide _ = decide _
    simp only [e i (by omega)])
  subst ev
  have key : ∀ j, j < a.n → (decide (A 30 j = 0 ∧ nI (ct (fun j => decide (A 30 j = 0)) j) = nI x) = true ↔ j = zpe a x) := fun j hj => by
    rw [decide_eq_true_eq, e j hj, ec j (by omega)]
    have hl := ct_le (c := fun j => decide (a.so j = 0)) j
    have hl2 := ct_le (c := fun j => decide (a.so j = 0)) a.n
    rw [nI_eq (by omega) (by omega)]
    constructor
    · exact fun z => (zpe_u hj z.1 z.2).symm
    · intro z
      subst z
      exact ⟨h2, h3⟩
  rw [fd_at h1 ((key _ h1).mpr rfl) (fun j hj => by
    cases hc : decide (A 30 j = 0 ∧ nI (ct (fun j => decide (A 30 j = 0)) j) = nI x) with
    | false => rfl
    | true => exact absurd ((key j (by omega)).mp hc) (by omega))]
  rfl
set_option maxRecDepth 20000 in
theorem c_perform {J : mJ} (X : mRules J) {I A : mI} {B : mB} {w f : Nat} {R : mR} {a : Ac} (C : CR a I A B) (G : Gd a) {r : Rw} (H : Ch a) (hn2 : (3 ≤ r.1 → a.n < 220) ∧ (r.1 = 5 → a.n + 8 ≤ 220)) (hnc32 : a.nc ≤ 32) {k s : Nat} (hs : I 7 1 + I 7 2 = nI s) (hks : k + 1 < s) (hs82 : s ≤ 82) (hr : CRow 8 A k r) (O9 : Ok a r) {xk : Int32} (exk : xk = nI (k + 1)) (h : qR (zdo a r) w f I A B R) : J n_Ledger_perform 0 [.ref 16, .ref 7, .int xk, .float 0, .float 0, .float 0] [] I A B (pk w f) R := by
  have V := G.V
  have hP40 := V.P40
  have hN8 := V.N8
  have hnt4 := V.nt4
  have hcN := V.cN
  have hK1 := V.K1
  have hK4 := V.K4
  have hPN := D320 V
  have hDD : I 16 4 * I 16 5 = nI (a.P * a.N) := by rw [C.hP, C.hN, pk_mul]
  subst exk
  obtain ⟨kd, x, y, z⟩ := r
  obtain ⟨hr0, hr1, hr2, hr3⟩ := hr
  have hk6 : kd ≤ 6 := O9.k6
  have ha0 : A 8 (4 * (k + 1) + 0) = nI (kd + 1) := hr0
  have ha1 : A 8 (4 * (k + 1) + 1) = nI x := hr1
  have ha3 : A 8 (4 * (k + 1) + 3) = nI z := hr3
  have ha2' : A 8 (4 * (k + 1) + 2) = (if kd = 0 ∧ y = 0 then -1 else zN y) := hr2
  have hv9 : ∀ j, j < a.n → a.va j < 2 ^ 20 := fun j hj => by have := V.va9 j hj; omega
  refine X 200 _ _ _ _ _ _ _ _ _ ?_
  refine c_told X hs (r := k + 1) (c := 1) hks hs82 (by omega) rfl rfl ?_
  refine c_told X hs (r := k + 1) (c := 2) hks hs82 (by omega) rfl rfl ?_
  refine c_told X hs (r := k + 1) (c := 3) hks hs82 (by omega) rfl rfl ?_
  refine c_told X hs (r := k + 1) (c := 0) hks hs82 (by omega) rfl rfl ?_
  refine And.intro (fun q1 => ?_) (fun q1 => ?_)
  · have ekd : kd = 0 := by have q9 := ha0.symm.trans q1; have := (nI_eq (b := 1) (by omega) (by omega)).mp q9; omega
    subst ekd
    have ha2 : A 8 (4 * (k + 1) + 2) = if y = 0 then -1 else zN y := ha2'.trans ty_y
    refine And.intro (fun q2 => ?_) (fun q2 => ?_)
    · rw [C.hnt] at q2
      exact absurd q2 (nI_ge (b := 4) (O9.t0 rfl).1 (by omega)) --end
    · refine Exists.intro _ (And.intro rfl (And.intro (by rw [C.hnt]; have hO := O9.t0 rfl; exact vin (by omega) (by omega)) ?_))
      refine c_spread X (a := a) C.hnc (fun k hk => by rw [up2_n (by decide)]; exact C.hcd k hk) (fun k hk => by rw [up2_n (by decide)]; exact C.hco k hk) V (by omega) (r := a.nt) (by omega) (t := -1) (by omega) (by omega) C.hnt rfl (fun Av hq hv => ?_)
      have hO := O9.t0 rfl
      exact h _ _ _ (C.dT G H hO.1 (x := x) (y := y) hO.2.2.1 (by rw [C.hnt]; exact cl (by omega)) ha2 (by rw [C.hnt]; exact nI_1 _) hq (fun d hd => by rw [hv d hd, ha1]; exact if_pos ⟨by omega, (unt_z hd (by omega)).mpr (by rw [zlt_1 (by omega)]; exact fun i hi h1 _ => absurd h1 (by have := H i hi; omega))⟩)) ((fR.a (fun k hk => by rw [hq k (by omega), up2_r (by omega)])).trans (fR.i (by omega)))
  refine And.intro (fun q3 => ?_) (fun q3 => ?_)
  · have ekd : kd = 1 := by have q9 := ha0.symm.trans q3; have := (nI_eq (b := 2) (by omega) (by omega)).mp q9; omega
    subst ekd
    have ha2 : A 8 (4 * (k + 1) + 2) = zN y := by rw [ha2', if_neg (fun q => absurd q.1 (by decide))]
    refine c_spread X (a := a) C.hnc C.hcd C.hco V (by omega) (r := 4) (by omega) (t := -1) (by omega) (by omega) rfl rfl (fun Av hq1 hv1 => ?_)
    refine c_spread X (a := a) C.hnc (fun k hk => by rw [hq1 27 (by decide)]; exact C.hcd k hk) (fun k hk => by rw [hq1 28 (by decide)]; exact C.hco k hk) V (by omega) (r := 5) (by omega) (t := -1) (by omega) (by omega) rfl rfl (fun Aw hq2 hv2 => ?_)
    refine c_spread X (a := a) C.hnc (fun k hk => by rw [hq2 27 (by decide), hq1 27 (by decide)]; exact C.hcd k hk) (fun k hk => by rw [hq2 28 (by decide), hq1 28 (by decide)]; exact C.hco k hk) V (by omega) (r := 6) (by omega) (t := -1) (by omega) (by omega) rfl rfl (fun Ax hq3 hv3 => ?_)
    have hO := O9.d0 rfl
    exact h _ _ _ (C.dD G (x := x) (y := y) (z := z) hO.2.1 (fun q b1 b2 b3 => by rw [hq3 q (by omega), hq2 q (by omega), hq1 q (by omega)]) (fun d hd => by
      rw [hq3 23 (by decide), hq2 23 (by decide), show (23 : Nat) = 19 + 4 from rfl, hv1 d hd, ha1]
      by_cases y1 : d < unt a 4 (-1) a.nc
      · rw [if_pos ⟨by omega, y1⟩, if_pos y1]
      · rw [if_neg (fun q => y1 q.2), if_neg y1]) (fun d hd => by
      rw [hq3 24 (by decide), show (24 : Nat) = 19 + 5 from rfl, hv2 d hd, ha2, hq1 (19 + 5) (by decide)]
      by_cases y1 : d < unt a 5 (-1) a.nc
      · rw [if_pos ⟨by omega, y1⟩, if_pos y1]
      · rw [if_neg (fun q => y1 q.2), if_neg y1]) (fun d hd => by
      rw [show (25 : Nat) = 19 + 6 from rfl, hv3 d hd, ha3, hq2 (19 + 6) (by decide), hq1 (19 + 6) (by decide)]
      by_cases y1 : d < unt a 6 (-1) a.nc
      · rw [if_pos ⟨by omega, y1⟩, if_pos y1]
      · rw [if_neg (fun q => y1 q.2), if_neg y1])) (fR.a (fun k hk => by rw [hq3 k (by omega), hq2 k (by omega), hq1 k (by omega)]))
  refine And.intro (fun q4 => ?_) (fun q4 => ?_)
  · have ekd : kd = 2 := by have q9 := ha0.symm.trans q4; have := (nI_eq (b := 3) (by omega) (by omega)).mp q9; omega
    subst ekd
    have ha2 : A 8 (4 * (k + 1) + 2) = zN y := by rw [ha2', if_neg (fun q => absurd q.1 (by decide))]
    have hO : a.nc < 32 ∧ x < a.P * a.N ∧ 0 ≤ y ∧ (y < a.nt ∨ 4 ≤ y ∧ y ≤ 6) ∧ z ≤ 99999 ∧ (y ≠ 6 → z ≤ 5000) := O9.c0 rfl
    obtain ⟨hO1, hO2, hO3, hO4, hO5, hO6⟩ := hO
    have hy0 : ∃ r0 : Nat, y = (r0 : Int) ∧ r0 ≤ 6 := ⟨y.toNat, by omega, by omega⟩
    obtain ⟨r0, ey, hr60⟩ := hy0
    subst ey
    refine c_addChange X C G hO1 (x := x) (z := z) (r0 := r0) (by omega) hr60 ha1 (ha2.trans (nI_z r0).symm) ha3 (fun I1 A1 B1 C1 f1 => ?_)
    exact h _ _ _ C1 f1
  refine And.intro (fun q5 => ?_) (fun q5 => ?_)
  · have ekd : kd = 3 := by have q9 := ha0.symm.trans q5; have := (nI_eq (b := 4) (by omega) (by omega)).mp q9; omega
    subst ekd
    have ha2 : A 8 (4 * (k + 1) + 2) = zN y := by rw [ha2', if_neg (fun q => absurd q.1 (by decide))]
    have hy9 := O9.e0 rfl
    have hy8 : x < a.P * a.N ∧ -99999 ≤ y ∧ y ≤ 99999 := hy9
    have hn2' : a.n < 220 := hn2.1 (by show 3 ≤ 3; omega)
    obtain ⟨od, O⟩ := C.hod
    have ev := ha1
    refine c_add X (by omega) C.hn (od := od) (fun j hj => ⟨O.lt j hj, O.at_ j hj⟩) (fun p hp hp1 hp2 => ?_)
    refine c_shift36 X (v := x) (D := a.P * a.N) hDD hPN ev (by omega) ?_
    have C1 := C.en (s := 0) (v := x) (m := y) (o := -1) O hp (fun j a1 a2 => by have := hp1 j a1 a2; rw [ev, C.hva _ (O.lt j a2)] at this; exact (nI_ltI (by omega) (by have := G.V.va9 _ (O.lt j a2); omega)).mp this) (by
  rcases hp2 with z | z
  · exact Or.inl z
  · by_cases y : p = 0
    · exact Or.inl y
    · rw [ev, C.hva _ (O.lt (p - 1) (by omega))] at z
      exact Or.inr ((nI_leI (by have := G.V.va9 _ (O.lt (p - 1) (by omega)); omega) (by omega)).mp z)) rfl ev C.hc (show (A 8 (4 * (k + 1) + 2)).toInt64 = zL y by rw [ha2]; exact zn_l (by omega) (by omega)) rfl
    exact h _ _ _ C1 fR.en
  refine And.intro (fun q6 => ?_) (fun q6 => ?_)
  · have ekd : kd = 4 := by have q9 := ha0.symm.trans q6; have := (nI_eq (b := 5) (by omega) (by omega)).mp q9; omega
    subst ekd
    have ha2 : A 8 (4 * (k + 1) + 2) = zN y := by rw [ha2', if_neg (fun q => absurd q.1 (by decide))]
    have hn2' : a.n < 220 := hn2.1 (by show 3 ≤ 4; omega)
    refine c_closeOpen X C G (by omega) (O9.op (by show 3 ≤ 4; omega)) (fun I1 A1 B1 C1 f1 => ?_)
    exact h _ _ _ C1 f1
  refine And.intro (fun q7 => ?_) (fun q7 => ?_)
  · have ekd : kd = 5 := by have q9 := ha0.symm.trans q7; have := (nI_eq (b := 6) (by omega) (by omega)).mp q9; omega
    subst ekd
    have ha2 : A 8 (4 * (k + 1) + 2) = zN y := by rw [ha2', if_neg (fun q => absurd q.1 (by decide))]
    have hn2' : a.n < 220 := hn2.1 (by show 3 ≤ 5; omega)
    have hn25 : a.n + 8 ≤ 220 := hn2.2 rfl
    refine c_runAnew X C G (by omega) (fun I1 A1 B1 C1 f1 => ?_)
    exact h _ _ _ C1 f1
  refine And.intro (fun q8 => ?_) (fun q8 => ?_)
  · have ekd : kd = 6 := by have q9 := ha0.symm.trans q8; have := (nI_eq (b := 7) (by omega) (by omega)).mp q9; omega
    subst ekd
    have ha2 : A 8 (4 * (k + 1) + 2) = zN y := by rw [ha2', if_neg (fun q => absurd q.1 (by decide))]
    have hn2' : a.n < 220 := hn2.1 (by show 3 ≤ 6; omega)
    have hrx : x < ct (fun j => decide (a.so j = 0)) a.n := O9.r0 rfl
    have hz1 : zpe a x < a.n := (zpe_i hrx).1
    have hvz := V.va9 _ hz1
    refine c_moneyAt X (by omega) C.hn ?_
    have hmo := z_money C V (x := x) hrx ha1
    rw [hmo]
    refine c_has X (by omega) C.hn (fun k hk ek => ?_) (fun zk => ?_)
    · refine And.intro (fun q => absurd q (by decide)) (fun _ => ?_)
      refine c_amountOf X (by omega) C.hn rfl hz1 ?_
      refine c_valueOf X (by omega) C.hn rfl hz1 ?_
      obtain ⟨od, O⟩ := C.hod
      have ev := (C.hva _ hz1)
      refine c_add X (by omega) C.hn (od := od) (fun j hj => ⟨O.lt j hj, O.at_ j hj⟩) (fun p hp hp1 hp2 => ?_)
      refine c_shift36 X (v := a.va (zpe a x)) (D := a.P * a.N) hDD hPN ev (by omega) ?_
      have C1 := C.en (s := 3) (v := a.va (zpe a x)) (m := -a.am (zpe a x)) (o := nI (zpe a x)) O hp (fun j a1 a2 => by have := hp1 j a1 a2; rw [ev, C.hva _ (O.lt j a2)] at this; exact (nI_ltI (by omega) (by have := G.V.va9 _ (O.lt j a2); omega)).mp this) (by
  rcases hp2 with z | z
  · exact Or.inl z
  · by_cases y : p = 0
    · exact Or.inl y
    · rw [ev, C.hva _ (O.lt (p - 1) (by omega))] at z
      exact Or.inr ((nI_leI (by have := G.V.va9 _ (O.lt (p - 1) (by omega)); omega) (by omega)).mp z)) rfl ev C.hc (show -(B 31 (zpe a x)) = zL (-a.am (zpe a x)) by rw [C.ham _ hz1, zL_neg]) rfl
      exact h _ _ _ C1 fR.en
    · exact absurd rfl (zk (zpe a x) hz1)
  have hd9 : kd + 1 = 1 ∨ kd + 1 = 2 ∨ kd + 1 = 3 ∨ kd + 1 = 4 ∨ kd + 1 = 5 ∨ kd + 1 = 6 ∨ kd + 1 = 7 := by omega
  exfalso
  rcases hd9 with q | q | q | q | q | q | q
  · exact q1 (ha0.trans (congrArg nI q))
  · exact q3 (ha0.trans (congrArg nI q))
  · exact q4 (ha0.trans (congrArg nI q))
  · exact q5 (ha0.trans (congrArg nI q))
  · exact q6 (ha0.trans (congrArg nI q))
  · exact q7 (ha0.trans (congrArg nI q))
  · exact q8 (ha0.trans (congrArg nI q))
