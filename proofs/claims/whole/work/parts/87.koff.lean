/-! contracts of the class: paid off (written by wip/whole/gk14.py) -/
theorem c_PisEntry {J : mJ} (X : mRules J) {I A : mI} {B : mB} {w f : Nat} {R : mR} {n : Nat} (hn : n ≤ 220) (hz : I 29 6 = nI n) {x : Int32} {e : Nat} (ex : x = nI e) (he : e < n) (h : R (some (.int 1)) I A B (pk w f)) : J n_PaidOff_isEntry 0 [.ref 40, .int x] [] I A B (pk w f) R := by
  subst ex
  refine X 200 _ _ _ _ _ _ _ _ _ ?_
  refine And.intro (fun q1 => ?_) (fun q1 => ?_)
  · exact absurd q1 (nI_pos (by omega)) --end
  · refine And.intro (fun q2 => ?_) (fun q2 => ?_)
    · exact absurd q2 (nI_ge (b := 220) (by omega) (by omega)) --end
    · refine c_has X (D := n) (by omega) hz (fun k0 hk ek => ?_) (fun zk => ?_)
      · refine And.intro (fun q => absurd q (by decide)) (fun _ => ?_)
        refine And.intro (Or.inr rfl) ?_
        exact h
      · exact absurd rfl (zk e he)
theorem c_restOf {J : mJ} (X : mRules J) {I A : mI} {B : mB} {w f : Nat} {R : mR} {n : Nat} (hn : n ≤ 220) (hz : I 29 6 = nI n) {x : Int32} {e : Nat} (ex : x = nI e) (he : e < n) (h : R (some (.long (B 41 e))) I A B (pk w f)) : J n_PaidOff_restOf 0 [.ref 40, .int x] [] I A B (pk w f) R := by
  subst ex
  refine X 200 _ _ _ _ _ _ _ _ _ ?_
  refine c_PisEntry X hn hz rfl he ?_
  refine And.intro (fun q => absurd q (by decide)) (fun _ => ?_)
  refine Exists.intro _ (And.intro rfl (And.intro (vin (by omega) (by omega)) ?_))
  rw [← cl (n := e) (by omega)] at h
  exact h
theorem c_lastDay {J : mJ} (X : mRules J) {I A : mI} {B : mB} {w f : Nat} {R : mR} {n : Nat} (hn : n ≤ 220) (hz : I 29 6 = nI n) {x : Int32} {e : Nat} (ex : x = nI e) (he : e < n) (h : R (some (.int (A 42 e))) I A B (pk w f)) : J n_PaidOff_lastDayOf 0 [.ref 40, .int x] [] I A B (pk w f) R := by
  subst ex
  refine X 200 _ _ _ _ _ _ _ _ _ ?_
  refine c_PisEntry X hn hz rfl he ?_
  refine And.intro (fun q => absurd q (by decide)) (fun _ => ?_)
  refine Exists.intro _ (And.intro rfl (And.intro (vin (by omega) (by omega)) ?_))
  rw [← cl (n := e) (by omega)] at h
  exact h
theorem c_takeOff {J : mJ} (X : mRules J) {I A : mI} {B : mB} {w f : Nat} {R : mR} {n : Nat} (hn : n ≤ 220) (hz : I 29 6 = nI n) {x dy : Int32} {m : Int64} {e : Nat} (ex : x = nI e) (he : e < n) (h : ∀ A', (∀ r, r ≠ 42 → A' r = A r) → (∀ j, A' 42 j = if j = e ∧ B 41 e - m = 0 then dy else A 42 j) → R none I A' (up2 B 41 e (B 41 e - m)) (pk w f)) : J n_PaidOff_takeOff 0 [.ref 40, .int x, .long m, .float 0, .int dy] [] I A B (pk w f) R := by
  subst ex
  have cb : (nI e).toNatClampNeg = e := cl (by omega)
  refine X 200 _ _ _ _ _ _ _ _ _ ?_
  refine c_PisEntry X hn hz rfl he ?_
  refine And.intro (fun q => absurd q (by decide)) (fun _ => ?_)
  refine Exists.intro _ (And.intro rfl (And.intro (vin (by omega) (by omega)) ?_))
  refine Exists.intro _ (And.intro rfl (And.intro (vin (by omega) (by omega)) ?_))
  refine Exists.intro _ (And.intro rfl (And.intro (vin (by omega) (by omega)) ?_))
  refine And.intro (fun q1 => ?_) (fun q1 => ?_)
  · rw [cb, up2_s] at q1
    rw [cb]
    exact h _ (fun _ _ => rfl) (fun j => (if_neg (fun z => q1 z.2)).symm)
  · refine Exists.intro _ (And.intro rfl (And.intro (vin (by omega) (by omega)) ?_))
    rw [cb, up2_s] at q1
    rw [cb]
    refine h _ (fun r hr => up2_r hr) (fun j => ?_)
    by_cases z : j = e
    · subst z
      rw [up2_s, if_pos ⟨rfl, q1⟩]
    · rw [up2_m z, if_neg (fun y => z y.1)]
set_option maxRecDepth 20000 in
theorem c_nextU {J : mJ} (X : mRules J) {I A : mI} {B : mB} {w f : Nat} {R : mR} {a : Ac} (V : Vw a) (hn2 : a.n ≤ 220) (hz : I 29 6 = nI a.n) {od : Nat → Nat} (hod : ∀ k, k < a.n → A 35 k = nI (od k) ∧ od k < a.n) (ham : ∀ e, e < a.n → B 31 e = zL (a.am e)) {xf : Int32} {fr : Nat} (ef : xf = nI fr) (hf : fr ≤ a.n) (h : R (some (.int (fI (onx a od true fr)))) I A B (pk w f)) : J n_PaidOff_nextOf 0 [.ref 40, .int 1, .int xf, .float 0] [] I A B (pk w f) R := by
  subst ef
  have G9 : ∀ i, i ≤ a.n → ∀ (z2 : Int32) (x : Int32), x = nI i → fr ≤ i → (∀ j, fr ≤ j → j < i → osd a true (od j) = false) → J n_PaidOff_nextOf 6 [.ref 40, .int 1, .int z2, .int x] [] I A B (pk w f) R := by
    refine lpz (fun i => ∀ (z2 : Int32) (x : Int32), x = nI i → fr ≤ i → (∀ j, fr ≤ j → j < i → osd a true (od j) = false) → J n_PaidOff_nextOf 6 [.ref 40, .int 1, .int z2, .int x] [] I A B (pk w f) R) (fun i hi ih => ?_)
    intro z2 x ex hfr hno
    subst ex
    refine X 200 _ _ _ _ _ _ _ _ _ ?_
    refine And.intro (fun q1 => ?_) (fun q1 => ?_)
    · rw [hz] at q1
      have e := lpx hi (by omega) q1
      subst e
      rw [show onx a od true fr = none from fd_no (fun j hj => by
        by_cases z : fr ≤ j
        · rw [hno j z hj, Bool.and_false]
        · rw [decide_eq_false z, Bool.false_and])] at h
      exact h
    · rw [hz] at q1
      have hl := lpc hi (by omega) q1
      have ho1 := (hod i hl).1
      have ho2 := (hod i hl).2
      have ha1 := ham (od i) ho2
      have ha9 := V.am1 (od i) ho2
      have em : B 31 (od i) * (1 : Int32).toInt64 = zL (a.am (od i)) := by rw [ha1, show ((1 : Int32).toInt64) = zL 1 from rfl, zL_mul, Int.mul_one]
      refine c_inOrder X hn2 hz (i := i) rfl hl ?_
      refine c_amountOf X hn2 hz (i := od i) ho1 ho2 ?_
      refine And.intro (fun q2 => ?_) (fun q2 => ?_)
      · rw [em] at q2
        have sf : osd a true (od i) = false := decide_eq_false (fun z => by have := (zl_le0 (by omega) (by omega)).mp q2; omega)
        exact ih hl _ _ (nI_1 i) (by omega) (fun j h1 h2 => by
          by_cases z : j = i
          · rw [z]; exact sf
          · exact hno j h1 (by omega))
      · rw [em] at q2
        have st : osd a true (od i) = true := decide_eq_true (by have : ¬ a.am (od i) ≤ 0 := fun z => q2 ((zl_le0 (by omega) (by omega)).mpr z); omega)
        rw [show onx a od true fr = some i from fd_at hl (by rw [st, Bool.and_true]; exact decide_eq_true hfr) (fun j hj => by
          by_cases z : fr ≤ j
          · rw [hno j z hj, Bool.and_false]
          · rw [decide_eq_false z, Bool.false_and])] at h
        exact h
  refine X 200 _ _ _ _ _ _ _ _ _ ?_
  exact G9 fr hf _ _ (by rw [show (if (0 : Int32) < nI fr then nI fr else 0) = nI fr from nmax (by omega)]) (Nat.le_refl _) (fun j h1 h2 => by omega)
set_option maxRecDepth 20000 in
theorem c_nextD {J : mJ} (X : mRules J) {I A : mI} {B : mB} {w f : Nat} {R : mR} {a : Ac} (V : Vw a) (hn2 : a.n ≤ 220) (hz : I 29 6 = nI a.n) {od : Nat → Nat} (hod : ∀ k, k < a.n → A 35 k = nI (od k) ∧ od k < a.n) (ham : ∀ e, e < a.n → B 31 e = zL (a.am e)) {xf : Int32} {fr : Nat} (ef : xf = nI fr) (hf : fr ≤ a.n) (h : R (some (.int (fI (onx a od false fr)))) I A B (pk w f)) : J n_PaidOff_nextOf 0 [.ref 40, .int (-1), .int xf, .float 0] [] I A B (pk w f) R := by
  subst ef
  have G9 : ∀ i, i ≤ a.n → ∀ (z2 : Int32) (x : Int32), x = nI i → fr ≤ i → (∀ j, fr ≤ j → j < i → osd a false (od j) = false) → J n_PaidOff_nextOf 6 [.ref 40, .int (-1), .int z2, .int x] [] I A B (pk w f) R := by
    refine lpz (fun i => ∀ (z2 : Int32) (x : Int32), x = nI i → fr ≤ i → (∀ j, fr ≤ j → j < i → osd a false (od j) = false) → J n_PaidOff_nextOf 6 [.ref 40, .int (-1), .int z2, .int x] [] I A B (pk w f) R) (fun i hi ih => ?_)
    intro z2 x ex hfr hno
    subst ex
    refine X 200 _ _ _ _ _ _ _ _ _ ?_
    refine And.intro (fun q1 => ?_) (fun q1 => ?_)
    · rw [hz] at q1
      have e := lpx hi (by omega) q1
      subst e
      rw [show onx a od false fr = none from fd_no (fun j hj => by
        by_cases z : fr ≤ j
        · rw [hno j z hj, Bool.and_false]
        · rw [decide_eq_false z, Bool.false_and])] at h
      exact h
    · rw [hz] at q1
      have hl := lpc hi (by omega) q1
      have ho1 := (hod i hl).1
      have ho2 := (hod i hl).2
      have ha1 := ham (od i) ho2
      have ha9 := V.am1 (od i) ho2
      have em : B 31 (od i) * (-1 : Int32).toInt64 = zL (-a.am (od i)) := by rw [ha1, show ((-1 : Int32).toInt64) = zL (-1) from rfl, zL_mul, Int.mul_neg, Int.mul_one]
      refine c_inOrder X hn2 hz (i := i) rfl hl ?_
      refine c_amountOf X hn2 hz (i := od i) ho1 ho2 ?_
      refine And.intro (fun q2 => ?_) (fun q2 => ?_)
      · rw [em] at q2
        have sf : osd a false (od i) = false := decide_eq_false (fun z => by have := (zl_le0 (by omega) (by omega)).mp q2; omega)
        exact ih hl _ _ (nI_1 i) (by omega) (fun j h1 h2 => by
          by_cases z : j = i
          · rw [z]; exact sf
          · exact hno j h1 (by omega))
      · rw [em] at q2
        have st : osd a false (od i) = true := decide_eq_true (by have : ¬ -a.am (od i) ≤ 0 := fun z => q2 ((zl_le0 (by omega) (by omega)).mpr z); omega)
        rw [show onx a od false fr = some i from fd_at hl (by rw [st, Bool.and_true]; exact decide_eq_true hfr) (fun j hj => by
          by_cases z : fr ≤ j
          · rw [hno j z hj, Bool.and_false]
          · rw [decide_eq_false z, Bool.false_and])] at h
        exact h
  refine X 200 _ _ _ _ _ _ _ _ _ ?_
  exact G9 fr hf _ _ (by rw [show (if (0 : Int32) < nI fr then nI fr else 0) = nI fr from nmax (by omega)]) (Nat.le_refl _) (fun j h1 h2 => by omega)
set_option maxRecDepth 20000 in
theorem c_reckon {J : mJ} (X : mRules J) {I A : mI} {B : mB} {w f : Nat} {R : mR} {a : Ac} (C : CR a I A B) (V : Vw a) (hn2 : a.n ≤ 220) (h : ∀ A' B', (∀ r, r ≠ 42 → A' r = A r) → (∀ r, r ≠ 41 → B' r = B r) → (∀ e, e < a.n → B' 41 e = zL ((orn a a.n).1 e)) → (∀ e, e < a.n → A' 42 e = old a (orn a a.n) e) → R none I A' B' (pk w f)) : J n_PaidOff_reckon 0 [.ref 40, .float 0, .float 0, .float 0, .float 0, .float 0, .float 0, .float 0, .float 0] [] I A B (pk w f) R := by
  obtain ⟨od, O⟩ := C.hod
  have G8 : ∀ k, k ≤ a.n → ∀ (op : Option Nat) (oq : Option Nat) (x1 : Int32) (x2 : Int32) (x3 : Int32) (z4 : Value) (z5 : Value) (z6 : Value) (z8 : Value) (Av : mI) (Bv : mB), x1 = fI op → x2 = fI oq → x3 = nI k → (∀ r, r ≠ 42 → Av r = A r) → (∀ r, r ≠ 41 → Bv r = B r) → (∀ e, e < a.n → Bv 41 e = zL ((orn a k).1 e)) → (∀ e, e < a.n → Av 42 e = old a (orn a k) e) → oPR a od (orn a k).1 true op → oPR a od (orn a k).1 false oq → J n_PaidOff_reckon 66 [.ref 40, .int x1, .int x2, .int x3, z4, z5, z6, .float 0, z8] [] I Av Bv (pk w f) R := by
    refine lpz (fun k => ∀ (op : Option Nat) (oq : Option Nat) (x1 : Int32) (x2 : Int32) (x3 : Int32) (z4 : Value) (z5 : Value) (z6 : Value) (z8 : Value) (Av : mI) (Bv : mB), x1 = fI op → x2 = fI oq → x3 = nI k → (∀ r, r ≠ 42 → Av r = A r) → (∀ r, r ≠ 41 → Bv r = B r) → (∀ e, e < a.n → Bv 41 e = zL ((orn a k).1 e)) → (∀ e, e < a.n → Av 42 e = old a (orn a k) e) → oPR a od (orn a k).1 true op → oPR a od (orn a k).1 false oq → J n_PaidOff_reckon 66 [.ref 40, .int x1, .int x2, .int x3, z4, z5, z6, .float 0, z8] [] I Av Bv (pk w f) R) (fun k hik ihk => ?_)
    intro op oq x1 x2 x3 z4 z5 z6 z8 Av Bv ex1 ex2 ex3 hqA hqB hB hA hop hoq
    subst ex1; subst ex2; subst ex3
    have hop9 := pr_b hop
    have hoq9 := pr_b hoq
    refine X 200 _ _ _ _ _ _ _ _ _ ?_
    refine And.intro (fun q1 => ?_) (fun q1 => ?_)
    · rw [C.hn] at q1
      have e := lpx hik (by omega) q1
      subst e
      exact h _ _ hqA hqB hB hA
    · rw [C.hn] at q1
      refine c_has X (D := a.n) (by omega) C.hn (fun p0 hp0 ep0 => ?_) (fun zp0 => ?_)
      · have ep02 : op = some p0 := (fI_so (fun v z => by have := hop9 v z; omega) (by omega)).mp ep0.symm
        subst ep02
        refine And.intro (fun q => absurd q (by decide)) (fun _ => ?_)
        refine c_has X (D := a.n) (by omega) C.hn (fun p1 hp1 ep1 => ?_) (fun zp1 => ?_)
        · have ep12 : oq = some p1 := (fI_so (fun v z => by have := hoq9 v z; omega) (by omega)).mp ep1.symm
          subst ep12
          refine And.intro (fun q => absurd q (by decide)) (fun _ => ?_)
          refine c_inOrder X hn2 C.hn (i := p0) rfl hp0 ?_
          refine c_inOrder X hn2 C.hn (i := p1) rfl hp1 ?_
          have eu := (hqA 35 (by decide) ▸ O.at_ p0 hp0 : Av 35 p0 = nI (od p0))
          have ev := (hqA 35 (by decide) ▸ O.at_ p1 hp1 : Av 35 p1 = nI (od p1))
          have hu2 := O.lt p0 hp0
          have hv2 := O.lt p1 hp1
          have hu : ofo a (orn a k).1 true a.n = some (od p0) := pr_o O (oi_r k) hop
          have hv : ofo a (orn a k).1 false a.n = some (od p1) := pr_o O (oi_r k) hoq
          obtain ⟨_, _, huv, pu, pv, au, av⟩ := o_uv hu hv
          have hlk := orn_k hik hu hv
          have bu := oi_40 V (oi_r (a := a) k) hu2
          have bv := oi_40 V (oi_r (a := a) k) hv2
          have ek : orn a (k + 1) = (oL1 (orn a k).1 (od p0) (od p1), oT1 (orn a k).2 (od p0) (od p1)) := ost_1 hu hv
          have e0u := hB (od p0) hu2
          have e0v := hB (od p1) hv2
          have ey := obt_z e0u e0v bu bv
          have hva1 : Av 32 (od p0) = nI (a.va (od p0)) := by rw [hqA 32 (by decide)]; exact C.hva _ hu2
          have hva2 : Av 32 (od p1) = nI (a.va (od p1)) := by rw [hqA 32 (by decide)]; exact C.hva _ hv2
          have hv91 := V.va9 (od p0) hu2
          have hv92 := V.va9 (od p1) hv2
          have edy : (if Av 32 (od p0) < Av 32 (od p1) then Av 32 (od p1) else Av 32 (od p0)) = nI (if a.va (od p0) < a.va (od p1) then a.va (od p1) else a.va (od p0)) := by
            rw [hva1, hva2]
            by_cases z : a.va (od p0) < a.va (od p1)
            · rw [if_pos z, if_pos (nI_lt z (by omega))]
            · rw [if_neg z, if_neg (fun y => z ((nI_ltI (by omega) (by omega)).mp y))]
          refine c_restOf X hn2 C.hn (e := od p0) eu hu2 ?_
          refine c_restOf X hn2 C.hn (e := od p1) ev hv2 ?_
          refine c_valueOf X hn2 C.hn (i := od p0) eu hu2 ?_
          refine c_valueOf X hn2 C.hn (i := od p1) ev hv2 ?_
          refine c_takeOff X hn2 C.hn (e := od p0) eu hu2 (fun A1 ga1 gb1 => ?_)
          refine c_takeOff X hn2 C.hn (e := od p1) ev hv2 (fun A2 ga2 gb2 => ?_)
          have hL2 := oL_up (r := 41) hB hu2 hv2 huv rfl rfl ey
          have b1 : 0 ≤ oL1 (orn a k).1 (od p0) (od p1) (od p0) ∧ oL1 (orn a k).1 (od p0) (od p1) (od p0) ≤ 2 ^ 40 := oi_40 V (oi_s (oi_r (a := a) k) hu hv) hu2
          have b2 : 0 ≤ oL1 (orn a k).1 (od p0) (od p1) (od p1) ∧ oL1 (orn a k).1 (od p0) (od p1) (od p1) ≤ 2 ^ 40 := oi_40 V (oi_s (oi_r (a := a) k) hu hv) hv2
          have hA2 := old_s V hu hv (oi_r k) hA gb1 gb2 (oL_0 e0u b1 ey) (oL_1 huv e0v b2 ey) edy
          have ga : ∀ r, r ≠ 42 → A2 r = A r := fun r hr => by rw [ga2 r hr, ga1 r hr]; exact hqA r hr
          have w1 := pr_s O (b := true) (L' := oL1 (orn a k).1 (od p0) (od p1)) hop (fun e h1 h2 => oL1_n h1 (fun z => osd_x (z ▸ h2) (pr_g hoq))) b1.1
          have w2 := pr_s O (b := false) (L' := oL1 (orn a k).1 (od p0) (od p1)) hoq (fun e h1 h2 => oL1_n (fun z => osd_x (pr_g hop) (z ▸ h2)) h1) b2.1
          rw [← ek] at hA2
          rw [show oL1 (orn a k).1 (od p0) (od p1) = (orn a (k + 1)).1 by rw [ek]] at hL2 w1 w2 b1 b2
          have zu := hL2 (od p0) hu2
          have zv := hL2 (od p1) hv2
          refine c_restOf X hn2 C.hn (e := od p0) eu hu2 ?_
          refine And.intro (fun q2 => ?_) (fun q2 => ?_)
          · rw [zu] at q2
            rw [if_neg (fun z => q2 ((zl_eq0 (by omega) (by omega)).mpr z))] at w1
            refine c_restOf X hn2 C.hn (e := od p1) ev hv2 ?_
            refine And.intro (fun q3 => ?_) (fun q3 => ?_)
            · rw [zv] at q3
              rw [if_neg (fun z => q3 ((zl_eq0 (by omega) (by omega)).mpr z))] at w2
              exact ihk hlk _ _ _ _ _ _ _ _ _ _ _ rfl rfl (nI_1 k) ga (fun r hr => by rw [up2_r hr, up2_r hr]; exact hqB r hr) hL2 hA2 w1 w2
            · rw [zv] at q3
              rw [if_pos ((zl_eq0 (by omega) (by omega)).mp q3)] at w2
              refine c_nextD X V hn2 C.hn (od := od) (fun k hk => ⟨by rw [ga 35 (by decide)]; exact O.at_ k hk, O.lt k hk⟩) (fun e he => by rw [up2_n (show 31 ≠ 41 by decide), up2_n (show 31 ≠ 41 by decide), hqB 31 (by decide)]; exact C.ham e he) (fr := p1 + 1) (nI_1 _) (by omega) ?_
              exact ihk hlk _ _ _ _ _ _ _ _ _ _ _ rfl rfl (nI_1 k) ga (fun r hr => by rw [up2_r hr, up2_r hr]; exact hqB r hr) hL2 hA2 w1 w2
          · rw [zu] at q2
            rw [if_pos ((zl_eq0 (by omega) (by omega)).mp q2)] at w1
            refine c_nextU X V hn2 C.hn (od := od) (fun k hk => ⟨by rw [ga 35 (by decide)]; exact O.at_ k hk, O.lt k hk⟩) (fun e he => by rw [up2_n (show 31 ≠ 41 by decide), up2_n (show 31 ≠ 41 by decide), hqB 31 (by decide)]; exact C.ham e he) (fr := p0 + 1) (nI_1 _) (by omega) ?_
            refine c_restOf X hn2 C.hn (e := od p1) ev hv2 ?_
            refine And.intro (fun q4 => ?_) (fun q4 => ?_)
            · rw [zv] at q4
              rw [if_neg (fun z => q4 ((zl_eq0 (by omega) (by omega)).mpr z))] at w2
              exact ihk hlk _ _ _ _ _ _ _ _ _ _ _ rfl rfl (nI_1 k) ga (fun r hr => by rw [up2_r hr, up2_r hr]; exact hqB r hr) hL2 hA2 w1 w2
            · rw [zv] at q4
              rw [if_pos ((zl_eq0 (by omega) (by omega)).mp q4)] at w2
              refine c_nextD X V hn2 C.hn (od := od) (fun k hk => ⟨by rw [ga 35 (by decide)]; exact O.at_ k hk, O.lt k hk⟩) (fun e he => by rw [up2_n (show 31 ≠ 41 by decide), up2_n (show 31 ≠ 41 by decide), hqB 31 (by decide)]; exact C.ham e he) (fr := p1 + 1) (nI_1 _) (by omega) ?_
              exact ihk hlk _ _ _ _ _ _ _ _ _ _ _ rfl rfl (nI_1 k) ga (fun r hr => by rw [up2_r hr, up2_r hr]; exact hqB r hr) hL2 hA2 w1 w2
        · have ep12 : oq = none := fI_z hoq9 zp1
          have hen := orn_e hik (Or.inr (by rw [pr_o O (oi_r k) hoq, ep12]; rfl))
          refine And.intro (fun _ => ?_) (fun q => absurd (by decide) q)
          rw [hen] at h
          exact h _ _ hqA hqB hB hA
      · have ep02 : op = none := fI_z hop9 zp0
        have hen := orn_e hik (Or.inl (by rw [pr_o O (oi_r k) hop, ep02]; rfl))
        refine And.intro (fun _ => ?_) (fun q => absurd (by decide) q)
        rw [hen] at h
        exact h _ _ hqA hqB hB hA
  have G9 : ∀ i, i ≤ a.n → ∀ (x : Int32) (z2 : Value) (z3 : Value) (z4 : Value) (z5 : Value) (z6 : Value) (z8 : Value) (Av : mI) (Bv : mB), x = nI i → (∀ r, r ≠ 42 → Av r = A r) → (∀ r, r ≠ 41 → Bv r = B r) → (∀ e, e < i → Bv 41 e = zL (oab (a.am e))) → (∀ e, e < i → Av 42 e = -1) → J n_PaidOff_reckon 2 [.ref 40, .int x, z2, z3, z4, z5, z6, .float 0, z8] [] I Av Bv (pk w f) R := by
    refine lpz (fun i => ∀ (x : Int32) (z2 : Value) (z3 : Value) (z4 : Value) (z5 : Value) (z6 : Value) (z8 : Value) (Av : mI) (Bv : mB), x = nI i → (∀ r, r ≠ 42 → Av r = A r) → (∀ r, r ≠ 41 → Bv r = B r) → (∀ e, e < i → Bv 41 e = zL (oab (a.am e))) → (∀ e, e < i → Av 42 e = -1) → J n_PaidOff_reckon 2 [.ref 40, .int x, z2, z3, z4, z5, z6, .float 0, z8] [] I Av Bv (pk w f) R) (fun i hi ih => ?_)
    intro x z2 z3 z4 z5 z6 z8 Av Bv ex hqA hqB hB hA
    subst ex
    refine X 200 _ _ _ _ _ _ _ _ _ ?_
    refine And.intro (fun q1 => ?_) (fun q1 => ?_)
    · rw [C.hn] at q1
      have e := lpx hi (by omega) q1
      subst e
      refine c_nextU X V hn2 C.hn (od := od) (fun k hk => ⟨by rw [hqA 35 (by decide)]; exact O.at_ k hk, O.lt k hk⟩) (fun e he => by rw [hqB 31 (by decide)]; exact C.ham e he) (fr := 0) rfl (Nat.zero_le _) ?_
      refine c_nextD X V hn2 C.hn (od := od) (fun k hk => ⟨by rw [hqA 35 (by decide)]; exact O.at_ k hk, O.lt k hk⟩) (fun e he => by rw [hqB 31 (by decide)]; exact C.ham e he) (fr := 0) rfl (Nat.zero_le _) ?_
      exact G8 0 (Nat.zero_le _) _ _ _ _ _ _ _ _ _ _ _ rfl rfl rfl hqA hqB hB (fun e he => (hA e he).trans (old_0 e).symm) pr_0 pr_0
    · rw [C.hn] at q1
      have hl := lpc hi (by omega) q1
      have cbi : (nI i).toNatClampNeg = i := cl (by omega)
      have hai : Bv 31 i = zL (a.am i) := by rw [hqB 31 (by decide)]; exact C.ham i hl
      have ha1 := V.am1 i hl
      have eab := abz (z := a.am i) (by omega) (by omega)
      rw [← hai] at eab
      refine And.intro (fun q2 => ?_) (fun q2 => ?_)
      · exact absurd q2 (nI_ge (b := 220) (by omega) (by omega)) --end
      · refine c_amountOf X hn2 C.hn (i := i) rfl hl ?_
        refine Exists.intro _ (And.intro rfl (And.intro (vin (by omega) (by omega)) ?_))
        refine Exists.intro _ (And.intro rfl (And.intro (vin (by omega) (by omega)) ?_))
        exact ih hl _ _ _ _ _ _ _ _ _ (nI_1 i) (fun r hr => by rw [up2_r hr]; exact hqA r hr) (fun r hr => by rw [up2_r hr]; exact hqB r hr) (fun e he => by
          rw [cbi]
          by_cases z : e = i
          · subst z
            rw [up2_s]
            exact eab
          · rw [up2_m z]
            exact hB e (by omega)) (fun e he => by
          rw [cbi]
          by_cases z : e = i
          · subst z
            rw [up2_s]
          · rw [up2_m z]
            exact hA e (by omega))
  refine X 200 _ _ _ _ _ _ _ _ _ ?_
  exact G9 0 (Nat.zero_le _) _ _ _ _ _ _ _ _ _ rfl (fun _ _ => rfl) (fun _ _ => rfl) (fun e he => absurd he (Nat.not_lt_zero e)) (fun e he => absurd he (Nat.not_lt_zero e))
set_option maxRecDepth 20000 in
theorem c_firstOwed {J : mJ} (X : mRules J) {I A : mI} {B : mB} {w f : Nat} {R : mR} {a : Ac} (C : CR a I A B) (V : Vw a) (hn2 : a.n ≤ 220) {s : oSt} (H : OI a s) (hB : ∀ e, e < a.n → B 41 e = zL (s.1 e)) (h : R (some (.int (fI (ofo a s.1 false a.n)))) I A B (pk w f)) : J n_PaidOff_firstOwed 0 [.ref 40, .float 0, .float 0] [] I A B (pk w f) R := by
  obtain ⟨od, O⟩ := C.hod
  have G9 : ∀ i, i ≤ a.n → ∀ (x : Int32) (z2 : Value), x = nI i → (∀ j, j < i → osd a false (od j) = true → ¬ 0 < s.1 (od j)) → J n_PaidOff_firstOwed 2 [.ref 40, .int x, z2] [] I A B (pk w f) R := by
    refine lpz (fun i => ∀ (x : Int32) (z2 : Value), x = nI i → (∀ j, j < i → osd a false (od j) = true → ¬ 0 < s.1 (od j)) → J n_PaidOff_firstOwed 2 [.ref 40, .int x, z2] [] I A B (pk w f) R) (fun i hi ih => ?_)
    intro x z2 ex hno
    subst ex
    refine X 200 _ _ _ _ _ _ _ _ _ ?_
    refine And.intro (fun q1 => ?_) (fun q1 => ?_)
    · rw [C.hn] at q1
      have e := lpx hi (by omega) q1
      subst e
      rw [fo_no O H hno] at h
      exact h
    · rw [C.hn] at q1
      have hl := lpc hi (by omega) q1
      have ho1 := O.at_ i hl
      have ho2 := O.lt i hl
      have ha1 := C.ham (od i) ho2
      have ha9 := V.am1 (od i) ho2
      have hLi := oi_40 V H ho2
      have eLi := hB (od i) ho2
      refine c_inOrder X hn2 C.hn (i := i) rfl hl ?_
      refine c_amountOf X hn2 C.hn (i := od i) ho1 ho2 ?_
      refine And.intro (fun q2 => ?_) (fun q2 => ?_)
      · rw [ha1] at q2
        have c1 : ¬ osd a false (od i) = true := fun z => by
          have := of_decide_eq_true (p := a.am (od i) < 0) z
          have := (zl_ge0 (by omega) (by omega)).mp q2
          omega
        exact ih hl _ _ (nI_1 i) (fun j hj z => by
          by_cases e : j = i
          · subst e; exact absurd z c1
          · exact hno j (by omega) z)
      · rw [ha1] at q2
        have c1 : osd a false (od i) = true := decide_eq_true (by have : ¬ 0 ≤ a.am (od i) := fun z => q2 ((zl_ge0 (by omega) (by omega)).mpr z); omega)
        refine c_restOf X hn2 C.hn (e := od i) ho1 ho2 ?_
        refine And.intro (fun q3 => ?_) (fun q3 => ?_)
        · rw [eLi] at q3
          have c2 : ¬ 0 < s.1 (od i) := by have := (zl_le0 (by omega) (by omega)).mp q3; omega
          exact ih hl _ _ (nI_1 i) (fun j hj z => by
            by_cases e : j = i
            · subst e; exact c2
            · exact hno j (by omega) z)
        · rw [eLi] at q3
          have c2 : 0 < s.1 (od i) := by
            have : ¬ s.1 (od i) ≤ 0 := fun z => q3 ((zl_le0 (by omega) (by omega)).mpr z)
            omega
          rw [fo_at O H hl c1 c2 hno] at h
          rw [show fI (some (od i)) = A 35 i from ho1.symm] at h
          exact h
  refine X 200 _ _ _ _ _ _ _ _ _ ?_
  exact G9 0 (Nat.zero_le _) _ _ rfl (fun j hj => absurd hj (Nat.not_lt_zero j))
set_option maxRecDepth 20000 in
theorem k_left {J : mJ} (X : mRules J) {I A : mI} {B : mB} {w f : Nat} {R : mR} {a : Ac} (C : CR a I A B) (G : Gd a) (hn2 : a.n ≤ 220) {e : Int32} (h : qC w f I A B R (some (.long (an_left a (ixN a.n e))))) : J n_V_left 0 [.ref 0, .int e] [] I A B (pk w f) R := by
  have V := G.V
  have hP40 := V.P40
  have hN8 := V.N8
  have hnt4 := V.nt4
  have hcN := V.cN
  have hK1 := V.K1
  have hK4 := V.K4
  have hPN := D320 V
  have hNP : a.N * a.P ≤ 320 := by rw [Nat.mul_comm]; exact hPN
  have hD31 : a.P * a.N < 2 ^ 31 := by omega
  have hN31 : a.N < 2 ^ 31 := by omega
  have hn31 : a.n < 2 ^ 31 := by omega
  have hnt31 : a.nt < 2 ^ 31 := by omega
  have hDD : I 16 4 * I 16 5 = nI (a.P * a.N) := by rw [C.hP, C.hN, pk_mul]
  have hvn : ∀ j, j < a.n → A 32 j = nI (a.va j) ∧ a.va j < 2 ^ 20 := fun j hj => ⟨C.hva j hj, by have := V.va9 j hj; omega⟩
  refine X 200 _ _ _ _ _ _ _ _ _ ?_
  refine c_has X hn31 C.hn (fun e0 he ee => ?_) (fun ze => ?_)
  · subst ee
    refine And.intro (fun _ => ?_) (fun q => absurd q (by decide))
    refine c_reckon X C V hn2 (fun Ap Bp hqA hqB hB hA => ?_)
    have F2 := fC.p41 hqA hqB
    have C2 := C.fr F2
    refine c_restOf X hn2 C2.hn (e := e0) rfl he ?_
    rw [ixN_s he hn31] at h
    have h2 := h _ _ F2
    rw [show an_left a (some e0) = Bp 41 e0 from (hB e0 he).symm] at h2
    exact h2
  · refine And.intro (fun q => absurd (by decide) q) (fun _ => ?_)
    rw [ixN_n hn31 ze] at h
    have h2 := h _ _ (fC.refl _ _)
    exact h2
set_option maxRecDepth 20000 in
theorem k_gone {J : mJ} (X : mRules J) {I A : mI} {B : mB} {w f : Nat} {R : mR} {a : Ac} (C : CR a I A B) (G : Gd a) (hn2 : a.n ≤ 220) {e : Int32} (h : qC w f I A B R (some (.int (an_gone a (ixN a.n e))))) : J n_V_gone 0 [.ref 0, .int e] [] I A B (pk w f) R := by
  have V := G.V
  have hP40 := V.P40
  have hN8 := V.N8
  have hnt4 := V.nt4
  have hcN := V.cN
  have hK1 := V.K1
  have hK4 := V.K4
  have hPN := D320 V
  have hNP : a.N * a.P ≤ 320 := by rw [Nat.mul_comm]; exact hPN
  have hD31 : a.P * a.N < 2 ^ 31 := by omega
  have hN31 : a.N < 2 ^ 31 := by omega
  have hn31 : a.n < 2 ^ 31 := by omega
  have hnt31 : a.nt < 2 ^ 31 := by omega
  have hDD : I 16 4 * I 16 5 = nI (a.P * a.N) := by rw [C.hP, C.hN, pk_mul]
  have hvn : ∀ j, j < a.n → A 32 j = nI (a.va j) ∧ a.va j < 2 ^ 20 := fun j hj => ⟨C.hva j hj, by have := V.va9 j hj; omega⟩
  refine X 200 _ _ _ _ _ _ _ _ _ ?_
  refine c_has X hn31 C.hn (fun e0 he ee => ?_) (fun ze => ?_)
  · subst ee
    refine And.intro (fun _ => ?_) (fun q => absurd q (by decide))
    refine c_reckon X C V hn2 (fun Ap Bp hqA hqB hB hA => ?_)
    have F2 := fC.p41 hqA hqB
    have C2 := C.fr F2
    refine c_lastDay X hn2 C2.hn (e := e0) rfl he ?_
    rw [ixN_s he hn31] at h
    have h2 := h _ _ F2
    rw [show an_gone a (some e0) = Ap 42 e0 from (hA e0 he).symm] at h2
    exact h2
  · refine And.intro (fun q => absurd (by decide) q) (fun _ => ?_)
    rw [ixN_n hn31 ze] at h
    have h2 := h _ _ (fC.refl _ _)
    exact h2
set_option maxRecDepth 20000 in
theorem k_oldest {J : mJ} (X : mRules J) {I A : mI} {B : mB} {w f : Nat} {R : mR} {a : Ac} (C : CR a I A B) (G : Gd a) (hn2 : a.n ≤ 220) {bk : Bool} (hbk : I 7 1 = 0 ↔ bk = false) (h : qC w f I A B R (some (.int (an_oldest a bk)))) : J n_V_oldest 0 [.ref 0] [] I A B (pk w f) R := by
  have V := G.V
  have hP40 := V.P40
  have hN8 := V.N8
  have hnt4 := V.nt4
  have hcN := V.cN
  have hK1 := V.K1
  have hK4 := V.K4
  have hPN := D320 V
  have hNP : a.N * a.P ≤ 320 := by rw [Nat.mul_comm]; exact hPN
  have hD31 : a.P * a.N < 2 ^ 31 := by omega
  have hN31 : a.N < 2 ^ 31 := by omega
  have hn31 : a.n < 2 ^ 31 := by omega
  have hnt31 : a.nt < 2 ^ 31 := by omega
  have hDD : I 16 4 * I 16 5 = nI (a.P * a.N) := by rw [C.hP, C.hN, pk_mul]
  have hvn : ∀ j, j < a.n → A 32 j = nI (a.va j) ∧ a.va j < 2 ^ 20 := fun j hj => ⟨C.hva j hj, by have := V.va9 j hj; omega⟩
  refine X 200 _ _ _ _ _ _ _ _ _ ?_
  refine c_noBook X (fun zb => ?_) (fun zb => ?_)
  · have zb2 := hbk.mp zb
    subst zb2
    refine And.intro (fun q => absurd q (by decide)) (fun _ => ?_)
    have h2 := h _ _ (fC.refl _ _)
    exact h2
  · have zb2 : bk = true := by cases bk with | true => rfl | false => exact absurd (hbk.mpr rfl) zb
    subst zb2
    refine And.intro (fun _ => ?_) (fun q => absurd (by decide) q)
    refine c_reckon X C V hn2 (fun Ap Bp hqA hqB hB hA => ?_)
    have F2 := fC.p41 hqA hqB
    have C2 := C.fr F2
    refine c_firstOwed X C2 V hn2 (oi_r a.n) hB ?_
    exact h _ _ F2
