/-! contracts of the class: rows done (written by wip/whole/gk4.py) -/
theorem c_size {J : mJ} (X : mRules J) {I A : mI} {B : mB} {w f : Nat} {R : mR} {s : Nat} (hs : I 7 1 + I 7 2 = nI s) (h : R (some (.int (nI s))) I A B (pk w f)) : J n_Script_size 0 [.ref 7] [] I A B (pk w f) R := by
  refine X 200 _ _ _ _ _ _ _ _ _ ?_
  rw [← hs] at h
  exact h
set_option maxRecDepth 20000 in
theorem c_told {J : mJ} (X : mRules J) {I A : mI} {B : mB} {w f : Nat} {R : mR} {s r c : Nat} (hs : I 7 1 + I 7 2 = nI s) (hr : r < s) (hs82 : s ≤ 82) (hc : c < 4) {xr xc : Int32} (er : xr = nI r) (ec : xc = nI c) (h : R (some (.int (A 8 (4 * r + c)))) I A B (pk w f)) : J n_Script_told 0 [.ref 7, .int xr, .int xc] [] I A B (pk w f) R := by
  subst er; subst ec
  have e4 : nI r * 4 + nI c = nI (4 * r + c) := by rw [show nI r * (4 : Int32) = nI (r * 4) from pk_mul r 4, nI_add, Nat.mul_comm]
  refine X 200 _ _ _ _ _ _ _ _ _ ?_
  refine And.intro (fun q1 => ?_) (fun q1 => ?_)
  · exact absurd q1 (nI_pos (by omega)) --end
  · refine c_size X hs ?_
    refine And.intro (fun q2 => ?_) (fun q2 => ?_)
    · exact absurd q2 (nI_ge hr (by omega)) --end
    · refine And.intro (fun q3 => ?_) (fun q3 => ?_)
      · exact absurd q3 (nI_pos (by omega)) --end
      · refine And.intro (fun q4 => ?_) (fun q4 => ?_)
        · refine Exists.intro _ (And.intro rfl (And.intro (by rw [e4]; exact vin (by omega) (by omega)) ?_))
          rw [← cl (n := 4 * r + c) (by omega), ← e4] at h
          exact h
        · exact absurd (nI_lt (b := 4) hc (by omega)) q4 --end
set_option maxRecDepth 20000 in
theorem c_told0 {J : mJ} (X : mRules J) {I A : mI} {B : mB} {w f : Nat} {R : mR} (hs : I 7 1 + I 7 2 = nI 0) {xc : Int32} (h : R (some (.int 0)) I A B (pk w f)) : J n_Script_told 0 [.ref 7, .int 0, .int xc] [] I A B (pk w f) R := by
  refine X 200 _ _ _ _ _ _ _ _ _ ?_
  refine And.intro (fun q1 => ?_) (fun q1 => ?_)
  · exact absurd q1 (by decide) --end
  · refine c_size X hs ?_
    refine And.intro (fun q2 => ?_) (fun q2 => ?_)
    · exact h
    · exact absurd (by decide) q2 --end
set_option maxRecDepth 20000 in
theorem c_spread {J : mJ} (X : mRules J) {I A : mI} {B : mB} {w f : Nat} {R : mR} {a : Ac} (C : CR a I A B) (G : Gd a) {r : Nat} (hr : r < 7) {t : Int} (ht : -1 ≤ t) (ht3 : t < 320) {xr xf v : Int32} (er : xr = nI r) (ef : xf = zN t) (h : ∀ A', (∀ q, q ≠ 19 + r → A' q = A q) → (∀ d, d < 320 → A' (19 + r) d = if (t ≤ d ∧ d < unt a r t a.nc) then v else A (19 + r) d) → R none I A' B (pk w f)) : J n_Terms_spread 0 [.ref 17, .int xr, .int xf, .int v, .float 0, .float 0] [] I A B (pk w f) R := by
  subst er
  have hnc4 := G.V.nc4
  have hlo : ∃ lo : Nat, (lo : Int) = (if 0 < t then t else 0) ∧ lo ≤ 320 := ⟨t.toNat, by split <;> omega, by omega⟩
  obtain ⟨lo, hlo1, hlo2⟩ := hlo
  have hmx : (if (0 : Int32) < xf then xf else 0) = nI (lo + 0) := by
    rw [ef, Nat.add_zero, nI_z, hlo1]
    by_cases z : 0 < t
    · rw [if_pos (show (0 : Int32) < zN t from (zn_lt (x := 0) (by omega) (by omega) (by omega) (by omega)).mpr z), if_pos z]
    · rw [if_neg (fun y : (0 : Int32) < zN t => z ((zn_lt (x := 0) (by omega) (by omega) (by omega) (by omega)).mp y)), if_neg z]
      rfl
  have G2 : ∀ (u : Nat) (hu : u ≤ 320) (eu : u = unt a r t a.nc), ∀ i, i ≤ (u - lo) → ∀ (x : Int32) (Av : mI), x = nI (lo + i) → (∀ q, q ≠ 19 + r → Av q = A q) → (∀ d, d < 320 → Av (19 + r) d = if lo ≤ d ∧ d < lo + i then v else A (19 + r) d) → J n_Terms_spread 77 [.ref 17, .int (nI r), .int xf, .int v, .int (nI u), .int x] [] I Av B (pk w f) R := by
    intro u hu eu
    have G : ∀ i, i ≤ (u - lo) → ∀ (x : Int32) (Av : mI), x = nI (lo + i) → (∀ q, q ≠ 19 + r → Av q = A q) → (∀ d, d < 320 → Av (19 + r) d = if lo ≤ d ∧ d < lo + i then v else A (19 + r) d) → J n_Terms_spread 77 [.ref 17, .int (nI r), .int xf, .int v, .int (nI u), .int x] [] I Av B (pk w f) R := by
      refine lpz (fun i => ∀ (x : Int32) (Av : mI), x = nI (lo + i) → (∀ q, q ≠ 19 + r → Av q = A q) → (∀ d, d < 320 → Av (19 + r) d = if lo ≤ d ∧ d < lo + i then v else A (19 + r) d) → J n_Terms_spread 77 [.ref 17, .int (nI r), .int xf, .int v, .int (nI u), .int x] [] I Av B (pk w f) R) (fun i hi ih => ?_)
      intro x Av ex hq hv
      subst ex
      refine X 200 _ _ _ _ _ _ _ _ _ ?_
      refine And.intro (fun q1 => ?_) (fun q1 => ?_)
      · have e : i = u - lo := by have := (nI_leI (by omega) (by omega)).mp q1; omega
        subst e
        refine h Av hq (fun d hd => ?_)
        rw [hv d hd, ← eu]
        by_cases y : t ≤ d ∧ d < u
        · rw [if_pos y, if_pos (by constructor <;> (split at hlo1 <;> omega))]
        · rw [if_neg y, if_neg (fun q => y (by constructor <;> (split at hlo1 <;> omega)))]
      · have hl : i < u - lo := by have : lo + i < u := Nat.lt_of_not_le (fun z => q1 (nI_le z (by omega))); omega
        have hb31 : (nI (lo + i)).toNatClampNeg = lo + i := cl (by omega)
        have hsh := rul_sh hr
        refine Exists.intro _ (Exists.intro _ (Exists.intro _ (And.intro rfl (And.intro (vin (by omega) (by omega)) ?_))))
        refine Exists.intro _ (And.intro (rul_sh hr) (And.intro (vin (by omega) (by omega)) ?_))
        exact ih hl _ _ (nI_1 _) (fun q h1 => by rw [cl (by omega), up2_r (by omega)]; exact hq q h1) (fun d hd => by
          rw [cl (show r < 2 ^ 31 by omega), hb31, show 19 + 1 * r = 19 + r by omega]
          by_cases z : d = lo + i
          · subst z
            rw [up2_s, if_pos (by omega)]
          · rw [up2_m z, hv d hd]
            by_cases y : lo ≤ d ∧ d < lo + i
            · rw [if_pos y, if_pos (by omega)]
            · rw [if_neg y, if_neg (by omega)])
    exact G
  have G1 : ∀ i, i ≤ a.nc → ∀ (s : Int32) (x : Int32), s = nI (unt a r t i) → x = nI i → J n_Terms_spread 8 [.ref 17, .int (nI r), .int xf, .int v, .int s, .int x] [] I A B (pk w f) R := by
    refine lpz (fun i => ∀ (s : Int32) (x : Int32), s = nI (unt a r t i) → x = nI i → J n_Terms_spread 8 [.ref 17, .int (nI r), .int xf, .int v, .int s, .int x] [] I A B (pk w f) R) (fun i hi ih => ?_)
    intro s x es ex
    subst es; subst ex
    refine X 200 _ _ _ _ _ _ _ _ _ ?_
    refine And.intro (fun q1 => ?_) (fun q1 => ?_)
    · rw [C.hnc] at q1
      have e := lpx hi (by omega) q1
      subst e
      refine And.intro (fun q2 => ?_) (fun q2 => ?_)
      · exact absurd q2 (nI_pos (by omega)) --end
      · refine And.intro (fun q3 => ?_) (fun q3 => ?_)
        · have hub := unt_b (a := a) (r := r) (t := t) a.nc
          exact G2 (unt a r t a.nc) hub rfl 0 (Nat.zero_le _) _ _ hmx (fun _ _ => rfl) (fun d hd => (if_neg (by omega)).symm)
        · exact absurd (nI_lt (b := 7) hr (by omega)) q3 --end
    · rw [C.hnc] at q1
      have hl := lpc hi (by omega) q1
      have hb31 : (nI i).toNatClampNeg = i := cl (by omega)
      have hub := unt_b (a := a) (r := r) (t := t) i
      have hcd3 := G.V.cd3 i hl
      have hco6 := G.V.co6 i hl
      have hcd1 := C.hcd i hl
      have hco1 := C.hco i hl
      refine Exists.intro _ (And.intro rfl (And.intro (vin (by omega) (by omega)) ?_))
      refine And.intro (fun q4 => ?_) (fun q4 => ?_)
      · rw [hb31, hco1] at q4
        have c1 : ¬ a.co i = r := fun z => q4 (by rw [z])
        exact ih hl _ _ (by
          show nI (unt a r t i) = nI (if a.co i = r ∧ t < a.cd i ∧ a.cd i < unt a r t i then a.cd i else unt a r t i)
          rw [if_neg (fun q => c1 q.1)]) (nI_1 i)
      · rw [hb31, hco1] at q4
        have c1 : a.co i = r := (nI_eq (by omega) (by omega)).mp q4
        refine Exists.intro _ (And.intro rfl (And.intro (vin (by omega) (by omega)) ?_))
        refine And.intro (fun q5 => ?_) (fun q5 => ?_)
        · rw [hb31, hcd1, ef, nI_z] at q5
          have c2 : ¬ t < a.cd i := by have := (zn_le (by omega) (by omega) (by omega) (by omega)).mp q5; omega
          exact ih hl _ _ (by
            show nI (unt a r t i) = nI (if a.co i = r ∧ t < a.cd i ∧ a.cd i < unt a r t i then a.cd i else unt a r t i)
            rw [if_neg (fun q => c2 q.2.1)]) (nI_1 i)
        · rw [hb31, hcd1, ef, nI_z] at q5
          have c2 : t < a.cd i := Int.not_le.mp (fun z => q5 ((zn_le (by omega) (by omega) (by omega) (by omega)).mpr z))
          refine Exists.intro _ (And.intro rfl (And.intro (vin (by omega) (by omega)) ?_))
          exact ih hl _ _ (by
            rw [hb31, hcd1]
            show (if nI (a.cd i) < nI (unt a r t i) then nI (a.cd i) else nI (unt a r t i)) = nI (if a.co i = r ∧ t < a.cd i ∧ a.cd i < unt a r t i then a.cd i else unt a r t i)
            by_cases z : a.cd i < unt a r t i
            · rw [if_pos (nI_lt z (by omega)), if_pos ⟨c1, c2, z⟩]
            · rw [if_neg (fun q => z ((nI_ltI (by omega) (by omega)).mp q)), if_neg (fun q => z q.2.2)]) (nI_1 i)
  refine X 200 _ _ _ _ _ _ _ _ _ ?_
  exact G1 0 (Nat.zero_le _) _ _ rfl rfl
