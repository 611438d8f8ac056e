/-! contracts of the reference: interest (written by wip/whole/gm1.py) -/
set_option maxRecDepth 20000 in
theorem c_Mholds {J : mJ} (X : mRules J) {I A : mI} {B : mB} {w f : Nat} {R : mR} {a : Ac} (M : MR a w I A B) (V : Vw a) {r d : Nat} (hr : r < a.nt ∨ 4 ≤ r ∧ r ≤ 6) (hd : d < 2 ^ 20) (h : R (some (.int (zN (zhl a r d)))) I A B (pk w f)) : J n_M_holds 0 [.ref 43, .int (nI r), .int (nI d), .float 0, .float 0, .float 0] [] I A B (pk w f) R := by
  have hnt4 := V.nt4
  have hnc4 := V.nc4
  have hr6 : r ≤ 6 := by omega
  have hG : ¬ (r = 6 ∧ a.fo.isSome = true) → ∀ (v s x : Int32), v = zN (zlt a r d 0).2 → s = -1 → x = 0 → J n_M_holds 48 [.ref 43, .int (nI r), .int (nI d), .int v, .int s, .int x] [] I A B (pk w f) R := by
    intro hfo
    have G : ∀ i, i ≤ a.nc → ∀ (v : Int32) (s : Int32) (x : Int32), v = zN (zlt a r d i).2 → s = zN (zlt a r d i).1 → x = nI i → J n_M_holds 48 [.ref 43, .int (nI r), .int (nI d), .int v, .int s, .int x] [] I A B (pk w f) R := by
      refine lpz (fun i => ∀ (v : Int32) (s : Int32) (x : Int32), v = zN (zlt a r d i).2 → s = zN (zlt a r d i).1 → x = nI i → J n_M_holds 48 [.ref 43, .int (nI r), .int (nI d), .int v, .int s, .int x] [] I A B (pk w f) R) (fun i hi ih => ?_)
      intro v s x ev es ex
      subst ev; subst es; subst ex
      refine X 200 _ _ _ _ _ _ _ _ _ ?_
      refine And.intro (fun q1 => ?_) (fun q1 => ?_)
      · rw [M.hnc] at q1
        have e := lpx hi (by omega) q1
        subst e
        refine And.intro (fun q2 => ?_) (fun q2 => ?_)
        · rw [M.hti] at q2
          have ct : ¬ a.ti = some r := fun z => q2 ((fI_so (fun v hv => by have := V.ti4 v hv; omega) (by omega)).mpr z)
          rw [zhl_n hfo ct] at h
          exact h
        · rw [M.hti] at q2
          have ct : a.ti = some r := (fI_so (fun v hv => by have := V.ti4 v hv; omega) (by omega)).mp q2
          have hzb := zlt_b V (d := d) hr (Nat.le_refl a.nc)
          have htb := V.tb5
          have e : (if (0 : Int32) < zN (zlt a r d a.nc).2 + I 43 22 then zN (zlt a r d a.nc).2 + I 43 22 else 0) = zN (zhl a r d) := by
            rw [zhl_t hfo ct, M.htb (by rw [ct]; simp), ← Int32.ofInt_add]
            have hb2 : (zlt a r d a.nc).2 ≤ 99999 := by have := hzb.2.1; split at this <;> omega
            by_cases z : 0 < (zlt a r d a.nc).2 + a.tb
            · rw [if_pos z, if_pos (show (0 : Int32) < zN ((zlt a r d a.nc).2 + a.tb) from (zn_lt (x := 0) (by omega) (by omega) (by omega) (by omega)).mpr z)]
            · rw [if_neg z, if_neg (fun y : (0 : Int32) < zN ((zlt a r d a.nc).2 + a.tb) => z ((zn_lt (x := 0) (by omega) (by omega) (by omega) (by omega)).mp y))]
              rfl
          rw [← e] at h
          exact h
      · rw [M.hnc] at q1
        have hl := lpc hi (by omega) q1
        have hb31 : i < 2 ^ 31 := by omega
        have hcd3 := V.cd3 i hl
        have hco6 := V.co6 i hl
        have hzb := zlt_b V (d := d) hr (k := i) hi
        refine Exists.intro _ (And.intro rfl (And.intro (vin (by omega) (by omega)) ?_))
        refine And.intro (fun q3 => ?_) (fun q3 => ?_)
        · have c1 : a.co i ≠ r := fun z => q3 (by rw [cl hb31, M.hco i hl, z])
          have e : zlt a r d (i + 1) = zlt a r d i := if_pos (by omega)
          exact ih hl _ _ _ (by rw [e]) (by rw [e]) (nI_1 i)
        · rw [cl hb31, M.hco i hl] at q3
          have c1 : a.co i = r := (nI_eq (by omega) (by omega)).mp q3
          refine Exists.intro _ (And.intro rfl (And.intro (vin (by omega) (by omega)) ?_))
          refine And.intro (fun q4 => ?_) (fun q4 => ?_)
          · rw [cl hb31, M.hcd i hl] at q4
            have c2 : d < a.cd i := (nI_ltI (by omega) (by omega)).mp q4
            have e : zlt a r d (i + 1) = zlt a r d i := if_pos (by omega)
            exact ih hl _ _ _ (by rw [e]) (by rw [e]) (nI_1 i)
          · rw [cl hb31, M.hcd i hl] at q4
            have c2 : ¬ d < a.cd i := fun z => q4 (nI_lt z (by omega))
            refine Exists.intro _ (And.intro rfl (And.intro (vin (by omega) (by omega)) ?_))
            refine And.intro (fun q5 => ?_) (fun q5 => ?_)
            · rw [cl hb31, M.hcd i hl, nI_z] at q5
              have c3 : ¬ (a.cd i : Int) < (zlt a r d i).1 := by have := (zn_le (by omega) (by omega) (by omega) (by omega)).mp q5; omega
              refine Exists.intro _ (And.intro rfl (And.intro (vin (by omega) (by omega)) ?_))
              refine Exists.intro _ (And.intro rfl (And.intro (vin (by omega) (by omega)) ?_))
              have e : zlt a r d (i + 1) = ((a.cd i : Int), (a.cv i : Int)) := if_neg (by omega)
              exact ih hl _ _ _ (by rw [e, cl hb31, M.hcv i hl, nI_z]) (by rw [e, cl hb31, M.hcd i hl, nI_z]) (nI_1 i)
            · rw [cl hb31, M.hcd i hl, nI_z] at q5
              have c3 : (a.cd i : Int) < (zlt a r d i).1 := Int.not_le.mp (fun z => q5 ((zn_le (by omega) (by omega) (by omega) (by omega)).mpr z))
              have e : zlt a r d (i + 1) = zlt a r d i := if_pos (by omega)
              exact ih hl _ _ _ (by rw [e]) (by rw [e]) (nI_1 i)
    exact fun v s x e1 e2 e3 => G 0 (Nat.zero_le _) v s x e1 e2 e3
  refine X 200 _ _ _ _ _ _ _ _ _ ?_
  refine And.intro (fun q1 => ?_) (fun q1 => ?_)
  · refine And.intro (fun q2 => ?_) (fun q2 => ?_)
    · refine Exists.intro _ (And.intro rfl (And.intro (by first | (have h4 : r < 4 := Nat.lt_of_not_le (fun z => (by assumption : ¬ (4 : Int32) ≤ nI r) (nI_le (a := 4) z (by omega))); exact vin (by omega) (by omega)) | (have h4 : 4 ≤ r := (nI_leI (a := 4) (by omega) (by omega)).mp (by assumption); have e1 : nI r - 4 = nI (r - 4) := pk_sub (b := 4) h4; rw [e1]; exact vin (by omega) (by omega))) ?_))
      exact hG (fun z => q1 (by rw [z.1]; rfl)) _ _ _ (by
        have h4 : 4 ≤ r := (nI_leI (a := 4) (by omega) (by omega)).mp q2
        have e1 : nI r - 4 = nI (r - 4) := pk_sub (b := 4) h4
        rw [e1, cl (by omega), M.hdb (r - 4) (by omega), nI_z]
        show _ = zN (if r < 4 then _ else _)
        rw [if_neg (by omega)]) rfl rfl
    · refine Exists.intro _ (And.intro rfl (And.intro (by first | (have h4 : r < 4 := Nat.lt_of_not_le (fun z => (by assumption : ¬ (4 : Int32) ≤ nI r) (nI_le (a := 4) z (by omega))); exact vin (by omega) (by omega)) | (have h4 : 4 ≤ r := (nI_leI (a := 4) (by omega) (by omega)).mp (by assumption); have e1 : nI r - 4 = nI (r - 4) := pk_sub (b := 4) h4; rw [e1]; exact vin (by omega) (by omega))) ?_))
      exact hG (fun z => q1 (by rw [z.1]; rfl)) _ _ _ (by
        have h4 : r < 4 := Nat.lt_of_not_le (fun z => q2 (nI_le (a := 4) z (by omega)))
        rw [cl (by omega), M.htr r (by omega), nI_z]
        show _ = zN (if r < 4 then _ else _)
        rw [if_pos h4]) rfl rfl
  · refine And.intro (fun q3 => ?_) (fun q3 => ?_)
    · refine And.intro (fun q4 => ?_) (fun q4 => ?_)
      · refine Exists.intro _ (And.intro rfl (And.intro (by first | (have h4 : r < 4 := Nat.lt_of_not_le (fun z => (by assumption : ¬ (4 : Int32) ≤ nI r) (nI_le (a := 4) z (by omega))); exact vin (by omega) (by omega)) | (have h4 : 4 ≤ r := (nI_leI (a := 4) (by omega) (by omega)).mp (by assumption); have e1 : nI r - 4 = nI (r - 4) := pk_sub (b := 4) h4; rw [e1]; exact vin (by omega) (by omega))) ?_))
        exact hG (fun z => by
          rw [M.hfo, fI_no (fun v hv => by have := V.fo9 v hv; omega)] at q3
          rw [q3] at z
          cases z.2) _ _ _ (by
          have h4 : 4 ≤ r := (nI_leI (a := 4) (by omega) (by omega)).mp q4
          have e1 : nI r - 4 = nI (r - 4) := pk_sub (b := 4) h4
          rw [e1, cl (by omega), M.hdb (r - 4) (by omega), nI_z]
          show _ = zN (if r < 4 then _ else _)
          rw [if_neg (by omega)]) rfl rfl
      · refine Exists.intro _ (And.intro rfl (And.intro (by first | (have h4 : r < 4 := Nat.lt_of_not_le (fun z => (by assumption : ¬ (4 : Int32) ≤ nI r) (nI_le (a := 4) z (by omega))); exact vin (by omega) (by omega)) | (have h4 : 4 ≤ r := (nI_leI (a := 4) (by omega) (by omega)).mp (by assumption); have e1 : nI r - 4 = nI (r - 4) := pk_sub (b := 4) h4; rw [e1]; exact vin (by omega) (by omega))) ?_))
        exact hG (fun z => by
          rw [M.hfo, fI_no (fun v hv => by have := V.fo9 v hv; omega)] at q3
          rw [q3] at z
          cases z.2) _ _ _ (by
          have h4 : r < 4 := Nat.lt_of_not_le (fun z => q4 (nI_le (a := 4) z (by omega)))
          rw [cl (by omega), M.htr r (by omega), nI_z]
          show _ = zN (if r < 4 then _ else _)
          rw [if_pos h4]) rfl rfl
    · have e6 : r = 6 := (nI_eq (b := 6) (by omega) (by omega)).mp (by first | exact q1 | exact Classical.not_not.mp q1)
      subst e6
      cases hf : a.fo with
      | none => exact absurd (by rw [M.hfo, hf]; rfl) q3
      | some v =>
        rw [zhl_f hf, zn_nI] at h
        have e := M.hfo
        rw [hf] at e
        show R (some (.int (I 43 23))) I A B (pk w f)
        rw [e]
        exact h
set_option maxRecDepth 20000 in
theorem c_Mlays {J : mJ} (X : mRules J) {I A : mI} {B : mB} {w f : Nat} {R : mR} {a : Ac} (M : MR a w I A B) (V : Vw a) (h : ∀ B', (∀ r, r ≠ 59 → B' r = B r) → (∀ d, d < 320 → B' 59 d = zL (zbl a d)) → R none I A B' (pk w f)) : J n_M_laysBalances 0 [.ref 43, .float 0] [] I A B (pk w f) R := by
  have hn4 := V.n4
  have G3 : ∀ i, i ≤ 320 → ∀ (x : Int32) (Bv : mB), x = nI (1 + i) → Bv = lyS a B (1 + i) → J n_M_laysBalances 66 [.ref 43, .int x] [] I A Bv (pk w f) R := by
    refine lpz (fun i => ∀ (x : Int32) (Bv : mB), x = nI (1 + i) → Bv = lyS a B (1 + i) → J n_M_laysBalances 66 [.ref 43, .int x] [] I A Bv (pk w f) R) (fun i hi ih => ?_)
    intro x Bv ex eBv
    subst ex; subst eBv
    refine X 200 _ _ _ _ _ _ _ _ _ ?_
    refine And.intro (fun q1 => ?_) (fun q1 => ?_)
    · have e : i = 320 := by have := (nI_ltI (a := 320) (by omega) (by omega)).mp q1; omega
      subst e
      exact h _ (fun r hr => lyS_b hr) (fun d hd => lyS_e hd)
    · have hl : i < 320 := Nat.lt_of_not_le (fun z => q1 (nI_lt (a := 320) (by omega) (by omega)))
      have hb31 : (nI (1 + i)).toNatClampNeg = 1 + i := cl (by omega)
      have hb30 : nI (1 + i) - 1 = nI i := by rw [Nat.add_comm]; exact nI_pred i
      refine Exists.intro _ (And.intro rfl (And.intro (by first | (rw [hb30]; exact vin (by omega) (by omega)) | exact vin (by omega) (by omega)) ?_))
      refine Exists.intro _ (And.intro rfl (And.intro (by first | (rw [hb30]; exact vin (by omega) (by omega)) | exact vin (by omega) (by omega)) ?_))
      refine Exists.intro _ (And.intro rfl (And.intro (by first | (rw [hb30]; exact vin (by omega) (by omega)) | exact vin (by omega) (by omega)) ?_))
      exact ih hl _ _ (nI_1 _) (by rw [hb31, hb30, cl (show i < 2 ^ 31 by omega)]; exact lyS_s (by omega))
  have G2 : ∀ i, i ≤ a.n → ∀ (x : Int32) (Bv : mB), x = nI i → Bv = lyR a B i → J n_M_laysBalances 24 [.ref 43, .int x] [] I A Bv (pk w f) R := by
    refine lpz (fun i => ∀ (x : Int32) (Bv : mB), x = nI i → Bv = lyR a B i → J n_M_laysBalances 24 [.ref 43, .int x] [] I A Bv (pk w f) R) (fun i hi ih => ?_)
    intro x Bv ex eBv
    subst ex; subst eBv
    refine X 200 _ _ _ _ _ _ _ _ _ ?_
    refine And.intro (fun q1 => ?_) (fun q1 => ?_)
    · rw [M.hn] at q1
      have e := lpx hi (by omega) q1
      subst e
      exact G3 0 (Nat.zero_le _) _ _ rfl lyS_1
    · rw [M.hn] at q1
      have hl := lpc hi (by omega) q1
      have hb31 : (nI i).toNatClampNeg = i := cl (by omega)
      have hva := M.hva i hl
      have hvb := V.va9 i hl
      have hmi : (if (320 : Int32) < A 56 (nI i).toNatClampNeg then (320 : Int32) else A 56 (nI i).toNatClampNeg) = nI (if a.va i < 320 then a.va i else 320) := by
        rw [hb31, hva]
        show (if nI 320 < nI (a.va i) then nI 320 else nI (a.va i)) = _
        by_cases z : 320 < a.va i
        · rw [if_pos (nI_lt (a := 320) z (by omega)), if_neg (by omega)]
        · rw [if_neg (fun y => z ((nI_ltI (a := 320) (by omega) (by omega)).mp y))]
          by_cases z2 : a.va i < 320
          · rw [if_pos z2]
          · rw [if_neg z2, show a.va i = 320 by omega]
      have hme : (if a.va i < 320 then a.va i else 320) < 321 := by split <;> omega
      refine Exists.intro _ (And.intro rfl (And.intro (by first | (rw [hmi]; exact vin hme (by omega)) | exact vin (by omega) (by omega)) ?_))
      refine Exists.intro _ (And.intro rfl (And.intro (by first | (rw [hmi]; exact vin hme (by omega)) | exact vin (by omega) (by omega)) ?_))
      refine Exists.intro _ (And.intro rfl (And.intro (by first | (rw [hmi]; exact vin hme (by omega)) | exact vin (by omega) (by omega)) ?_))
      refine Exists.intro _ (And.intro rfl (And.intro (by first | (rw [hmi]; exact vin hme (by omega)) | exact vin (by omega) (by omega)) ?_))
      exact ih hl _ _ (nI_1 _) (by rw [hmi, cl (show (if a.va i < 320 then a.va i else 320) < 2 ^ 31 by omega), hb31, lyR_b (show 55 ≠ 59 by decide), M.ham i hl]; exact lyR_s rfl)
  have G1 : ∀ i, i ≤ 321 → ∀ (x : Int32) (Bv : mB), x = nI i → Bv = fil B 59 i 0 → J n_M_laysBalances 2 [.ref 43, .int x] [] I A Bv (pk w f) R := by
    refine lpz (fun i => ∀ (x : Int32) (Bv : mB), x = nI i → Bv = fil B 59 i 0 → J n_M_laysBalances 2 [.ref 43, .int x] [] I A Bv (pk w f) R) (fun i hi ih => ?_)
    intro x Bv ex eBv
    subst ex; subst eBv
    refine X 200 _ _ _ _ _ _ _ _ _ ?_
    refine And.intro (fun q1 => ?_) (fun q1 => ?_)
    · have e : i = 321 := by have := (nI_ltI (a := 320) (by omega) (by omega)).mp q1; omega
      subst e
      exact G2 0 (Nat.zero_le _) _ _ rfl rfl
    · have hl : i < 321 := Nat.lt_of_not_le (fun z => q1 (nI_lt (a := 320) (by omega) (by omega)))
      refine Exists.intro _ (And.intro rfl (And.intro (vin (by omega) (by omega)) ?_))
      exact ih hl _ _ (nI_1 _) (by rw [cl (show i < 2 ^ 31 by omega)]; exact fil_1)
  refine X 200 _ _ _ _ _ _ _ _ _ ?_
  exact G1 0 (Nat.zero_le _) _ _ rfl fil_0.symm
set_option maxRecDepth 20000 in
theorem c_Mpart {J : mJ} (X : mRules J) {I A : mI} {B : mB} {w f : Nat} {R : mR} {a : Ac} (M : MR a w I A B) (V : Vw a) {d : Nat} (hd : d < 320) {b : Int} (hb : -17179869184 ≤ b ∧ b ≤ 17179869184) (hB : B 59 d = zL b) {t : Nat} (ht : t ≤ a.nt + 2) (h : R (some (.long (zL (zpt a d b t)))) I A B (pk w f)) : J n_M_partOf 0 [.ref 43, .int (nI d), .int (nI t), .float 0, .float 0, .float 0, .float 0, .float 0, .float 0] [] I A B (pk w f) R := by
  have hnt4 := V.nt4
  have hbd : (nI d).toNatClampNeg = d := cl (by omega)
  have h6 := zhl_b V (r := 6) (d := d) (by omega)
  simp only [if_true] at h6
  refine X 200 _ _ _ _ _ _ _ _ _ ?_
  refine Exists.intro _ (And.intro rfl (And.intro (by first | (rw [e85]; exact vin (by omega) (by omega)) | exact vin (by omega) (by omega)) ?_))
  refine And.intro (fun q1 => ?_) (fun q1 => ?_)
  · rw [M.hnt] at q1
    have ct : ¬ a.nt < t := by have := (nI_leI (by omega) (by omega)).mp q1; omega
    refine And.intro (fun q2 => ?_) (fun q2 => ?_)
    · rw [hbd, hB] at q2
      have cb : ¬ b ≤ 0 := by have := (zl_gt0 (by omega) (by omega)).mp q2; omega
      refine And.intro (fun q3 => ?_) (fun q3 => ?_)
      · have c0 : ¬ t = 0 := fun z => q3 (by rw [z]; rfl)
        have e85 : nI t - 1 = nI (t - 1) := pk_sub (b := 1) (by omega)
        refine Exists.intro _ (And.intro rfl (And.intro (by first | (rw [e85]; exact vin (by omega) (by omega)) | exact vin (by omega) (by omega)) ?_))
        refine And.intro (fun q4 => ?_) (fun q4 => ?_)
        · exact absurd q4 (nI_nle (by omega) (by omega)) --end
        · refine Exists.intro _ (And.intro rfl (And.intro (by first | (rw [e85]; exact vin (by omega) (by omega)) | exact vin (by omega) (by omega)) ?_))
          refine And.intro (fun q5 => ?_) (fun q5 => ?_)
          · rw [e85, cl (by omega), M.htt (t - 1) (by omega)] at q5
            have ht91 := V.tt9 (t - 1) (by omega)
            have c115 : ¬ a.tt (t - 1) = 0 := fun z => q5 (by rw [z]; rfl)
            refine And.intro (fun q6 => ?_) (fun q6 => ?_)
            · rw [M.hnt] at q6
              have c135 := (nI_leI (by omega) (by omega)).mp q6
              have c0n : ¬ (0 < t ∧ a.tt (t - 1) = 0) := by omega
              have hfr : zfr a t = (a.tt (t - 1) : Nat) := if_neg c0
              have ef : (A 49 (nI t - 1).toNatClampNeg).toInt64 = zL (zfr a t) := by rw [e85, cl (by omega), M.htt (t - 1) (by omega), hfr]; exact nL (by omega)
              have htb : 0 ≤ zfr a t ∧ zfr a t ≤ 99999 := by rw [hfr]; omega
              have ea : (if B 59 (nI d).toNatClampNeg - (A 49 (nI t - 1).toNatClampNeg).toInt64 < 0 then 0 else B 59 (nI d).toNatClampNeg - (A 49 (nI t - 1).toNatClampNeg).toInt64) = zL (zab a b t) := by rw [hbd, hB, ef, zL_sub]; exact zl_max0 (by omega) (by omega)
              have hab : 0 ≤ zab a b t ∧ zab a b t ≤ 17179869184 := by unfold zab; split <;> omega
              rw [zpt_u cb ct c0n (by omega), ← ea] at h
              exact h
            · rw [M.hnt] at q6
              have c135 := Nat.lt_of_not_le (fun z => q6 (nI_le z (by omega)))
              refine Exists.intro _ (And.intro rfl (And.intro (by first | (rw [e85]; exact vin (by omega) (by omega)) | exact vin (by omega) (by omega)) ?_))
              refine And.intro (fun q7 => ?_) (fun q7 => ?_)
              · rw [cl (by omega), M.htt _ c135] at q7
                have ht9 := V.tt9 _ c135
                have c144 := (nI_leI (b := 0) (by omega) (by omega)).mp q7
                have c0n : ¬ (0 < t ∧ a.tt (t - 1) = 0) := by omega
                have hfr : zfr a t = (a.tt (t - 1) : Nat) := if_neg c0
                have ef : (A 49 (nI t - 1).toNatClampNeg).toInt64 = zL (zfr a t) := by rw [e85, cl (by omega), M.htt (t - 1) (by omega), hfr]; exact nL (by omega)
                have htb : 0 ≤ zfr a t ∧ zfr a t ≤ 99999 := by rw [hfr]; omega
                have ea : (if B 59 (nI d).toNatClampNeg - (A 49 (nI t - 1).toNatClampNeg).toInt64 < 0 then 0 else B 59 (nI d).toNatClampNeg - (A 49 (nI t - 1).toNatClampNeg).toInt64) = zL (zab a b t) := by rw [hbd, hB, ef, zL_sub]; exact zl_max0 (by omega) (by omega)
                have hab : 0 ≤ zab a b t ∧ zab a b t ≤ 17179869184 := by unfold zab; split <;> omega
                rw [zpt_u cb ct c0n (by omega), ← ea] at h
                exact h
              · rw [cl (by omega), M.htt _ c135] at q7
                have ht9 := V.tt9 _ c135
                have c144 := Nat.lt_of_not_le (fun z => q7 (nI_le (b := 0) z (by omega)))
                refine Exists.intro _ (And.intro rfl (And.intro (by first | (rw [e85]; exact vin (by omega) (by omega)) | exact vin (by omega) (by omega)) ?_))
                have c0n : ¬ (0 < t ∧ a.tt (t - 1) = 0) := by omega
                have hfr : zfr a t = (a.tt (t - 1) : Nat) := if_neg c0
                have ef : (A 49 (nI t - 1).toNatClampNeg).toInt64 = zL (zfr a t) := by rw [e85, cl (by omega), M.htt (t - 1) (by omega), hfr]; exact nL (by omega)
                have htb : 0 ≤ zfr a t ∧ zfr a t ≤ 99999 := by rw [hfr]; omega
                have ea : (if B 59 (nI d).toNatClampNeg - (A 49 (nI t - 1).toNatClampNeg).toInt64 < 0 then 0 else B 59 (nI d).toNatClampNeg - (A 49 (nI t - 1).toNatClampNeg).toInt64) = zL (zab a b t) := by rw [hbd, hB, ef, zL_sub]; exact zl_max0 (by omega) (by omega)
                have hab : 0 ≤ zab a b t ∧ zab a b t ≤ 17179869184 := by unfold zab; split <;> omega
                have et : (A 49 (nI t).toNatClampNeg).toInt64 - (A 49 (nI t - 1).toNatClampNeg).toInt64 = zL ((a.tt t : Int) - zfr a t) := by rw [cl (by omega), M.htt t (by omega), ef, nL (by omega), zL_sub]
                rw [zpt_a cb ct c0n ⟨c135, c144⟩, ← zl_min (by omega) (by omega) (by omega) (by omega), ← et, ← ea] at h
                exact h
          · rw [e85, cl (by omega), M.htt (t - 1) (by omega)] at q5
            have ht91 := V.tt9 (t - 1) (by omega)
            have c115 : a.tt (t - 1) = 0 := (nI_eq (b := 0) (by omega) (by omega)).mp q5
            rw [zpt_z cb ct (by omega) c115] at h
            exact h
      · have c0 : t = 0 := (nI_eq (b := 0) (by omega) (by omega)).mp q3
        subst c0
        refine And.intro (fun q8 => ?_) (fun q8 => ?_)
        · refine And.intro (fun q9 => ?_) (fun q9 => ?_)
          · rw [M.hnt] at q9
            have c135 := (nI_leI (by omega) (by omega)).mp q9
            have c0n : ¬ (0 < 0 ∧ a.tt (0 - 1) = 0) := by omega
            have hfr : zfr a 0 = 0 := rfl
            have ef : (0 : Int64) = zL (zfr a 0) := rfl
            have htb : 0 ≤ zfr a 0 ∧ zfr a 0 ≤ 99999 := by rw [hfr]; omega
            have ea : (if B 59 (nI d).toNatClampNeg - 0 < 0 then 0 else B 59 (nI d).toNatClampNeg - 0) = zL (zab a b 0) := by rw [hbd, hB, ef, zL_sub]; exact zl_max0 (by omega) (by omega)
            have hab : 0 ≤ zab a b 0 ∧ zab a b 0 ≤ 17179869184 := by unfold zab; split <;> omega
            rw [zpt_u cb ct c0n (by omega), ← ea] at h
            exact h
          · rw [M.hnt] at q9
            have c135 := Nat.lt_of_not_le (fun z => q9 (nI_le z (by omega)))
            refine Exists.intro _ (And.intro rfl (And.intro (by first | (rw [e85]; exact vin (by omega) (by omega)) | exact vin (by omega) (by omega)) ?_))
            refine And.intro (fun q10 => ?_) (fun q10 => ?_)
            · rw [cl (by omega), M.htt _ c135] at q10
              have ht9 := V.tt9 _ c135
              have c144 := (nI_leI (b := 0) (by omega) (by omega)).mp q10
              have c0n : ¬ (0 < 0 ∧ a.tt (0 - 1) = 0) := by omega
              have hfr : zfr a 0 = 0 := rfl
              have ef : (0 : Int64) = zL (zfr a 0) := rfl
              have htb : 0 ≤ zfr a 0 ∧ zfr a 0 ≤ 99999 := by rw [hfr]; omega
              have ea : (if B 59 (nI d).toNatClampNeg - 0 < 0 then 0 else B 59 (nI d).toNatClampNeg - 0) = zL (zab a b 0) := by rw [hbd, hB, ef, zL_sub]; exact zl_max0 (by omega) (by omega)
              have hab : 0 ≤ zab a b 0 ∧ zab a b 0 ≤ 17179869184 := by unfold zab; split <;> omega
              rw [zpt_u cb ct c0n (by omega), ← ea] at h
              exact h
            · rw [cl (by omega), M.htt _ c135] at q10
              have ht9 := V.tt9 _ c135
              have c144 := Nat.lt_of_not_le (fun z => q10 (nI_le (b := 0) z (by omega)))
              refine Exists.intro _ (And.intro rfl (And.intro (by first | (rw [e85]; exact vin (by omega) (by omega)) | exact vin (by omega) (by omega)) ?_))
              have c0n : ¬ (0 < 0 ∧ a.tt (0 - 1) = 0) := by omega
              have hfr : zfr a 0 = 0 := rfl
              have ef : (0 : Int64) = zL (zfr a 0) := rfl
              have htb : 0 ≤ zfr a 0 ∧ zfr a 0 ≤ 99999 := by rw [hfr]; omega
              have ea : (if B 59 (nI d).toNatClampNeg - 0 < 0 then 0 else B 59 (nI d).toNatClampNeg - 0) = zL (zab a b 0) := by rw [hbd, hB, ef, zL_sub]; exact zl_max0 (by omega) (by omega)
              have hab : 0 ≤ zab a b 0 ∧ zab a b 0 ≤ 17179869184 := by unfold zab; split <;> omega
              have et : (A 49 (nI 0).toNatClampNeg).toInt64 - 0 = zL ((a.tt 0 : Int) - zfr a 0) := by rw [cl (by omega), M.htt 0 (by omega), ef, nL (by omega), zL_sub]
              rw [zpt_a cb ct c0n ⟨c135, c144⟩, ← zl_min (by omega) (by omega) (by omega) (by omega), ← et, ← ea] at h
              exact h
        · exact absurd (Int32.le_refl _) q8 --end
    · rw [hbd, hB] at q2
      have cb : b ≤ 0 := by have := fun z => q2 ((zl_gt0 (by omega) (by omega)).mpr z); exact Int.not_lt.mp this
      rw [zpt_0 cb ct] at h
      exact h
  · rw [M.hnt] at q1
    have ct : a.nt < t := Nat.lt_of_not_le (fun z => q1 (nI_le z (by omega)))
    refine And.intro (fun q11 => ?_) (fun q11 => ?_)
    · rw [hbd, hB, zl_ge0 (by omega) (by omega)] at q11
      have cb : ¬ b < 0 := by omega
      refine And.intro (fun q => absurd (by decide) q) (fun _ => ?_)
      refine And.intro (fun q12 => ?_) (fun q12 => ?_)
      · rw [M.hnt, nI_1] at q12
        have ct2 : ¬ t = a.nt + 1 := fun z => q12 (by rw [z])
        rw [zpt_p cb ct] at h
        exact h
      · rw [M.hnt, nI_1] at q12
        have ct2 : t = a.nt + 1 := (nI_eq (by omega) (by omega)).mp q12
        rw [zpt_p cb ct] at h
        exact h
    · rw [hbd, hB, zl_ge0 (by omega) (by omega)] at q11
      have cb : b < 0 := by omega
      refine And.intro (fun q13 => ?_) (fun q13 => ?_)
      · refine c_Mholds X M V (r := 6) (d := d) (by omega) (by omega) ?_
        refine And.intro (fun q14 => ?_) (fun q14 => ?_)
        · rw [M.hnt, nI_1] at q14
          have ct2 : ¬ t = a.nt + 1 := fun z => q14 (by rw [z])
          have hbd : (nI d).toNatClampNeg = d := cl (by omega)
          have e1 : -(B 59 (nI d).toNatClampNeg) = zL (-b) := by rw [hbd, hB, zL_neg]
          have e2 : (zN (zhl a 6 d)).toInt64 = zL (zhl a 6 d) := zn_l (by omega) (by omega)
          have e3 : (if zL (zhl a 6 d) < zL (-b) then zL (zhl a 6 d) else zL (-b)) = _ := zl_min (by omega) (by omega) (by omega) (by omega)
          rw [zpt_o cb ct ct2, ← zL_sub, ← e3, ← e1, ← e2] at h
          exact h
        · rw [M.hnt, nI_1] at q14
          have ct2 : t = a.nt + 1 := (nI_eq (by omega) (by omega)).mp q14
          have hbd : (nI d).toNatClampNeg = d := cl (by omega)
          have e1 : -(B 59 (nI d).toNatClampNeg) = zL (-b) := by rw [hbd, hB, zL_neg]
          have e2 : (zN (zhl a 6 d)).toInt64 = zL (zhl a 6 d) := zn_l (by omega) (by omega)
          have e3 : (if zL (zhl a 6 d) < zL (-b) then zL (zhl a 6 d) else zL (-b)) = _ := zl_min (by omega) (by omega) (by omega) (by omega)
          rw [show t = a.nt + 1 by omega, zpt_w cb, ← e3, ← e1, ← e2] at h
          exact h
      · rw [hbd, hB, zL_neg, zl_eq0 (by omega) (by omega)] at q13
        exact absurd cb (by omega) --end
