/-! contracts of the reference: paid off (written by wip/whole/gm14.py) -/
set_option maxRecDepth 20000 in
theorem c_MfirstU {J : mJ} (X : mRules J) {I A : mI} {B : mB} {w f : Nat} {R : mR} {a : Ac} (M : MR a w I A B) (V : Vw a) {L : Nat → Int} (hL : ∀ e, e < a.n → B 62 e = zL (L e)) (hLb : ∀ e, e < a.n → 0 ≤ L e ∧ L e ≤ 2 ^ 40) (h : R (some (.int (fI (ofo a L true a.n)))) I A B (pk w f)) : J n_M_firstOf 0 [.ref 43, .int 1, .float 0, .float 0, .float 0] [] I A B (pk w f) R := by
  have hn4 := V.n4
  have G9 : ∀ i, i ≤ a.n → ∀ (y : Int32) (x : Int32) (z4 : Value), y = fI (ofo a L true i) → x = nI i → J n_M_firstOf 4 [.ref 43, .int 1, .int y, .int x, z4] [] I A B (pk w f) R := by
    refine lpz (fun i => ∀ (y : Int32) (x : Int32) (z4 : Value), y = fI (ofo a L true i) → x = nI i → J n_M_firstOf 4 [.ref 43, .int 1, .int y, .int x, z4] [] I A B (pk w f) R) (fun i hi ih => ?_)
    intro y x z4 ey ex
    subst ey; subst ex
    refine X 200 _ _ _ _ _ _ _ _ _ ?_
    refine And.intro (fun q1 => ?_) (fun q1 => ?_)
    · rw [M.hn] at q1
      have e := lpx hi (by omega) q1
      subst e
      exact h
    · rw [M.hn] at q1
      have hl := lpc hi (by omega) q1
      have hLi := hLb i hl
      have eLi := hL i hl
      have cbi : (nI i).toNatClampNeg = i := cl (by omega)
      have hai := M.ham i hl
      have ha1 := V.am1 i hl
      have hvi := M.hva i hl
      have hv9 := V.va9 i hl
      have hob : ∀ v, ofo a L true i = some v → v < i := fun v z => (ofo_s z).l
      refine Exists.intro _ (And.intro rfl (And.intro (by first | (rw [hj3]; exact vin (by omega) (by omega)) | exact vin (by omega) (by omega)) ?_))
      refine And.intro (fun q2 => ?_) (fun q2 => ?_)
      · rw [cbi, eLi] at q2
        have s0 : osl a L true i = false := osl_l (by have := (zl_le0 (by omega) (by omega)).mp q2; omega)
        refine And.intro (fun _ => ?_) (fun q => absurd (by decide) q)
        exact ih hl _ _ _ (by rw [ofo_f s0]) (nI_1 i)
      · rw [cbi, eLi] at q2
        have p1 : 0 < L i := by
          have : ¬ L i ≤ 0 := fun z => q2 ((zl_le0 (by omega) (by omega)).mpr z)
          omega
        refine Exists.intro _ (And.intro rfl (And.intro (by first | (rw [hj3]; exact vin (by omega) (by omega)) | exact vin (by omega) (by omega)) ?_))
        refine And.intro (fun q3 => ?_) (fun q3 => ?_)
        · rw [cbi, hai] at q3
          have p2 : ¬ 0 < a.am i := by have := (zl_le0 (by omega) (by omega)).mp q3; omega
          have s0 : osl a L true i = false := osl_m (fun z => p2 (z.mpr rfl))
          refine And.intro (fun q => absurd q (by decide)) (fun _ => ?_)
          refine And.intro (fun _ => ?_) (fun q => absurd q (by decide))
          refine And.intro (fun _ => ?_) (fun q => absurd (by decide) q)
          exact ih hl _ _ _ (by rw [ofo_f s0]) (nI_1 i)
        · rw [cbi, hai] at q3
          have p2 : 0 < a.am i := by
            have : ¬ a.am i ≤ 0 := fun z => q3 ((zl_le0 (by omega) (by omega)).mpr z)
            omega
          have s1 : osl a L true i = true := osl_i.mpr ⟨p1, fun _ => rfl, fun _ => p2⟩
          refine And.intro (fun q => absurd q (by decide)) (fun _ => ?_)
          refine And.intro (fun q => absurd (by decide) q) (fun _ => ?_)
          refine And.intro (fun q => absurd q (by decide)) (fun _ => ?_)
          refine And.intro (fun q4 => ?_) (fun q4 => ?_)
          · have hn0 : ofo a L true i = none := (fI_no (fun v z => by have := hob v z; omega)).mp q4
            exact ih hl _ _ _ (by rw [ofo_1 s1 hn0]; rfl) (nI_1 i)
          · obtain ⟨j3, hj3⟩ := fI_s q4
            have hj4 := hob j3 hj3
            have cbj : (fI (ofo a L true i)).toNatClampNeg = j3 := by rw [hj3]; exact cl (by omega)
            have hvj := M.hva j3 (by omega)
            have hvj9 := V.va9 j3 (by omega)
            refine Exists.intro _ (And.intro rfl (And.intro (by first | (rw [hj3]; exact vin (by omega) (by omega)) | exact vin (by omega) (by omega)) ?_))
            refine Exists.intro _ (And.intro rfl (And.intro (by first | (rw [hj3]; exact vin (by omega) (by omega)) | exact vin (by omega) (by omega)) ?_))
            refine And.intro (fun q5 => ?_) (fun q5 => ?_)
            · rw [cbi, cbj, hvi, hvj] at q5
              have c3 : ¬ a.va i < a.va j3 := Nat.not_lt.mpr ((nI_leI (by omega) (by omega)).mp q5)
              exact ih hl _ _ _ (by rw [ofo_3 s1 hj3 c3]) (nI_1 i)
            · rw [cbi, cbj, hvi, hvj] at q5
              have c3 : a.va i < a.va j3 := Nat.lt_of_not_le (fun z => q5 (nI_le z (by omega)))
              exact ih hl _ _ _ (by rw [ofo_2 s1 hj3 c3]; rfl) (nI_1 i)
  refine X 200 _ _ _ _ _ _ _ _ _ ?_
  exact G9 0 (Nat.zero_le _) _ _ _ rfl rfl
set_option maxRecDepth 20000 in
theorem c_MfirstD {J : mJ} (X : mRules J) {I A : mI} {B : mB} {w f : Nat} {R : mR} {a : Ac} (M : MR a w I A B) (V : Vw a) {L : Nat → Int} (hL : ∀ e, e < a.n → B 62 e = zL (L e)) (hLb : ∀ e, e < a.n → 0 ≤ L e ∧ L e ≤ 2 ^ 40) (h : R (some (.int (fI (ofo a L false a.n)))) I A B (pk w f)) : J n_M_firstOf 0 [.ref 43, .int (-1), .float 0, .float 0, .float 0] [] I A B (pk w f) R := by
  have hn4 := V.n4
  have G9 : ∀ i, i ≤ a.n → ∀ (y : Int32) (x : Int32) (z4 : Value), y = fI (ofo a L false i) → x = nI i → J n_M_firstOf 4 [.ref 43, .int (-1), .int y, .int x, z4] [] I A B (pk w f) R := by
    refine lpz (fun i => ∀ (y : Int32) (x : Int32) (z4 : Value), y = fI (ofo a L false i) → x = nI i → J n_M_firstOf 4 [.ref 43, .int (-1), .int y, .int x, z4] [] I A B (pk w f) R) (fun i hi ih => ?_)
    intro y x z4 ey ex
    subst ey; subst ex
    refine X 200 _ _ _ _ _ _ _ _ _ ?_
    refine And.intro (fun q1 => ?_) (fun q1 => ?_)
    · rw [M.hn] at q1
      have e := lpx hi (by omega) q1
      subst e
      exact h
    · rw [M.hn] at q1
      have hl := lpc hi (by omega) q1
      have hLi := hLb i hl
      have eLi := hL i hl
      have cbi : (nI i).toNatClampNeg = i := cl (by omega)
      have hai := M.ham i hl
      have ha1 := V.am1 i hl
      have hvi := M.hva i hl
      have hv9 := V.va9 i hl
      have hob : ∀ v, ofo a L false i = some v → v < i := fun v z => (ofo_s z).l
      refine Exists.intro _ (And.intro rfl (And.intro (by first | (rw [hj3]; exact vin (by omega) (by omega)) | exact vin (by omega) (by omega)) ?_))
      refine And.intro (fun q2 => ?_) (fun q2 => ?_)
      · rw [cbi, eLi] at q2
        have s0 : osl a L false i = false := osl_l (by have := (zl_le0 (by omega) (by omega)).mp q2; omega)
        refine And.intro (fun _ => ?_) (fun q => absurd (by decide) q)
        exact ih hl _ _ _ (by rw [ofo_f s0]) (nI_1 i)
      · rw [cbi, eLi] at q2
        have p1 : 0 < L i := by
          have : ¬ L i ≤ 0 := fun z => q2 ((zl_le0 (by omega) (by omega)).mpr z)
          omega
        refine Exists.intro _ (And.intro rfl (And.intro (by first | (rw [hj3]; exact vin (by omega) (by omega)) | exact vin (by omega) (by omega)) ?_))
        refine And.intro (fun q3 => ?_) (fun q3 => ?_)
        · rw [cbi, hai] at q3
          have p2 : ¬ 0 < a.am i := by have := (zl_le0 (by omega) (by omega)).mp q3; omega
          have s1 : osl a L false i = true := osl_i.mpr ⟨p1, fun z => absurd z p2, fun z => by cases z⟩
          refine And.intro (fun _ => ?_) (fun q => absurd (by decide) q)
          refine And.intro (fun q => absurd (by decide) q) (fun _ => ?_)
          refine And.intro (fun q => absurd q (by decide)) (fun _ => ?_)
          refine And.intro (fun q4 => ?_) (fun q4 => ?_)
          · have hn0 : ofo a L false i = none := (fI_no (fun v z => by have := hob v z; omega)).mp q4
            exact ih hl _ _ _ (by rw [ofo_1 s1 hn0]; rfl) (nI_1 i)
          · obtain ⟨j3, hj3⟩ := fI_s q4
            have hj4 := hob j3 hj3
            have cbj : (fI (ofo a L false i)).toNatClampNeg = j3 := by rw [hj3]; exact cl (by omega)
            have hvj := M.hva j3 (by omega)
            have hvj9 := V.va9 j3 (by omega)
            refine Exists.intro _ (And.intro rfl (And.intro (by first | (rw [hj3]; exact vin (by omega) (by omega)) | exact vin (by omega) (by omega)) ?_))
            refine Exists.intro _ (And.intro rfl (And.intro (by first | (rw [hj3]; exact vin (by omega) (by omega)) | exact vin (by omega) (by omega)) ?_))
            refine And.intro (fun q5 => ?_) (fun q5 => ?_)
            · rw [cbi, cbj, hvi, hvj] at q5
              have c3 : ¬ a.va i < a.va j3 := Nat.not_lt.mpr ((nI_leI (by omega) (by omega)).mp q5)
              exact ih hl _ _ _ (by rw [ofo_3 s1 hj3 c3]) (nI_1 i)
            · rw [cbi, cbj, hvi, hvj] at q5
              have c3 : a.va i < a.va j3 := Nat.lt_of_not_le (fun z => q5 (nI_le z (by omega)))
              exact ih hl _ _ _ (by rw [ofo_2 s1 hj3 c3]; rfl) (nI_1 i)
        · rw [cbi, hai] at q3
          have p2 : 0 < a.am i := by
            have : ¬ a.am i ≤ 0 := fun z => q3 ((zl_le0 (by omega) (by omega)).mpr z)
            omega
          have s0 : osl a L false i = false := osl_m (fun z => by have := z.mp p2; cases this)
          refine And.intro (fun _ => ?_) (fun q => absurd (by decide) q)
          refine And.intro (fun _ => ?_) (fun q => absurd q (by decide))
          refine And.intro (fun _ => ?_) (fun q => absurd (by decide) q)
          exact ih hl _ _ _ (by rw [ofo_f s0]) (nI_1 i)
  refine X 200 _ _ _ _ _ _ _ _ _ ?_
  exact G9 0 (Nat.zero_le _) _ _ _ rfl rfl
set_option maxRecDepth 20000 in
theorem c_Mpays {J : mJ} (X : mRules J) {I A : mI} {B : mB} {w f : Nat} {R : mR} {a : Ac} (M : MR a w I A B) (V : Vw a) (h : ∀ A' B', (∀ r, r ≠ 63 → A' r = A r) → (∀ r, r ≠ 62 → B' r = B r) → (∀ e, e < a.n → B' 62 e = zL ((orn a a.n).1 e)) → (∀ e, e < a.n → A' 63 e = fI ((orn a a.n).2 e)) → R none I A' B' (pk w f)) : J n_M_paysOff 0 [.ref 43, .float 0, .float 0, .float 0, .float 0] [] I A B (pk w f) R := by
  have hn4 := V.n4
  have G8 : ∀ k, k ≤ a.n → ∀ (x1 : Int32) (x2 : Int32) (z3 : Value) (Av : mI) (Bv : mB), x1 = fI (ofo a (orn a k).1 true a.n) → x2 = fI (ofo a (orn a k).1 false a.n) → (∀ r, r ≠ 63 → Av r = A r) → (∀ r, r ≠ 62 → Bv r = B r) → (∀ e, e < a.n → Bv 62 e = zL ((orn a k).1 e)) → (∀ e, e < a.n → Av 63 e = fI ((orn a k).2 e)) → J n_M_paysOff 50 [.ref 43, .int x1, .int x2, z3, .float 0] [] I Av Bv (pk w f) R := by
    refine lpz (fun k => ∀ (x1 : Int32) (x2 : Int32) (z3 : Value) (Av : mI) (Bv : mB), x1 = fI (ofo a (orn a k).1 true a.n) → x2 = fI (ofo a (orn a k).1 false a.n) → (∀ r, r ≠ 63 → Av r = A r) → (∀ r, r ≠ 62 → Bv r = B r) → (∀ e, e < a.n → Bv 62 e = zL ((orn a k).1 e)) → (∀ e, e < a.n → Av 63 e = fI ((orn a k).2 e)) → J n_M_paysOff 50 [.ref 43, .int x1, .int x2, z3, .float 0] [] I Av Bv (pk w f) R) (fun k hik ihk => ?_)
    intro x1 x2 z3 Av Bv ex1 ex2 hqA hqB hB hA
    subst ex1; subst ex2
    have hb1 : ∀ v, ofo a (orn a k).1 true a.n = some v → v < a.n := fun v z => (ofo_s z).l
    have hb2 : ∀ v, ofo a (orn a k).1 false a.n = some v → v < a.n := fun v z => (ofo_s z).l
    refine X 200 _ _ _ _ _ _ _ _ _ ?_
    refine And.intro (fun q1 => ?_) (fun q1 => ?_)
    · have hn0 : ofo a (orn a k).1 true a.n = none := (fI_no (fun v z => by have := hb1 v z; omega)).mp q1
      have hen := orn_e hik (Or.inl hn0)
      rw [hen] at h
      exact h _ _ hqA hqB hB hA
    · refine And.intro (fun q2 => ?_) (fun q2 => ?_)
      · have hn0 : ofo a (orn a k).1 false a.n = none := (fI_no (fun v z => by have := hb2 v z; omega)).mp q2
        have hen := orn_e hik (Or.inr hn0)
        rw [hen] at h
        exact h _ _ hqA hqB hB hA
      · obtain ⟨u, hu⟩ := fI_s q1
        obtain ⟨v, hv⟩ := fI_s q2
        obtain ⟨hu2, hv2, huv, pu, pv, au, av⟩ := o_uv hu hv
        have cu : (fI (ofo a (orn a k).1 true a.n)).toNatClampNeg = u := by rw [hu]; exact cl (by omega)
        have cv : (fI (ofo a (orn a k).1 false a.n)).toNatClampNeg = v := by rw [hv]; exact cl (by omega)
        have hlk := orn_k hik hu hv
        have OIk := oi_r (a := a) k
        have bu := oi_40 V OIk hu2
        have bv := oi_40 V OIk hv2
        have ey := obt_z (x := Bv 62 (fI (ofo a (orn a k).1 true a.n)).toNatClampNeg) (y := Bv 62 (fI (ofo a (orn a k).1 false a.n)).toNatClampNeg) (by rw [cu]; exact hB u hu2) (by rw [cv]; exact hB v hv2) bu bv
        have ek : orn a (k + 1) = (oL1 (orn a k).1 u v, oT1 (orn a k).2 u v) := ost_1 hu hv
        have hL2 := oL_up hB hu2 hv2 huv cu cv ey
        have hT2 := oT_up (x1 := fI (ofo a (orn a k).1 true a.n)) (x2 := fI (ofo a (orn a k).1 false a.n)) hA cu cv (by rw [hu]; rfl) (by rw [hv]; rfl)
        rw [show oL1 (orn a k).1 u v = (orn a (k + 1)).1 by rw [ek]] at hL2
        rw [show oT1 (orn a k).2 u v = (orn a (k + 1)).2 by rw [ek]] at hT2
        have hLb2 : ∀ e, e < a.n → 0 ≤ (orn a (k + 1)).1 e ∧ (orn a (k + 1)).1 e ≤ 2 ^ 40 := fun e he => oi_40 V (oi_r (k + 1)) he
        have M2 := fun (x1 x2 : Int32) (c1 c2 : Nat) (A3 : mI) (B3 : mB) (g1 : ∀ r, r ≠ 63 → A3 r = A r) (g2 : ∀ r, r ≠ 62 → B3 r = B r) => MR.f63 (A' := A3) (B' := B3) M g1 g2
        refine Exists.intro _ (And.intro rfl (And.intro (by first | (rw [hu]; exact vin (by omega) (by omega)) | (rw [hv]; exact vin (by omega) (by omega))) ?_))
        refine Exists.intro _ (And.intro rfl (And.intro (by first | (rw [hu]; exact vin (by omega) (by omega)) | (rw [hv]; exact vin (by omega) (by omega))) ?_))
        refine Exists.intro _ (And.intro rfl (And.intro (by first | (rw [hu]; exact vin (by omega) (by omega)) | (rw [hv]; exact vin (by omega) (by omega))) ?_))
        refine Exists.intro _ (And.intro rfl (And.intro (by first | (rw [hu]; exact vin (by omega) (by omega)) | (rw [hv]; exact vin (by omega) (by omega))) ?_))
        refine Exists.intro _ (And.intro rfl (And.intro (by first | (rw [hu]; exact vin (by omega) (by omega)) | (rw [hv]; exact vin (by omega) (by omega))) ?_))
        refine Exists.intro _ (And.intro rfl (And.intro (by first | (rw [hu]; exact vin (by omega) (by omega)) | (rw [hv]; exact vin (by omega) (by omega))) ?_))
        refine Exists.intro _ (And.intro rfl (And.intro (by first | (rw [hu]; exact vin (by omega) (by omega)) | (rw [hv]; exact vin (by omega) (by omega))) ?_))
        refine Exists.intro _ (And.intro rfl (And.intro (by first | (rw [hu]; exact vin (by omega) (by omega)) | (rw [hv]; exact vin (by omega) (by omega))) ?_))
        refine c_MfirstU X (M2 0 0 0 0 _ _ (fun r hr => by rw [up2_r hr, up2_r hr]; exact hqA r hr) (fun r hr => by rw [up2_r hr, up2_r hr]; exact hqB r hr)) V hL2 hLb2 ?_
        refine c_MfirstD X (M2 0 0 0 0 _ _ (fun r hr => by rw [up2_r hr, up2_r hr]; exact hqA r hr) (fun r hr => by rw [up2_r hr, up2_r hr]; exact hqB r hr)) V hL2 hLb2 ?_
        exact ihk hlk _ _ _ _ _ rfl rfl (fun r hr => by rw [up2_r hr, up2_r hr]; exact hqA r hr) (fun r hr => by rw [up2_r hr, up2_r hr]; exact hqB r hr) hL2 hT2
  have G9 : ∀ i, i ≤ a.n → ∀ (x : Int32) (z2 : Value) (z3 : Value) (Av : mI) (Bv : mB), x = nI i → (∀ r, r ≠ 63 → Av r = A r) → (∀ r, r ≠ 62 → Bv r = B r) → (∀ e, e < i → Bv 62 e = zL (oab (a.am e))) → (∀ e, e < i → Av 63 e = -1) → J n_M_paysOff 2 [.ref 43, .int x, z2, z3, .float 0] [] I Av Bv (pk w f) R := by
    refine lpz (fun i => ∀ (x : Int32) (z2 : Value) (z3 : Value) (Av : mI) (Bv : mB), x = nI i → (∀ r, r ≠ 63 → Av r = A r) → (∀ r, r ≠ 62 → Bv r = B r) → (∀ e, e < i → Bv 62 e = zL (oab (a.am e))) → (∀ e, e < i → Av 63 e = -1) → J n_M_paysOff 2 [.ref 43, .int x, z2, z3, .float 0] [] I Av Bv (pk w f) R) (fun i hi ih => ?_)
    intro x z2 z3 Av Bv ex hqA hqB hB hA
    subst ex
    refine X 200 _ _ _ _ _ _ _ _ _ ?_
    refine And.intro (fun q1 => ?_) (fun q1 => ?_)
    · rw [M.hn] at q1
      have e := lpx hi (by omega) q1
      subst e
      have hL2 : ∀ e, e < a.n → Bv 62 e = zL ((orn a 0).1 e) := hB
      have hLb2 : ∀ e, e < a.n → 0 ≤ (orn a 0).1 e ∧ (orn a 0).1 e ≤ 2 ^ 40 := fun e he => oi_40 V (oi_r 0) he
      have M2 := M.f63 hqA hqB
      refine c_MfirstU X M2 V hL2 hLb2 ?_
      refine c_MfirstD X M2 V hL2 hLb2 ?_
      exact G8 0 (Nat.zero_le _) _ _ _ _ _ rfl rfl hqA hqB hB hA
    · rw [M.hn] at q1
      have hl := lpc hi (by omega) q1
      have cbi : (nI i).toNatClampNeg = i := cl (by omega)
      have hai : Bv 55 i = zL (a.am i) := by rw [hqB 55 (by decide)]; exact M.ham i hl
      have ha1 := V.am1 i hl
      have eab := abz (z := a.am i) (by omega) (by omega)
      rw [← hai] at eab
      refine Exists.intro _ (And.intro rfl (And.intro (vin (by omega) (by omega)) ?_))
      refine Exists.intro _ (And.intro rfl (And.intro (vin (by omega) (by omega)) ?_))
      refine Exists.intro _ (And.intro rfl (And.intro (vin (by omega) (by omega)) ?_))
      exact ih hl _ _ _ _ _ (nI_1 i) (fun r hr => by rw [up2_r hr]; exact hqA r hr) (fun r hr => by rw [up2_r hr]; exact hqB r hr) (fun e he => by
        rw [cbi]
        by_cases z : e = i
        · subst z
          rw [up2_s]
          exact eab
        · rw [up2_m z]
          exact hB e (by omega)) (fun e he => by
        rw [cbi]
        by_cases z : e = i
        · subst z
          rw [up2_s]
        · rw [up2_m z]
          exact hA e (by omega))
  refine X 200 _ _ _ _ _ _ _ _ _ ?_
  exact G9 0 (Nat.zero_le _) _ _ _ _ _ rfl (fun _ _ => rfl) (fun _ _ => rfl) (fun e he => absurd he (Nat.not_lt_zero e)) (fun e he => absurd he (Nat.not_lt_zero e))
set_option maxRecDepth 20000 in
theorem r_left {J : mJ} (X : mRules J) {I A : mI} {B : mB} {w f : Nat} {R : mR} {a : Ac} (M : MR a w I A B) (V : Vw a) {e : Int32} (h : qM a w f I A B R (some (.long (an_left a (ixN a.n e))))) : J n_M_left 0 [.ref 43, .int e] [] I A B (pk w f) R := by
  have hP40 := V.P40
  have hN8 := V.N8
  have hn4 := V.n4
  have hnt4 := V.nt4
  have hcN := V.cN
  have hPN := Nat.mul_le_mul hP40 hN8
  have hD31 : a.P * a.N < 2 ^ 31 := by omega
  have hN31 : a.N < 2 ^ 31 := by omega
  have hn31 : a.n < 2 ^ 31 := by omega
  have hnt31 : a.nt < 2 ^ 31 := by omega
  refine X 200 _ _ _ _ _ _ _ _ _ ?_
  refine c_MisEntry X M V (fun e0 he ee => ?_) (fun ze => ?_)
  · subst ee
    refine And.intro (fun _ => ?_) (fun q => absurd q (by decide))
    refine c_Mpays X M V (fun Ap Bp hqA hqB hB hA => ?_)
    have M2 := M.f63 hqA hqB
    refine Exists.intro _ (And.intro rfl (And.intro (vin (by omega) (by omega)) ?_))
    rw [ixN_s he hn31] at h
    have cb : (nI e0).toNatClampNeg = e0 := cl (by omega)
    have h2 := h _ _ _ M2 (fM.f63 hqA hqB)
    rw [show an_left a (some e0) = Bp 62 (nI e0).toNatClampNeg by rw [cb]; exact (hB e0 he).symm] at h2
    exact h2
  · refine And.intro (fun q => absurd (by decide) q) (fun _ => ?_)
    rw [ixN_n hn31 ze] at h
    exact h _ _ _ M (fM.refl _ _ _)
set_option maxRecDepth 20000 in
theorem r_gone {J : mJ} (X : mRules J) {I A : mI} {B : mB} {w f : Nat} {R : mR} {a : Ac} (M : MR a w I A B) (V : Vw a) {e : Int32} (h : qM a w f I A B R (some (.int (an_gone a (ixN a.n e))))) : J n_M_gone 0 [.ref 43, .int e] [] I A B (pk w f) R := by
  have hP40 := V.P40
  have hN8 := V.N8
  have hn4 := V.n4
  have hnt4 := V.nt4
  have hcN := V.cN
  have hPN := Nat.mul_le_mul hP40 hN8
  have hD31 : a.P * a.N < 2 ^ 31 := by omega
  have hN31 : a.N < 2 ^ 31 := by omega
  have hn31 : a.n < 2 ^ 31 := by omega
  have hnt31 : a.nt < 2 ^ 31 := by omega
  refine X 200 _ _ _ _ _ _ _ _ _ ?_
  refine c_MisEntry X M V (fun e0 he ee => ?_) (fun ze => ?_)
  · subst ee
    refine And.intro (fun _ => ?_) (fun q => absurd q (by decide))
    refine c_Mpays X M V (fun Ap Bp hqA hqB hB hA => ?_)
    have M2 := M.f63 hqA hqB
    refine Exists.intro _ (And.intro rfl (And.intro (by first | (rw [cb, hAe]; exact vin (by omega) (by omega)) | exact vin (by omega) (by omega)) ?_))
    refine And.intro (fun q1 => ?_) (fun q1 => ?_)
    · have cb : (nI e0).toNatClampNeg = e0 := cl (by omega)
      have hLe := oi_40 V (oi_r (a := a) a.n) he
      have ha1 := V.am1 e0 he
      have hBe := hB e0 he
      have hae : Bp 55 e0 = zL (a.am e0) := by rw [hqB 55 (by decide)]; exact M.ham e0 he
      rw [cb, hBe] at q1
      have dd : 0 < (orn a a.n).1 e0 ∨ a.am e0 = 0 := Or.inl ((zl_gt0 (by omega) (by omega)).mp q1)
      rw [ixN_s he hn31] at h
      have h2 := h _ _ _ M2 (fM.f63 hqA hqB)
      rw [show an_gone a (some e0) = -1 from if_pos dd] at h2
      exact h2
    · have cb : (nI e0).toNatClampNeg = e0 := cl (by omega)
      have hLe := oi_40 V (oi_r (a := a) a.n) he
      have ha1 := V.am1 e0 he
      have hBe := hB e0 he
      have hae : Bp 55 e0 = zL (a.am e0) := by rw [hqB 55 (by decide)]; exact M.ham e0 he
      rw [cb, hBe] at q1
      have d1 : ¬ 0 < (orn a a.n).1 e0 := fun z => q1 ((zl_gt0 (by omega) (by omega)).mpr z)
      refine Exists.intro _ (And.intro rfl (And.intro (by first | (rw [cb, hAe]; exact vin (by omega) (by omega)) | exact vin (by omega) (by omega)) ?_))
      refine And.intro (fun q2 => ?_) (fun q2 => ?_)
      · rw [cb, hae] at q2
        have d2 : ¬ a.am e0 = 0 := fun z => q2 ((zl_eq0 (by omega) (by omega)).mpr z)
        have dd : ¬ (0 < (orn a a.n).1 e0 ∨ a.am e0 = 0) := fun z => z.elim d1 d2
        obtain ⟨t, ht, et⟩ := (oi_r (a := a) a.n).t e0 he (by unfold oab; split <;> omega)
        have hAe : Ap 63 e0 = nI t := by rw [hA e0 he, et]; rfl
        have ct3 : (Ap 63 (nI e0).toNatClampNeg).toNatClampNeg = t := by rw [cb, hAe]; exact cl (by omega)
        have hv1 := M.hva e0 he
        have hv2 := M.hva t ht
        have hv3 := V.va9 e0 he
        have hv4 := V.va9 t ht
        refine Exists.intro _ (And.intro rfl (And.intro (by first | (rw [cb, hAe]; exact vin (by omega) (by omega)) | exact vin (by omega) (by omega)) ?_))
        refine Exists.intro _ (And.intro rfl (And.intro (by first | (rw [cb, hAe]; exact vin (by omega) (by omega)) | exact vin (by omega) (by omega)) ?_))
        refine Exists.intro _ (And.intro rfl (And.intro (by first | (rw [cb, hAe]; exact vin (by omega) (by omega)) | exact vin (by omega) (by omega)) ?_))
        rw [ixN_s he hn31] at h
        have h2 := h _ _ _ M2 (fM.f63 hqA hqB)
        rw [show an_gone a (some e0) = (if A 56 (nI e0).toNatClampNeg < A 56 t then A 56 t else A 56 (nI e0).toNatClampNeg) by
          show old a (orn a a.n) e0 = _
          unfold old
          rw [if_neg dd, et, cb, hv1, hv2]
          show nI (if a.va e0 < a.va t then a.va t else a.va e0) = _
          by_cases z : a.va e0 < a.va t
          · rw [if_pos z, if_pos (nI_lt z (by omega))]
          · rw [if_neg z, if_neg (fun y => z ((nI_ltI (by omega) (by omega)).mp y))]] at h2
        rw [show A 56 = Ap 56 from (hqA 56 (by decide)).symm] at h2
        rw [show t = (Ap 63 (nI e0).toNatClampNeg).toNatClampNeg from ct3.symm] at h2
        exact h2
      · rw [cb, hae] at q2
        have dd : 0 < (orn a a.n).1 e0 ∨ a.am e0 = 0 := Or.inr ((zl_eq0 (by omega) (by omega)).mp q2)
        rw [ixN_s he hn31] at h
        have h2 := h _ _ _ M2 (fM.f63 hqA hqB)
        rw [show an_gone a (some e0) = -1 from if_pos dd] at h2
        exact h2
  · refine And.intro (fun q => absurd (by decide) q) (fun _ => ?_)
    rw [ixN_n hn31 ze] at h
    exact h _ _ _ M (fM.refl _ _ _)
set_option maxRecDepth 20000 in
theorem r_oldest {J : mJ} (X : mRules J) {I A : mI} {B : mB} {w f : Nat} {R : mR} {a : Ac} (M : MR a w I A B) (V : Vw a) {bk : Bool} (hbk : 0 < A w 3 ↔ bk = true) (h : qM a w f I A B R (some (.int (an_oldest a bk)))) : J n_M_oldest 0 [.ref 43] [] I A B (pk w f) R := by
  have hP40 := V.P40
  have hN8 := V.N8
  have hn4 := V.n4
  have hnt4 := V.nt4
  have hcN := V.cN
  have hPN := Nat.mul_le_mul hP40 hN8
  have hD31 : a.P * a.N < 2 ^ 31 := by omega
  have hN31 : a.N < 2 ^ 31 := by omega
  have hn31 : a.n < 2 ^ 31 := by omega
  have hnt31 : a.nt < 2 ^ 31 := by omega
  refine X 200 _ _ _ _ _ _ _ _ _ ?_
  refine c_MisBk X M.hw hbk (fun zb => ?_) (fun zb => ?_)
  · subst zb
    refine And.intro (fun _ => ?_) (fun q => absurd q (by decide))
    refine c_Mpays X M V (fun Ap Bp hqA hqB hB hA => ?_)
    have M2 := M.f63 hqA hqB
    refine c_MfirstD X M2 V hB (fun e he => oi_40 V (oi_r a.n) he) ?_
    exact h _ _ _ M2 (fM.f63 hqA hqB)
  · subst zb
    refine And.intro (fun q => absurd (by decide) q) (fun _ => ?_)
    exact h _ _ _ M (fM.refl _ _ _)
