/-! contracts of the class: tokens (written by wip/whole/gk15.py) -/
theorem c_byteAt {J : mJ} (X : mRules J) {I A : mI} {B : mB} {w f : Nat} {R : mR} {t : Nat → Nat} {n : Nat} (T : TpR 2 A t n) (hn : I 1 1 = nI n) {x : Int32} {k : Nat} (ex : x = nI k) (hk : k < 2000) (h : R (some (.int (tsv t n k))) I A B (pk w f)) : J n_Tape_byteAt 0 [.ref 1, .int x] [] I A B (pk w f) R := by
  subst ex
  have hn9 := T.n9
  refine X 200 _ _ _ _ _ _ _ _ _ ?_
  refine And.intro (fun q1 => ?_) (fun q1 => ?_)
  · exact absurd q1 (nI_pos (by omega)) --end
  · refine And.intro (fun q2 => ?_) (fun q2 => ?_)
    · rw [hn] at q2
      have hkn : ¬ k < n := Nat.not_lt.mpr ((nI_leI (by omega) (by omega)).mp q2)
      rw [tsv_o hkn] at h
      exact h
    · rw [hn] at q2
      have hkn : k < n := Nat.lt_of_not_le (fun z => q2 (nI_le z (by omega)))
      refine Exists.intro _ (Exists.intro _ (And.intro rfl (And.intro (Or.inl rfl) (And.intro (vin (by omega) (by omega)) ?_))))
      rw [tsv_i hkn, ← (T.b k hkn).1] at h
      rw [← cl (n := k) (by omega)] at h
      exact h
theorem c_isBlank {J : mJ} (X : mRules J) {I A : mI} {B : mB} {w f : Nat} {R : mR} {c : Nat} (hc : c < 256) (h1 : isB c = true → R (some (.int 1)) I A B (pk w f)) (h0 : isB c = false → R (some (.int 0)) I A B (pk w f)) : J n_Tokens_isBlank 0 [.int (nI c)] [] I A B (pk w f) R := by
  refine X 200 _ _ _ _ _ _ _ _ _ ?_
  refine And.intro (fun q1 => ?_) (fun q1 => ?_)
  · refine And.intro (Or.inr rfl) ?_
    first
    | exact h1 (decide_eq_true (Or.inl ((nI_eq (b := 32) (by omega) (by omega)).mp q1)))
    | exact h1 (decide_eq_true (Or.inr ((nI_eq (b := 10) (by omega) (by omega)).mp q2)))
    | exact h0 (decide_eq_false (fun z => z.elim (fun y => q1 (by rw [y]; rfl)) (fun y => q2 (by rw [y]; rfl))))
  · refine And.intro (fun q2 => ?_) (fun q2 => ?_)
    · refine And.intro (Or.inl rfl) ?_
      first
      | exact h1 (decide_eq_true (Or.inl ((nI_eq (b := 32) (by omega) (by omega)).mp q1)))
      | exact h1 (decide_eq_true (Or.inr ((nI_eq (b := 10) (by omega) (by omega)).mp q2)))
      | exact h0 (decide_eq_false (fun z => z.elim (fun y => q1 (by rw [y]; rfl)) (fun y => q2 (by rw [y]; rfl))))
    · refine And.intro (Or.inr rfl) ?_
      first
      | exact h1 (decide_eq_true (Or.inl ((nI_eq (b := 32) (by omega) (by omega)).mp q1)))
      | exact h1 (decide_eq_true (Or.inr ((nI_eq (b := 10) (by omega) (by omega)).mp q2)))
      | exact h0 (decide_eq_false (fun z => z.elim (fun y => q1 (by rw [y]; rfl)) (fun y => q2 (by rw [y]; rfl))))
theorem c_isLetter {J : mJ} (X : mRules J) {I A : mI} {B : mB} {w f : Nat} {R : mR} {c : Nat} (hc : c < 256) (h1 : isLt c = true → R (some (.int 1)) I A B (pk w f)) (h0 : isLt c = false → R (some (.int 0)) I A B (pk w f)) : J n_Tokens_isLetter 0 [.int (nI c)] [] I A B (pk w f) R := by
  refine X 200 _ _ _ _ _ _ _ _ _ ?_
  refine And.intro (fun q1 => ?_) (fun q1 => ?_)
  · refine And.intro (Or.inl rfl) ?_
    first
    | exact h0 (decide_eq_false (fun z => absurd (show nI 97 ≤ nI c from nI_le z.1 (by omega)) (Int32.not_le.mpr q1)))
    | exact h0 (decide_eq_false (fun z => absurd (show nI c ≤ nI 122 from nI_le z.2 (by omega)) (Int32.not_le.mpr q2)))
    | exact h1 (decide_eq_true ((btI (lo := 97) (hi := 122) hc (by decide) (by decide)).mp ⟨Int32.not_lt.mp q1, Int32.not_lt.mp q2⟩))
  · refine And.intro (fun q2 => ?_) (fun q2 => ?_)
    · refine And.intro (Or.inl rfl) ?_
      first
      | exact h0 (decide_eq_false (fun z => absurd (show nI 97 ≤ nI c from nI_le z.1 (by omega)) (Int32.not_le.mpr q1)))
      | exact h0 (decide_eq_false (fun z => absurd (show nI c ≤ nI 122 from nI_le z.2 (by omega)) (Int32.not_le.mpr q2)))
      | exact h1 (decide_eq_true ((btI (lo := 97) (hi := 122) hc (by decide) (by decide)).mp ⟨Int32.not_lt.mp q1, Int32.not_lt.mp q2⟩))
    · refine And.intro (Or.inr rfl) ?_
      first
      | exact h0 (decide_eq_false (fun z => absurd (show nI 97 ≤ nI c from nI_le z.1 (by omega)) (Int32.not_le.mpr q1)))
      | exact h0 (decide_eq_false (fun z => absurd (show nI c ≤ nI 122 from nI_le z.2 (by omega)) (Int32.not_le.mpr q2)))
      | exact h1 (decide_eq_true ((btI (lo := 97) (hi := 122) hc (by decide) (by decide)).mp ⟨Int32.not_lt.mp q1, Int32.not_lt.mp q2⟩))
theorem c_isDigit {J : mJ} (X : mRules J) {I A : mI} {B : mB} {w f : Nat} {R : mR} {c : Nat} (hc : c < 256) (h1 : isDg c = true → R (some (.int 1)) I A B (pk w f)) (h0 : isDg c = false → R (some (.int 0)) I A B (pk w f)) : J n_Tokens_isDigit 0 [.int (nI c)] [] I A B (pk w f) R := by
  refine X 200 _ _ _ _ _ _ _ _ _ ?_
  refine And.intro (fun q1 => ?_) (fun q1 => ?_)
  · refine And.intro (Or.inl rfl) ?_
    first
    | exact h0 (decide_eq_false (fun z => absurd (show nI 48 ≤ nI c from nI_le z.1 (by omega)) (Int32.not_le.mpr q1)))
    | exact h0 (decide_eq_false (fun z => absurd (show nI c ≤ nI 57 from nI_le z.2 (by omega)) (Int32.not_le.mpr q2)))
    | exact h1 (decide_eq_true ((btI (lo := 48) (hi := 57) hc (by decide) (by decide)).mp ⟨Int32.not_lt.mp q1, Int32.not_lt.mp q2⟩))
  · refine And.intro (fun q2 => ?_) (fun q2 => ?_)
    · refine And.intro (Or.inl rfl) ?_
      first
      | exact h0 (decide_eq_false (fun z => absurd (show nI 48 ≤ nI c from nI_le z.1 (by omega)) (Int32.not_le.mpr q1)))
      | exact h0 (decide_eq_false (fun z => absurd (show nI c ≤ nI 57 from nI_le z.2 (by omega)) (Int32.not_le.mpr q2)))
      | exact h1 (decide_eq_true ((btI (lo := 48) (hi := 57) hc (by decide) (by decide)).mp ⟨Int32.not_lt.mp q1, Int32.not_lt.mp q2⟩))
    · refine And.intro (Or.inr rfl) ?_
      first
      | exact h0 (decide_eq_false (fun z => absurd (show nI 48 ≤ nI c from nI_le z.1 (by omega)) (Int32.not_le.mpr q1)))
      | exact h0 (decide_eq_false (fun z => absurd (show nI c ≤ nI 57 from nI_le z.2 (by omega)) (Int32.not_le.mpr q2)))
      | exact h1 (decide_eq_true ((btI (lo := 48) (hi := 57) hc (by decide) (by decide)).mp ⟨Int32.not_lt.mp q1, Int32.not_lt.mp q2⟩))
theorem nI_m1 {c : Nat} (h : c < 2 ^ 31) : ¬ nI c = -1 := fun e => by
  have := nI_pos h
  rw [e] at this
  exact this (by decide)
set_option maxRecDepth 20000 in
theorem c_Tadv {J : mJ} (X : mRules J) {I A : mI} {B : mB} {w f : Nat} {R : mR} {t : Nat → Nat} {n : Nat} (T : TpR 2 A t n) (hn : I 1 1 = nI n) {p : Nat} (hp : p ≤ n) (h3 : I 6 3 = nI p) (h : ∀ Iv, (∀ k, k ≠ 6 → Iv k = I k) → KT Iv t n p → R none Iv A B (pk w f)) : J n_Tokens_advance 0 [.ref 6, .float 0] [] I A B (pk w f) R := by
  have hn9 := T.n9
  have G7 : ∀ s, s < n → tS t n p = s → isLt (t s) = true → ∀ i, i ≤ n → ∀ (z1 : Value) (Iv : mI),  (∀ k, k ≠ 6 → Iv k = I k) → Iv 6 1 = 1 → Iv 6 2 = nI s → Iv 6 3 = nI i → s < i → (∀ k, s ≤ k → k < i → isLt (t k) = true) → J n_Tokens_advance 107 [.ref 6, z1] [] Iv A B (pk w f) R := by
    intro s hs eS hls
    have G : ∀ i, i ≤ n → ∀ (z1 : Value) (Iv : mI),  (∀ k, k ≠ 6 → Iv k = I k) → Iv 6 1 = 1 → Iv 6 2 = nI s → Iv 6 3 = nI i → s < i → (∀ k, s ≤ k → k < i → isLt (t k) = true) → J n_Tokens_advance 107 [.ref 6, z1] [] Iv A B (pk w f) R := by
      refine lpz (fun i => ∀ (z1 : Value) (Iv : mI),  (∀ k, k ≠ 6 → Iv k = I k) → Iv 6 1 = 1 → Iv 6 2 = nI s → Iv 6 3 = nI i → s < i → (∀ k, s ≤ k → k < i → isLt (t k) = true) → J n_Tokens_advance 107 [.ref 6, z1] [] Iv A B (pk w f) R) (fun i hi ih => ?_)
      intro z1 Iv hfr h61 h62 h63 hsi hal
      refine X 200 _ _ _ _ _ _ _ _ _ ?_
      refine And.intro (fun q1 => ?_) (fun q1 => ?_)
      · rw [h63, hfr 1 (by decide), hn] at q1
        have e := lpx hi (by omega) q1
        subst e
        have ee := tk_w eS hs hls (rnn_at (q := i) (by omega) (Nat.le_refl _) hal (Or.inl rfl))
        exact h Iv hfr (KT.mk (by rw [h61, ee.1]; rfl) (by rw [h62, eS]) (by rw [h63, ee.2]) (fun z => by rw [ee.1] at z; cases z))
      · rw [h63, hfr 1 (by decide), hn] at q1
        have hl := lpc hi (by omega) q1
        refine c_byteAt X T (by rw [hfr 1 (by decide)]; exact hn) (k := i) h63 (by omega) ?_
        rw [tsv_i hl]
        refine c_isLetter X (T.b i hl).2.1 (fun zl => ?_) (fun zl => ?_)
        · refine And.intro (fun q => absurd q (by decide)) (fun _ => ?_)
          exact ih hl _ _ (fun k hk => by rw [up2_r hk]; exact hfr k hk) (by rw [up2_m (by decide)]; exact h61) (by rw [up2_m (by decide)]; exact h62) (by rw [up2_s, h63]; exact nI_1 i) (by omega) (fun k h1 h2 => by
            by_cases z : k = i
            · rw [z]; exact zl
            · exact hal k h1 (by omega))
        · refine And.intro (fun _ => ?_) (fun q => absurd (by decide) q)
          have ee := tk_w eS hs hls (rnn_at (q := i) (by omega) hi hal (Or.inr zl))
          exact h Iv hfr (KT.mk (by rw [h61, ee.1]; rfl) (by rw [h62, eS]) (by rw [h63, ee.2]) (fun z => by rw [ee.1] at z; cases z))
    exact G
  have G6 : ∀ s, s < n → tS t n p = s → isDg (t s) = true → ∀ i, i ≤ n → ∀ (z1 : Value) (Iv : mI),  (∀ k, k ≠ 6 → Iv k = I k) → Iv 6 1 = 2 → Iv 6 2 = nI s → Iv 6 3 = nI i → s < i → (∀ k, s ≤ k → k < i → isDg (t k) = true) → nrl 999999999 (Iv 6 4) (nvl t s (i - s)) → J n_Tokens_advance 171 [.ref 6, z1] [] Iv A B (pk w f) R := by
    intro s hs eS hls
    have G : ∀ i, i ≤ n → ∀ (z1 : Value) (Iv : mI),  (∀ k, k ≠ 6 → Iv k = I k) → Iv 6 1 = 2 → Iv 6 2 = nI s → Iv 6 3 = nI i → s < i → (∀ k, s ≤ k → k < i → isDg (t k) = true) → nrl 999999999 (Iv 6 4) (nvl t s (i - s)) → J n_Tokens_advance 171 [.ref 6, z1] [] Iv A B (pk w f) R := by
      refine lpz (fun i => ∀ (z1 : Value) (Iv : mI),  (∀ k, k ≠ 6 → Iv k = I k) → Iv 6 1 = 2 → Iv 6 2 = nI s → Iv 6 3 = nI i → s < i → (∀ k, s ≤ k → k < i → isDg (t k) = true) → nrl 999999999 (Iv 6 4) (nvl t s (i - s)) → J n_Tokens_advance 171 [.ref 6, z1] [] Iv A B (pk w f) R) (fun i hi ih => ?_)
      intro z1 Iv hfr h61 h62 h63 hsi hal h64
      refine X 200 _ _ _ _ _ _ _ _ _ ?_
      refine And.intro (fun q1 => ?_) (fun q1 => ?_)
      · rw [h63, hfr 1 (by decide), hn] at q1
        have e := lpx hi (by omega) q1
        subst e
        have ee := tk_d eS hs hls (rnn_at (q := i) (by omega) (Nat.le_refl _) hal (Or.inl rfl))
        exact h Iv hfr (KT.mk (by rw [h61, ee.1]; rfl) (by rw [h62, eS]) (by rw [h63, ee.2]) (fun _ => by unfold tN; rw [eS, ee.2]; exact h64))
      · rw [h63, hfr 1 (by decide), hn] at q1
        have hl := lpc hi (by omega) q1
        refine c_byteAt X T (by rw [hfr 1 (by decide)]; exact hn) (k := i) h63 (by omega) ?_
        rw [tsv_i hl]
        refine c_isDigit X (T.b i hl).2.1 (fun zl => ?_) (fun zl => ?_)
        · refine And.intro (fun q => absurd q (by decide)) (fun _ => ?_)
          refine And.intro (fun q2 => ?_) (fun q2 => ?_)
          · have hd9 := of_decide_eq_true zl
            have yy : ∀ y, Iv 6 4 = nI y → y ≤ 999999999 → 100000000 ≤ y := fun y g1 g2 => by
              have q9 := q2
              rw [g1] at q9
              exact (nI_leI (a := 100000000) (by omega) (by omega)).mp q9
            exact ih hl _ _ (fun k hk => by rw [up2_r hk, up2_r hk]; exact hfr k hk) (by rw [up2_m (by decide), up2_m (by decide)]; exact h61) (by rw [up2_m (by decide), up2_m (by decide)]; exact h62) (by rw [up2_s, up2_m (by decide), h63]; exact nI_1 i) (by omega) (fun k h1 h2 => by
              by_cases z : k = i
              · rw [z]; exact zl
              · exact hal k h1 (by omega)) (by
              rw [nvl_s (by omega), up2_m (by decide), up2_s]
              exact nrl_1 (by omega) h64 (by omega) (fun y1 g1 g2 => ⟨y1, g1, g2, fun z => by have := yy y1 g1 g2; omega, fun z => by have := yy y1 g1 g2; omega⟩))
          · have hd9 := of_decide_eq_true zl
            have yy : ∀ y, Iv 6 4 = nI y → y ≤ 999999999 → y < 100000000 := fun y g1 g2 => by
              have q9 := q2
              rw [g1] at q9
              exact Nat.lt_of_not_le (fun z => q9 (nI_le (a := 100000000) z (by omega)))
            refine c_byteAt X T (by rw [hfr 1 (by decide)]; exact hn) (k := i) h63 (by omega) ?_
            rw [tsv_i hl]
            exact ih hl _ _ (fun k hk => by rw [up2_r hk, up2_r hk]; exact hfr k hk) (by rw [up2_m (by decide), up2_m (by decide)]; exact h61) (by rw [up2_m (by decide), up2_m (by decide)]; exact h62) (by rw [up2_s, up2_m (by decide), h63]; exact nI_1 i) (by omega) (fun k h1 h2 => by
              by_cases z : k = i
              · rw [z]; exact zl
              · exact hal k h1 (by omega)) (by
              rw [nvl_s (by omega), up2_m (by decide), up2_s]
              exact nrl_1 (by omega) h64 (by omega) (fun y1 g1 g2 => ⟨10 * y1 + (t i - 48), by rw [g1]; exact dg48 hd9.1, by have := yy y1 g1 g2; omega, fun _ => rfl, fun z => z⟩))
        · refine And.intro (fun _ => ?_) (fun q => absurd (by decide) q)
          have ee := tk_d eS hs hls (rnn_at (q := i) (by omega) hi hal (Or.inr zl))
          exact h Iv hfr (KT.mk (by rw [h61, ee.1]; rfl) (by rw [h62, eS]) (by rw [h63, ee.2]) (fun _ => by unfold tN; rw [eS, ee.2]; exact h64))
    exact G
  have G5 : ∀ i, i ≤ n → ∀ (Iv : mI),  (∀ k, k ≠ 6 → Iv k = I k) → p ≤ i → Iv 6 2 = nI i → (∀ k, p ≤ k → k < i → isB (t k) = true) → J n_Tokens_advance 8 [.ref 6, .float 0] [] Iv A B (pk w f) R := by
    refine lpz (fun i => ∀ (Iv : mI),  (∀ k, k ≠ 6 → Iv k = I k) → p ≤ i → Iv 6 2 = nI i → (∀ k, p ≤ k → k < i → isB (t k) = true) → J n_Tokens_advance 8 [.ref 6, .float 0] [] Iv A B (pk w f) R) (fun i hi ih => ?_)
    intro Iv hfr hpi h62 hal
    refine X 200 _ _ _ _ _ _ _ _ _ ?_
    refine And.intro (fun q1 => ?_) (fun q1 => ?_)
    · rw [h62, hfr 1 (by decide), hn] at q1
      have e := lpx hi (by omega) q1
      subst e
      have eS : tS t i p = i := rnn_at hpi hi hal (Or.inl rfl)
      refine c_byteAt X T (by rw [hfr 1 (by decide)]; exact hn) (k := i) h62 (by omega) ?_
      rw [tsv_o (Nat.lt_irrefl _)]
      refine And.intro (fun q2 => ?_) (fun q2 => ?_)
      · exact absurd rfl q2 --end
      · have ee := tk_0 eS
        exact h _ (fun k hk => by rw [up2_r hk, up2_r hk, up2_r hk]; exact hfr k hk) (KT.mk (by rw [up2_m (by decide), up2_s, ee.1]; rfl) (by rw [up2_m (by decide), up2_m (by decide), up2_m (by decide), h62, eS]) (by rw [up2_s, up2_m (by decide), up2_m (by decide), h62, ee.2]) (fun z => by rw [ee.1] at z; cases z))
    · rw [h62, hfr 1 (by decide), hn] at q1
      have hl := lpc hi (by omega) q1
      refine c_byteAt X T (by rw [hfr 1 (by decide)]; exact hn) (k := i) h62 (by omega) ?_
      rw [tsv_i hl]
      refine c_isBlank X (T.b i hl).2.1 (fun zb => ?_) (fun zb => ?_)
      · refine And.intro (fun q => absurd q (by decide)) (fun _ => ?_)
        exact ih hl _ (fun k hk => by rw [up2_r hk]; exact hfr k hk) (by omega) (by rw [up2_s, h62]; exact nI_1 i) (fun k h1 h2 => by
          by_cases z : k = i
          · rw [z]; exact zb
          · exact hal k h1 (by omega))
      · have eS : tS t n p = i := rnn_at hpi hi hal (Or.inr zb)
        refine And.intro (fun _ => ?_) (fun q => absurd (by decide) q)
        refine c_byteAt X T (by rw [hfr 1 (by decide)]; exact hn) (k := i) h62 (by omega) ?_
        rw [tsv_i hl]
        refine And.intro (fun q3 => ?_) (fun q3 => ?_)
        · refine c_isLetter X (T.b i hl).2.1 (fun zl => ?_) (fun zl => ?_)
          · refine And.intro (fun q => absurd q (by decide)) (fun _ => ?_)
            exact G7 i hl eS zl (i + 1) (by omega) _ _ (fun k hk => by rw [up2_r hk, up2_r hk]; exact hfr k hk) up2_s (by rw [up2_m (by decide), up2_m (by decide)]; exact h62) (by rw [up2_m (by decide), up2_s, h62]; exact nI_1 i) (by omega) (fun k h1 h2 => by rw [show k = i by omega]; exact zl)
          · refine And.intro (fun _ => ?_) (fun q => absurd (by decide) q)
            refine c_isDigit X (T.b i hl).2.1 (fun zd => ?_) (fun zd => ?_)
            · refine And.intro (fun q => absurd q (by decide)) (fun _ => ?_)
              have hd9 := of_decide_eq_true zd
              exact G6 i hl eS zd (i + 1) (by omega) _ _ (fun k hk => by rw [up2_r hk, up2_r hk, up2_r hk]; exact hfr k hk) (by rw [up2_m (by decide), up2_s]) (by rw [up2_m (by decide), up2_m (by decide), up2_m (by decide)]; exact h62) (by rw [up2_m (by decide), up2_m (by decide), up2_s, h62]; exact nI_1 i) (by omega) (fun k h1 h2 => by rw [show k = i by omega]; exact zd) (by rw [up2_s, nvl_1 zd]; exact ⟨t i - 48, nm48 hd9.1, by omega, Or.inl ⟨rfl, by omega⟩⟩)
            · refine And.intro (fun _ => ?_) (fun q => absurd (by decide) q)
              refine And.intro (fun q4 => ?_) (fun q4 => ?_)
              · have ee := tk_3 eS hl (by rw [zl]; decide) (by rw [zd]; decide)
                rw [if_neg (fun z => q4 (by rw [z]; rfl))] at ee
                exact h _ (fun k hk => by rw [up2_r hk, up2_r hk]; exact hfr k hk) (KT.mk (by rw [up2_s, ee.1]; rfl) (by rw [up2_m (by decide), up2_m (by decide), h62, eS]) (by rw [up2_m (by decide), up2_s, h62, ee.2]; exact nI_1 i) (fun z => by rw [ee.1] at z; cases z))
              · have ee := tk_3 eS hl (by rw [zl]; decide) (by rw [zd]; decide)
                rw [if_pos ((nI_eq (b := 59) (by have := (T.b i hl).2.1; omega) (by omega)).mp q4)] at ee
                exact h _ (fun k hk => by rw [up2_r hk, up2_r hk]; exact hfr k hk) (KT.mk (by rw [up2_s, ee.1]; rfl) (by rw [up2_m (by decide), up2_m (by decide), h62, eS]) (by rw [up2_m (by decide), up2_s, h62, ee.2]; exact nI_1 i) (fun z => by rw [ee.1] at z; cases z))
        · exact absurd q3 (nI_m1 (by have := (T.b i hl).2.1; omega)) --end
  refine X 200 _ _ _ _ _ _ _ _ _ ?_
  exact G5 p hp _ (fun k hk => up2_r hk) (Nat.le_refl _) (by rw [up2_s]; exact h3) (fun k h1 h2 => by omega)
