/-! contracts of the reference: tokens (written by wip/whole/gm15.py) -/
theorem c_Msee {J : mJ} (X : mRules J) {I A : mI} {B : mB} {w f : Nat} {R : mR} {t : Nat → Nat} {n : Nat} (T : TpR 60 A t n) (hn : I 43 28 = nI n) {x : Int32} {k : Nat} (ex : x = nI k) (hk : k < 2000) (h : R (some (.int (tsv t n k))) I A B (pk w f)) : J n_M_see 0 [.ref 43, .int x] [] I A B (pk w f) R := by
  subst ex
  have hn9 := T.n9
  refine X 200 _ _ _ _ _ _ _ _ _ ?_
  refine And.intro (fun q1 => ?_) (fun q1 => ?_)
  · rw [hn] at q1
    have hkn : ¬ k < n := Nat.not_lt.mpr ((nI_leI (by omega) (by omega)).mp q1)
    rw [tsv_o hkn] at h
    exact h
  · rw [hn] at q1
    have hkn : k < n := Nat.lt_of_not_le (fun z => q1 (nI_le z (by omega)))
    refine Exists.intro _ (Exists.intro _ (And.intro rfl (And.intro (Or.inl rfl) (And.intro (vin (by omega) (by omega)) ?_))))
    rw [tsv_i hkn, ← (T.b k hkn).1] at h
    rw [← cl (n := k) (by omega)] at h
    exact h
theorem tsv_in {t : Nat → Nat} {n k lo hi : Nat} (hb : k < n → t k < 256) (h1 : lo < 256) (h2 : hi < 256) : ((nI lo : Int32) ≤ tsv t n k ∧ tsv t n k ≤ nI hi) ↔ (k < n ∧ lo ≤ t k ∧ t k ≤ hi) := by
  by_cases z : k < n
  · rw [tsv_i z, btI (hb z) h1 h2]
    exact ⟨fun y => ⟨z, y⟩, fun y => y.2⟩
  · rw [tsv_o z]
    refine ⟨fun y => ?_, fun y => absurd y.1 z⟩
    have := Int32.le_iff_toInt_le.mp y.1
    rw [nI_toInt (by omega)] at this
    have e : (-1 : Int32).toInt = -1 := by decide
    omega
theorem tsv_eq {t : Nat → Nat} {n k c : Nat} (hb : k < n → t k < 256) (hc : c < 256) : tsv t n k = nI c ↔ (k < n ∧ t k = c) := by
  by_cases z : k < n
  · rw [tsv_i z, nI_eq (by have := hb z; omega) (by omega)]
    exact ⟨fun y => ⟨z, y⟩, fun y => y.2⟩
  · rw [tsv_o z]
    exact ⟨fun y => absurd y.symm (nI_m1 (by omega)), fun y => absurd y.1 z⟩
theorem dgm {y c : Nat} (h1 : y ≤ 9999999) (h : 48 ≤ c) (h2 : c ≤ 57) : ∃ y', (if 10 * nI y + nI c - 48 < (9999999 : Int32) then 10 * nI y + nI c - 48 else 9999999) = nI y' ∧ y' ≤ 9999999 ∧ (10 * y + (c - 48) < 100000 → y' = 10 * y + (c - 48)) ∧ (100000 ≤ 10 * y + (c - 48) → 100000 ≤ y') := by
  have e : (10 : Int32) * nI y + nI c - 48 = nI (10 * y + (c - 48)) := by
    rw [show (10 : Int32) * nI y = nI (10 * y) from pk_mul 10 y, nI_add, show nI (10 * y + c) - 48 = nI (10 * y + c - 48) from pk_sub (b := 48) (by omega)]
    congr 1
    omega
  rw [e]
  by_cases z : 10 * y + (c - 48) < 9999999
  · rw [if_pos (show nI (10 * y + (c - 48)) < (9999999 : Int32) from nI_lt (b := 9999999) z (by omega))]
    exact ⟨_, rfl, by omega, fun _ => rfl, fun q => q⟩
  · rw [if_neg (show ¬ nI (10 * y + (c - 48)) < (9999999 : Int32) from fun q => z ((nI_ltI (b := 9999999) (by omega) (by omega)).mp q))]
    exact ⟨9999999, rfl, by omega, fun q => by omega, fun q => by omega⟩
set_option maxRecDepth 20000 in
theorem c_Madv {J : mJ} (X : mRules J) {I A : mI} {B : mB} {w f : Nat} {R : mR} {t : Nat → Nat} {n : Nat} (T : TpR 60 A t n) (hn : I 43 28 = nI n) {p : Nat} (hp : p ≤ n) (h3 : I 43 29 = nI p) (h : ∀ Iv, (∀ k, k ≠ 43 → Iv k = I k) → (∀ j, j ≠ 29 → j ≠ 30 → j ≠ 31 → j ≠ 32 → Iv 43 j = I 43 j) → MT Iv t n p → R none Iv A B (pk w f)) : J n_M_advance 0 [.ref 43, .float 0] [] I A B (pk w f) R := by
  have hn9 := T.n9
  have G7 : ∀ s, s < n → tS t n p = s → isLt (t s) = true → ∀ i, i ≤ n → ∀ (z1 : Value) (Iv : mI),  (∀ k, k ≠ 43 → Iv k = I k) → (∀ j, j ≠ 29 → j ≠ 30 → j ≠ 31 → j ≠ 32 → Iv 43 j = I 43 j) → Iv 43 30 = nI s → Iv 43 29 = nI i → (∀ k, s ≤ k → k < i → isLt (t k) = true) → s ≤ i → J n_M_advance 83 [.ref 43, z1] [] Iv A B (pk w f) R := by
    intro s hs eS hls
    have G : ∀ i, i ≤ n → ∀ (z1 : Value) (Iv : mI),  (∀ k, k ≠ 43 → Iv k = I k) → (∀ j, j ≠ 29 → j ≠ 30 → j ≠ 31 → j ≠ 32 → Iv 43 j = I 43 j) → Iv 43 30 = nI s → Iv 43 29 = nI i → (∀ k, s ≤ k → k < i → isLt (t k) = true) → s ≤ i → J n_M_advance 83 [.ref 43, z1] [] Iv A B (pk w f) R := by
      refine lpz (fun i => ∀ (z1 : Value) (Iv : mI),  (∀ k, k ≠ 43 → Iv k = I k) → (∀ j, j ≠ 29 → j ≠ 30 → j ≠ 31 → j ≠ 32 → Iv 43 j = I 43 j) → Iv 43 30 = nI s → Iv 43 29 = nI i → (∀ k, s ≤ k → k < i → isLt (t k) = true) → s ≤ i → J n_M_advance 83 [.ref 43, z1] [] Iv A B (pk w f) R) (fun i hi ih => ?_)
      intro z1 Iv hfr hf2 h30 h29 hal hsi
      refine X 200 _ _ _ _ _ _ _ _ _ ?_
      refine c_Msee X T (by rw [hf2 28 (by decide) (by decide) (by decide) (by decide)]; exact hn) (k := i) h29 (by omega) ?_
      refine c_MinB X 97 122 (by decide) (by decide) (fun zl0 => ?_) (fun zl0 => ?_)
      · have zl9 := (tsv_in (lo := 97) (hi := 122) (fun z => (T.b i z).2.1) (by decide) (by decide)).mp zl0
        have hl := zl9.1
        have zl : isLt (t i) = true := decide_eq_true zl9.2
        refine And.intro (fun q => absurd q (by decide)) (fun _ => ?_)
        exact ih hl _ _ (fun k hk => by rw [up2_r hk]; exact hfr k hk) (fun j a1 a2 a3 a4 => by rw [up2_m a1]; exact hf2 j a1 a2 a3 a4) (by rw [up2_m (by decide)]; exact h30) (by rw [up2_s, h29]; exact nI_1 i) (fun k h1 h2 => by
          by_cases z : k = i
          · rw [z]; exact zl
          · exact hal k h1 (by omega)) (by omega)
      · have zl : i < n → isLt (t i) = false := fun z => decide_eq_false (fun y => zl0 ((tsv_in (lo := 97) (hi := 122) (fun z => (T.b i z).2.1) (by decide) (by decide)).mpr ⟨z, y⟩))
        refine And.intro (fun _ => ?_) (fun q => absurd (by decide) q)
        have ee := tk_w eS hs hls (rnn_at (q := i) (by omega) hi hal (by rcases Nat.lt_or_ge i n with z | z; exact Or.inr (zl z); exact Or.inl (by omega)))
        exact h _ (fun k hk => by rw [up2_r hk]; exact hfr k hk) (fun j a1 a2 a3 a4 => by rw [up2_m a3]; exact hf2 j a1 a2 a3 a4) (MT.mk (by rw [up2_s, ee.1]; rfl) (by rw [up2_m (by decide), h30, eS]) (by rw [up2_m (by decide), h29, ee.2]) (fun z => by rw [ee.1] at z; cases z))
    exact G
  have G6 : ∀ s, s < n → tS t n p = s → isDg (t s) = true → ∀ i, i ≤ n → ∀ (z1 : Value) (Iv : mI),  (∀ k, k ≠ 43 → Iv k = I k) → (∀ j, j ≠ 29 → j ≠ 30 → j ≠ 31 → j ≠ 32 → Iv 43 j = I 43 j) → Iv 43 30 = nI s → Iv 43 29 = nI i → (∀ k, s ≤ k → k < i → isDg (t k) = true) → s ≤ i → nrl 9999999 (Iv 43 32) (nvl t s (i - s)) → J n_M_advance 144 [.ref 43, z1] [] Iv A B (pk w f) R := by
    intro s hs eS hls
    have G : ∀ i, i ≤ n → ∀ (z1 : Value) (Iv : mI),  (∀ k, k ≠ 43 → Iv k = I k) → (∀ j, j ≠ 29 → j ≠ 30 → j ≠ 31 → j ≠ 32 → Iv 43 j = I 43 j) → Iv 43 30 = nI s → Iv 43 29 = nI i → (∀ k, s ≤ k → k < i → isDg (t k) = true) → s ≤ i → nrl 9999999 (Iv 43 32) (nvl t s (i - s)) → J n_M_advance 144 [.ref 43, z1] [] Iv A B (pk w f) R := by
      refine lpz (fun i => ∀ (z1 : Value) (Iv : mI),  (∀ k, k ≠ 43 → Iv k = I k) → (∀ j, j ≠ 29 → j ≠ 30 → j ≠ 31 → j ≠ 32 → Iv 43 j = I 43 j) → Iv 43 30 = nI s → Iv 43 29 = nI i → (∀ k, s ≤ k → k < i → isDg (t k) = true) → s ≤ i → nrl 9999999 (Iv 43 32) (nvl t s (i - s)) → J n_M_advance 144 [.ref 43, z1] [] Iv A B (pk w f) R) (fun i hi ih => ?_)
      intro z1 Iv hfr hf2 h30 h29 hal hsi h32
      refine X 200 _ _ _ _ _ _ _ _ _ ?_
      refine c_Msee X T (by rw [hf2 28 (by decide) (by decide) (by decide) (by decide)]; exact hn) (k := i) h29 (by omega) ?_
      refine c_MinB X 48 57 (by decide) (by decide) (fun zl0 => ?_) (fun zl0 => ?_)
      · have zl9 := (tsv_in (lo := 48) (hi := 57) (fun z => (T.b i z).2.1) (by decide) (by decide)).mp zl0
        have hl := zl9.1
        have zl : isDg (t i) = true := decide_eq_true zl9.2
        refine And.intro (fun q => absurd q (by decide)) (fun _ => ?_)
        refine c_Msee X T (by rw [hf2 28 (by decide) (by decide) (by decide) (by decide)]; exact hn) (k := i) h29 (by omega) ?_
        exact ih hl _ _ (fun k hk => by rw [up2_r hk, up2_r hk]; exact hfr k hk) (fun j a1 a2 a3 a4 => by rw [up2_m a1, up2_m a4]; exact hf2 j a1 a2 a3 a4) (by rw [up2_m (by decide), up2_m (by decide)]; exact h30) (by rw [up2_s, up2_m (by decide), h29]; exact nI_1 i) (fun k h1 h2 => by
          by_cases z : k = i
          · rw [z]; exact zl
          · exact hal k h1 (by omega)) (by omega) (by
          have hd9 := of_decide_eq_true zl
          rw [nvl_s (by omega), up2_m (by decide), up2_s, tsv_i hl]
          exact nrl_1 (by omega) h32 (by omega) (fun y1 g1 g2 => by rw [g1]; exact dgm g2 hd9.1 hd9.2))
      · have zl : i < n → isDg (t i) = false := fun z => decide_eq_false (fun y => zl0 ((tsv_in (lo := 48) (hi := 57) (fun z => (T.b i z).2.1) (by decide) (by decide)).mpr ⟨z, y⟩))
        refine And.intro (fun _ => ?_) (fun q => absurd (by decide) q)
        have ee := tk_d eS hs hls (rnn_at (q := i) (by omega) hi hal (by rcases Nat.lt_or_ge i n with z | z; exact Or.inr (zl z); exact Or.inl (by omega)))
        exact h _ (fun k hk => by rw [up2_r hk]; exact hfr k hk) (fun j a1 a2 a3 a4 => by rw [up2_m a3]; exact hf2 j a1 a2 a3 a4) (MT.mk (by rw [up2_s, ee.1]; rfl) (by rw [up2_m (by decide), h30, eS]) (by rw [up2_m (by decide), h29, ee.2]) (fun _ => by unfold tN; rw [eS, ee.2, up2_m (by decide)]; exact h32))
    exact G
  have G5 : ∀ i, i ≤ n → ∀ (Iv : mI),  (∀ k, k ≠ 43 → Iv k = I k) → (∀ j, j ≠ 29 → j ≠ 30 → j ≠ 31 → j ≠ 32 → Iv 43 j = I 43 j) → p ≤ i → Iv 43 29 = nI i → (∀ k, p ≤ k → k < i → isB (t k) = true) → J n_M_advance 0 [.ref 43, .float 0] [] Iv A B (pk w f) R := by
    refine lpz (fun i => ∀ (Iv : mI),  (∀ k, k ≠ 43 → Iv k = I k) → (∀ j, j ≠ 29 → j ≠ 30 → j ≠ 31 → j ≠ 32 → Iv 43 j = I 43 j) → p ≤ i → Iv 43 29 = nI i → (∀ k, p ≤ k → k < i → isB (t k) = true) → J n_M_advance 0 [.ref 43, .float 0] [] Iv A B (pk w f) R) (fun i hi ih => ?_)
    intro Iv hfr hf2 hpi h29 hal
    refine X 200 _ _ _ _ _ _ _ _ _ ?_
    refine c_Msee X T (by rw [hf2 28 (by decide) (by decide) (by decide) (by decide)]; exact hn) (k := i) h29 (by omega) ?_
    refine And.intro (fun q1 => ?_) (fun q1 => ?_)
    · have hb9 := (tsv_eq (c := 32) (fun z => (T.b i z).2.1) (by decide)).mp q1
      have hl := hb9.1
      have zl : isB (t i) = true := decide_eq_true (Or.inl hb9.2)
      exact ih hl _ (fun k hk => by rw [up2_r hk]; exact hfr k hk) (fun j a1 a2 a3 a4 => by rw [up2_m a1]; exact hf2 j a1 a2 a3 a4) (by omega) (by rw [up2_s, h29]; exact nI_1 i) (fun k h1 h2 => by
        by_cases z : k = i
        · rw [z]; exact zl
        · exact hal k h1 (by omega))
    · refine c_Msee X T (by rw [hf2 28 (by decide) (by decide) (by decide) (by decide)]; exact hn) (k := i) h29 (by omega) ?_
      refine And.intro (fun q2 => ?_) (fun q2 => ?_)
      · have nb : i < n → isB (t i) = false := fun z => decide_eq_false (fun y => y.elim (fun e => q1 ((tsv_eq (c := 32) (fun z => (T.b i z).2.1) (by decide)).mpr ⟨z, e⟩)) (fun e => q2 ((tsv_eq (c := 10) (fun z => (T.b i z).2.1) (by decide)).mpr ⟨z, e⟩)))
        have eS : tS t n p = i := rnn_at hpi hi hal (by rcases Nat.lt_or_ge i n with z | z; exact Or.inr (nb z); exact Or.inl (by omega))
        refine c_Msee X T (by rw [up2_m (by decide), hf2 28 (by decide) (by decide) (by decide) (by decide)]; exact hn) (k := i) (by rw [up2_m (by decide)]; exact h29) (by omega) ?_
        refine And.intro (fun q3 => ?_) (fun q3 => ?_)
        · have hl : i < n := by
            rcases Nat.lt_or_ge i n with z | z
            · exact z
            · exact absurd (tsv_o (by omega)) q3
          refine c_MinB X 97 122 (by decide) (by decide) (fun zl0 => ?_) (fun zl0 => ?_)
          · have zl9 := (tsv_in (lo := 97) (hi := 122) (fun z => (T.b i z).2.1) (by decide) (by decide)).mp zl0
            have hl := zl9.1
            have zl : isLt (t i) = true := decide_eq_true zl9.2
            refine And.intro (fun q => absurd q (by decide)) (fun _ => ?_)
            exact G7 i hl eS zl i hi _ _ (fun k hk => by rw [up2_r hk]; exact hfr k hk) (fun j a1 a2 a3 a4 => by rw [up2_m a2]; exact hf2 j a1 a2 a3 a4) (by rw [up2_s]; exact h29) (by rw [up2_m (by decide)]; exact h29) (fun k h1 h2 => by omega) (Nat.le_refl _)
          · have zl : i < n → isLt (t i) = false := fun z => decide_eq_false (fun y => zl0 ((tsv_in (lo := 97) (hi := 122) (fun z => (T.b i z).2.1) (by decide) (by decide)).mpr ⟨z, y⟩))
            refine And.intro (fun _ => ?_) (fun q => absurd (by decide) q)
            refine c_MinB X 48 57 (by decide) (by decide) (fun zd0 => ?_) (fun zd0 => ?_)
            · have zd9 := (tsv_in (lo := 48) (hi := 57) (fun z => (T.b i z).2.1) (by decide) (by decide)).mp zd0
              have hl := zd9.1
              have zd : isDg (t i) = true := decide_eq_true zd9.2
              refine And.intro (fun q => absurd q (by decide)) (fun _ => ?_)
              exact G6 i hl eS zd i hi _ _ (fun k hk => by rw [up2_r hk, up2_r hk]; exact hfr k hk) (fun j a1 a2 a3 a4 => by rw [up2_m a4, up2_m a2]; exact hf2 j a1 a2 a3 a4) (by rw [up2_m (by decide), up2_s]; exact h29) (by rw [up2_m (by decide), up2_m (by decide)]; exact h29) (fun k h1 h2 => by omega) (Nat.le_refl _) (by rw [up2_s, Nat.sub_self]; exact ⟨0, rfl, by omega, Or.inl ⟨rfl, by show 0 < 100000; decide⟩⟩)
            · have zd : i < n → isDg (t i) = false := fun z => decide_eq_false (fun y => zd0 ((tsv_in (lo := 48) (hi := 57) (fun z => (T.b i z).2.1) (by decide) (by decide)).mpr ⟨z, y⟩))
              refine And.intro (fun _ => ?_) (fun q => absurd (by decide) q)
              refine And.intro (fun q4 => ?_) (fun q4 => ?_)
              · have ee := tk_3 eS hl (by rw [zl hl]; decide) (by rw [zd hl]; decide)
                rw [if_neg (fun z => q4 ((tsv_eq (c := 59) (fun z => (T.b i z).2.1) (by decide)).mpr ⟨hl, z⟩))] at ee
                exact h _ (fun k hk => by rw [up2_r hk, up2_r hk, up2_r hk]; exact hfr k hk) (fun j a1 a2 a3 a4 => by rw [up2_m a1, up2_m a3, up2_m a2]; exact hf2 j a1 a2 a3 a4) (MT.mk (by rw [up2_m (by decide), up2_s, ee.1]; rfl) (by rw [up2_m (by decide), up2_m (by decide), up2_s, h29, eS]) (by rw [up2_s, up2_m (by decide), up2_m (by decide), h29, ee.2]; exact nI_1 i) (fun z => by rw [ee.1] at z; cases z))
              · have ee := tk_3 eS hl (by rw [zl hl]; decide) (by rw [zd hl]; decide)
                rw [if_pos ((tsv_eq (c := 59) (fun z => (T.b i z).2.1) (by decide)).mp q4).2] at ee
                exact h _ (fun k hk => by rw [up2_r hk, up2_r hk, up2_r hk]; exact hfr k hk) (fun j a1 a2 a3 a4 => by rw [up2_m a1, up2_m a3, up2_m a2]; exact hf2 j a1 a2 a3 a4) (MT.mk (by rw [up2_m (by decide), up2_s, ee.1]; rfl) (by rw [up2_m (by decide), up2_m (by decide), up2_s, h29, eS]) (by rw [up2_s, up2_m (by decide), up2_m (by decide), h29, ee.2]; exact nI_1 i) (fun z => by rw [ee.1] at z; cases z))
        · have ei : i = n := by
            rcases Nat.lt_or_ge i n with z | z
            · exact absurd ((tsv_i z).symm.trans q3) (nI_m1 (by have := (T.b i z).2.1; omega))
            · omega
          have ee := tk_0 (eS.trans ei)
          exact h _ (fun k hk => by rw [up2_r hk, up2_r hk]; exact hfr k hk) (fun j a1 a2 a3 a4 => by rw [up2_m a3, up2_m a2]; exact hf2 j a1 a2 a3 a4) (MT.mk (by rw [up2_s, ee.1]; rfl) (by rw [up2_m (by decide), up2_s, h29, eS]) (by rw [up2_m (by decide), up2_m (by decide), h29, ee.2, ei]) (fun z => by rw [ee.1] at z; cases z))
      · have hb9 := (tsv_eq (c := 10) (fun z => (T.b i z).2.1) (by decide)).mp q2
        have hl := hb9.1
        have zl : isB (t i) = true := decide_eq_true (Or.inr hb9.2)
        exact ih hl _ (fun k hk => by rw [up2_r hk]; exact hfr k hk) (fun j a1 a2 a3 a4 => by rw [up2_m a1]; exact hf2 j a1 a2 a3 a4) (by omega) (by rw [up2_s, h29]; exact nI_1 i) (fun k h1 h2 => by
          by_cases z : k = i
          · rw [z]; exact zl
          · exact hal k h1 (by omega))
  exact G5 p hp _ (fun _ _ => rfl) (fun _ _ _ _ _ => rfl) (Nat.le_refl _) h3 (fun k h1 h2 => by omega)
