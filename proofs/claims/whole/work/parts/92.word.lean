/-! contracts of both: words (written by wip/whole/gk16.py) -/
theorem tw_l {t : Nat → Nat} {n p : Nat} (hp : p ≤ n) (h : tK t n p = 1) : ∀ k, tS t n p ≤ k → k < tE t n p → isLt (t k) = true := by
  have hs := tS_b (t := t) hp
  unfold tK at h
  unfold tKs at h
  unfold tE tEs
  by_cases z : n ≤ tS t n p
  · rw [if_pos z] at h; cases h
  · rw [if_neg z] at h
    rw [if_neg z]
    by_cases y : isLt (t (tS t n p)) = true
    · rw [if_pos y]
      exact (rnn_b hs.2).2.2.1
    · rw [if_neg y] at h
      by_cases x : isDg (t (tS t n p)) = true
      · rw [if_pos x] at h; cases h
      · rw [if_neg x] at h
        by_cases v : t (tS t n p) = 59
        · rw [if_pos v] at h; cases h
        · rw [if_neg v] at h; cases h
theorem c_Mgood {J : mJ} (X : mRules J) {I A : mI} {B : mB} {w f : Nat} {R : mR} (h1 : I 43 33 = 0 → R (some (.int 1)) I A B (pk w f)) (h0 : ¬ I 43 33 = 0 → R (some (.int 0)) I A B (pk w f)) : J n_M_good 0 [.ref 43] [] I A B (pk w f) R := by
  refine X 200 _ _ _ _ _ _ _ _ _ ?_
  refine And.intro (fun q1 => ?_) (fun q1 => ?_)
  · refine And.intro (Or.inl rfl) ?_
    first | exact h1 q1 | exact h0 q1
  · refine And.intro (Or.inr rfl) ?_
    first | exact h1 q1 | exact h0 q1
theorem tx_0 : ∀ i, i < 4 → (tx 0).getD i 0 &&& 255 = (tx 0).getD i 0 := by decide +kernel
set_option maxRecDepth 20000 in
theorem c_isWord0 {J : mJ} (X : mRules J) {I A : mI} {B : mB} {w f : Nat} {R : mR} {t : Nat → Nat} {n : Nat} (T : TpR 2 A t n) (hn : I 1 1 = nI n) {p : Nat} (hp : p ≤ n) (K : KT I t n p) (h1 : tW t n p 0 = true → R (some (.int 1)) I A B (pk w f)) (h0 : tW t n p 0 = false → R (some (.int 0)) I A B (pk w f)) : J n_Tokens_isWord 0 [.ref 6, .retAddr 1, .float 0] [] I A B (pk w f) R := by
  have hn9 := T.n9
  have hE := tE_b (t := t) hp
  have G : tK t n p = 1 → tE t n p - tS t n p = 4 → ∀ i, i ≤ 4 → ∀ (x : Int32), x = nI i → (∀ j, j < i → nI (t (tS t n p + j)) = (tx 0).getD j 0) → J n_Tokens_isWord 28 [.ref 6, .retAddr 1, .int x] [] I A B (pk w f) R := by
    intro c1 c2
    have G9 : ∀ i, i ≤ 4 → ∀ (x : Int32), x = nI i → (∀ j, j < i → nI (t (tS t n p + j)) = (tx 0).getD j 0) → J n_Tokens_isWord 28 [.ref 6, .retAddr 1, .int x] [] I A B (pk w f) R := by
      refine lpz (fun i => ∀ (x : Int32), x = nI i → (∀ j, j < i → nI (t (tS t n p + j)) = (tx 0).getD j 0) → J n_Tokens_isWord 28 [.ref 6, .retAddr 1, .int x] [] I A B (pk w f) R) (fun i hi ih => ?_)
      intro x ex hw
      subst ex
      refine X 200 _ _ _ _ _ _ _ _ _ ?_
      refine And.intro (fun q => absurd q (by decide)) (fun _ => ?_)
      refine And.intro (by first | (rw [sc_c2]; exact sc_nar _) | rfl) ?_
      refine And.intro (fun q1 => ?_) (fun q1 => ?_)
      · have e : i = 4 := lpx (n := 4) hi (by omega) q1
        subst e
        refine And.intro (Or.inr rfl) ?_
        exact h1 (tW_t (k := 0) c1 c2 hw)
      · have hl : i < 4 := lpc (n := 4) hi (by omega) q1
        refine c_byteAt X T hn (k := tS t n p + i) (by rw [K.s, nI_add]) (by omega) ?_
        rw [tsv_i (by omega)]
        refine And.intro (fun q => absurd q (by decide)) (fun _ => ?_)
        refine And.intro (fun q => absurd (by decide) q) (fun _ => ?_)
        refine And.intro (Or.inr rfl) ?_
        refine And.intro (fun q => absurd q (by decide)) (fun _ => ?_)
        refine And.intro (fun q2 => ?_) (fun q2 => ?_)
        · exact absurd q2 (nI_pos (by omega)) --end
        · refine And.intro (fun q3 => ?_) (fun q3 => ?_)
          · refine And.intro (vin (N := 4) hl (by omega)) ?_
            refine And.intro (by first | (rw [sc_c2]; exact sc_nar _) | rfl) ?_
            refine And.intro (by first | (rw [sc_c2]; exact sc_nar _) | rfl) ?_
            refine And.intro (fun q4 => ?_) (fun q4 => ?_)
            · have q9 : nI (t (tS t n p + i)) = ((((tx 0).getD (nI i).toNatClampNeg 0 &&& 255).toUInt32 % 65536).toInt32) := q4
              rw [sc_c2, cl (by omega), tx_0 i hl] at q9
              exact ih hl _ (nI_1 i) (fun j hj => by
                by_cases z : j = i
                · rw [z]; exact q9
                · exact hw j (by omega))
            · have q9 : ¬ nI (t (tS t n p + i)) = ((((tx 0).getD (nI i).toNatClampNeg 0 &&& 255).toUInt32 % 65536).toInt32) := q4
              rw [sc_c2, cl (by omega), tx_0 i hl] at q9
              refine And.intro (Or.inl rfl) ?_
              exact h0 (tW_f2 (k := 0) hl q9)
          · exact absurd (show nI i < nI 4 from nI_lt hl (by omega)) q3 --end
    exact G9
  refine X 200 _ _ _ _ _ _ _ _ _ ?_
  refine And.intro (fun q1 => ?_) (fun q1 => ?_)
  · have cf : ¬ (tK t n p = 1 ∧ tE t n p - tS t n p = 4) := fun z => q1 (by rw [K.k, z.1]; rfl)
    refine And.intro (Or.inl rfl) ?_
    exact h0 (tW_f1 (k := 0) cf)
  · rw [K.k] at q1
    have c1 : tK t n p = 1 := (nI_eq (b := 1) (by have := tK_4 (t := t) (n := n) (p := p); omega) (by omega)).mp q1
    refine And.intro (fun q => absurd q (by decide)) (fun _ => ?_)
    refine And.intro (by first | (rw [sc_c2]; exact sc_nar _) | rfl) ?_
    refine And.intro (fun q2 => ?_) (fun q2 => ?_)
    · have q9 : I 6 3 - I 6 2 = nI 4 := q2
      rw [K.e, K.s, pk_sub (by omega)] at q9
      have c2 : tE t n p - tS t n p = 4 := (nI_eq (by omega) (by omega)).mp q9
      exact G c1 c2 0 (Nat.zero_le _) _ rfl (fun j hj => absurd hj (Nat.not_lt_zero j))
    · have cf : ¬ (tK t n p = 1 ∧ tE t n p - tS t n p = 4) := fun z => by
        have q9 : ¬ I 6 3 - I 6 2 = nI 4 := q2
        rw [K.e, K.s, pk_sub (by omega), z.2] at q9
        exact q9 rfl
      refine And.intro (Or.inl rfl) ?_
      exact h0 (tW_f1 (k := 0) cf)
set_option maxRecDepth 20000 in
theorem c_Mis0 {J : mJ} (X : mRules J) {I A : mI} {B : mB} {w f : Nat} {R : mR} {t : Nat → Nat} {n : Nat} (T : TpR 60 A t n) {p : Nat} (hp : p ≤ n) (hg : I 43 33 = 0) (K : MT I t n p) (h1 : tW t n p 0 = true → R (some (.int 1)) I A B (pk w f)) (h0 : tW t n p 0 = false → R (some (.int 0)) I A B (pk w f)) : J n_M_is 0 [.ref 43, .retAddr 1, .float 0, .float 0] [] I A B (pk w f) R := by
  have hn9 := T.n9
  have hE := tE_b (t := t) hp
  have G0 : tW t n p 0 = false → ∀ x : Int32, J n_M_is 39 [.ref 43, .retAddr 1, .int 0, .int x] [] I A B (pk w f) R := by
    intro zf x
    refine X 200 _ _ _ _ _ _ _ _ _ ?_
    refine And.intro (fun q => absurd q (by decide)) (fun _ => ?_)
    refine And.intro rfl ?_
    refine And.intro (fun q1 => ?_) (fun q1 => ?_)
    · refine And.intro (Or.inl rfl) ?_
      exact h0 zf
    · refine And.intro (fun _ => ?_) (fun q => absurd (by decide) q)
      refine And.intro (Or.inl rfl) ?_
      exact h0 zf
  have G : tK t n p = 1 → tE t n p - tS t n p = 4 → ∀ i, i ≤ 4 → ∀ (x : Int32), x = nI i → (∀ j, j < i → nI (t (tS t n p + j)) = (tx 0).getD j 0) → J n_M_is 39 [.ref 43, .retAddr 1, .int 1, .int x] [] I A B (pk w f) R := by
    intro c1 c2
    have G9 : ∀ i, i ≤ 4 → ∀ (x : Int32), x = nI i → (∀ j, j < i → nI (t (tS t n p + j)) = (tx 0).getD j 0) → J n_M_is 39 [.ref 43, .retAddr 1, .int 1, .int x] [] I A B (pk w f) R := by
      refine lpz (fun i => ∀ (x : Int32), x = nI i → (∀ j, j < i → nI (t (tS t n p + j)) = (tx 0).getD j 0) → J n_M_is 39 [.ref 43, .retAddr 1, .int 1, .int x] [] I A B (pk w f) R) (fun i hi ih => ?_)
      intro x ex hw
      subst ex
      refine X 200 _ _ _ _ _ _ _ _ _ ?_
      refine And.intro (fun q => absurd q (by decide)) (fun _ => ?_)
      refine And.intro (by first | (rw [sc_c2]; exact sc_nar _) | rfl) ?_
      refine And.intro (fun q1 => ?_) (fun q1 => ?_)
      · have e : i = 4 := lpx (n := 4) hi (by omega) q1
        subst e
        refine And.intro (Or.inr rfl) ?_
        exact h1 (tW_t (k := 0) c1 c2 hw)
      · have hl : i < 4 := lpc (n := 4) hi (by omega) q1
        have eix : I 43 30 + nI i = nI (tS t n p + i) := by rw [K.s, nI_add]
        have cix : (I 43 30 + nI i).toNatClampNeg = tS t n p + i := by rw [eix]; exact cl (by omega)
        have hlt := of_decide_eq_true (tw_l hp c1 (tS t n p + i) (by omega) (by omega))
        have hbt := T.b (tS t n p + i) (by omega)
        have ebt := byt_eq hbt.2.2 hbt.1 (by omega)
        refine And.intro (fun q => absurd q (by decide)) (fun _ => ?_)
        refine Exists.intro _ (Exists.intro _ (And.intro rfl (And.intro (Or.inl rfl) (And.intro (by first | (rw [eix]; exact vin (by omega) (by omega)) | exact (vin (N := 4) hl (by omega))) ?_))))
        refine And.intro (fun q => absurd q (by decide)) (fun _ => ?_)
        refine And.intro (fun q => absurd (by decide) q) (fun _ => ?_)
        refine And.intro (Or.inr rfl) ?_
        refine And.intro (fun q => absurd q (by decide)) (fun _ => ?_)
        refine And.intro (fun q2 => ?_) (fun q2 => ?_)
        · exact absurd q2 (nI_pos (by omega)) --end
        · refine And.intro (fun q3 => ?_) (fun q3 => ?_)
          · refine And.intro (by first | (rw [eix]; exact vin (by omega) (by omega)) | exact (vin (N := 4) hl (by omega))) ?_
            refine And.intro (by first | (rw [sc_c2]; exact sc_nar _) | rfl) ?_
            refine And.intro (by first | (rw [sc_c2]; exact sc_nar _) | rfl) ?_
            refine And.intro (fun q4 => ?_) (fun q4 => ?_)
            · have q8 : ¬ A 60 (I 43 30 + nI i).toNatClampNeg = ((((tx 0).getD (nI i).toNatClampNeg 0 &&& 255).toUInt32 % 65536).toInt32) := q4
              rw [sc_c2, cl (n := i) (by omega), tx_0 i hl, cix, ebt] at q8
              exact G0 (tW_f2 (k := 0) hl q8) _
            · have q8 : A 60 (I 43 30 + nI i).toNatClampNeg = ((((tx 0).getD (nI i).toNatClampNeg 0 &&& 255).toUInt32 % 65536).toInt32) := q4
              rw [sc_c2, cl (n := i) (by omega), tx_0 i hl, cix, ebt] at q8
              exact ih hl _ (nI_1 i) (fun j hj => by
                by_cases z : j = i
                · rw [z]; exact q8
                · exact hw j (by omega))
          · exact absurd (show nI i < nI 4 from nI_lt hl (by omega)) q3 --end
    exact G9
  refine X 200 _ _ _ _ _ _ _ _ _ ?_
  refine c_Mgood X (fun _ => ?_) (fun z => absurd hg z)
  refine And.intro (fun q => absurd q (by decide)) (fun _ => ?_)
  refine And.intro (fun q1 => ?_) (fun q1 => ?_)
  · have cf : ¬ (tK t n p = 1 ∧ tE t n p - tS t n p = 4) := fun z => q1 (by rw [K.k, z.1]; rfl)
    exact G0 (tW_f1 (k := 0) cf) _
  · rw [K.k] at q1
    have c1 : tK t n p = 1 := (nI_eq (b := 1) (by have := tK_4 (t := t) (n := n) (p := p); omega) (by omega)).mp q1
    refine And.intro (fun q => absurd q (by decide)) (fun _ => ?_)
    refine And.intro (by first | (rw [sc_c2]; exact sc_nar _) | rfl) ?_
    refine And.intro (fun q2 => ?_) (fun q2 => ?_)
    · have cf : ¬ (tK t n p = 1 ∧ tE t n p - tS t n p = 4) := fun z => by
        have q9 : ¬ I 43 29 - I 43 30 = nI 4 := q2
        rw [K.e, K.s, pk_sub (by omega), z.2] at q9
        exact q9 rfl
      exact G0 (tW_f1 (k := 0) cf) _
    · have q9 : I 43 29 - I 43 30 = nI 4 := q2
      rw [K.e, K.s, pk_sub (by omega)] at q9
      have c2 : tE t n p - tS t n p = 4 := (nI_eq (by omega) (by omega)).mp q9
      exact G c1 c2 0 (Nat.zero_le _) _ rfl (fun j hj => absurd hj (Nat.not_lt_zero j))
theorem tx_1 : ∀ i, i < 4 → (tx 1).getD i 0 &&& 255 = (tx 1).getD i 0 := by decide +kernel
set_option maxRecDepth 20000 in
theorem c_isWord1 {J : mJ} (X : mRules J) {I A : mI} {B : mB} {w f : Nat} {R : mR} {t : Nat → Nat} {n : Nat} (T : TpR 2 A t n) (hn : I 1 1 = nI n) {p : Nat} (hp : p ≤ n) (K : KT I t n p) (h1 : tW t n p 1 = true → R (some (.int 1)) I A B (pk w f)) (h0 : tW t n p 1 = false → R (some (.int 0)) I A B (pk w f)) : J n_Tokens_isWord 0 [.ref 6, .retAddr 2, .float 0] [] I A B (pk w f) R := by
  have hn9 := T.n9
  have hE := tE_b (t := t) hp
  have G : tK t n p = 1 → tE t n p - tS t n p = 4 → ∀ i, i ≤ 4 → ∀ (x : Int32), x = nI i → (∀ j, j < i → nI (t (tS t n p + j)) = (tx 1).getD j 0) → J n_Tokens_isWord 28 [.ref 6, .retAddr 2, .int x] [] I A B (pk w f) R := by
    intro c1 c2
    have G9 : ∀ i, i ≤ 4 → ∀ (x : Int32), x = nI i → (∀ j, j < i → nI (t (tS t n p + j)) = (tx 1).getD j 0) → J n_Tokens_isWord 28 [.ref 6, .retAddr 2, .int x] [] I A B (pk w f) R := by
      refine lpz (fun i => ∀ (x : Int32), x = nI i → (∀ j, j < i → nI (t (tS t n p + j)) = (tx 1).getD j 0) → J n_Tokens_isWord 28 [.ref 6, .retAddr 2, .int x] [] I A B (pk w f) R) (fun i hi ih => ?_)
      intro x ex hw
      subst ex
      refine X 200 _ _ _ _ _ _ _ _ _ ?_
      refine And.intro (fun q => absurd q (by decide)) (fun _ => ?_)
      refine And.intro (by first | (rw [sc_c2]; exact sc_nar _) | rfl) ?_
      refine And.intro (fun q1 => ?_) (fun q1 => ?_)
      · have e : i = 4 := lpx (n := 4) hi (by omega) q1
        subst e
        refine And.intro (Or.inr rfl) ?_
        exact h1 (tW_t (k := 1) c1 c2 hw)
      · have hl : i < 4 := lpc (n := 4) hi (by omega) q1
        refine c_byteAt X T hn (k := tS t n p + i) (by rw [K.s, nI_add]) (by omega) ?_
        rw [tsv_i (by omega)]
        refine And.intro (fun q => absurd q (by decide)) (fun _ => ?_)
        refine And.intro (fun q => absurd (by decide) q) (fun _ => ?_)
        refine And.intro (Or.inr rfl) ?_
        refine And.intro (fun q => absurd q (by decide)) (fun _ => ?_)
        refine And.intro (fun q2 => ?_) (fun q2 => ?_)
        · exact absurd q2 (nI_pos (by omega)) --end
        · refine And.intro (fun q3 => ?_) (fun q3 => ?_)
          · refine And.intro (vin (N := 4) hl (by omega)) ?_
            refine And.intro (by first | (rw [sc_c2]; exact sc_nar _) | rfl) ?_
            refine And.intro (by first | (rw [sc_c2]; exact sc_nar _) | rfl) ?_
            refine And.intro (fun q4 => ?_) (fun q4 => ?_)
            · have q9 : nI (t (tS t n p + i)) = ((((tx 1).getD (nI i).toNatClampNeg 0 &&& 255).toUInt32 % 65536).toInt32) := q4
              rw [sc_c2, cl (by omega), tx_1 i hl] at q9
              exact ih hl _ (nI_1 i) (fun j hj => by
                by_cases z : j = i
                · rw [z]; exact q9
                · exact hw j (by omega))
            · have q9 : ¬ nI (t (tS t n p + i)) = ((((tx 1).getD (nI i).toNatClampNeg 0 &&& 255).toUInt32 % 65536).toInt32) := q4
              rw [sc_c2, cl (by omega), tx_1 i hl] at q9
              refine And.intro (Or.inl rfl) ?_
              exact h0 (tW_f2 (k := 1) hl q9)
          · exact absurd (show nI i < nI 4 from nI_lt hl (by omega)) q3 --end
    exact G9
  refine X 200 _ _ _ _ _ _ _ _ _ ?_
  refine And.intro (fun q1 => ?_) (fun q1 => ?_)
  · have cf : ¬ (tK t n p = 1 ∧ tE t n p - tS t n p = 4) := fun z => q1 (by rw [K.k, z.1]; rfl)
    refine And.intro (Or.inl rfl) ?_
    exact h0 (tW_f1 (k := 1) cf)
  · rw [K.k] at q1
    have c1 : tK t n p = 1 := (nI_eq (b := 1) (by have := tK_4 (t := t) (n := n) (p := p); omega) (by omega)).mp q1
    refine And.intro (fun q => absurd q (by decide)) (fun _ => ?_)
    refine And.intro (by first | (rw [sc_c2]; exact sc_nar _) | rfl) ?_
    refine And.intro (fun q2 => ?_) (fun q2 => ?_)
    · have q9 : I 6 3 - I 6 2 = nI 4 := q2
      rw [K.e, K.s, pk_sub (by omega)] at q9
      have c2 : tE t n p - tS t n p = 4 := (nI_eq (by omega) (by omega)).mp q9
      exact G c1 c2 0 (Nat.zero_le _) _ rfl (fun j hj => absurd hj (Nat.not_lt_zero j))
    · have cf : ¬ (tK t n p = 1 ∧ tE t n p - tS t n p = 4) := fun z => by
        have q9 : ¬ I 6 3 - I 6 2 = nI 4 := q2
        rw [K.e, K.s, pk_sub (by omega), z.2] at q9
        exact q9 rfl
      refine And.intro (Or.inl rfl) ?_
      exact h0 (tW_f1 (k := 1) cf)
set_option maxRecDepth 20000 in
theorem c_Mis1 {J : mJ} (X : mRules J) {I A : mI} {B : mB} {w f : Nat} {R : mR} {t : Nat → Nat} {n : Nat} (T : TpR 60 A t n) {p : Nat} (hp : p ≤ n) (hg : I 43 33 = 0) (K : MT I t n p) (h1 : tW t n p 1 = true → R (some (.int 1)) I A B (pk w f)) (h0 : tW t n p 1 = false → R (some (.int 0)) I A B (pk w f)) : J n_M_is 0 [.ref 43, .retAddr 2, .float 0, .float 0] [] I A B (pk w f) R := by
  have hn9 := T.n9
  have hE := tE_b (t := t) hp
  have G0 : tW t n p 1 = false → ∀ x : Int32, J n_M_is 39 [.ref 43, .retAddr 2, .int 0, .int x] [] I A B (pk w f) R := by
    intro zf x
    refine X 200 _ _ _ _ _ _ _ _ _ ?_
    refine And.intro (fun q => absurd q (by decide)) (fun _ => ?_)
    refine And.intro rfl ?_
    refine And.intro (fun q1 => ?_) (fun q1 => ?_)
    · refine And.intro (Or.inl rfl) ?_
      exact h0 zf
    · refine And.intro (fun _ => ?_) (fun q => absurd (by decide) q)
      refine And.intro (Or.inl rfl) ?_
      exact h0 zf
  have G : tK t n p = 1 → tE t n p - tS t n p = 4 → ∀ i, i ≤ 4 → ∀ (x : Int32), x = nI i → (∀ j, j < i → nI (t (tS t n p + j)) = (tx 1).getD j 0) → J n_M_is 39 [.ref 43, .retAddr 2, .int 1, .int x] [] I A B (pk w f) R := by
    intro c1 c2
    have G9 : ∀ i, i ≤ 4 → ∀ (x : Int32), x = nI i → (∀ j, j < i → nI (t (tS t n p + j)) = (tx 1).getD j 0) → J n_M_is 39 [.ref 43, .retAddr 2, .int 1, .int x] [] I A B (pk w f) R := by
      refine lpz (fun i => ∀ (x : Int32), x = nI i → (∀ j, j < i → nI (t (tS t n p + j)) = (tx 1).getD j 0) → J n_M_is 39 [.ref 43, .retAddr 2, .int 1, .int x] [] I A B (pk w f) R) (fun i hi ih => ?_)
      intro x ex hw
      subst ex
      refine X 200 _ _ _ _ _ _ _ _ _ ?_
      refine And.intro (fun q => absurd q (by decide)) (fun _ => ?_)
      refine And.intro (by first | (rw [sc_c2]; exact sc_nar _) | rfl) ?_
      refine And.intro (fun q1 => ?_) (fun q1 => ?_)
      · have e : i = 4 := lpx (n := 4) hi (by omega) q1
        subst e
        refine And.intro (Or.inr rfl) ?_
        exact h1 (tW_t (k := 1) c1 c2 hw)
      · have hl : i < 4 := lpc (n := 4) hi (by omega) q1
        have eix : I 43 30 + nI i = nI (tS t n p + i) := by rw [K.s, nI_add]
        have cix : (I 43 30 + nI i).toNatClampNeg = tS t n p + i := by rw [eix]; exact cl (by omega)
        have hlt := of_decide_eq_true (tw_l hp c1 (tS t n p + i) (by omega) (by omega))
        have hbt := T.b (tS t n p + i) (by omega)
        have ebt := byt_eq hbt.2.2 hbt.1 (by omega)
        refine And.intro (fun q => absurd q (by decide)) (fun _ => ?_)
        refine Exists.intro _ (Exists.intro _ (And.intro rfl (And.intro (Or.inl rfl) (And.intro (by first | (rw [eix]; exact vin (by omega) (by omega)) | exact (vin (N := 4) hl (by omega))) ?_))))
        refine And.intro (fun q => absurd q (by decide)) (fun _ => ?_)
        refine And.intro (fun q => absurd (by decide) q) (fun _ => ?_)
        refine And.intro (Or.inr rfl) ?_
        refine And.intro (fun q => absurd q (by decide)) (fun _ => ?_)
        refine And.intro (fun q2 => ?_) (fun q2 => ?_)
        · exact absurd q2 (nI_pos (by omega)) --end
        · refine And.intro (fun q3 => ?_) (fun q3 => ?_)
          · refine And.intro (by first | (rw [eix]; exact vin (by omega) (by omega)) | exact (vin (N := 4) hl (by omega))) ?_
            refine And.intro (by first | (rw [sc_c2]; exact sc_nar _) | rfl) ?_
            refine And.intro (by first | (rw [sc_c2]; exact sc_nar _) | rfl) ?_
            refine And.intro (fun q4 => ?_) (fun q4 => ?_)
            · have q8 : ¬ A 60 (I 43 30 + nI i).toNatClampNeg = ((((tx 1).getD (nI i).toNatClampNeg 0 &&& 255).toUInt32 % 65536).toInt32) := q4
              rw [sc_c2, cl (n := i) (by omega), tx_1 i hl, cix, ebt] at q8
              exact G0 (tW_f2 (k := 1) hl q8) _
            · have q8 : A 60 (I 43 30 + nI i).toNatClampNeg = ((((tx 1).getD (nI i).toNatClampNeg 0 &&& 255).toUInt32 % 65536).toInt32) := q4
              rw [sc_c2, cl (n := i) (by omega), tx_1 i hl, cix, ebt] at q8
              exact ih hl _ (nI_1 i) (fun j hj => by
                by_cases z : j = i
                · rw [z]; exact q8
                · exact hw j (by omega))
          · exact absurd (show nI i < nI 4 from nI_lt hl (by omega)) q3 --end
    exact G9
  refine X 200 _ _ _ _ _ _ _ _ _ ?_
  refine c_Mgood X (fun _ => ?_) (fun z => absurd hg z)
  refine And.intro (fun q => absurd q (by decide)) (fun _ => ?_)
  refine And.intro (fun q1 => ?_) (fun q1 => ?_)
  · have cf : ¬ (tK t n p = 1 ∧ tE t n p - tS t n p = 4) := fun z => q1 (by rw [K.k, z.1]; rfl)
    exact G0 (tW_f1 (k := 1) cf) _
  · rw [K.k] at q1
    have c1 : tK t n p = 1 := (nI_eq (b := 1) (by have := tK_4 (t := t) (n := n) (p := p); omega) (by omega)).mp q1
    refine And.intro (fun q => absurd q (by decide)) (fun _ => ?_)
    refine And.intro (by first | (rw [sc_c2]; exact sc_nar _) | rfl) ?_
    refine And.intro (fun q2 => ?_) (fun q2 => ?_)
    · have cf : ¬ (tK t n p = 1 ∧ tE t n p - tS t n p = 4) := fun z => by
        have q9 : ¬ I 43 29 - I 43 30 = nI 4 := q2
        rw [K.e, K.s, pk_sub (by omega), z.2] at q9
        exact q9 rfl
      exact G0 (tW_f1 (k := 1) cf) _
    · have q9 : I 43 29 - I 43 30 = nI 4 := q2
      rw [K.e, K.s, pk_sub (by omega)] at q9
      have c2 : tE t n p - tS t n p = 4 := (nI_eq (by omega) (by omega)).mp q9
      exact G c1 c2 0 (Nat.zero_le _) _ rfl (fun j hj => absurd hj (Nat.not_lt_zero j))
theorem tx_2 : ∀ i, i < 7 → (tx 2).getD i 0 &&& 255 = (tx 2).getD i 0 := by decide +kernel
set_option maxRecDepth 20000 in
theorem c_isWord2 {J : mJ} (X : mRules J) {I A : mI} {B : mB} {w f : Nat} {R : mR} {t : Nat → Nat} {n : Nat} (T : TpR 2 A t n) (hn : I 1 1 = nI n) {p : Nat} (hp : p ≤ n) (K : KT I t n p) (h1 : tW t n p 2 = true → R (some (.int 1)) I A B (pk w f)) (h0 : tW t n p 2 = false → R (some (.int 0)) I A B (pk w f)) : J n_Tokens_isWord 0 [.ref 6, .retAddr 3, .float 0] [] I A B (pk w f) R := by
  have hn9 := T.n9
  have hE := tE_b (t := t) hp
  have G : tK t n p = 1 → tE t n p - tS t n p = 7 → ∀ i, i ≤ 7 → ∀ (x : Int32), x = nI i → (∀ j, j < i → nI (t (tS t n p + j)) = (tx 2).getD j 0) → J n_Tokens_isWord 28 [.ref 6, .retAddr 3, .int x] [] I A B (pk w f) R := by
    intro c1 c2
    have G9 : ∀ i, i ≤ 7 → ∀ (x : Int32), x = nI i → (∀ j, j < i → nI (t (tS t n p + j)) = (tx 2).getD j 0) → J n_Tokens_isWord 28 [.ref 6, .retAddr 3, .int x] [] I A B (pk w f) R := by
      refine lpz (fun i => ∀ (x : Int32), x = nI i → (∀ j, j < i → nI (t (tS t n p + j)) = (tx 2).getD j 0) → J n_Tokens_isWord 28 [.ref 6, .retAddr 3, .int x] [] I A B (pk w f) R) (fun i hi ih => ?_)
      intro x ex hw
      subst ex
      refine X 200 _ _ _ _ _ _ _ _ _ ?_
      refine And.intro (fun q => absurd q (by decide)) (fun _ => ?_)
      refine And.intro (by first | (rw [sc_c2]; exact sc_nar _) | rfl) ?_
      refine And.intro (fun q1 => ?_) (fun q1 => ?_)
      · have e : i = 7 := lpx (n := 7) hi (by omega) q1
        subst e
        refine And.intro (Or.inr rfl) ?_
        exact h1 (tW_t (k := 2) c1 c2 hw)
      · have hl : i < 7 := lpc (n := 7) hi (by omega) q1
        refine c_byteAt X T hn (k := tS t n p + i) (by rw [K.s, nI_add]) (by omega) ?_
        rw [tsv_i (by omega)]
        refine And.intro (fun q => absurd q (by decide)) (fun _ => ?_)
        refine And.intro (fun q => absurd (by decide) q) (fun _ => ?_)
        refine And.intro (Or.inr rfl) ?_
        refine And.intro (fun q => absurd q (by decide)) (fun _ => ?_)
        refine And.intro (fun q2 => ?_) (fun q2 => ?_)
        · exact absurd q2 (nI_pos (by omega)) --end
        · refine And.intro (fun q3 => ?_) (fun q3 => ?_)
          · refine And.intro (vin (N := 7) hl (by omega)) ?_
            refine And.intro (by first | (rw [sc_c2]; exact sc_nar _) | rfl) ?_
            refine And.intro (by first | (rw [sc_c2]; exact sc_nar _) | rfl) ?_
            refine And.intro (fun q4 => ?_) (fun q4 => ?_)
            · have q9 : nI (t (tS t n p + i)) = ((((tx 2).getD (nI i).toNatClampNeg 0 &&& 255).toUInt32 % 65536).toInt32) := q4
              rw [sc_c2, cl (by omega), tx_2 i hl] at q9
              exact ih hl _ (nI_1 i) (fun j hj => by
                by_cases z : j = i
                · rw [z]; exact q9
                · exact hw j (by omega))
            · have q9 : ¬ nI (t (tS t n p + i)) = ((((tx 2).getD (nI i).toNatClampNeg 0 &&& 255).toUInt32 % 65536).toInt32) := q4
              rw [sc_c2, cl (by omega), tx_2 i hl] at q9
              refine And.intro (Or.inl rfl) ?_
              exact h0 (tW_f2 (k := 2) hl q9)
          · exact absurd (show nI i < nI 7 from nI_lt hl (by omega)) q3 --end
    exact G9
  refine X 200 _ _ _ _ _ _ _ _ _ ?_
  refine And.intro (fun q1 => ?_) (fun q1 => ?_)
  · have cf : ¬ (tK t n p = 1 ∧ tE t n p - tS t n p = 7) := fun z => q1 (by rw [K.k, z.1]; rfl)
    refine And.intro (Or.inl rfl) ?_
    exact h0 (tW_f1 (k := 2) cf)
  · rw [K.k] at q1
    have c1 : tK t n p = 1 := (nI_eq (b := 1) (by have := tK_4 (t := t) (n := n) (p := p); omega) (by omega)).mp q1
    refine And.intro (fun q => absurd q (by decide)) (fun _ => ?_)
    refine And.intro (by first | (rw [sc_c2]; exact sc_nar _) | rfl) ?_
    refine And.intro (fun q2 => ?_) (fun q2 => ?_)
    · have q9 : I 6 3 - I 6 2 = nI 7 := q2
      rw [K.e, K.s, pk_sub (by omega)] at q9
      have c2 : tE t n p - tS t n p = 7 := (nI_eq (by omega) (by omega)).mp q9
      exact G c1 c2 0 (Nat.zero_le _) _ rfl (fun j hj => absurd hj (Nat.not_lt_zero j))
    · have cf : ¬ (tK t n p = 1 ∧ tE t n p - tS t n p = 7) := fun z => by
        have q9 : ¬ I 6 3 - I 6 2 = nI 7 := q2
        rw [K.e, K.s, pk_sub (by omega), z.2] at q9
        exact q9 rfl
      refine And.intro (Or.inl rfl) ?_
      exact h0 (tW_f1 (k := 2) cf)
set_option maxRecDepth 20000 in
theorem c_Mis2 {J : mJ} (X : mRules J) {I A : mI} {B : mB} {w f : Nat} {R : mR} {t : Nat → Nat} {n : Nat} (T : TpR 60 A t n) {p : Nat} (hp : p ≤ n) (hg : I 43 33 = 0) (K : MT I t n p) (h1 : tW t n p 2 = true → R (some (.int 1)) I A B (pk w f)) (h0 : tW t n p 2 = false → R (some (.int 0)) I A B (pk w f)) : J n_M_is 0 [.ref 43, .retAddr 3, .float 0, .float 0] [] I A B (pk w f) R := by
  have hn9 := T.n9
  have hE := tE_b (t := t) hp
  have G0 : tW t n p 2 = false → ∀ x : Int32, J n_M_is 39 [.ref 43, .retAddr 3, .int 0, .int x] [] I A B (pk w f) R := by
    intro zf x
    refine X 200 _ _ _ _ _ _ _ _ _ ?_
    refine And.intro (fun q => absurd q (by decide)) (fun _ => ?_)
    refine And.intro rfl ?_
    refine And.intro (fun q1 => ?_) (fun q1 => ?_)
    · refine And.intro (Or.inl rfl) ?_
      exact h0 zf
    · refine And.intro (fun _ => ?_) (fun q => absurd (by decide) q)
      refine And.intro (Or.inl rfl) ?_
      exact h0 zf
  have G : tK t n p = 1 → tE t n p - tS t n p = 7 → ∀ i, i ≤ 7 → ∀ (x : Int32), x = nI i → (∀ j, j < i → nI (t (tS t n p + j)) = (tx 2).getD j 0) → J n_M_is 39 [.ref 43, .retAddr 3, .int 1, .int x] [] I A B (pk w f) R := by
    intro c1 c2
    have G9 : ∀ i, i ≤ 7 → ∀ (x : Int32), x = nI i → (∀ j, j < i → nI (t (tS t n p + j)) = (tx 2).getD j 0) → J n_M_is 39 [.ref 43, .retAddr 3, .int 1, .int x] [] I A B (pk w f) R := by
      refine lpz (fun i => ∀ (x : Int32), x = nI i → (∀ j, j < i → nI (t (tS t n p + j)) = (tx 2).getD j 0) → J n_M_is 39 [.ref 43, .retAddr 3, .int 1, .int x] [] I A B (pk w f) R) (fun i hi ih => ?_)
      intro x ex hw
      subst ex
      refine X 200 _ _ _ _ _ _ _ _ _ ?_
      refine And.intro (fun q => absurd q (by decide)) (fun _ => ?_)
      refine And.intro (by first | (rw [sc_c2]; exact sc_nar _) | rfl) ?_
      refine And.intro (fun q1 => ?_) (fun q1 => ?_)
      · have e : i = 7 := lpx (n := 7) hi (by omega) q1
        subst e
        refine And.intro (Or.inr rfl) ?_
        exact h1 (tW_t (k := 2) c1 c2 hw)
      · have hl : i < 7 := lpc (n := 7) hi (by omega) q1
        have eix : I 43 30 + nI i = nI (tS t n p + i) := by rw [K.s, nI_add]
        have cix : (I 43 30 + nI i).toNatClampNeg = tS t n p + i := by rw [eix]; exact cl (by omega)
        have hlt := of_decide_eq_true (tw_l hp c1 (tS t n p + i) (by omega) (by omega))
        have hbt := T.b (tS t n p + i) (by omega)
        have ebt := byt_eq hbt.2.2 hbt.1 (by omega)
        refine And.intro (fun q => absurd q (by decide)) (fun _ => ?_)
        refine Exists.intro _ (Exists.intro _ (And.intro rfl (And.intro (Or.inl rfl) (And.intro (by first | (rw [eix]; exact vin (by omega) (by omega)) | exact (vin (N := 7) hl (by omega))) ?_))))
        refine And.intro (fun q => absurd q (by decide)) (fun _ => ?_)
        refine And.intro (fun q => absurd (by decide) q) (fun _ => ?_)
        refine And.intro (Or.inr rfl) ?_
        refine And.intro (fun q => absurd q (by decide)) (fun _ => ?_)
        refine And.intro (fun q2 => ?_) (fun q2 => ?_)
        · exact absurd q2 (nI_pos (by omega)) --end
        · refine And.intro (fun q3 => ?_) (fun q3 => ?_)
          · refine And.intro (by first | (rw [eix]; exact vin (by omega) (by omega)) | exact (vin (N := 7) hl (by omega))) ?_
            refine And.intro (by first | (rw [sc_c2]; exact sc_nar _) | rfl) ?_
            refine And.intro (by first | (rw [sc_c2]; exact sc_nar _) | rfl) ?_
            refine And.intro (fun q4 => ?_) (fun q4 => ?_)
            · have q8 : ¬ A 60 (I 43 30 + nI i).toNatClampNeg = ((((tx 2).getD (nI i).toNatClampNeg 0 &&& 255).toUInt32 % 65536).toInt32) := q4
              rw [sc_c2, cl (n := i) (by omega), tx_2 i hl, cix, ebt] at q8
              exact G0 (tW_f2 (k := 2) hl q8) _
            · have q8 : A 60 (I 43 30 + nI i).toNatClampNeg = ((((tx 2).getD (nI i).toNatClampNeg 0 &&& 255).toUInt32 % 65536).toInt32) := q4
              rw [sc_c2, cl (n := i) (by omega), tx_2 i hl, cix, ebt] at q8
              exact ih hl _ (nI_1 i) (fun j hj => by
                by_cases z : j = i
                · rw [z]; exact q8
                · exact hw j (by omega))
          · exact absurd (show nI i < nI 7 from nI_lt hl (by omega)) q3 --end
    exact G9
  refine X 200 _ _ _ _ _ _ _ _ _ ?_
  refine c_Mgood X (fun _ => ?_) (fun z => absurd hg z)
  refine And.intro (fun q => absurd q (by decide)) (fun _ => ?_)
  refine And.intro (fun q1 => ?_) (fun q1 => ?_)
  · have cf : ¬ (tK t n p = 1 ∧ tE t n p - tS t n p = 7) := fun z => q1 (by rw [K.k, z.1]; rfl)
    exact G0 (tW_f1 (k := 2) cf) _
  · rw [K.k] at q1
    have c1 : tK t n p = 1 := (nI_eq (b := 1) (by have := tK_4 (t := t) (n := n) (p := p); omega) (by omega)).mp q1
    refine And.intro (fun q => absurd q (by decide)) (fun _ => ?_)
    refine And.intro (by first | (rw [sc_c2]; exact sc_nar _) | rfl) ?_
    refine And.intro (fun q2 => ?_) (fun q2 => ?_)
    · have cf : ¬ (tK t n p = 1 ∧ tE t n p - tS t n p = 7) := fun z => by
        have q9 : ¬ I 43 29 - I 43 30 = nI 7 := q2
        rw [K.e, K.s, pk_sub (by omega), z.2] at q9
        exact q9 rfl
      exact G0 (tW_f1 (k := 2) cf) _
    · have q9 : I 43 29 - I 43 30 = nI 7 := q2
      rw [K.e, K.s, pk_sub (by omega)] at q9
      have c2 : tE t n p - tS t n p = 7 := (nI_eq (by omega) (by omega)).mp q9
      exact G c1 c2 0 (Nat.zero_le _) _ rfl (fun j hj => absurd hj (Nat.not_lt_zero j))
theorem tx_3 : ∀ i, i < 8 → (tx 3).getD i 0 &&& 255 = (tx 3).getD i 0 := by decide +kernel
set_option maxRecDepth 20000 in
theorem c_isWord3 {J : mJ} (X : mRules J) {I A : mI} {B : mB} {w f : Nat} {R : mR} {t : Nat → Nat} {n : Nat} (T : TpR 2 A t n) (hn : I 1 1 = nI n) {p : Nat} (hp : p ≤ n) (K : KT I t n p) (h1 : tW t n p 3 = true → R (some (.int 1)) I A B (pk w f)) (h0 : tW t n p 3 = false → R (some (.int 0)) I A B (pk w f)) : J n_Tokens_isWord 0 [.ref 6, .retAddr 4, .float 0] [] I A B (pk w f) R := by
  have hn9 := T.n9
  have hE := tE_b (t := t) hp
  have G : tK t n p = 1 → tE t n p - tS t n p = 8 → ∀ i, i ≤ 8 → ∀ (x : Int32), x = nI i → (∀ j, j < i → nI (t (tS t n p + j)) = (tx 3).getD j 0) → J n_Tokens_isWord 28 [.ref 6, .retAddr 4, .int x] [] I A B (pk w f) R := by
    intro c1 c2
    have G9 : ∀ i, i ≤ 8 → ∀ (x : Int32), x = nI i → (∀ j, j < i → nI (t (tS t n p + j)) = (tx 3).getD j 0) → J n_Tokens_isWord 28 [.ref 6, .retAddr 4, .int x] [] I A B (pk w f) R := by
      refine lpz (fun i => ∀ (x : Int32), x = nI i → (∀ j, j < i → nI (t (tS t n p + j)) = (tx 3).getD j 0) → J n_Tokens_isWord 28 [.ref 6, .retAddr 4, .int x] [] I A B (pk w f) R) (fun i hi ih => ?_)
      intro x ex hw
      subst ex
      refine X 200 _ _ _ _ _ _ _ _ _ ?_
      refine And.intro (fun q => absurd q (by decide)) (fun _ => ?_)
      refine And.intro (by first | (rw [sc_c2]; exact sc_nar _) | rfl) ?_
      refine And.intro (fun q1 => ?_) (fun q1 => ?_)
      · have e : i = 8 := lpx (n := 8) hi (by omega) q1
        subst e
        refine And.intro (Or.inr rfl) ?_
        exact h1 (tW_t (k := 3) c1 c2 hw)
      · have hl : i < 8 := lpc (n := 8) hi (by omega) q1
        refine c_byteAt X T hn (k := tS t n p + i) (by rw [K.s, nI_add]) (by omega) ?_
        rw [tsv_i (by omega)]
        refine And.intro (fun q => absurd q (by decide)) (fun _ => ?_)
        refine And.intro (fun q => absurd (by decide) q) (fun _ => ?_)
        refine And.intro (Or.inr rfl) ?_
        refine And.intro (fun q => absurd q (by decide)) (fun _ => ?_)
        refine And.intro (fun q2 => ?_) (fun q2 => ?_)
        · exact absurd q2 (nI_pos (by omega)) --end
        · refine And.intro (fun q3 => ?_) (fun q3 => ?_)
          · refine And.intro (vin (N := 8) hl (by omega)) ?_
            refine And.intro (by first | (rw [sc_c2]; exact sc_nar _) | rfl) ?_
            refine And.intro (by first | (rw [sc_c2]; exact sc_nar _) | rfl) ?_
            refine And.intro (fun q4 => ?_) (fun q4 => ?_)
            · have q9 : nI (t (tS t n p + i)) = ((((tx 3).getD (nI i).toNatClampNeg 0 &&& 255).toUInt32 % 65536).toInt32) := q4
              rw [sc_c2, cl (by omega), tx_3 i hl] at q9
              exact ih hl _ (nI_1 i) (fun j hj => by
                by_cases z : j = i
                · rw [z]; exact q9
                · exact hw j (by omega))
            · have q9 : ¬ nI (t (tS t n p + i)) = ((((tx 3).getD (nI i).toNatClampNeg 0 &&& 255).toUInt32 % 65536).toInt32) := q4
              rw [sc_c2, cl (by omega), tx_3 i hl] at q9
              refine And.intro (Or.inl rfl) ?_
              exact h0 (tW_f2 (k := 3) hl q9)
          · exact absurd (show nI i < nI 8 from nI_lt hl (by omega)) q3 --end
    exact G9
  refine X 200 _ _ _ _ _ _ _ _ _ ?_
  refine And.intro (fun q1 => ?_) (fun q1 => ?_)
  · have cf : ¬ (tK t n p = 1 ∧ tE t n p - tS t n p = 8) := fun z => q1 (by rw [K.k, z.1]; rfl)
    refine And.intro (Or.inl rfl) ?_
    exact h0 (tW_f1 (k := 3) cf)
  · rw [K.k] at q1
    have c1 : tK t n p = 1 := (nI_eq (b := 1) (by have := tK_4 (t := t) (n := n) (p := p); omega) (by omega)).mp q1
    refine And.intro (fun q => absurd q (by decide)) (fun _ => ?_)
    refine And.intro (by first | (rw [sc_c2]; exact sc_nar _) | rfl) ?_
    refine And.intro (fun q2 => ?_) (fun q2 => ?_)
    · have q9 : I 6 3 - I 6 2 = nI 8 := q2
      rw [K.e, K.s, pk_sub (by omega)] at q9
      have c2 : tE t n p - tS t n p = 8 := (nI_eq (by omega) (by omega)).mp q9
      exact G c1 c2 0 (Nat.zero_le _) _ rfl (fun j hj => absurd hj (Nat.not_lt_zero j))
    · have cf : ¬ (tK t n p = 1 ∧ tE t n p - tS t n p = 8) := fun z => by
        have q9 : ¬ I 6 3 - I 6 2 = nI 8 := q2
        rw [K.e, K.s, pk_sub (by omega), z.2] at q9
        exact q9 rfl
      refine And.intro (Or.inl rfl) ?_
      exact h0 (tW_f1 (k := 3) cf)
set_option maxRecDepth 20000 in
theorem c_Mis3 {J : mJ} (X : mRules J) {I A : mI} {B : mB} {w f : Nat} {R : mR} {t : Nat → Nat} {n : Nat} (T : TpR 60 A t n) {p : Nat} (hp : p ≤ n) (hg : I 43 33 = 0) (K : MT I t n p) (h1 : tW t n p 3 = true → R (some (.int 1)) I A B (pk w f)) (h0 : tW t n p 3 = false → R (some (.int 0)) I A B (pk w f)) : J n_M_is 0 [.ref 43, .retAddr 4, .float 0, .float 0] [] I A B (pk w f) R := by
  have hn9 := T.n9
  have hE := tE_b (t := t) hp
  have G0 : tW t n p 3 = false → ∀ x : Int32, J n_M_is 39 [.ref 43, .retAddr 4, .int 0, .int x] [] I A B (pk w f) R := by
    intro zf x
    refine X 200 _ _ _ _ _ _ _ _ _ ?_
    refine And.intro (fun q => absurd q (by decide)) (fun _ => ?_)
    refine And.intro rfl ?_
    refine And.intro (fun q1 => ?_) (fun q1 => ?_)
    · refine And.intro (Or.inl rfl) ?_
      exact h0 zf
    · refine And.intro (fun _ => ?_) (fun q => absurd (by decide) q)
      refine And.intro (Or.inl rfl) ?_
      exact h0 zf
  have G : tK t n p = 1 → tE t n p - tS t n p = 8 → ∀ i, i ≤ 8 → ∀ (x : Int32), x = nI i → (∀ j, j < i → nI (t (tS t n p + j)) = (tx 3).getD j 0) → J n_M_is 39 [.ref 43, .retAddr 4, .int 1, .int x] [] I A B (pk w f) R := by
    intro c1 c2
    have G9 : ∀ i, i ≤ 8 → ∀ (x : Int32), x = nI i → (∀ j, j < i → nI (t (tS t n p + j)) = (tx 3).getD j 0) → J n_M_is 39 [.ref 43, .retAddr 4, .int 1, .int x] [] I A B (pk w f) R := by
      refine lpz (fun i => ∀ (x : Int32), x = nI i → (∀ j, j < i → nI (t (tS t n p + j)) = (tx 3).getD j 0) → J n_M_is 39 [.ref 43, .retAddr 4, .int 1, .int x] [] I A B (pk w f) R) (fun i hi ih => ?_)
      intro x ex hw
      subst ex
      refine X 200 _ _ _ _ _ _ _ _ _ ?_
      refine And.intro (fun q => absurd q (by decide)) (fun _ => ?_)
      refine And.intro (by first | (rw [sc_c2]; exact sc_nar _) | rfl) ?_
      refine And.intro (fun q1 => ?_) (fun q1 => ?_)
      · have e : i = 8 := lpx (n := 8) hi (by omega) q1
        subst e
        refine And.intro (Or.inr rfl) ?_
        exact h1 (tW_t (k := 3) c1 c2 hw)
      · have hl : i < 8 := lpc (n := 8) hi (by omega) q1
        have eix : I 43 30 + nI i = nI (tS t n p + i) := by rw [K.s, nI_add]
        have cix : (I 43 30 + nI i).toNatClampNeg = tS t n p + i := by rw [eix]; exact cl (by omega)
        have hlt := of_decide_eq_true (tw_l hp c1 (tS t n p + i) (by omega) (by omega))
        have hbt := T.b (tS t n p + i) (by omega)
        have ebt := byt_eq hbt.2.2 hbt.1 (by omega)
        refine And.intro (fun q => absurd q (by decide)) (fun _ => ?_)
        refine Exists.intro _ (Exists.intro _ (And.intro rfl (And.intro (Or.inl rfl) (And.intro (by first | (rw [eix]; exact vin (by omega) (by omega)) | exact (vin (N := 8) hl (by omega))) ?_))))
        refine And.intro (fun q => absurd q (by decide)) (fun _ => ?_)
        refine And.intro (fun q => absurd (by decide) q) (fun _ => ?_)
        refine And.intro (Or.inr rfl) ?_
        refine And.intro (fun q => absurd q (by decide)) (fun _ => ?_)
        refine And.intro (fun q2 => ?_) (fun q2 => ?_)
        · exact absurd q2 (nI_pos (by omega)) --end
        · refine And.intro (fun q3 => ?_) (fun q3 => ?_)
          · refine And.intro (by first | (rw [eix]; exact vin (by omega) (by omega)) | exact (vin (N := 8) hl (by omega))) ?_
            refine And.intro (by first | (rw [sc_c2]; exact sc_nar _) | rfl) ?_
            refine And.intro (by first | (rw [sc_c2]; exact sc_nar _) | rfl) ?_
            refine And.intro (fun q4 => ?_) (fun q4 => ?_)
            · have q8 : ¬ A 60 (I 43 30 + nI i).toNatClampNeg = ((((tx 3).getD (nI i).toNatClampNeg 0 &&& 255).toUInt32 % 65536).toInt32) := q4
              rw [sc_c2, cl (n := i) (by omega), tx_3 i hl, cix, ebt] at q8
              exact G0 (tW_f2 (k := 3) hl q8) _
            · have q8 : A 60 (I 43 30 + nI i).toNatClampNeg = ((((tx 3).getD (nI i).toNatClampNeg 0 &&& 255).toUInt32 % 65536).toInt32) := q4
              rw [sc_c2, cl (n := i) (by omega), tx_3 i hl, cix, ebt] at q8
              exact ih hl _ (nI_1 i) (fun j hj => by
                by_cases z : j = i
                · rw [z]; exact q8
                · exact hw j (by omega))
          · exact absurd (show nI i < nI 8 from nI_lt hl (by omega)) q3 --end
    exact G9
  refine X 200 _ _ _ _ _ _ _ _ _ ?_
  refine c_Mgood X (fun _ => ?_) (fun z => absurd hg z)
  refine And.intro (fun q => absurd q (by decide)) (fun _ => ?_)
  refine And.intro (fun q1 => ?_) (fun q1 => ?_)
  · have cf : ¬ (tK t n p = 1 ∧ tE t n p - tS t n p = 8) := fun z => q1 (by rw [K.k, z.1]; rfl)
    exact G0 (tW_f1 (k := 3) cf) _
  · rw [K.k] at q1
    have c1 : tK t n p = 1 := (nI_eq (b := 1) (by have := tK_4 (t := t) (n := n) (p := p); omega) (by omega)).mp q1
    refine And.intro (fun q => absurd q (by decide)) (fun _ => ?_)
    refine And.intro (by first | (rw [sc_c2]; exact sc_nar _) | rfl) ?_
    refine And.intro (fun q2 => ?_) (fun q2 => ?_)
    · have cf : ¬ (tK t n p = 1 ∧ tE t n p - tS t n p = 8) := fun z => by
        have q9 : ¬ I 43 29 - I 43 30 = nI 8 := q2
        rw [K.e, K.s, pk_sub (by omega), z.2] at q9
        exact q9 rfl
      exact G0 (tW_f1 (k := 3) cf) _
    · have q9 : I 43 29 - I 43 30 = nI 8 := q2
      rw [K.e, K.s, pk_sub (by omega)] at q9
      have c2 : tE t n p - tS t n p = 8 := (nI_eq (by omega) (by omega)).mp q9
      exact G c1 c2 0 (Nat.zero_le _) _ rfl (fun j hj => absurd hj (Nat.not_lt_zero j))
theorem tx_4 : ∀ i, i < 4 → (tx 4).getD i 0 &&& 255 = (tx 4).getD i 0 := by decide +kernel
set_option maxRecDepth 20000 in
theorem c_isWord4 {J : mJ} (X : mRules J) {I A : mI} {B : mB} {w f : Nat} {R : mR} {t : Nat → Nat} {n : Nat} (T : TpR 2 A t n) (hn : I 1 1 = nI n) {p : Nat} (hp : p ≤ n) (K : KT I t n p) (h1 : tW t n p 4 = true → R (some (.int 1)) I A B (pk w f)) (h0 : tW t n p 4 = false → R (some (.int 0)) I A B (pk w f)) : J n_Tokens_isWord 0 [.ref 6, .retAddr 5, .float 0] [] I A B (pk w f) R := by
  have hn9 := T.n9
  have hE := tE_b (t := t) hp
  have G : tK t n p = 1 → tE t n p - tS t n p = 4 → ∀ i, i ≤ 4 → ∀ (x : Int32), x = nI i → (∀ j, j < i → nI (t (tS t n p + j)) = (tx 4).getD j 0) → J n_Tokens_isWord 28 [.ref 6, .retAddr 5, .int x] [] I A B (pk w f) R := by
    intro c1 c2
    have G9 : ∀ i, i ≤ 4 → ∀ (x : Int32), x = nI i → (∀ j, j < i → nI (t (tS t n p + j)) = (tx 4).getD j 0) → J n_Tokens_isWord 28 [.ref 6, .retAddr 5, .int x] [] I A B (pk w f) R := by
      refine lpz (fun i => ∀ (x : Int32), x = nI i → (∀ j, j < i → nI (t (tS t n p + j)) = (tx 4).getD j 0) → J n_Tokens_isWord 28 [.ref 6, .retAddr 5, .int x] [] I A B (pk w f) R) (fun i hi ih => ?_)
      intro x ex hw
      subst ex
      refine X 200 _ _ _ _ _ _ _ _ _ ?_
      refine And.intro (fun q => absurd q (by decide)) (fun _ => ?_)
      refine And.intro (by first | (rw [sc_c2]; exact sc_nar _) | rfl) ?_
      refine And.intro (fun q1 => ?_) (fun q1 => ?_)
      · have e : i = 4 := lpx (n := 4) hi (by omega) q1
        subst e
        refine And.intro (Or.inr rfl) ?_
        exact h1 (tW_t (k := 4) c1 c2 hw)
      · have hl : i < 4 := lpc (n := 4) hi (by omega) q1
        refine c_byteAt X T hn (k := tS t n p + i) (by rw [K.s, nI_add]) (by omega) ?_
        rw [tsv_i (by omega)]
        refine And.intro (fun q => absurd q (by decide)) (fun _ => ?_)
        refine And.intro (fun q => absurd (by decide) q) (fun _ => ?_)
        refine And.intro (Or.inr rfl) ?_
        refine And.intro (fun q => absurd q (by decide)) (fun _ => ?_)
        refine And.intro (fun q2 => ?_) (fun q2 => ?_)
        · exact absurd q2 (nI_pos (by omega)) --end
        · refine And.intro (fun q3 => ?_) (fun q3 => ?_)
          · refine And.intro (vin (N := 4) hl (by omega)) ?_
            refine And.intro (by first | (rw [sc_c2]; exact sc_nar _) | rfl) ?_
            refine And.intro (by first | (rw [sc_c2]; exact sc_nar _) | rfl) ?_
            refine And.intro (fun q4 => ?_) (fun q4 => ?_)
            · have q9 : nI (t (tS t n p + i)) = ((((tx 4).getD (nI i).toNatClampNeg 0 &&& 255).toUInt32 % 65536).toInt32) := q4
              rw [sc_c2, cl (by omega), tx_4 i hl] at q9
              exact ih hl _ (nI_1 i) (fun j hj => by
                by_cases z : j = i
                · rw [z]; exact q9
                · exact hw j (by omega))
            · have q9 : ¬ nI (t (tS t n p + i)) = ((((tx 4).getD (nI i).toNatClampNeg 0 &&& 255).toUInt32 % 65536).toInt32) := q4
              rw [sc_c2, cl (by omega), tx_4 i hl] at q9
              refine And.intro (Or.inl rfl) ?_
              exact h0 (tW_f2 (k := 4) hl q9)
          · exact absurd (show nI i < nI 4 from nI_lt hl (by omega)) q3 --end
    exact G9
  refine X 200 _ _ _ _ _ _ _ _ _ ?_
  refine And.intro (fun q1 => ?_) (fun q1 => ?_)
  · have cf : ¬ (tK t n p = 1 ∧ tE t n p - tS t n p = 4) := fun z => q1 (by rw [K.k, z.1]; rfl)
    refine And.intro (Or.inl rfl) ?_
    exact h0 (tW_f1 (k := 4) cf)
  · rw [K.k] at q1
    have c1 : tK t n p = 1 := (nI_eq (b := 1) (by have := tK_4 (t := t) (n := n) (p := p); omega) (by omega)).mp q1
    refine And.intro (fun q => absurd q (by decide)) (fun _ => ?_)
    refine And.intro (by first | (rw [sc_c2]; exact sc_nar _) | rfl) ?_
    refine And.intro (fun q2 => ?_) (fun q2 => ?_)
    · have q9 : I 6 3 - I 6 2 = nI 4 := q2
      rw [K.e, K.s, pk_sub (by omega)] at q9
      have c2 : tE t n p - tS t n p = 4 := (nI_eq (by omega) (by omega)).mp q9
      exact G c1 c2 0 (Nat.zero_le _) _ rfl (fun j hj => absurd hj (Nat.not_lt_zero j))
    · have cf : ¬ (tK t n p = 1 ∧ tE t n p - tS t n p = 4) := fun z => by
        have q9 : ¬ I 6 3 - I 6 2 = nI 4 := q2
        rw [K.e, K.s, pk_sub (by omega), z.2] at q9
        exact q9 rfl
      refine And.intro (Or.inl rfl) ?_
      exact h0 (tW_f1 (k := 4) cf)
set_option maxRecDepth 20000 in
theorem c_Mis4 {J : mJ} (X : mRules J) {I A : mI} {B : mB} {w f : Nat} {R : mR} {t : Nat → Nat} {n : Nat} (T : TpR 60 A t n) {p : Nat} (hp : p ≤ n) (hg : I 43 33 = 0) (K : MT I t n p) (h1 : tW t n p 4 = true → R (some (.int 1)) I A B (pk w f)) (h0 : tW t n p 4 = false → R (some (.int 0)) I A B (pk w f)) : J n_M_is 0 [.ref 43, .retAddr 5, .float 0, .float 0] [] I A B (pk w f) R := by
  have hn9 := T.n9
  have hE := tE_b (t := t) hp
  have G0 : tW t n p 4 = false → ∀ x : Int32, J n_M_is 39 [.ref 43, .retAddr 5, .int 0, .int x] [] I A B (pk w f) R := by
    intro zf x
    refine X 200 _ _ _ _ _ _ _ _ _ ?_
    refine And.intro (fun q => absurd q (by decide)) (fun _ => ?_)
    refine And.intro rfl ?_
    refine And.intro (fun q1 => ?_) (fun q1 => ?_)
    · refine And.intro (Or.inl rfl) ?_
      exact h0 zf
    · refine And.intro (fun _ => ?_) (fun q => absurd (by decide) q)
      refine And.intro (Or.inl rfl) ?_
      exact h0 zf
  have G : tK t n p = 1 → tE t n p - tS t n p = 4 → ∀ i, i ≤ 4 → ∀ (x : Int32), x = nI i → (∀ j, j < i → nI (t (tS t n p + j)) = (tx 4).getD j 0) → J n_M_is 39 [.ref 43, .retAddr 5, .int 1, .int x] [] I A B (pk w f) R := by
    intro c1 c2
    have G9 : ∀ i, i ≤ 4 → ∀ (x : Int32), x = nI i → (∀ j, j < i → nI (t (tS t n p + j)) = (tx 4).getD j 0) → J n_M_is 39 [.ref 43, .retAddr 5, .int 1, .int x] [] I A B (pk w f) R := by
      refine lpz (fun i => ∀ (x : Int32), x = nI i → (∀ j, j < i → nI (t (tS t n p + j)) = (tx 4).getD j 0) → J n_M_is 39 [.ref 43, .retAddr 5, .int 1, .int x] [] I A B (pk w f) R) (fun i hi ih => ?_)
      intro x ex hw
      subst ex
      refine X 200 _ _ _ _ _ _ _ _ _ ?_
      refine And.intro (fun q => absurd q (by decide)) (fun _ => ?_)
      refine And.intro (by first | (rw [sc_c2]; exact sc_nar _) | rfl) ?_
      refine And.intro (fun q1 => ?_) (fun q1 => ?_)
      · have e : i = 4 := lpx (n := 4) hi (by omega) q1
        subst e
        refine And.intro (Or.inr rfl) ?_
        exact h1 (tW_t (k := 4) c1 c2 hw)
      · have hl : i < 4 := lpc (n := 4) hi (by omega) q1
        have eix : I 43 30 + nI i = nI (tS t n p + i) := by rw [K.s, nI_add]
        have cix : (I 43 30 + nI i).toNatClampNeg = tS t n p + i := by rw [eix]; exact cl (by omega)
        have hlt := of_decide_eq_true (tw_l hp c1 (tS t n p + i) (by omega) (by omega))
        have hbt := T.b (tS t n p + i) (by omega)
        have ebt := byt_eq hbt.2.2 hbt.1 (by omega)
        refine And.intro (fun q => absurd q (by decide)) (fun _ => ?_)
        refine Exists.intro _ (Exists.intro _ (And.intro rfl (And.intro (Or.inl rfl) (And.intro (by first | (rw [eix]; exact vin (by omega) (by omega)) | exact (vin (N := 4) hl (by omega))) ?_))))
        refine And.intro (fun q => absurd q (by decide)) (fun _ => ?_)
        refine And.intro (fun q => absurd (by decide) q) (fun _ => ?_)
        refine And.intro (Or.inr rfl) ?_
        refine And.intro (fun q => absurd q (by decide)) (fun _ => ?_)
        refine And.intro (fun q2 => ?_) (fun q2 => ?_)
        · exact absurd q2 (nI_pos (by omega)) --end
        · refine And.intro (fun q3 => ?_) (fun q3 => ?_)
          · refine And.intro (by first | (rw [eix]; exact vin (by omega) (by omega)) | exact (vin (N := 4) hl (by omega))) ?_
            refine And.intro (by first | (rw [sc_c2]; exact sc_nar _) | rfl) ?_
            refine And.intro (by first | (rw [sc_c2]; exact sc_nar _) | rfl) ?_
            refine And.intro (fun q4 => ?_) (fun q4 => ?_)
            · have q8 : ¬ A 60 (I 43 30 + nI i).toNatClampNeg = ((((tx 4).getD (nI i).toNatClampNeg 0 &&& 255).toUInt32 % 65536).toInt32) := q4
              rw [sc_c2, cl (n := i) (by omega), tx_4 i hl, cix, ebt] at q8
              exact G0 (tW_f2 (k := 4) hl q8) _
            · have q8 : A 60 (I 43 30 + nI i).toNatClampNeg = ((((tx 4).getD (nI i).toNatClampNeg 0 &&& 255).toUInt32 % 65536).toInt32) := q4
              rw [sc_c2, cl (n := i) (by omega), tx_4 i hl, cix, ebt] at q8
              exact ih hl _ (nI_1 i) (fun j hj => by
                by_cases z : j = i
                · rw [z]; exact q8
                · exact hw j (by omega))
          · exact absurd (show nI i < nI 4 from nI_lt hl (by omega)) q3 --end
    exact G9
  refine X 200 _ _ _ _ _ _ _ _ _ ?_
  refine c_Mgood X (fun _ => ?_) (fun z => absurd hg z)
  refine And.intro (fun q => absurd q (by decide)) (fun _ => ?_)
  refine And.intro (fun q1 => ?_) (fun q1 => ?_)
  · have cf : ¬ (tK t n p = 1 ∧ tE t n p - tS t n p = 4) := fun z => q1 (by rw [K.k, z.1]; rfl)
    exact G0 (tW_f1 (k := 4) cf) _
  · rw [K.k] at q1
    have c1 : tK t n p = 1 := (nI_eq (b := 1) (by have := tK_4 (t := t) (n := n) (p := p); omega) (by omega)).mp q1
    refine And.intro (fun q => absurd q (by decide)) (fun _ => ?_)
    refine And.intro (by first | (rw [sc_c2]; exact sc_nar _) | rfl) ?_
    refine And.intro (fun q2 => ?_) (fun q2 => ?_)
    · have cf : ¬ (tK t n p = 1 ∧ tE t n p - tS t n p = 4) := fun z => by
        have q9 : ¬ I 43 29 - I 43 30 = nI 4 := q2
        rw [K.e, K.s, pk_sub (by omega), z.2] at q9
        exact q9 rfl
      exact G0 (tW_f1 (k := 4) cf) _
    · have q9 : I 43 29 - I 43 30 = nI 4 := q2
      rw [K.e, K.s, pk_sub (by omega)] at q9
      have c2 : tE t n p - tS t n p = 4 := (nI_eq (by omega) (by omega)).mp q9
      exact G c1 c2 0 (Nat.zero_le _) _ rfl (fun j hj => absurd hj (Nat.not_lt_zero j))
theorem tx_5 : ∀ i, i < 2 → (tx 5).getD i 0 &&& 255 = (tx 5).getD i 0 := by decide +kernel
set_option maxRecDepth 20000 in
theorem c_isWord5 {J : mJ} (X : mRules J) {I A : mI} {B : mB} {w f : Nat} {R : mR} {t : Nat → Nat} {n : Nat} (T : TpR 2 A t n) (hn : I 1 1 = nI n) {p : Nat} (hp : p ≤ n) (K : KT I t n p) (h1 : tW t n p 5 = true → R (some (.int 1)) I A B (pk w f)) (h0 : tW t n p 5 = false → R (some (.int 0)) I A B (pk w f)) : J n_Tokens_isWord 0 [.ref 6, .retAddr 6, .float 0] [] I A B (pk w f) R := by
  have hn9 := T.n9
  have hE := tE_b (t := t) hp
  have G : tK t n p = 1 → tE t n p - tS t n p = 2 → ∀ i, i ≤ 2 → ∀ (x : Int32), x = nI i → (∀ j, j < i → nI (t (tS t n p + j)) = (tx 5).getD j 0) → J n_Tokens_isWord 28 [.ref 6, .retAddr 6, .int x] [] I A B (pk w f) R := by
    intro c1 c2
    have G9 : ∀ i, i ≤ 2 → ∀ (x : Int32), x = nI i → (∀ j, j < i → nI (t (tS t n p + j)) = (tx 5).getD j 0) → J n_Tokens_isWord 28 [.ref 6, .retAddr 6, .int x] [] I A B (pk w f) R := by
      refine lpz (fun i => ∀ (x : Int32), x = nI i → (∀ j, j < i → nI (t (tS t n p + j)) = (tx 5).getD j 0) → J n_Tokens_isWord 28 [.ref 6, .retAddr 6, .int x] [] I A B (pk w f) R) (fun i hi ih => ?_)
      intro x ex hw
      subst ex
      refine X 200 _ _ _ _ _ _ _ _ _ ?_
      refine And.intro (fun q => absurd q (by decide)) (fun _ => ?_)
      refine And.intro (by first | (rw [sc_c2]; exact sc_nar _) | rfl) ?_
      refine And.intro (fun q1 => ?_) (fun q1 => ?_)
      · have e : i = 2 := lpx (n := 2) hi (by omega) q1
        subst e
        refine And.intro (Or.inr rfl) ?_
        exact h1 (tW_t (k := 5) c1 c2 hw)
      · have hl : i < 2 := lpc (n := 2) hi (by omega) q1
        refine c_byteAt X T hn (k := tS t n p + i) (by rw [K.s, nI_add]) (by omega) ?_
        rw [tsv_i (by omega)]
        refine And.intro (fun q => absurd q (by decide)) (fun _ => ?_)
        refine And.intro (fun q => absurd (by decide) q) (fun _ => ?_)
        refine And.intro (Or.inr rfl) ?_
        refine And.intro (fun q => absurd q (by decide)) (fun _ => ?_)
        refine And.intro (fun q2 => ?_) (fun q2 => ?_)
        · exact absurd q2 (nI_pos (by omega)) --end
        · refine And.intro (fun q3 => ?_) (fun q3 => ?_)
          · refine And.intro (vin (N := 2) hl (by omega)) ?_
            refine And.intro (by first | (rw [sc_c2]; exact sc_nar _) | rfl) ?_
            refine And.intro (by first | (rw [sc_c2]; exact sc_nar _) | rfl) ?_
            refine And.intro (fun q4 => ?_) (fun q4 => ?_)
            · have q9 : nI (t (tS t n p + i)) = ((((tx 5).getD (nI i).toNatClampNeg 0 &&& 255).toUInt32 % 65536).toInt32) := q4
              rw [sc_c2, cl (by omega), tx_5 i hl] at q9
              exact ih hl _ (nI_1 i) (fun j hj => by
                by_cases z : j = i
                · rw [z]; exact q9
                · exact hw j (by omega))
            · have q9 : ¬ nI (t (tS t n p + i)) = ((((tx 5).getD (nI i).toNatClampNeg 0 &&& 255).toUInt32 % 65536).toInt32) := q4
              rw [sc_c2, cl (by omega), tx_5 i hl] at q9
              refine And.intro (Or.inl rfl) ?_
              exact h0 (tW_f2 (k := 5) hl q9)
          · exact absurd (show nI i < nI 2 from nI_lt hl (by omega)) q3 --end
    exact G9
  refine X 200 _ _ _ _ _ _ _ _ _ ?_
  refine And.intro (fun q1 => ?_) (fun q1 => ?_)
  · have cf : ¬ (tK t n p = 1 ∧ tE t n p - tS t n p = 2) := fun z => q1 (by rw [K.k, z.1]; rfl)
    refine And.intro (Or.inl rfl) ?_
    exact h0 (tW_f1 (k := 5) cf)
  · rw [K.k] at q1
    have c1 : tK t n p = 1 := (nI_eq (b := 1) (by have := tK_4 (t := t) (n := n) (p := p); omega) (by omega)).mp q1
    refine And.intro (fun q => absurd q (by decide)) (fun _ => ?_)
    refine And.intro (by first | (rw [sc_c2]; exact sc_nar _) | rfl) ?_
    refine And.intro (fun q2 => ?_) (fun q2 => ?_)
    · have q9 : I 6 3 - I 6 2 = nI 2 := q2
      rw [K.e, K.s, pk_sub (by omega)] at q9
      have c2 : tE t n p - tS t n p = 2 := (nI_eq (by omega) (by omega)).mp q9
      exact G c1 c2 0 (Nat.zero_le _) _ rfl (fun j hj => absurd hj (Nat.not_lt_zero j))
    · have cf : ¬ (tK t n p = 1 ∧ tE t n p - tS t n p = 2) := fun z => by
        have q9 : ¬ I 6 3 - I 6 2 = nI 2 := q2
        rw [K.e, K.s, pk_sub (by omega), z.2] at q9
        exact q9 rfl
      refine And.intro (Or.inl rfl) ?_
      exact h0 (tW_f1 (k := 5) cf)
set_option maxRecDepth 20000 in
theorem c_Mis5 {J : mJ} (X : mRules J) {I A : mI} {B : mB} {w f : Nat} {R : mR} {t : Nat → Nat} {n : Nat} (T : TpR 60 A t n) {p : Nat} (hp : p ≤ n) (hg : I 43 33 = 0) (K : MT I t n p) (h1 : tW t n p 5 = true → R (some (.int 1)) I A B (pk w f)) (h0 : tW t n p 5 = false → R (some (.int 0)) I A B (pk w f)) : J n_M_is 0 [.ref 43, .retAddr 6, .float 0, .float 0] [] I A B (pk w f) R := by
  have hn9 := T.n9
  have hE := tE_b (t := t) hp
  have G0 : tW t n p 5 = false → ∀ x : Int32, J n_M_is 39 [.ref 43, .retAddr 6, .int 0, .int x] [] I A B (pk w f) R := by
    intro zf x
    refine X 200 _ _ _ _ _ _ _ _ _ ?_
    refine And.intro (fun q => absurd q (by decide)) (fun _ => ?_)
    refine And.intro rfl ?_
    refine And.intro (fun q1 => ?_) (fun q1 => ?_)
    · refine And.intro (Or.inl rfl) ?_
      exact h0 zf
    · refine And.intro (fun _ => ?_) (fun q => absurd (by decide) q)
      refine And.intro (Or.inl rfl) ?_
      exact h0 zf
  have G : tK t n p = 1 → tE t n p - tS t n p = 2 → ∀ i, i ≤ 2 → ∀ (x : Int32), x = nI i → (∀ j, j < i → nI (t (tS t n p + j)) = (tx 5).getD j 0) → J n_M_is 39 [.ref 43, .retAddr 6, .int 1, .int x] [] I A B (pk w f) R := by
    intro c1 c2
    have G9 : ∀ i, i ≤ 2 → ∀ (x : Int32), x = nI i → (∀ j, j < i → nI (t (tS t n p + j)) = (tx 5).getD j 0) → J n_M_is 39 [.ref 43, .retAddr 6, .int 1, .int x] [] I A B (pk w f) R := by
      refine lpz (fun i => ∀ (x : Int32), x = nI i → (∀ j, j < i → nI (t (tS t n p + j)) = (tx 5).getD j 0) → J n_M_is 39 [.ref 43, .retAddr 6, .int 1, .int x] [] I A B (pk w f) R) (fun i hi ih => ?_)
      intro x ex hw
      subst ex
      refine X 200 _ _ _ _ _ _ _ _ _ ?_
      refine And.intro (fun q => absurd q (by decide)) (fun _ => ?_)
      refine And.intro (by first | (rw [sc_c2]; exact sc_nar _) | rfl) ?_
      refine And.intro (fun q1 => ?_) (fun q1 => ?_)
      · have e : i = 2 := lpx (n := 2) hi (by omega) q1
        subst e
        refine And.intro (Or.inr rfl) ?_
        exact h1 (tW_t (k := 5) c1 c2 hw)
      · have hl : i < 2 := lpc (n := 2) hi (by omega) q1
        have eix : I 43 30 + nI i = nI (tS t n p + i) := by rw [K.s, nI_add]
        have cix : (I 43 30 + nI i).toNatClampNeg = tS t n p + i := by rw [eix]; exact cl (by omega)
        have hlt := of_decide_eq_true (tw_l hp c1 (tS t n p + i) (by omega) (by omega))
        have hbt := T.b (tS t n p + i) (by omega)
        have ebt := byt_eq hbt.2.2 hbt.1 (by omega)
        refine And.intro (fun q => absurd q (by decide)) (fun _ => ?_)
        refine Exists.intro _ (Exists.intro _ (And.intro rfl (And.intro (Or.inl rfl) (And.intro (by first | (rw [eix]; exact vin (by omega) (by omega)) | exact (vin (N := 2) hl (by omega))) ?_))))
        refine And.intro (fun q => absurd q (by decide)) (fun _ => ?_)
        refine And.intro (fun q => absurd (by decide) q) (fun _ => ?_)
        refine And.intro (Or.inr rfl) ?_
        refine And.intro (fun q => absurd q (by decide)) (fun _ => ?_)
        refine And.intro (fun q2 => ?_) (fun q2 => ?_)
        · exact absurd q2 (nI_pos (by omega)) --end
        · refine And.intro (fun q3 => ?_) (fun q3 => ?_)
          · refine And.intro (by first | (rw [eix]; exact vin (by omega) (by omega)) | exact (vin (N := 2) hl (by omega))) ?_
            refine And.intro (by first | (rw [sc_c2]; exact sc_nar _) | rfl) ?_
            refine And.intro (by first | (rw [sc_c2]; exact sc_nar _) | rfl) ?_
            refine And.intro (fun q4 => ?_) (fun q4 => ?_)
            · have q8 : ¬ A 60 (I 43 30 + nI i).toNatClampNeg = ((((tx 5).getD (nI i).toNatClampNeg 0 &&& 255).toUInt32 % 65536).toInt32) := q4
              rw [sc_c2, cl (n := i) (by omega), tx_5 i hl, cix, ebt] at q8
              exact G0 (tW_f2 (k := 5) hl q8) _
            · have q8 : A 60 (I 43 30 + nI i).toNatClampNeg = ((((tx 5).getD (nI i).toNatClampNeg 0 &&& 255).toUInt32 % 65536).toInt32) := q4
              rw [sc_c2, cl (n := i) (by omega), tx_5 i hl, cix, ebt] at q8
              exact ih hl _ (nI_1 i) (fun j hj => by
                by_cases z : j = i
                · rw [z]; exact q8
                · exact hw j (by omega))
          · exact absurd (show nI i < nI 2 from nI_lt hl (by omega)) q3 --end
    exact G9
  refine X 200 _ _ _ _ _ _ _ _ _ ?_
  refine c_Mgood X (fun _ => ?_) (fun z => absurd hg z)
  refine And.intro (fun q => absurd q (by decide)) (fun _ => ?_)
  refine And.intro (fun q1 => ?_) (fun q1 => ?_)
  · have cf : ¬ (tK t n p = 1 ∧ tE t n p - tS t n p = 2) := fun z => q1 (by rw [K.k, z.1]; rfl)
    exact G0 (tW_f1 (k := 5) cf) _
  · rw [K.k] at q1
    have c1 : tK t n p = 1 := (nI_eq (b := 1) (by have := tK_4 (t := t) (n := n) (p := p); omega) (by omega)).mp q1
    refine And.intro (fun q => absurd q (by decide)) (fun _ => ?_)
    refine And.intro (by first | (rw [sc_c2]; exact sc_nar _) | rfl) ?_
    refine And.intro (fun q2 => ?_) (fun q2 => ?_)
    · have cf : ¬ (tK t n p = 1 ∧ tE t n p - tS t n p = 2) := fun z => by
        have q9 : ¬ I 43 29 - I 43 30 = nI 2 := q2
        rw [K.e, K.s, pk_sub (by omega), z.2] at q9
        exact q9 rfl
      exact G0 (tW_f1 (k := 5) cf) _
    · have q9 : I 43 29 - I 43 30 = nI 2 := q2
      rw [K.e, K.s, pk_sub (by omega)] at q9
      have c2 : tE t n p - tS t n p = 2 := (nI_eq (by omega) (by omega)).mp q9
      exact G c1 c2 0 (Nat.zero_le _) _ rfl (fun j hj => absurd hj (Nat.not_lt_zero j))
theorem tx_6 : ∀ i, i < 5 → (tx 6).getD i 0 &&& 255 = (tx 6).getD i 0 := by decide +kernel
set_option maxRecDepth 20000 in
theorem c_isWord6 {J : mJ} (X : mRules J) {I A : mI} {B : mB} {w f : Nat} {R : mR} {t : Nat → Nat} {n : Nat} (T : TpR 2 A t n) (hn : I 1 1 = nI n) {p : Nat} (hp : p ≤ n) (K : KT I t n p) (h1 : tW t n p 6 = true → R (some (.int 1)) I A B (pk w f)) (h0 : tW t n p 6 = false → R (some (.int 0)) I A B (pk w f)) : J n_Tokens_isWord 0 [.ref 6, .retAddr 7, .float 0] [] I A B (pk w f) R := by
  have hn9 := T.n9
  have hE := tE_b (t := t) hp
  have G : tK t n p = 1 → tE t n p - tS t n p = 5 → ∀ i, i ≤ 5 → ∀ (x : Int32), x = nI i → (∀ j, j < i → nI (t (tS t n p + j)) = (tx 6).getD j 0) → J n_Tokens_isWord 28 [.ref 6, .retAddr 7, .int x] [] I A B (pk w f) R := by
    intro c1 c2
    have G9 : ∀ i, i ≤ 5 → ∀ (x : Int32), x = nI i → (∀ j, j < i → nI (t (tS t n p + j)) = (tx 6).getD j 0) → J n_Tokens_isWord 28 [.ref 6, .retAddr 7, .int x] [] I A B (pk w f) R := by
      refine lpz (fun i => ∀ (x : Int32), x = nI i → (∀ j, j < i → nI (t (tS t n p + j)) = (tx 6).getD j 0) → J n_Tokens_isWord 28 [.ref 6, .retAddr 7, .int x] [] I A B (pk w f) R) (fun i hi ih => ?_)
      intro x ex hw
      subst ex
      refine X 200 _ _ _ _ _ _ _ _ _ ?_
      refine And.intro (fun q => absurd q (by decide)) (fun _ => ?_)
      refine And.intro (by first | (rw [sc_c2]; exact sc_nar _) | rfl) ?_
      refine And.intro (fun q1 => ?_) (fun q1 => ?_)
      · have e : i = 5 := lpx (n := 5) hi (by omega) q1
        subst e
        refine And.intro (Or.inr rfl) ?_
        exact h1 (tW_t (k := 6) c1 c2 hw)
      · have hl : i < 5 := lpc (n := 5) hi (by omega) q1
        refine c_byteAt X T hn (k := tS t n p + i) (by rw [K.s, nI_add]) (by omega) ?_
        rw [tsv_i (by omega)]
        refine And.intro (fun q => absurd q (by decide)) (fun _ => ?_)
        refine And.intro (fun q => absurd (by decide) q) (fun _ => ?_)
        refine And.intro (Or.inr rfl) ?_
        refine And.intro (fun q => absurd q (by decide)) (fun _ => ?_)
        refine And.intro (fun q2 => ?_) (fun q2 => ?_)
        · exact absurd q2 (nI_pos (by omega)) --end
        · refine And.intro (fun q3 => ?_) (fun q3 => ?_)
          · refine And.intro (vin (N := 5) hl (by omega)) ?_
            refine And.intro (by first | (rw [sc_c2]; exact sc_nar _) | rfl) ?_
            refine And.intro (by first | (rw [sc_c2]; exact sc_nar _) | rfl) ?_
            refine And.intro (fun q4 => ?_) (fun q4 => ?_)
            · have q9 : nI (t (tS t n p + i)) = ((((tx 6).getD (nI i).toNatClampNeg 0 &&& 255).toUInt32 % 65536).toInt32) := q4
              rw [sc_c2, cl (by omega), tx_6 i hl] at q9
              exact ih hl _ (nI_1 i) (fun j hj => by
                by_cases z : j = i
                · rw [z]; exact q9
                · exact hw j (by omega))
            · have q9 : ¬ nI (t (tS t n p + i)) = ((((tx 6).getD (nI i).toNatClampNeg 0 &&& 255).toUInt32 % 65536).toInt32) := q4
              rw [sc_c2, cl (by omega), tx_6 i hl] at q9
              refine And.intro (Or.inl rfl) ?_
              exact h0 (tW_f2 (k := 6) hl q9)
          · exact absurd (show nI i < nI 5 from nI_lt hl (by omega)) q3 --end
    exact G9
  refine X 200 _ _ _ _ _ _ _ _ _ ?_
  refine And.intro (fun q1 => ?_) (fun q1 => ?_)
  · have cf : ¬ (tK t n p = 1 ∧ tE t n p - tS t n p = 5) := fun z => q1 (by rw [K.k, z.1]; rfl)
    refine And.intro (Or.inl rfl) ?_
    exact h0 (tW_f1 (k := 6) cf)
  · rw [K.k] at q1
    have c1 : tK t n p = 1 := (nI_eq (b := 1) (by have := tK_4 (t := t) (n := n) (p := p); omega) (by omega)).mp q1
    refine And.intro (fun q => absurd q (by decide)) (fun _ => ?_)
    refine And.intro (by first | (rw [sc_c2]; exact sc_nar _) | rfl) ?_
    refine And.intro (fun q2 => ?_) (fun q2 => ?_)
    · have q9 : I 6 3 - I 6 2 = nI 5 := q2
      rw [K.e, K.s, pk_sub (by omega)] at q9
      have c2 : tE t n p - tS t n p = 5 := (nI_eq (by omega) (by omega)).mp q9
      exact G c1 c2 0 (Nat.zero_le _) _ rfl (fun j hj => absurd hj (Nat.not_lt_zero j))
    · have cf : ¬ (tK t n p = 1 ∧ tE t n p - tS t n p = 5) := fun z => by
        have q9 : ¬ I 6 3 - I 6 2 = nI 5 := q2
        rw [K.e, K.s, pk_sub (by omega), z.2] at q9
        exact q9 rfl
      refine And.intro (Or.inl rfl) ?_
      exact h0 (tW_f1 (k := 6) cf)
set_option maxRecDepth 20000 in
theorem c_Mis6 {J : mJ} (X : mRules J) {I A : mI} {B : mB} {w f : Nat} {R : mR} {t : Nat → Nat} {n : Nat} (T : TpR 60 A t n) {p : Nat} (hp : p ≤ n) (hg : I 43 33 = 0) (K : MT I t n p) (h1 : tW t n p 6 = true → R (some (.int 1)) I A B (pk w f)) (h0 : tW t n p 6 = false → R (some (.int 0)) I A B (pk w f)) : J n_M_is 0 [.ref 43, .retAddr 7, .float 0, .float 0] [] I A B (pk w f) R := by
  have hn9 := T.n9
  have hE := tE_b (t := t) hp
  have G0 : tW t n p 6 = false → ∀ x : Int32, J n_M_is 39 [.ref 43, .retAddr 7, .int 0, .int x] [] I A B (pk w f) R := by
    intro zf x
    refine X 200 _ _ _ _ _ _ _ _ _ ?_
    refine And.intro (fun q => absurd q (by decide)) (fun _ => ?_)
    refine And.intro rfl ?_
    refine And.intro (fun q1 => ?_) (fun q1 => ?_)
    · refine And.intro (Or.inl rfl) ?_
      exact h0 zf
    · refine And.intro (fun _ => ?_) (fun q => absurd (by decide) q)
      refine And.intro (Or.inl rfl) ?_
      exact h0 zf
  have G : tK t n p = 1 → tE t n p - tS t n p = 5 → ∀ i, i ≤ 5 → ∀ (x : Int32), x = nI i → (∀ j, j < i → nI (t (tS t n p + j)) = (tx 6).getD j 0) → J n_M_is 39 [.ref 43, .retAddr 7, .int 1, .int x] [] I A B (pk w f) R := by
    intro c1 c2
    have G9 : ∀ i, i ≤ 5 → ∀ (x : Int32), x = nI i → (∀ j, j < i → nI (t (tS t n p + j)) = (tx 6).getD j 0) → J n_M_is 39 [.ref 43, .retAddr 7, .int 1, .int x] [] I A B (pk w f) R := by
      refine lpz (fun i => ∀ (x : Int32), x = nI i → (∀ j, j < i → nI (t (tS t n p + j)) = (tx 6).getD j 0) → J n_M_is 39 [.ref 43, .retAddr 7, .int 1, .int x] [] I A B (pk w f) R) (fun i hi ih => ?_)
      intro x ex hw
      subst ex
      refine X 200 _ _ _ _ _ _ _ _ _ ?_
      refine And.intro (fun q => absurd q (by decide)) (fun _ => ?_)
      refine And.intro (by first | (rw [sc_c2]; exact sc_nar _) | rfl) ?_
      refine And.intro (fun q1 => ?_) (fun q1 => ?_)
      · have e : i = 5 := lpx (n := 5) hi (by omega) q1
        subst e
        refine And.intro (Or.inr rfl) ?_
        exact h1 (tW_t (k := 6) c1 c2 hw)
      · have hl : i < 5 := lpc (n := 5) hi (by omega) q1
        have eix : I 43 30 + nI i = nI (tS t n p + i) := by rw [K.s, nI_add]
        have cix : (I 43 30 + nI i).toNatClampNeg = tS t n p + i := by rw [eix]; exact cl (by omega)
        have hlt := of_decide_eq_true (tw_l hp c1 (tS t n p + i) (by omega) (by omega))
        have hbt := T.b (tS t n p + i) (by omega)
        have ebt := byt_eq hbt.2.2 hbt.1 (by omega)
        refine And.intro (fun q => absurd q (by decide)) (fun _ => ?_)
        refine Exists.intro _ (Exists.intro _ (And.intro rfl (And.intro (Or.inl rfl) (And.intro (by first | (rw [eix]; exact vin (by omega) (by omega)) | exact (vin (N := 5) hl (by omega))) ?_))))
        refine And.intro (fun q => absurd q (by decide)) (fun _ => ?_)
        refine And.intro (fun q => absurd (by decide) q) (fun _ => ?_)
        refine And.intro (Or.inr rfl) ?_
        refine And.intro (fun q => absurd q (by decide)) (fun _ => ?_)
        refine And.intro (fun q2 => ?_) (fun q2 => ?_)
        · exact absurd q2 (nI_pos (by omega)) --end
        · refine And.intro (fun q3 => ?_) (fun q3 => ?_)
          · refine And.intro (by first | (rw [eix]; exact vin (by omega) (by omega)) | exact (vin (N := 5) hl (by omega))) ?_
            refine And.intro (by first | (rw [sc_c2]; exact sc_nar _) | rfl) ?_
            refine And.intro (by first | (rw [sc_c2]; exact sc_nar _) | rfl) ?_
            refine And.intro (fun q4 => ?_) (fun q4 => ?_)
            · have q8 : ¬ A 60 (I 43 30 + nI i).toNatClampNeg = ((((tx 6).getD (nI i).toNatClampNeg 0 &&& 255).toUInt32 % 65536).toInt32) := q4
              rw [sc_c2, cl (n := i) (by omega), tx_6 i hl, cix, ebt] at q8
              exact G0 (tW_f2 (k := 6) hl q8) _
            · have q8 : A 60 (I 43 30 + nI i).toNatClampNeg = ((((tx 6).getD (nI i).toNatClampNeg 0 &&& 255).toUInt32 % 65536).toInt32) := q4
              rw [sc_c2, cl (n := i) (by omega), tx_6 i hl, cix, ebt] at q8
              exact ih hl _ (nI_1 i) (fun j hj => by
                by_cases z : j = i
                · rw [z]; exact q8
                · exact hw j (by omega))
          · exact absurd (show nI i < nI 5 from nI_lt hl (by omega)) q3 --end
    exact G9
  refine X 200 _ _ _ _ _ _ _ _ _ ?_
  refine c_Mgood X (fun _ => ?_) (fun z => absurd hg z)
  refine And.intro (fun q => absurd q (by decide)) (fun _ => ?_)
  refine And.intro (fun q1 => ?_) (fun q1 => ?_)
  · have cf : ¬ (tK t n p = 1 ∧ tE t n p - tS t n p = 5) := fun z => q1 (by rw [K.k, z.1]; rfl)
    exact G0 (tW_f1 (k := 6) cf) _
  · rw [K.k] at q1
    have c1 : tK t n p = 1 := (nI_eq (b := 1) (by have := tK_4 (t := t) (n := n) (p := p); omega) (by omega)).mp q1
    refine And.intro (fun q => absurd q (by decide)) (fun _ => ?_)
    refine And.intro (by first | (rw [sc_c2]; exact sc_nar _) | rfl) ?_
    refine And.intro (fun q2 => ?_) (fun q2 => ?_)
    · have cf : ¬ (tK t n p = 1 ∧ tE t n p - tS t n p = 5) := fun z => by
        have q9 : ¬ I 43 29 - I 43 30 = nI 5 := q2
        rw [K.e, K.s, pk_sub (by omega), z.2] at q9
        exact q9 rfl
      exact G0 (tW_f1 (k := 6) cf) _
    · have q9 : I 43 29 - I 43 30 = nI 5 := q2
      rw [K.e, K.s, pk_sub (by omega)] at q9
      have c2 : tE t n p - tS t n p = 5 := (nI_eq (by omega) (by omega)).mp q9
      exact G c1 c2 0 (Nat.zero_le _) _ rfl (fun j hj => absurd hj (Nat.not_lt_zero j))
theorem tx_7 : ∀ i, i < 4 → (tx 7).getD i 0 &&& 255 = (tx 7).getD i 0 := by decide +kernel
set_option maxRecDepth 20000 in
theorem c_isWord7 {J : mJ} (X : mRules J) {I A : mI} {B : mB} {w f : Nat} {R : mR} {t : Nat → Nat} {n : Nat} (T : TpR 2 A t n) (hn : I 1 1 = nI n) {p : Nat} (hp : p ≤ n) (K : KT I t n p) (h1 : tW t n p 7 = true → R (some (.int 1)) I A B (pk w f)) (h0 : tW t n p 7 = false → R (some (.int 0)) I A B (pk w f)) : J n_Tokens_isWord 0 [.ref 6, .retAddr 8, .float 0] [] I A B (pk w f) R := by
  have hn9 := T.n9
  have hE := tE_b (t := t) hp
  have G : tK t n p = 1 → tE t n p - tS t n p = 4 → ∀ i, i ≤ 4 → ∀ (x : Int32), x = nI i → (∀ j, j < i → nI (t (tS t n p + j)) = (tx 7).getD j 0) → J n_Tokens_isWord 28 [.ref 6, .retAddr 8, .int x] [] I A B (pk w f) R := by
    intro c1 c2
    have G9 : ∀ i, i ≤ 4 → ∀ (x : Int32), x = nI i → (∀ j, j < i → nI (t (tS t n p + j)) = (tx 7).getD j 0) → J n_Tokens_isWord 28 [.ref 6, .retAddr 8, .int x] [] I A B (pk w f) R := by
      refine lpz (fun i => ∀ (x : Int32), x = nI i → (∀ j, j < i → nI (t (tS t n p + j)) = (tx 7).getD j 0) → J n_Tokens_isWord 28 [.ref 6, .retAddr 8, .int x] [] I A B (pk w f) R) (fun i hi ih => ?_)
      intro x ex hw
      subst ex
      refine X 200 _ _ _ _ _ _ _ _ _ ?_
      refine And.intro (fun q => absurd q (by decide)) (fun _ => ?_)
      refine And.intro (by first | (rw [sc_c2]; exact sc_nar _) | rfl) ?_
      refine And.intro (fun q1 => ?_) (fun q1 => ?_)
      · have e : i = 4 := lpx (n := 4) hi (by omega) q1
        subst e
        refine And.intro (Or.inr rfl) ?_
        exact h1 (tW_t (k := 7) c1 c2 hw)
      · have hl : i < 4 := lpc (n := 4) hi (by omega) q1
        refine c_byteAt X T hn (k := tS t n p + i) (by rw [K.s, nI_add]) (by omega) ?_
        rw [tsv_i (by omega)]
        refine And.intro (fun q => absurd q (by decide)) (fun _ => ?_)
        refine And.intro (fun q => absurd (by decide) q) (fun _ => ?_)
        refine And.intro (Or.inr rfl) ?_
        refine And.intro (fun q => absurd q (by decide)) (fun _ => ?_)
        refine And.intro (fun q2 => ?_) (fun q2 => ?_)
        · exact absurd q2 (nI_pos (by omega)) --end
        · refine And.intro (fun q3 => ?_) (fun q3 => ?_)
          · refine And.intro (vin (N := 4) hl (by omega)) ?_
            refine And.intro (by first | (rw [sc_c2]; exact sc_nar _) | rfl) ?_
            refine And.intro (by first | (rw [sc_c2]; exact sc_nar _) | rfl) ?_
            refine And.intro (fun q4 => ?_) (fun q4 => ?_)
            · have q9 : nI (t (tS t n p + i)) = ((((tx 7).getD (nI i).toNatClampNeg 0 &&& 255).toUInt32 % 65536).toInt32) := q4
              rw [sc_c2, cl (by omega), tx_7 i hl] at q9
              exact ih hl _ (nI_1 i) (fun j hj => by
                by_cases z : j = i
                · rw [z]; exact q9
                · exact hw j (by omega))
            · have q9 : ¬ nI (t (tS t n p + i)) = ((((tx 7).getD (nI i).toNatClampNeg 0 &&& 255).toUInt32 % 65536).toInt32) := q4
              rw [sc_c2, cl (by omega), tx_7 i hl] at q9
              refine And.intro (Or.inl rfl) ?_
              exact h0 (tW_f2 (k := 7) hl q9)
          · exact absurd (show nI i < nI 4 from nI_lt hl (by omega)) q3 --end
    exact G9
  refine X 200 _ _ _ _ _ _ _ _ _ ?_
  refine And.intro (fun q1 => ?_) (fun q1 => ?_)
  · have cf : ¬ (tK t n p = 1 ∧ tE t n p - tS t n p = 4) := fun z => q1 (by rw [K.k, z.1]; rfl)
    refine And.intro (Or.inl rfl) ?_
    exact h0 (tW_f1 (k := 7) cf)
  · rw [K.k] at q1
    have c1 : tK t n p = 1 := (nI_eq (b := 1) (by have := tK_4 (t := t) (n := n) (p := p); omega) (by omega)).mp q1
    refine And.intro (fun q => absurd q (by decide)) (fun _ => ?_)
    refine And.intro (by first | (rw [sc_c2]; exact sc_nar _) | rfl) ?_
    refine And.intro (fun q2 => ?_) (fun q2 => ?_)
    · have q9 : I 6 3 - I 6 2 = nI 4 := q2
      rw [K.e, K.s, pk_sub (by omega)] at q9
      have c2 : tE t n p - tS t n p = 4 := (nI_eq (by omega) (by omega)).mp q9
      exact G c1 c2 0 (Nat.zero_le _) _ rfl (fun j hj => absurd hj (Nat.not_lt_zero j))
    · have cf : ¬ (tK t n p = 1 ∧ tE t n p - tS t n p = 4) := fun z => by
        have q9 : ¬ I 6 3 - I 6 2 = nI 4 := q2
        rw [K.e, K.s, pk_sub (by omega), z.2] at q9
        exact q9 rfl
      refine And.intro (Or.inl rfl) ?_
      exact h0 (tW_f1 (k := 7) cf)
set_option maxRecDepth 20000 in
theorem c_Mis7 {J : mJ} (X : mRules J) {I A : mI} {B : mB} {w f : Nat} {R : mR} {t : Nat → Nat} {n : Nat} (T : TpR 60 A t n) {p : Nat} (hp : p ≤ n) (hg : I 43 33 = 0) (K : MT I t n p) (h1 : tW t n p 7 = true → R (some (.int 1)) I A B (pk w f)) (h0 : tW t n p 7 = false → R (some (.int 0)) I A B (pk w f)) : J n_M_is 0 [.ref 43, .retAddr 8, .float 0, .float 0] [] I A B (pk w f) R := by
  have hn9 := T.n9
  have hE := tE_b (t := t) hp
  have G0 : tW t n p 7 = false → ∀ x : Int32, J n_M_is 39 [.ref 43, .retAddr 8, .int 0, .int x] [] I A B (pk w f) R := by
    intro zf x
    refine X 200 _ _ _ _ _ _ _ _ _ ?_
    refine And.intro (fun q => absurd q (by decide)) (fun _ => ?_)
    refine And.intro rfl ?_
    refine And.intro (fun q1 => ?_) (fun q1 => ?_)
    · refine And.intro (Or.inl rfl) ?_
      exact h0 zf
    · refine And.intro (fun _ => ?_) (fun q => absurd (by decide) q)
      refine And.intro (Or.inl rfl) ?_
      exact h0 zf
  have G : tK t n p = 1 → tE t n p - tS t n p = 4 → ∀ i, i ≤ 4 → ∀ (x : Int32), x = nI i → (∀ j, j < i → nI (t (tS t n p + j)) = (tx 7).getD j 0) → J n_M_is 39 [.ref 43, .retAddr 8, .int 1, .int x] [] I A B (pk w f) R := by
    intro c1 c2
    have G9 : ∀ i, i ≤ 4 → ∀ (x : Int32), x = nI i → (∀ j, j < i → nI (t (tS t n p + j)) = (tx 7).getD j 0) → J n_M_is 39 [.ref 43, .retAddr 8, .int 1, .int x] [] I A B (pk w f) R := by
      refine lpz (fun i => ∀ (x : Int32), x = nI i → (∀ j, j < i → nI (t (tS t n p + j)) = (tx 7).getD j 0) → J n_M_is 39 [.ref 43, .retAddr 8, .int 1, .int x] [] I A B (pk w f) R) (fun i hi ih => ?_)
      intro x ex hw
      subst ex
      refine X 200 _ _ _ _ _ _ _ _ _ ?_
      refine And.intro (fun q => absurd q (by decide)) (fun _ => ?_)
      refine And.intro (by first | (rw [sc_c2]; exact sc_nar _) | rfl) ?_
      refine And.intro (fun q1 => ?_) (fun q1 => ?_)
      · have e : i = 4 := lpx (n := 4) hi (by omega) q1
        subst e
        refine And.intro (Or.inr rfl) ?_
        exact h1 (tW_t (k := 7) c1 c2 hw)
      · have hl : i < 4 := lpc (n := 4) hi (by omega) q1
        have eix : I 43 30 + nI i = nI (tS t n p + i) := by rw [K.s, nI_add]
        have cix : (I 43 30 + nI i).toNatClampNeg = tS t n p + i := by rw [eix]; exact cl (by omega)
        have hlt := of_decide_eq_true (tw_l hp c1 (tS t n p + i) (by omega) (by omega))
        have hbt := T.b (tS t n p + i) (by omega)
        have ebt := byt_eq hbt.2.2 hbt.1 (by omega)
        refine And.intro (fun q => absurd q (by decide)) (fun _ => ?_)
        refine Exists.intro _ (Exists.intro _ (And.intro rfl (And.intro (Or.inl rfl) (And.intro (by first | (rw [eix]; exact vin (by omega) (by omega)) | exact (vin (N := 4) hl (by omega))) ?_))))
        refine And.intro (fun q => absurd q (by decide)) (fun _ => ?_)
        refine And.intro (fun q => absurd (by decide) q) (fun _ => ?_)
        refine And.intro (Or.inr rfl) ?_
        refine And.intro (fun q => absurd q (by decide)) (fun _ => ?_)
        refine And.intro (fun q2 => ?_) (fun q2 => ?_)
        · exact absurd q2 (nI_pos (by omega)) --end
        · refine And.intro (fun q3 => ?_) (fun q3 => ?_)
          · refine And.intro (by first | (rw [eix]; exact vin (by omega) (by omega)) | exact (vin (N := 4) hl (by omega))) ?_
            refine And.intro (by first | (rw [sc_c2]; exact sc_nar _) | rfl) ?_
            refine And.intro (by first | (rw [sc_c2]; exact sc_nar _) | rfl) ?_
            refine And.intro (fun q4 => ?_) (fun q4 => ?_)
            · have q8 : ¬ A 60 (I 43 30 + nI i).toNatClampNeg = ((((tx 7).getD (nI i).toNatClampNeg 0 &&& 255).toUInt32 % 65536).toInt32) := q4
              rw [sc_c2, cl (n := i) (by omega), tx_7 i hl, cix, ebt] at q8
              exact G0 (tW_f2 (k := 7) hl q8) _
            · have q8 : A 60 (I 43 30 + nI i).toNatClampNeg = ((((tx 7).getD (nI i).toNatClampNeg 0 &&& 255).toUInt32 % 65536).toInt32) := q4
              rw [sc_c2, cl (n := i) (by omega), tx_7 i hl, cix, ebt] at q8
              exact ih hl _ (nI_1 i) (fun j hj => by
                by_cases z : j = i
                · rw [z]; exact q8
                · exact hw j (by omega))
          · exact absurd (show nI i < nI 4 from nI_lt hl (by omega)) q3 --end
    exact G9
  refine X 200 _ _ _ _ _ _ _ _ _ ?_
  refine c_Mgood X (fun _ => ?_) (fun z => absurd hg z)
  refine And.intro (fun q => absurd q (by decide)) (fun _ => ?_)
  refine And.intro (fun q1 => ?_) (fun q1 => ?_)
  · have cf : ¬ (tK t n p = 1 ∧ tE t n p - tS t n p = 4) := fun z => q1 (by rw [K.k, z.1]; rfl)
    exact G0 (tW_f1 (k := 7) cf) _
  · rw [K.k] at q1
    have c1 : tK t n p = 1 := (nI_eq (b := 1) (by have := tK_4 (t := t) (n := n) (p := p); omega) (by omega)).mp q1
    refine And.intro (fun q => absurd q (by decide)) (fun _ => ?_)
    refine And.intro (by first | (rw [sc_c2]; exact sc_nar _) | rfl) ?_
    refine And.intro (fun q2 => ?_) (fun q2 => ?_)
    · have cf : ¬ (tK t n p = 1 ∧ tE t n p - tS t n p = 4) := fun z => by
        have q9 : ¬ I 43 29 - I 43 30 = nI 4 := q2
        rw [K.e, K.s, pk_sub (by omega), z.2] at q9
        exact q9 rfl
      exact G0 (tW_f1 (k := 7) cf) _
    · have q9 : I 43 29 - I 43 30 = nI 4 := q2
      rw [K.e, K.s, pk_sub (by omega)] at q9
      have c2 : tE t n p - tS t n p = 4 := (nI_eq (by omega) (by omega)).mp q9
      exact G c1 c2 0 (Nat.zero_le _) _ rfl (fun j hj => absurd hj (Nat.not_lt_zero j))
theorem tx_8 : ∀ i, i < 5 → (tx 8).getD i 0 &&& 255 = (tx 8).getD i 0 := by decide +kernel
set_option maxRecDepth 20000 in
theorem c_isWord8 {J : mJ} (X : mRules J) {I A : mI} {B : mB} {w f : Nat} {R : mR} {t : Nat → Nat} {n : Nat} (T : TpR 2 A t n) (hn : I 1 1 = nI n) {p : Nat} (hp : p ≤ n) (K : KT I t n p) (h1 : tW t n p 8 = true → R (some (.int 1)) I A B (pk w f)) (h0 : tW t n p 8 = false → R (some (.int 0)) I A B (pk w f)) : J n_Tokens_isWord 0 [.ref 6, .retAddr 9, .float 0] [] I A B (pk w f) R := by
  have hn9 := T.n9
  have hE := tE_b (t := t) hp
  have G : tK t n p = 1 → tE t n p - tS t n p = 5 → ∀ i, i ≤ 5 → ∀ (x : Int32), x = nI i → (∀ j, j < i → nI (t (tS t n p + j)) = (tx 8).getD j 0) → J n_Tokens_isWord 28 [.ref 6, .retAddr 9, .int x] [] I A B (pk w f) R := by
    intro c1 c2
    have G9 : ∀ i, i ≤ 5 → ∀ (x : Int32), x = nI i → (∀ j, j < i → nI (t (tS t n p + j)) = (tx 8).getD j 0) → J n_Tokens_isWord 28 [.ref 6, .retAddr 9, .int x] [] I A B (pk w f) R := by
      refine lpz (fun i => ∀ (x : Int32), x = nI i → (∀ j, j < i → nI (t (tS t n p + j)) = (tx 8).getD j 0) → J n_Tokens_isWord 28 [.ref 6, .retAddr 9, .int x] [] I A B (pk w f) R) (fun i hi ih => ?_)
      intro x ex hw
      subst ex
      refine X 200 _ _ _ _ _ _ _ _ _ ?_
      refine And.intro (fun q => absurd q (by decide)) (fun _ => ?_)
      refine And.intro (by first | (rw [sc_c2]; exact sc_nar _) | rfl) ?_
      refine And.intro (fun q1 => ?_) (fun q1 => ?_)
      · have e : i = 5 := lpx (n := 5) hi (by omega) q1
        subst e
        refine And.intro (Or.inr rfl) ?_
        exact h1 (tW_t (k := 8) c1 c2 hw)
      · have hl : i < 5 := lpc (n := 5) hi (by omega) q1
        refine c_byteAt X T hn (k := tS t n p + i) (by rw [K.s, nI_add]) (by omega) ?_
        rw [tsv_i (by omega)]
        refine And.intro (fun q => absurd q (by decide)) (fun _ => ?_)
        refine And.intro (fun q => absurd (by decide) q) (fun _ => ?_)
        refine And.intro (Or.inr rfl) ?_
        refine And.intro (fun q => absurd q (by decide)) (fun _ => ?_)
        refine And.intro (fun q2 => ?_) (fun q2 => ?_)
        · exact absurd q2 (nI_pos (by omega)) --end
        · refine And.intro (fun q3 => ?_) (fun q3 => ?_)
          · refine And.intro (vin (N := 5) hl (by omega)) ?_
            refine And.intro (by first | (rw [sc_c2]; exact sc_nar _) | rfl) ?_
            refine And.intro (by first | (rw [sc_c2]; exact sc_nar _) | rfl) ?_
            refine And.intro (fun q4 => ?_) (fun q4 => ?_)
            · have q9 : nI (t (tS t n p + i)) = ((((tx 8).getD (nI i).toNatClampNeg 0 &&& 255).toUInt32 % 65536).toInt32) := q4
              rw [sc_c2, cl (by omega), tx_8 i hl] at q9
              exact ih hl _ (nI_1 i) (fun j hj => by
                by_cases z : j = i
                · rw [z]; exact q9
                · exact hw j (by omega))
            · have q9 : ¬ nI (t (tS t n p + i)) = ((((tx 8).getD (nI i).toNatClampNeg 0 &&& 255).toUInt32 % 65536).toInt32) := q4
              rw [sc_c2, cl (by omega), tx_8 i hl] at q9
              refine And.intro (Or.inl rfl) ?_
              exact h0 (tW_f2 (k := 8) hl q9)
          · exact absurd (show nI i < nI 5 from nI_lt hl (by omega)) q3 --end
    exact G9
  refine X 200 _ _ _ _ _ _ _ _ _ ?_
  refine And.intro (fun q1 => ?_) (fun q1 => ?_)
  · have cf : ¬ (tK t n p = 1 ∧ tE t n p - tS t n p = 5) := fun z => q1 (by rw [K.k, z.1]; rfl)
    refine And.intro (Or.inl rfl) ?_
    exact h0 (tW_f1 (k := 8) cf)
  · rw [K.k] at q1
    have c1 : tK t n p = 1 := (nI_eq (b := 1) (by have := tK_4 (t := t) (n := n) (p := p); omega) (by omega)).mp q1
    refine And.intro (fun q => absurd q (by decide)) (fun _ => ?_)
    refine And.intro (by first | (rw [sc_c2]; exact sc_nar _) | rfl) ?_
    refine And.intro (fun q2 => ?_) (fun q2 => ?_)
    · have q9 : I 6 3 - I 6 2 = nI 5 := q2
      rw [K.e, K.s, pk_sub (by omega)] at q9
      have c2 : tE t n p - tS t n p = 5 := (nI_eq (by omega) (by omega)).mp q9
      exact G c1 c2 0 (Nat.zero_le _) _ rfl (fun j hj => absurd hj (Nat.not_lt_zero j))
    · have cf : ¬ (tK t n p = 1 ∧ tE t n p - tS t n p = 5) := fun z => by
        have q9 : ¬ I 6 3 - I 6 2 = nI 5 := q2
        rw [K.e, K.s, pk_sub (by omega), z.2] at q9
        exact q9 rfl
      refine And.intro (Or.inl rfl) ?_
      exact h0 (tW_f1 (k := 8) cf)
set_option maxRecDepth 20000 in
theorem c_Mis8 {J : mJ} (X : mRules J) {I A : mI} {B : mB} {w f : Nat} {R : mR} {t : Nat → Nat} {n : Nat} (T : TpR 60 A t n) {p : Nat} (hp : p ≤ n) (hg : I 43 33 = 0) (K : MT I t n p) (h1 : tW t n p 8 = true → R (some (.int 1)) I A B (pk w f)) (h0 : tW t n p 8 = false → R (some (.int 0)) I A B (pk w f)) : J n_M_is 0 [.ref 43, .retAddr 9, .float 0, .float 0] [] I A B (pk w f) R := by
  have hn9 := T.n9
  have hE := tE_b (t := t) hp
  have G0 : tW t n p 8 = false → ∀ x : Int32, J n_M_is 39 [.ref 43, .retAddr 9, .int 0, .int x] [] I A B (pk w f) R := by
    intro zf x
    refine X 200 _ _ _ _ _ _ _ _ _ ?_
    refine And.intro (fun q => absurd q (by decide)) (fun _ => ?_)
    refine And.intro rfl ?_
    refine And.intro (fun q1 => ?_) (fun q1 => ?_)
    · refine And.intro (Or.inl rfl) ?_
      exact h0 zf
    · refine And.intro (fun _ => ?_) (fun q => absurd (by decide) q)
      refine And.intro (Or.inl rfl) ?_
      exact h0 zf
  have G : tK t n p = 1 → tE t n p - tS t n p = 5 → ∀ i, i ≤ 5 → ∀ (x : Int32), x = nI i → (∀ j, j < i → nI (t (tS t n p + j)) = (tx 8).getD j 0) → J n_M_is 39 [.ref 43, .retAddr 9, .int 1, .int x] [] I A B (pk w f) R := by
    intro c1 c2
    have G9 : ∀ i, i ≤ 5 → ∀ (x : Int32), x = nI i → (∀ j, j < i → nI (t (tS t n p + j)) = (tx 8).getD j 0) → J n_M_is 39 [.ref 43, .retAddr 9, .int 1, .int x] [] I A B (pk w f) R := by
      refine lpz (fun i => ∀ (x : Int32), x = nI i → (∀ j, j < i → nI (t (tS t n p + j)) = (tx 8).getD j 0) → J n_M_is 39 [.ref 43, .retAddr 9, .int 1, .int x] [] I A B (pk w f) R) (fun i hi ih => ?_)
      intro x ex hw
      subst ex
      refine X 200 _ _ _ _ _ _ _ _ _ ?_
      refine And.intro (fun q => absurd q (by decide)) (fun _ => ?_)
      refine And.intro (by first | (rw [sc_c2]; exact sc_nar _) | rfl) ?_
      refine And.intro (fun q1 => ?_) (fun q1 => ?_)
      · have e : i = 5 := lpx (n := 5) hi (by omega) q1
        subst e
        refine And.intro (Or.inr rfl) ?_
        exact h1 (tW_t (k := 8) c1 c2 hw)
      · have hl : i < 5 := lpc (n := 5) hi (by omega) q1
        have eix : I 43 30 + nI i = nI (tS t n p + i) := by rw [K.s, nI_add]
        have cix : (I 43 30 + nI i).toNatClampNeg = tS t n p + i := by rw [eix]; exact cl (by omega)
        have hlt := of_decide_eq_true (tw_l hp c1 (tS t n p + i) (by omega) (by omega))
        have hbt := T.b (tS t n p + i) (by omega)
        have ebt := byt_eq hbt.2.2 hbt.1 (by omega)
        refine And.intro (fun q => absurd q (by decide)) (fun _ => ?_)
        refine Exists.intro _ (Exists.intro _ (And.intro rfl (And.intro (Or.inl rfl) (And.intro (by first | (rw [eix]; exact vin (by omega) (by omega)) | exact (vin (N := 5) hl (by omega))) ?_))))
        refine And.intro (fun q => absurd q (by decide)) (fun _ => ?_)
        refine And.intro (fun q => absurd (by decide) q) (fun _ => ?_)
        refine And.intro (Or.inr rfl) ?_
        refine And.intro (fun q => absurd q (by decide)) (fun _ => ?_)
        refine And.intro (fun q2 => ?_) (fun q2 => ?_)
        · exact absurd q2 (nI_pos (by omega)) --end
        · refine And.intro (fun q3 => ?_) (fun q3 => ?_)
          · refine And.intro (by first | (rw [eix]; exact vin (by omega) (by omega)) | exact (vin (N := 5) hl (by omega))) ?_
            refine And.intro (by first | (rw [sc_c2]; exact sc_nar _) | rfl) ?_
            refine And.intro (by first | (rw [sc_c2]; exact sc_nar _) | rfl) ?_
            refine And.intro (fun q4 => ?_) (fun q4 => ?_)
            · have q8 : ¬ A 60 (I 43 30 + nI i).toNatClampNeg = ((((tx 8).getD (nI i).toNatClampNeg 0 &&& 255).toUInt32 % 65536).toInt32) := q4
              rw [sc_c2, cl (n := i) (by omega), tx_8 i hl, cix, ebt] at q8
              exact G0 (tW_f2 (k := 8) hl q8) _
            · have q8 : A 60 (I 43 30 + nI i).toNatClampNeg = ((((tx 8).getD (nI i).toNatClampNeg 0 &&& 255).toUInt32 % 65536).toInt32) := q4
              rw [sc_c2, cl (n := i) (by omega), tx_8 i hl, cix, ebt] at q8
              exact ih hl _ (nI_1 i) (fun j hj => by
                by_cases z : j = i
                · rw [z]; exact q8
                · exact hw j (by omega))
          · exact absurd (show nI i < nI 5 from nI_lt hl (by omega)) q3 --end
    exact G9
  refine X 200 _ _ _ _ _ _ _ _ _ ?_
  refine c_Mgood X (fun _ => ?_) (fun z => absurd hg z)
  refine And.intro (fun q => absurd q (by decide)) (fun _ => ?_)
  refine And.intro (fun q1 => ?_) (fun q1 => ?_)
  · have cf : ¬ (tK t n p = 1 ∧ tE t n p - tS t n p = 5) := fun z => q1 (by rw [K.k, z.1]; rfl)
    exact G0 (tW_f1 (k := 8) cf) _
  · rw [K.k] at q1
    have c1 : tK t n p = 1 := (nI_eq (b := 1) (by have := tK_4 (t := t) (n := n) (p := p); omega) (by omega)).mp q1
    refine And.intro (fun q => absurd q (by decide)) (fun _ => ?_)
    refine And.intro (by first | (rw [sc_c2]; exact sc_nar _) | rfl) ?_
    refine And.intro (fun q2 => ?_) (fun q2 => ?_)
    · have cf : ¬ (tK t n p = 1 ∧ tE t n p - tS t n p = 5) := fun z => by
        have q9 : ¬ I 43 29 - I 43 30 = nI 5 := q2
        rw [K.e, K.s, pk_sub (by omega), z.2] at q9
        exact q9 rfl
      exact G0 (tW_f1 (k := 8) cf) _
    · have q9 : I 43 29 - I 43 30 = nI 5 := q2
      rw [K.e, K.s, pk_sub (by omega)] at q9
      have c2 : tE t n p - tS t n p = 5 := (nI_eq (by omega) (by omega)).mp q9
      exact G c1 c2 0 (Nat.zero_le _) _ rfl (fun j hj => absurd hj (Nat.not_lt_zero j))
theorem tx_9 : ∀ i, i < 4 → (tx 9).getD i 0 &&& 255 = (tx 9).getD i 0 := by decide +kernel
set_option maxRecDepth 20000 in
theorem c_isWord9 {J : mJ} (X : mRules J) {I A : mI} {B : mB} {w f : Nat} {R : mR} {t : Nat → Nat} {n : Nat} (T : TpR 2 A t n) (hn : I 1 1 = nI n) {p : Nat} (hp : p ≤ n) (K : KT I t n p) (h1 : tW t n p 9 = true → R (some (.int 1)) I A B (pk w f)) (h0 : tW t n p 9 = false → R (some (.int 0)) I A B (pk w f)) : J n_Tokens_isWord 0 [.ref 6, .retAddr 10, .float 0] [] I A B (pk w f) R := by
  have hn9 := T.n9
  have hE := tE_b (t := t) hp
  have G : tK t n p = 1 → tE t n p - tS t n p = 4 → ∀ i, i ≤ 4 → ∀ (x : Int32), x = nI i → (∀ j, j < i → nI (t (tS t n p + j)) = (tx 9).getD j 0) → J n_Tokens_isWord 28 [.ref 6, .retAddr 10, .int x] [] I A B (pk w f) R := by
    intro c1 c2
    have G9 : ∀ i, i ≤ 4 → ∀ (x : Int32), x = nI i → (∀ j, j < i → nI (t (tS t n p + j)) = (tx 9).getD j 0) → J n_Tokens_isWord 28 [.ref 6, .retAddr 10, .int x] [] I A B (pk w f) R := by
      refine lpz (fun i => ∀ (x : Int32), x = nI i → (∀ j, j < i → nI (t (tS t n p + j)) = (tx 9).getD j 0) → J n_Tokens_isWord 28 [.ref 6, .retAddr 10, .int x] [] I A B (pk w f) R) (fun i hi ih => ?_)
      intro x ex hw
      subst ex
      refine X 200 _ _ _ _ _ _ _ _ _ ?_
      refine And.intro (fun q => absurd q (by decide)) (fun _ => ?_)
      refine And.intro (by first | (rw [sc_c2]; exact sc_nar _) | rfl) ?_
      refine And.intro (fun q1 => ?_) (fun q1 => ?_)
      · have e : i = 4 := lpx (n := 4) hi (by omega) q1
        subst e
        refine And.intro (Or.inr rfl) ?_
        exact h1 (tW_t (k := 9) c1 c2 hw)
      · have hl : i < 4 := lpc (n := 4) hi (by omega) q1
        refine c_byteAt X T hn (k := tS t n p + i) (by rw [K.s, nI_add]) (by omega) ?_
        rw [tsv_i (by omega)]
        refine And.intro (fun q => absurd q (by decide)) (fun _ => ?_)
        refine And.intro (fun q => absurd (by decide) q) (fun _ => ?_)
        refine And.intro (Or.inr rfl) ?_
        refine And.intro (fun q => absurd q (by decide)) (fun _ => ?_)
        refine And.intro (fun q2 => ?_) (fun q2 => ?_)
        · exact absurd q2 (nI_pos (by omega)) --end
        · refine And.intro (fun q3 => ?_) (fun q3 => ?_)
          · refine And.intro (vin (N := 4) hl (by omega)) ?_
            refine And.intro (by first | (rw [sc_c2]; exact sc_nar _) | rfl) ?_
            refine And.intro (by first | (rw [sc_c2]; exact sc_nar _) | rfl) ?_
            refine And.intro (fun q4 => ?_) (fun q4 => ?_)
            · have q9 : nI (t (tS t n p + i)) = ((((tx 9).getD (nI i).toNatClampNeg 0 &&& 255).toUInt32 % 65536).toInt32) := q4
              rw [sc_c2, cl (by omega), tx_9 i hl] at q9
              exact ih hl _ (nI_1 i) (fun j hj => by
                by_cases z : j = i
                · rw [z]; exact q9
                · exact hw j (by omega))
            · have q9 : ¬ nI (t (tS t n p + i)) = ((((tx 9).getD (nI i).toNatClampNeg 0 &&& 255).toUInt32 % 65536).toInt32) := q4
              rw [sc_c2, cl (by omega), tx_9 i hl] at q9
              refine And.intro (Or.inl rfl) ?_
              exact h0 (tW_f2 (k := 9) hl q9)
          · exact absurd (show nI i < nI 4 from nI_lt hl (by omega)) q3 --end
    exact G9
  refine X 200 _ _ _ _ _ _ _ _ _ ?_
  refine And.intro (fun q1 => ?_) (fun q1 => ?_)
  · have cf : ¬ (tK t n p = 1 ∧ tE t n p - tS t n p = 4) := fun z => q1 (by rw [K.k, z.1]; rfl)
    refine And.intro (Or.inl rfl) ?_
    exact h0 (tW_f1 (k := 9) cf)
  · rw [K.k] at q1
    have c1 : tK t n p = 1 := (nI_eq (b := 1) (by have := tK_4 (t := t) (n := n) (p := p); omega) (by omega)).mp q1
    refine And.intro (fun q => absurd q (by decide)) (fun _ => ?_)
    refine And.intro (by first | (rw [sc_c2]; exact sc_nar _) | rfl) ?_
    refine And.intro (fun q2 => ?_) (fun q2 => ?_)
    · have q9 : I 6 3 - I 6 2 = nI 4 := q2
      rw [K.e, K.s, pk_sub (by omega)] at q9
      have c2 : tE t n p - tS t n p = 4 := (nI_eq (by omega) (by omega)).mp q9
      exact G c1 c2 0 (Nat.zero_le _) _ rfl (fun j hj => absurd hj (Nat.not_lt_zero j))
    · have cf : ¬ (tK t n p = 1 ∧ tE t n p - tS t n p = 4) := fun z => by
        have q9 : ¬ I 6 3 - I 6 2 = nI 4 := q2
        rw [K.e, K.s, pk_sub (by omega), z.2] at q9
        exact q9 rfl
      refine And.intro (Or.inl rfl) ?_
      exact h0 (tW_f1 (k := 9) cf)
set_option maxRecDepth 20000 in
theorem c_Mis9 {J : mJ} (X : mRules J) {I A : mI} {B : mB} {w f : Nat} {R : mR} {t : Nat → Nat} {n : Nat} (T : TpR 60 A t n) {p : Nat} (hp : p ≤ n) (hg : I 43 33 = 0) (K : MT I t n p) (h1 : tW t n p 9 = true → R (some (.int 1)) I A B (pk w f)) (h0 : tW t n p 9 = false → R (some (.int 0)) I A B (pk w f)) : J n_M_is 0 [.ref 43, .retAddr 10, .float 0, .float 0] [] I A B (pk w f) R := by
  have hn9 := T.n9
  have hE := tE_b (t := t) hp
  have G0 : tW t n p 9 = false → ∀ x : Int32, J n_M_is 39 [.ref 43, .retAddr 10, .int 0, .int x] [] I A B (pk w f) R := by
    intro zf x
    refine X 200 _ _ _ _ _ _ _ _ _ ?_
    refine And.intro (fun q => absurd q (by decide)) (fun _ => ?_)
    refine And.intro rfl ?_
    refine And.intro (fun q1 => ?_) (fun q1 => ?_)
    · refine And.intro (Or.inl rfl) ?_
      exact h0 zf
    · refine And.intro (fun _ => ?_) (fun q => absurd (by decide) q)
      refine And.intro (Or.inl rfl) ?_
      exact h0 zf
  have G : tK t n p = 1 → tE t n p - tS t n p = 4 → ∀ i, i ≤ 4 → ∀ (x : Int32), x = nI i → (∀ j, j < i → nI (t (tS t n p + j)) = (tx 9).getD j 0) → J n_M_is 39 [.ref 43, .retAddr 10, .int 1, .int x] [] I A B (pk w f) R := by
    intro c1 c2
    have G9 : ∀ i, i ≤ 4 → ∀ (x : Int32), x = nI i → (∀ j, j < i → nI (t (tS t n p + j)) = (tx 9).getD j 0) → J n_M_is 39 [.ref 43, .retAddr 10, .int 1, .int x] [] I A B (pk w f) R := by
      refine lpz (fun i => ∀ (x : Int32), x = nI i → (∀ j, j < i → nI (t (tS t n p + j)) = (tx 9).getD j 0) → J n_M_is 39 [.ref 43, .retAddr 10, .int 1, .int x] [] I A B (pk w f) R) (fun i hi ih => ?_)
      intro x ex hw
      subst ex
      refine X 200 _ _ _ _ _ _ _ _ _ ?_
      refine And.intro (fun q => absurd q (by decide)) (fun _ => ?_)
      refine And.intro (by first | (rw [sc_c2]; exact sc_nar _) | rfl) ?_
      refine And.intro (fun q1 => ?_) (fun q1 => ?_)
      · have e : i = 4 := lpx (n := 4) hi (by omega) q1
        subst e
        refine And.intro (Or.inr rfl) ?_
        exact h1 (tW_t (k := 9) c1 c2 hw)
      · have hl : i < 4 := lpc (n := 4) hi (by omega) q1
        have eix : I 43 30 + nI i = nI (tS t n p + i) := by rw [K.s, nI_add]
        have cix : (I 43 30 + nI i).toNatClampNeg = tS t n p + i := by rw [eix]; exact cl (by omega)
        have hlt := of_decide_eq_true (tw_l hp c1 (tS t n p + i) (by omega) (by omega))
        have hbt := T.b (tS t n p + i) (by omega)
        have ebt := byt_eq hbt.2.2 hbt.1 (by omega)
        refine And.intro (fun q => absurd q (by decide)) (fun _ => ?_)
        refine Exists.intro _ (Exists.intro _ (And.intro rfl (And.intro (Or.inl rfl) (And.intro (by first | (rw [eix]; exact vin (by omega) (by omega)) | exact (vin (N := 4) hl (by omega))) ?_))))
        refine And.intro (fun q => absurd q (by decide)) (fun _ => ?_)
        refine And.intro (fun q => absurd (by decide) q) (fun _ => ?_)
        refine And.intro (Or.inr rfl) ?_
        refine And.intro (fun q => absurd q (by decide)) (fun _ => ?_)
        refine And.intro (fun q2 => ?_) (fun q2 => ?_)
        · exact absurd q2 (nI_pos (by omega)) --end
        · refine And.intro (fun q3 => ?_) (fun q3 => ?_)
          · refine And.intro (by first | (rw [eix]; exact vin (by omega) (by omega)) | exact (vin (N := 4) hl (by omega))) ?_
            refine And.intro (by first | (rw [sc_c2]; exact sc_nar _) | rfl) ?_
            refine And.intro (by first | (rw [sc_c2]; exact sc_nar _) | rfl) ?_
            refine And.intro (fun q4 => ?_) (fun q4 => ?_)
            · have q8 : ¬ A 60 (I 43 30 + nI i).toNatClampNeg = ((((tx 9).getD (nI i).toNatClampNeg 0 &&& 255).toUInt32 % 65536).toInt32) := q4
              rw [sc_c2, cl (n := i) (by omega), tx_9 i hl, cix, ebt] at q8
              exact G0 (tW_f2 (k := 9) hl q8) _
            · have q8 : A 60 (I 43 30 + nI i).toNatClampNeg = ((((tx 9).getD (nI i).toNatClampNeg 0 &&& 255).toUInt32 % 65536).toInt32) := q4
              rw [sc_c2, cl (n := i) (by omega), tx_9 i hl, cix, ebt] at q8
              exact ih hl _ (nI_1 i) (fun j hj => by
                by_cases z : j = i
                · rw [z]; exact q8
                · exact hw j (by omega))
          · exact absurd (show nI i < nI 4 from nI_lt hl (by omega)) q3 --end
    exact G9
  refine X 200 _ _ _ _ _ _ _ _ _ ?_
  refine c_Mgood X (fun _ => ?_) (fun z => absurd hg z)
  refine And.intro (fun q => absurd q (by decide)) (fun _ => ?_)
  refine And.intro (fun q1 => ?_) (fun q1 => ?_)
  · have cf : ¬ (tK t n p = 1 ∧ tE t n p - tS t n p = 4) := fun z => q1 (by rw [K.k, z.1]; rfl)
    exact G0 (tW_f1 (k := 9) cf) _
  · rw [K.k] at q1
    have c1 : tK t n p = 1 := (nI_eq (b := 1) (by have := tK_4 (t := t) (n := n) (p := p); omega) (by omega)).mp q1
    refine And.intro (fun q => absurd q (by decide)) (fun _ => ?_)
    refine And.intro (by first | (rw [sc_c2]; exact sc_nar _) | rfl) ?_
    refine And.intro (fun q2 => ?_) (fun q2 => ?_)
    · have cf : ¬ (tK t n p = 1 ∧ tE t n p - tS t n p = 4) := fun z => by
        have q9 : ¬ I 43 29 - I 43 30 = nI 4 := q2
        rw [K.e, K.s, pk_sub (by omega), z.2] at q9
        exact q9 rfl
      exact G0 (tW_f1 (k := 9) cf) _
    · have q9 : I 43 29 - I 43 30 = nI 4 := q2
      rw [K.e, K.s, pk_sub (by omega)] at q9
      have c2 : tE t n p - tS t n p = 4 := (nI_eq (by omega) (by omega)).mp q9
      exact G c1 c2 0 (Nat.zero_le _) _ rfl (fun j hj => absurd hj (Nat.not_lt_zero j))
theorem tx_10 : ∀ i, i < 3 → (tx 10).getD i 0 &&& 255 = (tx 10).getD i 0 := by decide +kernel
set_option maxRecDepth 20000 in
theorem c_isWord10 {J : mJ} (X : mRules J) {I A : mI} {B : mB} {w f : Nat} {R : mR} {t : Nat → Nat} {n : Nat} (T : TpR 2 A t n) (hn : I 1 1 = nI n) {p : Nat} (hp : p ≤ n) (K : KT I t n p) (h1 : tW t n p 10 = true → R (some (.int 1)) I A B (pk w f)) (h0 : tW t n p 10 = false → R (some (.int 0)) I A B (pk w f)) : J n_Tokens_isWord 0 [.ref 6, .retAddr 11, .float 0] [] I A B (pk w f) R := by
  have hn9 := T.n9
  have hE := tE_b (t := t) hp
  have G : tK t n p = 1 → tE t n p - tS t n p = 3 → ∀ i, i ≤ 3 → ∀ (x : Int32), x = nI i → (∀ j, j < i → nI (t (tS t n p + j)) = (tx 10).getD j 0) → J n_Tokens_isWord 28 [.ref 6, .retAddr 11, .int x] [] I A B (pk w f) R := by
    intro c1 c2
    have G9 : ∀ i, i ≤ 3 → ∀ (x : Int32), x = nI i → (∀ j, j < i → nI (t (tS t n p + j)) = (tx 10).getD j 0) → J n_Tokens_isWord 28 [.ref 6, .retAddr 11, .int x] [] I A B (pk w f) R := by
      refine lpz (fun i => ∀ (x : Int32), x = nI i → (∀ j, j < i → nI (t (tS t n p + j)) = (tx 10).getD j 0) → J n_Tokens_isWord 28 [.ref 6, .retAddr 11, .int x] [] I A B (pk w f) R) (fun i hi ih => ?_)
      intro x ex hw
      subst ex
      refine X 200 _ _ _ _ _ _ _ _ _ ?_
      refine And.intro (fun q => absurd q (by decide)) (fun _ => ?_)
      refine And.intro (by first | (rw [sc_c2]; exact sc_nar _) | rfl) ?_
      refine And.intro (fun q1 => ?_) (fun q1 => ?_)
      · have e : i = 3 := lpx (n := 3) hi (by omega) q1
        subst e
        refine And.intro (Or.inr rfl) ?_
        exact h1 (tW_t (k := 10) c1 c2 hw)
      · have hl : i < 3 := lpc (n := 3) hi (by omega) q1
        refine c_byteAt X T hn (k := tS t n p + i) (by rw [K.s, nI_add]) (by omega) ?_
        rw [tsv_i (by omega)]
        refine And.intro (fun q => absurd q (by decide)) (fun _ => ?_)
        refine And.intro (fun q => absurd (by decide) q) (fun _ => ?_)
        refine And.intro (Or.inr rfl) ?_
        refine And.intro (fun q => absurd q (by decide)) (fun _ => ?_)
        refine And.intro (fun q2 => ?_) (fun q2 => ?_)
        · exact absurd q2 (nI_pos (by omega)) --end
        · refine And.intro (fun q3 => ?_) (fun q3 => ?_)
          · refine And.intro (vin (N := 3) hl (by omega)) ?_
            refine And.intro (by first | (rw [sc_c2]; exact sc_nar _) | rfl) ?_
            refine And.intro (by first | (rw [sc_c2]; exact sc_nar _) | rfl) ?_
            refine And.intro (fun q4 => ?_) (fun q4 => ?_)
            · have q9 : nI (t (tS t n p + i)) = ((((tx 10).getD (nI i).toNatClampNeg 0 &&& 255).toUInt32 % 65536).toInt32) := q4
              rw [sc_c2, cl (by omega), tx_10 i hl] at q9
              exact ih hl _ (nI_1 i) (fun j hj => by
                by_cases z : j = i
                · rw [z]; exact q9
                · exact hw j (by omega))
            · have q9 : ¬ nI (t (tS t n p + i)) = ((((tx 10).getD (nI i).toNatClampNeg 0 &&& 255).toUInt32 % 65536).toInt32) := q4
              rw [sc_c2, cl (by omega), tx_10 i hl] at q9
              refine And.intro (Or.inl rfl) ?_
              exact h0 (tW_f2 (k := 10) hl q9)
          · exact absurd (show nI i < nI 3 from nI_lt hl (by omega)) q3 --end
    exact G9
  refine X 200 _ _ _ _ _ _ _ _ _ ?_
  refine And.intro (fun q1 => ?_) (fun q1 => ?_)
  · have cf : ¬ (tK t n p = 1 ∧ tE t n p - tS t n p = 3) := fun z => q1 (by rw [K.k, z.1]; rfl)
    refine And.intro (Or.inl rfl) ?_
    exact h0 (tW_f1 (k := 10) cf)
  · rw [K.k] at q1
    have c1 : tK t n p = 1 := (nI_eq (b := 1) (by have := tK_4 (t := t) (n := n) (p := p); omega) (by omega)).mp q1
    refine And.intro (fun q => absurd q (by decide)) (fun _ => ?_)
    refine And.intro (by first | (rw [sc_c2]; exact sc_nar _) | rfl) ?_
    refine And.intro (fun q2 => ?_) (fun q2 => ?_)
    · have q9 : I 6 3 - I 6 2 = nI 3 := q2
      rw [K.e, K.s, pk_sub (by omega)] at q9
      have c2 : tE t n p - tS t n p = 3 := (nI_eq (by omega) (by omega)).mp q9
      exact G c1 c2 0 (Nat.zero_le _) _ rfl (fun j hj => absurd hj (Nat.not_lt_zero j))
    · have cf : ¬ (tK t n p = 1 ∧ tE t n p - tS t n p = 3) := fun z => by
        have q9 : ¬ I 6 3 - I 6 2 = nI 3 := q2
        rw [K.e, K.s, pk_sub (by omega), z.2] at q9
        exact q9 rfl
      refine And.intro (Or.inl rfl) ?_
      exact h0 (tW_f1 (k := 10) cf)
set_option maxRecDepth 20000 in
theorem c_Mis10 {J : mJ} (X : mRules J) {I A : mI} {B : mB} {w f : Nat} {R : mR} {t : Nat → Nat} {n : Nat} (T : TpR 60 A t n) {p : Nat} (hp : p ≤ n) (hg : I 43 33 = 0) (K : MT I t n p) (h1 : tW t n p 10 = true → R (some (.int 1)) I A B (pk w f)) (h0 : tW t n p 10 = false → R (some (.int 0)) I A B (pk w f)) : J n_M_is 0 [.ref 43, .retAddr 11, .float 0, .float 0] [] I A B (pk w f) R := by
  have hn9 := T.n9
  have hE := tE_b (t := t) hp
  have G0 : tW t n p 10 = false → ∀ x : Int32, J n_M_is 39 [.ref 43, .retAddr 11, .int 0, .int x] [] I A B (pk w f) R := by
    intro zf x
    refine X 200 _ _ _ _ _ _ _ _ _ ?_
    refine And.intro (fun q => absurd q (by decide)) (fun _ => ?_)
    refine And.intro rfl ?_
    refine And.intro (fun q1 => ?_) (fun q1 => ?_)
    · refine And.intro (Or.inl rfl) ?_
      exact h0 zf
    · refine And.intro (fun _ => ?_) (fun q => absurd (by decide) q)
      refine And.intro (Or.inl rfl) ?_
      exact h0 zf
  have G : tK t n p = 1 → tE t n p - tS t n p = 3 → ∀ i, i ≤ 3 → ∀ (x : Int32), x = nI i → (∀ j, j < i → nI (t (tS t n p + j)) = (tx 10).getD j 0) → J n_M_is 39 [.ref 43, .retAddr 11, .int 1, .int x] [] I A B (pk w f) R := by
    intro c1 c2
    have G9 : ∀ i, i ≤ 3 → ∀ (x : Int32), x = nI i → (∀ j, j < i → nI (t (tS t n p + j)) = (tx 10).getD j 0) → J n_M_is 39 [.ref 43, .retAddr 11, .int 1, .int x] [] I A B (pk w f) R := by
      refine lpz (fun i => ∀ (x : Int32), x = nI i → (∀ j, j < i → nI (t (tS t n p + j)) = (tx 10).getD j 0) → J n_M_is 39 [.ref 43, .retAddr 11, .int 1, .int x] [] I A B (pk w f) R) (fun i hi ih => ?_)
      intro x ex hw
      subst ex
      refine X 200 _ _ _ _ _ _ _ _ _ ?_
      refine And.intro (fun q => absurd q (by decide)) (fun _ => ?_)
      refine And.intro (by first | (rw [sc_c2]; exact sc_nar _) | rfl) ?_
      refine And.intro (fun q1 => ?_) (fun q1 => ?_)
      · have e : i = 3 := lpx (n := 3) hi (by omega) q1
        subst e
        refine And.intro (Or.inr rfl) ?_
        exact h1 (tW_t (k := 10) c1 c2 hw)
      · have hl : i < 3 := lpc (n := 3) hi (by omega) q1
        have eix : I 43 30 + nI i = nI (tS t n p + i) := by rw [K.s, nI_add]
        have cix : (I 43 30 + nI i).toNatClampNeg = tS t n p + i := by rw [eix]; exact cl (by omega)
        have hlt := of_decide_eq_true (tw_l hp c1 (tS t n p + i) (by omega) (by omega))
        have hbt := T.b (tS t n p + i) (by omega)
        have ebt := byt_eq hbt.2.2 hbt.1 (by omega)
        refine And.intro (fun q => absurd q (by decide)) (fun _ => ?_)
        refine Exists.intro _ (Exists.intro _ (And.intro rfl (And.intro (Or.inl rfl) (And.intro (by first | (rw [eix]; exact vin (by omega) (by omega)) | exact (vin (N := 3) hl (by omega))) ?_))))
        refine And.intro (fun q => absurd q (by decide)) (fun _ => ?_)
        refine And.intro (fun q => absurd (by decide) q) (fun _ => ?_)
        refine And.intro (Or.inr rfl) ?_
        refine And.intro (fun q => absurd q (by decide)) (fun _ => ?_)
        refine And.intro (fun q2 => ?_) (fun q2 => ?_)
        · exact absurd q2 (nI_pos (by omega)) --end
        · refine And.intro (fun q3 => ?_) (fun q3 => ?_)
          · refine And.intro (by first | (rw [eix]; exact vin (by omega) (by omega)) | exact (vin (N := 3) hl (by omega))) ?_
            refine And.intro (by first | (rw [sc_c2]; exact sc_nar _) | rfl) ?_
            refine And.intro (by first | (rw [sc_c2]; exact sc_nar _) | rfl) ?_
            refine And.intro (fun q4 => ?_) (fun q4 => ?_)
            · have q8 : ¬ A 60 (I 43 30 + nI i).toNatClampNeg = ((((tx 10).getD (nI i).toNatClampNeg 0 &&& 255).toUInt32 % 65536).toInt32) := q4
              rw [sc_c2, cl (n := i) (by omega), tx_10 i hl, cix, ebt] at q8
              exact G0 (tW_f2 (k := 10) hl q8) _
            · have q8 : A 60 (I 43 30 + nI i).toNatClampNeg = ((((tx 10).getD (nI i).toNatClampNeg 0 &&& 255).toUInt32 % 65536).toInt32) := q4
              rw [sc_c2, cl (n := i) (by omega), tx_10 i hl, cix, ebt] at q8
              exact ih hl _ (nI_1 i) (fun j hj => by
                by_cases z : j = i
                · rw [z]; exact q8
                · exact hw j (by omega))
          · exact absurd (show nI i < nI 3 from nI_lt hl (by omega)) q3 --end
    exact G9
  refine X 200 _ _ _ _ _ _ _ _ _ ?_
  refine c_Mgood X (fun _ => ?_) (fun z => absurd hg z)
  refine And.intro (fun q => absurd q (by decide)) (fun _ => ?_)
  refine And.intro (fun q1 => ?_) (fun q1 => ?_)
  · have cf : ¬ (tK t n p = 1 ∧ tE t n p - tS t n p = 3) := fun z => q1 (by rw [K.k, z.1]; rfl)
    exact G0 (tW_f1 (k := 10) cf) _
  · rw [K.k] at q1
    have c1 : tK t n p = 1 := (nI_eq (b := 1) (by have := tK_4 (t := t) (n := n) (p := p); omega) (by omega)).mp q1
    refine And.intro (fun q => absurd q (by decide)) (fun _ => ?_)
    refine And.intro (by first | (rw [sc_c2]; exact sc_nar _) | rfl) ?_
    refine And.intro (fun q2 => ?_) (fun q2 => ?_)
    · have cf : ¬ (tK t n p = 1 ∧ tE t n p - tS t n p = 3) := fun z => by
        have q9 : ¬ I 43 29 - I 43 30 = nI 3 := q2
        rw [K.e, K.s, pk_sub (by omega), z.2] at q9
        exact q9 rfl
      exact G0 (tW_f1 (k := 10) cf) _
    · have q9 : I 43 29 - I 43 30 = nI 3 := q2
      rw [K.e, K.s, pk_sub (by omega)] at q9
      have c2 : tE t n p - tS t n p = 3 := (nI_eq (by omega) (by omega)).mp q9
      exact G c1 c2 0 (Nat.zero_le _) _ rfl (fun j hj => absurd hj (Nat.not_lt_zero j))
theorem tx_11 : ∀ i, i < 4 → (tx 11).getD i 0 &&& 255 = (tx 11).getD i 0 := by decide +kernel
set_option maxRecDepth 20000 in
theorem c_isWord11 {J : mJ} (X : mRules J) {I A : mI} {B : mB} {w f : Nat} {R : mR} {t : Nat → Nat} {n : Nat} (T : TpR 2 A t n) (hn : I 1 1 = nI n) {p : Nat} (hp : p ≤ n) (K : KT I t n p) (h1 : tW t n p 11 = true → R (some (.int 1)) I A B (pk w f)) (h0 : tW t n p 11 = false → R (some (.int 0)) I A B (pk w f)) : J n_Tokens_isWord 0 [.ref 6, .retAddr 12, .float 0] [] I A B (pk w f) R := by
  have hn9 := T.n9
  have hE := tE_b (t := t) hp
  have G : tK t n p = 1 → tE t n p - tS t n p = 4 → ∀ i, i ≤ 4 → ∀ (x : Int32), x = nI i → (∀ j, j < i → nI (t (tS t n p + j)) = (tx 11).getD j 0) → J n_Tokens_isWord 28 [.ref 6, .retAddr 12, .int x] [] I A B (pk w f) R := by
    intro c1 c2
    have G9 : ∀ i, i ≤ 4 → ∀ (x : Int32), x = nI i → (∀ j, j < i → nI (t (tS t n p + j)) = (tx 11).getD j 0) → J n_Tokens_isWord 28 [.ref 6, .retAddr 12, .int x] [] I A B (pk w f) R := by
      refine lpz (fun i => ∀ (x : Int32), x = nI i → (∀ j, j < i → nI (t (tS t n p + j)) = (tx 11).getD j 0) → J n_Tokens_isWord 28 [.ref 6, .retAddr 12, .int x] [] I A B (pk w f) R) (fun i hi ih => ?_)
      intro x ex hw
      subst ex
      refine X 200 _ _ _ _ _ _ _ _ _ ?_
      refine And.intro (fun q => absurd q (by decide)) (fun _ => ?_)
      refine And.intro (by first | (rw [sc_c2]; exact sc_nar _) | rfl) ?_
      refine And.intro (fun q1 => ?_) (fun q1 => ?_)
      · have e : i = 4 := lpx (n := 4) hi (by omega) q1
        subst e
        refine And.intro (Or.inr rfl) ?_
        exact h1 (tW_t (k := 11) c1 c2 hw)
      · have hl : i < 4 := lpc (n := 4) hi (by omega) q1
        refine c_byteAt X T hn (k := tS t n p + i) (by rw [K.s, nI_add]) (by omega) ?_
        rw [tsv_i (by omega)]
        refine And.intro (fun q => absurd q (by decide)) (fun _ => ?_)
        refine And.intro (fun q => absurd (by decide) q) (fun _ => ?_)
        refine And.intro (Or.inr rfl) ?_
        refine And.intro (fun q => absurd q (by decide)) (fun _ => ?_)
        refine And.intro (fun q2 => ?_) (fun q2 => ?_)
        · exact absurd q2 (nI_pos (by omega)) --end
        · refine And.intro (fun q3 => ?_) (fun q3 => ?_)
          · refine And.intro (vin (N := 4) hl (by omega)) ?_
            refine And.intro (by first | (rw [sc_c2]; exact sc_nar _) | rfl) ?_
            refine And.intro (by first | (rw [sc_c2]; exact sc_nar _) | rfl) ?_
            refine And.intro (fun q4 => ?_) (fun q4 => ?_)
            · have q9 : nI (t (tS t n p + i)) = ((((tx 11).getD (nI i).toNatClampNeg 0 &&& 255).toUInt32 % 65536).toInt32) := q4
              rw [sc_c2, cl (by omega), tx_11 i hl] at q9
              exact ih hl _ (nI_1 i) (fun j hj => by
                by_cases z : j = i
                · rw [z]; exact q9
                · exact hw j (by omega))
            · have q9 : ¬ nI (t (tS t n p + i)) = ((((tx 11).getD (nI i).toNatClampNeg 0 &&& 255).toUInt32 % 65536).toInt32) := q4
              rw [sc_c2, cl (by omega), tx_11 i hl] at q9
              refine And.intro (Or.inl rfl) ?_
              exact h0 (tW_f2 (k := 11) hl q9)
          · exact absurd (show nI i < nI 4 from nI_lt hl (by omega)) q3 --end
    exact G9
  refine X 200 _ _ _ _ _ _ _ _ _ ?_
  refine And.intro (fun q1 => ?_) (fun q1 => ?_)
  · have cf : ¬ (tK t n p = 1 ∧ tE t n p - tS t n p = 4) := fun z => q1 (by rw [K.k, z.1]; rfl)
    refine And.intro (Or.inl rfl) ?_
    exact h0 (tW_f1 (k := 11) cf)
  · rw [K.k] at q1
    have c1 : tK t n p = 1 := (nI_eq (b := 1) (by have := tK_4 (t := t) (n := n) (p := p); omega) (by omega)).mp q1
    refine And.intro (fun q => absurd q (by decide)) (fun _ => ?_)
    refine And.intro (by first | (rw [sc_c2]; exact sc_nar _) | rfl) ?_
    refine And.intro (fun q2 => ?_) (fun q2 => ?_)
    · have q9 : I 6 3 - I 6 2 = nI 4 := q2
      rw [K.e, K.s, pk_sub (by omega)] at q9
      have c2 : tE t n p - tS t n p = 4 := (nI_eq (by omega) (by omega)).mp q9
      exact G c1 c2 0 (Nat.zero_le _) _ rfl (fun j hj => absurd hj (Nat.not_lt_zero j))
    · have cf : ¬ (tK t n p = 1 ∧ tE t n p - tS t n p = 4) := fun z => by
        have q9 : ¬ I 6 3 - I 6 2 = nI 4 := q2
        rw [K.e, K.s, pk_sub (by omega), z.2] at q9
        exact q9 rfl
      refine And.intro (Or.inl rfl) ?_
      exact h0 (tW_f1 (k := 11) cf)
set_option maxRecDepth 20000 in
theorem c_Mis11 {J : mJ} (X : mRules J) {I A : mI} {B : mB} {w f : Nat} {R : mR} {t : Nat → Nat} {n : Nat} (T : TpR 60 A t n) {p : Nat} (hp : p ≤ n) (hg : I 43 33 = 0) (K : MT I t n p) (h1 : tW t n p 11 = true → R (some (.int 1)) I A B (pk w f)) (h0 : tW t n p 11 = false → R (some (.int 0)) I A B (pk w f)) : J n_M_is 0 [.ref 43, .retAddr 12, .float 0, .float 0] [] I A B (pk w f) R := by
  have hn9 := T.n9
  have hE := tE_b (t := t) hp
  have G0 : tW t n p 11 = false → ∀ x : Int32, J n_M_is 39 [.ref 43, .retAddr 12, .int 0, .int x] [] I A B (pk w f) R := by
    intro zf x
    refine X 200 _ _ _ _ _ _ _ _ _ ?_
    refine And.intro (fun q => absurd q (by decide)) (fun _ => ?_)
    refine And.intro rfl ?_
    refine And.intro (fun q1 => ?_) (fun q1 => ?_)
    · refine And.intro (Or.inl rfl) ?_
      exact h0 zf
    · refine And.intro (fun _ => ?_) (fun q => absurd (by decide) q)
      refine And.intro (Or.inl rfl) ?_
      exact h0 zf
  have G : tK t n p = 1 → tE t n p - tS t n p = 4 → ∀ i, i ≤ 4 → ∀ (x : Int32), x = nI i → (∀ j, j < i → nI (t (tS t n p + j)) = (tx 11).getD j 0) → J n_M_is 39 [.ref 43, .retAddr 12, .int 1, .int x] [] I A B (pk w f) R := by
    intro c1 c2
    have G9 : ∀ i, i ≤ 4 → ∀ (x : Int32), x = nI i → (∀ j, j < i → nI (t (tS t n p + j)) = (tx 11).getD j 0) → J n_M_is 39 [.ref 43, .retAddr 12, .int 1, .int x] [] I A B (pk w f) R := by
      refine lpz (fun i => ∀ (x : Int32), x = nI i → (∀ j, j < i → nI (t (tS t n p + j)) = (tx 11).getD j 0) → J n_M_is 39 [.ref 43, .retAddr 12, .int 1, .int x] [] I A B (pk w f) R) (fun i hi ih => ?_)
      intro x ex hw
      subst ex
      refine X 200 _ _ _ _ _ _ _ _ _ ?_
      refine And.intro (fun q => absurd q (by decide)) (fun _ => ?_)
      refine And.intro (by first | (rw [sc_c2]; exact sc_nar _) | rfl) ?_
      refine And.intro (fun q1 => ?_) (fun q1 => ?_)
      · have e : i = 4 := lpx (n := 4) hi (by omega) q1
        subst e
        refine And.intro (Or.inr rfl) ?_
        exact h1 (tW_t (k := 11) c1 c2 hw)
      · have hl : i < 4 := lpc (n := 4) hi (by omega) q1
        have eix : I 43 30 + nI i = nI (tS t n p + i) := by rw [K.s, nI_add]
        have cix : (I 43 30 + nI i).toNatClampNeg = tS t n p + i := by rw [eix]; exact cl (by omega)
        have hlt := of_decide_eq_true (tw_l hp c1 (tS t n p + i) (by omega) (by omega))
        have hbt := T.b (tS t n p + i) (by omega)
        have ebt := byt_eq hbt.2.2 hbt.1 (by omega)
        refine And.intro (fun q => absurd q (by decide)) (fun _ => ?_)
        refine Exists.intro _ (Exists.intro _ (And.intro rfl (And.intro (Or.inl rfl) (And.intro (by first | (rw [eix]; exact vin (by omega) (by omega)) | exact (vin (N := 4) hl (by omega))) ?_))))
        refine And.intro (fun q => absurd q (by decide)) (fun _ => ?_)
        refine And.intro (fun q => absurd (by decide) q) (fun _ => ?_)
        refine And.intro (Or.inr rfl) ?_
        refine And.intro (fun q => absurd q (by decide)) (fun _ => ?_)
        refine And.intro (fun q2 => ?_) (fun q2 => ?_)
        · exact absurd q2 (nI_pos (by omega)) --end
        · refine And.intro (fun q3 => ?_) (fun q3 => ?_)
          · refine And.intro (by first | (rw [eix]; exact vin (by omega) (by omega)) | exact (vin (N := 4) hl (by omega))) ?_
            refine And.intro (by first | (rw [sc_c2]; exact sc_nar _) | rfl) ?_
            refine And.intro (by first | (rw [sc_c2]; exact sc_nar _) | rfl) ?_
            refine And.intro (fun q4 => ?_) (fun q4 => ?_)
            · have q8 : ¬ A 60 (I 43 30 + nI i).toNatClampNeg = ((((tx 11).getD (nI i).toNatClampNeg 0 &&& 255).toUInt32 % 65536).toInt32) := q4
              rw [sc_c2, cl (n := i) (by omega), tx_11 i hl, cix, ebt] at q8
              exact G0 (tW_f2 (k := 11) hl q8) _
            · have q8 : A 60 (I 43 30 + nI i).toNatClampNeg = ((((tx 11).getD (nI i).toNatClampNeg 0 &&& 255).toUInt32 % 65536).toInt32) := q4
              rw [sc_c2, cl (n := i) (by omega), tx_11 i hl, cix, ebt] at q8
              exact ih hl _ (nI_1 i) (fun j hj => by
                by_cases z : j = i
                · rw [z]; exact q8
                · exact hw j (by omega))
          · exact absurd (show nI i < nI 4 from nI_lt hl (by omega)) q3 --end
    exact G9
  refine X 200 _ _ _ _ _ _ _ _ _ ?_
  refine c_Mgood X (fun _ => ?_) (fun z => absurd hg z)
  refine And.intro (fun q => absurd q (by decide)) (fun _ => ?_)
  refine And.intro (fun q1 => ?_) (fun q1 => ?_)
  · have cf : ¬ (tK t n p = 1 ∧ tE t n p - tS t n p = 4) := fun z => q1 (by rw [K.k, z.1]; rfl)
    exact G0 (tW_f1 (k := 11) cf) _
  · rw [K.k] at q1
    have c1 : tK t n p = 1 := (nI_eq (b := 1) (by have := tK_4 (t := t) (n := n) (p := p); omega) (by omega)).mp q1
    refine And.intro (fun q => absurd q (by decide)) (fun _ => ?_)
    refine And.intro (by first | (rw [sc_c2]; exact sc_nar _) | rfl) ?_
    refine And.intro (fun q2 => ?_) (fun q2 => ?_)
    · have cf : ¬ (tK t n p = 1 ∧ tE t n p - tS t n p = 4) := fun z => by
        have q9 : ¬ I 43 29 - I 43 30 = nI 4 := q2
        rw [K.e, K.s, pk_sub (by omega), z.2] at q9
        exact q9 rfl
      exact G0 (tW_f1 (k := 11) cf) _
    · have q9 : I 43 29 - I 43 30 = nI 4 := q2
      rw [K.e, K.s, pk_sub (by omega)] at q9
      have c2 : tE t n p - tS t n p = 4 := (nI_eq (by omega) (by omega)).mp q9
      exact G c1 c2 0 (Nat.zero_le _) _ rfl (fun j hj => absurd hj (Nat.not_lt_zero j))
theorem tx_12 : ∀ i, i < 5 → (tx 12).getD i 0 &&& 255 = (tx 12).getD i 0 := by decide +kernel
set_option maxRecDepth 20000 in
theorem c_isWord12 {J : mJ} (X : mRules J) {I A : mI} {B : mB} {w f : Nat} {R : mR} {t : Nat → Nat} {n : Nat} (T : TpR 2 A t n) (hn : I 1 1 = nI n) {p : Nat} (hp : p ≤ n) (K : KT I t n p) (h1 : tW t n p 12 = true → R (some (.int 1)) I A B (pk w f)) (h0 : tW t n p 12 = false → R (some (.int 0)) I A B (pk w f)) : J n_Tokens_isWord 0 [.ref 6, .retAddr 13, .float 0] [] I A B (pk w f) R := by
  have hn9 := T.n9
  have hE := tE_b (t := t) hp
  have G : tK t n p = 1 → tE t n p - tS t n p = 5 → ∀ i, i ≤ 5 → ∀ (x : Int32), x = nI i → (∀ j, j < i → nI (t (tS t n p + j)) = (tx 12).getD j 0) → J n_Tokens_isWord 28 [.ref 6, .retAddr 13, .int x] [] I A B (pk w f) R := by
    intro c1 c2
    have G9 : ∀ i, i ≤ 5 → ∀ (x : Int32), x = nI i → (∀ j, j < i → nI (t (tS t n p + j)) = (tx 12).getD j 0) → J n_Tokens_isWord 28 [.ref 6, .retAddr 13, .int x] [] I A B (pk w f) R := by
      refine lpz (fun i => ∀ (x : Int32), x = nI i → (∀ j, j < i → nI (t (tS t n p + j)) = (tx 12).getD j 0) → J n_Tokens_isWord 28 [.ref 6, .retAddr 13, .int x] [] I A B (pk w f) R) (fun i hi ih => ?_)
      intro x ex hw
      subst ex
      refine X 200 _ _ _ _ _ _ _ _ _ ?_
      refine And.intro (fun q => absurd q (by decide)) (fun _ => ?_)
      refine And.intro (by first | (rw [sc_c2]; exact sc_nar _) | rfl) ?_
      refine And.intro (fun q1 => ?_) (fun q1 => ?_)
      · have e : i = 5 := lpx (n := 5) hi (by omega) q1
        subst e
        refine And.intro (Or.inr rfl) ?_
        exact h1 (tW_t (k := 12) c1 c2 hw)
      · have hl : i < 5 := lpc (n := 5) hi (by omega) q1
        refine c_byteAt X T hn (k := tS t n p + i) (by rw [K.s, nI_add]) (by omega) ?_
        rw [tsv_i (by omega)]
        refine And.intro (fun q => absurd q (by decide)) (fun _ => ?_)
        refine And.intro (fun q => absurd (by decide) q) (fun _ => ?_)
        refine And.intro (Or.inr rfl) ?_
        refine And.intro (fun q => absurd q (by decide)) (fun _ => ?_)
        refine And.intro (fun q2 => ?_) (fun q2 => ?_)
        · exact absurd q2 (nI_pos (by omega)) --end
        · refine And.intro (fun q3 => ?_) (fun q3 => ?_)
          · refine And.intro (vin (N := 5) hl (by omega)) ?_
            refine And.intro (by first | (rw [sc_c2]; exact sc_nar _) | rfl) ?_
            refine And.intro (by first | (rw [sc_c2]; exact sc_nar _) | rfl) ?_
            refine And.intro (fun q4 => ?_) (fun q4 => ?_)
            · have q9 : nI (t (tS t n p + i)) = ((((tx 12).getD (nI i).toNatClampNeg 0 &&& 255).toUInt32 % 65536).toInt32) := q4
              rw [sc_c2, cl (by omega), tx_12 i hl] at q9
              exact ih hl _ (nI_1 i) (fun j hj => by
                by_cases z : j = i
                · rw [z]; exact q9
                · exact hw j (by omega))
            · have q9 : ¬ nI (t (tS t n p + i)) = ((((tx 12).getD (nI i).toNatClampNeg 0 &&& 255).toUInt32 % 65536).toInt32) := q4
              rw [sc_c2, cl (by omega), tx_12 i hl] at q9
              refine And.intro (Or.inl rfl) ?_
              exact h0 (tW_f2 (k := 12) hl q9)
          · exact absurd (show nI i < nI 5 from nI_lt hl (by omega)) q3 --end
    exact G9
  refine X 200 _ _ _ _ _ _ _ _ _ ?_
  refine And.intro (fun q1 => ?_) (fun q1 => ?_)
  · have cf : ¬ (tK t n p = 1 ∧ tE t n p - tS t n p = 5) := fun z => q1 (by rw [K.k, z.1]; rfl)
    refine And.intro (Or.inl rfl) ?_
    exact h0 (tW_f1 (k := 12) cf)
  · rw [K.k] at q1
    have c1 : tK t n p = 1 := (nI_eq (b := 1) (by have := tK_4 (t := t) (n := n) (p := p); omega) (by omega)).mp q1
    refine And.intro (fun q => absurd q (by decide)) (fun _ => ?_)
    refine And.intro (by first | (rw [sc_c2]; exact sc_nar _) | rfl) ?_
    refine And.intro (fun q2 => ?_) (fun q2 => ?_)
    · have q9 : I 6 3 - I 6 2 = nI 5 := q2
      rw [K.e, K.s, pk_sub (by omega)] at q9
      have c2 : tE t n p - tS t n p = 5 := (nI_eq (by omega) (by omega)).mp q9
      exact G c1 c2 0 (Nat.zero_le _) _ rfl (fun j hj => absurd hj (Nat.not_lt_zero j))
    · have cf : ¬ (tK t n p = 1 ∧ tE t n p - tS t n p = 5) := fun z => by
        have q9 : ¬ I 6 3 - I 6 2 = nI 5 := q2
        rw [K.e, K.s, pk_sub (by omega), z.2] at q9
        exact q9 rfl
      refine And.intro (Or.inl rfl) ?_
      exact h0 (tW_f1 (k := 12) cf)
set_option maxRecDepth 20000 in
theorem c_Mis12 {J : mJ} (X : mRules J) {I A : mI} {B : mB} {w f : Nat} {R : mR} {t : Nat → Nat} {n : Nat} (T : TpR 60 A t n) {p : Nat} (hp : p ≤ n) (hg : I 43 33 = 0) (K : MT I t n p) (h1 : tW t n p 12 = true → R (some (.int 1)) I A B (pk w f)) (h0 : tW t n p 12 = false → R (some (.int 0)) I A B (pk w f)) : J n_M_is 0 [.ref 43, .retAddr 13, .float 0, .float 0] [] I A B (pk w f) R := by
  have hn9 := T.n9
  have hE := tE_b (t := t) hp
  have G0 : tW t n p 12 = false → ∀ x : Int32, J n_M_is 39 [.ref 43, .retAddr 13, .int 0, .int x] [] I A B (pk w f) R := by
    intro zf x
    refine X 200 _ _ _ _ _ _ _ _ _ ?_
    refine And.intro (fun q => absurd q (by decide)) (fun _ => ?_)
    refine And.intro rfl ?_
    refine And.intro (fun q1 => ?_) (fun q1 => ?_)
    · refine And.intro (Or.inl rfl) ?_
      exact h0 zf
    · refine And.intro (fun _ => ?_) (fun q => absurd (by decide) q)
      refine And.intro (Or.inl rfl) ?_
      exact h0 zf
  have G : tK t n p = 1 → tE t n p - tS t n p = 5 → ∀ i, i ≤ 5 → ∀ (x : Int32), x = nI i → (∀ j, j < i → nI (t (tS t n p + j)) = (tx 12).getD j 0) → J n_M_is 39 [.ref 43, .retAddr 13, .int 1, .int x] [] I A B (pk w f) R := by
    intro c1 c2
    have G9 : ∀ i, i ≤ 5 → ∀ (x : Int32), x = nI i → (∀ j, j < i → nI (t (tS t n p + j)) = (tx 12).getD j 0) → J n_M_is 39 [.ref 43, .retAddr 13, .int 1, .int x] [] I A B (pk w f) R := by
      refine lpz (fun i => ∀ (x : Int32), x = nI i → (∀ j, j < i → nI (t (tS t n p + j)) = (tx 12).getD j 0) → J n_M_is 39 [.ref 43, .retAddr 13, .int 1, .int x] [] I A B (pk w f) R) (fun i hi ih => ?_)
      intro x ex hw
      subst ex
      refine X 200 _ _ _ _ _ _ _ _ _ ?_
      refine And.intro (fun q => absurd q (by decide)) (fun _ => ?_)
      refine And.intro (by first | (rw [sc_c2]; exact sc_nar _) | rfl) ?_
      refine And.intro (fun q1 => ?_) (fun q1 => ?_)
      · have e : i = 5 := lpx (n := 5) hi (by omega) q1
        subst e
        refine And.intro (Or.inr rfl) ?_
        exact h1 (tW_t (k := 12) c1 c2 hw)
      · have hl : i < 5 := lpc (n := 5) hi (by omega) q1
        have eix : I 43 30 + nI i = nI (tS t n p + i) := by rw [K.s, nI_add]
        have cix : (I 43 30 + nI i).toNatClampNeg = tS t n p + i := by rw [eix]; exact cl (by omega)
        have hlt := of_decide_eq_true (tw_l hp c1 (tS t n p + i) (by omega) (by omega))
        have hbt := T.b (tS t n p + i) (by omega)
        have ebt := byt_eq hbt.2.2 hbt.1 (by omega)
        refine And.intro (fun q => absurd q (by decide)) (fun _ => ?_)
        refine Exists.intro _ (Exists.intro _ (And.intro rfl (And.intro (Or.inl rfl) (And.intro (by first | (rw [eix]; exact vin (by omega) (by omega)) | exact (vin (N := 5) hl (by omega))) ?_))))
        refine And.intro (fun q => absurd q (by decide)) (fun _ => ?_)
        refine And.intro (fun q => absurd (by decide) q) (fun _ => ?_)
        refine And.intro (Or.inr rfl) ?_
        refine And.intro (fun q => absurd q (by decide)) (fun _ => ?_)
        refine And.intro (fun q2 => ?_) (fun q2 => ?_)
        · exact absurd q2 (nI_pos (by omega)) --end
        · refine And.intro (fun q3 => ?_) (fun q3 => ?_)
          · refine And.intro (by first | (rw [eix]; exact vin (by omega) (by omega)) | exact (vin (N := 5) hl (by omega))) ?_
            refine And.intro (by first | (rw [sc_c2]; exact sc_nar _) | rfl) ?_
            refine And.intro (by first | (rw [sc_c2]; exact sc_nar _) | rfl) ?_
            refine And.intro (fun q4 => ?_) (fun q4 => ?_)
            · have q8 : ¬ A 60 (I 43 30 + nI i).toNatClampNeg = ((((tx 12).getD (nI i).toNatClampNeg 0 &&& 255).toUInt32 % 65536).toInt32) := q4
              rw [sc_c2, cl (n := i) (by omega), tx_12 i hl, cix, ebt] at q8
              exact G0 (tW_f2 (k := 12) hl q8) _
            · have q8 : A 60 (I 43 30 + nI i).toNatClampNeg = ((((tx 12).getD (nI i).toNatClampNeg 0 &&& 255).toUInt32 % 65536).toInt32) := q4
              rw [sc_c2, cl (n := i) (by omega), tx_12 i hl, cix, ebt] at q8
              exact ih hl _ (nI_1 i) (fun j hj => by
                by_cases z : j = i
                · rw [z]; exact q8
                · exact hw j (by omega))
          · exact absurd (show nI i < nI 5 from nI_lt hl (by omega)) q3 --end
    exact G9
  refine X 200 _ _ _ _ _ _ _ _ _ ?_
  refine c_Mgood X (fun _ => ?_) (fun z => absurd hg z)
  refine And.intro (fun q => absurd q (by decide)) (fun _ => ?_)
  refine And.intro (fun q1 => ?_) (fun q1 => ?_)
  · have cf : ¬ (tK t n p = 1 ∧ tE t n p - tS t n p = 5) := fun z => q1 (by rw [K.k, z.1]; rfl)
    exact G0 (tW_f1 (k := 12) cf) _
  · rw [K.k] at q1
    have c1 : tK t n p = 1 := (nI_eq (b := 1) (by have := tK_4 (t := t) (n := n) (p := p); omega) (by omega)).mp q1
    refine And.intro (fun q => absurd q (by decide)) (fun _ => ?_)
    refine And.intro (by first | (rw [sc_c2]; exact sc_nar _) | rfl) ?_
    refine And.intro (fun q2 => ?_) (fun q2 => ?_)
    · have cf : ¬ (tK t n p = 1 ∧ tE t n p - tS t n p = 5) := fun z => by
        have q9 : ¬ I 43 29 - I 43 30 = nI 5 := q2
        rw [K.e, K.s, pk_sub (by omega), z.2] at q9
        exact q9 rfl
      exact G0 (tW_f1 (k := 12) cf) _
    · have q9 : I 43 29 - I 43 30 = nI 5 := q2
      rw [K.e, K.s, pk_sub (by omega)] at q9
      have c2 : tE t n p - tS t n p = 5 := (nI_eq (by omega) (by omega)).mp q9
      exact G c1 c2 0 (Nat.zero_le _) _ rfl (fun j hj => absurd hj (Nat.not_lt_zero j))
theorem tx_13 : ∀ i, i < 5 → (tx 13).getD i 0 &&& 255 = (tx 13).getD i 0 := by decide +kernel
set_option maxRecDepth 20000 in
theorem c_isWord13 {J : mJ} (X : mRules J) {I A : mI} {B : mB} {w f : Nat} {R : mR} {t : Nat → Nat} {n : Nat} (T : TpR 2 A t n) (hn : I 1 1 = nI n) {p : Nat} (hp : p ≤ n) (K : KT I t n p) (h1 : tW t n p 13 = true → R (some (.int 1)) I A B (pk w f)) (h0 : tW t n p 13 = false → R (some (.int 0)) I A B (pk w f)) : J n_Tokens_isWord 0 [.ref 6, .retAddr 14, .float 0] [] I A B (pk w f) R := by
  have hn9 := T.n9
  have hE := tE_b (t := t) hp
  have G : tK t n p = 1 → tE t n p - tS t n p = 5 → ∀ i, i ≤ 5 → ∀ (x : Int32), x = nI i → (∀ j, j < i → nI (t (tS t n p + j)) = (tx 13).getD j 0) → J n_Tokens_isWord 28 [.ref 6, .retAddr 14, .int x] [] I A B (pk w f) R := by
    intro c1 c2
    have G9 : ∀ i, i ≤ 5 → ∀ (x : Int32), x = nI i → (∀ j, j < i → nI (t (tS t n p + j)) = (tx 13).getD j 0) → J n_Tokens_isWord 28 [.ref 6, .retAddr 14, .int x] [] I A B (pk w f) R := by
      refine lpz (fun i => ∀ (x : Int32), x = nI i → (∀ j, j < i → nI (t (tS t n p + j)) = (tx 13).getD j 0) → J n_Tokens_isWord 28 [.ref 6, .retAddr 14, .int x] [] I A B (pk w f) R) (fun i hi ih => ?_)
      intro x ex hw
      subst ex
      refine X 200 _ _ _ _ _ _ _ _ _ ?_
      refine And.intro (fun q => absurd q (by decide)) (fun _ => ?_)
      refine And.intro (by first | (rw [sc_c2]; exact sc_nar _) | rfl) ?_
      refine And.intro (fun q1 => ?_) (fun q1 => ?_)
      · have e : i = 5 := lpx (n := 5) hi (by omega) q1
        subst e
        refine And.intro (Or.inr rfl) ?_
        exact h1 (tW_t (k := 13) c1 c2 hw)
      · have hl : i < 5 := lpc (n := 5) hi (by omega) q1
        refine c_byteAt X T hn (k := tS t n p + i) (by rw [K.s, nI_add]) (by omega) ?_
        rw [tsv_i (by omega)]
        refine And.intro (fun q => absurd q (by decide)) (fun _ => ?_)
        refine And.intro (fun q => absurd (by decide) q) (fun _ => ?_)
        refine And.intro (Or.inr rfl) ?_
        refine And.intro (fun q => absurd q (by decide)) (fun _ => ?_)
        refine And.intro (fun q2 => ?_) (fun q2 => ?_)
        · exact absurd q2 (nI_pos (by omega)) --end
        · refine And.intro (fun q3 => ?_) (fun q3 => ?_)
          · refine And.intro (vin (N := 5) hl (by omega)) ?_
            refine And.intro (by first | (rw [sc_c2]; exact sc_nar _) | rfl) ?_
            refine And.intro (by first | (rw [sc_c2]; exact sc_nar _) | rfl) ?_
            refine And.intro (fun q4 => ?_) (fun q4 => ?_)
            · have q9 : nI (t (tS t n p + i)) = ((((tx 13).getD (nI i).toNatClampNeg 0 &&& 255).toUInt32 % 65536).toInt32) := q4
              rw [sc_c2, cl (by omega), tx_13 i hl] at q9
              exact ih hl _ (nI_1 i) (fun j hj => by
                by_cases z : j = i
                · rw [z]; exact q9
                · exact hw j (by omega))
            · have q9 : ¬ nI (t (tS t n p + i)) = ((((tx 13).getD (nI i).toNatClampNeg 0 &&& 255).toUInt32 % 65536).toInt32) := q4
              rw [sc_c2, cl (by omega), tx_13 i hl] at q9
              refine And.intro (Or.inl rfl) ?_
              exact h0 (tW_f2 (k := 13) hl q9)
          · exact absurd (show nI i < nI 5 from nI_lt hl (by omega)) q3 --end
    exact G9
  refine X 200 _ _ _ _ _ _ _ _ _ ?_
  refine And.intro (fun q1 => ?_) (fun q1 => ?_)
  · have cf : ¬ (tK t n p = 1 ∧ tE t n p - tS t n p = 5) := fun z => q1 (by rw [K.k, z.1]; rfl)
    refine And.intro (Or.inl rfl) ?_
    exact h0 (tW_f1 (k := 13) cf)
  · rw [K.k] at q1
    have c1 : tK t n p = 1 := (nI_eq (b := 1) (by have := tK_4 (t := t) (n := n) (p := p); omega) (by omega)).mp q1
    refine And.intro (fun q => absurd q (by decide)) (fun _ => ?_)
    refine And.intro (by first | (rw [sc_c2]; exact sc_nar _) | rfl) ?_
    refine And.intro (fun q2 => ?_) (fun q2 => ?_)
    · have q9 : I 6 3 - I 6 2 = nI 5 := q2
      rw [K.e, K.s, pk_sub (by omega)] at q9
      have c2 : tE t n p - tS t n p = 5 := (nI_eq (by omega) (by omega)).mp q9
      exact G c1 c2 0 (Nat.zero_le _) _ rfl (fun j hj => absurd hj (Nat.not_lt_zero j))
    · have cf : ¬ (tK t n p = 1 ∧ tE t n p - tS t n p = 5) := fun z => by
        have q9 : ¬ I 6 3 - I 6 2 = nI 5 := q2
        rw [K.e, K.s, pk_sub (by omega), z.2] at q9
        exact q9 rfl
      refine And.intro (Or.inl rfl) ?_
      exact h0 (tW_f1 (k := 13) cf)
set_option maxRecDepth 20000 in
theorem c_Mis13 {J : mJ} (X : mRules J) {I A : mI} {B : mB} {w f : Nat} {R : mR} {t : Nat → Nat} {n : Nat} (T : TpR 60 A t n) {p : Nat} (hp : p ≤ n) (hg : I 43 33 = 0) (K : MT I t n p) (h1 : tW t n p 13 = true → R (some (.int 1)) I A B (pk w f)) (h0 : tW t n p 13 = false → R (some (.int 0)) I A B (pk w f)) : J n_M_is 0 [.ref 43, .retAddr 14, .float 0, .float 0] [] I A B (pk w f) R := by
  have hn9 := T.n9
  have hE := tE_b (t := t) hp
  have G0 : tW t n p 13 = false → ∀ x : Int32, J n_M_is 39 [.ref 43, .retAddr 14, .int 0, .int x] [] I A B (pk w f) R := by
    intro zf x
    refine X 200 _ _ _ _ _ _ _ _ _ ?_
    refine And.intro (fun q => absurd q (by decide)) (fun _ => ?_)
    refine And.intro rfl ?_
    refine And.intro (fun q1 => ?_) (fun q1 => ?_)
    · refine And.intro (Or.inl rfl) ?_
      exact h0 zf
    · refine And.intro (fun _ => ?_) (fun q => absurd (by decide) q)
      refine And.intro (Or.inl rfl) ?_
      exact h0 zf
  have G : tK t n p = 1 → tE t n p - tS t n p = 5 → ∀ i, i ≤ 5 → ∀ (x : Int32), x = nI i → (∀ j, j < i → nI (t (tS t n p + j)) = (tx 13).getD j 0) → J n_M_is 39 [.ref 43, .retAddr 14, .int 1, .int x] [] I A B (pk w f) R := by
    intro c1 c2
    have G9 : ∀ i, i ≤ 5 → ∀ (x : Int32), x = nI i → (∀ j, j < i → nI (t (tS t n p + j)) = (tx 13).getD j 0) → J n_M_is 39 [.ref 43, .retAddr 14, .int 1, .int x] [] I A B (pk w f) R := by
      refine lpz (fun i => ∀ (x : Int32), x = nI i → (∀ j, j < i → nI (t (tS t n p + j)) = (tx 13).getD j 0) → J n_M_is 39 [.ref 43, .retAddr 14, .int 1, .int x] [] I A B (pk w f) R) (fun i hi ih => ?_)
      intro x ex hw
      subst ex
      refine X 200 _ _ _ _ _ _ _ _ _ ?_
      refine And.intro (fun q => absurd q (by decide)) (fun _ => ?_)
      refine And.intro (by first | (rw [sc_c2]; exact sc_nar _) | rfl) ?_
      refine And.intro (fun q1 => ?_) (fun q1 => ?_)
      · have e : i = 5 := lpx (n := 5) hi (by omega) q1
        subst e
        refine And.intro (Or.inr rfl) ?_
        exact h1 (tW_t (k := 13) c1 c2 hw)
      · have hl : i < 5 := lpc (n := 5) hi (by omega) q1
        have eix : I 43 30 + nI i = nI (tS t n p + i) := by rw [K.s, nI_add]
        have cix : (I 43 30 + nI i).toNatClampNeg = tS t n p + i := by rw [eix]; exact cl (by omega)
        have hlt := of_decide_eq_true (tw_l hp c1 (tS t n p + i) (by omega) (by omega))
        have hbt := T.b (tS t n p + i) (by omega)
        have ebt := byt_eq hbt.2.2 hbt.1 (by omega)
        refine And.intro (fun q => absurd q (by decide)) (fun _ => ?_)
        refine Exists.intro _ (Exists.intro _ (And.intro rfl (And.intro (Or.inl rfl) (And.intro (by first | (rw [eix]; exact vin (by omega) (by omega)) | exact (vin (N := 5) hl (by omega))) ?_))))
        refine And.intro (fun q => absurd q (by decide)) (fun _ => ?_)
        refine And.intro (fun q => absurd (by decide) q) (fun _ => ?_)
        refine And.intro (Or.inr rfl) ?_
        refine And.intro (fun q => absurd q (by decide)) (fun _ => ?_)
        refine And.intro (fun q2 => ?_) (fun q2 => ?_)
        · exact absurd q2 (nI_pos (by omega)) --end
        · refine And.intro (fun q3 => ?_) (fun q3 => ?_)
          · refine And.intro (by first | (rw [eix]; exact vin (by omega) (by omega)) | exact (vin (N := 5) hl (by omega))) ?_
            refine And.intro (by first | (rw [sc_c2]; exact sc_nar _) | rfl) ?_
            refine And.intro (by first | (rw [sc_c2]; exact sc_nar _) | rfl) ?_
            refine And.intro (fun q4 => ?_) (fun q4 => ?_)
            · have q8 : ¬ A 60 (I 43 30 + nI i).toNatClampNeg = ((((tx 13).getD (nI i).toNatClampNeg 0 &&& 255).toUInt32 % 65536).toInt32) := q4
              rw [sc_c2, cl (n := i) (by omega), tx_13 i hl, cix, ebt] at q8
              exact G0 (tW_f2 (k := 13) hl q8) _
            · have q8 : A 60 (I 43 30 + nI i).toNatClampNeg = ((((tx 13).getD (nI i).toNatClampNeg 0 &&& 255).toUInt32 % 65536).toInt32) := q4
              rw [sc_c2, cl (n := i) (by omega), tx_13 i hl, cix, ebt] at q8
              exact ih hl _ (nI_1 i) (fun j hj => by
                by_cases z : j = i
                · rw [z]; exact q8
                · exact hw j (by omega))
          · exact absurd (show nI i < nI 5 from nI_lt hl (by omega)) q3 --end
    exact G9
  refine X 200 _ _ _ _ _ _ _ _ _ ?_
  refine c_Mgood X (fun _ => ?_) (fun z => absurd hg z)
  refine And.intro (fun q => absurd q (by decide)) (fun _ => ?_)
  refine And.intro (fun q1 => ?_) (fun q1 => ?_)
  · have cf : ¬ (tK t n p = 1 ∧ tE t n p - tS t n p = 5) := fun z => q1 (by rw [K.k, z.1]; rfl)
    exact G0 (tW_f1 (k := 13) cf) _
  · rw [K.k] at q1
    have c1 : tK t n p = 1 := (nI_eq (b := 1) (by have := tK_4 (t := t) (n := n) (p := p); omega) (by omega)).mp q1
    refine And.intro (fun q => absurd q (by decide)) (fun _ => ?_)
    refine And.intro (by first | (rw [sc_c2]; exact sc_nar _) | rfl) ?_
    refine And.intro (fun q2 => ?_) (fun q2 => ?_)
    · have cf : ¬ (tK t n p = 1 ∧ tE t n p - tS t n p = 5) := fun z => by
        have q9 : ¬ I 43 29 - I 43 30 = nI 5 := q2
        rw [K.e, K.s, pk_sub (by omega), z.2] at q9
        exact q9 rfl
      exact G0 (tW_f1 (k := 13) cf) _
    · have q9 : I 43 29 - I 43 30 = nI 5 := q2
      rw [K.e, K.s, pk_sub (by omega)] at q9
      have c2 : tE t n p - tS t n p = 5 := (nI_eq (by omega) (by omega)).mp q9
      exact G c1 c2 0 (Nat.zero_le _) _ rfl (fun j hj => absurd hj (Nat.not_lt_zero j))
