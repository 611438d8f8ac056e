/-! contracts of the reference: what is taken of a line (written by wip/whole/gm16.py) -/
theorem c_Merrs {J : mJ} (X : mRules J) {I A : mI} {B : mB} {w f : Nat} {R : mR} (hg : I 43 33 = 0) {x : Int32} (h : R none (up2 (up2 I 43 33 x) 43 34 (I 43 30)) A B (pk w f)) : J n_M_errs 0 [.ref 43, .int x] [] I A B (pk w f) R := by
  refine X 200 _ _ _ _ _ _ _ _ _ ?_
  refine c_Mgood X (fun _ => ?_) (fun z => absurd (by exact hg) z)
  refine And.intro (fun _ => ?_) (fun q => absurd q (by decide))
  exact h
theorem c_Merrsf {J : mJ} (X : mRules J) {I A : mI} {B : mB} {w f : Nat} {R : mR} (hfx : ¬ I 43 33 = 0) {x : Int32} (h : R none I A B (pk w f)) : J n_M_errs 0 [.ref 43, .int x] [] I A B (pk w f) R := by
  refine X 200 _ _ _ _ _ _ _ _ _ ?_
  refine c_Mgood X (fun z => absurd z hfx) (fun _ => ?_)
  refine And.intro (fun q => absurd (by decide) q) (fun _ => ?_)
  exact h
theorem c_Mpass0 {J : mJ} (X : mRules J) {I A : mI} {B : mB} {w f : Nat} {R : mR} {t : Nat → Nat} {n : Nat} (T : TpR 60 A t n) (hn : I 43 28 = nI n) {p : Nat} (hp : p ≤ n) (K : MT I t n p) (hg : I 43 33 = 0) (h1 : tW t n p 0 = true → ∀ Iv, gM I Iv → MT Iv t n (tE t n p) → R (some (.int 1)) Iv A B (pk w f)) (h0 : tW t n p 0 = false → R (some (.int 0)) I A B (pk w f)) : J n_M_passes 0 [.ref 43, .retAddr 1, .float 0] [] I A B (pk w f) R := by
  have hE := tE_b (t := t) hp
  refine X 200 _ _ _ _ _ _ _ _ _ ?_
  refine c_Mis0 X T hp hg K (fun zw => ?_) (fun zw => ?_)
  · refine And.intro (fun q => absurd q (by decide)) (fun _ => ?_)
    refine c_Madv X T hn hE.2.1 K.e (fun Iv g1 g2 K1 => ?_)
    refine And.intro (Or.inr rfl) ?_
    exact h1 zw Iv ⟨g1, g2⟩ K1
  · refine And.intro (fun _ => ?_) (fun q => absurd (by decide) q)
    refine And.intro (Or.inl rfl) ?_
    exact h0 zw
set_option maxRecDepth 20000 in
theorem c_Misf0 {J : mJ} (X : mRules J) {I A : mI} {B : mB} {w f : Nat} {R : mR} (hfx : ¬ I 43 33 = 0) (h : R (some (.int 0)) I A B (pk w f)) : J n_M_is 0 [.ref 43, .retAddr 1, .float 0, .float 0] [] I A B (pk w f) R := by
  have G0 : ∀ x : Int32, J n_M_is 39 [.ref 43, .retAddr 1, .int 0, .int x] [] I A B (pk w f) R := by
    intro x
    refine X 200 _ _ _ _ _ _ _ _ _ ?_
    refine And.intro (fun q => absurd q (by decide)) (fun _ => ?_)
    refine And.intro rfl ?_
    refine And.intro (fun q1 => ?_) (fun q1 => ?_)
    · refine And.intro (Or.inl rfl) ?_
      exact h
    · refine And.intro (fun _ => ?_) (fun q => absurd (by decide) q)
      refine And.intro (Or.inl rfl) ?_
      exact h
  refine X 200 _ _ _ _ _ _ _ _ _ ?_
  refine c_Mgood X (fun z => absurd z hfx) (fun _ => ?_)
  refine And.intro (fun _ => ?_) (fun q => absurd (by decide) q)
  exact G0 _
theorem c_Mpassf0 {J : mJ} (X : mRules J) {I A : mI} {B : mB} {w f : Nat} {R : mR} (hfx : ¬ I 43 33 = 0) (h : R (some (.int 0)) I A B (pk w f)) : J n_M_passes 0 [.ref 43, .retAddr 1, .float 0] [] I A B (pk w f) R := by
  refine X 200 _ _ _ _ _ _ _ _ _ ?_
  refine c_Misf0 X hfx ?_
  refine And.intro (fun _ => ?_) (fun q => absurd (by decide) q)
  refine And.intro (Or.inl rfl) ?_
  exact h
theorem c_Mpass1 {J : mJ} (X : mRules J) {I A : mI} {B : mB} {w f : Nat} {R : mR} {t : Nat → Nat} {n : Nat} (T : TpR 60 A t n) (hn : I 43 28 = nI n) {p : Nat} (hp : p ≤ n) (K : MT I t n p) (hg : I 43 33 = 0) (h1 : tW t n p 1 = true → ∀ Iv, gM I Iv → MT Iv t n (tE t n p) → R (some (.int 1)) Iv A B (pk w f)) (h0 : tW t n p 1 = false → R (some (.int 0)) I A B (pk w f)) : J n_M_passes 0 [.ref 43, .retAddr 2, .float 0] [] I A B (pk w f) R := by
  have hE := tE_b (t := t) hp
  refine X 200 _ _ _ _ _ _ _ _ _ ?_
  refine c_Mis1 X T hp hg K (fun zw => ?_) (fun zw => ?_)
  · refine And.intro (fun q => absurd q (by decide)) (fun _ => ?_)
    refine c_Madv X T hn hE.2.1 K.e (fun Iv g1 g2 K1 => ?_)
    refine And.intro (Or.inr rfl) ?_
    exact h1 zw Iv ⟨g1, g2⟩ K1
  · refine And.intro (fun _ => ?_) (fun q => absurd (by decide) q)
    refine And.intro (Or.inl rfl) ?_
    exact h0 zw
set_option maxRecDepth 20000 in
theorem c_Misf1 {J : mJ} (X : mRules J) {I A : mI} {B : mB} {w f : Nat} {R : mR} (hfx : ¬ I 43 33 = 0) (h : R (some (.int 0)) I A B (pk w f)) : J n_M_is 0 [.ref 43, .retAddr 2, .float 0, .float 0] [] I A B (pk w f) R := by
  have G0 : ∀ x : Int32, J n_M_is 39 [.ref 43, .retAddr 2, .int 0, .int x] [] I A B (pk w f) R := by
    intro x
    refine X 200 _ _ _ _ _ _ _ _ _ ?_
    refine And.intro (fun q => absurd q (by decide)) (fun _ => ?_)
    refine And.intro rfl ?_
    refine And.intro (fun q1 => ?_) (fun q1 => ?_)
    · refine And.intro (Or.inl rfl) ?_
      exact h
    · refine And.intro (fun _ => ?_) (fun q => absurd (by decide) q)
      refine And.intro (Or.inl rfl) ?_
      exact h
  refine X 200 _ _ _ _ _ _ _ _ _ ?_
  refine c_Mgood X (fun z => absurd z hfx) (fun _ => ?_)
  refine And.intro (fun _ => ?_) (fun q => absurd (by decide) q)
  exact G0 _
theorem c_Mpassf1 {J : mJ} (X : mRules J) {I A : mI} {B : mB} {w f : Nat} {R : mR} (hfx : ¬ I 43 33 = 0) (h : R (some (.int 0)) I A B (pk w f)) : J n_M_passes 0 [.ref 43, .retAddr 2, .float 0] [] I A B (pk w f) R := by
  refine X 200 _ _ _ _ _ _ _ _ _ ?_
  refine c_Misf1 X hfx ?_
  refine And.intro (fun _ => ?_) (fun q => absurd (by decide) q)
  refine And.intro (Or.inl rfl) ?_
  exact h
theorem c_Mpass2 {J : mJ} (X : mRules J) {I A : mI} {B : mB} {w f : Nat} {R : mR} {t : Nat → Nat} {n : Nat} (T : TpR 60 A t n) (hn : I 43 28 = nI n) {p : Nat} (hp : p ≤ n) (K : MT I t n p) (hg : I 43 33 = 0) (h1 : tW t n p 2 = true → ∀ Iv, gM I Iv → MT Iv t n (tE t n p) → R (some (.int 1)) Iv A B (pk w f)) (h0 : tW t n p 2 = false → R (some (.int 0)) I A B (pk w f)) : J n_M_passes 0 [.ref 43, .retAddr 3, .float 0] [] I A B (pk w f) R := by
  have hE := tE_b (t := t) hp
  refine X 200 _ _ _ _ _ _ _ _ _ ?_
  refine c_Mis2 X T hp hg K (fun zw => ?_) (fun zw => ?_)
  · refine And.intro (fun q => absurd q (by decide)) (fun _ => ?_)
    refine c_Madv X T hn hE.2.1 K.e (fun Iv g1 g2 K1 => ?_)
    refine And.intro (Or.inr rfl) ?_
    exact h1 zw Iv ⟨g1, g2⟩ K1
  · refine And.intro (fun _ => ?_) (fun q => absurd (by decide) q)
    refine And.intro (Or.inl rfl) ?_
    exact h0 zw
set_option maxRecDepth 20000 in
theorem c_Misf2 {J : mJ} (X : mRules J) {I A : mI} {B : mB} {w f : Nat} {R : mR} (hfx : ¬ I 43 33 = 0) (h : R (some (.int 0)) I A B (pk w f)) : J n_M_is 0 [.ref 43, .retAddr 3, .float 0, .float 0] [] I A B (pk w f) R := by
  have G0 : ∀ x : Int32, J n_M_is 39 [.ref 43, .retAddr 3, .int 0, .int x] [] I A B (pk w f) R := by
    intro x
    refine X 200 _ _ _ _ _ _ _ _ _ ?_
    refine And.intro (fun q => absurd q (by decide)) (fun _ => ?_)
    refine And.intro rfl ?_
    refine And.intro (fun q1 => ?_) (fun q1 => ?_)
    · refine And.intro (Or.inl rfl) ?_
      exact h
    · refine And.intro (fun _ => ?_) (fun q => absurd (by decide) q)
      refine And.intro (Or.inl rfl) ?_
      exact h
  refine X 200 _ _ _ _ _ _ _ _ _ ?_
  refine c_Mgood X (fun z => absurd z hfx) (fun _ => ?_)
  refine And.intro (fun _ => ?_) (fun q => absurd (by decide) q)
  exact G0 _
theorem c_Mpassf2 {J : mJ} (X : mRules J) {I A : mI} {B : mB} {w f : Nat} {R : mR} (hfx : ¬ I 43 33 = 0) (h : R (some (.int 0)) I A B (pk w f)) : J n_M_passes 0 [.ref 43, .retAddr 3, .float 0] [] I A B (pk w f) R := by
  refine X 200 _ _ _ _ _ _ _ _ _ ?_
  refine c_Misf2 X hfx ?_
  refine And.intro (fun _ => ?_) (fun q => absurd (by decide) q)
  refine And.intro (Or.inl rfl) ?_
  exact h
theorem c_Mpass3 {J : mJ} (X : mRules J) {I A : mI} {B : mB} {w f : Nat} {R : mR} {t : Nat → Nat} {n : Nat} (T : TpR 60 A t n) (hn : I 43 28 = nI n) {p : Nat} (hp : p ≤ n) (K : MT I t n p) (hg : I 43 33 = 0) (h1 : tW t n p 3 = true → ∀ Iv, gM I Iv → MT Iv t n (tE t n p) → R (some (.int 1)) Iv A B (pk w f)) (h0 : tW t n p 3 = false → R (some (.int 0)) I A B (pk w f)) : J n_M_passes 0 [.ref 43, .retAddr 4, .float 0] [] I A B (pk w f) R := by
  have hE := tE_b (t := t) hp
  refine X 200 _ _ _ _ _ _ _ _ _ ?_
  refine c_Mis3 X T hp hg K (fun zw => ?_) (fun zw => ?_)
  · refine And.intro (fun q => absurd q (by decide)) (fun _ => ?_)
    refine c_Madv X T hn hE.2.1 K.e (fun Iv g1 g2 K1 => ?_)
    refine And.intro (Or.inr rfl) ?_
    exact h1 zw Iv ⟨g1, g2⟩ K1
  · refine And.intro (fun _ => ?_) (fun q => absurd (by decide) q)
    refine And.intro (Or.inl rfl) ?_
    exact h0 zw
set_option maxRecDepth 20000 in
theorem c_Misf3 {J : mJ} (X : mRules J) {I A : mI} {B : mB} {w f : Nat} {R : mR} (hfx : ¬ I 43 33 = 0) (h : R (some (.int 0)) I A B (pk w f)) : J n_M_is 0 [.ref 43, .retAddr 4, .float 0, .float 0] [] I A B (pk w f) R := by
  have G0 : ∀ x : Int32, J n_M_is 39 [.ref 43, .retAddr 4, .int 0, .int x] [] I A B (pk w f) R := by
    intro x
    refine X 200 _ _ _ _ _ _ _ _ _ ?_
    refine And.intro (fun q => absurd q (by decide)) (fun _ => ?_)
    refine And.intro rfl ?_
    refine And.intro (fun q1 => ?_) (fun q1 => ?_)
    · refine And.intro (Or.inl rfl) ?_
      exact h
    · refine And.intro (fun _ => ?_) (fun q => absurd (by decide) q)
      refine And.intro (Or.inl rfl) ?_
      exact h
  refine X 200 _ _ _ _ _ _ _ _ _ ?_
  refine c_Mgood X (fun z => absurd z hfx) (fun _ => ?_)
  refine And.intro (fun _ => ?_) (fun q => absurd (by decide) q)
  exact G0 _
theorem c_Mpassf3 {J : mJ} (X : mRules J) {I A : mI} {B : mB} {w f : Nat} {R : mR} (hfx : ¬ I 43 33 = 0) (h : R (some (.int 0)) I A B (pk w f)) : J n_M_passes 0 [.ref 43, .retAddr 4, .float 0] [] I A B (pk w f) R := by
  refine X 200 _ _ _ _ _ _ _ _ _ ?_
  refine c_Misf3 X hfx ?_
  refine And.intro (fun _ => ?_) (fun q => absurd (by decide) q)
  refine And.intro (Or.inl rfl) ?_
  exact h
theorem c_Mpass4 {J : mJ} (X : mRules J) {I A : mI} {B : mB} {w f : Nat} {R : mR} {t : Nat → Nat} {n : Nat} (T : TpR 60 A t n) (hn : I 43 28 = nI n) {p : Nat} (hp : p ≤ n) (K : MT I t n p) (hg : I 43 33 = 0) (h1 : tW t n p 4 = true → ∀ Iv, gM I Iv → MT Iv t n (tE t n p) → R (some (.int 1)) Iv A B (pk w f)) (h0 : tW t n p 4 = false → R (some (.int 0)) I A B (pk w f)) : J n_M_passes 0 [.ref 43, .retAddr 5, .float 0] [] I A B (pk w f) R := by
  have hE := tE_b (t := t) hp
  refine X 200 _ _ _ _ _ _ _ _ _ ?_
  refine c_Mis4 X T hp hg K (fun zw => ?_) (fun zw => ?_)
  · refine And.intro (fun q => absurd q (by decide)) (fun _ => ?_)
    refine c_Madv X T hn hE.2.1 K.e (fun Iv g1 g2 K1 => ?_)
    refine And.intro (Or.inr rfl) ?_
    exact h1 zw Iv ⟨g1, g2⟩ K1
  · refine And.intro (fun _ => ?_) (fun q => absurd (by decide) q)
    refine And.intro (Or.inl rfl) ?_
    exact h0 zw
set_option maxRecDepth 20000 in
theorem c_Misf4 {J : mJ} (X : mRules J) {I A : mI} {B : mB} {w f : Nat} {R : mR} (hfx : ¬ I 43 33 = 0) (h : R (some (.int 0)) I A B (pk w f)) : J n_M_is 0 [.ref 43, .retAddr 5, .float 0, .float 0] [] I A B (pk w f) R := by
  have G0 : ∀ x : Int32, J n_M_is 39 [.ref 43, .retAddr 5, .int 0, .int x] [] I A B (pk w f) R := by
    intro x
    refine X 200 _ _ _ _ _ _ _ _ _ ?_
    refine And.intro (fun q => absurd q (by decide)) (fun _ => ?_)
    refine And.intro rfl ?_
    refine And.intro (fun q1 => ?_) (fun q1 => ?_)
    · refine And.intro (Or.inl rfl) ?_
      exact h
    · refine And.intro (fun _ => ?_) (fun q => absurd (by decide) q)
      refine And.intro (Or.inl rfl) ?_
      exact h
  refine X 200 _ _ _ _ _ _ _ _ _ ?_
  refine c_Mgood X (fun z => absurd z hfx) (fun _ => ?_)
  refine And.intro (fun _ => ?_) (fun q => absurd (by decide) q)
  exact G0 _
theorem c_Mpassf4 {J : mJ} (X : mRules J) {I A : mI} {B : mB} {w f : Nat} {R : mR} (hfx : ¬ I 43 33 = 0) (h : R (some (.int 0)) I A B (pk w f)) : J n_M_passes 0 [.ref 43, .retAddr 5, .float 0] [] I A B (pk w f) R := by
  refine X 200 _ _ _ _ _ _ _ _ _ ?_
  refine c_Misf4 X hfx ?_
  refine And.intro (fun _ => ?_) (fun q => absurd (by decide) q)
  refine And.intro (Or.inl rfl) ?_
  exact h
theorem c_Mpass5 {J : mJ} (X : mRules J) {I A : mI} {B : mB} {w f : Nat} {R : mR} {t : Nat → Nat} {n : Nat} (T : TpR 60 A t n) (hn : I 43 28 = nI n) {p : Nat} (hp : p ≤ n) (K : MT I t n p) (hg : I 43 33 = 0) (h1 : tW t n p 5 = true → ∀ Iv, gM I Iv → MT Iv t n (tE t n p) → R (some (.int 1)) Iv A B (pk w f)) (h0 : tW t n p 5 = false → R (some (.int 0)) I A B (pk w f)) : J n_M_passes 0 [.ref 43, .retAddr 6, .float 0] [] I A B (pk w f) R := by
  have hE := tE_b (t := t) hp
  refine X 200 _ _ _ _ _ _ _ _ _ ?_
  refine c_Mis5 X T hp hg K (fun zw => ?_) (fun zw => ?_)
  · refine And.intro (fun q => absurd q (by decide)) (fun _ => ?_)
    refine c_Madv X T hn hE.2.1 K.e (fun Iv g1 g2 K1 => ?_)
    refine And.intro (Or.inr rfl) ?_
    exact h1 zw Iv ⟨g1, g2⟩ K1
  · refine And.intro (fun _ => ?_) (fun q => absurd (by decide) q)
    refine And.intro (Or.inl rfl) ?_
    exact h0 zw
set_option maxRecDepth 20000 in
theorem c_Misf5 {J : mJ} (X : mRules J) {I A : mI} {B : mB} {w f : Nat} {R : mR} (hfx : ¬ I 43 33 = 0) (h : R (some (.int 0)) I A B (pk w f)) : J n_M_is 0 [.ref 43, .retAddr 6, .float 0, .float 0] [] I A B (pk w f) R := by
  have G0 : ∀ x : Int32, J n_M_is 39 [.ref 43, .retAddr 6, .int 0, .int x] [] I A B (pk w f) R := by
    intro x
    refine X 200 _ _ _ _ _ _ _ _ _ ?_
    refine And.intro (fun q => absurd q (by decide)) (fun _ => ?_)
    refine And.intro rfl ?_
    refine And.intro (fun q1 => ?_) (fun q1 => ?_)
    · refine And.intro (Or.inl rfl) ?_
      exact h
    · refine And.intro (fun _ => ?_) (fun q => absurd (by decide) q)
      refine And.intro (Or.inl rfl) ?_
      exact h
  refine X 200 _ _ _ _ _ _ _ _ _ ?_
  refine c_Mgood X (fun z => absurd z hfx) (fun _ => ?_)
  refine And.intro (fun _ => ?_) (fun q => absurd (by decide) q)
  exact G0 _
theorem c_Mpassf5 {J : mJ} (X : mRules J) {I A : mI} {B : mB} {w f : Nat} {R : mR} (hfx : ¬ I 43 33 = 0) (h : R (some (.int 0)) I A B (pk w f)) : J n_M_passes 0 [.ref 43, .retAddr 6, .float 0] [] I A B (pk w f) R := by
  refine X 200 _ _ _ _ _ _ _ _ _ ?_
  refine c_Misf5 X hfx ?_
  refine And.intro (fun _ => ?_) (fun q => absurd (by decide) q)
  refine And.intro (Or.inl rfl) ?_
  exact h
theorem c_Mpass6 {J : mJ} (X : mRules J) {I A : mI} {B : mB} {w f : Nat} {R : mR} {t : Nat → Nat} {n : Nat} (T : TpR 60 A t n) (hn : I 43 28 = nI n) {p : Nat} (hp : p ≤ n) (K : MT I t n p) (hg : I 43 33 = 0) (h1 : tW t n p 6 = true → ∀ Iv, gM I Iv → MT Iv t n (tE t n p) → R (some (.int 1)) Iv A B (pk w f)) (h0 : tW t n p 6 = false → R (some (.int 0)) I A B (pk w f)) : J n_M_passes 0 [.ref 43, .retAddr 7, .float 0] [] I A B (pk w f) R := by
  have hE := tE_b (t := t) hp
  refine X 200 _ _ _ _ _ _ _ _ _ ?_
  refine c_Mis6 X T hp hg K (fun zw => ?_) (fun zw => ?_)
  · refine And.intro (fun q => absurd q (by decide)) (fun _ => ?_)
    refine c_Madv X T hn hE.2.1 K.e (fun Iv g1 g2 K1 => ?_)
    refine And.intro (Or.inr rfl) ?_
    exact h1 zw Iv ⟨g1, g2⟩ K1
  · refine And.intro (fun _ => ?_) (fun q => absurd (by decide) q)
    refine And.intro (Or.inl rfl) ?_
    exact h0 zw
set_option maxRecDepth 20000 in
theorem c_Misf6 {J : mJ} (X : mRules J) {I A : mI} {B : mB} {w f : Nat} {R : mR} (hfx : ¬ I 43 33 = 0) (h : R (some (.int 0)) I A B (pk w f)) : J n_M_is 0 [.ref 43, .retAddr 7, .float 0, .float 0] [] I A B (pk w f) R := by
  have G0 : ∀ x : Int32, J n_M_is 39 [.ref 43, .retAddr 7, .int 0, .int x] [] I A B (pk w f) R := by
    intro x
    refine X 200 _ _ _ _ _ _ _ _ _ ?_
    refine And.intro (fun q => absurd q (by decide)) (fun _ => ?_)
    refine And.intro rfl ?_
    refine And.intro (fun q1 => ?_) (fun q1 => ?_)
    · refine And.intro (Or.inl rfl) ?_
      exact h
    · refine And.intro (fun _ => ?_) (fun q => absurd (by decide) q)
      refine And.intro (Or.inl rfl) ?_
      exact h
  refine X 200 _ _ _ _ _ _ _ _ _ ?_
  refine c_Mgood X (fun z => absurd z hfx) (fun _ => ?_)
  refine And.intro (fun _ => ?_) (fun q => absurd (by decide) q)
  exact G0 _
theorem c_Mpassf6 {J : mJ} (X : mRules J) {I A : mI} {B : mB} {w f : Nat} {R : mR} (hfx : ¬ I 43 33 = 0) (h : R (some (.int 0)) I A B (pk w f)) : J n_M_passes 0 [.ref 43, .retAddr 7, .float 0] [] I A B (pk w f) R := by
  refine X 200 _ _ _ _ _ _ _ _ _ ?_
  refine c_Misf6 X hfx ?_
  refine And.intro (fun _ => ?_) (fun q => absurd (by decide) q)
  refine And.intro (Or.inl rfl) ?_
  exact h
theorem c_Mpass7 {J : mJ} (X : mRules J) {I A : mI} {B : mB} {w f : Nat} {R : mR} {t : Nat → Nat} {n : Nat} (T : TpR 60 A t n) (hn : I 43 28 = nI n) {p : Nat} (hp : p ≤ n) (K : MT I t n p) (hg : I 43 33 = 0) (h1 : tW t n p 7 = true → ∀ Iv, gM I Iv → MT Iv t n (tE t n p) → R (some (.int 1)) Iv A B (pk w f)) (h0 : tW t n p 7 = false → R (some (.int 0)) I A B (pk w f)) : J n_M_passes 0 [.ref 43, .retAddr 8, .float 0] [] I A B (pk w f) R := by
  have hE := tE_b (t := t) hp
  refine X 200 _ _ _ _ _ _ _ _ _ ?_
  refine c_Mis7 X T hp hg K (fun zw => ?_) (fun zw => ?_)
  · refine And.intro (fun q => absurd q (by decide)) (fun _ => ?_)
    refine c_Madv X T hn hE.2.1 K.e (fun Iv g1 g2 K1 => ?_)
    refine And.intro (Or.inr rfl) ?_
    exact h1 zw Iv ⟨g1, g2⟩ K1
  · refine And.intro (fun _ => ?_) (fun q => absurd (by decide) q)
    refine And.intro (Or.inl rfl) ?_
    exact h0 zw
set_option maxRecDepth 20000 in
theorem c_Misf7 {J : mJ} (X : mRules J) {I A : mI} {B : mB} {w f : Nat} {R : mR} (hfx : ¬ I 43 33 = 0) (h : R (some (.int 0)) I A B (pk w f)) : J n_M_is 0 [.ref 43, .retAddr 8, .float 0, .float 0] [] I A B (pk w f) R := by
  have G0 : ∀ x : Int32, J n_M_is 39 [.ref 43, .retAddr 8, .int 0, .int x] [] I A B (pk w f) R := by
    intro x
    refine X 200 _ _ _ _ _ _ _ _ _ ?_
    refine And.intro (fun q => absurd q (by decide)) (fun _ => ?_)
    refine And.intro rfl ?_
    refine And.intro (fun q1 => ?_) (fun q1 => ?_)
    · refine And.intro (Or.inl rfl) ?_
      exact h
    · refine And.intro (fun _ => ?_) (fun q => absurd (by decide) q)
      refine And.intro (Or.inl rfl) ?_
      exact h
  refine X 200 _ _ _ _ _ _ _ _ _ ?_
  refine c_Mgood X (fun z => absurd z hfx) (fun _ => ?_)
  refine And.intro (fun _ => ?_) (fun q => absurd (by decide) q)
  exact G0 _
theorem c_Mpassf7 {J : mJ} (X : mRules J) {I A : mI} {B : mB} {w f : Nat} {R : mR} (hfx : ¬ I 43 33 = 0) (h : R (some (.int 0)) I A B (pk w f)) : J n_M_passes 0 [.ref 43, .retAddr 8, .float 0] [] I A B (pk w f) R := by
  refine X 200 _ _ _ _ _ _ _ _ _ ?_
  refine c_Misf7 X hfx ?_
  refine And.intro (fun _ => ?_) (fun q => absurd (by decide) q)
  refine And.intro (Or.inl rfl) ?_
  exact h
theorem c_Mpass8 {J : mJ} (X : mRules J) {I A : mI} {B : mB} {w f : Nat} {R : mR} {t : Nat → Nat} {n : Nat} (T : TpR 60 A t n) (hn : I 43 28 = nI n) {p : Nat} (hp : p ≤ n) (K : MT I t n p) (hg : I 43 33 = 0) (h1 : tW t n p 8 = true → ∀ Iv, gM I Iv → MT Iv t n (tE t n p) → R (some (.int 1)) Iv A B (pk w f)) (h0 : tW t n p 8 = false → R (some (.int 0)) I A B (pk w f)) : J n_M_passes 0 [.ref 43, .retAddr 9, .float 0] [] I A B (pk w f) R := by
  have hE := tE_b (t := t) hp
  refine X 200 _ _ _ _ _ _ _ _ _ ?_
  refine c_Mis8 X T hp hg K (fun zw => ?_) (fun zw => ?_)
  · refine And.intro (fun q => absurd q (by decide)) (fun _ => ?_)
    refine c_Madv X T hn hE.2.1 K.e (fun Iv g1 g2 K1 => ?_)
    refine And.intro (Or.inr rfl) ?_
    exact h1 zw Iv ⟨g1, g2⟩ K1
  · refine And.intro (fun _ => ?_) (fun q => absurd (by decide) q)
    refine And.intro (Or.inl rfl) ?_
    exact h0 zw
set_option maxRecDepth 20000 in
theorem c_Misf8 {J : mJ} (X : mRules J) {I A : mI} {B : mB} {w f : Nat} {R : mR} (hfx : ¬ I 43 33 = 0) (h : R (some (.int 0)) I A B (pk w f)) : J n_M_is 0 [.ref 43, .retAddr 9, .float 0, .float 0] [] I A B (pk w f) R := by
  have G0 : ∀ x : Int32, J n_M_is 39 [.ref 43, .retAddr 9, .int 0, .int x] [] I A B (pk w f) R := by
    intro x
    refine X 200 _ _ _ _ _ _ _ _ _ ?_
    refine And.intro (fun q => absurd q (by decide)) (fun _ => ?_)
    refine And.intro rfl ?_
    refine And.intro (fun q1 => ?_) (fun q1 => ?_)
    · refine And.intro (Or.inl rfl) ?_
      exact h
    · refine And.intro (fun _ => ?_) (fun q => absurd (by decide) q)
      refine And.intro (Or.inl rfl) ?_
      exact h
  refine X 200 _ _ _ _ _ _ _ _ _ ?_
  refine c_Mgood X (fun z => absurd z hfx) (fun _ => ?_)
  refine And.intro (fun _ => ?_) (fun q => absurd (by decide) q)
  exact G0 _
theorem c_Mpassf8 {J : mJ} (X : mRules J) {I A : mI} {B : mB} {w f : Nat} {R : mR} (hfx : ¬ I 43 33 = 0) (h : R (some (.int 0)) I A B (pk w f)) : J n_M_passes 0 [.ref 43, .retAddr 9, .float 0] [] I A B (pk w f) R := by
  refine X 200 _ _ _ _ _ _ _ _ _ ?_
  refine c_Misf8 X hfx ?_
  refine And.intro (fun _ => ?_) (fun q => absurd (by decide) q)
  refine And.intro (Or.inl rfl) ?_
  exact h
theorem c_Mpass9 {J : mJ} (X : mRules J) {I A : mI} {B : mB} {w f : Nat} {R : mR} {t : Nat → Nat} {n : Nat} (T : TpR 60 A t n) (hn : I 43 28 = nI n) {p : Nat} (hp : p ≤ n) (K : MT I t n p) (hg : I 43 33 = 0) (h1 : tW t n p 9 = true → ∀ Iv, gM I Iv → MT Iv t n (tE t n p) → R (some (.int 1)) Iv A B (pk w f)) (h0 : tW t n p 9 = false → R (some (.int 0)) I A B (pk w f)) : J n_M_passes 0 [.ref 43, .retAddr 10, .float 0] [] I A B (pk w f) R := by
  have hE := tE_b (t := t) hp
  refine X 200 _ _ _ _ _ _ _ _ _ ?_
  refine c_Mis9 X T hp hg K (fun zw => ?_) (fun zw => ?_)
  · refine And.intro (fun q => absurd q (by decide)) (fun _ => ?_)
    refine c_Madv X T hn hE.2.1 K.e (fun Iv g1 g2 K1 => ?_)
    refine And.intro (Or.inr rfl) ?_
    exact h1 zw Iv ⟨g1, g2⟩ K1
  · refine And.intro (fun _ => ?_) (fun q => absurd (by decide) q)
    refine And.intro (Or.inl rfl) ?_
    exact h0 zw
set_option maxRecDepth 20000 in
theorem c_Misf9 {J : mJ} (X : mRules J) {I A : mI} {B : mB} {w f : Nat} {R : mR} (hfx : ¬ I 43 33 = 0) (h : R (some (.int 0)) I A B (pk w f)) : J n_M_is 0 [.ref 43, .retAddr 10, .float 0, .float 0] [] I A B (pk w f) R := by
  have G0 : ∀ x : Int32, J n_M_is 39 [.ref 43, .retAddr 10, .int 0, .int x] [] I A B (pk w f) R := by
    intro x
    refine X 200 _ _ _ _ _ _ _ _ _ ?_
    refine And.intro (fun q => absurd q (by decide)) (fun _ => ?_)
    refine And.intro rfl ?_
    refine And.intro (fun q1 => ?_) (fun q1 => ?_)
    · refine And.intro (Or.inl rfl) ?_
      exact h
    · refine And.intro (fun _ => ?_) (fun q => absurd (by decide) q)
      refine And.intro (Or.inl rfl) ?_
      exact h
  refine X 200 _ _ _ _ _ _ _ _ _ ?_
  refine c_Mgood X (fun z => absurd z hfx) (fun _ => ?_)
  refine And.intro (fun _ => ?_) (fun q => absurd (by decide) q)
  exact G0 _
theorem c_Mpassf9 {J : mJ} (X : mRules J) {I A : mI} {B : mB} {w f : Nat} {R : mR} (hfx : ¬ I 43 33 = 0) (h : R (some (.int 0)) I A B (pk w f)) : J n_M_passes 0 [.ref 43, .retAddr 10, .float 0] [] I A B (pk w f) R := by
  refine X 200 _ _ _ _ _ _ _ _ _ ?_
  refine c_Misf9 X hfx ?_
  refine And.intro (fun _ => ?_) (fun q => absurd (by decide) q)
  refine And.intro (Or.inl rfl) ?_
  exact h
theorem c_Mpass10 {J : mJ} (X : mRules J) {I A : mI} {B : mB} {w f : Nat} {R : mR} {t : Nat → Nat} {n : Nat} (T : TpR 60 A t n) (hn : I 43 28 = nI n) {p : Nat} (hp : p ≤ n) (K : MT I t n p) (hg : I 43 33 = 0) (h1 : tW t n p 10 = true → ∀ Iv, gM I Iv → MT Iv t n (tE t n p) → R (some (.int 1)) Iv A B (pk w f)) (h0 : tW t n p 10 = false → R (some (.int 0)) I A B (pk w f)) : J n_M_passes 0 [.ref 43, .retAddr 11, .float 0] [] I A B (pk w f) R := by
  have hE := tE_b (t := t) hp
  refine X 200 _ _ _ _ _ _ _ _ _ ?_
  refine c_Mis10 X T hp hg K (fun zw => ?_) (fun zw => ?_)
  · refine And.intro (fun q => absurd q (by decide)) (fun _ => ?_)
    refine c_Madv X T hn hE.2.1 K.e (fun Iv g1 g2 K1 => ?_)
    refine And.intro (Or.inr rfl) ?_
    exact h1 zw Iv ⟨g1, g2⟩ K1
  · refine And.intro (fun _ => ?_) (fun q => absurd (by decide) q)
    refine And.intro (Or.inl rfl) ?_
    exact h0 zw
set_option maxRecDepth 20000 in
theorem c_Misf10 {J : mJ} (X : mRules J) {I A : mI} {B : mB} {w f : Nat} {R : mR} (hfx : ¬ I 43 33 = 0) (h : R (some (.int 0)) I A B (pk w f)) : J n_M_is 0 [.ref 43, .retAddr 11, .float 0, .float 0] [] I A B (pk w f) R := by
  have G0 : ∀ x : Int32, J n_M_is 39 [.ref 43, .retAddr 11, .int 0, .int x] [] I A B (pk w f) R := by
    intro x
    refine X 200 _ _ _ _ _ _ _ _ _ ?_
    refine And.intro (fun q => absurd q (by decide)) (fun _ => ?_)
    refine And.intro rfl ?_
    refine And.intro (fun q1 => ?_) (fun q1 => ?_)
    · refine And.intro (Or.inl rfl) ?_
      exact h
    · refine And.intro (fun _ => ?_) (fun q => absurd (by decide) q)
      refine And.intro (Or.inl rfl) ?_
      exact h
  refine X 200 _ _ _ _ _ _ _ _ _ ?_
  refine c_Mgood X (fun z => absurd z hfx) (fun _ => ?_)
  refine And.intro (fun _ => ?_) (fun q => absurd (by decide) q)
  exact G0 _
theorem c_Mpassf10 {J : mJ} (X : mRules J) {I A : mI} {B : mB} {w f : Nat} {R : mR} (hfx : ¬ I 43 33 = 0) (h : R (some (.int 0)) I A B (pk w f)) : J n_M_passes 0 [.ref 43, .retAddr 11, .float 0] [] I A B (pk w f) R := by
  refine X 200 _ _ _ _ _ _ _ _ _ ?_
  refine c_Misf10 X hfx ?_
  refine And.intro (fun _ => ?_) (fun q => absurd (by decide) q)
  refine And.intro (Or.inl rfl) ?_
  exact h
theorem c_Mpass11 {J : mJ} (X : mRules J) {I A : mI} {B : mB} {w f : Nat} {R : mR} {t : Nat → Nat} {n : Nat} (T : TpR 60 A t n) (hn : I 43 28 = nI n) {p : Nat} (hp : p ≤ n) (K : MT I t n p) (hg : I 43 33 = 0) (h1 : tW t n p 11 = true → ∀ Iv, gM I Iv → MT Iv t n (tE t n p) → R (some (.int 1)) Iv A B (pk w f)) (h0 : tW t n p 11 = false → R (some (.int 0)) I A B (pk w f)) : J n_M_passes 0 [.ref 43, .retAddr 12, .float 0] [] I A B (pk w f) R := by
  have hE := tE_b (t := t) hp
  refine X 200 _ _ _ _ _ _ _ _ _ ?_
  refine c_Mis11 X T hp hg K (fun zw => ?_) (fun zw => ?_)
  · refine And.intro (fun q => absurd q (by decide)) (fun _ => ?_)
    refine c_Madv X T hn hE.2.1 K.e (fun Iv g1 g2 K1 => ?_)
    refine And.intro (Or.inr rfl) ?_
    exact h1 zw Iv ⟨g1, g2⟩ K1
  · refine And.intro (fun _ => ?_) (fun q => absurd (by decide) q)
    refine And.intro (Or.inl rfl) ?_
    exact h0 zw
set_option maxRecDepth 20000 in
theorem c_Misf11 {J : mJ} (X : mRules J) {I A : mI} {B : mB} {w f : Nat} {R : mR} (hfx : ¬ I 43 33 = 0) (h : R (some (.int 0)) I A B (pk w f)) : J n_M_is 0 [.ref 43, .retAddr 12, .float 0, .float 0] [] I A B (pk w f) R := by
  have G0 : ∀ x : Int32, J n_M_is 39 [.ref 43, .retAddr 12, .int 0, .int x] [] I A B (pk w f) R := by
    intro x
    refine X 200 _ _ _ _ _ _ _ _ _ ?_
    refine And.intro (fun q => absurd q (by decide)) (fun _ => ?_)
    refine And.intro rfl ?_
    refine And.intro (fun q1 => ?_) (fun q1 => ?_)
    · refine And.intro (Or.inl rfl) ?_
      exact h
    · refine And.intro (fun _ => ?_) (fun q => absurd (by decide) q)
      refine And.intro (Or.inl rfl) ?_
      exact h
  refine X 200 _ _ _ _ _ _ _ _ _ ?_
  refine c_Mgood X (fun z => absurd z hfx) (fun _ => ?_)
  refine And.intro (fun _ => ?_) (fun q => absurd (by decide) q)
  exact G0 _
theorem c_Mpassf11 {J : mJ} (X : mRules J) {I A : mI} {B : mB} {w f : Nat} {R : mR} (hfx : ¬ I 43 33 = 0) (h : R (some (.int 0)) I A B (pk w f)) : J n_M_passes 0 [.ref 43, .retAddr 12, .float 0] [] I A B (pk w f) R := by
  refine X 200 _ _ _ _ _ _ _ _ _ ?_
  refine c_Misf11 X hfx ?_
  refine And.intro (fun _ => ?_) (fun q => absurd (by decide) q)
  refine And.intro (Or.inl rfl) ?_
  exact h
theorem c_Mpass12 {J : mJ} (X : mRules J) {I A : mI} {B : mB} {w f : Nat} {R : mR} {t : Nat → Nat} {n : Nat} (T : TpR 60 A t n) (hn : I 43 28 = nI n) {p : Nat} (hp : p ≤ n) (K : MT I t n p) (hg : I 43 33 = 0) (h1 : tW t n p 12 = true → ∀ Iv, gM I Iv → MT Iv t n (tE t n p) → R (some (.int 1)) Iv A B (pk w f)) (h0 : tW t n p 12 = false → R (some (.int 0)) I A B (pk w f)) : J n_M_passes 0 [.ref 43, .retAddr 13, .float 0] [] I A B (pk w f) R := by
  have hE := tE_b (t := t) hp
  refine X 200 _ _ _ _ _ _ _ _ _ ?_
  refine c_Mis12 X T hp hg K (fun zw => ?_) (fun zw => ?_)
  · refine And.intro (fun q => absurd q (by decide)) (fun _ => ?_)
    refine c_Madv X T hn hE.2.1 K.e (fun Iv g1 g2 K1 => ?_)
    refine And.intro (Or.inr rfl) ?_
    exact h1 zw Iv ⟨g1, g2⟩ K1
  · refine And.intro (fun _ => ?_) (fun q => absurd (by decide) q)
    refine And.intro (Or.inl rfl) ?_
    exact h0 zw
set_option maxRecDepth 20000 in
theorem c_Misf12 {J : mJ} (X : mRules J) {I A : mI} {B : mB} {w f : Nat} {R : mR} (hfx : ¬ I 43 33 = 0) (h : R (some (.int 0)) I A B (pk w f)) : J n_M_is 0 [.ref 43, .retAddr 13, .float 0, .float 0] [] I A B (pk w f) R := by
  have G0 : ∀ x : Int32, J n_M_is 39 [.ref 43, .retAddr 13, .int 0, .int x] [] I A B (pk w f) R := by
    intro x
    refine X 200 _ _ _ _ _ _ _ _ _ ?_
    refine And.intro (fun q => absurd q (by decide)) (fun _ => ?_)
    refine And.intro rfl ?_
    refine And.intro (fun q1 => ?_) (fun q1 => ?_)
    · refine And.intro (Or.inl rfl) ?_
      exact h
    · refine And.intro (fun _ => ?_) (fun q => absurd (by decide) q)
      refine And.intro (Or.inl rfl) ?_
      exact h
  refine X 200 _ _ _ _ _ _ _ _ _ ?_
  refine c_Mgood X (fun z => absurd z hfx) (fun _ => ?_)
  refine And.intro (fun _ => ?_) (fun q => absurd (by decide) q)
  exact G0 _
theorem c_Mpassf12 {J : mJ} (X : mRules J) {I A : mI} {B : mB} {w f : Nat} {R : mR} (hfx : ¬ I 43 33 = 0) (h : R (some (.int 0)) I A B (pk w f)) : J n_M_passes 0 [.ref 43, .retAddr 13, .float 0] [] I A B (pk w f) R := by
  refine X 200 _ _ _ _ _ _ _ _ _ ?_
  refine c_Misf12 X hfx ?_
  refine And.intro (fun _ => ?_) (fun q => absurd (by decide) q)
  refine And.intro (Or.inl rfl) ?_
  exact h
theorem c_Mpass13 {J : mJ} (X : mRules J) {I A : mI} {B : mB} {w f : Nat} {R : mR} {t : Nat → Nat} {n : Nat} (T : TpR 60 A t n) (hn : I 43 28 = nI n) {p : Nat} (hp : p ≤ n) (K : MT I t n p) (hg : I 43 33 = 0) (h1 : tW t n p 13 = true → ∀ Iv, gM I Iv → MT Iv t n (tE t n p) → R (some (.int 1)) Iv A B (pk w f)) (h0 : tW t n p 13 = false → R (some (.int 0)) I A B (pk w f)) : J n_M_passes 0 [.ref 43, .retAddr 14, .float 0] [] I A B (pk w f) R := by
  have hE := tE_b (t := t) hp
  refine X 200 _ _ _ _ _ _ _ _ _ ?_
  refine c_Mis13 X T hp hg K (fun zw => ?_) (fun zw => ?_)
  · refine And.intro (fun q => absurd q (by decide)) (fun _ => ?_)
    refine c_Madv X T hn hE.2.1 K.e (fun Iv g1 g2 K1 => ?_)
    refine And.intro (Or.inr rfl) ?_
    exact h1 zw Iv ⟨g1, g2⟩ K1
  · refine And.intro (fun _ => ?_) (fun q => absurd (by decide) q)
    refine And.intro (Or.inl rfl) ?_
    exact h0 zw
set_option maxRecDepth 20000 in
theorem c_Misf13 {J : mJ} (X : mRules J) {I A : mI} {B : mB} {w f : Nat} {R : mR} (hfx : ¬ I 43 33 = 0) (h : R (some (.int 0)) I A B (pk w f)) : J n_M_is 0 [.ref 43, .retAddr 14, .float 0, .float 0] [] I A B (pk w f) R := by
  have G0 : ∀ x : Int32, J n_M_is 39 [.ref 43, .retAddr 14, .int 0, .int x] [] I A B (pk w f) R := by
    intro x
    refine X 200 _ _ _ _ _ _ _ _ _ ?_
    refine And.intro (fun q => absurd q (by decide)) (fun _ => ?_)
    refine And.intro rfl ?_
    refine And.intro (fun q1 => ?_) (fun q1 => ?_)
    · refine And.intro (Or.inl rfl) ?_
      exact h
    · refine And.intro (fun _ => ?_) (fun q => absurd (by decide) q)
      refine And.intro (Or.inl rfl) ?_
      exact h
  refine X 200 _ _ _ _ _ _ _ _ _ ?_
  refine c_Mgood X (fun z => absurd z hfx) (fun _ => ?_)
  refine And.intro (fun _ => ?_) (fun q => absurd (by decide) q)
  exact G0 _
theorem c_Mpassf13 {J : mJ} (X : mRules J) {I A : mI} {B : mB} {w f : Nat} {R : mR} (hfx : ¬ I 43 33 = 0) (h : R (some (.int 0)) I A B (pk w f)) : J n_M_passes 0 [.ref 43, .retAddr 14, .float 0] [] I A B (pk w f) R := by
  refine X 200 _ _ _ _ _ _ _ _ _ ?_
  refine c_Misf13 X hfx ?_
  refine And.intro (fun _ => ?_) (fun q => absurd (by decide) q)
  refine And.intro (Or.inl rfl) ?_
  exact h
set_option maxRecDepth 20000 in
theorem c_Mtak {J : mJ} (X : mRules J) {I A : mI} {B : mB} {w f : Nat} {R : mR} {t : Nat → Nat} {n : Nat} (T : TpR 60 A t n) (hn : I 43 28 = nI n) {p : Nat} (hp : p ≤ n) (K : MT I t n p) (hg : I 43 33 = 0) {lo hi : Nat} (hlo : lo ≤ 100000) (hhi : hi ≤ 100000) {xl xh : Int32} (el : xl = nI lo) (eh : xh = zN ((hi : Int) - 1)) (h1 : ∀ Iv, lo ≤ tN t n p → tN t n p < hi → tkN t n lo hi p = .ok (tN t n p, tE t n p) → gM I Iv → MT Iv t n (tE t n p) → R (some (.int (nI (tN t n p)))) Iv A B (pk w f)) (h0 : ∀ k, k = 1 ∨ k = 2 → tkN t n lo hi p = .error (k, tS t n p) → R (some (.int 0)) (up2 (up2 I 43 33 (nI k)) 43 34 (I 43 30)) A B (pk w f)) : J n_M_takes 0 [.ref 43, .int xl, .int xh, .float 0] [] I A B (pk w f) R := by
  have hE := tE_b (t := t) hp
  refine X 200 _ _ _ _ _ _ _ _ _ ?_
  refine c_Mgood X (fun _ => ?_) (fun z => absurd (by exact hg) z)
  refine And.intro (fun q => absurd q (by decide)) (fun _ => ?_)
  refine And.intro (fun q1 => ?_) (fun q1 => ?_)
  · have ek : tK t n p = 2 := (nI_eq (b := 2) (by have := tK_4 (t := t) (n := n) (p := p); omega) (by omega)).mp (K.k.symm.trans q1)
    obtain ⟨y, ey, hy, hv⟩ := K.v ek
    have hnv2 : tN t n p ≤ 100000 := nvl_b (t := t) (s := tS t n p) (tE t n p - tS t n p)
    refine c_Mgood X (fun _ => ?_) (fun z => absurd (by exact hg) z)
    refine And.intro (fun q => absurd q (by decide)) (fun _ => ?_)
    refine c_MinB X xl xh rfl rfl (fun zm => ?_) (fun zm => ?_)
    · refine And.intro (fun _ => ?_) (fun q => absurd q (by decide))
      refine c_Mgood X (fun _ => ?_) (fun z => absurd (by exact hg) z)
      refine And.intro (fun _ => ?_) (fun q => absurd q (by decide))
      refine c_Madv X T hn hE.2.1 K.e (fun Iv g1 g2 K1 => ?_)
      have zi : (xl ≤ I 43 32 ∧ I 43 32 ≤ xh) ↔ (lo ≤ y ∧ (y : Int) ≤ (hi : Int) - 1) := by
        rw [ey, el, eh, nI_leI (by omega) (by omega), nI_z y, zn_le (by omega) (by omega) (by omega) (by omega)]
      have zz := zi.mp zm
      have eyv : tN t n p = y := by omega
      have h2 := h1 Iv (by omega) (by omega) (by unfold tkN; rw [if_pos ek, if_pos (by omega)]) ⟨g1, g2⟩ K1
      rw [show nI (tN t n p) = I 43 32 by rw [ey, eyv]] at h2
      exact h2
    · refine And.intro (fun q => absurd (by decide) q) (fun _ => ?_)
      refine c_Merrs X (by exact hg) ?_
      have hfx : ¬ nI 2 = 0 := by decide
      refine c_Mgood X (fun z => absurd z hfx) (fun _ => ?_)
      refine And.intro (fun q => absurd (by decide) q) (fun _ => ?_)
      have zi : (xl ≤ I 43 32 ∧ I 43 32 ≤ xh) ↔ (lo ≤ y ∧ (y : Int) ≤ (hi : Int) - 1) := by
        rw [ey, el, eh, nI_leI (by omega) (by omega), nI_z y, zn_le (by omega) (by omega) (by omega) (by omega)]
      have zz : ¬ (lo ≤ y ∧ (y : Int) ≤ (hi : Int) - 1) := fun z => zm (zi.mpr z)
      exact h0 2 (Or.inr rfl) (by unfold tkN; rw [if_pos ek, if_neg (by omega)])
  · have nk : ¬ tK t n p = 2 := fun z => q1 (by rw [K.k, z]; rfl)
    refine c_Merrs X (by exact hg) ?_
    have hfx : ¬ nI 1 = 0 := by decide
    refine c_Mgood X (fun z => absurd z hfx) (fun _ => ?_)
    refine And.intro (fun _ => ?_) (fun q => absurd (by decide) q)
    refine c_Mgood X (fun z => absurd z hfx) (fun _ => ?_)
    refine And.intro (fun q => absurd (by decide) q) (fun _ => ?_)
    exact h0 1 (Or.inl rfl) (if_neg nk)
set_option maxRecDepth 20000 in
theorem c_Mtakf {J : mJ} (X : mRules J) {I A : mI} {B : mB} {w f : Nat} {R : mR} (hfx : ¬ I 43 33 = 0) {x1 x2 : Int32} (h : R (some (.int 0)) I A B (pk w f)) : J n_M_takes 0 [.ref 43, .int x1, .int x2, .float 0] [] I A B (pk w f) R := by
  refine X 200 _ _ _ _ _ _ _ _ _ ?_
  refine c_Mgood X (fun z => absurd z hfx) (fun _ => ?_)
  refine And.intro (fun _ => ?_) (fun q => absurd (by decide) q)
  refine c_Mgood X (fun z => absurd z hfx) (fun _ => ?_)
  refine And.intro (fun _ => ?_) (fun q => absurd (by decide) q)
  refine c_Mgood X (fun z => absurd z hfx) (fun _ => ?_)
  refine And.intro (fun q => absurd (by decide) q) (fun _ => ?_)
  exact h
set_option maxRecDepth 20000 in
theorem c_Mtold1 {J : mJ} (X : mRules J) {I A : mI} {B : mB} {w f : Nat} {R : mR} {t : Nat → Nat} {n : Nat} (T : TpR 60 A t n) (hn : I 43 28 = nI n) {p : Nat} (hp : p ≤ n) (K : MT I t n p) (hg : I 43 33 = 0) {lo hi : Nat} (hlo : lo ≤ 100000) (hhi : hi ≤ 100000) {xl xh : Int32} (el : xl = nI lo) (eh : xh = zN ((hi : Int) - 1)) (h1 : ∀ Iv, lo ≤ tN t n (tE t n p) → tN t n (tE t n p) < hi → tkW t n 1 p = .ok (tE t n p) → tkN t n lo hi (tE t n p) = .ok (tN t n (tE t n p), tE t n (tE t n p)) → gM I Iv → MT Iv t n (tE t n (tE t n p)) → R (some (.int (nI (tN t n (tE t n p))))) Iv A B (pk w f)) (ha : tkW t n 1 p = .error (1, tS t n p) → R (some (.int 0)) (up2 (up2 I 43 33 1) 43 34 (I 43 30)) A B (pk w f)) (hb : ∀ Iv k, k = 1 ∨ k = 2 → tkW t n 1 p = .ok (tE t n p) → tkN t n lo hi (tE t n p) = .error (k, tS t n (tE t n p)) → gM I Iv → MT Iv t n (tE t n p) → R (some (.int 0)) (up2 (up2 Iv 43 33 (nI k)) 43 34 (Iv 43 30)) A B (pk w f)) : J n_M_told 0 [.ref 43, .retAddr 2, .int xl, .int xh] [] I A B (pk w f) R := by
  have hE := tE_b (t := t) hp
  refine X 200 _ _ _ _ _ _ _ _ _ ?_
  refine c_Mpass1 X T hn hp K hg (fun zw Iv gw Kw => ?_) (fun zw => ?_)
  · have e1 : tkW t n 1 p = .ok (tE t n p) := if_pos zw
    refine And.intro (fun _ => ?_) (fun q => absurd q (by decide))
    refine c_Mtak X T (by rw [gw.2 28 (by decide) (by decide) (by decide) (by decide)]; exact hn) hE.2.1 Kw (by rw [gw.2 33 (by decide) (by decide) (by decide) (by decide)]; exact hg) hlo hhi el eh (fun I2 lo2 hi2 e2 g2 K2 => ?_) (fun kf hkf e2 => ?_)
    · exact h1 I2 lo2 hi2 e1 e2 (gw.trans g2) K2
    · exact hb Iv kf hkf e1 e2 gw Kw
  · have e1 : tkW t n 1 p = .error (1, tS t n p) := if_neg (by rw [zw]; decide)
    refine And.intro (fun q => absurd (by decide) q) (fun _ => ?_)
    refine c_Merrs X (by exact hg) ?_
    have hfx : ¬ nI 1 = 0 := by decide
    refine c_Mtakf X hfx ?_
    exact ha e1
set_option maxRecDepth 20000 in
theorem c_Mtoldf1 {J : mJ} (X : mRules J) {I A : mI} {B : mB} {w f : Nat} {R : mR} (hfx : ¬ I 43 33 = 0) {x1 x2 : Int32} (h : R (some (.int 0)) I A B (pk w f)) : J n_M_told 0 [.ref 43, .retAddr 2, .int x1, .int x2] [] I A B (pk w f) R := by
  refine X 200 _ _ _ _ _ _ _ _ _ ?_
  refine c_Mpassf1 X hfx ?_
  refine And.intro (fun q => absurd (by decide) q) (fun _ => ?_)
  refine c_Merrsf X hfx ?_
  refine c_Mtakf X hfx ?_
  exact h
set_option maxRecDepth 20000 in
theorem c_Mtold2 {J : mJ} (X : mRules J) {I A : mI} {B : mB} {w f : Nat} {R : mR} {t : Nat → Nat} {n : Nat} (T : TpR 60 A t n) (hn : I 43 28 = nI n) {p : Nat} (hp : p ≤ n) (K : MT I t n p) (hg : I 43 33 = 0) {lo hi : Nat} (hlo : lo ≤ 100000) (hhi : hi ≤ 100000) {xl xh : Int32} (el : xl = nI lo) (eh : xh = zN ((hi : Int) - 1)) (h1 : ∀ Iv, lo ≤ tN t n (tE t n p) → tN t n (tE t n p) < hi → tkW t n 2 p = .ok (tE t n p) → tkN t n lo hi (tE t n p) = .ok (tN t n (tE t n p), tE t n (tE t n p)) → gM I Iv → MT Iv t n (tE t n (tE t n p)) → R (some (.int (nI (tN t n (tE t n p))))) Iv A B (pk w f)) (ha : tkW t n 2 p = .error (1, tS t n p) → R (some (.int 0)) (up2 (up2 I 43 33 1) 43 34 (I 43 30)) A B (pk w f)) (hb : ∀ Iv k, k = 1 ∨ k = 2 → tkW t n 2 p = .ok (tE t n p) → tkN t n lo hi (tE t n p) = .error (k, tS t n (tE t n p)) → gM I Iv → MT Iv t n (tE t n p) → R (some (.int 0)) (up2 (up2 Iv 43 33 (nI k)) 43 34 (Iv 43 30)) A B (pk w f)) : J n_M_told 0 [.ref 43, .retAddr 3, .int xl, .int xh] [] I A B (pk w f) R := by
  have hE := tE_b (t := t) hp
  refine X 200 _ _ _ _ _ _ _ _ _ ?_
  refine c_Mpass2 X T hn hp K hg (fun zw Iv gw Kw => ?_) (fun zw => ?_)
  · have e1 : tkW t n 2 p = .ok (tE t n p) := if_pos zw
    refine And.intro (fun _ => ?_) (fun q => absurd q (by decide))
    refine c_Mtak X T (by rw [gw.2 28 (by decide) (by decide) (by decide) (by decide)]; exact hn) hE.2.1 Kw (by rw [gw.2 33 (by decide) (by decide) (by decide) (by decide)]; exact hg) hlo hhi el eh (fun I2 lo2 hi2 e2 g2 K2 => ?_) (fun kf hkf e2 => ?_)
    · exact h1 I2 lo2 hi2 e1 e2 (gw.trans g2) K2
    · exact hb Iv kf hkf e1 e2 gw Kw
  · have e1 : tkW t n 2 p = .error (1, tS t n p) := if_neg (by rw [zw]; decide)
    refine And.intro (fun q => absurd (by decide) q) (fun _ => ?_)
    refine c_Merrs X (by exact hg) ?_
    have hfx : ¬ nI 1 = 0 := by decide
    refine c_Mtakf X hfx ?_
    exact ha e1
set_option maxRecDepth 20000 in
theorem c_Mtoldf2 {J : mJ} (X : mRules J) {I A : mI} {B : mB} {w f : Nat} {R : mR} (hfx : ¬ I 43 33 = 0) {x1 x2 : Int32} (h : R (some (.int 0)) I A B (pk w f)) : J n_M_told 0 [.ref 43, .retAddr 3, .int x1, .int x2] [] I A B (pk w f) R := by
  refine X 200 _ _ _ _ _ _ _ _ _ ?_
  refine c_Mpassf2 X hfx ?_
  refine And.intro (fun q => absurd (by decide) q) (fun _ => ?_)
  refine c_Merrsf X hfx ?_
  refine c_Mtakf X hfx ?_
  exact h
set_option maxRecDepth 20000 in
theorem c_Mtold3 {J : mJ} (X : mRules J) {I A : mI} {B : mB} {w f : Nat} {R : mR} {t : Nat → Nat} {n : Nat} (T : TpR 60 A t n) (hn : I 43 28 = nI n) {p : Nat} (hp : p ≤ n) (K : MT I t n p) (hg : I 43 33 = 0) {lo hi : Nat} (hlo : lo ≤ 100000) (hhi : hi ≤ 100000) {xl xh : Int32} (el : xl = nI lo) (eh : xh = zN ((hi : Int) - 1)) (h1 : ∀ Iv, lo ≤ tN t n (tE t n p) → tN t n (tE t n p) < hi → tkW t n 3 p = .ok (tE t n p) → tkN t n lo hi (tE t n p) = .ok (tN t n (tE t n p), tE t n (tE t n p)) → gM I Iv → MT Iv t n (tE t n (tE t n p)) → R (some (.int (nI (tN t n (tE t n p))))) Iv A B (pk w f)) (ha : tkW t n 3 p = .error (1, tS t n p) → R (some (.int 0)) (up2 (up2 I 43 33 1) 43 34 (I 43 30)) A B (pk w f)) (hb : ∀ Iv k, k = 1 ∨ k = 2 → tkW t n 3 p = .ok (tE t n p) → tkN t n lo hi (tE t n p) = .error (k, tS t n (tE t n p)) → gM I Iv → MT Iv t n (tE t n p) → R (some (.int 0)) (up2 (up2 Iv 43 33 (nI k)) 43 34 (Iv 43 30)) A B (pk w f)) : J n_M_told 0 [.ref 43, .retAddr 4, .int xl, .int xh] [] I A B (pk w f) R := by
  have hE := tE_b (t := t) hp
  refine X 200 _ _ _ _ _ _ _ _ _ ?_
  refine c_Mpass3 X T hn hp K hg (fun zw Iv gw Kw => ?_) (fun zw => ?_)
  · have e1 : tkW t n 3 p = .ok (tE t n p) := if_pos zw
    refine And.intro (fun _ => ?_) (fun q => absurd q (by decide))
    refine c_Mtak X T (by rw [gw.2 28 (by decide) (by decide) (by decide) (by decide)]; exact hn) hE.2.1 Kw (by rw [gw.2 33 (by decide) (by decide) (by decide) (by decide)]; exact hg) hlo hhi el eh (fun I2 lo2 hi2 e2 g2 K2 => ?_) (fun kf hkf e2 => ?_)
    · exact h1 I2 lo2 hi2 e1 e2 (gw.trans g2) K2
    · exact hb Iv kf hkf e1 e2 gw Kw
  · have e1 : tkW t n 3 p = .error (1, tS t n p) := if_neg (by rw [zw]; decide)
    refine And.intro (fun q => absurd (by decide) q) (fun _ => ?_)
    refine c_Merrs X (by exact hg) ?_
    have hfx : ¬ nI 1 = 0 := by decide
    refine c_Mtakf X hfx ?_
    exact ha e1
set_option maxRecDepth 20000 in
theorem c_Mtoldf3 {J : mJ} (X : mRules J) {I A : mI} {B : mB} {w f : Nat} {R : mR} (hfx : ¬ I 43 33 = 0) {x1 x2 : Int32} (h : R (some (.int 0)) I A B (pk w f)) : J n_M_told 0 [.ref 43, .retAddr 4, .int x1, .int x2] [] I A B (pk w f) R := by
  refine X 200 _ _ _ _ _ _ _ _ _ ?_
  refine c_Mpassf3 X hfx ?_
  refine And.intro (fun q => absurd (by decide) q) (fun _ => ?_)
  refine c_Merrsf X hfx ?_
  refine c_Mtakf X hfx ?_
  exact h
set_option maxRecDepth 20000 in
theorem c_Mtold7 {J : mJ} (X : mRules J) {I A : mI} {B : mB} {w f : Nat} {R : mR} {t : Nat → Nat} {n : Nat} (T : TpR 60 A t n) (hn : I 43 28 = nI n) {p : Nat} (hp : p ≤ n) (K : MT I t n p) (hg : I 43 33 = 0) {lo hi : Nat} (hlo : lo ≤ 100000) (hhi : hi ≤ 100000) {xl xh : Int32} (el : xl = nI lo) (eh : xh = zN ((hi : Int) - 1)) (h1 : ∀ Iv, lo ≤ tN t n (tE t n p) → tN t n (tE t n p) < hi → tkW t n 7 p = .ok (tE t n p) → tkN t n lo hi (tE t n p) = .ok (tN t n (tE t n p), tE t n (tE t n p)) → gM I Iv → MT Iv t n (tE t n (tE t n p)) → R (some (.int (nI (tN t n (tE t n p))))) Iv A B (pk w f)) (ha : tkW t n 7 p = .error (1, tS t n p) → R (some (.int 0)) (up2 (up2 I 43 33 1) 43 34 (I 43 30)) A B (pk w f)) (hb : ∀ Iv k, k = 1 ∨ k = 2 → tkW t n 7 p = .ok (tE t n p) → tkN t n lo hi (tE t n p) = .error (k, tS t n (tE t n p)) → gM I Iv → MT Iv t n (tE t n p) → R (some (.int 0)) (up2 (up2 Iv 43 33 (nI k)) 43 34 (Iv 43 30)) A B (pk w f)) : J n_M_told 0 [.ref 43, .retAddr 8, .int xl, .int xh] [] I A B (pk w f) R := by
  have hE := tE_b (t := t) hp
  refine X 200 _ _ _ _ _ _ _ _ _ ?_
  refine c_Mpass7 X T hn hp K hg (fun zw Iv gw Kw => ?_) (fun zw => ?_)
  · have e1 : tkW t n 7 p = .ok (tE t n p) := if_pos zw
    refine And.intro (fun _ => ?_) (fun q => absurd q (by decide))
    refine c_Mtak X T (by rw [gw.2 28 (by decide) (by decide) (by decide) (by decide)]; exact hn) hE.2.1 Kw (by rw [gw.2 33 (by decide) (by decide) (by decide) (by decide)]; exact hg) hlo hhi el eh (fun I2 lo2 hi2 e2 g2 K2 => ?_) (fun kf hkf e2 => ?_)
    · exact h1 I2 lo2 hi2 e1 e2 (gw.trans g2) K2
    · exact hb Iv kf hkf e1 e2 gw Kw
  · have e1 : tkW t n 7 p = .error (1, tS t n p) := if_neg (by rw [zw]; decide)
    refine And.intro (fun q => absurd (by decide) q) (fun _ => ?_)
    refine c_Merrs X (by exact hg) ?_
    have hfx : ¬ nI 1 = 0 := by decide
    refine c_Mtakf X hfx ?_
    exact ha e1
set_option maxRecDepth 20000 in
theorem c_Mtoldf7 {J : mJ} (X : mRules J) {I A : mI} {B : mB} {w f : Nat} {R : mR} (hfx : ¬ I 43 33 = 0) {x1 x2 : Int32} (h : R (some (.int 0)) I A B (pk w f)) : J n_M_told 0 [.ref 43, .retAddr 8, .int x1, .int x2] [] I A B (pk w f) R := by
  refine X 200 _ _ _ _ _ _ _ _ _ ?_
  refine c_Mpassf7 X hfx ?_
  refine And.intro (fun q => absurd (by decide) q) (fun _ => ?_)
  refine c_Merrsf X hfx ?_
  refine c_Mtakf X hfx ?_
  exact h
set_option maxRecDepth 20000 in
theorem c_Mtold8 {J : mJ} (X : mRules J) {I A : mI} {B : mB} {w f : Nat} {R : mR} {t : Nat → Nat} {n : Nat} (T : TpR 60 A t n) (hn : I 43 28 = nI n) {p : Nat} (hp : p ≤ n) (K : MT I t n p) (hg : I 43 33 = 0) {lo hi : Nat} (hlo : lo ≤ 100000) (hhi : hi ≤ 100000) {xl xh : Int32} (el : xl = nI lo) (eh : xh = zN ((hi : Int) - 1)) (h1 : ∀ Iv, lo ≤ tN t n (tE t n p) → tN t n (tE t n p) < hi → tkW t n 8 p = .ok (tE t n p) → tkN t n lo hi (tE t n p) = .ok (tN t n (tE t n p), tE t n (tE t n p)) → gM I Iv → MT Iv t n (tE t n (tE t n p)) → R (some (.int (nI (tN t n (tE t n p))))) Iv A B (pk w f)) (ha : tkW t n 8 p = .error (1, tS t n p) → R (some (.int 0)) (up2 (up2 I 43 33 1) 43 34 (I 43 30)) A B (pk w f)) (hb : ∀ Iv k, k = 1 ∨ k = 2 → tkW t n 8 p = .ok (tE t n p) → tkN t n lo hi (tE t n p) = .error (k, tS t n (tE t n p)) → gM I Iv → MT Iv t n (tE t n p) → R (some (.int 0)) (up2 (up2 Iv 43 33 (nI k)) 43 34 (Iv 43 30)) A B (pk w f)) : J n_M_told 0 [.ref 43, .retAddr 9, .int xl, .int xh] [] I A B (pk w f) R := by
  have hE := tE_b (t := t) hp
  refine X 200 _ _ _ _ _ _ _ _ _ ?_
  refine c_Mpass8 X T hn hp K hg (fun zw Iv gw Kw => ?_) (fun zw => ?_)
  · have e1 : tkW t n 8 p = .ok (tE t n p) := if_pos zw
    refine And.intro (fun _ => ?_) (fun q => absurd q (by decide))
    refine c_Mtak X T (by rw [gw.2 28 (by decide) (by decide) (by decide) (by decide)]; exact hn) hE.2.1 Kw (by rw [gw.2 33 (by decide) (by decide) (by decide) (by decide)]; exact hg) hlo hhi el eh (fun I2 lo2 hi2 e2 g2 K2 => ?_) (fun kf hkf e2 => ?_)
    · exact h1 I2 lo2 hi2 e1 e2 (gw.trans g2) K2
    · exact hb Iv kf hkf e1 e2 gw Kw
  · have e1 : tkW t n 8 p = .error (1, tS t n p) := if_neg (by rw [zw]; decide)
    refine And.intro (fun q => absurd (by decide) q) (fun _ => ?_)
    refine c_Merrs X (by exact hg) ?_
    have hfx : ¬ nI 1 = 0 := by decide
    refine c_Mtakf X hfx ?_
    exact ha e1
set_option maxRecDepth 20000 in
theorem c_Mtoldf8 {J : mJ} (X : mRules J) {I A : mI} {B : mB} {w f : Nat} {R : mR} (hfx : ¬ I 43 33 = 0) {x1 x2 : Int32} (h : R (some (.int 0)) I A B (pk w f)) : J n_M_told 0 [.ref 43, .retAddr 9, .int x1, .int x2] [] I A B (pk w f) R := by
  refine X 200 _ _ _ _ _ _ _ _ _ ?_
  refine c_Mpassf8 X hfx ?_
  refine And.intro (fun q => absurd (by decide) q) (fun _ => ?_)
  refine c_Merrsf X hfx ?_
  refine c_Mtakf X hfx ?_
  exact h
