/-! the law: images, texts -/
theorem k_img {J : mJ} (X : mRules J) {I A : mI} {B : mB} {w f : Nat} {R : mR} {x : Int32} {k0 : Nat} (hk : k0 < 3) (ex : x = nI k0) {bk : Bool} (hbk : I 7 1 = 0 ↔ bk = false) (hn : bk = false → R (some (.int (-2))) I A B (pk w f)) (h : bk = true → R (some (.int 0)) (scp I 7 (10 + 2 * k0)) (acp A 8 (11 + 2 * k0)) B (pk w f)) : J n_V_image 0 [.ref 0, .int x, .float 0] [] I A B (pk w f) R := by
  subst ex
  have hk3 : k0 = 0 ∨ k0 = 1 ∨ k0 = 2 := by omega
  rcases hk3 with e | e | e <;> subst e
  · exact k_image0 X hbk hn h
  · exact k_image1 X hbk hn h
  · exact k_image2 X hbk hn h
theorem k_bck {J : mJ} (X : mRules J) {I A : mI} {B : mB} {w f : Nat} {R : mR} {x : Int32} {k0 : Nat} (hk : k0 < 3) (ex : x = nI k0) {P N K L T m : Nat} {rw : Nat → Rw} (S : ScR (10 + 2 * k0) (11 + 2 * k0) I A P N K L T m rw) (hT61 : T ≤ 61) (hmT : m - T ≤ 20) (Q : Rp P N K rw m) (hn : L = 0 → R (some (.int (-6))) I A B (pk w f)) (h : 0 < L → qZ P N K L T m rw w f I A B R (.int 0)) : J n_V_back 0 [.ref 0, .int x, .float 0] [] I A B (pk w f) R := by
  subst ex
  have hk3 : k0 = 0 ∨ k0 = 1 ∨ k0 = 2 := by omega
  rcases hk3 with e | e | e <;> subst e
  · exact k_back0 X S hT61 hmT Q hn h
  · exact k_back1 X S hT61 hmT Q hn h
  · exact k_back2 X S hT61 hmT Q hn h
def Dt.ig (D : Dt) (k : Nat) : Bk := if k = 0 then D.i0 else if k = 1 then D.i1 else D.i2
def Dt.im (D : Dt) (k : Nat) (b : Bk) : Dt := Dt.mk D.b (if k = 0 then b else D.i0) (if k = 1 then b else D.i1) (if k = 2 then b else D.i2) D.n D.tp D.e1 D.e2 D.ka
theorem KSt.ig {I A : mI} {B : mB} {D : Dt} (K : KSt I A B D) {k : Nat} (hk : k < 3) : scB (10 + 2 * k) (11 + 2 * k) I A (D.ig k) := by
  have hk3 : k = 0 ∨ k = 1 ∨ k = 2 := by omega
  rcases hk3 with e | e | e <;> subst e
  · exact K.s0
  · exact K.s1
  · exact K.s2
theorem MSt.ig {w : Nat} {I A : mI} {B : mB} {D : Dt} (M : MSt w I A B D) {k : Nat} (hk : k < 3) : imR A k (D.ig k) := by
  have hk3 : k = 0 ∨ k = 1 ∨ k = 2 := by omega
  rcases hk3 with e | e | e <;> subst e
  · exact M.g0
  · exact M.g1
  · exact M.g2
theorem DV.ig {D : Dt} (H : DV D) {k : Nat} (hk : k < 3) : vB (D.ig k) := by
  have hk3 : k = 0 ∨ k = 1 ∨ k = 2 := by omega
  rcases hk3 with e | e | e <;> subst e
  · exact H.i0
  · exact H.i1
  · exact H.i2
theorem DV.im {D : Dt} (H : DV D) {k : Nat} {b : Bk} (h : vB b) : DV (D.im k b) := by
  refine ⟨H.b, ?_, ?_, ?_, H.n9, H.by_⟩
  · show vB (if k = 0 then b else D.i0)
    split
    · exact h
    · exact H.i0
  · show vB (if k = 1 then b else D.i1)
    split
    · exact h
    · exact H.i1
  · show vB (if k = 2 then b else D.i2)
    split
    · exact h
    · exact H.i2
theorem KSt.im {I A : mI} {B : mB} {D : Dt} (K : KSt I A B D) (hm : D.b.m ≤ 81) {k : Nat} (hk : k < 3) : KSt (scp I 7 (10 + 2 * k)) (acp A 8 (11 + 2 * k)) B (D.im k D.b) := by
  have hI : ∀ q, q ≠ 10 + 2 * k → scp I 7 (10 + 2 * k) q = I q := fun q hq => scp_r hq
  have hA : ∀ q, q ≠ 11 + 2 * k → acp A 8 (11 + 2 * k) q = A q := fun q hq => acp_r hq
  have S1 : scB (10 + 2 * k) (11 + 2 * k) (scp I 7 (10 + 2 * k)) (acp A 8 (11 + 2 * k)) D.b := ScR.cp K.S hm scp_1 scp_2 (fun j hj => acp_n hj)
  refine ⟨K.C.fw (hI 16 (by omega)) (hI 17 (by omega)) (hI 29 (by omega)) (fun q a1 a2 => hA q (by omega)), ?_, ScR.fr K.S (hI 7 (by omega)) (hA 8 (by omega)), ?_, ?_, ?_, ?_, ?_, ?_, ?_⟩
  · rw [hI 16 (by omega)]; exact K.k6
  · show scB 10 11 _ _ (if k = 0 then D.b else D.i0)
    by_cases e : k = 0
    · subst e; exact S1
    · rw [if_neg e]; exact ScR.fr K.s0 (hI 10 (by omega)) (hA 11 (by omega))
  · show scB 12 13 _ _ (if k = 1 then D.b else D.i1)
    by_cases e : k = 1
    · subst e; exact S1
    · rw [if_neg e]; exact ScR.fr K.s1 (hI 12 (by omega)) (hA 13 (by omega))
  · show scB 14 15 _ _ (if k = 2 then D.b else D.i2)
    by_cases e : k = 2
    · subst e; exact S1
    · rw [if_neg e]; exact ScR.fr K.s2 (hI 14 (by omega)) (hA 15 (by omega))
  · rw [hI 1 (by omega)]; exact K.t1
  · rw [hA 2 (by omega)]; exact K.tp
  · rw [hI 3 (by omega)]; exact K.e1
  · rw [hI 3 (by omega)]; exact K.e2
theorem imR.f2 {A A' : mI} {k : Nat} {b : Bk} (g : imR A k b) (hm : b.m ≤ 119) (h6 : ∀ t, t < 606 → A' 46 (606 * k + t) = A 46 (606 * k + t)) (h7 : A' 47 k = A 47 k) : imR A' k b := by
  refine ⟨fun z => h7.trans (g.1 z), fun z => ?_⟩
  obtain ⟨g1, g2, g3, g4, g5⟩ := g.2 z
  exact ⟨h7.trans g1, WdR.cp (w := 0) (A := blk A k) g2 hm h6, (h6 0 (by decide)).trans g3, (h6 1 (by decide)).trans g4, (h6 2 (by decide)).trans g5⟩
theorem MSt.im {w : Nat} {I A A' : mI} {B : mB} {D : Dt} (M : MSt w I A B D) (H : DV D) (hL : 0 < D.b.L) {k : Nat} (hk : k < 3) (hA : ∀ q, q ≠ 46 → q ≠ 47 → A' q = A q) (h1 : ∀ j, j < 606 → A' 46 (606 * k + j) = A w j) (h2 : ∀ z, z < 606 * k ∨ 606 * k + 606 ≤ z → A' 46 z = A 46 z) (h3 : A' 47 k = 1) (h4 : ∀ z, z ≠ k → A' 47 z = A 47 z) : MSt w I A' B (D.im k D.b) := by
  have h5 := M.M.w5
  have vm : ∀ b, vB b → b.m ≤ 119 := fun b hb => by
    have hb' : BkV b.P b.N b.K b.L b.T b.m b.rw := hb
    have a1 := hb'.T61
    have a2 := hb'.mT
    omega
  have hN : 0 < D.b.N := by
    have hb' : BkV D.b.P D.b.N D.b.K D.b.L D.b.T D.b.m D.b.rw := H.b
    have := hb'.l hL
    omega
  have gk : imR A' k D.b := by
    refine ⟨fun z => absurd z (by omega), fun _ => ⟨h3, WdR.cp (w := w) (A := A) M.W (vm _ H.b) h1, ?_, ?_, ?_⟩⟩
    · rw [h1 0 (by decide), M.M.hP, acB_K.2.2]
    · rw [h1 1 (by decide), M.M.hN, acB_K.2.1]
    · rw [h1 2 (by decide), M.M.hK (by rw [acB_K.2.1]; exact hN), acB_K.1]
  have go : ∀ j b, j ≠ k → j < 3 → k < 3 → imR A j b → vB b → imR A' j b := fun j b hj j3 k3 g hb => g.f2 (vm b hb) (fun t ht => h2 _ (by omega)) (h4 j hj)
  have M1 : MR (acB D.b) w I A' B := by
    have M1 := M.M
    refine MR.mk M1.hw M1.w5 ?_ ?_ ?_ M1.hnt ?_ ?_ ?_ M1.hnc ?_ ?_ ?_ M1.hn ?_ M1.ham ?_ ?_ ?_ M1.hc M1.hti M1.htb M1.hfo
    · rw [hA w (by omega) (by omega)]; exact M1.hP
    · rw [hA w (by omega) (by omega)]; exact M1.hN
    · rw [hA w (by omega) (by omega)]; exact M1.hK
    · rw [hA 48 (by decide) (by decide)]; exact M1.htr
    · rw [hA 49 (by decide) (by decide)]; exact M1.htt
    · rw [hA 50 (by decide) (by decide)]; exact M1.hdb
    · rw [hA 51 (by decide) (by decide)]; exact M1.hcd
    · rw [hA 52 (by decide) (by decide)]; exact M1.hco
    · rw [hA 53 (by decide) (by decide)]; exact M1.hcv
    · rw [hA 54 (by decide) (by decide)]; exact M1.hso
    · rw [hA 56 (by decide) (by decide)]; exact M1.hva
    · rw [hA 57 (by decide) (by decide)]; exact M1.hpg
    · rw [hA 58 (by decide) (by decide)]; exact M1.hog
  refine ⟨M1, WdR.fr M.W (hA w (by omega) (by omega)), ?_, ?_, ?_, ?_, M.t1, ?_, M.e1, M.e2⟩
  · rw [hA w (by omega) (by omega)]; exact M.k6
  · show imR A' 0 (if k = 0 then D.b else D.i0)
    by_cases e : k = 0
    · subst e; exact gk
    · rw [if_neg e]; exact go 0 _ (fun z => e z.symm) (by omega) hk M.g0 H.i0
  · show imR A' 1 (if k = 1 then D.b else D.i1)
    by_cases e : k = 1
    · subst e; exact gk
    · rw [if_neg e]; exact go 1 _ (fun z => e z.symm) (by omega) hk M.g1 H.i1
  · show imR A' 2 (if k = 2 then D.b else D.i2)
    by_cases e : k = 2
    · subst e; exact gk
    · rw [if_neg e]; exact go 2 _ (fun z => e z.symm) (by omega) hk M.g2 H.i2
  · rw [hA 60 (by decide) (by decide)]; exact M.tp
/-- a byte without sign -/
theorem b255 {x : Int32} (h : x.toInt8.toInt32 = x) : ∃ v, v < 256 ∧ x &&& 255 = nI v := by
  refine ⟨x.toInt8.toUInt8.toNat, x.toInt8.toUInt8.toNat_lt, ?_⟩
  have e : (nI x.toInt8.toUInt8.toNat).toInt8 = x.toInt8 := by
    apply Int8.toBitVec_inj.mp
    show (Int32.ofNat x.toInt8.toUInt8.toNat).toInt8.toBitVec = x.toInt8.toBitVec
    simp
  have := sc_k8 x.toInt8.toUInt8.toNat x.toInt8.toUInt8.toNat_lt
  rw [e, h] at this
  exact this
noncomputable def Dt.bt (D : Dt) (k : Nat) : Nat := (D.tp k &&& 255).toNatClampNeg
theorem tp_R {c : Nat} {A : mI} {D : Dt} (H : DV D) (h : ∀ k, k < D.n → A c k = D.tp k) : TpR c A D.bt D.n := by
  refine ⟨H.n9, fun k hk => ?_⟩
  have hb := H.by_ k hk
  obtain ⟨v, hv, e⟩ := b255 hb
  rw [h k hk]
  have e2 : D.bt k = v := by
    unfold Dt.bt
    rw [e]
    exact cl (by omega)
  rw [e2]
  exact ⟨e, hv, hb⟩
def Dt.tx (D : Dt) (b' : Bk) (x1 x2 k : Int32) : Dt := (Dt.mk (b') (Dt.i0 D) (Dt.i1 D) (Dt.i2 D) (0) (Dt.tp D) (x1) (x2) (k))
theorem DV.tx {D : Dt} (H : DV D) {b' : Bk} (h : vB b') {x1 x2 k : Int32} : DV (D.tx b' x1 x2 k) := ⟨h, H.i0, H.i1, H.i2, Nat.zero_le _, fun j hj => absurd hj (Nat.not_lt_zero j)⟩
theorem KSt.tx {I A I' A' : mI} {B B' : mB} {D : Dt} (K : KSt I A B D) {b' : Bk} {x1 x2 k : Int32} (C : CR (acB b') I' A' B') (S : scB 7 8 I' A' b') (hk : I' 16 6 = k) (h1 : I' 1 1 = 0) (h3 : I' 3 3 = x1) (h4 : I' 3 4 = x2) (hI : ∀ q, q = 10 ∨ q = 12 ∨ q = 14 → I' q = I q) (hA : ∀ q, q = 11 ∨ q = 13 ∨ q = 15 → A' q = A q) : KSt I' A' B' (D.tx b' x1 x2 k) :=
  ⟨C, hk, S, ScR.fr K.s0 (hI 10 (by decide)) (hA 11 (by decide)), ScR.fr K.s1 (hI 12 (by decide)) (hA 13 (by decide)), ScR.fr K.s2 (hI 14 (by decide)) (hA 15 (by decide)), h1, fun j hj => absurd hj (Nat.not_lt_zero j), h3, h4⟩
theorem MSt.tx {w w' : Nat} {I A I' A' : mI} {B B' : mB} {D : Dt} (M : MSt w I A B D) {b' : Bk} {x1 x2 k : Int32} (M' : MR (acB b') w' I' A' B') (W : wdB w' A' b') (hk : A' w' 2 = k) (h1 : I' 43 26 = 0) (h3 : I' 43 33 = x1) (h4 : I' 43 34 = x2) (hA : ∀ q, q = 46 ∨ q = 47 → A' q = A q) : MSt w' I' A' B' (D.tx b' x1 x2 k) := by
  have h6 := hA 46 (by decide)
  have h7 := hA 47 (by decide)
  exact ⟨M', W, hk, M.g0.fr h6 h7, M.g1.fr h6 h7, M.g2.fr h6 h7, h1, fun j hj => absurd hj (Nat.not_lt_zero j), h3, h4⟩
theorem ScR.k0 {o c : Nat} {I A : mI} {P N K K' T m : Nat} {rw : Nat → Rw} (S : ScR o c I A P N K 0 T m rw) : ScR o c I A P N K' 0 T m rw := ⟨S.hL, S.ha, S.hT, fun h => absurd h (Nat.lt_irrefl _), S.hz, S.hr⟩
