/-! the law's relation -/
abbrev Bk : Type := (Nat) × (Nat) × (Nat) × (Nat) × (Nat) × (Nat) × (Nat → Rw)
abbrev Bk.P (self : Bk) : Nat := self.1
abbrev Bk.N (self : Bk) : Nat := self.2.1
abbrev Bk.K (self : Bk) : Nat := self.2.2.1
abbrev Bk.L (self : Bk) : Nat := self.2.2.2.1
abbrev Bk.T (self : Bk) : Nat := self.2.2.2.2.1
abbrev Bk.m (self : Bk) : Nat := self.2.2.2.2.2.1
abbrev Bk.rw (self : Bk) : Nat → Rw := self.2.2.2.2.2.2
abbrev Bk.mk (pP : Nat) (pN : Nat) (pK : Nat) (pL : Nat) (pT : Nat) (pm : Nat) (prw : Nat → Rw) : Bk := (pP, pN, pK, pL, pT, pm, prw)
abbrev Dt : Type := (Bk) × (Bk) × (Bk) × (Bk) × (Nat) × (Nat → Int32) × (Int32) × (Int32) × (Int32)
abbrev Dt.b (self : Dt) : Bk := self.1
abbrev Dt.i0 (self : Dt) : Bk := self.2.1
abbrev Dt.i1 (self : Dt) : Bk := self.2.2.1
abbrev Dt.i2 (self : Dt) : Bk := self.2.2.2.1
abbrev Dt.n (self : Dt) : Nat := self.2.2.2.2.1
abbrev Dt.tp (self : Dt) : Nat → Int32 := self.2.2.2.2.2.1
abbrev Dt.e1 (self : Dt) : Int32 := self.2.2.2.2.2.2.1
abbrev Dt.e2 (self : Dt) : Int32 := self.2.2.2.2.2.2.2.1
abbrev Dt.ka (self : Dt) : Int32 := self.2.2.2.2.2.2.2.2
abbrev Dt.mk (pb : Bk) (pi0 : Bk) (pi1 : Bk) (pi2 : Bk) (pn : Nat) (ptp : Nat → Int32) (pe1 : Int32) (pe2 : Int32) (pka : Int32) : Dt := (pb, pi0, pi1, pi2, pn, ptp, pe1, pe2, pka)
def acB (b : Bk) : Ac := zrn b.P b.N b.K b.rw b.m
def scB (o c : Nat) (I A : mI) (b : Bk) : Prop := ScR o c I A b.P b.N b.K b.L b.T b.m b.rw
def vB (b : Bk) : Prop := BkV b.P b.N b.K b.L b.T b.m b.rw
def wdB (w : Nat) (A : mI) (b : Bk) : Prop := WdR w A b.L b.T b.m b.rw
def imR (A : mI) (k : Nat) (b : Bk) : Prop := (b.L = 0 → A 47 k = 0) ∧ (0 < b.L → A 47 k = 1 ∧ wdB 0 (blk A k) b ∧ A 46 (606 * k + 0) = nI b.P ∧ A 46 (606 * k + 1) = nI b.N ∧ A 46 (606 * k + 2) = nI b.K)
/-- the class's store -/
def KSt (I A : mI) (B : mB) (D : Dt) : Prop :=
  (CR (acB D.b) I A B) ∧
  (I 16 6 = D.ka) ∧
  (scB 7 8 I A D.b) ∧
  (scB 10 11 I A D.i0) ∧
  (scB 12 13 I A D.i1) ∧
  (scB 14 15 I A D.i2) ∧
  (I 1 1 = nI D.n) ∧
  (∀ k, k < D.n → A 2 k = D.tp k) ∧
  (I 3 3 = D.e1) ∧
  (I 3 4 = D.e2)
theorem KSt.C {I A : mI} {B : mB} {D : Dt} (self : KSt I A B D) : CR (acB D.b) I A B := self.1
theorem KSt.k6 {I A : mI} {B : mB} {D : Dt} (self : KSt I A B D) : I 16 6 = D.ka := self.2.1
theorem KSt.S {I A : mI} {B : mB} {D : Dt} (self : KSt I A B D) : scB 7 8 I A D.b := self.2.2.1
theorem KSt.s0 {I A : mI} {B : mB} {D : Dt} (self : KSt I A B D) : scB 10 11 I A D.i0 := self.2.2.2.1
theorem KSt.s1 {I A : mI} {B : mB} {D : Dt} (self : KSt I A B D) : scB 12 13 I A D.i1 := self.2.2.2.2.1
theorem KSt.s2 {I A : mI} {B : mB} {D : Dt} (self : KSt I A B D) : scB 14 15 I A D.i2 := self.2.2.2.2.2.1
theorem KSt.t1 {I A : mI} {B : mB} {D : Dt} (self : KSt I A B D) : I 1 1 = nI D.n := self.2.2.2.2.2.2.1
theorem KSt.tp {I A : mI} {B : mB} {D : Dt} (self : KSt I A B D) : ∀ k, k < D.n → A 2 k = D.tp k := self.2.2.2.2.2.2.2.1
theorem KSt.e1 {I A : mI} {B : mB} {D : Dt} (self : KSt I A B D) : I 3 3 = D.e1 := self.2.2.2.2.2.2.2.2.1
theorem KSt.e2 {I A : mI} {B : mB} {D : Dt} (self : KSt I A B D) : I 3 4 = D.e2 := self.2.2.2.2.2.2.2.2.2
theorem KSt.mk {I A : mI} {B : mB} {D : Dt} (h_C : CR (acB D.b) I A B) (h_k6 : I 16 6 = D.ka) (h_S : scB 7 8 I A D.b) (h_s0 : scB 10 11 I A D.i0) (h_s1 : scB 12 13 I A D.i1) (h_s2 : scB 14 15 I A D.i2) (h_t1 : I 1 1 = nI D.n) (h_tp : ∀ k, k < D.n → A 2 k = D.tp k) (h_e1 : I 3 3 = D.e1) (h_e2 : I 3 4 = D.e2) : KSt I A B D := ⟨h_C, h_k6, h_S, h_s0, h_s1, h_s2, h_t1, h_tp, h_e1, h_e2⟩
/-- the reference's store -/
def MSt (w : Nat) (I A : mI) (B : mB) (D : Dt) : Prop :=
  (MR (acB D.b) w I A B) ∧
  (wdB w A D.b) ∧
  (A w 2 = D.ka) ∧
  (imR A 0 D.i0) ∧
  (imR A 1 D.i1) ∧
  (imR A 2 D.i2) ∧
  (I 43 26 = nI D.n) ∧
  (∀ k, k < D.n → A 60 k = D.tp k) ∧
  (I 43 33 = D.e1) ∧
  (I 43 34 = D.e2)
theorem MSt.M {w : Nat} {I A : mI} {B : mB} {D : Dt} (self : MSt w I A B D) : MR (acB D.b) w I A B := self.1
theorem MSt.W {w : Nat} {I A : mI} {B : mB} {D : Dt} (self : MSt w I A B D) : wdB w A D.b := self.2.1
theorem MSt.k6 {w : Nat} {I A : mI} {B : mB} {D : Dt} (self : MSt w I A B D) : A w 2 = D.ka := self.2.2.1
theorem MSt.g0 {w : Nat} {I A : mI} {B : mB} {D : Dt} (self : MSt w I A B D) : imR A 0 D.i0 := self.2.2.2.1
theorem MSt.g1 {w : Nat} {I A : mI} {B : mB} {D : Dt} (self : MSt w I A B D) : imR A 1 D.i1 := self.2.2.2.2.1
theorem MSt.g2 {w : Nat} {I A : mI} {B : mB} {D : Dt} (self : MSt w I A B D) : imR A 2 D.i2 := self.2.2.2.2.2.1
theorem MSt.t1 {w : Nat} {I A : mI} {B : mB} {D : Dt} (self : MSt w I A B D) : I 43 26 = nI D.n := self.2.2.2.2.2.2.1
theorem MSt.tp {w : Nat} {I A : mI} {B : mB} {D : Dt} (self : MSt w I A B D) : ∀ k, k < D.n → A 60 k = D.tp k := self.2.2.2.2.2.2.2.1
theorem MSt.e1 {w : Nat} {I A : mI} {B : mB} {D : Dt} (self : MSt w I A B D) : I 43 33 = D.e1 := self.2.2.2.2.2.2.2.2.1
theorem MSt.e2 {w : Nat} {I A : mI} {B : mB} {D : Dt} (self : MSt w I A B D) : I 43 34 = D.e2 := self.2.2.2.2.2.2.2.2.2
theorem MSt.mk {w : Nat} {I A : mI} {B : mB} {D : Dt} (h_M : MR (acB D.b) w I A B) (h_W : wdB w A D.b) (h_k6 : A w 2 = D.ka) (h_g0 : imR A 0 D.i0) (h_g1 : imR A 1 D.i1) (h_g2 : imR A 2 D.i2) (h_t1 : I 43 26 = nI D.n) (h_tp : ∀ k, k < D.n → A 60 k = D.tp k) (h_e1 : I 43 33 = D.e1) (h_e2 : I 43 34 = D.e2) : MSt w I A B D := ⟨h_M, h_W, h_k6, h_g0, h_g1, h_g2, h_t1, h_tp, h_e1, h_e2⟩
def DV (D : Dt) : Prop :=
  (vB D.b) ∧
  (vB D.i0) ∧
  (vB D.i1) ∧
  (vB D.i2) ∧
  (D.n ≤ 900) ∧
  (∀ k, k < D.n → (D.tp k).toInt8.toInt32 = D.tp k)
theorem DV.b {D : Dt} (self : DV D) : vB D.b := self.1
theorem DV.i0 {D : Dt} (self : DV D) : vB D.i0 := self.2.1
theorem DV.i1 {D : Dt} (self : DV D) : vB D.i1 := self.2.2.1
theorem DV.i2 {D : Dt} (self : DV D) : vB D.i2 := self.2.2.2.1
theorem DV.n9 {D : Dt} (self : DV D) : D.n ≤ 900 := self.2.2.2.2.1
theorem DV.by_ {D : Dt} (self : DV D) : ∀ k, k < D.n → (D.tp k).toInt8.toInt32 = D.tp k := self.2.2.2.2.2
theorem DV.mk {D : Dt} (h_b : vB D.b) (h_i0 : vB D.i0) (h_i1 : vB D.i1) (h_i2 : vB D.i2) (h_n9 : D.n ≤ 900) (h_by_ : ∀ k, k < D.n → (D.tp k).toInt8.toInt32 = D.tp k) : DV D := ⟨h_b, h_i0, h_i1, h_i2, h_n9, h_by_⟩
/-- the class moved -/
def loF (I A : mI) (B : mB) (I' A' : mI) (B' : mB) : Prop := ∀ k, 43 ≤ k → I' k = I k ∧ A' k = A k ∧ B' k = B k
/-- the reference moved -/
def hiF (I A : mI) (B : mB) (I' A' : mI) (B' : mB) : Prop := ∀ k, k ≤ 42 ∨ 65 ≤ k → I' k = I k ∧ A' k = A k ∧ B' k = B k
theorem MR.lo {a : Ac} {w : Nat} {I A I' A' : mI} {B B' : mB} (M : MR a w I A B) (h : loF I A B I' A' B') : MR a w I' A' B' := by
  have h5 := M.w5
  have hA : ∀ k, 43 ≤ k → A' k = A k := fun k hk => (h k hk).2.1
  have hI : I' 43 = I 43 := (h 43 (by decide)).1
  refine MR.mk M.hw M.w5 ?_ ?_ ?_ ?_ ?_ ?_ ?_ ?_ ?_ ?_ ?_ ?_ ?_ ?_ ?_ ?_ ?_ ?_ ?_ ?_ ?_
  · rw [hA w (by omega)]; exact M.hP
  · rw [hA w (by omega)]; exact M.hN
  · rw [hA w (by omega)]; exact M.hK
  · rw [hI]; exact M.hnt
  · rw [hA 48 (by decide)]; exact M.htr
  · rw [hA 49 (by decide)]; exact M.htt
  · rw [hA 50 (by decide)]; exact M.hdb
  · rw [hI]; exact M.hnc
  · rw [hA 51 (by decide)]; exact M.hcd
  · rw [hA 52 (by decide)]; exact M.hco
  · rw [hA 53 (by decide)]; exact M.hcv
  · rw [hI]; exact M.hn
  · rw [hA 54 (by decide)]; exact M.hso
  · rw [(h 55 (by decide)).2.2]; exact M.ham
  · rw [hA 56 (by decide)]; exact M.hva
  · rw [hA 57 (by decide)]; exact M.hpg
  · rw [hA 58 (by decide)]; exact M.hog
  · rw [hI]; exact M.hc
  · rw [hI]; exact M.hti
  · rw [hI]; exact M.htb
  · rw [hI]; exact M.hfo
theorem imR.fr {A A' : mI} {k : Nat} {b : Bk} (g : imR A k b) (h6 : A' 46 = A 46) (h7 : A' 47 = A 47) : imR A' k b := by
  unfold imR blk wdB at *
  rw [h6, h7]
  exact g
theorem MSt.lo {w : Nat} {I A I' A' : mI} {B B' : mB} {D : Dt} (M : MSt w I A B D) (h : loF I A B I' A' B') : MSt w I' A' B' D := by
  have h5 := M.M.w5
  have hA : ∀ k, 43 ≤ k → A' k = A k := fun k hk => (h k hk).2.1
  have hI : I' 43 = I 43 := (h 43 (by decide)).1
  refine ⟨M.M.lo h, WdR.fr M.W (hA w (by omega)), ?_, M.g0.fr (hA 46 (by decide)) (hA 47 (by decide)), M.g1.fr (hA 46 (by decide)) (hA 47 (by decide)), M.g2.fr (hA 46 (by decide)) (hA 47 (by decide)), ?_, ?_, ?_, ?_⟩
  · rw [hA w (by omega)]; exact M.k6
  · rw [hI]; exact M.t1
  · rw [hA 60 (by decide)]; exact M.tp
  · rw [hI]; exact M.e1
  · rw [hI]; exact M.e2
theorem CR.hi {a : Ac} {I A I' A' : mI} {B B' : mB} (C : CR a I A B) (h : hiF I A B I' A' B') : CR a I' A' B' := by
  have hA : ∀ k, k ≤ 42 → A' k = A k := fun k hk => (h k (by omega)).2.1
  have h1 : I' 16 = I 16 := (h 16 (by omega)).1
  have h2 : I' 17 = I 17 := (h 17 (by omega)).1
  have h3 : I' 29 = I 29 := (h 29 (by omega)).1
  refine (CR.mk (?_) (?_) (?_) (?_) (?_) (?_) (fun t ht => ?_) (fun t ht => ?_) (fun t ht => ?_) (fun r d hr hd => ?_) (?_) (fun t ht => ?_) (fun t ht => ?_) (fun t ht => ?_) (fun t ht => ?_) (fun t ht => ?_) (?_) (fun t ht => ?_) (CR.nt4 C :))
  · rw [h1]; exact C.hP
  · rw [h1]; exact C.hN
  · rw [h1]; exact C.hK
  · rw [h1]; exact C.hc
  · rw [h2]; exact C.hnt
  · rw [h2]; exact C.hnc
  · rw [hA 26 (by decide)]; exact C.htt t ht
  · rw [hA 27 (by decide)]; exact C.hcd t ht
  · rw [hA 28 (by decide)]; exact C.hco t ht
  · rw [hA (19 + r) (by have := C.nt4; omega)]; exact C.hru r d hr hd
  · rw [h3]; exact C.hn
  · rw [hA 30 (by decide)]; exact C.hso t ht
  · rw [(h 31 (by omega)).2.2]; exact C.ham t ht
  · rw [hA 32 (by decide)]; exact C.hva t ht
  · rw [hA 33 (by decide)]; exact C.hpg t ht
  · rw [hA 34 (by decide)]; exact C.hog t ht
  · obtain ⟨od, O⟩ := C.hod
    exact ⟨od, (Od.mk (Od.lt O :) (fun k hk => by rw [hA 35 (by decide)]; exact O.at_ k hk) (Od.st O :) (Od.on O :))⟩
  · rw [(h 36 (by omega)).2.2]; exact C.hbl t ht
theorem KSt.hi {I A I' A' : mI} {B B' : mB} {D : Dt} (K : KSt I A B D) (h : hiF I A B I' A' B') : KSt I' A' B' D := by
  have hA : ∀ k, k ≤ 42 → A' k = A k := fun k hk => (h k (by omega)).2.1
  have hI : ∀ k, k ≤ 42 → I' k = I k := fun k hk => (h k (by omega)).1
  refine ⟨K.C.hi h, ?_, ScR.fr K.S (hI 7 (by decide)) (hA 8 (by decide)), ScR.fr K.s0 (hI 10 (by decide)) (hA 11 (by decide)), ScR.fr K.s1 (hI 12 (by decide)) (hA 13 (by decide)), ScR.fr K.s2 (hI 14 (by decide)) (hA 15 (by decide)), ?_, ?_, ?_, ?_⟩
  · rw [hI 16 (by decide)]; exact K.k6
  · rw [hI 1 (by decide)]; exact K.t1
  · rw [hA 2 (by decide)]; exact K.tp
  · rw [hI 3 (by decide)]; exact K.e1
  · rw [hI 3 (by decide)]; exact K.e2
/-- a question asked of the class -/
theorem KSt.fC {I A A' : mI} {B B' : mB} {D : Dt} (K : KSt I A B D) (h : fC A B A' B') : KSt I A' B' D :=
  ⟨K.C.fr h, K.k6, ScR.fr K.S rfl (h.ar 8 (by decide)), ScR.fr K.s0 rfl (h.ar 11 (by decide)), ScR.fr K.s1 rfl (h.ar 13 (by decide)), ScR.fr K.s2 rfl (h.ar 15 (by decide)), K.t1, by rw [h.ar 2 (by decide)]; exact K.tp, K.e1, K.e2⟩
theorem fC.lo {I A A' : mI} {B B' : mB} (h : fC A B A' B') : loF I A B I A' B' := fun k hk => ⟨rfl, h.ar k (by omega), h.br k (by omega) (by omega)⟩
/-- a question asked of the reference -/
theorem MSt.fM {w : Nat} {I A I' A' : mI} {B B' : mB} {D : Dt} (M : MSt w I A B D) (M' : MR (acB D.b) w I' A' B') (h : fM I A B I' A' B') : MSt w I' A' B' D := by
  have h5 := M.M.w5
  have hw : A' w = A w := h.row w (by omega)
  have h6 : A' 46 = A 46 := h.row 46 (by decide)
  have h7 : A' 47 = A 47 := h.row 47 (by decide)
  have hI : ∀ j, 24 ≤ j → I' 43 j = I 43 j := fun j hj => h.i43 j (by omega) (by omega) (by omega) (by omega) (by omega) (by omega) (by omega) (by omega)
  refine ⟨M', WdR.fr M.W hw, ?_, M.g0.fr h6 h7, M.g1.fr h6 h7, M.g2.fr h6 h7, ?_, ?_, ?_, ?_⟩
  · rw [hw]; exact M.k6
  · rw [hI 26 (by decide)]; exact M.t1
  · rw [h.row 60 (by decide)]; exact M.tp
  · rw [hI 33 (by decide)]; exact M.e1
  · rw [hI 34 (by decide)]; exact M.e2
theorem DV.iv {D : Dt} (H : DV D) : Inv D.b.P D.b.N D.b.K D.b.rw D.b.m (acB D.b) := BkV.iv H.b (BkV.K1 H.b) (BkV.K4 H.b)
/-- is there a book -/
theorem KSt.bk {I A : mI} {B : mB} {D : Dt} (K : KSt I A B D) (H : DV D) : I 7 1 = 0 ↔ decide (0 < D.b.L) = false := by
  have h1 : D.b.L ≤ 62 := by
    rcases Nat.lt_or_ge 0 D.b.L with z | z
    · have := (BkV.l H.b z).1
      have := BkV.T61 H.b
      omega
    · omega
  rw [ScR.hL K.S, decide_eq_false_iff_not]
  exact ⟨fun z y => by have := (nI_eq (b := 0) (by omega) (by omega)).mp z; omega, fun z => by rw [show D.b.L = 0 by omega]; rfl⟩
theorem MSt.bk {w : Nat} {I A : mI} {B : mB} {D : Dt} (M : MSt w I A B D) (H : DV D) : 0 < A w 3 ↔ decide (0 < D.b.L) = true := by
  have h1 : D.b.L ≤ 62 := by
    rcases Nat.lt_or_ge 0 D.b.L with z | z
    · have := (BkV.l H.b z).1
      have := BkV.T61 H.b
      omega
    · omega
  rw [WdR.h3 M.W, decide_eq_true_iff]
  exact ⟨fun z => (nI_ltI (a := 0) (by omega) (by omega)).mp z, fun z => nI_lt (a := 0) z (by omega)⟩
theorem cn_a {a : Ac} (G : Gd a) (g : Int32) {d : Nat} : ∀ x y, x ≤ y → y ≤ 99999 → zcn a d g y = true → zcn a d g x = true := fun x y h1 h2 h => by
  have b0 := Int32.le_toInt g
  have b9 := Int32.toInt_lt g
  have b2 := zal_42 G (Sr.refl a) (bl34 G)
  have bx := zal_42 G (x := zpy a x d) sr_en (fun y => py_34 G (by omega))
  have by_ := zal_42 G (x := zpy a y d) sr_en (fun z => py_34 G (by omega))
  unfold zcn at *
  rw [decide_eq_true_eq, i64z, zL_add, zl_lt (by omega) (by omega) (by omega) (by omega)] at *
  have := zal_m G (x := zpy a x d) (y := zpy a y d) sr_en sr_en (fun e => by
    rw [py_mo, py_mo]
    unfold zmo
    split <;> omega)
  omega
theorem ct_a {a : Ac} (G : Gd a) (g : Int32) {t : Nat} (ht : t < a.nt) : ∀ x y, x ≤ y → y ≤ 5000 → zct a t g y = true → zct a t g x = true := fun x y h1 h2 h => by
  have b0 := Int32.le_toInt g
  have b9 := Int32.toInt_lt g
  have b2 := zal_42 G (Sr.refl a) (bl34 G)
  have bx := ti_42 G ht (m := (x : Int)) (by omega)
  have by_ := ti_42 G ht (m := (y : Int)) (by omega)
  unfold zct at *
  rw [decide_eq_true_eq, i64z, zl_lt (by omega) (by omega) (by omega) (by omega)] at *
  have := ti_m G ht (m := (x : Int)) (m' := (y : Int)) (by omega)
  omega
theorem to_en {a : Ac} {s v : Nat} {m : Int} {o : Int32} : zto (zen a s m v o) = zto a + m := by
  show zsm (zup a.am a.n m) (a.n + 1) = zsm a.am a.n + m
  exact zsm_up (fun i hi => zup_n (by omega)) zup_s
theorem to_pl {a : Ac} {d : Nat} {m : Int} : ∀ k, zto (zpl a d m k) = zto a + k * m
  | 0 => by show zto a = zto a + ((0 : Nat) : Int) * m; omega
  | k + 1 => by
    show zto (zpy (zpl a d m k) m (d + k * a.P)) = _
    rw [to_en, to_pl k, Int.natCast_add, Int.add_mul]
    show zto a + k * m + m = zto a + (k * m + 1 * m)
    omega
theorem to_b {a : Ac} (V : Vw a) : -2 ^ 40 ≤ zto a ∧ zto a ≤ 2 ^ 40 := by
  have h4 := V.n4
  have h := zsm_b (g := a.am) (M := 16777216) (n := a.n) (fun j hj => V.am1 j hj)
  show -2 ^ 40 ≤ zsm a.am a.n ∧ zsm a.am a.n ≤ 2 ^ 40
  omega
theorem cp_a {a : Ac} (G : Gd a) (hn : a.n + 8 + 16 ≤ 480) (hc : ct (fun j => decide (¬ (a.so j = 1 ∨ a.so j = 2))) a.n + 8 ≤ 80) {d0 k : Nat} (hd0 : d0 < 400) (hk : k ≤ 8) : ∀ x y, x ≤ y → y ≤ 99999 → zcp a d0 k y = true → zcp a d0 k x = true := by
  by_cases ho : a.c < a.N
  · exact cp_m G hn hc ho hd0 hk
  · intro x y h1 h2 h
    have bt := to_b G.V
    have hx : ∀ z : Nat, z ≤ 99999 → zto (zpx a d0 z k) = zto a + k * z ∧ (0 : Int) ≤ k * z ∧ (k : Int) * z ≤ 800000 := fun z hz => by
      have q : (k * z : Nat) ≤ 8 * 99999 := Nat.mul_le_mul hk hz
      have q2 : ((k * z : Nat) : Int) = (k : Int) * (z : Int) := Int.natCast_mul k z
      refine ⟨?_, by omega, by omega⟩
      unfold zpx
      by_cases e : z = 0
      · rw [if_pos e, e]
        show zto a = zto a + (k : Int) * 0
        omega
      · rw [if_neg e]
        exact to_pl k
    have ex := hx x (by omega)
    have ey := hx y h2
    unfold zcp at *
    rw [show a.N - a.c = 0 by omega] at *
    rw [show zset 0 (zpx a d0 x k) = zpx a d0 x k from rfl, decide_eq_true_eq, ex.1, zl_lt0 (by omega) (by omega)]
    rw [show zset 0 (zpx a d0 y k) = zpx a d0 y k from rfl, decide_eq_true_eq, ey.1, zl_lt0 (by omega) (by omega)] at h
    have hm : (k : Int) * (x : Int) ≤ k * y := Int.mul_le_mul_of_nonneg_left (by omega) (by omega)
    omega
