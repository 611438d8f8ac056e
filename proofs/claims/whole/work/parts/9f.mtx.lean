/-! the reference reads a text -/
theorem pk_sw {w f : Nat} : up2 (up2 (pk w f) 43 1 (some f)) 43 2 (some w) = pk f w := by
  funext k j
  by_cases hk : k = 43
  · subst hk
    by_cases h2 : j = 2
    · subst h2; rfl
    · rw [up2_m h2]
      by_cases h1 : j = 1
      · subst h1; rfl
      · rw [up2_m h1]
        unfold pk
        split <;> first | rfl | (exact absurd rfl h1) | (exact absurd rfl h2) | (split <;> first | rfl | contradiction)
  · rw [up2_n hk, up2_n hk]
    unfold pk
    split <;> first | rfl | (exact absurd rfl hk) | (split <;> first | rfl | contradiction)
theorem TpR.up {A : mI} {t : Nat → Nat} {n w j : Nat} {x : Int32} (T : TpR 60 A t n) (h : w ≠ 60) : TpR 60 (up2 A w j x) t n := ⟨T.n9, fun k hk => by rw [up2_n (fun z => h z.symm)]; exact T.b k hk⟩
theorem TpR.fr {A A' : mI} {c : Nat} {t : Nat → Nat} {n : Nat} (T : TpR c A t n) (h : A' c = A c) : TpR c A' t n := ⟨T.n9, fun k hk => by rw [h]; exact T.b k hk⟩
theorem WdR.l3 {w : Nat} {A : mI} {L L' T m : Nat} {rw : Nat → Rw} (W : WdR w A L T m rw) {x : Int32} (ex : x = nI L') : WdR w (up2 A w 3 x) L' T m rw := by
  refine ⟨up2_s.trans ex, (up2_m (by decide)).trans W.h4, (up2_m (by decide)).trans W.h5, fun k hk => ?_⟩
  obtain ⟨g0, g1, g2, g3⟩ := W.hr k hk
  exact ⟨(up2_m (by omega)).trans g0, (up2_m (by omega)).trans g1, (up2_m (by omega)).trans g2, (up2_m (by omega)).trans g3⟩
theorem WdR.t4 {w : Nat} {A : mI} {L T T' m : Nat} {rw : Nat → Rw} (W : WdR w A L T m rw) {x : Int32} (ex : x = nI T') : WdR w (up2 A w 4 x) L T' m rw := by
  refine ⟨(up2_m (by decide)).trans W.h3, up2_s.trans ex, (up2_m (by decide)).trans W.h5, fun k hk => ?_⟩
  obtain ⟨g0, g1, g2, g3⟩ := W.hr k hk
  exact ⟨(up2_m (by omega)).trans g0, (up2_m (by omega)).trans g1, (up2_m (by omega)).trans g2, (up2_m (by omega)).trans g3⟩
/-- before the first line -/
def M0 (w : Nat) (I A : mI) (t : Nat → Nat) (n : Nat) : Prop :=
  (ash w = some (0, 606)) ∧
  (w = 44 ∨ w = 45) ∧
  (I 43 33 = 0) ∧
  (I 43 34 = -1) ∧
  (MT I t n 0) ∧
  (I 43 28 = nI n) ∧
  (∀ j, j < 606 → A w j = 0) ∧
  (∀ k, k < 3 → A 50 k = 0) ∧
  (I 43 7 = 0) ∧
  (I 43 9 = 0) ∧
  (I 43 13 = 0) ∧
  (I 43 19 = 0) ∧
  (I 43 20 = 0) ∧
  (I 43 21 = -1) ∧
  (I 43 23 = -1) ∧
  (I 43 35 = 0) ∧
  (I 43 36 = 0)
theorem M0.hw {w : Nat} {I A : mI} {t : Nat → Nat} {n : Nat} (self : M0 w I A t n) : ash w = some (0, 606) := self.1
theorem M0.w5 {w : Nat} {I A : mI} {t : Nat → Nat} {n : Nat} (self : M0 w I A t n) : w = 44 ∨ w = 45 := self.2.1
theorem M0.fl {w : Nat} {I A : mI} {t : Nat → Nat} {n : Nat} (self : M0 w I A t n) : I 43 33 = 0 := self.2.2.1
theorem M0.pl {w : Nat} {I A : mI} {t : Nat → Nat} {n : Nat} (self : M0 w I A t n) : I 43 34 = -1 := self.2.2.2.1
theorem M0.tk {w : Nat} {I A : mI} {t : Nat → Nat} {n : Nat} (self : M0 w I A t n) : MT I t n 0 := self.2.2.2.2.1
theorem M0.sz {w : Nat} {I A : mI} {t : Nat → Nat} {n : Nat} (self : M0 w I A t n) : I 43 28 = nI n := self.2.2.2.2.2.1
theorem M0.z {w : Nat} {I A : mI} {t : Nat → Nat} {n : Nat} (self : M0 w I A t n) : ∀ j, j < 606 → A w j = 0 := self.2.2.2.2.2.2.1
theorem M0.z50 {w : Nat} {I A : mI} {t : Nat → Nat} {n : Nat} (self : M0 w I A t n) : ∀ k, k < 3 → A 50 k = 0 := self.2.2.2.2.2.2.2.1
theorem M0.i7 {w : Nat} {I A : mI} {t : Nat → Nat} {n : Nat} (self : M0 w I A t n) : I 43 7 = 0 := self.2.2.2.2.2.2.2.2.1
theorem M0.i9 {w : Nat} {I A : mI} {t : Nat → Nat} {n : Nat} (self : M0 w I A t n) : I 43 9 = 0 := self.2.2.2.2.2.2.2.2.2.1
theorem M0.i13 {w : Nat} {I A : mI} {t : Nat → Nat} {n : Nat} (self : M0 w I A t n) : I 43 13 = 0 := self.2.2.2.2.2.2.2.2.2.2.1
theorem M0.i19 {w : Nat} {I A : mI} {t : Nat → Nat} {n : Nat} (self : M0 w I A t n) : I 43 19 = 0 := self.2.2.2.2.2.2.2.2.2.2.2.1
theorem M0.i20 {w : Nat} {I A : mI} {t : Nat → Nat} {n : Nat} (self : M0 w I A t n) : I 43 20 = 0 := self.2.2.2.2.2.2.2.2.2.2.2.2.1
theorem M0.i21 {w : Nat} {I A : mI} {t : Nat → Nat} {n : Nat} (self : M0 w I A t n) : I 43 21 = -1 := self.2.2.2.2.2.2.2.2.2.2.2.2.2.1
theorem M0.i23 {w : Nat} {I A : mI} {t : Nat → Nat} {n : Nat} (self : M0 w I A t n) : I 43 23 = -1 := self.2.2.2.2.2.2.2.2.2.2.2.2.2.2.1
theorem M0.i35 {w : Nat} {I A : mI} {t : Nat → Nat} {n : Nat} (self : M0 w I A t n) : I 43 35 = 0 := self.2.2.2.2.2.2.2.2.2.2.2.2.2.2.2.1
theorem M0.i36 {w : Nat} {I A : mI} {t : Nat → Nat} {n : Nat} (self : M0 w I A t n) : I 43 36 = 0 := self.2.2.2.2.2.2.2.2.2.2.2.2.2.2.2.2
theorem M0.mk {w : Nat} {I A : mI} {t : Nat → Nat} {n : Nat} (h_hw : ash w = some (0, 606)) (h_w5 : w = 44 ∨ w = 45) (h_fl : I 43 33 = 0) (h_pl : I 43 34 = -1) (h_tk : MT I t n 0) (h_sz : I 43 28 = nI n) (h_z : ∀ j, j < 606 → A w j = 0) (h_z50 : ∀ k, k < 3 → A 50 k = 0) (h_i7 : I 43 7 = 0) (h_i9 : I 43 9 = 0) (h_i13 : I 43 13 = 0) (h_i19 : I 43 19 = 0) (h_i20 : I 43 20 = 0) (h_i21 : I 43 21 = -1) (h_i23 : I 43 23 = -1) (h_i35 : I 43 35 = 0) (h_i36 : I 43 36 = 0) : M0 w I A t n := ⟨h_hw, h_w5, h_fl, h_pl, h_tk, h_sz, h_z, h_z50, h_i7, h_i9, h_i13, h_i19, h_i20, h_i21, h_i23, h_i35, h_i36⟩
def pF (t : Nat → Nat) (n : Nat) : Except Fl ((Nat × Nat × Nat) × Nat) :=
  bnd (tkW t n 0 0) (fun p1 => bnd (tkW t n 1 p1) (fun p2 => bnd (tkN t n 2 41 p2) (fun P => bnd (tkW t n 2 P.2) (fun p4 => bnd (tkN t n 1 9 p4) (fun N => bnd (tkW t n 3 N.2) (fun p6 => bnd (tkN t n 1 5 p6) (fun K => .ok ((P.1, N.1, K.1), K.2))))))))
theorem p_F {t : Nat → Nat} {n : Nat} : lnF t n st0 = bnd (pF t n) (fun x => bnd (tkS t n x.2) (fun p8 => .ok (St.mk 1 x.1.1 x.1.2.1 x.1.2.2 0 p8 st0.rw))) := by
  unfold lnF pF
  rw [bnd_as]
  refine bnd_cg (fun x => ?_)
  rw [bnd_as]
  refine bnd_cg (fun x => ?_)
  rw [bnd_as]
  refine bnd_cg (fun x => ?_)
  rw [bnd_as]
  refine bnd_cg (fun x => ?_)
  rw [bnd_as]
  refine bnd_cg (fun x => ?_)
  rw [bnd_as]
  refine bnd_cg (fun x => ?_)
  rw [bnd_as]
  rfl
def qF (w f : Nat) (I A : mI) (B : mB) (t : Nat → Nat) (n : Nat) (R : mR) (x : Except Fl ((Nat × Nat × Nat) × Nat)) : Prop := match x with
  | .ok x => x.2 ≤ n → ∀ I', gM I I' → MT I' t n x.2 → R none I' (up2 (up2 (up2 A w 0 (nI x.1.1)) w 1 (nI x.1.2.1)) w 2 (nI x.1.2.2)) B (pk w f)
  | .error e => ∀ I' A', ¬ nI e.1 = 0 → I' 43 33 = nI e.1 → I' 43 34 = nI e.2 → I' 43 21 = I 43 21 → I' 43 23 = I 43 23 → fY w I A B I' A' B → R none I' A' B (pk w f)
def qT (w f : Nat) (I A : mI) (B : mB) (t : Nat → Nat) (n : Nat) (R : mR) (x : Except Fl St) : Prop := match x with
  | .ok s' => ∀ I' A' B', MS w I' A' B' t n s' → fY w I A B I' A' B' → R none I' A' B' (pk w f)
  | .error e => ∀ I' A' B', ¬ nI e.1 = 0 → I' 43 33 = nI e.1 → I' 43 34 = nI e.2 → I' 43 21 = -1 → I' 43 23 = -1 → fY w I A B I' A' B' → R none I' A' B' (pk w f)
theorem ack_n {s : St} : (ack s).ti = none ∧ (ack s).fo = none := ⟨(rn_PNK s.m).2.2.2.1, (rn_PNK s.m).2.2.2.2⟩
theorem MS.i2 {w : Nat} {I A : mI} {B : mB} {t : Nat → Nat} {n : Nat} {s : St} (S : MS w I A B t n s) : I 43 21 = -1 ∧ I 43 23 = -1 := by
  refine ⟨?_, ?_⟩
  · rw [S.mr.hti, ack_n.1]; rfl
  · rw [S.mr.hfo, ack_n.2]; rfl
/-- the state behind a row done -/
theorem MP.dn {w : Nat} {I A I' A' : mI} {B B' : mB} {t : Nat → Nat} {n : Nat} {s : St} {r : Rw} {q p : Nat} (S : MP w I A B t n s r q) (fl : I' 43 33 = 0) (pl : I' 43 34 = -1) (tk : MT I' t n p) (sz : I' 43 28 = nI n) (mr : MR (zdo (ack s) r) w I' A' B') (hA : A' w = A w) (h9 : I' 43 9 = if r.1 = 1 then 1 else I 43 9) (h35 : I' 43 35 = I 43 35) (h36 : I' 43 36 = I 43 36) : MS w I' (up2 A' w 3 (A' w 3 + 1)) B' t n (adr s r p) := by
  have c := fun z => ctk_us (rw := s.rw) (m := s.m) (q := z) (r := r)
  have W1 := S.wd.fr hA
  refine ⟨fl, pl, tk, sz, ?_, ?_, ?_, ?_, ?_⟩
  · rw [ack_ad]
    exact mr.fw (fun q hq => up2_r hq) (fun j hj => up2_m (by omega))
  · exact W1.l3 (by rw [W1.h3]; exact nI_1 _)
  · show I' 43 9 = if 0 < ctk (zup s.rw s.m r) 1 (s.m + 1) then 1 else 0
    rw [c 1, h9]
    by_cases z : r.1 = 1
    · rw [if_pos z, if_pos z, if_pos (by omega)]
    · rw [if_neg z, if_neg z]
      exact S.hd
  · show I' 43 35 = nI (ctk (zup s.rw s.m r) 3 (s.m + 1))
    rw [c 3, h35]
    exact S.te
  · show I' 43 36 = nI (ctk (zup s.rw s.m r) 5 (s.m + 1))
    rw [c 5, h36]
    exact S.tr
theorem M0.st {w : Nat} {I A I' : mI} {B : mB} {t : Nat → Nat} {n P N K p : Nat} (Z : M0 w I A t n) (g : ∀ j, j = 7 ∨ j = 9 ∨ j = 13 ∨ j = 19 ∨ j = 20 ∨ j = 21 ∨ j = 23 ∨ j = 28 ∨ j = 33 ∨ j = 34 ∨ j = 35 ∨ j = 36 → I' 43 j = I 43 j) (tk : MT I' t n p) {A' : mI} (hA : A' = up2 (up2 (up2 (up2 A w 0 (nI P)) w 1 (nI N)) w 2 (nI K)) w 3 1) : MS w I' A' B t n (St.mk 1 P N K 0 p st0.rw) := by
  subst hA
  have h5 := Z.w5
  have hr : ∀ q, q ≠ w → up2 (up2 (up2 (up2 A w 0 (nI P)) w 1 (nI N)) w 2 (nI K)) w 3 1 q = A q := fun q hq => by rw [up2_r hq, up2_r hq, up2_r hq, up2_r hq]
  have hz : ∀ t : Nat, t < 0 → False := fun t h => Nat.not_lt_zero t h
  refine ⟨(g 33 (by omega)).trans Z.fl, (g 34 (by omega)).trans Z.pl, tk, (g 28 (by omega)).trans Z.sz, ?_, ⟨up2_s, ?_, ?_, fun k hk => (hz k hk).elim⟩, (g 9 (by omega)).trans Z.i9, (g 35 (by omega)).trans Z.i35, (g 36 (by omega)).trans Z.i36⟩
  · show MR (zbg P N K) w I' _ B
    refine MR.mk Z.hw Z.w5 ?_ ?_ (fun _ => ?_) ((g 7 (by omega)).trans Z.i7) (fun t ht => (hz t ht).elim) (fun t ht => (hz t ht).elim) (fun k hk => ?_) ((g 13 (by omega)).trans Z.i13) (fun t ht => (hz t ht).elim) (fun t ht => (hz t ht).elim) (fun t ht => (hz t ht).elim) ((g 19 (by omega)).trans Z.i19) (fun t ht => (hz t ht).elim) (fun t ht => (hz t ht).elim) (fun t ht => (hz t ht).elim) (fun t ht => (hz t ht).elim) (fun t ht => (hz t ht).elim) ((g 20 (by omega)).trans Z.i20) ((g 21 (by omega)).trans Z.i21) (fun z => absurd rfl z) ((g 23 (by omega)).trans Z.i23)
    · rw [up2_m (by decide), up2_m (by decide), up2_m (by decide), up2_s]; rfl
    · rw [up2_m (by decide), up2_m (by decide), up2_s]; rfl
    · rw [up2_m (by decide), up2_s]; rfl
    · rw [hr 50 (by omega)]; exact Z.z50 k hk
  · rw [up2_m (by decide), up2_m (by decide), up2_m (by decide), up2_m (by decide), Z.z 4 (by decide)]; rfl
  · rw [up2_m (by decide), up2_m (by decide), up2_m (by decide), up2_m (by decide), Z.z 5 (by decide)]; rfl
theorem M0.mr {w : Nat} {I A A' : mI} {B : mB} {t : Nat → Nat} {n : Nat} (Z : M0 w I A t n) (h : ∀ q, q ≠ w → A' q = A q) (h3 : ∀ j, j < 3 → A' w j = A w j) : MR (zbg 0 0 1) w I A' B := by
  have h5 := Z.w5
  have hz : ∀ t : Nat, t < 0 → False := fun t h => Nat.not_lt_zero t h
  refine MR.mk Z.hw Z.w5 ?_ ?_ (fun z => (hz _ z).elim) Z.i7 (fun t ht => (hz t ht).elim) (fun t ht => (hz t ht).elim) (fun k hk => ?_) Z.i13 (fun t ht => (hz t ht).elim) (fun t ht => (hz t ht).elim) (fun t ht => (hz t ht).elim) Z.i19 (fun t ht => (hz t ht).elim) (fun t ht => (hz t ht).elim) (fun t ht => (hz t ht).elim) (fun t ht => (hz t ht).elim) (fun t ht => (hz t ht).elim) Z.i20 Z.i21 (fun z => absurd rfl z) Z.i23
  · rw [h3 0 (by decide)]; exact Z.z 0 (by decide)
  · rw [h3 1 (by decide)]; exact Z.z 1 (by decide)
  · rw [h 50 (by omega)]; exact Z.z50 k hk
/-- what a text leaves of the reference -/
def fB (f : Nat) (I A : mI) (B : mB) (I' A' : mI) (B' : mB) : Prop :=
  (∀ k, k ≤ 42 ∨ 65 ≤ k → I' k = I k ∧ A' k = A k ∧ B' k = B k) ∧
  (∀ r, r ≠ f → r = 44 ∨ r = 45 ∨ r = 46 ∨ r = 47 ∨ r = 60 → A' r = A r)
theorem fB.out {f : Nat} {I A : mI} {B : mB} {I' A' : mI} {B' : mB} (self : fB f I A B I' A' B') : ∀ k, k ≤ 42 ∨ 65 ≤ k → I' k = I k ∧ A' k = A k ∧ B' k = B k := self.1
theorem fB.row {f : Nat} {I A : mI} {B : mB} {I' A' : mI} {B' : mB} (self : fB f I A B I' A' B') : ∀ r, r ≠ f → r = 44 ∨ r = 45 ∨ r = 46 ∨ r = 47 ∨ r = 60 → A' r = A r := self.2
theorem fB.mk {f : Nat} {I A : mI} {B : mB} {I' A' : mI} {B' : mB} (h_out : ∀ k, k ≤ 42 ∨ 65 ≤ k → I' k = I k ∧ A' k = A k ∧ B' k = B k) (h_row : ∀ r, r ≠ f → r = 44 ∨ r = 45 ∨ r = 46 ∨ r = 47 ∨ r = 60 → A' r = A r) : fB f I A B I' A' B' := ⟨h_out, h_row⟩
