/-! the reference between two lines -/
def ack (s : St) : Ac := zrn s.P s.N s.K s.rw s.m
def fY (w : Nat) (I A : mI) (B : mB) (I' A' : mI) (B' : mB) : Prop :=
  (∀ k, k ≤ 42 ∨ 65 ≤ k → I' k = I k ∧ A' k = A k ∧ B' k = B k) ∧
  (∀ r, r ≠ w → r = 44 ∨ r = 45 ∨ r = 46 ∨ r = 47 ∨ r = 60 → A' r = A r) ∧
  (I' 43 26 = I 43 26)
theorem fY.out {w : Nat} {I A : mI} {B : mB} {I' A' : mI} {B' : mB} (self : fY w I A B I' A' B') : ∀ k, k ≤ 42 ∨ 65 ≤ k → I' k = I k ∧ A' k = A k ∧ B' k = B k := self.1
theorem fY.row {w : Nat} {I A : mI} {B : mB} {I' A' : mI} {B' : mB} (self : fY w I A B I' A' B') : ∀ r, r ≠ w → r = 44 ∨ r = 45 ∨ r = 46 ∨ r = 47 ∨ r = 60 → A' r = A r := self.2.1
theorem fY.i26 {w : Nat} {I A : mI} {B : mB} {I' A' : mI} {B' : mB} (self : fY w I A B I' A' B') : I' 43 26 = I 43 26 := self.2.2
theorem fY.mk {w : Nat} {I A : mI} {B : mB} {I' A' : mI} {B' : mB} (h_out : ∀ k, k ≤ 42 ∨ 65 ≤ k → I' k = I k ∧ A' k = A k ∧ B' k = B k) (h_row : ∀ r, r ≠ w → r = 44 ∨ r = 45 ∨ r = 46 ∨ r = 47 ∨ r = 60 → A' r = A r) (h_i26 : I' 43 26 = I 43 26) : fY w I A B I' A' B' := ⟨h_out, h_row, h_i26⟩
theorem fY.refl (w : Nat) (I A : mI) (B : mB) : fY w I A B I A B := ⟨fun _ _ => ⟨rfl, rfl, rfl⟩, fun _ _ _ => rfl, rfl⟩
theorem fY.trans {w : Nat} {I A : mI} {B : mB} {I' A' : mI} {B' : mB} {I2 A2 : mI} {B2 : mB} (h : fY w I A B I' A' B') (g : fY w I' A' B' I2 A2 B2) : fY w I A B I2 A2 B2 :=
  ⟨fun k hk => ⟨(g.out k hk).1.trans (h.out k hk).1, (g.out k hk).2.1.trans (h.out k hk).2.1, (g.out k hk).2.2.trans (h.out k hk).2.2⟩, fun r hn hr => (g.row r hn hr).trans (h.row r hn hr), g.i26.trans h.i26⟩
theorem gM.y {w : Nat} {I A : mI} {B : mB} {Iv : mI} (g : gM I Iv) : fY w I A B Iv A B := ⟨fun k hk => ⟨g.1 k (by omega), rfl, rfl⟩, fun _ _ _ => rfl, g.2 26 (by decide) (by decide) (by decide) (by decide)⟩
theorem fY.i {w : Nat} {I A : mI} {B : mB} {j : Nat} {x : Int32} (h : j ≠ 26) : fY w I A B (up2 I 43 j x) A B := ⟨fun k hk => ⟨up2_r (by omega), rfl, rfl⟩, fun _ _ _ => rfl, up2_m (fun z => h z.symm)⟩
theorem fY.a {w : Nat} {I A : mI} {B : mB} {A' : mI} (h5 : w = 44 ∨ w = 45) (h : ∀ q, q ≠ w → A' q = A q) : fY w I A B I A' B := ⟨fun k hk => ⟨rfl, h k (by omega), rfl⟩, fun r hn _ => h r hn, rfl⟩
theorem fM.y {w : Nat} {I A : mI} {B : mB} {I' A' : mI} {B' : mB} (h : fM I A B I' A' B') : fY w I A B I' A' B' := ⟨h.out, fun r _ hr => h.row r hr, h.i43 26 (by decide) (by decide) (by decide) (by decide) (by decide) (by decide) (by decide) (by decide)⟩
theorem MR.gm {a : Ac} {w : Nat} {I A Iv : mI} {B : mB} (M : MR a w I A B) (h : ∀ j, j = 7 ∨ j = 13 ∨ j = 19 ∨ j = 20 ∨ j = 21 ∨ j = 22 ∨ j = 23 → Iv 43 j = I 43 j) : MR a w Iv A B := by
  refine (MR.mk (MR.hw M :) (MR.w5 M :) (MR.hP M :) (MR.hN M :) (MR.hK M :) (?_) (MR.htr M :) (MR.htt M :) (MR.hdb M :) (?_) (MR.hcd M :) (MR.hco M :) (MR.hcv M :) (?_) (MR.hso M :) (MR.ham M :) (MR.hva M :) (MR.hpg M :) (MR.hog M :) (?_) (?_) (?_) (?_))
  · rw [h 7 (by omega)]; exact M.hnt
  · rw [h 13 (by omega)]; exact M.hnc
  · rw [h 19 (by omega)]; exact M.hn
  · rw [h 20 (by omega)]; exact M.hc
  · rw [h 21 (by omega)]; exact M.hti
  · rw [h 22 (by omega)]; exact M.htb
  · rw [h 23 (by omega)]; exact M.hfo
def MS (w : Nat) (I A : mI) (B : mB) (t : Nat → Nat) (n : Nat) (s : St) : Prop :=
  (I 43 33 = 0) ∧
  (I 43 34 = -1) ∧
  (MT I t n s.p) ∧
  (I 43 28 = nI n) ∧
  (MR (ack s) w I A B) ∧
  (WdR w A s.L 0 s.m s.rw) ∧
  (I 43 9 = if 0 < ctk s.rw 1 s.m then 1 else 0) ∧
  (I 43 35 = nI (ctk s.rw 3 s.m)) ∧
  (I 43 36 = nI (ctk s.rw 5 s.m))
theorem MS.fl {w : Nat} {I A : mI} {B : mB} {t : Nat → Nat} {n : Nat} {s : St} (self : MS w I A B t n s) : I 43 33 = 0 := self.1
theorem MS.pl {w : Nat} {I A : mI} {B : mB} {t : Nat → Nat} {n : Nat} {s : St} (self : MS w I A B t n s) : I 43 34 = -1 := self.2.1
theorem MS.tk {w : Nat} {I A : mI} {B : mB} {t : Nat → Nat} {n : Nat} {s : St} (self : MS w I A B t n s) : MT I t n s.p := self.2.2.1
theorem MS.sz {w : Nat} {I A : mI} {B : mB} {t : Nat → Nat} {n : Nat} {s : St} (self : MS w I A B t n s) : I 43 28 = nI n := self.2.2.2.1
theorem MS.mr {w : Nat} {I A : mI} {B : mB} {t : Nat → Nat} {n : Nat} {s : St} (self : MS w I A B t n s) : MR (ack s) w I A B := self.2.2.2.2.1
theorem MS.wd {w : Nat} {I A : mI} {B : mB} {t : Nat → Nat} {n : Nat} {s : St} (self : MS w I A B t n s) : WdR w A s.L 0 s.m s.rw := self.2.2.2.2.2.1
theorem MS.hd {w : Nat} {I A : mI} {B : mB} {t : Nat → Nat} {n : Nat} {s : St} (self : MS w I A B t n s) : I 43 9 = if 0 < ctk s.rw 1 s.m then 1 else 0 := self.2.2.2.2.2.2.1
theorem MS.te {w : Nat} {I A : mI} {B : mB} {t : Nat → Nat} {n : Nat} {s : St} (self : MS w I A B t n s) : I 43 35 = nI (ctk s.rw 3 s.m) := self.2.2.2.2.2.2.2.1
theorem MS.tr {w : Nat} {I A : mI} {B : mB} {t : Nat → Nat} {n : Nat} {s : St} (self : MS w I A B t n s) : I 43 36 = nI (ctk s.rw 5 s.m) := self.2.2.2.2.2.2.2.2
theorem MS.mk {w : Nat} {I A : mI} {B : mB} {t : Nat → Nat} {n : Nat} {s : St} (h_fl : I 43 33 = 0) (h_pl : I 43 34 = -1) (h_tk : MT I t n s.p) (h_sz : I 43 28 = nI n) (h_mr : MR (ack s) w I A B) (h_wd : WdR w A s.L 0 s.m s.rw) (h_hd : I 43 9 = if 0 < ctk s.rw 1 s.m then 1 else 0) (h_te : I 43 35 = nI (ctk s.rw 3 s.m)) (h_tr : I 43 36 = nI (ctk s.rw 5 s.m)) : MS w I A B t n s := ⟨h_fl, h_pl, h_tk, h_sz, h_mr, h_wd, h_hd, h_te, h_tr⟩
/-- a row is there, not yet done -/
def MP (w : Nat) (I A : mI) (B : mB) (t : Nat → Nat) (n : Nat) (s : St) (r : Rw) (q : Nat) : Prop :=
  (I 43 33 = 0) ∧
  (I 43 34 = -1) ∧
  (MT I t n q) ∧
  (I 43 28 = nI n) ∧
  (MR (ack s) w I A B) ∧
  (WdR w A s.L 0 (s.m + 1) (zup s.rw s.m r)) ∧
  (I 43 9 = if 0 < ctk s.rw 1 s.m then 1 else 0) ∧
  (I 43 35 = nI (ctk s.rw 3 s.m + (if r.1 = 3 then 1 else 0))) ∧
  (I 43 36 = nI (ctk s.rw 5 s.m + (if r.1 = 5 then 1 else 0))) ∧
  (q ≤ n)
theorem MP.fl {w : Nat} {I A : mI} {B : mB} {t : Nat → Nat} {n : Nat} {s : St} {r : Rw} {q : Nat} (self : MP w I A B t n s r q) : I 43 33 = 0 := self.1
theorem MP.pl {w : Nat} {I A : mI} {B : mB} {t : Nat → Nat} {n : Nat} {s : St} {r : Rw} {q : Nat} (self : MP w I A B t n s r q) : I 43 34 = -1 := self.2.1
theorem MP.tk {w : Nat} {I A : mI} {B : mB} {t : Nat → Nat} {n : Nat} {s : St} {r : Rw} {q : Nat} (self : MP w I A B t n s r q) : MT I t n q := self.2.2.1
theorem MP.sz {w : Nat} {I A : mI} {B : mB} {t : Nat → Nat} {n : Nat} {s : St} {r : Rw} {q : Nat} (self : MP w I A B t n s r q) : I 43 28 = nI n := self.2.2.2.1
theorem MP.mr {w : Nat} {I A : mI} {B : mB} {t : Nat → Nat} {n : Nat} {s : St} {r : Rw} {q : Nat} (self : MP w I A B t n s r q) : MR (ack s) w I A B := self.2.2.2.2.1
theorem MP.wd {w : Nat} {I A : mI} {B : mB} {t : Nat → Nat} {n : Nat} {s : St} {r : Rw} {q : Nat} (self : MP w I A B t n s r q) : WdR w A s.L 0 (s.m + 1) (zup s.rw s.m r) := self.2.2.2.2.2.1
theorem MP.hd {w : Nat} {I A : mI} {B : mB} {t : Nat → Nat} {n : Nat} {s : St} {r : Rw} {q : Nat} (self : MP w I A B t n s r q) : I 43 9 = if 0 < ctk s.rw 1 s.m then 1 else 0 := self.2.2.2.2.2.2.1
theorem MP.te {w : Nat} {I A : mI} {B : mB} {t : Nat → Nat} {n : Nat} {s : St} {r : Rw} {q : Nat} (self : MP w I A B t n s r q) : I 43 35 = nI (ctk s.rw 3 s.m + (if r.1 = 3 then 1 else 0)) := self.2.2.2.2.2.2.2.1
theorem MP.tr {w : Nat} {I A : mI} {B : mB} {t : Nat → Nat} {n : Nat} {s : St} {r : Rw} {q : Nat} (self : MP w I A B t n s r q) : I 43 36 = nI (ctk s.rw 5 s.m + (if r.1 = 5 then 1 else 0)) := self.2.2.2.2.2.2.2.2.1
theorem MP.q {w : Nat} {I A : mI} {B : mB} {t : Nat → Nat} {n : Nat} {s : St} {r : Rw} {q : Nat} (self : MP w I A B t n s r q) : q ≤ n := self.2.2.2.2.2.2.2.2.2
theorem MP.mk {w : Nat} {I A : mI} {B : mB} {t : Nat → Nat} {n : Nat} {s : St} {r : Rw} {q : Nat} (h_fl : I 43 33 = 0) (h_pl : I 43 34 = -1) (h_tk : MT I t n q) (h_sz : I 43 28 = nI n) (h_mr : MR (ack s) w I A B) (h_wd : WdR w A s.L 0 (s.m + 1) (zup s.rw s.m r)) (h_hd : I 43 9 = if 0 < ctk s.rw 1 s.m then 1 else 0) (h_te : I 43 35 = nI (ctk s.rw 3 s.m + (if r.1 = 3 then 1 else 0))) (h_tr : I 43 36 = nI (ctk s.rw 5 s.m + (if r.1 = 5 then 1 else 0))) (h_q : q ≤ n) : MP w I A B t n s r q := ⟨h_fl, h_pl, h_tk, h_sz, h_mr, h_wd, h_hd, h_te, h_tr, h_q⟩
def pT (t : Nat → Nat) (n : Nat) (s : St) : Except Fl (Rw × Nat) :=
  if ctk s.rw 0 s.m = 4 ∨ (0 < ctk s.rw 0 s.m ∧ ltp s.rw s.m = 0) then .error (3, tS t n s.p)
  else bnd (tkN t n 0 5001 (tE t n s.p)) (fun x => if tW t n x.2 5 = true then bnd (tkN t n (ltp s.rw s.m + 1) 100000 (tE t n x.2)) (fun y => .ok ((0, x.1, (y.1 : Nat), 0), y.2)) else .ok ((0, x.1, 0, 0), x.2))
def pD (t : Nat → Nat) (n : Nat) (s : St) : Except Fl (Rw × Nat) :=
  if 0 < ctk s.rw 1 s.m then .error (3, tS t n s.p)
  else bnd (tkN t n 0 5001 (tE t n s.p)) (fun x => bnd (tkW t n 7 x.2) (fun q1 => bnd (tkN t n 0 5001 q1) (fun y => bnd (tkW t n 8 y.2) (fun q2 => bnd (tkN t n 0 100000 q2) (fun z => .ok ((1, x.1, (y.1 : Nat), z.1), z.2))))))
def pC (t : Nat → Nat) (n : Nat) (s : St) : Except Fl (Rw × Nat) :=
  if ctk s.rw 2 s.m = 12 then .error (3, tS t n s.p)
  else bnd (tkN t n 0 (s.P * s.N) (tE t n s.p)) (fun d => bnd (whc t n s d.2) (fun q => bnd (tkN t n 0 (if q.1 = 6 then 100000 else 5001) q.2) (fun v => .ok ((2, d.1, (q.1 : Nat), v.1), v.2))))
def pE (t : Nat → Nat) (n : Nat) (s : St) (sg : Int) : Except Fl (Rw × Nat) :=
  if ctk s.rw 3 s.m = 30 ∨ ¬ ctk s.rw 4 s.m < s.N then .error (3, tS t n s.p)
  else bnd (tkN t n 0 (s.P * s.N) (tE t n s.p)) (fun d => bnd (tkN t n 1 100000 d.2) (fun x => .ok ((3, d.1, sg * (x.1 : Nat), 0), x.2)))
def pX (t : Nat → Nat) (n : Nat) (s : St) : Except Fl (Rw × Nat) :=
  if ¬ ctk s.rw 4 s.m < s.N then .error (3, tS t n s.p) else .ok ((4, 0, 0, 0), tE t n s.p)
def pY (t : Nat → Nat) (n : Nat) (s : St) : Except Fl (Rw × Nat) :=
  if ctk s.rw 5 s.m = 6 ∨ ¬ ctk s.rw 4 s.m < s.N then .error (3, tS t n s.p) else .ok ((5, 0, 0, 0), tE t n s.p)
def pR (t : Nat → Nat) (n : Nat) (s : St) : Except Fl (Rw × Nat) :=
  if tW t n s.p 4 = true then pT t n s else if tW t n s.p 6 = true then pD t n s else if tW t n s.p 9 = true then pC t n s else if tW t n s.p 10 = true then pE t n s 1 else if tW t n s.p 11 = true then pE t n s (-1) else if tW t n s.p 12 = true then pX t n s else if tW t n s.p 13 = true then pY t n s else .error (1, tS t n s.p)
theorem bnd_as {α β γ : Type} {x : Except Fl α} {k : α → Except Fl β} {k' : β → Except Fl γ} : bnd (bnd x k) k' = bnd x (fun a => bnd (k a) k') := by
  cases x with
  | error e => rfl
  | ok a => rfl
theorem bnd_cg {α β : Type} {x : Except Fl α} {k k' : α → Except Fl β} (h : ∀ a, k a = k' a) : bnd x k = bnd x k' := by
  cases x with
  | error e => rfl
  | ok a => exact h a
def fn2 (t : Nat → Nat) (n : Nat) (s : St) (x : Rw × Nat) : Except Fl St := fin t n s x.1 x.2
theorem p_T {t : Nat → Nat} {n : Nat} {s : St} : lnT t n s = bnd (pT t n s) (fn2 t n s) := by
  unfold lnT pT
  by_cases z : ctk s.rw 0 s.m = 4 ∨ (0 < ctk s.rw 0 s.m ∧ ltp s.rw s.m = 0)
  · rw [if_pos z, if_pos z]; rfl
  · rw [if_neg z, if_neg z, bnd_as]
    refine bnd_cg (fun x => ?_)
    by_cases y : tW t n x.2 5 = true
    · rw [if_pos y, if_pos y, bnd_as]; rfl
    · rw [if_neg y, if_neg y]; rfl
theorem p_D {t : Nat → Nat} {n : Nat} {s : St} : lnD t n s = bnd (pD t n s) (fn2 t n s) := by
  unfold lnD pD
  by_cases z : 0 < ctk s.rw 1 s.m
  · rw [if_pos z, if_pos z]; rfl
  · rw [if_neg z, if_neg z, bnd_as]
    refine bnd_cg (fun x => ?_)
    rw [bnd_as]
    refine bnd_cg (fun x => ?_)
    rw [bnd_as]
    refine bnd_cg (fun x => ?_)
    rw [bnd_as]
    refine bnd_cg (fun x => ?_)
    rw [bnd_as]
    rfl
theorem p_C {t : Nat → Nat} {n : Nat} {s : St} : lnC t n s = bnd (pC t n s) (fn2 t n s) := by
  unfold lnC pC
  by_cases z : ctk s.rw 2 s.m = 12
  · rw [if_pos z, if_pos z]; rfl
  · rw [if_neg z, if_neg z, bnd_as]
    refine bnd_cg (fun x => ?_)
    rw [bnd_as]
    refine bnd_cg (fun x => ?_)
    rw [bnd_as]
    rfl
theorem p_E {t : Nat → Nat} {n : Nat} {s : St} {sg : Int} : lnE t n s sg = bnd (pE t n s sg) (fn2 t n s) := by
  unfold lnE pE
  by_cases z : ctk s.rw 3 s.m = 30 ∨ ¬ ctk s.rw 4 s.m < s.N
  · rw [if_pos z, if_pos z]; rfl
  · rw [if_neg z, if_neg z, bnd_as]
    refine bnd_cg (fun x => ?_)
    rw [bnd_as]
    rfl
theorem p_X {t : Nat → Nat} {n : Nat} {s : St} : lnX t n s = bnd (pX t n s) (fn2 t n s) := by
  unfold lnX pX
  by_cases z : ¬ ctk s.rw 4 s.m < s.N
  · rw [if_pos z, if_pos z]; rfl
  · rw [if_neg z, if_neg z]; rfl
theorem p_Y {t : Nat → Nat} {n : Nat} {s : St} : lnY t n s = bnd (pY t n s) (fn2 t n s) := by
  unfold lnY pY
  by_cases z : ctk s.rw 5 s.m = 6 ∨ ¬ ctk s.rw 4 s.m < s.N
  · rw [if_pos z, if_pos z]; rfl
  · rw [if_neg z, if_neg z]; rfl
theorem p_R {t : Nat → Nat} {n : Nat} {s : St} : lnR t n s = bnd (pR t n s) (fn2 t n s) := by
  unfold lnR pR
  by_cases z : tW t n s.p 4 = true
  · rw [if_pos z, if_pos z]; exact p_T
  rw [if_neg z, if_neg z]
  by_cases z : tW t n s.p 6 = true
  · rw [if_pos z, if_pos z]; exact p_D
  rw [if_neg z, if_neg z]
  by_cases z : tW t n s.p 9 = true
  · rw [if_pos z, if_pos z]; exact p_C
  rw [if_neg z, if_neg z]
  by_cases z : tW t n s.p 10 = true
  · rw [if_pos z, if_pos z]; exact p_E
  rw [if_neg z, if_neg z]
  by_cases z : tW t n s.p 11 = true
  · rw [if_pos z, if_pos z]; exact p_E
  rw [if_neg z, if_neg z]
  by_cases z : tW t n s.p 12 = true
  · rw [if_pos z, if_pos z]; exact p_X
  rw [if_neg z, if_neg z]
  by_cases z : tW t n s.p 13 = true
  · rw [if_pos z, if_pos z]; exact p_Y
  rw [if_neg z, if_neg z]
  rfl
def qP (w f : Nat) (I A : mI) (B : mB) (t : Nat → Nat) (n : Nat) (s : St) (R : mR) (x : Except Fl (Rw × Nat)) : Prop := match x with
  | .ok x => ∀ I' A', MP w I' A' B t n s x.1 x.2 → fY w I A B I' A' B → R none I' A' B (pk w f)
  | .error e => ∀ I' A', ¬ nI e.1 = 0 → I' 43 33 = nI e.1 → I' 43 34 = nI e.2 → I' 43 21 = I 43 21 → I' 43 23 = I 43 23 → fY w I A B I' A' B → R none I' A' B (pk w f)
theorem tt_ltp {P N K : Nat} {rw : Nat → Rw} : ∀ k, (∀ i, i < k → (rw i).1 ≤ 6) → 0 < (zrn P N K rw k).nt → (zrn P N K rw k).tt ((zrn P N K rw k).nt - 1) = ltp rw k
  | 0, _, h => absurd h (Nat.lt_irrefl _)
  | k + 1, h6, h => by
    have ih := tt_ltp (P := P) (N := N) (K := K) (rw := rw) k (fun i hi => h6 i (by omega))
    have hk := h6 k (by omega)
    have h' : 0 < (zdo (zrn P N K rw k) (rw k)).nt := h
    show (zdo (zrn P N K rw k) (rw k)).tt ((zdo (zrn P N K rw k) (rw k)).nt - 1) = if (rw k).1 = 0 then (rw k).2.2.1.toNat else ltp rw k
    generalize zrn P N K rw k = a at ih h'
    generalize rw k = r at hk h'
    obtain ⟨q, x, y, z⟩ := r
    match q, h', hk with
    | 0, _, _ =>
      show zup a.tt a.nt y.toNat (a.nt + 1 - 1) = _
      rw [Nat.add_sub_cancel, zup_s]
      rfl
    | 1, h', _ => exact ih h'
    | 2, h', _ => exact ih h'
    | 3, h', _ => exact ih h'
    | 4, h', _ => exact ih h'
    | 5, h', _ =>
      have S := sr_rr (a := a) a.c
      have h2 : 0 < (zrr a a.c).nt := h'
      show (zrr a a.c).tt ((zrr a a.c).nt - 1) = _
      rw [S.nt] at h2
      rw [S.tt, S.nt]
      exact ih h2
    | _ + 6, h', _ => exact ih h'
theorem zrn_up {P N K : Nat} {rw : Nat → Rw} {m : Nat} {r : Rw} : ∀ k, k ≤ m → zrn P N K (zup rw m r) k = zrn P N K rw k
  | 0, _ => rfl
  | k + 1, h => by
    show zdo (zrn P N K (zup rw m r) k) (zup rw m r k) = zdo (zrn P N K rw k) (rw k)
    rw [zrn_up k (by omega), zup_n (by omega)]
theorem ack_ad {s : St} {r : Rw} {q : Nat} : ack (adr s r q) = zdo (ack s) r := by
  show zdo (zrn s.P s.N s.K (zup s.rw s.m r) s.m) (zup s.rw s.m r s.m) = _
  rw [zrn_up s.m (Nat.le_refl _), zup_s]
  rfl
theorem ack_i {n : Nat} {s : St} (V : PV n s) (hL : 0 < s.L) : Inv s.P s.N s.K s.rw s.m (ack s) := by
  have l := V.l hL
  exact iv_run l.2.2.1 l.2.2.2.2.1 l.2.2.2.2.2.1 l.2.2.2.2.2.2 V.v s.m (Nat.le_refl _)
theorem ack_ok {n : Nat} {s : St} {r : Rw} {q : Nat} (V : PV n s) (hL : 0 < s.L) (V2 : PV n (adr s r q)) : Ok (ack s) r := by
  have l := V.l hL
  have J := iv_run l.2.2.1 l.2.2.2.2.1 l.2.2.2.2.2.1 l.2.2.2.2.2.2 V2.v s.m (Nat.le_succ _)
  have g := (iv_ok J (V2.v s.m (Nat.lt_succ_self _))).1
  have e1 : zrn s.P s.N s.K (adr s r q).rw s.m = ack s := zrn_up s.m (Nat.le_refl _)
  have e2 : (adr s r q).rw s.m = r := zup_s
  rw [e1, e2] at g
  exact g
theorem nI_any (x : Int32) : ∃ k : Nat, x = nI k := by
  refine ⟨x.toUInt32.toNat, ?_⟩
  show x = Int32.ofNat _
  apply Int32.toBitVec_inj.mp
  simp
/-- whatever the store holds, an account is there -/
theorem MR.any {w : Nat} {I A : mI} {B : mB} (hw : ash w = some (0, 606)) (w5 : w = 44 ∨ w = 45) {P N K : Nat} (hP : A w 0 = nI P) (hN : A w 1 = nI N) (hK : 0 < N → A w 2 = nI K) (h21 : I 43 21 = -1) (h23 : I 43 23 = -1) : ∃ b, MR b w I A B ∧ b.P = P ∧ b.N = N ∧ b.K = K ∧ b.ti = none ∧ b.fo = none := by
  have e : ∀ x : Int32, x = nI (Classical.choose (nI_any x)) := fun x => Classical.choose_spec (nI_any x)
  refine ⟨Ac.mk P N K (Classical.choose (nI_any (I 43 20))) (Classical.choose (nI_any (I 43 19))) (Classical.choose (nI_any (I 43 7))) (Classical.choose (nI_any (I 43 13))) (fun j => Classical.choose (nI_any (A 54 j))) (fun j => Classical.choose (nI_any (A 56 j))) (fun j => Classical.choose (nI_any (A 57 j))) (fun j => (B 55 j).toInt) (fun j => A 58 j) (fun j => Classical.choose (nI_any (A 48 j))) (fun j => Classical.choose (nI_any (A 49 j))) (fun j => Classical.choose (nI_any (A 50 j))) (fun j => Classical.choose (nI_any (A 51 j))) (fun j => Classical.choose (nI_any (A 52 j))) (fun j => Classical.choose (nI_any (A 53 j))) none 0 none, ?_, rfl, rfl, rfl, rfl, rfl⟩
  exact MR.mk hw w5 hP hN hK (e _) (fun t _ => e _) (fun t _ => e _) (fun t _ => e _) (e _) (fun t _ => e _) (fun t _ => e _) (fun t _ => e _) (e _) (fun t _ => e _) (fun t _ => (Int64.ofInt_toInt _).symm) (fun t _ => e _) (fun t _ => e _) (fun t _ => rfl) (e _) h21 (fun z => absurd rfl z) h23
