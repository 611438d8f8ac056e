/-! a text, line by line -/
abbrev Fl : Type := Nat × Nat
def bnd {α β : Type} (x : Except Fl α) (k : α → Except Fl β) : Except Fl β := match x with
  | .error e => .error e
  | .ok a => k a
theorem bnd_ok {α β : Type} {x : Except Fl α} {k : α → Except Fl β} {a : α} (h : x = .ok a) : bnd x k = k a := by rw [h]; rfl
theorem bnd_er {α β : Type} {x : Except Fl α} {k : α → Except Fl β} {e : Fl} (h : x = .error e) : bnd x k = .error e := by rw [h]; rfl
def tkW (t : Nat → Nat) (n k p : Nat) : Except Fl Nat := if tW t n p k = true then .ok (tE t n p) else .error (1, tS t n p)
def tkN (t : Nat → Nat) (n lo hi p : Nat) : Except Fl (Nat × Nat) := if tK t n p = 2 then (if lo ≤ tN t n p ∧ tN t n p < hi then .ok (tN t n p, tE t n p) else .error (2, tS t n p)) else .error (1, tS t n p)
def tkS (t : Nat → Nat) (n p : Nat) : Except Fl Nat := if tK t n p = 3 then .ok (tE t n p) else .error (1, tS t n p)
abbrev St : Type := (Nat) × (Nat) × (Nat) × (Nat) × (Nat) × (Nat) × (Nat → Rw)
abbrev St.L (self : St) : Nat := self.1
abbrev St.P (self : St) : Nat := self.2.1
abbrev St.N (self : St) : Nat := self.2.2.1
abbrev St.K (self : St) : Nat := self.2.2.2.1
abbrev St.m (self : St) : Nat := self.2.2.2.2.1
abbrev St.p (self : St) : Nat := self.2.2.2.2.2.1
abbrev St.rw (self : St) : Nat → Rw := self.2.2.2.2.2.2
abbrev St.mk (pL : Nat) (pP : Nat) (pN : Nat) (pK : Nat) (pm : Nat) (pp : Nat) (prw : Nat → Rw) : St := (pL, pP, pN, pK, pm, pp, prw)
/-- the top of the last tier -/
def ltp (rw : Nat → Rw) : Nat → Nat
  | 0 => 0
  | k + 1 => if (rw k).1 = 0 then (rw k).2.2.1.toNat else ltp rw k
def adr (s : St) (r : Rw) (p : Nat) : St := (St.mk (s.L + 1) (St.P s) (St.N s) (St.K s) (s.m + 1) (p) (zup s.rw s.m r))
def fin (t : Nat → Nat) (n : Nat) (s : St) (r : Rw) (p : Nat) : Except Fl St := bnd (tkS t n p) (fun q => .ok (adr s r q))
def lnF (t : Nat → Nat) (n : Nat) (s : St) : Except Fl St :=
  bnd (tkW t n 0 s.p) (fun p1 => bnd (tkW t n 1 p1) (fun p2 => bnd (tkN t n 2 41 p2) (fun P => bnd (tkW t n 2 P.2) (fun p4 => bnd (tkN t n 1 9 p4) (fun N => bnd (tkW t n 3 N.2) (fun p6 => bnd (tkN t n 1 5 p6) (fun K => bnd (tkS t n K.2) (fun p8 => .ok (St.mk 1 P.1 N.1 K.1 0 p8 s.rw)))))))))
def lnT (t : Nat → Nat) (n : Nat) (s : St) : Except Fl St :=
  if ctk s.rw 0 s.m = 4 ∨ (0 < ctk s.rw 0 s.m ∧ ltp s.rw s.m = 0) then .error (3, tS t n s.p)
  else bnd (tkN t n 0 5001 (tE t n s.p)) (fun x => if tW t n x.2 5 = true then bnd (tkN t n (ltp s.rw s.m + 1) 100000 (tE t n x.2)) (fun y => fin t n s (0, x.1, (y.1 : Nat), 0) y.2) else fin t n s (0, x.1, 0, 0) x.2)
def lnD (t : Nat → Nat) (n : Nat) (s : St) : Except Fl St :=
  if 0 < ctk s.rw 1 s.m then .error (3, tS t n s.p)
  else bnd (tkN t n 0 5001 (tE t n s.p)) (fun x => bnd (tkW t n 7 x.2) (fun q1 => bnd (tkN t n 0 5001 q1) (fun y => bnd (tkW t n 8 y.2) (fun q2 => bnd (tkN t n 0 100000 q2) (fun z => fin t n s (1, x.1, (y.1 : Nat), z.1) z.2)))))
def whc (t : Nat → Nat) (n : Nat) (s : St) (p : Nat) : Except Fl (Nat × Nat) :=
  if tW t n p 4 = true then tkN t n 0 (ctk s.rw 0 s.m) (tE t n p) else if tW t n p 6 = true then .ok (4, tE t n p) else if tW t n p 7 = true then .ok (5, tE t n p) else bnd (tkW t n 8 p) (fun q => .ok (6, q))
def lnC (t : Nat → Nat) (n : Nat) (s : St) : Except Fl St :=
  if ctk s.rw 2 s.m = 12 then .error (3, tS t n s.p)
  else bnd (tkN t n 0 (s.P * s.N) (tE t n s.p)) (fun d => bnd (whc t n s d.2) (fun q => bnd (tkN t n 0 (if q.1 = 6 then 100000 else 5001) q.2) (fun v => fin t n s (2, d.1, (q.1 : Nat), v.1) v.2)))
def lnE (t : Nat → Nat) (n : Nat) (s : St) (sg : Int) : Except Fl St :=
  if ctk s.rw 3 s.m = 30 ∨ ¬ ctk s.rw 4 s.m < s.N then .error (3, tS t n s.p)
  else bnd (tkN t n 0 (s.P * s.N) (tE t n s.p)) (fun d => bnd (tkN t n 1 100000 d.2) (fun x => fin t n s (3, d.1, sg * (x.1 : Nat), 0) x.2))
def lnX (t : Nat → Nat) (n : Nat) (s : St) : Except Fl St :=
  if ¬ ctk s.rw 4 s.m < s.N then .error (3, tS t n s.p) else fin t n s (4, 0, 0, 0) (tE t n s.p)
def lnY (t : Nat → Nat) (n : Nat) (s : St) : Except Fl St :=
  if ctk s.rw 5 s.m = 6 ∨ ¬ ctk s.rw 4 s.m < s.N then .error (3, tS t n s.p) else fin t n s (5, 0, 0, 0) (tE t n s.p)
def lnR (t : Nat → Nat) (n : Nat) (s : St) : Except Fl St :=
  if tW t n s.p 4 = true then lnT t n s else if tW t n s.p 6 = true then lnD t n s else if tW t n s.p 9 = true then lnC t n s else if tW t n s.p 10 = true then lnE t n s 1 else if tW t n s.p 11 = true then lnE t n s (-1) else if tW t n s.p 12 = true then lnX t n s else if tW t n s.p 13 = true then lnY t n s else .error (1, tS t n s.p)
def lnA (t : Nat → Nat) (n : Nat) (s : St) : Except Fl St := if s.L = 0 then lnF t n s else lnR t n s
def rdn (t : Nat → Nat) (n : Nat) : Nat → St → Except Fl St
  | 0, s => .ok s
  | k + 1, s => if tK t n s.p = 0 then .ok s else bnd (lnA t n s) (rdn t n k)
/-- what stands while a text is read -/
def PV (n : Nat) (s : St) : Prop :=
  (s.p ≤ n) ∧
  (s.L = 0 → s.m = 0) ∧
  (0 < s.L → s.L = s.m + 1 ∧ 2 ≤ s.P ∧ s.P ≤ 40 ∧ 1 ≤ s.N ∧ s.N ≤ 8 ∧ 1 ≤ s.K ∧ s.K ≤ 4) ∧
  (ctk s.rw 0 s.m ≤ 4) ∧
  (ctk s.rw 1 s.m ≤ 1) ∧
  (ctk s.rw 2 s.m ≤ 12) ∧
  (ctk s.rw 3 s.m ≤ 30) ∧
  (ctk s.rw 4 s.m ≤ s.N ∨ s.m = 0) ∧
  (ctk s.rw 5 s.m ≤ 6) ∧
  (ctk s.rw 6 s.m = 0) ∧
  (ctk s.rw 0 s.m + ctk s.rw 1 s.m + ctk s.rw 2 s.m + ctk s.rw 3 s.m + ctk s.rw 4 s.m + ctk s.rw 5 s.m = s.m) ∧
  (ltp s.rw s.m ≤ 99999) ∧
  (ctk s.rw 0 s.m = 0 → ltp s.rw s.m = 0) ∧
  (∀ j, j < s.m → (s.rw j).1 = 0 → (s.rw j).2.2.1.toNat ≤ ltp s.rw s.m ∨ ltp s.rw s.m = 0) ∧
  (∀ j, j < s.m → (s.rw j).1 = 0 → ltp s.rw s.m ≠ 0 → 0 < (s.rw j).2.2.1) ∧
  (∀ i, i < s.m → Vr s.P s.N s.rw i)
theorem PV.p {n : Nat} {s : St} (self : PV n s) : s.p ≤ n := self.1
theorem PV.z {n : Nat} {s : St} (self : PV n s) : s.L = 0 → s.m = 0 := self.2.1
theorem PV.l {n : Nat} {s : St} (self : PV n s) : 0 < s.L → s.L = s.m + 1 ∧ 2 ≤ s.P ∧ s.P ≤ 40 ∧ 1 ≤ s.N ∧ s.N ≤ 8 ∧ 1 ≤ s.K ∧ s.K ≤ 4 := self.2.2.1
theorem PV.c0 {n : Nat} {s : St} (self : PV n s) : ctk s.rw 0 s.m ≤ 4 := self.2.2.2.1
theorem PV.c1 {n : Nat} {s : St} (self : PV n s) : ctk s.rw 1 s.m ≤ 1 := self.2.2.2.2.1
theorem PV.c2 {n : Nat} {s : St} (self : PV n s) : ctk s.rw 2 s.m ≤ 12 := self.2.2.2.2.2.1
theorem PV.c3 {n : Nat} {s : St} (self : PV n s) : ctk s.rw 3 s.m ≤ 30 := self.2.2.2.2.2.2.1
theorem PV.c4 {n : Nat} {s : St} (self : PV n s) : ctk s.rw 4 s.m ≤ s.N ∨ s.m = 0 := self.2.2.2.2.2.2.2.1
theorem PV.c5 {n : Nat} {s : St} (self : PV n s) : ctk s.rw 5 s.m ≤ 6 := self.2.2.2.2.2.2.2.2.1
theorem PV.c6 {n : Nat} {s : St} (self : PV n s) : ctk s.rw 6 s.m = 0 := self.2.2.2.2.2.2.2.2.2.1
theorem PV.su {n : Nat} {s : St} (self : PV n s) : ctk s.rw 0 s.m + ctk s.rw 1 s.m + ctk s.rw 2 s.m + ctk s.rw 3 s.m + ctk s.rw 4 s.m + ctk s.rw 5 s.m = s.m := self.2.2.2.2.2.2.2.2.2.2.1
theorem PV.lt {n : Nat} {s : St} (self : PV n s) : ltp s.rw s.m ≤ 99999 := self.2.2.2.2.2.2.2.2.2.2.2.1
theorem PV.l0 {n : Nat} {s : St} (self : PV n s) : ctk s.rw 0 s.m = 0 → ltp s.rw s.m = 0 := self.2.2.2.2.2.2.2.2.2.2.2.2.1
theorem PV.ls {n : Nat} {s : St} (self : PV n s) : ∀ j, j < s.m → (s.rw j).1 = 0 → (s.rw j).2.2.1.toNat ≤ ltp s.rw s.m ∨ ltp s.rw s.m = 0 := self.2.2.2.2.2.2.2.2.2.2.2.2.2.1
theorem PV.lz {n : Nat} {s : St} (self : PV n s) : ∀ j, j < s.m → (s.rw j).1 = 0 → ltp s.rw s.m ≠ 0 → 0 < (s.rw j).2.2.1 := self.2.2.2.2.2.2.2.2.2.2.2.2.2.2.1
theorem PV.v {n : Nat} {s : St} (self : PV n s) : ∀ i, i < s.m → Vr s.P s.N s.rw i := self.2.2.2.2.2.2.2.2.2.2.2.2.2.2.2
theorem PV.mk {n : Nat} {s : St} (h_p : s.p ≤ n) (h_z : s.L = 0 → s.m = 0) (h_l : 0 < s.L → s.L = s.m + 1 ∧ 2 ≤ s.P ∧ s.P ≤ 40 ∧ 1 ≤ s.N ∧ s.N ≤ 8 ∧ 1 ≤ s.K ∧ s.K ≤ 4) (h_c0 : ctk s.rw 0 s.m ≤ 4) (h_c1 : ctk s.rw 1 s.m ≤ 1) (h_c2 : ctk s.rw 2 s.m ≤ 12) (h_c3 : ctk s.rw 3 s.m ≤ 30) (h_c4 : ctk s.rw 4 s.m ≤ s.N ∨ s.m = 0) (h_c5 : ctk s.rw 5 s.m ≤ 6) (h_c6 : ctk s.rw 6 s.m = 0) (h_su : ctk s.rw 0 s.m + ctk s.rw 1 s.m + ctk s.rw 2 s.m + ctk s.rw 3 s.m + ctk s.rw 4 s.m + ctk s.rw 5 s.m = s.m) (h_lt : ltp s.rw s.m ≤ 99999) (h_l0 : ctk s.rw 0 s.m = 0 → ltp s.rw s.m = 0) (h_ls : ∀ j, j < s.m → (s.rw j).1 = 0 → (s.rw j).2.2.1.toNat ≤ ltp s.rw s.m ∨ ltp s.rw s.m = 0) (h_lz : ∀ j, j < s.m → (s.rw j).1 = 0 → ltp s.rw s.m ≠ 0 → 0 < (s.rw j).2.2.1) (h_v : ∀ i, i < s.m → Vr s.P s.N s.rw i) : PV n s := ⟨h_p, h_z, h_l, h_c0, h_c1, h_c2, h_c3, h_c4, h_c5, h_c6, h_su, h_lt, h_l0, h_ls, h_lz, h_v⟩
theorem ctk_up {rw : Nat → Rw} {m q : Nat} {r : Rw} : ∀ k, k ≤ m → ctk (zup rw m r) q k = ctk rw q k := fun k hk => ct_congr (fun i hi => by rw [zup_n (by omega)])
theorem ctk_us {rw : Nat → Rw} {m q : Nat} {r : Rw} : ctk (zup rw m r) q (m + 1) = ctk rw q m + (if r.1 = q then 1 else 0) := by rw [ctk_s, ctk_up m (Nat.le_refl _), zup_s]
theorem vr_up {P N : Nat} {rw : Nat → Rw} {m i : Nat} {r : Rw} (hi : i < m) (V : Vr P N rw i) : Vr P N (zup rw m r) i := by
  have e : zup rw m r i = rw i := zup_n (by omega)
  have c := fun q => ctk_up (rw := rw) (m := m) (q := q) (r := r) i (by omega)
  have c' := fun q => ctk_up (rw := rw) (m := m) (q := q) (r := r) (i + 1) (by omega)
  refine ⟨?_, ?_, ?_, ?_, ?_, ?_, ?_, ?_, ?_, ?_⟩
  · rw [e]; exact V.k6
  · rw [e, c]; exact V.t0
  · rw [e]; intro h j hj; rw [zup_n (show j ≠ m by omega)]; exact V.t1 h j hj
  · rw [e]; exact V.d0
  · rw [e, c, c]; exact V.c0
  · rw [e]; exact V.e0
  · rw [e, c]; exact V.op
  · rw [e, c]; intro h
    refine ⟨(V.r0 h).1, fun j hj => ?_⟩
    rw [zup_n (show j ≠ m by omega)]
    exact (V.r0 h).2 j hj
  · rw [c', c', c']; exact V.wt
  · rw [c', c']; exact V.pc
theorem ltp_up {rw : Nat → Rw} {m : Nat} {r : Rw} : ∀ k, k ≤ m → ltp (zup rw m r) k = ltp rw k
  | 0, _ => rfl
  | k + 1, h => by
    rw [ltp, ltp, zup_n (by omega), ltp_up k (by omega)]
theorem ltp_us {rw : Nat → Rw} {m : Nat} {r : Rw} : ltp (zup rw m r) (m + 1) = if r.1 = 0 then r.2.2.1.toNat else ltp rw m := by rw [ltp, zup_s, ltp_up m (Nat.le_refl _)]
