/-! acts: a refusal, or a row more -/
def ac_pay (a : Ac) (fl : Bool) (d m : Int32) (sg : Int) : Sum Int32 Rw := match ixN (zD a) d with
  | none => .inl (-2)
  | some d0 => if (1 : Int32) ≤ m ∧ m ≤ 99999 then (if a.c < a.N ∧ fl = false then .inr (3, d0, sg * m.toInt, 0) else .inl (-5)) else .inl (-2)
def ac_reverse (a : Ac) (fl : Bool) (e : Int32) : Sum Int32 Rw := match ixN a.n e with
  | none => .inl (-2)
  | some e0 => if a.so e0 = 0 ∧ ztn a e0 = false ∧ a.c < a.N ∧ fl = false then .inr (6, ct (fun j => decide (a.so j = 0)) e0, 0, 0) else .inl (-5)
def ac_change (a : Ac) (fl : Bool) (d q v : Int32) : Sum Int32 Rw := match ixN (zD a) d with
  | none => .inl (-2)
  | some d0 => match ixN 7 q with
    | none => .inl (-2)
    | some q0 => if q0 < a.nt ∨ 4 ≤ q0 then (match ixN (if q0 = 6 then 100000 else 5001) v with
      | none => .inl (-2)
      | some v0 => if fl = false then .inr (2, d0, q0, v0) else .inl (-5)) else .inl (-2)
def ac_close (a : Ac) (bk fl : Bool) : Sum Int32 Rw := match bk with
  | false => .inl (-2)
  | true => if a.c < a.N ∧ fl = false then .inr (4, 0, 0, 0) else .inl (-5)
def ac_rerun (a : Ac) (bk fl : Bool) : Sum Int32 Rw := match bk with
  | false => .inl (-2)
  | true => if a.c < a.N ∧ fl = false then .inr (5, 0, 0, 0) else .inl (-5)
/-- what an act of the reference leaves as it was -/
def fA (w : Nat) (I A : mI) (B : mB) (I' A' : mI) (B' : mB) : Prop :=
  (∀ k, k ≤ 42 ∨ 65 ≤ k → I' k = I k ∧ A' k = A k ∧ B' k = B k) ∧
  (∀ j, j ≠ 7 → j ≠ 9 → j ≠ 13 → j ≠ 19 → j ≠ 20 → j ≠ 21 → j ≠ 22 → j ≠ 23 → I' 43 j = I 43 j) ∧
  (∀ r, r ≠ w → r = 44 ∨ r = 45 ∨ r = 46 ∨ r = 47 ∨ r = 60 → A' r = A r)
theorem fA.out {w : Nat} {I A : mI} {B : mB} {I' A' : mI} {B' : mB} (self : fA w I A B I' A' B') : ∀ k, k ≤ 42 ∨ 65 ≤ k → I' k = I k ∧ A' k = A k ∧ B' k = B k := self.1
theorem fA.i43 {w : Nat} {I A : mI} {B : mB} {I' A' : mI} {B' : mB} (self : fA w I A B I' A' B') : ∀ j, j ≠ 7 → j ≠ 9 → j ≠ 13 → j ≠ 19 → j ≠ 20 → j ≠ 21 → j ≠ 22 → j ≠ 23 → I' 43 j = I 43 j := self.2.1
theorem fA.row {w : Nat} {I A : mI} {B : mB} {I' A' : mI} {B' : mB} (self : fA w I A B I' A' B') : ∀ r, r ≠ w → r = 44 ∨ r = 45 ∨ r = 46 ∨ r = 47 ∨ r = 60 → A' r = A r := self.2.2
theorem fA.mk {w : Nat} {I A : mI} {B : mB} {I' A' : mI} {B' : mB} (h_out : ∀ k, k ≤ 42 ∨ 65 ≤ k → I' k = I k ∧ A' k = A k ∧ B' k = B k) (h_i43 : ∀ j, j ≠ 7 → j ≠ 9 → j ≠ 13 → j ≠ 19 → j ≠ 20 → j ≠ 21 → j ≠ 22 → j ≠ 23 → I' 43 j = I 43 j) (h_row : ∀ r, r ≠ w → r = 44 ∨ r = 45 ∨ r = 46 ∨ r = 47 ∨ r = 60 → A' r = A r) : fA w I A B I' A' B' := ⟨h_out, h_i43, h_row⟩
theorem fM.fA {w : Nat} {I A : mI} {B : mB} {I' A' : mI} {B' : mB} (h : fM I A B I' A' B') : fA w I A B I' A' B' := ⟨h.out, h.i43, fun r _ hr => h.row r hr⟩
theorem fA.trans {w : Nat} {I A : mI} {B : mB} {I' A' : mI} {B' : mB} {I2 A2 : mI} {B2 : mB} (h : fA w I A B I' A' B') (h2 : fA w I' A' B' I2 A2 B2) : fA w I A B I2 A2 B2 :=
  ⟨fun k hk => ⟨(h2.out k hk).1.trans (h.out k hk).1, (h2.out k hk).2.1.trans (h.out k hk).2.1, (h2.out k hk).2.2.trans (h.out k hk).2.2⟩,
   fun j a1 a2 a3 a4 a5 a6 a7 a8 => (h2.i43 j a1 a2 a3 a4 a5 a6 a7 a8).trans (h.i43 j a1 a2 a3 a4 a5 a6 a7 a8), fun r hn hr => (h2.row r hn hr).trans (h.row r hn hr)⟩
def qA (a : Ac) (w f : Nat) (I A : mI) (B : mB) (L T m : Nat) (rw : Nat → Rw) (R : mR) (o : Sum Int32 Rw) : Prop := match o with
  | .inl v => qM a w f I A B R (some (.int v))
  | .inr r => Ok a r → ∀ I' A' B', MR (zdo a r) w I' A' B' → WdR w A' L T (m + 1) (zup rw m r) → fA w I A B I' A' B' → R (some (.int (zrv a r))) I' A' B' (pk w f)
theorem MR.fw {a : Ac} {w : Nat} {I A A' : mI} {B : mB} (M : MR a w I A B) (h : ∀ q, q ≠ w → A' q = A q) (h3 : ∀ j, j < 3 → A' w j = A w j) : MR a w I A' B := by
  have h5 := M.w5
  have hq : ∀ q, 46 ≤ q → A' q = A q := fun q hq => h q (by omega)
  refine MR.mk M.hw M.w5 ?_ ?_ ?_ M.hnt ?_ ?_ ?_ M.hnc ?_ ?_ ?_ M.hn ?_ M.ham ?_ ?_ ?_ M.hc M.hti M.htb M.hfo
  · rw [h3 0 (by decide)]; exact M.hP
  · rw [h3 1 (by decide)]; exact M.hN
  · rw [h3 2 (by decide)]; exact M.hK
  · rw [hq 48 (by decide)]; exact M.htr
  · rw [hq 49 (by decide)]; exact M.htt
  · rw [hq 50 (by decide)]; exact M.hdb
  · rw [hq 51 (by decide)]; exact M.hcd
  · rw [hq 52 (by decide)]; exact M.hco
  · rw [hq 53 (by decide)]; exact M.hcv
  · rw [hq 54 (by decide)]; exact M.hso
  · rw [hq 56 (by decide)]; exact M.hva
  · rw [hq 57 (by decide)]; exact M.hpg
  · rw [hq 58 (by decide)]; exact M.hog
/-- a row more in the reference's world -/
def wad (A : mI) (w m : Nat) (v0 v1 v2 v3 v4 : Int32) : mI := up2 (up2 (up2 (up2 (up2 (up2 A w (6 + 5 * m) v0) w (6 + 5 * m + 1) v1) w (6 + 5 * m + 2) v2) w (6 + 5 * m + 3) v3) w (6 + 5 * m + 4) v4) w 5 (nI (m + 1))
theorem wad_q {A : mI} {w m q : Nat} {v0 v1 v2 v3 v4 : Int32} (h : q ≠ w) : wad A w m v0 v1 v2 v3 v4 q = A q := by
  unfold wad
  rw [up2_r h, up2_r h, up2_r h, up2_r h, up2_r h, up2_r h]
theorem wad_o {A : mI} {w m j : Nat} {v0 v1 v2 v3 v4 : Int32} (h5 : j ≠ 5) (h : j < 6 + 5 * m) : wad A w m v0 v1 v2 v3 v4 w j = A w j := by
  unfold wad
  rw [up2_m h5, up2_m (by omega), up2_m (by omega), up2_m (by omega), up2_m (by omega), up2_m (by omega)]
theorem wad_n {A : mI} {w m : Nat} {v0 v1 v2 v3 v4 : Int32} : wad A w m v0 v1 v2 v3 v4 w (6 + 5 * m) = v0 ∧ wad A w m v0 v1 v2 v3 v4 w (6 + 5 * m + 1) = v1 ∧ wad A w m v0 v1 v2 v3 v4 w (6 + 5 * m + 2) = v2 ∧ wad A w m v0 v1 v2 v3 v4 w (6 + 5 * m + 3) = v3 := by
  unfold wad
  refine ⟨?_, ?_, ?_, ?_⟩
  · rw [up2_m (by omega), up2_m (by omega), up2_m (by omega), up2_m (by omega), up2_m (by omega), up2_s]
  · rw [up2_m (by omega), up2_m (by omega), up2_m (by omega), up2_m (by omega), up2_s]
  · rw [up2_m (by omega), up2_m (by omega), up2_m (by omega), up2_s]
  · rw [up2_m (by omega), up2_m (by omega), up2_s]
theorem WdR.ad {w : Nat} {A : mI} {L T m : Nat} {rw : Nat → Rw} (W : WdR w A L T m rw) {r : Rw} {v0 v1 v2 v3 v4 : Int32} (h0 : v0 = nI r.1) (h1 : v1 = nI r.2.1) (h2 : v2 = zN r.2.2.1) (h3 : v3 = nI r.2.2.2) : WdR w (wad A w m v0 v1 v2 v3 v4) L T (m + 1) (zup rw m r) := by
  refine ⟨?_, ?_, ?_, fun k hk => ?_⟩
  · rw [wad_o (by decide) (by omega)]; exact W.h3
  · rw [wad_o (by decide) (by omega)]; exact W.h4
  · unfold wad
    exact up2_s
  · by_cases e : k = m
    · subst e
      rw [zup_s]
      obtain ⟨g0, g1, g2, g3⟩ := wad_n (A := A) (w := w) (m := k) (v0 := v0) (v1 := v1) (v2 := v2) (v3 := v3) (v4 := v4)
      exact ⟨g0.trans h0, g1.trans h1, g2.trans h2, g3.trans h3⟩
    · rw [zup_n e]
      obtain ⟨g0, g1, g2, g3⟩ := W.hr k (by omega)
      exact ⟨(wad_o (by omega) (by omega)).trans g0, (wad_o (by omega) (by omega)).trans g1, (wad_o (by omega) (by omega)).trans g2, (wad_o (by omega) (by omega)).trans g3⟩
theorem fA.wd {w m : Nat} {I A : mI} {B : mB} {v0 v1 v2 v3 v4 : Int32} (h5 : w = 44 ∨ w = 45) : fA w I A B I (wad A w m v0 v1 v2 v3 v4) B := ⟨fun k hk => ⟨rfl, wad_q (by omega), rfl⟩, fun _ _ _ _ _ _ _ _ _ => rfl, fun r hn _ => wad_q hn⟩
theorem n_kd {q q' : Nat} (h : q ≠ q') {p : Prop} : q = q' → p := fun e => absurd e h
theorem ok_E {a : Ac} {x : Nat} {y : Int} (hn : a.n + 9 ≤ 480) (ho : a.c < a.N) (hx : x < a.P * a.N) (hy : -99999 ≤ y ∧ y ≤ 99999) : Ok a (3, x, y, 0) :=
  Ok.mk (show 3 ≤ 6 by omega) hn (n_kd (by simp)) (n_kd (by simp)) (n_kd (by simp)) (n_kd (by simp)) (fun _ => ⟨hx, hy⟩) (fun _ => ho) (n_kd (by simp))
theorem ok_L {a : Ac} (hn : a.n + 9 ≤ 480) (ho : a.c < a.N) : Ok a (4, 0, 0, 0) :=
  Ok.mk (show 4 ≤ 6 by omega) hn (n_kd (by simp)) (n_kd (by simp)) (n_kd (by simp)) (n_kd (by simp)) (n_kd (by simp)) (fun _ => ho) (n_kd (by simp))
theorem ok_R {a : Ac} (hn : a.n + 9 ≤ 480) (ho : a.c < a.N) : Ok a (5, 0, 0, 0) :=
  Ok.mk (show 5 ≤ 6 by omega) hn (n_kd (by simp)) (n_kd (by simp)) (n_kd (by simp)) (n_kd (by simp)) (n_kd (by simp)) (fun _ => ho) (n_kd (by simp))
theorem ok_B {a : Ac} {x : Nat} (hn : a.n + 9 ≤ 480) (ho : a.c < a.N) (hx : x < ct (fun j => decide (a.so j = 0)) a.n) : Ok a (6, x, 0, 0) :=
  Ok.mk (show 6 ≤ 6 by omega) hn (n_kd (by simp)) (n_kd (by simp)) (n_kd (by simp)) (n_kd (by simp)) (n_kd (by simp)) (fun _ => ho) (fun _ => hx)
theorem ok_C {a : Ac} {x q v : Nat} (hn : a.n + 9 ≤ 480) (hc : a.nc < 32) (hx : x < a.P * a.N) (hq : q < a.nt ∨ 4 ≤ q) (hq6 : q < 7) (hv : v < (if q = 6 then 100000 else 5001)) : Ok a (2, x, (q : Int), v) :=
  Ok.mk (show 2 ≤ 6 by omega) hn (n_kd (by simp)) (n_kd (by simp)) (n_kd (by simp)) (fun _ => ⟨hc, hx, by show (0 : Int) ≤ q; omega, by show (q : Int) < a.nt ∨ 4 ≤ (q : Int) ∧ (q : Int) ≤ 6; omega, by show v ≤ 99999; split at hv <;> omega, fun h => by
    have h' : (q : Int) ≠ 6 := h
    show v ≤ 5000
    rw [if_neg (by omega)] at hv
    omega⟩) (n_kd (by simp)) (fun h => absurd h (by show ¬ 3 ≤ 2; omega)) (n_kd (by simp))
theorem ct_so {a : Ac} {e : Nat} (he : e < a.n) (h : a.so e = 0) : ct (fun j => decide (a.so j = 0)) e < ct (fun j => decide (a.so j = 0)) a.n := by
  have e1 : ct (fun j => decide (a.so j = 0)) (e + 1) = ct (fun j => decide (a.so j = 0)) e + 1 := ct_t (decide_eq_true h)
  have := ct_mono (c := fun j => decide (a.so j = 0)) a.n (show e + 1 ≤ a.n by omega)
  omega
