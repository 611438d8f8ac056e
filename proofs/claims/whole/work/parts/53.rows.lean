/-! rows of a script, and the account that they make -/
abbrev Rw : Type := Nat × Nat × Int × Nat
/-- the entry that is the k-th paid or drawn one -/
def zpe (a : Ac) (k : Nat) : Nat := (fd (fun j => decide (a.so j = 0 ∧ ct (fun j => decide (a.so j = 0)) j = k)) a.n).getD 0
def zdT (a : Ac) (x : Nat) (y : Int) : Ac := (Ac.mk (Ac.P a) (Ac.N a) (Ac.K a) (Ac.c a) (Ac.n a) (a.nt + 1) (Ac.nc a) (Ac.so a) (Ac.va a) (Ac.pg a) (Ac.am a) (Ac.og a) (zup a.tr a.nt x) (zup a.tt a.nt y.toNat) (Ac.db a) (Ac.cd a) (Ac.co a) (Ac.cv a) (Ac.ti a) (Ac.tb a) (Ac.fo a))
def zdD (a : Ac) (x : Nat) (y : Int) (z : Nat) : Ac := (Ac.mk (Ac.P a) (Ac.N a) (Ac.K a) (Ac.c a) (Ac.n a) (Ac.nt a) (Ac.nc a) (Ac.so a) (Ac.va a) (Ac.pg a) (Ac.am a) (Ac.og a) (Ac.tr a) (Ac.tt a) (fun k => if k = 0 then x else if k = 1 then y.toNat else z) (Ac.cd a) (Ac.co a) (Ac.cv a) (Ac.ti a) (Ac.tb a) (Ac.fo a))
def zdC (a : Ac) (x : Nat) (y : Int) (z : Nat) : Ac := (Ac.mk (Ac.P a) (Ac.N a) (Ac.K a) (Ac.c a) (Ac.n a) (Ac.nt a) (a.nc + 1) (Ac.so a) (Ac.va a) (Ac.pg a) (Ac.am a) (Ac.og a) (Ac.tr a) (Ac.tt a) (Ac.db a) (zup a.cd a.nc x) (zup a.co a.nc y.toNat) (zup a.cv a.nc z) (Ac.ti a) (Ac.tb a) (Ac.fo a))
def zdR (a : Ac) (x : Nat) : Ac := zen a 3 (-a.am (zpe a x)) (a.va (zpe a x)) (nI (zpe a x))
def zdo (a : Ac) (r : Rw) : Ac := match r with
  | (0, x, y, _) => zdT a x y
  | (1, x, y, z) => zdD a x y z
  | (2, x, y, z) => zdC a x y z
  | (3, x, y, _) => zpy a y x
  | (4, _, _, _) => zcl a
  | (5, _, _, _) => zrr a a.c
  | (_, x, _, _) => zdR a x
def zrv (a : Ac) (r : Rw) : Int32 := match r.1 with
  | 0 => 0
  | 1 => 0
  | 2 => nI (a.nc + 1)
  | 3 => nI a.n
  | 4 => nI a.c
  | 5 => nI ((zrr a a.c).n - a.n)
  | _ => nI a.n
/-- what a row asks of the account that it comes to -/
def Ok (a : Ac) (r : Rw) : Prop :=
  (r.1 ≤ 6) ∧
  (a.n + 9 ≤ 480) ∧
  (r.1 = 0 → a.nt < 4 ∧ r.2.1 ≤ 5000 ∧ 0 ≤ r.2.2.1 ∧ r.2.2.1 ≤ 99999) ∧
  (r.1 = 0 → 0 < a.nt → 0 < a.tt (a.nt - 1) ∧ (r.2.2.1 = 0 ∨ (a.tt (a.nt - 1) : Int) < r.2.2.1)) ∧
  (r.1 = 1 → r.2.1 ≤ 5000 ∧ 0 ≤ r.2.2.1 ∧ r.2.2.1 ≤ 5000 ∧ r.2.2.2 ≤ 99999) ∧
  (r.1 = 2 → a.nc < 32 ∧ r.2.1 < a.P * a.N ∧ 0 ≤ r.2.2.1 ∧ (r.2.2.1 < a.nt ∨ 4 ≤ r.2.2.1 ∧ r.2.2.1 ≤ 6) ∧ r.2.2.2 ≤ 99999 ∧ (r.2.2.1 ≠ 6 → r.2.2.2 ≤ 5000)) ∧
  (r.1 = 3 → r.2.1 < a.P * a.N ∧ -99999 ≤ r.2.2.1 ∧ r.2.2.1 ≤ 99999) ∧
  (3 ≤ r.1 → a.c < a.N) ∧
  (r.1 = 6 → r.2.1 < ct (fun j => decide (a.so j = 0)) a.n)
theorem Ok.k6 {a : Ac} {r : Rw} (self : Ok a r) : r.1 ≤ 6 := self.1
theorem Ok.n0 {a : Ac} {r : Rw} (self : Ok a r) : a.n + 9 ≤ 480 := self.2.1
theorem Ok.t0 {a : Ac} {r : Rw} (self : Ok a r) : r.1 = 0 → a.nt < 4 ∧ r.2.1 ≤ 5000 ∧ 0 ≤ r.2.2.1 ∧ r.2.2.1 ≤ 99999 := self.2.2.1
theorem Ok.t1 {a : Ac} {r : Rw} (self : Ok a r) : r.1 = 0 → 0 < a.nt → 0 < a.tt (a.nt - 1) ∧ (r.2.2.1 = 0 ∨ (a.tt (a.nt - 1) : Int) < r.2.2.1) := self.2.2.2.1
theorem Ok.d0 {a : Ac} {r : Rw} (self : Ok a r) : r.1 = 1 → r.2.1 ≤ 5000 ∧ 0 ≤ r.2.2.1 ∧ r.2.2.1 ≤ 5000 ∧ r.2.2.2 ≤ 99999 := self.2.2.2.2.1
theorem Ok.c0 {a : Ac} {r : Rw} (self : Ok a r) : r.1 = 2 → a.nc < 32 ∧ r.2.1 < a.P * a.N ∧ 0 ≤ r.2.2.1 ∧ (r.2.2.1 < a.nt ∨ 4 ≤ r.2.2.1 ∧ r.2.2.1 ≤ 6) ∧ r.2.2.2 ≤ 99999 ∧ (r.2.2.1 ≠ 6 → r.2.2.2 ≤ 5000) := self.2.2.2.2.2.1
theorem Ok.e0 {a : Ac} {r : Rw} (self : Ok a r) : r.1 = 3 → r.2.1 < a.P * a.N ∧ -99999 ≤ r.2.2.1 ∧ r.2.2.1 ≤ 99999 := self.2.2.2.2.2.2.1
theorem Ok.op {a : Ac} {r : Rw} (self : Ok a r) : 3 ≤ r.1 → a.c < a.N := self.2.2.2.2.2.2.2.1
theorem Ok.r0 {a : Ac} {r : Rw} (self : Ok a r) : r.1 = 6 → r.2.1 < ct (fun j => decide (a.so j = 0)) a.n := self.2.2.2.2.2.2.2.2
theorem Ok.mk {a : Ac} {r : Rw} (h_k6 : r.1 ≤ 6) (h_n0 : a.n + 9 ≤ 480) (h_t0 : r.1 = 0 → a.nt < 4 ∧ r.2.1 ≤ 5000 ∧ 0 ≤ r.2.2.1 ∧ r.2.2.1 ≤ 99999) (h_t1 : r.1 = 0 → 0 < a.nt → 0 < a.tt (a.nt - 1) ∧ (r.2.2.1 = 0 ∨ (a.tt (a.nt - 1) : Int) < r.2.2.1)) (h_d0 : r.1 = 1 → r.2.1 ≤ 5000 ∧ 0 ≤ r.2.2.1 ∧ r.2.2.1 ≤ 5000 ∧ r.2.2.2 ≤ 99999) (h_c0 : r.1 = 2 → a.nc < 32 ∧ r.2.1 < a.P * a.N ∧ 0 ≤ r.2.2.1 ∧ (r.2.2.1 < a.nt ∨ 4 ≤ r.2.2.1 ∧ r.2.2.1 ≤ 6) ∧ r.2.2.2 ≤ 99999 ∧ (r.2.2.1 ≠ 6 → r.2.2.2 ≤ 5000)) (h_e0 : r.1 = 3 → r.2.1 < a.P * a.N ∧ -99999 ≤ r.2.2.1 ∧ r.2.2.1 ≤ 99999) (h_op : 3 ≤ r.1 → a.c < a.N) (h_r0 : r.1 = 6 → r.2.1 < ct (fun j => decide (a.so j = 0)) a.n) : Ok a r := ⟨h_k6, h_n0, h_t0, h_t1, h_d0, h_c0, h_e0, h_op, h_r0⟩
theorem MR.dT {a : Ac} {w : Nat} {I A : mI} {B : mB} (M : MR a w I A B) {x : Nat} {y : Int} (hy : 0 ≤ y) {k1 k2 : Nat} {v1 v2 v3 : Int32} (e1 : k1 = a.nt) (e2 : k2 = a.nt) (h1 : v1 = nI x) (h2 : v2 = zN y) (h3 : v3 = nI (a.nt + 1)) : MR (zdT a x y) w (up2 I 43 7 v3) (up2 (up2 A 48 k1 v1) 49 k2 v2) B := by
  subst e1; subst e2; subst h1; subst h3
  have h5 := M.w5
  have ey : v2 = nI y.toNat := by rw [h2, nI_z]; congr 1; omega
  have hi : ∀ j, j ≠ 7 → up2 I 43 7 (nI (a.nt + 1)) 43 j = I 43 j := fun j hj => up2_m hj
  have hr : ∀ r, r ≠ 48 → r ≠ 49 → up2 (up2 A 48 a.nt (nI x)) 49 a.nt v2 r = A r := fun r h1 h2 => by rw [up2_r h2, up2_r h1]
  refine MR.mk M.hw M.w5 ?_ ?_ ?_ up2_s ?_ ?_ ?_ ?_ ?_ ?_ ?_ ?_ ?_ M.ham ?_ ?_ ?_ ?_ ?_ ?_ ?_
  · rw [hr w (by omega) (by omega)]; exact M.hP
  · rw [hr w (by omega) (by omega)]; exact M.hN
  · rw [hr w (by omega) (by omega)]; exact M.hK
  · rw [up2_r (show 48 ≠ 49 by decide)]
    exact up2_z (t := nI) M.htr rfl
  · exact up2_z (t := nI) (F := up2 A 48 a.nt (nI x)) (fun j hj => by rw [up2_n (show 49 ≠ 48 by decide)]; exact M.htt j hj) ey
  · rw [hr 50 (by decide) (by decide)]; exact M.hdb
  · rw [hi 13 (by decide)]; exact M.hnc
  · rw [hr 51 (by decide) (by decide)]; exact M.hcd
  · rw [hr 52 (by decide) (by decide)]; exact M.hco
  · rw [hr 53 (by decide) (by decide)]; exact M.hcv
  · rw [hi 19 (by decide)]; exact M.hn
  · rw [hr 54 (by decide) (by decide)]; exact M.hso
  · rw [hr 56 (by decide) (by decide)]; exact M.hva
  · rw [hr 57 (by decide) (by decide)]; exact M.hpg
  · rw [hr 58 (by decide) (by decide)]; exact M.hog
  · rw [hi 20 (by decide)]; exact M.hc
  · rw [hi 21 (by decide)]; exact M.hti
  · rw [hi 22 (by decide)]; exact M.htb
  · rw [hi 23 (by decide)]; exact M.hfo
theorem MR.dD {a : Ac} {w : Nat} {I A : mI} {B : mB} (M : MR a w I A B) {x : Nat} {y : Int} {z : Nat} (hy : 0 ≤ y) {v1 v2 v3 v4 : Int32} (h1 : v1 = nI x) (h2 : v2 = zN y) (h3 : v3 = nI z) : MR (zdD a x y z) w (up2 I 43 9 v4) (up2 (up2 (up2 A 50 0 v1) 50 1 v2) 50 2 v3) B := by
  subst h1; subst h3
  have h5 := M.w5
  have ey : v2 = nI y.toNat := by rw [h2, nI_z]; congr 1; omega
  have hi : ∀ j, j ≠ 9 → up2 I 43 9 v4 43 j = I 43 j := fun j hj => up2_m hj
  have hr : ∀ r, r ≠ 50 → up2 (up2 (up2 A 50 0 (nI x)) 50 1 v2) 50 2 (nI z) r = A r := fun r h1 => by rw [up2_r h1, up2_r h1, up2_r h1]
  refine MR.mk M.hw M.w5 ?_ ?_ ?_ ?_ ?_ ?_ ?_ ?_ ?_ ?_ ?_ ?_ ?_ M.ham ?_ ?_ ?_ ?_ ?_ ?_ ?_
  · rw [hr w (by omega)]; exact M.hP
  · rw [hr w (by omega)]; exact M.hN
  · rw [hr w (by omega)]; exact M.hK
  · rw [hi 7 (by decide)]; exact M.hnt
  · rw [hr 48 (by decide)]; exact M.htr
  · rw [hr 49 (by decide)]; exact M.htt
  · intro k hk
    have hk2 : k = 0 ∨ k = 1 ∨ k = 2 := by omega
    rcases hk2 with e | e | e <;> subst e
    · rw [up2_m (show 0 ≠ 2 by decide), up2_m (show 0 ≠ 1 by decide), up2_s]; rfl
    · rw [up2_m (show 1 ≠ 2 by decide), up2_s, ey]; rfl
    · rw [up2_s]; rfl
  · rw [hi 13 (by decide)]; exact M.hnc
  · rw [hr 51 (by decide)]; exact M.hcd
  · rw [hr 52 (by decide)]; exact M.hco
  · rw [hr 53 (by decide)]; exact M.hcv
  · rw [hi 19 (by decide)]; exact M.hn
  · rw [hr 54 (by decide)]; exact M.hso
  · rw [hr 56 (by decide)]; exact M.hva
  · rw [hr 57 (by decide)]; exact M.hpg
  · rw [hr 58 (by decide)]; exact M.hog
  · rw [hi 20 (by decide)]; exact M.hc
  · rw [hi 21 (by decide)]; exact M.hti
  · rw [hi 22 (by decide)]; exact M.htb
  · rw [hi 23 (by decide)]; exact M.hfo
theorem MR.dC {a : Ac} {w : Nat} {I A : mI} {B : mB} (M : MR a w I A B) {x : Nat} {y : Int} {z : Nat} (hy : 0 ≤ y) {k1 k2 k3 : Nat} {v1 v2 v3 v4 : Int32} (e1 : k1 = a.nc) (e2 : k2 = a.nc) (e3 : k3 = a.nc) (h1 : v1 = nI x) (h2 : v2 = zN y) (h3 : v3 = nI z) (h4 : v4 = nI (a.nc + 1)) : MR (zdC a x y z) w (up2 I 43 13 v4) (up2 (up2 (up2 A 51 k1 v1) 52 k2 v2) 53 k3 v3) B := by
  subst e1; subst e2; subst e3; subst h1; subst h3; subst h4
  have h5 := M.w5
  have ey : v2 = nI y.toNat := by rw [h2, nI_z]; congr 1; omega
  have hi : ∀ j, j ≠ 13 → up2 I 43 13 (nI (a.nc + 1)) 43 j = I 43 j := fun j hj => up2_m hj
  have hr : ∀ r, r ≠ 51 → r ≠ 52 → r ≠ 53 → up2 (up2 (up2 A 51 a.nc (nI x)) 52 a.nc v2) 53 a.nc (nI z) r = A r := fun r h1 h2 h3 => by rw [up2_r h3, up2_r h2, up2_r h1]
  refine MR.mk M.hw M.w5 ?_ ?_ ?_ ?_ ?_ ?_ ?_ up2_s ?_ ?_ ?_ ?_ ?_ M.ham ?_ ?_ ?_ ?_ ?_ ?_ ?_
  · rw [hr w (by omega) (by omega) (by omega)]; exact M.hP
  · rw [hr w (by omega) (by omega) (by omega)]; exact M.hN
  · rw [hr w (by omega) (by omega) (by omega)]; exact M.hK
  · rw [hi 7 (by decide)]; exact M.hnt
  · rw [hr 48 (by decide) (by decide) (by decide)]; exact M.htr
  · rw [hr 49 (by decide) (by decide) (by decide)]; exact M.htt
  · rw [hr 50 (by decide) (by decide) (by decide)]; exact M.hdb
  · rw [up2_r (show 51 ≠ 53 by decide), up2_r (show 51 ≠ 52 by decide)]
    exact up2_z (t := nI) M.hcd rfl
  · rw [up2_r (show 52 ≠ 53 by decide)]
    exact up2_z (t := nI) (F := up2 A 51 a.nc (nI x)) (fun j hj => by rw [up2_n (show 52 ≠ 51 by decide)]; exact M.hco j hj) ey
  · exact up2_z (t := nI) (F := up2 (up2 A 51 a.nc (nI x)) 52 a.nc v2) (fun j hj => by rw [up2_n (show 53 ≠ 52 by decide), up2_n (show 53 ≠ 51 by decide)]; exact M.hcv j hj) rfl
  · rw [hi 19 (by decide)]; exact M.hn
  · rw [hr 54 (by decide) (by decide) (by decide)]; exact M.hso
  · rw [hr 56 (by decide) (by decide) (by decide)]; exact M.hva
  · rw [hr 57 (by decide) (by decide) (by decide)]; exact M.hpg
  · rw [hr 58 (by decide) (by decide) (by decide)]; exact M.hog
  · rw [hi 20 (by decide)]; exact M.hc
  · rw [hi 21 (by decide)]; exact M.hti
  · rw [hi 22 (by decide)]; exact M.htb
  · rw [hi 23 (by decide)]; exact M.hfo
/-- the k-th paid or drawn one is there -/
theorem zpe_s {a : Ac} {k : Nat} : ∀ n, n ≤ a.n → k < ct (fun j => decide (a.so j = 0)) n → ∃ e, e < n ∧ a.so e = 0 ∧ ct (fun j => decide (a.so j = 0)) e = k
  | 0, _, h => by
    have h' : k < 0 := h
    omega
  | n + 1, hn, h => by
    have h' : k < ct (fun j => decide (a.so j = 0)) n + (if decide (a.so n = 0) = true then 1 else 0) := h
    by_cases z : k < ct (fun j => decide (a.so j = 0)) n
    · obtain ⟨e, h1, h2, h3⟩ := zpe_s n (by omega) z
      exact ⟨e, by omega, h2, h3⟩
    · by_cases y : a.so n = 0
      · rw [if_pos (decide_eq_true y)] at h'
        exact ⟨n, by omega, y, by omega⟩
      · rw [if_neg (by simpa using y)] at h'
        omega
theorem zpe_i {a : Ac} {k : Nat} (h : k < ct (fun j => decide (a.so j = 0)) a.n) : zpe a k < a.n ∧ a.so (zpe a k) = 0 ∧ ct (fun j => decide (a.so j = 0)) (zpe a k) = k := by
  obtain ⟨e, h1, h2, h3⟩ := zpe_s a.n (Nat.le_refl _) h
  unfold zpe
  cases hf : fd (fun j => decide (a.so j = 0 ∧ ct (fun j => decide (a.so j = 0)) j = k)) a.n with
  | none =>
    have := fd_none hf e h1
    rw [decide_eq_true ⟨h2, h3⟩] at this
    cases this
  | some j =>
    obtain ⟨g1, g2, _⟩ := fd_some hf
    have g3 := of_decide_eq_true g2
    exact ⟨g1, g3.1, g3.2⟩
theorem ct_mono {c : Nat → Bool} {m : Nat} : ∀ n, m ≤ n → ct c m ≤ ct c n
  | 0, h => by rw [show m = 0 by omega]; exact Nat.le_refl _
  | n + 1, h => by
    by_cases e : m = n + 1
    · rw [e]; exact Nat.le_refl _
    · have := ct_mono n (show m ≤ n by omega) (c := c)
      show _ ≤ ct c n + _
      omega
/-- the only one with so many ahead -/
theorem zpe_u {a : Ac} {k e : Nat} (h1 : e < a.n) (h2 : a.so e = 0) (h3 : ct (fun j => decide (a.so j = 0)) e = k) : zpe a k = e := by
  have hk : k < ct (fun j => decide (a.so j = 0)) a.n := by
    have e1 : ct (fun j => decide (a.so j = 0)) (e + 1) = k + 1 := by rw [ct_t (decide_eq_true h2), h3]
    have := ct_mono (c := fun j => decide (a.so j = 0)) a.n (show e + 1 ≤ a.n by omega)
    omega
  obtain ⟨g1, g2, g3⟩ := zpe_i hk
  rcases Nat.lt_trichotomy (zpe a k) e with z | z | z
  · have e1 : ct (fun j => decide (a.so j = 0)) (zpe a k + 1) = k + 1 := by rw [ct_t (decide_eq_true g2), g3]
    have := ct_mono (c := fun j => decide (a.so j = 0)) e (show zpe a k + 1 ≤ e by omega)
    omega
  · exact z
  · have e1 : ct (fun j => decide (a.so j = 0)) (e + 1) = k + 1 := by rw [ct_t (decide_eq_true h2), h3]
    have := ct_mono (c := fun j => decide (a.so j = 0)) (zpe a k) (show e + 1 ≤ zpe a k by omega)
    omega
