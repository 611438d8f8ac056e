/-! what changes of the reference's store -/
theorem up2_n {α : Type} {F : Nat → Nat → α} {k j x c : Nat} {v : α} (h : x ≠ k) : up2 F k j v x c = F x c := if_neg (fun z => h z.1)
theorem up2_r {α : Type} {F : Nat → Nat → α} {k j x : Nat} {v : α} (h : x ≠ k) : up2 F k j v x = F x := funext (fun _ => up2_n h)
theorem up2_m {α : Type} {F : Nat → Nat → α} {k j x c : Nat} {v : α} (h : c ≠ j) : up2 F k j v x c = F x c := if_neg (fun z => h z.2)
theorem up2_s {α : Type} {F : Nat → Nat → α} {k j : Nat} {v : α} : up2 F k j v k j = v := if_pos ⟨rfl, rfl⟩
/-- one value more, as the store has it -/
theorem up2_z {α β : Type} {F : Nat → Nat → α} {k n : Nat} {v : α} {g : Nat → β} {t : β → α} {y : β} (h : ∀ j, j < n → F k j = t (g j)) (e : v = t y) : ∀ j, j < n + 1 → up2 F k n v k j = t (zup g n y j) := fun j hj => by
  by_cases z : j = n
  · subst z
    rw [up2_s, zup_s, e]
  · rw [up2_m z, zup_n z]
    exact h j (by omega)
/-- one value another -/
theorem up2_y {α β : Type} {F : Nat → Nat → α} {k n e : Nat} {v : α} {g : Nat → β} {t : β → α} {y : β} (h : ∀ j, j < n → F k j = t (g j)) (hv : v = t y) : ∀ j, j < n → up2 F k e v k j = t (zup g e y j) := fun j hj => by
  by_cases z : j = e
  · subst z
    rw [up2_s, zup_s, hv]
  · rw [up2_m z, zup_n z]
    exact h j hj
theorem MR.fI {a : Ac} {w : Nat} {I I' A A' : mI} {B B' : mB} (M : MR a w I A B) (hA : A' = A) (hB : B' 55 = B 55) (hI : ∀ j, j = 7 ∨ j = 13 ∨ j = 19 ∨ j = 20 ∨ j = 21 ∨ j = 22 ∨ j = 23 → I' 43 j = I 43 j) : MR a w I' A' B' := by
  subst hA
  exact (MR.mk (MR.hw M :) (MR.w5 M :) (MR.hP M :) (MR.hN M :) (MR.hK M :) (by rw [hI 7 (by omega)]; exact M.hnt) (MR.htr M :) (MR.htt M :) (MR.hdb M :) (by rw [hI 13 (by omega)]; exact M.hnc) (MR.hcd M :) (MR.hco M :) (MR.hcv M :) (by rw [hI 19 (by omega)]; exact M.hn) (MR.hso M :) (by rw [hB]; exact M.ham) (MR.hva M :) (MR.hpg M :) (MR.hog M :) (by rw [hI 20 (by omega)]; exact M.hc) (by rw [hI 21 (by omega)]; exact M.hti) (by rw [hI 22 (by omega)]; exact M.htb) (by rw [hI 23 (by omega)]; exact M.hfo))
theorem MR.en {a : Ac} {w : Nat} {I A : mI} {B : mB} (M : MR a w I A B) {s v : Nat} {m : Int} {o x c1 : Int32} {k1 k2 k3 k4 k5 : Nat} (e1 : k1 = a.n) (e2 : k2 = a.n) (e3 : k3 = a.n) (e4 : k4 = a.n) (e5 : k5 = a.n) (ex : x = nI (a.n + 1)) (ec : c1 = nI a.c) : MR (zen a s m v o) w (up2 I 43 19 x) (up2 (up2 (up2 (up2 A 54 k1 (nI s)) 56 k3 (nI v)) 57 k4 c1) 58 k5 o) (up2 B 55 k2 (zL m)) := by
  subst e1; subst e2; subst e3; subst e4; subst e5; subst ex; subst ec
  have h5 := M.w5
  have hr : ∀ r, r ≠ 54 → r ≠ 56 → r ≠ 57 → r ≠ 58 → (up2 (up2 (up2 (up2 A 54 a.n (nI s)) 56 a.n (nI v)) 57 a.n (nI a.c)) 58 a.n o) r = A r := fun r h1 h2 h3 h4 => by rw [up2_r h4, up2_r h3, up2_r h2, up2_r h1]
  have hi : ∀ j, j ≠ 19 → up2 I 43 19 (nI (a.n + 1)) 43 j = I 43 j := fun j hj => up2_m hj
  refine MR.mk M.hw M.w5 ?_ ?_ ?_ ?_ ?_ ?_ ?_ ?_ ?_ ?_ ?_ ?_ ?_ ?_ ?_ ?_ ?_ ?_ ?_ ?_ ?_
  · rw [hr w (by omega) (by omega) (by omega) (by omega)]; exact M.hP
  · rw [hr w (by omega) (by omega) (by omega) (by omega)]; exact M.hN
  · rw [hr w (by omega) (by omega) (by omega) (by omega)]; exact M.hK
  · rw [hi 7 (by decide)]; exact M.hnt
  · rw [hr 48 (by decide) (by decide) (by decide) (by decide)]; exact M.htr
  · rw [hr 49 (by decide) (by decide) (by decide) (by decide)]; exact M.htt
  · rw [hr 50 (by decide) (by decide) (by decide) (by decide)]; exact M.hdb
  · rw [hi 13 (by decide)]; exact M.hnc
  · rw [hr 51 (by decide) (by decide) (by decide) (by decide)]; exact M.hcd
  · rw [hr 52 (by decide) (by decide) (by decide) (by decide)]; exact M.hco
  · rw [hr 53 (by decide) (by decide) (by decide) (by decide)]; exact M.hcv
  · exact up2_s
  · rw [up2_r (show 54 ≠ 58 by decide), up2_r (show 54 ≠ 57 by decide), up2_r (show 54 ≠ 56 by decide)]
    exact up2_z (t := nI) M.hso rfl
  · exact up2_z (t := zL) M.ham rfl
  · rw [up2_r (show 56 ≠ 58 by decide), up2_r (show 56 ≠ 57 by decide)]
    exact up2_z (t := nI) (F := up2 A 54 a.n (nI s)) (fun j hj => by rw [up2_n (show 56 ≠ 54 by decide)]; exact M.hva j hj) rfl
  · rw [up2_r (show 57 ≠ 58 by decide)]
    exact up2_z (t := nI) (F := up2 (up2 A 54 a.n (nI s)) 56 a.n (nI v)) (fun j hj => by rw [up2_n (show 57 ≠ 56 by decide), up2_n (show 57 ≠ 54 by decide)]; exact M.hpg j hj) rfl
  · exact up2_z (t := id) (F := up2 (up2 (up2 A 54 a.n (nI s)) 56 a.n (nI v)) 57 a.n (nI a.c)) (fun j hj => by rw [up2_n (show 58 ≠ 57 by decide), up2_n (show 58 ≠ 56 by decide), up2_n (show 58 ≠ 54 by decide)]; exact M.hog j hj) rfl
  · rw [hi 20 (by decide)]; exact M.hc
  · rw [hi 21 (by decide)]; exact M.hti
  · rw [hi 22 (by decide)]; exact M.htb
  · rw [hi 23 (by decide)]; exact M.hfo
theorem fM.en {I A : mI} {B : mB} {s v c1 o x : Int32} {m : Int64} {k1 k2 k3 k4 k5 : Nat} : fM I A B (up2 I 43 19 x) (up2 (up2 (up2 (up2 A 54 k1 s) 56 k3 v) 57 k4 c1) 58 k5 o) (up2 B 55 k2 m) := by
  refine ⟨fun k hk => ⟨up2_r (by omega), ?_, up2_r (by omega)⟩, fun j a1 a2 a3 a4 a5 a6 a7 a8 => up2_m a4, fun r hr => ?_⟩
  · rw [up2_r (by omega), up2_r (by omega), up2_r (by omega), up2_r (by omega)]
  · rw [up2_r (by omega), up2_r (by omega), up2_r (by omega), up2_r (by omega)]
/-- a field of the reference's object -/
theorem fM.i {I A : mI} {B : mB} {j : Nat} {x : Int32} (h : j = 7 ∨ j = 9 ∨ j = 13 ∨ j = 19 ∨ j = 20 ∨ j = 21 ∨ j = 22 ∨ j = 23) : fM I A B (up2 I 43 j x) A B :=
  ⟨fun k hk => ⟨up2_r (by omega), rfl, rfl⟩, fun i a1 a2 a3 a4 a5 a6 a7 a8 => up2_m (by omega), fun _ _ => rfl⟩
theorem fM.a {I A : mI} {B : mB} {r j : Nat} {x : Int32} (h : 48 ≤ r ∧ r ≤ 64 ∧ r ≠ 60) : fM I A B I (up2 A r j x) B :=
  ⟨fun k hk => ⟨rfl, up2_r (by omega), rfl⟩, fun i a1 a2 a3 a4 a5 a6 a7 a8 => rfl, fun k hk => up2_r (by omega)⟩
theorem fM.b {I A : mI} {B : mB} {r j : Nat} {x : Int64} (h : 43 ≤ r ∧ r ≤ 64) : fM I A B I A (up2 B r j x) :=
  ⟨fun k hk => ⟨rfl, rfl, up2_r (by omega)⟩, fun i a1 a2 a3 a4 a5 a6 a7 a8 => rfl, fun k hk => rfl⟩
/-- entries more, and the same ones ahead -/
def Ex (a x : Ac) : Prop :=
  (Sr a x) ∧
  (a.n ≤ x.n) ∧
  (∀ j, j < a.n → x.so j = a.so j) ∧
  (∀ j, j < a.n → x.va j = a.va j) ∧
  (∀ j, j < a.n → x.pg j = a.pg j) ∧
  (∀ j, j < a.n → x.am j = a.am j) ∧
  (∀ j, j < a.n → x.og j = a.og j)
theorem Ex.sr {a x : Ac} (self : Ex a x) : Sr a x := self.1
theorem Ex.n {a x : Ac} (self : Ex a x) : a.n ≤ x.n := self.2.1
theorem Ex.so {a x : Ac} (self : Ex a x) : ∀ j, j < a.n → x.so j = a.so j := self.2.2.1
theorem Ex.va {a x : Ac} (self : Ex a x) : ∀ j, j < a.n → x.va j = a.va j := self.2.2.2.1
theorem Ex.pg {a x : Ac} (self : Ex a x) : ∀ j, j < a.n → x.pg j = a.pg j := self.2.2.2.2.1
theorem Ex.am {a x : Ac} (self : Ex a x) : ∀ j, j < a.n → x.am j = a.am j := self.2.2.2.2.2.1
theorem Ex.og {a x : Ac} (self : Ex a x) : ∀ j, j < a.n → x.og j = a.og j := self.2.2.2.2.2.2
theorem Ex.mk {a x : Ac} (h_sr : Sr a x) (h_n : a.n ≤ x.n) (h_so : ∀ j, j < a.n → x.so j = a.so j) (h_va : ∀ j, j < a.n → x.va j = a.va j) (h_pg : ∀ j, j < a.n → x.pg j = a.pg j) (h_am : ∀ j, j < a.n → x.am j = a.am j) (h_og : ∀ j, j < a.n → x.og j = a.og j) : Ex a x := ⟨h_sr, h_n, h_so, h_va, h_pg, h_am, h_og⟩
theorem Ex.refl (a : Ac) : Ex a a := ⟨Sr.refl a, Nat.le_refl _, fun _ _ => rfl, fun _ _ => rfl, fun _ _ => rfl, fun _ _ => rfl, fun _ _ => rfl⟩
theorem Ex.trans {a x y : Ac} (h : Ex a x) (g : Ex x y) : Ex a y :=
  ⟨h.sr.trans g.sr, Nat.le_trans h.n g.n, fun j hj => (g.so j (Nat.lt_of_lt_of_le hj h.n)).trans (h.so j hj), fun j hj => (g.va j (Nat.lt_of_lt_of_le hj h.n)).trans (h.va j hj), fun j hj => (g.pg j (Nat.lt_of_lt_of_le hj h.n)).trans (h.pg j hj), fun j hj => (g.am j (Nat.lt_of_lt_of_le hj h.n)).trans (h.am j hj), fun j hj => (g.og j (Nat.lt_of_lt_of_le hj h.n)).trans (h.og j hj)⟩
theorem ex_en {a : Ac} {s v : Nat} {m : Int} {o : Int32} : Ex a (zen a s m v o) :=
  ⟨sr_en, Nat.le_succ _, fun j hj => zup_n (by omega), fun j hj => zup_n (by omega), fun j hj => zup_n (by omega), fun j hj => zup_n (by omega), fun j hj => zup_n (by omega)⟩
theorem ex_sc {a : Ac} {c : Nat} : Ex a (a.setC c) := ⟨sr_sc, Nat.le_refl _, fun _ _ => rfl, fun _ _ => rfl, fun _ _ => rfl, fun _ _ => rfl, fun _ _ => rfl⟩
theorem ex_cl {a : Ac} : Ex a (zcl a) := ex_en.trans ex_sc
theorem ex_rr {a : Ac} : ∀ k, Ex a (zrr a k)
  | 0 => Ex.refl a
  | k + 1 => by
    rw [show zrr a (k + 1) = if zit (zrr a k) k - zbk (zrr a k) k = 0 then zrr a k else zen (zrr a k) 2 (zit (zrr a k) k - zbk (zrr a k) k) (zcm (zrr a k) k) (nI k) from rfl]
    split
    · exact ex_rr k
    · exact (ex_rr k).trans ex_en
theorem ex_set : ∀ (k : Nat) (a : Ac), Ex a (zset k a)
  | 0, a => Ex.refl a
  | k + 1, a => by
    show Ex a (zset k (zcl (if a.c = a.N - 1 then zrr a a.c else a)))
    refine Ex.trans ?_ (ex_set k _)
    by_cases h : a.c = a.N - 1
    · rw [if_pos h]
      exact (ex_rr a.c).trans ex_cl
    · rw [if_neg h]
      exact ex_cl
theorem MR.rs {a x : Ac} {w : Nat} {I A : mI} {B : mB} (M : MR x w I A B) (E : Ex a x) {v1 v2 : Int32} (e1 : v1 = nI a.n) (e2 : v2 = nI a.c) : MR a w (up2 (up2 I 43 19 v1) 43 20 v2) A B := by
  subst e1; subst e2
  have S := E.sr
  have hi : ∀ j, j ≠ 19 → j ≠ 20 → up2 (up2 I 43 19 (nI a.n)) 43 20 (nI a.c) 43 j = I 43 j := fun j h1 h2 => by rw [up2_m h2, up2_m h1]
  refine MR.mk M.hw M.w5 ?_ ?_ ?_ ?_ ?_ ?_ ?_ ?_ ?_ ?_ ?_ ?_ ?_ ?_ ?_ ?_ ?_ ?_ ?_ ?_ ?_
  · rw [← S.P]; exact M.hP
  · rw [← S.N]; exact M.hN
  · exact fun z => by rw [← S.K]; exact M.hK (by rw [S.N]; exact z)
  · rw [hi 7 (by decide) (by decide), ← S.nt]; exact M.hnt
  · rw [← S.nt, ← S.tr]; exact M.htr
  · rw [← S.nt, ← S.tt]; exact M.htt
  · rw [← S.db]; exact M.hdb
  · rw [hi 13 (by decide) (by decide), ← S.nc]; exact M.hnc
  · rw [← S.nc, ← S.cd]; exact M.hcd
  · rw [← S.nc, ← S.co]; exact M.hco
  · rw [← S.nc, ← S.cv]; exact M.hcv
  · rw [up2_m (show 19 ≠ 20 by decide)]; exact up2_s
  · exact fun j hj => by rw [M.hso j (Nat.lt_of_lt_of_le hj E.n), E.so j hj]
  · exact fun j hj => by rw [M.ham j (Nat.lt_of_lt_of_le hj E.n), E.am j hj]
  · exact fun j hj => by rw [M.hva j (Nat.lt_of_lt_of_le hj E.n), E.va j hj]
  · exact fun j hj => by rw [M.hpg j (Nat.lt_of_lt_of_le hj E.n), E.pg j hj]
  · exact fun j hj => by rw [M.hog j (Nat.lt_of_lt_of_le hj E.n), E.og j hj]
  · exact up2_s
  · rw [hi 21 (by decide) (by decide), ← S.ti]; exact M.hti
  · rw [hi 22 (by decide) (by decide), ← S.ti, ← S.tb]; exact M.htb
  · rw [hi 23 (by decide) (by decide), ← S.fo]; exact M.hfo
theorem MR.rn {a x : Ac} {w : Nat} {I A : mI} {B : mB} (M : MR x w I A B) (E : Ex a x) (hc : x.c = a.c) {v1 : Int32} (e1 : v1 = nI a.n) : MR a w (up2 I 43 19 v1) A B :=
  (M.rs E e1 (v2 := I 43 20) (by rw [M.hc, hc])).fI rfl rfl (fun j _ => by
    by_cases h : j = 20
    · subst h
      rw [up2_s, up2_m (show 20 ≠ 19 by decide)]
    · rw [up2_m (c := j) (j := 20) h])
/-! an amount, a day, a rate, a limit another one -/
def zam (a : Ac) (e : Nat) (m : Int) : Ac := (Ac.mk (Ac.P a) (Ac.N a) (Ac.K a) (Ac.c a) (Ac.n a) (Ac.nt a) (Ac.nc a) (Ac.so a) (Ac.va a) (Ac.pg a) (zup a.am e m) (Ac.og a) (Ac.tr a) (Ac.tt a) (Ac.db a) (Ac.cd a) (Ac.co a) (Ac.cv a) (Ac.ti a) (Ac.tb a) (Ac.fo a))
def zva (a : Ac) (e v : Nat) : Ac := (Ac.mk (Ac.P a) (Ac.N a) (Ac.K a) (Ac.c a) (Ac.n a) (Ac.nt a) (Ac.nc a) (Ac.so a) (zup a.va e v) (Ac.pg a) (Ac.am a) (Ac.og a) (Ac.tr a) (Ac.tt a) (Ac.db a) (Ac.cd a) (Ac.co a) (Ac.cv a) (Ac.ti a) (Ac.tb a) (Ac.fo a))
def zti (a : Ac) (t : Nat) (m : Int) : Ac := (Ac.mk (Ac.P a) (Ac.N a) (Ac.K a) (Ac.c a) (Ac.n a) (Ac.nt a) (Ac.nc a) (Ac.so a) (Ac.va a) (Ac.pg a) (Ac.am a) (Ac.og a) (Ac.tr a) (Ac.tt a) (Ac.db a) (Ac.cd a) (Ac.co a) (Ac.cv a) (some t) (m) (Ac.fo a))
theorem MR.am {a : Ac} {w : Nat} {I A : mI} {B : mB} (M : MR a w I A B) {e k : Nat} {m : Int} {v : Int64} (hk : k = e) (hv : v = zL m) : MR (zam a e m) w I A (up2 B 55 k v) := by
  subst hk
  exact (MR.mk (MR.hw M :) (MR.w5 M :) (MR.hP M :) (MR.hN M :) (MR.hK M :) (MR.hnt M :) (MR.htr M :) (MR.htt M :) (MR.hdb M :) (MR.hnc M :) (MR.hcd M :) (MR.hco M :) (MR.hcv M :) (MR.hn M :) (MR.hso M :) (up2_y (t := zL) M.ham hv) (MR.hva M :) (MR.hpg M :) (MR.hog M :) (MR.hc M :) (MR.hti M :) (MR.htb M :) (MR.hfo M :))
theorem MR.amb {a : Ac} {w : Nat} {I A : mI} {B : mB} {e k : Nat} {m : Int} (M : MR (zam a e m) w I A B) {v : Int64} (hk : k = e) (hv : v = zL (a.am e)) : MR a w I A (up2 B 55 k v) := by
  subst hk
  exact (MR.mk (MR.hw M :) (MR.w5 M :) (MR.hP M :) (MR.hN M :) (MR.hK M :) (MR.hnt M :) (MR.htr M :) (MR.htt M :) (MR.hdb M :) (MR.hnc M :) (MR.hcd M :) (MR.hco M :) (MR.hcv M :) (MR.hn M :) (MR.hso M :) (fun j hj => by
    by_cases z : j = k
    · subst z
      rw [up2_s, hv]
    · rw [up2_m z, M.ham j hj]
      exact congrArg zL (zup_n z)) (MR.hva M :) (MR.hpg M :) (MR.hog M :) (MR.hc M :) (MR.hti M :) (MR.htb M :) (MR.hfo M :))
theorem MR.va {a : Ac} {w : Nat} {I A : mI} {B : mB} (M : MR a w I A B) {e k d : Nat} {v : Int32} (hk : k = e) (hv : v = nI d) : MR (zva a e d) w I (up2 A 56 k v) B := by
  subst hk
  have h5 := M.w5
  exact (MR.mk (MR.hw M :) (MR.w5 M :) (by rw [up2_n (by omega)]; exact M.hP) (by rw [up2_n (by omega)]; exact M.hN) (fun z => by rw [up2_n (by omega)]; exact M.hK z) (MR.hnt M :) (MR.htr M :) (MR.htt M :) (MR.hdb M :) (MR.hnc M :) (MR.hcd M :) (MR.hco M :) (MR.hcv M :) (MR.hn M :) (MR.hso M :) (MR.ham M :) (up2_y (t := nI) M.hva hv) (MR.hpg M :) (MR.hog M :) (MR.hc M :) (MR.hti M :) (MR.htb M :) (MR.hfo M :))
theorem MR.vab {a : Ac} {w : Nat} {I A : mI} {B : mB} {e k d : Nat} (M : MR (zva a e d) w I A B) {v : Int32} (hk : k = e) (hv : v = nI (a.va e)) : MR a w I (up2 A 56 k v) B := by
  subst hk
  have h5 := M.w5
  exact (MR.mk (MR.hw M :) (MR.w5 M :) (by rw [up2_n (by omega)]; exact M.hP) (by rw [up2_n (by omega)]; exact M.hN) (fun z => by rw [up2_n (by omega)]; exact M.hK z) (MR.hnt M :) (MR.htr M :) (MR.htt M :) (MR.hdb M :) (MR.hnc M :) (MR.hcd M :) (MR.hco M :) (MR.hcv M :) (MR.hn M :) (MR.hso M :) (MR.ham M :) (fun j hj => by
    by_cases z : j = k
    · subst z
      rw [up2_s, hv]
    · rw [up2_m z, M.hva j hj]
      exact congrArg nI (zup_n z)) (MR.hpg M :) (MR.hog M :) (MR.hc M :) (MR.hti M :) (MR.htb M :) (MR.hfo M :))
theorem MR.ti {a : Ac} {w : Nat} {I A : mI} {B : mB} (M : MR a w I A B) {t : Nat} {m : Int} {v1 v2 : Int32} (h1 : v1 = nI t) (h2 : v2 = zN m) : MR (zti a t m) w (up2 (up2 I 43 21 v1) 43 22 v2) A B := by
  subst h1; subst h2
  have hi : ∀ j, j ≠ 21 → j ≠ 22 → up2 (up2 I 43 21 (nI t)) 43 22 (zN m) 43 j = I 43 j := fun j h1 h2 => by rw [up2_m h2, up2_m h1]
  exact (MR.mk (MR.hw M :) (MR.w5 M :) (MR.hP M :) (MR.hN M :) (MR.hK M :) (by rw [hi 7 (by decide) (by decide)]; exact M.hnt) (MR.htr M :) (MR.htt M :) (MR.hdb M :) (by rw [hi 13 (by decide) (by decide)]; exact M.hnc) (MR.hcd M :) (MR.hco M :) (MR.hcv M :) (by rw [hi 19 (by decide) (by decide)]; exact M.hn) (MR.hso M :) (MR.ham M :) (MR.hva M :) (MR.hpg M :) (MR.hog M :) (by rw [hi 20 (by decide) (by decide)]; exact M.hc) (by rw [up2_m (show 21 ≠ 22 by decide), up2_s]; rfl) (fun _ => up2_s) (by rw [hi 23 (by decide) (by decide)]; exact M.hfo))
theorem MR.tib {a : Ac} {w : Nat} {I A : mI} {B : mB} {t : Nat} {m : Int} (M : MR (zti a t m) w I A B) (h0 : a.ti = none) : MR a w (up2 I 43 21 (-1)) A B := by
  have hi : ∀ j, j ≠ 21 → up2 I 43 21 (-1) 43 j = I 43 j := fun j h1 => up2_m h1
  exact (MR.mk (MR.hw M :) (MR.w5 M :) (MR.hP M :) (MR.hN M :) (MR.hK M :) (by rw [hi 7 (by decide)]; exact M.hnt) (MR.htr M :) (MR.htt M :) (MR.hdb M :) (by rw [hi 13 (by decide)]; exact M.hnc) (MR.hcd M :) (MR.hco M :) (MR.hcv M :) (by rw [hi 19 (by decide)]; exact M.hn) (MR.hso M :) (MR.ham M :) (MR.hva M :) (MR.hpg M :) (MR.hog M :) (by rw [hi 20 (by decide)]; exact M.hc) (by rw [up2_s, h0]; rfl) (fun z => absurd h0 z) (by rw [hi 23 (by decide)]; exact M.hfo))
theorem MR.fo {a : Ac} {w : Nat} {I A : mI} {B : mB} (M : MR a w I A B) {l : Nat} {v : Int32} (h1 : v = nI l) : MR (zfo a l) w (up2 I 43 23 v) A B := by
  subst h1
  have hi : ∀ j, j ≠ 23 → up2 I 43 23 (nI l) 43 j = I 43 j := fun j h1 => up2_m h1
  exact (MR.mk (MR.hw M :) (MR.w5 M :) (MR.hP M :) (MR.hN M :) (MR.hK M :) (by rw [hi 7 (by decide)]; exact M.hnt) (MR.htr M :) (MR.htt M :) (MR.hdb M :) (by rw [hi 13 (by decide)]; exact M.hnc) (MR.hcd M :) (MR.hco M :) (MR.hcv M :) (by rw [hi 19 (by decide)]; exact M.hn) (MR.hso M :) (MR.ham M :) (MR.hva M :) (MR.hpg M :) (MR.hog M :) (by rw [hi 20 (by decide)]; exact M.hc) (by rw [hi 21 (by decide)]; exact M.hti) (by rw [hi 22 (by decide)]; exact M.htb) (up2_s))
theorem MR.fob {a : Ac} {w : Nat} {I A : mI} {B : mB} {l : Nat} (M : MR (zfo a l) w I A B) (h0 : a.fo = none) : MR a w (up2 I 43 23 (-1)) A B := by
  have hi : ∀ j, j ≠ 23 → up2 I 43 23 (-1) 43 j = I 43 j := fun j h1 => up2_m h1
  exact (MR.mk (MR.hw M :) (MR.w5 M :) (MR.hP M :) (MR.hN M :) (MR.hK M :) (by rw [hi 7 (by decide)]; exact M.hnt) (MR.htr M :) (MR.htt M :) (MR.hdb M :) (by rw [hi 13 (by decide)]; exact M.hnc) (MR.hcd M :) (MR.hco M :) (MR.hcv M :) (by rw [hi 19 (by decide)]; exact M.hn) (MR.hso M :) (MR.ham M :) (MR.hva M :) (MR.hpg M :) (MR.hog M :) (by rw [hi 20 (by decide)]; exact M.hc) (by rw [hi 21 (by decide)]; exact M.hti) (by rw [hi 22 (by decide)]; exact M.htb) (by rw [up2_s, h0]; rfl))
theorem vw_am {a : Ac} (V : Vw a) {e : Nat} {m : Int} (hm : -16777216 ≤ m ∧ m ≤ 16777216) : Vw (zam a e m) := (Vw.mk (Vw.P40 V :) (Vw.N8 V :) (Vw.K1 V :) (Vw.K4 V :) (Vw.cN V :) (Vw.n4 V :) (Vw.nt4 V :) (Vw.nc4 V :) (Vw.so3 V :) (Vw.va9 V :) (Vw.pg8 V :) (fun j hj => by
    show -16777216 ≤ zup a.am e m j ∧ zup a.am e m j ≤ 16777216
    by_cases z : j = e
    · rw [z, zup_s]; exact hm
    · rw [zup_n z]; exact V.am1 j hj) (Vw.tr5 V :) (Vw.tt9 V :) (Vw.db0 V :) (Vw.db2 V :) (Vw.cd3 V :) (Vw.co6 V :) (Vw.cv5 V :) (Vw.cv9 V :) (Vw.tb5 V :) (Vw.ti4 V :) (Vw.fo9 V :))
theorem vw_va {a : Ac} (V : Vw a) {e v : Nat} (hv : v ≤ 4000) : Vw (zva a e v) := (Vw.mk (Vw.P40 V :) (Vw.N8 V :) (Vw.K1 V :) (Vw.K4 V :) (Vw.cN V :) (Vw.n4 V :) (Vw.nt4 V :) (Vw.nc4 V :) (Vw.so3 V :) (fun j hj => by
    show zup a.va e v j ≤ 4000
    by_cases z : j = e
    · rw [z, zup_s]; exact hv
    · rw [zup_n z]; exact V.va9 j hj) (Vw.pg8 V :) (Vw.am1 V :) (Vw.tr5 V :) (Vw.tt9 V :) (Vw.db0 V :) (Vw.db2 V :) (Vw.cd3 V :) (Vw.co6 V :) (Vw.cv5 V :) (Vw.cv9 V :) (Vw.tb5 V :) (Vw.ti4 V :) (Vw.fo9 V :))
theorem vw_ti {a : Ac} (V : Vw a) {t : Nat} {m : Int} (ht : t < a.nt) (hm : -5000 ≤ m ∧ m ≤ 5000) : Vw (zti a t m) := (Vw.mk (Vw.P40 V :) (Vw.N8 V :) (Vw.K1 V :) (Vw.K4 V :) (Vw.cN V :) (Vw.n4 V :) (Vw.nt4 V :) (Vw.nc4 V :) (Vw.so3 V :) (Vw.va9 V :) (Vw.pg8 V :) (Vw.am1 V :) (Vw.tr5 V :) (Vw.tt9 V :) (Vw.db0 V :) (Vw.db2 V :) (Vw.cd3 V :) (Vw.co6 V :) (Vw.cv5 V :) (Vw.cv9 V :) (hm) (fun k hk => by cases hk; exact ht) (Vw.fo9 V :))
theorem vw_fo {a : Ac} (V : Vw a) {l : Nat} (hl : l ≤ 99999) : Vw (zfo a l) := (Vw.mk (Vw.P40 V :) (Vw.N8 V :) (Vw.K1 V :) (Vw.K4 V :) (Vw.cN V :) (Vw.n4 V :) (Vw.nt4 V :) (Vw.nc4 V :) (Vw.so3 V :) (Vw.va9 V :) (Vw.pg8 V :) (Vw.am1 V :) (Vw.tr5 V :) (Vw.tt9 V :) (Vw.db0 V :) (Vw.db2 V :) (Vw.cd3 V :) (Vw.co6 V :) (Vw.cv5 V :) (Vw.cv9 V :) (Vw.tb5 V :) (Vw.ti4 V :) (fun k hk => by cases hk; exact hl))
