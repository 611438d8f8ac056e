/-! searches: more never brings less -/
theorem zal_m {a x y : Ac} (G : Gd a) (Sx : Sr a x) (Sy : Sr a y) (h : ∀ d, zbl x d ≤ zbl y d) : zal x ≤ zal y := by
  unfold zal
  rw [Sx.N, Sy.N]
  refine zsm_mono (fun p _ => ?_)
  rw [it_x Sx (fun d => rfl), it_x Sy (fun d => rfl)]
  exact znr_m2 (zpz_m G.V G.tu h)
theorem zal_42 {a x : Ac} (G : Gd a) (S : Sr a x) (hb : ∀ d, -2 ^ 34 ≤ zbl x d ∧ zbl x d ≤ 2 ^ 34) : -2 ^ 46 ≤ zal x ∧ zal x ≤ 2 ^ 46 := by
  have h := zsm_b (g := zit x) (M := 2 ^ 42) (n := x.N) (fun p _ => it_42 G S hb p)
  have h8 := G.V.N8
  have hN := S.N
  unfold zal
  rw [hN] at h ⊢
  omega
theorem py_34 {a : Ac} (G : Gd a) {m : Int} (hm : -99999 ≤ m ∧ m ≤ 99999) {d x : Nat} : -2 ^ 34 ≤ zbl (zpy a m d) x ∧ zbl (zpy a m d) x ≤ 2 ^ 34 := by
  rw [py_mo]
  have := zbl_g G x
  unfold zmo
  split <;> omega
theorem cn_i {a : Ac} (G : Gd a) {g : Int32} (hg : (1 : Int32) ≤ g ∧ g ≤ 99999) {d x : Nat} (hx : x ≤ 99999) : zcn a d g x = decide (zal (zpy a x d) < zal a + g.toInt) := by
  have b1 := zal_42 G (x := zpy a x d) sr_en (fun y => py_34 G (by omega))
  have b2 := zal_42 G (Sr.refl a) (bl34 G)
  have b3 : (1 : Int) ≤ g.toInt ∧ g.toInt ≤ 99999 := i32b hg
  unfold zcn
  congr 1
  rw [i64z, zL_add, zl_lt (by omega) (by omega) (by omega) (by omega)]
theorem cn_m {a : Ac} (G : Gd a) {g : Int32} (hg : (1 : Int32) ≤ g ∧ g ≤ 99999) {d : Nat} : ∀ x y, x ≤ y → y ≤ 99999 → zcn a d g y = true → zcn a d g x = true := fun x y h1 h2 h => by
  rw [cn_i G hg h2, decide_eq_true_eq] at h
  rw [cn_i G hg (by omega), decide_eq_true_eq]
  have := zal_m G (x := zpy a x d) (y := zpy a y d) sr_en sr_en (fun e => by
    rw [py_mo, py_mo]
    unfold zmo
    split <;> omega)
  omega
theorem z_needs {a : Ac} {I A : mI} {B : mB} (C : CR a I A B) (G : Gd a) {d : Nat} (hd : d < a.P * a.N) {g : Int32} (hg : (1 : Int32) ≤ g ∧ g ≤ 99999) : hvo 99999 (hvs (fun x => decide (alb A B a.nt 36 a.P a.N (nI d) (nI x).toInt64 < alb A B a.nt 36 a.P a.N 0 0 + g.toInt64)) 99999 17 0) = lsx 1 (zcn a d g) 99999 := by
  rw [hvs_c (c' := zcn a d g) (fun x hx => ?_)]
  · exact hvo_s (cn_m G hg) (by omega)
  · have e : alb A B a.nt 36 a.P a.N (nI d) (nI x).toInt64 = zL (zal (zpy a x d)) := zsm_m (fun p hp => z_with C G hd hp (m := (x : Int)) (by omega) (nL (by omega)))
    rw [e, z_all C G]
    rfl
/-! rates -/
theorem ti_m {a : Ac} (G : Gd a) {t : Nat} (ht : t < a.nt) {m m' : Int} (h : m ≤ m') : zal (zti a t m) ≤ zal (zti a t m') := by
  show zsm (zit (zti a t m)) a.N ≤ zsm (zit (zti a t m')) a.N
  refine zsm_mono (fun p _ => ?_)
  show znr (zpz (zti a t m) (zbl a) p) ≤ znr (zpz (zti a t m') (zbl a) p)
  refine znr_m2 ?_
  rw [zpz_ti G.no1 G.no2 ht G.V.nt4, zpz_ti G.no1 G.no2 ht G.V.nt4]
  have := zsm_mono (g := fun i => ztt a t m (a.P * p + i)) (g' := fun i => ztt a t m' (a.P * p + i)) (n := a.P) (fun i _ => by
    refine Int.mul_le_mul_of_nonneg_left ?_ (zpt_n G.tu ht)
    split <;> split <;> omega)
  omega
theorem ti_42 {a : Ac} (G : Gd a) {t : Nat} (ht : t < a.nt) {m : Int} (hm : -5000 ≤ m ∧ m ≤ 5000) : -2 ^ 46 ≤ zal (zti a t m) ∧ zal (zti a t m) ≤ 2 ^ 46 := by
  have h := zsm_b (g := zit (zti a t m)) (M := 2 ^ 42) (n := a.N) (fun p _ => by
    have b := zpz_bb (vw_ti G.V ht hm) (b := zbl a) (p := p) (fun d => by have := zbl_g G d; omega)
    exact znr_61 b.1 b.2)
  have h8 := G.V.N8
  show -2 ^ 46 ≤ zsm (zit (zti a t m)) a.N ∧ zsm (zit (zti a t m)) a.N ≤ 2 ^ 46
  omega
theorem ct_i {a : Ac} (G : Gd a) {g : Int32} (hg : (1 : Int32) ≤ g ∧ g ≤ 99999) {t x : Nat} (ht : t < a.nt) (hx : x ≤ 5000) : zct a t g x = decide (zal (zti a t x) - zal a < g.toInt) := by
  have b1 := ti_42 G ht (m := (x : Int)) (by omega)
  have b2 := zal_42 G (Sr.refl a) (bl34 G)
  have b3 : (1 : Int) ≤ g.toInt ∧ g.toInt ≤ 99999 := i32b hg
  unfold zct
  congr 1
  rw [i64z, zl_lt (by omega) (by omega) (by omega) (by omega)]
theorem ct_m {a : Ac} (G : Gd a) {g : Int32} (hg : (1 : Int32) ≤ g ∧ g ≤ 99999) {t : Nat} (ht : t < a.nt) : ∀ x y, x ≤ y → y ≤ 5000 → zct a t g y = true → zct a t g x = true := fun x y h1 h2 h => by
  rw [ct_i G hg ht h2, decide_eq_true_eq] at h
  rw [ct_i G hg ht (by omega), decide_eq_true_eq]
  have := ti_m G ht (m := (x : Int)) (m' := (y : Int)) (by omega)
  omega
theorem z_tiltFor {a : Ac} {I A : mI} {B : mB} (C : CR a I A B) (G : Gd a) {t : Nat} (ht : t < a.nt) {g : Int32} (hg : (1 : Int32) ≤ g ∧ g ≤ 99999) : hvo 5000 (hvs (fun x => decide (sm (fun p => nea (pds A B a.nt 36 a.P p 0 0 + sm (fun j => tlo A B t (nI x) (p * a.P + j)) a.P) - nea (pds A B a.nt 36 a.P p 0 0)) a.N < g.toInt64)) 5000 13 0) = lsx 1 (zct a t g) 5000 := by
  rw [hvs_c (c' := zct a t g) (fun x hx => ?_)]
  · exact hvo_s (ct_m G hg ht) (by omega)
  · rw [z_tilt C G ht (m := (x : Int)) (by omega) (nI_z x)]
    rfl
/-! plans -/
theorem idb_m {a x y : Ac} (G : Gd a) (Sx : Sr a x) (Sy : Sr a y) (h : ∀ d, zpb x d ≤ zpb y d) : ∀ p, (∀ d, zidb x p d ≤ zidb y p d) ∧ zid x p ≤ zid y p := fun p => by
    have key : ∀ p, (∀ d, zidb x p d ≤ zidb y p d) → zid x p ≤ zid y p := fun p hh => by
      unfold zid
      rw [zpz_c Sx, zpz_c Sy]
      exact znr_m2 (zpz_m G.V G.tu hh)
    induction p with
    | zero => exact ⟨h, key 0 h⟩
    | succ p ih =>
      have h3 : ∀ d, zidb x (p + 1) d ≤ zidb y (p + 1) d := fun d => by
        show zidb x p d + (if zcm x p ≤ d then zid x p else 0) ≤ zidb y p d + (if zcm y p ≤ d then zid y p else 0)
        have a1 := ih.1 d
        have a2 := ih.2
        rw [zcm_c Sx, zcm_c Sy]
        split <;> omega
      exact ⟨h3, key (p + 1) h3⟩
theorem px_t {a : Ac} (G : Gd a) (hn : a.n + 8 + 16 ≤ 480) (hc : ct (fun j => decide (¬ (a.so j = 1 ∨ a.so j = 2))) a.n + 8 ≤ 80) (ho : a.c < a.N) {d0 k m : Nat} (hd0 : d0 < 400) (hk : k ≤ 8) (hm : m ≤ 99999) : zto (zset (a.N - a.c) (zpx a d0 m k)) = zps (zpx a d0 m k) + zsm (zid (zpx a d0 m k)) a.N ∧ -2 ^ 40 ≤ zto (zset (a.N - a.c) (zpx a d0 m k)) ∧ zto (zset (a.N - a.c) (zpx a d0 m k)) ≤ 2 ^ 40 := by
  obtain ⟨Gx, S, h1, h2⟩ := gd_px G (d0 := d0) (m := m) (k := k) (by omega) hc hd0 hm hk
  have h8 := G.V.N8
  have hN := S.N
  have := (set_id (b := zpx a d0 m k) (a.N - a.c - 1) (zpx a d0 m k) Gx (by omega) (Sr.refl _) (fun _ => rfl) (by omega)).2
  rw [show a.N - a.c - 1 + 1 = a.N - a.c by omega, hN] at this
  have b1 := zpb_g Gx 4000
  have b2 := zsm_b (g := zid (zpx a d0 m k)) (M := 1000000) (n := a.N) (fun p hp => (zid_g Gx 8 (by omega)).1 p (by omega))
  refine ⟨this, ?_⟩
  rw [this]
  unfold zps
  omega
theorem cp_m {a : Ac} (G : Gd a) (hn : a.n + 8 + 16 ≤ 480) (hc : ct (fun j => decide (¬ (a.so j = 1 ∨ a.so j = 2))) a.n + 8 ≤ 80) (ho : a.c < a.N) {d0 k : Nat} (hd0 : d0 < 400) (hk : k ≤ 8) : ∀ x y, x ≤ y → y ≤ 99999 → zcp a d0 k y = true → zcp a d0 k x = true := fun x y h1 h2 h => by
  obtain ⟨e1, b1⟩ := px_t G hn hc ho hd0 hk (m := x) (by omega)
  obtain ⟨e2, b2⟩ := px_t G hn hc ho hd0 hk (m := y) (by omega)
  unfold zcp at *
  rw [decide_eq_true_eq, zl_lt0 (by omega) (by omega)] at *
  obtain ⟨Gx, Sx, _, _⟩ := gd_px G (d0 := d0) (m := x) (k := k) (by omega) hc hd0 (by omega) hk
  obtain ⟨Gy, Sy, _, _⟩ := gd_px G (d0 := d0) (m := y) (k := k) (by omega) hc hd0 (by omega) hk
  have hp : ∀ d, zpb (zpx a d0 x k) d ≤ zpb (zpx a d0 y k) d := fun d => by
    rw [px_pb, px_pb]
    have := zsm_mono (g := fun i => if d0 + i * a.P ≤ d then (x : Int) else 0) (g' := fun i => if d0 + i * a.P ≤ d then (y : Int) else 0) (n := k) (fun i _ => by
      show (if _ then _ else _) ≤ (if _ then _ else _)
      split <;> omega)
    unfold zpm
    omega
  have hs := zsm_mono (g := zid (zpx a d0 x k)) (g' := zid (zpx a d0 y k)) (n := a.N) (fun p _ => (idb_m G Sx Sy hp p).2)
  have hq := hp 4000
  unfold zps at *
  omega
theorem z_leastPlan {a : Ac} {I A : mI} {B : mB} (C : CR a I A B) (G : Gd a) (hn : a.n + 8 + 16 ≤ 480) (hc : ct (fun j => decide (¬ (a.so j = 1 ∨ a.so j = 2))) a.n + 8 ≤ 80) (ho : a.c < a.N) {d0 k : Nat} (hd0 : d0 < 400) (hk : k ≤ 8) : (if 0 ≤ stl A B a.va a.nt a.P (a.P * a.N) a.K a.N a.n d0 k 0 then 0 else hvo 99999 (hvs (fun x => decide (stl A B a.va a.nt a.P (a.P * a.N) a.K a.N a.n d0 k (nI x) < 0)) 99999 17 0)) = lsx 0 (zcp a d0 k) 100000 := by
  rw [hvs_c (c' := zcp a d0 k) (fun x hx => by
    rw [z_plan C G hn hc ho hd0 hk hx rfl]
    rfl), ← hvo_0 (M := 99999) (k := 17) (cp_m G hn hc ho hd0 hk) (by omega), z_plan C G hn hc ho hd0 hk (m := 0) (by omega) (xm := 0) rfl]
  by_cases z : zcp a d0 k 0 = false
  · rw [if_pos z, if_pos (Int64.not_lt.mp (of_decide_eq_false z))]
  · rw [if_neg z, if_neg (fun y => z (decide_eq_false (Int64.not_lt.mpr y)))]
/-! the ideal: what is turned back is as if it were not there -/
def Tn (a : Ac) : Prop :=
  (∀ j, j < a.n → a.so j = 3 → ∃ e, e < a.n ∧ a.og j = nI e ∧ a.so e = 0 ∧ a.am j = -a.am e ∧ a.va j = a.va e) ∧
  (∀ i j, i < a.n → j < a.n → a.so i = 3 → a.so j = 3 → a.og i = a.og j → i = j)
theorem Tn.t1 {a : Ac} (self : Tn a) : ∀ j, j < a.n → a.so j = 3 → ∃ e, e < a.n ∧ a.og j = nI e ∧ a.so e = 0 ∧ a.am j = -a.am e ∧ a.va j = a.va e := self.1
theorem Tn.t2 {a : Ac} (self : Tn a) : ∀ i j, i < a.n → j < a.n → a.so i = 3 → a.so j = 3 → a.og i = a.og j → i = j := self.2
theorem Tn.mk {a : Ac} (h_t1 : ∀ j, j < a.n → a.so j = 3 → ∃ e, e < a.n ∧ a.og j = nI e ∧ a.so e = 0 ∧ a.am j = -a.am e ∧ a.va j = a.va e) (h_t2 : ∀ i j, i < a.n → j < a.n → a.so i = 3 → a.so j = 3 → a.og i = a.og j → i = j) : Tn a := ⟨h_t1, h_t2⟩
theorem ztn_i {a : Ac} {e : Nat} : ztn a e = true ↔ ∃ j, j < a.n ∧ a.so j = 3 ∧ a.og j = nI e := by
  unfold ztn
  cases hf : fd (fun o => decide (a.so o = 3 ∧ a.og o = nI e)) a.n with
  | none =>
    constructor
    · intro h
      cases h
    · intro h
      obtain ⟨j, hj, h2⟩ := h
      have := fd_none hf j hj
      rw [decide_eq_true h2] at this
      cases this
  | some j =>
    obtain ⟨h1, h2, _⟩ := fd_some hf
    have h3 := of_decide_eq_true h2
    exact ⟨fun _ => ⟨j, h1, h3.1, h3.2⟩, fun _ => rfl⟩
theorem kp_g {a : Ac} (V : Vw a) (T : Tn a) {f : Nat → Int} (hf : ∀ j e, j < a.n → e < a.n → a.so j = 3 → a.og j = nI e → f j = -f e) : zsm (fun j => if a.so j = 0 ∧ ztn a j = false then f j else 0) a.n = zsm (fun j => if a.so j = 1 ∨ a.so j = 2 then 0 else f j) a.n := by
  have h4 := V.n4
  have e1 : zsm (fun j => if a.so j = 3 then f j else 0) a.n = zsm (fun e => if a.so e = 0 ∧ ztn a e = true then -f e else 0) a.n := by
    have e2 : zsm (fun j => if a.so j = 3 then f j else 0) a.n = zsm (fun j => zsm (fun e => if a.so j = 3 ∧ a.og j = nI e then -f e else 0) a.n) a.n := zsm_congr (fun j hj => by
      by_cases z : a.so j = 3
      · obtain ⟨e, he, ho, _⟩ := T.t1 j hj z
        rw [if_pos z]
        refine Eq.trans ?_ (zsm_one (g := fun e => if a.so j = 3 ∧ a.og j = nI e then -f e else 0) (e := e) he ?_).symm
        · show _ = if a.so j = 3 ∧ a.og j = nI e then -f e else 0
          rw [if_pos ⟨z, ho⟩]
          exact hf j e hj he z ho
        · intro i hi hne
          exact if_neg (fun y => hne ((nI_eq (by omega) (by omega)).mp (y.2.symm.trans ho)))
      · rw [if_neg z]
        exact (zsm_z (fun e _ => if_neg (fun y => z y.1))).symm)
    rw [e2, zsm_swap]
    refine zsm_congr (fun e he => ?_)
    show zsm (fun j => if a.so j = 3 ∧ a.og j = nI e then -f e else 0) a.n = _
    by_cases z : ztn a e = true
    · obtain ⟨j, hj, hs, ho⟩ := ztn_i.mp z
      obtain ⟨e', he', ho', hs', _, _⟩ := T.t1 j hj hs
      have ee : e = e' := (nI_eq (by omega) (by omega)).mp (ho.symm.trans ho')
      rw [← ee] at hs'
      rw [if_pos ⟨hs', z⟩]
      refine (zsm_one (g := fun j => if a.so j = 3 ∧ a.og j = nI e then -f e else 0) (e := j) hj ?_).trans ?_
      · intro i hi hne
        exact if_neg (fun y => hne (T.t2 i j hi hj y.1 hs (y.2.trans ho.symm)))
      · exact if_pos ⟨hs, ho⟩
    · rw [if_neg (fun y => z y.2)]
      exact zsm_z (fun j hj => if_neg (fun y => z (ztn_i.mpr ⟨j, hj, y.1, y.2⟩)))
  have e3 : zsm (fun j => if a.so j = 1 ∨ a.so j = 2 then 0 else f j) a.n = zsm (fun j => if a.so j = 0 then f j else 0) a.n + zsm (fun j => if a.so j = 3 then f j else 0) a.n := by
    rw [← zsm_add]
    refine zsm_congr (fun j hj => ?_)
    have h3 := V.so3 j hj
    by_cases z : a.so j = 1 ∨ a.so j = 2
    · rw [if_pos z, if_neg (by omega), if_neg (by omega)]
      rfl
    · rw [if_neg z]
      by_cases y : a.so j = 0
      · rw [if_pos y, if_neg (by omega), Int.add_zero]
      · rw [if_neg y, if_pos (by omega), Int.zero_add]
  rw [e3, e1, ← zsm_add]
  refine zsm_congr (fun j hj => ?_)
  by_cases y : a.so j = 0
  · cases z : ztn a j with
    | true =>
      rw [if_neg (c := a.so j = 0 ∧ true = false) (fun q => by cases q.2), if_pos y, if_pos ⟨y, rfl⟩]
      omega
    | false =>
      rw [if_pos (c := a.so j = 0 ∧ false = false) ⟨y, rfl⟩, if_pos y, if_neg (fun q => by cases q.2), Int.add_zero]
  · rw [if_neg y, if_neg (fun q => y q.1), if_neg (fun q => y q.1)]
    rfl
theorem kp_pb {a : Ac} (V : Vw a) (T : Tn a) (d : Nat) : zbl (zkp a a.n) d = zpb a d := by
  have h4 := V.n4
  have e := kp_g V T (f := fun j => if a.va j ≤ d then a.am j else 0) (fun j e hj he hs ho => by
    obtain ⟨e', he', ho', _, hm, hv⟩ := T.t1 j hj hs
    have ee : e = e' := (nI_eq (by omega) (by omega)).mp (ho.symm.trans ho')
    subst ee
    show (if a.va j ≤ d then a.am j else 0) = -(if a.va e ≤ d then a.am e else 0)
    rw [hm, hv]
    split <;> omega)
  refine Eq.trans ?_ e
  refine zsm_congr (fun j hj => ?_)
  have hj' : j < a.n := hj
  show (if a.va j ≤ d then (if j < a.n ∧ ¬ (a.so j = 0 ∧ ztn a j = false) then 0 else a.am j) else 0) = if a.so j = 0 ∧ ztn a j = false then (if a.va j ≤ d then a.am j else 0) else 0
  by_cases z : a.so j = 0 ∧ ztn a j = false
  · rw [if_pos z, if_neg (c := j < a.n ∧ ¬ (a.so j = 0 ∧ ztn a j = false)) (fun q => q.2 z)]
  · rw [if_neg z, if_pos (c := j < a.n ∧ ¬ (a.so j = 0 ∧ ztn a j = false)) ⟨hj', z⟩]
    split <;> rfl
theorem sr_kp {a : Ac} {i : Nat} : Sr a (zkp a i) := ⟨rfl, rfl, rfl, rfl, rfl, rfl, rfl, rfl, rfl, rfl, rfl, rfl, rfl, rfl⟩
theorem ie_bl {a : Ac} (V : Vw a) (T : Tn a) : ∀ q, (∀ d, zbl (zie a q) d = zidb a q d) ∧ zit (zie a q) q = zid a q ∧ Sr a (zie a q) := fun q => by
    have key : ∀ q, Sr a (zie a q) → (∀ d, zbl (zie a q) d = zidb a q d) → zit (zie a q) q = zid a q := fun q S h => it_x S h q
    induction q with
    | zero => exact ⟨kp_pb V T, key 0 sr_kp (kp_pb V T), sr_kp⟩
    | succ q ih =>
      obtain ⟨h1, h2, S⟩ := ih
      have S2 : Sr a (zie a (q + 1)) := S.trans sr_en
      have h3 : ∀ d, zbl (zie a (q + 1)) d = zidb a (q + 1) d := fun d => by
        show zbl (zen (zie a q) 1 (zit (zie a q) q) (zcm (zie a q) q) (nI q)) d = zidb a q d + (if zcm a q ≤ d then zid a q else 0)
        rw [zbl_en, h1, h2, zcm_c S]
      exact ⟨h3, key (q + 1) S2 h3, S2⟩
theorem vw_ie {a : Ac} (G : Gd a) (T : Tn a) (hn : a.n + 9 ≤ 480) : ∀ q, q ≤ 8 → Vw (zie a q)
  | 0, _ => vw_kp G.V
  | q + 1, hq => by
    have h := vw_ie G T hn q (by omega)
    obtain ⟨h1, h2, S⟩ := ie_bl G.V T q
    have h3 := (ex_ie (a := a) q).2.2
    have h4 := (zid_g G 8 (by omega)).1 q (by omega)
    exact vw_en h (by omega) (by omega) (by have := zcm_le h (p := q) (by omega); omega) (by rw [h2]; omega)
