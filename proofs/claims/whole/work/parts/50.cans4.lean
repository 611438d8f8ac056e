/-! corrections on a row, settlement on a row -/
def zcv (a : Ac) (p : Nat) : Int := zit (zrr a p) p - zbk (zrr a p) p
theorem rr_0 {a : Ac} {k : Nat} (h : zcv a k = 0) : zrr a (k + 1) = zrr a k := if_pos h
theorem rr_1 {a : Ac} {k : Nat} (h : ¬ zcv a k = 0) : zrr a (k + 1) = zen (zrr a k) 2 (zcv a k) (zcm (zrr a k) k) (nI k) := if_neg h
theorem rr_bk {a : Ac} (G : Gd a) (hn : a.n + a.c ≤ 480) {p : Nat} (hp : p ≤ a.c) : zbk (zrr a p) p = zbk a p := by
  have := G.V.cN
  have := G.V.N8
  exact (rr_id G hn (Sr.refl a) (fun _ => rfl) p hp).2.1 p (Nat.le_refl _) (by omega)
theorem shf_in {B : mB} {v D d : Nat} {m : Int64} (hd : d < D) : shf B 37 v m (D - v) 37 d = if v ≤ d then B 37 d + m else B 37 d := by
  show (if 37 = 37 ∧ v ≤ d ∧ d < v + (D - v) then B 37 d + m else B 37 d) = _
  by_cases z : v ≤ d
  · rw [if_pos ⟨rfl, z, by omega⟩, if_pos z]
  · rw [if_neg (fun y => z y.2.1), if_neg z]
theorem tbl_in {a : Ac} {I A : mI} {B : mB} (C : CR a I A B) (V : Vw a) {d : Nat} (hd : d < a.P * a.N) : tbl B 37 d = zL (zbl a d) := by
  have h3 := D320 V
  show up1 B 37 _ 37 d = _
  show (if 37 = 37 then va_cpy (B 36) (B 37) 0 0 320 d else _) = _
  rw [if_pos rfl]
  show (if 0 ≤ d ∧ d < 0 + 320 then B 36 (0 + (d - 0)) else B 37 d) = _
  rw [if_pos (by omega), show 0 + (d - 0) = d by omega, C.hbl d hd]
theorem crs_n {a : Ac} {I A : mI} {B : mB} (C : CR a I A B) (G : Gd a) (hn : a.n + a.c ≤ 480) {p : Nat} (hp : p < a.c) (h : ∀ d, d < a.P * a.N → crs A a.nt a.P (a.P * a.N) a.K a.n B p 37 d = zL (zbl (zrr a p) d)) : crn A a.nt a.P (a.P * a.N) a.K a.n B (crs A a.nt a.P (a.P * a.N) a.K a.n B p) p = zL (zcv a p) := by
  have hc := G.V.cN
  have C2 := C.fr (A' := A) (B' := crs A a.nt a.P (a.P * a.N) a.K a.n B p) (fC.b37 (fun k hk => crs_b hk))
  have G2 := gd_rr G hn p (by omega)
  have b := zpz_61 G (b := zbl (zrr a p)) (p := p) (bl34 G2)
  unfold crn
  rw [pds_0 C2 G h (bl36 G2) (by omega), nea_z b.1 b.2, z_ibk C G.V, zL_sub]
  unfold zcv
  rw [it_x (sr_rr p) (fun d => rfl), rr_bk G hn (by omega)]
theorem crs_z {a : Ac} {I A : mI} {B : mB} (C : CR a I A B) (G : Gd a) (hn : a.n + a.c ≤ 480) : ∀ p, p ≤ a.c → ∀ d, d < a.P * a.N → crs A a.nt a.P (a.P * a.N) a.K a.n B p 37 d = zL (zbl (zrr a p) d)
  | 0, _, d, hd => tbl_in C G.V hd
  | p + 1, hp, d, hd => by
    have ih := crs_z C G hn p (by omega)
    have e := crs_n C G hn (by omega) ih
    show shf (crs A a.nt a.P (a.P * a.N) a.K a.n B p) 37 (cmp_ a.P a.K p) (crn A a.nt a.P (a.P * a.N) a.K a.n B (crs A a.nt a.P (a.P * a.N) a.K a.n B p) p) (a.P * a.N - cmp_ a.P a.K p) 37 d = _
    rw [shf_in hd, e, ih d hd]
    have e2 : cmp_ a.P a.K p = zcm (zrr a p) p := (zcm_c (sr_rr p)).symm
    rw [e2]
    by_cases z : zcv a p = 0
    · rw [rr_0 z, z]
      split
      · rw [zL_add, Int.add_zero]
      · rfl
    · rw [rr_1 z, zbl_en]
      split
      · rw [zL_add]
      · rw [Int.add_zero]
theorem rr_cnt {a : Ac} : ∀ k, ct (fun p => decide (¬ zcv a p = 0)) k = (zrr a k).n - a.n
  | 0 => (Nat.sub_self _).symm
  | k + 1 => by
    have h := rr_c (a := a) k
    show ct (fun p => decide (¬ zcv a p = 0)) k + (if decide (¬ zcv a k = 0) = true then 1 else 0) = _
    rw [rr_cnt k]
    by_cases z : zcv a k = 0
    · rw [rr_0 z, if_neg (by simp [z])]
      rfl
    · rw [rr_1 z, if_pos (by simp [z])]
      show _ = (zrr a k).n + 1 - a.n
      omega
theorem rr_sum {a : Ac} : ∀ k, zsm (fun j => (zrr a k).am (a.n + j)) ((zrr a k).n - a.n) = zsm (zcv a) k
  | 0 => by
    rw [show (zrr a 0).n - a.n = 0 from Nat.sub_self _]
    rfl
  | k + 1 => by
    have h := rr_c (a := a) k
    by_cases z : zcv a k = 0
    · rw [rr_0 z, rr_sum k, zsm, z, Int.add_zero]
    · rw [rr_1 z]
      show zsm (fun j => zup (zrr a k).am (zrr a k).n (zcv a k) (a.n + j)) ((zrr a k).n + 1 - a.n) = zsm (zcv a) k + zcv a k
      rw [show (zrr a k).n + 1 - a.n = (zrr a k).n - a.n + 1 by omega, ← rr_sum k]
      exact zsm_up (fun i hi => zup_n (by omega)) (by rw [show a.n + ((zrr a k).n - a.n) = (zrr a k).n by omega]; exact zup_s)
theorem z_rights {a : Ac} {I A : mI} {B : mB} (C : CR a I A B) (G : Gd a) (hn : a.n + a.c ≤ 480) : ct (fun p => decide (¬ crn A a.nt a.P (a.P * a.N) a.K a.n B (crs A a.nt a.P (a.P * a.N) a.K a.n B p) p = 0)) a.c = (zrr a a.c).n - a.n := by
  rw [← rr_cnt]
  refine ct_congr (fun p hp => ?_)
  have hc := G.V.cN
  have h8 := G.V.N8
  have b := gd_z (gd_rr G hn p (by omega)) (p := p) (by omega)
  rw [crs_n C G hn hp (crs_z C G hn p (by omega))]
  congr 1
  have b2 : -2 ^ 40 ≤ zcv a p ∧ zcv a p ≤ 2 ^ 40 := b
  rw [zl_eq0 (by omega) (by omega)]
theorem z_righted {a : Ac} {I A : mI} {B : mB} (C : CR a I A B) (G : Gd a) (hn : a.n + a.c ≤ 480) : sm (fun p => crn A a.nt a.P (a.P * a.N) a.K a.n B (crs A a.nt a.P (a.P * a.N) a.K a.n B p) p) a.c = zL (zsm (fun j => (zrr a a.c).am (a.n + j)) ((zrr a a.c).n - a.n)) := by
  rw [rr_sum]
  exact zsm_m (fun p hp => crs_n C G hn hp (crs_z C G hn p (by omega)))
/-! settlement -/
theorem int_i {a : Ac} {I A : mI} {B : mB} (C : CR a I A B) (V : Vw a) {j : Nat} (hj : j < a.n) : (A 30 j = 1 ∨ A 30 j = 2) ↔ (a.so j = 1 ∨ a.so j = 2) := by
  have h3 := V.so3 j hj
  have t1 : nI (a.so j) = 1 ↔ a.so j = 1 := nI_eq (b := 1) (by omega) (by omega)
  have t2 : nI (a.so j) = 2 ↔ a.so j = 2 := nI_eq (b := 2) (by omega) (by omega)
  rw [C.hso j hj, t1, t2]
theorem tp1_z {a : Ac} {I A : mI} {B : mB} (C : CR a I A B) (V : Vw a) {D j : Nat} (hj : j < D) : tp1 A B a.va D a.n j = zL (zsm (fun i => if a.so i = 1 ∨ a.so i = 2 then 0 else if a.va i = j then a.am i else 0) a.n) := zsm_m (fun i hi => by
  have e := int_i C V hi
  rw [C.ham i hi]
  by_cases z : a.so i = 1 ∨ a.so i = 2
  · rw [if_pos z, if_neg (fun y => y.1 (e.mpr z))]
    rfl
  · rw [if_neg z]
    by_cases y : a.va i = j
    · rw [if_pos y, if_pos ⟨fun q => z (e.mp q), by omega, y⟩]
    · rw [if_neg y, if_neg (fun q => y q.2.2)]
      rfl)
theorem tpS_z {a : Ac} {I A : mI} {B : mB} (C : CR a I A B) (V : Vw a) {d : Nat} (hd : d < a.P * a.N) : tpS A B a.va (a.P * a.N) a.n 320 37 d = zL (zpb a d) := by
  have h3 := D320 V
  show (if 37 = 37 ∧ d < 320 then (if d < 320 then sm (tp1 A B a.va (a.P * a.N) a.n) (d + 1) else _) else _) = _
  rw [if_pos ⟨rfl, by omega⟩, if_pos (by omega)]
  rw [zsm_m (g := fun j => zsm (fun i => if a.so i = 1 ∨ a.so i = 2 then 0 else if a.va i = j then a.am i else 0) a.n) (fun j hj => tp1_z C V (by omega))]
  congr 1
  rw [zsm_swap]
  refine zsm_congr (fun i hi => ?_)
  by_cases z : a.so i = 1 ∨ a.so i = 2
  · rw [if_pos z]
    exact zsm_z (fun j _ => if_pos z)
  · rw [if_neg z]
    by_cases y : a.va i ≤ d
    · rw [if_pos y]
      refine (zsm_one (e := a.va i) (by omega) (fun j _ hne => ?_)).trans ?_
      · show (if a.so i = 1 ∨ a.so i = 2 then 0 else if a.va i = j then a.am i else 0) = 0
        rw [if_neg z, if_neg (fun q => hne q.symm)]
      · show (if a.so i = 1 ∨ a.so i = 2 then 0 else if a.va i = a.va i then a.am i else 0) = _
        rw [if_neg z, if_pos rfl]
    · rw [if_neg y]
      exact zsm_z (fun j hj => by
        show (if a.so i = 1 ∨ a.so i = 2 then 0 else if a.va i = j then a.am i else 0) = 0
        rw [if_neg z, if_neg (by omega)])
/-- payments more: what comes to a day -/
def zpm (P d0 : Nat) (m : Int) (k d : Nat) : Int := zsm (fun i => if d0 + i * P ≤ d then m else 0) k
theorem shs_z {B : mB} {P D dy : Nat} {m : Int} {b : Nat → Int} (h : ∀ d, d < D → B 37 d = zL (b d)) : ∀ k d, d < D → shs B P D dy (zL m) k 37 d = zL (b d + zpm P dy m k d)
  | 0, d, hd => by
    show B 37 d = zL (b d + 0)
    rw [h d hd, Int.add_zero]
  | k + 1, d, hd => by
    show shf (shs B P D dy (zL m) k) 37 (dy + k * P) (zL m) (D - (dy + k * P)) 37 d = zL (b d + (zpm P dy m k d + (if dy + k * P ≤ d then m else 0)))
    rw [shf_in hd, shs_z h k d hd]
    split
    · rw [zL_add, Int.add_assoc]
    · rw [Int.add_zero]
theorem cps_z {a x : Ac} {I A : mI} {B : mB} (C : CR a I A B) (G : Gd a) (Gx : Gd x) (S : Sr a x) {B0 : mB} (h0 : ∀ k, k ≠ 37 → B0 k = B k) (hb : ∀ d, d < a.P * a.N → B0 37 d = zL (zpb x d)) : ∀ p, p ≤ a.N → (∀ d, d < a.P * a.N → cps A a.nt a.P (a.P * a.N) a.K B0 p 37 d = zL (zidb x p d)) ∧ (p < a.N → nea (pds A (cps A a.nt a.P (a.P * a.N) a.K B0 p) a.nt 37 a.P p 0 0) = zL (zid x p))
  | p, hp => by
    have h8 := G.V.N8
    have key : ∀ p, p ≤ a.N → (∀ d, d < a.P * a.N → cps A a.nt a.P (a.P * a.N) a.K B0 p 37 d = zL (zidb x p d)) → p < a.N → nea (pds A (cps A a.nt a.P (a.P * a.N) a.K B0 p) a.nt 37 a.P p 0 0) = zL (zid x p) := fun p hp h hl => by
      have C2 := C.fr (A' := A) (B' := cps A a.nt a.P (a.P * a.N) a.K B0 p) (fC.b37 (fun k hk => (cps_b hk).trans (h0 k hk)))
      have b0 := (zid_g Gx p (by omega)).2
      have b := zpz_61 G (b := zidb x p) (p := p) (fun d => by have := b0 d; omega)
      rw [pds_0 C2 G h (fun d => by have := b0 d; omega) hl, nea_z b.1 b.2]
      unfold zid
      rw [zpz_c S]
    induction p with
    | zero => exact ⟨hb, key 0 hp hb⟩
    | succ p ih =>
      obtain ⟨h1, h2⟩ := ih (by omega)
      have h2 := h2 (by omega)
      have h3 : ∀ d, d < a.P * a.N → cps A a.nt a.P (a.P * a.N) a.K B0 (p + 1) 37 d = zL (zidb x (p + 1) d) := fun d hd => by
        show shf (cps A a.nt a.P (a.P * a.N) a.K B0 p) 37 (cmp_ a.P a.K p) (nea (pds A (cps A a.nt a.P (a.P * a.N) a.K B0 p) a.nt 37 a.P p 0 0)) (a.P * a.N - cmp_ a.P a.K p) 37 d = zL (zidb x p d + (if zcm x p ≤ d then zid x p else 0))
        rw [shf_in hd, h1 d hd, h2, show cmp_ a.P a.K p = zcm x p from (zcm_c S).symm]
        split
        · rw [zL_add]
        · rw [Int.add_zero]
      exact ⟨h3, key (p + 1) hp h3⟩
theorem sop_z {a : Ac} {I A : mI} {B : mB} (C : CR a I A B) (V : Vw a) : sop A B a.n = zL (zps a) := zsm_m (fun j hj => by
  have e := int_i C V hj
  rw [C.ham j hj]
  by_cases z : a.so j = 1 ∨ a.so j = 2
  · rw [if_pos z, if_pos (e.mpr z)]
    rfl
  · rw [if_neg z, if_neg (fun y => z (e.mp y)), if_pos (V.va9 j hj)])
theorem zpm_all {P d0 : Nat} {m : Int} {d : Nat} : ∀ {k : Nat}, (∀ i, i < k → d0 + i * P ≤ d) → zpm P d0 m k d = k * m
  | 0, _ => by simp [zpm, zsm]
  | k + 1, h => by
    show zpm P d0 m k d + (if d0 + k * P ≤ d then m else 0) = _
    rw [if_pos (h k (by omega)), zpm_all (fun i hi => h i (by omega)), Int.natCast_add, Int.add_mul]
    simp
theorem stl_z {a x : Ac} {I A : mI} {B : mB} (C : CR a I A B) (G : Gd a) (Gx : Gd x) (S : Sr a x) {d0 k m : Nat} (hd0 : d0 < 400) (hk : k ≤ 8) (hm : m ≤ 99999) (hx : ∀ d, zpb x d = zpb a d + zpm a.P d0 m k d) {xm : Int32} (em : xm = nI m) : stl A B a.va a.nt a.P (a.P * a.N) a.K a.N a.n d0 k xm = zL (zps x + zsm (zid x) a.N) := by
  subst em
  have h40 := G.V.P40
  unfold stl
  have e1 : (nI m).toInt64 = zL m := nL (by omega)
  have hr : ∀ d, d < a.P * a.N → plr A B a.va a.P (a.P * a.N) a.n d0 k (zL m) 37 d = zL (zpb x d) := fun d hd => by
    rw [hx]
    exact shs_z (fun d hd => tpS_z C G.V hd) k d hd
  have hs : sm (fun p => nea (pds A (cps A a.nt a.P (a.P * a.N) a.K (plr A B a.va a.P (a.P * a.N) a.n d0 k (zL m)) p) a.nt 37 a.P p 0 0)) a.N = zL (zsm (zid x) a.N) := zsm_m (fun p hp => (cps_z C G Gx S (fun k hk => plr_b hk) hr p (by omega)).2 hp)
  rw [e1, sop_z C G.V, nL (by omega), zL_mul, hs, zL_add, zL_add]
  congr 1
  unfold zps
  rw [hx, zpm_all (fun i hi => by
    have := Nat.mul_le_mul (show i ≤ 8 by omega) h40
    omega)]
theorem pl_pb {a : Ac} {d0 : Nat} {m : Int} {d : Nat} : ∀ k, zpb (zpl a d0 m k) d = zpb a d + zpm a.P d0 m k d
  | 0 => (Int.add_zero _).symm
  | k + 1 => by
    show zpb (zen (zpl a d0 m k) 0 m (d0 + k * a.P) (-1)) d = zpb a d + (zpm a.P d0 m k d + (if d0 + k * a.P ≤ d then m else 0))
    rw [zpb_en, if_neg (by omega), pl_pb k, Int.add_assoc]
theorem px_pb {a : Ac} {d0 m k d : Nat} : zpb (zpx a d0 m k) d = zpb a d + zpm a.P d0 m k d := by
  unfold zpx
  by_cases z : m = 0
  · rw [if_pos z, z]
    have : zpm a.P d0 ((0 : Nat) : Int) k d = 0 := zsm_z (fun i _ => by
      show (if d0 + i * a.P ≤ d then ((0 : Nat) : Int) else 0) = 0
      split <;> rfl)
    rw [this, Int.add_zero]
  · rw [if_neg z]
    exact pl_pb k
/-- a paid, drawn or turned one more -/
theorem gd_pr {a : Ac} (G : Gd a) {s v : Nat} {m : Int} {o : Int32} (hs : s = 0 ∨ s = 3) (hn : a.n + 1 ≤ 480) (hc : ct (fun j => decide (¬ (a.so j = 1 ∨ a.so j = 2))) a.n + 1 ≤ 80) (hv : v ≤ 4000) (hm : -99999 ≤ m ∧ m ≤ 99999) : Gd (zen a s m v o) ∧ ct (fun j => decide (¬ ((zen a s m v o).so j = 1 ∨ (zen a s m v o).so j = 2))) (zen a s m v o).n = ct (fun j => decide (¬ (a.so j = 1 ∨ a.so j = 2))) a.n + 1 := by
  have hc2 : ct (fun j => decide (¬ ((zen a s m v o).so j = 1 ∨ (zen a s m v o).so j = 2))) (zen a s m v o).n = ct (fun j => decide (¬ (a.so j = 1 ∨ a.so j = 2))) a.n + 1 := by
    show ct (fun j => decide (¬ (zup a.so a.n s j = 1 ∨ zup a.so a.n s j = 2))) a.n + (if decide (¬ (zup a.so a.n s a.n = 1 ∨ zup a.so a.n s a.n = 2)) = true then 1 else 0) = _
    rw [zup_s, if_pos (by simp; omega), ct_congr (g' := fun j => decide (¬ (a.so j = 1 ∨ a.so j = 2))) (fun i hi => by rw [zup_n (by omega)])]
  refine ⟨Gd.mk (vw_en G.V hn (by omega) hv (by omega)) G.tu G.no1 G.no2 (fun j hj => ?_) (by rw [hc2]; exact hc) (fun j hj => ?_) (fun q hq => ?_), hc2⟩
  · have hj' : j < a.n + 1 := hj
    show ¬ (zup a.so a.n s j = 1 ∨ zup a.so a.n s j = 2) → -99999 ≤ zup a.am a.n m j ∧ zup a.am a.n m j ≤ 99999
    by_cases e : j = a.n
    · rw [e, zup_s, zup_s]
      exact fun _ => hm
    · rw [zup_n e, zup_n e]
      exact G.pr j (by omega)
  · have hj' : j < a.n + 1 := hj
    show (zup a.so a.n s j = 1 ∨ zup a.so a.n s j = 2) → ∃ q, q < a.c ∧ zup a.og a.n o j = nI q ∧ zup a.va a.n v j = zcm a q
    by_cases e : j = a.n
    · rw [e, zup_s]
      exact fun z => by omega
    · rw [zup_n e, zup_n e, zup_n e]
      exact G.ip j (by omega)
  · rw [zbk_en, if_neg (fun z => by omega), Int.add_zero]
    exact G.bk q hq
theorem gd_pl {a : Ac} (G : Gd a) {d0 m : Nat} (hn : a.n + 8 ≤ 480) (hc : ct (fun j => decide (¬ (a.so j = 1 ∨ a.so j = 2))) a.n + 8 ≤ 80) (hd : d0 < 400) (hm : m ≤ 99999) : ∀ k, k ≤ 8 → Gd (zpl a d0 m k) ∧ ct (fun j => decide (¬ ((zpl a d0 m k).so j = 1 ∨ (zpl a d0 m k).so j = 2))) (zpl a d0 m k).n = ct (fun j => decide (¬ (a.so j = 1 ∨ a.so j = 2))) a.n + k
  | 0, _ => ⟨G, rfl⟩
  | k + 1, hk => by
    obtain ⟨h1, h2⟩ := gd_pl G hn hc hd hm k (by omega)
    have h3 := (ex_pl (a := a) (d := d0) (m := (m : Int)) k).2.2
    have h4 := Nat.mul_le_mul (show k ≤ 8 by omega) G.V.P40
    obtain ⟨h5, h6⟩ := gd_pr h1 (s := 0) (v := d0 + k * a.P) (m := (m : Int)) (o := -1) (Or.inl rfl) (by omega) (by omega) (by omega) (by omega)
    exact ⟨h5, by rw [show (zpl a d0 m (k + 1)) = zen (zpl a d0 m k) 0 m (d0 + k * a.P) (-1) from rfl, h6]; omega⟩
theorem gd_px {a : Ac} (G : Gd a) {d0 m k : Nat} (hn : a.n + 8 ≤ 480) (hc : ct (fun j => decide (¬ (a.so j = 1 ∨ a.so j = 2))) a.n + 8 ≤ 80) (hd : d0 < 400) (hm : m ≤ 99999) (hk : k ≤ 8) : Gd (zpx a d0 m k) ∧ Sr a (zpx a d0 m k) ∧ (zpx a d0 m k).c = a.c ∧ (zpx a d0 m k).n ≤ a.n + 8 := by
  unfold zpx
  by_cases z : m = 0
  · rw [if_pos z]
    exact ⟨G, Sr.refl a, rfl, by omega⟩
  · rw [if_neg z]
    obtain ⟨h1, h2, h3⟩ := ex_pl (a := a) (d := d0) (m := (m : Int)) k
    exact ⟨(gd_pl G hn hc hd hm k hk).1, h1.sr, h2, by omega⟩
/-- what a settlement with payments comes to -/
theorem z_plan {a : Ac} {I A : mI} {B : mB} (C : CR a I A B) (G : Gd a) (hn : a.n + 8 + 16 ≤ 480) (hc : ct (fun j => decide (¬ (a.so j = 1 ∨ a.so j = 2))) a.n + 8 ≤ 80) (ho : a.c < a.N) {d0 k m : Nat} (hd0 : d0 < 400) (hk : k ≤ 8) (hm : m ≤ 99999) {xm : Int32} (em : xm = nI m) : stl A B a.va a.nt a.P (a.P * a.N) a.K a.N a.n d0 k xm = zL (zto (zset (a.N - a.c) (zpx a d0 m k))) := by
  obtain ⟨Gx, S, h1, h2⟩ := gd_px G (d0 := d0) (m := m) (k := k) (by omega) hc hd0 hm hk
  have h8 := G.V.N8
  have hN := S.N
  rw [stl_z C G Gx S hd0 hk hm (fun d => px_pb) em]
  congr 1
  have := (set_id (b := zpx a d0 m k) (a.N - a.c - 1) (zpx a d0 m k) Gx (by omega) (Sr.refl _) (fun _ => rfl) (by omega)).2
  rw [show a.N - a.c - 1 + 1 = a.N - a.c by omega, hN] at this
  exact this.symm
theorem z_settled {a : Ac} {I A : mI} {B : mB} (C : CR a I A B) (G : Gd a) (hn : a.n + 8 + 16 ≤ 480) (hc : ct (fun j => decide (¬ (a.so j = 1 ∨ a.so j = 2))) a.n + 8 ≤ 80) (ho : a.c < a.N) : stl A B a.va a.nt a.P (a.P * a.N) a.K a.N a.n 0 0 0 = zL (zto (zset (a.N - a.c) a)) := by
  have := z_plan C G hn hc ho (d0 := 0) (k := 0) (m := 0) (by omega) (by omega) (by omega) (xm := 0) rfl
  exact this
theorem z_total {a : Ac} {I A : mI} {B : mB} (C : CR a I A B) : sm (fun j => B 31 j) a.n = zL (zto a) := zsm_m (fun j hj => C.ham j hj)
/-! the least that does -/
theorem hvs_c {c c' : Nat → Bool} {M : Nat} (h : ∀ x, x ≤ M → c x = c' x) : ∀ k t, hvs c M k t = hvs c' M k t
  | 0, t => rfl
  | k + 1, t => by
    rw [hvs, hvs]
    have e : (if t + 2 ^ k ≤ M ∧ c (t + 2 ^ k) = true then t + 2 ^ k else t) = (if t + 2 ^ k ≤ M ∧ c' (t + 2 ^ k) = true then t + 2 ^ k else t) := by
      by_cases z : t + 2 ^ k ≤ M
      · rw [h _ z]
      · rw [if_neg (fun y => z y.1), if_neg (fun y => z y.1)]
    rw [e]
    exact hvs_c h k _
theorem hvs_s {c : Nat → Bool} {M : Nat} (hm : ∀ x y, x ≤ y → y ≤ M → c y = true → c x = true) : ∀ k t, t ≤ M → (t = 0 ∨ c t = true) → t ≤ hvs c M k t ∧ hvs c M k t ≤ M ∧ (hvs c M k t = 0 ∨ c (hvs c M k t) = true) ∧ ∀ x, hvs c M k t < x → x < t + 2 ^ k → x ≤ M → c x = false
  | 0, t, ht, h => ⟨Nat.le_refl _, ht, h, fun x a1 a2 _ => by
      have a1' : t < x := a1
      omega⟩
  | k + 1, t, ht, h => by
    have e2 : 2 ^ (k + 1) = 2 ^ k + 2 ^ k := by rw [Nat.pow_succ]; omega
    rw [hvs]
    by_cases z : t + 2 ^ k ≤ M ∧ c (t + 2 ^ k) = true
    · rw [if_pos z]
      obtain ⟨a1, a2, a3, a4⟩ := hvs_s hm k (t + 2 ^ k) z.1 (Or.inr z.2)
      exact ⟨Nat.le_trans (Nat.le_add_right _ _) a1, a2, a3, fun x b1 b2 b3 => a4 x b1 (by omega) b3⟩
    · rw [if_neg z]
      obtain ⟨a1, a2, a3, a4⟩ := hvs_s hm k t ht h
      refine ⟨a1, a2, a3, fun x b1 b2 b3 => ?_⟩
      by_cases y : x < t + 2 ^ k
      · exact a4 x b1 y b3
      · cases hc : c x with
        | false => rfl
        | true => exact absurd ⟨by omega, hm (t + 2 ^ k) x (by omega) b3 hc⟩ z
theorem hvo_s {c : Nat → Bool} {M k : Nat} (hm : ∀ x y, x ≤ y → y ≤ M → c y = true → c x = true) (hk : M < 2 ^ k) : hvo M (hvs c M k 0) = lsx 1 c M := by
  obtain ⟨a1, a2, a3, a4⟩ := hvs_s hm k 0 (Nat.zero_le _) (Or.inl rfl)
  unfold hvo
  have h1 : ∀ x, 1 ≤ x → x ≤ hvs c M k 0 → c x = true := fun x b1 b2 => by
    rcases a3 with z | z
    · omega
    · exact hm x _ b2 a2 z
  by_cases z : hvs c M k 0 < M
  · rw [if_pos z, lsx_s (L := 1) (K := M) (r := hvs c M k 0 + 1) (by omega) (by omega) (a4 _ (by omega) (by omega) (by omega)) (fun x b1 b2 => h1 x b1 (by omega))]
  · rw [if_neg z, lsx_n (fun x b1 b2 => h1 x b1 (by omega))]
theorem hvo_0 {c : Nat → Bool} {M k : Nat} (hm : ∀ x y, x ≤ y → y ≤ M → c y = true → c x = true) (hk : M < 2 ^ k) : (if c 0 = false then 0 else hvo M (hvs c M k 0)) = lsx 0 c (M + 1) := by
  obtain ⟨a1, a2, a3, a4⟩ := hvs_s hm k 0 (Nat.zero_le _) (Or.inl rfl)
  by_cases y : c 0 = false
  · rw [if_pos y, lsx_s (L := 0) (K := M + 1) (r := 0) (by omega) (by omega) y (fun x _ b => by omega)]
    rfl
  · have y2 : c 0 = true := by simpa using y
    rw [if_neg y]
    unfold hvo
    have h1 : ∀ x, x ≤ hvs c M k 0 → c x = true := fun x b2 => by
      rcases a3 with z | z
      · rw [show x = 0 by omega]
        exact y2
      · exact hm x _ b2 a2 z
    by_cases z : hvs c M k 0 < M
    · rw [if_pos z, lsx_s (L := 0) (K := M + 1) (r := hvs c M k 0 + 1) (by omega) (by omega) (a4 _ (by omega) (by omega) (by omega)) (fun x b1 b2 => h1 x (by omega))]
    · rw [if_neg z, lsx_n (fun x b1 b2 => h1 x (by omega))]
