/-! the class's words for answers, by an account -/
theorem bl36 {a : Ac} (G : Gd a) (d : Nat) : -2 ^ 36 ≤ zbl a d ∧ zbl a d ≤ 2 ^ 36 := by have := zbl_g G d; omega
theorem bl40 {a : Ac} (G : Gd a) (d : Nat) : -2 ^ 40 ≤ zbl a d ∧ zbl a d ≤ 2 ^ 40 := by have := zbl_g G d; omega
theorem D320 {a : Ac} (V : Vw a) : a.P * a.N ≤ 320 := Nat.mul_le_mul V.P40 V.N8
theorem z_pds {a : Ac} {I A : mI} {B : mB} (C : CR a I A B) (G : Gd a) {p : Nat} (hp : p < a.N) : pds A B a.nt 36 a.P p 0 0 = zL (zpz a (zbl a) p) := pds_0 C G C.hbl (bl36 G) hp
theorem zpz_61 {a : Ac} (G : Gd a) {b : Nat → Int} {p : Nat} (hb : ∀ d, -2 ^ 34 ≤ b d ∧ b d ≤ 2 ^ 34) : -2 ^ 61 ≤ zpz a b p ∧ zpz a b p ≤ 2 ^ 61 := zpz_bb G.V (fun d => by have := hb d; omega)
theorem bl34 {a : Ac} (G : Gd a) (d : Nat) : -2 ^ 34 ≤ zbl a d ∧ zbl a d ≤ 2 ^ 34 := by have := zbl_g G d; omega
theorem z_int {a : Ac} {I A : mI} {B : mB} (C : CR a I A B) (G : Gd a) {p : Nat} (hp : p < a.N) : nea (pds A B a.nt 36 a.P p 0 0) = zL (zit a p) := by
  rw [z_pds C G hp, nea_z (zpz_61 G (bl34 G)).1 (zpz_61 G (bl34 G)).2]
  rfl
theorem z_ibk {a : Ac} {I A : mI} {B : mB} (C : CR a I A B) (V : Vw a) {p : Nat} : ibk A B a.n (nI p) = zL (zbk a p) := zsm_m (fun j hj => by
  have h3 := V.so3 j hj
  have t1 : nI (a.so j) = 1 ↔ a.so j = 1 := nI_eq (b := 1) (by omega) (by omega)
  have t2 : nI (a.so j) = 2 ↔ a.so j = 2 := nI_eq (b := 2) (by omega) (by omega)
  rw [C.hog j hj, C.hso j hj, C.ham j hj]
  by_cases z : (a.so j = 1 ∨ a.so j = 2) ∧ a.og j = nI p
  · rw [if_pos z, if_pos ⟨z.2, by rw [t1, t2]; exact z.1⟩]
  · rw [if_neg z, if_neg (fun y => z ⟨by rw [t1, t2] at y; exact y.2, y.1⟩)]
    rfl)
theorem z_credit {a : Ac} {I A : mI} {B : mB} (C : CR a I A B) (G : Gd a) {p : Nat} (hp : p < a.N) : sm (fun j => crd A (p * a.P + j) (B 36 (p * a.P + j)) a.nt 0 0 0) a.P = zL (zsm (fun i => zer a (a.P * p + i) (zbl a (a.P * p + i))) a.P) := zsm_m (fun i hi => by
  have h1 := P_in hp hi
  have h2 := D320 G.V
  rw [Nat.mul_comm p a.P, C.hbl _ h1]
  exact crd_z C G (by omega) (bl40 G _))
theorem z_debt {a : Ac} {I A : mI} {B : mB} (C : CR a I A B) (G : Gd a) {p : Nat} (hp : p < a.N) : sm (fun j => dbt A (A 25 (p * a.P + j)) (p * a.P + j) (B 36 (p * a.P + j))) a.P = zL (zsm (fun i => zow a (a.P * p + i) (zbl a (a.P * p + i))) a.P) := zsm_m (fun i hi => by
  have h1 := P_in hp hi
  have h2 := D320 G.V
  rw [Nat.mul_comm p a.P, C.hbl _ h1]
  exact dbt_z C G (by omega) (bl40 G _))
theorem z_pt {a : Ac} {I A : mI} {B : mB} (C : CR a I A B) (G : Gd a) {d t : Nat} (ht : t < a.nt) {b : Int} (hb : -2 ^ 40 ≤ b ∧ b ≤ 2 ^ 40) : ptO A t (zL b) = zL (zpt a d b t) := by
  have h9 := G.V.tt9 t ht
  have e2 : tpb A t (zL b) = zL (if t = 0 then 0 else ztp a b (t - 1)) := by
    unfold tpb
    by_cases z : t = 0
    · rw [if_pos z, if_pos z]
      rfl
    · rw [if_neg z, if_neg z]
      exact tpo_z C G.V (by omega) (by omega)
  have hz : ztp a b t ≤ b ∧ (-2 ^ 41 ≤ ztp a b t) ∧ ∀ s, s < a.nt → ztp a b s ≤ b ∧ -2 ^ 41 ≤ ztp a b s := by
    have key : ∀ s, s < a.nt → ztp a b s ≤ b ∧ -2 ^ 41 ≤ ztp a b s := fun s hs => by
      have := G.V.tt9 s hs
      unfold ztp
      repeat' split
      all_goals omega
    exact ⟨(key t ht).1, (key t ht).2, key⟩
  unfold ptO
  rw [tpo_z C G.V ht (by omega), e2, zL_sub]
  have hb2 : -2 ^ 42 ≤ (if t = 0 then 0 else ztp a b (t - 1)) ∧ (if t = 0 then 0 else ztp a b (t - 1)) ≤ 2 ^ 42 := by
    split
    · omega
    · have := hz.2.2 (t - 1) (by omega)
      omega
  rw [zl_max0 (by omega) (by omega)]
  congr 1
  by_cases hp : 0 < b
  · have e3 : zsm (fun t => zpt a d b t) t = (if t = 0 then 0 else ztp a b (t - 1)) := by
      by_cases z : t = 0
      · subst z
        rfl
      · rw [if_neg z]
        have := ztp_s G (d := d) hp (t := t - 1) (by omega)
        rw [show t - 1 + 1 = t by omega] at this
        exact this
    have e4 := ztp_s G (d := d) hp ht
    have e5 : zsm (fun t => zpt a d b t) (t + 1) = zsm (fun t => zpt a d b t) t + zpt a d b t := rfl
    have e6 := zpt_n G.tu (d := d) (b := b) ht
    rw [← e3, ← e4, e5]
    split <;> omega
  · rw [zpt_0 (by omega) (by omega)]
    have e7 : ∀ s, s < a.nt → ztp a b s = b := fun s hs => by
      unfold ztp
      repeat' split
      all_goals omega
    by_cases z : t = 0
    · rw [if_pos z, e7 t ht]
      split <;> omega
    · rw [if_neg z, e7 t ht, e7 (t - 1) (by omega)]
      split <;> omega
theorem z_above {a : Ac} {I A : mI} {B : mB} (C : CR a I A B) (G : Gd a) {d : Nat} {b : Int} (hb : -2 ^ 40 ≤ b ∧ b ≤ 2 ^ 40) : (if zL b - (if a.nt = 0 then 0 else tpo A (a.nt - 1) (zL b)) < 0 then 0 else zL b - (if a.nt = 0 then 0 else tpo A (a.nt - 1) (zL b))) = zL (zpt a d b a.nt) := by
  by_cases z : a.nt = 0
  · rw [if_pos z, Int64.sub_zero, zl_max0 (by omega) (by omega)]
    congr 1
    by_cases y : b ≤ 0
    · rw [zpt_0 y (by omega)]
      split <;> omega
    · rw [zpt_u y (by omega) (by omega) (by omega)]
      simp only [zab, zfr, if_pos z]
      split <;> split <;> omega
  · have h9 := G.V.tt9 (a.nt - 1) (by omega)
    have hz : ztp a b (a.nt - 1) ≤ b ∧ -2 ^ 41 ≤ ztp a b (a.nt - 1) := by
      unfold ztp
      repeat' split
      all_goals omega
    rw [if_neg z, tpo_z C G.V (by omega) (by omega), zL_sub, zl_max0 (by omega) (by omega)]
    congr 1
    by_cases y : b ≤ 0
    · rw [zpt_0 y (by omega)]
      unfold ztp
      repeat' split
      all_goals omega
    · by_cases x : a.tt (a.nt - 1) = 0
      · rw [zpt_z y (by omega) (by omega) x]
        unfold ztp
        rw [if_pos x]
        split <;> omega
      · rw [zpt_u y (by omega) (by omega) (by omega)]
        simp only [zab, zfr, ztp, if_neg z, if_neg x]
        repeat' split
        all_goals omega
theorem z_within {a : Ac} {I A : mI} {B : mB} (C : CR a I A B) (G : Gd a) {d : Nat} (hd : d < 320) {b : Int} (hb : -2 ^ 40 ≤ b ∧ b ≤ 2 ^ 40) : (if (A 25 d).toInt64 < (if -zL b < 0 then 0 else -zL b) then (A 25 d).toInt64 else (if -zL b < 0 then 0 else -zL b)) = zL (zpt a d b (a.nt + 1)) := by
  have h6 := zhl_b G.V (r := 6) (d := d) (by omega)
  simp only [if_true] at h6
  rw [show A 25 d = zN (zhl a 6 d) from C.hru 6 d (by omega) hd, zn_l (by omega) (by omega), zL_neg, zl_max0 (by omega) (by omega)]
  have hc : -2 ^ 40 ≤ (if -b < 0 then 0 else -b) ∧ (if -b < 0 then 0 else -b) ≤ 2 ^ 40 := by split <;> omega
  rw [zl_min (by omega) (by omega) (by omega) (by omega)]
  congr 1
  by_cases y : b < 0
  · rw [zpt_w y, if_neg (c := -b < 0) (by omega)]
  · rw [zpt_p y (by omega)]
    split <;> split at hc <;> split <;> omega
theorem z_over {a : Ac} {I A : mI} {B : mB} (C : CR a I A B) (G : Gd a) {d : Nat} (hd : d < 320) {b : Int} (hb : -2 ^ 40 ≤ b ∧ b ≤ 2 ^ 40) : (if -zL b - (A 25 d).toInt64 < 0 then 0 else -zL b - (A 25 d).toInt64) = zL (zpt a d b (a.nt + 2)) := by
  have h6 := zhl_b G.V (r := 6) (d := d) (by omega)
  simp only [if_true] at h6
  rw [show A 25 d = zN (zhl a 6 d) from C.hru 6 d (by omega) hd, zn_l (by omega) (by omega), zL_neg, zL_sub, zl_max0 (by omega) (by omega)]
  congr 1
  by_cases y : b < 0
  · rw [zpt_o y (by omega) (by omega)]
    split <;> split <;> omega
  · rw [zpt_p y (by omega)]
    split <;> omega
theorem z_earned {a : Ac} {I A : mI} {B : mB} (C : CR a I A B) (G : Gd a) {p t : Nat} (hp : p < a.N) (ht : t < a.nt) : sm (fun j => ptO A t (B 36 (p * a.P + j)) * (A (19 + t) (p * a.P + j)).toInt64) a.P = zL (zsm (fun i => zpt a (a.P * p + i) (zbl a (a.P * p + i)) t * zhl a t (a.P * p + i)) a.P) := zsm_m (fun i hi => by
  have h1 := P_in hp hi
  have h2 := D320 G.V
  have h3 := zhl_5 G.V G.no1 (r := t) (d := a.P * p + i) (Or.inl ht)
  rw [Nat.mul_comm p a.P, C.hbl _ h1, z_pt C G (d := a.P * p + i) ht (bl40 G _), C.hru t _ (Or.inl ht) (by omega), zn_l (by omega) (by omega), zL_mul])
theorem z_sum {a : Ac} {I A : mI} {B : mB} (C : CR a I A B) {p : Nat} (hp : p < a.N) : sm (fun j => B 36 (p * a.P + j)) a.P = zL (zss a p) := zsm_m (fun i hi => by
  rw [Nat.mul_comm p a.P, C.hbl _ (P_in hp hi)])
theorem z_all {a : Ac} {I A : mI} {B : mB} (C : CR a I A B) (G : Gd a) : alb A B a.nt 36 a.P a.N 0 0 = zL (zal a) := zsm_m (fun p hp => z_int C G hp)
theorem mnu_c {g g' : Nat → Int64} {x : Nat} : ∀ {n : Nat}, (∀ j, j ≤ n → g (x + j) = g' (x + j)) → mnu g x n = mnu g' x n
  | 0, h => h 0 (Nat.le_refl _)
  | n + 1, h => by
    have e := mnu_c (n := n) (fun j hj => h j (by omega))
    show (if g (x + n + 1) < mnu g x n then g (x + n + 1) else mnu g x n) = (if g' (x + n + 1) < mnu g' x n then g' (x + n + 1) else mnu g' x n)
    rw [e, show x + n + 1 = x + (n + 1) by omega, h (n + 1) (Nat.le_refl _)]
theorem z_low {a : Ac} {I A : mI} {B : mB} (C : CR a I A B) (h1 : 1 ≤ a.P * a.N) : mnu (B 36) 0 (a.P * a.N - 1) = mnu (zB a) 0 (a.P * a.N - 1) := mnu_c (fun j hj => by
  rw [Nat.zero_add]
  exact C.hbl j (by omega))
theorem z_rm {a : Ac} {I A : mI} {B : mB} (C : CR a I A B) (V : Vw a) {d : Nat} (hd : d < a.P * a.N) : rmd A B d = zR a d := by
  have := D320 V
  unfold rmd zR
  rw [C.hbl d hd, show A 25 d = zN (zhl a 6 d) from C.hru 6 d (by omega) (by omega)]
  rfl
theorem z_room {a : Ac} {I A : mI} {B : mB} (C : CR a I A B) (V : Vw a) {d : Nat} (hd : d < a.P * a.N) : mnu (rmd A B) d (a.P * a.N - 1 - d) = mnu (zR a) d (a.P * a.N - 1 - d) := mnu_c (fun j hj => z_rm C V (by omega))
theorem z_by {a : Ac} {I A : mI} {B : mB} (C : CR a I A B) (V : Vw a) {d : Nat} (hd : d < a.P * a.N) : decide (rmd A B d < 0) = zby a d := by
  have h6 := zhl_b V (r := 6) (d := d) (by omega)
  simp only [if_true] at h6
  have hb := zbl_b V d
  rw [z_rm C V hd, zR_z V, zby]
  congr 1
  rw [zl_lt0 (by omega) (by omega)]
  exact propext (by omega)
theorem z_st {a : Ac} {I A : mI} {B : mB} (C : CR a I A B) {j : Nat} (hj : 1 + j < a.P * a.N) : stp B j = zst a j := by
  unfold stp zst
  rw [C.hbl _ hj, C.hbl _ (by omega)]
  rfl
