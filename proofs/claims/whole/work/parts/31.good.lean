/-! sums of sums; what an account must be for its interest to stay small -/
theorem zsm_swap {g : Nat → Nat → Int} {m : Nat} : ∀ {n : Nat}, zsm (fun i => zsm (fun j => g i j) m) n = zsm (fun j => zsm (fun i => g i j) n) m
  | 0 => (zsm_0 (n := m)).symm
  | n + 1 => by
    show zsm (fun i => zsm (fun j => g i j) m) n + zsm (fun j => g n j) m = _
    rw [zsm_swap (n := n), ← zsm_add]
    rfl
theorem zsm_ct {g : Nat → Int} {c : Nat → Bool} {M : Int} : ∀ {n : Nat}, (∀ i, i < n → (c i = true → -M ≤ g i ∧ g i ≤ M) ∧ (c i = false → g i = 0)) → -((ct c n : Int) * M) ≤ zsm g n ∧ zsm g n ≤ (ct c n : Int) * M
  | 0, _ => by simp [ct, zsm]
  | n + 1, h => by
    have ih := zsm_ct (n := n) (fun i hi => h i (by omega))
    have h2 := h n (by omega)
    show -(((ct c n + (if c n then 1 else 0) : Nat) : Int) * M) ≤ zsm g n + g n ∧ zsm g n + g n ≤ ((ct c n + (if c n then 1 else 0) : Nat) : Int) * M
    cases hc : c n with
    | true =>
      have h3 := h2.1 hc
      have e : ((ct c n + (if true = true then 1 else 0) : Nat) : Int) * M = (ct c n : Int) * M + M := by
        rw [if_pos rfl, Int.natCast_add, Int.add_mul]
        simp
      rw [e]
      omega
    | false =>
      have h3 := h2.2 hc
      rw [if_neg (by simp), Nat.add_zero, h3]
      omega
/-- the same terms, another course -/
def Sr (a x : Ac) : Prop :=
  (x.P = a.P) ∧
  (x.N = a.N) ∧
  (x.K = a.K) ∧
  (x.nt = a.nt) ∧
  (x.nc = a.nc) ∧
  (x.tr = a.tr) ∧
  (x.tt = a.tt) ∧
  (x.db = a.db) ∧
  (x.cd = a.cd) ∧
  (x.co = a.co) ∧
  (x.cv = a.cv) ∧
  (x.ti = a.ti) ∧
  (x.tb = a.tb) ∧
  (x.fo = a.fo)
theorem Sr.P {a x : Ac} (self : Sr a x) : x.P = a.P := self.1
theorem Sr.N {a x : Ac} (self : Sr a x) : x.N = a.N := self.2.1
theorem Sr.K {a x : Ac} (self : Sr a x) : x.K = a.K := self.2.2.1
theorem Sr.nt {a x : Ac} (self : Sr a x) : x.nt = a.nt := self.2.2.2.1
theorem Sr.nc {a x : Ac} (self : Sr a x) : x.nc = a.nc := self.2.2.2.2.1
theorem Sr.tr {a x : Ac} (self : Sr a x) : x.tr = a.tr := self.2.2.2.2.2.1
theorem Sr.tt {a x : Ac} (self : Sr a x) : x.tt = a.tt := self.2.2.2.2.2.2.1
theorem Sr.db {a x : Ac} (self : Sr a x) : x.db = a.db := self.2.2.2.2.2.2.2.1
theorem Sr.cd {a x : Ac} (self : Sr a x) : x.cd = a.cd := self.2.2.2.2.2.2.2.2.1
theorem Sr.co {a x : Ac} (self : Sr a x) : x.co = a.co := self.2.2.2.2.2.2.2.2.2.1
theorem Sr.cv {a x : Ac} (self : Sr a x) : x.cv = a.cv := self.2.2.2.2.2.2.2.2.2.2.1
theorem Sr.ti {a x : Ac} (self : Sr a x) : x.ti = a.ti := self.2.2.2.2.2.2.2.2.2.2.2.1
theorem Sr.tb {a x : Ac} (self : Sr a x) : x.tb = a.tb := self.2.2.2.2.2.2.2.2.2.2.2.2.1
theorem Sr.fo {a x : Ac} (self : Sr a x) : x.fo = a.fo := self.2.2.2.2.2.2.2.2.2.2.2.2.2
theorem Sr.mk {a x : Ac} (h_P : x.P = a.P) (h_N : x.N = a.N) (h_K : x.K = a.K) (h_nt : x.nt = a.nt) (h_nc : x.nc = a.nc) (h_tr : x.tr = a.tr) (h_tt : x.tt = a.tt) (h_db : x.db = a.db) (h_cd : x.cd = a.cd) (h_co : x.co = a.co) (h_cv : x.cv = a.cv) (h_ti : x.ti = a.ti) (h_tb : x.tb = a.tb) (h_fo : x.fo = a.fo) : Sr a x := ⟨h_P, h_N, h_K, h_nt, h_nc, h_tr, h_tt, h_db, h_cd, h_co, h_cv, h_ti, h_tb, h_fo⟩
theorem Sr.refl (a : Ac) : Sr a a := ⟨rfl, rfl, rfl, rfl, rfl, rfl, rfl, rfl, rfl, rfl, rfl, rfl, rfl, rfl⟩
theorem Sr.trans {a x y : Ac} (h : Sr a x) (g : Sr x y) : Sr a y := ⟨g.P.trans h.P, g.N.trans h.N, g.K.trans h.K, g.nt.trans h.nt, g.nc.trans h.nc, g.tr.trans h.tr, g.tt.trans h.tt, g.db.trans h.db, g.cd.trans h.cd, g.co.trans h.co, g.cv.trans h.cv, g.ti.trans h.ti, g.tb.trans h.tb, g.fo.trans h.fo⟩
theorem Sr.symm {a x : Ac} (h : Sr a x) : Sr x a := ⟨h.P.symm, h.N.symm, h.K.symm, h.nt.symm, h.nc.symm, h.tr.symm, h.tt.symm, h.db.symm, h.cd.symm, h.co.symm, h.cv.symm, h.ti.symm, h.tb.symm, h.fo.symm⟩
theorem sr_en {a : Ac} {s : Nat} {m : Int} {v : Nat} {o : Int32} : Sr a (zen a s m v o) := ⟨rfl, rfl, rfl, rfl, rfl, rfl, rfl, rfl, rfl, rfl, rfl, rfl, rfl, rfl⟩
theorem sr_sc {a : Ac} {c : Nat} : Sr a (a.setC c) := ⟨rfl, rfl, rfl, rfl, rfl, rfl, rfl, rfl, rfl, rfl, rfl, rfl, rfl, rfl⟩
theorem sr_cl {a : Ac} : Sr a (zcl a) := sr_en.trans sr_sc
theorem sr_rr {a : Ac} : ∀ k, Sr a (zrr a k)
  | 0 => Sr.refl a
  | k + 1 => by
    show Sr a (if _ then _ else _)
    split
    · exact sr_rr k
    · exact (sr_rr k).trans sr_en
theorem zlt_c {a x : Ac} (h : Sr a x) {r d : Nat} : ∀ k, zlt x r d k = zlt a r d k
  | 0 => by
    show ((-1 : Int), (if r < 4 then (x.tr r : Int) else x.db (r - 4))) = ((-1 : Int), (if r < 4 then (a.tr r : Int) else a.db (r - 4)))
    rw [h.tr, h.db]
  | k + 1 => by
    rw [zlt, zlt, zlt_c h k, h.co, h.cd, h.cv]
theorem zhl_c {a x : Ac} (h : Sr a x) {r d : Nat} : zhl x r d = zhl a r d := by
  simp only [zhl, h.fo, h.ti, h.tb, h.nc, zlt_c h]
theorem zpt_c {a x : Ac} (h : Sr a x) {d t : Nat} {b : Int} : zpt x d b t = zpt a d b t := by
  unfold zpt zwi zab zfr
  rw [h.nt, h.tt, zhl_c h]
theorem zer_c {a x : Ac} (h : Sr a x) {d : Nat} {b : Int} : zer x d b = zer a d b := by
  simp only [zer, h.nt, zpt_c h, zhl_c h]
theorem zow_c {a x : Ac} (h : Sr a x) {d : Nat} {b : Int} : zow x d b = zow a d b := by
  simp only [zow, h.nt, zpt_c h, zhl_c h]
theorem zpr_c {a x : Ac} (h : Sr a x) {d : Nat} {b : Int} : zpr x d b = zpr a d b := by
  simp only [zpr, zer_c h, zow_c h]
theorem zpz_c {a x : Ac} (h : Sr a x) {b : Nat → Int} {p : Nat} : zpz x b p = zpz a b p := by
  simp only [zpz, h.P, zpr_c h]
theorem zcm_c {a x : Ac} (h : Sr a x) {p : Nat} : zcm x p = zcm a p := by
  simp only [zcm, h.P, h.K]
/-- by other balances, alike on the period's days -/
theorem zpz_b2 {a : Ac} {b b' : Nat → Int} {p : Nat} (h : ∀ d, a.P * p ≤ d → d < a.P * (p + 1) → b d = b' d) : zpz a b p = zpz a b' p :=
  zsm_congr (fun i hi => by
    show zpr a _ (b _) = zpr a _ (b' _)
    rw [h (a.P * p + i) (by omega) (by rw [Nat.mul_succ]; omega)])
/-- of a compounding day: behind the period -/
theorem zcm_ge {a : Ac} (V : Vw a) (p : Nat) : a.P * (p + 1) ≤ zcm a p := by
  have h1 := V.K1
  have h2 : p + 1 ≤ a.K * (p / a.K + 1) := by
    have := Nat.div_add_mod p a.K
    have := Nat.mod_lt p h1
    rw [Nat.mul_succ]
    omega
  have h3 := Nat.mul_le_mul_left a.P h2
  rw [← Nat.mul_assoc] at h3
  exact h3
theorem zcm_le {a : Ac} (V : Vw a) {p : Nat} (hp : p < 8) : zcm a p ≤ 1440 := by
  have h1 := V.K1
  have h2 : p / a.K + 1 ≤ 9 := by
    have := Nat.div_le_self p a.K
    omega
  have h3 := Nat.mul_le_mul (Nat.mul_le_mul V.P40 V.K4) h2
  exact h3
/-- paid, drawn, turned back, up to a day -/
def zpb (a : Ac) (d : Nat) : Int := zsm (fun j => if a.so j = 1 ∨ a.so j = 2 then 0 else if a.va j ≤ d then a.am j else 0) a.n
def Gd (a : Ac) : Prop :=
  (Vw a) ∧
  (∀ t, t + 1 < a.nt → 0 < a.tt t ∧ (a.tt (t + 1) = 0 ∨ a.tt t < a.tt (t + 1))) ∧
  (a.ti = none) ∧
  (a.fo = none) ∧
  (∀ j, j < a.n → ¬ (a.so j = 1 ∨ a.so j = 2) → -99999 ≤ a.am j ∧ a.am j ≤ 99999) ∧
  (ct (fun j => decide (¬ (a.so j = 1 ∨ a.so j = 2))) a.n ≤ 80) ∧
  (∀ j, j < a.n → (a.so j = 1 ∨ a.so j = 2) → ∃ p, p < a.c ∧ a.og j = nI p ∧ a.va j = zcm a p) ∧
  (∀ p, p < 8 → -1000000 ≤ zbk a p ∧ zbk a p ≤ 1000000)
theorem Gd.V {a : Ac} (self : Gd a) : Vw a := self.1
theorem Gd.tu {a : Ac} (self : Gd a) : ∀ t, t + 1 < a.nt → 0 < a.tt t ∧ (a.tt (t + 1) = 0 ∨ a.tt t < a.tt (t + 1)) := self.2.1
theorem Gd.no1 {a : Ac} (self : Gd a) : a.ti = none := self.2.2.1
theorem Gd.no2 {a : Ac} (self : Gd a) : a.fo = none := self.2.2.2.1
theorem Gd.pr {a : Ac} (self : Gd a) : ∀ j, j < a.n → ¬ (a.so j = 1 ∨ a.so j = 2) → -99999 ≤ a.am j ∧ a.am j ≤ 99999 := self.2.2.2.2.1
theorem Gd.pn {a : Ac} (self : Gd a) : ct (fun j => decide (¬ (a.so j = 1 ∨ a.so j = 2))) a.n ≤ 80 := self.2.2.2.2.2.1
theorem Gd.ip {a : Ac} (self : Gd a) : ∀ j, j < a.n → (a.so j = 1 ∨ a.so j = 2) → ∃ p, p < a.c ∧ a.og j = nI p ∧ a.va j = zcm a p := self.2.2.2.2.2.2.1
theorem Gd.bk {a : Ac} (self : Gd a) : ∀ p, p < 8 → -1000000 ≤ zbk a p ∧ zbk a p ≤ 1000000 := self.2.2.2.2.2.2.2
theorem Gd.mk {a : Ac} (h_V : Vw a) (h_tu : ∀ t, t + 1 < a.nt → 0 < a.tt t ∧ (a.tt (t + 1) = 0 ∨ a.tt t < a.tt (t + 1))) (h_no1 : a.ti = none) (h_no2 : a.fo = none) (h_pr : ∀ j, j < a.n → ¬ (a.so j = 1 ∨ a.so j = 2) → -99999 ≤ a.am j ∧ a.am j ≤ 99999) (h_pn : ct (fun j => decide (¬ (a.so j = 1 ∨ a.so j = 2))) a.n ≤ 80) (h_ip : ∀ j, j < a.n → (a.so j = 1 ∨ a.so j = 2) → ∃ p, p < a.c ∧ a.og j = nI p ∧ a.va j = zcm a p) (h_bk : ∀ p, p < 8 → -1000000 ≤ zbk a p ∧ zbk a p ≤ 1000000) : Gd a := ⟨h_V, h_tu, h_no1, h_no2, h_pr, h_pn, h_ip, h_bk⟩
theorem zbl_d {a : Ac} (G : Gd a) (d : Nat) : zbl a d = zpb a d + zsm (fun p => if zcm a p ≤ d then zbk a p else 0) 8 := by
  have hN := G.V.N8
  have hc := G.V.cN
  have e1 : ∀ j, j < a.n → (if a.va j ≤ d then a.am j else 0) = (if a.so j = 1 ∨ a.so j = 2 then 0 else if a.va j ≤ d then a.am j else 0) + zsm (fun p => if zcm a p ≤ d then (if (a.so j = 1 ∨ a.so j = 2) ∧ a.og j = nI p then a.am j else 0) else 0) 8 := by
    intro j hj
    by_cases hs : a.so j = 1 ∨ a.so j = 2
    · obtain ⟨p, hp, ho, hv⟩ := G.ip j hj hs
      rw [if_pos hs, Int.zero_add]
      refine Eq.trans ?_ (zsm_one (g := fun p => if zcm a p ≤ d then (if (a.so j = 1 ∨ a.so j = 2) ∧ a.og j = nI p then a.am j else 0) else 0) (e := p) (n := 8) (by omega) ?_).symm
      · show _ = if zcm a p ≤ d then (if (a.so j = 1 ∨ a.so j = 2) ∧ a.og j = nI p then a.am j else 0) else 0
        rw [if_pos (c := (a.so j = 1 ∨ a.so j = 2) ∧ a.og j = nI p) ⟨hs, ho⟩, hv]
      · intro q hq hne
        show (if zcm a q ≤ d then (if (a.so j = 1 ∨ a.so j = 2) ∧ a.og j = nI q then a.am j else 0) else 0) = 0
        rw [if_neg (c := (a.so j = 1 ∨ a.so j = 2) ∧ a.og j = nI q) (fun z => hne ((nI_eq (by omega) (by omega)).mp (z.2.symm.trans ho)))]
        split <;> rfl
    · have e : zsm (fun p => if zcm a p ≤ d then (if (a.so j = 1 ∨ a.so j = 2) ∧ a.og j = nI p then a.am j else 0) else 0) 8 = 0 := zsm_z (fun q _ => by
        show (if zcm a q ≤ d then (if (a.so j = 1 ∨ a.so j = 2) ∧ a.og j = nI q then a.am j else 0) else 0) = 0
        rw [if_neg (c := (a.so j = 1 ∨ a.so j = 2) ∧ a.og j = nI q) (fun z => hs z.1)]
        split <;> rfl)
      rw [if_neg hs, e, Int.add_zero]
  show zsm (fun j => if a.va j ≤ d then a.am j else 0) a.n = _
  rw [zsm_congr e1, zsm_add, zsm_swap]
  show zpb a d + _ = _
  congr 1
  refine zsm_congr (fun p hp => ?_)
  show zsm (fun j => if zcm a p ≤ d then (if (a.so j = 1 ∨ a.so j = 2) ∧ a.og j = nI p then a.am j else 0) else 0) a.n = if zcm a p ≤ d then zbk a p else 0
  by_cases h : zcm a p ≤ d
  · simp only [if_pos h]
    rfl
  · simp only [if_neg h]
    exact zsm_0
theorem zpb_g {a : Ac} (G : Gd a) (d : Nat) : -7999920 ≤ zpb a d ∧ zpb a d ≤ 7999920 := by
  have h := zsm_ct (g := fun j => if a.so j = 1 ∨ a.so j = 2 then 0 else if a.va j ≤ d then a.am j else 0) (c := fun j => decide (¬ (a.so j = 1 ∨ a.so j = 2))) (M := 99999) (n := a.n) (fun i hi => ⟨fun z => by
    have z2 := of_decide_eq_true z
    have := G.pr i hi z2
    show -99999 ≤ (if a.so i = 1 ∨ a.so i = 2 then 0 else if a.va i ≤ d then a.am i else 0) ∧ (if a.so i = 1 ∨ a.so i = 2 then 0 else if a.va i ≤ d then a.am i else 0) ≤ 99999
    rw [if_neg z2]
    split <;> omega, fun z => by
    have z2 : a.so i = 1 ∨ a.so i = 2 := Classical.not_not.mp (of_decide_eq_false z)
    exact if_pos z2⟩)
  have h2 := G.pn
  unfold zpb
  omega
theorem zbl_g {a : Ac} (G : Gd a) (d : Nat) : -16000000 ≤ zbl a d ∧ zbl a d ≤ 16000000 := by
  have h1 := zpb_g G d
  have h2 := zsm_b (g := fun p => if zcm a p ≤ d then zbk a p else 0) (M := 1000000) (n := 8) (fun p hp => by
    have := G.bk p hp
    show -1000000 ≤ (if zcm a p ≤ d then zbk a p else 0) ∧ (if zcm a p ≤ d then zbk a p else 0) ≤ 1000000
    split <;> omega)
  rw [zbl_d G d]
  omega
/-- the parts of a balance above 0, of the first tiers, together -/
theorem zpt_s {a : Ac} (tu : ∀ t, t + 1 < a.nt → 0 < a.tt t ∧ (a.tt (t + 1) = 0 ∨ a.tt t < a.tt (t + 1))) {d : Nat} {b : Int} (hb : 0 < b) : ∀ i, i ≤ a.nt → zsm (fun t => zpt a d b t) i = if i = 0 then 0 else if a.tt (i - 1) = 0 then b else if b < a.tt (i - 1) then b else a.tt (i - 1)
  | 0, _ => rfl
  | i + 1, hi => by
    have ih := zpt_s tu (d := d) hb i (by omega)
    show zsm (fun t => zpt a d b t) i + zpt a d b i = _
    rw [ih]
    show _ = if i + 1 = 0 then 0 else if a.tt i = 0 then b else if b < a.tt i then b else a.tt i
    rw [if_neg (c := i + 1 = 0) (by omega)]
    by_cases h0 : i = 0
    · subst h0
      rw [if_pos rfl]
      by_cases h1 : a.tt 0 = 0
      · rw [zpt_u (by omega) (by omega) (by omega) (by omega), if_pos h1]
        simp only [zab, zfr, if_true]
        split <;> omega
      · rw [zpt_a (by omega) (by omega) (by omega) (by omega), if_neg h1]
        simp only [zab, zfr, if_true]
        repeat' split
        all_goals omega
    · have ht := tu (i - 1) (by omega)
      rw [show i - 1 + 1 = i by omega] at ht
      rw [if_neg h0, if_neg (show ¬ a.tt (i - 1) = 0 by omega)]
      by_cases h1 : a.tt i = 0
      · rw [zpt_u (by omega) (by omega) (by omega) (by omega), if_pos h1]
        simp only [zab, zfr, if_neg h0]
        repeat' split
        all_goals omega
      · rw [zpt_a (by omega) (by omega) (by omega) (by omega), if_neg h1]
        simp only [zab, zfr, if_neg h0]
        repeat' split
        all_goals omega
theorem zpt_n {a : Ac} (tu : ∀ t, t + 1 < a.nt → 0 < a.tt t ∧ (a.tt (t + 1) = 0 ∨ a.tt t < a.tt (t + 1))) {d t : Nat} {b : Int} (ht : t < a.nt) : 0 ≤ zpt a d b t := by
  have hf : 0 ≤ zfr a t ∧ (0 < a.tt t → zfr a t ≤ a.tt t) := by
    unfold zfr
    split
    · omega
    · have := tu (t - 1) (by omega)
      rw [show t - 1 + 1 = t by omega] at this
      omega
  unfold zpt zab
  repeat' split
  all_goals omega
theorem zhl_5 {a : Ac} (V : Vw a) (n1 : a.ti = none) {r d : Nat} (hr : r < a.nt ∨ 4 ≤ r ∧ r ≤ 5) : 0 ≤ zhl a r d ∧ zhl a r d ≤ 5000 := by
  have h4 := V.nt4
  have h := zlt_b V (d := d) (r := r) (by omega) (Nat.le_refl a.nc)
  rw [if_neg (by omega)] at h
  rw [zhl_n (by omega) (by rw [n1]; simp)]
  omega
theorem zer_g {a : Ac} (G : Gd a) {d : Nat} {b : Int} : 0 ≤ zer a d b ∧ zer a d b ≤ (if 0 < b then 5000 * b else 0) := by
  by_cases hb : 0 < b
  · rw [if_pos hb]
    have h1 : zsm (fun t => zpt a d b t * zhl a t d) a.nt ≤ zsm (fun t => 5000 * zpt a d b t) a.nt := zsm_mono (fun t ht => by
      have p := zpt_n G.tu (d := d) (b := b) ht
      have q := zhl_5 G.V G.no1 (r := t) (d := d) (Or.inl ht)
      have := Int.mul_le_mul_of_nonneg_left q.2 p
      show zpt a d b t * zhl a t d ≤ 5000 * zpt a d b t
      rw [Int.mul_comm 5000]
      exact this)
    have h2 : 0 ≤ zsm (fun t => zpt a d b t * zhl a t d) a.nt := by
      have := zsm_mono (g := fun _ => 0) (g' := fun t => zpt a d b t * zhl a t d) (n := a.nt) (fun t ht => Int.mul_nonneg (zpt_n G.tu ht) (zhl_5 G.V G.no1 (r := t) (d := d) (Or.inl ht)).1)
      rw [zsm_0] at this
      exact this
    have h3 : ∀ n, zsm (fun t => 5000 * zpt a d b t) n = 5000 * zsm (fun t => zpt a d b t) n := fun n => by
      induction n with
      | zero => rfl
      | succ n ih =>
        show zsm (fun t => 5000 * zpt a d b t) n + 5000 * zpt a d b n = 5000 * (zsm (fun t => zpt a d b t) n + zpt a d b n)
        rw [ih, Int.mul_add]
    have h4 := zpt_s G.tu (d := d) hb a.nt (Nat.le_refl _)
    have h5 : zsm (fun t => zpt a d b t) a.nt ≤ b := by
      rw [h4]
      repeat' split
      all_goals omega
    rw [h3] at h1
    unfold zer
    omega
  · rw [if_neg hb]
    have : zer a d b = 0 := zer_0 (by omega) a.nt (Nat.le_refl _)
    omega
theorem zow_g {a : Ac} (G : Gd a) {d : Nat} {b : Int} : 0 ≤ zow a d b ∧ zow a d b ≤ (if b < 0 then 5000 * (-b) else 0) := by
  unfold zow
  by_cases hb : b < 0
  · rw [if_pos hb, if_pos hb, zpt_w hb, zpt_o hb (by omega) (by omega)]
    have h6 := zhl_b G.V (r := 6) (d := d) (by omega)
    have q4 := zhl_5 G.V G.no1 (r := 4) (d := d) (by omega)
    have q5 := zhl_5 G.V G.no1 (r := 5) (d := d) (by omega)
    have key : ∀ x y : Int, 0 ≤ x → 0 ≤ y → x + y = -b → 0 ≤ x * zhl a 4 d + y * zhl a 5 d ∧ x * zhl a 4 d + y * zhl a 5 d ≤ 5000 * (-b) := fun x y hx hy e => by
      have m1 := Int.mul_le_mul_of_nonneg_left q4.2 hx
      have m2 := Int.mul_le_mul_of_nonneg_left q5.2 hy
      have m3 := Int.mul_nonneg hx q4.1
      have m4 := Int.mul_nonneg hy q5.1
      omega
    by_cases z : zhl a 6 d < -b
    · rw [if_pos z]
      exact key _ _ (by omega) (by omega) (by omega)
    · rw [if_neg z]
      exact key _ _ (by omega) (by omega) (by omega)
  · rw [if_neg hb, if_neg hb]
    omega
theorem zpr_g {a : Ac} (G : Gd a) {d : Nat} {b M : Int} (h1 : -M ≤ b) (h2 : b ≤ M) : -(5000 * M) ≤ zpr a d b ∧ zpr a d b ≤ 5000 * M := by
  have p := zer_g G (d := d) (b := b)
  have q := zow_g G (d := d) (b := b)
  unfold zpr
  split at p <;> split at q <;> omega
theorem zpz_g {a : Ac} (G : Gd a) {b : Nat → Int} {p : Nat} (h : ∀ d, -16000000 ≤ b d ∧ b d ≤ 16000000) : -3200000000000 ≤ zpz a b p ∧ zpz a b p ≤ 3200000000000 := by
  have h1 := zsm_b (g := fun i => zpr a (a.P * p + i) (b (a.P * p + i))) (M := 80000000000) (n := a.P) (fun i _ => zpr_g G (M := 16000000) (h _).1 (h _).2)
  have h2 := G.V.P40
  unfold zpz
  omega
theorem znr_g {z : Int} (h1 : -3200000000000 ≤ z) (h2 : z ≤ 3200000000000) : -1000000 ≤ znr z ∧ znr z ≤ 1000000 := by
  unfold znr
  split <;> omega
theorem zit_g {a : Ac} (G : Gd a) (p : Nat) : -1000000 ≤ zit a p ∧ zit a p ≤ 1000000 := by
  have h := zpz_g G (b := zbl a) (p := p) (zbl_g G)
  exact znr_g h.1 h.2
/-! one entry more -/
theorem zsm_up {g g' : Nat → Int} {n : Nat} {x : Int} (h : ∀ i, i < n → g' i = g i) (hx : g' n = x) : zsm g' (n + 1) = zsm g n + x := by
  rw [zsm, zsm_congr h, hx]
theorem zbk_en {a : Ac} {s : Nat} {m : Int} {v : Nat} {o : Int32} {p : Nat} : zbk (zen a s m v o) p = zbk a p + if (s = 1 ∨ s = 2) ∧ o = nI p then m else 0 := by
  refine zsm_up (fun i hi => ?_) ?_
  · show (if (zup a.so a.n s i = 1 ∨ zup a.so a.n s i = 2) ∧ zup a.og a.n o i = nI p then zup a.am a.n m i else 0) = _
    rw [zup_n (by omega), zup_n (by omega), zup_n (by omega)]
  · show (if (zup a.so a.n s a.n = 1 ∨ zup a.so a.n s a.n = 2) ∧ zup a.og a.n o a.n = nI p then zup a.am a.n m a.n else 0) = _
    rw [zup_s, zup_s, zup_s]
theorem zbl_en {a : Ac} {s : Nat} {m : Int} {v : Nat} {o : Int32} {d : Nat} : zbl (zen a s m v o) d = zbl a d + if v ≤ d then m else 0 := by
  refine zsm_up (fun i hi => ?_) ?_
  · show (if zup a.va a.n v i ≤ d then zup a.am a.n m i else 0) = _
    rw [zup_n (by omega), zup_n (by omega)]
  · show (if zup a.va a.n v a.n ≤ d then zup a.am a.n m a.n else 0) = _
    rw [zup_s, zup_s]
theorem zpb_en {a : Ac} {s : Nat} {m : Int} {v : Nat} {o : Int32} {d : Nat} : zpb (zen a s m v o) d = zpb a d + if s = 1 ∨ s = 2 then 0 else if v ≤ d then m else 0 := by
  refine zsm_up (fun i hi => ?_) ?_
  · show (if zup a.so a.n s i = 1 ∨ zup a.so a.n s i = 2 then 0 else if zup a.va a.n v i ≤ d then zup a.am a.n m i else 0) = _
    rw [zup_n (by omega), zup_n (by omega), zup_n (by omega)]
  · show (if zup a.so a.n s a.n = 1 ∨ zup a.so a.n s a.n = 2 then 0 else if zup a.va a.n v a.n ≤ d then zup a.am a.n m a.n else 0) = _
    rw [zup_s, zup_s, zup_s]
theorem vw_en {a : Ac} (V : Vw a) {s : Nat} {m : Int} {v : Nat} {o : Int32} (hn : a.n + 1 ≤ 480) (hs : s ≤ 3) (hv : v ≤ 4000) (hm : -16777216 ≤ m ∧ m ≤ 16777216) : Vw (zen a s m v o) := by
  have hc := V.cN
  have hN := V.N8
  refine (Vw.mk (Vw.P40 V :) (Vw.N8 V :) (Vw.K1 V :) (Vw.K4 V :) (Vw.cN V :) (hn) (Vw.nt4 V :) (Vw.nc4 V :) (fun j hj => ?_) (fun j hj => ?_) (fun j hj => ?_) (fun j hj => ?_) (Vw.tr5 V :) (Vw.tt9 V :) (Vw.db0 V :) (Vw.db2 V :) (Vw.cd3 V :) (Vw.co6 V :) (Vw.cv5 V :) (Vw.cv9 V :) (Vw.tb5 V :) (Vw.ti4 V :) (Vw.fo9 V :))
  · show zup a.so a.n s j ≤ 3
    by_cases e : j = a.n
    · rw [e, zup_s]; exact hs
    · rw [zup_n e]; exact V.so3 j (by have : j < a.n + 1 := hj; omega)
  · show zup a.va a.n v j ≤ 4000
    by_cases e : j = a.n
    · rw [e, zup_s]; exact hv
    · rw [zup_n e]; exact V.va9 j (by have : j < a.n + 1 := hj; omega)
  · show zup a.pg a.n a.c j ≤ 8
    by_cases e : j = a.n
    · rw [e, zup_s]; omega
    · rw [zup_n e]; exact V.pg8 j (by have : j < a.n + 1 := hj; omega)
  · show -16777216 ≤ zup a.am a.n m j ∧ zup a.am a.n m j ≤ 16777216
    by_cases e : j = a.n
    · rw [e, zup_s]; exact hm
    · rw [zup_n e]; exact V.am1 j (by have : j < a.n + 1 := hj; omega)
theorem vw_sc {a : Ac} (V : Vw a) {c : Nat} (hc : c ≤ a.N) : Vw (a.setC c) := (Vw.mk (Vw.P40 V :) (Vw.N8 V :) (Vw.K1 V :) (Vw.K4 V :) (hc) (Vw.n4 V :) (Vw.nt4 V :) (Vw.nc4 V :) (Vw.so3 V :) (Vw.va9 V :) (Vw.pg8 V :) (Vw.am1 V :) (Vw.tr5 V :) (Vw.tt9 V :) (Vw.db0 V :) (Vw.db2 V :) (Vw.cd3 V :) (Vw.co6 V :) (Vw.cv5 V :) (Vw.cv9 V :) (Vw.tb5 V :) (Vw.ti4 V :) (Vw.fo9 V :))
theorem zbk_0 {a : Ac} (G : Gd a) {p : Nat} (hp : a.c ≤ p) (hp2 : p < 2 ^ 20) : zbk a p = 0 := zsm_z (fun j hj => by
  have hN := G.V.N8
  have hc := G.V.cN
  refine if_neg (fun z => ?_)
  obtain ⟨q, hq, ho, -⟩ := G.ip j hj z.1
  have := (nI_eq (by omega) (by omega)).mp (z.2.symm.trans ho)
  omega)
/-- an entry of interest more: of a period whose interest it makes that of now -/
theorem gd_en {a : Ac} (G : Gd a) {s p c : Nat} {m : Int} (hn : a.n + 1 ≤ 480) (hs : s = 1 ∨ s = 2) (hp : p < c) (hc : a.c ≤ c) (hcN : c ≤ a.N) (hm : m = zit a p - zbk a p) : Gd ((zen a s m (zcm a p) (nI p)).setC c) := by
  have hN := G.V.N8
  have h1 := zit_g G p
  have h2 := G.bk p (by omega)
  have h3 := zcm_le G.V (p := p) (by omega)
  refine Gd.mk (vw_sc (vw_en G.V hn (by omega) (by omega) (by omega)) hcN) G.tu G.no1 G.no2 (fun j hj => ?_) ?_ (fun j hj => ?_) (fun q hq => ?_)
  · have hj' : j < a.n + 1 := hj
    show ¬ (zup a.so a.n s j = 1 ∨ zup a.so a.n s j = 2) → -99999 ≤ zup a.am a.n m j ∧ zup a.am a.n m j ≤ 99999
    by_cases e : j = a.n
    · rw [e, zup_s]
      exact fun z => absurd hs z
    · rw [zup_n e, zup_n e]
      exact G.pr j (by omega)
  · show ct (fun j => decide (¬ (zup a.so a.n s j = 1 ∨ zup a.so a.n s j = 2))) a.n + (if decide (¬ (zup a.so a.n s a.n = 1 ∨ zup a.so a.n s a.n = 2)) = true then 1 else 0) ≤ 80
    rw [zup_s, if_neg (by simp; omega), ct_congr (g' := fun j => decide (¬ (a.so j = 1 ∨ a.so j = 2))) (fun i hi => by rw [zup_n (by omega)])]
    exact G.pn
  · have hj' : j < a.n + 1 := hj
    show (zup a.so a.n s j = 1 ∨ zup a.so a.n s j = 2) → ∃ q, q < c ∧ zup a.og a.n (nI p) j = nI q ∧ zup a.va a.n (zcm a p) j = zcm a q
    by_cases e : j = a.n
    · rw [e, zup_s, zup_s, zup_s]
      exact fun _ => ⟨p, hp, rfl, rfl⟩
    · rw [zup_n e, zup_n e, zup_n e]
      intro z
      obtain ⟨q, hq, ho, hv⟩ := G.ip j (by omega) z
      exact ⟨q, by omega, ho, hv⟩
  · show -1000000 ≤ zbk (zen a s m (zcm a p) (nI p)) q ∧ zbk (zen a s m (zcm a p) (nI p)) q ≤ 1000000
    rw [zbk_en]
    have h4 := G.bk q hq
    by_cases e : q = p
    · subst e
      rw [if_pos ⟨hs, rfl⟩]
      omega
    · rw [if_neg (fun z => e ((nI_eq (by omega) (by omega)).mp z.2).symm)]
      omega
theorem gd_cl {a : Ac} (G : Gd a) (hn : a.n + 1 ≤ 480) (ho : a.c < a.N) : Gd (zcl a) := by
  have h0 := zbk_0 G (p := a.c) (Nat.le_refl _) (by have := G.V.N8; omega)
  exact gd_en G hn (Or.inl rfl) (Nat.lt_succ_self _) (Nat.le_succ _) ho (by rw [h0]; omega)
theorem gd_cr {a : Ac} (G : Gd a) {p : Nat} (hn : a.n + 1 ≤ 480) (hp : p < a.c) : Gd (zen a 2 (zit a p - zbk a p) (zcm a p) (nI p)) :=
  gd_en G (c := a.c) hn (Or.inr rfl) hp (Nat.le_refl _) G.V.cN rfl
theorem rr_c {a : Ac} : ∀ k, (zrr a k).c = a.c ∧ (zrr a k).n ≤ a.n + k ∧ a.n ≤ (zrr a k).n
  | 0 => ⟨rfl, Nat.le_refl _, Nat.le_refl _⟩
  | k + 1 => by
    have ih := rr_c (a := a) k
    show (Ac.c (if _ then _ else _)) = _ ∧ Ac.n (if _ then _ else _) ≤ _ ∧ _ ≤ Ac.n (if _ then _ else _)
    split
    · omega
    · show (zrr a k).c = a.c ∧ (zrr a k).n + 1 ≤ a.n + (k + 1) ∧ a.n ≤ (zrr a k).n + 1
      omega
theorem gd_rr {a : Ac} (G : Gd a) (hn : a.n + a.c ≤ 480) : ∀ k, k ≤ a.c → Gd (zrr a k)
  | 0, _ => G
  | k + 1, hk => by
    have ih := gd_rr G hn k (by omega)
    have h2 := rr_c (a := a) k
    show Gd (if _ then _ else _)
    split
    · exact ih
    · exact gd_cr ih (by omega) (by omega)
