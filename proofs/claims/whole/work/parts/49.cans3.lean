/-! what would be: the class's words, by an account -/
theorem zsm_d {f f' : Nat → Int} {e n : Nat} {x : Int} (he : e < n) (h1 : f' e = f e + x) (h2 : ∀ j, j < n → j ≠ e → f' j = f j) : zsm f' n = zsm f n + x := by
  have e1 : zsm f' n = zsm (fun j => f j + (if j = e then x else 0)) n := zsm_congr (fun j hj => by
    by_cases z : j = e
    · subst z
      rw [if_pos rfl]
      exact h1
    · rw [if_neg z, Int.add_zero]
      exact h2 j hj z)
  rw [e1, zsm_add, zsm_one (g := fun j => if j = e then x else 0) he (fun i _ hne => if_neg hne)]
  rw [if_pos rfl]
theorem sr_am {a : Ac} {e : Nat} {m : Int} : Sr a (zam a e m) := ⟨rfl, rfl, rfl, rfl, rfl, rfl, rfl, rfl, rfl, rfl, rfl, rfl, rfl, rfl⟩
theorem sr_va {a : Ac} {e v : Nat} : Sr a (zva a e v) := ⟨rfl, rfl, rfl, rfl, rfl, rfl, rfl, rfl, rfl, rfl, rfl, rfl, rfl, rfl⟩
theorem zbl_am {a : Ac} {e d : Nat} {m : Int} (he : e < a.n) : zbl (zam a e m) d = zbl a d + (if a.va e ≤ d then m - a.am e else 0) := zsm_d he (by
  show (if a.va e ≤ d then zup a.am e m e else 0) = (if a.va e ≤ d then a.am e else 0) + _
  rw [zup_s]
  split <;> omega) (fun j _ hne => by
  show (if a.va j ≤ d then zup a.am e m j else 0) = _
  rw [zup_n hne])
theorem zbl_va {a : Ac} {e d v : Nat} (he : e < a.n) : zbl (zva a e v) d = zbl a d + ((if v ≤ d then a.am e else 0) - (if a.va e ≤ d then a.am e else 0)) := zsm_d he (by
  show (if zup a.va e v e ≤ d then a.am e else 0) = (if a.va e ≤ d then a.am e else 0) + _
  rw [zup_s]
  omega) (fun j _ hne => by
  show (if zup a.va e v j ≤ d then a.am j else 0) = _
  rw [zup_n hne])
theorem znr_61 {z : Int} (h1 : -2 ^ 61 ≤ z) (h2 : z ≤ 2 ^ 61) : -2 ^ 42 ≤ znr z ∧ znr z ≤ 2 ^ 42 := by
  unfold znr
  split <;> omega
/-- interest by balances that are so much more from a day on -/
theorem z_imo {a : Ac} {I A : mI} {B : mB} (C : CR a I A B) (G : Gd a) {q p : Nat} {b : Nat → Int} (hB : ∀ d, d < a.P * a.N → B q d = zL (b d)) (hb : ∀ d, -2 ^ 32 ≤ b d ∧ b d ≤ 2 ^ 32) (hp : p < a.N) {fr : Nat} {m : Int} {xf : Int32} {xm : Int64} (ef : xf = nI fr) (em : xm = zL m) (hf : fr < 2 ^ 20) (hm : -2 ^ 32 ≤ m ∧ m ≤ 2 ^ 32) : nea (pds A B a.nt q a.P p xf xm) = zL (znr (zpz a (zmo b fr m) p)) := by
  subst ef; subst em
  have h1 : ∀ d, -2 ^ 34 ≤ zmo b fr m d ∧ zmo b fr m d ≤ 2 ^ 34 := fun d => by
    have := hb d
    unfold zmo
    split <;> omega
  rw [pds_z C G hB (fun d => by have := hb d; omega) hp hf (by omega), nea_z (zpz_61 G h1).1 (zpz_61 G h1).2]
theorem bl32 {a : Ac} (G : Gd a) (d : Nat) : -2 ^ 32 ≤ zbl a d ∧ zbl a d ≤ 2 ^ 32 := by have := zbl_g G d; omega
theorem it_x {a x : Ac} (S : Sr a x) {b : Nat → Int} (hb : ∀ d, zbl x d = b d) (p : Nat) : zit x p = znr (zpz a b p) := by
  show znr (zpz x (zbl x) p) = _
  rw [zpz_c S]
  congr 1
  exact zpz_b2 (fun d _ _ => hb d)
theorem am_mo {a : Ac} {e d : Nat} (he : e < a.n) : zbl (zam a e 0) d = zmo (zbl a) (a.va e) (-a.am e) d := by
  rw [zbl_am he]
  unfold zmo
  split <;> omega
theorem z_gin {a : Ac} {I A : mI} {B : mB} (C : CR a I A B) (G : Gd a) {e p : Nat} (he : e < a.n) (hp : p < a.N) : gin A B a.nt a.P e p = zca a p e := by
  have h1 := G.V.am1 e he
  have h2 := G.V.va9 e he
  unfold gin
  rw [z_int C G hp, z_imo C G C.hbl (bl32 G) hp (fr := a.va e) (m := -a.am e) (C.hva e he) (by rw [C.ham e he, zL_neg]) (by omega) (by omega), zL_sub]
  unfold zca
  rw [it_x sr_am (fun d => am_mo he)]
theorem z_brought {a : Ac} {I A : mI} {B : mB} (C : CR a I A B) (G : Gd a) {e : Nat} (he : e < a.n) : sm (fun p => gin A B a.nt a.P e p) a.N = zL (zal a - zal (zam a e 0)) := by
  have e1 : zal a - zal (zam a e 0) = zsm (fun p => zit a p - zit (zam a e 0) p) a.N := (zsm_sub).symm
  rw [e1]
  exact zsm_m (fun p hp => z_gin C G he hp)
theorem mgl_c {g g' : Nat → Int64} {n : Nat} (h : ∀ e, e < n → g e = g' e) : mgl g n = mgl g' n := by
  induction n with
  | zero => rfl
  | succ n ih =>
    rw [mgl, mgl, ih (fun e he => h e (by omega)), h n (by omega)]
theorem z_blame {a : Ac} {I A : mI} {B : mB} (C : CR a I A B) (G : Gd a) {p : Nat} (hp : p < a.N) : mgl (fun e => abl (gin A B a.nt a.P e p)) a.n = mgl (fun e => abl (zca a p e)) a.n := mgl_c (fun e he => by rw [z_gin C G he hp])
/-- the balances without an entry -/
theorem wob_z {a : Ac} {I A : mI} {B : mB} (C : CR a I A B) (V : Vw a) {e : Nat} (he : e < a.n) {d : Nat} (hd : d < a.P * a.N) : wob A B a.va (a.P * a.N) e 37 d = zL (zbl (zam a e 0) d) := by
  have h3 := D320 V
  have e1 : tbl B 37 d = zL (zbl a d) := by
    show up1 B 37 _ 37 d = _
    show (if 37 = 37 then va_cpy (B 36) (B 37) 0 0 320 d else _) = _
    rw [if_pos rfl]
    show (if 0 ≤ d ∧ d < 0 + 320 then B 36 (0 + (d - 0)) else B 37 d) = _
    rw [if_pos (by omega), show 0 + (d - 0) = d by omega, C.hbl d hd]
  show (if 37 = 37 ∧ a.va e ≤ d ∧ d < a.va e + (a.P * a.N - a.va e) then tbl B 37 d + -(B 31 e) else tbl B 37 d) = _
  rw [e1, am_mo he, C.ham e he, zL_neg]
  unfold zmo
  by_cases z : a.va e ≤ d
  · rw [if_pos ⟨rfl, z, by omega⟩, if_pos z, zL_add]
  · rw [if_neg (fun y => z y.2.1), if_neg z]
theorem z_moved {a : Ac} {I A : mI} {B : mB} (C : CR a I A B) (G : Gd a) {e d : Nat} (he : e < a.n) (hd : d < a.P * a.N) : alb A (wob A B a.va (a.P * a.N) e) a.nt 37 a.P a.N (nI d) (B 31 e) - alb A B a.nt 36 a.P a.N 0 0 = zL (zal (zva a e d) - zal a) := by
  have h3 := D320 G.V
  have h1 := G.V.am1 e he
  rw [z_all C G, ← zL_sub]
  congr 1
  refine zsm_m (fun p hp => ?_)
  have C2 := C.fr (A' := A) (B' := wob A B a.va (a.P * a.N) e) (fC.b37 (fun k hk => wob_b hk))
  rw [z_imo C2 G (fun d hd => wob_z C G.V he hd) (fun d => by have := zbl_g G d; rw [zbl_am he]; split <;> omega) hp (fr := d) (m := a.am e) rfl (C.ham e he) (by omega) (by omega)]
  rw [it_x sr_va (b := zmo (zbl (zam a e 0)) d (a.am e)) (fun x => by
    rw [zbl_va he]
    unfold zmo
    rw [zbl_am he]
    split <;> split <;> omega)]
theorem zbk_py {a : Ac} {m : Int} {d p : Nat} : zbk (zpy a m d) p = zbk a p := by
  rw [zbk_en, if_neg (fun z => by omega), Int.add_zero]
theorem py_mo {a : Ac} {m : Int} {d x : Nat} : zbl (zpy a m d) x = zmo (zbl a) d m x := by
  rw [zbl_en]
  unfold zmo
  split <;> omega
theorem z_with {a : Ac} {I A : mI} {B : mB} (C : CR a I A B) (G : Gd a) {d p : Nat} (hd : d < a.P * a.N) (hp : p < a.N) {m : Int} (hm : -99999 ≤ m ∧ m ≤ 99999) {xm : Int64} (em : xm = zL m) : nea (pds A B a.nt 36 a.P p (nI d) xm) = zL (zit (zpy a m d) p) := by
  have h3 := D320 G.V
  rw [z_imo C G C.hbl (bl32 G) hp (fr := d) (m := m) rfl em (by omega) (by omega), it_x sr_en (fun x => py_mo)]
theorem z_late {a : Ac} {I A : mI} {B : mB} (C : CR a I A B) (G : Gd a) {d : Nat} (hd : d < a.P * a.N) {m : Int32} (hm : -99999 ≤ m.toInt ∧ m.toInt ≤ 99999) : sm (fun p => nea (pds A B a.nt 36 a.P p (nI d) m.toInt64) - ibk A B a.n (nI p)) a.c = zL (zsm (zwx a (zpy a m.toInt d)) a.c) := zsm_m (fun p hp => by
  have h := G.V.cN
  rw [z_with C G hd (by omega) hm (i64z m), z_ibk C G.V, zL_sub]
  unfold zwx
  rw [zbk_py])
theorem it_42 {a x : Ac} (G : Gd a) (S : Sr a x) (hb : ∀ d, -2 ^ 34 ≤ zbl x d ∧ zbl x d ≤ 2 ^ 34) (p : Nat) : -2 ^ 42 ≤ zit x p ∧ zit x p ≤ 2 ^ 42 := by
  have h := zpz_61 G (p := p) hb
  rw [it_x S (fun d => rfl)]
  exact znr_61 h.1 h.2
theorem z_touched {a : Ac} {I A : mI} {B : mB} (C : CR a I A B) (G : Gd a) {d : Nat} (hd : d < a.P * a.N) {m : Int32} (hm : -99999 ≤ m.toInt ∧ m.toInt ≤ 99999) : fd (fun p => decide (¬ nea (pds A B a.nt 36 a.P p (nI d) m.toInt64) = nea (pds A B a.nt 36 a.P p 0 0))) a.c = fd (ztc a m.toInt d) a.c := fd_congr (fun p hp => by
  have h := G.V.cN
  have h8 := G.V.N8
  have b1 := it_42 G (x := zpy a m.toInt d) sr_en (fun x => by rw [py_mo]; have := zbl_g G x; unfold zmo; split <;> omega) p
  have b2 := zit_g G p
  have b3 := G.bk p (by omega)
  rw [z_with C G hd (by omega) hm (i64z m), z_int C G (by omega)]
  unfold ztc zwx
  rw [zbk_py]
  congr 1
  rw [zl_eq (by omega) (by omega) (by omega) (by omega), zl_eq (by omega) (by omega) (by omega) (by omega)]
  exact propext (by omega))
/-! another rate -/
theorem zlt_ti {a : Ac} {t : Nat} {m : Int} {r d : Nat} : ∀ k, zlt (zti a t m) r d k = zlt a r d k
  | 0 => rfl
  | k + 1 => by rw [zlt, zlt, zlt_ti k]; rfl
theorem zhl_ti {a : Ac} (n1 : a.ti = none) (n2 : a.fo = none) {t : Nat} {m : Int} {r d : Nat} : zhl (zti a t m) r d = if r = t then (if 0 < zhl a r d + m then zhl a r d + m else 0) else zhl a r d := by
  have c1 : ¬ (r = 6 ∧ a.fo.isSome = true) := fun z => by rw [n2] at z; cases z.2
  have c2 : ¬ (r = 6 ∧ (zti a t m).fo.isSome = true) := c1
  have e0 : zhl a r d = (zlt a r d a.nc).2 := zhl_n c1 (by rw [n1]; simp)
  by_cases h : r = t
  · rw [if_pos h, zhl_t c2 (by subst h; rfl), e0]
    show (if 0 < (zlt (zti a t m) r d a.nc).2 + m then (zlt (zti a t m) r d a.nc).2 + m else 0) = _
    rw [zlt_ti]
  · rw [if_neg h, zhl_n c2 (fun z => h (Option.some.inj z).symm), e0]
    show (zlt (zti a t m) r d a.nc).2 = _
    rw [zlt_ti]
theorem zpt_ti {a : Ac} (n1 : a.ti = none) (n2 : a.fo = none) {t : Nat} (ht : t < 4) {m : Int} {d s : Nat} {b : Int} : zpt (zti a t m) d b s = zpt a d b s := by
  have e : zhl (zti a t m) 6 d = zhl a 6 d := by rw [zhl_ti n1 n2, if_neg (by omega)]
  unfold zpt zwi
  rw [e]
  rfl
theorem zer_ti {a : Ac} (n1 : a.ti = none) (n2 : a.fo = none) {t : Nat} (ht : t < a.nt) (h4 : a.nt ≤ 4) {m : Int} {d : Nat} {b : Int} : zer (zti a t m) d b = zer a d b + zpt a d b t * ((if 0 < zhl a t d + m then zhl a t d + m else 0) - zhl a t d) := by
  refine zsm_d (e := t) ht ?_ (fun j hj hne => ?_)
  · show zpt (zti a t m) d b t * zhl (zti a t m) t d = _
    rw [zpt_ti n1 n2 (by omega), zhl_ti n1 n2, if_pos rfl, ← Int.mul_add]
    congr 1
    omega
  · show zpt (zti a t m) d b j * zhl (zti a t m) j d = _
    rw [zpt_ti n1 n2 (by omega), zhl_ti n1 n2, if_neg hne]
theorem zow_ti {a : Ac} (n1 : a.ti = none) (n2 : a.fo = none) {t : Nat} (ht : t < 4) {m : Int} {d : Nat} {b : Int} : zow (zti a t m) d b = zow a d b := by
  unfold zow
  rw [zhl_ti n1 n2 (r := 4), zhl_ti n1 n2 (r := 5), if_neg (show ¬ 4 = t by omega), if_neg (show ¬ 5 = t by omega), zpt_ti n1 n2 ht, zpt_ti n1 n2 ht]
  rfl
def ztt (a : Ac) (t : Nat) (m : Int) (d : Nat) : Int := zpt a d (zbl a d) t * ((if 0 < zhl a t d + m then zhl a t d + m else 0) - zhl a t d)
theorem zpz_ti {a : Ac} (n1 : a.ti = none) (n2 : a.fo = none) {t : Nat} (ht : t < a.nt) (h4 : a.nt ≤ 4) {m : Int} {p : Nat} : zpz (zti a t m) (zbl a) p = zpz a (zbl a) p + zsm (fun i => ztt a t m (a.P * p + i)) a.P := by
  unfold zpz
  rw [← zsm_add]
  refine zsm_congr (fun i hi => ?_)
  show zpr (zti a t m) (a.P * p + i) (zbl a (a.P * p + i)) = _
  unfold zpr
  rw [zer_ti n1 n2 ht h4, zow_ti n1 n2 (by omega)]
  unfold ztt
  omega
theorem z_tlo {a : Ac} {I A : mI} {B : mB} (C : CR a I A B) (G : Gd a) {t d : Nat} (ht : t < a.nt) (hd : d < a.P * a.N) {m : Int} (hm : -5000 ≤ m ∧ m ≤ 5000) {xm : Int32} (em : xm = zN m) : tlo A B t xm d = zL (ztt a t m d) := by
  have h3 := D320 G.V
  have h5 := zhl_5 G.V G.no1 (r := t) (d := d) (Or.inl ht)
  subst em
  unfold tlo ztt
  rw [C.hbl d hd, z_pt C G (d := d) ht (bl40 G _), C.hru t d (Or.inl ht) (by omega)]
  have e1 : zN (zhl a t d) + zN m = zN (zhl a t d + m) := (Int32.ofInt_add _ _).symm
  have e2 : (if (0 : Int32) < zN (zhl a t d + m) then zN (zhl a t d + m) else 0) = zN (if 0 < zhl a t d + m then zhl a t d + m else 0) := by
    by_cases z : 0 < zhl a t d + m
    · rw [if_pos z, if_pos (show (0 : Int32) < zN (zhl a t d + m) from (zn_lt (x := 0) (by omega) (by omega) (by omega) (by omega)).mpr z)]
    · rw [if_neg z, if_neg (fun y : (0 : Int32) < zN (zhl a t d + m) => z ((zn_lt (x := 0) (by omega) (by omega) (by omega) (by omega)).mp y))]
      rfl
  have e3 : ∀ u v : Int, zN u - zN v = zN (u - v) := fun u v => (Int32.ofInt_sub u v).symm
  have hb : 0 ≤ (if 0 < zhl a t d + m then zhl a t d + m else 0) ∧ (if 0 < zhl a t d + m then zhl a t d + m else 0) ≤ 10000 := by split <;> omega
  rw [e1, e2, e3, zn_l (by omega) (by omega), zL_mul]
theorem ztt_b {a : Ac} (G : Gd a) {t d : Nat} (ht : t < a.nt) {m : Int} (hm : -5000 ≤ m ∧ m ≤ 5000) : -(2 ^ 52 : Int) ≤ ztt a t m d ∧ ztt a t m d ≤ 2 ^ 52 := by
  have h5 := zhl_5 G.V G.no1 (r := t) (d := d) (Or.inl ht)
  have hp := zpt_b G.V (d := d) (t := t) (b := zbl a d) (by have := zbl_g G d; omega) (by omega)
  have hn := zpt_n G.tu (d := d) (b := zbl a d) ht
  have hb : -5000 ≤ (if 0 < zhl a t d + m then zhl a t d + m else 0) - zhl a t d ∧ (if 0 < zhl a t d + m then zhl a t d + m else 0) - zhl a t d ≤ 5000 := by split <;> omega
  unfold ztt
  have m1 := Int.mul_le_mul_of_nonneg_left hb.2 hn
  have m2 := Int.mul_le_mul_of_nonneg_left hb.1 hn
  omega
theorem z_itt {a : Ac} {I A : mI} {B : mB} (C : CR a I A B) (G : Gd a) {t p : Nat} (ht : t < a.nt) (hp : p < a.N) {m : Int} (hm : -5000 ≤ m ∧ m ≤ 5000) {xm : Int32} (em : xm = zN m) : nea (pds A B a.nt 36 a.P p 0 0 + sm (fun j => tlo A B t xm (p * a.P + j)) a.P) = zL (zit (zti a t m) p) := by
  have h40 := G.V.P40
  have e1 : sm (fun j => tlo A B t xm (p * a.P + j)) a.P = zL (zsm (fun i => ztt a t m (a.P * p + i)) a.P) := zsm_m (fun i hi => by
    rw [Nat.mul_comm p a.P]
    exact z_tlo C G ht (P_in hp hi) hm em)
  have b1 := zpz_g G (b := zbl a) (p := p) (zbl_g G)
  have b2 := zsm_b (g := fun i => ztt a t m (a.P * p + i)) (M := 2 ^ 52) (n := a.P) (fun i _ => ztt_b G ht hm)
  rw [z_pds C G hp, e1, zL_add, nea_z (by omega) (by omega)]
  congr 1
  show _ = znr (zpz (zti a t m) (zbl a) p)
  rw [zpz_ti G.no1 G.no2 ht G.V.nt4]
theorem z_tilt {a : Ac} {I A : mI} {B : mB} (C : CR a I A B) (G : Gd a) {t : Nat} (ht : t < a.nt) {m : Int} (hm : -5000 ≤ m ∧ m ≤ 5000) {xm : Int32} (em : xm = zN m) : sm (fun p => nea (pds A B a.nt 36 a.P p 0 0 + sm (fun j => tlo A B t xm (p * a.P + j)) a.P) - nea (pds A B a.nt 36 a.P p 0 0)) a.N = zL (zal (zti a t m) - zal a) := by
  have e1 : zal (zti a t m) - zal a = zsm (fun p => zit (zti a t m) p - zit a p) a.N := (zsm_sub).symm
  rw [e1]
  exact zsm_m (fun p hp => by rw [z_itt C G ht hp hm em, z_int C G hp, zL_sub])
/-! another limit -/
theorem zlt_fo {a : Ac} {l r d : Nat} : ∀ k, zlt (zfo a l) r d k = zlt a r d k
  | 0 => rfl
  | k + 1 => by rw [zlt, zlt, zlt_fo k]; rfl
theorem zhl_fo {a : Ac} (n2 : a.fo = none) {l r d : Nat} (hr : r ≠ 6) : zhl (zfo a l) r d = zhl a r d := by
  have c1 : ¬ (r = 6 ∧ (zfo a l).fo.isSome = true) := fun z => hr z.1
  have c2 : ¬ (r = 6 ∧ a.fo.isSome = true) := fun z => hr z.1
  unfold zhl
  rw [if_neg c1, if_neg c2]
  show (if a.ti = some r then (if 0 < (zlt (zfo a l) r d a.nc).2 + a.tb then (zlt (zfo a l) r d a.nc).2 + a.tb else 0) else (zlt (zfo a l) r d a.nc).2) = _
  rw [zlt_fo]
theorem zer_fo {a : Ac} (n2 : a.fo = none) (h4 : a.nt ≤ 4) {l d : Nat} {b : Int} : zer (zfo a l) d b = zer a d b := zsm_congr (fun t ht => by
  have ht2 : t < a.nt := ht
  show zpt (zfo a l) d b t * zhl (zfo a l) t d = _
  rw [zhl_fo n2 (by omega)]
  congr 1
  unfold zpt
  rw [if_neg (show ¬ (zfo a l).nt < t from by show ¬ a.nt < t; omega), if_neg (show ¬ a.nt < t by omega)]
  rfl)
theorem z_lmo {a : Ac} {I A : mI} {B : mB} (C : CR a I A B) (G : Gd a) {d l : Nat} (hd : d < a.P * a.N) (hl : l ≤ 99999) : lmo A B a.nt (nI l) d = zL (zpr (zfo a l) d (zbl a d)) := by
  have h3 := D320 G.V
  unfold lmo
  rw [C.hbl d hd, crd_z C G (by omega) (bl40 G _), nI_z, dbt_e C G (by omega) (bl40 G _) (by omega), zL_sub]
  congr 1
  unfold zpr
  rw [zer_fo G.no2 G.V.nt4]
  congr 1
  by_cases z : zbl a d < 0
  · rw [if_pos z, zow_e z, zhl_fo G.no2 (r := 4) (by decide), zhl_fo G.no2 (r := 5) (by decide), zhl_f (a := zfo a l) rfl]
  · rw [if_neg z]
    exact (if_neg z).symm
theorem z_limit {a : Ac} {I A : mI} {B : mB} (C : CR a I A B) (G : Gd a) {l : Nat} (hl : l ≤ 99999) : sm (fun p => nea (sm (fun j => lmo A B a.nt (nI l) (p * a.P + j)) a.P) - nea (pds A B a.nt 36 a.P p 0 0)) a.N = zL (zal (zfo a l) - zal a) := by
  have e1 : zal (zfo a l) - zal a = zsm (fun p => zit (zfo a l) p - zit a p) a.N := (zsm_sub).symm
  rw [e1]
  refine zsm_m (fun p hp => ?_)
  have e2 : sm (fun j => lmo A B a.nt (nI l) (p * a.P + j)) a.P = zL (zpz (zfo a l) (zbl a) p) := zsm_m (fun i hi => by
    rw [Nat.mul_comm p a.P]
    exact z_lmo C G (P_in hp hi) hl)
  have b := zpz_bb (vw_fo G.V hl) (b := zbl a) (p := p) (fun d => by have := zbl_g G d; omega)
  rw [e2, nea_z b.1 b.2, z_int C G hp, zL_sub]
  rfl
