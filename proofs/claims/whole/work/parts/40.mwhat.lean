/-! contracts of the reference: what would be (written by wip/whole/gm6.py) -/
theorem i64z (n : Int32) : n.toInt64 = zL n.toInt := by
  have h1 := Int32.le_toInt n
  have h2 := Int32.toInt_lt n
  rw [← zn_l (by omega) (by omega)]
  show n.toInt64 = (Int32.ofInt n.toInt).toInt64
  rw [Int32.ofInt_toInt]
theorem i32b {n lo hi : Int32} (h : lo ≤ n ∧ n ≤ hi) : lo.toInt ≤ n.toInt ∧ n.toInt ≤ hi.toInt := ⟨Int32.le_iff_toInt_le.mp h.1, Int32.le_iff_toInt_le.mp h.2⟩
def zca (a : Ac) (p e : Nat) : Int64 := zL (zit a p - zit (zam a e 0) p)
def an_caused (a : Ac) (e p : Option Nat) : Int64 := match e with
  | none => NS
  | some e => match p with
    | none => NS
    | some p => zca a p e
def an_blame (a : Ac) (p : Option Nat) : Int32 := match p with
  | none => -2
  | some p => (mgl (fun e => abl (zca a p e)) a.n).1
def an_brought (a : Ac) (e : Option Nat) : Int64 := match e with
  | none => NS
  | some e => zL (zal a - zal (zam a e 0))
def an_moved (a : Ac) (e d : Option Nat) : Int64 := match e with
  | none => NS
  | some e => match d with
    | none => NS
    | some d => zL (zal (zva a e d) - zal a)
/-- the first of the greatest -/
def bst (g : Nat → Int64) : Nat → Int32 × Int64
  | 0 => (0, g 0)
  | i + 1 => if g (i + 1) ≤ (bst g i).2 then bst g i else (nI (i + 1), g (i + 1))
def an_best (a : Ac) (e : Option Nat) : Int32 := match e with
  | none => -2
  | some e => (bst (fun d => zL (zal (zva a e d))) (a.P * a.N - 1)).1
/-- with a paid or drawn one more -/
abbrev zpy (a : Ac) (m : Int) (d : Nat) : Ac := zen a 0 m d (-1)
def zwx (a x : Ac) (p : Nat) : Int := zit x p - zbk x p
def an_late (a : Ac) (d : Option Nat) (m : Int32) : Int64 := match d with
  | none => NS
  | some d => if (-99999 : Int32) ≤ m ∧ m ≤ 99999 then zL (zsm (zwx a (zpy a m.toInt d)) a.c) else NS
def ztc (a : Ac) (m : Int) (d p : Nat) : Bool := decide (¬ zL (zwx a (zpy a m d) p) = zL (zwx a a p))
def an_touched (a : Ac) (d : Option Nat) (m : Int32) : Int32 := match d with
  | none => -2
  | some d => if (-99999 : Int32) ≤ m ∧ m ≤ 99999 then fI (fd (ztc a m.toInt d) a.c) else -2
def an_tilted (a : Ac) (t : Option Nat) (m : Int32) : Int64 := match t with
  | none => NS
  | some t => if (-5000 : Int32) ≤ m ∧ m ≤ 5000 then zL (zal (zti a t m.toInt) - zal a) else NS
def an_limited (a : Ac) (bk : Bool) (l : Option Nat) : Int64 := match bk with
  | false => NS
  | true => match l with
    | none => NS
    | some l => zL (zal (zfo a l) - zal a)
set_option maxRecDepth 20000 in
theorem c_Menters {J : mJ} (X : mRules J) {I A : mI} {B : mB} {w f : Nat} {R : mR} {a : Ac} (M : MR a w I A B) (V : Vw a) (hn5 : a.n + 1 ≤ 500) {s v : Nat} {m : Int} {o xs xv : Int32} {xm : Int64} (es : xs = nI s) (em : xm = zL m) (ev : xv = nI v) (h : qM (zen a s m v o) w f I A B R none) : J n_M_enters 0 [.ref 43, .int xs, .long xm, .float 0, .int xv, .int o] [] I A B (pk w f) R := by
  subst es; subst em; subst ev
  refine X 200 _ _ _ _ _ _ _ _ _ ?_
  refine Exists.intro _ (And.intro rfl (And.intro (by rw [M.hn]; exact vin (by omega) (by omega)) ?_))
  refine Exists.intro _ (And.intro rfl (And.intro (by rw [M.hn]; exact vin (by omega) (by omega)) ?_))
  refine Exists.intro _ (And.intro rfl (And.intro (by rw [M.hn]; exact vin (by omega) (by omega)) ?_))
  refine Exists.intro _ (And.intro rfl (And.intro (by rw [M.hn]; exact vin (by omega) (by omega)) ?_))
  refine Exists.intro _ (And.intro rfl (And.intro (by rw [M.hn]; exact vin (by omega) (by omega)) ?_))
  exact h _ _ _ (M.en (by rw [M.hn]; exact cl (by omega)) (by rw [M.hn]; exact cl (by omega)) (by rw [M.hn]; exact cl (by omega)) (by rw [M.hn]; exact cl (by omega)) (by rw [M.hn]; exact cl (by omega)) (by show I 43 19 + 1 = _; rw [M.hn, nI_1]) M.hc) fM.en
theorem c_MinterestOf2 {J : mJ} (X : mRules J) {I A : mI} {B : mB} {w f : Nat} {R : mR} {a : Ac} (M : MR a w I A B) (V : Vw a) {p : Nat} (hp : a.P * p + a.P ≤ 320) {x : Int32} (ex : x = nI p) (h : ∀ B', (∀ r, r ≠ 59 → B' r = B r) → R (some (.long (zL (zit a p)))) I A B' (pk w f)) : J n_M_interestOf 0 [.ref 43, .int x] [] I A B (pk w f) R := by
  subst ex
  exact c_MinterestOf X M V hp h
theorem c_Mcomp2 {J : mJ} (X : mRules J) {I A : mI} {B : mB} {w f : Nat} {R : mR} {a : Ac} (M : MR a w I A B) (V : Vw a) {p : Nat} (hp : p < 2 ^ 20) (hN0 : 0 < a.N) {x : Int32} (ex : x = nI p) (h : R (some (.int (nI (zcm a p)))) I A B (pk w f)) : J n_M_compoundingOf 0 [.ref 43, .int x] [] I A B (pk w f) R := by
  subst ex
  exact c_Mcomp X M V hp hN0 h
theorem MR.sc {a : Ac} {w : Nat} {I A : mI} {B : mB} (M : MR a w I A B) {c : Nat} {v : Int32} (e : v = nI c) : MR (a.setC c) w (up2 I 43 20 v) A B := by
  subst e
  have hi : ∀ j, j ≠ 20 → up2 I 43 20 (nI c) 43 j = I 43 j := fun j h1 => up2_m h1
  exact MR.mk M.hw M.w5 M.hP M.hN M.hK (by rw [hi 7 (by decide)]; exact M.hnt) M.htr M.htt M.hdb (by rw [hi 13 (by decide)]; exact M.hnc) M.hcd M.hco M.hcv (by rw [hi 19 (by decide)]; exact M.hn) M.hso M.ham M.hva M.hpg M.hog up2_s (by rw [hi 21 (by decide)]; exact M.hti) (by rw [hi 22 (by decide)]; exact M.htb) (by rw [hi 23 (by decide)]; exact M.hfo)
set_option maxRecDepth 20000 in
theorem c_Mcloses {J : mJ} (X : mRules J) {I A : mI} {B : mB} {w f : Nat} {R : mR} {a : Ac} (M : MR a w I A B) (V : Vw a) (hn5 : a.n + 1 ≤ 500) (ho : a.c < a.N) (h : qM (zcl a) w f I A B R none) : J n_M_closes 0 [.ref 43, .float 0, .float 0] [] I A B (pk w f) R := by
  have hP40 := V.P40
  have hN8 := V.N8
  have hn4 := V.n4
  have hnt4 := V.nt4
  have hcN := V.cN
  have hPN := Nat.mul_le_mul hP40 hN8
  have hD31 : a.P * a.N < 2 ^ 31 := by omega
  have hN31 : a.N < 2 ^ 31 := by omega
  have hn31 : a.n < 2 ^ 31 := by omega
  have hnt31 : a.nt < 2 ^ 31 := by omega
  refine X 200 _ _ _ _ _ _ _ _ _ ?_
  refine c_MinterestOf2 X M V (p := a.c) (by have := P_le ho; omega) M.hc (fun Bv1 hv1 => ?_)
  have M1 := (M).fB (hv1 55 (by decide))
  have f1 := ((fM.refl I A B)).trans (fM.b59 hv1)
  refine c_Mcomp2 X M1 V (p := a.c) (by omega) (by omega) M1.hc ?_
  refine c_Menters X M1 V hn5 (s := 1) rfl rfl rfl (fun I2 A2 B2 M2 g2 => ?_)
  have f2 := (f1).trans g2
  have Mx : MR (zcl a) w (up2 I2 43 20 (I2 43 20 + 1)) A2 B2 := by
    have e9 : I (43) 20 = nI a.c := M.hc
    have M3 := M2
    rw [e9] at M3
    exact M3.sc (c := a.c + 1) (by rw [M2.hc]; exact nI_1 _)
  exact h _ _ _ Mx (f2.trans (fM.i (by omega)))
set_option maxRecDepth 20000 in
theorem c_Mreruns {J : mJ} (X : mRules J) {I A : mI} {B : mB} {w f : Nat} {R : mR} {a : Ac} (M : MR a w I A B) (V : Vw a) (hV : ∀ k, k ≤ a.c → Vw (zrr a k)) (hZ : ∀ k, k < a.c → -2 ^ 40 ≤ zit (zrr a k) k - zbk (zrr a k) k ∧ zit (zrr a k) k - zbk (zrr a k) k ≤ 2 ^ 40) (hn5 : a.n + a.c ≤ 500) (h : qM (zrr a a.c) w f I A B R (some (.int (nI ((zrr a a.c).n - a.n))))) : J n_M_reruns 0 [.ref 43, .float 0, .float 0, .float 0, .float 0] [] I A B (pk w f) R := by
  have hP40 := V.P40
  have hN8 := V.N8
  have hn4 := V.n4
  have hnt4 := V.nt4
  have hcN := V.cN
  have hPN := Nat.mul_le_mul hP40 hN8
  have hD31 : a.P * a.N < 2 ^ 31 := by omega
  have hN31 : a.N < 2 ^ 31 := by omega
  have hn31 : a.n < 2 ^ 31 := by omega
  have hnt31 : a.nt < 2 ^ 31 := by omega
  have G : ∀ i, i ≤ a.c → ∀ (s : Int32) (x : Int32) (z3 : Value) (z4 : Value) (Iv : mI) (Av : mI) (Bv : mB), s = nI ((zrr a i).n - a.n) → x = nI i → MR (zrr a i) w Iv Av Bv → fM I A B Iv Av Bv → J n_M_reruns 4 [.ref 43, .int s, .int x, z3, z4] [] Iv Av Bv (pk w f) R := by
    refine lpz (fun i => ∀ (s : Int32) (x : Int32) (z3 : Value) (z4 : Value) (Iv : mI) (Av : mI) (Bv : mB), s = nI ((zrr a i).n - a.n) → x = nI i → MR (zrr a i) w Iv Av Bv → fM I A B Iv Av Bv → J n_M_reruns 4 [.ref 43, .int s, .int x, z3, z4] [] Iv Av Bv (pk w f) R) (fun i hi ih => ?_)
    intro s x z3 z4 Iv Av Bv es ex Mv fv
    subst es; subst ex
    have hrc := rr_c (a := a) i
    refine X 200 _ _ _ _ _ _ _ _ _ ?_
    refine And.intro (fun q1 => ?_) (fun q1 => ?_)
    · rw [Mv.hc, hrc.1] at q1
      have e := lpx hi (by omega) q1
      subst e
      exact h _ _ _ Mv fv
    · rw [Mv.hc, hrc.1] at q1
      have hl := lpc hi (by omega) q1
      have hib := hZ i (by omega)
      have hrs : zit (zrr a i) i - zbk (zrr a i) i = 0 → zrr a (i + 1) = zrr a i := fun z => if_pos z
      have hrt : ¬ zit (zrr a i) i - zbk (zrr a i) i = 0 → zrr a (i + 1) = zen (zrr a i) 2 (zit (zrr a i) i - zbk (zrr a i) i) (zcm (zrr a i) i) (nI i) := fun z => if_neg z
      refine c_MinterestOf X Mv (hV i hi) (p := i) (by rw [(sr_rr (a := a) i).P]; have := P_le (a := a) (p := i) (by omega); omega) (fun Bv1 hv1 => ?_)
      have M1 := (Mv).fB (hv1 55 (by decide))
      have f1 := (fv).trans (fM.b59 hv1)
      refine c_Mbooked X M1 (hV i hi) (p := i) ?_
      refine And.intro (fun q2 => ?_) (fun q2 => ?_)
      · rw [zL_sub, zl_eq0 (by omega) (by omega)] at q2
        have hrt := hrt q2
        refine c_Mcomp X M1 (hV i hi) (p := i) (by omega) (by rw [(sr_rr (a := a) i).N]; omega) ?_
        refine c_Menters X M1 (hV i hi) (by omega) (s := 2) rfl zL_sub rfl (fun I2 A2 B2 M2 g2 => ?_)
        have f2 := (f1).trans g2
        exact ih hl _ _ _ _ _ _ _ (by rw [hrt]; show _ = nI ((zrr a i).n + 1 - a.n); rw [nI_1, show (zrr a i).n + 1 - a.n = (zrr a i).n - a.n + 1 by omega]) (nI_1 i) (by rw [hrt]; exact M2) f2
      · rw [zL_sub, zl_eq0 (by omega) (by omega)] at q2
        have hrs := hrs q2
        exact ih hl _ _ _ _ _ _ _ (by rw [hrs]) (nI_1 i) (by rw [hrs]; exact M1) f1
  refine X 200 _ _ _ _ _ _ _ _ _ ?_
  exact G 0 (Nat.zero_le _) _ _ _ _ _ _ _ (by rw [show (zrr a 0).n - a.n = 0 from Nat.sub_self _]; rfl) rfl M (fM.refl _ _ _)
set_option maxRecDepth 20000 in
theorem c_McausedBy {J : mJ} (X : mRules J) {I A : mI} {B : mB} {w f : Nat} {R : mR} {a : Ac} (M : MR a w I A B) (V : Vw a) {e0 p0 : Nat} (he : e0 < a.n) (hp : p0 < a.N) (h : qM a w f I A B R (some (.long (zca a p0 e0)))) : J n_M_causedBy 0 [.ref 43, .int (nI e0), .int (nI p0), .float 0, .float 0, .float 0, .float 0, .float 0, .float 0] [] I A B (pk w f) R := by
  have hP40 := V.P40
  have hN8 := V.N8
  have hn4 := V.n4
  have hnt4 := V.nt4
  have hcN := V.cN
  have hPN := Nat.mul_le_mul hP40 hN8
  have hD31 : a.P * a.N < 2 ^ 31 := by omega
  have hN31 : a.N < 2 ^ 31 := by omega
  have hn31 : a.n < 2 ^ 31 := by omega
  have hnt31 : a.nt < 2 ^ 31 := by omega
  refine X 200 _ _ _ _ _ _ _ _ _ ?_
  refine c_MinterestOf X M V (p := p0) (show a.P * p0 + a.P ≤ 320 by have := P_le hp; omega) (fun Bv1 hv1 => ?_)
  have M1 := (M).fB (hv1 55 (by decide))
  have f1 := ((fM.refl I A B)).trans (fM.b59 hv1)
  refine Exists.intro _ (And.intro rfl (And.intro (vin (by omega) (by omega)) ?_))
  refine Exists.intro _ (And.intro rfl (And.intro (vin (by omega) (by omega)) ?_))
  refine c_MinterestOf X (M1.am (e := e0) (m := 0) (cl (by omega)) rfl) (vw_am V (by omega)) (p := p0) (show a.P * p0 + a.P ≤ 320 by have := P_le hp; omega) (fun Bv2 hv2 => ?_)
  have M2 := (M1.am (e := e0) (m := 0) (v := 0) (show (nI e0).toNatClampNeg = e0 from cl (by omega)) rfl).fB (hv2 55 (by decide))
  have f2 := (f1.trans (fM.b (r := 55) (j := (nI e0).toNatClampNeg) (x := 0) (by omega))).trans (fM.b59 hv2)
  refine Exists.intro _ (And.intro rfl (And.intro (vin (by omega) (by omega)) ?_))
  have h2 := h _ _ _ (M2.amb (v := Bv1 55 (nI e0).toNatClampNeg) (show (nI e0).toNatClampNeg = e0 from cl (by omega)) (by rw [cl (by omega), hv1 55 (by decide)]; exact M.ham e0 he)) (f2.trans (fM.b (r := 55) (j := (nI e0).toNatClampNeg) (x := Bv1 55 (nI e0).toNatClampNeg) (by omega)))
  have e9 : zca a p0 e0 = zL (zit a p0) - zL (zit (zam a e0 0) p0) := zL_sub.symm
  rw [e9] at h2
  exact h2
set_option maxRecDepth 20000 in
theorem r_caused {J : mJ} (X : mRules J) {I A : mI} {B : mB} {w f : Nat} {R : mR} {a : Ac} (M : MR a w I A B) (V : Vw a) {e p : Int32} (h : qM a w f I A B R (some (.long (an_caused a (ixN a.n e) (ixN a.N p))))) : J n_M_caused 0 [.ref 43, .int e, .int p] [] I A B (pk w f) R := by
  have hP40 := V.P40
  have hN8 := V.N8
  have hn4 := V.n4
  have hnt4 := V.nt4
  have hcN := V.cN
  have hPN := Nat.mul_le_mul hP40 hN8
  have hD31 : a.P * a.N < 2 ^ 31 := by omega
  have hN31 : a.N < 2 ^ 31 := by omega
  have hn31 : a.n < 2 ^ 31 := by omega
  have hnt31 : a.nt < 2 ^ 31 := by omega
  refine X 200 _ _ _ _ _ _ _ _ _ ?_
  refine c_MisEntry X M V (fun e0 he ee => ?_) (fun ze => ?_)
  · subst ee
    refine And.intro (fun q => absurd q (by decide)) (fun _ => ?_)
    refine c_MisPeriod X M V (fun p0 hp ep => ?_) (fun zp => ?_)
    · subst ep
      refine And.intro (fun q => absurd q (by decide)) (fun _ => ?_)
      refine c_McausedBy X M V he hp (fun I1 A1 B1 M1 g1 => ?_)
      have f1 := ((fM.refl I A B)).trans g1
      rw [ixN_s he hn31] at h
      rw [ixN_s hp hN31] at h
      exact h _ _ _ M1 f1
    · refine And.intro (fun _ => ?_) (fun q => absurd (by decide) q)
      rw [ixN_s he hn31] at h
      rw [ixN_n hN31 zp] at h
      exact h _ _ _ M (fM.refl I A B)
  · refine And.intro (fun _ => ?_) (fun q => absurd (by decide) q)
    rw [ixN_n hn31 ze] at h
    exact h _ _ _ M (fM.refl I A B)
set_option maxRecDepth 20000 in
theorem r_blame {J : mJ} (X : mRules J) {I A : mI} {B : mB} {w f : Nat} {R : mR} {a : Ac} (M : MR a w I A B) (V : Vw a) {p : Int32} (h : qM a w f I A B R (some (.int (an_blame a (ixN a.N p))))) : J n_M_blame 0 [.ref 43, .int p, .float 0, .float 0, .float 0, .float 0, .float 0, .float 0] [] I A B (pk w f) R := by
  have hP40 := V.P40
  have hN8 := V.N8
  have hn4 := V.n4
  have hnt4 := V.nt4
  have hcN := V.cN
  have hPN := Nat.mul_le_mul hP40 hN8
  have hD31 : a.P * a.N < 2 ^ 31 := by omega
  have hN31 : a.N < 2 ^ 31 := by omega
  have hn31 : a.n < 2 ^ 31 := by omega
  have hnt31 : a.nt < 2 ^ 31 := by omega
  have G0 : ∀ (p0 : Nat) (hp : p0 < a.N) (h : qM a w f I A B R (some (.int (an_blame a (some p0))))), ∀ i, i ≤ a.n → ∀ (b : Int32) (s : Int64) (x : Int32) (z6 : Value) (Iv : mI) (Av : mI) (Bv : mB), b = (mgl (fun e => abl (zca a p0 e)) i).1 → s = (mgl (fun e => abl (zca a p0 e)) i).2 → x = nI i → MR a w Iv Av Bv → fM I A B Iv Av Bv → J n_M_blame 18 [.ref 43, .int (nI p0), .int b, .long s, .float 0, .int x, z6, .float 0] [] Iv Av Bv (pk w f) R := by
    intro p0 hp h
    have G : ∀ i, i ≤ a.n → ∀ (b : Int32) (s : Int64) (x : Int32) (z6 : Value) (Iv : mI) (Av : mI) (Bv : mB), b = (mgl (fun e => abl (zca a p0 e)) i).1 → s = (mgl (fun e => abl (zca a p0 e)) i).2 → x = nI i → MR a w Iv Av Bv → fM I A B Iv Av Bv → J n_M_blame 18 [.ref 43, .int (nI p0), .int b, .long s, .float 0, .int x, z6, .float 0] [] Iv Av Bv (pk w f) R := by
      refine lpz (fun i => ∀ (b : Int32) (s : Int64) (x : Int32) (z6 : Value) (Iv : mI) (Av : mI) (Bv : mB), b = (mgl (fun e => abl (zca a p0 e)) i).1 → s = (mgl (fun e => abl (zca a p0 e)) i).2 → x = nI i → MR a w Iv Av Bv → fM I A B Iv Av Bv → J n_M_blame 18 [.ref 43, .int (nI p0), .int b, .long s, .float 0, .int x, z6, .float 0] [] Iv Av Bv (pk w f) R) (fun i hi ih => ?_)
      intro b s x z6 Iv Av Bv eb es ex Mv fv
      subst eb; subst es; subst ex
      refine X 200 _ _ _ _ _ _ _ _ _ ?_
      refine And.intro (fun q1 => ?_) (fun q1 => ?_)
      · rw [Mv.hn] at q1
        have e := lpx hi (by omega) q1
        subst e
        exact h _ _ _ Mv fv
      · rw [Mv.hn] at q1
        have hl := lpc hi (by omega) q1
        refine c_McausedBy X Mv V hl hp (fun I1 A1 B1 M1 g1 => ?_)
        have f1 := (fv).trans g1
        refine And.intro (fun q2 => ?_) (fun q2 => ?_)
        · have e9 : mgl (fun e => abl (zca a p0 e)) (i + 1) = (nI i, abl (zca a p0 i)) := if_neg (fun z => absurd z (Int64.not_le.mpr q2))
          exact ih hl _ _ _ _ _ _ _ (by rw [e9]) (by rw [e9]; rfl) (nI_1 i) M1 f1
        · have e9 : mgl (fun e => abl (zca a p0 e)) (i + 1) = mgl (fun e => abl (zca a p0 e)) i := if_pos (Int64.not_lt.mp q2)
          exact ih hl _ _ _ _ _ _ _ (by rw [e9]) (by rw [e9]) (nI_1 i) M1 f1
    exact G
  refine X 200 _ _ _ _ _ _ _ _ _ ?_
  refine c_MisPeriod X M V (fun p0 hp ep => ?_) (fun zp => ?_)
  · subst ep
    refine And.intro (fun _ => ?_) (fun q => absurd q (by decide))
    rw [ixN_s hp hN31] at h
    exact G0 p0 hp h 0 (Nat.zero_le _) _ _ _ _ _ _ _ rfl rfl rfl M (fM.refl _ _ _)
  · refine And.intro (fun q => absurd (by decide) q) (fun _ => ?_)
    rw [ixN_n hN31 zp] at h
    exact h _ _ _ M (fM.refl _ _ _)
set_option maxRecDepth 20000 in
theorem r_brought {J : mJ} (X : mRules J) {I A : mI} {B : mB} {w f : Nat} {R : mR} {a : Ac} (M : MR a w I A B) (V : Vw a) {e : Int32} (h : qM a w f I A B R (some (.long (an_brought a (ixN a.n e))))) : J n_M_brought 0 [.ref 43, .int e, .float 0, .float 0, .float 0, .float 0, .float 0, .float 0] [] I A B (pk w f) R := by
  have hP40 := V.P40
  have hN8 := V.N8
  have hn4 := V.n4
  have hnt4 := V.nt4
  have hcN := V.cN
  have hPN := Nat.mul_le_mul hP40 hN8
  have hD31 : a.P * a.N < 2 ^ 31 := by omega
  have hN31 : a.N < 2 ^ 31 := by omega
  have hn31 : a.n < 2 ^ 31 := by omega
  have hnt31 : a.nt < 2 ^ 31 := by omega
  refine X 200 _ _ _ _ _ _ _ _ _ ?_
  refine c_MisEntry X M V (fun e0 he ee => ?_) (fun ze => ?_)
  · subst ee
    refine And.intro (fun _ => ?_) (fun q => absurd q (by decide))
    refine c_MallOf X M V (fun Bv1 hv1 => ?_)
    have M1 := (M).fB (hv1 55 (by decide))
    have f1 := ((fM.refl I A B)).trans (fM.b59 hv1)
    refine Exists.intro _ (And.intro rfl (And.intro (vin (by omega) (by omega)) ?_))
    refine Exists.intro _ (And.intro rfl (And.intro (vin (by omega) (by omega)) ?_))
    refine c_MallOf X (M1.am (e := e0) (m := 0) (cl (by omega)) rfl) (vw_am V (by omega)) (fun Bv2 hv2 => ?_)
    have M2 := (M1.am (e := e0) (m := 0) (v := 0) (show (nI e0).toNatClampNeg = e0 from cl (by omega)) rfl).fB (hv2 55 (by decide))
    have f2 := (f1.trans (fM.b (r := 55) (j := (nI e0).toNatClampNeg) (x := 0) (by omega))).trans (fM.b59 hv2)
    refine Exists.intro _ (And.intro rfl (And.intro (vin (by omega) (by omega)) ?_))
    rw [ixN_s he hn31] at h
    have h2 := h _ _ _ (M2.amb (v := Bv1 55 (nI e0).toNatClampNeg) (show (nI e0).toNatClampNeg = e0 from cl (by omega)) (by rw [cl (by omega), hv1 55 (by decide)]; exact M.ham e0 he)) (f2.trans (fM.b (r := 55) (j := (nI e0).toNatClampNeg) (x := Bv1 55 (nI e0).toNatClampNeg) (by omega)))
    have e9 : an_brought a (some e0) = zL (zal a) - zL (zal (zam a e0 0)) := zL_sub.symm
    rw [e9] at h2
    exact h2
  · refine And.intro (fun q => absurd (by decide) q) (fun _ => ?_)
    rw [ixN_n hn31 ze] at h
    exact h _ _ _ M (fM.refl _ _ _)
set_option maxRecDepth 20000 in
theorem c_MallMoved {J : mJ} (X : mRules J) {I A : mI} {B : mB} {w f : Nat} {R : mR} {a : Ac} (M : MR a w I A B) (V : Vw a) {e0 d : Nat} (he : e0 < a.n) (hd : d < a.P * a.N) {xd : Int32} (ed : xd = nI d) (h : qM a w f I A B R (some (.long (zL (zal (zva a e0 d)))))) : J n_M_allMoved 0 [.ref 43, .int (nI e0), .int xd, .float 0, .float 0, .float 0] [] I A B (pk w f) R := by
  subst ed
  have hP40 := V.P40
  have hN8 := V.N8
  have hn4 := V.n4
  have hnt4 := V.nt4
  have hcN := V.cN
  have hPN := Nat.mul_le_mul hP40 hN8
  have hD31 : a.P * a.N < 2 ^ 31 := by omega
  have hN31 : a.N < 2 ^ 31 := by omega
  have hn31 : a.n < 2 ^ 31 := by omega
  have hnt31 : a.nt < 2 ^ 31 := by omega
  refine X 200 _ _ _ _ _ _ _ _ _ ?_
  refine Exists.intro _ (And.intro rfl (And.intro (vin (by omega) (by omega)) ?_))
  refine Exists.intro _ (And.intro rfl (And.intro (vin (by omega) (by omega)) ?_))
  refine c_MallOf X (M.va (e := e0) (d := d) (v := nI d) (show (nI e0).toNatClampNeg = e0 from cl (by omega)) rfl) (vw_va V (by omega)) (fun Bv1 hv1 => ?_)
  have M1 := (M.va (e := e0) (d := d) (v := nI d) (show (nI e0).toNatClampNeg = e0 from cl (by omega)) rfl).fB (hv1 55 (by decide))
  have f1 := (fM.a (I := I) (A := A) (B := B) (r := 56) (j := (nI e0).toNatClampNeg) (x := nI d) (by omega)).trans (fM.b59 hv1)
  refine Exists.intro _ (And.intro rfl (And.intro (vin (by omega) (by omega)) ?_))
  exact h _ _ _ (M1.vab (v := A 56 (nI e0).toNatClampNeg) (show (nI e0).toNatClampNeg = e0 from cl (by omega)) (by rw [cl (by omega)]; exact M.hva e0 he)) (f1.trans (fM.a (r := 56) (j := (nI e0).toNatClampNeg) (x := A 56 (nI e0).toNatClampNeg) (by omega)))
set_option maxRecDepth 20000 in
theorem r_moved {J : mJ} (X : mRules J) {I A : mI} {B : mB} {w f : Nat} {R : mR} {a : Ac} (M : MR a w I A B) (V : Vw a) {e d : Int32} (h : qM a w f I A B R (some (.long (an_moved a (ixN a.n e) (ixN (zD a) d))))) : J n_M_moved 0 [.ref 43, .int e, .int d] [] I A B (pk w f) R := by
  have hP40 := V.P40
  have hN8 := V.N8
  have hn4 := V.n4
  have hnt4 := V.nt4
  have hcN := V.cN
  have hPN := Nat.mul_le_mul hP40 hN8
  have hD31 : a.P * a.N < 2 ^ 31 := by omega
  have hN31 : a.N < 2 ^ 31 := by omega
  have hn31 : a.n < 2 ^ 31 := by omega
  have hnt31 : a.nt < 2 ^ 31 := by omega
  refine X 200 _ _ _ _ _ _ _ _ _ ?_
  refine c_MisEntry X M V (fun e0 he ee => ?_) (fun ze => ?_)
  · subst ee
    refine And.intro (fun q => absurd q (by decide)) (fun _ => ?_)
    refine c_MisDay X M V (fun d0 hd ed => ?_) (fun zd => ?_)
    · subst ed
      refine And.intro (fun q => absurd q (by decide)) (fun _ => ?_)
      refine c_MallMoved X M V he hd rfl (fun I1 A1 B1 M1 g1 => ?_)
      have f1 := ((fM.refl I A B)).trans g1
      refine c_MallOf X M1 V (fun Bv2 hv2 => ?_)
      have M2 := (M1).fB (hv2 55 (by decide))
      have f2 := (f1).trans (fM.b59 hv2)
      rw [ixN_s he hn31] at h
      rw [ixN_s hd hD31] at h
      have h2 := h _ _ _ M2 f2
      have e9 : an_moved a (some e0) (some d0) = zL (zal (zva a e0 d0)) - zL (zal a) := zL_sub.symm
      rw [e9] at h2
      exact h2
    · refine And.intro (fun _ => ?_) (fun q => absurd (by decide) q)
      rw [ixN_s he hn31] at h
      rw [ixN_n hD31 zd] at h
      exact h _ _ _ M (fM.refl _ _ _)
  · refine And.intro (fun _ => ?_) (fun q => absurd (by decide) q)
    rw [ixN_n hn31 ze] at h
    exact h _ _ _ M (fM.refl _ _ _)
set_option maxRecDepth 20000 in
theorem r_best {J : mJ} (X : mRules J) {I A : mI} {B : mB} {w f : Nat} {R : mR} {a : Ac} (M : MR a w I A B) (V : Vw a) {e : Int32} (hD1 : 1 ≤ a.P * a.N) (h : qM a w f I A B R (some (.int (an_best a (ixN a.n e))))) : J n_M_bestDay 0 [.ref 43, .int e, .float 0, .float 0, .float 0, .float 0, .float 0, .float 0] [] I A B (pk w f) R := by
  have hP40 := V.P40
  have hN8 := V.N8
  have hn4 := V.n4
  have hnt4 := V.nt4
  have hcN := V.cN
  have hPN := Nat.mul_le_mul hP40 hN8
  have hD31 : a.P * a.N < 2 ^ 31 := by omega
  have hN31 : a.N < 2 ^ 31 := by omega
  have hn31 : a.n < 2 ^ 31 := by omega
  have hnt31 : a.nt < 2 ^ 31 := by omega
  have G0 : ∀ (e0 : Nat) (he : e0 < a.n) (h : qM a w f I A B R (some (.int (an_best a (some e0))))), ∀ i, i ≤ (a.P * a.N - 1) → ∀ (b : Int32) (s : Int64) (x : Int32) (z6 : Value) (Iv : mI) (Av : mI) (Bv : mB), b = (bst (fun d => zL (zal (zva a e0 d))) i).1 → s = (bst (fun d => zL (zal (zva a e0 d))) i).2 → x = nI (1 + i) → MR a w Iv Av Bv → fM I A B Iv Av Bv → J n_M_bestDay 23 [.ref 43, .int (nI e0), .int b, .long s, .float 0, .int x, z6, .float 0] [] Iv Av Bv (pk w f) R := by
    intro e0 he h
    have G : ∀ i, i ≤ (a.P * a.N - 1) → ∀ (b : Int32) (s : Int64) (x : Int32) (z6 : Value) (Iv : mI) (Av : mI) (Bv : mB), b = (bst (fun d => zL (zal (zva a e0 d))) i).1 → s = (bst (fun d => zL (zal (zva a e0 d))) i).2 → x = nI (1 + i) → MR a w Iv Av Bv → fM I A B Iv Av Bv → J n_M_bestDay 23 [.ref 43, .int (nI e0), .int b, .long s, .float 0, .int x, z6, .float 0] [] Iv Av Bv (pk w f) R := by
      refine lpz (fun i => ∀ (b : Int32) (s : Int64) (x : Int32) (z6 : Value) (Iv : mI) (Av : mI) (Bv : mB), b = (bst (fun d => zL (zal (zva a e0 d))) i).1 → s = (bst (fun d => zL (zal (zva a e0 d))) i).2 → x = nI (1 + i) → MR a w Iv Av Bv → fM I A B Iv Av Bv → J n_M_bestDay 23 [.ref 43, .int (nI e0), .int b, .long s, .float 0, .int x, z6, .float 0] [] Iv Av Bv (pk w f) R) (fun i hi ih => ?_)
      intro b s x z6 Iv Av Bv eb es ex Mv fv
      subst eb; subst es; subst ex
      refine X 200 _ _ _ _ _ _ _ _ _ ?_
      refine Exists.intro _ (And.intro M.hw (And.intro (vlit rfl) ?_))
      refine Exists.intro _ (And.intro M.hw (And.intro (vlit rfl) ?_))
      refine And.intro (fun q1 => ?_) (fun q1 => ?_)
      · have q0 : Av w 0 * Av w 1 ≤ nI (1 + i) := q1
        rw [Mv.hP, Mv.hN, pk_mul] at q0
        have e : i = a.P * a.N - 1 := by have := (nI_leI (by omega) (by omega)).mp q0; omega
        subst e
        exact h _ _ _ Mv fv
      · have q0 : ¬ Av w 0 * Av w 1 ≤ nI (1 + i) := q1
        rw [Mv.hP, Mv.hN, pk_mul] at q0
        have hl : i < a.P * a.N - 1 := by have : 1 + i < a.P * a.N := Nat.lt_of_not_le (fun z => q0 (nI_le z (by omega))); omega
        refine c_MallMoved X Mv V (d := 1 + i) he (by omega) rfl (fun I1 A1 B1 M1 g1 => ?_)
        have f1 := (fv).trans g1
        refine And.intro (fun q2 => ?_) (fun q2 => ?_)
        · have e9 : bst (fun d => zL (zal (zva a e0 d))) (i + 1) = (nI (1 + i), zL (zal (zva a e0 (1 + i)))) := by rw [Nat.add_comm 1 i]; rw [Nat.add_comm 1 i] at q2; exact if_neg (fun z => absurd z (Int64.not_le.mpr q2))
          exact ih hl _ _ _ _ _ _ _ (by rw [e9]) (by rw [e9]) (nI_1 _) M1 f1
        · have e9 : bst (fun d => zL (zal (zva a e0 d))) (i + 1) = bst (fun d => zL (zal (zva a e0 d))) i := by rw [Nat.add_comm 1 i] at q2; exact if_pos (Int64.not_lt.mp q2)
          exact ih hl _ _ _ _ _ _ _ (by rw [e9]) (by rw [e9]) (nI_1 _) M1 f1
    exact G
  refine X 200 _ _ _ _ _ _ _ _ _ ?_
  refine c_MisEntry X M V (fun e0 he ee => ?_) (fun ze => ?_)
  · subst ee
    refine And.intro (fun _ => ?_) (fun q => absurd q (by decide))
    refine c_MallMoved X M V (d := 0) he (by have := hD1; omega) rfl (fun I1 A1 B1 M1 g1 => ?_)
    have f1 := ((fM.refl I A B)).trans g1
    rw [ixN_s he hn31] at h
    exact G0 e0 he h 0 (Nat.zero_le _) _ _ _ _ _ _ _ rfl rfl rfl M1 f1
  · refine And.intro (fun q => absurd (by decide) q) (fun _ => ?_)
    rw [ixN_n hn31 ze] at h
    exact h _ _ _ M (fM.refl _ _ _)
theorem c_MisLate {J : mJ} (X : mRules J) {I A : mI} {B : mB} {w f : Nat} {R : mR} {a : Ac} (M : MR a w I A B) (V : Vw a) {d m : Int32} (h1 : ∀ k, k < a.P * a.N → d = nI k → (-99999 : Int32) ≤ m ∧ m ≤ 99999 → R (some (.int 1)) I A B (pk w f)) (h0 : (∀ k, k < a.P * a.N → d = nI k → ¬ ((-99999 : Int32) ≤ m ∧ m ≤ 99999)) → R (some (.int 0)) I A B (pk w f)) : J n_M_isLate 0 [.ref 43, .int d, .int m] [] I A B (pk w f) R := by
  refine X 200 _ _ _ _ _ _ _ _ _ ?_
  refine c_MisDay X M V (fun d0 hd ed => ?_) (fun zd => ?_)
  · refine And.intro (fun q => absurd q (by decide)) (fun _ => ?_)
    refine c_MinB X (-99999) 99999 (by decide) (by decide) (fun zm => ?_) (fun zm => ?_)
    · refine And.intro (fun q => absurd q (by decide)) (fun _ => ?_)
      refine And.intro (Or.inr rfl) ?_
      exact h1 d0 hd ed zm
    · refine And.intro (fun _ => ?_) (fun q => absurd (by decide) q)
      refine And.intro (Or.inl rfl) ?_
      exact h0 (fun k hk e z => zm z)
  · refine And.intro (fun _ => ?_) (fun q => absurd (by decide) q)
    refine And.intro (Or.inl rfl) ?_
    exact h0 (fun k hk e _ => zd k hk e)
set_option maxRecDepth 20000 in
theorem r_late {J : mJ} (X : mRules J) {I A : mI} {B : mB} {w f : Nat} {R : mR} {a : Ac} (M : MR a w I A B) (V : Vw a) (hn7 : a.n + 1 ≤ 480) {d m : Int32} (h : qM a w f I A B R (some (.long (an_late a (ixN (zD a) d) m)))) : J n_M_late 0 [.ref 43, .int d, .int m, .float 0, .float 0, .float 0] [] I A B (pk w f) R := by
  have hP40 := V.P40
  have hN8 := V.N8
  have hn4 := V.n4
  have hnt4 := V.nt4
  have hcN := V.cN
  have hPN := Nat.mul_le_mul hP40 hN8
  have hD31 : a.P * a.N < 2 ^ 31 := by omega
  have hN31 : a.N < 2 ^ 31 := by omega
  have hn31 : a.n < 2 ^ 31 := by omega
  have hnt31 : a.nt < 2 ^ 31 := by omega
  have G0 : ∀ (d0 : Nat) (hd : d0 < a.P * a.N) (Vx : Vw (zpy a m.toInt d0)) (h : qM a w f I A B R (some (.long (zL (zsm (zwx a (zpy a m.toInt d0)) a.c))))), ∀ i, i ≤ a.c → ∀ (s : Int64) (x : Int32) (Iv : mI) (Av : mI) (Bv : mB), s = zL (zsm (zwx a (zpy a m.toInt d0)) i) → x = nI i → MR (zpy a m.toInt d0) w Iv Av Bv → fM I A B Iv Av Bv → J n_M_late 27 [.ref 43, .int (nI d0), .int m, .long s, .float 0, .int x] [] Iv Av Bv (pk w f) R := by
    intro d0 hd Vx h
    have G : ∀ i, i ≤ a.c → ∀ (s : Int64) (x : Int32) (Iv : mI) (Av : mI) (Bv : mB), s = zL (zsm (zwx a (zpy a m.toInt d0)) i) → x = nI i → MR (zpy a m.toInt d0) w Iv Av Bv → fM I A B Iv Av Bv → J n_M_late 27 [.ref 43, .int (nI d0), .int m, .long s, .float 0, .int x] [] Iv Av Bv (pk w f) R := by
      refine lpz (fun i => ∀ (s : Int64) (x : Int32) (Iv : mI) (Av : mI) (Bv : mB), s = zL (zsm (zwx a (zpy a m.toInt d0)) i) → x = nI i → MR (zpy a m.toInt d0) w Iv Av Bv → fM I A B Iv Av Bv → J n_M_late 27 [.ref 43, .int (nI d0), .int m, .long s, .float 0, .int x] [] Iv Av Bv (pk w f) R) (fun i hi ih => ?_)
      intro s x Iv Av Bv es ex Mv fv
      subst es; subst ex
      refine X 200 _ _ _ _ _ _ _ _ _ ?_
      refine And.intro (fun q1 => ?_) (fun q1 => ?_)
      · have q0 := q1
        rw [Mv.hc] at q0
        have e := lpx hi (by omega) q0
        subst e
        exact h _ _ _ (Mv.rn ex_en rfl (by rw [Mv.hn]; exact nI_pred _)) (fv.trans (fM.i (by omega)))
      · have q0 := q1
        rw [Mv.hc] at q0
        have hl := lpc hi (by omega) q0
        refine c_Mwrong X Mv Vx (p := i) (show a.P * i + a.P ≤ 320 by have := P_le (a := a) (p := i) (by omega); omega) (by omega) (fun Bv1 hv1 => ?_)
        have M1 := (Mv).fB (hv1 55 (by decide))
        have f1 := (fv).trans (fM.b59 hv1)
        have hl2 : i < (zpy a m.toInt d0).c := hl
        exact ih hl _ _ _ _ _ (by rw [if_pos hl2, zL_add]; rfl) (nI_1 i) M1 f1
    exact G
  refine X 200 _ _ _ _ _ _ _ _ _ ?_
  refine c_MisLate X M V (fun d0 hd ed hm => ?_) (fun zd => ?_)
  · subst ed
    have hmb := i32b hm
    have hmc : -99999 ≤ m.toInt ∧ m.toInt ≤ 99999 := hmb
    refine And.intro (fun _ => ?_) (fun q => absurd q (by decide))
    refine c_Menters X M V (by omega) (s := 0) rfl (i64z m) rfl (fun I1 A1 B1 M1 g1 => ?_)
    have f1 := ((fM.refl I A B)).trans g1
    rw [ixN_s hd hD31] at h
    simp only [an_late, if_pos hm] at h
    exact G0 d0 hd (vw_en V hn7 (by omega) (by omega) (by omega)) h 0 (Nat.zero_le _) _ _ _ _ _ rfl rfl M1 f1
  · refine And.intro (fun q => absurd (by decide) q) (fun _ => ?_)
    have e9 : an_late a (ixN (zD a) d) m = NS := by
      rcases ixN_c hD31 d with ⟨k, hk, e1, e2⟩ | ⟨_, e2⟩
      · rw [e2]; exact if_neg (zd k hk e1)
      · rw [e2]; rfl
    rw [e9] at h
    exact h _ _ _ M (fM.refl _ _ _)
set_option maxRecDepth 20000 in
theorem r_touched {J : mJ} (X : mRules J) {I A : mI} {B : mB} {w f : Nat} {R : mR} {a : Ac} (M : MR a w I A B) (V : Vw a) (hn7 : a.n + 1 ≤ 480) {d m : Int32} (h : qM a w f I A B R (some (.int (an_touched a (ixN (zD a) d) m)))) : J n_M_touched 0 [.ref 43, .int d, .int m, .float 0, .float 0, .float 0, .float 0, .float 0] [] I A B (pk w f) R := by
  have hP40 := V.P40
  have hN8 := V.N8
  have hn4 := V.n4
  have hnt4 := V.nt4
  have hcN := V.cN
  have hPN := Nat.mul_le_mul hP40 hN8
  have hD31 : a.P * a.N < 2 ^ 31 := by omega
  have hN31 : a.N < 2 ^ 31 := by omega
  have hn31 : a.n < 2 ^ 31 := by omega
  have hnt31 : a.nt < 2 ^ 31 := by omega
  have G0 : ∀ (d0 : Nat) (hd : d0 < a.P * a.N) (Vx : Vw (zpy a m.toInt d0)) (h : qM a w f I A B R (some (.int (fI (fd (ztc a m.toInt d0) a.c))))), ∀ i, i ≤ a.c → ∀ (x : Int32) (z4 : Value) (z6 : Value) (Iv : mI) (Av : mI) (Bv : mB), x = nI i → (∀ j, j < i → ztc a m.toInt d0 j = false) → MR a w Iv Av Bv → fM I A B Iv Av Bv → J n_M_touched 14 [.ref 43, .int (nI d0), .int m, .int x, z4, .float 0, z6, .float 0] [] Iv Av Bv (pk w f) R := by
    intro d0 hd Vx h
    have G : ∀ i, i ≤ a.c → ∀ (x : Int32) (z4 : Value) (z6 : Value) (Iv : mI) (Av : mI) (Bv : mB), x = nI i → (∀ j, j < i → ztc a m.toInt d0 j = false) → MR a w Iv Av Bv → fM I A B Iv Av Bv → J n_M_touched 14 [.ref 43, .int (nI d0), .int m, .int x, z4, .float 0, z6, .float 0] [] Iv Av Bv (pk w f) R := by
      refine lpz (fun i => ∀ (x : Int32) (z4 : Value) (z6 : Value) (Iv : mI) (Av : mI) (Bv : mB), x = nI i → (∀ j, j < i → ztc a m.toInt d0 j = false) → MR a w Iv Av Bv → fM I A B Iv Av Bv → J n_M_touched 14 [.ref 43, .int (nI d0), .int m, .int x, z4, .float 0, z6, .float 0] [] Iv Av Bv (pk w f) R) (fun i hi ih => ?_)
      intro x z4 z6 Iv Av Bv ex hno Mv fv
      subst ex
      refine X 200 _ _ _ _ _ _ _ _ _ ?_
      refine And.intro (fun q1 => ?_) (fun q1 => ?_)
      · have q0 := q1
        rw [Mv.hc] at q0
        have e := lpx hi (by omega) q0
        subst e
        rw [fd_no hno] at h
        exact h _ _ _ Mv fv
      · have q0 := q1
        rw [Mv.hc] at q0
        have hl := lpc hi (by omega) q0
        refine c_Mwrong X Mv V (p := i) (show a.P * i + a.P ≤ 320 by have := P_le (a := a) (p := i) (by omega); omega) (by omega) (fun Bv1 hv1 => ?_)
        have M1 := (Mv).fB (hv1 55 (by decide))
        have f1 := (fv).trans (fM.b59 hv1)
        refine c_Menters X M1 V (by omega) (s := 0) rfl (i64z m) rfl (fun I2 A2 B2 M2 g2 => ?_)
        have f2 := (f1).trans g2
        refine c_Mwrong X M2 Vx (p := i) (show a.P * i + a.P ≤ 320 by have := P_le (a := a) (p := i) (by omega); omega) (by omega) (fun Bv3 hv3 => ?_)
        have M3 := (M2).fB (hv3 55 (by decide))
        have f3 := (f2).trans (fM.b59 hv3)
        refine And.intro (fun q2 => ?_) (fun q2 => ?_)
        · have M4 := M3.rn (a := a) (v1 := I2 43 19 - 1) ex_en rfl (by rw [M2.hn]; exact nI_pred _)
          have f4 := f3.trans (fM.i (j := 19) (x := I2 43 19 - 1) (by omega))
          have hl2 : i < (zpy a m.toInt d0).c := hl
          rw [if_pos hl2, if_pos hl] at q2
          exact ih hl _ _ _ _ _ _ (nI_1 i) (all_lt hno (decide_eq_false (fun z => z q2))) M4 f4
        · have M4 := M3.rn (a := a) (v1 := I2 43 19 - 1) ex_en rfl (by rw [M2.hn]; exact nI_pred _)
          have f4 := f3.trans (fM.i (j := 19) (x := I2 43 19 - 1) (by omega))
          have hl2 : i < (zpy a m.toInt d0).c := hl
          rw [if_pos hl2, if_pos hl] at q2
          rw [fd_at hl (decide_eq_true q2) hno] at h
          exact h _ _ _ M4 f4
    exact G
  refine X 200 _ _ _ _ _ _ _ _ _ ?_
  refine c_MisLate X M V (fun d0 hd ed hm => ?_) (fun zd => ?_)
  · subst ed
    have hmb := i32b hm
    have hmc : -99999 ≤ m.toInt ∧ m.toInt ≤ 99999 := hmb
    refine And.intro (fun _ => ?_) (fun q => absurd q (by decide))
    rw [ixN_s hd hD31] at h
    simp only [an_touched, if_pos hm] at h
    exact G0 d0 hd (vw_en V hn7 (by omega) (by omega) (by omega)) h 0 (Nat.zero_le _) _ _ _ _ _ _ rfl (fun j hj => absurd hj (Nat.not_lt_zero j)) M (fM.refl _ _ _)
  · refine And.intro (fun q => absurd (by decide) q) (fun _ => ?_)
    have e9 : an_touched a (ixN (zD a) d) m = -2 := by
      rcases ixN_c hD31 d with ⟨k, hk, e1, e2⟩ | ⟨_, e2⟩
      · rw [e2]; exact if_neg (zd k hk e1)
      · rw [e2]; rfl
    rw [e9] at h
    exact h _ _ _ M (fM.refl _ _ _)
set_option maxRecDepth 20000 in
theorem c_MtiltedBy {J : mJ} (X : mRules J) {I A : mI} {B : mB} {w f : Nat} {R : mR} {a : Ac} (M : MR a w I A B) (V : Vw a) (hz0 : a.ti = none) {t0 : Nat} (ht : t0 < a.nt) {m : Int} (hm : -5000 ≤ m ∧ m ≤ 5000) {x : Int32} (ex : x = zN m) (h : qM a w f I A B R (some (.long (zL (zal (zti a t0 m) - zal a))))) : J n_M_tiltedBy 0 [.ref 43, .int (nI t0), .int x, .float 0, .float 0, .float 0, .float 0] [] I A B (pk w f) R := by
  refine X 200 _ _ _ _ _ _ _ _ _ ?_
  refine c_MallOf X M V (fun Bv1 hv1 => ?_)
  have M1 := (M).fB (hv1 55 (by decide))
  have f1 := ((fM.refl I A B)).trans (fM.b59 hv1)
  refine c_MallOf X (M1.ti (t := t0) rfl ex) (vw_ti V ht hm) (fun Bv2 hv2 => ?_)
  have M2 := (M1.ti (t := t0) rfl ex).fB (hv2 55 (by decide))
  have f2 := ((f1.trans (fM.i (j := 21) (x := nI t0) (by omega))).trans (fM.i (j := 22) (x := x) (by omega))).trans (fM.b59 hv2)
  have h2 := h _ _ _ (M2.tib hz0) (f2.trans (fM.i (j := 21) (x := -1) (by omega)))
  rw [← zL_sub] at h2
  exact h2
set_option maxRecDepth 20000 in
theorem r_tilted {J : mJ} (X : mRules J) {I A : mI} {B : mB} {w f : Nat} {R : mR} {a : Ac} (M : MR a w I A B) (V : Vw a) (hz0 : a.ti = none) {t m : Int32} (h : qM a w f I A B R (some (.long (an_tilted a (ixN a.nt t) m)))) : J n_M_tilted 0 [.ref 43, .int t, .int m] [] I A B (pk w f) R := by
  have hP40 := V.P40
  have hN8 := V.N8
  have hn4 := V.n4
  have hnt4 := V.nt4
  have hcN := V.cN
  have hPN := Nat.mul_le_mul hP40 hN8
  have hD31 : a.P * a.N < 2 ^ 31 := by omega
  have hN31 : a.N < 2 ^ 31 := by omega
  have hn31 : a.n < 2 ^ 31 := by omega
  have hnt31 : a.nt < 2 ^ 31 := by omega
  refine X 200 _ _ _ _ _ _ _ _ _ ?_
  refine c_MisTier X M V (fun t0 ht et => ?_) (fun zt => ?_)
  · subst et
    refine And.intro (fun q => absurd q (by decide)) (fun _ => ?_)
    refine c_MinB X (-5000) 5000 (by decide) (by decide) (fun zm => ?_) (fun zm => ?_)
    · have hmc : -5000 ≤ m.toInt ∧ m.toInt ≤ 5000 := i32b zm
      refine And.intro (fun q => absurd q (by decide)) (fun _ => ?_)
      refine c_MtiltedBy X M V hz0 ht hmc (Int32.ofInt_toInt m).symm (fun I1 A1 B1 M1 g1 => ?_)
      have f1 := ((fM.refl I A B)).trans g1
      rw [ixN_s ht hnt31] at h
      simp only [an_tilted, if_pos zm] at h
      exact h _ _ _ M1 f1
    · refine And.intro (fun _ => ?_) (fun q => absurd (by decide) q)
      rw [ixN_s ht hnt31] at h
      simp only [an_tilted, if_neg zm] at h
      exact h _ _ _ M (fM.refl _ _ _)
  · refine And.intro (fun _ => ?_) (fun q => absurd (by decide) q)
    rw [ixN_n hnt31 zt] at h
    exact h _ _ _ M (fM.refl _ _ _)
set_option maxRecDepth 20000 in
theorem r_limited {J : mJ} (X : mRules J) {I A : mI} {B : mB} {w f : Nat} {R : mR} {a : Ac} (M : MR a w I A B) (V : Vw a) {bk : Bool} (hbk : 0 < A w 3 ↔ bk = true) (hz0 : a.fo = none) {l : Int32} (h : qM a w f I A B R (some (.long (an_limited a bk (ixN 100000 l))))) : J n_M_limited 0 [.ref 43, .int l, .float 0, .float 0, .float 0, .float 0] [] I A B (pk w f) R := by
  have hP40 := V.P40
  have hN8 := V.N8
  have hn4 := V.n4
  have hnt4 := V.nt4
  have hcN := V.cN
  have hPN := Nat.mul_le_mul hP40 hN8
  have hD31 : a.P * a.N < 2 ^ 31 := by omega
  have hN31 : a.N < 2 ^ 31 := by omega
  have hn31 : a.n < 2 ^ 31 := by omega
  have hnt31 : a.nt < 2 ^ 31 := by omega
  refine X 200 _ _ _ _ _ _ _ _ _ ?_
  refine c_MisBk X M.hw hbk (fun zb => ?_) (fun zb => ?_)
  · subst zb
    refine And.intro (fun q => absurd q (by decide)) (fun _ => ?_)
    refine c_MinK X 100000 (by decide) (by decide) (fun l0 hl el => ?_) (fun zl => ?_)
    · subst el
      refine And.intro (fun _ => ?_) (fun q => absurd q (by decide))
      refine c_MallOf X M V (fun Bv1 hv1 => ?_)
      have M1 := (M).fB (hv1 55 (by decide))
      have f1 := ((fM.refl I A B)).trans (fM.b59 hv1)
      refine c_MallOf X (M1.fo (l := l0) rfl) (vw_fo V (by omega)) (fun Bv2 hv2 => ?_)
      have M2 := (M1.fo (l := l0) rfl).fB (hv2 55 (by decide))
      have f2 := (f1.trans (fM.i (j := 23) (x := nI l0) (by omega))).trans (fM.b59 hv2)
      rw [ixN_s hl (by decide)] at h
      have h2 := h _ _ _ (M2.fob hz0) (f2.trans (fM.i (j := 23) (x := -1) (by omega)))
      have e9 : an_limited a true (some l0) = zL (zal (zfo a l0)) - zL (zal a) := zL_sub.symm
      rw [e9] at h2
      exact h2
    · refine And.intro (fun q => absurd (by decide) q) (fun _ => ?_)
      rw [ixN_n (by decide) zl] at h
      exact h _ _ _ M (fM.refl _ _ _)
  · subst zb
    refine And.intro (fun _ => ?_) (fun q => absurd (by decide) q)
    exact h _ _ _ M (fM.refl _ _ _)
set_option maxRecDepth 20000 in
theorem c_MallWith {J : mJ} (X : mRules J) {I A : mI} {B : mB} {w f : Nat} {R : mR} {a : Ac} (M : MR a w I A B) (V : Vw a) (hn7 : a.n + 1 ≤ 480) {d0 m : Nat} (hd : d0 < a.P * a.N) (hm : m ≤ 99999) {xm : Int32} (em : xm = nI m) (h : qM a w f I A B R (some (.long (zL (zal (zpy a m d0)))))) : J n_M_allWith 0 [.ref 43, .int (nI d0), .int xm, .float 0, .float 0] [] I A B (pk w f) R := by
  subst em
  have hP40 := V.P40
  have hN8 := V.N8
  have hn4 := V.n4
  have hnt4 := V.nt4
  have hcN := V.cN
  have hPN := Nat.mul_le_mul hP40 hN8
  have hD31 : a.P * a.N < 2 ^ 31 := by omega
  have hN31 : a.N < 2 ^ 31 := by omega
  have hn31 : a.n < 2 ^ 31 := by omega
  have hnt31 : a.nt < 2 ^ 31 := by omega
  refine X 200 _ _ _ _ _ _ _ _ _ ?_
  refine c_Menters X M V (by omega) (s := 0) (v := d0) (m := (m : Int)) rfl (nL (by omega)) rfl (fun I1 A1 B1 M1 g1 => ?_)
  have f1 := ((fM.refl I A B)).trans g1
  refine c_MallOf X M1 (vw_en V hn7 (by omega) (by omega) (by omega)) (fun Bv2 hv2 => ?_)
  have M2 := (M1).fB (hv2 55 (by decide))
  have f2 := (f1).trans (fM.b59 hv2)
  exact h _ _ _ (M2.rn ex_en rfl (by rw [M1.hn]; exact nI_pred _)) (f2.trans (fM.i (by omega)))
