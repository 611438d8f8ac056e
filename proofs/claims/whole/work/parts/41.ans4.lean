/-! answers: the least that does; what comes at the end -/
def lsx (L : Nat) (c : Nat → Bool) (K : Nat) : Int32 := match fd (fun j => !(c (L + j))) K with
  | some j => nI (L + j)
  | none => -1
theorem lsx_s {L K r : Nat} {c : Nat → Bool} (h1 : L ≤ r) (h2 : r < L + K) (h3 : c r = false) (h4 : ∀ x, L ≤ x → x < r → c x = true) : lsx L c K = nI r := by
  unfold lsx
  rw [fd_at (i := r - L) (by omega) (by rw [show L + (r - L) = r by omega, h3]; rfl) (fun j hj => by rw [h4 (L + j) (by omega) (by omega)]; rfl)]
  show nI (L + (r - L)) = _
  rw [show L + (r - L) = r by omega]
theorem lsx_n {L K : Nat} {c : Nat → Bool} (h : ∀ x, L ≤ x → x < L + K → c x = true) : lsx L c K = -1 := by
  unfold lsx
  rw [fd_no (fun j hj => by rw [h (L + j) (by omega) (by omega)]; rfl)]
def zcn (a : Ac) (d : Nat) (g : Int32) (x : Nat) : Bool := decide (zL (zal (zpy a x d)) < zL (zal a) + g.toInt64)
def an_needs (a : Ac) (d : Option Nat) (g : Int32) : Int32 := match d with
  | none => -2
  | some d => if (1 : Int32) ≤ g ∧ g ≤ 99999 then lsx 1 (zcn a d g) 99999 else -2
def zct (a : Ac) (t : Nat) (g : Int32) (x : Nat) : Bool := decide (zL (zal (zti a t x) - zal a) < g.toInt64)
def an_tiltFor (a : Ac) (t : Option Nat) (g : Int32) : Int32 := match t with
  | none => -2
  | some t => if (1 : Int32) ≤ g ∧ g ≤ 99999 then lsx 1 (zct a t g) 5000 else -2
def an_rights (a : Ac) (bk : Bool) : Int32 := match bk with
  | false => -2
  | true => if a.c < a.N then nI ((zrr a a.c).n - a.n) else -2
def an_righted (a : Ac) (bk : Bool) : Int64 := match bk with
  | false => NS
  | true => if a.c < a.N then zL (zsm (fun j => (zrr a a.c).am (a.n + j)) ((zrr a a.c).n - a.n)) else NS
def an_settled (a : Ac) (bk : Bool) : Int64 := match bk with
  | false => NS
  | true => zL (zto (zset (a.N - a.c) a))
theorem zset_s {r : Nat} {x : Ac} (h : 0 < r) : zset r x = zset (r - 1) (zcl (if x.c = x.N - 1 then zrr x x.c else x)) := by
  cases r with
  | zero => omega
  | succ k => rfl
/-- with payments more -/
def zpl (a : Ac) (d : Nat) (m : Int) : Nat → Ac
  | 0 => a
  | k + 1 => zpy (zpl a d m k) m (d + k * a.P)
theorem ex_pl {a : Ac} {d : Nat} {m : Int} : ∀ k, Ex a (zpl a d m k) ∧ (zpl a d m k).c = a.c ∧ (zpl a d m k).n = a.n + k
  | 0 => ⟨Ex.refl a, rfl, rfl⟩
  | k + 1 => by
    obtain ⟨h1, h2, h3⟩ := ex_pl (a := a) (d := d) (m := m) k
    exact ⟨h1.trans ex_en, h2, by show (zpl a d m k).n + 1 = _; omega⟩
def zpx (a : Ac) (d m k : Nat) : Ac := if m = 0 then a else zpl a d m k
def cpl (a : Ac) (d n : Int32) : Option (Nat × Nat) := match ixN (a.P * a.N) d with
  | none => none
  | some d => match ixN 9 n with
    | none => none
    | some 0 => none
    | some (m + 1) => if d + m * a.P < a.P * a.N ∧ a.c < a.N then some (d, m + 1) else none
def an_planned (a : Ac) (c : Option (Nat × Nat)) (m : Option Nat) : Int64 := match c with
  | none => NS
  | some (d, k) => match m with
    | none => NS
    | some m => zL (zto (zset (a.N - a.c) (zpx a d m k)))
def zcp (a : Ac) (d k x : Nat) : Bool := decide (zL (zto (zset (a.N - a.c) (zpx a d x k))) < 0)
def an_plan (a : Ac) (c : Option (Nat × Nat)) : Int32 := match c with
  | none => -2
  | some (d, k) => lsx 0 (zcp a d k) 100000
/-- the amounts that count for the ideal, of the first i -/
def zkp (a : Ac) (i : Nat) : Ac := (Ac.mk (Ac.P a) (Ac.N a) (Ac.K a) (Ac.c a) (Ac.n a) (Ac.nt a) (Ac.nc a) (Ac.so a) (Ac.va a) (Ac.pg a) (fun j => if j < i ∧ ¬ (a.so j = 0 ∧ ztn a j = false) then 0 else a.am j) (Ac.og a) (Ac.tr a) (Ac.tt a) (Ac.db a) (Ac.cd a) (Ac.co a) (Ac.cv a) (Ac.ti a) (Ac.tb a) (Ac.fo a))
def zie (a : Ac) : Nat → Ac
  | 0 => zkp a a.n
  | q + 1 => zen (zie a q) 1 (zit (zie a q) q) (zcm (zie a q) q) (nI q)
def an_ideal (a : Ac) (p : Option Nat) : Int64 := match p with
  | none => NS
  | some p => zL (zit (zie a p) p)
theorem ex_ie {a : Ac} : ∀ q, Ex (zkp a a.n) (zie a q) ∧ (zie a q).c = a.c ∧ (zie a q).n = a.n + q
  | 0 => ⟨Ex.refl _, rfl, rfl⟩
  | q + 1 => by
    obtain ⟨h1, h2, h3⟩ := ex_ie (a := a) q
    exact ⟨h1.trans ex_en, h2, by show (zie a q).n + 1 = _; omega⟩
theorem vw_kp {a : Ac} (V : Vw a) {i : Nat} : Vw (zkp a i) := (Vw.mk (Vw.P40 V :) (Vw.N8 V :) (Vw.K1 V :) (Vw.K4 V :) (Vw.cN V :) (Vw.n4 V :) (Vw.nt4 V :) (Vw.nc4 V :) (Vw.so3 V :) (Vw.va9 V :) (Vw.pg8 V :) (fun j hj => by
    show -16777216 ≤ (if j < i ∧ ¬ (a.so j = 0 ∧ ztn a j = false) then 0 else a.am j) ∧ (if j < i ∧ ¬ (a.so j = 0 ∧ ztn a j = false) then 0 else a.am j) ≤ 16777216
    have := V.am1 j hj
    split <;> omega) (Vw.tr5 V :) (Vw.tt9 V :) (Vw.db0 V :) (Vw.db2 V :) (Vw.cd3 V :) (Vw.co6 V :) (Vw.cv5 V :) (Vw.cv9 V :) (Vw.tb5 V :) (Vw.ti4 V :) (Vw.fo9 V :))
