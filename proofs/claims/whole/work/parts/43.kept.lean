/-! the ideal's rows -/
def zkr (a : Ac) (i : Nat) : Ac := (Ac.mk (Ac.P a) (Ac.N a) (Ac.K a) (Ac.c a) (Ac.n a) (Ac.nt a) (Ac.nc a) (Ac.so a) (Ac.va a) (Ac.pg a) (fun j => if j < i then a.am j else if j < a.n ∧ ¬ (a.so j = 0 ∧ ztn a j = false) then 0 else a.am j) (Ac.og a) (Ac.tr a) (Ac.tt a) (Ac.db a) (Ac.cd a) (Ac.co a) (Ac.cv a) (Ac.ti a) (Ac.tb a) (Ac.fo a))
theorem MR.amf {a : Ac} {w : Nat} {I A : mI} {B B' : mB} (M : MR a w I A B) (f : Nat → Int) (hB : ∀ j, j < a.n → B' 55 j = zL (f j)) : MR (Ac.mk (Ac.P a) (Ac.N a) (Ac.K a) (Ac.c a) (Ac.n a) (Ac.nt a) (Ac.nc a) (Ac.so a) (Ac.va a) (Ac.pg a) (f) (Ac.og a) (Ac.tr a) (Ac.tt a) (Ac.db a) (Ac.cd a) (Ac.co a) (Ac.cv a) (Ac.ti a) (Ac.tb a) (Ac.fo a)) w I A B' := (MR.mk (MR.hw M :) (MR.w5 M :) (MR.hP M :) (MR.hN M :) (MR.hK M :) (MR.hnt M :) (MR.htr M :) (MR.htt M :) (MR.hdb M :) (MR.hnc M :) (MR.hcd M :) (MR.hco M :) (MR.hcv M :) (MR.hn M :) (MR.hso M :) (hB) (MR.hva M :) (MR.hpg M :) (MR.hog M :) (MR.hc M :) (MR.hti M :) (MR.htb M :) (MR.hfo M :))
theorem MR.amg {a : Ac} {f : Nat → Int} {w : Nat} {I A : mI} {B B' : mB} (M : MR (Ac.mk (Ac.P a) (Ac.N a) (Ac.K a) (Ac.c a) (Ac.n a) (Ac.nt a) (Ac.nc a) (Ac.so a) (Ac.va a) (Ac.pg a) (f) (Ac.og a) (Ac.tr a) (Ac.tt a) (Ac.db a) (Ac.cd a) (Ac.co a) (Ac.cv a) (Ac.ti a) (Ac.tb a) (Ac.fo a)) w I A B) (hB : ∀ j, j < a.n → B' 55 j = zL (a.am j)) : MR a w I A B' := (MR.mk (MR.hw M :) (MR.w5 M :) (MR.hP M :) (MR.hN M :) (MR.hK M :) (MR.hnt M :) (MR.htr M :) (MR.htt M :) (MR.hdb M :) (MR.hnc M :) (MR.hcd M :) (MR.hco M :) (MR.hcv M :) (MR.hn M :) (MR.hso M :) (hB) (MR.hva M :) (MR.hpg M :) (MR.hog M :) (MR.hc M :) (MR.hti M :) (MR.htb M :) (MR.hfo M :))
abbrev zkf (a : Ac) (i j : Nat) : Int := if j < i ∧ ¬ (a.so j = 0 ∧ ztn a j = false) then 0 else a.am j
abbrev zrf (a : Ac) (i j : Nat) : Int := if j < i then a.am j else zkf a a.n j
theorem MR.b0 {a : Ac} {f : Nat → Int} {w : Nat} {I A : mI} {B : mB} (M : MR (Ac.mk (Ac.P a) (Ac.N a) (Ac.K a) (Ac.c a) (Ac.n a) (Ac.nt a) (Ac.nc a) (Ac.so a) (Ac.va a) (Ac.pg a) (f) (Ac.og a) (Ac.tr a) (Ac.tt a) (Ac.db a) (Ac.cd a) (Ac.co a) (Ac.cv a) (Ac.ti a) (Ac.tb a) (Ac.fo a)) w I A B) : MR a w I A (up1 B 55 (fun j => zL (a.am j))) := M.amg (fun j _ => by show (if 55 = 55 then _ else _) = _; rw [if_pos rfl])
theorem MR.kp {a : Ac} {i y w : Nat} {I A : mI} {B B' : mB} (M : MR (zkp a i) w I A B) (hB : ∀ j, j < a.n → B' 55 j = zL ((zkp a y).am j)) : MR (zkp a y) w I A B' := (MR.b0 (a := a) (f := zkf a i) M).amf (zkf a y) hB
theorem MR.kr {a : Ac} {y w : Nat} {I A : mI} {B B' : mB} (M : MR (zkp a a.n) w I A B) (hB : ∀ j, j < a.n → B' 55 j = zL ((zkr a y).am j)) : MR (zkr a y) w I A B' := (MR.b0 (a := a) (f := zkf a a.n) M).amf (zrf a y) hB
theorem MR.kr2 {a : Ac} {i y w : Nat} {I A : mI} {B B' : mB} (M : MR (zkr a i) w I A B) (hB : ∀ j, j < a.n → B' 55 j = zL ((zkr a y).am j)) : MR (zkr a y) w I A B' := (MR.b0 (a := a) (f := zrf a i) M).amf (zrf a y) hB
theorem MR.ke {a : Ac} {w : Nat} {I A : mI} {B : mB} (M : MR (zkr a a.n) w I A B) : MR a w I A B := MR.amg (a := a) (f := zrf a a.n) M (fun j hj => (M.ham j hj).trans (congrArg zL (if_pos hj)))
theorem MR.k0 {a : Ac} {w : Nat} {I A : mI} {B : mB} (M : MR a w I A B) : MR (zkp a 0) w I A B := M.amf (zkf a 0) (fun j hj => (M.ham j hj).trans (congrArg zL (if_neg (fun (z : j < 0 ∧ _) => absurd z.1 (Nat.not_lt_zero j))).symm))
theorem kp_am {a : Ac} {i : Nat} : (zkp a i).am i = a.am i := if_neg (fun z => absurd z.1 (Nat.lt_irrefl i))
theorem kp_z {a : Ac} {i j : Nat} (h : ¬ (a.so i = 0 ∧ ztn a i = false)) : (zkp a (i + 1)).am j = if j = i then 0 else (zkp a i).am j := by
  show (if j < i + 1 ∧ ¬ (a.so j = 0 ∧ ztn a j = false) then 0 else a.am j) = if j = i then 0 else (if j < i ∧ ¬ (a.so j = 0 ∧ ztn a j = false) then 0 else a.am j)
  by_cases e : j = i
  · subst e
    rw [if_pos rfl, if_pos ⟨by omega, h⟩]
  · rw [if_neg e]
    by_cases z : j < i
    · by_cases y : ¬ (a.so j = 0 ∧ ztn a j = false)
      · rw [if_pos ⟨by omega, y⟩, if_pos ⟨z, y⟩]
      · rw [if_neg (fun x => y x.2), if_neg (fun x => y x.2)]
    · rw [if_neg (fun x => by omega), if_neg (fun x => z x.1)]
theorem kp_k {a : Ac} {i j : Nat} (h : a.so i = 0 ∧ ztn a i = false) : (zkp a (i + 1)).am j = (zkp a i).am j := by
  show (if j < i + 1 ∧ ¬ (a.so j = 0 ∧ ztn a j = false) then 0 else a.am j) = (if j < i ∧ ¬ (a.so j = 0 ∧ ztn a j = false) then 0 else a.am j)
  by_cases e : j = i
  · subst e
    rw [if_neg (fun z => z.2 h), if_neg (fun z => z.2 h)]
  · by_cases z : j < i
    · by_cases y : ¬ (a.so j = 0 ∧ ztn a j = false)
      · rw [if_pos ⟨by omega, y⟩, if_pos ⟨z, y⟩]
      · rw [if_neg (fun x => y x.2), if_neg (fun x => y x.2)]
    · rw [if_neg (fun x => by omega), if_neg (fun x => z x.1)]
theorem kr_s {a : Ac} {i j : Nat} : (zkr a (i + 1)).am j = if j = i then a.am i else (zkr a i).am j := by
  show (if j < i + 1 then a.am j else (zkp a a.n).am j) = if j = i then a.am i else (if j < i then a.am j else (zkp a a.n).am j)
  by_cases e : j = i
  · subst e
    rw [if_pos rfl, if_pos (by omega)]
  · rw [if_neg e]
    by_cases z : j < i
    · rw [if_pos z, if_pos (by omega)]
    · rw [if_neg z, if_neg (by omega)]
theorem kr_0 {a : Ac} {j : Nat} : (zkp a a.n).am j = (zkr a 0).am j := by
  show _ = (if j < 0 then a.am j else zkf a a.n j)
  rw [if_neg (Nat.not_lt_zero j)]
  rfl
/-- the last interest so far -/
def zvq (a : Ac) : Nat → Int64
  | 0 => 0
  | q + 1 => zL (zit (zie a q) q)
