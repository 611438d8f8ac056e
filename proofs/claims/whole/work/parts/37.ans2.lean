/-! answers about entries -/
def an_entry (a : Ac) (e k : Option Nat) : Int64 := match e with
  | none => NS
  | some e => match k with
    | none => NS
    | some 0 => (nI (a.so e)).toInt64
    | some 1 => zL (a.am e)
    | some 2 => (nI (a.va e)).toInt64
    | some 3 => (nI (a.pg e)).toInt64
    | some 4 => if a.so e = 1 ∨ a.so e = 2 then (a.og e).toInt64 else -1
    | some _ => if a.so e = 3 then (a.og e).toInt64 else -1
def zln (a : Ac) (p : Nat) (i : Int32) (j : Nat) : Bool := decide (a.pg j = p ∧ nI (ct (fun j => decide (a.pg j = p)) j) = i)
def an_line (a : Ac) (p : Option Nat) (i : Int32) : Int32 := match p with
  | none => -2
  | some p => if i < 0 then -2 else fI (fd (zln a p i) a.n)
def zpgt (a : Ac) (p k j : Nat) : Int64 :=
  if k = 0 then (if a.pg j < p then zL (a.am j) else 0)
  else if k = 1 then (if a.pg j = p ∧ a.so j = 0 ∧ 0 < a.am j then zL (a.am j) else 0)
  else if k = 2 then (if a.pg j = p ∧ a.so j = 0 ∧ a.am j < 0 then -(zL (a.am j)) else 0)
  else if k = 6 then (if a.pg j ≤ p then zL (a.am j) else 0)
  else if k = 7 then (if a.pg j = p then 1 else 0)
  else (if a.pg j = p ∧ a.so j + 2 = k then zL (a.am j) else 0)
def an_page (a : Ac) (p k : Option Nat) : Int64 := match p with
  | none => NS
  | some p => match k with
    | none => NS
    | some k => sm (zpgt a p k) a.n
def zbdt (a : Ac) (p k j : Nat) : Int64 := if a.pg j = p ∧ (if k < 2 then a.va j < a.P * p else a.P * p + a.P ≤ a.va j) then (if k % 2 = 0 then 1 else zL (a.am j)) else 0
def an_backdated (a : Ac) (p k : Option Nat) : Int64 := match p with
  | none => NS
  | some p => match k with
    | none => NS
    | some k => sm (zbdt a p k) a.n
def bfr (a : Ac) (e o : Nat) : Bool := decide (a.va o < a.va e ∨ a.va o = a.va e ∧ o < e)
def rnk (a : Ac) (e : Nat) : Nat := ct (bfr a e) a.n
def an_sorted (a : Ac) (bk : Bool) (k : Int32) : Int32 := match bk with
  | false => -2
  | true => if k < 0 then -2 else fI (fd (fun e => decide (nI (rnk a e) = k)) a.n)
def zhv (a : Ac) (d : Nat) : Bool := (fd (fun e => decide (a.va e = d)) a.n).isSome
def an_bears (a : Ac) (p : Option Nat) : Int32 := match p with
  | none => -2
  | some p => nI (ct (zhv a) (a.P * p + a.P))
def ztn (a : Ac) (e : Nat) : Bool := (fd (fun o => decide (a.so o = 3 ∧ a.og o = nI e)) a.n).isSome
