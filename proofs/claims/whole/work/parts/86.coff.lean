/-! paid off, along the class's order -/
def osd (a : Ac) (b : Bool) (e : Nat) : Bool := match b with
  | true => decide (0 < a.am e)
  | false => decide (a.am e < 0)
def onx (a : Ac) (od : Nat → Nat) (b : Bool) (fr : Nat) : Option Nat := fd (fun k => decide (fr ≤ k) && osd a b (od k)) a.n
def oPR (a : Ac) (od : Nat → Nat) (L : Nat → Int) (b : Bool) (p : Option Nat) : Prop := match p with
  | none => ∀ j, j < a.n → osd a b (od j) = true → L (od j) = 0
  | some p => p < a.n ∧ osd a b (od p) = true ∧ 0 < L (od p) ∧ (∀ j, j < p → osd a b (od j) = true → L (od j) = 0) ∧ (∀ j, p < j → j < a.n → osd a b (od j) = true → L (od j) = oab (a.am (od j)))
theorem osd_p {a : Ac} {b : Bool} {e : Nat} (h : osd a b e = true) : 0 < oab (a.am e) := by
  unfold oab
  cases b with
  | true =>
    have := of_decide_eq_true (p := 0 < a.am e) h
    split <;> omega
  | false =>
    have := of_decide_eq_true (p := a.am e < 0) h
    split <;> omega
theorem osl_d {a : Ac} {s : oSt} (H : OI a s) {b : Bool} {e : Nat} (he : e < a.n) : osl a s.1 b e = true ↔ 0 < s.1 e ∧ osd a b e = true := by
  have h := H.b e he
  rw [osl_i]
  cases b with
  | true =>
    refine ⟨fun z => ⟨z.1, decide_eq_true (z.2.mpr rfl)⟩, fun z => ⟨z.1, fun _ => rfl, fun _ => of_decide_eq_true (p := 0 < a.am e) z.2⟩⟩
  | false =>
    refine ⟨fun z => ⟨z.1, decide_eq_true ?_⟩, fun z => ⟨z.1, fun y => ?_, fun y => by cases y⟩⟩
    · have h1 : ¬ 0 < a.am e := fun y => by have := z.2.mp y; cases this
      have h2 := z.1
      unfold oab at h
      split at h <;> omega
    · have := of_decide_eq_true (p := a.am e < 0) z.2
      omega
theorem od_ne {a : Ac} {A : mI} {od : Nat → Nat} (O : Od a A od) {j k : Nat} (h1 : j < a.n) (h2 : k < a.n) (h : od j = od k) : j = k := by
  rcases Nat.lt_trichotomy j k with z | z | z
  · have := O.st j k z h2
    rw [h] at this
    omega
  · exact z
  · have := O.st k j z h1
    rw [h] at this
    omega
theorem pr_o {a : Ac} {A : mI} {od : Nat → Nat} (O : Od a A od) {s : oSt} (H : OI a s) {b : Bool} : ∀ {p : Option Nat}, oPR a od s.1 b p → ofo a s.1 b a.n = p.map od
  | none, P => by
    refine ofo_z (fun i hi => ?_)
    cases q : osl a s.1 b i with
    | false => rfl
    | true =>
      obtain ⟨j, hj, e⟩ := O.on i hi
      subst e
      have g := (osl_d H hi).mp q
      have := P j hj g.2
      omega
  | some p, P => by
    obtain ⟨h1, h2, h3, h4, h5⟩ := P
    refine ofo_l ⟨O.lt p h1, (osl_d H (O.lt p h1)).mpr ⟨h3, h2⟩, fun i hi hc => ?_⟩
    obtain ⟨j, hj, e⟩ := O.on i hi
    subst e
    have g := (osl_d H hi).mp hc
    rcases Nat.lt_trichotomy j p with z | z | z
    · have := h4 j z g.2
      omega
    · subst z; omega
    · have := O.st p j z hj
      omega
theorem pr_x {a : Ac} {od : Nat → Nat} {L : Nat → Int} {b : Bool} {fr : Nat} (h1 : ∀ j, j < fr → j < a.n → osd a b (od j) = true → L (od j) = 0) (h2 : ∀ j, fr ≤ j → j < a.n → osd a b (od j) = true → L (od j) = oab (a.am (od j))) : oPR a od L b (onx a od b fr) := by
  unfold onx
  cases hq : fd (fun k => decide (fr ≤ k) && osd a b (od k)) a.n with
  | none =>
    intro j hj hs
    have g := fd_none hq j hj
    rw [hs, Bool.and_true] at g
    exact h1 j (by have := of_decide_eq_false g; omega) hj hs
  | some p =>
    obtain ⟨g1, g2, g3⟩ := fd_some hq
    have g2' : (decide (fr ≤ p) && osd a b (od p)) = true := g2
    rw [Bool.and_eq_true] at g2'
    have hf := of_decide_eq_true g2'.1
    refine ⟨g1, g2'.2, by rw [h2 p hf g1 g2'.2]; exact osd_p g2'.2, fun j hj hs => ?_, fun j hj hl hs => h2 j (by omega) hl hs⟩
    have g := g3 j hj
    rw [hs, Bool.and_true] at g
    exact h1 j (by have := of_decide_eq_false g; omega) (by omega) hs
theorem pr_s {a : Ac} {A : mI} {od : Nat → Nat} (O : Od a A od) {L L' : Nat → Int} {b : Bool} {p : Nat} (P : oPR a od L b (some p)) (hs : ∀ e, e ≠ od p → osd a b e = true → L' e = L e) (h0 : 0 ≤ L' (od p)) : oPR a od L' b (if L' (od p) = 0 then onx a od b (p + 1) else some p) := by
  obtain ⟨h1, h2, h3, h4, h5⟩ := P
  have hne : ∀ j, j < a.n → j ≠ p → od j ≠ od p := fun j hj hne e => hne (od_ne O hj h1 e)
  by_cases z : L' (od p) = 0
  · rw [if_pos z]
    refine pr_x (fun j hj hl hd => ?_) (fun j hj hl hd => ?_)
    · by_cases e : j = p
      · rw [e]; exact z
      · rw [hs _ (hne j hl e) hd]; exact h4 j (by omega) hd
    · rw [hs _ (hne j hl (by omega)) hd]; exact h5 j (by omega) hl hd
  · rw [if_neg z]
    refine ⟨h1, h2, by omega, fun j hj hd => ?_, fun j hj hl hd => ?_⟩
    · rw [hs _ (hne j (by omega) (by omega)) hd]; exact h4 j hj hd
    · rw [hs _ (hne j hl (by omega)) hd]; exact h5 j hj hl hd
theorem pr_0 {a : Ac} {od : Nat → Nat} {b : Bool} : oPR a od (orn a 0).1 b (onx a od b 0) := pr_x (fun j hj => absurd hj (Nat.not_lt_zero j)) (fun j _ _ _ => rfl)
theorem osd_x {a : Ac} {e : Nat} (h1 : osd a true e = true) (h2 : osd a false e = true) : False := by
  have := of_decide_eq_true (p := 0 < a.am e) h1
  have := of_decide_eq_true (p := a.am e < 0) h2
  omega
theorem oL1_n {L : Nat → Int} {u v e : Nat} (h1 : e ≠ u) (h2 : e ≠ v) : oL1 L u v e = L e := if_neg (by omega)
theorem old_s {a : Ac} (V : Vw a) {s : oSt} {u v : Nat} (hu : ofo a s.1 true a.n = some u) (hv : ofo a s.1 false a.n = some v) {F F1 F2 : Nat → Int32} {dy : Int32} {x1 x2 : Int64} (H : OI a s) (hF : ∀ e, e < a.n → F e = old a s e) (h1 : ∀ j, F1 j = if j = u ∧ x1 = 0 then dy else F j) (h2 : ∀ j, F2 j = if j = v ∧ x2 = 0 then dy else F1 j) (e1 : x1 = 0 ↔ oL1 s.1 u v u = 0) (e2 : x2 = 0 ↔ oL1 s.1 u v v = 0) (ed : dy = nI (if a.va u < a.va v then a.va v else a.va u)) : ∀ e, e < a.n → F2 e = old a (oL1 s.1 u v, oT1 s.2 u v) e := fun e he => by
  obtain ⟨hu2, hv2, huv, pu, pv, au, av⟩ := o_uv hu hv
  have hb := obt_b pu pv
  have am0 : ¬ a.am u = 0 := by omega
  have lv : oL1 s.1 u v v = s.1 v - obt s.1 u v := if_pos (Or.inr rfl)
  have lu : oL1 s.1 u v u = s.1 u - obt s.1 u v := if_pos (Or.inl rfl)
  rw [h2]
  by_cases z : e = v
  · subst z
    by_cases y : oL1 s.1 u e e = 0
    · rw [if_pos ⟨rfl, e2.mpr y⟩, ed]
      have hn : ¬ (0 < oL1 s.1 u e e ∨ a.am e = 0) := fun q => by
        rcases q with q | q
        · omega
        · have g := H.b e he
          unfold oab at g
          split at g <;> omega
      unfold old
      rw [if_neg hn]
      show _ = (match (if e = e then some u else if e = u then some e else s.2 e) with | none => (-1 : Int32) | some t => nI (if a.va e < a.va t then a.va t else a.va e))
      rw [if_pos rfl]
      show _ = nI (if a.va e < a.va u then a.va u else a.va e)
      congr 1
      split <;> split <;> omega
    · rw [if_neg (fun q => y (e2.mp q.2)), h1, if_neg (fun q => huv q.1.symm), hF e he]
      unfold old
      rw [if_pos (Or.inl pv), if_pos (Or.inl (by show 0 < oL1 s.1 u e e; omega))]
  · rw [if_neg (fun q => z q.1), h1]
    by_cases y : e = u
    · subst y
      by_cases x : oL1 s.1 e v e = 0
      · rw [if_pos ⟨rfl, e1.mpr x⟩, ed]
        have hn : ¬ (0 < oL1 s.1 e v e ∨ a.am e = 0) := fun q => by omega
        unfold old
        rw [if_neg hn]
        show _ = (match (if e = v then some e else if e = e then some v else s.2 e) with | none => (-1 : Int32) | some t => nI (if a.va e < a.va t then a.va t else a.va e))
        rw [if_neg z, if_pos rfl]
      · rw [if_neg (fun q => x (e1.mp q.2)), hF e he]
        unfold old
        rw [if_pos (Or.inl pu), if_pos (Or.inl (by show 0 < oL1 s.1 e v e; omega))]
    · rw [if_neg (fun q => y q.1), hF e he]
      unfold old
      show _ = (if 0 < oL1 s.1 u v e ∨ a.am e = 0 then (-1 : Int32) else match (if e = v then some u else if e = u then some v else s.2 e) with | none => (-1 : Int32) | some t => nI (if a.va e < a.va t then a.va t else a.va e))
      rw [oL1_n y z, if_neg z, if_neg y]
      rfl
theorem pr_b {a : Ac} {od : Nat → Nat} {L : Nat → Int} {b : Bool} {p : Option Nat} (P : oPR a od L b p) : ∀ v, p = some v → v < a.n := fun v e => by
  subst e
  obtain ⟨h, _⟩ := P
  exact h
theorem pr_g {a : Ac} {od : Nat → Nat} {L : Nat → Int} {b : Bool} {p : Nat} (P : oPR a od L b (some p)) : osd a b (od p) = true := by
  obtain ⟨_, h, _⟩ := P
  exact h
theorem fI_z {o : Option Nat} {n : Nat} (hb : ∀ v, o = some v → v < n) (h : ∀ k, k < n → fI o ≠ nI k) : o = none := by
  cases o with
  | none => rfl
  | some v => exact absurd rfl (h v (hb v rfl))
theorem old_0 {a : Ac} (e : Nat) : old a (orn a 0) e = -1 := if_pos (by
  show 0 < oab (a.am e) ∨ a.am e = 0
  unfold oab
  split <;> omega)
theorem fo_at {a : Ac} {A : mI} {od : Nat → Nat} (O : Od a A od) {s : oSt} (H : OI a s) {b : Bool} {i : Nat} (hi : i < a.n) (h1 : osd a b (od i) = true) (h2 : 0 < s.1 (od i)) (hno : ∀ j, j < i → osd a b (od j) = true → ¬ 0 < s.1 (od j)) : ofo a s.1 b a.n = some (od i) := by
  refine ofo_l ⟨O.lt i hi, (osl_d H (O.lt i hi)).mpr ⟨h2, h1⟩, fun k hk hc => ?_⟩
  obtain ⟨j, hj, e⟩ := O.on k hk
  subst e
  have g := (osl_d H hk).mp hc
  rcases Nat.lt_trichotomy j i with z | z | z
  · exact absurd g.1 (hno j z g.2)
  · subst z; omega
  · have := O.st i j z hj
    omega
theorem fo_no {a : Ac} {A : mI} {od : Nat → Nat} (O : Od a A od) {s : oSt} (H : OI a s) {b : Bool} (hno : ∀ j, j < a.n → osd a b (od j) = true → ¬ 0 < s.1 (od j)) : ofo a s.1 b a.n = none := by
  refine ofo_z (fun i hi => ?_)
  cases q : osl a s.1 b i with
  | false => rfl
  | true =>
    obtain ⟨j, hj, e⟩ := O.on i hi
    subst e
    have g := (osl_d H hi).mp q
    exact absurd g.1 (hno j hj g.2)
theorem oL_0 {L : Nat → Int} {u v : Nat} {F : mB} {y : Int64} (e0 : F 41 u = zL (L u)) (bu : 0 ≤ oL1 L u v u ∧ oL1 L u v u ≤ 2 ^ 40) (ey : y = zL (obt L u v)) : F 41 u - y = 0 ↔ oL1 L u v u = 0 := by
  rw [ey, e0, zL_sub, show L u - obt L u v = oL1 L u v u from (if_pos (Or.inl rfl)).symm]
  exact zl_eq0 (by omega) (by omega)
theorem oL_1 {L : Nat → Int} {u v : Nat} {F : mB} {y : Int64} (huv : u ≠ v) (e0 : F 41 v = zL (L v)) (bv : 0 ≤ oL1 L u v v ∧ oL1 L u v v ≤ 2 ^ 40) (ey : y = zL (obt L u v)) : up2 F 41 u (F 41 u - y) 41 v - y = 0 ↔ oL1 L u v v = 0 := by
  rw [ey, up2_m (fun q => huv q.symm), e0, zL_sub, show L v - obt L u v = oL1 L u v v from (if_pos (Or.inr rfl)).symm]
  exact zl_eq0 (by omega) (by omega)
theorem fC.p41 {A A' : mI} {B B' : mB} (hA : ∀ r, r ≠ 42 → A' r = A r) (hB : ∀ r, r ≠ 41 → B' r = B r) : fC A B A' B' := ⟨hA, fun k _ h => hB k h⟩
