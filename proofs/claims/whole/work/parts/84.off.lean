/-! paid off: turn by turn -/
def osl (a : Ac) (L : Nat → Int) (b : Bool) (e : Nat) : Bool := decide (0 < L e ∧ (0 < a.am e ↔ b = true))
def ofo (a : Ac) (L : Nat → Int) (b : Bool) : Nat → Option Nat
  | 0 => none
  | e + 1 => if osl a L b e = true then (match ofo a L b e with
      | none => some e
      | some j => if a.va e < a.va j then some e else some j) else ofo a L b e
theorem ofo_f {a : Ac} {L : Nat → Int} {b : Bool} {e : Nat} (h : osl a L b e = false) : ofo a L b (e + 1) = ofo a L b e := by
  rw [ofo, if_neg (by rw [h]; decide)]
theorem ofo_1 {a : Ac} {L : Nat → Int} {b : Bool} {e : Nat} (h : osl a L b e = true) (h2 : ofo a L b e = none) : ofo a L b (e + 1) = some e := by
  rw [ofo, if_pos h, h2]
theorem ofo_2 {a : Ac} {L : Nat → Int} {b : Bool} {e j : Nat} (h : osl a L b e = true) (h2 : ofo a L b e = some j) (h3 : a.va e < a.va j) : ofo a L b (e + 1) = some e := by
  rw [ofo, if_pos h, h2]
  exact if_pos h3
theorem ofo_3 {a : Ac} {L : Nat → Int} {b : Bool} {e j : Nat} (h : osl a L b e = true) (h2 : ofo a L b e = some j) (h3 : ¬ a.va e < a.va j) : ofo a L b (e + 1) = ofo a L b e := by
  rw [ofo, if_pos h, h2]
  exact if_neg h3
/-- the least by value day and number -/
def Lea (a : Ac) (c : Nat → Bool) (n j : Nat) : Prop :=
  (j < n) ∧
  (c j = true) ∧
  (∀ i, i < n → c i = true → a.va j < a.va i ∨ a.va j = a.va i ∧ j ≤ i)
theorem Lea.l {a : Ac} {c : Nat → Bool} {n j : Nat} (self : Lea a c n j) : j < n := self.1
theorem Lea.s {a : Ac} {c : Nat → Bool} {n j : Nat} (self : Lea a c n j) : c j = true := self.2.1
theorem Lea.m {a : Ac} {c : Nat → Bool} {n j : Nat} (self : Lea a c n j) : ∀ i, i < n → c i = true → a.va j < a.va i ∨ a.va j = a.va i ∧ j ≤ i := self.2.2
theorem Lea.mk {a : Ac} {c : Nat → Bool} {n j : Nat} (h_l : j < n) (h_s : c j = true) (h_m : ∀ i, i < n → c i = true → a.va j < a.va i ∨ a.va j = a.va i ∧ j ≤ i) : Lea a c n j := ⟨h_l, h_s, h_m⟩
theorem lea_u {a : Ac} {c : Nat → Bool} {n i j : Nat} (h : Lea a c n i) (g : Lea a c n j) : i = j := by
  have h1 := h.m j g.l g.s
  have h2 := g.m i h.l h.s
  omega
theorem ofo_i {a : Ac} {L : Nat → Int} {b : Bool} : ∀ n, (∀ j, ofo a L b n = some j → Lea a (osl a L b) n j) ∧ (ofo a L b n = none → ∀ i, i < n → osl a L b i = false)
  | 0 => ⟨fun j h => (by cases h), fun _ i hi => absurd hi (Nat.not_lt_zero i)⟩
  | n + 1 => by
    obtain ⟨h1, h2⟩ := ofo_i (a := a) (L := L) (b := b) n
    cases hs : osl a L b n with
    | false =>
      rw [ofo_f hs]
      refine ⟨fun j h => ?_, fun h i hi => ?_⟩
      · have g := h1 j h
        refine ⟨by have := g.l; omega, g.s, fun i hi hc => ?_⟩
        by_cases e : i = n
        · rw [e, hs] at hc; cases hc
        · exact g.m i (by omega) hc
      · by_cases e : i = n
        · rw [e]; exact hs
        · exact h2 h i (by omega)
    | true =>
      cases hq : ofo a L b n with
      | none =>
        rw [ofo_1 hs hq]
        refine ⟨fun j h => ?_, fun h => by cases h⟩
        have e := Option.some.inj h
        subst e
        refine ⟨by omega, hs, fun i hi hc => ?_⟩
        by_cases e : i = n
        · rw [e]; omega
        · rw [h2 hq i (by omega)] at hc; cases hc
      | some k =>
        have g := h1 k hq
        have gl := g.l
        by_cases hv : a.va n < a.va k
        · rw [ofo_2 hs hq hv]
          refine ⟨fun j h => ?_, fun h => by cases h⟩
          have e := Option.some.inj h
          subst e
          refine ⟨by omega, hs, fun i hi hc => ?_⟩
          by_cases e : i = n
          · rw [e]; omega
          · have := g.m i (by omega) hc
            omega
        · rw [ofo_3 hs hq hv, hq]
          refine ⟨fun j h => ?_, fun h => by cases h⟩
          have e := Option.some.inj h
          subst e
          refine ⟨by omega, g.s, fun i hi hc => ?_⟩
          by_cases e : i = n
          · rw [e]; omega
          · exact g.m i (by omega) hc
theorem ofo_s {a : Ac} {L : Nat → Int} {b : Bool} {n j : Nat} (h : ofo a L b n = some j) : Lea a (osl a L b) n j := (ofo_i n).1 j h
theorem ofo_n {a : Ac} {L : Nat → Int} {b : Bool} {n : Nat} (h : ofo a L b n = none) : ∀ i, i < n → osl a L b i = false := (ofo_i n).2 h
theorem ofo_l {a : Ac} {L : Nat → Int} {b : Bool} {n j : Nat} (h : Lea a (osl a L b) n j) : ofo a L b n = some j := by
  cases hq : ofo a L b n with
  | none =>
    have := ofo_n hq j h.l
    rw [h.s] at this
    cases this
  | some k => rw [lea_u (ofo_s hq) h]
theorem ofo_z {a : Ac} {L : Nat → Int} {b : Bool} {n : Nat} (h : ∀ i, i < n → osl a L b i = false) : ofo a L b n = none := by
  cases hq : ofo a L b n with
  | none => rfl
  | some k =>
    have g := ofo_s hq
    have := h k g.l
    rw [g.s] at this
    cases this
def obt (L : Nat → Int) (u v : Nat) : Int := if L v < L u then L v else L u
def oL1 (L : Nat → Int) (u v : Nat) : Nat → Int := fun e => if e = u ∨ e = v then L e - obt L u v else L e
def oT1 (T : Nat → Option Nat) (u v : Nat) : Nat → Option Nat := fun e => if e = v then some u else if e = u then some v else T e
abbrev oSt : Type := (Nat → Int) × (Nat → Option Nat)
def ost (a : Ac) (s : oSt) : oSt := match ofo a s.1 true a.n with
  | none => s
  | some u => match ofo a s.1 false a.n with
    | none => s
    | some v => (oL1 s.1 u v, oT1 s.2 u v)
def oab (z : Int) : Int := if z < 0 then -z else z
def orn (a : Ac) : Nat → oSt
  | 0 => (fun e => oab (a.am e), fun _ => none)
  | k + 1 => ost a (orn a k)
theorem ost_1 {a : Ac} {s : oSt} {u v : Nat} (h1 : ofo a s.1 true a.n = some u) (h2 : ofo a s.1 false a.n = some v) : ost a s = (oL1 s.1 u v, oT1 s.2 u v) := by
  unfold ost
  rw [h1]
  show (match ofo a s.1 false a.n with | none => s | some v => (oL1 s.1 u v, oT1 s.2 u v)) = _
  rw [h2]
/-- nothing more to pay off -/
def oEn (a : Ac) (s : oSt) : Prop := ofo a s.1 true a.n = none ∨ ofo a s.1 false a.n = none
theorem ost_0 {a : Ac} {s : oSt} (h : oEn a s) : ost a s = s := by
  unfold ost
  cases h1 : ofo a s.1 true a.n with
  | none => rfl
  | some u =>
    rcases h with h | h
    · rw [h1] at h; cases h
    · show (match ofo a s.1 false a.n with | none => s | some v => (oL1 s.1 u v, oT1 s.2 u v)) = _
      rw [h]
def OI (a : Ac) (s : oSt) : Prop :=
  (∀ e, e < a.n → 0 ≤ s.1 e ∧ s.1 e ≤ oab (a.am e)) ∧
  (∀ e, e < a.n → s.1 e < oab (a.am e) → ∃ t, t < a.n ∧ s.2 e = some t)
theorem OI.b {a : Ac} {s : oSt} (self : OI a s) : ∀ e, e < a.n → 0 ≤ s.1 e ∧ s.1 e ≤ oab (a.am e) := self.1
theorem OI.t {a : Ac} {s : oSt} (self : OI a s) : ∀ e, e < a.n → s.1 e < oab (a.am e) → ∃ t, t < a.n ∧ s.2 e = some t := self.2
theorem OI.mk {a : Ac} {s : oSt} (h_b : ∀ e, e < a.n → 0 ≤ s.1 e ∧ s.1 e ≤ oab (a.am e)) (h_t : ∀ e, e < a.n → s.1 e < oab (a.am e) → ∃ t, t < a.n ∧ s.2 e = some t) : OI a s := ⟨h_b, h_t⟩
theorem osl_i {a : Ac} {L : Nat → Int} {b : Bool} {e : Nat} : osl a L b e = true ↔ 0 < L e ∧ (0 < a.am e ↔ b = true) := decide_eq_true_iff
theorem osl_l {a : Ac} {L : Nat → Int} {b : Bool} {e : Nat} (h : ¬ 0 < L e) : osl a L b e = false := decide_eq_false (fun z => h z.1)
theorem osl_m {a : Ac} {L : Nat → Int} {b : Bool} {e : Nat} (h : ¬ (0 < a.am e ↔ b = true)) : osl a L b e = false := decide_eq_false (fun z => h z.2)
theorem obt_b {L : Nat → Int} {u v : Nat} (hu : 0 < L u) (hv : 0 < L v) : 0 < obt L u v ∧ obt L u v ≤ L u ∧ obt L u v ≤ L v ∧ (obt L u v = L u ∨ obt L u v = L v) := by
  unfold obt
  split <;> omega
/-- two of unlike sign -/
theorem o_uv {a : Ac} {L : Nat → Int} {n u v : Nat} (h1 : ofo a L true n = some u) (h2 : ofo a L false n = some v) : u < n ∧ v < n ∧ u ≠ v ∧ 0 < L u ∧ 0 < L v ∧ 0 < a.am u ∧ ¬ 0 < a.am v := by
  have g1 := ofo_s h1
  have g2 := ofo_s h2
  have k1 := osl_i.mp g1.s
  have k2 := osl_i.mp g2.s
  have k3 : 0 < a.am u := k1.2.mpr rfl
  have k4 : ¬ 0 < a.am v := fun z => by have := k2.2.mp z; cases this
  exact ⟨g1.l, g2.l, fun e => k4 (e ▸ k3), k1.1, k2.1, k3, k4⟩
theorem oi_s {a : Ac} {s : oSt} (H : OI a s) {u v : Nat} (h1 : ofo a s.1 true a.n = some u) (h2 : ofo a s.1 false a.n = some v) : OI a (oL1 s.1 u v, oT1 s.2 u v) := by
  obtain ⟨hu, hv, huv, pu, pv, au, av⟩ := o_uv h1 h2
  have hb := obt_b pu pv
  refine ⟨fun e he => ?_, fun e he hl => ?_⟩
  · have := H.b e he
    show 0 ≤ (if e = u ∨ e = v then s.1 e - obt s.1 u v else s.1 e) ∧ (if e = u ∨ e = v then s.1 e - obt s.1 u v else s.1 e) ≤ _
    by_cases z : e = u ∨ e = v
    · rw [if_pos z]
      rcases z with z | z <;> subst z <;> omega
    · rw [if_neg z]; exact this
  · show ∃ t, t < a.n ∧ (if e = v then some u else if e = u then some v else s.2 e) = some t
    by_cases z : e = v
    · exact ⟨u, hu, if_pos z⟩
    · by_cases y : e = u
      · exact ⟨v, hv, by rw [if_neg z, if_pos y]⟩
      · rw [if_neg z, if_neg y]
        refine H.t e he ?_
        have hl2 : (if e = u ∨ e = v then s.1 e - obt s.1 u v else s.1 e) < oab (a.am e) := hl
        rw [if_neg (by omega)] at hl2
        exact hl2
theorem oi_r {a : Ac} : ∀ k, OI a (orn a k)
  | 0 => ⟨fun e _ => by
      show 0 ≤ oab (a.am e) ∧ oab (a.am e) ≤ oab (a.am e)
      unfold oab
      split <;> omega, fun e _ h => by
      have h2 : oab (a.am e) < oab (a.am e) := h
      omega⟩
  | k + 1 => by
    have ih := oi_r (a := a) k
    show OI a (ost a (orn a k))
    cases h1 : ofo a (orn a k).1 true a.n with
    | none => rw [ost_0 (Or.inl h1)]; exact ih
    | some u =>
      cases h2 : ofo a (orn a k).1 false a.n with
      | none => rw [ost_0 (Or.inr h2)]; exact ih
      | some v => rw [ost_1 h1 h2]; exact oi_s ih h1 h2
theorem ct_les {c c' : Nat → Bool} : ∀ {n : Nat}, (∀ i, i < n → c' i = true → c i = true) → ct c' n ≤ ct c n
  | 0, _ => Nat.le_refl _
  | n + 1, h => by
    have h1 := ct_les (n := n) (fun i hi => h i (by omega))
    show ct c' n + (if c' n = true then 1 else 0) ≤ ct c n + (if c n = true then 1 else 0)
    by_cases z : c' n = true
    · rw [if_pos z, if_pos (h n (by omega) z)]; omega
    · rw [if_neg z]; omega
theorem ct_lts {c c' : Nat → Bool} {j : Nat} (h1 : c j = true) (h2 : c' j = false) : ∀ {n : Nat}, j < n → (∀ i, i < n → c' i = true → c i = true) → ct c' n < ct c n
  | 0, hj, _ => absurd hj (Nat.not_lt_zero j)
  | n + 1, hj, h => by
    show ct c' n + (if c' n = true then 1 else 0) < ct c n + (if c n = true then 1 else 0)
    by_cases e : j = n
    · subst e
      have := ct_les (n := j) (fun i hi => h i (by omega))
      rw [if_pos h1, if_neg (by rw [h2]; decide)]
      omega
    · have := ct_lts h1 h2 (n := n) (by omega) (fun i hi => h i (by omega))
      by_cases z : c' n = true
      · rw [if_pos z, if_pos (h n (by omega) z)]; omega
      · rw [if_neg z]; omega
theorem orn_c {a : Ac} : ∀ k, ct (fun e => decide (0 < (orn a k).1 e)) a.n + k ≤ a.n ∨ oEn a (orn a k)
  | 0 => Or.inl (ct_le _)
  | k + 1 => by
    rcases orn_c (a := a) k with h | h
    · cases h1 : ofo a (orn a k).1 true a.n with
      | none => exact Or.inr (by show oEn a (ost a (orn a k)); rw [ost_0 (Or.inl h1)]; exact Or.inl h1)
      | some u =>
        cases h2 : ofo a (orn a k).1 false a.n with
        | none => exact Or.inr (by show oEn a (ost a (orn a k)); rw [ost_0 (Or.inr h2)]; exact Or.inr h2)
        | some v =>
          left
          obtain ⟨hu, hv, huv, pu, pv, au, av⟩ := o_uv h1 h2
          have hb := obt_b pu pv
          show ct (fun e => decide (0 < (ost a (orn a k)).1 e)) a.n + (k + 1) ≤ a.n
          rw [ost_1 h1 h2]
          show ct (fun e => decide (0 < oL1 (orn a k).1 u v e)) a.n + (k + 1) ≤ a.n
          have hs : ∀ i, i < a.n → decide (0 < oL1 (orn a k).1 u v i) = true → decide (0 < (orn a k).1 i) = true := fun i _ hi => by
            have hi2 := of_decide_eq_true hi
            refine decide_eq_true ?_
            unfold oL1 at hi2
            by_cases z : i = u ∨ i = v
            · rw [if_pos z] at hi2; omega
            · rw [if_neg z] at hi2; exact hi2
          rcases hb.2.2.2 with z | z
          · have := ct_lts (c := fun e => decide (0 < (orn a k).1 e)) (c' := fun e => decide (0 < oL1 (orn a k).1 u v e)) (j := u) (decide_eq_true pu) (decide_eq_false (by unfold oL1; rw [if_pos (Or.inl rfl)]; omega)) hu hs
            omega
          · have := ct_lts (c := fun e => decide (0 < (orn a k).1 e)) (c' := fun e => decide (0 < oL1 (orn a k).1 u v e)) (j := v) (decide_eq_true pv) (decide_eq_false (by unfold oL1; rw [if_pos (Or.inr rfl)]; omega)) hv hs
            omega
    · exact Or.inr (by show oEn a (ost a (orn a k)); rw [ost_0 h]; exact h)
theorem orn_n {a : Ac} : oEn a (orn a a.n) := by
  rcases orn_c (a := a) a.n with h | h
  · refine Or.inl (ofo_z (fun i hi => osl_l (fun z => ?_)))
    have : ct (fun e => decide (0 < (orn a a.n).1 e)) (i + 1) ≤ ct (fun e => decide (0 < (orn a a.n).1 e)) a.n := ct_mono a.n (by omega)
    rw [ct_t (decide_eq_true z)] at this
    omega
  · exact h
theorem orn_k {a : Ac} {k u v : Nat} (hk : k ≤ a.n) (h1 : ofo a (orn a k).1 true a.n = some u) (h2 : ofo a (orn a k).1 false a.n = some v) : k < a.n := by
  rcases Nat.lt_or_ge k a.n with z | z
  · exact z
  · have e := orn_n (a := a)
    rw [show a.n = k by omega] at e
    rcases e with y | y
    · rw [h1] at y; cases y
    · rw [h2] at y; cases y
theorem orn_f {a : Ac} {k : Nat} (h : oEn a (orn a k)) : ∀ j, orn a (k + j) = orn a k
  | 0 => rfl
  | j + 1 => by
    show ost a (orn a (k + j)) = _
    rw [orn_f h j, ost_0 h]
theorem orn_e {a : Ac} {k : Nat} (hk : k ≤ a.n) (h : oEn a (orn a k)) : orn a a.n = orn a k := by
  have := orn_f h (a.n - k)
  rw [show k + (a.n - k) = a.n by omega] at this
  exact this
theorem oab_b {z : Int} (h : -16777216 ≤ z ∧ z ≤ 16777216) : 0 ≤ oab z ∧ oab z ≤ 16777216 := by
  unfold oab
  split <;> omega
theorem oi_40 {a : Ac} (V : Vw a) {s : oSt} (H : OI a s) {e : Nat} (he : e < a.n) : 0 ≤ s.1 e ∧ s.1 e ≤ 2 ^ 40 := by
  have h1 := H.b e he
  have h2 := oab_b (V.am1 e he)
  omega
theorem abz {z : Int} (h1 : -2 ^ 62 ≤ z) (h2 : z ≤ 2 ^ 62) : (if 0 < zL z then zL z else -zL z) = zL (oab z) := by
  unfold oab
  by_cases h : z < 0
  · rw [if_pos h, if_neg (by rw [zl_gt0 (by omega) (by omega)]; omega)]
    exact (Int64.ofInt_neg z).symm
  · rw [if_neg h]
    by_cases h0 : 0 < z
    · rw [if_pos ((zl_gt0 (by omega) (by omega)).mpr h0)]
    · have : z = 0 := by omega
      subst this
      rfl
theorem obt_z {x y : Int64} {L : Nat → Int} {u v : Nat} (hx : x = zL (L u)) (hy : y = zL (L v)) (bu : 0 ≤ L u ∧ L u ≤ 2 ^ 40) (bv : 0 ≤ L v ∧ L v ≤ 2 ^ 40) : (if y < x then y else x) = zL (obt L u v) := by
  subst hx; subst hy
  exact zl_min (by omega) (by omega) (by omega) (by omega)
/-- what is left, taken off in a row -/
theorem oL_up {F : mB} {r n u v cu cv : Nat} {L : Nat → Int} {y : Int64} (hB : ∀ e, e < n → F r e = zL (L e)) (hu : u < n) (hv : v < n) (huv : u ≠ v) (eu : cu = u) (ev : cv = v) (ey : y = zL (obt L u v)) : ∀ e, e < n → up2 (up2 F r cu (F r cu - y)) r cv (up2 F r cu (F r cu - y) r cv - y) r e = zL (oL1 L u v e) := fun e he => by
  subst eu; subst ev; subst ey
  unfold oL1
  by_cases z : e = cv
  · subst z
    rw [up2_s, up2_m (fun q => huv q.symm), hB _ he, if_pos (Or.inr rfl), zL_sub]
  · rw [up2_m z]
    by_cases y : e = cu
    · subst y
      rw [up2_s, hB _ he, if_pos (Or.inl rfl), zL_sub]
    · rw [up2_m y, hB _ he, if_neg (by omega)]
theorem oT_up {F : mI} {r n u v cu cv : Nat} {T : Nat → Option Nat} {x1 x2 : Int32} (hA : ∀ e, e < n → F r e = fI (T e)) (eu : cu = u) (ev : cv = v) (e1 : x1 = nI u) (e2 : x2 = nI v) : ∀ e, e < n → up2 (up2 F r cu x2) r cv x1 r e = fI (oT1 T u v e) := fun e he => by
  subst eu; subst ev; subst e1; subst e2
  unfold oT1
  by_cases z : e = cv
  · subst z
    rw [up2_s, if_pos rfl]
    rfl
  · rw [up2_m z, if_neg z]
    by_cases y : e = cu
    · subst y
      rw [up2_s, if_pos rfl]
      rfl
    · rw [up2_m y, hA _ he, if_neg y]
/-- the day on which the last of it went -/
def old (a : Ac) (s : oSt) (e : Nat) : Int32 := if 0 < s.1 e ∨ a.am e = 0 then -1 else match s.2 e with
  | none => -1
  | some t => nI (if a.va e < a.va t then a.va t else a.va e)
def an_left (a : Ac) (e : Option Nat) : Int64 := match e with
  | none => NS
  | some e => zL ((orn a a.n).1 e)
def an_gone (a : Ac) (e : Option Nat) : Int32 := match e with
  | none => -2
  | some e => old a (orn a a.n) e
def an_oldest (a : Ac) (bk : Bool) : Int32 := match bk with
  | false => -2
  | true => fI (ofo a (orn a a.n).1 false a.n)
theorem fI_s {o : Option Nat} (h : fI o ≠ -1) : ∃ j, o = some j := by
  cases o with
  | none => exact absurd rfl h
  | some j => exact ⟨j, rfl⟩
theorem MR.f63 {a : Ac} {w : Nat} {I A A' : mI} {B B' : mB} (M : MR a w I A B) (hA : ∀ r, r ≠ 63 → A' r = A r) (hB : ∀ r, r ≠ 62 → B' r = B r) : MR a w I A' B' := by
  have h5 := M.w5
  refine MR.mk M.hw M.w5 ?_ ?_ ?_ M.hnt ?_ ?_ ?_ M.hnc ?_ ?_ ?_ M.hn ?_ ?_ ?_ ?_ ?_ M.hc M.hti M.htb M.hfo
  · rw [hA w (by omega)]; exact M.hP
  · rw [hA w (by omega)]; exact M.hN
  · rw [hA w (by omega)]; exact M.hK
  · rw [hA 48 (by decide)]; exact M.htr
  · rw [hA 49 (by decide)]; exact M.htt
  · rw [hA 50 (by decide)]; exact M.hdb
  · rw [hA 51 (by decide)]; exact M.hcd
  · rw [hA 52 (by decide)]; exact M.hco
  · rw [hA 53 (by decide)]; exact M.hcv
  · rw [hA 54 (by decide)]; exact M.hso
  · rw [hB 55 (by decide)]; exact M.ham
  · rw [hA 56 (by decide)]; exact M.hva
  · rw [hA 57 (by decide)]; exact M.hpg
  · rw [hA 58 (by decide)]; exact M.hog
theorem fM.f63 {I A A' : mI} {B B' : mB} (hA : ∀ r, r ≠ 63 → A' r = A r) (hB : ∀ r, r ≠ 62 → B' r = B r) : fM I A B I A' B' :=
  ⟨fun k hk => ⟨rfl, hA k (by omega), hB k (by omega)⟩, fun _ _ _ _ _ _ _ _ _ => rfl, fun r hr => hA r (by omega)⟩
