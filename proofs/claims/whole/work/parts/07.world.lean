/-! the store as a world of the kit's: cell k at b + k -/
def tr (b : Nat) (tS : Nat → Value) : Value → Value
  | .ref k => .ref (b + k)
  | .retAddr n => tS n
  | v => v
def rcd (k : Nat) : Nat := if k = 9 then 4 else 5
def nfl (c : Nat) : Nat := ((vwCl[c]?).map (fun q => q.2.2)).getD 0
def fv (b : Nat) (I : mI) (P : mP) (c k j : Nat) : Value := match fsh (c * 64 + j) with
  | 1 => va_rf ((P k j).map (fun q => b + q))
  | _ => .int (I k j)
def flds (b : Nat) (I : mI) (P : mP) (c k : Nat) : List Value := (List.range (nfl c)).map (fv b I P c k)
def ceE (b : Nat) (dA : Nat → ClassId) (I A : mI) (B : mB) (P : mP) (k : Nat) : va_E := match csh k with
  | some c => .inr (c, flds b I P c k)
  | none => match ash k with
    | some t => .inl (dA t.1, t.2, if t.1 = 1 then .inr (.inl (B k)) else .inl (A k))
    | none => match rsh k with
      | some r => .inl (dA (rcd k), r.2.2, .inr (.inr (.inr (.inr (fun i => some (b + (r.1 + r.2.1 * i)))))))
      | none => .inl (0, 0, .inl (fun _ => 0))
def wsl (b : Nat) (dA : Nat → ClassId) (I A : mI) (B : mB) (P : mP) : va_W := (List.range 65).map (fun k => (b + k, ceE b dA I A B P k))
theorem csh_in : ∀ k, k < 65 ∨ csh k = none := by
  intro k
  by_cases h : k < 65
  · exact Or.inl h
  · right
    unfold csh
    split <;> first | rfl | omega
theorem ash_in : ∀ k, k < 65 ∨ ash k = none := by
  intro k
  by_cases h : k < 65
  · exact Or.inl h
  · right
    unfold ash
    split <;> first | rfl | omega
theorem rsh_in : ∀ k, k < 65 ∨ rsh k = none := by
  intro k
  by_cases h : k < 65
  · exact Or.inl h
  · right
    unfold rsh
    split <;> first | rfl | omega
theorem csh_lt {k c : Nat} (h : csh k = some c) : k < 65 := (csh_in k).elim id (fun q => by rw [q] at h; cases h)
theorem ash_lt {k : Nat} {t : Nat × Nat} (h : ash k = some t) : k < 65 := (ash_in k).elim id (fun q => by rw [q] at h; cases h)
theorem rsh_lt {k : Nat} {t : Nat × Nat × Nat} (h : rsh k = some t) : k < 65 := (rsh_in k).elim id (fun q => by rw [q] at h; cases h)
theorem ash_cs_r : (List.range 65).all (fun k => (ash k).isNone || (csh k).isNone) = true := by decide +kernel
theorem rsh_cs_r : (List.range 65).all (fun k => (rsh k).isNone || ((csh k).isNone && (ash k).isNone)) = true := by decide +kernel
theorem ash_csh {k : Nat} {t : Nat × Nat} (h : ash k = some t) : csh k = none := by
  have h1 := List.all_eq_true.mp ash_cs_r k (List.mem_range.mpr (ash_lt h))
  simpa [h] using h1
theorem rsh_csh {k : Nat} {t : Nat × Nat × Nat} (h : rsh k = some t) : csh k = none ∧ ash k = none := by
  have h1 := List.all_eq_true.mp rsh_cs_r k (List.mem_range.mpr (rsh_lt h))
  simpa [h] using h1
theorem csh_c_r : (List.range 65).all (fun k => match csh k with
  | some c => Nat.blt c 12
  | none => true) = true := by decide +kernel
theorem csh_c {k c : Nat} (h : csh k = some c) : c < 12 := by
  have h1 := List.all_eq_true.mp csh_c_r k (List.mem_range.mpr (csh_lt h))
  rw [h] at h1
  exact Nat.le_of_ble_eq_true h1
theorem n900 {k c : Nat} (h : csh k = some c) : ¬ (900 : Nat) = k := fun q => by have := csh_lt h; omega
theorem n900a {k : Nat} {t : Nat × Nat} (h : ash k = some t) : ¬ (900 : Nat) = k := fun q => by have := ash_lt h; omega
section WL
variable {b : Nat} {dA : Nat → ClassId} {I A I' A' : mI} {B B' : mB} {P P' : mP}
theorem wsl_at {k : Nat} (h : k < 65) : (wsl b dA I A B P)[k]? = some (b + k, ceE b dA I A B P k) := by
  simp [wsl, h]
theorem ce_obj {k c : Nat} (h : csh k = some c) : ceE b dA I A B P k = .inr (c, flds b I P c k) := by simp [ceE, h]
theorem ce_arr {k : Nat} {t : Nat × Nat} (h : ash k = some t) : ceE b dA I A B P k = .inl (dA t.1, t.2, if t.1 = 1 then .inr (.inl (B k)) else .inl (A k)) := by simp [ceE, h, ash_csh h]
theorem ce_ref {k : Nat} {r : Nat × Nat × Nat} (h : rsh k = some r) : ceE b dA I A B P k = .inl (dA (rcd k), r.2.2, .inr (.inr (.inr (.inr (fun i => some (b + (r.1 + r.2.1 * i))))))) := by simp [ceE, h, rsh_csh h]
theorem ce_congr {k : Nat} (h1 : I' k = I k) (h2 : A' k = A k) (h3 : B' k = B k) (h4 : P' k = P k) : ceE b dA I' A' B' P' k = ceE b dA I A B P k := by
  have e : ∀ c, fv b I' P' c k = fv b I P c k := fun c => by
    funext j
    simp only [fv, h1, h4]
  simp only [ceE, flds, e, h2, h3]
theorem wsl_set {k : Nat} {E : va_E} (hk : k < 65) (h1 : ceE b dA I' A' B' P' k = E) (h2 : ∀ j, j ≠ k → ceE b dA I' A' B' P' j = ceE b dA I A B P j) : (wsl b dA I A B P).set k (b + k, E) = wsl b dA I' A' B' P' := by
  apply List.ext_getElem?
  intro i
  by_cases hi : i < 65
  · rw [wsl_at hi]
    by_cases hik : i = k
    · subst hik
      rw [List.getElem?_set_self (by simp [wsl, hi]), h1]
    · rw [List.getElem?_set_ne (fun q => hik q.symm), wsl_at hi, h2 i hik]
  · rw [List.getElem?_eq_none (by simp [wsl]; omega), List.getElem?_eq_none (by simp [wsl]; omega)]
theorem wsl_D {Af : Nat → Prop} (hA : ∀ q, b ≤ q → Af q) : va_D Af (wsl b dA I A B P) := by
  have key : ∀ (i : Nat) (q : Nat × va_E), (wsl b dA I A B P)[i]? = some q → q.1 = b + i := by
    intro i q h
    by_cases hi : i < 65
    · rw [wsl_at hi] at h
      cases h
      rfl
    · rw [List.getElem?_eq_none (by simp [wsl]; omega)] at h
      cases h
  refine ⟨fun i j p q h1 h2 e => ?_, fun k q h => ?_⟩
  · have e1 := key i p h1
    have e2 := key j q h2
    omega
  · rw [key k q h]
    exact hA _ (Nat.le_add_right b k)
theorem up2_row {α : Type} {f : Nat → Nat → α} {k j : Nat} {v : α} {i : Nat} (h : i ≠ k) : up2 f k j v i = f i := by
  funext c
  simp [up2, h]
theorem up1_row {α : Type} {f : Nat → Nat → α} {k : Nat} {g : Nat → α} {i : Nat} (h : i ≠ k) : up1 f k g i = f i := by
  funext c
  simp [up1, h]
theorem up1_self {α : Type} {f : Nat → Nat → α} {k : Nat} {g : Nat → α} : up1 f k g k = g := by
  funext c
  simp [up1]
theorem up2_self {α : Type} {f : Nat → Nat → α} {k j : Nat} {v : α} : up2 f k j v k = fun c => if c = j then v else f k c := by
  funext c
  simp [up2]
theorem flds_get {c k j : Nat} (hj : j < nfl c) : (flds b I P c k)[j]? = some (fv b I P c k j) := by
  simp [flds, hj]
theorem flds_len {c k : Nat} : (flds b I P c k).length = nfl c := by simp [flds]
theorem flds_setI {c k j : Nat} {x : Int32} (hf : fsh (c * 64 + j) = 0 ∨ fsh (c * 64 + j) = 2) (hj : j < nfl c) : flds b (up2 I k j x) P c k = (flds b I P c k).set j (.int x) := by
  apply List.ext_getElem?
  intro i
  by_cases hi : i < nfl c
  · rw [flds_get hi]
    by_cases hij : i = j
    · subst hij
      rw [List.getElem?_set_self (by rw [flds_len]; exact hi)]
      rcases hf with h | h <;> simp [fv, h, up2]
    · rw [List.getElem?_set_ne (fun q => hij q.symm), flds_get hi]
      simp [fv, up2, hij]
  · rw [List.getElem?_eq_none (by rw [flds_len]; omega), List.getElem?_eq_none (by rw [List.length_set, flds_len]; omega)]
theorem flds_setP {c k j q : Nat} (hf : fsh (c * 64 + j) = 1) (hj : j < nfl c) : flds b I (up2 P k j (some q)) c k = (flds b I P c k).set j (.ref (b + q)) := by
  apply List.ext_getElem?
  intro i
  by_cases hi : i < nfl c
  · rw [flds_get hi]
    by_cases hij : i = j
    · subst hij
      rw [List.getElem?_set_self (by rw [flds_len]; exact hi)]
      simp [fv, hf, up2, va_rf]
    · rw [List.getElem?_set_ne (fun q => hij q.symm), flds_get hi]
      simp [fv, up2, hij]
  · rw [List.getElem?_eq_none (by rw [flds_len]; omega), List.getElem?_eq_none (by rw [List.length_set, flds_len]; omega)]
theorem wsl_I {k c j : Nat} {x : Int32} (hc : csh k = some c) (hf : fsh (c * 64 + j) = 0 ∨ fsh (c * 64 + j) = 2) (hj : j < nfl c) : (wsl b dA I A B P).set k (b + k, .inr (c, (flds b I P c k).set j (.int x))) = wsl b dA (up2 I k j x) A B P :=
  wsl_set (csh_lt hc) (by rw [ce_obj hc, flds_setI hf hj]) (fun i hi => ce_congr (up2_row hi) rfl rfl rfl)
theorem wsl_P {k c j q : Nat} (hc : csh k = some c) (hf : fsh (c * 64 + j) = 1) (hj : j < nfl c) : (wsl b dA I A B P).set k (b + k, .inr (c, (flds b I P c k).set j (.ref (b + q)))) = wsl b dA I A B (up2 P k j (some q)) :=
  wsl_set (csh_lt hc) (by rw [ce_obj hc, flds_setP hf hj]) (fun i hi => ce_congr rfl rfl rfl (up2_row hi))
theorem wsl_A {k : Nat} {t : Nat × Nat} {g : Nat → Int32} (ha : ash k = some t) (ht : ¬ t.1 = 1) {A2 : mI} (h1 : A2 k = g) (h2 : ∀ i, i ≠ k → A2 i = A i) : (wsl b dA I A B P).set k (b + k, .inl (dA t.1, t.2, .inl g)) = wsl b dA I A2 B P :=
  wsl_set (ash_lt ha) (by rw [ce_arr ha, if_neg ht, h1]) (fun i hi => ce_congr rfl (h2 i hi) rfl rfl)
theorem wsl_B {k : Nat} {t : Nat × Nat} {g : Nat → Int64} (ha : ash k = some t) (ht : t.1 = 1) {B2 : mB} (h1 : B2 k = g) (h2 : ∀ i, i ≠ k → B2 i = B i) : (wsl b dA I A B P).set k (b + k, .inl (dA t.1, t.2, .inr (.inl g))) = wsl b dA I A B2 P :=
  wsl_set (ash_lt ha) (by rw [ce_arr ha, if_pos ht, h1]) (fun i hi => ce_congr rfl rfl (h2 i hi) rfl)
end WL
