/-! what changes of the class's store: entries, terms -/
def insN (od : Nat → Nat) (p n : Nat) : Nat → Nat := fun j => if j = p then n else if p < j then od (j - 1) else od j
theorem Od.add {a : Ac} {A A' : mI} {od : Nat → Nat} (O : Od a A od) {s v p : Nat} {m : Int} {o : Int32} (hp : p ≤ a.n) (h1 : ∀ j, p ≤ j → j < a.n → v < a.va (od j)) (h2 : p = 0 ∨ a.va (od (p - 1)) ≤ v) (hA : A' 35 = insr (A 35) p a.n) : Od (zen a s m v o) A' (insN od p a.n) := by
  have hva : ∀ e, e < a.n → zup a.va a.n v e = a.va e := fun e he => zup_n (by omega)
  refine ⟨fun k hk => ?_, fun k hk => ?_, fun k k' hk hk' => ?_, fun e he => ?_⟩
  · have hk2 : k < a.n + 1 := hk
    show insN od p a.n k < a.n + 1
    unfold insN
    split
    · omega
    · split
      · have := O.lt (k - 1) (by omega); omega
      · have := O.lt k (by omega); omega
  · have hk2 : k < a.n + 1 := hk
    rw [hA]
    show insr (A 35) p a.n k = nI (insN od p a.n k)
    unfold insr insN
    by_cases z : k = p
    · rw [if_pos z, if_pos z]
    · rw [if_neg z, if_neg z]
      by_cases y : p < k
      · rw [if_pos ⟨y, by omega⟩, if_pos y, O.at_ (k - 1) (by omega)]
      · rw [if_neg (fun q => y q.1), if_neg y, O.at_ k (by omega)]
  · have hk2 : k' < a.n + 1 := hk'
    show zup a.va a.n v (insN od p a.n k) < zup a.va a.n v (insN od p a.n k') ∨ zup a.va a.n v (insN od p a.n k) = zup a.va a.n v (insN od p a.n k') ∧ insN od p a.n k < insN od p a.n k'
    have hle : ∀ i, i < p → a.va (od i) ≤ v := fun i hi => by
      rcases h2 with z | z
      · omega
      · by_cases e : i = p - 1
        · rw [e]; exact z
        · have := O.st i (p - 1) (by omega) (by omega)
          omega
    unfold insN
    by_cases z : k = p
    · rw [if_pos z, if_neg (show ¬ k' = p by omega), if_pos (show p < k' by omega), zup_s, hva _ (O.lt _ (by omega))]
      exact Or.inl (h1 (k' - 1) (by omega) (by omega))
    · rw [if_neg z]
      by_cases y : k' = p
      · rw [if_pos y, if_neg (show ¬ p < k by omega), zup_s, hva _ (O.lt _ (by omega))]
        have a1 := hle k (by omega)
        have a2 := O.lt k (by omega)
        omega
      · rw [if_neg y]
        by_cases x : p < k
        · rw [if_pos x, if_pos (show p < k' by omega), hva _ (O.lt _ (by omega)), hva _ (O.lt _ (by omega))]
          exact O.st (k - 1) (k' - 1) (by omega) (by omega)
        · rw [if_neg x, hva _ (O.lt _ (by omega))]
          by_cases u : p < k'
          · rw [if_pos u, hva _ (O.lt _ (by omega))]
            exact O.st k (k' - 1) (by omega) (by omega)
          · rw [if_neg u, hva _ (O.lt _ (by omega))]
            exact O.st k k' hk (by omega)
  · have he2 : e < a.n + 1 := he
    by_cases z : e = a.n
    · exact ⟨p, by show p < a.n + 1; omega, by unfold insN; rw [if_pos rfl, z]⟩
    · obtain ⟨k, hk, e1⟩ := O.on e (by omega)
      by_cases y : k < p
      · exact ⟨k, by show k < a.n + 1; omega, by unfold insN; rw [if_neg (by omega), if_neg (by omega)]; exact e1⟩
      · exact ⟨k + 1, by show k + 1 < a.n + 1; omega, by unfold insN; rw [if_neg (by omega), if_pos (by omega)]; exact e1⟩
theorem up2_z1 {β : Type} {F G : mI} {k n : Nat} {v : Int32} {g : Nat → β} {t : β → Int32} {y : β} (hF : ∀ j, F k j = if j = n then v else G k j) (h : ∀ j, j < n → G k j = t (g j)) (e : v = t y) : ∀ j, j < n + 1 → F k j = t (zup g n y j) := fun j hj => by
  rw [hF]
  by_cases z : j = n
  · subst z
    rw [if_pos rfl, zup_s, e]
  · rw [if_neg z, zup_n z]
    exact h j (by omega)
theorem CR.en {a : Ac} {I A : mI} {B : mB} (C : CR a I A B) {s v p : Nat} {m : Int} {o : Int32} {od : Nat → Nat} (O : Od a A od) (hp : p ≤ a.n) (h1 : ∀ j, p ≤ j → j < a.n → v < a.va (od j)) (h2 : p = 0 ∨ a.va (od (p - 1)) ≤ v) {xs xv xc : Int32} {xm : Int64} (es : xs = nI s) (ev : xv = nI v) (ec : xc = nI a.c) (em : xm = zL m) {xo : Int32} (eo : xo = o) : CR (zen a s m v o) (up2 I 29 6 (nI (a.n + 1))) (up1 (adA A a.n xs xv xc xo) 35 (insr (A 35) p a.n)) (shf (up2 B 31 a.n xm) 36 v xm (a.P * a.N - v)) := by
  have eo2 := eo.symm
  subst es; subst ev; subst ec; subst em; subst eo2
  have hi : ∀ k j, k ≠ 29 → up2 I 29 6 (nI (a.n + 1)) k j = I k j := fun k j h => up2_n h
  have hr : ∀ r, r ≠ 30 → r ≠ 32 → r ≠ 33 → r ≠ 34 → r ≠ 35 → up1 (adA A a.n (nI s) (nI v) (nI a.c) o) 35 (insr (A 35) p a.n) r = A r := fun r a1 a2 a3 a4 a5 => by
    funext j
    show (if r = 35 then _ else _) = _
    rw [if_neg a5]
    unfold adA
    rw [up2_n a4, up2_n a3, up2_n a2, up2_n a1]
  have hs : ∀ r, r ≠ 35 → up1 (adA A a.n (nI s) (nI v) (nI a.c) o) 35 (insr (A 35) p a.n) r = adA A a.n (nI s) (nI v) (nI a.c) o r := fun r h => by
    funext j
    show (if r = 35 then _ else _) = _
    rw [if_neg h]
  refine CR.mk ?_ ?_ ?_ ?_ ?_ ?_ ?_ ?_ ?_ ?_ up2_s ?_ ?_ ?_ ?_ ?_ ?_ ?_ C.nt4
  · rw [hi _ _ (by decide)]; exact C.hP
  · rw [hi _ _ (by decide)]; exact C.hN
  · rw [hi _ _ (by decide)]; exact C.hK
  · rw [hi _ _ (by decide)]; exact C.hc
  · rw [hi _ _ (by decide)]; exact C.hnt
  · rw [hi _ _ (by decide)]; exact C.hnc
  · rw [hr 26 (by decide) (by decide) (by decide) (by decide) (by decide)]; exact C.htt
  · rw [hr 27 (by decide) (by decide) (by decide) (by decide) (by decide)]; exact C.hcd
  · rw [hr 28 (by decide) (by decide) (by decide) (by decide) (by decide)]; exact C.hco
  · intro r d hr2 hd
    have h4 := C.nt4
    have hr3 : r < a.nt ∨ 4 ≤ r ∧ r ≤ 6 := hr2
    rw [hr (19 + r) (by omega) (by omega) (by omega) (by omega) (by omega), zhl_c sr_en]
    exact C.hru r d hr3 hd
  · refine up2_z1 (t := nI) (G := A) (n := a.n) (v := nI s) (fun j => ?_) C.hso rfl
    rw [hs 30 (by decide)]
    unfold adA
    rw [up2_n (by decide), up2_n (by decide), up2_n (by decide)]
    show (if 30 = 30 ∧ j = a.n then _ else _) = _
    by_cases z : j = a.n
    · rw [if_pos ⟨rfl, z⟩, if_pos z]
    · rw [if_neg (fun q => z q.2), if_neg z]
  · intro j hj
    show shf (up2 B 31 a.n (zL m)) 36 v (zL m) (a.P * a.N - v) 31 j = _
    rw [shf_b (by decide)]
    exact up2_z (t := zL) C.ham rfl j hj
  · refine up2_z1 (t := nI) (G := A) (n := a.n) (v := nI v) (fun j => ?_) C.hva rfl
    rw [hs 32 (by decide)]
    unfold adA
    rw [up2_n (by decide), up2_n (by decide)]
    show (if 32 = 32 ∧ j = a.n then _ else up2 A 30 a.n (nI s) 32 j) = _
    rw [up2_n (by decide)]
    by_cases z : j = a.n
    · rw [if_pos ⟨rfl, z⟩, if_pos z]
    · rw [if_neg (fun q => z q.2), if_neg z]
  · refine up2_z1 (t := nI) (G := A) (n := a.n) (v := nI a.c) (fun j => ?_) C.hpg rfl
    rw [hs 33 (by decide)]
    unfold adA
    rw [up2_n (by decide)]
    show (if 33 = 33 ∧ j = a.n then _ else up2 (up2 A 30 a.n (nI s)) 32 a.n (nI v) 33 j) = _
    rw [up2_n (by decide), up2_n (by decide)]
    by_cases z : j = a.n
    · rw [if_pos ⟨rfl, z⟩, if_pos z]
    · rw [if_neg (fun q => z q.2), if_neg z]
  · refine up2_z1 (t := id) (G := A) (n := a.n) (v := o) (fun j => ?_) C.hog rfl
    rw [hs 34 (by decide)]
    unfold adA
    show (if 34 = 34 ∧ j = a.n then _ else up2 (up2 (up2 A 30 a.n (nI s)) 32 a.n (nI v)) 33 a.n (nI a.c) 34 j) = _
    rw [up2_n (by decide), up2_n (by decide), up2_n (by decide)]
    by_cases z : j = a.n
    · rw [if_pos ⟨rfl, z⟩, if_pos z]
    · rw [if_neg (fun q => z q.2), if_neg z]
  · refine ⟨insN od p a.n, O.add hp h1 h2 ?_⟩
    funext j
    show (if 35 = 35 then _ else _) = _
    rw [if_pos rfl]
  · intro d hd
    have hd2 : d < a.P * a.N := hd
    rw [zbl_en]
    show (if 36 = 36 ∧ v ≤ d ∧ d < v + (a.P * a.N - v) then up2 B 31 a.n (zL m) 36 d + zL m else up2 B 31 a.n (zL m) 36 d) = _
    rw [up2_n (show 36 ≠ 31 by decide), C.hbl d hd2]
    by_cases z : v ≤ d
    · rw [if_pos ⟨rfl, z, by omega⟩, if_pos z, zL_add]
    · rw [if_neg (fun q => z q.2.1), if_neg z, Int.add_zero]
theorem CR.sc {a : Ac} {I A : mI} {B : mB} (C : CR a I A B) {c : Nat} {v : Int32} (e : v = nI c) : CR (a.setC c) (up2 I 16 7 v) A B := by
  subst e
  have O : ∃ od, Od (a.setC c) A od := by
    obtain ⟨od, O⟩ := C.hod
    exact ⟨od, O.lt, O.at_, O.st, O.on⟩
  refine CR.mk ?_ ?_ ?_ up2_s ?_ ?_ C.htt C.hcd C.hco (fun r d hr hd => ?_) ?_ C.hso C.ham C.hva C.hpg C.hog O C.hbl C.nt4
  · rw [up2_m (by decide)]; exact C.hP
  · rw [up2_m (by decide)]; exact C.hN
  · rw [up2_m (by decide)]; exact C.hK
  · rw [up2_n (by decide)]; exact C.hnt
  · rw [up2_n (by decide)]; exact C.hnc
  · rw [zhl_c sr_sc]; exact C.hru r d hr hd
  · rw [up2_n (by decide)]; exact C.hn
/-! how far a value holds -/
def unt (a : Ac) (r : Nat) (t : Int) : Nat → Nat
  | 0 => 320
  | i + 1 => if a.co i = r ∧ t < a.cd i ∧ a.cd i < unt a r t i then a.cd i else unt a r t i
theorem unt_i {a : Ac} {r d : Nat} {t : Int} : ∀ k, d < unt a r t k ↔ d < 320 ∧ ∀ i, i < k → a.co i = r → t < a.cd i → d < a.cd i
  | 0 => ⟨fun h => ⟨h, fun i hi => absurd hi (Nat.not_lt_zero i)⟩, fun h => h.1⟩
  | k + 1 => by
    have ih := unt_i (a := a) (r := r) (d := d) (t := t) k
    unfold unt
    constructor
    · intro h
      have h1 : d < unt a r t k := by split at h <;> omega
      refine ⟨(ih.mp h1).1, fun i hi h2 h3 => ?_⟩
      by_cases e : i = k
      · subst e
        split at h
        · exact h
        · omega
      · exact (ih.mp h1).2 i (by omega) h2 h3
    · intro h
      have h1 := ih.mpr ⟨h.1, fun i hi => h.2 i (by omega)⟩
      split
      · rename_i z
        exact h.2 k (by omega) z.1 z.2.1
      · exact h1
theorem unt_b {a : Ac} {r : Nat} {t : Int} : ∀ k, unt a r t k ≤ 320
  | 0 => Nat.le_refl _
  | k + 1 => by
    have := unt_b (a := a) (r := r) (t := t) k
    unfold unt
    split <;> omega
theorem zlt_1 {a : Ac} {r d : Nat} {t : Int} (ht : -1 ≤ t) : ∀ k, (zlt a r d k).1 ≤ t ↔ ∀ i, i < k → a.co i = r → a.cd i ≤ d → (a.cd i : Int) ≤ t
  | 0 => ⟨fun _ i hi => absurd hi (Nat.not_lt_zero i), fun _ => ht⟩
  | k + 1 => by
    have ih := zlt_1 (a := a) (r := r) (d := d) ht k
    simp only [zlt]
    by_cases z : a.co k ≠ r ∨ d < a.cd k ∨ (a.cd k : Int) < (zlt a r d k).1
    · rw [if_pos z]
      constructor
      · intro h i hi h1 h2
        by_cases e : i = k
        · subst e
          rcases z with y | y | y
          · exact absurd h1 y
          · omega
          · omega
        · exact ih.mp h i (by omega) h1 h2
      · exact fun h => ih.mpr (fun i hi => h i (by omega))
    · rw [if_neg z]
      have z1 : a.co k = r := by omega
      have z2 : a.cd k ≤ d := by omega
      have z3 : (zlt a r d k).1 ≤ a.cd k := by omega
      show (a.cd k : Int) ≤ t ↔ _
      constructor
      · intro h i hi h1 h2
        by_cases e : i = k
        · subst e
          exact h
        · exact ih.mp (by omega) i (by omega) h1 h2
      · exact fun h => h k (by omega) z1 z2
/-- a value from a day on holds up to the next later change -/
theorem unt_z {a : Ac} {r d k : Nat} {t : Int} (hd : d < 320) (ht : -1 ≤ t) : d < unt a r t k ↔ (zlt a r d k).1 ≤ t := by
  rw [unt_i, zlt_1 ht]
  constructor
  · intro h i hi h1 h2
    by_cases z : t < a.cd i
    · have := h.2 i hi h1 z
      omega
    · omega
  · refine fun h => ⟨hd, fun i hi h1 h2 => ?_⟩
    rcases Nat.lt_or_ge d (a.cd i) with z | z
    · exact z
    · have := h i hi h1 z
      omega
