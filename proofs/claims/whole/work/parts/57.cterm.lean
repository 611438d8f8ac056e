/-! terms: what holds behind a row -/
theorem zhl_z {a : Ac} (n1 : a.ti = none) (n2 : a.fo = none) {r d : Nat} : zhl a r d = (zlt a r d a.nc).2 := zhl_n (fun z => by rw [n2] at z; cases z.2) (by rw [n1]; simp)
theorem zlt_dC {a : Ac} {x z : Nat} {y : Int} {r d : Nat} : ∀ k, k ≤ a.nc → zlt (zdC a x y z) r d k = zlt a r d k
  | 0, _ => rfl
  | k + 1, h => by
    have e1 : (zdC a x y z).co k = a.co k := zup_n (by omega)
    have e2 : (zdC a x y z).cd k = a.cd k := zup_n (by omega)
    have e3 : (zdC a x y z).cv k = a.cv k := zup_n (by omega)
    rw [zlt, zlt, zlt_dC k (by omega), e1, e2, e3]
theorem zhl_dC {a : Ac} (n1 : a.ti = none) (n2 : a.fo = none) {x z : Nat} {y : Int} (hy : 0 ≤ y) {r d : Nat} : zhl (zdC a x y z) r d = if (r : Int) = y ∧ x ≤ d ∧ (zlt a r d a.nc).1 ≤ x then (z : Int) else zhl a r d := by
  rw [zhl_z (a := zdC a x y z) n1 n2, zhl_z n1 n2]
  show (zlt (zdC a x y z) r d (a.nc + 1)).2 = _
  have e1 : (zdC a x y z).co a.nc = y.toNat := zup_s
  have e2 : (zdC a x y z).cd a.nc = x := zup_s
  have e3 : (zdC a x y z).cv a.nc = z := zup_s
  rw [zlt, zlt_dC a.nc (Nat.le_refl _), e1, e2, e3]
  by_cases c : (r : Int) = y ∧ x ≤ d ∧ (zlt a r d a.nc).1 ≤ x
  · rw [if_pos c, if_neg (by omega)]
  · rw [if_neg c, if_pos (by omega)]
theorem zlt_dT {a : Ac} {x : Nat} {y : Int} {r d : Nat} (hr : r ≠ a.nt) : ∀ k, zlt (zdT a x y) r d k = zlt a r d k
  | 0 => by
    show ((-1 : Int), (if r < 4 then ((zup a.tr a.nt x r : Nat) : Int) else a.db (r - 4))) = _
    rw [zup_n hr]
    rfl
  | k + 1 => by rw [zlt, zlt, zlt_dT hr k]; rfl
theorem zlt_dT2 {a : Ac} {x : Nat} {y : Int} {d : Nat} (h4 : a.nt < 4) (hc : ∀ k, k < a.nc → a.co k ≠ a.nt) : ∀ k, k ≤ a.nc → zlt (zdT a x y) a.nt d k = (-1, (x : Int))
  | 0, _ => by
    show ((-1 : Int), (if a.nt < 4 then ((zup a.tr a.nt x a.nt : Nat) : Int) else a.db (a.nt - 4))) = _
    rw [zup_s, if_pos h4]
  | k + 1, hk => by
    have e : zlt (zdT a x y) a.nt d (k + 1) = zlt (zdT a x y) a.nt d k := if_pos (Or.inl (hc k (by omega)))
    rw [e, zlt_dT2 h4 hc k (by omega)]
theorem zhl_dT {a : Ac} (n1 : a.ti = none) (n2 : a.fo = none) {x : Nat} {y : Int} {r d : Nat} (h4 : a.nt < 4) (hc : ∀ k, k < a.nc → a.co k ≠ a.nt) : zhl (zdT a x y) r d = if r = a.nt then (x : Int) else zhl a r d := by
  rw [zhl_z (a := zdT a x y) n1 n2, zhl_z n1 n2]
  show (zlt (zdT a x y) r d a.nc).2 = _
  by_cases c : r = a.nt
  · rw [if_pos c, c, zlt_dT2 h4 hc a.nc (Nat.le_refl _)]
  · rw [if_neg c, zlt_dT c]
/-- what is told for what is owed counts where no change does -/
theorem zlt_dD {a : Ac} {x z : Nat} {y : Int} {r d : Nat} : ∀ k, (zlt (zdD a x y z) r d k).1 = (zlt a r d k).1 ∧ (zlt (zdD a x y z) r d k).2 = if (zlt a r d k).1 ≤ -1 then (if r < 4 then (a.tr r : Int) else (zdD a x y z).db (r - 4)) else (zlt a r d k).2
  | 0 => ⟨rfl, rfl⟩
  | k + 1 => by
    obtain ⟨h1, h2⟩ := zlt_dD (a := a) (x := x) (y := y) (z := z) (r := r) (d := d) k
    rw [zlt, zlt, h1]
    by_cases c : a.co k ≠ r ∨ d < a.cd k ∨ (a.cd k : Int) < (zlt a r d k).1
    · rw [if_pos c, if_pos (show (zdD a x y z).co k ≠ r ∨ d < (zdD a x y z).cd k ∨ ((zdD a x y z).cd k : Int) < (zlt a r d k).1 from c)]
      exact ⟨h1, h2⟩
    · rw [if_neg c, if_neg (show ¬ ((zdD a x y z).co k ≠ r ∨ d < (zdD a x y z).cd k ∨ ((zdD a x y z).cd k : Int) < (zlt a r d k).1) from c)]
      refine ⟨rfl, ?_⟩
      show ((zdD a x y z).cv k : Int) = if (a.cd k : Int) ≤ -1 then _ else (a.cv k : Int)
      rw [if_neg (by omega)]
      rfl
theorem zhl_dD {a : Ac} (n1 : a.ti = none) (n2 : a.fo = none) {x z : Nat} {y : Int} {r d : Nat} : zhl (zdD a x y z) r d = if (zlt a r d a.nc).1 ≤ -1 then (if r < 4 then (a.tr r : Int) else (zdD a x y z).db (r - 4)) else zhl a r d := by
  rw [zhl_z (a := zdD a x y z) n1 n2, zhl_z n1 n2]
  exact (zlt_dD a.nc).2
theorem zhl_4 {a : Ac} (n1 : a.ti = none) (n2 : a.fo = none) {r d : Nat} (hr : r < 4) (h : (zlt a r d a.nc).1 ≤ -1) : zhl a r d = a.tr r := by
  rw [zhl_z n1 n2]
  have : ∀ k, (zlt a r d k).1 ≤ -1 → (zlt a r d k).2 = a.tr r := fun k => by
    induction k with
    | zero =>
      intro _
      show (if r < 4 then (a.tr r : Int) else a.db (r - 4)) = _
      rw [if_pos hr]
    | succ k ih =>
      rw [zlt]
      by_cases c : a.co k ≠ r ∨ d < a.cd k ∨ (a.cd k : Int) < (zlt a r d k).1
      · rw [if_pos c]; exact ih
      · rw [if_neg c]
        intro h
        have h' : (a.cd k : Int) ≤ -1 := h
        omega
  exact this _ h
/-- changes are of tiers that are there, or of what is owed -/
def Ch (a : Ac) : Prop := ∀ k, k < a.nc → a.co k < a.nt ∨ 4 ≤ a.co k
theorem od_tm {a x : Ac} {A A' : mI} (hn : x.n = a.n) (hv : x.va = a.va) (hA : A' 35 = A 35) (h : ∃ od, Od a A od) : ∃ od, Od x A' od := by
  obtain ⟨od, O⟩ := h
  refine ⟨od, ?_, ?_, ?_, ?_⟩
  · rw [hn]; exact O.lt
  · rw [hn, hA]; exact O.at_
  · rw [hn, hv]; exact O.st
  · rw [hn]; exact O.on
theorem CR.dT {a : Ac} {I A : mI} {B : mB} (C : CR a I A B) (G : Gd a) (H : Ch a) (h4 : a.nt < 4) {x : Nat} {y : Int} (hy : 0 ≤ y) {k1 : Nat} {v2 v3 : Int32} (e1 : k1 = a.nt) (h2 : v2 = if y = 0 then -1 else zN y) (h3 : v3 = nI (a.nt + 1)) {A' : mI} (hq : ∀ q, q ≠ 19 + a.nt → A' q = up2 A 26 k1 v2 q) (hr : ∀ d, d < 320 → A' (19 + a.nt) d = nI x) : CR (zdT a x y) (up2 I 17 4 v3) A' B := by
  subst e1; subst h2; subst h3
  have hA : ∀ q, q ≠ 19 + a.nt → q ≠ 26 → A' q = A q := fun q h1 h2 => by rw [hq q h1, up2_r h2]
  have hc : ∀ k, k < a.nc → a.co k ≠ a.nt := fun k hk => by have := H k hk; omega
  refine CR.mk ?_ ?_ ?_ ?_ up2_s ?_ (fun t ht => ?_) ?_ ?_ (fun r d hr2 hd => ?_) ?_ ?_ C.ham ?_ ?_ ?_ (od_tm rfl rfl (hA 35 (by omega) (by decide)) C.hod) C.hbl (by show a.nt + 1 ≤ 4; omega)
  · rw [up2_n (by decide)]; exact C.hP
  · rw [up2_n (by decide)]; exact C.hN
  · rw [up2_n (by decide)]; exact C.hK
  · rw [up2_n (by decide)]; exact C.hc
  · rw [up2_m (by decide)]; exact C.hnc
  · have ht2 : t < a.nt + 1 := ht
    rw [hq 26 (by omega)]
    show up2 A 26 a.nt _ 26 t = (if zup a.tt a.nt y.toNat t = 0 then -1 else nI (zup a.tt a.nt y.toNat t))
    by_cases z : t = a.nt
    · subst z
      rw [up2_s, zup_s]
      by_cases w : y = 0
      · rw [if_pos w, if_pos (by omega)]
      · rw [if_neg w, if_neg (by omega), nI_z]
        congr 1
        omega
    · rw [up2_m z, zup_n z]
      exact C.htt t (by omega)
  · rw [hA 27 (by omega) (by decide)]; exact C.hcd
  · rw [hA 28 (by omega) (by decide)]; exact C.hco
  · have hr3 : r < a.nt + 1 ∨ 4 ≤ r ∧ r ≤ 6 := hr2
    rw [zhl_dT G.no1 G.no2 h4 hc]
    by_cases z : r = a.nt
    · rw [if_pos z, z, hr d hd, nI_z]
    · rw [if_neg z, hA (19 + r) (by omega) (by omega)]
      exact C.hru r d (by omega) hd
  · rw [up2_n (by decide)]; exact C.hn
  · rw [hA 30 (by omega) (by decide)]; exact C.hso
  · rw [hA 32 (by omega) (by decide)]; exact C.hva
  · rw [hA 33 (by omega) (by decide)]; exact C.hpg
  · rw [hA 34 (by omega) (by decide)]; exact C.hog
theorem CR.dD {a : Ac} {I A : mI} {B : mB} (C : CR a I A B) (G : Gd a) {x z : Nat} {y : Int} (hy : 0 ≤ y) {A' : mI} (hq : ∀ q, q ≠ 23 → q ≠ 24 → q ≠ 25 → A' q = A q) (h23 : ∀ d, d < 320 → A' 23 d = if d < unt a 4 (-1) a.nc then nI x else A 23 d) (h24 : ∀ d, d < 320 → A' 24 d = if d < unt a 5 (-1) a.nc then zN y else A 24 d) (h25 : ∀ d, d < 320 → A' 25 d = if d < unt a 6 (-1) a.nc then nI z else A 25 d) : CR (zdD a x y z) I A' B := by
  have h4 := C.nt4
  refine CR.mk C.hP C.hN C.hK C.hc C.hnt C.hnc ?_ ?_ ?_ (fun r d hr2 hd => ?_) C.hn ?_ C.ham ?_ ?_ ?_ (od_tm rfl rfl (hq 35 (by decide) (by decide) (by decide)) C.hod) C.hbl C.nt4
  · rw [hq 26 (by decide) (by decide) (by decide)]; exact C.htt
  · rw [hq 27 (by decide) (by decide) (by decide)]; exact C.hcd
  · rw [hq 28 (by decide) (by decide) (by decide)]; exact C.hco
  · have hr3 : r < a.nt ∨ 4 ≤ r ∧ r ≤ 6 := hr2
    rw [zhl_dD G.no1 G.no2]
    rcases hr3 with z1 | z1
    · rw [hq (19 + r) (by omega) (by omega) (by omega), C.hru r d (Or.inl z1) hd]
      by_cases c : (zlt a r d a.nc).1 ≤ -1
      · rw [if_pos c, if_pos (by omega), zhl_4 G.no1 G.no2 (by omega) c]
      · rw [if_neg c]
    · have hr4 : r = 4 ∨ r = 5 ∨ r = 6 := by omega
      have hu := unt_z (a := a) (r := r) (d := d) (k := a.nc) (t := -1) hd (Int.le_refl _)
      rw [if_neg (show ¬ r < 4 by omega)]
      rcases hr4 with e | e | e <;> subst e
      · rw [h23 d hd, show A 23 d = zN (zhl a 4 d) from C.hru 4 d (by omega) hd]
        by_cases c : (zlt a 4 d a.nc).1 ≤ -1
        · rw [if_pos (hu.mpr c), if_pos c, nI_z]; rfl
        · rw [if_neg (fun q => c (hu.mp q)), if_neg c]
      · rw [h24 d hd, show A 24 d = zN (zhl a 5 d) from C.hru 5 d (by omega) hd]
        by_cases c : (zlt a 5 d a.nc).1 ≤ -1
        · rw [if_pos (hu.mpr c), if_pos c]
          show zN y = zN (y.toNat : Int)
          congr 1
          omega
        · rw [if_neg (fun q => c (hu.mp q)), if_neg c]
      · rw [h25 d hd, show A 25 d = zN (zhl a 6 d) from C.hru 6 d (by omega) hd]
        by_cases c : (zlt a 6 d a.nc).1 ≤ -1
        · rw [if_pos (hu.mpr c), if_pos c, nI_z]; rfl
        · rw [if_neg (fun q => c (hu.mp q)), if_neg c]
  · rw [hq 30 (by decide) (by decide) (by decide)]; exact C.hso
  · rw [hq 32 (by decide) (by decide) (by decide)]; exact C.hva
  · rw [hq 33 (by decide) (by decide) (by decide)]; exact C.hpg
  · rw [hq 34 (by decide) (by decide) (by decide)]; exact C.hog
theorem CR.dC {a : Ac} {I A : mI} {B : mB} (C : CR a I A B) (G : Gd a) {x z r0 : Nat} {y : Int} (hy : y = (r0 : Int)) (hr0 : r0 ≤ 6) {A' : mI} {k1 k2 : Nat} {v1 v2 v3 : Int32} (e1 : k1 = a.nc) (e2 : k2 = a.nc) (h1 : v1 = nI x) (h2 : v2 = zN y) (h3 : v3 = nI (a.nc + 1)) (hq : ∀ q, q ≠ 19 + r0 → A' q = A q) (hr : ∀ d, d < 320 → A' (19 + r0) d = if x ≤ d ∧ d < unt a r0 (x : Int) a.nc then nI z else A (19 + r0) d) : CR (zdC a x y z) (up2 I 17 5 v3) (up2 (up2 A' 27 k1 v1) 28 k2 v2) B := by
  subst e1; subst e2; subst h1; subst h3
  have h4 := C.nt4
  have ey : v2 = nI y.toNat := by rw [h2, nI_z]; congr 1; omega
  have hA : ∀ q, q ≠ 19 + r0 → q ≠ 27 → q ≠ 28 → up2 (up2 A' 27 a.nc (nI x)) 28 a.nc v2 q = A q := fun q a1 a2 a3 => by rw [up2_r a3, up2_r a2, hq q a1]
  refine CR.mk ?_ ?_ ?_ ?_ ?_ up2_s ?_ ?_ ?_ (fun r d hr2 hd => ?_) ?_ ?_ C.ham ?_ ?_ ?_ (od_tm rfl rfl (hA 35 (by omega) (by decide) (by decide)) C.hod) C.hbl C.nt4
  · rw [up2_n (by decide)]; exact C.hP
  · rw [up2_n (by decide)]; exact C.hN
  · rw [up2_n (by decide)]; exact C.hK
  · rw [up2_n (by decide)]; exact C.hc
  · rw [up2_m (by decide)]; exact C.hnt
  · rw [hA 26 (by omega) (by decide) (by decide)]; exact C.htt
  · rw [up2_r (show 27 ≠ 28 by decide)]
    exact up2_z (t := nI) (F := A') (fun j hj => by rw [hq 27 (by omega)]; exact C.hcd j hj) rfl
  · exact up2_z (t := nI) (F := up2 A' 27 a.nc (nI x)) (fun j hj => by rw [up2_n (show 28 ≠ 27 by decide), hq 28 (by omega)]; exact C.hco j hj) ey
  · have hr3 : r < a.nt ∨ 4 ≤ r ∧ r ≤ 6 := hr2
    rw [zhl_dC G.no1 G.no2 (by omega)]
    by_cases e : r = r0
    · subst e
      rw [up2_n (by omega), up2_n (by omega), hr d hd, C.hru r d hr3 hd]
      have hu := unt_z (a := a) (r := r) (d := d) (k := a.nc) (t := (x : Int)) hd (by omega)
      by_cases c : (r : Int) = y ∧ x ≤ d ∧ (zlt a r d a.nc).1 ≤ x
      · rw [if_pos c, if_pos ⟨c.2.1, hu.mpr c.2.2⟩, nI_z]
      · rw [if_neg c, if_neg (fun q => c ⟨by omega, q.1, hu.mp q.2⟩)]
    · rw [hA (19 + r) (by omega) (by omega) (by omega), if_neg (fun q => e (by omega))]
      exact C.hru r d hr3 hd
  · rw [up2_n (by decide)]; exact C.hn
  · rw [hA 30 (by omega) (by decide) (by decide)]; exact C.hso
  · rw [hA 32 (by omega) (by decide) (by decide)]; exact C.hva
  · rw [hA 33 (by omega) (by decide) (by decide)]; exact C.hpg
  · rw [hA 34 (by omega) (by decide) (by decide)]; exact C.hog
