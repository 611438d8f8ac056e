/-! the first store (written by wip/whole/gs3.py) -/
def iI (n : Int32) : mI := fun k j => match k with
  | 900 => n
  | 3 => (match j with | 4 => -1 | _ => 0)
  | 43 => (match j with | 21 => -1 | 23 => -1 | 34 => -1 | _ => 0)
  | _ => 0
def iA (xs : Nat → Int32) : mI := fun k i => if k = 900 then xs i else 0
def iB : mB := fun _ _ => 0
def b0 : Bk := Bk.mk 0 0 1 0 0 0 (fun _ => (0, 0, 0, 0))
def D0 : Dt := Dt.mk b0 b0 b0 b0 0 (fun _ => 0) 0 (-1) 0
theorem sc_0 {o c : Nat} {I A : mI} (h1 : I o 1 = 0) (h2 : I o 2 = 0) : scB o c I A b0 := ScR.mk h1 h2 (Nat.le_refl _) (fun h => absurd h (Nat.lt_irrefl _)) (fun _ => ⟨rfl, rfl⟩) (fun k hk => absurd hk (Nat.not_lt_zero k))
theorem im_0 {A : mI} {k : Nat} (h : A 47 k = 0) : imR A k b0 := ⟨fun _ => h, fun h => absurd h (Nat.lt_irrefl _)⟩
theorem K_0 {n : Int32} {xs : Nat → Int32} : KSt (iI n) (iA xs) iB D0 := KSt.mk (CR.bg (P := 0) (N := 0) (K := 1) rfl rfl (fun z => absurd z (Nat.lt_irrefl _)) rfl rfl rfl rfl (fun r d hr _ => if_neg (by omega)) (fun _ _ => rfl) (by decide)) rfl (sc_0 rfl rfl) (sc_0 rfl rfl) (sc_0 rfl rfl) (sc_0 rfl rfl) rfl (fun k hk => absurd hk (Nat.not_lt_zero k)) rfl rfl
theorem M_0 {n : Int32} {xs : Nat → Int32} : MSt 44 (iI n) (iA xs) iB D0 := by
  have hz : ∀ t : Nat, t < 0 → False := fun t h => Nat.not_lt_zero t h
  refine MSt.mk (MR.mk rfl (Or.inl rfl) rfl rfl (fun z => (hz _ z).elim) rfl (fun t ht => (hz t ht).elim) (fun t ht => (hz t ht).elim) (fun k hk => rfl) rfl (fun t ht => (hz t ht).elim) (fun t ht => (hz t ht).elim) (fun t ht => (hz t ht).elim) rfl (fun t ht => (hz t ht).elim) (fun t ht => (hz t ht).elim) (fun t ht => (hz t ht).elim) (fun t ht => (hz t ht).elim) (fun t ht => (hz t ht).elim) rfl rfl (fun z => absurd rfl z) rfl) (WdR.mk rfl rfl rfl (fun k hk => (hz k hk).elim)) rfl (im_0 rfl) (im_0 rfl) (im_0 rfl) rfl (fun k hk => (hz k hk).elim) rfl rfl
theorem V_0 : DV D0 := DV.mk bk_0 bk_0 bk_0 bk_0 (Nat.zero_le _) (fun k hk => absurd hk (Nat.not_lt_zero k))
/-- the law, from its loop's beginning -/
theorem law_16 {J : mJ} (X : mRules J) {R : mR} {len : Nat} {xs : Nat → Int32} (hl : len ≤ 3072) (hR : ∀ I A B P, R (some (.int 1)) I A B P) : J n_law 16 [.retAddr 0, .ref 0, .ref 43, .float 0] [] (iI (nI len)) (iA xs) iB (pk 44 45) R := by
  refine X 5 _ _ _ _ _ _ _ _ _ ?_
  exact law_loop X hl hR (len + 6) 0 (by omega) (by omega) K_0 M_0 V_0 (Or.inl ⟨rfl, rfl⟩) rfl
theorem P_rep {D : va_G} {cl : List vw_C} {ws : va_W} {H : Heap} {a n : Nat} {cA : ClassId} {f g : Nat → Option Nat} (hP : va_P D cl ws H) (q0 : Nat) (h : ws[q0]? = some (a, .inl (cA, n, .inr (.inr (.inr (.inr f)))))) (hfg : ∀ i, i < n → f i = g i) : va_P D cl (ws.set q0 (a, .inl (cA, n, .inr (.inr (.inr (.inr g)))))) H := by
  intro i q hq
  by_cases e : i = q0
  · subst e
    have hlt : i < ws.length := (List.getElem?_eq_some_iff.mp h).1
    rw [List.getElem?_set_self hlt] at hq
    cases hq
    have h1 : H[a]? = some (vp_cell cA (n, .inr (.inr (.inr (.inr f))))) := hP i _ h
    show H[a]? = some (vp_cell cA (n, .inr (.inr (.inr (.inr g)))))
    rw [h1, vp_cell_q, vp_cell_q]
    exact congrArg some (arrV_ext (fun j hj => by rw [hfg j hj]))
  · rw [List.getElem?_set_ne (fun q => e q.symm)] at hq
    exact hP i q hq
theorem ce_0 {b : Nat} {dA : Nat → ClassId} {n : Int32} {xs : Nat → Int32} : ceE b dA (iI n) (iA xs) iB (pk 44 45) 0 = .inr (10, [.ref (b + 1), .ref (b + 3), .ref (b + 7), .ref (b + 9), .ref (b + 16), .ref (b + 38), .ref (b + 39), .ref (b + 40)]) := rfl
theorem ce_1 {b : Nat} {dA : Nat → ClassId} {n : Int32} {xs : Nat → Int32} : ceE b dA (iI n) (iA xs) iB (pk 44 45) 1 = .inr (6, [.ref (b + 2), .int 0]) := rfl
theorem ce_2 {b : Nat} {dA : Nat → ClassId} {n : Int32} {xs : Nat → Int32} : ceE b dA (iI n) (iA xs) iB (pk 44 45) 2 = .inl (dA 2, 900, .inl (fun _ => 0)) := rfl
theorem ce_3 {b : Nat} {dA : Nat → ClassId} {n : Int32} {xs : Nat → Int32} : ceE b dA (iI n) (iA xs) iB (pk 44 45) 3 = .inr (4, [.ref (b + 1), .ref (b + 6), .ref (b + 4), .int 0, .int (-1), .int 0, .int 0, .int 0, .int 0, .int 0, .int 0, .int 0, .int 0, .int 0, .int 0]) := rfl
theorem ce_4 {b : Nat} {dA : Nat → ClassId} {n : Int32} {xs : Nat → Int32} : ceE b dA (iI n) (iA xs) iB (pk 44 45) 4 = .inr (5, [.ref (b + 5), .int 0, .int 0]) := rfl
theorem ce_5 {b : Nat} {dA : Nat → ClassId} {n : Int32} {xs : Nat → Int32} : ceE b dA (iI n) (iA xs) iB (pk 44 45) 5 = .inl (dA 0, 328, .inl (fun _ => 0)) := rfl
theorem ce_6 {b : Nat} {dA : Nat → ClassId} {n : Int32} {xs : Nat → Int32} : ceE b dA (iI n) (iA xs) iB (pk 44 45) 6 = .inr (8, [.ref (b + 1), .int 0, .int 0, .int 0, .int 0]) := rfl
theorem ce_7 {b : Nat} {dA : Nat → ClassId} {n : Int32} {xs : Nat → Int32} : ceE b dA (iI n) (iA xs) iB (pk 44 45) 7 = .inr (5, [.ref (b + 8), .int 0, .int 0]) := rfl
theorem ce_8 {b : Nat} {dA : Nat → ClassId} {n : Int32} {xs : Nat → Int32} : ceE b dA (iI n) (iA xs) iB (pk 44 45) 8 = .inl (dA 0, 328, .inl (fun _ => 0)) := rfl
theorem ce_9 {b : Nat} {dA : Nat → ClassId} {n : Int32} {xs : Nat → Int32} : ceE b dA (iI n) (iA xs) iB (pk 44 45) 9 = .inl (dA 4, 3, .inr (.inr (.inr (.inr (fun i => some (b + (10 + 2 * i))))))) := rfl
theorem ce_10 {b : Nat} {dA : Nat → ClassId} {n : Int32} {xs : Nat → Int32} : ceE b dA (iI n) (iA xs) iB (pk 44 45) 10 = .inr (5, [.ref (b + 11), .int 0, .int 0]) := rfl
theorem ce_11 {b : Nat} {dA : Nat → ClassId} {n : Int32} {xs : Nat → Int32} : ceE b dA (iI n) (iA xs) iB (pk 44 45) 11 = .inl (dA 0, 328, .inl (fun _ => 0)) := rfl
theorem ce_12 {b : Nat} {dA : Nat → ClassId} {n : Int32} {xs : Nat → Int32} : ceE b dA (iI n) (iA xs) iB (pk 44 45) 12 = .inr (5, [.ref (b + 13), .int 0, .int 0]) := rfl
theorem ce_13 {b : Nat} {dA : Nat → ClassId} {n : Int32} {xs : Nat → Int32} : ceE b dA (iI n) (iA xs) iB (pk 44 45) 13 = .inl (dA 0, 328, .inl (fun _ => 0)) := rfl
theorem ce_14 {b : Nat} {dA : Nat → ClassId} {n : Int32} {xs : Nat → Int32} : ceE b dA (iI n) (iA xs) iB (pk 44 45) 14 = .inr (5, [.ref (b + 15), .int 0, .int 0]) := rfl
theorem ce_15 {b : Nat} {dA : Nat → ClassId} {n : Int32} {xs : Nat → Int32} : ceE b dA (iI n) (iA xs) iB (pk 44 45) 15 = .inl (dA 0, 328, .inl (fun _ => 0)) := rfl
theorem ce_16 {b : Nat} {dA : Nat → ClassId} {n : Int32} {xs : Nat → Int32} : ceE b dA (iI n) (iA xs) iB (pk 44 45) 16 = .inr (2, [.ref (b + 17), .ref (b + 29), .ref (b + 36), .ref (b + 37), .int 0, .int 0, .int 0, .int 0]) := rfl
theorem ce_17 {b : Nat} {dA : Nat → ClassId} {n : Int32} {xs : Nat → Int32} : ceE b dA (iI n) (iA xs) iB (pk 44 45) 17 = .inr (7, [.ref (b + 18), .ref (b + 26), .ref (b + 27), .ref (b + 28), .int 0, .int 0]) := rfl
theorem ce_18 {b : Nat} {dA : Nat → ClassId} {n : Int32} {xs : Nat → Int32} : ceE b dA (iI n) (iA xs) iB (pk 44 45) 18 = .inl (dA 5, 7, .inr (.inr (.inr (.inr (fun i => some (b + (19 + 1 * i))))))) := rfl
theorem ce_19 {b : Nat} {dA : Nat → ClassId} {n : Int32} {xs : Nat → Int32} : ceE b dA (iI n) (iA xs) iB (pk 44 45) 19 = .inl (dA 0, 320, .inl (fun _ => 0)) := rfl
theorem ce_20 {b : Nat} {dA : Nat → ClassId} {n : Int32} {xs : Nat → Int32} : ceE b dA (iI n) (iA xs) iB (pk 44 45) 20 = .inl (dA 0, 320, .inl (fun _ => 0)) := rfl
theorem ce_21 {b : Nat} {dA : Nat → ClassId} {n : Int32} {xs : Nat → Int32} : ceE b dA (iI n) (iA xs) iB (pk 44 45) 21 = .inl (dA 0, 320, .inl (fun _ => 0)) := rfl
theorem ce_22 {b : Nat} {dA : Nat → ClassId} {n : Int32} {xs : Nat → Int32} : ceE b dA (iI n) (iA xs) iB (pk 44 45) 22 = .inl (dA 0, 320, .inl (fun _ => 0)) := rfl
theorem ce_23 {b : Nat} {dA : Nat → ClassId} {n : Int32} {xs : Nat → Int32} : ceE b dA (iI n) (iA xs) iB (pk 44 45) 23 = .inl (dA 0, 320, .inl (fun _ => 0)) := rfl
theorem ce_24 {b : Nat} {dA : Nat → ClassId} {n : Int32} {xs : Nat → Int32} : ceE b dA (iI n) (iA xs) iB (pk 44 45) 24 = .inl (dA 0, 320, .inl (fun _ => 0)) := rfl
theorem ce_25 {b : Nat} {dA : Nat → ClassId} {n : Int32} {xs : Nat → Int32} : ceE b dA (iI n) (iA xs) iB (pk 44 45) 25 = .inl (dA 0, 320, .inl (fun _ => 0)) := rfl
theorem ce_26 {b : Nat} {dA : Nat → ClassId} {n : Int32} {xs : Nat → Int32} : ceE b dA (iI n) (iA xs) iB (pk 44 45) 26 = .inl (dA 0, 4, .inl (fun _ => 0)) := rfl
theorem ce_27 {b : Nat} {dA : Nat → ClassId} {n : Int32} {xs : Nat → Int32} : ceE b dA (iI n) (iA xs) iB (pk 44 45) 27 = .inl (dA 0, 32, .inl (fun _ => 0)) := rfl
theorem ce_28 {b : Nat} {dA : Nat → ClassId} {n : Int32} {xs : Nat → Int32} : ceE b dA (iI n) (iA xs) iB (pk 44 45) 28 = .inl (dA 0, 32, .inl (fun _ => 0)) := rfl
theorem ce_29 {b : Nat} {dA : Nat → ClassId} {n : Int32} {xs : Nat → Int32} : ceE b dA (iI n) (iA xs) iB (pk 44 45) 29 = .inr (1, [.ref (b + 30), .ref (b + 31), .ref (b + 32), .ref (b + 33), .ref (b + 34), .ref (b + 35), .int 0]) := rfl
theorem ce_30 {b : Nat} {dA : Nat → ClassId} {n : Int32} {xs : Nat → Int32} : ceE b dA (iI n) (iA xs) iB (pk 44 45) 30 = .inl (dA 0, 220, .inl (fun _ => 0)) := rfl
theorem ce_31 {b : Nat} {dA : Nat → ClassId} {n : Int32} {xs : Nat → Int32} : ceE b dA (iI n) (iA xs) iB (pk 44 45) 31 = .inl (dA 1, 220, .inr (.inl (fun _ => 0))) := rfl
theorem ce_32 {b : Nat} {dA : Nat → ClassId} {n : Int32} {xs : Nat → Int32} : ceE b dA (iI n) (iA xs) iB (pk 44 45) 32 = .inl (dA 0, 220, .inl (fun _ => 0)) := rfl
theorem ce_33 {b : Nat} {dA : Nat → ClassId} {n : Int32} {xs : Nat → Int32} : ceE b dA (iI n) (iA xs) iB (pk 44 45) 33 = .inl (dA 0, 220, .inl (fun _ => 0)) := rfl
theorem ce_34 {b : Nat} {dA : Nat → ClassId} {n : Int32} {xs : Nat → Int32} : ceE b dA (iI n) (iA xs) iB (pk 44 45) 34 = .inl (dA 0, 220, .inl (fun _ => 0)) := rfl
theorem ce_35 {b : Nat} {dA : Nat → ClassId} {n : Int32} {xs : Nat → Int32} : ceE b dA (iI n) (iA xs) iB (pk 44 45) 35 = .inl (dA 0, 220, .inl (fun _ => 0)) := rfl
theorem ce_36 {b : Nat} {dA : Nat → ClassId} {n : Int32} {xs : Nat → Int32} : ceE b dA (iI n) (iA xs) iB (pk 44 45) 36 = .inl (dA 1, 320, .inr (.inl (fun _ => 0))) := rfl
theorem ce_37 {b : Nat} {dA : Nat → ClassId} {n : Int32} {xs : Nat → Int32} : ceE b dA (iI n) (iA xs) iB (pk 44 45) 37 = .inl (dA 1, 320, .inr (.inl (fun _ => 0))) := rfl
theorem ce_38 {b : Nat} {dA : Nat → ClassId} {n : Int32} {xs : Nat → Int32} : ceE b dA (iI n) (iA xs) iB (pk 44 45) 38 = .inr (0, [.ref (b + 16), .ref (b + 17)]) := rfl
theorem ce_39 {b : Nat} {dA : Nat → ClassId} {n : Int32} {xs : Nat → Int32} : ceE b dA (iI n) (iA xs) iB (pk 44 45) 39 = .inr (9, [.ref (b + 16), .ref (b + 17), .ref (b + 29)]) := rfl
theorem ce_40 {b : Nat} {dA : Nat → ClassId} {n : Int32} {xs : Nat → Int32} : ceE b dA (iI n) (iA xs) iB (pk 44 45) 40 = .inr (3, [.ref (b + 29), .ref (b + 41), .ref (b + 42)]) := rfl
theorem ce_41 {b : Nat} {dA : Nat → ClassId} {n : Int32} {xs : Nat → Int32} : ceE b dA (iI n) (iA xs) iB (pk 44 45) 41 = .inl (dA 1, 220, .inr (.inl (fun _ => 0))) := rfl
theorem ce_42 {b : Nat} {dA : Nat → ClassId} {n : Int32} {xs : Nat → Int32} : ceE b dA (iI n) (iA xs) iB (pk 44 45) 42 = .inl (dA 0, 220, .inl (fun _ => 0)) := rfl
theorem ce_43 {b : Nat} {dA : Nat → ClassId} {n : Int32} {xs : Nat → Int32} : ceE b dA (iI n) (iA xs) iB (pk 44 45) 43 = .inr (11, [.int 0, .ref (b + 44), .ref (b + 45), .ref (b + 46), .ref (b + 47), .ref (b + 48), .ref (b + 49), .int 0, .ref (b + 50), .int 0, .ref (b + 51), .ref (b + 52), .ref (b + 53), .int 0, .ref (b + 54), .ref (b + 55), .ref (b + 56), .ref (b + 57), .ref (b + 58), .int 0, .int 0, .int (-1), .int 0, .int (-1), .ref (b + 59), .ref (b + 60), .int 0, .ref (b + 61), .int 0, .int 0, .int 0, .int 0, .int 0, .int 0, .int (-1), .int 0, .int 0, .ref (b + 62), .ref (b + 63), .ref (b + 64)]) := rfl
theorem ce_44 {b : Nat} {dA : Nat → ClassId} {n : Int32} {xs : Nat → Int32} : ceE b dA (iI n) (iA xs) iB (pk 44 45) 44 = .inl (dA 0, 606, .inl (fun _ => 0)) := rfl
theorem ce_45 {b : Nat} {dA : Nat → ClassId} {n : Int32} {xs : Nat → Int32} : ceE b dA (iI n) (iA xs) iB (pk 44 45) 45 = .inl (dA 0, 606, .inl (fun _ => 0)) := rfl
theorem ce_46 {b : Nat} {dA : Nat → ClassId} {n : Int32} {xs : Nat → Int32} : ceE b dA (iI n) (iA xs) iB (pk 44 45) 46 = .inl (dA 0, 1818, .inl (fun _ => 0)) := rfl
theorem ce_47 {b : Nat} {dA : Nat → ClassId} {n : Int32} {xs : Nat → Int32} : ceE b dA (iI n) (iA xs) iB (pk 44 45) 47 = .inl (dA 3, 3, .inl (fun _ => 0)) := rfl
theorem ce_48 {b : Nat} {dA : Nat → ClassId} {n : Int32} {xs : Nat → Int32} : ceE b dA (iI n) (iA xs) iB (pk 44 45) 48 = .inl (dA 0, 4, .inl (fun _ => 0)) := rfl
theorem ce_49 {b : Nat} {dA : Nat → ClassId} {n : Int32} {xs : Nat → Int32} : ceE b dA (iI n) (iA xs) iB (pk 44 45) 49 = .inl (dA 0, 4, .inl (fun _ => 0)) := rfl
theorem ce_50 {b : Nat} {dA : Nat → ClassId} {n : Int32} {xs : Nat → Int32} : ceE b dA (iI n) (iA xs) iB (pk 44 45) 50 = .inl (dA 0, 3, .inl (fun _ => 0)) := rfl
theorem ce_51 {b : Nat} {dA : Nat → ClassId} {n : Int32} {xs : Nat → Int32} : ceE b dA (iI n) (iA xs) iB (pk 44 45) 51 = .inl (dA 0, 40, .inl (fun _ => 0)) := rfl
theorem ce_52 {b : Nat} {dA : Nat → ClassId} {n : Int32} {xs : Nat → Int32} : ceE b dA (iI n) (iA xs) iB (pk 44 45) 52 = .inl (dA 0, 40, .inl (fun _ => 0)) := rfl
theorem ce_53 {b : Nat} {dA : Nat → ClassId} {n : Int32} {xs : Nat → Int32} : ceE b dA (iI n) (iA xs) iB (pk 44 45) 53 = .inl (dA 0, 40, .inl (fun _ => 0)) := rfl
theorem ce_54 {b : Nat} {dA : Nat → ClassId} {n : Int32} {xs : Nat → Int32} : ceE b dA (iI n) (iA xs) iB (pk 44 45) 54 = .inl (dA 0, 500, .inl (fun _ => 0)) := rfl
theorem ce_55 {b : Nat} {dA : Nat → ClassId} {n : Int32} {xs : Nat → Int32} : ceE b dA (iI n) (iA xs) iB (pk 44 45) 55 = .inl (dA 1, 500, .inr (.inl (fun _ => 0))) := rfl
theorem ce_56 {b : Nat} {dA : Nat → ClassId} {n : Int32} {xs : Nat → Int32} : ceE b dA (iI n) (iA xs) iB (pk 44 45) 56 = .inl (dA 0, 500, .inl (fun _ => 0)) := rfl
theorem ce_57 {b : Nat} {dA : Nat → ClassId} {n : Int32} {xs : Nat → Int32} : ceE b dA (iI n) (iA xs) iB (pk 44 45) 57 = .inl (dA 0, 500, .inl (fun _ => 0)) := rfl
theorem ce_58 {b : Nat} {dA : Nat → ClassId} {n : Int32} {xs : Nat → Int32} : ceE b dA (iI n) (iA xs) iB (pk 44 45) 58 = .inl (dA 0, 500, .inl (fun _ => 0)) := rfl
theorem ce_59 {b : Nat} {dA : Nat → ClassId} {n : Int32} {xs : Nat → Int32} : ceE b dA (iI n) (iA xs) iB (pk 44 45) 59 = .inl (dA 1, 321, .inr (.inl (fun _ => 0))) := rfl
theorem ce_60 {b : Nat} {dA : Nat → ClassId} {n : Int32} {xs : Nat → Int32} : ceE b dA (iI n) (iA xs) iB (pk 44 45) 60 = .inl (dA 2, 900, .inl (fun _ => 0)) := rfl
theorem ce_61 {b : Nat} {dA : Nat → ClassId} {n : Int32} {xs : Nat → Int32} : ceE b dA (iI n) (iA xs) iB (pk 44 45) 61 = .inl (dA 0, 5, .inl (fun _ => 0)) := rfl
theorem ce_62 {b : Nat} {dA : Nat → ClassId} {n : Int32} {xs : Nat → Int32} : ceE b dA (iI n) (iA xs) iB (pk 44 45) 62 = .inl (dA 1, 500, .inr (.inl (fun _ => 0))) := rfl
theorem ce_63 {b : Nat} {dA : Nat → ClassId} {n : Int32} {xs : Nat → Int32} : ceE b dA (iI n) (iA xs) iB (pk 44 45) 63 = .inl (dA 0, 500, .inl (fun _ => 0)) := rfl
theorem ce_64 {b : Nat} {dA : Nat → ClassId} {n : Int32} {xs : Nat → Int32} : ceE b dA (iI n) (iA xs) iB (pk 44 45) 64 = .inl (dA 1, 500, .inr (.inl (fun _ => 0))) := rfl
def lay (b : Nat) (dA : Nat → ClassId) : va_W := [(b + 0, .inr (10, [.ref (b + 1), .ref (b + 3), .ref (b + 7), .ref (b + 9), .ref (b + 16), .ref (b + 38), .ref (b + 39), .ref (b + 40)])), (b + 1, .inr (6, [.ref (b + 2), .int 0])), (b + 2, .inl (dA 2, 900, .inl (fun _ => 0))), (b + 3, .inr (4, [.ref (b + 1), .ref (b + 6), .ref (b + 4), .int 0, .int (-1), .int 0, .int 0, .int 0, .int 0, .int 0, .int 0, .int 0, .int 0, .int 0, .int 0])), (b + 4, .inr (5, [.ref (b + 5), .int 0, .int 0])), (b + 5, .inl (dA 0, 328, .inl (fun _ => 0))), (b + 6, .inr (8, [.ref (b + 1), .int 0, .int 0, .int 0, .int 0])), (b + 7, .inr (5, [.ref (b + 8), .int 0, .int 0])), (b + 8, .inl (dA 0, 328, .inl (fun _ => 0))), (b + 9, .inl (dA 4, 3, .inr (.inr (.inr (.inr (va_up (va_up (va_up (fun _ => none) 0 (some ((b + 10)))) 1 (some ((b + 12)))) 2 (some ((b + 14))))))))), (b + 10, .inr (5, [.ref (b + 11), .int 0, .int 0])), (b + 11, .inl (dA 0, 328, .inl (fun _ => 0))), (b + 12, .inr (5, [.ref (b + 13), .int 0, .int 0])), (b + 13, .inl (dA 0, 328, .inl (fun _ => 0))), (b + 14, .inr (5, [.ref (b + 15), .int 0, .int 0])), (b + 15, .inl (dA 0, 328, .inl (fun _ => 0))), (b + 16, .inr (2, [.ref (b + 17), .ref (b + 29), .ref (b + 36), .ref (b + 37), .int 0, .int 0, .int 0, .int 0])), (b + 17, .inr (7, [.ref (b + 18), .ref (b + 26), .ref (b + 27), .ref (b + 28), .int 0, .int 0])), (b + 18, .inl (dA 5, 7, .inr (.inr (.inr (.inr (fun i => some ((b + 18) + (1 + i)))))))), (b + 19, .inl (dA 0, 320, .inl (fun _ => 0))), (b + 20, .inl (dA 0, 320, .inl (fun _ => 0))), (b + 21, .inl (dA 0, 320, .inl (fun _ => 0))), (b + 22, .inl (dA 0, 320, .inl (fun _ => 0))), (b + 23, .inl (dA 0, 320, .inl (fun _ => 0))), (b + 24, .inl (dA 0, 320, .inl (fun _ => 0))), (b + 25, .inl (dA 0, 320, .inl (fun _ => 0))), (b + 26, .inl (dA 0, 4, .inl (fun _ => 0))), (b + 27, .inl (dA 0, 32, .inl (fun _ => 0))), (b + 28, .inl (dA 0, 32, .inl (fun _ => 0))), (b + 29, .inr (1, [.ref (b + 30), .ref (b + 31), .ref (b + 32), .ref (b + 33), .ref (b + 34), .ref (b + 35), .int 0])), (b + 30, .inl (dA 0, 220, .inl (fun _ => 0))), (b + 31, .inl (dA 1, 220, .inr (.inl (fun _ => 0)))), (b + 32, .inl (dA 0, 220, .inl (fun _ => 0))), (b + 33, .inl (dA 0, 220, .inl (fun _ => 0))), (b + 34, .inl (dA 0, 220, .inl (fun _ => 0))), (b + 35, .inl (dA 0, 220, .inl (fun _ => 0))), (b + 36, .inl (dA 1, 320, .inr (.inl (fun _ => 0)))), (b + 37, .inl (dA 1, 320, .inr (.inl (fun _ => 0)))), (b + 38, .inr (0, [.ref (b + 16), .ref (b + 17)])), (b + 39, .inr (9, [.ref (b + 16), .ref (b + 17), .ref (b + 29)])), (b + 40, .inr (3, [.ref (b + 29), .ref (b + 41), .ref (b + 42)])), (b + 41, .inl (dA 1, 220, .inr (.inl (fun _ => 0)))), (b + 42, .inl (dA 0, 220, .inl (fun _ => 0))), (b + 43, .inr (11, [.int 0, .ref (b + 44), .ref (b + 45), .ref (b + 46), .ref (b + 47), .ref (b + 48), .ref (b + 49), .int 0, .ref (b + 50), .int 0, .ref (b + 51), .ref (b + 52), .ref (b + 53), .int 0, .ref (b + 54), .ref (b + 55), .ref (b + 56), .ref (b + 57), .ref (b + 58), .int 0, .int 0, .int (-1), .int 0, .int (-1), .ref (b + 59), .ref (b + 60), .int 0, .ref (b + 61), .int 0, .int 0, .int 0, .int 0, .int 0, .int 0, .int (-1), .int 0, .int 0, .ref (b + 62), .ref (b + 63), .ref (b + 64)])), (b + 44, .inl (dA 0, 606, .inl (fun _ => 0))), (b + 45, .inl (dA 0, 606, .inl (fun _ => 0))), (b + 46, .inl (dA 0, 1818, .inl (fun _ => 0))), (b + 47, .inl (dA 3, 3, .inl (fun _ => 0))), (b + 48, .inl (dA 0, 4, .inl (fun _ => 0))), (b + 49, .inl (dA 0, 4, .inl (fun _ => 0))), (b + 50, .inl (dA 0, 3, .inl (fun _ => 0))), (b + 51, .inl (dA 0, 40, .inl (fun _ => 0))), (b + 52, .inl (dA 0, 40, .inl (fun _ => 0))), (b + 53, .inl (dA 0, 40, .inl (fun _ => 0))), (b + 54, .inl (dA 0, 500, .inl (fun _ => 0))), (b + 55, .inl (dA 1, 500, .inr (.inl (fun _ => 0)))), (b + 56, .inl (dA 0, 500, .inl (fun _ => 0))), (b + 57, .inl (dA 0, 500, .inl (fun _ => 0))), (b + 58, .inl (dA 0, 500, .inl (fun _ => 0))), (b + 59, .inl (dA 1, 321, .inr (.inl (fun _ => 0)))), (b + 60, .inl (dA 2, 900, .inl (fun _ => 0))), (b + 61, .inl (dA 0, 5, .inl (fun _ => 0))), (b + 62, .inl (dA 1, 500, .inr (.inl (fun _ => 0)))), (b + 63, .inl (dA 0, 500, .inl (fun _ => 0))), (b + 64, .inl (dA 1, 500, .inr (.inl (fun _ => 0))))]
def lay1 (b : Nat) (dA : Nat → ClassId) : va_W := [(b + 0, .inr (10, [.ref (b + 1), .ref (b + 3), .ref (b + 7), .ref (b + 9), .ref (b + 16), .ref (b + 38), .ref (b + 39), .ref (b + 40)])), (b + 1, .inr (6, [.ref (b + 2), .int 0])), (b + 2, .inl (dA 2, 900, .inl (fun _ => 0))), (b + 3, .inr (4, [.ref (b + 1), .ref (b + 6), .ref (b + 4), .int 0, .int (-1), .int 0, .int 0, .int 0, .int 0, .int 0, .int 0, .int 0, .int 0, .int 0, .int 0])), (b + 4, .inr (5, [.ref (b + 5), .int 0, .int 0])), (b + 5, .inl (dA 0, 328, .inl (fun _ => 0))), (b + 6, .inr (8, [.ref (b + 1), .int 0, .int 0, .int 0, .int 0])), (b + 7, .inr (5, [.ref (b + 8), .int 0, .int 0])), (b + 8, .inl (dA 0, 328, .inl (fun _ => 0))), (b + 9, .inl (dA 4, 3, .inr (.inr (.inr (.inr (fun i => some (b + (10 + 2 * i)))))))), (b + 10, .inr (5, [.ref (b + 11), .int 0, .int 0])), (b + 11, .inl (dA 0, 328, .inl (fun _ => 0))), (b + 12, .inr (5, [.ref (b + 13), .int 0, .int 0])), (b + 13, .inl (dA 0, 328, .inl (fun _ => 0))), (b + 14, .inr (5, [.ref (b + 15), .int 0, .int 0])), (b + 15, .inl (dA 0, 328, .inl (fun _ => 0))), (b + 16, .inr (2, [.ref (b + 17), .ref (b + 29), .ref (b + 36), .ref (b + 37), .int 0, .int 0, .int 0, .int 0])), (b + 17, .inr (7, [.ref (b + 18), .ref (b + 26), .ref (b + 27), .ref (b + 28), .int 0, .int 0])), (b + 18, .inl (dA 5, 7, .inr (.inr (.inr (.inr (fun i => some (b + (19 + 1 * i)))))))), (b + 19, .inl (dA 0, 320, .inl (fun _ => 0))), (b + 20, .inl (dA 0, 320, .inl (fun _ => 0))), (b + 21, .inl (dA 0, 320, .inl (fun _ => 0))), (b + 22, .inl (dA 0, 320, .inl (fun _ => 0))), (b + 23, .inl (dA 0, 320, .inl (fun _ => 0))), (b + 24, .inl (dA 0, 320, .inl (fun _ => 0))), (b + 25, .inl (dA 0, 320, .inl (fun _ => 0))), (b + 26, .inl (dA 0, 4, .inl (fun _ => 0))), (b + 27, .inl (dA 0, 32, .inl (fun _ => 0))), (b + 28, .inl (dA 0, 32, .inl (fun _ => 0))), (b + 29, .inr (1, [.ref (b + 30), .ref (b + 31), .ref (b + 32), .ref (b + 33), .ref (b + 34), .ref (b + 35), .int 0])), (b + 30, .inl (dA 0, 220, .inl (fun _ => 0))), (b + 31, .inl (dA 1, 220, .inr (.inl (fun _ => 0)))), (b + 32, .inl (dA 0, 220, .inl (fun _ => 0))), (b + 33, .inl (dA 0, 220, .inl (fun _ => 0))), (b + 34, .inl (dA 0, 220, .inl (fun _ => 0))), (b + 35, .inl (dA 0, 220, .inl (fun _ => 0))), (b + 36, .inl (dA 1, 320, .inr (.inl (fun _ => 0)))), (b + 37, .inl (dA 1, 320, .inr (.inl (fun _ => 0)))), (b + 38, .inr (0, [.ref (b + 16), .ref (b + 17)])), (b + 39, .inr (9, [.ref (b + 16), .ref (b + 17), .ref (b + 29)])), (b + 40, .inr (3, [.ref (b + 29), .ref (b + 41), .ref (b + 42)])), (b + 41, .inl (dA 1, 220, .inr (.inl (fun _ => 0)))), (b + 42, .inl (dA 0, 220, .inl (fun _ => 0))), (b + 43, .inr (11, [.int 0, .ref (b + 44), .ref (b + 45), .ref (b + 46), .ref (b + 47), .ref (b + 48), .ref (b + 49), .int 0, .ref (b + 50), .int 0, .ref (b + 51), .ref (b + 52), .ref (b + 53), .int 0, .ref (b + 54), .ref (b + 55), .ref (b + 56), .ref (b + 57), .ref (b + 58), .int 0, .int 0, .int (-1), .int 0, .int (-1), .ref (b + 59), .ref (b + 60), .int 0, .ref (b + 61), .int 0, .int 0, .int 0, .int 0, .int 0, .int 0, .int (-1), .int 0, .int 0, .ref (b + 62), .ref (b + 63), .ref (b + 64)])), (b + 44, .inl (dA 0, 606, .inl (fun _ => 0))), (b + 45, .inl (dA 0, 606, .inl (fun _ => 0))), (b + 46, .inl (dA 0, 1818, .inl (fun _ => 0))), (b + 47, .inl (dA 3, 3, .inl (fun _ => 0))), (b + 48, .inl (dA 0, 4, .inl (fun _ => 0))), (b + 49, .inl (dA 0, 4, .inl (fun _ => 0))), (b + 50, .inl (dA 0, 3, .inl (fun _ => 0))), (b + 51, .inl (dA 0, 40, .inl (fun _ => 0))), (b + 52, .inl (dA 0, 40, .inl (fun _ => 0))), (b + 53, .inl (dA 0, 40, .inl (fun _ => 0))), (b + 54, .inl (dA 0, 500, .inl (fun _ => 0))), (b + 55, .inl (dA 1, 500, .inr (.inl (fun _ => 0)))), (b + 56, .inl (dA 0, 500, .inl (fun _ => 0))), (b + 57, .inl (dA 0, 500, .inl (fun _ => 0))), (b + 58, .inl (dA 0, 500, .inl (fun _ => 0))), (b + 59, .inl (dA 1, 321, .inr (.inl (fun _ => 0)))), (b + 60, .inl (dA 2, 900, .inl (fun _ => 0))), (b + 61, .inl (dA 0, 5, .inl (fun _ => 0))), (b + 62, .inl (dA 1, 500, .inr (.inl (fun _ => 0)))), (b + 63, .inl (dA 0, 500, .inl (fun _ => 0))), (b + 64, .inl (dA 1, 500, .inr (.inl (fun _ => 0))))]
theorem lay_1 {D : va_G} {b : Nat} {dA : Nat → ClassId} {H : Heap} (hP : va_P D vwCl (lay b dA) H) : va_P D vwCl (lay1 b dA) H := by
  have h9 := P_rep (g := fun i => some (b + (10 + 2 * i))) hP 9 rfl (fun i hi => by
    match i, hi with
    | 0, _ => rfl
    | 1, _ => rfl
    | 2, _ => rfl)
  exact P_rep (g := fun i => some (b + (19 + 1 * i))) h9 18 rfl (fun i hi => by
    show some _ = some _
    exact congrArg some (by omega))
theorem lay_w {D : va_G} {b : Nat} {dA : Nat → ClassId} {H : Heap} {n : Int32} {xs : Nat → Int32} (hP : va_P D vwCl (lay b dA) H) : va_P D vwCl (wsl b dA (iI n) (iA xs) iB (pk 44 45)) H := by
  have h1 := lay_1 hP
  intro i q hq
  have hi : i < 65 := by
    have := (List.getElem?_eq_some_iff.mp hq).1
    simpa [wsl] using this
  rw [wsl_at hi] at hq
  cases hq
  match i, hi with
  | 0, _ => rw [ce_0]; exact h1 0 _ rfl
  | 1, _ => rw [ce_1]; exact h1 1 _ rfl
  | 2, _ => rw [ce_2]; exact h1 2 _ rfl
  | 3, _ => rw [ce_3]; exact h1 3 _ rfl
  | 4, _ => rw [ce_4]; exact h1 4 _ rfl
  | 5, _ => rw [ce_5]; exact h1 5 _ rfl
  | 6, _ => rw [ce_6]; exact h1 6 _ rfl
  | 7, _ => rw [ce_7]; exact h1 7 _ rfl
  | 8, _ => rw [ce_8]; exact h1 8 _ rfl
  | 9, _ => rw [ce_9]; exact h1 9 _ rfl
  | 10, _ => rw [ce_10]; exact h1 10 _ rfl
  | 11, _ => rw [ce_11]; exact h1 11 _ rfl
  | 12, _ => rw [ce_12]; exact h1 12 _ rfl
  | 13, _ => rw [ce_13]; exact h1 13 _ rfl
  | 14, _ => rw [ce_14]; exact h1 14 _ rfl
  | 15, _ => rw [ce_15]; exact h1 15 _ rfl
  | 16, _ => rw [ce_16]; exact h1 16 _ rfl
  | 17, _ => rw [ce_17]; exact h1 17 _ rfl
  | 18, _ => rw [ce_18]; exact h1 18 _ rfl
  | 19, _ => rw [ce_19]; exact h1 19 _ rfl
  | 20, _ => rw [ce_20]; exact h1 20 _ rfl
  | 21, _ => rw [ce_21]; exact h1 21 _ rfl
  | 22, _ => rw [ce_22]; exact h1 22 _ rfl
  | 23, _ => rw [ce_23]; exact h1 23 _ rfl
  | 24, _ => rw [ce_24]; exact h1 24 _ rfl
  | 25, _ => rw [ce_25]; exact h1 25 _ rfl
  | 26, _ => rw [ce_26]; exact h1 26 _ rfl
  | 27, _ => rw [ce_27]; exact h1 27 _ rfl
  | 28, _ => rw [ce_28]; exact h1 28 _ rfl
  | 29, _ => rw [ce_29]; exact h1 29 _ rfl
  | 30, _ => rw [ce_30]; exact h1 30 _ rfl
  | 31, _ => rw [ce_31]; exact h1 31 _ rfl
  | 32, _ => rw [ce_32]; exact h1 32 _ rfl
  | 33, _ => rw [ce_33]; exact h1 33 _ rfl
  | 34, _ => rw [ce_34]; exact h1 34 _ rfl
  | 35, _ => rw [ce_35]; exact h1 35 _ rfl
  | 36, _ => rw [ce_36]; exact h1 36 _ rfl
  | 37, _ => rw [ce_37]; exact h1 37 _ rfl
  | 38, _ => rw [ce_38]; exact h1 38 _ rfl
  | 39, _ => rw [ce_39]; exact h1 39 _ rfl
  | 40, _ => rw [ce_40]; exact h1 40 _ rfl
  | 41, _ => rw [ce_41]; exact h1 41 _ rfl
  | 42, _ => rw [ce_42]; exact h1 42 _ rfl
  | 43, _ => rw [ce_43]; exact h1 43 _ rfl
  | 44, _ => rw [ce_44]; exact h1 44 _ rfl
  | 45, _ => rw [ce_45]; exact h1 45 _ rfl
  | 46, _ => rw [ce_46]; exact h1 46 _ rfl
  | 47, _ => rw [ce_47]; exact h1 47 _ rfl
  | 48, _ => rw [ce_48]; exact h1 48 _ rfl
  | 49, _ => rw [ce_49]; exact h1 49 _ rfl
  | 50, _ => rw [ce_50]; exact h1 50 _ rfl
  | 51, _ => rw [ce_51]; exact h1 51 _ rfl
  | 52, _ => rw [ce_52]; exact h1 52 _ rfl
  | 53, _ => rw [ce_53]; exact h1 53 _ rfl
  | 54, _ => rw [ce_54]; exact h1 54 _ rfl
  | 55, _ => rw [ce_55]; exact h1 55 _ rfl
  | 56, _ => rw [ce_56]; exact h1 56 _ rfl
  | 57, _ => rw [ce_57]; exact h1 57 _ rfl
  | 58, _ => rw [ce_58]; exact h1 58 _ rfl
  | 59, _ => rw [ce_59]; exact h1 59 _ rfl
  | 60, _ => rw [ce_60]; exact h1 60 _ rfl
  | 61, _ => rw [ce_61]; exact h1 61 _ rfl
  | 62, _ => rw [ce_62]; exact h1 62 _ rfl
  | 63, _ => rw [ce_63]; exact h1 63 _ rfl
  | 64, _ => rw [ce_64]; exact h1 64 _ rfl
  | i + 65, hi => exact absurd hi (by omega)
