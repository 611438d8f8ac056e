/-! contracts: terms (written by wip/whole/gc3.py) -/
theorem rul_sh {r : Nat} (h : r < 7) : ash (19 + 1 * (nI r).toNatClampNeg) = some (0, 320) := by
  rw [cl (by omega)]
  match r, h with
  | 0, _ => rfl
  | 1, _ => rfl
  | 2, _ => rfl
  | 3, _ => rfl
  | 4, _ => rfl
  | 5, _ => rfl
  | 6, _ => rfl
/-- up to where a tier takes of a balance -/
def tpo (A : mI) (t : Nat) (b : Int64) : Int64 := if A 26 t = -1 then b else if (A 26 t).toInt64 < b then (A 26 t).toInt64 else b
def tpb (A : mI) (t : Nat) (b : Int64) : Int64 := if t = 0 then 0 else tpo A (t - 1) b
def ptO (A : mI) (t : Nat) (b : Int64) : Int64 := if tpo A t b - tpb A t b < 0 then 0 else tpo A t b - tpb A t b
/-- what a tier takes of a balance, up to its top: as credit() has it -/
def tpc (A : mI) (t : Nat) (b : Int64) : Int64 := if A 26 t = -1 then b else if b < (A 26 t).toInt64 then b else (A 26 t).toInt64
/-- credit(): k tiers left, from t on -/
def crd (A : mI) (d : Nat) (b : Int64) : Nat → Nat → Int64 → Int64 → Int64
  | 0, _, s, _ => s
  | k + 1, t, s, z => if z < b then crd A d b k (t + 1) (s + (tpc A t b - z) * (A (19 + t) d).toInt64) (tpc A t b) else s
def dbt (A : mI) (l : Int32) (d : Nat) (b : Int64) : Int64 := if 0 ≤ b then 0 else (if -b < l.toInt64 then -b else l.toInt64) * (A 23 d).toInt64 + (-b - (if -b < l.toInt64 then -b else l.toInt64)) * (A 24 d).toInt64
def nea (s : Int64) : Int64 := if s < 0 then -(((if 0 < s then s else -s) + 1800000) / 3600000) else ((if 0 < s then s else -s) + 1800000) / 3600000
theorem c_rule {J : mJ} (X : mRules J) {I A : mI} {B : mB} {w f : Nat} {R : mR} {x z : Int32} {r d : Nat} (ex : x = nI r) (ez : z = nI d) (hr : r < 7) (hd : d < 320) (h : R (some (.int (A (19 + r) d))) I A B (pk w f)) : J n_Terms_rule 0 [.ref 17, .int x, .int z] [] I A B (pk w f) R := by
  subst ex; subst ez
  refine X 200 _ _ _ _ _ _ _ _ _ ?_
  refine And.intro (fun q1 => ?_) (fun q1 => ?_)
  · exact absurd q1 (nI_pos (by omega)) --end
  · refine And.intro (fun q2 => ?_) (fun q2 => ?_)
    · exact absurd q2 (nI_ge (b := 7) (by omega) (by omega)) --end
    · refine And.intro (fun q3 => ?_) (fun q3 => ?_)
      · exact absurd q3 (nI_pos (by omega)) --end
      · refine And.intro (fun q4 => ?_) (fun q4 => ?_)
        · refine Exists.intro _ (Exists.intro _ (Exists.intro _ (And.intro rfl (And.intro (vin (by omega) (by omega)) ?_))))
          refine Exists.intro _ (And.intro (rul_sh hr) (And.intro (vin (by omega) (by omega)) ?_))
          rw [cl (show r < 2 ^ 31 by omega), cl (show d < 2 ^ 31 by omega), Nat.one_mul]
          exact h
        · exact absurd (nI_lt (b := 320) (by omega) (by omega)) q4 --end
theorem c_standing {J : mJ} (X : mRules J) {I A : mI} {B : mB} {w f : Nat} {R : mR} {x : Int32} {d : Nat} (ex : x = nI d) (hd : d < 320) (h : R (some (.long (B 36 d))) I A B (pk w f)) : J n_Ledger_standing 0 [.ref 16, .int x] [] I A B (pk w f) R := by
  subst ex
  refine X 200 _ _ _ _ _ _ _ _ _ ?_
  refine And.intro (fun q1 => ?_) (fun q1 => ?_)
  · exact absurd q1 (nI_pos (by omega)) --end
  · refine And.intro (fun q2 => ?_) (fun q2 => ?_)
    · exact absurd q2 (nI_ge (b := 320) (by omega) (by omega)) --end
    · refine Exists.intro _ (And.intro rfl (And.intro (vin (by omega) (by omega)) ?_))
      rw [cl (show d < 2 ^ 31 by omega)]
      exact h
theorem c_topOf {J : mJ} (X : mRules J) {I A : mI} {B : mB} {w f : Nat} {R : mR} {x : Int32} {t : Nat} {b : Int64} (ex : x = nI t) (ht : t < 4) (h : R (some (.long (tpo A t b))) I A B (pk w f)) : J n_Terms_topOf 0 [.ref 17, .int x, .long b, .float 0] [] I A B (pk w f) R := by
  subst ex
  refine X 200 _ _ _ _ _ _ _ _ _ ?_
  refine And.intro (fun q1 => ?_) (fun q1 => ?_)
  · exact absurd q1 (nI_pos (by omega)) --end
  · refine And.intro (fun q2 => ?_) (fun q2 => ?_)
    · exact absurd q2 (nI_ge (b := 4) (by omega) (by omega)) --end
    · refine Exists.intro _ (And.intro rfl (And.intro (vin (by omega) (by omega)) ?_))
      refine And.intro (fun q3 => ?_) (fun q3 => ?_)
      · refine Exists.intro _ (And.intro rfl (And.intro (vin (by omega) (by omega)) ?_))
        rw [cl (show t < 2 ^ 31 by omega)] at q3
        unfold tpo at h
        first | (rw [if_neg q3] at h; rw [cl (show t < 2 ^ 31 by omega)]; exact h) | (rw [if_pos q3] at h; exact h)
      · rw [cl (show t < 2 ^ 31 by omega)] at q3
        unfold tpo at h
        first | (rw [if_neg q3] at h; rw [cl (show t < 2 ^ 31 by omega)]; exact h) | (rw [if_pos q3] at h; exact h)
theorem c_partOf {J : mJ} (X : mRules J) {I A : mI} {B : mB} {w f : Nat} {R : mR} {x : Int32} {t : Nat} {b : Int64} (ex : x = nI t) (ht : t < 4) (h : R (some (.long (ptO A t b))) I A B (pk w f)) : J n_Terms_partOf 0 [.ref 17, .int x, .long b, .float 0, .float 0, .float 0] [] I A B (pk w f) R := by
  subst ex
  refine X 200 _ _ _ _ _ _ _ _ _ ?_
  refine And.intro (fun q1 => ?_) (fun q1 => ?_)
  · have ht0 : t ≠ 0 := fun e => q1 (by rw [e]; rfl)
    refine c_topOf X (t := t - 1) (by rw [show t = t - 1 + 1 by omega]; exact nI_pred _) (by omega) ?_
    refine c_topOf X (t := t) rfl ht ?_
    unfold ptO tpb at h
    first | (rw [if_neg ht0] at h; exact h) | (rw [if_pos ht0] at h; exact h)
  · have ht0 : t = 0 := (nI_eq (by omega) (by omega)).mp (q1.trans nI_0.symm)
    refine c_topOf X (t := t) rfl ht ?_
    unfold ptO tpb at h
    first | (rw [if_neg ht0] at h; exact h) | (rw [if_pos ht0] at h; exact h)
theorem c_partAboveAll {J : mJ} (X : mRules J) {I A : mI} {B : mB} {w f : Nat} {R : mR} {b : Int64} {nt : Nat} (hnt : nt ≤ 4) (hI : I 17 4 = nI nt) (h : R (some (.long (if b - (if nt = 0 then 0 else tpo A (nt - 1) b) < 0 then 0 else b - (if nt = 0 then 0 else tpo A (nt - 1) b)))) I A B (pk w f)) : J n_Terms_partAboveAll 0 [.ref 17, .long b, .float 0, .float 0, .float 0] [] I A B (pk w f) R := by
  refine X 200 _ _ _ _ _ _ _ _ _ ?_
  refine And.intro (fun q1 => ?_) (fun q1 => ?_)
  · rw [hI] at q1
    have ht0 : nt ≠ 0 := fun e => q1 (by rw [e]; rfl)
    refine c_topOf X (t := nt - 1) (by rw [hI, show nt = nt - 1 + 1 by omega]; exact nI_pred _) (by omega) ?_
    first | (rw [if_neg ht0] at h; exact h) | (rw [if_pos ht0] at h; exact h)
  · rw [hI] at q1
    have ht0 : nt = 0 := (nI_eq (by omega) (by omega)).mp (q1.trans nI_0.symm)
    first | (rw [if_neg ht0] at h; exact h) | (rw [if_pos ht0] at h; exact h)
theorem c_debtBy {J : mJ} (X : mRules J) {I A : mI} {B : mB} {w f : Nat} {R : mR} {x l : Int32} {d : Nat} {b : Int64} (ex : x = nI d) (hd : d < 320) (h : R (some (.long (dbt A l d b))) I A B (pk w f)) : J n_Terms_debtBy 0 [.ref 17, .int l, .int x, .long b, .float 0, .float 0, .float 0, .float 0, .float 0] [] I A B (pk w f) R := by
  subst ex
  refine X 200 _ _ _ _ _ _ _ _ _ ?_
  refine And.intro (fun q1 => ?_) (fun q1 => ?_)
  · unfold dbt at h
    first | (rw [if_pos q1] at h; exact h) | (rw [if_neg q1, if_neg (Int64.not_lt.mpr q4)] at h; rw [cl (show d < 2 ^ 31 by omega)]; exact h) | (rw [if_neg q1, if_pos (Int64.not_le.mp q4)] at h; rw [cl (show d < 2 ^ 31 by omega)]; exact h)
  · refine And.intro (fun q2 => ?_) (fun q2 => ?_)
    · exact absurd q2 (nI_pos (by omega)) --end
    · refine And.intro (fun q3 => ?_) (fun q3 => ?_)
      · refine And.intro (fun q4 => ?_) (fun q4 => ?_)
        · refine Exists.intro _ (Exists.intro _ (Exists.intro _ (And.intro rfl (And.intro (vlit rfl) ?_))))
          refine Exists.intro _ (And.intro rfl (And.intro (vin (by omega) (by omega)) ?_))
          refine Exists.intro _ (Exists.intro _ (Exists.intro _ (And.intro rfl (And.intro (vlit rfl) ?_))))
          refine Exists.intro _ (And.intro rfl (And.intro (vin (by omega) (by omega)) ?_))
          unfold dbt at h
          first | (rw [if_pos q1] at h; exact h) | (rw [if_neg q1, if_neg (Int64.not_lt.mpr q4)] at h; rw [cl (show d < 2 ^ 31 by omega)]; exact h) | (rw [if_neg q1, if_pos (Int64.not_le.mp q4)] at h; rw [cl (show d < 2 ^ 31 by omega)]; exact h)
        · refine Exists.intro _ (Exists.intro _ (Exists.intro _ (And.intro rfl (And.intro (vlit rfl) ?_))))
          refine Exists.intro _ (And.intro rfl (And.intro (vin (by omega) (by omega)) ?_))
          refine Exists.intro _ (Exists.intro _ (Exists.intro _ (And.intro rfl (And.intro (vlit rfl) ?_))))
          refine Exists.intro _ (And.intro rfl (And.intro (vin (by omega) (by omega)) ?_))
          unfold dbt at h
          first | (rw [if_pos q1] at h; exact h) | (rw [if_neg q1, if_neg (Int64.not_lt.mpr q4)] at h; rw [cl (show d < 2 ^ 31 by omega)]; exact h) | (rw [if_neg q1, if_pos (Int64.not_le.mp q4)] at h; rw [cl (show d < 2 ^ 31 by omega)]; exact h)
      · exact absurd (nI_lt (b := 320) (by omega) (by omega)) q3 --end
theorem c_compDay {J : mJ} (X : mRules J) {I A : mI} {B : mB} {w f : Nat} {R : mR} {x : Int32} (h : R (some (.int (I 16 4 * I 16 6 * (x / I 16 6 + 1)))) I A B (pk w f)) (hc : ¬ I 16 6 < 1) : J n_Ledger_compoundingDay 0 [.ref 16, .int x] [] I A B (pk w f) R := by
  refine X 200 _ _ _ _ _ _ _ _ _ ?_
  refine And.intro (fun q1 => ?_) (fun q1 => ?_)
  · refine And.intro (fun e => hc (by rw [e]; decide)) ?_
    exact h
  · exact absurd (Int32.not_le.mp q1) hc --end
theorem c_nearest {J : mJ} (X : mRules J) {I A : mI} {B : mB} {w f : Nat} {R : mR} {s : Int64} (h : R (some (.long (nea s))) I A B (pk w f)) : J n_Ledger_nearest 0 [.long s, .float 0, .float 0, .float 0] [] I A B (pk w f) R := by
  refine X 200 _ _ _ _ _ _ _ _ _ ?_
  refine And.intro (by decide) ?_
  refine And.intro (fun q1 => ?_) (fun q1 => ?_)
  · unfold nea at h
    first | (rw [if_neg (Int64.not_lt.mpr q1)] at h; exact h) | (rw [if_pos (Int64.not_le.mp q1)] at h; exact h)
  · unfold nea at h
    first | (rw [if_neg (Int64.not_lt.mpr q1)] at h; exact h) | (rw [if_pos (Int64.not_le.mp q1)] at h; exact h)
