/-! the machine's own judgement obeys the small machine: part 6, the library's own, texts, switches (written by wip/whole/gen6.py) -/
theorem ac_w : Cond.native arraycopyName ∈ mT ∧ Cond.static arraycopyName ∈ mT ∧ Cond.initialized "java/lang/System" ∈ mT := ⟨inT_mem (h := 3044) (by decide +kernel), inT_mem (h := 3043) (by decide +kernel), inT_mem (h := 1017) (by decide +kernel)⟩
theorem mm_i : Cond.initialized "java/lang/Math" ∈ mT := inT_mem (h := 1019) (by decide +kernel)
theorem mm_9002 : Cond.static Lib.Math.max.name ∈ mT ∧ Cond.code Lib.Math.max.name Lib.Math.max.code 2 (some .int) ∈ mT ∧ mMN 9002 = Lib.Math.max.name := ⟨inT_mem (h := 3093) (by decide +kernel), inT_mem (h := 3094) (by decide +kernel), by decide +kernel⟩
theorem mm_9003 : Cond.static Lib.Math.min.name ∈ mT ∧ Cond.code Lib.Math.min.name Lib.Math.min.code 2 (some .int) ∈ mT ∧ mMN 9003 = Lib.Math.min.name := ⟨inT_mem (h := 3090) (by decide +kernel), inT_mem (h := 3091) (by decide +kernel), by decide +kernel⟩
theorem mm_9004 : Cond.static Lib.MathLoose.max_long.x ∈ mT ∧ Cond.code Lib.MathLoose.max_long.x Lib.MathLoose.max_long.code 4 (some .long) ∈ mT ∧ mMN 9004 = Lib.MathLoose.max_long.x := ⟨inT_mem (h := 4079) (by decide +kernel), inT_mem (h := 4080) (by decide +kernel), by decide +kernel⟩
theorem mm_9005 : Cond.static Lib.MathLoose.min_long.x ∈ mT ∧ Cond.code Lib.MathLoose.min_long.x Lib.MathLoose.min_long.code 4 (some .long) ∈ mT ∧ mMN 9005 = Lib.MathLoose.min_long.x := ⟨inT_mem (h := 4076) (by decide +kernel), inT_mem (h := 4077) (by decide +kernel), by decide +kernel⟩
theorem mm_9006 : Cond.static Lib.MathLoose.abs_long.x ∈ mT ∧ Cond.code Lib.MathLoose.abs_long.x Lib.MathLoose.abs_long.code 2 (some .long) ∈ mT ∧ mMN 9006 = Lib.MathLoose.abs_long.x := ⟨inT_mem (h := 3153) (by decide +kernel), inT_mem (h := 3154) (by decide +kernel), by decide +kernel⟩
section CAL3
variable {l : Launch} {b : Nat} {tS : Nat → Value} {D : va_G} {dA : Nat → ClassId} {i9 : Int32} {a9 : Nat → Int32} {y pc : Nat} {L S : List Value} {I A : mI} {B : mB} {P : mP} {R : mR}
theorem catS_sum (hc : ∀ n, (tS n).category = 1) (h : catS S ≤ 8) : ((S.map (tr b tS)).map fun v => v.category).sum ≤ 8 := by
  rw [List.map_map, show ((fun v => v.category) ∘ tr b tS) = fun v => v.category from funext (fun v => tr_cat hc v), ← catS_eq]
  exact h
theorem ms_copyA {n : Nat} {sp dp z : Int32} {q d n0 n1 : Nat} (hd : decode (mCd y) pc = .ok (.invokestatic n, 3)) (hl : Cond.methodLink (mNm y).cls n arraycopyName ∈ mT) (hf : 1 ≤ mRf y) (hr : 60 ≤ mRl y) (hcat : catS S ≤ 8) (ha : ash q = some (0, n0)) (hb : ash d = some (0, n1)) (h1 : ¬ sp < 0) (h2 : ¬ dp < 0) (h3 : ¬ z < 0) (h4 : sp.toNatClampNeg + z.toNatClampNeg ≤ n0) (h5 : dp.toNatClampNeg + z.toNatClampNeg ≤ n1) (h : mj l b tS D dA i9 a9 y (pc + 3) L S I (up1 A d (va_cpy (A q) (A d) sp.toNatClampNeg dp.toNatClampNeg z.toNatClampNeg)) B P R) : mj l b tS D dA i9 a9 y pc L (.int z :: .int dp :: .ref d :: .int sp :: .ref q :: S) I A B P R := by
  intro p e RM s m ar below meth c H locs cells slots Q ls hy cx sx wl lo hll rk
  have hsum := catS_sum (b := b) (out_cat sx.2.2) hcat
  have hw : nativeFrameWords "java/lang/System" "arraycopy" 5 = 7 := by decide
  refine va_copyi cx.1 cx.2.1 (cx.2.2.1.trans (lo.1.trans hll).symm) cx.2.2.2.1 (cx.2.2.2.2.1 _ hl) (cx.2.2.2.2.1 _ ac_w.1) (cx.2.2.2.2.1 _ ac_w.2.1) (cx.2.2.2.2.1 _ ac_w.2.2) sx.2.1 wl.1 (Wl_D wl) wl.2.1 q d 0 0 (by rw [wsl_at (ash_lt ha), ce_arr ha]; rfl) (by rw [wsl_at (ash_lt hb), ce_arr hb]; rfl) rfl rfl rfl h1 h2 h3 h4 h5 (fun i _ => rfl) (by have := cx.2.2.2.2.2.1; omega) (by have := cx.2.2.2.2.2.2.1; omega) hd (fun H1 locs1 hP1 hD1 hS1 => ?_)
  rw [wsl_A (A2 := up1 A d (va_cpy (A q) (A d) sp.toNatClampNeg dp.toNatClampNeg z.toNatClampNeg)) hb (by simp) up1_self (fun z hz => up1_row hz)] at hP1
  exact h p e RM s m ar below meth c H1 locs1 cells slots Q ls hy cx sx ⟨hP1, hS1, wl.2.2.1, by rw [up1_row (n900a hb)]; exact wl.2.2.2⟩ lo hll rk
theorem ms_copyB {n : Nat} {sp dp z : Int32} {q d n0 n1 : Nat} (hd : decode (mCd y) pc = .ok (.invokestatic n, 3)) (hl : Cond.methodLink (mNm y).cls n arraycopyName ∈ mT) (hf : 1 ≤ mRf y) (hr : 60 ≤ mRl y) (hcat : catS S ≤ 8) (ha : ash q = some (1, n0)) (hb : ash d = some (1, n1)) (h1 : ¬ sp < 0) (h2 : ¬ dp < 0) (h3 : ¬ z < 0) (h4 : sp.toNatClampNeg + z.toNatClampNeg ≤ n0) (h5 : dp.toNatClampNeg + z.toNatClampNeg ≤ n1) (h : mj l b tS D dA i9 a9 y (pc + 3) L S I A (up1 B d (va_cpy (B q) (B d) sp.toNatClampNeg dp.toNatClampNeg z.toNatClampNeg)) P R) : mj l b tS D dA i9 a9 y pc L (.int z :: .int dp :: .ref d :: .int sp :: .ref q :: S) I A B P R := by
  intro p e RM s m ar below meth c H locs cells slots Q ls hy cx sx wl lo hll rk
  have hsum := catS_sum (b := b) (out_cat sx.2.2) hcat
  have hw : nativeFrameWords "java/lang/System" "arraycopy" 5 = 7 := by decide
  refine va_copyl cx.1 cx.2.1 (cx.2.2.1.trans (lo.1.trans hll).symm) cx.2.2.2.1 (cx.2.2.2.2.1 _ hl) (cx.2.2.2.2.1 _ ac_w.1) (cx.2.2.2.2.1 _ ac_w.2.1) (cx.2.2.2.2.1 _ ac_w.2.2) sx.2.1 wl.1 (Wl_D wl) wl.2.1 q d 1 1 (by rw [wsl_at (ash_lt ha), ce_arr ha]; rfl) (by rw [wsl_at (ash_lt hb), ce_arr hb]; rfl) rfl rfl rfl h1 h2 h3 h4 h5 (fun i _ => rfl) (by have := cx.2.2.2.2.2.1; omega) (by have := cx.2.2.2.2.2.2.1; omega) hd (fun H1 locs1 hP1 hD1 hS1 => ?_)
  rw [wsl_B (B2 := up1 B d (va_cpy (B q) (B d) sp.toNatClampNeg dp.toNatClampNeg z.toNatClampNeg)) hb (by simp) up1_self (fun z hz => up1_row hz)] at hP1
  exact h p e RM s m ar below meth c H1 locs1 cells slots Q ls hy cx sx ⟨hP1, hS1, wl.2.2.1, wl.2.2.2⟩ lo hll rk
theorem ms_m9002 {n : Nat} {x z : Int32} (hd : decode (mCd y) pc = .ok (.invokestatic n, 3)) (hl : Cond.methodLink (mNm y).cls n (mMN 9002) ∈ mT) (hf : 1 ≤ mRf y) (hr : 60 ≤ mRl y) (hcat : catS S ≤ 8) (h : mj l b tS D dA i9 a9 y (pc + 3) L (.int (if x < z then z else x) :: S) I A B P R) : mj l b tS D dA i9 a9 y pc L (.int z :: .int x :: S) I A B P R := by
  intro p e RM s m ar below meth c H locs cells slots Q ls hy cx sx wl lo hll rk
  have hsum := catS_sum (b := b) (out_cat sx.2.2) hcat
  rw [mm_9002.2.2] at hl
  exact va_mmax cx.1 cx.2.1 (cx.2.2.1.trans (lo.1.trans hll).symm) cx.2.2.2.1 (cx.2.2.2.2.1 _ hl) (cx.2.2.2.2.1 _ mm_9002.1) (cx.2.2.2.2.1 _ mm_i) (cx.2.2.2.2.1 _ mm_9002.2.1) (by have := cx.2.2.2.2.2.1; omega) (by have := cx.2.2.2.2.2.2.1; omega) cx.2.2.2.2.2.2.2.1 cx.2.2.2.2.2.2.2.2 hd (h p e RM s m ar below meth c H locs cells slots Q ls hy cx sx wl lo hll rk)
theorem ms_m9003 {n : Nat} {x z : Int32} (hd : decode (mCd y) pc = .ok (.invokestatic n, 3)) (hl : Cond.methodLink (mNm y).cls n (mMN 9003) ∈ mT) (hf : 1 ≤ mRf y) (hr : 60 ≤ mRl y) (hcat : catS S ≤ 8) (h : mj l b tS D dA i9 a9 y (pc + 3) L (.int (if z < x then z else x) :: S) I A B P R) : mj l b tS D dA i9 a9 y pc L (.int z :: .int x :: S) I A B P R := by
  intro p e RM s m ar below meth c H locs cells slots Q ls hy cx sx wl lo hll rk
  have hsum := catS_sum (b := b) (out_cat sx.2.2) hcat
  rw [mm_9003.2.2] at hl
  exact va_mmin cx.1 cx.2.1 (cx.2.2.1.trans (lo.1.trans hll).symm) cx.2.2.2.1 (cx.2.2.2.2.1 _ hl) (cx.2.2.2.2.1 _ mm_9003.1) (cx.2.2.2.2.1 _ mm_i) (cx.2.2.2.2.1 _ mm_9003.2.1) (by have := cx.2.2.2.2.2.1; omega) (by have := cx.2.2.2.2.2.2.1; omega) cx.2.2.2.2.2.2.2.1 cx.2.2.2.2.2.2.2.2 hd (h p e RM s m ar below meth c H locs cells slots Q ls hy cx sx wl lo hll rk)
theorem ms_m9004 {n : Nat} {x z : Int64} (hd : decode (mCd y) pc = .ok (.invokestatic n, 3)) (hl : Cond.methodLink (mNm y).cls n (mMN 9004) ∈ mT) (hf : 1 ≤ mRf y) (hr : 60 ≤ mRl y) (hcat : catS S ≤ 8) (h : mj l b tS D dA i9 a9 y (pc + 3) L (.long (if z < x then x else z) :: S) I A B P R) : mj l b tS D dA i9 a9 y pc L (.long z :: .long x :: S) I A B P R := by
  intro p e RM s m ar below meth c H locs cells slots Q ls hy cx sx wl lo hll rk
  have hsum := catS_sum (b := b) (out_cat sx.2.2) hcat
  rw [mm_9004.2.2] at hl
  exact va_mmax_long cx.1 cx.2.1 (cx.2.2.1.trans (lo.1.trans hll).symm) cx.2.2.2.1 (cx.2.2.2.2.1 _ hl) (cx.2.2.2.2.1 _ mm_9004.1) (cx.2.2.2.2.1 _ mm_i) (cx.2.2.2.2.1 _ mm_9004.2.1) (by have := cx.2.2.2.2.2.1; omega) (by have := cx.2.2.2.2.2.2.1; omega) cx.2.2.2.2.2.2.2.1 cx.2.2.2.2.2.2.2.2 hd (h p e RM s m ar below meth c H locs cells slots Q ls hy cx sx wl lo hll rk)
theorem ms_m9005 {n : Nat} {x z : Int64} (hd : decode (mCd y) pc = .ok (.invokestatic n, 3)) (hl : Cond.methodLink (mNm y).cls n (mMN 9005) ∈ mT) (hf : 1 ≤ mRf y) (hr : 60 ≤ mRl y) (hcat : catS S ≤ 8) (h : mj l b tS D dA i9 a9 y (pc + 3) L (.long (if z < x then z else x) :: S) I A B P R) : mj l b tS D dA i9 a9 y pc L (.long z :: .long x :: S) I A B P R := by
  intro p e RM s m ar below meth c H locs cells slots Q ls hy cx sx wl lo hll rk
  have hsum := catS_sum (b := b) (out_cat sx.2.2) hcat
  rw [mm_9005.2.2] at hl
  exact va_mmin_long cx.1 cx.2.1 (cx.2.2.1.trans (lo.1.trans hll).symm) cx.2.2.2.1 (cx.2.2.2.2.1 _ hl) (cx.2.2.2.2.1 _ mm_9005.1) (cx.2.2.2.2.1 _ mm_i) (cx.2.2.2.2.1 _ mm_9005.2.1) (by have := cx.2.2.2.2.2.1; omega) (by have := cx.2.2.2.2.2.2.1; omega) cx.2.2.2.2.2.2.2.1 cx.2.2.2.2.2.2.2.2 hd (h p e RM s m ar below meth c H locs cells slots Q ls hy cx sx wl lo hll rk)
theorem ms_m9006 {n : Nat} {x : Int64} (hd : decode (mCd y) pc = .ok (.invokestatic n, 3)) (hl : Cond.methodLink (mNm y).cls n (mMN 9006) ∈ mT) (hf : 1 ≤ mRf y) (hr : 60 ≤ mRl y) (hcat : catS S ≤ 8) (h : mj l b tS D dA i9 a9 y (pc + 3) L (.long (if 0 < x then x else -x) :: S) I A B P R) : mj l b tS D dA i9 a9 y pc L (.long x :: S) I A B P R := by
  intro p e RM s m ar below meth c H locs cells slots Q ls hy cx sx wl lo hll rk
  have hsum := catS_sum (b := b) (out_cat sx.2.2) hcat
  rw [mm_9006.2.2] at hl
  exact va_mabs_long cx.1 cx.2.1 (cx.2.2.1.trans (lo.1.trans hll).symm) cx.2.2.2.1 (cx.2.2.2.2.1 _ hl) (cx.2.2.2.2.1 _ mm_9006.1) (cx.2.2.2.2.1 _ mm_i) (cx.2.2.2.2.1 _ mm_9006.2.1) (by have := cx.2.2.2.2.2.1; omega) (by have := cx.2.2.2.2.2.2.1; omega) cx.2.2.2.2.2.2.2.1 cx.2.2.2.2.2.2.2.2 hd (h p e RM s m ar below meth c H locs cells slots Q ls hy cx sx wl lo hll rk)
theorem ms_ldcS {n : Nat} {q : Nat × Nat × Nat} (hd : decode (mCd y) pc = .ok (.ldc n, 2)) (hq : q ∈ mST) (ho : nth "" mOW q.1 = (mNm y).cls) (hn : q.2.1 = n) (hi : q.2.2 < 14) (h : mj l b tS D dA i9 a9 y (pc + 2) L (.retAddr (1 + q.2.2) :: S) I A B P R) : mj l b tS D dA i9 a9 y pc L S I A B P R := by
  intro p e RM s m ar below meth c H locs cells slots Q ls hy cx sx wl lo hll rk
  obtain ⟨adK, adV, k1, k2, k3⟩ := sx.2.2.2.2.1
  obtain ⟨t, ht⟩ := k3 q hq
  rw [ho] at ht
  have h1 := h p e RM s m ar below meth c H locs cells slots Q ls hy cx sx wl lo hll rk
  rw [List.map_cons, show tr b tS (.retAddr (1 + q.2.2)) = .ref (adK q.2.2) from (k1 _ hi).1] at h1
  rw [hn] at ht
  exact va_ldcS cx.1 cx.2.1 cx.2.2.2.1 ht hd h1
theorem ms_ldcwS {n : Nat} {q : Nat × Nat × Nat} (hd : decode (mCd y) pc = .ok (.ldc_w n, 3)) (hq : q ∈ mST) (ho : nth "" mOW q.1 = (mNm y).cls) (hn : q.2.1 = n) (hi : q.2.2 < 14) (h : mj l b tS D dA i9 a9 y (pc + 3) L (.retAddr (1 + q.2.2) :: S) I A B P R) : mj l b tS D dA i9 a9 y pc L S I A B P R := by
  intro p e RM s m ar below meth c H locs cells slots Q ls hy cx sx wl lo hll rk
  obtain ⟨adK, adV, k1, k2, k3⟩ := sx.2.2.2.2.1
  obtain ⟨t, ht⟩ := k3 q hq
  rw [ho] at ht
  have h1 := h p e RM s m ar below meth c H locs cells slots Q ls hy cx sx wl lo hll rk
  rw [List.map_cons, show tr b tS (.retAddr (1 + q.2.2)) = .ref (adK q.2.2) from (k1 _ hi).1] at h1
  rw [hn] at ht
  intro T hT X
  obtain ⟨t2, a2, b2⟩ := h1 T hT X
  exact ⟨t2, X.ldcStringW cx.1 cx.2.2.2.1 (text := t) (a := adK q.2.2) ht.1 ht.2 (g := F0 m pc ls (S.map (tr b tS))) rfl (by rw [cx.2.1]; exact hd) t2 a2, b2⟩
theorem ms_getV {n i : Nat} (hd : decode (mCd y) pc = .ok (.getfield n, 3)) (hl : Cond.fieldLink (mNm y).cls n "java/lang/String" "value" "[B" ∈ mT) (hi : i < 14) (h : mj l b tS D dA i9 a9 y (pc + 3) L (.retAddr (101 + i) :: S) I A B P R) : mj l b tS D dA i9 a9 y pc L (.retAddr (1 + i) :: S) I A B P R := by
  intro p e RM s m ar below meth c H locs cells slots Q ls hy cx sx wl lo hll rk
  obtain ⟨adK, adV, k1, k2, k3⟩ := sx.2.2.2.2.1
  have h1 := h p e RM s m ar below meth c H locs cells slots Q ls hy cx sx wl lo hll rk
  rw [List.map_cons, show tr b tS (.retAddr (101 + i)) = .ref (adV i) from (k1 _ hi).2] at h1
  rw [List.map_cons, show tr b tS (.retAddr (1 + i)) = .ref (adK i) from (k1 _ hi).1]
  exact vk_getf cx.1 cx.2.1 (k2.1 i hi).2.2.1 wl.2.1 cx.2.2.2.1 (cx.2.2.2.2.1 _ hl) (fun x q => q) hd h1
theorem ms_getC {n i : Nat} (hd : decode (mCd y) pc = .ok (.getfield n, 3)) (hl : Cond.fieldLink (mNm y).cls n "java/lang/String" "coder" "B" ∈ mT) (hi : i < 14) (h : mj l b tS D dA i9 a9 y (pc + 3) L (.int 0 :: S) I A B P R) : mj l b tS D dA i9 a9 y pc L (.retAddr (1 + i) :: S) I A B P R := by
  intro p e RM s m ar below meth c H locs cells slots Q ls hy cx sx wl lo hll rk
  obtain ⟨adK, adV, k1, k2, k3⟩ := sx.2.2.2.2.1
  rw [List.map_cons, show tr b tS (.retAddr (1 + i)) = .ref (adK i) from (k1 _ hi).1]
  exact vk_getf cx.1 cx.2.1 (k2.1 i hi).2.1 wl.2.1 cx.2.2.2.1 (cx.2.2.2.2.1 _ hl) (fun x q => q) hd (h p e RM s m ar below meth c H locs cells slots Q ls hy cx sx wl lo hll rk)
theorem txl {i : Nat} (h : i < 14) : ((List.range 14).map (fun i => (tx i).length)).getD i 0 = (tx i).length ∧ ((List.range 14).map tx).getD i [] = tx i := by
  simp [List.getD_eq_getElem?_getD, h]
theorem ms_tlen {i : Nat} (hd : decode (mCd y) pc = .ok (.arraylength, 1)) (hi : i < 14) (h : mj l b tS D dA i9 a9 y (pc + 1) L (.int (Int32.ofNat (tx i).length) :: S) I A B P R) : mj l b tS D dA i9 a9 y pc L (.retAddr (101 + i) :: S) I A B P R := by
  intro p e RM s m ar below meth c H locs cells slots Q ls hy cx sx wl lo hll rk
  obtain ⟨adK, adV, k1, k2, k3⟩ := sx.2.2.2.2.1
  rw [List.map_cons, show tr b tS (.retAddr (101 + i)) = .ref (adV i) from (k1 _ hi).2]
  exact va_tlen cx.1 cx.2.1 (k2.1 i hi).2.2.2 wl.2.1 (by rw [(txl hi).1]) hd (h p e RM s m ar below meth c H locs cells slots Q ls hy cx sx wl lo hll rk)
theorem ms_tld {i : Nat} {j : Int32} (hd : decode (mCd y) pc = .ok (.baload, 1)) (hi : i < 14) (hin : vp_in j (tx i).length) (h : mj l b tS D dA i9 a9 y (pc + 1) L (.int ((tx i).getD j.toNatClampNeg 0) :: S) I A B P R) : mj l b tS D dA i9 a9 y pc L (.int j :: .retAddr (101 + i) :: S) I A B P R := by
  intro p e RM s m ar below meth c H locs cells slots Q ls hy cx sx wl lo hll rk
  obtain ⟨adK, adV, k1, k2, k3⟩ := sx.2.2.2.2.1
  rw [List.map_cons, List.map_cons, show tr b tS (.retAddr (101 + i)) = .ref (adV i) from (k1 _ hi).2]
  exact va_tb cx.1 cx.2.1 (k2.1 i hi).2.2.2 wl.2.1 (by rw [(txl hi).1]; exact hin) (by simp only [(txl hi).2]; rfl) hd (h p e RM s m ar below meth c H locs cells slots Q ls hy cx sx wl lo hll rk)
theorem ms_gs0 {n : Nat} (hd : decode (mCd y) pc = .ok (.getstatic n, 3)) (hl : Cond.fieldLink (mNm y).cls n "java/lang/String" "COMPACT_STRINGS" "Z" ∈ mT) (h : mj l b tS D dA i9 a9 y (pc + 3) L (.int 1 :: S) I A B P R) : mj l b tS D dA i9 a9 y pc L S I A B P R := by
  intro p e RM s m ar below meth c H locs cells slots Q ls hy cx sx wl lo hll rk
  exact va_gets cx.1 cx.2.1 sx.2.2.2.2.2.1 wl.2.1 cx.2.2.2.1 (cx.2.2.2.2.1 _ hl) (fun x q => q) hd (h p e RM s m ar below meth c H locs cells slots Q ls hy cx sx wl lo hll rk)
theorem ms_gs1 {n : Nat} (hd : decode (mCd y) pc = .ok (.getstatic n, 3)) (hl : Cond.fieldLink (mNm y).cls n "jdk/internal/util/Preconditions" "SIOOBE_FORMATTER" "Ljava/util/function/BiFunction;" ∈ mT) (h : mj l b tS D dA i9 a9 y (pc + 3) L (.retAddr 999 :: S) I A B P R) : mj l b tS D dA i9 a9 y pc L S I A B P R := by
  intro p e RM s m ar below meth c H locs cells slots Q ls hy cx sx wl lo hll rk
  exact va_gets cx.1 cx.2.1 sx.2.2.2.2.2.2.1 wl.2.1 cx.2.2.2.1 (cx.2.2.2.2.1 _ hl) (fun x q => q) hd (h p e RM s m ar below meth c H locs cells slots Q ls hy cx sx wl lo hll rk)
end CAL3
