/-! the machine's own judgement obeys the small machine: part 3, fields and arrays (written by wip/whole/gen4.py) -/
theorem uws_in : ∀ q ∈ vwCl, ∀ w ∈ u_ws q.1 q.2.1 q.2.2, w ∈ mT := by
  have h : ∀ q ∈ vwCl, ∀ w ∈ u_ws q.1 q.2.1 q.2.2, w ∈ lw_tbl ∧ goodWord w = true := by
    intro q hq
    simp only [vwCl, List.mem_cons, List.not_mem_nil, or_false] at hq
    rcases hq with rfl | rfl | rfl | rfl | rfl | rfl | rfl | rfl | rfl | rfl | rfl | rfl <;> decide +kernel
  exact fun q hq w hw => List.mem_filter.mpr (h q hq w hw)
def fkd : Option FieldType → Nat
  | some .int => 0
  | some .boolean => 2
  | some (.object _) => 1
  | some (.array _) => 1
  | _ => 9
theorem fsh_r : (List.range 12).all (fun c => match vwCl[c]? with
  | some q => (List.range q.2.2).all (fun j => Nat.beq (fkd (parseFieldDescriptor (q.2.1 j).2.2.1)) (fsh (c * 64 + j)))
  | none => true) = true := by decide +kernel
theorem cls_ty {c : Nat} {q : vw_C} (h : vwCl[c]? = some q) : (∃ ty0 : Nat → FieldType, ∀ k, k < q.2.2 → parseFieldDescriptor (q.2.1 k).2.2.1 = some (ty0 k)) ∧ ∀ a, a < q.2.2 → ∀ b, b < q.2.2 → a ≠ b → (q.2.1 a).2.1 ≠ (q.2.1 b).2.1 := by
  match c, h with
  | 0, h => cases h; exact ⟨⟨tyX0, tyX0_ok⟩, nmX0⟩
  | 1, h => cases h; exact ⟨⟨tyX1, tyX1_ok⟩, nmX1⟩
  | 2, h => cases h; exact ⟨⟨tyX2, tyX2_ok⟩, nmX2⟩
  | 3, h => cases h; exact ⟨⟨tyX3, tyX3_ok⟩, nmX3⟩
  | 4, h => cases h; exact ⟨⟨tyX4, tyX4_ok⟩, nmX4⟩
  | 5, h => cases h; exact ⟨⟨tyX5, tyX5_ok⟩, nmX5⟩
  | 6, h => cases h; exact ⟨⟨tyX6, tyX6_ok⟩, nmX6⟩
  | 7, h => cases h; exact ⟨⟨tyX7, tyX7_ok⟩, nmX7⟩
  | 8, h => cases h; exact ⟨⟨tyX8, tyX8_ok⟩, nmX8⟩
  | 9, h => cases h; exact ⟨⟨tyX9, tyX9_ok⟩, nmX9⟩
  | 10, h => cases h; exact ⟨⟨tyX10, tyX10_ok⟩, nmX10⟩
  | 11, h => cases h; exact ⟨⟨tyX11, tyX11_ok⟩, nmX11⟩
theorem vw_lt {c : Nat} {q : vw_C} (h : vwCl[c]? = some q) : c < 12 := (List.getElem?_eq_some_iff.mp h).1
theorem nfl_of {c : Nat} {q : vw_C} (h : vwCl[c]? = some q) : nfl c = q.2.2 := by simp only [nfl, h, Option.map_some, Option.getD_some]
theorem fsh_of {c j : Nat} {q : vw_C} (h : vwCl[c]? = some q) (hj : j < q.2.2) : fkd (parseFieldDescriptor (q.2.1 j).2.2.1) = fsh (c * 64 + j) := by
  have h1 := List.all_eq_true.mp fsh_r c (List.mem_range.mpr (vw_lt h))
  rw [h] at h1
  exact Nat.eq_of_beq_eq_true (List.all_eq_true.mp h1 j (List.mem_range.mpr hj))
/-- a field's link -/
def FL (y n c j : Nat) : Prop := ∃ q : vw_C, vwCl[c]? = some q ∧ j < q.2.2 ∧ (q.2.1 j).1 = q.1 ∧ Cond.fieldLink (mNm y).cls n q.1 (q.2.1 j).2.1 (q.2.1 j).2.2.1 ∈ mT
section INS2
variable {l : Launch} {b : Nat} {tS : Nat → Value} {D : va_G} {dA : Nat → ClassId} {i9 : Int32} {a9 : Nat → Int32} {y pc : Nat} {L S : List Value} {I A : mI} {B : mB} {P : mP} {R : mR}
theorem Wl_D {s : State} {H : Heap} {locs : List Loc} (_wl : Wl b D dA i9 a9 I A B P s H locs) : va_D (Af b) (wsl b dA I A B P) := wsl_D (fun _ h => h)
theorem ms_getI {n k ci j : Nat} (hd : decode (mCd y) pc = .ok (.getfield n, 3)) (hw : FL y n ci j) (hc : csh k = some ci) (hf : fsh (ci * 64 + j) = 0 ∨ fsh (ci * 64 + j) = 2) (h : mj l b tS D dA i9 a9 y (pc + 3) L (.int (I k j) :: S) I A B P R) : mj l b tS D dA i9 a9 y pc L (.ref k :: S) I A B P R := by
  intro p e RM s m ar below meth c H locs cells slots Q ls hy cx sx wl lo hll rk
  obtain ⟨⟨C, T, N⟩, h1, h2, h3, h4⟩ := hw
  refine va_get (C := C) (T := T) (N := N) (ref := C) (index := n) (ci := ci) cx.1 cx.2.1 cx.2.2.2.2.1 (uws_in _ (List.mem_of_getElem? h1)) cx.2.2.2.1 sx.2.1 wl.1 k (fs := flds b I P ci k) (by rw [wsl_at (csh_lt hc), ce_obj hc]) h1 j h2 (cx.2.2.2.2.1 _ h4) (fun x q => by rw [h3] at q; exact q) (v := .int (I k j)) ?_ hd (h p e RM s m ar below meth c H locs cells slots Q ls hy cx sx wl lo hll rk)
  rw [flds_get (by rw [nfl_of h1]; exact h2)]
  rcases hf with hf | hf <;> simp [fv, hf]
theorem ms_getP {n k ci j q : Nat} (hd : decode (mCd y) pc = .ok (.getfield n, 3)) (hw : FL y n ci j) (hc : csh k = some ci) (hf : fsh (ci * 64 + j) = 1) (hq : P k j = some q) (h : mj l b tS D dA i9 a9 y (pc + 3) L (.ref q :: S) I A B P R) : mj l b tS D dA i9 a9 y pc L (.ref k :: S) I A B P R := by
  intro p e RM s m ar below meth c H locs cells slots Q ls hy cx sx wl lo hll rk
  obtain ⟨⟨C, T, N⟩, h1, h2, h3, h4⟩ := hw
  refine va_get (C := C) (T := T) (N := N) (ref := C) (index := n) (ci := ci) cx.1 cx.2.1 cx.2.2.2.2.1 (uws_in _ (List.mem_of_getElem? h1)) cx.2.2.2.1 sx.2.1 wl.1 k (fs := flds b I P ci k) (by rw [wsl_at (csh_lt hc), ce_obj hc]) h1 j h2 (cx.2.2.2.2.1 _ h4) (fun x q => by rw [h3] at q; exact q) (v := .ref (b + q)) ?_ hd (h p e RM s m ar below meth c H locs cells slots Q ls hy cx sx wl lo hll rk)
  rw [flds_get (by rw [nfl_of h1]; exact h2)]
  simp [fv, hf, hq, va_rf]
theorem ms_putI {n k ci j : Nat} {x : Int32} (hd : decode (mCd y) pc = .ok (.putfield n, 3)) (hw : FL y n ci j) (hfin : (vwCl[ci]?).map (fun q => (q.2.1 j).2.2.2) = some false) (hc : csh k = some ci) (hf : fsh (ci * 64 + j) = 0) (h : mj l b tS D dA i9 a9 y (pc + 3) L S (up2 I k j x) A B P R) : mj l b tS D dA i9 a9 y pc L (.int x :: .ref k :: S) I A B P R := by
  intro p e RM s m ar below meth c H locs cells slots Q ls hy cx sx wl lo hll rk
  obtain ⟨⟨C, T, N⟩, h1, h2, h3, h4⟩ := hw
  obtain ⟨⟨ty0, hty⟩, hnm⟩ := cls_ty h1
  have hk1 := fsh_of h1 h2
  have hfn : (T j).2.2.2 = false := by
    have := hfin
    rw [h1] at this
    exact Option.some.inj this
  have hpd : parseFieldDescriptor (T j).2.2.1 = some .int := by
    rw [hf] at hk1
    revert hk1
    generalize parseFieldDescriptor (T j).2.2.1 = z
    intro hk1
    match z, hk1 with
    | some .int, _ => rfl
  refine va_put (C := C) (T := T) (N := N) (ref := C) (index := n) (ci := ci) cx.1 cx.2.1 cx.2.2.2.2.1 (uws_in _ (List.mem_of_getElem? h1)) ty0 hty hnm cx.2.2.2.1 sx.2.1 wl.1 (Wl_D wl) wl.2.1 k (fs := flds b I P ci k) (by rw [wsl_at (csh_lt hc), ce_obj hc]) h1 j h2 (cx.2.2.2.2.1 _ h4) (fun x q => by rw [h3] at q; exact q) hfn hpd (v := .int x) rfl rfl (by rw [flds_len, nfl_of h1]; exact h2) hd (fun H1 locs1 hP1 hD1 hS1 => ?_)
  rw [wsl_I hc (Or.inl hf) (by rw [nfl_of h1]; exact h2)] at hP1
  exact h p e RM s m ar below meth c H1 locs1 cells slots Q ls hy cx sx ⟨hP1, hS1, by rw [up2_row (n900 hc)]; exact wl.2.2.1, wl.2.2.2⟩ lo hll rk
theorem ms_putZ {n k ci j : Nat} {x : Int32} (hd : decode (mCd y) pc = .ok (.putfield n, 3)) (hw : FL y n ci j) (hfin : (vwCl[ci]?).map (fun q => (q.2.1 j).2.2.2) = some false) (hc : csh k = some ci) (hf : fsh (ci * 64 + j) = 2) (hx : x = 0 ∨ x = 1) (h : mj l b tS D dA i9 a9 y (pc + 3) L S (up2 I k j x) A B P R) : mj l b tS D dA i9 a9 y pc L (.int x :: .ref k :: S) I A B P R := by
  intro p e RM s m ar below meth c H locs cells slots Q ls hy cx sx wl lo hll rk
  obtain ⟨⟨C, T, N⟩, h1, h2, h3, h4⟩ := hw
  obtain ⟨⟨ty0, hty⟩, hnm⟩ := cls_ty h1
  have hk1 := fsh_of h1 h2
  have hfn : (T j).2.2.2 = false := by
    have := hfin
    rw [h1] at this
    exact Option.some.inj this
  have hpd : parseFieldDescriptor (T j).2.2.1 = some .boolean := by
    rw [hf] at hk1
    revert hk1
    generalize parseFieldDescriptor (T j).2.2.1 = z
    intro hk1
    match z, hk1 with
    | some .boolean, _ => rfl
  refine va_put (C := C) (T := T) (N := N) (ref := C) (index := n) (ci := ci) cx.1 cx.2.1 cx.2.2.2.2.1 (uws_in _ (List.mem_of_getElem? h1)) ty0 hty hnm cx.2.2.2.1 sx.2.1 wl.1 (Wl_D wl) wl.2.1 k (fs := flds b I P ci k) (by rw [wsl_at (csh_lt hc), ce_obj hc]) h1 j h2 (cx.2.2.2.2.1 _ h4) (fun x q => by rw [h3] at q; exact q) hfn hpd (v := .int x) (by rcases hx with rfl | rfl <;> decide) (by rcases hx with rfl | rfl <;> decide) (by rw [flds_len, nfl_of h1]; exact h2) hd (fun H1 locs1 hP1 hD1 hS1 => ?_)
  rw [wsl_I hc (Or.inr hf) (by rw [nfl_of h1]; exact h2)] at hP1
  exact h p e RM s m ar below meth c H1 locs1 cells slots Q ls hy cx sx ⟨hP1, hS1, by rw [up2_row (n900 hc)]; exact wl.2.2.1, wl.2.2.2⟩ lo hll rk
theorem ms_putP {n k ci j q : Nat} (hd : decode (mCd y) pc = .ok (.putfield n, 3)) (hw : FL y n ci j) (hfin : (vwCl[ci]?).map (fun q => (q.2.1 j).2.2.2) = some false) (hc : csh k = some ci) (hf : fsh (ci * 64 + j) = 1) (h : mj l b tS D dA i9 a9 y (pc + 3) L S I A B (up2 P k j (some q)) R) : mj l b tS D dA i9 a9 y pc L (.ref q :: .ref k :: S) I A B P R := by
  intro p e RM s m ar below meth c H locs cells slots Q ls hy cx sx wl lo hll rk
  obtain ⟨⟨C, T, N⟩, h1, h2, h3, h4⟩ := hw
  obtain ⟨⟨ty0, hty⟩, hnm⟩ := cls_ty h1
  have hk1 := fsh_of h1 h2
  have hfn : (T j).2.2.2 = false := by
    have := hfin
    rw [h1] at this
    exact Option.some.inj this
  have hpd : ∃ ty, parseFieldDescriptor (T j).2.2.1 = some ty ∧ narrow ty (.ref (b + q)) = .ref (b + q) ∧ fits ty (.ref (b + q)) = true := by
    rw [hf] at hk1
    revert hk1
    generalize parseFieldDescriptor (T j).2.2.1 = z
    intro hk1
    match z, hk1 with
    | some (.object _), _ => exact ⟨_, rfl, rfl, rfl⟩
    | some (.array _), _ => exact ⟨_, rfl, rfl, rfl⟩
  obtain ⟨ty, hp1, hp2, hp3⟩ := hpd
  refine va_put (C := C) (T := T) (N := N) (ref := C) (index := n) (ci := ci) cx.1 cx.2.1 cx.2.2.2.2.1 (uws_in _ (List.mem_of_getElem? h1)) ty0 hty hnm cx.2.2.2.1 sx.2.1 wl.1 (Wl_D wl) wl.2.1 k (fs := flds b I P ci k) (by rw [wsl_at (csh_lt hc), ce_obj hc]) h1 j h2 (cx.2.2.2.2.1 _ h4) (fun x q => by rw [h3] at q; exact q) hfn hp1 (v := .ref (b + q)) hp2 hp3 (by rw [flds_len, nfl_of h1]; exact h2) hd (fun H1 locs1 hP1 hD1 hS1 => ?_)
  rw [wsl_P hc hf (by rw [nfl_of h1]; exact h2)] at hP1
  exact h p e RM s m ar below meth c H1 locs1 cells slots Q ls hy cx sx ⟨hP1, hS1, wl.2.2.1, wl.2.2.2⟩ lo hll rk
theorem ms_iald {k n : Nat} {i : Int32} (hd : decode (mCd y) pc = .ok (.iaload, 1)) (ha : ash k = some (0, n)) (hin : vp_in i n) (h : mj l b tS D dA i9 a9 y (pc + 1) L (.int (A k i.toNatClampNeg) :: S) I A B P R) : mj l b tS D dA i9 a9 y pc L (.int i :: .ref k :: S) I A B P R := by
  intro p e RM s m ar below meth c H locs cells slots Q ls hy cx sx wl lo hll rk
  exact va_iald cx.1 cx.2.1 sx.2.1 wl.1 k 0 (by rw [wsl_at (ash_lt ha), ce_arr ha]; rfl) rfl hin hd (h p e RM s m ar below meth c H locs cells slots Q ls hy cx sx wl lo hll rk)
theorem ms_bald {k n : Nat} {i : Int32} (hd : decode (mCd y) pc = .ok (.baload, 1)) (ha : ash k = some (2, n)) (hin : vp_in i n) (h : mj l b tS D dA i9 a9 y (pc + 1) L (.int (A k i.toNatClampNeg) :: S) I A B P R) : mj l b tS D dA i9 a9 y pc L (.int i :: .ref k :: S) I A B P R := by
  intro p e RM s m ar below meth c H locs cells slots Q ls hy cx sx wl lo hll rk
  exact va_bald cx.1 cx.2.1 sx.2.1 wl.1 k 2 (by rw [wsl_at (ash_lt ha), ce_arr ha]; rfl) rfl hin hd (h p e RM s m ar below meth c H locs cells slots Q ls hy cx sx wl lo hll rk)
theorem ms_zald {k n : Nat} {i : Int32} (hd : decode (mCd y) pc = .ok (.baload, 1)) (ha : ash k = some (3, n)) (hin : vp_in i n) (h : mj l b tS D dA i9 a9 y (pc + 1) L (.int (A k i.toNatClampNeg) :: S) I A B P R) : mj l b tS D dA i9 a9 y pc L (.int i :: .ref k :: S) I A B P R := by
  intro p e RM s m ar below meth c H locs cells slots Q ls hy cx sx wl lo hll rk
  exact va_zald cx.1 cx.2.1 sx.2.1 wl.1 k 3 (by rw [wsl_at (ash_lt ha), ce_arr ha]; rfl) rfl hin hd (h p e RM s m ar below meth c H locs cells slots Q ls hy cx sx wl lo hll rk)
theorem ms_lald {k n : Nat} {i : Int32} (hd : decode (mCd y) pc = .ok (.laload, 1)) (ha : ash k = some (1, n)) (hin : vp_in i n) (h : mj l b tS D dA i9 a9 y (pc + 1) L (.long (B k i.toNatClampNeg) :: S) I A B P R) : mj l b tS D dA i9 a9 y pc L (.int i :: .ref k :: S) I A B P R := by
  intro p e RM s m ar below meth c H locs cells slots Q ls hy cx sx wl lo hll rk
  exact va_lald cx.1 cx.2.1 sx.2.1 wl.1 k 1 (by rw [wsl_at (ash_lt ha), ce_arr ha]; rfl) rfl hin hd (h p e RM s m ar below meth c H locs cells slots Q ls hy cx sx wl lo hll rk)
theorem ms_iast {k n : Nat} {i x : Int32} (hd : decode (mCd y) pc = .ok (.iastore, 1)) (ha : ash k = some (0, n)) (hin : vp_in i n) (h : mj l b tS D dA i9 a9 y (pc + 1) L S I (up2 A k i.toNatClampNeg x) B P R) : mj l b tS D dA i9 a9 y pc L (.int x :: .int i :: .ref k :: S) I A B P R := by
  intro p e RM s m ar below meth c H locs cells slots Q ls hy cx sx wl lo hll rk
  refine va_iast cx.1 cx.2.1 sx.2.1 wl.1 (Wl_D wl) wl.2.1 k 0 (by rw [wsl_at (ash_lt ha), ce_arr ha]; rfl) rfl hin hd (fun H1 locs1 hP1 hD1 hS1 => ?_)
  rw [wsl_A (A2 := up2 A k i.toNatClampNeg x) ha (by simp) (by funext z; simp [up2, upd]) (fun z hz => up2_row hz)] at hP1
  exact h p e RM s m ar below meth c H1 locs1 cells slots Q ls hy cx sx ⟨hP1, hS1, wl.2.2.1, by rw [up2_row (n900a ha)]; exact wl.2.2.2⟩ lo hll rk
theorem ms_last {k n : Nat} {i : Int32} {x : Int64} (hd : decode (mCd y) pc = .ok (.lastore, 1)) (ha : ash k = some (1, n)) (hin : vp_in i n) (h : mj l b tS D dA i9 a9 y (pc + 1) L S I A (up2 B k i.toNatClampNeg x) P R) : mj l b tS D dA i9 a9 y pc L (.long x :: .int i :: .ref k :: S) I A B P R := by
  intro p e RM s m ar below meth c H locs cells slots Q ls hy cx sx wl lo hll rk
  refine va_last cx.1 cx.2.1 sx.2.1 wl.1 (Wl_D wl) wl.2.1 k 1 (by rw [wsl_at (ash_lt ha), ce_arr ha]; rfl) rfl hin hd (fun H1 locs1 hP1 hD1 hS1 => ?_)
  rw [wsl_B (B2 := up2 B k i.toNatClampNeg x) ha rfl (by funext z; simp [up2, vp_updL]) (fun z hz => up2_row hz)] at hP1
  exact h p e RM s m ar below meth c H1 locs1 cells slots Q ls hy cx sx ⟨hP1, hS1, wl.2.2.1, wl.2.2.2⟩ lo hll rk
theorem ms_bast {k n : Nat} {i x : Int32} (hd : decode (mCd y) pc = .ok (.bastore, 1)) (ha : ash k = some (2, n)) (hx : x = x.toInt8.toInt32) (hin : vp_in i n) (h : mj l b tS D dA i9 a9 y (pc + 1) L S I (up2 A k i.toNatClampNeg x) B P R) : mj l b tS D dA i9 a9 y pc L (.int x :: .int i :: .ref k :: S) I A B P R := by
  intro p e RM s m ar below meth c H locs cells slots Q ls hy cx sx wl lo hll rk
  refine va_bast cx.1 cx.2.1 sx.2.1 wl.1 (Wl_D wl) wl.2.1 k 2 (by rw [wsl_at (ash_lt ha), ce_arr ha]; rfl) rfl hin hd (fun H1 locs1 hP1 hD1 hS1 => ?_)
  rw [vp_nar_byte, ← hx, wsl_A (A2 := up2 A k i.toNatClampNeg x) ha (by simp) (by funext z; simp [up2, upd]) (fun z hz => up2_row hz)] at hP1
  exact h p e RM s m ar below meth c H1 locs1 cells slots Q ls hy cx sx ⟨hP1, hS1, wl.2.2.1, by rw [up2_row (n900a ha)]; exact wl.2.2.2⟩ lo hll rk
theorem ms_zast {k n : Nat} {i x : Int32} (hd : decode (mCd y) pc = .ok (.bastore, 1)) (ha : ash k = some (3, n)) (hx : x = 0 ∨ x = 1) (hin : vp_in i n) (h : mj l b tS D dA i9 a9 y (pc + 1) L S I (up2 A k i.toNatClampNeg x) B P R) : mj l b tS D dA i9 a9 y pc L (.int x :: .int i :: .ref k :: S) I A B P R := by
  intro p e RM s m ar below meth c H locs cells slots Q ls hy cx sx wl lo hll rk
  have hx2 : vp_nar .boolean x = x := by rcases hx with rfl | rfl <;> decide
  refine va_zast cx.1 cx.2.1 sx.2.1 wl.1 (Wl_D wl) wl.2.1 k 3 (by rw [wsl_at (ash_lt ha), ce_arr ha]; rfl) rfl hin hd (fun H1 locs1 hP1 hD1 hS1 => ?_)
  rw [hx2, wsl_A (A2 := up2 A k i.toNatClampNeg x) ha (by simp) (by funext z; simp [up2, upd]) (fun z hz => up2_row hz)] at hP1
  exact h p e RM s m ar below meth c H1 locs1 cells slots Q ls hy cx sx ⟨hP1, hS1, wl.2.2.1, by rw [up2_row (n900a ha)]; exact wl.2.2.2⟩ lo hll rk
theorem rsh_2 {k : Nat} {r : Nat × Nat × Nat} (h : rsh k = some r) : k = 9 ∨ k = 18 := by
  have h1 : (List.range 65).all (fun k => (rsh k).isNone || (Nat.beq k 9 || Nat.beq k 18)) = true := by decide +kernel
  have h2 := List.all_eq_true.mp h1 k (List.mem_range.mpr (rsh_lt h))
  rw [h] at h2
  simp at h2
  exact h2
theorem ms_aald {k : Nat} {r : Nat × Nat × Nat} {i : Int32} (hd : decode (mCd y) pc = .ok (.aaload, 1)) (hr : rsh k = some r) (hin : vp_in i r.2.2) (h : mj l b tS D dA i9 a9 y (pc + 1) L (.ref (r.1 + r.2.1 * i.toNatClampNeg) :: S) I A B P R) : mj l b tS D dA i9 a9 y pc L (.int i :: .ref k :: S) I A B P R := by
  intro p e RM s m ar below meth c H locs cells slots Q ls hy cx sx wl lo hll rk
  have hw := (wsl_at (b := b) (dA := dA) (I := I) (A := A) (B := B) (P := P) (rsh_lt hr)).trans (congrArg (fun z => some (b + k, z)) (ce_ref hr))
  have hgo := h p e RM s m ar below meth c H locs cells slots Q ls hy cx sx wl lo hll rk
  rcases rsh_2 hr with rfl | rfl
  · exact va_aldq (C := "ValueDays$Script") cx.1 cx.2.1 sx.2.1 wl.1 9 4 hw rfl hin hd hgo
  · have hi : i.toNatClampNeg < r.2.2 := by
      have hno : ¬ r.2.2 ≤ i.toNatClampNeg := fun q => hin (Or.inr q)
      omega
    have hcell : H[b + 18]? = some (arrV (dA 5) r.2.2 (fun j => va_rf (some (b + (r.1 + r.2.1 * j))))) := wl.1 18 _ hw
    refine W.aald (ty := .array .int) cx.1 cx.2.1 hcell ((sx.2.1.2 5 _ rfl).1 _ _) rfl ?_ ?_ (arrV_read (dA 5) (fun j => va_rf (some (b + (r.1 + r.2.1 * j)))) hi) rfl rfl hd hgo
    · simp [arrV]
    · rw [arrV_size]
      exact hin
theorem tys_at {t : Nat} (h : t < 6) : ∃ ty, (tys dA)[t]? = some (dA t, ty) := by
  match t, h with
  | 0, _ => exact ⟨_, rfl⟩
  | 1, _ => exact ⟨_, rfl⟩
  | 2, _ => exact ⟨_, rfl⟩
  | 3, _ => exact ⟨_, rfl⟩
  | 4, _ => exact ⟨_, rfl⟩
  | 5, _ => exact ⟨_, rfl⟩
theorem ash_t {k : Nat} {t : Nat × Nat} (h : ash k = some t) : t.1 < 4 := by
  have h1 : (List.range 65).all (fun k => match ash k with
    | some t => Nat.blt t.1 4
    | none => true) = true := by decide +kernel
  have h2 := List.all_eq_true.mp h1 k (List.mem_range.mpr (ash_lt h))
  rw [h] at h2
  exact Nat.le_of_ble_eq_true h2
theorem ms_alen {k : Nat} {t : Nat × Nat} (hd : decode (mCd y) pc = .ok (.arraylength, 1)) (ha : ash k = some t) (h : mj l b tS D dA i9 a9 y (pc + 1) L (.int (Int32.ofNat t.2) :: S) I A B P R) : mj l b tS D dA i9 a9 y pc L (.ref k :: S) I A B P R := by
  intro p e RM s m ar below meth c H locs cells slots Q ls hy cx sx wl lo hll rk
  obtain ⟨ty, hty⟩ := tys_at (dA := dA) (Nat.lt_of_lt_of_le (ash_t ha) (Nat.le_of_ble_eq_true rfl))
  exact va_alen (x := (t.2, if t.1 = 1 then .inr (.inl (B k)) else .inl (A k))) cx.1 cx.2.1 sx.2.1 wl.1 k t.1 (by rw [wsl_at (ash_lt ha), ce_arr ha]) hty rfl hd (h p e RM s m ar below meth c H locs cells slots Q ls hy cx sx wl lo hll rk)
theorem ms_rlen {k : Nat} {r : Nat × Nat × Nat} (hd : decode (mCd y) pc = .ok (.arraylength, 1)) (hr : rsh k = some r) (h : mj l b tS D dA i9 a9 y (pc + 1) L (.int (Int32.ofNat r.2.2) :: S) I A B P R) : mj l b tS D dA i9 a9 y pc L (.ref k :: S) I A B P R := by
  intro p e RM s m ar below meth c H locs cells slots Q ls hy cx sx wl lo hll rk
  have hrc : rcd k < 6 := by unfold rcd; split <;> omega
  obtain ⟨ty, hty⟩ := tys_at (dA := dA) hrc
  exact va_alen (x := (r.2.2, .inr (.inr (.inr (.inr (fun i => some (b + (r.1 + r.2.1 * i)))))))) cx.1 cx.2.1 sx.2.1 wl.1 k (rcd k) (by rw [wsl_at (rsh_lt hr), ce_ref hr]) hty rfl hd (h p e RM s m ar below meth c H locs cells slots Q ls hy cx sx wl lo hll rk)
theorem ms_sld {i : Int32} (hd : decode (mCd y) pc = .ok (.iaload, 1)) (hin : vp_in i (I 900 0).toNatClampNeg) (h : mj l b tS D dA i9 a9 y (pc + 1) L (.int (A 900 i.toNatClampNeg) :: S) I A B P R) : mj l b tS D dA i9 a9 y pc L (.int i :: .retAddr 0 :: S) I A B P R := by
  intro p e RM s m ar below meth c H locs cells slots Q ls hy cx sx wl lo hll rk
  obtain ⟨sb, h1, h2, h3, h4⟩ := sx.2.2.2.1
  rw [wl.2.2.1] at hin
  have h5 := h p e RM s m ar below meth c H locs cells slots Q ls hy cx sx wl lo hll rk
  rw [wl.2.2.2] at h5
  rw [List.map_cons, List.map_cons, show tr b tS (.retAddr 0) = .ref sb from h1]
  exact va_sld cx.1 cx.2.1 h3 (by have := sx.1; omega) (show ¬ b ≤ sb by omega) wl.2.1 hin hd h5
theorem ms_slen (hd : decode (mCd y) pc = .ok (.arraylength, 1)) (h : mj l b tS D dA i9 a9 y (pc + 1) L (.int (I 900 0) :: S) I A B P R) : mj l b tS D dA i9 a9 y pc L (.retAddr 0 :: S) I A B P R := by
  intro p e RM s m ar below meth c H locs cells slots Q ls hy cx sx wl lo hll rk
  obtain ⟨sb, h1, h2, h3, h4⟩ := sx.2.2.2.1
  have h5 := h p e RM s m ar below meth c H locs cells slots Q ls hy cx sx wl lo hll rk
  rw [wl.2.2.1, List.map_cons, show tr b tS (.int i9) = .int i9 from rfl, ← h4] at h5
  rw [List.map_cons, show tr b tS (.retAddr 0) = .ref sb from h1]
  exact va_slen cx.1 cx.2.1 h3 (by have := sx.1; omega) (show ¬ b ≤ sb by omega) wl.2.1 hd h5
end INS2
