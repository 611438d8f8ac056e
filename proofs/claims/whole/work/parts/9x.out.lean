/-! the law's entry: texts, statics, the script (written by wip/whole/gs2.py) -/
def fl : List Jvm.Cond := flatC (Jvm.Cond.and given_1 narrow_1)
def rdK : List Nat := [140, 146, 153, 154, 100, 162, 109, 165, 167, 114, 119, 125, 127, 132]
def mdK : List Nat := [260, 262, 267, 269, 282, 271, 284, 278, 280, 300, 304, 309, 311, 316]
def txS : List String := ["book", "days", "periods", "compound", "tier", "to", "debit", "over", "limit", "from", "pay", "draw", "close", "rerun"]
def tmR (i : Nat) : Term := .string "ValueDays$Reader" (nth 0 rdK i)
def tmM (i : Nat) : Term := .string "ValueDaysModel" (nth 0 mdK i)
def flP : List (List Nat) := [[9, 10, 11, 12, 137, 13, 14, 15, 16], [17, 18, 19, 20, 146, 21, 22, 23, 24], [25, 26, 27, 28, 158, 29, 30, 31, 32, 33, 34, 35], [36, 37, 38, 39, 171, 40, 41, 42, 43, 44, 45, 46, 47], [48, 49, 50, 51, 180, 52, 53, 54, 55], [56, 57, 58, 59, 187, 60, 61], [62, 63, 64, 65, 197, 66, 67, 68, 69, 70], [71, 72, 73, 74, 206, 75, 76, 77, 78], [79, 80, 81, 82, 216, 83, 84, 85, 86, 87], [88, 89, 90, 91, 225, 92, 93, 94, 95], [96, 97, 98, 99, 233, 100, 101, 102], [103, 104, 105, 106, 242, 107, 108, 109, 110], [111, 112, 113, 114, 252, 115, 116, 117, 118, 119], [120, 121, 122, 123, 262, 124, 125, 126, 127, 128]]
def txV (i : Nat) : Term := .field (tmR i) "java/lang/String" "value" "[B"
def flC (i : Nat) : Bool := decide (fl[nth 0 (nth [] flP i) 0]? = some (.exactly (tmR i) "java/lang/String")) && (decide (fl[nth 0 (nth [] flP i) 1]? = some (.eq (.field (tmR i) "java/lang/String" "coder" "B") (.int 0))) && (decide (fl[nth 0 (nth [] flP i) 2]? = some (.arrayOf (txV i) .byte)) && (decide (fl[nth 0 (nth [] flP i) 3]? = some (.eq (.length (txV i)) (.int (Int32.ofNat (tx i).length)))) && (decide (fl[nth 0 (nth [] flP i) 4]? = some (.eq (tmR i) (tmM i))) && (List.range (tx i).length).all (fun j => decide (fl[nth 0 (nth [] flP i) (5 + j)]? = some (.eq (.elem (txV i) (.int (Int32.ofNat j))) (.int ((tx i).getD j 0)))))))))
theorem fl_ok : (List.range 14).all flC = true := by decide +kernel
def txD (i j : Nat) : Bool := Nat.beq i j || (!(decide (Int32.ofNat (tx i).length = Int32.ofNat (tx j).length)) || (List.range (min (tx i).length (tx j).length)).any (fun k => !(decide ((tx i).getD k 0 = (tx j).getD k 0))))
theorem txD_ok : (List.range 14).all (fun i => (List.range 14).all (fun j => txD i j)) = true := by decide +kernel
theorem tx_31 : (List.range 14).all (fun i => Nat.blt (tx i).length 100) = true := by decide +kernel
def srP : List Nat := [2142, 2208, 2217, 2218, 2231, 2236, 2238, 3003, 3004, 3005, 3014, 3019, 3020, 3025, 7147, 7162, 7171, 7172, 7177, 7182, 7188, 7193, 7194, 7195, 7204, 7213, 7214, 7219]
theorem sr_ok : (List.range 28).all (fun k => decide ((mch (nth 0 srP k / 1000))[nth 0 srP k % 1000]? = some (.stringRef (nth "" mOW (nth (0, 0, 0) mST k).1) (nth (0, 0, 0) mST k).2.1 (nth "" txS (nth (0, 0, 0) mST k).2.2)))) = true := by decide +kernel
theorem tm_ok : (List.range 28).all (fun k => Nat.blt (nth (0, 0, 0) mST k).2.2 14 && (decide ((Term.string (nth "" mOW (nth (0, 0, 0) mST k).1) (nth (0, 0, 0) mST k).2.1) = tmR (nth (0, 0, 0) mST k).2.2) || decide ((Term.string (nth "" mOW (nth (0, 0, 0) mST k).1) (nth (0, 0, 0) mST k).2.1) = tmM (nth (0, 0, 0) mST k).2.2))) = true := by decide +kernel
def TxA (args : Array Value) (A : Nat → Prop) (s : State) (i a t : Nat) : Prop := (tmR i).eval args s none [] s = some (.ref a) ∧ (tmM i).eval args s none [] s = some (.ref a) ∧ va_O "java/lang/String" a A s s.heap ∧ va_OF "java/lang/String" "coder" "B" (.int 0) a A s s.heap ∧ va_OF "java/lang/String" "value" "[B" (.ref t) a A s s.heap ∧ va_T .byte t (tx i).length (fun j => .int ((tx i).getD j 0)) A s s.heap
theorem tx_one {args : Array Value} {s : State} {A : Nat → Prop} (hs : ∀ c ∈ fl, c.before args s = true) (hA : ∀ a : Nat, a < s.heap.size → ¬ A a) {i : Nat} (hi : i < 14) : ∃ q : Nat × Nat, TxA args A s i q.1 q.2 := by
  have h := List.all_eq_true.mp fl_ok i (List.mem_range.mpr hi)
  unfold flC at h
  simp only [Bool.and_eq_true, decide_eq_true_eq] at h
  obtain ⟨h1, h2, h3, h4, h5, h6⟩ := h
  have g1 := hs _ (List.mem_of_getElem? h1)
  have g2 := hs _ (List.mem_of_getElem? h2)
  have g3 := hs _ (List.mem_of_getElem? h3)
  have g4 := hs _ (List.mem_of_getElem? h4)
  have g5 := hs _ (List.mem_of_getElem? h5)
  have g6 : ∀ j : Nat, j < (tx i).length → (Cond.eq (.elem (txV i) (.int (Int32.ofNat j))) (.int ((tx i).getD j 0))).before args s = true := fun j hj => hs _ (List.mem_of_getElem? (of_decide_eq_true (List.all_eq_true.mp h6 j (List.mem_range.mpr hj))))
  have hN : (tx i).length < 2 ^ 31 := by
    have := Nat.le_of_ble_eq_true (List.all_eq_true.mp tx_31 i (List.mem_range.mpr hi))
    omega
  have z0 : ∀ {q : Nat}, q < 1 → q = 0 := fun h => by omega
  obtain ⟨aK, aV, hK, hE⟩ := vk_Sof (args := args) (s := s) (N := 1) (tm := fun _ => tmR i) (len := [(tx i).length]) (byt := [tx i]) (A := A) (fun j hj => by cases z0 hj; exact hN) (fun _ _ => g1) (fun _ _ => g2) (fun _ _ => g3) (fun j hj => by cases z0 hj; exact g4) (fun j hj n hn => by cases z0 hj; exact g6 n hn) (fun j n hj hn ne => absurd ((z0 hj).trans (z0 hn).symm) ne) hA
  exact ⟨(aK 0, aV 0), hE 0 Nat.one_pos, va_eqR g5 (hE 0 Nat.one_pos), hK.1 0 Nat.one_pos⟩
theorem tx_inj {args : Array Value} {s : State} {A : Nat → Prop} {i j a t u : Nat} (hi : i < 14) (hj : j < 14) (h1 : TxA args A s i a t) (h2 : TxA args A s j a u) : i = j := by
  obtain ⟨-, -, -, -, ⟨cf, k, x, f, cell, f1, -, f2, -, f3, -⟩, cellT, t1, -, -, t2, t3, t4, -⟩ := h1
  obtain ⟨-, -, -, -, ⟨cf', k', x', f', cell', f1', -, f2', -, f3', -⟩, cellU, u1, -, -, u2, u3, u4, -⟩ := h2
  cases f1.symm.trans f1'
  cases f2.symm.trans f2'
  cases f3.symm.trans f3'
  cases t1.symm.trans u1
  have h := List.all_eq_true.mp (List.all_eq_true.mp txD_ok i (List.mem_range.mpr hi)) j (List.mem_range.mpr hj)
  unfold txD at h
  simp only [Bool.or_eq_true, Bool.not_eq_true', decide_eq_false_iff_not] at h
  rcases h with h | h | h
  · exact Nat.eq_of_beq_eq_true h
  · exact absurd (t3.symm.trans u3) h
  · obtain ⟨k, hk, hd⟩ := List.any_eq_true.mp h
    have hk := List.mem_range.mp hk
    simp only [Bool.not_eq_true', decide_eq_false_iff_not] at hd
    have e1 := t4 k (by omega)
    have e2 := u4 k (by omega)
    have e3 := e1.symm.trans e2
    injection e3 with e3
    injection e3 with e3
    exact absurd e3 hd
def tSf (sb : Nat) (adK adV : Nat → Nat) (z : Value) : Nat → Value := fun n => if n = 999 then z else if n = 0 then .ref sb else if n < 15 then .ref (adK (n - 1)) else .ref (adV (n - 101))
theorem gD {α : Type} {f : Nat → α} {d : α} {i : Nat} (hi : i < 14) : ((List.range 14).map f).getD i d = f i := by
  simp [List.getD, hi]
theorem out_of {args : Array Value} {s : State} (hts : ∀ w ∈ lw_tbl, w.before args s = true) (hg : (Jvm.Cond.and given_1 narrow_1).before args s = true) {sb L : Nat} {xs : Nat → Int32} (hX : va_X sb L xs s s.heap) (hsb : sb < s.heap.size) (hL : L ≤ 3072) : ∃ tS : Nat → Value, tS 0 = .ref sb ∧ Out s.heap.size tS (nI L) xs s := by
  have hs : ∀ c ∈ fl, c.before args s = true := flat_of_before _ hg
  have hA : ∀ a : Nat, a < s.heap.size → ¬ Af s.heap.size a := fun a h q => by
    have : s.heap.size ≤ a := q
    omega
  have h0 : ∀ i : Nat, ∃ q : Nat × Nat, i < 14 → TxA args (Af s.heap.size) s i q.1 q.2 := fun i => by
    by_cases hi : i < 14
    · obtain ⟨q, hq⟩ := tx_one hs hA hi
      exact ⟨q, fun _ => hq⟩
    · exact ⟨(0, 0), fun h => absurd h hi⟩
  obtain ⟨ad, had⟩ := Classical.axiomOfChoice h0
  have hz := va_Zqof (args := args) (s := s) (A := Af s.heap.size) (hts (.laysStatic "jdk/internal/util/Preconditions" "SIOOBE_FORMATTER" "Ljava/util/function/BiFunction;") (mch_mem (c := 2) (List.mem_of_getElem? (i := 176) (by decide +kernel)))) (hts (.initialized "jdk/internal/util/Preconditions") (mch_mem (c := 1) (List.mem_of_getElem? (i := 15) (by decide +kernel)))) (hs _ (List.mem_of_getElem? (i := 5) (by decide +kernel))) hA
  have hc : va_Z "java/lang/String" "COMPACT_STRINGS" "Z" (.int 1) (Af s.heap.size) s s.heap := va_Zof (args := args) (hts (.laysStatic "java/lang/String" "COMPACT_STRINGS" "Z") (mch_mem (c := 2) (List.mem_of_getElem? (i := 160) (by decide +kernel)))) (hts (.initialized "java/lang/String") (mch_mem (c := 1) (List.mem_of_getElem? (i := 13) (by decide +kernel)))) (va_eqi (hs _ (List.mem_of_getElem? (i := 4) (by decide +kernel)))) hA
  obtain ⟨z, hz1, hz2⟩ : ∃ z : Value, va_Z "jdk/internal/util/Preconditions" "SIOOBE_FORMATTER" "Ljava/util/function/BiFunction;" z (Af s.heap.size) s s.heap ∧ (z = .null ∨ ∃ a, z = .ref a) := by
    rcases hz with h | ⟨t, h⟩
    · exact ⟨_, h, Or.inl rfl⟩
    · exact ⟨_, h, Or.inr ⟨t, rfl⟩⟩
  have h9 : tSf sb (fun i => (ad i).1) (fun i => (ad i).2) z 999 = z := by simp [tSf]
  have hLc : (nI L).toNatClampNeg = L := nI_clamp (by omega)
  refine ⟨tSf sb (fun i => (ad i).1) (fun i => (ad i).2) z, by simp [tSf], fun n hn => ?_, ⟨sb, by simp [tSf], hsb, by rw [hLc]; exact hX, by rw [hLc]; rfl⟩, ⟨fun i => (ad i).1, fun i => (ad i).2, fun i hi => ?_, ⟨fun i hi => ?_, fun i j hi hj e => ?_⟩, fun q hq => ?_⟩, hc, by rw [h9]; exact hz1, by rw [h9]; exact hz2⟩
  · unfold tSf
    rw [if_neg hn]
    split
    · exact ⟨_, rfl⟩
    · split <;> exact ⟨_, rfl⟩
  · constructor
    · unfold tSf
      rw [if_neg (by omega), if_neg (by omega), if_pos (by omega), show 1 + i - 1 = i by omega]
    · unfold tSf
      rw [if_neg (by omega), if_neg (by omega), if_neg (by omega), show 101 + i - 101 = i by omega]
  · obtain ⟨-, -, a1, a2, a3, a4⟩ := had i hi
    refine ⟨a1, a2, a3, ?_⟩
    rw [gD hi, gD hi]
    exact a4
  · have h1 := had i hi
    have h2 := had j hj
    have e : (ad i).1 = (ad j).1 := e
    rw [e] at h1
    exact tx_inj hi hj h1 h2
  · obtain ⟨k, hk⟩ := List.getElem?_of_mem hq
    have hk28 : k < 28 := (List.getElem?_eq_some_iff.mp hk).1
    have hn : ∀ (l : List (Nat × Nat × Nat)) (k : Nat) (q : Nat × Nat × Nat), l[k]? = some q → nth (0, 0, 0) l k = q := by
      intro l
      induction l with
      | nil => intro k q h; simp at h
      | cons a l ih => intro k q h; cases k with
        | zero => simpa [nth] using h
        | succ k => exact ih k q (by simpa using h)
    have hnq := hn _ _ _ hk
    have s1 := of_decide_eq_true (List.all_eq_true.mp sr_ok k (List.mem_range.mpr hk28))
    have s2 := List.all_eq_true.mp tm_ok k (List.mem_range.mpr hk28)
    rw [hnq] at s1 s2
    simp only [Bool.and_eq_true, Bool.or_eq_true, decide_eq_true_eq] at s2
    obtain ⟨c1, c2⟩ := s2
    obtain ⟨b1, b2, -⟩ := had q.2.2 (Nat.le_of_ble_eq_true c1)
    refine ⟨nth "" txS q.2.2, vk_R.of (A := args) (hts _ (mch_mem (List.mem_of_getElem? s1))) ?_⟩
    rcases c2 with c2 | c2 <;> rw [c2]
    · exact b1
    · exact b2
