/-! rows of rows: int[7][320] made at once; a row of scripts, and its places -/
def mo (h : Nat) : Nat → Nat → Value
  | 0 => fun _ => .null
  | i + 1 => updV (mo h i) i (.ref (h + 1 + i))
theorem mo_at (h : Nat) : ∀ (i j : Nat), j < i → mo h i j = .ref (h + 1 + j)
  | 0, _, q => absurd q (Nat.not_lt_zero _)
  | i + 1, j, q => by
    show updV (mo h i) i (.ref (h + 1 + i)) j = _
    unfold updV
    by_cases e : j = i
    · rw [if_pos e, e]
    · rw [if_neg e]
      exact mo_at h i j (by omega)
/-- the machine with i of the rows made -/
def mst (T : State) (ca cb : ClassId) : Nat → State
  | 0 => T.pushCell (arrV ca 7 (mo T.heap.size 0))
  | i + 1 => ((mst T ca cb i).pushCell (arrV cb 320 (fun _ => .int 0))).setCell T.heap.size (arrV ca 7 (mo T.heap.size (i + 1)))
def mstF (T : State) (ca cb : ClassId) (i : Nat) : Prop := (mst T ca cb i).heap.size = T.heap.size + 1 + i ∧ (mst T ca cb i).heap[T.heap.size]? = some (arrV ca 7 (mo T.heap.size i)) ∧ (mst T ca cb i).vm = T.vm ∧ (mst T ca cb i).slotsUsed = T.slotsUsed + 7 + i * 320 ∧ (∀ a : Nat, a < T.heap.size → (mst T ca cb i).heap[a]? = T.heap[a]?) ∧ ∀ j : Nat, j < i → (mst T ca cb i).heap[T.heap.size + 1 + j]? = some (arrV cb 320 (fun _ => .int 0))
theorem mst_f (T : State) (ca cb : ClassId) : ∀ i, mstF T ca cb i
  | 0 => ⟨by simp [mst], by simp [mst], rfl, by simp [mst, arrV_size], fun a h => State.heap_pushCell_of_lt _ _ h, fun j h => absurd h (Nat.not_lt_zero _)⟩
  | i + 1 => by
    obtain ⟨h1, h2, h3, h4, h5, h6⟩ := mst_f T ca cb i
    have k1 : T.heap.size < (mst T ca cb i).heap.size := by rw [h1]; omega
    have k2 : ((mst T ca cb i).pushCell (arrV cb 320 (fun _ => .int 0))).heap[T.heap.size]? = some (arrV ca 7 (mo T.heap.size i)) := by rw [State.heap_pushCell_of_lt (h := k1)]; exact h2
    refine ⟨?_, State.heap_setCell_self k2, by simp [mst, h3], ?_, fun a h => ?_, fun j h => ?_⟩
    · simp [mst, State.setCell, h1]
      omega
    · simp [mst, h4, arrV_size]
      omega
    · show (State.setCell _ T.heap.size _).heap[a]? = _
      rw [State.heap_setCell_other (Nat.ne_of_gt h), State.heap_pushCell_of_lt (h := Nat.lt_trans h k1)]
      exact h5 a h
    · show (State.setCell _ T.heap.size _).heap[T.heap.size + 1 + j]? = _
      rw [State.heap_setCell_other (show T.heap.size ≠ T.heap.size + 1 + j by omega)]
      by_cases e : j = i
      · subst e
        rw [← h1]
        exact State.heap_pushCell_size _ _
      · have hj : T.heap.size + 1 + j < (mst T ca cb i).heap.size := by rw [h1]; omega
        rw [State.heap_pushCell_of_lt (h := hj)]
        exact h6 j (by omega)
theorem mst_top (T : State) (f : JFrame) (ca cb : ClassId) : ∀ i, mst (T.setTop f) ca cb i = (mst T ca cb i).setTop f
  | 0 => rfl
  | i + 1 => by
    show ((mst (T.setTop f) ca cb i).pushCell _).setCell T.heap.size _ = _
    rw [mst_top T f ca cb i]
    rfl
theorem mst_st {p : Program} {l : Launch} {e : Env} {R : Room} {s : State} {m : MethodId} {args : Array Value} {below : List Frame} {meth : Method} {c : Code} {T : State} {locs : List Loc} {cells slots : Nat} (X : Stand p l e R s m args below meth c T locs cells slots) (ca cb : ClassId) : ∀ i, ∃ L : List Loc, (∀ q ∈ L, q.base = T.heap.size) ∧ Stand p l e R s m args below meth c (mst T ca cb i) (locs ++ L) (cells + (1 + i)) (slots + (7 + i * 320))
  | 0 => by
    have h := X.pushed (arrV ca 7 (mo T.heap.size 0))
    rw [arrV_size] at h
    exact ⟨[], fun _ q => absurd q List.not_mem_nil, by simpa [mst] using h⟩
  | i + 1 => by
    obtain ⟨L, hL, Xi⟩ := mst_st X ca cb i
    obtain ⟨h1, h2, -⟩ := mst_f T ca cb i
    have k1 : T.heap.size < (mst T ca cb i).heap.size := by rw [h1]; omega
    have k2 : ((mst T ca cb i).pushCell (arrV cb 320 (fun _ => .int 0))).heap[T.heap.size]? = some (arrV ca 7 (mo T.heap.size i)) := by rw [State.heap_pushCell_of_lt (h := k1)]; exact h2
    have h := (Xi.pushed (arrV cb 320 (fun _ => .int 0))).stored k2 i (.ref (T.heap.size + 1 + i))
    rw [arrV_size, arrV_store] at h
    refine ⟨L ++ [⟨T.heap.size, i⟩], fun q hq => ?_, ?_⟩
    · rcases List.mem_append.mp hq with h | h
      · exact hL q h
      · rw [List.mem_singleton.mp h]
    · rw [← List.append_assoc, show cells + (1 + (i + 1)) = cells + (1 + i) + 1 by omega, show slots + (7 + (i + 1) * 320) = slots + (7 + i * 320) + 320 by omega]
      exact h
section WPM
variable {E : CtlPost} {e : Env} {d : Bool} {acts : List Action} {S : State}
theorem wp_na {c cp : ClassId} {kc : Class} {ty : FieldType} {n : Nat} {v : Value} (h1 : S.vm.classes[c]? = some kc) (h2 : kc.kind = .array cp ty) (h3 : ¬ n > e.platform.arrayLengthLimit) (h4 : ¬ n * componentBytes ty > e.platform.maxHeapBytes) (h5 : fits ty v = true) (h6 : v.isDefault = true) (h7 : S.heap.size < e.platform.maxCells) (h8 : S.slotsUsed + n ≤ e.platform.maxSlots) {Q : Addr → Pre} (hq : Q S.heap.size d acts (S.pushCell (arrV c n (fun _ => v)))) : wp (Jvm.newArray c n v) Q E e d acts S := by
  have e1 : allocActs (Array.replicate n v) S.heap.size acts = acts := by
    unfold allocActs
    rw [if_pos (Array.all_eq_true.mpr (fun i hi => by simp [h6]))]
  have e2 : ∀ i w, (Array.replicate n v)[i]? = some w → S.fitsSlot c .none i w = true := fun i w hw => by
    rw [Array.getElem?_replicate] at hw
    split at hw
    · cases hw
      simp [State.fitsSlot, State.slotType?, h1, h2, h5]
    · cases hw
  rw [← arrV_new] at hq
  have h9 : ¬ n > e.platform.maxSlots := by omega
  simp only [Jvm.newArray, Jvm.arrayFits, wp_bind', W.ask, W.ite, wp_pure', W.theClass, W.alloc, W.stop, h1, h2, h3, h4, h9, if_false, Option.some.injEq, exists_eq_left', Array.size_replicate, e1]
  exact ⟨h7, h8, e2, hq⟩
theorem wp_mk {ca cb cc : ClassId} {ka kb : Class} (h1 : S.vm.classes[ca]? = some ka) (h2 : ka.kind = .array cb (.array .int)) (h3 : S.vm.classes[cb]? = some kb) (h4 : kb.kind = .array cc .int) (h5 : 536870912 ≤ e.platform.arrayLengthLimit) (h6 : 536870912 ≤ e.platform.maxHeapBytes) (h7 : S.heap.size + 8 ≤ e.platform.maxCells) (h8 : S.slotsUsed + 2247 ≤ e.platform.maxSlots) {Q : Addr → Pre} (hq : ∀ d acts, Q S.heap.size d acts (mst S ca cb 7)) : wp (multianewarray.make ca [7, 320]) Q E e d acts S := by
  have n7 : ¬ (7 : Int32) < 0 := by decide
  have n0 : ((7 : Int32) == 0) = false := by decide
  have t7 : (7 : Int32).toNatClampNeg = 7 := by decide
  have n3 : ¬ (320 : Int32) < 0 := by decide
  have t3 : (320 : Int32).toNatClampNeg = 320 := by decide
  have b1 : ¬ 7 * componentBytes (.array .int) > e.platform.maxHeapBytes := by
    show ¬ 7 * 4 > _
    omega
  have b2 : ¬ 320 * componentBytes .int > e.platform.maxHeapBytes := by
    show ¬ 320 * 4 > _
    omega
  rw [multianewarray.make]
  simp only [wp_bind', W.ite, n7, if_false, wp_pure', W.theClass, h1, h2, Option.some.injEq, exists_eq_left', t7]
  refine wp_na h1 h2 (by omega) b1 rfl rfl (by omega) (by omega) ?_
  simp only [n0, wp_bind', wp_pure', W.ite]
  rw [if_neg (by decide), Std.Legacy.Range.forIn_eq_forIn_range']
  refine wp_forIn_inv (fun rest st => ∃ i, i ≤ 7 ∧ rest = List.range' i (7 - i) 1 ∧ st = mst S ca cb i) _ _ ⟨0, by omega, rfl, rfl⟩ ?_ ?_
  · rintro x rest st d' acts' Q' ⟨i, hi, hl, rfl⟩ hnext
    have hlt : i < 7 := by
      rcases Nat.lt_or_ge i 7 with q | q
      · exact q
      · rw [show 7 - i = 0 by omega] at hl
        cases hl
    rw [show 7 - i = (7 - (i + 1)) + 1 by omega, List.range'_succ] at hl
    obtain ⟨rfl, hrest⟩ := List.cons.inj hl
    obtain ⟨f1, f2, f3, f4, -, -⟩ := mst_f S ca cb x
    have f5 : (mst S ca cb x).vm.classes[cb]? = some kb := by rw [f3]; exact h3
    have k1 : S.heap.size < (mst S ca cb x).heap.size := by rw [f1]; omega
    rw [multianewarray.make]
    simp only [wp_bind', W.ite, n3, if_false, wp_pure', W.theClass, f5, h4, Option.some.injEq, exists_eq_left', t3]
    refine wp_na f5 h4 (by omega) b2 rfl rfl (by rw [f1]; omega) (by rw [f4]; omega) ?_
    simp only [wp_bind', W.writeLoc, wp_pure']
    refine ⟨arrV ca 7 (mo S.heap.size x), by rw [State.heap_pushCell_of_lt (h := k1)]; exact f2, by simp [arrV], by rw [arrV_size]; exact hlt, ?_, hnext _ _ _ ⟨x + 1, hlt, hrest, ?_⟩⟩
    · have f6 : ((mst S ca cb x).pushCell (arrV cb 320 fun _ => Value.int 0)).vm.classes[ca]? = some ka := by
        show (mst S ca cb x).vm.classes[ca]? = _
        rw [f3]
        exact h1
      simp [State.fitsSlot, State.slotType?, arrV, f6, h2, fits, f3, h1]
    · rw [arrV_store, f1]
      rfl
  · rintro st d' acts' ⟨i, hi, hl, rfl⟩
    have h7i : i = 7 := by
      rcases Nat.lt_or_ge i 7 with q | q
      · rw [show 7 - i = (7 - (i + 1)) + 1 by omega, List.range'_succ] at hl
        cases hl
      · omega
    subst h7i
    simp only [wp_pure']
    exact hq d' acts'
end WPM
