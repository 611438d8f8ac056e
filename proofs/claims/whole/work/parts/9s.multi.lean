/-! rows of rows: int[7][320] made by one instruction. By its own text: an outer row of nulls, then seven passes, each of which makes an inner row and puts it into its place. As a state that is: an outer row that has its places already, and seven rows pushed behind it -/
/-- a cell pushed i times -/
def pu (r : Cell) : Nat → State → State
  | 0, S => S
  | i + 1, S => (pu r i S).pushCell r
theorem pu_size (r : Cell) (S : State) : ∀ i, (pu r i S).heap.size = S.heap.size + i
  | 0 => rfl
  | i + 1 => by
    show ((pu r i S).heap.push r).size = _
    rw [Array.size_push, pu_size r S i]
    rfl
theorem pu_vm (r : Cell) (S : State) : ∀ i, (pu r i S).vm = S.vm
  | 0 => rfl
  | i + 1 => pu_vm r S i
theorem pu_slots (r : Cell) (S : State) : ∀ i, (pu r i S).slotsUsed = S.slotsUsed + i * r.slots.size
  | 0 => by rw [Nat.zero_mul]; rfl
  | i + 1 => by
    show (pu r i S).slotsUsed + r.slots.size = _
    rw [pu_slots r S i, Nat.succ_mul, Nat.add_assoc]
theorem pu_old (r : Cell) (S : State) {a : Nat} (h : a < S.heap.size) : ∀ i, (pu r i S).heap[a]? = S.heap[a]?
  | 0 => rfl
  | i + 1 => by
    show ((pu r i S).heap.push r)[a]? = _
    rw [Array.getElem?_push, if_neg (by rw [pu_size]; omega)]
    exact pu_old r S h i
theorem pu_new (r : Cell) (S : State) {j : Nat} : ∀ {i : Nat}, j < i → (pu r i S).heap[S.heap.size + j]? = some r
  | 0, h => absurd h (Nat.not_lt_zero _)
  | i + 1, h => by
    show ((pu r i S).heap.push r)[S.heap.size + j]? = _
    rw [Array.getElem?_push, pu_size]
    by_cases q : j = i
    · rw [if_pos (by rw [q])]
    · rw [if_neg (by omega)]
      exact pu_new r S (by omega)
theorem pu_top (r : Cell) (S : State) (f : JFrame) : ∀ i, pu r i (S.setTop f) = (pu r i S).setTop f
  | 0 => rfl
  | i + 1 => congrArg (fun U : State => U.pushCell r) (pu_top r S f i)
theorem set_push {S : State} {r x : Cell} {a : Nat} (h : a < S.heap.size) : (S.pushCell r).setCell a x = (S.setCell a x).pushCell r := by
  have e : (S.heap.push r).setIfInBounds a x = (S.heap.setIfInBounds a x).push r := Array.ext_getElem? (fun i => by
    rw [Array.getElem?_setIfInBounds, Array.getElem?_push, Array.getElem?_push, Array.getElem?_setIfInBounds, Array.size_push, Array.size_setIfInBounds]
    by_cases q : a = i
    · rw [if_pos q, if_pos (by omega), if_neg (by omega), if_pos q, if_pos h]
    · rw [if_neg q, if_neg q])
  show ({ S with heap := (S.heap.push r).setIfInBounds a x, slotsUsed := S.slotsUsed + r.slots.size } : State) = { S with heap := (S.heap.setIfInBounds a x).push r, slotsUsed := S.slotsUsed + r.slots.size }
  rw [e]
/-- a store into the cell that was pushed last: as if it had been pushed so -/
theorem set_last {S : State} {x y : Cell} (h : x.slots.size = y.slots.size) : (S.pushCell x).setCell S.heap.size y = S.pushCell y := by
  have e : (S.heap.push x).setIfInBounds S.heap.size y = S.heap.push y := Array.ext_getElem? (fun i => by
    rw [Array.getElem?_setIfInBounds, Array.getElem?_push, Array.getElem?_push, Array.size_push]
    by_cases q : S.heap.size = i
    · rw [if_pos q, if_pos (Nat.lt_succ_self _), if_pos q.symm]
    · rw [if_neg q, if_neg (Ne.symm q), if_neg (Ne.symm q)])
  show ({ S with heap := (S.heap.push x).setIfInBounds S.heap.size y, slotsUsed := S.slotsUsed + x.slots.size } : State) = { S with heap := S.heap.push y, slotsUsed := S.slotsUsed + y.slots.size }
  rw [e, h]
/-- a store below and the pushes go past each other -/
theorem pu_set (r x : Cell) {S : State} {a : Nat} (h : a < S.heap.size) : ∀ i, (pu r i S).setCell a x = pu r i (S.setCell a x)
  | 0 => rfl
  | i + 1 => (set_push (by rw [pu_size]; omega)).trans (congrArg (fun U : State => U.pushCell r) (pu_set r x h i))
/-- the outer row with i places filled; an inner row; the machine behind i passes -/
def mro (ca : ClassId) (z i : Nat) : Cell := arrV ca 7 (fun j => if j < i then .ref (z + 1 + j) else .null)
def mrr (cb : ClassId) : Cell := arrV cb 320 (fun _ => .int 0)
def mri (ca cb : ClassId) (U : State) (i : Nat) : State := pu (mrr cb) i (U.pushCell (mro ca U.heap.size i))
theorem mro_put (ca : ClassId) (z i : Nat) : (mro ca z i).setSlot i (.ref (z + 1 + i)) = mro ca z (i + 1) := by
  unfold mro
  rw [arrV_store]
  refine congrArg (arrV ca 7) (funext (fun j => ?_))
  show (if j = i then Value.ref (z + 1 + i) else if j < i then Value.ref (z + 1 + j) else .null) = if j < i + 1 then Value.ref (z + 1 + j) else .null
  rcases Nat.lt_trichotomy j i with q | q | q
  · rw [if_neg (by omega), if_pos q, if_pos (by omega)]
  · rw [if_pos q, if_pos (by omega), q]
  · rw [if_neg (by omega), if_neg (by omega), if_neg (by omega)]
theorem mri_size (ca cb : ClassId) (U : State) (i : Nat) : (mri ca cb U i).heap.size = U.heap.size + 1 + i := by
  unfold mri
  rw [pu_size]
  show (U.heap.push _).size + i = _
  rw [Array.size_push]
theorem mri_slots (ca cb : ClassId) (U : State) (i : Nat) : (mri ca cb U i).slotsUsed = U.slotsUsed + 7 + i * 320 := by
  unfold mri
  rw [pu_slots]
  show U.slotsUsed + (mro ca U.heap.size i).slots.size + i * (mrr cb).slots.size = _
  unfold mro mrr
  rw [arrV_size, arrV_size]
theorem mri_outer (ca cb : ClassId) (U : State) (i : Nat) : (mri ca cb U i).heap[U.heap.size]? = some (mro ca U.heap.size i) := by
  unfold mri
  rw [pu_old _ _ (show U.heap.size < (U.heap.push _).size by rw [Array.size_push]; omega)]
  show (U.heap.push _)[U.heap.size]? = _
  rw [Array.getElem?_push, if_pos rfl]
theorem mri_old (ca cb : ClassId) (U : State) (i : Nat) {a : Nat} (h : a < U.heap.size) : (mri ca cb U i).heap[a]? = U.heap[a]? := by
  unfold mri
  rw [pu_old _ _ (show a < (U.heap.push _).size by rw [Array.size_push]; omega)]
  show (U.heap.push _)[a]? = _
  rw [Array.getElem?_push, if_neg (by omega)]
theorem mri_inner (ca cb : ClassId) (U : State) {i j : Nat} (h : j < i) : (mri ca cb U i).heap[U.heap.size + 1 + j]? = some (mrr cb) := by
  have := pu_new (mrr cb) (U.pushCell (mro ca U.heap.size i)) h
  rw [show (U.pushCell (mro ca U.heap.size i)).heap.size = U.heap.size + 1 from Array.size_push ..] at this
  exact this
theorem mri_next (ca cb : ClassId) (U : State) (i : Nat) : ((mri ca cb U i).pushCell (mrr cb)).setCell U.heap.size (mro ca U.heap.size (i + 1)) = mri ca cb U (i + 1) := by
  show (pu (mrr cb) (i + 1) (U.pushCell (mro ca U.heap.size i))).setCell _ _ = pu (mrr cb) (i + 1) (U.pushCell (mro ca U.heap.size (i + 1)))
  rw [pu_set _ _ (show U.heap.size < (U.heap.push _).size by rw [Array.size_push]; omega), set_last (by unfold mro; rw [arrV_size, arrV_size])]
theorem mri_top (ca cb : ClassId) (U : State) (f : JFrame) (i : Nat) : mri ca cb (U.setTop f) i = (mri ca cb U i).setTop f := pu_top (mrr cb) (U.pushCell (mro ca U.heap.size i)) f i
theorem pu_topj (r : Cell) (S : State) : ∀ i, (pu r i S).topJava? = S.topJava?
  | 0 => rfl
  | i + 1 => pu_topj r S i
theorem mri_topj (ca cb : ClassId) (U : State) (i : Nat) : (mri ca cb U i).topJava? = U.topJava? := pu_topj (mrr cb) (U.pushCell (mro ca U.heap.size i)) i
section MRS
variable {p : Program} {l : Launch} {R : Room} {s : State} {m : MethodId} {args : Array Value} {below : List Frame} {meth : Method} {c : Code} {locs : List Loc} {E : CtlPost} {e : Env}
theorem pu_stand (r : Cell) {S : State} {cells slots : Nat} (X : Stand p l e R s m args below meth c S locs cells slots) : ∀ i, Stand p l e R s m args below meth c (pu r i S) locs (cells + i) (slots + i * r.slots.size)
  | 0 => by rw [Nat.zero_mul]; exact X
  | i + 1 => by
    rw [Nat.succ_mul, ← Nat.add_assoc slots]
    exact (pu_stand r X i).pushed r
theorem mri_stand (ca cb : ClassId) {U : State} {cells slots : Nat} (X : Stand p l e R s m args below meth c U locs cells slots) : Stand p l e R s m args below meth c (mri ca cb U 7) locs (cells + 8) (slots + 2247) := by
  have h := pu_stand (mrr cb) (X.pushed (mro ca U.heap.size 7)) 7
  unfold mro mrr at h
  rw [arrV_size, arrV_size] at h
  exact h
/-- an inner row is made -/
theorem wp_inner {cb cq : ClassId} {kb : Class} {S : State} {d : Bool} {acts : List Action} (h1 : S.vm.classes[cb]? = some kb) (h2 : kb.kind = .array cq .int) (h3 : 536870912 ≤ e.platform.arrayLengthLimit) (h4 : 536870912 ≤ e.platform.maxHeapBytes) (h5 : S.heap.size < e.platform.maxCells) (h6 : S.slotsUsed + 320 ≤ e.platform.maxSlots) {Q : Addr → Pre} (hq : ∀ acts', Q S.heap.size d acts' (S.pushCell (mrr cb))) : wp (multianewarray.make cb [320]) Q E e d acts S := by
  unfold mrr at hq
  rw [← arrV_new] at hq
  rw [multianewarray.make]
  simp only [wp_bind', W.ite, show ¬ (320 : Int32) < 0 by decide, show (320 : Int32).toNatClampNeg = 320 by decide, if_false, wp_pure', W.theClass, h1, h2, Option.some.injEq, exists_eq_left']
  exact W.newArray_of h1 h2 (by omega) (by show ¬ 320 * 4 > _; omega) h5 h6 rfl hq
/-- passes i, i + 1 .. one behind the other, n of them -/
theorem wp_passes {F : Nat → State} {f : Nat → PUnit → Sem (ForInStep PUnit)} {N : Nat} (h : ∀ (i : Nat) (d : Bool) (acts : List Action) (Q : ForInStep PUnit → Pre), i < N → (∀ d' acts', Q (.yield PUnit.unit) d' acts' (F (i + 1))) → wp (f i PUnit.unit) Q E e d acts (F i)) {Q : PUnit → Pre} (hq : ∀ d acts, Q PUnit.unit d acts (F N)) : ∀ (n i : Nat) (d : Bool) (acts : List Action), i + n = N → wp (forIn (List.range' i n 1) PUnit.unit f) Q E e d acts (F i)
  | 0, i, d, acts, hn => by
    rw [show i = N from hn]
    exact hq d acts
  | n + 1, i, d, acts, hn => by
    rw [List.range'_succ, List.forIn_cons, wp_bind']
    exact h i d acts _ (by omega) (fun d' acts' => wp_passes h hq n (i + 1) d' acts' (by omega))
/-- all of it is made -/
theorem wp_rows {ca cb cq : ClassId} {ka kb : Class} {U : State} {d : Bool} {acts : List Action} (h1 : U.vm.classes[ca]? = some ka) (h2 : ka.kind = .array cb (.array .int)) (h3 : U.vm.classes[cb]? = some kb) (h4 : kb.kind = .array cq .int) (h5 : 536870912 ≤ e.platform.arrayLengthLimit) (h6 : 536870912 ≤ e.platform.maxHeapBytes) (h7 : U.heap.size + 8 ≤ e.platform.maxCells) (h8 : U.slotsUsed + 2247 ≤ e.platform.maxSlots) {Q : Addr → Pre} (hq : ∀ d acts, Q U.heap.size d acts (mri ca cb U 7)) : wp (multianewarray.make ca [7, 320]) Q E e d acts U := by
  have hi : U.pushCell { cls := ca, slots := Array.replicate 7 .null } = mri ca cb U 0 := by
    show _ = U.pushCell (mro ca U.heap.size 0)
    unfold mro
    rw [show (fun j : Nat => if j < 0 then Value.ref (U.heap.size + 1 + j) else .null) = fun _ => .null from funext (fun j => if_neg (Nat.not_lt_zero j)), ← arrV_new]
  rw [multianewarray.make]
  simp only [wp_bind', W.ite, show ¬ (7 : Int32) < 0 by decide, show (7 : Int32).toNatClampNeg = 7 by decide, if_false, wp_pure', W.theClass, h1, h2, Option.some.injEq, exists_eq_left']
  refine W.newArray_of h1 h2 (by omega) (by show ¬ 7 * 4 > _; omega) (by omega) (by omega) rfl (fun acts' => ?_)
  rw [hi]
  simp only [show ((7 : Int32) == 0) = false by decide, wp_bind', wp_pure', W.ite]
  rw [if_neg (by decide), Std.Legacy.Range.forIn_eq_forIn_range']
  refine wp_passes (N := 7) (F := mri ca cb U) (fun i d acts Q' hi hn => ?_) (fun d acts => ?_) 7 0 d acts' rfl
  · have hz := mri_size ca cb U i
    have hu := mri_slots ca cb U i
    have hv : (mri ca cb U i).vm = U.vm := pu_vm _ _ i
    simp only [wp_bind']
    refine wp_inner (by rw [hv]; exact h3) h4 h5 h6 (by omega) (by omega) (fun acts' => ?_)
    simp only [wp_bind', W.writeLoc, wp_pure']
    refine ⟨mro ca U.heap.size i, ?_, ?_, ?_, ?_, ?_⟩
    · show ((mri ca cb U i).heap.push _)[U.heap.size]? = _
      rw [Array.getElem?_push, if_neg (by omega)]
      exact mri_outer ca cb U i
    · intro h
      cases h
    · unfold mro
      rw [arrV_size]
      exact hi
    · simp [State.fitsSlot, State.slotType?, mro, arrV, hv, h1, h2, fits]
    · rw [hz, mro_put, mri_next]
      exact hn _ _
  · simp only [wp_pure']
    exact hq d acts
/-- the instruction: the class is found, both lengths are taken, the rows are made, the outer one is pushed -/
theorem wp_sem7 {ca cb cq : ClassId} {ka kb : Class} {T : State} {v : Vm} {g : JFrame} {index : Nat} {rest : List Value} {d : Bool} {acts : List Action} (ht : T.topJava?.isSome) (hst : g.stack = .int 320 :: .int 7 :: rest) (hr : (Jvm.resolveClass g.method.cls index).Gives e.toSetting T.vm (.ok ca) v) (hsz : v.classes.size ≤ T.vm.classes.size) (h1 : v.classes[ca]? = some ka) (h2 : ka.kind = .array cb (.array .int)) (h3 : v.classes[cb]? = some kb) (h4 : kb.kind = .array cq .int) (h5 : 536870912 ≤ e.platform.arrayLengthLimit) (h6 : 536870912 ≤ e.platform.maxHeapBytes) (h7 : T.heap.size + 8 ≤ e.platform.maxCells) (h8 : T.slotsUsed + 2247 ≤ e.platform.maxSlots) {Q : Unit → Pre} (hq : ∀ d acts, Q () d acts ((mri ca cb (T.setVm v) 7).setTop { g with stack := .ref T.heap.size :: rest })) : wp (multianewarray.sem index 2) Q E e d acts (T.setTop g) := by
  have hm : (mri ca cb (T.setVm v) 7).topJava?.isSome := by rw [mri_topj]; exact ht
  simp only [multianewarray.sem, wp_bind', W.resolveClassAt_links (State.method?_setTop g ht) hr hsz]
  refine (popN_top (s := T.setVm v) (f := g) (args := [.int 7, .int 320]) (rest := rest) ht hst).mpr ?_
  simp only [List.mapM_cons, List.mapM_nil, wp_bind', wp_pure']
  refine wp_rows (U := (T.setVm v).setTop { g with stack := rest }) h1 h2 h3 h4 h5 h6 h7 h8 (fun d acts => ?_)
  rw [mri_top, wp_bind', W.mark, W.pushRef]
  refine ⟨_, State.topJava?_setTop' _ hm, ?_⟩
  rw [State.setTop_setTop]
  exact hq _ _
theorem mrows {T : State} {cells slots : Nat} (X : Stand p l e R s m args below meth c T locs cells slots) (hexec : p.tables.exec = Jvm.exec) {own : String} {index : Nat} (hown : s.vm.findClass own = some m.cls) (hcl : (Cond.classLink own index "[[I").before args s = true) {ca cb cq : ClassId} {ka kb : Class} (hca : s.vm.findClass "[[I" = some ca) (h1 : s.vm.classes[ca]? = some ka) (h2 : ka.kind = .array cb (.array .int)) (h3 : s.vm.classes[cb]? = some kb) (h4 : kb.kind = .array cq .int) (hcells : cells + 8 ≤ R.cells) (hslots : slots + 2247 ≤ R.slots) {pc : Nat} {ls : Array Slot} {rest : List Value} (hdg : decode c.code pc = .ok (.multianewarray index 2, 4)) : ∃ v : Vm, Stand p l e R s m args below meth c (mri ca cb (T.setVm v) 7) locs (cells + 8) (slots + 2247) ∧ ∀ t, Steps p.tables e below ((mri ca cb (T.setVm v) 7).setTop (F0 m (pc + 4) ls (.ref T.heap.size :: rest))) t → Steps p.tables e below (T.setTop (F0 m pc ls (.int 320 :: .int 7 :: rest))) t := by
  obtain ⟨c0, q0, q1⟩ := Cond.classLink_spec hown hcl e.platform (by rw [X.admits.platform])
  obtain rfl : ca = c0 := Option.some.inj (hca.symm.trans q0)
  obtain ⟨w0, w1, -⟩ := State.classEntry (e := e) X.warmed q1
  obtain ⟨v, hv⟩ : ∃ v, T.vm.noted m.cls index (.cls ca) = v := ⟨_, rfl⟩
  rw [hv] at w0 w1
  obtain ⟨ka1, b1, b2⟩ := w1.alike.2.2 _ _ h1
  obtain ⟨kb1, b3, b4⟩ := w1.alike.2.2 _ _ h3
  obtain ⟨r1, r2⟩ := X.roomAbove hcells hslots
  have X7 := mri_stand ca cb (X.noted w1)
  refine ⟨v, X7, fun t st => ?_⟩
  jvm_step X.here [hexec, hdg]
  refine wp_sem7 (ka := ka1) (kb := kb1) (cb := cb) (cq := cq) (v := v) X.here.top rfl w0 (by no_record) b1 (by rw [b2]; exact h2) b3 (by rw [b4]; exact h4) (by rw [Launch.admits_arrayLengthLimit X.admits]; decide) (by rw [Launch.admits_maxHeapBytes X.admits]; decide) r1 r2 (fun d acts => ?_)
  intro acts
  simp [jvm, X7.here.top]
  exact st
end MRS
