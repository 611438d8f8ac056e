/-! the start: what the two constructors lay. A cell that is made lies behind all cells before it: the room counts them -/
def nst : List (String × Nat × Jvm.MethodName × String) := [("ValueDays", 11, ⟨"ValueDays$Tape", "<init>", "()V"⟩, "ValueDays"), ("ValueDays$Reader", 11, ⟨"ValueDays$Script", "<init>", "()V"⟩, "ValueDays"), ("ValueDays", 29, ⟨"ValueDays$Script", "<init>", "()V"⟩, "ValueDays"), ("ValueDays", 40, ⟨"ValueDays$Ledger", "<init>", "()V"⟩, "ValueDays"), ("ValueDays$Ledger", 11, ⟨"ValueDays$Terms", "<init>", "()V"⟩, "ValueDays"), ("ValueDays$Ledger", 20, ⟨"ValueDays$Entries", "<init>", "()V"⟩, "ValueDays")]
/-- rows of rows of ints: both classes -/
def AOI (dA : Nat → ClassId) (U : State) : Prop := U.vm.findClass "[[I" = some (dA 5) ∧ (∃ k, U.vm.classes[dA 5]? = some k ∧ k.kind = .array (dA 0) (.array .int)) ∧ ∃ k cc, U.vm.classes[dA 0]? = some k ∧ k.kind = .array cc .int
theorem AOI.moved {dA : Nat → ClassId} {u U : State} (hvm : u.vm.Alike U.vm) (h : AOI dA u) : AOI dA U := by
  obtain ⟨h1, ⟨k, h2, h3⟩, k2, cc, h4, h5⟩ := h
  obtain ⟨k', a1, a2⟩ := hvm.2.2 _ _ h2
  obtain ⟨k2', b1, b2⟩ := hvm.2.2 _ _ h4
  exact ⟨by rw [hvm.findClass]; exact h1, ⟨k', a1, by rw [a2]; exact h3⟩, k2', cc, b1, by rw [b2]; exact h5⟩
def Ko (D : va_G) (dA : Nat → ClassId) (U : State) : Prop := va_K D vwCl (tys dA) U ∧ va_AO "ValueDays$Script" U ∧ AOI dA U ∧ ∀ q ∈ nst, va_Nw (.methodLinkNest q.1 q.2.1 q.2.2.1 q.2.2.2) U
theorem Ko.moved {D : va_G} {dA : Nat → ClassId} {u U : State} (hW : u.WarmedH U.vm) (h : Ko D dA u) : Ko D dA U := ⟨va_K.moved hW.alike h.1, va_AO.moved hW.alike h.2.1, h.2.2.1.moved hW.alike, fun q hq => va_Nw.warmM hW (h.2.2.2 q hq)⟩
theorem W_sz {p : Program} {l : Launch} {e : Env} {R : Room} {s : State} {m : MethodId} {args : Array Value} {below : List Frame} {meth : Method} {c : Code} {H : Heap} {locs : List Loc} {cells slots : Nat} {Q : State → Prop} {g : JFrame} (h : H.size ≤ s.heap.size + cells → W p l e R s m args below meth c H locs cells slots Q g) : W p l e R s m args below meth c H locs cells slots Q g :=
  fun T hT X => h (by have := X.heapSize; rw [hT] at this; exact this) T hT X
/-- which cells may change, and where new ones lie -/
def Ax (A0 : Nat → Prop) (hs : List Nat) (sz : Nat) : Prop := (∀ q, sz ≤ q → A0 q) ∧ ∀ q, A0 q → q ∈ hs ∨ sz ≤ q
theorem Ax.of {ws : va_W} {sz : Nat} : Ax (va_A ws sz) (ws.map (fun q => q.1)) sz := ⟨fun q h => Or.inr h, fun q h => by
  rcases h with ⟨k, e, h⟩ | h
  · exact Or.inl (List.mem_map.mpr ⟨(q, e), List.mem_of_getElem? h, rfl⟩)
  · exact Or.inr h⟩
theorem new_at {D : va_G} {cl : List vw_C} {ws : va_W} {e : va_E} {H1 : Heap} {A0 : Nat → Prop} {hs : List Nat} {sz k q : Nat} (hP : va_P D cl (ws ++ [(q, e)]) H1) (hD : va_D A0 (ws ++ [(q, e)])) (hb : H1.size ≤ sz + (k + 1)) (hA : Ax A0 hs sz) (hm : ws.map (fun q => q.1) = hs ++ (List.range k).map (fun i => sz + i)) : q = sz + k := by
  have hl : (ws ++ [(q, e)])[ws.length]? = some (q, e) := by simp
  have hq : A0 q := hD.2 ws.length (q, e) hl
  have hlt : q < H1.size := (hP ws.length (q, e) hl).lt
  have hno : q ∉ ws.map (fun q => q.1) := by
    intro h
    obtain ⟨x, hx, ex⟩ := List.mem_map.mp h
    obtain ⟨i, hi⟩ := List.getElem?_of_mem hx
    have hil : i < ws.length := (List.getElem?_eq_some_iff.mp hi).1
    have := hD.1 i ws.length x (q, e) (by rw [List.getElem?_append_left hil]; exact hi) hl ex
    omega
  rw [hm] at hno
  rcases hA.2 q hq with h | h
  · exact absurd (List.mem_append_left _ h) hno
  · have : ¬ q < sz + k := fun h2 => hno (List.mem_append_right _ (List.mem_map.mpr ⟨q - sz, List.mem_range.mpr (by omega), by omega⟩))
    omega
/-- the world while it grows: k cells are made -/
def Gw (D : va_G) (A0 : Nat → Prop) (hs : List Nat) (k : Nat) (ws : va_W) (s : State) (H : Heap) (locs : List Loc) : Prop := va_P D vwCl ws H ∧ va_D A0 ws ∧ va_S A0 s.heap H locs ∧ ws.map (fun q => q.1) = hs ++ (List.range k).map (fun i => s.heap.size + i)
theorem Gw.size {D : va_G} {A0 : Nat → Prop} {hs : List Nat} {k : Nat} {ws : va_W} {s : State} {H : Heap} {locs : List Loc} (g : Gw D A0 hs k ws s H locs) (h : H.size ≤ s.heap.size + k) : H.size = s.heap.size + k := by
  obtain ⟨hP, hD, hS, hm⟩ := g
  have h1 := hS.1
  rcases Nat.eq_zero_or_pos k with h0 | h0
  · omega
  · have : s.heap.size + (k - 1) ∈ ws.map (fun q => q.1) := by
      rw [hm]
      exact List.mem_append_right _ (List.mem_map.mpr ⟨k - 1, List.mem_range.mpr (by omega), rfl⟩)
    obtain ⟨x, hx, ex⟩ := List.mem_map.mp this
    obtain ⟨i, hi⟩ := List.getElem?_of_mem hx
    have := (hP i x hi).lt
    omega
/-- a constructor's contract -/
def Ct (l : Launch) (D : va_G) (dA : Nat → ClassId) (y : Jvm.MethodName) (bytes : ByteArray) (nL : Nat) (rf rl mc ms : Nat) (av : List Value) (ws0 ws1 : va_W) (sz : Nat) : Prop :=
  Met l y (.code y bytes nL none :: mT) { frames := rf, cells := mc, slots := ms, locals := rl } (va_Pc av (fun U => U.heap.size = sz ∧ va_P D vwCl ws0 U.heap ∧ Ko D dA U ∧ va_D (fun _ => True) ws0)) (va_Qv (fun _ : Unit => True) (fun _ t => va_P D vwCl ws1 t.heap ∧ va_D (va_A ws0 sz) ws1) (va_A ws0 sz)) mc ms (va_A ws0 sz)
section KR
variable {p : Program} {l : Launch} {e : Env} {R : Room} {s : State} {m : MethodId} {args : Array Value} {below : List Frame} {meth : Method} {c : Code} {H : Heap} {locs : List Loc} {slots : Nat} {Q : State → Prop} {cc : ByteArray} {pc : Nat} {ls : Array Slot} {rest : List Value}
variable {D : va_G} {dA : Nat → ClassId} {A0 : Nat → Prop} {hs : List Nat} {k : Nat} {ws : va_W} {own : String} {nL : Nat}
/-- what stays while a method runs -/
def Kx (p : Program) (s : State) (m : MethodId) (args : Array Value) (c : Code) (cc : ByteArray) (nL : Nat) (own : String) (D : va_G) (dA : Nat → ClassId) : Prop := CallFix p m c cc nL s args mT own ∧ Ko D dA s
theorem k_newa (kx : Kx p s m args c cc nL own D dA) (ax : Ax A0 hs s.heap.size) (gw : Gw D A0 hs k ws s H locs) (t : Nat) {atype : ArrayType} {ty : FieldType} (harr : Cond.arrayClass ty ∈ mT) (hty : newarray.typeOf atype = ty) (ht : (tys dA)[t]? = some (dA t, ty)) (hra : ∀ (U : State) (cA : ClassId), va_RA U cA ty → U.vm.findClass ("[" ++ ty.toString) = some cA)
    {n : Int32} {N' : Nat} {a0 : vp_A} (ha : ∀ cA : ClassId, vp_cell cA a0 = arrV cA N' (fun _ => defaultValue ty)) (hn : ¬ n < 0) (hN : n.toNatClampNeg = N') (hbytes : N' * componentBytes ty ≤ 536870912) (hcells : k + 1 ≤ R.cells) (hslots : slots + N' ≤ R.slots) (hdg : decode cc pc = .ok (.newarray atype, 2))
    (kk : ∀ (H1 : Heap), Gw D A0 hs (k + 1) (ws ++ [(s.heap.size + k, .inl (dA t, a0))]) s H1 locs → W p l e R s m args below meth c H1 locs (k + 1) (slots + N') Q (F0 m (pc + 2) ls (.ref (s.heap.size + k) :: rest))) : W p l e R s m args below meth c H locs k slots Q (F0 m pc ls (.int n :: rest)) := by
  obtain ⟨⟨hx, hb, hml, hown, hts⟩, hK, -⟩ := kx
  obtain ⟨hP, hD, hS, hm⟩ := gw
  refine va_newa (atype := atype) (ty := ty) hx hb (by subst hty; exact hts _ harr) hty hK hP hD hS ax.1 ha hn hN hbytes hcells hslots hdg (fun q cA H1 hK1 hP1 hD1 hS1 => ?_)
  refine W_sz (fun hz => ?_)
  have hq := new_at hP1 hD1 hz ax hm
  have hcA : cA = dA t := by
    have h1 := hra _ _ (hK1.2 (tys dA).length (cA, ty) (by simp)).2
    have h2 := hra _ _ (hK.2 t _ ht).2
    exact Option.some.inj (h1.symm.trans h2)
  subst hq
  subst hcA
  exact kk H1 ⟨hP1, hD1, hS1, by rw [List.map_append, hm, List.range_succ, List.map_append, List.append_assoc]; rfl⟩
theorem k_new (kx : Kx p s m args c cc nL own D dA) (ax : Ax A0 hs s.heap.size) (gw : Gw D A0 hs k ws s H locs) {ci index N : Nat} {C : String} {T : u_T} (ty : Nat → FieldType) (hty : ∀ k, k < N → parseFieldDescriptor (T k).2.2.1 = some (ty k)) (hc : vwCl[ci]? = some (C, T, N)) (hcl : Cond.classLink own index C ∈ mT) (hinst : Cond.instantiable C N ∈ mT) (hini : Cond.initialized C ∈ mT) {fs : List Value} (hfs : ∀ j, j < N → defaultValue (ty j) = vp_V fs j) (hcells : k + 1 ≤ R.cells) (hslots : slots + N ≤ R.slots) (hdg : decode cc pc = .ok (.new index, 3))
    (kk : ∀ (H1 : Heap), Gw D A0 hs (k + 1) (ws ++ [(s.heap.size + k, .inr (ci, fs))]) s H1 locs → W p l e R s m args below meth c H1 locs (k + 1) (slots + N) Q (F0 m (pc + 3) ls (.ref (s.heap.size + k) :: rest))) : W p l e R s m args below meth c H locs k slots Q (F0 m pc ls rest) := by
  obtain ⟨⟨hx, hb, hml, hown, hts⟩, hK, -⟩ := kx
  obtain ⟨hP, hD, hS, hm⟩ := gw
  refine va_new (ci := ci) (fs := fs) hx hb hts (uws_in _ (List.mem_of_getElem? hc)) ty hty hown (hts _ hcl) (hts _ hinst) (hts _ hini) hK hP hD hS ax.1 hc hfs hcells hslots hdg (fun q H1 hP1 hD1 hS1 => ?_)
  refine W_sz (fun hz => ?_)
  have hq := new_at hP1 hD1 hz ax hm
  subst hq
  exact kk H1 ⟨hP1, hD1, hS1, by rw [List.map_append, hm, List.range_succ, List.map_append, List.append_assoc]; rfl⟩
theorem map_set_fst {a : Nat} {e e' : va_E} : ∀ {ws : va_W} {q0 : Nat}, ws[q0]? = some (a, e) → (ws.set q0 (a, e')).map (fun q => q.1) = ws.map (fun q => q.1)
  | [], _, h => by simp at h
  | x :: ws, 0, h => by
    simp at h
    simp [h]
  | x :: ws, n + 1, h => by
    have := map_set_fst (e' := e') (ws := ws) (q0 := n) (by simpa using h)
    simp [this]
theorem k_put (kx : Kx p s m args c cc nL own D dA) (gw : Gw D A0 hs k ws s H locs) {a ci index N : Nat} {C : String} {T : u_T} (q0 : Nat) {fs : List Value} (he : ws[q0]? = some (a, .inr (ci, fs))) (hc : vwCl[ci]? = some (C, T, N)) (j : Nat) (hj : j < N) (hlink : Cond.fieldLink own index C (T j).2.1 (T j).2.2.1 ∈ mT) (h1 : (T j).1 = C) (hfin : (T j).2.2.2 = false ∨ ((T j).2.2.2 = true ∧ meth.name = "<init>" ∧ (T j).1 = own)) {ty : FieldType} {v : Value} (hd : parseFieldDescriptor (T j).2.2.1 = some ty) (hn : narrow ty v = v) (hfit : fits ty v = true) (hl : j < fs.length) (hdg : decode cc pc = .ok (.putfield index, 3)) {cells : Nat} {ws' : va_W} (hw : ws.set q0 (a, .inr (ci, fs.set j v)) = ws')
    (kk : ∀ (H1 : Heap) (locs1 : List Loc), Gw D A0 hs k ws' s H1 locs1 → W p l e R s m args below meth c H1 locs1 cells slots Q (F0 m (pc + 3) ls rest)) : W p l e R s m args below meth c H locs cells slots Q (F0 m pc ls (v :: .ref a :: rest)) := by
  obtain ⟨⟨hx, hb, hml, hown, hts⟩, hK, -⟩ := kx
  obtain ⟨hP, hD, hS, hm⟩ := gw
  obtain ⟨⟨ty0, hty⟩, hnm⟩ := cls_ty hc
  subst hw
  rcases hfin with hfin | ⟨hfin, hin, hdecl⟩
  · exact va_put (ci := ci) (ref := C) hx hb hts (uws_in _ (List.mem_of_getElem? hc)) ty0 hty hnm hown hK hP hD hS q0 he hc j hj (hts _ hlink) (fun x q => by rw [h1] at q; exact q) hfin hd hn hfit hl hdg (fun H1 locs1 hP1 hD1 hS1 => kk H1 locs1 ⟨hP1, hD1, hS1, by rw [map_set_fst he]; exact hm⟩)
  · exact va_putF (ci := ci) (ref := C) hx hb hts (uws_in _ (List.mem_of_getElem? hc)) ty0 hty hnm hown hK hP hD hS q0 he hc j hj (hts _ hlink) (fun x q => by rw [h1] at q; exact q) hfin hin hdecl hd hn hfit hl hdg (fun H1 locs1 hP1 hD1 hS1 => kk H1 locs1 ⟨hP1, hD1, hS1, by rw [map_set_fst he]; exact hm⟩)
theorem k_get (kx : Kx p s m args c cc nL own D dA) (gw : Gw D A0 hs k ws s H locs) {a ci index N : Nat} {C : String} {T : u_T} (q0 : Nat) {fs : List Value} (he : ws[q0]? = some (a, .inr (ci, fs))) (hc : vwCl[ci]? = some (C, T, N)) (j : Nat) (hj : j < N) (hlink : Cond.fieldLink own index C (T j).2.1 (T j).2.2.1 ∈ mT) (h1 : (T j).1 = C) {v : Value} (hv : fs[j]? = some v) (hdg : decode cc pc = .ok (.getfield index, 3)) {cells : Nat}
    (kk : W p l e R s m args below meth c H locs cells slots Q (F0 m (pc + 3) ls (v :: rest))) : W p l e R s m args below meth c H locs cells slots Q (F0 m pc ls (.ref a :: rest)) := by
  obtain ⟨⟨hx, hb, hml, hown, hts⟩, hK, -⟩ := kx
  exact va_get (ci := ci) (ref := C) hx hb hts (uws_in _ (List.mem_of_getElem? hc)) hown hK gw.1 q0 he hc j hj (hts _ hlink) (fun x q => by rw [h1] at q; exact q) hv hdg kk
/-- behind a constructor's call -/
theorem k_back {y : Jvm.MethodName} {bytes : ByteArray} {maxL rf rl mc ms : Nat} {As : List Value} {a : Nat} {wc w1 wr ws' : va_W} {st0 : List Value} {ar : Array Value} (ax : Ax A0 hs s.heap.size) (gw : Gw D A0 hs k ws s H locs) (isC isR ip : List Nat) (hC : isC.map (fun i => ws[i]?) = wc.map some) (hR : isR.map (fun i => ws[i]?) = wr.map some) (hn : va_nd isR = true) (hdis : ∀ i ∈ isR, i ∉ isC) (hp : va_nd ip = true) (hip : ip.map (fun i => (wr ++ w1)[i]?) = ws'.map some) (hm : ws'.map (fun q => q.1) = hs ++ (List.range (k + mc)).map (fun i => s.heap.size + i)) (hsz : H.size = s.heap.size + k)
    (hr : va_Run p l e R s m args below meth c H locs k slots mc ms (F0 m pc ls st0) rest (va_Qv (fun _ : Unit => True) (fun _ t => va_P D vwCl w1 t.heap ∧ va_D (va_A wc (s.heap.size + k)) w1) (va_A wc (s.heap.size + k)) ar) (va_A wc (s.heap.size + k)))
    (kk : ∀ (H1 : Heap) (locs1 : List Loc), Gw D A0 hs (k + mc) ws' s H1 locs1 → W p l e R s m args below meth c H1 locs1 (k + mc) (slots + ms) Q (F0 m (pc + 3) ls rest)) : W p l e R s m args below meth c H locs k slots Q (F0 m pc ls st0) := by
  obtain ⟨hP, hD, hS, -⟩ := gw
  have hFc := va_free (wc := wc) hD hS ax.1 isC hC
  rw [← hsz] at hr
  refine va_callv hr hS (fun q _ h => hFc q h) hFc (fun u t H1 locs1 ht hvm hw hB hz1 hk1 hS1 => ?_)
  obtain ⟨hP1, hD1⟩ := hB
  rw [ht] at hP1
  obtain ⟨hP2, hD2⟩ := va_join hP hD isC isR hC hR hn hdis hk1 hFc hP1 hD1
  have hs2 : ip.filterMap (fun i => (wr ++ w1)[i]?) = ws' := by
    have h1 : ∀ (is : List Nat) (w : va_W), is.map (fun i => (wr ++ w1)[i]?) = w.map some → is.filterMap (fun i => (wr ++ w1)[i]?) = w := by
      intro is
      induction is with
      | nil => intro w h; cases w with
        | nil => rfl
        | cons x w => simp at h
      | cons i is ih => intro w h; cases w with
        | nil => simp at h
        | cons x w =>
          rw [List.map_cons, List.map_cons] at h
          have a1 := (List.cons.inj h).1
          rw [List.filterMap_cons, a1, ih w (List.cons.inj h).2]
    exact h1 ip ws' hip
  exact kk H1 locs1 ⟨hP2.sub ip hs2, hD2.sub ip hp hip, hS1, hm⟩
theorem k_pre {sz : Nat} {wc : va_W} {av : List Value} (hK : Ko D dA s) (hP : va_P D vwCl wc H) (hD : va_D A0 wc) (hsz : H.size = sz) : PreS s H (va_Pc av (fun U => U.heap.size = sz ∧ va_P D vwCl wc U.heap ∧ Ko D dA U ∧ va_D (fun _ => True) wc)) av :=
  ⟨fun a U g mk q => ⟨q.1, q.2.1, q.2.2.1, Ko.moved (U := U.calling g mk a) (State.WarmedH.refl U) q.2.2.2.1, q.2.2.2.2⟩, fun U hU hW => ⟨rfl, by rw [hU]; exact hsz, by rw [hU]; exact hP, hK.moved hW, hD.weaken (fun _ _ _ _ => trivial)⟩⟩
theorem goodK {y : Jvm.MethodName} {bytes : ByteArray} {nL : Nat} (h : Cond.code y bytes nL none ∈ mT) : GoodIn mT (.code y bytes nL none :: mT) := fun w hw => by
  rcases List.mem_cons.mp hw with rfl | hw
  · exact ⟨h, mT_good h⟩
  · exact goodT w hw
/-- a constructor is called: the cells isC are its own, the others stay -/
theorem k_call {y : Jvm.MethodName} {bytes : ByteArray} {index n maxL rf rl mc ms : Nat} {As : List Value} {a : Nat} {wc w1 wr ws' : va_W} (kx : Kx p s m args c cc nL own D dA) (ax : Ax A0 hs s.heap.size) (gw : Gw D A0 hs k ws s H locs) (isC isR ip : List Nat) (hct : Ct l D dA y bytes maxL rf rl mc ms (.ref a :: As) wc w1 (s.heap.size + k)) (hy : Cond.code y bytes maxL none ∈ mT ∧ Cond.initialized y.cls ∈ mT ∧ Cond.instanceMethod y ∈ mT) (hy2 : y.name = "<init>" ∧ y.cls ≠ "java/lang/invoke/MethodHandle" ∧ y.cls ≠ "java/lang/invoke/VarHandle" ∧ (parseMethodDescriptor y.desc).map (fun d => d.parameters.length) = some n) (hl : Cond.methodLink own index y ∈ mT ∨ (own, index, y, "ValueDays") ∈ nst)
    (hC : isC.map (fun i => ws[i]?) = wc.map some) (hR : isR.map (fun i => ws[i]?) = wr.map some) (hn : va_nd isC = true) (hnR : va_nd isR = true) (hdis : ∀ i ∈ isR, i ∉ isC) (hp : va_nd ip = true) (hip : ip.map (fun i => (wr ++ w1)[i]?) = ws'.map some) (hm : ws'.map (fun q => q.1) = hs ++ (List.range (k + mc)).map (fun i => s.heap.size + i)) (hls : ls.size = nL) (hAn : As.length = n) (hcat : (rest.map fun v => v.category).sum ≤ 8) (hrm : rf + 1 ≤ R.frames ∧ 8 + (maxL + 11) + rl ≤ R.locals) (hcells : k + mc ≤ R.cells) (hslots : slots + ms ≤ R.slots) (hdg : decode cc pc = .ok (.invokespecial index, 3))
    (kk : ∀ (H1 : Heap) (locs1 : List Loc), Gw D A0 hs (k + mc) ws' s H1 locs1 → W p l e R s m args below meth c H1 locs1 (k + mc) (slots + ms) Q (F0 m (pc + 3) ls rest)) : W p l e R s m args below meth c H locs k slots Q (F0 m pc ls (As.reverse ++ .ref a :: rest)) := by
  refine W_sz (fun hz => ?_)
  have hsz := gw.size hz
  obtain ⟨cf, hK⟩ := kx
  have hDc : va_D A0 wc := gw.2.1.sub isC hn hC
  have hPc : va_P D vwCl wc H := by
    intro i q hq
    obtain ⟨j, -, hj⟩ := va_in_of isC hC hq
    exact gw.1 j q hj
  refine k_back (y := y) (bytes := bytes) (maxL := maxL) (rf := rf) (rl := rl) (As := As) (a := a) ax gw isC isR ip hC hR hnR hdis hp hip hm hsz (ar := (Value.ref a :: As).toArray) ?_ kk
  rcases hl with hl | hl
  · exact va_runI (As := As) (rest := rest) cf hct (cwI n cf.2.2.2.2 (goodK hy.1) rfl rfl rfl (cf.2.2.2.2 _ hy.2.1) (cf.2.2.2.2 _ hl) (cf.2.2.2.2 _ hy.2.2) hy2.1 ⟨hy2.2.1, hy2.2.2.1, hy2.2.2.2⟩ hrm) (k_pre hK hPc hDc hsz) rfl hAn hls rfl (lv_room hcat) hdg ⟨hcells, hslots⟩
  · exact va_runIN (As := As) (rest := rest) cf hct ⟨va_cnB n cf.2.2.2.2 (goodK hy.1) rfl rfl rfl (hK.2.2.2 _ hl) (cf.2.2.2.2 _ hy.2.1) ⟨hy2.2.1, hy2.2.2.1, hy2.2.2.2⟩ hrm, hy2.1, cf.2.2.2.2 _ hy.2.2⟩ (k_pre hK hPc hDc hsz) rfl hAn hls rfl (lv_room hcat) hdg ⟨hcells, hslots⟩
end KR
