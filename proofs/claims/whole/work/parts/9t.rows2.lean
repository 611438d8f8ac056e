/-! rows of references: made, filled -/
section KR2
variable {p : Program} {l : Launch} {e : Env} {R : Room} {s : State} {m : MethodId} {args : Array Value} {below : List Frame} {meth : Method} {c : Code} {H : Heap} {locs : List Loc} {slots : Nat} {Q : State → Prop} {cc : ByteArray} {pc : Nat} {ls : Array Slot} {rest : List Value}
variable {D : va_G} {dA : Nat → ClassId} {A0 : Nat → Prop} {hs : List Nat} {k : Nat} {ws : va_W} {own : String} {nL : Nat}
theorem kq_new (kx : Kx p s m args c cc nL own D dA) (ax : Ax A0 hs s.heap.size) (gw : Gw D A0 hs k ws s H locs) {index : Nat} (hcl : Cond.classLink own index "ValueDays$Script" ∈ mT) (hcells : k + 1 ≤ R.cells) (hslots : slots + 3 ≤ R.slots) (hdg : decode cc pc = .ok (.anewarray index, 3))
    (kk : ∀ (H1 : Heap), Gw D A0 hs (k + 1) (ws ++ [(s.heap.size + k, .inl (dA 4, 3, .inr (.inr (.inr (.inr (fun _ => none))))))]) s H1 locs → W p l e R s m args below meth c H1 locs (k + 1) (slots + 3) Q (F0 m (pc + 3) ls (.ref (s.heap.size + k) :: rest))) : W p l e R s m args below meth c H locs k slots Q (F0 m pc ls (.int 3 :: rest)) := by
  obtain ⟨⟨hx, hb, hml, hown, hts⟩, hK, hAO, -⟩ := kx
  obtain ⟨hP, hD, hS, hm⟩ := gw
  refine va_newq hx hb hown (hts _ hcl) hAO hK hP hD hS ax.1 (N' := 3) (by decide) (by decide) (Nat.le_of_ble_eq_true rfl) hcells hslots hdg (fun q cA H1 hK1 hP1 hD1 hS1 => ?_)
  refine W_sz (fun hz => ?_)
  have hq := new_at hP1 hD1 hz ax hm
  have hcA : cA = dA 4 := by
    obtain ⟨-, -, -, -, -, h1⟩ := (hK1.2 (tys dA).length (cA, .object "ValueDays$Script") (by simp)).2
    obtain ⟨-, -, -, -, -, h2⟩ := (hK.2 4 (dA 4, .object "ValueDays$Script") rfl).2
    exact Option.some.inj (h1.symm.trans h2)
  subst hq
  subst hcA
  exact kk H1 ⟨hP1, hD1, hS1, by rw [List.map_append, hm, List.range_succ, List.map_append, List.append_assoc]; rfl⟩
theorem k_aast (kx : Kx p s m args c cc nL own D dA) (gw : Gw D A0 hs k ws s H locs) (q0 qk : Nat) {n v a j : Nat} {vs : List Value} {f : Nat → Option Nat} {i : Int32} {ws' : va_W} (ha : ws[q0]? = some (a, .inl (dA 4, n, .inr (.inr (.inr (.inr f)))))) (hv : ws[qk]? = some (v, .inr (5, vs))) (hin : vp_in i n) (hi : i.toNatClampNeg = j) (hw : ws.set q0 (a, .inl (dA 4, n, .inr (.inr (.inr (.inr (va_up f j (some v))))))) = ws') (hdg : decode cc pc = .ok (.aastore, 1)) {cells : Nat}
    (kk : ∀ (H1 : Heap) (locs1 : List Loc), Gw D A0 hs k ws' s H1 locs1 → W p l e R s m args below meth c H1 locs1 cells slots Q (F0 m (pc + 1) ls rest)) : W p l e R s m args below meth c H locs cells slots Q (F0 m pc ls (.ref v :: .int i :: .ref a :: rest)) := by
  obtain ⟨⟨hx, hb, hml, hown, hts⟩, hK, -⟩ := kx
  obtain ⟨hP, hD, hS, hm⟩ := gw
  subst hi
  subst hw
  exact va_astq (r := (RX5, TX5, 3)) hx hb hK hP hD hS q0 4 qk 5 ha rfl hv rfl hin hdg (fun H1 locs1 hP1 hD1 hS1 => kk H1 locs1 ⟨hP1, hD1, hS1, by rw [map_set_fst ha]; exact hm⟩)
theorem P_app {D : va_G} {cl : List vw_C} {ws : va_W} {q : Nat} {x : va_E} {H : Heap} (h : va_P D cl ws H) (h1 : va_at D cl (q, x) H) : va_P D cl (ws ++ [(q, x)]) H := h.app (fun i y hy => by
  have hz : i < 1 := (List.getElem?_eq_some_iff.mp hy).1
  rw [show i = 0 by omega] at hy
  cases hy
  exact h1)
theorem D_app {A0 : Nat → Prop} {ws : va_W} {q : Nat} {x : va_E} (h : va_D A0 ws) (ha : A0 q) (hn : q ∉ ws.map (fun q => q.1)) : va_D A0 (ws ++ [(q, x)]) := va_D.app h ⟨fun i j a b h1 h2 _ => by
    have := (List.getElem?_eq_some_iff.mp h1).1
    have := (List.getElem?_eq_some_iff.mp h2).1
    simp at *
    omega, fun i y hy => by
    have hz : i < 1 := (List.getElem?_eq_some_iff.mp hy).1
    rw [show i = 0 by omega] at hy
    cases hy
    exact ha⟩ (fun i j a b h1 h2 e => by
    have hz : j < 1 := (List.getElem?_eq_some_iff.mp h2).1
    rw [show j = 0 by omega] at h2
    cases h2
    exact hn (List.mem_map.mpr ⟨a, List.mem_of_getElem? h1, e⟩))
/-- n cells made in a row -/
theorem G_app {ws : va_W} {H1 : Heap} {xs : List va_E} : ∀ {k : Nat} {ws : va_W}, (∀ q, s.heap.size ≤ q → A0 q) → (∀ q, q ∈ hs → q < s.heap.size) ∨ (∀ q ∈ hs, ∀ i, q ≠ s.heap.size + (k + i)) → va_P D vwCl ws H1 → va_D A0 ws → ws.map (fun q => q.1) = hs ++ (List.range k).map (fun i => s.heap.size + i) → (∀ (i : Nat) (x : va_E), xs[i]? = some x → va_at D vwCl (s.heap.size + (k + i), x) H1) → va_P D vwCl (ws ++ xs.mapIdx (fun i x => (s.heap.size + (k + i), x))) H1 ∧ va_D A0 (ws ++ xs.mapIdx (fun i x => (s.heap.size + (k + i), x))) ∧ (ws ++ xs.mapIdx (fun i x => (s.heap.size + (k + i), x))).map (fun q => q.1) = hs ++ (List.range (k + xs.length)).map (fun i => s.heap.size + i) := by
  induction xs with
  | nil => intro k ws _ _ hP hD hm _; exact ⟨by simpa using hP, by simpa using hD, by simpa using hm⟩
  | cons x xs ih =>
    intro k ws hA hh hP hD hm hx
    have hne : ∀ q ∈ hs, ∀ i, q ≠ s.heap.size + (k + i) := by
      rcases hh with hh | hh
      · intro q hq i
        have := hh q hq
        omega
      · exact hh
    have h := ih (k := k + 1) (ws := ws ++ [(s.heap.size + k, x)]) hA (Or.inr (fun q hq i => by have := hne q hq (1 + i); omega)) (P_app hP (hx 0 x rfl)) (D_app hD (hA _ (by omega)) (by
      rw [hm]
      intro hq
      rcases List.mem_append.mp hq with hq | hq
      · exact hne _ hq 0 rfl
      · obtain ⟨i, hi, e⟩ := List.mem_map.mp hq
        have := List.mem_range.mp hi
        omega)) (by rw [List.map_append, hm, List.range_succ, List.map_append, List.append_assoc]; rfl) (fun i y hy => by
      have := hx (i + 1) y (by simpa using hy)
      rw [show k + 1 + i = k + (i + 1) by omega]
      exact this)
    have e1 : (x :: xs).mapIdx (fun i x => ((s.heap.size + (k + i), x) : Nat × va_E)) = (s.heap.size + k, x) :: xs.mapIdx (fun i x => (s.heap.size + (k + 1 + i), x)) := by
      rw [List.mapIdx_cons]
      congr 1
      apply List.ext_getElem?
      intro i
      simp only [List.getElem?_mapIdx]
      rw [show k + (i + 1) = k + 1 + i by omega]
    rw [e1, List.append_cons]
    refine ⟨h.1, h.2.1, ?_⟩
    rw [h.2.2, List.length_cons, show k + 1 + xs.length = k + (xs.length + 1) by omega]
theorem arrV_ext {cA : ClassId} {n : Nat} {f g : Nat → Value} (h : ∀ j, j < n → f j = g j) : arrV cA n f = arrV cA n g := by
  have e : (fun j : Fin n => f j.val) = fun j => g j.val := funext (fun j => h j.val j.isLt)
  unfold arrV
  rw [e]
theorem k_multi (kx : Kx p s m args c cc nL own D dA) (ax : Ax A0 hs s.heap.size) (gw : Gw D A0 hs k ws s H locs) {index : Nat} (hcl : Cond.classLink own index "[[I" ∈ mT) (hcells : k + 8 ≤ R.cells) (hslots : slots + 2247 ≤ R.slots) (hdg : decode cc pc = .ok (.multianewarray index 2, 4))
    (kk : ∀ (H1 : Heap) (locs1 : List Loc), Gw D A0 hs (k + 8) (ws ++ [(s.heap.size + (k + 0), .inl (dA 5, 7, .inr (.inr (.inr (.inr (fun i => some (s.heap.size + (k + 1 + i)))))))), (s.heap.size + (k + 1), .inl (dA 0, 320, .inl (fun _ => 0))), (s.heap.size + (k + 2), .inl (dA 0, 320, .inl (fun _ => 0))), (s.heap.size + (k + 3), .inl (dA 0, 320, .inl (fun _ => 0))), (s.heap.size + (k + 4), .inl (dA 0, 320, .inl (fun _ => 0))), (s.heap.size + (k + 5), .inl (dA 0, 320, .inl (fun _ => 0))), (s.heap.size + (k + 6), .inl (dA 0, 320, .inl (fun _ => 0))), (s.heap.size + (k + 7), .inl (dA 0, 320, .inl (fun _ => 0)))]) s H1 locs1 → W p l e R s m args below meth c H1 locs1 (k + 8) (slots + 2247) Q (F0 m (pc + 4) ls (.ref (s.heap.size + k) :: rest))) (hhs : ∀ q ∈ hs, ∀ i, q ≠ s.heap.size + (k + i)) : W p l e R s m args below meth c H locs k slots Q (F0 m pc ls (.int 320 :: .int 7 :: rest)) := by
  obtain ⟨⟨hx, hb, hml, hown, hts⟩, hK, hAO, ⟨a1, ⟨ka, a2, a3⟩, kb, cq, a4, a5⟩, -⟩ := kx
  intro T hT X
  have hsz : H.size = s.heap.size + k := gw.size (by have := X.heapSize; rw [hT] at this; exact this)
  obtain ⟨hP, hD, hS, hm⟩ := gw
  subst hT
  subst hb
  have hpl : e.platform.magicAccessors = ({} : Platform).magicAccessors := by rw [X.admits.platform]
  obtain ⟨c0, hf0, hcl0⟩ := Cond.classLink_spec hown (hts _ hcl) e.platform hpl
  have e0 : c0 = dA 5 := Option.some.inj (hf0.symm.trans a1)
  subst e0
  obtain ⟨g1, hw1, -⟩ := State.classEntry (e := e) X.warmed hcl0
  generalize T.vm.noted m.cls index (.cls (dA 5)) = vm₁ at g1 hw1
  obtain ⟨ka1, b1, b2⟩ := hw1.alike.2.2 _ _ a2
  obtain ⟨kb1, b3, b4⟩ := hw1.alike.2.2 _ _ a4
  obtain ⟨r1, r2⟩ := X.roomAbove hcells hslots
  obtain ⟨L, hL, XF⟩ := mst_st (X.noted hw1) (dA 5) (dA 0) 7
  obtain ⟨f1, f2, f3, f4, f5, f6⟩ := mst_f (T.setVm vm₁) (dA 5) (dA 0) 7
  have XF : Stand p l e R s m args below meth c (mst (T.setVm vm₁) (dA 5) (dA 0) 7) (locs ++ L) (k + 8) (slots + 2247) := XF
  have hP1 : va_P D vwCl ws (mst (T.setVm vm₁) (dA 5) (dA 0) 7).heap := hP.kept (fun i x hx => f5 x.1 ((hP i x hx).lt))
  have hin : ∀ j : Nat, j < 7 → va_at D vwCl (s.heap.size + (k + (1 + j)), .inl (dA 0, 320, .inl (fun _ => 0))) (mst (T.setVm vm₁) (dA 5) (dA 0) 7).heap := fun j hj => by
    have := f6 j hj
    show (mst (T.setVm vm₁) (dA 5) (dA 0) 7).heap[s.heap.size + (k + (1 + j))]? = some (vp_cell (dA 0) (320, .inl (fun _ => 0)))
    rw [show s.heap.size + (k + (1 + j)) = (T.setVm vm₁).heap.size + 1 + j by show _ = T.heap.size + 1 + j; omega]
    exact this
  have hou : va_at D vwCl (s.heap.size + (k + 0), .inl (dA 5, 7, .inr (.inr (.inr (.inr (fun i => some (s.heap.size + (k + 1 + i)))))))) (mst (T.setVm vm₁) (dA 5) (dA 0) 7).heap := by
    show (mst (T.setVm vm₁) (dA 5) (dA 0) 7).heap[s.heap.size + (k + 0)]? = some (vp_cell (dA 5) (7, .inr (.inr (.inr (.inr (fun i => some (s.heap.size + (k + 1 + i))))))))
    rw [show s.heap.size + (k + 0) = (T.setVm vm₁).heap.size by show _ = T.heap.size; omega, f2, vp_cell_q]
    refine congrArg some (arrV_ext (fun j hj => ?_))
    rw [mo_at _ 7 j hj]
    show Value.ref (T.heap.size + 1 + j) = .ref (s.heap.size + (k + 1 + j))
    rw [show T.heap.size + 1 + j = s.heap.size + (k + 1 + j) by omega]
  obtain ⟨hP2, hD2, hm2⟩ := G_app (s := s) (D := D) (A0 := A0) (hs := hs) (k := k) (ws := ws) (H1 := (mst (T.setVm vm₁) (dA 5) (dA 0) 7).heap) (xs := [.inl (dA 5, 7, .inr (.inr (.inr (.inr (fun i => some (s.heap.size + (k + 1 + i))))))), .inl (dA 0, 320, .inl (fun _ => 0)), .inl (dA 0, 320, .inl (fun _ => 0)), .inl (dA 0, 320, .inl (fun _ => 0)), .inl (dA 0, 320, .inl (fun _ => 0)), .inl (dA 0, 320, .inl (fun _ => 0)), .inl (dA 0, 320, .inl (fun _ => 0)), .inl (dA 0, 320, .inl (fun _ => 0))]) ax.1 (Or.inr hhs) hP1 hD hm (fun i x hx => by
    match i, hx with
    | 0, hx => cases hx; exact hou
    | 1, hx => cases hx; exact hin 0 (by decide)
    | 2, hx => cases hx; exact hin 1 (by decide)
    | 3, hx => cases hx; exact hin 2 (by decide)
    | 4, hx => cases hx; exact hin 3 (by decide)
    | 5, hx => cases hx; exact hin 4 (by decide)
    | 6, hx => cases hx; exact hin 5 (by decide)
    | 7, hx => cases hx; exact hin 6 (by decide)
    | i + 8, hx => simp at hx)
  have hS1 : va_S A0 s.heap (mst (T.setVm vm₁) (dA 5) (dA 0) 7).heap (locs ++ L) := ⟨by rw [f1]; have := hS.1; show s.heap.size ≤ T.heap.size + 1 + 7; omega, fun q h1 h2 => (f5 q (Nat.lt_of_lt_of_le h1 hS.1)).trans (hS.2.1 q h1 h2), fun q hq => by
    rcases List.mem_append.mp hq with h | h
    · exact hS.2.2 q h
    · rw [hL q h]
      exact ax.1 _ hS.1⟩
  obtain ⟨t, s1, q1⟩ := kk _ (locs ++ L) ⟨hP2, hD2, hS1, hm2⟩ _ rfl XF
  refine ⟨t, ?_, q1⟩
  have hl1 : 536870912 ≤ e.platform.arrayLengthLimit := by rw [Launch.admits_arrayLengthLimit X.admits]; decide
  have hl2 : 536870912 ≤ e.platform.maxHeapBytes := by rw [Launch.admits_maxHeapBytes X.admits]; decide
  jvm_step X.here [hx, hdg]
  simp only [multianewarray.sem, wp_bind', W.resolveClassAt_links (State.method?_setTop (F0 m pc ls (.int 320 :: .int 7 :: rest)) X.here.top) g1]
  rw [W.popN, if_neg (by decide)]
  refine ⟨F0 m pc ls (.int 320 :: .int 7 :: rest), State.topJava?_setTop' (s := T.setVm vm₁) _ X.here.top, [.int 7, .int 320], rest, rfl, rfl, ?_⟩
  simp only [List.mapM_cons, List.mapM_nil, wp_bind', wp_pure']
  refine wp_mk (ka := ka1) (kb := kb1) (cc := cq) (ca := dA 5) (cb := dA 0) (by exact b1) (by rw [b2]; exact a3) (by exact b3) (by rw [b4]; exact a5) hl1 hl2 (by exact r1) (by exact r2) (fun d' acts' => ?_)
  have eS : ((T.setTop (F0 m pc ls (.int 320 :: .int 7 :: rest))).setVm vm₁).setTop { method := m, pc := pc, locals := ls, stack := rest, locked := none } = (T.setVm vm₁).setTop (F0 m pc ls rest) := by
    show ((T.setVm vm₁).setTop _).setTop _ = _
    rw [State.setTop_setTop]
  rw [eS, mst_top]
  rw [← hsz] at s1
  simp only [wp_bind', W.mark, W.pushRef, State.topJava?_setTop' _ XF.here.top, Option.some.injEq, exists_eq_left', State.setTop_setTop, State.heap_setTop]
  intro acts
  simp [jvm, XF.here.top]
  exact s1
end KR2
