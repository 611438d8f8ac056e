/-! rows of references: made, filled -/
section KR2
variable {p : Program} {l : Launch} {e : Env} {R : Room} {s : State} {m : MethodId} {args : Array Value} {below : List Frame} {meth : Method} {c : Code} {H : Heap} {locs : List Loc} {slots : Nat} {Q : State → Prop} {cc : ByteArray} {pc : Nat} {ls : Array Slot} {rest : List Value}
variable {D : va_G} {dA : Nat → ClassId} {A0 : Nat → Prop} {hs : List Nat} {k : Nat} {ws : va_W} {own : String} {nL : Nat}
theorem kq_new (kx : Kx p s m args c cc nL own D dA) (ax : Ax A0 hs s.heap.size) (gw : Gw D A0 hs k ws s H locs) {index : Nat} (hcl : Cond.classLink own index "ValueDays$Script" ∈ mT) (hcells : k + 1 ≤ R.cells) (hslots : slots + 3 ≤ R.slots) (hdg : decode cc pc = .ok (.anewarray index, 3))
    (kk : ∀ (H1 : Heap), Gw D A0 hs (k + 1) (ws ++ [(s.heap.size + k, .inl (dA 4, 3, .inr (.inr (.inr (.inr (fun _ => none))))))]) s H1 locs → W p l e R s m args below meth c H1 locs (k + 1) (slots + 3) Q (F0 m (pc + 3) ls (.ref (s.heap.size + k) :: rest))) : W p l e R s m args below meth c H locs k slots Q (F0 m pc ls (.int 3 :: rest)) := by
  obtain ⟨⟨hx, hb, hml, hown, hts⟩, hK, hAO, -⟩ := kx
  obtain ⟨hP, hD, hS, hm⟩ := gw
  refine va_newq hx hb hown (hts _ hcl) hAO hK hP hD hS ax.1 (N' := 3) (by decide) (by decide) (Nat.le_of_ble_eq_true rfl) hcells hslots hdg (fun q cA H1 hK1 hP1 hD1 hS1 => ?_)
  refine W_sz (fun hz => ?_)
  have hq := new_at hP1 hD1 hz ax hm
  have hcA : cA = dA 4 := by
    obtain ⟨-, -, -, -, -, h1⟩ := (hK1.2 (tys dA).length (cA, .object "ValueDays$Script") (by simp)).2
    obtain ⟨-, -, -, -, -, h2⟩ := (hK.2 4 (dA 4, .object "ValueDays$Script") rfl).2
    exact Option.some.inj (h1.symm.trans h2)
  subst hq
  subst hcA
  exact kk H1 ⟨hP1, hD1, hS1, by rw [List.map_append, hm, List.range_succ, List.map_append, List.append_assoc]; rfl⟩
theorem k_aast (kx : Kx p s m args c cc nL own D dA) (gw : Gw D A0 hs k ws s H locs) (q0 qk : Nat) {n v a j : Nat} {vs : List Value} {f : Nat → Option Nat} {i : Int32} {ws' : va_W} (ha : ws[q0]? = some (a, .inl (dA 4, n, .inr (.inr (.inr (.inr f)))))) (hv : ws[qk]? = some (v, .inr (5, vs))) (hin : vp_in i n) (hi : i.toNatClampNeg = j) (hw : ws.set q0 (a, .inl (dA 4, n, .inr (.inr (.inr (.inr (va_up f j (some v))))))) = ws') (hdg : decode cc pc = .ok (.aastore, 1)) {cells : Nat}
    (kk : ∀ (H1 : Heap) (locs1 : List Loc), Gw D A0 hs k ws' s H1 locs1 → W p l e R s m args below meth c H1 locs1 cells slots Q (F0 m (pc + 1) ls rest)) : W p l e R s m args below meth c H locs cells slots Q (F0 m pc ls (.ref v :: .int i :: .ref a :: rest)) := by
  obtain ⟨⟨hx, hb, hml, hown, hts⟩, hK, -⟩ := kx
  obtain ⟨hP, hD, hS, hm⟩ := gw
  subst hi
  subst hw
  exact va_astq (r := (RX5, TX5, 3)) hx hb hK hP hD hS q0 4 qk 5 ha rfl hv rfl hin hdg (fun H1 locs1 hP1 hD1 hS1 => kk H1 locs1 ⟨hP1, hD1, hS1, by rw [map_set_fst ha]; exact hm⟩)
theorem only_one {α : Type} {x y : α} {i : Nat} (h : [x][i]? = some y) : i = 0 ∧ y = x := ⟨Nat.lt_one_iff.mp (List.getElem?_eq_some_iff.mp h).1, List.mem_singleton.mp (List.mem_of_getElem? h)⟩
theorem P_app {D : va_G} {cl : List vw_C} {ws : va_W} {q : Nat} {x : va_E} {H : Heap} (h : va_P D cl ws H) (h1 : va_at D cl (q, x) H) : va_P D cl (ws ++ [(q, x)]) H := h.app (fun i y hy => by
  obtain ⟨-, rfl⟩ := only_one hy
  exact h1)
theorem D_app {A0 : Nat → Prop} {ws : va_W} {q : Nat} {x : va_E} (h : va_D A0 ws) (ha : A0 q) (hn : q ∉ ws.map (fun q => q.1)) : va_D A0 (ws ++ [(q, x)]) := va_D.app h ⟨fun i j a b h1 h2 _ => (only_one h1).1.trans (only_one h2).1.symm, fun i y hy => by
    obtain ⟨-, rfl⟩ := only_one hy
    exact ha⟩ (fun i j a b h1 h2 e => by
    obtain ⟨-, rfl⟩ := only_one h2
    exact hn (List.mem_map.mpr ⟨a, List.mem_of_getElem? h1, e⟩))
/-- n cells made in a row -/
theorem G_app {ws : va_W} {H1 : Heap} {xs : List va_E} : ∀ {k : Nat} {ws : va_W}, (∀ q, s.heap.size ≤ q → A0 q) → (∀ q, q ∈ hs → q < s.heap.size) ∨ (∀ q ∈ hs, ∀ i, q ≠ s.heap.size + (k + i)) → va_P D vwCl ws H1 → va_D A0 ws → ws.map (fun q => q.1) = hs ++ (List.range k).map (fun i => s.heap.size + i) → (∀ (i : Nat) (x : va_E), xs[i]? = some x → va_at D vwCl (s.heap.size + (k + i), x) H1) → va_P D vwCl (ws ++ xs.mapIdx (fun i x => (s.heap.size + (k + i), x))) H1 ∧ va_D A0 (ws ++ xs.mapIdx (fun i x => (s.heap.size + (k + i), x))) ∧ (ws ++ xs.mapIdx (fun i x => (s.heap.size + (k + i), x))).map (fun q => q.1) = hs ++ (List.range (k + xs.length)).map (fun i => s.heap.size + i) := by
  induction xs with
  | nil => intro k ws _ _ hP hD hm _; exact ⟨by simpa using hP, by simpa using hD, by simpa using hm⟩
  | cons x xs ih =>
    intro k ws hA hh hP hD hm hx
    have hne : ∀ q ∈ hs, ∀ i, q ≠ s.heap.size + (k + i) := by
      rcases hh with hh | hh
      · intro q hq i
        have := hh q hq
        omega
      · exact hh
    have h := ih (k := k + 1) (ws := ws ++ [(s.heap.size + k, x)]) hA (Or.inr (fun q hq i => by have := hne q hq (1 + i); omega)) (P_app hP (hx 0 x rfl)) (D_app hD (hA _ (by omega)) (by
      rw [hm]
      intro hq
      rcases List.mem_append.mp hq with hq | hq
      · exact hne _ hq 0 rfl
      · obtain ⟨i, hi, e⟩ := List.mem_map.mp hq
        have := List.mem_range.mp hi
        omega)) (by rw [List.map_append, hm, List.range_succ, List.map_append, List.append_assoc]; rfl) (fun i y hy => by
      have := hx (i + 1) y (by simpa using hy)
      rw [show k + 1 + i = k + (i + 1) by omega]
      exact this)
    have e1 : (x :: xs).mapIdx (fun i x => ((s.heap.size + (k + i), x) : Nat × va_E)) = (s.heap.size + k, x) :: xs.mapIdx (fun i x => (s.heap.size + (k + 1 + i), x)) := by
      rw [List.mapIdx_cons]
      congr 1
      apply List.ext_getElem?
      intro i
      simp only [List.getElem?_mapIdx]
      rw [show k + (i + 1) = k + 1 + i by omega]
    rw [e1, List.append_cons]
    refine ⟨h.1, h.2.1, ?_⟩
    rw [h.2.2, List.length_cons, show k + 1 + xs.length = k + (xs.length + 1) by omega]
theorem arrV_ext {cA : ClassId} {n : Nat} {f g : Nat → Value} (h : ∀ j, j < n → f j = g j) : arrV cA n f = arrV cA n g := by
  have e : (fun j : Fin n => f j.val) = fun j => g j.val := funext (fun j => h j.val j.isLt)
  unfold arrV
  rw [e]
theorem k_multi (kx : Kx p s m args c cc nL own D dA) (ax : Ax A0 hs s.heap.size) (gw : Gw D A0 hs k ws s H locs) {index : Nat} (hcl : Cond.classLink own index "[[I" ∈ mT) (hcells : k + 8 ≤ R.cells) (hslots : slots + 2247 ≤ R.slots) (hdg : decode cc pc = .ok (.multianewarray index 2, 4))
    (kk : ∀ (H1 : Heap) (locs1 : List Loc), Gw D A0 hs (k + 8) (ws ++ [(s.heap.size + (k + 0), .inl (dA 5, 7, .inr (.inr (.inr (.inr (fun i => some (s.heap.size + (k + 1 + i)))))))), (s.heap.size + (k + 1), .inl (dA 0, 320, .inl (fun _ => 0))), (s.heap.size + (k + 2), .inl (dA 0, 320, .inl (fun _ => 0))), (s.heap.size + (k + 3), .inl (dA 0, 320, .inl (fun _ => 0))), (s.heap.size + (k + 4), .inl (dA 0, 320, .inl (fun _ => 0))), (s.heap.size + (k + 5), .inl (dA 0, 320, .inl (fun _ => 0))), (s.heap.size + (k + 6), .inl (dA 0, 320, .inl (fun _ => 0))), (s.heap.size + (k + 7), .inl (dA 0, 320, .inl (fun _ => 0)))]) s H1 locs1 → W p l e R s m args below meth c H1 locs1 (k + 8) (slots + 2247) Q (F0 m (pc + 4) ls (.ref (s.heap.size + k) :: rest))) (hhs : ∀ q ∈ hs, ∀ i, q ≠ s.heap.size + (k + i)) : W p l e R s m args below meth c H locs k slots Q (F0 m pc ls (.int 320 :: .int 7 :: rest)) := by
  obtain ⟨⟨hx, hb, hml, hown, hts⟩, hK, hAO, ⟨a1, ⟨ka, a2, a3⟩, kb, cq, a4, a5⟩, -⟩ := kx
  intro T hT X
  have hsz : H.size = s.heap.size + k := gw.size (by have := X.heapSize; rw [hT] at this; exact this)
  obtain ⟨hP, hD, hS, hm⟩ := gw
  subst hT
  subst hb
  obtain ⟨v, X7, st⟩ := mrows X hx hown (hts _ hcl) a1 a2 a3 a4 a5 hcells hslots hdg (ls := ls) (rest := rest)
  have hP1 : va_P D vwCl ws (mri (dA 5) (dA 0) (T.setVm v) 7).heap := hP.kept (fun i x hx => mri_old _ _ _ 7 ((hP i x hx).lt))
  have hin : ∀ j : Nat, j < 7 → va_at D vwCl (s.heap.size + (k + (1 + j)), .inl (dA 0, 320, .inl (fun _ => 0))) (mri (dA 5) (dA 0) (T.setVm v) 7).heap := fun j hj => by
    have := mri_inner (dA 5) (dA 0) (T.setVm v) hj
    rw [show (T.setVm v).heap.size + 1 + j = s.heap.size + (k + (1 + j)) by show T.heap.size + 1 + j = _; omega] at this
    exact this
  have hou : va_at D vwCl (s.heap.size + (k + 0), .inl (dA 5, 7, .inr (.inr (.inr (.inr (fun i => some (s.heap.size + (k + 1 + i)))))))) (mri (dA 5) (dA 0) (T.setVm v) 7).heap := by
    have := mri_outer (dA 5) (dA 0) (T.setVm v) 7
    rw [show (T.setVm v).heap.size = s.heap.size + (k + 0) from hsz] at this
    refine this.trans (congrArg some (Eq.trans ?_ (vp_cell_q ..).symm))
    exact arrV_ext (fun j hj => by rw [if_pos hj, show s.heap.size + (k + 0) + 1 + j = s.heap.size + (k + 1 + j) by omega]; rfl)
  obtain ⟨hP2, hD2, hm2⟩ := G_app (s := s) (D := D) (A0 := A0) (hs := hs) (k := k) (ws := ws) (H1 := (mri (dA 5) (dA 0) (T.setVm v) 7).heap) (xs := .inl (dA 5, 7, .inr (.inr (.inr (.inr (fun i => some (s.heap.size + (k + 1 + i))))))) :: List.replicate 7 (.inl (dA 0, 320, .inl (fun _ => 0)))) ax.1 (Or.inr hhs) hP1 hD hm (fun i x hx => by
    match i, hx with
    | 0, hx => cases hx; exact hou
    | i + 1, hx =>
      rw [List.getElem?_cons_succ, List.getElem?_replicate] at hx
      by_cases q : i < 7
      · rw [if_pos q] at hx
        cases hx
        rw [show k + (i + 1) = k + (1 + i) by omega]
        exact hin i q
      · rw [if_neg q] at hx
        cases hx)
  have hS1 : va_S A0 s.heap (mri (dA 5) (dA 0) (T.setVm v) 7).heap locs := ⟨by rw [mri_size]; have := hS.1; show s.heap.size ≤ T.heap.size + 1 + 7; omega, fun q h1 h2 => (mri_old _ _ _ 7 (Nat.lt_of_lt_of_le h1 hS.1)).trans (hS.2.1 q h1 h2), hS.2.2⟩
  obtain ⟨t, s1, q1⟩ := kk _ locs ⟨hP2, hD2, hS1, hm2⟩ _ rfl X7
  rw [← hsz] at s1
  exact ⟨t, st t s1, q1⟩
end KR2
