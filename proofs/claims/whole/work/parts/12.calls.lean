/-! the machine's own judgement obeys the small machine: part 5, calls made (written by wip/whole/gen5.py) -/
section CAL2
variable {l : Launch} {b : Nat} {tS : Nat → Value} {D : va_G} {dA : Nat → ClassId} {i9 : Int32} {a9 : Nat → Int32} {y pc : Nat} {L S : List Value} {I A : mI} {B : mB} {P : mP} {R : mR}
theorem goodT : GoodIn mT mT := fun _ h => ⟨h, mT_good h⟩
theorem goodC {y : Nat} (h : Cond.code (mNm y) (mCd y) (mMl y) (mRt y) ∈ mT) : GoodIn mT (.code (mNm y) (mCd y) (mMl y) (mRt y) :: mT) := fun w hw => by
  rcases List.mem_cons.mp hw with rfl | hw
  · exact ⟨h, mT_good h⟩
  · exact goodT w hw
/-- what is kept up to a call, and by it, is kept behind it -/
theorem S_on {A : Nat → Prop} {s u t : State} {H : Heap} {locs lc : List Loc} (hS : va_S A s.heap H locs) (hu : u.heap = H) (hF : va_F A u t) (hL : ∀ q ∈ lc, A q.base) : va_S A s.heap t.heap (locs ++ lc) := by
  subst hu
  obtain ⟨z1, k1, l1⟩ := hS
  obtain ⟨z2, k2⟩ := hF
  exact ⟨by omega, fun q hq na => (k2 q (by omega) na).trans (k1 q hq na), fun q hq => (List.mem_append.mp hq).elim (l1 q) (hL q)⟩
/-- behind a call: its answer, its world -/
theorem ms_back {p : Program} {e : Env} {RM : Room} {s : State} {m : MethodId} {ar : Array Value} {below : List Frame} {meth : Method} {c : Code} {H : Heap} {locs : List Loc} {cells slots : Nat} {Q : State → Prop} {ls : Array Slot} {st0 : List Value} {a : Array Value} {R' : mR}
    (hr : va_Run p l e RM s m ar below meth c H locs cells slots 0 0 (F0 m pc ls st0) (S.map (tr b tS)) (mQc b tS D dA i9 a9 R' a) (Af b)) (hS : va_S (Af b) s.heap H locs)
    (kk : ∀ (v : Option Value) (I A : mI) (B : mB) (P : mP) (H1 : Heap) (locs1 : List Loc), R' v I A B P → Wl b D dA i9 a9 I A B P s H1 locs1 → W p l e RM s m ar below meth c H1 locs1 cells slots Q (F0 m (pc + 3) ls ((pushO v S).map (tr b tS)))) : W p l e RM s m ar below meth c H locs cells slots Q (F0 m pc ls st0) := by
  intro T hT X
  obtain ⟨w, u, z, T2, Lc, hu, X2, hLc, hT2, -, ⟨⟨r, I2, A2, B2, P2, hR2, hw, hP2, hi2, ha2⟩, hF⟩, go⟩ := hr T hT X
  have hSz : va_S (Af b) s.heap T2.heap (locs ++ Lc) := by
    rw [hT2]
    exact S_on hS hu hF hLc
  rw [← hT2] at hP2
  obtain ⟨t2, hrun, hend⟩ := kk r I2 A2 B2 P2 _ _ hR2 ⟨hP2, hSz, hi2, ha2⟩ T2 rfl X2
  cases Outcome.returned.inj hw
  exact ⟨t2, go t2 (by cases r <;> exact hrun), hend⟩
/-- what a call rests on -/
def CL (y n y' : Nat) : Prop := y' < 378 ∧ Cond.methodLink (mNm y).cls n (mNm y') ∈ mT ∧ mRf y' + 1 ≤ mRf y ∧ 8 + (mMl y' + 11) + mRl y' ≤ mRl y
theorem ms_pre {p : Program} {RM : Room} {s : State} {m : MethodId} {ar : Array Value} {c : Code} {H : Heap} {locs : List Loc} {cells slots : Nat} {args : List Value} (_cx : Cx y p RM s m ar c cells slots) (sx : Sx b tS D dA i9 a9 s) (wl : Wl b D dA i9 a9 I A B P s H locs) : ∀ U : State, U.heap = H → s.WarmedH U.vm → mPc b tS D dA i9 a9 args I A B P (args.map (tr b tS)).toArray U := fun U hU hW =>
  ⟨rfl, by rw [hU]; exact wl.1, Sx_moved sx hW (by rw [hU]; exact wl.2.1.1) (fun q h1 h2 => by rw [hU]; exact wl.2.1.2.1 q h1 h2), wl.2.2.1, wl.2.2.2⟩
theorem ms_cb {p : Program} {RM : Room} {s : State} {m : MethodId} {ar : Array Value} {c : Code} {cells slots y' n k : Nat} (cx : Cx y p RM s m ar c cells slots) (hc : CL y n y') (hk : (parseMethodDescriptor (mNm y').desc).map (fun d => d.parameters.length) = some k) : CallB RM s ar (mNm y).cls n (mNm y') (mCd y') (mMl y') (mRt y') (.code (mNm y') (mCd y') (mMl y') (mRt y') :: mT) (mRm y') 0 0 k := by
  have hok := okY_parts (okY_all hc.1)
  refine callB_of k cx.2.2.2.2.1 (goodC hok.1) rfl rfl rfl (cx.2.2.2.2.1 _ hok.2.1) (cx.2.2.2.2.1 _ hc.2.1) ⟨hok.2.2.2.2.1, hok.2.2.2.2.2.1, hk⟩ ⟨?_, ?_⟩
  · exact Nat.le_trans hc.2.2.1 cx.2.2.2.2.2.1
  · exact Nat.le_trans hc.2.2.2 cx.2.2.2.2.2.2.1
def mkR (y : Nat) (args L0 : List Value) : Prop := L0.length = mMl y ∧ ∀ (b : Nat) (tS : Nat → Value), (∀ n, (tS n).category = 1) → (lg_sl (args.map (tr b tS))).length ≤ mMl y ∧ ∀ (i j : Nat) (v : Value), L0[j]? = some v → (∀ f, v ≠ .float f) → (i + j, tr b tS v) ∈ lv_args i (args.map (tr b tS))
theorem catS_tr (hc : ∀ n, (tS n).category = 1) (h : catS S ≤ 8) {m : MethodId} {pc : Nat} {ls : Array Slot} {st : List Value} : 2 * (F0 m pc ls st).monitorRoom + ((S.map (tr b tS)).map fun v => v.category).sum ≤ 8 := by
  refine lv_room ?_
  rw [List.map_map, show ((fun v => v.category) ∘ tr b tS) = fun v => v.category from funext (fun v => tr_cat hc v), ← catS_eq]
  exact h
theorem ms_callS {n y' : Nat} {args L0 : List Value} {R' : mR} (hd : decode (mCd y) pc = .ok (.invokestatic n, 3)) (hc : CL y n y') (hst : mRc y' = 0) (hna : args.length = (mr y').2.2.1) (hmk : mkR y' args L0) (hcat : catS S ≤ 8) (h : mj l b tS D dA i9 a9 y' 0 L0 [] I A B P R') (hk : ∀ v I A B P, R' v I A B P → mj l b tS D dA i9 a9 y (pc + 3) L (pushO v S) I A B P R) : mj l b tS D dA i9 a9 y pc L (args.reverse ++ S) I A B P R := by
  intro p e RM s m ar below meth c H locs cells slots Q ls hy cx sx wl lo hll rk
  have hok := okY_parts (okY_all hc.1)
  have hs := hok.2.2.2.2.2.2.2.1 hst
  refine ms_back (pc := pc) (va_runS (As := args.map (tr b tS)) (rest := S.map (tr b tS)) ⟨cx.1, cx.2.1, cx.2.2.1, cx.2.2.2.1, cx.2.2.2.2.1⟩ (met_of hc.1 hmk.1 (hmk.2 b) h) ⟨ms_cb cx hc hs.2, cx.2.2.2.2.1 _ hs.1⟩ ⟨mPc_blind, ms_pre cx sx wl⟩ rfl (by rw [List.length_map, hna]) (lo.1.trans hll) (by simp [List.map_reverse]) (catS_tr (out_cat sx.2.2) hcat) hd ⟨cx.2.2.2.2.2.2.2.1, cx.2.2.2.2.2.2.2.2⟩) wl.2.1 (fun v I2 A2 B2 P2 H1 locs1 hR' wl1 => ?_)
  exact hk v I2 A2 B2 P2 hR' p e RM s m ar below meth c H1 locs1 cells slots Q ls hy cx sx wl1 lo hll rk
theorem ms_callV {n y' k : Nat} {args L0 : List Value} {R' : mR} (hd : decode (mCd y) pc = .ok (.invokevirtual n, 3)) (hc : CL y n y') {ci : Nat} (hst : mRc y' = ci + 1) (hci : ci ≠ 98) (hck : csh k = some ci) (hna : args.length + 1 = (mr y').2.2.1) (hmk : mkR y' (.ref k :: args) L0) (hcat : catS S ≤ 8) (h : mj l b tS D dA i9 a9 y' 0 L0 [] I A B P R') (hk : ∀ v I A B P, R' v I A B P → mj l b tS D dA i9 a9 y (pc + 3) L (pushO v S) I A B P R) : mj l b tS D dA i9 a9 y pc L (args.reverse ++ .ref k :: S) I A B P R := by
  intro p e RM s m ar below meth c H locs cells slots Q ls hy cx sx wl lo hll rk
  have hok := okY_parts (okY_all hc.1)
  obtain ⟨g1, g2, g3, -, g5⟩ := hok.2.2.2.2.2.2.2.2 ci hst
  have g5 := g5 hci
  have hpd : (parseMethodDescriptor (mNm y').desc).map (fun d => d.parameters.length) = some args.length := by
    rw [← hna] at g3
    cases hz : parseMethodDescriptor (mNm y').desc with
    | none => rw [hz] at g3; cases g3
    | some d =>
      rw [hz] at g3
      simp at g3 ⊢
      exact g3
  obtain ⟨q, hq1, hq2⟩ := Option.map_eq_some_iff.mp g5
  have hrec := va_recv sx.2.1 wl.1 (ci := ci) (q0 := k) (fs := flds b I P ci k) hq1 (by rw [wsl_at (csh_lt hck), ce_obj hck])
  rw [hq2] at hrec
  refine ms_back (pc := pc) (va_runV (As := args.map (tr b tS)) (b := b + k) (C := (mNm y').cls) (rest := S.map (tr b tS)) ⟨cx.1, cx.2.1, cx.2.2.1, cx.2.2.2.1, cx.2.2.2.2.1⟩ (met_of hc.1 hmk.1 (hmk.2 b) h) ⟨ms_cb cx hc hpd, cx.2.2.2.2.1 _ g1, cx.2.2.2.2.1 _ g2⟩ ⟨mPc_blind, hrec, ms_pre cx sx wl⟩ rfl (by rw [List.length_map]) (lo.1.trans hll) (by simp [List.map_reverse, tr]) (catS_tr (out_cat sx.2.2) hcat) hd ⟨cx.2.2.2.2.2.2.2.1, cx.2.2.2.2.2.2.2.2⟩) wl.2.1 (fun v I2 A2 B2 P2 H1 locs1 hR' wl1 => ?_)
  exact hk v I2 A2 B2 P2 hR' p e RM s m ar below meth c H1 locs1 cells slots Q ls hy cx sx wl1 lo hll rk
theorem ms_callT {n y' i : Nat} {args L0 : List Value} {R' : mR} (hd : decode (mCd y) pc = .ok (.invokevirtual n, 3)) (hc : CL y n y') (hst : mRc y' = 99) (hi : i < 14) (hna : args.length + 1 = (mr y').2.2.1) (hmk : mkR y' (.retAddr (1 + i) :: args) L0) (hcat : catS S ≤ 8) (h : mj l b tS D dA i9 a9 y' 0 L0 [] I A B P R') (hk : ∀ v I A B P, R' v I A B P → mj l b tS D dA i9 a9 y (pc + 3) L (pushO v S) I A B P R) : mj l b tS D dA i9 a9 y pc L (args.reverse ++ .retAddr (1 + i) :: S) I A B P R := by
  intro p e RM s m ar below meth c H locs cells slots Q ls hy cx sx wl lo hll rk
  have hok := okY_parts (okY_all hc.1)
  obtain ⟨g1, g2, g3, g5, -⟩ := hok.2.2.2.2.2.2.2.2 98 hst
  have g5 := g5 rfl
  have hpd : (parseMethodDescriptor (mNm y').desc).map (fun d => d.parameters.length) = some args.length := by
    rw [← hna] at g3
    cases hz : parseMethodDescriptor (mNm y').desc with
    | none => rw [hz] at g3; cases g3
    | some d =>
      rw [hz] at g3
      simp at g3 ⊢
      exact g3
  obtain ⟨adK, adV, k1, k2, k3⟩ := sx.2.2.2.2.1
  have hrec := vk_recv k2 hi wl.2.1
  rw [← g5] at hrec
  have hpre := ms_pre (args := .retAddr (1 + i) :: args) cx sx wl
  rw [List.map_cons, show tr b tS (.retAddr (1 + i)) = .ref (adK i) from (k1 i hi).1] at hpre
  refine ms_back (pc := pc) (va_runV (As := args.map (tr b tS)) (b := adK i) (C := (mNm y').cls) (rest := S.map (tr b tS)) ⟨cx.1, cx.2.1, cx.2.2.1, cx.2.2.2.1, cx.2.2.2.2.1⟩ (met_of hc.1 hmk.1 (hmk.2 b) h) ⟨ms_cb cx hc hpd, cx.2.2.2.2.1 _ g1, cx.2.2.2.2.1 _ g2⟩ ⟨mPc_blind, hrec, hpre⟩ rfl (by rw [List.length_map]) (lo.1.trans hll) (by simp [List.map_reverse, show tr b tS (.retAddr (1 + i)) = .ref (adK i) from (k1 i hi).1]) (catS_tr (out_cat sx.2.2) hcat) hd ⟨cx.2.2.2.2.2.2.2.1, cx.2.2.2.2.2.2.2.2⟩) wl.2.1 (fun v I2 A2 B2 P2 H1 locs1 hR' wl1 => ?_)
  exact hk v I2 A2 B2 P2 hR' p e RM s m ar below meth c H1 locs1 cells slots Q ls hy cx sx wl1 lo hll rk
end CAL2
