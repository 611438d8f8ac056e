/-! the machine's own judgement, and that it obeys the small machine: part 1, words -/
def tys (dA : Nat → ClassId) : List (ClassId × FieldType) := [(dA 0, .int), (dA 1, .long), (dA 2, .byte), (dA 3, .boolean), (dA 4, .object "ValueDays$Script"), (dA 5, .array .int)]
def Af (b : Nat) : Nat → Prop := fun q => b ≤ q
def Lok (b : Nat) (tS : Nat → Value) (ls : Array Slot) (L : List Value) : Prop := ls.size = L.length ∧ lv_wf ls ∧ ∀ (j : Nat) (v : Value), L[j]? = some v → (∀ f, v ≠ .float f) → ls[j]? = some (.val (tr b tS v))
/-- what lies outside the store: the script, the texts, two statics -/
def Out (b : Nat) (tS : Nat → Value) (i9 : Int32) (a9 : Nat → Int32) (s : State) : Prop :=
  (∀ n, n ≠ 999 → ∃ a, tS n = .ref a) ∧
  (∃ sb : Nat, tS 0 = .ref sb ∧ sb < b ∧ va_X sb i9.toNatClampNeg a9 s s.heap ∧ Int32.ofNat i9.toNatClampNeg = i9) ∧
  (∃ adK adV : Nat → Nat, (∀ i, i < 14 → tS (1 + i) = .ref (adK i) ∧ tS (101 + i) = .ref (adV i)) ∧ vk_S 14 ((List.range 14).map (fun i => (tx i).length)) ((List.range 14).map tx) adK adV (Af b) s s.heap ∧ ∀ q ∈ mST, ∃ t, vk_R (nth "" mOW q.1) q.2.1 t (adK q.2.2) s) ∧
  va_Z "java/lang/String" "COMPACT_STRINGS" "Z" (.int 1) (Af b) s s.heap ∧
  va_Z "jdk/internal/util/Preconditions" "SIOOBE_FORMATTER" "Ljava/util/function/BiFunction;" (tS 999) (Af b) s s.heap ∧ (tS 999 = .null ∨ ∃ a, tS 999 = .ref a)
def Sx (b : Nat) (tS : Nat → Value) (D : va_G) (dA : Nat → ClassId) (i9 : Int32) (a9 : Nat → Int32) (s : State) : Prop := b ≤ s.heap.size ∧ va_K D vwCl (tys dA) s ∧ Out b tS i9 a9 s
def Wl (b : Nat) (D : va_G) (dA : Nat → ClassId) (i9 : Int32) (a9 : Nat → Int32) (I A : mI) (B : mB) (P : mP) (s : State) (H : Heap) (locs : List Loc) : Prop := va_P D vwCl (wsl b dA I A B P) H ∧ va_S (Af b) s.heap H locs ∧ I 900 0 = i9 ∧ A 900 = a9
def Cx (y : Nat) (p : Program) (RM : Room) (s : State) (m : MethodId) (args : Array Value) (c : Code) (cells slots : Nat) : Prop :=
  p.tables.exec = Jvm.exec ∧ c.code = mCd y ∧ c.maxLocals = mMl y ∧ s.vm.findClass (mNm y).cls = some m.cls ∧ (∀ w ∈ mT, w.before args s = true) ∧ mRf y ≤ RM.frames ∧ mRl y ≤ RM.locals ∧ cells ≤ RM.cells ∧ slots ≤ RM.slots
def RetAt (y pc : Nat) (v : Option Value) : Prop := match v with
  | none => decode (mCd y) pc = .ok (.return_, 1) ∧ mRt y = none
  | some (.int x) => decode (mCd y) pc = .ok (.ireturn, 1) ∧ ∃ ty, mRt y = some ty ∧ narrow ty (.int x) = .int x
  | some (.long _) => decode (mCd y) pc = .ok (.lreturn, 1) ∧ mRt y = some .long
  | some (.ref _) => decode (mCd y) pc = .ok (.areturn, 1) ∧ ∃ rt, mRt y = some rt ∧ ((∃ n, rt = .object n) ∨ ∃ t, rt = .array t)
  | some .null => decode (mCd y) pc = .ok (.areturn, 1) ∧ ∃ rt, mRt y = some rt ∧ ((∃ n, rt = .object n) ∨ ∃ t, rt = .array t)
  | _ => False
section SND
variable (l : Launch) (b : Nat) (tS : Nat → Value) (D : va_G) (dA : Nat → ClassId) (i9 : Int32) (a9 : Nat → Int32)
def RetC (y : Nat) (R : mR) (p : Program) (e : Env) (RM : Room) (s : State) (m : MethodId) (ar : Array Value) (below : List Frame) (meth : Method) (c : Code) (cells slots : Nat) (Q : State → Prop) : Prop :=
  ∀ (v : Option Value) (I A : mI) (B : mB) (P : mP) (H : Heap) (locs : List Loc) (pc : Nat) (ls : Array Slot), R v I A B P → Wl b D dA i9 a9 I A B P s H locs → RetAt y pc v → W p l e RM s m ar below meth c H locs cells slots Q (F0 m pc ls ((pushO v []).map (tr b tS)))
def mj : mJ := fun y pc L S I A B P R =>
  ∀ (p : Program) (e : Env) (RM : Room) (s : State) (m : MethodId) (ar : Array Value) (below : List Frame) (meth : Method) (c : Code) (H : Heap) (locs : List Loc) (cells slots : Nat) (Q : State → Prop) (ls : Array Slot),
    y < 379 → Cx y p RM s m ar c cells slots → Sx b tS D dA i9 a9 s → Wl b D dA i9 a9 I A B P s H locs → Lok b tS ls L → L.length = mMl y → RetC l b tS D dA i9 a9 y R p e RM s m ar below meth c cells slots Q →
    W p l e RM s m ar below meth c H locs cells slots Q (F0 m pc ls (S.map (tr b tS)))
end SND
/-! inversions -/
theorem popI_inv {S : List Value} {k : Int32 → List Value → Prop} (h : popI S k) : ∃ x S', S = .int x :: S' ∧ k x S' := by
  unfold popI at h
  split at h
  · exact ⟨_, _, rfl, h⟩
  · exact h.elim
theorem popL_inv {S : List Value} {k : Int64 → List Value → Prop} (h : popL S k) : ∃ x S', S = .long x :: S' ∧ k x S' := by
  unfold popL at h
  split at h
  · exact ⟨_, _, rfl, h⟩
  · exact h.elim
theorem popR_inv {S : List Value} {k : Nat → List Value → Prop} (h : popR S k) : ∃ x S', S = .ref x :: S' ∧ k x S' := by
  unfold popR at h
  split at h
  · exact ⟨_, _, rfl, h⟩
  · exact h.elim
theorem popV_inv {S : List Value} {k : Value → List Value → Prop} (h : popV S k) : ∃ x S', S = x :: S' ∧ k x S' := by
  unfold popV at h
  split at h
  · exact ⟨_, _, rfl, h⟩
  · exact h.elim
theorem isI_inv {v : Value} {k : Int32 → Prop} (h : isI v k) : ∃ x, v = .int x ∧ k x := by
  unfold isI at h
  split at h
  · exact ⟨_, rfl, h⟩
  · exact h.elim
theorem isL_inv {v : Value} {k : Int64 → Prop} (h : isL v k) : ∃ x, v = .long x ∧ k x := by
  unfold isL at h
  split at h
  · exact ⟨_, rfl, h⟩
  · exact h.elim
theorem isA_inv {v : Value} {k : Value → Prop} (h : isA v k) : ((∃ x, v = .ref x) ∨ v = .null ∨ (∃ x, v = .retAddr x ∧ x ≠ 999)) ∧ k v := by
  unfold isA at h
  split at h
  · exact ⟨Or.inl ⟨_, rfl⟩, h⟩
  · exact ⟨Or.inr (Or.inl rfl), h⟩
  · rename_i x
    cases hx : Nat.beq x 999 with
    | true => rw [hx] at h; exact h.elim
    | false => rw [hx] at h; exact ⟨Or.inr (Or.inr ⟨_, rfl, fun q => by rw [q] at hx; cases hx⟩), h⟩
  · exact h.elim
theorem isN_inv {v : Value} {k : Value → Prop} (h : isN v k) : ((∃ x, v = .ref x) ∨ v = .null) ∧ k v := by
  unfold isN at h
  split at h
  · exact ⟨Or.inl ⟨_, rfl⟩, h⟩
  · exact ⟨Or.inr rfl, h⟩
  · exact h.elim
theorem bif_inv {c : Bool} {p : Prop} (h : bif c then p else False) : c = true ∧ p := by
  cases c
  · exact h.elim
  · exact ⟨rfl, h⟩
theorem ld_inv {k : Value → Prop} : ∀ {L : List Value} {n : Nat}, ld k L n → ∃ v, L[n]? = some v ∧ k v
  | [], _, h => h.elim
  | v :: _, 0, h => ⟨v, rfl, h⟩
  | _ :: L, n + 1, h => by
    obtain ⟨v, h1, h2⟩ := ld_inv (L := L) (n := n) h
    exact ⟨v, by simpa using h1, h2⟩
theorem cut_inv {v : Value} {k : Value → Prop} (h : cut v k) : ∃ v', k v' ∧ (v' = .float 0 ∨ (v' = v ∧ v.category = 1)) := by
  unfold cut at h
  split at h
  · exact ⟨_, h, Or.inl rfl⟩
  · exact ⟨_, h, Or.inl rfl⟩
  · rename_i h1 h2
    refine ⟨_, h, Or.inr ⟨rfl, ?_⟩⟩
    cases v <;> first | rfl | exact absurd rfl (h1 _) | exact absurd rfl (h2 _)
/-- what a store of a value at place n leaves -/
def stoR (v : Value) (w n : Nat) (L L' : List Value) : Prop := L'.length = L.length ∧ n + w ≤ L.length ∧ L'[n]? = some v ∧ (w = 2 → L'[n + 1]? = some (.float 0)) ∧ ∀ j, j < n ∨ n + w ≤ j → L'[j]? = L[j]? ∧ (j + 1 = n → ∀ u, L[j]? = some u → u.category = 1) ∨ L'[j]? = some (.float 0)
theorem sto_inv {v : Value} : ∀ {L : List Value} {n : Nat} {k : List Value → Prop}, sto v L n k → ∃ L', k L' ∧ stoR v 1 n L L'
  | [], _, _, h => by simp [sto] at h
  | a :: L, 0, k, h => by
    have h : k (v :: L) := h
    refine ⟨_, h, by simp, by simp, by simp, by simp, fun j hj => Or.inl ⟨?_, fun e => by omega⟩⟩
    cases j with
    | zero => omega
    | succ j => simp
  | a :: a2 :: L, 1, k, h => by
    have h : cut a (fun a => k (a :: v :: L)) := h
    obtain ⟨a', h1, h2⟩ := cut_inv h
    refine ⟨_, h1, by simp, by simp, by simp, by simp, fun j hj => ?_⟩
    match j with
    | 0 =>
      rcases h2 with h2 | ⟨h2, h3⟩
      · exact Or.inr (by simp [h2])
      · exact Or.inl ⟨by simp [h2], fun _ u hu => by simp at hu; rw [← hu]; exact h3⟩
    | 1 => omega
    | j + 2 => exact Or.inl ⟨by simp, fun e => by omega⟩
  | [_], 1, _, h => by simp [sto] at h
  | a :: L, n + 2, k, h => by
    have h : sto v L (n + 1) (fun L => k (a :: L)) := by
      cases L <;> exact h
    obtain ⟨L', h1, r1, r2, r3, r4, r5⟩ := sto_inv h
    refine ⟨_, h1, by simp [r1], by simp; omega, by simpa using r3, by simp, fun j hj => ?_⟩
    cases j with
    | zero => exact Or.inl ⟨by simp, fun e => by omega⟩
    | succ j =>
      rcases r5 j (by omega) with ⟨q1, q2⟩ | q
      · exact Or.inl ⟨by simpa using q1, fun e u hu => q2 (by omega) u (by simpa using hu)⟩
      · exact Or.inr (by simpa using q)
theorem sto2_inv {v : Value} : ∀ {L : List Value} {n : Nat} {k : List Value → Prop}, sto2 v L n k → ∃ L', k L' ∧ stoR v 2 n L L'
  | [], 0, _, h => by simp [sto2] at h
  | [], 1, _, h => by simp [sto2] at h
  | [], _ + 2, _, h => by simp [sto2] at h
  | [_], 0, _, h => by simp [sto2] at h
  | [_], 1, _, h => by simp [sto2] at h
  | [_, _], 1, _, h => by simp [sto2] at h
  | a :: a2 :: L, 0, k, h => by
    have h : k (v :: .float 0 :: L) := h
    refine ⟨_, h, by simp, by simp, by simp, by simp, fun j hj => Or.inl ⟨?_, fun e => by omega⟩⟩
    match j with
    | 0 => omega
    | 1 => omega
    | j + 2 => simp
  | a :: a2 :: a3 :: L, 1, k, h => by
    have h : cut a (fun a => k (a :: v :: .float 0 :: L)) := h
    obtain ⟨a', h1, h2⟩ := cut_inv h
    refine ⟨_, h1, by simp, by simp, by simp, by simp, fun j hj => ?_⟩
    match j with
    | 0 =>
      rcases h2 with h2 | ⟨h2, h3⟩
      · exact Or.inr (by simp [h2])
      · exact Or.inl ⟨by simp [h2], fun _ u hu => by simp at hu; rw [← hu]; exact h3⟩
    | 1 => omega
    | 2 => omega
    | j + 3 => exact Or.inl ⟨by simp, fun e => by omega⟩
  | a :: L, n + 2, k, h => by
    have h : sto2 v L (n + 1) (fun L => k (a :: L)) := by
      match L, h with
      | [], h => exact h
      | [_], h => exact h
      | _ :: _ :: _, h => exact h
    obtain ⟨L', h1, r1, r2, r3, r4, r5⟩ := sto2_inv h
    refine ⟨_, h1, by simp [r1], by simp; omega, by simpa using r3, fun e => by simpa using r4 e, fun j hj => ?_⟩
    cases j with
    | zero => exact Or.inl ⟨by simp, fun e => by omega⟩
    | succ j =>
      rcases r5 j (by omega) with ⟨q1, q2⟩ | q
      · exact Or.inl ⟨by simpa using q1, fun e u hu => q2 (by omega) u (by simpa using hu)⟩
      · exact Or.inr (by simpa using q)
