/-! the best day, found from the last on -/
def FM (F : Nat → Int) (lo hi b : Nat) : Prop :=
  (lo ≤ b) ∧
  (b < hi) ∧
  (∀ x, lo ≤ x → x < b → F x < F b) ∧
  (∀ x, b < x → x < hi → F x ≤ F b)
theorem FM.l {F : Nat → Int} {lo hi b : Nat} (self : FM F lo hi b) : lo ≤ b := self.1
theorem FM.h {F : Nat → Int} {lo hi b : Nat} (self : FM F lo hi b) : b < hi := self.2.1
theorem FM.u {F : Nat → Int} {lo hi b : Nat} (self : FM F lo hi b) : ∀ x, lo ≤ x → x < b → F x < F b := self.2.2.1
theorem FM.v {F : Nat → Int} {lo hi b : Nat} (self : FM F lo hi b) : ∀ x, b < x → x < hi → F x ≤ F b := self.2.2.2
theorem FM.mk {F : Nat → Int} {lo hi b : Nat} (h_l : lo ≤ b) (h_h : b < hi) (h_u : ∀ x, lo ≤ x → x < b → F x < F b) (h_v : ∀ x, b < x → x < hi → F x ≤ F b) : FM F lo hi b := ⟨h_l, h_h, h_u, h_v⟩
theorem fm_u {F : Nat → Int} {lo hi b c : Nat} (h : FM F lo hi b) (g : FM F lo hi c) : b = c := by
  rcases Nat.lt_trichotomy b c with z | z | z
  · have h1 := g.u b h.l z
    have h2 := h.v c z g.h
    omega
  · exact z
  · have h1 := h.u c g.l z
    have h2 := g.v b z h.h
    omega
theorem bst_fm {F : Nat → Int} (hb : ∀ x, -2 ^ 60 ≤ F x ∧ F x ≤ 2 ^ 60) : ∀ n, ∃ b, FM F 0 (n + 1) b ∧ bst (fun x => zL (F x)) n = (nI b, zL (F b))
  | 0 => ⟨0, ⟨Nat.le_refl _, by omega, fun x _ h => absurd h (Nat.not_lt_zero x), fun x h1 h2 => by omega⟩, rfl⟩
  | n + 1 => by
    obtain ⟨b, H, e⟩ := bst_fm hb n
    have h1 := hb (n + 1)
    have h2 := hb b
    have hh := H.h
    show ∃ b, FM F 0 (n + 1 + 1) b ∧ (if zL (F (n + 1)) ≤ (bst (fun x => zL (F x)) n).2 then bst (fun x => zL (F x)) n else (nI (n + 1), zL (F (n + 1)))) = (nI b, zL (F b))
    rw [e]
    by_cases z : F (n + 1) ≤ F b
    · refine ⟨b, ⟨H.l, by omega, H.u, fun x a1 a2 => ?_⟩, if_pos ((zl_le (by omega) (by omega) (by omega) (by omega)).mpr z)⟩
      by_cases y : x = n + 1
      · rw [y]; exact z
      · exact H.v x a1 (by omega)
    · refine ⟨n + 1, ⟨by omega, by omega, fun x a1 a2 => ?_, fun x a1 a2 => by omega⟩, if_neg (fun y => z ((zl_le (by omega) (by omega) (by omega) (by omega)).mp y))⟩
      rcases Nat.lt_trichotomy x b with y | y | y
      · have := H.u x a1 y
        omega
      · rw [y]; omega
      · have := H.v x y a2
        omega
/-- the best of the days from one on: nothing yet, or it and how much -/
def BS (F : Nat → Int) (S0 : Int) (lo hi : Nat) (s : Int64 × Int32) : Prop := (lo = hi ∧ s.2 = -1) ∨ ∃ b, FM F lo hi b ∧ s.2 = nI b ∧ s.1 = zL (F b - S0)
theorem bs_s {F : Nat → Int} {S0 : Int} (hb : ∀ x, -2 ^ 60 ≤ F x ∧ F x ≤ 2 ^ 60) (hS : -2 ^ 60 ≤ S0 ∧ S0 ≤ 2 ^ 60) {lo hi : Nat} (hh : hi < 2 ^ 31) {s : Int64 × Int32} (H : BS F S0 (lo + 1) hi s) {g : Int64} (eg : g = zL (F lo - S0)) : BS F S0 lo hi (if s.2 = -1 ∨ s.1 ≤ g then (g, nI lo) else s) := by
  subst eg
  rcases H with ⟨h1, h2⟩ | ⟨b, H, h2, h3⟩
  · rw [if_pos (Or.inl h2)]
    exact Or.inr ⟨lo, ⟨Nat.le_refl _, by omega, fun x a1 a2 => by omega, fun x a1 a2 => by omega⟩, rfl, rfl⟩
  · have hbl := H.l
    have hbh := H.h
    have b1 := hb lo
    have b2 := hb b
    have hn : ¬ s.2 = -1 := fun e => by
      have := nI_pos (n := b) (by omega)
      rw [← h2, e] at this
      exact this (by decide)
    by_cases z : F b ≤ F lo
    · rw [if_pos (Or.inr (by rw [h3]; exact (zl_le (by omega) (by omega) (by omega) (by omega)).mpr (by omega)))]
      refine Or.inr ⟨lo, ⟨Nat.le_refl _, by omega, fun x a1 a2 => by omega, fun x a1 a2 => ?_⟩, rfl, rfl⟩
      rcases Nat.lt_trichotomy x b with y | y | y
      · have := H.u x (by omega) y
        omega
      · rw [y]; exact z
      · have := H.v x y a2
        omega
    · rw [if_neg (fun y => by
        rcases y with y | y
        · exact hn y
        · rw [h3] at y
          have := (zl_le (by omega) (by omega) (by omega) (by omega)).mp y
          omega)]
      refine Or.inr ⟨b, ⟨by omega, hbh, fun x a1 a2 => ?_, H.v⟩, h2, h3⟩
      by_cases y : x = lo
      · rw [y]; omega
      · exact H.u x (by omega) a2
theorem zmo_34 {b0 : Nat → Int} {m : Int} (hb : ∀ d, -2 ^ 33 ≤ b0 d ∧ b0 d ≤ 2 ^ 33) (hm : -2 ^ 30 ≤ m ∧ m ≤ 2 ^ 30) (v d : Nat) : -2 ^ 34 ≤ zmo b0 v m d ∧ zmo b0 v m d ≤ 2 ^ 34 := by
  have := hb d
  unfold zmo
  split <;> omega
theorem zpz_v {a : Ac} {b0 : Nat → Int} {m : Int} {q i : Nat} (hi : i < a.P) : zpz a (zmo b0 (a.P * q + i) m) q = zpz a (zmo b0 (a.P * q + i + 1) m) q + (zpr a (a.P * q + i) (b0 (a.P * q + i) + m) - zpr a (a.P * q + i) (b0 (a.P * q + i))) := by
  refine zsm_d (e := i) hi ?_ (fun j hj hne => ?_)
  · show zpr a (a.P * q + i) (zmo b0 (a.P * q + i) m (a.P * q + i)) = zpr a (a.P * q + i) (zmo b0 (a.P * q + i + 1) m (a.P * q + i)) + _
    unfold zmo
    rw [if_pos (Nat.le_refl _), if_neg (by omega)]
    omega
  · show zpr a (a.P * q + j) (zmo b0 (a.P * q + i) m (a.P * q + j)) = zpr a (a.P * q + j) (zmo b0 (a.P * q + i + 1) m (a.P * q + j))
    unfold zmo
    by_cases z : a.P * q + i ≤ a.P * q + j
    · rw [if_pos z, if_pos (by omega)]
    · rw [if_neg z, if_neg (by omega)]
theorem dmI_z {a : Ac} {I A : mI} {B : mB} (C : CR a I A B) (G : Gd a) {b0 : Nat → Int} {m : Int} {q lo : Nat} (elo : lo = a.P * q) (hq : q < a.N) (hB : ∀ d, d < a.P * a.N → B 37 d = zL (b0 d)) (hb : ∀ d, -2 ^ 33 ≤ b0 d ∧ b0 d ≤ 2 ^ 33) (hm : -2 ^ 30 ≤ m ∧ m ≤ 2 ^ 30) {F : Nat → Int} {S0 gb : Int} (hF : ∀ r, r < a.P → F (a.P * q + r) - S0 = gb + znr (zpz a (zmo b0 (a.P * q + r) m) q) - znr (zpz a b0 q)) (hFb : ∀ x, -2 ^ 60 ≤ F x ∧ F x ≤ 2 ^ 60) (hSb : -2 ^ 60 ≤ S0 ∧ S0 ≤ 2 ^ 60) {s : Int64 × Int32} (H : BS F S0 (a.P * q + a.P) (a.P * a.N) s) : ∀ j, j ≤ a.P →
    (dmI A B a.nt (zL m) (zL gb) (zL (znr (zpz a b0 q))) lo a.P (zL (zpz a b0 q), s) j).1 = zL (zpz a (zmo b0 (a.P * q + (a.P - j)) m) q) ∧ BS F S0 (a.P * q + (a.P - j)) (a.P * a.N) (dmI A B a.nt (zL m) (zL gb) (zL (znr (zpz a b0 q))) lo a.P (zL (zpz a b0 q), s) j).2
  | 0, _ => by
    refine ⟨?_, H⟩
    show zL (zpz a b0 q) = _
    congr 1
    refine zpz_b2 (fun d h1 h2 => ?_)
    unfold zmo
    rw [if_neg]
    rw [Nat.mul_succ] at h2
    omega
  | j + 1, hj => by
    obtain ⟨h1, h2⟩ := dmI_z C G elo hq hB hb hm hF hFb hSb H j (by omega)
    have h3 := D320 G.V
    have hPN : a.P * q + a.P ≤ a.P * a.N := by
      have := Nat.mul_le_mul_left a.P (show q + 1 ≤ a.N by omega)
      rw [Nat.mul_succ] at this
      exact this
    have hbd := hb (a.P * q + (a.P - (j + 1)))
    rw [show a.P - j = a.P - (j + 1) + 1 by omega, ← Nat.add_assoc] at h1 h2
    have e1 : (dmI A B a.nt (zL m) (zL gb) (zL (znr (zpz a b0 q))) lo a.P (zL (zpz a b0 q), s) j).1 + (prd A a.nt (lo + (a.P - (j + 1))) (B 37 (lo + (a.P - (j + 1))) + zL m) - prd A a.nt (lo + (a.P - (j + 1))) (B 37 (lo + (a.P - (j + 1))))) = zL (zpz a (zmo b0 (a.P * q + (a.P - (j + 1))) m) q) := by
      rw [h1, elo, hB _ (by omega), zL_add, prd_z C G (by omega) (by omega), prd_z C G (by omega) (by omega), zL_sub, zL_add]
      congr 1
      exact (zpz_v (by omega)).symm
    have b61 := zpz_61 G (b := zmo b0 (a.P * q + (a.P - (j + 1))) m) (p := q) (zmo_34 hb hm _)
    have e2 : zL gb + nea ((dmI A B a.nt (zL m) (zL gb) (zL (znr (zpz a b0 q))) lo a.P (zL (zpz a b0 q), s) j).1 + (prd A a.nt (lo + (a.P - (j + 1))) (B 37 (lo + (a.P - (j + 1))) + zL m) - prd A a.nt (lo + (a.P - (j + 1))) (B 37 (lo + (a.P - (j + 1)))))) - zL (znr (zpz a b0 q)) = zL (F (a.P * q + (a.P - (j + 1))) - S0) := by
      rw [e1, nea_z b61.1 b61.2, zL_add, zL_sub, hF _ (by omega)]
    have key := bs_s hFb hSb (by omega) h2 e2
    have h4 : dmI A B a.nt (zL m) (zL gb) (zL (znr (zpz a b0 q))) lo a.P (zL (zpz a b0 q), s) (j + 1) = ((dmI A B a.nt (zL m) (zL gb) (zL (znr (zpz a b0 q))) lo a.P (zL (zpz a b0 q), s) j).1 + (prd A a.nt (lo + (a.P - (j + 1))) (B 37 (lo + (a.P - (j + 1))) + zL m) - prd A a.nt (lo + (a.P - (j + 1))) (B 37 (lo + (a.P - (j + 1))))), if (dmI A B a.nt (zL m) (zL gb) (zL (znr (zpz a b0 q))) lo a.P (zL (zpz a b0 q), s) j).2.2 = -1 ∨ (dmI A B a.nt (zL m) (zL gb) (zL (znr (zpz a b0 q))) lo a.P (zL (zpz a b0 q), s) j).2.1 ≤ zL gb + nea ((dmI A B a.nt (zL m) (zL gb) (zL (znr (zpz a b0 q))) lo a.P (zL (zpz a b0 q), s) j).1 + (prd A a.nt (lo + (a.P - (j + 1))) (B 37 (lo + (a.P - (j + 1))) + zL m) - prd A a.nt (lo + (a.P - (j + 1))) (B 37 (lo + (a.P - (j + 1)))))) - zL (znr (zpz a b0 q)) then (zL gb + nea ((dmI A B a.nt (zL m) (zL gb) (zL (znr (zpz a b0 q))) lo a.P (zL (zpz a b0 q), s) j).1 + (prd A a.nt (lo + (a.P - (j + 1))) (B 37 (lo + (a.P - (j + 1))) + zL m) - prd A a.nt (lo + (a.P - (j + 1))) (B 37 (lo + (a.P - (j + 1)))))) - zL (znr (zpz a b0 q)), nI (lo + (a.P - (j + 1)))) else (dmI A B a.nt (zL m) (zL gb) (zL (znr (zpz a b0 q))) lo a.P (zL (zpz a b0 q), s) j).2) := by
      rw [dmI]
      split <;> rfl
    rw [h4]
    refine ⟨e1, ?_⟩
    rw [← elo] at key ⊢
    exact key
def zXg (a : Ac) (b0 : Nat → Int) (m : Int) (p : Nat) : Int := znr (zpz a (zmo b0 (a.P * p) m) p) - znr (zpz a b0 p)
def zGs (a : Ac) (b0 : Nat → Int) (m : Int) (i : Nat) : Int := zsm (fun p => if a.N - i ≤ p then zXg a b0 m p else 0) a.N
theorem zGs_s {a : Ac} {b0 : Nat → Int} {m : Int} {i : Nat} (hi : i < a.N) : zGs a b0 m (i + 1) = zGs a b0 m i + zXg a b0 m (a.N - (i + 1)) := by
  refine zsm_d (e := a.N - (i + 1)) (by omega) ?_ (fun j hj hne => ?_)
  · show (if a.N - (i + 1) ≤ a.N - (i + 1) then _ else _) = (if a.N - i ≤ a.N - (i + 1) then _ else _) + _
    rw [if_pos (Nat.le_refl _), if_neg (by omega), Int.zero_add]
  · show (if a.N - (i + 1) ≤ j then _ else _) = (if a.N - i ≤ j then _ else _)
    by_cases z : a.N - i ≤ j
    · rw [if_pos z, if_pos (by omega)]
    · rw [if_neg z, if_neg (by omega)]
/-- all interest by balances that are more from a day on, less that without -/
theorem zF_v {a : Ac} {b0 : Nat → Int} {m : Int} {i r : Nat} (hi : i < a.N) (hr : r < a.P) : zsm (fun p => znr (zpz a (zmo b0 (a.P * (a.N - (i + 1)) + r) m) p)) a.N - zsm (fun p => znr (zpz a b0 p)) a.N = zGs a b0 m i + znr (zpz a (zmo b0 (a.P * (a.N - (i + 1)) + r) m) (a.N - (i + 1))) - znr (zpz a b0 (a.N - (i + 1))) := by
  rw [← zsm_sub]
  have e : ∀ p, p < a.N → znr (zpz a (zmo b0 (a.P * (a.N - (i + 1)) + r) m) p) - znr (zpz a b0 p) = (if a.N - i ≤ p then zXg a b0 m p else 0) + (if p = a.N - (i + 1) then znr (zpz a (zmo b0 (a.P * (a.N - (i + 1)) + r) m) p) - znr (zpz a b0 p) else 0) := fun p hp => by
    rcases Nat.lt_trichotomy p (a.N - (i + 1)) with z | z | z
    · rw [if_neg (by omega), if_neg (by omega)]
      have h := Nat.mul_le_mul_left a.P (show p + 1 ≤ a.N - (i + 1) by omega)
      rw [zpz_b2 (b' := b0) (fun d h1 h2 => by unfold zmo; rw [if_neg (by omega)])]
      omega
    · rw [if_neg (by omega), if_pos z, Int.zero_add]
    · rw [if_pos (by omega), if_neg (by omega), Int.add_zero]
      unfold zXg
      have h := Nat.mul_le_mul_left a.P (show a.N - (i + 1) + 1 ≤ p by omega)
      rw [Nat.mul_succ] at h
      rw [zpz_b2 (b' := zmo b0 (a.P * p) m) (fun d h1 h2 => by unfold zmo; rw [if_pos (by omega), if_pos h1])]
  rw [zsm_congr e, zsm_add, zsm_one (e := a.N - (i + 1)) (by omega) (fun j hj hne => if_neg hne), if_pos rfl]
  unfold zGs
  omega
theorem dmO_z {a : Ac} {I A : mI} {B : mB} (C : CR a I A B) (G : Gd a) {b0 : Nat → Int} {m : Int} (hB : ∀ d, d < a.P * a.N → B 37 d = zL (b0 d)) (hb : ∀ d, -2 ^ 33 ≤ b0 d ∧ b0 d ≤ 2 ^ 33) (hm : -2 ^ 30 ≤ m ∧ m ≤ 2 ^ 30) {F : Nat → Int} {S0 : Int} (hF : ∀ x, F x = zsm (fun p => znr (zpz a (zmo b0 x m) p)) a.N) (hS : S0 = zsm (fun p => znr (zpz a b0 p)) a.N) (hFb : ∀ x, -2 ^ 60 ≤ F x ∧ F x ≤ 2 ^ 60) (hSb : -2 ^ 60 ≤ S0 ∧ S0 ≤ 2 ^ 60) : ∀ i, i ≤ a.N →
    (dmO A B a.nt (zL m) a.P a.N i).1 = zL (zGs a b0 m i) ∧ BS F S0 (a.P * (a.N - i)) (a.P * a.N) (dmO A B a.nt (zL m) a.P a.N i).2
  | 0, _ => by
    refine ⟨?_, Or.inl ⟨rfl, rfl⟩⟩
    show (0 : Int64) = _
    rw [show zGs a b0 m 0 = 0 from zsm_z (fun p hp => if_neg (by omega))]
    rfl
  | i + 1, hi => by
    obtain ⟨h1, h2⟩ := dmO_z C G hB hb hm hF hS hFb hSb i (by omega)
    have hq : a.N - (i + 1) < a.N := by omega
    have b34 : ∀ d, -2 ^ 34 ≤ b0 d ∧ b0 d ≤ 2 ^ 34 := fun d => by have := hb d; omega
    have b61 := zpz_61 G (b := b0) (p := a.N - (i + 1)) b34
    have e1 : pds A B a.nt 37 a.P (a.N - (i + 1)) 0 0 = zL (zpz a b0 (a.N - (i + 1))) := pds_0 C G hB (fun d => by have := hb d; omega) hq
    rw [show a.N - i = a.N - (i + 1) + 1 by omega, Nat.mul_succ] at h2
    obtain ⟨g1, g2⟩ := dmI_z C G (q := a.N - (i + 1)) (lo := (a.N - (i + 1)) * a.P) (Nat.mul_comm _ _) hq hB hb hm (gb := zGs a b0 m i) (fun r hr => by rw [hF, hS]; exact zF_v (by omega) hr) hFb hSb h2 a.P (Nat.le_refl _)
    rw [Nat.sub_self, show a.P * (a.N - (i + 1)) + 0 = a.P * (a.N - (i + 1)) from rfl] at g1
    rw [Nat.sub_self, show a.P * (a.N - (i + 1)) + 0 = a.P * (a.N - (i + 1)) from rfl] at g2
    have c61 := zpz_61 G (b := zmo b0 (a.P * (a.N - (i + 1))) m) (p := a.N - (i + 1)) (zmo_34 hb hm _)
    rw [dmO, e1, nea_z b61.1 b61.2, h1]
    refine ⟨?_, g2⟩
    show zL (zGs a b0 m i) + (nea (dmI A B a.nt (zL m) (zL (zGs a b0 m i)) (zL (znr (zpz a b0 (a.N - (i + 1))))) ((a.N - (i + 1)) * a.P) a.P (zL (zpz a b0 (a.N - (i + 1))), (dmO A B a.nt (zL m) a.P a.N i).2) a.P).1 - zL (znr (zpz a b0 (a.N - (i + 1))))) = _
    rw [g1, nea_z c61.1 c61.2, zL_sub, zL_add, zGs_s (by omega)]
    rfl
theorem z_best {a : Ac} {I A : mI} {B : mB} (C : CR a I A B) (G : Gd a) {e : Nat} (he : e < a.n) (hD : 1 ≤ a.P * a.N) : (dmO A (wob A B a.va (a.P * a.N) e) a.nt (B 31 e) a.P a.N a.N).2.2 = (bst (fun d => zL (zal (zva a e d))) (a.P * a.N - 1)).1 := by
  have h3 := D320 G.V
  have h1 := G.V.am1 e he
  have C2 := C.fr (A' := A) (B' := wob A B a.va (a.P * a.N) e) (fC.b37 (fun k hk => wob_b hk))
  have hb : ∀ d, -2 ^ 33 ≤ zbl (zam a e 0) d ∧ zbl (zam a e 0) d ≤ 2 ^ 33 := fun d => by
    have := zbl_g G d
    rw [zbl_am he]
    split <;> omega
  have hva : ∀ v x, zbl (zva a e v) x = zmo (zbl (zam a e 0)) v (a.am e) x := fun v x => by
    rw [zbl_va he]
    unfold zmo
    rw [zbl_am he]
    split <;> split <;> omega
  have hFb : ∀ v, -2 ^ 60 ≤ zal (zva a e v) ∧ zal (zva a e v) ≤ 2 ^ 60 := fun v => by
    have := zal_42 G (sr_va (a := a) (e := e) (v := v)) (fun d => by rw [hva]; exact zmo_34 hb (by omega) _ _)
    omega
  have hSb : -2 ^ 60 ≤ zal (zam a e 0) ∧ zal (zam a e 0) ≤ 2 ^ 60 := by
    have := zal_42 G (sr_am (a := a) (e := e) (m := 0)) (fun d => by have := hb d; omega)
    omega
  rw [C.ham e he]
  obtain ⟨-, h2⟩ := dmO_z C2 G (b0 := zbl (zam a e 0)) (m := a.am e) (F := fun v => zal (zva a e v)) (S0 := zal (zam a e 0)) (fun d hd => wob_z C G.V he hd) hb (by omega) (fun v => zsm_congr (fun p hp => it_x sr_va (hva v) p)) (zsm_congr (fun p hp => it_x sr_am (fun d => rfl) p)) hFb hSb a.N (Nat.le_refl _)
  rw [Nat.sub_self, Nat.mul_zero] at h2
  obtain ⟨b, H, eb⟩ := bst_fm hFb (a.P * a.N - 1)
  rw [show a.P * a.N - 1 + 1 = a.P * a.N by omega] at H
  rw [eb]
  rcases h2 with ⟨z, _⟩ | ⟨c, K, ec, _⟩
  · omega
  · rw [ec, fm_u K H]
