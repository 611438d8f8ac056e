/-! what a settlement comes to: the ideal interest of each period -/
theorem zsm_cut {g : Nat → Int} {k : Nat} : ∀ {n : Nat}, k ≤ n → (∀ i, k ≤ i → i < n → g i = 0) → zsm g n = zsm g k
  | 0, h, _ => by rw [show k = 0 by omega]
  | n + 1, h, h2 => by
    by_cases e : k = n + 1
    · rw [e]
    · rw [zsm, zsm_cut (n := n) (by omega) (fun i h3 h4 => h2 i h3 (by omega)), h2 n (by omega) (by omega), Int.add_zero]
/-- the balances by what is paid, drawn, turned back, and the ideal interest of the first periods -/
def zidb (a : Ac) : Nat → Nat → Int
  | 0 => zpb a
  | p + 1 => fun d => zidb a p d + (if zcm a p ≤ d then znr (zpz a (zidb a p) p) else 0)
def zid (a : Ac) (p : Nat) : Int := znr (zpz a (zidb a p) p)
theorem zidb_s {a : Ac} {d : Nat} : ∀ p, zidb a p d = zpb a d + zsm (fun q => if zcm a q ≤ d then zid a q else 0) p
  | 0 => (Int.add_zero _).symm
  | p + 1 => by
    show zidb a p d + (if zcm a p ≤ d then zid a p else 0) = zpb a d + (zsm (fun q => if zcm a q ≤ d then zid a q else 0) p + (if zcm a p ≤ d then zid a p else 0))
    rw [zidb_s p, Int.add_assoc]
theorem it_id {a x : Ac} (G : Gd x) (S : Sr a x) (hb : ∀ d, zpb x d = zpb a d) {k : Nat} (hk : k ≤ 8) (h : ∀ q, q < k → zbk x q = zid a q) : zit x k = zid a k := by
  show znr (zpz x (zbl x) k) = znr (zpz a (zidb a k) k)
  rw [zpz_c S]
  congr 1
  refine zpz_b2 (fun d h1 h2 => ?_)
  have hV := G.V
  rw [zbl_d G d, hb d, zidb_s, zsm_cut (k := k) hk (fun i h3 h4 => ?_)]
  · congr 1
    exact zsm_congr (fun q hq => by rw [zcm_c S, h q hq])
  · refine if_neg (fun z => ?_)
    have h5 := zcm_ge G.V i
    rw [S.P] at h5
    have h6 := Nat.mul_le_mul_left a.P (show k + 1 ≤ i + 1 by omega)
    omega
theorem zpb_cl {a : Ac} {d : Nat} : zpb (zcl a) d = zpb a d := by
  show zpb (zen a 1 (zit a a.c) (zcm a a.c) (nI a.c)) d = _
  rw [zpb_en, if_pos (Or.inl rfl), Int.add_zero]
theorem rr_id {a : Ac} (G : Gd a) (hn : a.n + a.c ≤ 480) {b : Ac} (S : Sr b a) (hb : ∀ d, zpb a d = zpb b d) : ∀ k, k ≤ a.c → (∀ q, q < k → zbk (zrr a k) q = zid b q) ∧ (∀ q, k ≤ q → q < 2 ^ 20 → zbk (zrr a k) q = zbk a q) ∧ (∀ d, zpb (zrr a k) d = zpb a d)
  | 0, _ => ⟨fun q h => by omega, fun q _ _ => rfl, fun _ => rfl⟩
  | k + 1, hk => by
    have hc := G.V.cN
    have hN := G.V.N8
    obtain ⟨h1, h2, h3⟩ := rr_id G hn S hb k (by omega)
    have e1 : zit (zrr a k) k = zid b k := it_id (gd_rr G hn k (by omega)) (S.trans (sr_rr k)) (fun d => (h3 d).trans (hb d)) (by omega) h1
    rw [show zrr a (k + 1) = if zit (zrr a k) k - zbk (zrr a k) k = 0 then zrr a k else zen (zrr a k) 2 (zit (zrr a k) k - zbk (zrr a k) k) (zcm (zrr a k) k) (nI k) from rfl]
    split
    · rename_i z
      refine ⟨fun q hq => ?_, fun q hq => h2 q (by omega), h3⟩
      by_cases e : q = k
      · subst e
        omega
      · exact h1 q (by omega)
    · refine ⟨fun q hq => ?_, fun q hq hq2 => ?_, fun d => ?_⟩
      · rw [zbk_en]
        by_cases e : q = k
        · subst e
          rw [if_pos ⟨Or.inr rfl, rfl⟩]
          omega
        · rw [if_neg (fun z => e ((nI_eq (by omega) (by omega)).mp z.2).symm), h1 q (by omega), Int.add_zero]
      · rw [zbk_en, if_neg (fun z => absurd ((nI_eq (by omega) (by omega)).mp z.2) (by omega)), h2 q (by omega) hq2, Int.add_zero]
      · rw [zpb_en, if_pos (Or.inr rfl), h3, Int.add_zero]
/-- all amounts; those paid, drawn, turned back -/
def zto (a : Ac) : Int := zsm a.am a.n
theorem zto_b {a : Ac} (V : Vw a) : zto a = zbl a 4000 := zsm_congr (fun j hj => (if_pos (V.va9 j hj)).symm)
def zps (a : Ac) : Int := zpb a 4000
theorem zto_d {a : Ac} (G : Gd a) : zto a = zps a + zsm (zbk a) 8 := by
  rw [zto_b G.V, zbl_d G]
  congr 1
  exact zsm_congr (fun p hp => if_pos (by have := zcm_le G.V hp; omega))
/-- the open periods closed one by one, run anew ahead of the last one -/
def zset : Nat → Ac → Ac
  | 0, a => a
  | k + 1, a => zset k (zcl (if a.c = a.N - 1 then zrr a a.c else a))
theorem set_id {b : Ac} : ∀ (k : Nat) (a : Ac), Gd a → a.n + (k + 1) + a.N ≤ 480 → Sr b a → (∀ d, zpb a d = zpb b d) → a.c + (k + 1) = a.N → Gd (zset (k + 1) a) ∧ zto (zset (k + 1) a) = zps b + zsm (zid b) b.N
  | 0, a, G, hn, S, hb, hk => by
    have hc := G.V.cN
    have hN := G.V.N8
    have hSN := S.N
    show Gd (zcl (if a.c = a.N - 1 then zrr a a.c else a)) ∧ zto (zcl (if a.c = a.N - 1 then zrr a a.c else a)) = _
    rw [if_pos (by omega)]
    obtain ⟨h1, h2, h3⟩ := rr_id G (by omega) S hb a.c (Nat.le_refl _)
    have h4 := rr_c (a := a) a.c
    have G2 := gd_rr G (by omega) a.c (Nat.le_refl _)
    have S2 := S.trans (sr_rr (a := a) a.c)
    have hN2 := (sr_rr (a := a) a.c).N
    have e1 : zit (zrr a a.c) a.c = zid b a.c := it_id G2 S2 (fun d => (h3 d).trans (hb d)) (by omega) h1
    have G3 : Gd (zcl (zrr a a.c)) := gd_cl G2 (by omega) (by omega)
    refine ⟨G3, ?_⟩
    rw [zto_d G3]
    have e2 : zps (zcl (zrr a a.c)) = zps b := by
      show zpb _ _ = zpb _ _
      rw [zpb_cl, h3, hb]
    rw [e2, zsm_cut (k := b.N) (by omega) (fun i h5 h6 => ?_)]
    · congr 1
      refine zsm_congr (fun q hq => ?_)
      show zbk (zen (zrr a a.c) 1 (zit (zrr a a.c) (zrr a a.c).c) (zcm (zrr a a.c) (zrr a a.c).c) (nI (zrr a a.c).c)) q = _
      rw [zbk_en, h4.1, e1]
      by_cases e : q = a.c
      · subst e
        rw [if_pos ⟨Or.inl rfl, rfl⟩, h2 _ (Nat.le_refl _) (by omega), zbk_0 G (Nat.le_refl _) (by omega), Int.zero_add]
      · rw [if_neg (fun z => e ((nI_eq (by omega) (by omega)).mp z.2).symm), h1 q (by omega), Int.add_zero]
    · exact zbk_0 G3 (by show (zrr a a.c).c + 1 ≤ i; omega) (by omega)
  | k + 1, a, G, hn, S, hb, hk => by
    have hc := G.V.cN
    have hN := G.V.N8
    show Gd (zset (k + 1) (zcl (if a.c = a.N - 1 then zrr a a.c else a))) ∧ zto (zset (k + 1) (zcl (if a.c = a.N - 1 then zrr a a.c else a))) = _
    rw [if_neg (by omega)]
    exact set_id k (zcl a) (gd_cl G (by omega) (by omega)) (by show a.n + 1 + (k + 1) + a.N ≤ 480; omega) (S.trans sr_cl) (fun d => zpb_cl.trans (hb d)) (by show a.c + 1 + (k + 1) = a.N; omega)
/-- how small the ideal interest is -/
theorem zid_g {a : Ac} (G : Gd a) : ∀ k, k ≤ 8 → (∀ q, q < k → -1000000 ≤ zid a q ∧ zid a q ≤ 1000000) ∧ (∀ d, -16000000 ≤ zidb a k d ∧ zidb a k d ≤ 16000000)
  | 0, _ => ⟨fun q h => by omega, fun d => by have := zpb_g G d; show -16000000 ≤ zpb a d ∧ zpb a d ≤ 16000000; omega⟩
  | k + 1, hk => by
    obtain ⟨h1, h2⟩ := zid_g G k (by omega)
    have h3 := zpz_g G (p := k) h2
    have h4 := znr_g h3.1 h3.2
    have h5 : ∀ q, q < k + 1 → -1000000 ≤ zid a q ∧ zid a q ≤ 1000000 := fun q hq => by
      by_cases e : q = k
      · subst e
        exact h4
      · exact h1 q (by omega)
    refine ⟨h5, fun d => ?_⟩
    rw [zidb_s]
    have h6 := zpb_g G d
    have h7 := zsm_b (g := fun q => if zcm a q ≤ d then zid a q else 0) (M := 1000000) (n := k + 1) (fun q hq => by
      have := h5 q hq
      show -1000000 ≤ (if zcm a q ≤ d then zid a q else 0) ∧ (if zcm a q ≤ d then zid a q else 0) ≤ 1000000
      split <;> omega)
    omega
/-! more never brings less -/
theorem zpt_m {a : Ac} {d t : Nat} {b b' : Int} (ht : t < a.nt) (tu : ∀ t, t + 1 < a.nt → 0 < a.tt t ∧ (a.tt (t + 1) = 0 ∨ a.tt t < a.tt (t + 1))) (h : b ≤ b') : zpt a d b t ≤ zpt a d b' t := by
  have h1 := zpt_n tu (d := d) (b := b') ht
  by_cases hb : b ≤ 0
  · rw [zpt_0 hb (by omega)]
    exact h1
  · by_cases h0 : 0 < t ∧ a.tt (t - 1) = 0
    · rw [zpt_z hb (by omega) h0.1 h0.2]
      exact h1
    · by_cases h2 : t < a.nt ∧ 0 < a.tt t
      · rw [zpt_a hb (by omega) h0 h2, zpt_a (by omega) (by omega) h0 h2]
        simp only [zab]
        repeat' split
        all_goals omega
      · rw [zpt_u hb (by omega) h0 h2, zpt_u (by omega) (by omega) h0 h2]
        simp only [zab]
        repeat' split
        all_goals omega
theorem zer_m {a : Ac} (V : Vw a) (tu : ∀ t, t + 1 < a.nt → 0 < a.tt t ∧ (a.tt (t + 1) = 0 ∨ a.tt t < a.tt (t + 1))) {d : Nat} {b b' : Int} (h : b ≤ b') : zer a d b ≤ zer a d b' :=
  zsm_mono (fun t ht => Int.mul_le_mul_of_nonneg_right (zpt_m ht tu h) (zhl_b V (Or.inl ht)).1)
theorem zow_m {a : Ac} (V : Vw a) {d : Nat} {b b' : Int} (h : b ≤ b') : zow a d b' ≤ zow a d b := by
  have q4 := (zhl_b V (r := 4) (d := d) (by omega)).1
  have q5 := (zhl_b V (r := 5) (d := d) (by omega)).1
  have q6 := (zhl_b V (r := 6) (d := d) (by omega)).1
  have key : ∀ x y x' y' : Int, x' ≤ x → y' ≤ y → x' * zhl a 4 d + y' * zhl a 5 d ≤ x * zhl a 4 d + y * zhl a 5 d := fun x y x' y' h1 h2 => by
    have m1 := Int.mul_le_mul_of_nonneg_right h1 q4
    have m2 := Int.mul_le_mul_of_nonneg_right h2 q5
    omega
  by_cases hb' : b' < 0
  · have hb : b < 0 := by omega
    simp only [zow, if_pos hb', if_pos hb]
    rw [zpt_w hb', zpt_o hb' (by omega) (by omega), zpt_w hb, zpt_o hb (by omega) (by omega)]
    refine key _ _ _ _ ?_ ?_
    · split <;> split <;> omega
    · split <;> split <;> omega
  · simp only [zow, if_neg hb']
    by_cases hb : b < 0
    · rw [if_pos hb, zpt_w hb, zpt_o hb (by omega) (by omega)]
      have := key (if zhl a 6 d < -b then zhl a 6 d else -b) (-b - (if zhl a 6 d < -b then zhl a 6 d else -b)) 0 0 (by split <;> omega) (by split <;> omega)
      simpa using this
    · rw [if_neg hb]
      exact Int.le_refl _
theorem zpr_m {a : Ac} (V : Vw a) (tu : ∀ t, t + 1 < a.nt → 0 < a.tt t ∧ (a.tt (t + 1) = 0 ∨ a.tt t < a.tt (t + 1))) {d : Nat} {b b' : Int} (h : b ≤ b') : zpr a d b ≤ zpr a d b' := by
  have h1 := zer_m V tu (d := d) h
  have h2 := zow_m V (d := d) h
  unfold zpr
  omega
theorem zpz_m {a : Ac} (V : Vw a) (tu : ∀ t, t + 1 < a.nt → 0 < a.tt t ∧ (a.tt (t + 1) = 0 ∨ a.tt t < a.tt (t + 1))) {b b' : Nat → Int} {p : Nat} (h : ∀ d, b d ≤ b' d) : zpz a b p ≤ zpz a b' p :=
  zsm_mono (fun i _ => zpr_m V tu (h _))
theorem znr_m2 {x y : Int} (h : x ≤ y) : znr x ≤ znr y := by
  unfold znr
  split <;> split <;> omega
