/-! the class's store, as an account -/
def Od (a : Ac) (A : mI) (od : Nat → Nat) : Prop :=
  (∀ k, k < a.n → od k < a.n) ∧
  (∀ k, k < a.n → A 35 k = nI (od k)) ∧
  (∀ k k', k < k' → k' < a.n → a.va (od k) < a.va (od k') ∨ a.va (od k) = a.va (od k') ∧ od k < od k') ∧
  (∀ e, e < a.n → ∃ k, k < a.n ∧ od k = e)
theorem Od.lt {a : Ac} {A : mI} {od : Nat → Nat} (self : Od a A od) : ∀ k, k < a.n → od k < a.n := self.1
theorem Od.at_ {a : Ac} {A : mI} {od : Nat → Nat} (self : Od a A od) : ∀ k, k < a.n → A 35 k = nI (od k) := self.2.1
theorem Od.st {a : Ac} {A : mI} {od : Nat → Nat} (self : Od a A od) : ∀ k k', k < k' → k' < a.n → a.va (od k) < a.va (od k') ∨ a.va (od k) = a.va (od k') ∧ od k < od k' := self.2.2.1
theorem Od.on {a : Ac} {A : mI} {od : Nat → Nat} (self : Od a A od) : ∀ e, e < a.n → ∃ k, k < a.n ∧ od k = e := self.2.2.2
theorem Od.mk {a : Ac} {A : mI} {od : Nat → Nat} (h_lt : ∀ k, k < a.n → od k < a.n) (h_at_ : ∀ k, k < a.n → A 35 k = nI (od k)) (h_st : ∀ k k', k < k' → k' < a.n → a.va (od k) < a.va (od k') ∨ a.va (od k) = a.va (od k') ∧ od k < od k') (h_on : ∀ e, e < a.n → ∃ k, k < a.n ∧ od k = e) : Od a A od := ⟨h_lt, h_at_, h_st, h_on⟩
def CR (a : Ac) (I A : mI) (B : mB) : Prop :=
  (I 16 4 = nI a.P) ∧
  (I 16 5 = nI a.N) ∧
  (0 < a.N → I 16 6 = nI a.K) ∧
  (I 16 7 = nI a.c) ∧
  (I 17 4 = nI a.nt) ∧
  (I 17 5 = nI a.nc) ∧
  (∀ t, t < a.nt → A 26 t = (if a.tt t = 0 then -1 else nI (a.tt t))) ∧
  (∀ k, k < a.nc → A 27 k = nI (a.cd k)) ∧
  (∀ k, k < a.nc → A 28 k = nI (a.co k)) ∧
  (∀ r d, (r < a.nt ∨ 4 ≤ r ∧ r ≤ 6) → d < 320 → A (19 + r) d = zN (zhl a r d)) ∧
  (I 29 6 = nI a.n) ∧
  (∀ j, j < a.n → A 30 j = nI (a.so j)) ∧
  (∀ j, j < a.n → B 31 j = zL (a.am j)) ∧
  (∀ j, j < a.n → A 32 j = nI (a.va j)) ∧
  (∀ j, j < a.n → A 33 j = nI (a.pg j)) ∧
  (∀ j, j < a.n → A 34 j = a.og j) ∧
  (∃ od, Od a A od) ∧
  (∀ d, d < a.P * a.N → B 36 d = zL (zbl a d)) ∧
  (a.nt ≤ 4)
theorem CR.hP {a : Ac} {I A : mI} {B : mB} (self : CR a I A B) : I 16 4 = nI a.P := self.1
theorem CR.hN {a : Ac} {I A : mI} {B : mB} (self : CR a I A B) : I 16 5 = nI a.N := self.2.1
theorem CR.hK {a : Ac} {I A : mI} {B : mB} (self : CR a I A B) : 0 < a.N → I 16 6 = nI a.K := self.2.2.1
theorem CR.hc {a : Ac} {I A : mI} {B : mB} (self : CR a I A B) : I 16 7 = nI a.c := self.2.2.2.1
theorem CR.hnt {a : Ac} {I A : mI} {B : mB} (self : CR a I A B) : I 17 4 = nI a.nt := self.2.2.2.2.1
theorem CR.hnc {a : Ac} {I A : mI} {B : mB} (self : CR a I A B) : I 17 5 = nI a.nc := self.2.2.2.2.2.1
theorem CR.htt {a : Ac} {I A : mI} {B : mB} (self : CR a I A B) : ∀ t, t < a.nt → A 26 t = (if a.tt t = 0 then -1 else nI (a.tt t)) := self.2.2.2.2.2.2.1
theorem CR.hcd {a : Ac} {I A : mI} {B : mB} (self : CR a I A B) : ∀ k, k < a.nc → A 27 k = nI (a.cd k) := self.2.2.2.2.2.2.2.1
theorem CR.hco {a : Ac} {I A : mI} {B : mB} (self : CR a I A B) : ∀ k, k < a.nc → A 28 k = nI (a.co k) := self.2.2.2.2.2.2.2.2.1
theorem CR.hru {a : Ac} {I A : mI} {B : mB} (self : CR a I A B) : ∀ r d, (r < a.nt ∨ 4 ≤ r ∧ r ≤ 6) → d < 320 → A (19 + r) d = zN (zhl a r d) := self.2.2.2.2.2.2.2.2.2.1
theorem CR.hn {a : Ac} {I A : mI} {B : mB} (self : CR a I A B) : I 29 6 = nI a.n := self.2.2.2.2.2.2.2.2.2.2.1
theorem CR.hso {a : Ac} {I A : mI} {B : mB} (self : CR a I A B) : ∀ j, j < a.n → A 30 j = nI (a.so j) := self.2.2.2.2.2.2.2.2.2.2.2.1
theorem CR.ham {a : Ac} {I A : mI} {B : mB} (self : CR a I A B) : ∀ j, j < a.n → B 31 j = zL (a.am j) := self.2.2.2.2.2.2.2.2.2.2.2.2.1
theorem CR.hva {a : Ac} {I A : mI} {B : mB} (self : CR a I A B) : ∀ j, j < a.n → A 32 j = nI (a.va j) := self.2.2.2.2.2.2.2.2.2.2.2.2.2.1
theorem CR.hpg {a : Ac} {I A : mI} {B : mB} (self : CR a I A B) : ∀ j, j < a.n → A 33 j = nI (a.pg j) := self.2.2.2.2.2.2.2.2.2.2.2.2.2.2.1
theorem CR.hog {a : Ac} {I A : mI} {B : mB} (self : CR a I A B) : ∀ j, j < a.n → A 34 j = a.og j := self.2.2.2.2.2.2.2.2.2.2.2.2.2.2.2.1
theorem CR.hod {a : Ac} {I A : mI} {B : mB} (self : CR a I A B) : ∃ od, Od a A od := self.2.2.2.2.2.2.2.2.2.2.2.2.2.2.2.2.1
theorem CR.hbl {a : Ac} {I A : mI} {B : mB} (self : CR a I A B) : ∀ d, d < a.P * a.N → B 36 d = zL (zbl a d) := self.2.2.2.2.2.2.2.2.2.2.2.2.2.2.2.2.2.1
theorem CR.nt4 {a : Ac} {I A : mI} {B : mB} (self : CR a I A B) : a.nt ≤ 4 := self.2.2.2.2.2.2.2.2.2.2.2.2.2.2.2.2.2.2
theorem CR.mk {a : Ac} {I A : mI} {B : mB} (h_hP : I 16 4 = nI a.P) (h_hN : I 16 5 = nI a.N) (h_hK : 0 < a.N → I 16 6 = nI a.K) (h_hc : I 16 7 = nI a.c) (h_hnt : I 17 4 = nI a.nt) (h_hnc : I 17 5 = nI a.nc) (h_htt : ∀ t, t < a.nt → A 26 t = (if a.tt t = 0 then -1 else nI (a.tt t))) (h_hcd : ∀ k, k < a.nc → A 27 k = nI (a.cd k)) (h_hco : ∀ k, k < a.nc → A 28 k = nI (a.co k)) (h_hru : ∀ r d, (r < a.nt ∨ 4 ≤ r ∧ r ≤ 6) → d < 320 → A (19 + r) d = zN (zhl a r d)) (h_hn : I 29 6 = nI a.n) (h_hso : ∀ j, j < a.n → A 30 j = nI (a.so j)) (h_ham : ∀ j, j < a.n → B 31 j = zL (a.am j)) (h_hva : ∀ j, j < a.n → A 32 j = nI (a.va j)) (h_hpg : ∀ j, j < a.n → A 33 j = nI (a.pg j)) (h_hog : ∀ j, j < a.n → A 34 j = a.og j) (h_hod : ∃ od, Od a A od) (h_hbl : ∀ d, d < a.P * a.N → B 36 d = zL (zbl a d)) (h_nt4 : a.nt ≤ 4) : CR a I A B := ⟨h_hP, h_hN, h_hK, h_hc, h_hnt, h_hnc, h_htt, h_hcd, h_hco, h_hru, h_hn, h_hso, h_ham, h_hva, h_hpg, h_hog, h_hod, h_hbl, h_nt4⟩
/-- what stays, whatever is asked of the class -/
def fC (A : mI) (B : mB) (A' : mI) (B' : mB) : Prop :=
  (∀ k, k ≠ 42 → A' k = A k) ∧
  (∀ k, k ≠ 37 → k ≠ 41 → B' k = B k)
theorem fC.ar {A : mI} {B : mB} {A' : mI} {B' : mB} (self : fC A B A' B') : ∀ k, k ≠ 42 → A' k = A k := self.1
theorem fC.br {A : mI} {B : mB} {A' : mI} {B' : mB} (self : fC A B A' B') : ∀ k, k ≠ 37 → k ≠ 41 → B' k = B k := self.2
theorem fC.mk {A : mI} {B : mB} {A' : mI} {B' : mB} (h_ar : ∀ k, k ≠ 42 → A' k = A k) (h_br : ∀ k, k ≠ 37 → k ≠ 41 → B' k = B k) : fC A B A' B' := ⟨h_ar, h_br⟩
theorem fC.refl (A : mI) (B : mB) : fC A B A B := ⟨fun _ _ => rfl, fun _ _ _ => rfl⟩
theorem fC.b37 {A : mI} {B B' : mB} (h : ∀ k, k ≠ 37 → B' k = B k) : fC A B A B' := ⟨fun _ _ => rfl, fun k h1 _ => h k h1⟩
/-- an answer of the class that leaves the account -/
def qC (w f : Nat) (I A : mI) (B : mB) (R : mR) (v : Option Value) : Prop := ∀ A' B', fC A B A' B' → R v I A' B' (pk w f)
theorem CR.fr {a : Ac} {I A A' : mI} {B B' : mB} (C : CR a I A B) (h : fC A B A' B') : CR a I A' B' := by
  have e1 : A' 26 = A 26 := h.ar 26 (by decide)
  have e2 : A' 27 = A 27 := h.ar 27 (by decide)
  have e3 : A' 28 = A 28 := h.ar 28 (by decide)
  have e4 : A' 30 = A 30 := h.ar 30 (by decide)
  have e5 : A' 32 = A 32 := h.ar 32 (by decide)
  have e6 : A' 33 = A 33 := h.ar 33 (by decide)
  have e7 : A' 34 = A 34 := h.ar 34 (by decide)
  have e8 : A' 35 = A 35 := h.ar 35 (by decide)
  have e9 : B' 31 = B 31 := h.br 31 (by decide) (by decide)
  have e10 : B' 36 = B 36 := h.br 36 (by decide) (by decide)
  refine (CR.mk (CR.hP C :) (CR.hN C :) (CR.hK C :) (CR.hc C :) (CR.hnt C :) (CR.hnc C :) (fun t ht => ?_) (fun t ht => ?_) (fun t ht => ?_) (fun r d hr hd => ?_) (CR.hn C :) (fun t ht => ?_) (fun t ht => ?_) (fun t ht => ?_) (fun t ht => ?_) (fun t ht => ?_) (?_) (fun t ht => ?_) (CR.nt4 C :))
  · rw [e1]; exact C.htt t ht
  · rw [e2]; exact C.hcd t ht
  · rw [e3]; exact C.hco t ht
  · rw [h.ar (19 + r) (by have := C.nt4; omega)]; exact C.hru r d hr hd
  · rw [e4]; exact C.hso t ht
  · rw [e9]; exact C.ham t ht
  · rw [e5]; exact C.hva t ht
  · rw [e6]; exact C.hpg t ht
  · rw [e7]; exact C.hog t ht
  · obtain ⟨od, O⟩ := C.hod
    exact ⟨od, (Od.mk (Od.lt O :) (fun k hk => by rw [e8]; exact O.at_ k hk) (Od.st O :) (Od.on O :))⟩
  · rw [e10]; exact C.hbl t ht
/-! the class's words for products, by an account -/
theorem ztt_i {a : Ac} {t : Nat} (h : a.tt t ≤ 99999) : ((if a.tt t = 0 then (-1 : Int32) else nI (a.tt t)) = -1) ↔ a.tt t = 0 := by
  by_cases z : a.tt t = 0
  · rw [if_pos z]
    exact ⟨fun _ => z, fun _ => rfl⟩
  · rw [if_neg z]
    refine ⟨fun e => absurd e (fun e => ?_), fun e => absurd e z⟩
    have := nI_pos (n := a.tt t) (by omega)
    rw [e] at this
    exact this (by decide)
/-- up to where a tier takes of a balance -/
def ztp (a : Ac) (b : Int) (t : Nat) : Int := if a.tt t = 0 then b else if b < a.tt t then b else a.tt t
theorem tpc_z {a : Ac} {I A : mI} {B : mB} (C : CR a I A B) (V : Vw a) {t : Nat} (ht : t < a.nt) {b : Int} (hb : -2 ^ 62 ≤ b ∧ b ≤ 2 ^ 62) : tpc A t (zL b) = zL (ztp a b t) := by
  have h9 := V.tt9 t ht
  unfold tpc ztp
  rw [C.htt t ht]
  by_cases z : a.tt t = 0
  · rw [if_pos ((ztt_i h9).mpr z), if_pos z]
  · rw [if_neg (fun e => z ((ztt_i h9).mp e)), if_neg z, if_neg z, nL (by omega)]
    exact zl_min (by omega) (by omega) (by omega) (by omega)
theorem tpo_z {a : Ac} {I A : mI} {B : mB} (C : CR a I A B) (V : Vw a) {t : Nat} (ht : t < a.nt) {b : Int} (hb : -2 ^ 62 ≤ b ∧ b ≤ 2 ^ 62) : tpo A t (zL b) = zL (ztp a b t) := by
  have h9 := V.tt9 t ht
  unfold tpo ztp
  rw [C.htt t ht]
  by_cases z : a.tt t = 0
  · rw [if_pos ((ztt_i h9).mpr z), if_pos z]
  · rw [if_neg (fun e => z ((ztt_i h9).mp e)), if_neg z, if_neg z, nL (by omega)]
    by_cases y : b < a.tt t
    · rw [if_pos y, if_neg (fun e => absurd ((zl_lt (by omega) (by omega) (by omega) (by omega)).mp e) (by omega))]
    · rw [if_neg y]
      by_cases x : b = a.tt t
      · rw [x]
        split <;> rfl
      · rw [if_pos ((zl_lt (by omega) (by omega) (by omega) (by omega)).mpr (by omega))]
theorem ztp_s {a : Ac} (G : Gd a) {d : Nat} {b : Int} (hb : 0 < b) {t : Nat} (ht : t < a.nt) : zsm (fun t => zpt a d b t) (t + 1) = ztp a b t := by
  rw [zpt_s G.tu hb (t + 1) (by omega)]
  exact if_neg (by omega)
theorem zpt_z0 {a : Ac} (G : Gd a) {d : Nat} {b : Int} (hb : 0 < b) {t : Nat} (h : b ≤ zsm (fun t => zpt a d b t) t) : ∀ k, t + k ≤ a.nt → b ≤ zsm (fun t => zpt a d b t) (t + k) ∧ zsm (fun t => zpt a d b t * zhl a t d) (t + k) = zsm (fun t => zpt a d b t * zhl a t d) t
  | 0, _ => ⟨h, rfl⟩
  | k + 1, hk => by
    obtain ⟨h1, h2⟩ := zpt_z0 G hb h k (by omega)
    have h3 := zpt_n G.tu (d := d) (b := b) (t := t + k) (by omega)
    have h4 : zsm (fun t => zpt a d b t) (t + k) + zpt a d b (t + k) ≤ b := by
      have := ztp_s G (d := d) hb (t := t + k) (by omega)
      have e : zsm (fun t => zpt a d b t) (t + k + 1) = zsm (fun t => zpt a d b t) (t + k) + zpt a d b (t + k) := rfl
      rw [← e, this]
      unfold ztp
      repeat' split
      all_goals omega
    refine ⟨?_, ?_⟩
    · show b ≤ zsm (fun t => zpt a d b t) (t + k) + zpt a d b (t + k)
      omega
    · show zsm (fun t => zpt a d b t * zhl a t d) (t + k) + zpt a d b (t + k) * zhl a (t + k) d = _
      rw [show zpt a d b (t + k) = 0 by omega, Int.zero_mul, Int.add_zero, h2]
theorem crd_k {a : Ac} {I A : mI} {B : mB} (C : CR a I A B) (G : Gd a) {d : Nat} (hd : d < 320) {b : Int} (hb : 0 < b) (hb2 : b ≤ 2 ^ 40) : ∀ (k t : Nat) (s : Int), t + k = a.nt → crd A d (zL b) k t (zL s) (zL (zsm (fun t => zpt a d b t) t)) = zL (s + (zsm (fun t => zpt a d b t * zhl a t d) a.nt - zsm (fun t => zpt a d b t * zhl a t d) t))
  | 0, t, s, h => by
    rw [show t = a.nt by omega]
    show zL s = _
    congr 1
    omega
  | k + 1, t, s, h => by
    have hS : 0 ≤ zsm (fun t => zpt a d b t) t ∧ zsm (fun t => zpt a d b t) t ≤ b := by
      rw [zpt_s G.tu hb t (by omega)]
      repeat' split
      all_goals omega
    show (if zL (zsm (fun t => zpt a d b t) t) < zL b then crd A d (zL b) k (t + 1) (zL s + (tpc A t (zL b) - zL (zsm (fun t => zpt a d b t) t)) * (A (19 + t) d).toInt64) (tpc A t (zL b)) else zL s) = _
    rw [tpc_z C G.V (by omega) (by omega), ← ztp_s G (d := d) hb (show t < a.nt by omega)]
    by_cases z : zsm (fun t => zpt a d b t) t < b
    · rw [if_pos ((zl_lt (by omega) (by omega) (by omega) (by omega)).mpr z)]
      have hz := zhl_5 G.V G.no1 (r := t) (d := d) (Or.inl (by omega))
      have e1 : (A (19 + t) d).toInt64 = zL (zhl a t d) := by
        rw [C.hru t d (Or.inl (by omega)) hd]
        exact zn_l (by omega) (by omega)
      have e2 : zL (zsm (fun t => zpt a d b t) (t + 1)) - zL (zsm (fun t => zpt a d b t) t) = zL (zpt a d b t) := by
        rw [zL_sub]
        congr 1
        show zsm (fun t => zpt a d b t) t + zpt a d b t - zsm (fun t => zpt a d b t) t = _
        omega
      rw [e1, e2, zL_mul, zL_add, crd_k C G hd hb hb2 k (t + 1) _ (by omega)]
      congr 1
      show s + zpt a d b t * zhl a t d + (_ - (zsm (fun t => zpt a d b t * zhl a t d) t + zpt a d b t * zhl a t d)) = _
      omega
    · rw [if_neg (fun e => z ((zl_lt (by omega) (by omega) (by omega) (by omega)).mp e))]
      have := (zpt_z0 G (d := d) hb (t := t) (by omega) (k + 1) (by omega)).2
      rw [h] at this
      rw [this]
      congr 1
      omega
theorem crd_z {a : Ac} {I A : mI} {B : mB} (C : CR a I A B) (G : Gd a) {d : Nat} (hd : d < 320) {b : Int} (hb : -2 ^ 40 ≤ b ∧ b ≤ 2 ^ 40) : crd A d (zL b) a.nt 0 0 0 = zL (zer a d b) := by
  by_cases z : 0 < b
  · have := crd_k C G hd z hb.2 a.nt 0 0 (Nat.zero_add _)
    refine Eq.trans this ?_
    congr 1
    show 0 + (zer a d b - 0) = _
    omega
  · have e : zer a d b = 0 := zer_0 (by omega) a.nt (Nat.le_refl _)
    rw [e]
    cases hn : a.nt with
    | zero => rfl
    | succ k =>
      show (if (0 : Int64) < zL b then _ else (0 : Int64)) = _
      rw [if_neg (fun e => z ((zl_gt0 (by omega) (by omega)).mp e))]
      rfl
/-- by another limit on all days -/
def zfo (a : Ac) (l : Nat) : Ac := (Ac.mk (Ac.P a) (Ac.N a) (Ac.K a) (Ac.c a) (Ac.n a) (Ac.nt a) (Ac.nc a) (Ac.so a) (Ac.va a) (Ac.pg a) (Ac.am a) (Ac.og a) (Ac.tr a) (Ac.tt a) (Ac.db a) (Ac.cd a) (Ac.co a) (Ac.cv a) (Ac.ti a) (Ac.tb a) (some l))
theorem zow_e {a : Ac} {d : Nat} {b : Int} (hb : b < 0) : zow a d b = (if zhl a 6 d < -b then zhl a 6 d else -b) * zhl a 4 d + (-b - (if zhl a 6 d < -b then zhl a 6 d else -b)) * zhl a 5 d := by
  unfold zow
  rw [if_pos hb, zpt_w hb, zpt_o hb (by omega) (by omega)]
theorem dbt_e {a : Ac} {I A : mI} {B : mB} (C : CR a I A B) (G : Gd a) {d : Nat} (hd : d < 320) {b : Int} (hb : -2 ^ 40 ≤ b ∧ b ≤ 2 ^ 40) {l : Int} (hl : 0 ≤ l ∧ l ≤ 200000) : dbt A (zN l) d (zL b) = zL (if b < 0 then (if l < -b then l else -b) * zhl a 4 d + (-b - (if l < -b then l else -b)) * zhl a 5 d else 0) := by
  have q4 := zhl_5 G.V G.no1 (r := 4) (d := d) (by omega)
  have q5 := zhl_5 G.V G.no1 (r := 5) (d := d) (by omega)
  unfold dbt
  by_cases z : b < 0
  · rw [if_neg (fun e => absurd ((zl_ge0 (by omega) (by omega)).mp e) (by omega)), if_pos z, show A 23 d = zN (zhl a 4 d) from C.hru 4 d (by omega) hd, show A 24 d = zN (zhl a 5 d) from C.hru 5 d (by omega) hd, zn_l (by omega) (by omega), zn_l (by omega) (by omega), zn_l (by omega) (by omega), zL_neg]
    have e : (if zL (-b) < zL l then zL (-b) else zL l) = zL (if l < -b then l else -b) := by
      rw [zl_min (by omega) (by omega) (by omega) (by omega)]
      congr 1
      split <;> split <;> omega
    rw [e, zL_sub, zL_mul, zL_mul, zL_add]
  · rw [if_pos ((zl_ge0 (by omega) (by omega)).mpr (by omega)), if_neg z]
    rfl
theorem dbt_z {a : Ac} {I A : mI} {B : mB} (C : CR a I A B) (G : Gd a) {d : Nat} (hd : d < 320) {b : Int} (hb : -2 ^ 40 ≤ b ∧ b ≤ 2 ^ 40) : dbt A (A 25 d) d (zL b) = zL (zow a d b) := by
  have h6 := zhl_b G.V (r := 6) (d := d) (by omega)
  simp only [if_true] at h6
  rw [show A 25 d = zN (zhl a 6 d) from C.hru 6 d (by omega) hd, dbt_e C G hd hb (by omega)]
  congr 1
  by_cases z : b < 0
  · rw [if_pos z, zow_e z]
  · rw [if_neg z]
    exact (if_neg z).symm
theorem prd_z {a : Ac} {I A : mI} {B : mB} (C : CR a I A B) (G : Gd a) {d : Nat} (hd : d < 320) {b : Int} (hb : -2 ^ 40 ≤ b ∧ b ≤ 2 ^ 40) : prd A a.nt d (zL b) = zL (zpr a d b) := by
  unfold prd
  rw [crd_z C G hd hb, dbt_z C G hd hb, zL_sub]
  rfl
theorem nea_z {z : Int} (h1 : -2 ^ 61 ≤ z) (h2 : z ≤ 2 ^ 61) : nea (zL z) = zL (znr z) := by
  have e0 : (if 0 < zL z then zL z else -zL z) = zL (if z < 0 then -z else z) := by
    by_cases h : z < 0
    · rw [if_pos h, if_neg (by rw [zl_gt0 (by omega) (by omega)]; omega)]
      exact (Int64.ofInt_neg z).symm
    · rw [if_neg h]
      by_cases h0 : 0 < z
      · rw [if_pos ((zl_gt0 (by omega) (by omega)).mpr h0)]
      · have : z = 0 := by omega
        subst this
        rfl
  have e1 : ∀ y : Int, 0 ≤ y → y ≤ 2 ^ 61 → (zL y + 1800000) / 3600000 = zL ((2 * y + 3600000) / 7200000) := fun y h3 h4 => by
    have e2 : (2 * y + 3600000) / 7200000 = (y + 1800000) / 3600000 := by omega
    rw [e2, ← zl_div (by omega) (by omega) (by omega) (by omega)]
    show _ = Int64.ofInt (y + 1800000) / _
    rw [Int64.ofInt_add]
    rfl
  unfold nea
  rw [e0]
  unfold znr
  by_cases h : z < 0
  · rw [if_pos ((zl_lt0 (by omega) (by omega)).mpr h), if_pos h, if_pos h, e1 _ (by omega) (by omega)]
    exact (Int64.ofInt_neg _).symm
  · rw [if_neg (by rw [zl_lt0 (by omega) (by omega)]; exact h), if_neg h, if_neg h, e1 _ (by omega) (by omega)]
/-- so much more from a day on -/
def zmo (b : Nat → Int) (fr : Nat) (m : Int) (d : Nat) : Int := if fr ≤ d then b d + m else b d
theorem pds_z {a : Ac} {I A : mI} {B : mB} (C : CR a I A B) (G : Gd a) {q p : Nat} {b : Nat → Int} (hB : ∀ d, d < a.P * a.N → B q d = zL (b d)) (hb : ∀ d, -2 ^ 36 ≤ b d ∧ b d ≤ 2 ^ 36) (hp : p < a.N) {fr : Nat} {m : Int} (hf : fr < 2 ^ 20) (hm : -2 ^ 36 ≤ m ∧ m ≤ 2 ^ 36) : pds A B a.nt q a.P p (nI fr) (zL m) = zL (zpz a (zmo b fr m) p) := by
  have h40 := G.V.P40
  have h8 := G.V.N8
  have hPN := Nat.mul_le_mul h40 h8
  have h1 : a.P * p + a.P ≤ a.P * a.N := by
    have := Nat.mul_le_mul_left a.P (show p + 1 ≤ a.N by omega)
    rw [Nat.mul_succ] at this
    exact this
  refine zsm_m (fun i hi => ?_)
  show prd A a.nt (p * a.P + i) (if nI fr ≤ nI (p * a.P + i) then B q (p * a.P + i) + zL m else B q (p * a.P + i)) = zL (zpr a (a.P * p + i) (zmo b fr m (a.P * p + i)))
  rw [Nat.mul_comm p a.P, hB _ (by omega)]
  have hbi := hb (a.P * p + i)
  have e : (if nI fr ≤ nI (a.P * p + i) then zL (b (a.P * p + i)) + zL m else zL (b (a.P * p + i))) = zL (zmo b fr m (a.P * p + i)) := by
    unfold zmo
    by_cases z : fr ≤ a.P * p + i
    · rw [if_pos z, if_pos (nI_le z (by omega)), zL_add]
    · rw [if_neg z, if_neg (fun y => z ((nI_leI (by omega) (by omega)).mp y))]
  rw [e]
  refine prd_z C G (by omega) ?_
  unfold zmo
  split <;> omega
theorem zmo_0 {b : Nat → Int} : zmo b 0 0 = b := by
  funext d
  unfold zmo
  rw [if_pos (Nat.zero_le _), Int.add_zero]
theorem pds_0 {a : Ac} {I A : mI} {B : mB} (C : CR a I A B) (G : Gd a) {q p : Nat} {b : Nat → Int} (hB : ∀ d, d < a.P * a.N → B q d = zL (b d)) (hb : ∀ d, -2 ^ 36 ≤ b d ∧ b d ≤ 2 ^ 36) (hp : p < a.N) : pds A B a.nt q a.P p 0 0 = zL (zpz a b p) := by
  have := pds_z C G hB hb hp (fr := 0) (m := 0) (by omega) (by omega)
  rw [zmo_0] at this
  exact this
theorem zpz_bb {a : Ac} (V : Vw a) {b : Nat → Int} {p : Nat} (hb : ∀ d, -17179869184 ≤ b d ∧ b d ≤ 17179869184) : -2 ^ 61 ≤ zpz a b p ∧ zpz a b p ≤ 2 ^ 61 := by
  have := zpz_b V (b := b) (p := p) (fun i _ => hb _)
  omega
