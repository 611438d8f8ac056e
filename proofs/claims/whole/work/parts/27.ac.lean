/-! the account, as both sides know it: whole numbers, no machine -/
abbrev Ac : Type := (Nat) × (Nat) × (Nat) × (Nat) × (Nat) × (Nat) × (Nat) × (Nat → Nat) × (Nat → Nat) × (Nat → Nat) × (Nat → Int) × (Nat → Int32) × (Nat → Nat) × (Nat → Nat) × (Nat → Nat) × (Nat → Nat) × (Nat → Nat) × (Nat → Nat) × (Option Nat) × (Int) × (Option Nat)
abbrev Ac.P (self : Ac) : Nat := self.1
abbrev Ac.N (self : Ac) : Nat := self.2.1
abbrev Ac.K (self : Ac) : Nat := self.2.2.1
abbrev Ac.c (self : Ac) : Nat := self.2.2.2.1
abbrev Ac.n (self : Ac) : Nat := self.2.2.2.2.1
abbrev Ac.nt (self : Ac) : Nat := self.2.2.2.2.2.1
abbrev Ac.nc (self : Ac) : Nat := self.2.2.2.2.2.2.1
abbrev Ac.so (self : Ac) : Nat → Nat := self.2.2.2.2.2.2.2.1
abbrev Ac.va (self : Ac) : Nat → Nat := self.2.2.2.2.2.2.2.2.1
abbrev Ac.pg (self : Ac) : Nat → Nat := self.2.2.2.2.2.2.2.2.2.1
abbrev Ac.am (self : Ac) : Nat → Int := self.2.2.2.2.2.2.2.2.2.2.1
abbrev Ac.og (self : Ac) : Nat → Int32 := self.2.2.2.2.2.2.2.2.2.2.2.1
abbrev Ac.tr (self : Ac) : Nat → Nat := self.2.2.2.2.2.2.2.2.2.2.2.2.1
abbrev Ac.tt (self : Ac) : Nat → Nat := self.2.2.2.2.2.2.2.2.2.2.2.2.2.1
abbrev Ac.db (self : Ac) : Nat → Nat := self.2.2.2.2.2.2.2.2.2.2.2.2.2.2.1
abbrev Ac.cd (self : Ac) : Nat → Nat := self.2.2.2.2.2.2.2.2.2.2.2.2.2.2.2.1
abbrev Ac.co (self : Ac) : Nat → Nat := self.2.2.2.2.2.2.2.2.2.2.2.2.2.2.2.2.1
abbrev Ac.cv (self : Ac) : Nat → Nat := self.2.2.2.2.2.2.2.2.2.2.2.2.2.2.2.2.2.1
abbrev Ac.ti (self : Ac) : Option Nat := self.2.2.2.2.2.2.2.2.2.2.2.2.2.2.2.2.2.2.1
abbrev Ac.tb (self : Ac) : Int := self.2.2.2.2.2.2.2.2.2.2.2.2.2.2.2.2.2.2.2.1
abbrev Ac.fo (self : Ac) : Option Nat := self.2.2.2.2.2.2.2.2.2.2.2.2.2.2.2.2.2.2.2.2
abbrev Ac.mk (pP : Nat) (pN : Nat) (pK : Nat) (pc : Nat) (pn : Nat) (pnt : Nat) (pnc : Nat) (pso : Nat → Nat) (pva : Nat → Nat) (ppg : Nat → Nat) (pam : Nat → Int) (pog : Nat → Int32) (ptr : Nat → Nat) (ptt : Nat → Nat) (pdb : Nat → Nat) (pcd : Nat → Nat) (pco : Nat → Nat) (pcv : Nat → Nat) (pti : Option Nat) (ptb : Int) (pfo : Option Nat) : Ac := (pP, pN, pK, pc, pn, pnt, pnc, pso, pva, ppg, pam, pog, ptr, ptt, pdb, pcd, pco, pcv, pti, ptb, pfo)
abbrev zL (z : Int) : Int64 := Int64.ofInt z
abbrev zN (z : Int) : Int32 := Int32.ofInt z
/-- the sum of the first n -/
def zsm (g : Nat → Int) : Nat → Int
  | 0 => 0
  | n + 1 => zsm g n + g n
theorem zsm_congr {g g' : Nat → Int} : ∀ {n : Nat}, (∀ i, i < n → g i = g' i) → zsm g n = zsm g' n
  | 0, _ => rfl
  | n + 1, h => by rw [zsm, zsm, zsm_congr (fun i hi => h i (by omega)), h n (by omega)]
theorem zsm_le {g : Nat → Int} {M : Int} : ∀ {n : Nat}, (∀ i, i < n → g i ≤ M) → zsm g n ≤ n * M
  | 0, _ => by simp [zsm]
  | n + 1, h => by
    have h1 := zsm_le (n := n) (fun i hi => h i (by omega))
    have h2 := h n (by omega)
    have e : ((n + 1 : Nat) : Int) * M = n * M + M := by rw [Int.natCast_add, Int.add_mul]; simp
    rw [zsm, e]
    omega
theorem zsm_ge {g : Nat → Int} {M : Int} : ∀ {n : Nat}, (∀ i, i < n → M ≤ g i) → n * M ≤ zsm g n
  | 0, _ => by simp [zsm]
  | n + 1, h => by
    have h1 := zsm_ge (n := n) (fun i hi => h i (by omega))
    have h2 := h n (by omega)
    have e : ((n + 1 : Nat) : Int) * M = n * M + M := by rw [Int.natCast_add, Int.add_mul]; simp
    rw [zsm, e]
    omega
theorem zsm_add {g g' : Nat → Int} : ∀ {n : Nat}, zsm (fun i => g i + g' i) n = zsm g n + zsm g' n
  | 0 => rfl
  | n + 1 => by rw [zsm, zsm, zsm, zsm_add]; omega
theorem zsm_sub {g g' : Nat → Int} : ∀ {n : Nat}, zsm (fun i => g i - g' i) n = zsm g n - zsm g' n
  | 0 => rfl
  | n + 1 => by rw [zsm, zsm, zsm, zsm_sub]; omega
theorem zsm_0 : ∀ {n : Nat}, zsm (fun _ => 0) n = 0
  | 0 => rfl
  | n + 1 => by rw [zsm, zsm_0]; rfl
theorem zsm_z {g : Nat → Int} {n : Nat} (h : ∀ i, i < n → g i = 0) : zsm g n = 0 := (zsm_congr h).trans zsm_0
theorem zsm_mono {g g' : Nat → Int} : ∀ {n : Nat}, (∀ i, i < n → g i ≤ g' i) → zsm g n ≤ zsm g' n
  | 0, _ => Int.le_refl _
  | n + 1, h => by
    have h1 := zsm_mono (n := n) (fun i hi => h i (by omega))
    have h2 := h n (by omega)
    rw [zsm, zsm]
    omega
/-- only one of them is not 0 -/
theorem zsm_one {g : Nat → Int} {e : Nat} : ∀ {n : Nat}, e < n → (∀ i, i < n → i ≠ e → g i = 0) → zsm g n = g e
  | 0, h, _ => by omega
  | n + 1, h, h2 => by
    rw [zsm]
    by_cases hn : e = n
    · subst hn
      rw [zsm_z (fun i hi => h2 i (by omega) (by omega))]
      omega
    · rw [zsm_one (by omega) (fun i hi => h2 i (by omega)), h2 n (by omega) (by omega)]
      omega
/-- since when, and what, by the first k changes -/
def zlt (a : Ac) (r d : Nat) : Nat → Int × Int
  | 0 => (-1, if r < 4 then a.tr r else a.db (r - 4))
  | k + 1 => if a.co k ≠ r ∨ d < a.cd k ∨ (a.cd k : Int) < (zlt a r d k).1 then zlt a r d k else (a.cd k, a.cv k)
/-- what holds on a day -/
def zhl (a : Ac) (r d : Nat) : Int :=
  if r = 6 ∧ a.fo.isSome = true then (a.fo.getD 0 : Nat)
  else if a.ti = some r then (if 0 < (zlt a r d a.nc).2 + a.tb then (zlt a r d a.nc).2 + a.tb else 0) else (zlt a r d a.nc).2
def zbl (a : Ac) (d : Nat) : Int := zsm (fun j => if a.va j ≤ d then a.am j else 0) a.n
def zod (b : Int) : Int := if b < 0 then -b else 0
def zwi (a : Ac) (d : Nat) (b : Int) : Int := if zod b = 0 then 0 else if zhl a 6 d < zod b then zhl a 6 d else zod b
def zfr (a : Ac) (t : Nat) : Int := if t = 0 then 0 else (a.tt (t - 1) : Nat)
def zab (a : Ac) (b : Int) (t : Nat) : Int := if b - zfr a t < 0 then 0 else b - zfr a t
/-- what of a balance is in a tier; behind the tiers what is above all, what is owed within the limit, above it -/
def zpt (a : Ac) (d : Nat) (b : Int) (t : Nat) : Int :=
  if a.nt < t then (if t = a.nt + 1 then zwi a d b else zod b - zwi a d b)
  else if b ≤ 0 then 0
  else if 0 < t ∧ a.tt (t - 1) = 0 then 0
  else if t < a.nt ∧ 0 < a.tt t then (if (a.tt t : Int) - zfr a t < zab a b t then (a.tt t : Int) - zfr a t else zab a b t)
  else zab a b t
def zer (a : Ac) (d : Nat) (b : Int) : Int := zsm (fun t => zpt a d b t * zhl a t d) a.nt
def zow (a : Ac) (d : Nat) (b : Int) : Int := if b < 0 then zpt a d b (a.nt + 1) * zhl a 4 d + zpt a d b (a.nt + 2) * zhl a 5 d else 0
def zpr (a : Ac) (d : Nat) (b : Int) : Int := zer a d b - zow a d b
/-- a period's products, by balances -/
def zpz (a : Ac) (b : Nat → Int) (p : Nat) : Int := zsm (fun i => zpr a (a.P * p + i) (b (a.P * p + i))) a.P
/-- to the nearest whole number, a half away from 0 -/
def znr (z : Int) : Int := if z < 0 then -((2 * (-z) + 3600000) / 7200000) else (2 * z + 3600000) / 7200000
def zit (a : Ac) (p : Nat) : Int := znr (zpz a (zbl a) p)
def zal (a : Ac) : Int := zsm (zit a) a.N
def zbk (a : Ac) (p : Nat) : Int := zsm (fun j => if (a.so j = 1 ∨ a.so j = 2) ∧ a.og j = nI p then a.am j else 0) a.n
def zcm (a : Ac) (p : Nat) : Nat := a.P * a.K * (p / a.K + 1)
/-- one value more -/
def zup {α : Type} (f : Nat → α) (k : Nat) (v : α) : Nat → α := fun j => if j = k then v else f j
theorem zup_s {α : Type} {f : Nat → α} {k : Nat} {v : α} : zup f k v k = v := if_pos rfl
theorem zup_n {α : Type} {f : Nat → α} {k j : Nat} {v : α} (h : j ≠ k) : zup f k v j = f j := if_neg h
/-- an entry more -/
def zen (a : Ac) (s : Nat) (m : Int) (v : Nat) (o : Int32) : Ac := (Ac.mk (Ac.P a) (Ac.N a) (Ac.K a) (Ac.c a) (a.n + 1) (Ac.nt a) (Ac.nc a) (zup a.so a.n s) (zup a.va a.n v) (zup a.pg a.n a.c) (zup a.am a.n m) (zup a.og a.n o) (Ac.tr a) (Ac.tt a) (Ac.db a) (Ac.cd a) (Ac.co a) (Ac.cv a) (Ac.ti a) (Ac.tb a) (Ac.fo a))
def Ac.setC (a : Ac) (x : Nat) : Ac := (Ac.mk (Ac.P a) (Ac.N a) (Ac.K a) (x) (Ac.n a) (Ac.nt a) (Ac.nc a) (Ac.so a) (Ac.va a) (Ac.pg a) (Ac.am a) (Ac.og a) (Ac.tr a) (Ac.tt a) (Ac.db a) (Ac.cd a) (Ac.co a) (Ac.cv a) (Ac.ti a) (Ac.tb a) (Ac.fo a))
def zcl (a : Ac) : Ac := (zen a 1 (zit a a.c) (zcm a a.c) (nI a.c)).setC (a.c + 1)
/-- the first k periods run anew -/
def zrr (a : Ac) : Nat → Ac
  | 0 => a
  | p + 1 => if zit (zrr a p) p - zbk (zrr a p) p = 0 then zrr a p else zen (zrr a p) 2 (zit (zrr a p) p - zbk (zrr a p) p) (zcm (zrr a p) p) (nI p)
/-- what is asked of every account: bounds -/
def Vw (a : Ac) : Prop :=
  (a.P ≤ 40) ∧
  (a.N ≤ 8) ∧
  (1 ≤ a.K) ∧
  (a.K ≤ 4) ∧
  (a.c ≤ a.N) ∧
  (a.n ≤ 480) ∧
  (a.nt ≤ 4) ∧
  (a.nc ≤ 40) ∧
  (∀ j, j < a.n → a.so j ≤ 3) ∧
  (∀ j, j < a.n → a.va j ≤ 4000) ∧
  (∀ j, j < a.n → a.pg j ≤ 8) ∧
  (∀ j, j < a.n → -16777216 ≤ a.am j ∧ a.am j ≤ 16777216) ∧
  (∀ t, t < a.nt → a.tr t ≤ 5000) ∧
  (∀ t, t < a.nt → a.tt t ≤ 99999) ∧
  (∀ k, k < 2 → a.db k ≤ 5000) ∧
  (a.db 2 ≤ 99999) ∧
  (∀ k, k < a.nc → a.cd k < 320) ∧
  (∀ k, k < a.nc → a.co k ≤ 6) ∧
  (∀ k, k < a.nc → a.co k ≠ 6 → a.cv k ≤ 5000) ∧
  (∀ k, k < a.nc → a.cv k ≤ 99999) ∧
  (-5000 ≤ a.tb ∧ a.tb ≤ 5000) ∧
  (∀ t, a.ti = some t → t < a.nt) ∧
  (∀ v, a.fo = some v → v ≤ 99999)
theorem Vw.P40 {a : Ac} (self : Vw a) : a.P ≤ 40 := self.1
theorem Vw.N8 {a : Ac} (self : Vw a) : a.N ≤ 8 := self.2.1
theorem Vw.K1 {a : Ac} (self : Vw a) : 1 ≤ a.K := self.2.2.1
theorem Vw.K4 {a : Ac} (self : Vw a) : a.K ≤ 4 := self.2.2.2.1
theorem Vw.cN {a : Ac} (self : Vw a) : a.c ≤ a.N := self.2.2.2.2.1
theorem Vw.n4 {a : Ac} (self : Vw a) : a.n ≤ 480 := self.2.2.2.2.2.1
theorem Vw.nt4 {a : Ac} (self : Vw a) : a.nt ≤ 4 := self.2.2.2.2.2.2.1
theorem Vw.nc4 {a : Ac} (self : Vw a) : a.nc ≤ 40 := self.2.2.2.2.2.2.2.1
theorem Vw.so3 {a : Ac} (self : Vw a) : ∀ j, j < a.n → a.so j ≤ 3 := self.2.2.2.2.2.2.2.2.1
theorem Vw.va9 {a : Ac} (self : Vw a) : ∀ j, j < a.n → a.va j ≤ 4000 := self.2.2.2.2.2.2.2.2.2.1
theorem Vw.pg8 {a : Ac} (self : Vw a) : ∀ j, j < a.n → a.pg j ≤ 8 := self.2.2.2.2.2.2.2.2.2.2.1
theorem Vw.am1 {a : Ac} (self : Vw a) : ∀ j, j < a.n → -16777216 ≤ a.am j ∧ a.am j ≤ 16777216 := self.2.2.2.2.2.2.2.2.2.2.2.1
theorem Vw.tr5 {a : Ac} (self : Vw a) : ∀ t, t < a.nt → a.tr t ≤ 5000 := self.2.2.2.2.2.2.2.2.2.2.2.2.1
theorem Vw.tt9 {a : Ac} (self : Vw a) : ∀ t, t < a.nt → a.tt t ≤ 99999 := self.2.2.2.2.2.2.2.2.2.2.2.2.2.1
theorem Vw.db0 {a : Ac} (self : Vw a) : ∀ k, k < 2 → a.db k ≤ 5000 := self.2.2.2.2.2.2.2.2.2.2.2.2.2.2.1
theorem Vw.db2 {a : Ac} (self : Vw a) : a.db 2 ≤ 99999 := self.2.2.2.2.2.2.2.2.2.2.2.2.2.2.2.1
theorem Vw.cd3 {a : Ac} (self : Vw a) : ∀ k, k < a.nc → a.cd k < 320 := self.2.2.2.2.2.2.2.2.2.2.2.2.2.2.2.2.1
theorem Vw.co6 {a : Ac} (self : Vw a) : ∀ k, k < a.nc → a.co k ≤ 6 := self.2.2.2.2.2.2.2.2.2.2.2.2.2.2.2.2.2.1
theorem Vw.cv5 {a : Ac} (self : Vw a) : ∀ k, k < a.nc → a.co k ≠ 6 → a.cv k ≤ 5000 := self.2.2.2.2.2.2.2.2.2.2.2.2.2.2.2.2.2.2.1
theorem Vw.cv9 {a : Ac} (self : Vw a) : ∀ k, k < a.nc → a.cv k ≤ 99999 := self.2.2.2.2.2.2.2.2.2.2.2.2.2.2.2.2.2.2.2.1
theorem Vw.tb5 {a : Ac} (self : Vw a) : -5000 ≤ a.tb ∧ a.tb ≤ 5000 := self.2.2.2.2.2.2.2.2.2.2.2.2.2.2.2.2.2.2.2.2.1
theorem Vw.ti4 {a : Ac} (self : Vw a) : ∀ t, a.ti = some t → t < a.nt := self.2.2.2.2.2.2.2.2.2.2.2.2.2.2.2.2.2.2.2.2.2.1
theorem Vw.fo9 {a : Ac} (self : Vw a) : ∀ v, a.fo = some v → v ≤ 99999 := self.2.2.2.2.2.2.2.2.2.2.2.2.2.2.2.2.2.2.2.2.2.2
theorem Vw.mk {a : Ac} (h_P40 : a.P ≤ 40) (h_N8 : a.N ≤ 8) (h_K1 : 1 ≤ a.K) (h_K4 : a.K ≤ 4) (h_cN : a.c ≤ a.N) (h_n4 : a.n ≤ 480) (h_nt4 : a.nt ≤ 4) (h_nc4 : a.nc ≤ 40) (h_so3 : ∀ j, j < a.n → a.so j ≤ 3) (h_va9 : ∀ j, j < a.n → a.va j ≤ 4000) (h_pg8 : ∀ j, j < a.n → a.pg j ≤ 8) (h_am1 : ∀ j, j < a.n → -16777216 ≤ a.am j ∧ a.am j ≤ 16777216) (h_tr5 : ∀ t, t < a.nt → a.tr t ≤ 5000) (h_tt9 : ∀ t, t < a.nt → a.tt t ≤ 99999) (h_db0 : ∀ k, k < 2 → a.db k ≤ 5000) (h_db2 : a.db 2 ≤ 99999) (h_cd3 : ∀ k, k < a.nc → a.cd k < 320) (h_co6 : ∀ k, k < a.nc → a.co k ≤ 6) (h_cv5 : ∀ k, k < a.nc → a.co k ≠ 6 → a.cv k ≤ 5000) (h_cv9 : ∀ k, k < a.nc → a.cv k ≤ 99999) (h_tb5 : -5000 ≤ a.tb ∧ a.tb ≤ 5000) (h_ti4 : ∀ t, a.ti = some t → t < a.nt) (h_fo9 : ∀ v, a.fo = some v → v ≤ 99999) : Vw a := ⟨h_P40, h_N8, h_K1, h_K4, h_cN, h_n4, h_nt4, h_nc4, h_so3, h_va9, h_pg8, h_am1, h_tr5, h_tt9, h_db0, h_db2, h_cd3, h_co6, h_cv5, h_cv9, h_tb5, h_ti4, h_fo9⟩
theorem zlt_b {a : Ac} (V : Vw a) {r d : Nat} (hr : r < a.nt ∨ 4 ≤ r ∧ r ≤ 6) : ∀ {k : Nat}, k ≤ a.nc → 0 ≤ (zlt a r d k).2 ∧ (zlt a r d k).2 ≤ (if r = 6 then 99999 else 5000) ∧ -1 ≤ (zlt a r d k).1 ∧ (zlt a r d k).1 < 320
  | 0, _ => by
    have h4 := V.nt4
    simp only [zlt]
    rcases hr with h | h
    · have := V.tr5 r h
      rw [if_pos (by omega), if_neg (by omega)]
      omega
    · rw [if_neg (by omega)]
      by_cases h6 : r = 6
      · subst h6
        have : a.db (6 - 4) ≤ 99999 := V.db2
        simp only [if_true]
        omega
      · have := V.db0 (r - 4) (by omega)
        rw [if_neg h6]
        omega
  | k + 1, hk => by
    have ih := zlt_b V (d := d) hr (k := k) (by omega)
    simp only [zlt]
    split
    · exact ih
    · rename_i h
      have h1 : a.co k = r := by omega
      have h2 := V.cv9 k (by omega)
      have h3 := V.cd3 k (by omega)
      by_cases h6 : r = 6
      · rw [if_pos h6]
        show (0 : Int) ≤ a.cv k ∧ (a.cv k : Int) ≤ 99999 ∧ (-1 : Int) ≤ a.cd k ∧ (a.cd k : Int) < 320
        omega
      · have h5 := V.cv5 k (by omega) (by omega)
        rw [if_neg h6]
        show (0 : Int) ≤ a.cv k ∧ (a.cv k : Int) ≤ 5000 ∧ (-1 : Int) ≤ a.cd k ∧ (a.cd k : Int) < 320
        omega
theorem zhl_b {a : Ac} (V : Vw a) {r d : Nat} (hr : r < a.nt ∨ 4 ≤ r ∧ r ≤ 6) : 0 ≤ zhl a r d ∧ zhl a r d ≤ (if r = 6 then 104999 else 10000) := by
  have h := zlt_b V (d := d) hr (Nat.le_refl a.nc)
  have htb := V.tb5
  unfold zhl
  split
  · rename_i h6
    obtain ⟨e, h6⟩ := h6
    subst e
    cases hf : a.fo with
    | none => rw [hf] at h6; cases h6
    | some v =>
      have := V.fo9 v hf
      simp only [if_true, Option.getD_some]
      omega
  · split
    · split <;> split at h <;> split <;> omega
    · split at h <;> split <;> omega
theorem zbl_b {a : Ac} (V : Vw a) (d : Nat) : -8053063680 ≤ zbl a d ∧ zbl a d ≤ 8053063680 := by
  have h1 := zsm_le (g := fun j => if a.va j ≤ d then a.am j else 0) (M := 16777216) (n := a.n) (fun i hi => by
    have := V.am1 i hi
    show (if _ then _ else _) ≤ _
    split <;> omega)
  have h2 := zsm_ge (g := fun j => if a.va j ≤ d then a.am j else 0) (M := -16777216) (n := a.n) (fun i hi => by
    have := V.am1 i hi
    show _ ≤ (if _ then _ else _)
    split <;> omega)
  have h3 := V.n4
  unfold zbl
  omega
theorem zmul_b {x y X Y : Int} (h1 : -X ≤ x) (h2 : x ≤ X) (h3 : 0 ≤ y) (h4 : y ≤ Y) : -(X * Y) ≤ x * y ∧ x * y ≤ X * Y := by
  have hX : 0 ≤ X := by omega
  have a1 : x * y ≤ X * y := Int.mul_le_mul_of_nonneg_right h2 h3
  have a2 : X * y ≤ X * Y := Int.mul_le_mul_of_nonneg_left h4 hX
  have a3 : -X * y ≤ x * y := Int.mul_le_mul_of_nonneg_right h1 h3
  have a4 : -X * y = -(X * y) := Int.neg_mul X y
  omega
theorem zpt_b {a : Ac} (V : Vw a) {d t : Nat} {b : Int} (hb : -17179869184 ≤ b ∧ b ≤ 17179869184) (ht : t ≤ a.nt + 2) : -17180000000 ≤ zpt a d b t ∧ zpt a d b t ≤ 17180000000 := by
  have h6 := zhl_b V (r := 6) (d := d) (by omega)
  simp only [if_true] at h6
  have hw : 0 ≤ zwi a d b ∧ zwi a d b ≤ 17180000000 ∧ 0 ≤ zod b ∧ zod b ≤ 17180000000 := by
    unfold zwi zod
    repeat' split
    all_goals omega
  have hf : t ≤ a.nt → 0 ≤ zfr a t ∧ zfr a t ≤ 99999 := fun z => by
    unfold zfr
    split
    · omega
    · have := V.tt9 (t - 1) (by omega)
      omega
  unfold zpt
  split
  · split <;> omega
  · have hf := hf (by omega)
    split
    · omega
    · split
      · omega
      · unfold zab
        split
        · rename_i z
          have := V.tt9 t z.1
          repeat' split
          all_goals omega
        · split <;> omega
theorem zer_b {a : Ac} (V : Vw a) {d : Nat} {b : Int} (hb : -17179869184 ≤ b ∧ b ≤ 17179869184) : -687200000000000 ≤ zer a d b ∧ zer a d b ≤ 687200000000000 := by
  have h1 : ∀ t, t < a.nt → -(17180000000 * 10000) ≤ zpt a d b t * zhl a t d ∧ zpt a d b t * zhl a t d ≤ 17180000000 * 10000 := fun t ht => by
    have h4 := V.nt4
    have p := zpt_b V (d := d) (t := t) hb (by omega)
    have q := zhl_b V (r := t) (d := d) (Or.inl ht)
    rw [if_neg (by omega)] at q
    exact zmul_b p.1 p.2 q.1 q.2
  have a1 := zsm_le (g := fun t => zpt a d b t * zhl a t d) (n := a.nt) (fun t ht => (h1 t ht).2)
  have a2 := zsm_ge (g := fun t => zpt a d b t * zhl a t d) (n := a.nt) (fun t ht => (h1 t ht).1)
  have h4 := V.nt4
  unfold zer
  omega
theorem zow_b {a : Ac} (V : Vw a) {d : Nat} {b : Int} (hb : -17179869184 ≤ b ∧ b ≤ 17179869184) : -343600000000000 ≤ zow a d b ∧ zow a d b ≤ 343600000000000 := by
  have p1 := zpt_b V (d := d) (t := a.nt + 1) hb (by omega)
  have p2 := zpt_b V (d := d) (t := a.nt + 2) hb (by omega)
  have q1 := zhl_b V (r := 4) (d := d) (by omega)
  have q2 := zhl_b V (r := 5) (d := d) (by omega)
  rw [if_neg (by omega)] at q1 q2
  have m1 := zmul_b p1.1 p1.2 q1.1 q1.2
  have m2 := zmul_b p2.1 p2.2 q2.1 q2.2
  unfold zow
  split <;> omega
theorem zpr_b {a : Ac} (V : Vw a) {d : Nat} {b : Int} (hb : -17179869184 ≤ b ∧ b ≤ 17179869184) : -1030800000000000 ≤ zpr a d b ∧ zpr a d b ≤ 1030800000000000 := by
  have p1 := zer_b V (d := d) hb
  have p2 := zow_b V (d := d) hb
  unfold zpr
  omega
theorem zpz_b {a : Ac} (V : Vw a) {b : Nat → Int} {p : Nat} (hb : ∀ i, i < a.P → -17179869184 ≤ b (a.P * p + i) ∧ b (a.P * p + i) ≤ 17179869184) : -41232000000000000 ≤ zpz a b p ∧ zpz a b p ≤ 41232000000000000 := by
  have a1 := zsm_le (g := fun i => zpr a (a.P * p + i) (b (a.P * p + i))) (n := a.P) (fun t ht => (zpr_b V (hb t ht)).2)
  have a2 := zsm_ge (g := fun i => zpr a (a.P * p + i) (b (a.P * p + i))) (n := a.P) (fun t ht => (zpr_b V (hb t ht)).1)
  have h4 := V.P40
  unfold zpz
  omega
/-! whole numbers and the machine's -/
theorem zl_lt {x y : Int} (h1 : -2 ^ 63 ≤ x) (h2 : x < 2 ^ 63) (h3 : -2 ^ 63 ≤ y) (h4 : y < 2 ^ 63) : zL x < zL y ↔ x < y := by
  rw [Int64.lt_iff_toInt_lt, Int64.toInt_ofInt_of_le h1 h2, Int64.toInt_ofInt_of_le h3 h4]
theorem zl_le {x y : Int} (h1 : -2 ^ 63 ≤ x) (h2 : x < 2 ^ 63) (h3 : -2 ^ 63 ≤ y) (h4 : y < 2 ^ 63) : zL x ≤ zL y ↔ x ≤ y := by
  rw [Int64.le_iff_toInt_le, Int64.toInt_ofInt_of_le h1 h2, Int64.toInt_ofInt_of_le h3 h4]
theorem zl_eq {x y : Int} (h1 : -2 ^ 63 ≤ x) (h2 : x < 2 ^ 63) (h3 : -2 ^ 63 ≤ y) (h4 : y < 2 ^ 63) : zL x = zL y ↔ x = y := by
  rw [← Int64.toInt_inj, Int64.toInt_ofInt_of_le h1 h2, Int64.toInt_ofInt_of_le h3 h4]
theorem zl_lt0 {x : Int} (h1 : -2 ^ 63 ≤ x) (h2 : x < 2 ^ 63) : zL x < 0 ↔ x < 0 := zl_lt (y := 0) h1 h2 (by decide) (by decide)
theorem zl_gt0 {x : Int} (h1 : -2 ^ 63 ≤ x) (h2 : x < 2 ^ 63) : 0 < zL x ↔ 0 < x := zl_lt (x := 0) (by decide) (by decide) h1 h2
theorem zl_le0 {x : Int} (h1 : -2 ^ 63 ≤ x) (h2 : x < 2 ^ 63) : zL x ≤ 0 ↔ x ≤ 0 := zl_le (y := 0) h1 h2 (by decide) (by decide)
theorem zl_ge0 {x : Int} (h1 : -2 ^ 63 ≤ x) (h2 : x < 2 ^ 63) : 0 ≤ zL x ↔ 0 ≤ x := zl_le (x := 0) (by decide) (by decide) h1 h2
theorem zl_eq0 {x : Int} (h1 : -2 ^ 63 ≤ x) (h2 : x < 2 ^ 63) : zL x = 0 ↔ x = 0 := zl_eq (y := 0) h1 h2 (by decide) (by decide)
theorem zl_div {x y : Int} (h1 : 0 ≤ x) (h2 : x < 2 ^ 63) (h3 : 0 < y) (h4 : y < 2 ^ 63) : zL x / zL y = zL (x / y) := by
  rw [← Int.tdiv_eq_ediv_of_nonneg h1]
  have e1 : Int64.minValue.toInt = -2 ^ 63 := rfl
  have e2 : Int64.maxValue.toInt = 2 ^ 63 - 1 := rfl
  exact (Int64.ofInt_tdiv (by rw [e1]; omega) (by rw [e2]; omega) (by rw [e1]; omega) (by rw [e2]; omega)).symm
theorem zn_l {x : Int} (h1 : -2 ^ 31 ≤ x) (h2 : x < 2 ^ 31) : (zN x).toInt64 = zL x := by
  have e1 : Int32.minValue.toInt = -2 ^ 31 := rfl
  have e2 : Int32.maxValue.toInt = 2 ^ 31 - 1 := rfl
  exact Int32.toInt64_ofInt (by rw [e1]; omega) (by rw [e2]; omega)
theorem zn_nI (n : Nat) : zN (n : Int) = nI n := Int32.ofInt_eq_ofNat
theorem zn_eq {x y : Int} (h1 : -2 ^ 31 ≤ x) (h2 : x < 2 ^ 31) (h3 : -2 ^ 31 ≤ y) (h4 : y < 2 ^ 31) : zN x = zN y ↔ x = y := by
  rw [← Int32.toInt_inj, Int32.toInt_ofInt_of_le h1 h2, Int32.toInt_ofInt_of_le h3 h4]
theorem zn_lt {x y : Int} (h1 : -2 ^ 31 ≤ x) (h2 : x < 2 ^ 31) (h3 : -2 ^ 31 ≤ y) (h4 : y < 2 ^ 31) : zN x < zN y ↔ x < y := by
  rw [Int32.lt_iff_toInt_lt, Int32.toInt_ofInt_of_le h1 h2, Int32.toInt_ofInt_of_le h3 h4]
theorem zn_le {x y : Int} (h1 : -2 ^ 31 ≤ x) (h2 : x < 2 ^ 31) (h3 : -2 ^ 31 ≤ y) (h4 : y < 2 ^ 31) : zN x ≤ zN y ↔ x ≤ y := by
  rw [Int32.le_iff_toInt_le, Int32.toInt_ofInt_of_le h1 h2, Int32.toInt_ofInt_of_le h3 h4]
/-- as the machine reckons it -/
theorem znr_m {z : Int} (h1 : -2 ^ 61 ≤ z) (h2 : z ≤ 2 ^ 61) : (if zL z < 0 then -((2 * (if 0 < zL z then zL z else -zL z) + 3600000) / 7200000) else (2 * (if 0 < zL z then zL z else -zL z) + 3600000) / 7200000) = zL (znr z) := by
  have e0 : (if 0 < zL z then zL z else -zL z) = zL (if z < 0 then -z else z) := by
    by_cases h : z < 0
    · rw [if_pos h, if_neg (by rw [zl_gt0 (by omega) (by omega)]; omega)]
      exact (Int64.ofInt_neg z).symm
    · rw [if_neg h]
      by_cases h0 : 0 < z
      · rw [if_pos ((zl_gt0 (by omega) (by omega)).mpr h0)]
      · have : z = 0 := by omega
        subst this
        rfl
  have e1 : ∀ y : Int, 0 ≤ y → y ≤ 2 ^ 61 → (2 * zL y + 3600000) / 7200000 = zL ((2 * y + 3600000) / 7200000) := fun y h3 h4 => by
    rw [← zl_div (by omega) (by omega) (by omega) (by omega)]
    show _ = Int64.ofInt (2 * y + 3600000) / _
    rw [Int64.ofInt_add, Int64.ofInt_mul]
    rfl
  rw [e0]
  unfold znr
  by_cases h : z < 0
  · rw [if_pos ((zl_lt0 (by omega) (by omega)).mpr h), if_pos h, if_pos h, e1 _ (by omega) (by omega)]
    exact (Int64.ofInt_neg _).symm
  · rw [if_neg (by rw [zl_lt0 (by omega) (by omega)]; exact h), if_neg h, if_neg h, e1 _ (by omega) (by omega)]
