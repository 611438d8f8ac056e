/-! the reference: another cycle -/
def zsk (a : Ac) (k : Nat) : Ac := (Ac.mk (Ac.P a) (Ac.N a) (k) (Ac.c a) (Ac.n a) (Ac.nt a) (Ac.nc a) (Ac.so a) (Ac.va a) (Ac.pg a) (Ac.am a) (Ac.og a) (Ac.tr a) (Ac.tt a) (Ac.db a) (Ac.cd a) (Ac.co a) (Ac.cv a) (Ac.ti a) (Ac.tb a) (Ac.fo a))
theorem MR.sk {a : Ac} {w : Nat} {I A : mI} {B : mB} (M : MR a w I A B) {k : Nat} {x : Int32} (ex : x = nI k) : MR (zsk a k) w I (up2 A w 2 x) B := by
  have h5 := M.w5
  have hq : ∀ q, 46 ≤ q → up2 A w 2 x q = A q := fun q hq => up2_r (by omega)
  refine MR.mk M.hw M.w5 ?_ ?_ ?_ M.hnt ?_ ?_ ?_ M.hnc ?_ ?_ ?_ M.hn ?_ M.ham ?_ ?_ ?_ M.hc M.hti M.htb M.hfo
  · rw [up2_m (show 0 ≠ 2 by decide)]; exact M.hP
  · rw [up2_m (show 1 ≠ 2 by decide)]; exact M.hN
  · exact fun _ => up2_s.trans ex
  · rw [hq 48 (by decide)]; exact M.htr
  · rw [hq 49 (by decide)]; exact M.htt
  · rw [hq 50 (by decide)]; exact M.hdb
  · rw [hq 51 (by decide)]; exact M.hcd
  · rw [hq 52 (by decide)]; exact M.hco
  · rw [hq 53 (by decide)]; exact M.hcv
  · rw [hq 54 (by decide)]; exact M.hso
  · rw [hq 56 (by decide)]; exact M.hva
  · rw [hq 57 (by decide)]; exact M.hpg
  · rw [hq 58 (by decide)]; exact M.hog
theorem WdR.sk {w : Nat} {A : mI} {L T m : Nat} {rw : Nat → Rw} (W : WdR w A L T m rw) {x : Int32} : WdR w (up2 A w 2 x) L T m rw := by
  refine ⟨(up2_m (by decide)).trans W.h3, (up2_m (by decide)).trans W.h4, (up2_m (by decide)).trans W.h5, fun k hk => ?_⟩
  obtain ⟨g0, g1, g2, g3⟩ := W.hr k hk
  exact ⟨(up2_m (by omega)).trans g0, (up2_m (by omega)).trans g1, (up2_m (by omega)).trans g2, (up2_m (by omega)).trans g3⟩
theorem c_Mda {J : mJ} (X : mRules J) {I A : mI} {B : mB} {w f : Nat} {R : mR} {b : Ac} (M : MR b w I A B) {P N K : Nat} (e : b.P = P ∧ b.N = N ∧ b.K = K ∧ b.ti = none ∧ b.fo = none) {L T m : Nat} {rw : Nat → Rw} (W : WdR w A L T m rw) (hm : m ≤ 120) (Q : Rp P N K rw m) (h : qM (zrn P N K rw m) w f I A B R none) : J n_M_doesAll 0 [.ref 43, .float 0] [] I A B (pk w f) R := by
  obtain ⟨e1, e2, e3, e4, e5⟩ := e
  subst e1; subst e2; subst e3
  exact c_MdoesAll X M e4 e5 hm W.h5 W.hr Q.ok Q.gd h
