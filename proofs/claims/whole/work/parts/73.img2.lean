/-! images of the reference -/
def zsp (a : Ac) (P N K : Nat) : Ac := (Ac.mk (P) (N) (K) (Ac.c a) (Ac.n a) (Ac.nt a) (Ac.nc a) (Ac.so a) (Ac.va a) (Ac.pg a) (Ac.am a) (Ac.og a) (Ac.tr a) (Ac.tt a) (Ac.db a) (Ac.cd a) (Ac.co a) (Ac.cv a) (Ac.ti a) (Ac.tb a) (Ac.fo a))
theorem MR.sw {a : Ac} {w : Nat} {I A A' : mI} {B : mB} (M : MR a w I A B) {P N K : Nat} (h : ∀ q, q ≠ w → A' q = A q) (h0 : A' w 0 = nI P) (h1 : A' w 1 = nI N) (h2 : 0 < N → A' w 2 = nI K) : MR (zsp a P N K) w I A' B := by
  have h5 := M.w5
  have hq : ∀ q, 46 ≤ q → A' q = A q := fun q hq => h q (by omega)
  refine MR.mk M.hw M.w5 h0 h1 h2 M.hnt ?_ ?_ ?_ M.hnc ?_ ?_ ?_ M.hn ?_ M.ham ?_ ?_ ?_ M.hc M.hti M.htb M.hfo
  · rw [hq 48 (by decide)]; exact M.htr
  · rw [hq 49 (by decide)]; exact M.htt
  · rw [hq 50 (by decide)]; exact M.hdb
  · rw [hq 51 (by decide)]; exact M.hcd
  · rw [hq 52 (by decide)]; exact M.hco
  · rw [hq 53 (by decide)]; exact M.hcv
  · rw [hq 54 (by decide)]; exact M.hso
  · rw [hq 56 (by decide)]; exact M.hva
  · rw [hq 57 (by decide)]; exact M.hpg
  · rw [hq 58 (by decide)]; exact M.hog
theorem WdR.cp {w w' : Nat} {A A' : mI} {L T m : Nat} {rw : Nat → Rw} (W : WdR w A L T m rw) (hm : m ≤ 119) (h : ∀ j, j < 606 → A' w' j = A w j) : WdR w' A' L T m rw := by
  refine ⟨(h 3 (by decide)).trans W.h3, (h 4 (by decide)).trans W.h4, (h 5 (by decide)).trans W.h5, fun k hk => ?_⟩
  obtain ⟨g0, g1, g2, g3⟩ := W.hr k hk
  exact ⟨(h _ (by omega)).trans g0, (h _ (by omega)).trans g1, (h _ (by omega)).trans g2, (h _ (by omega)).trans g3⟩
/-- an image's place in the reference -/
def blk (A : mI) (k : Nat) : mI := fun _ j => A 46 (606 * k + j)
