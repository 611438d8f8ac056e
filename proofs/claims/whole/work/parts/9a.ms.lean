/-! the reference's reading: what tokens leave -/
def gM (I Iv : mI) : Prop := (∀ k, k ≠ 43 → Iv k = I k) ∧ (∀ j, j ≠ 29 → j ≠ 30 → j ≠ 31 → j ≠ 32 → Iv 43 j = I 43 j)
theorem gM.refl (I : mI) : gM I I := ⟨fun _ _ => rfl, fun _ _ _ _ _ => rfl⟩
theorem gM.trans {I I1 I2 : mI} (h : gM I I1) (g : gM I1 I2) : gM I I2 := ⟨fun k hk => (g.1 k hk).trans (h.1 k hk), fun j a1 a2 a3 a4 => (g.2 j a1 a2 a3 a4).trans (h.2 j a1 a2 a3 a4)⟩
