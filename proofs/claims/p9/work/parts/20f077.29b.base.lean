/-! ===== held grounds ===== -/
def hlC (nf nb : Nat) (F : Nat → sy_d) (H : Nat → gS) : Prop := ∀ k, k < 3 → ((sy_ai F 78).getD k 0).toInt ≠ 0 → svC nf nb (sy_ai F 77) (60 * k) (H k)
theorem hlC_eq {nf nb : Nat} {F F1 : Nat → sy_d} {H : Nat → gS} (h : hlC nf nb F H) (e7 : F1 77 = F 77) (e8 : F1 78 = F 78) : hlC nf nb F1 H := by
  intro k hk
  rw [nz_fa e7, nz_fa e8]
  exact h k hk
