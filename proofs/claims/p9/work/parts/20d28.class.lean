/-! ===== the class parses a law ===== -/
noncomputable def plr (K : Nat → Int) (t : Nat) : sE ⊕ Nat := sB (sG t) (sLw K)
noncomputable def plR (W : List Nat) (x : Int32) (F F' : Nat → sy_d) : Prop := gc W F F' ∧ ((x = 0 ∧ plr (kg F) (tg F) = .inl ((sy_i F' 34).toInt, tg F')) ∨ (x = 1 ∧ plr (kg F) (tg F) = .inr (tg F')))
theorem plR_dst {W : List Nat} {x : Int32} {F F' F2 : Nat → sy_d} (h : plR W x F F') (e : ∀ q, q < 82 → F2 q = F' q) : plR W x F F2 := by
  refine ⟨h.1.dst e, ?_⟩
  rw [nz_fi (e 34 (by decide)), tg_eq (nz_fi (e 33 (by decide)))]
  exact h.2
theorem plR_src {W : List Nat} {x : Int32} {F F0 F' : Nat → sy_d} (h : plR W x F0 F') (e : ∀ q, q < 82 → F0 q = F q) : plR W x F F' := by
  obtain ⟨h1, h2⟩ := h
  rw [kg_eq (e 39 (by decide)), tg_eq (nz_fi (e 33 (by decide)))] at h2
  exact ⟨h1.src e, h2⟩
noncomputable def k0_WL : List Nat := [33, 34, 23, 32, 31]
section L0
variable {Ls : Nat} {xs : Nat → Int32} (X1 X2 : List jm_c) (F0 : Nat → sy_d) (r0 : sE ⊕ Nat)
end L0
noncomputable def k3_WL : List Nat := [33, 34, 8, 17, 16]
section L3
variable {Ls : Nat} {xs : Nat → Int32} (X1 X2 : List jm_c) (F0 : Nat → sy_d) (r0 : sE ⊕ Nat)
end L3
