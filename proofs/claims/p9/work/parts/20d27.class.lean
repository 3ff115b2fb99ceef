/-! ===== the class parses laws ===== -/
section II
variable (K : Nat → Int)
noncomputable def i6 (t : Nat) : sE ⊕ Nat := sM K 33 t
noncomputable def i5 (t : Nat) : sE ⊕ Nat := sB (eX K t 0 0) (i6 K)
noncomputable def i4 (t : Nat) : sE ⊕ Nat := sB (sM K 32 t) (i5 K)
noncomputable def i3 (t : Nat) : sE ⊕ Nat := sB (eX K t 0 0) (i4 K)
noncomputable def i2 (t : Nat) : sE ⊕ Nat := sB (sM K 13 t) (i3 K)
noncomputable def i1 (t : Nat) : sE ⊕ Nat := sB (eX K t 0 0) (i2 K)
theorem i_eq {t : Nat} (h : K t = 31) : sIf K t = sB (sM K 31 t) (i1 K) := by
  unfold sM
  rw [if_pos h]
  rfl
end II
noncomputable def piR (W : List Nat) (x : Int32) (F F' : Nat → sy_d) : Prop := gc W F F' ∧ (kg F (tg F) = 31 → ((x = 0 ∧ sIf (kg F) (tg F) = .inl ((sy_i F' 34).toInt, tg F')) ∨ (x = 1 ∧ sIf (kg F) (tg F) = .inr (tg F'))))
theorem piR_dst {W : List Nat} {x : Int32} {F F' F2 : Nat → sy_d} (h : piR W x F F') (e : ∀ q, q < 82 → F2 q = F' q) : piR W x F F2 := by
  refine ⟨h.1.dst e, ?_⟩
  rw [nz_fi (e 34 (by decide)), tg_eq (nz_fi (e 33 (by decide)))]
  exact h.2
theorem piR_src {W : List Nat} {x : Int32} {F F0 F' : Nat → sy_d} (h : piR W x F0 F') (e : ∀ q, q < 82 → F0 q = F q) : piR W x F F' := by
  obtain ⟨h1, h2⟩ := h
  rw [kg_eq (e 39 (by decide)), tg_eq (nz_fi (e 33 (by decide)))] at h2
  exact ⟨h1.src e, h2⟩
theorem x01 {x : Int32} {p q : Prop} (h : (x = 0 ∧ p) ∨ (x = 1 ∧ q)) : (x.toInt = 0 → p) ∧ (x.toInt ≠ 0 → q) := by
  rcases h with ⟨rfl, h⟩ | ⟨rfl, h⟩
  · exact ⟨fun _ => h, fun z => absurd (by decide) z⟩
  · exact ⟨fun z => absurd z (by decide), fun _ => h⟩
theorem km_in {k j : Int} (h : ∀ c, km c = j ↔ c = k) (hj : km k = j) : ∀ c, km c = km k → c = k := fun c z => (h c).mp (z.trans hj)
section I0
variable {Ls : Nat} {xs : Nat → Int32} (X1 X2 : List jm_c) (F0 : Nat → sy_d) (r0 : sE ⊕ Nat)
end I0
section I3
variable {Ls : Nat} {xs : Nat → Int32} (X1 X2 : List jm_c) (F0 : Nat → sy_d) (r0 : sE ⊕ Nat)
end I3
