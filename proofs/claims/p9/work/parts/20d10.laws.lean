/-! ===== settings, terms, laws: what they tell ===== -/
noncomputable def iR (hi : Int) (F F' : Nat → sy_d) : Prop := gr W1 F F' ∧ nop F F' ∧ ((sy_i F' 6).toInt = 0 → (sy_i F 4).toInt + 1 ≤ (sy_i F' 4).toInt) ∧ ∀ (L : Nat) (w : sE), pm (pf F) (kf F) L → tn F ≤ L → kf F (tn F) ≠ 0 → wr (pf F) w F → an (pf F) (sSt (kf F) (vf F) hi (tn F) w) (jq (pf F) L) F F'
theorem iR_dst {hi : Int} {F F' F2 : Nat → sy_d} (h : iR hi F F') (e : ∀ q, q < 69 → F2 q = F' q) : iR hi F F2 := by
  obtain ⟨h1, h2, h4, h3⟩ := h
  have i4 := nz_fi (e 4 (by decide))
  have i6 := nz_fi (e 6 (by decide))
  have i7 := nz_fi (e 7 (by decide))
  exact ⟨h1.dst e, nop_trans h2 (nop_same i6 i7), by rw [i6, i4]; exact h4, fun L w a b c d => an_mono (h3 L w a b c d) i6 i7 (fun q j => jq_dst j i4 (nz_fi (e 8 (by decide))) (nz_fi (e 9 (by decide))))⟩
theorem iR_src {hi : Int} {F F0 F' : Nat → sy_d} (h : iR hi F0 F') (e : ∀ q, q < 69 → F0 q = F q) : iR hi F F' := by
  obtain ⟨h1, h2, h4, h3⟩ := h
  have i4 := nz_fi (e 4 (by decide))
  have i6 := nz_fi (e 6 (by decide))
  rw [kf_eq (e 25 (by decide)), pf_eq (e 26 (by decide)), vf_eq (e 27 (by decide)), tn_eq i4] at h3
  rw [i4] at h4
  exact ⟨h1.src e, nop_src h2 i6 (nz_fi (e 7 (by decide))), h4, fun L w a b c d => an_src (h3 L w a b c (wr_eq d (by rw [tn_eq i4]; exact Nat.le_refl _) (nz_fi (e 8 (by decide))) (nz_fi (e 9 (by decide))))) i6⟩
noncomputable def jw (P : Nat → Int) (L : Nat) (w : sE) (t : Nat) (F : Nat → sy_d) : Prop := tn F = t ∧ t ≤ L ∧ wr P w F
section TI
variable {Ls : Nat} {xs : Nat → Int32} (F : Nat → sy_d) (X1 X2 : List jm_c)
end TI
