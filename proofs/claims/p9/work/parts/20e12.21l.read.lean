/-! ===== the reference reads: what it answers, and the content ===== -/
noncomputable def rz_Q (X1 X2 : List jm_c) (a : Int × Int) (C TL : tX) (T21 T67 T29 : sy_d) (v : Option Value) (G : jm_h) : Prop := ∃ (x : Int32) (F' : Nat → sy_d), v = some (.int x) ∧ G = sy_dh F' X1 X2 (iv_H 4) ∧ iv_in F' iv_B4 ∧ jm_rpn F' ∧ (sy_i F' 1).toInt = 0 ∧ x.toInt = a.1 ∧ (sy_i F' 10).toInt = a.2 ∧ (a.1 = 0 → (sy_i F' 21).toInt = 0 ∧ ∀ j, j < 3 → (sy_ai F' 67).getD j 0 = 0) ∧ (a.1 ≠ 0 → F' 21 = T21 ∧ F' 67 = T67) ∧ F' 29 = T29 ∧ (a.1 = 0 → rXl C F') ∧ (a.1 ≠ 0 → rXl TL F')
section RZ
variable {Ls : Nat} {xs : Nat → Int32} (X1 X2 : List jm_c) (C TL : tX) (T21 T67 T29 : sy_d)
/-- at the loop's head -/
noncomputable def rIz (K V : Nat → Int) (N : Nat → Int64) (P : Nat → Int) (L : Nat) (rr : sE ⊕ (sT × tX)) (F : Nat → sy_d) : Prop := (kf F = K ∧ vf F = V ∧ nf F = N ∧ pf F = P) ∧ pm P K L ∧ ((sy_i F 6).toInt = 0 → ∃ (n : Nat) (x : sT) (T : tX), 401 ≤ n + tn F ∧ rt P L x F ∧ rr = zRun K V N n x T ∧ rX T F) ∧ ((sy_i F 6).toInt ≠ 0 → ∃ tok, rr = .inl ((sy_i F 6).toInt, tok) ∧ (sy_i F 7).toInt = P tok)
theorem rIz_eq {K V P : Nat → Int} {N : Nat → Int64} {L : Nat} {rr : sE ⊕ (sT × tX)} {F F1 : Nat → sy_d} (h : rIz K V N P L rr F) (e : ∀ q, q < 69 → F1 q = F q) : rIz K V N P L rr F1 := by
  obtain ⟨⟨k1, k2, k3, k4⟩, k5, k6, k7⟩ := h
  have i4 := nz_fi (e 4 (by decide))
  have i6 := nz_fi (e 6 (by decide))
  refine ⟨⟨(kf_eq (e 25 (by decide))).trans k1, (vf_eq (e 27 (by decide))).trans k2, (nf_eq (e 28 (by decide))).trans k3, (pf_eq (e 26 (by decide))).trans k4⟩, k5, fun z => ?_, fun z => ?_⟩
  · obtain ⟨n, x, T, a, b, c, d⟩ := k6 (by omega)
    obtain ⟨b1, b2, b3, b4, b5, b6⟩ := b
    refine ⟨n, x, T, by rw [tn_eq i4]; exact a, ⟨by rw [tn_eq i4]; exact b1, b2, ?_, ?_, nmr_eq b5 (e 30 (by decide)) (nz_fi (e 13 (by decide))), wr_eq b6 (by rw [tn_eq i4]; exact Nat.le_refl _) (nz_fi (e 8 (by decide))) (nz_fi (e 9 (by decide)))⟩, c, rX_eq d (by unfold sdf; rw [nz_fi (e 12 (by decide))]) (fun a h1 h2 => nz_fa (e a (by omega)))⟩
    · unfold FRf
      rw [nz_fa (e 31 (by decide)), nz_fi (e 12 (by decide))]
      exact b3
    · unfold BUf
      rw [nz_fa (e 35 (by decide)), nz_fi (e 12 (by decide))]
      exact b4
  · rw [i6, nz_fi (e 7 (by decide))]
    exact k7 (by omega)
end RZ
