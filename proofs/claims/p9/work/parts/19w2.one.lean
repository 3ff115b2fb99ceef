/-! ===== one thing is told ===== -/
noncomputable def WO : List Nat := [4, 5, 6, 7, 8, 9, 13, 14, 15, 16, 30, 31, 32, 33, 34, 35, 36, 37, 38, 39, 40, 41, 42, 43, 44, 45, 46, 47, 48, 49, 50, 51]
noncomputable def pj (F : Nat → sy_d) : Prop := rp_S F (sy_i F 12).toInt.toNat (sy_i F 14).toInt (sy_i F 15).toInt ∧ 130 * (sy_i F 12).toInt ≤ (sy_i F 14).toInt ∧ 420 * (sy_i F 12).toInt ≤ (sy_i F 15).toInt ∧ 4 * ((sy_i F 14).toInt - 130 * (sy_i F 12).toInt) ≤ (sy_i F 4).toInt ∧ (sy_i F 15).toInt ≤ 420 * (sy_i F 12).toInt + (sy_i F 4).toInt ∧ (sy_i F 13).toInt = ((sy_ai F 31).getD (sy_i F 12).toInt.toNat 0).toInt + ((sy_ai F 35).getD (sy_i F 12).toInt.toNat 0).toInt ∧ (sy_i F 5).toInt = 0
noncomputable def pk (F : Nat → sy_d) : Prop := iv_in F iv_B4 ∧ (sy_i F 12).toInt = 1 - (sy_i F 11).toInt ∧ jm_rpn F ∧ ((sy_i F 6).toInt = 0 → pj F)
theorem pj_of {F F1 : Nat → sy_d} {W : List Nat} (h : pj F) (hG : gr W F F1) (hW : ∀ q ∈ ([5, 12, 14, 15, 42, 43, 44, 45, 46, 47, 48, 49, 50] : List Nat), q ∉ W) (hn : (sy_i F1 13).toInt = ((sy_ai F1 31).getD (sy_i F 12).toInt.toNat 0).toInt + ((sy_ai F1 35).getD (sy_i F 12).toInt.toNat 0).toInt) : pj F1 := by
  obtain ⟨h1, h2, h3, h4, h5, h6, h7⟩ := h
  have i5 := hG.i (k := 5) (by decide) (hW 5 (by decide))
  have i12 := hG.i (k := 12) (by decide) (hW 12 (by decide))
  have i14 := hG.i (k := 14) (by decide) (hW 14 (by decide))
  have i15 := hG.i (k := 15) (by decide) (hW 15 (by decide))
  have a42 := hG.a (k := 42) (by decide) (hW 42 (by decide))
  have a43 := hG.a (k := 43) (by decide) (hW 43 (by decide))
  have a44 := hG.a (k := 44) (by decide) (hW 44 (by decide))
  have a45 := hG.a (k := 45) (by decide) (hW 45 (by decide))
  have a46 := hG.a (k := 46) (by decide) (hW 46 (by decide))
  have a47 := hG.a (k := 47) (by decide) (hW 47 (by decide))
  have a48 := hG.a (k := 48) (by decide) (hW 48 (by decide))
  have a49 := hG.a (k := 49) (by decide) (hW 49 (by decide))
  have a50 := hG.a (k := 50) (by decide) (hW 50 (by decide))
  have t := hG.t
  refine ⟨?_, by omega, by omega, by omega, by omega, by rw [i12]; exact hn, by omega⟩
  rw [i12]
  exact rp_S_keep h1 (fun k _ => by rw [a42, a43]; exact ⟨rfl, rfl⟩) (fun b _ _ => s5_same a44 a45 a46 a47 a48 b) (fun i _ _ => by rw [a49, a50]; exact ⟨rfl, rfl⟩) (by omega) (by omega)
theorem pk_of {F F1 : Nat → sy_d} {W : List Nat} (h : pk F) (hG : gr W F F1) (hW : ∀ q ∈ ([11, 12, 42, 43, 44, 45, 46, 47, 48, 49, 50] : List Nat), q ∉ W) (hj : (sy_i F1 6).toInt = 0 → pj F1) : pk F1 := by
  obtain ⟨h1, h2, h3, h4⟩ := h
  have i11 := hG.i (k := 11) (by decide) (hW 11 (by decide))
  have i12 := hG.i (k := 12) (by decide) (hW 12 (by decide))
  refine ⟨hG.b, by omega, jm_rpn_eq (fun q hq => hG.f q (by revert q; decide) (hW q ?_)) h3, hj⟩
  revert q
  decide
noncomputable def to_Q (F : Nat → sy_d) (X1 X2 : List jm_c) (v : Option Value) (G : jm_h) : Prop := ∃ F' : Nat → sy_d, v = none ∧ G = sy_dh F' X1 X2 (iv_H 4) ∧ gr WO F F' ∧ pk F' ∧ ((sy_i F' 6).toInt = 0 → (sy_i F 4).toInt + 1 ≤ (sy_i F' 4).toInt)
theorem pk_law {k : Int} {F F' : Nat → sy_d} (hk : 0 ≤ k ∧ k ≤ 5) (hB : iv_in F iv_B4) (h12 : (sy_i F 12).toInt = 1 - (sy_i F 11).toInt) (hr : jm_rpn F) (hS : rp_S F (sy_i F 12).toInt.toNat (sy_i F 14).toInt (sy_i F 15).toInt) (h130 : 130 * (sy_i F 12).toInt ≤ (sy_i F 14).toInt) (h420 : 420 * (sy_i F 12).toInt ≤ (sy_i F 15).toInt) (hn : (sy_i F 13).toInt = ((sy_ai F 31).getD (sy_i F 12).toInt.toNat 0).toInt + ((sy_ai F 35).getD (sy_i F 12).toInt.toNat 0).toInt) (hR : tl_R k F F') : pk F' := by
  obtain ⟨r1, r2, r3, r4, r5, r6, r7, r8, r9⟩ := hR
  have i11 := r1.i (k := 11) (by decide) (by decide)
  have i12 := r1.i (k := 12) (by decide) (by decide)
  have i13 := r1.i (k := 13) (by decide) (by decide)
  have a31 := r1.a (k := 31) (by decide) (by decide)
  have a35 := r1.a (k := 35) (by decide) (by decide)
  have c11 := nz_bx hB (k := 11) (lo := 0) (hi := 1) rfl
  have d4 := nz_bx r1.b (k := 4) (lo := 0) (hi := 400) rfl
  have c14 := nz_bx hB (k := 14) (lo := 0) (hi := 260) rfl
  refine ⟨r1.b, by omega, ?_, fun z => ?_⟩
  · have e1 : (sy_i F' 11).toNatClampNeg = (sy_i F 11).toInt.toNat := by
      show (sy_i F' 11).toInt.toNat = _
      rw [i11]
    have hr' : rp_S F (sy_i F 11).toInt.toNat (130 * (sy_i F 11).toInt.toNat + 130) (420 * (sy_i F 11).toInt.toNat + 420) := hr
    unfold jm_rpn
    rw [e1]
    refine rp_S_keep hr' (fun k' hk' => r8 _ (by omega)) (fun b q1 q2 => r3 b (by omega)) (fun i q1 q2 => r2 i (by omega)) (Int.le_refl _) (Int.le_refl _)
  · obtain ⟨⟨l1, l2, l3, l4⟩, l5, l6, l7⟩ := r9 z
    refine ⟨?_, by omega, by omega, by omega, by omega, by rw [i12, i13, a31, a35]; exact hn, l1⟩
    rw [i12]
    intro k' b hk' q1 q2
    by_cases e : (6 * (sy_i F 12).toInt.toNat + k') = (6 * (sy_i F 12).toInt + k).toNat
    · rw [e, l6] at q1
      rw [e, l7] at q2
      exact ⟨⟨by omega, q2⟩, l4 b q1 q2⟩
    · obtain ⟨e1, e2⟩ := r8 (6 * (sy_i F 12).toInt.toNat + k') (by omega)
      rw [e1] at q1
      rw [e2] at q2
      obtain ⟨v1, v2⟩ := hS k' b hk' q1 q2
      exact ⟨⟨v1.1, by omega⟩, rp_br_keep v2 (r3 b (by omega)) (fun i _ hi => r2 i (Or.inl hi)) r4⟩
theorem tl_Rdst {k : Int} {F F' F2 : Nat → sy_d} (h : tl_R k F F') (e : ∀ q, q < 69 → F2 q = F' q) : tl_R k F F2 := by
  obtain ⟨h1, h2, h3, h4, h5, h6, h7, h8, h9⟩ := h
  have i4 := nz_fi (e 4 (by decide))
  have i5 := nz_fi (e 5 (by decide))
  have i6 := nz_fi (e 6 (by decide))
  have i14 := nz_fi (e 14 (by decide))
  have i15 := nz_fi (e 15 (by decide))
  have a42 := nz_fa (e 42 (by decide))
  have a43 := nz_fa (e 43 (by decide))
  have a44 := nz_fa (e 44 (by decide))
  have a45 := nz_fa (e 45 (by decide))
  have a46 := nz_fa (e 46 (by decide))
  have a47 := nz_fa (e 47 (by decide))
  have a48 := nz_fa (e 48 (by decide))
  have a49 := nz_fa (e 49 (by decide))
  have a50 := nz_fa (e 50 (by decide))
  refine ⟨h1.dst e, ?_, ?_, by rw [i15]; exact h4, by rw [i14]; exact h5, by rw [i15, i4]; exact h6, by rw [i14]; exact h7, by rw [a42, a43]; exact h8, ?_⟩
  · unfold kp
    rw [i15, a49, a50]
    exact h2
  · unfold kb s5
    rw [i14, a44, a45, a46, a47, a48]
    exact h3
  · unfold li rp_br
    rw [i4, i5, i6, i14, i15, a42, a43, a44, a45, a46, a47, a48, a49, a50]
    exact h9
section TO
variable {Ls : Nat} {xs : Nat → Int32} (X1 X2 : List jm_c) (F : Nat → sy_d)
end TO
