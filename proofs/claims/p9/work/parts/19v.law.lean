/-! ===== a law is read ===== -/
noncomputable def WL : List Nat := [4, 5, 6, 7, 14, 15, 16, 44, 45, 46, 47, 48, 49, 50, 51]
noncomputable def WLL : List Nat := [4, 5, 6, 7, 14, 15, 16, 42, 43, 44, 45, 46, 47, 48, 49, 50, 51]
noncomputable def lc (m : Int) (F0 F : Nat → sy_d) : Prop := gr WL F0 F ∧ kp F0 F ∧ kb F0 F ∧ (sy_i F0 15).toInt ≤ (sy_i F 15).toInt ∧ (sy_i F0 14).toInt ≤ (sy_i F 14).toInt ∧ (sy_i F 15).toInt ≤ 420 * (sy_i F0 12).toInt + (sy_i F 4).toInt + 1 ∧ (sy_i F 14).toInt ≤ 130 * (sy_i F0 12).toInt + m
noncomputable def li (k : Int) (F0 F : Nat → sy_d) : Prop := (sy_i F 5).toInt = 0 ∧ (sy_i F 15).toInt ≤ 420 * (sy_i F0 12).toInt + (sy_i F 4).toInt ∧ 4 * ((sy_i F 14).toInt - 130 * (sy_i F0 12).toInt) + k ≤ (sy_i F 4).toInt ∧ ∀ b : Nat, (sy_i F0 14).toInt ≤ b → (b : Int) < (sy_i F 14).toInt → rp_br F (sy_i F0 12).toInt.toNat (sy_i F 15).toInt b
theorem lc_step {m m' : Int} {F0 F F1 : Nat → sy_d} {C : List Nat} (h : lc m F0 F) (hb : iv_in F1 iv_B4) (g : ∀ j, j < 69 → j ∉ C → F1 j = F j) (hC : ∀ x ∈ C, x ∈ WL) (t : (sy_i F 4).toInt ≤ (sy_i F1 4).toInt) (u : (sy_i F1 6).toInt = 0 → (sy_i F 6).toInt = 0) (k : kp F F1) (hs : ∀ b : Nat, (b : Int) ≠ (sy_i F 14).toInt → s5 F F1 b) (l15 : (sy_i F 15).toInt ≤ (sy_i F1 15).toInt) (l14 : (sy_i F 14).toInt ≤ (sy_i F1 14).toInt) (c15 : (sy_i F1 15).toInt ≤ 420 * (sy_i F0 12).toInt + (sy_i F1 4).toInt + 1) (c14 : (sy_i F1 14).toInt ≤ 130 * (sy_i F0 12).toInt + m') : lc m' F0 F1 := by
  obtain ⟨h1, h2, h3, h4, h5, h6, h7⟩ := h
  exact ⟨h1.trans (gr_mk (W := WL) hb g hC t u) (fun _ q => q), kp_trans h2 k h4 l15, kb_step h3 hs h5 l14, by omega, by omega, c15, c14⟩
theorem lc_gr {m m' : Int} {F0 F F1 : Nat → sy_d} {W : List Nat} (h : lc m F0 F) (hG : gr W F F1) (hC : ∀ x ∈ W, x ∈ WL) (k : kp F F1) (hs : ∀ b : Nat, (b : Int) ≠ (sy_i F 14).toInt → s5 F F1 b) (l15 : (sy_i F 15).toInt ≤ (sy_i F1 15).toInt) (l14 : (sy_i F 14).toInt ≤ (sy_i F1 14).toInt) (c15 : (sy_i F1 15).toInt ≤ 420 * (sy_i F0 12).toInt + (sy_i F1 4).toInt + 1) (c14 : (sy_i F1 14).toInt ≤ 130 * (sy_i F0 12).toInt + m') : lc m' F0 F1 := lc_step h hG.b hG.f hC hG.t hG.u k hs l15 l14 c15 c14
theorem li_step {k k' : Int} {F0 F F1 : Nat → sy_d} (h : li k F0 F) (e5 : (sy_i F1 5).toInt = 0) (c : (sy_i F1 15).toInt ≤ 420 * (sy_i F0 12).toInt + (sy_i F1 4).toInt) (d : 4 * ((sy_i F1 14).toInt - 130 * (sy_i F0 12).toInt) + k' ≤ (sy_i F1 4).toInt) (e14 : (sy_i F1 14).toInt = (sy_i F 14).toInt) (hs : ∀ b : Nat, (b : Int) ≠ (sy_i F 14).toInt → s5 F F1 b) (hk : kp F F1) (l15 : (sy_i F 15).toInt ≤ (sy_i F1 15).toInt) : li k' F0 F1 :=
  ⟨e5, c, d, fun b h1 h2 => rp_br_keep (h.2.2.2 b h1 (by omega)) (hs b (by omega)) (fun i _ hi => hk i (Or.inl hi)) l15⟩
theorem rs_step {sd : Nat} {x y : Int} {F F1 : Nat → sy_d} (h : rs sd (sy_i F 15).toInt (sy_ai F 49) (sy_ai F 50) x y) (hk : kp F F1) (l15 : (sy_i F 15).toInt ≤ (sy_i F1 15).toInt) : rs sd (sy_i F1 15).toInt (sy_ai F1 49) (sy_ai F1 50) x y := rs_keep h (fun i _ hi => hk i (Or.inl hi)) l15
noncomputable def tl_R (k : Int) (F0 F' : Nat → sy_d) : Prop := gr WLL F0 F' ∧ kp F0 F' ∧ kb F0 F' ∧ (sy_i F0 15).toInt ≤ (sy_i F' 15).toInt ∧ (sy_i F0 14).toInt ≤ (sy_i F' 14).toInt ∧ (sy_i F' 15).toInt ≤ 420 * (sy_i F0 12).toInt + (sy_i F' 4).toInt + 1 ∧ (sy_i F' 14).toInt ≤ 130 * (sy_i F0 12).toInt + 101 ∧
  (∀ i : Nat, (i : Int) ≠ 6 * (sy_i F0 12).toInt + k → (sy_ai F' 42).getD i 0 = (sy_ai F0 42).getD i 0 ∧ (sy_ai F' 43).getD i 0 = (sy_ai F0 43).getD i 0) ∧
  ((sy_i F' 6).toInt = 0 → li 0 F0 F' ∧ (sy_i F0 4).toInt + 1 ≤ (sy_i F' 4).toInt ∧ ((sy_ai F' 42).getD (6 * (sy_i F0 12).toInt + k).toNat 0).toInt = (sy_i F0 14).toInt ∧ ((sy_ai F' 43).getD (6 * (sy_i F0 12).toInt + k).toNat 0).toInt = (sy_i F' 14).toInt)
noncomputable def tl_Q (k : Int) (F0 : Nat → sy_d) (X1 X2 : List jm_c) (v : Option Value) (G : jm_h) : Prop := ∃ F' : Nat → sy_d, v = none ∧ G = sy_dh F' X1 X2 (iv_H 4) ∧ tl_R k F0 F'
theorem lc_end {k : Int} {F0 F1 : Nat → sy_d} (h : lc 101 F0 F1) (hf : (sy_i F1 6).toInt ≠ 0) : tl_R k F0 F1 := by
  obtain ⟨h1, h2, h3, h4, h5, h6, h7⟩ := h
  have a42 := h1.a (k := 42) (by decide) (by decide)
  have a43 := h1.a (k := 43) (by decide) (by decide)
  exact ⟨h1.mono (by decide), h2, h3, h4, h5, h6, h7, fun i _ => by rw [a42, a43]; exact ⟨rfl, rfl⟩, fun z => absurd z hf⟩
section TL
variable {Ls : Nat} {xs : Nat → Int32} (X1 X2 : List jm_c) (F0 : Nat → sy_d) (k : Int)
/-- a term behind a test or alone: the branch is whole -/
theorem tl_term {m j j' : Int} {F F3 : Nat → sy_d} (hF0 : 420 * (sy_i F0 12).toInt ≤ (sy_i F0 15).toInt) (hx : lc m F0 F) (hi : (sy_i F 6).toInt = 0 → li j F0 F ∧ ((sy_ai F 44).getD (sy_i F 14).toInt.toNat 0 = 1 → rs (sy_i F0 12).toInt.toNat (sy_i F 15).toInt (sy_ai F 49) (sy_ai F 50) ((sy_ai F 45).getD (sy_i F 14).toInt.toNat 0).toInt ((sy_ai F 46).getD (sy_i F 14).toInt.toNat 0).toInt ∧ rs (sy_i F0 12).toInt.toNat (sy_i F 15).toInt (sy_ai F 49) (sy_ai F 50) ((sy_ai F 46).getD (sy_i F 14).toInt.toNat 0).toInt (sy_i F 15).toInt))
    (hR : tr_R F F3) (hj : j' + 3 ≤ j) : lc (m + 1) F0 F3 ∧ ((sy_i F3 6).toInt = 0 → li j' F0 F3 ∧ (sy_i F 4).toInt + 1 ≤ (sy_i F3 4).toInt) := by
  obtain ⟨x1, x2, x3, x4, x5, x6, x7⟩ := id hx
  obtain ⟨r1, r2, r3, r4, r5, r6, r7⟩ := hR
  have i12 := x1.i (k := 12) (by decide) (by decide)
  have c12 := nz_bx x1.b (k := 12) (lo := 0) (hi := 1) rfl
  have c14 := nz_bx x1.b (k := 14) (lo := 0) (hi := 260) rfl
  have d4 := nz_bx r1.b (k := 4) (lo := 0) (hi := 400) rfl
  refine ⟨lc_gr hx r1 (by decide) r2 r3 r5 (by omega) (by omega) (by omega), fun z => ?_⟩
  obtain ⟨y1, y2, y3, y4, y5, y6⟩ := r7 z
  obtain ⟨w, v⟩ := hi (r1.u z)
  obtain ⟨w1, w2, w3, w4⟩ := id w
  refine ⟨⟨y2, by omega, by omega, fun b h1 h2 => ?_⟩, y1⟩
  by_cases hb : (b : Int) = (sy_i F 14).toInt
  · have eb : b = (sy_i F 14).toInt.toNat := by omega
    have a44 := r1.a (k := 44) (by decide) (by decide)
    have a45 := r1.a (k := 45) (by decide) (by decide)
    have a46 := r1.a (k := 46) (by decide) (by decide)
    subst eb
    refine ⟨fun q => ?_, ?_⟩
    · rw [a44] at q
      obtain ⟨v1, v2⟩ := v q
      rw [rp_sg_rs, rp_sg_rs, a45, a46, y4]
      exact ⟨rs_step v1 r2 r5, rs_step v2 r2 r5⟩
    · rw [rp_sg_rs, y4, y5]
      exact ⟨by omega, by omega, by omega, y6⟩
  · exact rp_br_keep (w4 b h1 (by omega)) (r3 b hb) (fun i _ hi => r2 i (Or.inl hi)) r5
/-- the loop's head, with n ifs left -/
noncomputable def t12 (Ls : Nat) (xs : Nat → Int32) (n : Nat) : Prop := ∀ F : Nat → sy_d, lc 100 F0 F → ((sy_i F 6).toInt = 0 → li 2 F0 F) → (sy_i F 69).toInt = k → (sy_i F 70).toInt = (sy_i F0 14).toInt → 0 ≤ (sy_i F 71).toInt → (sy_i F 71).toInt ≤ 4 → 4 - (sy_i F 71).toInt < n →
    hd_W Ls xs 6 jm_M160 (tl_Q k F0 X1 X2) (12, sy_dL F [some (.inl (.ref 1000)), some (.inr (.inl 69)), some (.inr (.inl 70)), some (.inr (.inl 71))], sy_dS F [], sy_dh F X1 X2 (iv_H 4), 0, 0)
end TL
theorem lc_src {m : Int} {F F' G : Nat → sy_d} (h : tl_R m G F') (e : ∀ q, q < 69 → G q = F q) : tl_R m F F' := by
  obtain ⟨h1, h2, h3, h4, h5, h6, h7, h8, h9⟩ := h
  have i4 := nz_fi (e 4 (by decide))
  have i12 := nz_fi (e 12 (by decide))
  have i14 := nz_fi (e 14 (by decide))
  have i15 := nz_fi (e 15 (by decide))
  have a42 := nz_fa (e 42 (by decide))
  have a43 := nz_fa (e 43 (by decide))
  have a44 := nz_fa (e 44 (by decide))
  have a45 := nz_fa (e 45 (by decide))
  have a46 := nz_fa (e 46 (by decide))
  have a47 := nz_fa (e 47 (by decide))
  have a48 := nz_fa (e 48 (by decide))
  have a49 := nz_fa (e 49 (by decide))
  have a50 := nz_fa (e 50 (by decide))
  refine ⟨h1.src e, ?_, ?_, by rw [← i15]; exact h4, by rw [← i14]; exact h5, by rw [← i12]; exact h6, by rw [← i12]; exact h7, by rw [← i12, ← a42, ← a43]; exact h8, ?_⟩
  · unfold kp
    rw [← i15, ← a49, ← a50]
    exact h2
  · unfold kb s5
    rw [← i14, ← a44, ← a45, ← a46, ← a47, ← a48]
    exact h3
  · unfold li
    rw [← i4, ← i12, ← i14]
    exact h9
