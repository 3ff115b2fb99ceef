/-! ===== one thing is told ===== -/
noncomputable def WO : List Nat := [4, 5, 6, 7, 8, 9, 13, 14, 15, 16, 30, 31, 32, 33, 34, 35, 36, 37, 38, 39, 40, 41, 42, 43, 44, 45, 46, 47, 48, 49, 50, 51]
noncomputable def pj (F : Nat → sy_d) : Prop := rp_S F (sy_i F 12).toInt.toNat (sy_i F 14).toInt (sy_i F 15).toInt ∧ 130 * (sy_i F 12).toInt ≤ (sy_i F 14).toInt ∧ 420 * (sy_i F 12).toInt ≤ (sy_i F 15).toInt ∧ 4 * ((sy_i F 14).toInt - 130 * (sy_i F 12).toInt) ≤ (sy_i F 4).toInt ∧ (sy_i F 15).toInt ≤ 420 * (sy_i F 12).toInt + (sy_i F 4).toInt ∧ (sy_i F 13).toInt = ((sy_ai F 31).getD (sy_i F 12).toInt.toNat 0).toInt + ((sy_ai F 35).getD (sy_i F 12).toInt.toNat 0).toInt ∧ (sy_i F 5).toInt = 0
noncomputable def pk (F : Nat → sy_d) : Prop := iv_in F iv_B4 ∧ (sy_i F 12).toInt = 1 - (sy_i F 11).toInt ∧ jm_rpn F ∧ ((sy_i F 6).toInt = 0 → pj F)
theorem pj_of {F F1 : Nat → sy_d} {W : List Nat} (h : pj F) (hG : gr W F F1) (hW : ∀ q ∈ ([5, 12, 14, 15, 42, 43, 44, 45, 46, 47, 48, 49, 50] : List Nat), q ∉ W) (hn : (sy_i F1 13).toInt = ((sy_ai F1 31).getD (sy_i F 12).toInt.toNat 0).toInt + ((sy_ai F1 35).getD (sy_i F 12).toInt.toNat 0).toInt) : pj F1 := by
  obtain ⟨h1, h2, h3, h4, h5, h6, h7⟩ := h
  have i5 := hG.i (k := 5) (by decide) (hW 5 (by decide))
  have i12 := hG.i (k := 12) (by decide) (hW 12 (by decide))
  have i14 := hG.i (k := 14) (by decide) (hW 14 (by decide))
  have i15 := hG.i (k := 15) (by decide) (hW 15 (by decide))
  have a42 := hG.a (k := 42) (by decide) (hW 42 (by decide))
  have a43 := hG.a (k := 43) (by decide) (hW 43 (by decide))
  have a44 := hG.a (k := 44) (by decide) (hW 44 (by decide))
  have a45 := hG.a (k := 45) (by decide) (hW 45 (by decide))
  have a46 := hG.a (k := 46) (by decide) (hW 46 (by decide))
  have a47 := hG.a (k := 47) (by decide) (hW 47 (by decide))
  have a48 := hG.a (k := 48) (by decide) (hW 48 (by decide))
  have a49 := hG.a (k := 49) (by decide) (hW 49 (by decide))
  have a50 := hG.a (k := 50) (by decide) (hW 50 (by decide))
  have t := hG.t
  refine ⟨?_, by omega, by omega, by omega, by omega, by rw [i12]; exact hn, by omega⟩
  rw [i12]
  exact rp_S_keep h1 (fun k _ => by rw [a42, a43]; exact ⟨rfl, rfl⟩) (fun b _ _ => s5_same a44 a45 a46 a47 a48 b) (fun i _ _ => by rw [a49, a50]; exact ⟨rfl, rfl⟩) (by omega) (by omega)
theorem pk_of {F F1 : Nat → sy_d} {W : List Nat} (h : pk F) (hG : gr W F F1) (hW : ∀ q ∈ ([11, 12, 42, 43, 44, 45, 46, 47, 48, 49, 50] : List Nat), q ∉ W) (hj : (sy_i F1 6).toInt = 0 → pj F1) : pk F1 := by
  obtain ⟨h1, h2, h3, h4⟩ := h
  have i11 := hG.i (k := 11) (by decide) (hW 11 (by decide))
  have i12 := hG.i (k := 12) (by decide) (hW 12 (by decide))
  refine ⟨hG.b, by omega, jm_rpn_eq (fun q hq => hG.f q (by revert q; decide) (hW q ?_)) h3, hj⟩
  revert q
  decide
noncomputable def to_Q (F : Nat → sy_d) (X1 X2 : List jm_c) (v : Option Value) (G : jm_h) : Prop := ∃ F' : Nat → sy_d, v = none ∧ G = sy_dh F' X1 X2 (iv_H 4) ∧ gr WO F F' ∧ pk F' ∧ ((sy_i F' 6).toInt = 0 → (sy_i F 4).toInt + 1 ≤ (sy_i F' 4).toInt)
theorem pk_law {k : Int} {F F' : Nat → sy_d} (hk : 0 ≤ k ∧ k ≤ 5) (hB : iv_in F iv_B4) (h12 : (sy_i F 12).toInt = 1 - (sy_i F 11).toInt) (hr : jm_rpn F) (hS : rp_S F (sy_i F 12).toInt.toNat (sy_i F 14).toInt (sy_i F 15).toInt) (h130 : 130 * (sy_i F 12).toInt ≤ (sy_i F 14).toInt) (h420 : 420 * (sy_i F 12).toInt ≤ (sy_i F 15).toInt) (hn : (sy_i F 13).toInt = ((sy_ai F 31).getD (sy_i F 12).toInt.toNat 0).toInt + ((sy_ai F 35).getD (sy_i F 12).toInt.toNat 0).toInt) (hR : tl_R k F F') : pk F' := by
  obtain ⟨r1, r2, r3, r4, r5, r6, r7, r8, r9⟩ := hR
  have i11 := r1.i (k := 11) (by decide) (by decide)
  have i12 := r1.i (k := 12) (by decide) (by decide)
  have i13 := r1.i (k := 13) (by decide) (by decide)
  have a31 := r1.a (k := 31) (by decide) (by decide)
  have a35 := r1.a (k := 35) (by decide) (by decide)
  have c11 := nz_bx hB (k := 11) (lo := 0) (hi := 1) rfl
  have d4 := nz_bx r1.b (k := 4) (lo := 0) (hi := 400) rfl
  have c14 := nz_bx hB (k := 14) (lo := 0) (hi := 260) rfl
  refine ⟨r1.b, by omega, ?_, fun z => ?_⟩
  · have e1 : (sy_i F' 11).toNatClampNeg = (sy_i F 11).toInt.toNat := by
      show (sy_i F' 11).toInt.toNat = _
      rw [i11]
    have hr' : rp_S F (sy_i F 11).toInt.toNat (130 * (sy_i F 11).toInt.toNat + 130) (420 * (sy_i F 11).toInt.toNat + 420) := hr
    unfold jm_rpn
    rw [e1]
    refine rp_S_keep hr' (fun k' hk' => r8 _ (by omega)) (fun b q1 q2 => r3 b (by omega)) (fun i q1 q2 => r2 i (by omega)) (Int.le_refl _) (Int.le_refl _)
  · obtain ⟨⟨l1, l2, l3, l4⟩, l5, l6, l7⟩ := r9 z
    refine ⟨?_, by omega, by omega, by omega, by omega, by rw [i12, i13, a31, a35]; exact hn, l1⟩
    rw [i12]
    intro k' b hk' q1 q2
    by_cases e : (6 * (sy_i F 12).toInt.toNat + k') = (6 * (sy_i F 12).toInt + k).toNat
    · rw [e, l6] at q1
      rw [e, l7] at q2
      exact ⟨⟨by omega, q2⟩, l4 b q1 q2⟩
    · obtain ⟨e1, e2⟩ := r8 (6 * (sy_i F 12).toInt.toNat + k') (by omega)
      rw [e1] at q1
      rw [e2] at q2
      obtain ⟨v1, v2⟩ := hS k' b hk' q1 q2
      exact ⟨⟨v1.1, by omega⟩, rp_br_keep v2 (r3 b (by omega)) (fun i _ hi => r2 i (Or.inl hi)) r4⟩
theorem tl_Rdst {k : Int} {F F' F2 : Nat → sy_d} (h : tl_R k F F') (e : ∀ q, q < 69 → F2 q = F' q) : tl_R k F F2 := by
  obtain ⟨h1, h2, h3, h4, h5, h6, h7, h8, h9⟩ := h
  have i4 := nz_fi (e 4 (by decide))
  have i5 := nz_fi (e 5 (by decide))
  have i6 := nz_fi (e 6 (by decide))
  have i14 := nz_fi (e 14 (by decide))
  have i15 := nz_fi (e 15 (by decide))
  have a42 := nz_fa (e 42 (by decide))
  have a43 := nz_fa (e 43 (by decide))
  have a44 := nz_fa (e 44 (by decide))
  have a45 := nz_fa (e 45 (by decide))
  have a46 := nz_fa (e 46 (by decide))
  have a47 := nz_fa (e 47 (by decide))
  have a48 := nz_fa (e 48 (by decide))
  have a49 := nz_fa (e 49 (by decide))
  have a50 := nz_fa (e 50 (by decide))
  refine ⟨h1.dst e, ?_, ?_, by rw [i15]; exact h4, by rw [i14]; exact h5, by rw [i15, i4]; exact h6, by rw [i14]; exact h7, by rw [a42, a43]; exact h8, ?_⟩
  · unfold kp
    rw [i15, a49, a50]
    exact h2
  · unfold kb s5
    rw [i14, a44, a45, a46, a47, a48]
    exact h3
  · unfold li rp_br
    rw [i4, i5, i6, i14, i15, a42, a43, a44, a45, a46, a47, a48, a49, a50]
    exact h9
section TO
variable {Ls : Nat} {xs : Nat → Int32} (X1 X2 : List jm_c) (F : Nat → sy_d)
theorem to_fault (hP : pk F) {F1 : Nat → sy_d} {C : List Nat} (hb : iv_in F1 iv_B4) (g : ∀ j, j < 69 → j ∉ C → F1 j = F j) (hC : ∀ x ∈ C, x ∈ W1) (t : (sy_i F 4).toInt ≤ (sy_i F1 4).toInt) (hf : (sy_i F1 6).toInt ≠ 0) : to_Q F X1 X2 none (sy_dh F1 X1 X2 (iv_H 4)) := by
  have hG : gr W1 F F1 := gr_mk hb g hC t (fun z => absurd z hf)
  exact ⟨F1, rfl, rfl, hG.mono (by decide), pk_of hP hG (by decide) (fun z => absurd z hf), fun z => absurd z hf⟩
theorem to_91 (hP : pk F) (hf : (sy_i F 6).toInt = 0) (F1 : Nat → sy_d) (hG : gr W1 F F1) (h : ((sy_ai F 31).getD (sy_i F 12).toInt.toNat 0).toInt ≠ 7) (h4 : (sy_i F1 4).toInt = (sy_i F 4).toInt + 1) :
    hd_W Ls xs 7 jm_M154 (to_Q F X1 X2) (91, sy_dL F1 [some (.inl (.ref 1000)), none], sy_dS F1 [.inl (.ref 1000)], sy_dh F1 X1 X2 (iv_H 4), 0, 0) := by
  obtain ⟨j1, j2, j3, j4, j5, j6, j7⟩ := hP.2.2.2 hf
  have b31 := nz_ba hP.1 (k := 31) (lo := 0) (hi := 7) rfl (sy_i F 12).toInt.toNat
  have b35 := nz_ba hP.1 (k := 35) (lo := 0) (hi := 4) rfl (sy_i F 12).toInt.toNat
  have i12 := hG.i (k := 12) (by decide) (by decide)
  have i13 := hG.i (k := 13) (by decide) (by decide)
  have a31 := hG.a (k := 31) (by decide) (by decide)
  have a35 := hG.a (k := 35) (by decide) (by decide)
  refine hd_calV (R := fun F' => gr tf_W F1 F' ∧ ((sy_i F' 6).toInt = 0 → (sy_i F' 13).toInt = (sy_i F1 13).toInt + 1 ∧ ((sy_ai F' 31).getD (sy_i F1 12).toInt.toNat 0).toInt = ((sy_ai F1 31).getD (sy_i F1 12).toInt.toNat 0).toInt + 1)) (nh := 69) (nv := 69) (s := 4) (s1 := 4) (d1 := 5) (M1 := jm_M158) (As := [.inl (.ref 1000)]) (rest := []) jm_ok154 rfl rfl (by decide) (by decide +kernel) (tf_T F1 X1 X2 hG.b (by rw [a31, i12]; omega) (by omega)) (fun F3 F' hR p1 _ => ?_)
  have g3 := hR.1.dst p1
  have k6 := nz_fi (p1 6 (by decide))
  have k13 := nz_fi (p1 13 (by decide))
  have k31 := nz_fa (p1 31 (by decide))
  have k35 := g3.a (k := 35) (by decide) (by decide)
  have hR2 := hR.2
  rw [← k6, ← k13, ← k31] at hR2
  have hG3 : gr tf_W F F3 := (hG.mono (by decide)).trans g3 (by decide)
  have t3 := g3.t
  refine to_94 (by decide) F3 X1 X2 g3.b ?_
  intro F4 hb g e4 e5 e6 e11 e12 e13 e14 e15 a31' a35' a39 a40 a41
  have hG4 : gr tf_W F F4 := hG3.trans (gr_mk (W := tf_W) hb g (by decide) (by omega) (by omega)) (fun _ q => q)
  refine ⟨F4, rfl, rfl, hG4.mono (by decide), pk_of hP hG4 (by decide) (fun z => ?_), fun z => by omega⟩
  obtain ⟨y1, y2⟩ := hR2 (by omega)
  rw [a31, i12] at y2
  refine pj_of (hP.2.2.2 hf) hG4 (by decide) ?_
  rw [a31', a35', k35, a35, y2]
  omega
theorem to_119 (hP : pk F) (hf : (sy_i F 6).toInt = 0) (F1 : Nat → sy_d) (hG : gr W1 F F1) (h : ((sy_ai F 35).getD (sy_i F 12).toInt.toNat 0).toInt ≠ 4) (h4 : (sy_i F1 4).toInt = (sy_i F 4).toInt + 1) :
    hd_W Ls xs 7 jm_M154 (to_Q F X1 X2) (119, sy_dL F1 [some (.inl (.ref 1000)), none], sy_dS F1 [.inl (.ref 1000)], sy_dh F1 X1 X2 (iv_H 4), 0, 0) := by
  obtain ⟨j1, j2, j3, j4, j5, j6, j7⟩ := hP.2.2.2 hf
  have b31 := nz_ba hP.1 (k := 31) (lo := 0) (hi := 7) rfl (sy_i F 12).toInt.toNat
  have b35 := nz_ba hP.1 (k := 35) (lo := 0) (hi := 4) rfl (sy_i F 12).toInt.toNat
  have i12 := hG.i (k := 12) (by decide) (by decide)
  have i13 := hG.i (k := 13) (by decide) (by decide)
  have a31 := hG.a (k := 31) (by decide) (by decide)
  have a35 := hG.a (k := 35) (by decide) (by decide)
  refine hd_calV (R := fun F' => gr tb_W F1 F' ∧ ((sy_i F' 6).toInt = 0 → (sy_i F' 13).toInt = (sy_i F1 13).toInt + 1 ∧ ((sy_ai F' 35).getD (sy_i F1 12).toInt.toNat 0).toInt = ((sy_ai F1 35).getD (sy_i F1 12).toInt.toNat 0).toInt + 1)) (nh := 69) (nv := 69) (s := 4) (s1 := 4) (d1 := 5) (M1 := jm_M159) (As := [.inl (.ref 1000)]) (rest := []) jm_ok154 rfl rfl (by decide) (by decide +kernel) (tb_T F1 X1 X2 hG.b (by rw [a35, i12]; omega) (by omega)) (fun F3 F' hR p1 _ => ?_)
  have g3 := hR.1.dst p1
  have k6 := nz_fi (p1 6 (by decide))
  have k13 := nz_fi (p1 13 (by decide))
  have k35 := nz_fa (p1 35 (by decide))
  have k31 := g3.a (k := 31) (by decide) (by decide)
  have hR2 := hR.2
  rw [← k6, ← k13, ← k35] at hR2
  have hG3 : gr tb_W F F3 := (hG.mono (by decide)).trans g3 (by decide)
  have t3 := g3.t
  refine to_122 (by decide) F3 X1 X2 g3.b ?_
  intro F4 hb g e4 e5 e6 e11 e12 e13 e14 e15 a31' a35' a39 a40 a41
  have hG4 : gr tb_W F F4 := hG3.trans (gr_mk (W := tb_W) hb g (by decide) (by omega) (by omega)) (fun _ q => q)
  refine ⟨F4, rfl, rfl, hG4.mono (by decide), pk_of hP hG4 (by decide) (fun z => ?_), fun z => by omega⟩
  obtain ⟨y1, y2⟩ := hR2 (by omega)
  rw [a35, i12] at y2
  refine pj_of (hP.2.2.2 hf) hG4 (by decide) ?_
  rw [a31', a35', k31, a31, y2]
  omega
theorem to_233 (hP : pk F) (hf : (sy_i F 6).toInt = 0) (F1 : Nat → sy_d) (hG : gr W1 F F1) (hk : 0 ≤ (sy_i F1 69).toInt ∧ (sy_i F1 69).toInt ≤ 5) (h4 : (sy_i F1 6).toInt = 0 → (sy_i F1 4).toInt = (sy_i F 4).toInt + 1) :
    hd_W Ls xs 7 jm_M154 (to_Q F X1 X2) (233, sy_dL F1 [some (.inl (.ref 1000)), none], sy_dS F1 [.inr (.inl 69), .inl (.ref 1000)], sy_dh F1 X1 X2 (iv_H 4), 0, 0) := by
  obtain ⟨j1, j2, j3, j4, j5, j6, j7⟩ := hP.2.2.2 hf
  have c4 := nz_bx hP.1 (k := 4) (lo := 0) (hi := 400) rfl
  have i5 := hG.i (k := 5) (by decide) (by decide)
  have i11 := hG.i (k := 11) (by decide) (by decide)
  have i12 := hG.i (k := 12) (by decide) (by decide)
  have i13 := hG.i (k := 13) (by decide) (by decide)
  have i14 := hG.i (k := 14) (by decide) (by decide)
  have i15 := hG.i (k := 15) (by decide) (by decide)
  have a31 := hG.a (k := 31) (by decide) (by decide)
  have a35 := hG.a (k := 35) (by decide) (by decide)
  have t1 := hG.t
  have hP1 := hP.2.1
  have hr : jm_rpn F1 := jm_rpn_eq (fun q hq => hG.f q (by revert q; decide) (by revert q; decide)) hP.2.2.1
  have hS : rp_S F1 (sy_i F1 12).toInt.toNat (sy_i F1 14).toInt (sy_i F1 15).toInt := by
    rw [i12, i14, i15]
    have a42 := hG.a (k := 42) (by decide) (by decide)
    have a43 := hG.a (k := 43) (by decide) (by decide)
    have a44 := hG.a (k := 44) (by decide) (by decide)
    have a45 := hG.a (k := 45) (by decide) (by decide)
    have a46 := hG.a (k := 46) (by decide) (by decide)
    have a47 := hG.a (k := 47) (by decide) (by decide)
    have a48 := hG.a (k := 48) (by decide) (by decide)
    have a49 := hG.a (k := 49) (by decide) (by decide)
    have a50 := hG.a (k := 50) (by decide) (by decide)
    exact rp_S_keep j1 (fun k _ => by rw [a42, a43]; exact ⟨rfl, rfl⟩) (fun b _ _ => s5_same a44 a45 a46 a47 a48 b) (fun i _ _ => by rw [a49, a50]; exact ⟨rfl, rfl⟩) (Int.le_refl _) (Int.le_refl _)
  refine hd_calV (R := tl_R (sy_i F1 69).toInt F1) (nh := 69) (nv := 70) (s := 4) (s1 := 4) (d1 := 6) (M1 := jm_M160) (As := [.inl (.ref 1000), .inr (.inl 69)]) (rest := []) jm_ok154 rfl rfl (by decide) (by decide +kernel) (tl_T X1 X2 F1 (sy_i F1 69) hG.b hk (by omega) (fun z => by have := h4 z; omega) (by omega) (by omega)) (fun F3 F' hR p1 _ => ?_)
  have hR3 := tl_Rdst hR p1
  have hP3 := pk_law hk hG.b (by omega) hr hS (by omega) (by omega) (by rw [i12, i13, a31, a35]; exact j6) hR3
  have hG3 : gr WO F F3 := (hG.mono (by decide)).trans hR3.1 (by decide)
  have t3 := hR3.1.t
  have u3 := hR3.1.u
  refine to_236 (by decide) F3 X1 X2 hG3.b ?_
  intro F4 hb g e4 e5 e6 e11 e12 e13 e14 e15 a31' a35' a39 a40 a41
  have hG4 : gr [] F3 F4 := gr_mk hb g (by decide) (by omega) (by omega)
  have y6 := hP3.2.2.2
  refine ⟨F4, rfl, rfl, hG3.trans hG4 (by decide), pk_of hP3 hG4 (by decide) (fun z => ?_), fun z => ?_⟩
  · obtain ⟨m1, m2, m3, m4, m5, m6, m7⟩ := y6 (by omega)
    exact pj_of (y6 (by omega)) hG4 (by decide) (by rw [e13, a31', a35']; exact m6)
  · have := h4 (u3 (by omega))
    omega
theorem to_137 (hP : pk F) (hf : (sy_i F 6).toInt = 0) (F1 : Nat → sy_d) (hG : gr W1 F F1) (hs : (sy_i F1 69).toInt = (sy_i F 12).toInt) :
    hd_W Ls xs 7 jm_M154 (to_Q F X1 X2) (137, sy_dL F1 [some (.inl (.ref 1000)), none], sy_dS F1 [.inl (.int 99), .inl (.int 0), .inl (.ref 1000), .inr (.inl 69), .inl (.ref 1017)], sy_dh F1 X1 X2 (iv_H 4), 0, 0) := by
  have hJ := hP.2.2.2 hf
  obtain ⟨j1, j2, j3, j4, j5, j6, j7⟩ := id hJ
  have c12 := nz_bx hP.1 (k := 12) (lo := 0) (hi := 1) rfl
  refine hd_calI (R := fun _ F' => gr W1 F1 F' ∧ ((sy_i F' 6).toInt = 0 → (sy_i F1 4).toInt + 1 ≤ (sy_i F' 4).toInt)) (nh := 69) (nv := 70) (s := 4) (s1 := 4) (d1 := 4) (M1 := jm_M153) (As := [.inl (.ref 1000), .inl (.int 0), .inl (.int 99)]) (rest := [.inr (.inl 69), .inl (.ref 1017)]) jm_ok154 rfl rfl (by decide) (by decide +kernel) (ti_T F1 X1 X2 hG.b _ _) (fun F3 F' x hR p1 p2 _ => ?_)
  have g3 := hR.1.dst p1
  have k4 := nz_fi (p1 4 (by decide))
  have k6 := nz_fi (p1 6 (by decide))
  have k69 := nz_fi (p2 69 (by decide) (by decide))
  have hR2 := hR.2
  have t1 := hG.t
  have hG3 : gr W1 F F3 := hG.trans g3 (by decide)
  have i13 := hG3.i (k := 13) (by decide) (by decide)
  have b31 := hG3.a (k := 31) (by decide) (by decide)
  have b35 := hG3.a (k := 35) (by decide) (by decide)
  refine to_140 (by decide) F3 X1 X2 g3.b (by omega) ?_
  intro F4 hb g e4 e5 e6 e11 e12 e13 e14 e15 a31 a35 a39 a40 a41
  have hG4 : gr [4, 6, 7, 8, 9, 39] F F4 := (hG3.mono (by decide)).trans (gr_mk (W := [39]) hb g (by decide) (by omega) (by omega)) (by decide)
  refine ⟨F4, rfl, rfl, hG4.mono (by decide), pk_of hP hG4 (by decide) (fun z => pj_of hJ hG4 (by decide) (by rw [a31, a35, b31, b35, e13, i13]; exact j6)), fun z => ?_⟩
  have := hR2 (by omega)
  omega
theorem to_156 (hP : pk F) (hf : (sy_i F 6).toInt = 0) (F1 : Nat → sy_d) (hG : gr W1 F F1) (hs : (sy_i F1 69).toInt = (sy_i F 12).toInt) :
    hd_W Ls xs 7 jm_M154 (to_Q F X1 X2) (156, sy_dL F1 [some (.inl (.ref 1000)), none], sy_dS F1 [.inl (.int 99), .inl (.int 0), .inl (.ref 1000), .inr (.inl 69), .inl (.ref 1018)], sy_dh F1 X1 X2 (iv_H 4), 0, 0) := by
  have hJ := hP.2.2.2 hf
  obtain ⟨j1, j2, j3, j4, j5, j6, j7⟩ := id hJ
  have c12 := nz_bx hP.1 (k := 12) (lo := 0) (hi := 1) rfl
  refine hd_calI (R := fun _ F' => gr W1 F1 F' ∧ ((sy_i F' 6).toInt = 0 → (sy_i F1 4).toInt + 1 ≤ (sy_i F' 4).toInt)) (nh := 69) (nv := 70) (s := 4) (s1 := 4) (d1 := 4) (M1 := jm_M153) (As := [.inl (.ref 1000), .inl (.int 0), .inl (.int 99)]) (rest := [.inr (.inl 69), .inl (.ref 1018)]) jm_ok154 rfl rfl (by decide) (by decide +kernel) (ti_T F1 X1 X2 hG.b _ _) (fun F3 F' x hR p1 p2 _ => ?_)
  have g3 := hR.1.dst p1
  have k4 := nz_fi (p1 4 (by decide))
  have k6 := nz_fi (p1 6 (by decide))
  have k69 := nz_fi (p2 69 (by decide) (by decide))
  have hR2 := hR.2
  have t1 := hG.t
  have hG3 : gr W1 F F3 := hG.trans g3 (by decide)
  have i13 := hG3.i (k := 13) (by decide) (by decide)
  have b31 := hG3.a (k := 31) (by decide) (by decide)
  have b35 := hG3.a (k := 35) (by decide) (by decide)
  refine to_159 (by decide) F3 X1 X2 g3.b (by omega) ?_
  intro F4 hb g e4 e5 e6 e11 e12 e13 e14 e15 a31 a35 a39 a40 a41
  have hG4 : gr [4, 6, 7, 8, 9, 40] F F4 := (hG3.mono (by decide)).trans (gr_mk (W := [40]) hb g (by decide) (by omega) (by omega)) (by decide)
  refine ⟨F4, rfl, rfl, hG4.mono (by decide), pk_of hP hG4 (by decide) (fun z => pj_of hJ hG4 (by decide) (by rw [a31, a35, b31, b35, e13, i13]; exact j6)), fun z => ?_⟩
  have := hR2 (by omega)
  omega
theorem to_176 (hP : pk F) (hf : (sy_i F 6).toInt = 0) (F1 : Nat → sy_d) (hG : gr W1 F F1) (hs : (sy_i F1 69).toInt = (sy_i F 12).toInt) :
    hd_W Ls xs 7 jm_M154 (to_Q F X1 X2) (176, sy_dL F1 [some (.inl (.ref 1000)), none], sy_dS F1 [.inl (.int 9999), .inl (.int 0), .inl (.ref 1000), .inr (.inl 69), .inl (.ref 1019)], sy_dh F1 X1 X2 (iv_H 4), 0, 0) := by
  have hJ := hP.2.2.2 hf
  obtain ⟨j1, j2, j3, j4, j5, j6, j7⟩ := id hJ
  have c12 := nz_bx hP.1 (k := 12) (lo := 0) (hi := 1) rfl
  refine hd_calI (R := fun _ F' => gr W1 F1 F' ∧ ((sy_i F' 6).toInt = 0 → (sy_i F1 4).toInt + 1 ≤ (sy_i F' 4).toInt)) (nh := 69) (nv := 70) (s := 4) (s1 := 4) (d1 := 4) (M1 := jm_M153) (As := [.inl (.ref 1000), .inl (.int 0), .inl (.int 9999)]) (rest := [.inr (.inl 69), .inl (.ref 1019)]) jm_ok154 rfl rfl (by decide) (by decide +kernel) (ti_T F1 X1 X2 hG.b _ _) (fun F3 F' x hR p1 p2 _ => ?_)
  have g3 := hR.1.dst p1
  have k4 := nz_fi (p1 4 (by decide))
  have k6 := nz_fi (p1 6 (by decide))
  have k69 := nz_fi (p2 69 (by decide) (by decide))
  have hR2 := hR.2
  have t1 := hG.t
  have hG3 : gr W1 F F3 := hG.trans g3 (by decide)
  have i13 := hG3.i (k := 13) (by decide) (by decide)
  have b31 := hG3.a (k := 31) (by decide) (by decide)
  have b35 := hG3.a (k := 35) (by decide) (by decide)
  refine to_179 (by decide) F3 X1 X2 g3.b (by omega) ?_
  intro F4 hb g e4 e5 e6 e11 e12 e13 e14 e15 a31 a35 a39 a40 a41
  have hG4 : gr [4, 6, 7, 8, 9, 41] F F4 := (hG3.mono (by decide)).trans (gr_mk (W := [41]) hb g (by decide) (by omega) (by omega)) (by decide)
  refine ⟨F4, rfl, rfl, hG4.mono (by decide), pk_of hP hG4 (by decide) (fun z => pj_of hJ hG4 (by decide) (by rw [a31, a35, b31, b35, e13, i13]; exact j6)), fun z => ?_⟩
  have := hR2 (by omega)
  omega
theorem to_T (hP : pk F) (hf : (sy_i F 6).toInt = 0) : jm_T Ls xs 7 jm_M154 [.ref 1000] (sy_dh F X1 X2 (iv_H 4)) 0 0 (to_Q F X1 X2) := by
  refine nz_T0 jm_ok154 (by decide) (to_0 (by decide) F X1 X2 hP.1 ?_ ?_ ?_ ?_ ?_ ?_ ?_ ?_ ?_ ?_ ?_ ?_ ?_ ?_ ?_ ?_ ?_ ?_ ?_ ?_ ?_ ?_ ?_ ?_ ?_ ?_ ?_ ?_ ?_ ?_ ?_ ?_ ?_ ?_ ?_)
  all_goals intros
  all_goals first
    | (exfalso; omega)
    | (rename_i F1 hb g e4 e5 e6 e11 e12 e13 e14 e15 a31 a35 a39 a40 a41
       exact to_fault X1 X2 F hP hb g (by decide) (by omega) (by omega))
    | (rename_i F1 hb g e4 e5 e6 e11 e12 e13 e14 e15 a31 a35 a39 a40 a41
       exact to_91 X1 X2 F hP hf F1 (gr_mk hb g (by decide) (by omega) (by omega)) (by omega) e4)
    | (rename_i F1 hb g e4 e5 e6 e11 e12 e13 e14 e15 a31 a35 a39 a40 a41
       exact to_119 X1 X2 F hP hf F1 (gr_mk hb g (by decide) (by omega) (by omega)) (by omega) e4)
    | (rename_i F1 hb g e4 e5 e6 e11 e12 e13 e14 e15 a31 a35 a39 a40 a41 e69
       exact to_233 X1 X2 F hP hf F1 (gr_mk hb g (by decide) (by omega) (by omega)) (by omega) (by omega))
    | (rename_i F1 hb g e4 e5 e6 e11 e12 e13 e14 e15 a31 a35 a39 a40 a41 e69
       exact to_137 X1 X2 F hP hf F1 (gr_mk hb g (by decide) (by omega) (by omega)) e69)
    | (rename_i F1 hb g e4 e5 e6 e11 e12 e13 e14 e15 a31 a35 a39 a40 a41 e69
       exact to_156 X1 X2 F hP hf F1 (gr_mk hb g (by decide) (by omega) (by omega)) e69)
    | (rename_i F1 hb g e4 e5 e6 e11 e12 e13 e14 e15 a31 a35 a39 a40 a41 e69
       exact to_176 X1 X2 F hP hf F1 (gr_mk hb g (by decide) (by omega) (by omega)) e69)
end TO
