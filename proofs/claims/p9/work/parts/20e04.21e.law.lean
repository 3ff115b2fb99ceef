/-! ===== the reference puts terms and laws ===== -/
noncomputable def trz_R (F F' : Nat → sy_d) : Prop := tr_R F F' ∧ fx (crr F) F F' ∧ ((sy_i F' 6).toInt = 0 → crr F = .inr (tn F', cut_ F' (sy_i F 15).toInt (sy_i F' 15).toInt))
theorem trz_Rdst {F F' F2 : Nat → sy_d} (h : trz_R F F') (e : ∀ q, q < 69 → F2 q = F' q) : trz_R F F2 := by
  have i4 := nz_fi (e 4 (by decide))
  have i6 := nz_fi (e 6 (by decide))
  have i7 := nz_fi (e 7 (by decide))
  exact ⟨tr_Rdst h.1 e, fx_same h.2.1 i6 i7, fun z => by rw [tn_eq i4, cut_eq (nz_fa (e 49 (by decide))) (nz_fa (e 50 (by decide))), nz_fi (e 15 (by decide))]; exact h.2.2 (by rw [← i6]; exact z)⟩
theorem oO_cut {F F1 : Nat → sy_d} (h0 : 0 ≤ (sy_i F 15).toInt) : oO (c0f F) F1 = cut_ F1 (sy_i F 15).toInt (sy_i F1 15).toInt := by
  unfold oO c0f cut_
  rw [show ((sy_i F1 15).toInt - ((sy_i F 15).toInt.toNat : Int)).toNat = ((sy_i F1 15).toInt - (sy_i F 15).toInt).toNat by omega]
theorem bq_n {F : Nat → sy_d} {b : Nat} {x y : Int} (h44 : (sy_ai F 44).getD b 0 ≠ 1) (h47 : ix F 47 b = x) (h48 : ix F 48 b = y) : bq F b = (none, cut_ F x y) := by
  unfold bq
  rw [if_neg h44, h47, h48]
theorem bq_s {F : Nat → sy_d} {b : Nat} {p q x y : Int} (h44 : (sy_ai F 44).getD b 0 = 1) (h45 : ix F 45 b = p) (h46 : ix F 46 b = q) (h47 : ix F 47 b = x) (h48 : ix F 48 b = y) : bq F b = (some (cut_ F p q, cut_ F q x), cut_ F x y) := by
  unfold bq
  rw [if_pos h44, h45, h46, h47, h48]
section TRZ
variable {Ls : Nat} {xs : Nat → Int32} (X1 X2 : List jm_c) (F : Nat → sy_d)
theorem trz_e (F1 : Nat → sy_d) (hG : gr WT F F1) (hk : kp F F1) (hs : ∀ b : Nat, (b : Int) ≠ (sy_i F 14).toInt → s5 F F1 b) (h14 : (sy_i F1 14).toInt = (sy_i F 14).toInt) (hb : (sy_i F 14).toInt < 260) (h5 : (sy_i F 15).toInt ≤ (sy_i F1 15).toInt) (h6 : (sy_i F1 15).toInt ≤ 420 * (sy_i F 12).toInt + (sy_i F1 4).toInt + 1)
    (h7 : (sy_i F1 6).toInt = 0 → (sy_i F 4).toInt + 1 ≤ (sy_i F1 4).toInt ∧ (sy_i F1 5).toInt = 0 ∧ (sy_i F1 15).toInt ≤ 420 * (sy_i F 12).toInt + (sy_i F1 4).toInt ∧ ((sy_ai F1 47).getD (sy_i F 14).toInt.toNat 0).toInt = (sy_i F 15).toInt ∧ rp_go (sy_ai F1 49) (sy_ai F1 50) ((sy_i F1 15).toInt - (sy_i F 15).toInt).toNat (sy_i F 15).toInt.toNat 0) (hf : fx (crr F) F F1) (hr : (sy_i F1 6).toInt = 0 → crr F = .inr (tn F1, cut_ F1 (sy_i F 15).toInt (sy_i F1 15).toInt)) :
    hd_W Ls xs 5 jm_M161 (fun v G => ∃ F' : Nat → sy_d, v = none ∧ G = sy_dh F' X1 X2 (iv_H 4) ∧ trz_R F F') (24, sy_dL F1 [some (.inl (.ref 1000))], sy_dS F1 [], sy_dh F1 X1 X2 (iv_H 4), 0, 0) := by
  have c14 := nz_bx hG.b (k := 14) (lo := 0) (hi := 260) rfl
  refine try_24 (by decide) F1 X1 X2 hG.b (by omega) (by omega) ?_
  intro F2 hb2 g e4 e5 e6 e7 e8 e9 e11 e12 e14 e15 e16 a25 a26 a44 a45 a46 a47 a48 a49 a50
  refine ⟨F2, rfl, rfl, ⟨hG.trans (gr_mk (W := WT) hb2 g (by decide) (by omega) (by omega)) (by decide), kp_trans hk (kp_same a49 a50) h5 (by omega), fun b q => s5_trans (hs b q) ?_, by omega, by omega, by omega, fun z => ?_⟩, fx_same hf e6 e7, fun z => by rw [tn_eq e4, cut_eq a49 a50, e15]; exact hr (by omega)⟩
  · refine ⟨by rw [a44], by rw [a45], by rw [a46], by rw [a47], ?_⟩
    rw [a48, jm_upd_at, if_neg (by omega)]
  · obtain ⟨y1, y2, y3, y4, y5⟩ := h7 (by omega)
    refine ⟨by omega, by omega, by omega, by rw [a47]; exact y4, ?_, by rw [a49, a50, e15]; exact y5⟩
    rw [a48, jm_upd_at, if_pos (by omega), e15]
theorem trz_T (hB : iv_in F iv_B4) (h1 : (sy_i F 6).toInt = 0 → (sy_i F 5).toInt = 0 ∧ (sy_i F 15).toInt ≤ 420 * (sy_i F 12).toInt + (sy_i F 4).toInt) (h2 : (sy_i F 15).toInt ≤ 420 * (sy_i F 12).toInt + (sy_i F 4).toInt + 1) (hb : (sy_i F 14).toInt < 260) :
    jm_T Ls xs 5 jm_M161 [.ref 1000] (sy_dh F X1 X2 (iv_H 4)) 0 0 (fun v G => ∃ F' : Nat → sy_d, v = none ∧ G = sy_dh F' X1 X2 (iv_H 4) ∧ trz_R F F') := by
  have c14 := nz_bx hB (k := 14) (lo := 0) (hi := 260) rfl
  have s5u : ∀ F1 : Nat → sy_d, sy_ai F1 44 = sy_ai F 44 → sy_ai F1 45 = sy_ai F 45 → sy_ai F1 46 = sy_ai F 46 → sy_ai F1 47 = jm_upd (sy_ai F 47) (sy_i F 14).toInt.toNat (sy_i F 15) → sy_ai F1 48 = sy_ai F 48 → ∀ b : Nat, (b : Int) ≠ (sy_i F 14).toInt → s5 F F1 b := by
    intro F1 a44 a45 a46 a47 a48 b q
    refine ⟨by rw [a44], by rw [a45], by rw [a46], ?_, by rw [a48]⟩
    rw [a47, jm_upd_at, if_neg (by omega)]
  refine nz_T0 jm_ok161 (by decide) (try_0 (by decide) F X1 X2 hB (by omega) ?_ ?_)
  · intro q F1 hb g e4 e5 e6 e7 e8 e9 e11 e12 e14 e15 e16 a25 a26 a44 a45 a46 a47 a48 a49 a50
    exact trz_e X1 X2 F F1 (gr_mk hb g (by decide) (by omega) (by omega)) (kp_same a49 a50) (s5u F1 a44 a45 a46 a47 a48) e14 (by assumption) (by omega) (by omega) (fun z => absurd z (by omega)) ⟨fun z => absurd z q, fun _ => ⟨e6, e7⟩⟩ (fun z => absurd z (by omega))
  · intro q F1 hb g e4 e5 e6 e7 e8 e9 e11 e12 e14 e15 e16 a25 a26 a44 a45 a46 a47 a48 a49 a50
    have hG : gr WT F F1 := gr_mk hb g (by decide) (by omega) (by omega)
    have h1' := h1 q
    have eE : crr F1 = crr F := by
      unfold crr
      rw [kf_eq (g 25 (by decide) (by decide)), vf_eq (g 27 (by decide) (by decide)), tn_eq e4]
    refine hd_calV (R := zr F1) (nh := 69) (nv := 69) (s := 4) (s1 := 4) (d1 := 4) (M1 := jm_M164) (As := [.inl (.ref 1000)]) (rest := []) jm_ok161 rfl rfl (by decide) (by decide +kernel) (ez_T X1 X2 F1 hb (by omega) (by omega)) (fun F3 F' hR p1 _ => ?_)
    obtain ⟨⟨x1, x2, x3, x4, x5⟩, y1, y2⟩ := zr_dst hR p1
    rw [eE] at y1 y2
    have b44 := x1.a (k := 44) (by decide) (by decide)
    have b45 := x1.a (k := 45) (by decide) (by decide)
    have b46 := x1.a (k := 46) (by decide) (by decide)
    have b47 := x1.a (k := 47) (by decide) (by decide)
    have b48 := x1.a (k := 48) (by decide) (by decide)
    have j14 := x1.i (k := 14) (by decide) (by decide)
    refine trz_e X1 X2 F F3 (hG.trans x1 (by decide)) (kp_trans (kp_same a49 a50) x2 (by omega) (by omega)) (fun b q => s5_trans (s5u F1 a44 a45 a46 a47 a48 b q) (s5_same b44 b45 b46 b47 b48 b)) (by omega) (by assumption) (by omega) (by omega) (fun z => ?_) ?_ (fun z => by rw [y2 z, oO_cut (F := F1) (by have := nz_bx hb (k := 15) (lo := 0) (hi := 840) rfl; omega), e15])
    · obtain ⟨y1, y2, y3, y4⟩ := x5 z
      rw [e15] at y4
      refine ⟨by omega, y2, by omega, ?_, y4⟩
      rw [b47, a47, jm_upd_at, if_pos rfl]
    · refine ⟨fun a b => ?_, fun a => absurd q a⟩
      obtain ⟨tok, t1, t2⟩ := y1.1 (by omega) b
      exact ⟨tok, t1, by rw [t2, pf_eq (g 26 (by decide) (by decide))]⟩
end TRZ
noncomputable def lrz (F0 : Nat → sy_d) : sE ⊕ (Nat × List bRT) := zLw (kf F0) (vf F0) (tn F0)
noncomputable def tlz_R (k : Int) (F0 F' : Nat → sy_d) : Prop := tl_R k F0 F' ∧ fx (lrz F0) F0 F' ∧ ((sy_i F' 6).toInt = 0 → lrz F0 = .inr (tn F', aA F0 F'))
noncomputable def tlz_Q (k : Int) (F0 : Nat → sy_d) (X1 X2 : List jm_c) (v : Option Value) (G : jm_h) : Prop := ∃ F' : Nat → sy_d, v = none ∧ G = sy_dh F' X1 X2 (iv_H 4) ∧ tlz_R k F0 F'
section TLZ
variable {Ls : Nat} {xs : Nat → Int32} (X1 X2 : List jm_c) (F0 : Nat → sy_d) (k : Int)
theorem tlz_143' (hb0 : 0 ≤ (sy_i F0 14).toInt) (hk : 0 ≤ k ∧ k ≤ 5) (F : Nat → sy_d) (hx : lc 101 F0 F) (hf : fx (lrz F0) F0 F) (hi : (sy_i F 6).toInt = 0 → li (-1) F0 F ∧ (sy_i F0 4).toInt + 1 ≤ (sy_i F 4).toInt) (heq : (sy_i F 6).toInt = 0 → lrz F0 = sB (sM (kf F0) 4 (tn F)) (fun t => .inr (t, aA F0 F))) (h69 : (sy_i F 69).toInt = k) (h70 : (sy_i F 70).toInt = (sy_i F0 14).toInt) :
    hd_W Ls xs 6 jm_M160 (tlz_Q k F0 X1 X2) (143, sy_dL F [some (.inl (.ref 1000)), some (.inr (.inl 69)), some (.inr (.inl 70)), none], sy_dS F [], sy_dh F X1 X2 (iv_H 4), 0, 0) := by
  obtain ⟨x1, x2, x3, x4, x5, x6, x7⟩ := id hx
  have i12 := x1.i (k := 12) (by decide) (by decide)
  have c12 := nz_bx x1.b (k := 12) (lo := 0) (hi := 1) rfl
  have c14 := nz_bx x1.b (k := 14) (lo := 0) (hi := 260) rfl
  have q4 := nz_bx x1.b (k := 4) (lo := 0) (hi := 400) rfl
  have x25 := x1.a (k := 25) (by decide) (by decide)
  have x26 := x1.a (k := 26) (by decide) (by decide)
  have eK : kf F0 (tn F) = ((sy_ai F 25).getD (sy_i F 4).toInt.toNat 0).toInt := by rw [x25]; rfl
  have eP : pf F0 (tn F) = ((sy_ai F 26).getD (sy_i F 4).toInt.toNat 0).toInt := by rw [x26]; rfl
  have z4 := nz_bx x1.b (k := 4) (lo := 0) (hi := 400) rfl
  have et : (tn F : Int) = (sy_i F 4).toInt := by unfold tn; omega
  refine tly_143 (by decide) F X1 X2 x1.b (by omega) (fun _ _ _ _ => by omega) ?_ ?_ ?_ ?_
  · intros
    rename_i F1 hb g e4 e5 e6 e7 e8 e9 e11 e12 e14 e15 e16 a25 a26 a42 a43 a44 a45 a46 a47 a48 a49 a50
    refine ⟨F1, rfl, rfl, lc_end (lc_step hx hb g (by decide) (by omega) (by omega) (kp_same a49 a50) (fun b _ => s5_same a44 a45 a46 a47 a48 b) (by omega) (by omega) (by omega) (by omega)) (by omega), ?_, fun z => absurd z (by omega)⟩
    first
      | exact fx_same hf e6 e7
      | exact fx_mk (x1.u (by omega)) (by rw [heq (by omega), sM_no (by omega)]; rfl) e6 (e7.trans eP.symm)
      | exact fx_mk (x1.u (by omega)) (by rw [heq (by omega), sM_4 (by omega) (by omega)]; rfl) e6 (e7.trans eP.symm)
  · intros
    rename_i F1 hb g e4 e5 e6 e7 e8 e9 e11 e12 e14 e15 e16 a25 a26 a42 a43 a44 a45 a46 a47 a48 a49 a50
    refine ⟨F1, rfl, rfl, lc_end (lc_step hx hb g (by decide) (by omega) (by omega) (kp_same a49 a50) (fun b _ => s5_same a44 a45 a46 a47 a48 b) (by omega) (by omega) (by omega) (by omega)) (by omega), ?_, fun z => absurd z (by omega)⟩
    first
      | exact fx_same hf e6 e7
      | exact fx_mk (x1.u (by omega)) (by rw [heq (by omega), sM_no (by omega)]; rfl) e6 (e7.trans eP.symm)
      | exact fx_mk (x1.u (by omega)) (by rw [heq (by omega), sM_4 (by omega) (by omega)]; rfl) e6 (e7.trans eP.symm)
  · intros
    rename_i q6 _ _ _ F1 hb g e4 e5 e6 e7 e8 e9 e11 e12 e14 e15 e16 a25 a26 a42 a43 a44 a45 a46 a47 a48 a49 a50
    obtain ⟨y1, y2⟩ := hi q6
    obtain ⟨z1, z2, z3, zz4⟩ := id y1
    have s5e : ∀ b : Nat, (b : Int) ≠ (sy_i F 14).toInt → s5 F F1 b := fun b _ => s5_same a44 a45 a46 a47 a48 b
    have ei : (6 * (sy_i F 12).toInt + (sy_i F 69).toInt).toNat = (6 * (sy_i F0 12).toInt + k).toNat := by omega
    have b42 := x1.a (k := 42) (by decide) (by decide)
    have b43 := x1.a (k := 43) (by decide) (by decide)
    refine ⟨F1, rfl, rfl, ⟨(x1.mono (by decide)).trans (gr_mk (W := WLL) hb g (by decide) (by omega) (by omega)) (by decide), kp_trans x2 (kp_same a49 a50) x4 (by omega), kb_step x3 s5e x5 (by omega), by omega, by omega, by omega, by omega, fun i q => ?_, fun _ => ⟨li_step y1 (by omega) (by omega) (by omega) e14 s5e (kp_same a49 a50) (by omega), by omega, ?_, ?_⟩⟩, fx_same hf e6 e7, fun _ => ?_⟩
    · rw [a42, a43, jm_upd_at, jm_upd_at, if_neg (by omega), if_neg (by omega), b42, b43]
      exact ⟨rfl, rfl⟩
    · rw [a42, jm_upd_at, if_pos ei.symm]
      exact h70
    · rw [a43, jm_upd_at, if_pos ei.symm]
      exact e14.symm
    · rw [heq q6, sM_ok (by omega) (by omega), tn_s z4.1 e4, aA_same e14 a44 a45 a46 a47 a48 a49 a50]
      rfl
  · intros
    rename_i F1 hb g e4 e5 e6 e7 e8 e9 e11 e12 e14 e15 e16 a25 a26 a42 a43 a44 a45 a46 a47 a48 a49 a50
    refine ⟨F1, rfl, rfl, lc_end (lc_step hx hb g (by decide) (by omega) (by omega) (kp_same a49 a50) (fun b _ => s5_same a44 a45 a46 a47 a48 b) (by omega) (by omega) (by omega) (by omega)) (by omega), ?_, fun z => absurd z (by omega)⟩
    first
      | exact fx_same hf e6 e7
      | exact fx_mk (x1.u (by omega)) (by rw [heq (by omega), sM_no (by omega)]; rfl) e6 (e7.trans eP.symm)
      | exact fx_mk (x1.u (by omega)) (by rw [heq (by omega), sM_4 (by omega) (by omega)]; rfl) e6 (e7.trans eP.symm)
theorem tlz_140' (hb0 : 0 ≤ (sy_i F0 14).toInt) (hF0 : 420 * (sy_i F0 12).toInt ≤ (sy_i F0 15).toInt) (hk : 0 ≤ k ∧ k ≤ 5) (F : Nat → sy_d) (hx : lc 100 F0 F) (hf : fx (lrz F0) F0 F) (hi : (sy_i F 6).toInt = 0 → li 2 F0 F ∧ (sy_ai F 44).getD (sy_i F 14).toInt.toNat 0 = 0) (heq : (sy_i F 6).toInt = 0 → lrz F0 = zLast (kf F0) (vf F0) (aA F0 F) (tn F)) (h69 : (sy_i F 69).toInt = k) (h70 : (sy_i F 70).toInt = (sy_i F0 14).toInt) :
    hd_W Ls xs 6 jm_M160 (tlz_Q k F0 X1 X2) (140, sy_dL F [some (.inl (.ref 1000)), some (.inr (.inl 69)), some (.inr (.inl 70)), none], sy_dS F [.inl (.ref 1000)], sy_dh F X1 X2 (iv_H 4), 0, 0) := by
  obtain ⟨x1, x2, x3, x4, x5, x6, x7⟩ := id hx
  have i12 := x1.i (k := 12) (by decide) (by decide)
  have c12 := nz_bx x1.b (k := 12) (lo := 0) (hi := 1) rfl
  have c14 := nz_bx x1.b (k := 14) (lo := 0) (hi := 260) rfl
  have q4 := nz_bx x1.b (k := 4) (lo := 0) (hi := 400) rfl
  refine hd_calV (R := trz_R F) (nh := 69) (nv := 71) (s := 4) (s1 := 4) (d1 := 5) (M1 := jm_M161) (As := [.inl (.ref 1000)]) (rest := []) jm_ok160 rfl rfl (by decide) (by decide +kernel) (trz_T X1 X2 F x1.b (fun z => ?_) (by omega) (by omega)) (fun F3 F' hR p1 p2 => ?_)
  · obtain ⟨⟨y1, y2, -⟩, -⟩ := hi z
    omega
  obtain ⟨hR3, r2, r3⟩ := trz_Rdst hR p1
  have j69 := nz_fi (p2 69 (by decide) (by decide))
  have j70 := nz_fi (p2 70 (by decide) (by decide))
  obtain ⟨u1, u2⟩ := tl_term (m := 100) (j := 2) (j' := -1) F0 hF0 hx (fun z => ⟨(hi z).1, fun q => absurd ((hi z).2.symm.trans q) (by decide)⟩) hR3 (by omega)
  have t1 := x1.t
  have eE : crr F = cX (kf F0) (vf F0) (tn F) [] 0 [] := by unfold crr; rw [kf_eq (x1.f 25 (by decide) (by decide)), vf_eq (x1.f 27 (by decide) (by decide))]
  rw [eE] at r2 r3
  have hP := pf_eq (x1.f 26 (by decide) (by decide))
  exact tlz_143' X1 X2 F0 k hb0 hk F3 u1 (fx_bind hf r2 hP (x1.u) (fun z => heq z)) (fun z => ⟨(u2 z).1, by have := (u2 z).2; omega⟩) (fun z => by
    have y0 := hi (hR3.1.u z)
    obtain ⟨-, -, -, y47, y48, -⟩ := hR3.2.2.2.2.2.2 z
    have hA : aA F0 F3 = aA F0 F ++ [(none, cut_ F3 (sy_i F 15).toInt (sy_i F3 15).toInt)] := by
      rw [aA_push hb0 x5 y0.1 hR3.2.2.2.1 hR3.2.2.1 hR3.2.1]
      rw [bq_n (b := bN F) (by rw [hR3.1.a (k := 44) (by decide) (by decide)]; intro q; exact absurd (y0.2.symm.trans q) (by decide)) y47 y48]
    rw [heq (hR3.1.u z), hA]
    show sB _ _ = _
    rw [r3 z]
    rfl) (by omega) (by omega)
/-- the loop's head, with n ifs left -/
noncomputable def tz12 (Ls : Nat) (xs : Nat → Int32) (n : Nat) : Prop := ∀ F : Nat → sy_d, lc 100 F0 F → fx (lrz F0) F0 F → ((sy_i F 6).toInt = 0 → li 2 F0 F) → ((sy_i F 6).toInt = 0 → lrz F0 = zI (kf F0) (vf F0) n (aA F0 F) (tn F)) → (sy_i F 69).toInt = k → (sy_i F 70).toInt = (sy_i F0 14).toInt → (sy_i F 71).toInt = 4 - n →
    hd_W Ls xs 6 jm_M160 (tlz_Q k F0 X1 X2) (12, sy_dL F [some (.inl (.ref 1000)), some (.inr (.inl 69)), some (.inr (.inl 70)), some (.inr (.inl 71))], sy_dS F [], sy_dh F X1 X2 (iv_H 4), 0, 0)
theorem tlz_117' (hb0 : 0 ≤ (sy_i F0 14).toInt) (hF0 : 420 * (sy_i F0 12).toInt ≤ (sy_i F0 15).toInt) {n : Nat} (h12 : tz12 X1 X2 F0 k Ls xs n) (F : Nat → sy_d) (hx : lc 99 F0 F) (hf : fx (lrz F0) F0 F) (hi : (sy_i F 6).toInt = 0 → li 7 F0 F ∧ (sy_ai F 44).getD (sy_i F 14).toInt.toNat 0 = 1 ∧ rs (sy_i F0 12).toInt.toNat (sy_i F 15).toInt (sy_ai F 49) (sy_ai F 50) ((sy_ai F 45).getD (sy_i F 14).toInt.toNat 0).toInt ((sy_ai F 46).getD (sy_i F 14).toInt.toNat 0).toInt ∧ rs (sy_i F0 12).toInt.toNat (sy_i F 15).toInt (sy_ai F 49) (sy_ai F 50) ((sy_ai F 46).getD (sy_i F 14).toInt.toNat 0).toInt (sy_i F 15).toInt) (heq : (sy_i F 6).toInt = 0 → lrz F0 = zc5 (kf F0) (vf F0) (zI (kf F0) (vf F0) n) (aA F0 F) (uU F) (vV F) (tn F)) (h69 : (sy_i F 69).toInt = k) (h70 : (sy_i F 70).toInt = (sy_i F0 14).toInt) (h71 : (sy_i F 71).toInt = 4 - n) :
    hd_W Ls xs 6 jm_M160 (tlz_Q k F0 X1 X2) (117, sy_dL F [some (.inl (.ref 1000)), some (.inr (.inl 69)), some (.inr (.inl 70)), some (.inr (.inl 71))], sy_dS F [.inl (.ref 1000)], sy_dh F X1 X2 (iv_H 4), 0, 0) := by
  obtain ⟨x1, x2, x3, x4, x5, x6, x7⟩ := id hx
  have i12 := x1.i (k := 12) (by decide) (by decide)
  have c12 := nz_bx x1.b (k := 12) (lo := 0) (hi := 1) rfl
  have c14 := nz_bx x1.b (k := 14) (lo := 0) (hi := 260) rfl
  have q4 := nz_bx x1.b (k := 4) (lo := 0) (hi := 400) rfl
  refine hd_calV (R := trz_R F) (nh := 69) (nv := 72) (s := 4) (s1 := 4) (d1 := 5) (M1 := jm_M161) (As := [.inl (.ref 1000)]) (rest := []) jm_ok160 rfl rfl (by decide) (by decide +kernel) (trz_T X1 X2 F x1.b (fun z => ?_) (by omega) (by omega)) (fun F3 F' hR p1 p2 => ?_)
  · obtain ⟨⟨y1, y2, -⟩, -⟩ := hi z
    omega
  obtain ⟨hR3, r2y, r3y⟩ := trz_Rdst hR p1
  have j69 := nz_fi (p2 69 (by decide) (by decide))
  have j70 := nz_fi (p2 70 (by decide) (by decide))
  have j71 := nz_fi (p2 71 (by decide) (by decide))
  have eE : crr F = cX (kf F0) (vf F0) (tn F) [] 0 [] := by unfold crr; rw [kf_eq (x1.f 25 (by decide) (by decide)), vf_eq (x1.f 27 (by decide) (by decide))]
  rw [eE] at r2y r3y
  have hP := pf_eq (x1.f 26 (by decide) (by decide))
  obtain ⟨u1, u2⟩ := tl_term (m := 99) (j := 7) (j' := 4) F0 hF0 hx (fun z => ⟨(hi z).1, fun _ => (hi z).2.2⟩) hR3 (by omega)
  have hf3 := fx_bind hf r2y hP (x1.u) (fun z => heq z)
  have hq3 : (sy_i F3 6).toInt = 0 → lrz F0 = sB (sM (kf F0) 33 (tn F3)) (zI (kf F0) (vf F0) n (aA F0 F3)) := fun z => by
    obtain ⟨y0, y44, yA, yB⟩ := hi (hR3.1.u z)
    obtain ⟨-, -, -, y47, y48, -⟩ := hR3.2.2.2.2.2.2 z
    have hA : aA F0 F3 = aA F0 F ++ [(some (uU F, vV F), cut_ F3 (sy_i F 15).toInt (sy_i F3 15).toInt)] := by
      rw [aA_push hb0 x5 y0 hR3.2.2.2.1 hR3.2.2.1 hR3.2.1]
      rw [bq_s (b := bN F) (p := ix F 45 (bN F)) (q := ix F 46 (bN F)) (by rw [hR3.1.a (k := 44) (by decide) (by decide)]; exact y44) (by unfold ix; rw [hR3.1.a (k := 45) (by decide) (by decide)]) (by unfold ix; rw [hR3.1.a (k := 46) (by decide) (by decide)]) y47 y48]
      rw [cut_kp (F := F) (x := ix F 45 (bN F)) (y := ix F 46 (bN F)) (by have := yA.1; unfold ix bN; omega) yA.2.1 hR3.2.1, cut_kp (F := F) (x := ix F 46 (bN F)) (y := (sy_i F 15).toInt) (by have := yB.1; unfold ix bN; omega) (Int.le_refl _) hR3.2.1]
      rfl
    rw [heq (hR3.1.u z), hA]
    show sB _ _ = _
    rw [r3y z]
    rfl
  clear heq hf
  obtain ⟨v1, v2, v3, v4, v5, v6, v7⟩ := id u1
  have x25 := v1.a (k := 25) (by decide) (by decide)
  have x26 := v1.a (k := 26) (by decide) (by decide)
  have eK : kf F0 (tn F3) = ((sy_ai F3 25).getD (sy_i F3 4).toInt.toNat 0).toInt := by rw [x25]; rfl
  have eP : pf F0 (tn F3) = ((sy_ai F3 26).getD (sy_i F3 4).toInt.toNat 0).toInt := by rw [x26]; rfl
  have z4 := nz_bx v1.b (k := 4) (lo := 0) (hi := 400) rfl
  have et : (tn F3 : Int) = (sy_i F3 4).toInt := by unfold tn; omega
  refine tly_120 (by decide) F3 X1 X2 v1.b ?_ ?_ ?_ ?_
  all_goals
    intros
    rename_i F1 hb g e4 e5 e6 e7 e8 e9 e11 e12 e14 e15 e16 a25 a26 a42 a43 a44 a45 a46 a47 a48 a49 a50 e69 e70 e71
    refine h12 F1 (lc_step u1 hb g (by decide) (by omega) (by omega) (kp_same a49 a50) (fun b _ => s5_same a44 a45 a46 a47 a48 b) (by omega) (by omega) (by omega) (by omega)) ?_ (fun z => ?_) (fun z => ?_) (by omega) (by omega) (by omega)
  all_goals first
      | exact fx_same hf3 e6 e7
      | exact fx_mk (v1.u (by omega)) (by rw [hq3 (by omega), sM_no (by omega)]; rfl) e6 (e7.trans eP.symm)
      | exact fx_mk (v1.u (by omega)) (by rw [hq3 (by omega), sM_4 (by omega) (by omega)]; rfl) e6 (e7.trans eP.symm)
      | (exfalso; omega)
      | (rw [hq3 (by omega), sM_ok (by omega) (by omega), tn_s z4.1 e4, aA_same e14 a44 a45 a46 a47 a48 a49 a50]; rfl)
      | (obtain ⟨y1, y2⟩ := u2 (by omega)
         obtain ⟨w1, w2, w3, w4⟩ := id y1
         exact li_step y1 (by omega) (by omega) (by omega) (by omega) (fun b _ => s5_same a44 a45 a46 a47 a48 b) (kp_same a49 a50) (by omega))
theorem tlz_110' (hb0 : 0 ≤ (sy_i F0 14).toInt) (hF0 : 420 * (sy_i F0 12).toInt ≤ (sy_i F0 15).toInt) {n : Nat} (h12 : tz12 X1 X2 F0 k Ls xs n) (F : Nat → sy_d) (hx : lc 99 F0 F) (hf : fx (lrz F0) F0 F) (hi : (sy_i F 6).toInt = 0 → li 6 F0 F ∧ (sy_ai F 44).getD (sy_i F 14).toInt.toNat 0 = 1 ∧ rs (sy_i F0 12).toInt.toNat (sy_i F 15).toInt (sy_ai F 49) (sy_ai F 50) ((sy_ai F 45).getD (sy_i F 14).toInt.toNat 0).toInt ((sy_ai F 46).getD (sy_i F 14).toInt.toNat 0).toInt ∧ rs (sy_i F0 12).toInt.toNat (sy_i F 15).toInt (sy_ai F 49) (sy_ai F 50) ((sy_ai F 46).getD (sy_i F 14).toInt.toNat 0).toInt (sy_i F 15).toInt) (heq : (sy_i F 6).toInt = 0 → lrz F0 = zc4 (kf F0) (vf F0) (zI (kf F0) (vf F0) n) (aA F0 F) (uU F) (vV F) (tn F)) (h69 : (sy_i F 69).toInt = k) (h70 : (sy_i F 70).toInt = (sy_i F0 14).toInt) (h71 : (sy_i F 71).toInt = 4 - n) :
    hd_W Ls xs 6 jm_M160 (tlz_Q k F0 X1 X2) (110, sy_dL F [some (.inl (.ref 1000)), some (.inr (.inl 69)), some (.inr (.inl 70)), some (.inr (.inl 71))], sy_dS F [], sy_dh F X1 X2 (iv_H 4), 0, 0) := by
  obtain ⟨x1, x2, x3, x4, x5, x6, x7⟩ := id hx
  have i12 := x1.i (k := 12) (by decide) (by decide)
  have c12 := nz_bx x1.b (k := 12) (lo := 0) (hi := 1) rfl
  have c14 := nz_bx x1.b (k := 14) (lo := 0) (hi := 260) rfl
  have q4 := nz_bx x1.b (k := 4) (lo := 0) (hi := 400) rfl
  have x25 := x1.a (k := 25) (by decide) (by decide)
  have x26 := x1.a (k := 26) (by decide) (by decide)
  have eK : kf F0 (tn F) = ((sy_ai F 25).getD (sy_i F 4).toInt.toNat 0).toInt := by rw [x25]; rfl
  have eP : pf F0 (tn F) = ((sy_ai F 26).getD (sy_i F 4).toInt.toNat 0).toInt := by rw [x26]; rfl
  have z4 := nz_bx x1.b (k := 4) (lo := 0) (hi := 400) rfl
  have et : (tn F : Int) = (sy_i F 4).toInt := by unfold tn; omega
  refine tly_110 (by decide) F X1 X2 x1.b ?_ ?_ ?_ ?_
  all_goals
    intros
    rename_i F1 hb g e4 e5 e6 e7 e8 e9 e11 e12 e14 e15 e16 a25 a26 a42 a43 a44 a45 a46 a47 a48 a49 a50 e69 e70 e71
    refine tlz_117' X1 X2 F0 k hb0 hF0 h12 F1 (lc_step hx hb g (by decide) (by omega) (by omega) (kp_same a49 a50) (fun b _ => s5_same a44 a45 a46 a47 a48 b) (by omega) (by omega) (by omega) (by omega)) ?_ (fun z => ?_) (fun z => ?_) (by omega) (by omega) (by omega)
  all_goals first
      | exact fx_same hf e6 e7
      | exact fx_mk (x1.u (by omega)) (by rw [heq (by omega), zc4, sM_no (by omega)]; rfl) e6 (e7.trans eP.symm)
      | exact fx_mk (x1.u (by omega)) (by rw [heq (by omega), zc4, sM_4 (by omega) (by omega)]; rfl) e6 (e7.trans eP.symm)
      | (exfalso; omega)
      | (rw [heq (by omega), zc4, sM_ok (by omega) (by omega), tn_s z4.1 e4, aA_same e14 a44 a45 a46 a47 a48 a49 a50, (uv_same e14 e15 a45 a46 a49 a50).1, (uv_same e14 e15 a45 a46 a49 a50).2]; rfl)
      | (obtain ⟨y1, y2, y3, y4⟩ := hi (by omega)
         obtain ⟨w1, w2, w3, w4⟩ := id y1
         refine ⟨li_step y1 (by omega) (by omega) (by omega) (by omega) (fun b _ => s5_same a44 a45 a46 a47 a48 b) (kp_same a49 a50) (by omega), ?_⟩
         rw [a44, a45, a46, a49, a50, e14, e15]
         exact ⟨y2, y3, y4⟩)
theorem tlz_107' (hb0 : 0 ≤ (sy_i F0 14).toInt) (hF0 : 420 * (sy_i F0 12).toInt ≤ (sy_i F0 15).toInt) {n : Nat} (h12 : tz12 X1 X2 F0 k Ls xs n) (F : Nat → sy_d) (hx : lc 99 F0 F) (hf0 : (sy_i F 6).toInt = 0) (hf : fx (lrz F0) F0 F) (hi : li 5 F0 F ∧ (sy_ai F 44).getD (sy_i F 14).toInt.toNat 0 = 1 ∧ rs (sy_i F0 12).toInt.toNat (sy_i F 15).toInt (sy_ai F 49) (sy_ai F 50) ((sy_ai F 45).getD (sy_i F 14).toInt.toNat 0).toInt ((sy_ai F 46).getD (sy_i F 14).toInt.toNat 0).toInt ∧ ((sy_ai F 46).getD (sy_i F 14).toInt.toNat 0).toInt = (sy_i F 15).toInt) (heq : lrz F0 = zc3 (kf F0) (vf F0) (zI (kf F0) (vf F0) n) (aA F0 F) (uU F) (tn F)) (h69 : (sy_i F 69).toInt = k) (h70 : (sy_i F 70).toInt = (sy_i F0 14).toInt) (h71 : (sy_i F 71).toInt = 4 - n) :
    hd_W Ls xs 6 jm_M160 (tlz_Q k F0 X1 X2) (107, sy_dL F [some (.inl (.ref 1000)), some (.inr (.inl 69)), some (.inr (.inl 70)), some (.inr (.inl 71))], sy_dS F [.inl (.ref 1000)], sy_dh F X1 X2 (iv_H 4), 0, 0) := by
  obtain ⟨x1, x2, x3, x4, x5, x6, x7⟩ := id hx
  have i12 := x1.i (k := 12) (by decide) (by decide)
  have c12 := nz_bx x1.b (k := 12) (lo := 0) (hi := 1) rfl
  have c14 := nz_bx x1.b (k := 14) (lo := 0) (hi := 260) rfl
  have q4 := nz_bx x1.b (k := 4) (lo := 0) (hi := 400) rfl
  obtain ⟨z1, z2, z3, z4'⟩ := hi
  obtain ⟨w1, w2, w3, w4⟩ := id z1
  refine hd_calV (R := zr F) (nh := 69) (nv := 72) (s := 4) (s1 := 4) (d1 := 4) (M1 := jm_M164) (As := [.inl (.ref 1000)]) (rest := []) jm_ok160 rfl rfl (by decide) (by decide +kernel) (ez_T X1 X2 F x1.b (by omega) (by omega)) (fun F3 F' hR p1 p2 => ?_)
  obtain ⟨⟨r1, r2, r3, r4, r5⟩, r2y, r3y⟩ := zr_dst hR p1
  have j69 := nz_fi (p2 69 (by decide) (by decide))
  have j70 := nz_fi (p2 70 (by decide) (by decide))
  have j71 := nz_fi (p2 71 (by decide) (by decide))
  have b44 := r1.a (k := 44) (by decide) (by decide)
  have b45 := r1.a (k := 45) (by decide) (by decide)
  have b46 := r1.a (k := 46) (by decide) (by decide)
  have b47 := r1.a (k := 47) (by decide) (by decide)
  have b48 := r1.a (k := 48) (by decide) (by decide)
  have j14 := r1.i (k := 14) (by decide) (by decide)
  have d4 := nz_bx r1.b (k := 4) (lo := 0) (hi := 400) rfl
  have eE : crr F = cX (kf F0) (vf F0) (tn F) [] 0 [] := by unfold crr; rw [kf_eq (x1.f 25 (by decide) (by decide)), vf_eq (x1.f 27 (by decide) (by decide))]
  rw [eE] at r2y r3y
  have hP := pf_eq (x1.f 26 (by decide) (by decide))
  refine tlz_110' X1 X2 F0 k hb0 hF0 h12 F3 (lc_gr hx r1 (by decide) r2 (fun b _ => s5_same b44 b45 b46 b47 b48 b) r3 (by omega) (by omega) (by omega)) (fx_bind hf r2y hP (x1.u) (fun z => heq)) (fun z => ?_) (fun z => ?_) (by omega) (by omega) (by omega)
  · obtain ⟨y1, y2, y3, y4⟩ := r5 z
    refine ⟨li_step z1 y2 (by omega) (by omega) j14 (fun b _ => s5_same b44 b45 b46 b47 b48 b) r2 r3, ?_⟩
    rw [b44, b45, b46, j14]
    refine ⟨z2, rs_step z3 r2 r3, ?_⟩
    rw [z4']
    exact ⟨by omega, by omega, by omega, y4⟩
  · have hA : aA F0 F3 = aA F0 F := aA_st hb0 z1 j14 (fun b _ => s5_same b44 b45 b46 b47 b48 b) r2
    have hU : uU F3 = uU F := by
      unfold uU bN ix
      rw [j14, b45, b46, cut_kp (F := F) (by have := z3.1; omega) z3.2.1 r2]
    have hV : vV F3 = oO (c0f F) F3 := by
      rw [oO_cut (by have := nz_bx x1.b (k := 15) (lo := 0) (hi := 840) rfl; omega)]
      unfold vV bN ix
      rw [j14, b46, z4']
    rw [heq, hA, hU, hV]
    show sB _ _ = _
    rw [r3y z]
    rfl
theorem tlz_77' (hb0 : 0 ≤ (sy_i F0 14).toInt) (hF0 : 420 * (sy_i F0 12).toInt ≤ (sy_i F0 15).toInt) {n : Nat} (h12 : tz12 X1 X2 F0 k Ls xs n) (F : Nat → sy_d) (hx : lc 99 F0 F) (hf : fx (lrz F0) F0 F) (hi : (sy_i F 6).toInt = 0 → li 3 F0 F ∧ (sy_ai F 44).getD (sy_i F 14).toInt.toNat 0 = 1 ∧ ((sy_ai F 45).getD (sy_i F 14).toInt.toNat 0).toInt = (sy_i F 15).toInt) (heq : (sy_i F 6).toInt = 0 → lrz F0 = zc1 (kf F0) (vf F0) (zI (kf F0) (vf F0) n) (aA F0 F) (tn F)) (h69 : (sy_i F 69).toInt = k) (h70 : (sy_i F 70).toInt = (sy_i F0 14).toInt) (h71 : (sy_i F 71).toInt = 4 - n) :
    hd_W Ls xs 6 jm_M160 (tlz_Q k F0 X1 X2) (77, sy_dL F [some (.inl (.ref 1000)), some (.inr (.inl 69)), some (.inr (.inl 70)), some (.inr (.inl 71))], sy_dS F [.inl (.ref 1000)], sy_dh F X1 X2 (iv_H 4), 0, 0) := by
  obtain ⟨x1, x2, x3, x4, x5, x6, x7⟩ := id hx
  have i12 := x1.i (k := 12) (by decide) (by decide)
  have c12 := nz_bx x1.b (k := 12) (lo := 0) (hi := 1) rfl
  have c14 := nz_bx x1.b (k := 14) (lo := 0) (hi := 260) rfl
  have q4 := nz_bx x1.b (k := 4) (lo := 0) (hi := 400) rfl
  refine hd_calV (R := zr F) (nh := 69) (nv := 72) (s := 4) (s1 := 4) (d1 := 4) (M1 := jm_M164) (As := [.inl (.ref 1000)]) (rest := []) jm_ok160 rfl rfl (by decide) (by decide +kernel) (ez_T X1 X2 F x1.b (fun z => by have y := (hi z).1.1; have y2 := (hi z).1.2.1; omega) (by omega)) (fun F3 F' hR p1 p2 => ?_)
  obtain ⟨⟨r1, r2, r3, r4, r5⟩, r2y, r3y⟩ := zr_dst hR p1
  have j69 := nz_fi (p2 69 (by decide) (by decide))
  have j70 := nz_fi (p2 70 (by decide) (by decide))
  have j71 := nz_fi (p2 71 (by decide) (by decide))
  have b44 := r1.a (k := 44) (by decide) (by decide)
  have b45 := r1.a (k := 45) (by decide) (by decide)
  have b46 := r1.a (k := 46) (by decide) (by decide)
  have b47 := r1.a (k := 47) (by decide) (by decide)
  have b48 := r1.a (k := 48) (by decide) (by decide)
  have j14 := r1.i (k := 14) (by decide) (by decide)
  have d4 := nz_bx r1.b (k := 4) (lo := 0) (hi := 400) rfl
  have eE : crr F = cX (kf F0) (vf F0) (tn F) [] 0 [] := by unfold crr; rw [kf_eq (x1.f 25 (by decide) (by decide)), vf_eq (x1.f 27 (by decide) (by decide))]
  rw [eE] at r2y r3y
  have hP := pf_eq (x1.f 26 (by decide) (by decide))
  have hx3 : lc 99 F0 F3 := lc_gr hx r1 (by decide) r2 (fun b _ => s5_same b44 b45 b46 b47 b48 b) r3 (by omega) (by omega) (by omega)
  have hf3 := fx_bind hf r2y hP (x1.u) (fun z => heq z)
  have hq3 : (sy_i F3 6).toInt = 0 → lrz F0 = zc2 (kf F0) (vf F0) (zI (kf F0) (vf F0) n) (aA F0 F3) (uu1 F3) (tn F3) := fun z => by
    obtain ⟨z1, z2, z3⟩ := hi (r1.u z)
    have hA : aA F0 F3 = aA F0 F := aA_st hb0 z1 j14 (fun b _ => s5_same b44 b45 b46 b47 b48 b) r2
    have hU : uu1 F3 = oO (c0f F) F3 := by
      rw [oO_cut (by have := nz_bx x1.b (k := 15) (lo := 0) (hi := 840) rfl; omega)]
      unfold uu1 bN ix
      rw [j14, b45, z3]
    rw [heq (r1.u z), hA, hU]
    show sB _ _ = _
    rw [r3y z]
    rfl
  have hi3 : (sy_i F3 6).toInt = 0 → li 4 F0 F3 ∧ (sy_ai F3 44).getD (sy_i F3 14).toInt.toNat 0 = 1 ∧ rs (sy_i F0 12).toInt.toNat (sy_i F3 15).toInt (sy_ai F3 49) (sy_ai F3 50) ((sy_ai F3 45).getD (sy_i F3 14).toInt.toNat 0).toInt (sy_i F3 15).toInt := by
    intro z
    obtain ⟨z1, z2, z3⟩ := hi (r1.u z)
    obtain ⟨w1, w2, w3, w4⟩ := id z1
    obtain ⟨y1, y2, y3, y4⟩ := r5 z
    refine ⟨li_step z1 y2 (by omega) (by omega) j14 (fun b _ => s5_same b44 b45 b46 b47 b48 b) r2 r3, ?_⟩
    rw [b44, b45, j14, z3]
    exact ⟨z2, by omega, by omega, by omega, y4⟩
  clear hi heq hf r5
  obtain ⟨v1, v2, v3, v4, v5, v6, v7⟩ := id hx3
  have x25 := v1.a (k := 25) (by decide) (by decide)
  have x26 := v1.a (k := 26) (by decide) (by decide)
  have eK : kf F0 (tn F3) = ((sy_ai F3 25).getD (sy_i F3 4).toInt.toNat 0).toInt := by rw [x25]; rfl
  have eP : pf F0 (tn F3) = ((sy_ai F3 26).getD (sy_i F3 4).toInt.toNat 0).toInt := by rw [x26]; rfl
  have z4 := nz_bx v1.b (k := 4) (lo := 0) (hi := 400) rfl
  have et : (tn F3 : Int) = (sy_i F3 4).toInt := by unfold tn; omega
  have s5u : ∀ F1 : Nat → sy_d, sy_ai F1 44 = sy_ai F3 44 → sy_ai F1 45 = sy_ai F3 45 → sy_ai F1 46 = jm_upd (sy_ai F3 46) (sy_i F3 14).toInt.toNat (sy_i F3 15) → sy_ai F1 47 = sy_ai F3 47 → sy_ai F1 48 = sy_ai F3 48 → ∀ b : Nat, (b : Int) ≠ (sy_i F3 14).toInt → s5 F3 F1 b := by
    intro F1 a44 a45 a46 a47 a48 b q
    refine ⟨by rw [a44], by rw [a45], ?_, by rw [a47], by rw [a48]⟩
    rw [a46, jm_upd_at, if_neg (by omega)]
  refine tly_80 (by decide) F3 X1 X2 r1.b (by omega) (by omega) (by omega) (by omega) ?_ ?_ ?_ ?_
  · intros
    rename_i F1 hb g e4 e5 e6 e7 e8 e9 e11 e12 e14 e15 e16 a25 a26 a42 a43 a44 a45 a46 a47 a48 a49 a50 e69 e70 e71
    refine tlz_110' X1 X2 F0 k hb0 hF0 h12 F1 (lc_step hx3 hb g (by decide) (by omega) (by omega) (kp_same a49 a50) (s5u F1 a44 a45 a46 a47 a48) (by omega) (by omega) (by omega) (by omega)) ?_ (fun z => absurd z (by omega)) (fun z => absurd z (by omega)) (by omega) (by omega) (by omega)
    first
      | exact fx_same hf3 e6 e7
      | exact fx_mk (v1.u (by omega)) (by rw [hq3 (by omega), zc2, sM_no (by omega)]; rfl) e6 (e7.trans eP.symm)
      | exact fx_mk (v1.u (by omega)) (by rw [hq3 (by omega), zc2, sM_4 (by omega) (by omega)]; rfl) e6 (e7.trans eP.symm)
  · intros
    rename_i F1 hb g e4 e5 e6 e7 e8 e9 e11 e12 e14 e15 e16 a25 a26 a42 a43 a44 a45 a46 a47 a48 a49 a50 e69 e70 e71
    refine tlz_110' X1 X2 F0 k hb0 hF0 h12 F1 (lc_step hx3 hb g (by decide) (by omega) (by omega) (kp_same a49 a50) (s5u F1 a44 a45 a46 a47 a48) (by omega) (by omega) (by omega) (by omega)) ?_ (fun z => absurd z (by omega)) (fun z => absurd z (by omega)) (by omega) (by omega) (by omega)
    first
      | exact fx_same hf3 e6 e7
      | exact fx_mk (v1.u (by omega)) (by rw [hq3 (by omega), zc2, sM_no (by omega)]; rfl) e6 (e7.trans eP.symm)
      | exact fx_mk (v1.u (by omega)) (by rw [hq3 (by omega), zc2, sM_4 (by omega) (by omega)]; rfl) e6 (e7.trans eP.symm)
  · intros
    rename_i F1 hb g e4 e5 e6 e7 e8 e9 e11 e12 e14 e15 e16 a25 a26 a42 a43 a44 a45 a46 a47 a48 a49 a50 e69 e70 e71
    obtain ⟨z1, z2, z3⟩ := hi3 (by omega)
    obtain ⟨w1, w2, w3, w4⟩ := id z1
    refine tlz_107' X1 X2 F0 k hb0 hF0 h12 F1 (lc_step hx3 hb g (by decide) (by omega) (by omega) (kp_same a49 a50) (s5u F1 a44 a45 a46 a47 a48) (by omega) (by omega) (by omega) (by omega)) (by omega) (fx_same hf3 e6 e7) ⟨li_step z1 (by omega) (by omega) (by omega) (by omega) (s5u F1 a44 a45 a46 a47 a48) (kp_same a49 a50) (by omega), ?_⟩ ?_ (by omega) (by omega) (by omega)
    · have e46 : (sy_ai F1 46).getD (sy_i F3 14).toInt.toNat 0 = sy_i F3 15 := by rw [a46, jm_upd_at, if_pos rfl]
      rw [a44, a45, a49, a50, e14, e15, e46]
      exact ⟨z2, z3, rfl⟩
    · have hA : aA F0 F1 = aA F0 F3 := aA_st hb0 z1 e14 (s5u F1 a44 a45 a46 a47 a48) (kp_same a49 a50)
      have hU : uU F1 = uu1 F3 := by
        unfold uU uu1 bN ix
        rw [e14, a45, a46, jm_upd_at, if_pos rfl, cut_eq a49 a50]
      rw [hq3 (by omega), zc2, sM_ok (by omega) (by omega), tn_s z4.1 e4, hA, hU]
      rfl
  · intros
    rename_i F1 hb g e4 e5 e6 e7 e8 e9 e11 e12 e14 e15 e16 a25 a26 a42 a43 a44 a45 a46 a47 a48 a49 a50 e69 e70 e71
    refine tlz_110' X1 X2 F0 k hb0 hF0 h12 F1 (lc_step hx3 hb g (by decide) (by omega) (by omega) (kp_same a49 a50) (s5u F1 a44 a45 a46 a47 a48) (by omega) (by omega) (by omega) (by omega)) ?_ (fun z => absurd z (by omega)) (fun z => absurd z (by omega)) (by omega) (by omega) (by omega)
    first
      | exact fx_same hf3 e6 e7
      | exact fx_mk (v1.u (by omega)) (by rw [hq3 (by omega), zc2, sM_no (by omega)]; rfl) e6 (e7.trans eP.symm)
      | exact fx_mk (v1.u (by omega)) (by rw [hq3 (by omega), zc2, sM_4 (by omega) (by omega)]; rfl) e6 (e7.trans eP.symm)
theorem tz12_0 (hb0 : 0 ≤ (sy_i F0 14).toInt) (hF0 : 420 * (sy_i F0 12).toInt ≤ (sy_i F0 15).toInt) (hk : 0 ≤ k ∧ k ≤ 5) : tz12 X1 X2 F0 k Ls xs 0 := by
  intro F hx hf hi heq h69 h70 h71
  obtain ⟨x1, x2, x3, x4, x5, x6, x7⟩ := id hx
  have i12 := x1.i (k := 12) (by decide) (by decide)
  have c12 := nz_bx x1.b (k := 12) (lo := 0) (hi := 1) rfl
  have c14 := nz_bx x1.b (k := 14) (lo := 0) (hi := 260) rfl
  have q4 := nz_bx x1.b (k := 4) (lo := 0) (hi := 400) rfl
  have x25 := x1.a (k := 25) (by decide) (by decide)
  have x26 := x1.a (k := 26) (by decide) (by decide)
  have eK : kf F0 (tn F) = ((sy_ai F 25).getD (sy_i F 4).toInt.toNat 0).toInt := by rw [x25]; rfl
  have eP : pf F0 (tn F) = ((sy_ai F 26).getD (sy_i F 4).toInt.toNat 0).toInt := by rw [x26]; rfl
  have z4 := nz_bx x1.b (k := 4) (lo := 0) (hi := 400) rfl
  have et : (tn F : Int) = (sy_i F 4).toInt := by unfold tn; omega
  have s44 : ∀ (F1 : Nat → sy_d) (V : Int32), sy_ai F1 44 = jm_upd (sy_ai F 44) (sy_i F 14).toInt.toNat V → sy_ai F1 45 = sy_ai F 45 → sy_ai F1 46 = sy_ai F 46 → sy_ai F1 47 = sy_ai F 47 → sy_ai F1 48 = sy_ai F 48 → ∀ b : Nat, (b : Int) ≠ (sy_i F 14).toInt → s5 F F1 b := by
    intro F1 V a44 a45 a46 a47 a48 b q
    refine ⟨?_, by rw [a45], by rw [a46], by rw [a47], by rw [a48]⟩
    rw [a44, jm_upd_at, if_neg (by omega)]
  have s45 : ∀ (F1 : Nat → sy_d) (V V2 : Int32), sy_ai F1 44 = jm_upd (sy_ai F 44) (sy_i F 14).toInt.toNat V → sy_ai F1 45 = jm_upd (sy_ai F 45) (sy_i F 14).toInt.toNat V2 → sy_ai F1 46 = sy_ai F 46 → sy_ai F1 47 = sy_ai F 47 → sy_ai F1 48 = sy_ai F 48 → ∀ b : Nat, (b : Int) ≠ (sy_i F 14).toInt → s5 F F1 b := by
    intro F1 V V2 a44 a45 a46 a47 a48 b q
    refine ⟨?_, ?_, by rw [a46], by rw [a47], by rw [a48]⟩
    · rw [a44, jm_upd_at, if_neg (by omega)]
    · rw [a45, jm_upd_at, if_neg (by omega)]
  have hi4 : (sy_i F 6).toInt = 0 → 4 * ((sy_i F 14).toInt - 130 * (sy_i F0 12).toInt) + 2 ≤ (sy_i F 4).toInt := fun z => (hi z).2.2.1
  refine tly_12 (by decide) F X1 X2 x1.b (by omega) (by omega) (by omega) (by omega) (by omega) ?_ ?_ ?_ ?_ ?_
  · intros
    rename_i F1 hb g e4 e5 e6 e7 e8 e9 e11 e12 e14 e15 e16 a25 a26 a42 a43 a44 a45 a46 a47 a48 a49 a50 e69 e70
    refine tlz_140' X1 X2 F0 k hb0 hF0 hk F1 (lc_step hx hb g (by decide) (by omega) (by omega) (kp_same a49 a50) (s44 F1 0 a44 a45 a46 a47 a48) (by omega) (by omega) (by omega) (by omega)) (fx_same hf e6 e7) (fun z => ?_) (fun z => ?_) (by omega) (by omega)
    · have y1 := hi (by omega)
      obtain ⟨w1, w2, w3, w4⟩ := id y1
      refine ⟨li_step y1 (by omega) (by omega) (by omega) (by omega) (s44 F1 0 a44 a45 a46 a47 a48) (kp_same a49 a50) (by omega), ?_⟩
      rw [a44, e14, jm_upd_at, if_pos rfl]
    · first
        | (exfalso; omega)
        | (rw [heq (by omega), z_no (kf F0) (vf F0) (by omega), tn_eq e4, aA_st hb0 (hi (by omega)) e14 (s44 F1 0 a44 a45 a46 a47 a48) (kp_same a49 a50)])
  · intros
    rename_i F1 hb g e4 e5 e6 e7 e8 e9 e11 e12 e14 e15 e16 a25 a26 a42 a43 a44 a45 a46 a47 a48 a49 a50 e69 e70
    refine tlz_140' X1 X2 F0 k hb0 hF0 hk F1 (lc_step hx hb g (by decide) (by omega) (by omega) (kp_same a49 a50) (s44 F1 0 a44 a45 a46 a47 a48) (by omega) (by omega) (by omega) (by omega)) (fx_same hf e6 e7) (fun z => ?_) (fun z => ?_) (by omega) (by omega)
    · have y1 := hi (by omega)
      obtain ⟨w1, w2, w3, w4⟩ := id y1
      refine ⟨li_step y1 (by omega) (by omega) (by omega) (by omega) (s44 F1 0 a44 a45 a46 a47 a48) (kp_same a49 a50) (by omega), ?_⟩
      rw [a44, e14, jm_upd_at, if_pos rfl]
    · first
        | (exfalso; omega)
        | (rw [heq (by omega), z_no (kf F0) (vf F0) (by omega), tn_eq e4, aA_st hb0 (hi (by omega)) e14 (s44 F1 0 a44 a45 a46 a47 a48) (kp_same a49 a50)])
  · intros; exfalso; omega
  · intros; exfalso; omega
  · intros
    rename_i F1 hb g e4 e5 e6 e7 e8 e9 e11 e12 e14 e15 e16 a25 a26 a42 a43 a44 a45 a46 a47 a48 a49 a50
    exact ⟨F1, rfl, rfl, lc_end (lc_step hx hb g (by decide) (by omega) (by omega) (kp_same a49 a50) (fun b _ => s5_same a44 a45 a46 a47 a48 b) (by omega) (by omega) (by omega) (by omega)) (by omega), fx_mk (x1.u (by omega)) (by rw [heq (by omega), z_if0 (kf F0) (vf F0) (by omega)]) e6 (e7.trans eP.symm), fun z => absurd z (by omega)⟩
theorem tz12_s (hb0 : 0 ≤ (sy_i F0 14).toInt) (hF0 : 420 * (sy_i F0 12).toInt ≤ (sy_i F0 15).toInt) (hk : 0 ≤ k ∧ k ≤ 5) {n : Nat} (hn : n < 4) (h12 : tz12 X1 X2 F0 k Ls xs n) : tz12 X1 X2 F0 k Ls xs (n + 1) := by
  intro F hx hf hi heq h69 h70 h71
  obtain ⟨x1, x2, x3, x4, x5, x6, x7⟩ := id hx
  have i12 := x1.i (k := 12) (by decide) (by decide)
  have c12 := nz_bx x1.b (k := 12) (lo := 0) (hi := 1) rfl
  have c14 := nz_bx x1.b (k := 14) (lo := 0) (hi := 260) rfl
  have q4 := nz_bx x1.b (k := 4) (lo := 0) (hi := 400) rfl
  have x25 := x1.a (k := 25) (by decide) (by decide)
  have x26 := x1.a (k := 26) (by decide) (by decide)
  have eK : kf F0 (tn F) = ((sy_ai F 25).getD (sy_i F 4).toInt.toNat 0).toInt := by rw [x25]; rfl
  have eP : pf F0 (tn F) = ((sy_ai F 26).getD (sy_i F 4).toInt.toNat 0).toInt := by rw [x26]; rfl
  have z4 := nz_bx x1.b (k := 4) (lo := 0) (hi := 400) rfl
  have et : (tn F : Int) = (sy_i F 4).toInt := by unfold tn; omega
  have s44 : ∀ (F1 : Nat → sy_d) (V : Int32), sy_ai F1 44 = jm_upd (sy_ai F 44) (sy_i F 14).toInt.toNat V → sy_ai F1 45 = sy_ai F 45 → sy_ai F1 46 = sy_ai F 46 → sy_ai F1 47 = sy_ai F 47 → sy_ai F1 48 = sy_ai F 48 → ∀ b : Nat, (b : Int) ≠ (sy_i F 14).toInt → s5 F F1 b := by
    intro F1 V a44 a45 a46 a47 a48 b q
    refine ⟨?_, by rw [a45], by rw [a46], by rw [a47], by rw [a48]⟩
    rw [a44, jm_upd_at, if_neg (by omega)]
  have s45 : ∀ (F1 : Nat → sy_d) (V V2 : Int32), sy_ai F1 44 = jm_upd (sy_ai F 44) (sy_i F 14).toInt.toNat V → sy_ai F1 45 = jm_upd (sy_ai F 45) (sy_i F 14).toInt.toNat V2 → sy_ai F1 46 = sy_ai F 46 → sy_ai F1 47 = sy_ai F 47 → sy_ai F1 48 = sy_ai F 48 → ∀ b : Nat, (b : Int) ≠ (sy_i F 14).toInt → s5 F F1 b := by
    intro F1 V V2 a44 a45 a46 a47 a48 b q
    refine ⟨?_, ?_, by rw [a46], by rw [a47], by rw [a48]⟩
    · rw [a44, jm_upd_at, if_neg (by omega)]
    · rw [a45, jm_upd_at, if_neg (by omega)]
  have hi4 : (sy_i F 6).toInt = 0 → 4 * ((sy_i F 14).toInt - 130 * (sy_i F0 12).toInt) + 2 ≤ (sy_i F 4).toInt := fun z => (hi z).2.2.1
  refine tly_12 (by decide) F X1 X2 x1.b (by omega) (by omega) (by omega) (by omega) (by omega) ?_ ?_ ?_ ?_ ?_
  · intros
    rename_i F1 hb g e4 e5 e6 e7 e8 e9 e11 e12 e14 e15 e16 a25 a26 a42 a43 a44 a45 a46 a47 a48 a49 a50 e69 e70
    refine tlz_140' X1 X2 F0 k hb0 hF0 hk F1 (lc_step hx hb g (by decide) (by omega) (by omega) (kp_same a49 a50) (s44 F1 0 a44 a45 a46 a47 a48) (by omega) (by omega) (by omega) (by omega)) (fx_same hf e6 e7) (fun z => ?_) (fun z => ?_) (by omega) (by omega)
    · have y1 := hi (by omega)
      obtain ⟨w1, w2, w3, w4⟩ := id y1
      refine ⟨li_step y1 (by omega) (by omega) (by omega) (by omega) (s44 F1 0 a44 a45 a46 a47 a48) (kp_same a49 a50) (by omega), ?_⟩
      rw [a44, e14, jm_upd_at, if_pos rfl]
    · first
        | (exfalso; omega)
        | (rw [heq (by omega), z_no (kf F0) (vf F0) (by omega), tn_eq e4, aA_st hb0 (hi (by omega)) e14 (s44 F1 0 a44 a45 a46 a47 a48) (kp_same a49 a50)])
  · intros
    rename_i F1 hb g e4 e5 e6 e7 e8 e9 e11 e12 e14 e15 e16 a25 a26 a42 a43 a44 a45 a46 a47 a48 a49 a50 e69 e70
    refine tlz_140' X1 X2 F0 k hb0 hF0 hk F1 (lc_step hx hb g (by decide) (by omega) (by omega) (kp_same a49 a50) (s44 F1 0 a44 a45 a46 a47 a48) (by omega) (by omega) (by omega) (by omega)) (fx_same hf e6 e7) (fun z => ?_) (fun z => ?_) (by omega) (by omega)
    · have y1 := hi (by omega)
      obtain ⟨w1, w2, w3, w4⟩ := id y1
      refine ⟨li_step y1 (by omega) (by omega) (by omega) (by omega) (s44 F1 0 a44 a45 a46 a47 a48) (kp_same a49 a50) (by omega), ?_⟩
      rw [a44, e14, jm_upd_at, if_pos rfl]
    · first
        | (exfalso; omega)
        | (rw [heq (by omega), z_no (kf F0) (vf F0) (by omega), tn_eq e4, aA_st hb0 (hi (by omega)) e14 (s44 F1 0 a44 a45 a46 a47 a48) (kp_same a49 a50)])
  · intros
    rename_i F1 hb g e4 e5 e6 e7 e8 e9 e11 e12 e14 e15 e16 a25 a26 a42 a43 a44 a45 a46 a47 a48 a49 a50 e69 e70 e71
    refine tlz_77' X1 X2 F0 k hb0 hF0 h12 F1 (lc_step hx hb g (by decide) (by omega) (by omega) (kp_same a49 a50) (s45 F1 1 _ a44 a45 a46 a47 a48) (by omega) (by omega) (by omega) (by omega)) ?_ (fun z => ?_) (fun z => ?_) (by omega) (by omega) (by omega)
    · first
        | exact fx_same hf e6 e7
        | exact fx_mk (x1.u (by omega)) (by rw [heq (by omega), z_if (kf F0) (vf F0) (by omega), sG_4 (by omega)]; rfl) e6 (e7.trans eP.symm)
    · first
        | (exfalso; omega)
        | (have y1 := hi (by omega)
           obtain ⟨w1, w2, w3, w4⟩ := id y1
           refine ⟨li_step y1 (by omega) (by omega) (by omega) (by omega) (s45 F1 1 _ a44 a45 a46 a47 a48) (kp_same a49 a50) (by omega), ?_, ?_⟩
           · rw [a44, e14, jm_upd_at, if_pos rfl]
           · rw [a45, e14, e15, jm_upd_at, if_pos rfl])
    · first
        | (exfalso; omega)
        | (rw [heq (by omega), z_if (kf F0) (vf F0) (by omega), sG_ok (by omega), tn_s z4.1 e4, aA_st hb0 (hi (by omega)) e14 (s45 F1 1 _ a44 a45 a46 a47 a48) (kp_same a49 a50)]; rfl)
  · intros
    rename_i F1 hb g e4 e5 e6 e7 e8 e9 e11 e12 e14 e15 e16 a25 a26 a42 a43 a44 a45 a46 a47 a48 a49 a50 e69 e70 e71
    refine tlz_77' X1 X2 F0 k hb0 hF0 h12 F1 (lc_step hx hb g (by decide) (by omega) (by omega) (kp_same a49 a50) (s45 F1 1 _ a44 a45 a46 a47 a48) (by omega) (by omega) (by omega) (by omega)) ?_ (fun z => ?_) (fun z => ?_) (by omega) (by omega) (by omega)
    · first
        | exact fx_same hf e6 e7
        | exact fx_mk (x1.u (by omega)) (by rw [heq (by omega), z_if (kf F0) (vf F0) (by omega), sG_4 (by omega)]; rfl) e6 (e7.trans eP.symm)
    · first
        | (exfalso; omega)
        | (have y1 := hi (by omega)
           obtain ⟨w1, w2, w3, w4⟩ := id y1
           refine ⟨li_step y1 (by omega) (by omega) (by omega) (by omega) (s45 F1 1 _ a44 a45 a46 a47 a48) (kp_same a49 a50) (by omega), ?_, ?_⟩
           · rw [a44, e14, jm_upd_at, if_pos rfl]
           · rw [a45, e14, e15, jm_upd_at, if_pos rfl])
    · first
        | (exfalso; omega)
        | (rw [heq (by omega), z_if (kf F0) (vf F0) (by omega), sG_ok (by omega), tn_s z4.1 e4, aA_st hb0 (hi (by omega)) e14 (s45 F1 1 _ a44 a45 a46 a47 a48) (kp_same a49 a50)]; rfl)
  · intros; exfalso; omega
theorem tz12_4 (hb0 : 0 ≤ (sy_i F0 14).toInt) (hF0 : 420 * (sy_i F0 12).toInt ≤ (sy_i F0 15).toInt) (hk : 0 ≤ k ∧ k ≤ 5) : tz12 X1 X2 F0 k Ls xs 4 :=
  tz12_s X1 X2 F0 k hb0 hF0 hk (by decide) (tz12_s X1 X2 F0 k hb0 hF0 hk (by decide) (tz12_s X1 X2 F0 k hb0 hF0 hk (by decide) (tz12_s X1 X2 F0 k hb0 hF0 hk (by decide) (tz12_0 X1 X2 F0 k hb0 hF0 hk))))
end TLZ
theorem tlz_Rsrc {m : Int} {F F' G : Nat → sy_d} (h : tlz_R m G F') (e : ∀ q, q < 69 → G q = F q) : tlz_R m F F' := by
  obtain ⟨h1, h2, h3⟩ := h
  have i4 := nz_fi (e 4 (by decide))
  have i6 := nz_fi (e 6 (by decide))
  have i7 := nz_fi (e 7 (by decide))
  have eL : lrz G = lrz F := by unfold lrz; rw [kf_eq (e 25 (by decide)), vf_eq (e 27 (by decide)), tn_eq i4]
  rw [eL] at h2 h3
  have eA : aA G F' = aA F F' := by unfold aA; rw [nz_fi (e 14 (by decide))]
  rw [eA] at h3
  refine ⟨lc_src h1 e, ⟨fun a b => ?_, fun a => ?_⟩, h3⟩
  · obtain ⟨tok, t1, t2⟩ := h2.1 (by rw [i6]; exact a) b
    exact ⟨tok, t1, by rw [t2, pf_eq (e 26 (by decide))]⟩
  · have := h2.2 (by rw [i6]; exact a)
    rwa [i6, i7] at this
theorem tlz_Rdst {k : Int} {F F' F2 : Nat → sy_d} (h : tlz_R k F F') (e : ∀ q, q < 69 → F2 q = F' q) : tlz_R k F F2 := by
  have i4 := nz_fi (e 4 (by decide))
  have i6 := nz_fi (e 6 (by decide))
  have i7 := nz_fi (e 7 (by decide))
  exact ⟨tl_Rdst h.1 e, fx_same h.2.1 i6 i7, fun z => by rw [tn_eq i4, aA_same (nz_fi (e 14 (by decide))) (nz_fa (e 44 (by decide))) (nz_fa (e 45 (by decide))) (nz_fa (e 46 (by decide))) (nz_fa (e 47 (by decide))) (nz_fa (e 48 (by decide))) (nz_fa (e 49 (by decide))) (nz_fa (e 50 (by decide)))]; exact h.2.2 (by rw [← i6]; exact z)⟩
theorem tlz_T {Ls : Nat} {xs : Nat → Int32} (X1 X2 : List jm_c) (F : Nat → sy_d) (a : Int32) (hB : iv_in F iv_B4) (hk : 0 ≤ a.toInt ∧ a.toInt ≤ 5) (hF : 420 * (sy_i F 12).toInt ≤ (sy_i F 15).toInt) (h1 : (sy_i F 6).toInt = 0 → (sy_i F 5).toInt = 0 ∧ (sy_i F 15).toInt ≤ 420 * (sy_i F 12).toInt + (sy_i F 4).toInt ∧ 4 * ((sy_i F 14).toInt - 130 * (sy_i F 12).toInt) + 1 ≤ (sy_i F 4).toInt) (h2 : (sy_i F 15).toInt ≤ 420 * (sy_i F 12).toInt + (sy_i F 4).toInt + 1) (h3 : (sy_i F 14).toInt ≤ 130 * (sy_i F 12).toInt + 100) :
    jm_T Ls xs 6 jm_M160 [.ref 1000, .int a] (sy_dh F X1 X2 (iv_H 4)) 0 0 (tlz_Q a.toInt F X1 X2) := by
  refine nz_T1 jm_ok160 (by decide) (fun F0 k0 i69 => ?_)
  have i4 := nz_fi (k0 4 (by decide))
  have i5 := nz_fi (k0 5 (by decide))
  have i6 := nz_fi (k0 6 (by decide))
  have i12 := nz_fi (k0 12 (by decide))
  have i14 := nz_fi (k0 14 (by decide))
  have i15 := nz_fi (k0 15 (by decide))
  have c14 := nz_bx hB (k := 14) (lo := 0) (hi := 260) rfl
  have q4 := nz_bx hB (k := 4) (lo := 0) (hi := 400) rfl
  have j69 : (sy_i F0 69).toInt = a.toInt := by rw [i69]
  have eK : kf F0 (tn F0) = ((sy_ai F0 25).getD (sy_i F0 4).toInt.toNat 0).toInt := rfl
  have eP : pf F0 (tn F0) = ((sy_ai F0 26).getD (sy_i F0 4).toInt.toNat 0).toInt := rfl
  have et : (tn F0 : Int) = (sy_i F0 4).toInt := by unfold tn; omega
  refine hd_W_mono (Q := tlz_Q a.toInt F0 X1 X2) ?_ (by
    rintro v G ⟨F', rfl, rfl, hR⟩
    exact ⟨F', rfl, rfl, tlz_Rsrc hR k0⟩)
  refine tly_0 (by decide) F0 X1 X2 (hd_iveq hB k0) ?_ ?_ ?_ ?_
  all_goals
    intros
    rename_i F1 hb g e4 e5 e6 e7 e8 e9 e11 e12 e14 e15 e16 a25 a26 a42 a43 a44 a45 a46 a47 a48 a49 a50 e69 e70 e71
    refine tz12_4 X1 X2 F0 a.toInt (by omega) (by omega) hk F1 ⟨gr_mk hb g (by decide) (by omega) (by omega), kp_same a49 a50, fun b _ => s5_same a44 a45 a46 a47 a48 b, by omega, by omega, by omega, by omega⟩ ?_ (fun z => ⟨by omega, by omega, by omega, fun b q1 q2 => absurd q2 (by omega)⟩) (fun z => ?_) (by omega) (by omega) (by omega)
  all_goals first
    | exact ⟨fun z => absurd z (by omega), fun _ => ⟨e6, e7⟩⟩
    | exact fx_ok (by omega) (by omega)
    | exact fx_mk (by omega) (by show sB (sM _ _ _) _ = _; rw [sM_no (by omega)]; rfl) e6 (e7.trans eP.symm)
    | exact fx_mk (by omega) (by show sB (sM _ _ _) _ = _; rw [sM_4 (by omega) (by omega)]; rfl) e6 (e7.trans eP.symm)
    | (exfalso; omega)
    | (show sB (sM _ _ _) _ = _
       have hA : aA F0 F1 = [] := by
         unfold aA
         rw [show ((sy_i F1 14).toInt - (sy_i F0 14).toInt).toNat = 0 by omega]
         rfl
       rw [sM_ok (by omega) (by omega), tn_s (by omega) e4, hA]
       rfl)
