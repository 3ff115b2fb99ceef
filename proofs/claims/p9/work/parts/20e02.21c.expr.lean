/-! ===== the reference puts an expression ===== -/
noncomputable def c0f (F0 : Nat → sy_d) : Nat := (sy_i F0 15).toInt.toNat
noncomputable def crr (F0 : Nat → sy_d) : sE ⊕ (Nat × List rO) := cX (kf F0) (vf F0) (tn F0) [] 0 []
noncomputable def zc (F0 F : Nat → sy_d) : Prop := xc F0 F ∧ fx (crr F0) F0 F
noncomputable def zi (k : Nat) (F0 F : Nat → sy_d) : Prop := xi k F0 F ∧ crr F0 = cX (kf F0) (vf F0) (tn F) (wW F) k (oO (c0f F0) F)
noncomputable def zr (F0 F' : Nat → sy_d) : Prop := xr F0 F' ∧ fx (crr F0) F0 F' ∧ ((sy_i F' 6).toInt = 0 → crr F0 = .inr (tn F', oO (c0f F0) F'))
noncomputable def ez_Q (F0 : Nat → sy_d) (X1 X2 : List jm_c) (v : Option Value) (G : jm_h) : Prop := ∃ F' : Nat → sy_d, v = none ∧ G = sy_dh F' X1 X2 (iv_H 4) ∧ zr F0 F'
theorem zr_dst {F F' F2 : Nat → sy_d} (h : zr F F') (e : ∀ q, q < 69 → F2 q = F' q) : zr F F2 := by
  have i4 := nz_fi (e 4 (by decide))
  have i6 := nz_fi (e 6 (by decide))
  have i7 := nz_fi (e 7 (by decide))
  exact ⟨xr_dst h.1 e, fx_same h.2.1 i6 i7, fun z => by rw [tn_eq i4, oO_eq (nz_fa (e 49 (by decide))) (nz_fa (e 50 (by decide))) (nz_fi (e 15 (by decide)))]; exact h.2.2 (by rw [← i6]; exact z)⟩
section EZ
variable {Ls : Nat} {xs : Nat → Int32} (X1 X2 : List jm_c) (F0 : Nat → sy_d)
theorem ez_206' {F : Nat → sy_d} (h0 : 0 ≤ (sy_i F0 15).toInt) (hx : zc F0 F) (hc : (sy_i F 6).toInt ≠ 0 ∨ (zi 1 F0 F ∧ (sy_i F 5).toInt = 0 ∧ ¬ (kf F0 (tn F) = 8 ∨ kf F0 (tn F) = 9 ∨ kf F0 (tn F) = 10 ∨ kf F0 (tn F) = 15))) :
    hd_W Ls xs 4 jm_M164 (ez_Q F0 X1 X2) (206, sy_dL F [some (.inl (.ref 1000)), none, none], sy_dS F [.inl (.int 0), .inl (.ref 1000)], sy_dh F X1 X2 (iv_H 4), 0, 0) := by
  have x4 := hx.1.2.2.2
  have c4 := nz_bx hx.1.1.b (k := 4) (lo := 0) (hi := 400) rfl
  have c12 := nz_bx hx.1.1.b (k := 12) (lo := 0) (hi := 1) rfl
  have i12 := hx.1.1.i (k := 12) (by decide) (by decide)
  refine hd_calV (R := cz_R 0 F) (nh := 69) (nv := 69) (s := 4) (s1 := 4) (d1 := 2) (M1 := jm_M163) (As := [.inl (.ref 1000), .inl (.int 0)]) (rest := []) jm_ok164 rfl rfl (by decide) (by decide +kernel) (cz_T X1 X2 F hx.1.1.b (by omega) 0) (fun F3 F' hR p1 _ => ?_)
  have hR4 := cz_Rdst hR p1
  have hR3 := hR4.1
  have k4 := hR3.1.i (k := 4) (by decide) (by decide)
  have k6 := hR3.1.i (k := 6) (by decide) (by decide)
  have k7 := hR3.1.i (k := 7) (by decide) (by decide)
  refine exy_209 (by decide) F3 X1 X2 hR3.1.b ?_
  intro F1 hb g e4 e5 e6 e7 e11 e12 e14 e15 e16 a25 a26 a49 a50 a51
  have hxr := xr_dst (ex_fin F0 hx.1 (hc.imp id (fun q => ⟨q.1.1, q.2.1⟩)) hR3 h0) (F2 := F1) (fun q hq => g q hq (by simp))
  refine ⟨F1, rfl, rfl, hxr, fx_same hx.2 (by omega) (by omega), fun z => ?_⟩
  rcases hc with hc | ⟨⟨hxi, hc⟩, h5, hn⟩
  · exact absurd z (by omega)
  · obtain ⟨-, -, -, g', o, p, y4, y5, -⟩ := hxi
    have hop : opn (wW F) = 0 := (opn_ws y4).trans (by omega)
    have ho : oO (c0f F0) F1 = oO (c0f F0) F ++ (coS false (wW F)).2 := by
      rw [oO_eq a49 a50 e15]
      exact hR4.2.2 (c0f F0) (by unfold c0f; have := hx.1.2.2.1; omega)
    have : tn F1 = tn F := tn_eq (by omega)
    rw [hc, this, ho]
    exact cX_e0 (by unfold tn; omega) hn hop
theorem ez_96F {F : Nat → sy_d} (h0 : 0 ≤ (sy_i F0 15).toInt) (hx : zc F0 F) (hf : (sy_i F 6).toInt ≠ 0) :
    hd_W Ls xs 4 jm_M164 (ez_Q F0 X1 X2) (96, sy_dL F [some (.inl (.ref 1000)), some (.inr (.inl 69)), some (.inl (.int 1))], sy_dS F [], sy_dh F X1 X2 (iv_H 4), 0, 0) := by
  have x4 := hx.1.2.2.2
  refine exy_96 (by decide) F X1 X2 hx.1.1.b ?_ ?_ ?_ ?_ ?_ ?_ ?_ ?_ ?_ ?_ ?_
  iterate 2
    intros
    rename_i F1 hb g e4 e5 e6 e7 e11 e12 e14 e15 e16 a25 a26 a49 a50 a51
    exact ez_206' X1 X2 F0 h0 ⟨xc_step hx.1 hb g (by decide) (by omega) (by omega) (kp_same a49 a50) (by omega) (by omega), fx_same hx.2 e6 e7⟩ (Or.inl (by omega))
  all_goals (intros; exfalso; omega)
theorem ez_stop {F1 : Nat → sy_d} (hx : zc F0 F1) (hf : (sy_i F1 6).toInt ≠ 0) : zr F0 F1 := ⟨ex_stop (F := F1) F0 hx.1 hf, hx.2, fun z => absurd z hf⟩
theorem ez_23F {F : Nat → sy_d} (hx : zc F0 F) (hf : (sy_i F 6).toInt ≠ 0) :
    hd_W Ls xs 4 jm_M164 (ez_Q F0 X1 X2) (23, sy_dL F [some (.inl (.ref 1000)), some (.inr (.inl 69)), some (.inl (.int 1))], sy_dS F [], sy_dh F X1 X2 (iv_H 4), 0, 0) := by
  have x4 := hx.1.2.2.2
  refine exy_23 (by decide) F X1 X2 hx.1.1.b (by omega) (by omega) (by omega) (by omega) (by omega) (by omega) (by omega) (by omega) (by omega) (by omega) (by omega) (by omega) (by omega) (by omega) (by omega) (by omega) ?_ ?_ ?_ ?_ ?_ ?_ ?_ ?_ ?_ ?_
  · intros
    rename_i F1 hb g e4 e5 e6 e7 e11 e12 e14 e15 e16 a25 a26 a49 a50 a51
    exact ⟨F1, rfl, rfl, ez_stop F0 ⟨xc_step hx.1 hb g (by decide) (by omega) (by omega) (kp_same a49 a50) (by omega) (by omega), fx_same hx.2 e6 e7⟩ (by omega)⟩
  all_goals (intros; exfalso; omega)
theorem ez_12F {F : Nat → sy_d} (hx : zc F0 F) (hf : (sy_i F 6).toInt ≠ 0) :
    hd_W Ls xs 4 jm_M164 (ez_Q F0 X1 X2) (12, sy_dL F [some (.inl (.ref 1000)), some (.inr (.inl 69)), some (.inl (.int 1))], sy_dS F [], sy_dh F X1 X2 (iv_H 4), 0, 0) := by
  have x4 := hx.1.2.2.2
  refine exy_12 (by decide) F X1 X2 hx.1.1.b ?_ ?_
  · intros
    rename_i F1 hb g e4 e5 e6 e7 e11 e12 e14 e15 e16 a25 a26 a49 a50 a51
    exact ⟨F1, rfl, rfl, ez_stop F0 ⟨xc_step hx.1 hb g (by decide) (by omega) (by omega) (kp_same a49 a50) (by omega) (by omega), fx_same hx.2 e6 e7⟩ (by omega)⟩
  all_goals (intros; exfalso; omega)
noncomputable def z96 (Ls : Nat) (xs : Nat → Int32) (n : Nat) : Prop := ∀ F : Nat → sy_d, zc F0 F → zi 1 F0 F → (sy_i F 69).toInt = 0 → 400 - (sy_i F 4).toInt < n →
    hd_W Ls xs 4 jm_M164 (ez_Q F0 X1 X2) (96, sy_dL F [some (.inl (.ref 1000)), some (.inr (.inl 69)), some (.inl (.int 1))], sy_dS F [], sy_dh F X1 X2 (iv_H 4), 0, 0)
noncomputable def z23 (Ls : Nat) (xs : Nat → Int32) (n : Nat) : Prop := ∀ F : Nat → sy_d, zc F0 F → zi 0 F0 F → (sy_i F 69).toInt = 0 → 400 - (sy_i F 4).toInt < n →
    hd_W Ls xs 4 jm_M164 (ez_Q F0 X1 X2) (23, sy_dL F [some (.inl (.ref 1000)), some (.inr (.inl 69)), some (.inl (.int 1))], sy_dS F [], sy_dh F X1 X2 (iv_H 4), 0, 0)
noncomputable def z12 (Ls : Nat) (xs : Nat → Int32) (n : Nat) : Prop := ∀ F : Nat → sy_d, zc F0 F → zi 0 F0 F → (sy_i F 69).toInt = 0 → 400 - (sy_i F 4).toInt < n →
    hd_W Ls xs 4 jm_M164 (ez_Q F0 X1 X2) (12, sy_dL F [some (.inl (.ref 1000)), some (.inr (.inl 69)), some (.inl (.int 1))], sy_dS F [], sy_dh F X1 X2 (iv_H 4), 0, 0)
theorem z12_of {n : Nat} (h : z23 X1 X2 F0 Ls xs n) : z12 X1 X2 F0 Ls xs n := by
  intro F hx hi h69 hn
  have x4 := hx.1.2.2.2
  obtain ⟨⟨y1, y2, -, g', o, p, y4, y5, y6⟩, yE⟩ := hi
  have u0 := hx.1.1.u y1.1
  refine exy_12 (by decide) F X1 X2 hx.1.1.b ?_ ?_
  · intros; exfalso; omega
  · intro q F1 hb g e4 e5 e6 e7 e11 e12 e14 e15 e16 a25 a26 a49 a50 a51 e69
    refine h F1 ⟨xc_step hx.1 hb g (by decide) (by omega) (by omega) (kp_same a49 a50) (by omega) (by omega), fx_ok u0 (by omega)⟩ ⟨⟨by omega, by omega, fun z => absurd z (by decide), g', o, p, by rw [a51, e16]; exact y4, by omega, by rw [a49, a50, e15]; exact y6⟩, ?_⟩ (by omega) (by omega)
    rw [tn_eq e4, wW_eq a51 e16, oO_eq a49 a50 e15]
    exact yE
theorem z23_of {n : Nat} (h0 : 0 ≤ (sy_i F0 15).toInt) (h23 : z23 X1 X2 F0 Ls xs n) (h96 : z96 X1 X2 F0 Ls xs n) : z23 X1 X2 F0 Ls xs (n + 1) := by
  intro F hx hi h69 hn
  have x3 := hx.1.2.2.1
  have x4 := hx.1.2.2.2
  have c4 := nz_bx hx.1.1.b (k := 4) (lo := 0) (hi := 400) rfl
  have c5 := nz_bx hx.1.1.b (k := 5) (lo := 0) (hi := 7) rfl
  have c12 := nz_bx hx.1.1.b (k := 12) (lo := 0) (hi := 1) rfl
  have c15 := nz_bx hx.1.1.b (k := 15) (lo := 0) (hi := 840) rfl
  have c16 := nz_bx hx.1.1.b (k := 16) (lo := 0) (hi := 64) rfl
  have i12 := hx.1.1.i (k := 12) (by decide) (by decide)
  have x25 := hx.1.1.a (k := 25) (by decide) (by decide)
  have x26 := hx.1.1.a (k := 26) (by decide) (by decide)
  have eK : kf F0 (tn F) = ((sy_ai F 25).getD (sy_i F 4).toInt.toNat 0).toInt := by rw [x25]; rfl
  have eP : pf F0 (tn F) = ((sy_ai F 26).getD (sy_i F 4).toInt.toNat 0).toInt := by rw [x26]; rfl
  have et : (tn F : Int) = (sy_i F 4).toInt := by unfold tn; omega
  have t1 := hx.1.1.t
  obtain ⟨⟨y1, y2, -, g', o, p, y4, y5, y6⟩, yE⟩ := hi
  have u0 := hx.1.1.u y1.1
  obtain ⟨w1, w2, w3⟩ := ws_n y4
  have hop : (opn (wW F) : Int) = (sy_i F 5).toInt := (congrArg Int.ofNat (opn_ws y4)).trans y5
  have x27 := hx.1.1.a (k := 27) (by decide) (by decide)
  have eV : vf F0 (tn F) = ((sy_ai F 27).getD (sy_i F 4).toInt.toNat 0).toInt := by rw [x27]; rfl
  have hc0 : (c0f F0 : Int) ≤ (sy_i F 15).toInt := by unfold c0f; omega
  have ec : (sy_i F0 15).toInt.toNat + ((sy_i F 15).toInt - (sy_i F0 15).toInt).toNat = (sy_i F 15).toInt.toNat := by omega
  have en : ((sy_i F 15).toInt + 1 - (sy_i F0 15).toInt).toNat = ((sy_i F 15).toInt - (sy_i F0 15).toInt).toNat + 1 := by omega
  have e16n : ((sy_i F 16).toInt + 1).toNat = (sy_i F 16).toInt.toNat + 1 := by omega
  refine exy_23 (by decide) F X1 X2 hx.1.1.b (by omega) (by omega) (by omega) (by omega) (by omega) (by omega) (by omega) (by omega) (by omega) (by omega) (by omega) (by omega) (by omega) (by omega) (by omega) (by omega) ?_ ?_ ?_ ?_ ?_ ?_ ?_ ?_ ?_ ?_
  · intros; exfalso; omega
  · intros
    rename_i F1 hb g e4 e5 e6 e7 e11 e12 e14 e15 e16 a25 a26 a49 a50 a51
    exact ⟨F1, rfl, rfl, ez_stop F0 ⟨xc_step hx.1 hb g (by decide) (by omega) (by omega) (kp_same a49 a50) (by omega) (by omega), fx_mk u0 (yE.trans (cX_u1 (by omega) (by omega) (by omega) (by omega))) e6 (e7.trans eP.symm)⟩ (by omega)⟩
  · intro _ _ _ _ _ q1 q2 _ _ F1 hb g e4 e5 e6 e7 e11 e12 e14 e15 e16 a25 a26 a49 a50 a51 e69
    have ts : tn F1 = tn F + 1 := tn_s c4.1 e4
    refine h96 F1 ⟨xc_step hx.1 hb g (by decide) (by omega) (by omega) (kp_upd (by omega) e15 a49 a50) (by omega) (by omega), fx_ok u0 (by omega)⟩ ⟨⟨by omega, by omega, fun _ => by omega, g', o, p, by rw [a51, e16]; exact y4, by omega, ?_⟩, ?_⟩ (by omega) (by omega)
    · rw [e15, en]
      refine rd_push (K := 1) y6 (by rw [a49, ec]) (by rw [a50, ec]) (by decide) (fun _ => ?_)
      rw [nz_sub (rfl : ((sy_ai F 25).getD (sy_i F 4).toInt.toNat 0).toInt = _) (by decide : ((34 : Int32)).toInt = 34) (by omega) (by omega)]
      omega
    · rw [ts, wW_eq a51 e16, oO_up hc0 e15 a49 a50, nz_sub (rfl : ((sy_ai F 25).getD (sy_i F 4).toInt.toNat 0).toInt = _) (by decide : ((34 : Int32)).toInt = 34) (by omega) (by omega), ← eK]
      exact yE.trans (cX_v (by omega) (by omega))
  · intros
    rename_i F1 hb g e4 e5 e6 e7 e11 e12 e14 e15 e16 a25 a26 a49 a50 a51
    exact ⟨F1, rfl, rfl, ez_stop F0 ⟨xc_step hx.1 hb g (by decide) (by omega) (by omega) (kp_upd (by omega) e15 a49 a50) (by omega) (by omega), fx_mk u0 (yE.trans (cX_u4 (by omega) (by omega))) e6 (e7.trans eP.symm)⟩ (by omega)⟩
  · intro _ _ _ _ _ _ F1 hb g e4 e5 e6 e7 e11 e12 e14 e15 e16 a25 a26 a49 a50 a51 e69
    have ts : tn F1 = tn F + 1 := tn_s c4.1 e4
    refine h96 F1 ⟨xc_step hx.1 hb g (by decide) (by omega) (by omega) (kp_upd (by omega) e15 a49 a50) (by omega) (by omega), fx_ok u0 (by omega)⟩ ⟨⟨by omega, by omega, fun _ => by omega, g', o, p, by rw [a51, e16]; exact y4, by omega, ?_⟩, ?_⟩ (by omega) (by omega)
    · rw [e15, en]
      exact rd_push (K := 0) y6 (by rw [a49, ec]) (by rw [a50, ec]) (by decide) (fun z => absurd z (by decide))
    · rw [ts, wW_eq a51 e16, oO_up hc0 e15 a49 a50, ← eV]
      exact yE.trans (cX_i (by omega) (by omega))
  · intros
    rename_i F1 hb g e4 e5 e6 e7 e11 e12 e14 e15 e16 a25 a26 a49 a50 a51
    exact ⟨F1, rfl, rfl, ez_stop F0 ⟨xc_step hx.1 hb g (by decide) (by omega) (by omega) (kp_upd (by omega) e15 a49 a50) (by omega) (by omega), fx_mk u0 (yE.trans (cX_u4 (by omega) (by omega))) e6 (e7.trans eP.symm)⟩ (by omega)⟩
  · intros
    rename_i F1 hb g e4 e5 e6 e7 e11 e12 e14 e15 e16 a25 a26 a49 a50 a51 e69
    have ts : tn F1 = tn F + 1 := tn_s c4.1 e4
    refine h23 F1 ⟨xc_step hx.1 hb g (by decide) (by omega) (by omega) (kp_same a49 a50) (by omega) (by omega), fx_ok u0 (by omega)⟩ ⟨⟨by omega, by omega, fun z => absurd z (by decide), 0, o + 1, p, ?_, by omega, by rw [a49, a50, e15]; exact y6⟩, ?_⟩ (by omega) (by omega)
    · rw [a51, e16, e16n]
      exact .opn (ws_upd y4) (by rw [ws_at]; decide)
    · have eW : wW F1 = 6 :: wW F := by
        unfold wW
        rw [a51, e16, e16n]
        exact wlf_up
      rw [ts, eW, oO_eq a49 a50 e15]
      exact yE.trans (cX_o (by omega) (by omega) (by omega))
  · intros
    rename_i F1 hb g e4 e5 e6 e7 e11 e12 e14 e15 e16 a25 a26 a49 a50 a51 e69
    exact ez_23F X1 X2 F0 ⟨xc_step hx.1 hb g (by decide) (by omega) (by omega) (kp_same a49 a50) (by omega) (by omega), fx_mk u0 (yE.trans (cX_o6 (by omega) (by omega) (Or.inr (by omega)))) e6 (e7.trans eP.symm)⟩ (by omega)
  · intros
    rename_i F1 hb g e4 e5 e6 e7 e11 e12 e14 e15 e16 a25 a26 a49 a50 a51 e69
    exact ez_23F X1 X2 F0 ⟨xc_step hx.1 hb g (by decide) (by omega) (by omega) (kp_same a49 a50) (by omega) (by omega), fx_mk u0 (yE.trans (cX_o6 (by omega) (by omega) (Or.inl (by omega)))) e6 (e7.trans eP.symm)⟩ (by omega)
  · intros
    rename_i F1 hb g e4 e5 e6 e7 e11 e12 e14 e15 e16 a25 a26 a49 a50 a51 e69
    exact ez_23F X1 X2 F0 ⟨xc_step hx.1 hb g (by decide) (by omega) (by omega) (kp_same a49 a50) (by omega) (by omega), fx_mk u0 (yE.trans (cX_o6 (by omega) (by omega) (Or.inl (by omega)))) e6 (e7.trans eP.symm)⟩ (by omega)
theorem ez_234' {n : Nat} {F : Nat → sy_d} (h0 : 0 ≤ (sy_i F0 15).toInt) (h12 : z12 X1 X2 F0 Ls xs n) (hx : zc F0 F) (hi : zi 1 F0 F) (h69 : (sy_i F 69).toInt = 0) (hn : 400 - (sy_i F 4).toInt < n + 1) (hk : ((sy_i F 70).toInt = 0 ∧ (((sy_ai F 25).getD (sy_i F 4).toInt.toNat 0).toInt = 8 ∨ ((sy_ai F 25).getD (sy_i F 4).toInt.toNat 0).toInt = 9)) ∨ ((sy_i F 70).toInt ≠ 0 ∧ (((sy_ai F 25).getD (sy_i F 4).toInt.toNat 0).toInt = 10 ∨ ((sy_ai F 25).getD (sy_i F 4).toInt.toNat 0).toInt = 15))) :
    hd_W Ls xs 4 jm_M164 (ez_Q F0 X1 X2) (234, sy_dL F [some (.inl (.ref 1000)), some (.inr (.inl 69)), some (.inl (.int 1))], sy_dS F [.inr (.inl 70), .inl (.ref 1000)], sy_dh F X1 X2 (iv_H 4), 0, 0) := by
  have x3 := hx.1.2.2.1
  have x4 := hx.1.2.2.2
  have c4 := nz_bx hx.1.1.b (k := 4) (lo := 0) (hi := 400) rfl
  have c5 := nz_bx hx.1.1.b (k := 5) (lo := 0) (hi := 7) rfl
  have c12 := nz_bx hx.1.1.b (k := 12) (lo := 0) (hi := 1) rfl
  have c15 := nz_bx hx.1.1.b (k := 15) (lo := 0) (hi := 840) rfl
  have c16 := nz_bx hx.1.1.b (k := 16) (lo := 0) (hi := 64) rfl
  have i12 := hx.1.1.i (k := 12) (by decide) (by decide)
  have x25 := hx.1.1.a (k := 25) (by decide) (by decide)
  have x26 := hx.1.1.a (k := 26) (by decide) (by decide)
  have eK : kf F0 (tn F) = ((sy_ai F 25).getD (sy_i F 4).toInt.toNat 0).toInt := by rw [x25]; rfl
  have eP : pf F0 (tn F) = ((sy_ai F 26).getD (sy_i F 4).toInt.toNat 0).toInt := by rw [x26]; rfl
  have et : (tn F : Int) = (sy_i F 4).toInt := by unfold tn; omega
  have t1 := hx.1.1.t
  obtain ⟨hi, yE⟩ := hi
  have hop : (opn (wW F) : Int) = (sy_i F 5).toInt := by
    obtain ⟨-, -, -, g', o, p, y4, y5, -⟩ := id hi
    exact (congrArg Int.ofNat (opn_ws y4)).trans y5
  have u0 := hx.1.1.u hi.1.1
  refine hd_calV (R := cz_R (sy_i F 70).toInt F) (nh := 69) (nv := 71) (s := 4) (s1 := 4) (d1 := 2) (M1 := jm_M163) (As := [.inl (.ref 1000), .inr (.inl 70)]) (rest := []) jm_ok164 rfl rfl (by decide) (by decide +kernel) (cz_T X1 X2 F hx.1.1.b (by omega) (sy_i F 70)) (fun F3 F' hR p1 p2 => ?_)
  have hR4 := cz_Rdst hR p1
  have hR3 := hR4.1
  have j69 := nz_fi (p2 69 (by decide) (by decide))
  have k4 := hR3.1.i (k := 4) (by decide) (by decide)
  have k5 := hR3.1.i (k := 5) (by decide) (by decide)
  have k25 := hR3.1.a (k := 25) (by decide) (by decide)
  have k26 := hR3.1.a (k := 26) (by decide) (by decide)
  obtain ⟨hx3, ⟨y1, y2, y3⟩, g', o, p, z1, z2, z3, z4, z5⟩ := ex_co F0 h0 hx.1 hi hR3
  obtain ⟨w1, w2, w3⟩ := ws_n z1
  have d5 := nz_bx hx3.1.b (k := 5) (lo := 0) (hi := 7) rfl
  have d16 := nz_bx hx3.1.b (k := 16) (lo := 0) (hi := 64) rfl
  have e16n : ((sy_i F3 16).toInt + 1).toNat = (sy_i F3 16).toInt.toNat + 1 := by omega
  have t3 : tn F3 = tn F := tn_eq k4
  refine exy_237 (by decide) F3 X1 X2 hx3.1.b (by omega) (by omega) (by omega) (by omega) ?_ ?_ ?_
  · intros
    rename_i F1 hb g e4 e5 e6 e7 e11 e12 e14 e15 e16 a25 a26 a49 a50 a51 e69
    have ts : tn F1 = tn F + 1 := by rw [← t3]; exact tn_s (by omega) e4
    have eB : decide ((sy_i F 70).toInt ≠ 0) = decide (kf F0 (tn F) = 10 ∨ kf F0 (tn F) = 15) := by
      rw [eK]
      by_cases q : (sy_i F 70).toInt = 0
      · rw [decide_eq_false (by omega), decide_eq_false (by omega)]
      · rw [decide_eq_true q, decide_eq_true (by omega)]
    have eW : wW F1 = kf F0 (tn F) :: (coS (decide (kf F0 (tn F) = 10 ∨ kf F0 (tn F) = 15)) (wW F)).1 := by
      rw [← eB, ← hR4.2.1, eK, ← k25, ← k4]
      unfold wW
      rw [a51, e16, e16n]
      exact wlf_up
    have eO : oO (c0f F0) F1 = oO (c0f F0) F ++ (coS (decide (kf F0 (tn F) = 10 ∨ kf F0 (tn F) = 15)) (wW F)).2 := by
      rw [← eB, oO_eq a49 a50 e15]
      exact hR4.2.2 (c0f F0) (by unfold c0f; omega)
    have yE2 : crr F0 = cX (kf F0) (vf F0) (tn F1) (wW F1) 0 (oO (c0f F0) F1) := by
      rw [ts, eW, eO]
      exact yE.trans (cX_b (by omega) (by omega))
    refine h12 F1 ⟨xc_step hx3 hb g (by decide) (by omega) (by omega) (kp_same a49 a50) (by omega) (by omega), fx_ok u0 (by omega)⟩ ⟨?_, yE2⟩ (by omega) (by omega)
    rcases hk with ⟨hb0, hk⟩ | hk
    · have hg := z5 hb0
      subst hg
      refine ⟨by omega, by omega, fun z => absurd z (by decide), 1, o, p + 1, ?_, by omega, by rw [a49, a50, e15]; exact z3⟩
      rw [a51, e16, e16n]
      exact .pm (ws_upd z1) (by rw [ws_at, k25, k4]; exact hk)
    · refine ⟨by omega, by omega, fun z => absurd z (by decide), 2, o, p + 1, ?_, by omega, by rw [a49, a50, e15]; exact z3⟩
      rw [a51, e16, e16n]
      exact .td (ws_upd z1) z4 (by rw [ws_at, k25, k4]; exact hk.2)
  · intros
    rename_i F1 hb g e4 e5 e6 e7 e11 e12 e14 e15 e16 a25 a26 a49 a50 a51 e69
    exact ez_12F X1 X2 F0 ⟨xc_step hx3 hb g (by decide) (by omega) (by omega) (kp_same a49 a50) (by omega) (by omega), fx_mk u0 (yE.trans (cX_b4 (by omega) (by omega))) e6 (by rw [e7, k26, k4]; exact eP.symm)⟩ (by omega)
  · intros; exfalso; omega
theorem ez_115' {n : Nat} {F : Nat → sy_d} (h0 : 0 ≤ (sy_i F0 15).toInt) (h96 : z96 X1 X2 F0 Ls xs n) (hx : zc F0 F) (hi : zi 1 F0 F) (h69 : (sy_i F 69).toInt = 0) (hn : 400 - (sy_i F 4).toInt < n + 1) (ho : 0 < (sy_i F 5).toInt) (hk : ((sy_ai F 25).getD (sy_i F 4).toInt.toNat 0).toInt = 7) :
    hd_W Ls xs 4 jm_M164 (ez_Q F0 X1 X2) (115, sy_dL F [some (.inl (.ref 1000)), some (.inr (.inl 69)), some (.inl (.int 1))], sy_dS F [.inl (.int 0), .inl (.ref 1000)], sy_dh F X1 X2 (iv_H 4), 0, 0) := by
  have x3 := hx.1.2.2.1
  have x4 := hx.1.2.2.2
  have c4 := nz_bx hx.1.1.b (k := 4) (lo := 0) (hi := 400) rfl
  have c5 := nz_bx hx.1.1.b (k := 5) (lo := 0) (hi := 7) rfl
  have c12 := nz_bx hx.1.1.b (k := 12) (lo := 0) (hi := 1) rfl
  have c15 := nz_bx hx.1.1.b (k := 15) (lo := 0) (hi := 840) rfl
  have c16 := nz_bx hx.1.1.b (k := 16) (lo := 0) (hi := 64) rfl
  have i12 := hx.1.1.i (k := 12) (by decide) (by decide)
  have x25 := hx.1.1.a (k := 25) (by decide) (by decide)
  have x26 := hx.1.1.a (k := 26) (by decide) (by decide)
  have eK : kf F0 (tn F) = ((sy_ai F 25).getD (sy_i F 4).toInt.toNat 0).toInt := by rw [x25]; rfl
  have eP : pf F0 (tn F) = ((sy_ai F 26).getD (sy_i F 4).toInt.toNat 0).toInt := by rw [x26]; rfl
  have et : (tn F : Int) = (sy_i F 4).toInt := by unfold tn; omega
  have t1 := hx.1.1.t
  obtain ⟨hi, yE⟩ := hi
  have hop : (opn (wW F) : Int) = (sy_i F 5).toInt := by
    obtain ⟨-, -, -, g', o, p, y4, y5, -⟩ := id hi
    exact (congrArg Int.ofNat (opn_ws y4)).trans y5
  have u0 := hx.1.1.u hi.1.1
  refine hd_calV (R := cz_R 0 F) (nh := 69) (nv := 70) (s := 4) (s1 := 4) (d1 := 2) (M1 := jm_M163) (As := [.inl (.ref 1000), .inl (.int 0)]) (rest := []) jm_ok164 rfl rfl (by decide) (by decide +kernel) (cz_T X1 X2 F hx.1.1.b (by omega) 0) (fun F3 F' hR p1 p2 => ?_)
  have hR4 := cz_Rdst hR p1
  have hR3 := hR4.1
  have j69 := nz_fi (p2 69 (by decide) (by decide))
  have k4 := hR3.1.i (k := 4) (by decide) (by decide)
  have k5 := hR3.1.i (k := 5) (by decide) (by decide)
  have k26 := hR3.1.a (k := 26) (by decide) (by decide)
  obtain ⟨hx3, ⟨y1, y2, y3⟩, g', o, p, z1, z2, z3, z4, z5⟩ := ex_co F0 h0 hx.1 hi hR3
  obtain ⟨w1, w2, w3⟩ := ws_n z1
  have d5 := nz_bx hx3.1.b (k := 5) (lo := 0) (hi := 7) rfl
  have d16 := nz_bx hx3.1.b (k := 16) (lo := 0) (hi := 64) rfl
  have hg := z5 rfl
  subst hg
  rw [show (sy_i F3 16).toInt.toNat = ((sy_i F3 16).toInt - 1).toNat + 1 by omega] at z1
  obtain ⟨g2, o', rfl, v1⟩ := ws_open z1
  have t3 : tn F3 = tn F := tn_eq k4
  refine exy_118 (by decide) F3 X1 X2 hx3.1.b (by omega) (by omega) (by omega) (by omega) (by omega) (by omega) ?_ ?_ ?_
  · intros
    rename_i F1 hb g e4 e5 e6 e7 e11 e12 e14 e15 e16 a25 a26 a49 a50 a51 e69
    have ts : tn F1 = tn F + 1 := by rw [← t3]; exact tn_s (by omega) e4
    have eW : wW F1 = (coS false (wW F)).1.tail := by
      have q : wW F3 = (coS false (wW F)).1 := hR4.2.1
      rw [← q, wW_s (F := F3) (by omega)]
      unfold wW
      rw [a51, e16]
      rfl
    have eO : oO (c0f F0) F1 = oO (c0f F0) F ++ (coS false (wW F)).2 := by
      rw [oO_eq a49 a50 e15]
      exact hR4.2.2 (c0f F0) (by unfold c0f; omega)
    have yE2 : crr F0 = cX (kf F0) (vf F0) (tn F1) (wW F1) 1 (oO (c0f F0) F1) := by
      rw [ts, eW, eO]
      exact yE.trans (cX_c (by omega) (by omega) (by omega))
    exact h96 F1 ⟨xc_step hx3 hb g (by decide) (by omega) (by omega) (kp_same a49 a50) (by omega) (by omega), fx_ok u0 (by omega)⟩ ⟨⟨by omega, by omega, fun _ => by omega, g2, o', p, by rw [a51, e16]; exact v1, by omega, by rw [a49, a50, e15]; exact z3⟩, yE2⟩ (by omega) (by omega)
  · intros
    rename_i F1 hb g e4 e5 e6 e7 e11 e12 e14 e15 e16 a25 a26 a49 a50 a51 e69
    exact ez_96F X1 X2 F0 h0 ⟨xc_step hx3 hb g (by decide) (by omega) (by omega) (kp_same a49 a50) (by omega) (by omega), fx_mk u0 (yE.trans (cX_c4 (by omega) (by omega) (by omega))) e6 (by rw [e7, k26, k4]; exact eP.symm)⟩ (by omega)
  · intros; exfalso; omega
theorem z96_of {n : Nat} (h0 : 0 ≤ (sy_i F0 15).toInt) (h96 : z96 X1 X2 F0 Ls xs n) (h12 : z12 X1 X2 F0 Ls xs n) : z96 X1 X2 F0 Ls xs (n + 1) := by
  intro F hx hi h69 hn
  have x3 := hx.1.2.2.1
  have x4 := hx.1.2.2.2
  have c4 := nz_bx hx.1.1.b (k := 4) (lo := 0) (hi := 400) rfl
  have c5 := nz_bx hx.1.1.b (k := 5) (lo := 0) (hi := 7) rfl
  have c12 := nz_bx hx.1.1.b (k := 12) (lo := 0) (hi := 1) rfl
  have c15 := nz_bx hx.1.1.b (k := 15) (lo := 0) (hi := 840) rfl
  have c16 := nz_bx hx.1.1.b (k := 16) (lo := 0) (hi := 64) rfl
  have i12 := hx.1.1.i (k := 12) (by decide) (by decide)
  have x25 := hx.1.1.a (k := 25) (by decide) (by decide)
  have x26 := hx.1.1.a (k := 26) (by decide) (by decide)
  have eK : kf F0 (tn F) = ((sy_ai F 25).getD (sy_i F 4).toInt.toNat 0).toInt := by rw [x25]; rfl
  have eP : pf F0 (tn F) = ((sy_ai F 26).getD (sy_i F 4).toInt.toNat 0).toInt := by rw [x26]; rfl
  have et : (tn F : Int) = (sy_i F 4).toInt := by unfold tn; omega
  have t1 := hx.1.1.t
  obtain ⟨⟨y1, y2, y3, g', o, p, y4, y5, y6⟩, yE⟩ := id hi
  have u0 := hx.1.1.u y1.1
  have y3' := y3 rfl
  have hop : (opn (wW F) : Int) = (sy_i F 5).toInt := (congrArg Int.ofNat (opn_ws y4)).trans y5
  have same : ∀ F1 : Nat → sy_d, (sy_i F1 4).toInt = (sy_i F 4).toInt → (sy_i F1 5).toInt = (sy_i F 5).toInt → (sy_i F1 6).toInt = (sy_i F 6).toInt → (sy_i F1 15).toInt = (sy_i F 15).toInt → (sy_i F1 16).toInt = (sy_i F 16).toInt → sy_ai F1 49 = sy_ai F 49 → sy_ai F1 50 = sy_ai F 50 → sy_ai F1 51 = sy_ai F 51 → zi 1 F0 F1 := by
    intro F1 e4 e5 e6 e15 e16 a49 a50 a51
    exact ⟨⟨by omega, by omega, fun _ => by omega, g', o, p, by rw [a51, e16]; exact y4, by omega, by rw [a49, a50, e15]; exact y6⟩, by rw [tn_eq e4, wW_eq a51 e16, oO_eq a49 a50 e15]; exact yE⟩
  refine exy_96 (by decide) F X1 X2 hx.1.1.b ?_ ?_ ?_ ?_ ?_ ?_ ?_ ?_ ?_ ?_ ?_
  · intros; exfalso; omega
  · intros; exfalso; omega
  · intros
    rename_i F1 hb g e4 e5 e6 e7 e11 e12 e14 e15 e16 a25 a26 a49 a50 a51
    exact ez_206' X1 X2 F0 h0 ⟨xc_step hx.1 hb g (by decide) (by omega) (by omega) (kp_same a49 a50) (by omega) (by omega), fx_ok u0 (by omega)⟩ (Or.inr ⟨same F1 e4 e5 e6 e15 e16 a49 a50 a51, by omega, by rw [tn_eq e4]; omega⟩)
  · intros
    rename_i F1 hb g e4 e5 e6 e7 e11 e12 e14 e15 e16 a25 a26 a49 a50 a51
    exact ez_206' X1 X2 F0 h0 ⟨xc_step hx.1 hb g (by decide) (by omega) (by omega) (kp_same a49 a50) (by omega) (by omega), fx_mk u0 (yE.trans (cX_e1 (by omega) (by omega) (by omega) (by omega))) e6 (e7.trans eP.symm)⟩ (Or.inl (by omega))
  iterate 4
    intros
    rename_i F1 hb g e4 e5 e6 e7 e11 e12 e14 e15 e16 a25 a26 a49 a50 a51 e69 e70
    exact ez_234' X1 X2 F0 h0 h12 ⟨xc_step hx.1 hb g (by decide) (by omega) (by omega) (kp_same a49 a50) (by omega) (by omega), fx_ok u0 (by omega)⟩ (same F1 e4 e5 e6 e15 e16 a49 a50 a51) (by omega) (by omega) (by rw [a25, e4]; omega)
  · intros
    rename_i F1 hb g e4 e5 e6 e7 e11 e12 e14 e15 e16 a25 a26 a49 a50 a51
    exact ez_206' X1 X2 F0 h0 ⟨xc_step hx.1 hb g (by decide) (by omega) (by omega) (kp_same a49 a50) (by omega) (by omega), fx_ok u0 (by omega)⟩ (Or.inr ⟨same F1 e4 e5 e6 e15 e16 a49 a50 a51, by omega, by rw [tn_eq e4]; omega⟩)
  · intros; exfalso; omega
  · intros
    rename_i F1 hb g e4 e5 e6 e7 e11 e12 e14 e15 e16 a25 a26 a49 a50 a51 e69
    exact ez_115' X1 X2 F0 h0 h96 ⟨xc_step hx.1 hb g (by decide) (by omega) (by omega) (kp_same a49 a50) (by omega) (by omega), fx_ok u0 (by omega)⟩ (same F1 e4 e5 e6 e15 e16 a49 a50 a51) (by omega) (by omega) (by omega) (by rw [a25, e4]; omega)
theorem z_all (h0 : 0 ≤ (sy_i F0 15).toInt) : ∀ n : Nat, z96 X1 X2 F0 Ls xs n ∧ z23 X1 X2 F0 Ls xs n
  | 0 => by
    constructor
    · intro F hx _ _ hn
      have c4 := nz_bx hx.1.1.b (k := 4) (lo := 0) (hi := 400) rfl
      omega
    · intro F hx _ _ hn
      have c4 := nz_bx hx.1.1.b (k := 4) (lo := 0) (hi := 400) rfl
      omega
  | n + 1 => by
    obtain ⟨a, b⟩ := z_all h0 n
    exact ⟨z96_of X1 X2 F0 h0 a (z12_of X1 X2 F0 b), z23_of X1 X2 F0 h0 b a⟩
theorem ez_T (hB : iv_in F0 iv_B4) (h1 : (sy_i F0 6).toInt = 0 → (sy_i F0 5).toInt = 0 ∧ (sy_i F0 15).toInt ≤ 420 * (sy_i F0 12).toInt + (sy_i F0 4).toInt) (h2 : (sy_i F0 15).toInt ≤ 420 * (sy_i F0 12).toInt + (sy_i F0 4).toInt + 1) :
    jm_T Ls xs 4 jm_M164 [.ref 1000] (sy_dh F0 X1 X2 (iv_H 4)) 0 0 (ez_Q F0 X1 X2) := by
  have c15 := nz_bx hB (k := 15) (lo := 0) (hi := 840) rfl
  have c4 := nz_bx hB (k := 4) (lo := 0) (hi := 400) rfl
  refine nz_T0 jm_ok164 (by decide) (exy_0 (by decide) F0 X1 X2 hB ?_)
  intro F hb g e4 e5 e6 e7 e11 e12 e14 e15 e16 a25 a26 a49 a50 a51 e69
  have hx : xc F0 F := ⟨gr_mk hb g (by decide) (by omega) (by omega), kp_same a49 a50, by omega, by omega⟩
  by_cases hf : (sy_i F 6).toInt = 0
  · have h1' := h1 (by omega)
    refine z12_of X1 X2 F0 (z_all X1 X2 F0 c15.1 401).2 F ⟨hx, fx_ok (by omega) hf⟩ ⟨⟨by omega, by omega, fun z => absurd z (by decide), 0, 0, 0, ?_, by omega, ?_⟩, ?_⟩ (by omega) (by omega)
    · rw [show (sy_i F 16).toInt.toNat = 0 by omega]
      exact .nil
    · rw [show ((sy_i F 15).toInt - (sy_i F0 15).toInt).toNat = 0 by omega]
      exact .nil
    · have eW : wW F = [] := by
        unfold wW
        rw [show (sy_i F 16).toInt.toNat = 0 by omega]
        rfl
      have eO : oO (c0f F0) F = [] := by
        unfold oO c0f
        rw [show ((sy_i F 15).toInt - ((sy_i F0 15).toInt.toNat : Int)).toNat = 0 by omega]
        rfl
      rw [tn_eq e4, eW, eO]
      rfl
  · exact ez_12F X1 X2 F0 ⟨hx, ⟨fun q => absurd e6 (by omega), fun _ => ⟨e6, e7⟩⟩⟩ hf
end EZ
