/-! ===== an expression is read, and where it goes wrong ===== -/
noncomputable def kf (F : Nat → sy_d) (n : Nat) : Int := ((sy_ai F 25).getD n 0).toInt
noncomputable def pf (F : Nat → sy_d) (n : Nat) : Int := ((sy_ai F 26).getD n 0).toInt
noncomputable def tn (F : Nat → sy_d) : Nat := (sy_i F 4).toInt.toNat
/-- a fault is the one that the token's machine r tells; one that was there stays -/
noncomputable def fx {A : Type} (r : sE ⊕ A) (F0 F : Nat → sy_d) : Prop := ((sy_i F0 6).toInt = 0 → (sy_i F 6).toInt ≠ 0 → ∃ tok, r = .inl ((sy_i F 6).toInt, tok) ∧ (sy_i F 7).toInt = pf F0 tok) ∧ ((sy_i F0 6).toInt ≠ 0 → (sy_i F 6).toInt = (sy_i F0 6).toInt ∧ (sy_i F 7).toInt = (sy_i F0 7).toInt)
theorem fx_ok {A : Type} {r : sE ⊕ A} {F0 F : Nat → sy_d} (h0 : (sy_i F0 6).toInt = 0) (h : (sy_i F 6).toInt = 0) : fx r F0 F := ⟨fun _ q => absurd h q, fun q => absurd h0 q⟩
theorem fx_mk {A : Type} {r : sE ⊕ A} {F0 F : Nat → sy_d} {f : Int} {tok : Nat} (h0 : (sy_i F0 6).toInt = 0) (hr : r = .inl (f, tok)) (h6 : (sy_i F 6).toInt = f) (h7 : (sy_i F 7).toInt = pf F0 tok) : fx r F0 F := ⟨fun _ _ => ⟨tok, by rw [h6]; exact hr, h7⟩, fun q => absurd h0 q⟩
theorem fx_same {A : Type} {r : sE ⊕ A} {F0 F F1 : Nat → sy_d} (h : fx r F0 F) (h6 : (sy_i F1 6).toInt = (sy_i F 6).toInt) (h7 : (sy_i F1 7).toInt = (sy_i F 7).toInt) : fx r F0 F1 := ⟨fun a b => by rw [h6, h7]; exact h.1 a (by rw [← h6]; exact b), fun a => by rw [h6, h7]; exact h.2 a⟩
noncomputable def er (F0 : Nat → sy_d) : sE ⊕ Nat := eX (kf F0) (tn F0) 0 0
noncomputable def yc (F0 F : Nat → sy_d) : Prop := xc F0 F ∧ fx (er F0) F0 F
noncomputable def yi (k : Nat) (F0 F : Nat → sy_d) : Prop := xi k F0 F ∧ er F0 = eX (kf F0) (tn F) (sy_i F 5).toInt.toNat k
noncomputable def yr (F0 F' : Nat → sy_d) : Prop := xr F0 F' ∧ fx (er F0) F0 F' ∧ ((sy_i F' 6).toInt = 0 → er F0 = .inr (tn F'))
noncomputable def ey_Q (F0 : Nat → sy_d) (X1 X2 : List jm_c) (v : Option Value) (G : jm_h) : Prop := ∃ F' : Nat → sy_d, v = none ∧ G = sy_dh F' X1 X2 (iv_H 4) ∧ yr F0 F'
theorem yr_dst {F F' F2 : Nat → sy_d} (h : yr F F') (e : ∀ q, q < 69 → F2 q = F' q) : yr F F2 := by
  have i4 := nz_fi (e 4 (by decide))
  have i6 := nz_fi (e 6 (by decide))
  have i7 := nz_fi (e 7 (by decide))
  exact ⟨xr_dst h.1 e, fx_same h.2.1 i6 i7, fun z => by unfold tn; rw [i4]; exact h.2.2 (by rw [← i6]; exact z)⟩
theorem tn_eq {F F1 : Nat → sy_d} (h : (sy_i F1 4).toInt = (sy_i F 4).toInt) : tn F1 = tn F := by unfold tn; rw [h]
theorem tn_s {F F1 : Nat → sy_d} (h0 : 0 ≤ (sy_i F 4).toInt) (h : (sy_i F1 4).toInt = (sy_i F 4).toInt + 1) : tn F1 = tn F + 1 := by unfold tn; omega
section EY
variable {Ls : Nat} {xs : Nat → Int32} (X1 X2 : List jm_c) (F0 : Nat → sy_d)
theorem ey_206' {F : Nat → sy_d} (h0 : 0 ≤ (sy_i F0 15).toInt) (hx : yc F0 F) (hc : (sy_i F 6).toInt ≠ 0 ∨ (yi 1 F0 F ∧ (sy_i F 5).toInt = 0 ∧ ¬ (kf F0 (tn F) = 8 ∨ kf F0 (tn F) = 9 ∨ kf F0 (tn F) = 10 ∨ kf F0 (tn F) = 15))) :
    hd_W Ls xs 4 jm_M164 (ey_Q F0 X1 X2) (206, sy_dL F [some (.inl (.ref 1000)), none, none], sy_dS F [.inl (.int 0), .inl (.ref 1000)], sy_dh F X1 X2 (iv_H 4), 0, 0) := by
  have x4 := hx.1.2.2.2
  have c4 := nz_bx hx.1.1.b (k := 4) (lo := 0) (hi := 400) rfl
  have c12 := nz_bx hx.1.1.b (k := 12) (lo := 0) (hi := 1) rfl
  have i12 := hx.1.1.i (k := 12) (by decide) (by decide)
  refine hd_calV (R := co_R 0 F) (nh := 69) (nv := 69) (s := 4) (s1 := 4) (d1 := 2) (M1 := jm_M163) (As := [.inl (.ref 1000), .inl (.int 0)]) (rest := []) jm_ok164 rfl rfl (by decide) (by decide +kernel) (co_T X1 X2 F hx.1.1.b (by omega) 0) (fun F3 F' hR p1 _ => ?_)
  have hR3 := co_Rdst hR p1
  have k4 := hR3.1.i (k := 4) (by decide) (by decide)
  have k6 := hR3.1.i (k := 6) (by decide) (by decide)
  have k7 := hR3.1.i (k := 7) (by decide) (by decide)
  refine exy_209 (by decide) F3 X1 X2 hR3.1.b ?_
  intro F1 hb g e4 e5 e6 e7 e11 e12 e14 e15 e16 a25 a26 a49 a50 a51
  have hxr := xr_dst (ex_fin F0 hx.1 (hc.imp id (fun q => ⟨q.1.1, q.2.1⟩)) hR3 h0) (F2 := F1) (fun q hq => g q hq (by simp))
  refine ⟨F1, rfl, rfl, hxr, fx_same hx.2 (by omega) (by omega), fun z => ?_⟩
  rcases hc with hc | ⟨⟨_, hc⟩, h5, hn⟩
  · exact absurd z (by omega)
  · rw [hc, h5]
    have : tn F1 = tn F := tn_eq (by omega)
    rw [this]
    exact eX_e0 (by unfold tn; omega) hn
theorem ey_96F {F : Nat → sy_d} (h0 : 0 ≤ (sy_i F0 15).toInt) (hx : yc F0 F) (hf : (sy_i F 6).toInt ≠ 0) :
    hd_W Ls xs 4 jm_M164 (ey_Q F0 X1 X2) (96, sy_dL F [some (.inl (.ref 1000)), some (.inr (.inl 69)), some (.inl (.int 1))], sy_dS F [], sy_dh F X1 X2 (iv_H 4), 0, 0) := by
  have x4 := hx.1.2.2.2
  refine exy_96 (by decide) F X1 X2 hx.1.1.b ?_ ?_ ?_ ?_ ?_ ?_ ?_ ?_ ?_ ?_ ?_
  iterate 2
    intros
    rename_i F1 hb g e4 e5 e6 e7 e11 e12 e14 e15 e16 a25 a26 a49 a50 a51
    exact ey_206' X1 X2 F0 h0 ⟨xc_step hx.1 hb g (by decide) (by omega) (by omega) (kp_same a49 a50) (by omega) (by omega), fx_same hx.2 e6 e7⟩ (Or.inl (by omega))
  all_goals (intros; exfalso; omega)
theorem ey_stop {F1 : Nat → sy_d} (hx : yc F0 F1) (hf : (sy_i F1 6).toInt ≠ 0) : yr F0 F1 := ⟨ex_stop (F := F1) F0 hx.1 hf, hx.2, fun z => absurd z hf⟩
theorem ey_23F {F : Nat → sy_d} (hx : yc F0 F) (hf : (sy_i F 6).toInt ≠ 0) :
    hd_W Ls xs 4 jm_M164 (ey_Q F0 X1 X2) (23, sy_dL F [some (.inl (.ref 1000)), some (.inr (.inl 69)), some (.inl (.int 1))], sy_dS F [], sy_dh F X1 X2 (iv_H 4), 0, 0) := by
  have x4 := hx.1.2.2.2
  refine exy_23 (by decide) F X1 X2 hx.1.1.b (by omega) (by omega) (by omega) (by omega) (by omega) (by omega) (by omega) (by omega) (by omega) (by omega) (by omega) (by omega) (by omega) (by omega) (by omega) (by omega) ?_ ?_ ?_ ?_ ?_ ?_ ?_ ?_ ?_ ?_
  · intros
    rename_i F1 hb g e4 e5 e6 e7 e11 e12 e14 e15 e16 a25 a26 a49 a50 a51
    exact ⟨F1, rfl, rfl, ey_stop F0 ⟨xc_step hx.1 hb g (by decide) (by omega) (by omega) (kp_same a49 a50) (by omega) (by omega), fx_same hx.2 e6 e7⟩ (by omega)⟩
  all_goals (intros; exfalso; omega)
theorem ey_12F {F : Nat → sy_d} (hx : yc F0 F) (hf : (sy_i F 6).toInt ≠ 0) :
    hd_W Ls xs 4 jm_M164 (ey_Q F0 X1 X2) (12, sy_dL F [some (.inl (.ref 1000)), some (.inr (.inl 69)), some (.inl (.int 1))], sy_dS F [], sy_dh F X1 X2 (iv_H 4), 0, 0) := by
  have x4 := hx.1.2.2.2
  refine exy_12 (by decide) F X1 X2 hx.1.1.b ?_ ?_
  · intros
    rename_i F1 hb g e4 e5 e6 e7 e11 e12 e14 e15 e16 a25 a26 a49 a50 a51
    exact ⟨F1, rfl, rfl, ey_stop F0 ⟨xc_step hx.1 hb g (by decide) (by omega) (by omega) (kp_same a49 a50) (by omega) (by omega), fx_same hx.2 e6 e7⟩ (by omega)⟩
  all_goals (intros; exfalso; omega)
noncomputable def y96 (Ls : Nat) (xs : Nat → Int32) (n : Nat) : Prop := ∀ F : Nat → sy_d, yc F0 F → yi 1 F0 F → (sy_i F 69).toInt = 0 → 400 - (sy_i F 4).toInt < n →
    hd_W Ls xs 4 jm_M164 (ey_Q F0 X1 X2) (96, sy_dL F [some (.inl (.ref 1000)), some (.inr (.inl 69)), some (.inl (.int 1))], sy_dS F [], sy_dh F X1 X2 (iv_H 4), 0, 0)
noncomputable def y23 (Ls : Nat) (xs : Nat → Int32) (n : Nat) : Prop := ∀ F : Nat → sy_d, yc F0 F → yi 0 F0 F → (sy_i F 69).toInt = 0 → 400 - (sy_i F 4).toInt < n →
    hd_W Ls xs 4 jm_M164 (ey_Q F0 X1 X2) (23, sy_dL F [some (.inl (.ref 1000)), some (.inr (.inl 69)), some (.inl (.int 1))], sy_dS F [], sy_dh F X1 X2 (iv_H 4), 0, 0)
noncomputable def y12 (Ls : Nat) (xs : Nat → Int32) (n : Nat) : Prop := ∀ F : Nat → sy_d, yc F0 F → yi 0 F0 F → (sy_i F 69).toInt = 0 → 400 - (sy_i F 4).toInt < n →
    hd_W Ls xs 4 jm_M164 (ey_Q F0 X1 X2) (12, sy_dL F [some (.inl (.ref 1000)), some (.inr (.inl 69)), some (.inl (.int 1))], sy_dS F [], sy_dh F X1 X2 (iv_H 4), 0, 0)
theorem y12_of {n : Nat} (h : y23 X1 X2 F0 Ls xs n) : y12 X1 X2 F0 Ls xs n := by
  intro F hx hi h69 hn
  have x4 := hx.1.2.2.2
  obtain ⟨⟨y1, y2, -, g', o, p, y4, y5, y6⟩, yE⟩ := hi
  have u0 := hx.1.1.u y1.1
  refine exy_12 (by decide) F X1 X2 hx.1.1.b ?_ ?_
  · intros; exfalso; omega
  · intro q F1 hb g e4 e5 e6 e7 e11 e12 e14 e15 e16 a25 a26 a49 a50 a51 e69
    refine h F1 ⟨xc_step hx.1 hb g (by decide) (by omega) (by omega) (kp_same a49 a50) (by omega) (by omega), fx_ok u0 (by omega)⟩ ⟨⟨by omega, by omega, fun z => absurd z (by decide), g', o, p, by rw [a51, e16]; exact y4, by omega, by rw [a49, a50, e15]; exact y6⟩, ?_⟩ (by omega) (by omega)
    rw [tn_eq e4, e5]
    exact yE
theorem y23_of {n : Nat} (h0 : 0 ≤ (sy_i F0 15).toInt) (h23 : y23 X1 X2 F0 Ls xs n) (h96 : y96 X1 X2 F0 Ls xs n) : y23 X1 X2 F0 Ls xs (n + 1) := by
  intro F hx hi h69 hn
  have x3 := hx.1.2.2.1
  have x4 := hx.1.2.2.2
  have c4 := nz_bx hx.1.1.b (k := 4) (lo := 0) (hi := 400) rfl
  have c5 := nz_bx hx.1.1.b (k := 5) (lo := 0) (hi := 7) rfl
  have c12 := nz_bx hx.1.1.b (k := 12) (lo := 0) (hi := 1) rfl
  have c15 := nz_bx hx.1.1.b (k := 15) (lo := 0) (hi := 840) rfl
  have c16 := nz_bx hx.1.1.b (k := 16) (lo := 0) (hi := 64) rfl
  have i12 := hx.1.1.i (k := 12) (by decide) (by decide)
  have x25 := hx.1.1.a (k := 25) (by decide) (by decide)
  have x26 := hx.1.1.a (k := 26) (by decide) (by decide)
  have eK : kf F0 (tn F) = ((sy_ai F 25).getD (sy_i F 4).toInt.toNat 0).toInt := by rw [x25]; rfl
  have eP : pf F0 (tn F) = ((sy_ai F 26).getD (sy_i F 4).toInt.toNat 0).toInt := by rw [x26]; rfl
  have et : (tn F : Int) = (sy_i F 4).toInt := by unfold tn; omega
  have t1 := hx.1.1.t
  obtain ⟨⟨y1, y2, -, g', o, p, y4, y5, y6⟩, yE⟩ := hi
  have u0 := hx.1.1.u y1.1
  obtain ⟨w1, w2, w3⟩ := ws_n y4
  have ec : (sy_i F0 15).toInt.toNat + ((sy_i F 15).toInt - (sy_i F0 15).toInt).toNat = (sy_i F 15).toInt.toNat := by omega
  have en : ((sy_i F 15).toInt + 1 - (sy_i F0 15).toInt).toNat = ((sy_i F 15).toInt - (sy_i F0 15).toInt).toNat + 1 := by omega
  have e16n : ((sy_i F 16).toInt + 1).toNat = (sy_i F 16).toInt.toNat + 1 := by omega
  refine exy_23 (by decide) F X1 X2 hx.1.1.b (by omega) (by omega) (by omega) (by omega) (by omega) (by omega) (by omega) (by omega) (by omega) (by omega) (by omega) (by omega) (by omega) (by omega) (by omega) (by omega) ?_ ?_ ?_ ?_ ?_ ?_ ?_ ?_ ?_ ?_
  · intros; exfalso; omega
  · intros
    rename_i F1 hb g e4 e5 e6 e7 e11 e12 e14 e15 e16 a25 a26 a49 a50 a51
    exact ⟨F1, rfl, rfl, ey_stop F0 ⟨xc_step hx.1 hb g (by decide) (by omega) (by omega) (kp_same a49 a50) (by omega) (by omega), fx_mk u0 (yE.trans (eX_u1 (by omega) (by omega) (by omega) (by omega))) e6 (e7.trans eP.symm)⟩ (by omega)⟩
  · intro _ _ _ _ _ q1 q2 _ _ F1 hb g e4 e5 e6 e7 e11 e12 e14 e15 e16 a25 a26 a49 a50 a51 e69
    have ts : tn F1 = tn F + 1 := tn_s c4.1 e4
    refine h96 F1 ⟨xc_step hx.1 hb g (by decide) (by omega) (by omega) (kp_upd (by omega) e15 a49 a50) (by omega) (by omega), fx_ok u0 (by omega)⟩ ⟨⟨by omega, by omega, fun _ => by omega, g', o, p, by rw [a51, e16]; exact y4, by omega, ?_⟩, ?_⟩ (by omega) (by omega)
    · rw [e15, en]
      refine rd_push (K := 1) y6 (by rw [a49, ec]) (by rw [a50, ec]) (by decide) (fun _ => ?_)
      rw [nz_sub (rfl : ((sy_ai F 25).getD (sy_i F 4).toInt.toNat 0).toInt = _) (by decide : ((34 : Int32)).toInt = 34) (by omega) (by omega)]
      omega
    · rw [ts, e5]
      exact yE.trans (eX_u (by omega) (by omega))
  · intros
    rename_i F1 hb g e4 e5 e6 e7 e11 e12 e14 e15 e16 a25 a26 a49 a50 a51
    exact ⟨F1, rfl, rfl, ey_stop F0 ⟨xc_step hx.1 hb g (by decide) (by omega) (by omega) (kp_upd (by omega) e15 a49 a50) (by omega) (by omega), fx_mk u0 (yE.trans (eX_u4 (by omega) (by omega))) e6 (e7.trans eP.symm)⟩ (by omega)⟩
  · intro _ _ _ _ _ _ F1 hb g e4 e5 e6 e7 e11 e12 e14 e15 e16 a25 a26 a49 a50 a51 e69
    have ts : tn F1 = tn F + 1 := tn_s c4.1 e4
    refine h96 F1 ⟨xc_step hx.1 hb g (by decide) (by omega) (by omega) (kp_upd (by omega) e15 a49 a50) (by omega) (by omega), fx_ok u0 (by omega)⟩ ⟨⟨by omega, by omega, fun _ => by omega, g', o, p, by rw [a51, e16]; exact y4, by omega, ?_⟩, ?_⟩ (by omega) (by omega)
    · rw [e15, en]
      exact rd_push (K := 0) y6 (by rw [a49, ec]) (by rw [a50, ec]) (by decide) (fun z => absurd z (by decide))
    · rw [ts, e5]
      exact yE.trans (eX_u (by omega) (by omega))
  · intros
    rename_i F1 hb g e4 e5 e6 e7 e11 e12 e14 e15 e16 a25 a26 a49 a50 a51
    exact ⟨F1, rfl, rfl, ey_stop F0 ⟨xc_step hx.1 hb g (by decide) (by omega) (by omega) (kp_upd (by omega) e15 a49 a50) (by omega) (by omega), fx_mk u0 (yE.trans (eX_u4 (by omega) (by omega))) e6 (e7.trans eP.symm)⟩ (by omega)⟩
  · intros
    rename_i F1 hb g e4 e5 e6 e7 e11 e12 e14 e15 e16 a25 a26 a49 a50 a51 e69
    have ts : tn F1 = tn F + 1 := tn_s c4.1 e4
    refine h23 F1 ⟨xc_step hx.1 hb g (by decide) (by omega) (by omega) (kp_same a49 a50) (by omega) (by omega), fx_ok u0 (by omega)⟩ ⟨⟨by omega, by omega, fun z => absurd z (by decide), 0, o + 1, p, ?_, by omega, by rw [a49, a50, e15]; exact y6⟩, ?_⟩ (by omega) (by omega)
    · rw [a51, e16, e16n]
      exact .opn (ws_upd y4) (by rw [ws_at]; decide)
    · rw [ts, show (sy_i F1 5).toInt.toNat = (sy_i F 5).toInt.toNat + 1 by omega]
      exact yE.trans (eX_o (by omega) (by omega) (by omega))
  · intros
    rename_i F1 hb g e4 e5 e6 e7 e11 e12 e14 e15 e16 a25 a26 a49 a50 a51 e69
    exact ey_23F X1 X2 F0 ⟨xc_step hx.1 hb g (by decide) (by omega) (by omega) (kp_same a49 a50) (by omega) (by omega), fx_mk u0 (yE.trans (eX_o6 (by omega) (by omega) (Or.inr (by omega)))) e6 (e7.trans eP.symm)⟩ (by omega)
  · intros
    rename_i F1 hb g e4 e5 e6 e7 e11 e12 e14 e15 e16 a25 a26 a49 a50 a51 e69
    exact ey_23F X1 X2 F0 ⟨xc_step hx.1 hb g (by decide) (by omega) (by omega) (kp_same a49 a50) (by omega) (by omega), fx_mk u0 (yE.trans (eX_o6 (by omega) (by omega) (Or.inl (by omega)))) e6 (e7.trans eP.symm)⟩ (by omega)
  · intros
    rename_i F1 hb g e4 e5 e6 e7 e11 e12 e14 e15 e16 a25 a26 a49 a50 a51 e69
    exact ey_23F X1 X2 F0 ⟨xc_step hx.1 hb g (by decide) (by omega) (by omega) (kp_same a49 a50) (by omega) (by omega), fx_mk u0 (yE.trans (eX_o6 (by omega) (by omega) (Or.inl (by omega)))) e6 (e7.trans eP.symm)⟩ (by omega)
theorem ey_234' {n : Nat} {F : Nat → sy_d} (h0 : 0 ≤ (sy_i F0 15).toInt) (h12 : y12 X1 X2 F0 Ls xs n) (hx : yc F0 F) (hi : yi 1 F0 F) (h69 : (sy_i F 69).toInt = 0) (hn : 400 - (sy_i F 4).toInt < n + 1) (hk : ((sy_i F 70).toInt = 0 ∧ (((sy_ai F 25).getD (sy_i F 4).toInt.toNat 0).toInt = 8 ∨ ((sy_ai F 25).getD (sy_i F 4).toInt.toNat 0).toInt = 9)) ∨ (((sy_ai F 25).getD (sy_i F 4).toInt.toNat 0).toInt = 10 ∨ ((sy_ai F 25).getD (sy_i F 4).toInt.toNat 0).toInt = 15)) :
    hd_W Ls xs 4 jm_M164 (ey_Q F0 X1 X2) (234, sy_dL F [some (.inl (.ref 1000)), some (.inr (.inl 69)), some (.inl (.int 1))], sy_dS F [.inr (.inl 70), .inl (.ref 1000)], sy_dh F X1 X2 (iv_H 4), 0, 0) := by
  have x3 := hx.1.2.2.1
  have x4 := hx.1.2.2.2
  have c4 := nz_bx hx.1.1.b (k := 4) (lo := 0) (hi := 400) rfl
  have c5 := nz_bx hx.1.1.b (k := 5) (lo := 0) (hi := 7) rfl
  have c12 := nz_bx hx.1.1.b (k := 12) (lo := 0) (hi := 1) rfl
  have c15 := nz_bx hx.1.1.b (k := 15) (lo := 0) (hi := 840) rfl
  have c16 := nz_bx hx.1.1.b (k := 16) (lo := 0) (hi := 64) rfl
  have i12 := hx.1.1.i (k := 12) (by decide) (by decide)
  have x25 := hx.1.1.a (k := 25) (by decide) (by decide)
  have x26 := hx.1.1.a (k := 26) (by decide) (by decide)
  have eK : kf F0 (tn F) = ((sy_ai F 25).getD (sy_i F 4).toInt.toNat 0).toInt := by rw [x25]; rfl
  have eP : pf F0 (tn F) = ((sy_ai F 26).getD (sy_i F 4).toInt.toNat 0).toInt := by rw [x26]; rfl
  have et : (tn F : Int) = (sy_i F 4).toInt := by unfold tn; omega
  have t1 := hx.1.1.t
  obtain ⟨hi, yE⟩ := hi
  have u0 := hx.1.1.u hi.1.1
  refine hd_calV (R := co_R (sy_i F 70).toInt F) (nh := 69) (nv := 71) (s := 4) (s1 := 4) (d1 := 2) (M1 := jm_M163) (As := [.inl (.ref 1000), .inr (.inl 70)]) (rest := []) jm_ok164 rfl rfl (by decide) (by decide +kernel) (co_T X1 X2 F hx.1.1.b (by omega) (sy_i F 70)) (fun F3 F' hR p1 p2 => ?_)
  have hR3 := co_Rdst hR p1
  have j69 := nz_fi (p2 69 (by decide) (by decide))
  have k4 := hR3.1.i (k := 4) (by decide) (by decide)
  have k5 := hR3.1.i (k := 5) (by decide) (by decide)
  have k25 := hR3.1.a (k := 25) (by decide) (by decide)
  have k26 := hR3.1.a (k := 26) (by decide) (by decide)
  obtain ⟨hx3, ⟨y1, y2, y3⟩, g', o, p, z1, z2, z3, z4, z5⟩ := ex_co F0 h0 hx.1 hi hR3
  obtain ⟨w1, w2, w3⟩ := ws_n z1
  have d5 := nz_bx hx3.1.b (k := 5) (lo := 0) (hi := 7) rfl
  have d16 := nz_bx hx3.1.b (k := 16) (lo := 0) (hi := 64) rfl
  have e16n : ((sy_i F3 16).toInt + 1).toNat = (sy_i F3 16).toInt.toNat + 1 := by omega
  have t3 : tn F3 = tn F := tn_eq k4
  refine exy_237 (by decide) F3 X1 X2 hx3.1.b (by omega) (by omega) (by omega) (by omega) ?_ ?_ ?_
  · intros
    rename_i F1 hb g e4 e5 e6 e7 e11 e12 e14 e15 e16 a25 a26 a49 a50 a51 e69
    have ts : tn F1 = tn F + 1 := by rw [← t3]; exact tn_s (by omega) e4
    have yE2 : er F0 = eX (kf F0) (tn F1) (sy_i F1 5).toInt.toNat 0 := by
      rw [ts, e5, k5]
      exact yE.trans (eX_b (by omega) (by omega))
    refine h12 F1 ⟨xc_step hx3 hb g (by decide) (by omega) (by omega) (kp_same a49 a50) (by omega) (by omega), fx_ok u0 (by omega)⟩ ⟨?_, yE2⟩ (by omega) (by omega)
    rcases hk with ⟨hb0, hk⟩ | hk
    · have hg := z5 hb0
      subst hg
      refine ⟨by omega, by omega, fun z => absurd z (by decide), 1, o, p + 1, ?_, by omega, by rw [a49, a50, e15]; exact z3⟩
      rw [a51, e16, e16n]
      exact .pm (ws_upd z1) (by rw [ws_at, k25, k4]; exact hk)
    · refine ⟨by omega, by omega, fun z => absurd z (by decide), 2, o, p + 1, ?_, by omega, by rw [a49, a50, e15]; exact z3⟩
      rw [a51, e16, e16n]
      exact .td (ws_upd z1) z4 (by rw [ws_at, k25, k4]; exact hk)
  · intros
    rename_i F1 hb g e4 e5 e6 e7 e11 e12 e14 e15 e16 a25 a26 a49 a50 a51 e69
    exact ey_12F X1 X2 F0 ⟨xc_step hx3 hb g (by decide) (by omega) (by omega) (kp_same a49 a50) (by omega) (by omega), fx_mk u0 (yE.trans (eX_b4 (by omega) (by omega))) e6 (by rw [e7, k26, k4]; exact eP.symm)⟩ (by omega)
  · intros; exfalso; omega
theorem ey_115' {n : Nat} {F : Nat → sy_d} (h0 : 0 ≤ (sy_i F0 15).toInt) (h96 : y96 X1 X2 F0 Ls xs n) (hx : yc F0 F) (hi : yi 1 F0 F) (h69 : (sy_i F 69).toInt = 0) (hn : 400 - (sy_i F 4).toInt < n + 1) (ho : 0 < (sy_i F 5).toInt) (hk : ((sy_ai F 25).getD (sy_i F 4).toInt.toNat 0).toInt = 7) :
    hd_W Ls xs 4 jm_M164 (ey_Q F0 X1 X2) (115, sy_dL F [some (.inl (.ref 1000)), some (.inr (.inl 69)), some (.inl (.int 1))], sy_dS F [.inl (.int 0), .inl (.ref 1000)], sy_dh F X1 X2 (iv_H 4), 0, 0) := by
  have x3 := hx.1.2.2.1
  have x4 := hx.1.2.2.2
  have c4 := nz_bx hx.1.1.b (k := 4) (lo := 0) (hi := 400) rfl
  have c5 := nz_bx hx.1.1.b (k := 5) (lo := 0) (hi := 7) rfl
  have c12 := nz_bx hx.1.1.b (k := 12) (lo := 0) (hi := 1) rfl
  have c15 := nz_bx hx.1.1.b (k := 15) (lo := 0) (hi := 840) rfl
  have c16 := nz_bx hx.1.1.b (k := 16) (lo := 0) (hi := 64) rfl
  have i12 := hx.1.1.i (k := 12) (by decide) (by decide)
  have x25 := hx.1.1.a (k := 25) (by decide) (by decide)
  have x26 := hx.1.1.a (k := 26) (by decide) (by decide)
  have eK : kf F0 (tn F) = ((sy_ai F 25).getD (sy_i F 4).toInt.toNat 0).toInt := by rw [x25]; rfl
  have eP : pf F0 (tn F) = ((sy_ai F 26).getD (sy_i F 4).toInt.toNat 0).toInt := by rw [x26]; rfl
  have et : (tn F : Int) = (sy_i F 4).toInt := by unfold tn; omega
  have t1 := hx.1.1.t
  obtain ⟨hi, yE⟩ := hi
  have u0 := hx.1.1.u hi.1.1
  refine hd_calV (R := co_R 0 F) (nh := 69) (nv := 70) (s := 4) (s1 := 4) (d1 := 2) (M1 := jm_M163) (As := [.inl (.ref 1000), .inl (.int 0)]) (rest := []) jm_ok164 rfl rfl (by decide) (by decide +kernel) (co_T X1 X2 F hx.1.1.b (by omega) 0) (fun F3 F' hR p1 p2 => ?_)
  have hR3 := co_Rdst hR p1
  have j69 := nz_fi (p2 69 (by decide) (by decide))
  have k4 := hR3.1.i (k := 4) (by decide) (by decide)
  have k5 := hR3.1.i (k := 5) (by decide) (by decide)
  have k26 := hR3.1.a (k := 26) (by decide) (by decide)
  obtain ⟨hx3, ⟨y1, y2, y3⟩, g', o, p, z1, z2, z3, z4, z5⟩ := ex_co F0 h0 hx.1 hi hR3
  obtain ⟨w1, w2, w3⟩ := ws_n z1
  have d5 := nz_bx hx3.1.b (k := 5) (lo := 0) (hi := 7) rfl
  have d16 := nz_bx hx3.1.b (k := 16) (lo := 0) (hi := 64) rfl
  have hg := z5 rfl
  subst hg
  rw [show (sy_i F3 16).toInt.toNat = ((sy_i F3 16).toInt - 1).toNat + 1 by omega] at z1
  obtain ⟨g2, o', rfl, v1⟩ := ws_open z1
  have t3 : tn F3 = tn F := tn_eq k4
  refine exy_118 (by decide) F3 X1 X2 hx3.1.b (by omega) (by omega) (by omega) (by omega) (by omega) (by omega) ?_ ?_ ?_
  · intros
    rename_i F1 hb g e4 e5 e6 e7 e11 e12 e14 e15 e16 a25 a26 a49 a50 a51 e69
    have ts : tn F1 = tn F + 1 := by rw [← t3]; exact tn_s (by omega) e4
    have yE2 : er F0 = eX (kf F0) (tn F1) (sy_i F1 5).toInt.toNat 1 := by
      rw [ts, show (sy_i F1 5).toInt.toNat = (sy_i F 5).toInt.toNat - 1 by omega]
      exact yE.trans (eX_c (by omega) (by omega) (by omega))
    exact h96 F1 ⟨xc_step hx3 hb g (by decide) (by omega) (by omega) (kp_same a49 a50) (by omega) (by omega), fx_ok u0 (by omega)⟩ ⟨⟨by omega, by omega, fun _ => by omega, g2, o', p, by rw [a51, e16]; exact v1, by omega, by rw [a49, a50, e15]; exact z3⟩, yE2⟩ (by omega) (by omega)
  · intros
    rename_i F1 hb g e4 e5 e6 e7 e11 e12 e14 e15 e16 a25 a26 a49 a50 a51 e69
    exact ey_96F X1 X2 F0 h0 ⟨xc_step hx3 hb g (by decide) (by omega) (by omega) (kp_same a49 a50) (by omega) (by omega), fx_mk u0 (yE.trans (eX_c4 (by omega) (by omega) (by omega))) e6 (by rw [e7, k26, k4]; exact eP.symm)⟩ (by omega)
  · intros; exfalso; omega
theorem y96_of {n : Nat} (h0 : 0 ≤ (sy_i F0 15).toInt) (h96 : y96 X1 X2 F0 Ls xs n) (h12 : y12 X1 X2 F0 Ls xs n) : y96 X1 X2 F0 Ls xs (n + 1) := by
  intro F hx hi h69 hn
  have x3 := hx.1.2.2.1
  have x4 := hx.1.2.2.2
  have c4 := nz_bx hx.1.1.b (k := 4) (lo := 0) (hi := 400) rfl
  have c5 := nz_bx hx.1.1.b (k := 5) (lo := 0) (hi := 7) rfl
  have c12 := nz_bx hx.1.1.b (k := 12) (lo := 0) (hi := 1) rfl
  have c15 := nz_bx hx.1.1.b (k := 15) (lo := 0) (hi := 840) rfl
  have c16 := nz_bx hx.1.1.b (k := 16) (lo := 0) (hi := 64) rfl
  have i12 := hx.1.1.i (k := 12) (by decide) (by decide)
  have x25 := hx.1.1.a (k := 25) (by decide) (by decide)
  have x26 := hx.1.1.a (k := 26) (by decide) (by decide)
  have eK : kf F0 (tn F) = ((sy_ai F 25).getD (sy_i F 4).toInt.toNat 0).toInt := by rw [x25]; rfl
  have eP : pf F0 (tn F) = ((sy_ai F 26).getD (sy_i F 4).toInt.toNat 0).toInt := by rw [x26]; rfl
  have et : (tn F : Int) = (sy_i F 4).toInt := by unfold tn; omega
  have t1 := hx.1.1.t
  obtain ⟨⟨y1, y2, y3, g', o, p, y4, y5, y6⟩, yE⟩ := id hi
  have u0 := hx.1.1.u y1.1
  have y3' := y3 rfl
  have same : ∀ F1 : Nat → sy_d, (sy_i F1 4).toInt = (sy_i F 4).toInt → (sy_i F1 5).toInt = (sy_i F 5).toInt → (sy_i F1 6).toInt = (sy_i F 6).toInt → (sy_i F1 15).toInt = (sy_i F 15).toInt → (sy_i F1 16).toInt = (sy_i F 16).toInt → sy_ai F1 49 = sy_ai F 49 → sy_ai F1 50 = sy_ai F 50 → sy_ai F1 51 = sy_ai F 51 → yi 1 F0 F1 := by
    intro F1 e4 e5 e6 e15 e16 a49 a50 a51
    exact ⟨⟨by omega, by omega, fun _ => by omega, g', o, p, by rw [a51, e16]; exact y4, by omega, by rw [a49, a50, e15]; exact y6⟩, by rw [tn_eq e4, e5]; exact yE⟩
  refine exy_96 (by decide) F X1 X2 hx.1.1.b ?_ ?_ ?_ ?_ ?_ ?_ ?_ ?_ ?_ ?_ ?_
  · intros; exfalso; omega
  · intros; exfalso; omega
  · intros
    rename_i F1 hb g e4 e5 e6 e7 e11 e12 e14 e15 e16 a25 a26 a49 a50 a51
    exact ey_206' X1 X2 F0 h0 ⟨xc_step hx.1 hb g (by decide) (by omega) (by omega) (kp_same a49 a50) (by omega) (by omega), fx_ok u0 (by omega)⟩ (Or.inr ⟨same F1 e4 e5 e6 e15 e16 a49 a50 a51, by omega, by rw [tn_eq e4]; omega⟩)
  · intros
    rename_i F1 hb g e4 e5 e6 e7 e11 e12 e14 e15 e16 a25 a26 a49 a50 a51
    exact ey_206' X1 X2 F0 h0 ⟨xc_step hx.1 hb g (by decide) (by omega) (by omega) (kp_same a49 a50) (by omega) (by omega), fx_mk u0 (yE.trans (eX_e1 (by omega) (by omega) (by omega) (by omega))) e6 (e7.trans eP.symm)⟩ (Or.inl (by omega))
  iterate 4
    intros
    rename_i F1 hb g e4 e5 e6 e7 e11 e12 e14 e15 e16 a25 a26 a49 a50 a51 e69 e70
    exact ey_234' X1 X2 F0 h0 h12 ⟨xc_step hx.1 hb g (by decide) (by omega) (by omega) (kp_same a49 a50) (by omega) (by omega), fx_ok u0 (by omega)⟩ (same F1 e4 e5 e6 e15 e16 a49 a50 a51) (by omega) (by omega) (by rw [a25, e4]; omega)
  · intros
    rename_i F1 hb g e4 e5 e6 e7 e11 e12 e14 e15 e16 a25 a26 a49 a50 a51
    exact ey_206' X1 X2 F0 h0 ⟨xc_step hx.1 hb g (by decide) (by omega) (by omega) (kp_same a49 a50) (by omega) (by omega), fx_ok u0 (by omega)⟩ (Or.inr ⟨same F1 e4 e5 e6 e15 e16 a49 a50 a51, by omega, by rw [tn_eq e4]; omega⟩)
  · intros; exfalso; omega
  · intros
    rename_i F1 hb g e4 e5 e6 e7 e11 e12 e14 e15 e16 a25 a26 a49 a50 a51 e69
    exact ey_115' X1 X2 F0 h0 h96 ⟨xc_step hx.1 hb g (by decide) (by omega) (by omega) (kp_same a49 a50) (by omega) (by omega), fx_ok u0 (by omega)⟩ (same F1 e4 e5 e6 e15 e16 a49 a50 a51) (by omega) (by omega) (by omega) (by rw [a25, e4]; omega)
theorem y_all (h0 : 0 ≤ (sy_i F0 15).toInt) : ∀ n : Nat, y96 X1 X2 F0 Ls xs n ∧ y23 X1 X2 F0 Ls xs n
  | 0 => by
    constructor
    · intro F hx _ _ hn
      have c4 := nz_bx hx.1.1.b (k := 4) (lo := 0) (hi := 400) rfl
      omega
    · intro F hx _ _ hn
      have c4 := nz_bx hx.1.1.b (k := 4) (lo := 0) (hi := 400) rfl
      omega
  | n + 1 => by
    obtain ⟨a, b⟩ := y_all h0 n
    exact ⟨y96_of X1 X2 F0 h0 a (y12_of X1 X2 F0 b), y23_of X1 X2 F0 h0 b a⟩
theorem ey_T (hB : iv_in F0 iv_B4) (h1 : (sy_i F0 6).toInt = 0 → (sy_i F0 5).toInt = 0 ∧ (sy_i F0 15).toInt ≤ 420 * (sy_i F0 12).toInt + (sy_i F0 4).toInt) (h2 : (sy_i F0 15).toInt ≤ 420 * (sy_i F0 12).toInt + (sy_i F0 4).toInt + 1) :
    jm_T Ls xs 4 jm_M164 [.ref 1000] (sy_dh F0 X1 X2 (iv_H 4)) 0 0 (ey_Q F0 X1 X2) := by
  have c15 := nz_bx hB (k := 15) (lo := 0) (hi := 840) rfl
  have c4 := nz_bx hB (k := 4) (lo := 0) (hi := 400) rfl
  refine nz_T0 jm_ok164 (by decide) (exy_0 (by decide) F0 X1 X2 hB ?_)
  intro F hb g e4 e5 e6 e7 e11 e12 e14 e15 e16 a25 a26 a49 a50 a51 e69
  have hx : xc F0 F := ⟨gr_mk hb g (by decide) (by omega) (by omega), kp_same a49 a50, by omega, by omega⟩
  by_cases hf : (sy_i F 6).toInt = 0
  · have h1' := h1 (by omega)
    refine y12_of X1 X2 F0 (y_all X1 X2 F0 c15.1 401).2 F ⟨hx, fx_ok (by omega) hf⟩ ⟨⟨by omega, by omega, fun z => absurd z (by decide), 0, 0, 0, ?_, by omega, ?_⟩, ?_⟩ (by omega) (by omega)
    · rw [show (sy_i F 16).toInt.toNat = 0 by omega]
      exact .nil
    · rw [show ((sy_i F 15).toInt - (sy_i F0 15).toInt).toNat = 0 by omega]
      exact .nil
    · rw [tn_eq e4, show (sy_i F 5).toInt.toNat = 0 by omega]
      rfl
  · exact ey_12F X1 X2 F0 ⟨hx, ⟨fun q => absurd e6 (by omega), fun _ => ⟨e6, e7⟩⟩⟩ hf
end EY
