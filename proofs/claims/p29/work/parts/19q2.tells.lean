/-! ===== fruit and buyers are told ===== -/
section TF
variable {Ls : Nat} {xs : Nat → Int32} (F : Nat → sy_d) (X1 X2 : List jm_c)
noncomputable def tf_I : List Nat := [4, 6, 7, 8, 9, 32, 33, 34]
noncomputable def tf_W : List Nat := [4, 6, 7, 8, 9, 13, 30, 31, 32, 33, 34]
noncomputable def tf_Q (F : Nat → sy_d) (X1 X2 : List jm_c) (v : Option Value) (G : jm_h) : Prop := ∃ F' : Nat → sy_d, v = none ∧ G = sy_dh F' X1 X2 (iv_H 4) ∧ gr tf_W F F' ∧ ((sy_i F' 6).toInt = 0 → (sy_i F' 13).toInt = (sy_i F 13).toInt + 1 ∧ ((sy_ai F' 31).getD (sy_i F 12).toInt.toNat 0).toInt = ((sy_ai F 31).getD (sy_i F 12).toInt.toNat 0).toInt + 1)
theorem tf_e (hf : ((sy_ai F 31).getD (sy_i F 12).toInt.toNat 0).toInt ≤ 6) (hn : (sy_i F 13).toInt ≤ 10) (F1 : Nat → sy_d) (hG : gr tf_I F F1) (h1 : 0 ≤ (sy_i F1 69).toInt) (h2 : (sy_i F1 69).toInt ≤ 400) :
    hd_W Ls xs 5 jm_M158 (tf_Q F X1 X2) (64, sy_dL F1 [some (.inl (.ref 1000)), none, none], sy_dS F1 [.inr (.inl 69), .inl (.ref 1000)], sy_dh F1 X1 X2 (iv_H 4), 0, 0) := by
  have i12 := hG.i (k := 12) (by decide) (by decide)
  have i13 := hG.i (k := 13) (by decide) (by decide)
  have a31 := hG.a (k := 31) (by decide) (by decide)
  refine hd_calV (R := fun F' => gr W2 F1 F' ∧ ((sy_i F' 6).toInt = 0 → (sy_i F' 13).toInt = (sy_i F1 13).toInt + 1 ∧ (sy_i F1 4).toInt + 1 ≤ (sy_i F' 4).toInt)) (nh := 69) (nv := 70) (s := 4) (s1 := 4) (d1 := 4) (M1 := jm_M156) (As := [.inl (.ref 1000), .inr (.inl 69)]) (rest := []) jm_ok158 rfl rfl (by decide) (by decide +kernel) (en_T F1 X1 X2 hG.b _ h1 h2 (by omega)) (fun F3 F' hR p1 _ => ?_)
  have h3 := hR.1.dst p1
  have j6 := nz_fi (p1 6 (by decide))
  have j13 := nz_fi (p1 13 (by decide))
  have x := hR.2
  have k12 := h3.i (k := 12) (by decide) (by decide)
  have k31 := h3.a (k := 31) (by decide) (by decide)
  have b31 := nz_ba h3.b (k := 31) (lo := 0) (hi := 7) rfl (sy_i F3 12).toInt.toNat
  have h4 : gr tf_W F F3 := (hG.mono (by decide)).trans h3 (by decide)
  have e31 : ((sy_ai F3 31).getD (sy_i F3 12).toInt.toNat 0).toInt = ((sy_ai F 31).getD (sy_i F 12).toInt.toNat 0).toInt := by rw [k31, a31, k12, i12]
  refine tf_67 (by decide) F3 X1 X2 h3.b (by omega) ?_ ?_
  · intro q F4 hb g e4 e6 e12 e13 e31'
    refine ⟨F4, rfl, rfl, h4.trans (gr_mk (W := tf_W) hb g (by decide) (by omega) (by omega)) (by decide), fun z => ?_⟩
    omega
  · intro q F4 hb g e4 e6 e12 e13 e31'
    refine ⟨F4, rfl, rfl, h4.trans (gr_mk (W := tf_W) hb g (by decide) (by omega) (by omega)) (by decide), fun z => ⟨by omega, ?_⟩⟩
    have k12' : (sy_i F3 12).toInt = (sy_i F 12).toInt := k12.trans i12
    rw [e31', jm_upd_at, if_pos (by rw [k12']), nz_add (rfl : ((sy_ai F3 31).getD (sy_i F3 12).toInt.toNat 0).toInt = _) (by decide : ((1 : Int32)).toInt = 1) (by omega) (by omega), e31]
theorem tf_b2 (hf : ((sy_ai F 31).getD (sy_i F 12).toInt.toNat 0).toInt ≤ 6) (hn : (sy_i F 13).toInt ≤ 10) (F1 : Nat → sy_d) (hG : gr tf_I F F1) (ha : 0 ≤ (sy_i F1 69).toInt ∧ (sy_i F1 69).toInt ≤ 13) (h1 : 0 ≤ (sy_i F1 70).toInt) (h2 : (sy_i F1 70).toInt ≤ 400) :
    hd_W Ls xs 5 jm_M158 (tf_Q F X1 X2) (58, sy_dL F1 [some (.inl (.ref 1000)), some (.inr (.inl 69)), some (.inr (.inl 70))], sy_dS F1 [.inl (.int 99), .inl (.int 0), .inl (.ref 1000), .inr (.inl 69), .inl (.ref 1012)], sy_dh F1 X1 X2 (iv_H 4), 0, 0) := by
  refine hd_calI (R := fun _ F' => gr W1 F1 F' ∧ ((sy_i F' 6).toInt = 0 → (sy_i F' 4).toInt = (sy_i F1 4).toInt + 1)) (nh := 69) (nv := 71) (s := 4) (s1 := 4) (d1 := 3) (M1 := jm_M157) (As := [.inl (.ref 1000), .inl (.int 0), .inl (.int 99)]) (rest := [.inr (.inl 69), .inl (.ref 1012)]) jm_ok158 rfl rfl (by decide) (by decide +kernel) (bo_T F1 X1 X2 hG.b _ _) (fun F3 F' x hR p1 p2 _ => ?_)
  have h3 := hG.trans (hR.1.dst p1) (by decide)
  have j69 := nz_fi (p2 69 (by decide) (by decide))
  have j70 := nz_fi (p2 70 (by decide) (by decide))
  refine tf_61 (by decide) F3 X1 X2 h3.b (by omega) ?_
  intro F4 hb g e4 e6 e12 e13 e31 e69
  exact tf_e F X1 X2 hf hn F4 (h3.trans (gr_mk (W := tf_I) hb g (by decide) (by omega) (by omega)) (by decide)) (by omega) (by omega)
theorem tf_b1 (hf : ((sy_ai F 31).getD (sy_i F 12).toInt.toNat 0).toInt ≤ 6) (hn : (sy_i F 13).toInt ≤ 10) (F1 : Nat → sy_d) (hG : gr tf_I F F1) (ha : 0 ≤ (sy_i F1 69).toInt ∧ (sy_i F1 69).toInt ≤ 13) (h1 : 0 ≤ (sy_i F1 70).toInt) (h2 : (sy_i F1 70).toInt ≤ 400) :
    hd_W Ls xs 5 jm_M158 (tf_Q F X1 X2) (45, sy_dL F1 [some (.inl (.ref 1000)), some (.inr (.inl 69)), some (.inr (.inl 70))], sy_dS F1 [.inl (.int 9), .inl (.int 1), .inl (.ref 1000), .inr (.inl 69), .inl (.ref 1011)], sy_dh F1 X1 X2 (iv_H 4), 0, 0) := by
  refine hd_calI (R := fun _ F' => gr W1 F1 F' ∧ ((sy_i F' 6).toInt = 0 → (sy_i F' 4).toInt = (sy_i F1 4).toInt + 1)) (nh := 69) (nv := 71) (s := 4) (s1 := 4) (d1 := 3) (M1 := jm_M157) (As := [.inl (.ref 1000), .inl (.int 1), .inl (.int 9)]) (rest := [.inr (.inl 69), .inl (.ref 1011)]) jm_ok158 rfl rfl (by decide) (by decide +kernel) (bo_T F1 X1 X2 hG.b _ _) (fun F3 F' x hR p1 p2 _ => ?_)
  have h3 := hG.trans (hR.1.dst p1) (by decide)
  have j69 := nz_fi (p2 69 (by decide) (by decide))
  have j70 := nz_fi (p2 70 (by decide) (by decide))
  refine tf_48 (by decide) F3 X1 X2 h3.b (by omega) ?_
  intro F4 hb g e4 e6 e12 e13 e31 e69 e70
  exact tf_b2 F X1 X2 hf hn F4 (h3.trans (gr_mk (W := tf_I) hb g (by decide) (by omega) (by omega)) (by decide)) (by omega) (by omega) (by omega)
theorem tf_b0 (hf : ((sy_ai F 31).getD (sy_i F 12).toInt.toNat 0).toInt ≤ 6) (hn : (sy_i F 13).toInt ≤ 10) (F1 : Nat → sy_d) (hG : gr tf_I F F1) (ha : 0 ≤ (sy_i F1 69).toInt ∧ (sy_i F1 69).toInt ≤ 13) (h1 : 0 ≤ (sy_i F1 70).toInt) (h2 : (sy_i F1 70).toInt ≤ 400) :
    hd_W Ls xs 5 jm_M158 (tf_Q F X1 X2) (32, sy_dL F1 [some (.inl (.ref 1000)), some (.inr (.inl 69)), some (.inr (.inl 70))], sy_dS F1 [.inl (.int 9), .inl (.int 0), .inl (.ref 1000), .inr (.inl 69), .inl (.ref 1010)], sy_dh F1 X1 X2 (iv_H 4), 0, 0) := by
  refine hd_calI (R := fun _ F' => gr W1 F1 F' ∧ ((sy_i F' 6).toInt = 0 → (sy_i F' 4).toInt = (sy_i F1 4).toInt + 1)) (nh := 69) (nv := 71) (s := 4) (s1 := 4) (d1 := 3) (M1 := jm_M157) (As := [.inl (.ref 1000), .inl (.int 0), .inl (.int 9)]) (rest := [.inr (.inl 69), .inl (.ref 1010)]) jm_ok158 rfl rfl (by decide) (by decide +kernel) (bo_T F1 X1 X2 hG.b _ _) (fun F3 F' x hR p1 p2 _ => ?_)
  have h3 := hG.trans (hR.1.dst p1) (by decide)
  have j69 := nz_fi (p2 69 (by decide) (by decide))
  have j70 := nz_fi (p2 70 (by decide) (by decide))
  refine tf_35 (by decide) F3 X1 X2 h3.b (by omega) ?_
  intro F4 hb g e4 e6 e12 e13 e31 e69 e70
  exact tf_b1 F X1 X2 hf hn F4 (h3.trans (gr_mk (W := tf_I) hb g (by decide) (by omega) (by omega)) (by decide)) (by omega) (by omega) (by omega)
theorem tf_T (hB : iv_in F iv_B4) (hf : ((sy_ai F 31).getD (sy_i F 12).toInt.toNat 0).toInt ≤ 6) (hn : (sy_i F 13).toInt ≤ 10) : jm_T Ls xs 5 jm_M158 [.ref 1000] (sy_dh F X1 X2 (iv_H 4)) 0 0 (tf_Q F X1 X2) := by
  have c12 := nz_bx hB (k := 12) (lo := 0) (hi := 1) rfl
  have b31 := nz_ba hB (k := 31) (lo := 0) (hi := 7) rfl (sy_i F 12).toInt.toNat
  refine nz_T0 jm_ok158 (by decide) (tf_0 (by decide) F X1 X2 hB ?_)
  intro F1 hb g e4 e6 e12 e13 e31 e69
  have hG : gr tf_I F F1 := gr_mk hb g (by decide) (by omega) (by omega)
  refine hd_calI (R := fun (x : Int32) F' => gr W1 F1 F' ∧ ((sy_i F' 6).toInt = 0 → (sy_i F' 4).toInt = (sy_i F1 4).toInt + 1) ∧ 0 ≤ x.toInt ∧ x.toInt ≤ 400) (nh := 69) (nv := 70) (s := 4) (s1 := 4) (d1 := 4) (M1 := jm_M155) (As := [.inl (.ref 1000)]) (rest := []) jm_ok158 rfl rfl (by decide) (by decide +kernel) (na_T F1 X1 X2 hb) (fun F3 F' x hR p1 p2 p3 => ?_)
  have h3 := hG.trans (hR.1.dst p1) (by decide)
  have j69 := nz_fi (p2 69 (by decide) (by decide))
  have j70 := zz_i p3
  have x1 := hR.2.2.1
  have x2 := hR.2.2.2
  rw [← j70] at x1 x2
  refine tf_22 (by decide) F3 X1 X2 h3.b ?_
  intro F4 hb4 g4 e4' e6' e12' e13' e31' e69' e70'
  exact tf_b0 F X1 X2 hf hn F4 (h3.trans (gr_mk (W := tf_I) hb4 g4 (by decide) (by omega) (by omega)) (by decide)) (by omega) (by omega) (by omega)
noncomputable def tb_I : List Nat := [4, 6, 7, 8, 9, 36, 37, 38]
noncomputable def tb_W : List Nat := [4, 6, 7, 8, 9, 13, 30, 35, 36, 37, 38]
noncomputable def tb_Q (F : Nat → sy_d) (X1 X2 : List jm_c) (v : Option Value) (G : jm_h) : Prop := ∃ F' : Nat → sy_d, v = none ∧ G = sy_dh F' X1 X2 (iv_H 4) ∧ gr tb_W F F' ∧ ((sy_i F' 6).toInt = 0 → (sy_i F' 13).toInt = (sy_i F 13).toInt + 1 ∧ ((sy_ai F' 35).getD (sy_i F 12).toInt.toNat 0).toInt = ((sy_ai F 35).getD (sy_i F 12).toInt.toNat 0).toInt + 1)
theorem tb_e (hf : ((sy_ai F 35).getD (sy_i F 12).toInt.toNat 0).toInt ≤ 3) (hn : (sy_i F 13).toInt ≤ 10) (F1 : Nat → sy_d) (hG : gr tb_I F F1) (h1 : 0 ≤ (sy_i F1 69).toInt) (h2 : (sy_i F1 69).toInt ≤ 400) :
    hd_W Ls xs 5 jm_M159 (tb_Q F X1 X2) (63, sy_dL F1 [some (.inl (.ref 1000)), none, none], sy_dS F1 [.inr (.inl 69), .inl (.ref 1000)], sy_dh F1 X1 X2 (iv_H 4), 0, 0) := by
  have i12 := hG.i (k := 12) (by decide) (by decide)
  have i13 := hG.i (k := 13) (by decide) (by decide)
  have a31 := hG.a (k := 35) (by decide) (by decide)
  refine hd_calV (R := fun F' => gr W2 F1 F' ∧ ((sy_i F' 6).toInt = 0 → (sy_i F' 13).toInt = (sy_i F1 13).toInt + 1 ∧ (sy_i F1 4).toInt + 1 ≤ (sy_i F' 4).toInt)) (nh := 69) (nv := 70) (s := 4) (s1 := 4) (d1 := 4) (M1 := jm_M156) (As := [.inl (.ref 1000), .inr (.inl 69)]) (rest := []) jm_ok159 rfl rfl (by decide) (by decide +kernel) (en_T F1 X1 X2 hG.b _ h1 h2 (by omega)) (fun F3 F' hR p1 _ => ?_)
  have h3 := hR.1.dst p1
  have j6 := nz_fi (p1 6 (by decide))
  have j13 := nz_fi (p1 13 (by decide))
  have x := hR.2
  have k12 := h3.i (k := 12) (by decide) (by decide)
  have k31 := h3.a (k := 35) (by decide) (by decide)
  have b31 := nz_ba h3.b (k := 35) (lo := 0) (hi := 4) rfl (sy_i F3 12).toInt.toNat
  have h4 : gr tb_W F F3 := (hG.mono (by decide)).trans h3 (by decide)
  have e31 : ((sy_ai F3 35).getD (sy_i F3 12).toInt.toNat 0).toInt = ((sy_ai F 35).getD (sy_i F 12).toInt.toNat 0).toInt := by rw [k31, a31, k12, i12]
  refine tb_66 (by decide) F3 X1 X2 h3.b (by omega) ?_ ?_
  · intro q F4 hb g e4 e6 e12 e13 e31'
    refine ⟨F4, rfl, rfl, h4.trans (gr_mk (W := tb_W) hb g (by decide) (by omega) (by omega)) (by decide), fun z => ?_⟩
    omega
  · intro q F4 hb g e4 e6 e12 e13 e31'
    refine ⟨F4, rfl, rfl, h4.trans (gr_mk (W := tb_W) hb g (by decide) (by omega) (by omega)) (by decide), fun z => ⟨by omega, ?_⟩⟩
    have k12' : (sy_i F3 12).toInt = (sy_i F 12).toInt := k12.trans i12
    rw [e31', jm_upd_at, if_pos (by rw [k12']), nz_add (rfl : ((sy_ai F3 35).getD (sy_i F3 12).toInt.toNat 0).toInt = _) (by decide : ((1 : Int32)).toInt = 1) (by omega) (by omega), e31]
theorem tb_b2 (hf : ((sy_ai F 35).getD (sy_i F 12).toInt.toNat 0).toInt ≤ 3) (hn : (sy_i F 13).toInt ≤ 10) (F1 : Nat → sy_d) (hG : gr tb_I F F1) (ha : 0 ≤ (sy_i F1 69).toInt ∧ (sy_i F1 69).toInt ≤ 7) (h1 : 0 ≤ (sy_i F1 70).toInt) (h2 : (sy_i F1 70).toInt ≤ 400) :
    hd_W Ls xs 5 jm_M159 (tb_Q F X1 X2) (57, sy_dL F1 [some (.inl (.ref 1000)), some (.inr (.inl 69)), some (.inr (.inl 70))], sy_dS F1 [.inl (.int 999), .inl (.int 0), .inl (.ref 1000), .inr (.inl 69), .inl (.ref 1016)], sy_dh F1 X1 X2 (iv_H 4), 0, 0) := by
  refine hd_calI (R := fun _ F' => gr W1 F1 F' ∧ ((sy_i F' 6).toInt = 0 → (sy_i F' 4).toInt = (sy_i F1 4).toInt + 1)) (nh := 69) (nv := 71) (s := 4) (s1 := 4) (d1 := 3) (M1 := jm_M157) (As := [.inl (.ref 1000), .inl (.int 0), .inl (.int 999)]) (rest := [.inr (.inl 69), .inl (.ref 1016)]) jm_ok159 rfl rfl (by decide) (by decide +kernel) (bo_T F1 X1 X2 hG.b _ _) (fun F3 F' x hR p1 p2 _ => ?_)
  have h3 := hG.trans (hR.1.dst p1) (by decide)
  have j69 := nz_fi (p2 69 (by decide) (by decide))
  have j70 := nz_fi (p2 70 (by decide) (by decide))
  refine tb_60 (by decide) F3 X1 X2 h3.b (by omega) ?_
  intro F4 hb g e4 e6 e12 e13 e31 e69
  exact tb_e F X1 X2 hf hn F4 (h3.trans (gr_mk (W := tb_I) hb g (by decide) (by omega) (by omega)) (by decide)) (by omega) (by omega)
theorem tb_b1 (hf : ((sy_ai F 35).getD (sy_i F 12).toInt.toNat 0).toInt ≤ 3) (hn : (sy_i F 13).toInt ≤ 10) (F1 : Nat → sy_d) (hG : gr tb_I F F1) (ha : 0 ≤ (sy_i F1 69).toInt ∧ (sy_i F1 69).toInt ≤ 7) (h1 : 0 ≤ (sy_i F1 70).toInt) (h2 : (sy_i F1 70).toInt ≤ 400) :
    hd_W Ls xs 5 jm_M159 (tb_Q F X1 X2) (43, sy_dL F1 [some (.inl (.ref 1000)), some (.inr (.inl 69)), some (.inr (.inl 70))], sy_dS F1 [.inl (.int 3), .inl (.int 0), .inl (.ref 1000), .inr (.inl 69), .inl (.ref 1015)], sy_dh F1 X1 X2 (iv_H 4), 0, 0) := by
  refine hd_calI (R := fun _ F' => gr W1 F1 F' ∧ ((sy_i F' 6).toInt = 0 → (sy_i F' 4).toInt = (sy_i F1 4).toInt + 1)) (nh := 69) (nv := 71) (s := 4) (s1 := 4) (d1 := 3) (M1 := jm_M157) (As := [.inl (.ref 1000), .inl (.int 0), .inl (.int 3)]) (rest := [.inr (.inl 69), .inl (.ref 1015)]) jm_ok159 rfl rfl (by decide) (by decide +kernel) (bo_T F1 X1 X2 hG.b _ _) (fun F3 F' x hR p1 p2 _ => ?_)
  have h3 := hG.trans (hR.1.dst p1) (by decide)
  have j69 := nz_fi (p2 69 (by decide) (by decide))
  have j70 := nz_fi (p2 70 (by decide) (by decide))
  refine tb_46 (by decide) F3 X1 X2 h3.b (by omega) ?_
  intro F4 hb g e4 e6 e12 e13 e31 e69 e70
  exact tb_b2 F X1 X2 hf hn F4 (h3.trans (gr_mk (W := tb_I) hb g (by decide) (by omega) (by omega)) (by decide)) (by omega) (by omega) (by omega)
theorem tb_b0 (hf : ((sy_ai F 35).getD (sy_i F 12).toInt.toNat 0).toInt ≤ 3) (hn : (sy_i F 13).toInt ≤ 10) (F1 : Nat → sy_d) (hG : gr tb_I F F1) (ha : 0 ≤ (sy_i F1 69).toInt ∧ (sy_i F1 69).toInt ≤ 7) (h1 : 0 ≤ (sy_i F1 70).toInt) (h2 : (sy_i F1 70).toInt ≤ 400) :
    hd_W Ls xs 5 jm_M159 (tb_Q F X1 X2) (31, sy_dL F1 [some (.inl (.ref 1000)), some (.inr (.inl 69)), some (.inr (.inl 70))], sy_dS F1 [.inl (.int 9), .inl (.int 0), .inl (.ref 1000), .inr (.inl 69), .inl (.ref 1014)], sy_dh F1 X1 X2 (iv_H 4), 0, 0) := by
  refine hd_calI (R := fun _ F' => gr W1 F1 F' ∧ ((sy_i F' 6).toInt = 0 → (sy_i F' 4).toInt = (sy_i F1 4).toInt + 1)) (nh := 69) (nv := 71) (s := 4) (s1 := 4) (d1 := 3) (M1 := jm_M157) (As := [.inl (.ref 1000), .inl (.int 0), .inl (.int 9)]) (rest := [.inr (.inl 69), .inl (.ref 1014)]) jm_ok159 rfl rfl (by decide) (by decide +kernel) (bo_T F1 X1 X2 hG.b _ _) (fun F3 F' x hR p1 p2 _ => ?_)
  have h3 := hG.trans (hR.1.dst p1) (by decide)
  have j69 := nz_fi (p2 69 (by decide) (by decide))
  have j70 := nz_fi (p2 70 (by decide) (by decide))
  refine tb_34 (by decide) F3 X1 X2 h3.b (by omega) ?_
  intro F4 hb g e4 e6 e12 e13 e31 e69 e70
  exact tb_b1 F X1 X2 hf hn F4 (h3.trans (gr_mk (W := tb_I) hb g (by decide) (by omega) (by omega)) (by decide)) (by omega) (by omega) (by omega)
theorem tb_T (hB : iv_in F iv_B4) (hf : ((sy_ai F 35).getD (sy_i F 12).toInt.toNat 0).toInt ≤ 3) (hn : (sy_i F 13).toInt ≤ 10) : jm_T Ls xs 5 jm_M159 [.ref 1000] (sy_dh F X1 X2 (iv_H 4)) 0 0 (tb_Q F X1 X2) := by
  have c12 := nz_bx hB (k := 12) (lo := 0) (hi := 1) rfl
  have b31 := nz_ba hB (k := 35) (lo := 0) (hi := 4) rfl (sy_i F 12).toInt.toNat
  refine nz_T0 jm_ok159 (by decide) (tb_0 (by decide) F X1 X2 hB ?_)
  intro F1 hb g e4 e6 e12 e13 e31 e69
  have hG : gr tb_I F F1 := gr_mk hb g (by decide) (by omega) (by omega)
  refine hd_calI (R := fun (x : Int32) F' => gr W1 F1 F' ∧ ((sy_i F' 6).toInt = 0 → (sy_i F' 4).toInt = (sy_i F1 4).toInt + 1) ∧ 0 ≤ x.toInt ∧ x.toInt ≤ 400) (nh := 69) (nv := 70) (s := 4) (s1 := 4) (d1 := 4) (M1 := jm_M155) (As := [.inl (.ref 1000)]) (rest := []) jm_ok159 rfl rfl (by decide) (by decide +kernel) (na_T F1 X1 X2 hb) (fun F3 F' x hR p1 p2 p3 => ?_)
  have h3 := hG.trans (hR.1.dst p1) (by decide)
  have j69 := nz_fi (p2 69 (by decide) (by decide))
  have j70 := zz_i p3
  have x1 := hR.2.2.1
  have x2 := hR.2.2.2
  rw [← j70] at x1 x2
  refine tb_21 (by decide) F3 X1 X2 h3.b ?_
  intro F4 hb4 g4 e4' e6' e12' e13' e31' e69' e70'
  exact tb_b0 F X1 X2 hf hn F4 (h3.trans (gr_mk (W := tb_I) hb4 g4 (by decide) (by omega) (by omega)) (by decide)) (by omega) (by omega) (by omega)
end TF
