/-! ===== a law is read ===== -/
noncomputable def WL : List Nat := [4, 5, 6, 7, 14, 15, 16, 44, 45, 46, 47, 48, 49, 50, 51]
noncomputable def WLL : List Nat := [4, 5, 6, 7, 14, 15, 16, 42, 43, 44, 45, 46, 47, 48, 49, 50, 51]
noncomputable def lc (m : Int) (F0 F : Nat → sy_d) : Prop := gr WL F0 F ∧ kp F0 F ∧ kb F0 F ∧ (sy_i F0 15).toInt ≤ (sy_i F 15).toInt ∧ (sy_i F0 14).toInt ≤ (sy_i F 14).toInt ∧ (sy_i F 15).toInt ≤ 420 * (sy_i F0 12).toInt + (sy_i F 4).toInt + 1 ∧ (sy_i F 14).toInt ≤ 130 * (sy_i F0 12).toInt + m
noncomputable def li (k : Int) (F0 F : Nat → sy_d) : Prop := (sy_i F 5).toInt = 0 ∧ (sy_i F 15).toInt ≤ 420 * (sy_i F0 12).toInt + (sy_i F 4).toInt ∧ 4 * ((sy_i F 14).toInt - 130 * (sy_i F0 12).toInt) + k ≤ (sy_i F 4).toInt ∧ ∀ b : Nat, (sy_i F0 14).toInt ≤ b → (b : Int) < (sy_i F 14).toInt → rp_br F (sy_i F0 12).toInt.toNat (sy_i F 15).toInt b
theorem lc_step {m m' : Int} {F0 F F1 : Nat → sy_d} {C : List Nat} (h : lc m F0 F) (hb : iv_in F1 iv_B4) (g : ∀ j, j < 69 → j ∉ C → F1 j = F j) (hC : ∀ x ∈ C, x ∈ WL) (t : (sy_i F 4).toInt ≤ (sy_i F1 4).toInt) (u : (sy_i F1 6).toInt = 0 → (sy_i F 6).toInt = 0) (k : kp F F1) (hs : ∀ b : Nat, (b : Int) ≠ (sy_i F 14).toInt → s5 F F1 b) (l15 : (sy_i F 15).toInt ≤ (sy_i F1 15).toInt) (l14 : (sy_i F 14).toInt ≤ (sy_i F1 14).toInt) (c15 : (sy_i F1 15).toInt ≤ 420 * (sy_i F0 12).toInt + (sy_i F1 4).toInt + 1) (c14 : (sy_i F1 14).toInt ≤ 130 * (sy_i F0 12).toInt + m') : lc m' F0 F1 := by
  obtain ⟨h1, h2, h3, h4, h5, h6, h7⟩ := h
  exact ⟨h1.trans (gr_mk (W := WL) hb g hC t u) (fun _ q => q), kp_trans h2 k h4 l15, kb_step h3 hs h5 l14, by omega, by omega, c15, c14⟩
theorem lc_gr {m m' : Int} {F0 F F1 : Nat → sy_d} {W : List Nat} (h : lc m F0 F) (hG : gr W F F1) (hC : ∀ x ∈ W, x ∈ WL) (k : kp F F1) (hs : ∀ b : Nat, (b : Int) ≠ (sy_i F 14).toInt → s5 F F1 b) (l15 : (sy_i F 15).toInt ≤ (sy_i F1 15).toInt) (l14 : (sy_i F 14).toInt ≤ (sy_i F1 14).toInt) (c15 : (sy_i F1 15).toInt ≤ 420 * (sy_i F0 12).toInt + (sy_i F1 4).toInt + 1) (c14 : (sy_i F1 14).toInt ≤ 130 * (sy_i F0 12).toInt + m') : lc m' F0 F1 := lc_step h hG.b hG.f hC hG.t hG.u k hs l15 l14 c15 c14
theorem li_step {k k' : Int} {F0 F F1 : Nat → sy_d} (h : li k F0 F) (e5 : (sy_i F1 5).toInt = 0) (c : (sy_i F1 15).toInt ≤ 420 * (sy_i F0 12).toInt + (sy_i F1 4).toInt) (d : 4 * ((sy_i F1 14).toInt - 130 * (sy_i F0 12).toInt) + k' ≤ (sy_i F1 4).toInt) (e14 : (sy_i F1 14).toInt = (sy_i F 14).toInt) (hs : ∀ b : Nat, (b : Int) ≠ (sy_i F 14).toInt → s5 F F1 b) (hk : kp F F1) (l15 : (sy_i F 15).toInt ≤ (sy_i F1 15).toInt) : li k' F0 F1 :=
  ⟨e5, c, d, fun b h1 h2 => rp_br_keep (h.2.2.2 b h1 (by omega)) (hs b (by omega)) (fun i _ hi => hk i (Or.inl hi)) l15⟩
theorem rs_step {sd : Nat} {x y : Int} {F F1 : Nat → sy_d} (h : rs sd (sy_i F 15).toInt (sy_ai F 49) (sy_ai F 50) x y) (hk : kp F F1) (l15 : (sy_i F 15).toInt ≤ (sy_i F1 15).toInt) : rs sd (sy_i F1 15).toInt (sy_ai F1 49) (sy_ai F1 50) x y := rs_keep h (fun i _ hi => hk i (Or.inl hi)) l15
noncomputable def tl_R (k : Int) (F0 F' : Nat → sy_d) : Prop := gr WLL F0 F' ∧ kp F0 F' ∧ kb F0 F' ∧ (sy_i F0 15).toInt ≤ (sy_i F' 15).toInt ∧ (sy_i F0 14).toInt ≤ (sy_i F' 14).toInt ∧ (sy_i F' 15).toInt ≤ 420 * (sy_i F0 12).toInt + (sy_i F' 4).toInt + 1 ∧ (sy_i F' 14).toInt ≤ 130 * (sy_i F0 12).toInt + 101 ∧
  (∀ i : Nat, (i : Int) ≠ 6 * (sy_i F0 12).toInt + k → (sy_ai F' 42).getD i 0 = (sy_ai F0 42).getD i 0 ∧ (sy_ai F' 43).getD i 0 = (sy_ai F0 43).getD i 0) ∧
  ((sy_i F' 6).toInt = 0 → li 0 F0 F' ∧ (sy_i F0 4).toInt + 1 ≤ (sy_i F' 4).toInt ∧ ((sy_ai F' 42).getD (6 * (sy_i F0 12).toInt + k).toNat 0).toInt = (sy_i F0 14).toInt ∧ ((sy_ai F' 43).getD (6 * (sy_i F0 12).toInt + k).toNat 0).toInt = (sy_i F' 14).toInt)
noncomputable def tl_Q (k : Int) (F0 : Nat → sy_d) (X1 X2 : List jm_c) (v : Option Value) (G : jm_h) : Prop := ∃ F' : Nat → sy_d, v = none ∧ G = sy_dh F' X1 X2 (iv_H 4) ∧ tl_R k F0 F'
theorem lc_end {k : Int} {F0 F1 : Nat → sy_d} (h : lc 101 F0 F1) (hf : (sy_i F1 6).toInt ≠ 0) : tl_R k F0 F1 := by
  obtain ⟨h1, h2, h3, h4, h5, h6, h7⟩ := h
  have a42 := h1.a (k := 42) (by decide) (by decide)
  have a43 := h1.a (k := 43) (by decide) (by decide)
  exact ⟨h1.mono (by decide), h2, h3, h4, h5, h6, h7, fun i _ => by rw [a42, a43]; exact ⟨rfl, rfl⟩, fun z => absurd z hf⟩
section TL
variable {Ls : Nat} {xs : Nat → Int32} (X1 X2 : List jm_c) (F0 : Nat → sy_d) (k : Int)
theorem tl_143' (hb0 : 0 ≤ (sy_i F0 14).toInt) (hk : 0 ≤ k ∧ k ≤ 5) (F : Nat → sy_d) (hx : lc 101 F0 F) (hi : (sy_i F 6).toInt = 0 → li (-1) F0 F ∧ (sy_i F0 4).toInt + 1 ≤ (sy_i F 4).toInt) (h69 : (sy_i F 69).toInt = k) (h70 : (sy_i F 70).toInt = (sy_i F0 14).toInt) :
    hd_W Ls xs 6 jm_M160 (tl_Q k F0 X1 X2) (143, sy_dL F [some (.inl (.ref 1000)), some (.inr (.inl 69)), some (.inr (.inl 70)), none], sy_dS F [], sy_dh F X1 X2 (iv_H 4), 0, 0) := by
  obtain ⟨x1, x2, x3, x4, x5, x6, x7⟩ := id hx
  have c14 := nz_bx x1.b (k := 14) (lo := 0) (hi := 260) rfl
  have c12 := nz_bx x1.b (k := 12) (lo := 0) (hi := 1) rfl
  have i12 := x1.i (k := 12) (by decide) (by decide)
  refine tl_143 (by decide) F X1 X2 x1.b (by omega) (fun _ _ _ _ => ?_) ?_ ?_ ?_ ?_
  · omega
  · intros
    rename_i F1 hb g e4 e5 e6 e11 e12 e14 e15 e16 a42 a43 a44 a45 a46 a47 a48 a49 a50
    exact ⟨F1, rfl, rfl, lc_end (lc_step hx hb g (by decide) (by omega) (by omega) (kp_same a49 a50) (fun b _ => s5_same a44 a45 a46 a47 a48 b) (by omega) (by omega) (by omega) (by omega)) (by omega)⟩
  · intros
    rename_i F1 hb g e4 e5 e6 e11 e12 e14 e15 e16 a42 a43 a44 a45 a46 a47 a48 a49 a50
    exact ⟨F1, rfl, rfl, lc_end (lc_step hx hb g (by decide) (by omega) (by omega) (kp_same a49 a50) (fun b _ => s5_same a44 a45 a46 a47 a48 b) (by omega) (by omega) (by omega) (by omega)) (by omega)⟩
  · intros
    rename_i q6 _ _ _ F1 hb g e4 e5 e6 e11 e12 e14 e15 e16 a42 a43 a44 a45 a46 a47 a48 a49 a50
    obtain ⟨y1, y2⟩ := hi q6
    obtain ⟨z1, z2, z3, z4⟩ := id y1
    have s5e : ∀ b : Nat, (b : Int) ≠ (sy_i F 14).toInt → s5 F F1 b := fun b _ => s5_same a44 a45 a46 a47 a48 b
    have ei : (6 * (sy_i F 12).toInt + (sy_i F 69).toInt).toNat = (6 * (sy_i F0 12).toInt + k).toNat := by omega
    have b42 := x1.a (k := 42) (by decide) (by decide)
    have b43 := x1.a (k := 43) (by decide) (by decide)
    refine ⟨F1, rfl, rfl, (x1.mono (by decide)).trans (gr_mk (W := WLL) hb g (by decide) (by omega) (by omega)) (by decide), kp_trans x2 (kp_same a49 a50) x4 (by omega), kb_step x3 s5e x5 (by omega), by omega, by omega, by omega, by omega, fun i q => ?_, fun _ => ⟨li_step y1 (by omega) (by omega) (by omega) e14 s5e (kp_same a49 a50) (by omega), by omega, ?_, ?_⟩⟩
    · rw [a42, a43, jm_upd_at, jm_upd_at, if_neg (by omega), if_neg (by omega), b42, b43]
      exact ⟨rfl, rfl⟩
    · rw [a42, jm_upd_at, if_pos ei.symm]
      exact h70
    · rw [a43, jm_upd_at, if_pos ei.symm]
      exact e14.symm
  · intros
    rename_i F1 hb g e4 e5 e6 e11 e12 e14 e15 e16 a42 a43 a44 a45 a46 a47 a48 a49 a50
    exact ⟨F1, rfl, rfl, lc_end (lc_step hx hb g (by decide) (by omega) (by omega) (kp_same a49 a50) (fun b _ => s5_same a44 a45 a46 a47 a48 b) (by omega) (by omega) (by omega) (by omega)) (by omega)⟩
/-- a term behind a test or alone: the branch is whole -/
theorem tl_term {m j j' : Int} {F F3 : Nat → sy_d} (hF0 : 420 * (sy_i F0 12).toInt ≤ (sy_i F0 15).toInt) (hx : lc m F0 F) (hi : (sy_i F 6).toInt = 0 → li j F0 F ∧ ((sy_ai F 44).getD (sy_i F 14).toInt.toNat 0 = 1 → rs (sy_i F0 12).toInt.toNat (sy_i F 15).toInt (sy_ai F 49) (sy_ai F 50) ((sy_ai F 45).getD (sy_i F 14).toInt.toNat 0).toInt ((sy_ai F 46).getD (sy_i F 14).toInt.toNat 0).toInt ∧ rs (sy_i F0 12).toInt.toNat (sy_i F 15).toInt (sy_ai F 49) (sy_ai F 50) ((sy_ai F 46).getD (sy_i F 14).toInt.toNat 0).toInt (sy_i F 15).toInt))
    (hR : tr_R F F3) (hj : j' + 3 ≤ j) : lc (m + 1) F0 F3 ∧ ((sy_i F3 6).toInt = 0 → li j' F0 F3 ∧ (sy_i F 4).toInt + 1 ≤ (sy_i F3 4).toInt) := by
  obtain ⟨x1, x2, x3, x4, x5, x6, x7⟩ := id hx
  obtain ⟨r1, r2, r3, r4, r5, r6, r7⟩ := hR
  have i12 := x1.i (k := 12) (by decide) (by decide)
  have c12 := nz_bx x1.b (k := 12) (lo := 0) (hi := 1) rfl
  have c14 := nz_bx x1.b (k := 14) (lo := 0) (hi := 260) rfl
  have d4 := nz_bx r1.b (k := 4) (lo := 0) (hi := 400) rfl
  refine ⟨lc_gr hx r1 (by decide) r2 r3 r5 (by omega) (by omega) (by omega), fun z => ?_⟩
  obtain ⟨y1, y2, y3, y4, y5, y6⟩ := r7 z
  obtain ⟨w, v⟩ := hi (r1.u z)
  obtain ⟨w1, w2, w3, w4⟩ := id w
  refine ⟨⟨y2, by omega, by omega, fun b h1 h2 => ?_⟩, y1⟩
  by_cases hb : (b : Int) = (sy_i F 14).toInt
  · have eb : b = (sy_i F 14).toInt.toNat := by omega
    have a44 := r1.a (k := 44) (by decide) (by decide)
    have a45 := r1.a (k := 45) (by decide) (by decide)
    have a46 := r1.a (k := 46) (by decide) (by decide)
    subst eb
    refine ⟨fun q => ?_, ?_⟩
    · rw [a44] at q
      obtain ⟨v1, v2⟩ := v q
      rw [rp_sg_rs, rp_sg_rs, a45, a46, y4]
      exact ⟨rs_step v1 r2 r5, rs_step v2 r2 r5⟩
    · rw [rp_sg_rs, y4, y5]
      exact ⟨by omega, by omega, by omega, y6⟩
  · exact rp_br_keep (w4 b h1 (by omega)) (r3 b hb) (fun i _ hi => r2 i (Or.inl hi)) r5
theorem tl_140' (hb0 : 0 ≤ (sy_i F0 14).toInt) (hF0 : 420 * (sy_i F0 12).toInt ≤ (sy_i F0 15).toInt) (hk : 0 ≤ k ∧ k ≤ 5) (F : Nat → sy_d) (hx : lc 100 F0 F) (hi : (sy_i F 6).toInt = 0 → li 2 F0 F ∧ (sy_ai F 44).getD (sy_i F 14).toInt.toNat 0 = 0) (h69 : (sy_i F 69).toInt = k) (h70 : (sy_i F 70).toInt = (sy_i F0 14).toInt) :
    hd_W Ls xs 6 jm_M160 (tl_Q k F0 X1 X2) (140, sy_dL F [some (.inl (.ref 1000)), some (.inr (.inl 69)), some (.inr (.inl 70)), none], sy_dS F [.inl (.ref 1000)], sy_dh F X1 X2 (iv_H 4), 0, 0) := by
  obtain ⟨x1, x2, x3, x4, x5, x6, x7⟩ := id hx
  have i12 := x1.i (k := 12) (by decide) (by decide)
  have c12 := nz_bx x1.b (k := 12) (lo := 0) (hi := 1) rfl
  refine hd_calV (R := tr_R F) (nh := 69) (nv := 71) (s := 4) (s1 := 4) (d1 := 5) (M1 := jm_M161) (As := [.inl (.ref 1000)]) (rest := []) jm_ok160 rfl rfl (by decide) (by decide +kernel) (tr_T X1 X2 F x1.b (fun z => ?_) (by omega) (by omega)) (fun F3 F' hR p1 p2 => ?_)
  · obtain ⟨⟨y1, y2, -⟩, -⟩ := hi z
    omega
  have hR3 := tr_Rdst hR p1
  have j69 := nz_fi (p2 69 (by decide) (by decide))
  have j70 := nz_fi (p2 70 (by decide) (by decide))
  obtain ⟨u1, u2⟩ := tl_term (m := 100) (j := 2) (j' := -1) F0 hF0 hx (fun z => ⟨(hi z).1, fun q => absurd ((hi z).2.symm.trans q) (by decide)⟩) hR3 (by omega)
  have t1 := x1.t
  exact tl_143' X1 X2 F0 k hb0 hk F3 u1 (fun z => ⟨(u2 z).1, by have := (u2 z).2; omega⟩) (by omega) (by omega)
/-- the loop's head, with n ifs left -/
noncomputable def t12 (Ls : Nat) (xs : Nat → Int32) (n : Nat) : Prop := ∀ F : Nat → sy_d, lc 100 F0 F → ((sy_i F 6).toInt = 0 → li 2 F0 F) → (sy_i F 69).toInt = k → (sy_i F 70).toInt = (sy_i F0 14).toInt → 0 ≤ (sy_i F 71).toInt → (sy_i F 71).toInt ≤ 4 → 4 - (sy_i F 71).toInt < n →
    hd_W Ls xs 6 jm_M160 (tl_Q k F0 X1 X2) (12, sy_dL F [some (.inl (.ref 1000)), some (.inr (.inl 69)), some (.inr (.inl 70)), some (.inr (.inl 71))], sy_dS F [], sy_dh F X1 X2 (iv_H 4), 0, 0)
theorem tl_117' (hb0 : 0 ≤ (sy_i F0 14).toInt) (hF0 : 420 * (sy_i F0 12).toInt ≤ (sy_i F0 15).toInt) {n : Nat} (h12 : t12 X1 X2 F0 k Ls xs n) (F : Nat → sy_d) (hx : lc 99 F0 F) (hi : (sy_i F 6).toInt = 0 → li 7 F0 F ∧ (sy_ai F 44).getD (sy_i F 14).toInt.toNat 0 = 1 ∧ rs (sy_i F0 12).toInt.toNat (sy_i F 15).toInt (sy_ai F 49) (sy_ai F 50) ((sy_ai F 45).getD (sy_i F 14).toInt.toNat 0).toInt ((sy_ai F 46).getD (sy_i F 14).toInt.toNat 0).toInt ∧ rs (sy_i F0 12).toInt.toNat (sy_i F 15).toInt (sy_ai F 49) (sy_ai F 50) ((sy_ai F 46).getD (sy_i F 14).toInt.toNat 0).toInt (sy_i F 15).toInt) (h69 : (sy_i F 69).toInt = k) (h70 : (sy_i F 70).toInt = (sy_i F0 14).toInt) (h71 : 0 ≤ (sy_i F 71).toInt ∧ (sy_i F 71).toInt ≤ 4) (hn : 4 - (sy_i F 71).toInt < n) :
    hd_W Ls xs 6 jm_M160 (tl_Q k F0 X1 X2) (117, sy_dL F [some (.inl (.ref 1000)), some (.inr (.inl 69)), some (.inr (.inl 70)), some (.inr (.inl 71))], sy_dS F [.inl (.ref 1000)], sy_dh F X1 X2 (iv_H 4), 0, 0) := by
  obtain ⟨x1, x2, x3, x4, x5, x6, x7⟩ := id hx
  have i12 := x1.i (k := 12) (by decide) (by decide)
  have c12 := nz_bx x1.b (k := 12) (lo := 0) (hi := 1) rfl
  have c14 := nz_bx x1.b (k := 14) (lo := 0) (hi := 260) rfl
  have c4 := nz_bx x1.b (k := 4) (lo := 0) (hi := 400) rfl
  refine hd_calV (R := tr_R F) (nh := 69) (nv := 72) (s := 4) (s1 := 4) (d1 := 5) (M1 := jm_M161) (As := [.inl (.ref 1000)]) (rest := []) jm_ok160 rfl rfl (by decide) (by decide +kernel) (tr_T X1 X2 F x1.b (fun z => ?_) (by omega) (by omega)) (fun F3 F' hR p1 p2 => ?_)
  · obtain ⟨⟨y1, y2, -⟩, -⟩ := hi z
    omega
  have hR3 := tr_Rdst hR p1
  have j69 := nz_fi (p2 69 (by decide) (by decide))
  have j70 := nz_fi (p2 70 (by decide) (by decide))
  have j71 := nz_fi (p2 71 (by decide) (by decide))
  obtain ⟨u1, u2⟩ := tl_term (m := 99) (j := 7) (j' := 4) F0 hF0 hx (fun z => ⟨(hi z).1, fun _ => (hi z).2.2⟩) hR3 (by omega)
  obtain ⟨v1, v2, v3, v4, v5, v6, v7⟩ := id u1
  refine tl_120 (by decide) F3 X1 X2 v1.b ?_ ?_ ?_ ?_
  all_goals
    intros
    rename_i F1 hb g e4 e5 e6 e11 e12 e14 e15 e16 a42 a43 a44 a45 a46 a47 a48 a49 a50 e69 e70 e71
    refine h12 F1 (lc_step u1 hb g (by decide) (by omega) (by omega) (kp_same a49 a50) (fun b _ => s5_same a44 a45 a46 a47 a48 b) (by omega) (by omega) (by omega) (by omega)) (fun z => ?_) (by omega) (by omega) (by omega) (by omega) (by omega)
    first
      | (exfalso; omega)
      | (obtain ⟨y1, y2⟩ := u2 (by omega)
         obtain ⟨w1, w2, w3, w4⟩ := id y1
         exact li_step y1 (by omega) (by omega) (by omega) (by omega) (fun b _ => s5_same a44 a45 a46 a47 a48 b) (kp_same a49 a50) (by omega))
theorem tl_110' (hb0 : 0 ≤ (sy_i F0 14).toInt) (hF0 : 420 * (sy_i F0 12).toInt ≤ (sy_i F0 15).toInt) {n : Nat} (h12 : t12 X1 X2 F0 k Ls xs n) (F : Nat → sy_d) (hx : lc 99 F0 F) (hi : (sy_i F 6).toInt = 0 → li 6 F0 F ∧ (sy_ai F 44).getD (sy_i F 14).toInt.toNat 0 = 1 ∧ rs (sy_i F0 12).toInt.toNat (sy_i F 15).toInt (sy_ai F 49) (sy_ai F 50) ((sy_ai F 45).getD (sy_i F 14).toInt.toNat 0).toInt ((sy_ai F 46).getD (sy_i F 14).toInt.toNat 0).toInt ∧ rs (sy_i F0 12).toInt.toNat (sy_i F 15).toInt (sy_ai F 49) (sy_ai F 50) ((sy_ai F 46).getD (sy_i F 14).toInt.toNat 0).toInt (sy_i F 15).toInt) (h69 : (sy_i F 69).toInt = k) (h70 : (sy_i F 70).toInt = (sy_i F0 14).toInt) (h71 : 0 ≤ (sy_i F 71).toInt ∧ (sy_i F 71).toInt ≤ 4) (hn : 4 - (sy_i F 71).toInt < n) :
    hd_W Ls xs 6 jm_M160 (tl_Q k F0 X1 X2) (110, sy_dL F [some (.inl (.ref 1000)), some (.inr (.inl 69)), some (.inr (.inl 70)), some (.inr (.inl 71))], sy_dS F [], sy_dh F X1 X2 (iv_H 4), 0, 0) := by
  obtain ⟨x1, x2, x3, x4, x5, x6, x7⟩ := id hx
  have i12 := x1.i (k := 12) (by decide) (by decide)
  have c12 := nz_bx x1.b (k := 12) (lo := 0) (hi := 1) rfl
  have c14 := nz_bx x1.b (k := 14) (lo := 0) (hi := 260) rfl
  have c4 := nz_bx x1.b (k := 4) (lo := 0) (hi := 400) rfl
  refine tl_110 (by decide) F X1 X2 x1.b ?_ ?_ ?_ ?_
  all_goals
    intros
    rename_i F1 hb g e4 e5 e6 e11 e12 e14 e15 e16 a42 a43 a44 a45 a46 a47 a48 a49 a50 e69 e70 e71
    refine tl_117' X1 X2 F0 k hb0 hF0 h12 F1 (lc_step hx hb g (by decide) (by omega) (by omega) (kp_same a49 a50) (fun b _ => s5_same a44 a45 a46 a47 a48 b) (by omega) (by omega) (by omega) (by omega)) (fun z => ?_) (by omega) (by omega) (by omega) (by omega)
    first
      | (exfalso; omega)
      | (obtain ⟨y1, y2, y3, y4⟩ := hi (by omega)
         obtain ⟨w1, w2, w3, w4⟩ := id y1
         refine ⟨li_step y1 (by omega) (by omega) (by omega) (by omega) (fun b _ => s5_same a44 a45 a46 a47 a48 b) (kp_same a49 a50) (by omega), ?_⟩
         rw [a44, a45, a46, a49, a50, e14, e15]
         exact ⟨y2, y3, y4⟩)
theorem tl_107' (hb0 : 0 ≤ (sy_i F0 14).toInt) (hF0 : 420 * (sy_i F0 12).toInt ≤ (sy_i F0 15).toInt) {n : Nat} (h12 : t12 X1 X2 F0 k Ls xs n) (F : Nat → sy_d) (hx : lc 99 F0 F) (hf : (sy_i F 6).toInt = 0) (hi : li 5 F0 F ∧ (sy_ai F 44).getD (sy_i F 14).toInt.toNat 0 = 1 ∧ rs (sy_i F0 12).toInt.toNat (sy_i F 15).toInt (sy_ai F 49) (sy_ai F 50) ((sy_ai F 45).getD (sy_i F 14).toInt.toNat 0).toInt ((sy_ai F 46).getD (sy_i F 14).toInt.toNat 0).toInt ∧ ((sy_ai F 46).getD (sy_i F 14).toInt.toNat 0).toInt = (sy_i F 15).toInt) (h69 : (sy_i F 69).toInt = k) (h70 : (sy_i F 70).toInt = (sy_i F0 14).toInt) (h71 : 0 ≤ (sy_i F 71).toInt ∧ (sy_i F 71).toInt ≤ 4) (hn : 4 - (sy_i F 71).toInt < n) :
    hd_W Ls xs 6 jm_M160 (tl_Q k F0 X1 X2) (107, sy_dL F [some (.inl (.ref 1000)), some (.inr (.inl 69)), some (.inr (.inl 70)), some (.inr (.inl 71))], sy_dS F [.inl (.ref 1000)], sy_dh F X1 X2 (iv_H 4), 0, 0) := by
  obtain ⟨x1, x2, x3, x4, x5, x6, x7⟩ := id hx
  have i12 := x1.i (k := 12) (by decide) (by decide)
  have c12 := nz_bx x1.b (k := 12) (lo := 0) (hi := 1) rfl
  have c14 := nz_bx x1.b (k := 14) (lo := 0) (hi := 260) rfl
  have c4 := nz_bx x1.b (k := 4) (lo := 0) (hi := 400) rfl
  obtain ⟨z1, z2, z3, z4⟩ := hi
  obtain ⟨w1, w2, w3, w4⟩ := id z1
  refine hd_calV (R := xr F) (nh := 69) (nv := 72) (s := 4) (s1 := 4) (d1 := 4) (M1 := jm_M164) (As := [.inl (.ref 1000)]) (rest := []) jm_ok160 rfl rfl (by decide) (by decide +kernel) (ex_T X1 X2 F x1.b (by omega) (by omega)) (fun F3 F' hR p1 p2 => ?_)
  obtain ⟨r1, r2, r3, r4, r5⟩ := xr_dst hR p1
  have j69 := nz_fi (p2 69 (by decide) (by decide))
  have j70 := nz_fi (p2 70 (by decide) (by decide))
  have j71 := nz_fi (p2 71 (by decide) (by decide))
  have b44 := r1.a (k := 44) (by decide) (by decide)
  have b45 := r1.a (k := 45) (by decide) (by decide)
  have b46 := r1.a (k := 46) (by decide) (by decide)
  have b47 := r1.a (k := 47) (by decide) (by decide)
  have b48 := r1.a (k := 48) (by decide) (by decide)
  have j14 := r1.i (k := 14) (by decide) (by decide)
  have d4 := nz_bx r1.b (k := 4) (lo := 0) (hi := 400) rfl
  refine tl_110' X1 X2 F0 k hb0 hF0 h12 F3 (lc_gr hx r1 (by decide) r2 (fun b _ => s5_same b44 b45 b46 b47 b48 b) r3 (by omega) (by omega) (by omega)) (fun z => ?_) (by omega) (by omega) (by omega) (by omega)
  obtain ⟨y1, y2, y3, y4⟩ := r5 z
  refine ⟨li_step z1 y2 (by omega) (by omega) j14 (fun b _ => s5_same b44 b45 b46 b47 b48 b) r2 r3, ?_⟩
  rw [b44, b45, b46, j14]
  refine ⟨z2, rs_step z3 r2 r3, ?_⟩
  rw [z4]
  exact ⟨by omega, by omega, by omega, y4⟩
theorem tl_77' (hb0 : 0 ≤ (sy_i F0 14).toInt) (hF0 : 420 * (sy_i F0 12).toInt ≤ (sy_i F0 15).toInt) {n : Nat} (h12 : t12 X1 X2 F0 k Ls xs n) (F : Nat → sy_d) (hx : lc 99 F0 F) (hi : (sy_i F 6).toInt = 0 → li 3 F0 F ∧ (sy_ai F 44).getD (sy_i F 14).toInt.toNat 0 = 1 ∧ ((sy_ai F 45).getD (sy_i F 14).toInt.toNat 0).toInt = (sy_i F 15).toInt) (h69 : (sy_i F 69).toInt = k) (h70 : (sy_i F 70).toInt = (sy_i F0 14).toInt) (h71 : 0 ≤ (sy_i F 71).toInt ∧ (sy_i F 71).toInt ≤ 4) (hn : 4 - (sy_i F 71).toInt < n) :
    hd_W Ls xs 6 jm_M160 (tl_Q k F0 X1 X2) (77, sy_dL F [some (.inl (.ref 1000)), some (.inr (.inl 69)), some (.inr (.inl 70)), some (.inr (.inl 71))], sy_dS F [.inl (.ref 1000)], sy_dh F X1 X2 (iv_H 4), 0, 0) := by
  obtain ⟨x1, x2, x3, x4, x5, x6, x7⟩ := id hx
  have i12 := x1.i (k := 12) (by decide) (by decide)
  have c12 := nz_bx x1.b (k := 12) (lo := 0) (hi := 1) rfl
  have c14 := nz_bx x1.b (k := 14) (lo := 0) (hi := 260) rfl
  have c4 := nz_bx x1.b (k := 4) (lo := 0) (hi := 400) rfl
  refine hd_calV (R := xr F) (nh := 69) (nv := 72) (s := 4) (s1 := 4) (d1 := 4) (M1 := jm_M164) (As := [.inl (.ref 1000)]) (rest := []) jm_ok160 rfl rfl (by decide) (by decide +kernel) (ex_T X1 X2 F x1.b (fun z => by have y := (hi z).1.1; have y2 := (hi z).1.2.1; omega) (by omega)) (fun F3 F' hR p1 p2 => ?_)
  obtain ⟨r1, r2, r3, r4, r5⟩ := xr_dst hR p1
  have j69 := nz_fi (p2 69 (by decide) (by decide))
  have j70 := nz_fi (p2 70 (by decide) (by decide))
  have j71 := nz_fi (p2 71 (by decide) (by decide))
  have b44 := r1.a (k := 44) (by decide) (by decide)
  have b45 := r1.a (k := 45) (by decide) (by decide)
  have b46 := r1.a (k := 46) (by decide) (by decide)
  have b47 := r1.a (k := 47) (by decide) (by decide)
  have b48 := r1.a (k := 48) (by decide) (by decide)
  have j14 := r1.i (k := 14) (by decide) (by decide)
  have d4 := nz_bx r1.b (k := 4) (lo := 0) (hi := 400) rfl
  have hx3 : lc 99 F0 F3 := lc_gr hx r1 (by decide) r2 (fun b _ => s5_same b44 b45 b46 b47 b48 b) r3 (by omega) (by omega) (by omega)
  have hi3 : (sy_i F3 6).toInt = 0 → li 4 F0 F3 ∧ (sy_ai F3 44).getD (sy_i F3 14).toInt.toNat 0 = 1 ∧ rs (sy_i F0 12).toInt.toNat (sy_i F3 15).toInt (sy_ai F3 49) (sy_ai F3 50) ((sy_ai F3 45).getD (sy_i F3 14).toInt.toNat 0).toInt (sy_i F3 15).toInt := by
    intro z
    obtain ⟨z1, z2, z3⟩ := hi (r1.u z)
    obtain ⟨w1, w2, w3, w4⟩ := id z1
    obtain ⟨y1, y2, y3, y4⟩ := r5 z
    refine ⟨li_step z1 y2 (by omega) (by omega) j14 (fun b _ => s5_same b44 b45 b46 b47 b48 b) r2 r3, ?_⟩
    rw [b44, b45, j14, z3]
    exact ⟨z2, by omega, by omega, by omega, y4⟩
  clear hi
  obtain ⟨v1, v2, v3, v4, v5, v6, v7⟩ := id hx3
  have s5u : ∀ F1 : Nat → sy_d, sy_ai F1 44 = sy_ai F3 44 → sy_ai F1 45 = sy_ai F3 45 → sy_ai F1 46 = jm_upd (sy_ai F3 46) (sy_i F3 14).toInt.toNat (sy_i F3 15) → sy_ai F1 47 = sy_ai F3 47 → sy_ai F1 48 = sy_ai F3 48 → ∀ b : Nat, (b : Int) ≠ (sy_i F3 14).toInt → s5 F3 F1 b := by
    intro F1 a44 a45 a46 a47 a48 b q
    refine ⟨by rw [a44], by rw [a45], ?_, by rw [a47], by rw [a48]⟩
    rw [a46, jm_upd_at, if_neg (by omega)]
  refine tl_80 (by decide) F3 X1 X2 r1.b (by omega) (by omega) (by omega) (by omega) ?_ ?_ ?_ ?_
  iterate 2
    intros
    rename_i F1 hb g e4 e5 e6 e11 e12 e14 e15 e16 a42 a43 a44 a45 a46 a47 a48 a49 a50 e69 e70 e71
    exact tl_110' X1 X2 F0 k hb0 hF0 h12 F1 (lc_step hx3 hb g (by decide) (by omega) (by omega) (kp_same a49 a50) (s5u F1 a44 a45 a46 a47 a48) (by omega) (by omega) (by omega) (by omega)) (fun z => absurd z (by omega)) (by omega) (by omega) (by omega) (by omega)
  · intros
    rename_i F1 hb g e4 e5 e6 e11 e12 e14 e15 e16 a42 a43 a44 a45 a46 a47 a48 a49 a50 e69 e70 e71
    obtain ⟨z1, z2, z3⟩ := hi3 (by omega)
    obtain ⟨w1, w2, w3, w4⟩ := id z1
    refine tl_107' X1 X2 F0 k hb0 hF0 h12 F1 (lc_step hx3 hb g (by decide) (by omega) (by omega) (kp_same a49 a50) (s5u F1 a44 a45 a46 a47 a48) (by omega) (by omega) (by omega) (by omega)) (by omega) ⟨li_step z1 (by omega) (by omega) (by omega) (by omega) (s5u F1 a44 a45 a46 a47 a48) (kp_same a49 a50) (by omega), ?_⟩ (by omega) (by omega) (by omega) (by omega)
    have e46 : (sy_ai F1 46).getD (sy_i F3 14).toInt.toNat 0 = sy_i F3 15 := by rw [a46, jm_upd_at, if_pos rfl]
    rw [a44, a45, a49, a50, e14, e15, e46]
    exact ⟨z2, z3, rfl⟩
  · intros
    rename_i F1 hb g e4 e5 e6 e11 e12 e14 e15 e16 a42 a43 a44 a45 a46 a47 a48 a49 a50 e69 e70 e71
    exact tl_110' X1 X2 F0 k hb0 hF0 h12 F1 (lc_step hx3 hb g (by decide) (by omega) (by omega) (kp_same a49 a50) (s5u F1 a44 a45 a46 a47 a48) (by omega) (by omega) (by omega) (by omega)) (fun z => absurd z (by omega)) (by omega) (by omega) (by omega) (by omega)
theorem t12_of (hb0 : 0 ≤ (sy_i F0 14).toInt) (hF0 : 420 * (sy_i F0 12).toInt ≤ (sy_i F0 15).toInt) (hk : 0 ≤ k ∧ k ≤ 5) {n : Nat} (h12 : t12 X1 X2 F0 k Ls xs n) : t12 X1 X2 F0 k Ls xs (n + 1) := by
  intro F hx hi h69 h70 h71 h72 hn
  obtain ⟨x1, x2, x3, x4, x5, x6, x7⟩ := id hx
  have i12 := x1.i (k := 12) (by decide) (by decide)
  have c12 := nz_bx x1.b (k := 12) (lo := 0) (hi := 1) rfl
  have c14 := nz_bx x1.b (k := 14) (lo := 0) (hi := 260) rfl
  have c4 := nz_bx x1.b (k := 4) (lo := 0) (hi := 400) rfl
  have s44 : ∀ (F1 : Nat → sy_d) (V : Int32), sy_ai F1 44 = jm_upd (sy_ai F 44) (sy_i F 14).toInt.toNat V → sy_ai F1 45 = sy_ai F 45 → sy_ai F1 46 = sy_ai F 46 → sy_ai F1 47 = sy_ai F 47 → sy_ai F1 48 = sy_ai F 48 → ∀ b : Nat, (b : Int) ≠ (sy_i F 14).toInt → s5 F F1 b := by
    intro F1 V a44 a45 a46 a47 a48 b q
    refine ⟨?_, by rw [a45], by rw [a46], by rw [a47], by rw [a48]⟩
    rw [a44, jm_upd_at, if_neg (by omega)]
  have s45 : ∀ (F1 : Nat → sy_d) (V V2 : Int32), sy_ai F1 44 = jm_upd (sy_ai F 44) (sy_i F 14).toInt.toNat V → sy_ai F1 45 = jm_upd (sy_ai F 45) (sy_i F 14).toInt.toNat V2 → sy_ai F1 46 = sy_ai F 46 → sy_ai F1 47 = sy_ai F 47 → sy_ai F1 48 = sy_ai F 48 → ∀ b : Nat, (b : Int) ≠ (sy_i F 14).toInt → s5 F F1 b := by
    intro F1 V V2 a44 a45 a46 a47 a48 b q
    refine ⟨?_, ?_, by rw [a46], by rw [a47], by rw [a48]⟩
    · rw [a44, jm_upd_at, if_neg (by omega)]
    · rw [a45, jm_upd_at, if_neg (by omega)]
  have hi4 : (sy_i F 6).toInt = 0 → 4 * ((sy_i F 14).toInt - 130 * (sy_i F0 12).toInt) + 2 ≤ (sy_i F 4).toInt := fun z => (hi z).2.2.1
  refine tl_12 (by decide) F X1 X2 x1.b (by omega) (by omega) (by omega) (by omega) (by omega) ?_ ?_ ?_ ?_ ?_
  iterate 2
    intros
    rename_i F1 hb g e4 e5 e6 e11 e12 e14 e15 e16 a42 a43 a44 a45 a46 a47 a48 a49 a50 e69 e70
    refine tl_140' X1 X2 F0 k hb0 hF0 hk F1 (lc_step hx hb g (by decide) (by omega) (by omega) (kp_same a49 a50) (s44 F1 0 a44 a45 a46 a47 a48) (by omega) (by omega) (by omega) (by omega)) (fun z => ?_) (by omega) (by omega)
    have y1 := hi (by omega)
    obtain ⟨w1, w2, w3, w4⟩ := id y1
    refine ⟨li_step y1 (by omega) (by omega) (by omega) (by omega) (s44 F1 0 a44 a45 a46 a47 a48) (kp_same a49 a50) (by omega), ?_⟩
    rw [a44, e14, jm_upd_at, if_pos rfl]
  iterate 2
    intros
    rename_i F1 hb g e4 e5 e6 e11 e12 e14 e15 e16 a42 a43 a44 a45 a46 a47 a48 a49 a50 e69 e70 e71
    refine tl_77' X1 X2 F0 k hb0 hF0 h12 F1 (lc_step hx hb g (by decide) (by omega) (by omega) (kp_same a49 a50) (s45 F1 1 _ a44 a45 a46 a47 a48) (by omega) (by omega) (by omega) (by omega)) (fun z => ?_) (by omega) (by omega) (by omega) (by omega)
    have y1 := hi (by omega)
    obtain ⟨w1, w2, w3, w4⟩ := id y1
    refine ⟨li_step y1 (by omega) (by omega) (by omega) (by omega) (s45 F1 1 _ a44 a45 a46 a47 a48) (kp_same a49 a50) (by omega), ?_, ?_⟩
    · rw [a44, e14, jm_upd_at, if_pos rfl]
    · rw [a45, e14, e15, jm_upd_at, if_pos rfl]
  · intros
    rename_i F1 hb g e4 e5 e6 e11 e12 e14 e15 e16 a42 a43 a44 a45 a46 a47 a48 a49 a50
    exact ⟨F1, rfl, rfl, lc_end (lc_step hx hb g (by decide) (by omega) (by omega) (kp_same a49 a50) (fun b _ => s5_same a44 a45 a46 a47 a48 b) (by omega) (by omega) (by omega) (by omega)) (by omega)⟩
theorem t12_all (hb0 : 0 ≤ (sy_i F0 14).toInt) (hF0 : 420 * (sy_i F0 12).toInt ≤ (sy_i F0 15).toInt) (hk : 0 ≤ k ∧ k ≤ 5) : ∀ n : Nat, t12 X1 X2 F0 k Ls xs n
  | 0 => by
    intro F hx hi h69 h70 h71 h72 hn
    omega
  | n + 1 => t12_of X1 X2 F0 k hb0 hF0 hk (t12_all hb0 hF0 hk n)
end TL
theorem lc_src {m : Int} {F F' G : Nat → sy_d} (h : tl_R m G F') (e : ∀ q, q < 69 → G q = F q) : tl_R m F F' := by
  obtain ⟨h1, h2, h3, h4, h5, h6, h7, h8, h9⟩ := h
  have i4 := nz_fi (e 4 (by decide))
  have i12 := nz_fi (e 12 (by decide))
  have i14 := nz_fi (e 14 (by decide))
  have i15 := nz_fi (e 15 (by decide))
  have a42 := nz_fa (e 42 (by decide))
  have a43 := nz_fa (e 43 (by decide))
  have a44 := nz_fa (e 44 (by decide))
  have a45 := nz_fa (e 45 (by decide))
  have a46 := nz_fa (e 46 (by decide))
  have a47 := nz_fa (e 47 (by decide))
  have a48 := nz_fa (e 48 (by decide))
  have a49 := nz_fa (e 49 (by decide))
  have a50 := nz_fa (e 50 (by decide))
  refine ⟨h1.src e, ?_, ?_, by rw [← i15]; exact h4, by rw [← i14]; exact h5, by rw [← i12]; exact h6, by rw [← i12]; exact h7, by rw [← i12, ← a42, ← a43]; exact h8, ?_⟩
  · unfold kp
    rw [← i15, ← a49, ← a50]
    exact h2
  · unfold kb s5
    rw [← i14, ← a44, ← a45, ← a46, ← a47, ← a48]
    exact h3
  · unfold li
    rw [← i4, ← i12, ← i14]
    exact h9
theorem tl_T {Ls : Nat} {xs : Nat → Int32} (X1 X2 : List jm_c) (F : Nat → sy_d) (a : Int32) (hB : iv_in F iv_B4) (hk : 0 ≤ a.toInt ∧ a.toInt ≤ 5) (hF : 420 * (sy_i F 12).toInt ≤ (sy_i F 15).toInt) (h1 : (sy_i F 6).toInt = 0 → (sy_i F 5).toInt = 0 ∧ (sy_i F 15).toInt ≤ 420 * (sy_i F 12).toInt + (sy_i F 4).toInt ∧ 4 * ((sy_i F 14).toInt - 130 * (sy_i F 12).toInt) + 1 ≤ (sy_i F 4).toInt) (h2 : (sy_i F 15).toInt ≤ 420 * (sy_i F 12).toInt + (sy_i F 4).toInt + 1) (h3 : (sy_i F 14).toInt ≤ 130 * (sy_i F 12).toInt + 100) :
    jm_T Ls xs 6 jm_M160 [.ref 1000, .int a] (sy_dh F X1 X2 (iv_H 4)) 0 0 (tl_Q a.toInt F X1 X2) := by
  refine nz_T1 jm_ok160 (by decide) (fun F0 k0 i69 => ?_)
  have i4 := nz_fi (k0 4 (by decide))
  have i5 := nz_fi (k0 5 (by decide))
  have i6 := nz_fi (k0 6 (by decide))
  have i12 := nz_fi (k0 12 (by decide))
  have i14 := nz_fi (k0 14 (by decide))
  have i15 := nz_fi (k0 15 (by decide))
  have c14 := nz_bx hB (k := 14) (lo := 0) (hi := 260) rfl
  have j69 : (sy_i F0 69).toInt = a.toInt := by rw [i69]
  refine hd_W_mono (Q := tl_Q a.toInt F0 X1 X2) ?_ (by
    rintro v G ⟨F', rfl, rfl, hR⟩
    exact ⟨F', rfl, rfl, lc_src hR k0⟩)
  refine tl_0 (by decide) F0 X1 X2 (hd_iveq hB k0) ?_ ?_ ?_ ?_
  all_goals
    intros
    rename_i F1 hb g e4 e5 e6 e11 e12 e14 e15 e16 a42 a43 a44 a45 a46 a47 a48 a49 a50 e69 e70 e71
    refine t12_all X1 X2 F0 a.toInt (by omega) (by omega) hk 5 F1 ⟨gr_mk hb g (by decide) (by omega) (by omega), kp_same a49 a50, fun b _ => s5_same a44 a45 a46 a47 a48 b, by omega, by omega, by omega, by omega⟩ (fun z => ?_) (by omega) (by omega) (by omega) (by omega) (by omega)
    exact ⟨by omega, by omega, by omega, fun b q1 q2 => absurd q2 (by omega)⟩
