/-! ===== the class: what each call makes of what is seen (shape 3) ===== -/
section OX3
variable {Ls : Nat} {xs : Nat → Int32} (X1 X2 : List jm_c)
noncomputable def oQ3 (X1 X2 : List jm_c) (V : Int32 → Prop) (x : sg) (v : Option Value) (G : jm_h) : Prop := ∃ (r : Int32) (t : Nat) (F' : Nat → sy_d), v = some (.int r) ∧ V r ∧ t < 4 ∧ G = sy_dh F' X1 X2 (iv_H t) ∧ iv_in F' iv_B0 ∧ jx_ok F' ∧ sy_al F' 42 = wls ∧ ox F' = x
theorem oq3_fin {F1 : Nat → sy_d} {V : Int32 → Prop} {x : sg} {r : Int32} (hb : iv_in F1 iv_B0) (hJ : jx_ok F1) (hw : sy_al F1 42 = wls) (hV : V r) (ho : ox F1 = x) : oQ3 X1 X2 V x (some (.int r)) (sy_dh F1 X1 X2 (iv_H 3)) := ⟨r, 3, F1, rfl, hV, by decide, rfl, hb, hJ, hw, ho⟩
theorem jx3_g {F F1 : Nat → sy_d} {W : List Nat} (hJ : jx_ok F) (g : ∀ j, j < 82 → j ∉ W → F1 j = F j) (h1 : 39 ∉ W) (h2 : 41 ∉ W) : jx_ok F1 := jx_ok_eq (g 39 (by decide) h1) (g 41 (by decide) h2) hJ
theorem ox3_g {F F1 : Nat → sy_d} {W : List Nat} (g : ∀ j, j < 82 → j ∉ W → F1 j = F j) (h0 : 0 ∉ W) (h1 : 1 ∉ W) (h2 : 2 ∉ W) (h78 : 78 ∉ W) (h79 : 79 ∉ W) : ox F1 = ox F := ox_eq (g 0 (by decide) h0) (g 1 (by decide) h1) (g 2 (by decide) h2) (g 78 (by decide) h78) (g 79 (by decide) h79)
theorem ox3_mk {F : Nat → sy_d} {a c d : Int} {b e : Nat → Int} (h1 : (sy_i F 0).toInt = a) (h2 : ub (sy_ai F 2) a.toNat = b) (h3 : (sy_i F 1).toInt = c) (h4 : (sy_i F 79).toInt = d) (h5 : hl3 (sy_ai F 78) = e) : ox F = (a, b, c, d, e) := by
  subst h1; subst h2; subst h3; subst h4; subst h5
  rfl
theorem ox3_place (F : Nat → sy_d) (hB : iv_in F iv_B0) (hJ : jx_ok F) (hw : sy_al F 42 = wls) : jm_T Ls xs 1 jm_M84 [.ref 8] (sy_dh F X1 X2 (iv_H 3)) 0 0 (oQ3 X1 X2 (fun r => r.toInt = (ox F).2.2.1) (ox F)) := by
  refine hd_T (As := [.inl (.ref 8)]) jm_ok84 (by decide) (k3opl_0 (by decide) F X1 X2 hB ?_)
  intro F1 hb g e0 e1 e79 a2 a78
  exact oq3_fin X1 X2 hb (jx3_g hJ g (by decide) (by decide)) ((nz_fl (g 42 (by decide) (by decide))).trans hw) rfl (ox3_g g (by decide) (by decide) (by decide) (by decide) (by decide))
theorem ox3_forget (F : Nat → sy_d) (hB : iv_in F iv_B0) (hJ : jx_ok F) (hw : sy_al F 42 = wls) : jm_T Ls xs 1 jm_M109 [.ref 8] (sy_dh F X1 X2 (iv_H 3)) 0 0 (oQ3 X1 X2 (fun r => r.toInt = (ox F).2.2.2.1) (s_forget (ox F))) := by
  refine hd_T (As := [.inl (.ref 8)]) jm_ok109 (by decide) (k3ofo_0 (by decide) F X1 X2 hB ?_)
  intro F1 hb g e0 e1 e79 a2 a78
  exact oq3_fin X1 X2 hb (jx3_g hJ g (by decide) (by decide)) ((nz_fl (g 42 (by decide) (by decide))).trans hw) rfl (ox3_mk e0 (by rw [a2]; try rfl) e1 e79 (by rw [a78]; try rfl))
theorem ox3_back (F : Nat → sy_d) (hB : iv_in F iv_B0) (hJ : jx_ok F) (hw : sy_al F 42 = wls) (a : Int32) : jm_T Ls xs 1 jm_M82 [.ref 8, .int a] (sy_dh F X1 X2 (iv_H 3)) 0 0 (oQ3 X1 X2 (fun r => r.toInt = a_back a (ox F)) (s_back a (ox F))) := by
  obtain ⟨F0, hF0⟩ : ∃ F0, F0 = ny F (fun _ => .inl (.int a)) := ⟨_, rfl⟩
  have k0 : ∀ j, j < 82 → F0 j = F j := fun j hj => by rw [hF0]; exact ny_lt j hj
  have hJ0 : jx_ok F0 := jx_ok_eq (k0 39 (by decide)) (k0 41 (by decide)) hJ
  have e82 : (sy_i F0 82).toInt = a.toInt := by rw [hF0]; rfl
  have c1 := nz_bx (hd_iveq0 hB k0) (k := 0) (lo := 0) (hi := 2000) rfl
  have hw0 : sy_al F0 42 = wls := (nz_fl (k0 42 (by decide))).trans hw
  have ho : ox F = ox F0 := (ox_eq (k0 0 (by decide)) (k0 1 (by decide)) (k0 2 (by decide)) (k0 78 (by decide)) (k0 79 (by decide))).symm
  rw [ho]
  refine nyy_T (by decide) F (fun _ => .inl (.int a)) X1 X2 (A := [.inl (.ref 8), .inr (.inl 82)]) jm_ok82 (by decide) rfl ?_
  rw [← hF0]
  have same : ∀ F1 : Nat → sy_d, a.toInt < 0 ∨ (sy_i F0 0).toInt < a.toInt → iv_in F1 iv_B0 → (∀ j, j < 82 → j ∉ ([] : List Nat) → F1 j = F0 j) → oQ3 X1 X2 (fun r => r.toInt = a_back a (ox F0)) (s_back a (ox F0)) (some (.int (-1))) (sy_dh F1 X1 X2 (iv_H 3)) := fun F1 q hb g => by
    refine oq3_fin X1 X2 hb (jx3_g hJ0 g (by decide) (by decide)) ((nz_fl (g 42 (by decide) (by decide))).trans hw0) ?_ ?_
    · try dsimp only
      unfold a_back
      rw [if_pos (show a.toInt < 0 ∨ (ox F0).1 < a.toInt from q)]
      decide
    · unfold s_back
      rw [if_pos (show a.toInt < 0 ∨ (ox F0).1 < a.toInt from q)]
      exact ox3_g g (by decide) (by decide) (by decide) (by decide) (by decide)
  refine k3obk_0 (by decide) F0 X1 X2 (hd_iveq0 hB k0) ?_ ?_ ?_ ?_
  · intros; omega
  · intro q1 F1 hb g e0 e1 e79 a2 a78
    exact same F1 (Or.inl (by omega)) hb g
  · intro q1 q2 F1 hb g e0 e1 e79 a2 a78
    have hn : ¬ (a.toInt < 0 ∨ (ox F0).1 < a.toInt) := show ¬ (a.toInt < 0 ∨ (sy_i F0 0).toInt < a.toInt) by omega
    refine oq3_fin X1 X2 hb (jx3_g hJ0 g (by decide) (by decide)) ((nz_fl (g 42 (by decide) (by decide))).trans hw0) ?_ ?_
    · try dsimp only
      unfold a_back
      rw [if_neg hn, nz_sub rfl rfl (by omega) (by omega), e82]
      rfl
    · unfold s_back
      rw [if_neg hn]
      refine ox3_mk (by rw [e0, e82]; try rfl) ?_ e1 e79 (by rw [a78]; try rfl)
      rw [a2, ub_cut (n := (sy_i F0 0).toInt.toNat) (show ((ox F0).1 - a.toInt).toNat ≤ _ from (show ((sy_i F0 0).toInt - a.toInt).toNat ≤ (sy_i F0 0).toInt.toNat by omega))]
      rfl
  · intro q1 q2 F1 hb g e0 e1 e79 a2 a78
    exact same F1 (Or.inr (by omega)) hb g
theorem ox3_tell (F : Nat → sy_d) (hB : iv_in F iv_B0) (hJ : jx_ok F) (hw : sy_al F 42 = wls) (a b : Int32) : jm_T Ls xs 2 jm_M108 [.ref 8, .int a, .int b] (sy_dh F X1 X2 (iv_H 3)) 0 0 (oQ3 X1 X2 (fun r => r.toInt = a_tell a b (ox F)) (s_tell a b (ox F))) := by
  obtain ⟨F0, hF0⟩ : ∃ F0, F0 = ny F (fun j => .inl (.int (if j = 0 then a else b))) := ⟨_, rfl⟩
  have k0 : ∀ j, j < 82 → F0 j = F j := fun j hj => by rw [hF0]; exact ny_lt j hj
  have hJ0 : jx_ok F0 := jx_ok_eq (k0 39 (by decide)) (k0 41 (by decide)) hJ
  have e82 : (sy_i F0 82).toInt = a.toInt := by rw [hF0]; rfl
  have e83 : (sy_i F0 83).toInt = b.toInt := by rw [hF0]; rfl
  have c79 := nz_bx (hd_iveq0 hB k0) (k := 79) (lo := 0) (hi := 7) rfl
  have hw0 : sy_al F0 42 = wls := (nz_fl (k0 42 (by decide))).trans hw
  have ho : ox F = ox F0 := (ox_eq (k0 0 (by decide)) (k0 1 (by decide)) (k0 2 (by decide)) (k0 78 (by decide)) (k0 79 (by decide))).symm
  rw [ho]
  refine nyy_T (by decide) F (fun j => .inl (.int (if j = 0 then a else b))) X1 X2 (A := [.inl (.ref 8), .inr (.inl 82), .inr (.inl 83)]) jm_ok108 (by decide) rfl ?_
  rw [← hF0]
  have same : ∀ F1 : Nat → sy_d, ¬ ((1 ≤ a.toInt ∧ a.toInt ≤ 9) ∧ (0 ≤ b.toInt ∧ b.toInt ≤ 9) ∧ (sy_i F0 79).toInt < 7) → iv_in F1 iv_B0 → (∀ j, j < 82 → j ∉ ([] : List Nat) → F1 j = F0 j) → oQ3 X1 X2 (fun r => r.toInt = a_tell a b (ox F0)) (s_tell a b (ox F0)) (some (.int (-1))) (sy_dh F1 X1 X2 (iv_H 3)) := fun F1 q hb g => by
    have q : ¬ ((1 ≤ a.toInt ∧ a.toInt ≤ 9) ∧ (0 ≤ b.toInt ∧ b.toInt ≤ 9) ∧ (ox F0).2.2.2.1 < 7) := q
    refine oq3_fin X1 X2 hb (jx3_g hJ0 g (by decide) (by decide)) ((nz_fl (g 42 (by decide) (by decide))).trans hw0) ?_ ?_
    · try dsimp only
      unfold a_tell
      rw [if_neg q]
      decide
    · unfold s_tell
      rw [if_neg q]
      exact ox3_g g (by decide) (by decide) (by decide) (by decide) (by decide)
  refine k3otl_0 (by decide) F0 X1 X2 (hd_iveq0 hB k0) ?_ ?_ ?_ ?_ ?_ ?_
  · intro q1 F1 hb g e0 e1 e79 a2 a78
    exact same F1 (by omega) hb g
  · intro q1 q2 F1 hb g e0 e1 e79 a2 a78
    exact same F1 (by omega) hb g
  · intro q1 q2 q3 F1 hb g e0 e1 e79 a2 a78
    exact same F1 (by omega) hb g
  · intro q1 q2 q3 q4 F1 hb g e0 e1 e79 a2 a78
    exact same F1 (by omega) hb g
  · intro q1 q2 q3 q4 q5 F1 hb g e0 e1 e79 a2 a78
    have q : (1 ≤ a.toInt ∧ a.toInt ≤ 9) ∧ (0 ≤ b.toInt ∧ b.toInt ≤ 9) ∧ (sy_i F0 79).toInt < 7 := by omega
    have q' : (1 ≤ a.toInt ∧ a.toInt ≤ 9) ∧ (0 ≤ b.toInt ∧ b.toInt ≤ 9) ∧ (ox F0).2.2.2.1 < 7 := q
    have o1 : (1 : Int32).toInt = 1 := by decide
    refine oq3_fin X1 X2 hb (jx3_g hJ0 g (by decide) (by decide)) ((nz_fl (g 42 (by decide) (by decide))).trans hw0) ?_ ?_
    · try dsimp only
      unfold a_tell
      rw [if_pos q', nz_sub (nz_add rfl o1 (by omega) (by omega)) o1 (by omega) (by omega)]
      show _ = (sy_i F0 79).toInt
      omega
    · unfold s_tell
      rw [if_pos q']
      exact ox3_mk e0 (by rw [a2]; try rfl) e1 e79 (by rw [a78]; try rfl)
  · intro q1 q2 q3 q4 q5 F1 hb g e0 e1 e79 a2 a78
    exact same F1 (by omega) hb g
theorem ox3_hold (F : Nat → sy_d) (hB : iv_in F iv_B0) (hJ : jx_ok F) (hw : sy_al F 42 = wls) (a : Int32) : jm_T Ls xs 3 jm_M113 [.ref 8, .int a] (sy_dh F X1 X2 (iv_H 3)) 0 0 (oQ3 X1 X2 (fun r => r.toInt = a_hold a (ox F)) (s_hold a (ox F))) := by
  obtain ⟨F0, hF0⟩ : ∃ F0, F0 = ny F (fun _ => .inl (.int a)) := ⟨_, rfl⟩
  have k0 : ∀ j, j < 82 → F0 j = F j := fun j hj => by rw [hF0]; exact ny_lt j hj
  have hJ0 : jx_ok F0 := jx_ok_eq (k0 39 (by decide)) (k0 41 (by decide)) hJ
  have e82 : (sy_i F0 82).toInt = a.toInt := by rw [hF0]; rfl
  have hw0 : sy_al F0 42 = wls := (nz_fl (k0 42 (by decide))).trans hw
  have ho : ox F = ox F0 := (ox_eq (k0 0 (by decide)) (k0 1 (by decide)) (k0 2 (by decide)) (k0 78 (by decide)) (k0 79 (by decide))).symm
  rw [ho]
  refine nyy_T (by decide) F (fun _ => .inl (.int a)) X1 X2 (A := [.inl (.ref 8), .inr (.inl 82)]) jm_ok113 (by decide) rfl ?_
  rw [← hF0]
  have same : ∀ F1 : Nat → sy_d, ¬ (0 ≤ a.toInt ∧ a.toInt ≤ 2) → iv_in F1 iv_B0 → (∀ j, j < 82 → j ∉ ([] : List Nat) → F1 j = F0 j) → oQ3 X1 X2 (fun r => r.toInt = a_hold a (ox F0)) (s_hold a (ox F0)) (some (.int 0)) (sy_dh F1 X1 X2 (iv_H 3)) := fun F1 q hb g => by
    refine oq3_fin X1 X2 hb (jx3_g hJ0 g (by decide) (by decide)) ((nz_fl (g 42 (by decide) (by decide))).trans hw0) ?_ ?_
    · try dsimp only
      unfold a_hold
      rw [if_neg q]
      decide
    · unfold s_hold
      rw [if_neg q]
      exact ox3_g g (by decide) (by decide) (by decide) (by decide) (by decide)
  refine k3oho_0 (by decide) F0 X1 X2 (hd_iveq0 hB k0) ?_ ?_ ?_
  · intro q1 F1 hb g e0 e1 e79 a2 a78
    exact same F1 (by omega) hb g
  · intro q1 q2 F1 hb g e0 e1 e79 a2 a78
    exact same F1 (by omega) hb g
  · intro q1 q2 F1 hb g e0 e1 e79 a2 a78 f82 f83
    have hJ1 := jx3_g hJ0 g (by decide) (by decide)
    refine hd_calV (R := fun F' => iv_in F' iv_B0 ∧ (∀ j, j < 82 → [77].contains j = false → F' j = F1 j) ∧ jx_ok F') (nh := 82) (nv := 84) (s := 3) (s1 := 3) (d1 := 1) (M1 := jm_M9) (As := [.inl (.ref 46), .inl (.ref 68), .inr (.inl 83)]) (rest := []) jm_ok113 rfl rfl (by decide) (by decide +kernel) (oct_c ok_3_9_46_68 rfl (by decide) F1 (fun _ => .inl (.int (sy_i F1 83))) X1 X2 rfl (iv_app rfl (hd_iveq0 hb ny_lt) ⟨⟨rfl, (show (0 : Int) ≤ (sy_i F1 83).toInt by omega), (show (sy_i F1 83).toInt ≤ (120 : Int) by omega)⟩, trivial⟩) hJ1) (fun F3 F' hR p1 p2 => ?_)
    obtain ⟨r1, r2, r3⟩ := hR
    have g3 : ∀ j, j < 82 → j ∉ ([77] : List Nat) → F3 j = F1 j := fun j hj hn => (p1 j hj).trans (r2 j hj (by simpa using hn))
    have m82 := nz_fi (p2 82 (by decide) (by decide))
    refine k3oho_26 (by decide) F3 X1 X2 (hd_iveq0 r1 p1) (by omega) ?_
    intro F4 hb4 g4 e0' e1' e79' a2' a78'
    have g0 : ∀ j, j < 82 → j ∉ ([77, 78] : List Nat) → F4 j = F0 j := fun j hj hn => (g4 j hj (fun q => hn (by revert q; simp; omega))).trans ((g3 j hj (fun q => hn (by revert q; simp; omega))).trans (g j hj (by simp)))
    refine oq3_fin X1 X2 hb4 (jx3_g hJ0 g0 (by decide) (by decide)) ((nz_fl (g0 42 (by decide) (by decide))).trans hw0) ?_ ?_
    · try dsimp only
      unfold a_hold
      rw [if_pos (by omega)]
      decide
    · unfold s_hold
      rw [if_pos (by omega)]
      refine ox3_mk (nz_fi (g0 0 (by decide) (by decide))) (by rw [nz_fa (g0 2 (by decide) (by decide))]; try rfl) (nz_fi (g0 1 (by decide) (by decide))) (nz_fi (g0 79 (by decide) (by decide))) ?_
      rw [a78', nz_fa (g3 78 (by decide) (by decide)), a78, hl_u (by omega), m82, f82, e82]
      rfl
theorem ox3_restore (F : Nat → sy_d) (hB : iv_in F iv_B0) (hJ : jx_ok F) (hw : sy_al F 42 = wls) (a : Int32) : jm_T Ls xs 3 jm_M114 [.ref 8, .int a] (sy_dh F X1 X2 (iv_H 3)) 0 0 (oQ3 X1 X2 (fun r => r.toInt = a_rest a (ox F)) (ox F)) := by
  obtain ⟨F0, hF0⟩ : ∃ F0, F0 = ny F (fun _ => .inl (.int a)) := ⟨_, rfl⟩
  have k0 : ∀ j, j < 82 → F0 j = F j := fun j hj => by rw [hF0]; exact ny_lt j hj
  have hJ0 : jx_ok F0 := jx_ok_eq (k0 39 (by decide)) (k0 41 (by decide)) hJ
  have e82 : (sy_i F0 82).toInt = a.toInt := by rw [hF0]; rfl
  have hw0 : sy_al F0 42 = wls := (nz_fl (k0 42 (by decide))).trans hw
  have ho : ox F = ox F0 := (ox_eq (k0 0 (by decide)) (k0 1 (by decide)) (k0 2 (by decide)) (k0 78 (by decide)) (k0 79 (by decide))).symm
  rw [ho]
  refine nyy_T (by decide) F (fun _ => .inl (.int a)) X1 X2 (A := [.inl (.ref 8), .inr (.inl 82)]) jm_ok114 (by decide) rfl ?_
  rw [← hF0]
  have hh : 0 ≤ a.toInt ∧ a.toInt ≤ 2 → (ox F0).2.2.2.2 a.toInt.toNat = ((sy_ai F0 78).getD (sy_i F0 82).toInt.toNat 0).toInt := fun q => by
    show hl3 (sy_ai F0 78) a.toInt.toNat = _
    unfold hl3
    rw [if_pos (by omega), e82]
  have same : ∀ F1 : Nat → sy_d, ¬ ((0 ≤ a.toInt ∧ a.toInt ≤ 2) ∧ (ox F0).2.2.2.2 a.toInt.toNat ≠ 0) → iv_in F1 iv_B0 → (∀ j, j < 82 → j ∉ ([] : List Nat) → F1 j = F0 j) → oQ3 X1 X2 (fun r => r.toInt = a_rest a (ox F0)) (ox F0) (some (.int 0)) (sy_dh F1 X1 X2 (iv_H 3)) := fun F1 q hb g => by
    refine oq3_fin X1 X2 hb (jx3_g hJ0 g (by decide) (by decide)) ((nz_fl (g 42 (by decide) (by decide))).trans hw0) ?_ (ox3_g g (by decide) (by decide) (by decide) (by decide) (by decide))
    try dsimp only
    unfold a_rest
    rw [if_neg q]
    decide
  refine k3ore_0 (by decide) F0 X1 X2 (hd_iveq0 hB k0) ?_ ?_ ?_ ?_
  · intro q1 F1 hb g e0 e1 e79 a2 a78
    exact same F1 (fun z => by omega) hb g
  · intro q1 q2 F1 hb g e0 e1 e79 a2 a78
    exact same F1 (fun z => by omega) hb g
  · intro q1 q2 q3 F1 hb g e0 e1 e79 a2 a78 f82
    have hJ1 := jx3_g hJ0 g (by decide) (by decide)
    refine hd_calV (R := fun F' => iv_in F' iv_B0 ∧ (∀ j, j < 82 → [50, 51, 52, 53, 54, 55, 56, 57, 58, 59, 60, 61].contains j = false → F' j = F1 j) ∧ jx_ok F') (nh := 82) (nv := 83) (s := 3) (s1 := 3) (d1 := 1) (M1 := jm_M10) (As := [.inl (.ref 46), .inl (.ref 68), .inr (.inl 82)]) (rest := []) jm_ok114 rfl rfl (by decide) (by decide +kernel) (oct_c ok_3_10_46_68 rfl (by decide) F1 (fun _ => .inl (.int (sy_i F1 82))) X1 X2 rfl (iv_app rfl (hd_iveq0 hb ny_lt) ⟨⟨rfl, (show (0 : Int) ≤ (sy_i F1 82).toInt by omega), (show (sy_i F1 82).toInt ≤ (120 : Int) by omega)⟩, trivial⟩) hJ1) (fun F3 F' hR p1 p2 => ?_)
    obtain ⟨r1, r2, r3⟩ := hR
    refine k3ore_35 (by decide) F3 X1 X2 (hd_iveq0 r1 p1) ?_
    intro F4 hb4 g4 e0' e1' e79' a2' a78'
    have g0 : ∀ j, j < 82 → j ∉ ([50, 51, 52, 53, 54, 55, 56, 57, 58, 59, 60, 61, 74, 75] : List Nat) → F4 j = F0 j := fun j hj hn => (g4 j hj (fun q => hn (by revert q; simp; omega))).trans ((p1 j hj).trans ((r2 j hj (by simp at hn ⊢; omega)).trans (g j hj (by simp))))
    refine oq3_fin X1 X2 hb4 (jx3_g hJ0 g0 (by decide) (by decide)) ((nz_fl (g0 42 (by decide) (by decide))).trans hw0) ?_ (ox3_g g0 (by decide) (by decide) (by decide) (by decide) (by decide))
    try dsimp only
    unfold a_rest
    rw [if_pos ⟨by omega, by rw [hh (by omega)]; exact q3⟩]
    decide
  · intro q1 q2 q3 F1 hb g e0 e1 e79 a2 a78
    exact same F1 (fun z => z.2 (by rw [hh z.1]; exact q3)) hb g
noncomputable def fC3 (F0 F : Nat → sy_d) (t : Nat) (b : Nat → Int) : Prop := iv_in F iv_B0 ∧ (∀ j, j < 82 → j ∉ ([0, 2] : List Nat) → F j = F0 j) ∧ (sy_i F 0).toInt = t ∧ ub (sy_ai F 2) t = b
theorem fC3_eq {F0 F F1 : Nat → sy_d} {t : Nat} {b : Nat → Int} (h : fC3 F0 F t b) (g : ∀ j, j < 82 → F1 j = F j) : fC3 F0 F1 t b := ⟨hd_iveq0 h.1 g, fun j hj hn => (g j hj).trans (h.2.1 j hj hn), (nz_fi (g 0 (by decide))).trans h.2.2.1, by rw [nz_fa (g 2 (by decide))]; exact h.2.2.2⟩
theorem k3oap_T (F0 F : Nat → sy_d) {t : Nat} {b : Nat → Int} (h : fC3 F0 F t b) (ht : t ≤ 1996) (a : Int32) : jm_T Ls xs 1 jm_M116 [.ref 8, .int a] (sy_dh F X1 X2 (iv_H 3)) 0 0 (fun v G => ∃ F' : Nat → sy_d, v = none ∧ G = sy_dh F' X1 X2 (iv_H 3) ∧ fC3 F0 F' (t + 4) (apB b t a)) := by
  refine nyy_T (by decide) F (fun _ => .inl (.int a)) X1 X2 (A := [.inl (.ref 8), .inr (.inl 82)]) jm_ok116 (by decide) rfl ?_
  obtain ⟨F2, hF2⟩ : ∃ F2, F2 = ny F (fun _ => .inl (.int a)) := ⟨_, rfl⟩
  have i82 : sy_i F2 82 = a := by rw [hF2]; rfl
  have h2 : fC3 F0 F2 t b := fC3_eq h (fun j hj => by rw [hF2]; exact ny_lt j hj)
  rw [← hF2]
  obtain ⟨c1, c2, c3, c4⟩ := h2
  subst i82
  refine k3oap_0 (by decide) F2 X1 X2 c1 ?_ ?_ ?_ ?_ ?_
  iterate 4 (intros; omega)
  intro q1 q2 q3 q4 F1 hb g e0 a2
  refine ⟨F1, rfl, rfl, hb, fun j hj hn => (g j hj hn).trans (c2 j hj hn), by omega, ?_⟩
  rw [a2, ← c4]
  exact ap_ub (by omega) (by omega) (by omega) (by omega) rfl ((b8 _).trans (us24 _)) ((b8 _).trans (us16 _)) ((b8 _).trans (us8 _)) ((b8 _).trans (us0 _))
theorem ox3_feed (F : Nat → sy_d) (hB : iv_in F iv_B0) (hJ : jx_ok F) (hw : sy_al F 42 = wls) (a b c d e : Int32) : jm_T Ls xs 2 jm_M81 [.ref 8, .int a, .int b, .int c, .int d, .int e] (sy_dh F X1 X2 (iv_H 3)) 0 0 (oQ3 X1 X2 (fun r => r.toInt = a_feed (ox F)) (s_feed a b c d e (ox F))) := by
  obtain ⟨F0, hF0⟩ : ∃ F0, F0 = ny F (fun j => .inl (.int (if j = 0 then a else if j = 1 then b else if j = 2 then c else if j = 3 then d else e))) := ⟨_, rfl⟩
  have k0 : ∀ j, j < 82 → F0 j = F j := fun j hj => by rw [hF0]; exact ny_lt j hj
  have hJ0 : jx_ok F0 := jx_ok_eq (k0 39 (by decide)) (k0 41 (by decide)) hJ
  have i82 : sy_i F0 82 = a := by rw [hF0]; rfl
  have i83 : sy_i F0 83 = b := by rw [hF0]; rfl
  have i84 : sy_i F0 84 = c := by rw [hF0]; rfl
  have i85 : sy_i F0 85 = d := by rw [hF0]; rfl
  have i86 : sy_i F0 86 = e := by rw [hF0]; rfl
  have hB0 := hd_iveq0 hB k0
  have c1 := nz_bx hB0 (k := 0) (lo := 0) (hi := 2000) rfl
  have hw0 : sy_al F0 42 = wls := (nz_fl (k0 42 (by decide))).trans hw
  have ho : ox F = ox F0 := (ox_eq (k0 0 (by decide)) (k0 1 (by decide)) (k0 2 (by decide)) (k0 78 (by decide)) (k0 79 (by decide))).symm
  rw [ho]
  refine nyy_T (by decide) F (fun j => .inl (.int (if j = 0 then a else if j = 1 then b else if j = 2 then c else if j = 3 then d else e))) X1 X2 (A := [.inl (.ref 8), .inr (.inl 82), .inr (.inl 83), .inr (.inl 84), .inr (.inl 85), .inr (.inl 86)]) jm_ok81 (by decide) rfl ?_
  rw [← hF0]
  refine k3ofd_0 (by decide) F0 X1 X2 hB0 ?_ ?_
  · intro q F1 hb g e0 e1 e79 a2 a78 f82 f83 f84 f85 f86
    have hn : ¬ 2000 < (ox F0).1 + 20 := show ¬ 2000 < (sy_i F0 0).toInt + 20 by omega
    obtain ⟨t, ht⟩ : ∃ t : Nat, t = (sy_i F0 0).toInt.toNat := ⟨_, rfl⟩
    have h1 : fC3 F0 F1 t (ub (sy_ai F0 2) t) := ⟨hb, fun j hj hn => g j hj (by simp), by omega, by rw [a2]⟩
    have v0 : sy_i F1 82 = sy_i F0 82 := Int32.toInt_inj.mp f82
    have v1 : sy_i F1 83 = sy_i F0 83 := Int32.toInt_inj.mp f83
    have v2 : sy_i F1 84 = sy_i F0 84 := Int32.toInt_inj.mp f84
    have v3 : sy_i F1 85 = sy_i F0 85 := Int32.toInt_inj.mp f85
    have v4 : sy_i F1 86 = sy_i F0 86 := Int32.toInt_inj.mp f86
    refine hd_calV (R := fun F' => fC3 F0 F' (t + 4) (apB (ub (sy_ai F0 2) t) (t) (sy_i F0 82))) (nh := 82) (nv := 87) (s := 3) (s1 := 3) (d1 := 1) (M1 := jm_M116) (As := [.inl (.ref 8), .inr (.inl 82)]) (rest := []) jm_ok81 rfl rfl (by decide) (by decide +kernel) (by rw [← v0]; exact k3oap_T X1 X2 F0 F1 h1 (by omega) _) (fun G0 H0 hR0 p0 r0 => ?_)
    have h0a := fC3_eq hR0 p0
    have w0_1 : sy_i G0 83 = sy_i F0 83 := (show sy_i G0 83 = sy_i F1 83 by unfold sy_i; rw [r0 83 (by decide) (by decide)]).trans v1
    have w0_2 : sy_i G0 84 = sy_i F0 84 := (show sy_i G0 84 = sy_i F1 84 by unfold sy_i; rw [r0 84 (by decide) (by decide)]).trans v2
    have w0_3 : sy_i G0 85 = sy_i F0 85 := (show sy_i G0 85 = sy_i F1 85 by unfold sy_i; rw [r0 85 (by decide) (by decide)]).trans v3
    have w0_4 : sy_i G0 86 = sy_i F0 86 := (show sy_i G0 86 = sy_i F1 86 by unfold sy_i; rw [r0 86 (by decide) (by decide)]).trans v4
    refine k3ofd_20 (by decide) G0 X1 X2 h0a.1 ?_
    intro K0 kb0 kg0 z0_e0 z0_e1 z0_e79 z0_a2 z0_a78 y0_0 y0_1 y0_2 y0_3 y0_4
    have h0b := fC3_eq h0a (fun j hj => kg0 j hj (by simp))
    have u0_1 : sy_i K0 83 = sy_i F0 83 := (Int32.toInt_inj.mp y0_1).trans w0_1
    have u0_2 : sy_i K0 84 = sy_i F0 84 := (Int32.toInt_inj.mp y0_2).trans w0_2
    have u0_3 : sy_i K0 85 = sy_i F0 85 := (Int32.toInt_inj.mp y0_3).trans w0_3
    have u0_4 : sy_i K0 86 = sy_i F0 86 := (Int32.toInt_inj.mp y0_4).trans w0_4
    refine hd_calV (R := fun F' => fC3 F0 F' (t + 4 + 4) (apB (apB (ub (sy_ai F0 2) t) (t) (sy_i F0 82)) (t + 4) (sy_i F0 83))) (nh := 82) (nv := 87) (s := 3) (s1 := 3) (d1 := 1) (M1 := jm_M116) (As := [.inl (.ref 8), .inr (.inl 83)]) (rest := []) jm_ok81 rfl rfl (by decide) (by decide +kernel) (by rw [← u0_1]; exact k3oap_T X1 X2 F0 K0 h0b (by omega) _) (fun G1 H1 hR1 p1 r1 => ?_)
    have h1a := fC3_eq hR1 p1
    have w1_2 : sy_i G1 84 = sy_i F0 84 := (show sy_i G1 84 = sy_i K0 84 by unfold sy_i; rw [r1 84 (by decide) (by decide)]).trans u0_2
    have w1_3 : sy_i G1 85 = sy_i F0 85 := (show sy_i G1 85 = sy_i K0 85 by unfold sy_i; rw [r1 85 (by decide) (by decide)]).trans u0_3
    have w1_4 : sy_i G1 86 = sy_i F0 86 := (show sy_i G1 86 = sy_i K0 86 by unfold sy_i; rw [r1 86 (by decide) (by decide)]).trans u0_4
    refine k3ofd_25 (by decide) G1 X1 X2 h1a.1 ?_
    intro K1 kb1 kg1 z1_e0 z1_e1 z1_e79 z1_a2 z1_a78 y1_0 y1_1 y1_2 y1_3 y1_4
    have h1b := fC3_eq h1a (fun j hj => kg1 j hj (by simp))
    have u1_2 : sy_i K1 84 = sy_i F0 84 := (Int32.toInt_inj.mp y1_2).trans w1_2
    have u1_3 : sy_i K1 85 = sy_i F0 85 := (Int32.toInt_inj.mp y1_3).trans w1_3
    have u1_4 : sy_i K1 86 = sy_i F0 86 := (Int32.toInt_inj.mp y1_4).trans w1_4
    refine hd_calV (R := fun F' => fC3 F0 F' (t + 4 + 4 + 4) (apB (apB (apB (ub (sy_ai F0 2) t) (t) (sy_i F0 82)) (t + 4) (sy_i F0 83)) (t + 4 + 4) (sy_i F0 84))) (nh := 82) (nv := 87) (s := 3) (s1 := 3) (d1 := 1) (M1 := jm_M116) (As := [.inl (.ref 8), .inr (.inl 84)]) (rest := []) jm_ok81 rfl rfl (by decide) (by decide +kernel) (by rw [← u1_2]; exact k3oap_T X1 X2 F0 K1 h1b (by omega) _) (fun G2 H2 hR2 p2 r2 => ?_)
    have h2a := fC3_eq hR2 p2
    have w2_3 : sy_i G2 85 = sy_i F0 85 := (show sy_i G2 85 = sy_i K1 85 by unfold sy_i; rw [r2 85 (by decide) (by decide)]).trans u1_3
    have w2_4 : sy_i G2 86 = sy_i F0 86 := (show sy_i G2 86 = sy_i K1 86 by unfold sy_i; rw [r2 86 (by decide) (by decide)]).trans u1_4
    refine k3ofd_30 (by decide) G2 X1 X2 h2a.1 ?_
    intro K2 kb2 kg2 z2_e0 z2_e1 z2_e79 z2_a2 z2_a78 y2_0 y2_1 y2_2 y2_3 y2_4
    have h2b := fC3_eq h2a (fun j hj => kg2 j hj (by simp))
    have u2_3 : sy_i K2 85 = sy_i F0 85 := (Int32.toInt_inj.mp y2_3).trans w2_3
    have u2_4 : sy_i K2 86 = sy_i F0 86 := (Int32.toInt_inj.mp y2_4).trans w2_4
    refine hd_calV (R := fun F' => fC3 F0 F' (t + 4 + 4 + 4 + 4) (apB (apB (apB (apB (ub (sy_ai F0 2) t) (t) (sy_i F0 82)) (t + 4) (sy_i F0 83)) (t + 4 + 4) (sy_i F0 84)) (t + 4 + 4 + 4) (sy_i F0 85))) (nh := 82) (nv := 87) (s := 3) (s1 := 3) (d1 := 1) (M1 := jm_M116) (As := [.inl (.ref 8), .inr (.inl 85)]) (rest := []) jm_ok81 rfl rfl (by decide) (by decide +kernel) (by rw [← u2_3]; exact k3oap_T X1 X2 F0 K2 h2b (by omega) _) (fun G3 H3 hR3 p3 r3 => ?_)
    have h3a := fC3_eq hR3 p3
    have w3_4 : sy_i G3 86 = sy_i F0 86 := (show sy_i G3 86 = sy_i K2 86 by unfold sy_i; rw [r3 86 (by decide) (by decide)]).trans u2_4
    refine k3ofd_36 (by decide) G3 X1 X2 h3a.1 ?_
    intro K3 kb3 kg3 z3_e0 z3_e1 z3_e79 z3_a2 z3_a78 y3_0 y3_1 y3_2 y3_3 y3_4
    have h3b := fC3_eq h3a (fun j hj => kg3 j hj (by simp))
    have u3_4 : sy_i K3 86 = sy_i F0 86 := (Int32.toInt_inj.mp y3_4).trans w3_4
    refine hd_calV (R := fun F' => fC3 F0 F' (t + 4 + 4 + 4 + 4 + 4) (apB (apB (apB (apB (apB (ub (sy_ai F0 2) t) (t) (sy_i F0 82)) (t + 4) (sy_i F0 83)) (t + 4 + 4) (sy_i F0 84)) (t + 4 + 4 + 4) (sy_i F0 85)) (t + 4 + 4 + 4 + 4) (sy_i F0 86))) (nh := 82) (nv := 87) (s := 3) (s1 := 3) (d1 := 1) (M1 := jm_M116) (As := [.inl (.ref 8), .inr (.inl 86)]) (rest := []) jm_ok81 rfl rfl (by decide) (by decide +kernel) (by rw [← u3_4]; exact k3oap_T X1 X2 F0 K3 h3b (by omega) _) (fun G4 H4 hR4 p4 r4 => ?_)
    have h4a := fC3_eq hR4 p4
    refine k3ofd_42 (by decide) G4 X1 X2 h4a.1 ?_
    intro F9 kb kg z_e0 z_e1 z_e79 z_a2 z_a78
    have h6 := h4a
    have q5 := fC3_eq h4a (fun j hj => kg j hj (by simp))
    refine oq3_fin X1 X2 q5.1 (jx3_g hJ0 q5.2.1 (by decide) (by decide)) ((nz_fl (q5.2.1 42 (by decide) (by decide))).trans hw0) ?_ ?_
    · try dsimp only
      unfold a_feed
      rw [if_neg hn]
      show _ = (sy_i F0 0).toInt + 20
      have := q5.2.2.1
      have := h6.2.2.1
      omega
    · unfold s_feed
      rw [if_neg hn]
      refine ox3_mk (show _ = (sy_i F0 0).toInt + 20 by have := q5.2.2.1; omega) ?_ (nz_fi (q5.2.1 1 (by decide) (by decide))) (nz_fi (q5.2.1 79 (by decide) (by decide))) (by rw [nz_fa (q5.2.1 78 (by decide) (by decide))]; try rfl)
      rw [show ((ox F0).1 + 20).toNat = t + 4 + 4 + 4 + 4 + 4 from (show ((sy_i F0 0).toInt + 20).toNat = t + 4 + 4 + 4 + 4 + 4 by omega), q5.2.2.2, ht, i82, i83, i84, i85, i86]
      rfl
  · intro q F1 hb g e0 e1 e79 a2 a78
    have hn : 2000 < (ox F0).1 + 20 := show 2000 < (sy_i F0 0).toInt + 20 by omega
    refine oq3_fin X1 X2 hb (jx3_g hJ0 g (by decide) (by decide)) ((nz_fl (g 42 (by decide) (by decide))).trans hw0) ?_ ?_
    · try dsimp only
      unfold a_feed
      rw [if_pos hn]
      decide
    · unfold s_feed
      rw [if_pos hn]
      exact ox3_g g (by decide) (by decide) (by decide) (by decide) (by decide)
/-- the parse -/
theorem k3py_T (F : Nat → sy_d) (hB : iv_in F iv_B0) (hJ : jx_ok F) (hw : sy_al F 42 = wls) (n : Int32) {e : Nat} (en : n.toInt = e) (he : e ≤ 2000) : jm_T Ls xs 28 jm_M31 [.ref 30, .ref 9, .int n, .ref 10] (sy_dh F X1 X2 (iv_H 3)) 0 0 (fun v G => ∃ (x : Int32) (F' : Nat → sy_d), v = some (.int x) ∧ G = sy_dh F' X1 X2 (iv_H 3) ∧ gc (39 :: 40 :: 41 :: 35 :: k3_WP) F F' ∧ jx_ok F' ∧ x.toInt = (rdA (ub (sy_ai F 2) e) e).1 ∧ (sy_i F' 35).toInt = (rdA (ub (sy_ai F 2) e) e).2) := by
  refine nyy_T (by decide) F (fun _ => .inl (.int n)) X1 X2 (A := [.inl (.ref 30), .inl (.ref 9), .inr (.inl 82), .inl (.ref 10)]) jm_ok31 (by decide) rfl ?_
  obtain ⟨F0, hF0⟩ : ∃ F0, F0 = ny F (fun _ => .inl (.int n)) := ⟨_, rfl⟩
  have k0 : ∀ j, j < 82 → F0 j = F j := fun j hj => by rw [hF0]; exact ny_lt j hj
  have e82 : (sy_i F0 82).toInt = e := by rw [hF0]; exact en
  rw [← hF0]
  refine k3py_0 (by decide) F0 X1 X2 (hd_iveq0 hB k0) ?_
  intro F1 hb g e33 e34 e36 e37 e38 eFR eBU f82
  have g1 : ∀ j, j < 82 → F1 j = F j := fun j hj => (g j hj (by simp)).trans (k0 j hj)
  have hw1 : sy_al F1 42 = wls := (nz_fl (g1 42 (by decide))).trans hw
  refine hd_calV (R := fun F' => gc [39, 40, 41] F1 F' ∧ jx_ok F' ∧ ∃ L : Nat, L ≤ 400 ∧ (∀ j, j ≤ L → tg_ F1 F' e j) ∧ (∀ j, j < L → kg F' j ≠ 0 ∧ kg F' j ≠ 3) ∧ (kg F' L = 0 ∨ kg F' L = 3 ∨ L = 400)) (nh := 82) (nv := 83) (s := 3) (s1 := 3) (d1 := 6) (M1 := jm_M58) (As := [.inl (.ref 31), .inl (.ref 9), .inr (.inl 82)]) (rest := []) jm_ok31 rfl rfl (by decide) (by decide +kernel) (k3cu_T X1 X2 F1 hb (jx_ok_eq (g1 39 (by decide)) (g1 41 (by decide)) hJ) (wd_wls hw1) _ (f82.trans e82) he) (fun F3 F' hR p1 _ => ?_)
  obtain ⟨r1, r2, L, r3, r4, r5, r6⟩ := hR
  have eb : bg F1 e = ub (sy_ai F 2) e := by unfold bg; rw [nz_fa (g1 2 (by decide))]
  have hwg : wg F1 = fun k => wls.getD k 0 := by
    funext k
    unfold wg
    rw [hw1]
  have e1 := kg_eq (p1 39 (by decide))
  have e2 := pg_eq (p1 40 (by decide))
  have e3 := vg_eq (p1 41 (by decide))
  have e4 := ng_eq (p1 41 (by decide))
  have tt : ∀ j, j ≤ L → tk (ub (sy_ai F 2) e) e (wg F1) (kg F3) (pg F3) (vg F3) (ng F3) j := fun j hj => by
    have := r4 j hj
    unfold tg_ at this
    rw [e1, e2, e3, e4, ← eb]
    exact this
  rw [← e1] at r6
  have hA := rd_same hwg tt r6
  have j3 : jx_ok F3 := jx_ok_eq (p1 39 (by decide)) (p1 41 (by decide)) r2
  refine hd_mono (k3py_9T X1 X2 F3 (hd_iveq0 r1.1 p1) j3) ?_
  rintro v G ⟨x, F', rfl, rfl, h1, h2, h3⟩
  rw [hA] at h2 h3
  exact ⟨x, F', rfl, rfl, ⟨h1.1, fun j hj hn => (h1.2 j hj (fun q => hn (List.mem_cons_of_mem _ (List.mem_cons_of_mem _ (List.mem_cons_of_mem _ q))))).trans ((p1 j hj).trans ((r1.2 j hj (fun q => hn (by revert q; simp; omega))).trans (g1 j hj)))⟩, jx_ok_eq (h1.2 39 (by decide) (by decide)) (h1.2 41 (by decide) (by decide)) j3, h2, h3⟩
theorem k1obe_Tb (F : Nat → sy_d) (hB : iv_in F iv_B0) (hJ : jx_ok F) : jm_T Ls xs 7 jm_M117 [.ref 8] (sy_dh F X1 X2 (iv_H 1)) 0 0 (fun v G => ∃ F' : Nat → sy_d, v = none ∧ G = sy_dh F' X1 X2 (iv_H 1) ∧ iv_in F' iv_B0 ∧ jx_ok F' ∧ F' 0 = F 0 ∧ F' 1 = F 1 ∧ F' 42 = F 42 ∧ (sy_i F' 79).toInt = 0 ∧ ∀ j, j < 3 → (sy_ai F' 78).getD j 0 = 0) := by
  refine hd_T (As := [.inl (.ref 8)]) jm_ok117 (by decide) (k1obe_0 (by decide) F X1 X2 hB ?_)
  intro F1 hb1 g1 e0 e1 e79 a2 a78
  have j1 := jx3_g hJ g1 (by decide) (by decide)
  refine hd_calV (R := fun F' => iv_in F' iv_B0 ∧ (∀ j, j < 82 → [50, 51, 52, 53, 54, 55, 56, 57, 58, 59, 60, 61].contains j = false → F' j = F1 j) ∧ jx_ok F') (nh := 82) (nv := 82) (s := 1) (s1 := 1) (d1 := 2) (M1 := jm_M7) (As := [.inl (.ref 46), .inl (.ref 10)]) (rest := []) jm_ok117 rfl rfl (by decide) (by decide +kernel) (oct_c ok_1_7_46_10 rfl (by decide) F1 F1 X1 X2 rfl (hd_iveq0 hb1 ny_lt) j1) (fun F2 F2' hR2 p2 _ => ?_)
  obtain ⟨b2, r2, j2⟩ := hR2
  refine k1obe_11 (by decide) F2 X1 X2 (hd_iveq0 b2 p2) ?_
  intro F3 hb3 g3 e0' e1' e79' a2' a78'
  have j3 : jx_ok F3 := jx_ok_eq ((g3 39 (by decide) (by decide)).trans (p2 39 (by decide))) ((g3 41 (by decide) (by decide)).trans (p2 41 (by decide))) j2
  refine hd_calV (R := fun F' => iv_in F' iv_B0 ∧ (∀ j, j < 82 → [12, 45, 46].contains j = false → F' j = F3 j) ∧ jx_ok F') (nh := 82) (nv := 82) (s := 1) (s1 := 1) (d1 := 5) (M1 := jm_M19) (As := [.inl (.ref 38), .inl (.ref 10)]) (rest := []) jm_ok117 rfl rfl (by decide) (by decide +kernel) (oct_c ok_1_19_38_10 rfl (by decide) F3 F3 X1 X2 rfl (hd_iveq0 hb3 ny_lt) j3) (fun F4 F4' hR4 p4 _ => ?_)
  obtain ⟨b4, r4, j4⟩ := hR4
  refine k1obe_22 (by decide) F4 X1 X2 (hd_iveq0 b4 p4) ?_
  intro F5 hb5 g5 e0'' e1'' e79'' a2'' a78''
  have j5 : jx_ok F5 := jx_ok_eq ((g5 39 (by decide) (by decide)).trans (p4 39 (by decide))) ((g5 41 (by decide) (by decide)).trans (p4 41 (by decide))) j4
  refine hd_calV (R := fun F' => iv_in F' iv_B0 ∧ (∀ j, j < 82 → [77].contains j = false → F' j = F5 j) ∧ jx_ok F') (nh := 82) (nv := 82) (s := 1) (s1 := 1) (d1 := 1) (M1 := jm_M254) (As := [.inl (.ref 68), .inl (.int 0)]) (rest := []) jm_ok117 rfl rfl (by decide) (by decide +kernel) (oct_c ok_1_254_68 rfl (by decide) F5 (fun _ => .inl (.int 0)) X1 X2 rfl (iv_app rfl (hd_iveq0 hb5 ny_lt) ⟨⟨rfl, (by decide : (0 : Int) ≤ (0 : Int32).toInt), (by decide : (0 : Int32).toInt ≤ (0 : Int))⟩, trivial⟩) j5) (fun F6 F6' hR6 p6 _ => ?_)
  obtain ⟨b6, r6, j6⟩ := hR6
  refine k1obe_37 (by decide) F6 X1 X2 (hd_iveq0 b6 p6) ?_
  intro F7 hb7 g7 w0 w1 w79 w2 w78
  have gg : ∀ j, j < 82 → j ∉ ([50, 51, 52, 53, 54, 55, 56, 57, 58, 59, 60, 61, 12, 45, 46, 74, 75, 77, 78, 79] : List Nat) → F7 j = F j := fun j hj hn => by
    simp only [List.mem_cons, List.not_mem_nil, or_false, not_or] at hn
    rw [g7 j hj (by simp; omega), p6 j hj, r6 j hj (by simp; omega), g5 j hj (by simp; omega), p4 j hj, r4 j hj (by simp; omega), g3 j hj (by simp), p2 j hj, r2 j hj (by simp; omega), g1 j hj (by simp)]
  refine ⟨F7, rfl, rfl, hb7, jx3_g hJ gg (by decide) (by decide), gg 0 (by decide) (by decide), gg 1 (by decide) (by decide), gg 42 (by decide) (by decide), w79, fun j hj => ?_⟩
  rw [w78, jm_upd_at, jm_upd_at, jm_upd_at]
  match j, hj with
  | 0, _ => rfl
  | 1, _ => rfl
  | 2, _ => rfl
  | n + 3, h => exact absurd h (by omega)
/-- read -/
theorem ox3_read (F : Nat → sy_d) (hB : iv_in F iv_B0) (hJ : jx_ok F) (hw : sy_al F 42 = wls) : jm_T Ls xs 29 jm_M83 [.ref 8] (sy_dh F X1 X2 (iv_H 3)) 0 0 (oQ3 X1 X2 (fun r => r.toInt = a_read (ox F)) (s_read (ox F))) := by
  have c0 := nz_bx hB (k := 0) (lo := 0) (hi := 2000) rfl
  refine hd_T (As := [.inl (.ref 8)]) jm_ok83 (by decide) (k3ord_0 (by decide) F X1 X2 hB ?_)
  intro F1 hb g e0 e1 e35 e79 a2 a78 f82
  have g1 : ∀ j, j < 82 → F1 j = F j := fun j hj => g j hj (by simp)
  refine hd_calI (R := fun x F' => gc (39 :: 40 :: 41 :: 35 :: k3_WP) F1 F' ∧ jx_ok F' ∧ x.toInt = (rdA (ub (sy_ai F1 2) (sy_i F 0).toInt.toNat) (sy_i F 0).toInt.toNat).1 ∧ (sy_i F' 35).toInt = (rdA (ub (sy_ai F1 2) (sy_i F 0).toInt.toNat) (sy_i F 0).toInt.toNat).2) (nh := 82) (nv := 82) (s := 3) (s1 := 3) (d1 := 28) (M1 := jm_M31) (As := [.inl (.ref 30), .inl (.ref 9), .inr (.inl 82), .inl (.ref 10)]) (rest := []) jm_ok83 rfl rfl (by decide) (by decide +kernel) (k3py_T X1 X2 F1 hb (jx_ok_eq (g1 39 (by decide)) (g1 41 (by decide)) hJ) ((nz_fl (g1 42 (by decide))).trans hw) _ (e := (sy_i F 0).toInt.toNat) (by omega) (by omega)) (fun F3 F' x hR p1 _ p3 => ?_)
  obtain ⟨r1, r2, r3, r4⟩ := hR
  rw [a2] at r3 r4
  have hb3 := hd_iveq0 r1.1 p1
  have m82 : (sy_i F3 82).toInt = a_read (ox F) := by rw [zz_i p3, r3]; rfl
  have m35 : (sy_i F3 35).toInt = (rdA (ox F).2.1 (ox F).1.toNat).2 := by rw [nz_fi (p1 35 (by decide)), r4]; rfl
  have g3 : ∀ j, j < 82 → j ∉ (39 :: 40 :: 41 :: 35 :: k3_WP) → F3 j = F j := fun j hj hn => (p1 j hj).trans ((r1.2 j hj hn).trans (g1 j hj))
  have j3 : jx_ok F3 := jx_ok_eq (p1 39 (by decide)) (p1 41 (by decide)) r2
  refine k3ord_19 (by decide) F3 X1 X2 hb3 ?_ ?_
  · intro q F4 hb4 g4 e0' e1' e35' e79' a2' a78'
    have q' : ¬ (rdA (ox F).2.1 (ox F).1.toNat).1 = 0 := fun z => q (m82.trans z)
    have gg : ∀ j, j < 82 → j ∉ (0 :: 1 :: 39 :: 40 :: 41 :: 35 :: k3_WP) → F4 j = F j := fun j hj hn => (g4 j hj (fun q => hn (by revert q; simp; omega))).trans (g3 j hj (fun q => hn (List.mem_cons_of_mem _ (List.mem_cons_of_mem _ q))))
    refine ⟨_, 3, F4, rfl, m82, by decide, rfl, hb4, jx_ok_eq (g4 39 (by decide) (by decide)) (g4 41 (by decide) (by decide)) j3, (nz_fl (gg 42 (by decide) (by decide))).trans hw, ?_⟩
    unfold s_read
    rw [if_neg q']
    exact ox3_mk e0' ub_z (e1'.trans m35) (nz_fi (gg 79 (by decide) (by decide))) (by rw [nz_fa (gg 78 (by decide) (by decide))]; try rfl)
  · intro q F4 hb4 g4 e0' e1' e35' e79' a2' a78' f82'
    have q' : (rdA (ox F).2.1 (ox F).1.toNat).1 = 0 := m82.symm.trans q
    have j4 : jx_ok F4 := jx_ok_eq (g4 39 (by decide) (by decide)) (g4 41 (by decide) (by decide)) j3
    refine hd_calV (R := fun F' => iv_in F' iv_B0 ∧ jx_ok F' ∧ F' 0 = F4 0 ∧ F' 1 = F4 1 ∧ F' 42 = F4 42 ∧ (sy_i F' 79).toInt = 0 ∧ ∀ j, j < 3 → (sy_ai F' 78).getD j 0 = 0) (nh := 82) (nv := 83) (s := 1) (s1 := 1) (d1 := 7) (M1 := jm_M117) (As := [.inl (.ref 8)]) (rest := []) jm_ok83 rfl rfl (by decide) (by decide +kernel) (k1obe_Tb X1 X2 F4 hb4 j4) (fun F5 F6 hR6 p5 r5 => ?_)
    obtain ⟨y1, y2, y3, y4, y5, y6, y7⟩ := hR6
    have n82 := nz_fi (r5 82 (by decide) (by decide))
    refine k1ord_62 (by decide) F5 X1 X2 (hd_iveq0 y1 p5) ?_
    intro F7 hb7 g7 e0'' e1'' e79'' a2'' a78''
    have p7 : ∀ j, j < 82 → F7 j = F6 j := fun j hj => (g7 j hj (by simp)).trans (p5 j hj)
    refine ⟨_, 1, F7, rfl, ?_, by decide, rfl, hb7, jx_ok_eq (p7 39 (by decide)) (p7 41 (by decide)) y2, (nz_fl ((p7 42 (by decide)).trans (y5.trans ((g4 42 (by decide) (by decide)).trans (g3 42 (by decide) (by decide)))))).trans hw, ?_⟩
    · show (sy_i F5 82).toInt = a_read (ox F)
      rw [n82, f82']
      exact m82
    · unfold s_read
      rw [if_pos q']
      refine ox3_mk ((nz_fi ((p7 0 (by decide)).trans y3)).trans e0') ub_z (((nz_fi ((p7 1 (by decide)).trans y4)).trans e1').trans m35) ((nz_fi (p7 79 (by decide))).trans y6) (hl_z (fun j hj => ?_))
      rw [nz_fa (p7 78 (by decide))]
      exact y7 j hj
end OX3
