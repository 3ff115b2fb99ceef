/-! ===== the class parses expressions: the cells ===== -/
noncomputable def zR (cs co l : Nat) (W : List Nat) (E : Int → Prop) (d : Nat) (a : Int) (x : Int32) (F F' : Nat → sy_d) : Prop := pR W E d x F F' ∧ (x = 1 → zE cs co l a d F F')
theorem zR_src {cs co l : Nat} {W : List Nat} {E : Int → Prop} {d : Nat} {a : Int} {x : Int32} {F F0 F' : Nat → sy_d} (h : zR cs co l W E d a x F0 F') (e : ∀ q, q < 82 → F0 q = F q) (h1 : cs < 82) (h2 : co < 82) : zR cs co l W E d a x F F' := ⟨pR_src h.1 e, fun z => zE_src (h.2 z) e h1 h2⟩
section PZ0
variable {Ls : Nat} {xs : Nat → Int32} (X1 X2 : List jm_c)
noncomputable def k0uZ (Ls : Nat) (xs : Nat → Int32) (X1 X2 : List jm_c) (m : Nat) : Prop := ∀ (F : Nat → sy_d) (a b : Int32), iv_in F iv_B0 → jx_ok F → (sy_i F 23).toInt ≤ 12 + tg F → 0 ≤ a.toInt → a.toInt ≤ 5 → b.toInt = 6 - m → jm_T Ls xs (4 + 3 * m) jm_M40 [.ref 30, .int a, .int b] (sy_dh F X1 X2 (iv_H 0)) 0 0 (fun v G => ∃ (x : Int32) (F' : Nat → sy_d), v = some (.int x) ∧ G = sy_dh F' X1 X2 (iv_H 0) ∧ zR 23 32 0 k0_W E0 b.toInt.toNat a.toInt x F F')
noncomputable def k0pZ (Ls : Nat) (xs : Nat → Int32) (X1 X2 : List jm_c) (m : Nat) : Prop := ∀ (F : Nat → sy_d) (a b : Int32), iv_in F iv_B0 → jx_ok F → (sy_i F 23).toInt ≤ 12 + tg F → 0 ≤ a.toInt → a.toInt ≤ 5 → b.toInt = 6 - m → jm_T Ls xs (5 + 3 * m) jm_M39 [.ref 30, .int a, .int b] (sy_dh F X1 X2 (iv_H 0)) 0 0 (fun v G => ∃ (x : Int32) (F' : Nat → sy_d), v = some (.int x) ∧ G = sy_dh F' X1 X2 (iv_H 0) ∧ zR 23 32 1 k0_W E1 b.toInt.toNat a.toInt x F F')
noncomputable def k0sZ (Ls : Nat) (xs : Nat → Int32) (X1 X2 : List jm_c) (m : Nat) : Prop := ∀ (F : Nat → sy_d) (a b : Int32), iv_in F iv_B0 → jx_ok F → (sy_i F 23).toInt ≤ 12 + tg F → 0 ≤ a.toInt → a.toInt ≤ 5 → b.toInt = 6 - m → jm_T Ls xs (6 + 3 * m) jm_M38 [.ref 30, .int a, .int b] (sy_dh F X1 X2 (iv_H 0)) 0 0 (fun v G => ∃ (x : Int32) (F' : Nat → sy_d), v = some (.int x) ∧ G = sy_dh F' X1 X2 (iv_H 0) ∧ zR 23 32 2 k0_W E2 b.toInt.toNat a.toInt x F F')
theorem k0u_endz {dp : Nat} (F0 F1 F3 : Nat → sy_d) (d : Nat) (a : Int) (hd : 4 ≤ dp) (g1 : gc k0_W F0 F1) (g3 : gc k0_W F1 F3) (hlt : tg F0 < tg F1) (hle : tg F1 ≤ tg F3) (h : (sy_i F3 84 = 0 ∧ eX (kg F0) (tg F0) d 0 = .inl ((sy_i F3 34).toInt, tg F3)) ∨ (sy_i F3 84 = 1 ∧ eX (kg F0) (tg F0) d 0 = eX (kg F0) (tg F3) (d + 1) 1 ∧ tg F0 < tg F3 ∧ ¬ E2 (kg F0 (tg F3)))) (hz : sy_i F3 84 = 1 → zE 23 32 2 a (d + 1) F1 F3) (hcs : (sy_i F1 23).toInt = (sy_i F0 23).toInt) (hco : sy_ai F1 32 = sy_ai F0 32) (t1 : tg F1 = tg F0 + 1) (k6 : kg F0 (tg F0) = 6) (hd6 : d ≠ 6) (h1 : tg F0 < 400) :
    hd_W Ls xs dp jm_M40 (fun v G => ∃ (x : Int32) (F' : Nat → sy_d), v = some (.int x) ∧ G = sy_dh F' X1 X2 (iv_H 0) ∧ zR 23 32 0 k0_W E0 d a x F0 F') (137, sy_dL F3 [some (.inl (.ref 30)), none, none, none, none], sy_dS F3 [.inr (.inl 84)], sy_dh F3 X1 X2 (iv_H 0), 0, 0) := by
  have g03 : gc k0_W F0 F3 := g1.trans g3 (fun _ q => q)
  have hB3 := g03.1
  have c33 := nz_bx hB3 (k := 33) (lo := 0) (hi := 400) rfl
  have et : (tg F3 : Int) = (sy_i F3 33).toInt := by unfold tg; omega
  have eK : kg F0 (tg F3) = km ((sy_ai F3 39).getD (sy_i F3 33).toInt.toNat 0).toInt := by rw [show sy_ai F3 39 = sy_ai F0 39 from nz_fa (g03.2 39 (by decide) (by decide))]; rfl
  have m2 : kg F0 (tg F3) = 2 ↔ ((sy_ai F3 39).getD (sy_i F3 33).toInt.toNat 0).toInt = 24 := by rw [eK]; exact km_2
  have m6 : kg F0 (tg F3) = 6 ↔ ((sy_ai F3 39).getD (sy_i F3 33).toInt.toNat 0).toInt = 40 := by rw [eK]; exact km_6
  have m7 : kg F0 (tg F3) = 7 ↔ ((sy_ai F3 39).getD (sy_i F3 33).toInt.toNat 0).toInt = 41 := by rw [eK]; exact km_7
  have m8 : kg F0 (tg F3) = 8 ↔ ((sy_ai F3 39).getD (sy_i F3 33).toInt.toNat 0).toInt = 43 := by rw [eK]; exact km_8
  have m9 : kg F0 (tg F3) = 9 ↔ ((sy_ai F3 39).getD (sy_i F3 33).toInt.toNat 0).toInt = 45 := by rw [eK]; exact km_9
  have m10 : kg F0 (tg F3) = 10 ↔ ((sy_ai F3 39).getD (sy_i F3 33).toInt.toNat 0).toInt = 42 := by rw [eK]; exact km_10
  have m15 : kg F0 (tg F3) = 15 ↔ ((sy_ai F3 39).getD (sy_i F3 33).toInt.toNat 0).toInt = 47 := by rw [eK]; exact km_15
  have mv : (34 ≤ kg F0 (tg F3) ∧ kg F0 (tg F3) ≤ 42) ↔ (14 ≤ ((sy_ai F3 39).getD (sy_i F3 33).toInt.toNat 0).toInt ∧ ((sy_ai F3 39).getD (sy_i F3 33).toInt.toNat 0).toInt ≤ 22) := by rw [eK]; exact km_v
  refine k0zu_137 (by omega) F3 X1 X2 hB3 ?_ ?_ ?_ ?_
  · intro q F4 hb g e33 e34 eC a39 aC
    refine ⟨_, F4, rfl, rfl, ⟨g03.trans (gc_mk (W := k0_W) hb g (by decide)) (fun _ q => q), by rw [tg_eq e33]; omega, Or.inl ⟨rfl, ?_⟩⟩, fun zz => absurd zz (by decide)⟩
    rcases h with ⟨h1', h2⟩ | ⟨h1', -⟩
    · rw [e34, tg_eq e33]
      exact h2
    · rw [h1'] at q
      exact absurd q (by decide)
  · intro q84 _ _ _ _ F4 hb g e33 e34 eC a39 aC
    rcases h with ⟨h1', -⟩ | ⟨h1', h2, h3, h4⟩
    · rw [h1'] at q84
      exact absurd (by decide) q84
    have hE : ¬ (kg F0 (tg F3) = 8 ∨ kg F0 (tg F3) = 9 ∨ kg F0 (tg F3) = 10 ∨ kg F0 (tg F3) = 15) := h4
    refine ⟨_, F4, rfl, rfl, ⟨g03.trans (gc_mk (W := k0_W) hb g (by decide)) (fun _ q => q), by first | (rw [tg_eq e33]; omega) | (rw [tg_s c33.1 e33]; omega), ?_⟩, fun zz => ?_⟩
    rotate_left
    · first
      | exact absurd zz (by decide)
      | exact zE_br hcs hco (kg_eq (g1.2 39 (by decide) (by decide))) (vg_eq (g1.2 41 (by decide) (by decide))) t1 (hz h1') eC aC (tg_s c33.1 e33) k6 (by omega) hd6 h1 (by omega)
    first
      | exact Or.inr ⟨rfl, by rw [tg_s c33.1 e33]; exact h2.trans (eX_c (by omega) (by omega) (by omega)), by rw [tg_s c33.1 e33]; omega, id⟩
      | exact Or.inl ⟨rfl, by rw [e34, tg_eq e33]; exact h2.trans (eX_c4 (by omega) (by omega) (by omega))⟩
      | exact Or.inl ⟨rfl, by rw [e34, tg_eq e33]; exact h2.trans (eX_e1 (by omega) (by omega) hE (by omega))⟩
  · intro q84 _ _ _ _ F4 hb g e33 e34 eC a39 aC
    rcases h with ⟨h1', -⟩ | ⟨h1', h2, h3, h4⟩
    · rw [h1'] at q84
      exact absurd (by decide) q84
    have hE : ¬ (kg F0 (tg F3) = 8 ∨ kg F0 (tg F3) = 9 ∨ kg F0 (tg F3) = 10 ∨ kg F0 (tg F3) = 15) := h4
    refine ⟨_, F4, rfl, rfl, ⟨g03.trans (gc_mk (W := k0_W) hb g (by decide)) (fun _ q => q), by first | (rw [tg_eq e33]; omega) | (rw [tg_s c33.1 e33]; omega), ?_⟩, fun zz => ?_⟩
    rotate_left
    · first
      | exact absurd zz (by decide)
      | exact zE_br hcs hco (kg_eq (g1.2 39 (by decide) (by decide))) (vg_eq (g1.2 41 (by decide) (by decide))) t1 (hz h1') eC aC (tg_s c33.1 e33) k6 (by omega) hd6 h1 (by omega)
    first
      | exact Or.inr ⟨rfl, by rw [tg_s c33.1 e33]; exact h2.trans (eX_c (by omega) (by omega) (by omega)), by rw [tg_s c33.1 e33]; omega, id⟩
      | exact Or.inl ⟨rfl, by rw [e34, tg_eq e33]; exact h2.trans (eX_c4 (by omega) (by omega) (by omega))⟩
      | exact Or.inl ⟨rfl, by rw [e34, tg_eq e33]; exact h2.trans (eX_e1 (by omega) (by omega) hE (by omega))⟩
  · intro q84 _ _ _ F4 hb g e33 e34 eC a39 aC
    rcases h with ⟨h1', -⟩ | ⟨h1', h2, h3, h4⟩
    · rw [h1'] at q84
      exact absurd (by decide) q84
    have hE : ¬ (kg F0 (tg F3) = 8 ∨ kg F0 (tg F3) = 9 ∨ kg F0 (tg F3) = 10 ∨ kg F0 (tg F3) = 15) := h4
    refine ⟨_, F4, rfl, rfl, ⟨g03.trans (gc_mk (W := k0_W) hb g (by decide)) (fun _ q => q), by first | (rw [tg_eq e33]; omega) | (rw [tg_s c33.1 e33]; omega), ?_⟩, fun zz => ?_⟩
    rotate_left
    · first
      | exact absurd zz (by decide)
      | exact zE_br hcs hco (kg_eq (g1.2 39 (by decide) (by decide))) (vg_eq (g1.2 41 (by decide) (by decide))) t1 (hz h1') eC aC (tg_s c33.1 e33) k6 (by omega) hd6 h1 (by omega)
    first
      | exact Or.inr ⟨rfl, by rw [tg_s c33.1 e33]; exact h2.trans (eX_c (by omega) (by omega) (by omega)), by rw [tg_s c33.1 e33]; omega, id⟩
      | exact Or.inl ⟨rfl, by rw [e34, tg_eq e33]; exact h2.trans (eX_c4 (by omega) (by omega) (by omega))⟩
      | exact Or.inl ⟨rfl, by rw [e34, tg_eq e33]; exact h2.trans (eX_e1 (by omega) (by omega) hE (by omega))⟩
theorem k0u_ofz (m : Nat) (hm : m ≤ 6) (ih : ∀ m', m = m' + 1 → k0sZ Ls xs X1 X2 m') : k0uZ Ls xs X1 X2 m := by
  intro F a b hB hJ hcs a0 a5 hb
  refine nx_T (s := 0) (by decide) F X1 X2 (as := [a, b]) (A := [.inl (.ref 30), .inr (.inl 82), .inr (.inl 83)]) jm_ok40 (by decide) rfl ?_
  obtain ⟨F0, hF0⟩ : ∃ F0, F0 = nx 82 F [a, b] := ⟨_, rfl⟩
  rw [← hF0]
  have k0 : ∀ q, q < 82 → F0 q = F q := by rw [hF0]; exact nx_lt
  have i82 : sy_i F0 82 = a := by rw [hF0]; rfl
  have i83 : sy_i F0 83 = b := by rw [hF0]; rfl
  have hB0 := hd_iveq0 hB k0
  have hJ0 : jx_ok F0 := jx_ok_eq (k0 39 (by decide)) (k0 41 (by decide)) hJ
  have hcs0 : (sy_i F0 23).toInt ≤ 12 + tg F0 := by rw [nz_fi (k0 23 (by decide)), tg_eq (nz_fi (k0 33 (by decide)))]; exact hcs
  have cC := nz_bx hB0 (k := 23) (lo := 0) (hi := 512) rfl
  refine hd_W_mono (Q := fun v G => ∃ (x : Int32) (F' : Nat → sy_d), v = some (.int x) ∧ G = sy_dh F' X1 X2 (iv_H 0) ∧ zR 23 32 0 k0_W E0 b.toInt.toNat a.toInt x F0 F') ?_ (by
    rintro v G ⟨x, F', rfl, rfl, hR⟩
    exact ⟨x, F', rfl, rfl, zR_src hR k0 (by decide) (by decide)⟩)
  clear hF0
  have j82 : (sy_i F0 82).toInt = a.toInt := by rw [i82]
  have j83 : (sy_i F0 83).toInt = b.toInt := by rw [i83]
  have c33 := nz_bx hB0 (k := 33) (lo := 0) (hi := 400) rfl
  have et : (tg F0 : Int) = (sy_i F0 33).toInt := by unfold tg; omega
  have eK : kg F0 (tg F0) = km ((sy_ai F0 39).getD (sy_i F0 33).toInt.toNat 0).toInt := rfl
  have m2 : kg F0 (tg F0) = 2 ↔ ((sy_ai F0 39).getD (sy_i F0 33).toInt.toNat 0).toInt = 24 := by rw [eK]; exact km_2
  have m6 : kg F0 (tg F0) = 6 ↔ ((sy_ai F0 39).getD (sy_i F0 33).toInt.toNat 0).toInt = 40 := by rw [eK]; exact km_6
  have m7 : kg F0 (tg F0) = 7 ↔ ((sy_ai F0 39).getD (sy_i F0 33).toInt.toNat 0).toInt = 41 := by rw [eK]; exact km_7
  have m8 : kg F0 (tg F0) = 8 ↔ ((sy_ai F0 39).getD (sy_i F0 33).toInt.toNat 0).toInt = 43 := by rw [eK]; exact km_8
  have m9 : kg F0 (tg F0) = 9 ↔ ((sy_ai F0 39).getD (sy_i F0 33).toInt.toNat 0).toInt = 45 := by rw [eK]; exact km_9
  have m10 : kg F0 (tg F0) = 10 ↔ ((sy_ai F0 39).getD (sy_i F0 33).toInt.toNat 0).toInt = 42 := by rw [eK]; exact km_10
  have m15 : kg F0 (tg F0) = 15 ↔ ((sy_ai F0 39).getD (sy_i F0 33).toInt.toNat 0).toInt = 47 := by rw [eK]; exact km_15
  have mv : (34 ≤ kg F0 (tg F0) ∧ kg F0 (tg F0) ≤ 42) ↔ (14 ≤ ((sy_ai F0 39).getD (sy_i F0 33).toInt.toNat 0).toInt ∧ ((sy_ai F0 39).getD (sy_i F0 33).toInt.toNat 0).toInt ≤ 22) := by rw [eK]; exact km_v
  have hJ1 : ((sy_ai F0 39).getD (sy_i F0 33).toInt.toNat 0).toInt = 24 → 0 ≤ (((sy_al F0 41).getD (sy_i F0 33).toInt.toNat 0).toInt32).toInt ∧ (((sy_al F0 41).getD (sy_i F0 33).toInt.toNat 0).toInt32).toInt ≤ 9999 := fun h => jx_i32 hJ0 h
  have em : ∀ (F1 : Nat → sy_d) (o : rO), (∀ q, q < 82 → F1 q = F0 q) → (sy_i F1 83).toInt = cell a.toInt o → (∀ (W : List Int) (O : List rO), tg F0 < 400 → cX (kg F0) (vg F0) (tg F0) W 0 O = cX (kg F0) (vg F0) (tg F0 + 1) W 1 (O ++ [o])) → gc k0_W F0 F1 → (sy_i F1 33).toInt = (sy_i F0 33).toInt → (sy_i F1 82).toInt = ((sy_ai F0 39).getD (sy_i F0 33).toInt.toNat 0).toInt → -100 ≤ (sy_i F1 83).toInt → (sy_i F1 83).toInt ≤ 9999 → (kg F0 (tg F0) = 2 ∨ (34 ≤ kg F0 (tg F0) ∧ kg F0 (tg F0) ≤ 42)) → ∀ pc, (pc = 34 ∨ pc = 88) → hd_W Ls xs (4 + 3 * m) jm_M40 (fun v G => ∃ (x : Int32) (F' : Nat → sy_d), v = some (.int x) ∧ G = sy_dh F' X1 X2 (iv_H 0) ∧ zR 23 32 0 k0_W E0 b.toInt.toNat a.toInt x F0 F') (pc, sy_dL F1 [some (.inl (.ref 30)), none, none, some (.inr (.inl 82)), none], sy_dS F1 [.inr (.inl 83), .inl (.ref 20)], sy_dh F1 X1 X2 (iv_H 0), 0, 0) := by
    intro F1 o g1a hcell hXo g1 f33 f82 v0 v1 hk pc hpc
    have fC := nz_fi (g1a 23 (by decide))
    have fO := nz_fa (g1a 32 (by decide))
    have x39 : sy_ai F1 39 = sy_ai F0 39 := nz_fa (g1.2 39 (by decide) (by decide))
    have c82 : ((sy_ai F1 39).getD (sy_i F1 33).toInt.toNat 0).toInt = (sy_i F1 82).toInt := by rw [x39, f33, f82]
    have e0 : tg F1 = tg F0 := tg_eq f33
    clear m2 m6 m7 m8 m9 m10 m15 mv eK
    rcases hpc with rfl | rfl
    · refine k0zu_34 (by omega) F1 X1 X2 g1.1 (by omega) ?_ ?_ ?_ ?_ ?_ ?_
      all_goals intros
      all_goals first
        | (exfalso; omega)
        | (rename_i F2 hb2 g e33 e34 eC a39 aC
           exact ⟨_, F2, rfl, rfl, ⟨g1.trans (gc_mk (W := k0_W) hb2 g (by decide)) (fun _ q => q), by rw [tg_eq e33]; omega, Or.inl ⟨rfl, by rw [e34, tg_eq e33, e0]; exact eX_u4 (by omega) hk⟩⟩, fun zz => absurd zz (by decide)⟩)
        | (rename_i F2 hb2 g e33 e34 eC a39 aC
           have ts := tg_s (by omega) e33
           exact ⟨_, F2, rfl, rfl, ⟨g1.trans (gc_mk (W := k0_W) hb2 g (by decide)) (fun _ q => q), by omega, Or.inr ⟨rfl, by rw [ts, e0]; exact eX_u (by omega) hk, by omega, id⟩⟩, fun _ => zE_cell (by omega) (by rw [eC, fC]) (by rw [aC, fO, fC]) (by omega) hcell (fun W O => hXo W O (by omega))⟩)
    · refine k0zu_88 (by omega) F1 X1 X2 g1.1 (by omega) ?_ ?_ ?_ ?_ ?_ ?_
      all_goals intros
      all_goals first
        | (exfalso; omega)
        | (rename_i F2 hb2 g e33 e34 eC a39 aC
           exact ⟨_, F2, rfl, rfl, ⟨g1.trans (gc_mk (W := k0_W) hb2 g (by decide)) (fun _ q => q), by rw [tg_eq e33]; omega, Or.inl ⟨rfl, by rw [e34, tg_eq e33, e0]; exact eX_u4 (by omega) hk⟩⟩, fun zz => absurd zz (by decide)⟩)
        | (rename_i F2 hb2 g e33 e34 eC a39 aC
           have ts := tg_s (by omega) e33
           exact ⟨_, F2, rfl, rfl, ⟨g1.trans (gc_mk (W := k0_W) hb2 g (by decide)) (fun _ q => q), by omega, Or.inr ⟨rfl, by rw [ts, e0]; exact eX_u (by omega) hk, by omega, id⟩⟩, fun _ => zE_cell (by omega) (by rw [eC, fC]) (by rw [aC, fO, fC]) (by omega) hcell (fun W O => hXo W O (by omega))⟩)
  refine k0zu_0 (by omega) F0 X1 X2 hB0 (by omega) (by omega) ?_ ?_ ?_ ?_ ?_ ?_ ?_ ?_
  all_goals intros
  all_goals first
    | (exfalso; clear em hJ1; omega)
    | (rename_i F1 hb1 g e33 e34 eC a39 aC
       clear em hJ1
       exact ⟨_, F1, rfl, rfl, ⟨gc_mk hb1 g (by decide), by rw [tg_eq e33]; omega, Or.inl ⟨rfl, by rw [e34, tg_eq e33]; exact eX_u1 (by omega) (by omega) (by omega) (by omega)⟩⟩, fun zz => absurd zz (by decide)⟩)
    | (rename_i F1 hb1 g e33 e34 eC a39 aC
       clear em hJ1
       exact ⟨_, F1, rfl, rfl, ⟨gc_mk hb1 g (by decide), by rw [tg_eq e33]; omega, Or.inl ⟨rfl, by rw [e34, tg_eq e33]; exact eX_o6 (by omega) (by omega) (by omega)⟩⟩, fun zz => absurd zz (by decide)⟩)
    | (rename_i F1 hb1 g e33 e34 eC a39 aC e82 e83
       have hv := hJ1 (by omega)
       exact em F1 (0, vg F0 (tg F0)) (fun q hq => g q hq (by simp)) (by rw [e83]; rfl) (fun W O h4 => cX_i h4 (by omega)) (gc_mk hb1 g (by decide)) e33 e82 (by omega) (by omega) (by omega) 34 (Or.inl rfl))
    | (rename_i qv1 qv2 qv3 F1 hb1 g e33 e34 eC a39 aC e82 e83
       exact em F1 (1, kg F0 (tg F0) - 34) (fun q hq => g q hq (by simp)) (by rw [e83]; first | exact tv_cell1 (by omega) (by omega) qv1 qv2 (by rw [eK, km_r (by omega) (by omega)]) (by rw [← j82]; exact qv3) | exact tv_cell0 (by omega) (by omega) qv1 qv2 (by rw [eK, km_r (by omega) (by omega)]) (by rw [← j82]; exact qv3)) (fun W O h4 => cX_v h4 (by omega)) (gc_mk hb1 g (by decide)) e33 e82 (by omega) (by omega) (by omega) 88 (Or.inr rfl))
    | (rename_i F1 hb1 g e33 e34 eC a39 aC e82 e83
       clear em hJ1
       have ts := tg_s c33.1 e33
       obtain ⟨m', rfl⟩ : ∃ m', m = m' + 1 := ⟨m - 1, by omega⟩
       have hJ1 : jx_ok F1 := jx_ok_eq (g 39 (by decide) (by decide)) (g 41 (by decide) (by decide)) hJ0
       refine hd_calI (R := fun x F' => zR 23 32 2 k0_W E2 (sy_i F1 82).toInt.toNat (sy_i F1 83).toInt x F1 F') (nh := 82) (nv := 84) (s := 0) (s1 := 0) (d1 := 6 + 3 * m') (M1 := jm_M38) (As := [.inl (.ref 30), .inr (.inl 83), .inr (.inl 82)]) (rest := []) jm_ok40 rfl rfl (by omega) (by decide +kernel) (ih m' rfl F1 (sy_i F1 83) (sy_i F1 82) hb1 hJ1 (by omega) (by omega) (by omega) (by omega)) (fun F3 F' x hR0 p1 p2 p3 => ?_)
       have hzE := fun zz => zE_dst (hR0.2 zz) p1 (by decide) (by decide)
       have hR := hR0.1
       obtain ⟨r1, rl, r2⟩ := pR_dst hR p1
       have i84 : sy_i F3 84 = x := zz_i p3
       have e0 : eX (kg F0) (tg F0) b.toInt.toNat 0 = eX (kg F0) (tg F1) (sy_i F1 82).toInt.toNat 0 := by
         rw [ts, show (sy_i F1 82).toInt.toNat = b.toInt.toNat + 1 by omega]
         exact eX_o (by omega) (by omega) (by omega)
       rw [kg_eq (g 39 (by decide) (by decide))] at r2
       refine k0u_endz X1 X2 F0 F1 F3 b.toInt.toNat a.toInt (by omega) (gc_mk hb1 g (by decide)) r1 (by omega) (by omega) ?_ (fun zz => by have z2 := hzE (i84.symm.trans zz); rw [show (sy_i F1 82).toInt.toNat = b.toInt.toNat + 1 by omega, show (sy_i F1 83).toInt = a.toInt by omega] at z2; exact z2) eC aC ts (by omega) (by omega) (by omega)
       rw [i84]
       rcases r2 with ⟨q1, q2⟩ | ⟨q1, q2, q3, q4⟩
       · exact Or.inl ⟨q1, e0.trans q2⟩
       · exact Or.inr ⟨q1, by rw [show b.toInt.toNat + 1 = (sy_i F1 82).toInt.toNat by omega]; exact e0.trans q2, by omega, q4⟩)
/-- at the loop's head -/
noncomputable def k0ppJ (F0 F : Nat → sy_d) (d : Nat) : Prop := gc k0_W F0 F ∧ (sy_i F 82).toInt = (sy_i F0 82).toInt ∧ (sy_i F 83).toInt = (sy_i F0 83).toInt ∧ (sy_i F 85).toInt = ((sy_ai F 39).getD (sy_i F 33).toInt.toNat 0).toInt ∧ 0 ≤ (sy_i F 86).toInt ∧ ((sy_i F 84 = 0 ∧ (sy_i F 86).toInt + tg F0 ≤ tg F ∧ eX (kg F0) (tg F0) d 0 = .inl ((sy_i F 34).toInt, tg F)) ∨ (sy_i F 84 = 1 ∧ (sy_i F 86).toInt + 1 + tg F0 ≤ tg F ∧ eX (kg F0) (tg F0) d 0 = eX (kg F0) (tg F) d 1 ∧ ¬ E0 (kg F0 (tg F)))) ∧ (sy_i F 84 = 1 → zE 23 32 1 (sy_i F0 82).toInt d F0 F)
theorem k0pp_lz (m : Nat) (hm : m ≤ 6) (hc : k0uZ Ls xs X1 X2 m) (F0 : Nat → sy_d) (d : Nat) (hJ0 : jx_ok F0) (hcs0 : (sy_i F0 23).toInt ≤ 12 + tg F0) (cC : 0 ≤ (sy_i F0 23).toInt ∧ (sy_i F0 23).toInt ≤ 512) (ha : 0 ≤ (sy_i F0 82).toInt ∧ (sy_i F0 82).toInt ≤ 5) (hb : (sy_i F0 83).toInt = 6 - m) (hd : (d : Int) = 6 - m) : ∀ (n : Nat) (F : Nat → sy_d), k0ppJ F0 F d → 401 - (sy_i F 86).toInt < n →
    hd_W Ls xs (5 + 3 * m) jm_M39 (fun v G => ∃ (x : Int32) (F' : Nat → sy_d), v = some (.int x) ∧ G = sy_dh F' X1 X2 (iv_H 0) ∧ zR 23 32 1 k0_W E1 d (sy_i F0 82).toInt x F0 F') (23, sy_dL F [some (.inl (.ref 30)), some (.inr (.inl 82)), some (.inr (.inl 83)), some (.inr (.inl 84)), some (.inr (.inl 85)), some (.inr (.inl 86))], sy_dS F [], sy_dh F X1 X2 (iv_H 0), 0, 0)
  | 0, F, h, h3 => by
    obtain ⟨g0, -, -, -, h86, h, -⟩ := h
    have c33 := nz_bx g0.1 (k := 33) (lo := 0) (hi := 400) rfl
    have et : (tg F : Int) = (sy_i F 33).toInt := by unfold tg; omega
    rcases h with ⟨-, h, -⟩ | ⟨-, h, -⟩ <;> omega
  | n + 1, F, h, h3 => by
    obtain ⟨g0, i82, i83, i85, h86, h, hzA⟩ := h
    have hB := g0.1
    have c33 := nz_bx hB (k := 33) (lo := 0) (hi := 400) rfl
    have et : (tg F : Int) = (sy_i F 33).toInt := by unfold tg; omega
    have eK : kg F0 (tg F) = km ((sy_ai F 39).getD (sy_i F 33).toInt.toNat 0).toInt := by rw [show sy_ai F 39 = sy_ai F0 39 from nz_fa (g0.2 39 (by decide) (by decide))]; rfl
    have m2 : kg F0 (tg F) = 2 ↔ ((sy_ai F 39).getD (sy_i F 33).toInt.toNat 0).toInt = 24 := by rw [eK]; exact km_2
    have m6 : kg F0 (tg F) = 6 ↔ ((sy_ai F 39).getD (sy_i F 33).toInt.toNat 0).toInt = 40 := by rw [eK]; exact km_6
    have m7 : kg F0 (tg F) = 7 ↔ ((sy_ai F 39).getD (sy_i F 33).toInt.toNat 0).toInt = 41 := by rw [eK]; exact km_7
    have m8 : kg F0 (tg F) = 8 ↔ ((sy_ai F 39).getD (sy_i F 33).toInt.toNat 0).toInt = 43 := by rw [eK]; exact km_8
    have m9 : kg F0 (tg F) = 9 ↔ ((sy_ai F 39).getD (sy_i F 33).toInt.toNat 0).toInt = 45 := by rw [eK]; exact km_9
    have m10 : kg F0 (tg F) = 10 ↔ ((sy_ai F 39).getD (sy_i F 33).toInt.toNat 0).toInt = 42 := by rw [eK]; exact km_10
    have m15 : kg F0 (tg F) = 15 ↔ ((sy_ai F 39).getD (sy_i F 33).toInt.toNat 0).toInt = 47 := by rw [eK]; exact km_15
    have mv : (34 ≤ kg F0 (tg F) ∧ kg F0 (tg F) ≤ 42) ↔ (14 ≤ ((sy_ai F 39).getD (sy_i F 33).toInt.toNat 0).toInt ∧ ((sy_ai F 39).getD (sy_i F 33).toInt.toNat 0).toInt ≤ 22) := by rw [eK]; exact km_v
    have h400 : (sy_i F 86).toInt ≤ 400 := by rcases h with ⟨-, h, -⟩ | ⟨-, h, -⟩ <;> omega
    have hle : tg F0 ≤ tg F := by rcases h with ⟨-, h, -⟩ | ⟨-, h, -⟩ <;> omega
    have h84 : (sy_i F 84).toInt = 0 ∨ (sy_i F 84).toInt = 1 := by
      rcases h with ⟨h, -⟩ | ⟨h, -⟩
      · rw [h]; exact Or.inl (by decide)
      · rw [h]; exact Or.inr (by decide)
    have good : (sy_i F 84).toInt ≠ 0 → (sy_i F 86).toInt + 1 + tg F0 ≤ tg F ∧ eX (kg F0) (tg F0) d 0 = eX (kg F0) (tg F) d 1 ∧ ¬ E0 (kg F0 (tg F)) := fun q => by
      rcases h with ⟨h, -⟩ | ⟨-, h⟩
      · rw [h] at q
        exact absurd (by decide) q
      · exact h
    have z0 : (0 : Int32).toInt = 0 := by decide
    have h1eq : (sy_i F 84).toInt ≠ 0 → sy_i F 84 = 1 := fun q => Int32.toInt_inj.mp (by rw [show (1 : Int32).toInt = 1 by decide]; omega)
    refine k0zp_23 (by omega) F X1 X2 hB (by omega) (by omega) (by omega) ?_ ?_ ?_ ?_ ?_ ?_ ?_ ?_ ?_ ?_ ?_ ?_ ?_
    · intros; exfalso; omega
    · intro q1 q2 F1 hb1 g e33 e34 eC a39 aC
      refine ⟨_, F1, rfl, rfl, ⟨g0.trans (gc_mk (W := k0_W) hb1 g (by decide)) (fun _ q => q), by rw [tg_eq e33]; exact hle, ?_⟩, fun zz => by rw [zz] at q2; exact absurd q2 (by decide)⟩
      rcases h with ⟨h1, h2, h3⟩ | ⟨h1, -⟩
      · exact Or.inl ⟨h1, by rw [e34, tg_eq e33]; exact h3⟩
      · rw [h1] at q2
        exact absurd q2 (by decide)
    all_goals clear h
    all_goals intros
    all_goals first
      | (exfalso; omega)
      | (rename_i F1 hb1 g e33 e34 eC a39 aC
         obtain ⟨y1, y2, y3⟩ := good (by omega)
         refine ⟨_, F1, rfl, rfl, ⟨g0.trans (gc_mk (W := k0_W) hb1 g (by decide)) (fun _ q => q), by rw [tg_eq e33]; exact hle, Or.inr ⟨Int32.toInt_inj.mp (by rw [show (1 : Int32).toInt = 1 by decide]; omega), by rw [tg_eq e33]; exact y2, by rw [tg_eq e33]; omega, ?_⟩⟩, fun zz => zE_mk (hzA zz) eC aC e33⟩
         rw [tg_eq e33]
         intro z
         have z : kg F0 (tg F) = 10 ∨ kg F0 (tg F) = 15 := z
         omega)
      | (rename_i F1 hb1 g e33 e34 eC a39 aC e82 e83 e84 e85 e86
         obtain ⟨y1, y2, y3⟩ := good (by omega)
         refine k0pp_lz m hm hc F0 d hJ0 hcs0 cC ha hb hd n F1 ⟨g0.trans (gc_mk (W := k0_W) hb1 g (by decide)) (fun _ q => q), by omega, by omega, by rw [e85, a39, e33], by omega, Or.inl ⟨Int32.toInt_inj.mp (by rw [z0]; exact e84), by rw [tg_eq e33]; omega, ?_⟩, fun zz => by rw [zz] at e84; exact absurd e84 (by decide)⟩ (by omega)
         rw [e34, tg_eq e33]
         exact y2.trans (eX_b4 (by omega) (by omega)))
      | (rename_i F1 hb1 g e33 e34 eC a39 aC e82 e83 e84 e85
         obtain ⟨y1, y2, y3⟩ := good (by omega)
         have ts := tg_s c33.1 e33
         have g1 : gc k0_W F0 F1 := g0.trans (gc_mk (W := k0_W) hb1 g (by decide)) (fun _ q => q)
         have hJ1 : jx_ok F1 := jx_ok_eq (g1.2 39 (by decide) (by decide)) (g1.2 41 (by decide) (by decide)) hJ0
         refine hd_calI (R := fun x F' => zR 23 32 0 k0_W E0 (sy_i F1 83).toInt.toNat (sy_i F1 82).toInt x F1 F') (nh := 82) (nv := 86) (s := 0) (s1 := 0) (d1 := 4 + 3 * m) (M1 := jm_M40) (As := [.inl (.ref 30), .inr (.inl 82), .inr (.inl 83)]) (rest := []) jm_ok39 rfl rfl (by omega) (by decide +kernel) (hc F1 (sy_i F1 82) (sy_i F1 83) hb1 hJ1 (by have zq := (hzA (h1eq (by omega))).2.1; omega) (by omega) (by omega) (by omega)) (fun F3 F' x hR0 p1 p2 p3 => ?_)
         have hzE := fun zz => zE_dst (hR0.2 zz) p1 (by decide) (by decide)
         have hR := hR0.1
         have hzq := hzA (h1eq (by omega))
         obtain ⟨r1, rl, r2⟩ := pR_dst hR p1
         have x86 : sy_i F3 86 = x := zz_i p3
         have k82 := nz_fi (p2 82 (by decide) (by decide))
         have k83 := nz_fi (p2 83 (by decide) (by decide))
         have k84 := nz_fi (p2 84 (by decide) (by decide))
         have k85 := nz_fi (p2 85 (by decide) (by decide))
         rw [kg_eq (g1.2 39 (by decide) (by decide)), show (sy_i F1 83).toInt.toNat = d by omega] at r2
         have e0 : eX (kg F0) (tg F0) d 0 = eX (kg F0) (tg F1) d 0 := by
           rw [ts]
           exact y2.trans (eX_b (by omega) (by omega))
         have g3 : gc k0_W F0 F3 := g1.trans r1 (fun _ q => q)
         refine k0zp_64 (by omega) F3 X1 X2 r1.1 (by omega) ?_ ?_ ?_ ?_ ?_ ?_ ?_ ?_
         all_goals
           intros
           rename_i q86 q84' qC _ _ F4 hb4 g4 d33 d34 dC b39 bC d82 d83 d84 d85 d86
           refine k0pp_lz m hm hc F0 d hJ0 hcs0 cC ha hb hd n F4 ⟨g3.trans (gc_mk (W := k0_W) hb4 g4 (by decide)) (fun _ q => q), by omega, by omega, by rw [d85, b39, d33], by omega, ?_, fun zz => ?_⟩ (by omega)
           rotate_left
           · have zx : sy_i F3 86 = 1 → zE 23 32 0 (sy_i F0 82).toInt d F1 F3 := fun z6 => by
               have z2 := hzE (x86.symm.trans z6)
               rw [show (sy_i F1 83).toInt.toNat = d by omega, show (sy_i F1 82).toInt = (sy_i F0 82).toInt by omega] at z2
               exact z2
             have d84' : (sy_i F4 84).toInt = 1 := by rw [zz]; decide
             have z86 : sy_i F3 86 = 1 := by
               rcases r2 with ⟨q1, -⟩ | ⟨q1, -⟩
               · exfalso
                 rw [x86, q1] at q86
                 first
                   | exact absurd q86 (by decide)
                   | omega
               · rw [x86, q1]
             have hzB := zx z86
             have hcs3 := hzB.2.1
             have hcsA := hzq.2.1
             have et3 : (tg F3 : Int) ≤ 400 := by have := nz_bx r1.1 (k := 33) (lo := 0) (hi := 400) rfl; unfold tg; omega
             first
               | (exfalso; omega)
               | exact zE_sg cC.1 hzq (F2 := F1) eC aC (kg_eq (g1.2 39 (by decide) (by decide))) (vg_eq (g1.2 41 (by decide) (by decide))) ts hzB dC bC (tg_eq d33) (by rcases (show kg F0 (tg F) = 10 ∨ kg F0 (tg F) = 15 by omega) with z | z <;> (rw [z]; first | decide | (exfalso; omega))) (fun W O ho => zX_p (by omega) (by omega) (by have := nz_bx r1.1 (k := 33) (lo := 0) (hi := 400) rfl; unfold tg; omega) W O ho)
           rw [d34, tg_eq d33]
           rcases r2 with ⟨q1, q2⟩ | ⟨q1, q2, q3, q4⟩
           · first
               | exact Or.inl ⟨Int32.toInt_inj.mp (by rw [z0]; exact d84), by omega, e0.trans q2⟩
               | exact absurd (by rw [x86, q1]; decide) q86
           · first
               | exact Or.inr ⟨Int32.toInt_inj.mp (by rw [show (1 : Int32).toInt = 1 by decide]; exact d84), by omega, e0.trans q2, q4⟩
               | (rw [x86, q1] at q86; exact absurd q86 (by decide)))
theorem k0p_ofz (m : Nat) (hm : m ≤ 6) (hc : k0uZ Ls xs X1 X2 m) : k0pZ Ls xs X1 X2 m := by
  intro F a b hB hJ hcs a0 a5 hb
  refine nx_T (s := 0) (by decide) F X1 X2 (as := [a, b]) (A := [.inl (.ref 30), .inr (.inl 82), .inr (.inl 83)]) jm_ok39 (by decide) rfl ?_
  obtain ⟨F0, hF0⟩ : ∃ F0, F0 = nx 82 F [a, b] := ⟨_, rfl⟩
  rw [← hF0]
  have k0 : ∀ q, q < 82 → F0 q = F q := by rw [hF0]; exact nx_lt
  have i82 : sy_i F0 82 = a := by rw [hF0]; rfl
  have i83 : sy_i F0 83 = b := by rw [hF0]; rfl
  have hB0 := hd_iveq0 hB k0
  have hJ0 : jx_ok F0 := jx_ok_eq (k0 39 (by decide)) (k0 41 (by decide)) hJ
  have hcs0 : (sy_i F0 23).toInt ≤ 12 + tg F0 := by rw [nz_fi (k0 23 (by decide)), tg_eq (nz_fi (k0 33 (by decide)))]; exact hcs
  have cC := nz_bx hB0 (k := 23) (lo := 0) (hi := 512) rfl
  refine hd_W_mono (Q := fun v G => ∃ (x : Int32) (F' : Nat → sy_d), v = some (.int x) ∧ G = sy_dh F' X1 X2 (iv_H 0) ∧ zR 23 32 1 k0_W E1 b.toInt.toNat a.toInt x F0 F') ?_ (by
    rintro v G ⟨x, F', rfl, rfl, hR⟩
    exact ⟨x, F', rfl, rfl, zR_src hR k0 (by decide) (by decide)⟩)
  clear hF0
  have j82 : (sy_i F0 82).toInt = a.toInt := by rw [i82]
  have j83 : (sy_i F0 83).toInt = b.toInt := by rw [i83]
  refine k0zp_0 (by omega) F0 X1 X2 hB0 ?_
  intro F1 hb1 g e33 e34 eC a39 aC e82 e83
  have g0 : ∀ q, q < 82 → F1 q = F0 q := fun q hq => g q hq (by simp)
  have hJ1 : jx_ok F1 := jx_ok_eq (g0 39 (by decide)) (g0 41 (by decide)) hJ0
  refine hd_calI (R := fun x F' => zR 23 32 0 k0_W E0 (sy_i F1 83).toInt.toNat (sy_i F1 82).toInt x F1 F') (nh := 82) (nv := 84) (s := 0) (s1 := 0) (d1 := 4 + 3 * m) (M1 := jm_M40) (As := [.inl (.ref 30), .inr (.inl 82), .inr (.inl 83)]) (rest := []) jm_ok39 rfl rfl (by omega) (by decide +kernel) (hc F1 (sy_i F1 82) (sy_i F1 83) hb1 hJ1 (by rw [eC, tg_eq e33]; exact hcs0) (by omega) (by omega) (by omega)) (fun F3 F' x hR0 p1 p2 p3 => ?_)
  have hzE := fun zz => zE_src (zE_dst (hR0.2 zz) p1 (by decide) (by decide)) g0 (by decide) (by decide)
  have hR := hR0.1
  obtain ⟨r1, rl, r2⟩ := pR_src (pR_dst hR p1) g0
  have x84 : sy_i F3 84 = x := zz_i p3
  have k82 := nz_fi (p2 82 (by decide) (by decide))
  have k83 := nz_fi (p2 83 (by decide) (by decide))
  rw [show (sy_i F1 83).toInt.toNat = b.toInt.toNat by omega] at r2
  refine k0zp_6 (by omega) F3 X1 X2 r1.1 ?_
  intros
  rename_i F4 hb4 g4 d33 d34 dC b39 bC d82 d83 d84 d85 d86
  rw [← show (sy_i F0 82).toInt = a.toInt by omega]
  refine k0pp_lz X1 X2 m hm hc F0 b.toInt.toNat hJ0 hcs0 cC (by omega) (by omega) (by omega) 402 F4 ⟨r1.trans (gc_mk (W := k0_W) hb4 g4 (by decide)) (fun _ q => q), by omega, by omega, by rw [d85, b39, d33], by omega, ?_, fun zz => ?_⟩ (by omega)
  rotate_left
  · have z2 := hzE (x84.symm.trans ((Int32.toInt_inj.mp d84).symm.trans zz))
    rw [show (sy_i F1 83).toInt.toNat = b.toInt.toNat by omega, show (sy_i F1 82).toInt = (sy_i F0 82).toInt by omega] at z2
    exact zE_mk (zE_01 z2 1) dC bC d33
  rw [d34, tg_eq d33, d86, show sy_i F4 84 = x from (Int32.toInt_inj.mp d84).trans x84]
  rcases r2 with ⟨q1, q2⟩ | ⟨q1, q2, q3, q4⟩
  · exact Or.inl ⟨q1, by omega, q2⟩
  · exact Or.inr ⟨q1, by omega, q2, q4⟩
/-- at the loop's head -/
noncomputable def k0psJ (F0 F : Nat → sy_d) (d : Nat) : Prop := gc k0_W F0 F ∧ (sy_i F 82).toInt = (sy_i F0 82).toInt ∧ (sy_i F 83).toInt = (sy_i F0 83).toInt ∧ (sy_i F 85).toInt = ((sy_ai F 39).getD (sy_i F 33).toInt.toNat 0).toInt ∧ 0 ≤ (sy_i F 86).toInt ∧ ((sy_i F 84 = 0 ∧ (sy_i F 86).toInt + tg F0 ≤ tg F ∧ eX (kg F0) (tg F0) d 0 = .inl ((sy_i F 34).toInt, tg F)) ∨ (sy_i F 84 = 1 ∧ (sy_i F 86).toInt + 1 + tg F0 ≤ tg F ∧ eX (kg F0) (tg F0) d 0 = eX (kg F0) (tg F) d 1 ∧ ¬ E1 (kg F0 (tg F)))) ∧ (sy_i F 84 = 1 → zE 23 32 2 (sy_i F0 82).toInt d F0 F)
theorem k0ps_lz (m : Nat) (hm : m ≤ 6) (hc : k0pZ Ls xs X1 X2 m) (F0 : Nat → sy_d) (d : Nat) (hJ0 : jx_ok F0) (hcs0 : (sy_i F0 23).toInt ≤ 12 + tg F0) (cC : 0 ≤ (sy_i F0 23).toInt ∧ (sy_i F0 23).toInt ≤ 512) (ha : 0 ≤ (sy_i F0 82).toInt ∧ (sy_i F0 82).toInt ≤ 5) (hb : (sy_i F0 83).toInt = 6 - m) (hd : (d : Int) = 6 - m) : ∀ (n : Nat) (F : Nat → sy_d), k0psJ F0 F d → 401 - (sy_i F 86).toInt < n →
    hd_W Ls xs (6 + 3 * m) jm_M38 (fun v G => ∃ (x : Int32) (F' : Nat → sy_d), v = some (.int x) ∧ G = sy_dh F' X1 X2 (iv_H 0) ∧ zR 23 32 2 k0_W E2 d (sy_i F0 82).toInt x F0 F') (23, sy_dL F [some (.inl (.ref 30)), some (.inr (.inl 82)), some (.inr (.inl 83)), some (.inr (.inl 84)), some (.inr (.inl 85)), some (.inr (.inl 86))], sy_dS F [], sy_dh F X1 X2 (iv_H 0), 0, 0)
  | 0, F, h, h3 => by
    obtain ⟨g0, -, -, -, h86, h, -⟩ := h
    have c33 := nz_bx g0.1 (k := 33) (lo := 0) (hi := 400) rfl
    have et : (tg F : Int) = (sy_i F 33).toInt := by unfold tg; omega
    rcases h with ⟨-, h, -⟩ | ⟨-, h, -⟩ <;> omega
  | n + 1, F, h, h3 => by
    obtain ⟨g0, i82, i83, i85, h86, h, hzA⟩ := h
    have hB := g0.1
    have c33 := nz_bx hB (k := 33) (lo := 0) (hi := 400) rfl
    have et : (tg F : Int) = (sy_i F 33).toInt := by unfold tg; omega
    have eK : kg F0 (tg F) = km ((sy_ai F 39).getD (sy_i F 33).toInt.toNat 0).toInt := by rw [show sy_ai F 39 = sy_ai F0 39 from nz_fa (g0.2 39 (by decide) (by decide))]; rfl
    have m2 : kg F0 (tg F) = 2 ↔ ((sy_ai F 39).getD (sy_i F 33).toInt.toNat 0).toInt = 24 := by rw [eK]; exact km_2
    have m6 : kg F0 (tg F) = 6 ↔ ((sy_ai F 39).getD (sy_i F 33).toInt.toNat 0).toInt = 40 := by rw [eK]; exact km_6
    have m7 : kg F0 (tg F) = 7 ↔ ((sy_ai F 39).getD (sy_i F 33).toInt.toNat 0).toInt = 41 := by rw [eK]; exact km_7
    have m8 : kg F0 (tg F) = 8 ↔ ((sy_ai F 39).getD (sy_i F 33).toInt.toNat 0).toInt = 43 := by rw [eK]; exact km_8
    have m9 : kg F0 (tg F) = 9 ↔ ((sy_ai F 39).getD (sy_i F 33).toInt.toNat 0).toInt = 45 := by rw [eK]; exact km_9
    have m10 : kg F0 (tg F) = 10 ↔ ((sy_ai F 39).getD (sy_i F 33).toInt.toNat 0).toInt = 42 := by rw [eK]; exact km_10
    have m15 : kg F0 (tg F) = 15 ↔ ((sy_ai F 39).getD (sy_i F 33).toInt.toNat 0).toInt = 47 := by rw [eK]; exact km_15
    have mv : (34 ≤ kg F0 (tg F) ∧ kg F0 (tg F) ≤ 42) ↔ (14 ≤ ((sy_ai F 39).getD (sy_i F 33).toInt.toNat 0).toInt ∧ ((sy_ai F 39).getD (sy_i F 33).toInt.toNat 0).toInt ≤ 22) := by rw [eK]; exact km_v
    have h400 : (sy_i F 86).toInt ≤ 400 := by rcases h with ⟨-, h, -⟩ | ⟨-, h, -⟩ <;> omega
    have hle : tg F0 ≤ tg F := by rcases h with ⟨-, h, -⟩ | ⟨-, h, -⟩ <;> omega
    have h84 : (sy_i F 84).toInt = 0 ∨ (sy_i F 84).toInt = 1 := by
      rcases h with ⟨h, -⟩ | ⟨h, -⟩
      · rw [h]; exact Or.inl (by decide)
      · rw [h]; exact Or.inr (by decide)
    have good : (sy_i F 84).toInt ≠ 0 → (sy_i F 86).toInt + 1 + tg F0 ≤ tg F ∧ eX (kg F0) (tg F0) d 0 = eX (kg F0) (tg F) d 1 ∧ ¬ E1 (kg F0 (tg F)) := fun q => by
      rcases h with ⟨h, -⟩ | ⟨-, h⟩
      · rw [h] at q
        exact absurd (by decide) q
      · exact h
    have z0 : (0 : Int32).toInt = 0 := by decide
    have h1eq : (sy_i F 84).toInt ≠ 0 → sy_i F 84 = 1 := fun q => Int32.toInt_inj.mp (by rw [show (1 : Int32).toInt = 1 by decide]; omega)
    refine k0zs_23 (by omega) F X1 X2 hB (by omega) (by omega) (by omega) ?_ ?_ ?_ ?_ ?_ ?_ ?_ ?_ ?_ ?_ ?_ ?_ ?_
    · intros; exfalso; omega
    · intro q1 q2 F1 hb1 g e33 e34 eC a39 aC
      refine ⟨_, F1, rfl, rfl, ⟨g0.trans (gc_mk (W := k0_W) hb1 g (by decide)) (fun _ q => q), by rw [tg_eq e33]; exact hle, ?_⟩, fun zz => by rw [zz] at q2; exact absurd q2 (by decide)⟩
      rcases h with ⟨h1, h2, h3⟩ | ⟨h1, -⟩
      · exact Or.inl ⟨h1, by rw [e34, tg_eq e33]; exact h3⟩
      · rw [h1] at q2
        exact absurd q2 (by decide)
    all_goals clear h
    all_goals intros
    all_goals first
      | (exfalso; omega)
      | (rename_i F1 hb1 g e33 e34 eC a39 aC
         obtain ⟨y1, y2, y3⟩ := good (by omega)
         refine ⟨_, F1, rfl, rfl, ⟨g0.trans (gc_mk (W := k0_W) hb1 g (by decide)) (fun _ q => q), by rw [tg_eq e33]; exact hle, Or.inr ⟨Int32.toInt_inj.mp (by rw [show (1 : Int32).toInt = 1 by decide]; omega), by rw [tg_eq e33]; exact y2, by rw [tg_eq e33]; omega, ?_⟩⟩, fun zz => zE_mk (hzA zz) eC aC e33⟩
         rw [tg_eq e33]
         intro z
         have z : kg F0 (tg F) = 8 ∨ kg F0 (tg F) = 9 ∨ kg F0 (tg F) = 10 ∨ kg F0 (tg F) = 15 := z
         have y3 : ¬ (kg F0 (tg F) = 10 ∨ kg F0 (tg F) = 15) := y3
         omega)
      | (rename_i F1 hb1 g e33 e34 eC a39 aC e82 e83 e84 e85 e86
         obtain ⟨y1, y2, y3⟩ := good (by omega)
         refine k0ps_lz m hm hc F0 d hJ0 hcs0 cC ha hb hd n F1 ⟨g0.trans (gc_mk (W := k0_W) hb1 g (by decide)) (fun _ q => q), by omega, by omega, by rw [e85, a39, e33], by omega, Or.inl ⟨Int32.toInt_inj.mp (by rw [z0]; exact e84), by rw [tg_eq e33]; omega, ?_⟩, fun zz => by rw [zz] at e84; exact absurd e84 (by decide)⟩ (by omega)
         rw [e34, tg_eq e33]
         exact y2.trans (eX_b4 (by omega) (by omega)))
      | (rename_i F1 hb1 g e33 e34 eC a39 aC e82 e83 e84 e85
         obtain ⟨y1, y2, y3⟩ := good (by omega)
         have ts := tg_s c33.1 e33
         have g1 : gc k0_W F0 F1 := g0.trans (gc_mk (W := k0_W) hb1 g (by decide)) (fun _ q => q)
         have hJ1 : jx_ok F1 := jx_ok_eq (g1.2 39 (by decide) (by decide)) (g1.2 41 (by decide) (by decide)) hJ0
         refine hd_calI (R := fun x F' => zR 23 32 1 k0_W E1 (sy_i F1 83).toInt.toNat (sy_i F1 82).toInt x F1 F') (nh := 82) (nv := 86) (s := 0) (s1 := 0) (d1 := 5 + 3 * m) (M1 := jm_M39) (As := [.inl (.ref 30), .inr (.inl 82), .inr (.inl 83)]) (rest := []) jm_ok38 rfl rfl (by omega) (by decide +kernel) (hc F1 (sy_i F1 82) (sy_i F1 83) hb1 hJ1 (by have zq := (hzA (h1eq (by omega))).2.1; omega) (by omega) (by omega) (by omega)) (fun F3 F' x hR0 p1 p2 p3 => ?_)
         have hzE := fun zz => zE_dst (hR0.2 zz) p1 (by decide) (by decide)
         have hR := hR0.1
         have hzq := hzA (h1eq (by omega))
         obtain ⟨r1, rl, r2⟩ := pR_dst hR p1
         have x86 : sy_i F3 86 = x := zz_i p3
         have k82 := nz_fi (p2 82 (by decide) (by decide))
         have k83 := nz_fi (p2 83 (by decide) (by decide))
         have k84 := nz_fi (p2 84 (by decide) (by decide))
         have k85 := nz_fi (p2 85 (by decide) (by decide))
         rw [kg_eq (g1.2 39 (by decide) (by decide)), show (sy_i F1 83).toInt.toNat = d by omega] at r2
         have e0 : eX (kg F0) (tg F0) d 0 = eX (kg F0) (tg F1) d 0 := by
           rw [ts]
           exact y2.trans (eX_b (by omega) (by omega))
         have g3 : gc k0_W F0 F3 := g1.trans r1 (fun _ q => q)
         refine k0zs_64 (by omega) F3 X1 X2 r1.1 (by omega) ?_ ?_ ?_ ?_ ?_ ?_ ?_ ?_
         all_goals
           intros
           rename_i q86 q84' qC _ _ F4 hb4 g4 d33 d34 dC b39 bC d82 d83 d84 d85 d86
           refine k0ps_lz m hm hc F0 d hJ0 hcs0 cC ha hb hd n F4 ⟨g3.trans (gc_mk (W := k0_W) hb4 g4 (by decide)) (fun _ q => q), by omega, by omega, by rw [d85, b39, d33], by omega, ?_, fun zz => ?_⟩ (by omega)
           rotate_left
           · have zx : sy_i F3 86 = 1 → zE 23 32 1 (sy_i F0 82).toInt d F1 F3 := fun z6 => by
               have z2 := hzE (x86.symm.trans z6)
               rw [show (sy_i F1 83).toInt.toNat = d by omega, show (sy_i F1 82).toInt = (sy_i F0 82).toInt by omega] at z2
               exact z2
             have d84' : (sy_i F4 84).toInt = 1 := by rw [zz]; decide
             have z86 : sy_i F3 86 = 1 := by
               rcases r2 with ⟨q1, -⟩ | ⟨q1, -⟩
               · exfalso
                 rw [x86, q1] at q86
                 first
                   | exact absurd q86 (by decide)
                   | omega
               · rw [x86, q1]
             have hzB := zx z86
             have hE3 : ¬ (kg F0 (tg F3) = 10 ∨ kg F0 (tg F3) = 15) := by
               rcases r2 with ⟨q1, -⟩ | ⟨q1, -, -, q4⟩
               · exact absurd (q1.symm.trans (x86.symm.trans z86)) (by decide)
               · exact q4
             have hcs3 := hzB.2.1
             have hcsA := hzq.2.1
             have et3 : (tg F3 : Int) ≤ 400 := by have := nz_bx r1.1 (k := 33) (lo := 0) (hi := 400) rfl; unfold tg; omega
             first
               | (exfalso; omega)
               | exact zE_sg cC.1 hzq (F2 := F1) eC aC (kg_eq (g1.2 39 (by decide) (by decide))) (vg_eq (g1.2 41 (by decide) (by decide))) ts hzB dC bC (tg_eq d33) (by rcases (show kg F0 (tg F) = 8 ∨ kg F0 (tg F) = 9 by omega) with z | z <;> (rw [z]; first | decide | (exfalso; omega))) (fun W O ho => zX_s (by omega) (by omega) (by have := nz_bx r1.1 (k := 33) (lo := 0) (hi := 400) rfl; unfold tg; omega) (fun y => hE3 (Or.inl y)) (fun y => hE3 (Or.inr y)) W O ho)
           rw [d34, tg_eq d33]
           rcases r2 with ⟨q1, q2⟩ | ⟨q1, q2, q3, q4⟩
           · first
               | exact Or.inl ⟨Int32.toInt_inj.mp (by rw [z0]; exact d84), by omega, e0.trans q2⟩
               | exact absurd (by rw [x86, q1]; decide) q86
           · first
               | exact Or.inr ⟨Int32.toInt_inj.mp (by rw [show (1 : Int32).toInt = 1 by decide]; exact d84), by omega, e0.trans q2, q4⟩
               | (rw [x86, q1] at q86; exact absurd q86 (by decide)))
theorem k0s_ofz (m : Nat) (hm : m ≤ 6) (hc : k0pZ Ls xs X1 X2 m) : k0sZ Ls xs X1 X2 m := by
  intro F a b hB hJ hcs a0 a5 hb
  refine nx_T (s := 0) (by decide) F X1 X2 (as := [a, b]) (A := [.inl (.ref 30), .inr (.inl 82), .inr (.inl 83)]) jm_ok38 (by decide) rfl ?_
  obtain ⟨F0, hF0⟩ : ∃ F0, F0 = nx 82 F [a, b] := ⟨_, rfl⟩
  rw [← hF0]
  have k0 : ∀ q, q < 82 → F0 q = F q := by rw [hF0]; exact nx_lt
  have i82 : sy_i F0 82 = a := by rw [hF0]; rfl
  have i83 : sy_i F0 83 = b := by rw [hF0]; rfl
  have hB0 := hd_iveq0 hB k0
  have hJ0 : jx_ok F0 := jx_ok_eq (k0 39 (by decide)) (k0 41 (by decide)) hJ
  have hcs0 : (sy_i F0 23).toInt ≤ 12 + tg F0 := by rw [nz_fi (k0 23 (by decide)), tg_eq (nz_fi (k0 33 (by decide)))]; exact hcs
  have cC := nz_bx hB0 (k := 23) (lo := 0) (hi := 512) rfl
  refine hd_W_mono (Q := fun v G => ∃ (x : Int32) (F' : Nat → sy_d), v = some (.int x) ∧ G = sy_dh F' X1 X2 (iv_H 0) ∧ zR 23 32 2 k0_W E2 b.toInt.toNat a.toInt x F0 F') ?_ (by
    rintro v G ⟨x, F', rfl, rfl, hR⟩
    exact ⟨x, F', rfl, rfl, zR_src hR k0 (by decide) (by decide)⟩)
  clear hF0
  have j82 : (sy_i F0 82).toInt = a.toInt := by rw [i82]
  have j83 : (sy_i F0 83).toInt = b.toInt := by rw [i83]
  refine k0zs_0 (by omega) F0 X1 X2 hB0 ?_
  intro F1 hb1 g e33 e34 eC a39 aC e82 e83
  have g0 : ∀ q, q < 82 → F1 q = F0 q := fun q hq => g q hq (by simp)
  have hJ1 : jx_ok F1 := jx_ok_eq (g0 39 (by decide)) (g0 41 (by decide)) hJ0
  refine hd_calI (R := fun x F' => zR 23 32 1 k0_W E1 (sy_i F1 83).toInt.toNat (sy_i F1 82).toInt x F1 F') (nh := 82) (nv := 84) (s := 0) (s1 := 0) (d1 := 5 + 3 * m) (M1 := jm_M39) (As := [.inl (.ref 30), .inr (.inl 82), .inr (.inl 83)]) (rest := []) jm_ok38 rfl rfl (by omega) (by decide +kernel) (hc F1 (sy_i F1 82) (sy_i F1 83) hb1 hJ1 (by rw [eC, tg_eq e33]; exact hcs0) (by omega) (by omega) (by omega)) (fun F3 F' x hR0 p1 p2 p3 => ?_)
  have hzE := fun zz => zE_src (zE_dst (hR0.2 zz) p1 (by decide) (by decide)) g0 (by decide) (by decide)
  have hR := hR0.1
  obtain ⟨r1, rl, r2⟩ := pR_src (pR_dst hR p1) g0
  have x84 : sy_i F3 84 = x := zz_i p3
  have k82 := nz_fi (p2 82 (by decide) (by decide))
  have k83 := nz_fi (p2 83 (by decide) (by decide))
  rw [show (sy_i F1 83).toInt.toNat = b.toInt.toNat by omega] at r2
  refine k0zs_6 (by omega) F3 X1 X2 r1.1 ?_
  intros
  rename_i F4 hb4 g4 d33 d34 dC b39 bC d82 d83 d84 d85 d86
  rw [← show (sy_i F0 82).toInt = a.toInt by omega]
  refine k0ps_lz X1 X2 m hm hc F0 b.toInt.toNat hJ0 hcs0 cC (by omega) (by omega) (by omega) 402 F4 ⟨r1.trans (gc_mk (W := k0_W) hb4 g4 (by decide)) (fun _ q => q), by omega, by omega, by rw [d85, b39, d33], by omega, ?_, fun zz => ?_⟩ (by omega)
  rotate_left
  · have z2 := hzE (x84.symm.trans ((Int32.toInt_inj.mp d84).symm.trans zz))
    rw [show (sy_i F1 83).toInt.toNat = b.toInt.toNat by omega, show (sy_i F1 82).toInt = (sy_i F0 82).toInt by omega] at z2
    exact zE_mk (zE_12 z2) dC bC d33
  rw [d34, tg_eq d33, d86, show sy_i F4 84 = x from (Int32.toInt_inj.mp d84).trans x84]
  rcases r2 with ⟨q1, q2⟩ | ⟨q1, q2, q3, q4⟩
  · exact Or.inl ⟨q1, by omega, q2⟩
  · exact Or.inr ⟨q1, by omega, q2, q4⟩
theorem k0_allz : ∀ m : Nat, m ≤ 6 → k0sZ Ls xs X1 X2 m
  | 0, h => k0s_ofz X1 X2 0 h (k0p_ofz X1 X2 0 h (k0u_ofz X1 X2 0 h (fun m' q => absurd q (by omega))))
  | m + 1, h => k0s_ofz X1 X2 (m + 1) h (k0p_ofz X1 X2 (m + 1) h (k0u_ofz X1 X2 (m + 1) h (fun m' q => by
      have : m = m' := by omega
      rw [← this]
      exact k0_allz m (by omega))))
theorem k0_sumz (F : Nat → sy_d) (a : Int32) (hB : iv_in F iv_B0) (hJ : jx_ok F) (hcs : (sy_i F 23).toInt ≤ 12 + tg F) (a0 : 0 ≤ a.toInt) (a5 : a.toInt ≤ 5) : jm_T Ls xs 24 jm_M38 [.ref 30, .int a, .int 0] (sy_dh F X1 X2 (iv_H 0)) 0 0 (fun v G => ∃ (x : Int32) (F' : Nat → sy_d), v = some (.int x) ∧ G = sy_dh F' X1 X2 (iv_H 0) ∧ zR 23 32 2 k0_W E2 0 a.toInt x F F') := k0_allz X1 X2 6 (by decide) F a 0 hB hJ hcs a0 a5 (by decide)
end PZ0
section PZ3
variable {Ls : Nat} {xs : Nat → Int32} (X1 X2 : List jm_c)
noncomputable def k3uZ (Ls : Nat) (xs : Nat → Int32) (X1 X2 : List jm_c) (m : Nat) : Prop := ∀ (F : Nat → sy_d) (a b : Int32), iv_in F iv_B0 → jx_ok F → (sy_i F 8).toInt ≤ 12 + tg F → 0 ≤ a.toInt → a.toInt ≤ 5 → b.toInt = 6 - m → jm_T Ls xs (4 + 3 * m) jm_M40 [.ref 30, .int a, .int b] (sy_dh F X1 X2 (iv_H 3)) 0 0 (fun v G => ∃ (x : Int32) (F' : Nat → sy_d), v = some (.int x) ∧ G = sy_dh F' X1 X2 (iv_H 3) ∧ zR 8 17 0 k3_W E0 b.toInt.toNat a.toInt x F F')
noncomputable def k3pZ (Ls : Nat) (xs : Nat → Int32) (X1 X2 : List jm_c) (m : Nat) : Prop := ∀ (F : Nat → sy_d) (a b : Int32), iv_in F iv_B0 → jx_ok F → (sy_i F 8).toInt ≤ 12 + tg F → 0 ≤ a.toInt → a.toInt ≤ 5 → b.toInt = 6 - m → jm_T Ls xs (5 + 3 * m) jm_M39 [.ref 30, .int a, .int b] (sy_dh F X1 X2 (iv_H 3)) 0 0 (fun v G => ∃ (x : Int32) (F' : Nat → sy_d), v = some (.int x) ∧ G = sy_dh F' X1 X2 (iv_H 3) ∧ zR 8 17 1 k3_W E1 b.toInt.toNat a.toInt x F F')
noncomputable def k3sZ (Ls : Nat) (xs : Nat → Int32) (X1 X2 : List jm_c) (m : Nat) : Prop := ∀ (F : Nat → sy_d) (a b : Int32), iv_in F iv_B0 → jx_ok F → (sy_i F 8).toInt ≤ 12 + tg F → 0 ≤ a.toInt → a.toInt ≤ 5 → b.toInt = 6 - m → jm_T Ls xs (6 + 3 * m) jm_M38 [.ref 30, .int a, .int b] (sy_dh F X1 X2 (iv_H 3)) 0 0 (fun v G => ∃ (x : Int32) (F' : Nat → sy_d), v = some (.int x) ∧ G = sy_dh F' X1 X2 (iv_H 3) ∧ zR 8 17 2 k3_W E2 b.toInt.toNat a.toInt x F F')
theorem k3u_endz {dp : Nat} (F0 F1 F3 : Nat → sy_d) (d : Nat) (a : Int) (hd : 4 ≤ dp) (g1 : gc k3_W F0 F1) (g3 : gc k3_W F1 F3) (hlt : tg F0 < tg F1) (hle : tg F1 ≤ tg F3) (h : (sy_i F3 84 = 0 ∧ eX (kg F0) (tg F0) d 0 = .inl ((sy_i F3 34).toInt, tg F3)) ∨ (sy_i F3 84 = 1 ∧ eX (kg F0) (tg F0) d 0 = eX (kg F0) (tg F3) (d + 1) 1 ∧ tg F0 < tg F3 ∧ ¬ E2 (kg F0 (tg F3)))) (hz : sy_i F3 84 = 1 → zE 8 17 2 a (d + 1) F1 F3) (hcs : (sy_i F1 8).toInt = (sy_i F0 8).toInt) (hco : sy_ai F1 17 = sy_ai F0 17) (t1 : tg F1 = tg F0 + 1) (k6 : kg F0 (tg F0) = 6) (hd6 : d ≠ 6) (h1 : tg F0 < 400) :
    hd_W Ls xs dp jm_M40 (fun v G => ∃ (x : Int32) (F' : Nat → sy_d), v = some (.int x) ∧ G = sy_dh F' X1 X2 (iv_H 3) ∧ zR 8 17 0 k3_W E0 d a x F0 F') (137, sy_dL F3 [some (.inl (.ref 30)), none, none, none, none], sy_dS F3 [.inr (.inl 84)], sy_dh F3 X1 X2 (iv_H 3), 0, 0) := by
  have g03 : gc k3_W F0 F3 := g1.trans g3 (fun _ q => q)
  have hB3 := g03.1
  have c33 := nz_bx hB3 (k := 33) (lo := 0) (hi := 400) rfl
  have et : (tg F3 : Int) = (sy_i F3 33).toInt := by unfold tg; omega
  have eK : kg F0 (tg F3) = km ((sy_ai F3 39).getD (sy_i F3 33).toInt.toNat 0).toInt := by rw [show sy_ai F3 39 = sy_ai F0 39 from nz_fa (g03.2 39 (by decide) (by decide))]; rfl
  have m2 : kg F0 (tg F3) = 2 ↔ ((sy_ai F3 39).getD (sy_i F3 33).toInt.toNat 0).toInt = 24 := by rw [eK]; exact km_2
  have m6 : kg F0 (tg F3) = 6 ↔ ((sy_ai F3 39).getD (sy_i F3 33).toInt.toNat 0).toInt = 40 := by rw [eK]; exact km_6
  have m7 : kg F0 (tg F3) = 7 ↔ ((sy_ai F3 39).getD (sy_i F3 33).toInt.toNat 0).toInt = 41 := by rw [eK]; exact km_7
  have m8 : kg F0 (tg F3) = 8 ↔ ((sy_ai F3 39).getD (sy_i F3 33).toInt.toNat 0).toInt = 43 := by rw [eK]; exact km_8
  have m9 : kg F0 (tg F3) = 9 ↔ ((sy_ai F3 39).getD (sy_i F3 33).toInt.toNat 0).toInt = 45 := by rw [eK]; exact km_9
  have m10 : kg F0 (tg F3) = 10 ↔ ((sy_ai F3 39).getD (sy_i F3 33).toInt.toNat 0).toInt = 42 := by rw [eK]; exact km_10
  have m15 : kg F0 (tg F3) = 15 ↔ ((sy_ai F3 39).getD (sy_i F3 33).toInt.toNat 0).toInt = 47 := by rw [eK]; exact km_15
  have mv : (34 ≤ kg F0 (tg F3) ∧ kg F0 (tg F3) ≤ 42) ↔ (14 ≤ ((sy_ai F3 39).getD (sy_i F3 33).toInt.toNat 0).toInt ∧ ((sy_ai F3 39).getD (sy_i F3 33).toInt.toNat 0).toInt ≤ 22) := by rw [eK]; exact km_v
  refine k3zu_137 (by omega) F3 X1 X2 hB3 ?_ ?_ ?_ ?_
  · intro q F4 hb g e33 e34 eC a39 aC
    refine ⟨_, F4, rfl, rfl, ⟨g03.trans (gc_mk (W := k3_W) hb g (by decide)) (fun _ q => q), by rw [tg_eq e33]; omega, Or.inl ⟨rfl, ?_⟩⟩, fun zz => absurd zz (by decide)⟩
    rcases h with ⟨h1', h2⟩ | ⟨h1', -⟩
    · rw [e34, tg_eq e33]
      exact h2
    · rw [h1'] at q
      exact absurd q (by decide)
  · intro q84 _ _ _ _ F4 hb g e33 e34 eC a39 aC
    rcases h with ⟨h1', -⟩ | ⟨h1', h2, h3, h4⟩
    · rw [h1'] at q84
      exact absurd (by decide) q84
    have hE : ¬ (kg F0 (tg F3) = 8 ∨ kg F0 (tg F3) = 9 ∨ kg F0 (tg F3) = 10 ∨ kg F0 (tg F3) = 15) := h4
    refine ⟨_, F4, rfl, rfl, ⟨g03.trans (gc_mk (W := k3_W) hb g (by decide)) (fun _ q => q), by first | (rw [tg_eq e33]; omega) | (rw [tg_s c33.1 e33]; omega), ?_⟩, fun zz => ?_⟩
    rotate_left
    · first
      | exact absurd zz (by decide)
      | exact zE_br hcs hco (kg_eq (g1.2 39 (by decide) (by decide))) (vg_eq (g1.2 41 (by decide) (by decide))) t1 (hz h1') eC aC (tg_s c33.1 e33) k6 (by omega) hd6 h1 (by omega)
    first
      | exact Or.inr ⟨rfl, by rw [tg_s c33.1 e33]; exact h2.trans (eX_c (by omega) (by omega) (by omega)), by rw [tg_s c33.1 e33]; omega, id⟩
      | exact Or.inl ⟨rfl, by rw [e34, tg_eq e33]; exact h2.trans (eX_c4 (by omega) (by omega) (by omega))⟩
      | exact Or.inl ⟨rfl, by rw [e34, tg_eq e33]; exact h2.trans (eX_e1 (by omega) (by omega) hE (by omega))⟩
  · intro q84 _ _ _ _ F4 hb g e33 e34 eC a39 aC
    rcases h with ⟨h1', -⟩ | ⟨h1', h2, h3, h4⟩
    · rw [h1'] at q84
      exact absurd (by decide) q84
    have hE : ¬ (kg F0 (tg F3) = 8 ∨ kg F0 (tg F3) = 9 ∨ kg F0 (tg F3) = 10 ∨ kg F0 (tg F3) = 15) := h4
    refine ⟨_, F4, rfl, rfl, ⟨g03.trans (gc_mk (W := k3_W) hb g (by decide)) (fun _ q => q), by first | (rw [tg_eq e33]; omega) | (rw [tg_s c33.1 e33]; omega), ?_⟩, fun zz => ?_⟩
    rotate_left
    · first
      | exact absurd zz (by decide)
      | exact zE_br hcs hco (kg_eq (g1.2 39 (by decide) (by decide))) (vg_eq (g1.2 41 (by decide) (by decide))) t1 (hz h1') eC aC (tg_s c33.1 e33) k6 (by omega) hd6 h1 (by omega)
    first
      | exact Or.inr ⟨rfl, by rw [tg_s c33.1 e33]; exact h2.trans (eX_c (by omega) (by omega) (by omega)), by rw [tg_s c33.1 e33]; omega, id⟩
      | exact Or.inl ⟨rfl, by rw [e34, tg_eq e33]; exact h2.trans (eX_c4 (by omega) (by omega) (by omega))⟩
      | exact Or.inl ⟨rfl, by rw [e34, tg_eq e33]; exact h2.trans (eX_e1 (by omega) (by omega) hE (by omega))⟩
  · intro q84 _ _ _ F4 hb g e33 e34 eC a39 aC
    rcases h with ⟨h1', -⟩ | ⟨h1', h2, h3, h4⟩
    · rw [h1'] at q84
      exact absurd (by decide) q84
    have hE : ¬ (kg F0 (tg F3) = 8 ∨ kg F0 (tg F3) = 9 ∨ kg F0 (tg F3) = 10 ∨ kg F0 (tg F3) = 15) := h4
    refine ⟨_, F4, rfl, rfl, ⟨g03.trans (gc_mk (W := k3_W) hb g (by decide)) (fun _ q => q), by first | (rw [tg_eq e33]; omega) | (rw [tg_s c33.1 e33]; omega), ?_⟩, fun zz => ?_⟩
    rotate_left
    · first
      | exact absurd zz (by decide)
      | exact zE_br hcs hco (kg_eq (g1.2 39 (by decide) (by decide))) (vg_eq (g1.2 41 (by decide) (by decide))) t1 (hz h1') eC aC (tg_s c33.1 e33) k6 (by omega) hd6 h1 (by omega)
    first
      | exact Or.inr ⟨rfl, by rw [tg_s c33.1 e33]; exact h2.trans (eX_c (by omega) (by omega) (by omega)), by rw [tg_s c33.1 e33]; omega, id⟩
      | exact Or.inl ⟨rfl, by rw [e34, tg_eq e33]; exact h2.trans (eX_c4 (by omega) (by omega) (by omega))⟩
      | exact Or.inl ⟨rfl, by rw [e34, tg_eq e33]; exact h2.trans (eX_e1 (by omega) (by omega) hE (by omega))⟩
theorem k3u_ofz (m : Nat) (hm : m ≤ 6) (ih : ∀ m', m = m' + 1 → k3sZ Ls xs X1 X2 m') : k3uZ Ls xs X1 X2 m := by
  intro F a b hB hJ hcs a0 a5 hb
  refine nx_T (s := 3) (by decide) F X1 X2 (as := [a, b]) (A := [.inl (.ref 30), .inr (.inl 82), .inr (.inl 83)]) jm_ok40 (by decide) rfl ?_
  obtain ⟨F0, hF0⟩ : ∃ F0, F0 = nx 82 F [a, b] := ⟨_, rfl⟩
  rw [← hF0]
  have k0 : ∀ q, q < 82 → F0 q = F q := by rw [hF0]; exact nx_lt
  have i82 : sy_i F0 82 = a := by rw [hF0]; rfl
  have i83 : sy_i F0 83 = b := by rw [hF0]; rfl
  have hB0 := hd_iveq0 hB k0
  have hJ0 : jx_ok F0 := jx_ok_eq (k0 39 (by decide)) (k0 41 (by decide)) hJ
  have hcs0 : (sy_i F0 8).toInt ≤ 12 + tg F0 := by rw [nz_fi (k0 8 (by decide)), tg_eq (nz_fi (k0 33 (by decide)))]; exact hcs
  have cC := nz_bx hB0 (k := 8) (lo := 0) (hi := 512) rfl
  refine hd_W_mono (Q := fun v G => ∃ (x : Int32) (F' : Nat → sy_d), v = some (.int x) ∧ G = sy_dh F' X1 X2 (iv_H 3) ∧ zR 8 17 0 k3_W E0 b.toInt.toNat a.toInt x F0 F') ?_ (by
    rintro v G ⟨x, F', rfl, rfl, hR⟩
    exact ⟨x, F', rfl, rfl, zR_src hR k0 (by decide) (by decide)⟩)
  clear hF0
  have j82 : (sy_i F0 82).toInt = a.toInt := by rw [i82]
  have j83 : (sy_i F0 83).toInt = b.toInt := by rw [i83]
  have c33 := nz_bx hB0 (k := 33) (lo := 0) (hi := 400) rfl
  have et : (tg F0 : Int) = (sy_i F0 33).toInt := by unfold tg; omega
  have eK : kg F0 (tg F0) = km ((sy_ai F0 39).getD (sy_i F0 33).toInt.toNat 0).toInt := rfl
  have m2 : kg F0 (tg F0) = 2 ↔ ((sy_ai F0 39).getD (sy_i F0 33).toInt.toNat 0).toInt = 24 := by rw [eK]; exact km_2
  have m6 : kg F0 (tg F0) = 6 ↔ ((sy_ai F0 39).getD (sy_i F0 33).toInt.toNat 0).toInt = 40 := by rw [eK]; exact km_6
  have m7 : kg F0 (tg F0) = 7 ↔ ((sy_ai F0 39).getD (sy_i F0 33).toInt.toNat 0).toInt = 41 := by rw [eK]; exact km_7
  have m8 : kg F0 (tg F0) = 8 ↔ ((sy_ai F0 39).getD (sy_i F0 33).toInt.toNat 0).toInt = 43 := by rw [eK]; exact km_8
  have m9 : kg F0 (tg F0) = 9 ↔ ((sy_ai F0 39).getD (sy_i F0 33).toInt.toNat 0).toInt = 45 := by rw [eK]; exact km_9
  have m10 : kg F0 (tg F0) = 10 ↔ ((sy_ai F0 39).getD (sy_i F0 33).toInt.toNat 0).toInt = 42 := by rw [eK]; exact km_10
  have m15 : kg F0 (tg F0) = 15 ↔ ((sy_ai F0 39).getD (sy_i F0 33).toInt.toNat 0).toInt = 47 := by rw [eK]; exact km_15
  have mv : (34 ≤ kg F0 (tg F0) ∧ kg F0 (tg F0) ≤ 42) ↔ (14 ≤ ((sy_ai F0 39).getD (sy_i F0 33).toInt.toNat 0).toInt ∧ ((sy_ai F0 39).getD (sy_i F0 33).toInt.toNat 0).toInt ≤ 22) := by rw [eK]; exact km_v
  have hJ1 : ((sy_ai F0 39).getD (sy_i F0 33).toInt.toNat 0).toInt = 24 → 0 ≤ (((sy_al F0 41).getD (sy_i F0 33).toInt.toNat 0).toInt32).toInt ∧ (((sy_al F0 41).getD (sy_i F0 33).toInt.toNat 0).toInt32).toInt ≤ 9999 := fun h => jx_i32 hJ0 h
  have em : ∀ (F1 : Nat → sy_d) (o : rO), (∀ q, q < 82 → F1 q = F0 q) → (sy_i F1 83).toInt = cell a.toInt o → (∀ (W : List Int) (O : List rO), tg F0 < 400 → cX (kg F0) (vg F0) (tg F0) W 0 O = cX (kg F0) (vg F0) (tg F0 + 1) W 1 (O ++ [o])) → gc k3_W F0 F1 → (sy_i F1 33).toInt = (sy_i F0 33).toInt → (sy_i F1 82).toInt = ((sy_ai F0 39).getD (sy_i F0 33).toInt.toNat 0).toInt → -100 ≤ (sy_i F1 83).toInt → (sy_i F1 83).toInt ≤ 9999 → (kg F0 (tg F0) = 2 ∨ (34 ≤ kg F0 (tg F0) ∧ kg F0 (tg F0) ≤ 42)) → ∀ pc, (pc = 34 ∨ pc = 88) → hd_W Ls xs (4 + 3 * m) jm_M40 (fun v G => ∃ (x : Int32) (F' : Nat → sy_d), v = some (.int x) ∧ G = sy_dh F' X1 X2 (iv_H 3) ∧ zR 8 17 0 k3_W E0 b.toInt.toNat a.toInt x F0 F') (pc, sy_dL F1 [some (.inl (.ref 30)), none, none, some (.inr (.inl 82)), none], sy_dS F1 [.inr (.inl 83), .inl (.ref 10)], sy_dh F1 X1 X2 (iv_H 3), 0, 0) := by
    intro F1 o g1a hcell hXo g1 f33 f82 v0 v1 hk pc hpc
    have fC := nz_fi (g1a 8 (by decide))
    have fO := nz_fa (g1a 17 (by decide))
    have x39 : sy_ai F1 39 = sy_ai F0 39 := nz_fa (g1.2 39 (by decide) (by decide))
    have c82 : ((sy_ai F1 39).getD (sy_i F1 33).toInt.toNat 0).toInt = (sy_i F1 82).toInt := by rw [x39, f33, f82]
    have e0 : tg F1 = tg F0 := tg_eq f33
    clear m2 m6 m7 m8 m9 m10 m15 mv eK
    rcases hpc with rfl | rfl
    · refine k3zu_34 (by omega) F1 X1 X2 g1.1 (by omega) ?_ ?_ ?_ ?_ ?_ ?_
      all_goals intros
      all_goals first
        | (exfalso; omega)
        | (rename_i F2 hb2 g e33 e34 eC a39 aC
           exact ⟨_, F2, rfl, rfl, ⟨g1.trans (gc_mk (W := k3_W) hb2 g (by decide)) (fun _ q => q), by rw [tg_eq e33]; omega, Or.inl ⟨rfl, by rw [e34, tg_eq e33, e0]; exact eX_u4 (by omega) hk⟩⟩, fun zz => absurd zz (by decide)⟩)
        | (rename_i F2 hb2 g e33 e34 eC a39 aC
           have ts := tg_s (by omega) e33
           exact ⟨_, F2, rfl, rfl, ⟨g1.trans (gc_mk (W := k3_W) hb2 g (by decide)) (fun _ q => q), by omega, Or.inr ⟨rfl, by rw [ts, e0]; exact eX_u (by omega) hk, by omega, id⟩⟩, fun _ => zE_cell (by omega) (by rw [eC, fC]) (by rw [aC, fO, fC]) (by omega) hcell (fun W O => hXo W O (by omega))⟩)
    · refine k3zu_88 (by omega) F1 X1 X2 g1.1 (by omega) ?_ ?_ ?_ ?_ ?_ ?_
      all_goals intros
      all_goals first
        | (exfalso; omega)
        | (rename_i F2 hb2 g e33 e34 eC a39 aC
           exact ⟨_, F2, rfl, rfl, ⟨g1.trans (gc_mk (W := k3_W) hb2 g (by decide)) (fun _ q => q), by rw [tg_eq e33]; omega, Or.inl ⟨rfl, by rw [e34, tg_eq e33, e0]; exact eX_u4 (by omega) hk⟩⟩, fun zz => absurd zz (by decide)⟩)
        | (rename_i F2 hb2 g e33 e34 eC a39 aC
           have ts := tg_s (by omega) e33
           exact ⟨_, F2, rfl, rfl, ⟨g1.trans (gc_mk (W := k3_W) hb2 g (by decide)) (fun _ q => q), by omega, Or.inr ⟨rfl, by rw [ts, e0]; exact eX_u (by omega) hk, by omega, id⟩⟩, fun _ => zE_cell (by omega) (by rw [eC, fC]) (by rw [aC, fO, fC]) (by omega) hcell (fun W O => hXo W O (by omega))⟩)
  refine k3zu_0 (by omega) F0 X1 X2 hB0 (by omega) (by omega) ?_ ?_ ?_ ?_ ?_ ?_ ?_ ?_
  all_goals intros
  all_goals first
    | (exfalso; clear em hJ1; omega)
    | (rename_i F1 hb1 g e33 e34 eC a39 aC
       clear em hJ1
       exact ⟨_, F1, rfl, rfl, ⟨gc_mk hb1 g (by decide), by rw [tg_eq e33]; omega, Or.inl ⟨rfl, by rw [e34, tg_eq e33]; exact eX_u1 (by omega) (by omega) (by omega) (by omega)⟩⟩, fun zz => absurd zz (by decide)⟩)
    | (rename_i F1 hb1 g e33 e34 eC a39 aC
       clear em hJ1
       exact ⟨_, F1, rfl, rfl, ⟨gc_mk hb1 g (by decide), by rw [tg_eq e33]; omega, Or.inl ⟨rfl, by rw [e34, tg_eq e33]; exact eX_o6 (by omega) (by omega) (by omega)⟩⟩, fun zz => absurd zz (by decide)⟩)
    | (rename_i F1 hb1 g e33 e34 eC a39 aC e82 e83
       have hv := hJ1 (by omega)
       exact em F1 (0, vg F0 (tg F0)) (fun q hq => g q hq (by simp)) (by rw [e83]; rfl) (fun W O h4 => cX_i h4 (by omega)) (gc_mk hb1 g (by decide)) e33 e82 (by omega) (by omega) (by omega) 34 (Or.inl rfl))
    | (rename_i qv1 qv2 qv3 F1 hb1 g e33 e34 eC a39 aC e82 e83
       exact em F1 (1, kg F0 (tg F0) - 34) (fun q hq => g q hq (by simp)) (by rw [e83]; first | exact tv_cell1 (by omega) (by omega) qv1 qv2 (by rw [eK, km_r (by omega) (by omega)]) (by rw [← j82]; exact qv3) | exact tv_cell0 (by omega) (by omega) qv1 qv2 (by rw [eK, km_r (by omega) (by omega)]) (by rw [← j82]; exact qv3)) (fun W O h4 => cX_v h4 (by omega)) (gc_mk hb1 g (by decide)) e33 e82 (by omega) (by omega) (by omega) 88 (Or.inr rfl))
    | (rename_i F1 hb1 g e33 e34 eC a39 aC e82 e83
       clear em hJ1
       have ts := tg_s c33.1 e33
       obtain ⟨m', rfl⟩ : ∃ m', m = m' + 1 := ⟨m - 1, by omega⟩
       have hJ1 : jx_ok F1 := jx_ok_eq (g 39 (by decide) (by decide)) (g 41 (by decide) (by decide)) hJ0
       refine hd_calI (R := fun x F' => zR 8 17 2 k3_W E2 (sy_i F1 82).toInt.toNat (sy_i F1 83).toInt x F1 F') (nh := 82) (nv := 84) (s := 3) (s1 := 3) (d1 := 6 + 3 * m') (M1 := jm_M38) (As := [.inl (.ref 30), .inr (.inl 83), .inr (.inl 82)]) (rest := []) jm_ok40 rfl rfl (by omega) (by decide +kernel) (ih m' rfl F1 (sy_i F1 83) (sy_i F1 82) hb1 hJ1 (by omega) (by omega) (by omega) (by omega)) (fun F3 F' x hR0 p1 p2 p3 => ?_)
       have hzE := fun zz => zE_dst (hR0.2 zz) p1 (by decide) (by decide)
       have hR := hR0.1
       obtain ⟨r1, rl, r2⟩ := pR_dst hR p1
       have i84 : sy_i F3 84 = x := zz_i p3
       have e0 : eX (kg F0) (tg F0) b.toInt.toNat 0 = eX (kg F0) (tg F1) (sy_i F1 82).toInt.toNat 0 := by
         rw [ts, show (sy_i F1 82).toInt.toNat = b.toInt.toNat + 1 by omega]
         exact eX_o (by omega) (by omega) (by omega)
       rw [kg_eq (g 39 (by decide) (by decide))] at r2
       refine k3u_endz X1 X2 F0 F1 F3 b.toInt.toNat a.toInt (by omega) (gc_mk hb1 g (by decide)) r1 (by omega) (by omega) ?_ (fun zz => by have z2 := hzE (i84.symm.trans zz); rw [show (sy_i F1 82).toInt.toNat = b.toInt.toNat + 1 by omega, show (sy_i F1 83).toInt = a.toInt by omega] at z2; exact z2) eC aC ts (by omega) (by omega) (by omega)
       rw [i84]
       rcases r2 with ⟨q1, q2⟩ | ⟨q1, q2, q3, q4⟩
       · exact Or.inl ⟨q1, e0.trans q2⟩
       · exact Or.inr ⟨q1, by rw [show b.toInt.toNat + 1 = (sy_i F1 82).toInt.toNat by omega]; exact e0.trans q2, by omega, q4⟩)
/-- at the loop's head -/
noncomputable def k3ppJ (F0 F : Nat → sy_d) (d : Nat) : Prop := gc k3_W F0 F ∧ (sy_i F 82).toInt = (sy_i F0 82).toInt ∧ (sy_i F 83).toInt = (sy_i F0 83).toInt ∧ (sy_i F 85).toInt = ((sy_ai F 39).getD (sy_i F 33).toInt.toNat 0).toInt ∧ 0 ≤ (sy_i F 86).toInt ∧ ((sy_i F 84 = 0 ∧ (sy_i F 86).toInt + tg F0 ≤ tg F ∧ eX (kg F0) (tg F0) d 0 = .inl ((sy_i F 34).toInt, tg F)) ∨ (sy_i F 84 = 1 ∧ (sy_i F 86).toInt + 1 + tg F0 ≤ tg F ∧ eX (kg F0) (tg F0) d 0 = eX (kg F0) (tg F) d 1 ∧ ¬ E0 (kg F0 (tg F)))) ∧ (sy_i F 84 = 1 → zE 8 17 1 (sy_i F0 82).toInt d F0 F)
theorem k3pp_lz (m : Nat) (hm : m ≤ 6) (hc : k3uZ Ls xs X1 X2 m) (F0 : Nat → sy_d) (d : Nat) (hJ0 : jx_ok F0) (hcs0 : (sy_i F0 8).toInt ≤ 12 + tg F0) (cC : 0 ≤ (sy_i F0 8).toInt ∧ (sy_i F0 8).toInt ≤ 512) (ha : 0 ≤ (sy_i F0 82).toInt ∧ (sy_i F0 82).toInt ≤ 5) (hb : (sy_i F0 83).toInt = 6 - m) (hd : (d : Int) = 6 - m) : ∀ (n : Nat) (F : Nat → sy_d), k3ppJ F0 F d → 401 - (sy_i F 86).toInt < n →
    hd_W Ls xs (5 + 3 * m) jm_M39 (fun v G => ∃ (x : Int32) (F' : Nat → sy_d), v = some (.int x) ∧ G = sy_dh F' X1 X2 (iv_H 3) ∧ zR 8 17 1 k3_W E1 d (sy_i F0 82).toInt x F0 F') (23, sy_dL F [some (.inl (.ref 30)), some (.inr (.inl 82)), some (.inr (.inl 83)), some (.inr (.inl 84)), some (.inr (.inl 85)), some (.inr (.inl 86))], sy_dS F [], sy_dh F X1 X2 (iv_H 3), 0, 0)
  | 0, F, h, h3 => by
    obtain ⟨g0, -, -, -, h86, h, -⟩ := h
    have c33 := nz_bx g0.1 (k := 33) (lo := 0) (hi := 400) rfl
    have et : (tg F : Int) = (sy_i F 33).toInt := by unfold tg; omega
    rcases h with ⟨-, h, -⟩ | ⟨-, h, -⟩ <;> omega
  | n + 1, F, h, h3 => by
    obtain ⟨g0, i82, i83, i85, h86, h, hzA⟩ := h
    have hB := g0.1
    have c33 := nz_bx hB (k := 33) (lo := 0) (hi := 400) rfl
    have et : (tg F : Int) = (sy_i F 33).toInt := by unfold tg; omega
    have eK : kg F0 (tg F) = km ((sy_ai F 39).getD (sy_i F 33).toInt.toNat 0).toInt := by rw [show sy_ai F 39 = sy_ai F0 39 from nz_fa (g0.2 39 (by decide) (by decide))]; rfl
    have m2 : kg F0 (tg F) = 2 ↔ ((sy_ai F 39).getD (sy_i F 33).toInt.toNat 0).toInt = 24 := by rw [eK]; exact km_2
    have m6 : kg F0 (tg F) = 6 ↔ ((sy_ai F 39).getD (sy_i F 33).toInt.toNat 0).toInt = 40 := by rw [eK]; exact km_6
    have m7 : kg F0 (tg F) = 7 ↔ ((sy_ai F 39).getD (sy_i F 33).toInt.toNat 0).toInt = 41 := by rw [eK]; exact km_7
    have m8 : kg F0 (tg F) = 8 ↔ ((sy_ai F 39).getD (sy_i F 33).toInt.toNat 0).toInt = 43 := by rw [eK]; exact km_8
    have m9 : kg F0 (tg F) = 9 ↔ ((sy_ai F 39).getD (sy_i F 33).toInt.toNat 0).toInt = 45 := by rw [eK]; exact km_9
    have m10 : kg F0 (tg F) = 10 ↔ ((sy_ai F 39).getD (sy_i F 33).toInt.toNat 0).toInt = 42 := by rw [eK]; exact km_10
    have m15 : kg F0 (tg F) = 15 ↔ ((sy_ai F 39).getD (sy_i F 33).toInt.toNat 0).toInt = 47 := by rw [eK]; exact km_15
    have mv : (34 ≤ kg F0 (tg F) ∧ kg F0 (tg F) ≤ 42) ↔ (14 ≤ ((sy_ai F 39).getD (sy_i F 33).toInt.toNat 0).toInt ∧ ((sy_ai F 39).getD (sy_i F 33).toInt.toNat 0).toInt ≤ 22) := by rw [eK]; exact km_v
    have h400 : (sy_i F 86).toInt ≤ 400 := by rcases h with ⟨-, h, -⟩ | ⟨-, h, -⟩ <;> omega
    have hle : tg F0 ≤ tg F := by rcases h with ⟨-, h, -⟩ | ⟨-, h, -⟩ <;> omega
    have h84 : (sy_i F 84).toInt = 0 ∨ (sy_i F 84).toInt = 1 := by
      rcases h with ⟨h, -⟩ | ⟨h, -⟩
      · rw [h]; exact Or.inl (by decide)
      · rw [h]; exact Or.inr (by decide)
    have good : (sy_i F 84).toInt ≠ 0 → (sy_i F 86).toInt + 1 + tg F0 ≤ tg F ∧ eX (kg F0) (tg F0) d 0 = eX (kg F0) (tg F) d 1 ∧ ¬ E0 (kg F0 (tg F)) := fun q => by
      rcases h with ⟨h, -⟩ | ⟨-, h⟩
      · rw [h] at q
        exact absurd (by decide) q
      · exact h
    have z0 : (0 : Int32).toInt = 0 := by decide
    have h1eq : (sy_i F 84).toInt ≠ 0 → sy_i F 84 = 1 := fun q => Int32.toInt_inj.mp (by rw [show (1 : Int32).toInt = 1 by decide]; omega)
    refine k3zp_23 (by omega) F X1 X2 hB (by omega) (by omega) (by omega) ?_ ?_ ?_ ?_ ?_ ?_ ?_ ?_ ?_ ?_ ?_ ?_ ?_
    · intros; exfalso; omega
    · intro q1 q2 F1 hb1 g e33 e34 eC a39 aC
      refine ⟨_, F1, rfl, rfl, ⟨g0.trans (gc_mk (W := k3_W) hb1 g (by decide)) (fun _ q => q), by rw [tg_eq e33]; exact hle, ?_⟩, fun zz => by rw [zz] at q2; exact absurd q2 (by decide)⟩
      rcases h with ⟨h1, h2, h3⟩ | ⟨h1, -⟩
      · exact Or.inl ⟨h1, by rw [e34, tg_eq e33]; exact h3⟩
      · rw [h1] at q2
        exact absurd q2 (by decide)
    all_goals clear h
    all_goals intros
    all_goals first
      | (exfalso; omega)
      | (rename_i F1 hb1 g e33 e34 eC a39 aC
         obtain ⟨y1, y2, y3⟩ := good (by omega)
         refine ⟨_, F1, rfl, rfl, ⟨g0.trans (gc_mk (W := k3_W) hb1 g (by decide)) (fun _ q => q), by rw [tg_eq e33]; exact hle, Or.inr ⟨Int32.toInt_inj.mp (by rw [show (1 : Int32).toInt = 1 by decide]; omega), by rw [tg_eq e33]; exact y2, by rw [tg_eq e33]; omega, ?_⟩⟩, fun zz => zE_mk (hzA zz) eC aC e33⟩
         rw [tg_eq e33]
         intro z
         have z : kg F0 (tg F) = 10 ∨ kg F0 (tg F) = 15 := z
         omega)
      | (rename_i F1 hb1 g e33 e34 eC a39 aC e82 e83 e84 e85 e86
         obtain ⟨y1, y2, y3⟩ := good (by omega)
         refine k3pp_lz m hm hc F0 d hJ0 hcs0 cC ha hb hd n F1 ⟨g0.trans (gc_mk (W := k3_W) hb1 g (by decide)) (fun _ q => q), by omega, by omega, by rw [e85, a39, e33], by omega, Or.inl ⟨Int32.toInt_inj.mp (by rw [z0]; exact e84), by rw [tg_eq e33]; omega, ?_⟩, fun zz => by rw [zz] at e84; exact absurd e84 (by decide)⟩ (by omega)
         rw [e34, tg_eq e33]
         exact y2.trans (eX_b4 (by omega) (by omega)))
      | (rename_i F1 hb1 g e33 e34 eC a39 aC e82 e83 e84 e85
         obtain ⟨y1, y2, y3⟩ := good (by omega)
         have ts := tg_s c33.1 e33
         have g1 : gc k3_W F0 F1 := g0.trans (gc_mk (W := k3_W) hb1 g (by decide)) (fun _ q => q)
         have hJ1 : jx_ok F1 := jx_ok_eq (g1.2 39 (by decide) (by decide)) (g1.2 41 (by decide) (by decide)) hJ0
         refine hd_calI (R := fun x F' => zR 8 17 0 k3_W E0 (sy_i F1 83).toInt.toNat (sy_i F1 82).toInt x F1 F') (nh := 82) (nv := 86) (s := 3) (s1 := 3) (d1 := 4 + 3 * m) (M1 := jm_M40) (As := [.inl (.ref 30), .inr (.inl 82), .inr (.inl 83)]) (rest := []) jm_ok39 rfl rfl (by omega) (by decide +kernel) (hc F1 (sy_i F1 82) (sy_i F1 83) hb1 hJ1 (by have zq := (hzA (h1eq (by omega))).2.1; omega) (by omega) (by omega) (by omega)) (fun F3 F' x hR0 p1 p2 p3 => ?_)
         have hzE := fun zz => zE_dst (hR0.2 zz) p1 (by decide) (by decide)
         have hR := hR0.1
         have hzq := hzA (h1eq (by omega))
         obtain ⟨r1, rl, r2⟩ := pR_dst hR p1
         have x86 : sy_i F3 86 = x := zz_i p3
         have k82 := nz_fi (p2 82 (by decide) (by decide))
         have k83 := nz_fi (p2 83 (by decide) (by decide))
         have k84 := nz_fi (p2 84 (by decide) (by decide))
         have k85 := nz_fi (p2 85 (by decide) (by decide))
         rw [kg_eq (g1.2 39 (by decide) (by decide)), show (sy_i F1 83).toInt.toNat = d by omega] at r2
         have e0 : eX (kg F0) (tg F0) d 0 = eX (kg F0) (tg F1) d 0 := by
           rw [ts]
           exact y2.trans (eX_b (by omega) (by omega))
         have g3 : gc k3_W F0 F3 := g1.trans r1 (fun _ q => q)
         refine k3zp_64 (by omega) F3 X1 X2 r1.1 (by omega) ?_ ?_ ?_ ?_ ?_ ?_ ?_ ?_
         all_goals
           intros
           rename_i q86 q84' qC _ _ F4 hb4 g4 d33 d34 dC b39 bC d82 d83 d84 d85 d86
           refine k3pp_lz m hm hc F0 d hJ0 hcs0 cC ha hb hd n F4 ⟨g3.trans (gc_mk (W := k3_W) hb4 g4 (by decide)) (fun _ q => q), by omega, by omega, by rw [d85, b39, d33], by omega, ?_, fun zz => ?_⟩ (by omega)
           rotate_left
           · have zx : sy_i F3 86 = 1 → zE 8 17 0 (sy_i F0 82).toInt d F1 F3 := fun z6 => by
               have z2 := hzE (x86.symm.trans z6)
               rw [show (sy_i F1 83).toInt.toNat = d by omega, show (sy_i F1 82).toInt = (sy_i F0 82).toInt by omega] at z2
               exact z2
             have d84' : (sy_i F4 84).toInt = 1 := by rw [zz]; decide
             have z86 : sy_i F3 86 = 1 := by
               rcases r2 with ⟨q1, -⟩ | ⟨q1, -⟩
               · exfalso
                 rw [x86, q1] at q86
                 first
                   | exact absurd q86 (by decide)
                   | omega
               · rw [x86, q1]
             have hzB := zx z86
             have hcs3 := hzB.2.1
             have hcsA := hzq.2.1
             have et3 : (tg F3 : Int) ≤ 400 := by have := nz_bx r1.1 (k := 33) (lo := 0) (hi := 400) rfl; unfold tg; omega
             first
               | (exfalso; omega)
               | exact zE_sg cC.1 hzq (F2 := F1) eC aC (kg_eq (g1.2 39 (by decide) (by decide))) (vg_eq (g1.2 41 (by decide) (by decide))) ts hzB dC bC (tg_eq d33) (by rcases (show kg F0 (tg F) = 10 ∨ kg F0 (tg F) = 15 by omega) with z | z <;> (rw [z]; first | decide | (exfalso; omega))) (fun W O ho => zX_p (by omega) (by omega) (by have := nz_bx r1.1 (k := 33) (lo := 0) (hi := 400) rfl; unfold tg; omega) W O ho)
           rw [d34, tg_eq d33]
           rcases r2 with ⟨q1, q2⟩ | ⟨q1, q2, q3, q4⟩
           · first
               | exact Or.inl ⟨Int32.toInt_inj.mp (by rw [z0]; exact d84), by omega, e0.trans q2⟩
               | exact absurd (by rw [x86, q1]; decide) q86
           · first
               | exact Or.inr ⟨Int32.toInt_inj.mp (by rw [show (1 : Int32).toInt = 1 by decide]; exact d84), by omega, e0.trans q2, q4⟩
               | (rw [x86, q1] at q86; exact absurd q86 (by decide)))
theorem k3p_ofz (m : Nat) (hm : m ≤ 6) (hc : k3uZ Ls xs X1 X2 m) : k3pZ Ls xs X1 X2 m := by
  intro F a b hB hJ hcs a0 a5 hb
  refine nx_T (s := 3) (by decide) F X1 X2 (as := [a, b]) (A := [.inl (.ref 30), .inr (.inl 82), .inr (.inl 83)]) jm_ok39 (by decide) rfl ?_
  obtain ⟨F0, hF0⟩ : ∃ F0, F0 = nx 82 F [a, b] := ⟨_, rfl⟩
  rw [← hF0]
  have k0 : ∀ q, q < 82 → F0 q = F q := by rw [hF0]; exact nx_lt
  have i82 : sy_i F0 82 = a := by rw [hF0]; rfl
  have i83 : sy_i F0 83 = b := by rw [hF0]; rfl
  have hB0 := hd_iveq0 hB k0
  have hJ0 : jx_ok F0 := jx_ok_eq (k0 39 (by decide)) (k0 41 (by decide)) hJ
  have hcs0 : (sy_i F0 8).toInt ≤ 12 + tg F0 := by rw [nz_fi (k0 8 (by decide)), tg_eq (nz_fi (k0 33 (by decide)))]; exact hcs
  have cC := nz_bx hB0 (k := 8) (lo := 0) (hi := 512) rfl
  refine hd_W_mono (Q := fun v G => ∃ (x : Int32) (F' : Nat → sy_d), v = some (.int x) ∧ G = sy_dh F' X1 X2 (iv_H 3) ∧ zR 8 17 1 k3_W E1 b.toInt.toNat a.toInt x F0 F') ?_ (by
    rintro v G ⟨x, F', rfl, rfl, hR⟩
    exact ⟨x, F', rfl, rfl, zR_src hR k0 (by decide) (by decide)⟩)
  clear hF0
  have j82 : (sy_i F0 82).toInt = a.toInt := by rw [i82]
  have j83 : (sy_i F0 83).toInt = b.toInt := by rw [i83]
  refine k3zp_0 (by omega) F0 X1 X2 hB0 ?_
  intro F1 hb1 g e33 e34 eC a39 aC e82 e83
  have g0 : ∀ q, q < 82 → F1 q = F0 q := fun q hq => g q hq (by simp)
  have hJ1 : jx_ok F1 := jx_ok_eq (g0 39 (by decide)) (g0 41 (by decide)) hJ0
  refine hd_calI (R := fun x F' => zR 8 17 0 k3_W E0 (sy_i F1 83).toInt.toNat (sy_i F1 82).toInt x F1 F') (nh := 82) (nv := 84) (s := 3) (s1 := 3) (d1 := 4 + 3 * m) (M1 := jm_M40) (As := [.inl (.ref 30), .inr (.inl 82), .inr (.inl 83)]) (rest := []) jm_ok39 rfl rfl (by omega) (by decide +kernel) (hc F1 (sy_i F1 82) (sy_i F1 83) hb1 hJ1 (by rw [eC, tg_eq e33]; exact hcs0) (by omega) (by omega) (by omega)) (fun F3 F' x hR0 p1 p2 p3 => ?_)
  have hzE := fun zz => zE_src (zE_dst (hR0.2 zz) p1 (by decide) (by decide)) g0 (by decide) (by decide)
  have hR := hR0.1
  obtain ⟨r1, rl, r2⟩ := pR_src (pR_dst hR p1) g0
  have x84 : sy_i F3 84 = x := zz_i p3
  have k82 := nz_fi (p2 82 (by decide) (by decide))
  have k83 := nz_fi (p2 83 (by decide) (by decide))
  rw [show (sy_i F1 83).toInt.toNat = b.toInt.toNat by omega] at r2
  refine k3zp_6 (by omega) F3 X1 X2 r1.1 ?_
  intros
  rename_i F4 hb4 g4 d33 d34 dC b39 bC d82 d83 d84 d85 d86
  rw [← show (sy_i F0 82).toInt = a.toInt by omega]
  refine k3pp_lz X1 X2 m hm hc F0 b.toInt.toNat hJ0 hcs0 cC (by omega) (by omega) (by omega) 402 F4 ⟨r1.trans (gc_mk (W := k3_W) hb4 g4 (by decide)) (fun _ q => q), by omega, by omega, by rw [d85, b39, d33], by omega, ?_, fun zz => ?_⟩ (by omega)
  rotate_left
  · have z2 := hzE (x84.symm.trans ((Int32.toInt_inj.mp d84).symm.trans zz))
    rw [show (sy_i F1 83).toInt.toNat = b.toInt.toNat by omega, show (sy_i F1 82).toInt = (sy_i F0 82).toInt by omega] at z2
    exact zE_mk (zE_01 z2 1) dC bC d33
  rw [d34, tg_eq d33, d86, show sy_i F4 84 = x from (Int32.toInt_inj.mp d84).trans x84]
  rcases r2 with ⟨q1, q2⟩ | ⟨q1, q2, q3, q4⟩
  · exact Or.inl ⟨q1, by omega, q2⟩
  · exact Or.inr ⟨q1, by omega, q2, q4⟩
/-- at the loop's head -/
noncomputable def k3psJ (F0 F : Nat → sy_d) (d : Nat) : Prop := gc k3_W F0 F ∧ (sy_i F 82).toInt = (sy_i F0 82).toInt ∧ (sy_i F 83).toInt = (sy_i F0 83).toInt ∧ (sy_i F 85).toInt = ((sy_ai F 39).getD (sy_i F 33).toInt.toNat 0).toInt ∧ 0 ≤ (sy_i F 86).toInt ∧ ((sy_i F 84 = 0 ∧ (sy_i F 86).toInt + tg F0 ≤ tg F ∧ eX (kg F0) (tg F0) d 0 = .inl ((sy_i F 34).toInt, tg F)) ∨ (sy_i F 84 = 1 ∧ (sy_i F 86).toInt + 1 + tg F0 ≤ tg F ∧ eX (kg F0) (tg F0) d 0 = eX (kg F0) (tg F) d 1 ∧ ¬ E1 (kg F0 (tg F)))) ∧ (sy_i F 84 = 1 → zE 8 17 2 (sy_i F0 82).toInt d F0 F)
theorem k3ps_lz (m : Nat) (hm : m ≤ 6) (hc : k3pZ Ls xs X1 X2 m) (F0 : Nat → sy_d) (d : Nat) (hJ0 : jx_ok F0) (hcs0 : (sy_i F0 8).toInt ≤ 12 + tg F0) (cC : 0 ≤ (sy_i F0 8).toInt ∧ (sy_i F0 8).toInt ≤ 512) (ha : 0 ≤ (sy_i F0 82).toInt ∧ (sy_i F0 82).toInt ≤ 5) (hb : (sy_i F0 83).toInt = 6 - m) (hd : (d : Int) = 6 - m) : ∀ (n : Nat) (F : Nat → sy_d), k3psJ F0 F d → 401 - (sy_i F 86).toInt < n →
    hd_W Ls xs (6 + 3 * m) jm_M38 (fun v G => ∃ (x : Int32) (F' : Nat → sy_d), v = some (.int x) ∧ G = sy_dh F' X1 X2 (iv_H 3) ∧ zR 8 17 2 k3_W E2 d (sy_i F0 82).toInt x F0 F') (23, sy_dL F [some (.inl (.ref 30)), some (.inr (.inl 82)), some (.inr (.inl 83)), some (.inr (.inl 84)), some (.inr (.inl 85)), some (.inr (.inl 86))], sy_dS F [], sy_dh F X1 X2 (iv_H 3), 0, 0)
  | 0, F, h, h3 => by
    obtain ⟨g0, -, -, -, h86, h, -⟩ := h
    have c33 := nz_bx g0.1 (k := 33) (lo := 0) (hi := 400) rfl
    have et : (tg F : Int) = (sy_i F 33).toInt := by unfold tg; omega
    rcases h with ⟨-, h, -⟩ | ⟨-, h, -⟩ <;> omega
  | n + 1, F, h, h3 => by
    obtain ⟨g0, i82, i83, i85, h86, h, hzA⟩ := h
    have hB := g0.1
    have c33 := nz_bx hB (k := 33) (lo := 0) (hi := 400) rfl
    have et : (tg F : Int) = (sy_i F 33).toInt := by unfold tg; omega
    have eK : kg F0 (tg F) = km ((sy_ai F 39).getD (sy_i F 33).toInt.toNat 0).toInt := by rw [show sy_ai F 39 = sy_ai F0 39 from nz_fa (g0.2 39 (by decide) (by decide))]; rfl
    have m2 : kg F0 (tg F) = 2 ↔ ((sy_ai F 39).getD (sy_i F 33).toInt.toNat 0).toInt = 24 := by rw [eK]; exact km_2
    have m6 : kg F0 (tg F) = 6 ↔ ((sy_ai F 39).getD (sy_i F 33).toInt.toNat 0).toInt = 40 := by rw [eK]; exact km_6
    have m7 : kg F0 (tg F) = 7 ↔ ((sy_ai F 39).getD (sy_i F 33).toInt.toNat 0).toInt = 41 := by rw [eK]; exact km_7
    have m8 : kg F0 (tg F) = 8 ↔ ((sy_ai F 39).getD (sy_i F 33).toInt.toNat 0).toInt = 43 := by rw [eK]; exact km_8
    have m9 : kg F0 (tg F) = 9 ↔ ((sy_ai F 39).getD (sy_i F 33).toInt.toNat 0).toInt = 45 := by rw [eK]; exact km_9
    have m10 : kg F0 (tg F) = 10 ↔ ((sy_ai F 39).getD (sy_i F 33).toInt.toNat 0).toInt = 42 := by rw [eK]; exact km_10
    have m15 : kg F0 (tg F) = 15 ↔ ((sy_ai F 39).getD (sy_i F 33).toInt.toNat 0).toInt = 47 := by rw [eK]; exact km_15
    have mv : (34 ≤ kg F0 (tg F) ∧ kg F0 (tg F) ≤ 42) ↔ (14 ≤ ((sy_ai F 39).getD (sy_i F 33).toInt.toNat 0).toInt ∧ ((sy_ai F 39).getD (sy_i F 33).toInt.toNat 0).toInt ≤ 22) := by rw [eK]; exact km_v
    have h400 : (sy_i F 86).toInt ≤ 400 := by rcases h with ⟨-, h, -⟩ | ⟨-, h, -⟩ <;> omega
    have hle : tg F0 ≤ tg F := by rcases h with ⟨-, h, -⟩ | ⟨-, h, -⟩ <;> omega
    have h84 : (sy_i F 84).toInt = 0 ∨ (sy_i F 84).toInt = 1 := by
      rcases h with ⟨h, -⟩ | ⟨h, -⟩
      · rw [h]; exact Or.inl (by decide)
      · rw [h]; exact Or.inr (by decide)
    have good : (sy_i F 84).toInt ≠ 0 → (sy_i F 86).toInt + 1 + tg F0 ≤ tg F ∧ eX (kg F0) (tg F0) d 0 = eX (kg F0) (tg F) d 1 ∧ ¬ E1 (kg F0 (tg F)) := fun q => by
      rcases h with ⟨h, -⟩ | ⟨-, h⟩
      · rw [h] at q
        exact absurd (by decide) q
      · exact h
    have z0 : (0 : Int32).toInt = 0 := by decide
    have h1eq : (sy_i F 84).toInt ≠ 0 → sy_i F 84 = 1 := fun q => Int32.toInt_inj.mp (by rw [show (1 : Int32).toInt = 1 by decide]; omega)
    refine k3zs_23 (by omega) F X1 X2 hB (by omega) (by omega) (by omega) ?_ ?_ ?_ ?_ ?_ ?_ ?_ ?_ ?_ ?_ ?_ ?_ ?_
    · intros; exfalso; omega
    · intro q1 q2 F1 hb1 g e33 e34 eC a39 aC
      refine ⟨_, F1, rfl, rfl, ⟨g0.trans (gc_mk (W := k3_W) hb1 g (by decide)) (fun _ q => q), by rw [tg_eq e33]; exact hle, ?_⟩, fun zz => by rw [zz] at q2; exact absurd q2 (by decide)⟩
      rcases h with ⟨h1, h2, h3⟩ | ⟨h1, -⟩
      · exact Or.inl ⟨h1, by rw [e34, tg_eq e33]; exact h3⟩
      · rw [h1] at q2
        exact absurd q2 (by decide)
    all_goals clear h
    all_goals intros
    all_goals first
      | (exfalso; omega)
      | (rename_i F1 hb1 g e33 e34 eC a39 aC
         obtain ⟨y1, y2, y3⟩ := good (by omega)
         refine ⟨_, F1, rfl, rfl, ⟨g0.trans (gc_mk (W := k3_W) hb1 g (by decide)) (fun _ q => q), by rw [tg_eq e33]; exact hle, Or.inr ⟨Int32.toInt_inj.mp (by rw [show (1 : Int32).toInt = 1 by decide]; omega), by rw [tg_eq e33]; exact y2, by rw [tg_eq e33]; omega, ?_⟩⟩, fun zz => zE_mk (hzA zz) eC aC e33⟩
         rw [tg_eq e33]
         intro z
         have z : kg F0 (tg F) = 8 ∨ kg F0 (tg F) = 9 ∨ kg F0 (tg F) = 10 ∨ kg F0 (tg F) = 15 := z
         have y3 : ¬ (kg F0 (tg F) = 10 ∨ kg F0 (tg F) = 15) := y3
         omega)
      | (rename_i F1 hb1 g e33 e34 eC a39 aC e82 e83 e84 e85 e86
         obtain ⟨y1, y2, y3⟩ := good (by omega)
         refine k3ps_lz m hm hc F0 d hJ0 hcs0 cC ha hb hd n F1 ⟨g0.trans (gc_mk (W := k3_W) hb1 g (by decide)) (fun _ q => q), by omega, by omega, by rw [e85, a39, e33], by omega, Or.inl ⟨Int32.toInt_inj.mp (by rw [z0]; exact e84), by rw [tg_eq e33]; omega, ?_⟩, fun zz => by rw [zz] at e84; exact absurd e84 (by decide)⟩ (by omega)
         rw [e34, tg_eq e33]
         exact y2.trans (eX_b4 (by omega) (by omega)))
      | (rename_i F1 hb1 g e33 e34 eC a39 aC e82 e83 e84 e85
         obtain ⟨y1, y2, y3⟩ := good (by omega)
         have ts := tg_s c33.1 e33
         have g1 : gc k3_W F0 F1 := g0.trans (gc_mk (W := k3_W) hb1 g (by decide)) (fun _ q => q)
         have hJ1 : jx_ok F1 := jx_ok_eq (g1.2 39 (by decide) (by decide)) (g1.2 41 (by decide) (by decide)) hJ0
         refine hd_calI (R := fun x F' => zR 8 17 1 k3_W E1 (sy_i F1 83).toInt.toNat (sy_i F1 82).toInt x F1 F') (nh := 82) (nv := 86) (s := 3) (s1 := 3) (d1 := 5 + 3 * m) (M1 := jm_M39) (As := [.inl (.ref 30), .inr (.inl 82), .inr (.inl 83)]) (rest := []) jm_ok38 rfl rfl (by omega) (by decide +kernel) (hc F1 (sy_i F1 82) (sy_i F1 83) hb1 hJ1 (by have zq := (hzA (h1eq (by omega))).2.1; omega) (by omega) (by omega) (by omega)) (fun F3 F' x hR0 p1 p2 p3 => ?_)
         have hzE := fun zz => zE_dst (hR0.2 zz) p1 (by decide) (by decide)
         have hR := hR0.1
         have hzq := hzA (h1eq (by omega))
         obtain ⟨r1, rl, r2⟩ := pR_dst hR p1
         have x86 : sy_i F3 86 = x := zz_i p3
         have k82 := nz_fi (p2 82 (by decide) (by decide))
         have k83 := nz_fi (p2 83 (by decide) (by decide))
         have k84 := nz_fi (p2 84 (by decide) (by decide))
         have k85 := nz_fi (p2 85 (by decide) (by decide))
         rw [kg_eq (g1.2 39 (by decide) (by decide)), show (sy_i F1 83).toInt.toNat = d by omega] at r2
         have e0 : eX (kg F0) (tg F0) d 0 = eX (kg F0) (tg F1) d 0 := by
           rw [ts]
           exact y2.trans (eX_b (by omega) (by omega))
         have g3 : gc k3_W F0 F3 := g1.trans r1 (fun _ q => q)
         refine k3zs_64 (by omega) F3 X1 X2 r1.1 (by omega) ?_ ?_ ?_ ?_ ?_ ?_ ?_ ?_
         all_goals
           intros
           rename_i q86 q84' qC _ _ F4 hb4 g4 d33 d34 dC b39 bC d82 d83 d84 d85 d86
           refine k3ps_lz m hm hc F0 d hJ0 hcs0 cC ha hb hd n F4 ⟨g3.trans (gc_mk (W := k3_W) hb4 g4 (by decide)) (fun _ q => q), by omega, by omega, by rw [d85, b39, d33], by omega, ?_, fun zz => ?_⟩ (by omega)
           rotate_left
           · have zx : sy_i F3 86 = 1 → zE 8 17 1 (sy_i F0 82).toInt d F1 F3 := fun z6 => by
               have z2 := hzE (x86.symm.trans z6)
               rw [show (sy_i F1 83).toInt.toNat = d by omega, show (sy_i F1 82).toInt = (sy_i F0 82).toInt by omega] at z2
               exact z2
             have d84' : (sy_i F4 84).toInt = 1 := by rw [zz]; decide
             have z86 : sy_i F3 86 = 1 := by
               rcases r2 with ⟨q1, -⟩ | ⟨q1, -⟩
               · exfalso
                 rw [x86, q1] at q86
                 first
                   | exact absurd q86 (by decide)
                   | omega
               · rw [x86, q1]
             have hzB := zx z86
             have hE3 : ¬ (kg F0 (tg F3) = 10 ∨ kg F0 (tg F3) = 15) := by
               rcases r2 with ⟨q1, -⟩ | ⟨q1, -, -, q4⟩
               · exact absurd (q1.symm.trans (x86.symm.trans z86)) (by decide)
               · exact q4
             have hcs3 := hzB.2.1
             have hcsA := hzq.2.1
             have et3 : (tg F3 : Int) ≤ 400 := by have := nz_bx r1.1 (k := 33) (lo := 0) (hi := 400) rfl; unfold tg; omega
             first
               | (exfalso; omega)
               | exact zE_sg cC.1 hzq (F2 := F1) eC aC (kg_eq (g1.2 39 (by decide) (by decide))) (vg_eq (g1.2 41 (by decide) (by decide))) ts hzB dC bC (tg_eq d33) (by rcases (show kg F0 (tg F) = 8 ∨ kg F0 (tg F) = 9 by omega) with z | z <;> (rw [z]; first | decide | (exfalso; omega))) (fun W O ho => zX_s (by omega) (by omega) (by have := nz_bx r1.1 (k := 33) (lo := 0) (hi := 400) rfl; unfold tg; omega) (fun y => hE3 (Or.inl y)) (fun y => hE3 (Or.inr y)) W O ho)
           rw [d34, tg_eq d33]
           rcases r2 with ⟨q1, q2⟩ | ⟨q1, q2, q3, q4⟩
           · first
               | exact Or.inl ⟨Int32.toInt_inj.mp (by rw [z0]; exact d84), by omega, e0.trans q2⟩
               | exact absurd (by rw [x86, q1]; decide) q86
           · first
               | exact Or.inr ⟨Int32.toInt_inj.mp (by rw [show (1 : Int32).toInt = 1 by decide]; exact d84), by omega, e0.trans q2, q4⟩
               | (rw [x86, q1] at q86; exact absurd q86 (by decide)))
theorem k3s_ofz (m : Nat) (hm : m ≤ 6) (hc : k3pZ Ls xs X1 X2 m) : k3sZ Ls xs X1 X2 m := by
  intro F a b hB hJ hcs a0 a5 hb
  refine nx_T (s := 3) (by decide) F X1 X2 (as := [a, b]) (A := [.inl (.ref 30), .inr (.inl 82), .inr (.inl 83)]) jm_ok38 (by decide) rfl ?_
  obtain ⟨F0, hF0⟩ : ∃ F0, F0 = nx 82 F [a, b] := ⟨_, rfl⟩
  rw [← hF0]
  have k0 : ∀ q, q < 82 → F0 q = F q := by rw [hF0]; exact nx_lt
  have i82 : sy_i F0 82 = a := by rw [hF0]; rfl
  have i83 : sy_i F0 83 = b := by rw [hF0]; rfl
  have hB0 := hd_iveq0 hB k0
  have hJ0 : jx_ok F0 := jx_ok_eq (k0 39 (by decide)) (k0 41 (by decide)) hJ
  have hcs0 : (sy_i F0 8).toInt ≤ 12 + tg F0 := by rw [nz_fi (k0 8 (by decide)), tg_eq (nz_fi (k0 33 (by decide)))]; exact hcs
  have cC := nz_bx hB0 (k := 8) (lo := 0) (hi := 512) rfl
  refine hd_W_mono (Q := fun v G => ∃ (x : Int32) (F' : Nat → sy_d), v = some (.int x) ∧ G = sy_dh F' X1 X2 (iv_H 3) ∧ zR 8 17 2 k3_W E2 b.toInt.toNat a.toInt x F0 F') ?_ (by
    rintro v G ⟨x, F', rfl, rfl, hR⟩
    exact ⟨x, F', rfl, rfl, zR_src hR k0 (by decide) (by decide)⟩)
  clear hF0
  have j82 : (sy_i F0 82).toInt = a.toInt := by rw [i82]
  have j83 : (sy_i F0 83).toInt = b.toInt := by rw [i83]
  refine k3zs_0 (by omega) F0 X1 X2 hB0 ?_
  intro F1 hb1 g e33 e34 eC a39 aC e82 e83
  have g0 : ∀ q, q < 82 → F1 q = F0 q := fun q hq => g q hq (by simp)
  have hJ1 : jx_ok F1 := jx_ok_eq (g0 39 (by decide)) (g0 41 (by decide)) hJ0
  refine hd_calI (R := fun x F' => zR 8 17 1 k3_W E1 (sy_i F1 83).toInt.toNat (sy_i F1 82).toInt x F1 F') (nh := 82) (nv := 84) (s := 3) (s1 := 3) (d1 := 5 + 3 * m) (M1 := jm_M39) (As := [.inl (.ref 30), .inr (.inl 82), .inr (.inl 83)]) (rest := []) jm_ok38 rfl rfl (by omega) (by decide +kernel) (hc F1 (sy_i F1 82) (sy_i F1 83) hb1 hJ1 (by rw [eC, tg_eq e33]; exact hcs0) (by omega) (by omega) (by omega)) (fun F3 F' x hR0 p1 p2 p3 => ?_)
  have hzE := fun zz => zE_src (zE_dst (hR0.2 zz) p1 (by decide) (by decide)) g0 (by decide) (by decide)
  have hR := hR0.1
  obtain ⟨r1, rl, r2⟩ := pR_src (pR_dst hR p1) g0
  have x84 : sy_i F3 84 = x := zz_i p3
  have k82 := nz_fi (p2 82 (by decide) (by decide))
  have k83 := nz_fi (p2 83 (by decide) (by decide))
  rw [show (sy_i F1 83).toInt.toNat = b.toInt.toNat by omega] at r2
  refine k3zs_6 (by omega) F3 X1 X2 r1.1 ?_
  intros
  rename_i F4 hb4 g4 d33 d34 dC b39 bC d82 d83 d84 d85 d86
  rw [← show (sy_i F0 82).toInt = a.toInt by omega]
  refine k3ps_lz X1 X2 m hm hc F0 b.toInt.toNat hJ0 hcs0 cC (by omega) (by omega) (by omega) 402 F4 ⟨r1.trans (gc_mk (W := k3_W) hb4 g4 (by decide)) (fun _ q => q), by omega, by omega, by rw [d85, b39, d33], by omega, ?_, fun zz => ?_⟩ (by omega)
  rotate_left
  · have z2 := hzE (x84.symm.trans ((Int32.toInt_inj.mp d84).symm.trans zz))
    rw [show (sy_i F1 83).toInt.toNat = b.toInt.toNat by omega, show (sy_i F1 82).toInt = (sy_i F0 82).toInt by omega] at z2
    exact zE_mk (zE_12 z2) dC bC d33
  rw [d34, tg_eq d33, d86, show sy_i F4 84 = x from (Int32.toInt_inj.mp d84).trans x84]
  rcases r2 with ⟨q1, q2⟩ | ⟨q1, q2, q3, q4⟩
  · exact Or.inl ⟨q1, by omega, q2⟩
  · exact Or.inr ⟨q1, by omega, q2, q4⟩
theorem k3_allz : ∀ m : Nat, m ≤ 6 → k3sZ Ls xs X1 X2 m
  | 0, h => k3s_ofz X1 X2 0 h (k3p_ofz X1 X2 0 h (k3u_ofz X1 X2 0 h (fun m' q => absurd q (by omega))))
  | m + 1, h => k3s_ofz X1 X2 (m + 1) h (k3p_ofz X1 X2 (m + 1) h (k3u_ofz X1 X2 (m + 1) h (fun m' q => by
      have : m = m' := by omega
      rw [← this]
      exact k3_allz m (by omega))))
theorem k3_sumz (F : Nat → sy_d) (a : Int32) (hB : iv_in F iv_B0) (hJ : jx_ok F) (hcs : (sy_i F 8).toInt ≤ 12 + tg F) (a0 : 0 ≤ a.toInt) (a5 : a.toInt ≤ 5) : jm_T Ls xs 24 jm_M38 [.ref 30, .int a, .int 0] (sy_dh F X1 X2 (iv_H 3)) 0 0 (fun v G => ∃ (x : Int32) (F' : Nat → sy_d), v = some (.int x) ∧ G = sy_dh F' X1 X2 (iv_H 3) ∧ zR 8 17 2 k3_W E2 0 a.toInt x F F') := k3_allz X1 X2 6 (by decide) F a 0 hB hJ hcs a0 a5 (by decide)
end PZ3
