/-! ===== the class parses laws ===== -/
section II
variable (K : Nat → Int)
noncomputable def i6 (t : Nat) : sE ⊕ Nat := sM K 33 t
noncomputable def i5 (t : Nat) : sE ⊕ Nat := sB (eX K t 0 0) (i6 K)
noncomputable def i4 (t : Nat) : sE ⊕ Nat := sB (sM K 32 t) (i5 K)
noncomputable def i3 (t : Nat) : sE ⊕ Nat := sB (eX K t 0 0) (i4 K)
noncomputable def i2 (t : Nat) : sE ⊕ Nat := sB (sM K 13 t) (i3 K)
noncomputable def i1 (t : Nat) : sE ⊕ Nat := sB (eX K t 0 0) (i2 K)
theorem i_eq {t : Nat} (h : K t = 31) : sIf K t = sB (sM K 31 t) (i1 K) := by
  unfold sM
  rw [if_pos h]
  rfl
end II
noncomputable def piR (W : List Nat) (x : Int32) (F F' : Nat → sy_d) : Prop := gc W F F' ∧ (kg F (tg F) = 31 → ((x = 0 ∧ sIf (kg F) (tg F) = .inl ((sy_i F' 34).toInt, tg F')) ∨ (x = 1 ∧ sIf (kg F) (tg F) = .inr (tg F'))))
theorem piR_dst {W : List Nat} {x : Int32} {F F' F2 : Nat → sy_d} (h : piR W x F F') (e : ∀ q, q < 82 → F2 q = F' q) : piR W x F F2 := by
  refine ⟨h.1.dst e, ?_⟩
  rw [nz_fi (e 34 (by decide)), tg_eq (nz_fi (e 33 (by decide)))]
  exact h.2
theorem piR_src {W : List Nat} {x : Int32} {F F0 F' : Nat → sy_d} (h : piR W x F0 F') (e : ∀ q, q < 82 → F0 q = F q) : piR W x F F' := by
  obtain ⟨h1, h2⟩ := h
  rw [kg_eq (e 39 (by decide)), tg_eq (nz_fi (e 33 (by decide)))] at h2
  exact ⟨h1.src e, h2⟩
theorem x01 {x : Int32} {p q : Prop} (h : (x = 0 ∧ p) ∨ (x = 1 ∧ q)) : (x.toInt = 0 → p) ∧ (x.toInt ≠ 0 → q) := by
  rcases h with ⟨rfl, h⟩ | ⟨rfl, h⟩
  · exact ⟨fun _ => h, fun z => absurd (by decide) z⟩
  · exact ⟨fun z => absurd z (by decide), fun _ => h⟩
theorem km_in {k j : Int} (h : ∀ c, km c = j ↔ c = k) (hj : km k = j) : ∀ c, km c = km k → c = k := fun c z => (h c).mp (z.trans hj)
section I0
variable {Ls : Nat} {xs : Nat → Int32} (X1 X2 : List jm_c) (F0 : Nat → sy_d) (r0 : sE ⊕ Nat)
theorem k0i94 (hJ0 : jx_ok F0) (F : Nat → sy_d) (g0 : gc k0_W F0 F) (h82 : 0 ≤ (sy_i F 82).toInt ∧ (sy_i F 82).toInt ≤ 5) (h83 : 0 ≤ (sy_i F 83).toInt ∧ (sy_i F 83).toInt ≤ 512) (hr : r0 = i6 (kg F0) (tg F)) :
    hd_W Ls xs 25 jm_M37 (fun v G => ∃ (x : Int32) (F' : Nat → sy_d), v = some (.int x) ∧ G = sy_dh F' X1 X2 (iv_H 0) ∧ gc k0_W F0 F' ∧ ((x = 0 ∧ r0 = .inl ((sy_i F' 34).toInt, tg F')) ∨ (x = 1 ∧ r0 = .inr (tg F')))) (94, sy_dL F [some (.inl (.ref 30)), some (.inr (.inl 82)), none, some (.inr (.inl 83))], sy_dS F [.inl (.int 13), .inl (.ref 30)], sy_dh F X1 X2 (iv_H 0), 0, 0) := by
  refine hd_calI (R := fun x F' => taR ((13 : Int32)).toInt x F F') (nh := 82) (nv := 84) (s := 0) (s1 := 0) (d1 := 3) (M1 := jm_M43) (As := [.inl (.ref 30), .inl (.int 13)]) (rest := []) jm_ok37 rfl rfl (by decide) (by decide +kernel) (k0ta_T F X1 X2 g0.1 13) (fun F3 F' x hR p1 p2 p3 => ?_)
  have hR : taR 13 x F F' := hR
  obtain ⟨r1, r2⟩ := taR_dst hR p1
  have r2 := r2 (km_in (j := 33) (fun c => km_w (by decide) (by decide)) (by decide))
  rw [show km 13 = 33 by decide, kg_eq (g0.2 39 (by decide) (by decide))] at r2
  have g3 : gc k0_W F0 F3 := g0.trans r1 (by decide)
  have hx : sy_i F3 84 = x := zz_i p3
  have k82 := nz_fi (p2 82 (by decide) (by decide))
  have r2 : (x = 0 ∧ _) ∨ (x = 1 ∧ _) := r2.imp id (fun q => ⟨q.1, q.2.elim (fun a z => by have := z.2; subst this; exact z.1)⟩)
  rw [← hx] at r2
  obtain ⟨y0, y1⟩ := x01 r2
  have k83 := nz_fi (p2 83 (by decide) (by decide))
  refine k0pi_97 (by decide) F3 X1 X2 g3.1 (by omega) ?_ ?_ ?_ ?_ ?_
  all_goals intros
  all_goals
    rename_i F4 hb g e33 e34 e23 a39
    refine ⟨_, F4, rfl, rfl, g3.trans (gc_mk (W := k0_W) hb g (by decide)) (fun _ q => q), ?_⟩
    rw [tg_eq e33, e34]
    first
      | exact Or.inl ⟨rfl, by rw [hr, i6, y0 (by assumption)]⟩
      | exact Or.inr ⟨rfl, by rw [hr, i6, y1 (by assumption)]⟩
theorem k0i85 (hJ0 : jx_ok F0) (F : Nat → sy_d) (g0 : gc k0_W F0 F) (h82 : 0 ≤ (sy_i F 82).toInt ∧ (sy_i F 82).toInt ≤ 5) (h83 : 0 ≤ (sy_i F 83).toInt ∧ (sy_i F 83).toInt ≤ 512) (hr : r0 = i5 (kg F0) (tg F)) :
    hd_W Ls xs 25 jm_M37 (fun v G => ∃ (x : Int32) (F' : Nat → sy_d), v = some (.int x) ∧ G = sy_dh F' X1 X2 (iv_H 0) ∧ gc k0_W F0 F' ∧ ((x = 0 ∧ r0 = .inl ((sy_i F' 34).toInt, tg F')) ∨ (x = 1 ∧ r0 = .inr (tg F')))) (85, sy_dL F [some (.inl (.ref 30)), some (.inr (.inl 82)), none, some (.inr (.inl 83))], sy_dS F [.inl (.int 0), .inr (.inl 82), .inl (.ref 30)], sy_dh F X1 X2 (iv_H 0), 0, 0) := by
  have hJ : jx_ok F := jx_ok_eq (g0.2 39 (by decide) (by decide)) (g0.2 41 (by decide) (by decide)) hJ0
  refine hd_calI (R := fun x F' => pR k0_W E2 0 x F F') (nh := 82) (nv := 84) (s := 0) (s1 := 0) (d1 := 24) (M1 := jm_M38) (As := [.inl (.ref 30), .inr (.inl 82), .inl (.int 0)]) (rest := []) jm_ok37 rfl rfl (by decide) (by decide +kernel) (k0_sum X1 X2 F (sy_i F 82) g0.1 hJ h82.1 h82.2) (fun F3 F' x hR p1 p2 p3 => ?_)
  obtain ⟨r1, rl, r2⟩ := pR_dst hR p1
  rw [kg_eq (g0.2 39 (by decide) (by decide))] at r2
  have g3 : gc k0_W F0 F3 := g0.trans r1 (fun _ q => q)
  have c33 := nz_bx g3.1 (k := 33) (lo := 0) (hi := 400) rfl
  have r2 : (x = 0 ∧ eX (kg F0) (tg F) 0 0 = .inl ((sy_i F3 34).toInt, tg F3)) ∨ (x = 1 ∧ eX (kg F0) (tg F) 0 0 = .inr (tg F3)) := r2.imp id (fun q => ⟨q.1, q.2.1.trans (eX_e0 (by unfold tg; omega) q.2.2.2)⟩)
  have hx : sy_i F3 84 = x := zz_i p3
  have k82 := nz_fi (p2 82 (by decide) (by decide))
  rw [← hx] at r2
  obtain ⟨y0, y1⟩ := x01 r2
  have k83 := nz_fi (p2 83 (by decide) (by decide))
  refine k0pi_88 (by decide) F3 X1 X2 g3.1 ?_ ?_
  all_goals intros
  all_goals first
    | (rename_i F4 hb g e33 e34 e23 a39
       refine ⟨_, F4, rfl, rfl, g3.trans (gc_mk (W := k0_W) hb g (by decide)) (fun _ q => q), ?_⟩
       rw [tg_eq e33, e34]
       exact Or.inl ⟨rfl, by rw [hr, i5, y0 (by assumption)]; rfl⟩)
    | (rename_i F4 hb g e33 e34 e23 a39 e82 e83
       exact k0i94 X1 X2 F0 r0 hJ0 F4 (g3.trans (gc_mk (W := k0_W) hb g (by decide)) (fun _ q => q)) (by omega) (by omega) (by rw [hr, i5, y1 (by assumption), tg_eq e33]; rfl))
theorem k0i39 (hJ0 : jx_ok F0) (F : Nat → sy_d) (g0 : gc k0_W F0 F) (h82 : 0 ≤ (sy_i F 82).toInt ∧ (sy_i F 82).toInt ≤ 5) (hr : r0 = i4 (kg F0) (tg F)) :
    hd_W Ls xs 25 jm_M37 (fun v G => ∃ (x : Int32) (F' : Nat → sy_d), v = some (.int x) ∧ G = sy_dh F' X1 X2 (iv_H 0) ∧ gc k0_W F0 F' ∧ ((x = 0 ∧ r0 = .inl ((sy_i F' 34).toInt, tg F')) ∨ (x = 1 ∧ r0 = .inr (tg F')))) (39, sy_dL F [some (.inl (.ref 30)), some (.inr (.inl 82)), none, none], sy_dS F [.inl (.int 12), .inl (.ref 30)], sy_dh F X1 X2 (iv_H 0), 0, 0) := by
  refine hd_calI (R := fun x F' => taR ((12 : Int32)).toInt x F F') (nh := 82) (nv := 83) (s := 0) (s1 := 0) (d1 := 3) (M1 := jm_M43) (As := [.inl (.ref 30), .inl (.int 12)]) (rest := []) jm_ok37 rfl rfl (by decide) (by decide +kernel) (k0ta_T F X1 X2 g0.1 12) (fun F3 F' x hR p1 p2 p3 => ?_)
  have hR : taR 12 x F F' := hR
  obtain ⟨r1, r2⟩ := taR_dst hR p1
  have r2 := r2 (km_in (j := 32) (fun c => km_w (by decide) (by decide)) (by decide))
  rw [show km 12 = 32 by decide, kg_eq (g0.2 39 (by decide) (by decide))] at r2
  have g3 : gc k0_W F0 F3 := g0.trans r1 (by decide)
  have hx : sy_i F3 83 = x := zz_i p3
  have k82 := nz_fi (p2 82 (by decide) (by decide))
  have r2 : (x = 0 ∧ _) ∨ (x = 1 ∧ _) := r2.imp id (fun q => ⟨q.1, q.2.elim (fun a z => by have := z.2; subst this; exact z.1)⟩)
  rw [← hx] at r2
  obtain ⟨y0, y1⟩ := x01 r2
  have c23 := nz_bx g3.1 (k := 23) (lo := 0) (hi := 512) rfl
  refine k0pi_42 (by decide) F3 X1 X2 g3.1 ?_ ?_ ?_ ?_
  all_goals intros
  all_goals first
    | (rename_i F4 hb g e33 e34 e23 a39
       refine ⟨_, F4, rfl, rfl, g3.trans (gc_mk (W := k0_W) hb g (by decide)) (fun _ q => q), ?_⟩
       rw [tg_eq e33, e34]
       exact Or.inl ⟨rfl, by rw [hr, i4, y0 (by assumption)]; rfl⟩)
    | (rename_i F4 hb g e33 e34 e23 a39 e82 e83
       exact k0i85 X1 X2 F0 r0 hJ0 F4 (g3.trans (gc_mk (W := k0_W) hb g (by decide)) (fun _ q => q)) (by omega) (by omega) (by rw [hr, i4, y1 (by assumption), tg_eq e33]; rfl))
theorem k0i30 (hJ0 : jx_ok F0) (F : Nat → sy_d) (g0 : gc k0_W F0 F) (h82 : 0 ≤ (sy_i F 82).toInt ∧ (sy_i F 82).toInt ≤ 5) (hr : r0 = i3 (kg F0) (tg F)) :
    hd_W Ls xs 25 jm_M37 (fun v G => ∃ (x : Int32) (F' : Nat → sy_d), v = some (.int x) ∧ G = sy_dh F' X1 X2 (iv_H 0) ∧ gc k0_W F0 F' ∧ ((x = 0 ∧ r0 = .inl ((sy_i F' 34).toInt, tg F')) ∨ (x = 1 ∧ r0 = .inr (tg F')))) (30, sy_dL F [some (.inl (.ref 30)), some (.inr (.inl 82)), none, none], sy_dS F [.inl (.int 0), .inr (.inl 82), .inl (.ref 30)], sy_dh F X1 X2 (iv_H 0), 0, 0) := by
  have hJ : jx_ok F := jx_ok_eq (g0.2 39 (by decide) (by decide)) (g0.2 41 (by decide) (by decide)) hJ0
  refine hd_calI (R := fun x F' => pR k0_W E2 0 x F F') (nh := 82) (nv := 83) (s := 0) (s1 := 0) (d1 := 24) (M1 := jm_M38) (As := [.inl (.ref 30), .inr (.inl 82), .inl (.int 0)]) (rest := []) jm_ok37 rfl rfl (by decide) (by decide +kernel) (k0_sum X1 X2 F (sy_i F 82) g0.1 hJ h82.1 h82.2) (fun F3 F' x hR p1 p2 p3 => ?_)
  obtain ⟨r1, rl, r2⟩ := pR_dst hR p1
  rw [kg_eq (g0.2 39 (by decide) (by decide))] at r2
  have g3 : gc k0_W F0 F3 := g0.trans r1 (fun _ q => q)
  have c33 := nz_bx g3.1 (k := 33) (lo := 0) (hi := 400) rfl
  have r2 : (x = 0 ∧ eX (kg F0) (tg F) 0 0 = .inl ((sy_i F3 34).toInt, tg F3)) ∨ (x = 1 ∧ eX (kg F0) (tg F) 0 0 = .inr (tg F3)) := r2.imp id (fun q => ⟨q.1, q.2.1.trans (eX_e0 (by unfold tg; omega) q.2.2.2)⟩)
  have hx : sy_i F3 83 = x := zz_i p3
  have k82 := nz_fi (p2 82 (by decide) (by decide))
  rw [← hx] at r2
  obtain ⟨y0, y1⟩ := x01 r2
  refine k0pi_33 (by decide) F3 X1 X2 g3.1 ?_ ?_
  all_goals intros
  all_goals first
    | (rename_i F4 hb g e33 e34 e23 a39
       refine ⟨_, F4, rfl, rfl, g3.trans (gc_mk (W := k0_W) hb g (by decide)) (fun _ q => q), ?_⟩
       rw [tg_eq e33, e34]
       exact Or.inl ⟨rfl, by rw [hr, i3, y0 (by assumption)]; rfl⟩)
    | (rename_i F4 hb g e33 e34 e23 a39 e82
       exact k0i39 X1 X2 F0 r0 hJ0 F4 (g3.trans (gc_mk (W := k0_W) hb g (by decide)) (fun _ q => q)) (by omega) (by rw [hr, i3, y1 (by assumption), tg_eq e33]; rfl))
theorem k0i21 (hJ0 : jx_ok F0) (F : Nat → sy_d) (g0 : gc k0_W F0 F) (h82 : 0 ≤ (sy_i F 82).toInt ∧ (sy_i F 82).toInt ≤ 5) (hr : r0 = i2 (kg F0) (tg F)) :
    hd_W Ls xs 25 jm_M37 (fun v G => ∃ (x : Int32) (F' : Nat → sy_d), v = some (.int x) ∧ G = sy_dh F' X1 X2 (iv_H 0) ∧ gc k0_W F0 F' ∧ ((x = 0 ∧ r0 = .inl ((sy_i F' 34).toInt, tg F')) ∨ (x = 1 ∧ r0 = .inr (tg F')))) (21, sy_dL F [some (.inl (.ref 30)), some (.inr (.inl 82)), none, none], sy_dS F [.inl (.int 60), .inl (.ref 30)], sy_dh F X1 X2 (iv_H 0), 0, 0) := by
  refine hd_calI (R := fun x F' => taR ((60 : Int32)).toInt x F F') (nh := 82) (nv := 83) (s := 0) (s1 := 0) (d1 := 3) (M1 := jm_M43) (As := [.inl (.ref 30), .inl (.int 60)]) (rest := []) jm_ok37 rfl rfl (by decide) (by decide +kernel) (k0ta_T F X1 X2 g0.1 60) (fun F3 F' x hR p1 p2 p3 => ?_)
  have hR : taR 60 x F F' := hR
  obtain ⟨r1, r2⟩ := taR_dst hR p1
  have r2 := r2 (km_in (j := 13) (fun c => km_13) (by decide))
  rw [show km 60 = 13 by decide, kg_eq (g0.2 39 (by decide) (by decide))] at r2
  have g3 : gc k0_W F0 F3 := g0.trans r1 (by decide)
  have hx : sy_i F3 83 = x := zz_i p3
  have k82 := nz_fi (p2 82 (by decide) (by decide))
  have r2 : (x = 0 ∧ _) ∨ (x = 1 ∧ _) := r2.imp id (fun q => ⟨q.1, q.2.elim (fun a z => by have := z.2; subst this; exact z.1)⟩)
  rw [← hx] at r2
  obtain ⟨y0, y1⟩ := x01 r2
  refine k0pi_24 (by decide) F3 X1 X2 g3.1 ?_ ?_
  all_goals intros
  all_goals first
    | (rename_i F4 hb g e33 e34 e23 a39
       refine ⟨_, F4, rfl, rfl, g3.trans (gc_mk (W := k0_W) hb g (by decide)) (fun _ q => q), ?_⟩
       rw [tg_eq e33, e34]
       exact Or.inl ⟨rfl, by rw [hr, i2, y0 (by assumption)]; rfl⟩)
    | (rename_i F4 hb g e33 e34 e23 a39 e82
       exact k0i30 X1 X2 F0 r0 hJ0 F4 (g3.trans (gc_mk (W := k0_W) hb g (by decide)) (fun _ q => q)) (by omega) (by rw [hr, i2, y1 (by assumption), tg_eq e33]; rfl))
theorem k0i12 (hJ0 : jx_ok F0) (F : Nat → sy_d) (g0 : gc k0_W F0 F) (h82 : 0 ≤ (sy_i F 82).toInt ∧ (sy_i F 82).toInt ≤ 5) (hr : r0 = i1 (kg F0) (tg F)) :
    hd_W Ls xs 25 jm_M37 (fun v G => ∃ (x : Int32) (F' : Nat → sy_d), v = some (.int x) ∧ G = sy_dh F' X1 X2 (iv_H 0) ∧ gc k0_W F0 F' ∧ ((x = 0 ∧ r0 = .inl ((sy_i F' 34).toInt, tg F')) ∨ (x = 1 ∧ r0 = .inr (tg F')))) (12, sy_dL F [some (.inl (.ref 30)), some (.inr (.inl 82)), none, none], sy_dS F [.inl (.int 0), .inr (.inl 82), .inl (.ref 30)], sy_dh F X1 X2 (iv_H 0), 0, 0) := by
  have hJ : jx_ok F := jx_ok_eq (g0.2 39 (by decide) (by decide)) (g0.2 41 (by decide) (by decide)) hJ0
  refine hd_calI (R := fun x F' => pR k0_W E2 0 x F F') (nh := 82) (nv := 83) (s := 0) (s1 := 0) (d1 := 24) (M1 := jm_M38) (As := [.inl (.ref 30), .inr (.inl 82), .inl (.int 0)]) (rest := []) jm_ok37 rfl rfl (by decide) (by decide +kernel) (k0_sum X1 X2 F (sy_i F 82) g0.1 hJ h82.1 h82.2) (fun F3 F' x hR p1 p2 p3 => ?_)
  obtain ⟨r1, rl, r2⟩ := pR_dst hR p1
  rw [kg_eq (g0.2 39 (by decide) (by decide))] at r2
  have g3 : gc k0_W F0 F3 := g0.trans r1 (fun _ q => q)
  have c33 := nz_bx g3.1 (k := 33) (lo := 0) (hi := 400) rfl
  have r2 : (x = 0 ∧ eX (kg F0) (tg F) 0 0 = .inl ((sy_i F3 34).toInt, tg F3)) ∨ (x = 1 ∧ eX (kg F0) (tg F) 0 0 = .inr (tg F3)) := r2.imp id (fun q => ⟨q.1, q.2.1.trans (eX_e0 (by unfold tg; omega) q.2.2.2)⟩)
  have hx : sy_i F3 83 = x := zz_i p3
  have k82 := nz_fi (p2 82 (by decide) (by decide))
  rw [← hx] at r2
  obtain ⟨y0, y1⟩ := x01 r2
  refine k0pi_15 (by decide) F3 X1 X2 g3.1 ?_ ?_
  all_goals intros
  all_goals first
    | (rename_i F4 hb g e33 e34 e23 a39
       refine ⟨_, F4, rfl, rfl, g3.trans (gc_mk (W := k0_W) hb g (by decide)) (fun _ q => q), ?_⟩
       rw [tg_eq e33, e34]
       exact Or.inl ⟨rfl, by rw [hr, i1, y0 (by assumption)]; rfl⟩)
    | (rename_i F4 hb g e33 e34 e23 a39 e82
       exact k0i21 X1 X2 F0 r0 hJ0 F4 (g3.trans (gc_mk (W := k0_W) hb g (by decide)) (fun _ q => q)) (by omega) (by rw [hr, i1, y1 (by assumption), tg_eq e33]; rfl))
end I0
theorem k0pi_T {Ls : Nat} {xs : Nat → Int32} (X1 X2 : List jm_c) (F : Nat → sy_d) (a : Int32) (hB : iv_in F iv_B0) (hJ : jx_ok F) (a0 : 0 ≤ a.toInt) (a5 : a.toInt ≤ 5) (hk : kg F (tg F) = 31) : jm_T Ls xs 25 jm_M37 [.ref 30, .int a] (sy_dh F X1 X2 (iv_H 0)) 0 0 (fun v G => ∃ (x : Int32) (F' : Nat → sy_d), v = some (.int x) ∧ G = sy_dh F' X1 X2 (iv_H 0) ∧ piR k0_W x F F') := by
  refine nx_T (s := 0) (by decide) F X1 X2 (as := [a]) (A := [.inl (.ref 30), .inr (.inl 82)]) jm_ok37 (by decide) rfl ?_
  obtain ⟨F0, hF0⟩ : ∃ F0, F0 = nx 82 F [a] := ⟨_, rfl⟩
  rw [← hF0]
  have k0 : ∀ q, q < 82 → F0 q = F q := by rw [hF0]; exact nx_lt
  have i82 : sy_i F0 82 = a := by rw [hF0]; rfl
  have hB0 := hd_iveq0 hB k0
  have hJ0 : jx_ok F0 := jx_ok_eq (k0 39 (by decide)) (k0 41 (by decide)) hJ
  have hk0 : kg F0 (tg F0) = 31 := by rw [kg_eq (k0 39 (by decide)), tg_eq (nz_fi (k0 33 (by decide)))]; exact hk
  clear hF0
  refine hd_W_mono (Q := fun v G => ∃ (x : Int32) (F' : Nat → sy_d), v = some (.int x) ∧ G = sy_dh F' X1 X2 (iv_H 0) ∧ gc k0_W F0 F' ∧ ((x = 0 ∧ sIf (kg F0) (tg F0) = .inl ((sy_i F' 34).toInt, tg F')) ∨ (x = 1 ∧ sIf (kg F0) (tg F0) = .inr (tg F')))) ?_ (by
    rintro v G ⟨x, F', rfl, rfl, h1, h2⟩
    exact ⟨x, F', rfl, rfl, piR_src ⟨h1, fun _ => h2⟩ k0⟩)
  refine k0pi_0 (by decide) F0 X1 X2 hB0 ?_
  intro F hb g e33 e34 e23 a39 e82
  have g0 : gc k0_W F0 F := gc_mk hb g (by decide)
  have h82 : 0 ≤ (sy_i F 82).toInt ∧ (sy_i F 82).toInt ≤ 5 := by rw [e82, i82]; exact ⟨a0, a5⟩
  have hr : sIf (kg F0) (tg F0) = sB (sM (kg F0) 31 (tg F)) (i1 (kg F0)) := by rw [i_eq _ hk0, tg_eq e33]
  refine hd_calI (R := fun x F' => taR ((11 : Int32)).toInt x F F') (nh := 82) (nv := 83) (s := 0) (s1 := 0) (d1 := 3) (M1 := jm_M43) (As := [.inl (.ref 30), .inl (.int 11)]) (rest := []) jm_ok37 rfl rfl (by decide) (by decide +kernel) (k0ta_T F X1 X2 g0.1 11) (fun F3 F' x hR p1 p2 p3 => ?_)
  have hR : taR 11 x F F' := hR
  obtain ⟨r1, r2⟩ := taR_dst hR p1
  have r2 := r2 (km_in (j := 31) (fun c => km_w (by decide) (by decide)) (by decide))
  rw [show km 11 = 31 by decide, kg_eq (g0.2 39 (by decide) (by decide))] at r2
  have g3 : gc k0_W F0 F3 := g0.trans r1 (by decide)
  have hx : sy_i F3 83 = x := zz_i p3
  have k82 := nz_fi (p2 82 (by decide) (by decide))
  have r2 : (x = 0 ∧ _) ∨ (x = 1 ∧ _) := r2.imp id (fun q => ⟨q.1, q.2.elim (fun a z => by have := z.2; subst this; exact z.1)⟩)
  rw [← hx] at r2
  obtain ⟨y0, y1⟩ := x01 r2
  refine k0pi_6 (by decide) F3 X1 X2 g3.1 ?_ ?_
  all_goals intros
  all_goals first
    | (rename_i F4 hb g e33 e34 e23 a39
       refine ⟨_, F4, rfl, rfl, g3.trans (gc_mk (W := k0_W) hb g (by decide)) (fun _ q => q), ?_⟩
       rw [tg_eq e33, e34]
       exact Or.inl ⟨rfl, by rw [hr, y0 (by assumption)]; rfl⟩)
    | (rename_i F4 hb g e33 e34 e23 a39 e82
       exact k0i12 X1 X2 F0 _ hJ0 F4 (g3.trans (gc_mk (W := k0_W) hb g (by decide)) (fun _ q => q)) (by omega) (by rw [hr, y1 (by assumption), tg_eq e33]; rfl))
section I3
variable {Ls : Nat} {xs : Nat → Int32} (X1 X2 : List jm_c) (F0 : Nat → sy_d) (r0 : sE ⊕ Nat)
theorem k3i94 (hJ0 : jx_ok F0) (F : Nat → sy_d) (g0 : gc k3_W F0 F) (h82 : 0 ≤ (sy_i F 82).toInt ∧ (sy_i F 82).toInt ≤ 5) (h83 : 0 ≤ (sy_i F 83).toInt ∧ (sy_i F 83).toInt ≤ 512) (hr : r0 = i6 (kg F0) (tg F)) :
    hd_W Ls xs 25 jm_M37 (fun v G => ∃ (x : Int32) (F' : Nat → sy_d), v = some (.int x) ∧ G = sy_dh F' X1 X2 (iv_H 3) ∧ gc k3_W F0 F' ∧ ((x = 0 ∧ r0 = .inl ((sy_i F' 34).toInt, tg F')) ∨ (x = 1 ∧ r0 = .inr (tg F')))) (94, sy_dL F [some (.inl (.ref 30)), some (.inr (.inl 82)), none, some (.inr (.inl 83))], sy_dS F [.inl (.int 13), .inl (.ref 30)], sy_dh F X1 X2 (iv_H 3), 0, 0) := by
  refine hd_calI (R := fun x F' => taR ((13 : Int32)).toInt x F F') (nh := 82) (nv := 84) (s := 3) (s1 := 3) (d1 := 3) (M1 := jm_M43) (As := [.inl (.ref 30), .inl (.int 13)]) (rest := []) jm_ok37 rfl rfl (by decide) (by decide +kernel) (k3ta_T F X1 X2 g0.1 13) (fun F3 F' x hR p1 p2 p3 => ?_)
  have hR : taR 13 x F F' := hR
  obtain ⟨r1, r2⟩ := taR_dst hR p1
  have r2 := r2 (km_in (j := 33) (fun c => km_w (by decide) (by decide)) (by decide))
  rw [show km 13 = 33 by decide, kg_eq (g0.2 39 (by decide) (by decide))] at r2
  have g3 : gc k3_W F0 F3 := g0.trans r1 (by decide)
  have hx : sy_i F3 84 = x := zz_i p3
  have k82 := nz_fi (p2 82 (by decide) (by decide))
  have r2 : (x = 0 ∧ _) ∨ (x = 1 ∧ _) := r2.imp id (fun q => ⟨q.1, q.2.elim (fun a z => by have := z.2; subst this; exact z.1)⟩)
  rw [← hx] at r2
  obtain ⟨y0, y1⟩ := x01 r2
  have k83 := nz_fi (p2 83 (by decide) (by decide))
  refine k3pi_97 (by decide) F3 X1 X2 g3.1 (by omega) ?_ ?_ ?_ ?_ ?_
  all_goals intros
  all_goals
    rename_i F4 hb g e33 e34 e23 a39
    refine ⟨_, F4, rfl, rfl, g3.trans (gc_mk (W := k3_W) hb g (by decide)) (fun _ q => q), ?_⟩
    rw [tg_eq e33, e34]
    first
      | exact Or.inl ⟨rfl, by rw [hr, i6, y0 (by assumption)]⟩
      | exact Or.inr ⟨rfl, by rw [hr, i6, y1 (by assumption)]⟩
theorem k3i85 (hJ0 : jx_ok F0) (F : Nat → sy_d) (g0 : gc k3_W F0 F) (h82 : 0 ≤ (sy_i F 82).toInt ∧ (sy_i F 82).toInt ≤ 5) (h83 : 0 ≤ (sy_i F 83).toInt ∧ (sy_i F 83).toInt ≤ 512) (hr : r0 = i5 (kg F0) (tg F)) :
    hd_W Ls xs 25 jm_M37 (fun v G => ∃ (x : Int32) (F' : Nat → sy_d), v = some (.int x) ∧ G = sy_dh F' X1 X2 (iv_H 3) ∧ gc k3_W F0 F' ∧ ((x = 0 ∧ r0 = .inl ((sy_i F' 34).toInt, tg F')) ∨ (x = 1 ∧ r0 = .inr (tg F')))) (85, sy_dL F [some (.inl (.ref 30)), some (.inr (.inl 82)), none, some (.inr (.inl 83))], sy_dS F [.inl (.int 0), .inr (.inl 82), .inl (.ref 30)], sy_dh F X1 X2 (iv_H 3), 0, 0) := by
  have hJ : jx_ok F := jx_ok_eq (g0.2 39 (by decide) (by decide)) (g0.2 41 (by decide) (by decide)) hJ0
  refine hd_calI (R := fun x F' => pR k3_W E2 0 x F F') (nh := 82) (nv := 84) (s := 3) (s1 := 3) (d1 := 24) (M1 := jm_M38) (As := [.inl (.ref 30), .inr (.inl 82), .inl (.int 0)]) (rest := []) jm_ok37 rfl rfl (by decide) (by decide +kernel) (k3_sum X1 X2 F (sy_i F 82) g0.1 hJ h82.1 h82.2) (fun F3 F' x hR p1 p2 p3 => ?_)
  obtain ⟨r1, rl, r2⟩ := pR_dst hR p1
  rw [kg_eq (g0.2 39 (by decide) (by decide))] at r2
  have g3 : gc k3_W F0 F3 := g0.trans r1 (fun _ q => q)
  have c33 := nz_bx g3.1 (k := 33) (lo := 0) (hi := 400) rfl
  have r2 : (x = 0 ∧ eX (kg F0) (tg F) 0 0 = .inl ((sy_i F3 34).toInt, tg F3)) ∨ (x = 1 ∧ eX (kg F0) (tg F) 0 0 = .inr (tg F3)) := r2.imp id (fun q => ⟨q.1, q.2.1.trans (eX_e0 (by unfold tg; omega) q.2.2.2)⟩)
  have hx : sy_i F3 84 = x := zz_i p3
  have k82 := nz_fi (p2 82 (by decide) (by decide))
  rw [← hx] at r2
  obtain ⟨y0, y1⟩ := x01 r2
  have k83 := nz_fi (p2 83 (by decide) (by decide))
  refine k3pi_88 (by decide) F3 X1 X2 g3.1 ?_ ?_
  all_goals intros
  all_goals first
    | (rename_i F4 hb g e33 e34 e23 a39
       refine ⟨_, F4, rfl, rfl, g3.trans (gc_mk (W := k3_W) hb g (by decide)) (fun _ q => q), ?_⟩
       rw [tg_eq e33, e34]
       exact Or.inl ⟨rfl, by rw [hr, i5, y0 (by assumption)]; rfl⟩)
    | (rename_i F4 hb g e33 e34 e23 a39 e82 e83
       exact k3i94 X1 X2 F0 r0 hJ0 F4 (g3.trans (gc_mk (W := k3_W) hb g (by decide)) (fun _ q => q)) (by omega) (by omega) (by rw [hr, i5, y1 (by assumption), tg_eq e33]; rfl))
theorem k3i39 (hJ0 : jx_ok F0) (F : Nat → sy_d) (g0 : gc k3_W F0 F) (h82 : 0 ≤ (sy_i F 82).toInt ∧ (sy_i F 82).toInt ≤ 5) (hr : r0 = i4 (kg F0) (tg F)) :
    hd_W Ls xs 25 jm_M37 (fun v G => ∃ (x : Int32) (F' : Nat → sy_d), v = some (.int x) ∧ G = sy_dh F' X1 X2 (iv_H 3) ∧ gc k3_W F0 F' ∧ ((x = 0 ∧ r0 = .inl ((sy_i F' 34).toInt, tg F')) ∨ (x = 1 ∧ r0 = .inr (tg F')))) (39, sy_dL F [some (.inl (.ref 30)), some (.inr (.inl 82)), none, none], sy_dS F [.inl (.int 12), .inl (.ref 30)], sy_dh F X1 X2 (iv_H 3), 0, 0) := by
  refine hd_calI (R := fun x F' => taR ((12 : Int32)).toInt x F F') (nh := 82) (nv := 83) (s := 3) (s1 := 3) (d1 := 3) (M1 := jm_M43) (As := [.inl (.ref 30), .inl (.int 12)]) (rest := []) jm_ok37 rfl rfl (by decide) (by decide +kernel) (k3ta_T F X1 X2 g0.1 12) (fun F3 F' x hR p1 p2 p3 => ?_)
  have hR : taR 12 x F F' := hR
  obtain ⟨r1, r2⟩ := taR_dst hR p1
  have r2 := r2 (km_in (j := 32) (fun c => km_w (by decide) (by decide)) (by decide))
  rw [show km 12 = 32 by decide, kg_eq (g0.2 39 (by decide) (by decide))] at r2
  have g3 : gc k3_W F0 F3 := g0.trans r1 (by decide)
  have hx : sy_i F3 83 = x := zz_i p3
  have k82 := nz_fi (p2 82 (by decide) (by decide))
  have r2 : (x = 0 ∧ _) ∨ (x = 1 ∧ _) := r2.imp id (fun q => ⟨q.1, q.2.elim (fun a z => by have := z.2; subst this; exact z.1)⟩)
  rw [← hx] at r2
  obtain ⟨y0, y1⟩ := x01 r2
  have c23 := nz_bx g3.1 (k := 8) (lo := 0) (hi := 512) rfl
  refine k3pi_42 (by decide) F3 X1 X2 g3.1 ?_ ?_ ?_ ?_
  all_goals intros
  all_goals first
    | (rename_i F4 hb g e33 e34 e23 a39
       refine ⟨_, F4, rfl, rfl, g3.trans (gc_mk (W := k3_W) hb g (by decide)) (fun _ q => q), ?_⟩
       rw [tg_eq e33, e34]
       exact Or.inl ⟨rfl, by rw [hr, i4, y0 (by assumption)]; rfl⟩)
    | (rename_i F4 hb g e33 e34 e23 a39 e82 e83
       exact k3i85 X1 X2 F0 r0 hJ0 F4 (g3.trans (gc_mk (W := k3_W) hb g (by decide)) (fun _ q => q)) (by omega) (by omega) (by rw [hr, i4, y1 (by assumption), tg_eq e33]; rfl))
theorem k3i30 (hJ0 : jx_ok F0) (F : Nat → sy_d) (g0 : gc k3_W F0 F) (h82 : 0 ≤ (sy_i F 82).toInt ∧ (sy_i F 82).toInt ≤ 5) (hr : r0 = i3 (kg F0) (tg F)) :
    hd_W Ls xs 25 jm_M37 (fun v G => ∃ (x : Int32) (F' : Nat → sy_d), v = some (.int x) ∧ G = sy_dh F' X1 X2 (iv_H 3) ∧ gc k3_W F0 F' ∧ ((x = 0 ∧ r0 = .inl ((sy_i F' 34).toInt, tg F')) ∨ (x = 1 ∧ r0 = .inr (tg F')))) (30, sy_dL F [some (.inl (.ref 30)), some (.inr (.inl 82)), none, none], sy_dS F [.inl (.int 0), .inr (.inl 82), .inl (.ref 30)], sy_dh F X1 X2 (iv_H 3), 0, 0) := by
  have hJ : jx_ok F := jx_ok_eq (g0.2 39 (by decide) (by decide)) (g0.2 41 (by decide) (by decide)) hJ0
  refine hd_calI (R := fun x F' => pR k3_W E2 0 x F F') (nh := 82) (nv := 83) (s := 3) (s1 := 3) (d1 := 24) (M1 := jm_M38) (As := [.inl (.ref 30), .inr (.inl 82), .inl (.int 0)]) (rest := []) jm_ok37 rfl rfl (by decide) (by decide +kernel) (k3_sum X1 X2 F (sy_i F 82) g0.1 hJ h82.1 h82.2) (fun F3 F' x hR p1 p2 p3 => ?_)
  obtain ⟨r1, rl, r2⟩ := pR_dst hR p1
  rw [kg_eq (g0.2 39 (by decide) (by decide))] at r2
  have g3 : gc k3_W F0 F3 := g0.trans r1 (fun _ q => q)
  have c33 := nz_bx g3.1 (k := 33) (lo := 0) (hi := 400) rfl
  have r2 : (x = 0 ∧ eX (kg F0) (tg F) 0 0 = .inl ((sy_i F3 34).toInt, tg F3)) ∨ (x = 1 ∧ eX (kg F0) (tg F) 0 0 = .inr (tg F3)) := r2.imp id (fun q => ⟨q.1, q.2.1.trans (eX_e0 (by unfold tg; omega) q.2.2.2)⟩)
  have hx : sy_i F3 83 = x := zz_i p3
  have k82 := nz_fi (p2 82 (by decide) (by decide))
  rw [← hx] at r2
  obtain ⟨y0, y1⟩ := x01 r2
  refine k3pi_33 (by decide) F3 X1 X2 g3.1 ?_ ?_
  all_goals intros
  all_goals first
    | (rename_i F4 hb g e33 e34 e23 a39
       refine ⟨_, F4, rfl, rfl, g3.trans (gc_mk (W := k3_W) hb g (by decide)) (fun _ q => q), ?_⟩
       rw [tg_eq e33, e34]
       exact Or.inl ⟨rfl, by rw [hr, i3, y0 (by assumption)]; rfl⟩)
    | (rename_i F4 hb g e33 e34 e23 a39 e82
       exact k3i39 X1 X2 F0 r0 hJ0 F4 (g3.trans (gc_mk (W := k3_W) hb g (by decide)) (fun _ q => q)) (by omega) (by rw [hr, i3, y1 (by assumption), tg_eq e33]; rfl))
theorem k3i21 (hJ0 : jx_ok F0) (F : Nat → sy_d) (g0 : gc k3_W F0 F) (h82 : 0 ≤ (sy_i F 82).toInt ∧ (sy_i F 82).toInt ≤ 5) (hr : r0 = i2 (kg F0) (tg F)) :
    hd_W Ls xs 25 jm_M37 (fun v G => ∃ (x : Int32) (F' : Nat → sy_d), v = some (.int x) ∧ G = sy_dh F' X1 X2 (iv_H 3) ∧ gc k3_W F0 F' ∧ ((x = 0 ∧ r0 = .inl ((sy_i F' 34).toInt, tg F')) ∨ (x = 1 ∧ r0 = .inr (tg F')))) (21, sy_dL F [some (.inl (.ref 30)), some (.inr (.inl 82)), none, none], sy_dS F [.inl (.int 60), .inl (.ref 30)], sy_dh F X1 X2 (iv_H 3), 0, 0) := by
  refine hd_calI (R := fun x F' => taR ((60 : Int32)).toInt x F F') (nh := 82) (nv := 83) (s := 3) (s1 := 3) (d1 := 3) (M1 := jm_M43) (As := [.inl (.ref 30), .inl (.int 60)]) (rest := []) jm_ok37 rfl rfl (by decide) (by decide +kernel) (k3ta_T F X1 X2 g0.1 60) (fun F3 F' x hR p1 p2 p3 => ?_)
  have hR : taR 60 x F F' := hR
  obtain ⟨r1, r2⟩ := taR_dst hR p1
  have r2 := r2 (km_in (j := 13) (fun c => km_13) (by decide))
  rw [show km 60 = 13 by decide, kg_eq (g0.2 39 (by decide) (by decide))] at r2
  have g3 : gc k3_W F0 F3 := g0.trans r1 (by decide)
  have hx : sy_i F3 83 = x := zz_i p3
  have k82 := nz_fi (p2 82 (by decide) (by decide))
  have r2 : (x = 0 ∧ _) ∨ (x = 1 ∧ _) := r2.imp id (fun q => ⟨q.1, q.2.elim (fun a z => by have := z.2; subst this; exact z.1)⟩)
  rw [← hx] at r2
  obtain ⟨y0, y1⟩ := x01 r2
  refine k3pi_24 (by decide) F3 X1 X2 g3.1 ?_ ?_
  all_goals intros
  all_goals first
    | (rename_i F4 hb g e33 e34 e23 a39
       refine ⟨_, F4, rfl, rfl, g3.trans (gc_mk (W := k3_W) hb g (by decide)) (fun _ q => q), ?_⟩
       rw [tg_eq e33, e34]
       exact Or.inl ⟨rfl, by rw [hr, i2, y0 (by assumption)]; rfl⟩)
    | (rename_i F4 hb g e33 e34 e23 a39 e82
       exact k3i30 X1 X2 F0 r0 hJ0 F4 (g3.trans (gc_mk (W := k3_W) hb g (by decide)) (fun _ q => q)) (by omega) (by rw [hr, i2, y1 (by assumption), tg_eq e33]; rfl))
theorem k3i12 (hJ0 : jx_ok F0) (F : Nat → sy_d) (g0 : gc k3_W F0 F) (h82 : 0 ≤ (sy_i F 82).toInt ∧ (sy_i F 82).toInt ≤ 5) (hr : r0 = i1 (kg F0) (tg F)) :
    hd_W Ls xs 25 jm_M37 (fun v G => ∃ (x : Int32) (F' : Nat → sy_d), v = some (.int x) ∧ G = sy_dh F' X1 X2 (iv_H 3) ∧ gc k3_W F0 F' ∧ ((x = 0 ∧ r0 = .inl ((sy_i F' 34).toInt, tg F')) ∨ (x = 1 ∧ r0 = .inr (tg F')))) (12, sy_dL F [some (.inl (.ref 30)), some (.inr (.inl 82)), none, none], sy_dS F [.inl (.int 0), .inr (.inl 82), .inl (.ref 30)], sy_dh F X1 X2 (iv_H 3), 0, 0) := by
  have hJ : jx_ok F := jx_ok_eq (g0.2 39 (by decide) (by decide)) (g0.2 41 (by decide) (by decide)) hJ0
  refine hd_calI (R := fun x F' => pR k3_W E2 0 x F F') (nh := 82) (nv := 83) (s := 3) (s1 := 3) (d1 := 24) (M1 := jm_M38) (As := [.inl (.ref 30), .inr (.inl 82), .inl (.int 0)]) (rest := []) jm_ok37 rfl rfl (by decide) (by decide +kernel) (k3_sum X1 X2 F (sy_i F 82) g0.1 hJ h82.1 h82.2) (fun F3 F' x hR p1 p2 p3 => ?_)
  obtain ⟨r1, rl, r2⟩ := pR_dst hR p1
  rw [kg_eq (g0.2 39 (by decide) (by decide))] at r2
  have g3 : gc k3_W F0 F3 := g0.trans r1 (fun _ q => q)
  have c33 := nz_bx g3.1 (k := 33) (lo := 0) (hi := 400) rfl
  have r2 : (x = 0 ∧ eX (kg F0) (tg F) 0 0 = .inl ((sy_i F3 34).toInt, tg F3)) ∨ (x = 1 ∧ eX (kg F0) (tg F) 0 0 = .inr (tg F3)) := r2.imp id (fun q => ⟨q.1, q.2.1.trans (eX_e0 (by unfold tg; omega) q.2.2.2)⟩)
  have hx : sy_i F3 83 = x := zz_i p3
  have k82 := nz_fi (p2 82 (by decide) (by decide))
  rw [← hx] at r2
  obtain ⟨y0, y1⟩ := x01 r2
  refine k3pi_15 (by decide) F3 X1 X2 g3.1 ?_ ?_
  all_goals intros
  all_goals first
    | (rename_i F4 hb g e33 e34 e23 a39
       refine ⟨_, F4, rfl, rfl, g3.trans (gc_mk (W := k3_W) hb g (by decide)) (fun _ q => q), ?_⟩
       rw [tg_eq e33, e34]
       exact Or.inl ⟨rfl, by rw [hr, i1, y0 (by assumption)]; rfl⟩)
    | (rename_i F4 hb g e33 e34 e23 a39 e82
       exact k3i21 X1 X2 F0 r0 hJ0 F4 (g3.trans (gc_mk (W := k3_W) hb g (by decide)) (fun _ q => q)) (by omega) (by rw [hr, i1, y1 (by assumption), tg_eq e33]; rfl))
end I3
theorem k3pi_T {Ls : Nat} {xs : Nat → Int32} (X1 X2 : List jm_c) (F : Nat → sy_d) (a : Int32) (hB : iv_in F iv_B0) (hJ : jx_ok F) (a0 : 0 ≤ a.toInt) (a5 : a.toInt ≤ 5) (hk : kg F (tg F) = 31) : jm_T Ls xs 25 jm_M37 [.ref 30, .int a] (sy_dh F X1 X2 (iv_H 3)) 0 0 (fun v G => ∃ (x : Int32) (F' : Nat → sy_d), v = some (.int x) ∧ G = sy_dh F' X1 X2 (iv_H 3) ∧ piR k3_W x F F') := by
  refine nx_T (s := 3) (by decide) F X1 X2 (as := [a]) (A := [.inl (.ref 30), .inr (.inl 82)]) jm_ok37 (by decide) rfl ?_
  obtain ⟨F0, hF0⟩ : ∃ F0, F0 = nx 82 F [a] := ⟨_, rfl⟩
  rw [← hF0]
  have k0 : ∀ q, q < 82 → F0 q = F q := by rw [hF0]; exact nx_lt
  have i82 : sy_i F0 82 = a := by rw [hF0]; rfl
  have hB0 := hd_iveq0 hB k0
  have hJ0 : jx_ok F0 := jx_ok_eq (k0 39 (by decide)) (k0 41 (by decide)) hJ
  have hk0 : kg F0 (tg F0) = 31 := by rw [kg_eq (k0 39 (by decide)), tg_eq (nz_fi (k0 33 (by decide)))]; exact hk
  clear hF0
  refine hd_W_mono (Q := fun v G => ∃ (x : Int32) (F' : Nat → sy_d), v = some (.int x) ∧ G = sy_dh F' X1 X2 (iv_H 3) ∧ gc k3_W F0 F' ∧ ((x = 0 ∧ sIf (kg F0) (tg F0) = .inl ((sy_i F' 34).toInt, tg F')) ∨ (x = 1 ∧ sIf (kg F0) (tg F0) = .inr (tg F')))) ?_ (by
    rintro v G ⟨x, F', rfl, rfl, h1, h2⟩
    exact ⟨x, F', rfl, rfl, piR_src ⟨h1, fun _ => h2⟩ k0⟩)
  refine k3pi_0 (by decide) F0 X1 X2 hB0 ?_
  intro F hb g e33 e34 e23 a39 e82
  have g0 : gc k3_W F0 F := gc_mk hb g (by decide)
  have h82 : 0 ≤ (sy_i F 82).toInt ∧ (sy_i F 82).toInt ≤ 5 := by rw [e82, i82]; exact ⟨a0, a5⟩
  have hr : sIf (kg F0) (tg F0) = sB (sM (kg F0) 31 (tg F)) (i1 (kg F0)) := by rw [i_eq _ hk0, tg_eq e33]
  refine hd_calI (R := fun x F' => taR ((11 : Int32)).toInt x F F') (nh := 82) (nv := 83) (s := 3) (s1 := 3) (d1 := 3) (M1 := jm_M43) (As := [.inl (.ref 30), .inl (.int 11)]) (rest := []) jm_ok37 rfl rfl (by decide) (by decide +kernel) (k3ta_T F X1 X2 g0.1 11) (fun F3 F' x hR p1 p2 p3 => ?_)
  have hR : taR 11 x F F' := hR
  obtain ⟨r1, r2⟩ := taR_dst hR p1
  have r2 := r2 (km_in (j := 31) (fun c => km_w (by decide) (by decide)) (by decide))
  rw [show km 11 = 31 by decide, kg_eq (g0.2 39 (by decide) (by decide))] at r2
  have g3 : gc k3_W F0 F3 := g0.trans r1 (by decide)
  have hx : sy_i F3 83 = x := zz_i p3
  have k82 := nz_fi (p2 82 (by decide) (by decide))
  have r2 : (x = 0 ∧ _) ∨ (x = 1 ∧ _) := r2.imp id (fun q => ⟨q.1, q.2.elim (fun a z => by have := z.2; subst this; exact z.1)⟩)
  rw [← hx] at r2
  obtain ⟨y0, y1⟩ := x01 r2
  refine k3pi_6 (by decide) F3 X1 X2 g3.1 ?_ ?_
  all_goals intros
  all_goals first
    | (rename_i F4 hb g e33 e34 e23 a39
       refine ⟨_, F4, rfl, rfl, g3.trans (gc_mk (W := k3_W) hb g (by decide)) (fun _ q => q), ?_⟩
       rw [tg_eq e33, e34]
       exact Or.inl ⟨rfl, by rw [hr, y0 (by assumption)]; rfl⟩)
    | (rename_i F4 hb g e33 e34 e23 a39 e82
       exact k3i12 X1 X2 F0 _ hJ0 F4 (g3.trans (gc_mk (W := k3_W) hb g (by decide)) (fun _ q => q)) (by omega) (by rw [hr, y1 (by assumption), tg_eq e33]; rfl))
