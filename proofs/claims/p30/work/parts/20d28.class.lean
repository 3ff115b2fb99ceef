/-! ===== the class parses a law ===== -/
noncomputable def plr (K : Nat → Int) (t : Nat) : sE ⊕ Nat := sB (sG t) (sLw K)
noncomputable def plR (W : List Nat) (x : Int32) (F F' : Nat → sy_d) : Prop := gc W F F' ∧ ((x = 0 ∧ plr (kg F) (tg F) = .inl ((sy_i F' 34).toInt, tg F')) ∨ (x = 1 ∧ plr (kg F) (tg F) = .inr (tg F')))
theorem plR_dst {W : List Nat} {x : Int32} {F F' F2 : Nat → sy_d} (h : plR W x F F') (e : ∀ q, q < 82 → F2 q = F' q) : plR W x F F2 := by
  refine ⟨h.1.dst e, ?_⟩
  rw [nz_fi (e 34 (by decide)), tg_eq (nz_fi (e 33 (by decide)))]
  exact h.2
theorem plR_src {W : List Nat} {x : Int32} {F F0 F' : Nat → sy_d} (h : plR W x F0 F') (e : ∀ q, q < 82 → F0 q = F q) : plR W x F F' := by
  obtain ⟨h1, h2⟩ := h
  rw [kg_eq (e 39 (by decide)), tg_eq (nz_fi (e 33 (by decide)))] at h2
  exact ⟨h1.src e, h2⟩
noncomputable def k0_WL : List Nat := [33, 34, 23, 32, 31]
section L0
variable {Ls : Nat} {xs : Nat → Int32} (X1 X2 : List jm_c) (F0 : Nat → sy_d) (r0 : sE ⊕ Nat)
theorem k0l92 (hJ0 : jx_ok F0) (F : Nat → sy_d) (g0 : gc k0_WL F0 F) (h82 : 0 ≤ (sy_i F 82).toInt ∧ (sy_i F 82).toInt ≤ 5) (h83 : 0 ≤ (sy_i F 83).toInt ∧ (sy_i F 83).toInt ≤ 512) (hr : r0 = sM (kg F0) 4 (tg F)) :
    hd_W Ls xs 26 jm_M36 (fun v G => ∃ (x : Int32) (F' : Nat → sy_d), v = some (.int x) ∧ G = sy_dh F' X1 X2 (iv_H 0) ∧ gc k0_WL F0 F' ∧ ((x = 0 ∧ r0 = .inl ((sy_i F' 34).toInt, tg F')) ∨ (x = 1 ∧ r0 = .inr (tg F')))) (92, sy_dL F [some (.inl (.ref 30)), none, some (.inr (.inl 82)), some (.inr (.inl 83)), none], sy_dS F [.inl (.int 59), .inl (.ref 30)], sy_dh F X1 X2 (iv_H 0), 0, 0) := by
  refine hd_calI (R := fun x F' => taR ((59 : Int32)).toInt x F F') (nh := 82) (nv := 84) (s := 0) (s1 := 0) (d1 := 3) (M1 := jm_M43) (As := [.inl (.ref 30), .inl (.int 59)]) (rest := []) jm_ok36 rfl rfl (by decide) (by decide +kernel) (k0ta_T F X1 X2 g0.1 59) (fun F3 F' x hR p1 p2 p3 => ?_)
  have hR : taR 59 x F F' := hR
  obtain ⟨r1, r2⟩ := taR_dst hR p1
  have r2 := r2 (km_in (j := 4) (fun c => km_4) (by decide))
  rw [show km 59 = 4 by decide, kg_eq (g0.2 39 (by decide) (by decide))] at r2
  have g3 : gc k0_WL F0 F3 := g0.trans r1 (by decide)
  have hx : sy_i F3 84 = x := zz_i p3
  have k82 := nz_fi (p2 82 (by decide) (by decide))
  have r2 : (x = 0 ∧ _) ∨ (x = 1 ∧ _) := r2.imp id (fun q => ⟨q.1, q.2.elim (fun a z => by have := z.2; subst this; exact z.1)⟩)
  rw [← hx] at r2
  obtain ⟨y0, y1⟩ := x01 r2
  have k83 := nz_fi (p2 83 (by decide) (by decide))
  refine k0pl_95 (by decide) F3 X1 X2 g3.1 (by omega) (by omega) ?_ ?_ ?_
  all_goals intros
  all_goals
    rename_i F4 hb g e33 e34 e23 a39
    refine ⟨_, F4, rfl, rfl, g3.trans (gc_mk (W := k0_WL) hb g (by decide)) (fun _ q => q), ?_⟩
    rw [tg_eq e33, e34]
    first
      | exact Or.inl ⟨rfl, by rw [hr, y0 (by assumption)]⟩
      | exact Or.inr ⟨rfl, by rw [hr, y1 (by assumption)]⟩
theorem k0l83 (hJ0 : jx_ok F0) (F : Nat → sy_d) (g0 : gc k0_WL F0 F) (h82 : 0 ≤ (sy_i F 82).toInt ∧ (sy_i F 82).toInt ≤ 5) (h83 : 0 ≤ (sy_i F 83).toInt ∧ (sy_i F 83).toInt ≤ 512) (hr : r0 = sLast (kg F0) (tg F)) :
    hd_W Ls xs 26 jm_M36 (fun v G => ∃ (x : Int32) (F' : Nat → sy_d), v = some (.int x) ∧ G = sy_dh F' X1 X2 (iv_H 0) ∧ gc k0_WL F0 F' ∧ ((x = 0 ∧ r0 = .inl ((sy_i F' 34).toInt, tg F')) ∨ (x = 1 ∧ r0 = .inr (tg F')))) (83, sy_dL F [some (.inl (.ref 30)), none, some (.inr (.inl 82)), some (.inr (.inl 83)), none], sy_dS F [.inl (.int 0), .inr (.inl 82), .inl (.ref 30)], sy_dh F X1 X2 (iv_H 0), 0, 0) := by
  have hJ : jx_ok F := jx_ok_eq (g0.2 39 (by decide) (by decide)) (g0.2 41 (by decide) (by decide)) hJ0
  refine hd_calI (R := fun x F' => pR k0_W E2 0 x F F') (nh := 82) (nv := 84) (s := 0) (s1 := 0) (d1 := 24) (M1 := jm_M38) (As := [.inl (.ref 30), .inr (.inl 82), .inl (.int 0)]) (rest := []) jm_ok36 rfl rfl (by decide) (by decide +kernel) (k0_sum X1 X2 F (sy_i F 82) g0.1 hJ h82.1 h82.2) (fun F3 F' x hR p1 p2 p3 => ?_)
  obtain ⟨r1, rl, r2⟩ := pR_dst hR p1
  rw [kg_eq (g0.2 39 (by decide) (by decide))] at r2
  have g3 : gc k0_WL F0 F3 := g0.trans r1 (by decide)
  have c33 := nz_bx g3.1 (k := 33) (lo := 0) (hi := 400) rfl
  have r2 : (x = 0 ∧ eX (kg F0) (tg F) 0 0 = .inl ((sy_i F3 34).toInt, tg F3)) ∨ (x = 1 ∧ eX (kg F0) (tg F) 0 0 = .inr (tg F3)) := r2.imp id (fun q => ⟨q.1, q.2.1.trans (eX_e0 (by unfold tg; omega) q.2.2.2)⟩)
  have hx : sy_i F3 84 = x := zz_i p3
  have k82 := nz_fi (p2 82 (by decide) (by decide))
  rw [← hx] at r2
  obtain ⟨y0, y1⟩ := x01 r2
  have k83 := nz_fi (p2 83 (by decide) (by decide))
  refine k0pl_86 (by decide) F3 X1 X2 g3.1 ?_ ?_
  all_goals intros
  all_goals first
    | (rename_i F4 hb g e33 e34 e23 a39
       refine ⟨_, F4, rfl, rfl, g3.trans (gc_mk (W := k0_WL) hb g (by decide)) (fun _ q => q), ?_⟩
       rw [tg_eq e33, e34]
       exact Or.inl ⟨rfl, by rw [hr, sLast, y0 (by assumption)]; rfl⟩)
    | (rename_i F4 hb g e33 e34 e23 a39 e82 e83
       exact k0l92 X1 X2 F0 r0 hJ0 F4 (g3.trans (gc_mk (W := k0_WL) hb g (by decide)) (fun _ q => q)) (by omega) (by omega) (by rw [hr, sLast, y1 (by assumption), tg_eq e33]; rfl))
theorem k0l30 (hJ0 : jx_ok F0) : ∀ (n : Nat) (F : Nat → sy_d), gc k0_WL F0 F → (0 ≤ (sy_i F 82).toInt ∧ (sy_i F 82).toInt ≤ 5) → (0 ≤ (sy_i F 83).toInt ∧ (sy_i F 83).toInt ≤ 512) → (sy_i F 84).toInt + n = 4 → r0 = sB (sIfs (kg F0) n (tg F)) (sLast (kg F0)) → 0 ≤ (sy_i F 84).toInt →
    hd_W Ls xs 26 jm_M36 (fun v G => ∃ (x : Int32) (F' : Nat → sy_d), v = some (.int x) ∧ G = sy_dh F' X1 X2 (iv_H 0) ∧ gc k0_WL F0 F' ∧ ((x = 0 ∧ r0 = .inl ((sy_i F' 34).toInt, tg F')) ∨ (x = 1 ∧ r0 = .inr (tg F')))) (30, sy_dL F [some (.inl (.ref 30)), none, some (.inr (.inl 82)), some (.inr (.inl 83)), some (.inr (.inl 84))], sy_dS F [], sy_dh F X1 X2 (iv_H 0), 0, 0) := by
  intro n
  induction n with
  | zero =>
    intro F g0 h82 h83 h84 hr h840
    have c33 := nz_bx g0.1 (k := 33) (lo := 0) (hi := 400) rfl
    have eK : kg F0 (tg F) = km ((sy_ai F 39).getD (sy_i F 33).toInt.toNat 0).toInt := by rw [show sy_ai F 39 = sy_ai F0 39 from nz_fa (g0.2 39 (by decide) (by decide))]; rfl
    have m31 : kg F0 (tg F) = 31 ↔ ((sy_ai F 39).getD (sy_i F 33).toInt.toNat 0).toInt = 11 := by rw [eK]; exact km_w (by decide) (by decide)
    refine k0pl_30 (by decide) F X1 X2 g0.1 (by omega) ?_ ?_ ?_ ?_
    all_goals intros
    all_goals first
      | (exfalso; omega)
      | (rename_i F4 hb g e33 e34 e23 a39
         refine ⟨_, F4, rfl, rfl, g0.trans (gc_mk (W := k0_WL) hb g (by decide)) (fun _ q => q), Or.inl ⟨rfl, ?_⟩⟩
         rw [tg_eq e33, e34, hr, c_if0 (kg F0) (by omega)])
      | (rename_i F4 hb g e33 e34 e23 a39 e82 e83
         exact k0l83 X1 X2 F0 r0 hJ0 F4 (g0.trans (gc_mk (W := k0_WL) hb g (by decide)) (fun _ q => q)) (by omega) (by omega) (by rw [hr, c_no (kg F0) (by omega), tg_eq e33]))
  | succ n ih =>
    intro F g0 h82 h83 h84 hr h840
    have c33 := nz_bx g0.1 (k := 33) (lo := 0) (hi := 400) rfl
    have eK : kg F0 (tg F) = km ((sy_ai F 39).getD (sy_i F 33).toInt.toNat 0).toInt := by rw [show sy_ai F 39 = sy_ai F0 39 from nz_fa (g0.2 39 (by decide) (by decide))]; rfl
    have m31 : kg F0 (tg F) = 31 ↔ ((sy_ai F 39).getD (sy_i F 33).toInt.toNat 0).toInt = 11 := by rw [eK]; exact km_w (by decide) (by decide)
    refine k0pl_30 (by decide) F X1 X2 g0.1 (by omega) ?_ ?_ ?_ ?_
    all_goals intros
    all_goals first
      | (exfalso; omega)
      | (rename_i F4 hb g e33 e34 e23 a39 e82 e83
         exact k0l83 X1 X2 F0 r0 hJ0 F4 (g0.trans (gc_mk (W := k0_WL) hb g (by decide)) (fun _ q => q)) (by omega) (by omega) (by rw [hr, c_no (kg F0) (by omega), tg_eq e33]))
      | (rename_i F1 hb1 g1 e33 e34 e23 a39 e82 e83 e84
         have g01 : gc k0_WL F0 F1 := g0.trans (gc_mk (W := k0_WL) hb1 g1 (by decide)) (fun _ q => q)
         have hJ1 : jx_ok F1 := jx_ok_eq (g01.2 39 (by decide) (by decide)) (g01.2 41 (by decide) (by decide)) hJ0
         have hk1 : kg F1 (tg F1) = 31 := by
           rw [kg_eq (g01.2 39 (by decide) (by decide)), tg_eq e33]
           omega
         refine hd_calI (R := fun x F' => piR k0_W x F1 F') (nh := 82) (nv := 85) (s := 0) (s1 := 0) (d1 := 25) (M1 := jm_M37) (As := [.inl (.ref 30), .inr (.inl 82)]) (rest := []) jm_ok36 rfl rfl (by decide) (by decide +kernel) (k0pi_T X1 X2 F1 (sy_i F1 82) hb1 hJ1 (by omega) (by omega) hk1) (fun F3 F' x hR p1 p2 p3 => ?_)
         obtain ⟨r1, r2⟩ := piR_dst hR p1
         have r2 := r2 hk1
         rw [kg_eq (g01.2 39 (by decide) (by decide)), tg_eq e33] at r2
         have g3 : gc k0_WL F0 F3 := g01.trans r1 (by decide)
         have hx : sy_i F3 85 = x := zz_i p3
         have k82 := nz_fi (p2 82 (by decide) (by decide))
         have k83 := nz_fi (p2 83 (by decide) (by decide))
         have k84 := nz_fi (p2 84 (by decide) (by decide))
         rw [← hx] at r2
         obtain ⟨y0, y1⟩ := x01 r2
         have hr2 : r0 = sB (sB (sIf (kg F0) (tg F)) (sIfs (kg F0) n)) (sLast (kg F0)) := by
           rw [hr]
           show sB (if kg F0 (tg F) = 31 then _ else _) _ = _
           rw [if_pos (by omega)]
         refine k0pl_69 (by decide) F3 X1 X2 g3.1 (by omega) ?_ ?_
         · intro q F4 hb g d33 d34 d23 b39 d82 d83 d84
           refine ih F4 (g3.trans (gc_mk (W := k0_WL) hb g (by decide)) (fun _ q => q)) (by omega) (by omega) (by omega) ?_ (by omega)
           rw [hr2, y1 q, tg_eq d33]
           rfl
         · intro q F4 hb g d33 d34 d23 b39
           refine ⟨_, F4, rfl, rfl, g3.trans (gc_mk (W := k0_WL) hb g (by decide)) (fun _ q => q), Or.inl ⟨rfl, ?_⟩⟩
           rw [tg_eq d33, d34, hr2, y0 q]
           rfl)
theorem k0l11 (hJ0 : jx_ok F0) (F : Nat → sy_d) (g0 : gc k0_WL F0 F) (h83 : 0 ≤ (sy_i F 83).toInt ∧ (sy_i F 83).toInt ≤ 5) (hr : r0 = sLw (kg F0) (tg F)) :
    hd_W Ls xs 26 jm_M36 (fun v G => ∃ (x : Int32) (F' : Nat → sy_d), v = some (.int x) ∧ G = sy_dh F' X1 X2 (iv_H 0) ∧ gc k0_WL F0 F' ∧ ((x = 0 ∧ r0 = .inl ((sy_i F' 34).toInt, tg F')) ∨ (x = 1 ∧ r0 = .inr (tg F')))) (11, sy_dL F [some (.inl (.ref 30)), some (.inr (.inl 82)), some (.inr (.inl 83)), none, none], sy_dS F [.inl (.int 61), .inl (.ref 30)], sy_dh F X1 X2 (iv_H 0), 0, 0) := by
  refine hd_calI (R := fun x F' => taR ((61 : Int32)).toInt x F F') (nh := 82) (nv := 84) (s := 0) (s1 := 0) (d1 := 3) (M1 := jm_M43) (As := [.inl (.ref 30), .inl (.int 61)]) (rest := []) jm_ok36 rfl rfl (by decide) (by decide +kernel) (k0ta_T F X1 X2 g0.1 61) (fun F3 F' x hR p1 p2 p3 => ?_)
  have hR : taR 61 x F F' := hR
  obtain ⟨r1, r2⟩ := taR_dst hR p1
  have r2 := r2 (km_in (j := 5) (fun c => km_5) (by decide))
  rw [show km 61 = 5 by decide, kg_eq (g0.2 39 (by decide) (by decide))] at r2
  have g3 : gc k0_WL F0 F3 := g0.trans r1 (by decide)
  have hx : sy_i F3 84 = x := zz_i p3
  have k82 := nz_fi (p2 82 (by decide) (by decide))
  have r2 : (x = 0 ∧ _) ∨ (x = 1 ∧ _) := r2.imp id (fun q => ⟨q.1, q.2.elim (fun a z => by have := z.2; subst this; exact z.1)⟩)
  rw [← hx] at r2
  obtain ⟨y0, y1⟩ := x01 r2
  have k83 := nz_fi (p2 83 (by decide) (by decide))
  have c23 := nz_bx g3.1 (k := 23) (lo := 0) (hi := 512) rfl
  refine k0pl_14 (by decide) F3 X1 X2 g3.1 ?_ ?_
  all_goals intros
  all_goals first
    | (rename_i F4 hb g e33 e34 e23 a39
       refine ⟨_, F4, rfl, rfl, g3.trans (gc_mk (W := k0_WL) hb g (by decide)) (fun _ q => q), Or.inl ⟨rfl, ?_⟩⟩
       rw [tg_eq e33, e34, hr, sLw, y0 (by assumption)]
       rfl)
    | (rename_i F4 hb g e33 e34 e23 a39 e82 e83 e84
       exact k0l30 X1 X2 F0 r0 hJ0 4 F4 (g3.trans (gc_mk (W := k0_WL) hb g (by decide)) (fun _ q => q)) (by omega) (by omega) (by omega) (by rw [hr, sLw, y1 (by assumption), tg_eq e33]; rfl) (by omega))
end L0
theorem k0pl_T {Ls : Nat} {xs : Nat → Int32} (X1 X2 : List jm_c) (F : Nat → sy_d) (a b : Int32) (hB : iv_in F iv_B0) (hJ : jx_ok F) (b0 : 0 ≤ b.toInt) (b5 : b.toInt ≤ 5) (ha : 0 ≤ a.toInt ∧ a.toInt ≤ 22) (hk : ((sy_ai F 39).getD (sy_i F 33).toInt.toNat 0).toInt = a.toInt) : jm_T Ls xs 26 jm_M36 [.ref 30, .int a, .int b] (sy_dh F X1 X2 (iv_H 0)) 0 0 (fun v G => ∃ (x : Int32) (F' : Nat → sy_d), v = some (.int x) ∧ G = sy_dh F' X1 X2 (iv_H 0) ∧ plR k0_WL x F F') := by
  refine nx_T (s := 0) (by decide) F X1 X2 (as := [a, b]) (A := [.inl (.ref 30), .inr (.inl 82), .inr (.inl 83)]) jm_ok36 (by decide) rfl ?_
  obtain ⟨F0, hF0⟩ : ∃ F0, F0 = nx 82 F [a, b] := ⟨_, rfl⟩
  rw [← hF0]
  have k0 : ∀ q, q < 82 → F0 q = F q := by rw [hF0]; exact nx_lt
  have i82 : sy_i F0 82 = a := by rw [hF0]; rfl
  have i83 : sy_i F0 83 = b := by rw [hF0]; rfl
  have hB0 := hd_iveq0 hB k0
  have hJ0 : jx_ok F0 := jx_ok_eq (k0 39 (by decide)) (k0 41 (by decide)) hJ
  have hk0 : kg F0 (tg F0) = km a.toInt := by
    show km ((sy_ai F0 39).getD (sy_i F0 33).toInt.toNat 0).toInt = _
    rw [nz_fa (k0 39 (by decide)), nz_fi (k0 33 (by decide)), hk]
  clear hF0
  refine hd_W_mono (Q := fun v G => ∃ (x : Int32) (F' : Nat → sy_d), v = some (.int x) ∧ G = sy_dh F' X1 X2 (iv_H 0) ∧ gc k0_WL F0 F' ∧ ((x = 0 ∧ plr (kg F0) (tg F0) = .inl ((sy_i F' 34).toInt, tg F')) ∨ (x = 1 ∧ plr (kg F0) (tg F0) = .inr (tg F')))) ?_ (by
    rintro v G ⟨x, F', rfl, rfl, h1, h2⟩
    exact ⟨x, F', rfl, rfl, plR_src ⟨h1, h2⟩ k0⟩)
  refine k0pl_0 (by decide) F0 X1 X2 hB0 ?_
  intro F hb g e33 e34 e23 a39 e82 e83
  have g0 : gc k0_WL F0 F := gc_mk hb g (by decide)
  refine hd_calI (R := fun x F' => taR (sy_i F 82).toInt x F F') (nh := 82) (nv := 84) (s := 0) (s1 := 0) (d1 := 3) (M1 := jm_M43) (As := [.inl (.ref 30), .inr (.inl 82)]) (rest := []) jm_ok36 rfl rfl (by decide) (by decide +kernel) (k0ta_T F X1 X2 g0.1 (sy_i F 82)) (fun F3 F' x hR p1 p2 p3 => ?_)
  obtain ⟨r1, r2⟩ := taR_dst hR p1
  rw [e82, i82] at r2
  have r2 := r2 (fun c z => by
    rw [km_r ha.1 ha.2] at z
    have := (km_w (c := c) (k := a.toInt + 20) (by omega) (by omega)).mp z
    omega)
  rw [kg_eq (g0.2 39 (by decide) (by decide)), tg_eq e33, show sM (kg F0) (km a.toInt) (tg F0) = sG (tg F0) by unfold sM; rw [if_pos hk0]] at r2
  have g3 : gc k0_WL F0 F3 := g0.trans r1 (by decide)
  have hx : sy_i F3 84 = x := zz_i p3
  have k82 := nz_fi (p2 82 (by decide) (by decide))
  have r2 : (x = 0 ∧ _) ∨ (x = 1 ∧ _) := r2.imp id (fun q => ⟨q.1, q.2.elim (fun a z => by have := z.2; subst this; exact z.1)⟩)
  rw [← hx] at r2
  obtain ⟨y0, y1⟩ := x01 r2
  have k83 := nz_fi (p2 83 (by decide) (by decide))
  have j83 : (sy_i F0 83).toInt = b.toInt := by rw [i83]
  refine k0pl_5 (by decide) F3 X1 X2 g3.1 ?_ ?_
  all_goals intros
  all_goals first
    | (rename_i F4 hb g d33 d34 d23 b39
       refine ⟨_, F4, rfl, rfl, g3.trans (gc_mk (W := k0_WL) hb g (by decide)) (fun _ q => q), Or.inl ⟨rfl, ?_⟩⟩
       rw [tg_eq d33, d34, plr, y0 (by assumption)]
       rfl)
    | (rename_i F4 hb g d33 d34 d23 b39 d82 d83
       exact k0l11 X1 X2 F0 _ hJ0 F4 (g3.trans (gc_mk (W := k0_WL) hb g (by decide)) (fun _ q => q)) (by omega) (by rw [plr, y1 (by assumption), tg_eq d33]; rfl))
noncomputable def k3_WL : List Nat := [33, 34, 8, 17, 16]
section L3
variable {Ls : Nat} {xs : Nat → Int32} (X1 X2 : List jm_c) (F0 : Nat → sy_d) (r0 : sE ⊕ Nat)
theorem k3l92 (hJ0 : jx_ok F0) (F : Nat → sy_d) (g0 : gc k3_WL F0 F) (h82 : 0 ≤ (sy_i F 82).toInt ∧ (sy_i F 82).toInt ≤ 5) (h83 : 0 ≤ (sy_i F 83).toInt ∧ (sy_i F 83).toInt ≤ 512) (hr : r0 = sM (kg F0) 4 (tg F)) :
    hd_W Ls xs 26 jm_M36 (fun v G => ∃ (x : Int32) (F' : Nat → sy_d), v = some (.int x) ∧ G = sy_dh F' X1 X2 (iv_H 3) ∧ gc k3_WL F0 F' ∧ ((x = 0 ∧ r0 = .inl ((sy_i F' 34).toInt, tg F')) ∨ (x = 1 ∧ r0 = .inr (tg F')))) (92, sy_dL F [some (.inl (.ref 30)), none, some (.inr (.inl 82)), some (.inr (.inl 83)), none], sy_dS F [.inl (.int 59), .inl (.ref 30)], sy_dh F X1 X2 (iv_H 3), 0, 0) := by
  refine hd_calI (R := fun x F' => taR ((59 : Int32)).toInt x F F') (nh := 82) (nv := 84) (s := 3) (s1 := 3) (d1 := 3) (M1 := jm_M43) (As := [.inl (.ref 30), .inl (.int 59)]) (rest := []) jm_ok36 rfl rfl (by decide) (by decide +kernel) (k3ta_T F X1 X2 g0.1 59) (fun F3 F' x hR p1 p2 p3 => ?_)
  have hR : taR 59 x F F' := hR
  obtain ⟨r1, r2⟩ := taR_dst hR p1
  have r2 := r2 (km_in (j := 4) (fun c => km_4) (by decide))
  rw [show km 59 = 4 by decide, kg_eq (g0.2 39 (by decide) (by decide))] at r2
  have g3 : gc k3_WL F0 F3 := g0.trans r1 (by decide)
  have hx : sy_i F3 84 = x := zz_i p3
  have k82 := nz_fi (p2 82 (by decide) (by decide))
  have r2 : (x = 0 ∧ _) ∨ (x = 1 ∧ _) := r2.imp id (fun q => ⟨q.1, q.2.elim (fun a z => by have := z.2; subst this; exact z.1)⟩)
  rw [← hx] at r2
  obtain ⟨y0, y1⟩ := x01 r2
  have k83 := nz_fi (p2 83 (by decide) (by decide))
  refine k3pl_95 (by decide) F3 X1 X2 g3.1 (by omega) (by omega) ?_ ?_ ?_
  all_goals intros
  all_goals
    rename_i F4 hb g e33 e34 e23 a39
    refine ⟨_, F4, rfl, rfl, g3.trans (gc_mk (W := k3_WL) hb g (by decide)) (fun _ q => q), ?_⟩
    rw [tg_eq e33, e34]
    first
      | exact Or.inl ⟨rfl, by rw [hr, y0 (by assumption)]⟩
      | exact Or.inr ⟨rfl, by rw [hr, y1 (by assumption)]⟩
theorem k3l83 (hJ0 : jx_ok F0) (F : Nat → sy_d) (g0 : gc k3_WL F0 F) (h82 : 0 ≤ (sy_i F 82).toInt ∧ (sy_i F 82).toInt ≤ 5) (h83 : 0 ≤ (sy_i F 83).toInt ∧ (sy_i F 83).toInt ≤ 512) (hr : r0 = sLast (kg F0) (tg F)) :
    hd_W Ls xs 26 jm_M36 (fun v G => ∃ (x : Int32) (F' : Nat → sy_d), v = some (.int x) ∧ G = sy_dh F' X1 X2 (iv_H 3) ∧ gc k3_WL F0 F' ∧ ((x = 0 ∧ r0 = .inl ((sy_i F' 34).toInt, tg F')) ∨ (x = 1 ∧ r0 = .inr (tg F')))) (83, sy_dL F [some (.inl (.ref 30)), none, some (.inr (.inl 82)), some (.inr (.inl 83)), none], sy_dS F [.inl (.int 0), .inr (.inl 82), .inl (.ref 30)], sy_dh F X1 X2 (iv_H 3), 0, 0) := by
  have hJ : jx_ok F := jx_ok_eq (g0.2 39 (by decide) (by decide)) (g0.2 41 (by decide) (by decide)) hJ0
  refine hd_calI (R := fun x F' => pR k3_W E2 0 x F F') (nh := 82) (nv := 84) (s := 3) (s1 := 3) (d1 := 24) (M1 := jm_M38) (As := [.inl (.ref 30), .inr (.inl 82), .inl (.int 0)]) (rest := []) jm_ok36 rfl rfl (by decide) (by decide +kernel) (k3_sum X1 X2 F (sy_i F 82) g0.1 hJ h82.1 h82.2) (fun F3 F' x hR p1 p2 p3 => ?_)
  obtain ⟨r1, rl, r2⟩ := pR_dst hR p1
  rw [kg_eq (g0.2 39 (by decide) (by decide))] at r2
  have g3 : gc k3_WL F0 F3 := g0.trans r1 (by decide)
  have c33 := nz_bx g3.1 (k := 33) (lo := 0) (hi := 400) rfl
  have r2 : (x = 0 ∧ eX (kg F0) (tg F) 0 0 = .inl ((sy_i F3 34).toInt, tg F3)) ∨ (x = 1 ∧ eX (kg F0) (tg F) 0 0 = .inr (tg F3)) := r2.imp id (fun q => ⟨q.1, q.2.1.trans (eX_e0 (by unfold tg; omega) q.2.2.2)⟩)
  have hx : sy_i F3 84 = x := zz_i p3
  have k82 := nz_fi (p2 82 (by decide) (by decide))
  rw [← hx] at r2
  obtain ⟨y0, y1⟩ := x01 r2
  have k83 := nz_fi (p2 83 (by decide) (by decide))
  refine k3pl_86 (by decide) F3 X1 X2 g3.1 ?_ ?_
  all_goals intros
  all_goals first
    | (rename_i F4 hb g e33 e34 e23 a39
       refine ⟨_, F4, rfl, rfl, g3.trans (gc_mk (W := k3_WL) hb g (by decide)) (fun _ q => q), ?_⟩
       rw [tg_eq e33, e34]
       exact Or.inl ⟨rfl, by rw [hr, sLast, y0 (by assumption)]; rfl⟩)
    | (rename_i F4 hb g e33 e34 e23 a39 e82 e83
       exact k3l92 X1 X2 F0 r0 hJ0 F4 (g3.trans (gc_mk (W := k3_WL) hb g (by decide)) (fun _ q => q)) (by omega) (by omega) (by rw [hr, sLast, y1 (by assumption), tg_eq e33]; rfl))
theorem k3l30 (hJ0 : jx_ok F0) : ∀ (n : Nat) (F : Nat → sy_d), gc k3_WL F0 F → (0 ≤ (sy_i F 82).toInt ∧ (sy_i F 82).toInt ≤ 5) → (0 ≤ (sy_i F 83).toInt ∧ (sy_i F 83).toInt ≤ 512) → (sy_i F 84).toInt + n = 4 → r0 = sB (sIfs (kg F0) n (tg F)) (sLast (kg F0)) → 0 ≤ (sy_i F 84).toInt →
    hd_W Ls xs 26 jm_M36 (fun v G => ∃ (x : Int32) (F' : Nat → sy_d), v = some (.int x) ∧ G = sy_dh F' X1 X2 (iv_H 3) ∧ gc k3_WL F0 F' ∧ ((x = 0 ∧ r0 = .inl ((sy_i F' 34).toInt, tg F')) ∨ (x = 1 ∧ r0 = .inr (tg F')))) (30, sy_dL F [some (.inl (.ref 30)), none, some (.inr (.inl 82)), some (.inr (.inl 83)), some (.inr (.inl 84))], sy_dS F [], sy_dh F X1 X2 (iv_H 3), 0, 0) := by
  intro n
  induction n with
  | zero =>
    intro F g0 h82 h83 h84 hr h840
    have c33 := nz_bx g0.1 (k := 33) (lo := 0) (hi := 400) rfl
    have eK : kg F0 (tg F) = km ((sy_ai F 39).getD (sy_i F 33).toInt.toNat 0).toInt := by rw [show sy_ai F 39 = sy_ai F0 39 from nz_fa (g0.2 39 (by decide) (by decide))]; rfl
    have m31 : kg F0 (tg F) = 31 ↔ ((sy_ai F 39).getD (sy_i F 33).toInt.toNat 0).toInt = 11 := by rw [eK]; exact km_w (by decide) (by decide)
    refine k3pl_30 (by decide) F X1 X2 g0.1 (by omega) ?_ ?_ ?_ ?_
    all_goals intros
    all_goals first
      | (exfalso; omega)
      | (rename_i F4 hb g e33 e34 e23 a39
         refine ⟨_, F4, rfl, rfl, g0.trans (gc_mk (W := k3_WL) hb g (by decide)) (fun _ q => q), Or.inl ⟨rfl, ?_⟩⟩
         rw [tg_eq e33, e34, hr, c_if0 (kg F0) (by omega)])
      | (rename_i F4 hb g e33 e34 e23 a39 e82 e83
         exact k3l83 X1 X2 F0 r0 hJ0 F4 (g0.trans (gc_mk (W := k3_WL) hb g (by decide)) (fun _ q => q)) (by omega) (by omega) (by rw [hr, c_no (kg F0) (by omega), tg_eq e33]))
  | succ n ih =>
    intro F g0 h82 h83 h84 hr h840
    have c33 := nz_bx g0.1 (k := 33) (lo := 0) (hi := 400) rfl
    have eK : kg F0 (tg F) = km ((sy_ai F 39).getD (sy_i F 33).toInt.toNat 0).toInt := by rw [show sy_ai F 39 = sy_ai F0 39 from nz_fa (g0.2 39 (by decide) (by decide))]; rfl
    have m31 : kg F0 (tg F) = 31 ↔ ((sy_ai F 39).getD (sy_i F 33).toInt.toNat 0).toInt = 11 := by rw [eK]; exact km_w (by decide) (by decide)
    refine k3pl_30 (by decide) F X1 X2 g0.1 (by omega) ?_ ?_ ?_ ?_
    all_goals intros
    all_goals first
      | (exfalso; omega)
      | (rename_i F4 hb g e33 e34 e23 a39 e82 e83
         exact k3l83 X1 X2 F0 r0 hJ0 F4 (g0.trans (gc_mk (W := k3_WL) hb g (by decide)) (fun _ q => q)) (by omega) (by omega) (by rw [hr, c_no (kg F0) (by omega), tg_eq e33]))
      | (rename_i F1 hb1 g1 e33 e34 e23 a39 e82 e83 e84
         have g01 : gc k3_WL F0 F1 := g0.trans (gc_mk (W := k3_WL) hb1 g1 (by decide)) (fun _ q => q)
         have hJ1 : jx_ok F1 := jx_ok_eq (g01.2 39 (by decide) (by decide)) (g01.2 41 (by decide) (by decide)) hJ0
         have hk1 : kg F1 (tg F1) = 31 := by
           rw [kg_eq (g01.2 39 (by decide) (by decide)), tg_eq e33]
           omega
         refine hd_calI (R := fun x F' => piR k3_W x F1 F') (nh := 82) (nv := 85) (s := 3) (s1 := 3) (d1 := 25) (M1 := jm_M37) (As := [.inl (.ref 30), .inr (.inl 82)]) (rest := []) jm_ok36 rfl rfl (by decide) (by decide +kernel) (k3pi_T X1 X2 F1 (sy_i F1 82) hb1 hJ1 (by omega) (by omega) hk1) (fun F3 F' x hR p1 p2 p3 => ?_)
         obtain ⟨r1, r2⟩ := piR_dst hR p1
         have r2 := r2 hk1
         rw [kg_eq (g01.2 39 (by decide) (by decide)), tg_eq e33] at r2
         have g3 : gc k3_WL F0 F3 := g01.trans r1 (by decide)
         have hx : sy_i F3 85 = x := zz_i p3
         have k82 := nz_fi (p2 82 (by decide) (by decide))
         have k83 := nz_fi (p2 83 (by decide) (by decide))
         have k84 := nz_fi (p2 84 (by decide) (by decide))
         rw [← hx] at r2
         obtain ⟨y0, y1⟩ := x01 r2
         have hr2 : r0 = sB (sB (sIf (kg F0) (tg F)) (sIfs (kg F0) n)) (sLast (kg F0)) := by
           rw [hr]
           show sB (if kg F0 (tg F) = 31 then _ else _) _ = _
           rw [if_pos (by omega)]
         refine k3pl_69 (by decide) F3 X1 X2 g3.1 (by omega) ?_ ?_
         · intro q F4 hb g d33 d34 d23 b39 d82 d83 d84
           refine ih F4 (g3.trans (gc_mk (W := k3_WL) hb g (by decide)) (fun _ q => q)) (by omega) (by omega) (by omega) ?_ (by omega)
           rw [hr2, y1 q, tg_eq d33]
           rfl
         · intro q F4 hb g d33 d34 d23 b39
           refine ⟨_, F4, rfl, rfl, g3.trans (gc_mk (W := k3_WL) hb g (by decide)) (fun _ q => q), Or.inl ⟨rfl, ?_⟩⟩
           rw [tg_eq d33, d34, hr2, y0 q]
           rfl)
theorem k3l11 (hJ0 : jx_ok F0) (F : Nat → sy_d) (g0 : gc k3_WL F0 F) (h83 : 0 ≤ (sy_i F 83).toInt ∧ (sy_i F 83).toInt ≤ 5) (hr : r0 = sLw (kg F0) (tg F)) :
    hd_W Ls xs 26 jm_M36 (fun v G => ∃ (x : Int32) (F' : Nat → sy_d), v = some (.int x) ∧ G = sy_dh F' X1 X2 (iv_H 3) ∧ gc k3_WL F0 F' ∧ ((x = 0 ∧ r0 = .inl ((sy_i F' 34).toInt, tg F')) ∨ (x = 1 ∧ r0 = .inr (tg F')))) (11, sy_dL F [some (.inl (.ref 30)), some (.inr (.inl 82)), some (.inr (.inl 83)), none, none], sy_dS F [.inl (.int 61), .inl (.ref 30)], sy_dh F X1 X2 (iv_H 3), 0, 0) := by
  refine hd_calI (R := fun x F' => taR ((61 : Int32)).toInt x F F') (nh := 82) (nv := 84) (s := 3) (s1 := 3) (d1 := 3) (M1 := jm_M43) (As := [.inl (.ref 30), .inl (.int 61)]) (rest := []) jm_ok36 rfl rfl (by decide) (by decide +kernel) (k3ta_T F X1 X2 g0.1 61) (fun F3 F' x hR p1 p2 p3 => ?_)
  have hR : taR 61 x F F' := hR
  obtain ⟨r1, r2⟩ := taR_dst hR p1
  have r2 := r2 (km_in (j := 5) (fun c => km_5) (by decide))
  rw [show km 61 = 5 by decide, kg_eq (g0.2 39 (by decide) (by decide))] at r2
  have g3 : gc k3_WL F0 F3 := g0.trans r1 (by decide)
  have hx : sy_i F3 84 = x := zz_i p3
  have k82 := nz_fi (p2 82 (by decide) (by decide))
  have r2 : (x = 0 ∧ _) ∨ (x = 1 ∧ _) := r2.imp id (fun q => ⟨q.1, q.2.elim (fun a z => by have := z.2; subst this; exact z.1)⟩)
  rw [← hx] at r2
  obtain ⟨y0, y1⟩ := x01 r2
  have k83 := nz_fi (p2 83 (by decide) (by decide))
  have c23 := nz_bx g3.1 (k := 8) (lo := 0) (hi := 512) rfl
  refine k3pl_14 (by decide) F3 X1 X2 g3.1 ?_ ?_
  all_goals intros
  all_goals first
    | (rename_i F4 hb g e33 e34 e23 a39
       refine ⟨_, F4, rfl, rfl, g3.trans (gc_mk (W := k3_WL) hb g (by decide)) (fun _ q => q), Or.inl ⟨rfl, ?_⟩⟩
       rw [tg_eq e33, e34, hr, sLw, y0 (by assumption)]
       rfl)
    | (rename_i F4 hb g e33 e34 e23 a39 e82 e83 e84
       exact k3l30 X1 X2 F0 r0 hJ0 4 F4 (g3.trans (gc_mk (W := k3_WL) hb g (by decide)) (fun _ q => q)) (by omega) (by omega) (by omega) (by rw [hr, sLw, y1 (by assumption), tg_eq e33]; rfl) (by omega))
end L3
theorem k3pl_T {Ls : Nat} {xs : Nat → Int32} (X1 X2 : List jm_c) (F : Nat → sy_d) (a b : Int32) (hB : iv_in F iv_B0) (hJ : jx_ok F) (b0 : 0 ≤ b.toInt) (b5 : b.toInt ≤ 5) (ha : 0 ≤ a.toInt ∧ a.toInt ≤ 22) (hk : ((sy_ai F 39).getD (sy_i F 33).toInt.toNat 0).toInt = a.toInt) : jm_T Ls xs 26 jm_M36 [.ref 30, .int a, .int b] (sy_dh F X1 X2 (iv_H 3)) 0 0 (fun v G => ∃ (x : Int32) (F' : Nat → sy_d), v = some (.int x) ∧ G = sy_dh F' X1 X2 (iv_H 3) ∧ plR k3_WL x F F') := by
  refine nx_T (s := 3) (by decide) F X1 X2 (as := [a, b]) (A := [.inl (.ref 30), .inr (.inl 82), .inr (.inl 83)]) jm_ok36 (by decide) rfl ?_
  obtain ⟨F0, hF0⟩ : ∃ F0, F0 = nx 82 F [a, b] := ⟨_, rfl⟩
  rw [← hF0]
  have k0 : ∀ q, q < 82 → F0 q = F q := by rw [hF0]; exact nx_lt
  have i82 : sy_i F0 82 = a := by rw [hF0]; rfl
  have i83 : sy_i F0 83 = b := by rw [hF0]; rfl
  have hB0 := hd_iveq0 hB k0
  have hJ0 : jx_ok F0 := jx_ok_eq (k0 39 (by decide)) (k0 41 (by decide)) hJ
  have hk0 : kg F0 (tg F0) = km a.toInt := by
    show km ((sy_ai F0 39).getD (sy_i F0 33).toInt.toNat 0).toInt = _
    rw [nz_fa (k0 39 (by decide)), nz_fi (k0 33 (by decide)), hk]
  clear hF0
  refine hd_W_mono (Q := fun v G => ∃ (x : Int32) (F' : Nat → sy_d), v = some (.int x) ∧ G = sy_dh F' X1 X2 (iv_H 3) ∧ gc k3_WL F0 F' ∧ ((x = 0 ∧ plr (kg F0) (tg F0) = .inl ((sy_i F' 34).toInt, tg F')) ∨ (x = 1 ∧ plr (kg F0) (tg F0) = .inr (tg F')))) ?_ (by
    rintro v G ⟨x, F', rfl, rfl, h1, h2⟩
    exact ⟨x, F', rfl, rfl, plR_src ⟨h1, h2⟩ k0⟩)
  refine k3pl_0 (by decide) F0 X1 X2 hB0 ?_
  intro F hb g e33 e34 e23 a39 e82 e83
  have g0 : gc k3_WL F0 F := gc_mk hb g (by decide)
  refine hd_calI (R := fun x F' => taR (sy_i F 82).toInt x F F') (nh := 82) (nv := 84) (s := 3) (s1 := 3) (d1 := 3) (M1 := jm_M43) (As := [.inl (.ref 30), .inr (.inl 82)]) (rest := []) jm_ok36 rfl rfl (by decide) (by decide +kernel) (k3ta_T F X1 X2 g0.1 (sy_i F 82)) (fun F3 F' x hR p1 p2 p3 => ?_)
  obtain ⟨r1, r2⟩ := taR_dst hR p1
  rw [e82, i82] at r2
  have r2 := r2 (fun c z => by
    rw [km_r ha.1 ha.2] at z
    have := (km_w (c := c) (k := a.toInt + 20) (by omega) (by omega)).mp z
    omega)
  rw [kg_eq (g0.2 39 (by decide) (by decide)), tg_eq e33, show sM (kg F0) (km a.toInt) (tg F0) = sG (tg F0) by unfold sM; rw [if_pos hk0]] at r2
  have g3 : gc k3_WL F0 F3 := g0.trans r1 (by decide)
  have hx : sy_i F3 84 = x := zz_i p3
  have k82 := nz_fi (p2 82 (by decide) (by decide))
  have r2 : (x = 0 ∧ _) ∨ (x = 1 ∧ _) := r2.imp id (fun q => ⟨q.1, q.2.elim (fun a z => by have := z.2; subst this; exact z.1)⟩)
  rw [← hx] at r2
  obtain ⟨y0, y1⟩ := x01 r2
  have k83 := nz_fi (p2 83 (by decide) (by decide))
  have j83 : (sy_i F0 83).toInt = b.toInt := by rw [i83]
  refine k3pl_5 (by decide) F3 X1 X2 g3.1 ?_ ?_
  all_goals intros
  all_goals first
    | (rename_i F4 hb g d33 d34 d23 b39
       refine ⟨_, F4, rfl, rfl, g3.trans (gc_mk (W := k3_WL) hb g (by decide)) (fun _ q => q), Or.inl ⟨rfl, ?_⟩⟩
       rw [tg_eq d33, d34, plr, y0 (by assumption)]
       rfl)
    | (rename_i F4 hb g d33 d34 d23 b39 d82 d83
       exact k3l11 X1 X2 F0 _ hJ0 F4 (g3.trans (gc_mk (W := k3_WL) hb g (by decide)) (fun _ q => q)) (by omega) (by rw [plr, y1 (by assumption), tg_eq d33]; rfl))
