section
/-! ===== the class parses an if: the cells ===== -/
theorem sG_r {t t' : Nat} (h : sG t = .inr t') : t' = t + 1 := by
  unfold sG at h
  by_cases q2 : t = 400
  · rw [if_pos q2] at h
    exact absurd h (by simp)
  · rw [if_neg q2] at h
    exact (Sum.inr.inj h).symm
theorem i32_s {x : Int32} (h0 : 0 ≤ x.toInt) (h1 : x.toInt ≤ 512) : (x + 1).toInt = x.toInt + 1 := by
  rw [Int32.toInt_add, show (1 : Int32).toInt = 1 by decide]
  exact Int.bmod_eq_of_le (by omega) (by omega)
theorem clc_push {code : List Int32} {c : Nat} {v : Int32} {L : List Int} (h : clc code c L.length = L) : clc (jm_upd code (c + L.length) v) c (L.length + 1) = L ++ [v.toInt] := by
  show clc _ _ L.length ++ [((jm_upd code (c + L.length) v).getD (c + L.length) 0).toInt] = _
  rw [clc_eq (a := code) _ (fun i _ h2 => by rw [jm_upd_at, if_neg (by omega)]), h, jm_upd_at, if_pos rfl]
theorem Cl_end {cs co : Nat} {F0 F F1 : Nat → sy_d} {A M : List Int} {x : Int} {v w : Int32} {p : Nat} (h0 : 0 ≤ (sy_i F0 cs).toInt) (h : Cl cs co F0 F (A ++ x :: M)) (e1 : (sy_i F1 cs).toInt = (sy_i F cs).toInt + 1) (e2 : sy_ai F1 co = jm_upd (jm_upd (sy_ai F co) ((sy_i F cs).toInt).toNat v) p w) (hp : p = (sy_i F0 cs).toInt.toNat + A.length) (e3 : (sy_i F1 cs).toInt + tg F0 ≤ (sy_i F0 cs).toInt + tg F1) : Cl cs co F0 F1 (A ++ w.toInt :: (M ++ [v.toInt])) := by
  obtain ⟨a1, a2, a3, a4⟩ := h
  have n1 : (A ++ x :: M).length = A.length + (M.length + 1) := by rw [List.length_append]; rfl
  have n2 : (A ++ w.toInt :: (M ++ [v.toInt])).length = A.length + (M.length + 1) + 1 := by simp; omega
  have n3 : (A ++ x :: (M ++ [v.toInt])).length = A.length + (M.length + 1) + 1 := by simp; omega
  have q := clc_push (v := v) a4
  rw [List.append_assoc, List.cons_append, n1] at q
  have q2 := clc_put (v := w) (M ++ [v.toInt]) x A (by rw [n3]; exact q)
  refine ⟨by rw [n2, e1]; rw [n1] at a1; omega, e3, fun i hi => by rw [e2, jm_upd_at, if_neg (by omega), jm_upd_at, if_neg (by omega), a3 i hi], ?_⟩
  rw [n3] at q2
  rw [n2, e2, hp, show ((sy_i F cs).toInt).toNat = (sy_i F0 cs).toInt.toNat + (A.length + (M.length + 1)) by rw [n1] at a1; omega]
  exact q2
abbrev bF : Type := (List bRT → Nat → sE ⊕ (Nat × List bRT)) → List bRT → sE ⊕ (Nat × List bRT)
noncomputable def ziC (cs co : Nat) (R0 : bF) (a : Int) (F0 F' : Nat → sy_d) : Prop := tg F0 < tg F' ∧ ∃ b : bRT, (∀ f acc, R0 f acc = f (acc ++ [b]) (tg F')) ∧ Cl cs co F0 F' (lcs a (sy_i F0 cs).toInt.toNat [b])
noncomputable def piZ (cs co : Nat) (W : List Nat) (a : Int) (x : Int32) (F F' : Nat → sy_d) : Prop := piR W x F F' ∧ (x = 1 → ziC cs co (fun f acc => sB (sG (tg F)) (zc1 (kg F) (vg F) f acc)) a F F')
theorem ziC_dst {cs co : Nat} {R0 : bF} {a : Int} {F0 F F2 : Nat → sy_d} (h : ziC cs co R0 a F0 F) (e : ∀ q, q < 82 → F2 q = F q) (h1 : cs < 82) (h2 : co < 82) : ziC cs co R0 a F0 F2 := by
  obtain ⟨h0, b, hb, hc⟩ := h
  have et := tg_eq (nz_fi (e 33 (by decide)))
  exact ⟨by rw [et]; exact h0, b, fun f acc => by rw [et]; exact hb f acc, Cl_q hc e h1 h2⟩
theorem piZ_src {cs co : Nat} {W : List Nat} {a : Int} {x : Int32} {F F0 F' : Nat → sy_d} (h : piZ cs co W a x F0 F') (e : ∀ q, q < 82 → F0 q = F q) (h1 : cs < 82) (h2 : co < 82) : piZ cs co W a x F F' := by
  refine ⟨piR_src h.1 e, fun z => ?_⟩
  obtain ⟨h0, b, hb, hc⟩ := h.2 z
  have et := tg_eq (nz_fi (e 33 (by decide)))
  rw [kg_eq (e 39 (by decide)), vg_eq (e 41 (by decide)), et] at hb
  rw [nz_fi (e cs h1)] at hc
  exact ⟨by rw [← et]; exact h0, b, hb, Cl_src hc e h1 h2⟩
section IZ0
variable {Ls : Nat} {xs : Nat → Int32} (X1 X2 : List jm_c) (F0 : Nat → sy_d) (r0 : sE ⊕ Nat) (R0 : bF) (al : Int)
theorem k0y94 (hJ0 : jx_ok F0) (hcs0 : (sy_i F0 23).toInt ≤ 12 + tg F0) (cC : 0 ≤ (sy_i F0 23).toInt) (F : Nat → sy_d) (u v w : List rO) (g0 : gc k0_W F0 F) (h82 : 0 ≤ (sy_i F 82).toInt ∧ (sy_i F 82).toInt ≤ 5) (hal : (sy_i F 82).toInt = al) (h83 : 0 ≤ (sy_i F 83).toInt ∧ (sy_i F 83).toInt ≤ 512) (h83e : (sy_i F 83).toInt = (sy_i F0 23).toInt + u.length + v.length + 1) (hr : r0 = i6 (kg F0) (tg F)) (hz : ∀ f acc, R0 f acc = zc6 (kg F0) f acc u v w (tg F)) (hC : Cl 23 32 F0 F ((((u.map (cell al)) ++ (v.map (cell al))) ++ [-15, 0]) ++ (w.map (cell al)))) (hsl : (sy_i F 23).toInt + tg F0 + 1 ≤ (sy_i F0 23).toInt + tg F) (htg : tg F0 < tg F) :
    hd_W Ls xs 25 jm_M37 (fun v G => ∃ (x : Int32) (F' : Nat → sy_d), v = some (.int x) ∧ G = sy_dh F' X1 X2 (iv_H 0) ∧ gc k0_W F0 F' ∧ ((x = 0 ∧ r0 = .inl ((sy_i F' 34).toInt, tg F')) ∨ (x = 1 ∧ r0 = .inr (tg F'))) ∧ (x = 1 → ziC 23 32 R0 al F0 F')) (94, sy_dL F [some (.inl (.ref 30)), some (.inr (.inl 82)), none, some (.inr (.inl 83))], sy_dS F [.inl (.int 13), .inl (.ref 30)], sy_dh F X1 X2 (iv_H 0), 0, 0) := by
  refine hd_calI (R := fun x F' => taR ((13 : Int32)).toInt x F F') (nh := 82) (nv := 84) (s := 0) (s1 := 0) (d1 := 3) (M1 := jm_M43) (As := [.inl (.ref 30), .inl (.int 13)]) (rest := []) jm_ok37 rfl rfl (by decide) (by decide +kernel) (k0ta_T F X1 X2 g0.1 13) (fun F3 F' x hR p1 p2 p3 => ?_)
  have hR : taR 13 x F F' := hR
  obtain ⟨r1, r2⟩ := taR_dst hR p1
  have r2 := r2 (km_in (j := 33) (fun c => km_w (by decide) (by decide)) (by decide))
  rw [show km 13 = 33 by decide, kg_eq (g0.2 39 (by decide) (by decide))] at r2
  have g3 : gc k0_W F0 F3 := g0.trans r1 (by decide)
  have hx : sy_i F3 84 = x := zz_i p3
  have k82 := nz_fi (p2 82 (by decide) (by decide))
  have r2 : (x = 0 ∧ _) ∨ (x = 1 ∧ _) := r2.imp id (fun q => ⟨q.1, q.2.elim (fun a z => by have := z.2; subst this; exact z.1)⟩)
  rw [← hx] at r2
  obtain ⟨y0, y1⟩ := x01 r2
  have ty : (sy_i F3 84).toInt ≠ 0 → tg F3 = tg F + 1 := fun q => sM_r (y1 q)
  have ec : (sy_i F3 23).toInt = (sy_i F 23).toInt := nz_fi (r1.2 23 (by decide) (by decide))
  have ea : sy_ai F3 32 = sy_ai F 32 := nz_fa (r1.2 32 (by decide) (by decide))
  have t4 : (tg F3 : Int) ≤ 400 := by
    have := nz_bx g3.1 (k := 33) (lo := 0) (hi := 400) rfl
    unfold tg
    omega
  have k83 := nz_fi (p2 83 (by decide) (by decide))
  have hC3 := Cl_dst hC ec ea
  have nC := hC.1
  simp only [List.length_append, List.length_map, List.length_cons, List.length_nil] at nC
  have cC3 := nz_bx g3.1 (k := 23) (lo := 0) (hi := 512) rfl
  refine k0zi_97 (by decide) F3 X1 X2 g3.1 (by omega) ?_ ?_ ?_ ?_ ?_
  all_goals intros
  all_goals first
    | (rename_i F4 hb g e33 e34 eC a39 aC
       refine ⟨_, F4, rfl, rfl, g3.trans (gc_mk (W := k0_W) hb g (by decide)) (fun _ q => q), ?_, fun zz => absurd zz (by decide)⟩
       rw [tg_eq e33, e34]
       exact Or.inl ⟨rfl, by rw [hr, i6, y0 (by assumption)]⟩)
    | (have tt := ty (by assumption)
       exfalso
       omega)
    | (rename_i F4 hb g e33 e34 eC a39 aC
       have tt := ty (by assumption)
       have y := y1 (by assumption)
       have te := tg_eq e33
       refine ⟨_, F4, rfl, rfl, g3.trans (gc_mk (W := k0_W) hb g (by decide)) (fun _ q => q), Or.inr ⟨rfl, by rw [te, hr, i6, y]⟩, fun _ => ⟨by omega, (some (u, v), w), fun f acc => by rw [hz, zc6, y, te]; rfl, ?_⟩⟩
       have q := Cl_end (A := u.map (cell al) ++ v.map (cell al) ++ [-15]) (x := 0) (M := w.map (cell al)) cC (by
         have h := hC3 (by omega)
         rw [List.append_assoc, List.append_assoc, show ([-15, 0] : List Int) ++ w.map (cell al) = [-15] ++ (0 :: w.map (cell al)) from rfl, ← List.append_assoc, ← List.append_assoc] at h
         exact h) eC aC (by simp only [List.length_append, List.length_map, List.length_cons, List.length_nil]; omega) (by omega)
       rw [i32_s cC3.1 cC3.2, show ((-14 : Int32)).toInt = -14 by decide] at q
       have e : lcs al (sy_i F0 23).toInt.toNat [(some (u, v), w)] = u.map (cell al) ++ v.map (cell al) ++ [-15] ++ (((sy_i F3 23).toInt + 1) :: (w.map (cell al) ++ [-14])) := by
         show (_ ++ _ ++ [-15, (((sy_i F0 23).toInt.toNat + u.length + v.length + w.length + 3 : Nat) : Int)] ++ _ ++ [-14]) ++ [] = _
         rw [show (((sy_i F0 23).toInt.toNat + u.length + v.length + w.length + 3 : Nat) : Int) = (sy_i F3 23).toInt + 1 by omega]
         simp
       rw [e]
       exact q)
theorem k0y85 (hJ0 : jx_ok F0) (hcs0 : (sy_i F0 23).toInt ≤ 12 + tg F0) (cC : 0 ≤ (sy_i F0 23).toInt) (F : Nat → sy_d) (u v : List rO) (g0 : gc k0_W F0 F) (h82 : 0 ≤ (sy_i F 82).toInt ∧ (sy_i F 82).toInt ≤ 5) (hal : (sy_i F 82).toInt = al) (h83 : 0 ≤ (sy_i F 83).toInt ∧ (sy_i F 83).toInt ≤ 512) (h83e : (sy_i F 83).toInt = (sy_i F0 23).toInt + u.length + v.length + 1) (hr : r0 = i5 (kg F0) (tg F)) (hz : ∀ f acc, R0 f acc = zc5 (kg F0) (vg F0) f acc u v (tg F)) (hC : Cl 23 32 F0 F (((u.map (cell al)) ++ (v.map (cell al))) ++ [-15, 0])) (hsl : (sy_i F 23).toInt + tg F0 + 1 ≤ (sy_i F0 23).toInt + tg F) (htg : tg F0 < tg F) :
    hd_W Ls xs 25 jm_M37 (fun v G => ∃ (x : Int32) (F' : Nat → sy_d), v = some (.int x) ∧ G = sy_dh F' X1 X2 (iv_H 0) ∧ gc k0_W F0 F' ∧ ((x = 0 ∧ r0 = .inl ((sy_i F' 34).toInt, tg F')) ∨ (x = 1 ∧ r0 = .inr (tg F'))) ∧ (x = 1 → ziC 23 32 R0 al F0 F')) (85, sy_dL F [some (.inl (.ref 30)), some (.inr (.inl 82)), none, some (.inr (.inl 83))], sy_dS F [.inl (.int 0), .inr (.inl 82), .inl (.ref 30)], sy_dh F X1 X2 (iv_H 0), 0, 0) := by
  have hJ : jx_ok F := jx_ok_eq (g0.2 39 (by decide) (by decide)) (g0.2 41 (by decide) (by decide)) hJ0
  refine hd_calI (R := fun x F' => zR 23 32 2 k0_W E2 0 (sy_i F 82).toInt x F F') (nh := 82) (nv := 84) (s := 0) (s1 := 0) (d1 := 24) (M1 := jm_M38) (As := [.inl (.ref 30), .inr (.inl 82), .inl (.int 0)]) (rest := []) jm_ok37 rfl rfl (by decide) (by decide +kernel) (k0_sumz X1 X2 F (sy_i F 82) g0.1 hJ (by omega) h82.1 h82.2) (fun F3 F' x hR0 p1 p2 p3 => ?_)
  have hR := hR0.1
  obtain ⟨r1, rl, r2⟩ := pR_dst hR p1
  rw [kg_eq (g0.2 39 (by decide) (by decide))] at r2
  have g3 : gc k0_W F0 F3 := g0.trans r1 (fun _ q => q)
  have c33 := nz_bx g3.1 (k := 33) (lo := 0) (hi := 400) rfl
  have hx : sy_i F3 84 = x := zz_i p3
  have hops : (sy_i F3 84).toInt ≠ 0 → ∃ ops, cX (kg F0) (vg F0) (tg F) [] 0 [] = .inr (tg F3, ops) ∧ Cl 23 32 F F3 (ops.map (cell al)) := fun q => by
    rcases r2 with ⟨q1, -⟩ | ⟨q1, -, -, q4⟩
    · rw [hx, q1] at q
      exact absurd (by decide) q
    · have z := zE_run (zE_dst (hR0.2 q1) p1 (by decide) (by decide)) (by unfold tg; omega) (by rw [kg_eq (g0.2 39 (by decide) (by decide))]; exact q4)
      rw [kg_eq (g0.2 39 (by decide) (by decide)), vg_eq (g0.2 41 (by decide) (by decide)), hal] at z
      exact z
  have r2 : (x = 0 ∧ eX (kg F0) (tg F) 0 0 = .inl ((sy_i F3 34).toInt, tg F3)) ∨ (x = 1 ∧ eX (kg F0) (tg F) 0 0 = .inr (tg F3)) := r2.imp id (fun q => ⟨q.1, q.2.1.trans (eX_e0 (by unfold tg; omega) q.2.2.2)⟩)
  have k82 := nz_fi (p2 82 (by decide) (by decide))
  rw [← hx] at r2
  obtain ⟨y0, y1⟩ := x01 r2
  have t4 : (tg F3 : Int) ≤ 400 := by
    have := nz_bx g3.1 (k := 33) (lo := 0) (hi := 400) rfl
    unfold tg
    omega
  have k83 := nz_fi (p2 83 (by decide) (by decide))
  refine k0zi_88 (by decide) F3 X1 X2 g3.1 ?_ ?_
  all_goals intros
  all_goals first
    | (rename_i F4 hb g e33 e34 eC a39 aC
       refine ⟨_, F4, rfl, rfl, g3.trans (gc_mk (W := k0_W) hb g (by decide)) (fun _ q => q), ?_, fun zz => absurd zz (by decide)⟩
       rw [tg_eq e33, e34]
       exact Or.inl ⟨rfl, by rw [hr, i5, y0 (by assumption)]; rfl⟩)
    | (rename_i F4 hb g e33 e34 eC a39 aC e82 e83
       obtain ⟨w, w1, w2⟩ := hops (by assumption)
       have te := tg_eq e33
       have b2 := w2.2.1
       exact k0y94 X1 X2 F0 r0 R0 al hJ0 hcs0 cC F4 u v w (g3.trans (gc_mk (W := k0_W) hb g (by decide)) (fun _ q => q)) (by omega) (by omega) (by omega) (by omega) (by rw [hr, i5, y1 (by assumption), te]; rfl) (fun f acc => by rw [hz, zc5, w1, te]; rfl) (Cl_dst (Cl_app cC hC w2) eC aC (by omega)) (by omega) (by omega))
theorem k0y39 (hJ0 : jx_ok F0) (hcs0 : (sy_i F0 23).toInt ≤ 12 + tg F0) (cC : 0 ≤ (sy_i F0 23).toInt) (F : Nat → sy_d) (u v : List rO) (g0 : gc k0_W F0 F) (h82 : 0 ≤ (sy_i F 82).toInt ∧ (sy_i F 82).toInt ≤ 5) (hal : (sy_i F 82).toInt = al) (hr : r0 = i4 (kg F0) (tg F)) (hz : ∀ f acc, R0 f acc = zc4 (kg F0) (vg F0) f acc u v (tg F)) (hC : Cl 23 32 F0 F ((u.map (cell al)) ++ (v.map (cell al)))) (hsl : (sy_i F 23).toInt + tg F0 + 2 ≤ (sy_i F0 23).toInt + tg F) (htg : tg F0 < tg F) :
    hd_W Ls xs 25 jm_M37 (fun v G => ∃ (x : Int32) (F' : Nat → sy_d), v = some (.int x) ∧ G = sy_dh F' X1 X2 (iv_H 0) ∧ gc k0_W F0 F' ∧ ((x = 0 ∧ r0 = .inl ((sy_i F' 34).toInt, tg F')) ∨ (x = 1 ∧ r0 = .inr (tg F'))) ∧ (x = 1 → ziC 23 32 R0 al F0 F')) (39, sy_dL F [some (.inl (.ref 30)), some (.inr (.inl 82)), none, none], sy_dS F [.inl (.int 12), .inl (.ref 30)], sy_dh F X1 X2 (iv_H 0), 0, 0) := by
  refine hd_calI (R := fun x F' => taR ((12 : Int32)).toInt x F F') (nh := 82) (nv := 83) (s := 0) (s1 := 0) (d1 := 3) (M1 := jm_M43) (As := [.inl (.ref 30), .inl (.int 12)]) (rest := []) jm_ok37 rfl rfl (by decide) (by decide +kernel) (k0ta_T F X1 X2 g0.1 12) (fun F3 F' x hR p1 p2 p3 => ?_)
  have hR : taR 12 x F F' := hR
  obtain ⟨r1, r2⟩ := taR_dst hR p1
  have r2 := r2 (km_in (j := 32) (fun c => km_w (by decide) (by decide)) (by decide))
  rw [show km 12 = 32 by decide, kg_eq (g0.2 39 (by decide) (by decide))] at r2
  have g3 : gc k0_W F0 F3 := g0.trans r1 (by decide)
  have hx : sy_i F3 83 = x := zz_i p3
  have k82 := nz_fi (p2 82 (by decide) (by decide))
  have r2 : (x = 0 ∧ _) ∨ (x = 1 ∧ _) := r2.imp id (fun q => ⟨q.1, q.2.elim (fun a z => by have := z.2; subst this; exact z.1)⟩)
  rw [← hx] at r2
  obtain ⟨y0, y1⟩ := x01 r2
  have ty : (sy_i F3 83).toInt ≠ 0 → tg F3 = tg F + 1 := fun q => sM_r (y1 q)
  have ec : (sy_i F3 23).toInt = (sy_i F 23).toInt := nz_fi (r1.2 23 (by decide) (by decide))
  have ea : sy_ai F3 32 = sy_ai F 32 := nz_fa (r1.2 32 (by decide) (by decide))
  have t4 : (tg F3 : Int) ≤ 400 := by
    have := nz_bx g3.1 (k := 33) (lo := 0) (hi := 400) rfl
    unfold tg
    omega
  have nC := hC.1
  simp only [List.length_append, List.length_map] at nC
  have cC3 := nz_bx g3.1 (k := 23) (lo := 0) (hi := 512) rfl
  refine k0zi_42 (by decide) F3 X1 X2 g3.1 ?_ ?_ ?_ ?_
  all_goals intros
  all_goals first
    | (rename_i F4 hb g e33 e34 eC a39 aC
       refine ⟨_, F4, rfl, rfl, g3.trans (gc_mk (W := k0_W) hb g (by decide)) (fun _ q => q), ?_, fun zz => absurd zz (by decide)⟩
       rw [tg_eq e33, e34]
       exact Or.inl ⟨rfl, by rw [hr, i4, y0 (by assumption)]; rfl⟩)
    | (have tt := ty (by assumption)
       exfalso
       omega)
    | (rename_i F4 hb g e33 e34 eC a39 aC e82 e83
       have tt := ty (by assumption)
       have y := y1 (by assumption)
       have te := tg_eq e33
       exact k0y85 X1 X2 F0 r0 R0 al hJ0 hcs0 cC F4 u v (g3.trans (gc_mk (W := k0_W) hb g (by decide)) (fun _ q => q)) (by omega) (by omega) (by omega) (by omega) (by rw [hr, i4, y, te]; rfl) (fun f acc => by rw [hz, zc4, y, te]; rfl) (Cl_push2 (v := -15) (w := 0) cC (Cl_dst hC ec ea (by omega)) eC aC (by omega)) (by omega) (by omega))
theorem k0y30 (hJ0 : jx_ok F0) (hcs0 : (sy_i F0 23).toInt ≤ 12 + tg F0) (cC : 0 ≤ (sy_i F0 23).toInt) (F : Nat → sy_d) (u : List rO) (g0 : gc k0_W F0 F) (h82 : 0 ≤ (sy_i F 82).toInt ∧ (sy_i F 82).toInt ≤ 5) (hal : (sy_i F 82).toInt = al) (hr : r0 = i3 (kg F0) (tg F)) (hz : ∀ f acc, R0 f acc = zc3 (kg F0) (vg F0) f acc u (tg F)) (hC : Cl 23 32 F0 F (u.map (cell al))) (hsl : (sy_i F 23).toInt + tg F0 + 2 ≤ (sy_i F0 23).toInt + tg F) (htg : tg F0 < tg F) :
    hd_W Ls xs 25 jm_M37 (fun v G => ∃ (x : Int32) (F' : Nat → sy_d), v = some (.int x) ∧ G = sy_dh F' X1 X2 (iv_H 0) ∧ gc k0_W F0 F' ∧ ((x = 0 ∧ r0 = .inl ((sy_i F' 34).toInt, tg F')) ∨ (x = 1 ∧ r0 = .inr (tg F'))) ∧ (x = 1 → ziC 23 32 R0 al F0 F')) (30, sy_dL F [some (.inl (.ref 30)), some (.inr (.inl 82)), none, none], sy_dS F [.inl (.int 0), .inr (.inl 82), .inl (.ref 30)], sy_dh F X1 X2 (iv_H 0), 0, 0) := by
  have hJ : jx_ok F := jx_ok_eq (g0.2 39 (by decide) (by decide)) (g0.2 41 (by decide) (by decide)) hJ0
  refine hd_calI (R := fun x F' => zR 23 32 2 k0_W E2 0 (sy_i F 82).toInt x F F') (nh := 82) (nv := 83) (s := 0) (s1 := 0) (d1 := 24) (M1 := jm_M38) (As := [.inl (.ref 30), .inr (.inl 82), .inl (.int 0)]) (rest := []) jm_ok37 rfl rfl (by decide) (by decide +kernel) (k0_sumz X1 X2 F (sy_i F 82) g0.1 hJ (by omega) h82.1 h82.2) (fun F3 F' x hR0 p1 p2 p3 => ?_)
  have hR := hR0.1
  obtain ⟨r1, rl, r2⟩ := pR_dst hR p1
  rw [kg_eq (g0.2 39 (by decide) (by decide))] at r2
  have g3 : gc k0_W F0 F3 := g0.trans r1 (fun _ q => q)
  have c33 := nz_bx g3.1 (k := 33) (lo := 0) (hi := 400) rfl
  have hx : sy_i F3 83 = x := zz_i p3
  have hops : (sy_i F3 83).toInt ≠ 0 → ∃ ops, cX (kg F0) (vg F0) (tg F) [] 0 [] = .inr (tg F3, ops) ∧ Cl 23 32 F F3 (ops.map (cell al)) := fun q => by
    rcases r2 with ⟨q1, -⟩ | ⟨q1, -, -, q4⟩
    · rw [hx, q1] at q
      exact absurd (by decide) q
    · have z := zE_run (zE_dst (hR0.2 q1) p1 (by decide) (by decide)) (by unfold tg; omega) (by rw [kg_eq (g0.2 39 (by decide) (by decide))]; exact q4)
      rw [kg_eq (g0.2 39 (by decide) (by decide)), vg_eq (g0.2 41 (by decide) (by decide)), hal] at z
      exact z
  have r2 : (x = 0 ∧ eX (kg F0) (tg F) 0 0 = .inl ((sy_i F3 34).toInt, tg F3)) ∨ (x = 1 ∧ eX (kg F0) (tg F) 0 0 = .inr (tg F3)) := r2.imp id (fun q => ⟨q.1, q.2.1.trans (eX_e0 (by unfold tg; omega) q.2.2.2)⟩)
  have k82 := nz_fi (p2 82 (by decide) (by decide))
  rw [← hx] at r2
  obtain ⟨y0, y1⟩ := x01 r2
  have t4 : (tg F3 : Int) ≤ 400 := by
    have := nz_bx g3.1 (k := 33) (lo := 0) (hi := 400) rfl
    unfold tg
    omega
  refine k0zi_33 (by decide) F3 X1 X2 g3.1 ?_ ?_
  all_goals intros
  all_goals first
    | (rename_i F4 hb g e33 e34 eC a39 aC
       refine ⟨_, F4, rfl, rfl, g3.trans (gc_mk (W := k0_W) hb g (by decide)) (fun _ q => q), ?_, fun zz => absurd zz (by decide)⟩
       rw [tg_eq e33, e34]
       exact Or.inl ⟨rfl, by rw [hr, i3, y0 (by assumption)]; rfl⟩)
    | (rename_i F4 hb g e33 e34 eC a39 aC e82
       obtain ⟨v, w1, w2⟩ := hops (by assumption)
       have te := tg_eq e33
       have b2 := w2.2.1
       exact k0y39 X1 X2 F0 r0 R0 al hJ0 hcs0 cC F4 u v (g3.trans (gc_mk (W := k0_W) hb g (by decide)) (fun _ q => q)) (by omega) (by omega) (by rw [hr, i3, y1 (by assumption), te]; rfl) (fun f acc => by rw [hz, zc3, w1, te]; rfl) (Cl_dst (Cl_app cC hC w2) eC aC (by omega)) (by omega) (by omega))
theorem k0y21 (hJ0 : jx_ok F0) (hcs0 : (sy_i F0 23).toInt ≤ 12 + tg F0) (cC : 0 ≤ (sy_i F0 23).toInt) (F : Nat → sy_d) (u : List rO) (g0 : gc k0_W F0 F) (h82 : 0 ≤ (sy_i F 82).toInt ∧ (sy_i F 82).toInt ≤ 5) (hal : (sy_i F 82).toInt = al) (hr : r0 = i2 (kg F0) (tg F)) (hz : ∀ f acc, R0 f acc = zc2 (kg F0) (vg F0) f acc u (tg F)) (hC : Cl 23 32 F0 F (u.map (cell al))) (hsl : (sy_i F 23).toInt + tg F0 + 1 ≤ (sy_i F0 23).toInt + tg F) (htg : tg F0 < tg F) :
    hd_W Ls xs 25 jm_M37 (fun v G => ∃ (x : Int32) (F' : Nat → sy_d), v = some (.int x) ∧ G = sy_dh F' X1 X2 (iv_H 0) ∧ gc k0_W F0 F' ∧ ((x = 0 ∧ r0 = .inl ((sy_i F' 34).toInt, tg F')) ∨ (x = 1 ∧ r0 = .inr (tg F'))) ∧ (x = 1 → ziC 23 32 R0 al F0 F')) (21, sy_dL F [some (.inl (.ref 30)), some (.inr (.inl 82)), none, none], sy_dS F [.inl (.int 60), .inl (.ref 30)], sy_dh F X1 X2 (iv_H 0), 0, 0) := by
  refine hd_calI (R := fun x F' => taR ((60 : Int32)).toInt x F F') (nh := 82) (nv := 83) (s := 0) (s1 := 0) (d1 := 3) (M1 := jm_M43) (As := [.inl (.ref 30), .inl (.int 60)]) (rest := []) jm_ok37 rfl rfl (by decide) (by decide +kernel) (k0ta_T F X1 X2 g0.1 60) (fun F3 F' x hR p1 p2 p3 => ?_)
  have hR : taR 60 x F F' := hR
  obtain ⟨r1, r2⟩ := taR_dst hR p1
  have r2 := r2 (km_in (j := 13) (fun c => km_13) (by decide))
  rw [show km 60 = 13 by decide, kg_eq (g0.2 39 (by decide) (by decide))] at r2
  have g3 : gc k0_W F0 F3 := g0.trans r1 (by decide)
  have hx : sy_i F3 83 = x := zz_i p3
  have k82 := nz_fi (p2 82 (by decide) (by decide))
  have r2 : (x = 0 ∧ _) ∨ (x = 1 ∧ _) := r2.imp id (fun q => ⟨q.1, q.2.elim (fun a z => by have := z.2; subst this; exact z.1)⟩)
  rw [← hx] at r2
  obtain ⟨y0, y1⟩ := x01 r2
  have ty : (sy_i F3 83).toInt ≠ 0 → tg F3 = tg F + 1 := fun q => sM_r (y1 q)
  have ec : (sy_i F3 23).toInt = (sy_i F 23).toInt := nz_fi (r1.2 23 (by decide) (by decide))
  have ea : sy_ai F3 32 = sy_ai F 32 := nz_fa (r1.2 32 (by decide) (by decide))
  have t4 : (tg F3 : Int) ≤ 400 := by
    have := nz_bx g3.1 (k := 33) (lo := 0) (hi := 400) rfl
    unfold tg
    omega
  refine k0zi_24 (by decide) F3 X1 X2 g3.1 ?_ ?_
  all_goals intros
  all_goals first
    | (rename_i F4 hb g e33 e34 eC a39 aC
       refine ⟨_, F4, rfl, rfl, g3.trans (gc_mk (W := k0_W) hb g (by decide)) (fun _ q => q), ?_, fun zz => absurd zz (by decide)⟩
       rw [tg_eq e33, e34]
       exact Or.inl ⟨rfl, by rw [hr, i2, y0 (by assumption)]; rfl⟩)
    | (rename_i F4 hb g e33 e34 eC a39 aC e82
       have tt := ty (by assumption)
       have y := y1 (by assumption)
       have te := tg_eq e33
       exact k0y30 X1 X2 F0 r0 R0 al hJ0 hcs0 cC F4 u (g3.trans (gc_mk (W := k0_W) hb g (by decide)) (fun _ q => q)) (by omega) (by omega) (by rw [hr, i2, y, te]; rfl) (fun f acc => by rw [hz, zc2, y, te]; rfl) (Cl_dst hC (eC.trans ec) (aC.trans ea) (by omega)) (by omega) (by omega))
theorem k0y12 (hJ0 : jx_ok F0) (hcs0 : (sy_i F0 23).toInt ≤ 12 + tg F0) (cC : 0 ≤ (sy_i F0 23).toInt) (F : Nat → sy_d) (g0 : gc k0_W F0 F) (h82 : 0 ≤ (sy_i F 82).toInt ∧ (sy_i F 82).toInt ≤ 5) (hal : (sy_i F 82).toInt = al) (hr : r0 = i1 (kg F0) (tg F)) (hz : ∀ f acc, R0 f acc = zc1 (kg F0) (vg F0) f acc (tg F)) (hC : Cl 23 32 F0 F []) (hsl : (sy_i F 23).toInt + tg F0 + 1 ≤ (sy_i F0 23).toInt + tg F) (htg : tg F0 < tg F) :
    hd_W Ls xs 25 jm_M37 (fun v G => ∃ (x : Int32) (F' : Nat → sy_d), v = some (.int x) ∧ G = sy_dh F' X1 X2 (iv_H 0) ∧ gc k0_W F0 F' ∧ ((x = 0 ∧ r0 = .inl ((sy_i F' 34).toInt, tg F')) ∨ (x = 1 ∧ r0 = .inr (tg F'))) ∧ (x = 1 → ziC 23 32 R0 al F0 F')) (12, sy_dL F [some (.inl (.ref 30)), some (.inr (.inl 82)), none, none], sy_dS F [.inl (.int 0), .inr (.inl 82), .inl (.ref 30)], sy_dh F X1 X2 (iv_H 0), 0, 0) := by
  have hJ : jx_ok F := jx_ok_eq (g0.2 39 (by decide) (by decide)) (g0.2 41 (by decide) (by decide)) hJ0
  refine hd_calI (R := fun x F' => zR 23 32 2 k0_W E2 0 (sy_i F 82).toInt x F F') (nh := 82) (nv := 83) (s := 0) (s1 := 0) (d1 := 24) (M1 := jm_M38) (As := [.inl (.ref 30), .inr (.inl 82), .inl (.int 0)]) (rest := []) jm_ok37 rfl rfl (by decide) (by decide +kernel) (k0_sumz X1 X2 F (sy_i F 82) g0.1 hJ (by omega) h82.1 h82.2) (fun F3 F' x hR0 p1 p2 p3 => ?_)
  have hR := hR0.1
  obtain ⟨r1, rl, r2⟩ := pR_dst hR p1
  rw [kg_eq (g0.2 39 (by decide) (by decide))] at r2
  have g3 : gc k0_W F0 F3 := g0.trans r1 (fun _ q => q)
  have c33 := nz_bx g3.1 (k := 33) (lo := 0) (hi := 400) rfl
  have hx : sy_i F3 83 = x := zz_i p3
  have hops : (sy_i F3 83).toInt ≠ 0 → ∃ ops, cX (kg F0) (vg F0) (tg F) [] 0 [] = .inr (tg F3, ops) ∧ Cl 23 32 F F3 (ops.map (cell al)) := fun q => by
    rcases r2 with ⟨q1, -⟩ | ⟨q1, -, -, q4⟩
    · rw [hx, q1] at q
      exact absurd (by decide) q
    · have z := zE_run (zE_dst (hR0.2 q1) p1 (by decide) (by decide)) (by unfold tg; omega) (by rw [kg_eq (g0.2 39 (by decide) (by decide))]; exact q4)
      rw [kg_eq (g0.2 39 (by decide) (by decide)), vg_eq (g0.2 41 (by decide) (by decide)), hal] at z
      exact z
  have r2 : (x = 0 ∧ eX (kg F0) (tg F) 0 0 = .inl ((sy_i F3 34).toInt, tg F3)) ∨ (x = 1 ∧ eX (kg F0) (tg F) 0 0 = .inr (tg F3)) := r2.imp id (fun q => ⟨q.1, q.2.1.trans (eX_e0 (by unfold tg; omega) q.2.2.2)⟩)
  have k82 := nz_fi (p2 82 (by decide) (by decide))
  rw [← hx] at r2
  obtain ⟨y0, y1⟩ := x01 r2
  have t4 : (tg F3 : Int) ≤ 400 := by
    have := nz_bx g3.1 (k := 33) (lo := 0) (hi := 400) rfl
    unfold tg
    omega
  refine k0zi_15 (by decide) F3 X1 X2 g3.1 ?_ ?_
  all_goals intros
  all_goals first
    | (rename_i F4 hb g e33 e34 eC a39 aC
       refine ⟨_, F4, rfl, rfl, g3.trans (gc_mk (W := k0_W) hb g (by decide)) (fun _ q => q), ?_, fun zz => absurd zz (by decide)⟩
       rw [tg_eq e33, e34]
       exact Or.inl ⟨rfl, by rw [hr, i1, y0 (by assumption)]; rfl⟩)
    | (rename_i F4 hb g e33 e34 eC a39 aC e82
       obtain ⟨u, w1, w2⟩ := hops (by assumption)
       have te := tg_eq e33
       have b2 := w2.2.1
       exact k0y21 X1 X2 F0 r0 R0 al hJ0 hcs0 cC F4 u (g3.trans (gc_mk (W := k0_W) hb g (by decide)) (fun _ q => q)) (by omega) (by omega) (by rw [hr, i1, y1 (by assumption), te]; rfl) (fun f acc => by rw [hz, zc1, w1, te]; rfl) (Cl_dst (Cl_app cC hC w2) eC aC (by omega)) (by omega) (by omega))
end IZ0
theorem k0pi_TZ {Ls : Nat} {xs : Nat → Int32} (X1 X2 : List jm_c) (F : Nat → sy_d) (a : Int32) (hB : iv_in F iv_B0) (hJ : jx_ok F) (hcs : (sy_i F 23).toInt ≤ 12 + tg F) (a0 : 0 ≤ a.toInt) (a5 : a.toInt ≤ 5) (hk : kg F (tg F) = 31) : jm_T Ls xs 25 jm_M37 [.ref 30, .int a] (sy_dh F X1 X2 (iv_H 0)) 0 0 (fun v G => ∃ (x : Int32) (F' : Nat → sy_d), v = some (.int x) ∧ G = sy_dh F' X1 X2 (iv_H 0) ∧ piZ 23 32 k0_W a.toInt x F F') := by
  refine nx_T (s := 0) (by decide) F X1 X2 (as := [a]) (A := [.inl (.ref 30), .inr (.inl 82)]) jm_ok37 (by decide) rfl ?_
  obtain ⟨F0, hF0⟩ : ∃ F0, F0 = nx 82 F [a] := ⟨_, rfl⟩
  rw [← hF0]
  have k0 : ∀ q, q < 82 → F0 q = F q := by rw [hF0]; exact nx_lt
  have i82 : sy_i F0 82 = a := by rw [hF0]; rfl
  have hB0 := hd_iveq0 hB k0
  have hJ0 : jx_ok F0 := jx_ok_eq (k0 39 (by decide)) (k0 41 (by decide)) hJ
  have hk0 : kg F0 (tg F0) = 31 := by rw [kg_eq (k0 39 (by decide)), tg_eq (nz_fi (k0 33 (by decide)))]; exact hk
  have hcs0 : (sy_i F0 23).toInt ≤ 12 + tg F0 := by rw [nz_fi (k0 23 (by decide)), tg_eq (nz_fi (k0 33 (by decide)))]; exact hcs
  have cC := (nz_bx hB0 (k := 23) (lo := 0) (hi := 512) rfl).1
  clear hF0
  refine hd_W_mono (Q := fun v G => ∃ (x : Int32) (F' : Nat → sy_d), v = some (.int x) ∧ G = sy_dh F' X1 X2 (iv_H 0) ∧ gc k0_W F0 F' ∧ ((x = 0 ∧ sIf (kg F0) (tg F0) = .inl ((sy_i F' 34).toInt, tg F')) ∨ (x = 1 ∧ sIf (kg F0) (tg F0) = .inr (tg F'))) ∧ (x = 1 → ziC 23 32 (fun f acc => sB (sG (tg F0)) (zc1 (kg F0) (vg F0) f acc)) a.toInt F0 F')) ?_ (by
    rintro v G ⟨x, F', rfl, rfl, h1, h2, h3⟩
    exact ⟨x, F', rfl, rfl, piZ_src ⟨⟨h1, fun _ => h2⟩, h3⟩ k0 (by decide) (by decide)⟩)
  refine k0zi_0 (by decide) F0 X1 X2 hB0 ?_
  intro F hb g e33 e34 eC0 a39 aC0 e82
  have g0 : gc k0_W F0 F := gc_mk hb g (by decide)
  have h82 : 0 ≤ (sy_i F 82).toInt ∧ (sy_i F 82).toInt ≤ 5 := by rw [e82, i82]; exact ⟨a0, a5⟩
  have hal : (sy_i F 82).toInt = a.toInt := by rw [e82, i82]
  have hr : sIf (kg F0) (tg F0) = sB (sM (kg F0) 31 (tg F)) (i1 (kg F0)) := by rw [i_eq _ hk0, tg_eq e33]
  have tf := tg_eq e33
  refine hd_calI (R := fun x F' => taR ((11 : Int32)).toInt x F F') (nh := 82) (nv := 83) (s := 0) (s1 := 0) (d1 := 3) (M1 := jm_M43) (As := [.inl (.ref 30), .inl (.int 11)]) (rest := []) jm_ok37 rfl rfl (by decide) (by decide +kernel) (k0ta_T F X1 X2 g0.1 11) (fun F3 F' x hR p1 p2 p3 => ?_)
  have hR : taR 11 x F F' := hR
  obtain ⟨r1, r2⟩ := taR_dst hR p1
  have r2 := r2 (km_in (j := 31) (fun c => km_w (by decide) (by decide)) (by decide))
  rw [show km 11 = 31 by decide, kg_eq (g0.2 39 (by decide) (by decide))] at r2
  have g3 : gc k0_W F0 F3 := g0.trans r1 (by decide)
  have hx : sy_i F3 83 = x := zz_i p3
  have k82 := nz_fi (p2 82 (by decide) (by decide))
  have r2 : (x = 0 ∧ _) ∨ (x = 1 ∧ _) := r2.imp id (fun q => ⟨q.1, q.2.elim (fun a z => by have := z.2; subst this; exact z.1)⟩)
  rw [← hx] at r2
  obtain ⟨y0, y1⟩ := x01 r2
  have ty : (sy_i F3 83).toInt ≠ 0 → tg F3 = tg F + 1 := fun q => sM_r (y1 q)
  have ec : (sy_i F3 23).toInt = (sy_i F 23).toInt := nz_fi (r1.2 23 (by decide) (by decide))
  have ea : sy_ai F3 32 = sy_ai F 32 := nz_fa (r1.2 32 (by decide) (by decide))
  have t4 : (tg F3 : Int) ≤ 400 := by
    have := nz_bx g3.1 (k := 33) (lo := 0) (hi := 400) rfl
    unfold tg
    omega
  refine k0zi_6 (by decide) F3 X1 X2 g3.1 ?_ ?_
  all_goals intros
  all_goals first
    | (rename_i F4 hb g e33 e34 eC a39 aC
       refine ⟨_, F4, rfl, rfl, g3.trans (gc_mk (W := k0_W) hb g (by decide)) (fun _ q => q), ?_, fun zz => absurd zz (by decide)⟩
       rw [tg_eq e33, e34]
       exact Or.inl ⟨rfl, by rw [hr, y0 (by assumption)]; rfl⟩)
    | (rename_i F4 hb g e33 e34 eC a39 aC e82
       have tt := ty (by assumption)
       have y := y1 (by assumption)
       have te := tg_eq e33
       exact k0y12 X1 X2 F0 _ _ a.toInt hJ0 hcs0 cC F4 (g3.trans (gc_mk (W := k0_W) hb g (by decide)) (fun _ q => q)) (by omega) (by omega) (by rw [hr, y, te]; rfl) (fun f acc => by
         show sB (sG (tg F0)) _ = _
         rw [show sG (tg F0) = .inr (tg F3) by rw [← y, tf]; unfold sM; rw [if_pos hk0], te]
         rfl) (Cl_dst Cl_nil ((eC.trans ec).trans eC0) ((aC.trans ea).trans aC0) (by omega)) (by omega) (by omega))
section IZ3
variable {Ls : Nat} {xs : Nat → Int32} (X1 X2 : List jm_c) (F0 : Nat → sy_d) (r0 : sE ⊕ Nat) (R0 : bF) (al : Int)
theorem k3y94 (hJ0 : jx_ok F0) (hcs0 : (sy_i F0 8).toInt ≤ 12 + tg F0) (cC : 0 ≤ (sy_i F0 8).toInt) (F : Nat → sy_d) (u v w : List rO) (g0 : gc k3_W F0 F) (h82 : 0 ≤ (sy_i F 82).toInt ∧ (sy_i F 82).toInt ≤ 5) (hal : (sy_i F 82).toInt = al) (h83 : 0 ≤ (sy_i F 83).toInt ∧ (sy_i F 83).toInt ≤ 512) (h83e : (sy_i F 83).toInt = (sy_i F0 8).toInt + u.length + v.length + 1) (hr : r0 = i6 (kg F0) (tg F)) (hz : ∀ f acc, R0 f acc = zc6 (kg F0) f acc u v w (tg F)) (hC : Cl 8 17 F0 F ((((u.map (cell al)) ++ (v.map (cell al))) ++ [-15, 0]) ++ (w.map (cell al)))) (hsl : (sy_i F 8).toInt + tg F0 + 1 ≤ (sy_i F0 8).toInt + tg F) (htg : tg F0 < tg F) :
    hd_W Ls xs 25 jm_M37 (fun v G => ∃ (x : Int32) (F' : Nat → sy_d), v = some (.int x) ∧ G = sy_dh F' X1 X2 (iv_H 3) ∧ gc k3_W F0 F' ∧ ((x = 0 ∧ r0 = .inl ((sy_i F' 34).toInt, tg F')) ∨ (x = 1 ∧ r0 = .inr (tg F'))) ∧ (x = 1 → ziC 8 17 R0 al F0 F')) (94, sy_dL F [some (.inl (.ref 30)), some (.inr (.inl 82)), none, some (.inr (.inl 83))], sy_dS F [.inl (.int 13), .inl (.ref 30)], sy_dh F X1 X2 (iv_H 3), 0, 0) := by
  refine hd_calI (R := fun x F' => taR ((13 : Int32)).toInt x F F') (nh := 82) (nv := 84) (s := 3) (s1 := 3) (d1 := 3) (M1 := jm_M43) (As := [.inl (.ref 30), .inl (.int 13)]) (rest := []) jm_ok37 rfl rfl (by decide) (by decide +kernel) (k3ta_T F X1 X2 g0.1 13) (fun F3 F' x hR p1 p2 p3 => ?_)
  have hR : taR 13 x F F' := hR
  obtain ⟨r1, r2⟩ := taR_dst hR p1
  have r2 := r2 (km_in (j := 33) (fun c => km_w (by decide) (by decide)) (by decide))
  rw [show km 13 = 33 by decide, kg_eq (g0.2 39 (by decide) (by decide))] at r2
  have g3 : gc k3_W F0 F3 := g0.trans r1 (by decide)
  have hx : sy_i F3 84 = x := zz_i p3
  have k82 := nz_fi (p2 82 (by decide) (by decide))
  have r2 : (x = 0 ∧ _) ∨ (x = 1 ∧ _) := r2.imp id (fun q => ⟨q.1, q.2.elim (fun a z => by have := z.2; subst this; exact z.1)⟩)
  rw [← hx] at r2
  obtain ⟨y0, y1⟩ := x01 r2
  have ty : (sy_i F3 84).toInt ≠ 0 → tg F3 = tg F + 1 := fun q => sM_r (y1 q)
  have ec : (sy_i F3 8).toInt = (sy_i F 8).toInt := nz_fi (r1.2 8 (by decide) (by decide))
  have ea : sy_ai F3 17 = sy_ai F 17 := nz_fa (r1.2 17 (by decide) (by decide))
  have t4 : (tg F3 : Int) ≤ 400 := by
    have := nz_bx g3.1 (k := 33) (lo := 0) (hi := 400) rfl
    unfold tg
    omega
  have k83 := nz_fi (p2 83 (by decide) (by decide))
  have hC3 := Cl_dst hC ec ea
  have nC := hC.1
  simp only [List.length_append, List.length_map, List.length_cons, List.length_nil] at nC
  have cC3 := nz_bx g3.1 (k := 8) (lo := 0) (hi := 512) rfl
  refine k3zi_97 (by decide) F3 X1 X2 g3.1 (by omega) ?_ ?_ ?_ ?_ ?_
  all_goals intros
  all_goals first
    | (rename_i F4 hb g e33 e34 eC a39 aC
       refine ⟨_, F4, rfl, rfl, g3.trans (gc_mk (W := k3_W) hb g (by decide)) (fun _ q => q), ?_, fun zz => absurd zz (by decide)⟩
       rw [tg_eq e33, e34]
       exact Or.inl ⟨rfl, by rw [hr, i6, y0 (by assumption)]⟩)
    | (have tt := ty (by assumption)
       exfalso
       omega)
    | (rename_i F4 hb g e33 e34 eC a39 aC
       have tt := ty (by assumption)
       have y := y1 (by assumption)
       have te := tg_eq e33
       refine ⟨_, F4, rfl, rfl, g3.trans (gc_mk (W := k3_W) hb g (by decide)) (fun _ q => q), Or.inr ⟨rfl, by rw [te, hr, i6, y]⟩, fun _ => ⟨by omega, (some (u, v), w), fun f acc => by rw [hz, zc6, y, te]; rfl, ?_⟩⟩
       have q := Cl_end (A := u.map (cell al) ++ v.map (cell al) ++ [-15]) (x := 0) (M := w.map (cell al)) cC (by
         have h := hC3 (by omega)
         rw [List.append_assoc, List.append_assoc, show ([-15, 0] : List Int) ++ w.map (cell al) = [-15] ++ (0 :: w.map (cell al)) from rfl, ← List.append_assoc, ← List.append_assoc] at h
         exact h) eC aC (by simp only [List.length_append, List.length_map, List.length_cons, List.length_nil]; omega) (by omega)
       rw [i32_s cC3.1 cC3.2, show ((-14 : Int32)).toInt = -14 by decide] at q
       have e : lcs al (sy_i F0 8).toInt.toNat [(some (u, v), w)] = u.map (cell al) ++ v.map (cell al) ++ [-15] ++ (((sy_i F3 8).toInt + 1) :: (w.map (cell al) ++ [-14])) := by
         show (_ ++ _ ++ [-15, (((sy_i F0 8).toInt.toNat + u.length + v.length + w.length + 3 : Nat) : Int)] ++ _ ++ [-14]) ++ [] = _
         rw [show (((sy_i F0 8).toInt.toNat + u.length + v.length + w.length + 3 : Nat) : Int) = (sy_i F3 8).toInt + 1 by omega]
         simp
       rw [e]
       exact q)
theorem k3y85 (hJ0 : jx_ok F0) (hcs0 : (sy_i F0 8).toInt ≤ 12 + tg F0) (cC : 0 ≤ (sy_i F0 8).toInt) (F : Nat → sy_d) (u v : List rO) (g0 : gc k3_W F0 F) (h82 : 0 ≤ (sy_i F 82).toInt ∧ (sy_i F 82).toInt ≤ 5) (hal : (sy_i F 82).toInt = al) (h83 : 0 ≤ (sy_i F 83).toInt ∧ (sy_i F 83).toInt ≤ 512) (h83e : (sy_i F 83).toInt = (sy_i F0 8).toInt + u.length + v.length + 1) (hr : r0 = i5 (kg F0) (tg F)) (hz : ∀ f acc, R0 f acc = zc5 (kg F0) (vg F0) f acc u v (tg F)) (hC : Cl 8 17 F0 F (((u.map (cell al)) ++ (v.map (cell al))) ++ [-15, 0])) (hsl : (sy_i F 8).toInt + tg F0 + 1 ≤ (sy_i F0 8).toInt + tg F) (htg : tg F0 < tg F) :
    hd_W Ls xs 25 jm_M37 (fun v G => ∃ (x : Int32) (F' : Nat → sy_d), v = some (.int x) ∧ G = sy_dh F' X1 X2 (iv_H 3) ∧ gc k3_W F0 F' ∧ ((x = 0 ∧ r0 = .inl ((sy_i F' 34).toInt, tg F')) ∨ (x = 1 ∧ r0 = .inr (tg F'))) ∧ (x = 1 → ziC 8 17 R0 al F0 F')) (85, sy_dL F [some (.inl (.ref 30)), some (.inr (.inl 82)), none, some (.inr (.inl 83))], sy_dS F [.inl (.int 0), .inr (.inl 82), .inl (.ref 30)], sy_dh F X1 X2 (iv_H 3), 0, 0) := by
  have hJ : jx_ok F := jx_ok_eq (g0.2 39 (by decide) (by decide)) (g0.2 41 (by decide) (by decide)) hJ0
  refine hd_calI (R := fun x F' => zR 8 17 2 k3_W E2 0 (sy_i F 82).toInt x F F') (nh := 82) (nv := 84) (s := 3) (s1 := 3) (d1 := 24) (M1 := jm_M38) (As := [.inl (.ref 30), .inr (.inl 82), .inl (.int 0)]) (rest := []) jm_ok37 rfl rfl (by decide) (by decide +kernel) (k3_sumz X1 X2 F (sy_i F 82) g0.1 hJ (by omega) h82.1 h82.2) (fun F3 F' x hR0 p1 p2 p3 => ?_)
  have hR := hR0.1
  obtain ⟨r1, rl, r2⟩ := pR_dst hR p1
  rw [kg_eq (g0.2 39 (by decide) (by decide))] at r2
  have g3 : gc k3_W F0 F3 := g0.trans r1 (fun _ q => q)
  have c33 := nz_bx g3.1 (k := 33) (lo := 0) (hi := 400) rfl
  have hx : sy_i F3 84 = x := zz_i p3
  have hops : (sy_i F3 84).toInt ≠ 0 → ∃ ops, cX (kg F0) (vg F0) (tg F) [] 0 [] = .inr (tg F3, ops) ∧ Cl 8 17 F F3 (ops.map (cell al)) := fun q => by
    rcases r2 with ⟨q1, -⟩ | ⟨q1, -, -, q4⟩
    · rw [hx, q1] at q
      exact absurd (by decide) q
    · have z := zE_run (zE_dst (hR0.2 q1) p1 (by decide) (by decide)) (by unfold tg; omega) (by rw [kg_eq (g0.2 39 (by decide) (by decide))]; exact q4)
      rw [kg_eq (g0.2 39 (by decide) (by decide)), vg_eq (g0.2 41 (by decide) (by decide)), hal] at z
      exact z
  have r2 : (x = 0 ∧ eX (kg F0) (tg F) 0 0 = .inl ((sy_i F3 34).toInt, tg F3)) ∨ (x = 1 ∧ eX (kg F0) (tg F) 0 0 = .inr (tg F3)) := r2.imp id (fun q => ⟨q.1, q.2.1.trans (eX_e0 (by unfold tg; omega) q.2.2.2)⟩)
  have k82 := nz_fi (p2 82 (by decide) (by decide))
  rw [← hx] at r2
  obtain ⟨y0, y1⟩ := x01 r2
  have t4 : (tg F3 : Int) ≤ 400 := by
    have := nz_bx g3.1 (k := 33) (lo := 0) (hi := 400) rfl
    unfold tg
    omega
  have k83 := nz_fi (p2 83 (by decide) (by decide))
  refine k3zi_88 (by decide) F3 X1 X2 g3.1 ?_ ?_
  all_goals intros
  all_goals first
    | (rename_i F4 hb g e33 e34 eC a39 aC
       refine ⟨_, F4, rfl, rfl, g3.trans (gc_mk (W := k3_W) hb g (by decide)) (fun _ q => q), ?_, fun zz => absurd zz (by decide)⟩
       rw [tg_eq e33, e34]
       exact Or.inl ⟨rfl, by rw [hr, i5, y0 (by assumption)]; rfl⟩)
    | (rename_i F4 hb g e33 e34 eC a39 aC e82 e83
       obtain ⟨w, w1, w2⟩ := hops (by assumption)
       have te := tg_eq e33
       have b2 := w2.2.1
       exact k3y94 X1 X2 F0 r0 R0 al hJ0 hcs0 cC F4 u v w (g3.trans (gc_mk (W := k3_W) hb g (by decide)) (fun _ q => q)) (by omega) (by omega) (by omega) (by omega) (by rw [hr, i5, y1 (by assumption), te]; rfl) (fun f acc => by rw [hz, zc5, w1, te]; rfl) (Cl_dst (Cl_app cC hC w2) eC aC (by omega)) (by omega) (by omega))
theorem k3y39 (hJ0 : jx_ok F0) (hcs0 : (sy_i F0 8).toInt ≤ 12 + tg F0) (cC : 0 ≤ (sy_i F0 8).toInt) (F : Nat → sy_d) (u v : List rO) (g0 : gc k3_W F0 F) (h82 : 0 ≤ (sy_i F 82).toInt ∧ (sy_i F 82).toInt ≤ 5) (hal : (sy_i F 82).toInt = al) (hr : r0 = i4 (kg F0) (tg F)) (hz : ∀ f acc, R0 f acc = zc4 (kg F0) (vg F0) f acc u v (tg F)) (hC : Cl 8 17 F0 F ((u.map (cell al)) ++ (v.map (cell al)))) (hsl : (sy_i F 8).toInt + tg F0 + 2 ≤ (sy_i F0 8).toInt + tg F) (htg : tg F0 < tg F) :
    hd_W Ls xs 25 jm_M37 (fun v G => ∃ (x : Int32) (F' : Nat → sy_d), v = some (.int x) ∧ G = sy_dh F' X1 X2 (iv_H 3) ∧ gc k3_W F0 F' ∧ ((x = 0 ∧ r0 = .inl ((sy_i F' 34).toInt, tg F')) ∨ (x = 1 ∧ r0 = .inr (tg F'))) ∧ (x = 1 → ziC 8 17 R0 al F0 F')) (39, sy_dL F [some (.inl (.ref 30)), some (.inr (.inl 82)), none, none], sy_dS F [.inl (.int 12), .inl (.ref 30)], sy_dh F X1 X2 (iv_H 3), 0, 0) := by
  refine hd_calI (R := fun x F' => taR ((12 : Int32)).toInt x F F') (nh := 82) (nv := 83) (s := 3) (s1 := 3) (d1 := 3) (M1 := jm_M43) (As := [.inl (.ref 30), .inl (.int 12)]) (rest := []) jm_ok37 rfl rfl (by decide) (by decide +kernel) (k3ta_T F X1 X2 g0.1 12) (fun F3 F' x hR p1 p2 p3 => ?_)
  have hR : taR 12 x F F' := hR
  obtain ⟨r1, r2⟩ := taR_dst hR p1
  have r2 := r2 (km_in (j := 32) (fun c => km_w (by decide) (by decide)) (by decide))
  rw [show km 12 = 32 by decide, kg_eq (g0.2 39 (by decide) (by decide))] at r2
  have g3 : gc k3_W F0 F3 := g0.trans r1 (by decide)
  have hx : sy_i F3 83 = x := zz_i p3
  have k82 := nz_fi (p2 82 (by decide) (by decide))
  have r2 : (x = 0 ∧ _) ∨ (x = 1 ∧ _) := r2.imp id (fun q => ⟨q.1, q.2.elim (fun a z => by have := z.2; subst this; exact z.1)⟩)
  rw [← hx] at r2
  obtain ⟨y0, y1⟩ := x01 r2
  have ty : (sy_i F3 83).toInt ≠ 0 → tg F3 = tg F + 1 := fun q => sM_r (y1 q)
  have ec : (sy_i F3 8).toInt = (sy_i F 8).toInt := nz_fi (r1.2 8 (by decide) (by decide))
  have ea : sy_ai F3 17 = sy_ai F 17 := nz_fa (r1.2 17 (by decide) (by decide))
  have t4 : (tg F3 : Int) ≤ 400 := by
    have := nz_bx g3.1 (k := 33) (lo := 0) (hi := 400) rfl
    unfold tg
    omega
  have nC := hC.1
  simp only [List.length_append, List.length_map] at nC
  have cC3 := nz_bx g3.1 (k := 8) (lo := 0) (hi := 512) rfl
  refine k3zi_42 (by decide) F3 X1 X2 g3.1 ?_ ?_ ?_ ?_
  all_goals intros
  all_goals first
    | (rename_i F4 hb g e33 e34 eC a39 aC
       refine ⟨_, F4, rfl, rfl, g3.trans (gc_mk (W := k3_W) hb g (by decide)) (fun _ q => q), ?_, fun zz => absurd zz (by decide)⟩
       rw [tg_eq e33, e34]
       exact Or.inl ⟨rfl, by rw [hr, i4, y0 (by assumption)]; rfl⟩)
    | (have tt := ty (by assumption)
       exfalso
       omega)
    | (rename_i F4 hb g e33 e34 eC a39 aC e82 e83
       have tt := ty (by assumption)
       have y := y1 (by assumption)
       have te := tg_eq e33
       exact k3y85 X1 X2 F0 r0 R0 al hJ0 hcs0 cC F4 u v (g3.trans (gc_mk (W := k3_W) hb g (by decide)) (fun _ q => q)) (by omega) (by omega) (by omega) (by omega) (by rw [hr, i4, y, te]; rfl) (fun f acc => by rw [hz, zc4, y, te]; rfl) (Cl_push2 (v := -15) (w := 0) cC (Cl_dst hC ec ea (by omega)) eC aC (by omega)) (by omega) (by omega))
theorem k3y30 (hJ0 : jx_ok F0) (hcs0 : (sy_i F0 8).toInt ≤ 12 + tg F0) (cC : 0 ≤ (sy_i F0 8).toInt) (F : Nat → sy_d) (u : List rO) (g0 : gc k3_W F0 F) (h82 : 0 ≤ (sy_i F 82).toInt ∧ (sy_i F 82).toInt ≤ 5) (hal : (sy_i F 82).toInt = al) (hr : r0 = i3 (kg F0) (tg F)) (hz : ∀ f acc, R0 f acc = zc3 (kg F0) (vg F0) f acc u (tg F)) (hC : Cl 8 17 F0 F (u.map (cell al))) (hsl : (sy_i F 8).toInt + tg F0 + 2 ≤ (sy_i F0 8).toInt + tg F) (htg : tg F0 < tg F) :
    hd_W Ls xs 25 jm_M37 (fun v G => ∃ (x : Int32) (F' : Nat → sy_d), v = some (.int x) ∧ G = sy_dh F' X1 X2 (iv_H 3) ∧ gc k3_W F0 F' ∧ ((x = 0 ∧ r0 = .inl ((sy_i F' 34).toInt, tg F')) ∨ (x = 1 ∧ r0 = .inr (tg F'))) ∧ (x = 1 → ziC 8 17 R0 al F0 F')) (30, sy_dL F [some (.inl (.ref 30)), some (.inr (.inl 82)), none, none], sy_dS F [.inl (.int 0), .inr (.inl 82), .inl (.ref 30)], sy_dh F X1 X2 (iv_H 3), 0, 0) := by
  have hJ : jx_ok F := jx_ok_eq (g0.2 39 (by decide) (by decide)) (g0.2 41 (by decide) (by decide)) hJ0
  refine hd_calI (R := fun x F' => zR 8 17 2 k3_W E2 0 (sy_i F 82).toInt x F F') (nh := 82) (nv := 83) (s := 3) (s1 := 3) (d1 := 24) (M1 := jm_M38) (As := [.inl (.ref 30), .inr (.inl 82), .inl (.int 0)]) (rest := []) jm_ok37 rfl rfl (by decide) (by decide +kernel) (k3_sumz X1 X2 F (sy_i F 82) g0.1 hJ (by omega) h82.1 h82.2) (fun F3 F' x hR0 p1 p2 p3 => ?_)
  have hR := hR0.1
  obtain ⟨r1, rl, r2⟩ := pR_dst hR p1
  rw [kg_eq (g0.2 39 (by decide) (by decide))] at r2
  have g3 : gc k3_W F0 F3 := g0.trans r1 (fun _ q => q)
  have c33 := nz_bx g3.1 (k := 33) (lo := 0) (hi := 400) rfl
  have hx : sy_i F3 83 = x := zz_i p3
  have hops : (sy_i F3 83).toInt ≠ 0 → ∃ ops, cX (kg F0) (vg F0) (tg F) [] 0 [] = .inr (tg F3, ops) ∧ Cl 8 17 F F3 (ops.map (cell al)) := fun q => by
    rcases r2 with ⟨q1, -⟩ | ⟨q1, -, -, q4⟩
    · rw [hx, q1] at q
      exact absurd (by decide) q
    · have z := zE_run (zE_dst (hR0.2 q1) p1 (by decide) (by decide)) (by unfold tg; omega) (by rw [kg_eq (g0.2 39 (by decide) (by decide))]; exact q4)
      rw [kg_eq (g0.2 39 (by decide) (by decide)), vg_eq (g0.2 41 (by decide) (by decide)), hal] at z
      exact z
  have r2 : (x = 0 ∧ eX (kg F0) (tg F) 0 0 = .inl ((sy_i F3 34).toInt, tg F3)) ∨ (x = 1 ∧ eX (kg F0) (tg F) 0 0 = .inr (tg F3)) := r2.imp id (fun q => ⟨q.1, q.2.1.trans (eX_e0 (by unfold tg; omega) q.2.2.2)⟩)
  have k82 := nz_fi (p2 82 (by decide) (by decide))
  rw [← hx] at r2
  obtain ⟨y0, y1⟩ := x01 r2
  have t4 : (tg F3 : Int) ≤ 400 := by
    have := nz_bx g3.1 (k := 33) (lo := 0) (hi := 400) rfl
    unfold tg
    omega
  refine k3zi_33 (by decide) F3 X1 X2 g3.1 ?_ ?_
  all_goals intros
  all_goals first
    | (rename_i F4 hb g e33 e34 eC a39 aC
       refine ⟨_, F4, rfl, rfl, g3.trans (gc_mk (W := k3_W) hb g (by decide)) (fun _ q => q), ?_, fun zz => absurd zz (by decide)⟩
       rw [tg_eq e33, e34]
       exact Or.inl ⟨rfl, by rw [hr, i3, y0 (by assumption)]; rfl⟩)
    | (rename_i F4 hb g e33 e34 eC a39 aC e82
       obtain ⟨v, w1, w2⟩ := hops (by assumption)
       have te := tg_eq e33
       have b2 := w2.2.1
       exact k3y39 X1 X2 F0 r0 R0 al hJ0 hcs0 cC F4 u v (g3.trans (gc_mk (W := k3_W) hb g (by decide)) (fun _ q => q)) (by omega) (by omega) (by rw [hr, i3, y1 (by assumption), te]; rfl) (fun f acc => by rw [hz, zc3, w1, te]; rfl) (Cl_dst (Cl_app cC hC w2) eC aC (by omega)) (by omega) (by omega))
theorem k3y21 (hJ0 : jx_ok F0) (hcs0 : (sy_i F0 8).toInt ≤ 12 + tg F0) (cC : 0 ≤ (sy_i F0 8).toInt) (F : Nat → sy_d) (u : List rO) (g0 : gc k3_W F0 F) (h82 : 0 ≤ (sy_i F 82).toInt ∧ (sy_i F 82).toInt ≤ 5) (hal : (sy_i F 82).toInt = al) (hr : r0 = i2 (kg F0) (tg F)) (hz : ∀ f acc, R0 f acc = zc2 (kg F0) (vg F0) f acc u (tg F)) (hC : Cl 8 17 F0 F (u.map (cell al))) (hsl : (sy_i F 8).toInt + tg F0 + 1 ≤ (sy_i F0 8).toInt + tg F) (htg : tg F0 < tg F) :
    hd_W Ls xs 25 jm_M37 (fun v G => ∃ (x : Int32) (F' : Nat → sy_d), v = some (.int x) ∧ G = sy_dh F' X1 X2 (iv_H 3) ∧ gc k3_W F0 F' ∧ ((x = 0 ∧ r0 = .inl ((sy_i F' 34).toInt, tg F')) ∨ (x = 1 ∧ r0 = .inr (tg F'))) ∧ (x = 1 → ziC 8 17 R0 al F0 F')) (21, sy_dL F [some (.inl (.ref 30)), some (.inr (.inl 82)), none, none], sy_dS F [.inl (.int 60), .inl (.ref 30)], sy_dh F X1 X2 (iv_H 3), 0, 0) := by
  refine hd_calI (R := fun x F' => taR ((60 : Int32)).toInt x F F') (nh := 82) (nv := 83) (s := 3) (s1 := 3) (d1 := 3) (M1 := jm_M43) (As := [.inl (.ref 30), .inl (.int 60)]) (rest := []) jm_ok37 rfl rfl (by decide) (by decide +kernel) (k3ta_T F X1 X2 g0.1 60) (fun F3 F' x hR p1 p2 p3 => ?_)
  have hR : taR 60 x F F' := hR
  obtain ⟨r1, r2⟩ := taR_dst hR p1
  have r2 := r2 (km_in (j := 13) (fun c => km_13) (by decide))
  rw [show km 60 = 13 by decide, kg_eq (g0.2 39 (by decide) (by decide))] at r2
  have g3 : gc k3_W F0 F3 := g0.trans r1 (by decide)
  have hx : sy_i F3 83 = x := zz_i p3
  have k82 := nz_fi (p2 82 (by decide) (by decide))
  have r2 : (x = 0 ∧ _) ∨ (x = 1 ∧ _) := r2.imp id (fun q => ⟨q.1, q.2.elim (fun a z => by have := z.2; subst this; exact z.1)⟩)
  rw [← hx] at r2
  obtain ⟨y0, y1⟩ := x01 r2
  have ty : (sy_i F3 83).toInt ≠ 0 → tg F3 = tg F + 1 := fun q => sM_r (y1 q)
  have ec : (sy_i F3 8).toInt = (sy_i F 8).toInt := nz_fi (r1.2 8 (by decide) (by decide))
  have ea : sy_ai F3 17 = sy_ai F 17 := nz_fa (r1.2 17 (by decide) (by decide))
  have t4 : (tg F3 : Int) ≤ 400 := by
    have := nz_bx g3.1 (k := 33) (lo := 0) (hi := 400) rfl
    unfold tg
    omega
  refine k3zi_24 (by decide) F3 X1 X2 g3.1 ?_ ?_
  all_goals intros
  all_goals first
    | (rename_i F4 hb g e33 e34 eC a39 aC
       refine ⟨_, F4, rfl, rfl, g3.trans (gc_mk (W := k3_W) hb g (by decide)) (fun _ q => q), ?_, fun zz => absurd zz (by decide)⟩
       rw [tg_eq e33, e34]
       exact Or.inl ⟨rfl, by rw [hr, i2, y0 (by assumption)]; rfl⟩)
    | (rename_i F4 hb g e33 e34 eC a39 aC e82
       have tt := ty (by assumption)
       have y := y1 (by assumption)
       have te := tg_eq e33
       exact k3y30 X1 X2 F0 r0 R0 al hJ0 hcs0 cC F4 u (g3.trans (gc_mk (W := k3_W) hb g (by decide)) (fun _ q => q)) (by omega) (by omega) (by rw [hr, i2, y, te]; rfl) (fun f acc => by rw [hz, zc2, y, te]; rfl) (Cl_dst hC (eC.trans ec) (aC.trans ea) (by omega)) (by omega) (by omega))
theorem k3y12 (hJ0 : jx_ok F0) (hcs0 : (sy_i F0 8).toInt ≤ 12 + tg F0) (cC : 0 ≤ (sy_i F0 8).toInt) (F : Nat → sy_d) (g0 : gc k3_W F0 F) (h82 : 0 ≤ (sy_i F 82).toInt ∧ (sy_i F 82).toInt ≤ 5) (hal : (sy_i F 82).toInt = al) (hr : r0 = i1 (kg F0) (tg F)) (hz : ∀ f acc, R0 f acc = zc1 (kg F0) (vg F0) f acc (tg F)) (hC : Cl 8 17 F0 F []) (hsl : (sy_i F 8).toInt + tg F0 + 1 ≤ (sy_i F0 8).toInt + tg F) (htg : tg F0 < tg F) :
    hd_W Ls xs 25 jm_M37 (fun v G => ∃ (x : Int32) (F' : Nat → sy_d), v = some (.int x) ∧ G = sy_dh F' X1 X2 (iv_H 3) ∧ gc k3_W F0 F' ∧ ((x = 0 ∧ r0 = .inl ((sy_i F' 34).toInt, tg F')) ∨ (x = 1 ∧ r0 = .inr (tg F'))) ∧ (x = 1 → ziC 8 17 R0 al F0 F')) (12, sy_dL F [some (.inl (.ref 30)), some (.inr (.inl 82)), none, none], sy_dS F [.inl (.int 0), .inr (.inl 82), .inl (.ref 30)], sy_dh F X1 X2 (iv_H 3), 0, 0) := by
  have hJ : jx_ok F := jx_ok_eq (g0.2 39 (by decide) (by decide)) (g0.2 41 (by decide) (by decide)) hJ0
  refine hd_calI (R := fun x F' => zR 8 17 2 k3_W E2 0 (sy_i F 82).toInt x F F') (nh := 82) (nv := 83) (s := 3) (s1 := 3) (d1 := 24) (M1 := jm_M38) (As := [.inl (.ref 30), .inr (.inl 82), .inl (.int 0)]) (rest := []) jm_ok37 rfl rfl (by decide) (by decide +kernel) (k3_sumz X1 X2 F (sy_i F 82) g0.1 hJ (by omega) h82.1 h82.2) (fun F3 F' x hR0 p1 p2 p3 => ?_)
  have hR := hR0.1
  obtain ⟨r1, rl, r2⟩ := pR_dst hR p1
  rw [kg_eq (g0.2 39 (by decide) (by decide))] at r2
  have g3 : gc k3_W F0 F3 := g0.trans r1 (fun _ q => q)
  have c33 := nz_bx g3.1 (k := 33) (lo := 0) (hi := 400) rfl
  have hx : sy_i F3 83 = x := zz_i p3
  have hops : (sy_i F3 83).toInt ≠ 0 → ∃ ops, cX (kg F0) (vg F0) (tg F) [] 0 [] = .inr (tg F3, ops) ∧ Cl 8 17 F F3 (ops.map (cell al)) := fun q => by
    rcases r2 with ⟨q1, -⟩ | ⟨q1, -, -, q4⟩
    · rw [hx, q1] at q
      exact absurd (by decide) q
    · have z := zE_run (zE_dst (hR0.2 q1) p1 (by decide) (by decide)) (by unfold tg; omega) (by rw [kg_eq (g0.2 39 (by decide) (by decide))]; exact q4)
      rw [kg_eq (g0.2 39 (by decide) (by decide)), vg_eq (g0.2 41 (by decide) (by decide)), hal] at z
      exact z
  have r2 : (x = 0 ∧ eX (kg F0) (tg F) 0 0 = .inl ((sy_i F3 34).toInt, tg F3)) ∨ (x = 1 ∧ eX (kg F0) (tg F) 0 0 = .inr (tg F3)) := r2.imp id (fun q => ⟨q.1, q.2.1.trans (eX_e0 (by unfold tg; omega) q.2.2.2)⟩)
  have k82 := nz_fi (p2 82 (by decide) (by decide))
  rw [← hx] at r2
  obtain ⟨y0, y1⟩ := x01 r2
  have t4 : (tg F3 : Int) ≤ 400 := by
    have := nz_bx g3.1 (k := 33) (lo := 0) (hi := 400) rfl
    unfold tg
    omega
  refine k3zi_15 (by decide) F3 X1 X2 g3.1 ?_ ?_
  all_goals intros
  all_goals first
    | (rename_i F4 hb g e33 e34 eC a39 aC
       refine ⟨_, F4, rfl, rfl, g3.trans (gc_mk (W := k3_W) hb g (by decide)) (fun _ q => q), ?_, fun zz => absurd zz (by decide)⟩
       rw [tg_eq e33, e34]
       exact Or.inl ⟨rfl, by rw [hr, i1, y0 (by assumption)]; rfl⟩)
    | (rename_i F4 hb g e33 e34 eC a39 aC e82
       obtain ⟨u, w1, w2⟩ := hops (by assumption)
       have te := tg_eq e33
       have b2 := w2.2.1
       exact k3y21 X1 X2 F0 r0 R0 al hJ0 hcs0 cC F4 u (g3.trans (gc_mk (W := k3_W) hb g (by decide)) (fun _ q => q)) (by omega) (by omega) (by rw [hr, i1, y1 (by assumption), te]; rfl) (fun f acc => by rw [hz, zc1, w1, te]; rfl) (Cl_dst (Cl_app cC hC w2) eC aC (by omega)) (by omega) (by omega))
end IZ3
theorem k3pi_TZ {Ls : Nat} {xs : Nat → Int32} (X1 X2 : List jm_c) (F : Nat → sy_d) (a : Int32) (hB : iv_in F iv_B0) (hJ : jx_ok F) (hcs : (sy_i F 8).toInt ≤ 12 + tg F) (a0 : 0 ≤ a.toInt) (a5 : a.toInt ≤ 5) (hk : kg F (tg F) = 31) : jm_T Ls xs 25 jm_M37 [.ref 30, .int a] (sy_dh F X1 X2 (iv_H 3)) 0 0 (fun v G => ∃ (x : Int32) (F' : Nat → sy_d), v = some (.int x) ∧ G = sy_dh F' X1 X2 (iv_H 3) ∧ piZ 8 17 k3_W a.toInt x F F') := by
  refine nx_T (s := 3) (by decide) F X1 X2 (as := [a]) (A := [.inl (.ref 30), .inr (.inl 82)]) jm_ok37 (by decide) rfl ?_
  obtain ⟨F0, hF0⟩ : ∃ F0, F0 = nx 82 F [a] := ⟨_, rfl⟩
  rw [← hF0]
  have k0 : ∀ q, q < 82 → F0 q = F q := by rw [hF0]; exact nx_lt
  have i82 : sy_i F0 82 = a := by rw [hF0]; rfl
  have hB0 := hd_iveq0 hB k0
  have hJ0 : jx_ok F0 := jx_ok_eq (k0 39 (by decide)) (k0 41 (by decide)) hJ
  have hk0 : kg F0 (tg F0) = 31 := by rw [kg_eq (k0 39 (by decide)), tg_eq (nz_fi (k0 33 (by decide)))]; exact hk
  have hcs0 : (sy_i F0 8).toInt ≤ 12 + tg F0 := by rw [nz_fi (k0 8 (by decide)), tg_eq (nz_fi (k0 33 (by decide)))]; exact hcs
  have cC := (nz_bx hB0 (k := 8) (lo := 0) (hi := 512) rfl).1
  clear hF0
  refine hd_W_mono (Q := fun v G => ∃ (x : Int32) (F' : Nat → sy_d), v = some (.int x) ∧ G = sy_dh F' X1 X2 (iv_H 3) ∧ gc k3_W F0 F' ∧ ((x = 0 ∧ sIf (kg F0) (tg F0) = .inl ((sy_i F' 34).toInt, tg F')) ∨ (x = 1 ∧ sIf (kg F0) (tg F0) = .inr (tg F'))) ∧ (x = 1 → ziC 8 17 (fun f acc => sB (sG (tg F0)) (zc1 (kg F0) (vg F0) f acc)) a.toInt F0 F')) ?_ (by
    rintro v G ⟨x, F', rfl, rfl, h1, h2, h3⟩
    exact ⟨x, F', rfl, rfl, piZ_src ⟨⟨h1, fun _ => h2⟩, h3⟩ k0 (by decide) (by decide)⟩)
  refine k3zi_0 (by decide) F0 X1 X2 hB0 ?_
  intro F hb g e33 e34 eC0 a39 aC0 e82
  have g0 : gc k3_W F0 F := gc_mk hb g (by decide)
  have h82 : 0 ≤ (sy_i F 82).toInt ∧ (sy_i F 82).toInt ≤ 5 := by rw [e82, i82]; exact ⟨a0, a5⟩
  have hal : (sy_i F 82).toInt = a.toInt := by rw [e82, i82]
  have hr : sIf (kg F0) (tg F0) = sB (sM (kg F0) 31 (tg F)) (i1 (kg F0)) := by rw [i_eq _ hk0, tg_eq e33]
  have tf := tg_eq e33
  refine hd_calI (R := fun x F' => taR ((11 : Int32)).toInt x F F') (nh := 82) (nv := 83) (s := 3) (s1 := 3) (d1 := 3) (M1 := jm_M43) (As := [.inl (.ref 30), .inl (.int 11)]) (rest := []) jm_ok37 rfl rfl (by decide) (by decide +kernel) (k3ta_T F X1 X2 g0.1 11) (fun F3 F' x hR p1 p2 p3 => ?_)
  have hR : taR 11 x F F' := hR
  obtain ⟨r1, r2⟩ := taR_dst hR p1
  have r2 := r2 (km_in (j := 31) (fun c => km_w (by decide) (by decide)) (by decide))
  rw [show km 11 = 31 by decide, kg_eq (g0.2 39 (by decide) (by decide))] at r2
  have g3 : gc k3_W F0 F3 := g0.trans r1 (by decide)
  have hx : sy_i F3 83 = x := zz_i p3
  have k82 := nz_fi (p2 82 (by decide) (by decide))
  have r2 : (x = 0 ∧ _) ∨ (x = 1 ∧ _) := r2.imp id (fun q => ⟨q.1, q.2.elim (fun a z => by have := z.2; subst this; exact z.1)⟩)
  rw [← hx] at r2
  obtain ⟨y0, y1⟩ := x01 r2
  have ty : (sy_i F3 83).toInt ≠ 0 → tg F3 = tg F + 1 := fun q => sM_r (y1 q)
  have ec : (sy_i F3 8).toInt = (sy_i F 8).toInt := nz_fi (r1.2 8 (by decide) (by decide))
  have ea : sy_ai F3 17 = sy_ai F 17 := nz_fa (r1.2 17 (by decide) (by decide))
  have t4 : (tg F3 : Int) ≤ 400 := by
    have := nz_bx g3.1 (k := 33) (lo := 0) (hi := 400) rfl
    unfold tg
    omega
  refine k3zi_6 (by decide) F3 X1 X2 g3.1 ?_ ?_
  all_goals intros
  all_goals first
    | (rename_i F4 hb g e33 e34 eC a39 aC
       refine ⟨_, F4, rfl, rfl, g3.trans (gc_mk (W := k3_W) hb g (by decide)) (fun _ q => q), ?_, fun zz => absurd zz (by decide)⟩
       rw [tg_eq e33, e34]
       exact Or.inl ⟨rfl, by rw [hr, y0 (by assumption)]; rfl⟩)
    | (rename_i F4 hb g e33 e34 eC a39 aC e82
       have tt := ty (by assumption)
       have y := y1 (by assumption)
       have te := tg_eq e33
       exact k3y12 X1 X2 F0 _ _ a.toInt hJ0 hcs0 cC F4 (g3.trans (gc_mk (W := k3_W) hb g (by decide)) (fun _ q => q)) (by omega) (by omega) (by rw [hr, y, te]; rfl) (fun f acc => by
         show sB (sG (tg F0)) _ = _
         rw [show sG (tg F0) = .inr (tg F3) by rw [← y, tf]; unfold sM; rw [if_pos hk0], te]
         rfl) (Cl_dst Cl_nil ((eC.trans ec).trans eC0) ((aC.trans ea).trans aC0) (by omega)) (by omega) (by omega))
end
section
/-! ===== the class parses a law: the cells ===== -/
noncomputable def zlr (K V : Nat → Int) (t : Nat) : sE ⊕ (Nat × List bRT) := sB (sG t) (zLw K V)
noncomputable def plC (cs co ls : Nat) (Z0 : sE ⊕ (Nat × List bRT)) (a : Int) (F0 F' : Nat → sy_d) : Prop := tg F0 < tg F' ∧ ∃ bs : List bRT, Z0 = .inr (tg F', bs) ∧ Cl cs co F0 F' (lcs a (sy_i F0 cs).toInt.toNat bs) ∧ sy_ai F' ls = jm_upd (sy_ai F0 ls) a.toNat (sy_i F0 cs)
noncomputable def plZ (cs co ls : Nat) (W : List Nat) (a : Int) (x : Int32) (F F' : Nat → sy_d) : Prop := plR W x F F' ∧ (x = 1 → plC cs co ls (zlr (kg F) (vg F) (tg F)) a F F')
theorem plC_dst {cs co ls : Nat} {Z0 : sE ⊕ (Nat × List bRT)} {a : Int} {F0 F F2 : Nat → sy_d} (h : plC cs co ls Z0 a F0 F) (e : ∀ q, q < 82 → F2 q = F q) (h1 : cs < 82) (h2 : co < 82) (h3 : ls < 82) : plC cs co ls Z0 a F0 F2 := by
  obtain ⟨h0, b, hb, hc, hd⟩ := h
  have et := tg_eq (nz_fi (e 33 (by decide)))
  exact ⟨by rw [et]; exact h0, b, by rw [et]; exact hb, Cl_q hc e h1 h2, by rw [nz_fa (e ls h3)]; exact hd⟩
theorem plZ_src {cs co ls : Nat} {W : List Nat} {a : Int} {x : Int32} {F F0 F' : Nat → sy_d} (h : plZ cs co ls W a x F0 F') (e : ∀ q, q < 82 → F0 q = F q) (h1 : cs < 82) (h2 : co < 82) (h3 : ls < 82) : plZ cs co ls W a x F F' := by
  refine ⟨plR_src h.1 e, fun z => ?_⟩
  obtain ⟨h0, b, hb, hc, hd⟩ := h.2 z
  have et := tg_eq (nz_fi (e 33 (by decide)))
  rw [kg_eq (e 39 (by decide)), vg_eq (e 41 (by decide)), et] at hb
  rw [nz_fi (e cs h1)] at hc
  rw [nz_fa (e ls h3), show sy_i F0 cs = sy_i F cs from Int32.toInt_inj.mp (nz_fi (e cs h1))] at hd
  exact ⟨by rw [← et]; exact h0, b, hb, Cl_src hc e h1 h2, hd⟩
theorem lcs_end {a : Int} {s c : Nat} {acc : List bRT} {w : List rO} (hc : c = s + (lcs a s acc).length) : lcs a s (acc ++ [(none, w)]) = lcs a s acc ++ w.map (cell a) ++ [-14] := by
  rw [lcs_app]
  show _ ++ ((w.map (cell a) ++ [-14]) ++ []) = _
  rw [List.append_nil, List.append_assoc]
section LZ0
variable {Ls : Nat} {xs : Nat → Int32} (X1 X2 : List jm_c) (F0 : Nat → sy_d) (r0 : sE ⊕ Nat) (Z0 : sE ⊕ (Nat × List bRT)) (al : Int)
theorem k0w92 (hJ0 : jx_ok F0) (hcs0 : (sy_i F0 23).toInt ≤ 12 + tg F0) (cC : 0 ≤ (sy_i F0 23).toInt) (F : Nat → sy_d) (acc : List bRT) (w : List rO) (g0 : gc k0_WL F0 F) (h82 : 0 ≤ (sy_i F 82).toInt ∧ (sy_i F 82).toInt ≤ 5) (hal : (sy_i F 82).toInt = al) (h83 : sy_i F 83 = sy_i F0 23) (hr : r0 = sM (kg F0) 4 (tg F)) (hz : Z0 = sB (sM (kg F0) 4 (tg F)) fun t => .inr (t, acc ++ [(none, w)])) (hC : Cl 23 32 F0 F (lcs al (sy_i F0 23).toInt.toNat acc ++ w.map (cell al))) (hL : sy_ai F 31 = sy_ai F0 31) (htg : tg F0 < tg F) :
    hd_W Ls xs 26 jm_M36 (fun v G => ∃ (x : Int32) (F' : Nat → sy_d), v = some (.int x) ∧ G = sy_dh F' X1 X2 (iv_H 0) ∧ gc k0_WL F0 F' ∧ ((x = 0 ∧ r0 = .inl ((sy_i F' 34).toInt, tg F')) ∨ (x = 1 ∧ r0 = .inr (tg F'))) ∧ (x = 1 → plC 23 32 31 Z0 al F0 F')) (92, sy_dL F [some (.inl (.ref 30)), none, some (.inr (.inl 82)), some (.inr (.inl 83)), none], sy_dS F [.inl (.int 59), .inl (.ref 30)], sy_dh F X1 X2 (iv_H 0), 0, 0) := by
  refine hd_calI (R := fun x F' => taR ((59 : Int32)).toInt x F F') (nh := 82) (nv := 84) (s := 0) (s1 := 0) (d1 := 3) (M1 := jm_M43) (As := [.inl (.ref 30), .inl (.int 59)]) (rest := []) jm_ok36 rfl rfl (by decide) (by decide +kernel) (k0ta_T F X1 X2 g0.1 59) (fun F3 F' x hR p1 p2 p3 => ?_)
  have hR : taR 59 x F F' := hR
  obtain ⟨r1, r2⟩ := taR_dst hR p1
  have r2 := r2 (km_in (j := 4) (fun c => km_4) (by decide))
  rw [show km 59 = 4 by decide, kg_eq (g0.2 39 (by decide) (by decide))] at r2
  have g3 : gc k0_WL F0 F3 := g0.trans r1 (by decide)
  have hx : sy_i F3 84 = x := zz_i p3
  have k82 := nz_fi (p2 82 (by decide) (by decide))
  have r2 : (x = 0 ∧ _) ∨ (x = 1 ∧ _) := r2.imp id (fun q => ⟨q.1, q.2.elim (fun a z => by have := z.2; subst this; exact z.1)⟩)
  rw [← hx] at r2
  obtain ⟨y0, y1⟩ := x01 r2
  have ty : (sy_i F3 84).toInt ≠ 0 → tg F3 = tg F + 1 := fun q => sM_r (y1 q)
  have ec : (sy_i F3 23).toInt = (sy_i F 23).toInt := nz_fi (r1.2 23 (by decide) (by decide))
  have ea : sy_ai F3 32 = sy_ai F 32 := nz_fa (r1.2 32 (by decide) (by decide))
  have el : sy_ai F3 31 = sy_ai F 31 := nz_fa (r1.2 31 (by decide) (by decide))
  have k83 : sy_i F3 83 = sy_i F 83 := Int32.toInt_inj.mp (nz_fi (p2 83 (by decide) (by decide)))
  have t4 : (tg F3 : Int) ≤ 400 := by
    have := nz_bx g3.1 (k := 33) (lo := 0) (hi := 400) rfl
    unfold tg
    omega
  have cC3 := nz_bx g3.1 (k := 23) (lo := 0) (hi := 512) rfl
  have b0 := nz_bx (show iv_in F iv_B0 from g0.1) (k := 23) (lo := 0) (hi := 512) rfl
  have b2 := hC.2.1
  have cF : (sy_i F3 83).toInt = (sy_i F0 23).toInt := by rw [k83, h83]
  have c5 := hC.1
  refine k0zl_95 (by decide) F3 X1 X2 g3.1 (by omega) (by omega) ?_ ?_ ?_
  all_goals intros
  all_goals first
    | (rename_i F4 hb g e33 e34 eC a39 aC aL
       refine ⟨_, F4, rfl, rfl, g3.trans (gc_mk (W := k0_WL) hb g (by decide)) (fun _ q => q), ?_, fun zz => absurd zz (by decide)⟩
       rw [tg_eq e33, e34]
       exact Or.inl ⟨rfl, by rw [hr, y0 (by assumption)]⟩)
    | (have tt := ty (by assumption)
       exfalso
       omega)
    | (rename_i F4 hb g e33 e34 eC a39 aC aL
       have tt := ty (by assumption)
       have y := y1 (by assumption)
       have te := tg_eq e33
       refine ⟨_, F4, rfl, rfl, g3.trans (gc_mk (W := k0_WL) hb g (by decide)) (fun _ q => q), Or.inr ⟨rfl, by rw [te, hr, y]⟩, fun _ => ⟨by omega, acc ++ [(none, w)], by rw [hz, y, te]; rfl, ?_, by rw [aL, el, hL, k83, h83, show (sy_i F3 82).toInt.toNat = al.toNat by omega]⟩⟩
       rw [lcs_end rfl]
       exact Cl_push (v := -14) cC (Cl_dst hC ec ea (by omega)) eC aC (by omega))
theorem k0w83 (hJ0 : jx_ok F0) (hcs0 : (sy_i F0 23).toInt ≤ 12 + tg F0) (cC : 0 ≤ (sy_i F0 23).toInt) (F : Nat → sy_d) (acc : List bRT) (g0 : gc k0_WL F0 F) (h82 : 0 ≤ (sy_i F 82).toInt ∧ (sy_i F 82).toInt ≤ 5) (hal : (sy_i F 82).toInt = al) (h83 : sy_i F 83 = sy_i F0 23) (hr : r0 = sLast (kg F0) (tg F)) (hz : Z0 = zLast (kg F0) (vg F0) acc (tg F)) (hC : Cl 23 32 F0 F (lcs al (sy_i F0 23).toInt.toNat acc)) (hL : sy_ai F 31 = sy_ai F0 31) (htg : tg F0 < tg F) :
    hd_W Ls xs 26 jm_M36 (fun v G => ∃ (x : Int32) (F' : Nat → sy_d), v = some (.int x) ∧ G = sy_dh F' X1 X2 (iv_H 0) ∧ gc k0_WL F0 F' ∧ ((x = 0 ∧ r0 = .inl ((sy_i F' 34).toInt, tg F')) ∨ (x = 1 ∧ r0 = .inr (tg F'))) ∧ (x = 1 → plC 23 32 31 Z0 al F0 F')) (83, sy_dL F [some (.inl (.ref 30)), none, some (.inr (.inl 82)), some (.inr (.inl 83)), none], sy_dS F [.inl (.int 0), .inr (.inl 82), .inl (.ref 30)], sy_dh F X1 X2 (iv_H 0), 0, 0) := by
  have hJ : jx_ok F := jx_ok_eq (g0.2 39 (by decide) (by decide)) (g0.2 41 (by decide) (by decide)) hJ0
  have b1 := hC.2.1
  refine hd_calI (R := fun x F' => zR 23 32 2 k0_W E2 0 (sy_i F 82).toInt x F F') (nh := 82) (nv := 84) (s := 0) (s1 := 0) (d1 := 24) (M1 := jm_M38) (As := [.inl (.ref 30), .inr (.inl 82), .inl (.int 0)]) (rest := []) jm_ok36 rfl rfl (by decide) (by decide +kernel) (k0_sumz X1 X2 F (sy_i F 82) g0.1 hJ (by omega) h82.1 h82.2) (fun F3 F' x hR0 p1 p2 p3 => ?_)
  have hR := hR0.1
  obtain ⟨r1, rl, r2⟩ := pR_dst hR p1
  rw [kg_eq (g0.2 39 (by decide) (by decide))] at r2
  have g3 : gc k0_WL F0 F3 := g0.trans r1 (by decide)
  have c33 := nz_bx g3.1 (k := 33) (lo := 0) (hi := 400) rfl
  have hx : sy_i F3 84 = x := zz_i p3
  have hops : (sy_i F3 84).toInt ≠ 0 → ∃ ops, cX (kg F0) (vg F0) (tg F) [] 0 [] = .inr (tg F3, ops) ∧ Cl 23 32 F F3 (ops.map (cell al)) := fun q => by
    rcases r2 with ⟨q1, -⟩ | ⟨q1, -, -, q4⟩
    · rw [hx, q1] at q
      exact absurd (by decide) q
    · have z := zE_run (zE_dst (hR0.2 q1) p1 (by decide) (by decide)) (by unfold tg; omega) (by rw [kg_eq (g0.2 39 (by decide) (by decide))]; exact q4)
      rw [kg_eq (g0.2 39 (by decide) (by decide)), vg_eq (g0.2 41 (by decide) (by decide)), hal] at z
      exact z
  have r2 : (x = 0 ∧ eX (kg F0) (tg F) 0 0 = .inl ((sy_i F3 34).toInt, tg F3)) ∨ (x = 1 ∧ eX (kg F0) (tg F) 0 0 = .inr (tg F3)) := r2.imp id (fun q => ⟨q.1, q.2.1.trans (eX_e0 (by unfold tg; omega) q.2.2.2)⟩)
  have k82 := nz_fi (p2 82 (by decide) (by decide))
  rw [← hx] at r2
  obtain ⟨y0, y1⟩ := x01 r2
  have el : sy_ai F3 31 = sy_ai F 31 := nz_fa (r1.2 31 (by decide) (by decide))
  have k83 : sy_i F3 83 = sy_i F 83 := Int32.toInt_inj.mp (nz_fi (p2 83 (by decide) (by decide)))
  have t4 : (tg F3 : Int) ≤ 400 := by
    have := nz_bx g3.1 (k := 33) (lo := 0) (hi := 400) rfl
    unfold tg
    omega
  refine k0zl_86 (by decide) F3 X1 X2 g3.1 ?_ ?_
  all_goals intros
  all_goals first
    | (rename_i F4 hb g e33 e34 eC a39 aC aL
       refine ⟨_, F4, rfl, rfl, g3.trans (gc_mk (W := k0_WL) hb g (by decide)) (fun _ q => q), ?_, fun zz => absurd zz (by decide)⟩
       rw [tg_eq e33, e34]
       exact Or.inl ⟨rfl, by rw [hr, sLast, y0 (by assumption)]; rfl⟩)
    | (rename_i F4 hb g e33 e34 eC a39 aC aL e82 e83
       obtain ⟨w, w1, w2⟩ := hops (by assumption)
       have te := tg_eq e33
       have b2 := w2.2.1
       exact k0w92 X1 X2 F0 r0 Z0 al hJ0 hcs0 cC F4 acc w (g3.trans (gc_mk (W := k0_WL) hb g (by decide)) (fun _ q => q)) (by omega) (by omega) (by rw [Int32.toInt_inj.mp e83, k83, h83]) (by rw [hr, sLast, y1 (by assumption), te]; rfl) (by rw [hz, zLast, w1, te]; rfl) (Cl_dst (Cl_app cC hC w2) eC aC (by omega)) (by rw [aL, el, hL]) (by omega))
theorem k0w30 (hJ0 : jx_ok F0) (hcs0 : (sy_i F0 23).toInt ≤ 12 + tg F0) (cC : 0 ≤ (sy_i F0 23).toInt) : ∀ (n : Nat) (F : Nat → sy_d) (acc : List bRT), gc k0_WL F0 F → (0 ≤ (sy_i F 82).toInt ∧ (sy_i F 82).toInt ≤ 5) → (sy_i F 82).toInt = al → sy_i F 83 = sy_i F0 23 → (sy_i F 84).toInt + n = 4 → r0 = sB (sIfs (kg F0) n (tg F)) (sLast (kg F0)) → 0 ≤ (sy_i F 84).toInt → Z0 = zI (kg F0) (vg F0) n acc (tg F) → Cl 23 32 F0 F (lcs al (sy_i F0 23).toInt.toNat acc) → sy_ai F 31 = sy_ai F0 31 → tg F0 < tg F →
    hd_W Ls xs 26 jm_M36 (fun v G => ∃ (x : Int32) (F' : Nat → sy_d), v = some (.int x) ∧ G = sy_dh F' X1 X2 (iv_H 0) ∧ gc k0_WL F0 F' ∧ ((x = 0 ∧ r0 = .inl ((sy_i F' 34).toInt, tg F')) ∨ (x = 1 ∧ r0 = .inr (tg F'))) ∧ (x = 1 → plC 23 32 31 Z0 al F0 F')) (30, sy_dL F [some (.inl (.ref 30)), none, some (.inr (.inl 82)), some (.inr (.inl 83)), some (.inr (.inl 84))], sy_dS F [], sy_dh F X1 X2 (iv_H 0), 0, 0) := by
  intro n
  induction n with
  | zero =>
    intro F acc g0 h82 hal h83 h84 hr h840 hz hC hL htg
    have c33 := nz_bx g0.1 (k := 33) (lo := 0) (hi := 400) rfl
    have eK : kg F0 (tg F) = km ((sy_ai F 39).getD (sy_i F 33).toInt.toNat 0).toInt := by rw [show sy_ai F 39 = sy_ai F0 39 from nz_fa (g0.2 39 (by decide) (by decide))]; rfl
    have m31 : kg F0 (tg F) = 31 ↔ ((sy_ai F 39).getD (sy_i F 33).toInt.toNat 0).toInt = 11 := by rw [eK]; exact km_w (by decide) (by decide)
    refine k0zl_30 (by decide) F X1 X2 g0.1 (by omega) ?_ ?_ ?_ ?_
    all_goals intros
    all_goals first
      | (exfalso; omega)
      | (rename_i F4 hb g e33 e34 eC a39 aC aL
         refine ⟨_, F4, rfl, rfl, g0.trans (gc_mk (W := k0_WL) hb g (by decide)) (fun _ q => q), Or.inl ⟨rfl, ?_⟩, fun zz => absurd zz (by decide)⟩
         rw [tg_eq e33, e34, hr, c_if0 (kg F0) (by omega)])
      | (rename_i F4 hb g e33 e34 eC a39 aC aL e82 e83
         have te := tg_eq e33
         exact k0w83 X1 X2 F0 r0 Z0 al hJ0 hcs0 cC F4 acc (g0.trans (gc_mk (W := k0_WL) hb g (by decide)) (fun _ q => q)) (by omega) (by omega) (by rw [Int32.toInt_inj.mp e83, h83]) (by rw [hr, c_no (kg F0) (by omega), te]) (by rw [hz, z_no _ _ (by omega), te]) (Cl_dst hC eC aC (by omega)) (by rw [aL, hL]) (by omega))
  | succ n ih =>
    intro F acc g0 h82 hal h83 h84 hr h840 hz hC hL htg
    have c33 := nz_bx g0.1 (k := 33) (lo := 0) (hi := 400) rfl
    have eK : kg F0 (tg F) = km ((sy_ai F 39).getD (sy_i F 33).toInt.toNat 0).toInt := by rw [show sy_ai F 39 = sy_ai F0 39 from nz_fa (g0.2 39 (by decide) (by decide))]; rfl
    have m31 : kg F0 (tg F) = 31 ↔ ((sy_ai F 39).getD (sy_i F 33).toInt.toNat 0).toInt = 11 := by rw [eK]; exact km_w (by decide) (by decide)
    refine k0zl_30 (by decide) F X1 X2 g0.1 (by omega) ?_ ?_ ?_ ?_
    all_goals intros
    all_goals first
      | (exfalso; omega)
      | (rename_i F4 hb g e33 e34 eC a39 aC aL e82 e83
         have te := tg_eq e33
         exact k0w83 X1 X2 F0 r0 Z0 al hJ0 hcs0 cC F4 acc (g0.trans (gc_mk (W := k0_WL) hb g (by decide)) (fun _ q => q)) (by omega) (by omega) (by rw [Int32.toInt_inj.mp e83, h83]) (by rw [hr, c_no (kg F0) (by omega), te]) (by rw [hz, z_no _ _ (by omega), te]) (Cl_dst hC eC aC (by omega)) (by rw [aL, hL]) (by omega))
      | (rename_i F1 hb1 g1 e33 e34 eC a39 aC aL e82 e83 e84
         have g01 : gc k0_WL F0 F1 := g0.trans (gc_mk (W := k0_WL) hb1 g1 (by decide)) (fun _ q => q)
         have hJ1 : jx_ok F1 := jx_ok_eq (g01.2 39 (by decide) (by decide)) (g01.2 41 (by decide) (by decide)) hJ0
         have te := tg_eq e33
         have hk1 : kg F1 (tg F1) = 31 := by
           rw [kg_eq (g01.2 39 (by decide) (by decide)), te]
           omega
         have hC1 := Cl_dst hC eC aC (by omega)
         have b1 := hC1.2.1
         refine hd_calI (R := fun x F' => piZ 23 32 k0_W (sy_i F1 82).toInt x F1 F') (nh := 82) (nv := 85) (s := 0) (s1 := 0) (d1 := 25) (M1 := jm_M37) (As := [.inl (.ref 30), .inr (.inl 82)]) (rest := []) jm_ok36 rfl rfl (by decide) (by decide +kernel) (k0pi_TZ X1 X2 F1 (sy_i F1 82) hb1 hJ1 (by omega) (by omega) (by omega) hk1) (fun F3 F' x hR0 p1 p2 p3 => ?_)
         have hR := hR0.1
         obtain ⟨r1, r2⟩ := piR_dst hR p1
         have r2 := r2 hk1
         rw [kg_eq (g01.2 39 (by decide) (by decide)), te] at r2
         have g3 : gc k0_WL F0 F3 := g01.trans r1 (by decide)
         have hx : sy_i F3 85 = x := zz_i p3
         have hq : (sy_i F3 85).toInt ≠ 0 → ziC 23 32 (fun f acc => sB (sG (tg F)) (zc1 (kg F0) (vg F0) f acc)) al F1 F3 := fun q => by
           have hx1 : x = 1 := by
             rcases r2 with ⟨q1, -⟩ | ⟨q1, -⟩
             · rw [hx, q1] at q
               exact absurd (by decide) q
             · exact q1
           have z := ziC_dst (hR0.2 hx1) p1 (by decide) (by decide)
           rw [kg_eq (g01.2 39 (by decide) (by decide)), vg_eq (g01.2 41 (by decide) (by decide)), te, show (sy_i F1 82).toInt = al by omega] at z
           exact z
         have k82 := nz_fi (p2 82 (by decide) (by decide))
         have k83 : sy_i F3 83 = sy_i F1 83 := Int32.toInt_inj.mp (nz_fi (p2 83 (by decide) (by decide)))
         have k84 := nz_fi (p2 84 (by decide) (by decide))
         have el : sy_ai F3 31 = sy_ai F1 31 := nz_fa (r1.2 31 (by decide) (by decide))
         rw [← hx] at r2
         obtain ⟨y0, y1⟩ := x01 r2
         have hr2 : r0 = sB (sB (sIf (kg F0) (tg F)) (sIfs (kg F0) n)) (sLast (kg F0)) := by
           rw [hr]
           show sB (if kg F0 (tg F) = 31 then _ else _) _ = _
           rw [if_pos (by omega)]
         refine k0zl_69 (by decide) F3 X1 X2 g3.1 (by omega) ?_ ?_
         · intro q F4 hb g d33 d34 dC b39 bC bL d82 d83 d84
           obtain ⟨t1, b, hb1, hb2⟩ := hq q
           have te4 := tg_eq d33
           refine ih F4 (acc ++ [b]) (g3.trans (gc_mk (W := k0_WL) hb g (by decide)) (fun _ q => q)) (by omega) (by omega) (by rw [Int32.toInt_inj.mp d83, k83, Int32.toInt_inj.mp e83, h83]) (by omega) ?_ (by omega) ?_ ?_ (by rw [bL, el, aL, hL]) (by omega)
           · rw [hr2, y1 q, te4]
             rfl
           · rw [hz, z_if _ _ (by omega), te4]
             exact hb1 (zI (kg F0) (vg F0) n) acc
           · rw [lcs_app]
             have z := Cl_app cC hC1 hb2
             rw [show (sy_i F1 23).toInt.toNat = (sy_i F0 23).toInt.toNat + (lcs al (sy_i F0 23).toInt.toNat acc).length by have := hC1.1; omega] at z
             exact Cl_dst z dC bC (by omega)
         · intro q F4 hb g d33 d34 dC b39 bC bL
           refine ⟨_, F4, rfl, rfl, g3.trans (gc_mk (W := k0_WL) hb g (by decide)) (fun _ q => q), Or.inl ⟨rfl, ?_⟩, fun zz => absurd zz (by decide)⟩
           rw [tg_eq d33, d34, hr2, y0 q]
           rfl)
theorem k0w11 (hJ0 : jx_ok F0) (hcs0 : (sy_i F0 23).toInt ≤ 12 + tg F0) (cC : 0 ≤ (sy_i F0 23).toInt) (F : Nat → sy_d) (g0 : gc k0_WL F0 F) (h83 : 0 ≤ (sy_i F 83).toInt ∧ (sy_i F 83).toInt ≤ 5) (hal : (sy_i F 83).toInt = al) (hr : r0 = sLw (kg F0) (tg F)) (hz : Z0 = zLw (kg F0) (vg F0) (tg F)) (hC : Cl 23 32 F0 F []) (hL : sy_ai F 31 = sy_ai F0 31) (htg : tg F0 < tg F) :
    hd_W Ls xs 26 jm_M36 (fun v G => ∃ (x : Int32) (F' : Nat → sy_d), v = some (.int x) ∧ G = sy_dh F' X1 X2 (iv_H 0) ∧ gc k0_WL F0 F' ∧ ((x = 0 ∧ r0 = .inl ((sy_i F' 34).toInt, tg F')) ∨ (x = 1 ∧ r0 = .inr (tg F'))) ∧ (x = 1 → plC 23 32 31 Z0 al F0 F')) (11, sy_dL F [some (.inl (.ref 30)), some (.inr (.inl 82)), some (.inr (.inl 83)), none, none], sy_dS F [.inl (.int 61), .inl (.ref 30)], sy_dh F X1 X2 (iv_H 0), 0, 0) := by
  refine hd_calI (R := fun x F' => taR ((61 : Int32)).toInt x F F') (nh := 82) (nv := 84) (s := 0) (s1 := 0) (d1 := 3) (M1 := jm_M43) (As := [.inl (.ref 30), .inl (.int 61)]) (rest := []) jm_ok36 rfl rfl (by decide) (by decide +kernel) (k0ta_T F X1 X2 g0.1 61) (fun F3 F' x hR p1 p2 p3 => ?_)
  have hR : taR 61 x F F' := hR
  obtain ⟨r1, r2⟩ := taR_dst hR p1
  have r2 := r2 (km_in (j := 5) (fun c => km_5) (by decide))
  rw [show km 61 = 5 by decide, kg_eq (g0.2 39 (by decide) (by decide))] at r2
  have g3 : gc k0_WL F0 F3 := g0.trans r1 (by decide)
  have hx : sy_i F3 84 = x := zz_i p3
  have k82 := nz_fi (p2 82 (by decide) (by decide))
  have r2 : (x = 0 ∧ _) ∨ (x = 1 ∧ _) := r2.imp id (fun q => ⟨q.1, q.2.elim (fun a z => by have := z.2; subst this; exact z.1)⟩)
  rw [← hx] at r2
  obtain ⟨y0, y1⟩ := x01 r2
  have ty : (sy_i F3 84).toInt ≠ 0 → tg F3 = tg F + 1 := fun q => sM_r (y1 q)
  have ec : (sy_i F3 23).toInt = (sy_i F 23).toInt := nz_fi (r1.2 23 (by decide) (by decide))
  have ea : sy_ai F3 32 = sy_ai F 32 := nz_fa (r1.2 32 (by decide) (by decide))
  have el : sy_ai F3 31 = sy_ai F 31 := nz_fa (r1.2 31 (by decide) (by decide))
  have k83 : sy_i F3 83 = sy_i F 83 := Int32.toInt_inj.mp (nz_fi (p2 83 (by decide) (by decide)))
  have t4 : (tg F3 : Int) ≤ 400 := by
    have := nz_bx g3.1 (k := 33) (lo := 0) (hi := 400) rfl
    unfold tg
    omega
  refine k0zl_14 (by decide) F3 X1 X2 g3.1 ?_ ?_
  all_goals intros
  all_goals first
    | (rename_i F4 hb g e33 e34 eC a39 aC aL
       refine ⟨_, F4, rfl, rfl, g3.trans (gc_mk (W := k0_WL) hb g (by decide)) (fun _ q => q), Or.inl ⟨rfl, ?_⟩, fun zz => absurd zz (by decide)⟩
       rw [tg_eq e33, e34, hr, sLw, y0 (by assumption)]
       rfl)
    | (rename_i F4 hb g e33 e34 eC a39 aC aL e82 e83 e84
       have tt := ty (by assumption)
       have y := y1 (by assumption)
       have te := tg_eq e33
       have k83' : (sy_i F3 83).toInt = (sy_i F 83).toInt := by rw [k83]
       exact k0w30 X1 X2 F0 r0 Z0 al hJ0 hcs0 cC 4 F4 [] (g3.trans (gc_mk (W := k0_WL) hb g (by decide)) (fun _ q => q)) (by omega) (by omega) (Int32.toInt_inj.mp (by rw [e83, ec, hC.1]; simp)) (by omega) (by rw [hr, sLw, y, te]; rfl) (by omega) (by rw [hz, zLw, y, te]; rfl) (Cl_dst hC (eC.trans ec) (aC.trans ea) (by omega)) (by rw [aL, el, hL]) (by omega))
end LZ0
theorem k0pl_TZ {Ls : Nat} {xs : Nat → Int32} (X1 X2 : List jm_c) (F : Nat → sy_d) (a b : Int32) (hB : iv_in F iv_B0) (hJ : jx_ok F) (hcs : (sy_i F 23).toInt ≤ 12 + tg F) (b0 : 0 ≤ b.toInt) (b5 : b.toInt ≤ 5) (ha : 0 ≤ a.toInt ∧ a.toInt ≤ 22) (hk : ((sy_ai F 39).getD (sy_i F 33).toInt.toNat 0).toInt = a.toInt) : jm_T Ls xs 26 jm_M36 [.ref 30, .int a, .int b] (sy_dh F X1 X2 (iv_H 0)) 0 0 (fun v G => ∃ (x : Int32) (F' : Nat → sy_d), v = some (.int x) ∧ G = sy_dh F' X1 X2 (iv_H 0) ∧ plZ 23 32 31 k0_WL b.toInt x F F') := by
  refine nx_T (s := 0) (by decide) F X1 X2 (as := [a, b]) (A := [.inl (.ref 30), .inr (.inl 82), .inr (.inl 83)]) jm_ok36 (by decide) rfl ?_
  obtain ⟨F0, hF0⟩ : ∃ F0, F0 = nx 82 F [a, b] := ⟨_, rfl⟩
  rw [← hF0]
  have k0 : ∀ q, q < 82 → F0 q = F q := by rw [hF0]; exact nx_lt
  have i82 : sy_i F0 82 = a := by rw [hF0]; rfl
  have i83 : sy_i F0 83 = b := by rw [hF0]; rfl
  have hB0 := hd_iveq0 hB k0
  have hJ0 : jx_ok F0 := jx_ok_eq (k0 39 (by decide)) (k0 41 (by decide)) hJ
  have hcs0 : (sy_i F0 23).toInt ≤ 12 + tg F0 := by rw [nz_fi (k0 23 (by decide)), tg_eq (nz_fi (k0 33 (by decide)))]; exact hcs
  have cC := (nz_bx hB0 (k := 23) (lo := 0) (hi := 512) rfl).1
  have hk0 : kg F0 (tg F0) = km a.toInt := by
    show km ((sy_ai F0 39).getD (sy_i F0 33).toInt.toNat 0).toInt = _
    rw [nz_fa (k0 39 (by decide)), nz_fi (k0 33 (by decide)), hk]
  clear hF0
  refine hd_W_mono (Q := fun v G => ∃ (x : Int32) (F' : Nat → sy_d), v = some (.int x) ∧ G = sy_dh F' X1 X2 (iv_H 0) ∧ gc k0_WL F0 F' ∧ ((x = 0 ∧ plr (kg F0) (tg F0) = .inl ((sy_i F' 34).toInt, tg F')) ∨ (x = 1 ∧ plr (kg F0) (tg F0) = .inr (tg F'))) ∧ (x = 1 → plC 23 32 31 (zlr (kg F0) (vg F0) (tg F0)) b.toInt F0 F')) ?_ (by
    rintro v G ⟨x, F', rfl, rfl, h1, h2, h3⟩
    exact ⟨x, F', rfl, rfl, plZ_src ⟨⟨h1, h2⟩, h3⟩ k0 (by decide) (by decide) (by decide)⟩)
  refine k0zl_0 (by decide) F0 X1 X2 hB0 ?_
  intro F hb g e33 e34 eC0 a39 aC0 aL0 e82 e83
  have g0 : gc k0_WL F0 F := gc_mk hb g (by decide)
  have tf := tg_eq e33
  refine hd_calI (R := fun x F' => taR (sy_i F 82).toInt x F F') (nh := 82) (nv := 84) (s := 0) (s1 := 0) (d1 := 3) (M1 := jm_M43) (As := [.inl (.ref 30), .inr (.inl 82)]) (rest := []) jm_ok36 rfl rfl (by decide) (by decide +kernel) (k0ta_T F X1 X2 g0.1 (sy_i F 82)) (fun F3 F' x hR p1 p2 p3 => ?_)
  obtain ⟨r1, r2⟩ := taR_dst hR p1
  rw [e82, i82] at r2
  have r2 := r2 (fun c z => by
    rw [km_r ha.1 ha.2] at z
    have := (km_w (c := c) (k := a.toInt + 20) (by omega) (by omega)).mp z
    omega)
  rw [kg_eq (g0.2 39 (by decide) (by decide)), tg_eq e33, show sM (kg F0) (km a.toInt) (tg F0) = sG (tg F0) by unfold sM; rw [if_pos hk0]] at r2
  have g3 : gc k0_WL F0 F3 := g0.trans r1 (by decide)
  have hx : sy_i F3 84 = x := zz_i p3
  have k82 := nz_fi (p2 82 (by decide) (by decide))
  have r2 : (x = 0 ∧ _) ∨ (x = 1 ∧ _) := r2.imp id (fun q => ⟨q.1, q.2.elim (fun a z => by have := z.2; subst this; exact z.1)⟩)
  rw [← hx] at r2
  obtain ⟨y0, y1⟩ := x01 r2
  have ty : (sy_i F3 84).toInt ≠ 0 → tg F3 = tg F + 1 := fun q => (sG_r (y1 q)).trans (by rw [tf])
  have ec : (sy_i F3 23).toInt = (sy_i F 23).toInt := nz_fi (r1.2 23 (by decide) (by decide))
  have ea : sy_ai F3 32 = sy_ai F 32 := nz_fa (r1.2 32 (by decide) (by decide))
  have el : sy_ai F3 31 = sy_ai F 31 := nz_fa (r1.2 31 (by decide) (by decide))
  have k83 : sy_i F3 83 = sy_i F 83 := Int32.toInt_inj.mp (nz_fi (p2 83 (by decide) (by decide)))
  have t4 : (tg F3 : Int) ≤ 400 := by
    have := nz_bx g3.1 (k := 33) (lo := 0) (hi := 400) rfl
    unfold tg
    omega
  have j83 : (sy_i F0 83).toInt = b.toInt := by rw [i83]
  have k83' : (sy_i F3 83).toInt = (sy_i F 83).toInt := by rw [k83]
  refine k0zl_5 (by decide) F3 X1 X2 g3.1 ?_ ?_
  all_goals intros
  all_goals first
    | (rename_i F4 hb g d33 d34 dC b39 bC bL
       refine ⟨_, F4, rfl, rfl, g3.trans (gc_mk (W := k0_WL) hb g (by decide)) (fun _ q => q), Or.inl ⟨rfl, ?_⟩, fun zz => absurd zz (by decide)⟩
       rw [tg_eq d33, d34, plr, y0 (by assumption)]
       rfl)
    | (rename_i F4 hb g d33 d34 dC b39 bC bL d82 d83
       have tt := ty (by assumption)
       have y := y1 (by assumption)
       have te := tg_eq d33
       exact k0w11 X1 X2 F0 _ _ b.toInt hJ0 hcs0 cC F4 (g3.trans (gc_mk (W := k0_WL) hb g (by decide)) (fun _ q => q)) (by omega) (by omega) (by rw [plr, y, te]; rfl) (by rw [zlr, y, te]; rfl) (Cl_dst Cl_nil ((dC.trans ec).trans eC0) ((bC.trans ea).trans aC0) (by omega)) (by rw [bL, el, aL0]) (by omega))
section LZ3
variable {Ls : Nat} {xs : Nat → Int32} (X1 X2 : List jm_c) (F0 : Nat → sy_d) (r0 : sE ⊕ Nat) (Z0 : sE ⊕ (Nat × List bRT)) (al : Int)
theorem k3w92 (hJ0 : jx_ok F0) (hcs0 : (sy_i F0 8).toInt ≤ 12 + tg F0) (cC : 0 ≤ (sy_i F0 8).toInt) (F : Nat → sy_d) (acc : List bRT) (w : List rO) (g0 : gc k3_WL F0 F) (h82 : 0 ≤ (sy_i F 82).toInt ∧ (sy_i F 82).toInt ≤ 5) (hal : (sy_i F 82).toInt = al) (h83 : sy_i F 83 = sy_i F0 8) (hr : r0 = sM (kg F0) 4 (tg F)) (hz : Z0 = sB (sM (kg F0) 4 (tg F)) fun t => .inr (t, acc ++ [(none, w)])) (hC : Cl 8 17 F0 F (lcs al (sy_i F0 8).toInt.toNat acc ++ w.map (cell al))) (hL : sy_ai F 16 = sy_ai F0 16) (htg : tg F0 < tg F) :
    hd_W Ls xs 26 jm_M36 (fun v G => ∃ (x : Int32) (F' : Nat → sy_d), v = some (.int x) ∧ G = sy_dh F' X1 X2 (iv_H 3) ∧ gc k3_WL F0 F' ∧ ((x = 0 ∧ r0 = .inl ((sy_i F' 34).toInt, tg F')) ∨ (x = 1 ∧ r0 = .inr (tg F'))) ∧ (x = 1 → plC 8 17 16 Z0 al F0 F')) (92, sy_dL F [some (.inl (.ref 30)), none, some (.inr (.inl 82)), some (.inr (.inl 83)), none], sy_dS F [.inl (.int 59), .inl (.ref 30)], sy_dh F X1 X2 (iv_H 3), 0, 0) := by
  refine hd_calI (R := fun x F' => taR ((59 : Int32)).toInt x F F') (nh := 82) (nv := 84) (s := 3) (s1 := 3) (d1 := 3) (M1 := jm_M43) (As := [.inl (.ref 30), .inl (.int 59)]) (rest := []) jm_ok36 rfl rfl (by decide) (by decide +kernel) (k3ta_T F X1 X2 g0.1 59) (fun F3 F' x hR p1 p2 p3 => ?_)
  have hR : taR 59 x F F' := hR
  obtain ⟨r1, r2⟩ := taR_dst hR p1
  have r2 := r2 (km_in (j := 4) (fun c => km_4) (by decide))
  rw [show km 59 = 4 by decide, kg_eq (g0.2 39 (by decide) (by decide))] at r2
  have g3 : gc k3_WL F0 F3 := g0.trans r1 (by decide)
  have hx : sy_i F3 84 = x := zz_i p3
  have k82 := nz_fi (p2 82 (by decide) (by decide))
  have r2 : (x = 0 ∧ _) ∨ (x = 1 ∧ _) := r2.imp id (fun q => ⟨q.1, q.2.elim (fun a z => by have := z.2; subst this; exact z.1)⟩)
  rw [← hx] at r2
  obtain ⟨y0, y1⟩ := x01 r2
  have ty : (sy_i F3 84).toInt ≠ 0 → tg F3 = tg F + 1 := fun q => sM_r (y1 q)
  have ec : (sy_i F3 8).toInt = (sy_i F 8).toInt := nz_fi (r1.2 8 (by decide) (by decide))
  have ea : sy_ai F3 17 = sy_ai F 17 := nz_fa (r1.2 17 (by decide) (by decide))
  have el : sy_ai F3 16 = sy_ai F 16 := nz_fa (r1.2 16 (by decide) (by decide))
  have k83 : sy_i F3 83 = sy_i F 83 := Int32.toInt_inj.mp (nz_fi (p2 83 (by decide) (by decide)))
  have t4 : (tg F3 : Int) ≤ 400 := by
    have := nz_bx g3.1 (k := 33) (lo := 0) (hi := 400) rfl
    unfold tg
    omega
  have cC3 := nz_bx g3.1 (k := 8) (lo := 0) (hi := 512) rfl
  have b0 := nz_bx (show iv_in F iv_B0 from g0.1) (k := 8) (lo := 0) (hi := 512) rfl
  have b2 := hC.2.1
  have cF : (sy_i F3 83).toInt = (sy_i F0 8).toInt := by rw [k83, h83]
  have c5 := hC.1
  refine k3zl_95 (by decide) F3 X1 X2 g3.1 (by omega) (by omega) ?_ ?_ ?_
  all_goals intros
  all_goals first
    | (rename_i F4 hb g e33 e34 eC a39 aC aL
       refine ⟨_, F4, rfl, rfl, g3.trans (gc_mk (W := k3_WL) hb g (by decide)) (fun _ q => q), ?_, fun zz => absurd zz (by decide)⟩
       rw [tg_eq e33, e34]
       exact Or.inl ⟨rfl, by rw [hr, y0 (by assumption)]⟩)
    | (have tt := ty (by assumption)
       exfalso
       omega)
    | (rename_i F4 hb g e33 e34 eC a39 aC aL
       have tt := ty (by assumption)
       have y := y1 (by assumption)
       have te := tg_eq e33
       refine ⟨_, F4, rfl, rfl, g3.trans (gc_mk (W := k3_WL) hb g (by decide)) (fun _ q => q), Or.inr ⟨rfl, by rw [te, hr, y]⟩, fun _ => ⟨by omega, acc ++ [(none, w)], by rw [hz, y, te]; rfl, ?_, by rw [aL, el, hL, k83, h83, show (sy_i F3 82).toInt.toNat = al.toNat by omega]⟩⟩
       rw [lcs_end rfl]
       exact Cl_push (v := -14) cC (Cl_dst hC ec ea (by omega)) eC aC (by omega))
theorem k3w83 (hJ0 : jx_ok F0) (hcs0 : (sy_i F0 8).toInt ≤ 12 + tg F0) (cC : 0 ≤ (sy_i F0 8).toInt) (F : Nat → sy_d) (acc : List bRT) (g0 : gc k3_WL F0 F) (h82 : 0 ≤ (sy_i F 82).toInt ∧ (sy_i F 82).toInt ≤ 5) (hal : (sy_i F 82).toInt = al) (h83 : sy_i F 83 = sy_i F0 8) (hr : r0 = sLast (kg F0) (tg F)) (hz : Z0 = zLast (kg F0) (vg F0) acc (tg F)) (hC : Cl 8 17 F0 F (lcs al (sy_i F0 8).toInt.toNat acc)) (hL : sy_ai F 16 = sy_ai F0 16) (htg : tg F0 < tg F) :
    hd_W Ls xs 26 jm_M36 (fun v G => ∃ (x : Int32) (F' : Nat → sy_d), v = some (.int x) ∧ G = sy_dh F' X1 X2 (iv_H 3) ∧ gc k3_WL F0 F' ∧ ((x = 0 ∧ r0 = .inl ((sy_i F' 34).toInt, tg F')) ∨ (x = 1 ∧ r0 = .inr (tg F'))) ∧ (x = 1 → plC 8 17 16 Z0 al F0 F')) (83, sy_dL F [some (.inl (.ref 30)), none, some (.inr (.inl 82)), some (.inr (.inl 83)), none], sy_dS F [.inl (.int 0), .inr (.inl 82), .inl (.ref 30)], sy_dh F X1 X2 (iv_H 3), 0, 0) := by
  have hJ : jx_ok F := jx_ok_eq (g0.2 39 (by decide) (by decide)) (g0.2 41 (by decide) (by decide)) hJ0
  have b1 := hC.2.1
  refine hd_calI (R := fun x F' => zR 8 17 2 k3_W E2 0 (sy_i F 82).toInt x F F') (nh := 82) (nv := 84) (s := 3) (s1 := 3) (d1 := 24) (M1 := jm_M38) (As := [.inl (.ref 30), .inr (.inl 82), .inl (.int 0)]) (rest := []) jm_ok36 rfl rfl (by decide) (by decide +kernel) (k3_sumz X1 X2 F (sy_i F 82) g0.1 hJ (by omega) h82.1 h82.2) (fun F3 F' x hR0 p1 p2 p3 => ?_)
  have hR := hR0.1
  obtain ⟨r1, rl, r2⟩ := pR_dst hR p1
  rw [kg_eq (g0.2 39 (by decide) (by decide))] at r2
  have g3 : gc k3_WL F0 F3 := g0.trans r1 (by decide)
  have c33 := nz_bx g3.1 (k := 33) (lo := 0) (hi := 400) rfl
  have hx : sy_i F3 84 = x := zz_i p3
  have hops : (sy_i F3 84).toInt ≠ 0 → ∃ ops, cX (kg F0) (vg F0) (tg F) [] 0 [] = .inr (tg F3, ops) ∧ Cl 8 17 F F3 (ops.map (cell al)) := fun q => by
    rcases r2 with ⟨q1, -⟩ | ⟨q1, -, -, q4⟩
    · rw [hx, q1] at q
      exact absurd (by decide) q
    · have z := zE_run (zE_dst (hR0.2 q1) p1 (by decide) (by decide)) (by unfold tg; omega) (by rw [kg_eq (g0.2 39 (by decide) (by decide))]; exact q4)
      rw [kg_eq (g0.2 39 (by decide) (by decide)), vg_eq (g0.2 41 (by decide) (by decide)), hal] at z
      exact z
  have r2 : (x = 0 ∧ eX (kg F0) (tg F) 0 0 = .inl ((sy_i F3 34).toInt, tg F3)) ∨ (x = 1 ∧ eX (kg F0) (tg F) 0 0 = .inr (tg F3)) := r2.imp id (fun q => ⟨q.1, q.2.1.trans (eX_e0 (by unfold tg; omega) q.2.2.2)⟩)
  have k82 := nz_fi (p2 82 (by decide) (by decide))
  rw [← hx] at r2
  obtain ⟨y0, y1⟩ := x01 r2
  have el : sy_ai F3 16 = sy_ai F 16 := nz_fa (r1.2 16 (by decide) (by decide))
  have k83 : sy_i F3 83 = sy_i F 83 := Int32.toInt_inj.mp (nz_fi (p2 83 (by decide) (by decide)))
  have t4 : (tg F3 : Int) ≤ 400 := by
    have := nz_bx g3.1 (k := 33) (lo := 0) (hi := 400) rfl
    unfold tg
    omega
  refine k3zl_86 (by decide) F3 X1 X2 g3.1 ?_ ?_
  all_goals intros
  all_goals first
    | (rename_i F4 hb g e33 e34 eC a39 aC aL
       refine ⟨_, F4, rfl, rfl, g3.trans (gc_mk (W := k3_WL) hb g (by decide)) (fun _ q => q), ?_, fun zz => absurd zz (by decide)⟩
       rw [tg_eq e33, e34]
       exact Or.inl ⟨rfl, by rw [hr, sLast, y0 (by assumption)]; rfl⟩)
    | (rename_i F4 hb g e33 e34 eC a39 aC aL e82 e83
       obtain ⟨w, w1, w2⟩ := hops (by assumption)
       have te := tg_eq e33
       have b2 := w2.2.1
       exact k3w92 X1 X2 F0 r0 Z0 al hJ0 hcs0 cC F4 acc w (g3.trans (gc_mk (W := k3_WL) hb g (by decide)) (fun _ q => q)) (by omega) (by omega) (by rw [Int32.toInt_inj.mp e83, k83, h83]) (by rw [hr, sLast, y1 (by assumption), te]; rfl) (by rw [hz, zLast, w1, te]; rfl) (Cl_dst (Cl_app cC hC w2) eC aC (by omega)) (by rw [aL, el, hL]) (by omega))
theorem k3w30 (hJ0 : jx_ok F0) (hcs0 : (sy_i F0 8).toInt ≤ 12 + tg F0) (cC : 0 ≤ (sy_i F0 8).toInt) : ∀ (n : Nat) (F : Nat → sy_d) (acc : List bRT), gc k3_WL F0 F → (0 ≤ (sy_i F 82).toInt ∧ (sy_i F 82).toInt ≤ 5) → (sy_i F 82).toInt = al → sy_i F 83 = sy_i F0 8 → (sy_i F 84).toInt + n = 4 → r0 = sB (sIfs (kg F0) n (tg F)) (sLast (kg F0)) → 0 ≤ (sy_i F 84).toInt → Z0 = zI (kg F0) (vg F0) n acc (tg F) → Cl 8 17 F0 F (lcs al (sy_i F0 8).toInt.toNat acc) → sy_ai F 16 = sy_ai F0 16 → tg F0 < tg F →
    hd_W Ls xs 26 jm_M36 (fun v G => ∃ (x : Int32) (F' : Nat → sy_d), v = some (.int x) ∧ G = sy_dh F' X1 X2 (iv_H 3) ∧ gc k3_WL F0 F' ∧ ((x = 0 ∧ r0 = .inl ((sy_i F' 34).toInt, tg F')) ∨ (x = 1 ∧ r0 = .inr (tg F'))) ∧ (x = 1 → plC 8 17 16 Z0 al F0 F')) (30, sy_dL F [some (.inl (.ref 30)), none, some (.inr (.inl 82)), some (.inr (.inl 83)), some (.inr (.inl 84))], sy_dS F [], sy_dh F X1 X2 (iv_H 3), 0, 0) := by
  intro n
  induction n with
  | zero =>
    intro F acc g0 h82 hal h83 h84 hr h840 hz hC hL htg
    have c33 := nz_bx g0.1 (k := 33) (lo := 0) (hi := 400) rfl
    have eK : kg F0 (tg F) = km ((sy_ai F 39).getD (sy_i F 33).toInt.toNat 0).toInt := by rw [show sy_ai F 39 = sy_ai F0 39 from nz_fa (g0.2 39 (by decide) (by decide))]; rfl
    have m31 : kg F0 (tg F) = 31 ↔ ((sy_ai F 39).getD (sy_i F 33).toInt.toNat 0).toInt = 11 := by rw [eK]; exact km_w (by decide) (by decide)
    refine k3zl_30 (by decide) F X1 X2 g0.1 (by omega) ?_ ?_ ?_ ?_
    all_goals intros
    all_goals first
      | (exfalso; omega)
      | (rename_i F4 hb g e33 e34 eC a39 aC aL
         refine ⟨_, F4, rfl, rfl, g0.trans (gc_mk (W := k3_WL) hb g (by decide)) (fun _ q => q), Or.inl ⟨rfl, ?_⟩, fun zz => absurd zz (by decide)⟩
         rw [tg_eq e33, e34, hr, c_if0 (kg F0) (by omega)])
      | (rename_i F4 hb g e33 e34 eC a39 aC aL e82 e83
         have te := tg_eq e33
         exact k3w83 X1 X2 F0 r0 Z0 al hJ0 hcs0 cC F4 acc (g0.trans (gc_mk (W := k3_WL) hb g (by decide)) (fun _ q => q)) (by omega) (by omega) (by rw [Int32.toInt_inj.mp e83, h83]) (by rw [hr, c_no (kg F0) (by omega), te]) (by rw [hz, z_no _ _ (by omega), te]) (Cl_dst hC eC aC (by omega)) (by rw [aL, hL]) (by omega))
  | succ n ih =>
    intro F acc g0 h82 hal h83 h84 hr h840 hz hC hL htg
    have c33 := nz_bx g0.1 (k := 33) (lo := 0) (hi := 400) rfl
    have eK : kg F0 (tg F) = km ((sy_ai F 39).getD (sy_i F 33).toInt.toNat 0).toInt := by rw [show sy_ai F 39 = sy_ai F0 39 from nz_fa (g0.2 39 (by decide) (by decide))]; rfl
    have m31 : kg F0 (tg F) = 31 ↔ ((sy_ai F 39).getD (sy_i F 33).toInt.toNat 0).toInt = 11 := by rw [eK]; exact km_w (by decide) (by decide)
    refine k3zl_30 (by decide) F X1 X2 g0.1 (by omega) ?_ ?_ ?_ ?_
    all_goals intros
    all_goals first
      | (exfalso; omega)
      | (rename_i F4 hb g e33 e34 eC a39 aC aL e82 e83
         have te := tg_eq e33
         exact k3w83 X1 X2 F0 r0 Z0 al hJ0 hcs0 cC F4 acc (g0.trans (gc_mk (W := k3_WL) hb g (by decide)) (fun _ q => q)) (by omega) (by omega) (by rw [Int32.toInt_inj.mp e83, h83]) (by rw [hr, c_no (kg F0) (by omega), te]) (by rw [hz, z_no _ _ (by omega), te]) (Cl_dst hC eC aC (by omega)) (by rw [aL, hL]) (by omega))
      | (rename_i F1 hb1 g1 e33 e34 eC a39 aC aL e82 e83 e84
         have g01 : gc k3_WL F0 F1 := g0.trans (gc_mk (W := k3_WL) hb1 g1 (by decide)) (fun _ q => q)
         have hJ1 : jx_ok F1 := jx_ok_eq (g01.2 39 (by decide) (by decide)) (g01.2 41 (by decide) (by decide)) hJ0
         have te := tg_eq e33
         have hk1 : kg F1 (tg F1) = 31 := by
           rw [kg_eq (g01.2 39 (by decide) (by decide)), te]
           omega
         have hC1 := Cl_dst hC eC aC (by omega)
         have b1 := hC1.2.1
         refine hd_calI (R := fun x F' => piZ 8 17 k3_W (sy_i F1 82).toInt x F1 F') (nh := 82) (nv := 85) (s := 3) (s1 := 3) (d1 := 25) (M1 := jm_M37) (As := [.inl (.ref 30), .inr (.inl 82)]) (rest := []) jm_ok36 rfl rfl (by decide) (by decide +kernel) (k3pi_TZ X1 X2 F1 (sy_i F1 82) hb1 hJ1 (by omega) (by omega) (by omega) hk1) (fun F3 F' x hR0 p1 p2 p3 => ?_)
         have hR := hR0.1
         obtain ⟨r1, r2⟩ := piR_dst hR p1
         have r2 := r2 hk1
         rw [kg_eq (g01.2 39 (by decide) (by decide)), te] at r2
         have g3 : gc k3_WL F0 F3 := g01.trans r1 (by decide)
         have hx : sy_i F3 85 = x := zz_i p3
         have hq : (sy_i F3 85).toInt ≠ 0 → ziC 8 17 (fun f acc => sB (sG (tg F)) (zc1 (kg F0) (vg F0) f acc)) al F1 F3 := fun q => by
           have hx1 : x = 1 := by
             rcases r2 with ⟨q1, -⟩ | ⟨q1, -⟩
             · rw [hx, q1] at q
               exact absurd (by decide) q
             · exact q1
           have z := ziC_dst (hR0.2 hx1) p1 (by decide) (by decide)
           rw [kg_eq (g01.2 39 (by decide) (by decide)), vg_eq (g01.2 41 (by decide) (by decide)), te, show (sy_i F1 82).toInt = al by omega] at z
           exact z
         have k82 := nz_fi (p2 82 (by decide) (by decide))
         have k83 : sy_i F3 83 = sy_i F1 83 := Int32.toInt_inj.mp (nz_fi (p2 83 (by decide) (by decide)))
         have k84 := nz_fi (p2 84 (by decide) (by decide))
         have el : sy_ai F3 16 = sy_ai F1 16 := nz_fa (r1.2 16 (by decide) (by decide))
         rw [← hx] at r2
         obtain ⟨y0, y1⟩ := x01 r2
         have hr2 : r0 = sB (sB (sIf (kg F0) (tg F)) (sIfs (kg F0) n)) (sLast (kg F0)) := by
           rw [hr]
           show sB (if kg F0 (tg F) = 31 then _ else _) _ = _
           rw [if_pos (by omega)]
         refine k3zl_69 (by decide) F3 X1 X2 g3.1 (by omega) ?_ ?_
         · intro q F4 hb g d33 d34 dC b39 bC bL d82 d83 d84
           obtain ⟨t1, b, hb1, hb2⟩ := hq q
           have te4 := tg_eq d33
           refine ih F4 (acc ++ [b]) (g3.trans (gc_mk (W := k3_WL) hb g (by decide)) (fun _ q => q)) (by omega) (by omega) (by rw [Int32.toInt_inj.mp d83, k83, Int32.toInt_inj.mp e83, h83]) (by omega) ?_ (by omega) ?_ ?_ (by rw [bL, el, aL, hL]) (by omega)
           · rw [hr2, y1 q, te4]
             rfl
           · rw [hz, z_if _ _ (by omega), te4]
             exact hb1 (zI (kg F0) (vg F0) n) acc
           · rw [lcs_app]
             have z := Cl_app cC hC1 hb2
             rw [show (sy_i F1 8).toInt.toNat = (sy_i F0 8).toInt.toNat + (lcs al (sy_i F0 8).toInt.toNat acc).length by have := hC1.1; omega] at z
             exact Cl_dst z dC bC (by omega)
         · intro q F4 hb g d33 d34 dC b39 bC bL
           refine ⟨_, F4, rfl, rfl, g3.trans (gc_mk (W := k3_WL) hb g (by decide)) (fun _ q => q), Or.inl ⟨rfl, ?_⟩, fun zz => absurd zz (by decide)⟩
           rw [tg_eq d33, d34, hr2, y0 q]
           rfl)
theorem k3w11 (hJ0 : jx_ok F0) (hcs0 : (sy_i F0 8).toInt ≤ 12 + tg F0) (cC : 0 ≤ (sy_i F0 8).toInt) (F : Nat → sy_d) (g0 : gc k3_WL F0 F) (h83 : 0 ≤ (sy_i F 83).toInt ∧ (sy_i F 83).toInt ≤ 5) (hal : (sy_i F 83).toInt = al) (hr : r0 = sLw (kg F0) (tg F)) (hz : Z0 = zLw (kg F0) (vg F0) (tg F)) (hC : Cl 8 17 F0 F []) (hL : sy_ai F 16 = sy_ai F0 16) (htg : tg F0 < tg F) :
    hd_W Ls xs 26 jm_M36 (fun v G => ∃ (x : Int32) (F' : Nat → sy_d), v = some (.int x) ∧ G = sy_dh F' X1 X2 (iv_H 3) ∧ gc k3_WL F0 F' ∧ ((x = 0 ∧ r0 = .inl ((sy_i F' 34).toInt, tg F')) ∨ (x = 1 ∧ r0 = .inr (tg F'))) ∧ (x = 1 → plC 8 17 16 Z0 al F0 F')) (11, sy_dL F [some (.inl (.ref 30)), some (.inr (.inl 82)), some (.inr (.inl 83)), none, none], sy_dS F [.inl (.int 61), .inl (.ref 30)], sy_dh F X1 X2 (iv_H 3), 0, 0) := by
  refine hd_calI (R := fun x F' => taR ((61 : Int32)).toInt x F F') (nh := 82) (nv := 84) (s := 3) (s1 := 3) (d1 := 3) (M1 := jm_M43) (As := [.inl (.ref 30), .inl (.int 61)]) (rest := []) jm_ok36 rfl rfl (by decide) (by decide +kernel) (k3ta_T F X1 X2 g0.1 61) (fun F3 F' x hR p1 p2 p3 => ?_)
  have hR : taR 61 x F F' := hR
  obtain ⟨r1, r2⟩ := taR_dst hR p1
  have r2 := r2 (km_in (j := 5) (fun c => km_5) (by decide))
  rw [show km 61 = 5 by decide, kg_eq (g0.2 39 (by decide) (by decide))] at r2
  have g3 : gc k3_WL F0 F3 := g0.trans r1 (by decide)
  have hx : sy_i F3 84 = x := zz_i p3
  have k82 := nz_fi (p2 82 (by decide) (by decide))
  have r2 : (x = 0 ∧ _) ∨ (x = 1 ∧ _) := r2.imp id (fun q => ⟨q.1, q.2.elim (fun a z => by have := z.2; subst this; exact z.1)⟩)
  rw [← hx] at r2
  obtain ⟨y0, y1⟩ := x01 r2
  have ty : (sy_i F3 84).toInt ≠ 0 → tg F3 = tg F + 1 := fun q => sM_r (y1 q)
  have ec : (sy_i F3 8).toInt = (sy_i F 8).toInt := nz_fi (r1.2 8 (by decide) (by decide))
  have ea : sy_ai F3 17 = sy_ai F 17 := nz_fa (r1.2 17 (by decide) (by decide))
  have el : sy_ai F3 16 = sy_ai F 16 := nz_fa (r1.2 16 (by decide) (by decide))
  have k83 : sy_i F3 83 = sy_i F 83 := Int32.toInt_inj.mp (nz_fi (p2 83 (by decide) (by decide)))
  have t4 : (tg F3 : Int) ≤ 400 := by
    have := nz_bx g3.1 (k := 33) (lo := 0) (hi := 400) rfl
    unfold tg
    omega
  refine k3zl_14 (by decide) F3 X1 X2 g3.1 ?_ ?_
  all_goals intros
  all_goals first
    | (rename_i F4 hb g e33 e34 eC a39 aC aL
       refine ⟨_, F4, rfl, rfl, g3.trans (gc_mk (W := k3_WL) hb g (by decide)) (fun _ q => q), Or.inl ⟨rfl, ?_⟩, fun zz => absurd zz (by decide)⟩
       rw [tg_eq e33, e34, hr, sLw, y0 (by assumption)]
       rfl)
    | (rename_i F4 hb g e33 e34 eC a39 aC aL e82 e83 e84
       have tt := ty (by assumption)
       have y := y1 (by assumption)
       have te := tg_eq e33
       have k83' : (sy_i F3 83).toInt = (sy_i F 83).toInt := by rw [k83]
       exact k3w30 X1 X2 F0 r0 Z0 al hJ0 hcs0 cC 4 F4 [] (g3.trans (gc_mk (W := k3_WL) hb g (by decide)) (fun _ q => q)) (by omega) (by omega) (Int32.toInt_inj.mp (by rw [e83, ec, hC.1]; simp)) (by omega) (by rw [hr, sLw, y, te]; rfl) (by omega) (by rw [hz, zLw, y, te]; rfl) (Cl_dst hC (eC.trans ec) (aC.trans ea) (by omega)) (by rw [aL, el, hL]) (by omega))
end LZ3
theorem k3pl_TZ {Ls : Nat} {xs : Nat → Int32} (X1 X2 : List jm_c) (F : Nat → sy_d) (a b : Int32) (hB : iv_in F iv_B0) (hJ : jx_ok F) (hcs : (sy_i F 8).toInt ≤ 12 + tg F) (b0 : 0 ≤ b.toInt) (b5 : b.toInt ≤ 5) (ha : 0 ≤ a.toInt ∧ a.toInt ≤ 22) (hk : ((sy_ai F 39).getD (sy_i F 33).toInt.toNat 0).toInt = a.toInt) : jm_T Ls xs 26 jm_M36 [.ref 30, .int a, .int b] (sy_dh F X1 X2 (iv_H 3)) 0 0 (fun v G => ∃ (x : Int32) (F' : Nat → sy_d), v = some (.int x) ∧ G = sy_dh F' X1 X2 (iv_H 3) ∧ plZ 8 17 16 k3_WL b.toInt x F F') := by
  refine nx_T (s := 3) (by decide) F X1 X2 (as := [a, b]) (A := [.inl (.ref 30), .inr (.inl 82), .inr (.inl 83)]) jm_ok36 (by decide) rfl ?_
  obtain ⟨F0, hF0⟩ : ∃ F0, F0 = nx 82 F [a, b] := ⟨_, rfl⟩
  rw [← hF0]
  have k0 : ∀ q, q < 82 → F0 q = F q := by rw [hF0]; exact nx_lt
  have i82 : sy_i F0 82 = a := by rw [hF0]; rfl
  have i83 : sy_i F0 83 = b := by rw [hF0]; rfl
  have hB0 := hd_iveq0 hB k0
  have hJ0 : jx_ok F0 := jx_ok_eq (k0 39 (by decide)) (k0 41 (by decide)) hJ
  have hcs0 : (sy_i F0 8).toInt ≤ 12 + tg F0 := by rw [nz_fi (k0 8 (by decide)), tg_eq (nz_fi (k0 33 (by decide)))]; exact hcs
  have cC := (nz_bx hB0 (k := 8) (lo := 0) (hi := 512) rfl).1
  have hk0 : kg F0 (tg F0) = km a.toInt := by
    show km ((sy_ai F0 39).getD (sy_i F0 33).toInt.toNat 0).toInt = _
    rw [nz_fa (k0 39 (by decide)), nz_fi (k0 33 (by decide)), hk]
  clear hF0
  refine hd_W_mono (Q := fun v G => ∃ (x : Int32) (F' : Nat → sy_d), v = some (.int x) ∧ G = sy_dh F' X1 X2 (iv_H 3) ∧ gc k3_WL F0 F' ∧ ((x = 0 ∧ plr (kg F0) (tg F0) = .inl ((sy_i F' 34).toInt, tg F')) ∨ (x = 1 ∧ plr (kg F0) (tg F0) = .inr (tg F'))) ∧ (x = 1 → plC 8 17 16 (zlr (kg F0) (vg F0) (tg F0)) b.toInt F0 F')) ?_ (by
    rintro v G ⟨x, F', rfl, rfl, h1, h2, h3⟩
    exact ⟨x, F', rfl, rfl, plZ_src ⟨⟨h1, h2⟩, h3⟩ k0 (by decide) (by decide) (by decide)⟩)
  refine k3zl_0 (by decide) F0 X1 X2 hB0 ?_
  intro F hb g e33 e34 eC0 a39 aC0 aL0 e82 e83
  have g0 : gc k3_WL F0 F := gc_mk hb g (by decide)
  have tf := tg_eq e33
  refine hd_calI (R := fun x F' => taR (sy_i F 82).toInt x F F') (nh := 82) (nv := 84) (s := 3) (s1 := 3) (d1 := 3) (M1 := jm_M43) (As := [.inl (.ref 30), .inr (.inl 82)]) (rest := []) jm_ok36 rfl rfl (by decide) (by decide +kernel) (k3ta_T F X1 X2 g0.1 (sy_i F 82)) (fun F3 F' x hR p1 p2 p3 => ?_)
  obtain ⟨r1, r2⟩ := taR_dst hR p1
  rw [e82, i82] at r2
  have r2 := r2 (fun c z => by
    rw [km_r ha.1 ha.2] at z
    have := (km_w (c := c) (k := a.toInt + 20) (by omega) (by omega)).mp z
    omega)
  rw [kg_eq (g0.2 39 (by decide) (by decide)), tg_eq e33, show sM (kg F0) (km a.toInt) (tg F0) = sG (tg F0) by unfold sM; rw [if_pos hk0]] at r2
  have g3 : gc k3_WL F0 F3 := g0.trans r1 (by decide)
  have hx : sy_i F3 84 = x := zz_i p3
  have k82 := nz_fi (p2 82 (by decide) (by decide))
  have r2 : (x = 0 ∧ _) ∨ (x = 1 ∧ _) := r2.imp id (fun q => ⟨q.1, q.2.elim (fun a z => by have := z.2; subst this; exact z.1)⟩)
  rw [← hx] at r2
  obtain ⟨y0, y1⟩ := x01 r2
  have ty : (sy_i F3 84).toInt ≠ 0 → tg F3 = tg F + 1 := fun q => (sG_r (y1 q)).trans (by rw [tf])
  have ec : (sy_i F3 8).toInt = (sy_i F 8).toInt := nz_fi (r1.2 8 (by decide) (by decide))
  have ea : sy_ai F3 17 = sy_ai F 17 := nz_fa (r1.2 17 (by decide) (by decide))
  have el : sy_ai F3 16 = sy_ai F 16 := nz_fa (r1.2 16 (by decide) (by decide))
  have k83 : sy_i F3 83 = sy_i F 83 := Int32.toInt_inj.mp (nz_fi (p2 83 (by decide) (by decide)))
  have t4 : (tg F3 : Int) ≤ 400 := by
    have := nz_bx g3.1 (k := 33) (lo := 0) (hi := 400) rfl
    unfold tg
    omega
  have j83 : (sy_i F0 83).toInt = b.toInt := by rw [i83]
  have k83' : (sy_i F3 83).toInt = (sy_i F 83).toInt := by rw [k83]
  refine k3zl_5 (by decide) F3 X1 X2 g3.1 ?_ ?_
  all_goals intros
  all_goals first
    | (rename_i F4 hb g d33 d34 dC b39 bC bL
       refine ⟨_, F4, rfl, rfl, g3.trans (gc_mk (W := k3_WL) hb g (by decide)) (fun _ q => q), Or.inl ⟨rfl, ?_⟩, fun zz => absurd zz (by decide)⟩
       rw [tg_eq d33, d34, plr, y0 (by assumption)]
       rfl)
    | (rename_i F4 hb g d33 d34 dC b39 bC bL d82 d83
       have tt := ty (by assumption)
       have y := y1 (by assumption)
       have te := tg_eq d33
       exact k3w11 X1 X2 F0 _ _ b.toInt hJ0 hcs0 cC F4 (g3.trans (gc_mk (W := k3_WL) hb g (by decide)) (fun _ q => q)) (by omega) (by omega) (by rw [plr, y, te]; rfl) (by rw [zlr, y, te]; rfl) (Cl_dst Cl_nil ((dC.trans ec).trans eC0) ((bC.trans ea).trans aC0) (by omega)) (by rw [bL, el, aL0]) (by omega))
end
section
/-! ===== the class parses numbers, fruit, buyers, settings, way by way, with the numbers (shape 0) ===== -/
theorem k0ztn_0 {Ls : Nat} {xs : Nat → Int32} {d : Nat} {Q : Option Value → jm_h → Prop} (hd : 4 ≤ d) (F : Nat → sy_d) (X1 X2 : List jm_c) (hB : iv_in F iv_B0)
    (a82 : 0 ≤ (sy_i F 82).toInt ∧ (sy_i F 82).toInt ≤ 2)
    (k0 : 0 ≤ (sy_i F 33).toInt → (sy_i F 33).toInt ≤ 400 → ((sy_ai F 39).getD ((sy_i F 33).toInt).toNat 0).toInt = 24 → (sy_i F 33).toInt < 400 → 0 ≤ (((sy_i F 33).toInt + 1) - 1) → (((sy_i F 33).toInt + 1) - 1) ≤ 400 → (((sy_al F 41).getD ((((sy_i F 33).toInt + 1) - 1)).toNat 0).toInt32).toInt < (sy_i F 83).toInt → (sy_i F 36).toInt ≠ 0 → 0 ≤ (sy_i F 82).toInt → (sy_i F 82).toInt ≤ 2 → ∀ F1 : Nat → sy_d, iv_in F1 iv_B0 → (∀ j, j < 82 → j ∉ ([33, 44] : List Nat) → F1 j = F j) → (sy_i F1 33).toInt = ((sy_i F 33).toInt + 1) → (sy_i F1 34).toInt = (sy_i F 34).toInt → (sy_i F1 36).toInt = (sy_i F 36).toInt → (sy_i F1 37).toInt = (sy_i F 37).toInt → (sy_i F1 38).toInt = (sy_i F 38).toInt → sy_ai F1 39 = sy_ai F 39 → sy_ai F1 40 = sy_ai F 40 → sy_ai F1 44 = jm_upd (sy_ai F 44) ((sy_i F 82).toInt).toNat (((sy_al F 41).getD ((((sy_i F 33).toInt + 1) - 1)).toNat 0).toInt32) → Q (some (.int ((1 : Int32)))) (sy_dh F1 X1 X2 (iv_H 0)))
    (k1 : 0 ≤ (sy_i F 33).toInt → (sy_i F 33).toInt ≤ 400 → ((sy_ai F 39).getD ((sy_i F 33).toInt).toNat 0).toInt = 24 → (sy_i F 33).toInt < 400 → 0 ≤ (((sy_i F 33).toInt + 1) - 1) → (((sy_i F 33).toInt + 1) - 1) ≤ 400 → (((sy_al F 41).getD ((((sy_i F 33).toInt + 1) - 1)).toNat 0).toInt32).toInt < (sy_i F 83).toInt → (sy_i F 36).toInt = 0 → 0 ≤ (((sy_i F 33).toInt + 1) - 1) → (((sy_i F 33).toInt + 1) - 1) ≤ 400 → 0 ≤ (sy_i F 82).toInt → (sy_i F 82).toInt ≤ 2 → ∀ F1 : Nat → sy_d, iv_in F1 iv_B0 → (∀ j, j < 82 → j ∉ ([33, 36, 37, 44] : List Nat) → F1 j = F j) → (sy_i F1 33).toInt = ((sy_i F 33).toInt + 1) → (sy_i F1 34).toInt = (sy_i F 34).toInt → (sy_i F1 36).toInt = 5 → (sy_i F1 37).toInt = ((sy_ai F 40).getD ((((sy_i F 33).toInt + 1) - 1)).toNat 0).toInt → (sy_i F1 38).toInt = (sy_i F 38).toInt → sy_ai F1 39 = sy_ai F 39 → sy_ai F1 40 = sy_ai F 40 → sy_ai F1 44 = jm_upd (sy_ai F 44) ((sy_i F 82).toInt).toNat (((sy_al F 41).getD ((((sy_i F 33).toInt + 1) - 1)).toNat 0).toInt32) → Q (some (.int ((1 : Int32)))) (sy_dh F1 X1 X2 (iv_H 0)))
    (k2 : 0 ≤ (sy_i F 33).toInt → (sy_i F 33).toInt ≤ 400 → ((sy_ai F 39).getD ((sy_i F 33).toInt).toNat 0).toInt = 24 → (sy_i F 33).toInt < 400 → 0 ≤ (((sy_i F 33).toInt + 1) - 1) → (((sy_i F 33).toInt + 1) - 1) ≤ 400 → (sy_i F 83).toInt ≤ (((sy_al F 41).getD ((((sy_i F 33).toInt + 1) - 1)).toNat 0).toInt32).toInt → (sy_i F 84).toInt < (((sy_al F 41).getD ((((sy_i F 33).toInt + 1) - 1)).toNat 0).toInt32).toInt → (sy_i F 36).toInt ≠ 0 → 0 ≤ (sy_i F 82).toInt → (sy_i F 82).toInt ≤ 2 → ∀ F1 : Nat → sy_d, iv_in F1 iv_B0 → (∀ j, j < 82 → j ∉ ([33, 44] : List Nat) → F1 j = F j) → (sy_i F1 33).toInt = ((sy_i F 33).toInt + 1) → (sy_i F1 34).toInt = (sy_i F 34).toInt → (sy_i F1 36).toInt = (sy_i F 36).toInt → (sy_i F1 37).toInt = (sy_i F 37).toInt → (sy_i F1 38).toInt = (sy_i F 38).toInt → sy_ai F1 39 = sy_ai F 39 → sy_ai F1 40 = sy_ai F 40 → sy_ai F1 44 = jm_upd (sy_ai F 44) ((sy_i F 82).toInt).toNat (((sy_al F 41).getD ((((sy_i F 33).toInt + 1) - 1)).toNat 0).toInt32) → Q (some (.int ((1 : Int32)))) (sy_dh F1 X1 X2 (iv_H 0)))
    (k3 : 0 ≤ (sy_i F 33).toInt → (sy_i F 33).toInt ≤ 400 → ((sy_ai F 39).getD ((sy_i F 33).toInt).toNat 0).toInt = 24 → (sy_i F 33).toInt < 400 → 0 ≤ (((sy_i F 33).toInt + 1) - 1) → (((sy_i F 33).toInt + 1) - 1) ≤ 400 → (sy_i F 83).toInt ≤ (((sy_al F 41).getD ((((sy_i F 33).toInt + 1) - 1)).toNat 0).toInt32).toInt → (sy_i F 84).toInt < (((sy_al F 41).getD ((((sy_i F 33).toInt + 1) - 1)).toNat 0).toInt32).toInt → (sy_i F 36).toInt = 0 → 0 ≤ (((sy_i F 33).toInt + 1) - 1) → (((sy_i F 33).toInt + 1) - 1) ≤ 400 → 0 ≤ (sy_i F 82).toInt → (sy_i F 82).toInt ≤ 2 → ∀ F1 : Nat → sy_d, iv_in F1 iv_B0 → (∀ j, j < 82 → j ∉ ([33, 36, 37, 44] : List Nat) → F1 j = F j) → (sy_i F1 33).toInt = ((sy_i F 33).toInt + 1) → (sy_i F1 34).toInt = (sy_i F 34).toInt → (sy_i F1 36).toInt = 5 → (sy_i F1 37).toInt = ((sy_ai F 40).getD ((((sy_i F 33).toInt + 1) - 1)).toNat 0).toInt → (sy_i F1 38).toInt = (sy_i F 38).toInt → sy_ai F1 39 = sy_ai F 39 → sy_ai F1 40 = sy_ai F 40 → sy_ai F1 44 = jm_upd (sy_ai F 44) ((sy_i F 82).toInt).toNat (((sy_al F 41).getD ((((sy_i F 33).toInt + 1) - 1)).toNat 0).toInt32) → Q (some (.int ((1 : Int32)))) (sy_dh F1 X1 X2 (iv_H 0)))
    (k4 : 0 ≤ (sy_i F 33).toInt → (sy_i F 33).toInt ≤ 400 → ((sy_ai F 39).getD ((sy_i F 33).toInt).toNat 0).toInt = 24 → (sy_i F 33).toInt < 400 → 0 ≤ (((sy_i F 33).toInt + 1) - 1) → (((sy_i F 33).toInt + 1) - 1) ≤ 400 → (sy_i F 83).toInt ≤ (((sy_al F 41).getD ((((sy_i F 33).toInt + 1) - 1)).toNat 0).toInt32).toInt → (((sy_al F 41).getD ((((sy_i F 33).toInt + 1) - 1)).toNat 0).toInt32).toInt ≤ (sy_i F 84).toInt → 0 ≤ (sy_i F 82).toInt → (sy_i F 82).toInt ≤ 2 → ∀ F1 : Nat → sy_d, iv_in F1 iv_B0 → (∀ j, j < 82 → j ∉ ([33, 44] : List Nat) → F1 j = F j) → (sy_i F1 33).toInt = ((sy_i F 33).toInt + 1) → (sy_i F1 34).toInt = (sy_i F 34).toInt → (sy_i F1 36).toInt = (sy_i F 36).toInt → (sy_i F1 37).toInt = (sy_i F 37).toInt → (sy_i F1 38).toInt = (sy_i F 38).toInt → sy_ai F1 39 = sy_ai F 39 → sy_ai F1 40 = sy_ai F 40 → sy_ai F1 44 = jm_upd (sy_ai F 44) ((sy_i F 82).toInt).toNat (((sy_al F 41).getD ((((sy_i F 33).toInt + 1) - 1)).toNat 0).toInt32) → Q (some (.int ((1 : Int32)))) (sy_dh F1 X1 X2 (iv_H 0)))
    (k5 : 0 ≤ (sy_i F 33).toInt → (sy_i F 33).toInt ≤ 400 → ((sy_ai F 39).getD ((sy_i F 33).toInt).toNat 0).toInt = 24 → 400 ≤ (sy_i F 33).toInt → ∀ F1 : Nat → sy_d, iv_in F1 iv_B0 → (∀ j, j < 82 → j ∉ ([34] : List Nat) → F1 j = F j) → (sy_i F1 33).toInt = (sy_i F 33).toInt → (sy_i F1 34).toInt = 2 → (sy_i F1 36).toInt = (sy_i F 36).toInt → (sy_i F1 37).toInt = (sy_i F 37).toInt → (sy_i F1 38).toInt = (sy_i F 38).toInt → sy_ai F1 39 = sy_ai F 39 → sy_ai F1 40 = sy_ai F 40 → sy_ai F1 44 = sy_ai F 44 → Q (some (.int ((0 : Int32)))) (sy_dh F1 X1 X2 (iv_H 0)))
    (k6 : 0 ≤ (sy_i F 33).toInt → (sy_i F 33).toInt ≤ 400 → ((sy_ai F 39).getD ((sy_i F 33).toInt).toNat 0).toInt ≠ 24 → ∀ F1 : Nat → sy_d, iv_in F1 iv_B0 → (∀ j, j < 82 → j ∉ ([34] : List Nat) → F1 j = F j) → (sy_i F1 33).toInt = (sy_i F 33).toInt → (sy_i F1 34).toInt = 1 → (sy_i F1 36).toInt = (sy_i F 36).toInt → (sy_i F1 37).toInt = (sy_i F 37).toInt → (sy_i F1 38).toInt = (sy_i F 38).toInt → sy_ai F1 39 = sy_ai F 39 → sy_ai F1 40 = sy_ai F 40 → sy_ai F1 44 = sy_ai F 44 → Q (some (.int ((0 : Int32)))) (sy_dh F1 X1 X2 (iv_H 0))) :
    hd_W Ls xs d jm_M42 Q (0, sy_dL F [some (.inl (.ref 30)), some (.inr (.inl 82)), some (.inr (.inl 83)), some (.inr (.inl 84)), none], sy_dS F [], sy_dh F X1 X2 (iv_H 0), 0, 0) := by
  by_cases g0 : (sy_i F 33).toInt < 0
  · have c33 := nz_bx hB (k := 33) (lo := 0) (hi := 400) rfl
    exfalso
    omega
  replace g0 : 0 ≤ (sy_i F 33).toInt := by omega
  by_cases g1 : 400 < (sy_i F 33).toInt
  · have c33 := nz_bx hB (k := 33) (lo := 0) (hi := 400) rfl
    exfalso
    omega
  replace g1 : (sy_i F 33).toInt ≤ 400 := by omega
  by_cases g2 : ((sy_ai F 39).getD ((sy_i F 33).toInt).toNat 0).toInt = 24
  · by_cases g3 : (sy_i F 33).toInt < 400
    · by_cases g4 : (((sy_i F 33).toInt + 1) - 1) < 0
      · have c33 := nz_bx hB (k := 33) (lo := 0) (hi := 400) rfl
        have q85 : (sy_ai F 39).getD (sy_i F 33).toNatClampNeg 0 = (sy_ai F 39).getD ((sy_i F 33).toInt).toNat 0 := by simp only [nz_c]
        have n85 : ((sy_ai F 39).getD (sy_i F 33).toNatClampNeg 0).toInt = ((sy_ai F 39).getD ((sy_i F 33).toInt).toNat 0).toInt := congrArg Int32.toInt q85
        have n86 : ((sy_i F 33) + ((1 : Int32))).toInt = ((sy_i F 33).toInt + 1) := nz_add (rfl : (sy_i F 33).toInt = (sy_i F 33).toInt) (by decide : ((1 : Int32)).toInt = 1) (by omega) (by omega)
        have n87 : (((sy_i F 33) + ((1 : Int32))) - ((1 : Int32))).toInt = (((sy_i F 33).toInt + 1) - 1) := nz_sub n86 (by decide : ((1 : Int32)).toInt = 1) (by omega) (by omega)
        exfalso
        omega
      replace g4 : 0 ≤ (((sy_i F 33).toInt + 1) - 1) := by omega
      by_cases g5 : 400 < (((sy_i F 33).toInt + 1) - 1)
      · have c33 := nz_bx hB (k := 33) (lo := 0) (hi := 400) rfl
        have q85 : (sy_ai F 39).getD (sy_i F 33).toNatClampNeg 0 = (sy_ai F 39).getD ((sy_i F 33).toInt).toNat 0 := by simp only [nz_c]
        have n85 : ((sy_ai F 39).getD (sy_i F 33).toNatClampNeg 0).toInt = ((sy_ai F 39).getD ((sy_i F 33).toInt).toNat 0).toInt := congrArg Int32.toInt q85
        have n86 : ((sy_i F 33) + ((1 : Int32))).toInt = ((sy_i F 33).toInt + 1) := nz_add (rfl : (sy_i F 33).toInt = (sy_i F 33).toInt) (by decide : ((1 : Int32)).toInt = 1) (by omega) (by omega)
        have n87 : (((sy_i F 33) + ((1 : Int32))) - ((1 : Int32))).toInt = (((sy_i F 33).toInt + 1) - 1) := nz_sub n86 (by decide : ((1 : Int32)).toInt = 1) (by omega) (by omega)
        exfalso
        omega
      replace g5 : (((sy_i F 33).toInt + 1) - 1) ≤ 400 := by omega
      by_cases g6 : (((sy_al F 41).getD ((((sy_i F 33).toInt + 1) - 1)).toNat 0).toInt32).toInt < (sy_i F 83).toInt
      · by_cases g7 : (sy_i F 36).toInt ≠ 0
        · by_cases g8 : (sy_i F 82).toInt < 0
          · have c33 := nz_bx hB (k := 33) (lo := 0) (hi := 400) rfl
            have q85 : (sy_ai F 39).getD (sy_i F 33).toNatClampNeg 0 = (sy_ai F 39).getD ((sy_i F 33).toInt).toNat 0 := by simp only [nz_c]
            have n85 : ((sy_ai F 39).getD (sy_i F 33).toNatClampNeg 0).toInt = ((sy_ai F 39).getD ((sy_i F 33).toInt).toNat 0).toInt := congrArg Int32.toInt q85
            have n86 : ((sy_i F 33) + ((1 : Int32))).toInt = ((sy_i F 33).toInt + 1) := nz_add (rfl : (sy_i F 33).toInt = (sy_i F 33).toInt) (by decide : ((1 : Int32)).toInt = 1) (by omega) (by omega)
            have n87 : (((sy_i F 33) + ((1 : Int32))) - ((1 : Int32))).toInt = (((sy_i F 33).toInt + 1) - 1) := nz_sub n86 (by decide : ((1 : Int32)).toInt = 1) (by omega) (by omega)
            have q89 : ((sy_al F 41).getD (((sy_i F 33) + ((1 : Int32))) - ((1 : Int32))).toNatClampNeg 0).toInt32 = ((sy_al F 41).getD ((((sy_i F 33).toInt + 1) - 1)).toNat 0).toInt32 := by simp only [nz_c, n86, n87, (by decide : ((1 : Int32)).toInt = 1)]
            have n89 : (((sy_al F 41).getD (((sy_i F 33) + ((1 : Int32))) - ((1 : Int32))).toNatClampNeg 0).toInt32).toInt = (((sy_al F 41).getD ((((sy_i F 33).toInt + 1) - 1)).toNat 0).toInt32).toInt := congrArg Int32.toInt q89
            exfalso
            omega
          replace g8 : 0 ≤ (sy_i F 82).toInt := by omega
          by_cases g9 : 2 < (sy_i F 82).toInt
          · have c33 := nz_bx hB (k := 33) (lo := 0) (hi := 400) rfl
            have q85 : (sy_ai F 39).getD (sy_i F 33).toNatClampNeg 0 = (sy_ai F 39).getD ((sy_i F 33).toInt).toNat 0 := by simp only [nz_c]
            have n85 : ((sy_ai F 39).getD (sy_i F 33).toNatClampNeg 0).toInt = ((sy_ai F 39).getD ((sy_i F 33).toInt).toNat 0).toInt := congrArg Int32.toInt q85
            have n86 : ((sy_i F 33) + ((1 : Int32))).toInt = ((sy_i F 33).toInt + 1) := nz_add (rfl : (sy_i F 33).toInt = (sy_i F 33).toInt) (by decide : ((1 : Int32)).toInt = 1) (by omega) (by omega)
            have n87 : (((sy_i F 33) + ((1 : Int32))) - ((1 : Int32))).toInt = (((sy_i F 33).toInt + 1) - 1) := nz_sub n86 (by decide : ((1 : Int32)).toInt = 1) (by omega) (by omega)
            have q89 : ((sy_al F 41).getD (((sy_i F 33) + ((1 : Int32))) - ((1 : Int32))).toNatClampNeg 0).toInt32 = ((sy_al F 41).getD ((((sy_i F 33).toInt + 1) - 1)).toNat 0).toInt32 := by simp only [nz_c, n86, n87, (by decide : ((1 : Int32)).toInt = 1)]
            have n89 : (((sy_al F 41).getD (((sy_i F 33) + ((1 : Int32))) - ((1 : Int32))).toNatClampNeg 0).toInt32).toInt = (((sy_al F 41).getD ((((sy_i F 33).toInt + 1) - 1)).toNat 0).toInt32).toInt := congrArg Int32.toInt q89
            exfalso
            omega
          replace g9 : (sy_i F 82).toInt ≤ 2 := by omega
          have c33 := nz_bx hB (k := 33) (lo := 0) (hi := 400) rfl
          have q85 : (sy_ai F 39).getD (sy_i F 33).toNatClampNeg 0 = (sy_ai F 39).getD ((sy_i F 33).toInt).toNat 0 := by simp only [nz_c]
          have n85 : ((sy_ai F 39).getD (sy_i F 33).toNatClampNeg 0).toInt = ((sy_ai F 39).getD ((sy_i F 33).toInt).toNat 0).toInt := congrArg Int32.toInt q85
          have n86 : ((sy_i F 33) + ((1 : Int32))).toInt = ((sy_i F 33).toInt + 1) := nz_add (rfl : (sy_i F 33).toInt = (sy_i F 33).toInt) (by decide : ((1 : Int32)).toInt = 1) (by omega) (by omega)
          have n87 : (((sy_i F 33) + ((1 : Int32))) - ((1 : Int32))).toInt = (((sy_i F 33).toInt + 1) - 1) := nz_sub n86 (by decide : ((1 : Int32)).toInt = 1) (by omega) (by omega)
          have q89 : ((sy_al F 41).getD (((sy_i F 33) + ((1 : Int32))) - ((1 : Int32))).toNatClampNeg 0).toInt32 = ((sy_al F 41).getD ((((sy_i F 33).toInt + 1) - 1)).toNat 0).toInt32 := by simp only [nz_c, n86, n87, (by decide : ((1 : Int32)).toInt = 1)]
          have n89 : (((sy_al F 41).getD (((sy_i F 33) + ((1 : Int32))) - ((1 : Int32))).toNatClampNeg 0).toInt32).toInt = (((sy_al F 41).getD ((((sy_i F 33).toInt + 1) - 1)).toNat 0).toInt32).toInt := congrArg Int32.toInt q89
          have w90 : jm_upd (sy_ai F 44) (sy_i F 82).toNatClampNeg (((sy_al F 41).getD (((sy_i F 33) + ((1 : Int32))) - ((1 : Int32))).toNatClampNeg 0).toInt32) = jm_upd (sy_ai F 44) ((sy_i F 82).toInt).toNat (((sy_al F 41).getD ((((sy_i F 33).toInt + 1) - 1)).toNat 0).toInt32) := by simp only [nz_c, n86, n87, (by decide : ((1 : Int32)).toInt = 1)]
          exact k0tn_0_p0 hd F X1 X2 hB (by first | exact g0 | (simp only [nz_c]; exact g0)) (by first | exact g1 | (simp only [nz_c]; exact g1)) (by first | exact ⟨by omega, by omega⟩ | (simp only [nz_c]; exact ⟨by omega, by omega⟩)) (by first | exact g2 | (simp only [nz_c]; exact g2) | (rw [n85]; exact g2)) (by first | exact g3 | (simp only [nz_c]; exact g3)) (by first | exact g4 | (simp only [nz_c, n86, n87]; exact g4) | (rw [n87]; exact g4)) (by first | exact g5 | (simp only [nz_c, n86, n87]; exact g5) | (rw [n87]; exact g5)) (by first | exact ⟨by omega, by omega⟩ | (simp only [nz_c, n86, n87]; exact ⟨by omega, by omega⟩) | (rw [n87]; exact ⟨by omega, by omega⟩)) (by first | exact g6 | (simp only [nz_c, n86, n87]; exact g6) | (rw [n89]; exact g6)) (by first | exact g7 | (simp only [nz_c]; exact g7)) (by first | exact g8 | (simp only [nz_c]; exact g8)) (by first | exact g9 | (simp only [nz_c]; exact g9)) (by first | exact ⟨by omega, by omega⟩ | (simp only [nz_c]; exact ⟨by omega, by omega⟩)) (fun F1 g e33 e44 => k0 g0 g1 g2 g3 g4 g5 g6 g7 g8 g9 F1 (nz_in0 hB [33, 44] (fun j hj hn => g j hj (by simp only [List.mem_cons, List.not_mem_nil, or_false, not_or] at hn; omega)) (List.forall_mem_cons.mpr ⟨fun t ht => (Option.some.inj ht) ▸ (nz_hi e33 n86 (by omega) (by omega)), List.forall_mem_cons.mpr ⟨fun t ht => (Option.some.inj ht) ▸ (nz_hz2 e44), List.forall_mem_nil _⟩⟩)) (fun j hj hn => g j hj (by simp only [List.mem_cons, List.not_mem_nil, or_false, not_or] at hn; omega)) ((congrArg Int32.toInt (zz_i e33)).trans n86) (nz_fi (g 34 (by decide) (by decide))) (nz_fi (g 36 (by decide) (by decide))) (nz_fi (g 37 (by decide) (by decide))) (nz_fi (g 38 (by decide) (by decide))) (nz_fa (g 39 (by decide) (by decide))) (nz_fa (g 40 (by decide) (by decide))) ((zz_ai e44).trans w90))
        replace g7 : (sy_i F 36).toInt = 0 := by omega
        by_cases g8 : (((sy_i F 33).toInt + 1) - 1) < 0
        · have c33 := nz_bx hB (k := 33) (lo := 0) (hi := 400) rfl
          have q85 : (sy_ai F 39).getD (sy_i F 33).toNatClampNeg 0 = (sy_ai F 39).getD ((sy_i F 33).toInt).toNat 0 := by simp only [nz_c]
          have n85 : ((sy_ai F 39).getD (sy_i F 33).toNatClampNeg 0).toInt = ((sy_ai F 39).getD ((sy_i F 33).toInt).toNat 0).toInt := congrArg Int32.toInt q85
          have n86 : ((sy_i F 33) + ((1 : Int32))).toInt = ((sy_i F 33).toInt + 1) := nz_add (rfl : (sy_i F 33).toInt = (sy_i F 33).toInt) (by decide : ((1 : Int32)).toInt = 1) (by omega) (by omega)
          have n87 : (((sy_i F 33) + ((1 : Int32))) - ((1 : Int32))).toInt = (((sy_i F 33).toInt + 1) - 1) := nz_sub n86 (by decide : ((1 : Int32)).toInt = 1) (by omega) (by omega)
          have q89 : ((sy_al F 41).getD (((sy_i F 33) + ((1 : Int32))) - ((1 : Int32))).toNatClampNeg 0).toInt32 = ((sy_al F 41).getD ((((sy_i F 33).toInt + 1) - 1)).toNat 0).toInt32 := by simp only [nz_c, n86, n87, (by decide : ((1 : Int32)).toInt = 1)]
          have n89 : (((sy_al F 41).getD (((sy_i F 33) + ((1 : Int32))) - ((1 : Int32))).toNatClampNeg 0).toInt32).toInt = (((sy_al F 41).getD ((((sy_i F 33).toInt + 1) - 1)).toNat 0).toInt32).toInt := congrArg Int32.toInt q89
          have n90 : (((sy_i F 33) + ((1 : Int32))) - ((1 : Int32))).toInt = (((sy_i F 33).toInt + 1) - 1) := nz_sub n86 (by decide : ((1 : Int32)).toInt = 1) (by omega) (by omega)
          exfalso
          omega
        replace g8 : 0 ≤ (((sy_i F 33).toInt + 1) - 1) := by omega
        by_cases g9 : 400 < (((sy_i F 33).toInt + 1) - 1)
        · have c33 := nz_bx hB (k := 33) (lo := 0) (hi := 400) rfl
          have q85 : (sy_ai F 39).getD (sy_i F 33).toNatClampNeg 0 = (sy_ai F 39).getD ((sy_i F 33).toInt).toNat 0 := by simp only [nz_c]
          have n85 : ((sy_ai F 39).getD (sy_i F 33).toNatClampNeg 0).toInt = ((sy_ai F 39).getD ((sy_i F 33).toInt).toNat 0).toInt := congrArg Int32.toInt q85
          have n86 : ((sy_i F 33) + ((1 : Int32))).toInt = ((sy_i F 33).toInt + 1) := nz_add (rfl : (sy_i F 33).toInt = (sy_i F 33).toInt) (by decide : ((1 : Int32)).toInt = 1) (by omega) (by omega)
          have n87 : (((sy_i F 33) + ((1 : Int32))) - ((1 : Int32))).toInt = (((sy_i F 33).toInt + 1) - 1) := nz_sub n86 (by decide : ((1 : Int32)).toInt = 1) (by omega) (by omega)
          have q89 : ((sy_al F 41).getD (((sy_i F 33) + ((1 : Int32))) - ((1 : Int32))).toNatClampNeg 0).toInt32 = ((sy_al F 41).getD ((((sy_i F 33).toInt + 1) - 1)).toNat 0).toInt32 := by simp only [nz_c, n86, n87, (by decide : ((1 : Int32)).toInt = 1)]
          have n89 : (((sy_al F 41).getD (((sy_i F 33) + ((1 : Int32))) - ((1 : Int32))).toNatClampNeg 0).toInt32).toInt = (((sy_al F 41).getD ((((sy_i F 33).toInt + 1) - 1)).toNat 0).toInt32).toInt := congrArg Int32.toInt q89
          have n90 : (((sy_i F 33) + ((1 : Int32))) - ((1 : Int32))).toInt = (((sy_i F 33).toInt + 1) - 1) := nz_sub n86 (by decide : ((1 : Int32)).toInt = 1) (by omega) (by omega)
          exfalso
          omega
        replace g9 : (((sy_i F 33).toInt + 1) - 1) ≤ 400 := by omega
        by_cases g10 : (sy_i F 82).toInt < 0
        · have c33 := nz_bx hB (k := 33) (lo := 0) (hi := 400) rfl
          have q85 : (sy_ai F 39).getD (sy_i F 33).toNatClampNeg 0 = (sy_ai F 39).getD ((sy_i F 33).toInt).toNat 0 := by simp only [nz_c]
          have n85 : ((sy_ai F 39).getD (sy_i F 33).toNatClampNeg 0).toInt = ((sy_ai F 39).getD ((sy_i F 33).toInt).toNat 0).toInt := congrArg Int32.toInt q85
          have n86 : ((sy_i F 33) + ((1 : Int32))).toInt = ((sy_i F 33).toInt + 1) := nz_add (rfl : (sy_i F 33).toInt = (sy_i F 33).toInt) (by decide : ((1 : Int32)).toInt = 1) (by omega) (by omega)
          have n87 : (((sy_i F 33) + ((1 : Int32))) - ((1 : Int32))).toInt = (((sy_i F 33).toInt + 1) - 1) := nz_sub n86 (by decide : ((1 : Int32)).toInt = 1) (by omega) (by omega)
          have q89 : ((sy_al F 41).getD (((sy_i F 33) + ((1 : Int32))) - ((1 : Int32))).toNatClampNeg 0).toInt32 = ((sy_al F 41).getD ((((sy_i F 33).toInt + 1) - 1)).toNat 0).toInt32 := by simp only [nz_c, n86, n87, (by decide : ((1 : Int32)).toInt = 1)]
          have n89 : (((sy_al F 41).getD (((sy_i F 33) + ((1 : Int32))) - ((1 : Int32))).toNatClampNeg 0).toInt32).toInt = (((sy_al F 41).getD ((((sy_i F 33).toInt + 1) - 1)).toNat 0).toInt32).toInt := congrArg Int32.toInt q89
          have n90 : (((sy_i F 33) + ((1 : Int32))) - ((1 : Int32))).toInt = (((sy_i F 33).toInt + 1) - 1) := nz_sub n86 (by decide : ((1 : Int32)).toInt = 1) (by omega) (by omega)
          exfalso
          omega
        replace g10 : 0 ≤ (sy_i F 82).toInt := by omega
        by_cases g11 : 2 < (sy_i F 82).toInt
        · have c33 := nz_bx hB (k := 33) (lo := 0) (hi := 400) rfl
          have q85 : (sy_ai F 39).getD (sy_i F 33).toNatClampNeg 0 = (sy_ai F 39).getD ((sy_i F 33).toInt).toNat 0 := by simp only [nz_c]
          have n85 : ((sy_ai F 39).getD (sy_i F 33).toNatClampNeg 0).toInt = ((sy_ai F 39).getD ((sy_i F 33).toInt).toNat 0).toInt := congrArg Int32.toInt q85
          have n86 : ((sy_i F 33) + ((1 : Int32))).toInt = ((sy_i F 33).toInt + 1) := nz_add (rfl : (sy_i F 33).toInt = (sy_i F 33).toInt) (by decide : ((1 : Int32)).toInt = 1) (by omega) (by omega)
          have n87 : (((sy_i F 33) + ((1 : Int32))) - ((1 : Int32))).toInt = (((sy_i F 33).toInt + 1) - 1) := nz_sub n86 (by decide : ((1 : Int32)).toInt = 1) (by omega) (by omega)
          have q89 : ((sy_al F 41).getD (((sy_i F 33) + ((1 : Int32))) - ((1 : Int32))).toNatClampNeg 0).toInt32 = ((sy_al F 41).getD ((((sy_i F 33).toInt + 1) - 1)).toNat 0).toInt32 := by simp only [nz_c, n86, n87, (by decide : ((1 : Int32)).toInt = 1)]
          have n89 : (((sy_al F 41).getD (((sy_i F 33) + ((1 : Int32))) - ((1 : Int32))).toNatClampNeg 0).toInt32).toInt = (((sy_al F 41).getD ((((sy_i F 33).toInt + 1) - 1)).toNat 0).toInt32).toInt := congrArg Int32.toInt q89
          have n90 : (((sy_i F 33) + ((1 : Int32))) - ((1 : Int32))).toInt = (((sy_i F 33).toInt + 1) - 1) := nz_sub n86 (by decide : ((1 : Int32)).toInt = 1) (by omega) (by omega)
          exfalso
          omega
        replace g11 : (sy_i F 82).toInt ≤ 2 := by omega
        have c33 := nz_bx hB (k := 33) (lo := 0) (hi := 400) rfl
        have q85 : (sy_ai F 39).getD (sy_i F 33).toNatClampNeg 0 = (sy_ai F 39).getD ((sy_i F 33).toInt).toNat 0 := by simp only [nz_c]
        have n85 : ((sy_ai F 39).getD (sy_i F 33).toNatClampNeg 0).toInt = ((sy_ai F 39).getD ((sy_i F 33).toInt).toNat 0).toInt := congrArg Int32.toInt q85
        have n86 : ((sy_i F 33) + ((1 : Int32))).toInt = ((sy_i F 33).toInt + 1) := nz_add (rfl : (sy_i F 33).toInt = (sy_i F 33).toInt) (by decide : ((1 : Int32)).toInt = 1) (by omega) (by omega)
        have n87 : (((sy_i F 33) + ((1 : Int32))) - ((1 : Int32))).toInt = (((sy_i F 33).toInt + 1) - 1) := nz_sub n86 (by decide : ((1 : Int32)).toInt = 1) (by omega) (by omega)
        have q89 : ((sy_al F 41).getD (((sy_i F 33) + ((1 : Int32))) - ((1 : Int32))).toNatClampNeg 0).toInt32 = ((sy_al F 41).getD ((((sy_i F 33).toInt + 1) - 1)).toNat 0).toInt32 := by simp only [nz_c, n86, n87, (by decide : ((1 : Int32)).toInt = 1)]
        have n89 : (((sy_al F 41).getD (((sy_i F 33) + ((1 : Int32))) - ((1 : Int32))).toNatClampNeg 0).toInt32).toInt = (((sy_al F 41).getD ((((sy_i F 33).toInt + 1) - 1)).toNat 0).toInt32).toInt := congrArg Int32.toInt q89
        have n90 : (((sy_i F 33) + ((1 : Int32))) - ((1 : Int32))).toInt = (((sy_i F 33).toInt + 1) - 1) := nz_sub n86 (by decide : ((1 : Int32)).toInt = 1) (by omega) (by omega)
        have q91 : (sy_ai F 40).getD (((sy_i F 33) + ((1 : Int32))) - ((1 : Int32))).toNatClampNeg 0 = (sy_ai F 40).getD ((((sy_i F 33).toInt + 1) - 1)).toNat 0 := by simp only [nz_c, n86, n90, (by decide : ((1 : Int32)).toInt = 1)]
        have n91 : ((sy_ai F 40).getD (((sy_i F 33) + ((1 : Int32))) - ((1 : Int32))).toNatClampNeg 0).toInt = ((sy_ai F 40).getD ((((sy_i F 33).toInt + 1) - 1)).toNat 0).toInt := congrArg Int32.toInt q91
        have w92 : jm_upd (sy_ai F 44) (sy_i F 82).toNatClampNeg (((sy_al F 41).getD (((sy_i F 33) + ((1 : Int32))) - ((1 : Int32))).toNatClampNeg 0).toInt32) = jm_upd (sy_ai F 44) ((sy_i F 82).toInt).toNat (((sy_al F 41).getD ((((sy_i F 33).toInt + 1) - 1)).toNat 0).toInt32) := by simp only [nz_c, n86, n87, (by decide : ((1 : Int32)).toInt = 1)]
        exact k0tn_0_p1 hd F X1 X2 hB (by first | exact g0 | (simp only [nz_c]; exact g0)) (by first | exact g1 | (simp only [nz_c]; exact g1)) (by first | exact ⟨by omega, by omega⟩ | (simp only [nz_c]; exact ⟨by omega, by omega⟩)) (by first | exact g2 | (simp only [nz_c]; exact g2) | (rw [n85]; exact g2)) (by first | exact g3 | (simp only [nz_c]; exact g3)) (by first | exact g4 | (simp only [nz_c, n86, n87]; exact g4) | (rw [n87]; exact g4)) (by first | exact g5 | (simp only [nz_c, n86, n87]; exact g5) | (rw [n87]; exact g5)) (by first | exact ⟨by omega, by omega⟩ | (simp only [nz_c, n86, n87]; exact ⟨by omega, by omega⟩) | (rw [n87]; exact ⟨by omega, by omega⟩)) (by first | exact g6 | (simp only [nz_c, n86, n87]; exact g6) | (rw [n89]; exact g6)) (by first | exact g7 | (simp only [nz_c]; exact g7)) (by first | exact g8 | (simp only [nz_c, n86, n90]; exact g8) | (rw [n90]; exact g8)) (by first | exact g9 | (simp only [nz_c, n86, n90]; exact g9) | (rw [n90]; exact g9)) (by first | exact ⟨by omega, by omega⟩ | (simp only [nz_c, n86, n90]; exact ⟨by omega, by omega⟩) | (rw [n90]; exact ⟨by omega, by omega⟩)) (by first | exact g10 | (simp only [nz_c]; exact g10)) (by first | exact g11 | (simp only [nz_c]; exact g11)) (by first | exact ⟨by omega, by omega⟩ | (simp only [nz_c]; exact ⟨by omega, by omega⟩)) (fun F1 g e33 e36 e37 e44 => k1 g0 g1 g2 g3 g4 g5 g6 g7 g8 g9 g10 g11 F1 (nz_in0 hB [33, 36, 37, 44] (fun j hj hn => g j hj (by simp only [List.mem_cons, List.not_mem_nil, or_false, not_or] at hn; omega)) (List.forall_mem_cons.mpr ⟨fun t ht => (Option.some.inj ht) ▸ (nz_hi e33 n86 (by omega) (by omega)), List.forall_mem_cons.mpr ⟨fun t ht => (Option.some.inj ht) ▸ (nz_hz e36), List.forall_mem_cons.mpr ⟨fun t ht => (Option.some.inj ht) ▸ (nz_hz e37), List.forall_mem_cons.mpr ⟨fun t ht => (Option.some.inj ht) ▸ (nz_hz2 e44), List.forall_mem_nil _⟩⟩⟩⟩)) (fun j hj hn => g j hj (by simp only [List.mem_cons, List.not_mem_nil, or_false, not_or] at hn; omega)) ((congrArg Int32.toInt (zz_i e33)).trans n86) (nz_fi (g 34 (by decide) (by decide))) ((congrArg Int32.toInt (zz_i e36)).trans (by decide : ((5 : Int32)).toInt = 5)) ((congrArg Int32.toInt (zz_i e37)).trans n91) (nz_fi (g 38 (by decide) (by decide))) (nz_fa (g 39 (by decide) (by decide))) (nz_fa (g 40 (by decide) (by decide))) ((zz_ai e44).trans w92))
      replace g6 : (sy_i F 83).toInt ≤ (((sy_al F 41).getD ((((sy_i F 33).toInt + 1) - 1)).toNat 0).toInt32).toInt := by omega
      by_cases g7 : (sy_i F 84).toInt < (((sy_al F 41).getD ((((sy_i F 33).toInt + 1) - 1)).toNat 0).toInt32).toInt
      · by_cases g8 : (sy_i F 36).toInt ≠ 0
        · by_cases g9 : (sy_i F 82).toInt < 0
          · have c33 := nz_bx hB (k := 33) (lo := 0) (hi := 400) rfl
            have q85 : (sy_ai F 39).getD (sy_i F 33).toNatClampNeg 0 = (sy_ai F 39).getD ((sy_i F 33).toInt).toNat 0 := by simp only [nz_c]
            have n85 : ((sy_ai F 39).getD (sy_i F 33).toNatClampNeg 0).toInt = ((sy_ai F 39).getD ((sy_i F 33).toInt).toNat 0).toInt := congrArg Int32.toInt q85
            have n86 : ((sy_i F 33) + ((1 : Int32))).toInt = ((sy_i F 33).toInt + 1) := nz_add (rfl : (sy_i F 33).toInt = (sy_i F 33).toInt) (by decide : ((1 : Int32)).toInt = 1) (by omega) (by omega)
            have n87 : (((sy_i F 33) + ((1 : Int32))) - ((1 : Int32))).toInt = (((sy_i F 33).toInt + 1) - 1) := nz_sub n86 (by decide : ((1 : Int32)).toInt = 1) (by omega) (by omega)
            have q89 : ((sy_al F 41).getD (((sy_i F 33) + ((1 : Int32))) - ((1 : Int32))).toNatClampNeg 0).toInt32 = ((sy_al F 41).getD ((((sy_i F 33).toInt + 1) - 1)).toNat 0).toInt32 := by simp only [nz_c, n86, n87, (by decide : ((1 : Int32)).toInt = 1)]
            have n89 : (((sy_al F 41).getD (((sy_i F 33) + ((1 : Int32))) - ((1 : Int32))).toNatClampNeg 0).toInt32).toInt = (((sy_al F 41).getD ((((sy_i F 33).toInt + 1) - 1)).toNat 0).toInt32).toInt := congrArg Int32.toInt q89
            exfalso
            omega
          replace g9 : 0 ≤ (sy_i F 82).toInt := by omega
          by_cases g10 : 2 < (sy_i F 82).toInt
          · have c33 := nz_bx hB (k := 33) (lo := 0) (hi := 400) rfl
            have q85 : (sy_ai F 39).getD (sy_i F 33).toNatClampNeg 0 = (sy_ai F 39).getD ((sy_i F 33).toInt).toNat 0 := by simp only [nz_c]
            have n85 : ((sy_ai F 39).getD (sy_i F 33).toNatClampNeg 0).toInt = ((sy_ai F 39).getD ((sy_i F 33).toInt).toNat 0).toInt := congrArg Int32.toInt q85
            have n86 : ((sy_i F 33) + ((1 : Int32))).toInt = ((sy_i F 33).toInt + 1) := nz_add (rfl : (sy_i F 33).toInt = (sy_i F 33).toInt) (by decide : ((1 : Int32)).toInt = 1) (by omega) (by omega)
            have n87 : (((sy_i F 33) + ((1 : Int32))) - ((1 : Int32))).toInt = (((sy_i F 33).toInt + 1) - 1) := nz_sub n86 (by decide : ((1 : Int32)).toInt = 1) (by omega) (by omega)
            have q89 : ((sy_al F 41).getD (((sy_i F 33) + ((1 : Int32))) - ((1 : Int32))).toNatClampNeg 0).toInt32 = ((sy_al F 41).getD ((((sy_i F 33).toInt + 1) - 1)).toNat 0).toInt32 := by simp only [nz_c, n86, n87, (by decide : ((1 : Int32)).toInt = 1)]
            have n89 : (((sy_al F 41).getD (((sy_i F 33) + ((1 : Int32))) - ((1 : Int32))).toNatClampNeg 0).toInt32).toInt = (((sy_al F 41).getD ((((sy_i F 33).toInt + 1) - 1)).toNat 0).toInt32).toInt := congrArg Int32.toInt q89
            exfalso
            omega
          replace g10 : (sy_i F 82).toInt ≤ 2 := by omega
          have c33 := nz_bx hB (k := 33) (lo := 0) (hi := 400) rfl
          have q85 : (sy_ai F 39).getD (sy_i F 33).toNatClampNeg 0 = (sy_ai F 39).getD ((sy_i F 33).toInt).toNat 0 := by simp only [nz_c]
          have n85 : ((sy_ai F 39).getD (sy_i F 33).toNatClampNeg 0).toInt = ((sy_ai F 39).getD ((sy_i F 33).toInt).toNat 0).toInt := congrArg Int32.toInt q85
          have n86 : ((sy_i F 33) + ((1 : Int32))).toInt = ((sy_i F 33).toInt + 1) := nz_add (rfl : (sy_i F 33).toInt = (sy_i F 33).toInt) (by decide : ((1 : Int32)).toInt = 1) (by omega) (by omega)
          have n87 : (((sy_i F 33) + ((1 : Int32))) - ((1 : Int32))).toInt = (((sy_i F 33).toInt + 1) - 1) := nz_sub n86 (by decide : ((1 : Int32)).toInt = 1) (by omega) (by omega)
          have q89 : ((sy_al F 41).getD (((sy_i F 33) + ((1 : Int32))) - ((1 : Int32))).toNatClampNeg 0).toInt32 = ((sy_al F 41).getD ((((sy_i F 33).toInt + 1) - 1)).toNat 0).toInt32 := by simp only [nz_c, n86, n87, (by decide : ((1 : Int32)).toInt = 1)]
          have n89 : (((sy_al F 41).getD (((sy_i F 33) + ((1 : Int32))) - ((1 : Int32))).toNatClampNeg 0).toInt32).toInt = (((sy_al F 41).getD ((((sy_i F 33).toInt + 1) - 1)).toNat 0).toInt32).toInt := congrArg Int32.toInt q89
          have w90 : jm_upd (sy_ai F 44) (sy_i F 82).toNatClampNeg (((sy_al F 41).getD (((sy_i F 33) + ((1 : Int32))) - ((1 : Int32))).toNatClampNeg 0).toInt32) = jm_upd (sy_ai F 44) ((sy_i F 82).toInt).toNat (((sy_al F 41).getD ((((sy_i F 33).toInt + 1) - 1)).toNat 0).toInt32) := by simp only [nz_c, n86, n87, (by decide : ((1 : Int32)).toInt = 1)]
          exact k0tn_0_p2 hd F X1 X2 hB (by first | exact g0 | (simp only [nz_c]; exact g0)) (by first | exact g1 | (simp only [nz_c]; exact g1)) (by first | exact ⟨by omega, by omega⟩ | (simp only [nz_c]; exact ⟨by omega, by omega⟩)) (by first | exact g2 | (simp only [nz_c]; exact g2) | (rw [n85]; exact g2)) (by first | exact g3 | (simp only [nz_c]; exact g3)) (by first | exact g4 | (simp only [nz_c, n86, n87]; exact g4) | (rw [n87]; exact g4)) (by first | exact g5 | (simp only [nz_c, n86, n87]; exact g5) | (rw [n87]; exact g5)) (by first | exact ⟨by omega, by omega⟩ | (simp only [nz_c, n86, n87]; exact ⟨by omega, by omega⟩) | (rw [n87]; exact ⟨by omega, by omega⟩)) (by first | exact g6 | (simp only [nz_c, n86, n87]; exact g6) | (rw [n89]; exact g6)) (by first | exact g7 | (simp only [nz_c, n86, n87]; exact g7) | (rw [n89]; exact g7)) (by first | exact g8 | (simp only [nz_c]; exact g8)) (by first | exact g9 | (simp only [nz_c]; exact g9)) (by first | exact g10 | (simp only [nz_c]; exact g10)) (by first | exact ⟨by omega, by omega⟩ | (simp only [nz_c]; exact ⟨by omega, by omega⟩)) (fun F1 g e33 e44 => k2 g0 g1 g2 g3 g4 g5 g6 g7 g8 g9 g10 F1 (nz_in0 hB [33, 44] (fun j hj hn => g j hj (by simp only [List.mem_cons, List.not_mem_nil, or_false, not_or] at hn; omega)) (List.forall_mem_cons.mpr ⟨fun t ht => (Option.some.inj ht) ▸ (nz_hi e33 n86 (by omega) (by omega)), List.forall_mem_cons.mpr ⟨fun t ht => (Option.some.inj ht) ▸ (nz_hz2 e44), List.forall_mem_nil _⟩⟩)) (fun j hj hn => g j hj (by simp only [List.mem_cons, List.not_mem_nil, or_false, not_or] at hn; omega)) ((congrArg Int32.toInt (zz_i e33)).trans n86) (nz_fi (g 34 (by decide) (by decide))) (nz_fi (g 36 (by decide) (by decide))) (nz_fi (g 37 (by decide) (by decide))) (nz_fi (g 38 (by decide) (by decide))) (nz_fa (g 39 (by decide) (by decide))) (nz_fa (g 40 (by decide) (by decide))) ((zz_ai e44).trans w90))
        replace g8 : (sy_i F 36).toInt = 0 := by omega
        by_cases g9 : (((sy_i F 33).toInt + 1) - 1) < 0
        · have c33 := nz_bx hB (k := 33) (lo := 0) (hi := 400) rfl
          have q85 : (sy_ai F 39).getD (sy_i F 33).toNatClampNeg 0 = (sy_ai F 39).getD ((sy_i F 33).toInt).toNat 0 := by simp only [nz_c]
          have n85 : ((sy_ai F 39).getD (sy_i F 33).toNatClampNeg 0).toInt = ((sy_ai F 39).getD ((sy_i F 33).toInt).toNat 0).toInt := congrArg Int32.toInt q85
          have n86 : ((sy_i F 33) + ((1 : Int32))).toInt = ((sy_i F 33).toInt + 1) := nz_add (rfl : (sy_i F 33).toInt = (sy_i F 33).toInt) (by decide : ((1 : Int32)).toInt = 1) (by omega) (by omega)
          have n87 : (((sy_i F 33) + ((1 : Int32))) - ((1 : Int32))).toInt = (((sy_i F 33).toInt + 1) - 1) := nz_sub n86 (by decide : ((1 : Int32)).toInt = 1) (by omega) (by omega)
          have q89 : ((sy_al F 41).getD (((sy_i F 33) + ((1 : Int32))) - ((1 : Int32))).toNatClampNeg 0).toInt32 = ((sy_al F 41).getD ((((sy_i F 33).toInt + 1) - 1)).toNat 0).toInt32 := by simp only [nz_c, n86, n87, (by decide : ((1 : Int32)).toInt = 1)]
          have n89 : (((sy_al F 41).getD (((sy_i F 33) + ((1 : Int32))) - ((1 : Int32))).toNatClampNeg 0).toInt32).toInt = (((sy_al F 41).getD ((((sy_i F 33).toInt + 1) - 1)).toNat 0).toInt32).toInt := congrArg Int32.toInt q89
          have n90 : (((sy_i F 33) + ((1 : Int32))) - ((1 : Int32))).toInt = (((sy_i F 33).toInt + 1) - 1) := nz_sub n86 (by decide : ((1 : Int32)).toInt = 1) (by omega) (by omega)
          exfalso
          omega
        replace g9 : 0 ≤ (((sy_i F 33).toInt + 1) - 1) := by omega
        by_cases g10 : 400 < (((sy_i F 33).toInt + 1) - 1)
        · have c33 := nz_bx hB (k := 33) (lo := 0) (hi := 400) rfl
          have q85 : (sy_ai F 39).getD (sy_i F 33).toNatClampNeg 0 = (sy_ai F 39).getD ((sy_i F 33).toInt).toNat 0 := by simp only [nz_c]
          have n85 : ((sy_ai F 39).getD (sy_i F 33).toNatClampNeg 0).toInt = ((sy_ai F 39).getD ((sy_i F 33).toInt).toNat 0).toInt := congrArg Int32.toInt q85
          have n86 : ((sy_i F 33) + ((1 : Int32))).toInt = ((sy_i F 33).toInt + 1) := nz_add (rfl : (sy_i F 33).toInt = (sy_i F 33).toInt) (by decide : ((1 : Int32)).toInt = 1) (by omega) (by omega)
          have n87 : (((sy_i F 33) + ((1 : Int32))) - ((1 : Int32))).toInt = (((sy_i F 33).toInt + 1) - 1) := nz_sub n86 (by decide : ((1 : Int32)).toInt = 1) (by omega) (by omega)
          have q89 : ((sy_al F 41).getD (((sy_i F 33) + ((1 : Int32))) - ((1 : Int32))).toNatClampNeg 0).toInt32 = ((sy_al F 41).getD ((((sy_i F 33).toInt + 1) - 1)).toNat 0).toInt32 := by simp only [nz_c, n86, n87, (by decide : ((1 : Int32)).toInt = 1)]
          have n89 : (((sy_al F 41).getD (((sy_i F 33) + ((1 : Int32))) - ((1 : Int32))).toNatClampNeg 0).toInt32).toInt = (((sy_al F 41).getD ((((sy_i F 33).toInt + 1) - 1)).toNat 0).toInt32).toInt := congrArg Int32.toInt q89
          have n90 : (((sy_i F 33) + ((1 : Int32))) - ((1 : Int32))).toInt = (((sy_i F 33).toInt + 1) - 1) := nz_sub n86 (by decide : ((1 : Int32)).toInt = 1) (by omega) (by omega)
          exfalso
          omega
        replace g10 : (((sy_i F 33).toInt + 1) - 1) ≤ 400 := by omega
        by_cases g11 : (sy_i F 82).toInt < 0
        · have c33 := nz_bx hB (k := 33) (lo := 0) (hi := 400) rfl
          have q85 : (sy_ai F 39).getD (sy_i F 33).toNatClampNeg 0 = (sy_ai F 39).getD ((sy_i F 33).toInt).toNat 0 := by simp only [nz_c]
          have n85 : ((sy_ai F 39).getD (sy_i F 33).toNatClampNeg 0).toInt = ((sy_ai F 39).getD ((sy_i F 33).toInt).toNat 0).toInt := congrArg Int32.toInt q85
          have n86 : ((sy_i F 33) + ((1 : Int32))).toInt = ((sy_i F 33).toInt + 1) := nz_add (rfl : (sy_i F 33).toInt = (sy_i F 33).toInt) (by decide : ((1 : Int32)).toInt = 1) (by omega) (by omega)
          have n87 : (((sy_i F 33) + ((1 : Int32))) - ((1 : Int32))).toInt = (((sy_i F 33).toInt + 1) - 1) := nz_sub n86 (by decide : ((1 : Int32)).toInt = 1) (by omega) (by omega)
          have q89 : ((sy_al F 41).getD (((sy_i F 33) + ((1 : Int32))) - ((1 : Int32))).toNatClampNeg 0).toInt32 = ((sy_al F 41).getD ((((sy_i F 33).toInt + 1) - 1)).toNat 0).toInt32 := by simp only [nz_c, n86, n87, (by decide : ((1 : Int32)).toInt = 1)]
          have n89 : (((sy_al F 41).getD (((sy_i F 33) + ((1 : Int32))) - ((1 : Int32))).toNatClampNeg 0).toInt32).toInt = (((sy_al F 41).getD ((((sy_i F 33).toInt + 1) - 1)).toNat 0).toInt32).toInt := congrArg Int32.toInt q89
          have n90 : (((sy_i F 33) + ((1 : Int32))) - ((1 : Int32))).toInt = (((sy_i F 33).toInt + 1) - 1) := nz_sub n86 (by decide : ((1 : Int32)).toInt = 1) (by omega) (by omega)
          exfalso
          omega
        replace g11 : 0 ≤ (sy_i F 82).toInt := by omega
        by_cases g12 : 2 < (sy_i F 82).toInt
        · have c33 := nz_bx hB (k := 33) (lo := 0) (hi := 400) rfl
          have q85 : (sy_ai F 39).getD (sy_i F 33).toNatClampNeg 0 = (sy_ai F 39).getD ((sy_i F 33).toInt).toNat 0 := by simp only [nz_c]
          have n85 : ((sy_ai F 39).getD (sy_i F 33).toNatClampNeg 0).toInt = ((sy_ai F 39).getD ((sy_i F 33).toInt).toNat 0).toInt := congrArg Int32.toInt q85
          have n86 : ((sy_i F 33) + ((1 : Int32))).toInt = ((sy_i F 33).toInt + 1) := nz_add (rfl : (sy_i F 33).toInt = (sy_i F 33).toInt) (by decide : ((1 : Int32)).toInt = 1) (by omega) (by omega)
          have n87 : (((sy_i F 33) + ((1 : Int32))) - ((1 : Int32))).toInt = (((sy_i F 33).toInt + 1) - 1) := nz_sub n86 (by decide : ((1 : Int32)).toInt = 1) (by omega) (by omega)
          have q89 : ((sy_al F 41).getD (((sy_i F 33) + ((1 : Int32))) - ((1 : Int32))).toNatClampNeg 0).toInt32 = ((sy_al F 41).getD ((((sy_i F 33).toInt + 1) - 1)).toNat 0).toInt32 := by simp only [nz_c, n86, n87, (by decide : ((1 : Int32)).toInt = 1)]
          have n89 : (((sy_al F 41).getD (((sy_i F 33) + ((1 : Int32))) - ((1 : Int32))).toNatClampNeg 0).toInt32).toInt = (((sy_al F 41).getD ((((sy_i F 33).toInt + 1) - 1)).toNat 0).toInt32).toInt := congrArg Int32.toInt q89
          have n90 : (((sy_i F 33) + ((1 : Int32))) - ((1 : Int32))).toInt = (((sy_i F 33).toInt + 1) - 1) := nz_sub n86 (by decide : ((1 : Int32)).toInt = 1) (by omega) (by omega)
          exfalso
          omega
        replace g12 : (sy_i F 82).toInt ≤ 2 := by omega
        have c33 := nz_bx hB (k := 33) (lo := 0) (hi := 400) rfl
        have q85 : (sy_ai F 39).getD (sy_i F 33).toNatClampNeg 0 = (sy_ai F 39).getD ((sy_i F 33).toInt).toNat 0 := by simp only [nz_c]
        have n85 : ((sy_ai F 39).getD (sy_i F 33).toNatClampNeg 0).toInt = ((sy_ai F 39).getD ((sy_i F 33).toInt).toNat 0).toInt := congrArg Int32.toInt q85
        have n86 : ((sy_i F 33) + ((1 : Int32))).toInt = ((sy_i F 33).toInt + 1) := nz_add (rfl : (sy_i F 33).toInt = (sy_i F 33).toInt) (by decide : ((1 : Int32)).toInt = 1) (by omega) (by omega)
        have n87 : (((sy_i F 33) + ((1 : Int32))) - ((1 : Int32))).toInt = (((sy_i F 33).toInt + 1) - 1) := nz_sub n86 (by decide : ((1 : Int32)).toInt = 1) (by omega) (by omega)
        have q89 : ((sy_al F 41).getD (((sy_i F 33) + ((1 : Int32))) - ((1 : Int32))).toNatClampNeg 0).toInt32 = ((sy_al F 41).getD ((((sy_i F 33).toInt + 1) - 1)).toNat 0).toInt32 := by simp only [nz_c, n86, n87, (by decide : ((1 : Int32)).toInt = 1)]
        have n89 : (((sy_al F 41).getD (((sy_i F 33) + ((1 : Int32))) - ((1 : Int32))).toNatClampNeg 0).toInt32).toInt = (((sy_al F 41).getD ((((sy_i F 33).toInt + 1) - 1)).toNat 0).toInt32).toInt := congrArg Int32.toInt q89
        have n90 : (((sy_i F 33) + ((1 : Int32))) - ((1 : Int32))).toInt = (((sy_i F 33).toInt + 1) - 1) := nz_sub n86 (by decide : ((1 : Int32)).toInt = 1) (by omega) (by omega)
        have q91 : (sy_ai F 40).getD (((sy_i F 33) + ((1 : Int32))) - ((1 : Int32))).toNatClampNeg 0 = (sy_ai F 40).getD ((((sy_i F 33).toInt + 1) - 1)).toNat 0 := by simp only [nz_c, n86, n90, (by decide : ((1 : Int32)).toInt = 1)]
        have n91 : ((sy_ai F 40).getD (((sy_i F 33) + ((1 : Int32))) - ((1 : Int32))).toNatClampNeg 0).toInt = ((sy_ai F 40).getD ((((sy_i F 33).toInt + 1) - 1)).toNat 0).toInt := congrArg Int32.toInt q91
        have w92 : jm_upd (sy_ai F 44) (sy_i F 82).toNatClampNeg (((sy_al F 41).getD (((sy_i F 33) + ((1 : Int32))) - ((1 : Int32))).toNatClampNeg 0).toInt32) = jm_upd (sy_ai F 44) ((sy_i F 82).toInt).toNat (((sy_al F 41).getD ((((sy_i F 33).toInt + 1) - 1)).toNat 0).toInt32) := by simp only [nz_c, n86, n87, (by decide : ((1 : Int32)).toInt = 1)]
        exact k0tn_0_p3 hd F X1 X2 hB (by first | exact g0 | (simp only [nz_c]; exact g0)) (by first | exact g1 | (simp only [nz_c]; exact g1)) (by first | exact ⟨by omega, by omega⟩ | (simp only [nz_c]; exact ⟨by omega, by omega⟩)) (by first | exact g2 | (simp only [nz_c]; exact g2) | (rw [n85]; exact g2)) (by first | exact g3 | (simp only [nz_c]; exact g3)) (by first | exact g4 | (simp only [nz_c, n86, n87]; exact g4) | (rw [n87]; exact g4)) (by first | exact g5 | (simp only [nz_c, n86, n87]; exact g5) | (rw [n87]; exact g5)) (by first | exact ⟨by omega, by omega⟩ | (simp only [nz_c, n86, n87]; exact ⟨by omega, by omega⟩) | (rw [n87]; exact ⟨by omega, by omega⟩)) (by first | exact g6 | (simp only [nz_c, n86, n87]; exact g6) | (rw [n89]; exact g6)) (by first | exact g7 | (simp only [nz_c, n86, n87]; exact g7) | (rw [n89]; exact g7)) (by first | exact g8 | (simp only [nz_c]; exact g8)) (by first | exact g9 | (simp only [nz_c, n86, n90]; exact g9) | (rw [n90]; exact g9)) (by first | exact g10 | (simp only [nz_c, n86, n90]; exact g10) | (rw [n90]; exact g10)) (by first | exact ⟨by omega, by omega⟩ | (simp only [nz_c, n86, n90]; exact ⟨by omega, by omega⟩) | (rw [n90]; exact ⟨by omega, by omega⟩)) (by first | exact g11 | (simp only [nz_c]; exact g11)) (by first | exact g12 | (simp only [nz_c]; exact g12)) (by first | exact ⟨by omega, by omega⟩ | (simp only [nz_c]; exact ⟨by omega, by omega⟩)) (fun F1 g e33 e36 e37 e44 => k3 g0 g1 g2 g3 g4 g5 g6 g7 g8 g9 g10 g11 g12 F1 (nz_in0 hB [33, 36, 37, 44] (fun j hj hn => g j hj (by simp only [List.mem_cons, List.not_mem_nil, or_false, not_or] at hn; omega)) (List.forall_mem_cons.mpr ⟨fun t ht => (Option.some.inj ht) ▸ (nz_hi e33 n86 (by omega) (by omega)), List.forall_mem_cons.mpr ⟨fun t ht => (Option.some.inj ht) ▸ (nz_hz e36), List.forall_mem_cons.mpr ⟨fun t ht => (Option.some.inj ht) ▸ (nz_hz e37), List.forall_mem_cons.mpr ⟨fun t ht => (Option.some.inj ht) ▸ (nz_hz2 e44), List.forall_mem_nil _⟩⟩⟩⟩)) (fun j hj hn => g j hj (by simp only [List.mem_cons, List.not_mem_nil, or_false, not_or] at hn; omega)) ((congrArg Int32.toInt (zz_i e33)).trans n86) (nz_fi (g 34 (by decide) (by decide))) ((congrArg Int32.toInt (zz_i e36)).trans (by decide : ((5 : Int32)).toInt = 5)) ((congrArg Int32.toInt (zz_i e37)).trans n91) (nz_fi (g 38 (by decide) (by decide))) (nz_fa (g 39 (by decide) (by decide))) (nz_fa (g 40 (by decide) (by decide))) ((zz_ai e44).trans w92))
      replace g7 : (((sy_al F 41).getD ((((sy_i F 33).toInt + 1) - 1)).toNat 0).toInt32).toInt ≤ (sy_i F 84).toInt := by omega
      by_cases g8 : (sy_i F 82).toInt < 0
      · have c33 := nz_bx hB (k := 33) (lo := 0) (hi := 400) rfl
        have q85 : (sy_ai F 39).getD (sy_i F 33).toNatClampNeg 0 = (sy_ai F 39).getD ((sy_i F 33).toInt).toNat 0 := by simp only [nz_c]
        have n85 : ((sy_ai F 39).getD (sy_i F 33).toNatClampNeg 0).toInt = ((sy_ai F 39).getD ((sy_i F 33).toInt).toNat 0).toInt := congrArg Int32.toInt q85
        have n86 : ((sy_i F 33) + ((1 : Int32))).toInt = ((sy_i F 33).toInt + 1) := nz_add (rfl : (sy_i F 33).toInt = (sy_i F 33).toInt) (by decide : ((1 : Int32)).toInt = 1) (by omega) (by omega)
        have n87 : (((sy_i F 33) + ((1 : Int32))) - ((1 : Int32))).toInt = (((sy_i F 33).toInt + 1) - 1) := nz_sub n86 (by decide : ((1 : Int32)).toInt = 1) (by omega) (by omega)
        have q89 : ((sy_al F 41).getD (((sy_i F 33) + ((1 : Int32))) - ((1 : Int32))).toNatClampNeg 0).toInt32 = ((sy_al F 41).getD ((((sy_i F 33).toInt + 1) - 1)).toNat 0).toInt32 := by simp only [nz_c, n86, n87, (by decide : ((1 : Int32)).toInt = 1)]
        have n89 : (((sy_al F 41).getD (((sy_i F 33) + ((1 : Int32))) - ((1 : Int32))).toNatClampNeg 0).toInt32).toInt = (((sy_al F 41).getD ((((sy_i F 33).toInt + 1) - 1)).toNat 0).toInt32).toInt := congrArg Int32.toInt q89
        exfalso
        omega
      replace g8 : 0 ≤ (sy_i F 82).toInt := by omega
      by_cases g9 : 2 < (sy_i F 82).toInt
      · have c33 := nz_bx hB (k := 33) (lo := 0) (hi := 400) rfl
        have q85 : (sy_ai F 39).getD (sy_i F 33).toNatClampNeg 0 = (sy_ai F 39).getD ((sy_i F 33).toInt).toNat 0 := by simp only [nz_c]
        have n85 : ((sy_ai F 39).getD (sy_i F 33).toNatClampNeg 0).toInt = ((sy_ai F 39).getD ((sy_i F 33).toInt).toNat 0).toInt := congrArg Int32.toInt q85
        have n86 : ((sy_i F 33) + ((1 : Int32))).toInt = ((sy_i F 33).toInt + 1) := nz_add (rfl : (sy_i F 33).toInt = (sy_i F 33).toInt) (by decide : ((1 : Int32)).toInt = 1) (by omega) (by omega)
        have n87 : (((sy_i F 33) + ((1 : Int32))) - ((1 : Int32))).toInt = (((sy_i F 33).toInt + 1) - 1) := nz_sub n86 (by decide : ((1 : Int32)).toInt = 1) (by omega) (by omega)
        have q89 : ((sy_al F 41).getD (((sy_i F 33) + ((1 : Int32))) - ((1 : Int32))).toNatClampNeg 0).toInt32 = ((sy_al F 41).getD ((((sy_i F 33).toInt + 1) - 1)).toNat 0).toInt32 := by simp only [nz_c, n86, n87, (by decide : ((1 : Int32)).toInt = 1)]
        have n89 : (((sy_al F 41).getD (((sy_i F 33) + ((1 : Int32))) - ((1 : Int32))).toNatClampNeg 0).toInt32).toInt = (((sy_al F 41).getD ((((sy_i F 33).toInt + 1) - 1)).toNat 0).toInt32).toInt := congrArg Int32.toInt q89
        exfalso
        omega
      replace g9 : (sy_i F 82).toInt ≤ 2 := by omega
      have c33 := nz_bx hB (k := 33) (lo := 0) (hi := 400) rfl
      have q85 : (sy_ai F 39).getD (sy_i F 33).toNatClampNeg 0 = (sy_ai F 39).getD ((sy_i F 33).toInt).toNat 0 := by simp only [nz_c]
      have n85 : ((sy_ai F 39).getD (sy_i F 33).toNatClampNeg 0).toInt = ((sy_ai F 39).getD ((sy_i F 33).toInt).toNat 0).toInt := congrArg Int32.toInt q85
      have n86 : ((sy_i F 33) + ((1 : Int32))).toInt = ((sy_i F 33).toInt + 1) := nz_add (rfl : (sy_i F 33).toInt = (sy_i F 33).toInt) (by decide : ((1 : Int32)).toInt = 1) (by omega) (by omega)
      have n87 : (((sy_i F 33) + ((1 : Int32))) - ((1 : Int32))).toInt = (((sy_i F 33).toInt + 1) - 1) := nz_sub n86 (by decide : ((1 : Int32)).toInt = 1) (by omega) (by omega)
      have q89 : ((sy_al F 41).getD (((sy_i F 33) + ((1 : Int32))) - ((1 : Int32))).toNatClampNeg 0).toInt32 = ((sy_al F 41).getD ((((sy_i F 33).toInt + 1) - 1)).toNat 0).toInt32 := by simp only [nz_c, n86, n87, (by decide : ((1 : Int32)).toInt = 1)]
      have n89 : (((sy_al F 41).getD (((sy_i F 33) + ((1 : Int32))) - ((1 : Int32))).toNatClampNeg 0).toInt32).toInt = (((sy_al F 41).getD ((((sy_i F 33).toInt + 1) - 1)).toNat 0).toInt32).toInt := congrArg Int32.toInt q89
      have w90 : jm_upd (sy_ai F 44) (sy_i F 82).toNatClampNeg (((sy_al F 41).getD (((sy_i F 33) + ((1 : Int32))) - ((1 : Int32))).toNatClampNeg 0).toInt32) = jm_upd (sy_ai F 44) ((sy_i F 82).toInt).toNat (((sy_al F 41).getD ((((sy_i F 33).toInt + 1) - 1)).toNat 0).toInt32) := by simp only [nz_c, n86, n87, (by decide : ((1 : Int32)).toInt = 1)]
      exact k0tn_0_p4 hd F X1 X2 hB (by first | exact g0 | (simp only [nz_c]; exact g0)) (by first | exact g1 | (simp only [nz_c]; exact g1)) (by first | exact ⟨by omega, by omega⟩ | (simp only [nz_c]; exact ⟨by omega, by omega⟩)) (by first | exact g2 | (simp only [nz_c]; exact g2) | (rw [n85]; exact g2)) (by first | exact g3 | (simp only [nz_c]; exact g3)) (by first | exact g4 | (simp only [nz_c, n86, n87]; exact g4) | (rw [n87]; exact g4)) (by first | exact g5 | (simp only [nz_c, n86, n87]; exact g5) | (rw [n87]; exact g5)) (by first | exact ⟨by omega, by omega⟩ | (simp only [nz_c, n86, n87]; exact ⟨by omega, by omega⟩) | (rw [n87]; exact ⟨by omega, by omega⟩)) (by first | exact g6 | (simp only [nz_c, n86, n87]; exact g6) | (rw [n89]; exact g6)) (by first | exact g7 | (simp only [nz_c, n86, n87]; exact g7) | (rw [n89]; exact g7)) (by first | exact g8 | (simp only [nz_c]; exact g8)) (by first | exact g9 | (simp only [nz_c]; exact g9)) (by first | exact ⟨by omega, by omega⟩ | (simp only [nz_c]; exact ⟨by omega, by omega⟩)) (fun F1 g e33 e44 => k4 g0 g1 g2 g3 g4 g5 g6 g7 g8 g9 F1 (nz_in0 hB [33, 44] (fun j hj hn => g j hj (by simp only [List.mem_cons, List.not_mem_nil, or_false, not_or] at hn; omega)) (List.forall_mem_cons.mpr ⟨fun t ht => (Option.some.inj ht) ▸ (nz_hi e33 n86 (by omega) (by omega)), List.forall_mem_cons.mpr ⟨fun t ht => (Option.some.inj ht) ▸ (nz_hz2 e44), List.forall_mem_nil _⟩⟩)) (fun j hj hn => g j hj (by simp only [List.mem_cons, List.not_mem_nil, or_false, not_or] at hn; omega)) ((congrArg Int32.toInt (zz_i e33)).trans n86) (nz_fi (g 34 (by decide) (by decide))) (nz_fi (g 36 (by decide) (by decide))) (nz_fi (g 37 (by decide) (by decide))) (nz_fi (g 38 (by decide) (by decide))) (nz_fa (g 39 (by decide) (by decide))) (nz_fa (g 40 (by decide) (by decide))) ((zz_ai e44).trans w90))
    replace g3 : 400 ≤ (sy_i F 33).toInt := by omega
    have c33 := nz_bx hB (k := 33) (lo := 0) (hi := 400) rfl
    have q85 : (sy_ai F 39).getD (sy_i F 33).toNatClampNeg 0 = (sy_ai F 39).getD ((sy_i F 33).toInt).toNat 0 := by simp only [nz_c]
    have n85 : ((sy_ai F 39).getD (sy_i F 33).toNatClampNeg 0).toInt = ((sy_ai F 39).getD ((sy_i F 33).toInt).toNat 0).toInt := congrArg Int32.toInt q85
    exact k0tn_0_p5 hd F X1 X2 hB (by first | exact g0 | (simp only [nz_c]; exact g0)) (by first | exact g1 | (simp only [nz_c]; exact g1)) (by first | exact ⟨by omega, by omega⟩ | (simp only [nz_c]; exact ⟨by omega, by omega⟩)) (by first | exact g2 | (simp only [nz_c]; exact g2) | (rw [n85]; exact g2)) (by first | exact g3 | (simp only [nz_c]; exact g3)) (fun F1 g e34 => k5 g0 g1 g2 g3 F1 (nz_in0 hB [34] (fun j hj hn => g j hj (by simp only [List.mem_cons, List.not_mem_nil, or_false, not_or] at hn; omega)) (List.forall_mem_cons.mpr ⟨fun t ht => (Option.some.inj ht) ▸ (nz_hz e34), List.forall_mem_nil _⟩)) (fun j hj hn => g j hj (by simp only [List.mem_cons, List.not_mem_nil, or_false, not_or] at hn; omega)) (nz_fi (g 33 (by decide) (by decide))) ((congrArg Int32.toInt (zz_i e34)).trans (by decide : ((2 : Int32)).toInt = 2)) (nz_fi (g 36 (by decide) (by decide))) (nz_fi (g 37 (by decide) (by decide))) (nz_fi (g 38 (by decide) (by decide))) (nz_fa (g 39 (by decide) (by decide))) (nz_fa (g 40 (by decide) (by decide))) (nz_fa (g 44 (by decide) (by decide))))
  replace g2 : ((sy_ai F 39).getD ((sy_i F 33).toInt).toNat 0).toInt ≠ 24 := by omega
  have c33 := nz_bx hB (k := 33) (lo := 0) (hi := 400) rfl
  have q85 : (sy_ai F 39).getD (sy_i F 33).toNatClampNeg 0 = (sy_ai F 39).getD ((sy_i F 33).toInt).toNat 0 := by simp only [nz_c]
  have n85 : ((sy_ai F 39).getD (sy_i F 33).toNatClampNeg 0).toInt = ((sy_ai F 39).getD ((sy_i F 33).toInt).toNat 0).toInt := congrArg Int32.toInt q85
  exact k0tn_0_p6 hd F X1 X2 hB (by first | exact g0 | (simp only [nz_c]; exact g0)) (by first | exact g1 | (simp only [nz_c]; exact g1)) (by first | exact ⟨by omega, by omega⟩ | (simp only [nz_c]; exact ⟨by omega, by omega⟩)) (by first | exact g2 | (simp only [nz_c]; exact g2) | (rw [n85]; exact g2)) (fun F1 g e34 => k6 g0 g1 g2 F1 (nz_in0 hB [34] (fun j hj hn => g j hj (by simp only [List.mem_cons, List.not_mem_nil, or_false, not_or] at hn; omega)) (List.forall_mem_cons.mpr ⟨fun t ht => (Option.some.inj ht) ▸ (nz_hz e34), List.forall_mem_nil _⟩)) (fun j hj hn => g j hj (by simp only [List.mem_cons, List.not_mem_nil, or_false, not_or] at hn; omega)) (nz_fi (g 33 (by decide) (by decide))) ((congrArg Int32.toInt (zz_i e34)).trans (by decide : ((1 : Int32)).toInt = 1)) (nz_fi (g 36 (by decide) (by decide))) (nz_fi (g 37 (by decide) (by decide))) (nz_fi (g 38 (by decide) (by decide))) (nz_fa (g 39 (by decide) (by decide))) (nz_fa (g 40 (by decide) (by decide))) (nz_fa (g 44 (by decide) (by decide))))
theorem k0zpf_72 {Ls : Nat} {xs : Nat → Int32} {d : Nat} {Q : Option Value → jm_h → Prop} (hd : 4 ≤ d) (F : Nat → sy_d) (X1 X2 : List jm_c) (hB : iv_in F iv_B0)
    (k0 : (sy_i F 82).toInt = 0 → ∀ F1 : Nat → sy_d, iv_in F1 iv_B0 → (∀ j, j < 82 → j ∉ ([] : List Nat) → F1 j = F j) → (sy_i F1 33).toInt = (sy_i F 33).toInt → (sy_i F1 34).toInt = (sy_i F 34).toInt → (sy_i F1 36).toInt = (sy_i F 36).toInt → (sy_i F1 37).toInt = (sy_i F 37).toInt → (sy_i F1 38).toInt = (sy_i F 38).toInt → (sy_i F1 18).toInt = (sy_i F 18).toInt → (sy_i F1 19).toInt = (sy_i F 19).toInt → sy_ai F1 39 = sy_ai F 39 → sy_ai F1 24 = sy_ai F 24 → sy_ai F1 25 = sy_ai F 25 → sy_ai F1 26 = sy_ai F 26 → Q (some (.int ((0 : Int32)))) (sy_dh F1 X1 X2 (iv_H 0)))
    (k1 : (sy_i F 82).toInt ≠ 0 → 7 ≤ (sy_i F 18).toInt → ∀ F1 : Nat → sy_d, iv_in F1 iv_B0 → (∀ j, j < 82 → j ∉ ([] : List Nat) → F1 j = F j) → (sy_i F1 33).toInt = (sy_i F 33).toInt → (sy_i F1 34).toInt = (sy_i F 34).toInt → (sy_i F1 36).toInt = (sy_i F 36).toInt → (sy_i F1 37).toInt = (sy_i F 37).toInt → (sy_i F1 38).toInt = (sy_i F 38).toInt → (sy_i F1 18).toInt = (sy_i F 18).toInt → (sy_i F1 19).toInt = (sy_i F 19).toInt → sy_ai F1 39 = sy_ai F 39 → sy_ai F1 24 = sy_ai F 24 → sy_ai F1 25 = sy_ai F 25 → sy_ai F1 26 = sy_ai F 26 → Q (some (.int ((1 : Int32)))) (sy_dh F1 X1 X2 (iv_H 0)))
    (k2 : (sy_i F 82).toInt ≠ 0 → (sy_i F 18).toInt < 7 → ∀ F1 : Nat → sy_d, iv_in F1 iv_B0 → (∀ j, j < 82 → j ∉ ([18, 24, 25, 26] : List Nat) → F1 j = F j) → (sy_i F1 33).toInt = (sy_i F 33).toInt → (sy_i F1 34).toInt = (sy_i F 34).toInt → (sy_i F1 36).toInt = (sy_i F 36).toInt → (sy_i F1 37).toInt = (sy_i F 37).toInt → (sy_i F1 38).toInt = (sy_i F 38).toInt → (sy_i F1 18).toInt = ((sy_i F 18).toInt + 1) → (sy_i F1 19).toInt = (sy_i F 19).toInt → sy_ai F1 39 = sy_ai F 39 → sy_ai F1 24 = jm_upd (sy_ai F 24) ((sy_i F 18).toInt).toNat ((sy_ai F 44).getD (0 : Int).toNat 0) → sy_ai F1 25 = jm_upd (sy_ai F 25) ((sy_i F 18).toInt).toNat ((sy_ai F 44).getD (1 : Int).toNat 0) → sy_ai F1 26 = jm_upd (sy_ai F 26) ((sy_i F 18).toInt).toNat ((sy_ai F 44).getD (2 : Int).toNat 0) → Q (some (.int ((1 : Int32)))) (sy_dh F1 X1 X2 (iv_H 0))) :
    hd_W Ls xs d jm_M33 Q (72, sy_dL F [some (.inl (.ref 30)), none], sy_dS F [.inr (.inl 82)], sy_dh F X1 X2 (iv_H 0), 0, 0) := by
  by_cases g0 : (sy_i F 82).toInt = 0
  · exact k0pf_72_p0 hd F X1 X2 hB (by first | exact g0 | (simp only [nz_c]; exact g0)) (fun F1 g  => k0 g0 F1 (nz_in0 hB [] (fun j hj hn => g j hj (by simp only [List.mem_cons, List.not_mem_nil, or_false, not_or] at hn; exact trivial)) (List.forall_mem_nil _)) (fun j hj hn => g j hj (by simp only [List.mem_cons, List.not_mem_nil, or_false, not_or] at hn; exact trivial)) (nz_fi (g 33 (by decide) (by decide))) (nz_fi (g 34 (by decide) (by decide))) (nz_fi (g 36 (by decide) (by decide))) (nz_fi (g 37 (by decide) (by decide))) (nz_fi (g 38 (by decide) (by decide))) (nz_fi (g 18 (by decide) (by decide))) (nz_fi (g 19 (by decide) (by decide))) (nz_fa (g 39 (by decide) (by decide))) (nz_fa (g 24 (by decide) (by decide))) (nz_fa (g 25 (by decide) (by decide))) (nz_fa (g 26 (by decide) (by decide))))
  replace g0 : (sy_i F 82).toInt ≠ 0 := by omega
  by_cases g1 : 7 ≤ (sy_i F 18).toInt
  · have c18 := nz_bx hB (k := 18) (lo := 0) (hi := 7) rfl
    exact k0pf_72_p1 hd F X1 X2 hB (by first | exact g0 | (simp only [nz_c]; exact g0)) (by first | exact g1 | (simp only [nz_c]; exact g1)) (fun F1 g  => k1 g0 g1 F1 (nz_in0 hB [] (fun j hj hn => g j hj (by simp only [List.mem_cons, List.not_mem_nil, or_false, not_or] at hn; exact trivial)) (List.forall_mem_nil _)) (fun j hj hn => g j hj (by simp only [List.mem_cons, List.not_mem_nil, or_false, not_or] at hn; exact trivial)) (nz_fi (g 33 (by decide) (by decide))) (nz_fi (g 34 (by decide) (by decide))) (nz_fi (g 36 (by decide) (by decide))) (nz_fi (g 37 (by decide) (by decide))) (nz_fi (g 38 (by decide) (by decide))) (nz_fi (g 18 (by decide) (by decide))) (nz_fi (g 19 (by decide) (by decide))) (nz_fa (g 39 (by decide) (by decide))) (nz_fa (g 24 (by decide) (by decide))) (nz_fa (g 25 (by decide) (by decide))) (nz_fa (g 26 (by decide) (by decide))))
  replace g1 : (sy_i F 18).toInt < 7 := by omega
  have c18 := nz_bx hB (k := 18) (lo := 0) (hi := 7) rfl
  have n89 : ((sy_i F 18) + ((1 : Int32))).toInt = ((sy_i F 18).toInt + 1) := nz_add (rfl : (sy_i F 18).toInt = (sy_i F 18).toInt) (by decide : ((1 : Int32)).toInt = 1) (by omega) (by omega)
  have w84 : jm_upd (sy_ai F 24) (sy_i F 18).toNatClampNeg ((sy_ai F 44).getD ((0 : Int32)).toNatClampNeg 0) = jm_upd (sy_ai F 24) ((sy_i F 18).toInt).toNat ((sy_ai F 44).getD (0 : Int).toNat 0) := by simp only [nz_c, (by decide : ((0 : Int32)).toInt = 0)]
  have w86 : jm_upd (sy_ai F 25) (sy_i F 18).toNatClampNeg ((sy_ai F 44).getD ((1 : Int32)).toNatClampNeg 0) = jm_upd (sy_ai F 25) ((sy_i F 18).toInt).toNat ((sy_ai F 44).getD (1 : Int).toNat 0) := by simp only [nz_c, (by decide : ((1 : Int32)).toInt = 1)]
  have w88 : jm_upd (sy_ai F 26) (sy_i F 18).toNatClampNeg ((sy_ai F 44).getD ((2 : Int32)).toNatClampNeg 0) = jm_upd (sy_ai F 26) ((sy_i F 18).toInt).toNat ((sy_ai F 44).getD (2 : Int).toNat 0) := by simp only [nz_c, (by decide : ((2 : Int32)).toInt = 2)]
  exact k0pf_72_p2 hd F X1 X2 hB (by first | exact g0 | (simp only [nz_c]; exact g0)) (by first | exact g1 | (simp only [nz_c]; exact g1)) (by first | exact ⟨by omega, by omega⟩ | (simp only [nz_c]; exact ⟨by omega, by omega⟩)) (by first | exact ⟨by omega, by omega⟩ | (simp only [nz_c]; exact ⟨by omega, by omega⟩)) (by first | exact ⟨by omega, by omega⟩ | (simp only [nz_c]; exact ⟨by omega, by omega⟩)) (fun F1 g e18 e24 e25 e26 => k2 g0 g1 F1 (nz_in0 hB [18, 24, 25, 26] (fun j hj hn => g j hj (by simp only [List.mem_cons, List.not_mem_nil, or_false, not_or] at hn; omega)) (List.forall_mem_cons.mpr ⟨fun t ht => (Option.some.inj ht) ▸ (nz_hi e18 n89 (by omega) (by omega)), List.forall_mem_cons.mpr ⟨fun t ht => (Option.some.inj ht) ▸ (nz_hz2 e24), List.forall_mem_cons.mpr ⟨fun t ht => (Option.some.inj ht) ▸ (nz_hz2 e25), List.forall_mem_cons.mpr ⟨fun t ht => (Option.some.inj ht) ▸ (nz_hz2 e26), List.forall_mem_nil _⟩⟩⟩⟩)) (fun j hj hn => g j hj (by simp only [List.mem_cons, List.not_mem_nil, or_false, not_or] at hn; omega)) (nz_fi (g 33 (by decide) (by decide))) (nz_fi (g 34 (by decide) (by decide))) (nz_fi (g 36 (by decide) (by decide))) (nz_fi (g 37 (by decide) (by decide))) (nz_fi (g 38 (by decide) (by decide))) ((congrArg Int32.toInt (zz_i e18)).trans n89) (nz_fi (g 19 (by decide) (by decide))) (nz_fa (g 39 (by decide) (by decide))) ((zz_ai e24).trans w84) ((zz_ai e25).trans w86) ((zz_ai e26).trans w88))
theorem k0zpb_71 {Ls : Nat} {xs : Nat → Int32} {d : Nat} {Q : Option Value → jm_h → Prop} (hd : 4 ≤ d) (F : Nat → sy_d) (X1 X2 : List jm_c) (hB : iv_in F iv_B0)
    (k0 : (sy_i F 82).toInt = 0 → ∀ F1 : Nat → sy_d, iv_in F1 iv_B0 → (∀ j, j < 82 → j ∉ ([] : List Nat) → F1 j = F j) → (sy_i F1 33).toInt = (sy_i F 33).toInt → (sy_i F1 34).toInt = (sy_i F 34).toInt → (sy_i F1 36).toInt = (sy_i F 36).toInt → (sy_i F1 37).toInt = (sy_i F 37).toInt → (sy_i F1 38).toInt = (sy_i F 38).toInt → (sy_i F1 18).toInt = (sy_i F 18).toInt → (sy_i F1 19).toInt = (sy_i F 19).toInt → sy_ai F1 39 = sy_ai F 39 → sy_ai F1 28 = sy_ai F 28 → sy_ai F1 29 = sy_ai F 29 → sy_ai F1 30 = sy_ai F 30 → Q (some (.int ((0 : Int32)))) (sy_dh F1 X1 X2 (iv_H 0)))
    (k1 : (sy_i F 82).toInt ≠ 0 → 4 ≤ (sy_i F 19).toInt → ∀ F1 : Nat → sy_d, iv_in F1 iv_B0 → (∀ j, j < 82 → j ∉ ([] : List Nat) → F1 j = F j) → (sy_i F1 33).toInt = (sy_i F 33).toInt → (sy_i F1 34).toInt = (sy_i F 34).toInt → (sy_i F1 36).toInt = (sy_i F 36).toInt → (sy_i F1 37).toInt = (sy_i F 37).toInt → (sy_i F1 38).toInt = (sy_i F 38).toInt → (sy_i F1 18).toInt = (sy_i F 18).toInt → (sy_i F1 19).toInt = (sy_i F 19).toInt → sy_ai F1 39 = sy_ai F 39 → sy_ai F1 28 = sy_ai F 28 → sy_ai F1 29 = sy_ai F 29 → sy_ai F1 30 = sy_ai F 30 → Q (some (.int ((1 : Int32)))) (sy_dh F1 X1 X2 (iv_H 0)))
    (k2 : (sy_i F 82).toInt ≠ 0 → (sy_i F 19).toInt < 4 → ∀ F1 : Nat → sy_d, iv_in F1 iv_B0 → (∀ j, j < 82 → j ∉ ([19, 28, 29, 30] : List Nat) → F1 j = F j) → (sy_i F1 33).toInt = (sy_i F 33).toInt → (sy_i F1 34).toInt = (sy_i F 34).toInt → (sy_i F1 36).toInt = (sy_i F 36).toInt → (sy_i F1 37).toInt = (sy_i F 37).toInt → (sy_i F1 38).toInt = (sy_i F 38).toInt → (sy_i F1 18).toInt = (sy_i F 18).toInt → (sy_i F1 19).toInt = ((sy_i F 19).toInt + 1) → sy_ai F1 39 = sy_ai F 39 → sy_ai F1 28 = jm_upd (sy_ai F 28) ((sy_i F 19).toInt).toNat ((sy_ai F 44).getD (0 : Int).toNat 0) → sy_ai F1 29 = jm_upd (sy_ai F 29) ((sy_i F 19).toInt).toNat ((sy_ai F 44).getD (1 : Int).toNat 0) → sy_ai F1 30 = jm_upd (sy_ai F 30) ((sy_i F 19).toInt).toNat ((sy_ai F 44).getD (2 : Int).toNat 0) → Q (some (.int ((1 : Int32)))) (sy_dh F1 X1 X2 (iv_H 0))) :
    hd_W Ls xs d jm_M34 Q (71, sy_dL F [some (.inl (.ref 30)), none], sy_dS F [.inr (.inl 82)], sy_dh F X1 X2 (iv_H 0), 0, 0) := by
  by_cases g0 : (sy_i F 82).toInt = 0
  · exact k0pb_71_p0 hd F X1 X2 hB (by first | exact g0 | (simp only [nz_c]; exact g0)) (fun F1 g  => k0 g0 F1 (nz_in0 hB [] (fun j hj hn => g j hj (by simp only [List.mem_cons, List.not_mem_nil, or_false, not_or] at hn; exact trivial)) (List.forall_mem_nil _)) (fun j hj hn => g j hj (by simp only [List.mem_cons, List.not_mem_nil, or_false, not_or] at hn; exact trivial)) (nz_fi (g 33 (by decide) (by decide))) (nz_fi (g 34 (by decide) (by decide))) (nz_fi (g 36 (by decide) (by decide))) (nz_fi (g 37 (by decide) (by decide))) (nz_fi (g 38 (by decide) (by decide))) (nz_fi (g 18 (by decide) (by decide))) (nz_fi (g 19 (by decide) (by decide))) (nz_fa (g 39 (by decide) (by decide))) (nz_fa (g 28 (by decide) (by decide))) (nz_fa (g 29 (by decide) (by decide))) (nz_fa (g 30 (by decide) (by decide))))
  replace g0 : (sy_i F 82).toInt ≠ 0 := by omega
  by_cases g1 : 4 ≤ (sy_i F 19).toInt
  · have c19 := nz_bx hB (k := 19) (lo := 0) (hi := 4) rfl
    exact k0pb_71_p1 hd F X1 X2 hB (by first | exact g0 | (simp only [nz_c]; exact g0)) (by first | exact g1 | (simp only [nz_c]; exact g1)) (fun F1 g  => k1 g0 g1 F1 (nz_in0 hB [] (fun j hj hn => g j hj (by simp only [List.mem_cons, List.not_mem_nil, or_false, not_or] at hn; exact trivial)) (List.forall_mem_nil _)) (fun j hj hn => g j hj (by simp only [List.mem_cons, List.not_mem_nil, or_false, not_or] at hn; exact trivial)) (nz_fi (g 33 (by decide) (by decide))) (nz_fi (g 34 (by decide) (by decide))) (nz_fi (g 36 (by decide) (by decide))) (nz_fi (g 37 (by decide) (by decide))) (nz_fi (g 38 (by decide) (by decide))) (nz_fi (g 18 (by decide) (by decide))) (nz_fi (g 19 (by decide) (by decide))) (nz_fa (g 39 (by decide) (by decide))) (nz_fa (g 28 (by decide) (by decide))) (nz_fa (g 29 (by decide) (by decide))) (nz_fa (g 30 (by decide) (by decide))))
  replace g1 : (sy_i F 19).toInt < 4 := by omega
  have c19 := nz_bx hB (k := 19) (lo := 0) (hi := 4) rfl
  have n89 : ((sy_i F 19) + ((1 : Int32))).toInt = ((sy_i F 19).toInt + 1) := nz_add (rfl : (sy_i F 19).toInt = (sy_i F 19).toInt) (by decide : ((1 : Int32)).toInt = 1) (by omega) (by omega)
  have w84 : jm_upd (sy_ai F 28) (sy_i F 19).toNatClampNeg ((sy_ai F 44).getD ((0 : Int32)).toNatClampNeg 0) = jm_upd (sy_ai F 28) ((sy_i F 19).toInt).toNat ((sy_ai F 44).getD (0 : Int).toNat 0) := by simp only [nz_c, (by decide : ((0 : Int32)).toInt = 0)]
  have w86 : jm_upd (sy_ai F 29) (sy_i F 19).toNatClampNeg ((sy_ai F 44).getD ((1 : Int32)).toNatClampNeg 0) = jm_upd (sy_ai F 29) ((sy_i F 19).toInt).toNat ((sy_ai F 44).getD (1 : Int).toNat 0) := by simp only [nz_c, (by decide : ((1 : Int32)).toInt = 1)]
  have w88 : jm_upd (sy_ai F 30) (sy_i F 19).toNatClampNeg ((sy_ai F 44).getD ((2 : Int32)).toNatClampNeg 0) = jm_upd (sy_ai F 30) ((sy_i F 19).toInt).toNat ((sy_ai F 44).getD (2 : Int).toNat 0) := by simp only [nz_c, (by decide : ((2 : Int32)).toInt = 2)]
  exact k0pb_71_p2 hd F X1 X2 hB (by first | exact g0 | (simp only [nz_c]; exact g0)) (by first | exact g1 | (simp only [nz_c]; exact g1)) (by first | exact ⟨by omega, by omega⟩ | (simp only [nz_c]; exact ⟨by omega, by omega⟩)) (by first | exact ⟨by omega, by omega⟩ | (simp only [nz_c]; exact ⟨by omega, by omega⟩)) (by first | exact ⟨by omega, by omega⟩ | (simp only [nz_c]; exact ⟨by omega, by omega⟩)) (fun F1 g e19 e28 e29 e30 => k2 g0 g1 F1 (nz_in0 hB [19, 28, 29, 30] (fun j hj hn => g j hj (by simp only [List.mem_cons, List.not_mem_nil, or_false, not_or] at hn; omega)) (List.forall_mem_cons.mpr ⟨fun t ht => (Option.some.inj ht) ▸ (nz_hi e19 n89 (by omega) (by omega)), List.forall_mem_cons.mpr ⟨fun t ht => (Option.some.inj ht) ▸ (nz_hz2 e28), List.forall_mem_cons.mpr ⟨fun t ht => (Option.some.inj ht) ▸ (nz_hz2 e29), List.forall_mem_cons.mpr ⟨fun t ht => (Option.some.inj ht) ▸ (nz_hz2 e30), List.forall_mem_nil _⟩⟩⟩⟩)) (fun j hj hn => g j hj (by simp only [List.mem_cons, List.not_mem_nil, or_false, not_or] at hn; omega)) (nz_fi (g 33 (by decide) (by decide))) (nz_fi (g 34 (by decide) (by decide))) (nz_fi (g 36 (by decide) (by decide))) (nz_fi (g 37 (by decide) (by decide))) (nz_fi (g 38 (by decide) (by decide))) (nz_fi (g 18 (by decide) (by decide))) ((congrArg Int32.toInt (zz_i e19)).trans n89) (nz_fa (g 39 (by decide) (by decide))) ((zz_ai e28).trans w84) ((zz_ai e29).trans w86) ((zz_ai e30).trans w88))
theorem k0zpg_50 {Ls : Nat} {xs : Nat → Int32} {d : Nat} {Q : Option Value → jm_h → Prop} (hd : 4 ≤ d) (F : Nat → sy_d) (X1 X2 : List jm_c) (hB : iv_in F iv_B0)
    (k0 : (sy_i F 83).toInt ≠ 0 → (sy_i F 82).toInt ≠ 8 → (sy_i F 82).toInt ≠ 9 → ∀ F1 : Nat → sy_d, iv_in F1 iv_B0 → (∀ j, j < 82 → j ∉ ([22] : List Nat) → F1 j = F j) → (sy_i F1 33).toInt = (sy_i F 33).toInt → (sy_i F1 34).toInt = (sy_i F 34).toInt → (sy_i F1 36).toInt = (sy_i F 36).toInt → (sy_i F1 37).toInt = (sy_i F 37).toInt → (sy_i F1 38).toInt = (sy_i F 38).toInt → (sy_i F1 18).toInt = (sy_i F 18).toInt → (sy_i F1 19).toInt = (sy_i F 19).toInt → (sy_i F1 20).toInt = (sy_i F 20).toInt → (sy_i F1 21).toInt = (sy_i F 21).toInt → (sy_i F1 22).toInt = ((sy_ai F 44).getD (0 : Int).toNat 0).toInt → sy_ai F1 39 = sy_ai F 39 → Q (some (.int ((1 : Int32)))) (sy_dh F1 X1 X2 (iv_H 0)))
    (k1 : (sy_i F 83).toInt ≠ 0 → (sy_i F 82).toInt ≠ 8 → (sy_i F 82).toInt = 9 → ∀ F1 : Nat → sy_d, iv_in F1 iv_B0 → (∀ j, j < 82 → j ∉ ([21] : List Nat) → F1 j = F j) → (sy_i F1 33).toInt = (sy_i F 33).toInt → (sy_i F1 34).toInt = (sy_i F 34).toInt → (sy_i F1 36).toInt = (sy_i F 36).toInt → (sy_i F1 37).toInt = (sy_i F 37).toInt → (sy_i F1 38).toInt = (sy_i F 38).toInt → (sy_i F1 18).toInt = (sy_i F 18).toInt → (sy_i F1 19).toInt = (sy_i F 19).toInt → (sy_i F1 20).toInt = (sy_i F 20).toInt → (sy_i F1 21).toInt = ((sy_ai F 44).getD (0 : Int).toNat 0).toInt → (sy_i F1 22).toInt = (sy_i F 22).toInt → sy_ai F1 39 = sy_ai F 39 → Q (some (.int ((1 : Int32)))) (sy_dh F1 X1 X2 (iv_H 0)))
    (k2 : (sy_i F 83).toInt ≠ 0 → (sy_i F 82).toInt = 8 → ∀ F1 : Nat → sy_d, iv_in F1 iv_B0 → (∀ j, j < 82 → j ∉ ([20] : List Nat) → F1 j = F j) → (sy_i F1 33).toInt = (sy_i F 33).toInt → (sy_i F1 34).toInt = (sy_i F 34).toInt → (sy_i F1 36).toInt = (sy_i F 36).toInt → (sy_i F1 37).toInt = (sy_i F 37).toInt → (sy_i F1 38).toInt = (sy_i F 38).toInt → (sy_i F1 18).toInt = (sy_i F 18).toInt → (sy_i F1 19).toInt = (sy_i F 19).toInt → (sy_i F1 20).toInt = ((sy_ai F 44).getD (0 : Int).toNat 0).toInt → (sy_i F1 21).toInt = (sy_i F 21).toInt → (sy_i F1 22).toInt = (sy_i F 22).toInt → sy_ai F1 39 = sy_ai F 39 → Q (some (.int ((1 : Int32)))) (sy_dh F1 X1 X2 (iv_H 0)))
    (k3 : (sy_i F 83).toInt = 0 → ∀ F1 : Nat → sy_d, iv_in F1 iv_B0 → (∀ j, j < 82 → j ∉ ([] : List Nat) → F1 j = F j) → (sy_i F1 33).toInt = (sy_i F 33).toInt → (sy_i F1 34).toInt = (sy_i F 34).toInt → (sy_i F1 36).toInt = (sy_i F 36).toInt → (sy_i F1 37).toInt = (sy_i F 37).toInt → (sy_i F1 38).toInt = (sy_i F 38).toInt → (sy_i F1 18).toInt = (sy_i F 18).toInt → (sy_i F1 19).toInt = (sy_i F 19).toInt → (sy_i F1 20).toInt = (sy_i F 20).toInt → (sy_i F1 21).toInt = (sy_i F 21).toInt → (sy_i F1 22).toInt = (sy_i F 22).toInt → sy_ai F1 39 = sy_ai F 39 → Q (some (.int ((0 : Int32)))) (sy_dh F1 X1 X2 (iv_H 0))) :
    hd_W Ls xs d jm_M35 Q (50, sy_dL F [some (.inl (.ref 30)), some (.inr (.inl 82)), none], sy_dS F [.inr (.inl 83)], sy_dh F X1 X2 (iv_H 0), 0, 0) := by
  by_cases g0 : (sy_i F 83).toInt ≠ 0
  · by_cases g1 : (sy_i F 82).toInt ≠ 8
    · by_cases g2 : (sy_i F 82).toInt ≠ 9
      · have q84 : (sy_ai F 44).getD ((0 : Int32)).toNatClampNeg 0 = (sy_ai F 44).getD (0 : Int).toNat 0 := by simp only [nz_c, (by decide : ((0 : Int32)).toInt = 0)]
        have n84 : ((sy_ai F 44).getD ((0 : Int32)).toNatClampNeg 0).toInt = ((sy_ai F 44).getD (0 : Int).toNat 0).toInt := congrArg Int32.toInt q84
        exact k0pg_50_p0 hd F X1 X2 hB (by first | exact g0 | (simp only [nz_c]; exact g0)) (by first | exact g1 | (simp only [nz_c]; exact g1)) (by first | exact g2 | (simp only [nz_c]; exact g2)) (fun F1 g e22 => k0 g0 g1 g2 F1 (nz_in0 hB [22] (fun j hj hn => g j hj (by simp only [List.mem_cons, List.not_mem_nil, or_false, not_or] at hn; omega)) (List.forall_mem_cons.mpr ⟨fun t ht => (Option.some.inj ht) ▸ (nz_hz e22), List.forall_mem_nil _⟩)) (fun j hj hn => g j hj (by simp only [List.mem_cons, List.not_mem_nil, or_false, not_or] at hn; omega)) (nz_fi (g 33 (by decide) (by decide))) (nz_fi (g 34 (by decide) (by decide))) (nz_fi (g 36 (by decide) (by decide))) (nz_fi (g 37 (by decide) (by decide))) (nz_fi (g 38 (by decide) (by decide))) (nz_fi (g 18 (by decide) (by decide))) (nz_fi (g 19 (by decide) (by decide))) (nz_fi (g 20 (by decide) (by decide))) (nz_fi (g 21 (by decide) (by decide))) ((congrArg Int32.toInt (zz_i e22)).trans n84) (nz_fa (g 39 (by decide) (by decide))))
      replace g2 : (sy_i F 82).toInt = 9 := by omega
      have q84 : (sy_ai F 44).getD ((0 : Int32)).toNatClampNeg 0 = (sy_ai F 44).getD (0 : Int).toNat 0 := by simp only [nz_c, (by decide : ((0 : Int32)).toInt = 0)]
      have n84 : ((sy_ai F 44).getD ((0 : Int32)).toNatClampNeg 0).toInt = ((sy_ai F 44).getD (0 : Int).toNat 0).toInt := congrArg Int32.toInt q84
      exact k0pg_50_p1 hd F X1 X2 hB (by first | exact g0 | (simp only [nz_c]; exact g0)) (by first | exact g1 | (simp only [nz_c]; exact g1)) (by first | exact g2 | (simp only [nz_c]; exact g2)) (fun F1 g e21 => k1 g0 g1 g2 F1 (nz_in0 hB [21] (fun j hj hn => g j hj (by simp only [List.mem_cons, List.not_mem_nil, or_false, not_or] at hn; omega)) (List.forall_mem_cons.mpr ⟨fun t ht => (Option.some.inj ht) ▸ (nz_hz e21), List.forall_mem_nil _⟩)) (fun j hj hn => g j hj (by simp only [List.mem_cons, List.not_mem_nil, or_false, not_or] at hn; omega)) (nz_fi (g 33 (by decide) (by decide))) (nz_fi (g 34 (by decide) (by decide))) (nz_fi (g 36 (by decide) (by decide))) (nz_fi (g 37 (by decide) (by decide))) (nz_fi (g 38 (by decide) (by decide))) (nz_fi (g 18 (by decide) (by decide))) (nz_fi (g 19 (by decide) (by decide))) (nz_fi (g 20 (by decide) (by decide))) ((congrArg Int32.toInt (zz_i e21)).trans n84) (nz_fi (g 22 (by decide) (by decide))) (nz_fa (g 39 (by decide) (by decide))))
    replace g1 : (sy_i F 82).toInt = 8 := by omega
    have q84 : (sy_ai F 44).getD ((0 : Int32)).toNatClampNeg 0 = (sy_ai F 44).getD (0 : Int).toNat 0 := by simp only [nz_c, (by decide : ((0 : Int32)).toInt = 0)]
    have n84 : ((sy_ai F 44).getD ((0 : Int32)).toNatClampNeg 0).toInt = ((sy_ai F 44).getD (0 : Int).toNat 0).toInt := congrArg Int32.toInt q84
    exact k0pg_50_p2 hd F X1 X2 hB (by first | exact g0 | (simp only [nz_c]; exact g0)) (by first | exact g1 | (simp only [nz_c]; exact g1)) (fun F1 g e20 => k2 g0 g1 F1 (nz_in0 hB [20] (fun j hj hn => g j hj (by simp only [List.mem_cons, List.not_mem_nil, or_false, not_or] at hn; omega)) (List.forall_mem_cons.mpr ⟨fun t ht => (Option.some.inj ht) ▸ (nz_hz e20), List.forall_mem_nil _⟩)) (fun j hj hn => g j hj (by simp only [List.mem_cons, List.not_mem_nil, or_false, not_or] at hn; omega)) (nz_fi (g 33 (by decide) (by decide))) (nz_fi (g 34 (by decide) (by decide))) (nz_fi (g 36 (by decide) (by decide))) (nz_fi (g 37 (by decide) (by decide))) (nz_fi (g 38 (by decide) (by decide))) (nz_fi (g 18 (by decide) (by decide))) (nz_fi (g 19 (by decide) (by decide))) ((congrArg Int32.toInt (zz_i e20)).trans n84) (nz_fi (g 21 (by decide) (by decide))) (nz_fi (g 22 (by decide) (by decide))) (nz_fa (g 39 (by decide) (by decide))))
  replace g0 : (sy_i F 83).toInt = 0 := by omega
  exact k0pg_50_p3 hd F X1 X2 hB (by first | exact g0 | (simp only [nz_c]; exact g0)) (fun F1 g  => k3 g0 F1 (nz_in0 hB [] (fun j hj hn => g j hj (by simp only [List.mem_cons, List.not_mem_nil, or_false, not_or] at hn; exact trivial)) (List.forall_mem_nil _)) (fun j hj hn => g j hj (by simp only [List.mem_cons, List.not_mem_nil, or_false, not_or] at hn; exact trivial)) (nz_fi (g 33 (by decide) (by decide))) (nz_fi (g 34 (by decide) (by decide))) (nz_fi (g 36 (by decide) (by decide))) (nz_fi (g 37 (by decide) (by decide))) (nz_fi (g 38 (by decide) (by decide))) (nz_fi (g 18 (by decide) (by decide))) (nz_fi (g 19 (by decide) (by decide))) (nz_fi (g 20 (by decide) (by decide))) (nz_fi (g 21 (by decide) (by decide))) (nz_fi (g 22 (by decide) (by decide))) (nz_fa (g 39 (by decide) (by decide))))
end
section
/-! ===== the class parses numbers, fruit, buyers, settings, way by way, with the numbers (shape 3) ===== -/
theorem k3ztn_0 {Ls : Nat} {xs : Nat → Int32} {d : Nat} {Q : Option Value → jm_h → Prop} (hd : 4 ≤ d) (F : Nat → sy_d) (X1 X2 : List jm_c) (hB : iv_in F iv_B0)
    (a82 : 0 ≤ (sy_i F 82).toInt ∧ (sy_i F 82).toInt ≤ 2)
    (k0 : 0 ≤ (sy_i F 33).toInt → (sy_i F 33).toInt ≤ 400 → ((sy_ai F 39).getD ((sy_i F 33).toInt).toNat 0).toInt = 24 → (sy_i F 33).toInt < 400 → 0 ≤ (((sy_i F 33).toInt + 1) - 1) → (((sy_i F 33).toInt + 1) - 1) ≤ 400 → (((sy_al F 41).getD ((((sy_i F 33).toInt + 1) - 1)).toNat 0).toInt32).toInt < (sy_i F 83).toInt → (sy_i F 36).toInt ≠ 0 → 0 ≤ (sy_i F 82).toInt → (sy_i F 82).toInt ≤ 2 → ∀ F1 : Nat → sy_d, iv_in F1 iv_B0 → (∀ j, j < 82 → j ∉ ([33, 44] : List Nat) → F1 j = F j) → (sy_i F1 33).toInt = ((sy_i F 33).toInt + 1) → (sy_i F1 34).toInt = (sy_i F 34).toInt → (sy_i F1 36).toInt = (sy_i F 36).toInt → (sy_i F1 37).toInt = (sy_i F 37).toInt → (sy_i F1 38).toInt = (sy_i F 38).toInt → sy_ai F1 39 = sy_ai F 39 → sy_ai F1 40 = sy_ai F 40 → sy_ai F1 44 = jm_upd (sy_ai F 44) ((sy_i F 82).toInt).toNat (((sy_al F 41).getD ((((sy_i F 33).toInt + 1) - 1)).toNat 0).toInt32) → Q (some (.int ((1 : Int32)))) (sy_dh F1 X1 X2 (iv_H 3)))
    (k1 : 0 ≤ (sy_i F 33).toInt → (sy_i F 33).toInt ≤ 400 → ((sy_ai F 39).getD ((sy_i F 33).toInt).toNat 0).toInt = 24 → (sy_i F 33).toInt < 400 → 0 ≤ (((sy_i F 33).toInt + 1) - 1) → (((sy_i F 33).toInt + 1) - 1) ≤ 400 → (((sy_al F 41).getD ((((sy_i F 33).toInt + 1) - 1)).toNat 0).toInt32).toInt < (sy_i F 83).toInt → (sy_i F 36).toInt = 0 → 0 ≤ (((sy_i F 33).toInt + 1) - 1) → (((sy_i F 33).toInt + 1) - 1) ≤ 400 → 0 ≤ (sy_i F 82).toInt → (sy_i F 82).toInt ≤ 2 → ∀ F1 : Nat → sy_d, iv_in F1 iv_B0 → (∀ j, j < 82 → j ∉ ([33, 36, 37, 44] : List Nat) → F1 j = F j) → (sy_i F1 33).toInt = ((sy_i F 33).toInt + 1) → (sy_i F1 34).toInt = (sy_i F 34).toInt → (sy_i F1 36).toInt = 5 → (sy_i F1 37).toInt = ((sy_ai F 40).getD ((((sy_i F 33).toInt + 1) - 1)).toNat 0).toInt → (sy_i F1 38).toInt = (sy_i F 38).toInt → sy_ai F1 39 = sy_ai F 39 → sy_ai F1 40 = sy_ai F 40 → sy_ai F1 44 = jm_upd (sy_ai F 44) ((sy_i F 82).toInt).toNat (((sy_al F 41).getD ((((sy_i F 33).toInt + 1) - 1)).toNat 0).toInt32) → Q (some (.int ((1 : Int32)))) (sy_dh F1 X1 X2 (iv_H 3)))
    (k2 : 0 ≤ (sy_i F 33).toInt → (sy_i F 33).toInt ≤ 400 → ((sy_ai F 39).getD ((sy_i F 33).toInt).toNat 0).toInt = 24 → (sy_i F 33).toInt < 400 → 0 ≤ (((sy_i F 33).toInt + 1) - 1) → (((sy_i F 33).toInt + 1) - 1) ≤ 400 → (sy_i F 83).toInt ≤ (((sy_al F 41).getD ((((sy_i F 33).toInt + 1) - 1)).toNat 0).toInt32).toInt → (sy_i F 84).toInt < (((sy_al F 41).getD ((((sy_i F 33).toInt + 1) - 1)).toNat 0).toInt32).toInt → (sy_i F 36).toInt ≠ 0 → 0 ≤ (sy_i F 82).toInt → (sy_i F 82).toInt ≤ 2 → ∀ F1 : Nat → sy_d, iv_in F1 iv_B0 → (∀ j, j < 82 → j ∉ ([33, 44] : List Nat) → F1 j = F j) → (sy_i F1 33).toInt = ((sy_i F 33).toInt + 1) → (sy_i F1 34).toInt = (sy_i F 34).toInt → (sy_i F1 36).toInt = (sy_i F 36).toInt → (sy_i F1 37).toInt = (sy_i F 37).toInt → (sy_i F1 38).toInt = (sy_i F 38).toInt → sy_ai F1 39 = sy_ai F 39 → sy_ai F1 40 = sy_ai F 40 → sy_ai F1 44 = jm_upd (sy_ai F 44) ((sy_i F 82).toInt).toNat (((sy_al F 41).getD ((((sy_i F 33).toInt + 1) - 1)).toNat 0).toInt32) → Q (some (.int ((1 : Int32)))) (sy_dh F1 X1 X2 (iv_H 3)))
    (k3 : 0 ≤ (sy_i F 33).toInt → (sy_i F 33).toInt ≤ 400 → ((sy_ai F 39).getD ((sy_i F 33).toInt).toNat 0).toInt = 24 → (sy_i F 33).toInt < 400 → 0 ≤ (((sy_i F 33).toInt + 1) - 1) → (((sy_i F 33).toInt + 1) - 1) ≤ 400 → (sy_i F 83).toInt ≤ (((sy_al F 41).getD ((((sy_i F 33).toInt + 1) - 1)).toNat 0).toInt32).toInt → (sy_i F 84).toInt < (((sy_al F 41).getD ((((sy_i F 33).toInt + 1) - 1)).toNat 0).toInt32).toInt → (sy_i F 36).toInt = 0 → 0 ≤ (((sy_i F 33).toInt + 1) - 1) → (((sy_i F 33).toInt + 1) - 1) ≤ 400 → 0 ≤ (sy_i F 82).toInt → (sy_i F 82).toInt ≤ 2 → ∀ F1 : Nat → sy_d, iv_in F1 iv_B0 → (∀ j, j < 82 → j ∉ ([33, 36, 37, 44] : List Nat) → F1 j = F j) → (sy_i F1 33).toInt = ((sy_i F 33).toInt + 1) → (sy_i F1 34).toInt = (sy_i F 34).toInt → (sy_i F1 36).toInt = 5 → (sy_i F1 37).toInt = ((sy_ai F 40).getD ((((sy_i F 33).toInt + 1) - 1)).toNat 0).toInt → (sy_i F1 38).toInt = (sy_i F 38).toInt → sy_ai F1 39 = sy_ai F 39 → sy_ai F1 40 = sy_ai F 40 → sy_ai F1 44 = jm_upd (sy_ai F 44) ((sy_i F 82).toInt).toNat (((sy_al F 41).getD ((((sy_i F 33).toInt + 1) - 1)).toNat 0).toInt32) → Q (some (.int ((1 : Int32)))) (sy_dh F1 X1 X2 (iv_H 3)))
    (k4 : 0 ≤ (sy_i F 33).toInt → (sy_i F 33).toInt ≤ 400 → ((sy_ai F 39).getD ((sy_i F 33).toInt).toNat 0).toInt = 24 → (sy_i F 33).toInt < 400 → 0 ≤ (((sy_i F 33).toInt + 1) - 1) → (((sy_i F 33).toInt + 1) - 1) ≤ 400 → (sy_i F 83).toInt ≤ (((sy_al F 41).getD ((((sy_i F 33).toInt + 1) - 1)).toNat 0).toInt32).toInt → (((sy_al F 41).getD ((((sy_i F 33).toInt + 1) - 1)).toNat 0).toInt32).toInt ≤ (sy_i F 84).toInt → 0 ≤ (sy_i F 82).toInt → (sy_i F 82).toInt ≤ 2 → ∀ F1 : Nat → sy_d, iv_in F1 iv_B0 → (∀ j, j < 82 → j ∉ ([33, 44] : List Nat) → F1 j = F j) → (sy_i F1 33).toInt = ((sy_i F 33).toInt + 1) → (sy_i F1 34).toInt = (sy_i F 34).toInt → (sy_i F1 36).toInt = (sy_i F 36).toInt → (sy_i F1 37).toInt = (sy_i F 37).toInt → (sy_i F1 38).toInt = (sy_i F 38).toInt → sy_ai F1 39 = sy_ai F 39 → sy_ai F1 40 = sy_ai F 40 → sy_ai F1 44 = jm_upd (sy_ai F 44) ((sy_i F 82).toInt).toNat (((sy_al F 41).getD ((((sy_i F 33).toInt + 1) - 1)).toNat 0).toInt32) → Q (some (.int ((1 : Int32)))) (sy_dh F1 X1 X2 (iv_H 3)))
    (k5 : 0 ≤ (sy_i F 33).toInt → (sy_i F 33).toInt ≤ 400 → ((sy_ai F 39).getD ((sy_i F 33).toInt).toNat 0).toInt = 24 → 400 ≤ (sy_i F 33).toInt → ∀ F1 : Nat → sy_d, iv_in F1 iv_B0 → (∀ j, j < 82 → j ∉ ([34] : List Nat) → F1 j = F j) → (sy_i F1 33).toInt = (sy_i F 33).toInt → (sy_i F1 34).toInt = 2 → (sy_i F1 36).toInt = (sy_i F 36).toInt → (sy_i F1 37).toInt = (sy_i F 37).toInt → (sy_i F1 38).toInt = (sy_i F 38).toInt → sy_ai F1 39 = sy_ai F 39 → sy_ai F1 40 = sy_ai F 40 → sy_ai F1 44 = sy_ai F 44 → Q (some (.int ((0 : Int32)))) (sy_dh F1 X1 X2 (iv_H 3)))
    (k6 : 0 ≤ (sy_i F 33).toInt → (sy_i F 33).toInt ≤ 400 → ((sy_ai F 39).getD ((sy_i F 33).toInt).toNat 0).toInt ≠ 24 → ∀ F1 : Nat → sy_d, iv_in F1 iv_B0 → (∀ j, j < 82 → j ∉ ([34] : List Nat) → F1 j = F j) → (sy_i F1 33).toInt = (sy_i F 33).toInt → (sy_i F1 34).toInt = 1 → (sy_i F1 36).toInt = (sy_i F 36).toInt → (sy_i F1 37).toInt = (sy_i F 37).toInt → (sy_i F1 38).toInt = (sy_i F 38).toInt → sy_ai F1 39 = sy_ai F 39 → sy_ai F1 40 = sy_ai F 40 → sy_ai F1 44 = sy_ai F 44 → Q (some (.int ((0 : Int32)))) (sy_dh F1 X1 X2 (iv_H 3))) :
    hd_W Ls xs d jm_M42 Q (0, sy_dL F [some (.inl (.ref 30)), some (.inr (.inl 82)), some (.inr (.inl 83)), some (.inr (.inl 84)), none], sy_dS F [], sy_dh F X1 X2 (iv_H 3), 0, 0) := by
  by_cases g0 : (sy_i F 33).toInt < 0
  · have c33 := nz_bx hB (k := 33) (lo := 0) (hi := 400) rfl
    exfalso
    omega
  replace g0 : 0 ≤ (sy_i F 33).toInt := by omega
  by_cases g1 : 400 < (sy_i F 33).toInt
  · have c33 := nz_bx hB (k := 33) (lo := 0) (hi := 400) rfl
    exfalso
    omega
  replace g1 : (sy_i F 33).toInt ≤ 400 := by omega
  by_cases g2 : ((sy_ai F 39).getD ((sy_i F 33).toInt).toNat 0).toInt = 24
  · by_cases g3 : (sy_i F 33).toInt < 400
    · by_cases g4 : (((sy_i F 33).toInt + 1) - 1) < 0
      · have c33 := nz_bx hB (k := 33) (lo := 0) (hi := 400) rfl
        have q85 : (sy_ai F 39).getD (sy_i F 33).toNatClampNeg 0 = (sy_ai F 39).getD ((sy_i F 33).toInt).toNat 0 := by simp only [nz_c]
        have n85 : ((sy_ai F 39).getD (sy_i F 33).toNatClampNeg 0).toInt = ((sy_ai F 39).getD ((sy_i F 33).toInt).toNat 0).toInt := congrArg Int32.toInt q85
        have n86 : ((sy_i F 33) + ((1 : Int32))).toInt = ((sy_i F 33).toInt + 1) := nz_add (rfl : (sy_i F 33).toInt = (sy_i F 33).toInt) (by decide : ((1 : Int32)).toInt = 1) (by omega) (by omega)
        have n87 : (((sy_i F 33) + ((1 : Int32))) - ((1 : Int32))).toInt = (((sy_i F 33).toInt + 1) - 1) := nz_sub n86 (by decide : ((1 : Int32)).toInt = 1) (by omega) (by omega)
        exfalso
        omega
      replace g4 : 0 ≤ (((sy_i F 33).toInt + 1) - 1) := by omega
      by_cases g5 : 400 < (((sy_i F 33).toInt + 1) - 1)
      · have c33 := nz_bx hB (k := 33) (lo := 0) (hi := 400) rfl
        have q85 : (sy_ai F 39).getD (sy_i F 33).toNatClampNeg 0 = (sy_ai F 39).getD ((sy_i F 33).toInt).toNat 0 := by simp only [nz_c]
        have n85 : ((sy_ai F 39).getD (sy_i F 33).toNatClampNeg 0).toInt = ((sy_ai F 39).getD ((sy_i F 33).toInt).toNat 0).toInt := congrArg Int32.toInt q85
        have n86 : ((sy_i F 33) + ((1 : Int32))).toInt = ((sy_i F 33).toInt + 1) := nz_add (rfl : (sy_i F 33).toInt = (sy_i F 33).toInt) (by decide : ((1 : Int32)).toInt = 1) (by omega) (by omega)
        have n87 : (((sy_i F 33) + ((1 : Int32))) - ((1 : Int32))).toInt = (((sy_i F 33).toInt + 1) - 1) := nz_sub n86 (by decide : ((1 : Int32)).toInt = 1) (by omega) (by omega)
        exfalso
        omega
      replace g5 : (((sy_i F 33).toInt + 1) - 1) ≤ 400 := by omega
      by_cases g6 : (((sy_al F 41).getD ((((sy_i F 33).toInt + 1) - 1)).toNat 0).toInt32).toInt < (sy_i F 83).toInt
      · by_cases g7 : (sy_i F 36).toInt ≠ 0
        · by_cases g8 : (sy_i F 82).toInt < 0
          · have c33 := nz_bx hB (k := 33) (lo := 0) (hi := 400) rfl
            have q85 : (sy_ai F 39).getD (sy_i F 33).toNatClampNeg 0 = (sy_ai F 39).getD ((sy_i F 33).toInt).toNat 0 := by simp only [nz_c]
            have n85 : ((sy_ai F 39).getD (sy_i F 33).toNatClampNeg 0).toInt = ((sy_ai F 39).getD ((sy_i F 33).toInt).toNat 0).toInt := congrArg Int32.toInt q85
            have n86 : ((sy_i F 33) + ((1 : Int32))).toInt = ((sy_i F 33).toInt + 1) := nz_add (rfl : (sy_i F 33).toInt = (sy_i F 33).toInt) (by decide : ((1 : Int32)).toInt = 1) (by omega) (by omega)
            have n87 : (((sy_i F 33) + ((1 : Int32))) - ((1 : Int32))).toInt = (((sy_i F 33).toInt + 1) - 1) := nz_sub n86 (by decide : ((1 : Int32)).toInt = 1) (by omega) (by omega)
            have q89 : ((sy_al F 41).getD (((sy_i F 33) + ((1 : Int32))) - ((1 : Int32))).toNatClampNeg 0).toInt32 = ((sy_al F 41).getD ((((sy_i F 33).toInt + 1) - 1)).toNat 0).toInt32 := by simp only [nz_c, n86, n87, (by decide : ((1 : Int32)).toInt = 1)]
            have n89 : (((sy_al F 41).getD (((sy_i F 33) + ((1 : Int32))) - ((1 : Int32))).toNatClampNeg 0).toInt32).toInt = (((sy_al F 41).getD ((((sy_i F 33).toInt + 1) - 1)).toNat 0).toInt32).toInt := congrArg Int32.toInt q89
            exfalso
            omega
          replace g8 : 0 ≤ (sy_i F 82).toInt := by omega
          by_cases g9 : 2 < (sy_i F 82).toInt
          · have c33 := nz_bx hB (k := 33) (lo := 0) (hi := 400) rfl
            have q85 : (sy_ai F 39).getD (sy_i F 33).toNatClampNeg 0 = (sy_ai F 39).getD ((sy_i F 33).toInt).toNat 0 := by simp only [nz_c]
            have n85 : ((sy_ai F 39).getD (sy_i F 33).toNatClampNeg 0).toInt = ((sy_ai F 39).getD ((sy_i F 33).toInt).toNat 0).toInt := congrArg Int32.toInt q85
            have n86 : ((sy_i F 33) + ((1 : Int32))).toInt = ((sy_i F 33).toInt + 1) := nz_add (rfl : (sy_i F 33).toInt = (sy_i F 33).toInt) (by decide : ((1 : Int32)).toInt = 1) (by omega) (by omega)
            have n87 : (((sy_i F 33) + ((1 : Int32))) - ((1 : Int32))).toInt = (((sy_i F 33).toInt + 1) - 1) := nz_sub n86 (by decide : ((1 : Int32)).toInt = 1) (by omega) (by omega)
            have q89 : ((sy_al F 41).getD (((sy_i F 33) + ((1 : Int32))) - ((1 : Int32))).toNatClampNeg 0).toInt32 = ((sy_al F 41).getD ((((sy_i F 33).toInt + 1) - 1)).toNat 0).toInt32 := by simp only [nz_c, n86, n87, (by decide : ((1 : Int32)).toInt = 1)]
            have n89 : (((sy_al F 41).getD (((sy_i F 33) + ((1 : Int32))) - ((1 : Int32))).toNatClampNeg 0).toInt32).toInt = (((sy_al F 41).getD ((((sy_i F 33).toInt + 1) - 1)).toNat 0).toInt32).toInt := congrArg Int32.toInt q89
            exfalso
            omega
          replace g9 : (sy_i F 82).toInt ≤ 2 := by omega
          have c33 := nz_bx hB (k := 33) (lo := 0) (hi := 400) rfl
          have q85 : (sy_ai F 39).getD (sy_i F 33).toNatClampNeg 0 = (sy_ai F 39).getD ((sy_i F 33).toInt).toNat 0 := by simp only [nz_c]
          have n85 : ((sy_ai F 39).getD (sy_i F 33).toNatClampNeg 0).toInt = ((sy_ai F 39).getD ((sy_i F 33).toInt).toNat 0).toInt := congrArg Int32.toInt q85
          have n86 : ((sy_i F 33) + ((1 : Int32))).toInt = ((sy_i F 33).toInt + 1) := nz_add (rfl : (sy_i F 33).toInt = (sy_i F 33).toInt) (by decide : ((1 : Int32)).toInt = 1) (by omega) (by omega)
          have n87 : (((sy_i F 33) + ((1 : Int32))) - ((1 : Int32))).toInt = (((sy_i F 33).toInt + 1) - 1) := nz_sub n86 (by decide : ((1 : Int32)).toInt = 1) (by omega) (by omega)
          have q89 : ((sy_al F 41).getD (((sy_i F 33) + ((1 : Int32))) - ((1 : Int32))).toNatClampNeg 0).toInt32 = ((sy_al F 41).getD ((((sy_i F 33).toInt + 1) - 1)).toNat 0).toInt32 := by simp only [nz_c, n86, n87, (by decide : ((1 : Int32)).toInt = 1)]
          have n89 : (((sy_al F 41).getD (((sy_i F 33) + ((1 : Int32))) - ((1 : Int32))).toNatClampNeg 0).toInt32).toInt = (((sy_al F 41).getD ((((sy_i F 33).toInt + 1) - 1)).toNat 0).toInt32).toInt := congrArg Int32.toInt q89
          have w90 : jm_upd (sy_ai F 44) (sy_i F 82).toNatClampNeg (((sy_al F 41).getD (((sy_i F 33) + ((1 : Int32))) - ((1 : Int32))).toNatClampNeg 0).toInt32) = jm_upd (sy_ai F 44) ((sy_i F 82).toInt).toNat (((sy_al F 41).getD ((((sy_i F 33).toInt + 1) - 1)).toNat 0).toInt32) := by simp only [nz_c, n86, n87, (by decide : ((1 : Int32)).toInt = 1)]
          exact k3tn_0_p0 hd F X1 X2 hB (by first | exact g0 | (simp only [nz_c]; exact g0)) (by first | exact g1 | (simp only [nz_c]; exact g1)) (by first | exact ⟨by omega, by omega⟩ | (simp only [nz_c]; exact ⟨by omega, by omega⟩)) (by first | exact g2 | (simp only [nz_c]; exact g2) | (rw [n85]; exact g2)) (by first | exact g3 | (simp only [nz_c]; exact g3)) (by first | exact g4 | (simp only [nz_c, n86, n87]; exact g4) | (rw [n87]; exact g4)) (by first | exact g5 | (simp only [nz_c, n86, n87]; exact g5) | (rw [n87]; exact g5)) (by first | exact ⟨by omega, by omega⟩ | (simp only [nz_c, n86, n87]; exact ⟨by omega, by omega⟩) | (rw [n87]; exact ⟨by omega, by omega⟩)) (by first | exact g6 | (simp only [nz_c, n86, n87]; exact g6) | (rw [n89]; exact g6)) (by first | exact g7 | (simp only [nz_c]; exact g7)) (by first | exact g8 | (simp only [nz_c]; exact g8)) (by first | exact g9 | (simp only [nz_c]; exact g9)) (by first | exact ⟨by omega, by omega⟩ | (simp only [nz_c]; exact ⟨by omega, by omega⟩)) (fun F1 g e33 e44 => k0 g0 g1 g2 g3 g4 g5 g6 g7 g8 g9 F1 (nz_in0 hB [33, 44] (fun j hj hn => g j hj (by simp only [List.mem_cons, List.not_mem_nil, or_false, not_or] at hn; omega)) (List.forall_mem_cons.mpr ⟨fun t ht => (Option.some.inj ht) ▸ (nz_hi e33 n86 (by omega) (by omega)), List.forall_mem_cons.mpr ⟨fun t ht => (Option.some.inj ht) ▸ (nz_hz2 e44), List.forall_mem_nil _⟩⟩)) (fun j hj hn => g j hj (by simp only [List.mem_cons, List.not_mem_nil, or_false, not_or] at hn; omega)) ((congrArg Int32.toInt (zz_i e33)).trans n86) (nz_fi (g 34 (by decide) (by decide))) (nz_fi (g 36 (by decide) (by decide))) (nz_fi (g 37 (by decide) (by decide))) (nz_fi (g 38 (by decide) (by decide))) (nz_fa (g 39 (by decide) (by decide))) (nz_fa (g 40 (by decide) (by decide))) ((zz_ai e44).trans w90))
        replace g7 : (sy_i F 36).toInt = 0 := by omega
        by_cases g8 : (((sy_i F 33).toInt + 1) - 1) < 0
        · have c33 := nz_bx hB (k := 33) (lo := 0) (hi := 400) rfl
          have q85 : (sy_ai F 39).getD (sy_i F 33).toNatClampNeg 0 = (sy_ai F 39).getD ((sy_i F 33).toInt).toNat 0 := by simp only [nz_c]
          have n85 : ((sy_ai F 39).getD (sy_i F 33).toNatClampNeg 0).toInt = ((sy_ai F 39).getD ((sy_i F 33).toInt).toNat 0).toInt := congrArg Int32.toInt q85
          have n86 : ((sy_i F 33) + ((1 : Int32))).toInt = ((sy_i F 33).toInt + 1) := nz_add (rfl : (sy_i F 33).toInt = (sy_i F 33).toInt) (by decide : ((1 : Int32)).toInt = 1) (by omega) (by omega)
          have n87 : (((sy_i F 33) + ((1 : Int32))) - ((1 : Int32))).toInt = (((sy_i F 33).toInt + 1) - 1) := nz_sub n86 (by decide : ((1 : Int32)).toInt = 1) (by omega) (by omega)
          have q89 : ((sy_al F 41).getD (((sy_i F 33) + ((1 : Int32))) - ((1 : Int32))).toNatClampNeg 0).toInt32 = ((sy_al F 41).getD ((((sy_i F 33).toInt + 1) - 1)).toNat 0).toInt32 := by simp only [nz_c, n86, n87, (by decide : ((1 : Int32)).toInt = 1)]
          have n89 : (((sy_al F 41).getD (((sy_i F 33) + ((1 : Int32))) - ((1 : Int32))).toNatClampNeg 0).toInt32).toInt = (((sy_al F 41).getD ((((sy_i F 33).toInt + 1) - 1)).toNat 0).toInt32).toInt := congrArg Int32.toInt q89
          have n90 : (((sy_i F 33) + ((1 : Int32))) - ((1 : Int32))).toInt = (((sy_i F 33).toInt + 1) - 1) := nz_sub n86 (by decide : ((1 : Int32)).toInt = 1) (by omega) (by omega)
          exfalso
          omega
        replace g8 : 0 ≤ (((sy_i F 33).toInt + 1) - 1) := by omega
        by_cases g9 : 400 < (((sy_i F 33).toInt + 1) - 1)
        · have c33 := nz_bx hB (k := 33) (lo := 0) (hi := 400) rfl
          have q85 : (sy_ai F 39).getD (sy_i F 33).toNatClampNeg 0 = (sy_ai F 39).getD ((sy_i F 33).toInt).toNat 0 := by simp only [nz_c]
          have n85 : ((sy_ai F 39).getD (sy_i F 33).toNatClampNeg 0).toInt = ((sy_ai F 39).getD ((sy_i F 33).toInt).toNat 0).toInt := congrArg Int32.toInt q85
          have n86 : ((sy_i F 33) + ((1 : Int32))).toInt = ((sy_i F 33).toInt + 1) := nz_add (rfl : (sy_i F 33).toInt = (sy_i F 33).toInt) (by decide : ((1 : Int32)).toInt = 1) (by omega) (by omega)
          have n87 : (((sy_i F 33) + ((1 : Int32))) - ((1 : Int32))).toInt = (((sy_i F 33).toInt + 1) - 1) := nz_sub n86 (by decide : ((1 : Int32)).toInt = 1) (by omega) (by omega)
          have q89 : ((sy_al F 41).getD (((sy_i F 33) + ((1 : Int32))) - ((1 : Int32))).toNatClampNeg 0).toInt32 = ((sy_al F 41).getD ((((sy_i F 33).toInt + 1) - 1)).toNat 0).toInt32 := by simp only [nz_c, n86, n87, (by decide : ((1 : Int32)).toInt = 1)]
          have n89 : (((sy_al F 41).getD (((sy_i F 33) + ((1 : Int32))) - ((1 : Int32))).toNatClampNeg 0).toInt32).toInt = (((sy_al F 41).getD ((((sy_i F 33).toInt + 1) - 1)).toNat 0).toInt32).toInt := congrArg Int32.toInt q89
          have n90 : (((sy_i F 33) + ((1 : Int32))) - ((1 : Int32))).toInt = (((sy_i F 33).toInt + 1) - 1) := nz_sub n86 (by decide : ((1 : Int32)).toInt = 1) (by omega) (by omega)
          exfalso
          omega
        replace g9 : (((sy_i F 33).toInt + 1) - 1) ≤ 400 := by omega
        by_cases g10 : (sy_i F 82).toInt < 0
        · have c33 := nz_bx hB (k := 33) (lo := 0) (hi := 400) rfl
          have q85 : (sy_ai F 39).getD (sy_i F 33).toNatClampNeg 0 = (sy_ai F 39).getD ((sy_i F 33).toInt).toNat 0 := by simp only [nz_c]
          have n85 : ((sy_ai F 39).getD (sy_i F 33).toNatClampNeg 0).toInt = ((sy_ai F 39).getD ((sy_i F 33).toInt).toNat 0).toInt := congrArg Int32.toInt q85
          have n86 : ((sy_i F 33) + ((1 : Int32))).toInt = ((sy_i F 33).toInt + 1) := nz_add (rfl : (sy_i F 33).toInt = (sy_i F 33).toInt) (by decide : ((1 : Int32)).toInt = 1) (by omega) (by omega)
          have n87 : (((sy_i F 33) + ((1 : Int32))) - ((1 : Int32))).toInt = (((sy_i F 33).toInt + 1) - 1) := nz_sub n86 (by decide : ((1 : Int32)).toInt = 1) (by omega) (by omega)
          have q89 : ((sy_al F 41).getD (((sy_i F 33) + ((1 : Int32))) - ((1 : Int32))).toNatClampNeg 0).toInt32 = ((sy_al F 41).getD ((((sy_i F 33).toInt + 1) - 1)).toNat 0).toInt32 := by simp only [nz_c, n86, n87, (by decide : ((1 : Int32)).toInt = 1)]
          have n89 : (((sy_al F 41).getD (((sy_i F 33) + ((1 : Int32))) - ((1 : Int32))).toNatClampNeg 0).toInt32).toInt = (((sy_al F 41).getD ((((sy_i F 33).toInt + 1) - 1)).toNat 0).toInt32).toInt := congrArg Int32.toInt q89
          have n90 : (((sy_i F 33) + ((1 : Int32))) - ((1 : Int32))).toInt = (((sy_i F 33).toInt + 1) - 1) := nz_sub n86 (by decide : ((1 : Int32)).toInt = 1) (by omega) (by omega)
          exfalso
          omega
        replace g10 : 0 ≤ (sy_i F 82).toInt := by omega
        by_cases g11 : 2 < (sy_i F 82).toInt
        · have c33 := nz_bx hB (k := 33) (lo := 0) (hi := 400) rfl
          have q85 : (sy_ai F 39).getD (sy_i F 33).toNatClampNeg 0 = (sy_ai F 39).getD ((sy_i F 33).toInt).toNat 0 := by simp only [nz_c]
          have n85 : ((sy_ai F 39).getD (sy_i F 33).toNatClampNeg 0).toInt = ((sy_ai F 39).getD ((sy_i F 33).toInt).toNat 0).toInt := congrArg Int32.toInt q85
          have n86 : ((sy_i F 33) + ((1 : Int32))).toInt = ((sy_i F 33).toInt + 1) := nz_add (rfl : (sy_i F 33).toInt = (sy_i F 33).toInt) (by decide : ((1 : Int32)).toInt = 1) (by omega) (by omega)
          have n87 : (((sy_i F 33) + ((1 : Int32))) - ((1 : Int32))).toInt = (((sy_i F 33).toInt + 1) - 1) := nz_sub n86 (by decide : ((1 : Int32)).toInt = 1) (by omega) (by omega)
          have q89 : ((sy_al F 41).getD (((sy_i F 33) + ((1 : Int32))) - ((1 : Int32))).toNatClampNeg 0).toInt32 = ((sy_al F 41).getD ((((sy_i F 33).toInt + 1) - 1)).toNat 0).toInt32 := by simp only [nz_c, n86, n87, (by decide : ((1 : Int32)).toInt = 1)]
          have n89 : (((sy_al F 41).getD (((sy_i F 33) + ((1 : Int32))) - ((1 : Int32))).toNatClampNeg 0).toInt32).toInt = (((sy_al F 41).getD ((((sy_i F 33).toInt + 1) - 1)).toNat 0).toInt32).toInt := congrArg Int32.toInt q89
          have n90 : (((sy_i F 33) + ((1 : Int32))) - ((1 : Int32))).toInt = (((sy_i F 33).toInt + 1) - 1) := nz_sub n86 (by decide : ((1 : Int32)).toInt = 1) (by omega) (by omega)
          exfalso
          omega
        replace g11 : (sy_i F 82).toInt ≤ 2 := by omega
        have c33 := nz_bx hB (k := 33) (lo := 0) (hi := 400) rfl
        have q85 : (sy_ai F 39).getD (sy_i F 33).toNatClampNeg 0 = (sy_ai F 39).getD ((sy_i F 33).toInt).toNat 0 := by simp only [nz_c]
        have n85 : ((sy_ai F 39).getD (sy_i F 33).toNatClampNeg 0).toInt = ((sy_ai F 39).getD ((sy_i F 33).toInt).toNat 0).toInt := congrArg Int32.toInt q85
        have n86 : ((sy_i F 33) + ((1 : Int32))).toInt = ((sy_i F 33).toInt + 1) := nz_add (rfl : (sy_i F 33).toInt = (sy_i F 33).toInt) (by decide : ((1 : Int32)).toInt = 1) (by omega) (by omega)
        have n87 : (((sy_i F 33) + ((1 : Int32))) - ((1 : Int32))).toInt = (((sy_i F 33).toInt + 1) - 1) := nz_sub n86 (by decide : ((1 : Int32)).toInt = 1) (by omega) (by omega)
        have q89 : ((sy_al F 41).getD (((sy_i F 33) + ((1 : Int32))) - ((1 : Int32))).toNatClampNeg 0).toInt32 = ((sy_al F 41).getD ((((sy_i F 33).toInt + 1) - 1)).toNat 0).toInt32 := by simp only [nz_c, n86, n87, (by decide : ((1 : Int32)).toInt = 1)]
        have n89 : (((sy_al F 41).getD (((sy_i F 33) + ((1 : Int32))) - ((1 : Int32))).toNatClampNeg 0).toInt32).toInt = (((sy_al F 41).getD ((((sy_i F 33).toInt + 1) - 1)).toNat 0).toInt32).toInt := congrArg Int32.toInt q89
        have n90 : (((sy_i F 33) + ((1 : Int32))) - ((1 : Int32))).toInt = (((sy_i F 33).toInt + 1) - 1) := nz_sub n86 (by decide : ((1 : Int32)).toInt = 1) (by omega) (by omega)
        have q91 : (sy_ai F 40).getD (((sy_i F 33) + ((1 : Int32))) - ((1 : Int32))).toNatClampNeg 0 = (sy_ai F 40).getD ((((sy_i F 33).toInt + 1) - 1)).toNat 0 := by simp only [nz_c, n86, n90, (by decide : ((1 : Int32)).toInt = 1)]
        have n91 : ((sy_ai F 40).getD (((sy_i F 33) + ((1 : Int32))) - ((1 : Int32))).toNatClampNeg 0).toInt = ((sy_ai F 40).getD ((((sy_i F 33).toInt + 1) - 1)).toNat 0).toInt := congrArg Int32.toInt q91
        have w92 : jm_upd (sy_ai F 44) (sy_i F 82).toNatClampNeg (((sy_al F 41).getD (((sy_i F 33) + ((1 : Int32))) - ((1 : Int32))).toNatClampNeg 0).toInt32) = jm_upd (sy_ai F 44) ((sy_i F 82).toInt).toNat (((sy_al F 41).getD ((((sy_i F 33).toInt + 1) - 1)).toNat 0).toInt32) := by simp only [nz_c, n86, n87, (by decide : ((1 : Int32)).toInt = 1)]
        exact k3tn_0_p1 hd F X1 X2 hB (by first | exact g0 | (simp only [nz_c]; exact g0)) (by first | exact g1 | (simp only [nz_c]; exact g1)) (by first | exact ⟨by omega, by omega⟩ | (simp only [nz_c]; exact ⟨by omega, by omega⟩)) (by first | exact g2 | (simp only [nz_c]; exact g2) | (rw [n85]; exact g2)) (by first | exact g3 | (simp only [nz_c]; exact g3)) (by first | exact g4 | (simp only [nz_c, n86, n87]; exact g4) | (rw [n87]; exact g4)) (by first | exact g5 | (simp only [nz_c, n86, n87]; exact g5) | (rw [n87]; exact g5)) (by first | exact ⟨by omega, by omega⟩ | (simp only [nz_c, n86, n87]; exact ⟨by omega, by omega⟩) | (rw [n87]; exact ⟨by omega, by omega⟩)) (by first | exact g6 | (simp only [nz_c, n86, n87]; exact g6) | (rw [n89]; exact g6)) (by first | exact g7 | (simp only [nz_c]; exact g7)) (by first | exact g8 | (simp only [nz_c, n86, n90]; exact g8) | (rw [n90]; exact g8)) (by first | exact g9 | (simp only [nz_c, n86, n90]; exact g9) | (rw [n90]; exact g9)) (by first | exact ⟨by omega, by omega⟩ | (simp only [nz_c, n86, n90]; exact ⟨by omega, by omega⟩) | (rw [n90]; exact ⟨by omega, by omega⟩)) (by first | exact g10 | (simp only [nz_c]; exact g10)) (by first | exact g11 | (simp only [nz_c]; exact g11)) (by first | exact ⟨by omega, by omega⟩ | (simp only [nz_c]; exact ⟨by omega, by omega⟩)) (fun F1 g e33 e36 e37 e44 => k1 g0 g1 g2 g3 g4 g5 g6 g7 g8 g9 g10 g11 F1 (nz_in0 hB [33, 36, 37, 44] (fun j hj hn => g j hj (by simp only [List.mem_cons, List.not_mem_nil, or_false, not_or] at hn; omega)) (List.forall_mem_cons.mpr ⟨fun t ht => (Option.some.inj ht) ▸ (nz_hi e33 n86 (by omega) (by omega)), List.forall_mem_cons.mpr ⟨fun t ht => (Option.some.inj ht) ▸ (nz_hz e36), List.forall_mem_cons.mpr ⟨fun t ht => (Option.some.inj ht) ▸ (nz_hz e37), List.forall_mem_cons.mpr ⟨fun t ht => (Option.some.inj ht) ▸ (nz_hz2 e44), List.forall_mem_nil _⟩⟩⟩⟩)) (fun j hj hn => g j hj (by simp only [List.mem_cons, List.not_mem_nil, or_false, not_or] at hn; omega)) ((congrArg Int32.toInt (zz_i e33)).trans n86) (nz_fi (g 34 (by decide) (by decide))) ((congrArg Int32.toInt (zz_i e36)).trans (by decide : ((5 : Int32)).toInt = 5)) ((congrArg Int32.toInt (zz_i e37)).trans n91) (nz_fi (g 38 (by decide) (by decide))) (nz_fa (g 39 (by decide) (by decide))) (nz_fa (g 40 (by decide) (by decide))) ((zz_ai e44).trans w92))
      replace g6 : (sy_i F 83).toInt ≤ (((sy_al F 41).getD ((((sy_i F 33).toInt + 1) - 1)).toNat 0).toInt32).toInt := by omega
      by_cases g7 : (sy_i F 84).toInt < (((sy_al F 41).getD ((((sy_i F 33).toInt + 1) - 1)).toNat 0).toInt32).toInt
      · by_cases g8 : (sy_i F 36).toInt ≠ 0
        · by_cases g9 : (sy_i F 82).toInt < 0
          · have c33 := nz_bx hB (k := 33) (lo := 0) (hi := 400) rfl
            have q85 : (sy_ai F 39).getD (sy_i F 33).toNatClampNeg 0 = (sy_ai F 39).getD ((sy_i F 33).toInt).toNat 0 := by simp only [nz_c]
            have n85 : ((sy_ai F 39).getD (sy_i F 33).toNatClampNeg 0).toInt = ((sy_ai F 39).getD ((sy_i F 33).toInt).toNat 0).toInt := congrArg Int32.toInt q85
            have n86 : ((sy_i F 33) + ((1 : Int32))).toInt = ((sy_i F 33).toInt + 1) := nz_add (rfl : (sy_i F 33).toInt = (sy_i F 33).toInt) (by decide : ((1 : Int32)).toInt = 1) (by omega) (by omega)
            have n87 : (((sy_i F 33) + ((1 : Int32))) - ((1 : Int32))).toInt = (((sy_i F 33).toInt + 1) - 1) := nz_sub n86 (by decide : ((1 : Int32)).toInt = 1) (by omega) (by omega)
            have q89 : ((sy_al F 41).getD (((sy_i F 33) + ((1 : Int32))) - ((1 : Int32))).toNatClampNeg 0).toInt32 = ((sy_al F 41).getD ((((sy_i F 33).toInt + 1) - 1)).toNat 0).toInt32 := by simp only [nz_c, n86, n87, (by decide : ((1 : Int32)).toInt = 1)]
            have n89 : (((sy_al F 41).getD (((sy_i F 33) + ((1 : Int32))) - ((1 : Int32))).toNatClampNeg 0).toInt32).toInt = (((sy_al F 41).getD ((((sy_i F 33).toInt + 1) - 1)).toNat 0).toInt32).toInt := congrArg Int32.toInt q89
            exfalso
            omega
          replace g9 : 0 ≤ (sy_i F 82).toInt := by omega
          by_cases g10 : 2 < (sy_i F 82).toInt
          · have c33 := nz_bx hB (k := 33) (lo := 0) (hi := 400) rfl
            have q85 : (sy_ai F 39).getD (sy_i F 33).toNatClampNeg 0 = (sy_ai F 39).getD ((sy_i F 33).toInt).toNat 0 := by simp only [nz_c]
            have n85 : ((sy_ai F 39).getD (sy_i F 33).toNatClampNeg 0).toInt = ((sy_ai F 39).getD ((sy_i F 33).toInt).toNat 0).toInt := congrArg Int32.toInt q85
            have n86 : ((sy_i F 33) + ((1 : Int32))).toInt = ((sy_i F 33).toInt + 1) := nz_add (rfl : (sy_i F 33).toInt = (sy_i F 33).toInt) (by decide : ((1 : Int32)).toInt = 1) (by omega) (by omega)
            have n87 : (((sy_i F 33) + ((1 : Int32))) - ((1 : Int32))).toInt = (((sy_i F 33).toInt + 1) - 1) := nz_sub n86 (by decide : ((1 : Int32)).toInt = 1) (by omega) (by omega)
            have q89 : ((sy_al F 41).getD (((sy_i F 33) + ((1 : Int32))) - ((1 : Int32))).toNatClampNeg 0).toInt32 = ((sy_al F 41).getD ((((sy_i F 33).toInt + 1) - 1)).toNat 0).toInt32 := by simp only [nz_c, n86, n87, (by decide : ((1 : Int32)).toInt = 1)]
            have n89 : (((sy_al F 41).getD (((sy_i F 33) + ((1 : Int32))) - ((1 : Int32))).toNatClampNeg 0).toInt32).toInt = (((sy_al F 41).getD ((((sy_i F 33).toInt + 1) - 1)).toNat 0).toInt32).toInt := congrArg Int32.toInt q89
            exfalso
            omega
          replace g10 : (sy_i F 82).toInt ≤ 2 := by omega
          have c33 := nz_bx hB (k := 33) (lo := 0) (hi := 400) rfl
          have q85 : (sy_ai F 39).getD (sy_i F 33).toNatClampNeg 0 = (sy_ai F 39).getD ((sy_i F 33).toInt).toNat 0 := by simp only [nz_c]
          have n85 : ((sy_ai F 39).getD (sy_i F 33).toNatClampNeg 0).toInt = ((sy_ai F 39).getD ((sy_i F 33).toInt).toNat 0).toInt := congrArg Int32.toInt q85
          have n86 : ((sy_i F 33) + ((1 : Int32))).toInt = ((sy_i F 33).toInt + 1) := nz_add (rfl : (sy_i F 33).toInt = (sy_i F 33).toInt) (by decide : ((1 : Int32)).toInt = 1) (by omega) (by omega)
          have n87 : (((sy_i F 33) + ((1 : Int32))) - ((1 : Int32))).toInt = (((sy_i F 33).toInt + 1) - 1) := nz_sub n86 (by decide : ((1 : Int32)).toInt = 1) (by omega) (by omega)
          have q89 : ((sy_al F 41).getD (((sy_i F 33) + ((1 : Int32))) - ((1 : Int32))).toNatClampNeg 0).toInt32 = ((sy_al F 41).getD ((((sy_i F 33).toInt + 1) - 1)).toNat 0).toInt32 := by simp only [nz_c, n86, n87, (by decide : ((1 : Int32)).toInt = 1)]
          have n89 : (((sy_al F 41).getD (((sy_i F 33) + ((1 : Int32))) - ((1 : Int32))).toNatClampNeg 0).toInt32).toInt = (((sy_al F 41).getD ((((sy_i F 33).toInt + 1) - 1)).toNat 0).toInt32).toInt := congrArg Int32.toInt q89
          have w90 : jm_upd (sy_ai F 44) (sy_i F 82).toNatClampNeg (((sy_al F 41).getD (((sy_i F 33) + ((1 : Int32))) - ((1 : Int32))).toNatClampNeg 0).toInt32) = jm_upd (sy_ai F 44) ((sy_i F 82).toInt).toNat (((sy_al F 41).getD ((((sy_i F 33).toInt + 1) - 1)).toNat 0).toInt32) := by simp only [nz_c, n86, n87, (by decide : ((1 : Int32)).toInt = 1)]
          exact k3tn_0_p2 hd F X1 X2 hB (by first | exact g0 | (simp only [nz_c]; exact g0)) (by first | exact g1 | (simp only [nz_c]; exact g1)) (by first | exact ⟨by omega, by omega⟩ | (simp only [nz_c]; exact ⟨by omega, by omega⟩)) (by first | exact g2 | (simp only [nz_c]; exact g2) | (rw [n85]; exact g2)) (by first | exact g3 | (simp only [nz_c]; exact g3)) (by first | exact g4 | (simp only [nz_c, n86, n87]; exact g4) | (rw [n87]; exact g4)) (by first | exact g5 | (simp only [nz_c, n86, n87]; exact g5) | (rw [n87]; exact g5)) (by first | exact ⟨by omega, by omega⟩ | (simp only [nz_c, n86, n87]; exact ⟨by omega, by omega⟩) | (rw [n87]; exact ⟨by omega, by omega⟩)) (by first | exact g6 | (simp only [nz_c, n86, n87]; exact g6) | (rw [n89]; exact g6)) (by first | exact g7 | (simp only [nz_c, n86, n87]; exact g7) | (rw [n89]; exact g7)) (by first | exact g8 | (simp only [nz_c]; exact g8)) (by first | exact g9 | (simp only [nz_c]; exact g9)) (by first | exact g10 | (simp only [nz_c]; exact g10)) (by first | exact ⟨by omega, by omega⟩ | (simp only [nz_c]; exact ⟨by omega, by omega⟩)) (fun F1 g e33 e44 => k2 g0 g1 g2 g3 g4 g5 g6 g7 g8 g9 g10 F1 (nz_in0 hB [33, 44] (fun j hj hn => g j hj (by simp only [List.mem_cons, List.not_mem_nil, or_false, not_or] at hn; omega)) (List.forall_mem_cons.mpr ⟨fun t ht => (Option.some.inj ht) ▸ (nz_hi e33 n86 (by omega) (by omega)), List.forall_mem_cons.mpr ⟨fun t ht => (Option.some.inj ht) ▸ (nz_hz2 e44), List.forall_mem_nil _⟩⟩)) (fun j hj hn => g j hj (by simp only [List.mem_cons, List.not_mem_nil, or_false, not_or] at hn; omega)) ((congrArg Int32.toInt (zz_i e33)).trans n86) (nz_fi (g 34 (by decide) (by decide))) (nz_fi (g 36 (by decide) (by decide))) (nz_fi (g 37 (by decide) (by decide))) (nz_fi (g 38 (by decide) (by decide))) (nz_fa (g 39 (by decide) (by decide))) (nz_fa (g 40 (by decide) (by decide))) ((zz_ai e44).trans w90))
        replace g8 : (sy_i F 36).toInt = 0 := by omega
        by_cases g9 : (((sy_i F 33).toInt + 1) - 1) < 0
        · have c33 := nz_bx hB (k := 33) (lo := 0) (hi := 400) rfl
          have q85 : (sy_ai F 39).getD (sy_i F 33).toNatClampNeg 0 = (sy_ai F 39).getD ((sy_i F 33).toInt).toNat 0 := by simp only [nz_c]
          have n85 : ((sy_ai F 39).getD (sy_i F 33).toNatClampNeg 0).toInt = ((sy_ai F 39).getD ((sy_i F 33).toInt).toNat 0).toInt := congrArg Int32.toInt q85
          have n86 : ((sy_i F 33) + ((1 : Int32))).toInt = ((sy_i F 33).toInt + 1) := nz_add (rfl : (sy_i F 33).toInt = (sy_i F 33).toInt) (by decide : ((1 : Int32)).toInt = 1) (by omega) (by omega)
          have n87 : (((sy_i F 33) + ((1 : Int32))) - ((1 : Int32))).toInt = (((sy_i F 33).toInt + 1) - 1) := nz_sub n86 (by decide : ((1 : Int32)).toInt = 1) (by omega) (by omega)
          have q89 : ((sy_al F 41).getD (((sy_i F 33) + ((1 : Int32))) - ((1 : Int32))).toNatClampNeg 0).toInt32 = ((sy_al F 41).getD ((((sy_i F 33).toInt + 1) - 1)).toNat 0).toInt32 := by simp only [nz_c, n86, n87, (by decide : ((1 : Int32)).toInt = 1)]
          have n89 : (((sy_al F 41).getD (((sy_i F 33) + ((1 : Int32))) - ((1 : Int32))).toNatClampNeg 0).toInt32).toInt = (((sy_al F 41).getD ((((sy_i F 33).toInt + 1) - 1)).toNat 0).toInt32).toInt := congrArg Int32.toInt q89
          have n90 : (((sy_i F 33) + ((1 : Int32))) - ((1 : Int32))).toInt = (((sy_i F 33).toInt + 1) - 1) := nz_sub n86 (by decide : ((1 : Int32)).toInt = 1) (by omega) (by omega)
          exfalso
          omega
        replace g9 : 0 ≤ (((sy_i F 33).toInt + 1) - 1) := by omega
        by_cases g10 : 400 < (((sy_i F 33).toInt + 1) - 1)
        · have c33 := nz_bx hB (k := 33) (lo := 0) (hi := 400) rfl
          have q85 : (sy_ai F 39).getD (sy_i F 33).toNatClampNeg 0 = (sy_ai F 39).getD ((sy_i F 33).toInt).toNat 0 := by simp only [nz_c]
          have n85 : ((sy_ai F 39).getD (sy_i F 33).toNatClampNeg 0).toInt = ((sy_ai F 39).getD ((sy_i F 33).toInt).toNat 0).toInt := congrArg Int32.toInt q85
          have n86 : ((sy_i F 33) + ((1 : Int32))).toInt = ((sy_i F 33).toInt + 1) := nz_add (rfl : (sy_i F 33).toInt = (sy_i F 33).toInt) (by decide : ((1 : Int32)).toInt = 1) (by omega) (by omega)
          have n87 : (((sy_i F 33) + ((1 : Int32))) - ((1 : Int32))).toInt = (((sy_i F 33).toInt + 1) - 1) := nz_sub n86 (by decide : ((1 : Int32)).toInt = 1) (by omega) (by omega)
          have q89 : ((sy_al F 41).getD (((sy_i F 33) + ((1 : Int32))) - ((1 : Int32))).toNatClampNeg 0).toInt32 = ((sy_al F 41).getD ((((sy_i F 33).toInt + 1) - 1)).toNat 0).toInt32 := by simp only [nz_c, n86, n87, (by decide : ((1 : Int32)).toInt = 1)]
          have n89 : (((sy_al F 41).getD (((sy_i F 33) + ((1 : Int32))) - ((1 : Int32))).toNatClampNeg 0).toInt32).toInt = (((sy_al F 41).getD ((((sy_i F 33).toInt + 1) - 1)).toNat 0).toInt32).toInt := congrArg Int32.toInt q89
          have n90 : (((sy_i F 33) + ((1 : Int32))) - ((1 : Int32))).toInt = (((sy_i F 33).toInt + 1) - 1) := nz_sub n86 (by decide : ((1 : Int32)).toInt = 1) (by omega) (by omega)
          exfalso
          omega
        replace g10 : (((sy_i F 33).toInt + 1) - 1) ≤ 400 := by omega
        by_cases g11 : (sy_i F 82).toInt < 0
        · have c33 := nz_bx hB (k := 33) (lo := 0) (hi := 400) rfl
          have q85 : (sy_ai F 39).getD (sy_i F 33).toNatClampNeg 0 = (sy_ai F 39).getD ((sy_i F 33).toInt).toNat 0 := by simp only [nz_c]
          have n85 : ((sy_ai F 39).getD (sy_i F 33).toNatClampNeg 0).toInt = ((sy_ai F 39).getD ((sy_i F 33).toInt).toNat 0).toInt := congrArg Int32.toInt q85
          have n86 : ((sy_i F 33) + ((1 : Int32))).toInt = ((sy_i F 33).toInt + 1) := nz_add (rfl : (sy_i F 33).toInt = (sy_i F 33).toInt) (by decide : ((1 : Int32)).toInt = 1) (by omega) (by omega)
          have n87 : (((sy_i F 33) + ((1 : Int32))) - ((1 : Int32))).toInt = (((sy_i F 33).toInt + 1) - 1) := nz_sub n86 (by decide : ((1 : Int32)).toInt = 1) (by omega) (by omega)
          have q89 : ((sy_al F 41).getD (((sy_i F 33) + ((1 : Int32))) - ((1 : Int32))).toNatClampNeg 0).toInt32 = ((sy_al F 41).getD ((((sy_i F 33).toInt + 1) - 1)).toNat 0).toInt32 := by simp only [nz_c, n86, n87, (by decide : ((1 : Int32)).toInt = 1)]
          have n89 : (((sy_al F 41).getD (((sy_i F 33) + ((1 : Int32))) - ((1 : Int32))).toNatClampNeg 0).toInt32).toInt = (((sy_al F 41).getD ((((sy_i F 33).toInt + 1) - 1)).toNat 0).toInt32).toInt := congrArg Int32.toInt q89
          have n90 : (((sy_i F 33) + ((1 : Int32))) - ((1 : Int32))).toInt = (((sy_i F 33).toInt + 1) - 1) := nz_sub n86 (by decide : ((1 : Int32)).toInt = 1) (by omega) (by omega)
          exfalso
          omega
        replace g11 : 0 ≤ (sy_i F 82).toInt := by omega
        by_cases g12 : 2 < (sy_i F 82).toInt
        · have c33 := nz_bx hB (k := 33) (lo := 0) (hi := 400) rfl
          have q85 : (sy_ai F 39).getD (sy_i F 33).toNatClampNeg 0 = (sy_ai F 39).getD ((sy_i F 33).toInt).toNat 0 := by simp only [nz_c]
          have n85 : ((sy_ai F 39).getD (sy_i F 33).toNatClampNeg 0).toInt = ((sy_ai F 39).getD ((sy_i F 33).toInt).toNat 0).toInt := congrArg Int32.toInt q85
          have n86 : ((sy_i F 33) + ((1 : Int32))).toInt = ((sy_i F 33).toInt + 1) := nz_add (rfl : (sy_i F 33).toInt = (sy_i F 33).toInt) (by decide : ((1 : Int32)).toInt = 1) (by omega) (by omega)
          have n87 : (((sy_i F 33) + ((1 : Int32))) - ((1 : Int32))).toInt = (((sy_i F 33).toInt + 1) - 1) := nz_sub n86 (by decide : ((1 : Int32)).toInt = 1) (by omega) (by omega)
          have q89 : ((sy_al F 41).getD (((sy_i F 33) + ((1 : Int32))) - ((1 : Int32))).toNatClampNeg 0).toInt32 = ((sy_al F 41).getD ((((sy_i F 33).toInt + 1) - 1)).toNat 0).toInt32 := by simp only [nz_c, n86, n87, (by decide : ((1 : Int32)).toInt = 1)]
          have n89 : (((sy_al F 41).getD (((sy_i F 33) + ((1 : Int32))) - ((1 : Int32))).toNatClampNeg 0).toInt32).toInt = (((sy_al F 41).getD ((((sy_i F 33).toInt + 1) - 1)).toNat 0).toInt32).toInt := congrArg Int32.toInt q89
          have n90 : (((sy_i F 33) + ((1 : Int32))) - ((1 : Int32))).toInt = (((sy_i F 33).toInt + 1) - 1) := nz_sub n86 (by decide : ((1 : Int32)).toInt = 1) (by omega) (by omega)
          exfalso
          omega
        replace g12 : (sy_i F 82).toInt ≤ 2 := by omega
        have c33 := nz_bx hB (k := 33) (lo := 0) (hi := 400) rfl
        have q85 : (sy_ai F 39).getD (sy_i F 33).toNatClampNeg 0 = (sy_ai F 39).getD ((sy_i F 33).toInt).toNat 0 := by simp only [nz_c]
        have n85 : ((sy_ai F 39).getD (sy_i F 33).toNatClampNeg 0).toInt = ((sy_ai F 39).getD ((sy_i F 33).toInt).toNat 0).toInt := congrArg Int32.toInt q85
        have n86 : ((sy_i F 33) + ((1 : Int32))).toInt = ((sy_i F 33).toInt + 1) := nz_add (rfl : (sy_i F 33).toInt = (sy_i F 33).toInt) (by decide : ((1 : Int32)).toInt = 1) (by omega) (by omega)
        have n87 : (((sy_i F 33) + ((1 : Int32))) - ((1 : Int32))).toInt = (((sy_i F 33).toInt + 1) - 1) := nz_sub n86 (by decide : ((1 : Int32)).toInt = 1) (by omega) (by omega)
        have q89 : ((sy_al F 41).getD (((sy_i F 33) + ((1 : Int32))) - ((1 : Int32))).toNatClampNeg 0).toInt32 = ((sy_al F 41).getD ((((sy_i F 33).toInt + 1) - 1)).toNat 0).toInt32 := by simp only [nz_c, n86, n87, (by decide : ((1 : Int32)).toInt = 1)]
        have n89 : (((sy_al F 41).getD (((sy_i F 33) + ((1 : Int32))) - ((1 : Int32))).toNatClampNeg 0).toInt32).toInt = (((sy_al F 41).getD ((((sy_i F 33).toInt + 1) - 1)).toNat 0).toInt32).toInt := congrArg Int32.toInt q89
        have n90 : (((sy_i F 33) + ((1 : Int32))) - ((1 : Int32))).toInt = (((sy_i F 33).toInt + 1) - 1) := nz_sub n86 (by decide : ((1 : Int32)).toInt = 1) (by omega) (by omega)
        have q91 : (sy_ai F 40).getD (((sy_i F 33) + ((1 : Int32))) - ((1 : Int32))).toNatClampNeg 0 = (sy_ai F 40).getD ((((sy_i F 33).toInt + 1) - 1)).toNat 0 := by simp only [nz_c, n86, n90, (by decide : ((1 : Int32)).toInt = 1)]
        have n91 : ((sy_ai F 40).getD (((sy_i F 33) + ((1 : Int32))) - ((1 : Int32))).toNatClampNeg 0).toInt = ((sy_ai F 40).getD ((((sy_i F 33).toInt + 1) - 1)).toNat 0).toInt := congrArg Int32.toInt q91
        have w92 : jm_upd (sy_ai F 44) (sy_i F 82).toNatClampNeg (((sy_al F 41).getD (((sy_i F 33) + ((1 : Int32))) - ((1 : Int32))).toNatClampNeg 0).toInt32) = jm_upd (sy_ai F 44) ((sy_i F 82).toInt).toNat (((sy_al F 41).getD ((((sy_i F 33).toInt + 1) - 1)).toNat 0).toInt32) := by simp only [nz_c, n86, n87, (by decide : ((1 : Int32)).toInt = 1)]
        exact k3tn_0_p3 hd F X1 X2 hB (by first | exact g0 | (simp only [nz_c]; exact g0)) (by first | exact g1 | (simp only [nz_c]; exact g1)) (by first | exact ⟨by omega, by omega⟩ | (simp only [nz_c]; exact ⟨by omega, by omega⟩)) (by first | exact g2 | (simp only [nz_c]; exact g2) | (rw [n85]; exact g2)) (by first | exact g3 | (simp only [nz_c]; exact g3)) (by first | exact g4 | (simp only [nz_c, n86, n87]; exact g4) | (rw [n87]; exact g4)) (by first | exact g5 | (simp only [nz_c, n86, n87]; exact g5) | (rw [n87]; exact g5)) (by first | exact ⟨by omega, by omega⟩ | (simp only [nz_c, n86, n87]; exact ⟨by omega, by omega⟩) | (rw [n87]; exact ⟨by omega, by omega⟩)) (by first | exact g6 | (simp only [nz_c, n86, n87]; exact g6) | (rw [n89]; exact g6)) (by first | exact g7 | (simp only [nz_c, n86, n87]; exact g7) | (rw [n89]; exact g7)) (by first | exact g8 | (simp only [nz_c]; exact g8)) (by first | exact g9 | (simp only [nz_c, n86, n90]; exact g9) | (rw [n90]; exact g9)) (by first | exact g10 | (simp only [nz_c, n86, n90]; exact g10) | (rw [n90]; exact g10)) (by first | exact ⟨by omega, by omega⟩ | (simp only [nz_c, n86, n90]; exact ⟨by omega, by omega⟩) | (rw [n90]; exact ⟨by omega, by omega⟩)) (by first | exact g11 | (simp only [nz_c]; exact g11)) (by first | exact g12 | (simp only [nz_c]; exact g12)) (by first | exact ⟨by omega, by omega⟩ | (simp only [nz_c]; exact ⟨by omega, by omega⟩)) (fun F1 g e33 e36 e37 e44 => k3 g0 g1 g2 g3 g4 g5 g6 g7 g8 g9 g10 g11 g12 F1 (nz_in0 hB [33, 36, 37, 44] (fun j hj hn => g j hj (by simp only [List.mem_cons, List.not_mem_nil, or_false, not_or] at hn; omega)) (List.forall_mem_cons.mpr ⟨fun t ht => (Option.some.inj ht) ▸ (nz_hi e33 n86 (by omega) (by omega)), List.forall_mem_cons.mpr ⟨fun t ht => (Option.some.inj ht) ▸ (nz_hz e36), List.forall_mem_cons.mpr ⟨fun t ht => (Option.some.inj ht) ▸ (nz_hz e37), List.forall_mem_cons.mpr ⟨fun t ht => (Option.some.inj ht) ▸ (nz_hz2 e44), List.forall_mem_nil _⟩⟩⟩⟩)) (fun j hj hn => g j hj (by simp only [List.mem_cons, List.not_mem_nil, or_false, not_or] at hn; omega)) ((congrArg Int32.toInt (zz_i e33)).trans n86) (nz_fi (g 34 (by decide) (by decide))) ((congrArg Int32.toInt (zz_i e36)).trans (by decide : ((5 : Int32)).toInt = 5)) ((congrArg Int32.toInt (zz_i e37)).trans n91) (nz_fi (g 38 (by decide) (by decide))) (nz_fa (g 39 (by decide) (by decide))) (nz_fa (g 40 (by decide) (by decide))) ((zz_ai e44).trans w92))
      replace g7 : (((sy_al F 41).getD ((((sy_i F 33).toInt + 1) - 1)).toNat 0).toInt32).toInt ≤ (sy_i F 84).toInt := by omega
      by_cases g8 : (sy_i F 82).toInt < 0
      · have c33 := nz_bx hB (k := 33) (lo := 0) (hi := 400) rfl
        have q85 : (sy_ai F 39).getD (sy_i F 33).toNatClampNeg 0 = (sy_ai F 39).getD ((sy_i F 33).toInt).toNat 0 := by simp only [nz_c]
        have n85 : ((sy_ai F 39).getD (sy_i F 33).toNatClampNeg 0).toInt = ((sy_ai F 39).getD ((sy_i F 33).toInt).toNat 0).toInt := congrArg Int32.toInt q85
        have n86 : ((sy_i F 33) + ((1 : Int32))).toInt = ((sy_i F 33).toInt + 1) := nz_add (rfl : (sy_i F 33).toInt = (sy_i F 33).toInt) (by decide : ((1 : Int32)).toInt = 1) (by omega) (by omega)
        have n87 : (((sy_i F 33) + ((1 : Int32))) - ((1 : Int32))).toInt = (((sy_i F 33).toInt + 1) - 1) := nz_sub n86 (by decide : ((1 : Int32)).toInt = 1) (by omega) (by omega)
        have q89 : ((sy_al F 41).getD (((sy_i F 33) + ((1 : Int32))) - ((1 : Int32))).toNatClampNeg 0).toInt32 = ((sy_al F 41).getD ((((sy_i F 33).toInt + 1) - 1)).toNat 0).toInt32 := by simp only [nz_c, n86, n87, (by decide : ((1 : Int32)).toInt = 1)]
        have n89 : (((sy_al F 41).getD (((sy_i F 33) + ((1 : Int32))) - ((1 : Int32))).toNatClampNeg 0).toInt32).toInt = (((sy_al F 41).getD ((((sy_i F 33).toInt + 1) - 1)).toNat 0).toInt32).toInt := congrArg Int32.toInt q89
        exfalso
        omega
      replace g8 : 0 ≤ (sy_i F 82).toInt := by omega
      by_cases g9 : 2 < (sy_i F 82).toInt
      · have c33 := nz_bx hB (k := 33) (lo := 0) (hi := 400) rfl
        have q85 : (sy_ai F 39).getD (sy_i F 33).toNatClampNeg 0 = (sy_ai F 39).getD ((sy_i F 33).toInt).toNat 0 := by simp only [nz_c]
        have n85 : ((sy_ai F 39).getD (sy_i F 33).toNatClampNeg 0).toInt = ((sy_ai F 39).getD ((sy_i F 33).toInt).toNat 0).toInt := congrArg Int32.toInt q85
        have n86 : ((sy_i F 33) + ((1 : Int32))).toInt = ((sy_i F 33).toInt + 1) := nz_add (rfl : (sy_i F 33).toInt = (sy_i F 33).toInt) (by decide : ((1 : Int32)).toInt = 1) (by omega) (by omega)
        have n87 : (((sy_i F 33) + ((1 : Int32))) - ((1 : Int32))).toInt = (((sy_i F 33).toInt + 1) - 1) := nz_sub n86 (by decide : ((1 : Int32)).toInt = 1) (by omega) (by omega)
        have q89 : ((sy_al F 41).getD (((sy_i F 33) + ((1 : Int32))) - ((1 : Int32))).toNatClampNeg 0).toInt32 = ((sy_al F 41).getD ((((sy_i F 33).toInt + 1) - 1)).toNat 0).toInt32 := by simp only [nz_c, n86, n87, (by decide : ((1 : Int32)).toInt = 1)]
        have n89 : (((sy_al F 41).getD (((sy_i F 33) + ((1 : Int32))) - ((1 : Int32))).toNatClampNeg 0).toInt32).toInt = (((sy_al F 41).getD ((((sy_i F 33).toInt + 1) - 1)).toNat 0).toInt32).toInt := congrArg Int32.toInt q89
        exfalso
        omega
      replace g9 : (sy_i F 82).toInt ≤ 2 := by omega
      have c33 := nz_bx hB (k := 33) (lo := 0) (hi := 400) rfl
      have q85 : (sy_ai F 39).getD (sy_i F 33).toNatClampNeg 0 = (sy_ai F 39).getD ((sy_i F 33).toInt).toNat 0 := by simp only [nz_c]
      have n85 : ((sy_ai F 39).getD (sy_i F 33).toNatClampNeg 0).toInt = ((sy_ai F 39).getD ((sy_i F 33).toInt).toNat 0).toInt := congrArg Int32.toInt q85
      have n86 : ((sy_i F 33) + ((1 : Int32))).toInt = ((sy_i F 33).toInt + 1) := nz_add (rfl : (sy_i F 33).toInt = (sy_i F 33).toInt) (by decide : ((1 : Int32)).toInt = 1) (by omega) (by omega)
      have n87 : (((sy_i F 33) + ((1 : Int32))) - ((1 : Int32))).toInt = (((sy_i F 33).toInt + 1) - 1) := nz_sub n86 (by decide : ((1 : Int32)).toInt = 1) (by omega) (by omega)
      have q89 : ((sy_al F 41).getD (((sy_i F 33) + ((1 : Int32))) - ((1 : Int32))).toNatClampNeg 0).toInt32 = ((sy_al F 41).getD ((((sy_i F 33).toInt + 1) - 1)).toNat 0).toInt32 := by simp only [nz_c, n86, n87, (by decide : ((1 : Int32)).toInt = 1)]
      have n89 : (((sy_al F 41).getD (((sy_i F 33) + ((1 : Int32))) - ((1 : Int32))).toNatClampNeg 0).toInt32).toInt = (((sy_al F 41).getD ((((sy_i F 33).toInt + 1) - 1)).toNat 0).toInt32).toInt := congrArg Int32.toInt q89
      have w90 : jm_upd (sy_ai F 44) (sy_i F 82).toNatClampNeg (((sy_al F 41).getD (((sy_i F 33) + ((1 : Int32))) - ((1 : Int32))).toNatClampNeg 0).toInt32) = jm_upd (sy_ai F 44) ((sy_i F 82).toInt).toNat (((sy_al F 41).getD ((((sy_i F 33).toInt + 1) - 1)).toNat 0).toInt32) := by simp only [nz_c, n86, n87, (by decide : ((1 : Int32)).toInt = 1)]
      exact k3tn_0_p4 hd F X1 X2 hB (by first | exact g0 | (simp only [nz_c]; exact g0)) (by first | exact g1 | (simp only [nz_c]; exact g1)) (by first | exact ⟨by omega, by omega⟩ | (simp only [nz_c]; exact ⟨by omega, by omega⟩)) (by first | exact g2 | (simp only [nz_c]; exact g2) | (rw [n85]; exact g2)) (by first | exact g3 | (simp only [nz_c]; exact g3)) (by first | exact g4 | (simp only [nz_c, n86, n87]; exact g4) | (rw [n87]; exact g4)) (by first | exact g5 | (simp only [nz_c, n86, n87]; exact g5) | (rw [n87]; exact g5)) (by first | exact ⟨by omega, by omega⟩ | (simp only [nz_c, n86, n87]; exact ⟨by omega, by omega⟩) | (rw [n87]; exact ⟨by omega, by omega⟩)) (by first | exact g6 | (simp only [nz_c, n86, n87]; exact g6) | (rw [n89]; exact g6)) (by first | exact g7 | (simp only [nz_c, n86, n87]; exact g7) | (rw [n89]; exact g7)) (by first | exact g8 | (simp only [nz_c]; exact g8)) (by first | exact g9 | (simp only [nz_c]; exact g9)) (by first | exact ⟨by omega, by omega⟩ | (simp only [nz_c]; exact ⟨by omega, by omega⟩)) (fun F1 g e33 e44 => k4 g0 g1 g2 g3 g4 g5 g6 g7 g8 g9 F1 (nz_in0 hB [33, 44] (fun j hj hn => g j hj (by simp only [List.mem_cons, List.not_mem_nil, or_false, not_or] at hn; omega)) (List.forall_mem_cons.mpr ⟨fun t ht => (Option.some.inj ht) ▸ (nz_hi e33 n86 (by omega) (by omega)), List.forall_mem_cons.mpr ⟨fun t ht => (Option.some.inj ht) ▸ (nz_hz2 e44), List.forall_mem_nil _⟩⟩)) (fun j hj hn => g j hj (by simp only [List.mem_cons, List.not_mem_nil, or_false, not_or] at hn; omega)) ((congrArg Int32.toInt (zz_i e33)).trans n86) (nz_fi (g 34 (by decide) (by decide))) (nz_fi (g 36 (by decide) (by decide))) (nz_fi (g 37 (by decide) (by decide))) (nz_fi (g 38 (by decide) (by decide))) (nz_fa (g 39 (by decide) (by decide))) (nz_fa (g 40 (by decide) (by decide))) ((zz_ai e44).trans w90))
    replace g3 : 400 ≤ (sy_i F 33).toInt := by omega
    have c33 := nz_bx hB (k := 33) (lo := 0) (hi := 400) rfl
    have q85 : (sy_ai F 39).getD (sy_i F 33).toNatClampNeg 0 = (sy_ai F 39).getD ((sy_i F 33).toInt).toNat 0 := by simp only [nz_c]
    have n85 : ((sy_ai F 39).getD (sy_i F 33).toNatClampNeg 0).toInt = ((sy_ai F 39).getD ((sy_i F 33).toInt).toNat 0).toInt := congrArg Int32.toInt q85
    exact k3tn_0_p5 hd F X1 X2 hB (by first | exact g0 | (simp only [nz_c]; exact g0)) (by first | exact g1 | (simp only [nz_c]; exact g1)) (by first | exact ⟨by omega, by omega⟩ | (simp only [nz_c]; exact ⟨by omega, by omega⟩)) (by first | exact g2 | (simp only [nz_c]; exact g2) | (rw [n85]; exact g2)) (by first | exact g3 | (simp only [nz_c]; exact g3)) (fun F1 g e34 => k5 g0 g1 g2 g3 F1 (nz_in0 hB [34] (fun j hj hn => g j hj (by simp only [List.mem_cons, List.not_mem_nil, or_false, not_or] at hn; omega)) (List.forall_mem_cons.mpr ⟨fun t ht => (Option.some.inj ht) ▸ (nz_hz e34), List.forall_mem_nil _⟩)) (fun j hj hn => g j hj (by simp only [List.mem_cons, List.not_mem_nil, or_false, not_or] at hn; omega)) (nz_fi (g 33 (by decide) (by decide))) ((congrArg Int32.toInt (zz_i e34)).trans (by decide : ((2 : Int32)).toInt = 2)) (nz_fi (g 36 (by decide) (by decide))) (nz_fi (g 37 (by decide) (by decide))) (nz_fi (g 38 (by decide) (by decide))) (nz_fa (g 39 (by decide) (by decide))) (nz_fa (g 40 (by decide) (by decide))) (nz_fa (g 44 (by decide) (by decide))))
  replace g2 : ((sy_ai F 39).getD ((sy_i F 33).toInt).toNat 0).toInt ≠ 24 := by omega
  have c33 := nz_bx hB (k := 33) (lo := 0) (hi := 400) rfl
  have q85 : (sy_ai F 39).getD (sy_i F 33).toNatClampNeg 0 = (sy_ai F 39).getD ((sy_i F 33).toInt).toNat 0 := by simp only [nz_c]
  have n85 : ((sy_ai F 39).getD (sy_i F 33).toNatClampNeg 0).toInt = ((sy_ai F 39).getD ((sy_i F 33).toInt).toNat 0).toInt := congrArg Int32.toInt q85
  exact k3tn_0_p6 hd F X1 X2 hB (by first | exact g0 | (simp only [nz_c]; exact g0)) (by first | exact g1 | (simp only [nz_c]; exact g1)) (by first | exact ⟨by omega, by omega⟩ | (simp only [nz_c]; exact ⟨by omega, by omega⟩)) (by first | exact g2 | (simp only [nz_c]; exact g2) | (rw [n85]; exact g2)) (fun F1 g e34 => k6 g0 g1 g2 F1 (nz_in0 hB [34] (fun j hj hn => g j hj (by simp only [List.mem_cons, List.not_mem_nil, or_false, not_or] at hn; omega)) (List.forall_mem_cons.mpr ⟨fun t ht => (Option.some.inj ht) ▸ (nz_hz e34), List.forall_mem_nil _⟩)) (fun j hj hn => g j hj (by simp only [List.mem_cons, List.not_mem_nil, or_false, not_or] at hn; omega)) (nz_fi (g 33 (by decide) (by decide))) ((congrArg Int32.toInt (zz_i e34)).trans (by decide : ((1 : Int32)).toInt = 1)) (nz_fi (g 36 (by decide) (by decide))) (nz_fi (g 37 (by decide) (by decide))) (nz_fi (g 38 (by decide) (by decide))) (nz_fa (g 39 (by decide) (by decide))) (nz_fa (g 40 (by decide) (by decide))) (nz_fa (g 44 (by decide) (by decide))))
theorem k3zpf_72 {Ls : Nat} {xs : Nat → Int32} {d : Nat} {Q : Option Value → jm_h → Prop} (hd : 4 ≤ d) (F : Nat → sy_d) (X1 X2 : List jm_c) (hB : iv_in F iv_B0)
    (k0 : (sy_i F 82).toInt = 0 → ∀ F1 : Nat → sy_d, iv_in F1 iv_B0 → (∀ j, j < 82 → j ∉ ([] : List Nat) → F1 j = F j) → (sy_i F1 33).toInt = (sy_i F 33).toInt → (sy_i F1 34).toInt = (sy_i F 34).toInt → (sy_i F1 36).toInt = (sy_i F 36).toInt → (sy_i F1 37).toInt = (sy_i F 37).toInt → (sy_i F1 38).toInt = (sy_i F 38).toInt → (sy_i F1 3).toInt = (sy_i F 3).toInt → (sy_i F1 4).toInt = (sy_i F 4).toInt → sy_ai F1 39 = sy_ai F 39 → sy_ai F1 9 = sy_ai F 9 → sy_ai F1 10 = sy_ai F 10 → sy_ai F1 11 = sy_ai F 11 → Q (some (.int ((0 : Int32)))) (sy_dh F1 X1 X2 (iv_H 3)))
    (k1 : (sy_i F 82).toInt ≠ 0 → 7 ≤ (sy_i F 3).toInt → ∀ F1 : Nat → sy_d, iv_in F1 iv_B0 → (∀ j, j < 82 → j ∉ ([] : List Nat) → F1 j = F j) → (sy_i F1 33).toInt = (sy_i F 33).toInt → (sy_i F1 34).toInt = (sy_i F 34).toInt → (sy_i F1 36).toInt = (sy_i F 36).toInt → (sy_i F1 37).toInt = (sy_i F 37).toInt → (sy_i F1 38).toInt = (sy_i F 38).toInt → (sy_i F1 3).toInt = (sy_i F 3).toInt → (sy_i F1 4).toInt = (sy_i F 4).toInt → sy_ai F1 39 = sy_ai F 39 → sy_ai F1 9 = sy_ai F 9 → sy_ai F1 10 = sy_ai F 10 → sy_ai F1 11 = sy_ai F 11 → Q (some (.int ((1 : Int32)))) (sy_dh F1 X1 X2 (iv_H 3)))
    (k2 : (sy_i F 82).toInt ≠ 0 → (sy_i F 3).toInt < 7 → ∀ F1 : Nat → sy_d, iv_in F1 iv_B0 → (∀ j, j < 82 → j ∉ ([3, 9, 10, 11] : List Nat) → F1 j = F j) → (sy_i F1 33).toInt = (sy_i F 33).toInt → (sy_i F1 34).toInt = (sy_i F 34).toInt → (sy_i F1 36).toInt = (sy_i F 36).toInt → (sy_i F1 37).toInt = (sy_i F 37).toInt → (sy_i F1 38).toInt = (sy_i F 38).toInt → (sy_i F1 3).toInt = ((sy_i F 3).toInt + 1) → (sy_i F1 4).toInt = (sy_i F 4).toInt → sy_ai F1 39 = sy_ai F 39 → sy_ai F1 9 = jm_upd (sy_ai F 9) ((sy_i F 3).toInt).toNat ((sy_ai F 44).getD (0 : Int).toNat 0) → sy_ai F1 10 = jm_upd (sy_ai F 10) ((sy_i F 3).toInt).toNat ((sy_ai F 44).getD (1 : Int).toNat 0) → sy_ai F1 11 = jm_upd (sy_ai F 11) ((sy_i F 3).toInt).toNat ((sy_ai F 44).getD (2 : Int).toNat 0) → Q (some (.int ((1 : Int32)))) (sy_dh F1 X1 X2 (iv_H 3))) :
    hd_W Ls xs d jm_M33 Q (72, sy_dL F [some (.inl (.ref 30)), none], sy_dS F [.inr (.inl 82)], sy_dh F X1 X2 (iv_H 3), 0, 0) := by
  by_cases g0 : (sy_i F 82).toInt = 0
  · exact k3pf_72_p0 hd F X1 X2 hB (by first | exact g0 | (simp only [nz_c]; exact g0)) (fun F1 g  => k0 g0 F1 (nz_in0 hB [] (fun j hj hn => g j hj (by simp only [List.mem_cons, List.not_mem_nil, or_false, not_or] at hn; exact trivial)) (List.forall_mem_nil _)) (fun j hj hn => g j hj (by simp only [List.mem_cons, List.not_mem_nil, or_false, not_or] at hn; exact trivial)) (nz_fi (g 33 (by decide) (by decide))) (nz_fi (g 34 (by decide) (by decide))) (nz_fi (g 36 (by decide) (by decide))) (nz_fi (g 37 (by decide) (by decide))) (nz_fi (g 38 (by decide) (by decide))) (nz_fi (g 3 (by decide) (by decide))) (nz_fi (g 4 (by decide) (by decide))) (nz_fa (g 39 (by decide) (by decide))) (nz_fa (g 9 (by decide) (by decide))) (nz_fa (g 10 (by decide) (by decide))) (nz_fa (g 11 (by decide) (by decide))))
  replace g0 : (sy_i F 82).toInt ≠ 0 := by omega
  by_cases g1 : 7 ≤ (sy_i F 3).toInt
  · have c3 := nz_bx hB (k := 3) (lo := 0) (hi := 7) rfl
    exact k3pf_72_p1 hd F X1 X2 hB (by first | exact g0 | (simp only [nz_c]; exact g0)) (by first | exact g1 | (simp only [nz_c]; exact g1)) (fun F1 g  => k1 g0 g1 F1 (nz_in0 hB [] (fun j hj hn => g j hj (by simp only [List.mem_cons, List.not_mem_nil, or_false, not_or] at hn; exact trivial)) (List.forall_mem_nil _)) (fun j hj hn => g j hj (by simp only [List.mem_cons, List.not_mem_nil, or_false, not_or] at hn; exact trivial)) (nz_fi (g 33 (by decide) (by decide))) (nz_fi (g 34 (by decide) (by decide))) (nz_fi (g 36 (by decide) (by decide))) (nz_fi (g 37 (by decide) (by decide))) (nz_fi (g 38 (by decide) (by decide))) (nz_fi (g 3 (by decide) (by decide))) (nz_fi (g 4 (by decide) (by decide))) (nz_fa (g 39 (by decide) (by decide))) (nz_fa (g 9 (by decide) (by decide))) (nz_fa (g 10 (by decide) (by decide))) (nz_fa (g 11 (by decide) (by decide))))
  replace g1 : (sy_i F 3).toInt < 7 := by omega
  have c3 := nz_bx hB (k := 3) (lo := 0) (hi := 7) rfl
  have n89 : ((sy_i F 3) + ((1 : Int32))).toInt = ((sy_i F 3).toInt + 1) := nz_add (rfl : (sy_i F 3).toInt = (sy_i F 3).toInt) (by decide : ((1 : Int32)).toInt = 1) (by omega) (by omega)
  have w84 : jm_upd (sy_ai F 9) (sy_i F 3).toNatClampNeg ((sy_ai F 44).getD ((0 : Int32)).toNatClampNeg 0) = jm_upd (sy_ai F 9) ((sy_i F 3).toInt).toNat ((sy_ai F 44).getD (0 : Int).toNat 0) := by simp only [nz_c, (by decide : ((0 : Int32)).toInt = 0)]
  have w86 : jm_upd (sy_ai F 10) (sy_i F 3).toNatClampNeg ((sy_ai F 44).getD ((1 : Int32)).toNatClampNeg 0) = jm_upd (sy_ai F 10) ((sy_i F 3).toInt).toNat ((sy_ai F 44).getD (1 : Int).toNat 0) := by simp only [nz_c, (by decide : ((1 : Int32)).toInt = 1)]
  have w88 : jm_upd (sy_ai F 11) (sy_i F 3).toNatClampNeg ((sy_ai F 44).getD ((2 : Int32)).toNatClampNeg 0) = jm_upd (sy_ai F 11) ((sy_i F 3).toInt).toNat ((sy_ai F 44).getD (2 : Int).toNat 0) := by simp only [nz_c, (by decide : ((2 : Int32)).toInt = 2)]
  exact k3pf_72_p2 hd F X1 X2 hB (by first | exact g0 | (simp only [nz_c]; exact g0)) (by first | exact g1 | (simp only [nz_c]; exact g1)) (by first | exact ⟨by omega, by omega⟩ | (simp only [nz_c]; exact ⟨by omega, by omega⟩)) (by first | exact ⟨by omega, by omega⟩ | (simp only [nz_c]; exact ⟨by omega, by omega⟩)) (by first | exact ⟨by omega, by omega⟩ | (simp only [nz_c]; exact ⟨by omega, by omega⟩)) (fun F1 g e3 e9 e10 e11 => k2 g0 g1 F1 (nz_in0 hB [3, 9, 10, 11] (fun j hj hn => g j hj (by simp only [List.mem_cons, List.not_mem_nil, or_false, not_or] at hn; omega)) (List.forall_mem_cons.mpr ⟨fun t ht => (Option.some.inj ht) ▸ (nz_hi e3 n89 (by omega) (by omega)), List.forall_mem_cons.mpr ⟨fun t ht => (Option.some.inj ht) ▸ (nz_hz2 e9), List.forall_mem_cons.mpr ⟨fun t ht => (Option.some.inj ht) ▸ (nz_hz2 e10), List.forall_mem_cons.mpr ⟨fun t ht => (Option.some.inj ht) ▸ (nz_hz2 e11), List.forall_mem_nil _⟩⟩⟩⟩)) (fun j hj hn => g j hj (by simp only [List.mem_cons, List.not_mem_nil, or_false, not_or] at hn; omega)) (nz_fi (g 33 (by decide) (by decide))) (nz_fi (g 34 (by decide) (by decide))) (nz_fi (g 36 (by decide) (by decide))) (nz_fi (g 37 (by decide) (by decide))) (nz_fi (g 38 (by decide) (by decide))) ((congrArg Int32.toInt (zz_i e3)).trans n89) (nz_fi (g 4 (by decide) (by decide))) (nz_fa (g 39 (by decide) (by decide))) ((zz_ai e9).trans w84) ((zz_ai e10).trans w86) ((zz_ai e11).trans w88))
theorem k3zpb_71 {Ls : Nat} {xs : Nat → Int32} {d : Nat} {Q : Option Value → jm_h → Prop} (hd : 4 ≤ d) (F : Nat → sy_d) (X1 X2 : List jm_c) (hB : iv_in F iv_B0)
    (k0 : (sy_i F 82).toInt = 0 → ∀ F1 : Nat → sy_d, iv_in F1 iv_B0 → (∀ j, j < 82 → j ∉ ([] : List Nat) → F1 j = F j) → (sy_i F1 33).toInt = (sy_i F 33).toInt → (sy_i F1 34).toInt = (sy_i F 34).toInt → (sy_i F1 36).toInt = (sy_i F 36).toInt → (sy_i F1 37).toInt = (sy_i F 37).toInt → (sy_i F1 38).toInt = (sy_i F 38).toInt → (sy_i F1 3).toInt = (sy_i F 3).toInt → (sy_i F1 4).toInt = (sy_i F 4).toInt → sy_ai F1 39 = sy_ai F 39 → sy_ai F1 13 = sy_ai F 13 → sy_ai F1 14 = sy_ai F 14 → sy_ai F1 15 = sy_ai F 15 → Q (some (.int ((0 : Int32)))) (sy_dh F1 X1 X2 (iv_H 3)))
    (k1 : (sy_i F 82).toInt ≠ 0 → 4 ≤ (sy_i F 4).toInt → ∀ F1 : Nat → sy_d, iv_in F1 iv_B0 → (∀ j, j < 82 → j ∉ ([] : List Nat) → F1 j = F j) → (sy_i F1 33).toInt = (sy_i F 33).toInt → (sy_i F1 34).toInt = (sy_i F 34).toInt → (sy_i F1 36).toInt = (sy_i F 36).toInt → (sy_i F1 37).toInt = (sy_i F 37).toInt → (sy_i F1 38).toInt = (sy_i F 38).toInt → (sy_i F1 3).toInt = (sy_i F 3).toInt → (sy_i F1 4).toInt = (sy_i F 4).toInt → sy_ai F1 39 = sy_ai F 39 → sy_ai F1 13 = sy_ai F 13 → sy_ai F1 14 = sy_ai F 14 → sy_ai F1 15 = sy_ai F 15 → Q (some (.int ((1 : Int32)))) (sy_dh F1 X1 X2 (iv_H 3)))
    (k2 : (sy_i F 82).toInt ≠ 0 → (sy_i F 4).toInt < 4 → ∀ F1 : Nat → sy_d, iv_in F1 iv_B0 → (∀ j, j < 82 → j ∉ ([4, 13, 14, 15] : List Nat) → F1 j = F j) → (sy_i F1 33).toInt = (sy_i F 33).toInt → (sy_i F1 34).toInt = (sy_i F 34).toInt → (sy_i F1 36).toInt = (sy_i F 36).toInt → (sy_i F1 37).toInt = (sy_i F 37).toInt → (sy_i F1 38).toInt = (sy_i F 38).toInt → (sy_i F1 3).toInt = (sy_i F 3).toInt → (sy_i F1 4).toInt = ((sy_i F 4).toInt + 1) → sy_ai F1 39 = sy_ai F 39 → sy_ai F1 13 = jm_upd (sy_ai F 13) ((sy_i F 4).toInt).toNat ((sy_ai F 44).getD (0 : Int).toNat 0) → sy_ai F1 14 = jm_upd (sy_ai F 14) ((sy_i F 4).toInt).toNat ((sy_ai F 44).getD (1 : Int).toNat 0) → sy_ai F1 15 = jm_upd (sy_ai F 15) ((sy_i F 4).toInt).toNat ((sy_ai F 44).getD (2 : Int).toNat 0) → Q (some (.int ((1 : Int32)))) (sy_dh F1 X1 X2 (iv_H 3))) :
    hd_W Ls xs d jm_M34 Q (71, sy_dL F [some (.inl (.ref 30)), none], sy_dS F [.inr (.inl 82)], sy_dh F X1 X2 (iv_H 3), 0, 0) := by
  by_cases g0 : (sy_i F 82).toInt = 0
  · exact k3pb_71_p0 hd F X1 X2 hB (by first | exact g0 | (simp only [nz_c]; exact g0)) (fun F1 g  => k0 g0 F1 (nz_in0 hB [] (fun j hj hn => g j hj (by simp only [List.mem_cons, List.not_mem_nil, or_false, not_or] at hn; exact trivial)) (List.forall_mem_nil _)) (fun j hj hn => g j hj (by simp only [List.mem_cons, List.not_mem_nil, or_false, not_or] at hn; exact trivial)) (nz_fi (g 33 (by decide) (by decide))) (nz_fi (g 34 (by decide) (by decide))) (nz_fi (g 36 (by decide) (by decide))) (nz_fi (g 37 (by decide) (by decide))) (nz_fi (g 38 (by decide) (by decide))) (nz_fi (g 3 (by decide) (by decide))) (nz_fi (g 4 (by decide) (by decide))) (nz_fa (g 39 (by decide) (by decide))) (nz_fa (g 13 (by decide) (by decide))) (nz_fa (g 14 (by decide) (by decide))) (nz_fa (g 15 (by decide) (by decide))))
  replace g0 : (sy_i F 82).toInt ≠ 0 := by omega
  by_cases g1 : 4 ≤ (sy_i F 4).toInt
  · have c4 := nz_bx hB (k := 4) (lo := 0) (hi := 4) rfl
    exact k3pb_71_p1 hd F X1 X2 hB (by first | exact g0 | (simp only [nz_c]; exact g0)) (by first | exact g1 | (simp only [nz_c]; exact g1)) (fun F1 g  => k1 g0 g1 F1 (nz_in0 hB [] (fun j hj hn => g j hj (by simp only [List.mem_cons, List.not_mem_nil, or_false, not_or] at hn; exact trivial)) (List.forall_mem_nil _)) (fun j hj hn => g j hj (by simp only [List.mem_cons, List.not_mem_nil, or_false, not_or] at hn; exact trivial)) (nz_fi (g 33 (by decide) (by decide))) (nz_fi (g 34 (by decide) (by decide))) (nz_fi (g 36 (by decide) (by decide))) (nz_fi (g 37 (by decide) (by decide))) (nz_fi (g 38 (by decide) (by decide))) (nz_fi (g 3 (by decide) (by decide))) (nz_fi (g 4 (by decide) (by decide))) (nz_fa (g 39 (by decide) (by decide))) (nz_fa (g 13 (by decide) (by decide))) (nz_fa (g 14 (by decide) (by decide))) (nz_fa (g 15 (by decide) (by decide))))
  replace g1 : (sy_i F 4).toInt < 4 := by omega
  have c4 := nz_bx hB (k := 4) (lo := 0) (hi := 4) rfl
  have n89 : ((sy_i F 4) + ((1 : Int32))).toInt = ((sy_i F 4).toInt + 1) := nz_add (rfl : (sy_i F 4).toInt = (sy_i F 4).toInt) (by decide : ((1 : Int32)).toInt = 1) (by omega) (by omega)
  have w84 : jm_upd (sy_ai F 13) (sy_i F 4).toNatClampNeg ((sy_ai F 44).getD ((0 : Int32)).toNatClampNeg 0) = jm_upd (sy_ai F 13) ((sy_i F 4).toInt).toNat ((sy_ai F 44).getD (0 : Int).toNat 0) := by simp only [nz_c, (by decide : ((0 : Int32)).toInt = 0)]
  have w86 : jm_upd (sy_ai F 14) (sy_i F 4).toNatClampNeg ((sy_ai F 44).getD ((1 : Int32)).toNatClampNeg 0) = jm_upd (sy_ai F 14) ((sy_i F 4).toInt).toNat ((sy_ai F 44).getD (1 : Int).toNat 0) := by simp only [nz_c, (by decide : ((1 : Int32)).toInt = 1)]
  have w88 : jm_upd (sy_ai F 15) (sy_i F 4).toNatClampNeg ((sy_ai F 44).getD ((2 : Int32)).toNatClampNeg 0) = jm_upd (sy_ai F 15) ((sy_i F 4).toInt).toNat ((sy_ai F 44).getD (2 : Int).toNat 0) := by simp only [nz_c, (by decide : ((2 : Int32)).toInt = 2)]
  exact k3pb_71_p2 hd F X1 X2 hB (by first | exact g0 | (simp only [nz_c]; exact g0)) (by first | exact g1 | (simp only [nz_c]; exact g1)) (by first | exact ⟨by omega, by omega⟩ | (simp only [nz_c]; exact ⟨by omega, by omega⟩)) (by first | exact ⟨by omega, by omega⟩ | (simp only [nz_c]; exact ⟨by omega, by omega⟩)) (by first | exact ⟨by omega, by omega⟩ | (simp only [nz_c]; exact ⟨by omega, by omega⟩)) (fun F1 g e4 e13 e14 e15 => k2 g0 g1 F1 (nz_in0 hB [4, 13, 14, 15] (fun j hj hn => g j hj (by simp only [List.mem_cons, List.not_mem_nil, or_false, not_or] at hn; omega)) (List.forall_mem_cons.mpr ⟨fun t ht => (Option.some.inj ht) ▸ (nz_hi e4 n89 (by omega) (by omega)), List.forall_mem_cons.mpr ⟨fun t ht => (Option.some.inj ht) ▸ (nz_hz2 e13), List.forall_mem_cons.mpr ⟨fun t ht => (Option.some.inj ht) ▸ (nz_hz2 e14), List.forall_mem_cons.mpr ⟨fun t ht => (Option.some.inj ht) ▸ (nz_hz2 e15), List.forall_mem_nil _⟩⟩⟩⟩)) (fun j hj hn => g j hj (by simp only [List.mem_cons, List.not_mem_nil, or_false, not_or] at hn; omega)) (nz_fi (g 33 (by decide) (by decide))) (nz_fi (g 34 (by decide) (by decide))) (nz_fi (g 36 (by decide) (by decide))) (nz_fi (g 37 (by decide) (by decide))) (nz_fi (g 38 (by decide) (by decide))) (nz_fi (g 3 (by decide) (by decide))) ((congrArg Int32.toInt (zz_i e4)).trans n89) (nz_fa (g 39 (by decide) (by decide))) ((zz_ai e13).trans w84) ((zz_ai e14).trans w86) ((zz_ai e15).trans w88))
theorem k3zpg_50 {Ls : Nat} {xs : Nat → Int32} {d : Nat} {Q : Option Value → jm_h → Prop} (hd : 4 ≤ d) (F : Nat → sy_d) (X1 X2 : List jm_c) (hB : iv_in F iv_B0)
    (k0 : (sy_i F 83).toInt ≠ 0 → (sy_i F 82).toInt ≠ 8 → (sy_i F 82).toInt ≠ 9 → ∀ F1 : Nat → sy_d, iv_in F1 iv_B0 → (∀ j, j < 82 → j ∉ ([7] : List Nat) → F1 j = F j) → (sy_i F1 33).toInt = (sy_i F 33).toInt → (sy_i F1 34).toInt = (sy_i F 34).toInt → (sy_i F1 36).toInt = (sy_i F 36).toInt → (sy_i F1 37).toInt = (sy_i F 37).toInt → (sy_i F1 38).toInt = (sy_i F 38).toInt → (sy_i F1 3).toInt = (sy_i F 3).toInt → (sy_i F1 4).toInt = (sy_i F 4).toInt → (sy_i F1 5).toInt = (sy_i F 5).toInt → (sy_i F1 6).toInt = (sy_i F 6).toInt → (sy_i F1 7).toInt = ((sy_ai F 44).getD (0 : Int).toNat 0).toInt → sy_ai F1 39 = sy_ai F 39 → Q (some (.int ((1 : Int32)))) (sy_dh F1 X1 X2 (iv_H 3)))
    (k1 : (sy_i F 83).toInt ≠ 0 → (sy_i F 82).toInt ≠ 8 → (sy_i F 82).toInt = 9 → ∀ F1 : Nat → sy_d, iv_in F1 iv_B0 → (∀ j, j < 82 → j ∉ ([6] : List Nat) → F1 j = F j) → (sy_i F1 33).toInt = (sy_i F 33).toInt → (sy_i F1 34).toInt = (sy_i F 34).toInt → (sy_i F1 36).toInt = (sy_i F 36).toInt → (sy_i F1 37).toInt = (sy_i F 37).toInt → (sy_i F1 38).toInt = (sy_i F 38).toInt → (sy_i F1 3).toInt = (sy_i F 3).toInt → (sy_i F1 4).toInt = (sy_i F 4).toInt → (sy_i F1 5).toInt = (sy_i F 5).toInt → (sy_i F1 6).toInt = ((sy_ai F 44).getD (0 : Int).toNat 0).toInt → (sy_i F1 7).toInt = (sy_i F 7).toInt → sy_ai F1 39 = sy_ai F 39 → Q (some (.int ((1 : Int32)))) (sy_dh F1 X1 X2 (iv_H 3)))
    (k2 : (sy_i F 83).toInt ≠ 0 → (sy_i F 82).toInt = 8 → ∀ F1 : Nat → sy_d, iv_in F1 iv_B0 → (∀ j, j < 82 → j ∉ ([5] : List Nat) → F1 j = F j) → (sy_i F1 33).toInt = (sy_i F 33).toInt → (sy_i F1 34).toInt = (sy_i F 34).toInt → (sy_i F1 36).toInt = (sy_i F 36).toInt → (sy_i F1 37).toInt = (sy_i F 37).toInt → (sy_i F1 38).toInt = (sy_i F 38).toInt → (sy_i F1 3).toInt = (sy_i F 3).toInt → (sy_i F1 4).toInt = (sy_i F 4).toInt → (sy_i F1 5).toInt = ((sy_ai F 44).getD (0 : Int).toNat 0).toInt → (sy_i F1 6).toInt = (sy_i F 6).toInt → (sy_i F1 7).toInt = (sy_i F 7).toInt → sy_ai F1 39 = sy_ai F 39 → Q (some (.int ((1 : Int32)))) (sy_dh F1 X1 X2 (iv_H 3)))
    (k3 : (sy_i F 83).toInt = 0 → ∀ F1 : Nat → sy_d, iv_in F1 iv_B0 → (∀ j, j < 82 → j ∉ ([] : List Nat) → F1 j = F j) → (sy_i F1 33).toInt = (sy_i F 33).toInt → (sy_i F1 34).toInt = (sy_i F 34).toInt → (sy_i F1 36).toInt = (sy_i F 36).toInt → (sy_i F1 37).toInt = (sy_i F 37).toInt → (sy_i F1 38).toInt = (sy_i F 38).toInt → (sy_i F1 3).toInt = (sy_i F 3).toInt → (sy_i F1 4).toInt = (sy_i F 4).toInt → (sy_i F1 5).toInt = (sy_i F 5).toInt → (sy_i F1 6).toInt = (sy_i F 6).toInt → (sy_i F1 7).toInt = (sy_i F 7).toInt → sy_ai F1 39 = sy_ai F 39 → Q (some (.int ((0 : Int32)))) (sy_dh F1 X1 X2 (iv_H 3))) :
    hd_W Ls xs d jm_M35 Q (50, sy_dL F [some (.inl (.ref 30)), some (.inr (.inl 82)), none], sy_dS F [.inr (.inl 83)], sy_dh F X1 X2 (iv_H 3), 0, 0) := by
  by_cases g0 : (sy_i F 83).toInt ≠ 0
  · by_cases g1 : (sy_i F 82).toInt ≠ 8
    · by_cases g2 : (sy_i F 82).toInt ≠ 9
      · have q84 : (sy_ai F 44).getD ((0 : Int32)).toNatClampNeg 0 = (sy_ai F 44).getD (0 : Int).toNat 0 := by simp only [nz_c, (by decide : ((0 : Int32)).toInt = 0)]
        have n84 : ((sy_ai F 44).getD ((0 : Int32)).toNatClampNeg 0).toInt = ((sy_ai F 44).getD (0 : Int).toNat 0).toInt := congrArg Int32.toInt q84
        exact k3pg_50_p0 hd F X1 X2 hB (by first | exact g0 | (simp only [nz_c]; exact g0)) (by first | exact g1 | (simp only [nz_c]; exact g1)) (by first | exact g2 | (simp only [nz_c]; exact g2)) (fun F1 g e7 => k0 g0 g1 g2 F1 (nz_in0 hB [7] (fun j hj hn => g j hj (by simp only [List.mem_cons, List.not_mem_nil, or_false, not_or] at hn; omega)) (List.forall_mem_cons.mpr ⟨fun t ht => (Option.some.inj ht) ▸ (nz_hz e7), List.forall_mem_nil _⟩)) (fun j hj hn => g j hj (by simp only [List.mem_cons, List.not_mem_nil, or_false, not_or] at hn; omega)) (nz_fi (g 33 (by decide) (by decide))) (nz_fi (g 34 (by decide) (by decide))) (nz_fi (g 36 (by decide) (by decide))) (nz_fi (g 37 (by decide) (by decide))) (nz_fi (g 38 (by decide) (by decide))) (nz_fi (g 3 (by decide) (by decide))) (nz_fi (g 4 (by decide) (by decide))) (nz_fi (g 5 (by decide) (by decide))) (nz_fi (g 6 (by decide) (by decide))) ((congrArg Int32.toInt (zz_i e7)).trans n84) (nz_fa (g 39 (by decide) (by decide))))
      replace g2 : (sy_i F 82).toInt = 9 := by omega
      have q84 : (sy_ai F 44).getD ((0 : Int32)).toNatClampNeg 0 = (sy_ai F 44).getD (0 : Int).toNat 0 := by simp only [nz_c, (by decide : ((0 : Int32)).toInt = 0)]
      have n84 : ((sy_ai F 44).getD ((0 : Int32)).toNatClampNeg 0).toInt = ((sy_ai F 44).getD (0 : Int).toNat 0).toInt := congrArg Int32.toInt q84
      exact k3pg_50_p1 hd F X1 X2 hB (by first | exact g0 | (simp only [nz_c]; exact g0)) (by first | exact g1 | (simp only [nz_c]; exact g1)) (by first | exact g2 | (simp only [nz_c]; exact g2)) (fun F1 g e6 => k1 g0 g1 g2 F1 (nz_in0 hB [6] (fun j hj hn => g j hj (by simp only [List.mem_cons, List.not_mem_nil, or_false, not_or] at hn; omega)) (List.forall_mem_cons.mpr ⟨fun t ht => (Option.some.inj ht) ▸ (nz_hz e6), List.forall_mem_nil _⟩)) (fun j hj hn => g j hj (by simp only [List.mem_cons, List.not_mem_nil, or_false, not_or] at hn; omega)) (nz_fi (g 33 (by decide) (by decide))) (nz_fi (g 34 (by decide) (by decide))) (nz_fi (g 36 (by decide) (by decide))) (nz_fi (g 37 (by decide) (by decide))) (nz_fi (g 38 (by decide) (by decide))) (nz_fi (g 3 (by decide) (by decide))) (nz_fi (g 4 (by decide) (by decide))) (nz_fi (g 5 (by decide) (by decide))) ((congrArg Int32.toInt (zz_i e6)).trans n84) (nz_fi (g 7 (by decide) (by decide))) (nz_fa (g 39 (by decide) (by decide))))
    replace g1 : (sy_i F 82).toInt = 8 := by omega
    have q84 : (sy_ai F 44).getD ((0 : Int32)).toNatClampNeg 0 = (sy_ai F 44).getD (0 : Int).toNat 0 := by simp only [nz_c, (by decide : ((0 : Int32)).toInt = 0)]
    have n84 : ((sy_ai F 44).getD ((0 : Int32)).toNatClampNeg 0).toInt = ((sy_ai F 44).getD (0 : Int).toNat 0).toInt := congrArg Int32.toInt q84
    exact k3pg_50_p2 hd F X1 X2 hB (by first | exact g0 | (simp only [nz_c]; exact g0)) (by first | exact g1 | (simp only [nz_c]; exact g1)) (fun F1 g e5 => k2 g0 g1 F1 (nz_in0 hB [5] (fun j hj hn => g j hj (by simp only [List.mem_cons, List.not_mem_nil, or_false, not_or] at hn; omega)) (List.forall_mem_cons.mpr ⟨fun t ht => (Option.some.inj ht) ▸ (nz_hz e5), List.forall_mem_nil _⟩)) (fun j hj hn => g j hj (by simp only [List.mem_cons, List.not_mem_nil, or_false, not_or] at hn; omega)) (nz_fi (g 33 (by decide) (by decide))) (nz_fi (g 34 (by decide) (by decide))) (nz_fi (g 36 (by decide) (by decide))) (nz_fi (g 37 (by decide) (by decide))) (nz_fi (g 38 (by decide) (by decide))) (nz_fi (g 3 (by decide) (by decide))) (nz_fi (g 4 (by decide) (by decide))) ((congrArg Int32.toInt (zz_i e5)).trans n84) (nz_fi (g 6 (by decide) (by decide))) (nz_fi (g 7 (by decide) (by decide))) (nz_fa (g 39 (by decide) (by decide))))
  replace g0 : (sy_i F 83).toInt = 0 := by omega
  exact k3pg_50_p3 hd F X1 X2 hB (by first | exact g0 | (simp only [nz_c]; exact g0)) (fun F1 g  => k3 g0 F1 (nz_in0 hB [] (fun j hj hn => g j hj (by simp only [List.mem_cons, List.not_mem_nil, or_false, not_or] at hn; exact trivial)) (List.forall_mem_nil _)) (fun j hj hn => g j hj (by simp only [List.mem_cons, List.not_mem_nil, or_false, not_or] at hn; exact trivial)) (nz_fi (g 33 (by decide) (by decide))) (nz_fi (g 34 (by decide) (by decide))) (nz_fi (g 36 (by decide) (by decide))) (nz_fi (g 37 (by decide) (by decide))) (nz_fi (g 38 (by decide) (by decide))) (nz_fi (g 3 (by decide) (by decide))) (nz_fi (g 4 (by decide) (by decide))) (nz_fi (g 5 (by decide) (by decide))) (nz_fi (g 6 (by decide) (by decide))) (nz_fi (g 7 (by decide) (by decide))) (nz_fa (g 39 (by decide) (by decide))))
end
section
/-! ===== the class parses numbers: what they are ===== -/
theorem ac_1 {A : Type} {r : sE ⊕ A} {J : A → (Nat → sy_d) → Prop} {x : Int32} {F' : Nat → sy_d} (h : ac r J x F') (q : x.toInt ≠ 0) : x = 1 := by
  rcases h with ⟨z, -⟩ | ⟨z, -⟩
  · rw [z] at q
    exact absurd (by decide) q
  · exact z
noncomputable def tnZ (i : Int) (lo hi : Int) (x : Int32) (F F' : Nat → sy_d) : Prop := tnR lo hi x F F' ∧ (x = 1 → tg F' = tg F + 1 ∧ ∃ v : Int32, v.toInt = vg F (tg F) ∧ sy_ai F' 44 = jm_upd (sy_ai F 44) i.toNat v)
theorem tnZ_src {i lo hi : Int} {x : Int32} {F F0 F' : Nat → sy_d} (h : tnZ i lo hi x F0 F') (e : ∀ q, q < 82 → F0 q = F q) : tnZ i lo hi x F F' := by
  refine ⟨tnR_src h.1 e, fun z => ?_⟩
  have h2 := h.2 z
  rw [tg_eq (nz_fi (e 33 (by decide))), vg_eq (e 41 (by decide)), nz_fa (e 44 (by decide))] at h2
  exact h2
/-- three numbers more in a row -/
noncomputable def nbC (own r : Nat) (F0 F' : Nat → sy_d) : Prop := tg F0 < tg F' ∧ (sy_i F' own).toInt = (sy_i F0 own).toInt + 1 ∧ ∃ a b c : Int32, a.toInt = vg F0 (tg F0 + 2) ∧ b.toInt = vg F0 (tg F0 + 3) ∧ c.toInt = vg F0 (tg F0 + 4) ∧ sy_ai F' r = jm_upd (sy_ai F0 r) (sy_i F0 own).toInt.toNat a ∧ sy_ai F' (r + 1) = jm_upd (sy_ai F0 (r + 1)) (sy_i F0 own).toInt.toNat b ∧ sy_ai F' (r + 2) = jm_upd (sy_ai F0 (r + 2)) (sy_i F0 own).toInt.toNat c
theorem sNm_rc {K : Nat → Int} {N : Nat → Int64} {t : Nat} {nm : List Int64} {w : sE} {q : Nat × sE} (h : sNm K N (t, nm, w) = .inr q) : q.1 = t + 1 := by
  unfold sNm at h
  cases hh : sM K 1 t with
  | inl e =>
    rw [hh] at h
    cases h
  | inr t' =>
    rw [hh] at h
    rw [← Sum.inr.inj h, ← sM_r hh]
theorem k0tn_TZ {Ls : Nat} {xs : Nat → Int32} (F : Nat → sy_d) (X1 X2 : List jm_c) (hB : iv_in F iv_B0) (a b c : Int32) (h1 : 0 ≤ a.toInt) (h2 : a.toInt ≤ 2) : jm_T Ls xs 4 jm_M42 [.ref 30, .int a, .int b, .int c] (sy_dh F X1 X2 (iv_H 0)) 0 0 (fun v G => ∃ (x : Int32) (F' : Nat → sy_d), v = some (.int x) ∧ G = sy_dh F' X1 X2 (iv_H 0) ∧ tnZ a.toInt b.toInt c.toInt x F F') := by
  refine nx_T (s := 0) (by decide) F X1 X2 (as := [a, b, c]) (A := [.inl (.ref 30), .inr (.inl 82), .inr (.inl 83), .inr (.inl 84)]) jm_ok42 (by decide) rfl ?_
  obtain ⟨F0, hF0⟩ : ∃ F0, F0 = nx 82 F [a, b, c] := ⟨_, rfl⟩
  rw [← hF0]
  have k0 : ∀ q, q < 82 → F0 q = F q := by rw [hF0]; exact nx_lt
  have i82 : sy_i F0 82 = a := by rw [hF0]; rfl
  have i83 : sy_i F0 83 = b := by rw [hF0]; rfl
  have i84 : sy_i F0 84 = c := by rw [hF0]; rfl
  have hB0 := hd_iveq0 hB k0
  have c33 := nz_bx hB0 (k := 33) (lo := 0) (hi := 400) rfl
  have et : (tg F0 : Int) = (sy_i F0 33).toInt := by unfold tg; omega
  have eK : kg F0 (tg F0) = 2 ↔ ((sy_ai F0 39).getD (sy_i F0 33).toInt.toNat 0).toInt = 24 := km_2
  have e1 : ((sy_i F0 33).toInt + 1 - 1).toNat = tg F0 := by unfold tg; omega
  refine k0ztn_0 (by decide) F0 X1 X2 hB0 (by rw [i82]; exact ⟨h1, h2⟩) ?_ ?_ ?_ ?_ ?_ ?_ ?_
  all_goals
    try rw [e1]
    have eV : vg F0 (tg F0) = (((sy_al F0 41).getD (tg F0) 0).toInt32).toInt := rfl
    have eP : pg F0 (tg F0) = ((sy_ai F0 40).getD (tg F0) 0).toInt := rfl
    intros
    rename_i F1 hb g e33 e34 e36 e37 e38 a39 a40 a44
    refine ⟨_, F1, rfl, rfl, tnZ_src ⟨⟨gc_mk hb g (by decide), fun w hw => ?_⟩, fun zz => ?_⟩ k0⟩
    rotate_left
    · first
        | exact absurd zz (by decide)
        | exact ⟨tg_s c33.1 e33, _, rfl, by rw [a44, i82]⟩
    rw [← i83, ← i84]
  all_goals first
    | exact ac_er (k := 1) (t := tg F0) (sN_no (by omega)) e34 (tg_eq e33)
    | exact ac_er (k := 2) (t := tg F0) (sN_4 (by omega) (by omega)) e34 (tg_eq e33)
    | exact ac_ok (sN_ok (by omega) (by omega)) ⟨tg_s c33.1 e33, wc_s (by decide) hw (by omega)⟩
section Sk0vf
variable {Ls : Nat} {xs : Nat → Int32} (X1 X2 : List jm_c) (F0 : Nat → sy_d) (r0 : sE ⊕ sT) (fr bu : Nat) (nm : List Int64)
theorem k0vf_6 (h0 : (sy_i F0 18).toInt = fr ∧ (sy_i F0 19).toInt = bu ∧ (sy_i F0 38).toInt ≤ fr + bu) (hlt : (sy_i F0 18).toInt < 7) (F : Nat → sy_d) (g0 : gc WN F0 F) (w : sE) (hw : wc (pg F0) w F) (hn : ncr (nm ++ [ng F0 (tg F0 + 1)]) F) (h38 : (sy_i F 38).toInt ≤ fr + bu + 1) (ht0 : tg F = tg F0 + 5) (n0 : ((sy_ai F 44).getD 0 0).toInt = vg F0 (tg F0 + 2)) (n1 : ((sy_ai F 44).getD 1 0).toInt = vg F0 (tg F0 + 3)) (n2 : ((sy_ai F 44).getD 2 0).toInt = vg F0 (tg F0 + 4)) (hr : r0 = n4 (kg F0) (fun q => .inr (q.1, fr + 1, bu, nm ++ [ng F0 (tg F0 + 1)], q.2)) (tg F, w)) :
    hd_W Ls xs 5 jm_M33 (fun v G => ∃ (x : Int32) (F' : Nat → sy_d), v = some (.int x) ∧ G = sy_dh F' X1 X2 (iv_H 0) ∧ gc k0pf_W F0 F' ∧ ac r0 (rcl (pg F0) 18 19) x F' ∧ (x = 1 → nbC 18 24 F0 F')) (69, sy_dL F [some (.inl (.ref 30)), none], sy_dS F [.inl (.int 59), .inl (.ref 30)], sy_dh F X1 X2 (iv_H 0), 0, 0) := by
  refine hd_calI (R := fun x F' => taR ((59 : Int32)).toInt x F F') (nh := 82) (nv := 82) (s := 0) (s1 := 0) (d1 := 3) (M1 := jm_M43) (As := [.inl (.ref 30), .inl (.int 59)]) (rest := []) jm_ok33 rfl rfl (by decide) (by decide +kernel) (k0ta_T F X1 X2 g0.1 59) (fun F3 F' x hR p1 p2 p3 => ?_)
  have hR : taR 59 x F F' := hR
  obtain ⟨r1, r2⟩ := taR_dst hR p1
  have r2 := r2 (km_in (j := 4) (fun c => km_4) (by decide))
  rw [show km 59 = 4 by decide, kg_eq (g0.2 39 (by decide) (by decide))] at r2
  have g3 : gc WN F0 F3 := g0.trans r1 (by decide)
  have hx : sy_i F3 82 = x := zz_i p3
  have hx1 : (sy_i F3 82).toInt ≠ 0 → x = 1 := fun q => ac_1 r2 (by rw [← hx]; exact q)
  rw [← hx] at r2
  obtain ⟨y0, y1⟩ := x01' r2
  have f1 := g3.i (k := 18) (by decide) (by decide)
  have f2 := g3.i (k := 19) (by decide) (by decide)
  have i36 := r1.i (k := 36) (by decide) (by decide)
  have i37 := r1.i (k := 37) (by decide) (by decide)
  have i38 := r1.i (k := 38) (by decide) (by decide)
  refine k0zpf_72 (by decide) F3 X1 X2 g3.1 ?_ ?_ ?_
  · intro q F4 hb g e33 e34 e36 e37 e38 eFR eBU a39 aR0 aR1 aR2
    refine ⟨_, F4, rfl, rfl, (g3.mono (by decide)).trans (gc_mk (W := k0pf_W) hb g (by decide)) (fun _ q => q), Or.inl ⟨rfl, ?_⟩, fun zz => absurd zz (by decide)⟩
    rw [hr, n4, y0 q, e34, tg_eq e33]
    rfl
  · intros; exfalso; omega
  · intro q _ F4 hb g e33 e34 e36 e37 e38 eFR eBU a39 aR0 aR1 aR2
    obtain ⟨t, ht, hJ⟩ := y1 q
    have t3 : tg F3 = tg F + 1 := by rw [hJ]; exact sM_r ht
    have c44 : sy_ai F3 44 = sy_ai F 44 := nz_fa (r1.2 44 (by decide) (by decide))
    have f3 : (sy_i F3 18).toInt = (sy_i F0 18).toInt := f1
    have z0 : sy_ai F3 24 = sy_ai F0 24 := nz_fa (g3.2 24 (by decide) (by decide))
    have z1 : sy_ai F3 25 = sy_ai F0 25 := nz_fa (g3.2 25 (by decide) (by decide))
    have z2 : sy_ai F3 26 = sy_ai F0 26 := nz_fa (g3.2 26 (by decide) (by decide))
    refine ⟨_, F4, rfl, rfl, (g3.mono (by decide)).trans (gc_mk (W := k0pf_W) hb g (by decide)) (fun _ q => q), ac_ok (by rw [hr, n4, ht]; rfl) ⟨by rw [tg_eq e33]; exact hJ, ?_, ?_, ncr_eq hn ((g 43 (by decide) (by decide)).trans (r1.2 43 (by decide) (by decide))) (by omega), wc_eq hw (by omega) (by omega), ?_⟩, fun _ => ⟨by rw [tg_eq e33]; omega, by omega, (sy_ai F 44).getD 0 0, (sy_ai F 44).getD 1 0, (sy_ai F 44).getD 2 0, n0, n1, n2, by rw [aR0, z0, c44, f3]; rfl, by rw [aR1, z1, c44, f3]; rfl, by rw [aR2, z2, c44, f3]; rfl⟩⟩
    · show (sy_i F4 18).toInt = ((fr + 1 : Nat) : Int)
      omega
    · show (sy_i F4 19).toInt = ((bu : Nat) : Int)
      omega
    · show (sy_i F4 38).toInt ≤ ((fr + 1 : Nat) : Int) + ((bu : Nat) : Int)
      omega
theorem k0vf_5 (h0 : (sy_i F0 18).toInt = fr ∧ (sy_i F0 19).toInt = bu ∧ (sy_i F0 38).toInt ≤ fr + bu) (hlt : (sy_i F0 18).toInt < 7) (F : Nat → sy_d) (g0 : gc WN F0 F) (w : sE) (hw : wc (pg F0) w F) (hn : ncr (nm ++ [ng F0 (tg F0 + 1)]) F) (h38 : (sy_i F 38).toInt ≤ fr + bu + 1) (ht0 : tg F = tg F0 + 4) (n0 : ((sy_ai F 44).getD 0 0).toInt = vg F0 (tg F0 + 2)) (n1 : ((sy_ai F 44).getD 1 0).toInt = vg F0 (tg F0 + 3)) (hr : r0 = n3 (kg F0) (vg F0) (0, 99) (fun q => .inr (q.1, fr + 1, bu, nm ++ [ng F0 (tg F0 + 1)], q.2)) (tg F, w)) :
    hd_W Ls xs 5 jm_M33 (fun v G => ∃ (x : Int32) (F' : Nat → sy_d), v = some (.int x) ∧ G = sy_dh F' X1 X2 (iv_H 0) ∧ gc k0pf_W F0 F' ∧ ac r0 (rcl (pg F0) 18 19) x F' ∧ (x = 1 → nbC 18 24 F0 F')) (60, sy_dL F [some (.inl (.ref 30)), none], sy_dS F [.inl (.int 99), .inl (.int 0), .inl (.int 2), .inl (.ref 30)], sy_dh F X1 X2 (iv_H 0), 0, 0) := by
  refine hd_calI (R := fun x F' => tnZ 2 ((0 : Int32)).toInt ((99 : Int32)).toInt x F F') (nh := 82) (nv := 82) (s := 0) (s1 := 0) (d1 := 4) (M1 := jm_M42) (As := [.inl (.ref 30), .inl (.int 2), .inl (.int 0), .inl (.int 99)]) (rest := []) jm_ok33 rfl rfl (by decide) (by decide +kernel) (k0tn_TZ F X1 X2 g0.1 2 0 99 (by decide) (by decide)) (fun F3 F' x hR p1 p2 p3 => ?_)
  obtain ⟨hR, hv⟩ : tnZ 2 0 99 x F F' := hR
  obtain ⟨r1, r2⟩ := tnR_dst hR p1
  rw [kg_eq (g0.2 39 (by decide) (by decide)), pg_eq (g0.2 40 (by decide) (by decide)), vg_eq (g0.2 41 (by decide) (by decide))] at r2
  have r2 := r2 w hw
  have g3 : gc WN F0 F3 := g0.trans r1 (by decide)
  have hx : sy_i F3 82 = x := zz_i p3
  have hx1 : (sy_i F3 82).toInt ≠ 0 → x = 1 := fun q => ac_1 r2 (by rw [← hx]; exact q)
  rw [← hx] at r2
  obtain ⟨y0, y1⟩ := x01' r2
  have i38 := r1.i (k := 38) (by decide) (by decide)
  refine k0pf_63 (by decide) F3 X1 X2 g3.1 ?_ ?_
  · intro q F4 hb g e33 e34 e36 e37 e38 eFR eBU a39
    refine ⟨_, F4, rfl, rfl, (g3.mono (by decide)).trans (gc_mk (W := k0pf_W) hb g (by decide)) (fun _ q => q), Or.inl ⟨rfl, ?_⟩, fun zz => absurd zz (by decide)⟩
    rw [hr, n3, y0 q, e34, tg_eq e33]
    rfl
  · intro q F4 hb g e33 e34 e36 e37 e38 eFR eBU a39
    obtain ⟨⟨t, w'⟩, ht, hJ1, hJ2⟩ := y1 q
    have hJ1 : tg F3 = t := hJ1
    subst hJ1
    obtain ⟨hv1, v, hv2, hv3⟩ := hv (hx1 q)
    rw [vg_eq (g0.2 41 (by decide) (by decide)), ht0] at hv2
    have a44 : sy_ai F4 44 = jm_upd (sy_ai F 44) 2 v := ((nz_fa (g 44 (by decide) (by decide))).trans (nz_fa (p1 44 (by decide)))).trans hv3
    have t3 : tg F3 = tg F + 1 := (tg_eq (nz_fi (p1 33 (by decide)))).trans hv1
    exact k0vf_6 X1 X2 F0 r0 fr bu nm h0 hlt F4 (g3.trans (gc_mk (W := WN) hb g (by decide)) (fun _ q => q)) w' (wc_eq hJ2 e36 e37) (ncr_eq hn ((g 43 (by decide) (by decide)).trans (r1.2 43 (by decide) (by decide))) (by omega)) (by omega) (by rw [tg_eq e33, t3, ht0]) (by rw [a44, jm_upd_at, if_neg (by decide)]; exact n0) (by rw [a44, jm_upd_at, if_neg (by decide)]; exact n1) (by rw [a44, jm_upd_at, if_pos rfl]; exact hv2) (by rw [hr, n3, ht, tg_eq e33]; rfl)
theorem k0vf_4 (h0 : (sy_i F0 18).toInt = fr ∧ (sy_i F0 19).toInt = bu ∧ (sy_i F0 38).toInt ≤ fr + bu) (hlt : (sy_i F0 18).toInt < 7) (F : Nat → sy_d) (g0 : gc WN F0 F) (w : sE) (hw : wc (pg F0) w F) (hn : ncr (nm ++ [ng F0 (tg F0 + 1)]) F) (h38 : (sy_i F 38).toInt ≤ fr + bu + 1) (ht0 : tg F = tg F0 + 3) (n0 : ((sy_ai F 44).getD 0 0).toInt = vg F0 (tg F0 + 2)) (hr : r0 = n2 (kg F0) (vg F0) (1, 9) (0, 99) (fun q => .inr (q.1, fr + 1, bu, nm ++ [ng F0 (tg F0 + 1)], q.2)) (tg F, w)) :
    hd_W Ls xs 5 jm_M33 (fun v G => ∃ (x : Int32) (F' : Nat → sy_d), v = some (.int x) ∧ G = sy_dh F' X1 X2 (iv_H 0) ∧ gc k0pf_W F0 F' ∧ ac r0 (rcl (pg F0) 18 19) x F' ∧ (x = 1 → nbC 18 24 F0 F')) (49, sy_dL F [some (.inl (.ref 30)), none], sy_dS F [.inl (.int 9), .inl (.int 1), .inl (.int 1), .inl (.ref 30)], sy_dh F X1 X2 (iv_H 0), 0, 0) := by
  refine hd_calI (R := fun x F' => tnZ 1 ((1 : Int32)).toInt ((9 : Int32)).toInt x F F') (nh := 82) (nv := 82) (s := 0) (s1 := 0) (d1 := 4) (M1 := jm_M42) (As := [.inl (.ref 30), .inl (.int 1), .inl (.int 1), .inl (.int 9)]) (rest := []) jm_ok33 rfl rfl (by decide) (by decide +kernel) (k0tn_TZ F X1 X2 g0.1 1 1 9 (by decide) (by decide)) (fun F3 F' x hR p1 p2 p3 => ?_)
  obtain ⟨hR, hv⟩ : tnZ 1 1 9 x F F' := hR
  obtain ⟨r1, r2⟩ := tnR_dst hR p1
  rw [kg_eq (g0.2 39 (by decide) (by decide)), pg_eq (g0.2 40 (by decide) (by decide)), vg_eq (g0.2 41 (by decide) (by decide))] at r2
  have r2 := r2 w hw
  have g3 : gc WN F0 F3 := g0.trans r1 (by decide)
  have hx : sy_i F3 82 = x := zz_i p3
  have hx1 : (sy_i F3 82).toInt ≠ 0 → x = 1 := fun q => ac_1 r2 (by rw [← hx]; exact q)
  rw [← hx] at r2
  obtain ⟨y0, y1⟩ := x01' r2
  have i38 := r1.i (k := 38) (by decide) (by decide)
  refine k0pf_52 (by decide) F3 X1 X2 g3.1 ?_ ?_
  · intro q F4 hb g e33 e34 e36 e37 e38 eFR eBU a39
    refine ⟨_, F4, rfl, rfl, (g3.mono (by decide)).trans (gc_mk (W := k0pf_W) hb g (by decide)) (fun _ q => q), Or.inl ⟨rfl, ?_⟩, fun zz => absurd zz (by decide)⟩
    rw [hr, n2, y0 q, e34, tg_eq e33]
    rfl
  · intro q F4 hb g e33 e34 e36 e37 e38 eFR eBU a39
    obtain ⟨⟨t, w'⟩, ht, hJ1, hJ2⟩ := y1 q
    have hJ1 : tg F3 = t := hJ1
    subst hJ1
    obtain ⟨hv1, v, hv2, hv3⟩ := hv (hx1 q)
    rw [vg_eq (g0.2 41 (by decide) (by decide)), ht0] at hv2
    have a44 : sy_ai F4 44 = jm_upd (sy_ai F 44) 1 v := ((nz_fa (g 44 (by decide) (by decide))).trans (nz_fa (p1 44 (by decide)))).trans hv3
    have t3 : tg F3 = tg F + 1 := (tg_eq (nz_fi (p1 33 (by decide)))).trans hv1
    exact k0vf_5 X1 X2 F0 r0 fr bu nm h0 hlt F4 (g3.trans (gc_mk (W := WN) hb g (by decide)) (fun _ q => q)) w' (wc_eq hJ2 e36 e37) (ncr_eq hn ((g 43 (by decide) (by decide)).trans (r1.2 43 (by decide) (by decide))) (by omega)) (by omega) (by rw [tg_eq e33, t3, ht0]) (by rw [a44, jm_upd_at, if_neg (by decide)]; exact n0) (by rw [a44, jm_upd_at, if_pos rfl]; exact hv2) (by rw [hr, n2, ht, tg_eq e33]; rfl)
theorem k0vf_3 (h0 : (sy_i F0 18).toInt = fr ∧ (sy_i F0 19).toInt = bu ∧ (sy_i F0 38).toInt ≤ fr + bu) (hlt : (sy_i F0 18).toInt < 7) (F : Nat → sy_d) (g0 : gc WN F0 F) (w : sE) (hw : wc (pg F0) w F) (hn : ncr (nm ++ [ng F0 (tg F0 + 1)]) F) (h38 : (sy_i F 38).toInt ≤ fr + bu + 1) (ht0 : tg F = tg F0 + 2) (hr : r0 = n1 (kg F0) (vg F0) (1, 9) (0, 99) (fun q => .inr (q.1, fr + 1, bu, nm ++ [ng F0 (tg F0 + 1)], q.2)) (0, 9) (tg F, w)) :
    hd_W Ls xs 5 jm_M33 (fun v G => ∃ (x : Int32) (F' : Nat → sy_d), v = some (.int x) ∧ G = sy_dh F' X1 X2 (iv_H 0) ∧ gc k0pf_W F0 F' ∧ ac r0 (rcl (pg F0) 18 19) x F' ∧ (x = 1 → nbC 18 24 F0 F')) (38, sy_dL F [some (.inl (.ref 30)), none], sy_dS F [.inl (.int 9), .inl (.int 0), .inl (.int 0), .inl (.ref 30)], sy_dh F X1 X2 (iv_H 0), 0, 0) := by
  refine hd_calI (R := fun x F' => tnZ 0 ((0 : Int32)).toInt ((9 : Int32)).toInt x F F') (nh := 82) (nv := 82) (s := 0) (s1 := 0) (d1 := 4) (M1 := jm_M42) (As := [.inl (.ref 30), .inl (.int 0), .inl (.int 0), .inl (.int 9)]) (rest := []) jm_ok33 rfl rfl (by decide) (by decide +kernel) (k0tn_TZ F X1 X2 g0.1 0 0 9 (by decide) (by decide)) (fun F3 F' x hR p1 p2 p3 => ?_)
  obtain ⟨hR, hv⟩ : tnZ 0 0 9 x F F' := hR
  obtain ⟨r1, r2⟩ := tnR_dst hR p1
  rw [kg_eq (g0.2 39 (by decide) (by decide)), pg_eq (g0.2 40 (by decide) (by decide)), vg_eq (g0.2 41 (by decide) (by decide))] at r2
  have r2 := r2 w hw
  have g3 : gc WN F0 F3 := g0.trans r1 (by decide)
  have hx : sy_i F3 82 = x := zz_i p3
  have hx1 : (sy_i F3 82).toInt ≠ 0 → x = 1 := fun q => ac_1 r2 (by rw [← hx]; exact q)
  rw [← hx] at r2
  obtain ⟨y0, y1⟩ := x01' r2
  have i38 := r1.i (k := 38) (by decide) (by decide)
  refine k0pf_41 (by decide) F3 X1 X2 g3.1 ?_ ?_
  · intro q F4 hb g e33 e34 e36 e37 e38 eFR eBU a39
    refine ⟨_, F4, rfl, rfl, (g3.mono (by decide)).trans (gc_mk (W := k0pf_W) hb g (by decide)) (fun _ q => q), Or.inl ⟨rfl, ?_⟩, fun zz => absurd zz (by decide)⟩
    rw [hr, n1, y0 q, e34, tg_eq e33]
    rfl
  · intro q F4 hb g e33 e34 e36 e37 e38 eFR eBU a39
    obtain ⟨⟨t, w'⟩, ht, hJ1, hJ2⟩ := y1 q
    have hJ1 : tg F3 = t := hJ1
    subst hJ1
    obtain ⟨hv1, v, hv2, hv3⟩ := hv (hx1 q)
    rw [vg_eq (g0.2 41 (by decide) (by decide)), ht0] at hv2
    have a44 : sy_ai F4 44 = jm_upd (sy_ai F 44) 0 v := ((nz_fa (g 44 (by decide) (by decide))).trans (nz_fa (p1 44 (by decide)))).trans hv3
    have t3 : tg F3 = tg F + 1 := (tg_eq (nz_fi (p1 33 (by decide)))).trans hv1
    exact k0vf_4 X1 X2 F0 r0 fr bu nm h0 hlt F4 (g3.trans (gc_mk (W := WN) hb g (by decide)) (fun _ q => q)) w' (wc_eq hJ2 e36 e37) (ncr_eq hn ((g 43 (by decide) (by decide)).trans (r1.2 43 (by decide) (by decide))) (by omega)) (by omega) (by rw [tg_eq e33, t3, ht0]) (by rw [a44, jm_upd_at, if_pos rfl]; exact hv2) (by rw [hr, n1, ht, tg_eq e33]; rfl)
theorem k0vf_2 (h0 : (sy_i F0 18).toInt = fr ∧ (sy_i F0 19).toInt = bu ∧ (sy_i F0 38).toInt ≤ fr + bu) (hlt : (sy_i F0 18).toInt < 7) (F : Nat → sy_d) (g0 : gc WN F0 F) (w : sE) (hw : wc (pg F0) w F) (hn : ncr nm F) (h38 : (sy_i F 38).toInt ≤ fr + bu) (ht1 : tg F = tg F0 + 1) (hr : r0 = sB (sNm (kg F0) (ng F0) (tg F, nm, w)) (n1 (kg F0) (vg F0) (1, 9) (0, 99) (fun q => .inr (q.1, fr + 1, bu, nm ++ [ng F0 (tg F0 + 1)], q.2)) (0, 9))) :
    hd_W Ls xs 5 jm_M33 (fun v G => ∃ (x : Int32) (F' : Nat → sy_d), v = some (.int x) ∧ G = sy_dh F' X1 X2 (iv_H 0) ∧ gc k0pf_W F0 F' ∧ ac r0 (rcl (pg F0) 18 19) x F' ∧ (x = 1 → nbC 18 24 F0 F')) (27, sy_dL F [some (.inl (.ref 30)), none], sy_dS F [.inl (.ref 30)], sy_dh F X1 X2 (iv_H 0), 0, 0) := by
  have f1 := g0.i (k := 18) (by decide) (by decide)
  have f2 := g0.i (k := 19) (by decide) (by decide)
  have d1 := nz_bx g0.1 (k := 18) (lo := 0) (hi := 7) rfl
  have d2 := nz_bx g0.1 (k := 19) (lo := 0) (hi := 4) rfl
  refine hd_calI (R := fun x F' => tmR x F F') (nh := 82) (nv := 82) (s := 0) (s1 := 0) (d1 := 4) (M1 := jm_M41) (As := [.inl (.ref 30)]) (rest := []) jm_ok33 rfl rfl (by decide) (by decide +kernel) (k0tm_T F X1 X2 g0.1 (by omega)) (fun F3 F' x hR p1 p2 p3 => ?_)
  obtain ⟨r1, rl, r2⟩ := tmR_dst hR p1
  rw [kg_eq (g0.2 39 (by decide) (by decide)), pg_eq (g0.2 40 (by decide) (by decide)), ng_eq (g0.2 41 (by decide) (by decide))] at r2
  have r2 := r2 w nm hw hn
  have g3 : gc WN F0 F3 := g0.trans r1 (by decide)
  have hx : sy_i F3 82 = x := zz_i p3
  have hx1 : (sy_i F3 82).toInt ≠ 0 → x = 1 := fun q => ac_1 r2 (by rw [← hx]; exact q)
  rw [← hx] at r2
  obtain ⟨y0, y1⟩ := x01' r2
  refine k0pf_30 (by decide) F3 X1 X2 g3.1 ?_ ?_
  · intro q F4 hb g e33 e34 e36 e37 e38 eFR eBU a39
    refine ⟨_, F4, rfl, rfl, (g3.mono (by decide)).trans (gc_mk (W := k0pf_W) hb g (by decide)) (fun _ q => q), Or.inl ⟨rfl, ?_⟩, fun zz => absurd zz (by decide)⟩
    rw [hr, y0 q, e34, tg_eq e33]
    rfl
  · intro q F4 hb g e33 e34 e36 e37 e38 eFR eBU a39
    obtain ⟨⟨t, w'⟩, ht, hJ1, hJ2, hJ3⟩ := y1 q
    have hJ1 : tg F3 = t := hJ1
    subst hJ1
    have t3 : tg F3 = tg F + 1 := sNm_rc ht
    rw [ht1] at hJ3
    exact k0vf_3 X1 X2 F0 r0 fr bu nm h0 hlt F4 (g3.trans (gc_mk (W := WN) hb g (by decide)) (fun _ q => q)) w' (wc_eq hJ2 e36 e37) (ncr_eq hJ3 (g 43 (by decide) (by decide)) e38) (by omega) (by rw [tg_eq e33, t3, ht1]) (by rw [hr, ht, tg_eq e33]; rfl)
end Sk0vf
theorem k0vf_T {Ls : Nat} {xs : Nat → Int32} (X1 X2 : List jm_c) (F : Nat → sy_d) (hB : iv_in F iv_B0) (hk : kg F (tg F) = 20) (x : sT) (hx : rcl (pg F) 18 19 x F) : jm_T Ls xs 5 jm_M33 [.ref 30] (sy_dh F X1 X2 (iv_H 0)) 0 0 (fun v G => ∃ (y : Int32) (F' : Nat → sy_d), v = some (.int y) ∧ G = sy_dh F' X1 X2 (iv_H 0) ∧ gc k0pf_W F F' ∧ ac (sFruit (kg F) (vg F) (ng F) x) (rcl (pg F) 18 19) y F' ∧ (y = 1 → nbC 18 24 F F')) := by
  obtain ⟨t, fr, bu, nm, w⟩ := x
  obtain ⟨x1, x2, x3, x4, x5, x6⟩ := hx
  have x1 : tg F = t := x1
  subst x1
  have x2 : (sy_i F 18).toInt = fr := x2
  have x3 : (sy_i F 19).toInt = bu := x3
  have x6 : (sy_i F 38).toInt ≤ fr + bu := x6
  have c33 := nz_bx hB (k := 33) (lo := 0) (hi := 400) rfl
  have dF := nz_bx hB (k := 18) (lo := 0) (hi := 7) rfl
  refine hd_T (As := [.inl (.ref 30)]) jm_ok33 (by decide) (k0pf_0 (by decide) F X1 X2 hB ?_ ?_)
  · intro q F1 hb g e33 e34 e36 e37 e38 eFR eBU a39
    have g0 : ∀ q, q < 82 → F1 q = F q := fun q hq => g q hq (by simp)
    refine hd_calI (R := fun x F' => taR ((0 : Int32)).toInt x F1 F') (nh := 82) (nv := 82) (s := 0) (s1 := 0) (d1 := 3) (M1 := jm_M43) (As := [.inl (.ref 30), .inl (.int 0)]) (rest := []) jm_ok33 rfl rfl (by decide) (by decide +kernel) (k0ta_T F1 X1 X2 hb 0) (fun F3 F' x hR p1 p2 p3 => ?_)
    have hR : taR 0 x F1 F' := hR
    obtain ⟨r1, r2⟩ := taR_src (taR_dst hR p1) g0
    have r2 := r2 (km_in (j := 20) (fun c => km_w (by decide) (by decide)) (by decide))
    rw [show km 0 = 20 by decide, show sM (kg F) 20 (tg F) = sG (tg F) by unfold sM; rw [if_pos hk]] at r2
    have g3 : gc WN F F3 := r1.mono (by decide)
    have hx : sy_i F3 82 = x := zz_i p3
    have hx1 : (sy_i F3 82).toInt ≠ 0 → x = 1 := fun q => ac_1 r2 (by rw [← hx]; exact q)
    rw [← hx] at r2
    obtain ⟨y0, y1⟩ := x01' r2
    have i36 := r1.i (k := 36) (by decide) (by decide)
    have i37 := r1.i (k := 37) (by decide) (by decide)
    have i38 := r1.i (k := 38) (by decide) (by decide)
    have hS : sFruit (kg F) (vg F) (ng F) (tg F, fr, bu, nm, w) = sB (sG (tg F)) fun t => sB (sTell (kg F) (vg F) (ng F) (0, 9) (1, 9) (0, 99) (t, nm, w)) fun q => .inr (q.1, fr + 1, bu, nm ++ [ng F t], q.2) := sF_n (by omega)
    refine k0pf_23 (by decide) F3 X1 X2 g3.1 ?_ ?_
    · intro q F4 hb g e33 e34 e36 e37 e38 eFR eBU a39
      refine ⟨_, F4, rfl, rfl, (g3.mono (by decide)).trans (gc_mk (W := k0pf_W) hb g (by decide)) (fun _ q => q), Or.inl ⟨rfl, ?_⟩, fun zz => absurd zz (by decide)⟩
      rw [hS, y0 q, e34, tg_eq e33]
      rfl
    · intro q F4 hb g d33 d34 d36 d37 d38 dFR dBU b39
      obtain ⟨t, ht, hJ⟩ := y1 q
      have h4 : tg F < 400 := by
        by_cases z : tg F = 400
        · rw [sG_4 z] at ht
          cases ht
        · unfold tg at z ⊢
          omega
      rw [sG_ok h4] at ht
      have et : t = tg F + 1 := (Sum.inr.inj ht).symm
      refine k0vf_2 X1 X2 F _ fr bu nm ⟨x2, x3, x6⟩ (by omega) F4 (g3.trans (gc_mk (W := WN) hb g (by decide)) (fun _ q => q)) w (wc_eq x5 (by omega) (by omega)) (ncr_eq x4 ((g 43 (by decide) (by decide)).trans (r1.2 43 (by decide) (by decide))) (by omega)) (by omega) (by rw [tg_eq d33, hJ, et]) ?_
      rw [hS, sG_ok h4, tg_eq d33, hJ, et]
      exact n_eq (kg F) (vg F) (1, 9) (0, 99) (fun q => .inr (q.1, fr + 1, bu, nm ++ [ng F (tg F + 1)], q.2)) (ng F) (0, 9) (tg F + 1, nm, w)
  · intro q F1 hb g e33 e34 e36 e37 e38 eFR eBU a39
    exact ⟨_, F1, rfl, rfl, gc_mk hb g (by decide), Or.inl ⟨rfl, by rw [sF_7 (by omega), e34, tg_eq e33]⟩, fun zz => absurd zz (by decide)⟩
section Sk0vb
variable {Ls : Nat} {xs : Nat → Int32} (X1 X2 : List jm_c) (F0 : Nat → sy_d) (r0 : sE ⊕ sT) (fr bu : Nat) (nm : List Int64)
theorem k0vb_6 (h0 : (sy_i F0 18).toInt = fr ∧ (sy_i F0 19).toInt = bu ∧ (sy_i F0 38).toInt ≤ fr + bu) (hlt : (sy_i F0 19).toInt < 4) (F : Nat → sy_d) (g0 : gc WN F0 F) (w : sE) (hw : wc (pg F0) w F) (hn : ncr (nm ++ [ng F0 (tg F0 + 1)]) F) (h38 : (sy_i F 38).toInt ≤ fr + bu + 1) (ht0 : tg F = tg F0 + 5) (n0 : ((sy_ai F 44).getD 0 0).toInt = vg F0 (tg F0 + 2)) (n1 : ((sy_ai F 44).getD 1 0).toInt = vg F0 (tg F0 + 3)) (n2 : ((sy_ai F 44).getD 2 0).toInt = vg F0 (tg F0 + 4)) (hr : r0 = n4 (kg F0) (fun q => .inr (q.1, fr, bu + 1, nm ++ [ng F0 (tg F0 + 1)], q.2)) (tg F, w)) :
    hd_W Ls xs 5 jm_M34 (fun v G => ∃ (x : Int32) (F' : Nat → sy_d), v = some (.int x) ∧ G = sy_dh F' X1 X2 (iv_H 0) ∧ gc k0pb_W F0 F' ∧ ac r0 (rcl (pg F0) 18 19) x F' ∧ (x = 1 → nbC 19 28 F0 F')) (68, sy_dL F [some (.inl (.ref 30)), none], sy_dS F [.inl (.int 59), .inl (.ref 30)], sy_dh F X1 X2 (iv_H 0), 0, 0) := by
  refine hd_calI (R := fun x F' => taR ((59 : Int32)).toInt x F F') (nh := 82) (nv := 82) (s := 0) (s1 := 0) (d1 := 3) (M1 := jm_M43) (As := [.inl (.ref 30), .inl (.int 59)]) (rest := []) jm_ok34 rfl rfl (by decide) (by decide +kernel) (k0ta_T F X1 X2 g0.1 59) (fun F3 F' x hR p1 p2 p3 => ?_)
  have hR : taR 59 x F F' := hR
  obtain ⟨r1, r2⟩ := taR_dst hR p1
  have r2 := r2 (km_in (j := 4) (fun c => km_4) (by decide))
  rw [show km 59 = 4 by decide, kg_eq (g0.2 39 (by decide) (by decide))] at r2
  have g3 : gc WN F0 F3 := g0.trans r1 (by decide)
  have hx : sy_i F3 82 = x := zz_i p3
  have hx1 : (sy_i F3 82).toInt ≠ 0 → x = 1 := fun q => ac_1 r2 (by rw [← hx]; exact q)
  rw [← hx] at r2
  obtain ⟨y0, y1⟩ := x01' r2
  have f1 := g3.i (k := 18) (by decide) (by decide)
  have f2 := g3.i (k := 19) (by decide) (by decide)
  have i36 := r1.i (k := 36) (by decide) (by decide)
  have i37 := r1.i (k := 37) (by decide) (by decide)
  have i38 := r1.i (k := 38) (by decide) (by decide)
  refine k0zpb_71 (by decide) F3 X1 X2 g3.1 ?_ ?_ ?_
  · intro q F4 hb g e33 e34 e36 e37 e38 eFR eBU a39 aR0 aR1 aR2
    refine ⟨_, F4, rfl, rfl, (g3.mono (by decide)).trans (gc_mk (W := k0pb_W) hb g (by decide)) (fun _ q => q), Or.inl ⟨rfl, ?_⟩, fun zz => absurd zz (by decide)⟩
    rw [hr, n4, y0 q, e34, tg_eq e33]
    rfl
  · intros; exfalso; omega
  · intro q _ F4 hb g e33 e34 e36 e37 e38 eFR eBU a39 aR0 aR1 aR2
    obtain ⟨t, ht, hJ⟩ := y1 q
    have t3 : tg F3 = tg F + 1 := by rw [hJ]; exact sM_r ht
    have c44 : sy_ai F3 44 = sy_ai F 44 := nz_fa (r1.2 44 (by decide) (by decide))
    have f3 : (sy_i F3 19).toInt = (sy_i F0 19).toInt := f2
    have z0 : sy_ai F3 28 = sy_ai F0 28 := nz_fa (g3.2 28 (by decide) (by decide))
    have z1 : sy_ai F3 29 = sy_ai F0 29 := nz_fa (g3.2 29 (by decide) (by decide))
    have z2 : sy_ai F3 30 = sy_ai F0 30 := nz_fa (g3.2 30 (by decide) (by decide))
    refine ⟨_, F4, rfl, rfl, (g3.mono (by decide)).trans (gc_mk (W := k0pb_W) hb g (by decide)) (fun _ q => q), ac_ok (by rw [hr, n4, ht]; rfl) ⟨by rw [tg_eq e33]; exact hJ, ?_, ?_, ncr_eq hn ((g 43 (by decide) (by decide)).trans (r1.2 43 (by decide) (by decide))) (by omega), wc_eq hw (by omega) (by omega), ?_⟩, fun _ => ⟨by rw [tg_eq e33]; omega, by omega, (sy_ai F 44).getD 0 0, (sy_ai F 44).getD 1 0, (sy_ai F 44).getD 2 0, n0, n1, n2, by rw [aR0, z0, c44, f3]; rfl, by rw [aR1, z1, c44, f3]; rfl, by rw [aR2, z2, c44, f3]; rfl⟩⟩
    · show (sy_i F4 18).toInt = ((fr : Nat) : Int)
      omega
    · show (sy_i F4 19).toInt = ((bu + 1 : Nat) : Int)
      omega
    · show (sy_i F4 38).toInt ≤ ((fr : Nat) : Int) + ((bu + 1 : Nat) : Int)
      omega
theorem k0vb_5 (h0 : (sy_i F0 18).toInt = fr ∧ (sy_i F0 19).toInt = bu ∧ (sy_i F0 38).toInt ≤ fr + bu) (hlt : (sy_i F0 19).toInt < 4) (F : Nat → sy_d) (g0 : gc WN F0 F) (w : sE) (hw : wc (pg F0) w F) (hn : ncr (nm ++ [ng F0 (tg F0 + 1)]) F) (h38 : (sy_i F 38).toInt ≤ fr + bu + 1) (ht0 : tg F = tg F0 + 4) (n0 : ((sy_ai F 44).getD 0 0).toInt = vg F0 (tg F0 + 2)) (n1 : ((sy_ai F 44).getD 1 0).toInt = vg F0 (tg F0 + 3)) (hr : r0 = n3 (kg F0) (vg F0) (0, 999) (fun q => .inr (q.1, fr, bu + 1, nm ++ [ng F0 (tg F0 + 1)], q.2)) (tg F, w)) :
    hd_W Ls xs 5 jm_M34 (fun v G => ∃ (x : Int32) (F' : Nat → sy_d), v = some (.int x) ∧ G = sy_dh F' X1 X2 (iv_H 0) ∧ gc k0pb_W F0 F' ∧ ac r0 (rcl (pg F0) 18 19) x F' ∧ (x = 1 → nbC 19 28 F0 F')) (59, sy_dL F [some (.inl (.ref 30)), none], sy_dS F [.inl (.int 999), .inl (.int 0), .inl (.int 2), .inl (.ref 30)], sy_dh F X1 X2 (iv_H 0), 0, 0) := by
  refine hd_calI (R := fun x F' => tnZ 2 ((0 : Int32)).toInt ((999 : Int32)).toInt x F F') (nh := 82) (nv := 82) (s := 0) (s1 := 0) (d1 := 4) (M1 := jm_M42) (As := [.inl (.ref 30), .inl (.int 2), .inl (.int 0), .inl (.int 999)]) (rest := []) jm_ok34 rfl rfl (by decide) (by decide +kernel) (k0tn_TZ F X1 X2 g0.1 2 0 999 (by decide) (by decide)) (fun F3 F' x hR p1 p2 p3 => ?_)
  obtain ⟨hR, hv⟩ : tnZ 2 0 999 x F F' := hR
  obtain ⟨r1, r2⟩ := tnR_dst hR p1
  rw [kg_eq (g0.2 39 (by decide) (by decide)), pg_eq (g0.2 40 (by decide) (by decide)), vg_eq (g0.2 41 (by decide) (by decide))] at r2
  have r2 := r2 w hw
  have g3 : gc WN F0 F3 := g0.trans r1 (by decide)
  have hx : sy_i F3 82 = x := zz_i p3
  have hx1 : (sy_i F3 82).toInt ≠ 0 → x = 1 := fun q => ac_1 r2 (by rw [← hx]; exact q)
  rw [← hx] at r2
  obtain ⟨y0, y1⟩ := x01' r2
  have i38 := r1.i (k := 38) (by decide) (by decide)
  refine k0pb_62 (by decide) F3 X1 X2 g3.1 ?_ ?_
  · intro q F4 hb g e33 e34 e36 e37 e38 eFR eBU a39
    refine ⟨_, F4, rfl, rfl, (g3.mono (by decide)).trans (gc_mk (W := k0pb_W) hb g (by decide)) (fun _ q => q), Or.inl ⟨rfl, ?_⟩, fun zz => absurd zz (by decide)⟩
    rw [hr, n3, y0 q, e34, tg_eq e33]
    rfl
  · intro q F4 hb g e33 e34 e36 e37 e38 eFR eBU a39
    obtain ⟨⟨t, w'⟩, ht, hJ1, hJ2⟩ := y1 q
    have hJ1 : tg F3 = t := hJ1
    subst hJ1
    obtain ⟨hv1, v, hv2, hv3⟩ := hv (hx1 q)
    rw [vg_eq (g0.2 41 (by decide) (by decide)), ht0] at hv2
    have a44 : sy_ai F4 44 = jm_upd (sy_ai F 44) 2 v := ((nz_fa (g 44 (by decide) (by decide))).trans (nz_fa (p1 44 (by decide)))).trans hv3
    have t3 : tg F3 = tg F + 1 := (tg_eq (nz_fi (p1 33 (by decide)))).trans hv1
    exact k0vb_6 X1 X2 F0 r0 fr bu nm h0 hlt F4 (g3.trans (gc_mk (W := WN) hb g (by decide)) (fun _ q => q)) w' (wc_eq hJ2 e36 e37) (ncr_eq hn ((g 43 (by decide) (by decide)).trans (r1.2 43 (by decide) (by decide))) (by omega)) (by omega) (by rw [tg_eq e33, t3, ht0]) (by rw [a44, jm_upd_at, if_neg (by decide)]; exact n0) (by rw [a44, jm_upd_at, if_neg (by decide)]; exact n1) (by rw [a44, jm_upd_at, if_pos rfl]; exact hv2) (by rw [hr, n3, ht, tg_eq e33]; rfl)
theorem k0vb_4 (h0 : (sy_i F0 18).toInt = fr ∧ (sy_i F0 19).toInt = bu ∧ (sy_i F0 38).toInt ≤ fr + bu) (hlt : (sy_i F0 19).toInt < 4) (F : Nat → sy_d) (g0 : gc WN F0 F) (w : sE) (hw : wc (pg F0) w F) (hn : ncr (nm ++ [ng F0 (tg F0 + 1)]) F) (h38 : (sy_i F 38).toInt ≤ fr + bu + 1) (ht0 : tg F = tg F0 + 3) (n0 : ((sy_ai F 44).getD 0 0).toInt = vg F0 (tg F0 + 2)) (hr : r0 = n2 (kg F0) (vg F0) (0, 3) (0, 999) (fun q => .inr (q.1, fr, bu + 1, nm ++ [ng F0 (tg F0 + 1)], q.2)) (tg F, w)) :
    hd_W Ls xs 5 jm_M34 (fun v G => ∃ (x : Int32) (F' : Nat → sy_d), v = some (.int x) ∧ G = sy_dh F' X1 X2 (iv_H 0) ∧ gc k0pb_W F0 F' ∧ ac r0 (rcl (pg F0) 18 19) x F' ∧ (x = 1 → nbC 19 28 F0 F')) (47, sy_dL F [some (.inl (.ref 30)), none], sy_dS F [.inl (.int 3), .inl (.int 0), .inl (.int 1), .inl (.ref 30)], sy_dh F X1 X2 (iv_H 0), 0, 0) := by
  refine hd_calI (R := fun x F' => tnZ 1 ((0 : Int32)).toInt ((3 : Int32)).toInt x F F') (nh := 82) (nv := 82) (s := 0) (s1 := 0) (d1 := 4) (M1 := jm_M42) (As := [.inl (.ref 30), .inl (.int 1), .inl (.int 0), .inl (.int 3)]) (rest := []) jm_ok34 rfl rfl (by decide) (by decide +kernel) (k0tn_TZ F X1 X2 g0.1 1 0 3 (by decide) (by decide)) (fun F3 F' x hR p1 p2 p3 => ?_)
  obtain ⟨hR, hv⟩ : tnZ 1 0 3 x F F' := hR
  obtain ⟨r1, r2⟩ := tnR_dst hR p1
  rw [kg_eq (g0.2 39 (by decide) (by decide)), pg_eq (g0.2 40 (by decide) (by decide)), vg_eq (g0.2 41 (by decide) (by decide))] at r2
  have r2 := r2 w hw
  have g3 : gc WN F0 F3 := g0.trans r1 (by decide)
  have hx : sy_i F3 82 = x := zz_i p3
  have hx1 : (sy_i F3 82).toInt ≠ 0 → x = 1 := fun q => ac_1 r2 (by rw [← hx]; exact q)
  rw [← hx] at r2
  obtain ⟨y0, y1⟩ := x01' r2
  have i38 := r1.i (k := 38) (by decide) (by decide)
  refine k0pb_50 (by decide) F3 X1 X2 g3.1 ?_ ?_
  · intro q F4 hb g e33 e34 e36 e37 e38 eFR eBU a39
    refine ⟨_, F4, rfl, rfl, (g3.mono (by decide)).trans (gc_mk (W := k0pb_W) hb g (by decide)) (fun _ q => q), Or.inl ⟨rfl, ?_⟩, fun zz => absurd zz (by decide)⟩
    rw [hr, n2, y0 q, e34, tg_eq e33]
    rfl
  · intro q F4 hb g e33 e34 e36 e37 e38 eFR eBU a39
    obtain ⟨⟨t, w'⟩, ht, hJ1, hJ2⟩ := y1 q
    have hJ1 : tg F3 = t := hJ1
    subst hJ1
    obtain ⟨hv1, v, hv2, hv3⟩ := hv (hx1 q)
    rw [vg_eq (g0.2 41 (by decide) (by decide)), ht0] at hv2
    have a44 : sy_ai F4 44 = jm_upd (sy_ai F 44) 1 v := ((nz_fa (g 44 (by decide) (by decide))).trans (nz_fa (p1 44 (by decide)))).trans hv3
    have t3 : tg F3 = tg F + 1 := (tg_eq (nz_fi (p1 33 (by decide)))).trans hv1
    exact k0vb_5 X1 X2 F0 r0 fr bu nm h0 hlt F4 (g3.trans (gc_mk (W := WN) hb g (by decide)) (fun _ q => q)) w' (wc_eq hJ2 e36 e37) (ncr_eq hn ((g 43 (by decide) (by decide)).trans (r1.2 43 (by decide) (by decide))) (by omega)) (by omega) (by rw [tg_eq e33, t3, ht0]) (by rw [a44, jm_upd_at, if_neg (by decide)]; exact n0) (by rw [a44, jm_upd_at, if_pos rfl]; exact hv2) (by rw [hr, n2, ht, tg_eq e33]; rfl)
theorem k0vb_3 (h0 : (sy_i F0 18).toInt = fr ∧ (sy_i F0 19).toInt = bu ∧ (sy_i F0 38).toInt ≤ fr + bu) (hlt : (sy_i F0 19).toInt < 4) (F : Nat → sy_d) (g0 : gc WN F0 F) (w : sE) (hw : wc (pg F0) w F) (hn : ncr (nm ++ [ng F0 (tg F0 + 1)]) F) (h38 : (sy_i F 38).toInt ≤ fr + bu + 1) (ht0 : tg F = tg F0 + 2) (hr : r0 = n1 (kg F0) (vg F0) (0, 3) (0, 999) (fun q => .inr (q.1, fr, bu + 1, nm ++ [ng F0 (tg F0 + 1)], q.2)) (0, 9) (tg F, w)) :
    hd_W Ls xs 5 jm_M34 (fun v G => ∃ (x : Int32) (F' : Nat → sy_d), v = some (.int x) ∧ G = sy_dh F' X1 X2 (iv_H 0) ∧ gc k0pb_W F0 F' ∧ ac r0 (rcl (pg F0) 18 19) x F' ∧ (x = 1 → nbC 19 28 F0 F')) (37, sy_dL F [some (.inl (.ref 30)), none], sy_dS F [.inl (.int 9), .inl (.int 0), .inl (.int 0), .inl (.ref 30)], sy_dh F X1 X2 (iv_H 0), 0, 0) := by
  refine hd_calI (R := fun x F' => tnZ 0 ((0 : Int32)).toInt ((9 : Int32)).toInt x F F') (nh := 82) (nv := 82) (s := 0) (s1 := 0) (d1 := 4) (M1 := jm_M42) (As := [.inl (.ref 30), .inl (.int 0), .inl (.int 0), .inl (.int 9)]) (rest := []) jm_ok34 rfl rfl (by decide) (by decide +kernel) (k0tn_TZ F X1 X2 g0.1 0 0 9 (by decide) (by decide)) (fun F3 F' x hR p1 p2 p3 => ?_)
  obtain ⟨hR, hv⟩ : tnZ 0 0 9 x F F' := hR
  obtain ⟨r1, r2⟩ := tnR_dst hR p1
  rw [kg_eq (g0.2 39 (by decide) (by decide)), pg_eq (g0.2 40 (by decide) (by decide)), vg_eq (g0.2 41 (by decide) (by decide))] at r2
  have r2 := r2 w hw
  have g3 : gc WN F0 F3 := g0.trans r1 (by decide)
  have hx : sy_i F3 82 = x := zz_i p3
  have hx1 : (sy_i F3 82).toInt ≠ 0 → x = 1 := fun q => ac_1 r2 (by rw [← hx]; exact q)
  rw [← hx] at r2
  obtain ⟨y0, y1⟩ := x01' r2
  have i38 := r1.i (k := 38) (by decide) (by decide)
  refine k0pb_40 (by decide) F3 X1 X2 g3.1 ?_ ?_
  · intro q F4 hb g e33 e34 e36 e37 e38 eFR eBU a39
    refine ⟨_, F4, rfl, rfl, (g3.mono (by decide)).trans (gc_mk (W := k0pb_W) hb g (by decide)) (fun _ q => q), Or.inl ⟨rfl, ?_⟩, fun zz => absurd zz (by decide)⟩
    rw [hr, n1, y0 q, e34, tg_eq e33]
    rfl
  · intro q F4 hb g e33 e34 e36 e37 e38 eFR eBU a39
    obtain ⟨⟨t, w'⟩, ht, hJ1, hJ2⟩ := y1 q
    have hJ1 : tg F3 = t := hJ1
    subst hJ1
    obtain ⟨hv1, v, hv2, hv3⟩ := hv (hx1 q)
    rw [vg_eq (g0.2 41 (by decide) (by decide)), ht0] at hv2
    have a44 : sy_ai F4 44 = jm_upd (sy_ai F 44) 0 v := ((nz_fa (g 44 (by decide) (by decide))).trans (nz_fa (p1 44 (by decide)))).trans hv3
    have t3 : tg F3 = tg F + 1 := (tg_eq (nz_fi (p1 33 (by decide)))).trans hv1
    exact k0vb_4 X1 X2 F0 r0 fr bu nm h0 hlt F4 (g3.trans (gc_mk (W := WN) hb g (by decide)) (fun _ q => q)) w' (wc_eq hJ2 e36 e37) (ncr_eq hn ((g 43 (by decide) (by decide)).trans (r1.2 43 (by decide) (by decide))) (by omega)) (by omega) (by rw [tg_eq e33, t3, ht0]) (by rw [a44, jm_upd_at, if_pos rfl]; exact hv2) (by rw [hr, n1, ht, tg_eq e33]; rfl)
theorem k0vb_2 (h0 : (sy_i F0 18).toInt = fr ∧ (sy_i F0 19).toInt = bu ∧ (sy_i F0 38).toInt ≤ fr + bu) (hlt : (sy_i F0 19).toInt < 4) (F : Nat → sy_d) (g0 : gc WN F0 F) (w : sE) (hw : wc (pg F0) w F) (hn : ncr nm F) (h38 : (sy_i F 38).toInt ≤ fr + bu) (ht1 : tg F = tg F0 + 1) (hr : r0 = sB (sNm (kg F0) (ng F0) (tg F, nm, w)) (n1 (kg F0) (vg F0) (0, 3) (0, 999) (fun q => .inr (q.1, fr, bu + 1, nm ++ [ng F0 (tg F0 + 1)], q.2)) (0, 9))) :
    hd_W Ls xs 5 jm_M34 (fun v G => ∃ (x : Int32) (F' : Nat → sy_d), v = some (.int x) ∧ G = sy_dh F' X1 X2 (iv_H 0) ∧ gc k0pb_W F0 F' ∧ ac r0 (rcl (pg F0) 18 19) x F' ∧ (x = 1 → nbC 19 28 F0 F')) (26, sy_dL F [some (.inl (.ref 30)), none], sy_dS F [.inl (.ref 30)], sy_dh F X1 X2 (iv_H 0), 0, 0) := by
  have f1 := g0.i (k := 18) (by decide) (by decide)
  have f2 := g0.i (k := 19) (by decide) (by decide)
  have d1 := nz_bx g0.1 (k := 18) (lo := 0) (hi := 7) rfl
  have d2 := nz_bx g0.1 (k := 19) (lo := 0) (hi := 4) rfl
  refine hd_calI (R := fun x F' => tmR x F F') (nh := 82) (nv := 82) (s := 0) (s1 := 0) (d1 := 4) (M1 := jm_M41) (As := [.inl (.ref 30)]) (rest := []) jm_ok34 rfl rfl (by decide) (by decide +kernel) (k0tm_T F X1 X2 g0.1 (by omega)) (fun F3 F' x hR p1 p2 p3 => ?_)
  obtain ⟨r1, rl, r2⟩ := tmR_dst hR p1
  rw [kg_eq (g0.2 39 (by decide) (by decide)), pg_eq (g0.2 40 (by decide) (by decide)), ng_eq (g0.2 41 (by decide) (by decide))] at r2
  have r2 := r2 w nm hw hn
  have g3 : gc WN F0 F3 := g0.trans r1 (by decide)
  have hx : sy_i F3 82 = x := zz_i p3
  have hx1 : (sy_i F3 82).toInt ≠ 0 → x = 1 := fun q => ac_1 r2 (by rw [← hx]; exact q)
  rw [← hx] at r2
  obtain ⟨y0, y1⟩ := x01' r2
  refine k0pb_29 (by decide) F3 X1 X2 g3.1 ?_ ?_
  · intro q F4 hb g e33 e34 e36 e37 e38 eFR eBU a39
    refine ⟨_, F4, rfl, rfl, (g3.mono (by decide)).trans (gc_mk (W := k0pb_W) hb g (by decide)) (fun _ q => q), Or.inl ⟨rfl, ?_⟩, fun zz => absurd zz (by decide)⟩
    rw [hr, y0 q, e34, tg_eq e33]
    rfl
  · intro q F4 hb g e33 e34 e36 e37 e38 eFR eBU a39
    obtain ⟨⟨t, w'⟩, ht, hJ1, hJ2, hJ3⟩ := y1 q
    have hJ1 : tg F3 = t := hJ1
    subst hJ1
    have t3 : tg F3 = tg F + 1 := sNm_rc ht
    rw [ht1] at hJ3
    exact k0vb_3 X1 X2 F0 r0 fr bu nm h0 hlt F4 (g3.trans (gc_mk (W := WN) hb g (by decide)) (fun _ q => q)) w' (wc_eq hJ2 e36 e37) (ncr_eq hJ3 (g 43 (by decide) (by decide)) e38) (by omega) (by rw [tg_eq e33, t3, ht1]) (by rw [hr, ht, tg_eq e33]; rfl)
end Sk0vb
theorem k0vb_T {Ls : Nat} {xs : Nat → Int32} (X1 X2 : List jm_c) (F : Nat → sy_d) (hB : iv_in F iv_B0) (hk : kg F (tg F) = 21) (x : sT) (hx : rcl (pg F) 18 19 x F) : jm_T Ls xs 5 jm_M34 [.ref 30] (sy_dh F X1 X2 (iv_H 0)) 0 0 (fun v G => ∃ (y : Int32) (F' : Nat → sy_d), v = some (.int y) ∧ G = sy_dh F' X1 X2 (iv_H 0) ∧ gc k0pb_W F F' ∧ ac (sBuyer (kg F) (vg F) (ng F) x) (rcl (pg F) 18 19) y F' ∧ (y = 1 → nbC 19 28 F F')) := by
  obtain ⟨t, fr, bu, nm, w⟩ := x
  obtain ⟨x1, x2, x3, x4, x5, x6⟩ := hx
  have x1 : tg F = t := x1
  subst x1
  have x2 : (sy_i F 18).toInt = fr := x2
  have x3 : (sy_i F 19).toInt = bu := x3
  have x6 : (sy_i F 38).toInt ≤ fr + bu := x6
  have c33 := nz_bx hB (k := 33) (lo := 0) (hi := 400) rfl
  have dF := nz_bx hB (k := 19) (lo := 0) (hi := 4) rfl
  refine hd_T (As := [.inl (.ref 30)]) jm_ok34 (by decide) (k0pb_0 (by decide) F X1 X2 hB ?_ ?_)
  · intro q F1 hb g e33 e34 e36 e37 e38 eFR eBU a39
    have g0 : ∀ q, q < 82 → F1 q = F q := fun q hq => g q hq (by simp)
    refine hd_calI (R := fun x F' => taR ((1 : Int32)).toInt x F1 F') (nh := 82) (nv := 82) (s := 0) (s1 := 0) (d1 := 3) (M1 := jm_M43) (As := [.inl (.ref 30), .inl (.int 1)]) (rest := []) jm_ok34 rfl rfl (by decide) (by decide +kernel) (k0ta_T F1 X1 X2 hb 1) (fun F3 F' x hR p1 p2 p3 => ?_)
    have hR : taR 1 x F1 F' := hR
    obtain ⟨r1, r2⟩ := taR_src (taR_dst hR p1) g0
    have r2 := r2 (km_in (j := 21) (fun c => km_w (by decide) (by decide)) (by decide))
    rw [show km 1 = 21 by decide, show sM (kg F) 21 (tg F) = sG (tg F) by unfold sM; rw [if_pos hk]] at r2
    have g3 : gc WN F F3 := r1.mono (by decide)
    have hx : sy_i F3 82 = x := zz_i p3
    have hx1 : (sy_i F3 82).toInt ≠ 0 → x = 1 := fun q => ac_1 r2 (by rw [← hx]; exact q)
    rw [← hx] at r2
    obtain ⟨y0, y1⟩ := x01' r2
    have i36 := r1.i (k := 36) (by decide) (by decide)
    have i37 := r1.i (k := 37) (by decide) (by decide)
    have i38 := r1.i (k := 38) (by decide) (by decide)
    have hS : sBuyer (kg F) (vg F) (ng F) (tg F, fr, bu, nm, w) = sB (sG (tg F)) fun t => sB (sTell (kg F) (vg F) (ng F) (0, 9) (0, 3) (0, 999) (t, nm, w)) fun q => .inr (q.1, fr, bu + 1, nm ++ [ng F t], q.2) := sBu_n (by omega)
    refine k0pb_22 (by decide) F3 X1 X2 g3.1 ?_ ?_
    · intro q F4 hb g e33 e34 e36 e37 e38 eFR eBU a39
      refine ⟨_, F4, rfl, rfl, (g3.mono (by decide)).trans (gc_mk (W := k0pb_W) hb g (by decide)) (fun _ q => q), Or.inl ⟨rfl, ?_⟩, fun zz => absurd zz (by decide)⟩
      rw [hS, y0 q, e34, tg_eq e33]
      rfl
    · intro q F4 hb g d33 d34 d36 d37 d38 dFR dBU b39
      obtain ⟨t, ht, hJ⟩ := y1 q
      have h4 : tg F < 400 := by
        by_cases z : tg F = 400
        · rw [sG_4 z] at ht
          cases ht
        · unfold tg at z ⊢
          omega
      rw [sG_ok h4] at ht
      have et : t = tg F + 1 := (Sum.inr.inj ht).symm
      refine k0vb_2 X1 X2 F _ fr bu nm ⟨x2, x3, x6⟩ (by omega) F4 (g3.trans (gc_mk (W := WN) hb g (by decide)) (fun _ q => q)) w (wc_eq x5 (by omega) (by omega)) (ncr_eq x4 ((g 43 (by decide) (by decide)).trans (r1.2 43 (by decide) (by decide))) (by omega)) (by omega) (by rw [tg_eq d33, hJ, et]) ?_
      rw [hS, sG_ok h4, tg_eq d33, hJ, et]
      exact n_eq (kg F) (vg F) (0, 3) (0, 999) (fun q => .inr (q.1, fr, bu + 1, nm ++ [ng F (tg F + 1)], q.2)) (ng F) (0, 9) (tg F + 1, nm, w)
  · intro q F1 hb g e33 e34 e36 e37 e38 eFR eBU a39
    exact ⟨_, F1, rfl, rfl, gc_mk hb g (by decide), Or.inl ⟨rfl, by rw [sBu_4 (by omega), e34, tg_eq e33]⟩, fun zz => absurd zz (by decide)⟩
theorem k3tn_TZ {Ls : Nat} {xs : Nat → Int32} (F : Nat → sy_d) (X1 X2 : List jm_c) (hB : iv_in F iv_B0) (a b c : Int32) (h1 : 0 ≤ a.toInt) (h2 : a.toInt ≤ 2) : jm_T Ls xs 4 jm_M42 [.ref 30, .int a, .int b, .int c] (sy_dh F X1 X2 (iv_H 3)) 0 0 (fun v G => ∃ (x : Int32) (F' : Nat → sy_d), v = some (.int x) ∧ G = sy_dh F' X1 X2 (iv_H 3) ∧ tnZ a.toInt b.toInt c.toInt x F F') := by
  refine nx_T (s := 3) (by decide) F X1 X2 (as := [a, b, c]) (A := [.inl (.ref 30), .inr (.inl 82), .inr (.inl 83), .inr (.inl 84)]) jm_ok42 (by decide) rfl ?_
  obtain ⟨F0, hF0⟩ : ∃ F0, F0 = nx 82 F [a, b, c] := ⟨_, rfl⟩
  rw [← hF0]
  have k0 : ∀ q, q < 82 → F0 q = F q := by rw [hF0]; exact nx_lt
  have i82 : sy_i F0 82 = a := by rw [hF0]; rfl
  have i83 : sy_i F0 83 = b := by rw [hF0]; rfl
  have i84 : sy_i F0 84 = c := by rw [hF0]; rfl
  have hB0 := hd_iveq0 hB k0
  have c33 := nz_bx hB0 (k := 33) (lo := 0) (hi := 400) rfl
  have et : (tg F0 : Int) = (sy_i F0 33).toInt := by unfold tg; omega
  have eK : kg F0 (tg F0) = 2 ↔ ((sy_ai F0 39).getD (sy_i F0 33).toInt.toNat 0).toInt = 24 := km_2
  have e1 : ((sy_i F0 33).toInt + 1 - 1).toNat = tg F0 := by unfold tg; omega
  refine k3ztn_0 (by decide) F0 X1 X2 hB0 (by rw [i82]; exact ⟨h1, h2⟩) ?_ ?_ ?_ ?_ ?_ ?_ ?_
  all_goals
    try rw [e1]
    have eV : vg F0 (tg F0) = (((sy_al F0 41).getD (tg F0) 0).toInt32).toInt := rfl
    have eP : pg F0 (tg F0) = ((sy_ai F0 40).getD (tg F0) 0).toInt := rfl
    intros
    rename_i F1 hb g e33 e34 e36 e37 e38 a39 a40 a44
    refine ⟨_, F1, rfl, rfl, tnZ_src ⟨⟨gc_mk hb g (by decide), fun w hw => ?_⟩, fun zz => ?_⟩ k0⟩
    rotate_left
    · first
        | exact absurd zz (by decide)
        | exact ⟨tg_s c33.1 e33, _, rfl, by rw [a44, i82]⟩
    rw [← i83, ← i84]
  all_goals first
    | exact ac_er (k := 1) (t := tg F0) (sN_no (by omega)) e34 (tg_eq e33)
    | exact ac_er (k := 2) (t := tg F0) (sN_4 (by omega) (by omega)) e34 (tg_eq e33)
    | exact ac_ok (sN_ok (by omega) (by omega)) ⟨tg_s c33.1 e33, wc_s (by decide) hw (by omega)⟩
section Sk3vf
variable {Ls : Nat} {xs : Nat → Int32} (X1 X2 : List jm_c) (F0 : Nat → sy_d) (r0 : sE ⊕ sT) (fr bu : Nat) (nm : List Int64)
theorem k3vf_6 (h0 : (sy_i F0 3).toInt = fr ∧ (sy_i F0 4).toInt = bu ∧ (sy_i F0 38).toInt ≤ fr + bu) (hlt : (sy_i F0 3).toInt < 7) (F : Nat → sy_d) (g0 : gc WN F0 F) (w : sE) (hw : wc (pg F0) w F) (hn : ncr (nm ++ [ng F0 (tg F0 + 1)]) F) (h38 : (sy_i F 38).toInt ≤ fr + bu + 1) (ht0 : tg F = tg F0 + 5) (n0 : ((sy_ai F 44).getD 0 0).toInt = vg F0 (tg F0 + 2)) (n1 : ((sy_ai F 44).getD 1 0).toInt = vg F0 (tg F0 + 3)) (n2 : ((sy_ai F 44).getD 2 0).toInt = vg F0 (tg F0 + 4)) (hr : r0 = n4 (kg F0) (fun q => .inr (q.1, fr + 1, bu, nm ++ [ng F0 (tg F0 + 1)], q.2)) (tg F, w)) :
    hd_W Ls xs 5 jm_M33 (fun v G => ∃ (x : Int32) (F' : Nat → sy_d), v = some (.int x) ∧ G = sy_dh F' X1 X2 (iv_H 3) ∧ gc k3pf_W F0 F' ∧ ac r0 (rcl (pg F0) 3 4) x F' ∧ (x = 1 → nbC 3 9 F0 F')) (69, sy_dL F [some (.inl (.ref 30)), none], sy_dS F [.inl (.int 59), .inl (.ref 30)], sy_dh F X1 X2 (iv_H 3), 0, 0) := by
  refine hd_calI (R := fun x F' => taR ((59 : Int32)).toInt x F F') (nh := 82) (nv := 82) (s := 3) (s1 := 3) (d1 := 3) (M1 := jm_M43) (As := [.inl (.ref 30), .inl (.int 59)]) (rest := []) jm_ok33 rfl rfl (by decide) (by decide +kernel) (k3ta_T F X1 X2 g0.1 59) (fun F3 F' x hR p1 p2 p3 => ?_)
  have hR : taR 59 x F F' := hR
  obtain ⟨r1, r2⟩ := taR_dst hR p1
  have r2 := r2 (km_in (j := 4) (fun c => km_4) (by decide))
  rw [show km 59 = 4 by decide, kg_eq (g0.2 39 (by decide) (by decide))] at r2
  have g3 : gc WN F0 F3 := g0.trans r1 (by decide)
  have hx : sy_i F3 82 = x := zz_i p3
  have hx1 : (sy_i F3 82).toInt ≠ 0 → x = 1 := fun q => ac_1 r2 (by rw [← hx]; exact q)
  rw [← hx] at r2
  obtain ⟨y0, y1⟩ := x01' r2
  have f1 := g3.i (k := 3) (by decide) (by decide)
  have f2 := g3.i (k := 4) (by decide) (by decide)
  have i36 := r1.i (k := 36) (by decide) (by decide)
  have i37 := r1.i (k := 37) (by decide) (by decide)
  have i38 := r1.i (k := 38) (by decide) (by decide)
  refine k3zpf_72 (by decide) F3 X1 X2 g3.1 ?_ ?_ ?_
  · intro q F4 hb g e33 e34 e36 e37 e38 eFR eBU a39 aR0 aR1 aR2
    refine ⟨_, F4, rfl, rfl, (g3.mono (by decide)).trans (gc_mk (W := k3pf_W) hb g (by decide)) (fun _ q => q), Or.inl ⟨rfl, ?_⟩, fun zz => absurd zz (by decide)⟩
    rw [hr, n4, y0 q, e34, tg_eq e33]
    rfl
  · intros; exfalso; omega
  · intro q _ F4 hb g e33 e34 e36 e37 e38 eFR eBU a39 aR0 aR1 aR2
    obtain ⟨t, ht, hJ⟩ := y1 q
    have t3 : tg F3 = tg F + 1 := by rw [hJ]; exact sM_r ht
    have c44 : sy_ai F3 44 = sy_ai F 44 := nz_fa (r1.2 44 (by decide) (by decide))
    have f3 : (sy_i F3 3).toInt = (sy_i F0 3).toInt := f1
    have z0 : sy_ai F3 9 = sy_ai F0 9 := nz_fa (g3.2 9 (by decide) (by decide))
    have z1 : sy_ai F3 10 = sy_ai F0 10 := nz_fa (g3.2 10 (by decide) (by decide))
    have z2 : sy_ai F3 11 = sy_ai F0 11 := nz_fa (g3.2 11 (by decide) (by decide))
    refine ⟨_, F4, rfl, rfl, (g3.mono (by decide)).trans (gc_mk (W := k3pf_W) hb g (by decide)) (fun _ q => q), ac_ok (by rw [hr, n4, ht]; rfl) ⟨by rw [tg_eq e33]; exact hJ, ?_, ?_, ncr_eq hn ((g 43 (by decide) (by decide)).trans (r1.2 43 (by decide) (by decide))) (by omega), wc_eq hw (by omega) (by omega), ?_⟩, fun _ => ⟨by rw [tg_eq e33]; omega, by omega, (sy_ai F 44).getD 0 0, (sy_ai F 44).getD 1 0, (sy_ai F 44).getD 2 0, n0, n1, n2, by rw [aR0, z0, c44, f3]; rfl, by rw [aR1, z1, c44, f3]; rfl, by rw [aR2, z2, c44, f3]; rfl⟩⟩
    · show (sy_i F4 3).toInt = ((fr + 1 : Nat) : Int)
      omega
    · show (sy_i F4 4).toInt = ((bu : Nat) : Int)
      omega
    · show (sy_i F4 38).toInt ≤ ((fr + 1 : Nat) : Int) + ((bu : Nat) : Int)
      omega
theorem k3vf_5 (h0 : (sy_i F0 3).toInt = fr ∧ (sy_i F0 4).toInt = bu ∧ (sy_i F0 38).toInt ≤ fr + bu) (hlt : (sy_i F0 3).toInt < 7) (F : Nat → sy_d) (g0 : gc WN F0 F) (w : sE) (hw : wc (pg F0) w F) (hn : ncr (nm ++ [ng F0 (tg F0 + 1)]) F) (h38 : (sy_i F 38).toInt ≤ fr + bu + 1) (ht0 : tg F = tg F0 + 4) (n0 : ((sy_ai F 44).getD 0 0).toInt = vg F0 (tg F0 + 2)) (n1 : ((sy_ai F 44).getD 1 0).toInt = vg F0 (tg F0 + 3)) (hr : r0 = n3 (kg F0) (vg F0) (0, 99) (fun q => .inr (q.1, fr + 1, bu, nm ++ [ng F0 (tg F0 + 1)], q.2)) (tg F, w)) :
    hd_W Ls xs 5 jm_M33 (fun v G => ∃ (x : Int32) (F' : Nat → sy_d), v = some (.int x) ∧ G = sy_dh F' X1 X2 (iv_H 3) ∧ gc k3pf_W F0 F' ∧ ac r0 (rcl (pg F0) 3 4) x F' ∧ (x = 1 → nbC 3 9 F0 F')) (60, sy_dL F [some (.inl (.ref 30)), none], sy_dS F [.inl (.int 99), .inl (.int 0), .inl (.int 2), .inl (.ref 30)], sy_dh F X1 X2 (iv_H 3), 0, 0) := by
  refine hd_calI (R := fun x F' => tnZ 2 ((0 : Int32)).toInt ((99 : Int32)).toInt x F F') (nh := 82) (nv := 82) (s := 3) (s1 := 3) (d1 := 4) (M1 := jm_M42) (As := [.inl (.ref 30), .inl (.int 2), .inl (.int 0), .inl (.int 99)]) (rest := []) jm_ok33 rfl rfl (by decide) (by decide +kernel) (k3tn_TZ F X1 X2 g0.1 2 0 99 (by decide) (by decide)) (fun F3 F' x hR p1 p2 p3 => ?_)
  obtain ⟨hR, hv⟩ : tnZ 2 0 99 x F F' := hR
  obtain ⟨r1, r2⟩ := tnR_dst hR p1
  rw [kg_eq (g0.2 39 (by decide) (by decide)), pg_eq (g0.2 40 (by decide) (by decide)), vg_eq (g0.2 41 (by decide) (by decide))] at r2
  have r2 := r2 w hw
  have g3 : gc WN F0 F3 := g0.trans r1 (by decide)
  have hx : sy_i F3 82 = x := zz_i p3
  have hx1 : (sy_i F3 82).toInt ≠ 0 → x = 1 := fun q => ac_1 r2 (by rw [← hx]; exact q)
  rw [← hx] at r2
  obtain ⟨y0, y1⟩ := x01' r2
  have i38 := r1.i (k := 38) (by decide) (by decide)
  refine k3pf_63 (by decide) F3 X1 X2 g3.1 ?_ ?_
  · intro q F4 hb g e33 e34 e36 e37 e38 eFR eBU a39
    refine ⟨_, F4, rfl, rfl, (g3.mono (by decide)).trans (gc_mk (W := k3pf_W) hb g (by decide)) (fun _ q => q), Or.inl ⟨rfl, ?_⟩, fun zz => absurd zz (by decide)⟩
    rw [hr, n3, y0 q, e34, tg_eq e33]
    rfl
  · intro q F4 hb g e33 e34 e36 e37 e38 eFR eBU a39
    obtain ⟨⟨t, w'⟩, ht, hJ1, hJ2⟩ := y1 q
    have hJ1 : tg F3 = t := hJ1
    subst hJ1
    obtain ⟨hv1, v, hv2, hv3⟩ := hv (hx1 q)
    rw [vg_eq (g0.2 41 (by decide) (by decide)), ht0] at hv2
    have a44 : sy_ai F4 44 = jm_upd (sy_ai F 44) 2 v := ((nz_fa (g 44 (by decide) (by decide))).trans (nz_fa (p1 44 (by decide)))).trans hv3
    have t3 : tg F3 = tg F + 1 := (tg_eq (nz_fi (p1 33 (by decide)))).trans hv1
    exact k3vf_6 X1 X2 F0 r0 fr bu nm h0 hlt F4 (g3.trans (gc_mk (W := WN) hb g (by decide)) (fun _ q => q)) w' (wc_eq hJ2 e36 e37) (ncr_eq hn ((g 43 (by decide) (by decide)).trans (r1.2 43 (by decide) (by decide))) (by omega)) (by omega) (by rw [tg_eq e33, t3, ht0]) (by rw [a44, jm_upd_at, if_neg (by decide)]; exact n0) (by rw [a44, jm_upd_at, if_neg (by decide)]; exact n1) (by rw [a44, jm_upd_at, if_pos rfl]; exact hv2) (by rw [hr, n3, ht, tg_eq e33]; rfl)
theorem k3vf_4 (h0 : (sy_i F0 3).toInt = fr ∧ (sy_i F0 4).toInt = bu ∧ (sy_i F0 38).toInt ≤ fr + bu) (hlt : (sy_i F0 3).toInt < 7) (F : Nat → sy_d) (g0 : gc WN F0 F) (w : sE) (hw : wc (pg F0) w F) (hn : ncr (nm ++ [ng F0 (tg F0 + 1)]) F) (h38 : (sy_i F 38).toInt ≤ fr + bu + 1) (ht0 : tg F = tg F0 + 3) (n0 : ((sy_ai F 44).getD 0 0).toInt = vg F0 (tg F0 + 2)) (hr : r0 = n2 (kg F0) (vg F0) (1, 9) (0, 99) (fun q => .inr (q.1, fr + 1, bu, nm ++ [ng F0 (tg F0 + 1)], q.2)) (tg F, w)) :
    hd_W Ls xs 5 jm_M33 (fun v G => ∃ (x : Int32) (F' : Nat → sy_d), v = some (.int x) ∧ G = sy_dh F' X1 X2 (iv_H 3) ∧ gc k3pf_W F0 F' ∧ ac r0 (rcl (pg F0) 3 4) x F' ∧ (x = 1 → nbC 3 9 F0 F')) (49, sy_dL F [some (.inl (.ref 30)), none], sy_dS F [.inl (.int 9), .inl (.int 1), .inl (.int 1), .inl (.ref 30)], sy_dh F X1 X2 (iv_H 3), 0, 0) := by
  refine hd_calI (R := fun x F' => tnZ 1 ((1 : Int32)).toInt ((9 : Int32)).toInt x F F') (nh := 82) (nv := 82) (s := 3) (s1 := 3) (d1 := 4) (M1 := jm_M42) (As := [.inl (.ref 30), .inl (.int 1), .inl (.int 1), .inl (.int 9)]) (rest := []) jm_ok33 rfl rfl (by decide) (by decide +kernel) (k3tn_TZ F X1 X2 g0.1 1 1 9 (by decide) (by decide)) (fun F3 F' x hR p1 p2 p3 => ?_)
  obtain ⟨hR, hv⟩ : tnZ 1 1 9 x F F' := hR
  obtain ⟨r1, r2⟩ := tnR_dst hR p1
  rw [kg_eq (g0.2 39 (by decide) (by decide)), pg_eq (g0.2 40 (by decide) (by decide)), vg_eq (g0.2 41 (by decide) (by decide))] at r2
  have r2 := r2 w hw
  have g3 : gc WN F0 F3 := g0.trans r1 (by decide)
  have hx : sy_i F3 82 = x := zz_i p3
  have hx1 : (sy_i F3 82).toInt ≠ 0 → x = 1 := fun q => ac_1 r2 (by rw [← hx]; exact q)
  rw [← hx] at r2
  obtain ⟨y0, y1⟩ := x01' r2
  have i38 := r1.i (k := 38) (by decide) (by decide)
  refine k3pf_52 (by decide) F3 X1 X2 g3.1 ?_ ?_
  · intro q F4 hb g e33 e34 e36 e37 e38 eFR eBU a39
    refine ⟨_, F4, rfl, rfl, (g3.mono (by decide)).trans (gc_mk (W := k3pf_W) hb g (by decide)) (fun _ q => q), Or.inl ⟨rfl, ?_⟩, fun zz => absurd zz (by decide)⟩
    rw [hr, n2, y0 q, e34, tg_eq e33]
    rfl
  · intro q F4 hb g e33 e34 e36 e37 e38 eFR eBU a39
    obtain ⟨⟨t, w'⟩, ht, hJ1, hJ2⟩ := y1 q
    have hJ1 : tg F3 = t := hJ1
    subst hJ1
    obtain ⟨hv1, v, hv2, hv3⟩ := hv (hx1 q)
    rw [vg_eq (g0.2 41 (by decide) (by decide)), ht0] at hv2
    have a44 : sy_ai F4 44 = jm_upd (sy_ai F 44) 1 v := ((nz_fa (g 44 (by decide) (by decide))).trans (nz_fa (p1 44 (by decide)))).trans hv3
    have t3 : tg F3 = tg F + 1 := (tg_eq (nz_fi (p1 33 (by decide)))).trans hv1
    exact k3vf_5 X1 X2 F0 r0 fr bu nm h0 hlt F4 (g3.trans (gc_mk (W := WN) hb g (by decide)) (fun _ q => q)) w' (wc_eq hJ2 e36 e37) (ncr_eq hn ((g 43 (by decide) (by decide)).trans (r1.2 43 (by decide) (by decide))) (by omega)) (by omega) (by rw [tg_eq e33, t3, ht0]) (by rw [a44, jm_upd_at, if_neg (by decide)]; exact n0) (by rw [a44, jm_upd_at, if_pos rfl]; exact hv2) (by rw [hr, n2, ht, tg_eq e33]; rfl)
theorem k3vf_3 (h0 : (sy_i F0 3).toInt = fr ∧ (sy_i F0 4).toInt = bu ∧ (sy_i F0 38).toInt ≤ fr + bu) (hlt : (sy_i F0 3).toInt < 7) (F : Nat → sy_d) (g0 : gc WN F0 F) (w : sE) (hw : wc (pg F0) w F) (hn : ncr (nm ++ [ng F0 (tg F0 + 1)]) F) (h38 : (sy_i F 38).toInt ≤ fr + bu + 1) (ht0 : tg F = tg F0 + 2) (hr : r0 = n1 (kg F0) (vg F0) (1, 9) (0, 99) (fun q => .inr (q.1, fr + 1, bu, nm ++ [ng F0 (tg F0 + 1)], q.2)) (0, 9) (tg F, w)) :
    hd_W Ls xs 5 jm_M33 (fun v G => ∃ (x : Int32) (F' : Nat → sy_d), v = some (.int x) ∧ G = sy_dh F' X1 X2 (iv_H 3) ∧ gc k3pf_W F0 F' ∧ ac r0 (rcl (pg F0) 3 4) x F' ∧ (x = 1 → nbC 3 9 F0 F')) (38, sy_dL F [some (.inl (.ref 30)), none], sy_dS F [.inl (.int 9), .inl (.int 0), .inl (.int 0), .inl (.ref 30)], sy_dh F X1 X2 (iv_H 3), 0, 0) := by
  refine hd_calI (R := fun x F' => tnZ 0 ((0 : Int32)).toInt ((9 : Int32)).toInt x F F') (nh := 82) (nv := 82) (s := 3) (s1 := 3) (d1 := 4) (M1 := jm_M42) (As := [.inl (.ref 30), .inl (.int 0), .inl (.int 0), .inl (.int 9)]) (rest := []) jm_ok33 rfl rfl (by decide) (by decide +kernel) (k3tn_TZ F X1 X2 g0.1 0 0 9 (by decide) (by decide)) (fun F3 F' x hR p1 p2 p3 => ?_)
  obtain ⟨hR, hv⟩ : tnZ 0 0 9 x F F' := hR
  obtain ⟨r1, r2⟩ := tnR_dst hR p1
  rw [kg_eq (g0.2 39 (by decide) (by decide)), pg_eq (g0.2 40 (by decide) (by decide)), vg_eq (g0.2 41 (by decide) (by decide))] at r2
  have r2 := r2 w hw
  have g3 : gc WN F0 F3 := g0.trans r1 (by decide)
  have hx : sy_i F3 82 = x := zz_i p3
  have hx1 : (sy_i F3 82).toInt ≠ 0 → x = 1 := fun q => ac_1 r2 (by rw [← hx]; exact q)
  rw [← hx] at r2
  obtain ⟨y0, y1⟩ := x01' r2
  have i38 := r1.i (k := 38) (by decide) (by decide)
  refine k3pf_41 (by decide) F3 X1 X2 g3.1 ?_ ?_
  · intro q F4 hb g e33 e34 e36 e37 e38 eFR eBU a39
    refine ⟨_, F4, rfl, rfl, (g3.mono (by decide)).trans (gc_mk (W := k3pf_W) hb g (by decide)) (fun _ q => q), Or.inl ⟨rfl, ?_⟩, fun zz => absurd zz (by decide)⟩
    rw [hr, n1, y0 q, e34, tg_eq e33]
    rfl
  · intro q F4 hb g e33 e34 e36 e37 e38 eFR eBU a39
    obtain ⟨⟨t, w'⟩, ht, hJ1, hJ2⟩ := y1 q
    have hJ1 : tg F3 = t := hJ1
    subst hJ1
    obtain ⟨hv1, v, hv2, hv3⟩ := hv (hx1 q)
    rw [vg_eq (g0.2 41 (by decide) (by decide)), ht0] at hv2
    have a44 : sy_ai F4 44 = jm_upd (sy_ai F 44) 0 v := ((nz_fa (g 44 (by decide) (by decide))).trans (nz_fa (p1 44 (by decide)))).trans hv3
    have t3 : tg F3 = tg F + 1 := (tg_eq (nz_fi (p1 33 (by decide)))).trans hv1
    exact k3vf_4 X1 X2 F0 r0 fr bu nm h0 hlt F4 (g3.trans (gc_mk (W := WN) hb g (by decide)) (fun _ q => q)) w' (wc_eq hJ2 e36 e37) (ncr_eq hn ((g 43 (by decide) (by decide)).trans (r1.2 43 (by decide) (by decide))) (by omega)) (by omega) (by rw [tg_eq e33, t3, ht0]) (by rw [a44, jm_upd_at, if_pos rfl]; exact hv2) (by rw [hr, n1, ht, tg_eq e33]; rfl)
theorem k3vf_2 (h0 : (sy_i F0 3).toInt = fr ∧ (sy_i F0 4).toInt = bu ∧ (sy_i F0 38).toInt ≤ fr + bu) (hlt : (sy_i F0 3).toInt < 7) (F : Nat → sy_d) (g0 : gc WN F0 F) (w : sE) (hw : wc (pg F0) w F) (hn : ncr nm F) (h38 : (sy_i F 38).toInt ≤ fr + bu) (ht1 : tg F = tg F0 + 1) (hr : r0 = sB (sNm (kg F0) (ng F0) (tg F, nm, w)) (n1 (kg F0) (vg F0) (1, 9) (0, 99) (fun q => .inr (q.1, fr + 1, bu, nm ++ [ng F0 (tg F0 + 1)], q.2)) (0, 9))) :
    hd_W Ls xs 5 jm_M33 (fun v G => ∃ (x : Int32) (F' : Nat → sy_d), v = some (.int x) ∧ G = sy_dh F' X1 X2 (iv_H 3) ∧ gc k3pf_W F0 F' ∧ ac r0 (rcl (pg F0) 3 4) x F' ∧ (x = 1 → nbC 3 9 F0 F')) (27, sy_dL F [some (.inl (.ref 30)), none], sy_dS F [.inl (.ref 30)], sy_dh F X1 X2 (iv_H 3), 0, 0) := by
  have f1 := g0.i (k := 3) (by decide) (by decide)
  have f2 := g0.i (k := 4) (by decide) (by decide)
  have d1 := nz_bx g0.1 (k := 3) (lo := 0) (hi := 7) rfl
  have d2 := nz_bx g0.1 (k := 4) (lo := 0) (hi := 4) rfl
  refine hd_calI (R := fun x F' => tmR x F F') (nh := 82) (nv := 82) (s := 3) (s1 := 3) (d1 := 4) (M1 := jm_M41) (As := [.inl (.ref 30)]) (rest := []) jm_ok33 rfl rfl (by decide) (by decide +kernel) (k3tm_T F X1 X2 g0.1 (by omega)) (fun F3 F' x hR p1 p2 p3 => ?_)
  obtain ⟨r1, rl, r2⟩ := tmR_dst hR p1
  rw [kg_eq (g0.2 39 (by decide) (by decide)), pg_eq (g0.2 40 (by decide) (by decide)), ng_eq (g0.2 41 (by decide) (by decide))] at r2
  have r2 := r2 w nm hw hn
  have g3 : gc WN F0 F3 := g0.trans r1 (by decide)
  have hx : sy_i F3 82 = x := zz_i p3
  have hx1 : (sy_i F3 82).toInt ≠ 0 → x = 1 := fun q => ac_1 r2 (by rw [← hx]; exact q)
  rw [← hx] at r2
  obtain ⟨y0, y1⟩ := x01' r2
  refine k3pf_30 (by decide) F3 X1 X2 g3.1 ?_ ?_
  · intro q F4 hb g e33 e34 e36 e37 e38 eFR eBU a39
    refine ⟨_, F4, rfl, rfl, (g3.mono (by decide)).trans (gc_mk (W := k3pf_W) hb g (by decide)) (fun _ q => q), Or.inl ⟨rfl, ?_⟩, fun zz => absurd zz (by decide)⟩
    rw [hr, y0 q, e34, tg_eq e33]
    rfl
  · intro q F4 hb g e33 e34 e36 e37 e38 eFR eBU a39
    obtain ⟨⟨t, w'⟩, ht, hJ1, hJ2, hJ3⟩ := y1 q
    have hJ1 : tg F3 = t := hJ1
    subst hJ1
    have t3 : tg F3 = tg F + 1 := sNm_rc ht
    rw [ht1] at hJ3
    exact k3vf_3 X1 X2 F0 r0 fr bu nm h0 hlt F4 (g3.trans (gc_mk (W := WN) hb g (by decide)) (fun _ q => q)) w' (wc_eq hJ2 e36 e37) (ncr_eq hJ3 (g 43 (by decide) (by decide)) e38) (by omega) (by rw [tg_eq e33, t3, ht1]) (by rw [hr, ht, tg_eq e33]; rfl)
end Sk3vf
theorem k3vf_T {Ls : Nat} {xs : Nat → Int32} (X1 X2 : List jm_c) (F : Nat → sy_d) (hB : iv_in F iv_B0) (hk : kg F (tg F) = 20) (x : sT) (hx : rcl (pg F) 3 4 x F) : jm_T Ls xs 5 jm_M33 [.ref 30] (sy_dh F X1 X2 (iv_H 3)) 0 0 (fun v G => ∃ (y : Int32) (F' : Nat → sy_d), v = some (.int y) ∧ G = sy_dh F' X1 X2 (iv_H 3) ∧ gc k3pf_W F F' ∧ ac (sFruit (kg F) (vg F) (ng F) x) (rcl (pg F) 3 4) y F' ∧ (y = 1 → nbC 3 9 F F')) := by
  obtain ⟨t, fr, bu, nm, w⟩ := x
  obtain ⟨x1, x2, x3, x4, x5, x6⟩ := hx
  have x1 : tg F = t := x1
  subst x1
  have x2 : (sy_i F 3).toInt = fr := x2
  have x3 : (sy_i F 4).toInt = bu := x3
  have x6 : (sy_i F 38).toInt ≤ fr + bu := x6
  have c33 := nz_bx hB (k := 33) (lo := 0) (hi := 400) rfl
  have dF := nz_bx hB (k := 3) (lo := 0) (hi := 7) rfl
  refine hd_T (As := [.inl (.ref 30)]) jm_ok33 (by decide) (k3pf_0 (by decide) F X1 X2 hB ?_ ?_)
  · intro q F1 hb g e33 e34 e36 e37 e38 eFR eBU a39
    have g0 : ∀ q, q < 82 → F1 q = F q := fun q hq => g q hq (by simp)
    refine hd_calI (R := fun x F' => taR ((0 : Int32)).toInt x F1 F') (nh := 82) (nv := 82) (s := 3) (s1 := 3) (d1 := 3) (M1 := jm_M43) (As := [.inl (.ref 30), .inl (.int 0)]) (rest := []) jm_ok33 rfl rfl (by decide) (by decide +kernel) (k3ta_T F1 X1 X2 hb 0) (fun F3 F' x hR p1 p2 p3 => ?_)
    have hR : taR 0 x F1 F' := hR
    obtain ⟨r1, r2⟩ := taR_src (taR_dst hR p1) g0
    have r2 := r2 (km_in (j := 20) (fun c => km_w (by decide) (by decide)) (by decide))
    rw [show km 0 = 20 by decide, show sM (kg F) 20 (tg F) = sG (tg F) by unfold sM; rw [if_pos hk]] at r2
    have g3 : gc WN F F3 := r1.mono (by decide)
    have hx : sy_i F3 82 = x := zz_i p3
    have hx1 : (sy_i F3 82).toInt ≠ 0 → x = 1 := fun q => ac_1 r2 (by rw [← hx]; exact q)
    rw [← hx] at r2
    obtain ⟨y0, y1⟩ := x01' r2
    have i36 := r1.i (k := 36) (by decide) (by decide)
    have i37 := r1.i (k := 37) (by decide) (by decide)
    have i38 := r1.i (k := 38) (by decide) (by decide)
    have hS : sFruit (kg F) (vg F) (ng F) (tg F, fr, bu, nm, w) = sB (sG (tg F)) fun t => sB (sTell (kg F) (vg F) (ng F) (0, 9) (1, 9) (0, 99) (t, nm, w)) fun q => .inr (q.1, fr + 1, bu, nm ++ [ng F t], q.2) := sF_n (by omega)
    refine k3pf_23 (by decide) F3 X1 X2 g3.1 ?_ ?_
    · intro q F4 hb g e33 e34 e36 e37 e38 eFR eBU a39
      refine ⟨_, F4, rfl, rfl, (g3.mono (by decide)).trans (gc_mk (W := k3pf_W) hb g (by decide)) (fun _ q => q), Or.inl ⟨rfl, ?_⟩, fun zz => absurd zz (by decide)⟩
      rw [hS, y0 q, e34, tg_eq e33]
      rfl
    · intro q F4 hb g d33 d34 d36 d37 d38 dFR dBU b39
      obtain ⟨t, ht, hJ⟩ := y1 q
      have h4 : tg F < 400 := by
        by_cases z : tg F = 400
        · rw [sG_4 z] at ht
          cases ht
        · unfold tg at z ⊢
          omega
      rw [sG_ok h4] at ht
      have et : t = tg F + 1 := (Sum.inr.inj ht).symm
      refine k3vf_2 X1 X2 F _ fr bu nm ⟨x2, x3, x6⟩ (by omega) F4 (g3.trans (gc_mk (W := WN) hb g (by decide)) (fun _ q => q)) w (wc_eq x5 (by omega) (by omega)) (ncr_eq x4 ((g 43 (by decide) (by decide)).trans (r1.2 43 (by decide) (by decide))) (by omega)) (by omega) (by rw [tg_eq d33, hJ, et]) ?_
      rw [hS, sG_ok h4, tg_eq d33, hJ, et]
      exact n_eq (kg F) (vg F) (1, 9) (0, 99) (fun q => .inr (q.1, fr + 1, bu, nm ++ [ng F (tg F + 1)], q.2)) (ng F) (0, 9) (tg F + 1, nm, w)
  · intro q F1 hb g e33 e34 e36 e37 e38 eFR eBU a39
    exact ⟨_, F1, rfl, rfl, gc_mk hb g (by decide), Or.inl ⟨rfl, by rw [sF_7 (by omega), e34, tg_eq e33]⟩, fun zz => absurd zz (by decide)⟩
section Sk3vb
variable {Ls : Nat} {xs : Nat → Int32} (X1 X2 : List jm_c) (F0 : Nat → sy_d) (r0 : sE ⊕ sT) (fr bu : Nat) (nm : List Int64)
theorem k3vb_6 (h0 : (sy_i F0 3).toInt = fr ∧ (sy_i F0 4).toInt = bu ∧ (sy_i F0 38).toInt ≤ fr + bu) (hlt : (sy_i F0 4).toInt < 4) (F : Nat → sy_d) (g0 : gc WN F0 F) (w : sE) (hw : wc (pg F0) w F) (hn : ncr (nm ++ [ng F0 (tg F0 + 1)]) F) (h38 : (sy_i F 38).toInt ≤ fr + bu + 1) (ht0 : tg F = tg F0 + 5) (n0 : ((sy_ai F 44).getD 0 0).toInt = vg F0 (tg F0 + 2)) (n1 : ((sy_ai F 44).getD 1 0).toInt = vg F0 (tg F0 + 3)) (n2 : ((sy_ai F 44).getD 2 0).toInt = vg F0 (tg F0 + 4)) (hr : r0 = n4 (kg F0) (fun q => .inr (q.1, fr, bu + 1, nm ++ [ng F0 (tg F0 + 1)], q.2)) (tg F, w)) :
    hd_W Ls xs 5 jm_M34 (fun v G => ∃ (x : Int32) (F' : Nat → sy_d), v = some (.int x) ∧ G = sy_dh F' X1 X2 (iv_H 3) ∧ gc k3pb_W F0 F' ∧ ac r0 (rcl (pg F0) 3 4) x F' ∧ (x = 1 → nbC 4 13 F0 F')) (68, sy_dL F [some (.inl (.ref 30)), none], sy_dS F [.inl (.int 59), .inl (.ref 30)], sy_dh F X1 X2 (iv_H 3), 0, 0) := by
  refine hd_calI (R := fun x F' => taR ((59 : Int32)).toInt x F F') (nh := 82) (nv := 82) (s := 3) (s1 := 3) (d1 := 3) (M1 := jm_M43) (As := [.inl (.ref 30), .inl (.int 59)]) (rest := []) jm_ok34 rfl rfl (by decide) (by decide +kernel) (k3ta_T F X1 X2 g0.1 59) (fun F3 F' x hR p1 p2 p3 => ?_)
  have hR : taR 59 x F F' := hR
  obtain ⟨r1, r2⟩ := taR_dst hR p1
  have r2 := r2 (km_in (j := 4) (fun c => km_4) (by decide))
  rw [show km 59 = 4 by decide, kg_eq (g0.2 39 (by decide) (by decide))] at r2
  have g3 : gc WN F0 F3 := g0.trans r1 (by decide)
  have hx : sy_i F3 82 = x := zz_i p3
  have hx1 : (sy_i F3 82).toInt ≠ 0 → x = 1 := fun q => ac_1 r2 (by rw [← hx]; exact q)
  rw [← hx] at r2
  obtain ⟨y0, y1⟩ := x01' r2
  have f1 := g3.i (k := 3) (by decide) (by decide)
  have f2 := g3.i (k := 4) (by decide) (by decide)
  have i36 := r1.i (k := 36) (by decide) (by decide)
  have i37 := r1.i (k := 37) (by decide) (by decide)
  have i38 := r1.i (k := 38) (by decide) (by decide)
  refine k3zpb_71 (by decide) F3 X1 X2 g3.1 ?_ ?_ ?_
  · intro q F4 hb g e33 e34 e36 e37 e38 eFR eBU a39 aR0 aR1 aR2
    refine ⟨_, F4, rfl, rfl, (g3.mono (by decide)).trans (gc_mk (W := k3pb_W) hb g (by decide)) (fun _ q => q), Or.inl ⟨rfl, ?_⟩, fun zz => absurd zz (by decide)⟩
    rw [hr, n4, y0 q, e34, tg_eq e33]
    rfl
  · intros; exfalso; omega
  · intro q _ F4 hb g e33 e34 e36 e37 e38 eFR eBU a39 aR0 aR1 aR2
    obtain ⟨t, ht, hJ⟩ := y1 q
    have t3 : tg F3 = tg F + 1 := by rw [hJ]; exact sM_r ht
    have c44 : sy_ai F3 44 = sy_ai F 44 := nz_fa (r1.2 44 (by decide) (by decide))
    have f3 : (sy_i F3 4).toInt = (sy_i F0 4).toInt := f2
    have z0 : sy_ai F3 13 = sy_ai F0 13 := nz_fa (g3.2 13 (by decide) (by decide))
    have z1 : sy_ai F3 14 = sy_ai F0 14 := nz_fa (g3.2 14 (by decide) (by decide))
    have z2 : sy_ai F3 15 = sy_ai F0 15 := nz_fa (g3.2 15 (by decide) (by decide))
    refine ⟨_, F4, rfl, rfl, (g3.mono (by decide)).trans (gc_mk (W := k3pb_W) hb g (by decide)) (fun _ q => q), ac_ok (by rw [hr, n4, ht]; rfl) ⟨by rw [tg_eq e33]; exact hJ, ?_, ?_, ncr_eq hn ((g 43 (by decide) (by decide)).trans (r1.2 43 (by decide) (by decide))) (by omega), wc_eq hw (by omega) (by omega), ?_⟩, fun _ => ⟨by rw [tg_eq e33]; omega, by omega, (sy_ai F 44).getD 0 0, (sy_ai F 44).getD 1 0, (sy_ai F 44).getD 2 0, n0, n1, n2, by rw [aR0, z0, c44, f3]; rfl, by rw [aR1, z1, c44, f3]; rfl, by rw [aR2, z2, c44, f3]; rfl⟩⟩
    · show (sy_i F4 3).toInt = ((fr : Nat) : Int)
      omega
    · show (sy_i F4 4).toInt = ((bu + 1 : Nat) : Int)
      omega
    · show (sy_i F4 38).toInt ≤ ((fr : Nat) : Int) + ((bu + 1 : Nat) : Int)
      omega
theorem k3vb_5 (h0 : (sy_i F0 3).toInt = fr ∧ (sy_i F0 4).toInt = bu ∧ (sy_i F0 38).toInt ≤ fr + bu) (hlt : (sy_i F0 4).toInt < 4) (F : Nat → sy_d) (g0 : gc WN F0 F) (w : sE) (hw : wc (pg F0) w F) (hn : ncr (nm ++ [ng F0 (tg F0 + 1)]) F) (h38 : (sy_i F 38).toInt ≤ fr + bu + 1) (ht0 : tg F = tg F0 + 4) (n0 : ((sy_ai F 44).getD 0 0).toInt = vg F0 (tg F0 + 2)) (n1 : ((sy_ai F 44).getD 1 0).toInt = vg F0 (tg F0 + 3)) (hr : r0 = n3 (kg F0) (vg F0) (0, 999) (fun q => .inr (q.1, fr, bu + 1, nm ++ [ng F0 (tg F0 + 1)], q.2)) (tg F, w)) :
    hd_W Ls xs 5 jm_M34 (fun v G => ∃ (x : Int32) (F' : Nat → sy_d), v = some (.int x) ∧ G = sy_dh F' X1 X2 (iv_H 3) ∧ gc k3pb_W F0 F' ∧ ac r0 (rcl (pg F0) 3 4) x F' ∧ (x = 1 → nbC 4 13 F0 F')) (59, sy_dL F [some (.inl (.ref 30)), none], sy_dS F [.inl (.int 999), .inl (.int 0), .inl (.int 2), .inl (.ref 30)], sy_dh F X1 X2 (iv_H 3), 0, 0) := by
  refine hd_calI (R := fun x F' => tnZ 2 ((0 : Int32)).toInt ((999 : Int32)).toInt x F F') (nh := 82) (nv := 82) (s := 3) (s1 := 3) (d1 := 4) (M1 := jm_M42) (As := [.inl (.ref 30), .inl (.int 2), .inl (.int 0), .inl (.int 999)]) (rest := []) jm_ok34 rfl rfl (by decide) (by decide +kernel) (k3tn_TZ F X1 X2 g0.1 2 0 999 (by decide) (by decide)) (fun F3 F' x hR p1 p2 p3 => ?_)
  obtain ⟨hR, hv⟩ : tnZ 2 0 999 x F F' := hR
  obtain ⟨r1, r2⟩ := tnR_dst hR p1
  rw [kg_eq (g0.2 39 (by decide) (by decide)), pg_eq (g0.2 40 (by decide) (by decide)), vg_eq (g0.2 41 (by decide) (by decide))] at r2
  have r2 := r2 w hw
  have g3 : gc WN F0 F3 := g0.trans r1 (by decide)
  have hx : sy_i F3 82 = x := zz_i p3
  have hx1 : (sy_i F3 82).toInt ≠ 0 → x = 1 := fun q => ac_1 r2 (by rw [← hx]; exact q)
  rw [← hx] at r2
  obtain ⟨y0, y1⟩ := x01' r2
  have i38 := r1.i (k := 38) (by decide) (by decide)
  refine k3pb_62 (by decide) F3 X1 X2 g3.1 ?_ ?_
  · intro q F4 hb g e33 e34 e36 e37 e38 eFR eBU a39
    refine ⟨_, F4, rfl, rfl, (g3.mono (by decide)).trans (gc_mk (W := k3pb_W) hb g (by decide)) (fun _ q => q), Or.inl ⟨rfl, ?_⟩, fun zz => absurd zz (by decide)⟩
    rw [hr, n3, y0 q, e34, tg_eq e33]
    rfl
  · intro q F4 hb g e33 e34 e36 e37 e38 eFR eBU a39
    obtain ⟨⟨t, w'⟩, ht, hJ1, hJ2⟩ := y1 q
    have hJ1 : tg F3 = t := hJ1
    subst hJ1
    obtain ⟨hv1, v, hv2, hv3⟩ := hv (hx1 q)
    rw [vg_eq (g0.2 41 (by decide) (by decide)), ht0] at hv2
    have a44 : sy_ai F4 44 = jm_upd (sy_ai F 44) 2 v := ((nz_fa (g 44 (by decide) (by decide))).trans (nz_fa (p1 44 (by decide)))).trans hv3
    have t3 : tg F3 = tg F + 1 := (tg_eq (nz_fi (p1 33 (by decide)))).trans hv1
    exact k3vb_6 X1 X2 F0 r0 fr bu nm h0 hlt F4 (g3.trans (gc_mk (W := WN) hb g (by decide)) (fun _ q => q)) w' (wc_eq hJ2 e36 e37) (ncr_eq hn ((g 43 (by decide) (by decide)).trans (r1.2 43 (by decide) (by decide))) (by omega)) (by omega) (by rw [tg_eq e33, t3, ht0]) (by rw [a44, jm_upd_at, if_neg (by decide)]; exact n0) (by rw [a44, jm_upd_at, if_neg (by decide)]; exact n1) (by rw [a44, jm_upd_at, if_pos rfl]; exact hv2) (by rw [hr, n3, ht, tg_eq e33]; rfl)
theorem k3vb_4 (h0 : (sy_i F0 3).toInt = fr ∧ (sy_i F0 4).toInt = bu ∧ (sy_i F0 38).toInt ≤ fr + bu) (hlt : (sy_i F0 4).toInt < 4) (F : Nat → sy_d) (g0 : gc WN F0 F) (w : sE) (hw : wc (pg F0) w F) (hn : ncr (nm ++ [ng F0 (tg F0 + 1)]) F) (h38 : (sy_i F 38).toInt ≤ fr + bu + 1) (ht0 : tg F = tg F0 + 3) (n0 : ((sy_ai F 44).getD 0 0).toInt = vg F0 (tg F0 + 2)) (hr : r0 = n2 (kg F0) (vg F0) (0, 3) (0, 999) (fun q => .inr (q.1, fr, bu + 1, nm ++ [ng F0 (tg F0 + 1)], q.2)) (tg F, w)) :
    hd_W Ls xs 5 jm_M34 (fun v G => ∃ (x : Int32) (F' : Nat → sy_d), v = some (.int x) ∧ G = sy_dh F' X1 X2 (iv_H 3) ∧ gc k3pb_W F0 F' ∧ ac r0 (rcl (pg F0) 3 4) x F' ∧ (x = 1 → nbC 4 13 F0 F')) (47, sy_dL F [some (.inl (.ref 30)), none], sy_dS F [.inl (.int 3), .inl (.int 0), .inl (.int 1), .inl (.ref 30)], sy_dh F X1 X2 (iv_H 3), 0, 0) := by
  refine hd_calI (R := fun x F' => tnZ 1 ((0 : Int32)).toInt ((3 : Int32)).toInt x F F') (nh := 82) (nv := 82) (s := 3) (s1 := 3) (d1 := 4) (M1 := jm_M42) (As := [.inl (.ref 30), .inl (.int 1), .inl (.int 0), .inl (.int 3)]) (rest := []) jm_ok34 rfl rfl (by decide) (by decide +kernel) (k3tn_TZ F X1 X2 g0.1 1 0 3 (by decide) (by decide)) (fun F3 F' x hR p1 p2 p3 => ?_)
  obtain ⟨hR, hv⟩ : tnZ 1 0 3 x F F' := hR
  obtain ⟨r1, r2⟩ := tnR_dst hR p1
  rw [kg_eq (g0.2 39 (by decide) (by decide)), pg_eq (g0.2 40 (by decide) (by decide)), vg_eq (g0.2 41 (by decide) (by decide))] at r2
  have r2 := r2 w hw
  have g3 : gc WN F0 F3 := g0.trans r1 (by decide)
  have hx : sy_i F3 82 = x := zz_i p3
  have hx1 : (sy_i F3 82).toInt ≠ 0 → x = 1 := fun q => ac_1 r2 (by rw [← hx]; exact q)
  rw [← hx] at r2
  obtain ⟨y0, y1⟩ := x01' r2
  have i38 := r1.i (k := 38) (by decide) (by decide)
  refine k3pb_50 (by decide) F3 X1 X2 g3.1 ?_ ?_
  · intro q F4 hb g e33 e34 e36 e37 e38 eFR eBU a39
    refine ⟨_, F4, rfl, rfl, (g3.mono (by decide)).trans (gc_mk (W := k3pb_W) hb g (by decide)) (fun _ q => q), Or.inl ⟨rfl, ?_⟩, fun zz => absurd zz (by decide)⟩
    rw [hr, n2, y0 q, e34, tg_eq e33]
    rfl
  · intro q F4 hb g e33 e34 e36 e37 e38 eFR eBU a39
    obtain ⟨⟨t, w'⟩, ht, hJ1, hJ2⟩ := y1 q
    have hJ1 : tg F3 = t := hJ1
    subst hJ1
    obtain ⟨hv1, v, hv2, hv3⟩ := hv (hx1 q)
    rw [vg_eq (g0.2 41 (by decide) (by decide)), ht0] at hv2
    have a44 : sy_ai F4 44 = jm_upd (sy_ai F 44) 1 v := ((nz_fa (g 44 (by decide) (by decide))).trans (nz_fa (p1 44 (by decide)))).trans hv3
    have t3 : tg F3 = tg F + 1 := (tg_eq (nz_fi (p1 33 (by decide)))).trans hv1
    exact k3vb_5 X1 X2 F0 r0 fr bu nm h0 hlt F4 (g3.trans (gc_mk (W := WN) hb g (by decide)) (fun _ q => q)) w' (wc_eq hJ2 e36 e37) (ncr_eq hn ((g 43 (by decide) (by decide)).trans (r1.2 43 (by decide) (by decide))) (by omega)) (by omega) (by rw [tg_eq e33, t3, ht0]) (by rw [a44, jm_upd_at, if_neg (by decide)]; exact n0) (by rw [a44, jm_upd_at, if_pos rfl]; exact hv2) (by rw [hr, n2, ht, tg_eq e33]; rfl)
theorem k3vb_3 (h0 : (sy_i F0 3).toInt = fr ∧ (sy_i F0 4).toInt = bu ∧ (sy_i F0 38).toInt ≤ fr + bu) (hlt : (sy_i F0 4).toInt < 4) (F : Nat → sy_d) (g0 : gc WN F0 F) (w : sE) (hw : wc (pg F0) w F) (hn : ncr (nm ++ [ng F0 (tg F0 + 1)]) F) (h38 : (sy_i F 38).toInt ≤ fr + bu + 1) (ht0 : tg F = tg F0 + 2) (hr : r0 = n1 (kg F0) (vg F0) (0, 3) (0, 999) (fun q => .inr (q.1, fr, bu + 1, nm ++ [ng F0 (tg F0 + 1)], q.2)) (0, 9) (tg F, w)) :
    hd_W Ls xs 5 jm_M34 (fun v G => ∃ (x : Int32) (F' : Nat → sy_d), v = some (.int x) ∧ G = sy_dh F' X1 X2 (iv_H 3) ∧ gc k3pb_W F0 F' ∧ ac r0 (rcl (pg F0) 3 4) x F' ∧ (x = 1 → nbC 4 13 F0 F')) (37, sy_dL F [some (.inl (.ref 30)), none], sy_dS F [.inl (.int 9), .inl (.int 0), .inl (.int 0), .inl (.ref 30)], sy_dh F X1 X2 (iv_H 3), 0, 0) := by
  refine hd_calI (R := fun x F' => tnZ 0 ((0 : Int32)).toInt ((9 : Int32)).toInt x F F') (nh := 82) (nv := 82) (s := 3) (s1 := 3) (d1 := 4) (M1 := jm_M42) (As := [.inl (.ref 30), .inl (.int 0), .inl (.int 0), .inl (.int 9)]) (rest := []) jm_ok34 rfl rfl (by decide) (by decide +kernel) (k3tn_TZ F X1 X2 g0.1 0 0 9 (by decide) (by decide)) (fun F3 F' x hR p1 p2 p3 => ?_)
  obtain ⟨hR, hv⟩ : tnZ 0 0 9 x F F' := hR
  obtain ⟨r1, r2⟩ := tnR_dst hR p1
  rw [kg_eq (g0.2 39 (by decide) (by decide)), pg_eq (g0.2 40 (by decide) (by decide)), vg_eq (g0.2 41 (by decide) (by decide))] at r2
  have r2 := r2 w hw
  have g3 : gc WN F0 F3 := g0.trans r1 (by decide)
  have hx : sy_i F3 82 = x := zz_i p3
  have hx1 : (sy_i F3 82).toInt ≠ 0 → x = 1 := fun q => ac_1 r2 (by rw [← hx]; exact q)
  rw [← hx] at r2
  obtain ⟨y0, y1⟩ := x01' r2
  have i38 := r1.i (k := 38) (by decide) (by decide)
  refine k3pb_40 (by decide) F3 X1 X2 g3.1 ?_ ?_
  · intro q F4 hb g e33 e34 e36 e37 e38 eFR eBU a39
    refine ⟨_, F4, rfl, rfl, (g3.mono (by decide)).trans (gc_mk (W := k3pb_W) hb g (by decide)) (fun _ q => q), Or.inl ⟨rfl, ?_⟩, fun zz => absurd zz (by decide)⟩
    rw [hr, n1, y0 q, e34, tg_eq e33]
    rfl
  · intro q F4 hb g e33 e34 e36 e37 e38 eFR eBU a39
    obtain ⟨⟨t, w'⟩, ht, hJ1, hJ2⟩ := y1 q
    have hJ1 : tg F3 = t := hJ1
    subst hJ1
    obtain ⟨hv1, v, hv2, hv3⟩ := hv (hx1 q)
    rw [vg_eq (g0.2 41 (by decide) (by decide)), ht0] at hv2
    have a44 : sy_ai F4 44 = jm_upd (sy_ai F 44) 0 v := ((nz_fa (g 44 (by decide) (by decide))).trans (nz_fa (p1 44 (by decide)))).trans hv3
    have t3 : tg F3 = tg F + 1 := (tg_eq (nz_fi (p1 33 (by decide)))).trans hv1
    exact k3vb_4 X1 X2 F0 r0 fr bu nm h0 hlt F4 (g3.trans (gc_mk (W := WN) hb g (by decide)) (fun _ q => q)) w' (wc_eq hJ2 e36 e37) (ncr_eq hn ((g 43 (by decide) (by decide)).trans (r1.2 43 (by decide) (by decide))) (by omega)) (by omega) (by rw [tg_eq e33, t3, ht0]) (by rw [a44, jm_upd_at, if_pos rfl]; exact hv2) (by rw [hr, n1, ht, tg_eq e33]; rfl)
theorem k3vb_2 (h0 : (sy_i F0 3).toInt = fr ∧ (sy_i F0 4).toInt = bu ∧ (sy_i F0 38).toInt ≤ fr + bu) (hlt : (sy_i F0 4).toInt < 4) (F : Nat → sy_d) (g0 : gc WN F0 F) (w : sE) (hw : wc (pg F0) w F) (hn : ncr nm F) (h38 : (sy_i F 38).toInt ≤ fr + bu) (ht1 : tg F = tg F0 + 1) (hr : r0 = sB (sNm (kg F0) (ng F0) (tg F, nm, w)) (n1 (kg F0) (vg F0) (0, 3) (0, 999) (fun q => .inr (q.1, fr, bu + 1, nm ++ [ng F0 (tg F0 + 1)], q.2)) (0, 9))) :
    hd_W Ls xs 5 jm_M34 (fun v G => ∃ (x : Int32) (F' : Nat → sy_d), v = some (.int x) ∧ G = sy_dh F' X1 X2 (iv_H 3) ∧ gc k3pb_W F0 F' ∧ ac r0 (rcl (pg F0) 3 4) x F' ∧ (x = 1 → nbC 4 13 F0 F')) (26, sy_dL F [some (.inl (.ref 30)), none], sy_dS F [.inl (.ref 30)], sy_dh F X1 X2 (iv_H 3), 0, 0) := by
  have f1 := g0.i (k := 3) (by decide) (by decide)
  have f2 := g0.i (k := 4) (by decide) (by decide)
  have d1 := nz_bx g0.1 (k := 3) (lo := 0) (hi := 7) rfl
  have d2 := nz_bx g0.1 (k := 4) (lo := 0) (hi := 4) rfl
  refine hd_calI (R := fun x F' => tmR x F F') (nh := 82) (nv := 82) (s := 3) (s1 := 3) (d1 := 4) (M1 := jm_M41) (As := [.inl (.ref 30)]) (rest := []) jm_ok34 rfl rfl (by decide) (by decide +kernel) (k3tm_T F X1 X2 g0.1 (by omega)) (fun F3 F' x hR p1 p2 p3 => ?_)
  obtain ⟨r1, rl, r2⟩ := tmR_dst hR p1
  rw [kg_eq (g0.2 39 (by decide) (by decide)), pg_eq (g0.2 40 (by decide) (by decide)), ng_eq (g0.2 41 (by decide) (by decide))] at r2
  have r2 := r2 w nm hw hn
  have g3 : gc WN F0 F3 := g0.trans r1 (by decide)
  have hx : sy_i F3 82 = x := zz_i p3
  have hx1 : (sy_i F3 82).toInt ≠ 0 → x = 1 := fun q => ac_1 r2 (by rw [← hx]; exact q)
  rw [← hx] at r2
  obtain ⟨y0, y1⟩ := x01' r2
  refine k3pb_29 (by decide) F3 X1 X2 g3.1 ?_ ?_
  · intro q F4 hb g e33 e34 e36 e37 e38 eFR eBU a39
    refine ⟨_, F4, rfl, rfl, (g3.mono (by decide)).trans (gc_mk (W := k3pb_W) hb g (by decide)) (fun _ q => q), Or.inl ⟨rfl, ?_⟩, fun zz => absurd zz (by decide)⟩
    rw [hr, y0 q, e34, tg_eq e33]
    rfl
  · intro q F4 hb g e33 e34 e36 e37 e38 eFR eBU a39
    obtain ⟨⟨t, w'⟩, ht, hJ1, hJ2, hJ3⟩ := y1 q
    have hJ1 : tg F3 = t := hJ1
    subst hJ1
    have t3 : tg F3 = tg F + 1 := sNm_rc ht
    rw [ht1] at hJ3
    exact k3vb_3 X1 X2 F0 r0 fr bu nm h0 hlt F4 (g3.trans (gc_mk (W := WN) hb g (by decide)) (fun _ q => q)) w' (wc_eq hJ2 e36 e37) (ncr_eq hJ3 (g 43 (by decide) (by decide)) e38) (by omega) (by rw [tg_eq e33, t3, ht1]) (by rw [hr, ht, tg_eq e33]; rfl)
end Sk3vb
theorem k3vb_T {Ls : Nat} {xs : Nat → Int32} (X1 X2 : List jm_c) (F : Nat → sy_d) (hB : iv_in F iv_B0) (hk : kg F (tg F) = 21) (x : sT) (hx : rcl (pg F) 3 4 x F) : jm_T Ls xs 5 jm_M34 [.ref 30] (sy_dh F X1 X2 (iv_H 3)) 0 0 (fun v G => ∃ (y : Int32) (F' : Nat → sy_d), v = some (.int y) ∧ G = sy_dh F' X1 X2 (iv_H 3) ∧ gc k3pb_W F F' ∧ ac (sBuyer (kg F) (vg F) (ng F) x) (rcl (pg F) 3 4) y F' ∧ (y = 1 → nbC 4 13 F F')) := by
  obtain ⟨t, fr, bu, nm, w⟩ := x
  obtain ⟨x1, x2, x3, x4, x5, x6⟩ := hx
  have x1 : tg F = t := x1
  subst x1
  have x2 : (sy_i F 3).toInt = fr := x2
  have x3 : (sy_i F 4).toInt = bu := x3
  have x6 : (sy_i F 38).toInt ≤ fr + bu := x6
  have c33 := nz_bx hB (k := 33) (lo := 0) (hi := 400) rfl
  have dF := nz_bx hB (k := 4) (lo := 0) (hi := 4) rfl
  refine hd_T (As := [.inl (.ref 30)]) jm_ok34 (by decide) (k3pb_0 (by decide) F X1 X2 hB ?_ ?_)
  · intro q F1 hb g e33 e34 e36 e37 e38 eFR eBU a39
    have g0 : ∀ q, q < 82 → F1 q = F q := fun q hq => g q hq (by simp)
    refine hd_calI (R := fun x F' => taR ((1 : Int32)).toInt x F1 F') (nh := 82) (nv := 82) (s := 3) (s1 := 3) (d1 := 3) (M1 := jm_M43) (As := [.inl (.ref 30), .inl (.int 1)]) (rest := []) jm_ok34 rfl rfl (by decide) (by decide +kernel) (k3ta_T F1 X1 X2 hb 1) (fun F3 F' x hR p1 p2 p3 => ?_)
    have hR : taR 1 x F1 F' := hR
    obtain ⟨r1, r2⟩ := taR_src (taR_dst hR p1) g0
    have r2 := r2 (km_in (j := 21) (fun c => km_w (by decide) (by decide)) (by decide))
    rw [show km 1 = 21 by decide, show sM (kg F) 21 (tg F) = sG (tg F) by unfold sM; rw [if_pos hk]] at r2
    have g3 : gc WN F F3 := r1.mono (by decide)
    have hx : sy_i F3 82 = x := zz_i p3
    have hx1 : (sy_i F3 82).toInt ≠ 0 → x = 1 := fun q => ac_1 r2 (by rw [← hx]; exact q)
    rw [← hx] at r2
    obtain ⟨y0, y1⟩ := x01' r2
    have i36 := r1.i (k := 36) (by decide) (by decide)
    have i37 := r1.i (k := 37) (by decide) (by decide)
    have i38 := r1.i (k := 38) (by decide) (by decide)
    have hS : sBuyer (kg F) (vg F) (ng F) (tg F, fr, bu, nm, w) = sB (sG (tg F)) fun t => sB (sTell (kg F) (vg F) (ng F) (0, 9) (0, 3) (0, 999) (t, nm, w)) fun q => .inr (q.1, fr, bu + 1, nm ++ [ng F t], q.2) := sBu_n (by omega)
    refine k3pb_22 (by decide) F3 X1 X2 g3.1 ?_ ?_
    · intro q F4 hb g e33 e34 e36 e37 e38 eFR eBU a39
      refine ⟨_, F4, rfl, rfl, (g3.mono (by decide)).trans (gc_mk (W := k3pb_W) hb g (by decide)) (fun _ q => q), Or.inl ⟨rfl, ?_⟩, fun zz => absurd zz (by decide)⟩
      rw [hS, y0 q, e34, tg_eq e33]
      rfl
    · intro q F4 hb g d33 d34 d36 d37 d38 dFR dBU b39
      obtain ⟨t, ht, hJ⟩ := y1 q
      have h4 : tg F < 400 := by
        by_cases z : tg F = 400
        · rw [sG_4 z] at ht
          cases ht
        · unfold tg at z ⊢
          omega
      rw [sG_ok h4] at ht
      have et : t = tg F + 1 := (Sum.inr.inj ht).symm
      refine k3vb_2 X1 X2 F _ fr bu nm ⟨x2, x3, x6⟩ (by omega) F4 (g3.trans (gc_mk (W := WN) hb g (by decide)) (fun _ q => q)) w (wc_eq x5 (by omega) (by omega)) (ncr_eq x4 ((g 43 (by decide) (by decide)).trans (r1.2 43 (by decide) (by decide))) (by omega)) (by omega) (by rw [tg_eq d33, hJ, et]) ?_
      rw [hS, sG_ok h4, tg_eq d33, hJ, et]
      exact n_eq (kg F) (vg F) (0, 3) (0, 999) (fun q => .inr (q.1, fr, bu + 1, nm ++ [ng F (tg F + 1)], q.2)) (ng F) (0, 9) (tg F + 1, nm, w)
  · intro q F1 hb g e33 e34 e36 e37 e38 eFR eBU a39
    exact ⟨_, F1, rfl, rfl, gc_mk hb g (by decide), Or.inl ⟨rfl, by rw [sBu_4 (by omega), e34, tg_eq e33]⟩, fun zz => absurd zz (by decide)⟩
end
section
/-! ===== the class parses settings: what they are ===== -/
noncomputable def stC (s : Nat) (a : Int) (F0 F' : Nat → sy_d) : Prop := tg F0 < tg F' ∧ (sy_i F' s).toInt = (if a = 8 then vg F0 (tg F0 + 1) else (sy_i F0 s).toInt) ∧ (sy_i F' (s + 1)).toInt = (if a = 9 then vg F0 (tg F0 + 1) else (sy_i F0 (s + 1)).toInt) ∧ (sy_i F' (s + 2)).toInt = (if a = 10 then vg F0 (tg F0 + 1) else (sy_i F0 (s + 2)).toInt)
theorem stC_src {s : Nat} {a : Int} {F F0 F' : Nat → sy_d} (h : stC s a F0 F') (e : ∀ q, q < 82 → F0 q = F q) (hs : s + 2 < 82) : stC s a F F' := by
  unfold stC at h ⊢
  rw [tg_eq (nz_fi (e 33 (by decide))), vg_eq (e 41 (by decide)), nz_fi (e s (by omega)), nz_fi (e (s + 1) (by omega)), nz_fi (e (s + 2) (by omega))] at h
  exact h
section Sk0vg
variable {Ls : Nat} {xs : Nat → Int32} (X1 X2 : List jm_c) (F0 : Nat → sy_d) (r0 : sE ⊕ sT) (fr bu : Nat) (nm : List Int64)
theorem k0vg_c (h0 : (sy_i F0 18).toInt = fr ∧ (sy_i F0 19).toInt = bu ∧ (sy_i F0 38).toInt ≤ fr + bu ∧ ncr nm F0) (F : Nat → sy_d) (g0 : gc [33, 34, 36, 37, 44] F0 F) (w : sE) (hw : wc (pg F0) w F) (a : Int) (h8 : 8 ≤ a ∧ a ≤ 10) (e82 : (sy_i F 82).toInt = a) (ht0 : tg F = tg F0 + 2) (n0 : ((sy_ai F 44).getD 0 0).toInt = vg F0 (tg F0 + 1)) (hr : r0 = n4 (kg F0) (fun q => .inr (q.1, fr, bu, nm, q.2)) (tg F, w)) :
    hd_W Ls xs 5 jm_M35 (fun v G => ∃ (x : Int32) (F' : Nat → sy_d), v = some (.int x) ∧ G = sy_dh F' X1 X2 (iv_H 0) ∧ gc k0pg_W F0 F' ∧ ac r0 (rcl (pg F0) 18 19) x F' ∧ (x = 1 → stC 20 a F0 F')) (47, sy_dL F [some (.inl (.ref 30)), some (.inr (.inl 82)), none], sy_dS F [.inl (.int 59), .inl (.ref 30)], sy_dh F X1 X2 (iv_H 0), 0, 0) := by
  refine hd_calI (R := fun x F' => taR ((59 : Int32)).toInt x F F') (nh := 82) (nv := 83) (s := 0) (s1 := 0) (d1 := 3) (M1 := jm_M43) (As := [.inl (.ref 30), .inl (.int 59)]) (rest := []) jm_ok35 rfl rfl (by decide) (by decide +kernel) (k0ta_T F X1 X2 g0.1 59) (fun F3 F' x hR p1 p2 p3 => ?_)
  have hR : taR 59 x F F' := hR
  obtain ⟨r1, r2⟩ := taR_dst hR p1
  have r2 := r2 (km_in (j := 4) (fun c => km_4) (by decide))
  rw [show km 59 = 4 by decide, kg_eq (g0.2 39 (by decide) (by decide))] at r2
  have g3 : gc [33, 34, 36, 37, 44] F0 F3 := g0.trans r1 (by decide)
  have hx : sy_i F3 83 = x := zz_i p3
  rw [← hx] at r2
  obtain ⟨y0, y1⟩ := x01' r2
  have f1 := g3.i (k := 18) (by decide) (by decide)
  have f2 := g3.i (k := 19) (by decide) (by decide)
  have f3 := g3.i (k := 38) (by decide) (by decide)
  have i36 := r1.i (k := 36) (by decide) (by decide)
  have i37 := r1.i (k := 37) (by decide) (by decide)
  refine k0zpg_50 (by decide) F3 X1 X2 g3.1 ?_ ?_ ?_ ?_
  · intro q _ _ F4 hb g e33 e34 e36 e37 e38 eFR eBU eS0 eS1 eS2 a39
    obtain ⟨t, ht, hJ⟩ := y1 q
    have t3 : tg F3 = tg F + 1 := by rw [hJ]; exact sM_r ht
    have k82 := nz_fi (p2 82 (by decide) (by decide))
    have v0 : ((sy_ai F3 44).getD (0 : Int).toNat 0).toInt = vg F0 (tg F0 + 1) := by rw [show sy_ai F3 44 = sy_ai F 44 from nz_fa (r1.2 44 (by decide) (by decide))]; exact n0
    have u0 := g3.i (k := 20) (by decide) (by decide)
    have u1 := g3.i (k := 21) (by decide) (by decide)
    have u2 := g3.i (k := 22) (by decide) (by decide)
    refine ⟨_, F4, rfl, rfl, (g3.mono (by decide)).trans (gc_mk (W := k0pg_W) hb g (by decide)) (fun _ q => q), ac_ok (by rw [hr, n4, ht]; rfl) ⟨by rw [tg_eq e33]; exact hJ, by show _ = ((fr : Nat) : Int); omega, by show _ = ((bu : Nat) : Int); omega, ncr_eq h0.2.2.2 ((g 43 (by decide) (by decide)).trans (g3.2 43 (by decide) (by decide))) (by omega), wc_eq hw (by omega) (by omega), by show _ ≤ ((fr : Nat) : Int) + ((bu : Nat) : Int); omega⟩, fun _ => ⟨by rw [tg_eq e33]; omega, by split <;> omega, by show (sy_i F4 21).toInt = (if a = 9 then vg F0 (tg F0 + 1) else (sy_i F0 21).toInt); split <;> omega, by show (sy_i F4 22).toInt = (if a = 10 then vg F0 (tg F0 + 1) else (sy_i F0 22).toInt); split <;> omega⟩⟩
  · intro q _ _ F4 hb g e33 e34 e36 e37 e38 eFR eBU eS0 eS1 eS2 a39
    obtain ⟨t, ht, hJ⟩ := y1 q
    have t3 : tg F3 = tg F + 1 := by rw [hJ]; exact sM_r ht
    have k82 := nz_fi (p2 82 (by decide) (by decide))
    have v0 : ((sy_ai F3 44).getD (0 : Int).toNat 0).toInt = vg F0 (tg F0 + 1) := by rw [show sy_ai F3 44 = sy_ai F 44 from nz_fa (r1.2 44 (by decide) (by decide))]; exact n0
    have u0 := g3.i (k := 20) (by decide) (by decide)
    have u1 := g3.i (k := 21) (by decide) (by decide)
    have u2 := g3.i (k := 22) (by decide) (by decide)
    refine ⟨_, F4, rfl, rfl, (g3.mono (by decide)).trans (gc_mk (W := k0pg_W) hb g (by decide)) (fun _ q => q), ac_ok (by rw [hr, n4, ht]; rfl) ⟨by rw [tg_eq e33]; exact hJ, by show _ = ((fr : Nat) : Int); omega, by show _ = ((bu : Nat) : Int); omega, ncr_eq h0.2.2.2 ((g 43 (by decide) (by decide)).trans (g3.2 43 (by decide) (by decide))) (by omega), wc_eq hw (by omega) (by omega), by show _ ≤ ((fr : Nat) : Int) + ((bu : Nat) : Int); omega⟩, fun _ => ⟨by rw [tg_eq e33]; omega, by split <;> omega, by show (sy_i F4 21).toInt = (if a = 9 then vg F0 (tg F0 + 1) else (sy_i F0 21).toInt); split <;> omega, by show (sy_i F4 22).toInt = (if a = 10 then vg F0 (tg F0 + 1) else (sy_i F0 22).toInt); split <;> omega⟩⟩
  · intro q _ F4 hb g e33 e34 e36 e37 e38 eFR eBU eS0 eS1 eS2 a39
    obtain ⟨t, ht, hJ⟩ := y1 q
    have t3 : tg F3 = tg F + 1 := by rw [hJ]; exact sM_r ht
    have k82 := nz_fi (p2 82 (by decide) (by decide))
    have v0 : ((sy_ai F3 44).getD (0 : Int).toNat 0).toInt = vg F0 (tg F0 + 1) := by rw [show sy_ai F3 44 = sy_ai F 44 from nz_fa (r1.2 44 (by decide) (by decide))]; exact n0
    have u0 := g3.i (k := 20) (by decide) (by decide)
    have u1 := g3.i (k := 21) (by decide) (by decide)
    have u2 := g3.i (k := 22) (by decide) (by decide)
    refine ⟨_, F4, rfl, rfl, (g3.mono (by decide)).trans (gc_mk (W := k0pg_W) hb g (by decide)) (fun _ q => q), ac_ok (by rw [hr, n4, ht]; rfl) ⟨by rw [tg_eq e33]; exact hJ, by show _ = ((fr : Nat) : Int); omega, by show _ = ((bu : Nat) : Int); omega, ncr_eq h0.2.2.2 ((g 43 (by decide) (by decide)).trans (g3.2 43 (by decide) (by decide))) (by omega), wc_eq hw (by omega) (by omega), by show _ ≤ ((fr : Nat) : Int) + ((bu : Nat) : Int); omega⟩, fun _ => ⟨by rw [tg_eq e33]; omega, by split <;> omega, by show (sy_i F4 21).toInt = (if a = 9 then vg F0 (tg F0 + 1) else (sy_i F0 21).toInt); split <;> omega, by show (sy_i F4 22).toInt = (if a = 10 then vg F0 (tg F0 + 1) else (sy_i F0 22).toInt); split <;> omega⟩⟩
  · intro q F4 hb g e33 e34 e36 e37 e38 eFR eBU eS0 eS1 eS2 a39
    refine ⟨_, F4, rfl, rfl, (g3.mono (by decide)).trans (gc_mk (W := k0pg_W) hb g (by decide)) (fun _ q => q), Or.inl ⟨rfl, ?_⟩, fun zz => absurd zz (by decide)⟩
    rw [hr, n4, y0 q, e34, tg_eq e33]
    rfl
theorem k0vg_b (h0 : (sy_i F0 18).toInt = fr ∧ (sy_i F0 19).toInt = bu ∧ (sy_i F0 38).toInt ≤ fr + bu ∧ ncr nm F0) (F : Nat → sy_d) (g0 : gc [33, 34, 36, 37, 44] F0 F) (w : sE) (hw : wc (pg F0) w F) (a : Int) (h8 : 8 ≤ a ∧ a ≤ 10) (e82' : (sy_i F 82).toInt = a) (ht0 : tg F = tg F0 + 1) (hr : r0 = n3 (kg F0) (vg F0) (0, (sy_i F 83).toInt) (fun q => .inr (q.1, fr, bu, nm, q.2)) (tg F, w)) :
    hd_W Ls xs 5 jm_M35 (fun v G => ∃ (x : Int32) (F' : Nat → sy_d), v = some (.int x) ∧ G = sy_dh F' X1 X2 (iv_H 0) ∧ gc k0pg_W F0 F' ∧ ac r0 (rcl (pg F0) 18 19) x F' ∧ (x = 1 → stC 20 a F0 F')) (38, sy_dL F [some (.inl (.ref 30)), some (.inr (.inl 82)), none], sy_dS F [.inr (.inl 83), .inl (.int 0), .inl (.int 0), .inl (.ref 30)], sy_dh F X1 X2 (iv_H 0), 0, 0) := by
  refine hd_calI (R := fun x F' => tnZ 0 ((0 : Int32)).toInt (sy_i F 83).toInt x F F') (nh := 82) (nv := 84) (s := 0) (s1 := 0) (d1 := 4) (M1 := jm_M42) (As := [.inl (.ref 30), .inl (.int 0), .inl (.int 0), .inr (.inl 83)]) (rest := []) jm_ok35 rfl rfl (by decide) (by decide +kernel) (k0tn_TZ F X1 X2 g0.1 0 0 (sy_i F 83) (by decide) (by decide)) (fun F3 F' x hR p1 p2 p3 => ?_)
  obtain ⟨hR, hv⟩ : tnZ 0 0 (sy_i F 83).toInt x F F' := hR
  obtain ⟨r1, r2⟩ := tnR_dst hR p1
  rw [kg_eq (g0.2 39 (by decide) (by decide)), pg_eq (g0.2 40 (by decide) (by decide)), vg_eq (g0.2 41 (by decide) (by decide))] at r2
  have r2 := r2 w hw
  have g3 : gc [33, 34, 36, 37, 44] F0 F3 := g0.trans r1 (fun _ q => q)
  have hx : sy_i F3 84 = x := zz_i p3
  have hx1 : (sy_i F3 84).toInt ≠ 0 → x = 1 := fun q => ac_1 r2 (by rw [← hx]; exact q)
  rw [← hx] at r2
  have k82 := nz_fi (p2 82 (by decide) (by decide))
  obtain ⟨y0, y1⟩ := x01' r2
  refine k0pg_41 (by decide) F3 X1 X2 g3.1 ?_ ?_
  · intro q F4 hb g e33 e34 e36 e37 e38 eFR eBU a39
    refine ⟨_, F4, rfl, rfl, (g3.mono (by decide)).trans (gc_mk (W := k0pg_W) hb g (by decide)) (fun _ q => q), Or.inl ⟨rfl, ?_⟩, fun zz => absurd zz (by decide)⟩
    rw [hr, n3, y0 q, e34, tg_eq e33]
    rfl
  · intro q F4 hb g e33 e34 e36 e37 e38 eFR eBU a39 e82
    obtain ⟨⟨t, w'⟩, ht, hJ1, hJ2⟩ := y1 q
    have hJ1 : tg F3 = t := hJ1
    subst hJ1
    obtain ⟨hv1, v, hv2, hv3⟩ := hv (hx1 q)
    rw [vg_eq (g0.2 41 (by decide) (by decide)), ht0] at hv2
    have a44 : sy_ai F4 44 = jm_upd (sy_ai F 44) 0 v := ((nz_fa (g 44 (by decide) (by decide))).trans (nz_fa (p1 44 (by decide)))).trans hv3
    have t3 : tg F3 = tg F + 1 := (tg_eq (nz_fi (p1 33 (by decide)))).trans hv1
    exact k0vg_c X1 X2 F0 r0 fr bu nm h0 F4 (g3.trans (gc_mk (W := [33, 34, 36, 37, 44]) hb g (by decide)) (fun _ q => q)) w' (wc_eq hJ2 e36 e37) a h8 (by omega) (by rw [tg_eq e33, t3, ht0]) (by rw [a44, jm_upd_at, if_pos rfl]; exact hv2) (by rw [hr, n3, ht, tg_eq e33]; rfl)
theorem k0vg_a (h0 : (sy_i F0 18).toInt = fr ∧ (sy_i F0 19).toInt = bu ∧ (sy_i F0 38).toInt ≤ fr + bu ∧ ncr nm F0) (F : Nat → sy_d) (g0 : gc [33, 34, 36, 37, 44] F0 F) (w : sE) (hw : wc (pg F0) w F) (a : Int) (ha : 0 ≤ a ∧ a ≤ 22) (e82 : (sy_i F 82).toInt = a) (hk : kg F0 (tg F0) = km a) (ht0 : tg F = tg F0) (h8 : 8 ≤ a ∧ a ≤ 10) (hr : r0 = sB (sG (tg F)) (fun t => n3 (kg F0) (vg F0) (0, (sy_i F 83).toInt) (fun q => .inr (q.1, fr, bu, nm, q.2)) (t, w))) :
    hd_W Ls xs 5 jm_M35 (fun v G => ∃ (x : Int32) (F' : Nat → sy_d), v = some (.int x) ∧ G = sy_dh F' X1 X2 (iv_H 0) ∧ gc k0pg_W F0 F' ∧ ac r0 (rcl (pg F0) 18 19) x F' ∧ (x = 1 → stC 20 a F0 F')) (28, sy_dL F [some (.inl (.ref 30)), some (.inr (.inl 82)), some (.inr (.inl 83))], sy_dS F [.inr (.inl 82), .inl (.ref 30)], sy_dh F X1 X2 (iv_H 0), 0, 0) := by
  refine hd_calI (R := fun x F' => taR (sy_i F 82).toInt x F F') (nh := 82) (nv := 84) (s := 0) (s1 := 0) (d1 := 3) (M1 := jm_M43) (As := [.inl (.ref 30), .inr (.inl 82)]) (rest := []) jm_ok35 rfl rfl (by decide) (by decide +kernel) (k0ta_T F X1 X2 g0.1 (sy_i F 82)) (fun F3 F' x hR p1 p2 p3 => ?_)
  obtain ⟨r1, r2⟩ := taR_dst hR p1
  rw [e82] at r2
  have r2 := r2 (fun c z => by
    rw [km_r ha.1 ha.2] at z
    have := (km_w (c := c) (k := a + 20) (by omega) (by omega)).mp z
    omega)
  rw [kg_eq (g0.2 39 (by decide) (by decide)), ht0, show sM (kg F0) (km a) (tg F0) = sG (tg F0) by unfold sM; rw [if_pos hk], ← ht0] at r2
  have g3 : gc [33, 34, 36, 37, 44] F0 F3 := g0.trans r1 (by decide)
  have hx : sy_i F3 84 = x := zz_i p3
  rw [← hx] at r2
  obtain ⟨y0, y1⟩ := x01' r2
  have i36 := r1.i (k := 36) (by decide) (by decide)
  have i37 := r1.i (k := 37) (by decide) (by decide)
  have k82 := nz_fi (p2 82 (by decide) (by decide))
  have k83 := nz_fi (p2 83 (by decide) (by decide))
  refine k0pg_31 (by decide) F3 X1 X2 g3.1 ?_ ?_
  · intro q F4 hb g e33 e34 e36 e37 e38 eFR eBU a39
    refine ⟨_, F4, rfl, rfl, (g3.mono (by decide)).trans (gc_mk (W := k0pg_W) hb g (by decide)) (fun _ q => q), Or.inl ⟨rfl, ?_⟩, fun zz => absurd zz (by decide)⟩
    rw [hr, y0 q, e34, tg_eq e33]
    rfl
  · intro q F4 hb g e33 e34 e36 e37 e38 eFR eBU a39 d82 d83
    obtain ⟨t, ht, hJ1⟩ := y1 q
    have hJ1 : tg F3 = t := hJ1
    subst hJ1
    have t3 : tg F3 = tg F + 1 := sG_r ht
    exact k0vg_b X1 X2 F0 r0 fr bu nm h0 F4 (g3.trans (gc_mk (W := [33, 34, 36, 37, 44]) hb g (by decide)) (fun _ q => q)) w (wc_eq hw (by omega) (by omega)) a h8 (by omega) (by rw [tg_eq e33, t3, ht0]) (by rw [hr, ht, tg_eq e33, d83, k83]; rfl)
end Sk0vg
theorem k0vg_T {Ls : Nat} {xs : Nat → Int32} (X1 X2 : List jm_c) (F : Nat → sy_d) (hB : iv_in F iv_B0) (a : Int32) (ha : 8 ≤ a.toInt ∧ a.toInt ≤ 10) (hk : kg F (tg F) = km a.toInt) (x : sT) (hx : rcl (pg F) 18 19 x F) : jm_T Ls xs 5 jm_M35 [.ref 30, .int a] (sy_dh F X1 X2 (iv_H 0)) 0 0 (fun v G => ∃ (y : Int32) (F' : Nat → sy_d), v = some (.int y) ∧ G = sy_dh F' X1 X2 (iv_H 0) ∧ gc k0pg_W F F' ∧ ac (sSet (kg F) (vg F) (sHi a.toInt) x) (rcl (pg F) 18 19) y F' ∧ (y = 1 → stC 20 a.toInt F F')) := by
  refine nx_T (s := 0) (by decide) F X1 X2 (as := [a]) (A := [.inl (.ref 30), .inr (.inl 82)]) jm_ok35 (by decide) rfl ?_
  obtain ⟨F0, hF0⟩ : ∃ F0, F0 = nx 82 F [a] := ⟨_, rfl⟩
  rw [← hF0]
  have k0 : ∀ q, q < 82 → F0 q = F q := by rw [hF0]; exact nx_lt
  have i82 : sy_i F0 82 = a := by rw [hF0]; rfl
  clear hF0
  have hB0 := hd_iveq0 hB k0
  have eK : kg F0 = kg F := kg_eq (k0 39 (by decide))
  have eV : vg F0 = vg F := vg_eq (k0 41 (by decide))
  have eP : pg F0 = pg F := pg_eq (k0 40 (by decide))
  have eT : tg F0 = tg F := tg_eq (nz_fi (k0 33 (by decide)))
  rw [← eK, ← eV, ← eP]
  rw [← eK, ← eT] at hk
  rw [← eP] at hx
  refine hd_W_mono (Q := fun v G => ∃ (x' : Int32) (F' : Nat → sy_d), v = some (.int x') ∧ G = sy_dh F' X1 X2 (iv_H 0) ∧ gc k0pg_W F0 F' ∧ ac (sSet (kg F0) (vg F0) (sHi a.toInt) x) (rcl (pg F0) 18 19) x' F' ∧ (x' = 1 → stC 20 a.toInt F0 F')) ?_ (by
    rintro v G ⟨x, F', rfl, rfl, h1, h2, h3⟩
    exact ⟨x, F', rfl, rfl, h1.src k0, h2, fun z => stC_src (h3 z) k0 (by decide)⟩)
  obtain ⟨t, fr, bu, nm, w⟩ := x
  obtain ⟨x1, x2, x3, x4, x5, x6⟩ := hx
  have x1 : tg F = t := x1
  subst x1
  have x2 : (sy_i F 18).toInt = fr := x2
  have x3 : (sy_i F 19).toInt = bu := x3
  have x4 : ncr nm F := x4
  have x5 : wc (pg F0) w F := x5
  have x6 : (sy_i F 38).toInt ≤ fr + bu := x6
  have j1 := nz_fi (k0 18 (by decide))
  have j2 := nz_fi (k0 19 (by decide))
  have j3 := nz_fi (k0 38 (by decide))
  have j4 := nz_fi (k0 36 (by decide))
  have j5 := nz_fi (k0 37 (by decide))
  have hS : ∀ hi, sSet (kg F0) (vg F0) hi (tg F, fr, bu, nm, w) = sB (sG (tg F)) (fun t => n3 (kg F0) (vg F0) (0, hi) (fun q => .inr (q.1, fr, bu, nm, q.2)) (t, w)) := fun hi => by
    unfold sSet sSt n3 n4
    simp only [sB_a]
    rfl
  have go : ∀ F1 : Nat → sy_d, iv_in F1 iv_B0 → (∀ j, j < 82 → j ∉ ([] : List Nat) → F1 j = F0 j) → (sy_i F1 33).toInt = (sy_i F0 33).toInt → (sy_i F1 36).toInt = (sy_i F0 36).toInt → (sy_i F1 37).toInt = (sy_i F0 37).toInt → (sy_i F1 82).toInt = (sy_i F0 82).toInt → (sy_i F1 83).toInt = sHi a.toInt → _ := fun F1 hb g e33 e36 e37 e82 e83 =>
    k0vg_a (Ls := Ls) (xs := xs) X1 X2 F0 (sSet (kg F0) (vg F0) (sHi a.toInt) (tg F, fr, bu, nm, w)) fr bu nm ⟨by omega, by omega, by omega, ncr_eq x4 (k0 43 (by decide)) (by omega)⟩ F1 (gc_mk hb g (by decide)) w (wc_eq x5 (by omega) (by omega)) a.toInt (by omega) (by rw [e82, i82]) hk (tg_eq e33) ha (by rw [hS, tg_eq e33, eT, e83])
  refine k0pg_0 (by decide) F0 X1 X2 hB0 ?_ ?_ ?_
  all_goals
    intros
    rename_i F1 hb g e33 e34 e36 e37 e38 eFR eBU a39 e82 e83
    refine go F1 hb g e33 e36 e37 e82 ?_
    rw [i82] at *
    rw [e83]
    unfold sHi
    split <;> omega
section Sk3vg
variable {Ls : Nat} {xs : Nat → Int32} (X1 X2 : List jm_c) (F0 : Nat → sy_d) (r0 : sE ⊕ sT) (fr bu : Nat) (nm : List Int64)
theorem k3vg_c (h0 : (sy_i F0 3).toInt = fr ∧ (sy_i F0 4).toInt = bu ∧ (sy_i F0 38).toInt ≤ fr + bu ∧ ncr nm F0) (F : Nat → sy_d) (g0 : gc [33, 34, 36, 37, 44] F0 F) (w : sE) (hw : wc (pg F0) w F) (a : Int) (h8 : 8 ≤ a ∧ a ≤ 10) (e82 : (sy_i F 82).toInt = a) (ht0 : tg F = tg F0 + 2) (n0 : ((sy_ai F 44).getD 0 0).toInt = vg F0 (tg F0 + 1)) (hr : r0 = n4 (kg F0) (fun q => .inr (q.1, fr, bu, nm, q.2)) (tg F, w)) :
    hd_W Ls xs 5 jm_M35 (fun v G => ∃ (x : Int32) (F' : Nat → sy_d), v = some (.int x) ∧ G = sy_dh F' X1 X2 (iv_H 3) ∧ gc k3pg_W F0 F' ∧ ac r0 (rcl (pg F0) 3 4) x F' ∧ (x = 1 → stC 5 a F0 F')) (47, sy_dL F [some (.inl (.ref 30)), some (.inr (.inl 82)), none], sy_dS F [.inl (.int 59), .inl (.ref 30)], sy_dh F X1 X2 (iv_H 3), 0, 0) := by
  refine hd_calI (R := fun x F' => taR ((59 : Int32)).toInt x F F') (nh := 82) (nv := 83) (s := 3) (s1 := 3) (d1 := 3) (M1 := jm_M43) (As := [.inl (.ref 30), .inl (.int 59)]) (rest := []) jm_ok35 rfl rfl (by decide) (by decide +kernel) (k3ta_T F X1 X2 g0.1 59) (fun F3 F' x hR p1 p2 p3 => ?_)
  have hR : taR 59 x F F' := hR
  obtain ⟨r1, r2⟩ := taR_dst hR p1
  have r2 := r2 (km_in (j := 4) (fun c => km_4) (by decide))
  rw [show km 59 = 4 by decide, kg_eq (g0.2 39 (by decide) (by decide))] at r2
  have g3 : gc [33, 34, 36, 37, 44] F0 F3 := g0.trans r1 (by decide)
  have hx : sy_i F3 83 = x := zz_i p3
  rw [← hx] at r2
  obtain ⟨y0, y1⟩ := x01' r2
  have f1 := g3.i (k := 3) (by decide) (by decide)
  have f2 := g3.i (k := 4) (by decide) (by decide)
  have f3 := g3.i (k := 38) (by decide) (by decide)
  have i36 := r1.i (k := 36) (by decide) (by decide)
  have i37 := r1.i (k := 37) (by decide) (by decide)
  refine k3zpg_50 (by decide) F3 X1 X2 g3.1 ?_ ?_ ?_ ?_
  · intro q _ _ F4 hb g e33 e34 e36 e37 e38 eFR eBU eS0 eS1 eS2 a39
    obtain ⟨t, ht, hJ⟩ := y1 q
    have t3 : tg F3 = tg F + 1 := by rw [hJ]; exact sM_r ht
    have k82 := nz_fi (p2 82 (by decide) (by decide))
    have v0 : ((sy_ai F3 44).getD (0 : Int).toNat 0).toInt = vg F0 (tg F0 + 1) := by rw [show sy_ai F3 44 = sy_ai F 44 from nz_fa (r1.2 44 (by decide) (by decide))]; exact n0
    have u0 := g3.i (k := 5) (by decide) (by decide)
    have u1 := g3.i (k := 6) (by decide) (by decide)
    have u2 := g3.i (k := 7) (by decide) (by decide)
    refine ⟨_, F4, rfl, rfl, (g3.mono (by decide)).trans (gc_mk (W := k3pg_W) hb g (by decide)) (fun _ q => q), ac_ok (by rw [hr, n4, ht]; rfl) ⟨by rw [tg_eq e33]; exact hJ, by show _ = ((fr : Nat) : Int); omega, by show _ = ((bu : Nat) : Int); omega, ncr_eq h0.2.2.2 ((g 43 (by decide) (by decide)).trans (g3.2 43 (by decide) (by decide))) (by omega), wc_eq hw (by omega) (by omega), by show _ ≤ ((fr : Nat) : Int) + ((bu : Nat) : Int); omega⟩, fun _ => ⟨by rw [tg_eq e33]; omega, by split <;> omega, by show (sy_i F4 6).toInt = (if a = 9 then vg F0 (tg F0 + 1) else (sy_i F0 6).toInt); split <;> omega, by show (sy_i F4 7).toInt = (if a = 10 then vg F0 (tg F0 + 1) else (sy_i F0 7).toInt); split <;> omega⟩⟩
  · intro q _ _ F4 hb g e33 e34 e36 e37 e38 eFR eBU eS0 eS1 eS2 a39
    obtain ⟨t, ht, hJ⟩ := y1 q
    have t3 : tg F3 = tg F + 1 := by rw [hJ]; exact sM_r ht
    have k82 := nz_fi (p2 82 (by decide) (by decide))
    have v0 : ((sy_ai F3 44).getD (0 : Int).toNat 0).toInt = vg F0 (tg F0 + 1) := by rw [show sy_ai F3 44 = sy_ai F 44 from nz_fa (r1.2 44 (by decide) (by decide))]; exact n0
    have u0 := g3.i (k := 5) (by decide) (by decide)
    have u1 := g3.i (k := 6) (by decide) (by decide)
    have u2 := g3.i (k := 7) (by decide) (by decide)
    refine ⟨_, F4, rfl, rfl, (g3.mono (by decide)).trans (gc_mk (W := k3pg_W) hb g (by decide)) (fun _ q => q), ac_ok (by rw [hr, n4, ht]; rfl) ⟨by rw [tg_eq e33]; exact hJ, by show _ = ((fr : Nat) : Int); omega, by show _ = ((bu : Nat) : Int); omega, ncr_eq h0.2.2.2 ((g 43 (by decide) (by decide)).trans (g3.2 43 (by decide) (by decide))) (by omega), wc_eq hw (by omega) (by omega), by show _ ≤ ((fr : Nat) : Int) + ((bu : Nat) : Int); omega⟩, fun _ => ⟨by rw [tg_eq e33]; omega, by split <;> omega, by show (sy_i F4 6).toInt = (if a = 9 then vg F0 (tg F0 + 1) else (sy_i F0 6).toInt); split <;> omega, by show (sy_i F4 7).toInt = (if a = 10 then vg F0 (tg F0 + 1) else (sy_i F0 7).toInt); split <;> omega⟩⟩
  · intro q _ F4 hb g e33 e34 e36 e37 e38 eFR eBU eS0 eS1 eS2 a39
    obtain ⟨t, ht, hJ⟩ := y1 q
    have t3 : tg F3 = tg F + 1 := by rw [hJ]; exact sM_r ht
    have k82 := nz_fi (p2 82 (by decide) (by decide))
    have v0 : ((sy_ai F3 44).getD (0 : Int).toNat 0).toInt = vg F0 (tg F0 + 1) := by rw [show sy_ai F3 44 = sy_ai F 44 from nz_fa (r1.2 44 (by decide) (by decide))]; exact n0
    have u0 := g3.i (k := 5) (by decide) (by decide)
    have u1 := g3.i (k := 6) (by decide) (by decide)
    have u2 := g3.i (k := 7) (by decide) (by decide)
    refine ⟨_, F4, rfl, rfl, (g3.mono (by decide)).trans (gc_mk (W := k3pg_W) hb g (by decide)) (fun _ q => q), ac_ok (by rw [hr, n4, ht]; rfl) ⟨by rw [tg_eq e33]; exact hJ, by show _ = ((fr : Nat) : Int); omega, by show _ = ((bu : Nat) : Int); omega, ncr_eq h0.2.2.2 ((g 43 (by decide) (by decide)).trans (g3.2 43 (by decide) (by decide))) (by omega), wc_eq hw (by omega) (by omega), by show _ ≤ ((fr : Nat) : Int) + ((bu : Nat) : Int); omega⟩, fun _ => ⟨by rw [tg_eq e33]; omega, by split <;> omega, by show (sy_i F4 6).toInt = (if a = 9 then vg F0 (tg F0 + 1) else (sy_i F0 6).toInt); split <;> omega, by show (sy_i F4 7).toInt = (if a = 10 then vg F0 (tg F0 + 1) else (sy_i F0 7).toInt); split <;> omega⟩⟩
  · intro q F4 hb g e33 e34 e36 e37 e38 eFR eBU eS0 eS1 eS2 a39
    refine ⟨_, F4, rfl, rfl, (g3.mono (by decide)).trans (gc_mk (W := k3pg_W) hb g (by decide)) (fun _ q => q), Or.inl ⟨rfl, ?_⟩, fun zz => absurd zz (by decide)⟩
    rw [hr, n4, y0 q, e34, tg_eq e33]
    rfl
theorem k3vg_b (h0 : (sy_i F0 3).toInt = fr ∧ (sy_i F0 4).toInt = bu ∧ (sy_i F0 38).toInt ≤ fr + bu ∧ ncr nm F0) (F : Nat → sy_d) (g0 : gc [33, 34, 36, 37, 44] F0 F) (w : sE) (hw : wc (pg F0) w F) (a : Int) (h8 : 8 ≤ a ∧ a ≤ 10) (e82' : (sy_i F 82).toInt = a) (ht0 : tg F = tg F0 + 1) (hr : r0 = n3 (kg F0) (vg F0) (0, (sy_i F 83).toInt) (fun q => .inr (q.1, fr, bu, nm, q.2)) (tg F, w)) :
    hd_W Ls xs 5 jm_M35 (fun v G => ∃ (x : Int32) (F' : Nat → sy_d), v = some (.int x) ∧ G = sy_dh F' X1 X2 (iv_H 3) ∧ gc k3pg_W F0 F' ∧ ac r0 (rcl (pg F0) 3 4) x F' ∧ (x = 1 → stC 5 a F0 F')) (38, sy_dL F [some (.inl (.ref 30)), some (.inr (.inl 82)), none], sy_dS F [.inr (.inl 83), .inl (.int 0), .inl (.int 0), .inl (.ref 30)], sy_dh F X1 X2 (iv_H 3), 0, 0) := by
  refine hd_calI (R := fun x F' => tnZ 0 ((0 : Int32)).toInt (sy_i F 83).toInt x F F') (nh := 82) (nv := 84) (s := 3) (s1 := 3) (d1 := 4) (M1 := jm_M42) (As := [.inl (.ref 30), .inl (.int 0), .inl (.int 0), .inr (.inl 83)]) (rest := []) jm_ok35 rfl rfl (by decide) (by decide +kernel) (k3tn_TZ F X1 X2 g0.1 0 0 (sy_i F 83) (by decide) (by decide)) (fun F3 F' x hR p1 p2 p3 => ?_)
  obtain ⟨hR, hv⟩ : tnZ 0 0 (sy_i F 83).toInt x F F' := hR
  obtain ⟨r1, r2⟩ := tnR_dst hR p1
  rw [kg_eq (g0.2 39 (by decide) (by decide)), pg_eq (g0.2 40 (by decide) (by decide)), vg_eq (g0.2 41 (by decide) (by decide))] at r2
  have r2 := r2 w hw
  have g3 : gc [33, 34, 36, 37, 44] F0 F3 := g0.trans r1 (fun _ q => q)
  have hx : sy_i F3 84 = x := zz_i p3
  have hx1 : (sy_i F3 84).toInt ≠ 0 → x = 1 := fun q => ac_1 r2 (by rw [← hx]; exact q)
  rw [← hx] at r2
  have k82 := nz_fi (p2 82 (by decide) (by decide))
  obtain ⟨y0, y1⟩ := x01' r2
  refine k3pg_41 (by decide) F3 X1 X2 g3.1 ?_ ?_
  · intro q F4 hb g e33 e34 e36 e37 e38 eFR eBU a39
    refine ⟨_, F4, rfl, rfl, (g3.mono (by decide)).trans (gc_mk (W := k3pg_W) hb g (by decide)) (fun _ q => q), Or.inl ⟨rfl, ?_⟩, fun zz => absurd zz (by decide)⟩
    rw [hr, n3, y0 q, e34, tg_eq e33]
    rfl
  · intro q F4 hb g e33 e34 e36 e37 e38 eFR eBU a39 e82
    obtain ⟨⟨t, w'⟩, ht, hJ1, hJ2⟩ := y1 q
    have hJ1 : tg F3 = t := hJ1
    subst hJ1
    obtain ⟨hv1, v, hv2, hv3⟩ := hv (hx1 q)
    rw [vg_eq (g0.2 41 (by decide) (by decide)), ht0] at hv2
    have a44 : sy_ai F4 44 = jm_upd (sy_ai F 44) 0 v := ((nz_fa (g 44 (by decide) (by decide))).trans (nz_fa (p1 44 (by decide)))).trans hv3
    have t3 : tg F3 = tg F + 1 := (tg_eq (nz_fi (p1 33 (by decide)))).trans hv1
    exact k3vg_c X1 X2 F0 r0 fr bu nm h0 F4 (g3.trans (gc_mk (W := [33, 34, 36, 37, 44]) hb g (by decide)) (fun _ q => q)) w' (wc_eq hJ2 e36 e37) a h8 (by omega) (by rw [tg_eq e33, t3, ht0]) (by rw [a44, jm_upd_at, if_pos rfl]; exact hv2) (by rw [hr, n3, ht, tg_eq e33]; rfl)
theorem k3vg_a (h0 : (sy_i F0 3).toInt = fr ∧ (sy_i F0 4).toInt = bu ∧ (sy_i F0 38).toInt ≤ fr + bu ∧ ncr nm F0) (F : Nat → sy_d) (g0 : gc [33, 34, 36, 37, 44] F0 F) (w : sE) (hw : wc (pg F0) w F) (a : Int) (ha : 0 ≤ a ∧ a ≤ 22) (e82 : (sy_i F 82).toInt = a) (hk : kg F0 (tg F0) = km a) (ht0 : tg F = tg F0) (h8 : 8 ≤ a ∧ a ≤ 10) (hr : r0 = sB (sG (tg F)) (fun t => n3 (kg F0) (vg F0) (0, (sy_i F 83).toInt) (fun q => .inr (q.1, fr, bu, nm, q.2)) (t, w))) :
    hd_W Ls xs 5 jm_M35 (fun v G => ∃ (x : Int32) (F' : Nat → sy_d), v = some (.int x) ∧ G = sy_dh F' X1 X2 (iv_H 3) ∧ gc k3pg_W F0 F' ∧ ac r0 (rcl (pg F0) 3 4) x F' ∧ (x = 1 → stC 5 a F0 F')) (28, sy_dL F [some (.inl (.ref 30)), some (.inr (.inl 82)), some (.inr (.inl 83))], sy_dS F [.inr (.inl 82), .inl (.ref 30)], sy_dh F X1 X2 (iv_H 3), 0, 0) := by
  refine hd_calI (R := fun x F' => taR (sy_i F 82).toInt x F F') (nh := 82) (nv := 84) (s := 3) (s1 := 3) (d1 := 3) (M1 := jm_M43) (As := [.inl (.ref 30), .inr (.inl 82)]) (rest := []) jm_ok35 rfl rfl (by decide) (by decide +kernel) (k3ta_T F X1 X2 g0.1 (sy_i F 82)) (fun F3 F' x hR p1 p2 p3 => ?_)
  obtain ⟨r1, r2⟩ := taR_dst hR p1
  rw [e82] at r2
  have r2 := r2 (fun c z => by
    rw [km_r ha.1 ha.2] at z
    have := (km_w (c := c) (k := a + 20) (by omega) (by omega)).mp z
    omega)
  rw [kg_eq (g0.2 39 (by decide) (by decide)), ht0, show sM (kg F0) (km a) (tg F0) = sG (tg F0) by unfold sM; rw [if_pos hk], ← ht0] at r2
  have g3 : gc [33, 34, 36, 37, 44] F0 F3 := g0.trans r1 (by decide)
  have hx : sy_i F3 84 = x := zz_i p3
  rw [← hx] at r2
  obtain ⟨y0, y1⟩ := x01' r2
  have i36 := r1.i (k := 36) (by decide) (by decide)
  have i37 := r1.i (k := 37) (by decide) (by decide)
  have k82 := nz_fi (p2 82 (by decide) (by decide))
  have k83 := nz_fi (p2 83 (by decide) (by decide))
  refine k3pg_31 (by decide) F3 X1 X2 g3.1 ?_ ?_
  · intro q F4 hb g e33 e34 e36 e37 e38 eFR eBU a39
    refine ⟨_, F4, rfl, rfl, (g3.mono (by decide)).trans (gc_mk (W := k3pg_W) hb g (by decide)) (fun _ q => q), Or.inl ⟨rfl, ?_⟩, fun zz => absurd zz (by decide)⟩
    rw [hr, y0 q, e34, tg_eq e33]
    rfl
  · intro q F4 hb g e33 e34 e36 e37 e38 eFR eBU a39 d82 d83
    obtain ⟨t, ht, hJ1⟩ := y1 q
    have hJ1 : tg F3 = t := hJ1
    subst hJ1
    have t3 : tg F3 = tg F + 1 := sG_r ht
    exact k3vg_b X1 X2 F0 r0 fr bu nm h0 F4 (g3.trans (gc_mk (W := [33, 34, 36, 37, 44]) hb g (by decide)) (fun _ q => q)) w (wc_eq hw (by omega) (by omega)) a h8 (by omega) (by rw [tg_eq e33, t3, ht0]) (by rw [hr, ht, tg_eq e33, d83, k83]; rfl)
end Sk3vg
theorem k3vg_T {Ls : Nat} {xs : Nat → Int32} (X1 X2 : List jm_c) (F : Nat → sy_d) (hB : iv_in F iv_B0) (a : Int32) (ha : 8 ≤ a.toInt ∧ a.toInt ≤ 10) (hk : kg F (tg F) = km a.toInt) (x : sT) (hx : rcl (pg F) 3 4 x F) : jm_T Ls xs 5 jm_M35 [.ref 30, .int a] (sy_dh F X1 X2 (iv_H 3)) 0 0 (fun v G => ∃ (y : Int32) (F' : Nat → sy_d), v = some (.int y) ∧ G = sy_dh F' X1 X2 (iv_H 3) ∧ gc k3pg_W F F' ∧ ac (sSet (kg F) (vg F) (sHi a.toInt) x) (rcl (pg F) 3 4) y F' ∧ (y = 1 → stC 5 a.toInt F F')) := by
  refine nx_T (s := 3) (by decide) F X1 X2 (as := [a]) (A := [.inl (.ref 30), .inr (.inl 82)]) jm_ok35 (by decide) rfl ?_
  obtain ⟨F0, hF0⟩ : ∃ F0, F0 = nx 82 F [a] := ⟨_, rfl⟩
  rw [← hF0]
  have k0 : ∀ q, q < 82 → F0 q = F q := by rw [hF0]; exact nx_lt
  have i82 : sy_i F0 82 = a := by rw [hF0]; rfl
  clear hF0
  have hB0 := hd_iveq0 hB k0
  have eK : kg F0 = kg F := kg_eq (k0 39 (by decide))
  have eV : vg F0 = vg F := vg_eq (k0 41 (by decide))
  have eP : pg F0 = pg F := pg_eq (k0 40 (by decide))
  have eT : tg F0 = tg F := tg_eq (nz_fi (k0 33 (by decide)))
  rw [← eK, ← eV, ← eP]
  rw [← eK, ← eT] at hk
  rw [← eP] at hx
  refine hd_W_mono (Q := fun v G => ∃ (x' : Int32) (F' : Nat → sy_d), v = some (.int x') ∧ G = sy_dh F' X1 X2 (iv_H 3) ∧ gc k3pg_W F0 F' ∧ ac (sSet (kg F0) (vg F0) (sHi a.toInt) x) (rcl (pg F0) 3 4) x' F' ∧ (x' = 1 → stC 5 a.toInt F0 F')) ?_ (by
    rintro v G ⟨x, F', rfl, rfl, h1, h2, h3⟩
    exact ⟨x, F', rfl, rfl, h1.src k0, h2, fun z => stC_src (h3 z) k0 (by decide)⟩)
  obtain ⟨t, fr, bu, nm, w⟩ := x
  obtain ⟨x1, x2, x3, x4, x5, x6⟩ := hx
  have x1 : tg F = t := x1
  subst x1
  have x2 : (sy_i F 3).toInt = fr := x2
  have x3 : (sy_i F 4).toInt = bu := x3
  have x4 : ncr nm F := x4
  have x5 : wc (pg F0) w F := x5
  have x6 : (sy_i F 38).toInt ≤ fr + bu := x6
  have j1 := nz_fi (k0 3 (by decide))
  have j2 := nz_fi (k0 4 (by decide))
  have j3 := nz_fi (k0 38 (by decide))
  have j4 := nz_fi (k0 36 (by decide))
  have j5 := nz_fi (k0 37 (by decide))
  have hS : ∀ hi, sSet (kg F0) (vg F0) hi (tg F, fr, bu, nm, w) = sB (sG (tg F)) (fun t => n3 (kg F0) (vg F0) (0, hi) (fun q => .inr (q.1, fr, bu, nm, q.2)) (t, w)) := fun hi => by
    unfold sSet sSt n3 n4
    simp only [sB_a]
    rfl
  have go : ∀ F1 : Nat → sy_d, iv_in F1 iv_B0 → (∀ j, j < 82 → j ∉ ([] : List Nat) → F1 j = F0 j) → (sy_i F1 33).toInt = (sy_i F0 33).toInt → (sy_i F1 36).toInt = (sy_i F0 36).toInt → (sy_i F1 37).toInt = (sy_i F0 37).toInt → (sy_i F1 82).toInt = (sy_i F0 82).toInt → (sy_i F1 83).toInt = sHi a.toInt → _ := fun F1 hb g e33 e36 e37 e82 e83 =>
    k3vg_a (Ls := Ls) (xs := xs) X1 X2 F0 (sSet (kg F0) (vg F0) (sHi a.toInt) (tg F, fr, bu, nm, w)) fr bu nm ⟨by omega, by omega, by omega, ncr_eq x4 (k0 43 (by decide)) (by omega)⟩ F1 (gc_mk hb g (by decide)) w (wc_eq x5 (by omega) (by omega)) a.toInt (by omega) (by rw [e82, i82]) hk (tg_eq e33) ha (by rw [hS, tg_eq e33, eT, e83])
  refine k3pg_0 (by decide) F0 X1 X2 hB0 ?_ ?_ ?_
  all_goals
    intros
    rename_i F1 hb g e33 e34 e36 e37 e38 eFR eBU a39 e82 e83
    refine go F1 hb g e33 e36 e37 e82 ?_
    rw [i82] at *
    rw [e83]
    unfold sHi
    split <;> omega
end
section
/-! ===== what the class has of a text; b: where the text's fields begin ===== -/
noncomputable def r3c (F : Nat → sy_d) (c a : Nat) (l : List t3) : Prop := (sy_i F c).toInt = l.length ∧ ∀ (i : Nat) (v : t3), l[i]? = some v → ix F a i = v.1 ∧ ix F (a + 1) i = v.2.1 ∧ ix F (a + 2) i = v.2.2
/-- a law that was not told -/
def pb (k : Nat) : List bRT := [(none, [if k = 1 then (0, 1) else if k = 2 ∨ k = 3 then (1, 0) else (0, 0)])]
noncomputable def rLc (b : Nat) (F : Nat → sy_d) (k : Nat) (bs : List bRT) : Prop := 0 ≤ ix F (b + 13) k ∧ ix F (b + 13) k + (lcs k (ix F (b + 13) k).toNat bs).length ≤ (sy_i F (b + 5)).toInt ∧ clc (sy_ai F (b + 14)) (ix F (b + 13) k).toNat (lcs k (ix F (b + 13) k).toNat bs).length = lcs k (ix F (b + 13) k).toNat bs
noncomputable def rXc (b : Nat) (T : tX) (F : Nat → sy_d) : Prop := r3c F b (b + 6) T.1 ∧ r3c F (b + 1) (b + 10) T.2.1 ∧ (sy_i F (b + 2)).toInt = T.2.2.1 ∧ (sy_i F (b + 3)).toInt = T.2.2.2.1 ∧ (sy_i F (b + 4)).toInt = T.2.2.2.2.1 ∧ ∀ k, k < 6 → rLc b F k ((T.2.2.2.2.2 k).getD (pb k))
section XC
variable {b : Nat} {F F' : Nat → sy_d}
theorem ix_c {a : Nat} (h : F' a = F a) (i : Nat) : ix F' a i = ix F a i := by unfold ix; rw [nz_fa h]
theorem r3c_eq {c a : Nat} {l : List t3} (h : r3c F c a l) (e : F' c = F c) (e0 : F' a = F a) (e1 : F' (a + 1) = F (a + 1)) (e2 : F' (a + 2) = F (a + 2)) : r3c F' c a l := by
  refine ⟨by rw [nz_fi e]; exact h.1, fun i v hv => ?_⟩
  rw [ix_c e0, ix_c e1, ix_c e2]
  exact h.2 i v hv
theorem r3c_push {c a : Nat} {l : List t3} (h : r3c F c a l) (n : nbC c a F F') : r3c F' c a (l ++ [(vg F (tg F + 2), vg F (tg F + 3), vg F (tg F + 4))]) := by
  obtain ⟨-, n1, x, y, z, hx, hy, hz, e0, e1, e2⟩ := n
  obtain ⟨h1, h2⟩ := h
  refine ⟨by rw [n1, h1, List.length_append]; rfl, fun i v hv => ?_⟩
  have hi := (List.getElem?_eq_some_iff.mp hv).1
  rw [List.length_append] at hi
  unfold ix
  rw [e0, e1, e2, h1]
  by_cases q : i = l.length
  · subst q
    rw [List.getElem?_append_right (Nat.le_refl _), Nat.sub_self] at hv
    have hv : (vg F (tg F + 2), vg F (tg F + 3), vg F (tg F + 4)) = v := Option.some.inj hv
    rw [← hv]
    refine ⟨?_, ?_, ?_⟩ <;> (rw [jm_upd_at, if_pos (by omega)]; assumption)
  · have hi2 : i < l.length := by
      simp only [List.length_cons, List.length_nil] at hi
      omega
    rw [List.getElem?_append_left hi2] at hv
    obtain ⟨y1, y2, y3⟩ := h2 i v hv
    refine ⟨?_, ?_, ?_⟩ <;> (rw [jm_upd_at, if_neg (by omega)]; assumption)
theorem rLc_eq {k : Nat} {bs : List bRT} (h : rLc b F k bs) (e13 : ix F' (b + 13) k = ix F (b + 13) k) (e5 : (sy_i F (b + 5)).toInt ≤ (sy_i F' (b + 5)).toInt) (e14 : ∀ i : Nat, (i : Int) < (sy_i F (b + 5)).toInt → (sy_ai F' (b + 14)).getD i 0 = (sy_ai F (b + 14)).getD i 0) : rLc b F' k bs := by
  unfold rLc at h ⊢
  rw [e13]
  refine ⟨h.1, by have := h.2.1; omega, ?_⟩
  rw [clc_eq (a := sy_ai F (b + 14)) _ (fun i _ h2 => e14 i (by have := h.2.1; have := h.1; omega))]
  exact h.2.2
theorem rXc_eq {T : tX} (h : rXc b T F) (e : ∀ j, b ≤ j → j < b + 15 → F' j = F j) : rXc b T F' := by
  obtain ⟨h1, h2, h3, h4, h5, h6⟩ := h
  refine ⟨r3c_eq h1 (e _ (by omega) (by omega)) (e _ (by omega) (by omega)) (e _ (by omega) (by omega)) (e _ (by omega) (by omega)), r3c_eq h2 (e _ (by omega) (by omega)) (e _ (by omega) (by omega)) (e _ (by omega) (by omega)) (e _ (by omega) (by omega)), by rw [nz_fi (e (b + 2) (by omega) (by omega))]; exact h3, by rw [nz_fi (e (b + 3) (by omega) (by omega))]; exact h4, by rw [nz_fi (e (b + 4) (by omega) (by omega))]; exact h5, fun k hk => rLc_eq (h6 k hk) (ix_c (e _ (by omega) (by omega)) k) (Int.le_of_eq (nz_fi (e _ (by omega) (by omega))).symm) (fun i _ => by rw [nz_fa (e (b + 14) (by omega) (by omega))])⟩
theorem rXc_fr {T : tX} (hk : kg F (tg F) = 20) (h : rXc b T F) (n : nbC b (b + 6) F F') (e : ∀ j, b < j → j < b + 15 → (j < b + 6 ∨ b + 8 < j) → F' j = F j) : rXc b (tU (kg F) (vg F) (tg F) T) F' := by
  obtain ⟨h1, h2, h3, h4, h5, h6⟩ := h
  unfold tU
  rw [if_pos hk]
  exact ⟨r3c_push h1 n, r3c_eq h2 (e _ (by omega) (by omega) (by omega)) (e _ (by omega) (by omega) (by omega)) (e _ (by omega) (by omega) (by omega)) (e _ (by omega) (by omega) (by omega)), by rw [nz_fi (e (b + 2) (by omega) (by omega) (by omega))]; exact h3, by rw [nz_fi (e (b + 3) (by omega) (by omega) (by omega))]; exact h4, by rw [nz_fi (e (b + 4) (by omega) (by omega) (by omega))]; exact h5, fun k hk => rLc_eq (h6 k hk) (ix_c (e _ (by omega) (by omega) (by omega)) k) (Int.le_of_eq (nz_fi (e _ (by omega) (by omega) (by omega))).symm) (fun i _ => by rw [nz_fa (e (b + 14) (by omega) (by omega) (by omega))])⟩
theorem rXc_bu {T : tX} (hk : kg F (tg F) = 21) (h : rXc b T F) (n : nbC (b + 1) (b + 10) F F') (e : ∀ j, b ≤ j → j < b + 15 → j ≠ b + 1 → (j < b + 10 ∨ b + 12 < j) → F' j = F j) : rXc b (tU (kg F) (vg F) (tg F) T) F' := by
  obtain ⟨h1, h2, h3, h4, h5, h6⟩ := h
  unfold tU
  rw [if_neg (by omega), if_pos hk]
  exact ⟨r3c_eq h1 (e _ (by omega) (by omega) (by omega) (by omega)) (e _ (by omega) (by omega) (by omega) (by omega)) (e _ (by omega) (by omega) (by omega) (by omega)) (e _ (by omega) (by omega) (by omega) (by omega)), r3c_push h2 n, by rw [nz_fi (e (b + 2) (by omega) (by omega) (by omega) (by omega))]; exact h3, by rw [nz_fi (e (b + 3) (by omega) (by omega) (by omega) (by omega))]; exact h4, by rw [nz_fi (e (b + 4) (by omega) (by omega) (by omega) (by omega))]; exact h5, fun k hk => rLc_eq (h6 k hk) (ix_c (e _ (by omega) (by omega) (by omega) (by omega)) k) (Int.le_of_eq (nz_fi (e _ (by omega) (by omega) (by omega) (by omega))).symm) (fun i _ => by rw [nz_fa (e (b + 14) (by omega) (by omega) (by omega) (by omega))])⟩
theorem rXc_st {T : tX} {a : Int} (ha : 8 ≤ a ∧ a ≤ 10) (hk : kg F (tg F) = a + 20) (h : rXc b T F) (n : stC (b + 2) a F F') (e : ∀ j, b ≤ j → j < b + 15 → (j < b + 2 ∨ b + 4 < j) → F' j = F j) : rXc b (tU (kg F) (vg F) (tg F) T) F' := by
  obtain ⟨h1, h2, h3, h4, h5, h6⟩ := h
  obtain ⟨-, n1, n2, n3⟩ := n
  have n2 : (sy_i F' (b + 3)).toInt = (if a = 9 then vg F (tg F + 1) else (sy_i F (b + 3)).toInt) := n2
  have n3 : (sy_i F' (b + 4)).toInt = (if a = 10 then vg F (tg F + 1) else (sy_i F (b + 4)).toInt) := n3
  have c1 : r3c F' b (b + 6) T.1 := r3c_eq h1 (e _ (by omega) (by omega) (by omega)) (e _ (by omega) (by omega) (by omega)) (e _ (by omega) (by omega) (by omega)) (e _ (by omega) (by omega) (by omega))
  have c2 : r3c F' (b + 1) (b + 10) T.2.1 := r3c_eq h2 (e _ (by omega) (by omega) (by omega)) (e _ (by omega) (by omega) (by omega)) (e _ (by omega) (by omega) (by omega)) (e _ (by omega) (by omega) (by omega))
  have c6 : ∀ k, k < 6 → rLc b F' k ((T.2.2.2.2.2 k).getD (pb k)) := fun k hk => rLc_eq (h6 k hk) (ix_c (e _ (by omega) (by omega) (by omega)) k) (Int.le_of_eq (nz_fi (e _ (by omega) (by omega) (by omega))).symm) (fun i _ => by rw [nz_fa (e (b + 14) (by omega) (by omega) (by omega))])
  unfold tU
  rw [if_neg (by omega), if_neg (by omega)]
  by_cases q8 : a = 8
  · rw [if_pos (by omega)]
    rw [if_pos q8] at n1
    rw [if_neg (by omega)] at n2 n3
    exact ⟨c1, c2, n1, n2.trans h4, n3.trans h5, c6⟩
  · rw [if_neg (by omega)]
    rw [if_neg q8] at n1
    by_cases q9 : a = 9
    · rw [if_pos (by omega)]
      rw [if_pos q9] at n2
      rw [if_neg (by omega)] at n3
      exact ⟨c1, c2, n1.trans h3, n2, n3.trans h5, c6⟩
    · rw [if_neg (by omega), if_pos (by omega)]
      rw [if_neg q9] at n2
      rw [if_pos (by omega)] at n3
      exact ⟨c1, c2, n1.trans h3, n2.trans h4, n3, c6⟩
theorem zlr_r {K V : Nat → Int} {t t' : Nat} {bs : List bRT} (h : zlr K V t = .inr (t', bs)) : lwC (zLw K V (t + 1)) = bs := by
  unfold zlr at h
  cases hh : sG t with
  | inl x =>
    rw [hh] at h
    cases h
  | inr u =>
    rw [hh] at h
    have hu := sG_r hh
    subst hu
    have h : zLw K V (t + 1) = .inr (t', bs) := h
    rw [h]
    rfl
theorem rXc_lw {T : tX} {a : Int} (ha : 0 ≤ a ∧ a ≤ 5) (h0 : 0 ≤ (sy_i F (b + 5)).toInt) (hk : kg F (tg F) = a + 22) (h : rXc b T F) (n : plC (b + 5) (b + 14) (b + 13) (zlr (kg F) (vg F) (tg F)) a F F') (e : ∀ j, b ≤ j → j < b + 15 → j ≠ b + 5 → j ≠ b + 13 → j ≠ b + 14 → F' j = F j) : rXc b (tU (kg F) (vg F) (tg F) T) F' := by
  obtain ⟨h1, h2, h3, h4, h5, h6⟩ := h
  obtain ⟨-, bs, n1, n2, n3⟩ := n
  have hl := zlr_r n1
  unfold tU
  rw [if_neg (by omega), if_neg (by omega), if_neg (by omega), if_neg (by omega), if_neg (by omega), hl]
  refine ⟨r3c_eq h1 (e _ (by omega) (by omega) (by omega) (by omega) (by omega)) (e _ (by omega) (by omega) (by omega) (by omega) (by omega)) (e _ (by omega) (by omega) (by omega) (by omega) (by omega)) (e _ (by omega) (by omega) (by omega) (by omega) (by omega)), r3c_eq h2 (e _ (by omega) (by omega) (by omega) (by omega) (by omega)) (e _ (by omega) (by omega) (by omega) (by omega) (by omega)) (e _ (by omega) (by omega) (by omega) (by omega) (by omega)) (e _ (by omega) (by omega) (by omega) (by omega) (by omega)), by rw [nz_fi (e (b + 2) (by omega) (by omega) (by omega) (by omega) (by omega))]; exact h3, by rw [nz_fi (e (b + 3) (by omega) (by omega) (by omega) (by omega) (by omega))]; exact h4, by rw [nz_fi (e (b + 4) (by omega) (by omega) (by omega) (by omega) (by omega))]; exact h5, fun k hk6 => ?_⟩
  obtain ⟨m1, m2, m3, m4⟩ := n2
  show rLc b F' k ((if (k : Int) = kg F (tg F) - 22 then some bs else T.2.2.2.2.2 k).getD (pb k))
  by_cases q : (k : Int) = kg F (tg F) - 22
  · rw [if_pos q]
    show rLc b F' k bs
    have ek : (k : Int) = a := by omega
    have es : ix F' (b + 13) k = (sy_i F (b + 5)).toInt := by
      unfold ix
      rw [n3, jm_upd_at, if_pos (by omega)]
    unfold rLc
    rw [es, ek]
    exact ⟨h0, by omega, m4⟩
  · rw [if_neg q]
    refine rLc_eq (h6 k hk6) ?_ (by omega) m3
    unfold ix
    rw [n3, jm_upd_at, if_neg (by omega)]
end XC
noncomputable def rrZ (K V : Nat → Int) (N : Nat → Int64) (P : Nat → Int) (b : Nat) (RR : sE ⊕ (sT × tX)) (good n : Int) (F : Nat → sy_d) : Prop := (good ≠ 0 → ∃ x T, rcl P b (b + 1) x F ∧ RR = zRun K V N (401 - n).toNat x T ∧ rXc b T F ∧ (sy_i F (b + 5)).toInt ≤ 12 + tg F) ∧ (good = 0 → RR = .inl ((sy_i F 34).toInt, tg F))
theorem rrZ_on {K V : Nat → Int} {N : Nat → Int64} {P : Nat → Int} {b : Nat} {RR : sE ⊕ (sT × tX)} {n : Int} {x : sT} {T : tX} {F3 : Nat → sy_d} {y : Int32} (h0 : 0 ≤ n) (h4 : n ≤ 400) (hk : K x.1 ≠ 0) (hr : RR = zRun K V N (401 - n).toNat x T) (h : ac (sOne K V N x) (rcl P b (b + 1)) y F3) (hc : y = 1 → rXc b (tU K V x.1 T) F3 ∧ (sy_i F3 (b + 5)).toInt ≤ 12 + tg F3) : rrZ K V N P b RR y.toInt (n + 1) F3 := by
  have e : RR = sB (sOne K V N x) (fun x' => zRun K V N (401 - (n + 1)).toNat x' (tU K V x.1 T)) := by
    rw [hr, show (401 - n).toNat = (401 - (n + 1)).toNat + 1 by omega]
    show (if K x.1 = 0 then _ else _) = _
    rw [if_neg hk]
  obtain ⟨y0, y1⟩ := x01' h
  refine ⟨fun q => ?_, fun q => ?_⟩
  · obtain ⟨a, h1, h2⟩ := y1 q
    obtain ⟨c1, c2⟩ := hc (ac_1 h q)
    exact ⟨a, _, h2, by rw [e, h1]; rfl, c1, c2⟩
  · rw [e, y0 q]
    rfl
theorem rrZ_eq {K V : Nat → Int} {N : Nat → Int64} {P : Nat → Int} {b : Nat} {RR : sE ⊕ (sT × tX)} {g g' n n' : Int} {F F1 : Nat → sy_d} (h : rrZ K V N P b RR g n F) (hg : g' = g) (hn : n' = n) (e33 : (sy_i F1 33).toInt = (sy_i F 33).toInt) (e34 : (sy_i F1 34).toInt = (sy_i F 34).toInt) (e36 : (sy_i F1 36).toInt = (sy_i F 36).toInt) (e37 : (sy_i F1 37).toInt = (sy_i F 37).toInt) (e38 : (sy_i F1 38).toInt = (sy_i F 38).toInt) (e43 : F1 43 = F 43) (e : ∀ j, b ≤ j → j < b + 15 → F1 j = F j) : rrZ K V N P b RR g' n' F1 := by
  subst hg hn
  refine ⟨fun q => ?_, fun q => ?_⟩
  · obtain ⟨x, T, a, z, c, d⟩ := h.1 q
    exact ⟨x, T, rcl_eq a e33 e36 e37 e38 (nz_fi (e _ (by omega) (by omega))) (nz_fi (e _ (by omega) (by omega))) e43, z, rXc_eq c e, by rw [nz_fi (e (b + 5) (by omega) (by omega)), tg_eq e33]; exact d⟩
  · rw [e34, tg_eq e33]
    exact h.2 q
end
section
/-! ===== a text is cleared (shape 0) ===== -/
theorem k0zpy_9 {Ls : Nat} {xs : Nat → Int32} {d : Nat} {Q : Option Value → jm_h → Prop} (hd : 7 ≤ d) (F : Nat → sy_d) (X1 X2 : List jm_c) (hB : iv_in F iv_B0)
    (k0 : ∀ F1 : Nat → sy_d, iv_in F1 iv_B0 → (∀ j, j < 82 → j ∉ ([18, 19, 20, 21, 22, 23, 31, 32, 33, 34, 36, 37, 38] : List Nat) → F1 j = F j) → (sy_i F1 33).toInt = 0 → (sy_i F1 34).toInt = 0 → (sy_i F1 36).toInt = 0 → (sy_i F1 37).toInt = (-1 : Int) → (sy_i F1 38).toInt = 0 → (sy_i F1 18).toInt = 0 → (sy_i F1 19).toInt = 0 → (sy_i F1 20).toInt = 10 → (sy_i F1 21).toInt = 6 → (sy_i F1 22).toInt = 0 → (sy_i F1 23).toInt = 12 → sy_ai F1 31 = jm_upd (jm_upd (jm_upd (jm_upd (jm_upd (jm_upd (sy_ai F 31) (0 : Int).toNat ((0 : Int32))) (1 : Int).toNat ((2 : Int32))) (2 : Int).toNat ((4 : Int32))) (3 : Int).toNat ((6 : Int32))) (4 : Int).toNat ((8 : Int32))) (5 : Int).toNat ((10 : Int32)) → sy_ai F1 32 = jm_upd (jm_upd (jm_upd (jm_upd (jm_upd (jm_upd (jm_upd (jm_upd (jm_upd (jm_upd (jm_upd (jm_upd (sy_ai F 32) (0 : Int).toNat ((0 : Int32))) (1 : Int).toNat (((-14) : Int32))) (2 : Int).toNat ((1 : Int32))) (3 : Int).toNat (((-14) : Int32))) (4 : Int).toNat (((-1) : Int32))) (5 : Int).toNat (((-14) : Int32))) (6 : Int).toNat (((-1) : Int32))) (7 : Int).toNat (((-14) : Int32))) (8 : Int).toNat ((0 : Int32))) (9 : Int).toNat (((-14) : Int32))) (10 : Int).toNat ((0 : Int32))) (11 : Int).toNat (((-14) : Int32)) → (sy_i F1 82).toInt = 1 → (sy_i F1 83).toInt = 0 → hd_W Ls xs d jm_M31 Q (52, sy_dL F1 [some (.inl (.ref 30)), none, none, none, some (.inr (.inl 82)), some (.inr (.inl 83)), none], sy_dS F1 [], sy_dh F1 X1 X2 (iv_H 0), 0, 0)) :
    hd_W Ls xs d jm_M31 Q (9, sy_dL F [some (.inl (.ref 30)), none, none, some (.inl (.ref 20)), none, none, none], sy_dS F [], sy_dh F X1 X2 (iv_H 0), 0, 0) := by
  have w97 : jm_upd (jm_upd (jm_upd (jm_upd (jm_upd (jm_upd (sy_ai F 31) ((0 : Int32)).toNatClampNeg ((0 : Int32))) ((1 : Int32)).toNatClampNeg ((2 : Int32))) ((2 : Int32)).toNatClampNeg ((4 : Int32))) ((3 : Int32)).toNatClampNeg ((6 : Int32))) ((4 : Int32)).toNatClampNeg ((8 : Int32))) ((5 : Int32)).toNatClampNeg ((10 : Int32)) = jm_upd (jm_upd (jm_upd (jm_upd (jm_upd (jm_upd (sy_ai F 31) (0 : Int).toNat ((0 : Int32))) (1 : Int).toNat ((2 : Int32))) (2 : Int).toNat ((4 : Int32))) (3 : Int).toNat ((6 : Int32))) (4 : Int).toNat ((8 : Int32))) (5 : Int).toNat ((10 : Int32)) := by simp only [nz_c, (by decide : ((0 : Int32)).toInt = 0), (by decide : ((1 : Int32)).toInt = 1), (by decide : ((2 : Int32)).toInt = 2), (by decide : ((3 : Int32)).toInt = 3), (by decide : ((4 : Int32)).toInt = 4), (by decide : ((5 : Int32)).toInt = 5), (by decide : ((6 : Int32)).toInt = 6), (by decide : ((8 : Int32)).toInt = 8), (by decide : ((10 : Int32)).toInt = 10)]
  have w99 : jm_upd (jm_upd (jm_upd (jm_upd (jm_upd (jm_upd (jm_upd (jm_upd (jm_upd (jm_upd (jm_upd (jm_upd (sy_ai F 32) ((0 : Int32)).toNatClampNeg ((0 : Int32))) ((1 : Int32)).toNatClampNeg (((-14) : Int32))) ((2 : Int32)).toNatClampNeg ((1 : Int32))) ((3 : Int32)).toNatClampNeg (((-14) : Int32))) ((4 : Int32)).toNatClampNeg (((-1) : Int32))) ((5 : Int32)).toNatClampNeg (((-14) : Int32))) ((6 : Int32)).toNatClampNeg (((-1) : Int32))) ((7 : Int32)).toNatClampNeg (((-14) : Int32))) ((8 : Int32)).toNatClampNeg ((0 : Int32))) ((9 : Int32)).toNatClampNeg (((-14) : Int32))) ((10 : Int32)).toNatClampNeg ((0 : Int32))) ((11 : Int32)).toNatClampNeg (((-14) : Int32)) = jm_upd (jm_upd (jm_upd (jm_upd (jm_upd (jm_upd (jm_upd (jm_upd (jm_upd (jm_upd (jm_upd (jm_upd (sy_ai F 32) (0 : Int).toNat ((0 : Int32))) (1 : Int).toNat (((-14) : Int32))) (2 : Int).toNat ((1 : Int32))) (3 : Int).toNat (((-14) : Int32))) (4 : Int).toNat (((-1) : Int32))) (5 : Int).toNat (((-14) : Int32))) (6 : Int).toNat (((-1) : Int32))) (7 : Int).toNat (((-14) : Int32))) (8 : Int).toNat ((0 : Int32))) (9 : Int).toNat (((-14) : Int32))) (10 : Int).toNat ((0 : Int32))) (11 : Int).toNat (((-14) : Int32)) := by simp only [nz_c, (by decide : (((-14) : Int32)).toInt = (-14 : Int)), (by decide : (((-1) : Int32)).toInt = (-1 : Int)), (by decide : ((0 : Int32)).toInt = 0), (by decide : ((1 : Int32)).toInt = 1), (by decide : ((2 : Int32)).toInt = 2), (by decide : ((3 : Int32)).toInt = 3), (by decide : ((4 : Int32)).toInt = 4), (by decide : ((5 : Int32)).toInt = 5), (by decide : ((6 : Int32)).toInt = 6), (by decide : ((7 : Int32)).toInt = 7), (by decide : ((8 : Int32)).toInt = 8), (by decide : ((9 : Int32)).toInt = 9), (by decide : ((10 : Int32)).toInt = 10), (by decide : ((11 : Int32)).toInt = 11)]
  exact k0py_9_p0 hd F X1 X2 hB  (fun F1 g e18 e19 e20 e21 e22 e23 e31 e32 e33 e34 e36 e37 e38 e82 e83 => k0 F1 (nz_in0 hB [18, 19, 20, 21, 22, 23, 31, 32, 33, 34, 36, 37, 38] (fun j hj hn => g j hj (by simp only [List.mem_cons, List.not_mem_nil, or_false, not_or] at hn; omega)) (List.forall_mem_cons.mpr ⟨fun t ht => (Option.some.inj ht) ▸ (nz_hi e18 (by decide : ((0 : Int32)).toInt = 0) (by omega) (by omega)), List.forall_mem_cons.mpr ⟨fun t ht => (Option.some.inj ht) ▸ (nz_hi e19 (by decide : ((0 : Int32)).toInt = 0) (by omega) (by omega)), List.forall_mem_cons.mpr ⟨fun t ht => (Option.some.inj ht) ▸ (nz_hz e20), List.forall_mem_cons.mpr ⟨fun t ht => (Option.some.inj ht) ▸ (nz_hz e21), List.forall_mem_cons.mpr ⟨fun t ht => (Option.some.inj ht) ▸ (nz_hz e22), List.forall_mem_cons.mpr ⟨fun t ht => (Option.some.inj ht) ▸ (nz_hi e23 (by decide : ((12 : Int32)).toInt = 12) (by omega) (by omega)), List.forall_mem_cons.mpr ⟨fun t ht => (Option.some.inj ht) ▸ (nz_hA e31 (nz_up (nz_up (nz_up (nz_up (nz_up (nz_up (nz_ba hB (k := 31) (lo := 0) (hi := 512) rfl) (by decide : ((0 : Int32)).toInt = 0) (by omega) (by omega)) (by decide : ((2 : Int32)).toInt = 2) (by omega) (by omega)) (by decide : ((4 : Int32)).toInt = 4) (by omega) (by omega)) (by decide : ((6 : Int32)).toInt = 6) (by omega) (by omega)) (by decide : ((8 : Int32)).toInt = 8) (by omega) (by omega)) (by decide : ((10 : Int32)).toInt = 10) (by omega) (by omega))), List.forall_mem_cons.mpr ⟨fun t ht => (Option.some.inj ht) ▸ (nz_hA e32 (nz_up (nz_up (nz_up (nz_up (nz_up (nz_up (nz_up (nz_up (nz_up (nz_up (nz_up (nz_up (nz_ba hB (k := 32) (lo := (-2147483648)) (hi := 2147483646) rfl) (by decide : ((0 : Int32)).toInt = 0) (by omega) (by omega)) (by decide : (((-14) : Int32)).toInt = (-14 : Int)) (by omega) (by omega)) (by decide : ((1 : Int32)).toInt = 1) (by omega) (by omega)) (by decide : (((-14) : Int32)).toInt = (-14 : Int)) (by omega) (by omega)) (by decide : (((-1) : Int32)).toInt = (-1 : Int)) (by omega) (by omega)) (by decide : (((-14) : Int32)).toInt = (-14 : Int)) (by omega) (by omega)) (by decide : (((-1) : Int32)).toInt = (-1 : Int)) (by omega) (by omega)) (by decide : (((-14) : Int32)).toInt = (-14 : Int)) (by omega) (by omega)) (by decide : ((0 : Int32)).toInt = 0) (by omega) (by omega)) (by decide : (((-14) : Int32)).toInt = (-14 : Int)) (by omega) (by omega)) (by decide : ((0 : Int32)).toInt = 0) (by omega) (by omega)) (by decide : (((-14) : Int32)).toInt = (-14 : Int)) (by omega) (by omega))), List.forall_mem_cons.mpr ⟨fun t ht => (Option.some.inj ht) ▸ (nz_hi e33 (by decide : ((0 : Int32)).toInt = 0) (by omega) (by omega)), List.forall_mem_cons.mpr ⟨fun t ht => (Option.some.inj ht) ▸ (nz_hz e34), List.forall_mem_cons.mpr ⟨fun t ht => (Option.some.inj ht) ▸ (nz_hz e36), List.forall_mem_cons.mpr ⟨fun t ht => (Option.some.inj ht) ▸ (nz_hz e37), List.forall_mem_cons.mpr ⟨fun t ht => (Option.some.inj ht) ▸ (nz_hi e38 (by decide : ((0 : Int32)).toInt = 0) (by omega) (by omega)), List.forall_mem_nil _⟩⟩⟩⟩⟩⟩⟩⟩⟩⟩⟩⟩⟩)) (fun j hj hn => g j hj (by simp only [List.mem_cons, List.not_mem_nil, or_false, not_or] at hn; omega)) ((congrArg Int32.toInt (zz_i e33)).trans (by decide : ((0 : Int32)).toInt = 0)) ((congrArg Int32.toInt (zz_i e34)).trans (by decide : ((0 : Int32)).toInt = 0)) ((congrArg Int32.toInt (zz_i e36)).trans (by decide : ((0 : Int32)).toInt = 0)) ((congrArg Int32.toInt (zz_i e37)).trans (by decide : (((-1) : Int32)).toInt = (-1 : Int))) ((congrArg Int32.toInt (zz_i e38)).trans (by decide : ((0 : Int32)).toInt = 0)) ((congrArg Int32.toInt (zz_i e18)).trans (by decide : ((0 : Int32)).toInt = 0)) ((congrArg Int32.toInt (zz_i e19)).trans (by decide : ((0 : Int32)).toInt = 0)) ((congrArg Int32.toInt (zz_i e20)).trans (by decide : ((10 : Int32)).toInt = 10)) ((congrArg Int32.toInt (zz_i e21)).trans (by decide : ((6 : Int32)).toInt = 6)) ((congrArg Int32.toInt (zz_i e22)).trans (by decide : ((0 : Int32)).toInt = 0)) ((congrArg Int32.toInt (zz_i e23)).trans (by decide : ((12 : Int32)).toInt = 12)) ((zz_ai e31).trans w97) ((zz_ai e32).trans w99) ((congrArg Int32.toInt (zz_i e82)).trans (by decide : ((1 : Int32)).toInt = 1)) ((congrArg Int32.toInt (zz_i e83)).trans (by decide : ((0 : Int32)).toInt = 0)))
/-! ===== a text is cleared (shape 1) ===== -/
theorem k1zpy_9 {Ls : Nat} {xs : Nat → Int32} {d : Nat} {Q : Option Value → jm_h → Prop} (hd : 7 ≤ d) (F : Nat → sy_d) (X1 X2 : List jm_c) (hB : iv_in F iv_B0)
    (k0 : ∀ F1 : Nat → sy_d, iv_in F1 iv_B0 → (∀ j, j < 82 → j ∉ ([18, 19, 20, 21, 22, 23, 31, 32, 33, 34, 36, 37, 38] : List Nat) → F1 j = F j) → (sy_i F1 33).toInt = 0 → (sy_i F1 34).toInt = 0 → (sy_i F1 36).toInt = 0 → (sy_i F1 37).toInt = (-1 : Int) → (sy_i F1 38).toInt = 0 → (sy_i F1 18).toInt = 0 → (sy_i F1 19).toInt = 0 → (sy_i F1 20).toInt = 10 → (sy_i F1 21).toInt = 6 → (sy_i F1 22).toInt = 0 → (sy_i F1 23).toInt = 12 → sy_ai F1 31 = jm_upd (jm_upd (jm_upd (jm_upd (jm_upd (jm_upd (sy_ai F 31) (0 : Int).toNat ((0 : Int32))) (1 : Int).toNat ((2 : Int32))) (2 : Int).toNat ((4 : Int32))) (3 : Int).toNat ((6 : Int32))) (4 : Int).toNat ((8 : Int32))) (5 : Int).toNat ((10 : Int32)) → sy_ai F1 32 = jm_upd (jm_upd (jm_upd (jm_upd (jm_upd (jm_upd (jm_upd (jm_upd (jm_upd (jm_upd (jm_upd (jm_upd (sy_ai F 32) (0 : Int).toNat ((0 : Int32))) (1 : Int).toNat (((-14) : Int32))) (2 : Int).toNat ((1 : Int32))) (3 : Int).toNat (((-14) : Int32))) (4 : Int).toNat (((-1) : Int32))) (5 : Int).toNat (((-14) : Int32))) (6 : Int).toNat (((-1) : Int32))) (7 : Int).toNat (((-14) : Int32))) (8 : Int).toNat ((0 : Int32))) (9 : Int).toNat (((-14) : Int32))) (10 : Int).toNat ((0 : Int32))) (11 : Int).toNat (((-14) : Int32)) → (sy_i F1 82).toInt = 1 → (sy_i F1 83).toInt = 0 → hd_W Ls xs d jm_M31 Q (52, sy_dL F1 [some (.inl (.ref 30)), none, none, none, some (.inr (.inl 82)), some (.inr (.inl 83)), none], sy_dS F1 [], sy_dh F1 X1 X2 (iv_H 0), 0, 0)) :
    hd_W Ls xs d jm_M31 Q (9, sy_dL F [some (.inl (.ref 30)), none, none, some (.inl (.ref 20)), none, none, none], sy_dS F [], sy_dh F X1 X2 (iv_H 1), 0, 0) := by
  have w97 : jm_upd (jm_upd (jm_upd (jm_upd (jm_upd (jm_upd (sy_ai F 31) ((0 : Int32)).toNatClampNeg ((0 : Int32))) ((1 : Int32)).toNatClampNeg ((2 : Int32))) ((2 : Int32)).toNatClampNeg ((4 : Int32))) ((3 : Int32)).toNatClampNeg ((6 : Int32))) ((4 : Int32)).toNatClampNeg ((8 : Int32))) ((5 : Int32)).toNatClampNeg ((10 : Int32)) = jm_upd (jm_upd (jm_upd (jm_upd (jm_upd (jm_upd (sy_ai F 31) (0 : Int).toNat ((0 : Int32))) (1 : Int).toNat ((2 : Int32))) (2 : Int).toNat ((4 : Int32))) (3 : Int).toNat ((6 : Int32))) (4 : Int).toNat ((8 : Int32))) (5 : Int).toNat ((10 : Int32)) := by simp only [nz_c, (by decide : ((0 : Int32)).toInt = 0), (by decide : ((1 : Int32)).toInt = 1), (by decide : ((2 : Int32)).toInt = 2), (by decide : ((3 : Int32)).toInt = 3), (by decide : ((4 : Int32)).toInt = 4), (by decide : ((5 : Int32)).toInt = 5), (by decide : ((6 : Int32)).toInt = 6), (by decide : ((8 : Int32)).toInt = 8), (by decide : ((10 : Int32)).toInt = 10)]
  have w99 : jm_upd (jm_upd (jm_upd (jm_upd (jm_upd (jm_upd (jm_upd (jm_upd (jm_upd (jm_upd (jm_upd (jm_upd (sy_ai F 32) ((0 : Int32)).toNatClampNeg ((0 : Int32))) ((1 : Int32)).toNatClampNeg (((-14) : Int32))) ((2 : Int32)).toNatClampNeg ((1 : Int32))) ((3 : Int32)).toNatClampNeg (((-14) : Int32))) ((4 : Int32)).toNatClampNeg (((-1) : Int32))) ((5 : Int32)).toNatClampNeg (((-14) : Int32))) ((6 : Int32)).toNatClampNeg (((-1) : Int32))) ((7 : Int32)).toNatClampNeg (((-14) : Int32))) ((8 : Int32)).toNatClampNeg ((0 : Int32))) ((9 : Int32)).toNatClampNeg (((-14) : Int32))) ((10 : Int32)).toNatClampNeg ((0 : Int32))) ((11 : Int32)).toNatClampNeg (((-14) : Int32)) = jm_upd (jm_upd (jm_upd (jm_upd (jm_upd (jm_upd (jm_upd (jm_upd (jm_upd (jm_upd (jm_upd (jm_upd (sy_ai F 32) (0 : Int).toNat ((0 : Int32))) (1 : Int).toNat (((-14) : Int32))) (2 : Int).toNat ((1 : Int32))) (3 : Int).toNat (((-14) : Int32))) (4 : Int).toNat (((-1) : Int32))) (5 : Int).toNat (((-14) : Int32))) (6 : Int).toNat (((-1) : Int32))) (7 : Int).toNat (((-14) : Int32))) (8 : Int).toNat ((0 : Int32))) (9 : Int).toNat (((-14) : Int32))) (10 : Int).toNat ((0 : Int32))) (11 : Int).toNat (((-14) : Int32)) := by simp only [nz_c, (by decide : (((-14) : Int32)).toInt = (-14 : Int)), (by decide : (((-1) : Int32)).toInt = (-1 : Int)), (by decide : ((0 : Int32)).toInt = 0), (by decide : ((1 : Int32)).toInt = 1), (by decide : ((2 : Int32)).toInt = 2), (by decide : ((3 : Int32)).toInt = 3), (by decide : ((4 : Int32)).toInt = 4), (by decide : ((5 : Int32)).toInt = 5), (by decide : ((6 : Int32)).toInt = 6), (by decide : ((7 : Int32)).toInt = 7), (by decide : ((8 : Int32)).toInt = 8), (by decide : ((9 : Int32)).toInt = 9), (by decide : ((10 : Int32)).toInt = 10), (by decide : ((11 : Int32)).toInt = 11)]
  exact k1py_9_p0 hd F X1 X2 hB  (fun F1 g e18 e19 e20 e21 e22 e23 e31 e32 e33 e34 e36 e37 e38 e82 e83 => k0 F1 (nz_in0 hB [18, 19, 20, 21, 22, 23, 31, 32, 33, 34, 36, 37, 38] (fun j hj hn => g j hj (by simp only [List.mem_cons, List.not_mem_nil, or_false, not_or] at hn; omega)) (List.forall_mem_cons.mpr ⟨fun t ht => (Option.some.inj ht) ▸ (nz_hi e18 (by decide : ((0 : Int32)).toInt = 0) (by omega) (by omega)), List.forall_mem_cons.mpr ⟨fun t ht => (Option.some.inj ht) ▸ (nz_hi e19 (by decide : ((0 : Int32)).toInt = 0) (by omega) (by omega)), List.forall_mem_cons.mpr ⟨fun t ht => (Option.some.inj ht) ▸ (nz_hz e20), List.forall_mem_cons.mpr ⟨fun t ht => (Option.some.inj ht) ▸ (nz_hz e21), List.forall_mem_cons.mpr ⟨fun t ht => (Option.some.inj ht) ▸ (nz_hz e22), List.forall_mem_cons.mpr ⟨fun t ht => (Option.some.inj ht) ▸ (nz_hi e23 (by decide : ((12 : Int32)).toInt = 12) (by omega) (by omega)), List.forall_mem_cons.mpr ⟨fun t ht => (Option.some.inj ht) ▸ (nz_hA e31 (nz_up (nz_up (nz_up (nz_up (nz_up (nz_up (nz_ba hB (k := 31) (lo := 0) (hi := 512) rfl) (by decide : ((0 : Int32)).toInt = 0) (by omega) (by omega)) (by decide : ((2 : Int32)).toInt = 2) (by omega) (by omega)) (by decide : ((4 : Int32)).toInt = 4) (by omega) (by omega)) (by decide : ((6 : Int32)).toInt = 6) (by omega) (by omega)) (by decide : ((8 : Int32)).toInt = 8) (by omega) (by omega)) (by decide : ((10 : Int32)).toInt = 10) (by omega) (by omega))), List.forall_mem_cons.mpr ⟨fun t ht => (Option.some.inj ht) ▸ (nz_hA e32 (nz_up (nz_up (nz_up (nz_up (nz_up (nz_up (nz_up (nz_up (nz_up (nz_up (nz_up (nz_up (nz_ba hB (k := 32) (lo := (-2147483648)) (hi := 2147483646) rfl) (by decide : ((0 : Int32)).toInt = 0) (by omega) (by omega)) (by decide : (((-14) : Int32)).toInt = (-14 : Int)) (by omega) (by omega)) (by decide : ((1 : Int32)).toInt = 1) (by omega) (by omega)) (by decide : (((-14) : Int32)).toInt = (-14 : Int)) (by omega) (by omega)) (by decide : (((-1) : Int32)).toInt = (-1 : Int)) (by omega) (by omega)) (by decide : (((-14) : Int32)).toInt = (-14 : Int)) (by omega) (by omega)) (by decide : (((-1) : Int32)).toInt = (-1 : Int)) (by omega) (by omega)) (by decide : (((-14) : Int32)).toInt = (-14 : Int)) (by omega) (by omega)) (by decide : ((0 : Int32)).toInt = 0) (by omega) (by omega)) (by decide : (((-14) : Int32)).toInt = (-14 : Int)) (by omega) (by omega)) (by decide : ((0 : Int32)).toInt = 0) (by omega) (by omega)) (by decide : (((-14) : Int32)).toInt = (-14 : Int)) (by omega) (by omega))), List.forall_mem_cons.mpr ⟨fun t ht => (Option.some.inj ht) ▸ (nz_hi e33 (by decide : ((0 : Int32)).toInt = 0) (by omega) (by omega)), List.forall_mem_cons.mpr ⟨fun t ht => (Option.some.inj ht) ▸ (nz_hz e34), List.forall_mem_cons.mpr ⟨fun t ht => (Option.some.inj ht) ▸ (nz_hz e36), List.forall_mem_cons.mpr ⟨fun t ht => (Option.some.inj ht) ▸ (nz_hz e37), List.forall_mem_cons.mpr ⟨fun t ht => (Option.some.inj ht) ▸ (nz_hi e38 (by decide : ((0 : Int32)).toInt = 0) (by omega) (by omega)), List.forall_mem_nil _⟩⟩⟩⟩⟩⟩⟩⟩⟩⟩⟩⟩⟩)) (fun j hj hn => g j hj (by simp only [List.mem_cons, List.not_mem_nil, or_false, not_or] at hn; omega)) ((congrArg Int32.toInt (zz_i e33)).trans (by decide : ((0 : Int32)).toInt = 0)) ((congrArg Int32.toInt (zz_i e34)).trans (by decide : ((0 : Int32)).toInt = 0)) ((congrArg Int32.toInt (zz_i e36)).trans (by decide : ((0 : Int32)).toInt = 0)) ((congrArg Int32.toInt (zz_i e37)).trans (by decide : (((-1) : Int32)).toInt = (-1 : Int))) ((congrArg Int32.toInt (zz_i e38)).trans (by decide : ((0 : Int32)).toInt = 0)) ((congrArg Int32.toInt (zz_i e18)).trans (by decide : ((0 : Int32)).toInt = 0)) ((congrArg Int32.toInt (zz_i e19)).trans (by decide : ((0 : Int32)).toInt = 0)) ((congrArg Int32.toInt (zz_i e20)).trans (by decide : ((10 : Int32)).toInt = 10)) ((congrArg Int32.toInt (zz_i e21)).trans (by decide : ((6 : Int32)).toInt = 6)) ((congrArg Int32.toInt (zz_i e22)).trans (by decide : ((0 : Int32)).toInt = 0)) ((congrArg Int32.toInt (zz_i e23)).trans (by decide : ((12 : Int32)).toInt = 12)) ((zz_ai e31).trans w97) ((zz_ai e32).trans w99) ((congrArg Int32.toInt (zz_i e82)).trans (by decide : ((1 : Int32)).toInt = 1)) ((congrArg Int32.toInt (zz_i e83)).trans (by decide : ((0 : Int32)).toInt = 0)))
/-! ===== a text is cleared (shape 2) ===== -/
theorem k2zpy_9 {Ls : Nat} {xs : Nat → Int32} {d : Nat} {Q : Option Value → jm_h → Prop} (hd : 7 ≤ d) (F : Nat → sy_d) (X1 X2 : List jm_c) (hB : iv_in F iv_B0)
    (k0 : ∀ F1 : Nat → sy_d, iv_in F1 iv_B0 → (∀ j, j < 82 → j ∉ ([3, 4, 5, 6, 7, 8, 16, 17, 33, 34, 36, 37, 38] : List Nat) → F1 j = F j) → (sy_i F1 33).toInt = 0 → (sy_i F1 34).toInt = 0 → (sy_i F1 36).toInt = 0 → (sy_i F1 37).toInt = (-1 : Int) → (sy_i F1 38).toInt = 0 → (sy_i F1 3).toInt = 0 → (sy_i F1 4).toInt = 0 → (sy_i F1 5).toInt = 10 → (sy_i F1 6).toInt = 6 → (sy_i F1 7).toInt = 0 → (sy_i F1 8).toInt = 12 → sy_ai F1 16 = jm_upd (jm_upd (jm_upd (jm_upd (jm_upd (jm_upd (sy_ai F 16) (0 : Int).toNat ((0 : Int32))) (1 : Int).toNat ((2 : Int32))) (2 : Int).toNat ((4 : Int32))) (3 : Int).toNat ((6 : Int32))) (4 : Int).toNat ((8 : Int32))) (5 : Int).toNat ((10 : Int32)) → sy_ai F1 17 = jm_upd (jm_upd (jm_upd (jm_upd (jm_upd (jm_upd (jm_upd (jm_upd (jm_upd (jm_upd (jm_upd (jm_upd (sy_ai F 17) (0 : Int).toNat ((0 : Int32))) (1 : Int).toNat (((-14) : Int32))) (2 : Int).toNat ((1 : Int32))) (3 : Int).toNat (((-14) : Int32))) (4 : Int).toNat (((-1) : Int32))) (5 : Int).toNat (((-14) : Int32))) (6 : Int).toNat (((-1) : Int32))) (7 : Int).toNat (((-14) : Int32))) (8 : Int).toNat ((0 : Int32))) (9 : Int).toNat (((-14) : Int32))) (10 : Int).toNat ((0 : Int32))) (11 : Int).toNat (((-14) : Int32)) → (sy_i F1 82).toInt = 1 → (sy_i F1 83).toInt = 0 → hd_W Ls xs d jm_M31 Q (52, sy_dL F1 [some (.inl (.ref 30)), none, none, none, some (.inr (.inl 82)), some (.inr (.inl 83)), none], sy_dS F1 [], sy_dh F1 X1 X2 (iv_H 3), 0, 0)) :
    hd_W Ls xs d jm_M31 Q (9, sy_dL F [some (.inl (.ref 30)), none, none, some (.inl (.ref 10)), none, none, none], sy_dS F [], sy_dh F X1 X2 (iv_H 2), 0, 0) := by
  have w97 : jm_upd (jm_upd (jm_upd (jm_upd (jm_upd (jm_upd (sy_ai F 16) ((0 : Int32)).toNatClampNeg ((0 : Int32))) ((1 : Int32)).toNatClampNeg ((2 : Int32))) ((2 : Int32)).toNatClampNeg ((4 : Int32))) ((3 : Int32)).toNatClampNeg ((6 : Int32))) ((4 : Int32)).toNatClampNeg ((8 : Int32))) ((5 : Int32)).toNatClampNeg ((10 : Int32)) = jm_upd (jm_upd (jm_upd (jm_upd (jm_upd (jm_upd (sy_ai F 16) (0 : Int).toNat ((0 : Int32))) (1 : Int).toNat ((2 : Int32))) (2 : Int).toNat ((4 : Int32))) (3 : Int).toNat ((6 : Int32))) (4 : Int).toNat ((8 : Int32))) (5 : Int).toNat ((10 : Int32)) := by simp only [nz_c, (by decide : ((0 : Int32)).toInt = 0), (by decide : ((1 : Int32)).toInt = 1), (by decide : ((2 : Int32)).toInt = 2), (by decide : ((3 : Int32)).toInt = 3), (by decide : ((4 : Int32)).toInt = 4), (by decide : ((5 : Int32)).toInt = 5), (by decide : ((6 : Int32)).toInt = 6), (by decide : ((8 : Int32)).toInt = 8), (by decide : ((10 : Int32)).toInt = 10)]
  have w99 : jm_upd (jm_upd (jm_upd (jm_upd (jm_upd (jm_upd (jm_upd (jm_upd (jm_upd (jm_upd (jm_upd (jm_upd (sy_ai F 17) ((0 : Int32)).toNatClampNeg ((0 : Int32))) ((1 : Int32)).toNatClampNeg (((-14) : Int32))) ((2 : Int32)).toNatClampNeg ((1 : Int32))) ((3 : Int32)).toNatClampNeg (((-14) : Int32))) ((4 : Int32)).toNatClampNeg (((-1) : Int32))) ((5 : Int32)).toNatClampNeg (((-14) : Int32))) ((6 : Int32)).toNatClampNeg (((-1) : Int32))) ((7 : Int32)).toNatClampNeg (((-14) : Int32))) ((8 : Int32)).toNatClampNeg ((0 : Int32))) ((9 : Int32)).toNatClampNeg (((-14) : Int32))) ((10 : Int32)).toNatClampNeg ((0 : Int32))) ((11 : Int32)).toNatClampNeg (((-14) : Int32)) = jm_upd (jm_upd (jm_upd (jm_upd (jm_upd (jm_upd (jm_upd (jm_upd (jm_upd (jm_upd (jm_upd (jm_upd (sy_ai F 17) (0 : Int).toNat ((0 : Int32))) (1 : Int).toNat (((-14) : Int32))) (2 : Int).toNat ((1 : Int32))) (3 : Int).toNat (((-14) : Int32))) (4 : Int).toNat (((-1) : Int32))) (5 : Int).toNat (((-14) : Int32))) (6 : Int).toNat (((-1) : Int32))) (7 : Int).toNat (((-14) : Int32))) (8 : Int).toNat ((0 : Int32))) (9 : Int).toNat (((-14) : Int32))) (10 : Int).toNat ((0 : Int32))) (11 : Int).toNat (((-14) : Int32)) := by simp only [nz_c, (by decide : (((-14) : Int32)).toInt = (-14 : Int)), (by decide : (((-1) : Int32)).toInt = (-1 : Int)), (by decide : ((0 : Int32)).toInt = 0), (by decide : ((1 : Int32)).toInt = 1), (by decide : ((2 : Int32)).toInt = 2), (by decide : ((3 : Int32)).toInt = 3), (by decide : ((4 : Int32)).toInt = 4), (by decide : ((5 : Int32)).toInt = 5), (by decide : ((6 : Int32)).toInt = 6), (by decide : ((7 : Int32)).toInt = 7), (by decide : ((8 : Int32)).toInt = 8), (by decide : ((9 : Int32)).toInt = 9), (by decide : ((10 : Int32)).toInt = 10), (by decide : ((11 : Int32)).toInt = 11)]
  exact k2py_9_p0 hd F X1 X2 hB  (fun F1 g e3 e4 e5 e6 e7 e8 e16 e17 e33 e34 e36 e37 e38 e82 e83 => k0 F1 (nz_in0 hB [3, 4, 5, 6, 7, 8, 16, 17, 33, 34, 36, 37, 38] (fun j hj hn => g j hj (by simp only [List.mem_cons, List.not_mem_nil, or_false, not_or] at hn; omega)) (List.forall_mem_cons.mpr ⟨fun t ht => (Option.some.inj ht) ▸ (nz_hi e3 (by decide : ((0 : Int32)).toInt = 0) (by omega) (by omega)), List.forall_mem_cons.mpr ⟨fun t ht => (Option.some.inj ht) ▸ (nz_hi e4 (by decide : ((0 : Int32)).toInt = 0) (by omega) (by omega)), List.forall_mem_cons.mpr ⟨fun t ht => (Option.some.inj ht) ▸ (nz_hz e5), List.forall_mem_cons.mpr ⟨fun t ht => (Option.some.inj ht) ▸ (nz_hz e6), List.forall_mem_cons.mpr ⟨fun t ht => (Option.some.inj ht) ▸ (nz_hz e7), List.forall_mem_cons.mpr ⟨fun t ht => (Option.some.inj ht) ▸ (nz_hi e8 (by decide : ((12 : Int32)).toInt = 12) (by omega) (by omega)), List.forall_mem_cons.mpr ⟨fun t ht => (Option.some.inj ht) ▸ (nz_hA e16 (nz_up (nz_up (nz_up (nz_up (nz_up (nz_up (nz_ba hB (k := 16) (lo := 0) (hi := 512) rfl) (by decide : ((0 : Int32)).toInt = 0) (by omega) (by omega)) (by decide : ((2 : Int32)).toInt = 2) (by omega) (by omega)) (by decide : ((4 : Int32)).toInt = 4) (by omega) (by omega)) (by decide : ((6 : Int32)).toInt = 6) (by omega) (by omega)) (by decide : ((8 : Int32)).toInt = 8) (by omega) (by omega)) (by decide : ((10 : Int32)).toInt = 10) (by omega) (by omega))), List.forall_mem_cons.mpr ⟨fun t ht => (Option.some.inj ht) ▸ (nz_hA e17 (nz_up (nz_up (nz_up (nz_up (nz_up (nz_up (nz_up (nz_up (nz_up (nz_up (nz_up (nz_up (nz_ba hB (k := 17) (lo := (-2147483648)) (hi := 2147483646) rfl) (by decide : ((0 : Int32)).toInt = 0) (by omega) (by omega)) (by decide : (((-14) : Int32)).toInt = (-14 : Int)) (by omega) (by omega)) (by decide : ((1 : Int32)).toInt = 1) (by omega) (by omega)) (by decide : (((-14) : Int32)).toInt = (-14 : Int)) (by omega) (by omega)) (by decide : (((-1) : Int32)).toInt = (-1 : Int)) (by omega) (by omega)) (by decide : (((-14) : Int32)).toInt = (-14 : Int)) (by omega) (by omega)) (by decide : (((-1) : Int32)).toInt = (-1 : Int)) (by omega) (by omega)) (by decide : (((-14) : Int32)).toInt = (-14 : Int)) (by omega) (by omega)) (by decide : ((0 : Int32)).toInt = 0) (by omega) (by omega)) (by decide : (((-14) : Int32)).toInt = (-14 : Int)) (by omega) (by omega)) (by decide : ((0 : Int32)).toInt = 0) (by omega) (by omega)) (by decide : (((-14) : Int32)).toInt = (-14 : Int)) (by omega) (by omega))), List.forall_mem_cons.mpr ⟨fun t ht => (Option.some.inj ht) ▸ (nz_hi e33 (by decide : ((0 : Int32)).toInt = 0) (by omega) (by omega)), List.forall_mem_cons.mpr ⟨fun t ht => (Option.some.inj ht) ▸ (nz_hz e34), List.forall_mem_cons.mpr ⟨fun t ht => (Option.some.inj ht) ▸ (nz_hz e36), List.forall_mem_cons.mpr ⟨fun t ht => (Option.some.inj ht) ▸ (nz_hz e37), List.forall_mem_cons.mpr ⟨fun t ht => (Option.some.inj ht) ▸ (nz_hi e38 (by decide : ((0 : Int32)).toInt = 0) (by omega) (by omega)), List.forall_mem_nil _⟩⟩⟩⟩⟩⟩⟩⟩⟩⟩⟩⟩⟩)) (fun j hj hn => g j hj (by simp only [List.mem_cons, List.not_mem_nil, or_false, not_or] at hn; omega)) ((congrArg Int32.toInt (zz_i e33)).trans (by decide : ((0 : Int32)).toInt = 0)) ((congrArg Int32.toInt (zz_i e34)).trans (by decide : ((0 : Int32)).toInt = 0)) ((congrArg Int32.toInt (zz_i e36)).trans (by decide : ((0 : Int32)).toInt = 0)) ((congrArg Int32.toInt (zz_i e37)).trans (by decide : (((-1) : Int32)).toInt = (-1 : Int))) ((congrArg Int32.toInt (zz_i e38)).trans (by decide : ((0 : Int32)).toInt = 0)) ((congrArg Int32.toInt (zz_i e3)).trans (by decide : ((0 : Int32)).toInt = 0)) ((congrArg Int32.toInt (zz_i e4)).trans (by decide : ((0 : Int32)).toInt = 0)) ((congrArg Int32.toInt (zz_i e5)).trans (by decide : ((10 : Int32)).toInt = 10)) ((congrArg Int32.toInt (zz_i e6)).trans (by decide : ((6 : Int32)).toInt = 6)) ((congrArg Int32.toInt (zz_i e7)).trans (by decide : ((0 : Int32)).toInt = 0)) ((congrArg Int32.toInt (zz_i e8)).trans (by decide : ((12 : Int32)).toInt = 12)) ((zz_ai e16).trans w97) ((zz_ai e17).trans w99) ((congrArg Int32.toInt (zz_i e82)).trans (by decide : ((1 : Int32)).toInt = 1)) ((congrArg Int32.toInt (zz_i e83)).trans (by decide : ((0 : Int32)).toInt = 0)))
/-! ===== a text is cleared (shape 3) ===== -/
theorem k3zpy_9 {Ls : Nat} {xs : Nat → Int32} {d : Nat} {Q : Option Value → jm_h → Prop} (hd : 7 ≤ d) (F : Nat → sy_d) (X1 X2 : List jm_c) (hB : iv_in F iv_B0)
    (k0 : ∀ F1 : Nat → sy_d, iv_in F1 iv_B0 → (∀ j, j < 82 → j ∉ ([3, 4, 5, 6, 7, 8, 16, 17, 33, 34, 36, 37, 38] : List Nat) → F1 j = F j) → (sy_i F1 33).toInt = 0 → (sy_i F1 34).toInt = 0 → (sy_i F1 36).toInt = 0 → (sy_i F1 37).toInt = (-1 : Int) → (sy_i F1 38).toInt = 0 → (sy_i F1 3).toInt = 0 → (sy_i F1 4).toInt = 0 → (sy_i F1 5).toInt = 10 → (sy_i F1 6).toInt = 6 → (sy_i F1 7).toInt = 0 → (sy_i F1 8).toInt = 12 → sy_ai F1 16 = jm_upd (jm_upd (jm_upd (jm_upd (jm_upd (jm_upd (sy_ai F 16) (0 : Int).toNat ((0 : Int32))) (1 : Int).toNat ((2 : Int32))) (2 : Int).toNat ((4 : Int32))) (3 : Int).toNat ((6 : Int32))) (4 : Int).toNat ((8 : Int32))) (5 : Int).toNat ((10 : Int32)) → sy_ai F1 17 = jm_upd (jm_upd (jm_upd (jm_upd (jm_upd (jm_upd (jm_upd (jm_upd (jm_upd (jm_upd (jm_upd (jm_upd (sy_ai F 17) (0 : Int).toNat ((0 : Int32))) (1 : Int).toNat (((-14) : Int32))) (2 : Int).toNat ((1 : Int32))) (3 : Int).toNat (((-14) : Int32))) (4 : Int).toNat (((-1) : Int32))) (5 : Int).toNat (((-14) : Int32))) (6 : Int).toNat (((-1) : Int32))) (7 : Int).toNat (((-14) : Int32))) (8 : Int).toNat ((0 : Int32))) (9 : Int).toNat (((-14) : Int32))) (10 : Int).toNat ((0 : Int32))) (11 : Int).toNat (((-14) : Int32)) → (sy_i F1 82).toInt = 1 → (sy_i F1 83).toInt = 0 → hd_W Ls xs d jm_M31 Q (52, sy_dL F1 [some (.inl (.ref 30)), none, none, none, some (.inr (.inl 82)), some (.inr (.inl 83)), none], sy_dS F1 [], sy_dh F1 X1 X2 (iv_H 3), 0, 0)) :
    hd_W Ls xs d jm_M31 Q (9, sy_dL F [some (.inl (.ref 30)), none, none, some (.inl (.ref 10)), none, none, none], sy_dS F [], sy_dh F X1 X2 (iv_H 3), 0, 0) := by
  have w97 : jm_upd (jm_upd (jm_upd (jm_upd (jm_upd (jm_upd (sy_ai F 16) ((0 : Int32)).toNatClampNeg ((0 : Int32))) ((1 : Int32)).toNatClampNeg ((2 : Int32))) ((2 : Int32)).toNatClampNeg ((4 : Int32))) ((3 : Int32)).toNatClampNeg ((6 : Int32))) ((4 : Int32)).toNatClampNeg ((8 : Int32))) ((5 : Int32)).toNatClampNeg ((10 : Int32)) = jm_upd (jm_upd (jm_upd (jm_upd (jm_upd (jm_upd (sy_ai F 16) (0 : Int).toNat ((0 : Int32))) (1 : Int).toNat ((2 : Int32))) (2 : Int).toNat ((4 : Int32))) (3 : Int).toNat ((6 : Int32))) (4 : Int).toNat ((8 : Int32))) (5 : Int).toNat ((10 : Int32)) := by simp only [nz_c, (by decide : ((0 : Int32)).toInt = 0), (by decide : ((1 : Int32)).toInt = 1), (by decide : ((2 : Int32)).toInt = 2), (by decide : ((3 : Int32)).toInt = 3), (by decide : ((4 : Int32)).toInt = 4), (by decide : ((5 : Int32)).toInt = 5), (by decide : ((6 : Int32)).toInt = 6), (by decide : ((8 : Int32)).toInt = 8), (by decide : ((10 : Int32)).toInt = 10)]
  have w99 : jm_upd (jm_upd (jm_upd (jm_upd (jm_upd (jm_upd (jm_upd (jm_upd (jm_upd (jm_upd (jm_upd (jm_upd (sy_ai F 17) ((0 : Int32)).toNatClampNeg ((0 : Int32))) ((1 : Int32)).toNatClampNeg (((-14) : Int32))) ((2 : Int32)).toNatClampNeg ((1 : Int32))) ((3 : Int32)).toNatClampNeg (((-14) : Int32))) ((4 : Int32)).toNatClampNeg (((-1) : Int32))) ((5 : Int32)).toNatClampNeg (((-14) : Int32))) ((6 : Int32)).toNatClampNeg (((-1) : Int32))) ((7 : Int32)).toNatClampNeg (((-14) : Int32))) ((8 : Int32)).toNatClampNeg ((0 : Int32))) ((9 : Int32)).toNatClampNeg (((-14) : Int32))) ((10 : Int32)).toNatClampNeg ((0 : Int32))) ((11 : Int32)).toNatClampNeg (((-14) : Int32)) = jm_upd (jm_upd (jm_upd (jm_upd (jm_upd (jm_upd (jm_upd (jm_upd (jm_upd (jm_upd (jm_upd (jm_upd (sy_ai F 17) (0 : Int).toNat ((0 : Int32))) (1 : Int).toNat (((-14) : Int32))) (2 : Int).toNat ((1 : Int32))) (3 : Int).toNat (((-14) : Int32))) (4 : Int).toNat (((-1) : Int32))) (5 : Int).toNat (((-14) : Int32))) (6 : Int).toNat (((-1) : Int32))) (7 : Int).toNat (((-14) : Int32))) (8 : Int).toNat ((0 : Int32))) (9 : Int).toNat (((-14) : Int32))) (10 : Int).toNat ((0 : Int32))) (11 : Int).toNat (((-14) : Int32)) := by simp only [nz_c, (by decide : (((-14) : Int32)).toInt = (-14 : Int)), (by decide : (((-1) : Int32)).toInt = (-1 : Int)), (by decide : ((0 : Int32)).toInt = 0), (by decide : ((1 : Int32)).toInt = 1), (by decide : ((2 : Int32)).toInt = 2), (by decide : ((3 : Int32)).toInt = 3), (by decide : ((4 : Int32)).toInt = 4), (by decide : ((5 : Int32)).toInt = 5), (by decide : ((6 : Int32)).toInt = 6), (by decide : ((7 : Int32)).toInt = 7), (by decide : ((8 : Int32)).toInt = 8), (by decide : ((9 : Int32)).toInt = 9), (by decide : ((10 : Int32)).toInt = 10), (by decide : ((11 : Int32)).toInt = 11)]
  exact k3py_9_p0 hd F X1 X2 hB  (fun F1 g e3 e4 e5 e6 e7 e8 e16 e17 e33 e34 e36 e37 e38 e82 e83 => k0 F1 (nz_in0 hB [3, 4, 5, 6, 7, 8, 16, 17, 33, 34, 36, 37, 38] (fun j hj hn => g j hj (by simp only [List.mem_cons, List.not_mem_nil, or_false, not_or] at hn; omega)) (List.forall_mem_cons.mpr ⟨fun t ht => (Option.some.inj ht) ▸ (nz_hi e3 (by decide : ((0 : Int32)).toInt = 0) (by omega) (by omega)), List.forall_mem_cons.mpr ⟨fun t ht => (Option.some.inj ht) ▸ (nz_hi e4 (by decide : ((0 : Int32)).toInt = 0) (by omega) (by omega)), List.forall_mem_cons.mpr ⟨fun t ht => (Option.some.inj ht) ▸ (nz_hz e5), List.forall_mem_cons.mpr ⟨fun t ht => (Option.some.inj ht) ▸ (nz_hz e6), List.forall_mem_cons.mpr ⟨fun t ht => (Option.some.inj ht) ▸ (nz_hz e7), List.forall_mem_cons.mpr ⟨fun t ht => (Option.some.inj ht) ▸ (nz_hi e8 (by decide : ((12 : Int32)).toInt = 12) (by omega) (by omega)), List.forall_mem_cons.mpr ⟨fun t ht => (Option.some.inj ht) ▸ (nz_hA e16 (nz_up (nz_up (nz_up (nz_up (nz_up (nz_up (nz_ba hB (k := 16) (lo := 0) (hi := 512) rfl) (by decide : ((0 : Int32)).toInt = 0) (by omega) (by omega)) (by decide : ((2 : Int32)).toInt = 2) (by omega) (by omega)) (by decide : ((4 : Int32)).toInt = 4) (by omega) (by omega)) (by decide : ((6 : Int32)).toInt = 6) (by omega) (by omega)) (by decide : ((8 : Int32)).toInt = 8) (by omega) (by omega)) (by decide : ((10 : Int32)).toInt = 10) (by omega) (by omega))), List.forall_mem_cons.mpr ⟨fun t ht => (Option.some.inj ht) ▸ (nz_hA e17 (nz_up (nz_up (nz_up (nz_up (nz_up (nz_up (nz_up (nz_up (nz_up (nz_up (nz_up (nz_up (nz_ba hB (k := 17) (lo := (-2147483648)) (hi := 2147483646) rfl) (by decide : ((0 : Int32)).toInt = 0) (by omega) (by omega)) (by decide : (((-14) : Int32)).toInt = (-14 : Int)) (by omega) (by omega)) (by decide : ((1 : Int32)).toInt = 1) (by omega) (by omega)) (by decide : (((-14) : Int32)).toInt = (-14 : Int)) (by omega) (by omega)) (by decide : (((-1) : Int32)).toInt = (-1 : Int)) (by omega) (by omega)) (by decide : (((-14) : Int32)).toInt = (-14 : Int)) (by omega) (by omega)) (by decide : (((-1) : Int32)).toInt = (-1 : Int)) (by omega) (by omega)) (by decide : (((-14) : Int32)).toInt = (-14 : Int)) (by omega) (by omega)) (by decide : ((0 : Int32)).toInt = 0) (by omega) (by omega)) (by decide : (((-14) : Int32)).toInt = (-14 : Int)) (by omega) (by omega)) (by decide : ((0 : Int32)).toInt = 0) (by omega) (by omega)) (by decide : (((-14) : Int32)).toInt = (-14 : Int)) (by omega) (by omega))), List.forall_mem_cons.mpr ⟨fun t ht => (Option.some.inj ht) ▸ (nz_hi e33 (by decide : ((0 : Int32)).toInt = 0) (by omega) (by omega)), List.forall_mem_cons.mpr ⟨fun t ht => (Option.some.inj ht) ▸ (nz_hz e34), List.forall_mem_cons.mpr ⟨fun t ht => (Option.some.inj ht) ▸ (nz_hz e36), List.forall_mem_cons.mpr ⟨fun t ht => (Option.some.inj ht) ▸ (nz_hz e37), List.forall_mem_cons.mpr ⟨fun t ht => (Option.some.inj ht) ▸ (nz_hi e38 (by decide : ((0 : Int32)).toInt = 0) (by omega) (by omega)), List.forall_mem_nil _⟩⟩⟩⟩⟩⟩⟩⟩⟩⟩⟩⟩⟩)) (fun j hj hn => g j hj (by simp only [List.mem_cons, List.not_mem_nil, or_false, not_or] at hn; omega)) ((congrArg Int32.toInt (zz_i e33)).trans (by decide : ((0 : Int32)).toInt = 0)) ((congrArg Int32.toInt (zz_i e34)).trans (by decide : ((0 : Int32)).toInt = 0)) ((congrArg Int32.toInt (zz_i e36)).trans (by decide : ((0 : Int32)).toInt = 0)) ((congrArg Int32.toInt (zz_i e37)).trans (by decide : (((-1) : Int32)).toInt = (-1 : Int))) ((congrArg Int32.toInt (zz_i e38)).trans (by decide : ((0 : Int32)).toInt = 0)) ((congrArg Int32.toInt (zz_i e3)).trans (by decide : ((0 : Int32)).toInt = 0)) ((congrArg Int32.toInt (zz_i e4)).trans (by decide : ((0 : Int32)).toInt = 0)) ((congrArg Int32.toInt (zz_i e5)).trans (by decide : ((10 : Int32)).toInt = 10)) ((congrArg Int32.toInt (zz_i e6)).trans (by decide : ((6 : Int32)).toInt = 6)) ((congrArg Int32.toInt (zz_i e7)).trans (by decide : ((0 : Int32)).toInt = 0)) ((congrArg Int32.toInt (zz_i e8)).trans (by decide : ((12 : Int32)).toInt = 12)) ((zz_ai e16).trans w97) ((zz_ai e17).trans w99) ((congrArg Int32.toInt (zz_i e82)).trans (by decide : ((1 : Int32)).toInt = 1)) ((congrArg Int32.toInt (zz_i e83)).trans (by decide : ((0 : Int32)).toInt = 0)))
end
section
/-! ===== the class parses a text: what it has then ===== -/
theorem nbC_dst {own r : Nat} {F0 F F2 : Nat → sy_d} (h : nbC own r F0 F) (e : ∀ q, q < 82 → F2 q = F q) (h1 : own < 82) (h2 : r + 2 < 82) : nbC own r F0 F2 := by
  unfold nbC at h ⊢
  rw [tg_eq (nz_fi (e 33 (by decide))), nz_fi (e own h1), nz_fa (e r (by omega)), nz_fa (e (r + 1) (by omega)), nz_fa (e (r + 2) h2)]
  exact h
theorem stC_dst {s : Nat} {a : Int} {F0 F F2 : Nat → sy_d} (h : stC s a F0 F) (e : ∀ q, q < 82 → F2 q = F q) (h1 : s + 2 < 82) : stC s a F0 F2 := by
  unfold stC at h ⊢
  rw [tg_eq (nz_fi (e 33 (by decide))), nz_fi (e s (by omega)), nz_fi (e (s + 1) (by omega)), nz_fi (e (s + 2) h1)]
  exact h
/-- faults of syntax and room have numbers -/
def okE {A : Type} (r : sE ⊕ A) : Prop := ∀ e, r = .inl e → e.1 ≠ 0
theorem okE_r {A : Type} {a : A} : okE (.inr a : sE ⊕ A) := fun e h => by cases h
theorem okE_l {A : Type} {k : Int} {t : Nat} (h : k ≠ 0) : okE (.inl (k, t) : sE ⊕ A) := fun e he => by
  have := Sum.inl.inj he
  rw [← this]
  exact h
theorem okE_B {A B : Type} {r : sE ⊕ A} {f : A → sE ⊕ B} (h : okE r) (hf : ∀ a, okE (f a)) : okE (sB r f) := by
  cases r with
  | inl e => exact fun e' h' => by rw [← Sum.inl.inj h']; exact h e rfl
  | inr a => exact hf a
theorem okE_if {A : Type} {c : Prop} [Decidable c] {r s : sE ⊕ A} (h : okE r) (h2 : okE s) : okE (if c then r else s) := by
  by_cases q : c
  · rw [if_pos q]; exact h
  · rw [if_neg q]; exact h2
theorem okE_G (t : Nat) : okE (sG t) := okE_if (okE_l (by decide)) okE_r
theorem okE_M (K : Nat → Int) (k : Int) (t : Nat) : okE (sM K k t) := okE_if (okE_G t) (okE_l (by decide))
theorem okE_eM (K : Nat → Int) : ∀ (n t d m : Nat), okE (eM K n t d m)
  | 0, t, d, m => okE_r
  | n + 1, t, d, m => by
    unfold eM
    repeat' (first | exact okE_r | exact okE_l (by decide) | exact okE_eM K n _ _ _ | apply okE_if)
theorem okE_ifs (K : Nat → Int) : ∀ (n t : Nat), okE (sIfs K n t)
  | 0, t => okE_if (okE_l (by decide)) okE_r
  | n + 1, t => okE_if (okE_B (okE_B (okE_G _) (fun _ => okE_B (okE_eM K _ _ _ _) (fun _ => okE_B (okE_M K _ _) (fun _ => okE_B (okE_eM K _ _ _ _) (fun _ => okE_B (okE_M K _ _) (fun _ => okE_B (okE_eM K _ _ _ _) (fun _ => okE_M K _ _))))))) (fun _ => okE_ifs K n _)) okE_r
theorem okE_N (K V : Nat → Int) (lo hi : Int) (q : Nat × sE) : okE (sN K V lo hi q) := okE_B (okE_M K _ _) (fun _ => okE_r)
theorem okE_One (K V : Nat → Int) (N : Nat → Int64) (x : sT) : okE (sOne K V N x) := by
  have hT : ∀ a b c q, okE (sTell K V N a b c q) := fun a b c q => okE_B (okE_B (okE_M K _ _) (fun _ => okE_r)) (fun _ => okE_B (okE_N K V _ _ _) (fun _ => okE_B (okE_N K V _ _ _) (fun _ => okE_B (okE_N K V _ _ _) (fun _ => okE_B (okE_M K _ _) (fun _ => okE_r)))))
  have hS : ∀ hi, okE (sSet K V hi x) := fun hi => okE_B (okE_B (okE_G _) (fun _ => okE_B (okE_N K V _ _ _) (fun _ => okE_B (okE_M K _ _) (fun _ => okE_r)))) (fun _ => okE_r)
  refine okE_if (okE_if (okE_l (by decide)) (okE_B (okE_G _) (fun _ => okE_B (hT _ _ _ _) (fun _ => okE_r)))) (okE_if (okE_if (okE_l (by decide)) (okE_B (okE_G _) (fun _ => okE_B (hT _ _ _ _) (fun _ => okE_r)))) (okE_if (hS _) (okE_if (hS _) (okE_if ?_ (okE_l (by decide))))))
  exact okE_B (okE_G _) (fun _ => okE_B (okE_B (okE_M K _ _) (fun _ => okE_B (okE_ifs K _ _) (fun _ => okE_B (okE_eM K _ _ _ _) (fun _ => okE_M K _ _)))) (fun _ => okE_r))
theorem okE_Run (K V : Nat → Int) (N : Nat → Int64) : ∀ (n : Nat) (x : sT) (T : tX), okE (zRun K V N n x T)
  | 0, x, T => okE_r
  | n + 1, x, T => okE_if okE_r (okE_B (okE_One K V N x) (fun _ => okE_Run K V N n _ _))
theorem rX_0 {b : Nat} {F : Nat → sy_d} {c d : List Int32} (h0 : (sy_i F b).toInt = 0) (h1 : (sy_i F (b + 1)).toInt = 0) (h2 : (sy_i F (b + 2)).toInt = 10) (h3 : (sy_i F (b + 3)).toInt = 6) (h4 : (sy_i F (b + 4)).toInt = 0) (h5 : (sy_i F (b + 5)).toInt = 12)
    (hs : sy_ai F (b + 13) = jm_upd (jm_upd (jm_upd (jm_upd (jm_upd (jm_upd c (0 : Int).toNat ((0 : Int32))) (1 : Int).toNat ((2 : Int32))) (2 : Int).toNat ((4 : Int32))) (3 : Int).toNat ((6 : Int32))) (4 : Int).toNat ((8 : Int32))) (5 : Int).toNat ((10 : Int32)))
    (hc : sy_ai F (b + 14) = jm_upd (jm_upd (jm_upd (jm_upd (jm_upd (jm_upd (jm_upd (jm_upd (jm_upd (jm_upd (jm_upd (jm_upd d (0 : Int).toNat ((0 : Int32))) (1 : Int).toNat (((-14) : Int32))) (2 : Int).toNat ((1 : Int32))) (3 : Int).toNat (((-14) : Int32))) (4 : Int).toNat (((-1) : Int32))) (5 : Int).toNat (((-14) : Int32))) (6 : Int).toNat (((-1) : Int32))) (7 : Int).toNat (((-14) : Int32))) (8 : Int).toNat ((0 : Int32))) (9 : Int).toNat (((-14) : Int32))) (10 : Int).toNat ((0 : Int32))) (11 : Int).toNat (((-14) : Int32))) : rXc b T0 F := by
  refine ⟨⟨h0, fun i v hv => by simp [T0] at hv⟩, ⟨h1, fun i v hv => by simp [T0] at hv⟩, h2, h3, h4, fun k hk => ?_⟩
  show rLc b F k (pb k)
  unfold rLc
  have hk' : k = 0 ∨ k = 1 ∨ k = 2 ∨ k = 3 ∨ k = 4 ∨ k = 5 := by omega
  have key : ∀ (s : Nat) (x y : Int32), ix F (b + 13) k = s → s + 2 ≤ 12 → (sy_ai F (b + 14)).getD s 0 = x → (sy_ai F (b + 14)).getD (s + 1) 0 = y → lcs k s (pb k) = [x.toInt, y.toInt] → 0 ≤ ix F (b + 13) k ∧ ix F (b + 13) k + (lcs k (ix F (b + 13) k).toNat (pb k)).length ≤ (sy_i F (b + 5)).toInt ∧ clc (sy_ai F (b + 14)) (ix F (b + 13) k).toNat (lcs k (ix F (b + 13) k).toNat (pb k)).length = lcs k (ix F (b + 13) k).toNat (pb k) := by
    intro s x y e1 e2 e3 e4 e5
    rw [e1, show ((s : Int)).toNat = s by omega, e5, h5]
    refine ⟨by omega, by show (s : Int) + 2 ≤ 12; omega, ?_⟩
    show [((sy_ai F (b + 14)).getD s 0).toInt] ++ [((sy_ai F (b + 14)).getD (s + 1) 0).toInt] = _
    rw [e3, e4]
    rfl
  rcases hk' with h | h | h | h | h | h <;> subst h
  · exact key 0 0 (-14) (by unfold ix; rw [hs]; rw [jm_upd_at, if_neg (by decide)]; rw [jm_upd_at, if_neg (by decide)]; rw [jm_upd_at, if_neg (by decide)]; rw [jm_upd_at, if_neg (by decide)]; rw [jm_upd_at, if_neg (by decide)]; rw [jm_upd_at, if_pos (by decide)]; decide) (by decide) (by rw [hc]; rw [jm_upd_at, if_neg (by decide)]; rw [jm_upd_at, if_neg (by decide)]; rw [jm_upd_at, if_neg (by decide)]; rw [jm_upd_at, if_neg (by decide)]; rw [jm_upd_at, if_neg (by decide)]; rw [jm_upd_at, if_neg (by decide)]; rw [jm_upd_at, if_neg (by decide)]; rw [jm_upd_at, if_neg (by decide)]; rw [jm_upd_at, if_neg (by decide)]; rw [jm_upd_at, if_neg (by decide)]; rw [jm_upd_at, if_neg (by decide)]; rw [jm_upd_at, if_pos (by decide)]) (by rw [hc]; rw [jm_upd_at, if_neg (by decide)]; rw [jm_upd_at, if_neg (by decide)]; rw [jm_upd_at, if_neg (by decide)]; rw [jm_upd_at, if_neg (by decide)]; rw [jm_upd_at, if_neg (by decide)]; rw [jm_upd_at, if_neg (by decide)]; rw [jm_upd_at, if_neg (by decide)]; rw [jm_upd_at, if_neg (by decide)]; rw [jm_upd_at, if_neg (by decide)]; rw [jm_upd_at, if_neg (by decide)]; rw [jm_upd_at, if_pos (by decide)]) (by decide)
  · exact key 2 1 (-14) (by unfold ix; rw [hs]; rw [jm_upd_at, if_neg (by decide)]; rw [jm_upd_at, if_neg (by decide)]; rw [jm_upd_at, if_neg (by decide)]; rw [jm_upd_at, if_neg (by decide)]; rw [jm_upd_at, if_pos (by decide)]; decide) (by decide) (by rw [hc]; rw [jm_upd_at, if_neg (by decide)]; rw [jm_upd_at, if_neg (by decide)]; rw [jm_upd_at, if_neg (by decide)]; rw [jm_upd_at, if_neg (by decide)]; rw [jm_upd_at, if_neg (by decide)]; rw [jm_upd_at, if_neg (by decide)]; rw [jm_upd_at, if_neg (by decide)]; rw [jm_upd_at, if_neg (by decide)]; rw [jm_upd_at, if_neg (by decide)]; rw [jm_upd_at, if_pos (by decide)]) (by rw [hc]; rw [jm_upd_at, if_neg (by decide)]; rw [jm_upd_at, if_neg (by decide)]; rw [jm_upd_at, if_neg (by decide)]; rw [jm_upd_at, if_neg (by decide)]; rw [jm_upd_at, if_neg (by decide)]; rw [jm_upd_at, if_neg (by decide)]; rw [jm_upd_at, if_neg (by decide)]; rw [jm_upd_at, if_neg (by decide)]; rw [jm_upd_at, if_pos (by decide)]) (by decide)
  · exact key 4 (-1) (-14) (by unfold ix; rw [hs]; rw [jm_upd_at, if_neg (by decide)]; rw [jm_upd_at, if_neg (by decide)]; rw [jm_upd_at, if_neg (by decide)]; rw [jm_upd_at, if_pos (by decide)]; decide) (by decide) (by rw [hc]; rw [jm_upd_at, if_neg (by decide)]; rw [jm_upd_at, if_neg (by decide)]; rw [jm_upd_at, if_neg (by decide)]; rw [jm_upd_at, if_neg (by decide)]; rw [jm_upd_at, if_neg (by decide)]; rw [jm_upd_at, if_neg (by decide)]; rw [jm_upd_at, if_neg (by decide)]; rw [jm_upd_at, if_pos (by decide)]) (by rw [hc]; rw [jm_upd_at, if_neg (by decide)]; rw [jm_upd_at, if_neg (by decide)]; rw [jm_upd_at, if_neg (by decide)]; rw [jm_upd_at, if_neg (by decide)]; rw [jm_upd_at, if_neg (by decide)]; rw [jm_upd_at, if_neg (by decide)]; rw [jm_upd_at, if_pos (by decide)]) (by decide)
  · exact key 6 (-1) (-14) (by unfold ix; rw [hs]; rw [jm_upd_at, if_neg (by decide)]; rw [jm_upd_at, if_neg (by decide)]; rw [jm_upd_at, if_pos (by decide)]; decide) (by decide) (by rw [hc]; rw [jm_upd_at, if_neg (by decide)]; rw [jm_upd_at, if_neg (by decide)]; rw [jm_upd_at, if_neg (by decide)]; rw [jm_upd_at, if_neg (by decide)]; rw [jm_upd_at, if_neg (by decide)]; rw [jm_upd_at, if_pos (by decide)]) (by rw [hc]; rw [jm_upd_at, if_neg (by decide)]; rw [jm_upd_at, if_neg (by decide)]; rw [jm_upd_at, if_neg (by decide)]; rw [jm_upd_at, if_neg (by decide)]; rw [jm_upd_at, if_pos (by decide)]) (by decide)
  · exact key 8 0 (-14) (by unfold ix; rw [hs]; rw [jm_upd_at, if_neg (by decide)]; rw [jm_upd_at, if_pos (by decide)]; decide) (by decide) (by rw [hc]; rw [jm_upd_at, if_neg (by decide)]; rw [jm_upd_at, if_neg (by decide)]; rw [jm_upd_at, if_neg (by decide)]; rw [jm_upd_at, if_pos (by decide)]) (by rw [hc]; rw [jm_upd_at, if_neg (by decide)]; rw [jm_upd_at, if_neg (by decide)]; rw [jm_upd_at, if_pos (by decide)]) (by decide)
  · exact key 10 0 (-14) (by unfold ix; rw [hs]; rw [jm_upd_at, if_pos (by decide)]; decide) (by decide) (by rw [hc]; rw [jm_upd_at, if_neg (by decide)]; rw [jm_upd_at, if_pos (by decide)]) (by rw [hc]; rw [jm_upd_at, if_pos (by decide)]) (by decide)
section PZk0
variable {Ls : Nat} {xs : Nat → Int32} (X1 X2 : List jm_c) (F0 : Nat → sy_d) (RR : sE ⊕ (sT × tX))
theorem k0zq_e (hEr : ∀ e, RR = .inl e → e.1 ≠ 0) (F : Nat → sy_d) (g0 : gc k0_WP F0 F) (n : Int) (hI : rrZ (kg F0) (vg F0) (ng F0) (pg F0) 18 RR (sy_i F 82).toInt n F) (hend : (sy_i F 82).toInt ≠ 0 → ∀ x T, rcl (pg F0) 18 19 x F → zRun (kg F0) (vg F0) (ng F0) (401 - n).toNat x T = .inr (x, T)) :
    hd_W Ls xs 28 jm_M31 (fun v G => ∃ (x : Int32) (F' : Nat → sy_d), v = some (.int x) ∧ G = sy_dh F' X1 X2 (iv_H 0) ∧ gc (35 :: k0_WP) F0 F' ∧ x.toInt = (sEnd (pg F0) (prT RR)).1 ∧ (sy_i F' 35).toInt = (sEnd (pg F0) (prT RR)).2 ∧ (x.toInt = 0 → rXc 18 (cnT RR) F' ∧ (sy_i F' 23).toInt ≤ 412)) (189, sy_dL F [some (.inl (.ref 30)), none, none, none, some (.inr (.inl 82)), none, none], sy_dS F [], sy_dh F X1 X2 (iv_H 0), 0, 0) := by
  refine k0pq_189 (by decide) F X1 X2 g0.1 ?_ ?_
  · intro q _ _ _ F4 hb g e33 e34 e35 e36 e37 e38 eFR eBU a39 a40
    have h := hI.2 q
    refine ⟨_, F4, rfl, rfl, (g0.mono (by decide)).trans (gc_mk (W := 35 :: k0_WP) hb g (by decide)) (fun _ q => q), ?_, ?_, fun zz => absurd zz ?_⟩
    rotate_left
    rotate_left
    · exact hEr _ h
    · rw [h]
      rfl
    · rw [h, e35]
      show _ = pg F0 (tg F)
      rw [← pg_eq (g0.2 40 (by decide) (by decide))]
      rfl
  · intro q _ F4 hb g e33 e34 e35 e36 e37 e38 eFR eBU a39 a40
    obtain ⟨x, T, h1, h2, hT, hcs⟩ := hI.1 q
    rw [hend q x T h1] at h2
    obtain ⟨w1, w2, w3, w4⟩ := h1.2.2.2.2.1
    refine ⟨_, F4, rfl, rfl, (g0.mono (by decide)).trans (gc_mk (W := 35 :: k0_WP) hb g (by decide)) (fun _ q => q), ?_, ?_, fun _ => ⟨by rw [h2]; exact rXc_eq hT (fun j j1 j2 => g j (by omega) (by intro z; simp at z <;> omega)), by rw [nz_fi (g 23 (by decide) (by decide))]; have hcs : (sy_i F 23).toInt ≤ 12 + (tg F : Int) := hcs; have c33 := nz_bx g0.1 (k := 33) (lo := 0) (hi := 400) rfl; have ht : (tg F : Int) = (sy_i F 33).toInt := (by unfold tg; omega); omega⟩⟩
    · rw [h2]
      show _ = (if x.2.2.2.2.1 = 0 then (0, -1) else (x.2.2.2.2.1, pg F0 x.2.2.2.2.2) : Int × Int).1
      split <;> (show _ = _; omega)
    · rw [h2]
      show _ = (if x.2.2.2.2.1 = 0 then (0, -1) else (x.2.2.2.2.1, pg F0 x.2.2.2.2.2) : Int × Int).2
      by_cases z : x.2.2.2.2.1 = 0
      · rw [if_pos z, e35, w4 z]
      · rw [if_neg z, e35, w3 z]
theorem k0zq_l (hEr : ∀ e, RR = .inl e → e.1 ≠ 0) : ∀ (m : Nat) (F : Nat → sy_d), gc k0_WP F0 F → jx_ok F0 → 0 ≤ (sy_i F 83).toInt → (sy_i F 83).toInt ≤ 401 → 401 - (sy_i F 83).toInt ≤ m → rrZ (kg F0) (vg F0) (ng F0) (pg F0) 18 RR (sy_i F 82).toInt (sy_i F 83).toInt F →
    hd_W Ls xs 28 jm_M31 (fun v G => ∃ (x : Int32) (F' : Nat → sy_d), v = some (.int x) ∧ G = sy_dh F' X1 X2 (iv_H 0) ∧ gc (35 :: k0_WP) F0 F' ∧ x.toInt = (sEnd (pg F0) (prT RR)).1 ∧ (sy_i F' 35).toInt = (sEnd (pg F0) (prT RR)).2 ∧ (x.toInt = 0 → rXc 18 (cnT RR) F' ∧ (sy_i F' 23).toInt ≤ 412)) (52, sy_dL F [some (.inl (.ref 30)), none, none, none, some (.inr (.inl 82)), some (.inr (.inl 83)), none], sy_dS F [], sy_dh F X1 X2 (iv_H 0), 0, 0)
  | m, F, g0, hJ, h83, h84, hm, hI => by
    have eK : kg F = kg F0 := kg_eq (g0.2 39 (by decide) (by decide))
    have eV : vg F = vg F0 := vg_eq (g0.2 41 (by decide) (by decide))
    have eN : ng F = ng F0 := ng_eq (g0.2 41 (by decide) (by decide))
    have eP : pg F = pg F0 := pg_eq (g0.2 40 (by decide) (by decide))
    have hJF : jx_ok F := jx_ok_eq (g0.2 39 (by decide) (by decide)) (g0.2 41 (by decide) (by decide)) hJ
    have hkF : kg F0 (tg F) = km ((sy_ai F 39).getD (sy_i F 33).toInt.toNat 0).toInt := by rw [← eK]; rfl
    refine k0pq_52 (by decide) F X1 X2 g0.1 ⟨h83, h84⟩ ?_ ?_ ?_ ?_ ?_ ?_ ?_ ?_ ?_
    · intro q F1 hb g e33 e34 e35 e36 e37 e38 eFR eBU a39 a40 e82
      refine k0zq_e X1 X2 F0 RR hEr F1 (g0.trans (gc_mk (W := k0_WP) hb g (by decide)) (fun _ q => q)) (sy_i F 83).toInt (rrZ_eq hI e82 rfl e33 e34 e36 e37 e38 (g 43 (by decide) (by decide)) (fun j j1 j2 => g j (by omega) (by intro z; simp at z <;> omega))) (fun _ x T _ => ?_)
      rw [show (401 - (sy_i F 83).toInt).toNat = 0 by omega]
      rfl
    · intro q z F1 hb g e33 e34 e35 e36 e37 e38 eFR eBU a39 a40 e82
      exact k0zq_e X1 X2 F0 RR hEr F1 (g0.trans (gc_mk (W := k0_WP) hb g (by decide)) (fun _ q => q)) (sy_i F 83).toInt (rrZ_eq hI e82 rfl e33 e34 e36 e37 e38 (g 43 (by decide) (by decide)) (fun j j1 j2 => g j (by omega) (by intro z; simp at z <;> omega))) (fun y => absurd (e82.trans z) y)
    · intro q z _ _ hk F1 hb g e33 e34 e35 e36 e37 e38 eFR eBU a39 a40 e82
      refine k0zq_e X1 X2 F0 RR hEr F1 (g0.trans (gc_mk (W := k0_WP) hb g (by decide)) (fun _ q => q)) (sy_i F 83).toInt (rrZ_eq hI e82 rfl e33 e34 e36 e37 e38 (g 43 (by decide) (by decide)) (fun j j1 j2 => g j (by omega) (by intro z; simp at z <;> omega))) (fun _ x T hx => ?_)
      rw [show (401 - (sy_i F 83).toInt).toNat = (400 - (sy_i F 83).toInt).toNat + 1 by omega]
      show (if kg F0 x.1 = 0 then _ else _) = _
      rw [if_pos (by rw [← hx.1, tg_eq e33, hkF, hk]; decide)]
    · intro q z _ _ nk _ _ q0 q1 q2 q3 F1 hb g e33 e34 e35 e36 e37 e38 eFR eBU a39 a40 e82 e83
      obtain ⟨m, rfl⟩ : ∃ m', m = m' + 1 := ⟨m - 1, by omega⟩
      refine k0zq_l hEr m F1 (g0.trans (gc_mk (W := k0_WP) hb g (by decide)) (fun _ q => q)) hJ (by omega) (by omega) (by omega) ⟨fun y => absurd e82 y, fun _ => ?_⟩
      obtain ⟨x, T, h1, h2, hT, hcs⟩ := hI.1 z
      rw [h2, show (401 - (sy_i F 83).toInt).toNat = (400 - (sy_i F 83).toInt).toNat + 1 by omega, e34, tg_eq e33]
      show (if kg F0 x.1 = 0 then _ else _) = _
      obtain ⟨c, hc⟩ : ∃ c, c = ((sy_ai F 39).getD (sy_i F 33).toInt.toNat 0).toInt := ⟨_, rfl⟩
      rw [← hc] at hkF nk q0 q1 q2 q3
      have j0 : ¬ km c = 0 := fun y => by have := km_0.mp y; omega
      have j1 : sOne (kg F0) (vg F0) (ng F0) x = .inl (1, x.1) := by
        unfold sOne
        rw [← h1.1, hkF, if_neg (fun y => by have := (km_w (by decide) (by decide)).mp y; omega), if_neg (fun y => by have := (km_w (by decide) (by decide)).mp y; omega), if_neg (fun y => by rcases y with y | y <;> (have := (km_w (by decide) (by decide)).mp y; omega)), if_neg (fun y => by have := (km_w (by decide) (by decide)).mp y; omega), if_neg (fun y => by
          have := (km_w (c := c) (k := km c) (by omega) (by omega)).mp rfl
          omega)]
      rw [if_neg (by rw [← h1.1, hkF]; exact j0), j1, h1.1]
      rfl
    · intro q z _ _ nk _ _ q0 q1 q2 q3 q4 q5 F1 hb g e33 e34 e35 e36 e37 e38 eFR eBU a39 a40 e82 e83
      obtain ⟨m, rfl⟩ : ∃ m', m = m' + 1 := ⟨m - 1, by omega⟩
      refine k0zq_l hEr m F1 (g0.trans (gc_mk (W := k0_WP) hb g (by decide)) (fun _ q => q)) hJ (by omega) (by omega) (by omega) ⟨fun y => absurd e82 y, fun _ => ?_⟩
      obtain ⟨x, T, h1, h2, hT, hcs⟩ := hI.1 z
      rw [h2, show (401 - (sy_i F 83).toInt).toNat = (400 - (sy_i F 83).toInt).toNat + 1 by omega, e34, tg_eq e33]
      show (if kg F0 x.1 = 0 then _ else _) = _
      obtain ⟨c, hc⟩ : ∃ c, c = ((sy_ai F 39).getD (sy_i F 33).toInt.toNat 0).toInt := ⟨_, rfl⟩
      rw [← hc] at hkF nk q0 q1 q2 q3 q4 q5
      have j0 : ¬ km c = 0 := fun y => by have := km_0.mp y; omega
      have j1 : sOne (kg F0) (vg F0) (ng F0) x = .inl (1, x.1) := by
        unfold sOne
        rw [← h1.1, hkF, if_neg (fun y => by have := (km_w (by decide) (by decide)).mp y; omega), if_neg (fun y => by have := (km_w (by decide) (by decide)).mp y; omega), if_neg (fun y => by rcases y with y | y <;> (have := (km_w (by decide) (by decide)).mp y; omega)), if_neg (fun y => by have := (km_w (by decide) (by decide)).mp y; omega), if_neg (fun y => by
          have := (km_w (c := c) (k := km c) (by omega) (by omega)).mp rfl
          omega)]
      rw [if_neg (by rw [← h1.1, hkF]; exact j0), j1, h1.1]
      rfl
    · intro q z _ _ nk _ _ q0 q1 q2 q3 q4 q5 F1 hb g e33 e34 e35 e36 e37 e38 eFR eBU a39 a40 e82 e83
      obtain ⟨m, rfl⟩ : ∃ m', m = m' + 1 := ⟨m - 1, by omega⟩
      obtain ⟨x, T, h1, h2, hT, hcs⟩ := hI.1 z
      obtain ⟨c, hc⟩ : ∃ c, c = ((sy_ai F 39).getD (sy_i F 33).toInt.toNat 0).toInt := ⟨_, rfl⟩
      rw [← hc] at hkF nk q0 q1 q2 q3 q4 q5 e83
      have g1 : gc k0_WP F0 F1 := g0.trans (gc_mk (W := k0_WP) hb g (by decide)) (fun _ q => q)
      have eK1 : kg F1 = kg F0 := kg_eq (g1.2 39 (by decide) (by decide))
      have eV1 : vg F1 = vg F0 := vg_eq (g1.2 41 (by decide) (by decide))
      have eN1 : ng F1 = ng F0 := ng_eq (g1.2 41 (by decide) (by decide))
      have eP1 : pg F1 = pg F0 := pg_eq (g1.2 40 (by decide) (by decide))
      have hx1 : rcl (pg F0) 18 19 x F1 := rcl_eq h1 e33 e36 e37 e38 eFR eBU (g 43 (by decide) (by decide))
      have hk1 : kg F1 (tg F1) = km c := by rw [eK1, tg_eq e33]; exact hkF
      have hT1 : rXc 18 T F1 := rXc_eq hT (fun j j1 j2 => g j (by omega) (by intro z; simp at z <;> omega))
      have hcs1 : (sy_i F1 23).toInt ≤ 12 + tg F1 := by rw [nz_fi (g 23 (by decide) (by decide)), tg_eq e33]; exact hcs
      have hkx : kg F0 x.1 = km c := by rw [← h1.1]; exact hkF
      have hk0 : kg F0 x.1 ≠ 0 := by
        rw [hkx]
        exact fun y => by have := km_0.mp y; omega
      have hone : sOne (kg F0) (vg F0) (ng F0) x = sSet (kg F0) (vg F0) (sHi c) x := by
        unfold sOne
        rw [hkx, km_r (by omega) (by omega), if_neg (by omega), if_neg (by omega)]
        unfold sHi
        by_cases z : c = 10
        · rw [if_neg (by omega), if_pos (by omega), if_pos z]
        · rw [if_pos (by omega), if_neg z]
      refine hd_calI (R := fun y F' => gc k0pg_W F1 F' ∧ ac (sSet (kg F1) (vg F1) (sHi (sy_i F1 83).toInt) x) (rcl (pg F1) 18 19) y F' ∧ (y = 1 → stC 20 (sy_i F1 83).toInt F1 F')) (nh := 82) (nv := 84) (s := 0) (s1 := 0) (d1 := 5) (M1 := jm_M35) (As := [.inl (.ref 30), .inr (.inl 83)]) (rest := []) jm_ok31 rfl rfl (by decide) (by decide +kernel) (k0vg_T X1 X2 F1 hb (sy_i F1 83) (by omega) (by rw [hk1, e83]) x (by rw [eP1]; exact hx1)) (fun F3 F' y hR p1 p2 p3 => ?_)
      obtain ⟨r1, r2, r3⟩ := hR
      rw [eK1, eV1, eP1, e83, ← hone] at r2
      have r1 := r1.dst p1
      have r2 : ac (sOne (kg F0) (vg F0) (ng F0) x) (rcl (pg F0) 18 19) y F3 := ac_sub r2 p1 (fun a h => rcl_eq h (nz_fi (p1 33 (by decide))) (nz_fi (p1 36 (by decide))) (nz_fi (p1 37 (by decide))) (nz_fi (p1 38 (by decide))) (nz_fi (p1 18 (by decide))) (nz_fi (p1 19 (by decide))) (p1 43 (by decide)))
      have g3 : gc k0_WP F0 F3 := g1.trans r1 (by decide)
      have hy : sy_i F3 84 = y := zz_i p3
      have k82 := nz_fi (p2 82 (by decide) (by decide))
      have hI3 := rrZ_on (b := 18) (n := (sy_i F 83).toInt) (by omega) (by omega) hk0 h2 r2 (fun zy => by
        have zn := stC_dst (r3 zy) p1 (by decide)
        have zc := rXc_st (b := 18) (a := (sy_i F1 83).toInt) (by omega) (by rw [hk1, e83, km_r (by omega) (by omega)]) hT1 zn (fun j j1 j2 j3 => r1.2 j (by omega) (by intro z; simp [k0pg_W] at z; omega))
        rw [eK1, eV1, hx1.1] at zc
        exact ⟨zc, by have z1 := zn.1; rw [r1.i (k := 23) (by decide) (by decide)]; omega⟩)
      refine k0pq_171 (by decide) F3 X1 X2 g3.1 (by omega) ?_
      intro F4 hb g d33 d34 d35 d36 d37 d38 dFR dBU b39 b40 d82 d83
      exact k0zq_l hEr m F4 (g3.trans (gc_mk (W := k0_WP) hb g (by decide)) (fun _ q => q)) hJ (by omega) (by omega) (by omega) (rrZ_eq hI3 (by rw [d82, hy]) (by omega) d33 d34 d36 d37 d38 (g 43 (by decide) (by decide)) (fun j j1 j2 => g j (by omega) (by intro z; simp at z <;> omega)))
    · intro q z _ _ nk _ _ q0 q1 q2 q3 F1 hb g e33 e34 e35 e36 e37 e38 eFR eBU a39 a40 e82 e83 e84
      obtain ⟨m, rfl⟩ : ∃ m', m = m' + 1 := ⟨m - 1, by omega⟩
      obtain ⟨x, T, h1, h2, hT, hcs⟩ := hI.1 z
      obtain ⟨c, hc⟩ : ∃ c, c = ((sy_ai F 39).getD (sy_i F 33).toInt.toNat 0).toInt := ⟨_, rfl⟩
      rw [← hc] at hkF nk q0 q1 q2 q3 e83 e84
      have g1 : gc k0_WP F0 F1 := g0.trans (gc_mk (W := k0_WP) hb g (by decide)) (fun _ q => q)
      have eK1 : kg F1 = kg F0 := kg_eq (g1.2 39 (by decide) (by decide))
      have eV1 : vg F1 = vg F0 := vg_eq (g1.2 41 (by decide) (by decide))
      have eN1 : ng F1 = ng F0 := ng_eq (g1.2 41 (by decide) (by decide))
      have eP1 : pg F1 = pg F0 := pg_eq (g1.2 40 (by decide) (by decide))
      have hx1 : rcl (pg F0) 18 19 x F1 := rcl_eq h1 e33 e36 e37 e38 eFR eBU (g 43 (by decide) (by decide))
      have hk1 : kg F1 (tg F1) = km c := by rw [eK1, tg_eq e33]; exact hkF
      have hT1 : rXc 18 T F1 := rXc_eq hT (fun j j1 j2 => g j (by omega) (by intro z; simp at z <;> omega))
      have hcs1 : (sy_i F1 23).toInt ≤ 12 + tg F1 := by rw [nz_fi (g 23 (by decide) (by decide)), tg_eq e33]; exact hcs
      have hkx : kg F0 x.1 = km c := by rw [← h1.1]; exact hkF
      have hk0 : kg F0 x.1 ≠ 0 := by
        rw [hkx]
        exact fun y => by have := km_0.mp y; omega
      have hone : sOne (kg F0) (vg F0) (ng F0) x = sB (plr (kg F0) x.1) (fun t => .inr (t, x.2)) := by
        unfold sOne
        rw [hkx, km_r (by omega) (by omega), if_neg (by omega), if_neg (by omega), if_neg (by omega), if_neg (by omega), if_pos (by omega)]
        exact plr_eq x
      refine hd_calI (R := fun y F' => plZ 23 32 31 k0_WL (sy_i F1 83).toInt y F1 F') (nh := 82) (nv := 85) (s := 0) (s1 := 0) (d1 := 26) (M1 := jm_M36) (As := [.inl (.ref 30), .inr (.inl 84), .inr (.inl 83)]) (rest := []) jm_ok31 rfl rfl (by decide) (by decide +kernel) (k0pl_TZ X1 X2 F1 (sy_i F1 84) (sy_i F1 83) hb (jx_ok_eq (g 39 (by decide) (by decide)) (g 41 (by decide) (by decide)) hJF) hcs1 (by omega) (by omega) (by omega) (by rw [a39, e33, ← hc, e84])) (fun F3 F' y hR p1 p2 p3 => ?_)
      obtain ⟨r1, r2⟩ := plR_dst hR.1 p1
      have r3 := hR.2
      rw [eK1, hx1.1] at r2
      have r2 : ac (sOne (kg F0) (vg F0) (ng F0) x) (rcl (pg F0) 18 19) y F3 := by
        rcases r2 with ⟨a, b⟩ | ⟨a, b⟩
        · exact Or.inl ⟨a, by rw [hone, b]; rfl⟩
        · refine Or.inr ⟨a, (tg F3, x.2), by rw [hone, b]; rfl, rfl, ?_⟩
          have h := rcl_eq (F1 := fun j => if j = 33 then F1 33 else F3 j) hx1 rfl (nz_fi (r1.2 36 (by decide) (by decide))) (nz_fi (r1.2 37 (by decide) (by decide))) (nz_fi (r1.2 38 (by decide) (by decide))) (nz_fi (r1.2 18 (by decide) (by decide))) (nz_fi (r1.2 19 (by decide) (by decide))) (r1.2 43 (by decide) (by decide))
          obtain ⟨a1, a2, a3, a4, a5, a6⟩ := h
          exact ⟨a2, a3, ncr_eq a4 rfl rfl, wc_eq a5 rfl rfl, a6⟩
      have g3 : gc k0_WP F0 F3 := g1.trans r1 (by decide)
      have hy : sy_i F3 85 = y := zz_i p3
      have k82 := nz_fi (p2 82 (by decide) (by decide))
      have hI3 := rrZ_on (b := 18) (n := (sy_i F 83).toInt) (by omega) (by omega) hk0 h2 r2 (fun zy => by
        have zn := plC_dst (r3 zy) p1 (by decide) (by decide) (by decide)
        have zc := rXc_lw (b := 18) (a := (sy_i F1 83).toInt) (by omega) (nz_bx hb (k := 23) (lo := 0) (hi := 512) rfl).1 (by rw [hk1, e83, km_r (by omega) (by omega)]; omega) hT1 zn (fun j j1 j2 j3 j4 j5 => r1.2 j (by omega) (by intro z; simp [k0_WL] at z; omega))
        rw [eK1, eV1, hx1.1] at zc
        exact ⟨zc, by obtain ⟨-, bs, -, z2, -⟩ := zn; have z1 := z2.2.1; show (sy_i F3 23).toInt ≤ _; omega⟩)
      refine k0pq_146 (by decide) F3 X1 X2 g3.1 (by omega) ?_
      intro F4 hb g d33 d34 d35 d36 d37 d38 dFR dBU b39 b40 d82 d83
      exact k0zq_l hEr m F4 (g3.trans (gc_mk (W := k0_WP) hb g (by decide)) (fun _ q => q)) hJ (by omega) (by omega) (by omega) (rrZ_eq hI3 (by rw [d82, hy]) (by omega) d33 d34 d36 d37 d38 (g 43 (by decide) (by decide)) (fun j j1 j2 => g j (by omega) (by intro z; simp at z <;> omega)))
    · intro q z _ _ nk _ _ q0 q1 F1 hb g e33 e34 e35 e36 e37 e38 eFR eBU a39 a40 e82
      obtain ⟨m, rfl⟩ : ∃ m', m = m' + 1 := ⟨m - 1, by omega⟩
      obtain ⟨x, T, h1, h2, hT, hcs⟩ := hI.1 z
      obtain ⟨c, hc⟩ : ∃ c, c = ((sy_ai F 39).getD (sy_i F 33).toInt.toNat 0).toInt := ⟨_, rfl⟩
      rw [← hc] at hkF nk q0 q1
      have g1 : gc k0_WP F0 F1 := g0.trans (gc_mk (W := k0_WP) hb g (by decide)) (fun _ q => q)
      have eK1 : kg F1 = kg F0 := kg_eq (g1.2 39 (by decide) (by decide))
      have eV1 : vg F1 = vg F0 := vg_eq (g1.2 41 (by decide) (by decide))
      have eN1 : ng F1 = ng F0 := ng_eq (g1.2 41 (by decide) (by decide))
      have eP1 : pg F1 = pg F0 := pg_eq (g1.2 40 (by decide) (by decide))
      have hx1 : rcl (pg F0) 18 19 x F1 := rcl_eq h1 e33 e36 e37 e38 eFR eBU (g 43 (by decide) (by decide))
      have hk1 : kg F1 (tg F1) = km c := by rw [eK1, tg_eq e33]; exact hkF
      have hT1 : rXc 18 T F1 := rXc_eq hT (fun j j1 j2 => g j (by omega) (by intro z; simp at z <;> omega))
      have hcs1 : (sy_i F1 23).toInt ≤ 12 + tg F1 := by rw [nz_fi (g 23 (by decide) (by decide)), tg_eq e33]; exact hcs
      have hkx : kg F0 x.1 = km c := by rw [← h1.1]; exact hkF
      have hk0 : kg F0 x.1 ≠ 0 := by
        rw [hkx]
        exact fun y => by have := km_0.mp y; omega
      have hk2 : kg F1 (tg F1) = 21 := by rw [hk1, q1]; decide
      have hone : sOne (kg F0) (vg F0) (ng F0) x = sBuyer (kg F0) (vg F0) (ng F0) x := by
        unfold sOne
        rw [hkx, if_neg (by rw [q1]; decide), if_pos (by rw [q1]; decide)]
      refine hd_calI (R := fun y F' => gc k0pb_W F1 F' ∧ ac (sBuyer (kg F1) (vg F1) (ng F1) x) (rcl (pg F1) 18 19) y F' ∧ (y = 1 → nbC 19 28 F1 F')) (nh := 82) (nv := 83) (s := 0) (s1 := 0) (d1 := 5) (M1 := jm_M34) (As := [.inl (.ref 30)]) (rest := []) jm_ok31 rfl rfl (by decide) (by decide +kernel) (k0vb_T X1 X2 F1 hb hk2 x (by rw [eP1]; exact hx1)) (fun F3 F' y hR p1 p2 p3 => ?_)
      obtain ⟨r1, r2, r3⟩ := hR
      rw [eK1, eV1, eN1, eP1, ← hone] at r2
      have r1 := r1.dst p1
      have r2 : ac (sOne (kg F0) (vg F0) (ng F0) x) (rcl (pg F0) 18 19) y F3 := ac_sub r2 p1 (fun a h => rcl_eq h (nz_fi (p1 33 (by decide))) (nz_fi (p1 36 (by decide))) (nz_fi (p1 37 (by decide))) (nz_fi (p1 38 (by decide))) (nz_fi (p1 18 (by decide))) (nz_fi (p1 19 (by decide))) (p1 43 (by decide)))
      have g3 : gc k0_WP F0 F3 := g1.trans r1 (by decide)
      have hy : sy_i F3 83 = y := zz_i p3
      have k82 := nz_fi (p2 82 (by decide) (by decide))
      have hI3 := rrZ_on (b := 18) (n := (sy_i F 83).toInt) (by omega) (by omega) hk0 h2 r2 (fun zy => by
        have zn := nbC_dst (r3 zy) p1 (by decide) (by decide)
        have zc := rXc_bu (b := 18) hk2 hT1 zn (fun j j1 j2 j3 j4 => r1.2 j (by omega) (by intro z; simp [k0pb_W] at z; omega))
        rw [eK1, eV1, hx1.1] at zc
        exact ⟨zc, by have z1 := zn.1; rw [r1.i (k := 23) (by decide) (by decide)]; omega⟩)
      refine k0pq_118 (by decide) F3 X1 X2 g3.1 (by omega) ?_
      intro F4 hb g d33 d34 d35 d36 d37 d38 dFR dBU b39 b40 d82 d83
      exact k0zq_l hEr m F4 (g3.trans (gc_mk (W := k0_WP) hb g (by decide)) (fun _ q => q)) hJ (by omega) (by omega) (by omega) (rrZ_eq hI3 (by rw [d82, hy]) (by omega) d33 d34 d36 d37 d38 (g 43 (by decide) (by decide)) (fun j j1 j2 => g j (by omega) (by intro z; simp at z <;> omega)))
    · intro q z _ _ nk _ _ q0 F1 hb g e33 e34 e35 e36 e37 e38 eFR eBU a39 a40 e82
      obtain ⟨m, rfl⟩ : ∃ m', m = m' + 1 := ⟨m - 1, by omega⟩
      obtain ⟨x, T, h1, h2, hT, hcs⟩ := hI.1 z
      obtain ⟨c, hc⟩ : ∃ c, c = ((sy_ai F 39).getD (sy_i F 33).toInt.toNat 0).toInt := ⟨_, rfl⟩
      rw [← hc] at hkF nk q0
      have g1 : gc k0_WP F0 F1 := g0.trans (gc_mk (W := k0_WP) hb g (by decide)) (fun _ q => q)
      have eK1 : kg F1 = kg F0 := kg_eq (g1.2 39 (by decide) (by decide))
      have eV1 : vg F1 = vg F0 := vg_eq (g1.2 41 (by decide) (by decide))
      have eN1 : ng F1 = ng F0 := ng_eq (g1.2 41 (by decide) (by decide))
      have eP1 : pg F1 = pg F0 := pg_eq (g1.2 40 (by decide) (by decide))
      have hx1 : rcl (pg F0) 18 19 x F1 := rcl_eq h1 e33 e36 e37 e38 eFR eBU (g 43 (by decide) (by decide))
      have hk1 : kg F1 (tg F1) = km c := by rw [eK1, tg_eq e33]; exact hkF
      have hT1 : rXc 18 T F1 := rXc_eq hT (fun j j1 j2 => g j (by omega) (by intro z; simp at z <;> omega))
      have hcs1 : (sy_i F1 23).toInt ≤ 12 + tg F1 := by rw [nz_fi (g 23 (by decide) (by decide)), tg_eq e33]; exact hcs
      have hkx : kg F0 x.1 = km c := by rw [← h1.1]; exact hkF
      have hk0 : kg F0 x.1 ≠ 0 := by
        rw [hkx]
        exact fun y => by have := km_0.mp y; omega
      have hk2 : kg F1 (tg F1) = 20 := by rw [hk1, q0]; decide
      have hone : sOne (kg F0) (vg F0) (ng F0) x = sFruit (kg F0) (vg F0) (ng F0) x := by
        unfold sOne
        rw [hkx, if_pos (by rw [q0]; decide)]
      refine hd_calI (R := fun y F' => gc k0pf_W F1 F' ∧ ac (sFruit (kg F1) (vg F1) (ng F1) x) (rcl (pg F1) 18 19) y F' ∧ (y = 1 → nbC 18 24 F1 F')) (nh := 82) (nv := 83) (s := 0) (s1 := 0) (d1 := 5) (M1 := jm_M33) (As := [.inl (.ref 30)]) (rest := []) jm_ok31 rfl rfl (by decide) (by decide +kernel) (k0vf_T X1 X2 F1 hb hk2 x (by rw [eP1]; exact hx1)) (fun F3 F' y hR p1 p2 p3 => ?_)
      obtain ⟨r1, r2, r3⟩ := hR
      rw [eK1, eV1, eN1, eP1, ← hone] at r2
      have r1 := r1.dst p1
      have r2 : ac (sOne (kg F0) (vg F0) (ng F0) x) (rcl (pg F0) 18 19) y F3 := ac_sub r2 p1 (fun a h => rcl_eq h (nz_fi (p1 33 (by decide))) (nz_fi (p1 36 (by decide))) (nz_fi (p1 37 (by decide))) (nz_fi (p1 38 (by decide))) (nz_fi (p1 18 (by decide))) (nz_fi (p1 19 (by decide))) (p1 43 (by decide)))
      have g3 : gc k0_WP F0 F3 := g1.trans r1 (by decide)
      have hy : sy_i F3 83 = y := zz_i p3
      have k82 := nz_fi (p2 82 (by decide) (by decide))
      have hI3 := rrZ_on (b := 18) (n := (sy_i F 83).toInt) (by omega) (by omega) hk0 h2 r2 (fun zy => by
        have zn := nbC_dst (r3 zy) p1 (by decide) (by decide)
        have zc := rXc_fr (b := 18) hk2 hT1 zn (fun j j1 j2 j3 => r1.2 j (by omega) (by intro z; simp [k0pf_W] at z; omega))
        rw [eK1, eV1, hx1.1] at zc
        exact ⟨zc, by have z1 := zn.1; rw [r1.i (k := 23) (by decide) (by decide)]; omega⟩)
      refine k0pq_103 (by decide) F3 X1 X2 g3.1 (by omega) ?_
      intro F4 hb g d33 d34 d35 d36 d37 d38 dFR dBU b39 b40 d82 d83
      exact k0zq_l hEr m F4 (g3.trans (gc_mk (W := k0_WP) hb g (by decide)) (fun _ q => q)) hJ (by omega) (by omega) (by omega) (rrZ_eq hI3 (by rw [d82, hy]) (by omega) d33 d34 d36 d37 d38 (g 43 (by decide) (by decide)) (fun j j1 j2 => g j (by omega) (by intro z; simp at z <;> omega)))
end PZk0
section PZk3
variable {Ls : Nat} {xs : Nat → Int32} (X1 X2 : List jm_c) (F0 : Nat → sy_d) (RR : sE ⊕ (sT × tX))
theorem k3zq_e (hEr : ∀ e, RR = .inl e → e.1 ≠ 0) (F : Nat → sy_d) (g0 : gc k3_WP F0 F) (n : Int) (hI : rrZ (kg F0) (vg F0) (ng F0) (pg F0) 3 RR (sy_i F 82).toInt n F) (hend : (sy_i F 82).toInt ≠ 0 → ∀ x T, rcl (pg F0) 3 4 x F → zRun (kg F0) (vg F0) (ng F0) (401 - n).toNat x T = .inr (x, T)) :
    hd_W Ls xs 28 jm_M31 (fun v G => ∃ (x : Int32) (F' : Nat → sy_d), v = some (.int x) ∧ G = sy_dh F' X1 X2 (iv_H 3) ∧ gc (35 :: k3_WP) F0 F' ∧ x.toInt = (sEnd (pg F0) (prT RR)).1 ∧ (sy_i F' 35).toInt = (sEnd (pg F0) (prT RR)).2 ∧ (x.toInt = 0 → rXc 3 (cnT RR) F' ∧ (sy_i F' 8).toInt ≤ 412)) (189, sy_dL F [some (.inl (.ref 30)), none, none, none, some (.inr (.inl 82)), none, none], sy_dS F [], sy_dh F X1 X2 (iv_H 3), 0, 0) := by
  refine k3pq_189 (by decide) F X1 X2 g0.1 ?_ ?_
  · intro q _ _ _ F4 hb g e33 e34 e35 e36 e37 e38 eFR eBU a39 a40
    have h := hI.2 q
    refine ⟨_, F4, rfl, rfl, (g0.mono (by decide)).trans (gc_mk (W := 35 :: k3_WP) hb g (by decide)) (fun _ q => q), ?_, ?_, fun zz => absurd zz ?_⟩
    rotate_left
    rotate_left
    · exact hEr _ h
    · rw [h]
      rfl
    · rw [h, e35]
      show _ = pg F0 (tg F)
      rw [← pg_eq (g0.2 40 (by decide) (by decide))]
      rfl
  · intro q _ F4 hb g e33 e34 e35 e36 e37 e38 eFR eBU a39 a40
    obtain ⟨x, T, h1, h2, hT, hcs⟩ := hI.1 q
    rw [hend q x T h1] at h2
    obtain ⟨w1, w2, w3, w4⟩ := h1.2.2.2.2.1
    refine ⟨_, F4, rfl, rfl, (g0.mono (by decide)).trans (gc_mk (W := 35 :: k3_WP) hb g (by decide)) (fun _ q => q), ?_, ?_, fun _ => ⟨by rw [h2]; exact rXc_eq hT (fun j j1 j2 => g j (by omega) (by intro z; simp at z <;> omega)), by rw [nz_fi (g 8 (by decide) (by decide))]; have hcs : (sy_i F 8).toInt ≤ 12 + (tg F : Int) := hcs; have c33 := nz_bx g0.1 (k := 33) (lo := 0) (hi := 400) rfl; have ht : (tg F : Int) = (sy_i F 33).toInt := (by unfold tg; omega); omega⟩⟩
    · rw [h2]
      show _ = (if x.2.2.2.2.1 = 0 then (0, -1) else (x.2.2.2.2.1, pg F0 x.2.2.2.2.2) : Int × Int).1
      split <;> (show _ = _; omega)
    · rw [h2]
      show _ = (if x.2.2.2.2.1 = 0 then (0, -1) else (x.2.2.2.2.1, pg F0 x.2.2.2.2.2) : Int × Int).2
      by_cases z : x.2.2.2.2.1 = 0
      · rw [if_pos z, e35, w4 z]
      · rw [if_neg z, e35, w3 z]
theorem k3zq_l (hEr : ∀ e, RR = .inl e → e.1 ≠ 0) : ∀ (m : Nat) (F : Nat → sy_d), gc k3_WP F0 F → jx_ok F0 → 0 ≤ (sy_i F 83).toInt → (sy_i F 83).toInt ≤ 401 → 401 - (sy_i F 83).toInt ≤ m → rrZ (kg F0) (vg F0) (ng F0) (pg F0) 3 RR (sy_i F 82).toInt (sy_i F 83).toInt F →
    hd_W Ls xs 28 jm_M31 (fun v G => ∃ (x : Int32) (F' : Nat → sy_d), v = some (.int x) ∧ G = sy_dh F' X1 X2 (iv_H 3) ∧ gc (35 :: k3_WP) F0 F' ∧ x.toInt = (sEnd (pg F0) (prT RR)).1 ∧ (sy_i F' 35).toInt = (sEnd (pg F0) (prT RR)).2 ∧ (x.toInt = 0 → rXc 3 (cnT RR) F' ∧ (sy_i F' 8).toInt ≤ 412)) (52, sy_dL F [some (.inl (.ref 30)), none, none, none, some (.inr (.inl 82)), some (.inr (.inl 83)), none], sy_dS F [], sy_dh F X1 X2 (iv_H 3), 0, 0)
  | m, F, g0, hJ, h83, h84, hm, hI => by
    have eK : kg F = kg F0 := kg_eq (g0.2 39 (by decide) (by decide))
    have eV : vg F = vg F0 := vg_eq (g0.2 41 (by decide) (by decide))
    have eN : ng F = ng F0 := ng_eq (g0.2 41 (by decide) (by decide))
    have eP : pg F = pg F0 := pg_eq (g0.2 40 (by decide) (by decide))
    have hJF : jx_ok F := jx_ok_eq (g0.2 39 (by decide) (by decide)) (g0.2 41 (by decide) (by decide)) hJ
    have hkF : kg F0 (tg F) = km ((sy_ai F 39).getD (sy_i F 33).toInt.toNat 0).toInt := by rw [← eK]; rfl
    refine k3pq_52 (by decide) F X1 X2 g0.1 ⟨h83, h84⟩ ?_ ?_ ?_ ?_ ?_ ?_ ?_ ?_ ?_
    · intro q F1 hb g e33 e34 e35 e36 e37 e38 eFR eBU a39 a40 e82
      refine k3zq_e X1 X2 F0 RR hEr F1 (g0.trans (gc_mk (W := k3_WP) hb g (by decide)) (fun _ q => q)) (sy_i F 83).toInt (rrZ_eq hI e82 rfl e33 e34 e36 e37 e38 (g 43 (by decide) (by decide)) (fun j j1 j2 => g j (by omega) (by intro z; simp at z <;> omega))) (fun _ x T _ => ?_)
      rw [show (401 - (sy_i F 83).toInt).toNat = 0 by omega]
      rfl
    · intro q z F1 hb g e33 e34 e35 e36 e37 e38 eFR eBU a39 a40 e82
      exact k3zq_e X1 X2 F0 RR hEr F1 (g0.trans (gc_mk (W := k3_WP) hb g (by decide)) (fun _ q => q)) (sy_i F 83).toInt (rrZ_eq hI e82 rfl e33 e34 e36 e37 e38 (g 43 (by decide) (by decide)) (fun j j1 j2 => g j (by omega) (by intro z; simp at z <;> omega))) (fun y => absurd (e82.trans z) y)
    · intro q z _ _ hk F1 hb g e33 e34 e35 e36 e37 e38 eFR eBU a39 a40 e82
      refine k3zq_e X1 X2 F0 RR hEr F1 (g0.trans (gc_mk (W := k3_WP) hb g (by decide)) (fun _ q => q)) (sy_i F 83).toInt (rrZ_eq hI e82 rfl e33 e34 e36 e37 e38 (g 43 (by decide) (by decide)) (fun j j1 j2 => g j (by omega) (by intro z; simp at z <;> omega))) (fun _ x T hx => ?_)
      rw [show (401 - (sy_i F 83).toInt).toNat = (400 - (sy_i F 83).toInt).toNat + 1 by omega]
      show (if kg F0 x.1 = 0 then _ else _) = _
      rw [if_pos (by rw [← hx.1, tg_eq e33, hkF, hk]; decide)]
    · intro q z _ _ nk _ _ q0 q1 q2 q3 F1 hb g e33 e34 e35 e36 e37 e38 eFR eBU a39 a40 e82 e83
      obtain ⟨m, rfl⟩ : ∃ m', m = m' + 1 := ⟨m - 1, by omega⟩
      refine k3zq_l hEr m F1 (g0.trans (gc_mk (W := k3_WP) hb g (by decide)) (fun _ q => q)) hJ (by omega) (by omega) (by omega) ⟨fun y => absurd e82 y, fun _ => ?_⟩
      obtain ⟨x, T, h1, h2, hT, hcs⟩ := hI.1 z
      rw [h2, show (401 - (sy_i F 83).toInt).toNat = (400 - (sy_i F 83).toInt).toNat + 1 by omega, e34, tg_eq e33]
      show (if kg F0 x.1 = 0 then _ else _) = _
      obtain ⟨c, hc⟩ : ∃ c, c = ((sy_ai F 39).getD (sy_i F 33).toInt.toNat 0).toInt := ⟨_, rfl⟩
      rw [← hc] at hkF nk q0 q1 q2 q3
      have j0 : ¬ km c = 0 := fun y => by have := km_0.mp y; omega
      have j1 : sOne (kg F0) (vg F0) (ng F0) x = .inl (1, x.1) := by
        unfold sOne
        rw [← h1.1, hkF, if_neg (fun y => by have := (km_w (by decide) (by decide)).mp y; omega), if_neg (fun y => by have := (km_w (by decide) (by decide)).mp y; omega), if_neg (fun y => by rcases y with y | y <;> (have := (km_w (by decide) (by decide)).mp y; omega)), if_neg (fun y => by have := (km_w (by decide) (by decide)).mp y; omega), if_neg (fun y => by
          have := (km_w (c := c) (k := km c) (by omega) (by omega)).mp rfl
          omega)]
      rw [if_neg (by rw [← h1.1, hkF]; exact j0), j1, h1.1]
      rfl
    · intro q z _ _ nk _ _ q0 q1 q2 q3 q4 q5 F1 hb g e33 e34 e35 e36 e37 e38 eFR eBU a39 a40 e82 e83
      obtain ⟨m, rfl⟩ : ∃ m', m = m' + 1 := ⟨m - 1, by omega⟩
      refine k3zq_l hEr m F1 (g0.trans (gc_mk (W := k3_WP) hb g (by decide)) (fun _ q => q)) hJ (by omega) (by omega) (by omega) ⟨fun y => absurd e82 y, fun _ => ?_⟩
      obtain ⟨x, T, h1, h2, hT, hcs⟩ := hI.1 z
      rw [h2, show (401 - (sy_i F 83).toInt).toNat = (400 - (sy_i F 83).toInt).toNat + 1 by omega, e34, tg_eq e33]
      show (if kg F0 x.1 = 0 then _ else _) = _
      obtain ⟨c, hc⟩ : ∃ c, c = ((sy_ai F 39).getD (sy_i F 33).toInt.toNat 0).toInt := ⟨_, rfl⟩
      rw [← hc] at hkF nk q0 q1 q2 q3 q4 q5
      have j0 : ¬ km c = 0 := fun y => by have := km_0.mp y; omega
      have j1 : sOne (kg F0) (vg F0) (ng F0) x = .inl (1, x.1) := by
        unfold sOne
        rw [← h1.1, hkF, if_neg (fun y => by have := (km_w (by decide) (by decide)).mp y; omega), if_neg (fun y => by have := (km_w (by decide) (by decide)).mp y; omega), if_neg (fun y => by rcases y with y | y <;> (have := (km_w (by decide) (by decide)).mp y; omega)), if_neg (fun y => by have := (km_w (by decide) (by decide)).mp y; omega), if_neg (fun y => by
          have := (km_w (c := c) (k := km c) (by omega) (by omega)).mp rfl
          omega)]
      rw [if_neg (by rw [← h1.1, hkF]; exact j0), j1, h1.1]
      rfl
    · intro q z _ _ nk _ _ q0 q1 q2 q3 q4 q5 F1 hb g e33 e34 e35 e36 e37 e38 eFR eBU a39 a40 e82 e83
      obtain ⟨m, rfl⟩ : ∃ m', m = m' + 1 := ⟨m - 1, by omega⟩
      obtain ⟨x, T, h1, h2, hT, hcs⟩ := hI.1 z
      obtain ⟨c, hc⟩ : ∃ c, c = ((sy_ai F 39).getD (sy_i F 33).toInt.toNat 0).toInt := ⟨_, rfl⟩
      rw [← hc] at hkF nk q0 q1 q2 q3 q4 q5 e83
      have g1 : gc k3_WP F0 F1 := g0.trans (gc_mk (W := k3_WP) hb g (by decide)) (fun _ q => q)
      have eK1 : kg F1 = kg F0 := kg_eq (g1.2 39 (by decide) (by decide))
      have eV1 : vg F1 = vg F0 := vg_eq (g1.2 41 (by decide) (by decide))
      have eN1 : ng F1 = ng F0 := ng_eq (g1.2 41 (by decide) (by decide))
      have eP1 : pg F1 = pg F0 := pg_eq (g1.2 40 (by decide) (by decide))
      have hx1 : rcl (pg F0) 3 4 x F1 := rcl_eq h1 e33 e36 e37 e38 eFR eBU (g 43 (by decide) (by decide))
      have hk1 : kg F1 (tg F1) = km c := by rw [eK1, tg_eq e33]; exact hkF
      have hT1 : rXc 3 T F1 := rXc_eq hT (fun j j1 j2 => g j (by omega) (by intro z; simp at z <;> omega))
      have hcs1 : (sy_i F1 8).toInt ≤ 12 + tg F1 := by rw [nz_fi (g 8 (by decide) (by decide)), tg_eq e33]; exact hcs
      have hkx : kg F0 x.1 = km c := by rw [← h1.1]; exact hkF
      have hk0 : kg F0 x.1 ≠ 0 := by
        rw [hkx]
        exact fun y => by have := km_0.mp y; omega
      have hone : sOne (kg F0) (vg F0) (ng F0) x = sSet (kg F0) (vg F0) (sHi c) x := by
        unfold sOne
        rw [hkx, km_r (by omega) (by omega), if_neg (by omega), if_neg (by omega)]
        unfold sHi
        by_cases z : c = 10
        · rw [if_neg (by omega), if_pos (by omega), if_pos z]
        · rw [if_pos (by omega), if_neg z]
      refine hd_calI (R := fun y F' => gc k3pg_W F1 F' ∧ ac (sSet (kg F1) (vg F1) (sHi (sy_i F1 83).toInt) x) (rcl (pg F1) 3 4) y F' ∧ (y = 1 → stC 5 (sy_i F1 83).toInt F1 F')) (nh := 82) (nv := 84) (s := 3) (s1 := 3) (d1 := 5) (M1 := jm_M35) (As := [.inl (.ref 30), .inr (.inl 83)]) (rest := []) jm_ok31 rfl rfl (by decide) (by decide +kernel) (k3vg_T X1 X2 F1 hb (sy_i F1 83) (by omega) (by rw [hk1, e83]) x (by rw [eP1]; exact hx1)) (fun F3 F' y hR p1 p2 p3 => ?_)
      obtain ⟨r1, r2, r3⟩ := hR
      rw [eK1, eV1, eP1, e83, ← hone] at r2
      have r1 := r1.dst p1
      have r2 : ac (sOne (kg F0) (vg F0) (ng F0) x) (rcl (pg F0) 3 4) y F3 := ac_sub r2 p1 (fun a h => rcl_eq h (nz_fi (p1 33 (by decide))) (nz_fi (p1 36 (by decide))) (nz_fi (p1 37 (by decide))) (nz_fi (p1 38 (by decide))) (nz_fi (p1 3 (by decide))) (nz_fi (p1 4 (by decide))) (p1 43 (by decide)))
      have g3 : gc k3_WP F0 F3 := g1.trans r1 (by decide)
      have hy : sy_i F3 84 = y := zz_i p3
      have k82 := nz_fi (p2 82 (by decide) (by decide))
      have hI3 := rrZ_on (b := 3) (n := (sy_i F 83).toInt) (by omega) (by omega) hk0 h2 r2 (fun zy => by
        have zn := stC_dst (r3 zy) p1 (by decide)
        have zc := rXc_st (b := 3) (a := (sy_i F1 83).toInt) (by omega) (by rw [hk1, e83, km_r (by omega) (by omega)]) hT1 zn (fun j j1 j2 j3 => r1.2 j (by omega) (by intro z; simp [k3pg_W] at z; omega))
        rw [eK1, eV1, hx1.1] at zc
        exact ⟨zc, by have z1 := zn.1; rw [r1.i (k := 8) (by decide) (by decide)]; omega⟩)
      refine k3pq_171 (by decide) F3 X1 X2 g3.1 (by omega) ?_
      intro F4 hb g d33 d34 d35 d36 d37 d38 dFR dBU b39 b40 d82 d83
      exact k3zq_l hEr m F4 (g3.trans (gc_mk (W := k3_WP) hb g (by decide)) (fun _ q => q)) hJ (by omega) (by omega) (by omega) (rrZ_eq hI3 (by rw [d82, hy]) (by omega) d33 d34 d36 d37 d38 (g 43 (by decide) (by decide)) (fun j j1 j2 => g j (by omega) (by intro z; simp at z <;> omega)))
    · intro q z _ _ nk _ _ q0 q1 q2 q3 F1 hb g e33 e34 e35 e36 e37 e38 eFR eBU a39 a40 e82 e83 e84
      obtain ⟨m, rfl⟩ : ∃ m', m = m' + 1 := ⟨m - 1, by omega⟩
      obtain ⟨x, T, h1, h2, hT, hcs⟩ := hI.1 z
      obtain ⟨c, hc⟩ : ∃ c, c = ((sy_ai F 39).getD (sy_i F 33).toInt.toNat 0).toInt := ⟨_, rfl⟩
      rw [← hc] at hkF nk q0 q1 q2 q3 e83 e84
      have g1 : gc k3_WP F0 F1 := g0.trans (gc_mk (W := k3_WP) hb g (by decide)) (fun _ q => q)
      have eK1 : kg F1 = kg F0 := kg_eq (g1.2 39 (by decide) (by decide))
      have eV1 : vg F1 = vg F0 := vg_eq (g1.2 41 (by decide) (by decide))
      have eN1 : ng F1 = ng F0 := ng_eq (g1.2 41 (by decide) (by decide))
      have eP1 : pg F1 = pg F0 := pg_eq (g1.2 40 (by decide) (by decide))
      have hx1 : rcl (pg F0) 3 4 x F1 := rcl_eq h1 e33 e36 e37 e38 eFR eBU (g 43 (by decide) (by decide))
      have hk1 : kg F1 (tg F1) = km c := by rw [eK1, tg_eq e33]; exact hkF
      have hT1 : rXc 3 T F1 := rXc_eq hT (fun j j1 j2 => g j (by omega) (by intro z; simp at z <;> omega))
      have hcs1 : (sy_i F1 8).toInt ≤ 12 + tg F1 := by rw [nz_fi (g 8 (by decide) (by decide)), tg_eq e33]; exact hcs
      have hkx : kg F0 x.1 = km c := by rw [← h1.1]; exact hkF
      have hk0 : kg F0 x.1 ≠ 0 := by
        rw [hkx]
        exact fun y => by have := km_0.mp y; omega
      have hone : sOne (kg F0) (vg F0) (ng F0) x = sB (plr (kg F0) x.1) (fun t => .inr (t, x.2)) := by
        unfold sOne
        rw [hkx, km_r (by omega) (by omega), if_neg (by omega), if_neg (by omega), if_neg (by omega), if_neg (by omega), if_pos (by omega)]
        exact plr_eq x
      refine hd_calI (R := fun y F' => plZ 8 17 16 k3_WL (sy_i F1 83).toInt y F1 F') (nh := 82) (nv := 85) (s := 3) (s1 := 3) (d1 := 26) (M1 := jm_M36) (As := [.inl (.ref 30), .inr (.inl 84), .inr (.inl 83)]) (rest := []) jm_ok31 rfl rfl (by decide) (by decide +kernel) (k3pl_TZ X1 X2 F1 (sy_i F1 84) (sy_i F1 83) hb (jx_ok_eq (g 39 (by decide) (by decide)) (g 41 (by decide) (by decide)) hJF) hcs1 (by omega) (by omega) (by omega) (by rw [a39, e33, ← hc, e84])) (fun F3 F' y hR p1 p2 p3 => ?_)
      obtain ⟨r1, r2⟩ := plR_dst hR.1 p1
      have r3 := hR.2
      rw [eK1, hx1.1] at r2
      have r2 : ac (sOne (kg F0) (vg F0) (ng F0) x) (rcl (pg F0) 3 4) y F3 := by
        rcases r2 with ⟨a, b⟩ | ⟨a, b⟩
        · exact Or.inl ⟨a, by rw [hone, b]; rfl⟩
        · refine Or.inr ⟨a, (tg F3, x.2), by rw [hone, b]; rfl, rfl, ?_⟩
          have h := rcl_eq (F1 := fun j => if j = 33 then F1 33 else F3 j) hx1 rfl (nz_fi (r1.2 36 (by decide) (by decide))) (nz_fi (r1.2 37 (by decide) (by decide))) (nz_fi (r1.2 38 (by decide) (by decide))) (nz_fi (r1.2 3 (by decide) (by decide))) (nz_fi (r1.2 4 (by decide) (by decide))) (r1.2 43 (by decide) (by decide))
          obtain ⟨a1, a2, a3, a4, a5, a6⟩ := h
          exact ⟨a2, a3, ncr_eq a4 rfl rfl, wc_eq a5 rfl rfl, a6⟩
      have g3 : gc k3_WP F0 F3 := g1.trans r1 (by decide)
      have hy : sy_i F3 85 = y := zz_i p3
      have k82 := nz_fi (p2 82 (by decide) (by decide))
      have hI3 := rrZ_on (b := 3) (n := (sy_i F 83).toInt) (by omega) (by omega) hk0 h2 r2 (fun zy => by
        have zn := plC_dst (r3 zy) p1 (by decide) (by decide) (by decide)
        have zc := rXc_lw (b := 3) (a := (sy_i F1 83).toInt) (by omega) (nz_bx hb (k := 8) (lo := 0) (hi := 512) rfl).1 (by rw [hk1, e83, km_r (by omega) (by omega)]; omega) hT1 zn (fun j j1 j2 j3 j4 j5 => r1.2 j (by omega) (by intro z; simp [k3_WL] at z; omega))
        rw [eK1, eV1, hx1.1] at zc
        exact ⟨zc, by obtain ⟨-, bs, -, z2, -⟩ := zn; have z1 := z2.2.1; show (sy_i F3 8).toInt ≤ _; omega⟩)
      refine k3pq_146 (by decide) F3 X1 X2 g3.1 (by omega) ?_
      intro F4 hb g d33 d34 d35 d36 d37 d38 dFR dBU b39 b40 d82 d83
      exact k3zq_l hEr m F4 (g3.trans (gc_mk (W := k3_WP) hb g (by decide)) (fun _ q => q)) hJ (by omega) (by omega) (by omega) (rrZ_eq hI3 (by rw [d82, hy]) (by omega) d33 d34 d36 d37 d38 (g 43 (by decide) (by decide)) (fun j j1 j2 => g j (by omega) (by intro z; simp at z <;> omega)))
    · intro q z _ _ nk _ _ q0 q1 F1 hb g e33 e34 e35 e36 e37 e38 eFR eBU a39 a40 e82
      obtain ⟨m, rfl⟩ : ∃ m', m = m' + 1 := ⟨m - 1, by omega⟩
      obtain ⟨x, T, h1, h2, hT, hcs⟩ := hI.1 z
      obtain ⟨c, hc⟩ : ∃ c, c = ((sy_ai F 39).getD (sy_i F 33).toInt.toNat 0).toInt := ⟨_, rfl⟩
      rw [← hc] at hkF nk q0 q1
      have g1 : gc k3_WP F0 F1 := g0.trans (gc_mk (W := k3_WP) hb g (by decide)) (fun _ q => q)
      have eK1 : kg F1 = kg F0 := kg_eq (g1.2 39 (by decide) (by decide))
      have eV1 : vg F1 = vg F0 := vg_eq (g1.2 41 (by decide) (by decide))
      have eN1 : ng F1 = ng F0 := ng_eq (g1.2 41 (by decide) (by decide))
      have eP1 : pg F1 = pg F0 := pg_eq (g1.2 40 (by decide) (by decide))
      have hx1 : rcl (pg F0) 3 4 x F1 := rcl_eq h1 e33 e36 e37 e38 eFR eBU (g 43 (by decide) (by decide))
      have hk1 : kg F1 (tg F1) = km c := by rw [eK1, tg_eq e33]; exact hkF
      have hT1 : rXc 3 T F1 := rXc_eq hT (fun j j1 j2 => g j (by omega) (by intro z; simp at z <;> omega))
      have hcs1 : (sy_i F1 8).toInt ≤ 12 + tg F1 := by rw [nz_fi (g 8 (by decide) (by decide)), tg_eq e33]; exact hcs
      have hkx : kg F0 x.1 = km c := by rw [← h1.1]; exact hkF
      have hk0 : kg F0 x.1 ≠ 0 := by
        rw [hkx]
        exact fun y => by have := km_0.mp y; omega
      have hk2 : kg F1 (tg F1) = 21 := by rw [hk1, q1]; decide
      have hone : sOne (kg F0) (vg F0) (ng F0) x = sBuyer (kg F0) (vg F0) (ng F0) x := by
        unfold sOne
        rw [hkx, if_neg (by rw [q1]; decide), if_pos (by rw [q1]; decide)]
      refine hd_calI (R := fun y F' => gc k3pb_W F1 F' ∧ ac (sBuyer (kg F1) (vg F1) (ng F1) x) (rcl (pg F1) 3 4) y F' ∧ (y = 1 → nbC 4 13 F1 F')) (nh := 82) (nv := 83) (s := 3) (s1 := 3) (d1 := 5) (M1 := jm_M34) (As := [.inl (.ref 30)]) (rest := []) jm_ok31 rfl rfl (by decide) (by decide +kernel) (k3vb_T X1 X2 F1 hb hk2 x (by rw [eP1]; exact hx1)) (fun F3 F' y hR p1 p2 p3 => ?_)
      obtain ⟨r1, r2, r3⟩ := hR
      rw [eK1, eV1, eN1, eP1, ← hone] at r2
      have r1 := r1.dst p1
      have r2 : ac (sOne (kg F0) (vg F0) (ng F0) x) (rcl (pg F0) 3 4) y F3 := ac_sub r2 p1 (fun a h => rcl_eq h (nz_fi (p1 33 (by decide))) (nz_fi (p1 36 (by decide))) (nz_fi (p1 37 (by decide))) (nz_fi (p1 38 (by decide))) (nz_fi (p1 3 (by decide))) (nz_fi (p1 4 (by decide))) (p1 43 (by decide)))
      have g3 : gc k3_WP F0 F3 := g1.trans r1 (by decide)
      have hy : sy_i F3 83 = y := zz_i p3
      have k82 := nz_fi (p2 82 (by decide) (by decide))
      have hI3 := rrZ_on (b := 3) (n := (sy_i F 83).toInt) (by omega) (by omega) hk0 h2 r2 (fun zy => by
        have zn := nbC_dst (r3 zy) p1 (by decide) (by decide)
        have zc := rXc_bu (b := 3) hk2 hT1 zn (fun j j1 j2 j3 j4 => r1.2 j (by omega) (by intro z; simp [k3pb_W] at z; omega))
        rw [eK1, eV1, hx1.1] at zc
        exact ⟨zc, by have z1 := zn.1; rw [r1.i (k := 8) (by decide) (by decide)]; omega⟩)
      refine k3pq_118 (by decide) F3 X1 X2 g3.1 (by omega) ?_
      intro F4 hb g d33 d34 d35 d36 d37 d38 dFR dBU b39 b40 d82 d83
      exact k3zq_l hEr m F4 (g3.trans (gc_mk (W := k3_WP) hb g (by decide)) (fun _ q => q)) hJ (by omega) (by omega) (by omega) (rrZ_eq hI3 (by rw [d82, hy]) (by omega) d33 d34 d36 d37 d38 (g 43 (by decide) (by decide)) (fun j j1 j2 => g j (by omega) (by intro z; simp at z <;> omega)))
    · intro q z _ _ nk _ _ q0 F1 hb g e33 e34 e35 e36 e37 e38 eFR eBU a39 a40 e82
      obtain ⟨m, rfl⟩ : ∃ m', m = m' + 1 := ⟨m - 1, by omega⟩
      obtain ⟨x, T, h1, h2, hT, hcs⟩ := hI.1 z
      obtain ⟨c, hc⟩ : ∃ c, c = ((sy_ai F 39).getD (sy_i F 33).toInt.toNat 0).toInt := ⟨_, rfl⟩
      rw [← hc] at hkF nk q0
      have g1 : gc k3_WP F0 F1 := g0.trans (gc_mk (W := k3_WP) hb g (by decide)) (fun _ q => q)
      have eK1 : kg F1 = kg F0 := kg_eq (g1.2 39 (by decide) (by decide))
      have eV1 : vg F1 = vg F0 := vg_eq (g1.2 41 (by decide) (by decide))
      have eN1 : ng F1 = ng F0 := ng_eq (g1.2 41 (by decide) (by decide))
      have eP1 : pg F1 = pg F0 := pg_eq (g1.2 40 (by decide) (by decide))
      have hx1 : rcl (pg F0) 3 4 x F1 := rcl_eq h1 e33 e36 e37 e38 eFR eBU (g 43 (by decide) (by decide))
      have hk1 : kg F1 (tg F1) = km c := by rw [eK1, tg_eq e33]; exact hkF
      have hT1 : rXc 3 T F1 := rXc_eq hT (fun j j1 j2 => g j (by omega) (by intro z; simp at z <;> omega))
      have hcs1 : (sy_i F1 8).toInt ≤ 12 + tg F1 := by rw [nz_fi (g 8 (by decide) (by decide)), tg_eq e33]; exact hcs
      have hkx : kg F0 x.1 = km c := by rw [← h1.1]; exact hkF
      have hk0 : kg F0 x.1 ≠ 0 := by
        rw [hkx]
        exact fun y => by have := km_0.mp y; omega
      have hk2 : kg F1 (tg F1) = 20 := by rw [hk1, q0]; decide
      have hone : sOne (kg F0) (vg F0) (ng F0) x = sFruit (kg F0) (vg F0) (ng F0) x := by
        unfold sOne
        rw [hkx, if_pos (by rw [q0]; decide)]
      refine hd_calI (R := fun y F' => gc k3pf_W F1 F' ∧ ac (sFruit (kg F1) (vg F1) (ng F1) x) (rcl (pg F1) 3 4) y F' ∧ (y = 1 → nbC 3 9 F1 F')) (nh := 82) (nv := 83) (s := 3) (s1 := 3) (d1 := 5) (M1 := jm_M33) (As := [.inl (.ref 30)]) (rest := []) jm_ok31 rfl rfl (by decide) (by decide +kernel) (k3vf_T X1 X2 F1 hb hk2 x (by rw [eP1]; exact hx1)) (fun F3 F' y hR p1 p2 p3 => ?_)
      obtain ⟨r1, r2, r3⟩ := hR
      rw [eK1, eV1, eN1, eP1, ← hone] at r2
      have r1 := r1.dst p1
      have r2 : ac (sOne (kg F0) (vg F0) (ng F0) x) (rcl (pg F0) 3 4) y F3 := ac_sub r2 p1 (fun a h => rcl_eq h (nz_fi (p1 33 (by decide))) (nz_fi (p1 36 (by decide))) (nz_fi (p1 37 (by decide))) (nz_fi (p1 38 (by decide))) (nz_fi (p1 3 (by decide))) (nz_fi (p1 4 (by decide))) (p1 43 (by decide)))
      have g3 : gc k3_WP F0 F3 := g1.trans r1 (by decide)
      have hy : sy_i F3 83 = y := zz_i p3
      have k82 := nz_fi (p2 82 (by decide) (by decide))
      have hI3 := rrZ_on (b := 3) (n := (sy_i F 83).toInt) (by omega) (by omega) hk0 h2 r2 (fun zy => by
        have zn := nbC_dst (r3 zy) p1 (by decide) (by decide)
        have zc := rXc_fr (b := 3) hk2 hT1 zn (fun j j1 j2 j3 => r1.2 j (by omega) (by intro z; simp [k3pf_W] at z; omega))
        rw [eK1, eV1, hx1.1] at zc
        exact ⟨zc, by have z1 := zn.1; rw [r1.i (k := 8) (by decide) (by decide)]; omega⟩)
      refine k3pq_103 (by decide) F3 X1 X2 g3.1 (by omega) ?_
      intro F4 hb g d33 d34 d35 d36 d37 d38 dFR dBU b39 b40 d82 d83
      exact k3zq_l hEr m F4 (g3.trans (gc_mk (W := k3_WP) hb g (by decide)) (fun _ q => q)) hJ (by omega) (by omega) (by omega) (rrZ_eq hI3 (by rw [d82, hy]) (by omega) d33 d34 d36 d37 d38 (g 43 (by decide) (by decide)) (fun j j1 j2 => g j (by omega) (by intro z; simp at z <;> omega)))
end PZk3
theorem k0zpy_9T {Ls : Nat} {xs : Nat → Int32} (X1 X2 : List jm_c) (F : Nat → sy_d) (hB : iv_in F iv_B0) (hJ : jx_ok F) : hd_W Ls xs 28 jm_M31 (fun v G => ∃ (x : Int32) (F' : Nat → sy_d), v = some (.int x) ∧ G = sy_dh F' X1 X2 (iv_H 0) ∧ gc (35 :: k0_WP) F F' ∧ x.toInt = (sEnd (pg F) (sRun (kg F) (vg F) (ng F) 401 (0, 0, 0, [], (0, 0)))).1 ∧ (sy_i F' 35).toInt = (sEnd (pg F) (sRun (kg F) (vg F) (ng F) 401 (0, 0, 0, [], (0, 0)))).2 ∧ (x.toInt = 0 → rXc 18 (cnT (zRun (kg F) (vg F) (ng F) 401 (0, 0, 0, [], (0, 0)) T0)) F' ∧ (sy_i F' 23).toInt ≤ 412)) (9, sy_dL F [some (.inl (.ref 30)), none, none, some (.inl (.ref 20)), none, none, none], sy_dS F [], sy_dh F X1 X2 (iv_H 0), 0, 0) := by
  refine k0zpy_9 (by decide) F X1 X2 hB ?_
  intro F1 hb g e33 e34 e36 e37 e38 eFR eBU eS0 eS1 eS2 eC aL aC e82 e83
  rw [← prT_Run (kg F) (vg F) (ng F) 401 (0, 0, 0, [], (0, 0)) T0]
  refine k0zq_l X1 X2 F _ (fun e he => okE_Run _ _ _ _ _ _ e he) 401 F1 (gc_mk hb g (by decide)) hJ (by omega) (by omega) (by omega) ⟨fun _ => ⟨(0, 0, 0, [], (0, 0)), T0, ⟨by unfold tg; rw [e33]; rfl, eFR, eBU, ?_, ⟨e36, (show (0 : Int) ≤ 0 by decide), fun z => absurd rfl z, fun _ => e37⟩, by rw [e38]; decide⟩, by rw [e83]; rfl, rX_0 (b := 18) eFR eBU eS0 eS1 eS2 eC aL aC, by show (sy_i F1 23).toInt ≤ _; omega⟩, fun z => by omega⟩
  show ∀ y, y ∈ ([] : List Int64) ↔ _
  intro y
  rw [e38]
  simp [mlc]
theorem k1zpy_9T {Ls : Nat} {xs : Nat → Int32} (X1 X2 : List jm_c) (F : Nat → sy_d) (hB : iv_in F iv_B0) (hJ : jx_ok F) : hd_W Ls xs 28 jm_M31 (fun v G => ∃ (x : Int32) (F' : Nat → sy_d), v = some (.int x) ∧ G = sy_dh F' X1 X2 (iv_H 0) ∧ gc (35 :: k0_WP) F F' ∧ x.toInt = (sEnd (pg F) (sRun (kg F) (vg F) (ng F) 401 (0, 0, 0, [], (0, 0)))).1 ∧ (sy_i F' 35).toInt = (sEnd (pg F) (sRun (kg F) (vg F) (ng F) 401 (0, 0, 0, [], (0, 0)))).2 ∧ (x.toInt = 0 → rXc 18 (cnT (zRun (kg F) (vg F) (ng F) 401 (0, 0, 0, [], (0, 0)) T0)) F' ∧ (sy_i F' 23).toInt ≤ 412)) (9, sy_dL F [some (.inl (.ref 30)), none, none, some (.inl (.ref 20)), none, none, none], sy_dS F [], sy_dh F X1 X2 (iv_H 1), 0, 0) := by
  refine k1zpy_9 (by decide) F X1 X2 hB ?_
  intro F1 hb g e33 e34 e36 e37 e38 eFR eBU eS0 eS1 eS2 eC aL aC e82 e83
  rw [← prT_Run (kg F) (vg F) (ng F) 401 (0, 0, 0, [], (0, 0)) T0]
  refine k0zq_l X1 X2 F _ (fun e he => okE_Run _ _ _ _ _ _ e he) 401 F1 (gc_mk hb g (by decide)) hJ (by omega) (by omega) (by omega) ⟨fun _ => ⟨(0, 0, 0, [], (0, 0)), T0, ⟨by unfold tg; rw [e33]; rfl, eFR, eBU, ?_, ⟨e36, (show (0 : Int) ≤ 0 by decide), fun z => absurd rfl z, fun _ => e37⟩, by rw [e38]; decide⟩, by rw [e83]; rfl, rX_0 (b := 18) eFR eBU eS0 eS1 eS2 eC aL aC, by show (sy_i F1 23).toInt ≤ _; omega⟩, fun z => by omega⟩
  show ∀ y, y ∈ ([] : List Int64) ↔ _
  intro y
  rw [e38]
  simp [mlc]
theorem k2zpy_9T {Ls : Nat} {xs : Nat → Int32} (X1 X2 : List jm_c) (F : Nat → sy_d) (hB : iv_in F iv_B0) (hJ : jx_ok F) : hd_W Ls xs 28 jm_M31 (fun v G => ∃ (x : Int32) (F' : Nat → sy_d), v = some (.int x) ∧ G = sy_dh F' X1 X2 (iv_H 3) ∧ gc (35 :: k3_WP) F F' ∧ x.toInt = (sEnd (pg F) (sRun (kg F) (vg F) (ng F) 401 (0, 0, 0, [], (0, 0)))).1 ∧ (sy_i F' 35).toInt = (sEnd (pg F) (sRun (kg F) (vg F) (ng F) 401 (0, 0, 0, [], (0, 0)))).2 ∧ (x.toInt = 0 → rXc 3 (cnT (zRun (kg F) (vg F) (ng F) 401 (0, 0, 0, [], (0, 0)) T0)) F' ∧ (sy_i F' 8).toInt ≤ 412)) (9, sy_dL F [some (.inl (.ref 30)), none, none, some (.inl (.ref 10)), none, none, none], sy_dS F [], sy_dh F X1 X2 (iv_H 2), 0, 0) := by
  refine k2zpy_9 (by decide) F X1 X2 hB ?_
  intro F1 hb g e33 e34 e36 e37 e38 eFR eBU eS0 eS1 eS2 eC aL aC e82 e83
  rw [← prT_Run (kg F) (vg F) (ng F) 401 (0, 0, 0, [], (0, 0)) T0]
  refine k3zq_l X1 X2 F _ (fun e he => okE_Run _ _ _ _ _ _ e he) 401 F1 (gc_mk hb g (by decide)) hJ (by omega) (by omega) (by omega) ⟨fun _ => ⟨(0, 0, 0, [], (0, 0)), T0, ⟨by unfold tg; rw [e33]; rfl, eFR, eBU, ?_, ⟨e36, (show (0 : Int) ≤ 0 by decide), fun z => absurd rfl z, fun _ => e37⟩, by rw [e38]; decide⟩, by rw [e83]; rfl, rX_0 (b := 3) eFR eBU eS0 eS1 eS2 eC aL aC, by show (sy_i F1 8).toInt ≤ _; omega⟩, fun z => by omega⟩
  show ∀ y, y ∈ ([] : List Int64) ↔ _
  intro y
  rw [e38]
  simp [mlc]
theorem k3zpy_9T {Ls : Nat} {xs : Nat → Int32} (X1 X2 : List jm_c) (F : Nat → sy_d) (hB : iv_in F iv_B0) (hJ : jx_ok F) : hd_W Ls xs 28 jm_M31 (fun v G => ∃ (x : Int32) (F' : Nat → sy_d), v = some (.int x) ∧ G = sy_dh F' X1 X2 (iv_H 3) ∧ gc (35 :: k3_WP) F F' ∧ x.toInt = (sEnd (pg F) (sRun (kg F) (vg F) (ng F) 401 (0, 0, 0, [], (0, 0)))).1 ∧ (sy_i F' 35).toInt = (sEnd (pg F) (sRun (kg F) (vg F) (ng F) 401 (0, 0, 0, [], (0, 0)))).2 ∧ (x.toInt = 0 → rXc 3 (cnT (zRun (kg F) (vg F) (ng F) 401 (0, 0, 0, [], (0, 0)) T0)) F' ∧ (sy_i F' 8).toInt ≤ 412)) (9, sy_dL F [some (.inl (.ref 30)), none, none, some (.inl (.ref 10)), none, none, none], sy_dS F [], sy_dh F X1 X2 (iv_H 3), 0, 0) := by
  refine k3zpy_9 (by decide) F X1 X2 hB ?_
  intro F1 hb g e33 e34 e36 e37 e38 eFR eBU eS0 eS1 eS2 eC aL aC e82 e83
  rw [← prT_Run (kg F) (vg F) (ng F) 401 (0, 0, 0, [], (0, 0)) T0]
  refine k3zq_l X1 X2 F _ (fun e he => okE_Run _ _ _ _ _ _ e he) 401 F1 (gc_mk hb g (by decide)) hJ (by omega) (by omega) (by omega) ⟨fun _ => ⟨(0, 0, 0, [], (0, 0)), T0, ⟨by unfold tg; rw [e33]; rfl, eFR, eBU, ?_, ⟨e36, (show (0 : Int) ≤ 0 by decide), fun z => absurd rfl z, fun _ => e37⟩, by rw [e38]; decide⟩, by rw [e83]; rfl, rX_0 (b := 3) eFR eBU eS0 eS1 eS2 eC aL aC, by show (sy_i F1 8).toInt ≤ _; omega⟩, fun z => by omega⟩
  show ∀ y, y ∈ ([] : List Int64) ↔ _
  intro y
  rw [e38]
  simp [mlc]
end
section
/-! ===== what a text is put as looks at no token behind the first that ends it ===== -/
section CZ
variable {K K' V V' : Nat → Int} {N N' : Nat → Int64} {L : Nat}
abbrev cgP {A : Type} (L : Nat) (p : Nat × A) : Prop := p.1 ≤ L
theorem cg_cM (H : cH K K' V V' N N' L) : ∀ (n t : Nat) (W : List Int) (m : Nat) (O : List rO), t ≤ L → cg L (cgP L) (cM K V n t W m O) (cM K' V' n t W m O)
  | 0, t, W, m, O, h => cg_r h
  | n + 1, t, W, m, O, h => by
    have hV := H.2.2.1 t h
    unfold cM
    rw [← H.1 t h]
    by_cases hm : m = 0
    · rw [if_pos hm, if_pos hm]
      by_cases h6 : K t = 6
      · rw [if_pos h6, if_pos h6]
        by_cases ho : opn W = 6
        · rw [if_pos ho, if_pos ho]; exact cg_l h
        · rw [if_neg ho, if_neg ho]
          by_cases h4 : t = 400
          · rw [if_pos h4, if_pos h4]; exact cg_l h
          · rw [if_neg h4, if_neg h4]; exact cg_cM H n _ _ _ _ (cg_n H h (by omega) (by omega) h4)
      · rw [if_neg h6, if_neg h6]
        by_cases h2 : K t = 2
        · rw [if_pos h2, if_pos h2, hV h2]
          by_cases h4 : t = 400
          · rw [if_pos h4, if_pos h4]; exact cg_l h
          · rw [if_neg h4, if_neg h4]; exact cg_cM H n _ _ _ _ (cg_n H h (by omega) (by omega) h4)
        · rw [if_neg h2, if_neg h2]
          by_cases h3 : 34 ≤ K t ∧ K t ≤ 42
          · rw [if_pos h3, if_pos h3]
            by_cases h4 : t = 400
            · rw [if_pos h4, if_pos h4]; exact cg_l h
            · rw [if_neg h4, if_neg h4]; exact cg_cM H n _ _ _ _ (cg_n H h (by omega) (by omega) h4)
          · rw [if_neg h3, if_neg h3]; exact cg_l h
    · rw [if_neg hm, if_neg hm]
      by_cases h7 : K t = 7 ∧ 0 < opn W
      · rw [if_pos h7, if_pos h7]
        by_cases h4 : t = 400
        · rw [if_pos h4, if_pos h4]; exact cg_l h
        · rw [if_neg h4, if_neg h4]; exact cg_cM H n _ _ _ _ (cg_n H h (by omega) (by omega) h4)
      · rw [if_neg h7, if_neg h7]
        by_cases hb : K t = 8 ∨ K t = 9 ∨ K t = 10 ∨ K t = 15
        · rw [if_pos hb, if_pos hb]
          by_cases h4 : t = 400
          · rw [if_pos h4, if_pos h4]; exact cg_l h
          · rw [if_neg h4, if_neg h4]; exact cg_cM H n _ _ _ _ (cg_n H h (by omega) (by omega) h4)
        · rw [if_neg hb, if_neg hb]
          by_cases ho : 0 < opn W
          · rw [if_pos ho]; exact cg_l h
          · rw [if_neg ho]; exact cg_r h
theorem cg_cX (H : cH K K' V V' N N' L) {t : Nat} (h : t ≤ L) : cg L (cgP L) (cX K V t [] 0 []) (cX K' V' t [] 0 []) := cg_cM H _ _ _ _ _ h
theorem cg_zL (H : cH K K' V V' N N' L) {acc : List bRT} {t : Nat} (h : t ≤ L) : cg L (cgP L) (zLast K V acc t) (zLast K' V' acc t) := cg_B (cg_cX H h) (fun p hp => cg_B (cg_M H hp (by decide) (by decide)) (fun t ht => cg_r ht))
theorem cg_zI (H : cH K K' V V' N N' L) : ∀ (n : Nat) (acc : List bRT) (t : Nat), t ≤ L → cg L (cgP L) (zI K V n acc t) (zI K' V' n acc t)
  | 0, acc, t, h => by
    unfold zI
    rw [← H.1 t h]
    by_cases q : K t = 31
    · rw [if_pos q, if_pos q]; exact cg_l h
    · rw [if_neg q, if_neg q]; exact cg_zL H h
  | n + 1, acc, t, h => by
    unfold zI
    rw [← H.1 t h]
    by_cases q : K t = 31
    · rw [if_pos q, if_pos q]
      exact cg_B (cg_G H h (by omega) (by omega)) (fun t ht => cg_B (cg_cX H ht) (fun p hp => cg_B (cg_M H hp (by decide) (by decide)) (fun t ht => cg_B (cg_cX H ht) (fun p2 hp2 => cg_B (cg_M H hp2 (by decide) (by decide)) (fun t ht => cg_B (cg_cX H ht) (fun p3 hp3 => cg_B (cg_M H hp3 (by decide) (by decide)) (fun t ht => cg_zI H n _ t ht)))))))
    · rw [if_neg q, if_neg q]; exact cg_zL H h
theorem cg_zLw (H : cH K K' V V' N N' L) {t : Nat} (h : t ≤ L) : zLw K V t = zLw K' V' t := (cg_B (cg_M H h (by decide) (by decide)) (fun t ht => cg_zI H 4 [] t ht)).1
theorem sG_r4 {t t' : Nat} (h : sG t = .inr t') : t ≠ 400 := fun q => by
  unfold sG at h
  rw [if_pos q] at h
  cases h
theorem sM_rk {K : Nat → Int} {k : Int} {t t' : Nat} (h : sM K k t = .inr t') : K t = k ∧ t ≠ 400 := by
  unfold sM at h
  by_cases q : K t = k
  · rw [if_pos q] at h
    exact ⟨q, sG_r4 h⟩
  · rw [if_neg q] at h
    cases h
theorem sB_inr {A B : Type} {r : sE ⊕ A} {f : A → sE ⊕ B} {b : B} (h : sB r f = .inr b) : ∃ a, r = .inr a ∧ f a = .inr b := by
  cases r with
  | inl e => cases h
  | inr a => exact ⟨a, rfl, h⟩
theorem sN_rk {lo hi : Int} {q q' : Nat × sE} (h : sN K V lo hi q = .inr q') : K q.1 = 2 ∧ q.1 ≠ 400 ∧ q'.1 = q.1 + 1 := by
  obtain ⟨t, h1, h2⟩ := sB_inr h
  have h3 := sM_rk h1
  exact ⟨h3.1, h3.2, by rw [← Sum.inr.inj h2]; exact sM_r h1⟩
theorem sTell_rk {a b c : Int × Int} {t : Nat} {nm : List Int64} {w : sE} {q' : Nat × sE} (h : sTell K V N a b c (t, nm, w) = .inr q') : K t = 1 ∧ t ≠ 400 ∧ K (t + 1) = 2 ∧ t + 1 ≠ 400 ∧ K (t + 2) = 2 ∧ t + 2 ≠ 400 ∧ K (t + 3) = 2 := by
  obtain ⟨q1, h1, h⟩ := sB_inr h
  obtain ⟨q2, h2, h⟩ := sB_inr h
  obtain ⟨q3, h3, h⟩ := sB_inr h
  obtain ⟨q4, h4, h⟩ := sB_inr h
  have e1 := sNm_rc h1
  obtain ⟨t1, k1, -⟩ := sB_inr h1
  have k1 := sM_rk k1
  have k2 := sN_rk h2
  have k3 := sN_rk h3
  have k4 := sN_rk h4
  rw [k2.2.2, e1] at k3
  rw [k3.2.2] at k4
  rw [e1] at k2
  exact ⟨k1.1, k1.2, k2.1, k2.2.1, k3.1, k3.2.1, k4.1⟩
/-- what one piece puts is the same, if it is one -/
theorem cg_tU (H : cH K K' V V' N N' L) {x x' : sT} {T : tX} (h : cgX L x) (h0 : K x.1 ≠ 0) (hr : sOne K V N x = .inr x') : tU K V x.1 T = tU K' V' x.1 T := by
  have e := H.1 x.1 h.1
  have hV := H.2.2.1
  unfold tU
  rw [← e]
  unfold sOne at hr
  by_cases q0 : K x.1 = 20
  · rw [if_pos q0] at hr
    rw [if_pos q0, if_pos q0]
    unfold sFruit at hr
    by_cases q7 : x.2.1 = 7
    · rw [if_pos q7] at hr
      cases hr
    rw [if_neg q7] at hr
    obtain ⟨t, h1, hr⟩ := sB_inr hr
    obtain ⟨q, h2, -⟩ := sB_inr hr
    have e1 := sG_r h1
    subst e1
    obtain ⟨k1, n1, k2, n2, k3, n3, k4⟩ := sTell_rk h2
    have l1 := cg_n H h.1 (by omega) (by omega) (sG_r4 h1)
    have l2 := cg_n H l1 (by omega) (by omega) n1
    have l3 : x.1 + 1 + 2 ≤ L := cg_n (t := x.1 + 1 + 1) H l2 (by rw [k2]; decide) (by rw [k2]; decide) n2
    have l4 : x.1 + 1 + 3 ≤ L := cg_n (t := x.1 + 1 + 2) H l3 (by rw [k3]; decide) (by rw [k3]; decide) n3
    rw [hV _ l2 k2, hV _ l3 k3, hV _ l4 k4]
  · rw [if_neg q0] at hr
    rw [if_neg q0, if_neg q0]
    by_cases q1 : K x.1 = 21
    · rw [if_pos q1] at hr
      rw [if_pos q1, if_pos q1]
      unfold sBuyer at hr
      by_cases q7 : x.2.2.1 = 4
      · rw [if_pos q7] at hr
        cases hr
      rw [if_neg q7] at hr
      obtain ⟨t, h1, hr⟩ := sB_inr hr
      obtain ⟨q, h2, -⟩ := sB_inr hr
      have e1 := sG_r h1
      subst e1
      obtain ⟨k1, n1, k2, n2, k3, n3, k4⟩ := sTell_rk h2
      have l1 := cg_n H h.1 (by omega) (by omega) (sG_r4 h1)
      have l2 := cg_n H l1 (by omega) (by omega) n1
      have l3 : x.1 + 1 + 2 ≤ L := cg_n (t := x.1 + 1 + 1) H l2 (by rw [k2]; decide) (by rw [k2]; decide) n2
      have l4 : x.1 + 1 + 3 ≤ L := cg_n (t := x.1 + 1 + 2) H l3 (by rw [k3]; decide) (by rw [k3]; decide) n3
      rw [hV _ l2 k2, hV _ l3 k3, hV _ l4 k4]
    · rw [if_neg q1] at hr
      rw [if_neg q1, if_neg q1]
      have key : ∀ hi, sSet K V hi x = .inr x' → (28 ≤ K x.1 ∧ K x.1 ≤ 30) → V (x.1 + 1) = V' (x.1 + 1) := fun hi hr hk => by
        obtain ⟨q, h1, -⟩ := sB_inr hr
        obtain ⟨t, h2, h3⟩ := sB_inr h1
        obtain ⟨q2, h4, -⟩ := sB_inr h3
        have e1 := sG_r h2
        subst e1
        have k2 := sN_rk h4
        exact hV _ (cg_n H h.1 (by omega) (by omega) (sG_r4 h2)) k2.1
      by_cases q2 : K x.1 = 28
      · rw [if_pos (Or.inl q2)] at hr
        rw [if_pos q2, if_pos q2, key _ hr (by omega)]
      · rw [if_neg q2, if_neg q2]
        by_cases q3 : K x.1 = 29
        · rw [if_pos (Or.inr q3)] at hr
          rw [if_pos q3, if_pos q3, key _ hr (by omega)]
        · rw [if_neg (by omega)] at hr
          rw [if_neg q3, if_neg q3]
          by_cases q4 : K x.1 = 30
          · rw [if_pos q4] at hr
            rw [if_pos q4, if_pos q4, key _ hr (by omega)]
          · rw [if_neg q4] at hr
            rw [if_neg q4, if_neg q4]
            by_cases q5 : 22 ≤ K x.1 ∧ K x.1 ≤ 27
            · rw [if_pos q5] at hr
              obtain ⟨t, h1, -⟩ := sB_inr hr
              have e1 := sG_r h1
              subst e1
              rw [cg_zLw H (cg_n H h.1 (by omega) (by omega) (sG_r4 h1))]
            · rw [if_neg q5] at hr
              cases hr
theorem cg_zRun (H : cH K K' V V' N N' L) : ∀ (n : Nat) (x : sT) (T : tX), cgX L x → zRun K V N n x T = zRun K' V' N' n x T
  | 0, x, T, h => rfl
  | n + 1, x, T, h => by
    unfold zRun
    rw [← H.1 _ h.1]
    by_cases q : K x.1 = 0
    · rw [if_pos q, if_pos q]
    · rw [if_neg q, if_neg q]
      have ho := cg_One H h
      have h1 := ho.1
      have h2 := ho.2
      cases hr : sOne K V N x with
      | inl e =>
        rw [hr] at h1
        rw [← h1]
        rfl
      | inr y =>
        rw [hr] at h1 h2
        rw [← h1]
        show zRun K V N n y _ = zRun K' V' N' n y _
        rw [cg_tU H h q hr]
        exact cg_zRun H n y _ h2
end CZ
/-- what a text is put as -/
noncomputable def rdT (b : Nat → Int) (n : Nat) : tX := cnT (zRun (cK b n (fun k => wls.getD k 0)) (cV b n) (cN b n) 401 (0, 0, 0, [], (0, 0)) T0)
theorem rd_sameT {b : Nat → Int} {n : Nat} {w : Nat → Int64} {K P V : Nat → Int} {N : Nat → Int64} {L : Nat} (hw : w = fun k => wls.getD k 0) (h : ∀ j, j ≤ L → tk b n w K P V N j) (hL : K L = 0 ∨ K L = 3 ∨ L = 400) : cnT (zRun K V N 401 (0, 0, 0, [], (0, 0)) T0) = rdT b n := by
  subst hw
  unfold rdT
  rw [cg_zRun (L := L) ⟨fun j hj => (h j hj).2.1, hL, fun j hj z => (h j hj).2.2.1 z, fun j hj z => (h j hj).2.2.2 z⟩ 401 (0, 0, 0, [], (0, 0)) T0 ⟨Nat.zero_le _, Nat.zero_le _⟩]
  rfl
end
