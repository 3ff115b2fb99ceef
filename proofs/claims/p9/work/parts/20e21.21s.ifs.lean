/-! ===== the class parses an if: the cells ===== -/
theorem sG_r {t t' : Nat} (h : sG t = .inr t') : t' = t + 1 := by
  unfold sG at h
  by_cases q2 : t = 400
  · rw [if_pos q2] at h
    exact absurd h (by simp)
  · rw [if_neg q2] at h
    exact (Sum.inr.inj h).symm
theorem i32_s {x : Int32} (h0 : 0 ≤ x.toInt) (h1 : x.toInt ≤ 512) : (x + 1).toInt = x.toInt + 1 := by
  rw [Int32.toInt_add, show (1 : Int32).toInt = 1 by decide]
  exact Int.bmod_eq_of_le (by omega) (by omega)
theorem clc_push {code : List Int32} {c : Nat} {v : Int32} {L : List Int} (h : clc code c L.length = L) : clc (jm_upd code (c + L.length) v) c (L.length + 1) = L ++ [v.toInt] := by
  show clc _ _ L.length ++ [((jm_upd code (c + L.length) v).getD (c + L.length) 0).toInt] = _
  rw [clc_eq (a := code) _ (fun i _ h2 => by rw [jm_upd_at, if_neg (by omega)]), h, jm_upd_at, if_pos rfl]
theorem Cl_end {cs co : Nat} {F0 F F1 : Nat → sy_d} {A M : List Int} {x : Int} {v w : Int32} {p : Nat} (h0 : 0 ≤ (sy_i F0 cs).toInt) (h : Cl cs co F0 F (A ++ x :: M)) (e1 : (sy_i F1 cs).toInt = (sy_i F cs).toInt + 1) (e2 : sy_ai F1 co = jm_upd (jm_upd (sy_ai F co) ((sy_i F cs).toInt).toNat v) p w) (hp : p = (sy_i F0 cs).toInt.toNat + A.length) (e3 : (sy_i F1 cs).toInt + tg F0 ≤ (sy_i F0 cs).toInt + tg F1) : Cl cs co F0 F1 (A ++ w.toInt :: (M ++ [v.toInt])) := by
  obtain ⟨a1, a2, a3, a4⟩ := h
  have n1 : (A ++ x :: M).length = A.length + (M.length + 1) := by rw [List.length_append]; rfl
  have n2 : (A ++ w.toInt :: (M ++ [v.toInt])).length = A.length + (M.length + 1) + 1 := by simp; omega
  have n3 : (A ++ x :: (M ++ [v.toInt])).length = A.length + (M.length + 1) + 1 := by simp; omega
  have q := clc_push (v := v) a4
  rw [List.append_assoc, List.cons_append, n1] at q
  have q2 := clc_put (v := w) (M ++ [v.toInt]) x A (by rw [n3]; exact q)
  refine ⟨by rw [n2, e1]; rw [n1] at a1; omega, e3, fun i hi => by rw [e2, jm_upd_at, if_neg (by omega), jm_upd_at, if_neg (by omega), a3 i hi], ?_⟩
  rw [n3] at q2
  rw [n2, e2, hp, show ((sy_i F cs).toInt).toNat = (sy_i F0 cs).toInt.toNat + (A.length + (M.length + 1)) by rw [n1] at a1; omega]
  exact q2
abbrev bF : Type := (List bRT → Nat → sE ⊕ (Nat × List bRT)) → List bRT → sE ⊕ (Nat × List bRT)
noncomputable def ziC (cs co : Nat) (R0 : bF) (a : Int) (F0 F' : Nat → sy_d) : Prop := tg F0 < tg F' ∧ ∃ b : bRT, (∀ f acc, R0 f acc = f (acc ++ [b]) (tg F')) ∧ Cl cs co F0 F' (lcs a (sy_i F0 cs).toInt.toNat [b])
noncomputable def piZ (cs co : Nat) (W : List Nat) (a : Int) (x : Int32) (F F' : Nat → sy_d) : Prop := piR W x F F' ∧ (x = 1 → ziC cs co (fun f acc => sB (sG (tg F)) (zc1 (kg F) (vg F) f acc)) a F F')
theorem ziC_dst {cs co : Nat} {R0 : bF} {a : Int} {F0 F F2 : Nat → sy_d} (h : ziC cs co R0 a F0 F) (e : ∀ q, q < 82 → F2 q = F q) (h1 : cs < 82) (h2 : co < 82) : ziC cs co R0 a F0 F2 := by
  obtain ⟨h0, b, hb, hc⟩ := h
  have et := tg_eq (nz_fi (e 33 (by decide)))
  exact ⟨by rw [et]; exact h0, b, fun f acc => by rw [et]; exact hb f acc, Cl_q hc e h1 h2⟩
theorem piZ_src {cs co : Nat} {W : List Nat} {a : Int} {x : Int32} {F F0 F' : Nat → sy_d} (h : piZ cs co W a x F0 F') (e : ∀ q, q < 82 → F0 q = F q) (h1 : cs < 82) (h2 : co < 82) : piZ cs co W a x F F' := by
  refine ⟨piR_src h.1 e, fun z => ?_⟩
  obtain ⟨h0, b, hb, hc⟩ := h.2 z
  have et := tg_eq (nz_fi (e 33 (by decide)))
  rw [kg_eq (e 39 (by decide)), vg_eq (e 41 (by decide)), et] at hb
  rw [nz_fi (e cs h1)] at hc
  exact ⟨by rw [← et]; exact h0, b, hb, Cl_src hc e h1 h2⟩
section IZ0
variable {Ls : Nat} {xs : Nat → Int32} (X1 X2 : List jm_c) (F0 : Nat → sy_d) (r0 : sE ⊕ Nat) (R0 : bF) (al : Int)
theorem k0y94 (hJ0 : jx_ok F0) (hcs0 : (sy_i F0 23).toInt ≤ 12 + tg F0) (cC : 0 ≤ (sy_i F0 23).toInt) (F : Nat → sy_d) (u v w : List rO) (g0 : gc k0_W F0 F) (h82 : 0 ≤ (sy_i F 82).toInt ∧ (sy_i F 82).toInt ≤ 5) (hal : (sy_i F 82).toInt = al) (h83 : 0 ≤ (sy_i F 83).toInt ∧ (sy_i F 83).toInt ≤ 512) (h83e : (sy_i F 83).toInt = (sy_i F0 23).toInt + u.length + v.length + 1) (hr : r0 = i6 (kg F0) (tg F)) (hz : ∀ f acc, R0 f acc = zc6 (kg F0) f acc u v w (tg F)) (hC : Cl 23 32 F0 F ((((u.map (cell al)) ++ (v.map (cell al))) ++ [-15, 0]) ++ (w.map (cell al)))) (hsl : (sy_i F 23).toInt + tg F0 + 1 ≤ (sy_i F0 23).toInt + tg F) (htg : tg F0 < tg F) :
    hd_W Ls xs 25 jm_M37 (fun v G => ∃ (x : Int32) (F' : Nat → sy_d), v = some (.int x) ∧ G = sy_dh F' X1 X2 (iv_H 0) ∧ gc k0_W F0 F' ∧ ((x = 0 ∧ r0 = .inl ((sy_i F' 34).toInt, tg F')) ∨ (x = 1 ∧ r0 = .inr (tg F'))) ∧ (x = 1 → ziC 23 32 R0 al F0 F')) (94, sy_dL F [some (.inl (.ref 30)), some (.inr (.inl 82)), none, some (.inr (.inl 83))], sy_dS F [.inl (.int 13), .inl (.ref 30)], sy_dh F X1 X2 (iv_H 0), 0, 0) := by
  refine hd_calI (R := fun x F' => taR ((13 : Int32)).toInt x F F') (nh := 82) (nv := 84) (s := 0) (s1 := 0) (d1 := 3) (M1 := jm_M43) (As := [.inl (.ref 30), .inl (.int 13)]) (rest := []) jm_ok37 rfl rfl (by decide) (by decide +kernel) (k0ta_T F X1 X2 g0.1 13) (fun F3 F' x hR p1 p2 p3 => ?_)
  have hR : taR 13 x F F' := hR
  obtain ⟨r1, r2⟩ := taR_dst hR p1
  have r2 := r2 (km_in (j := 33) (fun c => km_w (by decide) (by decide)) (by decide))
  rw [show km 13 = 33 by decide, kg_eq (g0.2 39 (by decide) (by decide))] at r2
  have g3 : gc k0_W F0 F3 := g0.trans r1 (by decide)
  have hx : sy_i F3 84 = x := zz_i p3
  have k82 := nz_fi (p2 82 (by decide) (by decide))
  have r2 : (x = 0 ∧ _) ∨ (x = 1 ∧ _) := r2.imp id (fun q => ⟨q.1, q.2.elim (fun a z => by have := z.2; subst this; exact z.1)⟩)
  rw [← hx] at r2
  obtain ⟨y0, y1⟩ := x01 r2
  have ty : (sy_i F3 84).toInt ≠ 0 → tg F3 = tg F + 1 := fun q => sM_r (y1 q)
  have ec : (sy_i F3 23).toInt = (sy_i F 23).toInt := nz_fi (r1.2 23 (by decide) (by decide))
  have ea : sy_ai F3 32 = sy_ai F 32 := nz_fa (r1.2 32 (by decide) (by decide))
  have t4 : (tg F3 : Int) ≤ 400 := by
    have := nz_bx g3.1 (k := 33) (lo := 0) (hi := 400) rfl
    unfold tg
    omega
  have k83 := nz_fi (p2 83 (by decide) (by decide))
  have hC3 := Cl_dst hC ec ea
  have nC := hC.1
  simp only [List.length_append, List.length_map, List.length_cons, List.length_nil] at nC
  have cC3 := nz_bx g3.1 (k := 23) (lo := 0) (hi := 512) rfl
  refine k0zi_97 (by decide) F3 X1 X2 g3.1 (by omega) ?_ ?_ ?_ ?_ ?_
  all_goals intros
  all_goals first
    | (rename_i F4 hb g e33 e34 eC a39 aC
       refine ⟨_, F4, rfl, rfl, g3.trans (gc_mk (W := k0_W) hb g (by decide)) (fun _ q => q), ?_, fun zz => absurd zz (by decide)⟩
       rw [tg_eq e33, e34]
       exact Or.inl ⟨rfl, by rw [hr, i6, y0 (by assumption)]⟩)
    | (have tt := ty (by assumption)
       exfalso
       omega)
    | (rename_i F4 hb g e33 e34 eC a39 aC
       have tt := ty (by assumption)
       have y := y1 (by assumption)
       have te := tg_eq e33
       refine ⟨_, F4, rfl, rfl, g3.trans (gc_mk (W := k0_W) hb g (by decide)) (fun _ q => q), Or.inr ⟨rfl, by rw [te, hr, i6, y]⟩, fun _ => ⟨by omega, (some (u, v), w), fun f acc => by rw [hz, zc6, y, te]; rfl, ?_⟩⟩
       have q := Cl_end (A := u.map (cell al) ++ v.map (cell al) ++ [-15]) (x := 0) (M := w.map (cell al)) cC (by
         have h := hC3 (by omega)
         rw [List.append_assoc, List.append_assoc, show ([-15, 0] : List Int) ++ w.map (cell al) = [-15] ++ (0 :: w.map (cell al)) from rfl, ← List.append_assoc, ← List.append_assoc] at h
         exact h) eC aC (by simp only [List.length_append, List.length_map, List.length_cons, List.length_nil]; omega) (by omega)
       rw [i32_s cC3.1 cC3.2, show ((-14 : Int32)).toInt = -14 by decide] at q
       have e : lcs al (sy_i F0 23).toInt.toNat [(some (u, v), w)] = u.map (cell al) ++ v.map (cell al) ++ [-15] ++ (((sy_i F3 23).toInt + 1) :: (w.map (cell al) ++ [-14])) := by
         show (_ ++ _ ++ [-15, (((sy_i F0 23).toInt.toNat + u.length + v.length + w.length + 3 : Nat) : Int)] ++ _ ++ [-14]) ++ [] = _
         rw [show (((sy_i F0 23).toInt.toNat + u.length + v.length + w.length + 3 : Nat) : Int) = (sy_i F3 23).toInt + 1 by omega]
         simp
       rw [e]
       exact q)
theorem k0y85 (hJ0 : jx_ok F0) (hcs0 : (sy_i F0 23).toInt ≤ 12 + tg F0) (cC : 0 ≤ (sy_i F0 23).toInt) (F : Nat → sy_d) (u v : List rO) (g0 : gc k0_W F0 F) (h82 : 0 ≤ (sy_i F 82).toInt ∧ (sy_i F 82).toInt ≤ 5) (hal : (sy_i F 82).toInt = al) (h83 : 0 ≤ (sy_i F 83).toInt ∧ (sy_i F 83).toInt ≤ 512) (h83e : (sy_i F 83).toInt = (sy_i F0 23).toInt + u.length + v.length + 1) (hr : r0 = i5 (kg F0) (tg F)) (hz : ∀ f acc, R0 f acc = zc5 (kg F0) (vg F0) f acc u v (tg F)) (hC : Cl 23 32 F0 F (((u.map (cell al)) ++ (v.map (cell al))) ++ [-15, 0])) (hsl : (sy_i F 23).toInt + tg F0 + 1 ≤ (sy_i F0 23).toInt + tg F) (htg : tg F0 < tg F) :
    hd_W Ls xs 25 jm_M37 (fun v G => ∃ (x : Int32) (F' : Nat → sy_d), v = some (.int x) ∧ G = sy_dh F' X1 X2 (iv_H 0) ∧ gc k0_W F0 F' ∧ ((x = 0 ∧ r0 = .inl ((sy_i F' 34).toInt, tg F')) ∨ (x = 1 ∧ r0 = .inr (tg F'))) ∧ (x = 1 → ziC 23 32 R0 al F0 F')) (85, sy_dL F [some (.inl (.ref 30)), some (.inr (.inl 82)), none, some (.inr (.inl 83))], sy_dS F [.inl (.int 0), .inr (.inl 82), .inl (.ref 30)], sy_dh F X1 X2 (iv_H 0), 0, 0) := by
  have hJ : jx_ok F := jx_ok_eq (g0.2 39 (by decide) (by decide)) (g0.2 41 (by decide) (by decide)) hJ0
  refine hd_calI (R := fun x F' => zR 23 32 2 k0_W E2 0 (sy_i F 82).toInt x F F') (nh := 82) (nv := 84) (s := 0) (s1 := 0) (d1 := 24) (M1 := jm_M38) (As := [.inl (.ref 30), .inr (.inl 82), .inl (.int 0)]) (rest := []) jm_ok37 rfl rfl (by decide) (by decide +kernel) (k0_sumz X1 X2 F (sy_i F 82) g0.1 hJ (by omega) h82.1 h82.2) (fun F3 F' x hR0 p1 p2 p3 => ?_)
  have hR := hR0.1
  obtain ⟨r1, rl, r2⟩ := pR_dst hR p1
  rw [kg_eq (g0.2 39 (by decide) (by decide))] at r2
  have g3 : gc k0_W F0 F3 := g0.trans r1 (fun _ q => q)
  have c33 := nz_bx g3.1 (k := 33) (lo := 0) (hi := 400) rfl
  have hx : sy_i F3 84 = x := zz_i p3
  have hops : (sy_i F3 84).toInt ≠ 0 → ∃ ops, cX (kg F0) (vg F0) (tg F) [] 0 [] = .inr (tg F3, ops) ∧ Cl 23 32 F F3 (ops.map (cell al)) := fun q => by
    rcases r2 with ⟨q1, -⟩ | ⟨q1, -, -, q4⟩
    · rw [hx, q1] at q
      exact absurd (by decide) q
    · have z := zE_run (zE_dst (hR0.2 q1) p1 (by decide) (by decide)) (by unfold tg; omega) (by rw [kg_eq (g0.2 39 (by decide) (by decide))]; exact q4)
      rw [kg_eq (g0.2 39 (by decide) (by decide)), vg_eq (g0.2 41 (by decide) (by decide)), hal] at z
      exact z
  have r2 : (x = 0 ∧ eX (kg F0) (tg F) 0 0 = .inl ((sy_i F3 34).toInt, tg F3)) ∨ (x = 1 ∧ eX (kg F0) (tg F) 0 0 = .inr (tg F3)) := r2.imp id (fun q => ⟨q.1, q.2.1.trans (eX_e0 (by unfold tg; omega) q.2.2.2)⟩)
  have k82 := nz_fi (p2 82 (by decide) (by decide))
  rw [← hx] at r2
  obtain ⟨y0, y1⟩ := x01 r2
  have t4 : (tg F3 : Int) ≤ 400 := by
    have := nz_bx g3.1 (k := 33) (lo := 0) (hi := 400) rfl
    unfold tg
    omega
  have k83 := nz_fi (p2 83 (by decide) (by decide))
  refine k0zi_88 (by decide) F3 X1 X2 g3.1 ?_ ?_
  all_goals intros
  all_goals first
    | (rename_i F4 hb g e33 e34 eC a39 aC
       refine ⟨_, F4, rfl, rfl, g3.trans (gc_mk (W := k0_W) hb g (by decide)) (fun _ q => q), ?_, fun zz => absurd zz (by decide)⟩
       rw [tg_eq e33, e34]
       exact Or.inl ⟨rfl, by rw [hr, i5, y0 (by assumption)]; rfl⟩)
    | (rename_i F4 hb g e33 e34 eC a39 aC e82 e83
       obtain ⟨w, w1, w2⟩ := hops (by assumption)
       have te := tg_eq e33
       have b2 := w2.2.1
       exact k0y94 X1 X2 F0 r0 R0 al hJ0 hcs0 cC F4 u v w (g3.trans (gc_mk (W := k0_W) hb g (by decide)) (fun _ q => q)) (by omega) (by omega) (by omega) (by omega) (by rw [hr, i5, y1 (by assumption), te]; rfl) (fun f acc => by rw [hz, zc5, w1, te]; rfl) (Cl_dst (Cl_app cC hC w2) eC aC (by omega)) (by omega) (by omega))
theorem k0y39 (hJ0 : jx_ok F0) (hcs0 : (sy_i F0 23).toInt ≤ 12 + tg F0) (cC : 0 ≤ (sy_i F0 23).toInt) (F : Nat → sy_d) (u v : List rO) (g0 : gc k0_W F0 F) (h82 : 0 ≤ (sy_i F 82).toInt ∧ (sy_i F 82).toInt ≤ 5) (hal : (sy_i F 82).toInt = al) (hr : r0 = i4 (kg F0) (tg F)) (hz : ∀ f acc, R0 f acc = zc4 (kg F0) (vg F0) f acc u v (tg F)) (hC : Cl 23 32 F0 F ((u.map (cell al)) ++ (v.map (cell al)))) (hsl : (sy_i F 23).toInt + tg F0 + 2 ≤ (sy_i F0 23).toInt + tg F) (htg : tg F0 < tg F) :
    hd_W Ls xs 25 jm_M37 (fun v G => ∃ (x : Int32) (F' : Nat → sy_d), v = some (.int x) ∧ G = sy_dh F' X1 X2 (iv_H 0) ∧ gc k0_W F0 F' ∧ ((x = 0 ∧ r0 = .inl ((sy_i F' 34).toInt, tg F')) ∨ (x = 1 ∧ r0 = .inr (tg F'))) ∧ (x = 1 → ziC 23 32 R0 al F0 F')) (39, sy_dL F [some (.inl (.ref 30)), some (.inr (.inl 82)), none, none], sy_dS F [.inl (.int 12), .inl (.ref 30)], sy_dh F X1 X2 (iv_H 0), 0, 0) := by
  refine hd_calI (R := fun x F' => taR ((12 : Int32)).toInt x F F') (nh := 82) (nv := 83) (s := 0) (s1 := 0) (d1 := 3) (M1 := jm_M43) (As := [.inl (.ref 30), .inl (.int 12)]) (rest := []) jm_ok37 rfl rfl (by decide) (by decide +kernel) (k0ta_T F X1 X2 g0.1 12) (fun F3 F' x hR p1 p2 p3 => ?_)
  have hR : taR 12 x F F' := hR
  obtain ⟨r1, r2⟩ := taR_dst hR p1
  have r2 := r2 (km_in (j := 32) (fun c => km_w (by decide) (by decide)) (by decide))
  rw [show km 12 = 32 by decide, kg_eq (g0.2 39 (by decide) (by decide))] at r2
  have g3 : gc k0_W F0 F3 := g0.trans r1 (by decide)
  have hx : sy_i F3 83 = x := zz_i p3
  have k82 := nz_fi (p2 82 (by decide) (by decide))
  have r2 : (x = 0 ∧ _) ∨ (x = 1 ∧ _) := r2.imp id (fun q => ⟨q.1, q.2.elim (fun a z => by have := z.2; subst this; exact z.1)⟩)
  rw [← hx] at r2
  obtain ⟨y0, y1⟩ := x01 r2
  have ty : (sy_i F3 83).toInt ≠ 0 → tg F3 = tg F + 1 := fun q => sM_r (y1 q)
  have ec : (sy_i F3 23).toInt = (sy_i F 23).toInt := nz_fi (r1.2 23 (by decide) (by decide))
  have ea : sy_ai F3 32 = sy_ai F 32 := nz_fa (r1.2 32 (by decide) (by decide))
  have t4 : (tg F3 : Int) ≤ 400 := by
    have := nz_bx g3.1 (k := 33) (lo := 0) (hi := 400) rfl
    unfold tg
    omega
  have nC := hC.1
  simp only [List.length_append, List.length_map] at nC
  have cC3 := nz_bx g3.1 (k := 23) (lo := 0) (hi := 512) rfl
  refine k0zi_42 (by decide) F3 X1 X2 g3.1 ?_ ?_ ?_ ?_
  all_goals intros
  all_goals first
    | (rename_i F4 hb g e33 e34 eC a39 aC
       refine ⟨_, F4, rfl, rfl, g3.trans (gc_mk (W := k0_W) hb g (by decide)) (fun _ q => q), ?_, fun zz => absurd zz (by decide)⟩
       rw [tg_eq e33, e34]
       exact Or.inl ⟨rfl, by rw [hr, i4, y0 (by assumption)]; rfl⟩)
    | (have tt := ty (by assumption)
       exfalso
       omega)
    | (rename_i F4 hb g e33 e34 eC a39 aC e82 e83
       have tt := ty (by assumption)
       have y := y1 (by assumption)
       have te := tg_eq e33
       exact k0y85 X1 X2 F0 r0 R0 al hJ0 hcs0 cC F4 u v (g3.trans (gc_mk (W := k0_W) hb g (by decide)) (fun _ q => q)) (by omega) (by omega) (by omega) (by omega) (by rw [hr, i4, y, te]; rfl) (fun f acc => by rw [hz, zc4, y, te]; rfl) (Cl_push2 (v := -15) (w := 0) cC (Cl_dst hC ec ea (by omega)) eC aC (by omega)) (by omega) (by omega))
theorem k0y30 (hJ0 : jx_ok F0) (hcs0 : (sy_i F0 23).toInt ≤ 12 + tg F0) (cC : 0 ≤ (sy_i F0 23).toInt) (F : Nat → sy_d) (u : List rO) (g0 : gc k0_W F0 F) (h82 : 0 ≤ (sy_i F 82).toInt ∧ (sy_i F 82).toInt ≤ 5) (hal : (sy_i F 82).toInt = al) (hr : r0 = i3 (kg F0) (tg F)) (hz : ∀ f acc, R0 f acc = zc3 (kg F0) (vg F0) f acc u (tg F)) (hC : Cl 23 32 F0 F (u.map (cell al))) (hsl : (sy_i F 23).toInt + tg F0 + 2 ≤ (sy_i F0 23).toInt + tg F) (htg : tg F0 < tg F) :
    hd_W Ls xs 25 jm_M37 (fun v G => ∃ (x : Int32) (F' : Nat → sy_d), v = some (.int x) ∧ G = sy_dh F' X1 X2 (iv_H 0) ∧ gc k0_W F0 F' ∧ ((x = 0 ∧ r0 = .inl ((sy_i F' 34).toInt, tg F')) ∨ (x = 1 ∧ r0 = .inr (tg F'))) ∧ (x = 1 → ziC 23 32 R0 al F0 F')) (30, sy_dL F [some (.inl (.ref 30)), some (.inr (.inl 82)), none, none], sy_dS F [.inl (.int 0), .inr (.inl 82), .inl (.ref 30)], sy_dh F X1 X2 (iv_H 0), 0, 0) := by
  have hJ : jx_ok F := jx_ok_eq (g0.2 39 (by decide) (by decide)) (g0.2 41 (by decide) (by decide)) hJ0
  refine hd_calI (R := fun x F' => zR 23 32 2 k0_W E2 0 (sy_i F 82).toInt x F F') (nh := 82) (nv := 83) (s := 0) (s1 := 0) (d1 := 24) (M1 := jm_M38) (As := [.inl (.ref 30), .inr (.inl 82), .inl (.int 0)]) (rest := []) jm_ok37 rfl rfl (by decide) (by decide +kernel) (k0_sumz X1 X2 F (sy_i F 82) g0.1 hJ (by omega) h82.1 h82.2) (fun F3 F' x hR0 p1 p2 p3 => ?_)
  have hR := hR0.1
  obtain ⟨r1, rl, r2⟩ := pR_dst hR p1
  rw [kg_eq (g0.2 39 (by decide) (by decide))] at r2
  have g3 : gc k0_W F0 F3 := g0.trans r1 (fun _ q => q)
  have c33 := nz_bx g3.1 (k := 33) (lo := 0) (hi := 400) rfl
  have hx : sy_i F3 83 = x := zz_i p3
  have hops : (sy_i F3 83).toInt ≠ 0 → ∃ ops, cX (kg F0) (vg F0) (tg F) [] 0 [] = .inr (tg F3, ops) ∧ Cl 23 32 F F3 (ops.map (cell al)) := fun q => by
    rcases r2 with ⟨q1, -⟩ | ⟨q1, -, -, q4⟩
    · rw [hx, q1] at q
      exact absurd (by decide) q
    · have z := zE_run (zE_dst (hR0.2 q1) p1 (by decide) (by decide)) (by unfold tg; omega) (by rw [kg_eq (g0.2 39 (by decide) (by decide))]; exact q4)
      rw [kg_eq (g0.2 39 (by decide) (by decide)), vg_eq (g0.2 41 (by decide) (by decide)), hal] at z
      exact z
  have r2 : (x = 0 ∧ eX (kg F0) (tg F) 0 0 = .inl ((sy_i F3 34).toInt, tg F3)) ∨ (x = 1 ∧ eX (kg F0) (tg F) 0 0 = .inr (tg F3)) := r2.imp id (fun q => ⟨q.1, q.2.1.trans (eX_e0 (by unfold tg; omega) q.2.2.2)⟩)
  have k82 := nz_fi (p2 82 (by decide) (by decide))
  rw [← hx] at r2
  obtain ⟨y0, y1⟩ := x01 r2
  have t4 : (tg F3 : Int) ≤ 400 := by
    have := nz_bx g3.1 (k := 33) (lo := 0) (hi := 400) rfl
    unfold tg
    omega
  refine k0zi_33 (by decide) F3 X1 X2 g3.1 ?_ ?_
  all_goals intros
  all_goals first
    | (rename_i F4 hb g e33 e34 eC a39 aC
       refine ⟨_, F4, rfl, rfl, g3.trans (gc_mk (W := k0_W) hb g (by decide)) (fun _ q => q), ?_, fun zz => absurd zz (by decide)⟩
       rw [tg_eq e33, e34]
       exact Or.inl ⟨rfl, by rw [hr, i3, y0 (by assumption)]; rfl⟩)
    | (rename_i F4 hb g e33 e34 eC a39 aC e82
       obtain ⟨v, w1, w2⟩ := hops (by assumption)
       have te := tg_eq e33
       have b2 := w2.2.1
       exact k0y39 X1 X2 F0 r0 R0 al hJ0 hcs0 cC F4 u v (g3.trans (gc_mk (W := k0_W) hb g (by decide)) (fun _ q => q)) (by omega) (by omega) (by rw [hr, i3, y1 (by assumption), te]; rfl) (fun f acc => by rw [hz, zc3, w1, te]; rfl) (Cl_dst (Cl_app cC hC w2) eC aC (by omega)) (by omega) (by omega))
theorem k0y21 (hJ0 : jx_ok F0) (hcs0 : (sy_i F0 23).toInt ≤ 12 + tg F0) (cC : 0 ≤ (sy_i F0 23).toInt) (F : Nat → sy_d) (u : List rO) (g0 : gc k0_W F0 F) (h82 : 0 ≤ (sy_i F 82).toInt ∧ (sy_i F 82).toInt ≤ 5) (hal : (sy_i F 82).toInt = al) (hr : r0 = i2 (kg F0) (tg F)) (hz : ∀ f acc, R0 f acc = zc2 (kg F0) (vg F0) f acc u (tg F)) (hC : Cl 23 32 F0 F (u.map (cell al))) (hsl : (sy_i F 23).toInt + tg F0 + 1 ≤ (sy_i F0 23).toInt + tg F) (htg : tg F0 < tg F) :
    hd_W Ls xs 25 jm_M37 (fun v G => ∃ (x : Int32) (F' : Nat → sy_d), v = some (.int x) ∧ G = sy_dh F' X1 X2 (iv_H 0) ∧ gc k0_W F0 F' ∧ ((x = 0 ∧ r0 = .inl ((sy_i F' 34).toInt, tg F')) ∨ (x = 1 ∧ r0 = .inr (tg F'))) ∧ (x = 1 → ziC 23 32 R0 al F0 F')) (21, sy_dL F [some (.inl (.ref 30)), some (.inr (.inl 82)), none, none], sy_dS F [.inl (.int 60), .inl (.ref 30)], sy_dh F X1 X2 (iv_H 0), 0, 0) := by
  refine hd_calI (R := fun x F' => taR ((60 : Int32)).toInt x F F') (nh := 82) (nv := 83) (s := 0) (s1 := 0) (d1 := 3) (M1 := jm_M43) (As := [.inl (.ref 30), .inl (.int 60)]) (rest := []) jm_ok37 rfl rfl (by decide) (by decide +kernel) (k0ta_T F X1 X2 g0.1 60) (fun F3 F' x hR p1 p2 p3 => ?_)
  have hR : taR 60 x F F' := hR
  obtain ⟨r1, r2⟩ := taR_dst hR p1
  have r2 := r2 (km_in (j := 13) (fun c => km_13) (by decide))
  rw [show km 60 = 13 by decide, kg_eq (g0.2 39 (by decide) (by decide))] at r2
  have g3 : gc k0_W F0 F3 := g0.trans r1 (by decide)
  have hx : sy_i F3 83 = x := zz_i p3
  have k82 := nz_fi (p2 82 (by decide) (by decide))
  have r2 : (x = 0 ∧ _) ∨ (x = 1 ∧ _) := r2.imp id (fun q => ⟨q.1, q.2.elim (fun a z => by have := z.2; subst this; exact z.1)⟩)
  rw [← hx] at r2
  obtain ⟨y0, y1⟩ := x01 r2
  have ty : (sy_i F3 83).toInt ≠ 0 → tg F3 = tg F + 1 := fun q => sM_r (y1 q)
  have ec : (sy_i F3 23).toInt = (sy_i F 23).toInt := nz_fi (r1.2 23 (by decide) (by decide))
  have ea : sy_ai F3 32 = sy_ai F 32 := nz_fa (r1.2 32 (by decide) (by decide))
  have t4 : (tg F3 : Int) ≤ 400 := by
    have := nz_bx g3.1 (k := 33) (lo := 0) (hi := 400) rfl
    unfold tg
    omega
  refine k0zi_24 (by decide) F3 X1 X2 g3.1 ?_ ?_
  all_goals intros
  all_goals first
    | (rename_i F4 hb g e33 e34 eC a39 aC
       refine ⟨_, F4, rfl, rfl, g3.trans (gc_mk (W := k0_W) hb g (by decide)) (fun _ q => q), ?_, fun zz => absurd zz (by decide)⟩
       rw [tg_eq e33, e34]
       exact Or.inl ⟨rfl, by rw [hr, i2, y0 (by assumption)]; rfl⟩)
    | (rename_i F4 hb g e33 e34 eC a39 aC e82
       have tt := ty (by assumption)
       have y := y1 (by assumption)
       have te := tg_eq e33
       exact k0y30 X1 X2 F0 r0 R0 al hJ0 hcs0 cC F4 u (g3.trans (gc_mk (W := k0_W) hb g (by decide)) (fun _ q => q)) (by omega) (by omega) (by rw [hr, i2, y, te]; rfl) (fun f acc => by rw [hz, zc2, y, te]; rfl) (Cl_dst hC (eC.trans ec) (aC.trans ea) (by omega)) (by omega) (by omega))
theorem k0y12 (hJ0 : jx_ok F0) (hcs0 : (sy_i F0 23).toInt ≤ 12 + tg F0) (cC : 0 ≤ (sy_i F0 23).toInt) (F : Nat → sy_d) (g0 : gc k0_W F0 F) (h82 : 0 ≤ (sy_i F 82).toInt ∧ (sy_i F 82).toInt ≤ 5) (hal : (sy_i F 82).toInt = al) (hr : r0 = i1 (kg F0) (tg F)) (hz : ∀ f acc, R0 f acc = zc1 (kg F0) (vg F0) f acc (tg F)) (hC : Cl 23 32 F0 F []) (hsl : (sy_i F 23).toInt + tg F0 + 1 ≤ (sy_i F0 23).toInt + tg F) (htg : tg F0 < tg F) :
    hd_W Ls xs 25 jm_M37 (fun v G => ∃ (x : Int32) (F' : Nat → sy_d), v = some (.int x) ∧ G = sy_dh F' X1 X2 (iv_H 0) ∧ gc k0_W F0 F' ∧ ((x = 0 ∧ r0 = .inl ((sy_i F' 34).toInt, tg F')) ∨ (x = 1 ∧ r0 = .inr (tg F'))) ∧ (x = 1 → ziC 23 32 R0 al F0 F')) (12, sy_dL F [some (.inl (.ref 30)), some (.inr (.inl 82)), none, none], sy_dS F [.inl (.int 0), .inr (.inl 82), .inl (.ref 30)], sy_dh F X1 X2 (iv_H 0), 0, 0) := by
  have hJ : jx_ok F := jx_ok_eq (g0.2 39 (by decide) (by decide)) (g0.2 41 (by decide) (by decide)) hJ0
  refine hd_calI (R := fun x F' => zR 23 32 2 k0_W E2 0 (sy_i F 82).toInt x F F') (nh := 82) (nv := 83) (s := 0) (s1 := 0) (d1 := 24) (M1 := jm_M38) (As := [.inl (.ref 30), .inr (.inl 82), .inl (.int 0)]) (rest := []) jm_ok37 rfl rfl (by decide) (by decide +kernel) (k0_sumz X1 X2 F (sy_i F 82) g0.1 hJ (by omega) h82.1 h82.2) (fun F3 F' x hR0 p1 p2 p3 => ?_)
  have hR := hR0.1
  obtain ⟨r1, rl, r2⟩ := pR_dst hR p1
  rw [kg_eq (g0.2 39 (by decide) (by decide))] at r2
  have g3 : gc k0_W F0 F3 := g0.trans r1 (fun _ q => q)
  have c33 := nz_bx g3.1 (k := 33) (lo := 0) (hi := 400) rfl
  have hx : sy_i F3 83 = x := zz_i p3
  have hops : (sy_i F3 83).toInt ≠ 0 → ∃ ops, cX (kg F0) (vg F0) (tg F) [] 0 [] = .inr (tg F3, ops) ∧ Cl 23 32 F F3 (ops.map (cell al)) := fun q => by
    rcases r2 with ⟨q1, -⟩ | ⟨q1, -, -, q4⟩
    · rw [hx, q1] at q
      exact absurd (by decide) q
    · have z := zE_run (zE_dst (hR0.2 q1) p1 (by decide) (by decide)) (by unfold tg; omega) (by rw [kg_eq (g0.2 39 (by decide) (by decide))]; exact q4)
      rw [kg_eq (g0.2 39 (by decide) (by decide)), vg_eq (g0.2 41 (by decide) (by decide)), hal] at z
      exact z
  have r2 : (x = 0 ∧ eX (kg F0) (tg F) 0 0 = .inl ((sy_i F3 34).toInt, tg F3)) ∨ (x = 1 ∧ eX (kg F0) (tg F) 0 0 = .inr (tg F3)) := r2.imp id (fun q => ⟨q.1, q.2.1.trans (eX_e0 (by unfold tg; omega) q.2.2.2)⟩)
  have k82 := nz_fi (p2 82 (by decide) (by decide))
  rw [← hx] at r2
  obtain ⟨y0, y1⟩ := x01 r2
  have t4 : (tg F3 : Int) ≤ 400 := by
    have := nz_bx g3.1 (k := 33) (lo := 0) (hi := 400) rfl
    unfold tg
    omega
  refine k0zi_15 (by decide) F3 X1 X2 g3.1 ?_ ?_
  all_goals intros
  all_goals first
    | (rename_i F4 hb g e33 e34 eC a39 aC
       refine ⟨_, F4, rfl, rfl, g3.trans (gc_mk (W := k0_W) hb g (by decide)) (fun _ q => q), ?_, fun zz => absurd zz (by decide)⟩
       rw [tg_eq e33, e34]
       exact Or.inl ⟨rfl, by rw [hr, i1, y0 (by assumption)]; rfl⟩)
    | (rename_i F4 hb g e33 e34 eC a39 aC e82
       obtain ⟨u, w1, w2⟩ := hops (by assumption)
       have te := tg_eq e33
       have b2 := w2.2.1
       exact k0y21 X1 X2 F0 r0 R0 al hJ0 hcs0 cC F4 u (g3.trans (gc_mk (W := k0_W) hb g (by decide)) (fun _ q => q)) (by omega) (by omega) (by rw [hr, i1, y1 (by assumption), te]; rfl) (fun f acc => by rw [hz, zc1, w1, te]; rfl) (Cl_dst (Cl_app cC hC w2) eC aC (by omega)) (by omega) (by omega))
end IZ0
theorem k0pi_TZ {Ls : Nat} {xs : Nat → Int32} (X1 X2 : List jm_c) (F : Nat → sy_d) (a : Int32) (hB : iv_in F iv_B0) (hJ : jx_ok F) (hcs : (sy_i F 23).toInt ≤ 12 + tg F) (a0 : 0 ≤ a.toInt) (a5 : a.toInt ≤ 5) (hk : kg F (tg F) = 31) : jm_T Ls xs 25 jm_M37 [.ref 30, .int a] (sy_dh F X1 X2 (iv_H 0)) 0 0 (fun v G => ∃ (x : Int32) (F' : Nat → sy_d), v = some (.int x) ∧ G = sy_dh F' X1 X2 (iv_H 0) ∧ piZ 23 32 k0_W a.toInt x F F') := by
  refine nx_T (s := 0) (by decide) F X1 X2 (as := [a]) (A := [.inl (.ref 30), .inr (.inl 82)]) jm_ok37 (by decide) rfl ?_
  obtain ⟨F0, hF0⟩ : ∃ F0, F0 = nx 82 F [a] := ⟨_, rfl⟩
  rw [← hF0]
  have k0 : ∀ q, q < 82 → F0 q = F q := by rw [hF0]; exact nx_lt
  have i82 : sy_i F0 82 = a := by rw [hF0]; rfl
  have hB0 := hd_iveq0 hB k0
  have hJ0 : jx_ok F0 := jx_ok_eq (k0 39 (by decide)) (k0 41 (by decide)) hJ
  have hk0 : kg F0 (tg F0) = 31 := by rw [kg_eq (k0 39 (by decide)), tg_eq (nz_fi (k0 33 (by decide)))]; exact hk
  have hcs0 : (sy_i F0 23).toInt ≤ 12 + tg F0 := by rw [nz_fi (k0 23 (by decide)), tg_eq (nz_fi (k0 33 (by decide)))]; exact hcs
  have cC := (nz_bx hB0 (k := 23) (lo := 0) (hi := 512) rfl).1
  clear hF0
  refine hd_W_mono (Q := fun v G => ∃ (x : Int32) (F' : Nat → sy_d), v = some (.int x) ∧ G = sy_dh F' X1 X2 (iv_H 0) ∧ gc k0_W F0 F' ∧ ((x = 0 ∧ sIf (kg F0) (tg F0) = .inl ((sy_i F' 34).toInt, tg F')) ∨ (x = 1 ∧ sIf (kg F0) (tg F0) = .inr (tg F'))) ∧ (x = 1 → ziC 23 32 (fun f acc => sB (sG (tg F0)) (zc1 (kg F0) (vg F0) f acc)) a.toInt F0 F')) ?_ (by
    rintro v G ⟨x, F', rfl, rfl, h1, h2, h3⟩
    exact ⟨x, F', rfl, rfl, piZ_src ⟨⟨h1, fun _ => h2⟩, h3⟩ k0 (by decide) (by decide)⟩)
  refine k0zi_0 (by decide) F0 X1 X2 hB0 ?_
  intro F hb g e33 e34 eC0 a39 aC0 e82
  have g0 : gc k0_W F0 F := gc_mk hb g (by decide)
  have h82 : 0 ≤ (sy_i F 82).toInt ∧ (sy_i F 82).toInt ≤ 5 := by rw [e82, i82]; exact ⟨a0, a5⟩
  have hal : (sy_i F 82).toInt = a.toInt := by rw [e82, i82]
  have hr : sIf (kg F0) (tg F0) = sB (sM (kg F0) 31 (tg F)) (i1 (kg F0)) := by rw [i_eq _ hk0, tg_eq e33]
  have tf := tg_eq e33
  refine hd_calI (R := fun x F' => taR ((11 : Int32)).toInt x F F') (nh := 82) (nv := 83) (s := 0) (s1 := 0) (d1 := 3) (M1 := jm_M43) (As := [.inl (.ref 30), .inl (.int 11)]) (rest := []) jm_ok37 rfl rfl (by decide) (by decide +kernel) (k0ta_T F X1 X2 g0.1 11) (fun F3 F' x hR p1 p2 p3 => ?_)
  have hR : taR 11 x F F' := hR
  obtain ⟨r1, r2⟩ := taR_dst hR p1
  have r2 := r2 (km_in (j := 31) (fun c => km_w (by decide) (by decide)) (by decide))
  rw [show km 11 = 31 by decide, kg_eq (g0.2 39 (by decide) (by decide))] at r2
  have g3 : gc k0_W F0 F3 := g0.trans r1 (by decide)
  have hx : sy_i F3 83 = x := zz_i p3
  have k82 := nz_fi (p2 82 (by decide) (by decide))
  have r2 : (x = 0 ∧ _) ∨ (x = 1 ∧ _) := r2.imp id (fun q => ⟨q.1, q.2.elim (fun a z => by have := z.2; subst this; exact z.1)⟩)
  rw [← hx] at r2
  obtain ⟨y0, y1⟩ := x01 r2
  have ty : (sy_i F3 83).toInt ≠ 0 → tg F3 = tg F + 1 := fun q => sM_r (y1 q)
  have ec : (sy_i F3 23).toInt = (sy_i F 23).toInt := nz_fi (r1.2 23 (by decide) (by decide))
  have ea : sy_ai F3 32 = sy_ai F 32 := nz_fa (r1.2 32 (by decide) (by decide))
  have t4 : (tg F3 : Int) ≤ 400 := by
    have := nz_bx g3.1 (k := 33) (lo := 0) (hi := 400) rfl
    unfold tg
    omega
  refine k0zi_6 (by decide) F3 X1 X2 g3.1 ?_ ?_
  all_goals intros
  all_goals first
    | (rename_i F4 hb g e33 e34 eC a39 aC
       refine ⟨_, F4, rfl, rfl, g3.trans (gc_mk (W := k0_W) hb g (by decide)) (fun _ q => q), ?_, fun zz => absurd zz (by decide)⟩
       rw [tg_eq e33, e34]
       exact Or.inl ⟨rfl, by rw [hr, y0 (by assumption)]; rfl⟩)
    | (rename_i F4 hb g e33 e34 eC a39 aC e82
       have tt := ty (by assumption)
       have y := y1 (by assumption)
       have te := tg_eq e33
       exact k0y12 X1 X2 F0 _ _ a.toInt hJ0 hcs0 cC F4 (g3.trans (gc_mk (W := k0_W) hb g (by decide)) (fun _ q => q)) (by omega) (by omega) (by rw [hr, y, te]; rfl) (fun f acc => by
         show sB (sG (tg F0)) _ = _
         rw [show sG (tg F0) = .inr (tg F3) by rw [← y, tf]; unfold sM; rw [if_pos hk0], te]
         rfl) (Cl_dst Cl_nil ((eC.trans ec).trans eC0) ((aC.trans ea).trans aC0) (by omega)) (by omega) (by omega))
section IZ3
variable {Ls : Nat} {xs : Nat → Int32} (X1 X2 : List jm_c) (F0 : Nat → sy_d) (r0 : sE ⊕ Nat) (R0 : bF) (al : Int)
theorem k3y94 (hJ0 : jx_ok F0) (hcs0 : (sy_i F0 8).toInt ≤ 12 + tg F0) (cC : 0 ≤ (sy_i F0 8).toInt) (F : Nat → sy_d) (u v w : List rO) (g0 : gc k3_W F0 F) (h82 : 0 ≤ (sy_i F 82).toInt ∧ (sy_i F 82).toInt ≤ 5) (hal : (sy_i F 82).toInt = al) (h83 : 0 ≤ (sy_i F 83).toInt ∧ (sy_i F 83).toInt ≤ 512) (h83e : (sy_i F 83).toInt = (sy_i F0 8).toInt + u.length + v.length + 1) (hr : r0 = i6 (kg F0) (tg F)) (hz : ∀ f acc, R0 f acc = zc6 (kg F0) f acc u v w (tg F)) (hC : Cl 8 17 F0 F ((((u.map (cell al)) ++ (v.map (cell al))) ++ [-15, 0]) ++ (w.map (cell al)))) (hsl : (sy_i F 8).toInt + tg F0 + 1 ≤ (sy_i F0 8).toInt + tg F) (htg : tg F0 < tg F) :
    hd_W Ls xs 25 jm_M37 (fun v G => ∃ (x : Int32) (F' : Nat → sy_d), v = some (.int x) ∧ G = sy_dh F' X1 X2 (iv_H 3) ∧ gc k3_W F0 F' ∧ ((x = 0 ∧ r0 = .inl ((sy_i F' 34).toInt, tg F')) ∨ (x = 1 ∧ r0 = .inr (tg F'))) ∧ (x = 1 → ziC 8 17 R0 al F0 F')) (94, sy_dL F [some (.inl (.ref 30)), some (.inr (.inl 82)), none, some (.inr (.inl 83))], sy_dS F [.inl (.int 13), .inl (.ref 30)], sy_dh F X1 X2 (iv_H 3), 0, 0) := by
  refine hd_calI (R := fun x F' => taR ((13 : Int32)).toInt x F F') (nh := 82) (nv := 84) (s := 3) (s1 := 3) (d1 := 3) (M1 := jm_M43) (As := [.inl (.ref 30), .inl (.int 13)]) (rest := []) jm_ok37 rfl rfl (by decide) (by decide +kernel) (k3ta_T F X1 X2 g0.1 13) (fun F3 F' x hR p1 p2 p3 => ?_)
  have hR : taR 13 x F F' := hR
  obtain ⟨r1, r2⟩ := taR_dst hR p1
  have r2 := r2 (km_in (j := 33) (fun c => km_w (by decide) (by decide)) (by decide))
  rw [show km 13 = 33 by decide, kg_eq (g0.2 39 (by decide) (by decide))] at r2
  have g3 : gc k3_W F0 F3 := g0.trans r1 (by decide)
  have hx : sy_i F3 84 = x := zz_i p3
  have k82 := nz_fi (p2 82 (by decide) (by decide))
  have r2 : (x = 0 ∧ _) ∨ (x = 1 ∧ _) := r2.imp id (fun q => ⟨q.1, q.2.elim (fun a z => by have := z.2; subst this; exact z.1)⟩)
  rw [← hx] at r2
  obtain ⟨y0, y1⟩ := x01 r2
  have ty : (sy_i F3 84).toInt ≠ 0 → tg F3 = tg F + 1 := fun q => sM_r (y1 q)
  have ec : (sy_i F3 8).toInt = (sy_i F 8).toInt := nz_fi (r1.2 8 (by decide) (by decide))
  have ea : sy_ai F3 17 = sy_ai F 17 := nz_fa (r1.2 17 (by decide) (by decide))
  have t4 : (tg F3 : Int) ≤ 400 := by
    have := nz_bx g3.1 (k := 33) (lo := 0) (hi := 400) rfl
    unfold tg
    omega
  have k83 := nz_fi (p2 83 (by decide) (by decide))
  have hC3 := Cl_dst hC ec ea
  have nC := hC.1
  simp only [List.length_append, List.length_map, List.length_cons, List.length_nil] at nC
  have cC3 := nz_bx g3.1 (k := 8) (lo := 0) (hi := 512) rfl
  refine k3zi_97 (by decide) F3 X1 X2 g3.1 (by omega) ?_ ?_ ?_ ?_ ?_
  all_goals intros
  all_goals first
    | (rename_i F4 hb g e33 e34 eC a39 aC
       refine ⟨_, F4, rfl, rfl, g3.trans (gc_mk (W := k3_W) hb g (by decide)) (fun _ q => q), ?_, fun zz => absurd zz (by decide)⟩
       rw [tg_eq e33, e34]
       exact Or.inl ⟨rfl, by rw [hr, i6, y0 (by assumption)]⟩)
    | (have tt := ty (by assumption)
       exfalso
       omega)
    | (rename_i F4 hb g e33 e34 eC a39 aC
       have tt := ty (by assumption)
       have y := y1 (by assumption)
       have te := tg_eq e33
       refine ⟨_, F4, rfl, rfl, g3.trans (gc_mk (W := k3_W) hb g (by decide)) (fun _ q => q), Or.inr ⟨rfl, by rw [te, hr, i6, y]⟩, fun _ => ⟨by omega, (some (u, v), w), fun f acc => by rw [hz, zc6, y, te]; rfl, ?_⟩⟩
       have q := Cl_end (A := u.map (cell al) ++ v.map (cell al) ++ [-15]) (x := 0) (M := w.map (cell al)) cC (by
         have h := hC3 (by omega)
         rw [List.append_assoc, List.append_assoc, show ([-15, 0] : List Int) ++ w.map (cell al) = [-15] ++ (0 :: w.map (cell al)) from rfl, ← List.append_assoc, ← List.append_assoc] at h
         exact h) eC aC (by simp only [List.length_append, List.length_map, List.length_cons, List.length_nil]; omega) (by omega)
       rw [i32_s cC3.1 cC3.2, show ((-14 : Int32)).toInt = -14 by decide] at q
       have e : lcs al (sy_i F0 8).toInt.toNat [(some (u, v), w)] = u.map (cell al) ++ v.map (cell al) ++ [-15] ++ (((sy_i F3 8).toInt + 1) :: (w.map (cell al) ++ [-14])) := by
         show (_ ++ _ ++ [-15, (((sy_i F0 8).toInt.toNat + u.length + v.length + w.length + 3 : Nat) : Int)] ++ _ ++ [-14]) ++ [] = _
         rw [show (((sy_i F0 8).toInt.toNat + u.length + v.length + w.length + 3 : Nat) : Int) = (sy_i F3 8).toInt + 1 by omega]
         simp
       rw [e]
       exact q)
theorem k3y85 (hJ0 : jx_ok F0) (hcs0 : (sy_i F0 8).toInt ≤ 12 + tg F0) (cC : 0 ≤ (sy_i F0 8).toInt) (F : Nat → sy_d) (u v : List rO) (g0 : gc k3_W F0 F) (h82 : 0 ≤ (sy_i F 82).toInt ∧ (sy_i F 82).toInt ≤ 5) (hal : (sy_i F 82).toInt = al) (h83 : 0 ≤ (sy_i F 83).toInt ∧ (sy_i F 83).toInt ≤ 512) (h83e : (sy_i F 83).toInt = (sy_i F0 8).toInt + u.length + v.length + 1) (hr : r0 = i5 (kg F0) (tg F)) (hz : ∀ f acc, R0 f acc = zc5 (kg F0) (vg F0) f acc u v (tg F)) (hC : Cl 8 17 F0 F (((u.map (cell al)) ++ (v.map (cell al))) ++ [-15, 0])) (hsl : (sy_i F 8).toInt + tg F0 + 1 ≤ (sy_i F0 8).toInt + tg F) (htg : tg F0 < tg F) :
    hd_W Ls xs 25 jm_M37 (fun v G => ∃ (x : Int32) (F' : Nat → sy_d), v = some (.int x) ∧ G = sy_dh F' X1 X2 (iv_H 3) ∧ gc k3_W F0 F' ∧ ((x = 0 ∧ r0 = .inl ((sy_i F' 34).toInt, tg F')) ∨ (x = 1 ∧ r0 = .inr (tg F'))) ∧ (x = 1 → ziC 8 17 R0 al F0 F')) (85, sy_dL F [some (.inl (.ref 30)), some (.inr (.inl 82)), none, some (.inr (.inl 83))], sy_dS F [.inl (.int 0), .inr (.inl 82), .inl (.ref 30)], sy_dh F X1 X2 (iv_H 3), 0, 0) := by
  have hJ : jx_ok F := jx_ok_eq (g0.2 39 (by decide) (by decide)) (g0.2 41 (by decide) (by decide)) hJ0
  refine hd_calI (R := fun x F' => zR 8 17 2 k3_W E2 0 (sy_i F 82).toInt x F F') (nh := 82) (nv := 84) (s := 3) (s1 := 3) (d1 := 24) (M1 := jm_M38) (As := [.inl (.ref 30), .inr (.inl 82), .inl (.int 0)]) (rest := []) jm_ok37 rfl rfl (by decide) (by decide +kernel) (k3_sumz X1 X2 F (sy_i F 82) g0.1 hJ (by omega) h82.1 h82.2) (fun F3 F' x hR0 p1 p2 p3 => ?_)
  have hR := hR0.1
  obtain ⟨r1, rl, r2⟩ := pR_dst hR p1
  rw [kg_eq (g0.2 39 (by decide) (by decide))] at r2
  have g3 : gc k3_W F0 F3 := g0.trans r1 (fun _ q => q)
  have c33 := nz_bx g3.1 (k := 33) (lo := 0) (hi := 400) rfl
  have hx : sy_i F3 84 = x := zz_i p3
  have hops : (sy_i F3 84).toInt ≠ 0 → ∃ ops, cX (kg F0) (vg F0) (tg F) [] 0 [] = .inr (tg F3, ops) ∧ Cl 8 17 F F3 (ops.map (cell al)) := fun q => by
    rcases r2 with ⟨q1, -⟩ | ⟨q1, -, -, q4⟩
    · rw [hx, q1] at q
      exact absurd (by decide) q
    · have z := zE_run (zE_dst (hR0.2 q1) p1 (by decide) (by decide)) (by unfold tg; omega) (by rw [kg_eq (g0.2 39 (by decide) (by decide))]; exact q4)
      rw [kg_eq (g0.2 39 (by decide) (by decide)), vg_eq (g0.2 41 (by decide) (by decide)), hal] at z
      exact z
  have r2 : (x = 0 ∧ eX (kg F0) (tg F) 0 0 = .inl ((sy_i F3 34).toInt, tg F3)) ∨ (x = 1 ∧ eX (kg F0) (tg F) 0 0 = .inr (tg F3)) := r2.imp id (fun q => ⟨q.1, q.2.1.trans (eX_e0 (by unfold tg; omega) q.2.2.2)⟩)
  have k82 := nz_fi (p2 82 (by decide) (by decide))
  rw [← hx] at r2
  obtain ⟨y0, y1⟩ := x01 r2
  have t4 : (tg F3 : Int) ≤ 400 := by
    have := nz_bx g3.1 (k := 33) (lo := 0) (hi := 400) rfl
    unfold tg
    omega
  have k83 := nz_fi (p2 83 (by decide) (by decide))
  refine k3zi_88 (by decide) F3 X1 X2 g3.1 ?_ ?_
  all_goals intros
  all_goals first
    | (rename_i F4 hb g e33 e34 eC a39 aC
       refine ⟨_, F4, rfl, rfl, g3.trans (gc_mk (W := k3_W) hb g (by decide)) (fun _ q => q), ?_, fun zz => absurd zz (by decide)⟩
       rw [tg_eq e33, e34]
       exact Or.inl ⟨rfl, by rw [hr, i5, y0 (by assumption)]; rfl⟩)
    | (rename_i F4 hb g e33 e34 eC a39 aC e82 e83
       obtain ⟨w, w1, w2⟩ := hops (by assumption)
       have te := tg_eq e33
       have b2 := w2.2.1
       exact k3y94 X1 X2 F0 r0 R0 al hJ0 hcs0 cC F4 u v w (g3.trans (gc_mk (W := k3_W) hb g (by decide)) (fun _ q => q)) (by omega) (by omega) (by omega) (by omega) (by rw [hr, i5, y1 (by assumption), te]; rfl) (fun f acc => by rw [hz, zc5, w1, te]; rfl) (Cl_dst (Cl_app cC hC w2) eC aC (by omega)) (by omega) (by omega))
theorem k3y39 (hJ0 : jx_ok F0) (hcs0 : (sy_i F0 8).toInt ≤ 12 + tg F0) (cC : 0 ≤ (sy_i F0 8).toInt) (F : Nat → sy_d) (u v : List rO) (g0 : gc k3_W F0 F) (h82 : 0 ≤ (sy_i F 82).toInt ∧ (sy_i F 82).toInt ≤ 5) (hal : (sy_i F 82).toInt = al) (hr : r0 = i4 (kg F0) (tg F)) (hz : ∀ f acc, R0 f acc = zc4 (kg F0) (vg F0) f acc u v (tg F)) (hC : Cl 8 17 F0 F ((u.map (cell al)) ++ (v.map (cell al)))) (hsl : (sy_i F 8).toInt + tg F0 + 2 ≤ (sy_i F0 8).toInt + tg F) (htg : tg F0 < tg F) :
    hd_W Ls xs 25 jm_M37 (fun v G => ∃ (x : Int32) (F' : Nat → sy_d), v = some (.int x) ∧ G = sy_dh F' X1 X2 (iv_H 3) ∧ gc k3_W F0 F' ∧ ((x = 0 ∧ r0 = .inl ((sy_i F' 34).toInt, tg F')) ∨ (x = 1 ∧ r0 = .inr (tg F'))) ∧ (x = 1 → ziC 8 17 R0 al F0 F')) (39, sy_dL F [some (.inl (.ref 30)), some (.inr (.inl 82)), none, none], sy_dS F [.inl (.int 12), .inl (.ref 30)], sy_dh F X1 X2 (iv_H 3), 0, 0) := by
  refine hd_calI (R := fun x F' => taR ((12 : Int32)).toInt x F F') (nh := 82) (nv := 83) (s := 3) (s1 := 3) (d1 := 3) (M1 := jm_M43) (As := [.inl (.ref 30), .inl (.int 12)]) (rest := []) jm_ok37 rfl rfl (by decide) (by decide +kernel) (k3ta_T F X1 X2 g0.1 12) (fun F3 F' x hR p1 p2 p3 => ?_)
  have hR : taR 12 x F F' := hR
  obtain ⟨r1, r2⟩ := taR_dst hR p1
  have r2 := r2 (km_in (j := 32) (fun c => km_w (by decide) (by decide)) (by decide))
  rw [show km 12 = 32 by decide, kg_eq (g0.2 39 (by decide) (by decide))] at r2
  have g3 : gc k3_W F0 F3 := g0.trans r1 (by decide)
  have hx : sy_i F3 83 = x := zz_i p3
  have k82 := nz_fi (p2 82 (by decide) (by decide))
  have r2 : (x = 0 ∧ _) ∨ (x = 1 ∧ _) := r2.imp id (fun q => ⟨q.1, q.2.elim (fun a z => by have := z.2; subst this; exact z.1)⟩)
  rw [← hx] at r2
  obtain ⟨y0, y1⟩ := x01 r2
  have ty : (sy_i F3 83).toInt ≠ 0 → tg F3 = tg F + 1 := fun q => sM_r (y1 q)
  have ec : (sy_i F3 8).toInt = (sy_i F 8).toInt := nz_fi (r1.2 8 (by decide) (by decide))
  have ea : sy_ai F3 17 = sy_ai F 17 := nz_fa (r1.2 17 (by decide) (by decide))
  have t4 : (tg F3 : Int) ≤ 400 := by
    have := nz_bx g3.1 (k := 33) (lo := 0) (hi := 400) rfl
    unfold tg
    omega
  have nC := hC.1
  simp only [List.length_append, List.length_map] at nC
  have cC3 := nz_bx g3.1 (k := 8) (lo := 0) (hi := 512) rfl
  refine k3zi_42 (by decide) F3 X1 X2 g3.1 ?_ ?_ ?_ ?_
  all_goals intros
  all_goals first
    | (rename_i F4 hb g e33 e34 eC a39 aC
       refine ⟨_, F4, rfl, rfl, g3.trans (gc_mk (W := k3_W) hb g (by decide)) (fun _ q => q), ?_, fun zz => absurd zz (by decide)⟩
       rw [tg_eq e33, e34]
       exact Or.inl ⟨rfl, by rw [hr, i4, y0 (by assumption)]; rfl⟩)
    | (have tt := ty (by assumption)
       exfalso
       omega)
    | (rename_i F4 hb g e33 e34 eC a39 aC e82 e83
       have tt := ty (by assumption)
       have y := y1 (by assumption)
       have te := tg_eq e33
       exact k3y85 X1 X2 F0 r0 R0 al hJ0 hcs0 cC F4 u v (g3.trans (gc_mk (W := k3_W) hb g (by decide)) (fun _ q => q)) (by omega) (by omega) (by omega) (by omega) (by rw [hr, i4, y, te]; rfl) (fun f acc => by rw [hz, zc4, y, te]; rfl) (Cl_push2 (v := -15) (w := 0) cC (Cl_dst hC ec ea (by omega)) eC aC (by omega)) (by omega) (by omega))
theorem k3y30 (hJ0 : jx_ok F0) (hcs0 : (sy_i F0 8).toInt ≤ 12 + tg F0) (cC : 0 ≤ (sy_i F0 8).toInt) (F : Nat → sy_d) (u : List rO) (g0 : gc k3_W F0 F) (h82 : 0 ≤ (sy_i F 82).toInt ∧ (sy_i F 82).toInt ≤ 5) (hal : (sy_i F 82).toInt = al) (hr : r0 = i3 (kg F0) (tg F)) (hz : ∀ f acc, R0 f acc = zc3 (kg F0) (vg F0) f acc u (tg F)) (hC : Cl 8 17 F0 F (u.map (cell al))) (hsl : (sy_i F 8).toInt + tg F0 + 2 ≤ (sy_i F0 8).toInt + tg F) (htg : tg F0 < tg F) :
    hd_W Ls xs 25 jm_M37 (fun v G => ∃ (x : Int32) (F' : Nat → sy_d), v = some (.int x) ∧ G = sy_dh F' X1 X2 (iv_H 3) ∧ gc k3_W F0 F' ∧ ((x = 0 ∧ r0 = .inl ((sy_i F' 34).toInt, tg F')) ∨ (x = 1 ∧ r0 = .inr (tg F'))) ∧ (x = 1 → ziC 8 17 R0 al F0 F')) (30, sy_dL F [some (.inl (.ref 30)), some (.inr (.inl 82)), none, none], sy_dS F [.inl (.int 0), .inr (.inl 82), .inl (.ref 30)], sy_dh F X1 X2 (iv_H 3), 0, 0) := by
  have hJ : jx_ok F := jx_ok_eq (g0.2 39 (by decide) (by decide)) (g0.2 41 (by decide) (by decide)) hJ0
  refine hd_calI (R := fun x F' => zR 8 17 2 k3_W E2 0 (sy_i F 82).toInt x F F') (nh := 82) (nv := 83) (s := 3) (s1 := 3) (d1 := 24) (M1 := jm_M38) (As := [.inl (.ref 30), .inr (.inl 82), .inl (.int 0)]) (rest := []) jm_ok37 rfl rfl (by decide) (by decide +kernel) (k3_sumz X1 X2 F (sy_i F 82) g0.1 hJ (by omega) h82.1 h82.2) (fun F3 F' x hR0 p1 p2 p3 => ?_)
  have hR := hR0.1
  obtain ⟨r1, rl, r2⟩ := pR_dst hR p1
  rw [kg_eq (g0.2 39 (by decide) (by decide))] at r2
  have g3 : gc k3_W F0 F3 := g0.trans r1 (fun _ q => q)
  have c33 := nz_bx g3.1 (k := 33) (lo := 0) (hi := 400) rfl
  have hx : sy_i F3 83 = x := zz_i p3
  have hops : (sy_i F3 83).toInt ≠ 0 → ∃ ops, cX (kg F0) (vg F0) (tg F) [] 0 [] = .inr (tg F3, ops) ∧ Cl 8 17 F F3 (ops.map (cell al)) := fun q => by
    rcases r2 with ⟨q1, -⟩ | ⟨q1, -, -, q4⟩
    · rw [hx, q1] at q
      exact absurd (by decide) q
    · have z := zE_run (zE_dst (hR0.2 q1) p1 (by decide) (by decide)) (by unfold tg; omega) (by rw [kg_eq (g0.2 39 (by decide) (by decide))]; exact q4)
      rw [kg_eq (g0.2 39 (by decide) (by decide)), vg_eq (g0.2 41 (by decide) (by decide)), hal] at z
      exact z
  have r2 : (x = 0 ∧ eX (kg F0) (tg F) 0 0 = .inl ((sy_i F3 34).toInt, tg F3)) ∨ (x = 1 ∧ eX (kg F0) (tg F) 0 0 = .inr (tg F3)) := r2.imp id (fun q => ⟨q.1, q.2.1.trans (eX_e0 (by unfold tg; omega) q.2.2.2)⟩)
  have k82 := nz_fi (p2 82 (by decide) (by decide))
  rw [← hx] at r2
  obtain ⟨y0, y1⟩ := x01 r2
  have t4 : (tg F3 : Int) ≤ 400 := by
    have := nz_bx g3.1 (k := 33) (lo := 0) (hi := 400) rfl
    unfold tg
    omega
  refine k3zi_33 (by decide) F3 X1 X2 g3.1 ?_ ?_
  all_goals intros
  all_goals first
    | (rename_i F4 hb g e33 e34 eC a39 aC
       refine ⟨_, F4, rfl, rfl, g3.trans (gc_mk (W := k3_W) hb g (by decide)) (fun _ q => q), ?_, fun zz => absurd zz (by decide)⟩
       rw [tg_eq e33, e34]
       exact Or.inl ⟨rfl, by rw [hr, i3, y0 (by assumption)]; rfl⟩)
    | (rename_i F4 hb g e33 e34 eC a39 aC e82
       obtain ⟨v, w1, w2⟩ := hops (by assumption)
       have te := tg_eq e33
       have b2 := w2.2.1
       exact k3y39 X1 X2 F0 r0 R0 al hJ0 hcs0 cC F4 u v (g3.trans (gc_mk (W := k3_W) hb g (by decide)) (fun _ q => q)) (by omega) (by omega) (by rw [hr, i3, y1 (by assumption), te]; rfl) (fun f acc => by rw [hz, zc3, w1, te]; rfl) (Cl_dst (Cl_app cC hC w2) eC aC (by omega)) (by omega) (by omega))
theorem k3y21 (hJ0 : jx_ok F0) (hcs0 : (sy_i F0 8).toInt ≤ 12 + tg F0) (cC : 0 ≤ (sy_i F0 8).toInt) (F : Nat → sy_d) (u : List rO) (g0 : gc k3_W F0 F) (h82 : 0 ≤ (sy_i F 82).toInt ∧ (sy_i F 82).toInt ≤ 5) (hal : (sy_i F 82).toInt = al) (hr : r0 = i2 (kg F0) (tg F)) (hz : ∀ f acc, R0 f acc = zc2 (kg F0) (vg F0) f acc u (tg F)) (hC : Cl 8 17 F0 F (u.map (cell al))) (hsl : (sy_i F 8).toInt + tg F0 + 1 ≤ (sy_i F0 8).toInt + tg F) (htg : tg F0 < tg F) :
    hd_W Ls xs 25 jm_M37 (fun v G => ∃ (x : Int32) (F' : Nat → sy_d), v = some (.int x) ∧ G = sy_dh F' X1 X2 (iv_H 3) ∧ gc k3_W F0 F' ∧ ((x = 0 ∧ r0 = .inl ((sy_i F' 34).toInt, tg F')) ∨ (x = 1 ∧ r0 = .inr (tg F'))) ∧ (x = 1 → ziC 8 17 R0 al F0 F')) (21, sy_dL F [some (.inl (.ref 30)), some (.inr (.inl 82)), none, none], sy_dS F [.inl (.int 60), .inl (.ref 30)], sy_dh F X1 X2 (iv_H 3), 0, 0) := by
  refine hd_calI (R := fun x F' => taR ((60 : Int32)).toInt x F F') (nh := 82) (nv := 83) (s := 3) (s1 := 3) (d1 := 3) (M1 := jm_M43) (As := [.inl (.ref 30), .inl (.int 60)]) (rest := []) jm_ok37 rfl rfl (by decide) (by decide +kernel) (k3ta_T F X1 X2 g0.1 60) (fun F3 F' x hR p1 p2 p3 => ?_)
  have hR : taR 60 x F F' := hR
  obtain ⟨r1, r2⟩ := taR_dst hR p1
  have r2 := r2 (km_in (j := 13) (fun c => km_13) (by decide))
  rw [show km 60 = 13 by decide, kg_eq (g0.2 39 (by decide) (by decide))] at r2
  have g3 : gc k3_W F0 F3 := g0.trans r1 (by decide)
  have hx : sy_i F3 83 = x := zz_i p3
  have k82 := nz_fi (p2 82 (by decide) (by decide))
  have r2 : (x = 0 ∧ _) ∨ (x = 1 ∧ _) := r2.imp id (fun q => ⟨q.1, q.2.elim (fun a z => by have := z.2; subst this; exact z.1)⟩)
  rw [← hx] at r2
  obtain ⟨y0, y1⟩ := x01 r2
  have ty : (sy_i F3 83).toInt ≠ 0 → tg F3 = tg F + 1 := fun q => sM_r (y1 q)
  have ec : (sy_i F3 8).toInt = (sy_i F 8).toInt := nz_fi (r1.2 8 (by decide) (by decide))
  have ea : sy_ai F3 17 = sy_ai F 17 := nz_fa (r1.2 17 (by decide) (by decide))
  have t4 : (tg F3 : Int) ≤ 400 := by
    have := nz_bx g3.1 (k := 33) (lo := 0) (hi := 400) rfl
    unfold tg
    omega
  refine k3zi_24 (by decide) F3 X1 X2 g3.1 ?_ ?_
  all_goals intros
  all_goals first
    | (rename_i F4 hb g e33 e34 eC a39 aC
       refine ⟨_, F4, rfl, rfl, g3.trans (gc_mk (W := k3_W) hb g (by decide)) (fun _ q => q), ?_, fun zz => absurd zz (by decide)⟩
       rw [tg_eq e33, e34]
       exact Or.inl ⟨rfl, by rw [hr, i2, y0 (by assumption)]; rfl⟩)
    | (rename_i F4 hb g e33 e34 eC a39 aC e82
       have tt := ty (by assumption)
       have y := y1 (by assumption)
       have te := tg_eq e33
       exact k3y30 X1 X2 F0 r0 R0 al hJ0 hcs0 cC F4 u (g3.trans (gc_mk (W := k3_W) hb g (by decide)) (fun _ q => q)) (by omega) (by omega) (by rw [hr, i2, y, te]; rfl) (fun f acc => by rw [hz, zc2, y, te]; rfl) (Cl_dst hC (eC.trans ec) (aC.trans ea) (by omega)) (by omega) (by omega))
theorem k3y12 (hJ0 : jx_ok F0) (hcs0 : (sy_i F0 8).toInt ≤ 12 + tg F0) (cC : 0 ≤ (sy_i F0 8).toInt) (F : Nat → sy_d) (g0 : gc k3_W F0 F) (h82 : 0 ≤ (sy_i F 82).toInt ∧ (sy_i F 82).toInt ≤ 5) (hal : (sy_i F 82).toInt = al) (hr : r0 = i1 (kg F0) (tg F)) (hz : ∀ f acc, R0 f acc = zc1 (kg F0) (vg F0) f acc (tg F)) (hC : Cl 8 17 F0 F []) (hsl : (sy_i F 8).toInt + tg F0 + 1 ≤ (sy_i F0 8).toInt + tg F) (htg : tg F0 < tg F) :
    hd_W Ls xs 25 jm_M37 (fun v G => ∃ (x : Int32) (F' : Nat → sy_d), v = some (.int x) ∧ G = sy_dh F' X1 X2 (iv_H 3) ∧ gc k3_W F0 F' ∧ ((x = 0 ∧ r0 = .inl ((sy_i F' 34).toInt, tg F')) ∨ (x = 1 ∧ r0 = .inr (tg F'))) ∧ (x = 1 → ziC 8 17 R0 al F0 F')) (12, sy_dL F [some (.inl (.ref 30)), some (.inr (.inl 82)), none, none], sy_dS F [.inl (.int 0), .inr (.inl 82), .inl (.ref 30)], sy_dh F X1 X2 (iv_H 3), 0, 0) := by
  have hJ : jx_ok F := jx_ok_eq (g0.2 39 (by decide) (by decide)) (g0.2 41 (by decide) (by decide)) hJ0
  refine hd_calI (R := fun x F' => zR 8 17 2 k3_W E2 0 (sy_i F 82).toInt x F F') (nh := 82) (nv := 83) (s := 3) (s1 := 3) (d1 := 24) (M1 := jm_M38) (As := [.inl (.ref 30), .inr (.inl 82), .inl (.int 0)]) (rest := []) jm_ok37 rfl rfl (by decide) (by decide +kernel) (k3_sumz X1 X2 F (sy_i F 82) g0.1 hJ (by omega) h82.1 h82.2) (fun F3 F' x hR0 p1 p2 p3 => ?_)
  have hR := hR0.1
  obtain ⟨r1, rl, r2⟩ := pR_dst hR p1
  rw [kg_eq (g0.2 39 (by decide) (by decide))] at r2
  have g3 : gc k3_W F0 F3 := g0.trans r1 (fun _ q => q)
  have c33 := nz_bx g3.1 (k := 33) (lo := 0) (hi := 400) rfl
  have hx : sy_i F3 83 = x := zz_i p3
  have hops : (sy_i F3 83).toInt ≠ 0 → ∃ ops, cX (kg F0) (vg F0) (tg F) [] 0 [] = .inr (tg F3, ops) ∧ Cl 8 17 F F3 (ops.map (cell al)) := fun q => by
    rcases r2 with ⟨q1, -⟩ | ⟨q1, -, -, q4⟩
    · rw [hx, q1] at q
      exact absurd (by decide) q
    · have z := zE_run (zE_dst (hR0.2 q1) p1 (by decide) (by decide)) (by unfold tg; omega) (by rw [kg_eq (g0.2 39 (by decide) (by decide))]; exact q4)
      rw [kg_eq (g0.2 39 (by decide) (by decide)), vg_eq (g0.2 41 (by decide) (by decide)), hal] at z
      exact z
  have r2 : (x = 0 ∧ eX (kg F0) (tg F) 0 0 = .inl ((sy_i F3 34).toInt, tg F3)) ∨ (x = 1 ∧ eX (kg F0) (tg F) 0 0 = .inr (tg F3)) := r2.imp id (fun q => ⟨q.1, q.2.1.trans (eX_e0 (by unfold tg; omega) q.2.2.2)⟩)
  have k82 := nz_fi (p2 82 (by decide) (by decide))
  rw [← hx] at r2
  obtain ⟨y0, y1⟩ := x01 r2
  have t4 : (tg F3 : Int) ≤ 400 := by
    have := nz_bx g3.1 (k := 33) (lo := 0) (hi := 400) rfl
    unfold tg
    omega
  refine k3zi_15 (by decide) F3 X1 X2 g3.1 ?_ ?_
  all_goals intros
  all_goals first
    | (rename_i F4 hb g e33 e34 eC a39 aC
       refine ⟨_, F4, rfl, rfl, g3.trans (gc_mk (W := k3_W) hb g (by decide)) (fun _ q => q), ?_, fun zz => absurd zz (by decide)⟩
       rw [tg_eq e33, e34]
       exact Or.inl ⟨rfl, by rw [hr, i1, y0 (by assumption)]; rfl⟩)
    | (rename_i F4 hb g e33 e34 eC a39 aC e82
       obtain ⟨u, w1, w2⟩ := hops (by assumption)
       have te := tg_eq e33
       have b2 := w2.2.1
       exact k3y21 X1 X2 F0 r0 R0 al hJ0 hcs0 cC F4 u (g3.trans (gc_mk (W := k3_W) hb g (by decide)) (fun _ q => q)) (by omega) (by omega) (by rw [hr, i1, y1 (by assumption), te]; rfl) (fun f acc => by rw [hz, zc1, w1, te]; rfl) (Cl_dst (Cl_app cC hC w2) eC aC (by omega)) (by omega) (by omega))
end IZ3
theorem k3pi_TZ {Ls : Nat} {xs : Nat → Int32} (X1 X2 : List jm_c) (F : Nat → sy_d) (a : Int32) (hB : iv_in F iv_B0) (hJ : jx_ok F) (hcs : (sy_i F 8).toInt ≤ 12 + tg F) (a0 : 0 ≤ a.toInt) (a5 : a.toInt ≤ 5) (hk : kg F (tg F) = 31) : jm_T Ls xs 25 jm_M37 [.ref 30, .int a] (sy_dh F X1 X2 (iv_H 3)) 0 0 (fun v G => ∃ (x : Int32) (F' : Nat → sy_d), v = some (.int x) ∧ G = sy_dh F' X1 X2 (iv_H 3) ∧ piZ 8 17 k3_W a.toInt x F F') := by
  refine nx_T (s := 3) (by decide) F X1 X2 (as := [a]) (A := [.inl (.ref 30), .inr (.inl 82)]) jm_ok37 (by decide) rfl ?_
  obtain ⟨F0, hF0⟩ : ∃ F0, F0 = nx 82 F [a] := ⟨_, rfl⟩
  rw [← hF0]
  have k0 : ∀ q, q < 82 → F0 q = F q := by rw [hF0]; exact nx_lt
  have i82 : sy_i F0 82 = a := by rw [hF0]; rfl
  have hB0 := hd_iveq0 hB k0
  have hJ0 : jx_ok F0 := jx_ok_eq (k0 39 (by decide)) (k0 41 (by decide)) hJ
  have hk0 : kg F0 (tg F0) = 31 := by rw [kg_eq (k0 39 (by decide)), tg_eq (nz_fi (k0 33 (by decide)))]; exact hk
  have hcs0 : (sy_i F0 8).toInt ≤ 12 + tg F0 := by rw [nz_fi (k0 8 (by decide)), tg_eq (nz_fi (k0 33 (by decide)))]; exact hcs
  have cC := (nz_bx hB0 (k := 8) (lo := 0) (hi := 512) rfl).1
  clear hF0
  refine hd_W_mono (Q := fun v G => ∃ (x : Int32) (F' : Nat → sy_d), v = some (.int x) ∧ G = sy_dh F' X1 X2 (iv_H 3) ∧ gc k3_W F0 F' ∧ ((x = 0 ∧ sIf (kg F0) (tg F0) = .inl ((sy_i F' 34).toInt, tg F')) ∨ (x = 1 ∧ sIf (kg F0) (tg F0) = .inr (tg F'))) ∧ (x = 1 → ziC 8 17 (fun f acc => sB (sG (tg F0)) (zc1 (kg F0) (vg F0) f acc)) a.toInt F0 F')) ?_ (by
    rintro v G ⟨x, F', rfl, rfl, h1, h2, h3⟩
    exact ⟨x, F', rfl, rfl, piZ_src ⟨⟨h1, fun _ => h2⟩, h3⟩ k0 (by decide) (by decide)⟩)
  refine k3zi_0 (by decide) F0 X1 X2 hB0 ?_
  intro F hb g e33 e34 eC0 a39 aC0 e82
  have g0 : gc k3_W F0 F := gc_mk hb g (by decide)
  have h82 : 0 ≤ (sy_i F 82).toInt ∧ (sy_i F 82).toInt ≤ 5 := by rw [e82, i82]; exact ⟨a0, a5⟩
  have hal : (sy_i F 82).toInt = a.toInt := by rw [e82, i82]
  have hr : sIf (kg F0) (tg F0) = sB (sM (kg F0) 31 (tg F)) (i1 (kg F0)) := by rw [i_eq _ hk0, tg_eq e33]
  have tf := tg_eq e33
  refine hd_calI (R := fun x F' => taR ((11 : Int32)).toInt x F F') (nh := 82) (nv := 83) (s := 3) (s1 := 3) (d1 := 3) (M1 := jm_M43) (As := [.inl (.ref 30), .inl (.int 11)]) (rest := []) jm_ok37 rfl rfl (by decide) (by decide +kernel) (k3ta_T F X1 X2 g0.1 11) (fun F3 F' x hR p1 p2 p3 => ?_)
  have hR : taR 11 x F F' := hR
  obtain ⟨r1, r2⟩ := taR_dst hR p1
  have r2 := r2 (km_in (j := 31) (fun c => km_w (by decide) (by decide)) (by decide))
  rw [show km 11 = 31 by decide, kg_eq (g0.2 39 (by decide) (by decide))] at r2
  have g3 : gc k3_W F0 F3 := g0.trans r1 (by decide)
  have hx : sy_i F3 83 = x := zz_i p3
  have k82 := nz_fi (p2 82 (by decide) (by decide))
  have r2 : (x = 0 ∧ _) ∨ (x = 1 ∧ _) := r2.imp id (fun q => ⟨q.1, q.2.elim (fun a z => by have := z.2; subst this; exact z.1)⟩)
  rw [← hx] at r2
  obtain ⟨y0, y1⟩ := x01 r2
  have ty : (sy_i F3 83).toInt ≠ 0 → tg F3 = tg F + 1 := fun q => sM_r (y1 q)
  have ec : (sy_i F3 8).toInt = (sy_i F 8).toInt := nz_fi (r1.2 8 (by decide) (by decide))
  have ea : sy_ai F3 17 = sy_ai F 17 := nz_fa (r1.2 17 (by decide) (by decide))
  have t4 : (tg F3 : Int) ≤ 400 := by
    have := nz_bx g3.1 (k := 33) (lo := 0) (hi := 400) rfl
    unfold tg
    omega
  refine k3zi_6 (by decide) F3 X1 X2 g3.1 ?_ ?_
  all_goals intros
  all_goals first
    | (rename_i F4 hb g e33 e34 eC a39 aC
       refine ⟨_, F4, rfl, rfl, g3.trans (gc_mk (W := k3_W) hb g (by decide)) (fun _ q => q), ?_, fun zz => absurd zz (by decide)⟩
       rw [tg_eq e33, e34]
       exact Or.inl ⟨rfl, by rw [hr, y0 (by assumption)]; rfl⟩)
    | (rename_i F4 hb g e33 e34 eC a39 aC e82
       have tt := ty (by assumption)
       have y := y1 (by assumption)
       have te := tg_eq e33
       exact k3y12 X1 X2 F0 _ _ a.toInt hJ0 hcs0 cC F4 (g3.trans (gc_mk (W := k3_W) hb g (by decide)) (fun _ q => q)) (by omega) (by omega) (by rw [hr, y, te]; rfl) (fun f acc => by
         show sB (sG (tg F0)) _ = _
         rw [show sG (tg F0) = .inr (tg F3) by rw [← y, tf]; unfold sM; rw [if_pos hk0], te]
         rfl) (Cl_dst Cl_nil ((eC.trans ec).trans eC0) ((aC.trans ea).trans aC0) (by omega)) (by omega) (by omega))
