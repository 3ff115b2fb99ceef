/-! ===== the class parses a law: the cells ===== -/
noncomputable def zlr (K V : Nat → Int) (t : Nat) : sE ⊕ (Nat × List bRT) := sB (sG t) (zLw K V)
noncomputable def plC (cs co ls : Nat) (Z0 : sE ⊕ (Nat × List bRT)) (a : Int) (F0 F' : Nat → sy_d) : Prop := tg F0 < tg F' ∧ ∃ bs : List bRT, Z0 = .inr (tg F', bs) ∧ Cl cs co F0 F' (lcs a (sy_i F0 cs).toInt.toNat bs) ∧ sy_ai F' ls = jm_upd (sy_ai F0 ls) a.toNat (sy_i F0 cs)
noncomputable def plZ (cs co ls : Nat) (W : List Nat) (a : Int) (x : Int32) (F F' : Nat → sy_d) : Prop := plR W x F F' ∧ (x = 1 → plC cs co ls (zlr (kg F) (vg F) (tg F)) a F F')
theorem plC_dst {cs co ls : Nat} {Z0 : sE ⊕ (Nat × List bRT)} {a : Int} {F0 F F2 : Nat → sy_d} (h : plC cs co ls Z0 a F0 F) (e : ∀ q, q < 82 → F2 q = F q) (h1 : cs < 82) (h2 : co < 82) (h3 : ls < 82) : plC cs co ls Z0 a F0 F2 := by
  obtain ⟨h0, b, hb, hc, hd⟩ := h
  have et := tg_eq (nz_fi (e 33 (by decide)))
  exact ⟨by rw [et]; exact h0, b, by rw [et]; exact hb, Cl_q hc e h1 h2, by rw [nz_fa (e ls h3)]; exact hd⟩
theorem plZ_src {cs co ls : Nat} {W : List Nat} {a : Int} {x : Int32} {F F0 F' : Nat → sy_d} (h : plZ cs co ls W a x F0 F') (e : ∀ q, q < 82 → F0 q = F q) (h1 : cs < 82) (h2 : co < 82) (h3 : ls < 82) : plZ cs co ls W a x F F' := by
  refine ⟨plR_src h.1 e, fun z => ?_⟩
  obtain ⟨h0, b, hb, hc, hd⟩ := h.2 z
  have et := tg_eq (nz_fi (e 33 (by decide)))
  rw [kg_eq (e 39 (by decide)), vg_eq (e 41 (by decide)), et] at hb
  rw [nz_fi (e cs h1)] at hc
  rw [nz_fa (e ls h3), show sy_i F0 cs = sy_i F cs from Int32.toInt_inj.mp (nz_fi (e cs h1))] at hd
  exact ⟨by rw [← et]; exact h0, b, hb, Cl_src hc e h1 h2, hd⟩
theorem lcs_end {a : Int} {s c : Nat} {acc : List bRT} {w : List rO} (hc : c = s + (lcs a s acc).length) : lcs a s (acc ++ [(none, w)]) = lcs a s acc ++ w.map (cell a) ++ [-14] := by
  rw [lcs_app]
  show _ ++ ((w.map (cell a) ++ [-14]) ++ []) = _
  rw [List.append_nil, List.append_assoc]
section LZ0
variable {Ls : Nat} {xs : Nat → Int32} (X1 X2 : List jm_c) (F0 : Nat → sy_d) (r0 : sE ⊕ Nat) (Z0 : sE ⊕ (Nat × List bRT)) (al : Int)
theorem k0w92 (hJ0 : jx_ok F0) (hcs0 : (sy_i F0 23).toInt ≤ 12 + tg F0) (cC : 0 ≤ (sy_i F0 23).toInt) (F : Nat → sy_d) (acc : List bRT) (w : List rO) (g0 : gc k0_WL F0 F) (h82 : 0 ≤ (sy_i F 82).toInt ∧ (sy_i F 82).toInt ≤ 5) (hal : (sy_i F 82).toInt = al) (h83 : sy_i F 83 = sy_i F0 23) (hr : r0 = sM (kg F0) 4 (tg F)) (hz : Z0 = sB (sM (kg F0) 4 (tg F)) fun t => .inr (t, acc ++ [(none, w)])) (hC : Cl 23 32 F0 F (lcs al (sy_i F0 23).toInt.toNat acc ++ w.map (cell al))) (hL : sy_ai F 31 = sy_ai F0 31) (htg : tg F0 < tg F) :
    hd_W Ls xs 26 jm_M36 (fun v G => ∃ (x : Int32) (F' : Nat → sy_d), v = some (.int x) ∧ G = sy_dh F' X1 X2 (iv_H 0) ∧ gc k0_WL F0 F' ∧ ((x = 0 ∧ r0 = .inl ((sy_i F' 34).toInt, tg F')) ∨ (x = 1 ∧ r0 = .inr (tg F'))) ∧ (x = 1 → plC 23 32 31 Z0 al F0 F')) (92, sy_dL F [some (.inl (.ref 30)), none, some (.inr (.inl 82)), some (.inr (.inl 83)), none], sy_dS F [.inl (.int 59), .inl (.ref 30)], sy_dh F X1 X2 (iv_H 0), 0, 0) := by
  refine hd_calI (R := fun x F' => taR ((59 : Int32)).toInt x F F') (nh := 82) (nv := 84) (s := 0) (s1 := 0) (d1 := 3) (M1 := jm_M43) (As := [.inl (.ref 30), .inl (.int 59)]) (rest := []) jm_ok36 rfl rfl (by decide) (by decide +kernel) (k0ta_T F X1 X2 g0.1 59) (fun F3 F' x hR p1 p2 p3 => ?_)
  have hR : taR 59 x F F' := hR
  obtain ⟨r1, r2⟩ := taR_dst hR p1
  have r2 := r2 (km_in (j := 4) (fun c => km_4) (by decide))
  rw [show km 59 = 4 by decide, kg_eq (g0.2 39 (by decide) (by decide))] at r2
  have g3 : gc k0_WL F0 F3 := g0.trans r1 (by decide)
  have hx : sy_i F3 84 = x := zz_i p3
  have k82 := nz_fi (p2 82 (by decide) (by decide))
  have r2 : (x = 0 ∧ _) ∨ (x = 1 ∧ _) := r2.imp id (fun q => ⟨q.1, q.2.elim (fun a z => by have := z.2; subst this; exact z.1)⟩)
  rw [← hx] at r2
  obtain ⟨y0, y1⟩ := x01 r2
  have ty : (sy_i F3 84).toInt ≠ 0 → tg F3 = tg F + 1 := fun q => sM_r (y1 q)
  have ec : (sy_i F3 23).toInt = (sy_i F 23).toInt := nz_fi (r1.2 23 (by decide) (by decide))
  have ea : sy_ai F3 32 = sy_ai F 32 := nz_fa (r1.2 32 (by decide) (by decide))
  have el : sy_ai F3 31 = sy_ai F 31 := nz_fa (r1.2 31 (by decide) (by decide))
  have k83 : sy_i F3 83 = sy_i F 83 := Int32.toInt_inj.mp (nz_fi (p2 83 (by decide) (by decide)))
  have t4 : (tg F3 : Int) ≤ 400 := by
    have := nz_bx g3.1 (k := 33) (lo := 0) (hi := 400) rfl
    unfold tg
    omega
  have cC3 := nz_bx g3.1 (k := 23) (lo := 0) (hi := 512) rfl
  have b0 := nz_bx (show iv_in F iv_B0 from g0.1) (k := 23) (lo := 0) (hi := 512) rfl
  have b2 := hC.2.1
  have cF : (sy_i F3 83).toInt = (sy_i F0 23).toInt := by rw [k83, h83]
  have c5 := hC.1
  refine k0zl_95 (by decide) F3 X1 X2 g3.1 (by omega) (by omega) ?_ ?_ ?_
  all_goals intros
  all_goals first
    | (rename_i F4 hb g e33 e34 eC a39 aC aL
       refine ⟨_, F4, rfl, rfl, g3.trans (gc_mk (W := k0_WL) hb g (by decide)) (fun _ q => q), ?_, fun zz => absurd zz (by decide)⟩
       rw [tg_eq e33, e34]
       exact Or.inl ⟨rfl, by rw [hr, y0 (by assumption)]⟩)
    | (have tt := ty (by assumption)
       exfalso
       omega)
    | (rename_i F4 hb g e33 e34 eC a39 aC aL
       have tt := ty (by assumption)
       have y := y1 (by assumption)
       have te := tg_eq e33
       refine ⟨_, F4, rfl, rfl, g3.trans (gc_mk (W := k0_WL) hb g (by decide)) (fun _ q => q), Or.inr ⟨rfl, by rw [te, hr, y]⟩, fun _ => ⟨by omega, acc ++ [(none, w)], by rw [hz, y, te]; rfl, ?_, by rw [aL, el, hL, k83, h83, show (sy_i F3 82).toInt.toNat = al.toNat by omega]⟩⟩
       rw [lcs_end rfl]
       exact Cl_push (v := -14) cC (Cl_dst hC ec ea (by omega)) eC aC (by omega))
theorem k0w83 (hJ0 : jx_ok F0) (hcs0 : (sy_i F0 23).toInt ≤ 12 + tg F0) (cC : 0 ≤ (sy_i F0 23).toInt) (F : Nat → sy_d) (acc : List bRT) (g0 : gc k0_WL F0 F) (h82 : 0 ≤ (sy_i F 82).toInt ∧ (sy_i F 82).toInt ≤ 5) (hal : (sy_i F 82).toInt = al) (h83 : sy_i F 83 = sy_i F0 23) (hr : r0 = sLast (kg F0) (tg F)) (hz : Z0 = zLast (kg F0) (vg F0) acc (tg F)) (hC : Cl 23 32 F0 F (lcs al (sy_i F0 23).toInt.toNat acc)) (hL : sy_ai F 31 = sy_ai F0 31) (htg : tg F0 < tg F) :
    hd_W Ls xs 26 jm_M36 (fun v G => ∃ (x : Int32) (F' : Nat → sy_d), v = some (.int x) ∧ G = sy_dh F' X1 X2 (iv_H 0) ∧ gc k0_WL F0 F' ∧ ((x = 0 ∧ r0 = .inl ((sy_i F' 34).toInt, tg F')) ∨ (x = 1 ∧ r0 = .inr (tg F'))) ∧ (x = 1 → plC 23 32 31 Z0 al F0 F')) (83, sy_dL F [some (.inl (.ref 30)), none, some (.inr (.inl 82)), some (.inr (.inl 83)), none], sy_dS F [.inl (.int 0), .inr (.inl 82), .inl (.ref 30)], sy_dh F X1 X2 (iv_H 0), 0, 0) := by
  have hJ : jx_ok F := jx_ok_eq (g0.2 39 (by decide) (by decide)) (g0.2 41 (by decide) (by decide)) hJ0
  have b1 := hC.2.1
  refine hd_calI (R := fun x F' => zR 23 32 2 k0_W E2 0 (sy_i F 82).toInt x F F') (nh := 82) (nv := 84) (s := 0) (s1 := 0) (d1 := 24) (M1 := jm_M38) (As := [.inl (.ref 30), .inr (.inl 82), .inl (.int 0)]) (rest := []) jm_ok36 rfl rfl (by decide) (by decide +kernel) (k0_sumz X1 X2 F (sy_i F 82) g0.1 hJ (by omega) h82.1 h82.2) (fun F3 F' x hR0 p1 p2 p3 => ?_)
  have hR := hR0.1
  obtain ⟨r1, rl, r2⟩ := pR_dst hR p1
  rw [kg_eq (g0.2 39 (by decide) (by decide))] at r2
  have g3 : gc k0_WL F0 F3 := g0.trans r1 (by decide)
  have c33 := nz_bx g3.1 (k := 33) (lo := 0) (hi := 400) rfl
  have hx : sy_i F3 84 = x := zz_i p3
  have hops : (sy_i F3 84).toInt ≠ 0 → ∃ ops, cX (kg F0) (vg F0) (tg F) [] 0 [] = .inr (tg F3, ops) ∧ Cl 23 32 F F3 (ops.map (cell al)) := fun q => by
    rcases r2 with ⟨q1, -⟩ | ⟨q1, -, -, q4⟩
    · rw [hx, q1] at q
      exact absurd (by decide) q
    · have z := zE_run (zE_dst (hR0.2 q1) p1 (by decide) (by decide)) (by unfold tg; omega) (by rw [kg_eq (g0.2 39 (by decide) (by decide))]; exact q4)
      rw [kg_eq (g0.2 39 (by decide) (by decide)), vg_eq (g0.2 41 (by decide) (by decide)), hal] at z
      exact z
  have r2 : (x = 0 ∧ eX (kg F0) (tg F) 0 0 = .inl ((sy_i F3 34).toInt, tg F3)) ∨ (x = 1 ∧ eX (kg F0) (tg F) 0 0 = .inr (tg F3)) := r2.imp id (fun q => ⟨q.1, q.2.1.trans (eX_e0 (by unfold tg; omega) q.2.2.2)⟩)
  have k82 := nz_fi (p2 82 (by decide) (by decide))
  rw [← hx] at r2
  obtain ⟨y0, y1⟩ := x01 r2
  have el : sy_ai F3 31 = sy_ai F 31 := nz_fa (r1.2 31 (by decide) (by decide))
  have k83 : sy_i F3 83 = sy_i F 83 := Int32.toInt_inj.mp (nz_fi (p2 83 (by decide) (by decide)))
  have t4 : (tg F3 : Int) ≤ 400 := by
    have := nz_bx g3.1 (k := 33) (lo := 0) (hi := 400) rfl
    unfold tg
    omega
  refine k0zl_86 (by decide) F3 X1 X2 g3.1 ?_ ?_
  all_goals intros
  all_goals first
    | (rename_i F4 hb g e33 e34 eC a39 aC aL
       refine ⟨_, F4, rfl, rfl, g3.trans (gc_mk (W := k0_WL) hb g (by decide)) (fun _ q => q), ?_, fun zz => absurd zz (by decide)⟩
       rw [tg_eq e33, e34]
       exact Or.inl ⟨rfl, by rw [hr, sLast, y0 (by assumption)]; rfl⟩)
    | (rename_i F4 hb g e33 e34 eC a39 aC aL e82 e83
       obtain ⟨w, w1, w2⟩ := hops (by assumption)
       have te := tg_eq e33
       have b2 := w2.2.1
       exact k0w92 X1 X2 F0 r0 Z0 al hJ0 hcs0 cC F4 acc w (g3.trans (gc_mk (W := k0_WL) hb g (by decide)) (fun _ q => q)) (by omega) (by omega) (by rw [Int32.toInt_inj.mp e83, k83, h83]) (by rw [hr, sLast, y1 (by assumption), te]; rfl) (by rw [hz, zLast, w1, te]; rfl) (Cl_dst (Cl_app cC hC w2) eC aC (by omega)) (by rw [aL, el, hL]) (by omega))
theorem k0w30 (hJ0 : jx_ok F0) (hcs0 : (sy_i F0 23).toInt ≤ 12 + tg F0) (cC : 0 ≤ (sy_i F0 23).toInt) : ∀ (n : Nat) (F : Nat → sy_d) (acc : List bRT), gc k0_WL F0 F → (0 ≤ (sy_i F 82).toInt ∧ (sy_i F 82).toInt ≤ 5) → (sy_i F 82).toInt = al → sy_i F 83 = sy_i F0 23 → (sy_i F 84).toInt + n = 4 → r0 = sB (sIfs (kg F0) n (tg F)) (sLast (kg F0)) → 0 ≤ (sy_i F 84).toInt → Z0 = zI (kg F0) (vg F0) n acc (tg F) → Cl 23 32 F0 F (lcs al (sy_i F0 23).toInt.toNat acc) → sy_ai F 31 = sy_ai F0 31 → tg F0 < tg F →
    hd_W Ls xs 26 jm_M36 (fun v G => ∃ (x : Int32) (F' : Nat → sy_d), v = some (.int x) ∧ G = sy_dh F' X1 X2 (iv_H 0) ∧ gc k0_WL F0 F' ∧ ((x = 0 ∧ r0 = .inl ((sy_i F' 34).toInt, tg F')) ∨ (x = 1 ∧ r0 = .inr (tg F'))) ∧ (x = 1 → plC 23 32 31 Z0 al F0 F')) (30, sy_dL F [some (.inl (.ref 30)), none, some (.inr (.inl 82)), some (.inr (.inl 83)), some (.inr (.inl 84))], sy_dS F [], sy_dh F X1 X2 (iv_H 0), 0, 0) := by
  intro n
  induction n with
  | zero =>
    intro F acc g0 h82 hal h83 h84 hr h840 hz hC hL htg
    have c33 := nz_bx g0.1 (k := 33) (lo := 0) (hi := 400) rfl
    have eK : kg F0 (tg F) = km ((sy_ai F 39).getD (sy_i F 33).toInt.toNat 0).toInt := by rw [show sy_ai F 39 = sy_ai F0 39 from nz_fa (g0.2 39 (by decide) (by decide))]; rfl
    have m31 : kg F0 (tg F) = 31 ↔ ((sy_ai F 39).getD (sy_i F 33).toInt.toNat 0).toInt = 11 := by rw [eK]; exact km_w (by decide) (by decide)
    refine k0zl_30 (by decide) F X1 X2 g0.1 (by omega) ?_ ?_ ?_ ?_
    all_goals intros
    all_goals first
      | (exfalso; omega)
      | (rename_i F4 hb g e33 e34 eC a39 aC aL
         refine ⟨_, F4, rfl, rfl, g0.trans (gc_mk (W := k0_WL) hb g (by decide)) (fun _ q => q), Or.inl ⟨rfl, ?_⟩, fun zz => absurd zz (by decide)⟩
         rw [tg_eq e33, e34, hr, c_if0 (kg F0) (by omega)])
      | (rename_i F4 hb g e33 e34 eC a39 aC aL e82 e83
         have te := tg_eq e33
         exact k0w83 X1 X2 F0 r0 Z0 al hJ0 hcs0 cC F4 acc (g0.trans (gc_mk (W := k0_WL) hb g (by decide)) (fun _ q => q)) (by omega) (by omega) (by rw [Int32.toInt_inj.mp e83, h83]) (by rw [hr, c_no (kg F0) (by omega), te]) (by rw [hz, z_no _ _ (by omega), te]) (Cl_dst hC eC aC (by omega)) (by rw [aL, hL]) (by omega))
  | succ n ih =>
    intro F acc g0 h82 hal h83 h84 hr h840 hz hC hL htg
    have c33 := nz_bx g0.1 (k := 33) (lo := 0) (hi := 400) rfl
    have eK : kg F0 (tg F) = km ((sy_ai F 39).getD (sy_i F 33).toInt.toNat 0).toInt := by rw [show sy_ai F 39 = sy_ai F0 39 from nz_fa (g0.2 39 (by decide) (by decide))]; rfl
    have m31 : kg F0 (tg F) = 31 ↔ ((sy_ai F 39).getD (sy_i F 33).toInt.toNat 0).toInt = 11 := by rw [eK]; exact km_w (by decide) (by decide)
    refine k0zl_30 (by decide) F X1 X2 g0.1 (by omega) ?_ ?_ ?_ ?_
    all_goals intros
    all_goals first
      | (exfalso; omega)
      | (rename_i F4 hb g e33 e34 eC a39 aC aL e82 e83
         have te := tg_eq e33
         exact k0w83 X1 X2 F0 r0 Z0 al hJ0 hcs0 cC F4 acc (g0.trans (gc_mk (W := k0_WL) hb g (by decide)) (fun _ q => q)) (by omega) (by omega) (by rw [Int32.toInt_inj.mp e83, h83]) (by rw [hr, c_no (kg F0) (by omega), te]) (by rw [hz, z_no _ _ (by omega), te]) (Cl_dst hC eC aC (by omega)) (by rw [aL, hL]) (by omega))
      | (rename_i F1 hb1 g1 e33 e34 eC a39 aC aL e82 e83 e84
         have g01 : gc k0_WL F0 F1 := g0.trans (gc_mk (W := k0_WL) hb1 g1 (by decide)) (fun _ q => q)
         have hJ1 : jx_ok F1 := jx_ok_eq (g01.2 39 (by decide) (by decide)) (g01.2 41 (by decide) (by decide)) hJ0
         have te := tg_eq e33
         have hk1 : kg F1 (tg F1) = 31 := by
           rw [kg_eq (g01.2 39 (by decide) (by decide)), te]
           omega
         have hC1 := Cl_dst hC eC aC (by omega)
         have b1 := hC1.2.1
         refine hd_calI (R := fun x F' => piZ 23 32 k0_W (sy_i F1 82).toInt x F1 F') (nh := 82) (nv := 85) (s := 0) (s1 := 0) (d1 := 25) (M1 := jm_M37) (As := [.inl (.ref 30), .inr (.inl 82)]) (rest := []) jm_ok36 rfl rfl (by decide) (by decide +kernel) (k0pi_TZ X1 X2 F1 (sy_i F1 82) hb1 hJ1 (by omega) (by omega) (by omega) hk1) (fun F3 F' x hR0 p1 p2 p3 => ?_)
         have hR := hR0.1
         obtain ⟨r1, r2⟩ := piR_dst hR p1
         have r2 := r2 hk1
         rw [kg_eq (g01.2 39 (by decide) (by decide)), te] at r2
         have g3 : gc k0_WL F0 F3 := g01.trans r1 (by decide)
         have hx : sy_i F3 85 = x := zz_i p3
         have hq : (sy_i F3 85).toInt ≠ 0 → ziC 23 32 (fun f acc => sB (sG (tg F)) (zc1 (kg F0) (vg F0) f acc)) al F1 F3 := fun q => by
           have hx1 : x = 1 := by
             rcases r2 with ⟨q1, -⟩ | ⟨q1, -⟩
             · rw [hx, q1] at q
               exact absurd (by decide) q
             · exact q1
           have z := ziC_dst (hR0.2 hx1) p1 (by decide) (by decide)
           rw [kg_eq (g01.2 39 (by decide) (by decide)), vg_eq (g01.2 41 (by decide) (by decide)), te, show (sy_i F1 82).toInt = al by omega] at z
           exact z
         have k82 := nz_fi (p2 82 (by decide) (by decide))
         have k83 : sy_i F3 83 = sy_i F1 83 := Int32.toInt_inj.mp (nz_fi (p2 83 (by decide) (by decide)))
         have k84 := nz_fi (p2 84 (by decide) (by decide))
         have el : sy_ai F3 31 = sy_ai F1 31 := nz_fa (r1.2 31 (by decide) (by decide))
         rw [← hx] at r2
         obtain ⟨y0, y1⟩ := x01 r2
         have hr2 : r0 = sB (sB (sIf (kg F0) (tg F)) (sIfs (kg F0) n)) (sLast (kg F0)) := by
           rw [hr]
           show sB (if kg F0 (tg F) = 31 then _ else _) _ = _
           rw [if_pos (by omega)]
         refine k0zl_69 (by decide) F3 X1 X2 g3.1 (by omega) ?_ ?_
         · intro q F4 hb g d33 d34 dC b39 bC bL d82 d83 d84
           obtain ⟨t1, b, hb1, hb2⟩ := hq q
           have te4 := tg_eq d33
           refine ih F4 (acc ++ [b]) (g3.trans (gc_mk (W := k0_WL) hb g (by decide)) (fun _ q => q)) (by omega) (by omega) (by rw [Int32.toInt_inj.mp d83, k83, Int32.toInt_inj.mp e83, h83]) (by omega) ?_ (by omega) ?_ ?_ (by rw [bL, el, aL, hL]) (by omega)
           · rw [hr2, y1 q, te4]
             rfl
           · rw [hz, z_if _ _ (by omega), te4]
             exact hb1 (zI (kg F0) (vg F0) n) acc
           · rw [lcs_app]
             have z := Cl_app cC hC1 hb2
             rw [show (sy_i F1 23).toInt.toNat = (sy_i F0 23).toInt.toNat + (lcs al (sy_i F0 23).toInt.toNat acc).length by have := hC1.1; omega] at z
             exact Cl_dst z dC bC (by omega)
         · intro q F4 hb g d33 d34 dC b39 bC bL
           refine ⟨_, F4, rfl, rfl, g3.trans (gc_mk (W := k0_WL) hb g (by decide)) (fun _ q => q), Or.inl ⟨rfl, ?_⟩, fun zz => absurd zz (by decide)⟩
           rw [tg_eq d33, d34, hr2, y0 q]
           rfl)
theorem k0w11 (hJ0 : jx_ok F0) (hcs0 : (sy_i F0 23).toInt ≤ 12 + tg F0) (cC : 0 ≤ (sy_i F0 23).toInt) (F : Nat → sy_d) (g0 : gc k0_WL F0 F) (h83 : 0 ≤ (sy_i F 83).toInt ∧ (sy_i F 83).toInt ≤ 5) (hal : (sy_i F 83).toInt = al) (hr : r0 = sLw (kg F0) (tg F)) (hz : Z0 = zLw (kg F0) (vg F0) (tg F)) (hC : Cl 23 32 F0 F []) (hL : sy_ai F 31 = sy_ai F0 31) (htg : tg F0 < tg F) :
    hd_W Ls xs 26 jm_M36 (fun v G => ∃ (x : Int32) (F' : Nat → sy_d), v = some (.int x) ∧ G = sy_dh F' X1 X2 (iv_H 0) ∧ gc k0_WL F0 F' ∧ ((x = 0 ∧ r0 = .inl ((sy_i F' 34).toInt, tg F')) ∨ (x = 1 ∧ r0 = .inr (tg F'))) ∧ (x = 1 → plC 23 32 31 Z0 al F0 F')) (11, sy_dL F [some (.inl (.ref 30)), some (.inr (.inl 82)), some (.inr (.inl 83)), none, none], sy_dS F [.inl (.int 61), .inl (.ref 30)], sy_dh F X1 X2 (iv_H 0), 0, 0) := by
  refine hd_calI (R := fun x F' => taR ((61 : Int32)).toInt x F F') (nh := 82) (nv := 84) (s := 0) (s1 := 0) (d1 := 3) (M1 := jm_M43) (As := [.inl (.ref 30), .inl (.int 61)]) (rest := []) jm_ok36 rfl rfl (by decide) (by decide +kernel) (k0ta_T F X1 X2 g0.1 61) (fun F3 F' x hR p1 p2 p3 => ?_)
  have hR : taR 61 x F F' := hR
  obtain ⟨r1, r2⟩ := taR_dst hR p1
  have r2 := r2 (km_in (j := 5) (fun c => km_5) (by decide))
  rw [show km 61 = 5 by decide, kg_eq (g0.2 39 (by decide) (by decide))] at r2
  have g3 : gc k0_WL F0 F3 := g0.trans r1 (by decide)
  have hx : sy_i F3 84 = x := zz_i p3
  have k82 := nz_fi (p2 82 (by decide) (by decide))
  have r2 : (x = 0 ∧ _) ∨ (x = 1 ∧ _) := r2.imp id (fun q => ⟨q.1, q.2.elim (fun a z => by have := z.2; subst this; exact z.1)⟩)
  rw [← hx] at r2
  obtain ⟨y0, y1⟩ := x01 r2
  have ty : (sy_i F3 84).toInt ≠ 0 → tg F3 = tg F + 1 := fun q => sM_r (y1 q)
  have ec : (sy_i F3 23).toInt = (sy_i F 23).toInt := nz_fi (r1.2 23 (by decide) (by decide))
  have ea : sy_ai F3 32 = sy_ai F 32 := nz_fa (r1.2 32 (by decide) (by decide))
  have el : sy_ai F3 31 = sy_ai F 31 := nz_fa (r1.2 31 (by decide) (by decide))
  have k83 : sy_i F3 83 = sy_i F 83 := Int32.toInt_inj.mp (nz_fi (p2 83 (by decide) (by decide)))
  have t4 : (tg F3 : Int) ≤ 400 := by
    have := nz_bx g3.1 (k := 33) (lo := 0) (hi := 400) rfl
    unfold tg
    omega
  refine k0zl_14 (by decide) F3 X1 X2 g3.1 ?_ ?_
  all_goals intros
  all_goals first
    | (rename_i F4 hb g e33 e34 eC a39 aC aL
       refine ⟨_, F4, rfl, rfl, g3.trans (gc_mk (W := k0_WL) hb g (by decide)) (fun _ q => q), Or.inl ⟨rfl, ?_⟩, fun zz => absurd zz (by decide)⟩
       rw [tg_eq e33, e34, hr, sLw, y0 (by assumption)]
       rfl)
    | (rename_i F4 hb g e33 e34 eC a39 aC aL e82 e83 e84
       have tt := ty (by assumption)
       have y := y1 (by assumption)
       have te := tg_eq e33
       have k83' : (sy_i F3 83).toInt = (sy_i F 83).toInt := by rw [k83]
       exact k0w30 X1 X2 F0 r0 Z0 al hJ0 hcs0 cC 4 F4 [] (g3.trans (gc_mk (W := k0_WL) hb g (by decide)) (fun _ q => q)) (by omega) (by omega) (Int32.toInt_inj.mp (by rw [e83, ec, hC.1]; simp)) (by omega) (by rw [hr, sLw, y, te]; rfl) (by omega) (by rw [hz, zLw, y, te]; rfl) (Cl_dst hC (eC.trans ec) (aC.trans ea) (by omega)) (by rw [aL, el, hL]) (by omega))
end LZ0
theorem k0pl_TZ {Ls : Nat} {xs : Nat → Int32} (X1 X2 : List jm_c) (F : Nat → sy_d) (a b : Int32) (hB : iv_in F iv_B0) (hJ : jx_ok F) (hcs : (sy_i F 23).toInt ≤ 12 + tg F) (b0 : 0 ≤ b.toInt) (b5 : b.toInt ≤ 5) (ha : 0 ≤ a.toInt ∧ a.toInt ≤ 22) (hk : ((sy_ai F 39).getD (sy_i F 33).toInt.toNat 0).toInt = a.toInt) : jm_T Ls xs 26 jm_M36 [.ref 30, .int a, .int b] (sy_dh F X1 X2 (iv_H 0)) 0 0 (fun v G => ∃ (x : Int32) (F' : Nat → sy_d), v = some (.int x) ∧ G = sy_dh F' X1 X2 (iv_H 0) ∧ plZ 23 32 31 k0_WL b.toInt x F F') := by
  refine nx_T (s := 0) (by decide) F X1 X2 (as := [a, b]) (A := [.inl (.ref 30), .inr (.inl 82), .inr (.inl 83)]) jm_ok36 (by decide) rfl ?_
  obtain ⟨F0, hF0⟩ : ∃ F0, F0 = nx 82 F [a, b] := ⟨_, rfl⟩
  rw [← hF0]
  have k0 : ∀ q, q < 82 → F0 q = F q := by rw [hF0]; exact nx_lt
  have i82 : sy_i F0 82 = a := by rw [hF0]; rfl
  have i83 : sy_i F0 83 = b := by rw [hF0]; rfl
  have hB0 := hd_iveq0 hB k0
  have hJ0 : jx_ok F0 := jx_ok_eq (k0 39 (by decide)) (k0 41 (by decide)) hJ
  have hcs0 : (sy_i F0 23).toInt ≤ 12 + tg F0 := by rw [nz_fi (k0 23 (by decide)), tg_eq (nz_fi (k0 33 (by decide)))]; exact hcs
  have cC := (nz_bx hB0 (k := 23) (lo := 0) (hi := 512) rfl).1
  have hk0 : kg F0 (tg F0) = km a.toInt := by
    show km ((sy_ai F0 39).getD (sy_i F0 33).toInt.toNat 0).toInt = _
    rw [nz_fa (k0 39 (by decide)), nz_fi (k0 33 (by decide)), hk]
  clear hF0
  refine hd_W_mono (Q := fun v G => ∃ (x : Int32) (F' : Nat → sy_d), v = some (.int x) ∧ G = sy_dh F' X1 X2 (iv_H 0) ∧ gc k0_WL F0 F' ∧ ((x = 0 ∧ plr (kg F0) (tg F0) = .inl ((sy_i F' 34).toInt, tg F')) ∨ (x = 1 ∧ plr (kg F0) (tg F0) = .inr (tg F'))) ∧ (x = 1 → plC 23 32 31 (zlr (kg F0) (vg F0) (tg F0)) b.toInt F0 F')) ?_ (by
    rintro v G ⟨x, F', rfl, rfl, h1, h2, h3⟩
    exact ⟨x, F', rfl, rfl, plZ_src ⟨⟨h1, h2⟩, h3⟩ k0 (by decide) (by decide) (by decide)⟩)
  refine k0zl_0 (by decide) F0 X1 X2 hB0 ?_
  intro F hb g e33 e34 eC0 a39 aC0 aL0 e82 e83
  have g0 : gc k0_WL F0 F := gc_mk hb g (by decide)
  have tf := tg_eq e33
  refine hd_calI (R := fun x F' => taR (sy_i F 82).toInt x F F') (nh := 82) (nv := 84) (s := 0) (s1 := 0) (d1 := 3) (M1 := jm_M43) (As := [.inl (.ref 30), .inr (.inl 82)]) (rest := []) jm_ok36 rfl rfl (by decide) (by decide +kernel) (k0ta_T F X1 X2 g0.1 (sy_i F 82)) (fun F3 F' x hR p1 p2 p3 => ?_)
  obtain ⟨r1, r2⟩ := taR_dst hR p1
  rw [e82, i82] at r2
  have r2 := r2 (fun c z => by
    rw [km_r ha.1 ha.2] at z
    have := (km_w (c := c) (k := a.toInt + 20) (by omega) (by omega)).mp z
    omega)
  rw [kg_eq (g0.2 39 (by decide) (by decide)), tg_eq e33, show sM (kg F0) (km a.toInt) (tg F0) = sG (tg F0) by unfold sM; rw [if_pos hk0]] at r2
  have g3 : gc k0_WL F0 F3 := g0.trans r1 (by decide)
  have hx : sy_i F3 84 = x := zz_i p3
  have k82 := nz_fi (p2 82 (by decide) (by decide))
  have r2 : (x = 0 ∧ _) ∨ (x = 1 ∧ _) := r2.imp id (fun q => ⟨q.1, q.2.elim (fun a z => by have := z.2; subst this; exact z.1)⟩)
  rw [← hx] at r2
  obtain ⟨y0, y1⟩ := x01 r2
  have ty : (sy_i F3 84).toInt ≠ 0 → tg F3 = tg F + 1 := fun q => (sG_r (y1 q)).trans (by rw [tf])
  have ec : (sy_i F3 23).toInt = (sy_i F 23).toInt := nz_fi (r1.2 23 (by decide) (by decide))
  have ea : sy_ai F3 32 = sy_ai F 32 := nz_fa (r1.2 32 (by decide) (by decide))
  have el : sy_ai F3 31 = sy_ai F 31 := nz_fa (r1.2 31 (by decide) (by decide))
  have k83 : sy_i F3 83 = sy_i F 83 := Int32.toInt_inj.mp (nz_fi (p2 83 (by decide) (by decide)))
  have t4 : (tg F3 : Int) ≤ 400 := by
    have := nz_bx g3.1 (k := 33) (lo := 0) (hi := 400) rfl
    unfold tg
    omega
  have j83 : (sy_i F0 83).toInt = b.toInt := by rw [i83]
  have k83' : (sy_i F3 83).toInt = (sy_i F 83).toInt := by rw [k83]
  refine k0zl_5 (by decide) F3 X1 X2 g3.1 ?_ ?_
  all_goals intros
  all_goals first
    | (rename_i F4 hb g d33 d34 dC b39 bC bL
       refine ⟨_, F4, rfl, rfl, g3.trans (gc_mk (W := k0_WL) hb g (by decide)) (fun _ q => q), Or.inl ⟨rfl, ?_⟩, fun zz => absurd zz (by decide)⟩
       rw [tg_eq d33, d34, plr, y0 (by assumption)]
       rfl)
    | (rename_i F4 hb g d33 d34 dC b39 bC bL d82 d83
       have tt := ty (by assumption)
       have y := y1 (by assumption)
       have te := tg_eq d33
       exact k0w11 X1 X2 F0 _ _ b.toInt hJ0 hcs0 cC F4 (g3.trans (gc_mk (W := k0_WL) hb g (by decide)) (fun _ q => q)) (by omega) (by omega) (by rw [plr, y, te]; rfl) (by rw [zlr, y, te]; rfl) (Cl_dst Cl_nil ((dC.trans ec).trans eC0) ((bC.trans ea).trans aC0) (by omega)) (by rw [bL, el, aL0]) (by omega))
section LZ3
variable {Ls : Nat} {xs : Nat → Int32} (X1 X2 : List jm_c) (F0 : Nat → sy_d) (r0 : sE ⊕ Nat) (Z0 : sE ⊕ (Nat × List bRT)) (al : Int)
theorem k3w92 (hJ0 : jx_ok F0) (hcs0 : (sy_i F0 8).toInt ≤ 12 + tg F0) (cC : 0 ≤ (sy_i F0 8).toInt) (F : Nat → sy_d) (acc : List bRT) (w : List rO) (g0 : gc k3_WL F0 F) (h82 : 0 ≤ (sy_i F 82).toInt ∧ (sy_i F 82).toInt ≤ 5) (hal : (sy_i F 82).toInt = al) (h83 : sy_i F 83 = sy_i F0 8) (hr : r0 = sM (kg F0) 4 (tg F)) (hz : Z0 = sB (sM (kg F0) 4 (tg F)) fun t => .inr (t, acc ++ [(none, w)])) (hC : Cl 8 17 F0 F (lcs al (sy_i F0 8).toInt.toNat acc ++ w.map (cell al))) (hL : sy_ai F 16 = sy_ai F0 16) (htg : tg F0 < tg F) :
    hd_W Ls xs 26 jm_M36 (fun v G => ∃ (x : Int32) (F' : Nat → sy_d), v = some (.int x) ∧ G = sy_dh F' X1 X2 (iv_H 3) ∧ gc k3_WL F0 F' ∧ ((x = 0 ∧ r0 = .inl ((sy_i F' 34).toInt, tg F')) ∨ (x = 1 ∧ r0 = .inr (tg F'))) ∧ (x = 1 → plC 8 17 16 Z0 al F0 F')) (92, sy_dL F [some (.inl (.ref 30)), none, some (.inr (.inl 82)), some (.inr (.inl 83)), none], sy_dS F [.inl (.int 59), .inl (.ref 30)], sy_dh F X1 X2 (iv_H 3), 0, 0) := by
  refine hd_calI (R := fun x F' => taR ((59 : Int32)).toInt x F F') (nh := 82) (nv := 84) (s := 3) (s1 := 3) (d1 := 3) (M1 := jm_M43) (As := [.inl (.ref 30), .inl (.int 59)]) (rest := []) jm_ok36 rfl rfl (by decide) (by decide +kernel) (k3ta_T F X1 X2 g0.1 59) (fun F3 F' x hR p1 p2 p3 => ?_)
  have hR : taR 59 x F F' := hR
  obtain ⟨r1, r2⟩ := taR_dst hR p1
  have r2 := r2 (km_in (j := 4) (fun c => km_4) (by decide))
  rw [show km 59 = 4 by decide, kg_eq (g0.2 39 (by decide) (by decide))] at r2
  have g3 : gc k3_WL F0 F3 := g0.trans r1 (by decide)
  have hx : sy_i F3 84 = x := zz_i p3
  have k82 := nz_fi (p2 82 (by decide) (by decide))
  have r2 : (x = 0 ∧ _) ∨ (x = 1 ∧ _) := r2.imp id (fun q => ⟨q.1, q.2.elim (fun a z => by have := z.2; subst this; exact z.1)⟩)
  rw [← hx] at r2
  obtain ⟨y0, y1⟩ := x01 r2
  have ty : (sy_i F3 84).toInt ≠ 0 → tg F3 = tg F + 1 := fun q => sM_r (y1 q)
  have ec : (sy_i F3 8).toInt = (sy_i F 8).toInt := nz_fi (r1.2 8 (by decide) (by decide))
  have ea : sy_ai F3 17 = sy_ai F 17 := nz_fa (r1.2 17 (by decide) (by decide))
  have el : sy_ai F3 16 = sy_ai F 16 := nz_fa (r1.2 16 (by decide) (by decide))
  have k83 : sy_i F3 83 = sy_i F 83 := Int32.toInt_inj.mp (nz_fi (p2 83 (by decide) (by decide)))
  have t4 : (tg F3 : Int) ≤ 400 := by
    have := nz_bx g3.1 (k := 33) (lo := 0) (hi := 400) rfl
    unfold tg
    omega
  have cC3 := nz_bx g3.1 (k := 8) (lo := 0) (hi := 512) rfl
  have b0 := nz_bx (show iv_in F iv_B0 from g0.1) (k := 8) (lo := 0) (hi := 512) rfl
  have b2 := hC.2.1
  have cF : (sy_i F3 83).toInt = (sy_i F0 8).toInt := by rw [k83, h83]
  have c5 := hC.1
  refine k3zl_95 (by decide) F3 X1 X2 g3.1 (by omega) (by omega) ?_ ?_ ?_
  all_goals intros
  all_goals first
    | (rename_i F4 hb g e33 e34 eC a39 aC aL
       refine ⟨_, F4, rfl, rfl, g3.trans (gc_mk (W := k3_WL) hb g (by decide)) (fun _ q => q), ?_, fun zz => absurd zz (by decide)⟩
       rw [tg_eq e33, e34]
       exact Or.inl ⟨rfl, by rw [hr, y0 (by assumption)]⟩)
    | (have tt := ty (by assumption)
       exfalso
       omega)
    | (rename_i F4 hb g e33 e34 eC a39 aC aL
       have tt := ty (by assumption)
       have y := y1 (by assumption)
       have te := tg_eq e33
       refine ⟨_, F4, rfl, rfl, g3.trans (gc_mk (W := k3_WL) hb g (by decide)) (fun _ q => q), Or.inr ⟨rfl, by rw [te, hr, y]⟩, fun _ => ⟨by omega, acc ++ [(none, w)], by rw [hz, y, te]; rfl, ?_, by rw [aL, el, hL, k83, h83, show (sy_i F3 82).toInt.toNat = al.toNat by omega]⟩⟩
       rw [lcs_end rfl]
       exact Cl_push (v := -14) cC (Cl_dst hC ec ea (by omega)) eC aC (by omega))
theorem k3w83 (hJ0 : jx_ok F0) (hcs0 : (sy_i F0 8).toInt ≤ 12 + tg F0) (cC : 0 ≤ (sy_i F0 8).toInt) (F : Nat → sy_d) (acc : List bRT) (g0 : gc k3_WL F0 F) (h82 : 0 ≤ (sy_i F 82).toInt ∧ (sy_i F 82).toInt ≤ 5) (hal : (sy_i F 82).toInt = al) (h83 : sy_i F 83 = sy_i F0 8) (hr : r0 = sLast (kg F0) (tg F)) (hz : Z0 = zLast (kg F0) (vg F0) acc (tg F)) (hC : Cl 8 17 F0 F (lcs al (sy_i F0 8).toInt.toNat acc)) (hL : sy_ai F 16 = sy_ai F0 16) (htg : tg F0 < tg F) :
    hd_W Ls xs 26 jm_M36 (fun v G => ∃ (x : Int32) (F' : Nat → sy_d), v = some (.int x) ∧ G = sy_dh F' X1 X2 (iv_H 3) ∧ gc k3_WL F0 F' ∧ ((x = 0 ∧ r0 = .inl ((sy_i F' 34).toInt, tg F')) ∨ (x = 1 ∧ r0 = .inr (tg F'))) ∧ (x = 1 → plC 8 17 16 Z0 al F0 F')) (83, sy_dL F [some (.inl (.ref 30)), none, some (.inr (.inl 82)), some (.inr (.inl 83)), none], sy_dS F [.inl (.int 0), .inr (.inl 82), .inl (.ref 30)], sy_dh F X1 X2 (iv_H 3), 0, 0) := by
  have hJ : jx_ok F := jx_ok_eq (g0.2 39 (by decide) (by decide)) (g0.2 41 (by decide) (by decide)) hJ0
  have b1 := hC.2.1
  refine hd_calI (R := fun x F' => zR 8 17 2 k3_W E2 0 (sy_i F 82).toInt x F F') (nh := 82) (nv := 84) (s := 3) (s1 := 3) (d1 := 24) (M1 := jm_M38) (As := [.inl (.ref 30), .inr (.inl 82), .inl (.int 0)]) (rest := []) jm_ok36 rfl rfl (by decide) (by decide +kernel) (k3_sumz X1 X2 F (sy_i F 82) g0.1 hJ (by omega) h82.1 h82.2) (fun F3 F' x hR0 p1 p2 p3 => ?_)
  have hR := hR0.1
  obtain ⟨r1, rl, r2⟩ := pR_dst hR p1
  rw [kg_eq (g0.2 39 (by decide) (by decide))] at r2
  have g3 : gc k3_WL F0 F3 := g0.trans r1 (by decide)
  have c33 := nz_bx g3.1 (k := 33) (lo := 0) (hi := 400) rfl
  have hx : sy_i F3 84 = x := zz_i p3
  have hops : (sy_i F3 84).toInt ≠ 0 → ∃ ops, cX (kg F0) (vg F0) (tg F) [] 0 [] = .inr (tg F3, ops) ∧ Cl 8 17 F F3 (ops.map (cell al)) := fun q => by
    rcases r2 with ⟨q1, -⟩ | ⟨q1, -, -, q4⟩
    · rw [hx, q1] at q
      exact absurd (by decide) q
    · have z := zE_run (zE_dst (hR0.2 q1) p1 (by decide) (by decide)) (by unfold tg; omega) (by rw [kg_eq (g0.2 39 (by decide) (by decide))]; exact q4)
      rw [kg_eq (g0.2 39 (by decide) (by decide)), vg_eq (g0.2 41 (by decide) (by decide)), hal] at z
      exact z
  have r2 : (x = 0 ∧ eX (kg F0) (tg F) 0 0 = .inl ((sy_i F3 34).toInt, tg F3)) ∨ (x = 1 ∧ eX (kg F0) (tg F) 0 0 = .inr (tg F3)) := r2.imp id (fun q => ⟨q.1, q.2.1.trans (eX_e0 (by unfold tg; omega) q.2.2.2)⟩)
  have k82 := nz_fi (p2 82 (by decide) (by decide))
  rw [← hx] at r2
  obtain ⟨y0, y1⟩ := x01 r2
  have el : sy_ai F3 16 = sy_ai F 16 := nz_fa (r1.2 16 (by decide) (by decide))
  have k83 : sy_i F3 83 = sy_i F 83 := Int32.toInt_inj.mp (nz_fi (p2 83 (by decide) (by decide)))
  have t4 : (tg F3 : Int) ≤ 400 := by
    have := nz_bx g3.1 (k := 33) (lo := 0) (hi := 400) rfl
    unfold tg
    omega
  refine k3zl_86 (by decide) F3 X1 X2 g3.1 ?_ ?_
  all_goals intros
  all_goals first
    | (rename_i F4 hb g e33 e34 eC a39 aC aL
       refine ⟨_, F4, rfl, rfl, g3.trans (gc_mk (W := k3_WL) hb g (by decide)) (fun _ q => q), ?_, fun zz => absurd zz (by decide)⟩
       rw [tg_eq e33, e34]
       exact Or.inl ⟨rfl, by rw [hr, sLast, y0 (by assumption)]; rfl⟩)
    | (rename_i F4 hb g e33 e34 eC a39 aC aL e82 e83
       obtain ⟨w, w1, w2⟩ := hops (by assumption)
       have te := tg_eq e33
       have b2 := w2.2.1
       exact k3w92 X1 X2 F0 r0 Z0 al hJ0 hcs0 cC F4 acc w (g3.trans (gc_mk (W := k3_WL) hb g (by decide)) (fun _ q => q)) (by omega) (by omega) (by rw [Int32.toInt_inj.mp e83, k83, h83]) (by rw [hr, sLast, y1 (by assumption), te]; rfl) (by rw [hz, zLast, w1, te]; rfl) (Cl_dst (Cl_app cC hC w2) eC aC (by omega)) (by rw [aL, el, hL]) (by omega))
theorem k3w30 (hJ0 : jx_ok F0) (hcs0 : (sy_i F0 8).toInt ≤ 12 + tg F0) (cC : 0 ≤ (sy_i F0 8).toInt) : ∀ (n : Nat) (F : Nat → sy_d) (acc : List bRT), gc k3_WL F0 F → (0 ≤ (sy_i F 82).toInt ∧ (sy_i F 82).toInt ≤ 5) → (sy_i F 82).toInt = al → sy_i F 83 = sy_i F0 8 → (sy_i F 84).toInt + n = 4 → r0 = sB (sIfs (kg F0) n (tg F)) (sLast (kg F0)) → 0 ≤ (sy_i F 84).toInt → Z0 = zI (kg F0) (vg F0) n acc (tg F) → Cl 8 17 F0 F (lcs al (sy_i F0 8).toInt.toNat acc) → sy_ai F 16 = sy_ai F0 16 → tg F0 < tg F →
    hd_W Ls xs 26 jm_M36 (fun v G => ∃ (x : Int32) (F' : Nat → sy_d), v = some (.int x) ∧ G = sy_dh F' X1 X2 (iv_H 3) ∧ gc k3_WL F0 F' ∧ ((x = 0 ∧ r0 = .inl ((sy_i F' 34).toInt, tg F')) ∨ (x = 1 ∧ r0 = .inr (tg F'))) ∧ (x = 1 → plC 8 17 16 Z0 al F0 F')) (30, sy_dL F [some (.inl (.ref 30)), none, some (.inr (.inl 82)), some (.inr (.inl 83)), some (.inr (.inl 84))], sy_dS F [], sy_dh F X1 X2 (iv_H 3), 0, 0) := by
  intro n
  induction n with
  | zero =>
    intro F acc g0 h82 hal h83 h84 hr h840 hz hC hL htg
    have c33 := nz_bx g0.1 (k := 33) (lo := 0) (hi := 400) rfl
    have eK : kg F0 (tg F) = km ((sy_ai F 39).getD (sy_i F 33).toInt.toNat 0).toInt := by rw [show sy_ai F 39 = sy_ai F0 39 from nz_fa (g0.2 39 (by decide) (by decide))]; rfl
    have m31 : kg F0 (tg F) = 31 ↔ ((sy_ai F 39).getD (sy_i F 33).toInt.toNat 0).toInt = 11 := by rw [eK]; exact km_w (by decide) (by decide)
    refine k3zl_30 (by decide) F X1 X2 g0.1 (by omega) ?_ ?_ ?_ ?_
    all_goals intros
    all_goals first
      | (exfalso; omega)
      | (rename_i F4 hb g e33 e34 eC a39 aC aL
         refine ⟨_, F4, rfl, rfl, g0.trans (gc_mk (W := k3_WL) hb g (by decide)) (fun _ q => q), Or.inl ⟨rfl, ?_⟩, fun zz => absurd zz (by decide)⟩
         rw [tg_eq e33, e34, hr, c_if0 (kg F0) (by omega)])
      | (rename_i F4 hb g e33 e34 eC a39 aC aL e82 e83
         have te := tg_eq e33
         exact k3w83 X1 X2 F0 r0 Z0 al hJ0 hcs0 cC F4 acc (g0.trans (gc_mk (W := k3_WL) hb g (by decide)) (fun _ q => q)) (by omega) (by omega) (by rw [Int32.toInt_inj.mp e83, h83]) (by rw [hr, c_no (kg F0) (by omega), te]) (by rw [hz, z_no _ _ (by omega), te]) (Cl_dst hC eC aC (by omega)) (by rw [aL, hL]) (by omega))
  | succ n ih =>
    intro F acc g0 h82 hal h83 h84 hr h840 hz hC hL htg
    have c33 := nz_bx g0.1 (k := 33) (lo := 0) (hi := 400) rfl
    have eK : kg F0 (tg F) = km ((sy_ai F 39).getD (sy_i F 33).toInt.toNat 0).toInt := by rw [show sy_ai F 39 = sy_ai F0 39 from nz_fa (g0.2 39 (by decide) (by decide))]; rfl
    have m31 : kg F0 (tg F) = 31 ↔ ((sy_ai F 39).getD (sy_i F 33).toInt.toNat 0).toInt = 11 := by rw [eK]; exact km_w (by decide) (by decide)
    refine k3zl_30 (by decide) F X1 X2 g0.1 (by omega) ?_ ?_ ?_ ?_
    all_goals intros
    all_goals first
      | (exfalso; omega)
      | (rename_i F4 hb g e33 e34 eC a39 aC aL e82 e83
         have te := tg_eq e33
         exact k3w83 X1 X2 F0 r0 Z0 al hJ0 hcs0 cC F4 acc (g0.trans (gc_mk (W := k3_WL) hb g (by decide)) (fun _ q => q)) (by omega) (by omega) (by rw [Int32.toInt_inj.mp e83, h83]) (by rw [hr, c_no (kg F0) (by omega), te]) (by rw [hz, z_no _ _ (by omega), te]) (Cl_dst hC eC aC (by omega)) (by rw [aL, hL]) (by omega))
      | (rename_i F1 hb1 g1 e33 e34 eC a39 aC aL e82 e83 e84
         have g01 : gc k3_WL F0 F1 := g0.trans (gc_mk (W := k3_WL) hb1 g1 (by decide)) (fun _ q => q)
         have hJ1 : jx_ok F1 := jx_ok_eq (g01.2 39 (by decide) (by decide)) (g01.2 41 (by decide) (by decide)) hJ0
         have te := tg_eq e33
         have hk1 : kg F1 (tg F1) = 31 := by
           rw [kg_eq (g01.2 39 (by decide) (by decide)), te]
           omega
         have hC1 := Cl_dst hC eC aC (by omega)
         have b1 := hC1.2.1
         refine hd_calI (R := fun x F' => piZ 8 17 k3_W (sy_i F1 82).toInt x F1 F') (nh := 82) (nv := 85) (s := 3) (s1 := 3) (d1 := 25) (M1 := jm_M37) (As := [.inl (.ref 30), .inr (.inl 82)]) (rest := []) jm_ok36 rfl rfl (by decide) (by decide +kernel) (k3pi_TZ X1 X2 F1 (sy_i F1 82) hb1 hJ1 (by omega) (by omega) (by omega) hk1) (fun F3 F' x hR0 p1 p2 p3 => ?_)
         have hR := hR0.1
         obtain ⟨r1, r2⟩ := piR_dst hR p1
         have r2 := r2 hk1
         rw [kg_eq (g01.2 39 (by decide) (by decide)), te] at r2
         have g3 : gc k3_WL F0 F3 := g01.trans r1 (by decide)
         have hx : sy_i F3 85 = x := zz_i p3
         have hq : (sy_i F3 85).toInt ≠ 0 → ziC 8 17 (fun f acc => sB (sG (tg F)) (zc1 (kg F0) (vg F0) f acc)) al F1 F3 := fun q => by
           have hx1 : x = 1 := by
             rcases r2 with ⟨q1, -⟩ | ⟨q1, -⟩
             · rw [hx, q1] at q
               exact absurd (by decide) q
             · exact q1
           have z := ziC_dst (hR0.2 hx1) p1 (by decide) (by decide)
           rw [kg_eq (g01.2 39 (by decide) (by decide)), vg_eq (g01.2 41 (by decide) (by decide)), te, show (sy_i F1 82).toInt = al by omega] at z
           exact z
         have k82 := nz_fi (p2 82 (by decide) (by decide))
         have k83 : sy_i F3 83 = sy_i F1 83 := Int32.toInt_inj.mp (nz_fi (p2 83 (by decide) (by decide)))
         have k84 := nz_fi (p2 84 (by decide) (by decide))
         have el : sy_ai F3 16 = sy_ai F1 16 := nz_fa (r1.2 16 (by decide) (by decide))
         rw [← hx] at r2
         obtain ⟨y0, y1⟩ := x01 r2
         have hr2 : r0 = sB (sB (sIf (kg F0) (tg F)) (sIfs (kg F0) n)) (sLast (kg F0)) := by
           rw [hr]
           show sB (if kg F0 (tg F) = 31 then _ else _) _ = _
           rw [if_pos (by omega)]
         refine k3zl_69 (by decide) F3 X1 X2 g3.1 (by omega) ?_ ?_
         · intro q F4 hb g d33 d34 dC b39 bC bL d82 d83 d84
           obtain ⟨t1, b, hb1, hb2⟩ := hq q
           have te4 := tg_eq d33
           refine ih F4 (acc ++ [b]) (g3.trans (gc_mk (W := k3_WL) hb g (by decide)) (fun _ q => q)) (by omega) (by omega) (by rw [Int32.toInt_inj.mp d83, k83, Int32.toInt_inj.mp e83, h83]) (by omega) ?_ (by omega) ?_ ?_ (by rw [bL, el, aL, hL]) (by omega)
           · rw [hr2, y1 q, te4]
             rfl
           · rw [hz, z_if _ _ (by omega), te4]
             exact hb1 (zI (kg F0) (vg F0) n) acc
           · rw [lcs_app]
             have z := Cl_app cC hC1 hb2
             rw [show (sy_i F1 8).toInt.toNat = (sy_i F0 8).toInt.toNat + (lcs al (sy_i F0 8).toInt.toNat acc).length by have := hC1.1; omega] at z
             exact Cl_dst z dC bC (by omega)
         · intro q F4 hb g d33 d34 dC b39 bC bL
           refine ⟨_, F4, rfl, rfl, g3.trans (gc_mk (W := k3_WL) hb g (by decide)) (fun _ q => q), Or.inl ⟨rfl, ?_⟩, fun zz => absurd zz (by decide)⟩
           rw [tg_eq d33, d34, hr2, y0 q]
           rfl)
theorem k3w11 (hJ0 : jx_ok F0) (hcs0 : (sy_i F0 8).toInt ≤ 12 + tg F0) (cC : 0 ≤ (sy_i F0 8).toInt) (F : Nat → sy_d) (g0 : gc k3_WL F0 F) (h83 : 0 ≤ (sy_i F 83).toInt ∧ (sy_i F 83).toInt ≤ 5) (hal : (sy_i F 83).toInt = al) (hr : r0 = sLw (kg F0) (tg F)) (hz : Z0 = zLw (kg F0) (vg F0) (tg F)) (hC : Cl 8 17 F0 F []) (hL : sy_ai F 16 = sy_ai F0 16) (htg : tg F0 < tg F) :
    hd_W Ls xs 26 jm_M36 (fun v G => ∃ (x : Int32) (F' : Nat → sy_d), v = some (.int x) ∧ G = sy_dh F' X1 X2 (iv_H 3) ∧ gc k3_WL F0 F' ∧ ((x = 0 ∧ r0 = .inl ((sy_i F' 34).toInt, tg F')) ∨ (x = 1 ∧ r0 = .inr (tg F'))) ∧ (x = 1 → plC 8 17 16 Z0 al F0 F')) (11, sy_dL F [some (.inl (.ref 30)), some (.inr (.inl 82)), some (.inr (.inl 83)), none, none], sy_dS F [.inl (.int 61), .inl (.ref 30)], sy_dh F X1 X2 (iv_H 3), 0, 0) := by
  refine hd_calI (R := fun x F' => taR ((61 : Int32)).toInt x F F') (nh := 82) (nv := 84) (s := 3) (s1 := 3) (d1 := 3) (M1 := jm_M43) (As := [.inl (.ref 30), .inl (.int 61)]) (rest := []) jm_ok36 rfl rfl (by decide) (by decide +kernel) (k3ta_T F X1 X2 g0.1 61) (fun F3 F' x hR p1 p2 p3 => ?_)
  have hR : taR 61 x F F' := hR
  obtain ⟨r1, r2⟩ := taR_dst hR p1
  have r2 := r2 (km_in (j := 5) (fun c => km_5) (by decide))
  rw [show km 61 = 5 by decide, kg_eq (g0.2 39 (by decide) (by decide))] at r2
  have g3 : gc k3_WL F0 F3 := g0.trans r1 (by decide)
  have hx : sy_i F3 84 = x := zz_i p3
  have k82 := nz_fi (p2 82 (by decide) (by decide))
  have r2 : (x = 0 ∧ _) ∨ (x = 1 ∧ _) := r2.imp id (fun q => ⟨q.1, q.2.elim (fun a z => by have := z.2; subst this; exact z.1)⟩)
  rw [← hx] at r2
  obtain ⟨y0, y1⟩ := x01 r2
  have ty : (sy_i F3 84).toInt ≠ 0 → tg F3 = tg F + 1 := fun q => sM_r (y1 q)
  have ec : (sy_i F3 8).toInt = (sy_i F 8).toInt := nz_fi (r1.2 8 (by decide) (by decide))
  have ea : sy_ai F3 17 = sy_ai F 17 := nz_fa (r1.2 17 (by decide) (by decide))
  have el : sy_ai F3 16 = sy_ai F 16 := nz_fa (r1.2 16 (by decide) (by decide))
  have k83 : sy_i F3 83 = sy_i F 83 := Int32.toInt_inj.mp (nz_fi (p2 83 (by decide) (by decide)))
  have t4 : (tg F3 : Int) ≤ 400 := by
    have := nz_bx g3.1 (k := 33) (lo := 0) (hi := 400) rfl
    unfold tg
    omega
  refine k3zl_14 (by decide) F3 X1 X2 g3.1 ?_ ?_
  all_goals intros
  all_goals first
    | (rename_i F4 hb g e33 e34 eC a39 aC aL
       refine ⟨_, F4, rfl, rfl, g3.trans (gc_mk (W := k3_WL) hb g (by decide)) (fun _ q => q), Or.inl ⟨rfl, ?_⟩, fun zz => absurd zz (by decide)⟩
       rw [tg_eq e33, e34, hr, sLw, y0 (by assumption)]
       rfl)
    | (rename_i F4 hb g e33 e34 eC a39 aC aL e82 e83 e84
       have tt := ty (by assumption)
       have y := y1 (by assumption)
       have te := tg_eq e33
       have k83' : (sy_i F3 83).toInt = (sy_i F 83).toInt := by rw [k83]
       exact k3w30 X1 X2 F0 r0 Z0 al hJ0 hcs0 cC 4 F4 [] (g3.trans (gc_mk (W := k3_WL) hb g (by decide)) (fun _ q => q)) (by omega) (by omega) (Int32.toInt_inj.mp (by rw [e83, ec, hC.1]; simp)) (by omega) (by rw [hr, sLw, y, te]; rfl) (by omega) (by rw [hz, zLw, y, te]; rfl) (Cl_dst hC (eC.trans ec) (aC.trans ea) (by omega)) (by rw [aL, el, hL]) (by omega))
end LZ3
theorem k3pl_TZ {Ls : Nat} {xs : Nat → Int32} (X1 X2 : List jm_c) (F : Nat → sy_d) (a b : Int32) (hB : iv_in F iv_B0) (hJ : jx_ok F) (hcs : (sy_i F 8).toInt ≤ 12 + tg F) (b0 : 0 ≤ b.toInt) (b5 : b.toInt ≤ 5) (ha : 0 ≤ a.toInt ∧ a.toInt ≤ 22) (hk : ((sy_ai F 39).getD (sy_i F 33).toInt.toNat 0).toInt = a.toInt) : jm_T Ls xs 26 jm_M36 [.ref 30, .int a, .int b] (sy_dh F X1 X2 (iv_H 3)) 0 0 (fun v G => ∃ (x : Int32) (F' : Nat → sy_d), v = some (.int x) ∧ G = sy_dh F' X1 X2 (iv_H 3) ∧ plZ 8 17 16 k3_WL b.toInt x F F') := by
  refine nx_T (s := 3) (by decide) F X1 X2 (as := [a, b]) (A := [.inl (.ref 30), .inr (.inl 82), .inr (.inl 83)]) jm_ok36 (by decide) rfl ?_
  obtain ⟨F0, hF0⟩ : ∃ F0, F0 = nx 82 F [a, b] := ⟨_, rfl⟩
  rw [← hF0]
  have k0 : ∀ q, q < 82 → F0 q = F q := by rw [hF0]; exact nx_lt
  have i82 : sy_i F0 82 = a := by rw [hF0]; rfl
  have i83 : sy_i F0 83 = b := by rw [hF0]; rfl
  have hB0 := hd_iveq0 hB k0
  have hJ0 : jx_ok F0 := jx_ok_eq (k0 39 (by decide)) (k0 41 (by decide)) hJ
  have hcs0 : (sy_i F0 8).toInt ≤ 12 + tg F0 := by rw [nz_fi (k0 8 (by decide)), tg_eq (nz_fi (k0 33 (by decide)))]; exact hcs
  have cC := (nz_bx hB0 (k := 8) (lo := 0) (hi := 512) rfl).1
  have hk0 : kg F0 (tg F0) = km a.toInt := by
    show km ((sy_ai F0 39).getD (sy_i F0 33).toInt.toNat 0).toInt = _
    rw [nz_fa (k0 39 (by decide)), nz_fi (k0 33 (by decide)), hk]
  clear hF0
  refine hd_W_mono (Q := fun v G => ∃ (x : Int32) (F' : Nat → sy_d), v = some (.int x) ∧ G = sy_dh F' X1 X2 (iv_H 3) ∧ gc k3_WL F0 F' ∧ ((x = 0 ∧ plr (kg F0) (tg F0) = .inl ((sy_i F' 34).toInt, tg F')) ∨ (x = 1 ∧ plr (kg F0) (tg F0) = .inr (tg F'))) ∧ (x = 1 → plC 8 17 16 (zlr (kg F0) (vg F0) (tg F0)) b.toInt F0 F')) ?_ (by
    rintro v G ⟨x, F', rfl, rfl, h1, h2, h3⟩
    exact ⟨x, F', rfl, rfl, plZ_src ⟨⟨h1, h2⟩, h3⟩ k0 (by decide) (by decide) (by decide)⟩)
  refine k3zl_0 (by decide) F0 X1 X2 hB0 ?_
  intro F hb g e33 e34 eC0 a39 aC0 aL0 e82 e83
  have g0 : gc k3_WL F0 F := gc_mk hb g (by decide)
  have tf := tg_eq e33
  refine hd_calI (R := fun x F' => taR (sy_i F 82).toInt x F F') (nh := 82) (nv := 84) (s := 3) (s1 := 3) (d1 := 3) (M1 := jm_M43) (As := [.inl (.ref 30), .inr (.inl 82)]) (rest := []) jm_ok36 rfl rfl (by decide) (by decide +kernel) (k3ta_T F X1 X2 g0.1 (sy_i F 82)) (fun F3 F' x hR p1 p2 p3 => ?_)
  obtain ⟨r1, r2⟩ := taR_dst hR p1
  rw [e82, i82] at r2
  have r2 := r2 (fun c z => by
    rw [km_r ha.1 ha.2] at z
    have := (km_w (c := c) (k := a.toInt + 20) (by omega) (by omega)).mp z
    omega)
  rw [kg_eq (g0.2 39 (by decide) (by decide)), tg_eq e33, show sM (kg F0) (km a.toInt) (tg F0) = sG (tg F0) by unfold sM; rw [if_pos hk0]] at r2
  have g3 : gc k3_WL F0 F3 := g0.trans r1 (by decide)
  have hx : sy_i F3 84 = x := zz_i p3
  have k82 := nz_fi (p2 82 (by decide) (by decide))
  have r2 : (x = 0 ∧ _) ∨ (x = 1 ∧ _) := r2.imp id (fun q => ⟨q.1, q.2.elim (fun a z => by have := z.2; subst this; exact z.1)⟩)
  rw [← hx] at r2
  obtain ⟨y0, y1⟩ := x01 r2
  have ty : (sy_i F3 84).toInt ≠ 0 → tg F3 = tg F + 1 := fun q => (sG_r (y1 q)).trans (by rw [tf])
  have ec : (sy_i F3 8).toInt = (sy_i F 8).toInt := nz_fi (r1.2 8 (by decide) (by decide))
  have ea : sy_ai F3 17 = sy_ai F 17 := nz_fa (r1.2 17 (by decide) (by decide))
  have el : sy_ai F3 16 = sy_ai F 16 := nz_fa (r1.2 16 (by decide) (by decide))
  have k83 : sy_i F3 83 = sy_i F 83 := Int32.toInt_inj.mp (nz_fi (p2 83 (by decide) (by decide)))
  have t4 : (tg F3 : Int) ≤ 400 := by
    have := nz_bx g3.1 (k := 33) (lo := 0) (hi := 400) rfl
    unfold tg
    omega
  have j83 : (sy_i F0 83).toInt = b.toInt := by rw [i83]
  have k83' : (sy_i F3 83).toInt = (sy_i F 83).toInt := by rw [k83]
  refine k3zl_5 (by decide) F3 X1 X2 g3.1 ?_ ?_
  all_goals intros
  all_goals first
    | (rename_i F4 hb g d33 d34 dC b39 bC bL
       refine ⟨_, F4, rfl, rfl, g3.trans (gc_mk (W := k3_WL) hb g (by decide)) (fun _ q => q), Or.inl ⟨rfl, ?_⟩, fun zz => absurd zz (by decide)⟩
       rw [tg_eq d33, d34, plr, y0 (by assumption)]
       rfl)
    | (rename_i F4 hb g d33 d34 dC b39 bC bL d82 d83
       have tt := ty (by assumption)
       have y := y1 (by assumption)
       have te := tg_eq d33
       exact k3w11 X1 X2 F0 _ _ b.toInt hJ0 hcs0 cC F4 (g3.trans (gc_mk (W := k3_WL) hb g (by decide)) (fun _ q => q)) (by omega) (by omega) (by rw [plr, y, te]; rfl) (by rw [zlr, y, te]; rfl) (Cl_dst Cl_nil ((dC.trans ec).trans eC0) ((bC.trans ea).trans aC0) (by omega)) (by rw [bL, el, aL0]) (by omega))
