/-! ===== the class parses settings: what they are ===== -/
noncomputable def stC (s : Nat) (a : Int) (F0 F' : Nat → sy_d) : Prop := tg F0 < tg F' ∧ (sy_i F' s).toInt = (if a = 8 then vg F0 (tg F0 + 1) else (sy_i F0 s).toInt) ∧ (sy_i F' (s + 1)).toInt = (if a = 9 then vg F0 (tg F0 + 1) else (sy_i F0 (s + 1)).toInt) ∧ (sy_i F' (s + 2)).toInt = (if a = 10 then vg F0 (tg F0 + 1) else (sy_i F0 (s + 2)).toInt)
theorem stC_src {s : Nat} {a : Int} {F F0 F' : Nat → sy_d} (h : stC s a F0 F') (e : ∀ q, q < 82 → F0 q = F q) (hs : s + 2 < 82) : stC s a F F' := by
  unfold stC at h ⊢
  rw [tg_eq (nz_fi (e 33 (by decide))), vg_eq (e 41 (by decide)), nz_fi (e s (by omega)), nz_fi (e (s + 1) (by omega)), nz_fi (e (s + 2) (by omega))] at h
  exact h
section Sk0vg
variable {Ls : Nat} {xs : Nat → Int32} (X1 X2 : List jm_c) (F0 : Nat → sy_d) (r0 : sE ⊕ sT) (fr bu : Nat) (nm : List Int64)
theorem k0vg_c (h0 : (sy_i F0 18).toInt = fr ∧ (sy_i F0 19).toInt = bu ∧ (sy_i F0 38).toInt ≤ fr + bu ∧ ncr nm F0) (F : Nat → sy_d) (g0 : gc [33, 34, 36, 37, 44] F0 F) (w : sE) (hw : wc (pg F0) w F) (a : Int) (h8 : 8 ≤ a ∧ a ≤ 10) (e82 : (sy_i F 82).toInt = a) (ht0 : tg F = tg F0 + 2) (n0 : ((sy_ai F 44).getD 0 0).toInt = vg F0 (tg F0 + 1)) (hr : r0 = n4 (kg F0) (fun q => .inr (q.1, fr, bu, nm, q.2)) (tg F, w)) :
    hd_W Ls xs 5 jm_M35 (fun v G => ∃ (x : Int32) (F' : Nat → sy_d), v = some (.int x) ∧ G = sy_dh F' X1 X2 (iv_H 0) ∧ gc k0pg_W F0 F' ∧ ac r0 (rcl (pg F0) 18 19) x F' ∧ (x = 1 → stC 20 a F0 F')) (47, sy_dL F [some (.inl (.ref 30)), some (.inr (.inl 82)), none], sy_dS F [.inl (.int 59), .inl (.ref 30)], sy_dh F X1 X2 (iv_H 0), 0, 0) := by
  refine hd_calI (R := fun x F' => taR ((59 : Int32)).toInt x F F') (nh := 82) (nv := 83) (s := 0) (s1 := 0) (d1 := 3) (M1 := jm_M43) (As := [.inl (.ref 30), .inl (.int 59)]) (rest := []) jm_ok35 rfl rfl (by decide) (by decide +kernel) (k0ta_T F X1 X2 g0.1 59) (fun F3 F' x hR p1 p2 p3 => ?_)
  have hR : taR 59 x F F' := hR
  obtain ⟨r1, r2⟩ := taR_dst hR p1
  have r2 := r2 (km_in (j := 4) (fun c => km_4) (by decide))
  rw [show km 59 = 4 by decide, kg_eq (g0.2 39 (by decide) (by decide))] at r2
  have g3 : gc [33, 34, 36, 37, 44] F0 F3 := g0.trans r1 (by decide)
  have hx : sy_i F3 83 = x := zz_i p3
  rw [← hx] at r2
  obtain ⟨y0, y1⟩ := x01' r2
  have f1 := g3.i (k := 18) (by decide) (by decide)
  have f2 := g3.i (k := 19) (by decide) (by decide)
  have f3 := g3.i (k := 38) (by decide) (by decide)
  have i36 := r1.i (k := 36) (by decide) (by decide)
  have i37 := r1.i (k := 37) (by decide) (by decide)
  refine k0zpg_50 (by decide) F3 X1 X2 g3.1 ?_ ?_ ?_ ?_
  · intro q _ _ F4 hb g e33 e34 e36 e37 e38 eFR eBU eS0 eS1 eS2 a39
    obtain ⟨t, ht, hJ⟩ := y1 q
    have t3 : tg F3 = tg F + 1 := by rw [hJ]; exact sM_r ht
    have k82 := nz_fi (p2 82 (by decide) (by decide))
    have v0 : ((sy_ai F3 44).getD (0 : Int).toNat 0).toInt = vg F0 (tg F0 + 1) := by rw [show sy_ai F3 44 = sy_ai F 44 from nz_fa (r1.2 44 (by decide) (by decide))]; exact n0
    have u0 := g3.i (k := 20) (by decide) (by decide)
    have u1 := g3.i (k := 21) (by decide) (by decide)
    have u2 := g3.i (k := 22) (by decide) (by decide)
    refine ⟨_, F4, rfl, rfl, (g3.mono (by decide)).trans (gc_mk (W := k0pg_W) hb g (by decide)) (fun _ q => q), ac_ok (by rw [hr, n4, ht]; rfl) ⟨by rw [tg_eq e33]; exact hJ, by show _ = ((fr : Nat) : Int); omega, by show _ = ((bu : Nat) : Int); omega, ncr_eq h0.2.2.2 ((g 43 (by decide) (by decide)).trans (g3.2 43 (by decide) (by decide))) (by omega), wc_eq hw (by omega) (by omega), by show _ ≤ ((fr : Nat) : Int) + ((bu : Nat) : Int); omega⟩, fun _ => ⟨by rw [tg_eq e33]; omega, by split <;> omega, by show (sy_i F4 21).toInt = (if a = 9 then vg F0 (tg F0 + 1) else (sy_i F0 21).toInt); split <;> omega, by show (sy_i F4 22).toInt = (if a = 10 then vg F0 (tg F0 + 1) else (sy_i F0 22).toInt); split <;> omega⟩⟩
  · intro q _ _ F4 hb g e33 e34 e36 e37 e38 eFR eBU eS0 eS1 eS2 a39
    obtain ⟨t, ht, hJ⟩ := y1 q
    have t3 : tg F3 = tg F + 1 := by rw [hJ]; exact sM_r ht
    have k82 := nz_fi (p2 82 (by decide) (by decide))
    have v0 : ((sy_ai F3 44).getD (0 : Int).toNat 0).toInt = vg F0 (tg F0 + 1) := by rw [show sy_ai F3 44 = sy_ai F 44 from nz_fa (r1.2 44 (by decide) (by decide))]; exact n0
    have u0 := g3.i (k := 20) (by decide) (by decide)
    have u1 := g3.i (k := 21) (by decide) (by decide)
    have u2 := g3.i (k := 22) (by decide) (by decide)
    refine ⟨_, F4, rfl, rfl, (g3.mono (by decide)).trans (gc_mk (W := k0pg_W) hb g (by decide)) (fun _ q => q), ac_ok (by rw [hr, n4, ht]; rfl) ⟨by rw [tg_eq e33]; exact hJ, by show _ = ((fr : Nat) : Int); omega, by show _ = ((bu : Nat) : Int); omega, ncr_eq h0.2.2.2 ((g 43 (by decide) (by decide)).trans (g3.2 43 (by decide) (by decide))) (by omega), wc_eq hw (by omega) (by omega), by show _ ≤ ((fr : Nat) : Int) + ((bu : Nat) : Int); omega⟩, fun _ => ⟨by rw [tg_eq e33]; omega, by split <;> omega, by show (sy_i F4 21).toInt = (if a = 9 then vg F0 (tg F0 + 1) else (sy_i F0 21).toInt); split <;> omega, by show (sy_i F4 22).toInt = (if a = 10 then vg F0 (tg F0 + 1) else (sy_i F0 22).toInt); split <;> omega⟩⟩
  · intro q _ F4 hb g e33 e34 e36 e37 e38 eFR eBU eS0 eS1 eS2 a39
    obtain ⟨t, ht, hJ⟩ := y1 q
    have t3 : tg F3 = tg F + 1 := by rw [hJ]; exact sM_r ht
    have k82 := nz_fi (p2 82 (by decide) (by decide))
    have v0 : ((sy_ai F3 44).getD (0 : Int).toNat 0).toInt = vg F0 (tg F0 + 1) := by rw [show sy_ai F3 44 = sy_ai F 44 from nz_fa (r1.2 44 (by decide) (by decide))]; exact n0
    have u0 := g3.i (k := 20) (by decide) (by decide)
    have u1 := g3.i (k := 21) (by decide) (by decide)
    have u2 := g3.i (k := 22) (by decide) (by decide)
    refine ⟨_, F4, rfl, rfl, (g3.mono (by decide)).trans (gc_mk (W := k0pg_W) hb g (by decide)) (fun _ q => q), ac_ok (by rw [hr, n4, ht]; rfl) ⟨by rw [tg_eq e33]; exact hJ, by show _ = ((fr : Nat) : Int); omega, by show _ = ((bu : Nat) : Int); omega, ncr_eq h0.2.2.2 ((g 43 (by decide) (by decide)).trans (g3.2 43 (by decide) (by decide))) (by omega), wc_eq hw (by omega) (by omega), by show _ ≤ ((fr : Nat) : Int) + ((bu : Nat) : Int); omega⟩, fun _ => ⟨by rw [tg_eq e33]; omega, by split <;> omega, by show (sy_i F4 21).toInt = (if a = 9 then vg F0 (tg F0 + 1) else (sy_i F0 21).toInt); split <;> omega, by show (sy_i F4 22).toInt = (if a = 10 then vg F0 (tg F0 + 1) else (sy_i F0 22).toInt); split <;> omega⟩⟩
  · intro q F4 hb g e33 e34 e36 e37 e38 eFR eBU eS0 eS1 eS2 a39
    refine ⟨_, F4, rfl, rfl, (g3.mono (by decide)).trans (gc_mk (W := k0pg_W) hb g (by decide)) (fun _ q => q), Or.inl ⟨rfl, ?_⟩, fun zz => absurd zz (by decide)⟩
    rw [hr, n4, y0 q, e34, tg_eq e33]
    rfl
theorem k0vg_b (h0 : (sy_i F0 18).toInt = fr ∧ (sy_i F0 19).toInt = bu ∧ (sy_i F0 38).toInt ≤ fr + bu ∧ ncr nm F0) (F : Nat → sy_d) (g0 : gc [33, 34, 36, 37, 44] F0 F) (w : sE) (hw : wc (pg F0) w F) (a : Int) (h8 : 8 ≤ a ∧ a ≤ 10) (e82' : (sy_i F 82).toInt = a) (ht0 : tg F = tg F0 + 1) (hr : r0 = n3 (kg F0) (vg F0) (0, (sy_i F 83).toInt) (fun q => .inr (q.1, fr, bu, nm, q.2)) (tg F, w)) :
    hd_W Ls xs 5 jm_M35 (fun v G => ∃ (x : Int32) (F' : Nat → sy_d), v = some (.int x) ∧ G = sy_dh F' X1 X2 (iv_H 0) ∧ gc k0pg_W F0 F' ∧ ac r0 (rcl (pg F0) 18 19) x F' ∧ (x = 1 → stC 20 a F0 F')) (38, sy_dL F [some (.inl (.ref 30)), some (.inr (.inl 82)), none], sy_dS F [.inr (.inl 83), .inl (.int 0), .inl (.int 0), .inl (.ref 30)], sy_dh F X1 X2 (iv_H 0), 0, 0) := by
  refine hd_calI (R := fun x F' => tnZ 0 ((0 : Int32)).toInt (sy_i F 83).toInt x F F') (nh := 82) (nv := 84) (s := 0) (s1 := 0) (d1 := 4) (M1 := jm_M42) (As := [.inl (.ref 30), .inl (.int 0), .inl (.int 0), .inr (.inl 83)]) (rest := []) jm_ok35 rfl rfl (by decide) (by decide +kernel) (k0tn_TZ F X1 X2 g0.1 0 0 (sy_i F 83) (by decide) (by decide)) (fun F3 F' x hR p1 p2 p3 => ?_)
  obtain ⟨hR, hv⟩ : tnZ 0 0 (sy_i F 83).toInt x F F' := hR
  obtain ⟨r1, r2⟩ := tnR_dst hR p1
  rw [kg_eq (g0.2 39 (by decide) (by decide)), pg_eq (g0.2 40 (by decide) (by decide)), vg_eq (g0.2 41 (by decide) (by decide))] at r2
  have r2 := r2 w hw
  have g3 : gc [33, 34, 36, 37, 44] F0 F3 := g0.trans r1 (fun _ q => q)
  have hx : sy_i F3 84 = x := zz_i p3
  have hx1 : (sy_i F3 84).toInt ≠ 0 → x = 1 := fun q => ac_1 r2 (by rw [← hx]; exact q)
  rw [← hx] at r2
  have k82 := nz_fi (p2 82 (by decide) (by decide))
  obtain ⟨y0, y1⟩ := x01' r2
  refine k0pg_41 (by decide) F3 X1 X2 g3.1 ?_ ?_
  · intro q F4 hb g e33 e34 e36 e37 e38 eFR eBU a39
    refine ⟨_, F4, rfl, rfl, (g3.mono (by decide)).trans (gc_mk (W := k0pg_W) hb g (by decide)) (fun _ q => q), Or.inl ⟨rfl, ?_⟩, fun zz => absurd zz (by decide)⟩
    rw [hr, n3, y0 q, e34, tg_eq e33]
    rfl
  · intro q F4 hb g e33 e34 e36 e37 e38 eFR eBU a39 e82
    obtain ⟨⟨t, w'⟩, ht, hJ1, hJ2⟩ := y1 q
    have hJ1 : tg F3 = t := hJ1
    subst hJ1
    obtain ⟨hv1, v, hv2, hv3⟩ := hv (hx1 q)
    rw [vg_eq (g0.2 41 (by decide) (by decide)), ht0] at hv2
    have a44 : sy_ai F4 44 = jm_upd (sy_ai F 44) 0 v := ((nz_fa (g 44 (by decide) (by decide))).trans (nz_fa (p1 44 (by decide)))).trans hv3
    have t3 : tg F3 = tg F + 1 := (tg_eq (nz_fi (p1 33 (by decide)))).trans hv1
    exact k0vg_c X1 X2 F0 r0 fr bu nm h0 F4 (g3.trans (gc_mk (W := [33, 34, 36, 37, 44]) hb g (by decide)) (fun _ q => q)) w' (wc_eq hJ2 e36 e37) a h8 (by omega) (by rw [tg_eq e33, t3, ht0]) (by rw [a44, jm_upd_at, if_pos rfl]; exact hv2) (by rw [hr, n3, ht, tg_eq e33]; rfl)
theorem k0vg_a (h0 : (sy_i F0 18).toInt = fr ∧ (sy_i F0 19).toInt = bu ∧ (sy_i F0 38).toInt ≤ fr + bu ∧ ncr nm F0) (F : Nat → sy_d) (g0 : gc [33, 34, 36, 37, 44] F0 F) (w : sE) (hw : wc (pg F0) w F) (a : Int) (ha : 0 ≤ a ∧ a ≤ 22) (e82 : (sy_i F 82).toInt = a) (hk : kg F0 (tg F0) = km a) (ht0 : tg F = tg F0) (h8 : 8 ≤ a ∧ a ≤ 10) (hr : r0 = sB (sG (tg F)) (fun t => n3 (kg F0) (vg F0) (0, (sy_i F 83).toInt) (fun q => .inr (q.1, fr, bu, nm, q.2)) (t, w))) :
    hd_W Ls xs 5 jm_M35 (fun v G => ∃ (x : Int32) (F' : Nat → sy_d), v = some (.int x) ∧ G = sy_dh F' X1 X2 (iv_H 0) ∧ gc k0pg_W F0 F' ∧ ac r0 (rcl (pg F0) 18 19) x F' ∧ (x = 1 → stC 20 a F0 F')) (28, sy_dL F [some (.inl (.ref 30)), some (.inr (.inl 82)), some (.inr (.inl 83))], sy_dS F [.inr (.inl 82), .inl (.ref 30)], sy_dh F X1 X2 (iv_H 0), 0, 0) := by
  refine hd_calI (R := fun x F' => taR (sy_i F 82).toInt x F F') (nh := 82) (nv := 84) (s := 0) (s1 := 0) (d1 := 3) (M1 := jm_M43) (As := [.inl (.ref 30), .inr (.inl 82)]) (rest := []) jm_ok35 rfl rfl (by decide) (by decide +kernel) (k0ta_T F X1 X2 g0.1 (sy_i F 82)) (fun F3 F' x hR p1 p2 p3 => ?_)
  obtain ⟨r1, r2⟩ := taR_dst hR p1
  rw [e82] at r2
  have r2 := r2 (fun c z => by
    rw [km_r ha.1 ha.2] at z
    have := (km_w (c := c) (k := a + 20) (by omega) (by omega)).mp z
    omega)
  rw [kg_eq (g0.2 39 (by decide) (by decide)), ht0, show sM (kg F0) (km a) (tg F0) = sG (tg F0) by unfold sM; rw [if_pos hk], ← ht0] at r2
  have g3 : gc [33, 34, 36, 37, 44] F0 F3 := g0.trans r1 (by decide)
  have hx : sy_i F3 84 = x := zz_i p3
  rw [← hx] at r2
  obtain ⟨y0, y1⟩ := x01' r2
  have i36 := r1.i (k := 36) (by decide) (by decide)
  have i37 := r1.i (k := 37) (by decide) (by decide)
  have k82 := nz_fi (p2 82 (by decide) (by decide))
  have k83 := nz_fi (p2 83 (by decide) (by decide))
  refine k0pg_31 (by decide) F3 X1 X2 g3.1 ?_ ?_
  · intro q F4 hb g e33 e34 e36 e37 e38 eFR eBU a39
    refine ⟨_, F4, rfl, rfl, (g3.mono (by decide)).trans (gc_mk (W := k0pg_W) hb g (by decide)) (fun _ q => q), Or.inl ⟨rfl, ?_⟩, fun zz => absurd zz (by decide)⟩
    rw [hr, y0 q, e34, tg_eq e33]
    rfl
  · intro q F4 hb g e33 e34 e36 e37 e38 eFR eBU a39 d82 d83
    obtain ⟨t, ht, hJ1⟩ := y1 q
    have hJ1 : tg F3 = t := hJ1
    subst hJ1
    have t3 : tg F3 = tg F + 1 := sG_r ht
    exact k0vg_b X1 X2 F0 r0 fr bu nm h0 F4 (g3.trans (gc_mk (W := [33, 34, 36, 37, 44]) hb g (by decide)) (fun _ q => q)) w (wc_eq hw (by omega) (by omega)) a h8 (by omega) (by rw [tg_eq e33, t3, ht0]) (by rw [hr, ht, tg_eq e33, d83, k83]; rfl)
end Sk0vg
theorem k0vg_T {Ls : Nat} {xs : Nat → Int32} (X1 X2 : List jm_c) (F : Nat → sy_d) (hB : iv_in F iv_B0) (a : Int32) (ha : 8 ≤ a.toInt ∧ a.toInt ≤ 10) (hk : kg F (tg F) = km a.toInt) (x : sT) (hx : rcl (pg F) 18 19 x F) : jm_T Ls xs 5 jm_M35 [.ref 30, .int a] (sy_dh F X1 X2 (iv_H 0)) 0 0 (fun v G => ∃ (y : Int32) (F' : Nat → sy_d), v = some (.int y) ∧ G = sy_dh F' X1 X2 (iv_H 0) ∧ gc k0pg_W F F' ∧ ac (sSet (kg F) (vg F) (sHi a.toInt) x) (rcl (pg F) 18 19) y F' ∧ (y = 1 → stC 20 a.toInt F F')) := by
  refine nx_T (s := 0) (by decide) F X1 X2 (as := [a]) (A := [.inl (.ref 30), .inr (.inl 82)]) jm_ok35 (by decide) rfl ?_
  obtain ⟨F0, hF0⟩ : ∃ F0, F0 = nx 82 F [a] := ⟨_, rfl⟩
  rw [← hF0]
  have k0 : ∀ q, q < 82 → F0 q = F q := by rw [hF0]; exact nx_lt
  have i82 : sy_i F0 82 = a := by rw [hF0]; rfl
  clear hF0
  have hB0 := hd_iveq0 hB k0
  have eK : kg F0 = kg F := kg_eq (k0 39 (by decide))
  have eV : vg F0 = vg F := vg_eq (k0 41 (by decide))
  have eP : pg F0 = pg F := pg_eq (k0 40 (by decide))
  have eT : tg F0 = tg F := tg_eq (nz_fi (k0 33 (by decide)))
  rw [← eK, ← eV, ← eP]
  rw [← eK, ← eT] at hk
  rw [← eP] at hx
  refine hd_W_mono (Q := fun v G => ∃ (x' : Int32) (F' : Nat → sy_d), v = some (.int x') ∧ G = sy_dh F' X1 X2 (iv_H 0) ∧ gc k0pg_W F0 F' ∧ ac (sSet (kg F0) (vg F0) (sHi a.toInt) x) (rcl (pg F0) 18 19) x' F' ∧ (x' = 1 → stC 20 a.toInt F0 F')) ?_ (by
    rintro v G ⟨x, F', rfl, rfl, h1, h2, h3⟩
    exact ⟨x, F', rfl, rfl, h1.src k0, h2, fun z => stC_src (h3 z) k0 (by decide)⟩)
  obtain ⟨t, fr, bu, nm, w⟩ := x
  obtain ⟨x1, x2, x3, x4, x5, x6⟩ := hx
  have x1 : tg F = t := x1
  subst x1
  have x2 : (sy_i F 18).toInt = fr := x2
  have x3 : (sy_i F 19).toInt = bu := x3
  have x4 : ncr nm F := x4
  have x5 : wc (pg F0) w F := x5
  have x6 : (sy_i F 38).toInt ≤ fr + bu := x6
  have j1 := nz_fi (k0 18 (by decide))
  have j2 := nz_fi (k0 19 (by decide))
  have j3 := nz_fi (k0 38 (by decide))
  have j4 := nz_fi (k0 36 (by decide))
  have j5 := nz_fi (k0 37 (by decide))
  have hS : ∀ hi, sSet (kg F0) (vg F0) hi (tg F, fr, bu, nm, w) = sB (sG (tg F)) (fun t => n3 (kg F0) (vg F0) (0, hi) (fun q => .inr (q.1, fr, bu, nm, q.2)) (t, w)) := fun hi => by
    unfold sSet sSt n3 n4
    simp only [sB_a]
    rfl
  have go : ∀ F1 : Nat → sy_d, iv_in F1 iv_B0 → (∀ j, j < 82 → j ∉ ([] : List Nat) → F1 j = F0 j) → (sy_i F1 33).toInt = (sy_i F0 33).toInt → (sy_i F1 36).toInt = (sy_i F0 36).toInt → (sy_i F1 37).toInt = (sy_i F0 37).toInt → (sy_i F1 82).toInt = (sy_i F0 82).toInt → (sy_i F1 83).toInt = sHi a.toInt → _ := fun F1 hb g e33 e36 e37 e82 e83 =>
    k0vg_a (Ls := Ls) (xs := xs) X1 X2 F0 (sSet (kg F0) (vg F0) (sHi a.toInt) (tg F, fr, bu, nm, w)) fr bu nm ⟨by omega, by omega, by omega, ncr_eq x4 (k0 43 (by decide)) (by omega)⟩ F1 (gc_mk hb g (by decide)) w (wc_eq x5 (by omega) (by omega)) a.toInt (by omega) (by rw [e82, i82]) hk (tg_eq e33) ha (by rw [hS, tg_eq e33, eT, e83])
  refine k0pg_0 (by decide) F0 X1 X2 hB0 ?_ ?_ ?_
  all_goals
    intros
    rename_i F1 hb g e33 e34 e36 e37 e38 eFR eBU a39 e82 e83
    refine go F1 hb g e33 e36 e37 e82 ?_
    rw [i82] at *
    rw [e83]
    unfold sHi
    split <;> omega
section Sk3vg
variable {Ls : Nat} {xs : Nat → Int32} (X1 X2 : List jm_c) (F0 : Nat → sy_d) (r0 : sE ⊕ sT) (fr bu : Nat) (nm : List Int64)
theorem k3vg_c (h0 : (sy_i F0 3).toInt = fr ∧ (sy_i F0 4).toInt = bu ∧ (sy_i F0 38).toInt ≤ fr + bu ∧ ncr nm F0) (F : Nat → sy_d) (g0 : gc [33, 34, 36, 37, 44] F0 F) (w : sE) (hw : wc (pg F0) w F) (a : Int) (h8 : 8 ≤ a ∧ a ≤ 10) (e82 : (sy_i F 82).toInt = a) (ht0 : tg F = tg F0 + 2) (n0 : ((sy_ai F 44).getD 0 0).toInt = vg F0 (tg F0 + 1)) (hr : r0 = n4 (kg F0) (fun q => .inr (q.1, fr, bu, nm, q.2)) (tg F, w)) :
    hd_W Ls xs 5 jm_M35 (fun v G => ∃ (x : Int32) (F' : Nat → sy_d), v = some (.int x) ∧ G = sy_dh F' X1 X2 (iv_H 3) ∧ gc k3pg_W F0 F' ∧ ac r0 (rcl (pg F0) 3 4) x F' ∧ (x = 1 → stC 5 a F0 F')) (47, sy_dL F [some (.inl (.ref 30)), some (.inr (.inl 82)), none], sy_dS F [.inl (.int 59), .inl (.ref 30)], sy_dh F X1 X2 (iv_H 3), 0, 0) := by
  refine hd_calI (R := fun x F' => taR ((59 : Int32)).toInt x F F') (nh := 82) (nv := 83) (s := 3) (s1 := 3) (d1 := 3) (M1 := jm_M43) (As := [.inl (.ref 30), .inl (.int 59)]) (rest := []) jm_ok35 rfl rfl (by decide) (by decide +kernel) (k3ta_T F X1 X2 g0.1 59) (fun F3 F' x hR p1 p2 p3 => ?_)
  have hR : taR 59 x F F' := hR
  obtain ⟨r1, r2⟩ := taR_dst hR p1
  have r2 := r2 (km_in (j := 4) (fun c => km_4) (by decide))
  rw [show km 59 = 4 by decide, kg_eq (g0.2 39 (by decide) (by decide))] at r2
  have g3 : gc [33, 34, 36, 37, 44] F0 F3 := g0.trans r1 (by decide)
  have hx : sy_i F3 83 = x := zz_i p3
  rw [← hx] at r2
  obtain ⟨y0, y1⟩ := x01' r2
  have f1 := g3.i (k := 3) (by decide) (by decide)
  have f2 := g3.i (k := 4) (by decide) (by decide)
  have f3 := g3.i (k := 38) (by decide) (by decide)
  have i36 := r1.i (k := 36) (by decide) (by decide)
  have i37 := r1.i (k := 37) (by decide) (by decide)
  refine k3zpg_50 (by decide) F3 X1 X2 g3.1 ?_ ?_ ?_ ?_
  · intro q _ _ F4 hb g e33 e34 e36 e37 e38 eFR eBU eS0 eS1 eS2 a39
    obtain ⟨t, ht, hJ⟩ := y1 q
    have t3 : tg F3 = tg F + 1 := by rw [hJ]; exact sM_r ht
    have k82 := nz_fi (p2 82 (by decide) (by decide))
    have v0 : ((sy_ai F3 44).getD (0 : Int).toNat 0).toInt = vg F0 (tg F0 + 1) := by rw [show sy_ai F3 44 = sy_ai F 44 from nz_fa (r1.2 44 (by decide) (by decide))]; exact n0
    have u0 := g3.i (k := 5) (by decide) (by decide)
    have u1 := g3.i (k := 6) (by decide) (by decide)
    have u2 := g3.i (k := 7) (by decide) (by decide)
    refine ⟨_, F4, rfl, rfl, (g3.mono (by decide)).trans (gc_mk (W := k3pg_W) hb g (by decide)) (fun _ q => q), ac_ok (by rw [hr, n4, ht]; rfl) ⟨by rw [tg_eq e33]; exact hJ, by show _ = ((fr : Nat) : Int); omega, by show _ = ((bu : Nat) : Int); omega, ncr_eq h0.2.2.2 ((g 43 (by decide) (by decide)).trans (g3.2 43 (by decide) (by decide))) (by omega), wc_eq hw (by omega) (by omega), by show _ ≤ ((fr : Nat) : Int) + ((bu : Nat) : Int); omega⟩, fun _ => ⟨by rw [tg_eq e33]; omega, by split <;> omega, by show (sy_i F4 6).toInt = (if a = 9 then vg F0 (tg F0 + 1) else (sy_i F0 6).toInt); split <;> omega, by show (sy_i F4 7).toInt = (if a = 10 then vg F0 (tg F0 + 1) else (sy_i F0 7).toInt); split <;> omega⟩⟩
  · intro q _ _ F4 hb g e33 e34 e36 e37 e38 eFR eBU eS0 eS1 eS2 a39
    obtain ⟨t, ht, hJ⟩ := y1 q
    have t3 : tg F3 = tg F + 1 := by rw [hJ]; exact sM_r ht
    have k82 := nz_fi (p2 82 (by decide) (by decide))
    have v0 : ((sy_ai F3 44).getD (0 : Int).toNat 0).toInt = vg F0 (tg F0 + 1) := by rw [show sy_ai F3 44 = sy_ai F 44 from nz_fa (r1.2 44 (by decide) (by decide))]; exact n0
    have u0 := g3.i (k := 5) (by decide) (by decide)
    have u1 := g3.i (k := 6) (by decide) (by decide)
    have u2 := g3.i (k := 7) (by decide) (by decide)
    refine ⟨_, F4, rfl, rfl, (g3.mono (by decide)).trans (gc_mk (W := k3pg_W) hb g (by decide)) (fun _ q => q), ac_ok (by rw [hr, n4, ht]; rfl) ⟨by rw [tg_eq e33]; exact hJ, by show _ = ((fr : Nat) : Int); omega, by show _ = ((bu : Nat) : Int); omega, ncr_eq h0.2.2.2 ((g 43 (by decide) (by decide)).trans (g3.2 43 (by decide) (by decide))) (by omega), wc_eq hw (by omega) (by omega), by show _ ≤ ((fr : Nat) : Int) + ((bu : Nat) : Int); omega⟩, fun _ => ⟨by rw [tg_eq e33]; omega, by split <;> omega, by show (sy_i F4 6).toInt = (if a = 9 then vg F0 (tg F0 + 1) else (sy_i F0 6).toInt); split <;> omega, by show (sy_i F4 7).toInt = (if a = 10 then vg F0 (tg F0 + 1) else (sy_i F0 7).toInt); split <;> omega⟩⟩
  · intro q _ F4 hb g e33 e34 e36 e37 e38 eFR eBU eS0 eS1 eS2 a39
    obtain ⟨t, ht, hJ⟩ := y1 q
    have t3 : tg F3 = tg F + 1 := by rw [hJ]; exact sM_r ht
    have k82 := nz_fi (p2 82 (by decide) (by decide))
    have v0 : ((sy_ai F3 44).getD (0 : Int).toNat 0).toInt = vg F0 (tg F0 + 1) := by rw [show sy_ai F3 44 = sy_ai F 44 from nz_fa (r1.2 44 (by decide) (by decide))]; exact n0
    have u0 := g3.i (k := 5) (by decide) (by decide)
    have u1 := g3.i (k := 6) (by decide) (by decide)
    have u2 := g3.i (k := 7) (by decide) (by decide)
    refine ⟨_, F4, rfl, rfl, (g3.mono (by decide)).trans (gc_mk (W := k3pg_W) hb g (by decide)) (fun _ q => q), ac_ok (by rw [hr, n4, ht]; rfl) ⟨by rw [tg_eq e33]; exact hJ, by show _ = ((fr : Nat) : Int); omega, by show _ = ((bu : Nat) : Int); omega, ncr_eq h0.2.2.2 ((g 43 (by decide) (by decide)).trans (g3.2 43 (by decide) (by decide))) (by omega), wc_eq hw (by omega) (by omega), by show _ ≤ ((fr : Nat) : Int) + ((bu : Nat) : Int); omega⟩, fun _ => ⟨by rw [tg_eq e33]; omega, by split <;> omega, by show (sy_i F4 6).toInt = (if a = 9 then vg F0 (tg F0 + 1) else (sy_i F0 6).toInt); split <;> omega, by show (sy_i F4 7).toInt = (if a = 10 then vg F0 (tg F0 + 1) else (sy_i F0 7).toInt); split <;> omega⟩⟩
  · intro q F4 hb g e33 e34 e36 e37 e38 eFR eBU eS0 eS1 eS2 a39
    refine ⟨_, F4, rfl, rfl, (g3.mono (by decide)).trans (gc_mk (W := k3pg_W) hb g (by decide)) (fun _ q => q), Or.inl ⟨rfl, ?_⟩, fun zz => absurd zz (by decide)⟩
    rw [hr, n4, y0 q, e34, tg_eq e33]
    rfl
theorem k3vg_b (h0 : (sy_i F0 3).toInt = fr ∧ (sy_i F0 4).toInt = bu ∧ (sy_i F0 38).toInt ≤ fr + bu ∧ ncr nm F0) (F : Nat → sy_d) (g0 : gc [33, 34, 36, 37, 44] F0 F) (w : sE) (hw : wc (pg F0) w F) (a : Int) (h8 : 8 ≤ a ∧ a ≤ 10) (e82' : (sy_i F 82).toInt = a) (ht0 : tg F = tg F0 + 1) (hr : r0 = n3 (kg F0) (vg F0) (0, (sy_i F 83).toInt) (fun q => .inr (q.1, fr, bu, nm, q.2)) (tg F, w)) :
    hd_W Ls xs 5 jm_M35 (fun v G => ∃ (x : Int32) (F' : Nat → sy_d), v = some (.int x) ∧ G = sy_dh F' X1 X2 (iv_H 3) ∧ gc k3pg_W F0 F' ∧ ac r0 (rcl (pg F0) 3 4) x F' ∧ (x = 1 → stC 5 a F0 F')) (38, sy_dL F [some (.inl (.ref 30)), some (.inr (.inl 82)), none], sy_dS F [.inr (.inl 83), .inl (.int 0), .inl (.int 0), .inl (.ref 30)], sy_dh F X1 X2 (iv_H 3), 0, 0) := by
  refine hd_calI (R := fun x F' => tnZ 0 ((0 : Int32)).toInt (sy_i F 83).toInt x F F') (nh := 82) (nv := 84) (s := 3) (s1 := 3) (d1 := 4) (M1 := jm_M42) (As := [.inl (.ref 30), .inl (.int 0), .inl (.int 0), .inr (.inl 83)]) (rest := []) jm_ok35 rfl rfl (by decide) (by decide +kernel) (k3tn_TZ F X1 X2 g0.1 0 0 (sy_i F 83) (by decide) (by decide)) (fun F3 F' x hR p1 p2 p3 => ?_)
  obtain ⟨hR, hv⟩ : tnZ 0 0 (sy_i F 83).toInt x F F' := hR
  obtain ⟨r1, r2⟩ := tnR_dst hR p1
  rw [kg_eq (g0.2 39 (by decide) (by decide)), pg_eq (g0.2 40 (by decide) (by decide)), vg_eq (g0.2 41 (by decide) (by decide))] at r2
  have r2 := r2 w hw
  have g3 : gc [33, 34, 36, 37, 44] F0 F3 := g0.trans r1 (fun _ q => q)
  have hx : sy_i F3 84 = x := zz_i p3
  have hx1 : (sy_i F3 84).toInt ≠ 0 → x = 1 := fun q => ac_1 r2 (by rw [← hx]; exact q)
  rw [← hx] at r2
  have k82 := nz_fi (p2 82 (by decide) (by decide))
  obtain ⟨y0, y1⟩ := x01' r2
  refine k3pg_41 (by decide) F3 X1 X2 g3.1 ?_ ?_
  · intro q F4 hb g e33 e34 e36 e37 e38 eFR eBU a39
    refine ⟨_, F4, rfl, rfl, (g3.mono (by decide)).trans (gc_mk (W := k3pg_W) hb g (by decide)) (fun _ q => q), Or.inl ⟨rfl, ?_⟩, fun zz => absurd zz (by decide)⟩
    rw [hr, n3, y0 q, e34, tg_eq e33]
    rfl
  · intro q F4 hb g e33 e34 e36 e37 e38 eFR eBU a39 e82
    obtain ⟨⟨t, w'⟩, ht, hJ1, hJ2⟩ := y1 q
    have hJ1 : tg F3 = t := hJ1
    subst hJ1
    obtain ⟨hv1, v, hv2, hv3⟩ := hv (hx1 q)
    rw [vg_eq (g0.2 41 (by decide) (by decide)), ht0] at hv2
    have a44 : sy_ai F4 44 = jm_upd (sy_ai F 44) 0 v := ((nz_fa (g 44 (by decide) (by decide))).trans (nz_fa (p1 44 (by decide)))).trans hv3
    have t3 : tg F3 = tg F + 1 := (tg_eq (nz_fi (p1 33 (by decide)))).trans hv1
    exact k3vg_c X1 X2 F0 r0 fr bu nm h0 F4 (g3.trans (gc_mk (W := [33, 34, 36, 37, 44]) hb g (by decide)) (fun _ q => q)) w' (wc_eq hJ2 e36 e37) a h8 (by omega) (by rw [tg_eq e33, t3, ht0]) (by rw [a44, jm_upd_at, if_pos rfl]; exact hv2) (by rw [hr, n3, ht, tg_eq e33]; rfl)
theorem k3vg_a (h0 : (sy_i F0 3).toInt = fr ∧ (sy_i F0 4).toInt = bu ∧ (sy_i F0 38).toInt ≤ fr + bu ∧ ncr nm F0) (F : Nat → sy_d) (g0 : gc [33, 34, 36, 37, 44] F0 F) (w : sE) (hw : wc (pg F0) w F) (a : Int) (ha : 0 ≤ a ∧ a ≤ 22) (e82 : (sy_i F 82).toInt = a) (hk : kg F0 (tg F0) = km a) (ht0 : tg F = tg F0) (h8 : 8 ≤ a ∧ a ≤ 10) (hr : r0 = sB (sG (tg F)) (fun t => n3 (kg F0) (vg F0) (0, (sy_i F 83).toInt) (fun q => .inr (q.1, fr, bu, nm, q.2)) (t, w))) :
    hd_W Ls xs 5 jm_M35 (fun v G => ∃ (x : Int32) (F' : Nat → sy_d), v = some (.int x) ∧ G = sy_dh F' X1 X2 (iv_H 3) ∧ gc k3pg_W F0 F' ∧ ac r0 (rcl (pg F0) 3 4) x F' ∧ (x = 1 → stC 5 a F0 F')) (28, sy_dL F [some (.inl (.ref 30)), some (.inr (.inl 82)), some (.inr (.inl 83))], sy_dS F [.inr (.inl 82), .inl (.ref 30)], sy_dh F X1 X2 (iv_H 3), 0, 0) := by
  refine hd_calI (R := fun x F' => taR (sy_i F 82).toInt x F F') (nh := 82) (nv := 84) (s := 3) (s1 := 3) (d1 := 3) (M1 := jm_M43) (As := [.inl (.ref 30), .inr (.inl 82)]) (rest := []) jm_ok35 rfl rfl (by decide) (by decide +kernel) (k3ta_T F X1 X2 g0.1 (sy_i F 82)) (fun F3 F' x hR p1 p2 p3 => ?_)
  obtain ⟨r1, r2⟩ := taR_dst hR p1
  rw [e82] at r2
  have r2 := r2 (fun c z => by
    rw [km_r ha.1 ha.2] at z
    have := (km_w (c := c) (k := a + 20) (by omega) (by omega)).mp z
    omega)
  rw [kg_eq (g0.2 39 (by decide) (by decide)), ht0, show sM (kg F0) (km a) (tg F0) = sG (tg F0) by unfold sM; rw [if_pos hk], ← ht0] at r2
  have g3 : gc [33, 34, 36, 37, 44] F0 F3 := g0.trans r1 (by decide)
  have hx : sy_i F3 84 = x := zz_i p3
  rw [← hx] at r2
  obtain ⟨y0, y1⟩ := x01' r2
  have i36 := r1.i (k := 36) (by decide) (by decide)
  have i37 := r1.i (k := 37) (by decide) (by decide)
  have k82 := nz_fi (p2 82 (by decide) (by decide))
  have k83 := nz_fi (p2 83 (by decide) (by decide))
  refine k3pg_31 (by decide) F3 X1 X2 g3.1 ?_ ?_
  · intro q F4 hb g e33 e34 e36 e37 e38 eFR eBU a39
    refine ⟨_, F4, rfl, rfl, (g3.mono (by decide)).trans (gc_mk (W := k3pg_W) hb g (by decide)) (fun _ q => q), Or.inl ⟨rfl, ?_⟩, fun zz => absurd zz (by decide)⟩
    rw [hr, y0 q, e34, tg_eq e33]
    rfl
  · intro q F4 hb g e33 e34 e36 e37 e38 eFR eBU a39 d82 d83
    obtain ⟨t, ht, hJ1⟩ := y1 q
    have hJ1 : tg F3 = t := hJ1
    subst hJ1
    have t3 : tg F3 = tg F + 1 := sG_r ht
    exact k3vg_b X1 X2 F0 r0 fr bu nm h0 F4 (g3.trans (gc_mk (W := [33, 34, 36, 37, 44]) hb g (by decide)) (fun _ q => q)) w (wc_eq hw (by omega) (by omega)) a h8 (by omega) (by rw [tg_eq e33, t3, ht0]) (by rw [hr, ht, tg_eq e33, d83, k83]; rfl)
end Sk3vg
theorem k3vg_T {Ls : Nat} {xs : Nat → Int32} (X1 X2 : List jm_c) (F : Nat → sy_d) (hB : iv_in F iv_B0) (a : Int32) (ha : 8 ≤ a.toInt ∧ a.toInt ≤ 10) (hk : kg F (tg F) = km a.toInt) (x : sT) (hx : rcl (pg F) 3 4 x F) : jm_T Ls xs 5 jm_M35 [.ref 30, .int a] (sy_dh F X1 X2 (iv_H 3)) 0 0 (fun v G => ∃ (y : Int32) (F' : Nat → sy_d), v = some (.int y) ∧ G = sy_dh F' X1 X2 (iv_H 3) ∧ gc k3pg_W F F' ∧ ac (sSet (kg F) (vg F) (sHi a.toInt) x) (rcl (pg F) 3 4) y F' ∧ (y = 1 → stC 5 a.toInt F F')) := by
  refine nx_T (s := 3) (by decide) F X1 X2 (as := [a]) (A := [.inl (.ref 30), .inr (.inl 82)]) jm_ok35 (by decide) rfl ?_
  obtain ⟨F0, hF0⟩ : ∃ F0, F0 = nx 82 F [a] := ⟨_, rfl⟩
  rw [← hF0]
  have k0 : ∀ q, q < 82 → F0 q = F q := by rw [hF0]; exact nx_lt
  have i82 : sy_i F0 82 = a := by rw [hF0]; rfl
  clear hF0
  have hB0 := hd_iveq0 hB k0
  have eK : kg F0 = kg F := kg_eq (k0 39 (by decide))
  have eV : vg F0 = vg F := vg_eq (k0 41 (by decide))
  have eP : pg F0 = pg F := pg_eq (k0 40 (by decide))
  have eT : tg F0 = tg F := tg_eq (nz_fi (k0 33 (by decide)))
  rw [← eK, ← eV, ← eP]
  rw [← eK, ← eT] at hk
  rw [← eP] at hx
  refine hd_W_mono (Q := fun v G => ∃ (x' : Int32) (F' : Nat → sy_d), v = some (.int x') ∧ G = sy_dh F' X1 X2 (iv_H 3) ∧ gc k3pg_W F0 F' ∧ ac (sSet (kg F0) (vg F0) (sHi a.toInt) x) (rcl (pg F0) 3 4) x' F' ∧ (x' = 1 → stC 5 a.toInt F0 F')) ?_ (by
    rintro v G ⟨x, F', rfl, rfl, h1, h2, h3⟩
    exact ⟨x, F', rfl, rfl, h1.src k0, h2, fun z => stC_src (h3 z) k0 (by decide)⟩)
  obtain ⟨t, fr, bu, nm, w⟩ := x
  obtain ⟨x1, x2, x3, x4, x5, x6⟩ := hx
  have x1 : tg F = t := x1
  subst x1
  have x2 : (sy_i F 3).toInt = fr := x2
  have x3 : (sy_i F 4).toInt = bu := x3
  have x4 : ncr nm F := x4
  have x5 : wc (pg F0) w F := x5
  have x6 : (sy_i F 38).toInt ≤ fr + bu := x6
  have j1 := nz_fi (k0 3 (by decide))
  have j2 := nz_fi (k0 4 (by decide))
  have j3 := nz_fi (k0 38 (by decide))
  have j4 := nz_fi (k0 36 (by decide))
  have j5 := nz_fi (k0 37 (by decide))
  have hS : ∀ hi, sSet (kg F0) (vg F0) hi (tg F, fr, bu, nm, w) = sB (sG (tg F)) (fun t => n3 (kg F0) (vg F0) (0, hi) (fun q => .inr (q.1, fr, bu, nm, q.2)) (t, w)) := fun hi => by
    unfold sSet sSt n3 n4
    simp only [sB_a]
    rfl
  have go : ∀ F1 : Nat → sy_d, iv_in F1 iv_B0 → (∀ j, j < 82 → j ∉ ([] : List Nat) → F1 j = F0 j) → (sy_i F1 33).toInt = (sy_i F0 33).toInt → (sy_i F1 36).toInt = (sy_i F0 36).toInt → (sy_i F1 37).toInt = (sy_i F0 37).toInt → (sy_i F1 82).toInt = (sy_i F0 82).toInt → (sy_i F1 83).toInt = sHi a.toInt → _ := fun F1 hb g e33 e36 e37 e82 e83 =>
    k3vg_a (Ls := Ls) (xs := xs) X1 X2 F0 (sSet (kg F0) (vg F0) (sHi a.toInt) (tg F, fr, bu, nm, w)) fr bu nm ⟨by omega, by omega, by omega, ncr_eq x4 (k0 43 (by decide)) (by omega)⟩ F1 (gc_mk hb g (by decide)) w (wc_eq x5 (by omega) (by omega)) a.toInt (by omega) (by rw [e82, i82]) hk (tg_eq e33) ha (by rw [hS, tg_eq e33, eT, e83])
  refine k3pg_0 (by decide) F0 X1 X2 hB0 ?_ ?_ ?_
  all_goals
    intros
    rename_i F1 hb g e33 e34 e36 e37 e38 eFR eBU a39 e82 e83
    refine go F1 hb g e33 e36 e37 e82 ?_
    rw [i82] at *
    rw [e83]
    unfold sHi
    split <;> omega
