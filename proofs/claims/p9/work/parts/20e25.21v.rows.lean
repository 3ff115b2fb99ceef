/-! ===== the class parses numbers: what they are ===== -/
theorem ac_1 {A : Type} {r : sE ⊕ A} {J : A → (Nat → sy_d) → Prop} {x : Int32} {F' : Nat → sy_d} (h : ac r J x F') (q : x.toInt ≠ 0) : x = 1 := by
  rcases h with ⟨z, -⟩ | ⟨z, -⟩
  · rw [z] at q
    exact absurd (by decide) q
  · exact z
noncomputable def tnZ (i : Int) (lo hi : Int) (x : Int32) (F F' : Nat → sy_d) : Prop := tnR lo hi x F F' ∧ (x = 1 → tg F' = tg F + 1 ∧ ∃ v : Int32, v.toInt = vg F (tg F) ∧ sy_ai F' 44 = jm_upd (sy_ai F 44) i.toNat v)
theorem tnZ_src {i lo hi : Int} {x : Int32} {F F0 F' : Nat → sy_d} (h : tnZ i lo hi x F0 F') (e : ∀ q, q < 82 → F0 q = F q) : tnZ i lo hi x F F' := by
  refine ⟨tnR_src h.1 e, fun z => ?_⟩
  have h2 := h.2 z
  rw [tg_eq (nz_fi (e 33 (by decide))), vg_eq (e 41 (by decide)), nz_fa (e 44 (by decide))] at h2
  exact h2
/-- three numbers more in a row -/
noncomputable def nbC (own r : Nat) (F0 F' : Nat → sy_d) : Prop := tg F0 < tg F' ∧ (sy_i F' own).toInt = (sy_i F0 own).toInt + 1 ∧ ∃ a b c : Int32, a.toInt = vg F0 (tg F0 + 2) ∧ b.toInt = vg F0 (tg F0 + 3) ∧ c.toInt = vg F0 (tg F0 + 4) ∧ sy_ai F' r = jm_upd (sy_ai F0 r) (sy_i F0 own).toInt.toNat a ∧ sy_ai F' (r + 1) = jm_upd (sy_ai F0 (r + 1)) (sy_i F0 own).toInt.toNat b ∧ sy_ai F' (r + 2) = jm_upd (sy_ai F0 (r + 2)) (sy_i F0 own).toInt.toNat c
theorem sNm_rc {K : Nat → Int} {N : Nat → Int64} {t : Nat} {nm : List Int64} {w : sE} {q : Nat × sE} (h : sNm K N (t, nm, w) = .inr q) : q.1 = t + 1 := by
  unfold sNm at h
  cases hh : sM K 1 t with
  | inl e =>
    rw [hh] at h
    cases h
  | inr t' =>
    rw [hh] at h
    rw [← Sum.inr.inj h, ← sM_r hh]
theorem k0tn_TZ {Ls : Nat} {xs : Nat → Int32} (F : Nat → sy_d) (X1 X2 : List jm_c) (hB : iv_in F iv_B0) (a b c : Int32) (h1 : 0 ≤ a.toInt) (h2 : a.toInt ≤ 2) : jm_T Ls xs 4 jm_M42 [.ref 30, .int a, .int b, .int c] (sy_dh F X1 X2 (iv_H 0)) 0 0 (fun v G => ∃ (x : Int32) (F' : Nat → sy_d), v = some (.int x) ∧ G = sy_dh F' X1 X2 (iv_H 0) ∧ tnZ a.toInt b.toInt c.toInt x F F') := by
  refine nx_T (s := 0) (by decide) F X1 X2 (as := [a, b, c]) (A := [.inl (.ref 30), .inr (.inl 82), .inr (.inl 83), .inr (.inl 84)]) jm_ok42 (by decide) rfl ?_
  obtain ⟨F0, hF0⟩ : ∃ F0, F0 = nx 82 F [a, b, c] := ⟨_, rfl⟩
  rw [← hF0]
  have k0 : ∀ q, q < 82 → F0 q = F q := by rw [hF0]; exact nx_lt
  have i82 : sy_i F0 82 = a := by rw [hF0]; rfl
  have i83 : sy_i F0 83 = b := by rw [hF0]; rfl
  have i84 : sy_i F0 84 = c := by rw [hF0]; rfl
  have hB0 := hd_iveq0 hB k0
  have c33 := nz_bx hB0 (k := 33) (lo := 0) (hi := 400) rfl
  have et : (tg F0 : Int) = (sy_i F0 33).toInt := by unfold tg; omega
  have eK : kg F0 (tg F0) = 2 ↔ ((sy_ai F0 39).getD (sy_i F0 33).toInt.toNat 0).toInt = 24 := km_2
  have e1 : ((sy_i F0 33).toInt + 1 - 1).toNat = tg F0 := by unfold tg; omega
  refine k0ztn_0 (by decide) F0 X1 X2 hB0 (by rw [i82]; exact ⟨h1, h2⟩) ?_ ?_ ?_ ?_ ?_ ?_ ?_
  all_goals
    try rw [e1]
    have eV : vg F0 (tg F0) = (((sy_al F0 41).getD (tg F0) 0).toInt32).toInt := rfl
    have eP : pg F0 (tg F0) = ((sy_ai F0 40).getD (tg F0) 0).toInt := rfl
    intros
    rename_i F1 hb g e33 e34 e36 e37 e38 a39 a40 a44
    refine ⟨_, F1, rfl, rfl, tnZ_src ⟨⟨gc_mk hb g (by decide), fun w hw => ?_⟩, fun zz => ?_⟩ k0⟩
    rotate_left
    · first
        | exact absurd zz (by decide)
        | exact ⟨tg_s c33.1 e33, _, rfl, by rw [a44, i82]⟩
    rw [← i83, ← i84]
  all_goals first
    | exact ac_er (k := 1) (t := tg F0) (sN_no (by omega)) e34 (tg_eq e33)
    | exact ac_er (k := 2) (t := tg F0) (sN_4 (by omega) (by omega)) e34 (tg_eq e33)
    | exact ac_ok (sN_ok (by omega) (by omega)) ⟨tg_s c33.1 e33, wc_s (by decide) hw (by omega)⟩
section Sk0vf
variable {Ls : Nat} {xs : Nat → Int32} (X1 X2 : List jm_c) (F0 : Nat → sy_d) (r0 : sE ⊕ sT) (fr bu : Nat) (nm : List Int64)
theorem k0vf_6 (h0 : (sy_i F0 18).toInt = fr ∧ (sy_i F0 19).toInt = bu ∧ (sy_i F0 38).toInt ≤ fr + bu) (hlt : (sy_i F0 18).toInt < 7) (F : Nat → sy_d) (g0 : gc WN F0 F) (w : sE) (hw : wc (pg F0) w F) (hn : ncr (nm ++ [ng F0 (tg F0 + 1)]) F) (h38 : (sy_i F 38).toInt ≤ fr + bu + 1) (ht0 : tg F = tg F0 + 5) (n0 : ((sy_ai F 44).getD 0 0).toInt = vg F0 (tg F0 + 2)) (n1 : ((sy_ai F 44).getD 1 0).toInt = vg F0 (tg F0 + 3)) (n2 : ((sy_ai F 44).getD 2 0).toInt = vg F0 (tg F0 + 4)) (hr : r0 = n4 (kg F0) (fun q => .inr (q.1, fr + 1, bu, nm ++ [ng F0 (tg F0 + 1)], q.2)) (tg F, w)) :
    hd_W Ls xs 5 jm_M33 (fun v G => ∃ (x : Int32) (F' : Nat → sy_d), v = some (.int x) ∧ G = sy_dh F' X1 X2 (iv_H 0) ∧ gc k0pf_W F0 F' ∧ ac r0 (rcl (pg F0) 18 19) x F' ∧ (x = 1 → nbC 18 24 F0 F')) (69, sy_dL F [some (.inl (.ref 30)), none], sy_dS F [.inl (.int 59), .inl (.ref 30)], sy_dh F X1 X2 (iv_H 0), 0, 0) := by
  refine hd_calI (R := fun x F' => taR ((59 : Int32)).toInt x F F') (nh := 82) (nv := 82) (s := 0) (s1 := 0) (d1 := 3) (M1 := jm_M43) (As := [.inl (.ref 30), .inl (.int 59)]) (rest := []) jm_ok33 rfl rfl (by decide) (by decide +kernel) (k0ta_T F X1 X2 g0.1 59) (fun F3 F' x hR p1 p2 p3 => ?_)
  have hR : taR 59 x F F' := hR
  obtain ⟨r1, r2⟩ := taR_dst hR p1
  have r2 := r2 (km_in (j := 4) (fun c => km_4) (by decide))
  rw [show km 59 = 4 by decide, kg_eq (g0.2 39 (by decide) (by decide))] at r2
  have g3 : gc WN F0 F3 := g0.trans r1 (by decide)
  have hx : sy_i F3 82 = x := zz_i p3
  have hx1 : (sy_i F3 82).toInt ≠ 0 → x = 1 := fun q => ac_1 r2 (by rw [← hx]; exact q)
  rw [← hx] at r2
  obtain ⟨y0, y1⟩ := x01' r2
  have f1 := g3.i (k := 18) (by decide) (by decide)
  have f2 := g3.i (k := 19) (by decide) (by decide)
  have i36 := r1.i (k := 36) (by decide) (by decide)
  have i37 := r1.i (k := 37) (by decide) (by decide)
  have i38 := r1.i (k := 38) (by decide) (by decide)
  refine k0zpf_72 (by decide) F3 X1 X2 g3.1 ?_ ?_ ?_
  · intro q F4 hb g e33 e34 e36 e37 e38 eFR eBU a39 aR0 aR1 aR2
    refine ⟨_, F4, rfl, rfl, (g3.mono (by decide)).trans (gc_mk (W := k0pf_W) hb g (by decide)) (fun _ q => q), Or.inl ⟨rfl, ?_⟩, fun zz => absurd zz (by decide)⟩
    rw [hr, n4, y0 q, e34, tg_eq e33]
    rfl
  · intros; exfalso; omega
  · intro q _ F4 hb g e33 e34 e36 e37 e38 eFR eBU a39 aR0 aR1 aR2
    obtain ⟨t, ht, hJ⟩ := y1 q
    have t3 : tg F3 = tg F + 1 := by rw [hJ]; exact sM_r ht
    have c44 : sy_ai F3 44 = sy_ai F 44 := nz_fa (r1.2 44 (by decide) (by decide))
    have f3 : (sy_i F3 18).toInt = (sy_i F0 18).toInt := f1
    have z0 : sy_ai F3 24 = sy_ai F0 24 := nz_fa (g3.2 24 (by decide) (by decide))
    have z1 : sy_ai F3 25 = sy_ai F0 25 := nz_fa (g3.2 25 (by decide) (by decide))
    have z2 : sy_ai F3 26 = sy_ai F0 26 := nz_fa (g3.2 26 (by decide) (by decide))
    refine ⟨_, F4, rfl, rfl, (g3.mono (by decide)).trans (gc_mk (W := k0pf_W) hb g (by decide)) (fun _ q => q), ac_ok (by rw [hr, n4, ht]; rfl) ⟨by rw [tg_eq e33]; exact hJ, ?_, ?_, ncr_eq hn ((g 43 (by decide) (by decide)).trans (r1.2 43 (by decide) (by decide))) (by omega), wc_eq hw (by omega) (by omega), ?_⟩, fun _ => ⟨by rw [tg_eq e33]; omega, by omega, (sy_ai F 44).getD 0 0, (sy_ai F 44).getD 1 0, (sy_ai F 44).getD 2 0, n0, n1, n2, by rw [aR0, z0, c44, f3]; rfl, by rw [aR1, z1, c44, f3]; rfl, by rw [aR2, z2, c44, f3]; rfl⟩⟩
    · show (sy_i F4 18).toInt = ((fr + 1 : Nat) : Int)
      omega
    · show (sy_i F4 19).toInt = ((bu : Nat) : Int)
      omega
    · show (sy_i F4 38).toInt ≤ ((fr + 1 : Nat) : Int) + ((bu : Nat) : Int)
      omega
theorem k0vf_5 (h0 : (sy_i F0 18).toInt = fr ∧ (sy_i F0 19).toInt = bu ∧ (sy_i F0 38).toInt ≤ fr + bu) (hlt : (sy_i F0 18).toInt < 7) (F : Nat → sy_d) (g0 : gc WN F0 F) (w : sE) (hw : wc (pg F0) w F) (hn : ncr (nm ++ [ng F0 (tg F0 + 1)]) F) (h38 : (sy_i F 38).toInt ≤ fr + bu + 1) (ht0 : tg F = tg F0 + 4) (n0 : ((sy_ai F 44).getD 0 0).toInt = vg F0 (tg F0 + 2)) (n1 : ((sy_ai F 44).getD 1 0).toInt = vg F0 (tg F0 + 3)) (hr : r0 = n3 (kg F0) (vg F0) (0, 99) (fun q => .inr (q.1, fr + 1, bu, nm ++ [ng F0 (tg F0 + 1)], q.2)) (tg F, w)) :
    hd_W Ls xs 5 jm_M33 (fun v G => ∃ (x : Int32) (F' : Nat → sy_d), v = some (.int x) ∧ G = sy_dh F' X1 X2 (iv_H 0) ∧ gc k0pf_W F0 F' ∧ ac r0 (rcl (pg F0) 18 19) x F' ∧ (x = 1 → nbC 18 24 F0 F')) (60, sy_dL F [some (.inl (.ref 30)), none], sy_dS F [.inl (.int 99), .inl (.int 0), .inl (.int 2), .inl (.ref 30)], sy_dh F X1 X2 (iv_H 0), 0, 0) := by
  refine hd_calI (R := fun x F' => tnZ 2 ((0 : Int32)).toInt ((99 : Int32)).toInt x F F') (nh := 82) (nv := 82) (s := 0) (s1 := 0) (d1 := 4) (M1 := jm_M42) (As := [.inl (.ref 30), .inl (.int 2), .inl (.int 0), .inl (.int 99)]) (rest := []) jm_ok33 rfl rfl (by decide) (by decide +kernel) (k0tn_TZ F X1 X2 g0.1 2 0 99 (by decide) (by decide)) (fun F3 F' x hR p1 p2 p3 => ?_)
  obtain ⟨hR, hv⟩ : tnZ 2 0 99 x F F' := hR
  obtain ⟨r1, r2⟩ := tnR_dst hR p1
  rw [kg_eq (g0.2 39 (by decide) (by decide)), pg_eq (g0.2 40 (by decide) (by decide)), vg_eq (g0.2 41 (by decide) (by decide))] at r2
  have r2 := r2 w hw
  have g3 : gc WN F0 F3 := g0.trans r1 (by decide)
  have hx : sy_i F3 82 = x := zz_i p3
  have hx1 : (sy_i F3 82).toInt ≠ 0 → x = 1 := fun q => ac_1 r2 (by rw [← hx]; exact q)
  rw [← hx] at r2
  obtain ⟨y0, y1⟩ := x01' r2
  have i38 := r1.i (k := 38) (by decide) (by decide)
  refine k0pf_63 (by decide) F3 X1 X2 g3.1 ?_ ?_
  · intro q F4 hb g e33 e34 e36 e37 e38 eFR eBU a39
    refine ⟨_, F4, rfl, rfl, (g3.mono (by decide)).trans (gc_mk (W := k0pf_W) hb g (by decide)) (fun _ q => q), Or.inl ⟨rfl, ?_⟩, fun zz => absurd zz (by decide)⟩
    rw [hr, n3, y0 q, e34, tg_eq e33]
    rfl
  · intro q F4 hb g e33 e34 e36 e37 e38 eFR eBU a39
    obtain ⟨⟨t, w'⟩, ht, hJ1, hJ2⟩ := y1 q
    have hJ1 : tg F3 = t := hJ1
    subst hJ1
    obtain ⟨hv1, v, hv2, hv3⟩ := hv (hx1 q)
    rw [vg_eq (g0.2 41 (by decide) (by decide)), ht0] at hv2
    have a44 : sy_ai F4 44 = jm_upd (sy_ai F 44) 2 v := ((nz_fa (g 44 (by decide) (by decide))).trans (nz_fa (p1 44 (by decide)))).trans hv3
    have t3 : tg F3 = tg F + 1 := (tg_eq (nz_fi (p1 33 (by decide)))).trans hv1
    exact k0vf_6 X1 X2 F0 r0 fr bu nm h0 hlt F4 (g3.trans (gc_mk (W := WN) hb g (by decide)) (fun _ q => q)) w' (wc_eq hJ2 e36 e37) (ncr_eq hn ((g 43 (by decide) (by decide)).trans (r1.2 43 (by decide) (by decide))) (by omega)) (by omega) (by rw [tg_eq e33, t3, ht0]) (by rw [a44, jm_upd_at, if_neg (by decide)]; exact n0) (by rw [a44, jm_upd_at, if_neg (by decide)]; exact n1) (by rw [a44, jm_upd_at, if_pos rfl]; exact hv2) (by rw [hr, n3, ht, tg_eq e33]; rfl)
theorem k0vf_4 (h0 : (sy_i F0 18).toInt = fr ∧ (sy_i F0 19).toInt = bu ∧ (sy_i F0 38).toInt ≤ fr + bu) (hlt : (sy_i F0 18).toInt < 7) (F : Nat → sy_d) (g0 : gc WN F0 F) (w : sE) (hw : wc (pg F0) w F) (hn : ncr (nm ++ [ng F0 (tg F0 + 1)]) F) (h38 : (sy_i F 38).toInt ≤ fr + bu + 1) (ht0 : tg F = tg F0 + 3) (n0 : ((sy_ai F 44).getD 0 0).toInt = vg F0 (tg F0 + 2)) (hr : r0 = n2 (kg F0) (vg F0) (1, 9) (0, 99) (fun q => .inr (q.1, fr + 1, bu, nm ++ [ng F0 (tg F0 + 1)], q.2)) (tg F, w)) :
    hd_W Ls xs 5 jm_M33 (fun v G => ∃ (x : Int32) (F' : Nat → sy_d), v = some (.int x) ∧ G = sy_dh F' X1 X2 (iv_H 0) ∧ gc k0pf_W F0 F' ∧ ac r0 (rcl (pg F0) 18 19) x F' ∧ (x = 1 → nbC 18 24 F0 F')) (49, sy_dL F [some (.inl (.ref 30)), none], sy_dS F [.inl (.int 9), .inl (.int 1), .inl (.int 1), .inl (.ref 30)], sy_dh F X1 X2 (iv_H 0), 0, 0) := by
  refine hd_calI (R := fun x F' => tnZ 1 ((1 : Int32)).toInt ((9 : Int32)).toInt x F F') (nh := 82) (nv := 82) (s := 0) (s1 := 0) (d1 := 4) (M1 := jm_M42) (As := [.inl (.ref 30), .inl (.int 1), .inl (.int 1), .inl (.int 9)]) (rest := []) jm_ok33 rfl rfl (by decide) (by decide +kernel) (k0tn_TZ F X1 X2 g0.1 1 1 9 (by decide) (by decide)) (fun F3 F' x hR p1 p2 p3 => ?_)
  obtain ⟨hR, hv⟩ : tnZ 1 1 9 x F F' := hR
  obtain ⟨r1, r2⟩ := tnR_dst hR p1
  rw [kg_eq (g0.2 39 (by decide) (by decide)), pg_eq (g0.2 40 (by decide) (by decide)), vg_eq (g0.2 41 (by decide) (by decide))] at r2
  have r2 := r2 w hw
  have g3 : gc WN F0 F3 := g0.trans r1 (by decide)
  have hx : sy_i F3 82 = x := zz_i p3
  have hx1 : (sy_i F3 82).toInt ≠ 0 → x = 1 := fun q => ac_1 r2 (by rw [← hx]; exact q)
  rw [← hx] at r2
  obtain ⟨y0, y1⟩ := x01' r2
  have i38 := r1.i (k := 38) (by decide) (by decide)
  refine k0pf_52 (by decide) F3 X1 X2 g3.1 ?_ ?_
  · intro q F4 hb g e33 e34 e36 e37 e38 eFR eBU a39
    refine ⟨_, F4, rfl, rfl, (g3.mono (by decide)).trans (gc_mk (W := k0pf_W) hb g (by decide)) (fun _ q => q), Or.inl ⟨rfl, ?_⟩, fun zz => absurd zz (by decide)⟩
    rw [hr, n2, y0 q, e34, tg_eq e33]
    rfl
  · intro q F4 hb g e33 e34 e36 e37 e38 eFR eBU a39
    obtain ⟨⟨t, w'⟩, ht, hJ1, hJ2⟩ := y1 q
    have hJ1 : tg F3 = t := hJ1
    subst hJ1
    obtain ⟨hv1, v, hv2, hv3⟩ := hv (hx1 q)
    rw [vg_eq (g0.2 41 (by decide) (by decide)), ht0] at hv2
    have a44 : sy_ai F4 44 = jm_upd (sy_ai F 44) 1 v := ((nz_fa (g 44 (by decide) (by decide))).trans (nz_fa (p1 44 (by decide)))).trans hv3
    have t3 : tg F3 = tg F + 1 := (tg_eq (nz_fi (p1 33 (by decide)))).trans hv1
    exact k0vf_5 X1 X2 F0 r0 fr bu nm h0 hlt F4 (g3.trans (gc_mk (W := WN) hb g (by decide)) (fun _ q => q)) w' (wc_eq hJ2 e36 e37) (ncr_eq hn ((g 43 (by decide) (by decide)).trans (r1.2 43 (by decide) (by decide))) (by omega)) (by omega) (by rw [tg_eq e33, t3, ht0]) (by rw [a44, jm_upd_at, if_neg (by decide)]; exact n0) (by rw [a44, jm_upd_at, if_pos rfl]; exact hv2) (by rw [hr, n2, ht, tg_eq e33]; rfl)
theorem k0vf_3 (h0 : (sy_i F0 18).toInt = fr ∧ (sy_i F0 19).toInt = bu ∧ (sy_i F0 38).toInt ≤ fr + bu) (hlt : (sy_i F0 18).toInt < 7) (F : Nat → sy_d) (g0 : gc WN F0 F) (w : sE) (hw : wc (pg F0) w F) (hn : ncr (nm ++ [ng F0 (tg F0 + 1)]) F) (h38 : (sy_i F 38).toInt ≤ fr + bu + 1) (ht0 : tg F = tg F0 + 2) (hr : r0 = n1 (kg F0) (vg F0) (1, 9) (0, 99) (fun q => .inr (q.1, fr + 1, bu, nm ++ [ng F0 (tg F0 + 1)], q.2)) (0, 9) (tg F, w)) :
    hd_W Ls xs 5 jm_M33 (fun v G => ∃ (x : Int32) (F' : Nat → sy_d), v = some (.int x) ∧ G = sy_dh F' X1 X2 (iv_H 0) ∧ gc k0pf_W F0 F' ∧ ac r0 (rcl (pg F0) 18 19) x F' ∧ (x = 1 → nbC 18 24 F0 F')) (38, sy_dL F [some (.inl (.ref 30)), none], sy_dS F [.inl (.int 9), .inl (.int 0), .inl (.int 0), .inl (.ref 30)], sy_dh F X1 X2 (iv_H 0), 0, 0) := by
  refine hd_calI (R := fun x F' => tnZ 0 ((0 : Int32)).toInt ((9 : Int32)).toInt x F F') (nh := 82) (nv := 82) (s := 0) (s1 := 0) (d1 := 4) (M1 := jm_M42) (As := [.inl (.ref 30), .inl (.int 0), .inl (.int 0), .inl (.int 9)]) (rest := []) jm_ok33 rfl rfl (by decide) (by decide +kernel) (k0tn_TZ F X1 X2 g0.1 0 0 9 (by decide) (by decide)) (fun F3 F' x hR p1 p2 p3 => ?_)
  obtain ⟨hR, hv⟩ : tnZ 0 0 9 x F F' := hR
  obtain ⟨r1, r2⟩ := tnR_dst hR p1
  rw [kg_eq (g0.2 39 (by decide) (by decide)), pg_eq (g0.2 40 (by decide) (by decide)), vg_eq (g0.2 41 (by decide) (by decide))] at r2
  have r2 := r2 w hw
  have g3 : gc WN F0 F3 := g0.trans r1 (by decide)
  have hx : sy_i F3 82 = x := zz_i p3
  have hx1 : (sy_i F3 82).toInt ≠ 0 → x = 1 := fun q => ac_1 r2 (by rw [← hx]; exact q)
  rw [← hx] at r2
  obtain ⟨y0, y1⟩ := x01' r2
  have i38 := r1.i (k := 38) (by decide) (by decide)
  refine k0pf_41 (by decide) F3 X1 X2 g3.1 ?_ ?_
  · intro q F4 hb g e33 e34 e36 e37 e38 eFR eBU a39
    refine ⟨_, F4, rfl, rfl, (g3.mono (by decide)).trans (gc_mk (W := k0pf_W) hb g (by decide)) (fun _ q => q), Or.inl ⟨rfl, ?_⟩, fun zz => absurd zz (by decide)⟩
    rw [hr, n1, y0 q, e34, tg_eq e33]
    rfl
  · intro q F4 hb g e33 e34 e36 e37 e38 eFR eBU a39
    obtain ⟨⟨t, w'⟩, ht, hJ1, hJ2⟩ := y1 q
    have hJ1 : tg F3 = t := hJ1
    subst hJ1
    obtain ⟨hv1, v, hv2, hv3⟩ := hv (hx1 q)
    rw [vg_eq (g0.2 41 (by decide) (by decide)), ht0] at hv2
    have a44 : sy_ai F4 44 = jm_upd (sy_ai F 44) 0 v := ((nz_fa (g 44 (by decide) (by decide))).trans (nz_fa (p1 44 (by decide)))).trans hv3
    have t3 : tg F3 = tg F + 1 := (tg_eq (nz_fi (p1 33 (by decide)))).trans hv1
    exact k0vf_4 X1 X2 F0 r0 fr bu nm h0 hlt F4 (g3.trans (gc_mk (W := WN) hb g (by decide)) (fun _ q => q)) w' (wc_eq hJ2 e36 e37) (ncr_eq hn ((g 43 (by decide) (by decide)).trans (r1.2 43 (by decide) (by decide))) (by omega)) (by omega) (by rw [tg_eq e33, t3, ht0]) (by rw [a44, jm_upd_at, if_pos rfl]; exact hv2) (by rw [hr, n1, ht, tg_eq e33]; rfl)
theorem k0vf_2 (h0 : (sy_i F0 18).toInt = fr ∧ (sy_i F0 19).toInt = bu ∧ (sy_i F0 38).toInt ≤ fr + bu) (hlt : (sy_i F0 18).toInt < 7) (F : Nat → sy_d) (g0 : gc WN F0 F) (w : sE) (hw : wc (pg F0) w F) (hn : ncr nm F) (h38 : (sy_i F 38).toInt ≤ fr + bu) (ht1 : tg F = tg F0 + 1) (hr : r0 = sB (sNm (kg F0) (ng F0) (tg F, nm, w)) (n1 (kg F0) (vg F0) (1, 9) (0, 99) (fun q => .inr (q.1, fr + 1, bu, nm ++ [ng F0 (tg F0 + 1)], q.2)) (0, 9))) :
    hd_W Ls xs 5 jm_M33 (fun v G => ∃ (x : Int32) (F' : Nat → sy_d), v = some (.int x) ∧ G = sy_dh F' X1 X2 (iv_H 0) ∧ gc k0pf_W F0 F' ∧ ac r0 (rcl (pg F0) 18 19) x F' ∧ (x = 1 → nbC 18 24 F0 F')) (27, sy_dL F [some (.inl (.ref 30)), none], sy_dS F [.inl (.ref 30)], sy_dh F X1 X2 (iv_H 0), 0, 0) := by
  have f1 := g0.i (k := 18) (by decide) (by decide)
  have f2 := g0.i (k := 19) (by decide) (by decide)
  have d1 := nz_bx g0.1 (k := 18) (lo := 0) (hi := 7) rfl
  have d2 := nz_bx g0.1 (k := 19) (lo := 0) (hi := 4) rfl
  refine hd_calI (R := fun x F' => tmR x F F') (nh := 82) (nv := 82) (s := 0) (s1 := 0) (d1 := 4) (M1 := jm_M41) (As := [.inl (.ref 30)]) (rest := []) jm_ok33 rfl rfl (by decide) (by decide +kernel) (k0tm_T F X1 X2 g0.1 (by omega)) (fun F3 F' x hR p1 p2 p3 => ?_)
  obtain ⟨r1, rl, r2⟩ := tmR_dst hR p1
  rw [kg_eq (g0.2 39 (by decide) (by decide)), pg_eq (g0.2 40 (by decide) (by decide)), ng_eq (g0.2 41 (by decide) (by decide))] at r2
  have r2 := r2 w nm hw hn
  have g3 : gc WN F0 F3 := g0.trans r1 (by decide)
  have hx : sy_i F3 82 = x := zz_i p3
  have hx1 : (sy_i F3 82).toInt ≠ 0 → x = 1 := fun q => ac_1 r2 (by rw [← hx]; exact q)
  rw [← hx] at r2
  obtain ⟨y0, y1⟩ := x01' r2
  refine k0pf_30 (by decide) F3 X1 X2 g3.1 ?_ ?_
  · intro q F4 hb g e33 e34 e36 e37 e38 eFR eBU a39
    refine ⟨_, F4, rfl, rfl, (g3.mono (by decide)).trans (gc_mk (W := k0pf_W) hb g (by decide)) (fun _ q => q), Or.inl ⟨rfl, ?_⟩, fun zz => absurd zz (by decide)⟩
    rw [hr, y0 q, e34, tg_eq e33]
    rfl
  · intro q F4 hb g e33 e34 e36 e37 e38 eFR eBU a39
    obtain ⟨⟨t, w'⟩, ht, hJ1, hJ2, hJ3⟩ := y1 q
    have hJ1 : tg F3 = t := hJ1
    subst hJ1
    have t3 : tg F3 = tg F + 1 := sNm_rc ht
    rw [ht1] at hJ3
    exact k0vf_3 X1 X2 F0 r0 fr bu nm h0 hlt F4 (g3.trans (gc_mk (W := WN) hb g (by decide)) (fun _ q => q)) w' (wc_eq hJ2 e36 e37) (ncr_eq hJ3 (g 43 (by decide) (by decide)) e38) (by omega) (by rw [tg_eq e33, t3, ht1]) (by rw [hr, ht, tg_eq e33]; rfl)
end Sk0vf
theorem k0vf_T {Ls : Nat} {xs : Nat → Int32} (X1 X2 : List jm_c) (F : Nat → sy_d) (hB : iv_in F iv_B0) (hk : kg F (tg F) = 20) (x : sT) (hx : rcl (pg F) 18 19 x F) : jm_T Ls xs 5 jm_M33 [.ref 30] (sy_dh F X1 X2 (iv_H 0)) 0 0 (fun v G => ∃ (y : Int32) (F' : Nat → sy_d), v = some (.int y) ∧ G = sy_dh F' X1 X2 (iv_H 0) ∧ gc k0pf_W F F' ∧ ac (sFruit (kg F) (vg F) (ng F) x) (rcl (pg F) 18 19) y F' ∧ (y = 1 → nbC 18 24 F F')) := by
  obtain ⟨t, fr, bu, nm, w⟩ := x
  obtain ⟨x1, x2, x3, x4, x5, x6⟩ := hx
  have x1 : tg F = t := x1
  subst x1
  have x2 : (sy_i F 18).toInt = fr := x2
  have x3 : (sy_i F 19).toInt = bu := x3
  have x6 : (sy_i F 38).toInt ≤ fr + bu := x6
  have c33 := nz_bx hB (k := 33) (lo := 0) (hi := 400) rfl
  have dF := nz_bx hB (k := 18) (lo := 0) (hi := 7) rfl
  refine hd_T (As := [.inl (.ref 30)]) jm_ok33 (by decide) (k0pf_0 (by decide) F X1 X2 hB ?_ ?_)
  · intro q F1 hb g e33 e34 e36 e37 e38 eFR eBU a39
    have g0 : ∀ q, q < 82 → F1 q = F q := fun q hq => g q hq (by simp)
    refine hd_calI (R := fun x F' => taR ((0 : Int32)).toInt x F1 F') (nh := 82) (nv := 82) (s := 0) (s1 := 0) (d1 := 3) (M1 := jm_M43) (As := [.inl (.ref 30), .inl (.int 0)]) (rest := []) jm_ok33 rfl rfl (by decide) (by decide +kernel) (k0ta_T F1 X1 X2 hb 0) (fun F3 F' x hR p1 p2 p3 => ?_)
    have hR : taR 0 x F1 F' := hR
    obtain ⟨r1, r2⟩ := taR_src (taR_dst hR p1) g0
    have r2 := r2 (km_in (j := 20) (fun c => km_w (by decide) (by decide)) (by decide))
    rw [show km 0 = 20 by decide, show sM (kg F) 20 (tg F) = sG (tg F) by unfold sM; rw [if_pos hk]] at r2
    have g3 : gc WN F F3 := r1.mono (by decide)
    have hx : sy_i F3 82 = x := zz_i p3
    have hx1 : (sy_i F3 82).toInt ≠ 0 → x = 1 := fun q => ac_1 r2 (by rw [← hx]; exact q)
    rw [← hx] at r2
    obtain ⟨y0, y1⟩ := x01' r2
    have i36 := r1.i (k := 36) (by decide) (by decide)
    have i37 := r1.i (k := 37) (by decide) (by decide)
    have i38 := r1.i (k := 38) (by decide) (by decide)
    have hS : sFruit (kg F) (vg F) (ng F) (tg F, fr, bu, nm, w) = sB (sG (tg F)) fun t => sB (sTell (kg F) (vg F) (ng F) (0, 9) (1, 9) (0, 99) (t, nm, w)) fun q => .inr (q.1, fr + 1, bu, nm ++ [ng F t], q.2) := sF_n (by omega)
    refine k0pf_23 (by decide) F3 X1 X2 g3.1 ?_ ?_
    · intro q F4 hb g e33 e34 e36 e37 e38 eFR eBU a39
      refine ⟨_, F4, rfl, rfl, (g3.mono (by decide)).trans (gc_mk (W := k0pf_W) hb g (by decide)) (fun _ q => q), Or.inl ⟨rfl, ?_⟩, fun zz => absurd zz (by decide)⟩
      rw [hS, y0 q, e34, tg_eq e33]
      rfl
    · intro q F4 hb g d33 d34 d36 d37 d38 dFR dBU b39
      obtain ⟨t, ht, hJ⟩ := y1 q
      have h4 : tg F < 400 := by
        by_cases z : tg F = 400
        · rw [sG_4 z] at ht
          cases ht
        · unfold tg at z ⊢
          omega
      rw [sG_ok h4] at ht
      have et : t = tg F + 1 := (Sum.inr.inj ht).symm
      refine k0vf_2 X1 X2 F _ fr bu nm ⟨x2, x3, x6⟩ (by omega) F4 (g3.trans (gc_mk (W := WN) hb g (by decide)) (fun _ q => q)) w (wc_eq x5 (by omega) (by omega)) (ncr_eq x4 ((g 43 (by decide) (by decide)).trans (r1.2 43 (by decide) (by decide))) (by omega)) (by omega) (by rw [tg_eq d33, hJ, et]) ?_
      rw [hS, sG_ok h4, tg_eq d33, hJ, et]
      exact n_eq (kg F) (vg F) (1, 9) (0, 99) (fun q => .inr (q.1, fr + 1, bu, nm ++ [ng F (tg F + 1)], q.2)) (ng F) (0, 9) (tg F + 1, nm, w)
  · intro q F1 hb g e33 e34 e36 e37 e38 eFR eBU a39
    exact ⟨_, F1, rfl, rfl, gc_mk hb g (by decide), Or.inl ⟨rfl, by rw [sF_7 (by omega), e34, tg_eq e33]⟩, fun zz => absurd zz (by decide)⟩
section Sk0vb
variable {Ls : Nat} {xs : Nat → Int32} (X1 X2 : List jm_c) (F0 : Nat → sy_d) (r0 : sE ⊕ sT) (fr bu : Nat) (nm : List Int64)
theorem k0vb_6 (h0 : (sy_i F0 18).toInt = fr ∧ (sy_i F0 19).toInt = bu ∧ (sy_i F0 38).toInt ≤ fr + bu) (hlt : (sy_i F0 19).toInt < 4) (F : Nat → sy_d) (g0 : gc WN F0 F) (w : sE) (hw : wc (pg F0) w F) (hn : ncr (nm ++ [ng F0 (tg F0 + 1)]) F) (h38 : (sy_i F 38).toInt ≤ fr + bu + 1) (ht0 : tg F = tg F0 + 5) (n0 : ((sy_ai F 44).getD 0 0).toInt = vg F0 (tg F0 + 2)) (n1 : ((sy_ai F 44).getD 1 0).toInt = vg F0 (tg F0 + 3)) (n2 : ((sy_ai F 44).getD 2 0).toInt = vg F0 (tg F0 + 4)) (hr : r0 = n4 (kg F0) (fun q => .inr (q.1, fr, bu + 1, nm ++ [ng F0 (tg F0 + 1)], q.2)) (tg F, w)) :
    hd_W Ls xs 5 jm_M34 (fun v G => ∃ (x : Int32) (F' : Nat → sy_d), v = some (.int x) ∧ G = sy_dh F' X1 X2 (iv_H 0) ∧ gc k0pb_W F0 F' ∧ ac r0 (rcl (pg F0) 18 19) x F' ∧ (x = 1 → nbC 19 28 F0 F')) (68, sy_dL F [some (.inl (.ref 30)), none], sy_dS F [.inl (.int 59), .inl (.ref 30)], sy_dh F X1 X2 (iv_H 0), 0, 0) := by
  refine hd_calI (R := fun x F' => taR ((59 : Int32)).toInt x F F') (nh := 82) (nv := 82) (s := 0) (s1 := 0) (d1 := 3) (M1 := jm_M43) (As := [.inl (.ref 30), .inl (.int 59)]) (rest := []) jm_ok34 rfl rfl (by decide) (by decide +kernel) (k0ta_T F X1 X2 g0.1 59) (fun F3 F' x hR p1 p2 p3 => ?_)
  have hR : taR 59 x F F' := hR
  obtain ⟨r1, r2⟩ := taR_dst hR p1
  have r2 := r2 (km_in (j := 4) (fun c => km_4) (by decide))
  rw [show km 59 = 4 by decide, kg_eq (g0.2 39 (by decide) (by decide))] at r2
  have g3 : gc WN F0 F3 := g0.trans r1 (by decide)
  have hx : sy_i F3 82 = x := zz_i p3
  have hx1 : (sy_i F3 82).toInt ≠ 0 → x = 1 := fun q => ac_1 r2 (by rw [← hx]; exact q)
  rw [← hx] at r2
  obtain ⟨y0, y1⟩ := x01' r2
  have f1 := g3.i (k := 18) (by decide) (by decide)
  have f2 := g3.i (k := 19) (by decide) (by decide)
  have i36 := r1.i (k := 36) (by decide) (by decide)
  have i37 := r1.i (k := 37) (by decide) (by decide)
  have i38 := r1.i (k := 38) (by decide) (by decide)
  refine k0zpb_71 (by decide) F3 X1 X2 g3.1 ?_ ?_ ?_
  · intro q F4 hb g e33 e34 e36 e37 e38 eFR eBU a39 aR0 aR1 aR2
    refine ⟨_, F4, rfl, rfl, (g3.mono (by decide)).trans (gc_mk (W := k0pb_W) hb g (by decide)) (fun _ q => q), Or.inl ⟨rfl, ?_⟩, fun zz => absurd zz (by decide)⟩
    rw [hr, n4, y0 q, e34, tg_eq e33]
    rfl
  · intros; exfalso; omega
  · intro q _ F4 hb g e33 e34 e36 e37 e38 eFR eBU a39 aR0 aR1 aR2
    obtain ⟨t, ht, hJ⟩ := y1 q
    have t3 : tg F3 = tg F + 1 := by rw [hJ]; exact sM_r ht
    have c44 : sy_ai F3 44 = sy_ai F 44 := nz_fa (r1.2 44 (by decide) (by decide))
    have f3 : (sy_i F3 19).toInt = (sy_i F0 19).toInt := f2
    have z0 : sy_ai F3 28 = sy_ai F0 28 := nz_fa (g3.2 28 (by decide) (by decide))
    have z1 : sy_ai F3 29 = sy_ai F0 29 := nz_fa (g3.2 29 (by decide) (by decide))
    have z2 : sy_ai F3 30 = sy_ai F0 30 := nz_fa (g3.2 30 (by decide) (by decide))
    refine ⟨_, F4, rfl, rfl, (g3.mono (by decide)).trans (gc_mk (W := k0pb_W) hb g (by decide)) (fun _ q => q), ac_ok (by rw [hr, n4, ht]; rfl) ⟨by rw [tg_eq e33]; exact hJ, ?_, ?_, ncr_eq hn ((g 43 (by decide) (by decide)).trans (r1.2 43 (by decide) (by decide))) (by omega), wc_eq hw (by omega) (by omega), ?_⟩, fun _ => ⟨by rw [tg_eq e33]; omega, by omega, (sy_ai F 44).getD 0 0, (sy_ai F 44).getD 1 0, (sy_ai F 44).getD 2 0, n0, n1, n2, by rw [aR0, z0, c44, f3]; rfl, by rw [aR1, z1, c44, f3]; rfl, by rw [aR2, z2, c44, f3]; rfl⟩⟩
    · show (sy_i F4 18).toInt = ((fr : Nat) : Int)
      omega
    · show (sy_i F4 19).toInt = ((bu + 1 : Nat) : Int)
      omega
    · show (sy_i F4 38).toInt ≤ ((fr : Nat) : Int) + ((bu + 1 : Nat) : Int)
      omega
theorem k0vb_5 (h0 : (sy_i F0 18).toInt = fr ∧ (sy_i F0 19).toInt = bu ∧ (sy_i F0 38).toInt ≤ fr + bu) (hlt : (sy_i F0 19).toInt < 4) (F : Nat → sy_d) (g0 : gc WN F0 F) (w : sE) (hw : wc (pg F0) w F) (hn : ncr (nm ++ [ng F0 (tg F0 + 1)]) F) (h38 : (sy_i F 38).toInt ≤ fr + bu + 1) (ht0 : tg F = tg F0 + 4) (n0 : ((sy_ai F 44).getD 0 0).toInt = vg F0 (tg F0 + 2)) (n1 : ((sy_ai F 44).getD 1 0).toInt = vg F0 (tg F0 + 3)) (hr : r0 = n3 (kg F0) (vg F0) (0, 999) (fun q => .inr (q.1, fr, bu + 1, nm ++ [ng F0 (tg F0 + 1)], q.2)) (tg F, w)) :
    hd_W Ls xs 5 jm_M34 (fun v G => ∃ (x : Int32) (F' : Nat → sy_d), v = some (.int x) ∧ G = sy_dh F' X1 X2 (iv_H 0) ∧ gc k0pb_W F0 F' ∧ ac r0 (rcl (pg F0) 18 19) x F' ∧ (x = 1 → nbC 19 28 F0 F')) (59, sy_dL F [some (.inl (.ref 30)), none], sy_dS F [.inl (.int 999), .inl (.int 0), .inl (.int 2), .inl (.ref 30)], sy_dh F X1 X2 (iv_H 0), 0, 0) := by
  refine hd_calI (R := fun x F' => tnZ 2 ((0 : Int32)).toInt ((999 : Int32)).toInt x F F') (nh := 82) (nv := 82) (s := 0) (s1 := 0) (d1 := 4) (M1 := jm_M42) (As := [.inl (.ref 30), .inl (.int 2), .inl (.int 0), .inl (.int 999)]) (rest := []) jm_ok34 rfl rfl (by decide) (by decide +kernel) (k0tn_TZ F X1 X2 g0.1 2 0 999 (by decide) (by decide)) (fun F3 F' x hR p1 p2 p3 => ?_)
  obtain ⟨hR, hv⟩ : tnZ 2 0 999 x F F' := hR
  obtain ⟨r1, r2⟩ := tnR_dst hR p1
  rw [kg_eq (g0.2 39 (by decide) (by decide)), pg_eq (g0.2 40 (by decide) (by decide)), vg_eq (g0.2 41 (by decide) (by decide))] at r2
  have r2 := r2 w hw
  have g3 : gc WN F0 F3 := g0.trans r1 (by decide)
  have hx : sy_i F3 82 = x := zz_i p3
  have hx1 : (sy_i F3 82).toInt ≠ 0 → x = 1 := fun q => ac_1 r2 (by rw [← hx]; exact q)
  rw [← hx] at r2
  obtain ⟨y0, y1⟩ := x01' r2
  have i38 := r1.i (k := 38) (by decide) (by decide)
  refine k0pb_62 (by decide) F3 X1 X2 g3.1 ?_ ?_
  · intro q F4 hb g e33 e34 e36 e37 e38 eFR eBU a39
    refine ⟨_, F4, rfl, rfl, (g3.mono (by decide)).trans (gc_mk (W := k0pb_W) hb g (by decide)) (fun _ q => q), Or.inl ⟨rfl, ?_⟩, fun zz => absurd zz (by decide)⟩
    rw [hr, n3, y0 q, e34, tg_eq e33]
    rfl
  · intro q F4 hb g e33 e34 e36 e37 e38 eFR eBU a39
    obtain ⟨⟨t, w'⟩, ht, hJ1, hJ2⟩ := y1 q
    have hJ1 : tg F3 = t := hJ1
    subst hJ1
    obtain ⟨hv1, v, hv2, hv3⟩ := hv (hx1 q)
    rw [vg_eq (g0.2 41 (by decide) (by decide)), ht0] at hv2
    have a44 : sy_ai F4 44 = jm_upd (sy_ai F 44) 2 v := ((nz_fa (g 44 (by decide) (by decide))).trans (nz_fa (p1 44 (by decide)))).trans hv3
    have t3 : tg F3 = tg F + 1 := (tg_eq (nz_fi (p1 33 (by decide)))).trans hv1
    exact k0vb_6 X1 X2 F0 r0 fr bu nm h0 hlt F4 (g3.trans (gc_mk (W := WN) hb g (by decide)) (fun _ q => q)) w' (wc_eq hJ2 e36 e37) (ncr_eq hn ((g 43 (by decide) (by decide)).trans (r1.2 43 (by decide) (by decide))) (by omega)) (by omega) (by rw [tg_eq e33, t3, ht0]) (by rw [a44, jm_upd_at, if_neg (by decide)]; exact n0) (by rw [a44, jm_upd_at, if_neg (by decide)]; exact n1) (by rw [a44, jm_upd_at, if_pos rfl]; exact hv2) (by rw [hr, n3, ht, tg_eq e33]; rfl)
theorem k0vb_4 (h0 : (sy_i F0 18).toInt = fr ∧ (sy_i F0 19).toInt = bu ∧ (sy_i F0 38).toInt ≤ fr + bu) (hlt : (sy_i F0 19).toInt < 4) (F : Nat → sy_d) (g0 : gc WN F0 F) (w : sE) (hw : wc (pg F0) w F) (hn : ncr (nm ++ [ng F0 (tg F0 + 1)]) F) (h38 : (sy_i F 38).toInt ≤ fr + bu + 1) (ht0 : tg F = tg F0 + 3) (n0 : ((sy_ai F 44).getD 0 0).toInt = vg F0 (tg F0 + 2)) (hr : r0 = n2 (kg F0) (vg F0) (0, 3) (0, 999) (fun q => .inr (q.1, fr, bu + 1, nm ++ [ng F0 (tg F0 + 1)], q.2)) (tg F, w)) :
    hd_W Ls xs 5 jm_M34 (fun v G => ∃ (x : Int32) (F' : Nat → sy_d), v = some (.int x) ∧ G = sy_dh F' X1 X2 (iv_H 0) ∧ gc k0pb_W F0 F' ∧ ac r0 (rcl (pg F0) 18 19) x F' ∧ (x = 1 → nbC 19 28 F0 F')) (47, sy_dL F [some (.inl (.ref 30)), none], sy_dS F [.inl (.int 3), .inl (.int 0), .inl (.int 1), .inl (.ref 30)], sy_dh F X1 X2 (iv_H 0), 0, 0) := by
  refine hd_calI (R := fun x F' => tnZ 1 ((0 : Int32)).toInt ((3 : Int32)).toInt x F F') (nh := 82) (nv := 82) (s := 0) (s1 := 0) (d1 := 4) (M1 := jm_M42) (As := [.inl (.ref 30), .inl (.int 1), .inl (.int 0), .inl (.int 3)]) (rest := []) jm_ok34 rfl rfl (by decide) (by decide +kernel) (k0tn_TZ F X1 X2 g0.1 1 0 3 (by decide) (by decide)) (fun F3 F' x hR p1 p2 p3 => ?_)
  obtain ⟨hR, hv⟩ : tnZ 1 0 3 x F F' := hR
  obtain ⟨r1, r2⟩ := tnR_dst hR p1
  rw [kg_eq (g0.2 39 (by decide) (by decide)), pg_eq (g0.2 40 (by decide) (by decide)), vg_eq (g0.2 41 (by decide) (by decide))] at r2
  have r2 := r2 w hw
  have g3 : gc WN F0 F3 := g0.trans r1 (by decide)
  have hx : sy_i F3 82 = x := zz_i p3
  have hx1 : (sy_i F3 82).toInt ≠ 0 → x = 1 := fun q => ac_1 r2 (by rw [← hx]; exact q)
  rw [← hx] at r2
  obtain ⟨y0, y1⟩ := x01' r2
  have i38 := r1.i (k := 38) (by decide) (by decide)
  refine k0pb_50 (by decide) F3 X1 X2 g3.1 ?_ ?_
  · intro q F4 hb g e33 e34 e36 e37 e38 eFR eBU a39
    refine ⟨_, F4, rfl, rfl, (g3.mono (by decide)).trans (gc_mk (W := k0pb_W) hb g (by decide)) (fun _ q => q), Or.inl ⟨rfl, ?_⟩, fun zz => absurd zz (by decide)⟩
    rw [hr, n2, y0 q, e34, tg_eq e33]
    rfl
  · intro q F4 hb g e33 e34 e36 e37 e38 eFR eBU a39
    obtain ⟨⟨t, w'⟩, ht, hJ1, hJ2⟩ := y1 q
    have hJ1 : tg F3 = t := hJ1
    subst hJ1
    obtain ⟨hv1, v, hv2, hv3⟩ := hv (hx1 q)
    rw [vg_eq (g0.2 41 (by decide) (by decide)), ht0] at hv2
    have a44 : sy_ai F4 44 = jm_upd (sy_ai F 44) 1 v := ((nz_fa (g 44 (by decide) (by decide))).trans (nz_fa (p1 44 (by decide)))).trans hv3
    have t3 : tg F3 = tg F + 1 := (tg_eq (nz_fi (p1 33 (by decide)))).trans hv1
    exact k0vb_5 X1 X2 F0 r0 fr bu nm h0 hlt F4 (g3.trans (gc_mk (W := WN) hb g (by decide)) (fun _ q => q)) w' (wc_eq hJ2 e36 e37) (ncr_eq hn ((g 43 (by decide) (by decide)).trans (r1.2 43 (by decide) (by decide))) (by omega)) (by omega) (by rw [tg_eq e33, t3, ht0]) (by rw [a44, jm_upd_at, if_neg (by decide)]; exact n0) (by rw [a44, jm_upd_at, if_pos rfl]; exact hv2) (by rw [hr, n2, ht, tg_eq e33]; rfl)
theorem k0vb_3 (h0 : (sy_i F0 18).toInt = fr ∧ (sy_i F0 19).toInt = bu ∧ (sy_i F0 38).toInt ≤ fr + bu) (hlt : (sy_i F0 19).toInt < 4) (F : Nat → sy_d) (g0 : gc WN F0 F) (w : sE) (hw : wc (pg F0) w F) (hn : ncr (nm ++ [ng F0 (tg F0 + 1)]) F) (h38 : (sy_i F 38).toInt ≤ fr + bu + 1) (ht0 : tg F = tg F0 + 2) (hr : r0 = n1 (kg F0) (vg F0) (0, 3) (0, 999) (fun q => .inr (q.1, fr, bu + 1, nm ++ [ng F0 (tg F0 + 1)], q.2)) (0, 9) (tg F, w)) :
    hd_W Ls xs 5 jm_M34 (fun v G => ∃ (x : Int32) (F' : Nat → sy_d), v = some (.int x) ∧ G = sy_dh F' X1 X2 (iv_H 0) ∧ gc k0pb_W F0 F' ∧ ac r0 (rcl (pg F0) 18 19) x F' ∧ (x = 1 → nbC 19 28 F0 F')) (37, sy_dL F [some (.inl (.ref 30)), none], sy_dS F [.inl (.int 9), .inl (.int 0), .inl (.int 0), .inl (.ref 30)], sy_dh F X1 X2 (iv_H 0), 0, 0) := by
  refine hd_calI (R := fun x F' => tnZ 0 ((0 : Int32)).toInt ((9 : Int32)).toInt x F F') (nh := 82) (nv := 82) (s := 0) (s1 := 0) (d1 := 4) (M1 := jm_M42) (As := [.inl (.ref 30), .inl (.int 0), .inl (.int 0), .inl (.int 9)]) (rest := []) jm_ok34 rfl rfl (by decide) (by decide +kernel) (k0tn_TZ F X1 X2 g0.1 0 0 9 (by decide) (by decide)) (fun F3 F' x hR p1 p2 p3 => ?_)
  obtain ⟨hR, hv⟩ : tnZ 0 0 9 x F F' := hR
  obtain ⟨r1, r2⟩ := tnR_dst hR p1
  rw [kg_eq (g0.2 39 (by decide) (by decide)), pg_eq (g0.2 40 (by decide) (by decide)), vg_eq (g0.2 41 (by decide) (by decide))] at r2
  have r2 := r2 w hw
  have g3 : gc WN F0 F3 := g0.trans r1 (by decide)
  have hx : sy_i F3 82 = x := zz_i p3
  have hx1 : (sy_i F3 82).toInt ≠ 0 → x = 1 := fun q => ac_1 r2 (by rw [← hx]; exact q)
  rw [← hx] at r2
  obtain ⟨y0, y1⟩ := x01' r2
  have i38 := r1.i (k := 38) (by decide) (by decide)
  refine k0pb_40 (by decide) F3 X1 X2 g3.1 ?_ ?_
  · intro q F4 hb g e33 e34 e36 e37 e38 eFR eBU a39
    refine ⟨_, F4, rfl, rfl, (g3.mono (by decide)).trans (gc_mk (W := k0pb_W) hb g (by decide)) (fun _ q => q), Or.inl ⟨rfl, ?_⟩, fun zz => absurd zz (by decide)⟩
    rw [hr, n1, y0 q, e34, tg_eq e33]
    rfl
  · intro q F4 hb g e33 e34 e36 e37 e38 eFR eBU a39
    obtain ⟨⟨t, w'⟩, ht, hJ1, hJ2⟩ := y1 q
    have hJ1 : tg F3 = t := hJ1
    subst hJ1
    obtain ⟨hv1, v, hv2, hv3⟩ := hv (hx1 q)
    rw [vg_eq (g0.2 41 (by decide) (by decide)), ht0] at hv2
    have a44 : sy_ai F4 44 = jm_upd (sy_ai F 44) 0 v := ((nz_fa (g 44 (by decide) (by decide))).trans (nz_fa (p1 44 (by decide)))).trans hv3
    have t3 : tg F3 = tg F + 1 := (tg_eq (nz_fi (p1 33 (by decide)))).trans hv1
    exact k0vb_4 X1 X2 F0 r0 fr bu nm h0 hlt F4 (g3.trans (gc_mk (W := WN) hb g (by decide)) (fun _ q => q)) w' (wc_eq hJ2 e36 e37) (ncr_eq hn ((g 43 (by decide) (by decide)).trans (r1.2 43 (by decide) (by decide))) (by omega)) (by omega) (by rw [tg_eq e33, t3, ht0]) (by rw [a44, jm_upd_at, if_pos rfl]; exact hv2) (by rw [hr, n1, ht, tg_eq e33]; rfl)
theorem k0vb_2 (h0 : (sy_i F0 18).toInt = fr ∧ (sy_i F0 19).toInt = bu ∧ (sy_i F0 38).toInt ≤ fr + bu) (hlt : (sy_i F0 19).toInt < 4) (F : Nat → sy_d) (g0 : gc WN F0 F) (w : sE) (hw : wc (pg F0) w F) (hn : ncr nm F) (h38 : (sy_i F 38).toInt ≤ fr + bu) (ht1 : tg F = tg F0 + 1) (hr : r0 = sB (sNm (kg F0) (ng F0) (tg F, nm, w)) (n1 (kg F0) (vg F0) (0, 3) (0, 999) (fun q => .inr (q.1, fr, bu + 1, nm ++ [ng F0 (tg F0 + 1)], q.2)) (0, 9))) :
    hd_W Ls xs 5 jm_M34 (fun v G => ∃ (x : Int32) (F' : Nat → sy_d), v = some (.int x) ∧ G = sy_dh F' X1 X2 (iv_H 0) ∧ gc k0pb_W F0 F' ∧ ac r0 (rcl (pg F0) 18 19) x F' ∧ (x = 1 → nbC 19 28 F0 F')) (26, sy_dL F [some (.inl (.ref 30)), none], sy_dS F [.inl (.ref 30)], sy_dh F X1 X2 (iv_H 0), 0, 0) := by
  have f1 := g0.i (k := 18) (by decide) (by decide)
  have f2 := g0.i (k := 19) (by decide) (by decide)
  have d1 := nz_bx g0.1 (k := 18) (lo := 0) (hi := 7) rfl
  have d2 := nz_bx g0.1 (k := 19) (lo := 0) (hi := 4) rfl
  refine hd_calI (R := fun x F' => tmR x F F') (nh := 82) (nv := 82) (s := 0) (s1 := 0) (d1 := 4) (M1 := jm_M41) (As := [.inl (.ref 30)]) (rest := []) jm_ok34 rfl rfl (by decide) (by decide +kernel) (k0tm_T F X1 X2 g0.1 (by omega)) (fun F3 F' x hR p1 p2 p3 => ?_)
  obtain ⟨r1, rl, r2⟩ := tmR_dst hR p1
  rw [kg_eq (g0.2 39 (by decide) (by decide)), pg_eq (g0.2 40 (by decide) (by decide)), ng_eq (g0.2 41 (by decide) (by decide))] at r2
  have r2 := r2 w nm hw hn
  have g3 : gc WN F0 F3 := g0.trans r1 (by decide)
  have hx : sy_i F3 82 = x := zz_i p3
  have hx1 : (sy_i F3 82).toInt ≠ 0 → x = 1 := fun q => ac_1 r2 (by rw [← hx]; exact q)
  rw [← hx] at r2
  obtain ⟨y0, y1⟩ := x01' r2
  refine k0pb_29 (by decide) F3 X1 X2 g3.1 ?_ ?_
  · intro q F4 hb g e33 e34 e36 e37 e38 eFR eBU a39
    refine ⟨_, F4, rfl, rfl, (g3.mono (by decide)).trans (gc_mk (W := k0pb_W) hb g (by decide)) (fun _ q => q), Or.inl ⟨rfl, ?_⟩, fun zz => absurd zz (by decide)⟩
    rw [hr, y0 q, e34, tg_eq e33]
    rfl
  · intro q F4 hb g e33 e34 e36 e37 e38 eFR eBU a39
    obtain ⟨⟨t, w'⟩, ht, hJ1, hJ2, hJ3⟩ := y1 q
    have hJ1 : tg F3 = t := hJ1
    subst hJ1
    have t3 : tg F3 = tg F + 1 := sNm_rc ht
    rw [ht1] at hJ3
    exact k0vb_3 X1 X2 F0 r0 fr bu nm h0 hlt F4 (g3.trans (gc_mk (W := WN) hb g (by decide)) (fun _ q => q)) w' (wc_eq hJ2 e36 e37) (ncr_eq hJ3 (g 43 (by decide) (by decide)) e38) (by omega) (by rw [tg_eq e33, t3, ht1]) (by rw [hr, ht, tg_eq e33]; rfl)
end Sk0vb
theorem k0vb_T {Ls : Nat} {xs : Nat → Int32} (X1 X2 : List jm_c) (F : Nat → sy_d) (hB : iv_in F iv_B0) (hk : kg F (tg F) = 21) (x : sT) (hx : rcl (pg F) 18 19 x F) : jm_T Ls xs 5 jm_M34 [.ref 30] (sy_dh F X1 X2 (iv_H 0)) 0 0 (fun v G => ∃ (y : Int32) (F' : Nat → sy_d), v = some (.int y) ∧ G = sy_dh F' X1 X2 (iv_H 0) ∧ gc k0pb_W F F' ∧ ac (sBuyer (kg F) (vg F) (ng F) x) (rcl (pg F) 18 19) y F' ∧ (y = 1 → nbC 19 28 F F')) := by
  obtain ⟨t, fr, bu, nm, w⟩ := x
  obtain ⟨x1, x2, x3, x4, x5, x6⟩ := hx
  have x1 : tg F = t := x1
  subst x1
  have x2 : (sy_i F 18).toInt = fr := x2
  have x3 : (sy_i F 19).toInt = bu := x3
  have x6 : (sy_i F 38).toInt ≤ fr + bu := x6
  have c33 := nz_bx hB (k := 33) (lo := 0) (hi := 400) rfl
  have dF := nz_bx hB (k := 19) (lo := 0) (hi := 4) rfl
  refine hd_T (As := [.inl (.ref 30)]) jm_ok34 (by decide) (k0pb_0 (by decide) F X1 X2 hB ?_ ?_)
  · intro q F1 hb g e33 e34 e36 e37 e38 eFR eBU a39
    have g0 : ∀ q, q < 82 → F1 q = F q := fun q hq => g q hq (by simp)
    refine hd_calI (R := fun x F' => taR ((1 : Int32)).toInt x F1 F') (nh := 82) (nv := 82) (s := 0) (s1 := 0) (d1 := 3) (M1 := jm_M43) (As := [.inl (.ref 30), .inl (.int 1)]) (rest := []) jm_ok34 rfl rfl (by decide) (by decide +kernel) (k0ta_T F1 X1 X2 hb 1) (fun F3 F' x hR p1 p2 p3 => ?_)
    have hR : taR 1 x F1 F' := hR
    obtain ⟨r1, r2⟩ := taR_src (taR_dst hR p1) g0
    have r2 := r2 (km_in (j := 21) (fun c => km_w (by decide) (by decide)) (by decide))
    rw [show km 1 = 21 by decide, show sM (kg F) 21 (tg F) = sG (tg F) by unfold sM; rw [if_pos hk]] at r2
    have g3 : gc WN F F3 := r1.mono (by decide)
    have hx : sy_i F3 82 = x := zz_i p3
    have hx1 : (sy_i F3 82).toInt ≠ 0 → x = 1 := fun q => ac_1 r2 (by rw [← hx]; exact q)
    rw [← hx] at r2
    obtain ⟨y0, y1⟩ := x01' r2
    have i36 := r1.i (k := 36) (by decide) (by decide)
    have i37 := r1.i (k := 37) (by decide) (by decide)
    have i38 := r1.i (k := 38) (by decide) (by decide)
    have hS : sBuyer (kg F) (vg F) (ng F) (tg F, fr, bu, nm, w) = sB (sG (tg F)) fun t => sB (sTell (kg F) (vg F) (ng F) (0, 9) (0, 3) (0, 999) (t, nm, w)) fun q => .inr (q.1, fr, bu + 1, nm ++ [ng F t], q.2) := sBu_n (by omega)
    refine k0pb_22 (by decide) F3 X1 X2 g3.1 ?_ ?_
    · intro q F4 hb g e33 e34 e36 e37 e38 eFR eBU a39
      refine ⟨_, F4, rfl, rfl, (g3.mono (by decide)).trans (gc_mk (W := k0pb_W) hb g (by decide)) (fun _ q => q), Or.inl ⟨rfl, ?_⟩, fun zz => absurd zz (by decide)⟩
      rw [hS, y0 q, e34, tg_eq e33]
      rfl
    · intro q F4 hb g d33 d34 d36 d37 d38 dFR dBU b39
      obtain ⟨t, ht, hJ⟩ := y1 q
      have h4 : tg F < 400 := by
        by_cases z : tg F = 400
        · rw [sG_4 z] at ht
          cases ht
        · unfold tg at z ⊢
          omega
      rw [sG_ok h4] at ht
      have et : t = tg F + 1 := (Sum.inr.inj ht).symm
      refine k0vb_2 X1 X2 F _ fr bu nm ⟨x2, x3, x6⟩ (by omega) F4 (g3.trans (gc_mk (W := WN) hb g (by decide)) (fun _ q => q)) w (wc_eq x5 (by omega) (by omega)) (ncr_eq x4 ((g 43 (by decide) (by decide)).trans (r1.2 43 (by decide) (by decide))) (by omega)) (by omega) (by rw [tg_eq d33, hJ, et]) ?_
      rw [hS, sG_ok h4, tg_eq d33, hJ, et]
      exact n_eq (kg F) (vg F) (0, 3) (0, 999) (fun q => .inr (q.1, fr, bu + 1, nm ++ [ng F (tg F + 1)], q.2)) (ng F) (0, 9) (tg F + 1, nm, w)
  · intro q F1 hb g e33 e34 e36 e37 e38 eFR eBU a39
    exact ⟨_, F1, rfl, rfl, gc_mk hb g (by decide), Or.inl ⟨rfl, by rw [sBu_4 (by omega), e34, tg_eq e33]⟩, fun zz => absurd zz (by decide)⟩
theorem k3tn_TZ {Ls : Nat} {xs : Nat → Int32} (F : Nat → sy_d) (X1 X2 : List jm_c) (hB : iv_in F iv_B0) (a b c : Int32) (h1 : 0 ≤ a.toInt) (h2 : a.toInt ≤ 2) : jm_T Ls xs 4 jm_M42 [.ref 30, .int a, .int b, .int c] (sy_dh F X1 X2 (iv_H 3)) 0 0 (fun v G => ∃ (x : Int32) (F' : Nat → sy_d), v = some (.int x) ∧ G = sy_dh F' X1 X2 (iv_H 3) ∧ tnZ a.toInt b.toInt c.toInt x F F') := by
  refine nx_T (s := 3) (by decide) F X1 X2 (as := [a, b, c]) (A := [.inl (.ref 30), .inr (.inl 82), .inr (.inl 83), .inr (.inl 84)]) jm_ok42 (by decide) rfl ?_
  obtain ⟨F0, hF0⟩ : ∃ F0, F0 = nx 82 F [a, b, c] := ⟨_, rfl⟩
  rw [← hF0]
  have k0 : ∀ q, q < 82 → F0 q = F q := by rw [hF0]; exact nx_lt
  have i82 : sy_i F0 82 = a := by rw [hF0]; rfl
  have i83 : sy_i F0 83 = b := by rw [hF0]; rfl
  have i84 : sy_i F0 84 = c := by rw [hF0]; rfl
  have hB0 := hd_iveq0 hB k0
  have c33 := nz_bx hB0 (k := 33) (lo := 0) (hi := 400) rfl
  have et : (tg F0 : Int) = (sy_i F0 33).toInt := by unfold tg; omega
  have eK : kg F0 (tg F0) = 2 ↔ ((sy_ai F0 39).getD (sy_i F0 33).toInt.toNat 0).toInt = 24 := km_2
  have e1 : ((sy_i F0 33).toInt + 1 - 1).toNat = tg F0 := by unfold tg; omega
  refine k3ztn_0 (by decide) F0 X1 X2 hB0 (by rw [i82]; exact ⟨h1, h2⟩) ?_ ?_ ?_ ?_ ?_ ?_ ?_
  all_goals
    try rw [e1]
    have eV : vg F0 (tg F0) = (((sy_al F0 41).getD (tg F0) 0).toInt32).toInt := rfl
    have eP : pg F0 (tg F0) = ((sy_ai F0 40).getD (tg F0) 0).toInt := rfl
    intros
    rename_i F1 hb g e33 e34 e36 e37 e38 a39 a40 a44
    refine ⟨_, F1, rfl, rfl, tnZ_src ⟨⟨gc_mk hb g (by decide), fun w hw => ?_⟩, fun zz => ?_⟩ k0⟩
    rotate_left
    · first
        | exact absurd zz (by decide)
        | exact ⟨tg_s c33.1 e33, _, rfl, by rw [a44, i82]⟩
    rw [← i83, ← i84]
  all_goals first
    | exact ac_er (k := 1) (t := tg F0) (sN_no (by omega)) e34 (tg_eq e33)
    | exact ac_er (k := 2) (t := tg F0) (sN_4 (by omega) (by omega)) e34 (tg_eq e33)
    | exact ac_ok (sN_ok (by omega) (by omega)) ⟨tg_s c33.1 e33, wc_s (by decide) hw (by omega)⟩
section Sk3vf
variable {Ls : Nat} {xs : Nat → Int32} (X1 X2 : List jm_c) (F0 : Nat → sy_d) (r0 : sE ⊕ sT) (fr bu : Nat) (nm : List Int64)
theorem k3vf_6 (h0 : (sy_i F0 3).toInt = fr ∧ (sy_i F0 4).toInt = bu ∧ (sy_i F0 38).toInt ≤ fr + bu) (hlt : (sy_i F0 3).toInt < 7) (F : Nat → sy_d) (g0 : gc WN F0 F) (w : sE) (hw : wc (pg F0) w F) (hn : ncr (nm ++ [ng F0 (tg F0 + 1)]) F) (h38 : (sy_i F 38).toInt ≤ fr + bu + 1) (ht0 : tg F = tg F0 + 5) (n0 : ((sy_ai F 44).getD 0 0).toInt = vg F0 (tg F0 + 2)) (n1 : ((sy_ai F 44).getD 1 0).toInt = vg F0 (tg F0 + 3)) (n2 : ((sy_ai F 44).getD 2 0).toInt = vg F0 (tg F0 + 4)) (hr : r0 = n4 (kg F0) (fun q => .inr (q.1, fr + 1, bu, nm ++ [ng F0 (tg F0 + 1)], q.2)) (tg F, w)) :
    hd_W Ls xs 5 jm_M33 (fun v G => ∃ (x : Int32) (F' : Nat → sy_d), v = some (.int x) ∧ G = sy_dh F' X1 X2 (iv_H 3) ∧ gc k3pf_W F0 F' ∧ ac r0 (rcl (pg F0) 3 4) x F' ∧ (x = 1 → nbC 3 9 F0 F')) (69, sy_dL F [some (.inl (.ref 30)), none], sy_dS F [.inl (.int 59), .inl (.ref 30)], sy_dh F X1 X2 (iv_H 3), 0, 0) := by
  refine hd_calI (R := fun x F' => taR ((59 : Int32)).toInt x F F') (nh := 82) (nv := 82) (s := 3) (s1 := 3) (d1 := 3) (M1 := jm_M43) (As := [.inl (.ref 30), .inl (.int 59)]) (rest := []) jm_ok33 rfl rfl (by decide) (by decide +kernel) (k3ta_T F X1 X2 g0.1 59) (fun F3 F' x hR p1 p2 p3 => ?_)
  have hR : taR 59 x F F' := hR
  obtain ⟨r1, r2⟩ := taR_dst hR p1
  have r2 := r2 (km_in (j := 4) (fun c => km_4) (by decide))
  rw [show km 59 = 4 by decide, kg_eq (g0.2 39 (by decide) (by decide))] at r2
  have g3 : gc WN F0 F3 := g0.trans r1 (by decide)
  have hx : sy_i F3 82 = x := zz_i p3
  have hx1 : (sy_i F3 82).toInt ≠ 0 → x = 1 := fun q => ac_1 r2 (by rw [← hx]; exact q)
  rw [← hx] at r2
  obtain ⟨y0, y1⟩ := x01' r2
  have f1 := g3.i (k := 3) (by decide) (by decide)
  have f2 := g3.i (k := 4) (by decide) (by decide)
  have i36 := r1.i (k := 36) (by decide) (by decide)
  have i37 := r1.i (k := 37) (by decide) (by decide)
  have i38 := r1.i (k := 38) (by decide) (by decide)
  refine k3zpf_72 (by decide) F3 X1 X2 g3.1 ?_ ?_ ?_
  · intro q F4 hb g e33 e34 e36 e37 e38 eFR eBU a39 aR0 aR1 aR2
    refine ⟨_, F4, rfl, rfl, (g3.mono (by decide)).trans (gc_mk (W := k3pf_W) hb g (by decide)) (fun _ q => q), Or.inl ⟨rfl, ?_⟩, fun zz => absurd zz (by decide)⟩
    rw [hr, n4, y0 q, e34, tg_eq e33]
    rfl
  · intros; exfalso; omega
  · intro q _ F4 hb g e33 e34 e36 e37 e38 eFR eBU a39 aR0 aR1 aR2
    obtain ⟨t, ht, hJ⟩ := y1 q
    have t3 : tg F3 = tg F + 1 := by rw [hJ]; exact sM_r ht
    have c44 : sy_ai F3 44 = sy_ai F 44 := nz_fa (r1.2 44 (by decide) (by decide))
    have f3 : (sy_i F3 3).toInt = (sy_i F0 3).toInt := f1
    have z0 : sy_ai F3 9 = sy_ai F0 9 := nz_fa (g3.2 9 (by decide) (by decide))
    have z1 : sy_ai F3 10 = sy_ai F0 10 := nz_fa (g3.2 10 (by decide) (by decide))
    have z2 : sy_ai F3 11 = sy_ai F0 11 := nz_fa (g3.2 11 (by decide) (by decide))
    refine ⟨_, F4, rfl, rfl, (g3.mono (by decide)).trans (gc_mk (W := k3pf_W) hb g (by decide)) (fun _ q => q), ac_ok (by rw [hr, n4, ht]; rfl) ⟨by rw [tg_eq e33]; exact hJ, ?_, ?_, ncr_eq hn ((g 43 (by decide) (by decide)).trans (r1.2 43 (by decide) (by decide))) (by omega), wc_eq hw (by omega) (by omega), ?_⟩, fun _ => ⟨by rw [tg_eq e33]; omega, by omega, (sy_ai F 44).getD 0 0, (sy_ai F 44).getD 1 0, (sy_ai F 44).getD 2 0, n0, n1, n2, by rw [aR0, z0, c44, f3]; rfl, by rw [aR1, z1, c44, f3]; rfl, by rw [aR2, z2, c44, f3]; rfl⟩⟩
    · show (sy_i F4 3).toInt = ((fr + 1 : Nat) : Int)
      omega
    · show (sy_i F4 4).toInt = ((bu : Nat) : Int)
      omega
    · show (sy_i F4 38).toInt ≤ ((fr + 1 : Nat) : Int) + ((bu : Nat) : Int)
      omega
theorem k3vf_5 (h0 : (sy_i F0 3).toInt = fr ∧ (sy_i F0 4).toInt = bu ∧ (sy_i F0 38).toInt ≤ fr + bu) (hlt : (sy_i F0 3).toInt < 7) (F : Nat → sy_d) (g0 : gc WN F0 F) (w : sE) (hw : wc (pg F0) w F) (hn : ncr (nm ++ [ng F0 (tg F0 + 1)]) F) (h38 : (sy_i F 38).toInt ≤ fr + bu + 1) (ht0 : tg F = tg F0 + 4) (n0 : ((sy_ai F 44).getD 0 0).toInt = vg F0 (tg F0 + 2)) (n1 : ((sy_ai F 44).getD 1 0).toInt = vg F0 (tg F0 + 3)) (hr : r0 = n3 (kg F0) (vg F0) (0, 99) (fun q => .inr (q.1, fr + 1, bu, nm ++ [ng F0 (tg F0 + 1)], q.2)) (tg F, w)) :
    hd_W Ls xs 5 jm_M33 (fun v G => ∃ (x : Int32) (F' : Nat → sy_d), v = some (.int x) ∧ G = sy_dh F' X1 X2 (iv_H 3) ∧ gc k3pf_W F0 F' ∧ ac r0 (rcl (pg F0) 3 4) x F' ∧ (x = 1 → nbC 3 9 F0 F')) (60, sy_dL F [some (.inl (.ref 30)), none], sy_dS F [.inl (.int 99), .inl (.int 0), .inl (.int 2), .inl (.ref 30)], sy_dh F X1 X2 (iv_H 3), 0, 0) := by
  refine hd_calI (R := fun x F' => tnZ 2 ((0 : Int32)).toInt ((99 : Int32)).toInt x F F') (nh := 82) (nv := 82) (s := 3) (s1 := 3) (d1 := 4) (M1 := jm_M42) (As := [.inl (.ref 30), .inl (.int 2), .inl (.int 0), .inl (.int 99)]) (rest := []) jm_ok33 rfl rfl (by decide) (by decide +kernel) (k3tn_TZ F X1 X2 g0.1 2 0 99 (by decide) (by decide)) (fun F3 F' x hR p1 p2 p3 => ?_)
  obtain ⟨hR, hv⟩ : tnZ 2 0 99 x F F' := hR
  obtain ⟨r1, r2⟩ := tnR_dst hR p1
  rw [kg_eq (g0.2 39 (by decide) (by decide)), pg_eq (g0.2 40 (by decide) (by decide)), vg_eq (g0.2 41 (by decide) (by decide))] at r2
  have r2 := r2 w hw
  have g3 : gc WN F0 F3 := g0.trans r1 (by decide)
  have hx : sy_i F3 82 = x := zz_i p3
  have hx1 : (sy_i F3 82).toInt ≠ 0 → x = 1 := fun q => ac_1 r2 (by rw [← hx]; exact q)
  rw [← hx] at r2
  obtain ⟨y0, y1⟩ := x01' r2
  have i38 := r1.i (k := 38) (by decide) (by decide)
  refine k3pf_63 (by decide) F3 X1 X2 g3.1 ?_ ?_
  · intro q F4 hb g e33 e34 e36 e37 e38 eFR eBU a39
    refine ⟨_, F4, rfl, rfl, (g3.mono (by decide)).trans (gc_mk (W := k3pf_W) hb g (by decide)) (fun _ q => q), Or.inl ⟨rfl, ?_⟩, fun zz => absurd zz (by decide)⟩
    rw [hr, n3, y0 q, e34, tg_eq e33]
    rfl
  · intro q F4 hb g e33 e34 e36 e37 e38 eFR eBU a39
    obtain ⟨⟨t, w'⟩, ht, hJ1, hJ2⟩ := y1 q
    have hJ1 : tg F3 = t := hJ1
    subst hJ1
    obtain ⟨hv1, v, hv2, hv3⟩ := hv (hx1 q)
    rw [vg_eq (g0.2 41 (by decide) (by decide)), ht0] at hv2
    have a44 : sy_ai F4 44 = jm_upd (sy_ai F 44) 2 v := ((nz_fa (g 44 (by decide) (by decide))).trans (nz_fa (p1 44 (by decide)))).trans hv3
    have t3 : tg F3 = tg F + 1 := (tg_eq (nz_fi (p1 33 (by decide)))).trans hv1
    exact k3vf_6 X1 X2 F0 r0 fr bu nm h0 hlt F4 (g3.trans (gc_mk (W := WN) hb g (by decide)) (fun _ q => q)) w' (wc_eq hJ2 e36 e37) (ncr_eq hn ((g 43 (by decide) (by decide)).trans (r1.2 43 (by decide) (by decide))) (by omega)) (by omega) (by rw [tg_eq e33, t3, ht0]) (by rw [a44, jm_upd_at, if_neg (by decide)]; exact n0) (by rw [a44, jm_upd_at, if_neg (by decide)]; exact n1) (by rw [a44, jm_upd_at, if_pos rfl]; exact hv2) (by rw [hr, n3, ht, tg_eq e33]; rfl)
theorem k3vf_4 (h0 : (sy_i F0 3).toInt = fr ∧ (sy_i F0 4).toInt = bu ∧ (sy_i F0 38).toInt ≤ fr + bu) (hlt : (sy_i F0 3).toInt < 7) (F : Nat → sy_d) (g0 : gc WN F0 F) (w : sE) (hw : wc (pg F0) w F) (hn : ncr (nm ++ [ng F0 (tg F0 + 1)]) F) (h38 : (sy_i F 38).toInt ≤ fr + bu + 1) (ht0 : tg F = tg F0 + 3) (n0 : ((sy_ai F 44).getD 0 0).toInt = vg F0 (tg F0 + 2)) (hr : r0 = n2 (kg F0) (vg F0) (1, 9) (0, 99) (fun q => .inr (q.1, fr + 1, bu, nm ++ [ng F0 (tg F0 + 1)], q.2)) (tg F, w)) :
    hd_W Ls xs 5 jm_M33 (fun v G => ∃ (x : Int32) (F' : Nat → sy_d), v = some (.int x) ∧ G = sy_dh F' X1 X2 (iv_H 3) ∧ gc k3pf_W F0 F' ∧ ac r0 (rcl (pg F0) 3 4) x F' ∧ (x = 1 → nbC 3 9 F0 F')) (49, sy_dL F [some (.inl (.ref 30)), none], sy_dS F [.inl (.int 9), .inl (.int 1), .inl (.int 1), .inl (.ref 30)], sy_dh F X1 X2 (iv_H 3), 0, 0) := by
  refine hd_calI (R := fun x F' => tnZ 1 ((1 : Int32)).toInt ((9 : Int32)).toInt x F F') (nh := 82) (nv := 82) (s := 3) (s1 := 3) (d1 := 4) (M1 := jm_M42) (As := [.inl (.ref 30), .inl (.int 1), .inl (.int 1), .inl (.int 9)]) (rest := []) jm_ok33 rfl rfl (by decide) (by decide +kernel) (k3tn_TZ F X1 X2 g0.1 1 1 9 (by decide) (by decide)) (fun F3 F' x hR p1 p2 p3 => ?_)
  obtain ⟨hR, hv⟩ : tnZ 1 1 9 x F F' := hR
  obtain ⟨r1, r2⟩ := tnR_dst hR p1
  rw [kg_eq (g0.2 39 (by decide) (by decide)), pg_eq (g0.2 40 (by decide) (by decide)), vg_eq (g0.2 41 (by decide) (by decide))] at r2
  have r2 := r2 w hw
  have g3 : gc WN F0 F3 := g0.trans r1 (by decide)
  have hx : sy_i F3 82 = x := zz_i p3
  have hx1 : (sy_i F3 82).toInt ≠ 0 → x = 1 := fun q => ac_1 r2 (by rw [← hx]; exact q)
  rw [← hx] at r2
  obtain ⟨y0, y1⟩ := x01' r2
  have i38 := r1.i (k := 38) (by decide) (by decide)
  refine k3pf_52 (by decide) F3 X1 X2 g3.1 ?_ ?_
  · intro q F4 hb g e33 e34 e36 e37 e38 eFR eBU a39
    refine ⟨_, F4, rfl, rfl, (g3.mono (by decide)).trans (gc_mk (W := k3pf_W) hb g (by decide)) (fun _ q => q), Or.inl ⟨rfl, ?_⟩, fun zz => absurd zz (by decide)⟩
    rw [hr, n2, y0 q, e34, tg_eq e33]
    rfl
  · intro q F4 hb g e33 e34 e36 e37 e38 eFR eBU a39
    obtain ⟨⟨t, w'⟩, ht, hJ1, hJ2⟩ := y1 q
    have hJ1 : tg F3 = t := hJ1
    subst hJ1
    obtain ⟨hv1, v, hv2, hv3⟩ := hv (hx1 q)
    rw [vg_eq (g0.2 41 (by decide) (by decide)), ht0] at hv2
    have a44 : sy_ai F4 44 = jm_upd (sy_ai F 44) 1 v := ((nz_fa (g 44 (by decide) (by decide))).trans (nz_fa (p1 44 (by decide)))).trans hv3
    have t3 : tg F3 = tg F + 1 := (tg_eq (nz_fi (p1 33 (by decide)))).trans hv1
    exact k3vf_5 X1 X2 F0 r0 fr bu nm h0 hlt F4 (g3.trans (gc_mk (W := WN) hb g (by decide)) (fun _ q => q)) w' (wc_eq hJ2 e36 e37) (ncr_eq hn ((g 43 (by decide) (by decide)).trans (r1.2 43 (by decide) (by decide))) (by omega)) (by omega) (by rw [tg_eq e33, t3, ht0]) (by rw [a44, jm_upd_at, if_neg (by decide)]; exact n0) (by rw [a44, jm_upd_at, if_pos rfl]; exact hv2) (by rw [hr, n2, ht, tg_eq e33]; rfl)
theorem k3vf_3 (h0 : (sy_i F0 3).toInt = fr ∧ (sy_i F0 4).toInt = bu ∧ (sy_i F0 38).toInt ≤ fr + bu) (hlt : (sy_i F0 3).toInt < 7) (F : Nat → sy_d) (g0 : gc WN F0 F) (w : sE) (hw : wc (pg F0) w F) (hn : ncr (nm ++ [ng F0 (tg F0 + 1)]) F) (h38 : (sy_i F 38).toInt ≤ fr + bu + 1) (ht0 : tg F = tg F0 + 2) (hr : r0 = n1 (kg F0) (vg F0) (1, 9) (0, 99) (fun q => .inr (q.1, fr + 1, bu, nm ++ [ng F0 (tg F0 + 1)], q.2)) (0, 9) (tg F, w)) :
    hd_W Ls xs 5 jm_M33 (fun v G => ∃ (x : Int32) (F' : Nat → sy_d), v = some (.int x) ∧ G = sy_dh F' X1 X2 (iv_H 3) ∧ gc k3pf_W F0 F' ∧ ac r0 (rcl (pg F0) 3 4) x F' ∧ (x = 1 → nbC 3 9 F0 F')) (38, sy_dL F [some (.inl (.ref 30)), none], sy_dS F [.inl (.int 9), .inl (.int 0), .inl (.int 0), .inl (.ref 30)], sy_dh F X1 X2 (iv_H 3), 0, 0) := by
  refine hd_calI (R := fun x F' => tnZ 0 ((0 : Int32)).toInt ((9 : Int32)).toInt x F F') (nh := 82) (nv := 82) (s := 3) (s1 := 3) (d1 := 4) (M1 := jm_M42) (As := [.inl (.ref 30), .inl (.int 0), .inl (.int 0), .inl (.int 9)]) (rest := []) jm_ok33 rfl rfl (by decide) (by decide +kernel) (k3tn_TZ F X1 X2 g0.1 0 0 9 (by decide) (by decide)) (fun F3 F' x hR p1 p2 p3 => ?_)
  obtain ⟨hR, hv⟩ : tnZ 0 0 9 x F F' := hR
  obtain ⟨r1, r2⟩ := tnR_dst hR p1
  rw [kg_eq (g0.2 39 (by decide) (by decide)), pg_eq (g0.2 40 (by decide) (by decide)), vg_eq (g0.2 41 (by decide) (by decide))] at r2
  have r2 := r2 w hw
  have g3 : gc WN F0 F3 := g0.trans r1 (by decide)
  have hx : sy_i F3 82 = x := zz_i p3
  have hx1 : (sy_i F3 82).toInt ≠ 0 → x = 1 := fun q => ac_1 r2 (by rw [← hx]; exact q)
  rw [← hx] at r2
  obtain ⟨y0, y1⟩ := x01' r2
  have i38 := r1.i (k := 38) (by decide) (by decide)
  refine k3pf_41 (by decide) F3 X1 X2 g3.1 ?_ ?_
  · intro q F4 hb g e33 e34 e36 e37 e38 eFR eBU a39
    refine ⟨_, F4, rfl, rfl, (g3.mono (by decide)).trans (gc_mk (W := k3pf_W) hb g (by decide)) (fun _ q => q), Or.inl ⟨rfl, ?_⟩, fun zz => absurd zz (by decide)⟩
    rw [hr, n1, y0 q, e34, tg_eq e33]
    rfl
  · intro q F4 hb g e33 e34 e36 e37 e38 eFR eBU a39
    obtain ⟨⟨t, w'⟩, ht, hJ1, hJ2⟩ := y1 q
    have hJ1 : tg F3 = t := hJ1
    subst hJ1
    obtain ⟨hv1, v, hv2, hv3⟩ := hv (hx1 q)
    rw [vg_eq (g0.2 41 (by decide) (by decide)), ht0] at hv2
    have a44 : sy_ai F4 44 = jm_upd (sy_ai F 44) 0 v := ((nz_fa (g 44 (by decide) (by decide))).trans (nz_fa (p1 44 (by decide)))).trans hv3
    have t3 : tg F3 = tg F + 1 := (tg_eq (nz_fi (p1 33 (by decide)))).trans hv1
    exact k3vf_4 X1 X2 F0 r0 fr bu nm h0 hlt F4 (g3.trans (gc_mk (W := WN) hb g (by decide)) (fun _ q => q)) w' (wc_eq hJ2 e36 e37) (ncr_eq hn ((g 43 (by decide) (by decide)).trans (r1.2 43 (by decide) (by decide))) (by omega)) (by omega) (by rw [tg_eq e33, t3, ht0]) (by rw [a44, jm_upd_at, if_pos rfl]; exact hv2) (by rw [hr, n1, ht, tg_eq e33]; rfl)
theorem k3vf_2 (h0 : (sy_i F0 3).toInt = fr ∧ (sy_i F0 4).toInt = bu ∧ (sy_i F0 38).toInt ≤ fr + bu) (hlt : (sy_i F0 3).toInt < 7) (F : Nat → sy_d) (g0 : gc WN F0 F) (w : sE) (hw : wc (pg F0) w F) (hn : ncr nm F) (h38 : (sy_i F 38).toInt ≤ fr + bu) (ht1 : tg F = tg F0 + 1) (hr : r0 = sB (sNm (kg F0) (ng F0) (tg F, nm, w)) (n1 (kg F0) (vg F0) (1, 9) (0, 99) (fun q => .inr (q.1, fr + 1, bu, nm ++ [ng F0 (tg F0 + 1)], q.2)) (0, 9))) :
    hd_W Ls xs 5 jm_M33 (fun v G => ∃ (x : Int32) (F' : Nat → sy_d), v = some (.int x) ∧ G = sy_dh F' X1 X2 (iv_H 3) ∧ gc k3pf_W F0 F' ∧ ac r0 (rcl (pg F0) 3 4) x F' ∧ (x = 1 → nbC 3 9 F0 F')) (27, sy_dL F [some (.inl (.ref 30)), none], sy_dS F [.inl (.ref 30)], sy_dh F X1 X2 (iv_H 3), 0, 0) := by
  have f1 := g0.i (k := 3) (by decide) (by decide)
  have f2 := g0.i (k := 4) (by decide) (by decide)
  have d1 := nz_bx g0.1 (k := 3) (lo := 0) (hi := 7) rfl
  have d2 := nz_bx g0.1 (k := 4) (lo := 0) (hi := 4) rfl
  refine hd_calI (R := fun x F' => tmR x F F') (nh := 82) (nv := 82) (s := 3) (s1 := 3) (d1 := 4) (M1 := jm_M41) (As := [.inl (.ref 30)]) (rest := []) jm_ok33 rfl rfl (by decide) (by decide +kernel) (k3tm_T F X1 X2 g0.1 (by omega)) (fun F3 F' x hR p1 p2 p3 => ?_)
  obtain ⟨r1, rl, r2⟩ := tmR_dst hR p1
  rw [kg_eq (g0.2 39 (by decide) (by decide)), pg_eq (g0.2 40 (by decide) (by decide)), ng_eq (g0.2 41 (by decide) (by decide))] at r2
  have r2 := r2 w nm hw hn
  have g3 : gc WN F0 F3 := g0.trans r1 (by decide)
  have hx : sy_i F3 82 = x := zz_i p3
  have hx1 : (sy_i F3 82).toInt ≠ 0 → x = 1 := fun q => ac_1 r2 (by rw [← hx]; exact q)
  rw [← hx] at r2
  obtain ⟨y0, y1⟩ := x01' r2
  refine k3pf_30 (by decide) F3 X1 X2 g3.1 ?_ ?_
  · intro q F4 hb g e33 e34 e36 e37 e38 eFR eBU a39
    refine ⟨_, F4, rfl, rfl, (g3.mono (by decide)).trans (gc_mk (W := k3pf_W) hb g (by decide)) (fun _ q => q), Or.inl ⟨rfl, ?_⟩, fun zz => absurd zz (by decide)⟩
    rw [hr, y0 q, e34, tg_eq e33]
    rfl
  · intro q F4 hb g e33 e34 e36 e37 e38 eFR eBU a39
    obtain ⟨⟨t, w'⟩, ht, hJ1, hJ2, hJ3⟩ := y1 q
    have hJ1 : tg F3 = t := hJ1
    subst hJ1
    have t3 : tg F3 = tg F + 1 := sNm_rc ht
    rw [ht1] at hJ3
    exact k3vf_3 X1 X2 F0 r0 fr bu nm h0 hlt F4 (g3.trans (gc_mk (W := WN) hb g (by decide)) (fun _ q => q)) w' (wc_eq hJ2 e36 e37) (ncr_eq hJ3 (g 43 (by decide) (by decide)) e38) (by omega) (by rw [tg_eq e33, t3, ht1]) (by rw [hr, ht, tg_eq e33]; rfl)
end Sk3vf
theorem k3vf_T {Ls : Nat} {xs : Nat → Int32} (X1 X2 : List jm_c) (F : Nat → sy_d) (hB : iv_in F iv_B0) (hk : kg F (tg F) = 20) (x : sT) (hx : rcl (pg F) 3 4 x F) : jm_T Ls xs 5 jm_M33 [.ref 30] (sy_dh F X1 X2 (iv_H 3)) 0 0 (fun v G => ∃ (y : Int32) (F' : Nat → sy_d), v = some (.int y) ∧ G = sy_dh F' X1 X2 (iv_H 3) ∧ gc k3pf_W F F' ∧ ac (sFruit (kg F) (vg F) (ng F) x) (rcl (pg F) 3 4) y F' ∧ (y = 1 → nbC 3 9 F F')) := by
  obtain ⟨t, fr, bu, nm, w⟩ := x
  obtain ⟨x1, x2, x3, x4, x5, x6⟩ := hx
  have x1 : tg F = t := x1
  subst x1
  have x2 : (sy_i F 3).toInt = fr := x2
  have x3 : (sy_i F 4).toInt = bu := x3
  have x6 : (sy_i F 38).toInt ≤ fr + bu := x6
  have c33 := nz_bx hB (k := 33) (lo := 0) (hi := 400) rfl
  have dF := nz_bx hB (k := 3) (lo := 0) (hi := 7) rfl
  refine hd_T (As := [.inl (.ref 30)]) jm_ok33 (by decide) (k3pf_0 (by decide) F X1 X2 hB ?_ ?_)
  · intro q F1 hb g e33 e34 e36 e37 e38 eFR eBU a39
    have g0 : ∀ q, q < 82 → F1 q = F q := fun q hq => g q hq (by simp)
    refine hd_calI (R := fun x F' => taR ((0 : Int32)).toInt x F1 F') (nh := 82) (nv := 82) (s := 3) (s1 := 3) (d1 := 3) (M1 := jm_M43) (As := [.inl (.ref 30), .inl (.int 0)]) (rest := []) jm_ok33 rfl rfl (by decide) (by decide +kernel) (k3ta_T F1 X1 X2 hb 0) (fun F3 F' x hR p1 p2 p3 => ?_)
    have hR : taR 0 x F1 F' := hR
    obtain ⟨r1, r2⟩ := taR_src (taR_dst hR p1) g0
    have r2 := r2 (km_in (j := 20) (fun c => km_w (by decide) (by decide)) (by decide))
    rw [show km 0 = 20 by decide, show sM (kg F) 20 (tg F) = sG (tg F) by unfold sM; rw [if_pos hk]] at r2
    have g3 : gc WN F F3 := r1.mono (by decide)
    have hx : sy_i F3 82 = x := zz_i p3
    have hx1 : (sy_i F3 82).toInt ≠ 0 → x = 1 := fun q => ac_1 r2 (by rw [← hx]; exact q)
    rw [← hx] at r2
    obtain ⟨y0, y1⟩ := x01' r2
    have i36 := r1.i (k := 36) (by decide) (by decide)
    have i37 := r1.i (k := 37) (by decide) (by decide)
    have i38 := r1.i (k := 38) (by decide) (by decide)
    have hS : sFruit (kg F) (vg F) (ng F) (tg F, fr, bu, nm, w) = sB (sG (tg F)) fun t => sB (sTell (kg F) (vg F) (ng F) (0, 9) (1, 9) (0, 99) (t, nm, w)) fun q => .inr (q.1, fr + 1, bu, nm ++ [ng F t], q.2) := sF_n (by omega)
    refine k3pf_23 (by decide) F3 X1 X2 g3.1 ?_ ?_
    · intro q F4 hb g e33 e34 e36 e37 e38 eFR eBU a39
      refine ⟨_, F4, rfl, rfl, (g3.mono (by decide)).trans (gc_mk (W := k3pf_W) hb g (by decide)) (fun _ q => q), Or.inl ⟨rfl, ?_⟩, fun zz => absurd zz (by decide)⟩
      rw [hS, y0 q, e34, tg_eq e33]
      rfl
    · intro q F4 hb g d33 d34 d36 d37 d38 dFR dBU b39
      obtain ⟨t, ht, hJ⟩ := y1 q
      have h4 : tg F < 400 := by
        by_cases z : tg F = 400
        · rw [sG_4 z] at ht
          cases ht
        · unfold tg at z ⊢
          omega
      rw [sG_ok h4] at ht
      have et : t = tg F + 1 := (Sum.inr.inj ht).symm
      refine k3vf_2 X1 X2 F _ fr bu nm ⟨x2, x3, x6⟩ (by omega) F4 (g3.trans (gc_mk (W := WN) hb g (by decide)) (fun _ q => q)) w (wc_eq x5 (by omega) (by omega)) (ncr_eq x4 ((g 43 (by decide) (by decide)).trans (r1.2 43 (by decide) (by decide))) (by omega)) (by omega) (by rw [tg_eq d33, hJ, et]) ?_
      rw [hS, sG_ok h4, tg_eq d33, hJ, et]
      exact n_eq (kg F) (vg F) (1, 9) (0, 99) (fun q => .inr (q.1, fr + 1, bu, nm ++ [ng F (tg F + 1)], q.2)) (ng F) (0, 9) (tg F + 1, nm, w)
  · intro q F1 hb g e33 e34 e36 e37 e38 eFR eBU a39
    exact ⟨_, F1, rfl, rfl, gc_mk hb g (by decide), Or.inl ⟨rfl, by rw [sF_7 (by omega), e34, tg_eq e33]⟩, fun zz => absurd zz (by decide)⟩
section Sk3vb
variable {Ls : Nat} {xs : Nat → Int32} (X1 X2 : List jm_c) (F0 : Nat → sy_d) (r0 : sE ⊕ sT) (fr bu : Nat) (nm : List Int64)
theorem k3vb_6 (h0 : (sy_i F0 3).toInt = fr ∧ (sy_i F0 4).toInt = bu ∧ (sy_i F0 38).toInt ≤ fr + bu) (hlt : (sy_i F0 4).toInt < 4) (F : Nat → sy_d) (g0 : gc WN F0 F) (w : sE) (hw : wc (pg F0) w F) (hn : ncr (nm ++ [ng F0 (tg F0 + 1)]) F) (h38 : (sy_i F 38).toInt ≤ fr + bu + 1) (ht0 : tg F = tg F0 + 5) (n0 : ((sy_ai F 44).getD 0 0).toInt = vg F0 (tg F0 + 2)) (n1 : ((sy_ai F 44).getD 1 0).toInt = vg F0 (tg F0 + 3)) (n2 : ((sy_ai F 44).getD 2 0).toInt = vg F0 (tg F0 + 4)) (hr : r0 = n4 (kg F0) (fun q => .inr (q.1, fr, bu + 1, nm ++ [ng F0 (tg F0 + 1)], q.2)) (tg F, w)) :
    hd_W Ls xs 5 jm_M34 (fun v G => ∃ (x : Int32) (F' : Nat → sy_d), v = some (.int x) ∧ G = sy_dh F' X1 X2 (iv_H 3) ∧ gc k3pb_W F0 F' ∧ ac r0 (rcl (pg F0) 3 4) x F' ∧ (x = 1 → nbC 4 13 F0 F')) (68, sy_dL F [some (.inl (.ref 30)), none], sy_dS F [.inl (.int 59), .inl (.ref 30)], sy_dh F X1 X2 (iv_H 3), 0, 0) := by
  refine hd_calI (R := fun x F' => taR ((59 : Int32)).toInt x F F') (nh := 82) (nv := 82) (s := 3) (s1 := 3) (d1 := 3) (M1 := jm_M43) (As := [.inl (.ref 30), .inl (.int 59)]) (rest := []) jm_ok34 rfl rfl (by decide) (by decide +kernel) (k3ta_T F X1 X2 g0.1 59) (fun F3 F' x hR p1 p2 p3 => ?_)
  have hR : taR 59 x F F' := hR
  obtain ⟨r1, r2⟩ := taR_dst hR p1
  have r2 := r2 (km_in (j := 4) (fun c => km_4) (by decide))
  rw [show km 59 = 4 by decide, kg_eq (g0.2 39 (by decide) (by decide))] at r2
  have g3 : gc WN F0 F3 := g0.trans r1 (by decide)
  have hx : sy_i F3 82 = x := zz_i p3
  have hx1 : (sy_i F3 82).toInt ≠ 0 → x = 1 := fun q => ac_1 r2 (by rw [← hx]; exact q)
  rw [← hx] at r2
  obtain ⟨y0, y1⟩ := x01' r2
  have f1 := g3.i (k := 3) (by decide) (by decide)
  have f2 := g3.i (k := 4) (by decide) (by decide)
  have i36 := r1.i (k := 36) (by decide) (by decide)
  have i37 := r1.i (k := 37) (by decide) (by decide)
  have i38 := r1.i (k := 38) (by decide) (by decide)
  refine k3zpb_71 (by decide) F3 X1 X2 g3.1 ?_ ?_ ?_
  · intro q F4 hb g e33 e34 e36 e37 e38 eFR eBU a39 aR0 aR1 aR2
    refine ⟨_, F4, rfl, rfl, (g3.mono (by decide)).trans (gc_mk (W := k3pb_W) hb g (by decide)) (fun _ q => q), Or.inl ⟨rfl, ?_⟩, fun zz => absurd zz (by decide)⟩
    rw [hr, n4, y0 q, e34, tg_eq e33]
    rfl
  · intros; exfalso; omega
  · intro q _ F4 hb g e33 e34 e36 e37 e38 eFR eBU a39 aR0 aR1 aR2
    obtain ⟨t, ht, hJ⟩ := y1 q
    have t3 : tg F3 = tg F + 1 := by rw [hJ]; exact sM_r ht
    have c44 : sy_ai F3 44 = sy_ai F 44 := nz_fa (r1.2 44 (by decide) (by decide))
    have f3 : (sy_i F3 4).toInt = (sy_i F0 4).toInt := f2
    have z0 : sy_ai F3 13 = sy_ai F0 13 := nz_fa (g3.2 13 (by decide) (by decide))
    have z1 : sy_ai F3 14 = sy_ai F0 14 := nz_fa (g3.2 14 (by decide) (by decide))
    have z2 : sy_ai F3 15 = sy_ai F0 15 := nz_fa (g3.2 15 (by decide) (by decide))
    refine ⟨_, F4, rfl, rfl, (g3.mono (by decide)).trans (gc_mk (W := k3pb_W) hb g (by decide)) (fun _ q => q), ac_ok (by rw [hr, n4, ht]; rfl) ⟨by rw [tg_eq e33]; exact hJ, ?_, ?_, ncr_eq hn ((g 43 (by decide) (by decide)).trans (r1.2 43 (by decide) (by decide))) (by omega), wc_eq hw (by omega) (by omega), ?_⟩, fun _ => ⟨by rw [tg_eq e33]; omega, by omega, (sy_ai F 44).getD 0 0, (sy_ai F 44).getD 1 0, (sy_ai F 44).getD 2 0, n0, n1, n2, by rw [aR0, z0, c44, f3]; rfl, by rw [aR1, z1, c44, f3]; rfl, by rw [aR2, z2, c44, f3]; rfl⟩⟩
    · show (sy_i F4 3).toInt = ((fr : Nat) : Int)
      omega
    · show (sy_i F4 4).toInt = ((bu + 1 : Nat) : Int)
      omega
    · show (sy_i F4 38).toInt ≤ ((fr : Nat) : Int) + ((bu + 1 : Nat) : Int)
      omega
theorem k3vb_5 (h0 : (sy_i F0 3).toInt = fr ∧ (sy_i F0 4).toInt = bu ∧ (sy_i F0 38).toInt ≤ fr + bu) (hlt : (sy_i F0 4).toInt < 4) (F : Nat → sy_d) (g0 : gc WN F0 F) (w : sE) (hw : wc (pg F0) w F) (hn : ncr (nm ++ [ng F0 (tg F0 + 1)]) F) (h38 : (sy_i F 38).toInt ≤ fr + bu + 1) (ht0 : tg F = tg F0 + 4) (n0 : ((sy_ai F 44).getD 0 0).toInt = vg F0 (tg F0 + 2)) (n1 : ((sy_ai F 44).getD 1 0).toInt = vg F0 (tg F0 + 3)) (hr : r0 = n3 (kg F0) (vg F0) (0, 999) (fun q => .inr (q.1, fr, bu + 1, nm ++ [ng F0 (tg F0 + 1)], q.2)) (tg F, w)) :
    hd_W Ls xs 5 jm_M34 (fun v G => ∃ (x : Int32) (F' : Nat → sy_d), v = some (.int x) ∧ G = sy_dh F' X1 X2 (iv_H 3) ∧ gc k3pb_W F0 F' ∧ ac r0 (rcl (pg F0) 3 4) x F' ∧ (x = 1 → nbC 4 13 F0 F')) (59, sy_dL F [some (.inl (.ref 30)), none], sy_dS F [.inl (.int 999), .inl (.int 0), .inl (.int 2), .inl (.ref 30)], sy_dh F X1 X2 (iv_H 3), 0, 0) := by
  refine hd_calI (R := fun x F' => tnZ 2 ((0 : Int32)).toInt ((999 : Int32)).toInt x F F') (nh := 82) (nv := 82) (s := 3) (s1 := 3) (d1 := 4) (M1 := jm_M42) (As := [.inl (.ref 30), .inl (.int 2), .inl (.int 0), .inl (.int 999)]) (rest := []) jm_ok34 rfl rfl (by decide) (by decide +kernel) (k3tn_TZ F X1 X2 g0.1 2 0 999 (by decide) (by decide)) (fun F3 F' x hR p1 p2 p3 => ?_)
  obtain ⟨hR, hv⟩ : tnZ 2 0 999 x F F' := hR
  obtain ⟨r1, r2⟩ := tnR_dst hR p1
  rw [kg_eq (g0.2 39 (by decide) (by decide)), pg_eq (g0.2 40 (by decide) (by decide)), vg_eq (g0.2 41 (by decide) (by decide))] at r2
  have r2 := r2 w hw
  have g3 : gc WN F0 F3 := g0.trans r1 (by decide)
  have hx : sy_i F3 82 = x := zz_i p3
  have hx1 : (sy_i F3 82).toInt ≠ 0 → x = 1 := fun q => ac_1 r2 (by rw [← hx]; exact q)
  rw [← hx] at r2
  obtain ⟨y0, y1⟩ := x01' r2
  have i38 := r1.i (k := 38) (by decide) (by decide)
  refine k3pb_62 (by decide) F3 X1 X2 g3.1 ?_ ?_
  · intro q F4 hb g e33 e34 e36 e37 e38 eFR eBU a39
    refine ⟨_, F4, rfl, rfl, (g3.mono (by decide)).trans (gc_mk (W := k3pb_W) hb g (by decide)) (fun _ q => q), Or.inl ⟨rfl, ?_⟩, fun zz => absurd zz (by decide)⟩
    rw [hr, n3, y0 q, e34, tg_eq e33]
    rfl
  · intro q F4 hb g e33 e34 e36 e37 e38 eFR eBU a39
    obtain ⟨⟨t, w'⟩, ht, hJ1, hJ2⟩ := y1 q
    have hJ1 : tg F3 = t := hJ1
    subst hJ1
    obtain ⟨hv1, v, hv2, hv3⟩ := hv (hx1 q)
    rw [vg_eq (g0.2 41 (by decide) (by decide)), ht0] at hv2
    have a44 : sy_ai F4 44 = jm_upd (sy_ai F 44) 2 v := ((nz_fa (g 44 (by decide) (by decide))).trans (nz_fa (p1 44 (by decide)))).trans hv3
    have t3 : tg F3 = tg F + 1 := (tg_eq (nz_fi (p1 33 (by decide)))).trans hv1
    exact k3vb_6 X1 X2 F0 r0 fr bu nm h0 hlt F4 (g3.trans (gc_mk (W := WN) hb g (by decide)) (fun _ q => q)) w' (wc_eq hJ2 e36 e37) (ncr_eq hn ((g 43 (by decide) (by decide)).trans (r1.2 43 (by decide) (by decide))) (by omega)) (by omega) (by rw [tg_eq e33, t3, ht0]) (by rw [a44, jm_upd_at, if_neg (by decide)]; exact n0) (by rw [a44, jm_upd_at, if_neg (by decide)]; exact n1) (by rw [a44, jm_upd_at, if_pos rfl]; exact hv2) (by rw [hr, n3, ht, tg_eq e33]; rfl)
theorem k3vb_4 (h0 : (sy_i F0 3).toInt = fr ∧ (sy_i F0 4).toInt = bu ∧ (sy_i F0 38).toInt ≤ fr + bu) (hlt : (sy_i F0 4).toInt < 4) (F : Nat → sy_d) (g0 : gc WN F0 F) (w : sE) (hw : wc (pg F0) w F) (hn : ncr (nm ++ [ng F0 (tg F0 + 1)]) F) (h38 : (sy_i F 38).toInt ≤ fr + bu + 1) (ht0 : tg F = tg F0 + 3) (n0 : ((sy_ai F 44).getD 0 0).toInt = vg F0 (tg F0 + 2)) (hr : r0 = n2 (kg F0) (vg F0) (0, 3) (0, 999) (fun q => .inr (q.1, fr, bu + 1, nm ++ [ng F0 (tg F0 + 1)], q.2)) (tg F, w)) :
    hd_W Ls xs 5 jm_M34 (fun v G => ∃ (x : Int32) (F' : Nat → sy_d), v = some (.int x) ∧ G = sy_dh F' X1 X2 (iv_H 3) ∧ gc k3pb_W F0 F' ∧ ac r0 (rcl (pg F0) 3 4) x F' ∧ (x = 1 → nbC 4 13 F0 F')) (47, sy_dL F [some (.inl (.ref 30)), none], sy_dS F [.inl (.int 3), .inl (.int 0), .inl (.int 1), .inl (.ref 30)], sy_dh F X1 X2 (iv_H 3), 0, 0) := by
  refine hd_calI (R := fun x F' => tnZ 1 ((0 : Int32)).toInt ((3 : Int32)).toInt x F F') (nh := 82) (nv := 82) (s := 3) (s1 := 3) (d1 := 4) (M1 := jm_M42) (As := [.inl (.ref 30), .inl (.int 1), .inl (.int 0), .inl (.int 3)]) (rest := []) jm_ok34 rfl rfl (by decide) (by decide +kernel) (k3tn_TZ F X1 X2 g0.1 1 0 3 (by decide) (by decide)) (fun F3 F' x hR p1 p2 p3 => ?_)
  obtain ⟨hR, hv⟩ : tnZ 1 0 3 x F F' := hR
  obtain ⟨r1, r2⟩ := tnR_dst hR p1
  rw [kg_eq (g0.2 39 (by decide) (by decide)), pg_eq (g0.2 40 (by decide) (by decide)), vg_eq (g0.2 41 (by decide) (by decide))] at r2
  have r2 := r2 w hw
  have g3 : gc WN F0 F3 := g0.trans r1 (by decide)
  have hx : sy_i F3 82 = x := zz_i p3
  have hx1 : (sy_i F3 82).toInt ≠ 0 → x = 1 := fun q => ac_1 r2 (by rw [← hx]; exact q)
  rw [← hx] at r2
  obtain ⟨y0, y1⟩ := x01' r2
  have i38 := r1.i (k := 38) (by decide) (by decide)
  refine k3pb_50 (by decide) F3 X1 X2 g3.1 ?_ ?_
  · intro q F4 hb g e33 e34 e36 e37 e38 eFR eBU a39
    refine ⟨_, F4, rfl, rfl, (g3.mono (by decide)).trans (gc_mk (W := k3pb_W) hb g (by decide)) (fun _ q => q), Or.inl ⟨rfl, ?_⟩, fun zz => absurd zz (by decide)⟩
    rw [hr, n2, y0 q, e34, tg_eq e33]
    rfl
  · intro q F4 hb g e33 e34 e36 e37 e38 eFR eBU a39
    obtain ⟨⟨t, w'⟩, ht, hJ1, hJ2⟩ := y1 q
    have hJ1 : tg F3 = t := hJ1
    subst hJ1
    obtain ⟨hv1, v, hv2, hv3⟩ := hv (hx1 q)
    rw [vg_eq (g0.2 41 (by decide) (by decide)), ht0] at hv2
    have a44 : sy_ai F4 44 = jm_upd (sy_ai F 44) 1 v := ((nz_fa (g 44 (by decide) (by decide))).trans (nz_fa (p1 44 (by decide)))).trans hv3
    have t3 : tg F3 = tg F + 1 := (tg_eq (nz_fi (p1 33 (by decide)))).trans hv1
    exact k3vb_5 X1 X2 F0 r0 fr bu nm h0 hlt F4 (g3.trans (gc_mk (W := WN) hb g (by decide)) (fun _ q => q)) w' (wc_eq hJ2 e36 e37) (ncr_eq hn ((g 43 (by decide) (by decide)).trans (r1.2 43 (by decide) (by decide))) (by omega)) (by omega) (by rw [tg_eq e33, t3, ht0]) (by rw [a44, jm_upd_at, if_neg (by decide)]; exact n0) (by rw [a44, jm_upd_at, if_pos rfl]; exact hv2) (by rw [hr, n2, ht, tg_eq e33]; rfl)
theorem k3vb_3 (h0 : (sy_i F0 3).toInt = fr ∧ (sy_i F0 4).toInt = bu ∧ (sy_i F0 38).toInt ≤ fr + bu) (hlt : (sy_i F0 4).toInt < 4) (F : Nat → sy_d) (g0 : gc WN F0 F) (w : sE) (hw : wc (pg F0) w F) (hn : ncr (nm ++ [ng F0 (tg F0 + 1)]) F) (h38 : (sy_i F 38).toInt ≤ fr + bu + 1) (ht0 : tg F = tg F0 + 2) (hr : r0 = n1 (kg F0) (vg F0) (0, 3) (0, 999) (fun q => .inr (q.1, fr, bu + 1, nm ++ [ng F0 (tg F0 + 1)], q.2)) (0, 9) (tg F, w)) :
    hd_W Ls xs 5 jm_M34 (fun v G => ∃ (x : Int32) (F' : Nat → sy_d), v = some (.int x) ∧ G = sy_dh F' X1 X2 (iv_H 3) ∧ gc k3pb_W F0 F' ∧ ac r0 (rcl (pg F0) 3 4) x F' ∧ (x = 1 → nbC 4 13 F0 F')) (37, sy_dL F [some (.inl (.ref 30)), none], sy_dS F [.inl (.int 9), .inl (.int 0), .inl (.int 0), .inl (.ref 30)], sy_dh F X1 X2 (iv_H 3), 0, 0) := by
  refine hd_calI (R := fun x F' => tnZ 0 ((0 : Int32)).toInt ((9 : Int32)).toInt x F F') (nh := 82) (nv := 82) (s := 3) (s1 := 3) (d1 := 4) (M1 := jm_M42) (As := [.inl (.ref 30), .inl (.int 0), .inl (.int 0), .inl (.int 9)]) (rest := []) jm_ok34 rfl rfl (by decide) (by decide +kernel) (k3tn_TZ F X1 X2 g0.1 0 0 9 (by decide) (by decide)) (fun F3 F' x hR p1 p2 p3 => ?_)
  obtain ⟨hR, hv⟩ : tnZ 0 0 9 x F F' := hR
  obtain ⟨r1, r2⟩ := tnR_dst hR p1
  rw [kg_eq (g0.2 39 (by decide) (by decide)), pg_eq (g0.2 40 (by decide) (by decide)), vg_eq (g0.2 41 (by decide) (by decide))] at r2
  have r2 := r2 w hw
  have g3 : gc WN F0 F3 := g0.trans r1 (by decide)
  have hx : sy_i F3 82 = x := zz_i p3
  have hx1 : (sy_i F3 82).toInt ≠ 0 → x = 1 := fun q => ac_1 r2 (by rw [← hx]; exact q)
  rw [← hx] at r2
  obtain ⟨y0, y1⟩ := x01' r2
  have i38 := r1.i (k := 38) (by decide) (by decide)
  refine k3pb_40 (by decide) F3 X1 X2 g3.1 ?_ ?_
  · intro q F4 hb g e33 e34 e36 e37 e38 eFR eBU a39
    refine ⟨_, F4, rfl, rfl, (g3.mono (by decide)).trans (gc_mk (W := k3pb_W) hb g (by decide)) (fun _ q => q), Or.inl ⟨rfl, ?_⟩, fun zz => absurd zz (by decide)⟩
    rw [hr, n1, y0 q, e34, tg_eq e33]
    rfl
  · intro q F4 hb g e33 e34 e36 e37 e38 eFR eBU a39
    obtain ⟨⟨t, w'⟩, ht, hJ1, hJ2⟩ := y1 q
    have hJ1 : tg F3 = t := hJ1
    subst hJ1
    obtain ⟨hv1, v, hv2, hv3⟩ := hv (hx1 q)
    rw [vg_eq (g0.2 41 (by decide) (by decide)), ht0] at hv2
    have a44 : sy_ai F4 44 = jm_upd (sy_ai F 44) 0 v := ((nz_fa (g 44 (by decide) (by decide))).trans (nz_fa (p1 44 (by decide)))).trans hv3
    have t3 : tg F3 = tg F + 1 := (tg_eq (nz_fi (p1 33 (by decide)))).trans hv1
    exact k3vb_4 X1 X2 F0 r0 fr bu nm h0 hlt F4 (g3.trans (gc_mk (W := WN) hb g (by decide)) (fun _ q => q)) w' (wc_eq hJ2 e36 e37) (ncr_eq hn ((g 43 (by decide) (by decide)).trans (r1.2 43 (by decide) (by decide))) (by omega)) (by omega) (by rw [tg_eq e33, t3, ht0]) (by rw [a44, jm_upd_at, if_pos rfl]; exact hv2) (by rw [hr, n1, ht, tg_eq e33]; rfl)
theorem k3vb_2 (h0 : (sy_i F0 3).toInt = fr ∧ (sy_i F0 4).toInt = bu ∧ (sy_i F0 38).toInt ≤ fr + bu) (hlt : (sy_i F0 4).toInt < 4) (F : Nat → sy_d) (g0 : gc WN F0 F) (w : sE) (hw : wc (pg F0) w F) (hn : ncr nm F) (h38 : (sy_i F 38).toInt ≤ fr + bu) (ht1 : tg F = tg F0 + 1) (hr : r0 = sB (sNm (kg F0) (ng F0) (tg F, nm, w)) (n1 (kg F0) (vg F0) (0, 3) (0, 999) (fun q => .inr (q.1, fr, bu + 1, nm ++ [ng F0 (tg F0 + 1)], q.2)) (0, 9))) :
    hd_W Ls xs 5 jm_M34 (fun v G => ∃ (x : Int32) (F' : Nat → sy_d), v = some (.int x) ∧ G = sy_dh F' X1 X2 (iv_H 3) ∧ gc k3pb_W F0 F' ∧ ac r0 (rcl (pg F0) 3 4) x F' ∧ (x = 1 → nbC 4 13 F0 F')) (26, sy_dL F [some (.inl (.ref 30)), none], sy_dS F [.inl (.ref 30)], sy_dh F X1 X2 (iv_H 3), 0, 0) := by
  have f1 := g0.i (k := 3) (by decide) (by decide)
  have f2 := g0.i (k := 4) (by decide) (by decide)
  have d1 := nz_bx g0.1 (k := 3) (lo := 0) (hi := 7) rfl
  have d2 := nz_bx g0.1 (k := 4) (lo := 0) (hi := 4) rfl
  refine hd_calI (R := fun x F' => tmR x F F') (nh := 82) (nv := 82) (s := 3) (s1 := 3) (d1 := 4) (M1 := jm_M41) (As := [.inl (.ref 30)]) (rest := []) jm_ok34 rfl rfl (by decide) (by decide +kernel) (k3tm_T F X1 X2 g0.1 (by omega)) (fun F3 F' x hR p1 p2 p3 => ?_)
  obtain ⟨r1, rl, r2⟩ := tmR_dst hR p1
  rw [kg_eq (g0.2 39 (by decide) (by decide)), pg_eq (g0.2 40 (by decide) (by decide)), ng_eq (g0.2 41 (by decide) (by decide))] at r2
  have r2 := r2 w nm hw hn
  have g3 : gc WN F0 F3 := g0.trans r1 (by decide)
  have hx : sy_i F3 82 = x := zz_i p3
  have hx1 : (sy_i F3 82).toInt ≠ 0 → x = 1 := fun q => ac_1 r2 (by rw [← hx]; exact q)
  rw [← hx] at r2
  obtain ⟨y0, y1⟩ := x01' r2
  refine k3pb_29 (by decide) F3 X1 X2 g3.1 ?_ ?_
  · intro q F4 hb g e33 e34 e36 e37 e38 eFR eBU a39
    refine ⟨_, F4, rfl, rfl, (g3.mono (by decide)).trans (gc_mk (W := k3pb_W) hb g (by decide)) (fun _ q => q), Or.inl ⟨rfl, ?_⟩, fun zz => absurd zz (by decide)⟩
    rw [hr, y0 q, e34, tg_eq e33]
    rfl
  · intro q F4 hb g e33 e34 e36 e37 e38 eFR eBU a39
    obtain ⟨⟨t, w'⟩, ht, hJ1, hJ2, hJ3⟩ := y1 q
    have hJ1 : tg F3 = t := hJ1
    subst hJ1
    have t3 : tg F3 = tg F + 1 := sNm_rc ht
    rw [ht1] at hJ3
    exact k3vb_3 X1 X2 F0 r0 fr bu nm h0 hlt F4 (g3.trans (gc_mk (W := WN) hb g (by decide)) (fun _ q => q)) w' (wc_eq hJ2 e36 e37) (ncr_eq hJ3 (g 43 (by decide) (by decide)) e38) (by omega) (by rw [tg_eq e33, t3, ht1]) (by rw [hr, ht, tg_eq e33]; rfl)
end Sk3vb
theorem k3vb_T {Ls : Nat} {xs : Nat → Int32} (X1 X2 : List jm_c) (F : Nat → sy_d) (hB : iv_in F iv_B0) (hk : kg F (tg F) = 21) (x : sT) (hx : rcl (pg F) 3 4 x F) : jm_T Ls xs 5 jm_M34 [.ref 30] (sy_dh F X1 X2 (iv_H 3)) 0 0 (fun v G => ∃ (y : Int32) (F' : Nat → sy_d), v = some (.int y) ∧ G = sy_dh F' X1 X2 (iv_H 3) ∧ gc k3pb_W F F' ∧ ac (sBuyer (kg F) (vg F) (ng F) x) (rcl (pg F) 3 4) y F' ∧ (y = 1 → nbC 4 13 F F')) := by
  obtain ⟨t, fr, bu, nm, w⟩ := x
  obtain ⟨x1, x2, x3, x4, x5, x6⟩ := hx
  have x1 : tg F = t := x1
  subst x1
  have x2 : (sy_i F 3).toInt = fr := x2
  have x3 : (sy_i F 4).toInt = bu := x3
  have x6 : (sy_i F 38).toInt ≤ fr + bu := x6
  have c33 := nz_bx hB (k := 33) (lo := 0) (hi := 400) rfl
  have dF := nz_bx hB (k := 4) (lo := 0) (hi := 4) rfl
  refine hd_T (As := [.inl (.ref 30)]) jm_ok34 (by decide) (k3pb_0 (by decide) F X1 X2 hB ?_ ?_)
  · intro q F1 hb g e33 e34 e36 e37 e38 eFR eBU a39
    have g0 : ∀ q, q < 82 → F1 q = F q := fun q hq => g q hq (by simp)
    refine hd_calI (R := fun x F' => taR ((1 : Int32)).toInt x F1 F') (nh := 82) (nv := 82) (s := 3) (s1 := 3) (d1 := 3) (M1 := jm_M43) (As := [.inl (.ref 30), .inl (.int 1)]) (rest := []) jm_ok34 rfl rfl (by decide) (by decide +kernel) (k3ta_T F1 X1 X2 hb 1) (fun F3 F' x hR p1 p2 p3 => ?_)
    have hR : taR 1 x F1 F' := hR
    obtain ⟨r1, r2⟩ := taR_src (taR_dst hR p1) g0
    have r2 := r2 (km_in (j := 21) (fun c => km_w (by decide) (by decide)) (by decide))
    rw [show km 1 = 21 by decide, show sM (kg F) 21 (tg F) = sG (tg F) by unfold sM; rw [if_pos hk]] at r2
    have g3 : gc WN F F3 := r1.mono (by decide)
    have hx : sy_i F3 82 = x := zz_i p3
    have hx1 : (sy_i F3 82).toInt ≠ 0 → x = 1 := fun q => ac_1 r2 (by rw [← hx]; exact q)
    rw [← hx] at r2
    obtain ⟨y0, y1⟩ := x01' r2
    have i36 := r1.i (k := 36) (by decide) (by decide)
    have i37 := r1.i (k := 37) (by decide) (by decide)
    have i38 := r1.i (k := 38) (by decide) (by decide)
    have hS : sBuyer (kg F) (vg F) (ng F) (tg F, fr, bu, nm, w) = sB (sG (tg F)) fun t => sB (sTell (kg F) (vg F) (ng F) (0, 9) (0, 3) (0, 999) (t, nm, w)) fun q => .inr (q.1, fr, bu + 1, nm ++ [ng F t], q.2) := sBu_n (by omega)
    refine k3pb_22 (by decide) F3 X1 X2 g3.1 ?_ ?_
    · intro q F4 hb g e33 e34 e36 e37 e38 eFR eBU a39
      refine ⟨_, F4, rfl, rfl, (g3.mono (by decide)).trans (gc_mk (W := k3pb_W) hb g (by decide)) (fun _ q => q), Or.inl ⟨rfl, ?_⟩, fun zz => absurd zz (by decide)⟩
      rw [hS, y0 q, e34, tg_eq e33]
      rfl
    · intro q F4 hb g d33 d34 d36 d37 d38 dFR dBU b39
      obtain ⟨t, ht, hJ⟩ := y1 q
      have h4 : tg F < 400 := by
        by_cases z : tg F = 400
        · rw [sG_4 z] at ht
          cases ht
        · unfold tg at z ⊢
          omega
      rw [sG_ok h4] at ht
      have et : t = tg F + 1 := (Sum.inr.inj ht).symm
      refine k3vb_2 X1 X2 F _ fr bu nm ⟨x2, x3, x6⟩ (by omega) F4 (g3.trans (gc_mk (W := WN) hb g (by decide)) (fun _ q => q)) w (wc_eq x5 (by omega) (by omega)) (ncr_eq x4 ((g 43 (by decide) (by decide)).trans (r1.2 43 (by decide) (by decide))) (by omega)) (by omega) (by rw [tg_eq d33, hJ, et]) ?_
      rw [hS, sG_ok h4, tg_eq d33, hJ, et]
      exact n_eq (kg F) (vg F) (0, 3) (0, 999) (fun q => .inr (q.1, fr, bu + 1, nm ++ [ng F (tg F + 1)], q.2)) (ng F) (0, 9) (tg F + 1, nm, w)
  · intro q F1 hb g e33 e34 e36 e37 e38 eFR eBU a39
    exact ⟨_, F1, rfl, rfl, gc_mk hb g (by decide), Or.inl ⟨rfl, by rw [sBu_4 (by omega), e34, tg_eq e33]⟩, fun zz => absurd zz (by decide)⟩
