/-! ===== the class parses fruit and buyers ===== -/
section NN
variable (K V : Nat → Int) (b c : Int × Int) (f : Nat × sE → sE ⊕ sT)
noncomputable def n4 (q : Nat × sE) : sE ⊕ sT := sB (sM K 4 q.1) fun t => f (t, q.2)
noncomputable def n3 (q : Nat × sE) : sE ⊕ sT := sB (sN K V c.1 c.2 q) (n4 K f)
noncomputable def n2 (q : Nat × sE) : sE ⊕ sT := sB (sN K V b.1 b.2 q) (n3 K V c f)
noncomputable def n1 (a : Int × Int) (q : Nat × sE) : sE ⊕ sT := sB (sN K V a.1 a.2 q) (n2 K V b c f)
theorem n_eq (N : Nat → Int64) (a : Int × Int) (q : Nat × List Int64 × sE) : sB (sTell K V N a b c q) f = sB (sNm K N q) (n1 K V b c f a) := by
  unfold sTell n1 n2 n3 n4
  simp only [sB_a]
  rfl
end NN
noncomputable def rcl (P : Nat → Int) (FR BU : Nat) (x : sT) (F : Nat → sy_d) : Prop := tg F = x.1 ∧ (sy_i F FR).toInt = x.2.1 ∧ (sy_i F BU).toInt = x.2.2.1 ∧ ncr x.2.2.2.1 F ∧ wc P x.2.2.2.2 F ∧ (sy_i F 38).toInt ≤ x.2.1 + x.2.2.1
noncomputable def WN : List Nat := [33, 34, 36, 37, 38, 43, 44]
theorem x01' {x : Int32} {A : Type} {r : sE ⊕ A} {J : A → (Nat → sy_d) → Prop} {F' : Nat → sy_d} (h : ac r J x F') : (x.toInt = 0 → r = .inl ((sy_i F' 34).toInt, tg F')) ∧ (x.toInt ≠ 0 → ∃ a, r = .inr a ∧ J a F') := x01 h
noncomputable def k0pf_W : List Nat := [33, 34, 36, 37, 38, 43, 44, 18, 24, 25, 26]
section Sk0pf
variable {Ls : Nat} {xs : Nat → Int32} (X1 X2 : List jm_c) (F0 : Nat → sy_d) (r0 : sE ⊕ sT) (fr bu : Nat) (nm : List Int64)
theorem k0pf_6 (h0 : (sy_i F0 18).toInt = fr ∧ (sy_i F0 19).toInt = bu ∧ (sy_i F0 38).toInt ≤ fr + bu) (hlt : (sy_i F0 18).toInt < 7) (F : Nat → sy_d) (g0 : gc WN F0 F) (w : sE) (hw : wc (pg F0) w F) (hn : ncr (nm ++ [ng F0 (tg F0 + 1)]) F) (h38 : (sy_i F 38).toInt ≤ fr + bu + 1) (hr : r0 = n4 (kg F0) (fun q => .inr (q.1, fr + 1, bu, nm ++ [ng F0 (tg F0 + 1)], q.2)) (tg F, w)) :
    hd_W Ls xs 5 jm_M33 (fun v G => ∃ (x : Int32) (F' : Nat → sy_d), v = some (.int x) ∧ G = sy_dh F' X1 X2 (iv_H 0) ∧ gc k0pf_W F0 F' ∧ ac r0 (rcl (pg F0) 18 19) x F') (69, sy_dL F [some (.inl (.ref 30)), none], sy_dS F [.inl (.int 59), .inl (.ref 30)], sy_dh F X1 X2 (iv_H 0), 0, 0) := by
  refine hd_calI (R := fun x F' => taR ((59 : Int32)).toInt x F F') (nh := 82) (nv := 82) (s := 0) (s1 := 0) (d1 := 3) (M1 := jm_M43) (As := [.inl (.ref 30), .inl (.int 59)]) (rest := []) jm_ok33 rfl rfl (by decide) (by decide +kernel) (k0ta_T F X1 X2 g0.1 59) (fun F3 F' x hR p1 p2 p3 => ?_)
  have hR : taR 59 x F F' := hR
  obtain ⟨r1, r2⟩ := taR_dst hR p1
  have r2 := r2 (km_in (j := 4) (fun c => km_4) (by decide))
  rw [show km 59 = 4 by decide, kg_eq (g0.2 39 (by decide) (by decide))] at r2
  have g3 : gc WN F0 F3 := g0.trans r1 (by decide)
  have hx : sy_i F3 82 = x := zz_i p3
  rw [← hx] at r2
  obtain ⟨y0, y1⟩ := x01' r2
  have f1 := g3.i (k := 18) (by decide) (by decide)
  have f2 := g3.i (k := 19) (by decide) (by decide)
  have i36 := r1.i (k := 36) (by decide) (by decide)
  have i37 := r1.i (k := 37) (by decide) (by decide)
  have i38 := r1.i (k := 38) (by decide) (by decide)
  refine k0pf_72 (by decide) F3 X1 X2 g3.1 ?_ ?_ ?_
  · intro q F4 hb g e33 e34 e36 e37 e38 eFR eBU a39
    refine ⟨_, F4, rfl, rfl, (g3.mono (by decide)).trans (gc_mk (W := k0pf_W) hb g (by decide)) (fun _ q => q), Or.inl ⟨rfl, ?_⟩⟩
    rw [hr, n4, y0 q, e34, tg_eq e33]
    rfl
  · intros; exfalso; omega
  · intro q _ F4 hb g e33 e34 e36 e37 e38 eFR eBU a39
    obtain ⟨t, ht, hJ⟩ := y1 q
    refine ⟨_, F4, rfl, rfl, (g3.mono (by decide)).trans (gc_mk (W := k0pf_W) hb g (by decide)) (fun _ q => q), ac_ok (by rw [hr, n4, ht]; rfl) ⟨by rw [tg_eq e33]; exact hJ, ?_, ?_, ncr_eq hn ((g 43 (by decide) (by decide)).trans (r1.2 43 (by decide) (by decide))) (by omega), wc_eq hw (by omega) (by omega), ?_⟩⟩
    · show (sy_i F4 18).toInt = ((fr + 1 : Nat) : Int)
      omega
    · show (sy_i F4 19).toInt = ((bu : Nat) : Int)
      omega
    · show (sy_i F4 38).toInt ≤ ((fr + 1 : Nat) : Int) + ((bu : Nat) : Int)
      omega
theorem k0pf_5 (h0 : (sy_i F0 18).toInt = fr ∧ (sy_i F0 19).toInt = bu ∧ (sy_i F0 38).toInt ≤ fr + bu) (hlt : (sy_i F0 18).toInt < 7) (F : Nat → sy_d) (g0 : gc WN F0 F) (w : sE) (hw : wc (pg F0) w F) (hn : ncr (nm ++ [ng F0 (tg F0 + 1)]) F) (h38 : (sy_i F 38).toInt ≤ fr + bu + 1) (hr : r0 = n3 (kg F0) (vg F0) (0, 99) (fun q => .inr (q.1, fr + 1, bu, nm ++ [ng F0 (tg F0 + 1)], q.2)) (tg F, w)) :
    hd_W Ls xs 5 jm_M33 (fun v G => ∃ (x : Int32) (F' : Nat → sy_d), v = some (.int x) ∧ G = sy_dh F' X1 X2 (iv_H 0) ∧ gc k0pf_W F0 F' ∧ ac r0 (rcl (pg F0) 18 19) x F') (60, sy_dL F [some (.inl (.ref 30)), none], sy_dS F [.inl (.int 99), .inl (.int 0), .inl (.int 2), .inl (.ref 30)], sy_dh F X1 X2 (iv_H 0), 0, 0) := by
  refine hd_calI (R := fun x F' => tnR ((0 : Int32)).toInt ((99 : Int32)).toInt x F F') (nh := 82) (nv := 82) (s := 0) (s1 := 0) (d1 := 4) (M1 := jm_M42) (As := [.inl (.ref 30), .inl (.int 2), .inl (.int 0), .inl (.int 99)]) (rest := []) jm_ok33 rfl rfl (by decide) (by decide +kernel) (k0tn_T F X1 X2 g0.1 2 0 99 (by decide) (by decide)) (fun F3 F' x hR p1 p2 p3 => ?_)
  have hR : tnR 0 99 x F F' := hR
  obtain ⟨r1, r2⟩ := tnR_dst hR p1
  rw [kg_eq (g0.2 39 (by decide) (by decide)), pg_eq (g0.2 40 (by decide) (by decide)), vg_eq (g0.2 41 (by decide) (by decide))] at r2
  have r2 := r2 w hw
  have g3 : gc WN F0 F3 := g0.trans r1 (by decide)
  have hx : sy_i F3 82 = x := zz_i p3
  rw [← hx] at r2
  obtain ⟨y0, y1⟩ := x01' r2
  have i38 := r1.i (k := 38) (by decide) (by decide)
  refine k0pf_63 (by decide) F3 X1 X2 g3.1 ?_ ?_
  · intro q F4 hb g e33 e34 e36 e37 e38 eFR eBU a39
    refine ⟨_, F4, rfl, rfl, (g3.mono (by decide)).trans (gc_mk (W := k0pf_W) hb g (by decide)) (fun _ q => q), Or.inl ⟨rfl, ?_⟩⟩
    rw [hr, n3, y0 q, e34, tg_eq e33]
    rfl
  · intro q F4 hb g e33 e34 e36 e37 e38 eFR eBU a39
    obtain ⟨⟨t, w'⟩, ht, hJ1, hJ2⟩ := y1 q
    have hJ1 : tg F3 = t := hJ1
    subst hJ1
    exact k0pf_6 X1 X2 F0 r0 fr bu nm h0 hlt F4 (g3.trans (gc_mk (W := WN) hb g (by decide)) (fun _ q => q)) w' (wc_eq hJ2 e36 e37) (ncr_eq hn ((g 43 (by decide) (by decide)).trans (r1.2 43 (by decide) (by decide))) (by omega)) (by omega) (by rw [hr, n3, ht, tg_eq e33]; rfl)
theorem k0pf_4 (h0 : (sy_i F0 18).toInt = fr ∧ (sy_i F0 19).toInt = bu ∧ (sy_i F0 38).toInt ≤ fr + bu) (hlt : (sy_i F0 18).toInt < 7) (F : Nat → sy_d) (g0 : gc WN F0 F) (w : sE) (hw : wc (pg F0) w F) (hn : ncr (nm ++ [ng F0 (tg F0 + 1)]) F) (h38 : (sy_i F 38).toInt ≤ fr + bu + 1) (hr : r0 = n2 (kg F0) (vg F0) (1, 9) (0, 99) (fun q => .inr (q.1, fr + 1, bu, nm ++ [ng F0 (tg F0 + 1)], q.2)) (tg F, w)) :
    hd_W Ls xs 5 jm_M33 (fun v G => ∃ (x : Int32) (F' : Nat → sy_d), v = some (.int x) ∧ G = sy_dh F' X1 X2 (iv_H 0) ∧ gc k0pf_W F0 F' ∧ ac r0 (rcl (pg F0) 18 19) x F') (49, sy_dL F [some (.inl (.ref 30)), none], sy_dS F [.inl (.int 9), .inl (.int 1), .inl (.int 1), .inl (.ref 30)], sy_dh F X1 X2 (iv_H 0), 0, 0) := by
  refine hd_calI (R := fun x F' => tnR ((1 : Int32)).toInt ((9 : Int32)).toInt x F F') (nh := 82) (nv := 82) (s := 0) (s1 := 0) (d1 := 4) (M1 := jm_M42) (As := [.inl (.ref 30), .inl (.int 1), .inl (.int 1), .inl (.int 9)]) (rest := []) jm_ok33 rfl rfl (by decide) (by decide +kernel) (k0tn_T F X1 X2 g0.1 1 1 9 (by decide) (by decide)) (fun F3 F' x hR p1 p2 p3 => ?_)
  have hR : tnR 1 9 x F F' := hR
  obtain ⟨r1, r2⟩ := tnR_dst hR p1
  rw [kg_eq (g0.2 39 (by decide) (by decide)), pg_eq (g0.2 40 (by decide) (by decide)), vg_eq (g0.2 41 (by decide) (by decide))] at r2
  have r2 := r2 w hw
  have g3 : gc WN F0 F3 := g0.trans r1 (by decide)
  have hx : sy_i F3 82 = x := zz_i p3
  rw [← hx] at r2
  obtain ⟨y0, y1⟩ := x01' r2
  have i38 := r1.i (k := 38) (by decide) (by decide)
  refine k0pf_52 (by decide) F3 X1 X2 g3.1 ?_ ?_
  · intro q F4 hb g e33 e34 e36 e37 e38 eFR eBU a39
    refine ⟨_, F4, rfl, rfl, (g3.mono (by decide)).trans (gc_mk (W := k0pf_W) hb g (by decide)) (fun _ q => q), Or.inl ⟨rfl, ?_⟩⟩
    rw [hr, n2, y0 q, e34, tg_eq e33]
    rfl
  · intro q F4 hb g e33 e34 e36 e37 e38 eFR eBU a39
    obtain ⟨⟨t, w'⟩, ht, hJ1, hJ2⟩ := y1 q
    have hJ1 : tg F3 = t := hJ1
    subst hJ1
    exact k0pf_5 X1 X2 F0 r0 fr bu nm h0 hlt F4 (g3.trans (gc_mk (W := WN) hb g (by decide)) (fun _ q => q)) w' (wc_eq hJ2 e36 e37) (ncr_eq hn ((g 43 (by decide) (by decide)).trans (r1.2 43 (by decide) (by decide))) (by omega)) (by omega) (by rw [hr, n2, ht, tg_eq e33]; rfl)
theorem k0pf_3 (h0 : (sy_i F0 18).toInt = fr ∧ (sy_i F0 19).toInt = bu ∧ (sy_i F0 38).toInt ≤ fr + bu) (hlt : (sy_i F0 18).toInt < 7) (F : Nat → sy_d) (g0 : gc WN F0 F) (w : sE) (hw : wc (pg F0) w F) (hn : ncr (nm ++ [ng F0 (tg F0 + 1)]) F) (h38 : (sy_i F 38).toInt ≤ fr + bu + 1) (hr : r0 = n1 (kg F0) (vg F0) (1, 9) (0, 99) (fun q => .inr (q.1, fr + 1, bu, nm ++ [ng F0 (tg F0 + 1)], q.2)) (0, 9) (tg F, w)) :
    hd_W Ls xs 5 jm_M33 (fun v G => ∃ (x : Int32) (F' : Nat → sy_d), v = some (.int x) ∧ G = sy_dh F' X1 X2 (iv_H 0) ∧ gc k0pf_W F0 F' ∧ ac r0 (rcl (pg F0) 18 19) x F') (38, sy_dL F [some (.inl (.ref 30)), none], sy_dS F [.inl (.int 9), .inl (.int 0), .inl (.int 0), .inl (.ref 30)], sy_dh F X1 X2 (iv_H 0), 0, 0) := by
  refine hd_calI (R := fun x F' => tnR ((0 : Int32)).toInt ((9 : Int32)).toInt x F F') (nh := 82) (nv := 82) (s := 0) (s1 := 0) (d1 := 4) (M1 := jm_M42) (As := [.inl (.ref 30), .inl (.int 0), .inl (.int 0), .inl (.int 9)]) (rest := []) jm_ok33 rfl rfl (by decide) (by decide +kernel) (k0tn_T F X1 X2 g0.1 0 0 9 (by decide) (by decide)) (fun F3 F' x hR p1 p2 p3 => ?_)
  have hR : tnR 0 9 x F F' := hR
  obtain ⟨r1, r2⟩ := tnR_dst hR p1
  rw [kg_eq (g0.2 39 (by decide) (by decide)), pg_eq (g0.2 40 (by decide) (by decide)), vg_eq (g0.2 41 (by decide) (by decide))] at r2
  have r2 := r2 w hw
  have g3 : gc WN F0 F3 := g0.trans r1 (by decide)
  have hx : sy_i F3 82 = x := zz_i p3
  rw [← hx] at r2
  obtain ⟨y0, y1⟩ := x01' r2
  have i38 := r1.i (k := 38) (by decide) (by decide)
  refine k0pf_41 (by decide) F3 X1 X2 g3.1 ?_ ?_
  · intro q F4 hb g e33 e34 e36 e37 e38 eFR eBU a39
    refine ⟨_, F4, rfl, rfl, (g3.mono (by decide)).trans (gc_mk (W := k0pf_W) hb g (by decide)) (fun _ q => q), Or.inl ⟨rfl, ?_⟩⟩
    rw [hr, n1, y0 q, e34, tg_eq e33]
    rfl
  · intro q F4 hb g e33 e34 e36 e37 e38 eFR eBU a39
    obtain ⟨⟨t, w'⟩, ht, hJ1, hJ2⟩ := y1 q
    have hJ1 : tg F3 = t := hJ1
    subst hJ1
    exact k0pf_4 X1 X2 F0 r0 fr bu nm h0 hlt F4 (g3.trans (gc_mk (W := WN) hb g (by decide)) (fun _ q => q)) w' (wc_eq hJ2 e36 e37) (ncr_eq hn ((g 43 (by decide) (by decide)).trans (r1.2 43 (by decide) (by decide))) (by omega)) (by omega) (by rw [hr, n1, ht, tg_eq e33]; rfl)
theorem k0pf_2 (h0 : (sy_i F0 18).toInt = fr ∧ (sy_i F0 19).toInt = bu ∧ (sy_i F0 38).toInt ≤ fr + bu) (hlt : (sy_i F0 18).toInt < 7) (F : Nat → sy_d) (g0 : gc WN F0 F) (w : sE) (hw : wc (pg F0) w F) (hn : ncr nm F) (h38 : (sy_i F 38).toInt ≤ fr + bu) (ht1 : tg F = tg F0 + 1) (hr : r0 = sB (sNm (kg F0) (ng F0) (tg F, nm, w)) (n1 (kg F0) (vg F0) (1, 9) (0, 99) (fun q => .inr (q.1, fr + 1, bu, nm ++ [ng F0 (tg F0 + 1)], q.2)) (0, 9))) :
    hd_W Ls xs 5 jm_M33 (fun v G => ∃ (x : Int32) (F' : Nat → sy_d), v = some (.int x) ∧ G = sy_dh F' X1 X2 (iv_H 0) ∧ gc k0pf_W F0 F' ∧ ac r0 (rcl (pg F0) 18 19) x F') (27, sy_dL F [some (.inl (.ref 30)), none], sy_dS F [.inl (.ref 30)], sy_dh F X1 X2 (iv_H 0), 0, 0) := by
  have f1 := g0.i (k := 18) (by decide) (by decide)
  have f2 := g0.i (k := 19) (by decide) (by decide)
  have d1 := nz_bx g0.1 (k := 18) (lo := 0) (hi := 7) rfl
  have d2 := nz_bx g0.1 (k := 19) (lo := 0) (hi := 4) rfl
  refine hd_calI (R := fun x F' => tmR x F F') (nh := 82) (nv := 82) (s := 0) (s1 := 0) (d1 := 4) (M1 := jm_M41) (As := [.inl (.ref 30)]) (rest := []) jm_ok33 rfl rfl (by decide) (by decide +kernel) (k0tm_T F X1 X2 g0.1 (by omega)) (fun F3 F' x hR p1 p2 p3 => ?_)
  obtain ⟨r1, rl, r2⟩ := tmR_dst hR p1
  rw [kg_eq (g0.2 39 (by decide) (by decide)), pg_eq (g0.2 40 (by decide) (by decide)), ng_eq (g0.2 41 (by decide) (by decide))] at r2
  have r2 := r2 w nm hw hn
  have g3 : gc WN F0 F3 := g0.trans r1 (by decide)
  have hx : sy_i F3 82 = x := zz_i p3
  rw [← hx] at r2
  obtain ⟨y0, y1⟩ := x01' r2
  refine k0pf_30 (by decide) F3 X1 X2 g3.1 ?_ ?_
  · intro q F4 hb g e33 e34 e36 e37 e38 eFR eBU a39
    refine ⟨_, F4, rfl, rfl, (g3.mono (by decide)).trans (gc_mk (W := k0pf_W) hb g (by decide)) (fun _ q => q), Or.inl ⟨rfl, ?_⟩⟩
    rw [hr, y0 q, e34, tg_eq e33]
    rfl
  · intro q F4 hb g e33 e34 e36 e37 e38 eFR eBU a39
    obtain ⟨⟨t, w'⟩, ht, hJ1, hJ2, hJ3⟩ := y1 q
    have hJ1 : tg F3 = t := hJ1
    subst hJ1
    rw [ht1] at hJ3
    exact k0pf_3 X1 X2 F0 r0 fr bu nm h0 hlt F4 (g3.trans (gc_mk (W := WN) hb g (by decide)) (fun _ q => q)) w' (wc_eq hJ2 e36 e37) (ncr_eq hJ3 (g 43 (by decide) (by decide)) e38) (by omega) (by rw [hr, ht, tg_eq e33]; rfl)
end Sk0pf
theorem k0pf_T {Ls : Nat} {xs : Nat → Int32} (X1 X2 : List jm_c) (F : Nat → sy_d) (hB : iv_in F iv_B0) (hk : kg F (tg F) = 20) (x : sT) (hx : rcl (pg F) 18 19 x F) : jm_T Ls xs 5 jm_M33 [.ref 30] (sy_dh F X1 X2 (iv_H 0)) 0 0 (fun v G => ∃ (y : Int32) (F' : Nat → sy_d), v = some (.int y) ∧ G = sy_dh F' X1 X2 (iv_H 0) ∧ gc k0pf_W F F' ∧ ac (sFruit (kg F) (vg F) (ng F) x) (rcl (pg F) 18 19) y F') := by
  obtain ⟨t, fr, bu, nm, w⟩ := x
  obtain ⟨x1, x2, x3, x4, x5, x6⟩ := hx
  have x1 : tg F = t := x1
  subst x1
  have x2 : (sy_i F 18).toInt = fr := x2
  have x3 : (sy_i F 19).toInt = bu := x3
  have x6 : (sy_i F 38).toInt ≤ fr + bu := x6
  have c33 := nz_bx hB (k := 33) (lo := 0) (hi := 400) rfl
  have dF := nz_bx hB (k := 18) (lo := 0) (hi := 7) rfl
  refine hd_T (As := [.inl (.ref 30)]) jm_ok33 (by decide) (k0pf_0 (by decide) F X1 X2 hB ?_ ?_)
  · intro q F1 hb g e33 e34 e36 e37 e38 eFR eBU a39
    have g0 : ∀ q, q < 82 → F1 q = F q := fun q hq => g q hq (by simp)
    refine hd_calI (R := fun x F' => taR ((0 : Int32)).toInt x F1 F') (nh := 82) (nv := 82) (s := 0) (s1 := 0) (d1 := 3) (M1 := jm_M43) (As := [.inl (.ref 30), .inl (.int 0)]) (rest := []) jm_ok33 rfl rfl (by decide) (by decide +kernel) (k0ta_T F1 X1 X2 hb 0) (fun F3 F' x hR p1 p2 p3 => ?_)
    have hR : taR 0 x F1 F' := hR
    obtain ⟨r1, r2⟩ := taR_src (taR_dst hR p1) g0
    have r2 := r2 (km_in (j := 20) (fun c => km_w (by decide) (by decide)) (by decide))
    rw [show km 0 = 20 by decide, show sM (kg F) 20 (tg F) = sG (tg F) by unfold sM; rw [if_pos hk]] at r2
    have g3 : gc WN F F3 := r1.mono (by decide)
    have hx : sy_i F3 82 = x := zz_i p3
    rw [← hx] at r2
    obtain ⟨y0, y1⟩ := x01' r2
    have i36 := r1.i (k := 36) (by decide) (by decide)
    have i37 := r1.i (k := 37) (by decide) (by decide)
    have i38 := r1.i (k := 38) (by decide) (by decide)
    have hS : sFruit (kg F) (vg F) (ng F) (tg F, fr, bu, nm, w) = sB (sG (tg F)) fun t => sB (sTell (kg F) (vg F) (ng F) (0, 9) (1, 9) (0, 99) (t, nm, w)) fun q => .inr (q.1, fr + 1, bu, nm ++ [ng F t], q.2) := sF_n (by omega)
    refine k0pf_23 (by decide) F3 X1 X2 g3.1 ?_ ?_
    · intro q F4 hb g e33 e34 e36 e37 e38 eFR eBU a39
      refine ⟨_, F4, rfl, rfl, (g3.mono (by decide)).trans (gc_mk (W := k0pf_W) hb g (by decide)) (fun _ q => q), Or.inl ⟨rfl, ?_⟩⟩
      rw [hS, y0 q, e34, tg_eq e33]
      rfl
    · intro q F4 hb g d33 d34 d36 d37 d38 dFR dBU b39
      obtain ⟨t, ht, hJ⟩ := y1 q
      have h4 : tg F < 400 := by
        by_cases z : tg F = 400
        · rw [sG_4 z] at ht
          cases ht
        · unfold tg at z ⊢
          omega
      rw [sG_ok h4] at ht
      have et : t = tg F + 1 := (Sum.inr.inj ht).symm
      refine k0pf_2 X1 X2 F _ fr bu nm ⟨x2, x3, x6⟩ (by omega) F4 (g3.trans (gc_mk (W := WN) hb g (by decide)) (fun _ q => q)) w (wc_eq x5 (by omega) (by omega)) (ncr_eq x4 ((g 43 (by decide) (by decide)).trans (r1.2 43 (by decide) (by decide))) (by omega)) (by omega) (by rw [tg_eq d33, hJ, et]) ?_
      rw [hS, sG_ok h4, tg_eq d33, hJ, et]
      exact n_eq (kg F) (vg F) (1, 9) (0, 99) (fun q => .inr (q.1, fr + 1, bu, nm ++ [ng F (tg F + 1)], q.2)) (ng F) (0, 9) (tg F + 1, nm, w)
  · intro q F1 hb g e33 e34 e36 e37 e38 eFR eBU a39
    exact ⟨_, F1, rfl, rfl, gc_mk hb g (by decide), Or.inl ⟨rfl, by rw [sF_7 (by omega), e34, tg_eq e33]⟩⟩
noncomputable def k0pb_W : List Nat := [33, 34, 36, 37, 38, 43, 44, 19, 28, 29, 30]
section Sk0pb
variable {Ls : Nat} {xs : Nat → Int32} (X1 X2 : List jm_c) (F0 : Nat → sy_d) (r0 : sE ⊕ sT) (fr bu : Nat) (nm : List Int64)
theorem k0pb_6 (h0 : (sy_i F0 18).toInt = fr ∧ (sy_i F0 19).toInt = bu ∧ (sy_i F0 38).toInt ≤ fr + bu) (hlt : (sy_i F0 19).toInt < 4) (F : Nat → sy_d) (g0 : gc WN F0 F) (w : sE) (hw : wc (pg F0) w F) (hn : ncr (nm ++ [ng F0 (tg F0 + 1)]) F) (h38 : (sy_i F 38).toInt ≤ fr + bu + 1) (hr : r0 = n4 (kg F0) (fun q => .inr (q.1, fr, bu + 1, nm ++ [ng F0 (tg F0 + 1)], q.2)) (tg F, w)) :
    hd_W Ls xs 5 jm_M34 (fun v G => ∃ (x : Int32) (F' : Nat → sy_d), v = some (.int x) ∧ G = sy_dh F' X1 X2 (iv_H 0) ∧ gc k0pb_W F0 F' ∧ ac r0 (rcl (pg F0) 18 19) x F') (68, sy_dL F [some (.inl (.ref 30)), none], sy_dS F [.inl (.int 59), .inl (.ref 30)], sy_dh F X1 X2 (iv_H 0), 0, 0) := by
  refine hd_calI (R := fun x F' => taR ((59 : Int32)).toInt x F F') (nh := 82) (nv := 82) (s := 0) (s1 := 0) (d1 := 3) (M1 := jm_M43) (As := [.inl (.ref 30), .inl (.int 59)]) (rest := []) jm_ok34 rfl rfl (by decide) (by decide +kernel) (k0ta_T F X1 X2 g0.1 59) (fun F3 F' x hR p1 p2 p3 => ?_)
  have hR : taR 59 x F F' := hR
  obtain ⟨r1, r2⟩ := taR_dst hR p1
  have r2 := r2 (km_in (j := 4) (fun c => km_4) (by decide))
  rw [show km 59 = 4 by decide, kg_eq (g0.2 39 (by decide) (by decide))] at r2
  have g3 : gc WN F0 F3 := g0.trans r1 (by decide)
  have hx : sy_i F3 82 = x := zz_i p3
  rw [← hx] at r2
  obtain ⟨y0, y1⟩ := x01' r2
  have f1 := g3.i (k := 18) (by decide) (by decide)
  have f2 := g3.i (k := 19) (by decide) (by decide)
  have i36 := r1.i (k := 36) (by decide) (by decide)
  have i37 := r1.i (k := 37) (by decide) (by decide)
  have i38 := r1.i (k := 38) (by decide) (by decide)
  refine k0pb_71 (by decide) F3 X1 X2 g3.1 ?_ ?_ ?_
  · intro q F4 hb g e33 e34 e36 e37 e38 eFR eBU a39
    refine ⟨_, F4, rfl, rfl, (g3.mono (by decide)).trans (gc_mk (W := k0pb_W) hb g (by decide)) (fun _ q => q), Or.inl ⟨rfl, ?_⟩⟩
    rw [hr, n4, y0 q, e34, tg_eq e33]
    rfl
  · intros; exfalso; omega
  · intro q _ F4 hb g e33 e34 e36 e37 e38 eFR eBU a39
    obtain ⟨t, ht, hJ⟩ := y1 q
    refine ⟨_, F4, rfl, rfl, (g3.mono (by decide)).trans (gc_mk (W := k0pb_W) hb g (by decide)) (fun _ q => q), ac_ok (by rw [hr, n4, ht]; rfl) ⟨by rw [tg_eq e33]; exact hJ, ?_, ?_, ncr_eq hn ((g 43 (by decide) (by decide)).trans (r1.2 43 (by decide) (by decide))) (by omega), wc_eq hw (by omega) (by omega), ?_⟩⟩
    · show (sy_i F4 18).toInt = ((fr : Nat) : Int)
      omega
    · show (sy_i F4 19).toInt = ((bu + 1 : Nat) : Int)
      omega
    · show (sy_i F4 38).toInt ≤ ((fr : Nat) : Int) + ((bu + 1 : Nat) : Int)
      omega
theorem k0pb_5 (h0 : (sy_i F0 18).toInt = fr ∧ (sy_i F0 19).toInt = bu ∧ (sy_i F0 38).toInt ≤ fr + bu) (hlt : (sy_i F0 19).toInt < 4) (F : Nat → sy_d) (g0 : gc WN F0 F) (w : sE) (hw : wc (pg F0) w F) (hn : ncr (nm ++ [ng F0 (tg F0 + 1)]) F) (h38 : (sy_i F 38).toInt ≤ fr + bu + 1) (hr : r0 = n3 (kg F0) (vg F0) (0, 999) (fun q => .inr (q.1, fr, bu + 1, nm ++ [ng F0 (tg F0 + 1)], q.2)) (tg F, w)) :
    hd_W Ls xs 5 jm_M34 (fun v G => ∃ (x : Int32) (F' : Nat → sy_d), v = some (.int x) ∧ G = sy_dh F' X1 X2 (iv_H 0) ∧ gc k0pb_W F0 F' ∧ ac r0 (rcl (pg F0) 18 19) x F') (59, sy_dL F [some (.inl (.ref 30)), none], sy_dS F [.inl (.int 999), .inl (.int 0), .inl (.int 2), .inl (.ref 30)], sy_dh F X1 X2 (iv_H 0), 0, 0) := by
  refine hd_calI (R := fun x F' => tnR ((0 : Int32)).toInt ((999 : Int32)).toInt x F F') (nh := 82) (nv := 82) (s := 0) (s1 := 0) (d1 := 4) (M1 := jm_M42) (As := [.inl (.ref 30), .inl (.int 2), .inl (.int 0), .inl (.int 999)]) (rest := []) jm_ok34 rfl rfl (by decide) (by decide +kernel) (k0tn_T F X1 X2 g0.1 2 0 999 (by decide) (by decide)) (fun F3 F' x hR p1 p2 p3 => ?_)
  have hR : tnR 0 999 x F F' := hR
  obtain ⟨r1, r2⟩ := tnR_dst hR p1
  rw [kg_eq (g0.2 39 (by decide) (by decide)), pg_eq (g0.2 40 (by decide) (by decide)), vg_eq (g0.2 41 (by decide) (by decide))] at r2
  have r2 := r2 w hw
  have g3 : gc WN F0 F3 := g0.trans r1 (by decide)
  have hx : sy_i F3 82 = x := zz_i p3
  rw [← hx] at r2
  obtain ⟨y0, y1⟩ := x01' r2
  have i38 := r1.i (k := 38) (by decide) (by decide)
  refine k0pb_62 (by decide) F3 X1 X2 g3.1 ?_ ?_
  · intro q F4 hb g e33 e34 e36 e37 e38 eFR eBU a39
    refine ⟨_, F4, rfl, rfl, (g3.mono (by decide)).trans (gc_mk (W := k0pb_W) hb g (by decide)) (fun _ q => q), Or.inl ⟨rfl, ?_⟩⟩
    rw [hr, n3, y0 q, e34, tg_eq e33]
    rfl
  · intro q F4 hb g e33 e34 e36 e37 e38 eFR eBU a39
    obtain ⟨⟨t, w'⟩, ht, hJ1, hJ2⟩ := y1 q
    have hJ1 : tg F3 = t := hJ1
    subst hJ1
    exact k0pb_6 X1 X2 F0 r0 fr bu nm h0 hlt F4 (g3.trans (gc_mk (W := WN) hb g (by decide)) (fun _ q => q)) w' (wc_eq hJ2 e36 e37) (ncr_eq hn ((g 43 (by decide) (by decide)).trans (r1.2 43 (by decide) (by decide))) (by omega)) (by omega) (by rw [hr, n3, ht, tg_eq e33]; rfl)
theorem k0pb_4 (h0 : (sy_i F0 18).toInt = fr ∧ (sy_i F0 19).toInt = bu ∧ (sy_i F0 38).toInt ≤ fr + bu) (hlt : (sy_i F0 19).toInt < 4) (F : Nat → sy_d) (g0 : gc WN F0 F) (w : sE) (hw : wc (pg F0) w F) (hn : ncr (nm ++ [ng F0 (tg F0 + 1)]) F) (h38 : (sy_i F 38).toInt ≤ fr + bu + 1) (hr : r0 = n2 (kg F0) (vg F0) (0, 3) (0, 999) (fun q => .inr (q.1, fr, bu + 1, nm ++ [ng F0 (tg F0 + 1)], q.2)) (tg F, w)) :
    hd_W Ls xs 5 jm_M34 (fun v G => ∃ (x : Int32) (F' : Nat → sy_d), v = some (.int x) ∧ G = sy_dh F' X1 X2 (iv_H 0) ∧ gc k0pb_W F0 F' ∧ ac r0 (rcl (pg F0) 18 19) x F') (47, sy_dL F [some (.inl (.ref 30)), none], sy_dS F [.inl (.int 3), .inl (.int 0), .inl (.int 1), .inl (.ref 30)], sy_dh F X1 X2 (iv_H 0), 0, 0) := by
  refine hd_calI (R := fun x F' => tnR ((0 : Int32)).toInt ((3 : Int32)).toInt x F F') (nh := 82) (nv := 82) (s := 0) (s1 := 0) (d1 := 4) (M1 := jm_M42) (As := [.inl (.ref 30), .inl (.int 1), .inl (.int 0), .inl (.int 3)]) (rest := []) jm_ok34 rfl rfl (by decide) (by decide +kernel) (k0tn_T F X1 X2 g0.1 1 0 3 (by decide) (by decide)) (fun F3 F' x hR p1 p2 p3 => ?_)
  have hR : tnR 0 3 x F F' := hR
  obtain ⟨r1, r2⟩ := tnR_dst hR p1
  rw [kg_eq (g0.2 39 (by decide) (by decide)), pg_eq (g0.2 40 (by decide) (by decide)), vg_eq (g0.2 41 (by decide) (by decide))] at r2
  have r2 := r2 w hw
  have g3 : gc WN F0 F3 := g0.trans r1 (by decide)
  have hx : sy_i F3 82 = x := zz_i p3
  rw [← hx] at r2
  obtain ⟨y0, y1⟩ := x01' r2
  have i38 := r1.i (k := 38) (by decide) (by decide)
  refine k0pb_50 (by decide) F3 X1 X2 g3.1 ?_ ?_
  · intro q F4 hb g e33 e34 e36 e37 e38 eFR eBU a39
    refine ⟨_, F4, rfl, rfl, (g3.mono (by decide)).trans (gc_mk (W := k0pb_W) hb g (by decide)) (fun _ q => q), Or.inl ⟨rfl, ?_⟩⟩
    rw [hr, n2, y0 q, e34, tg_eq e33]
    rfl
  · intro q F4 hb g e33 e34 e36 e37 e38 eFR eBU a39
    obtain ⟨⟨t, w'⟩, ht, hJ1, hJ2⟩ := y1 q
    have hJ1 : tg F3 = t := hJ1
    subst hJ1
    exact k0pb_5 X1 X2 F0 r0 fr bu nm h0 hlt F4 (g3.trans (gc_mk (W := WN) hb g (by decide)) (fun _ q => q)) w' (wc_eq hJ2 e36 e37) (ncr_eq hn ((g 43 (by decide) (by decide)).trans (r1.2 43 (by decide) (by decide))) (by omega)) (by omega) (by rw [hr, n2, ht, tg_eq e33]; rfl)
theorem k0pb_3 (h0 : (sy_i F0 18).toInt = fr ∧ (sy_i F0 19).toInt = bu ∧ (sy_i F0 38).toInt ≤ fr + bu) (hlt : (sy_i F0 19).toInt < 4) (F : Nat → sy_d) (g0 : gc WN F0 F) (w : sE) (hw : wc (pg F0) w F) (hn : ncr (nm ++ [ng F0 (tg F0 + 1)]) F) (h38 : (sy_i F 38).toInt ≤ fr + bu + 1) (hr : r0 = n1 (kg F0) (vg F0) (0, 3) (0, 999) (fun q => .inr (q.1, fr, bu + 1, nm ++ [ng F0 (tg F0 + 1)], q.2)) (0, 9) (tg F, w)) :
    hd_W Ls xs 5 jm_M34 (fun v G => ∃ (x : Int32) (F' : Nat → sy_d), v = some (.int x) ∧ G = sy_dh F' X1 X2 (iv_H 0) ∧ gc k0pb_W F0 F' ∧ ac r0 (rcl (pg F0) 18 19) x F') (37, sy_dL F [some (.inl (.ref 30)), none], sy_dS F [.inl (.int 9), .inl (.int 0), .inl (.int 0), .inl (.ref 30)], sy_dh F X1 X2 (iv_H 0), 0, 0) := by
  refine hd_calI (R := fun x F' => tnR ((0 : Int32)).toInt ((9 : Int32)).toInt x F F') (nh := 82) (nv := 82) (s := 0) (s1 := 0) (d1 := 4) (M1 := jm_M42) (As := [.inl (.ref 30), .inl (.int 0), .inl (.int 0), .inl (.int 9)]) (rest := []) jm_ok34 rfl rfl (by decide) (by decide +kernel) (k0tn_T F X1 X2 g0.1 0 0 9 (by decide) (by decide)) (fun F3 F' x hR p1 p2 p3 => ?_)
  have hR : tnR 0 9 x F F' := hR
  obtain ⟨r1, r2⟩ := tnR_dst hR p1
  rw [kg_eq (g0.2 39 (by decide) (by decide)), pg_eq (g0.2 40 (by decide) (by decide)), vg_eq (g0.2 41 (by decide) (by decide))] at r2
  have r2 := r2 w hw
  have g3 : gc WN F0 F3 := g0.trans r1 (by decide)
  have hx : sy_i F3 82 = x := zz_i p3
  rw [← hx] at r2
  obtain ⟨y0, y1⟩ := x01' r2
  have i38 := r1.i (k := 38) (by decide) (by decide)
  refine k0pb_40 (by decide) F3 X1 X2 g3.1 ?_ ?_
  · intro q F4 hb g e33 e34 e36 e37 e38 eFR eBU a39
    refine ⟨_, F4, rfl, rfl, (g3.mono (by decide)).trans (gc_mk (W := k0pb_W) hb g (by decide)) (fun _ q => q), Or.inl ⟨rfl, ?_⟩⟩
    rw [hr, n1, y0 q, e34, tg_eq e33]
    rfl
  · intro q F4 hb g e33 e34 e36 e37 e38 eFR eBU a39
    obtain ⟨⟨t, w'⟩, ht, hJ1, hJ2⟩ := y1 q
    have hJ1 : tg F3 = t := hJ1
    subst hJ1
    exact k0pb_4 X1 X2 F0 r0 fr bu nm h0 hlt F4 (g3.trans (gc_mk (W := WN) hb g (by decide)) (fun _ q => q)) w' (wc_eq hJ2 e36 e37) (ncr_eq hn ((g 43 (by decide) (by decide)).trans (r1.2 43 (by decide) (by decide))) (by omega)) (by omega) (by rw [hr, n1, ht, tg_eq e33]; rfl)
theorem k0pb_2 (h0 : (sy_i F0 18).toInt = fr ∧ (sy_i F0 19).toInt = bu ∧ (sy_i F0 38).toInt ≤ fr + bu) (hlt : (sy_i F0 19).toInt < 4) (F : Nat → sy_d) (g0 : gc WN F0 F) (w : sE) (hw : wc (pg F0) w F) (hn : ncr nm F) (h38 : (sy_i F 38).toInt ≤ fr + bu) (ht1 : tg F = tg F0 + 1) (hr : r0 = sB (sNm (kg F0) (ng F0) (tg F, nm, w)) (n1 (kg F0) (vg F0) (0, 3) (0, 999) (fun q => .inr (q.1, fr, bu + 1, nm ++ [ng F0 (tg F0 + 1)], q.2)) (0, 9))) :
    hd_W Ls xs 5 jm_M34 (fun v G => ∃ (x : Int32) (F' : Nat → sy_d), v = some (.int x) ∧ G = sy_dh F' X1 X2 (iv_H 0) ∧ gc k0pb_W F0 F' ∧ ac r0 (rcl (pg F0) 18 19) x F') (26, sy_dL F [some (.inl (.ref 30)), none], sy_dS F [.inl (.ref 30)], sy_dh F X1 X2 (iv_H 0), 0, 0) := by
  have f1 := g0.i (k := 18) (by decide) (by decide)
  have f2 := g0.i (k := 19) (by decide) (by decide)
  have d1 := nz_bx g0.1 (k := 18) (lo := 0) (hi := 7) rfl
  have d2 := nz_bx g0.1 (k := 19) (lo := 0) (hi := 4) rfl
  refine hd_calI (R := fun x F' => tmR x F F') (nh := 82) (nv := 82) (s := 0) (s1 := 0) (d1 := 4) (M1 := jm_M41) (As := [.inl (.ref 30)]) (rest := []) jm_ok34 rfl rfl (by decide) (by decide +kernel) (k0tm_T F X1 X2 g0.1 (by omega)) (fun F3 F' x hR p1 p2 p3 => ?_)
  obtain ⟨r1, rl, r2⟩ := tmR_dst hR p1
  rw [kg_eq (g0.2 39 (by decide) (by decide)), pg_eq (g0.2 40 (by decide) (by decide)), ng_eq (g0.2 41 (by decide) (by decide))] at r2
  have r2 := r2 w nm hw hn
  have g3 : gc WN F0 F3 := g0.trans r1 (by decide)
  have hx : sy_i F3 82 = x := zz_i p3
  rw [← hx] at r2
  obtain ⟨y0, y1⟩ := x01' r2
  refine k0pb_29 (by decide) F3 X1 X2 g3.1 ?_ ?_
  · intro q F4 hb g e33 e34 e36 e37 e38 eFR eBU a39
    refine ⟨_, F4, rfl, rfl, (g3.mono (by decide)).trans (gc_mk (W := k0pb_W) hb g (by decide)) (fun _ q => q), Or.inl ⟨rfl, ?_⟩⟩
    rw [hr, y0 q, e34, tg_eq e33]
    rfl
  · intro q F4 hb g e33 e34 e36 e37 e38 eFR eBU a39
    obtain ⟨⟨t, w'⟩, ht, hJ1, hJ2, hJ3⟩ := y1 q
    have hJ1 : tg F3 = t := hJ1
    subst hJ1
    rw [ht1] at hJ3
    exact k0pb_3 X1 X2 F0 r0 fr bu nm h0 hlt F4 (g3.trans (gc_mk (W := WN) hb g (by decide)) (fun _ q => q)) w' (wc_eq hJ2 e36 e37) (ncr_eq hJ3 (g 43 (by decide) (by decide)) e38) (by omega) (by rw [hr, ht, tg_eq e33]; rfl)
end Sk0pb
theorem k0pb_T {Ls : Nat} {xs : Nat → Int32} (X1 X2 : List jm_c) (F : Nat → sy_d) (hB : iv_in F iv_B0) (hk : kg F (tg F) = 21) (x : sT) (hx : rcl (pg F) 18 19 x F) : jm_T Ls xs 5 jm_M34 [.ref 30] (sy_dh F X1 X2 (iv_H 0)) 0 0 (fun v G => ∃ (y : Int32) (F' : Nat → sy_d), v = some (.int y) ∧ G = sy_dh F' X1 X2 (iv_H 0) ∧ gc k0pb_W F F' ∧ ac (sBuyer (kg F) (vg F) (ng F) x) (rcl (pg F) 18 19) y F') := by
  obtain ⟨t, fr, bu, nm, w⟩ := x
  obtain ⟨x1, x2, x3, x4, x5, x6⟩ := hx
  have x1 : tg F = t := x1
  subst x1
  have x2 : (sy_i F 18).toInt = fr := x2
  have x3 : (sy_i F 19).toInt = bu := x3
  have x6 : (sy_i F 38).toInt ≤ fr + bu := x6
  have c33 := nz_bx hB (k := 33) (lo := 0) (hi := 400) rfl
  have dF := nz_bx hB (k := 19) (lo := 0) (hi := 4) rfl
  refine hd_T (As := [.inl (.ref 30)]) jm_ok34 (by decide) (k0pb_0 (by decide) F X1 X2 hB ?_ ?_)
  · intro q F1 hb g e33 e34 e36 e37 e38 eFR eBU a39
    have g0 : ∀ q, q < 82 → F1 q = F q := fun q hq => g q hq (by simp)
    refine hd_calI (R := fun x F' => taR ((1 : Int32)).toInt x F1 F') (nh := 82) (nv := 82) (s := 0) (s1 := 0) (d1 := 3) (M1 := jm_M43) (As := [.inl (.ref 30), .inl (.int 1)]) (rest := []) jm_ok34 rfl rfl (by decide) (by decide +kernel) (k0ta_T F1 X1 X2 hb 1) (fun F3 F' x hR p1 p2 p3 => ?_)
    have hR : taR 1 x F1 F' := hR
    obtain ⟨r1, r2⟩ := taR_src (taR_dst hR p1) g0
    have r2 := r2 (km_in (j := 21) (fun c => km_w (by decide) (by decide)) (by decide))
    rw [show km 1 = 21 by decide, show sM (kg F) 21 (tg F) = sG (tg F) by unfold sM; rw [if_pos hk]] at r2
    have g3 : gc WN F F3 := r1.mono (by decide)
    have hx : sy_i F3 82 = x := zz_i p3
    rw [← hx] at r2
    obtain ⟨y0, y1⟩ := x01' r2
    have i36 := r1.i (k := 36) (by decide) (by decide)
    have i37 := r1.i (k := 37) (by decide) (by decide)
    have i38 := r1.i (k := 38) (by decide) (by decide)
    have hS : sBuyer (kg F) (vg F) (ng F) (tg F, fr, bu, nm, w) = sB (sG (tg F)) fun t => sB (sTell (kg F) (vg F) (ng F) (0, 9) (0, 3) (0, 999) (t, nm, w)) fun q => .inr (q.1, fr, bu + 1, nm ++ [ng F t], q.2) := sBu_n (by omega)
    refine k0pb_22 (by decide) F3 X1 X2 g3.1 ?_ ?_
    · intro q F4 hb g e33 e34 e36 e37 e38 eFR eBU a39
      refine ⟨_, F4, rfl, rfl, (g3.mono (by decide)).trans (gc_mk (W := k0pb_W) hb g (by decide)) (fun _ q => q), Or.inl ⟨rfl, ?_⟩⟩
      rw [hS, y0 q, e34, tg_eq e33]
      rfl
    · intro q F4 hb g d33 d34 d36 d37 d38 dFR dBU b39
      obtain ⟨t, ht, hJ⟩ := y1 q
      have h4 : tg F < 400 := by
        by_cases z : tg F = 400
        · rw [sG_4 z] at ht
          cases ht
        · unfold tg at z ⊢
          omega
      rw [sG_ok h4] at ht
      have et : t = tg F + 1 := (Sum.inr.inj ht).symm
      refine k0pb_2 X1 X2 F _ fr bu nm ⟨x2, x3, x6⟩ (by omega) F4 (g3.trans (gc_mk (W := WN) hb g (by decide)) (fun _ q => q)) w (wc_eq x5 (by omega) (by omega)) (ncr_eq x4 ((g 43 (by decide) (by decide)).trans (r1.2 43 (by decide) (by decide))) (by omega)) (by omega) (by rw [tg_eq d33, hJ, et]) ?_
      rw [hS, sG_ok h4, tg_eq d33, hJ, et]
      exact n_eq (kg F) (vg F) (0, 3) (0, 999) (fun q => .inr (q.1, fr, bu + 1, nm ++ [ng F (tg F + 1)], q.2)) (ng F) (0, 9) (tg F + 1, nm, w)
  · intro q F1 hb g e33 e34 e36 e37 e38 eFR eBU a39
    exact ⟨_, F1, rfl, rfl, gc_mk hb g (by decide), Or.inl ⟨rfl, by rw [sBu_4 (by omega), e34, tg_eq e33]⟩⟩
noncomputable def k3pf_W : List Nat := [33, 34, 36, 37, 38, 43, 44, 3, 9, 10, 11]
section Sk3pf
variable {Ls : Nat} {xs : Nat → Int32} (X1 X2 : List jm_c) (F0 : Nat → sy_d) (r0 : sE ⊕ sT) (fr bu : Nat) (nm : List Int64)
theorem k3pf_6 (h0 : (sy_i F0 3).toInt = fr ∧ (sy_i F0 4).toInt = bu ∧ (sy_i F0 38).toInt ≤ fr + bu) (hlt : (sy_i F0 3).toInt < 7) (F : Nat → sy_d) (g0 : gc WN F0 F) (w : sE) (hw : wc (pg F0) w F) (hn : ncr (nm ++ [ng F0 (tg F0 + 1)]) F) (h38 : (sy_i F 38).toInt ≤ fr + bu + 1) (hr : r0 = n4 (kg F0) (fun q => .inr (q.1, fr + 1, bu, nm ++ [ng F0 (tg F0 + 1)], q.2)) (tg F, w)) :
    hd_W Ls xs 5 jm_M33 (fun v G => ∃ (x : Int32) (F' : Nat → sy_d), v = some (.int x) ∧ G = sy_dh F' X1 X2 (iv_H 3) ∧ gc k3pf_W F0 F' ∧ ac r0 (rcl (pg F0) 3 4) x F') (69, sy_dL F [some (.inl (.ref 30)), none], sy_dS F [.inl (.int 59), .inl (.ref 30)], sy_dh F X1 X2 (iv_H 3), 0, 0) := by
  refine hd_calI (R := fun x F' => taR ((59 : Int32)).toInt x F F') (nh := 82) (nv := 82) (s := 3) (s1 := 3) (d1 := 3) (M1 := jm_M43) (As := [.inl (.ref 30), .inl (.int 59)]) (rest := []) jm_ok33 rfl rfl (by decide) (by decide +kernel) (k3ta_T F X1 X2 g0.1 59) (fun F3 F' x hR p1 p2 p3 => ?_)
  have hR : taR 59 x F F' := hR
  obtain ⟨r1, r2⟩ := taR_dst hR p1
  have r2 := r2 (km_in (j := 4) (fun c => km_4) (by decide))
  rw [show km 59 = 4 by decide, kg_eq (g0.2 39 (by decide) (by decide))] at r2
  have g3 : gc WN F0 F3 := g0.trans r1 (by decide)
  have hx : sy_i F3 82 = x := zz_i p3
  rw [← hx] at r2
  obtain ⟨y0, y1⟩ := x01' r2
  have f1 := g3.i (k := 3) (by decide) (by decide)
  have f2 := g3.i (k := 4) (by decide) (by decide)
  have i36 := r1.i (k := 36) (by decide) (by decide)
  have i37 := r1.i (k := 37) (by decide) (by decide)
  have i38 := r1.i (k := 38) (by decide) (by decide)
  refine k3pf_72 (by decide) F3 X1 X2 g3.1 ?_ ?_ ?_
  · intro q F4 hb g e33 e34 e36 e37 e38 eFR eBU a39
    refine ⟨_, F4, rfl, rfl, (g3.mono (by decide)).trans (gc_mk (W := k3pf_W) hb g (by decide)) (fun _ q => q), Or.inl ⟨rfl, ?_⟩⟩
    rw [hr, n4, y0 q, e34, tg_eq e33]
    rfl
  · intros; exfalso; omega
  · intro q _ F4 hb g e33 e34 e36 e37 e38 eFR eBU a39
    obtain ⟨t, ht, hJ⟩ := y1 q
    refine ⟨_, F4, rfl, rfl, (g3.mono (by decide)).trans (gc_mk (W := k3pf_W) hb g (by decide)) (fun _ q => q), ac_ok (by rw [hr, n4, ht]; rfl) ⟨by rw [tg_eq e33]; exact hJ, ?_, ?_, ncr_eq hn ((g 43 (by decide) (by decide)).trans (r1.2 43 (by decide) (by decide))) (by omega), wc_eq hw (by omega) (by omega), ?_⟩⟩
    · show (sy_i F4 3).toInt = ((fr + 1 : Nat) : Int)
      omega
    · show (sy_i F4 4).toInt = ((bu : Nat) : Int)
      omega
    · show (sy_i F4 38).toInt ≤ ((fr + 1 : Nat) : Int) + ((bu : Nat) : Int)
      omega
theorem k3pf_5 (h0 : (sy_i F0 3).toInt = fr ∧ (sy_i F0 4).toInt = bu ∧ (sy_i F0 38).toInt ≤ fr + bu) (hlt : (sy_i F0 3).toInt < 7) (F : Nat → sy_d) (g0 : gc WN F0 F) (w : sE) (hw : wc (pg F0) w F) (hn : ncr (nm ++ [ng F0 (tg F0 + 1)]) F) (h38 : (sy_i F 38).toInt ≤ fr + bu + 1) (hr : r0 = n3 (kg F0) (vg F0) (0, 99) (fun q => .inr (q.1, fr + 1, bu, nm ++ [ng F0 (tg F0 + 1)], q.2)) (tg F, w)) :
    hd_W Ls xs 5 jm_M33 (fun v G => ∃ (x : Int32) (F' : Nat → sy_d), v = some (.int x) ∧ G = sy_dh F' X1 X2 (iv_H 3) ∧ gc k3pf_W F0 F' ∧ ac r0 (rcl (pg F0) 3 4) x F') (60, sy_dL F [some (.inl (.ref 30)), none], sy_dS F [.inl (.int 99), .inl (.int 0), .inl (.int 2), .inl (.ref 30)], sy_dh F X1 X2 (iv_H 3), 0, 0) := by
  refine hd_calI (R := fun x F' => tnR ((0 : Int32)).toInt ((99 : Int32)).toInt x F F') (nh := 82) (nv := 82) (s := 3) (s1 := 3) (d1 := 4) (M1 := jm_M42) (As := [.inl (.ref 30), .inl (.int 2), .inl (.int 0), .inl (.int 99)]) (rest := []) jm_ok33 rfl rfl (by decide) (by decide +kernel) (k3tn_T F X1 X2 g0.1 2 0 99 (by decide) (by decide)) (fun F3 F' x hR p1 p2 p3 => ?_)
  have hR : tnR 0 99 x F F' := hR
  obtain ⟨r1, r2⟩ := tnR_dst hR p1
  rw [kg_eq (g0.2 39 (by decide) (by decide)), pg_eq (g0.2 40 (by decide) (by decide)), vg_eq (g0.2 41 (by decide) (by decide))] at r2
  have r2 := r2 w hw
  have g3 : gc WN F0 F3 := g0.trans r1 (by decide)
  have hx : sy_i F3 82 = x := zz_i p3
  rw [← hx] at r2
  obtain ⟨y0, y1⟩ := x01' r2
  have i38 := r1.i (k := 38) (by decide) (by decide)
  refine k3pf_63 (by decide) F3 X1 X2 g3.1 ?_ ?_
  · intro q F4 hb g e33 e34 e36 e37 e38 eFR eBU a39
    refine ⟨_, F4, rfl, rfl, (g3.mono (by decide)).trans (gc_mk (W := k3pf_W) hb g (by decide)) (fun _ q => q), Or.inl ⟨rfl, ?_⟩⟩
    rw [hr, n3, y0 q, e34, tg_eq e33]
    rfl
  · intro q F4 hb g e33 e34 e36 e37 e38 eFR eBU a39
    obtain ⟨⟨t, w'⟩, ht, hJ1, hJ2⟩ := y1 q
    have hJ1 : tg F3 = t := hJ1
    subst hJ1
    exact k3pf_6 X1 X2 F0 r0 fr bu nm h0 hlt F4 (g3.trans (gc_mk (W := WN) hb g (by decide)) (fun _ q => q)) w' (wc_eq hJ2 e36 e37) (ncr_eq hn ((g 43 (by decide) (by decide)).trans (r1.2 43 (by decide) (by decide))) (by omega)) (by omega) (by rw [hr, n3, ht, tg_eq e33]; rfl)
theorem k3pf_4 (h0 : (sy_i F0 3).toInt = fr ∧ (sy_i F0 4).toInt = bu ∧ (sy_i F0 38).toInt ≤ fr + bu) (hlt : (sy_i F0 3).toInt < 7) (F : Nat → sy_d) (g0 : gc WN F0 F) (w : sE) (hw : wc (pg F0) w F) (hn : ncr (nm ++ [ng F0 (tg F0 + 1)]) F) (h38 : (sy_i F 38).toInt ≤ fr + bu + 1) (hr : r0 = n2 (kg F0) (vg F0) (1, 9) (0, 99) (fun q => .inr (q.1, fr + 1, bu, nm ++ [ng F0 (tg F0 + 1)], q.2)) (tg F, w)) :
    hd_W Ls xs 5 jm_M33 (fun v G => ∃ (x : Int32) (F' : Nat → sy_d), v = some (.int x) ∧ G = sy_dh F' X1 X2 (iv_H 3) ∧ gc k3pf_W F0 F' ∧ ac r0 (rcl (pg F0) 3 4) x F') (49, sy_dL F [some (.inl (.ref 30)), none], sy_dS F [.inl (.int 9), .inl (.int 1), .inl (.int 1), .inl (.ref 30)], sy_dh F X1 X2 (iv_H 3), 0, 0) := by
  refine hd_calI (R := fun x F' => tnR ((1 : Int32)).toInt ((9 : Int32)).toInt x F F') (nh := 82) (nv := 82) (s := 3) (s1 := 3) (d1 := 4) (M1 := jm_M42) (As := [.inl (.ref 30), .inl (.int 1), .inl (.int 1), .inl (.int 9)]) (rest := []) jm_ok33 rfl rfl (by decide) (by decide +kernel) (k3tn_T F X1 X2 g0.1 1 1 9 (by decide) (by decide)) (fun F3 F' x hR p1 p2 p3 => ?_)
  have hR : tnR 1 9 x F F' := hR
  obtain ⟨r1, r2⟩ := tnR_dst hR p1
  rw [kg_eq (g0.2 39 (by decide) (by decide)), pg_eq (g0.2 40 (by decide) (by decide)), vg_eq (g0.2 41 (by decide) (by decide))] at r2
  have r2 := r2 w hw
  have g3 : gc WN F0 F3 := g0.trans r1 (by decide)
  have hx : sy_i F3 82 = x := zz_i p3
  rw [← hx] at r2
  obtain ⟨y0, y1⟩ := x01' r2
  have i38 := r1.i (k := 38) (by decide) (by decide)
  refine k3pf_52 (by decide) F3 X1 X2 g3.1 ?_ ?_
  · intro q F4 hb g e33 e34 e36 e37 e38 eFR eBU a39
    refine ⟨_, F4, rfl, rfl, (g3.mono (by decide)).trans (gc_mk (W := k3pf_W) hb g (by decide)) (fun _ q => q), Or.inl ⟨rfl, ?_⟩⟩
    rw [hr, n2, y0 q, e34, tg_eq e33]
    rfl
  · intro q F4 hb g e33 e34 e36 e37 e38 eFR eBU a39
    obtain ⟨⟨t, w'⟩, ht, hJ1, hJ2⟩ := y1 q
    have hJ1 : tg F3 = t := hJ1
    subst hJ1
    exact k3pf_5 X1 X2 F0 r0 fr bu nm h0 hlt F4 (g3.trans (gc_mk (W := WN) hb g (by decide)) (fun _ q => q)) w' (wc_eq hJ2 e36 e37) (ncr_eq hn ((g 43 (by decide) (by decide)).trans (r1.2 43 (by decide) (by decide))) (by omega)) (by omega) (by rw [hr, n2, ht, tg_eq e33]; rfl)
theorem k3pf_3 (h0 : (sy_i F0 3).toInt = fr ∧ (sy_i F0 4).toInt = bu ∧ (sy_i F0 38).toInt ≤ fr + bu) (hlt : (sy_i F0 3).toInt < 7) (F : Nat → sy_d) (g0 : gc WN F0 F) (w : sE) (hw : wc (pg F0) w F) (hn : ncr (nm ++ [ng F0 (tg F0 + 1)]) F) (h38 : (sy_i F 38).toInt ≤ fr + bu + 1) (hr : r0 = n1 (kg F0) (vg F0) (1, 9) (0, 99) (fun q => .inr (q.1, fr + 1, bu, nm ++ [ng F0 (tg F0 + 1)], q.2)) (0, 9) (tg F, w)) :
    hd_W Ls xs 5 jm_M33 (fun v G => ∃ (x : Int32) (F' : Nat → sy_d), v = some (.int x) ∧ G = sy_dh F' X1 X2 (iv_H 3) ∧ gc k3pf_W F0 F' ∧ ac r0 (rcl (pg F0) 3 4) x F') (38, sy_dL F [some (.inl (.ref 30)), none], sy_dS F [.inl (.int 9), .inl (.int 0), .inl (.int 0), .inl (.ref 30)], sy_dh F X1 X2 (iv_H 3), 0, 0) := by
  refine hd_calI (R := fun x F' => tnR ((0 : Int32)).toInt ((9 : Int32)).toInt x F F') (nh := 82) (nv := 82) (s := 3) (s1 := 3) (d1 := 4) (M1 := jm_M42) (As := [.inl (.ref 30), .inl (.int 0), .inl (.int 0), .inl (.int 9)]) (rest := []) jm_ok33 rfl rfl (by decide) (by decide +kernel) (k3tn_T F X1 X2 g0.1 0 0 9 (by decide) (by decide)) (fun F3 F' x hR p1 p2 p3 => ?_)
  have hR : tnR 0 9 x F F' := hR
  obtain ⟨r1, r2⟩ := tnR_dst hR p1
  rw [kg_eq (g0.2 39 (by decide) (by decide)), pg_eq (g0.2 40 (by decide) (by decide)), vg_eq (g0.2 41 (by decide) (by decide))] at r2
  have r2 := r2 w hw
  have g3 : gc WN F0 F3 := g0.trans r1 (by decide)
  have hx : sy_i F3 82 = x := zz_i p3
  rw [← hx] at r2
  obtain ⟨y0, y1⟩ := x01' r2
  have i38 := r1.i (k := 38) (by decide) (by decide)
  refine k3pf_41 (by decide) F3 X1 X2 g3.1 ?_ ?_
  · intro q F4 hb g e33 e34 e36 e37 e38 eFR eBU a39
    refine ⟨_, F4, rfl, rfl, (g3.mono (by decide)).trans (gc_mk (W := k3pf_W) hb g (by decide)) (fun _ q => q), Or.inl ⟨rfl, ?_⟩⟩
    rw [hr, n1, y0 q, e34, tg_eq e33]
    rfl
  · intro q F4 hb g e33 e34 e36 e37 e38 eFR eBU a39
    obtain ⟨⟨t, w'⟩, ht, hJ1, hJ2⟩ := y1 q
    have hJ1 : tg F3 = t := hJ1
    subst hJ1
    exact k3pf_4 X1 X2 F0 r0 fr bu nm h0 hlt F4 (g3.trans (gc_mk (W := WN) hb g (by decide)) (fun _ q => q)) w' (wc_eq hJ2 e36 e37) (ncr_eq hn ((g 43 (by decide) (by decide)).trans (r1.2 43 (by decide) (by decide))) (by omega)) (by omega) (by rw [hr, n1, ht, tg_eq e33]; rfl)
theorem k3pf_2 (h0 : (sy_i F0 3).toInt = fr ∧ (sy_i F0 4).toInt = bu ∧ (sy_i F0 38).toInt ≤ fr + bu) (hlt : (sy_i F0 3).toInt < 7) (F : Nat → sy_d) (g0 : gc WN F0 F) (w : sE) (hw : wc (pg F0) w F) (hn : ncr nm F) (h38 : (sy_i F 38).toInt ≤ fr + bu) (ht1 : tg F = tg F0 + 1) (hr : r0 = sB (sNm (kg F0) (ng F0) (tg F, nm, w)) (n1 (kg F0) (vg F0) (1, 9) (0, 99) (fun q => .inr (q.1, fr + 1, bu, nm ++ [ng F0 (tg F0 + 1)], q.2)) (0, 9))) :
    hd_W Ls xs 5 jm_M33 (fun v G => ∃ (x : Int32) (F' : Nat → sy_d), v = some (.int x) ∧ G = sy_dh F' X1 X2 (iv_H 3) ∧ gc k3pf_W F0 F' ∧ ac r0 (rcl (pg F0) 3 4) x F') (27, sy_dL F [some (.inl (.ref 30)), none], sy_dS F [.inl (.ref 30)], sy_dh F X1 X2 (iv_H 3), 0, 0) := by
  have f1 := g0.i (k := 3) (by decide) (by decide)
  have f2 := g0.i (k := 4) (by decide) (by decide)
  have d1 := nz_bx g0.1 (k := 3) (lo := 0) (hi := 7) rfl
  have d2 := nz_bx g0.1 (k := 4) (lo := 0) (hi := 4) rfl
  refine hd_calI (R := fun x F' => tmR x F F') (nh := 82) (nv := 82) (s := 3) (s1 := 3) (d1 := 4) (M1 := jm_M41) (As := [.inl (.ref 30)]) (rest := []) jm_ok33 rfl rfl (by decide) (by decide +kernel) (k3tm_T F X1 X2 g0.1 (by omega)) (fun F3 F' x hR p1 p2 p3 => ?_)
  obtain ⟨r1, rl, r2⟩ := tmR_dst hR p1
  rw [kg_eq (g0.2 39 (by decide) (by decide)), pg_eq (g0.2 40 (by decide) (by decide)), ng_eq (g0.2 41 (by decide) (by decide))] at r2
  have r2 := r2 w nm hw hn
  have g3 : gc WN F0 F3 := g0.trans r1 (by decide)
  have hx : sy_i F3 82 = x := zz_i p3
  rw [← hx] at r2
  obtain ⟨y0, y1⟩ := x01' r2
  refine k3pf_30 (by decide) F3 X1 X2 g3.1 ?_ ?_
  · intro q F4 hb g e33 e34 e36 e37 e38 eFR eBU a39
    refine ⟨_, F4, rfl, rfl, (g3.mono (by decide)).trans (gc_mk (W := k3pf_W) hb g (by decide)) (fun _ q => q), Or.inl ⟨rfl, ?_⟩⟩
    rw [hr, y0 q, e34, tg_eq e33]
    rfl
  · intro q F4 hb g e33 e34 e36 e37 e38 eFR eBU a39
    obtain ⟨⟨t, w'⟩, ht, hJ1, hJ2, hJ3⟩ := y1 q
    have hJ1 : tg F3 = t := hJ1
    subst hJ1
    rw [ht1] at hJ3
    exact k3pf_3 X1 X2 F0 r0 fr bu nm h0 hlt F4 (g3.trans (gc_mk (W := WN) hb g (by decide)) (fun _ q => q)) w' (wc_eq hJ2 e36 e37) (ncr_eq hJ3 (g 43 (by decide) (by decide)) e38) (by omega) (by rw [hr, ht, tg_eq e33]; rfl)
end Sk3pf
theorem k3pf_T {Ls : Nat} {xs : Nat → Int32} (X1 X2 : List jm_c) (F : Nat → sy_d) (hB : iv_in F iv_B0) (hk : kg F (tg F) = 20) (x : sT) (hx : rcl (pg F) 3 4 x F) : jm_T Ls xs 5 jm_M33 [.ref 30] (sy_dh F X1 X2 (iv_H 3)) 0 0 (fun v G => ∃ (y : Int32) (F' : Nat → sy_d), v = some (.int y) ∧ G = sy_dh F' X1 X2 (iv_H 3) ∧ gc k3pf_W F F' ∧ ac (sFruit (kg F) (vg F) (ng F) x) (rcl (pg F) 3 4) y F') := by
  obtain ⟨t, fr, bu, nm, w⟩ := x
  obtain ⟨x1, x2, x3, x4, x5, x6⟩ := hx
  have x1 : tg F = t := x1
  subst x1
  have x2 : (sy_i F 3).toInt = fr := x2
  have x3 : (sy_i F 4).toInt = bu := x3
  have x6 : (sy_i F 38).toInt ≤ fr + bu := x6
  have c33 := nz_bx hB (k := 33) (lo := 0) (hi := 400) rfl
  have dF := nz_bx hB (k := 3) (lo := 0) (hi := 7) rfl
  refine hd_T (As := [.inl (.ref 30)]) jm_ok33 (by decide) (k3pf_0 (by decide) F X1 X2 hB ?_ ?_)
  · intro q F1 hb g e33 e34 e36 e37 e38 eFR eBU a39
    have g0 : ∀ q, q < 82 → F1 q = F q := fun q hq => g q hq (by simp)
    refine hd_calI (R := fun x F' => taR ((0 : Int32)).toInt x F1 F') (nh := 82) (nv := 82) (s := 3) (s1 := 3) (d1 := 3) (M1 := jm_M43) (As := [.inl (.ref 30), .inl (.int 0)]) (rest := []) jm_ok33 rfl rfl (by decide) (by decide +kernel) (k3ta_T F1 X1 X2 hb 0) (fun F3 F' x hR p1 p2 p3 => ?_)
    have hR : taR 0 x F1 F' := hR
    obtain ⟨r1, r2⟩ := taR_src (taR_dst hR p1) g0
    have r2 := r2 (km_in (j := 20) (fun c => km_w (by decide) (by decide)) (by decide))
    rw [show km 0 = 20 by decide, show sM (kg F) 20 (tg F) = sG (tg F) by unfold sM; rw [if_pos hk]] at r2
    have g3 : gc WN F F3 := r1.mono (by decide)
    have hx : sy_i F3 82 = x := zz_i p3
    rw [← hx] at r2
    obtain ⟨y0, y1⟩ := x01' r2
    have i36 := r1.i (k := 36) (by decide) (by decide)
    have i37 := r1.i (k := 37) (by decide) (by decide)
    have i38 := r1.i (k := 38) (by decide) (by decide)
    have hS : sFruit (kg F) (vg F) (ng F) (tg F, fr, bu, nm, w) = sB (sG (tg F)) fun t => sB (sTell (kg F) (vg F) (ng F) (0, 9) (1, 9) (0, 99) (t, nm, w)) fun q => .inr (q.1, fr + 1, bu, nm ++ [ng F t], q.2) := sF_n (by omega)
    refine k3pf_23 (by decide) F3 X1 X2 g3.1 ?_ ?_
    · intro q F4 hb g e33 e34 e36 e37 e38 eFR eBU a39
      refine ⟨_, F4, rfl, rfl, (g3.mono (by decide)).trans (gc_mk (W := k3pf_W) hb g (by decide)) (fun _ q => q), Or.inl ⟨rfl, ?_⟩⟩
      rw [hS, y0 q, e34, tg_eq e33]
      rfl
    · intro q F4 hb g d33 d34 d36 d37 d38 dFR dBU b39
      obtain ⟨t, ht, hJ⟩ := y1 q
      have h4 : tg F < 400 := by
        by_cases z : tg F = 400
        · rw [sG_4 z] at ht
          cases ht
        · unfold tg at z ⊢
          omega
      rw [sG_ok h4] at ht
      have et : t = tg F + 1 := (Sum.inr.inj ht).symm
      refine k3pf_2 X1 X2 F _ fr bu nm ⟨x2, x3, x6⟩ (by omega) F4 (g3.trans (gc_mk (W := WN) hb g (by decide)) (fun _ q => q)) w (wc_eq x5 (by omega) (by omega)) (ncr_eq x4 ((g 43 (by decide) (by decide)).trans (r1.2 43 (by decide) (by decide))) (by omega)) (by omega) (by rw [tg_eq d33, hJ, et]) ?_
      rw [hS, sG_ok h4, tg_eq d33, hJ, et]
      exact n_eq (kg F) (vg F) (1, 9) (0, 99) (fun q => .inr (q.1, fr + 1, bu, nm ++ [ng F (tg F + 1)], q.2)) (ng F) (0, 9) (tg F + 1, nm, w)
  · intro q F1 hb g e33 e34 e36 e37 e38 eFR eBU a39
    exact ⟨_, F1, rfl, rfl, gc_mk hb g (by decide), Or.inl ⟨rfl, by rw [sF_7 (by omega), e34, tg_eq e33]⟩⟩
noncomputable def k3pb_W : List Nat := [33, 34, 36, 37, 38, 43, 44, 4, 13, 14, 15]
section Sk3pb
variable {Ls : Nat} {xs : Nat → Int32} (X1 X2 : List jm_c) (F0 : Nat → sy_d) (r0 : sE ⊕ sT) (fr bu : Nat) (nm : List Int64)
theorem k3pb_6 (h0 : (sy_i F0 3).toInt = fr ∧ (sy_i F0 4).toInt = bu ∧ (sy_i F0 38).toInt ≤ fr + bu) (hlt : (sy_i F0 4).toInt < 4) (F : Nat → sy_d) (g0 : gc WN F0 F) (w : sE) (hw : wc (pg F0) w F) (hn : ncr (nm ++ [ng F0 (tg F0 + 1)]) F) (h38 : (sy_i F 38).toInt ≤ fr + bu + 1) (hr : r0 = n4 (kg F0) (fun q => .inr (q.1, fr, bu + 1, nm ++ [ng F0 (tg F0 + 1)], q.2)) (tg F, w)) :
    hd_W Ls xs 5 jm_M34 (fun v G => ∃ (x : Int32) (F' : Nat → sy_d), v = some (.int x) ∧ G = sy_dh F' X1 X2 (iv_H 3) ∧ gc k3pb_W F0 F' ∧ ac r0 (rcl (pg F0) 3 4) x F') (68, sy_dL F [some (.inl (.ref 30)), none], sy_dS F [.inl (.int 59), .inl (.ref 30)], sy_dh F X1 X2 (iv_H 3), 0, 0) := by
  refine hd_calI (R := fun x F' => taR ((59 : Int32)).toInt x F F') (nh := 82) (nv := 82) (s := 3) (s1 := 3) (d1 := 3) (M1 := jm_M43) (As := [.inl (.ref 30), .inl (.int 59)]) (rest := []) jm_ok34 rfl rfl (by decide) (by decide +kernel) (k3ta_T F X1 X2 g0.1 59) (fun F3 F' x hR p1 p2 p3 => ?_)
  have hR : taR 59 x F F' := hR
  obtain ⟨r1, r2⟩ := taR_dst hR p1
  have r2 := r2 (km_in (j := 4) (fun c => km_4) (by decide))
  rw [show km 59 = 4 by decide, kg_eq (g0.2 39 (by decide) (by decide))] at r2
  have g3 : gc WN F0 F3 := g0.trans r1 (by decide)
  have hx : sy_i F3 82 = x := zz_i p3
  rw [← hx] at r2
  obtain ⟨y0, y1⟩ := x01' r2
  have f1 := g3.i (k := 3) (by decide) (by decide)
  have f2 := g3.i (k := 4) (by decide) (by decide)
  have i36 := r1.i (k := 36) (by decide) (by decide)
  have i37 := r1.i (k := 37) (by decide) (by decide)
  have i38 := r1.i (k := 38) (by decide) (by decide)
  refine k3pb_71 (by decide) F3 X1 X2 g3.1 ?_ ?_ ?_
  · intro q F4 hb g e33 e34 e36 e37 e38 eFR eBU a39
    refine ⟨_, F4, rfl, rfl, (g3.mono (by decide)).trans (gc_mk (W := k3pb_W) hb g (by decide)) (fun _ q => q), Or.inl ⟨rfl, ?_⟩⟩
    rw [hr, n4, y0 q, e34, tg_eq e33]
    rfl
  · intros; exfalso; omega
  · intro q _ F4 hb g e33 e34 e36 e37 e38 eFR eBU a39
    obtain ⟨t, ht, hJ⟩ := y1 q
    refine ⟨_, F4, rfl, rfl, (g3.mono (by decide)).trans (gc_mk (W := k3pb_W) hb g (by decide)) (fun _ q => q), ac_ok (by rw [hr, n4, ht]; rfl) ⟨by rw [tg_eq e33]; exact hJ, ?_, ?_, ncr_eq hn ((g 43 (by decide) (by decide)).trans (r1.2 43 (by decide) (by decide))) (by omega), wc_eq hw (by omega) (by omega), ?_⟩⟩
    · show (sy_i F4 3).toInt = ((fr : Nat) : Int)
      omega
    · show (sy_i F4 4).toInt = ((bu + 1 : Nat) : Int)
      omega
    · show (sy_i F4 38).toInt ≤ ((fr : Nat) : Int) + ((bu + 1 : Nat) : Int)
      omega
theorem k3pb_5 (h0 : (sy_i F0 3).toInt = fr ∧ (sy_i F0 4).toInt = bu ∧ (sy_i F0 38).toInt ≤ fr + bu) (hlt : (sy_i F0 4).toInt < 4) (F : Nat → sy_d) (g0 : gc WN F0 F) (w : sE) (hw : wc (pg F0) w F) (hn : ncr (nm ++ [ng F0 (tg F0 + 1)]) F) (h38 : (sy_i F 38).toInt ≤ fr + bu + 1) (hr : r0 = n3 (kg F0) (vg F0) (0, 999) (fun q => .inr (q.1, fr, bu + 1, nm ++ [ng F0 (tg F0 + 1)], q.2)) (tg F, w)) :
    hd_W Ls xs 5 jm_M34 (fun v G => ∃ (x : Int32) (F' : Nat → sy_d), v = some (.int x) ∧ G = sy_dh F' X1 X2 (iv_H 3) ∧ gc k3pb_W F0 F' ∧ ac r0 (rcl (pg F0) 3 4) x F') (59, sy_dL F [some (.inl (.ref 30)), none], sy_dS F [.inl (.int 999), .inl (.int 0), .inl (.int 2), .inl (.ref 30)], sy_dh F X1 X2 (iv_H 3), 0, 0) := by
  refine hd_calI (R := fun x F' => tnR ((0 : Int32)).toInt ((999 : Int32)).toInt x F F') (nh := 82) (nv := 82) (s := 3) (s1 := 3) (d1 := 4) (M1 := jm_M42) (As := [.inl (.ref 30), .inl (.int 2), .inl (.int 0), .inl (.int 999)]) (rest := []) jm_ok34 rfl rfl (by decide) (by decide +kernel) (k3tn_T F X1 X2 g0.1 2 0 999 (by decide) (by decide)) (fun F3 F' x hR p1 p2 p3 => ?_)
  have hR : tnR 0 999 x F F' := hR
  obtain ⟨r1, r2⟩ := tnR_dst hR p1
  rw [kg_eq (g0.2 39 (by decide) (by decide)), pg_eq (g0.2 40 (by decide) (by decide)), vg_eq (g0.2 41 (by decide) (by decide))] at r2
  have r2 := r2 w hw
  have g3 : gc WN F0 F3 := g0.trans r1 (by decide)
  have hx : sy_i F3 82 = x := zz_i p3
  rw [← hx] at r2
  obtain ⟨y0, y1⟩ := x01' r2
  have i38 := r1.i (k := 38) (by decide) (by decide)
  refine k3pb_62 (by decide) F3 X1 X2 g3.1 ?_ ?_
  · intro q F4 hb g e33 e34 e36 e37 e38 eFR eBU a39
    refine ⟨_, F4, rfl, rfl, (g3.mono (by decide)).trans (gc_mk (W := k3pb_W) hb g (by decide)) (fun _ q => q), Or.inl ⟨rfl, ?_⟩⟩
    rw [hr, n3, y0 q, e34, tg_eq e33]
    rfl
  · intro q F4 hb g e33 e34 e36 e37 e38 eFR eBU a39
    obtain ⟨⟨t, w'⟩, ht, hJ1, hJ2⟩ := y1 q
    have hJ1 : tg F3 = t := hJ1
    subst hJ1
    exact k3pb_6 X1 X2 F0 r0 fr bu nm h0 hlt F4 (g3.trans (gc_mk (W := WN) hb g (by decide)) (fun _ q => q)) w' (wc_eq hJ2 e36 e37) (ncr_eq hn ((g 43 (by decide) (by decide)).trans (r1.2 43 (by decide) (by decide))) (by omega)) (by omega) (by rw [hr, n3, ht, tg_eq e33]; rfl)
theorem k3pb_4 (h0 : (sy_i F0 3).toInt = fr ∧ (sy_i F0 4).toInt = bu ∧ (sy_i F0 38).toInt ≤ fr + bu) (hlt : (sy_i F0 4).toInt < 4) (F : Nat → sy_d) (g0 : gc WN F0 F) (w : sE) (hw : wc (pg F0) w F) (hn : ncr (nm ++ [ng F0 (tg F0 + 1)]) F) (h38 : (sy_i F 38).toInt ≤ fr + bu + 1) (hr : r0 = n2 (kg F0) (vg F0) (0, 3) (0, 999) (fun q => .inr (q.1, fr, bu + 1, nm ++ [ng F0 (tg F0 + 1)], q.2)) (tg F, w)) :
    hd_W Ls xs 5 jm_M34 (fun v G => ∃ (x : Int32) (F' : Nat → sy_d), v = some (.int x) ∧ G = sy_dh F' X1 X2 (iv_H 3) ∧ gc k3pb_W F0 F' ∧ ac r0 (rcl (pg F0) 3 4) x F') (47, sy_dL F [some (.inl (.ref 30)), none], sy_dS F [.inl (.int 3), .inl (.int 0), .inl (.int 1), .inl (.ref 30)], sy_dh F X1 X2 (iv_H 3), 0, 0) := by
  refine hd_calI (R := fun x F' => tnR ((0 : Int32)).toInt ((3 : Int32)).toInt x F F') (nh := 82) (nv := 82) (s := 3) (s1 := 3) (d1 := 4) (M1 := jm_M42) (As := [.inl (.ref 30), .inl (.int 1), .inl (.int 0), .inl (.int 3)]) (rest := []) jm_ok34 rfl rfl (by decide) (by decide +kernel) (k3tn_T F X1 X2 g0.1 1 0 3 (by decide) (by decide)) (fun F3 F' x hR p1 p2 p3 => ?_)
  have hR : tnR 0 3 x F F' := hR
  obtain ⟨r1, r2⟩ := tnR_dst hR p1
  rw [kg_eq (g0.2 39 (by decide) (by decide)), pg_eq (g0.2 40 (by decide) (by decide)), vg_eq (g0.2 41 (by decide) (by decide))] at r2
  have r2 := r2 w hw
  have g3 : gc WN F0 F3 := g0.trans r1 (by decide)
  have hx : sy_i F3 82 = x := zz_i p3
  rw [← hx] at r2
  obtain ⟨y0, y1⟩ := x01' r2
  have i38 := r1.i (k := 38) (by decide) (by decide)
  refine k3pb_50 (by decide) F3 X1 X2 g3.1 ?_ ?_
  · intro q F4 hb g e33 e34 e36 e37 e38 eFR eBU a39
    refine ⟨_, F4, rfl, rfl, (g3.mono (by decide)).trans (gc_mk (W := k3pb_W) hb g (by decide)) (fun _ q => q), Or.inl ⟨rfl, ?_⟩⟩
    rw [hr, n2, y0 q, e34, tg_eq e33]
    rfl
  · intro q F4 hb g e33 e34 e36 e37 e38 eFR eBU a39
    obtain ⟨⟨t, w'⟩, ht, hJ1, hJ2⟩ := y1 q
    have hJ1 : tg F3 = t := hJ1
    subst hJ1
    exact k3pb_5 X1 X2 F0 r0 fr bu nm h0 hlt F4 (g3.trans (gc_mk (W := WN) hb g (by decide)) (fun _ q => q)) w' (wc_eq hJ2 e36 e37) (ncr_eq hn ((g 43 (by decide) (by decide)).trans (r1.2 43 (by decide) (by decide))) (by omega)) (by omega) (by rw [hr, n2, ht, tg_eq e33]; rfl)
theorem k3pb_3 (h0 : (sy_i F0 3).toInt = fr ∧ (sy_i F0 4).toInt = bu ∧ (sy_i F0 38).toInt ≤ fr + bu) (hlt : (sy_i F0 4).toInt < 4) (F : Nat → sy_d) (g0 : gc WN F0 F) (w : sE) (hw : wc (pg F0) w F) (hn : ncr (nm ++ [ng F0 (tg F0 + 1)]) F) (h38 : (sy_i F 38).toInt ≤ fr + bu + 1) (hr : r0 = n1 (kg F0) (vg F0) (0, 3) (0, 999) (fun q => .inr (q.1, fr, bu + 1, nm ++ [ng F0 (tg F0 + 1)], q.2)) (0, 9) (tg F, w)) :
    hd_W Ls xs 5 jm_M34 (fun v G => ∃ (x : Int32) (F' : Nat → sy_d), v = some (.int x) ∧ G = sy_dh F' X1 X2 (iv_H 3) ∧ gc k3pb_W F0 F' ∧ ac r0 (rcl (pg F0) 3 4) x F') (37, sy_dL F [some (.inl (.ref 30)), none], sy_dS F [.inl (.int 9), .inl (.int 0), .inl (.int 0), .inl (.ref 30)], sy_dh F X1 X2 (iv_H 3), 0, 0) := by
  refine hd_calI (R := fun x F' => tnR ((0 : Int32)).toInt ((9 : Int32)).toInt x F F') (nh := 82) (nv := 82) (s := 3) (s1 := 3) (d1 := 4) (M1 := jm_M42) (As := [.inl (.ref 30), .inl (.int 0), .inl (.int 0), .inl (.int 9)]) (rest := []) jm_ok34 rfl rfl (by decide) (by decide +kernel) (k3tn_T F X1 X2 g0.1 0 0 9 (by decide) (by decide)) (fun F3 F' x hR p1 p2 p3 => ?_)
  have hR : tnR 0 9 x F F' := hR
  obtain ⟨r1, r2⟩ := tnR_dst hR p1
  rw [kg_eq (g0.2 39 (by decide) (by decide)), pg_eq (g0.2 40 (by decide) (by decide)), vg_eq (g0.2 41 (by decide) (by decide))] at r2
  have r2 := r2 w hw
  have g3 : gc WN F0 F3 := g0.trans r1 (by decide)
  have hx : sy_i F3 82 = x := zz_i p3
  rw [← hx] at r2
  obtain ⟨y0, y1⟩ := x01' r2
  have i38 := r1.i (k := 38) (by decide) (by decide)
  refine k3pb_40 (by decide) F3 X1 X2 g3.1 ?_ ?_
  · intro q F4 hb g e33 e34 e36 e37 e38 eFR eBU a39
    refine ⟨_, F4, rfl, rfl, (g3.mono (by decide)).trans (gc_mk (W := k3pb_W) hb g (by decide)) (fun _ q => q), Or.inl ⟨rfl, ?_⟩⟩
    rw [hr, n1, y0 q, e34, tg_eq e33]
    rfl
  · intro q F4 hb g e33 e34 e36 e37 e38 eFR eBU a39
    obtain ⟨⟨t, w'⟩, ht, hJ1, hJ2⟩ := y1 q
    have hJ1 : tg F3 = t := hJ1
    subst hJ1
    exact k3pb_4 X1 X2 F0 r0 fr bu nm h0 hlt F4 (g3.trans (gc_mk (W := WN) hb g (by decide)) (fun _ q => q)) w' (wc_eq hJ2 e36 e37) (ncr_eq hn ((g 43 (by decide) (by decide)).trans (r1.2 43 (by decide) (by decide))) (by omega)) (by omega) (by rw [hr, n1, ht, tg_eq e33]; rfl)
theorem k3pb_2 (h0 : (sy_i F0 3).toInt = fr ∧ (sy_i F0 4).toInt = bu ∧ (sy_i F0 38).toInt ≤ fr + bu) (hlt : (sy_i F0 4).toInt < 4) (F : Nat → sy_d) (g0 : gc WN F0 F) (w : sE) (hw : wc (pg F0) w F) (hn : ncr nm F) (h38 : (sy_i F 38).toInt ≤ fr + bu) (ht1 : tg F = tg F0 + 1) (hr : r0 = sB (sNm (kg F0) (ng F0) (tg F, nm, w)) (n1 (kg F0) (vg F0) (0, 3) (0, 999) (fun q => .inr (q.1, fr, bu + 1, nm ++ [ng F0 (tg F0 + 1)], q.2)) (0, 9))) :
    hd_W Ls xs 5 jm_M34 (fun v G => ∃ (x : Int32) (F' : Nat → sy_d), v = some (.int x) ∧ G = sy_dh F' X1 X2 (iv_H 3) ∧ gc k3pb_W F0 F' ∧ ac r0 (rcl (pg F0) 3 4) x F') (26, sy_dL F [some (.inl (.ref 30)), none], sy_dS F [.inl (.ref 30)], sy_dh F X1 X2 (iv_H 3), 0, 0) := by
  have f1 := g0.i (k := 3) (by decide) (by decide)
  have f2 := g0.i (k := 4) (by decide) (by decide)
  have d1 := nz_bx g0.1 (k := 3) (lo := 0) (hi := 7) rfl
  have d2 := nz_bx g0.1 (k := 4) (lo := 0) (hi := 4) rfl
  refine hd_calI (R := fun x F' => tmR x F F') (nh := 82) (nv := 82) (s := 3) (s1 := 3) (d1 := 4) (M1 := jm_M41) (As := [.inl (.ref 30)]) (rest := []) jm_ok34 rfl rfl (by decide) (by decide +kernel) (k3tm_T F X1 X2 g0.1 (by omega)) (fun F3 F' x hR p1 p2 p3 => ?_)
  obtain ⟨r1, rl, r2⟩ := tmR_dst hR p1
  rw [kg_eq (g0.2 39 (by decide) (by decide)), pg_eq (g0.2 40 (by decide) (by decide)), ng_eq (g0.2 41 (by decide) (by decide))] at r2
  have r2 := r2 w nm hw hn
  have g3 : gc WN F0 F3 := g0.trans r1 (by decide)
  have hx : sy_i F3 82 = x := zz_i p3
  rw [← hx] at r2
  obtain ⟨y0, y1⟩ := x01' r2
  refine k3pb_29 (by decide) F3 X1 X2 g3.1 ?_ ?_
  · intro q F4 hb g e33 e34 e36 e37 e38 eFR eBU a39
    refine ⟨_, F4, rfl, rfl, (g3.mono (by decide)).trans (gc_mk (W := k3pb_W) hb g (by decide)) (fun _ q => q), Or.inl ⟨rfl, ?_⟩⟩
    rw [hr, y0 q, e34, tg_eq e33]
    rfl
  · intro q F4 hb g e33 e34 e36 e37 e38 eFR eBU a39
    obtain ⟨⟨t, w'⟩, ht, hJ1, hJ2, hJ3⟩ := y1 q
    have hJ1 : tg F3 = t := hJ1
    subst hJ1
    rw [ht1] at hJ3
    exact k3pb_3 X1 X2 F0 r0 fr bu nm h0 hlt F4 (g3.trans (gc_mk (W := WN) hb g (by decide)) (fun _ q => q)) w' (wc_eq hJ2 e36 e37) (ncr_eq hJ3 (g 43 (by decide) (by decide)) e38) (by omega) (by rw [hr, ht, tg_eq e33]; rfl)
end Sk3pb
theorem k3pb_T {Ls : Nat} {xs : Nat → Int32} (X1 X2 : List jm_c) (F : Nat → sy_d) (hB : iv_in F iv_B0) (hk : kg F (tg F) = 21) (x : sT) (hx : rcl (pg F) 3 4 x F) : jm_T Ls xs 5 jm_M34 [.ref 30] (sy_dh F X1 X2 (iv_H 3)) 0 0 (fun v G => ∃ (y : Int32) (F' : Nat → sy_d), v = some (.int y) ∧ G = sy_dh F' X1 X2 (iv_H 3) ∧ gc k3pb_W F F' ∧ ac (sBuyer (kg F) (vg F) (ng F) x) (rcl (pg F) 3 4) y F') := by
  obtain ⟨t, fr, bu, nm, w⟩ := x
  obtain ⟨x1, x2, x3, x4, x5, x6⟩ := hx
  have x1 : tg F = t := x1
  subst x1
  have x2 : (sy_i F 3).toInt = fr := x2
  have x3 : (sy_i F 4).toInt = bu := x3
  have x6 : (sy_i F 38).toInt ≤ fr + bu := x6
  have c33 := nz_bx hB (k := 33) (lo := 0) (hi := 400) rfl
  have dF := nz_bx hB (k := 4) (lo := 0) (hi := 4) rfl
  refine hd_T (As := [.inl (.ref 30)]) jm_ok34 (by decide) (k3pb_0 (by decide) F X1 X2 hB ?_ ?_)
  · intro q F1 hb g e33 e34 e36 e37 e38 eFR eBU a39
    have g0 : ∀ q, q < 82 → F1 q = F q := fun q hq => g q hq (by simp)
    refine hd_calI (R := fun x F' => taR ((1 : Int32)).toInt x F1 F') (nh := 82) (nv := 82) (s := 3) (s1 := 3) (d1 := 3) (M1 := jm_M43) (As := [.inl (.ref 30), .inl (.int 1)]) (rest := []) jm_ok34 rfl rfl (by decide) (by decide +kernel) (k3ta_T F1 X1 X2 hb 1) (fun F3 F' x hR p1 p2 p3 => ?_)
    have hR : taR 1 x F1 F' := hR
    obtain ⟨r1, r2⟩ := taR_src (taR_dst hR p1) g0
    have r2 := r2 (km_in (j := 21) (fun c => km_w (by decide) (by decide)) (by decide))
    rw [show km 1 = 21 by decide, show sM (kg F) 21 (tg F) = sG (tg F) by unfold sM; rw [if_pos hk]] at r2
    have g3 : gc WN F F3 := r1.mono (by decide)
    have hx : sy_i F3 82 = x := zz_i p3
    rw [← hx] at r2
    obtain ⟨y0, y1⟩ := x01' r2
    have i36 := r1.i (k := 36) (by decide) (by decide)
    have i37 := r1.i (k := 37) (by decide) (by decide)
    have i38 := r1.i (k := 38) (by decide) (by decide)
    have hS : sBuyer (kg F) (vg F) (ng F) (tg F, fr, bu, nm, w) = sB (sG (tg F)) fun t => sB (sTell (kg F) (vg F) (ng F) (0, 9) (0, 3) (0, 999) (t, nm, w)) fun q => .inr (q.1, fr, bu + 1, nm ++ [ng F t], q.2) := sBu_n (by omega)
    refine k3pb_22 (by decide) F3 X1 X2 g3.1 ?_ ?_
    · intro q F4 hb g e33 e34 e36 e37 e38 eFR eBU a39
      refine ⟨_, F4, rfl, rfl, (g3.mono (by decide)).trans (gc_mk (W := k3pb_W) hb g (by decide)) (fun _ q => q), Or.inl ⟨rfl, ?_⟩⟩
      rw [hS, y0 q, e34, tg_eq e33]
      rfl
    · intro q F4 hb g d33 d34 d36 d37 d38 dFR dBU b39
      obtain ⟨t, ht, hJ⟩ := y1 q
      have h4 : tg F < 400 := by
        by_cases z : tg F = 400
        · rw [sG_4 z] at ht
          cases ht
        · unfold tg at z ⊢
          omega
      rw [sG_ok h4] at ht
      have et : t = tg F + 1 := (Sum.inr.inj ht).symm
      refine k3pb_2 X1 X2 F _ fr bu nm ⟨x2, x3, x6⟩ (by omega) F4 (g3.trans (gc_mk (W := WN) hb g (by decide)) (fun _ q => q)) w (wc_eq x5 (by omega) (by omega)) (ncr_eq x4 ((g 43 (by decide) (by decide)).trans (r1.2 43 (by decide) (by decide))) (by omega)) (by omega) (by rw [tg_eq d33, hJ, et]) ?_
      rw [hS, sG_ok h4, tg_eq d33, hJ, et]
      exact n_eq (kg F) (vg F) (0, 3) (0, 999) (fun q => .inr (q.1, fr, bu + 1, nm ++ [ng F (tg F + 1)], q.2)) (ng F) (0, 9) (tg F + 1, nm, w)
  · intro q F1 hb g e33 e34 e36 e37 e38 eFR eBU a39
    exact ⟨_, F1, rfl, rfl, gc_mk hb g (by decide), Or.inl ⟨rfl, by rw [sBu_4 (by omega), e34, tg_eq e33]⟩⟩
