/-! ===== feed: what it answers ===== -/
theorem hd_incb {X : Int32} {n : Int} (h : X.toInt = n) (h0 : 0 ≤ n) (h1 : n ≤ 1000000) : (X + (1 : Int32)).toInt = n + 1 := by rw [hd_inc1 (by rw [h]; exact h0) (by rw [h]; exact h1), h]
theorem ap_f {t a b c d : Int32} (h0 : 0 ≤ t.toInt) (h1 : t.toInt ≤ 1996) (ha : a.toInt = t.toInt + 1) (hb : b.toInt = t.toInt + 1 + 1) (hc : c.toInt = t.toInt + 1 + 1 + 1) (hd : d.toInt = t.toInt + 1 + 1 + 1 + 1) : t.toInt < 2000 ∧ (0 ≤ t.toInt ∧ t.toInt < 2000) ∧ a.toInt < 2000 ∧ (0 ≤ a.toInt ∧ a.toInt < 2000) ∧ b.toInt < 2000 ∧ (0 ≤ b.toInt ∧ b.toInt < 2000) ∧ c.toInt < 2000 ∧ (0 ≤ c.toInt ∧ c.toInt < 2000) ∧ d.toInt = t.toInt + 4 ∧ (0 ≤ d.toInt ∧ d.toInt ≤ 2000) := by omega
theorem ap_g {t : Int32} (h0 : 0 ≤ t.toInt) (h1 : t.toInt ≤ 1996) : t.toInt < 2000 ∧ (0 ≤ t.toInt ∧ t.toInt < 2000) ∧ (t + (1 : Int32)).toInt < 2000 ∧ (0 ≤ (t + (1 : Int32)).toInt ∧ (t + (1 : Int32)).toInt < 2000) ∧ (t + (1 : Int32) + (1 : Int32)).toInt < 2000 ∧ (0 ≤ (t + (1 : Int32) + (1 : Int32)).toInt ∧ (t + (1 : Int32) + (1 : Int32)).toInt < 2000) ∧ (t + (1 : Int32) + (1 : Int32) + (1 : Int32)).toInt < 2000 ∧ (0 ≤ (t + (1 : Int32) + (1 : Int32) + (1 : Int32)).toInt ∧ (t + (1 : Int32) + (1 : Int32) + (1 : Int32)).toInt < 2000) ∧ (t + (1 : Int32) + (1 : Int32) + (1 : Int32) + (1 : Int32)).toInt = t.toInt + 4 ∧ (0 ≤ (t + (1 : Int32) + (1 : Int32) + (1 : Int32) + (1 : Int32)).toInt ∧ (t + (1 : Int32) + (1 : Int32) + (1 : Int32) + (1 : Int32)).toInt ≤ 2000) :=
  ap_f h0 h1 (hd_incb rfl h0 (by omega)) (hd_incb (hd_incb rfl h0 (by omega)) (by omega) (by omega)) (hd_incb (hd_incb (hd_incb rfl h0 (by omega)) (by omega) (by omega)) (by omega) (by omega)) (hd_incb (hd_incb (hd_incb (hd_incb rfl h0 (by omega)) (by omega) (by omega)) (by omega) (by omega)) (by omega) (by omega))
theorem tp_upd {l : List Int32} {i : Nat} {x : Int32} (hl : ∀ j, -128 ≤ (l.getD j 0).toInt ∧ (l.getD j 0).toInt ≤ 127) : ∀ j, -128 ≤ ((jm_upd l i x.toInt8.toInt32).getD j 0).toInt ∧ ((jm_upd l i x.toInt8.toInt32).getD j 0).toInt ≤ 127 := by
  intro j
  rw [jm_upd_at]
  split
  · exact iv_byte x
  · exact hl j
def fd_t (t : Int32) : Int32 := if 2000 < t.toInt + 20 then t else t + 20
def fd_v (t : Int32) : Int32 := if 2000 < t.toInt + 20 then -1 else t + 20
theorem fd_20 {t : Int32} (h0 : 0 ≤ t.toInt) (h1 : t.toInt ≤ 2000) : (t + (20 : Int32)).toInt = t.toInt + 20 := by
  have e : (20 : Int32).toInt = 20 := by decide
  rw [Jvm.Kit.i32_add (by rw [e]; omega) (by rw [e]; omega), e]
theorem ap0_T {Ls : Nat} {xs : Nat → Int32} (F : Nat → sy_d) (X1 X2 : List jm_c) (hB : iv_in F iv_B0) (hJ : jx_ok F) {x : sy_v} {a : Int32} (hx : sy_dv F x = .int a) (h1 : (sy_i F 0).toInt ≤ 1996) : jm_T Ls xs 1 jm_M116 ([.inl (.ref 8), x].map (sy_dv F)) (sy_dh F X1 X2 (iv_H 0)) 0 0 (fun v G => ∃ F' : Nat → sy_d, v = none ∧ G = sy_dh F' X1 X2 (iv_H 0) ∧ (iv_in F' iv_B0 ∧ jx_ok F' ∧ (sy_i F' 0).toInt = (sy_i F 0).toInt + 4)) := by
  obtain ⟨F0, hF0⟩ : ∃ F0 : Nat → sy_d, F0 = fun j => if j = 82 then .inl (.int a) else F j := ⟨_, rfl⟩
  have k0 : ∀ j, j < 82 → F0 j = F j := fun j hj => by
    rw [hF0]
    dsimp only
    rw [if_neg (by omega)]
  have k1 : F0 82 = .inl (.int a) := by rw [hF0]; rfl
  have hB0 : iv_in F0 iv_B0 := iv_in_eq hB (fun j hj => k0 j hj)
  have eA : ([.inl (.ref 8), x] : List sy_v).map (sy_dv F) = ([.inl (.ref 8), .inr (.inl 82)] : List sy_v).map (sy_dv F0) := by
    show [Value.ref 8, sy_dv F x] = [Value.ref 8, .int (sy_i F0 82)]
    rw [hx, zz_i k1]
  have eH : sy_dh F X1 X2 (iv_H 0) = sy_dh F0 X1 X2 (iv_H 0) := by
    have g1 : sy_gw 82 (iv_H 0).1 = true := by decide +kernel
    have g2 : sy_gw 82 (iv_H 0).2 = true := by decide +kernel
    simp only [sy_dh, sy_gw_ok g1 k0, sy_gw_ok g2 k0]
  have iK : sy_i F0 0 = sy_i F 0 := by unfold sy_i; rw [k0 0 (by decide)]
  obtain ⟨tp, htp, t1, t2⟩ := iv_h0 (hB0 0 (0, 0, 2000) rfl)
  obtain ⟨tl, htl, tb⟩ := iv_h2 (hB0 2 (2, -128, 127) rfl)
  rw [← zz_i htp] at t1
  rw [← zz_ai htl] at tb
  rw [← iK] at h1
  have f := ap_g t1 h1
  rw [eA, eH]
  refine hd_T (As := [.inl (.ref 8), .inr (.inl 82)]) jm_ok116 (by decide) (ap0_0_4 (by decide) F0 X1 X2 hB0 f.1 f.2.1 f.2.2.1 f.2.2.2.1 f.2.2.2.2.1 f.2.2.2.2.2.1 f.2.2.2.2.2.2.1 f.2.2.2.2.2.2.2.1 (fun F1 g g1 g2 => ⟨F1, rfl, rfl, hd_in1 hB0 (fun j t hj => ?_), jx_ok_eq ((g 39 (by decide) (by decide)).trans (k0 39 (by decide))) ((g 41 (by decide) (by decide)).trans (k0 41 (by decide))) hJ, ?_⟩))
  · by_cases h : j = 0
    · subst h
      right
      have ht : t = (0, 0, 2000) := (Option.some.inj hj).symm
      rw [g1, ht]
      exact ⟨rfl, f.2.2.2.2.2.2.2.2.2.1, f.2.2.2.2.2.2.2.2.2.2⟩
    · by_cases h' : j = 2
      · subst h'
        right
        have ht : t = (2, -128, 127) := (Option.some.inj hj).symm
        rw [g2, ht]
        exact ⟨rfl, tp_upd (tp_upd (tp_upd (tp_upd tb)))⟩
      · exact Or.inl (g j (List.getElem?_eq_some_iff.mp hj).1 ⟨h, h'⟩)
  · rw [zz_i g1, ← iK]
    exact f.2.2.2.2.2.2.2.2.1
theorem fd0_T {Ls : Nat} {xs : Nat → Int32} (F : Nat → sy_d) (X1 X2 : List jm_c) (hB : iv_in F iv_B0) (hJ : jx_ok F) (a b c d e : Int32) : jm_T Ls xs 2 jm_M81 [.ref 8, .int a, .int b, .int c, .int d, .int e] (sy_dh F X1 X2 (iv_H 0)) 0 0 (fun v G => ∃ F' : Nat → sy_d, v = some (.int (fd_v (sy_i F 0))) ∧ G = sy_dh F' X1 X2 (iv_H 0) ∧ iv_in F' iv_B0 ∧ jx_ok F' ∧ sy_i F' 0 = fd_t (sy_i F 0)) := by
  obtain ⟨F0, hF0⟩ : ∃ F0 : Nat → sy_d, F0 = fun j => if j = 82 then .inl (.int a) else if j = 83 then .inl (.int b) else if j = 84 then .inl (.int c) else if j = 85 then .inl (.int d) else if j = 86 then .inl (.int e) else F j := ⟨_, rfl⟩
  have k0 : ∀ j, j < 82 → F0 j = F j := fun j hj => by
    rw [hF0]
    dsimp only
    rw [if_neg (by omega), if_neg (by omega), if_neg (by omega), if_neg (by omega), if_neg (by omega)]
  have hB0 : iv_in F0 iv_B0 := iv_in_eq hB (fun j hj => k0 j hj)
  have hJ0 : jx_ok F0 := jx_ok_eq (k0 39 (by decide)) (k0 41 (by decide)) hJ
  have eA : [Value.ref 8, .int a, .int b, .int c, .int d, .int e] = ([.inl (.ref 8), .inr (.inl 82), .inr (.inl 83), .inr (.inl 84), .inr (.inl 85), .inr (.inl 86)] : List sy_v).map (sy_dv F0) := by
    rw [hF0]
    rfl
  have eH : sy_dh F X1 X2 (iv_H 0) = sy_dh F0 X1 X2 (iv_H 0) := by
    have g1 : sy_gw 82 (iv_H 0).1 = true := by decide +kernel
    have g2 : sy_gw 82 (iv_H 0).2 = true := by decide +kernel
    simp only [sy_dh, sy_gw_ok g1 k0, sy_gw_ok g2 k0]
  have iK : sy_i F0 0 = sy_i F 0 := by unfold sy_i; rw [k0 0 (by decide)]
  obtain ⟨tp, htp, t1, t2⟩ := iv_h0 (hB0 0 (0, 0, 2000) rfl)
  rw [← zz_i htp] at t1 t2
  have e20 := fd_20 t1 t2
  rw [eA, eH]
  refine hd_T (As := [.inl (.ref 8), .inr (.inl 82), .inr (.inl 83), .inr (.inl 84), .inr (.inl 85), .inr (.inl 86)]) jm_ok81 (by decide) ?_
  by_cases hc : 2000 < (sy_i F0 0).toInt + 20
  · refine fd0_0_1 (by decide) F0 X1 X2 hB0 (by rw [e20]; exact hc) (fun F1 g => ⟨F1, ?_, rfl, hd_in1 hB0 (fun j t hj => Or.inl (g j (List.getElem?_eq_some_iff.mp hj).1 trivial)), jx_ok_eq (g 39 (by decide) trivial) (g 41 (by decide) trivial) hJ0, ?_⟩)
    · unfold fd_v; rw [← iK, if_pos hc]
    · unfold fd_t; rw [← iK, if_pos hc]; unfold sy_i; rw [g 0 (by decide) trivial]
  · refine fd0_0_0 (by decide) F0 X1 X2 hB0 (by rw [e20]; exact Int.not_lt.mp hc) (fun F1 g _ _ _ _ _ => ?_)
    have hB1 : iv_in F1 iv_B0 := hd_in1 hB0 (fun j t hj => Or.inl (g j (List.getElem?_eq_some_iff.mp hj).1 trivial))
    have hJ1 : jx_ok F1 := jx_ok_eq (g 39 (by decide) trivial) (g 41 (by decide) trivial) hJ0
    have s1 : (sy_i F1 0).toInt = (sy_i F0 0).toInt := by unfold sy_i; rw [g 0 (by decide) trivial]
    refine hd_calV (R := fun F' => iv_in F' iv_B0 ∧ jx_ok F' ∧ (sy_i F' 0).toInt = (sy_i F1 0).toInt + 4) (nh := 82) (nv := 87) (s := 0) (s1 := 0) (d1 := 1) (M1 := jm_M116) (As := [.inl (.ref 8), .inr (.inl 82)]) (rest := []) jm_ok81 rfl rfl (by decide) (by decide +kernel) (ap0_T F1 X1 X2 hB1 hJ1 rfl (by omega)) (fun G2 H2 hR p q => ?_)
    obtain ⟨u1, u2, u3⟩ := hR
    have v2 : iv_in G2 iv_B0 := hd_in1 u1 (fun j t hj => Or.inl (p j (List.getElem?_eq_some_iff.mp hj).1))
    have w2 : jx_ok G2 := jx_ok_eq (p 39 (by decide)) (p 41 (by decide))  u2
    have z2 : (sy_i G2 0).toInt = (sy_i F1 0).toInt + 4 := by rw [← u3]; unfold sy_i; rw [p 0 (by decide)]
    refine fd0_20_0 (by decide) G2 X1 X2 v2 (fun K2 m _ _ _ _ _ => ?_)
    have vk2 : iv_in K2 iv_B0 := hd_in1 v2 (fun j t hj => Or.inl (m j (List.getElem?_eq_some_iff.mp hj).1 trivial))
    have wk2 : jx_ok K2 := jx_ok_eq (m 39 (by decide) trivial) (m 41 (by decide) trivial) w2
    have zk2 : (sy_i K2 0).toInt = (sy_i G2 0).toInt := by unfold sy_i; rw [m 0 (by decide) trivial]
    refine hd_calV (R := fun F' => iv_in F' iv_B0 ∧ jx_ok F' ∧ (sy_i F' 0).toInt = (sy_i K2 0).toInt + 4) (nh := 82) (nv := 87) (s := 0) (s1 := 0) (d1 := 1) (M1 := jm_M116) (As := [.inl (.ref 8), .inr (.inl 83)]) (rest := []) jm_ok81 rfl rfl (by decide) (by decide +kernel) (ap0_T K2 X1 X2 vk2 wk2 rfl (by omega)) (fun G3 H3 hR p q => ?_)
    obtain ⟨u1, u2, u3⟩ := hR
    have v3 : iv_in G3 iv_B0 := hd_in1 u1 (fun j t hj => Or.inl (p j (List.getElem?_eq_some_iff.mp hj).1))
    have w3 : jx_ok G3 := jx_ok_eq (p 39 (by decide)) (p 41 (by decide))  u2
    have z3 : (sy_i G3 0).toInt = (sy_i K2 0).toInt + 4 := by rw [← u3]; unfold sy_i; rw [p 0 (by decide)]
    refine fd0_25_0 (by decide) G3 X1 X2 v3 (fun K3 m _ _ _ _ _ => ?_)
    have vk3 : iv_in K3 iv_B0 := hd_in1 v3 (fun j t hj => Or.inl (m j (List.getElem?_eq_some_iff.mp hj).1 trivial))
    have wk3 : jx_ok K3 := jx_ok_eq (m 39 (by decide) trivial) (m 41 (by decide) trivial) w3
    have zk3 : (sy_i K3 0).toInt = (sy_i G3 0).toInt := by unfold sy_i; rw [m 0 (by decide) trivial]
    refine hd_calV (R := fun F' => iv_in F' iv_B0 ∧ jx_ok F' ∧ (sy_i F' 0).toInt = (sy_i K3 0).toInt + 4) (nh := 82) (nv := 87) (s := 0) (s1 := 0) (d1 := 1) (M1 := jm_M116) (As := [.inl (.ref 8), .inr (.inl 84)]) (rest := []) jm_ok81 rfl rfl (by decide) (by decide +kernel) (ap0_T K3 X1 X2 vk3 wk3 rfl (by omega)) (fun G4 H4 hR p q => ?_)
    obtain ⟨u1, u2, u3⟩ := hR
    have v4 : iv_in G4 iv_B0 := hd_in1 u1 (fun j t hj => Or.inl (p j (List.getElem?_eq_some_iff.mp hj).1))
    have w4 : jx_ok G4 := jx_ok_eq (p 39 (by decide)) (p 41 (by decide))  u2
    have z4 : (sy_i G4 0).toInt = (sy_i K3 0).toInt + 4 := by rw [← u3]; unfold sy_i; rw [p 0 (by decide)]
    refine fd0_30_0 (by decide) G4 X1 X2 v4 (fun K4 m _ _ _ _ _ => ?_)
    have vk4 : iv_in K4 iv_B0 := hd_in1 v4 (fun j t hj => Or.inl (m j (List.getElem?_eq_some_iff.mp hj).1 trivial))
    have wk4 : jx_ok K4 := jx_ok_eq (m 39 (by decide) trivial) (m 41 (by decide) trivial) w4
    have zk4 : (sy_i K4 0).toInt = (sy_i G4 0).toInt := by unfold sy_i; rw [m 0 (by decide) trivial]
    refine hd_calV (R := fun F' => iv_in F' iv_B0 ∧ jx_ok F' ∧ (sy_i F' 0).toInt = (sy_i K4 0).toInt + 4) (nh := 82) (nv := 87) (s := 0) (s1 := 0) (d1 := 1) (M1 := jm_M116) (As := [.inl (.ref 8), .inr (.inl 85)]) (rest := []) jm_ok81 rfl rfl (by decide) (by decide +kernel) (ap0_T K4 X1 X2 vk4 wk4 rfl (by omega)) (fun G5 H5 hR p q => ?_)
    obtain ⟨u1, u2, u3⟩ := hR
    have v5 : iv_in G5 iv_B0 := hd_in1 u1 (fun j t hj => Or.inl (p j (List.getElem?_eq_some_iff.mp hj).1))
    have w5 : jx_ok G5 := jx_ok_eq (p 39 (by decide)) (p 41 (by decide))  u2
    have z5 : (sy_i G5 0).toInt = (sy_i K4 0).toInt + 4 := by rw [← u3]; unfold sy_i; rw [p 0 (by decide)]
    refine fd0_36_0 (by decide) G5 X1 X2 v5 (fun K5 m _ _ _ _ _ => ?_)
    have vk5 : iv_in K5 iv_B0 := hd_in1 v5 (fun j t hj => Or.inl (m j (List.getElem?_eq_some_iff.mp hj).1 trivial))
    have wk5 : jx_ok K5 := jx_ok_eq (m 39 (by decide) trivial) (m 41 (by decide) trivial) w5
    have zk5 : (sy_i K5 0).toInt = (sy_i G5 0).toInt := by unfold sy_i; rw [m 0 (by decide) trivial]
    refine hd_calV (R := fun F' => iv_in F' iv_B0 ∧ jx_ok F' ∧ (sy_i F' 0).toInt = (sy_i K5 0).toInt + 4) (nh := 82) (nv := 87) (s := 0) (s1 := 0) (d1 := 1) (M1 := jm_M116) (As := [.inl (.ref 8), .inr (.inl 86)]) (rest := []) jm_ok81 rfl rfl (by decide) (by decide +kernel) (ap0_T K5 X1 X2 vk5 wk5 rfl (by omega)) (fun G6 H6 hR p q => ?_)
    obtain ⟨u1, u2, u3⟩ := hR
    have v6 : iv_in G6 iv_B0 := hd_in1 u1 (fun j t hj => Or.inl (p j (List.getElem?_eq_some_iff.mp hj).1))
    have w6 : jx_ok G6 := jx_ok_eq (p 39 (by decide)) (p 41 (by decide))  u2
    have z6 : (sy_i G6 0).toInt = (sy_i K5 0).toInt + 4 := by rw [← u3]; unfold sy_i; rw [p 0 (by decide)]
    refine fd0_42_0 (by decide) G6 X1 X2 v6 (fun L m => ?_)
    have zz : sy_i L 0 = sy_i F0 0 + 20 := by
      refine Int32.toInt_inj.mp ?_
      rw [e20]
      have : (sy_i L 0).toInt = (sy_i G6 0).toInt := by unfold sy_i; rw [m 0 (by decide) trivial]
      omega
    have zg : sy_i G6 0 = sy_i L 0 := by unfold sy_i; rw [m 0 (by decide) trivial]
    refine ⟨L, ?_, rfl, hd_in1 v6 (fun j t hj => Or.inl (m j (List.getElem?_eq_some_iff.mp hj).1 trivial)), jx_ok_eq (m 39 (by decide) trivial) (m 41 (by decide) trivial) w6, ?_⟩
    · unfold fd_v; rw [← iK, if_neg hc, zg, zz]
    · unfold fd_t; rw [← iK, if_neg hc, zz]
theorem ap1_T {Ls : Nat} {xs : Nat → Int32} (F : Nat → sy_d) (X1 X2 : List jm_c) (hB : iv_in F iv_B0) (hJ : jx_ok F) {x : sy_v} {a : Int32} (hx : sy_dv F x = .int a) (h1 : (sy_i F 0).toInt ≤ 1996) : jm_T Ls xs 1 jm_M116 ([.inl (.ref 8), x].map (sy_dv F)) (sy_dh F X1 X2 (iv_H 1)) 0 0 (fun v G => ∃ F' : Nat → sy_d, v = none ∧ G = sy_dh F' X1 X2 (iv_H 1) ∧ (iv_in F' iv_B0 ∧ jx_ok F' ∧ (sy_i F' 0).toInt = (sy_i F 0).toInt + 4)) := by
  obtain ⟨F0, hF0⟩ : ∃ F0 : Nat → sy_d, F0 = fun j => if j = 82 then .inl (.int a) else F j := ⟨_, rfl⟩
  have k0 : ∀ j, j < 82 → F0 j = F j := fun j hj => by
    rw [hF0]
    dsimp only
    rw [if_neg (by omega)]
  have k1 : F0 82 = .inl (.int a) := by rw [hF0]; rfl
  have hB0 : iv_in F0 iv_B0 := iv_in_eq hB (fun j hj => k0 j hj)
  have eA : ([.inl (.ref 8), x] : List sy_v).map (sy_dv F) = ([.inl (.ref 8), .inr (.inl 82)] : List sy_v).map (sy_dv F0) := by
    show [Value.ref 8, sy_dv F x] = [Value.ref 8, .int (sy_i F0 82)]
    rw [hx, zz_i k1]
  have eH : sy_dh F X1 X2 (iv_H 1) = sy_dh F0 X1 X2 (iv_H 1) := by
    have g1 : sy_gw 82 (iv_H 1).1 = true := by decide +kernel
    have g2 : sy_gw 82 (iv_H 1).2 = true := by decide +kernel
    simp only [sy_dh, sy_gw_ok g1 k0, sy_gw_ok g2 k0]
  have iK : sy_i F0 0 = sy_i F 0 := by unfold sy_i; rw [k0 0 (by decide)]
  obtain ⟨tp, htp, t1, t2⟩ := iv_h0 (hB0 0 (0, 0, 2000) rfl)
  obtain ⟨tl, htl, tb⟩ := iv_h2 (hB0 2 (2, -128, 127) rfl)
  rw [← zz_i htp] at t1
  rw [← zz_ai htl] at tb
  rw [← iK] at h1
  have f := ap_g t1 h1
  rw [eA, eH]
  refine hd_T (As := [.inl (.ref 8), .inr (.inl 82)]) jm_ok116 (by decide) (ap1_0_4 (by decide) F0 X1 X2 hB0 f.1 f.2.1 f.2.2.1 f.2.2.2.1 f.2.2.2.2.1 f.2.2.2.2.2.1 f.2.2.2.2.2.2.1 f.2.2.2.2.2.2.2.1 (fun F1 g g1 g2 => ⟨F1, rfl, rfl, hd_in1 hB0 (fun j t hj => ?_), jx_ok_eq ((g 39 (by decide) (by decide)).trans (k0 39 (by decide))) ((g 41 (by decide) (by decide)).trans (k0 41 (by decide))) hJ, ?_⟩))
  · by_cases h : j = 0
    · subst h
      right
      have ht : t = (0, 0, 2000) := (Option.some.inj hj).symm
      rw [g1, ht]
      exact ⟨rfl, f.2.2.2.2.2.2.2.2.2.1, f.2.2.2.2.2.2.2.2.2.2⟩
    · by_cases h' : j = 2
      · subst h'
        right
        have ht : t = (2, -128, 127) := (Option.some.inj hj).symm
        rw [g2, ht]
        exact ⟨rfl, tp_upd (tp_upd (tp_upd (tp_upd tb)))⟩
      · exact Or.inl (g j (List.getElem?_eq_some_iff.mp hj).1 ⟨h, h'⟩)
  · rw [zz_i g1, ← iK]
    exact f.2.2.2.2.2.2.2.2.1
theorem fd1_T {Ls : Nat} {xs : Nat → Int32} (F : Nat → sy_d) (X1 X2 : List jm_c) (hB : iv_in F iv_B0) (hJ : jx_ok F) (a b c d e : Int32) : jm_T Ls xs 2 jm_M81 [.ref 8, .int a, .int b, .int c, .int d, .int e] (sy_dh F X1 X2 (iv_H 1)) 0 0 (fun v G => ∃ F' : Nat → sy_d, v = some (.int (fd_v (sy_i F 0))) ∧ G = sy_dh F' X1 X2 (iv_H 1) ∧ iv_in F' iv_B0 ∧ jx_ok F' ∧ sy_i F' 0 = fd_t (sy_i F 0)) := by
  obtain ⟨F0, hF0⟩ : ∃ F0 : Nat → sy_d, F0 = fun j => if j = 82 then .inl (.int a) else if j = 83 then .inl (.int b) else if j = 84 then .inl (.int c) else if j = 85 then .inl (.int d) else if j = 86 then .inl (.int e) else F j := ⟨_, rfl⟩
  have k0 : ∀ j, j < 82 → F0 j = F j := fun j hj => by
    rw [hF0]
    dsimp only
    rw [if_neg (by omega), if_neg (by omega), if_neg (by omega), if_neg (by omega), if_neg (by omega)]
  have hB0 : iv_in F0 iv_B0 := iv_in_eq hB (fun j hj => k0 j hj)
  have hJ0 : jx_ok F0 := jx_ok_eq (k0 39 (by decide)) (k0 41 (by decide)) hJ
  have eA : [Value.ref 8, .int a, .int b, .int c, .int d, .int e] = ([.inl (.ref 8), .inr (.inl 82), .inr (.inl 83), .inr (.inl 84), .inr (.inl 85), .inr (.inl 86)] : List sy_v).map (sy_dv F0) := by
    rw [hF0]
    rfl
  have eH : sy_dh F X1 X2 (iv_H 1) = sy_dh F0 X1 X2 (iv_H 1) := by
    have g1 : sy_gw 82 (iv_H 1).1 = true := by decide +kernel
    have g2 : sy_gw 82 (iv_H 1).2 = true := by decide +kernel
    simp only [sy_dh, sy_gw_ok g1 k0, sy_gw_ok g2 k0]
  have iK : sy_i F0 0 = sy_i F 0 := by unfold sy_i; rw [k0 0 (by decide)]
  obtain ⟨tp, htp, t1, t2⟩ := iv_h0 (hB0 0 (0, 0, 2000) rfl)
  rw [← zz_i htp] at t1 t2
  have e20 := fd_20 t1 t2
  rw [eA, eH]
  refine hd_T (As := [.inl (.ref 8), .inr (.inl 82), .inr (.inl 83), .inr (.inl 84), .inr (.inl 85), .inr (.inl 86)]) jm_ok81 (by decide) ?_
  by_cases hc : 2000 < (sy_i F0 0).toInt + 20
  · refine fd1_0_1 (by decide) F0 X1 X2 hB0 (by rw [e20]; exact hc) (fun F1 g => ⟨F1, ?_, rfl, hd_in1 hB0 (fun j t hj => Or.inl (g j (List.getElem?_eq_some_iff.mp hj).1 trivial)), jx_ok_eq (g 39 (by decide) trivial) (g 41 (by decide) trivial) hJ0, ?_⟩)
    · unfold fd_v; rw [← iK, if_pos hc]
    · unfold fd_t; rw [← iK, if_pos hc]; unfold sy_i; rw [g 0 (by decide) trivial]
  · refine fd1_0_0 (by decide) F0 X1 X2 hB0 (by rw [e20]; exact Int.not_lt.mp hc) (fun F1 g _ _ _ _ _ => ?_)
    have hB1 : iv_in F1 iv_B0 := hd_in1 hB0 (fun j t hj => Or.inl (g j (List.getElem?_eq_some_iff.mp hj).1 trivial))
    have hJ1 : jx_ok F1 := jx_ok_eq (g 39 (by decide) trivial) (g 41 (by decide) trivial) hJ0
    have s1 : (sy_i F1 0).toInt = (sy_i F0 0).toInt := by unfold sy_i; rw [g 0 (by decide) trivial]
    refine hd_calV (R := fun F' => iv_in F' iv_B0 ∧ jx_ok F' ∧ (sy_i F' 0).toInt = (sy_i F1 0).toInt + 4) (nh := 82) (nv := 87) (s := 1) (s1 := 1) (d1 := 1) (M1 := jm_M116) (As := [.inl (.ref 8), .inr (.inl 82)]) (rest := []) jm_ok81 rfl rfl (by decide) (by decide +kernel) (ap1_T F1 X1 X2 hB1 hJ1 rfl (by omega)) (fun G2 H2 hR p q => ?_)
    obtain ⟨u1, u2, u3⟩ := hR
    have v2 : iv_in G2 iv_B0 := hd_in1 u1 (fun j t hj => Or.inl (p j (List.getElem?_eq_some_iff.mp hj).1))
    have w2 : jx_ok G2 := jx_ok_eq (p 39 (by decide)) (p 41 (by decide))  u2
    have z2 : (sy_i G2 0).toInt = (sy_i F1 0).toInt + 4 := by rw [← u3]; unfold sy_i; rw [p 0 (by decide)]
    refine fd1_20_0 (by decide) G2 X1 X2 v2 (fun K2 m _ _ _ _ _ => ?_)
    have vk2 : iv_in K2 iv_B0 := hd_in1 v2 (fun j t hj => Or.inl (m j (List.getElem?_eq_some_iff.mp hj).1 trivial))
    have wk2 : jx_ok K2 := jx_ok_eq (m 39 (by decide) trivial) (m 41 (by decide) trivial) w2
    have zk2 : (sy_i K2 0).toInt = (sy_i G2 0).toInt := by unfold sy_i; rw [m 0 (by decide) trivial]
    refine hd_calV (R := fun F' => iv_in F' iv_B0 ∧ jx_ok F' ∧ (sy_i F' 0).toInt = (sy_i K2 0).toInt + 4) (nh := 82) (nv := 87) (s := 1) (s1 := 1) (d1 := 1) (M1 := jm_M116) (As := [.inl (.ref 8), .inr (.inl 83)]) (rest := []) jm_ok81 rfl rfl (by decide) (by decide +kernel) (ap1_T K2 X1 X2 vk2 wk2 rfl (by omega)) (fun G3 H3 hR p q => ?_)
    obtain ⟨u1, u2, u3⟩ := hR
    have v3 : iv_in G3 iv_B0 := hd_in1 u1 (fun j t hj => Or.inl (p j (List.getElem?_eq_some_iff.mp hj).1))
    have w3 : jx_ok G3 := jx_ok_eq (p 39 (by decide)) (p 41 (by decide))  u2
    have z3 : (sy_i G3 0).toInt = (sy_i K2 0).toInt + 4 := by rw [← u3]; unfold sy_i; rw [p 0 (by decide)]
    refine fd1_25_0 (by decide) G3 X1 X2 v3 (fun K3 m _ _ _ _ _ => ?_)
    have vk3 : iv_in K3 iv_B0 := hd_in1 v3 (fun j t hj => Or.inl (m j (List.getElem?_eq_some_iff.mp hj).1 trivial))
    have wk3 : jx_ok K3 := jx_ok_eq (m 39 (by decide) trivial) (m 41 (by decide) trivial) w3
    have zk3 : (sy_i K3 0).toInt = (sy_i G3 0).toInt := by unfold sy_i; rw [m 0 (by decide) trivial]
    refine hd_calV (R := fun F' => iv_in F' iv_B0 ∧ jx_ok F' ∧ (sy_i F' 0).toInt = (sy_i K3 0).toInt + 4) (nh := 82) (nv := 87) (s := 1) (s1 := 1) (d1 := 1) (M1 := jm_M116) (As := [.inl (.ref 8), .inr (.inl 84)]) (rest := []) jm_ok81 rfl rfl (by decide) (by decide +kernel) (ap1_T K3 X1 X2 vk3 wk3 rfl (by omega)) (fun G4 H4 hR p q => ?_)
    obtain ⟨u1, u2, u3⟩ := hR
    have v4 : iv_in G4 iv_B0 := hd_in1 u1 (fun j t hj => Or.inl (p j (List.getElem?_eq_some_iff.mp hj).1))
    have w4 : jx_ok G4 := jx_ok_eq (p 39 (by decide)) (p 41 (by decide))  u2
    have z4 : (sy_i G4 0).toInt = (sy_i K3 0).toInt + 4 := by rw [← u3]; unfold sy_i; rw [p 0 (by decide)]
    refine fd1_30_0 (by decide) G4 X1 X2 v4 (fun K4 m _ _ _ _ _ => ?_)
    have vk4 : iv_in K4 iv_B0 := hd_in1 v4 (fun j t hj => Or.inl (m j (List.getElem?_eq_some_iff.mp hj).1 trivial))
    have wk4 : jx_ok K4 := jx_ok_eq (m 39 (by decide) trivial) (m 41 (by decide) trivial) w4
    have zk4 : (sy_i K4 0).toInt = (sy_i G4 0).toInt := by unfold sy_i; rw [m 0 (by decide) trivial]
    refine hd_calV (R := fun F' => iv_in F' iv_B0 ∧ jx_ok F' ∧ (sy_i F' 0).toInt = (sy_i K4 0).toInt + 4) (nh := 82) (nv := 87) (s := 1) (s1 := 1) (d1 := 1) (M1 := jm_M116) (As := [.inl (.ref 8), .inr (.inl 85)]) (rest := []) jm_ok81 rfl rfl (by decide) (by decide +kernel) (ap1_T K4 X1 X2 vk4 wk4 rfl (by omega)) (fun G5 H5 hR p q => ?_)
    obtain ⟨u1, u2, u3⟩ := hR
    have v5 : iv_in G5 iv_B0 := hd_in1 u1 (fun j t hj => Or.inl (p j (List.getElem?_eq_some_iff.mp hj).1))
    have w5 : jx_ok G5 := jx_ok_eq (p 39 (by decide)) (p 41 (by decide))  u2
    have z5 : (sy_i G5 0).toInt = (sy_i K4 0).toInt + 4 := by rw [← u3]; unfold sy_i; rw [p 0 (by decide)]
    refine fd1_36_0 (by decide) G5 X1 X2 v5 (fun K5 m _ _ _ _ _ => ?_)
    have vk5 : iv_in K5 iv_B0 := hd_in1 v5 (fun j t hj => Or.inl (m j (List.getElem?_eq_some_iff.mp hj).1 trivial))
    have wk5 : jx_ok K5 := jx_ok_eq (m 39 (by decide) trivial) (m 41 (by decide) trivial) w5
    have zk5 : (sy_i K5 0).toInt = (sy_i G5 0).toInt := by unfold sy_i; rw [m 0 (by decide) trivial]
    refine hd_calV (R := fun F' => iv_in F' iv_B0 ∧ jx_ok F' ∧ (sy_i F' 0).toInt = (sy_i K5 0).toInt + 4) (nh := 82) (nv := 87) (s := 1) (s1 := 1) (d1 := 1) (M1 := jm_M116) (As := [.inl (.ref 8), .inr (.inl 86)]) (rest := []) jm_ok81 rfl rfl (by decide) (by decide +kernel) (ap1_T K5 X1 X2 vk5 wk5 rfl (by omega)) (fun G6 H6 hR p q => ?_)
    obtain ⟨u1, u2, u3⟩ := hR
    have v6 : iv_in G6 iv_B0 := hd_in1 u1 (fun j t hj => Or.inl (p j (List.getElem?_eq_some_iff.mp hj).1))
    have w6 : jx_ok G6 := jx_ok_eq (p 39 (by decide)) (p 41 (by decide))  u2
    have z6 : (sy_i G6 0).toInt = (sy_i K5 0).toInt + 4 := by rw [← u3]; unfold sy_i; rw [p 0 (by decide)]
    refine fd1_42_0 (by decide) G6 X1 X2 v6 (fun L m => ?_)
    have zz : sy_i L 0 = sy_i F0 0 + 20 := by
      refine Int32.toInt_inj.mp ?_
      rw [e20]
      have : (sy_i L 0).toInt = (sy_i G6 0).toInt := by unfold sy_i; rw [m 0 (by decide) trivial]
      omega
    have zg : sy_i G6 0 = sy_i L 0 := by unfold sy_i; rw [m 0 (by decide) trivial]
    refine ⟨L, ?_, rfl, hd_in1 v6 (fun j t hj => Or.inl (m j (List.getElem?_eq_some_iff.mp hj).1 trivial)), jx_ok_eq (m 39 (by decide) trivial) (m 41 (by decide) trivial) w6, ?_⟩
    · unfold fd_v; rw [← iK, if_neg hc, zg, zz]
    · unfold fd_t; rw [← iK, if_neg hc, zz]
theorem ap2_T {Ls : Nat} {xs : Nat → Int32} (F : Nat → sy_d) (X1 X2 : List jm_c) (hB : iv_in F iv_B0) (hJ : jx_ok F) {x : sy_v} {a : Int32} (hx : sy_dv F x = .int a) (h1 : (sy_i F 0).toInt ≤ 1996) : jm_T Ls xs 1 jm_M116 ([.inl (.ref 8), x].map (sy_dv F)) (sy_dh F X1 X2 (iv_H 2)) 0 0 (fun v G => ∃ F' : Nat → sy_d, v = none ∧ G = sy_dh F' X1 X2 (iv_H 2) ∧ (iv_in F' iv_B0 ∧ jx_ok F' ∧ (sy_i F' 0).toInt = (sy_i F 0).toInt + 4)) := by
  obtain ⟨F0, hF0⟩ : ∃ F0 : Nat → sy_d, F0 = fun j => if j = 82 then .inl (.int a) else F j := ⟨_, rfl⟩
  have k0 : ∀ j, j < 82 → F0 j = F j := fun j hj => by
    rw [hF0]
    dsimp only
    rw [if_neg (by omega)]
  have k1 : F0 82 = .inl (.int a) := by rw [hF0]; rfl
  have hB0 : iv_in F0 iv_B0 := iv_in_eq hB (fun j hj => k0 j hj)
  have eA : ([.inl (.ref 8), x] : List sy_v).map (sy_dv F) = ([.inl (.ref 8), .inr (.inl 82)] : List sy_v).map (sy_dv F0) := by
    show [Value.ref 8, sy_dv F x] = [Value.ref 8, .int (sy_i F0 82)]
    rw [hx, zz_i k1]
  have eH : sy_dh F X1 X2 (iv_H 2) = sy_dh F0 X1 X2 (iv_H 2) := by
    have g1 : sy_gw 82 (iv_H 2).1 = true := by decide +kernel
    have g2 : sy_gw 82 (iv_H 2).2 = true := by decide +kernel
    simp only [sy_dh, sy_gw_ok g1 k0, sy_gw_ok g2 k0]
  have iK : sy_i F0 0 = sy_i F 0 := by unfold sy_i; rw [k0 0 (by decide)]
  obtain ⟨tp, htp, t1, t2⟩ := iv_h0 (hB0 0 (0, 0, 2000) rfl)
  obtain ⟨tl, htl, tb⟩ := iv_h2 (hB0 2 (2, -128, 127) rfl)
  rw [← zz_i htp] at t1
  rw [← zz_ai htl] at tb
  rw [← iK] at h1
  have f := ap_g t1 h1
  rw [eA, eH]
  refine hd_T (As := [.inl (.ref 8), .inr (.inl 82)]) jm_ok116 (by decide) (ap2_0_4 (by decide) F0 X1 X2 hB0 f.1 f.2.1 f.2.2.1 f.2.2.2.1 f.2.2.2.2.1 f.2.2.2.2.2.1 f.2.2.2.2.2.2.1 f.2.2.2.2.2.2.2.1 (fun F1 g g1 g2 => ⟨F1, rfl, rfl, hd_in1 hB0 (fun j t hj => ?_), jx_ok_eq ((g 39 (by decide) (by decide)).trans (k0 39 (by decide))) ((g 41 (by decide) (by decide)).trans (k0 41 (by decide))) hJ, ?_⟩))
  · by_cases h : j = 0
    · subst h
      right
      have ht : t = (0, 0, 2000) := (Option.some.inj hj).symm
      rw [g1, ht]
      exact ⟨rfl, f.2.2.2.2.2.2.2.2.2.1, f.2.2.2.2.2.2.2.2.2.2⟩
    · by_cases h' : j = 2
      · subst h'
        right
        have ht : t = (2, -128, 127) := (Option.some.inj hj).symm
        rw [g2, ht]
        exact ⟨rfl, tp_upd (tp_upd (tp_upd (tp_upd tb)))⟩
      · exact Or.inl (g j (List.getElem?_eq_some_iff.mp hj).1 ⟨h, h'⟩)
  · rw [zz_i g1, ← iK]
    exact f.2.2.2.2.2.2.2.2.1
theorem fd2_T {Ls : Nat} {xs : Nat → Int32} (F : Nat → sy_d) (X1 X2 : List jm_c) (hB : iv_in F iv_B0) (hJ : jx_ok F) (a b c d e : Int32) : jm_T Ls xs 2 jm_M81 [.ref 8, .int a, .int b, .int c, .int d, .int e] (sy_dh F X1 X2 (iv_H 2)) 0 0 (fun v G => ∃ F' : Nat → sy_d, v = some (.int (fd_v (sy_i F 0))) ∧ G = sy_dh F' X1 X2 (iv_H 2) ∧ iv_in F' iv_B0 ∧ jx_ok F' ∧ sy_i F' 0 = fd_t (sy_i F 0)) := by
  obtain ⟨F0, hF0⟩ : ∃ F0 : Nat → sy_d, F0 = fun j => if j = 82 then .inl (.int a) else if j = 83 then .inl (.int b) else if j = 84 then .inl (.int c) else if j = 85 then .inl (.int d) else if j = 86 then .inl (.int e) else F j := ⟨_, rfl⟩
  have k0 : ∀ j, j < 82 → F0 j = F j := fun j hj => by
    rw [hF0]
    dsimp only
    rw [if_neg (by omega), if_neg (by omega), if_neg (by omega), if_neg (by omega), if_neg (by omega)]
  have hB0 : iv_in F0 iv_B0 := iv_in_eq hB (fun j hj => k0 j hj)
  have hJ0 : jx_ok F0 := jx_ok_eq (k0 39 (by decide)) (k0 41 (by decide)) hJ
  have eA : [Value.ref 8, .int a, .int b, .int c, .int d, .int e] = ([.inl (.ref 8), .inr (.inl 82), .inr (.inl 83), .inr (.inl 84), .inr (.inl 85), .inr (.inl 86)] : List sy_v).map (sy_dv F0) := by
    rw [hF0]
    rfl
  have eH : sy_dh F X1 X2 (iv_H 2) = sy_dh F0 X1 X2 (iv_H 2) := by
    have g1 : sy_gw 82 (iv_H 2).1 = true := by decide +kernel
    have g2 : sy_gw 82 (iv_H 2).2 = true := by decide +kernel
    simp only [sy_dh, sy_gw_ok g1 k0, sy_gw_ok g2 k0]
  have iK : sy_i F0 0 = sy_i F 0 := by unfold sy_i; rw [k0 0 (by decide)]
  obtain ⟨tp, htp, t1, t2⟩ := iv_h0 (hB0 0 (0, 0, 2000) rfl)
  rw [← zz_i htp] at t1 t2
  have e20 := fd_20 t1 t2
  rw [eA, eH]
  refine hd_T (As := [.inl (.ref 8), .inr (.inl 82), .inr (.inl 83), .inr (.inl 84), .inr (.inl 85), .inr (.inl 86)]) jm_ok81 (by decide) ?_
  by_cases hc : 2000 < (sy_i F0 0).toInt + 20
  · refine fd2_0_1 (by decide) F0 X1 X2 hB0 (by rw [e20]; exact hc) (fun F1 g => ⟨F1, ?_, rfl, hd_in1 hB0 (fun j t hj => Or.inl (g j (List.getElem?_eq_some_iff.mp hj).1 trivial)), jx_ok_eq (g 39 (by decide) trivial) (g 41 (by decide) trivial) hJ0, ?_⟩)
    · unfold fd_v; rw [← iK, if_pos hc]
    · unfold fd_t; rw [← iK, if_pos hc]; unfold sy_i; rw [g 0 (by decide) trivial]
  · refine fd2_0_0 (by decide) F0 X1 X2 hB0 (by rw [e20]; exact Int.not_lt.mp hc) (fun F1 g _ _ _ _ _ => ?_)
    have hB1 : iv_in F1 iv_B0 := hd_in1 hB0 (fun j t hj => Or.inl (g j (List.getElem?_eq_some_iff.mp hj).1 trivial))
    have hJ1 : jx_ok F1 := jx_ok_eq (g 39 (by decide) trivial) (g 41 (by decide) trivial) hJ0
    have s1 : (sy_i F1 0).toInt = (sy_i F0 0).toInt := by unfold sy_i; rw [g 0 (by decide) trivial]
    refine hd_calV (R := fun F' => iv_in F' iv_B0 ∧ jx_ok F' ∧ (sy_i F' 0).toInt = (sy_i F1 0).toInt + 4) (nh := 82) (nv := 87) (s := 2) (s1 := 2) (d1 := 1) (M1 := jm_M116) (As := [.inl (.ref 8), .inr (.inl 82)]) (rest := []) jm_ok81 rfl rfl (by decide) (by decide +kernel) (ap2_T F1 X1 X2 hB1 hJ1 rfl (by omega)) (fun G2 H2 hR p q => ?_)
    obtain ⟨u1, u2, u3⟩ := hR
    have v2 : iv_in G2 iv_B0 := hd_in1 u1 (fun j t hj => Or.inl (p j (List.getElem?_eq_some_iff.mp hj).1))
    have w2 : jx_ok G2 := jx_ok_eq (p 39 (by decide)) (p 41 (by decide))  u2
    have z2 : (sy_i G2 0).toInt = (sy_i F1 0).toInt + 4 := by rw [← u3]; unfold sy_i; rw [p 0 (by decide)]
    refine fd2_20_0 (by decide) G2 X1 X2 v2 (fun K2 m _ _ _ _ _ => ?_)
    have vk2 : iv_in K2 iv_B0 := hd_in1 v2 (fun j t hj => Or.inl (m j (List.getElem?_eq_some_iff.mp hj).1 trivial))
    have wk2 : jx_ok K2 := jx_ok_eq (m 39 (by decide) trivial) (m 41 (by decide) trivial) w2
    have zk2 : (sy_i K2 0).toInt = (sy_i G2 0).toInt := by unfold sy_i; rw [m 0 (by decide) trivial]
    refine hd_calV (R := fun F' => iv_in F' iv_B0 ∧ jx_ok F' ∧ (sy_i F' 0).toInt = (sy_i K2 0).toInt + 4) (nh := 82) (nv := 87) (s := 2) (s1 := 2) (d1 := 1) (M1 := jm_M116) (As := [.inl (.ref 8), .inr (.inl 83)]) (rest := []) jm_ok81 rfl rfl (by decide) (by decide +kernel) (ap2_T K2 X1 X2 vk2 wk2 rfl (by omega)) (fun G3 H3 hR p q => ?_)
    obtain ⟨u1, u2, u3⟩ := hR
    have v3 : iv_in G3 iv_B0 := hd_in1 u1 (fun j t hj => Or.inl (p j (List.getElem?_eq_some_iff.mp hj).1))
    have w3 : jx_ok G3 := jx_ok_eq (p 39 (by decide)) (p 41 (by decide))  u2
    have z3 : (sy_i G3 0).toInt = (sy_i K2 0).toInt + 4 := by rw [← u3]; unfold sy_i; rw [p 0 (by decide)]
    refine fd2_25_0 (by decide) G3 X1 X2 v3 (fun K3 m _ _ _ _ _ => ?_)
    have vk3 : iv_in K3 iv_B0 := hd_in1 v3 (fun j t hj => Or.inl (m j (List.getElem?_eq_some_iff.mp hj).1 trivial))
    have wk3 : jx_ok K3 := jx_ok_eq (m 39 (by decide) trivial) (m 41 (by decide) trivial) w3
    have zk3 : (sy_i K3 0).toInt = (sy_i G3 0).toInt := by unfold sy_i; rw [m 0 (by decide) trivial]
    refine hd_calV (R := fun F' => iv_in F' iv_B0 ∧ jx_ok F' ∧ (sy_i F' 0).toInt = (sy_i K3 0).toInt + 4) (nh := 82) (nv := 87) (s := 2) (s1 := 2) (d1 := 1) (M1 := jm_M116) (As := [.inl (.ref 8), .inr (.inl 84)]) (rest := []) jm_ok81 rfl rfl (by decide) (by decide +kernel) (ap2_T K3 X1 X2 vk3 wk3 rfl (by omega)) (fun G4 H4 hR p q => ?_)
    obtain ⟨u1, u2, u3⟩ := hR
    have v4 : iv_in G4 iv_B0 := hd_in1 u1 (fun j t hj => Or.inl (p j (List.getElem?_eq_some_iff.mp hj).1))
    have w4 : jx_ok G4 := jx_ok_eq (p 39 (by decide)) (p 41 (by decide))  u2
    have z4 : (sy_i G4 0).toInt = (sy_i K3 0).toInt + 4 := by rw [← u3]; unfold sy_i; rw [p 0 (by decide)]
    refine fd2_30_0 (by decide) G4 X1 X2 v4 (fun K4 m _ _ _ _ _ => ?_)
    have vk4 : iv_in K4 iv_B0 := hd_in1 v4 (fun j t hj => Or.inl (m j (List.getElem?_eq_some_iff.mp hj).1 trivial))
    have wk4 : jx_ok K4 := jx_ok_eq (m 39 (by decide) trivial) (m 41 (by decide) trivial) w4
    have zk4 : (sy_i K4 0).toInt = (sy_i G4 0).toInt := by unfold sy_i; rw [m 0 (by decide) trivial]
    refine hd_calV (R := fun F' => iv_in F' iv_B0 ∧ jx_ok F' ∧ (sy_i F' 0).toInt = (sy_i K4 0).toInt + 4) (nh := 82) (nv := 87) (s := 2) (s1 := 2) (d1 := 1) (M1 := jm_M116) (As := [.inl (.ref 8), .inr (.inl 85)]) (rest := []) jm_ok81 rfl rfl (by decide) (by decide +kernel) (ap2_T K4 X1 X2 vk4 wk4 rfl (by omega)) (fun G5 H5 hR p q => ?_)
    obtain ⟨u1, u2, u3⟩ := hR
    have v5 : iv_in G5 iv_B0 := hd_in1 u1 (fun j t hj => Or.inl (p j (List.getElem?_eq_some_iff.mp hj).1))
    have w5 : jx_ok G5 := jx_ok_eq (p 39 (by decide)) (p 41 (by decide))  u2
    have z5 : (sy_i G5 0).toInt = (sy_i K4 0).toInt + 4 := by rw [← u3]; unfold sy_i; rw [p 0 (by decide)]
    refine fd2_36_0 (by decide) G5 X1 X2 v5 (fun K5 m _ _ _ _ _ => ?_)
    have vk5 : iv_in K5 iv_B0 := hd_in1 v5 (fun j t hj => Or.inl (m j (List.getElem?_eq_some_iff.mp hj).1 trivial))
    have wk5 : jx_ok K5 := jx_ok_eq (m 39 (by decide) trivial) (m 41 (by decide) trivial) w5
    have zk5 : (sy_i K5 0).toInt = (sy_i G5 0).toInt := by unfold sy_i; rw [m 0 (by decide) trivial]
    refine hd_calV (R := fun F' => iv_in F' iv_B0 ∧ jx_ok F' ∧ (sy_i F' 0).toInt = (sy_i K5 0).toInt + 4) (nh := 82) (nv := 87) (s := 2) (s1 := 2) (d1 := 1) (M1 := jm_M116) (As := [.inl (.ref 8), .inr (.inl 86)]) (rest := []) jm_ok81 rfl rfl (by decide) (by decide +kernel) (ap2_T K5 X1 X2 vk5 wk5 rfl (by omega)) (fun G6 H6 hR p q => ?_)
    obtain ⟨u1, u2, u3⟩ := hR
    have v6 : iv_in G6 iv_B0 := hd_in1 u1 (fun j t hj => Or.inl (p j (List.getElem?_eq_some_iff.mp hj).1))
    have w6 : jx_ok G6 := jx_ok_eq (p 39 (by decide)) (p 41 (by decide))  u2
    have z6 : (sy_i G6 0).toInt = (sy_i K5 0).toInt + 4 := by rw [← u3]; unfold sy_i; rw [p 0 (by decide)]
    refine fd2_42_0 (by decide) G6 X1 X2 v6 (fun L m => ?_)
    have zz : sy_i L 0 = sy_i F0 0 + 20 := by
      refine Int32.toInt_inj.mp ?_
      rw [e20]
      have : (sy_i L 0).toInt = (sy_i G6 0).toInt := by unfold sy_i; rw [m 0 (by decide) trivial]
      omega
    have zg : sy_i G6 0 = sy_i L 0 := by unfold sy_i; rw [m 0 (by decide) trivial]
    refine ⟨L, ?_, rfl, hd_in1 v6 (fun j t hj => Or.inl (m j (List.getElem?_eq_some_iff.mp hj).1 trivial)), jx_ok_eq (m 39 (by decide) trivial) (m 41 (by decide) trivial) w6, ?_⟩
    · unfold fd_v; rw [← iK, if_neg hc, zg, zz]
    · unfold fd_t; rw [← iK, if_neg hc, zz]
theorem ap3_T {Ls : Nat} {xs : Nat → Int32} (F : Nat → sy_d) (X1 X2 : List jm_c) (hB : iv_in F iv_B0) (hJ : jx_ok F) {x : sy_v} {a : Int32} (hx : sy_dv F x = .int a) (h1 : (sy_i F 0).toInt ≤ 1996) : jm_T Ls xs 1 jm_M116 ([.inl (.ref 8), x].map (sy_dv F)) (sy_dh F X1 X2 (iv_H 3)) 0 0 (fun v G => ∃ F' : Nat → sy_d, v = none ∧ G = sy_dh F' X1 X2 (iv_H 3) ∧ (iv_in F' iv_B0 ∧ jx_ok F' ∧ (sy_i F' 0).toInt = (sy_i F 0).toInt + 4)) := by
  obtain ⟨F0, hF0⟩ : ∃ F0 : Nat → sy_d, F0 = fun j => if j = 82 then .inl (.int a) else F j := ⟨_, rfl⟩
  have k0 : ∀ j, j < 82 → F0 j = F j := fun j hj => by
    rw [hF0]
    dsimp only
    rw [if_neg (by omega)]
  have k1 : F0 82 = .inl (.int a) := by rw [hF0]; rfl
  have hB0 : iv_in F0 iv_B0 := iv_in_eq hB (fun j hj => k0 j hj)
  have eA : ([.inl (.ref 8), x] : List sy_v).map (sy_dv F) = ([.inl (.ref 8), .inr (.inl 82)] : List sy_v).map (sy_dv F0) := by
    show [Value.ref 8, sy_dv F x] = [Value.ref 8, .int (sy_i F0 82)]
    rw [hx, zz_i k1]
  have eH : sy_dh F X1 X2 (iv_H 3) = sy_dh F0 X1 X2 (iv_H 3) := by
    have g1 : sy_gw 82 (iv_H 3).1 = true := by decide +kernel
    have g2 : sy_gw 82 (iv_H 3).2 = true := by decide +kernel
    simp only [sy_dh, sy_gw_ok g1 k0, sy_gw_ok g2 k0]
  have iK : sy_i F0 0 = sy_i F 0 := by unfold sy_i; rw [k0 0 (by decide)]
  obtain ⟨tp, htp, t1, t2⟩ := iv_h0 (hB0 0 (0, 0, 2000) rfl)
  obtain ⟨tl, htl, tb⟩ := iv_h2 (hB0 2 (2, -128, 127) rfl)
  rw [← zz_i htp] at t1
  rw [← zz_ai htl] at tb
  rw [← iK] at h1
  have f := ap_g t1 h1
  rw [eA, eH]
  refine hd_T (As := [.inl (.ref 8), .inr (.inl 82)]) jm_ok116 (by decide) (ap3_0_4 (by decide) F0 X1 X2 hB0 f.1 f.2.1 f.2.2.1 f.2.2.2.1 f.2.2.2.2.1 f.2.2.2.2.2.1 f.2.2.2.2.2.2.1 f.2.2.2.2.2.2.2.1 (fun F1 g g1 g2 => ⟨F1, rfl, rfl, hd_in1 hB0 (fun j t hj => ?_), jx_ok_eq ((g 39 (by decide) (by decide)).trans (k0 39 (by decide))) ((g 41 (by decide) (by decide)).trans (k0 41 (by decide))) hJ, ?_⟩))
  · by_cases h : j = 0
    · subst h
      right
      have ht : t = (0, 0, 2000) := (Option.some.inj hj).symm
      rw [g1, ht]
      exact ⟨rfl, f.2.2.2.2.2.2.2.2.2.1, f.2.2.2.2.2.2.2.2.2.2⟩
    · by_cases h' : j = 2
      · subst h'
        right
        have ht : t = (2, -128, 127) := (Option.some.inj hj).symm
        rw [g2, ht]
        exact ⟨rfl, tp_upd (tp_upd (tp_upd (tp_upd tb)))⟩
      · exact Or.inl (g j (List.getElem?_eq_some_iff.mp hj).1 ⟨h, h'⟩)
  · rw [zz_i g1, ← iK]
    exact f.2.2.2.2.2.2.2.2.1
theorem fd3_T {Ls : Nat} {xs : Nat → Int32} (F : Nat → sy_d) (X1 X2 : List jm_c) (hB : iv_in F iv_B0) (hJ : jx_ok F) (a b c d e : Int32) : jm_T Ls xs 2 jm_M81 [.ref 8, .int a, .int b, .int c, .int d, .int e] (sy_dh F X1 X2 (iv_H 3)) 0 0 (fun v G => ∃ F' : Nat → sy_d, v = some (.int (fd_v (sy_i F 0))) ∧ G = sy_dh F' X1 X2 (iv_H 3) ∧ iv_in F' iv_B0 ∧ jx_ok F' ∧ sy_i F' 0 = fd_t (sy_i F 0)) := by
  obtain ⟨F0, hF0⟩ : ∃ F0 : Nat → sy_d, F0 = fun j => if j = 82 then .inl (.int a) else if j = 83 then .inl (.int b) else if j = 84 then .inl (.int c) else if j = 85 then .inl (.int d) else if j = 86 then .inl (.int e) else F j := ⟨_, rfl⟩
  have k0 : ∀ j, j < 82 → F0 j = F j := fun j hj => by
    rw [hF0]
    dsimp only
    rw [if_neg (by omega), if_neg (by omega), if_neg (by omega), if_neg (by omega), if_neg (by omega)]
  have hB0 : iv_in F0 iv_B0 := iv_in_eq hB (fun j hj => k0 j hj)
  have hJ0 : jx_ok F0 := jx_ok_eq (k0 39 (by decide)) (k0 41 (by decide)) hJ
  have eA : [Value.ref 8, .int a, .int b, .int c, .int d, .int e] = ([.inl (.ref 8), .inr (.inl 82), .inr (.inl 83), .inr (.inl 84), .inr (.inl 85), .inr (.inl 86)] : List sy_v).map (sy_dv F0) := by
    rw [hF0]
    rfl
  have eH : sy_dh F X1 X2 (iv_H 3) = sy_dh F0 X1 X2 (iv_H 3) := by
    have g1 : sy_gw 82 (iv_H 3).1 = true := by decide +kernel
    have g2 : sy_gw 82 (iv_H 3).2 = true := by decide +kernel
    simp only [sy_dh, sy_gw_ok g1 k0, sy_gw_ok g2 k0]
  have iK : sy_i F0 0 = sy_i F 0 := by unfold sy_i; rw [k0 0 (by decide)]
  obtain ⟨tp, htp, t1, t2⟩ := iv_h0 (hB0 0 (0, 0, 2000) rfl)
  rw [← zz_i htp] at t1 t2
  have e20 := fd_20 t1 t2
  rw [eA, eH]
  refine hd_T (As := [.inl (.ref 8), .inr (.inl 82), .inr (.inl 83), .inr (.inl 84), .inr (.inl 85), .inr (.inl 86)]) jm_ok81 (by decide) ?_
  by_cases hc : 2000 < (sy_i F0 0).toInt + 20
  · refine fd3_0_1 (by decide) F0 X1 X2 hB0 (by rw [e20]; exact hc) (fun F1 g => ⟨F1, ?_, rfl, hd_in1 hB0 (fun j t hj => Or.inl (g j (List.getElem?_eq_some_iff.mp hj).1 trivial)), jx_ok_eq (g 39 (by decide) trivial) (g 41 (by decide) trivial) hJ0, ?_⟩)
    · unfold fd_v; rw [← iK, if_pos hc]
    · unfold fd_t; rw [← iK, if_pos hc]; unfold sy_i; rw [g 0 (by decide) trivial]
  · refine fd3_0_0 (by decide) F0 X1 X2 hB0 (by rw [e20]; exact Int.not_lt.mp hc) (fun F1 g _ _ _ _ _ => ?_)
    have hB1 : iv_in F1 iv_B0 := hd_in1 hB0 (fun j t hj => Or.inl (g j (List.getElem?_eq_some_iff.mp hj).1 trivial))
    have hJ1 : jx_ok F1 := jx_ok_eq (g 39 (by decide) trivial) (g 41 (by decide) trivial) hJ0
    have s1 : (sy_i F1 0).toInt = (sy_i F0 0).toInt := by unfold sy_i; rw [g 0 (by decide) trivial]
    refine hd_calV (R := fun F' => iv_in F' iv_B0 ∧ jx_ok F' ∧ (sy_i F' 0).toInt = (sy_i F1 0).toInt + 4) (nh := 82) (nv := 87) (s := 3) (s1 := 3) (d1 := 1) (M1 := jm_M116) (As := [.inl (.ref 8), .inr (.inl 82)]) (rest := []) jm_ok81 rfl rfl (by decide) (by decide +kernel) (ap3_T F1 X1 X2 hB1 hJ1 rfl (by omega)) (fun G2 H2 hR p q => ?_)
    obtain ⟨u1, u2, u3⟩ := hR
    have v2 : iv_in G2 iv_B0 := hd_in1 u1 (fun j t hj => Or.inl (p j (List.getElem?_eq_some_iff.mp hj).1))
    have w2 : jx_ok G2 := jx_ok_eq (p 39 (by decide)) (p 41 (by decide))  u2
    have z2 : (sy_i G2 0).toInt = (sy_i F1 0).toInt + 4 := by rw [← u3]; unfold sy_i; rw [p 0 (by decide)]
    refine fd3_20_0 (by decide) G2 X1 X2 v2 (fun K2 m _ _ _ _ _ => ?_)
    have vk2 : iv_in K2 iv_B0 := hd_in1 v2 (fun j t hj => Or.inl (m j (List.getElem?_eq_some_iff.mp hj).1 trivial))
    have wk2 : jx_ok K2 := jx_ok_eq (m 39 (by decide) trivial) (m 41 (by decide) trivial) w2
    have zk2 : (sy_i K2 0).toInt = (sy_i G2 0).toInt := by unfold sy_i; rw [m 0 (by decide) trivial]
    refine hd_calV (R := fun F' => iv_in F' iv_B0 ∧ jx_ok F' ∧ (sy_i F' 0).toInt = (sy_i K2 0).toInt + 4) (nh := 82) (nv := 87) (s := 3) (s1 := 3) (d1 := 1) (M1 := jm_M116) (As := [.inl (.ref 8), .inr (.inl 83)]) (rest := []) jm_ok81 rfl rfl (by decide) (by decide +kernel) (ap3_T K2 X1 X2 vk2 wk2 rfl (by omega)) (fun G3 H3 hR p q => ?_)
    obtain ⟨u1, u2, u3⟩ := hR
    have v3 : iv_in G3 iv_B0 := hd_in1 u1 (fun j t hj => Or.inl (p j (List.getElem?_eq_some_iff.mp hj).1))
    have w3 : jx_ok G3 := jx_ok_eq (p 39 (by decide)) (p 41 (by decide))  u2
    have z3 : (sy_i G3 0).toInt = (sy_i K2 0).toInt + 4 := by rw [← u3]; unfold sy_i; rw [p 0 (by decide)]
    refine fd3_25_0 (by decide) G3 X1 X2 v3 (fun K3 m _ _ _ _ _ => ?_)
    have vk3 : iv_in K3 iv_B0 := hd_in1 v3 (fun j t hj => Or.inl (m j (List.getElem?_eq_some_iff.mp hj).1 trivial))
    have wk3 : jx_ok K3 := jx_ok_eq (m 39 (by decide) trivial) (m 41 (by decide) trivial) w3
    have zk3 : (sy_i K3 0).toInt = (sy_i G3 0).toInt := by unfold sy_i; rw [m 0 (by decide) trivial]
    refine hd_calV (R := fun F' => iv_in F' iv_B0 ∧ jx_ok F' ∧ (sy_i F' 0).toInt = (sy_i K3 0).toInt + 4) (nh := 82) (nv := 87) (s := 3) (s1 := 3) (d1 := 1) (M1 := jm_M116) (As := [.inl (.ref 8), .inr (.inl 84)]) (rest := []) jm_ok81 rfl rfl (by decide) (by decide +kernel) (ap3_T K3 X1 X2 vk3 wk3 rfl (by omega)) (fun G4 H4 hR p q => ?_)
    obtain ⟨u1, u2, u3⟩ := hR
    have v4 : iv_in G4 iv_B0 := hd_in1 u1 (fun j t hj => Or.inl (p j (List.getElem?_eq_some_iff.mp hj).1))
    have w4 : jx_ok G4 := jx_ok_eq (p 39 (by decide)) (p 41 (by decide))  u2
    have z4 : (sy_i G4 0).toInt = (sy_i K3 0).toInt + 4 := by rw [← u3]; unfold sy_i; rw [p 0 (by decide)]
    refine fd3_30_0 (by decide) G4 X1 X2 v4 (fun K4 m _ _ _ _ _ => ?_)
    have vk4 : iv_in K4 iv_B0 := hd_in1 v4 (fun j t hj => Or.inl (m j (List.getElem?_eq_some_iff.mp hj).1 trivial))
    have wk4 : jx_ok K4 := jx_ok_eq (m 39 (by decide) trivial) (m 41 (by decide) trivial) w4
    have zk4 : (sy_i K4 0).toInt = (sy_i G4 0).toInt := by unfold sy_i; rw [m 0 (by decide) trivial]
    refine hd_calV (R := fun F' => iv_in F' iv_B0 ∧ jx_ok F' ∧ (sy_i F' 0).toInt = (sy_i K4 0).toInt + 4) (nh := 82) (nv := 87) (s := 3) (s1 := 3) (d1 := 1) (M1 := jm_M116) (As := [.inl (.ref 8), .inr (.inl 85)]) (rest := []) jm_ok81 rfl rfl (by decide) (by decide +kernel) (ap3_T K4 X1 X2 vk4 wk4 rfl (by omega)) (fun G5 H5 hR p q => ?_)
    obtain ⟨u1, u2, u3⟩ := hR
    have v5 : iv_in G5 iv_B0 := hd_in1 u1 (fun j t hj => Or.inl (p j (List.getElem?_eq_some_iff.mp hj).1))
    have w5 : jx_ok G5 := jx_ok_eq (p 39 (by decide)) (p 41 (by decide))  u2
    have z5 : (sy_i G5 0).toInt = (sy_i K4 0).toInt + 4 := by rw [← u3]; unfold sy_i; rw [p 0 (by decide)]
    refine fd3_36_0 (by decide) G5 X1 X2 v5 (fun K5 m _ _ _ _ _ => ?_)
    have vk5 : iv_in K5 iv_B0 := hd_in1 v5 (fun j t hj => Or.inl (m j (List.getElem?_eq_some_iff.mp hj).1 trivial))
    have wk5 : jx_ok K5 := jx_ok_eq (m 39 (by decide) trivial) (m 41 (by decide) trivial) w5
    have zk5 : (sy_i K5 0).toInt = (sy_i G5 0).toInt := by unfold sy_i; rw [m 0 (by decide) trivial]
    refine hd_calV (R := fun F' => iv_in F' iv_B0 ∧ jx_ok F' ∧ (sy_i F' 0).toInt = (sy_i K5 0).toInt + 4) (nh := 82) (nv := 87) (s := 3) (s1 := 3) (d1 := 1) (M1 := jm_M116) (As := [.inl (.ref 8), .inr (.inl 86)]) (rest := []) jm_ok81 rfl rfl (by decide) (by decide +kernel) (ap3_T K5 X1 X2 vk5 wk5 rfl (by omega)) (fun G6 H6 hR p q => ?_)
    obtain ⟨u1, u2, u3⟩ := hR
    have v6 : iv_in G6 iv_B0 := hd_in1 u1 (fun j t hj => Or.inl (p j (List.getElem?_eq_some_iff.mp hj).1))
    have w6 : jx_ok G6 := jx_ok_eq (p 39 (by decide)) (p 41 (by decide))  u2
    have z6 : (sy_i G6 0).toInt = (sy_i K5 0).toInt + 4 := by rw [← u3]; unfold sy_i; rw [p 0 (by decide)]
    refine fd3_42_0 (by decide) G6 X1 X2 v6 (fun L m => ?_)
    have zz : sy_i L 0 = sy_i F0 0 + 20 := by
      refine Int32.toInt_inj.mp ?_
      rw [e20]
      have : (sy_i L 0).toInt = (sy_i G6 0).toInt := by unfold sy_i; rw [m 0 (by decide) trivial]
      omega
    have zg : sy_i G6 0 = sy_i L 0 := by unfold sy_i; rw [m 0 (by decide) trivial]
    refine ⟨L, ?_, rfl, hd_in1 v6 (fun j t hj => Or.inl (m j (List.getElem?_eq_some_iff.mp hj).1 trivial)), jx_ok_eq (m 39 (by decide) trivial) (m 41 (by decide) trivial) w6, ?_⟩
    · unfold fd_v; rw [← iK, if_neg hc, zg, zz]
    · unfold fd_t; rw [← iK, if_neg hc, zz]
theorem ap4_T {Ls : Nat} {xs : Nat → Int32} (F : Nat → sy_d) (X1 X2 : List jm_c) (hB : iv_in F iv_B4) (hJ : jm_rpn F) {x : sy_v} {a : Int32} (hx : sy_dv F x = .int a) (h1 : (sy_i F 1).toInt ≤ 1996) : jm_T Ls xs 1 jm_M134 ([.inl (.ref 1000), x].map (sy_dv F)) (sy_dh F X1 X2 (iv_H 4)) 0 0 (fun v G => ∃ F' : Nat → sy_d, v = none ∧ G = sy_dh F' X1 X2 (iv_H 4) ∧ (iv_in F' iv_B4 ∧ jm_rpn F' ∧ (sy_i F' 1).toInt = (sy_i F 1).toInt + 4)) := by
  obtain ⟨F0, hF0⟩ : ∃ F0 : Nat → sy_d, F0 = fun j => if j = 69 then .inl (.int a) else F j := ⟨_, rfl⟩
  have k0 : ∀ j, j < 69 → F0 j = F j := fun j hj => by
    rw [hF0]
    dsimp only
    rw [if_neg (by omega)]
  have k1 : F0 69 = .inl (.int a) := by rw [hF0]; rfl
  have hB0 : iv_in F0 iv_B4 := iv_in_eq hB (fun j hj => k0 j hj)
  have eA : ([.inl (.ref 1000), x] : List sy_v).map (sy_dv F) = ([.inl (.ref 1000), .inr (.inl 69)] : List sy_v).map (sy_dv F0) := by
    show [Value.ref 1000, sy_dv F x] = [Value.ref 1000, .int (sy_i F0 69)]
    rw [hx, zz_i k1]
  have eH : sy_dh F X1 X2 (iv_H 4) = sy_dh F0 X1 X2 (iv_H 4) := by
    have g1 : sy_gw 69 (iv_H 4).1 = true := by decide +kernel
    have g2 : sy_gw 69 (iv_H 4).2 = true := by decide +kernel
    simp only [sy_dh, sy_gw_ok g1 k0, sy_gw_ok g2 k0]
  have iK : sy_i F0 1 = sy_i F 1 := by unfold sy_i; rw [k0 1 (by decide)]
  obtain ⟨tp, htp, t1, t2⟩ := iv_h0 (hB0 1 (0, 0, 2000) rfl)
  obtain ⟨tl, htl, tb⟩ := iv_h2 (hB0 23 (2, -128, 127) rfl)
  rw [← zz_i htp] at t1
  rw [← zz_ai htl] at tb
  rw [← iK] at h1
  have f := ap_g t1 h1
  rw [eA, eH]
  refine hd_T (As := [.inl (.ref 1000), .inr (.inl 69)]) jm_ok134 (by decide) (ap4_0_0 (by decide) F0 X1 X2 hB0 f.2.1 f.2.2.2.1 f.2.2.2.2.2.1 f.2.2.2.2.2.2.2.1 (fun F1 g g1 g2 => ⟨F1, rfl, rfl, hd_in1 hB0 (fun j t hj => ?_), jm_rpn_eq (fun q hq => by rw [g q (by revert q; decide) (by revert q; decide), k0 q (by revert q; decide)]) hJ, ?_⟩))
  · by_cases h : j = 1
    · subst h
      right
      have ht : t = (0, 0, 2000) := (Option.some.inj hj).symm
      rw [g1, ht]
      exact ⟨rfl, f.2.2.2.2.2.2.2.2.2.1, f.2.2.2.2.2.2.2.2.2.2⟩
    · by_cases h' : j = 23
      · subst h'
        right
        have ht : t = (2, -128, 127) := (Option.some.inj hj).symm
        rw [g2, ht]
        exact ⟨rfl, tp_upd (tp_upd (tp_upd (tp_upd tb)))⟩
      · exact Or.inl (g j (List.getElem?_eq_some_iff.mp hj).1 ⟨h, h'⟩)
  · rw [zz_i g1, ← iK]
    exact f.2.2.2.2.2.2.2.2.1
theorem fd4_T {Ls : Nat} {xs : Nat → Int32} (F : Nat → sy_d) (X1 X2 : List jm_c) (hB : iv_in F iv_B4) (hJ : jm_rpn F) (a b c d e : Int32) : jm_T Ls xs 2 jm_M133 [.ref 1000, .int a, .int b, .int c, .int d, .int e] (sy_dh F X1 X2 (iv_H 4)) 0 0 (fun v G => ∃ F' : Nat → sy_d, v = some (.int (fd_v (sy_i F 1))) ∧ G = sy_dh F' X1 X2 (iv_H 4) ∧ iv_in F' iv_B4 ∧ jm_rpn F' ∧ sy_i F' 1 = fd_t (sy_i F 1)) := by
  obtain ⟨F0, hF0⟩ : ∃ F0 : Nat → sy_d, F0 = fun j => if j = 69 then .inl (.int a) else if j = 70 then .inl (.int b) else if j = 71 then .inl (.int c) else if j = 72 then .inl (.int d) else if j = 73 then .inl (.int e) else F j := ⟨_, rfl⟩
  have k0 : ∀ j, j < 69 → F0 j = F j := fun j hj => by
    rw [hF0]
    dsimp only
    rw [if_neg (by omega), if_neg (by omega), if_neg (by omega), if_neg (by omega), if_neg (by omega)]
  have hB0 : iv_in F0 iv_B4 := iv_in_eq hB (fun j hj => k0 j hj)
  have hJ0 : jm_rpn F0 := jm_rpn_eq (fun q hq => k0 q (by revert q; decide)) hJ
  have eA : [Value.ref 1000, .int a, .int b, .int c, .int d, .int e] = ([.inl (.ref 1000), .inr (.inl 69), .inr (.inl 70), .inr (.inl 71), .inr (.inl 72), .inr (.inl 73)] : List sy_v).map (sy_dv F0) := by
    rw [hF0]
    rfl
  have eH : sy_dh F X1 X2 (iv_H 4) = sy_dh F0 X1 X2 (iv_H 4) := by
    have g1 : sy_gw 69 (iv_H 4).1 = true := by decide +kernel
    have g2 : sy_gw 69 (iv_H 4).2 = true := by decide +kernel
    simp only [sy_dh, sy_gw_ok g1 k0, sy_gw_ok g2 k0]
  have iK : sy_i F0 1 = sy_i F 1 := by unfold sy_i; rw [k0 1 (by decide)]
  obtain ⟨tp, htp, t1, t2⟩ := iv_h0 (hB0 1 (0, 0, 2000) rfl)
  rw [← zz_i htp] at t1 t2
  have e20 := fd_20 t1 t2
  rw [eA, eH]
  refine hd_T (As := [.inl (.ref 1000), .inr (.inl 69), .inr (.inl 70), .inr (.inl 71), .inr (.inl 72), .inr (.inl 73)]) jm_ok133 (by decide) ?_
  by_cases hc : 2000 < (sy_i F0 1).toInt + 20
  · refine fd4_0_1 (by decide) F0 X1 X2 hB0 (by rw [e20]; exact hc) (fun F1 g => ⟨F1, ?_, rfl, hd_in1 hB0 (fun j t hj => Or.inl (g j (List.getElem?_eq_some_iff.mp hj).1 trivial)), jm_rpn_eq (fun q hq => g q (by revert q; decide) trivial) hJ0, ?_⟩)
    · unfold fd_v; rw [← iK, if_pos hc]
    · unfold fd_t; rw [← iK, if_pos hc]; unfold sy_i; rw [g 1 (by decide) trivial]
  · refine fd4_0_0 (by decide) F0 X1 X2 hB0 (by rw [e20]; exact Int.not_lt.mp hc) (fun F1 g _ _ _ _ _ => ?_)
    have hB1 : iv_in F1 iv_B4 := hd_in1 hB0 (fun j t hj => Or.inl (g j (List.getElem?_eq_some_iff.mp hj).1 trivial))
    have hJ1 : jm_rpn F1 := jm_rpn_eq (fun q hq => g q (by revert q; decide) trivial) hJ0
    have s1 : (sy_i F1 1).toInt = (sy_i F0 1).toInt := by unfold sy_i; rw [g 1 (by decide) trivial]
    refine hd_calV (R := fun F' => iv_in F' iv_B4 ∧ jm_rpn F' ∧ (sy_i F' 1).toInt = (sy_i F1 1).toInt + 4) (nh := 69) (nv := 74) (s := 4) (s1 := 4) (d1 := 1) (M1 := jm_M134) (As := [.inl (.ref 1000), .inr (.inl 69)]) (rest := []) jm_ok133 rfl rfl (by decide) (by decide +kernel) (ap4_T F1 X1 X2 hB1 hJ1 rfl (by omega)) (fun G2 H2 hR p q => ?_)
    obtain ⟨u1, u2, u3⟩ := hR
    have v2 : iv_in G2 iv_B4 := hd_in1 u1 (fun j t hj => Or.inl (p j (List.getElem?_eq_some_iff.mp hj).1))
    have w2 : jm_rpn G2 := jm_rpn_eq (fun q hq => p q (by revert q; decide))  u2
    have z2 : (sy_i G2 1).toInt = (sy_i F1 1).toInt + 4 := by rw [← u3]; unfold sy_i; rw [p 1 (by decide)]
    refine fd4_20_0 (by decide) G2 X1 X2 v2 (fun K2 m _ _ _ _ _ => ?_)
    have vk2 : iv_in K2 iv_B4 := hd_in1 v2 (fun j t hj => Or.inl (m j (List.getElem?_eq_some_iff.mp hj).1 trivial))
    have wk2 : jm_rpn K2 := jm_rpn_eq (fun q hq => m q (by revert q; decide) trivial) w2
    have zk2 : (sy_i K2 1).toInt = (sy_i G2 1).toInt := by unfold sy_i; rw [m 1 (by decide) trivial]
    refine hd_calV (R := fun F' => iv_in F' iv_B4 ∧ jm_rpn F' ∧ (sy_i F' 1).toInt = (sy_i K2 1).toInt + 4) (nh := 69) (nv := 74) (s := 4) (s1 := 4) (d1 := 1) (M1 := jm_M134) (As := [.inl (.ref 1000), .inr (.inl 70)]) (rest := []) jm_ok133 rfl rfl (by decide) (by decide +kernel) (ap4_T K2 X1 X2 vk2 wk2 rfl (by omega)) (fun G3 H3 hR p q => ?_)
    obtain ⟨u1, u2, u3⟩ := hR
    have v3 : iv_in G3 iv_B4 := hd_in1 u1 (fun j t hj => Or.inl (p j (List.getElem?_eq_some_iff.mp hj).1))
    have w3 : jm_rpn G3 := jm_rpn_eq (fun q hq => p q (by revert q; decide))  u2
    have z3 : (sy_i G3 1).toInt = (sy_i K2 1).toInt + 4 := by rw [← u3]; unfold sy_i; rw [p 1 (by decide)]
    refine fd4_25_0 (by decide) G3 X1 X2 v3 (fun K3 m _ _ _ _ _ => ?_)
    have vk3 : iv_in K3 iv_B4 := hd_in1 v3 (fun j t hj => Or.inl (m j (List.getElem?_eq_some_iff.mp hj).1 trivial))
    have wk3 : jm_rpn K3 := jm_rpn_eq (fun q hq => m q (by revert q; decide) trivial) w3
    have zk3 : (sy_i K3 1).toInt = (sy_i G3 1).toInt := by unfold sy_i; rw [m 1 (by decide) trivial]
    refine hd_calV (R := fun F' => iv_in F' iv_B4 ∧ jm_rpn F' ∧ (sy_i F' 1).toInt = (sy_i K3 1).toInt + 4) (nh := 69) (nv := 74) (s := 4) (s1 := 4) (d1 := 1) (M1 := jm_M134) (As := [.inl (.ref 1000), .inr (.inl 71)]) (rest := []) jm_ok133 rfl rfl (by decide) (by decide +kernel) (ap4_T K3 X1 X2 vk3 wk3 rfl (by omega)) (fun G4 H4 hR p q => ?_)
    obtain ⟨u1, u2, u3⟩ := hR
    have v4 : iv_in G4 iv_B4 := hd_in1 u1 (fun j t hj => Or.inl (p j (List.getElem?_eq_some_iff.mp hj).1))
    have w4 : jm_rpn G4 := jm_rpn_eq (fun q hq => p q (by revert q; decide))  u2
    have z4 : (sy_i G4 1).toInt = (sy_i K3 1).toInt + 4 := by rw [← u3]; unfold sy_i; rw [p 1 (by decide)]
    refine fd4_30_0 (by decide) G4 X1 X2 v4 (fun K4 m _ _ _ _ _ => ?_)
    have vk4 : iv_in K4 iv_B4 := hd_in1 v4 (fun j t hj => Or.inl (m j (List.getElem?_eq_some_iff.mp hj).1 trivial))
    have wk4 : jm_rpn K4 := jm_rpn_eq (fun q hq => m q (by revert q; decide) trivial) w4
    have zk4 : (sy_i K4 1).toInt = (sy_i G4 1).toInt := by unfold sy_i; rw [m 1 (by decide) trivial]
    refine hd_calV (R := fun F' => iv_in F' iv_B4 ∧ jm_rpn F' ∧ (sy_i F' 1).toInt = (sy_i K4 1).toInt + 4) (nh := 69) (nv := 74) (s := 4) (s1 := 4) (d1 := 1) (M1 := jm_M134) (As := [.inl (.ref 1000), .inr (.inl 72)]) (rest := []) jm_ok133 rfl rfl (by decide) (by decide +kernel) (ap4_T K4 X1 X2 vk4 wk4 rfl (by omega)) (fun G5 H5 hR p q => ?_)
    obtain ⟨u1, u2, u3⟩ := hR
    have v5 : iv_in G5 iv_B4 := hd_in1 u1 (fun j t hj => Or.inl (p j (List.getElem?_eq_some_iff.mp hj).1))
    have w5 : jm_rpn G5 := jm_rpn_eq (fun q hq => p q (by revert q; decide))  u2
    have z5 : (sy_i G5 1).toInt = (sy_i K4 1).toInt + 4 := by rw [← u3]; unfold sy_i; rw [p 1 (by decide)]
    refine fd4_36_0 (by decide) G5 X1 X2 v5 (fun K5 m _ _ _ _ _ => ?_)
    have vk5 : iv_in K5 iv_B4 := hd_in1 v5 (fun j t hj => Or.inl (m j (List.getElem?_eq_some_iff.mp hj).1 trivial))
    have wk5 : jm_rpn K5 := jm_rpn_eq (fun q hq => m q (by revert q; decide) trivial) w5
    have zk5 : (sy_i K5 1).toInt = (sy_i G5 1).toInt := by unfold sy_i; rw [m 1 (by decide) trivial]
    refine hd_calV (R := fun F' => iv_in F' iv_B4 ∧ jm_rpn F' ∧ (sy_i F' 1).toInt = (sy_i K5 1).toInt + 4) (nh := 69) (nv := 74) (s := 4) (s1 := 4) (d1 := 1) (M1 := jm_M134) (As := [.inl (.ref 1000), .inr (.inl 73)]) (rest := []) jm_ok133 rfl rfl (by decide) (by decide +kernel) (ap4_T K5 X1 X2 vk5 wk5 rfl (by omega)) (fun G6 H6 hR p q => ?_)
    obtain ⟨u1, u2, u3⟩ := hR
    have v6 : iv_in G6 iv_B4 := hd_in1 u1 (fun j t hj => Or.inl (p j (List.getElem?_eq_some_iff.mp hj).1))
    have w6 : jm_rpn G6 := jm_rpn_eq (fun q hq => p q (by revert q; decide))  u2
    have z6 : (sy_i G6 1).toInt = (sy_i K5 1).toInt + 4 := by rw [← u3]; unfold sy_i; rw [p 1 (by decide)]
    refine fd4_42_0 (by decide) G6 X1 X2 v6 (fun L m => ?_)
    have zz : sy_i L 1 = sy_i F0 1 + 20 := by
      refine Int32.toInt_inj.mp ?_
      rw [e20]
      have : (sy_i L 1).toInt = (sy_i G6 1).toInt := by unfold sy_i; rw [m 1 (by decide) trivial]
      omega
    have zg : sy_i G6 1 = sy_i L 1 := by unfold sy_i; rw [m 1 (by decide) trivial]
    refine ⟨L, ?_, rfl, hd_in1 v6 (fun j t hj => Or.inl (m j (List.getElem?_eq_some_iff.mp hj).1 trivial)), jm_rpn_eq (fun q hq => m q (by revert q; decide) trivial) w6, ?_⟩
    · unfold fd_v; rw [← iK, if_neg hc, zg, zz]
    · unfold fd_t; rw [← iK, if_neg hc, zz]
