/-! ===== what is told and taped, on the class's side (shape 2) ===== -/
section TT2
variable {Ls : Nat} {xs : Nat → Int32} (X1 X2 : List jm_c)
theorem j2pq_V (F : Nat → sy_d) (hB : iv_in F iv_B0) : jm_T Ls xs 1 jm_M84 [.ref 8] (sy_dh F X1 X2 (iv_H 2)) 0 0 (pI 2 X1 X2 (fun x F' => x = sy_i F 1 ∧ qC [] F F')) := by
  refine hd_T (As := [.inl (.ref 8)]) jm_ok84 (by decide) (j2pq_0 (by decide) F X1 X2 hB ?_)
  intro F1 hb gg
  exact ⟨_, F1, rfl, rfl, rfl, qq_mk hb gg (by decide)⟩
theorem j2fq_V (F : Nat → sy_d) (hB : iv_in F iv_B0) : jm_T Ls xs 1 jm_M109 [.ref 8] (sy_dh F X1 X2 (iv_H 2)) 0 0 (pI 2 X1 X2 (fun x F' => x = sy_i F 79 ∧ qC [79] F F' ∧ (sy_i F' 79).toInt = 0)) := by
  refine hd_T (As := [.inl (.ref 8)]) jm_ok109 (by decide) (j2fq_0 (by decide) F X1 X2 hB ?_)
  intro F1 hb gg e79 i79
  exact ⟨_, F1, rfl, rfl, rfl, qq_mk hb gg (by decide), e79⟩
theorem j2bq_V (F : Nat → sy_d) (hB : iv_in F iv_B0) (v : Int32) : jm_T Ls xs 1 jm_M82 [.ref 8, .int v] (sy_dh F X1 X2 (iv_H 2)) 0 0 (pI 2 X1 X2 (fun x F' => (v.toInt < 0 ∨ (sy_i F 0).toInt < v.toInt → x = -1 ∧ qC [] F F') ∧ (¬ (v.toInt < 0 ∨ (sy_i F 0).toInt < v.toInt) → x.toInt = (sy_i F 0).toInt - v.toInt ∧ qC [0] F F' ∧ (sy_i F' 0).toInt = (sy_i F 0).toInt - v.toInt))) := by
  have c1 := nz_bx hB (k := 0) (lo := 0) (hi := 2000) rfl
  refine C_T (by decide) [v] [.inl (.ref 8), .inr (.inl 82)] jm_ok82 (by decide) rfl (fun F0 k0 ki => ?_)
  have i82 : sy_i F0 82 = v := ki 0
  have e0 : (sy_i F0 0).toInt = (sy_i F 0).toInt := nz_fi (k0 0 (by decide))
  have z82 : (sy_i F0 82).toInt = v.toInt := congrArg Int32.toInt i82
  refine j2bq_0 (by decide) F0 X1 X2 (hd_iveq0 hB k0) (by intros; omega) ?_ ?_ ?_
  · intro c0 F1 hb1 gg
    exact ⟨_, F1, rfl, rfl, fun _ => ⟨rfl, qq_src (qq_mk hb1 gg (by decide)) k0⟩, fun h => absurd (Or.inl (by omega)) h⟩
  · intro c0 c2 F1 hb1 gg f0 i0
    exact ⟨_, F1, rfl, rfl, fun h => absurd h (by omega), fun _ => ⟨by rw [nz_sub rfl rfl (by omega) (by omega)]; omega, qq_src (qq_mk hb1 gg (by decide)) k0, by omega⟩⟩
  · intro c0 c2 F1 hb1 gg
    exact ⟨_, F1, rfl, rfl, fun _ => ⟨rfl, qq_src (qq_mk hb1 gg (by decide)) k0⟩, fun h => absurd (Or.inr (by omega)) h⟩
theorem j2tq_V (F : Nat → sy_d) (hB : iv_in F iv_B0) (a b : Int32) : jm_T Ls xs 2 jm_M108 [.ref 8, .int a, .int b] (sy_dh F X1 X2 (iv_H 2)) 0 0 (pI 2 X1 X2 (fun x F' => (¬ ((1 ≤ a.toInt ∧ a.toInt ≤ 9) ∧ (0 ≤ b.toInt ∧ b.toInt ≤ 9) ∧ (sy_i F 79).toInt < 7) → x = -1 ∧ qC [] F F') ∧ ((1 ≤ a.toInt ∧ a.toInt ≤ 9) ∧ (0 ≤ b.toInt ∧ b.toInt ≤ 9) ∧ (sy_i F 79).toInt < 7 → x.toInt = (sy_i F 79).toInt ∧ qC [79, 80, 81] F F' ∧ (sy_i F' 79).toInt = (sy_i F 79).toInt + 1 ∧ sy_ai F' 80 = jm_upd (sy_ai F 80) (sy_i F 79).toInt.toNat a ∧ sy_ai F' 81 = jm_upd (sy_ai F 81) (sy_i F 79).toInt.toNat b))) := by
  have c1 := nz_bx hB (k := 79) (lo := 0) (hi := 7) rfl
  refine C_T (by decide) [a, b] [.inl (.ref 8), .inr (.inl 82), .inr (.inl 83)] jm_ok108 (by decide) rfl (fun F0 k0 ki => ?_)
  have i82 : sy_i F0 82 = a := ki 0
  have i83 : sy_i F0 83 = b := ki 1
  have e0 : sy_i F0 79 = sy_i F 79 := eI (k0 79 (by decide))
  have z82 : (sy_i F0 82).toInt = a.toInt := congrArg Int32.toInt i82
  have z83 : (sy_i F0 83).toInt = b.toInt := congrArg Int32.toInt i83
  have z79 : (sy_i F0 79).toInt = (sy_i F 79).toInt := congrArg Int32.toInt e0
  have no : ∀ F1 : Nat → sy_d, iv_in F1 iv_B0 → (∀ j, j < 82 → j ∉ ([] : List Nat) → F1 j = F0 j) → ¬ ((1 ≤ a.toInt ∧ a.toInt ≤ 9) ∧ (0 ≤ b.toInt ∧ b.toInt ≤ 9) ∧ (sy_i F 79).toInt < 7) → pI 2 X1 X2 (fun x F' => (¬ ((1 ≤ a.toInt ∧ a.toInt ≤ 9) ∧ (0 ≤ b.toInt ∧ b.toInt ≤ 9) ∧ (sy_i F 79).toInt < 7) → x = -1 ∧ qC [] F F') ∧ ((1 ≤ a.toInt ∧ a.toInt ≤ 9) ∧ (0 ≤ b.toInt ∧ b.toInt ≤ 9) ∧ (sy_i F 79).toInt < 7 → x.toInt = (sy_i F 79).toInt ∧ qC [79, 80, 81] F F' ∧ (sy_i F' 79).toInt = (sy_i F 79).toInt + 1 ∧ sy_ai F' 80 = jm_upd (sy_ai F 80) (sy_i F 79).toInt.toNat a ∧ sy_ai F' 81 = jm_upd (sy_ai F 81) (sy_i F 79).toInt.toNat b)) (some (.int (-1 : Int32))) (sy_dh F1 X1 X2 (iv_H 2)) := fun F1 hb1 gg h => ⟨_, F1, rfl, rfl, fun _ => ⟨rfl, qq_src (qq_mk hb1 gg (by decide)) k0⟩, fun z => absurd z h⟩
  refine j2tq_0 (by decide) F0 X1 X2 (hd_iveq0 hB k0) ?_ ?_ ?_ ?_ ?_ ?_
  · intro d1 F1 hb1 gg
    exact no F1 hb1 gg (by omega)
  · intro d1 d2 F1 hb1 gg
    exact no F1 hb1 gg (by omega)
  · intro d1 d2 d3 F1 hb1 gg
    exact no F1 hb1 gg (by omega)
  · intro d1 d2 d3 d4 F1 hb1 gg
    exact no F1 hb1 gg (by omega)
  · intro d1 d2 d3 d4 d5 F1 hb1 gg f79 i79 a80 a81
    rw [i82, e0, nz_fa (k0 80 (by decide))] at a80
    rw [i83, e0, nz_fa (k0 81 (by decide))] at a81
    have o1 : (1 : Int32).toInt = 1 := by decide
    exact ⟨_, F1, rfl, rfl, fun h => absurd (by omega) h, fun _ => ⟨by rw [nz_sub (nz_add rfl o1 (by omega) (by omega)) o1 (by omega) (by omega)]; omega, qq_src (qq_mk hb1 gg (by decide)) k0, by omega, a80, a81⟩⟩
  · intro d1 d2 d3 d4 d5 F1 hb1 gg
    exact no F1 hb1 gg (by omega)
theorem j2fd_V (F : Nat → sy_d) (hB : iv_in F iv_B0) (a b c d e : Int32) : jm_T Ls xs 2 jm_M81 [.ref 8, .int a, .int b, .int c, .int d, .int e] (sy_dh F X1 X2 (iv_H 2)) 0 0 (pI 2 X1 X2 (fun x F' => (2000 < (sy_i F 0).toInt + 20 → x = -1 ∧ qC [] F F') ∧ (¬ 2000 < (sy_i F 0).toInt + 20 → x.toInt = (sy_i F 0).toInt + 20 ∧ qC [0, 2] F F' ∧ (sy_i F' 0).toInt = (sy_i F 0).toInt + 20 ∧ ub (sy_ai F' 2) ((sy_i F 0).toInt + 20).toNat = apB (apB (apB (apB (apB (ub (sy_ai F 2) (sy_i F 0).toInt.toNat) (sy_i F 0).toInt.toNat a) ((sy_i F 0).toInt.toNat + 4) b) ((sy_i F 0).toInt.toNat + 8) c) ((sy_i F 0).toInt.toNat + 12) d) ((sy_i F 0).toInt.toNat + 16) e))) := by
  obtain ⟨F0, hF0⟩ : ∃ F0, F0 = ny F (fun j => .inl (.int (if j = 0 then a else if j = 1 then b else if j = 2 then c else if j = 3 then d else e))) := ⟨_, rfl⟩
  have k0 : ∀ j, j < 82 → F0 j = F j := fun j hj => by rw [hF0]; exact ny_lt j hj
  have i82 : sy_i F0 82 = a := by rw [hF0]; rfl
  have i83 : sy_i F0 83 = b := by rw [hF0]; rfl
  have i84 : sy_i F0 84 = c := by rw [hF0]; rfl
  have i85 : sy_i F0 85 = d := by rw [hF0]; rfl
  have i86 : sy_i F0 86 = e := by rw [hF0]; rfl
  have hB0 := hd_iveq0 hB k0
  have e00 : (sy_i F0 0).toInt = (sy_i F 0).toInt := nz_fi (k0 0 (by decide))
  have c1 := nz_bx hB0 (k := 0) (lo := 0) (hi := 2000) rfl
  refine nyy_T (by decide) F (fun j => .inl (.int (if j = 0 then a else if j = 1 then b else if j = 2 then c else if j = 3 then d else e))) X1 X2 (A := [.inl (.ref 8), .inr (.inl 82), .inr (.inl 83), .inr (.inl 84), .inr (.inl 85), .inr (.inl 86)]) jm_ok81 (by decide) rfl ?_
  rw [← hF0]
  refine k2ofd_0 (by decide) F0 X1 X2 hB0 ?_ ?_
  · intro q F1 hb g e0 e1 e79 a2 a78 f82 f83 f84 f85 f86
    have hn : ¬ 2000 < (sy_i F 0).toInt + 20 := by omega
    obtain ⟨t, ht⟩ : ∃ t : Nat, t = (sy_i F0 0).toInt.toNat := ⟨_, rfl⟩
    have h1 : fC2 F0 F1 t (ub (sy_ai F0 2) t) := ⟨hb, fun j hj hn => g j hj (by simp), by omega, by rw [a2]⟩
    have v0 : sy_i F1 82 = sy_i F0 82 := Int32.toInt_inj.mp f82
    have v1 : sy_i F1 83 = sy_i F0 83 := Int32.toInt_inj.mp f83
    have v2 : sy_i F1 84 = sy_i F0 84 := Int32.toInt_inj.mp f84
    have v3 : sy_i F1 85 = sy_i F0 85 := Int32.toInt_inj.mp f85
    have v4 : sy_i F1 86 = sy_i F0 86 := Int32.toInt_inj.mp f86
    refine hd_calV (R := fun F' => fC2 F0 F' (t + 4) (apB (ub (sy_ai F0 2) t) (t) (sy_i F0 82))) (nh := 82) (nv := 87) (s := 2) (s1 := 2) (d1 := 1) (M1 := jm_M116) (As := [.inl (.ref 8), .inr (.inl 82)]) (rest := []) jm_ok81 rfl rfl (by decide) (by decide +kernel) (by rw [← v0]; exact k2oap_T X1 X2 F0 F1 h1 (by omega) _) (fun G0 H0 hR0 p0 r0 => ?_)
    have h0a := fC2_eq hR0 p0
    have w0_1 : sy_i G0 83 = sy_i F0 83 := (show sy_i G0 83 = sy_i F1 83 by unfold sy_i; rw [r0 83 (by decide) (by decide)]).trans v1
    have w0_2 : sy_i G0 84 = sy_i F0 84 := (show sy_i G0 84 = sy_i F1 84 by unfold sy_i; rw [r0 84 (by decide) (by decide)]).trans v2
    have w0_3 : sy_i G0 85 = sy_i F0 85 := (show sy_i G0 85 = sy_i F1 85 by unfold sy_i; rw [r0 85 (by decide) (by decide)]).trans v3
    have w0_4 : sy_i G0 86 = sy_i F0 86 := (show sy_i G0 86 = sy_i F1 86 by unfold sy_i; rw [r0 86 (by decide) (by decide)]).trans v4
    refine k2ofd_20 (by decide) G0 X1 X2 h0a.1 ?_
    intro K0 kb0 kg0 z0_e0 z0_e1 z0_e79 z0_a2 z0_a78 y0_0 y0_1 y0_2 y0_3 y0_4
    have h0b := fC2_eq h0a (fun j hj => kg0 j hj (by simp))
    have u0_1 : sy_i K0 83 = sy_i F0 83 := (Int32.toInt_inj.mp y0_1).trans w0_1
    have u0_2 : sy_i K0 84 = sy_i F0 84 := (Int32.toInt_inj.mp y0_2).trans w0_2
    have u0_3 : sy_i K0 85 = sy_i F0 85 := (Int32.toInt_inj.mp y0_3).trans w0_3
    have u0_4 : sy_i K0 86 = sy_i F0 86 := (Int32.toInt_inj.mp y0_4).trans w0_4
    refine hd_calV (R := fun F' => fC2 F0 F' (t + 4 + 4) (apB (apB (ub (sy_ai F0 2) t) (t) (sy_i F0 82)) (t + 4) (sy_i F0 83))) (nh := 82) (nv := 87) (s := 2) (s1 := 2) (d1 := 1) (M1 := jm_M116) (As := [.inl (.ref 8), .inr (.inl 83)]) (rest := []) jm_ok81 rfl rfl (by decide) (by decide +kernel) (by rw [← u0_1]; exact k2oap_T X1 X2 F0 K0 h0b (by omega) _) (fun G1 H1 hR1 p1 r1 => ?_)
    have h1a := fC2_eq hR1 p1
    have w1_2 : sy_i G1 84 = sy_i F0 84 := (show sy_i G1 84 = sy_i K0 84 by unfold sy_i; rw [r1 84 (by decide) (by decide)]).trans u0_2
    have w1_3 : sy_i G1 85 = sy_i F0 85 := (show sy_i G1 85 = sy_i K0 85 by unfold sy_i; rw [r1 85 (by decide) (by decide)]).trans u0_3
    have w1_4 : sy_i G1 86 = sy_i F0 86 := (show sy_i G1 86 = sy_i K0 86 by unfold sy_i; rw [r1 86 (by decide) (by decide)]).trans u0_4
    refine k2ofd_25 (by decide) G1 X1 X2 h1a.1 ?_
    intro K1 kb1 kg1 z1_e0 z1_e1 z1_e79 z1_a2 z1_a78 y1_0 y1_1 y1_2 y1_3 y1_4
    have h1b := fC2_eq h1a (fun j hj => kg1 j hj (by simp))
    have u1_2 : sy_i K1 84 = sy_i F0 84 := (Int32.toInt_inj.mp y1_2).trans w1_2
    have u1_3 : sy_i K1 85 = sy_i F0 85 := (Int32.toInt_inj.mp y1_3).trans w1_3
    have u1_4 : sy_i K1 86 = sy_i F0 86 := (Int32.toInt_inj.mp y1_4).trans w1_4
    refine hd_calV (R := fun F' => fC2 F0 F' (t + 4 + 4 + 4) (apB (apB (apB (ub (sy_ai F0 2) t) (t) (sy_i F0 82)) (t + 4) (sy_i F0 83)) (t + 4 + 4) (sy_i F0 84))) (nh := 82) (nv := 87) (s := 2) (s1 := 2) (d1 := 1) (M1 := jm_M116) (As := [.inl (.ref 8), .inr (.inl 84)]) (rest := []) jm_ok81 rfl rfl (by decide) (by decide +kernel) (by rw [← u1_2]; exact k2oap_T X1 X2 F0 K1 h1b (by omega) _) (fun G2 H2 hR2 p2 r2 => ?_)
    have h2a := fC2_eq hR2 p2
    have w2_3 : sy_i G2 85 = sy_i F0 85 := (show sy_i G2 85 = sy_i K1 85 by unfold sy_i; rw [r2 85 (by decide) (by decide)]).trans u1_3
    have w2_4 : sy_i G2 86 = sy_i F0 86 := (show sy_i G2 86 = sy_i K1 86 by unfold sy_i; rw [r2 86 (by decide) (by decide)]).trans u1_4
    refine k2ofd_30 (by decide) G2 X1 X2 h2a.1 ?_
    intro K2 kb2 kg2 z2_e0 z2_e1 z2_e79 z2_a2 z2_a78 y2_0 y2_1 y2_2 y2_3 y2_4
    have h2b := fC2_eq h2a (fun j hj => kg2 j hj (by simp))
    have u2_3 : sy_i K2 85 = sy_i F0 85 := (Int32.toInt_inj.mp y2_3).trans w2_3
    have u2_4 : sy_i K2 86 = sy_i F0 86 := (Int32.toInt_inj.mp y2_4).trans w2_4
    refine hd_calV (R := fun F' => fC2 F0 F' (t + 4 + 4 + 4 + 4) (apB (apB (apB (apB (ub (sy_ai F0 2) t) (t) (sy_i F0 82)) (t + 4) (sy_i F0 83)) (t + 4 + 4) (sy_i F0 84)) (t + 4 + 4 + 4) (sy_i F0 85))) (nh := 82) (nv := 87) (s := 2) (s1 := 2) (d1 := 1) (M1 := jm_M116) (As := [.inl (.ref 8), .inr (.inl 85)]) (rest := []) jm_ok81 rfl rfl (by decide) (by decide +kernel) (by rw [← u2_3]; exact k2oap_T X1 X2 F0 K2 h2b (by omega) _) (fun G3 H3 hR3 p3 r3 => ?_)
    have h3a := fC2_eq hR3 p3
    have w3_4 : sy_i G3 86 = sy_i F0 86 := (show sy_i G3 86 = sy_i K2 86 by unfold sy_i; rw [r3 86 (by decide) (by decide)]).trans u2_4
    refine k2ofd_36 (by decide) G3 X1 X2 h3a.1 ?_
    intro K3 kb3 kg3 z3_e0 z3_e1 z3_e79 z3_a2 z3_a78 y3_0 y3_1 y3_2 y3_3 y3_4
    have h3b := fC2_eq h3a (fun j hj => kg3 j hj (by simp))
    have u3_4 : sy_i K3 86 = sy_i F0 86 := (Int32.toInt_inj.mp y3_4).trans w3_4
    refine hd_calV (R := fun F' => fC2 F0 F' (t + 4 + 4 + 4 + 4 + 4) (apB (apB (apB (apB (apB (ub (sy_ai F0 2) t) (t) (sy_i F0 82)) (t + 4) (sy_i F0 83)) (t + 4 + 4) (sy_i F0 84)) (t + 4 + 4 + 4) (sy_i F0 85)) (t + 4 + 4 + 4 + 4) (sy_i F0 86))) (nh := 82) (nv := 87) (s := 2) (s1 := 2) (d1 := 1) (M1 := jm_M116) (As := [.inl (.ref 8), .inr (.inl 86)]) (rest := []) jm_ok81 rfl rfl (by decide) (by decide +kernel) (by rw [← u3_4]; exact k2oap_T X1 X2 F0 K3 h3b (by omega) _) (fun G4 H4 hR4 p4 r4 => ?_)
    have h4a := fC2_eq hR4 p4
    refine k2ofd_42 (by decide) G4 X1 X2 h4a.1 ?_
    intro F9 kb kg z_e0 z_e1 z_e79 z_a2 z_a78
    have h6 := h4a
    have q5 := fC2_eq h4a (fun j hj => kg j hj (by simp))
    have w5 := q5.2.2.1
    have w6 := h6.2.2.1
    refine ⟨_, F9, rfl, rfl, fun h => absurd h hn, fun _ => ⟨by omega, ⟨q5.1, fun j hj hn => (q5.2.1 j hj hn).trans (k0 j hj)⟩, by omega, ?_⟩⟩
    have hA := q5.2.2.2
    rw [i82, i83, i84, i85, i86, nz_fa (k0 2 (by decide))] at hA
    have ht2 : (sy_i F 0).toInt.toNat = t := by omega
    rw [ht2, show ((sy_i F 0).toInt + 20).toNat = t + 4 + 4 + 4 + 4 + 4 by omega]
    exact hA
  · intro q F1 hb g e0 e1 e79 a2 a78
    have hn : 2000 < (sy_i F 0).toInt + 20 := by omega
    exact ⟨_, F1, rfl, rfl, fun _ => ⟨rfl, qq_src (qq_mk hb g (by decide)) k0⟩, fun h => absurd hn h⟩
end TT2
