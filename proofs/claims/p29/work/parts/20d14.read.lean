/-! ===== the reference reads: what it answers ===== -/
noncomputable def sEnd (P : Nat → Int) (r : sE ⊕ sT) : Int × Int := match r with
  | .inl e => (e.1, P e.2)
  | .inr x => if x.2.2.2.2.1 = 0 then (0, -1) else (x.2.2.2.2.1, P x.2.2.2.2.2)
noncomputable def ry_Q (X1 X2 : List jm_c) (a : Int × Int) (T21 T67 T29 : sy_d) (v : Option Value) (G : jm_h) : Prop := ∃ (x : Int32) (F' : Nat → sy_d), v = some (.int x) ∧ G = sy_dh F' X1 X2 (iv_H 4) ∧ iv_in F' iv_B4 ∧ jm_rpn F' ∧ (sy_i F' 1).toInt = 0 ∧ x.toInt = a.1 ∧ (sy_i F' 10).toInt = a.2 ∧ (a.1 = 0 → (sy_i F' 21).toInt = 0 ∧ ∀ j, j < 3 → (sy_ai F' 67).getD j 0 = 0) ∧ (a.1 ≠ 0 → F' 21 = T21 ∧ F' 67 = T67) ∧ F' 29 = T29
section RY
variable {Ls : Nat} {xs : Nat → Int32} (X1 X2 : List jm_c) (T21 T67 T29 : sy_d)
theorem ry_204 (F : Nat → sy_d) (hB : iv_in F iv_B4) (hJ : jm_rpn F) (h1 : (sy_i F 1).toInt = 0) (h10 : (sy_i F 10).toInt = -1) (h29 : F 29 = T29) :
    hd_W Ls xs 8 jm_M150 (ry_Q X1 X2 (0, -1) T21 T67 T29) (204, sy_dL F [some (.inl (.ref 1000)), none], sy_dS F [.inl (.ref 1000)], sy_dh F X1 X2 (iv_H 4), 0, 0) := by
  refine hd_calV (R := fun F' => iv_in F' iv_B4 ∧ (∀ j, j < 69 → [54].contains j = false → F' j = F j) ∧ jm_rpn F') (nh := 69) (nv := 69) (s := 4) (s1 := 4) (d1 := 1) (M1 := jm_M172) (As := [.inl (.ref 1000)]) (rest := []) jm_ok150 rfl rfl (by decide) (by decide +kernel) (ct_v ok_4_172 rfl F X1 X2 hB hJ) (fun F3 F' hR p1 _ => ?_)
  obtain ⟨r1, r2, r3⟩ := hR
  have hB3 := hd_iveq r1 p1
  have hJ3 := jm_rpn_eq (fun q hq => p1 q (by revert q; decide)) r3
  have i1 : (sy_i F3 1).toInt = 0 := by rw [nz_fi (p1 1 (by decide)), nz_fi (r2 1 (by decide) (by decide))]; exact h1
  have i10 : (sy_i F3 10).toInt = -1 := by rw [nz_fi (p1 10 (by decide)), nz_fi (r2 10 (by decide) (by decide))]; exact h10
  refine rey_207 (by decide) F3 X1 X2 hB3 ?_
  intro F4 hb g e1 e2 e4 e5 e6 e7 e8 e9 e10 e11 e12 e13 e14 e15 e20 e21 a25 a26 a27 a31 a35 a67 a42 a43 a44 a45 a46 a47 a48 a49 a50
  refine ⟨_, F4, rfl, rfl, hb, jm_rpn_eq (fun q hq => g q (by revert q; decide) (by revert q; decide)) hJ3, by omega, by decide, by omega, fun _ => ⟨e21, fun j hj => ?_⟩, fun z => absurd rfl z, (g 29 (by decide) (by decide)).trans ((p1 29 (by decide)).trans ((r2 29 (by decide) (by decide)).trans h29))⟩
  rw [a67, jm_upd_at, jm_upd_at, jm_upd_at]
  match j, hj with
  | 0, _ => rfl
  | 1, _ => rfl
  | 2, _ => rfl
  | n + 3, h => exact absurd h (by omega)
theorem ry_200 (F : Nat → sy_d) (hB : iv_in F iv_B4) (hJ : jm_rpn F) (h1 : (sy_i F 1).toInt = 0) (h10 : (sy_i F 10).toInt = -1) (h29 : F 29 = T29) :
    hd_W Ls xs 8 jm_M150 (ry_Q X1 X2 (0, -1) T21 T67 T29) (200, sy_dL F [some (.inl (.ref 1000)), none], sy_dS F [.inl (.ref 1000)], sy_dh F X1 X2 (iv_H 4), 0, 0) := by
  refine hd_calV (R := fun F' => iv_in F' iv_B4 ∧ (∀ j, j < 69 → [18, 55].contains j = false → F' j = F j) ∧ jm_rpn F') (nh := 69) (nv := 69) (s := 4) (s1 := 4) (d1 := 1) (M1 := jm_M171) (As := [.inl (.ref 1000)]) (rest := []) jm_ok150 rfl rfl (by decide) (by decide +kernel) (ct_v ok_4_171 rfl F X1 X2 hB hJ) (fun F3 F' hR p1 _ => ?_)
  obtain ⟨r1, r2, r3⟩ := hR
  have hB3 := hd_iveq r1 p1
  have hJ3 := jm_rpn_eq (fun q hq => p1 q (by revert q; decide)) r3
  have i1 : (sy_i F3 1).toInt = 0 := by rw [nz_fi (p1 1 (by decide)), nz_fi (r2 1 (by decide) (by decide))]; exact h1
  have i10 : (sy_i F3 10).toInt = -1 := by rw [nz_fi (p1 10 (by decide)), nz_fi (r2 10 (by decide) (by decide))]; exact h10
  refine rey_203 (by decide) F3 X1 X2 hB3 ?_
  intro F4 hb g e1 e2 e4 e5 e6 e7 e8 e9 e10 e11 e12 e13 e14 e15 e20 e21 a25 a26 a27 a31 a35 a67 a42 a43 a44 a45 a46 a47 a48 a49 a50
  exact ry_204 X1 X2 T21 T67 T29 F4 hb (jm_rpn_eq (fun q hq => g q (by revert q; decide) (by revert q; decide)) hJ3) (by omega) (by omega) ((g 29 (by decide) (by decide)).trans ((p1 29 (by decide)).trans ((r2 29 (by decide) (by decide)).trans h29)))
/-- at the loop's head -/
noncomputable def rI (K V : Nat → Int) (N : Nat → Int64) (P : Nat → Int) (L : Nat) (rr : sE ⊕ sT) (F : Nat → sy_d) : Prop := (kf F = K ∧ vf F = V ∧ nf F = N ∧ pf F = P) ∧ pm P K L ∧ ((sy_i F 6).toInt = 0 → ∃ (n : Nat) (x : sT), 401 ≤ n + tn F ∧ rt P L x F ∧ rr = sRun K V N n x) ∧ ((sy_i F 6).toInt ≠ 0 → ∃ tok, rr = .inl ((sy_i F 6).toInt, tok) ∧ (sy_i F 7).toInt = P tok)
theorem rI_eq {K V P : Nat → Int} {N : Nat → Int64} {L : Nat} {rr : sE ⊕ sT} {F F1 : Nat → sy_d} (h : rI K V N P L rr F) (e : ∀ q, q < 69 → F1 q = F q) : rI K V N P L rr F1 := by
  obtain ⟨⟨k1, k2, k3, k4⟩, k5, k6, k7⟩ := h
  have i4 := nz_fi (e 4 (by decide))
  have i6 := nz_fi (e 6 (by decide))
  refine ⟨⟨(kf_eq (e 25 (by decide))).trans k1, (vf_eq (e 27 (by decide))).trans k2, (nf_eq (e 28 (by decide))).trans k3, (pf_eq (e 26 (by decide))).trans k4⟩, k5, fun z => ?_, fun z => ?_⟩
  · obtain ⟨n, x, a, b, c⟩ := k6 (by omega)
    obtain ⟨b1, b2, b3, b4, b5, b6⟩ := b
    refine ⟨n, x, by rw [tn_eq i4]; exact a, ⟨by rw [tn_eq i4]; exact b1, b2, ?_, ?_, nmr_eq b5 (e 30 (by decide)) (nz_fi (e 13 (by decide))), wr_eq b6 (by rw [tn_eq i4]; exact Nat.le_refl _) (nz_fi (e 8 (by decide))) (nz_fi (e 9 (by decide)))⟩, c⟩
    · unfold FRf
      rw [nz_fa (e 31 (by decide)), nz_fi (e 12 (by decide))]
      exact b3
    · unfold BUf
      rw [nz_fa (e 35 (by decide)), nz_fi (e 12 (by decide))]
      exact b4
  · rw [i6, nz_fi (e 7 (by decide))]
    exact k7 (by omega)
theorem ry_loop (K V P : Nat → Int) (N : Nat → Int64) (L : Nat) (rr : sE ⊕ sT) : ∀ (n : Nat) (F : Nat → sy_d), pk F → (sy_i F 1).toInt = 0 → ((sy_i F 6).toInt = 0 → 400 - (sy_i F 4).toInt < n) → rI K V N P L rr F → F 21 = T21 → F 67 = T67 → F 29 = T29 →
    hd_W Ls xs 8 jm_M150 (ry_Q X1 X2 (sEnd P rr) T21 T67 T29) (112, sy_dL F [some (.inl (.ref 1000)), none], sy_dS F [], sy_dh F X1 X2 (iv_H 4), 0, 0) := by
  intro n
  induction n with
  | zero =>
    intro F hP h1 hn hI h21 h67 h29
    have c4 := nz_bx hP.1 (k := 4) (lo := 0) (hi := 400) rfl
    have k7 := hI.2.2.2
    refine rey_112 (by decide) F X1 X2 hP.1 ?_ ?_ ?_ ?_
    · intro q1 q2 q3 F1 hb g e1 e2 e4 e5 e6 e7 e8 e9 e10 e11 e12 e13 e14 e15 e20 e21 a25 a26 a27 a31 a35 a67 a42 a43 a44 a45 a46 a47 a48 a49 a50
      obtain ⟨tok, t1, t2⟩ := k7 q1
      refine ⟨_, F1, rfl, rfl, hb, jm_rpn_eq (fun q hq => g q (by revert q; decide) (by revert q; decide)) hP.2.2.1, by omega, ?_, ?_, fun z => ?_, fun _ => ⟨(g 21 (by decide) (by decide)).trans h21, (g 67 (by decide) (by decide)).trans h67⟩, (g 29 (by decide) (by decide)).trans h29⟩
      · rw [t1]
        rfl
      · rw [t1, e10, t2]
        rfl
      · rw [t1] at z
        exact absurd z q1
    all_goals (clear hI k7; intros; exfalso; omega)
  | succ n ih =>
    intro F hP h1 hn hI h21 h67 h29
    have c4 := nz_bx hP.1 (k := 4) (lo := 0) (hi := 400) rfl
    obtain ⟨⟨k1, k2, k3, k4⟩, k5, k6, k7⟩ := id hI
    have eK : K (tn F) = ((sy_ai F 25).getD (sy_i F 4).toInt.toNat 0).toInt := by rw [← k1]; rfl
    refine rey_112 (by decide) F X1 X2 hP.1 ?_ ?_ ?_ ?_
    · intro q1 q2 q3 F1 hb g e1 e2 e4 e5 e6 e7 e8 e9 e10 e11 e12 e13 e14 e15 e20 e21 a25 a26 a27 a31 a35 a67 a42 a43 a44 a45 a46 a47 a48 a49 a50
      obtain ⟨tok, t1, t2⟩ := k7 q1
      refine ⟨_, F1, rfl, rfl, hb, jm_rpn_eq (fun q hq => g q (by revert q; decide) (by revert q; decide)) hP.2.2.1, by omega, ?_, ?_, fun z => ?_, fun _ => ⟨(g 21 (by decide) (by decide)).trans h21, (g 67 (by decide) (by decide)).trans h67⟩, (g 29 (by decide) (by decide)).trans h29⟩
      · rw [t1]
        rfl
      · rw [t1, e10, t2]
        rfl
      · rw [t1] at z
        exact absurd z q1
    · intro q6 _ qk F1 hb g e1 e2 e4 e5 e6 e7 e8 e9 e10 e11 e12 e13 e14 e15 e20 e21 a25 a26 a27 a31 a35 a67 a42 a43 a44 a45 a46 a47 a48 a49 a50
      have g0 : ∀ q, q < 69 → F1 q = F q := fun q hq => g q hq (by simp)
      have hG1 : gr [] F F1 := gr_mk hb g (by decide) (by omega) (by omega)
      obtain ⟨m1, m2, m3, m4, m5, m6, m7⟩ := hP.2.2.2 q6
      have hP1 : pk F1 := pk_of hP hG1 (by decide) (fun _ => pj_of (hP.2.2.2 q6) hG1 (by decide) (by rw [e13, a31, a35]; exact m6))
      have hI1 := rI_eq hI g0
      obtain ⟨⟨y1, y2, y3, y4⟩, y5, y6, y7⟩ := id hI1
      obtain ⟨nn, x, z1, z2, z3⟩ := y6 (by omega)
      refine hd_calV (R := fun F' => gr WO F1 F' ∧ pk F' ∧ ((sy_i F' 6).toInt = 0 → (sy_i F1 4).toInt + 1 ≤ (sy_i F' 4).toInt) ∧ toy_A F1 F') (nh := 69) (nv := 69) (s := 4) (s1 := 4) (d1 := 7) (M1 := jm_M154) (As := [.inl (.ref 1000)]) (rest := []) jm_ok150 rfl rfl (by decide) (by decide +kernel) (toy_T X1 X2 F1 hP1 (by omega)) (fun F3 F' hR p1 _ => ?_)
      obtain ⟨r1, r2, r3, r4⟩ := hR
      have w1 := nz_fi (p1 1 (by decide))
      have w4 := nz_fi (p1 4 (by decide))
      have w6 := nz_fi (p1 6 (by decide))
      have r1i := r1.i (k := 1) (by decide) (by decide)
      have G3 : gr [] F' F3 := ⟨hd_iveq r1.b p1, fun j hj _ => p1 j hj, by omega, by omega⟩
      have hP3 : pk F3 := pk_of r2 G3 (by decide) (fun z => by
        have y := r2.2.2.2 (by omega)
        obtain ⟨y1, y2, y3, y4, y5, y6, y7⟩ := id y
        exact pj_of y G3 (by decide) (by rw [nz_fi (p1 13 (by decide)), nz_fa (p1 31 (by decide)), nz_fa (p1 35 (by decide))]; exact y6))
      have hk0 : K x.1 ≠ 0 := by
        rw [← z2.1, tn_eq e4, eK]
        exact qk
      obtain ⟨nn', rfl⟩ : ∃ nn', nn = nn' + 1 := ⟨nn - 1, by
        have : tn F1 ≤ 400 := by unfold tn; omega
        omega⟩
      have hrr : rr = sB (sOne K V N x) (sRun K V N nn') := by
        rw [z3]
        show (if K x.1 = 0 then _ else _) = _
        rw [if_neg hk0]
      have hA := r4 L x (by rw [y1, y4]; exact y5) (by rw [y4]; exact z2)
      rw [y1, y2, y3, y4] at hA
      obtain ⟨hA1, hA2⟩ := hA (by omega)
      have hI' : rI K V N P L rr F' := by
        refine ⟨⟨(kf_eq (r1.f 25 (by decide) (by decide))).trans y1, (vf_eq (r1.f 27 (by decide) (by decide))).trans y2, (nf_eq (r1.f 28 (by decide) (by decide))).trans y3, (pf_eq (r1.f 26 (by decide) (by decide))).trans y4⟩, y5, fun z => ?_, fun z => ?_⟩
        · obtain ⟨x', a1, a2⟩ := hA2 z
          refine ⟨nn', x', ?_, a2, by rw [hrr, a1]; rfl⟩
          have := r3 z
          unfold tn at z1 ⊢
          omega
        · obtain ⟨tok, a1, a2⟩ := hA1 z
          exact ⟨tok, by rw [hrr, a1]; rfl, a2⟩
      refine rey_131 (by decide) F3 X1 X2 hP3.1 ?_
      intro F4 hb4 g4 e1' e2' e4' e5' e6' e7' e8' e9' e10' e11' e12' e13' e14' e15' e20' e21' a25' a26' a27' a31' a35' a67' a42' a43' a44' a45' a46' a47' a48' a49' a50'
      have hG4 : gr [] F3 F4 := gr_mk hb4 g4 (by decide) (by omega) (by omega)
      have hP4 : pk F4 := pk_of hP3 hG4 (by decide) (fun z => by
        have y := hP3.2.2.2 (by omega)
        obtain ⟨y1, y2, y3, y4, y5, y6, y7⟩ := id y
        exact pj_of y hG4 (by decide) (by rw [e13', a31', a35']; exact y6))
      have ee : ∀ q, q < 69 → F4 q = F' q := fun q hq => (g4 q hq (by simp)).trans (p1 q hq)
      refine ih F4 hP4 (by omega) (fun z => ?_) (rI_eq hI' ee) ((ee 21 (by decide)).trans ((r1.f 21 (by decide) (by decide)).trans ((g0 21 (by decide)).trans h21))) ((ee 67 (by decide)).trans ((r1.f 67 (by decide) (by decide)).trans ((g0 67 (by decide)).trans h67))) ((ee 29 (by decide)).trans ((r1.f 29 (by decide) (by decide)).trans ((g0 29 (by decide)).trans h29)))
      have y := r3 (by omega)
      have y2 := hn q6
      omega
    · intro q6 _ qk _ _ _ q8 F1 hb g e1 e2 e4 e5 e6 e7 e8 e9 e10 e11 e12 e13 e14 e15 e20 e21 a25 a26 a27 a31 a35 a67 a42 a43 a44 a45 a46 a47 a48 a49 a50
      obtain ⟨m1, m2, m3, m4, m5, m6, m7⟩ := hP.2.2.2 q6
      have c12 := nz_bx hP.1 (k := 12) (lo := 0) (hi := 1) rfl
      obtain ⟨nn, x, z1, z2, z3⟩ := k6 q6
      obtain ⟨nn', rfl⟩ : ∃ nn', nn = nn' + 1 := ⟨nn - 1, by
        have : tn F ≤ 400 := by unfold tn; omega
        omega⟩
      have hrr : rr = .inr x := by
        rw [z3]
        show (if K x.1 = 0 then _ else _) = _
        rw [if_pos (by rw [← z2.1, eK]; exact qk)]
      have hw := z2.2.2.2.2.2
      have hw0 : x.2.2.2.2.1 = 0 := by
        obtain ⟨a, b, -⟩ := hw
        omega
      have hE : sEnd P rr = (0, -1) := by
        rw [hrr]
        show (if x.2.2.2.2.1 = 0 then _ else _) = _
        rw [if_pos hw0]
      rw [hE]
      refine ry_200 X1 X2 T21 T67 T29 F1 hb ?_ (by omega) e10 ((g 29 (by decide) (by decide)).trans h29)
      have e : (sy_i F1 11).toNatClampNeg = (sy_i F 12).toInt.toNat := by
        show (sy_i F1 11).toInt.toNat = _
        rw [e11]
      unfold jm_rpn
      rw [e]
      exact rp_S_keep m1 (fun k _ => by rw [a42, a43]; exact ⟨rfl, rfl⟩) (fun b _ _ => s5_same a44 a45 a46 a47 a48 b) (fun i _ _ => by rw [a49, a50]; exact ⟨rfl, rfl⟩) (by omega) (by omega)
    · intro q6 _ qk _ q8 _ _ F1 hb g e1 e2 e4 e5 e6 e7 e8 e9 e10 e11 e12 e13 e14 e15 e20 e21 a25 a26 a27 a31 a35 a67 a42 a43 a44 a45 a46 a47 a48 a49 a50
      obtain ⟨nn, x, z1, z2, z3⟩ := k6 q6
      obtain ⟨nn', rfl⟩ : ∃ nn', nn = nn' + 1 := ⟨nn - 1, by
        have : tn F ≤ 400 := by unfold tn; omega
        omega⟩
      have hrr : rr = .inr x := by
        rw [z3]
        show (if K x.1 = 0 then _ else _) = _
        rw [if_pos (by rw [← z2.1, eK]; exact qk)]
      obtain ⟨wa, wb, wc⟩ := z2.2.2.2.2.2
      have hw0 : x.2.2.2.2.1 ≠ 0 := by omega
      have hE : sEnd P rr = (x.2.2.2.2.1, P x.2.2.2.2.2) := by
        rw [hrr]
        show (if x.2.2.2.2.1 = 0 then _ else _) = _
        rw [if_neg hw0]
      rw [hE]
      exact ⟨_, F1, rfl, rfl, hb, jm_rpn_eq (fun q hq => g q (by revert q; decide) (by revert q; decide)) hP.2.2.1, by omega, wa, by rw [e10]; exact (wc hw0).1, fun z => absurd z hw0, fun _ => ⟨(g 21 (by decide) (by decide)).trans h21, (g 67 (by decide) (by decide)).trans h67⟩, (g 29 (by decide) (by decide)).trans h29⟩
/-- behind the cutting -/
theorem ry_45 (F3 : Nat → sy_d) (hB3 : iv_in F3 iv_B4) (hJ3 : jm_rpn F3) (i1 : (sy_i F3 1).toInt = 0) (L : Nat) (hm : pm (pf F3) (kf F3) L) :
    hd_W Ls xs 8 jm_M150 (ry_Q X1 X2 (sEnd (pf F3) (sRun (kf F3) (vf F3) (nf F3) 401 (0, 0, 0, [], (0, 0)))) (F3 21) (F3 67) (F3 29)) (45, sy_dL F3 [some (.inl (.ref 1000)), none], sy_dS F3 [], sy_dh F3 X1 X2 (iv_H 4), 0, 0) := by
  have c11 := nz_bx hB3 (k := 11) (lo := 0) (hi := 1) rfl
  refine rey_45 (by decide) F3 X1 X2 hB3 ?_
  intro F4 hb g e1 e2 e4 e5 e6 e7 e8 e9 e10 e11 e12 e13 e14 e15 e20 e21 a25 a26 a27 a31 a35 a67 a42 a43 a44 a45 a46 a47 a48 a49 a50
  have u42 : ∀ i : Nat, (sy_ai F4 42).getD i 0 = if 6 * (1 - (sy_i F3 11).toInt) ≤ i ∧ (i : Int) < 6 * (1 - (sy_i F3 11).toInt) + 6 then 0 else (sy_ai F3 42).getD i 0 := fun i => by rw [a42]; exact u6_at _ _ (by omega) (by omega) i
  have u43 : ∀ i : Nat, (sy_ai F4 43).getD i 0 = if 6 * (1 - (sy_i F3 11).toInt) ≤ i ∧ (i : Int) < 6 * (1 - (sy_i F3 11).toInt) + 6 then 0 else (sy_ai F3 43).getD i 0 := fun i => by rw [a43]; exact u6_at _ _ (by omega) (by omega) i
  have z : (0 : Int32).toInt = 0 := by decide
  have f0 : ((sy_ai F4 31).getD (sy_i F4 12).toInt.toNat 0).toInt = 0 := by rw [a31, e12, jm_upd_at, if_pos rfl, z]
  have b0 : ((sy_ai F4 35).getD (sy_i F4 12).toInt.toNat 0).toInt = 0 := by rw [a35, e12, jm_upd_at, if_pos rfl, z]
  have t0 : tn F4 = 0 := by unfold tn; rw [e4]; rfl
  refine ry_loop X1 X2 (F3 21) (F3 67) (F3 29) (kf F3) (vf F3) (pf F3) (nf F3) L _ 401 F4 ⟨hb, by omega, ?_, fun _ => ⟨?_, by omega, by omega, by omega, by omega, by rw [f0, b0, e13]; rfl, e5⟩⟩ (by omega) (fun _ => by omega) ⟨⟨kf_eq (g 25 (by decide) (by decide)), vf_eq (g 27 (by decide) (by decide)), nf_eq (g 28 (by decide) (by decide)), pf_eq (g 26 (by decide) (by decide))⟩, hm, fun _ => ⟨401, (0, 0, 0, [], (0, 0)), by omega, ⟨t0, Nat.zero_le _, f0, b0, ?_, ⟨e8, (show (0 : Int) ≤ 0 by decide), fun q => absurd rfl q⟩⟩, rfl⟩, fun q => absurd e6 q⟩ (g 21 (by decide) (by decide)) (g 67 (by decide) (by decide)) (g 29 (by decide) (by decide))
  · have e : (sy_i F4 11).toNatClampNeg = (sy_i F3 11).toInt.toNat := by
      show (sy_i F4 11).toInt.toNat = _
      rw [e11]
    have hr' : rp_S F3 (sy_i F3 11).toInt.toNat (130 * (sy_i F3 11).toInt.toNat + 130) (420 * (sy_i F3 11).toInt.toNat + 420) := hJ3
    unfold jm_rpn
    rw [e]
    exact rp_S_keep hr' (fun k hk => by rw [u42, u43, if_neg (by omega), if_neg (by omega)]; exact ⟨rfl, rfl⟩) (fun b _ _ => s5_same a44 a45 a46 a47 a48 b) (fun i _ _ => by rw [a49, a50]; exact ⟨rfl, rfl⟩) (Int.le_refl _) (Int.le_refl _)
  · intro k b hk q1 q2
    rw [u43, if_pos (by omega), z] at q2
    omega
  · show [] = ml F4 (sy_i F4 13).toInt.toNat
    rw [e13]
    rfl
end RY
