/-! ===== the reference reads ===== -/
theorem ct_v {M : jm_M} {n d : Nat} {W : List Nat} (h : ct_ok jj (n, [.inl (.ref 1000)], 4, [4], iv_B4, W, iv_B4, none, d)) (hM : jm_TB[n]? = some M) {Ls : Nat} {xs : Nat → Int32} (F : Nat → sy_d) (X1 X2 : List jm_c) (hB : iv_in F iv_B4) (hJ : jm_rpn F) :
    jm_T Ls xs d M [.ref 1000] (sy_dh F X1 X2 (iv_H 4)) 0 0 (fun v G => ∃ F' : Nat → sy_d, v = none ∧ G = sy_dh F' X1 X2 (iv_H 4) ∧ iv_in F' iv_B4 ∧ (∀ j, j < 69 → W.contains j = false → F' j = F j) ∧ jm_rpn F') := by
  refine jm_T_mono (h M hM Ls xs F X1 X2 hB hJ) ?_
  rintro v G ⟨t, F', ht, hG, hf, hB', hv, hj⟩
  have ht : t ∈ [4] := ht
  have e : t = 4 := List.mem_singleton.mp ht
  subst e
  have hv : v = none := by
    cases v with
    | none => rfl
    | some x => exact absurd hv (by intro q; cases q)
  exact ⟨F', hv, hG, hB', hf, hj⟩
theorem u6_at (l : List Int32) (s : Int) (h0 : 0 ≤ s) (h1 : s ≤ 1) (i : Nat) : (jm_upd (jm_upd (jm_upd (jm_upd (jm_upd (jm_upd l (6 * s + 0).toNat 0) (6 * s + 1).toNat 0) (6 * s + 2).toNat 0) (6 * s + 3).toNat 0) (6 * s + 4).toNat 0) (6 * s + 5).toNat 0).getD i 0 = if 6 * s ≤ i ∧ (i : Int) < 6 * s + 6 then 0 else l.getD i 0 := by
  rw [jm_upd_at, jm_upd_at, jm_upd_at, jm_upd_at, jm_upd_at, jm_upd_at]
  by_cases q : 6 * s ≤ i ∧ (i : Int) < 6 * s + 6
  · rw [if_pos q]
    repeat' split
    all_goals first | rfl | (exfalso; omega)
  · rw [if_neg q, if_neg (by omega), if_neg (by omega), if_neg (by omega), if_neg (by omega), if_neg (by omega), if_neg (by omega)]
noncomputable def re_Q (X1 X2 : List jm_c) (v : Option Value) (G : jm_h) : Prop := ∃ (x : Int32) (F' : Nat → sy_d), v = some (.int x) ∧ G = sy_dh F' X1 X2 (iv_H 4) ∧ iv_in F' iv_B4 ∧ jm_rpn F' ∧ (sy_i F' 1).toInt = 0
section RE
variable {Ls : Nat} {xs : Nat → Int32} (X1 X2 : List jm_c)
theorem re_204 (F : Nat → sy_d) (hB : iv_in F iv_B4) (hJ : jm_rpn F) (h1 : (sy_i F 1).toInt = 0) :
    hd_W Ls xs 8 jm_M150 (re_Q X1 X2) (204, sy_dL F [some (.inl (.ref 1000)), none], sy_dS F [.inl (.ref 1000)], sy_dh F X1 X2 (iv_H 4), 0, 0) := by
  refine hd_calV (R := fun F' => iv_in F' iv_B4 ∧ (∀ j, j < 69 → [54].contains j = false → F' j = F j) ∧ jm_rpn F') (nh := 69) (nv := 69) (s := 4) (s1 := 4) (d1 := 1) (M1 := jm_M172) (As := [.inl (.ref 1000)]) (rest := []) jm_ok150 rfl rfl (by decide) (by decide +kernel) (ct_v ok_4_172 rfl F X1 X2 hB hJ) (fun F3 F' hR p1 _ => ?_)
  obtain ⟨r1, r2, r3⟩ := hR
  have hB3 := hd_iveq r1 p1
  have hJ3 := jm_rpn_eq (fun q hq => p1 q (by revert q; decide)) r3
  have i1 : (sy_i F3 1).toInt = 0 := by rw [nz_fi (p1 1 (by decide)), nz_fi (r2 1 (by decide) (by decide))]; exact h1
  refine re_207 (by decide) F3 X1 X2 hB3 ?_
  intro F4 hb g e1 e2 e4 e5 e6 e11 e12 e13 e14 e15 a25 a31 a35 a42 a43 a44 a45 a46 a47 a48 a49 a50
  exact ⟨_, F4, rfl, rfl, hb, jm_rpn_eq (fun q hq => g q (by revert q; decide) (by revert q; decide)) hJ3, by omega⟩
theorem re_200 (F : Nat → sy_d) (hB : iv_in F iv_B4) (hJ : jm_rpn F) (h1 : (sy_i F 1).toInt = 0) :
    hd_W Ls xs 8 jm_M150 (re_Q X1 X2) (200, sy_dL F [some (.inl (.ref 1000)), none], sy_dS F [.inl (.ref 1000)], sy_dh F X1 X2 (iv_H 4), 0, 0) := by
  refine hd_calV (R := fun F' => iv_in F' iv_B4 ∧ (∀ j, j < 69 → [18, 55].contains j = false → F' j = F j) ∧ jm_rpn F') (nh := 69) (nv := 69) (s := 4) (s1 := 4) (d1 := 1) (M1 := jm_M171) (As := [.inl (.ref 1000)]) (rest := []) jm_ok150 rfl rfl (by decide) (by decide +kernel) (ct_v ok_4_171 rfl F X1 X2 hB hJ) (fun F3 F' hR p1 _ => ?_)
  obtain ⟨r1, r2, r3⟩ := hR
  have hB3 := hd_iveq r1 p1
  have hJ3 := jm_rpn_eq (fun q hq => p1 q (by revert q; decide)) r3
  have i1 : (sy_i F3 1).toInt = 0 := by rw [nz_fi (p1 1 (by decide)), nz_fi (r2 1 (by decide) (by decide))]; exact h1
  refine re_203 (by decide) F3 X1 X2 hB3 ?_
  intro F4 hb g e1 e2 e4 e5 e6 e11 e12 e13 e14 e15 a25 a31 a35 a42 a43 a44 a45 a46 a47 a48 a49 a50
  exact re_204 X1 X2 F4 hb (jm_rpn_eq (fun q hq => g q (by revert q; decide) (by revert q; decide)) hJ3) (by omega)
theorem re_loop : ∀ (n : Nat) (F : Nat → sy_d), pk F → (sy_i F 1).toInt = 0 → ((sy_i F 6).toInt = 0 → 400 - (sy_i F 4).toInt < n) →
    hd_W Ls xs 8 jm_M150 (re_Q X1 X2) (112, sy_dL F [some (.inl (.ref 1000)), none], sy_dS F [], sy_dh F X1 X2 (iv_H 4), 0, 0) := by
  intro n
  induction n with
  | zero =>
    intro F hP h1 hn
    have c4 := nz_bx hP.1 (k := 4) (lo := 0) (hi := 400) rfl
    refine re_112 (by decide) F X1 X2 hP.1 ?_ ?_ ?_ ?_
    · intros
      rename_i F1 hb g e1 e2 e4 e5 e6 e11 e12 e13 e14 e15 a25 a31 a35 a42 a43 a44 a45 a46 a47 a48 a49 a50
      exact ⟨_, F1, rfl, rfl, hb, jm_rpn_eq (fun q hq => g q (by revert q; decide) (by revert q; decide)) hP.2.2.1, by omega⟩
    all_goals (intros; exfalso; omega)
  | succ n ih =>
    intro F hP h1 hn
    have c4 := nz_bx hP.1 (k := 4) (lo := 0) (hi := 400) rfl
    refine re_112 (by decide) F X1 X2 hP.1 ?_ ?_ ?_ ?_
    · intros
      rename_i F1 hb g e1 e2 e4 e5 e6 e11 e12 e13 e14 e15 a25 a31 a35 a42 a43 a44 a45 a46 a47 a48 a49 a50
      exact ⟨_, F1, rfl, rfl, hb, jm_rpn_eq (fun q hq => g q (by revert q; decide) (by revert q; decide)) hP.2.2.1, by omega⟩
    · intro q6 _ _ F1 hb g e1 e2 e4 e5 e6 e11 e12 e13 e14 e15 a25 a31 a35 a42 a43 a44 a45 a46 a47 a48 a49 a50
      have hG1 : gr [] F F1 := gr_mk hb g (by decide) (by omega) (by omega)
      obtain ⟨m1, m2, m3, m4, m5, m6, m7⟩ := hP.2.2.2 q6
      have hP1 : pk F1 := pk_of hP hG1 (by decide) (fun _ => pj_of (hP.2.2.2 q6) hG1 (by decide) (by rw [e13, a31, a35]; exact m6))
      refine hd_calV (R := fun F' => gr WO F1 F' ∧ pk F' ∧ ((sy_i F' 6).toInt = 0 → (sy_i F1 4).toInt + 1 ≤ (sy_i F' 4).toInt)) (nh := 69) (nv := 69) (s := 4) (s1 := 4) (d1 := 7) (M1 := jm_M154) (As := [.inl (.ref 1000)]) (rest := []) jm_ok150 rfl rfl (by decide) (by decide +kernel) (to_T X1 X2 F1 hP1 (by omega)) (fun F3 F' hR p1 _ => ?_)
      obtain ⟨r1, r2, r3⟩ := hR
      have k1 := nz_fi (p1 1 (by decide))
      have k4 := nz_fi (p1 4 (by decide))
      have k6 := nz_fi (p1 6 (by decide))
      have r1i := r1.i (k := 1) (by decide) (by decide)
      have G3 : gr [] F' F3 := ⟨hd_iveq r1.b p1, fun j hj _ => p1 j hj, by omega, by omega⟩
      have hP3 : pk F3 := pk_of r2 G3 (by decide) (fun z => by
        have y := r2.2.2.2 (by omega)
        obtain ⟨y1, y2, y3, y4, y5, y6, y7⟩ := id y
        exact pj_of y G3 (by decide) (by rw [nz_fi (p1 13 (by decide)), nz_fa (p1 31 (by decide)), nz_fa (p1 35 (by decide))]; exact y6))
      refine re_131 (by decide) F3 X1 X2 hP3.1 ?_
      intro F4 hb4 g4 e1' e2' e4' e5' e6' e11' e12' e13' e14' e15' a25' a31' a35' a42' a43' a44' a45' a46' a47' a48' a49' a50'
      have hG4 : gr [] F3 F4 := gr_mk hb4 g4 (by decide) (by omega) (by omega)
      have hP4 : pk F4 := pk_of hP3 hG4 (by decide) (fun z => by
        have y := hP3.2.2.2 (by omega)
        obtain ⟨y1, y2, y3, y4, y5, y6, y7⟩ := id y
        exact pj_of y hG4 (by decide) (by rw [e13', a31', a35']; exact y6))
      refine ih F4 hP4 (by omega) (fun z => ?_)
      have y := r3 (by omega)
      have y2 := hn q6
      omega
    · intro q6 _ _ _ _ _ _ F1 hb g e1 e2 e4 e5 e6 e11 e12 e13 e14 e15 a25 a31 a35 a42 a43 a44 a45 a46 a47 a48 a49 a50
      obtain ⟨m1, m2, m3, m4, m5, m6, m7⟩ := hP.2.2.2 q6
      have c12 := nz_bx hP.1 (k := 12) (lo := 0) (hi := 1) rfl
      refine re_200 X1 X2 F1 hb ?_ (by omega)
      have e : (sy_i F1 11).toNatClampNeg = (sy_i F 12).toInt.toNat := by
        show (sy_i F1 11).toInt.toNat = _
        rw [e11]
      unfold jm_rpn
      rw [e]
      exact rp_S_keep m1 (fun k _ => by rw [a42, a43]; exact ⟨rfl, rfl⟩) (fun b _ _ => s5_same a44 a45 a46 a47 a48 b) (fun i _ _ => by rw [a49, a50]; exact ⟨rfl, rfl⟩) (by omega) (by omega)
    · intros
      rename_i F1 hb g e1 e2 e4 e5 e6 e11 e12 e13 e14 e15 a25 a31 a35 a42 a43 a44 a45 a46 a47 a48 a49 a50
      exact ⟨_, F1, rfl, rfl, hb, jm_rpn_eq (fun q hq => g q (by revert q; decide) (by revert q; decide)) hP.2.2.1, by omega⟩
theorem re_42 (F : Nat → sy_d) (hB : iv_in F iv_B4) (hJ : jm_rpn F) (h1 : (sy_i F 1).toInt = 0) :
    hd_W Ls xs 8 jm_M150 (re_Q X1 X2) (42, sy_dL F [some (.inl (.ref 1000)), none], sy_dS F [.inl (.ref 1000)], sy_dh F X1 X2 (iv_H 4), 0, 0) := by
  refine hd_calV (R := fun F' => iv_in F' iv_B4 ∧ (∀ j, j < 69 → [3, 25, 26, 27, 28].contains j = false → F' j = F j) ∧ jm_rpn F') (nh := 69) (nv := 69) (s := 4) (s1 := 4) (d1 := 3) (M1 := jm_M142) (As := [.inl (.ref 1000)]) (rest := []) jm_ok150 rfl rfl (by decide) (by decide +kernel) (ct_v ok_4_142 rfl F X1 X2 hB hJ) (fun F3 F' hR p1 _ => ?_)
  obtain ⟨r1, r2, r3⟩ := hR
  have hB3 := hd_iveq r1 p1
  have hJ3 := jm_rpn_eq (fun q hq => p1 q (by revert q; decide)) r3
  have i1 : (sy_i F3 1).toInt = 0 := by rw [nz_fi (p1 1 (by decide)), nz_fi (r2 1 (by decide) (by decide))]; exact h1
  have c11 := nz_bx hB3 (k := 11) (lo := 0) (hi := 1) rfl
  refine re_45 (by decide) F3 X1 X2 hB3 ?_
  intro F4 hb g e1 e2 e4 e5 e6 e11 e12 e13 e14 e15 a25 a31 a35 a42 a43 a44 a45 a46 a47 a48 a49 a50
  have u42 : ∀ i : Nat, (sy_ai F4 42).getD i 0 = if 6 * (1 - (sy_i F3 11).toInt) ≤ i ∧ (i : Int) < 6 * (1 - (sy_i F3 11).toInt) + 6 then 0 else (sy_ai F3 42).getD i 0 := fun i => by rw [a42]; exact u6_at _ _ (by omega) (by omega) i
  have u43 : ∀ i : Nat, (sy_ai F4 43).getD i 0 = if 6 * (1 - (sy_i F3 11).toInt) ≤ i ∧ (i : Int) < 6 * (1 - (sy_i F3 11).toInt) + 6 then 0 else (sy_ai F3 43).getD i 0 := fun i => by rw [a43]; exact u6_at _ _ (by omega) (by omega) i
  refine re_loop X1 X2 401 F4 ⟨hb, by omega, ?_, fun _ => ⟨?_, by omega, by omega, by omega, by omega, ?_, e5⟩⟩ (by omega) (fun _ => by omega)
  · have e : (sy_i F4 11).toNatClampNeg = (sy_i F3 11).toInt.toNat := by
      show (sy_i F4 11).toInt.toNat = _
      rw [e11]
    have hr' : rp_S F3 (sy_i F3 11).toInt.toNat (130 * (sy_i F3 11).toInt.toNat + 130) (420 * (sy_i F3 11).toInt.toNat + 420) := hJ3
    unfold jm_rpn
    rw [e]
    exact rp_S_keep hr' (fun k hk => by rw [u42, u43, if_neg (by omega), if_neg (by omega)]; exact ⟨rfl, rfl⟩) (fun b _ _ => s5_same a44 a45 a46 a47 a48 b) (fun i _ _ => by rw [a49, a50]; exact ⟨rfl, rfl⟩) (Int.le_refl _) (Int.le_refl _)
  · intro k b hk q1 q2
    rw [u43, if_pos (by omega)] at q2
    have z : (0 : Int32).toInt = 0 := by decide
    rw [z] at q2
    omega
  · have z : (0 : Int32).toInt = 0 := by decide
    rw [a31, a35, e12, jm_upd_at, jm_upd_at, if_pos rfl, if_pos rfl, z, e13]
    rfl
theorem re_copy : ∀ (n : Nat) (F : Nat → sy_d), iv_in F iv_B4 → jm_rpn F → 0 ≤ (sy_i F 69).toInt → (sy_i F 69).toInt ≤ 2000 → 2000 - (sy_i F 69).toInt < n →
    hd_W Ls xs 8 jm_M150 (re_Q X1 X2) (10, sy_dL F [some (.inl (.ref 1000)), some (.inr (.inl 69))], sy_dS F [], sy_dh F X1 X2 (iv_H 4), 0, 0)
  | 0, F, _, _, h1, h2, h3 => absurd h3 (by omega)
  | n + 1, F, hB, hJ, h1, h2, h3 => by
    have c2 := nz_bx hB (k := 2) (lo := 0) (hi := 2000) rfl
    refine re_10 (by decide) F X1 X2 hB ⟨h1, h2⟩ ?_ ?_
    · intro q F1 hb g e1 e2 e4 e5 e6 e11 e12 e13 e14 e15 a25 a31 a35 a42 a43 a44 a45 a46 a47 a48 a49 a50
      exact re_42 X1 X2 F1 hb (jm_rpn_eq (fun q hq => g q (by revert q; decide) (by revert q; decide)) hJ) e1
    · intro q F1 hb g e1 e2 e4 e5 e6 e11 e12 e13 e14 e15 a25 a31 a35 a42 a43 a44 a45 a46 a47 a48 a49 a50 e69
      exact re_copy n F1 hb (jm_rpn_eq (fun q hq => g q (by revert q; decide) (by revert q; decide)) hJ) (by omega) (by omega) (by omega)
theorem re_T (F : Nat → sy_d) (hB : iv_in F iv_B4) (hJ : jm_rpn F) : jm_T Ls xs 8 jm_M150 [.ref 1000] (sy_dh F X1 X2 (iv_H 4)) 0 0 (re_Q X1 X2) := by
  refine nz_T0 jm_ok150 (by decide) (re_0 (by decide) F X1 X2 hB ?_)
  intro F1 hb g e1 e2 e4 e5 e6 e11 e12 e13 e14 e15 a25 a31 a35 a42 a43 a44 a45 a46 a47 a48 a49 a50 e69
  exact re_copy X1 X2 2001 F1 hb (jm_rpn_eq (fun q hq => g q (by revert q; decide) (by revert q; decide)) hJ) (by omega) (by omega) (by omega)
end RE
