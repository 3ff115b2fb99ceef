/-! ===== the reference reads: what is behind it ===== -/
abbrev KR : List Nat := [20, 21, 54, 60, 63, 64, 67, 68]
noncomputable def rq_Q (X1 X2 : List jm_c) (a : Int × Int) (C TL : tX) (TK : Nat → sy_d) (v : Option Value) (G : jm_h) : Prop := ∃ (x : Int32) (F' : Nat → sy_d), v = some (.int x) ∧ G = sy_dh F' X1 X2 (iv_H 4) ∧ iv_in F' iv_B4 ∧ jm_rpn F' ∧ (sy_i F' 1).toInt = 0 ∧ x.toInt = a.1 ∧ (sy_i F' 10).toInt = a.2 ∧ F' 29 = TK 29 ∧ (a.1 = 0 → (sy_i F' 20).toInt = 0 ∧ (sy_i F' 21).toInt = 0 ∧ (∀ j, j < 3 → (sy_ai F' 67).getD j 0 = 0) ∧ rXl C F' ∧ (wT C → gNw C F' (begS C))) ∧ (a.1 ≠ 0 → (∀ j, j ∈ KR → F' j = TK j) ∧ rXl TL F')
theorem rq_mono {X1 X2 : List jm_c} {a : Int × Int} {C TL : tX} {TK TK' : Nat → sy_d} {v : Option Value} {G : jm_h} (h : rq_Q X1 X2 a C TL TK v G) (e : ∀ j, j ∈ KR → TK j = TK' j) (e29 : TK 29 = TK' 29) : rq_Q X1 X2 a C TL TK' v G := by
  obtain ⟨x, F', h1, h2, h3, h4, h5, h6, h7, h8, h9, h10⟩ := h
  exact ⟨x, F', h1, h2, h3, h4, h5, h6, h7, h8.trans e29, h9, fun z => ⟨fun j hj => ((h10 z).1 j hj).trans (e j hj), (h10 z).2⟩⟩
section RQ
variable {Ls : Nat} {xs : Nat → Int32} (X1 X2 : List jm_c) (C TL : tX) (TK : Nat → sy_d)
theorem rq_204 (F : Nat → sy_d) (hB : iv_in F iv_B4) (hJ : jm_rpn F) (h1 : (sy_i F 1).toInt = 0) (h10 : (sy_i F 10).toInt = -1) (h29 : F 29 = TK 29) (hC : rXl C F) (hR : wT C → gRow C F (begS C)) :
    hd_W Ls xs 8 jm_M150 (rq_Q X1 X2 (0, -1) C TL TK) (204, sy_dL F [some (.inl (.ref 1000)), none], sy_dS F [.inl (.ref 1000)], sy_dh F X1 X2 (iv_H 4), 0, 0) := by
  refine hd_calV (R := fun F' => qR [54] F F' ∧ ∀ j, j < 61 → (sy_ai F' 54).getD j 0 = (sy_ai F 55).getD j 0) (nh := 69) (nv := 69) (s := 4) (s1 := 4) (d1 := 1) (M1 := jm_M172) (As := [.inl (.ref 1000)]) (rest := []) jm_ok150 rfl rfl (by decide) (by decide +kernel) (kr_V F X1 X2 hB) (fun F3 F' hR' p1 _ => ?_)
  obtain ⟨r1, r2⟩ := hR'
  have r1' : qR [54] F F3 := qR_dst r1 p1
  have hB3 := r1'.1
  have hJ3 : jm_rpn F3 := jm_rpn_eq (fun q hq => r1'.2 q (by revert q; decide) (by revert q; decide)) hJ
  have i1 : (sy_i F3 1).toInt = 0 := by rw [qq_i r1' (by decide) (by decide)]; exact h1
  have i10 : (sy_i F3 10).toInt = -1 := by rw [qq_i r1' (by decide) (by decide)]; exact h10
  refine rey_207 (by decide) F3 X1 X2 hB3 ?_
  intro F4 hb g e1 e2 e4 e5 e6 e7 e8 e9 e10 e11 e12 e13 e14 e15 e20 e21 a25 a26 a27 a31 a35 a67 a42 a43 a44 a45 a46 a47 a48 a49 a50
  refine ⟨_, F4, rfl, rfl, hb, jm_rpn_eq (fun q hq => g q (by revert q; decide) (by revert q; decide)) hJ3, by omega, by decide, by omega, (g 29 (by decide) (by decide)).trans ((r1'.2 29 (by decide) (by decide)).trans h29), fun _ => ⟨e20, e21, fun j hj => ?_, rXl_eq hC (by rw [nz_fi (g 11 (by decide) (by decide)), qq_i r1' (by decide) (by decide)]) (fun a h1 h2 => (nz_fa (g a (by omega) (by first | (simp; done) | (simp; omega)))).trans (qq_a r1' (by omega) (by simp; omega))), fun hw => ?_⟩, fun z => absurd rfl z⟩
  · rw [a67, jm_upd_at, jm_upd_at, jm_upd_at]
    match j, hj with
    | 0, _ => rfl
    | 1, _ => rfl
    | 2, _ => rfl
    | n + 3, h => exact absurd h (by omega)
  · unfold gNw
    rw [nz_fa (g 54 (by decide) (by decide)), nz_fa (p1 54 (by decide))]
    exact gL_eq hw.1.1 hw.1.2.1 (hR hw) r2
theorem rq_200 (F : Nat → sy_d) (hB : iv_in F iv_B4) (hJ : jm_rpn F) (h1 : (sy_i F 1).toInt = 0) (h10 : (sy_i F 10).toInt = -1) (h29 : F 29 = TK 29) (hC : rXl C F) :
    hd_W Ls xs 8 jm_M150 (rq_Q X1 X2 (0, -1) C TL TK) (200, sy_dL F [some (.inl (.ref 1000)), none], sy_dS F [.inl (.ref 1000)], sy_dh F X1 X2 (iv_H 4), 0, 0) := by
  have key : jm_T Ls xs 1 jm_M171 [.ref 1000] (sy_dh F X1 X2 (iv_H 4)) 0 0 (pV 4 X1 X2 (fun F' => qR [18, 55] F F' ∧ (wT C → gRow C F' (begS C)))) := by
    by_cases hw : wT C
    · refine jm_T_mono (bg_V F X1 X2 ⟨hB, hC, hw⟩) ?_
      rintro v G ⟨F', e1, e2, e3, e4⟩
      exact ⟨F', e1, e2, e3, fun _ => e4⟩
    · refine jm_T_mono (ct_v ok_4_171 rfl F X1 X2 hB hJ) ?_
      rintro v G ⟨F', e1, e2, e3, e4, e5⟩
      exact ⟨F', e1, e2, ⟨e3, fun j hj hn => e4 j hj (by simpa using hn)⟩, fun z => absurd z hw⟩
  refine hd_calV (R := fun F' => qR [18, 55] F F' ∧ (wT C → gRow C F' (begS C))) (nh := 69) (nv := 69) (s := 4) (s1 := 4) (d1 := 1) (M1 := jm_M171) (As := [.inl (.ref 1000)]) (rest := []) jm_ok150 rfl rfl (by decide) (by decide +kernel) key (fun F3 F' hR p1 _ => ?_)
  obtain ⟨r1, r2⟩ := hR
  have r1' : qR [18, 55] F F3 := qR_dst r1 p1
  have hJ3 : jm_rpn F3 := jm_rpn_eq (fun q hq => r1'.2 q (by revert q; decide) (by revert q; decide)) hJ
  have i1 : (sy_i F3 1).toInt = 0 := by rw [qq_i r1' (by decide) (by decide)]; exact h1
  have i10 : (sy_i F3 10).toInt = -1 := by rw [qq_i r1' (by decide) (by decide)]; exact h10
  refine rey_203 (by decide) F3 X1 X2 r1'.1 ?_
  intro F4 hb g e1 e2 e4 e5 e6 e7 e8 e9 e10 e11 e12 e13 e14 e15 e20 e21 a25 a26 a27 a31 a35 a67 a42 a43 a44 a45 a46 a47 a48 a49 a50
  exact rq_204 X1 X2 C TL TK F4 hb (jm_rpn_eq (fun q hq => g q (by revert q; decide) (by revert q; decide)) hJ3) (by omega) (by omega) ((g 29 (by decide) (by decide)).trans ((r1'.2 29 (by decide) (by decide)).trans h29)) (rXl_eq hC (by rw [nz_fi (g 11 (by decide) (by decide)), qq_i r1' (by decide) (by decide)]) (fun a h1 h2 => (nz_fa (g a (by omega) (by first | (simp; done) | (simp; omega)))).trans (qq_a r1' (by omega) (by simp; omega)))) (fun hw => gRow_e (r2 hw) ((nz_fa (g 55 (by decide) (by decide))).trans (nz_fa (p1 55 (by decide)))))
theorem rq_loop (K V P : Nat → Int) (N : Nat → Int64) (L : Nat) (rr : sE ⊕ (sT × tX)) : ∀ (n : Nat) (F : Nat → sy_d), pk F → (sy_i F 1).toInt = 0 → ((sy_i F 6).toInt = 0 → 400 - (sy_i F 4).toInt < n) → rIz K V N P L rr F → (∀ j, j ∈ KR → F j = TK j) → F 29 = TK 29 → rXl TL F →
    hd_W Ls xs 8 jm_M150 (rq_Q X1 X2 (sEnd P (prT rr)) (cnT rr) TL TK) (112, sy_dL F [some (.inl (.ref 1000)), none], sy_dS F [], sy_dh F X1 X2 (iv_H 4), 0, 0) := by
  intro n
  induction n with
  | zero =>
    intro F hP h1 hn hI hk h29 hTL
    have c4 := nz_bx hP.1 (k := 4) (lo := 0) (hi := 400) rfl
    have k7 := hI.2.2.2
    refine rey_112 (by decide) F X1 X2 hP.1 ?_ ?_ ?_ ?_
    · intro q1 q2 q3 F1 hb g e1 e2 e4 e5 e6 e7 e8 e9 e10 e11 e12 e13 e14 e15 e20 e21 a25 a26 a27 a31 a35 a67 a42 a43 a44 a45 a46 a47 a48 a49 a50
      obtain ⟨tok, t1, t2⟩ := k7 q1
      refine ⟨_, F1, rfl, rfl, hb, jm_rpn_eq (fun q hq => g q (by revert q; decide) (by revert q; decide)) hP.2.2.1, by omega, ?_, ?_, (g 29 (by decide) (by decide)).trans h29, fun z => ?_, fun _ => ⟨fun j hj => (g j (by revert j; decide) (by revert j; decide)).trans (hk j hj), rXl_eq hTL (nz_fi (g 11 (by decide) (by decide))) (fun a h1 h2 => nz_fa (g a (by omega) (by first | (simp; done) | (simp; omega))))⟩⟩
      · rw [t1]
        rfl
      · rw [t1, e10, t2]
        rfl
      · rw [t1] at z
        exact absurd z q1
    all_goals (clear hI k7; intros; exfalso; omega)
  | succ n ih =>
    intro F hP h1 hn hI hk h29 hTL
    have c4 := nz_bx hP.1 (k := 4) (lo := 0) (hi := 400) rfl
    obtain ⟨⟨k1, k2, k3, k4⟩, k5, k6, k7⟩ := id hI
    have eK : K (tn F) = ((sy_ai F 25).getD (sy_i F 4).toInt.toNat 0).toInt := by rw [← k1]; rfl
    refine rey_112 (by decide) F X1 X2 hP.1 ?_ ?_ ?_ ?_
    · intro q1 q2 q3 F1 hb g e1 e2 e4 e5 e6 e7 e8 e9 e10 e11 e12 e13 e14 e15 e20 e21 a25 a26 a27 a31 a35 a67 a42 a43 a44 a45 a46 a47 a48 a49 a50
      obtain ⟨tok, t1, t2⟩ := k7 q1
      refine ⟨_, F1, rfl, rfl, hb, jm_rpn_eq (fun q hq => g q (by revert q; decide) (by revert q; decide)) hP.2.2.1, by omega, ?_, ?_, (g 29 (by decide) (by decide)).trans h29, fun z => ?_, fun _ => ⟨fun j hj => (g j (by revert j; decide) (by revert j; decide)).trans (hk j hj), rXl_eq hTL (nz_fi (g 11 (by decide) (by decide))) (fun a h1 h2 => nz_fa (g a (by omega) (by first | (simp; done) | (simp; omega))))⟩⟩
      · rw [t1]
        rfl
      · rw [t1, e10, t2]
        rfl
      · rw [t1] at z
        exact absurd z q1
    · intro q6 _ qk F1 hb g e1 e2 e4 e5 e6 e7 e8 e9 e10 e11 e12 e13 e14 e15 e20 e21 a25 a26 a27 a31 a35 a67 a42 a43 a44 a45 a46 a47 a48 a49 a50
      have g0 : ∀ q, q < 69 → F1 q = F q := fun q hq => g q hq (by simp)
      have hG1 : gr [] F F1 := gr_mk hb g (by decide) (by omega) (by omega)
      obtain ⟨m1, m2, m3, m4, m5, m6, m7⟩ := hP.2.2.2 q6
      have hP1 : pk F1 := pk_of hP hG1 (by decide) (fun _ => pj_of (hP.2.2.2 q6) hG1 (by decide) (by rw [e13, a31, a35]; exact m6))
      have hI1 := rIz_eq hI g0
      obtain ⟨⟨y1, y2, y3, y4⟩, y5, y6, y7⟩ := id hI1
      obtain ⟨nn, x, T, z1, z2, z3, zT⟩ := y6 (by omega)
      refine hd_calV (R := fun F' => gr WO F1 F' ∧ pk F' ∧ ((sy_i F' 6).toInt = 0 → (sy_i F1 4).toInt + 1 ≤ (sy_i F' 4).toInt) ∧ toy_A F1 F' ∧ toz_C F1 F' ∧ oth F1 F') (nh := 69) (nv := 69) (s := 4) (s1 := 4) (d1 := 7) (M1 := jm_M154) (As := [.inl (.ref 1000)]) (rest := []) jm_ok150 rfl rfl (by decide) (by decide +kernel) (toz_T X1 X2 F1 hP1 (by omega)) (fun F3 F' hR p1 _ => ?_)
      obtain ⟨r1, r2, r3, r4, r5, r6⟩ := hR
      have w1 := nz_fi (p1 1 (by decide))
      have w4 := nz_fi (p1 4 (by decide))
      have w6 := nz_fi (p1 6 (by decide))
      have r1i := r1.i (k := 1) (by decide) (by decide)
      have G3 : gr [] F' F3 := ⟨hd_iveq r1.b p1, fun j hj _ => p1 j hj, by omega, by omega⟩
      have hP3 : pk F3 := pk_of r2 G3 (by decide) (fun z => by
        have y := r2.2.2.2 (by omega)
        obtain ⟨y1, y2, y3, y4, y5, y6, y7⟩ := id y
        exact pj_of y G3 (by decide) (by rw [nz_fi (p1 13 (by decide)), nz_fa (p1 31 (by decide)), nz_fa (p1 35 (by decide))]; exact y6))
      have hk0 : K x.1 ≠ 0 := by
        rw [← z2.1, tn_eq e4, eK]
        exact qk
      obtain ⟨nn', rfl⟩ : ∃ nn', nn = nn' + 1 := ⟨nn - 1, by
        have : tn F1 ≤ 400 := by unfold tn; omega
        omega⟩
      have hrr : rr = sB (sOne K V N x) (fun x' => zRun K V N nn' x' (tU K V x.1 T)) := by
        rw [z3]
        show (if K x.1 = 0 then _ else _) = _
        rw [if_neg hk0]
      have hA := r4 L x (by rw [y1, y4]; exact y5) (by rw [y4]; exact z2)
      rw [y1, y2, y3, y4] at hA
      obtain ⟨hA1, hA2⟩ := hA (by omega)
      have hI' : rIz K V N P L rr F' := by
        refine ⟨⟨(kf_eq (r1.f 25 (by decide) (by decide))).trans y1, (vf_eq (r1.f 27 (by decide) (by decide))).trans y2, (nf_eq (r1.f 28 (by decide) (by decide))).trans y3, (pf_eq (r1.f 26 (by decide) (by decide))).trans y4⟩, y5, fun z => ?_, fun z => ?_⟩
        · obtain ⟨x', a1, a2⟩ := hA2 z
          have hC5 := r5 L x T (by rw [y1, y4]; exact y5) (by rw [y4]; exact z2) zT z
          rw [y1, y2, z2.1] at hC5
          refine ⟨nn', x', tU K V x.1 T, ?_, a2, by rw [hrr, a1]; rfl, hC5⟩
          have := r3 z
          unfold tn at z1 ⊢
          omega
        · obtain ⟨tok, a1, a2⟩ := hA1 z
          exact ⟨tok, by rw [hrr, a1]; rfl, a2⟩
      refine rey_131 (by decide) F3 X1 X2 hP3.1 ?_
      intro F4 hb4 g4 e1' e2' e4' e5' e6' e7' e8' e9' e10' e11' e12' e13' e14' e15' e20' e21' a25' a26' a27' a31' a35' a67' a42' a43' a44' a45' a46' a47' a48' a49' a50'
      have hG4 : gr [] F3 F4 := gr_mk hb4 g4 (by decide) (by omega) (by omega)
      have hP4 : pk F4 := pk_of hP3 hG4 (by decide) (fun z => by
        have y := hP3.2.2.2 (by omega)
        obtain ⟨y1, y2, y3, y4, y5, y6, y7⟩ := id y
        exact pj_of y hG4 (by decide) (by rw [e13', a31', a35']; exact y6))
      have ee : ∀ q, q < 69 → F4 q = F' q := fun q hq => (g4 q hq (by simp)).trans (p1 q hq)
      refine ih F4 hP4 (by omega) (fun z => ?_) (rIz_eq hI' ee) (fun j hj => (ee j (by revert j; decide)).trans ((r1.f j (by revert j; decide) (by revert j; decide)).trans ((g0 j (by revert j; decide)).trans (hk j hj)))) ((ee 29 (by decide)).trans ((r1.f 29 (by decide) (by decide)).trans ((g0 29 (by decide)).trans h29))) (rXl_eq (oth_live hP1.1 hP1.2.1 hP1.2.2.1 r6 (rXl_eq hTL (nz_fi (g0 11 (by decide))) (fun a h1 h2 => nz_fa (g0 a (by omega))))) (nz_fi (ee 11 (by decide))) (fun a h1 h2 => nz_fa (ee a (by omega))))
      have y := r3 (by omega)
      have y2 := hn q6
      omega
    · intro q6 _ qk _ _ _ q8 F1 hb g e1 e2 e4 e5 e6 e7 e8 e9 e10 e11 e12 e13 e14 e15 e20 e21 a25 a26 a27 a31 a35 a67 a42 a43 a44 a45 a46 a47 a48 a49 a50
      obtain ⟨m1, m2, m3, m4, m5, m6, m7⟩ := hP.2.2.2 q6
      have c12 := nz_bx hP.1 (k := 12) (lo := 0) (hi := 1) rfl
      obtain ⟨nn, x, T, z1, z2, z3, zT⟩ := k6 q6
      obtain ⟨nn', rfl⟩ : ∃ nn', nn = nn' + 1 := ⟨nn - 1, by
        have : tn F ≤ 400 := by unfold tn; omega
        omega⟩
      have hrr : rr = .inr (x, T) := by
        rw [z3]
        show (if K x.1 = 0 then _ else _) = _
        rw [if_pos (by rw [← z2.1, eK]; exact qk)]
      have hw := z2.2.2.2.2.2
      have hw0 : x.2.2.2.2.1 = 0 := by
        obtain ⟨a, b, -⟩ := hw
        omega
      have hE : sEnd P (prT rr) = (0, -1) := by
        rw [hrr]
        show (if x.2.2.2.2.1 = 0 then _ else _) = _
        rw [if_pos hw0]
      rw [hE]
      refine rq_200 X1 X2 (cnT rr) TL TK F1 hb ?_ (by omega) e10 ((g 29 (by decide) (by decide)).trans h29) (by rw [hrr]; exact rXl_of zT e11 (fun a h1 h2 => nz_fa (g a (by omega) (by first | (simp; done) | (simp; omega)))))
      have e : (sy_i F1 11).toNatClampNeg = (sy_i F 12).toInt.toNat := by
        show (sy_i F1 11).toInt.toNat = _
        rw [e11]
      unfold jm_rpn
      rw [e]
      exact rp_S_keep m1 (fun k _ => by rw [a42, a43]; exact ⟨rfl, rfl⟩) (fun b _ _ => s5_same a44 a45 a46 a47 a48 b) (fun i _ _ => by rw [a49, a50]; exact ⟨rfl, rfl⟩) (by omega) (by omega)
    · intro q6 _ qk _ q8 _ _ F1 hb g e1 e2 e4 e5 e6 e7 e8 e9 e10 e11 e12 e13 e14 e15 e20 e21 a25 a26 a27 a31 a35 a67 a42 a43 a44 a45 a46 a47 a48 a49 a50
      obtain ⟨nn, x, T, z1, z2, z3, zT⟩ := k6 q6
      obtain ⟨nn', rfl⟩ : ∃ nn', nn = nn' + 1 := ⟨nn - 1, by
        have : tn F ≤ 400 := by unfold tn; omega
        omega⟩
      have hrr : rr = .inr (x, T) := by
        rw [z3]
        show (if K x.1 = 0 then _ else _) = _
        rw [if_pos (by rw [← z2.1, eK]; exact qk)]
      obtain ⟨wa, wb, wc⟩ := z2.2.2.2.2.2
      have hw0 : x.2.2.2.2.1 ≠ 0 := by omega
      have hE : sEnd P (prT rr) = (x.2.2.2.2.1, P x.2.2.2.2.2) := by
        rw [hrr]
        show (if x.2.2.2.2.1 = 0 then _ else _) = _
        rw [if_neg hw0]
      rw [hE]
      exact ⟨_, F1, rfl, rfl, hb, jm_rpn_eq (fun q hq => g q (by revert q; decide) (by revert q; decide)) hP.2.2.1, by omega, wa, by rw [e10]; exact (wc hw0).1, (g 29 (by decide) (by decide)).trans h29, fun z => absurd z hw0, fun _ => ⟨fun j hj => (g j (by revert j; decide) (by revert j; decide)).trans (hk j hj), rXl_eq hTL (nz_fi (g 11 (by decide) (by decide))) (fun a h1 h2 => nz_fa (g a (by omega) (by first | (simp; done) | (simp; omega))))⟩⟩
/-- behind the cutting -/
theorem rq_45 (F3 : Nat → sy_d) (hB3 : iv_in F3 iv_B4) (hJ3 : jm_rpn F3) (i1 : (sy_i F3 1).toInt = 0) (L : Nat) (hm : pm (pf F3) (kf F3) L) (hTL : rXl TL F3) :
    hd_W Ls xs 8 jm_M150 (rq_Q X1 X2 (sEnd (pf F3) (prT (zRun (kf F3) (vf F3) (nf F3) 401 (0, 0, 0, [], (0, 0)) T0))) (cnT (zRun (kf F3) (vf F3) (nf F3) 401 (0, 0, 0, [], (0, 0)) T0)) TL F3) (45, sy_dL F3 [some (.inl (.ref 1000)), none], sy_dS F3 [], sy_dh F3 X1 X2 (iv_H 4), 0, 0) := by
  have c11 := nz_bx hB3 (k := 11) (lo := 0) (hi := 1) rfl
  refine rez_45 (by decide) F3 X1 X2 hB3 ?_
  intro F4 hb g e1 e2 e4 e5 e6 e7 e8 e9 e10 e11 e12 e13 e14 e15 e20 e21 a25 a26 a27 a31 a35 a67 a42 a43 a44 a45 a46 a47 a48 a49 a50 a39 a40 a41
  have u42 : ∀ i : Nat, (sy_ai F4 42).getD i 0 = if 6 * (1 - (sy_i F3 11).toInt) ≤ i ∧ (i : Int) < 6 * (1 - (sy_i F3 11).toInt) + 6 then 0 else (sy_ai F3 42).getD i 0 := fun i => by rw [a42]; exact u6_at _ _ (by omega) (by omega) i
  have u43 : ∀ i : Nat, (sy_ai F4 43).getD i 0 = if 6 * (1 - (sy_i F3 11).toInt) ≤ i ∧ (i : Int) < 6 * (1 - (sy_i F3 11).toInt) + 6 then 0 else (sy_ai F3 43).getD i 0 := fun i => by rw [a43]; exact u6_at _ _ (by omega) (by omega) i
  have z : (0 : Int32).toInt = 0 := by decide
  have f0 : ((sy_ai F4 31).getD (sy_i F4 12).toInt.toNat 0).toInt = 0 := by rw [a31, e12, jm_upd_at, if_pos rfl, z]
  have b0 : ((sy_ai F4 35).getD (sy_i F4 12).toInt.toNat 0).toInt = 0 := by rw [a35, e12, jm_upd_at, if_pos rfl, z]
  have t0 : tn F4 = 0 := by unfold tn; rw [e4]; rfl
  have s4 : sdf F4 = (1 - (sy_i F3 11).toInt).toNat := by unfold sdf; rw [e12]
  have hX0 : rX T0 F4 := by
    refine ⟨⟨f0, fun i v hv => absurd hv (by simp [T0])⟩, ⟨b0, fun i v hv => absurd hv (by simp [T0])⟩, ?_, ?_, ?_, fun k hk => ?_⟩
    · unfold ix; rw [s4, a39, jm_upd_at, if_pos rfl]; decide
    · unfold ix; rw [s4, a40, jm_upd_at, if_pos rfl]; decide
    · unfold ix; rw [s4, a41, jm_upd_at, if_pos rfl]; decide
    · show ix F4 42 _ = ix F4 43 _
      unfold ix
      rw [u42, u43, s4, if_pos (by omega), if_pos (by omega)]
  have hTL4 : rXl TL F4 := by
    obtain ⟨G, hG⟩ : ∃ G : Nat → sy_d, G = fun j => if j = 12 then F4 12 else F3 j := ⟨_, rfl⟩
    have G12 : G 12 = F4 12 := by rw [hG]; exact if_pos rfl
    have Gn : ∀ j, j ≠ 12 → G j = F3 j := fun j hj => by rw [hG]; exact if_neg hj
    have i12 : (sy_i G 12).toInt = 1 - (sy_i F3 11).toInt := by rw [nz_fi G12]; exact e12
    have hBG : iv_in G iv_B4 := fun j q hj => by
      by_cases z : j = 12
      · rw [z, G12]
        exact hb 12 q (by rw [← z]; exact hj)
      · rw [Gn j z]
        exact hB3 j q hj
    refine oth_live (F := G) hBG (by rw [i12, nz_fi (Gn 11 (by decide))]) (jm_rpn_eq (fun q hq => Gn q (by revert q; decide)) hJ3) ⟨G12.symm, ((g 11 (by decide) (by decide)).trans (Gn 11 (by decide)).symm), fun i hi => ?_, fun i _ => ⟨?_, ?_, ?_⟩, fun i _ => ⟨?_, ?_, ?_⟩, fun i hi => ⟨?_, ?_⟩, fun b _ => ?_, fun i _ => ⟨?_, ?_⟩⟩ (rXl_eq hTL (nz_fi (Gn 11 (by decide))) (fun a h1 h2 => nz_fa (Gn a (by omega))))
    · rw [i12] at hi
      unfold ix
      rw [a31, a35, a39, a40, a41, jm_upd_at, jm_upd_at, jm_upd_at, jm_upd_at, jm_upd_at, if_neg (by omega), if_neg (by omega), if_neg (by omega), if_neg (by omega), if_neg (by omega), nz_fa (Gn 31 (by decide)), nz_fa (Gn 35 (by decide)), nz_fa (Gn 39 (by decide)), nz_fa (Gn 40 (by decide)), nz_fa (Gn 41 (by decide))]
      exact ⟨rfl, rfl, rfl, rfl, rfl⟩
    · exact (ix_eq (nz_fa (g 32 (by decide) (by decide))) i).trans (ix_eq (nz_fa (Gn 32 (by decide))) i).symm
    · exact (ix_eq (nz_fa (g 33 (by decide) (by decide))) i).trans (ix_eq (nz_fa (Gn 33 (by decide))) i).symm
    · exact (ix_eq (nz_fa (g 34 (by decide) (by decide))) i).trans (ix_eq (nz_fa (Gn 34 (by decide))) i).symm
    · exact (ix_eq (nz_fa (g 36 (by decide) (by decide))) i).trans (ix_eq (nz_fa (Gn 36 (by decide))) i).symm
    · exact (ix_eq (nz_fa (g 37 (by decide) (by decide))) i).trans (ix_eq (nz_fa (Gn 37 (by decide))) i).symm
    · exact (ix_eq (nz_fa (g 38 (by decide) (by decide))) i).trans (ix_eq (nz_fa (Gn 38 (by decide))) i).symm
    · rw [i12] at hi
      unfold ix
      rw [u42, if_neg (by omega), nz_fa (Gn 42 (by decide))]
    · rw [i12] at hi
      unfold ix
      rw [u43, if_neg (by omega), nz_fa (Gn 43 (by decide))]
    · exact s5_same (a44.trans (nz_fa (Gn 44 (by decide))).symm) (a45.trans (nz_fa (Gn 45 (by decide))).symm) (a46.trans (nz_fa (Gn 46 (by decide))).symm) (a47.trans (nz_fa (Gn 47 (by decide))).symm) (a48.trans (nz_fa (Gn 48 (by decide))).symm) b
    · rw [a49, nz_fa (Gn 49 (by decide))]
    · rw [a50, nz_fa (Gn 50 (by decide))]
  refine rq_loop X1 X2 TL F3 (kf F3) (vf F3) (pf F3) (nf F3) L _ 401 F4 ⟨hb, by omega, ?_, fun _ => ⟨?_, by omega, by omega, by omega, by omega, by rw [f0, b0, e13]; rfl, e5⟩⟩ (by omega) (fun _ => by omega) ⟨⟨kf_eq (g 25 (by decide) (by decide)), vf_eq (g 27 (by decide) (by decide)), nf_eq (g 28 (by decide) (by decide)), pf_eq (g 26 (by decide) (by decide))⟩, hm, fun _ => ⟨401, (0, 0, 0, [], (0, 0)), T0, by omega, ⟨t0, Nat.zero_le _, f0, b0, ?_, ⟨e8, (show (0 : Int) ≤ 0 by decide), fun q => absurd rfl q⟩⟩, rfl, hX0⟩, fun q => absurd e6 q⟩ (fun j hj => g j (by revert j; decide) (by revert j; decide)) (g 29 (by decide) (by decide)) hTL4
  · have e : (sy_i F4 11).toNatClampNeg = (sy_i F3 11).toInt.toNat := by
      show (sy_i F4 11).toInt.toNat = _
      rw [e11]
    have hr' : rp_S F3 (sy_i F3 11).toInt.toNat (130 * (sy_i F3 11).toInt.toNat + 130) (420 * (sy_i F3 11).toInt.toNat + 420) := hJ3
    unfold jm_rpn
    rw [e]
    exact rp_S_keep hr' (fun k hk => by rw [u42, u43, if_neg (by omega), if_neg (by omega)]; exact ⟨rfl, rfl⟩) (fun b _ _ => s5_same a44 a45 a46 a47 a48 b) (fun i _ _ => by rw [a49, a50]; exact ⟨rfl, rfl⟩) (Int.le_refl _) (Int.le_refl _)
  · intro k b hk q1 q2
    rw [u43, if_pos (by omega), z] at q2
    omega
  · show [] = ml F4 (sy_i F4 13).toInt.toNat
    rw [e13]
    rfl
theorem rq_42 (F0 F : Nat → sy_d) (hTL : rXl TL F0) (hJ0 : jm_rpn F0) (hw : sy_al F0 29 = wls) {t : Nat} (hB : iv_in F iv_B4) (hF : ∀ j, j < 69 → j ∉ ([1, 2, 24] : List Nat) → F j = F0 j) (h1 : (sy_i F 1).toInt = 0) (h2 : (sy_i F 2).toInt = t) (h24 : ub (sy_ai F 24) t = ub (sy_ai F0 23) t) :
    hd_W Ls xs 8 jm_M150 (rq_Q X1 X2 (rdA (ub (sy_ai F0 23) t) t) (rdT (ub (sy_ai F0 23) t) t) TL F0) (42, sy_dL F [some (.inl (.ref 1000)), none], sy_dS F [.inl (.ref 1000)], sy_dh F X1 X2 (iv_H 4), 0, 0) := by
  refine hd_calV (R := fun F' => iv_in F' iv_B4 ∧ (∀ j, j < 69 → j ∉ WU → F' j = F j) ∧ ∃ L : Nat, L ≤ 400 ∧ (∀ j, j ≤ L → tf_ F F' j) ∧ (∀ j, j < L → kf F' j ≠ 0) ∧ (kf F' L = 0 ∨ L = 400)) (nh := 69) (nv := 69) (s := 4) (s1 := 4) (d1 := 5) (M1 := jm_M142) (As := [.inl (.ref 1000)]) (rest := []) jm_ok150 rfl rfl (by decide) (by decide +kernel) (rc_T X1 X2 hB) (fun F3 F' hR p1 _ => ?_)
  obtain ⟨r1, r2, L, r3, r4, r5, r6⟩ := hR
  have gg : ∀ j, j < 69 → j ∉ WU → j ∉ ([1, 2, 24] : List Nat) → F3 j = F0 j := fun j hj h1 h2 => (p1 j hj).trans ((r2 j hj h1).trans (hF j hj h2))
  have hz : zf F = t := by unfold zf; rw [h2]; rfl
  have hbf : bf F = ub (sy_ai F0 23) t := by unfold bf; rw [hz, h24]
  have hwf : wf F = fun k => wls.getD k 0 := by
    funext k
    unfold wf
    rw [nz_fl (hF 29 (by decide) (by decide)), hw]
  have e1 := kf_eq (p1 25 (by decide))
  have e2 := pf_eq (p1 26 (by decide))
  have e3 := vf_eq (p1 27 (by decide))
  have e4 := nf_eq (p1 28 (by decide))
  have tt : ∀ j, j ≤ L → tk (ub (sy_ai F0 23) t) t (wf F) (kf F3) (pf F3) (vf F3) (nf F3) j := fun j hj => by
    have := r4 j hj
    unfold tf_ at this
    rw [e1, e2, e3, e4]
    rw [hbf, hz] at this
    exact this
  rw [← e1] at r5 r6
  have hA := rd_same hwf tt (by rcases r6 with z | z; exact Or.inl z; exact Or.inr (Or.inr z))
  have hT := rd_sameT hwf tt (by rcases r6 with z | z; exact Or.inl z; exact Or.inr (Or.inr z))
  rw [← hA, ← hT]
  have gk : ∀ j, j ∈ KR → F3 j = F0 j := fun j hj => gg j (by revert j; decide) (by revert j; decide) (by revert j; decide)
  refine hd_mono (rq_45 X1 X2 TL F3 (hd_iveq r1 p1) (jm_rpn_eq (fun q hq => gg q (by revert q; decide) (by revert q; decide) (by revert q; decide)) hJ0) (by rw [nz_fi (p1 1 (by decide)), nz_fi (r2 1 (by decide) (by decide))]; exact h1) L ⟨tk_pm tt r5, r6, r3⟩ (rXl_eq hTL (nz_fi (gg 11 (by decide) (by decide) (by decide))) (fun a h1 h2 => nz_fa (gg a (by omega) (by simp; omega) (by simp; omega))))) ?_
  intro v G hq
  rw [prT_Run] at hq
  exact rq_mono hq gk (gg 29 (by decide) (by decide) (by decide))
theorem rq_L (F0 : Nat → sy_d) (hTL : rXl TL F0) (hB0 : iv_in F0 iv_B4) (hJ0 : jm_rpn F0) (hw : sy_al F0 29 = wls) {t : Nat} (ht : t ≤ 2000) : ∀ (m : Nat) (F : Nat → sy_d) (k : Nat), t - k < m → k ≤ t → iv_in F iv_B4 → (∀ j, j < 69 → j ∉ ([2, 24] : List Nat) → F j = F0 j) → (sy_i F 2).toInt = t → (sy_i F 69).toInt = k → (∀ j, j < k → (sy_ai F 24).getD j 0 = (sy_ai F0 23).getD j 0) →
    hd_W Ls xs 8 jm_M150 (rq_Q X1 X2 (rdA (ub (sy_ai F0 23) t) t) (rdT (ub (sy_ai F0 23) t) t) TL F0) (10, sy_dL F [some (.inl (.ref 1000)), some (.inr (.inl 69))], sy_dS F [], sy_dh F X1 X2 (iv_H 4), 0, 0) := by
  intro m
  induction m with
  | zero => intro F k hm; omega
  | succ m ih =>
    intro F k hm hk hB hF h2 h69 hc
    refine rt_10 (by decide) F X1 X2 hB ?_ ?_ ?_
    · omega
    · intro q F1 hb g e1 e2 a23 a24
      refine rq_42 X1 X2 TL F0 F1 hTL hJ0 hw hb (fun j hj hn => ?_) e1 (by omega) ?_
      · exact (g j hj (fun q => hn (by revert q; simp; omega))).trans (hF j hj (fun q => hn (by revert q; simp; omega)))
      · funext i
        unfold ub
        rw [a24]
        split
        · rw [hc i (by omega)]
        · rfl
    · intro q F1 hb g e1 e2 a23 a24 f69
      refine ih F1 (k + 1) (by omega) (by omega) hb (fun j hj hn => ?_) (by omega) (by omega) (fun j hj => ?_)
      · exact (g j hj (fun q => hn (by revert q; simp; omega))).trans (hF j hj hn)
      · rw [a24, jm_upd_at, h69, Int.toNat_natCast]
        split
        · rename_i z
          rw [nz_fa (hF 23 (by decide) (by decide)), z]
          exact b8i _ (nz_ba hB0 (k := 23) (lo := -128) (hi := 127) rfl _)
        · exact hc j (by omega)
/-- read -/
theorem rrd_V (F : Nat → sy_d) (hB : iv_in F iv_B4) (hJ : jm_rpn F) (hw : sy_al F 29 = wls) (hTL : rXl TL F) : jm_T Ls xs 8 jm_M150 [.ref 1000] (sy_dh F X1 X2 (iv_H 4)) 0 0 (rq_Q X1 X2 (rdA (ub (sy_ai F 23) (sy_i F 1).toInt.toNat) (sy_i F 1).toInt.toNat) (rdT (ub (sy_ai F 23) (sy_i F 1).toInt.toNat) (sy_i F 1).toInt.toNat) TL F) := by
  have c1 := nz_bx hB (k := 1) (lo := 0) (hi := 2000) rfl
  refine nz_T0 jm_ok150 (by decide) (rt_0 (by decide) F X1 X2 hB ?_)
  intro F1 hb g e1 e2 a23 a24 f69
  exact rq_L X1 X2 TL F hTL hB hJ hw (t := (sy_i F 1).toInt.toNat) (by omega) 2001 F1 0 (by omega) (by omega) hb (fun j hj hn => g j hj (fun q => hn (by revert q; simp; omega))) (by omega) (by omega) (fun j hj => absurd hj (Nat.not_lt_zero _))
end RQ
