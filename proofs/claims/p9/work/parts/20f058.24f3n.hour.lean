/-! ===== the class: an hour (shape 3, n) ===== -/
abbrev W3n : List Nat := [45, 46, 50, 53, 54, 55, 56, 58, 59, 61]
section H3n
variable {Ls : Nat} {xs : Nat → Int32} {T : tX} {g : gS} (F : Nat → sy_d) (X1 X2 : List jm_c)
theorem j3ngq {F F1 : Nat → sy_d} {W : List Nat} (hG : gC 50 (nfS T) (nbS T) F g) (q : qC W F F1) (h : ∀ a ∈ W, a < 50 ∨ 62 ≤ a) : gC 50 (nfS T) (nbS T) F1 g := gC_eq hG (fun j h1 h2 => q.2 j (by omega) (fun z => by have := h j z; omega))
/-- what lies there is sold, or kept -/
theorem j3nsk_V {cur : gS} (hC : xC 18 T F) (hG : gC 50 (nfS T) (nbS T) F cur) (hH : hV T g F) {f : Int32} (hf : 0 ≤ f.toInt ∧ f.toInt < nfS T) : jm_T Ls xs 5 jm_M4 [.ref 41, .ref 20, .ref 46, .int f] (sy_dh F X1 X2 (iv_H 3)) 0 0 (pV 3 X1 X2 (fun F' => qC W3n F F' ∧ gC 50 (nfS T) (nbS T) F' (lieS T cur f.toInt.toNat (Int32.ofInt (worthT T f.toInt.toNat (cur 1 f.toInt.toNat) (cur 4 f.toInt.toNat) (g 9 0) (lfS T g)))) ∧ hV T g F')) := by
  have l7 : nfS T ≤ 7 := hC.2.2.1.1.1
  have l4 : nbS T ≤ 4 := hC.2.2.1.1.2.1
  have ek : (sy_i F 21).toInt = T.2.2.2.1 := hC.2.1.2.2.2.1
  refine C_T (by decide) [f] [.inl (.ref 41), .inl (.ref 20), .inl (.ref 46), .inr (.inl 82)] jm_ok4 (by decide) rfl (fun F0 k0 ki => ?_)
  have i82 : sy_i F0 82 = f := ki 0
  obtain ⟨n, hn⟩ : ∃ n : Nat, n = f.toInt.toNat := ⟨_, rfl⟩
  have hnf : n < nfS T := by omega
  rw [← hn]
  refine j3nsk_0 (by decide) F0 X1 X2 (hd_iveq0 hC.1 k0) (by rw [i82]; omega) ?_
  intro F1 hb gg a45 e82 j82
  have q1 : qC W3n F F1 := qq_src (qq_mk hb gg (by decide)) k0
  rw [i82, ← hn] at a45
  rw [i82] at j82 e82
  have hx := xX_f hC hnf
  obtain ⟨fv, hvf⟩ := fV_set (T := T) (g := cur) (f := n) a45 (by rw [nz_fa (k0 53 (by decide))]; exact hG.1 1 n (by decide) (vF (by decide) hnf)) (by rw [nz_fa (k0 25 (by decide))]; exact hx.2.1) (by rw [nz_fa (k0 24 (by decide))]; exact hx.1) (by rw [nz_fa (k0 58 (by decide))]; exact hG.1 6 n (by decide) (vF (by decide) hnf)) (by rw [nz_fa (k0 57 (by decide))]; exact hG.1 5 n (by decide) (vF (by decide) hnf)) (by rw [nz_fa (k0 56 (by decide))]; exact hG.1 4 n (by decide) (vF (by decide) hnf))
  have hv1 := hvf (hV_e hH (nz_fa (k0 45 (by decide))))
  have c1 := xC_q (by decide) hC q1 (by decide)
  have g1 : gC 50 (nfS T) (nbS T) F1 cur := gC_eq hG (fun j h1 h2 => (gg j (by omega) (by intro z; simp at z <;> omega)).trans (k0 j (by omega)))
  have hw := wo_of c1.2.2.1 hv1 fv
  refine hd_calI (R := fun x F' => qC [46] F1 F' ∧ x.toInt = lwT T 3 (v45 F1)) (nh := 82) (nv := 83) (s := 3) (s1 := 3) (d1 := 4) (M1 := jm_M21) (As := [.inl (.ref 38), .inl (.ref 20), .inl (.int 3)]) (rest := []) jm_ok4 rfl rfl (by decide) (by decide +kernel) (j3tl_V F1 X1 X2 c1 (by decide) (by decide)) (fun F3 F' x hR p1 p2 p3 => ?_)
  obtain ⟨r1, r2⟩ := hR
  rw [hw] at r2
  obtain ⟨c, hc⟩ : ∃ c : Int32, c = Int32.ofInt (worthT T n (cur 1 n) (cur 4 n) (g 9 0) (lfS T g)) := ⟨_, rfl⟩
  rw [← hc]
  have r1' : qC [46] F1 F3 := qC_dst r1 p1
  have q3 : qC W3n F F3 := qq_trans q1 (qq_up r1' (by decide))
  have i83 : sy_i F3 83 = c := by rw [zz_i p3, hc]; exact (ofi r2).symm
  have k82 : sy_i F3 82 = f := (eI (p2 82 (by decide) (by decide))).trans j82
  have g3 : gC 50 (nfS T) (nbS T) F3 cur := j3ngq g1 r1' (by decide)
  have hv3 := hV_e hv1 (qq_a r1' (by decide) (by decide))
  refine j3nsk_19 (by decide) F3 X1 X2 q3.1 (by rw [k82]; omega) ?_
  intro F4 hb4 g4 e82' j82' e83' j83' e84' j84'
  have q4' : qC W3n F F4 := qq_on q3 hb4 g4 (by decide)
  have j84 : sy_i F4 84 = cur 0 n := by
    rw [j84', k82, ← hn]
    exact g3.1 0 n (by decide) (vF (by decide) hnf)
  have j83 : sy_i F4 83 = c := j83'.trans i83
  have g4' : gC 50 (nfS T) (nbS T) F4 cur := gC_eq g3 (fun j h1 h2 => g4 j (by omega) (by simp))
  refine hd_calI (R := fun x F' => qC [] F4 F' ∧ x.toInt = fsS cur (sy_i F4 84) (sy_i F4 83).toInt (nbS T)) (nh := 82) (nv := 84) (s := 3) (s1 := 3) (d1 := 1) (M1 := jm_M14) (As := [.inl (.ref 46), .inl (.ref 20), .inr (.inl 84), .inr (.inl 83)]) (rest := []) jm_ok4 rfl rfl (by decide) (by decide +kernel) (j3nfa_V F4 X1 X2 (xC_q (by decide) hC q4' (by decide)) g4' _ _) (fun F5 F6 y hR2 p1' p2' p3' => ?_)
  obtain ⟨s1, s2⟩ := hR2
  rw [j84, j83] at s2
  have s1' : qC [] F4 F5 := qC_dst s1 p1'
  have q5 : qC W3n F F5 := qq_trans q4' (qq_up s1' (by decide))
  have g5 : gC 50 (nfS T) (nbS T) F5 cur := j3ngq g4' s1' (by decide)
  have hv5 := hV_e (hV_e hv3 (nz_fa (g4 45 (by decide) (by decide)))) (qq_a s1' (by decide) (by decide))
  have m82 : (sy_i F5 82).toInt.toNat = n := by rw [nz_fi (p2' 82 (by decide) (by decide)), e82', k82]; exact hn.symm
  have m82b : 0 ≤ (sy_i F5 82).toInt ∧ (sy_i F5 82).toInt ≤ 6 := by rw [nz_fi (p2' 82 (by decide) (by decide)), e82', k82]; omega
  have m83 : sy_i F5 83 = c := (eI (p2' 83 (by decide) (by decide))).trans j83
  have m84 : (sy_i F5 84).toInt = fsS cur (cur 0 n) c.toInt (nbS T) := by rw [zz_i p3']; exact s2
  have hfs := fs_in cur (cur 0 n) c.toInt (nbS T)
  have r4 : (sy_ai F5 56).getD n 0 = cur 4 n := g5.1 4 n (by decide) (vF (by decide) hnf)
  have ek5 : (sy_i F5 21).toInt = T.2.2.2.1 := by rw [qq_i q5 (by decide) (by decide)]; exact ek
  refine j3nsk_34 (by decide) F5 X1 X2 q5.1 m82b (by omega) ?_ ?_ ?_
  · intro c0 c1 F7 hb7 g7 a56
    rw [m82, jm_upd_at, if_pos rfl, r4, ek5] at c1
    rw [m82, r4] at a56
    refine ⟨F7, rfl, rfl, qq_on q5 hb7 g7 (by decide), ?_, hV_e hv5 (nz_fa (g7 45 (by decide) (by decide)))⟩
    unfold lieS
    rw [if_neg (by omega), if_neg (by omega)]
    exact gC_up g5 (by decide) rfl a56 (fun j h1 h2 h3 => g7 j (by omega) (by intro z; simp at z; exact h3 z))
  · intro c0 c1 F7 hb7 g7 a54 a56
    rw [m82, jm_upd_at, if_pos rfl, r4, ek5] at c1
    rw [m82] at a54
    rw [m82, r4] at a56
    refine ⟨F7, rfl, rfl, qq_on q5 hb7 g7 (by decide), ?_, hV_e hv5 (nz_fa (g7 45 (by decide) (by decide)))⟩
    unfold lieS
    rw [if_neg (by omega), if_pos (by omega)]
    exact gC_up2 g5 (by decide) (by decide) (by decide) rfl rfl a56 a54 (fun j h1 h2 h3 h4 => g7 j (by omega) (by intro z; simp at z; rcases z with z | z; exact h4 z; exact h3 z))
  · intro c0 F7 hb7 g7 a54 a55 a61
    refine ⟨F7, rfl, rfl, qq_on q5 hb7 g7 (by decide), ?_, hV_e hv5 (nz_fa (g7 45 (by decide) (by decide)))⟩
    obtain ⟨b, hb'⟩ : ∃ b : Nat, fsS cur (cur 0 n) c.toInt (nbS T) = b := ⟨(fsS cur (cur 0 n) c.toInt (nbS T)).toNat, by omega⟩
    have m84n : (sy_i F5 84).toInt.toNat = b := by omega
    have r8 : (sy_ai F5 61).getD b 0 = cur 8 b := g5.1 8 b (by decide) (vB (Or.inr rfl) (by omega))
    have e84 : sy_i F5 84 = Int32.ofInt (b : Int) := (ofi (m84.trans hb')).symm
    rw [m82] at a54 a55
    rw [m84n, r8, m83] at a61
    rw [e84] at a55
    unfold lieS
    rw [hb', if_pos (by omega)]
    unfold sellS
    rw [Int.toNat_natCast]
    exact gC_up3 g5 (by decide) (by decide) (by decide) (by decide) (by decide) (by decide) rfl rfl rfl a54 a55 a61 (fun j h1 h2 h3 h4 h5 => g7 j (by omega) (by intro z; simp at z; rcases z with z | z | z; exact h3 z; exact h4 z; exact h5 z))
/-- what falls is caught, or lies -/
theorem j3nlf_V {cur : gS} (hC : xC 18 T F) (hG : gC 50 (nfS T) (nbS T) F cur) (hO : okS T cur) (hH : hV T g F) {f : Int32} (hf : 0 ≤ f.toInt ∧ f.toInt < nfS T) (hF : fV T cur f.toInt.toNat F) : jm_T Ls xs 6 jm_M5 [.ref 41, .ref 20, .ref 46, .int f] (sy_dh F X1 X2 (iv_H 3)) 0 0 (pV 3 X1 X2 (fun F' => qC W3n F F' ∧ gC 50 (nfS T) (nbS T) F' (fallS T cur f.toInt.toNat (Int32.ofInt (worthT T f.toInt.toNat (cur 1 f.toInt.toNat) (cur 4 f.toInt.toNat) (g 9 0) (lfS T g))) (bncT T f.toInt.toNat (cur 1 f.toInt.toNat) (g 9 0) (lfS T g))) ∧ hV T g F')) := by
  have l7 : nfS T ≤ 7 := hC.2.2.1.1.1
  have l4 : nbS T ≤ 4 := hC.2.2.1.1.2.1
  refine C_T (by decide) [f] [.inl (.ref 41), .inl (.ref 20), .inl (.ref 46), .inr (.inl 82)] jm_ok5 (by decide) rfl (fun F0 k0 ki => ?_)
  have i82 : sy_i F0 82 = f := ki 0
  obtain ⟨n, hn⟩ : ∃ n : Nat, n = f.toInt.toNat := ⟨_, rfl⟩
  have hnf : n < nfS T := by omega
  rw [← hn] at hF ⊢
  refine j3nlf_0 (by decide) F0 X1 X2 (hd_iveq0 hC.1 k0) ?_
  intro F1 hb gg e82 j82
  have q1 : qC [] F F1 := qq_src (qq_mk hb gg (by decide)) k0
  rw [i82] at j82 e82
  have hv1 := hV_e hH (qq_a q1 (by decide) (by decide))
  have fv := fV_e hF (qq_a q1 (by decide) (by decide))
  have c1 := xC_q (by decide) hC q1 (by decide)
  have g1 : gC 50 (nfS T) (nbS T) F1 cur := j3ngq hG q1 (by decide)
  have hw := wo_of c1.2.2.1 hv1 fv
  refine hd_calI (R := fun x F' => qC [46] F1 F' ∧ x.toInt = lwT T 3 (v45 F1)) (nh := 82) (nv := 83) (s := 3) (s1 := 3) (d1 := 4) (M1 := jm_M21) (As := [.inl (.ref 38), .inl (.ref 20), .inl (.int 3)]) (rest := []) jm_ok5 rfl rfl (by decide) (by decide +kernel) (j3tl_V F1 X1 X2 c1 (by decide) (by decide)) (fun F3 F' x hR p1 p2 p3 => ?_)
  obtain ⟨r1, r2⟩ := hR
  rw [hw] at r2
  obtain ⟨c, hc⟩ : ∃ c : Int32, c = Int32.ofInt (worthT T n (cur 1 n) (cur 4 n) (g 9 0) (lfS T g)) := ⟨_, rfl⟩
  rw [← hc]
  have r1' : qC [46] F1 F3 := qC_dst r1 p1
  have q3 : qC W3n F F3 := qq_trans (qq_up q1 (by decide)) (qq_up r1' (by decide))
  have i83 : sy_i F3 83 = c := by rw [zz_i p3, hc]; exact (ofi r2).symm
  have k82 : sy_i F3 82 = f := (eI (p2 82 (by decide) (by decide))).trans j82
  have g3 : gC 50 (nfS T) (nbS T) F3 cur := j3ngq g1 r1' (by decide)
  have hv3 := hV_e hv1 (qq_a r1' (by decide) (by decide))
  have fv3 := fV_e fv (qq_a r1' (by decide) (by decide))
  have c3 := xC_q (by decide) hC q3 (by decide)
  refine j3nlf_9 (by decide) F3 X1 X2 q3.1 (by rw [k82]; omega) ?_
  intro F4 hb4 g4 e82' j82' e83' j83' e84' j84'
  have q34 : qC [] F3 F4 := qq_mk hb4 g4 (by decide)
  have q4' : qC W3n F F4 := qq_on q3 hb4 g4 (by decide)
  have hxf := bF_of hC.2.2.1 hnf
  have e84 : (sy_i F4 84).toInt = (tF T n).1 := by
    rw [e84', k82, ← hn]
    exact (c3.2.1.1.2 n (tF T n) (gD hnf)).1
  have j83 : sy_i F4 83 = c := j83'.trans i83
  have g4' : gC 50 (nfS T) (nbS T) F4 cur := j3ngq g3 q34 (by decide)
  refine hd_calI (R := fun x F' => qC [] F4 F' ∧ x.toInt = (nrS T cur (sy_i F4 84).toInt (sy_i F4 83).toInt (nbS T)).1) (nh := 82) (nv := 84) (s := 3) (s1 := 3) (d1 := 2) (M1 := jm_M13) (As := [.inl (.ref 46), .inl (.ref 20), .inr (.inl 84), .inr (.inl 83)]) (rest := []) jm_ok5 rfl rfl (by decide) (by decide +kernel) (j3nnr_V F4 X1 X2 (xC_q (by decide) hC q4' (by decide)) g4' hO (by rw [e84]; exact hxf.1)) (fun F5 F6 y hR2 p1' p2' p3' => ?_)
  obtain ⟨s1, s2⟩ := hR2
  rw [e84, j83] at s2
  have s1' : qC [] F4 F5 := qC_dst s1 p1'
  have q5 : qC W3n F F5 := qq_trans q4' (qq_up s1' (by decide))
  have g5 : gC 50 (nfS T) (nbS T) F5 cur := j3ngq g4' s1' (by decide)
  have a45e : sy_ai F5 45 = sy_ai F3 45 := (qq_a s1' (by decide) (by decide)).trans (qq_a q34 (by decide) (by decide))
  have hv5 := hV_e hv3 a45e
  have fv5 := fV_e fv3 a45e
  have n82 : sy_i F5 82 = f := (eI (p2' 82 (by decide) (by decide))).trans (j82'.trans k82)
  have m82 : (sy_i F5 82).toInt.toNat = n := by rw [n82]; exact hn.symm
  have m82b : 0 ≤ (sy_i F5 82).toInt ∧ (sy_i F5 82).toInt ≤ 6 := by rw [n82]; omega
  have m83 : sy_i F5 83 = c := (eI (p2' 83 (by decide) (by decide))).trans j83
  have m84 : (sy_i F5 84).toInt = (nrS T cur (tF T n).1 c.toInt (nbS T)).1 := by rw [zz_i p3']; exact s2
  have hnr := nr_in T cur (tF T n).1 c.toInt (nbS T)
  have hn1 : (nrS T cur (tF T n).1 c.toInt (nbS T)).1 = -2 ∨ (0 ≤ (nrS T cur (tF T n).1 c.toInt (nbS T)).1 ∧ (nrS T cur (tF T n).1 c.toInt (nbS T)).1 < nbS T) := by
    rcases hnr with h | h
    · left
      rw [h]
    · exact Or.inr ⟨h.1, h.2.1⟩
  have b84 : -2 ≤ (sy_i F5 84).toInt ∧ (sy_i F5 84).toInt ≤ 3 := by
    clear hnr
    omega
  refine j3nlf_24 (by decide) F5 X1 X2 q5.1 m82b b84 ?_ ?_
  · intro c0 F7 hb7 g7 a54 e82a j82a
    rw [m82] at a54
    have q7 : qC W3n F F7 := qq_on q5 hb7 g7 (by decide)
    have c7 := xC_q (by decide) hC q7 (by decide)
    have g7' : gC 50 (nfS T) (nbS T) F7 (upS cur 2 n 1) := gC_up g5 (by decide) rfl a54 (fun j h1 h2 h3 => g7 j (by omega) (by intro z; simp at z; exact h3 z))
    have a45f : sy_ai F7 45 = sy_ai F5 45 := nz_fa (g7 45 (by decide) (by decide))
    have hv7 := hV_e hv5 a45f
    have fv7 := fV_e fv5 a45f
    have l82 : sy_i F7 82 = f := j82a.trans n82
    have hbn := bn_of c7.2.2.1 hv7 fv7
    refine hd_calI (R := fun x F' => qC [46] F7 F' ∧ x = Int32.ofInt (hdz 0 9 (Int32.ofInt (tF T (sy_i F7 82).toInt.toNat).1 + Int32.ofInt (lwT T 4 (v45 F7))).toInt)) (nh := 82) (nv := 83) (s := 3) (s1 := 3) (d1 := 5) (M1 := jm_M20) (As := [.inl (.ref 38), .inl (.ref 20), .inr (.inl 82)]) (rest := [.inr (.inl 82), .inl (.ref 53)]) jm_ok5 rfl rfl (by decide) (by decide +kernel) (j3bo_V F7 X1 X2 c7 (by rw [l82]; exact hf)) (fun F8 F9 z hR3 u1 u2 u3 => ?_)
    obtain ⟨v1, v2⟩ := hR3
    rw [l82, ← hn, hbn] at v2
    have v1' : qC [46] F7 F8 := qC_dst v1 u1
    have q8 : qC W3n F F8 := qq_trans q7 (qq_up v1' (by decide))
    have l82b : (sy_i F8 82).toInt.toNat = n := by rw [nz_fi (u2 82 (by decide) (by decide)), l82]; exact hn.symm
    have l83 : sy_i F8 83 = z := zz_i u3
    refine j3nlf_64 (by decide) F8 X1 X2 q8.1 (by rw [nz_fi (u2 82 (by decide) (by decide)), l82]; omega) ?_
    intro F10 hb10 g10 a59
    rw [l82b, l83, v2] at a59
    refine ⟨F10, rfl, rfl, qq_on q8 hb10 g10 (by decide), ?_, hV_e (hV_e hv7 (qq_a v1' (by decide) (by decide))) (nz_fa (g10 45 (by decide) (by decide)))⟩
    unfold fallS
    rw [if_neg (by omega)]
    exact gC_up (j3ngq g7' v1' (by decide)) (by decide) rfl a59 (fun j h1 h2 h3 => g10 j (by omega) (by intro z; simp at z; exact h3 z))
  · intro c0 F7 hb7 g7 a54 a55 a61
    refine ⟨F7, rfl, rfl, qq_on q5 hb7 g7 (by decide), ?_, hV_e hv5 (nz_fa (g7 45 (by decide) (by decide)))⟩
    obtain ⟨b, hb'⟩ : ∃ b : Nat, (nrS T cur (tF T n).1 c.toInt (nbS T)).1 = b := ⟨(nrS T cur (tF T n).1 c.toInt (nbS T)).1.toNat, by omega⟩
    have m84n : (sy_i F5 84).toInt.toNat = b := by omega
    have r8 : (sy_ai F5 61).getD b 0 = cur 8 b := g5.1 8 b (by decide) (vB (Or.inr rfl) (by omega))
    have e84x : sy_i F5 84 = Int32.ofInt (b : Int) := (ofi (m84.trans hb')).symm
    rw [m82] at a54 a55
    rw [m84n, r8, m83] at a61
    rw [e84x] at a55
    unfold fallS
    rw [hb', if_pos (by omega)]
    unfold sellS
    rw [Int.toNat_natCast]
    exact gC_up3 g5 (by decide) (by decide) (by decide) (by decide) (by decide) (by decide) rfl rfl rfl a54 a55 a61 (fun j h1 h2 h3 h4 h5 => g7 j (by omega) (by intro z; simp at z; rcases z with z | z | z; exact h3 z; exact h4 z; exact h5 z))
end H3n
