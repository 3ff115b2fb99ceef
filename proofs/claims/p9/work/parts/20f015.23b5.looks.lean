/-! ===== the reference looks at an hour: all fruit ===== -/
section LQ
variable {Ls : Nat} {xs : Nat → Int32} {T : tX} {g : gS} {sd : Int32} (F : Nat → sy_d) (X1 X2 : List jm_c)
theorem lo_192 (hC : cR T F) (hG : gRow T F g) {n : Nat} {Q : Option Value → jm_h → Prop} (hn : n < nfS T) (F1 : Nat → sy_d) (hI : loI T sd g F n F1) (h0 : (g 2 n).toInt = 0) (c57 : (sy_ai F1 57).getD n 0 = g 1 n) (c58 : (sy_ai F1 58).getD n 0 = Int32.ofInt (woS T g n)) (i73 : sy_i F1 73 = lotS sd ((16 : Int32) * g 9 0 + Int32.ofInt n)) (i74 : (sy_i F1 74).toInt = flS T g n)
    (K : ∀ F2 : Nat → sy_d, loI T sd g F (n + 1) F2 → hd_W Ls xs 6 jm_M189 Q (27, sy_dL F2 [some (.inl (.ref 1000)), some (.inr (.inl 69)), some (.inr (.inl 70)), some (.inr (.inl 71)), some (.inr (.inl 72))], sy_dS F2 [], sy_dh F2 X1 X2 (iv_H 4), 0, 0)) :
    hd_W Ls xs 6 jm_M189 Q (192, sy_dL F1 [some (.inl (.ref 1000)), some (.inr (.inl 69)), some (.inr (.inl 70)), some (.inr (.inl 71)), some (.inr (.inl 72))], sy_dS F1 [.inr (.inl 74), .inr (.inl 73), .inr (.inl 72), .inl (.ref 1034)], sy_dh F1 X1 X2 (iv_H 4), 0, 0) := by
  have l7 : nfS T ≤ 7 := hC.2.2.1.1
  obtain ⟨hq, j69, j70, j71, e72, hj⟩ := hI
  have en : (sy_i F1 72).toInt.toNat = n := by omega
  have n7 : (7 + (sy_i F1 72).toInt).toNat = ra 1 + n := by show _ = 7 + n; omega
  have on : ∀ (v : Int32) (F2 : Nat → sy_d), iv_in F2 iv_B4 → (∀ j, j < 69 → j ∉ ([56] : List Nat) → F2 j = F1 j) → sy_ai F2 56 = jm_upd (sy_ai F1 56) n v → sy_i F2 69 = sy_i F1 69 → sy_i F2 70 = sy_i F1 70 → sy_i F2 71 = sy_i F1 71 → (sy_i F2 72).toInt = (sy_i F1 72).toInt → sy_i F2 73 = g 1 n → v = (if (lotS sd ((16 : Int32) * g 9 0 + Int32.ofInt n)).toInt < flS T g n then 1 else 0) →
      hd_W Ls xs 6 jm_M189 Q (222, sy_dL F2 [some (.inl (.ref 1000)), some (.inr (.inl 69)), some (.inr (.inl 70)), some (.inr (.inl 71)), some (.inr (.inl 72))], sy_dS F2 [.inr (.inl 69), .inr (.inl 70), .inr (.inl 73), .inr (.inl 72), .inl (.ref 1000), .inr (.inl 72), .inl (.ref 1037)], sy_dh F2 X1 X2 (iv_H 4), 0, 0) := fun v F2 hb gg a56 f69 f70 f71 f72 i73' hv => by
    have q2 : qR W7 F F2 := qq_on hq hb gg (by decide)
    have en2 : (sy_i F2 72).toInt.toNat = n := by omega
    refine hd_calI (R := fun x F' => qR [17, 52, 53] F2 F' ∧ x.toInt = bncT T (sy_i F2 72).toInt.toNat (sy_i F2 73) (sy_i F2 70) (sy_i F2 69)) (nh := 69) (nv := 73) (s := 4) (s1 := 4) (d1 := 5) (M1 := jm_M184) (As := [.inl (.ref 1000), .inr (.inl 72), .inr (.inl 73), .inr (.inl 70), .inr (.inl 69)]) (rest := [.inr (.inl 72), .inl (.ref 1037)]) jm_ok189 rfl rfl (by decide) (by decide +kernel) (bo_V F2 X1 X2 (cR_q hC q2 (by decide)) _ _ _ _ (by show 0 ≤ _ ∧ _ < (nfS T : Int); omega)) (fun F3 F' x hR p1 p2 p3 => ?_)
    obtain ⟨r1, r2⟩ := hR
    have r1' : qR [17, 52, 53] F2 F3 := qR_dst r1 p1
    have q3 : qR W7 F F3 := qq_trans q2 (qR_dst (qq_up r1 (by decide)) p1)
    rw [en2, i73', f70, f69, j69, j70] at r2
    refine lo_225 F X1 X2 hC hG hn F3 ⟨q3, (eI (p2 69 (by decide) (by decide))).trans (f69.trans j69), (eI (p2 70 (by decide) (by decide))).trans (f70.trans j70), (eI (p2 71 (by decide) (by decide))).trans (f71.trans j71), by rw [nz_fi (p2 72 (by decide) (by decide))]; omega, fun j hj2 => ?_⟩ h0 ?_ ?_ ?_ ?_ K
    · refine lk_eq (hj j hj2) ⟨?_, ?_, ?_, ?_⟩
      · rw [qq_a r1' (by decide) (by decide), a56, up_ne (by omega)]
      · rw [qq_a r1' (by decide) (by decide), nz_fa (gg 57 (by decide) (by decide))]
      · rw [qq_a r1' (by decide) (by decide), nz_fa (gg 58 (by decide) (by decide))]
      · rw [qq_a r1' (by decide) (by decide), nz_fa (gg 59 (by decide) (by decide))]
    · rw [qq_a r1' (by decide) (by decide), a56, up_eq rfl]
      exact hv
    · rw [qq_a r1' (by decide) (by decide), nz_fa (gg 57 (by decide) (by decide))]
      exact c57
    · rw [qq_a r1' (by decide) (by decide), nz_fa (gg 58 (by decide) (by decide))]
      exact c58
    · rw [zz_i p3]
      exact (ofi r2).symm
  refine ylo_192 (by decide) F1 X1 X2 hq.1 (by omega) ?_ ?_
  · intro c0 F2 hb gg a56 e69 i69 e70 i70 e71 i71 e72' i72 e73' i73'
    rw [en] at a56
    rw [n7, lo_row F hG hq (by decide) (vF (by decide) hn)] at i73'
    rw [i73] at c0
    exact on _ F2 hb gg a56 i69 i70 i71 e72' i73' (by rw [if_neg (by omega)])
  · intro c0 F2 hb gg a56 e69 i69 e70 i70 e71 i71 e72' i72 e73' i73'
    rw [en] at a56
    rw [n7, lo_row F hG hq (by decide) (vF (by decide) hn)] at i73'
    rw [i73] at c0
    exact on _ F2 hb gg a56 i69 i70 i71 e72' i73' (by rw [if_pos (by omega)])
theorem lo_117 (hC : cR T F) (hG : gRow T F g) (hO : okS T g) (hsd : sy_i F 18 = sd) {n : Nat} {Q : Option Value → jm_h → Prop} (hn : n < nfS T) (F1 : Nat → sy_d) (hI : loI T sd g F n F1) (h1 : (g 2 n).toInt ≤ 1) (c56 : (sy_ai F1 56).getD n 0 = 0) (c57 : (sy_ai F1 57).getD n 0 = g 1 n) (i73 : sy_i F1 73 = Int32.ofInt (woS T g n))
    (K : ∀ F2 : Nat → sy_d, loI T sd g F (n + 1) F2 → hd_W Ls xs 6 jm_M189 Q (27, sy_dL F2 [some (.inl (.ref 1000)), some (.inr (.inl 69)), some (.inr (.inl 70)), some (.inr (.inl 71)), some (.inr (.inl 72))], sy_dS F2 [], sy_dh F2 X1 X2 (iv_H 4), 0, 0)) :
    hd_W Ls xs 6 jm_M189 Q (117, sy_dL F1 [some (.inl (.ref 1000)), some (.inr (.inl 69)), some (.inr (.inl 70)), some (.inr (.inl 71)), some (.inr (.inl 72))], sy_dS F1 [.inr (.inl 73), .inr (.inl 72), .inl (.ref 1036)], sy_dh F1 X1 X2 (iv_H 4), 0, 0) := by
  have l7 : nfS T ≤ 7 := hC.2.2.1.1
  obtain ⟨hq, j69, j70, j71, e72, hj⟩ := hI
  have en : (sy_i F1 72).toInt.toNat = n := by omega
  have hh := hO.2.2.1 n hn
  have n14 : (14 + (sy_i F1 72).toInt).toNat = ra 2 + n := by show _ = 14 + n; omega
  have n7 : (7 + (sy_i F1 72).toInt).toNat = ra 1 + n := by show _ = 7 + n; omega
  have n42 : (42 + (sy_i F1 72).toInt).toNat = ra 6 + n := by show _ = 42 + n; omega
  have n35 : (35 + (sy_i F1 72).toInt).toNat = ra 5 + n := by show _ = 35 + n; omega
  have r14 : (sy_ai F1 55).getD (14 + (sy_i F1 72).toInt).toNat 0 = g 2 n := by
    rw [n14]
    exact lo_row F hG hq (by decide) (vF (by decide) hn)
  refine ylo_117 (by decide) F1 X1 X2 hq.1 (by omega) ?_ ?_
  · intro c0 F2 hb gg a58 e69 i69 e70 i70 e71 i71 e72' i72 e73' i73' e74' i74' e75' i75' e76' i76'
    rw [r14] at c0
    rw [en] at a58
    have h0 : (g 2 n).toInt = 0 := by omega
    rw [n7, lo_row F hG hq (by decide) (vF (by decide) hn)] at i74'
    rw [n42, lo_row F hG hq (by decide) (vF (by decide) hn)] at i75'
    rw [n35, lo_row F hG hq (by decide) (vF (by decide) hn)] at i76'
    rw [qq_i hq (j := 18) (by decide) (by decide), hsd, j70, ← ofi e72] at i73'
    have i73' : sy_i F2 73 = lotS sd ((16 : Int32) * g 9 0 + Int32.ofInt n) := i73'
    have q2 : qR W7 F F2 := qq_on hq hb gg (by decide)
    have en2 : (sy_i F2 72).toInt.toNat = n := by omega
    refine hd_calI (R := fun x F' => qR [17, 52, 53] F2 F' ∧ x.toInt = fallT T (sy_i F2 72).toInt.toNat (sy_i F2 74) (sy_i F2 75) (sy_i F2 76) (sy_i F2 71) (sy_i F2 70) (sy_i F2 69)) (nh := 69) (nv := 74) (s := 4) (s1 := 4) (d1 := 5) (M1 := jm_M185) (As := [.inl (.ref 1000), .inl (.int 2), .inr (.inl 72), .inr (.inl 74), .inr (.inl 75), .inr (.inl 76), .inr (.inl 71), .inr (.inl 70), .inr (.inl 69)]) (rest := [.inr (.inl 73), .inr (.inl 72), .inl (.ref 1034)]) jm_ok189 rfl rfl (by decide) (by decide +kernel) (hf_V F2 X1 X2 (cR_q hC q2 (by decide)) _ _ _ _ _ _ _ (by show 0 ≤ _ ∧ _ < (nfS T : Int); omega)) (fun F3 F' x hR p1 p2 p3 => ?_)
    obtain ⟨r1, r2⟩ := hR
    have r1' : qR [17, 52, 53] F2 F3 := qR_dst r1 p1
    have q3 : qR W7 F F3 := qq_trans q2 (qR_dst (qq_up r1 (by decide)) p1)
    rw [en2, i74', i75', i76', i71, i70, i69, j69, j70, j71] at r2
    refine lo_192 F X1 X2 hC hG hn F3 ⟨q3, (eI (p2 69 (by decide) (by decide))).trans (i69.trans j69), (eI (p2 70 (by decide) (by decide))).trans (i70.trans j70), (eI (p2 71 (by decide) (by decide))).trans (i71.trans j71), by rw [nz_fi (p2 72 (by decide) (by decide))]; omega, fun j hj2 => ?_⟩ h0 ?_ ?_ ((eI (p2 73 (by decide) (by decide))).trans i73') ?_ K
    · refine lk_eq (hj j hj2) ⟨?_, ?_, ?_, ?_⟩
      · rw [qq_a r1' (by decide) (by decide), nz_fa (gg 56 (by decide) (by decide))]
      · rw [qq_a r1' (by decide) (by decide), nz_fa (gg 57 (by decide) (by decide))]
      · rw [qq_a r1' (by decide) (by decide), a58, up_ne (by omega)]
      · rw [qq_a r1' (by decide) (by decide), nz_fa (gg 59 (by decide) (by decide))]
    · rw [qq_a r1' (by decide) (by decide), nz_fa (gg 57 (by decide) (by decide))]
      exact c57
    · rw [qq_a r1' (by decide) (by decide), a58, up_eq rfl]
      exact i73
    · rw [zz_i p3]
      exact r2
  · intro c0 F2 hb gg a58 e69 i69 e70 i70 e71 i71 e72' i72
    rw [r14] at c0
    rw [en] at a58
    refine K F2 ⟨qq_on hq hb gg (by decide), i69.trans j69, i70.trans j70, i71.trans j71, by omega, fun j hj2 => ?_⟩
    have a56 := nz_fa (gg 56 (by decide) (by decide))
    have a57 := nz_fa (gg 57 (by decide) (by decide))
    have a59 := nz_fa (gg 59 (by decide) (by decide))
    by_cases q : j = n
    · subst q
      unfold lkS
      rw [a56, a57, a58, a59, up_eq rfl, if_neg (fun z => by omega), if_neg (fun z => by omega), i73]
      exact ⟨c56, c57, fun _ => rfl, fun z => by omega⟩
    · exact lk_eq (hj j (by omega)) ⟨by rw [a56], by rw [a57], by rw [a58, up_ne q], by rw [a59]⟩
theorem lo_27 (hC : cR T F) (hG : gRow T F g) (hO : okS T g) (hsd : sy_i F 18 = sd) : ∀ (m : Nat) (F1 : Nat → sy_d) (n : Nat), n + m = nfS T → loI T sd g F n F1 →
    hd_W Ls xs 6 jm_M189 (pV 4 X1 X2 (fun F' => qR W7 F F' ∧ ∀ j, j < nfS T → lkS T sd g F' j)) (27, sy_dL F1 [some (.inl (.ref 1000)), some (.inr (.inl 69)), some (.inr (.inl 70)), some (.inr (.inl 71)), some (.inr (.inl 72))], sy_dS F1 [], sy_dh F1 X1 X2 (iv_H 4), 0, 0) := by
  have l7 : nfS T ≤ 7 := hC.2.2.1.1
  have en31 : ((sy_ai F 31).getD (sy_i F 11).toInt.toNat 0).toInt = (nfS T : Int) := (rX_n hC.2.1).1
  intro m
  induction m with
  | zero =>
    intro F1 n hm hI
    obtain ⟨hq, j69, j70, j71, e72, hj⟩ := hI
    have e31 : ((sy_ai F1 31).getD (sy_i F1 11).toInt.toNat 0).toInt = (nfS T : Int) := by rw [qq_a hq (by decide) (by decide), qq_i hq (j := 11) (by decide) (by decide)]; exact en31
    refine ylo_27 (by decide) F1 X1 X2 hq.1 (by omega) ?_ ?_ ?_
    · intro c0 F2 hb gg
      refine ⟨F2, rfl, rfl, qq_on hq hb gg (by decide), fun j hj2 => lk_eq (hj j (by omega)) ⟨?_, ?_, ?_, ?_⟩⟩
      · rw [nz_fa (gg 56 (by decide) (by decide))]
      · rw [nz_fa (gg 57 (by decide) (by decide))]
      · rw [nz_fa (gg 58 (by decide) (by decide))]
      · rw [nz_fa (gg 59 (by decide) (by decide))]
    · intros
      omega
    · intros
      omega
  | succ m ih =>
    intro F1 n hm hI
    obtain ⟨hq, j69, j70, j71, e72, hj⟩ := hI
    have hn : n < nfS T := by omega
    have en : (sy_i F1 72).toInt.toNat = n := by omega
    have e31 : ((sy_ai F1 31).getD (sy_i F1 11).toInt.toNat 0).toInt = (nfS T : Int) := by rw [qq_a hq (by decide) (by decide), qq_i hq (j := 11) (by decide) (by decide)]; exact en31
    have n14 : (14 + (sy_i F1 72).toInt).toNat = ra 2 + n := by show _ = 14 + n; omega
    have n7 : (7 + (sy_i F1 72).toInt).toNat = ra 1 + n := by show _ = 7 + n; omega
    have n28 : (28 + (sy_i F1 72).toInt).toNat = ra 4 + n := by show _ = 28 + n; omega
    have r14 : (sy_ai F1 55).getD (14 + (sy_i F1 72).toInt).toNat 0 = g 2 n := by
      rw [n14]
      exact lo_row F hG hq (by decide) (vF (by decide) hn)
    have r7 : (sy_ai F1 55).getD (7 + (sy_i F1 72).toInt).toNat 0 = g 1 n := by
      rw [n7]
      exact lo_row F hG hq (by decide) (vF (by decide) hn)
    have r28 : (sy_ai F1 55).getD (28 + (sy_i F1 72).toInt).toNat 0 = g 4 n := by
      rw [n28]
      exact lo_row F hG hq (by decide) (vF (by decide) hn)
    refine ylo_27 (by decide) F1 X1 X2 hq.1 (by omega) ?_ ?_ ?_
    · intros
      omega
    · intro c0 c1 F2 hb gg a56 a57 e69 i69 e70 i70 e71 i71 e72' i72 e73' i73' e74' i74'
      rw [r14] at c1
      rw [en] at a56 a57
      rw [r7] at a57 i73'
      rw [r28] at i74'
      have q2 : qR W7 F F2 := qq_on hq hb gg (by decide)
      have en2 : (sy_i F2 72).toInt.toNat = n := by omega
      refine hd_calI (R := fun x F' => qR [17, 52, 53] F2 F' ∧ x.toInt = worthT T (sy_i F2 72).toInt.toNat (sy_i F2 73) (sy_i F2 74) (sy_i F2 70) (sy_i F2 69)) (nh := 69) (nv := 73) (s := 4) (s1 := 4) (d1 := 5) (M1 := jm_M183) (As := [.inl (.ref 1000), .inr (.inl 72), .inr (.inl 73), .inr (.inl 74), .inr (.inl 70), .inr (.inl 69)]) (rest := [.inr (.inl 72), .inl (.ref 1036)]) jm_ok189 rfl rfl (by decide) (by decide +kernel) (wo_V F2 X1 X2 (cR_q hC q2 (by decide)) _ _ _ _ _ (by show 0 ≤ _ ∧ _ < (nfS T : Int); omega)) (fun F3 F' x hR p1 p2 p3 => ?_)
      obtain ⟨r1, r2⟩ := hR
      have r1' : qR [17, 52, 53] F2 F3 := qR_dst r1 p1
      have q3 : qR W7 F F3 := qq_trans q2 (qR_dst (qq_up r1 (by decide)) p1)
      rw [en2, i73', i74', i70, i69, j69, j70] at r2
      refine lo_117 F X1 X2 hC hG hO hsd hn F3 ⟨q3, (eI (p2 69 (by decide) (by decide))).trans (i69.trans j69), (eI (p2 70 (by decide) (by decide))).trans (i70.trans j70), (eI (p2 71 (by decide) (by decide))).trans (i71.trans j71), by rw [nz_fi (p2 72 (by decide) (by decide))]; omega, fun j hj2 => ?_⟩ c1 ?_ ?_ ?_ (fun F4 h4 => ih F4 (n + 1) (by omega) h4)
      · refine lk_eq (hj j hj2) ⟨?_, ?_, ?_, ?_⟩
        · rw [qq_a r1' (by decide) (by decide), a56, up_ne (by omega)]
        · rw [qq_a r1' (by decide) (by decide), a57, up_ne (by omega)]
        · rw [qq_a r1' (by decide) (by decide), nz_fa (gg 58 (by decide) (by decide))]
        · rw [qq_a r1' (by decide) (by decide), nz_fa (gg 59 (by decide) (by decide))]
      · rw [qq_a r1' (by decide) (by decide), a56, up_eq rfl]
      · rw [qq_a r1' (by decide) (by decide), a57, up_eq rfl]
      · rw [zz_i p3]
        exact (ofi r2).symm
    · intro c0 c1 F2 hb gg a56 a57 e69 i69 e70 i70 e71 i71 e72' i72
      rw [r14] at c1
      rw [en] at a56 a57
      rw [r7] at a57
      refine ih F2 (n + 1) (by omega) ⟨qq_on hq hb gg (by decide), i69.trans j69, i70.trans j70, i71.trans j71, by omega, fun j hj2 => ?_⟩
      have a58 := nz_fa (gg 58 (by decide) (by decide))
      have a59 := nz_fa (gg 59 (by decide) (by decide))
      by_cases q : j = n
      · subst q
        unfold lkS
        rw [a56, a57, a58, a59, up_eq rfl, up_eq rfl, if_neg (fun z => by omega), if_neg (fun z => by omega)]
        exact ⟨rfl, rfl, fun z => by omega, fun z => by omega⟩
      · exact lk_eq (hj j (by omega)) ⟨by rw [a56, up_ne q], by rw [a57, up_ne q], by rw [a58], by rw [a59]⟩
theorem lo_V (hC : cR T F) (hG : gRow T F g) (hO : okS T g) (hsd : sy_i F 18 = sd) : jm_T Ls xs 6 jm_M189 [.ref 1000] (sy_dh F X1 X2 (iv_H 4)) 0 0 (pV 4 X1 X2 (fun F' => qR W7 F F' ∧ ∀ j, j < nfS T → lkS T sd g F' j)) := by
  refine R_T [] [.inl (.ref 1000)] jm_ok189 (by decide) rfl (fun F0 k0 ki => ?_)
  refine ylo_0 (by decide) F0 X1 X2 (hd_iveq hC.1 k0) ?_
  intro F1 hb gg
  have q1 : qR [] F F1 := qq_src (qq_mk hb gg (by decide)) k0
  refine hd_calI (R := fun x F' => qR [] F1 F' ∧ x = mkS g (0 : Int32).toInt (nfS T)) (nh := 69) (nv := 69) (s := 4) (s1 := 4) (d1 := 1) (M1 := jm_M176) (As := [.inl (.ref 1000), .inl (.int 0)]) (rest := []) jm_ok189 rfl rfl (by decide) (by decide +kernel) (bi_V F1 X1 X2 (cR_q hC q1 (by decide)) (gRow_e hG (qq_a q1 (by decide) (by decide))) 0) (fun F3 F' x hR p1 p2 p3 => ?_)
  obtain ⟨r1, r2⟩ := hR
  have q3 : qR [] F F3 := qq_trans q1 (qR_dst r1 p1)
  have k69 : sy_i F3 69 = mkS g 0 (nfS T) := (zz_i p3).trans r2
  refine ylo_5 (by decide) F3 X1 X2 q3.1 ?_
  intro F4 hb4 g4 e69 i69 e70 i70
  have q4' : qR [] F F4 := qq_on q3 hb4 g4 (by decide)
  rw [k69] at i69
  have i69 : sy_i F4 69 = lfS T g := i69
  have i70 : sy_i F4 70 = g 9 0 := by
    rw [i70]
    exact lo_row F hG q3 (by decide) (a := 9) (i := 0) (vH (by decide))
  refine hd_calI (R := fun x F' => qR [17, 52, 53] F4 F' ∧ x.toInt = windT T (sy_i F4 70) (sy_i F4 69)) (nh := 69) (nv := 71) (s := 4) (s1 := 4) (d1 := 5) (M1 := jm_M181) (As := [.inl (.ref 1000), .inr (.inl 70), .inr (.inl 69)]) (rest := []) jm_ok189 rfl rfl (by decide) (by decide +kernel) (wb_V F4 X1 X2 (cR_q hC q4' (by decide)) _ _) (fun F5 F6 y hR2 p1' p2' p3' => ?_)
  obtain ⟨s1, s2⟩ := hR2
  have q5 : qR W7 F F5 := qq_trans (qq_up q4' (by decide)) (qR_dst (qq_up s1 (by decide)) p1')
  rw [i69, i70] at s2
  refine ylo_23 (by decide) F5 X1 X2 q5.1 ?_
  intro F7 hb7 g7 e69' i69' e70' i70' e71' i71' e72' i72'
  refine lo_27 F X1 X2 hC hG hO hsd (nfS T) F7 0 (by omega) ⟨qq_on q5 hb7 g7 (by decide), ?_, ?_, ?_, e72', fun j hj => absurd hj (by omega)⟩
  · rw [i69', eI (p2' 69 (by decide) (by decide))]
    exact i69
  · rw [i70', eI (p2' 70 (by decide) (by decide))]
    exact i70
  · rw [i71', zz_i p3']
    exact (ofi s2).symm
end LQ
