/-! ===== the reference: an hour from its beginning ===== -/
section HH
variable {Ls : Nat} {xs : Nat → Int32} {T : tX} {g : gS} {sd : Int32} (F : Nat → sy_d) (X1 X2 : List jm_c)
theorem hg_11 (hC : cR T F) (hO : okS T g) : ∀ (m : Nat) (F1 : Nat → sy_d) (n : Nat), n + m = nfS T → qR W9 F F1 → (∀ j, j < nfS T → lkS T sd g F1 j) → (sy_i F1 69).toInt = n → gRow T F1 (p1S T g n) → sfS F1 (nmS g 2 (nfS T)) (nmS (p1S T g n) 2 (nfS T)) →
    hd_W Ls xs 7 jm_M192 (pV 4 X1 X2 (hgP T sd g F)) (11, sy_dL F1 [some (.inl (.ref 1000)), some (.inr (.inl 69))], sy_dS F1 [], sy_dh F1 X1 X2 (iv_H 4), 0, 0) := by
  have l7 : nfS T ≤ 7 := hC.2.2.1.1
  have l4 : nbS T ≤ 4 := hC.2.2.1.2.1
  have en31 : ((sy_ai F 31).getD (sy_i F 11).toInt.toNat 0).toInt = (nfS T : Int) := (rX_n hC.2.1).1
  intro m
  induction m with
  | zero =>
    intro F1 n hm hq hj e69 hG hS
    have e31 : ((sy_ai F1 31).getD (sy_i F1 11).toInt.toNat 0).toInt = (nfS T : Int) := by rw [qq_a hq (by decide) (by decide), qq_i hq (j := 11) (by decide) (by decide)]; exact en31
    have hn : n = nfS T := by omega
    subst hn
    refine yhg_11 (by decide) F1 X1 X2 hq.1 (by omega) ?_ ?_ ?_
    · intro c0 F2 hb gg f69 i69
      refine hg_50 F X1 X2 hC hO (nfS T) F2 0 (by omega) (qq_on hq hb gg (by decide)) (fun j h => lk_eq (hj j h) ⟨?_, ?_, ?_, ?_⟩) f69 ?_ (sfS_e hS (gg 19 (by decide) (by decide)))
      · rw [nz_fa (gg 56 (by decide) (by decide))]
      · rw [nz_fa (gg 57 (by decide) (by decide))]
      · rw [nz_fa (gg 58 (by decide) (by decide))]
      · rw [nz_fa (gg 59 (by decide) (by decide))]
      · rw [znS_0]
        exact gRow_e hG (nz_fa (gg 55 (by decide) (by decide)))
    · intros
      omega
    · intros
      omega
  | succ m ih =>
    intro F1 n hm hq hj e69 hG hS
    have hn : n < nfS T := by omega
    have e31 : ((sy_ai F1 31).getD (sy_i F1 11).toInt.toNat 0).toInt = (nfS T : Int) := by rw [qq_a hq (by decide) (by decide), qq_i hq (j := 11) (by decide) (by decide)]; exact en31
    have n14 : (14 + (sy_i F1 69).toInt).toNat = ra 2 + n := by show _ = 14 + n; omega
    have r14 : (sy_ai F1 55).getD (14 + (sy_i F1 69).toInt).toNat 0 = p1S T g n 2 n := by
      rw [n14]
      exact hG 2 n (vF (by decide) hn)
    have h2n : p1S T g n 2 n = g 2 n := p1_s n 2 n (Nat.le_refl _) (by decide)
    refine yhg_11 (by decide) F1 X1 X2 hq.1 (by omega) ?_ ?_ ?_
    · intros
      omega
    · intro c0 c1 F2 hb gg f69 i69
      rw [r14] at c1
      have hp : p1S T g (n + 1) = p1S T g n := by
        show (if _ then _ else _) = _
        rw [if_neg c1]
      refine ih F2 (n + 1) (by omega) (qq_on hq hb gg (by decide)) (fun j h => lk_eq (hj j h) ⟨?_, ?_, ?_, ?_⟩) (by omega) ?_ ?_
      · rw [nz_fa (gg 56 (by decide) (by decide))]
      · rw [nz_fa (gg 57 (by decide) (by decide))]
      · rw [nz_fa (gg 58 (by decide) (by decide))]
      · rw [nz_fa (gg 59 (by decide) (by decide))]
      · rw [hp]
        exact gRow_e hG (nz_fa (gg 55 (by decide) (by decide)))
      · rw [hp]
        exact sfS_e hS (gg 19 (by decide) (by decide))
    · intro c0 c1 F2 hb gg f69 i69
      rw [r14] at c1
      have hp : p1S T g (n + 1) = lieS T (p1S T g n) n (Int32.ofInt (woS T g n)) := by
        show (if _ then _ else _) = _
        rw [if_pos c1]
      have q2 : qR W9 F F2 := qq_on hq hb gg (by decide)
      have en2 : (sy_i F2 69).toInt.toNat = n := by omega
      have w58 := (hj n hn).2.2.1 (by rw [← h2n]; omega)
      refine hd_calV (R := fun F' => qR [19, 55] F2 F' ∧ gRow T F' (lieS T (p1S T g n) (sy_i F2 69).toInt.toNat (Int32.ofInt (woS T g n))) ∧ (0 ≤ fsS (p1S T g n) (p1S T g n 0 (sy_i F2 69).toInt.toNat) (Int32.ofInt (woS T g n)).toInt (nbS T) → (sy_i F' 19).toInt = 1) ∧ (fsS (p1S T g n) (p1S T g n 0 (sy_i F2 69).toInt.toNat) (Int32.ofInt (woS T g n)).toInt (nbS T) < 0 → F' 19 = F2 19)) (nh := 69) (nv := 70) (s := 4) (s1 := 4) (d1 := 2) (M1 := jm_M190) (As := [.inl (.ref 1000), .inr (.inl 69)]) (rest := []) jm_ok192 rfl rfl (by decide) (by decide +kernel) (li_V F2 X1 X2 (cR_q hC q2 (by decide)) (gRow_e hG (nz_fa (gg 55 (by decide) (by decide)))) (by omega) (by rw [en2, nz_fa (gg 58 (by decide) (by decide))]; exact w58)) (fun F3 F' hR p1 p2 => ?_)
      obtain ⟨r1, r2, r3, r4⟩ := hR
      rw [en2] at r2 r3 r4
      have r1' : qR [19, 55] F2 F3 := qR_dst r1 p1
      have q3 : qR W9 F F3 := qq_trans q2 (qq_up r1' (by decide))
      refine yhg_42 (by decide) F3 X1 X2 q3.1 (by rw [nz_fi (p2 69 (by decide) (by decide))]; omega) ?_
      intro F4 hb4 g4 h69 k69
      refine ih F4 (n + 1) (by omega) (qq_on q3 hb4 g4 (by decide)) (fun j h => lk_eq (hj j h) ⟨?_, ?_, ?_, ?_⟩) (by rw [h69, nz_fi (p2 69 (by decide) (by decide))]; omega) ?_ ?_
      · rw [nz_fa (g4 56 (by decide) (by decide)), qq_a r1' (by decide) (by decide), nz_fa (gg 56 (by decide) (by decide))]
      · rw [nz_fa (g4 57 (by decide) (by decide)), qq_a r1' (by decide) (by decide), nz_fa (gg 57 (by decide) (by decide))]
      · rw [nz_fa (g4 58 (by decide) (by decide)), qq_a r1' (by decide) (by decide), nz_fa (gg 58 (by decide) (by decide))]
      · rw [nz_fa (g4 59 (by decide) (by decide)), qq_a r1' (by decide) (by decide), nz_fa (gg 59 (by decide) (by decide))]
      · rw [hp]
        exact gRow_e r2 ((nz_fa (g4 55 (by decide) (by decide))).trans (nz_fa (p1 55 (by decide))))
      · refine sfS_e ?_ (g4 19 (by decide) (by decide))
        obtain ⟨m1, m2⟩ := nm_lie (T := T) (g := p1S T g n) (f := n) (c := Int32.ofInt (woS T g n)) hn c1
        have e19 : (sy_i F3 19).toInt = (sy_i F' 19).toInt := nz_fi (p1 19 (by decide))
        have e19b : (sy_i F2 19).toInt = (sy_i F1 19).toInt := nz_fi (gg 19 (by decide) (by decide))
        rw [hp]
        by_cases z : 0 ≤ fsS (p1S T g n) (p1S T g n 0 n) (Int32.ofInt (woS T g n)).toInt (nbS T)
        · rw [m1 z]
          left
          refine ⟨by rw [e19]; exact r3 z, ?_⟩
          rcases hS with ⟨-, s2⟩ | ⟨-, s2⟩ <;> omega
        · rw [m2 (by omega)]
          have := nz_fi (r4 (by omega))
          rcases hS with ⟨s1, s2⟩ | ⟨s1, s2⟩
          · exact Or.inl ⟨by omega, s2⟩
          · exact Or.inr ⟨by omega, s2⟩
/-- an hour goes by -/
theorem hg_V (hC : cR T F) (hG : gRow T F g) (hO : okS T g) (hsd : sy_i F 18 = sd) : jm_T Ls xs 7 jm_M192 [.ref 1000] (sy_dh F X1 X2 (iv_H 4)) 0 0 (pV 4 X1 X2 (hgP T sd g F)) := by
  refine R_T [] [.inl (.ref 1000)] jm_ok192 (by decide) rfl (fun F0 k0 ki => ?_)
  refine yhg_0 (by decide) F0 X1 X2 (hd_iveq hC.1 k0) ?_
  intro F1 hb gg
  have q1 : qR [] F F1 := qq_src (qq_mk hb gg (by decide)) k0
  refine hd_calV (R := fun F' => qR W7 F1 F' ∧ ∀ j, j < nfS T → lkS T sd g F' j) (nh := 69) (nv := 69) (s := 4) (s1 := 4) (d1 := 6) (M1 := jm_M189) (As := [.inl (.ref 1000)]) (rest := []) jm_ok192 rfl rfl (by decide) (by decide +kernel) (lo_V F1 X1 X2 (cR_q hC q1 (by decide)) (gRow_e hG (qq_a q1 (by decide) (by decide))) hO ((qq_i q1 (by decide) (by decide)).trans hsd)) (fun F3 F' hR p1 p2 => ?_)
  obtain ⟨r1, r2⟩ := hR
  have q3 : qR W7 F F3 := qq_trans (qq_up q1 (by decide)) (qR_dst r1 p1)
  refine yhg_4 (by decide) F3 X1 X2 q3.1 ?_
  intro F4 hb4 g4 e19 i19 e69 i69
  refine hg_11 F X1 X2 hC hO (nfS T) F4 0 (by omega) (qq_on (qq_up q3 (by decide)) hb4 g4 (by decide)) (fun j h => lk_eq (r2 j h) ⟨?_, ?_, ?_, ?_⟩) e69 ?_ (Or.inr ⟨e19, rfl⟩)
  · rw [nz_fa (g4 56 (by decide) (by decide)), nz_fa (p1 56 (by decide))]
  · rw [nz_fa (g4 57 (by decide) (by decide)), nz_fa (p1 57 (by decide))]
  · rw [nz_fa (g4 58 (by decide) (by decide)), nz_fa (p1 58 (by decide))]
  · rw [nz_fa (g4 59 (by decide) (by decide)), nz_fa (p1 59 (by decide))]
  · exact gRow_e hG ((nz_fa (g4 55 (by decide) (by decide))).trans (qq_a q3 (by decide) (by decide)))
/-- hours go by -/
theorem go_L (hC : cR T F) (hO : okS T g) (hsd : sy_i F 18 = sd) {N : Nat} (hN : N ≤ 200) : ∀ (m : Nat) (F1 : Nat → sy_d) (n : Nat), n + m = N → qR W9 F F1 → (sy_i F1 69).toInt = N → (sy_i F1 70).toInt = n → gRow T F1 (hrsS T sd g n) →
    hd_W Ls xs 8 jm_M193 (pV 4 X1 X2 (fun F' => qR W9 F F' ∧ gRow T F' (hrsS T sd g N))) (2, sy_dL F1 [some (.inl (.ref 1000)), some (.inr (.inl 69)), some (.inr (.inl 70))], sy_dS F1 [], sy_dh F1 X1 X2 (iv_H 4), 0, 0) := by
  intro m
  induction m with
  | zero =>
    intro F1 n hm hq e69 e70 hG
    refine ygo_2 (by decide) F1 X1 X2 hq.1 (by omega) (by omega) ?_ ?_
    · intro c0 F2 hb gg
      refine ⟨F2, rfl, rfl, qq_on hq hb gg (by decide), ?_⟩
      rw [show N = n by omega]
      exact gRow_e hG (nz_fa (gg 55 (by decide) (by decide)))
    · intros
      omega
  | succ m ih =>
    intro F1 n hm hq e69 e70 hG
    refine ygo_2 (by decide) F1 X1 X2 hq.1 (by omega) (by omega) ?_ ?_
    · intros
      omega
    · intro c0 F2 hb gg f69 i69 f70 i70
      have q2 : qR W9 F F2 := qq_on hq hb gg (by decide)
      refine hd_calV (R := hgP T sd (hrsS T sd g n) F2) (nh := 69) (nv := 71) (s := 4) (s1 := 4) (d1 := 7) (M1 := jm_M192) (As := [.inl (.ref 1000)]) (rest := []) jm_ok193 rfl rfl (by decide) (by decide +kernel) (hg_V F2 X1 X2 (cR_q hC q2 (by decide)) (gRow_e hG (nz_fa (gg 55 (by decide) (by decide)))) (okS_hrs hO n) ((qq_i q2 (by decide) (by decide)).trans hsd)) (fun F3 F' hR p1 p2 => ?_)
      obtain ⟨r1, r2, -⟩ := hR
      have q3 : qR W9 F F3 := qq_trans q2 (qR_dst r1 p1)
      refine ygo_11 (by decide) F3 X1 X2 q3.1 (by rw [nz_fi (p2 70 (by decide) (by decide))]; omega) ?_
      intro F4 hb4 g4 h69 k69 h70 k70
      refine ih F4 (n + 1) (by omega) (qq_on q3 hb4 g4 (by decide)) (by rw [h69, nz_fi (p2 69 (by decide) (by decide))]; omega) (by rw [h70, nz_fi (p2 70 (by decide) (by decide))]; omega) ?_
      exact gRow_e r2 ((nz_fa (g4 55 (by decide) (by decide))).trans (nz_fa (p1 55 (by decide))))
theorem go_V (hC : cR T F) (hG : gRow T F g) (hO : okS T g) (hsd : sy_i F 18 = sd) {n : Int32} (hn : 0 ≤ n.toInt ∧ n.toInt ≤ 200) : jm_T Ls xs 8 jm_M193 [.ref 1000, .int n] (sy_dh F X1 X2 (iv_H 4)) 0 0 (pV 4 X1 X2 (fun F' => qR W9 F F' ∧ gRow T F' (hrsS T sd g n.toInt.toNat))) := by
  refine R_T [n] [.inl (.ref 1000), .inr (.inl 69)] jm_ok193 (by decide) rfl (fun F0 k0 ki => ?_)
  have i69 : sy_i F0 69 = n := ki 0
  refine ygo_0 (by decide) F0 X1 X2 (hd_iveq hC.1 k0) ?_
  intro F1 hb gg e69 j69 e70 j70
  have q1 : qR [] F F1 := qq_src (qq_mk hb gg (by decide)) k0
  rw [i69] at e69
  exact go_L F X1 X2 hC hO hsd (by omega) n.toInt.toNat F1 0 (by omega) (qq_up q1 (by decide)) (by omega) e70 (gRow_e hG (qq_a q1 (by decide) (by decide)))
end HH
