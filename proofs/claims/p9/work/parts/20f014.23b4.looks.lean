/-! ===== the reference looks at an hour ===== -/
noncomputable def lkS (T : tX) (sd : Int32) (g : gS) (F : Nat → sy_d) (j : Nat) : Prop := ((sy_ai F 56).getD j 0 = if (g 2 j).toInt = 0 ∧ (lotS sd ((16 : Int32) * g 9 0 + Int32.ofInt j)).toInt < flS T g j then 1 else 0) ∧ ((sy_ai F 57).getD j 0 = if (g 2 j).toInt = 0 ∧ ¬ (lotS sd ((16 : Int32) * g 9 0 + Int32.ofInt j)).toInt < flS T g j then Int32.ofInt (hdz 0 99 (g 1 j + Int32.ofInt (rpS T g j)).toInt) else g 1 j) ∧ ((g 2 j).toInt ≤ 1 → (sy_ai F 58).getD j 0 = Int32.ofInt (woS T g j)) ∧ ((g 2 j).toInt = 0 → (sy_ai F 59).getD j 0 = Int32.ofInt (bnS T g j))
theorem lk_eq {T : tX} {sd : Int32} {g : gS} {F F1 : Nat → sy_d} {j : Nat} (h : lkS T sd g F j) (e : (sy_ai F1 56).getD j 0 = (sy_ai F 56).getD j 0 ∧ (sy_ai F1 57).getD j 0 = (sy_ai F 57).getD j 0 ∧ (sy_ai F1 58).getD j 0 = (sy_ai F 58).getD j 0 ∧ (sy_ai F1 59).getD j 0 = (sy_ai F 59).getD j 0) : lkS T sd g F1 j := by
  unfold lkS at h ⊢
  rw [e.1, e.2.1, e.2.2.1, e.2.2.2]
  exact h
abbrev W7 : List Nat := [17, 52, 53, 56, 57, 58, 59]
noncomputable def loI (T : tX) (sd : Int32) (g : gS) (F : Nat → sy_d) (n : Nat) (F1 : Nat → sy_d) : Prop := qR W7 F F1 ∧ sy_i F1 69 = lfS T g ∧ sy_i F1 70 = g 9 0 ∧ sy_i F1 71 = Int32.ofInt (wiS T g) ∧ (sy_i F1 72).toInt = n ∧ ∀ j, j < n → lkS T sd g F1 j
section LO
variable {Ls : Nat} {xs : Nat → Int32} {T : tX} {g : gS} {sd : Int32} (F : Nat → sy_d) (X1 X2 : List jm_c)
theorem up_ne {l : List Int32} {n j : Nat} {x : Int32} (h : j ≠ n) : (jm_upd l n x).getD j 0 = l.getD j 0 := by rw [jm_upd_at, if_neg h]
theorem up_eq {l : List Int32} {n j : Nat} {x : Int32} (h : j = n) : (jm_upd l n x).getD j 0 = x := by rw [jm_upd_at, if_pos h]
theorem lo_row (hG : gRow T F g) {F1 : Nat → sy_d} {W : List Nat} (hq : qR W F F1) (h55 : 55 ∉ W) {a i : Nat} (h : vlS (nfS T) (nbS T) a i) : (sy_ai F1 55).getD (ra a + i) 0 = g a i := by
  rw [qq_a hq (by decide) h55]
  exact hG a i h
theorem lo_292 (hC : cR T F) (hG : gRow T F g) {n : Nat} {Q : Option Value → jm_h → Prop} (hn : n < nfS T) (F1 : Nat → sy_d) (hI : loI T sd g F n F1) (h0 : (g 2 n).toInt = 0) (hl : ¬ (lotS sd ((16 : Int32) * g 9 0 + Int32.ofInt n)).toInt < flS T g n) (c56 : (sy_ai F1 56).getD n 0 = 0) (c58 : (sy_ai F1 58).getD n 0 = Int32.ofInt (woS T g n)) (c59 : (sy_ai F1 59).getD n 0 = Int32.ofInt (bnS T g n)) (i73 : sy_i F1 73 = g 1 n) (i74 : sy_i F1 74 = Int32.ofInt (rpS T g n))
    (K : ∀ F2 : Nat → sy_d, loI T sd g F (n + 1) F2 → hd_W Ls xs 6 jm_M189 Q (27, sy_dL F2 [some (.inl (.ref 1000)), some (.inr (.inl 69)), some (.inr (.inl 70)), some (.inr (.inl 71)), some (.inr (.inl 72))], sy_dS F2 [], sy_dh F2 X1 X2 (iv_H 4), 0, 0)) :
    hd_W Ls xs 6 jm_M189 Q (292, sy_dL F1 [some (.inl (.ref 1000)), some (.inr (.inl 69)), some (.inr (.inl 70)), some (.inr (.inl 71)), some (.inr (.inl 72))], sy_dS F1 [.inr (.inl 74), .inr (.inl 73), .inr (.inl 72), .inl (.ref 1035)], sy_dh F1 X1 X2 (iv_H 4), 0, 0) := by
  have l7 : nfS T ≤ 7 := hC.2.2.1.1
  obtain ⟨hq, j69, j70, j71, e72, hj⟩ := hI
  have on : ∀ (v : Int32) (F2 : Nat → sy_d), iv_in F2 iv_B4 → (∀ j, j < 69 → j ∉ ([57] : List Nat) → F2 j = F1 j) → sy_ai F2 57 = jm_upd (sy_ai F1 57) (sy_i F1 72).toInt.toNat v → sy_i F2 69 = sy_i F1 69 → sy_i F2 70 = sy_i F1 70 → sy_i F2 71 = sy_i F1 71 → (sy_i F2 72).toInt = (sy_i F1 72).toInt + 1 → v = Int32.ofInt (hdz 0 99 (g 1 n + Int32.ofInt (rpS T g n)).toInt) → loI T sd g F (n + 1) F2 := fun v F2 hb gg a57 f69 f70 f71 f72 hv => by
    refine ⟨qq_on hq hb gg (by decide), f69.trans j69, f70.trans j70, f71.trans j71, by omega, fun j hj2 => ?_⟩
    have a56 := nz_fa (gg 56 (by decide) (by decide))
    have a58 := nz_fa (gg 58 (by decide) (by decide))
    have a59 := nz_fa (gg 59 (by decide) (by decide))
    have en : (sy_i F1 72).toInt.toNat = n := by omega
    rw [en] at a57
    by_cases q : j = n
    · subst q
      unfold lkS
      rw [a56, a57, a58, a59, up_eq rfl, if_neg (fun z => hl z.2), if_pos ⟨h0, hl⟩]
      exact ⟨c56, hv, fun _ => c58, fun _ => c59⟩
    · exact lk_eq (hj j (by omega)) ⟨by rw [a56], by rw [a57, up_ne q], by rw [a58], by rw [a59]⟩
  refine ylo_292 (by decide) F1 X1 X2 hq.1 (by omega) ?_ ?_ ?_
  · intro c0 c1 F2 hb gg a57 e69 i69 e70 i70 e71 i71 e72' i72
    rw [i73, i74] at c0 c1 a57
    refine K F2 (on _ F2 hb gg a57 i69 i70 i71 e72' ?_)
    unfold hdz
    rw [if_neg (by omega), if_neg (by omega), Int32.ofInt_toInt]
  · intro c0 c1 F2 hb gg a57 e69 i69 e70 i70 e71 i71 e72' i72
    rw [i73, i74] at c0 c1
    refine K F2 (on _ F2 hb gg a57 i69 i70 i71 e72' ?_)
    unfold hdz
    rw [if_neg (by omega), if_pos (by omega)]
    rfl
  · intro c0 F2 hb gg a57 e69 i69 e70 i70 e71 i71 e72' i72
    rw [i73, i74] at c0
    refine K F2 (on _ F2 hb gg a57 i69 i70 i71 e72' ?_)
    unfold hdz
    rw [if_pos (by omega)]
    rfl
theorem lo_225 (hC : cR T F) (hG : gRow T F g) {n : Nat} {Q : Option Value → jm_h → Prop} (hn : n < nfS T) (F1 : Nat → sy_d) (hI : loI T sd g F n F1) (h0 : (g 2 n).toInt = 0) (c56 : (sy_ai F1 56).getD n 0 = if (lotS sd ((16 : Int32) * g 9 0 + Int32.ofInt n)).toInt < flS T g n then 1 else 0) (c57 : (sy_ai F1 57).getD n 0 = g 1 n) (c58 : (sy_ai F1 58).getD n 0 = Int32.ofInt (woS T g n)) (i73 : sy_i F1 73 = Int32.ofInt (bnS T g n))
    (K : ∀ F2 : Nat → sy_d, loI T sd g F (n + 1) F2 → hd_W Ls xs 6 jm_M189 Q (27, sy_dL F2 [some (.inl (.ref 1000)), some (.inr (.inl 69)), some (.inr (.inl 70)), some (.inr (.inl 71)), some (.inr (.inl 72))], sy_dS F2 [], sy_dh F2 X1 X2 (iv_H 4), 0, 0)) :
    hd_W Ls xs 6 jm_M189 Q (225, sy_dL F1 [some (.inl (.ref 1000)), some (.inr (.inl 69)), some (.inr (.inl 70)), some (.inr (.inl 71)), some (.inr (.inl 72))], sy_dS F1 [.inr (.inl 73), .inr (.inl 72), .inl (.ref 1037)], sy_dh F1 X1 X2 (iv_H 4), 0, 0) := by
  have l7 : nfS T ≤ 7 := hC.2.2.1.1
  obtain ⟨hq, j69, j70, j71, e72, hj⟩ := hI
  have en : (sy_i F1 72).toInt.toNat = n := by omega
  refine ylo_225 (by decide) F1 X1 X2 hq.1 (by omega) ?_ ?_
  · intro c0 F2 hb gg a59 e69 i69 e70 i70 e71 i71 e72' i72
    rw [en] at c0 a59
    have hl : (lotS sd ((16 : Int32) * g 9 0 + Int32.ofInt n)).toInt < flS T g n := by
      by_cases q : (lotS sd ((16 : Int32) * g 9 0 + Int32.ofInt n)).toInt < flS T g n
      · exact q
      · rw [c56, if_neg q] at c0
        exact absurd (by decide) c0
    refine K F2 ⟨qq_on hq hb gg (by decide), i69.trans j69, i70.trans j70, i71.trans j71, by omega, fun j hj2 => ?_⟩
    have a56 := nz_fa (gg 56 (by decide) (by decide))
    have a57 := nz_fa (gg 57 (by decide) (by decide))
    have a58 := nz_fa (gg 58 (by decide) (by decide))
    by_cases q : j = n
    · subst q
      unfold lkS
      rw [a56, a57, a58, a59, up_eq rfl, if_pos ⟨h0, hl⟩, if_neg (fun z => z.2 hl), i73]
      rw [if_pos hl] at c56
      exact ⟨c56, c57, fun _ => c58, fun _ => rfl⟩
    · exact lk_eq (hj j (by omega)) ⟨by rw [a56], by rw [a57], by rw [a58], by rw [a59, up_ne q]⟩
  · intro c0 F2 hb gg a59 e69 i69 e70 i70 e71 i71 e72' i72 e73' i73' e74' i74' e75' i75' e76' i76'
    rw [en] at c0 a59
    have hl : ¬ (lotS sd ((16 : Int32) * g 9 0 + Int32.ofInt n)).toInt < flS T g n := fun q => by
      rw [c56, if_pos q] at c0
      exact absurd c0 (by decide)
    have q2 : qR W7 F F2 := qq_on hq hb gg (by decide)
    have n7 : (7 + (sy_i F1 72).toInt).toNat = ra 1 + n := by show _ = 7 + n; omega
    have n42 : (42 + (sy_i F1 72).toInt).toNat = ra 6 + n := by show _ = 42 + n; omega
    have n35 : (35 + (sy_i F1 72).toInt).toNat = ra 5 + n := by show _ = 35 + n; omega
    rw [n7, lo_row F hG hq (by decide) (vF (by decide) hn)] at i73' i74'
    rw [n42, lo_row F hG hq (by decide) (vF (by decide) hn)] at i75'
    rw [n35, lo_row F hG hq (by decide) (vF (by decide) hn)] at i76'
    refine hd_calI (R := fun x F' => qR [17, 52, 53] F2 F' ∧ x.toInt = ripeT T (sy_i F2 72).toInt.toNat (sy_i F2 74) (sy_i F2 75) (sy_i F2 76) (sy_i F2 71) (sy_i F2 70) (sy_i F2 69)) (nh := 69) (nv := 74) (s := 4) (s1 := 4) (d1 := 5) (M1 := jm_M185) (As := [.inl (.ref 1000), .inl (.int 1), .inr (.inl 72), .inr (.inl 74), .inr (.inl 75), .inr (.inl 76), .inr (.inl 71), .inr (.inl 70), .inr (.inl 69)]) (rest := [.inr (.inl 73), .inr (.inl 72), .inl (.ref 1035)]) jm_ok189 rfl rfl (by decide) (by decide +kernel) (hr_V F2 X1 X2 (cR_q hC q2 (by decide)) _ _ _ _ _ _ _ (by have := e72'; show 0 ≤ _ ∧ _ < (nfS T : Int); omega)) (fun F3 F' x hR p1 p2 p3 => ?_)
    obtain ⟨r1, r2⟩ := hR
    have q3 : qR W7 F F3 := qq_trans q2 (qR_dst (qq_up r1 (by decide)) p1)
    have r1' : qR [17, 52, 53] F2 F3 := qR_dst r1 p1
    have en2 : (sy_i F2 72).toInt.toNat = n := by omega
    rw [en2, i74', i75', i76', i71, i70, i69, j69, j70, j71] at r2
    refine lo_292 F X1 X2 hC hG hn F3 ⟨q3, (eI (p2 69 (by decide) (by decide))).trans (i69.trans j69), (eI (p2 70 (by decide) (by decide))).trans (i70.trans j70), (eI (p2 71 (by decide) (by decide))).trans (i71.trans j71), by rw [nz_fi (p2 72 (by decide) (by decide))]; omega, fun j hj2 => ?_⟩ h0 hl ?_ ?_ ?_ ((eI (p2 73 (by decide) (by decide))).trans i73') ?_ K
    · refine lk_eq (hj j hj2) ⟨?_, ?_, ?_, ?_⟩
      · rw [qq_a r1' (by decide) (by decide), nz_fa (gg 56 (by decide) (by decide))]
      · rw [qq_a r1' (by decide) (by decide), nz_fa (gg 57 (by decide) (by decide))]
      · rw [qq_a r1' (by decide) (by decide), nz_fa (gg 58 (by decide) (by decide))]
      · rw [qq_a r1' (by decide) (by decide), a59, up_ne (by omega)]
    · rw [qq_a r1' (by decide) (by decide), nz_fa (gg 56 (by decide) (by decide)), c56, if_neg hl]
    · rw [qq_a r1' (by decide) (by decide), nz_fa (gg 58 (by decide) (by decide))]
      exact c58
    · rw [qq_a r1' (by decide) (by decide), a59, up_eq rfl]
      exact i73
    · rw [zz_i p3]
      exact (ofi r2).symm
end LO
