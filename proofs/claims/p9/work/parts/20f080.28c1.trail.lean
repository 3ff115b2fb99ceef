/-! ===== the class remembers and steps back (shape 1) ===== -/
section RM1
variable {Ls : Nat} {xs : Nat → Int32} {nf nb : Nat} {g : gS} (F : Nat → sy_d) (X1 X2 : List jm_c)
theorem j1re_W (hf : nf ≤ 7) (hb : nb ≤ 4) (hg : gC 50 nf nb F g) {F1 : Nat → sy_d} {o : Nat} {U : List gS} (ho : o < 40) (hU : U.length < 40) (hq : qC [74, 75] F F1) (e74 : (sy_i F1 74).toInt = o) (e75 : (sy_i F1 75).toInt = U.length) (hk : trK nf nb (sy_ai F 76) o U) (e82 : (sy_i F1 82).toInt = (((o + U.length) % 40 * 60 : Nat) : Int)) :
    hd_W Ls xs 2 jm_M78 (pV 1 X1 X2 (fun F' => qC [74, 75, 76] F F' ∧ trC nf nb F' (g :: U))) (52, sy_dL F1 [some (.inl (.ref 66)), none], sy_dS F1 [.inr (.inl 82), .inl (.ref 67), .inl (.ref 46)], sy_dh F1 X1 X2 (iv_H 1), 0, 0) := by
  refine hd_calV (R := fun F' => qC [76] F1 F' ∧ svR (sy_ai F' 76) ((o + U.length) % 40 * 60) F1 50 ∧ ∀ j, j < (o + U.length) % 40 * 60 ∨ (o + U.length) % 40 * 60 + 60 ≤ j → (sy_ai F' 76).getD j 0 = (sy_ai F1 76).getD j 0) (nh := 82) (nv := 82) (s := 1) (s1 := 1) (d1 := 1) (M1 := jm_M9) (As := [.inl (.ref 46), .inl (.ref 67), .inr (.inl 82)]) (rest := []) jm_ok78 rfl rfl (by decide) (by decide +kernel) (j1svt_V F1 X1 X2 hq.1 e82 (by omega)) (fun F3 F' hR p1 p2 => ?_)
  obtain ⟨r1, r2, r3⟩ := hR
  have r1' : qC [76] F1 F3 := qC_dst r1 p1
  have e753 : (sy_i F3 75).toInt = U.length := by rw [qq_i r1' (by decide) (by decide)]; exact e75
  refine j1re_55 (by decide) F3 X1 X2 r1'.1 (by omega) ?_
  intro F4 hb4 g4 e754 j754
  have g1 : gC 50 nf nb F1 g := gC_eq hg (fun j h1 h2 => hq.2 j (by omega) (by simp; omega))
  have l4 : sy_ai F4 76 = sy_ai F' 76 := (nz_fa (g4 76 (by decide) (by decide))).trans (nz_fa (p1 76 (by decide)))
  have l1 : sy_ai F1 76 = sy_ai F 76 := qq_a hq (by decide) (by decide)
  refine ⟨F4, rfl, rfl, qq_on (qq_trans (qq_up hq (by decide)) (qq_up r1' (by decide))) hb4 g4 (by decide), o, ho, by simp only [List.length_cons]; omega, ?_, by simp only [List.length_cons]; omega, ?_, ?_⟩
  · rw [nz_fi (g4 74 (by decide) (by decide)), qq_i r1' (by decide) (by decide)]
    exact e74
  · rw [l4]
    exact svC_of hf hb r2 g1
  · rw [l4]
    refine trK_eq hf hb U (fun k hk' j h1 h2 => ?_) hk
    rw [← l1]
    exact r3 j (by omega)
theorem j1re_V (hB : iv_in F iv_B0) (hf : nf ≤ 7) (hb : nb ≤ 4) (hg : gC 50 nf nb F g) {U : List gS} (hT : trC nf nb F U) : jm_T Ls xs 2 jm_M78 [.ref 66, .ref 46] (sy_dh F X1 X2 (iv_H 1)) 0 0 (pV 1 X1 X2 (fun F' => qC [74, 75, 76] F F' ∧ trC nf nb F' (rmS g U))) := by
  obtain ⟨o, h1, h2, h3, h4, h5⟩ := hT
  refine hd_T (As := [.inl (.ref 66), .inl (.ref 46)]) jm_ok78 (by decide) (j1re_0 (by decide) F X1 X2 hB ?_ ?_)
  · intro c0 F1 hb1 gg e82 j82
    have hn : U.length ≠ 40 := by omega
    unfold rmS
    rw [if_neg hn]
    refine j1re_W F X1 X2 hf hb hg h1 (by omega) (qq_mk hb1 gg (by decide)) (by rw [nz_fi (gg 74 (by decide) (by decide))]; exact h3) (by rw [nz_fi (gg 75 (by decide) (by decide))]; exact h4) h5 ?_
    rw [e82]
    exact rm60 (n := o + U.length) (nz_add h3 h4 (by omega) (by omega))
  · intro c0 F1 hb1 gg e74 j74 e75 j75 e82 j82
    have hn : U.length = 40 := by omega
    unfold rmS
    rw [if_pos hn]
    have o1 : (sy_i F 74 + 1 - (sy_i F 74 + 1) / 40 * 40).toInt = (((o + 1) % 40 : Nat) : Int) := rm40 (n := o + 1) (nz_add h3 (by decide : (1 : Int32).toInt = 1) (by omega) (by omega))
    have s1 : (sy_i F 75 - 1).toInt = ((39 : Nat) : Int) := (nz_sub h4 (by decide : (1 : Int32).toInt = 1) (by omega) (by omega)).trans (by omega)
    have hd : U.dropLast.length = 39 := by rw [List.length_dropLast, hn]
    refine j1re_W F X1 X2 hf hb hg (o := (o + 1) % 40) (U := U.dropLast) (by omega) (by omega) (qq_mk hb1 gg (by decide)) (e74.trans o1) (by rw [hd]; omega) (trK_dr U h5) ?_
    rw [e82, hd]
    exact rm60 (n := (o + 1) % 40 + 39) (nz_add o1 s1 (by omega) (by omega))
theorem j1st_V0 (hB : iv_in F iv_B0) (hT : trC nf nb F []) : jm_T Ls xs 2 jm_M79 [.ref 66, .ref 46] (sy_dh F X1 X2 (iv_H 1)) 0 0 (pI 1 X1 X2 (fun x F' => x = 0 ∧ qC [] F F')) := by
  obtain ⟨o, h1, h2, h3, h4, h5⟩ := hT
  have h4' : (sy_i F 75).toInt = 0 := h4
  refine hd_T (As := [.inl (.ref 66), .inl (.ref 46)]) jm_ok79 (by decide) (j1st_0 (by decide) F X1 X2 hB ?_ ?_)
  · intros
    omega
  · intro c0 F1 hb1 gg
    exact ⟨_, F1, rfl, rfl, rfl, qq_mk hb1 gg (by decide)⟩
theorem j1st_V1 (hB : iv_in F iv_B0) (hf : nf ≤ 7) (hb : nb ≤ 4) {U : List gS} (hT : trC nf nb F (g :: U)) : jm_T Ls xs 2 jm_M79 [.ref 66, .ref 46] (sy_dh F X1 X2 (iv_H 1)) 0 0 (pI 1 X1 X2 (fun x F' => x = 1 ∧ qC (75 :: [50, 51, 52, 53, 54, 55, 56, 57, 58, 59, 60, 61]) F F' ∧ trC nf nb F' U ∧ gC 50 nf nb F' g)) := by
  obtain ⟨o, h1, h2, h3, h4, h5⟩ := hT
  have hl : (g :: U).length = U.length + 1 := rfl
  rw [hl] at h2 h4
  refine hd_T (As := [.inl (.ref 66), .inl (.ref 46)]) jm_ok79 (by decide) (j1st_0 (by decide) F X1 X2 hB ?_ ?_)
  · intro c0 F1 hb1 gg e75 j75 e82 j82
    have s1 : (sy_i F 75 - 1).toInt = (U.length : Int) := (nz_sub h4 (by decide : (1 : Int32).toInt = 1) (by omega) (by omega)).trans (by omega)
    have x82 : (sy_i F1 82).toInt = (((o + U.length) % 40 * 60 : Nat) : Int) := by
      rw [e82]
      exact rm60 (n := o + U.length) (nz_add h3 s1 (by omega) (by omega))
    have q1 : qC [75] F F1 := qq_mk hb1 gg (by decide)
    refine hd_calV (R := fun F' => qC [50, 51, 52, 53, 54, 55, 56, 57, 58, 59, 60, 61] F1 F' ∧ svR (sy_ai F1 76) ((o + U.length) % 40 * 60) F' 50) (nh := 82) (nv := 82) (s := 1) (s1 := 1) (d1 := 1) (M1 := jm_M10) (As := [.inl (.ref 46), .inl (.ref 67), .inr (.inl 82)]) (rest := []) jm_ok79 rfl rfl (by decide) (by decide +kernel) (j1ldt_V F1 X1 X2 hb1 x82 (by omega)) (fun F3 F' hR p1 p2 => ?_)
    obtain ⟨r1, r2⟩ := hR
    have r1' : qC [50, 51, 52, 53, 54, 55, 56, 57, 58, 59, 60, 61] F1 F3 := qC_dst r1 p1
    refine j1st_42 (by decide) F3 X1 X2 r1'.1 ?_
    intro F4 hb4 g4
    have l1 : sy_ai F1 76 = sy_ai F 76 := qq_a q1 (by decide) (by decide)
    have l4 : sy_ai F4 76 = sy_ai F 76 := (nz_fa (g4 76 (by decide) (by decide))).trans ((qq_a r1' (by decide) (by decide)).trans l1)
    refine ⟨_, F4, rfl, rfl, rfl, qq_on (qq_trans (qq_up q1 (by decide)) (qq_up r1' (by decide))) hb4 g4 (by decide), ⟨o, h1, by omega, ?_, ?_, ?_⟩, ?_⟩
    · rw [nz_fi (g4 74 (by decide) (by decide)), qq_i r1' (by decide) (by decide), nz_fi (gg 74 (by decide) (by decide))]
      exact h3
    · rw [nz_fi (g4 75 (by decide) (by decide)), qq_i r1' (by decide) (by decide)]
      omega
    · rw [l4]
      exact h5.2
    · rw [l1] at r2
      exact gC_eq (gC_of hf hb r2 h5.1) (fun j h1 h2 => (g4 j (by omega) (by simp)).trans (p1 j (by omega)))
  · intros
    omega
end RM1
