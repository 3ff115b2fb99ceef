/-! ===== undo, hold, restore, go on the class's side (shape 3) ===== -/
section CH3
variable {Ls : Nat} {xs : Nat → Int32} {nf nb : Nat} {g : gS} (F : Nat → sy_d) (X1 X2 : List jm_c)
theorem j3un_V0 (hB : iv_in F iv_B0) (hT : trC nf nb F []) : jm_T Ls xs 3 jm_M92 [.ref 8] (sy_dh F X1 X2 (iv_H 3)) 0 0 (pI 3 X1 X2 (fun x F' => x = 0 ∧ qC [] F F')) := by
  refine hd_T (As := [.inl (.ref 8)]) jm_ok92 (by decide) (j3un_0 (by decide) F X1 X2 hB ?_)
  intro F1 hb gg
  have q1 : qC [] F F1 := qq_mk hb gg (by decide)
  refine hd_calI (R := fun x F' => x = 0 ∧ qC [] F1 F') (nh := 82) (nv := 82) (s := 3) (s1 := 3) (d1 := 2) (M1 := jm_M79) (As := [.inl (.ref 66), .inl (.ref 46)]) (rest := []) jm_ok92 rfl rfl (by decide) (by decide +kernel) (j3st_V0 F1 X1 X2 hb (trC_eq hT (gg 74 (by decide) (by decide)) (gg 75 (by decide) (by decide)) (gg 76 (by decide) (by decide)))) (fun F3 F' x hR p1 p2 p3 => ?_)
  obtain ⟨r1, r2⟩ := hR
  have r2' : qC [] F1 F3 := qC_dst r2 p1
  have k82 : sy_i F3 82 = 0 := (zz_i p3).trans r1
  refine j3un_11 (by decide) F3 X1 X2 r2'.1 (Or.inl (by rw [k82]; rfl)) ?_
  intro F4 hb4 g4
  exact ⟨_, F4, rfl, rfl, k82, qq_on (qq_trans q1 r2') hb4 g4 (by decide)⟩
theorem j3un_V1 (hB : iv_in F iv_B0) (hf : nf ≤ 7) (hb : nb ≤ 4) {U : List gS} (hT : trC nf nb F (g :: U)) : jm_T Ls xs 3 jm_M92 [.ref 8] (sy_dh F X1 X2 (iv_H 3)) 0 0 (pI 3 X1 X2 (fun x F' => x = 1 ∧ qC (75 :: [50, 51, 52, 53, 54, 55, 56, 57, 58, 59, 60, 61]) F F' ∧ trC nf nb F' U ∧ gC 50 nf nb F' g)) := by
  refine hd_T (As := [.inl (.ref 8)]) jm_ok92 (by decide) (j3un_0 (by decide) F X1 X2 hB ?_)
  intro F1 hb1 gg
  have q1 : qC [] F F1 := qq_mk hb1 gg (by decide)
  refine hd_calI (R := fun x F' => x = 1 ∧ qC (75 :: [50, 51, 52, 53, 54, 55, 56, 57, 58, 59, 60, 61]) F1 F' ∧ trC nf nb F' U ∧ gC 50 nf nb F' g) (nh := 82) (nv := 82) (s := 3) (s1 := 3) (d1 := 2) (M1 := jm_M79) (As := [.inl (.ref 66), .inl (.ref 46)]) (rest := []) jm_ok92 rfl rfl (by decide) (by decide +kernel) (j3st_V1 F1 X1 X2 hb1 hf hb (trC_eq hT (gg 74 (by decide) (by decide)) (gg 75 (by decide) (by decide)) (gg 76 (by decide) (by decide)))) (fun F3 F' x hR p1 p2 p3 => ?_)
  obtain ⟨r1, r2, r3, r4⟩ := hR
  have r2' : qC (75 :: [50, 51, 52, 53, 54, 55, 56, 57, 58, 59, 60, 61]) F1 F3 := qC_dst r2 p1
  have k82 : sy_i F3 82 = 1 := (zz_i p3).trans r1
  refine j3un_11 (by decide) F3 X1 X2 r2'.1 (Or.inr (by rw [k82]; rfl)) ?_
  intro F4 hb4 g4
  have f4 : ∀ j, j < 82 → F4 j = F' j := fun j hj => (g4 j hj (by simp)).trans (p1 j hj)
  exact ⟨_, F4, rfl, rfl, k82, qq_on (qq_trans (qq_up q1 (by decide)) r2') hb4 g4 (by decide), trC_eq r3 (f4 74 (by decide)) (f4 75 (by decide)) (f4 76 (by decide)), gC_eq r4 (fun j h1 h2 => f4 j (by omega))⟩
theorem j3hd_V (hB : iv_in F iv_B0) (hf : nf ≤ 7) (hb : nb ≤ 4) (hg : gC 50 nf nb F g) {H : Nat → gS} (hH : hlC nf nb F H) (v : Int32) : jm_T Ls xs 2 jm_M113 [.ref 8, .int v] (sy_dh F X1 X2 (iv_H 3)) 0 0 (pI 3 X1 X2 (fun x F' => (¬ (0 ≤ v.toInt ∧ v.toInt ≤ 2) → x = 0 ∧ qC [] F F') ∧ (0 ≤ v.toInt ∧ v.toInt ≤ 2 → x = 1 ∧ qC [77, 78] F F' ∧ hlC nf nb F' (fun j => if j = v.toInt.toNat then g else H j) ∧ sy_ai F' 78 = jm_upd (sy_ai F 78) v.toInt.toNat 1))) := by
  refine C_T (by decide) [v] [.inl (.ref 8), .inr (.inl 82)] jm_ok113 (by decide) rfl (fun F0 k0 ki => ?_)
  have i82 : sy_i F0 82 = v := ki 0
  refine j3hd_0 (by decide) F0 X1 X2 (hd_iveq0 hB k0) ?_ ?_ ?_
  · intro c0 F1 hb1 gg
    rw [i82] at c0
    exact ⟨_, F1, rfl, rfl, fun _ => ⟨rfl, qq_src (qq_mk hb1 gg (by decide)) k0⟩, fun h => absurd h (by omega)⟩
  · intro c0 c1 F1 hb1 gg
    rw [i82] at c0 c1
    exact ⟨_, F1, rfl, rfl, fun _ => ⟨rfl, qq_src (qq_mk hb1 gg (by decide)) k0⟩, fun h => absurd h (by omega)⟩
  · intro c0 c1 F1 hb1 gg e82 j82 e83 j83
    rw [i82] at c0 c1 e82 e83
    have q1 : qC [] F F1 := qq_src (qq_mk hb1 gg (by decide)) k0
    refine hd_calV (R := fun F' => qC [77] F1 F' ∧ svR (sy_ai F' 77) (60 * v.toInt.toNat) F1 50 ∧ ∀ j, j < 60 * v.toInt.toNat ∨ 60 * v.toInt.toNat + 60 ≤ j → (sy_ai F' 77).getD j 0 = (sy_ai F1 77).getD j 0) (nh := 82) (nv := 83) (s := 3) (s1 := 3) (d1 := 1) (M1 := jm_M9) (As := [.inl (.ref 46), .inl (.ref 68), .inr (.inl 83)]) (rest := []) jm_ok113 rfl rfl (by decide) (by decide +kernel) (j3svs_V F1 X1 X2 hb1 (by rw [e83]; omega) (by omega)) (fun F3 F' hR p1 p2 => ?_)
    obtain ⟨r1, r2, r3⟩ := hR
    have r1' : qC [77] F1 F3 := qC_dst r1 p1
    have k82 : (sy_i F3 82).toInt = v.toInt := by rw [nz_fi (p2 82 (by decide) (by decide))]; exact e82
    refine j3hd_26 (by decide) F3 X1 X2 r1'.1 (by omega) ?_
    intro F4 hb4 g4 a78
    rw [k82] at a78
    have h78 : sy_ai F3 78 = sy_ai F 78 := (qq_a r1' (by decide) (by decide)).trans (qq_a q1 (by decide) (by decide))
    have h77 : sy_ai F1 77 = sy_ai F 77 := qq_a q1 (by decide) (by decide)
    have l77 : sy_ai F4 77 = sy_ai F' 77 := (nz_fa (g4 77 (by decide) (by decide))).trans (nz_fa (p1 77 (by decide)))
    rw [h78] at a78
    have g1 : gC 50 nf nb F1 g := gC_eq hg (fun j h1 h2 => q1.2 j (by omega) (by simp))
    refine ⟨_, F4, rfl, rfl, fun h => absurd ⟨c0, c1⟩ h, fun _ => ⟨rfl, qq_on (qq_trans (qq_up q1 (by decide)) (qq_up r1' (by decide))) hb4 g4 (by decide), fun k hk hz => ?_, a78⟩⟩
    rw [l77]
    show svC nf nb _ _ (if k = v.toInt.toNat then g else H k)
    by_cases z : k = v.toInt.toNat
    · rw [if_pos z, z]
      exact svC_of hf hb r2 g1
    · rw [if_neg z]
      rw [a78, jm_upd_at, if_neg z] at hz
      refine svC_eq hf hb (hH k hk hz) (fun j h1 h2 => ?_)
      rw [r3 j (by omega), h77]
theorem j3rs_V (hB : iv_in F iv_B0) (hf : nf ≤ 7) (hb : nb ≤ 4) {H : Nat → gS} (hH : hlC nf nb F H) (v : Int32) : jm_T Ls xs 2 jm_M114 [.ref 8, .int v] (sy_dh F X1 X2 (iv_H 3)) 0 0 (pI 3 X1 X2 (fun x F' => (¬ (0 ≤ v.toInt ∧ v.toInt ≤ 2 ∧ ((sy_ai F 78).getD v.toInt.toNat 0).toInt ≠ 0) → x = 0 ∧ qC [] F F') ∧ (0 ≤ v.toInt ∧ v.toInt ≤ 2 ∧ ((sy_ai F 78).getD v.toInt.toNat 0).toInt ≠ 0 → x = 1 ∧ qC (74 :: 75 :: [50, 51, 52, 53, 54, 55, 56, 57, 58, 59, 60, 61]) F F' ∧ gC 50 nf nb F' (H v.toInt.toNat) ∧ trC nf nb F' []))) := by
  refine C_T (by decide) [v] [.inl (.ref 8), .inr (.inl 82)] jm_ok114 (by decide) rfl (fun F0 k0 ki => ?_)
  have i82 : sy_i F0 82 = v := ki 0
  refine j3rs_0 (by decide) F0 X1 X2 (hd_iveq0 hB k0) ?_ ?_ ?_ ?_
  · intro c0 F1 hb1 gg
    rw [i82] at c0
    exact ⟨_, F1, rfl, rfl, fun _ => ⟨rfl, qq_src (qq_mk hb1 gg (by decide)) k0⟩, fun h => absurd h.1 (by omega)⟩
  · intro c0 c1 F1 hb1 gg
    rw [i82] at c0 c1
    exact ⟨_, F1, rfl, rfl, fun _ => ⟨rfl, qq_src (qq_mk hb1 gg (by decide)) k0⟩, fun h => absurd h.2.1 (by omega)⟩
  · intro c0 c1 c2 F1 hb1 gg e82 j82
    rw [i82] at c0 c1 c2 e82
    rw [nz_fa (k0 78 (by decide))] at c2
    have q1 : qC [] F F1 := qq_src (qq_mk hb1 gg (by decide)) k0
    refine hd_calV (R := fun F' => qC [50, 51, 52, 53, 54, 55, 56, 57, 58, 59, 60, 61] F1 F' ∧ svR (sy_ai F1 77) (60 * v.toInt.toNat) F' 50) (nh := 82) (nv := 82) (s := 3) (s1 := 3) (d1 := 1) (M1 := jm_M10) (As := [.inl (.ref 46), .inl (.ref 68), .inr (.inl 82)]) (rest := []) jm_ok114 rfl rfl (by decide) (by decide +kernel) (j3lds_V F1 X1 X2 hb1 (by rw [e82]; omega) (by omega)) (fun F3 F' hR p1 p2 => ?_)
    obtain ⟨r1, r2⟩ := hR
    have r1' : qC [50, 51, 52, 53, 54, 55, 56, 57, 58, 59, 60, 61] F1 F3 := qC_dst r1 p1
    refine j3rs_35 (by decide) F3 X1 X2 r1'.1 ?_
    intro F4 hb4 g4 e74 j74 e75 j75
    have h77 : sy_ai F1 77 = sy_ai F 77 := qq_a q1 (by decide) (by decide)
    rw [h77] at r2
    exact ⟨_, F4, rfl, rfl, fun h => absurd ⟨c0, c1, c2⟩ h, fun _ => ⟨rfl, qq_on (qq_trans (qq_up q1 (by decide)) (qq_up r1' (by decide))) hb4 g4 (by decide), gC_eq (gC_of hf hb r2 (hH _ (by omega) c2)) (fun j h1 h2 => (g4 j (by omega) (by simp; omega)).trans (p1 j (by omega))), ⟨0, by decide, by decide, e74, e75, trivial⟩⟩⟩
  · intro c0 c1 c2 F1 hb1 gg
    rw [i82] at c0 c1 c2
    rw [nz_fa (k0 78 (by decide))] at c2
    exact ⟨_, F1, rfl, rfl, fun _ => ⟨rfl, qq_src (qq_mk hb1 gg (by decide)) k0⟩, fun h => absurd c2 h.2.2⟩
end CH3
