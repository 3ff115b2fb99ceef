/-! ===== the class reads: what is behind it (shape 1) ===== -/
section RV1
variable {Ls : Nat} {xs : Nat → Int32} (X1 X2 : List jm_c)
noncomputable def j1rdP (F : Nat → sy_d) (B : Nat → Int) (e : Nat) (v : Option Value) (G : jm_h) : Prop := ∃ (r : Int32) (t : Nat) (F' : Nat → sy_d), v = some (.int r) ∧ G = sy_dh F' X1 X2 (iv_H t) ∧ r.toInt = (rdA B e).1 ∧ iv_in F' iv_B0 ∧ jx_ok F' ∧ sy_al F' 42 = wls ∧ (sy_i F' 0).toInt = 0 ∧ (sy_i F' 1).toInt = (rdA B e).2 ∧ ((rdA B e).1 ≠ 0 → t = 0 ∧ ∀ j, j < 82 → j ∉ (0 :: 1 :: 39 :: 40 :: 41 :: 35 :: k0_WP) → F' j = F j) ∧ ((rdA B e).1 = 0 → t = 2 ∧ xC 18 (rdT B e) F' ∧ gC 50 (nfS (rdT B e)) (nbS (rdT B e)) F' (begS (rdT B e)) ∧ rstC 18 (rdT B e) F' ∧ (sy_i F' 75).toInt = 0 ∧ (sy_i F' 74).toInt = 0 ∧ (sy_i F' 79).toInt = 0 ∧ ∀ j, j < 3 → (sy_ai F' 78).getD j 0 = 0)
theorem j1rd_V (F : Nat → sy_d) (hB : iv_in F iv_B0) (hJ : jx_ok F) (hw : sy_al F 42 = wls) : jm_T Ls xs 29 jm_M83 [.ref 8] (sy_dh F X1 X2 (iv_H 1)) 0 0 (j1rdP X1 X2 F (ub (sy_ai F 2) (sy_i F 0).toInt.toNat) (sy_i F 0).toInt.toNat) := by
  have c0 := nz_bx hB (k := 0) (lo := 0) (hi := 2000) rfl
  refine hd_T (As := [.inl (.ref 8)]) jm_ok83 (by decide) (k1ord_0 (by decide) F X1 X2 hB ?_)
  intro F1 hb g e0 e1 e35 e79 a2 a78 f82
  have g1 : ∀ j, j < 82 → F1 j = F j := fun j hj => g j hj (by simp)
  refine hd_calI (R := fun x F' => gc (39 :: 40 :: 41 :: 35 :: k0_WP) F1 F' ∧ jx_ok F' ∧ x.toInt = (rdA (ub (sy_ai F1 2) (sy_i F 0).toInt.toNat) (sy_i F 0).toInt.toNat).1 ∧ (sy_i F' 35).toInt = (rdA (ub (sy_ai F1 2) (sy_i F 0).toInt.toNat) (sy_i F 0).toInt.toNat).2 ∧ (x.toInt = 0 → rXc 18 (rdT (ub (sy_ai F1 2) (sy_i F 0).toInt.toNat) (sy_i F 0).toInt.toNat) F' ∧ (sy_i F' 23).toInt ≤ 412)) (nh := 82) (nv := 82) (s := 1) (s1 := 0) (d1 := 28) (M1 := jm_M31) (As := [.inl (.ref 30), .inl (.ref 9), .inr (.inl 82), .inl (.ref 20)]) (rest := []) jm_ok83 rfl rfl (by decide) (by decide +kernel) (k1py_C X1 X2 F1 hb (jx_ok_eq (g1 39 (by decide)) (g1 41 (by decide)) hJ) ((nz_fl (g1 42 (by decide))).trans hw) _ (e := (sy_i F 0).toInt.toNat) (by omega) (by omega)) (fun F3 F' x hR p1 _ p3 => ?_)
  obtain ⟨r1, r2, r3, r4, r5⟩ := hR
  rw [a2] at r3 r4 r5
  have hb3 := hd_iveq0 r1.1 p1
  have m82 : (sy_i F3 82).toInt = (rdA (ub (sy_ai F 2) (sy_i F 0).toInt.toNat) (sy_i F 0).toInt.toNat).1 := by rw [zz_i p3, r3]
  have m35 : (sy_i F3 35).toInt = (rdA (ub (sy_ai F 2) (sy_i F 0).toInt.toNat) (sy_i F 0).toInt.toNat).2 := by rw [nz_fi (p1 35 (by decide)), r4]
  obtain ⟨B, eB⟩ : ∃ B, B = ub (sy_ai F 2) (sy_i F 0).toInt.toNat := ⟨_, rfl⟩
  obtain ⟨E, eE⟩ : ∃ E, E = (sy_i F 0).toInt.toNat := ⟨_, rfl⟩
  rw [← eB, ← eE] at m82 m35 r5
  rw [← eB, ← eE]
  have g3 : ∀ j, j < 82 → j ∉ (39 :: 40 :: 41 :: 35 :: k0_WP) → F3 j = F j := fun j hj hn => (p1 j hj).trans ((r1.2 j hj hn).trans (g1 j hj))
  have j3 : jx_ok F3 := jx_ok_eq (p1 39 (by decide)) (p1 41 (by decide)) r2
  have w3 : sy_al F3 42 = wls := (nz_fl (g3 42 (by decide) (by decide))).trans hw
  refine k0ord_19 (by decide) F3 X1 X2 hb3 ?_ ?_
  · intro q F4 hb4 g4 e0' e1' e35' e79' a2' a78'
    have gg : ∀ j, j < 82 → j ∉ (0 :: 1 :: 39 :: 40 :: 41 :: 35 :: k0_WP) → F4 j = F j := fun j hj hn => (g4 j hj (fun q => hn (by revert q; simp; omega))).trans (g3 j hj (fun q => hn (List.mem_cons_of_mem _ (List.mem_cons_of_mem _ q))))
    exact ⟨_, 0, F4, rfl, rfl, m82, hb4, jx_ok_eq (g4 39 (by decide) (by decide)) (g4 41 (by decide) (by decide)) j3, (nz_fl (g4 42 (by decide) (by decide))).trans w3, e0', e1'.trans m35, fun _ => ⟨rfl, gg⟩, fun z => absurd (m82.trans z) q⟩
  · intro q F4 hb4 g4 e0' e1' e35' e79' a2' a78' f82'
    have hA : (rdA B E).1 = 0 := m82.symm.trans q
    obtain ⟨x1, x2⟩ := r5 (by rw [← zz_i p3]; exact q)
    have hT : wT (rdT B E) := rdT_wf hA
    have f4 : ∀ j, j < 82 → j ≠ 0 → j ≠ 1 → F4 j = F' j := fun j hj n0 n1 => (g4 j hj (by simp; omega)).trans (p1 j hj)
    have j4 : jx_ok F4 := jx_ok_eq (g4 39 (by decide) (by decide)) (g4 41 (by decide) (by decide)) j3
    have c4 : xC 18 (rdT B E) F4 := ⟨hb4, rXc_e9 x1 (fun j h1 h2 h3 => f4 j (by omega) (by omega) (by omega)), hT, by rw [nz_fi (f4 23 (by decide) (by decide) (by decide))]; exact x2⟩
    refine hd_calV (R := fun F' => qC jw2_BE F4 F' ∧ gC 50 (nfS (rdT B E)) (nbS (rdT B E)) F' (begS (rdT B E)) ∧ rstC 18 (rdT B E) F' ∧ (sy_i F' 75).toInt = 0 ∧ (sy_i F' 74).toInt = 0 ∧ (sy_i F' 79).toInt = 0 ∧ ∀ j, j < 3 → (sy_ai F' 78).getD j 0 = 0) (nh := 82) (nv := 83) (s := 2) (s1 := 2) (d1 := 8) (M1 := jm_M117) (As := [.inl (.ref 8)]) (rest := []) jm_ok83 rfl rfl (by decide) (by decide +kernel) (j2be_V F4 X1 X2 c4 j4) (fun F5 F6 hR6 p5 u5 => ?_)
    obtain ⟨y1, y2, y3, y4, y5, y6, y7⟩ := hR6
    have n82 := nz_fi (u5 82 (by decide) (by decide))
    refine k2ord_62 (by decide) F5 X1 X2 (hd_iveq0 y1.1 p5) ?_
    intro F7 hb7 g7 e0'' e1'' e79'' a2'' a78''
    have p7 : ∀ j, j < 82 → F7 j = F6 j := fun j hj => (g7 j hj (by simp)).trans (p5 j hj)
    have q7 : qC jw2_BE F4 F7 := qC_dst y1 p7
    refine ⟨_, 2, F7, rfl, rfl, ?_, hb7, jx_ok_eq (q7.2 39 (by decide) (by decide)) (q7.2 41 (by decide) (by decide)) j4, ?_, ?_, ?_, fun z => absurd hA z, fun _ => ⟨rfl, xC_q (by decide) c4 q7 (by decide), gC_eq y2 (fun j h1 h2 => p7 j (by omega)), fun f hf => ?_, ?_, ?_, ?_, fun j hj => ?_⟩⟩
    · show (sy_i F5 82).toInt = _
      rw [n82, f82']
      exact m82
    · rw [nz_fl (q7.2 42 (by decide) (by decide)), nz_fl (g4 42 (by decide) (by decide))]
      exact w3
    · rw [nz_fi (q7.2 0 (by decide) (by decide))]
      exact e0'
    · rw [nz_fi (q7.2 1 (by decide) (by decide))]
      exact e1'.trans m35
    · rw [nz_fa (p7 (18 + 9) (by decide))]
      exact y3 f hf
    · rw [nz_fi (p7 75 (by decide))]
      exact y4
    · rw [nz_fi (p7 74 (by decide))]
      exact y5
    · rw [nz_fi (p7 79 (by decide))]
      exact y6
    · rw [nz_fa (p7 78 (by decide))]
      exact y7 j hj
end RV1
