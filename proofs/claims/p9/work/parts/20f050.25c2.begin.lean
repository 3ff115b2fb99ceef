/-! ===== the class begins a text (shape 2) ===== -/
section BG2
variable {Ls : Nat} {xs : Nat → Int32} {T : tX} (F : Nat → sy_d) (X1 X2 : List jm_c)
theorem j2gb_V (hC : xC 18 T F) : jm_T Ls xs 2 jm_M7 [.ref 46, .ref 20] (sy_dh F X1 X2 (iv_H 2)) 0 0 (pV 2 X1 X2 (fun F' => qC [50, 51, 52, 53, 54, 55, 56, 57, 58, 59, 60, 61] F F' ∧ gC 50 (nfS T) (nbS T) F' (begS T))) := by
  have l7 : nfS T ≤ 7 := hC.2.2.1.1.1
  have l4 : nbS T ≤ 4 := hC.2.2.1.1.2.1
  refine hd_T (As := [.inl (.ref 46), .inl (.ref 20)]) jm_ok7 (by decide) (j2gb_0 (by decide) F X1 X2 hC.1 ?_)
  intro F1 hb gg e50 i50 e51 i51 e52 i52 a53 a54 a55 a56 a57 a58 a59 a60 a61
  refine ⟨F1, rfl, rfl, qq_mk hb gg (by decide), ⟨nine9 (p := fun a => ∀ i, a ≤ 8 → vlS (nfS T) (nbS T) a i → (sy_ai F1 (50 + ca a)).getD i 0 = begS T a i) ?_ ?_ ?_ ?_ ?_ ?_ ?_ ?_ ?_ |> fun h a i ha hv => h a ha i ha hv, fun i hi => ?_⟩⟩
  · intro i _ hv
    obtain ⟨h1, h2⟩ := vF7 l7 (by decide) hv
    show (sy_ai F1 59).getD i 0 = _
    rw [a59]
    exact cpy_at.trans ((if_pos h1).trans (xX_f hC h2).1)
  · intro i _ hv
    obtain ⟨h1, h2⟩ := vF7 l7 (by decide) hv
    show (sy_ai F1 53).getD i 0 = _
    rw [a53]
    exact cpy_at.trans ((if_pos h1).trans (xX_f hC h2).2.2)
  · intro i _ hv
    show (sy_ai F1 54).getD i 0 = _
    rw [a54]
    exact fil7 (vF7 l7 (by decide) hv).1
  · intro i _ hv
    show (sy_ai F1 55).getD i 0 = _
    rw [a55]
    exact fil7 (vF7 l7 (by decide) hv).1
  · intro i _ hv
    show (sy_ai F1 56).getD i 0 = _
    rw [a56]
    exact fil7 (vF7 l7 (by decide) hv).1
  · intro i _ hv
    show (sy_ai F1 57).getD i 0 = _
    rw [a57]
    exact fil7 (vF7 l7 (by decide) hv).1
  · intro i _ hv
    show (sy_ai F1 58).getD i 0 = _
    rw [a58]
    exact fil7 (vF7 l7 (by decide) hv).1
  · intro i _ hv
    obtain ⟨h1, h2⟩ := vB4 l4 (by decide) hv
    show (sy_ai F1 60).getD i 0 = _
    rw [a60]
    exact cpy_at.trans ((if_pos h1).trans (xX_b hC h2).1)
  · intro i _ hv
    obtain ⟨h1, h2⟩ := vB4 l4 (by decide) hv
    show (sy_ai F1 61).getD i 0 = _
    rw [a61]
    exact cpy_at.trans ((if_pos h1).trans (xX_b hC h2).2.2)
  · match i, hi with
    | 0, _ => exact i50
    | 1, _ => exact i51
    | 2, _ => exact i52
theorem j2sr_L (hC : xC 18 T F) : ∀ (m : Nat) (F1 : Nat → sy_d) (n : Nat), n + m = nfS T → qC [45, 46, 27] F F1 → (sy_i F1 82).toInt = n → v45 F1 2 = 0 → v45 F1 8 = Int32.ofInt (nfS T) → (∀ f, f < n → (sy_ai F1 27).getD f 0 = rsS T f) →
    hd_W Ls xs 6 jm_M19 (pV 2 X1 X2 (fun F' => qC [45, 46, 27] F F' ∧ rstC 18 T F')) (12, sy_dL F1 [some (.inl (.ref 38)), some (.inl (.ref 20)), some (.inr (.inl 82))], sy_dS F1 [], sy_dh F1 X1 X2 (iv_H 2), 0, 0) := by
  have l7 : nfS T ≤ 7 := hC.2.2.1.1.1
  have enf : (sy_i F 18).toInt = (nfS T : Int) := hC.2.1.1.1
  intro m
  induction m with
  | zero =>
    intro F1 n hm hq e82 v2 v8 hr
    have en1 : (sy_i F1 18).toInt = (nfS T : Int) := by rw [qq_i hq (by decide) (by decide)]; exact enf
    refine j2sr_12 (by decide) F1 X1 X2 hq.1 (by omega) ?_ ?_
    · intro c0 F2 hb gg
      refine ⟨F2, rfl, rfl, qq_on hq hb gg (by decide), fun f hf => ?_⟩
      show (sy_ai F2 27).getD f 0 = _
      rw [nz_fa (gg 27 (by decide) (by decide))]
      exact hr f (by omega)
    · intros
      omega
  | succ m ih =>
    intro F1 n hm hq e82 v2 v8 hr
    have hn : n < nfS T := by omega
    have enn : (sy_i F1 82).toInt.toNat = n := by omega
    have en1 : (sy_i F1 18).toInt = (nfS T : Int) := by rw [qq_i hq (by decide) (by decide)]; exact enf
    refine j2sr_12 (by decide) F1 X1 X2 hq.1 (by omega) ?_ ?_
    · intros
      omega
    · intro c0 F2 hb gg a45 e82' j82
      rw [enn] at a45
      have q2 : qC [45, 46, 27] F F2 := qq_on hq hb gg (by decide)
      have c1 := xC_q (by decide) hC hq (by decide)
      have c2 := xC_q (by decide) hC q2 (by decide)
      obtain ⟨x1, x2, x3⟩ := xX_f c1 hn
      rw [show (sy_ai F1 24).getD n 0 = _ from x1, show (sy_ai F1 25).getD n 0 = _ from x2, show (sy_ai F1 26).getD n 0 = _ from x3] at a45
      have key : ∀ j : Nat, v45 F2 j = if j = (4 : Int).toNat then Int32.ofInt (tF T n).1 else if j = (1 : Int).toNat then Int32.ofInt (tF T n).2.1 else if j = (0 : Int).toNat then Int32.ofInt (tF T n).2.2 else v45 F1 j := fun j => by
        show (sy_ai F2 45).getD j 0 = _
        rw [a45, jm_upd_at, jm_upd_at, jm_upd_at]
        rfl
      have hbn : lwT T 4 (v45 F2) = bncT T n (Int32.ofInt (tF T n).2.2) 0 (Int32.ofInt (nfS T)) := lwT_cg hC.2.2.1 (nine9 (fun _ => (key 0).trans rfl) (fun _ => (key 1).trans rfl) (fun _ => (key 2).trans v2) (fun t => absurd t (by decide)) (fun _ => (key 4).trans rfl) (fun t => absurd t (by decide)) (fun t => absurd t (by decide)) (fun t => absurd t (by decide)) (fun _ => (key 8).trans v8))
      have en2 : (sy_i F2 82).toInt.toNat = n := by omega
      refine hd_calI (R := fun x F' => qC [46] F2 F' ∧ x = Int32.ofInt (hdz 0 9 (Int32.ofInt (tF T (sy_i F2 82).toInt.toNat).1 + Int32.ofInt (lwT T 4 (v45 F2))).toInt)) (nh := 82) (nv := 83) (s := 2) (s1 := 2) (d1 := 5) (M1 := jm_M20) (As := [.inl (.ref 38), .inl (.ref 20), .inr (.inl 82)]) (rest := [.inr (.inl 82), .inl (.ref 24)]) jm_ok19 rfl rfl (by decide) (by decide +kernel) (j2bo_V F2 X1 X2 c2 (by omega)) (fun F3 F' x hR p1 p2 p3 => ?_)
      obtain ⟨r1, r2⟩ := hR
      rw [en2, hbn] at r2
      have r1' : qC [46] F2 F3 := qC_dst r1 p1
      have q3 : qC [45, 46, 27] F F3 := qq_trans q2 (qq_up r1' (by decide))
      have k82 : (sy_i F3 82).toInt = n := by rw [nz_fi (p2 82 (by decide) (by decide))]; omega
      have ev : v45 F3 = v45 F2 := by unfold v45; rw [qq_a r1' (by decide) (by decide)]
      refine j2sr_67 (by decide) F3 X1 X2 q3.1 (by omega) ?_
      intro F4 hb4 g4 a12 e82a j82a
      have ev4 : v45 F4 = v45 F2 := by rw [← ev]; unfold v45; rw [nz_fa (g4 45 (by decide) (by decide))]
      refine ih F4 (n + 1) (by omega) (qq_on q3 hb4 g4 (by decide)) (by omega) (by rw [ev4]; exact (key 2).trans v2) (by rw [ev4]; exact (key 8).trans v8) (fun f hf => ?_)
      rw [a12, jm_upd_at, show (sy_i F3 82).toInt.toNat = n by omega]
      by_cases z : f = n
      · rw [if_pos z, zz_i p3, r2, z]
        rfl
      · rw [if_neg z, qq_a r1' (by decide) (by decide), nz_fa (gg 27 (by decide) (by decide))]
        exact hr f (by omega)
theorem j2sr_V (hC : xC 18 T F) : jm_T Ls xs 6 jm_M19 [.ref 38, .ref 20] (sy_dh F X1 X2 (iv_H 2)) 0 0 (pV 2 X1 X2 (fun F' => qC [45, 46, 27] F F' ∧ rstC 18 T F')) := by
  have enf : (sy_i F 18).toInt = (nfS T : Int) := hC.2.1.1.1
  refine C_T (by decide) [] [.inl (.ref 38), .inl (.ref 20)] jm_ok19 (by decide) rfl (fun F0 k0 ki => ?_)
  refine j2sr_0 (by decide) F0 X1 X2 (hd_iveq0 hC.1 k0) ?_
  intro F1 hb gg e82 j82
  have q1 : qC [] F F1 := qq_src (qq_mk hb gg (by decide)) k0
  have i82 : sy_i F1 82 = Int32.ofInt (nfS T) := by rw [j82, eI (k0 18 (by decide))]; exact (ofi enf).symm
  refine hd_calV (R := fun F' => qC [45, 46] F1 F' ∧ v45 F' 2 = 0 ∧ v45 F' 8 = sy_i F1 82 ∧ v45 F' 3 = Int32.ofInt (windT T 0 (sy_i F1 82))) (nh := 82) (nv := 82) (s := 2) (s1 := 2) (d1 := 5) (M1 := jm_M17) (As := [.inl (.ref 38), .inl (.ref 20), .inl (.int 0), .inr (.inl 82)]) (rest := []) jm_ok19 rfl rfl (by decide) (by decide +kernel) (j2sh_V F1 X1 X2 (xC_q (by decide) hC q1 (by decide)) _ _) (fun F3 F' hR p1 p2 => ?_)
  obtain ⟨s1, s2, s3, -⟩ := hR
  rw [i82] at s3
  have q3 : qC [45, 46, 27] F F3 := qq_trans (qq_up q1 (by decide)) (qq_up (qC_dst s1 p1) (by decide))
  have ev3 : v45 F3 = v45 F' := by unfold v45; rw [nz_fa (p1 45 (by decide))]
  refine j2sr_10 (by decide) F3 X1 X2 q3.1 ?_
  intro F4 hb4 g4 e82a j82a
  have ev4 : v45 F4 = v45 F' := by rw [← ev3]; unfold v45; rw [nz_fa (g4 45 (by decide) (by decide))]
  exact j2sr_L F X1 X2 hC (nfS T) F4 0 (by omega) (qq_on q3 hb4 g4 (by decide)) e82a (by rw [ev4]; exact s2) (by rw [ev4]; exact s3) (fun f hf => absurd hf (by omega))
abbrev jw2_BE : List Nat := [45, 46, 27, 50, 51, 52, 53, 54, 55, 56, 57, 58, 59, 60, 61, 74, 75, 77, 78, 79]
theorem j2be_V (hC : xC 18 T F) (hJ : jx_ok F) : jm_T Ls xs 8 jm_M117 [.ref 8] (sy_dh F X1 X2 (iv_H 2)) 0 0 (pV 2 X1 X2 (fun F' => qC jw2_BE F F' ∧ gC 50 (nfS T) (nbS T) F' (begS T) ∧ rstC 18 T F' ∧ (sy_i F' 75).toInt = 0 ∧ (sy_i F' 74).toInt = 0 ∧ (sy_i F' 79).toInt = 0 ∧ ∀ j, j < 3 → (sy_ai F' 78).getD j 0 = 0)) := by
  refine hd_T (As := [.inl (.ref 8)]) jm_ok117 (by decide) (j2be_0 (by decide) F X1 X2 hC.1 ?_)
  intro F1 hb gg
  have q1 : qC [] F F1 := qq_mk hb gg (by decide)
  refine hd_calV (R := fun F' => qC [50, 51, 52, 53, 54, 55, 56, 57, 58, 59, 60, 61] F1 F' ∧ gC 50 (nfS T) (nbS T) F' (begS T)) (nh := 82) (nv := 82) (s := 2) (s1 := 2) (d1 := 2) (M1 := jm_M7) (As := [.inl (.ref 46), .inl (.ref 20)]) (rest := []) jm_ok117 rfl rfl (by decide) (by decide +kernel) (j2gb_V F1 X1 X2 (xC_q (by decide) hC q1 (by decide))) (fun F3 F' hR p1 p2 => ?_)
  obtain ⟨r1, r2⟩ := hR
  have q3 : qC jw2_BE F F3 := qq_trans (qq_up q1 (by decide)) (qq_up (qC_dst r1 p1) (by decide))
  have g3 : gC 50 (nfS T) (nbS T) F3 (begS T) := gC_eq r2 (fun j h1 h2 => p1 j (by omega))
  refine j2be_11 (by decide) F3 X1 X2 q3.1 ?_
  intro F4 hb4 g4
  have q4' : qC jw2_BE F F4 := qq_on q3 hb4 g4 (by decide)
  refine hd_calV (R := fun F' => qC [45, 46, 27] F4 F' ∧ rstC 18 T F') (nh := 82) (nv := 82) (s := 2) (s1 := 2) (d1 := 6) (M1 := jm_M19) (As := [.inl (.ref 38), .inl (.ref 20)]) (rest := []) jm_ok117 rfl rfl (by decide) (by decide +kernel) (j2sr_V F4 X1 X2 (xC_q (by decide) hC q4' (by decide))) (fun F5 F6 hR2 u1 u2 => ?_)
  obtain ⟨s1, s2⟩ := hR2
  have s1' : qC [45, 46, 27] F4 F5 := qC_dst s1 u1
  have q5 : qC jw2_BE F F5 := qq_trans q4' (qq_up s1' (by decide))
  have g5 : gC 50 (nfS T) (nbS T) F5 (begS T) := gC_eq g3 (fun j h1 h2 => (s1'.2 j (by omega) (by intro z; simp at z; omega)).trans (g4 j (by omega) (by simp)))
  refine j2be_22 (by decide) F5 X1 X2 q5.1 ?_
  intro F7 hb7 g7 e74 i74 e75 i75
  have q7 : qC jw2_BE F F7 := qq_on q5 hb7 g7 (by decide)
  have j7 : jx_ok F7 := jx_ok_eq (q7.2 39 (by decide) (by decide)) (q7.2 41 (by decide) (by decide)) hJ
  refine hd_calV (R := fun F' => iv_in F' iv_B0 ∧ (∀ j, j < 82 → ([77] : List Nat).contains j = false → F' j = F7 j) ∧ jx_ok F') (nh := 82) (nv := 82) (s := 2) (s1 := 2) (d1 := 1) (M1 := jm_M254) (As := [.inl (.ref 68), .inl (.int 0)]) (rest := []) jm_ok117 rfl rfl (by decide) (by decide +kernel) (jm_T_mono (oct_c (n := 254) (A := [.inl (.ref 68), .inr (.inl 82)]) (E := iv_B0 ++ [(0, 0, 0)]) ok_2_254_68 rfl (by decide) F7 (fun _ => .inl (.int 0)) X1 X2 rfl (iv_app rfl (iv_in_eq q7.1 (fun j hj => ny_lt j hj)) ⟨⟨rfl, by decide, by decide⟩, trivial⟩) j7) (fun v G h => by obtain ⟨F', h1, h2, h3, h4, h5⟩ := h; exact ⟨F', h1, h2, h3, h4, h5⟩)) (fun F8 F9 hR3 w1 w2 => ?_)
  obtain ⟨v1, v2, v3⟩ := hR3
  have q8' : qC [77] F7 F8 := qC_dst ⟨v1, fun j hj hn => v2 j hj (by simpa using hn)⟩ w1
  have q8 : qC jw2_BE F F8 := qq_trans q7 (qq_up q8' (by decide))
  refine j2be_37 (by decide) F8 X1 X2 q8.1 ?_
  intro F10 hb10 g10 a78 e79 i79
  have f10 : ∀ j, j < 82 → j ∉ ([77, 78, 79] : List Nat) → F10 j = F7 j := fun j hj hn => (g10 j hj (by intro z; apply hn; simp at z ⊢; omega)).trans (q8'.2 j hj (by intro z; apply hn; simp at z ⊢; omega))
  refine ⟨F10, rfl, rfl, qq_on q8 hb10 g10 (by decide), gC_eq g5 (fun j h1 h2 => (f10 j (by omega) (by intro z; simp at z; omega)).trans (g7 j (by omega) (by intro z; simp at z; omega))), fun f hf => ?_, ?_, ?_, e79, fun j hj => ?_⟩
  · show (sy_ai F10 27).getD f 0 = _
    rw [nz_fa (f10 27 (by decide) (by decide)), nz_fa (g7 27 (by decide) (by decide)), nz_fa (u1 27 (by decide))]
    exact s2 f hf
  · rw [nz_fi (f10 75 (by decide) (by decide))]
    exact e75
  · rw [nz_fi (f10 74 (by decide) (by decide))]
    exact e74
  · rw [a78, jm_upd_at, jm_upd_at, jm_upd_at]
    match j, hj with
    | 0, _ => rfl
    | 1, _ => rfl
    | 2, _ => rfl
end BG2
