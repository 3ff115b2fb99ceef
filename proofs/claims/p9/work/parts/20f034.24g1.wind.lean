/-! ===== the class: wind, and where it bounces to (shape 1) ===== -/
section WB1
variable {Ls : Nat} {xs : Nat → Int32} {T : tX} (F : Nat → sy_d) (X1 X2 : List jm_c)
theorem j1tl_V (hC : xC 3 T F) {a : Int32} {k : Nat} (hk : k < 6) (ha : a.toInt = k) : jm_T Ls xs 4 jm_M21 [.ref 38, .ref 10, .int a] (sy_dh F X1 X2 (iv_H 1)) 0 0 (pI 1 X1 X2 (fun x F' => qC [46] F F' ∧ x.toInt = lwT T k (v45 F))) := j1to_V F X1 X2 hC.1 hC.2.1 hC.2.2.1 hC.2.2.2 hk ha
theorem j1sh_V (hC : xC 3 T F) (h l : Int32) : jm_T Ls xs 5 jm_M17 [.ref 38, .ref 10, .int h, .int l] (sy_dh F X1 X2 (iv_H 1)) 0 0 (pV 1 X1 X2 (fun F' => qC [45, 46] F F' ∧ v45 F' 2 = h ∧ v45 F' 8 = l ∧ v45 F' 3 = Int32.ofInt (windT T h l))) := by
  refine C_T (by decide) [h, l] [.inl (.ref 38), .inl (.ref 10), .inr (.inl 82), .inr (.inl 83)] jm_ok17 (by decide) rfl (fun F0 k0 ki => ?_)
  have i82 : sy_i F0 82 = h := ki 0
  have i83 : sy_i F0 83 = l := ki 1
  refine j1sh_0 (by decide) F0 X1 X2 (hd_iveq0 hC.1 k0) ?_
  intro F1 hb gg a45
  have q1 : qC [45, 46] F F1 := qq_src (qq_mk hb gg (by decide)) k0
  rw [i82, i83] at a45
  have c1 := xC_q (by decide) hC q1 (by decide)
  have k2 : v45 F1 2 = h := by
    show (sy_ai F1 45).getD 2 0 = h
    rw [a45, jm_upd_at, jm_upd_at]
    rfl
  have k8 : v45 F1 8 = l := by
    show (sy_ai F1 45).getD 8 0 = l
    rw [a45, jm_upd_at]
    rfl
  refine hd_calI (R := fun x F' => qC [46] F1 F' ∧ x.toInt = lwT T 0 (v45 F1)) (nh := 82) (nv := 82) (s := 1) (s1 := 1) (d1 := 4) (M1 := jm_M21) (As := [.inl (.ref 38), .inl (.ref 10), .inl (.int 0)]) (rest := [.inl (.int 3), .inl (.ref 39)]) jm_ok17 rfl rfl (by decide) (by decide +kernel) (j1tl_V F1 X1 X2 c1 (by decide) (by decide)) (fun F3 F' x hR p1 p2 p3 => ?_)
  obtain ⟨r1, r2⟩ := hR
  have q3 : qC [45, 46] F F3 := qq_trans q1 (qq_up (qC_dst r1 p1) (by decide))
  have e45 : sy_ai F3 45 = sy_ai F1 45 := (nz_fa (p1 45 (by decide))).trans (qq_a r1 (by decide) (by decide))
  refine j1sh_26 (by decide) F3 X1 X2 q3.1 ?_
  intro F4 hb4 g4 a45'
  have key : ∀ j : Nat, v45 F4 j = if j = (3 : Int).toNat then x else v45 F1 j := fun j => by
    show (sy_ai F4 45).getD j 0 = _
    rw [a45', jm_upd_at, e45, zz_i p3]
    rfl
  refine ⟨F4, rfl, rfl, qq_on q3 hb4 g4 (by decide), by rw [key]; exact k2, by rw [key]; exact k8, ?_⟩
  have e : lwT T 0 (v45 F1) = windT T h l := lwT_cg hC.2.2.1 (nine9 (fun t => absurd t (by decide)) (fun t => absurd t (by decide)) (fun _ => k2) (fun t => absurd t (by decide)) (fun t => absurd t (by decide)) (fun t => absurd t (by decide)) (fun t => absurd t (by decide)) (fun t => absurd t (by decide)) (fun _ => k8))
  rw [key, ← e]
  exact (ofi r2).symm
theorem j1bo_V (hC : xC 3 T F) {f : Int32} (hf : 0 ≤ f.toInt ∧ f.toInt < nfS T) : jm_T Ls xs 5 jm_M20 [.ref 38, .ref 10, .int f] (sy_dh F X1 X2 (iv_H 1)) 0 0 (pI 1 X1 X2 (fun x F' => qC [46] F F' ∧ x = Int32.ofInt (hdz 0 9 (Int32.ofInt (tF T f.toInt.toNat).1 + Int32.ofInt (lwT T 4 (v45 F))).toInt))) := by
  have l7 : nfS T ≤ 7 := hC.2.2.1.1.1
  refine C_T (by decide) [f] [.inl (.ref 38), .inl (.ref 10), .inr (.inl 82)] jm_ok20 (by decide) rfl (fun F0 k0 ki => ?_)
  have i82 : sy_i F0 82 = f := ki 0
  refine j1bo_0 (by decide) F0 X1 X2 (hd_iveq0 hC.1 k0) (by rw [i82]; omega) ?_
  intro F1 hb gg e82 j82
  have q1 : qC [] F F1 := qq_src (qq_mk hb gg (by decide)) k0
  have j82 : sy_i F1 82 = Int32.ofInt (tF T f.toInt.toNat).1 := by
    rw [j82, i82, nz_fa (k0 9 (by decide))]
    exact (xX_f hC (show f.toInt.toNat < nfS T by omega)).1
  refine hd_calI (R := fun x F' => qC [46] F1 F' ∧ x.toInt = lwT T 4 (v45 F1)) (nh := 82) (nv := 83) (s := 1) (s1 := 1) (d1 := 4) (M1 := jm_M21) (As := [.inl (.ref 38), .inl (.ref 10), .inl (.int 4)]) (rest := [.inr (.inl 82)]) jm_ok20 rfl rfl (by decide) (by decide +kernel) (j1tl_V F1 X1 X2 (xC_q (by decide) hC q1 (by decide)) (by decide) (by decide)) (fun F3 F' x hR p1 p2 p3 => ?_)
  obtain ⟨r1, r2⟩ := hR
  have ev : v45 F1 = v45 F := by unfold v45; rw [qq_a q1 (by decide) (by decide)]
  rw [ev] at r2
  have q3 : qC [46] F F3 := qq_trans (qq_up q1 (by decide)) (qC_dst r1 p1)
  have k82 : sy_i F3 82 = Int32.ofInt (tF T f.toInt.toNat).1 := (eI (p2 82 (by decide) (by decide))).trans j82
  have k83 : sy_i F3 83 = Int32.ofInt (lwT T 4 (v45 F)) := by rw [zz_i p3]; exact (ofi r2).symm
  refine j1bo_12 (by decide) F3 X1 X2 q3.1 ?_ ?_ ?_
  · intro c0 c1 F4 hb4 g4
    refine ⟨_, F4, rfl, rfl, qq_on q3 hb4 g4 (by decide), ?_⟩
    rw [k82, k83] at c0 c1 ⊢
    have hz : hdz 0 9 (Int32.ofInt (tF T f.toInt.toNat).1 + Int32.ofInt (lwT T 4 (v45 F))).toInt = (Int32.ofInt (tF T f.toInt.toNat).1 + Int32.ofInt (lwT T 4 (v45 F))).toInt := by
      unfold hdz
      rw [if_neg (by omega), if_neg (by omega)]
    rw [hz, Int32.ofInt_toInt]
  · intro c0 c1 F4 hb4 g4
    refine ⟨_, F4, rfl, rfl, qq_on q3 hb4 g4 (by decide), ?_⟩
    rw [k82, k83] at c0 c1
    have hz : hdz 0 9 (Int32.ofInt (tF T f.toInt.toNat).1 + Int32.ofInt (lwT T 4 (v45 F))).toInt = 0 := by
      unfold hdz
      split
      · rfl
      · rw [if_neg (by omega)]
        omega
    rw [hz]
    rfl
  · intro c0 F4 hb4 g4
    refine ⟨_, F4, rfl, rfl, qq_on q3 hb4 g4 (by decide), ?_⟩
    rw [k82, k83] at c0
    have hz : hdz 0 9 (Int32.ofInt (tF T f.toInt.toNat).1 + Int32.ofInt (lwT T 4 (v45 F))).toInt = 9 := by
      unfold hdz
      rw [if_neg (by omega)]
      split
      · rfl
      · omega
    rw [hz]
    rfl
end WB1
