/-! ===== the reference: what a law tells, and asking it ===== -/
theorem hd_iveq {F F1 : Nat → sy_d} (hB : iv_in F iv_B4) (g : ∀ j, j < 69 → F1 j = F j) : iv_in F1 iv_B4 := hd_in1 hB (fun j t hj => Or.inl (g j (List.getElem?_eq_some_iff.mp hj).1))
theorem hd_dvi {F : Nat → sy_d} {k : Nat} {X : Int32} (h : F k = .inl (.int X)) : sy_dv F (.inr (.inl k)) = .int X := by
  show Value.int (sy_i F k) = _
  rw [zz_i h]
section LT
variable {Ls : Nat} {xs : Nat → Int32} (F : Nat → sy_d) (X1 X2 : List jm_c)
theorem lt_97 (F1 : Nat → sy_d) (hB : iv_in F1 iv_B4) (hf : ∀ j, j < 69 → j ≠ 17 → j ≠ 53 → F1 j = F j) {X Y : Int32} (hy : F1 71 = .inl (.int Y)) (hx : F1 72 = .inl (.int X)) (h0 : 0 ≤ X.toInt) (h1 : Y.toInt ≤ 840) (hs : rp_seg (sy_ai F 49) (sy_ai F 50) X Y) :
    hd_W Ls xs 2 jm_M180 (te_Q F X1 X2) (97, sy_dL F1 [some (.inl (.ref 1000)), some (.inr (.inl 69)), some (.inr (.inl 70)), none, none], sy_dS F1 [.inr (.inl 71), .inr (.inl 72), .inl (.ref 1000)], sy_dh F1 X1 X2 (iv_H 4), 0, 0) := by
  have e49 : sy_ai F1 49 = sy_ai F 49 := by unfold sy_ai; rw [hf 49 (by decide) (by decide) (by decide)]
  have e50 : sy_ai F1 50 = sy_ai F 50 := by unfold sy_ai; rw [hf 50 (by decide) (by decide) (by decide)]
  refine hd_calI (R := fun _ F' => iv_in F' iv_B4 ∧ ∀ j, j < 69 → j ≠ 17 → j ≠ 53 → F' j = F1 j) (nh := 69) (nv := 73) (s := 4) (s1 := 4) (d1 := 1) (M1 := jm_M166) (As := [.inl (.ref 1000), .inr (.inl 72), .inr (.inl 71)]) (rest := []) jm_ok180 rfl rfl (by decide) (by decide +kernel) (te_T F1 X1 X2 hB (hd_dvi hx) (hd_dvi hy) h0 h1 (by rw [e49, e50]; exact hs)) (fun F2 F' x hR p1 p2 p3 => ?_)
  obtain ⟨hB', hf'⟩ := hR
  have hB2 : iv_in F2 iv_B4 := hd_iveq hB' p1
  by_cases hb : (sy_i F2 17).toInt = 0
  · exact lt_100_0 (by decide) F2 X1 X2 hB2 hb (fun F3 g1 => ⟨_, F3, rfl, rfl, hd_iveq hB2 (fun j hj => g1 j hj trivial), fun j hj a b => by rw [g1 j hj trivial, p1 j hj, hf' j hj a b, hf j hj a b]⟩)
  · exact lt_100_1 (by decide) F2 X1 X2 hB2 hb (fun F3 g1 => ⟨_, F3, rfl, rfl, hd_iveq hB2 (fun j hj => g1 j hj trivial), fun j hj a b => by rw [g1 j hj trivial, p1 j hj, hf' j hj a b, hf j hj a b]⟩)
set_option maxHeartbeats 4000000 in
theorem lt_loop (hBF : iv_in F iv_B4) (hJ : jm_rpn F) {kk : Nat} (hkk : kk < 6) (hat : (sy_i F 69).toNatClampNeg = 6 * (sy_i F 11).toNatClampNeg + kk) (h12 : 0 ≤ (sy_i F 69).toInt ∧ (sy_i F 69).toInt < 12) : ∀ (n : Nat) (F1 : Nat → sy_d), iv_in F1 iv_B4 → (∀ j, j < 69 → j ≠ 17 → j ≠ 53 → F1 j = F j) → sy_i F1 69 = sy_i F 69 → ((sy_ai F 42).getD (sy_i F 69).toNatClampNeg 0).toInt ≤ (sy_i F1 70).toInt → (((sy_ai F 43).getD (sy_i F 69).toNatClampNeg 0).toInt - (sy_i F1 70).toInt).toNat = n →
    hd_W Ls xs 2 jm_M180 (te_Q F X1 X2) (12, sy_dL F1 [some (.inl (.ref 1000)), some (.inr (.inl 69)), some (.inr (.inl 70)), none, none], sy_dS F1 [], sy_dh F1 X1 X2 (iv_H 4), 0, 0) := by
  obtain ⟨l42, q42, b42⟩ := iv_h2 (hBF 42 (2, 0, 260) rfl)
  obtain ⟨l43, q43, b43⟩ := iv_h2 (hBF 43 (2, 0, 260) rfl)
  have b42 := b42 (sy_i F 69).toNatClampNeg
  have b43 := b43 (sy_i F 69).toNatClampNeg
  rw [← zz_ai q42] at b42
  rw [← zz_ai q43] at b43
  intro n
  induction n with
  | zero =>
    intro F1 hB hf e69 h1 h2
    have e43 : sy_ai F1 43 = sy_ai F 43 := by unfold sy_ai; rw [hf 43 (by decide) (by decide) (by decide)]
    exact lt_12_0 (by decide) F1 X1 X2 hB (by rw [e69]; exact h12) (by rw [e69, e43]; omega) (fun F2 g1 => ⟨_, F2, rfl, rfl, hd_iveq hB (fun j hj => g1 j hj trivial), fun j hj a b => by rw [g1 j hj trivial, hf j hj a b]⟩)
  | succ n ih =>
    intro F1 hB hf e69 h1 h2
    have ea : ∀ j, j < 69 → j ≠ 17 → j ≠ 53 → sy_ai F1 j = sy_ai F j := fun j hj a b => by unfold sy_ai; rw [hf j hj a b]
    have hb0 : 0 ≤ (sy_i F1 70).toInt ∧ (sy_i F1 70).toInt < 260 := by omega
    have hbN := hd_nat hb0.1
    have hlt : (sy_i F1 70).toInt < ((sy_ai F 43).getD (sy_i F 69).toNatClampNeg 0).toInt := by omega
    have hinc := hd_inc1 hb0.1 (by omega)
    obtain ⟨j1, j2⟩ := jm_rpn_at hJ (k := kk) (b := (sy_i F1 70).toNatClampNeg) hkk (by rw [← hat, hbN]; exact h1) (by rw [← hat, hbN]; exact hlt)
    obtain ⟨l44, q44, b44⟩ := iv_h2 (hBF 44 (2, 0, 1) rfl)
    obtain ⟨l45, q45, b45⟩ := iv_h2 (hBF 45 (2, 0, 840) rfl)
    obtain ⟨l46, q46, b46⟩ := iv_h2 (hBF 46 (2, 0, 840) rfl)
    obtain ⟨l47, q47, b47⟩ := iv_h2 (hBF 47 (2, 0, 840) rfl)
    obtain ⟨l48, q48, b48⟩ := iv_h2 (hBF 48 (2, 0, 840) rfl)
    have b44 := b44 (sy_i F1 70).toNatClampNeg
    have b45 := b45 (sy_i F1 70).toNatClampNeg
    have b46 := b46 (sy_i F1 70).toNatClampNeg
    have b47 := b47 (sy_i F1 70).toNatClampNeg
    have b48 := b48 (sy_i F1 70).toNatClampNeg
    rw [← zz_ai q44] at b44
    rw [← zz_ai q45] at b45
    rw [← zz_ai q46] at b46
    rw [← zz_ai q47] at b47
    rw [← zz_ai q48] at b48
    have o1 : 0 ≤ (sy_i F1 69).toInt ∧ (sy_i F1 69).toInt < 12 := by rw [e69]; exact h12
    have o2 : (sy_i F1 70).toInt < ((sy_ai F1 43).getD (sy_i F1 69).toNatClampNeg 0).toInt := by rw [e69, ea 43 (by decide) (by decide) (by decide)]; exact hlt
    by_cases ht : ((sy_ai F1 44).getD (sy_i F1 70).toNatClampNeg 0).toInt = 0
    · refine lt_12_1 (by decide) F1 X1 X2 hB o1 o2 hb0 ht hb0 hb0 (fun F2 g1 g2 g3 g4 g5 => ?_)
      rw [ea 48 (by decide) (by decide) (by decide)] at g4
      rw [ea 47 (by decide) (by decide) (by decide)] at g5
      exact lt_97 F X1 X2 F2 (hd_iveq hB (fun j hj => g1 j hj trivial)) (fun j hj a b => by rw [g1 j hj trivial, hf j hj a b]) g4 g5 b47.1 b48.2 j2
    · have ht1 : (sy_ai F 44).getD (sy_i F1 70).toNatClampNeg 0 = 1 := by
        rw [ea 44 (by decide) (by decide) (by decide)] at ht
        refine Int32.toInt_inj.mp ?_
        have : (1 : Int32).toInt = 1 := by decide
        rw [this]
        omega
      obtain ⟨s1, s2⟩ := j1 ht1
      refine lt_12_2 (by decide) F1 X1 X2 hB o1 o2 hb0 ht hb0 hb0 (fun F2 g1 g2 g3 g4 g5 => ?_)
      rw [ea 46 (by decide) (by decide) (by decide)] at g4
      rw [ea 45 (by decide) (by decide) (by decide)] at g5
      have f2 : ∀ j, j < 69 → j ≠ 17 → j ≠ 53 → F2 j = F j := fun j hj a b => by rw [g1 j hj trivial, hf j hj a b]
      have hB2 : iv_in F2 iv_B4 := hd_iveq hB (fun j hj => g1 j hj trivial)
      have c49 : sy_ai F2 49 = sy_ai F 49 := by unfold sy_ai; rw [f2 49 (by decide) (by decide) (by decide)]
      have c50 : sy_ai F2 50 = sy_ai F 50 := by unfold sy_ai; rw [f2 50 (by decide) (by decide) (by decide)]
      refine hd_calI (R := fun _ F' => iv_in F' iv_B4 ∧ ∀ j, j < 69 → j ≠ 17 → j ≠ 53 → F' j = F2 j) (nh := 69) (nv := 73) (s := 4) (s1 := 4) (d1 := 1) (M1 := jm_M166) (As := [.inl (.ref 1000), .inr (.inl 72), .inr (.inl 71)]) (rest := []) jm_ok180 rfl rfl (by decide) (by decide +kernel) (te_T F2 X1 X2 hB2 (hd_dvi g5) (hd_dvi g4) b45.1 b46.2 (by rw [c49, c50]; exact s1)) (fun F3 F' x hR p1 p2 p3 => ?_)
      obtain ⟨hB', hf'⟩ := hR
      have f3 : ∀ j, j < 69 → j ≠ 17 → j ≠ 53 → F3 j = F j := fun j hj a b => by rw [p1 j hj, hf' j hj a b, f2 j hj a b]
      have hB3 : iv_in F3 iv_B4 := hd_iveq hB' p1
      have i70 : sy_i F3 70 = sy_i F1 70 := by
        have : F3 70 = F2 70 := p2 70 (by decide) (by decide)
        exact zz_i (this.trans g3)
      have i69 : sy_i F3 69 = sy_i F1 69 := by
        have : F3 69 = F2 69 := p2 69 (by decide) (by decide)
        exact zz_i (this.trans g2)
      refine lt_47_0 (by decide) F3 X1 X2 hB3 (by rw [i70]; exact hb0) (by rw [i70]; exact hb0) (fun F4 k1 k2 k3 k4 k5 k6 => ?_)
      have f4 : ∀ j, j < 69 → j ≠ 17 → j ≠ 53 → F4 j = F j := fun j hj a b => by rw [k1 j hj trivial, f3 j hj a b]
      have hB4 : iv_in F4 iv_B4 := hd_iveq hB3 (fun j hj => k1 j hj trivial)
      have d49 : sy_ai F4 49 = sy_ai F 49 := by unfold sy_ai; rw [f4 49 (by decide) (by decide) (by decide)]
      have d50 : sy_ai F4 50 = sy_ai F 50 := by unfold sy_ai; rw [f4 50 (by decide) (by decide) (by decide)]
      have d47 : sy_ai F3 47 = sy_ai F 47 := by unfold sy_ai; rw [f3 47 (by decide) (by decide) (by decide)]
      have d46 : sy_ai F3 46 = sy_ai F 46 := by unfold sy_ai; rw [f3 46 (by decide) (by decide) (by decide)]
      rw [d47, i70] at k5
      rw [d46, i70] at k6
      refine hd_calI (R := fun _ F' => iv_in F' iv_B4 ∧ ∀ j, j < 69 → j ≠ 17 → j ≠ 53 → F' j = F4 j) (nh := 69) (nv := 74) (s := 4) (s1 := 4) (d1 := 1) (M1 := jm_M166) (As := [.inl (.ref 1000), .inr (.inl 73), .inr (.inl 72)]) (rest := []) jm_ok180 rfl rfl (by decide) (by decide +kernel) (te_T F4 X1 X2 hB4 (hd_dvi k6) (hd_dvi k5) b46.1 b47.2 (by rw [d49, d50]; exact s2)) (fun F5 F6 y hR2 r1 r2 r3 => ?_)
      obtain ⟨hB6, hf6⟩ := hR2
      have f5 : ∀ j, j < 69 → j ≠ 17 → j ≠ 53 → F5 j = F j := fun j hj a b => by rw [r1 j hj, hf6 j hj a b, f4 j hj a b]
      have hB5 : iv_in F5 iv_B4 := hd_iveq hB6 r1
      have m70 : sy_i F5 70 = sy_i F1 70 := by
        have : F5 70 = F4 70 := r2 70 (by decide) (by decide)
        rw [zz_i (this.trans k3)]
        exact i70
      have m69 : sy_i F5 69 = sy_i F1 69 := by
        have : F5 69 = F4 69 := r2 69 (by decide) (by decide)
        rw [zz_i (this.trans k2)]
        exact i69
      by_cases hbr : (sy_i F5 17).toInt = 0
      · by_cases huv : (sy_i F5 71).toInt < (sy_i F5 74).toInt
        · refine lt_64_0 (by decide) F5 X1 X2 hB5 hbr huv (by rw [m70]; exact hb0) (by rw [m70]; exact hb0) (fun F7 w1 w2 w3 w4 w5 => ?_)
          have e48 : sy_ai F5 48 = sy_ai F 48 := by unfold sy_ai; rw [f5 48 (by decide) (by decide) (by decide)]
          have e47 : sy_ai F5 47 = sy_ai F 47 := by unfold sy_ai; rw [f5 47 (by decide) (by decide) (by decide)]
          rw [e48, m70] at w4
          rw [e47, m70] at w5
          exact lt_97 F X1 X2 F7 (hd_iveq hB5 (fun j hj => w1 j hj trivial)) (fun j hj a b => by rw [w1 j hj trivial, f5 j hj a b]) w4 w5 b47.1 b48.2 j2
        · refine lt_64_1 (by decide) F5 X1 X2 hB5 hbr (Int.not_lt.mp huv) (fun F7 w1 w2 w3 => ?_)
          have n70 := zz_i w3
          have n69 := zz_i w2
          rw [m70] at n70
          rw [m69] at n69
          refine ih F7 (hd_iveq hB5 (fun j hj => w1 j hj trivial)) (fun j hj a b => by rw [w1 j hj trivial, f5 j hj a b]) (by rw [n69, e69]) ?_ ?_
          · rw [n70, hinc]; omega
          · rw [n70, hinc]; omega
      · exact lt_64_2 (by decide) F5 X1 X2 hB5 hbr (fun F7 w1 => ⟨_, F7, rfl, rfl, hd_iveq hB5 (fun j hj => w1 j hj trivial), fun j hj a b => by rw [w1 j hj trivial, f5 j hj a b]⟩)
end LT
